abbrev rm_Pairs_productOf : Room := { frames := 1, cells := 0, slots := 0, locals := 22 }
abbrev wd_Pairs_productOf : List Cond := .code y_Pairs_productOf b_Pairs_productOf 2 (some .int) :: ct_G
def f_Pairs_productOf (pp : Int32) (qq : Int32) : Option (Int32) := (if pp < 0 ∨ 15 ≤ pp.toNatClampNeg then none else (if qq < 0 ∨ 15 ≤ qq.toNatClampNeg then none else (if pp < 0 ∨ 15 ≤ pp.toNatClampNeg then none else (if qq < 0 ∨ 15 ≤ qq.toNatClampNeg then none else ((f_Sq_powerAt ((pwA pp.toNatClampNeg) + (pwA qq.toNatClampNeg)) ((pwB pp.toNatClampNeg) + (pwB qq.toNatClampNeg))).bind (fun r_1 => some r_1))))))
set_option maxHeartbeats 4000000 in
set_option maxRecDepth 100000 in
theorem w_Pairs_productOf {p : Program} {l : Launch} {e : Env} {s : State} {m : MethodId} {args : Array Value} {below : List Frame} {meth : Method} {c : Code} {D : va_G} {cI cL cZ : ClassId} {tA tB : Nat} {A : Nat → Prop}  {pp : Int32} {qq : Int32} {o_r : Int32} (cx : ct_Cx p s m args meth c b_Pairs_productOf 2 (some .int) R_Pairs wd_Pairs_productOf D (ct_tys cI cL cZ) tA tB A) (h : f_Pairs_productOf pp qq = some o_r) : ∀ (H : Heap) (locs : List Loc), va_P D vwCl [] H → va_D A [] → va_S A s.heap H locs → ∀ ls : Array Slot, lv_has ls 2 [(0, .int pp), (1, .int qq)] → W p l e (headSpec wd_Pairs_productOf rm_Pairs_productOf).room s m args below meth c H locs 0 0 (MQ below (ct_Qi D [] A o_r) args s 0 0 A) (F0 m 0 ls []) := by
  obtain ⟨hx, hb, hr, hml, hown, hts, hK, hA, hT, hlocks, hZA, hZB, hTA, hTB, hnw⟩ := id cx
  intro H locs hP hD hS ls hl
  rw [f_Pairs_productOf] at h
  refine va_getsN hx hb hZA hS hown (ct_nest_use n_5 hnw) (fun _ h9 => h9) d_Pairs_productOf_0 ?_
  refine lv_iload_n hx hb d_Pairs_productOf_3 rfl (lv_at hl 0 rfl) ?_
  obtain ⟨hin, h⟩ := ct_chk h
  refine va_ti hx hb hTA hS hin (v := .int (pwA pp.toNatClampNeg)) rfl d_Pairs_productOf_4 ?_
  refine va_getsN hx hb hZA hS hown (ct_nest_use n_5 hnw) (fun _ h9 => h9) d_Pairs_productOf_5 ?_
  refine lv_iload_n hx hb d_Pairs_productOf_8 rfl (lv_at hl 1 rfl) ?_
  obtain ⟨hin, h⟩ := ct_chk h
  refine va_ti hx hb hTA hS hin (v := .int (pwA qq.toNatClampNeg)) rfl d_Pairs_productOf_9 ?_
  refine lv_iadd hx hb d_Pairs_productOf_10 ?_
  refine va_getsN hx hb hZB hS hown (ct_nest_use n_6 hnw) (fun _ h9 => h9) d_Pairs_productOf_11 ?_
  refine lv_iload_n hx hb d_Pairs_productOf_14 rfl (lv_at hl 0 rfl) ?_
  obtain ⟨hin, h⟩ := ct_chk h
  refine va_ti hx hb hTB hS hin (v := .int (pwB pp.toNatClampNeg)) rfl d_Pairs_productOf_15 ?_
  refine va_getsN hx hb hZB hS hown (ct_nest_use n_6 hnw) (fun _ h9 => h9) d_Pairs_productOf_16 ?_
  refine lv_iload_n hx hb d_Pairs_productOf_19 rfl (lv_at hl 1 rfl) ?_
  obtain ⟨hin, h⟩ := ct_chk h
  refine va_ti hx hb hTB hS hin (v := .int (pwB qq.toNatClampNeg)) rfl d_Pairs_productOf_20 ?_
  refine lv_iadd hx hb d_Pairs_productOf_21 ?_
  obtain ⟨r_1, ho, h⟩ := Option.bind_eq_some_iff.mp h
  refine ct_calli (wc := []) (wr := []) (wc' := []) (ws' := []) (va_runSN (As := [.int ((pwA pp.toNatClampNeg) + (pwA qq.toNatClampNeg)), .int ((pwB pp.toNatClampNeg) + (pwB qq.toNatClampNeg))]) (rest := []) ⟨hx, hb, hml, hown, hts⟩ (c_Sq_powerAt l D cI cL cZ tA tB H.size ((pwA pp.toNatClampNeg) + (pwA qq.toNatClampNeg)) ((pwB pp.toNatClampNeg) + (pwB qq.toNatClampNeg)) r_1 _ rfl ho) ⟨va_cnB 2 hts (ct_good k_43) rfl rfl rfl (ct_nest_use n_7 hnw) (hts _ (ct_in k_20)) (by decide +kernel) ⟨Nat.le_of_ble_eq_true rfl, Nat.le_of_ble_eq_true rfl⟩, hts _ (ct_in k_44), trivial⟩ (ct_preS (wc := []) hP hD hK hS hA hT [] rfl (by decide)) rfl rfl hl.1 rfl (lv_room (Nat.le_of_ble_eq_true rfl)) d_Pairs_productOf_22 ⟨Nat.zero_le _, Nat.zero_le _⟩) hP hD hS hA [] [] rfl rfl (by decide) (by decide) [] rfl (by decide) (fun H locs hP hD hS => ?_)
  cases h
  exact W.iret hx hb hr (fun t ht hW => ⟨⟨_, (), rfl, rfl, by rw [ht]; exact hP, hD⟩, hS.F ht⟩) hS.2.2 d_Pairs_productOf_25
set_option maxHeartbeats 4000000 in
set_option maxRecDepth 100000 in
theorem c_Pairs_productOf (l : Launch) (D : va_G) (cI cL cZ : ClassId) (tA tB sz : Nat)  (pp : Int32) (qq : Int32) (o_r : Int32) (A : Nat → Prop) (hAe : A = va_A [] sz) (h : f_Pairs_productOf pp qq = some o_r) : Met l y_Pairs_productOf wd_Pairs_productOf rm_Pairs_productOf (ct_Pre D (ct_tys cI cL cZ) tA tB [] sz [.int pp, .int qq]) (ct_Qi D [] A o_r) 0 0 A := by
  refine Met.ofW (cc := b_Pairs_productOf) (maxL := 2) (ret := (some .int)) (by decide) rfl ?_
  intro p e s m args below meth c s₁ B hml hv
  obtain ⟨hargs, hsz, hP, hK, hD0, hT⟩ := hv
  subst hsz
  have hD := hD0.self (sz := s.heap.size)
  rw [← hAe] at hD hT
  have hA : ∀ q : Nat, s.heap.size ≤ q → A q := fun q h => by rw [hAe]; exact Or.inr h
  clear hAe
  have cx : ct_Cx p s m args meth c b_Pairs_productOf 2 (some .int) R_Pairs wd_Pairs_productOf D (ct_tys cI cL cZ) tA tB A := ⟨B.exec, B.bytes, B.returns, hml, findClass_of_methodNamed B.named, atoms_spec (ws := wd_Pairs_productOf) B.pre, hK, hA, hT, B.notSynchronized, hT.1, hT.2.1, hT.2.2.1, hT.2.2.2.1, hT.2.2.2.2⟩
  have hl := lv_entry ([.int pp, .int qq]) (n := 2) (Nat.le_of_ble_eq_true rfl)
  rw [show entryFrame m args 2 = entryFrame m ([.int pp, .int qq] : List Value).toArray 2 by rw [hargs], lg_entry_eq]
  exact w_Pairs_productOf cx h _ _ hP hD va_S.rf _ hl
abbrev rm_Pairs_add : Room := { frames := 1, cells := 0, slots := 0, locals := 21 }
abbrev wd_Pairs_add : List Cond := .code y_Pairs_add b_Pairs_add 4 none :: ct_G
def f_Pairs_add (i : Int32) (j : Int32) (product : Int32) (v_size : Int32) (v_second : Nat → Int32) (v_cell : Nat → Int32) (v_power : Nat → Int32) (v_share : Nat → Int32) (v_hanging : Nat → Int32) : Option (Int32 × (Nat → Int32) × (Nat → Int32) × (Nat → Int32) × (Nat → Int32) × (Nat → Int32)) := (if v_size < 0 ∨ 21 ≤ v_size.toNatClampNeg then none else ((f_Sq_cellOf i j).bind (fun r_1 => (if v_size < 0 ∨ 21 ≤ v_size.toNatClampNeg then none else (if v_size < 0 ∨ 21 ≤ v_size.toNatClampNeg then none else (ct_jn (fun (j2 : Int32 → Option (Int32 × (Nat → Int32) × (Nat → Int32) × (Nat → Int32) × (Nat → Int32) × (Nat → Int32))) => (if i = j then (j2 1) else (j2 2))) (fun (s_2 : Int32) => (if v_size < 0 ∨ 21 ≤ v_size.toNatClampNeg then none else (if product < 0 ∨ 15 ≤ product.toNatClampNeg then none else (ct_jn (fun (j3 : (Nat → Int32) → Option (Int32 × (Nat → Int32) × (Nat → Int32) × (Nat → Int32) × (Nat → Int32) × (Nat → Int32))) => (if (v_hanging product.toNatClampNeg) = (-1) then (if product < 0 ∨ 15 ≤ product.toNatClampNeg then none else (j3 (upd v_hanging product.toNatClampNeg v_size))) else (if i = j then (if product < 0 ∨ 15 ≤ product.toNatClampNeg then none else (j3 (upd v_hanging product.toNatClampNeg v_size))) else (j3 v_hanging)))) (fun (v_hanging_3 : Nat → Int32) => some ((v_size + 1), (upd v_second v_size.toNatClampNeg j), (upd v_cell v_size.toNatClampNeg r_1), (upd v_power v_size.toNatClampNeg product), (upd v_share v_size.toNatClampNeg s_2), v_hanging_3))))))))))))
set_option maxHeartbeats 4000000 in
set_option maxRecDepth 100000 in
theorem w_Pairs_add {p : Program} {l : Launch} {e : Env} {s : State} {m : MethodId} {args : Array Value} {below : List Frame} {meth : Method} {c : Code} {D : va_G} {cI cL cZ : ClassId} {tA tB : Nat} {A : Nat → Prop} {a_this a_second a_cell a_power a_share a_hanging a_freePairs a_rest : Nat} {i : Int32} {j : Int32} {product : Int32} {v_size : Int32} {v_freeSize : Int32} {v_second : Nat → Int32} {v_cell : Nat → Int32} {v_power : Nat → Int32} {v_share : Nat → Int32} {v_hanging : Nat → Int32} {o_v_size : Int32} {o_v_second : Nat → Int32} {o_v_cell : Nat → Int32} {o_v_power : Nat → Int32} {o_v_share : Nat → Int32} {o_v_hanging : Nat → Int32} (cx : ct_Cx p s m args meth c b_Pairs_add 4 none R_Pairs wd_Pairs_add D (ct_tys cI cL cZ) tA tB A) (h : f_Pairs_add i j product v_size v_second v_cell v_power v_share v_hanging = some (o_v_size, o_v_second, o_v_cell, o_v_power, o_v_share, o_v_hanging)) : ∀ (H : Heap) (locs : List Loc), va_P D vwCl [(a_this, .inr (1, [.ref a_second, .ref a_cell, .ref a_power, .ref a_share, .ref a_hanging, .ref a_freePairs, .ref a_rest, .int v_size, .int v_freeSize])), (a_second, .inl (cI, 21, .inl v_second)), (a_cell, .inl (cI, 21, .inl v_cell)), (a_power, .inl (cI, 21, .inl v_power)), (a_share, .inl (cI, 21, .inl v_share)), (a_hanging, .inl (cI, 15, .inl v_hanging))] H → va_D A [(a_this, .inr (1, [.ref a_second, .ref a_cell, .ref a_power, .ref a_share, .ref a_hanging, .ref a_freePairs, .ref a_rest, .int v_size, .int v_freeSize])), (a_second, .inl (cI, 21, .inl v_second)), (a_cell, .inl (cI, 21, .inl v_cell)), (a_power, .inl (cI, 21, .inl v_power)), (a_share, .inl (cI, 21, .inl v_share)), (a_hanging, .inl (cI, 15, .inl v_hanging))] → va_S A s.heap H locs → ∀ ls : Array Slot, lv_has ls 4 [(0, .ref a_this), (1, .int i), (2, .int j), (3, .int product)] → W p l e (headSpec wd_Pairs_add rm_Pairs_add).room s m args below meth c H locs 0 0 (MQ below (ct_Qv D [(a_this, .inr (1, [.ref a_second, .ref a_cell, .ref a_power, .ref a_share, .ref a_hanging, .ref a_freePairs, .ref a_rest, .int o_v_size, .int v_freeSize])), (a_second, .inl (cI, 21, .inl o_v_second)), (a_cell, .inl (cI, 21, .inl o_v_cell)), (a_power, .inl (cI, 21, .inl o_v_power)), (a_share, .inl (cI, 21, .inl o_v_share)), (a_hanging, .inl (cI, 15, .inl o_v_hanging))] A) args s 0 0 A) (F0 m 0 ls []) := by
  obtain ⟨hx, hb, hr, hml, hown, hts, hK, hA, hT, hlocks, hZA, hZB, hTA, hTB, hnw⟩ := id cx
  intro H locs hP hD hS ls hl
  rw [f_Pairs_add] at h
  refine lv_aload_n hx hb d_Pairs_add_0 rfl (lv_at hl 0 rfl) ?_
  refine va_get (D := D) (ci := 1) (v := .ref a_second) (C := R_Pairs) (T := T_Pairs) (N := 9) hx hb hts (fun w h9 => ct_in (iw_Pairs w h9)) hown hK hP 0 rfl rfl 0 (by decide) (hts _ (ct_in k_49)) (fun _ h9 => h9) rfl d_Pairs_add_1 ?_
  refine lv_aload_n hx hb d_Pairs_add_4 rfl (lv_at hl 0 rfl) ?_
  refine va_get (D := D) (ci := 1) (v := .int v_size) (C := R_Pairs) (T := T_Pairs) (N := 9) hx hb hts (fun w h9 => ct_in (iw_Pairs w h9)) hown hK hP 0 rfl rfl 7 (by decide) (hts _ (ct_in k_42)) (fun _ h9 => h9) rfl d_Pairs_add_5 ?_
  refine lv_iload_n hx hb d_Pairs_add_8 rfl (lv_at hl 2 rfl) ?_
  obtain ⟨hin, h⟩ := ct_chk h
  refine va_iast hx hb hK hP hD hS 1 0 rfl rfl hin d_Pairs_add_9 (fun H locs hP hD hS => ?_)
  have hP : va_P D vwCl [(a_this, .inr (1, [.ref a_second, .ref a_cell, .ref a_power, .ref a_share, .ref a_hanging, .ref a_freePairs, .ref a_rest, .int v_size, .int v_freeSize])), (a_second, .inl (cI, 21, .inl (upd v_second v_size.toNatClampNeg j))), (a_cell, .inl (cI, 21, .inl v_cell)), (a_power, .inl (cI, 21, .inl v_power)), (a_share, .inl (cI, 21, .inl v_share)), (a_hanging, .inl (cI, 15, .inl v_hanging))] H := hP
  have hD : va_D A [(a_this, .inr (1, [.ref a_second, .ref a_cell, .ref a_power, .ref a_share, .ref a_hanging, .ref a_freePairs, .ref a_rest, .int v_size, .int v_freeSize])), (a_second, .inl (cI, 21, .inl (upd v_second v_size.toNatClampNeg j))), (a_cell, .inl (cI, 21, .inl v_cell)), (a_power, .inl (cI, 21, .inl v_power)), (a_share, .inl (cI, 21, .inl v_share)), (a_hanging, .inl (cI, 15, .inl v_hanging))] := hD
  refine lv_aload_n hx hb d_Pairs_add_10 rfl (lv_at hl 0 rfl) ?_
  refine va_get (D := D) (ci := 1) (v := .ref a_cell) (C := R_Pairs) (T := T_Pairs) (N := 9) hx hb hts (fun w h9 => ct_in (iw_Pairs w h9)) hown hK hP 0 rfl rfl 1 (by decide) (hts _ (ct_in k_50)) (fun _ h9 => h9) rfl d_Pairs_add_11 ?_
  refine lv_aload_n hx hb d_Pairs_add_14 rfl (lv_at hl 0 rfl) ?_
  refine va_get (D := D) (ci := 1) (v := .int v_size) (C := R_Pairs) (T := T_Pairs) (N := 9) hx hb hts (fun w h9 => ct_in (iw_Pairs w h9)) hown hK hP 0 rfl rfl 7 (by decide) (hts _ (ct_in k_42)) (fun _ h9 => h9) rfl d_Pairs_add_15 ?_
  refine lv_iload_n hx hb d_Pairs_add_18 rfl (lv_at hl 1 rfl) ?_
  refine lv_iload_n hx hb d_Pairs_add_19 rfl (lv_at hl 2 rfl) ?_
  obtain ⟨r_1, ho, h⟩ := Option.bind_eq_some_iff.mp h
  refine ct_calli (wc := []) (wr := [(a_this, .inr (1, [.ref a_second, .ref a_cell, .ref a_power, .ref a_share, .ref a_hanging, .ref a_freePairs, .ref a_rest, .int v_size, .int v_freeSize])), (a_second, .inl (cI, 21, .inl (upd v_second v_size.toNatClampNeg j))), (a_cell, .inl (cI, 21, .inl v_cell)), (a_power, .inl (cI, 21, .inl v_power)), (a_share, .inl (cI, 21, .inl v_share)), (a_hanging, .inl (cI, 15, .inl v_hanging))]) (wc' := []) (ws' := [(a_this, .inr (1, [.ref a_second, .ref a_cell, .ref a_power, .ref a_share, .ref a_hanging, .ref a_freePairs, .ref a_rest, .int v_size, .int v_freeSize])), (a_second, .inl (cI, 21, .inl (upd v_second v_size.toNatClampNeg j))), (a_cell, .inl (cI, 21, .inl v_cell)), (a_power, .inl (cI, 21, .inl v_power)), (a_share, .inl (cI, 21, .inl v_share)), (a_hanging, .inl (cI, 15, .inl v_hanging))]) (va_runSN (As := [.int i, .int j]) (rest := [.int v_size, .ref a_cell]) ⟨hx, hb, hml, hown, hts⟩ (c_Sq_cellOf l D cI cL cZ tA tB H.size i j r_1 _ rfl ho) ⟨va_cnB 2 hts (ct_good k_19) rfl rfl rfl (ct_nest_use n_8 hnw) (hts _ (ct_in k_20)) (by decide +kernel) ⟨Nat.le_of_ble_eq_true rfl, Nat.le_of_ble_eq_true rfl⟩, hts _ (ct_in k_21), trivial⟩ (ct_preS (wc := []) hP hD hK hS hA hT [] rfl (by decide)) rfl rfl hl.1 rfl (lv_room (Nat.le_of_ble_eq_true rfl)) d_Pairs_add_20 ⟨Nat.zero_le _, Nat.zero_le _⟩) hP hD hS hA [] [0, 1, 2, 3, 4, 5] rfl rfl (by decide) (by decide) [0, 1, 2, 3, 4, 5] rfl (by decide) (fun H locs hP hD hS => ?_)
  obtain ⟨hin, h⟩ := ct_chk h
  refine va_iast hx hb hK hP hD hS 2 0 rfl rfl hin d_Pairs_add_23 (fun H locs hP hD hS => ?_)
  have hP : va_P D vwCl [(a_this, .inr (1, [.ref a_second, .ref a_cell, .ref a_power, .ref a_share, .ref a_hanging, .ref a_freePairs, .ref a_rest, .int v_size, .int v_freeSize])), (a_second, .inl (cI, 21, .inl (upd v_second v_size.toNatClampNeg j))), (a_cell, .inl (cI, 21, .inl (upd v_cell v_size.toNatClampNeg r_1))), (a_power, .inl (cI, 21, .inl v_power)), (a_share, .inl (cI, 21, .inl v_share)), (a_hanging, .inl (cI, 15, .inl v_hanging))] H := hP
  have hD : va_D A [(a_this, .inr (1, [.ref a_second, .ref a_cell, .ref a_power, .ref a_share, .ref a_hanging, .ref a_freePairs, .ref a_rest, .int v_size, .int v_freeSize])), (a_second, .inl (cI, 21, .inl (upd v_second v_size.toNatClampNeg j))), (a_cell, .inl (cI, 21, .inl (upd v_cell v_size.toNatClampNeg r_1))), (a_power, .inl (cI, 21, .inl v_power)), (a_share, .inl (cI, 21, .inl v_share)), (a_hanging, .inl (cI, 15, .inl v_hanging))] := hD
  refine lv_aload_n hx hb d_Pairs_add_24 rfl (lv_at hl 0 rfl) ?_
  refine va_get (D := D) (ci := 1) (v := .ref a_power) (C := R_Pairs) (T := T_Pairs) (N := 9) hx hb hts (fun w h9 => ct_in (iw_Pairs w h9)) hown hK hP 0 rfl rfl 2 (by decide) (hts _ (ct_in k_51)) (fun _ h9 => h9) rfl d_Pairs_add_25 ?_
  refine lv_aload_n hx hb d_Pairs_add_28 rfl (lv_at hl 0 rfl) ?_
  refine va_get (D := D) (ci := 1) (v := .int v_size) (C := R_Pairs) (T := T_Pairs) (N := 9) hx hb hts (fun w h9 => ct_in (iw_Pairs w h9)) hown hK hP 0 rfl rfl 7 (by decide) (hts _ (ct_in k_42)) (fun _ h9 => h9) rfl d_Pairs_add_29 ?_
  refine lv_iload_n hx hb d_Pairs_add_32 rfl (lv_at hl 3 rfl) ?_
  obtain ⟨hin, h⟩ := ct_chk h
  refine va_iast hx hb hK hP hD hS 3 0 rfl rfl hin d_Pairs_add_33 (fun H locs hP hD hS => ?_)
  have hP : va_P D vwCl [(a_this, .inr (1, [.ref a_second, .ref a_cell, .ref a_power, .ref a_share, .ref a_hanging, .ref a_freePairs, .ref a_rest, .int v_size, .int v_freeSize])), (a_second, .inl (cI, 21, .inl (upd v_second v_size.toNatClampNeg j))), (a_cell, .inl (cI, 21, .inl (upd v_cell v_size.toNatClampNeg r_1))), (a_power, .inl (cI, 21, .inl (upd v_power v_size.toNatClampNeg product))), (a_share, .inl (cI, 21, .inl v_share)), (a_hanging, .inl (cI, 15, .inl v_hanging))] H := hP
  have hD : va_D A [(a_this, .inr (1, [.ref a_second, .ref a_cell, .ref a_power, .ref a_share, .ref a_hanging, .ref a_freePairs, .ref a_rest, .int v_size, .int v_freeSize])), (a_second, .inl (cI, 21, .inl (upd v_second v_size.toNatClampNeg j))), (a_cell, .inl (cI, 21, .inl (upd v_cell v_size.toNatClampNeg r_1))), (a_power, .inl (cI, 21, .inl (upd v_power v_size.toNatClampNeg product))), (a_share, .inl (cI, 21, .inl v_share)), (a_hanging, .inl (cI, 15, .inl v_hanging))] := hD
  refine lv_aload_n hx hb d_Pairs_add_34 rfl (lv_at hl 0 rfl) ?_
  refine va_get (D := D) (ci := 1) (v := .ref a_share) (C := R_Pairs) (T := T_Pairs) (N := 9) hx hb hts (fun w h9 => ct_in (iw_Pairs w h9)) hown hK hP 0 rfl rfl 3 (by decide) (hts _ (ct_in k_52)) (fun _ h9 => h9) rfl d_Pairs_add_35 ?_
  refine lv_aload_n hx hb d_Pairs_add_38 rfl (lv_at hl 0 rfl) ?_
  refine va_get (D := D) (ci := 1) (v := .int v_size) (C := R_Pairs) (T := T_Pairs) (N := 9) hx hb hts (fun w h9 => ct_in (iw_Pairs w h9)) hown hK hP 0 rfl rfl 7 (by decide) (hts _ (ct_in k_42)) (fun _ h9 => h9) rfl d_Pairs_add_39 ?_
  refine lv_iload_n hx hb d_Pairs_add_42 rfl (lv_at hl 1 rfl) ?_
  refine lv_iload_n hx hb d_Pairs_add_43 rfl (lv_at hl 2 rfl) ?_
  obtain ⟨j2, hjd2, h⟩ := ct_jn_elim h
  try dsimp only at h
  have hj2 : ∀ (s_2 : Int32), j2 s_2 = some (o_v_size, o_v_second, o_v_cell, o_v_power, o_v_share, o_v_hanging) → ∀ (H : Heap) (locs : List Loc), va_P D vwCl [(a_this, .inr (1, [.ref a_second, .ref a_cell, .ref a_power, .ref a_share, .ref a_hanging, .ref a_freePairs, .ref a_rest, .int v_size, .int v_freeSize])), (a_second, .inl (cI, 21, .inl (upd v_second v_size.toNatClampNeg j))), (a_cell, .inl (cI, 21, .inl (upd v_cell v_size.toNatClampNeg r_1))), (a_power, .inl (cI, 21, .inl (upd v_power v_size.toNatClampNeg product))), (a_share, .inl (cI, 21, .inl v_share)), (a_hanging, .inl (cI, 15, .inl v_hanging))] H → va_D A [(a_this, .inr (1, [.ref a_second, .ref a_cell, .ref a_power, .ref a_share, .ref a_hanging, .ref a_freePairs, .ref a_rest, .int v_size, .int v_freeSize])), (a_second, .inl (cI, 21, .inl (upd v_second v_size.toNatClampNeg j))), (a_cell, .inl (cI, 21, .inl (upd v_cell v_size.toNatClampNeg r_1))), (a_power, .inl (cI, 21, .inl (upd v_power v_size.toNatClampNeg product))), (a_share, .inl (cI, 21, .inl v_share)), (a_hanging, .inl (cI, 15, .inl v_hanging))] → va_S A s.heap H locs → ∀ ls : Array Slot, lv_has ls 4 [(0, .ref a_this), (1, .int i), (2, .int j), (3, .int product)] → W p l e (headSpec wd_Pairs_add rm_Pairs_add).room s m args below meth c H locs 0 0 (MQ below (ct_Qv D [(a_this, .inr (1, [.ref a_second, .ref a_cell, .ref a_power, .ref a_share, .ref a_hanging, .ref a_freePairs, .ref a_rest, .int o_v_size, .int v_freeSize])), (a_second, .inl (cI, 21, .inl o_v_second)), (a_cell, .inl (cI, 21, .inl o_v_cell)), (a_power, .inl (cI, 21, .inl o_v_power)), (a_share, .inl (cI, 21, .inl o_v_share)), (a_hanging, .inl (cI, 15, .inl o_v_hanging))] A) args s 0 0 A) (F0 m 52 ls [.int s_2, .int v_size, .ref a_share]) := by
    intro s_2 h H locs hP hD hS ls hl
    rw [hjd2] at h
    try dsimp only at h
    obtain ⟨hin, h⟩ := ct_chk h
    refine va_iast hx hb hK hP hD hS 4 0 rfl rfl hin d_Pairs_add_52 (fun H locs hP hD hS => ?_)
    have hP : va_P D vwCl [(a_this, .inr (1, [.ref a_second, .ref a_cell, .ref a_power, .ref a_share, .ref a_hanging, .ref a_freePairs, .ref a_rest, .int v_size, .int v_freeSize])), (a_second, .inl (cI, 21, .inl (upd v_second v_size.toNatClampNeg j))), (a_cell, .inl (cI, 21, .inl (upd v_cell v_size.toNatClampNeg r_1))), (a_power, .inl (cI, 21, .inl (upd v_power v_size.toNatClampNeg product))), (a_share, .inl (cI, 21, .inl (upd v_share v_size.toNatClampNeg s_2))), (a_hanging, .inl (cI, 15, .inl v_hanging))] H := hP
    have hD : va_D A [(a_this, .inr (1, [.ref a_second, .ref a_cell, .ref a_power, .ref a_share, .ref a_hanging, .ref a_freePairs, .ref a_rest, .int v_size, .int v_freeSize])), (a_second, .inl (cI, 21, .inl (upd v_second v_size.toNatClampNeg j))), (a_cell, .inl (cI, 21, .inl (upd v_cell v_size.toNatClampNeg r_1))), (a_power, .inl (cI, 21, .inl (upd v_power v_size.toNatClampNeg product))), (a_share, .inl (cI, 21, .inl (upd v_share v_size.toNatClampNeg s_2))), (a_hanging, .inl (cI, 15, .inl v_hanging))] := hD
    refine lv_aload_n hx hb d_Pairs_add_53 rfl (lv_at hl 0 rfl) ?_
    refine va_get (D := D) (ci := 1) (v := .ref a_hanging) (C := R_Pairs) (T := T_Pairs) (N := 9) hx hb hts (fun w h9 => ct_in (iw_Pairs w h9)) hown hK hP 0 rfl rfl 4 (by decide) (hts _ (ct_in k_37)) (fun _ h9 => h9) rfl d_Pairs_add_54 ?_
    refine lv_iload_n hx hb d_Pairs_add_57 rfl (lv_at hl 3 rfl) ?_
    obtain ⟨hin, h⟩ := ct_chk h
    refine va_iald hx hb hK hP 5 0 rfl rfl hin d_Pairs_add_58 ?_
    refine lv_iconst (v := (-1)) hx hb d_Pairs_add_59 (by decide) ?_
    obtain ⟨j3, hjd3, h⟩ := ct_jn_elim h
    try dsimp only at h
    have hj3 : ∀ (v_hanging_3 : Nat → Int32), j3 v_hanging_3 = some (o_v_size, o_v_second, o_v_cell, o_v_power, o_v_share, o_v_hanging) → ∀ (H : Heap) (locs : List Loc), va_P D vwCl [(a_this, .inr (1, [.ref a_second, .ref a_cell, .ref a_power, .ref a_share, .ref a_hanging, .ref a_freePairs, .ref a_rest, .int v_size, .int v_freeSize])), (a_second, .inl (cI, 21, .inl (upd v_second v_size.toNatClampNeg j))), (a_cell, .inl (cI, 21, .inl (upd v_cell v_size.toNatClampNeg r_1))), (a_power, .inl (cI, 21, .inl (upd v_power v_size.toNatClampNeg product))), (a_share, .inl (cI, 21, .inl (upd v_share v_size.toNatClampNeg s_2))), (a_hanging, .inl (cI, 15, .inl v_hanging_3))] H → va_D A [(a_this, .inr (1, [.ref a_second, .ref a_cell, .ref a_power, .ref a_share, .ref a_hanging, .ref a_freePairs, .ref a_rest, .int v_size, .int v_freeSize])), (a_second, .inl (cI, 21, .inl (upd v_second v_size.toNatClampNeg j))), (a_cell, .inl (cI, 21, .inl (upd v_cell v_size.toNatClampNeg r_1))), (a_power, .inl (cI, 21, .inl (upd v_power v_size.toNatClampNeg product))), (a_share, .inl (cI, 21, .inl (upd v_share v_size.toNatClampNeg s_2))), (a_hanging, .inl (cI, 15, .inl v_hanging_3))] → va_S A s.heap H locs → ∀ ls : Array Slot, lv_has ls 4 [(0, .ref a_this)] → W p l e (headSpec wd_Pairs_add rm_Pairs_add).room s m args below meth c H locs 0 0 (MQ below (ct_Qv D [(a_this, .inr (1, [.ref a_second, .ref a_cell, .ref a_power, .ref a_share, .ref a_hanging, .ref a_freePairs, .ref a_rest, .int o_v_size, .int v_freeSize])), (a_second, .inl (cI, 21, .inl o_v_second)), (a_cell, .inl (cI, 21, .inl o_v_cell)), (a_power, .inl (cI, 21, .inl o_v_power)), (a_share, .inl (cI, 21, .inl o_v_share)), (a_hanging, .inl (cI, 15, .inl o_v_hanging))] A) args s 0 0 A) (F0 m 78 ls []) := by
      intro v_hanging_3 h H locs hP hD hS ls hl
      rw [hjd3] at h
      try dsimp only at h
      refine lv_aload_n hx hb d_Pairs_add_78 rfl (lv_at hl 0 rfl) ?_
      refine lv_dup hx hb d_Pairs_add_79 rfl ?_
      refine va_get (D := D) (ci := 1) (v := .int v_size) (C := R_Pairs) (T := T_Pairs) (N := 9) hx hb hts (fun w h9 => ct_in (iw_Pairs w h9)) hown hK hP 0 rfl rfl 7 (by decide) (hts _ (ct_in k_42)) (fun _ h9 => h9) rfl d_Pairs_add_80 ?_
      refine lv_iconst (v := 1) hx hb d_Pairs_add_83 (by decide) ?_
      refine lv_iadd hx hb d_Pairs_add_84 ?_
      refine va_put (D := D) (ci := 1) (v := .int (v_size + 1)) (ty := .int) (C := R_Pairs) (T := T_Pairs) (N := 9) hx hb hts (fun w h9 => ct_in (iw_Pairs w h9)) t_Pairs tk_Pairs nm_Pairs hown hK hP hD hS 0 rfl rfl 7 (by decide) (hts _ (ct_in k_42)) (fun _ h9 => h9) rfl (by decide +kernel) rfl rfl (Nat.le_of_ble_eq_true rfl) d_Pairs_add_85 (fun H locs hP hD hS => ?_)
      have hP : va_P D vwCl [(a_this, .inr (1, [.ref a_second, .ref a_cell, .ref a_power, .ref a_share, .ref a_hanging, .ref a_freePairs, .ref a_rest, .int (v_size + 1), .int v_freeSize])), (a_second, .inl (cI, 21, .inl (upd v_second v_size.toNatClampNeg j))), (a_cell, .inl (cI, 21, .inl (upd v_cell v_size.toNatClampNeg r_1))), (a_power, .inl (cI, 21, .inl (upd v_power v_size.toNatClampNeg product))), (a_share, .inl (cI, 21, .inl (upd v_share v_size.toNatClampNeg s_2))), (a_hanging, .inl (cI, 15, .inl v_hanging_3))] H := hP
      have hD : va_D A [(a_this, .inr (1, [.ref a_second, .ref a_cell, .ref a_power, .ref a_share, .ref a_hanging, .ref a_freePairs, .ref a_rest, .int (v_size + 1), .int v_freeSize])), (a_second, .inl (cI, 21, .inl (upd v_second v_size.toNatClampNeg j))), (a_cell, .inl (cI, 21, .inl (upd v_cell v_size.toNatClampNeg r_1))), (a_power, .inl (cI, 21, .inl (upd v_power v_size.toNatClampNeg product))), (a_share, .inl (cI, 21, .inl (upd v_share v_size.toNatClampNeg s_2))), (a_hanging, .inl (cI, 15, .inl v_hanging_3))] := hD
      cases h
      exact W.vret hx hb hr (fun t ht hW => ⟨⟨(), rfl, trivial, by rw [ht]; exact hP, hD⟩, hS.F ht⟩) hS.2.2 d_Pairs_add_88
    clear hjd3
    refine lv_icmp_eq (tgt := 68) hx hb d_Pairs_add_60 (by decide) (fun hc => ?_) (fun hc => ?_)
    · rw [if_pos hc] at h
      refine lv_aload_n hx hb d_Pairs_add_68 rfl (lv_at hl 0 rfl) ?_
      refine va_get (D := D) (ci := 1) (v := .ref a_hanging) (C := R_Pairs) (T := T_Pairs) (N := 9) hx hb hts (fun w h9 => ct_in (iw_Pairs w h9)) hown hK hP 0 rfl rfl 4 (by decide) (hts _ (ct_in k_37)) (fun _ h9 => h9) rfl d_Pairs_add_69 ?_
      refine lv_iload_n hx hb d_Pairs_add_72 rfl (lv_at hl 3 rfl) ?_
      refine lv_aload_n hx hb d_Pairs_add_73 rfl (lv_at hl 0 rfl) ?_
      refine va_get (D := D) (ci := 1) (v := .int v_size) (C := R_Pairs) (T := T_Pairs) (N := 9) hx hb hts (fun w h9 => ct_in (iw_Pairs w h9)) hown hK hP 0 rfl rfl 7 (by decide) (hts _ (ct_in k_42)) (fun _ h9 => h9) rfl d_Pairs_add_74 ?_
      obtain ⟨hin, h⟩ := ct_chk h
      refine va_iast hx hb hK hP hD hS 5 0 rfl rfl hin d_Pairs_add_77 (fun H locs hP hD hS => ?_)
      have hP : va_P D vwCl [(a_this, .inr (1, [.ref a_second, .ref a_cell, .ref a_power, .ref a_share, .ref a_hanging, .ref a_freePairs, .ref a_rest, .int v_size, .int v_freeSize])), (a_second, .inl (cI, 21, .inl (upd v_second v_size.toNatClampNeg j))), (a_cell, .inl (cI, 21, .inl (upd v_cell v_size.toNatClampNeg r_1))), (a_power, .inl (cI, 21, .inl (upd v_power v_size.toNatClampNeg product))), (a_share, .inl (cI, 21, .inl (upd v_share v_size.toNatClampNeg s_2))), (a_hanging, .inl (cI, 15, .inl (upd v_hanging product.toNatClampNeg v_size)))] H := hP
      have hD : va_D A [(a_this, .inr (1, [.ref a_second, .ref a_cell, .ref a_power, .ref a_share, .ref a_hanging, .ref a_freePairs, .ref a_rest, .int v_size, .int v_freeSize])), (a_second, .inl (cI, 21, .inl (upd v_second v_size.toNatClampNeg j))), (a_cell, .inl (cI, 21, .inl (upd v_cell v_size.toNatClampNeg r_1))), (a_power, .inl (cI, 21, .inl (upd v_power v_size.toNatClampNeg product))), (a_share, .inl (cI, 21, .inl (upd v_share v_size.toNatClampNeg s_2))), (a_hanging, .inl (cI, 15, .inl (upd v_hanging product.toNatClampNeg v_size)))] := hD
      exact hj3 _ h _ _ hP hD hS ls (lv_sub hl [0] rfl)
    · rw [if_neg hc] at h
      refine lv_iload_n hx hb d_Pairs_add_63 rfl (lv_at hl 1 rfl) ?_
      refine lv_iload_n hx hb d_Pairs_add_64 rfl (lv_at hl 2 rfl) ?_
      refine lv_icmp_ne (tgt := 78) hx hb d_Pairs_add_65 (by decide) (fun hc => ?_) (fun hc => ?_)
      · rw [if_neg hc] at h
        exact hj3 _ h _ _ hP hD hS ls (lv_sub hl [0] rfl)
      · rw [if_pos hc] at h
        refine lv_aload_n hx hb d_Pairs_add_68 rfl (lv_at hl 0 rfl) ?_
        refine va_get (D := D) (ci := 1) (v := .ref a_hanging) (C := R_Pairs) (T := T_Pairs) (N := 9) hx hb hts (fun w h9 => ct_in (iw_Pairs w h9)) hown hK hP 0 rfl rfl 4 (by decide) (hts _ (ct_in k_37)) (fun _ h9 => h9) rfl d_Pairs_add_69 ?_
        refine lv_iload_n hx hb d_Pairs_add_72 rfl (lv_at hl 3 rfl) ?_
        refine lv_aload_n hx hb d_Pairs_add_73 rfl (lv_at hl 0 rfl) ?_
        refine va_get (D := D) (ci := 1) (v := .int v_size) (C := R_Pairs) (T := T_Pairs) (N := 9) hx hb hts (fun w h9 => ct_in (iw_Pairs w h9)) hown hK hP 0 rfl rfl 7 (by decide) (hts _ (ct_in k_42)) (fun _ h9 => h9) rfl d_Pairs_add_74 ?_
        obtain ⟨hin, h⟩ := ct_chk h
        refine va_iast hx hb hK hP hD hS 5 0 rfl rfl hin d_Pairs_add_77 (fun H locs hP hD hS => ?_)
        have hP : va_P D vwCl [(a_this, .inr (1, [.ref a_second, .ref a_cell, .ref a_power, .ref a_share, .ref a_hanging, .ref a_freePairs, .ref a_rest, .int v_size, .int v_freeSize])), (a_second, .inl (cI, 21, .inl (upd v_second v_size.toNatClampNeg j))), (a_cell, .inl (cI, 21, .inl (upd v_cell v_size.toNatClampNeg r_1))), (a_power, .inl (cI, 21, .inl (upd v_power v_size.toNatClampNeg product))), (a_share, .inl (cI, 21, .inl (upd v_share v_size.toNatClampNeg s_2))), (a_hanging, .inl (cI, 15, .inl (upd v_hanging product.toNatClampNeg v_size)))] H := hP
        have hD : va_D A [(a_this, .inr (1, [.ref a_second, .ref a_cell, .ref a_power, .ref a_share, .ref a_hanging, .ref a_freePairs, .ref a_rest, .int v_size, .int v_freeSize])), (a_second, .inl (cI, 21, .inl (upd v_second v_size.toNatClampNeg j))), (a_cell, .inl (cI, 21, .inl (upd v_cell v_size.toNatClampNeg r_1))), (a_power, .inl (cI, 21, .inl (upd v_power v_size.toNatClampNeg product))), (a_share, .inl (cI, 21, .inl (upd v_share v_size.toNatClampNeg s_2))), (a_hanging, .inl (cI, 15, .inl (upd v_hanging product.toNatClampNeg v_size)))] := hD
        exact hj3 _ h _ _ hP hD hS ls (lv_sub hl [0] rfl)
  clear hjd2
  refine lv_icmp_ne (tgt := 51) hx hb d_Pairs_add_44 (by decide) (fun hc => ?_) (fun hc => ?_)
  · rw [if_neg hc] at h
    refine lv_iconst (v := 2) hx hb d_Pairs_add_51 (by decide) ?_
    exact hj2 _ h _ _ hP hD hS ls (lv_sub hl [0, 1, 2, 3] rfl)
  · rw [if_pos hc] at h
    refine lv_iconst (v := 1) hx hb d_Pairs_add_47 (by decide) ?_
    refine lv_goto (tgt := 52) hx hb d_Pairs_add_48 (by decide) ?_
    exact hj2 _ h _ _ hP hD hS ls (lv_sub hl [0, 1, 2, 3] rfl)
set_option maxHeartbeats 4000000 in
set_option maxRecDepth 100000 in
theorem c_Pairs_add (l : Launch) (D : va_G) (cI cL cZ : ClassId) (tA tB sz : Nat) (a_this a_second a_cell a_power a_share a_hanging a_freePairs a_rest : Nat) (i : Int32) (j : Int32) (product : Int32) (v_size : Int32) (v_freeSize : Int32) (v_second : Nat → Int32) (v_cell : Nat → Int32) (v_power : Nat → Int32) (v_share : Nat → Int32) (v_hanging : Nat → Int32) (o_v_size : Int32) (o_v_second : Nat → Int32) (o_v_cell : Nat → Int32) (o_v_power : Nat → Int32) (o_v_share : Nat → Int32) (o_v_hanging : Nat → Int32) (A : Nat → Prop) (hAe : A = va_A [(a_this, .inr (1, [.ref a_second, .ref a_cell, .ref a_power, .ref a_share, .ref a_hanging, .ref a_freePairs, .ref a_rest, .int v_size, .int v_freeSize])), (a_second, .inl (cI, 21, .inl v_second)), (a_cell, .inl (cI, 21, .inl v_cell)), (a_power, .inl (cI, 21, .inl v_power)), (a_share, .inl (cI, 21, .inl v_share)), (a_hanging, .inl (cI, 15, .inl v_hanging))] sz) (h : f_Pairs_add i j product v_size v_second v_cell v_power v_share v_hanging = some (o_v_size, o_v_second, o_v_cell, o_v_power, o_v_share, o_v_hanging)) : Met l y_Pairs_add wd_Pairs_add rm_Pairs_add (ct_Pre D (ct_tys cI cL cZ) tA tB [(a_this, .inr (1, [.ref a_second, .ref a_cell, .ref a_power, .ref a_share, .ref a_hanging, .ref a_freePairs, .ref a_rest, .int v_size, .int v_freeSize])), (a_second, .inl (cI, 21, .inl v_second)), (a_cell, .inl (cI, 21, .inl v_cell)), (a_power, .inl (cI, 21, .inl v_power)), (a_share, .inl (cI, 21, .inl v_share)), (a_hanging, .inl (cI, 15, .inl v_hanging))] sz [.ref a_this, .int i, .int j, .int product]) (ct_Qv D [(a_this, .inr (1, [.ref a_second, .ref a_cell, .ref a_power, .ref a_share, .ref a_hanging, .ref a_freePairs, .ref a_rest, .int o_v_size, .int v_freeSize])), (a_second, .inl (cI, 21, .inl o_v_second)), (a_cell, .inl (cI, 21, .inl o_v_cell)), (a_power, .inl (cI, 21, .inl o_v_power)), (a_share, .inl (cI, 21, .inl o_v_share)), (a_hanging, .inl (cI, 15, .inl o_v_hanging))] A) 0 0 A := by
  refine Met.ofW (cc := b_Pairs_add) (maxL := 4) (ret := none) (by decide) rfl ?_
  intro p e s m args below meth c s₁ B hml hv
  obtain ⟨hargs, hsz, hP, hK, hD0, hT⟩ := hv
  subst hsz
  have hD := hD0.self (sz := s.heap.size)
  rw [← hAe] at hD hT
  have hA : ∀ q : Nat, s.heap.size ≤ q → A q := fun q h => by rw [hAe]; exact Or.inr h
  clear hAe
  have cx : ct_Cx p s m args meth c b_Pairs_add 4 none R_Pairs wd_Pairs_add D (ct_tys cI cL cZ) tA tB A := ⟨B.exec, B.bytes, B.returns, hml, findClass_of_methodNamed B.named, atoms_spec (ws := wd_Pairs_add) B.pre, hK, hA, hT, B.notSynchronized, hT.1, hT.2.1, hT.2.2.1, hT.2.2.2.1, hT.2.2.2.2⟩
  have hl := lv_entry ([.ref a_this, .int i, .int j, .int product]) (n := 4) (Nat.le_of_ble_eq_true rfl)
  rw [show entryFrame m args 4 = entryFrame m ([.ref a_this, .int i, .int j, .int product] : List Value).toArray 4 by rw [hargs], lg_entry_eq]
  exact w_Pairs_add cx h _ _ hP hD va_S.rf _ hl
abbrev rm_Pairs_gatherFree : Room := { frames := 0, cells := 0, slots := 0, locals := 0 }
abbrev wd_Pairs_gatherFree : List Cond := .code y_Pairs_gatherFree b_Pairs_gatherFree 2 none :: ct_G
def f_Pairs_gatherFree_L7 (v_size : Int32) (v_power : Nat → Int32) (v_hanging : Nat → Int32) : Nat → Int32 → Int32 → (Nat → Int32) → (Int32 → (Nat → Int32) → Option (Int32 × (Nat → Int32))) → Option (Int32 × (Nat → Int32))
  | 0, _, _, _, _ => none
  | n + 1, x1, v_freeSize, v_freePairs, k => (if v_size ≤ x1 then (k v_freeSize v_freePairs) else (if x1 < 0 ∨ 21 ≤ x1.toNatClampNeg then none else (if (v_power x1.toNatClampNeg) < 0 ∨ 15 ≤ (v_power x1.toNatClampNeg).toNatClampNeg then none else (if (v_hanging (v_power x1.toNatClampNeg).toNatClampNeg) = x1 then (f_Pairs_gatherFree_L7 v_size v_power v_hanging n (x1 + 1) v_freeSize v_freePairs k) else (if v_freeSize < 0 ∨ 21 ≤ v_freeSize.toNatClampNeg then none else (f_Pairs_gatherFree_L7 v_size v_power v_hanging n (x1 + 1) (v_freeSize + 1) (upd v_freePairs v_freeSize.toNatClampNeg x1) k))))))
def f_Pairs_gatherFree (v_size : Int32) (v_power : Nat → Int32) (v_hanging : Nat → Int32) (v_freePairs : Nat → Int32) : Option (Int32 × (Nat → Int32)) := (f_Pairs_gatherFree_L7 v_size v_power v_hanging 40 0 0 v_freePairs (fun (v_freeSize_7 : Int32) (v_freePairs_8 : Nat → Int32) => some (v_freeSize_7, v_freePairs_8)))
set_option maxHeartbeats 4000000 in
set_option maxRecDepth 100000 in
theorem w_Pairs_gatherFree_L7 {p : Program} {l : Launch} {e : Env} {s : State} {m : MethodId} {args : Array Value} {below : List Frame} {meth : Method} {c : Code} {D : va_G} {cI cL cZ : ClassId} {tA tB : Nat} {A : Nat → Prop} {Q : State → Prop} {a_this a_second a_cell a_power a_share a_hanging a_freePairs a_rest : Nat} {v_size : Int32} {v_power : Nat → Int32} {v_hanging : Nat → Int32} {o_v_freeSize : Int32} {o_v_freePairs : Nat → Int32} (cx : ct_Cx p s m args meth c b_Pairs_gatherFree 2 none R_Pairs wd_Pairs_gatherFree D (ct_tys cI cL cZ) tA tB A) : ∀ (n : Nat) (x1 : Int32) (v_freeSize : Int32) (v_freePairs : Nat → Int32) (k : (Int32 → (Nat → Int32) → Option (Int32 × (Nat → Int32)))), f_Pairs_gatherFree_L7 v_size v_power v_hanging n x1 v_freeSize v_freePairs k = some (o_v_freeSize, o_v_freePairs) → (∀ (v_freeSize : Int32) (v_freePairs : Nat → Int32), k v_freeSize v_freePairs = some (o_v_freeSize, o_v_freePairs) → ∀ (H : Heap) (locs : List Loc), va_P D vwCl [(a_this, .inr (1, [.ref a_second, .ref a_cell, .ref a_power, .ref a_share, .ref a_hanging, .ref a_freePairs, .ref a_rest, .int v_size, .int v_freeSize])), (a_power, .inl (cI, 21, .inl v_power)), (a_hanging, .inl (cI, 15, .inl v_hanging)), (a_freePairs, .inl (cI, 21, .inl v_freePairs))] H → va_D A [(a_this, .inr (1, [.ref a_second, .ref a_cell, .ref a_power, .ref a_share, .ref a_hanging, .ref a_freePairs, .ref a_rest, .int v_size, .int v_freeSize])), (a_power, .inl (cI, 21, .inl v_power)), (a_hanging, .inl (cI, 15, .inl v_hanging)), (a_freePairs, .inl (cI, 21, .inl v_freePairs))] → va_S A s.heap H locs → ∀ ls : Array Slot, lv_has ls 2 [] → W p l e (headSpec wd_Pairs_gatherFree rm_Pairs_gatherFree).room s m args below meth c H locs 0 0 Q (F0 m 56 ls [])) → ∀ (H : Heap) (locs : List Loc), va_P D vwCl [(a_this, .inr (1, [.ref a_second, .ref a_cell, .ref a_power, .ref a_share, .ref a_hanging, .ref a_freePairs, .ref a_rest, .int v_size, .int v_freeSize])), (a_power, .inl (cI, 21, .inl v_power)), (a_hanging, .inl (cI, 15, .inl v_hanging)), (a_freePairs, .inl (cI, 21, .inl v_freePairs))] H → va_D A [(a_this, .inr (1, [.ref a_second, .ref a_cell, .ref a_power, .ref a_share, .ref a_hanging, .ref a_freePairs, .ref a_rest, .int v_size, .int v_freeSize])), (a_power, .inl (cI, 21, .inl v_power)), (a_hanging, .inl (cI, 15, .inl v_hanging)), (a_freePairs, .inl (cI, 21, .inl v_freePairs))] → va_S A s.heap H locs → ∀ ls : Array Slot, lv_has ls 2 [(1, .int x1), (0, .ref a_this)] → W p l e (headSpec wd_Pairs_gatherFree rm_Pairs_gatherFree).room s m args below meth c H locs 0 0 Q (F0 m 7 ls []) := by
  obtain ⟨hx, hb, hr, hml, hown, hts, hK, hA, hT, hlocks, hZA, hZB, hTA, hTB, hnw⟩ := id cx
  intro n
  induction n with
  | zero => intro x1 v_freeSize v_freePairs k h; rw [f_Pairs_gatherFree_L7] at h; cases h
  | succ n ih =>
    intro x1 v_freeSize v_freePairs k h hk H locs hP hD hS ls hl
    rw [f_Pairs_gatherFree_L7] at h
    refine lv_iload_n hx hb d_Pairs_gatherFree_7 rfl (lv_at hl 0 rfl) ?_
    refine lv_aload_n hx hb d_Pairs_gatherFree_8 rfl (lv_at hl 1 rfl) ?_
    refine va_get (D := D) (ci := 1) (v := .int v_size) (C := R_Pairs) (T := T_Pairs) (N := 9) hx hb hts (fun w h9 => ct_in (iw_Pairs w h9)) hown hK hP 0 rfl rfl 7 (by decide) (hts _ (ct_in k_42)) (fun _ h9 => h9) rfl d_Pairs_gatherFree_9 ?_
    refine lv_icmp_ge (tgt := 56) hx hb d_Pairs_gatherFree_12 (by decide) (fun hc => ?_) (fun hc => ?_)
    · rw [if_pos hc] at h
      exact hk _ _ h _ _ hP hD hS ls (lv_sub hl [] rfl)
    · rw [if_neg hc] at h
      refine lv_aload_n hx hb d_Pairs_gatherFree_15 rfl (lv_at hl 1 rfl) ?_
      refine va_get (D := D) (ci := 1) (v := .ref a_hanging) (C := R_Pairs) (T := T_Pairs) (N := 9) hx hb hts (fun w h9 => ct_in (iw_Pairs w h9)) hown hK hP 0 rfl rfl 4 (by decide) (hts _ (ct_in k_37)) (fun _ h9 => h9) rfl d_Pairs_gatherFree_16 ?_
      refine lv_aload_n hx hb d_Pairs_gatherFree_19 rfl (lv_at hl 1 rfl) ?_
      refine va_get (D := D) (ci := 1) (v := .ref a_power) (C := R_Pairs) (T := T_Pairs) (N := 9) hx hb hts (fun w h9 => ct_in (iw_Pairs w h9)) hown hK hP 0 rfl rfl 2 (by decide) (hts _ (ct_in k_51)) (fun _ h9 => h9) rfl d_Pairs_gatherFree_20 ?_
      refine lv_iload_n hx hb d_Pairs_gatherFree_23 rfl (lv_at hl 0 rfl) ?_
      obtain ⟨hin, h⟩ := ct_chk h
      refine va_iald hx hb hK hP 1 0 rfl rfl hin d_Pairs_gatherFree_24 ?_
      obtain ⟨hin, h⟩ := ct_chk h
      refine va_iald hx hb hK hP 2 0 rfl rfl hin d_Pairs_gatherFree_25 ?_
      refine lv_iload_n hx hb d_Pairs_gatherFree_26 rfl (lv_at hl 0 rfl) ?_
      refine lv_icmp_eq (tgt := 50) hx hb d_Pairs_gatherFree_27 (by decide) (fun hc => ?_) (fun hc => ?_)
      · rw [if_pos hc] at h
        refine lv_iinc (v := (x1 + 1)) (lv' := [(1, .int (x1 + 1)), (0, .ref a_this)]) hx hb d_Pairs_gatherFree_50 hl (k := 0) rfl rfl (by decide) rfl (fun ls hl => ?_)
        refine lv_goto (tgt := 7) hx hb d_Pairs_gatherFree_53 (by decide) ?_
        exact ih _ _ _ k h hk _ _ hP hD hS ls (lv_sub hl [0, 1] rfl)
      · rw [if_neg hc] at h
        refine lv_aload_n hx hb d_Pairs_gatherFree_30 rfl (lv_at hl 1 rfl) ?_
        refine va_get (D := D) (ci := 1) (v := .ref a_freePairs) (C := R_Pairs) (T := T_Pairs) (N := 9) hx hb hts (fun w h9 => ct_in (iw_Pairs w h9)) hown hK hP 0 rfl rfl 5 (by decide) (hts _ (ct_in k_58)) (fun _ h9 => h9) rfl d_Pairs_gatherFree_31 ?_
        refine lv_aload_n hx hb d_Pairs_gatherFree_34 rfl (lv_at hl 1 rfl) ?_
        refine va_get (D := D) (ci := 1) (v := .int v_freeSize) (C := R_Pairs) (T := T_Pairs) (N := 9) hx hb hts (fun w h9 => ct_in (iw_Pairs w h9)) hown hK hP 0 rfl rfl 8 (by decide) (hts _ (ct_in k_57)) (fun _ h9 => h9) rfl d_Pairs_gatherFree_35 ?_
        refine lv_iload_n hx hb d_Pairs_gatherFree_38 rfl (lv_at hl 0 rfl) ?_
        obtain ⟨hin, h⟩ := ct_chk h
        refine va_iast hx hb hK hP hD hS 3 0 rfl rfl hin d_Pairs_gatherFree_39 (fun H locs hP hD hS => ?_)
        have hP : va_P D vwCl [(a_this, .inr (1, [.ref a_second, .ref a_cell, .ref a_power, .ref a_share, .ref a_hanging, .ref a_freePairs, .ref a_rest, .int v_size, .int v_freeSize])), (a_power, .inl (cI, 21, .inl v_power)), (a_hanging, .inl (cI, 15, .inl v_hanging)), (a_freePairs, .inl (cI, 21, .inl (upd v_freePairs v_freeSize.toNatClampNeg x1)))] H := hP
        have hD : va_D A [(a_this, .inr (1, [.ref a_second, .ref a_cell, .ref a_power, .ref a_share, .ref a_hanging, .ref a_freePairs, .ref a_rest, .int v_size, .int v_freeSize])), (a_power, .inl (cI, 21, .inl v_power)), (a_hanging, .inl (cI, 15, .inl v_hanging)), (a_freePairs, .inl (cI, 21, .inl (upd v_freePairs v_freeSize.toNatClampNeg x1)))] := hD
        refine lv_aload_n hx hb d_Pairs_gatherFree_40 rfl (lv_at hl 1 rfl) ?_
        refine lv_dup hx hb d_Pairs_gatherFree_41 rfl ?_
        refine va_get (D := D) (ci := 1) (v := .int v_freeSize) (C := R_Pairs) (T := T_Pairs) (N := 9) hx hb hts (fun w h9 => ct_in (iw_Pairs w h9)) hown hK hP 0 rfl rfl 8 (by decide) (hts _ (ct_in k_57)) (fun _ h9 => h9) rfl d_Pairs_gatherFree_42 ?_
        refine lv_iconst (v := 1) hx hb d_Pairs_gatherFree_45 (by decide) ?_
        refine lv_iadd hx hb d_Pairs_gatherFree_46 ?_
        refine va_put (D := D) (ci := 1) (v := .int (v_freeSize + 1)) (ty := .int) (C := R_Pairs) (T := T_Pairs) (N := 9) hx hb hts (fun w h9 => ct_in (iw_Pairs w h9)) t_Pairs tk_Pairs nm_Pairs hown hK hP hD hS 0 rfl rfl 8 (by decide) (hts _ (ct_in k_57)) (fun _ h9 => h9) rfl (by decide +kernel) rfl rfl (Nat.le_of_ble_eq_true rfl) d_Pairs_gatherFree_47 (fun H locs hP hD hS => ?_)
        have hP : va_P D vwCl [(a_this, .inr (1, [.ref a_second, .ref a_cell, .ref a_power, .ref a_share, .ref a_hanging, .ref a_freePairs, .ref a_rest, .int v_size, .int (v_freeSize + 1)])), (a_power, .inl (cI, 21, .inl v_power)), (a_hanging, .inl (cI, 15, .inl v_hanging)), (a_freePairs, .inl (cI, 21, .inl (upd v_freePairs v_freeSize.toNatClampNeg x1)))] H := hP
        have hD : va_D A [(a_this, .inr (1, [.ref a_second, .ref a_cell, .ref a_power, .ref a_share, .ref a_hanging, .ref a_freePairs, .ref a_rest, .int v_size, .int (v_freeSize + 1)])), (a_power, .inl (cI, 21, .inl v_power)), (a_hanging, .inl (cI, 15, .inl v_hanging)), (a_freePairs, .inl (cI, 21, .inl (upd v_freePairs v_freeSize.toNatClampNeg x1)))] := hD
        refine lv_iinc (v := (x1 + 1)) (lv' := [(1, .int (x1 + 1)), (0, .ref a_this)]) hx hb d_Pairs_gatherFree_50 hl (k := 0) rfl rfl (by decide) rfl (fun ls hl => ?_)
        refine lv_goto (tgt := 7) hx hb d_Pairs_gatherFree_53 (by decide) ?_
        exact ih _ _ _ k h hk _ _ hP hD hS ls (lv_sub hl [0, 1] rfl)
set_option maxHeartbeats 4000000 in
set_option maxRecDepth 100000 in
theorem w_Pairs_gatherFree {p : Program} {l : Launch} {e : Env} {s : State} {m : MethodId} {args : Array Value} {below : List Frame} {meth : Method} {c : Code} {D : va_G} {cI cL cZ : ClassId} {tA tB : Nat} {A : Nat → Prop} {a_this a_second a_cell a_power a_share a_hanging a_freePairs a_rest : Nat} {v_size : Int32} {v_freeSize : Int32} {v_power : Nat → Int32} {v_hanging : Nat → Int32} {v_freePairs : Nat → Int32} {o_v_freeSize : Int32} {o_v_freePairs : Nat → Int32} (cx : ct_Cx p s m args meth c b_Pairs_gatherFree 2 none R_Pairs wd_Pairs_gatherFree D (ct_tys cI cL cZ) tA tB A) (h : f_Pairs_gatherFree v_size v_power v_hanging v_freePairs = some (o_v_freeSize, o_v_freePairs)) : ∀ (H : Heap) (locs : List Loc), va_P D vwCl [(a_this, .inr (1, [.ref a_second, .ref a_cell, .ref a_power, .ref a_share, .ref a_hanging, .ref a_freePairs, .ref a_rest, .int v_size, .int v_freeSize])), (a_power, .inl (cI, 21, .inl v_power)), (a_hanging, .inl (cI, 15, .inl v_hanging)), (a_freePairs, .inl (cI, 21, .inl v_freePairs))] H → va_D A [(a_this, .inr (1, [.ref a_second, .ref a_cell, .ref a_power, .ref a_share, .ref a_hanging, .ref a_freePairs, .ref a_rest, .int v_size, .int v_freeSize])), (a_power, .inl (cI, 21, .inl v_power)), (a_hanging, .inl (cI, 15, .inl v_hanging)), (a_freePairs, .inl (cI, 21, .inl v_freePairs))] → va_S A s.heap H locs → ∀ ls : Array Slot, lv_has ls 2 [(0, .ref a_this)] → W p l e (headSpec wd_Pairs_gatherFree rm_Pairs_gatherFree).room s m args below meth c H locs 0 0 (MQ below (ct_Qv D [(a_this, .inr (1, [.ref a_second, .ref a_cell, .ref a_power, .ref a_share, .ref a_hanging, .ref a_freePairs, .ref a_rest, .int v_size, .int o_v_freeSize])), (a_power, .inl (cI, 21, .inl v_power)), (a_hanging, .inl (cI, 15, .inl v_hanging)), (a_freePairs, .inl (cI, 21, .inl o_v_freePairs))] A) args s 0 0 A) (F0 m 0 ls []) := by
  obtain ⟨hx, hb, hr, hml, hown, hts, hK, hA, hT, hlocks, hZA, hZB, hTA, hTB, hnw⟩ := id cx
  intro H locs hP hD hS ls hl
  rw [f_Pairs_gatherFree] at h
  refine lv_aload_n hx hb d_Pairs_gatherFree_0 rfl (lv_at hl 0 rfl) ?_
  refine lv_iconst (v := 0) hx hb d_Pairs_gatherFree_1 (by decide) ?_
  refine va_put (D := D) (ci := 1) (v := .int 0) (ty := .int) (C := R_Pairs) (T := T_Pairs) (N := 9) hx hb hts (fun w h9 => ct_in (iw_Pairs w h9)) t_Pairs tk_Pairs nm_Pairs hown hK hP hD hS 0 rfl rfl 8 (by decide) (hts _ (ct_in k_57)) (fun _ h9 => h9) rfl (by decide +kernel) rfl rfl (Nat.le_of_ble_eq_true rfl) d_Pairs_gatherFree_2 (fun H locs hP hD hS => ?_)
  have hP : va_P D vwCl [(a_this, .inr (1, [.ref a_second, .ref a_cell, .ref a_power, .ref a_share, .ref a_hanging, .ref a_freePairs, .ref a_rest, .int v_size, .int 0])), (a_power, .inl (cI, 21, .inl v_power)), (a_hanging, .inl (cI, 15, .inl v_hanging)), (a_freePairs, .inl (cI, 21, .inl v_freePairs))] H := hP
  have hD : va_D A [(a_this, .inr (1, [.ref a_second, .ref a_cell, .ref a_power, .ref a_share, .ref a_hanging, .ref a_freePairs, .ref a_rest, .int v_size, .int 0])), (a_power, .inl (cI, 21, .inl v_power)), (a_hanging, .inl (cI, 15, .inl v_hanging)), (a_freePairs, .inl (cI, 21, .inl v_freePairs))] := hD
  refine lv_iconst (v := 0) hx hb d_Pairs_gatherFree_5 (by decide) ?_
  refine lv_istore_n (lv' := [(1, .int 0), (0, .ref a_this)]) hx hb d_Pairs_gatherFree_6 rfl hl (by decide) rfl (fun ls hl => ?_)
  refine w_Pairs_gatherFree_L7 cx _ _ _ _ _ h (fun v_freeSize_7 v_freePairs_8 h H locs hP hD hS ls hl => ?_) _ _ hP hD hS ls (lv_sub hl [0, 1] rfl)
  try dsimp only at h
  cases h
  exact W.vret hx hb hr (fun t ht hW => ⟨⟨(), rfl, trivial, by rw [ht]; exact hP, hD⟩, hS.F ht⟩) hS.2.2 d_Pairs_gatherFree_56
set_option maxHeartbeats 4000000 in
set_option maxRecDepth 100000 in
theorem c_Pairs_gatherFree (l : Launch) (D : va_G) (cI cL cZ : ClassId) (tA tB sz : Nat) (a_this a_second a_cell a_power a_share a_hanging a_freePairs a_rest : Nat) (v_size : Int32) (v_freeSize : Int32) (v_power : Nat → Int32) (v_hanging : Nat → Int32) (v_freePairs : Nat → Int32) (o_v_freeSize : Int32) (o_v_freePairs : Nat → Int32) (A : Nat → Prop) (hAe : A = va_A [(a_this, .inr (1, [.ref a_second, .ref a_cell, .ref a_power, .ref a_share, .ref a_hanging, .ref a_freePairs, .ref a_rest, .int v_size, .int v_freeSize])), (a_power, .inl (cI, 21, .inl v_power)), (a_hanging, .inl (cI, 15, .inl v_hanging)), (a_freePairs, .inl (cI, 21, .inl v_freePairs))] sz) (h : f_Pairs_gatherFree v_size v_power v_hanging v_freePairs = some (o_v_freeSize, o_v_freePairs)) : Met l y_Pairs_gatherFree wd_Pairs_gatherFree rm_Pairs_gatherFree (ct_Pre D (ct_tys cI cL cZ) tA tB [(a_this, .inr (1, [.ref a_second, .ref a_cell, .ref a_power, .ref a_share, .ref a_hanging, .ref a_freePairs, .ref a_rest, .int v_size, .int v_freeSize])), (a_power, .inl (cI, 21, .inl v_power)), (a_hanging, .inl (cI, 15, .inl v_hanging)), (a_freePairs, .inl (cI, 21, .inl v_freePairs))] sz [.ref a_this]) (ct_Qv D [(a_this, .inr (1, [.ref a_second, .ref a_cell, .ref a_power, .ref a_share, .ref a_hanging, .ref a_freePairs, .ref a_rest, .int v_size, .int o_v_freeSize])), (a_power, .inl (cI, 21, .inl v_power)), (a_hanging, .inl (cI, 15, .inl v_hanging)), (a_freePairs, .inl (cI, 21, .inl o_v_freePairs))] A) 0 0 A := by
  refine Met.ofW (cc := b_Pairs_gatherFree) (maxL := 2) (ret := none) (by decide) rfl ?_
  intro p e s m args below meth c s₁ B hml hv
  obtain ⟨hargs, hsz, hP, hK, hD0, hT⟩ := hv
  subst hsz
  have hD := hD0.self (sz := s.heap.size)
  rw [← hAe] at hD hT
  have hA : ∀ q : Nat, s.heap.size ≤ q → A q := fun q h => by rw [hAe]; exact Or.inr h
  clear hAe
  have cx : ct_Cx p s m args meth c b_Pairs_gatherFree 2 none R_Pairs wd_Pairs_gatherFree D (ct_tys cI cL cZ) tA tB A := ⟨B.exec, B.bytes, B.returns, hml, findClass_of_methodNamed B.named, atoms_spec (ws := wd_Pairs_gatherFree) B.pre, hK, hA, hT, B.notSynchronized, hT.1, hT.2.1, hT.2.2.1, hT.2.2.2.1, hT.2.2.2.2⟩
  have hl := lv_entry ([.ref a_this]) (n := 2) (Nat.le_of_ble_eq_true rfl)
  rw [show entryFrame m args 2 = entryFrame m ([.ref a_this] : List Value).toArray 2 by rw [hargs], lg_entry_eq]
  exact w_Pairs_gatherFree cx h _ _ hP hD va_S.rf _ hl
abbrev rm_Pairs_arrange : Room := { frames := 2, cells := 0, slots := 0, locals := 44 }
abbrev wd_Pairs_arrange : List Cond := .code y_Pairs_arrange b_Pairs_arrange 5 none :: ct_G
def f_Pairs_arrange_L25 (x2 : Int32) (v_hull_size : Int32) (v_hull_members : Nat → Int32) : Nat → Int32 → Int32 → (Nat → Int32) → (Nat → Int32) → (Nat → Int32) → (Nat → Int32) → (Nat → Int32) → (Int32 → (Nat → Int32) → (Nat → Int32) → (Nat → Int32) → (Nat → Int32) → (Nat → Int32) → Option (Int32 × Int32 × (Nat → Int32) × (Nat → Int32) × (Nat → Int32) × (Nat → Int32) × (Nat → Int32) × (Nat → Int32))) → Option (Int32 × Int32 × (Nat → Int32) × (Nat → Int32) × (Nat → Int32) × (Nat → Int32) × (Nat → Int32) × (Nat → Int32))
  | 0, _, _, _, _, _, _, _, _ => none
  | n + 1, x3, v_size, v_second, v_cell, v_power, v_share, v_hanging, k => (if v_hull_size ≤ x3 then (k v_size v_second v_cell v_power v_share v_hanging) else (if x2 < 0 ∨ 6 ≤ x2.toNatClampNeg then none else (if x3 < 0 ∨ 6 ≤ x3.toNatClampNeg then none else ((f_Pairs_productOf (v_hull_members x2.toNatClampNeg) (v_hull_members x3.toNatClampNeg)).bind (fun r_118 => (if r_118 = (-1) then (f_Pairs_arrange_L25 x2 v_hull_size v_hull_members n (x3 + 1) v_size v_second v_cell v_power v_share v_hanging k) else ((f_Pairs_add x2 x3 r_118 v_size v_second v_cell v_power v_share v_hanging).bind (fun (v_size_125, v_second_126, v_cell_127, v_power_128, v_share_129, v_hanging_130) => (f_Pairs_arrange_L25 x2 v_hull_size v_hull_members n (x3 + 1) v_size_125 v_second_126 v_cell_127 v_power_128 v_share_129 v_hanging_130 k)))))))))
def f_Pairs_arrange_L15 (v_hull_size : Int32) (v_hull_members : Nat → Int32) : Nat → Int32 → Int32 → (Nat → Int32) → (Nat → Int32) → (Nat → Int32) → (Nat → Int32) → (Nat → Int32) → (Int32 → (Nat → Int32) → (Nat → Int32) → (Nat → Int32) → (Nat → Int32) → (Nat → Int32) → Option (Int32 × Int32 × (Nat → Int32) × (Nat → Int32) × (Nat → Int32) × (Nat → Int32) × (Nat → Int32) × (Nat → Int32))) → Option (Int32 × Int32 × (Nat → Int32) × (Nat → Int32) × (Nat → Int32) × (Nat → Int32) × (Nat → Int32) × (Nat → Int32))
  | 0, _, _, _, _, _, _, _, _ => none
  | n + 1, x2, v_size, v_second, v_cell, v_power, v_share, v_hanging, k => (if v_hull_size ≤ x2 then (k v_size v_second v_cell v_power v_share v_hanging) else (f_Pairs_arrange_L25 x2 v_hull_size v_hull_members 40 x2 v_size v_second v_cell v_power v_share v_hanging (fun (v_size_131 : Int32) (v_second_132 : Nat → Int32) (v_cell_133 : Nat → Int32) (v_power_134 : Nat → Int32) (v_share_135 : Nat → Int32) (v_hanging_136 : Nat → Int32) => (f_Pairs_arrange_L15 v_hull_size v_hull_members n (x2 + 1) v_size_131 v_second_132 v_cell_133 v_power_134 v_share_135 v_hanging_136 k))))
def f_Pairs_arrange (v_second : Nat → Int32) (v_cell : Nat → Int32) (v_power : Nat → Int32) (v_share : Nat → Int32) (v_hanging : Nat → Int32) (v_freePairs : Nat → Int32) (v_hull_size : Int32) (v_hull_members : Nat → Int32) : Option (Int32 × Int32 × (Nat → Int32) × (Nat → Int32) × (Nat → Int32) × (Nat → Int32) × (Nat → Int32) × (Nat → Int32)) := ((f_Ar_fill_15 ((-1) : Int32) v_hanging).bind (fun v_arr_1 => (f_Pairs_arrange_L15 v_hull_size v_hull_members 40 0 0 v_second v_cell v_power v_share v_arr_1 (fun (v_size_137 : Int32) (v_second_138 : Nat → Int32) (v_cell_139 : Nat → Int32) (v_power_140 : Nat → Int32) (v_share_141 : Nat → Int32) (v_hanging_142 : Nat → Int32) => ((f_Pairs_gatherFree v_size_137 v_power_140 v_hanging_142 v_freePairs).bind (fun (v_freeSize_143, v_freePairs_144) => some (v_size_137, v_freeSize_143, v_second_138, v_cell_139, v_power_140, v_share_141, v_hanging_142, v_freePairs_144)))))))
set_option maxHeartbeats 4000000 in
set_option maxRecDepth 100000 in
theorem w_Pairs_arrange_L25 {p : Program} {l : Launch} {e : Env} {s : State} {m : MethodId} {args : Array Value} {below : List Frame} {meth : Method} {c : Code} {D : va_G} {cI cL cZ : ClassId} {tA tB : Nat} {A : Nat → Prop} {Q : State → Prop} {a_this a_second a_cell a_power a_share a_hanging a_freePairs a_rest a_hull a_hull_corner a_hull_outside a_hull_members : Nat} {x2 : Int32} {v_freeSize : Int32} {v_freePairs : Nat → Int32} {v_hull_size : Int32} {v_hull_members : Nat → Int32} {o_v_size : Int32} {o_v_freeSize : Int32} {o_v_second : Nat → Int32} {o_v_cell : Nat → Int32} {o_v_power : Nat → Int32} {o_v_share : Nat → Int32} {o_v_hanging : Nat → Int32} {o_v_freePairs : Nat → Int32} (cx : ct_Cx p s m args meth c b_Pairs_arrange 5 none R_Pairs wd_Pairs_arrange D (ct_tys cI cL cZ) tA tB A) : ∀ (n : Nat) (x3 : Int32) (v_size : Int32) (v_second : Nat → Int32) (v_cell : Nat → Int32) (v_power : Nat → Int32) (v_share : Nat → Int32) (v_hanging : Nat → Int32) (k : (Int32 → (Nat → Int32) → (Nat → Int32) → (Nat → Int32) → (Nat → Int32) → (Nat → Int32) → Option (Int32 × Int32 × (Nat → Int32) × (Nat → Int32) × (Nat → Int32) × (Nat → Int32) × (Nat → Int32) × (Nat → Int32)))), f_Pairs_arrange_L25 x2 v_hull_size v_hull_members n x3 v_size v_second v_cell v_power v_share v_hanging k = some (o_v_size, o_v_freeSize, o_v_second, o_v_cell, o_v_power, o_v_share, o_v_hanging, o_v_freePairs) → (∀ (v_size : Int32) (v_second : Nat → Int32) (v_cell : Nat → Int32) (v_power : Nat → Int32) (v_share : Nat → Int32) (v_hanging : Nat → Int32), k v_size v_second v_cell v_power v_share v_hanging = some (o_v_size, o_v_freeSize, o_v_second, o_v_cell, o_v_power, o_v_share, o_v_hanging, o_v_freePairs) → ∀ (H : Heap) (locs : List Loc), va_P D vwCl [(a_this, .inr (1, [.ref a_second, .ref a_cell, .ref a_power, .ref a_share, .ref a_hanging, .ref a_freePairs, .ref a_rest, .int v_size, .int v_freeSize])), (a_second, .inl (cI, 21, .inl v_second)), (a_cell, .inl (cI, 21, .inl v_cell)), (a_power, .inl (cI, 21, .inl v_power)), (a_share, .inl (cI, 21, .inl v_share)), (a_hanging, .inl (cI, 15, .inl v_hanging)), (a_freePairs, .inl (cI, 21, .inl v_freePairs)), (a_hull, .inr (0, [.ref a_hull_corner, .ref a_hull_outside, .ref a_hull_members, .int v_hull_size])), (a_hull_members, .inl (cI, 6, .inl v_hull_members))] H → va_D A [(a_this, .inr (1, [.ref a_second, .ref a_cell, .ref a_power, .ref a_share, .ref a_hanging, .ref a_freePairs, .ref a_rest, .int v_size, .int v_freeSize])), (a_second, .inl (cI, 21, .inl v_second)), (a_cell, .inl (cI, 21, .inl v_cell)), (a_power, .inl (cI, 21, .inl v_power)), (a_share, .inl (cI, 21, .inl v_share)), (a_hanging, .inl (cI, 15, .inl v_hanging)), (a_freePairs, .inl (cI, 21, .inl v_freePairs)), (a_hull, .inr (0, [.ref a_hull_corner, .ref a_hull_outside, .ref a_hull_members, .int v_hull_size])), (a_hull_members, .inl (cI, 6, .inl v_hull_members))] → va_S A s.heap H locs → ∀ ls : Array Slot, lv_has ls 5 [(2, .int x2), (0, .ref a_this), (1, .ref a_hull)] → W p l e (headSpec wd_Pairs_arrange rm_Pairs_arrange).room s m args below meth c H locs 0 0 Q (F0 m 70 ls [])) → ∀ (H : Heap) (locs : List Loc), va_P D vwCl [(a_this, .inr (1, [.ref a_second, .ref a_cell, .ref a_power, .ref a_share, .ref a_hanging, .ref a_freePairs, .ref a_rest, .int v_size, .int v_freeSize])), (a_second, .inl (cI, 21, .inl v_second)), (a_cell, .inl (cI, 21, .inl v_cell)), (a_power, .inl (cI, 21, .inl v_power)), (a_share, .inl (cI, 21, .inl v_share)), (a_hanging, .inl (cI, 15, .inl v_hanging)), (a_freePairs, .inl (cI, 21, .inl v_freePairs)), (a_hull, .inr (0, [.ref a_hull_corner, .ref a_hull_outside, .ref a_hull_members, .int v_hull_size])), (a_hull_members, .inl (cI, 6, .inl v_hull_members))] H → va_D A [(a_this, .inr (1, [.ref a_second, .ref a_cell, .ref a_power, .ref a_share, .ref a_hanging, .ref a_freePairs, .ref a_rest, .int v_size, .int v_freeSize])), (a_second, .inl (cI, 21, .inl v_second)), (a_cell, .inl (cI, 21, .inl v_cell)), (a_power, .inl (cI, 21, .inl v_power)), (a_share, .inl (cI, 21, .inl v_share)), (a_hanging, .inl (cI, 15, .inl v_hanging)), (a_freePairs, .inl (cI, 21, .inl v_freePairs)), (a_hull, .inr (0, [.ref a_hull_corner, .ref a_hull_outside, .ref a_hull_members, .int v_hull_size])), (a_hull_members, .inl (cI, 6, .inl v_hull_members))] → va_S A s.heap H locs → ∀ ls : Array Slot, lv_has ls 5 [(3, .int x3), (2, .int x2), (0, .ref a_this), (1, .ref a_hull)] → W p l e (headSpec wd_Pairs_arrange rm_Pairs_arrange).room s m args below meth c H locs 0 0 Q (F0 m 25 ls []) := by
  obtain ⟨hx, hb, hr, hml, hown, hts, hK, hA, hT, hlocks, hZA, hZB, hTA, hTB, hnw⟩ := id cx
  intro n
  induction n with
  | zero => intro x3 v_size v_second v_cell v_power v_share v_hanging k h; rw [f_Pairs_arrange_L25] at h; cases h
  | succ n ih =>
    intro x3 v_size v_second v_cell v_power v_share v_hanging k h hk H locs hP hD hS ls hl
    rw [f_Pairs_arrange_L25] at h
    refine lv_iload_n hx hb d_Pairs_arrange_25 rfl (lv_at hl 0 rfl) ?_
    refine lv_aload_n hx hb d_Pairs_arrange_26 rfl (lv_at hl 3 rfl) ?_
    refine va_getN (D := D) (ci := 0) (v := .int v_hull_size) (C := R_Hull) (T := T_Hull) (N := 4) hx hb hts (fun w h9 => ct_in (iw_Hull w h9)) hown hK hP 7 rfl rfl 3 (by decide) (ct_nest_use n_3 hnw) (fun _ h9 => h9) rfl d_Pairs_arrange_27 ?_
    refine lv_icmp_ge (tgt := 70) hx hb d_Pairs_arrange_30 (by decide) (fun hc => ?_) (fun hc => ?_)
    · rw [if_pos hc] at h
      exact hk _ _ _ _ _ _ h _ _ hP hD hS ls (lv_sub hl [1, 2, 3] rfl)
    · rw [if_neg hc] at h
      refine lv_aload_n hx hb d_Pairs_arrange_33 rfl (lv_at hl 3 rfl) ?_
      refine va_getN (D := D) (ci := 0) (v := .ref a_hull_members) (C := R_Hull) (T := T_Hull) (N := 4) hx hb hts (fun w h9 => ct_in (iw_Hull w h9)) hown hK hP 7 rfl rfl 2 (by decide) (ct_nest_use n_4 hnw) (fun _ h9 => h9) rfl d_Pairs_arrange_34 ?_
      refine lv_iload_n hx hb d_Pairs_arrange_37 rfl (lv_at hl 1 rfl) ?_
      obtain ⟨hin, h⟩ := ct_chk h
      refine va_iald hx hb hK hP 8 0 rfl rfl hin d_Pairs_arrange_38 ?_
      refine lv_aload_n hx hb d_Pairs_arrange_39 rfl (lv_at hl 3 rfl) ?_
      refine va_getN (D := D) (ci := 0) (v := .ref a_hull_members) (C := R_Hull) (T := T_Hull) (N := 4) hx hb hts (fun w h9 => ct_in (iw_Hull w h9)) hown hK hP 7 rfl rfl 2 (by decide) (ct_nest_use n_4 hnw) (fun _ h9 => h9) rfl d_Pairs_arrange_40 ?_
      refine lv_iload_n hx hb d_Pairs_arrange_43 rfl (lv_at hl 0 rfl) ?_
      obtain ⟨hin, h⟩ := ct_chk h
      refine va_iald hx hb hK hP 8 0 rfl rfl hin d_Pairs_arrange_44 ?_
      obtain ⟨r_118, ho, h⟩ := Option.bind_eq_some_iff.mp h
      refine ct_calli (wc := []) (wr := [(a_this, .inr (1, [.ref a_second, .ref a_cell, .ref a_power, .ref a_share, .ref a_hanging, .ref a_freePairs, .ref a_rest, .int v_size, .int v_freeSize])), (a_second, .inl (cI, 21, .inl v_second)), (a_cell, .inl (cI, 21, .inl v_cell)), (a_power, .inl (cI, 21, .inl v_power)), (a_share, .inl (cI, 21, .inl v_share)), (a_hanging, .inl (cI, 15, .inl v_hanging)), (a_freePairs, .inl (cI, 21, .inl v_freePairs)), (a_hull, .inr (0, [.ref a_hull_corner, .ref a_hull_outside, .ref a_hull_members, .int v_hull_size])), (a_hull_members, .inl (cI, 6, .inl v_hull_members))]) (wc' := []) (ws' := [(a_this, .inr (1, [.ref a_second, .ref a_cell, .ref a_power, .ref a_share, .ref a_hanging, .ref a_freePairs, .ref a_rest, .int v_size, .int v_freeSize])), (a_second, .inl (cI, 21, .inl v_second)), (a_cell, .inl (cI, 21, .inl v_cell)), (a_power, .inl (cI, 21, .inl v_power)), (a_share, .inl (cI, 21, .inl v_share)), (a_hanging, .inl (cI, 15, .inl v_hanging)), (a_freePairs, .inl (cI, 21, .inl v_freePairs)), (a_hull, .inr (0, [.ref a_hull_corner, .ref a_hull_outside, .ref a_hull_members, .int v_hull_size])), (a_hull_members, .inl (cI, 6, .inl v_hull_members))]) (va_runS (As := [.int (v_hull_members x2.toNatClampNeg), .int (v_hull_members x3.toNatClampNeg)]) (rest := []) ⟨hx, hb, hml, hown, hts⟩ (c_Pairs_productOf l D cI cL cZ tA tB H.size (v_hull_members x2.toNatClampNeg) (v_hull_members x3.toNatClampNeg) r_118 _ rfl ho) (va_cwS 2 hts (ct_goodS k_48 k_47 k_46 k_45) rfl rfl rfl (by decide +kernel) ⟨Nat.le_of_ble_eq_true rfl, Nat.le_of_ble_eq_true rfl⟩) (ct_preS (wc := []) hP hD hK hS hA hT [] rfl (by decide)) rfl rfl hl.1 rfl (lv_room (Nat.le_of_ble_eq_true rfl)) d_Pairs_arrange_45 ⟨Nat.zero_le _, Nat.zero_le _⟩) hP hD hS hA [] [0, 1, 2, 3, 4, 5, 6, 7, 8] rfl rfl (by decide) (by decide) [0, 1, 2, 3, 4, 5, 6, 7, 8] rfl (by decide) (fun H locs hP hD hS => ?_)
      refine lv_istore (lv' := [(4, .int r_118), (3, .int x3), (2, .int x2), (0, .ref a_this), (1, .ref a_hull)]) hx hb d_Pairs_arrange_48 hl (by decide) rfl (fun ls hl => ?_)
      refine lv_iload hx hb d_Pairs_arrange_50 (lv_at hl 0 rfl) ?_
      refine lv_iconst (v := (-1)) hx hb d_Pairs_arrange_52 (by decide) ?_
      refine lv_icmp_eq (tgt := 64) hx hb d_Pairs_arrange_53 (by decide) (fun hc => ?_) (fun hc => ?_)
      · rw [if_pos hc] at h
        refine lv_iinc (v := (x3 + 1)) (lv' := [(3, .int (x3 + 1)), (4, .int r_118), (2, .int x2), (0, .ref a_this), (1, .ref a_hull)]) hx hb d_Pairs_arrange_64 hl (k := 1) rfl rfl (by decide) rfl (fun ls hl => ?_)
        refine lv_goto (tgt := 25) hx hb d_Pairs_arrange_67 (by decide) ?_
        exact ih _ _ _ _ _ _ _ k h hk _ _ hP hD hS ls (lv_sub hl [0, 2, 3, 4] rfl)
      · rw [if_neg hc] at h
        refine lv_aload_n hx hb d_Pairs_arrange_56 rfl (lv_at hl 3 rfl) ?_
        refine lv_iload_n hx hb d_Pairs_arrange_57 rfl (lv_at hl 2 rfl) ?_
        refine lv_iload_n hx hb d_Pairs_arrange_58 rfl (lv_at hl 1 rfl) ?_
        refine lv_iload hx hb d_Pairs_arrange_59 (lv_at hl 0 rfl) ?_
        obtain ⟨⟨v_size_125, v_second_126, v_cell_127, v_power_128, v_share_129, v_hanging_130⟩, ho, h⟩ := Option.bind_eq_some_iff.mp h
        try dsimp only at h
        refine ct_callv (wc := [(a_this, .inr (1, [.ref a_second, .ref a_cell, .ref a_power, .ref a_share, .ref a_hanging, .ref a_freePairs, .ref a_rest, .int v_size, .int v_freeSize])), (a_second, .inl (cI, 21, .inl v_second)), (a_cell, .inl (cI, 21, .inl v_cell)), (a_power, .inl (cI, 21, .inl v_power)), (a_share, .inl (cI, 21, .inl v_share)), (a_hanging, .inl (cI, 15, .inl v_hanging))]) (wr := [(a_freePairs, .inl (cI, 21, .inl v_freePairs)), (a_hull, .inr (0, [.ref a_hull_corner, .ref a_hull_outside, .ref a_hull_members, .int v_hull_size])), (a_hull_members, .inl (cI, 6, .inl v_hull_members))]) (wc' := [(a_this, .inr (1, [.ref a_second, .ref a_cell, .ref a_power, .ref a_share, .ref a_hanging, .ref a_freePairs, .ref a_rest, .int v_size_125, .int v_freeSize])), (a_second, .inl (cI, 21, .inl v_second_126)), (a_cell, .inl (cI, 21, .inl v_cell_127)), (a_power, .inl (cI, 21, .inl v_power_128)), (a_share, .inl (cI, 21, .inl v_share_129)), (a_hanging, .inl (cI, 15, .inl v_hanging_130))]) (ws' := [(a_this, .inr (1, [.ref a_second, .ref a_cell, .ref a_power, .ref a_share, .ref a_hanging, .ref a_freePairs, .ref a_rest, .int v_size_125, .int v_freeSize])), (a_second, .inl (cI, 21, .inl v_second_126)), (a_cell, .inl (cI, 21, .inl v_cell_127)), (a_power, .inl (cI, 21, .inl v_power_128)), (a_share, .inl (cI, 21, .inl v_share_129)), (a_hanging, .inl (cI, 15, .inl v_hanging_130)), (a_freePairs, .inl (cI, 21, .inl v_freePairs)), (a_hull, .inr (0, [.ref a_hull_corner, .ref a_hull_outside, .ref a_hull_members, .int v_hull_size])), (a_hull_members, .inl (cI, 6, .inl v_hull_members))]) (va_runV (As := [.int x2, .int x3, .int r_118]) (rest := []) ⟨hx, hb, hml, hown, hts⟩ (c_Pairs_add l D cI cL cZ tA tB H.size a_this a_second a_cell a_power a_share a_hanging a_freePairs a_rest x2 x3 r_118 v_size v_freeSize v_second v_cell v_power v_share v_hanging v_size_125 v_second_126 v_cell_127 v_power_128 v_share_129 v_hanging_130 _ rfl ho) (cwV 3 hts (ct_goodV k_56 k_54 k_55 k_46 k_53) rfl rfl rfl (by decide +kernel) ⟨Nat.le_of_ble_eq_true rfl, Nat.le_of_ble_eq_true rfl⟩) (ct_preV (wc := [(a_this, .inr (1, [.ref a_second, .ref a_cell, .ref a_power, .ref a_share, .ref a_hanging, .ref a_freePairs, .ref a_rest, .int v_size, .int v_freeSize])), (a_second, .inl (cI, 21, .inl v_second)), (a_cell, .inl (cI, 21, .inl v_cell)), (a_power, .inl (cI, 21, .inl v_power)), (a_share, .inl (cI, 21, .inl v_share)), (a_hanging, .inl (cI, 15, .inl v_hanging))]) hP hD hK hS hA hT [0, 1, 2, 3, 4, 5] rfl (by decide) (ci := 1) (q0 := 0) rfl rfl) rfl rfl hl.1 rfl (lv_room (Nat.le_of_ble_eq_true rfl)) d_Pairs_arrange_61 ⟨Nat.zero_le _, Nat.zero_le _⟩) hP hD hS hA [0, 1, 2, 3, 4, 5] [6, 7, 8] rfl rfl (by decide) (by decide) [3, 4, 5, 6, 7, 8, 0, 1, 2] rfl (by decide) (fun H locs hP hD hS => ?_)
        refine lv_iinc (v := (x3 + 1)) (lv' := [(3, .int (x3 + 1)), (4, .int r_118), (2, .int x2), (0, .ref a_this), (1, .ref a_hull)]) hx hb d_Pairs_arrange_64 hl (k := 1) rfl rfl (by decide) rfl (fun ls hl => ?_)
        refine lv_goto (tgt := 25) hx hb d_Pairs_arrange_67 (by decide) ?_
        exact ih _ _ _ _ _ _ _ k h hk _ _ hP hD hS ls (lv_sub hl [0, 2, 3, 4] rfl)
set_option maxHeartbeats 4000000 in
set_option maxRecDepth 100000 in
theorem w_Pairs_arrange_L15 {p : Program} {l : Launch} {e : Env} {s : State} {m : MethodId} {args : Array Value} {below : List Frame} {meth : Method} {c : Code} {D : va_G} {cI cL cZ : ClassId} {tA tB : Nat} {A : Nat → Prop} {Q : State → Prop} {a_this a_second a_cell a_power a_share a_hanging a_freePairs a_rest a_hull a_hull_corner a_hull_outside a_hull_members : Nat} {v_freeSize : Int32} {v_freePairs : Nat → Int32} {v_hull_size : Int32} {v_hull_members : Nat → Int32} {o_v_size : Int32} {o_v_freeSize : Int32} {o_v_second : Nat → Int32} {o_v_cell : Nat → Int32} {o_v_power : Nat → Int32} {o_v_share : Nat → Int32} {o_v_hanging : Nat → Int32} {o_v_freePairs : Nat → Int32} (cx : ct_Cx p s m args meth c b_Pairs_arrange 5 none R_Pairs wd_Pairs_arrange D (ct_tys cI cL cZ) tA tB A) : ∀ (n : Nat) (x2 : Int32) (v_size : Int32) (v_second : Nat → Int32) (v_cell : Nat → Int32) (v_power : Nat → Int32) (v_share : Nat → Int32) (v_hanging : Nat → Int32) (k : (Int32 → (Nat → Int32) → (Nat → Int32) → (Nat → Int32) → (Nat → Int32) → (Nat → Int32) → Option (Int32 × Int32 × (Nat → Int32) × (Nat → Int32) × (Nat → Int32) × (Nat → Int32) × (Nat → Int32) × (Nat → Int32)))), f_Pairs_arrange_L15 v_hull_size v_hull_members n x2 v_size v_second v_cell v_power v_share v_hanging k = some (o_v_size, o_v_freeSize, o_v_second, o_v_cell, o_v_power, o_v_share, o_v_hanging, o_v_freePairs) → (∀ (v_size : Int32) (v_second : Nat → Int32) (v_cell : Nat → Int32) (v_power : Nat → Int32) (v_share : Nat → Int32) (v_hanging : Nat → Int32), k v_size v_second v_cell v_power v_share v_hanging = some (o_v_size, o_v_freeSize, o_v_second, o_v_cell, o_v_power, o_v_share, o_v_hanging, o_v_freePairs) → ∀ (H : Heap) (locs : List Loc), va_P D vwCl [(a_this, .inr (1, [.ref a_second, .ref a_cell, .ref a_power, .ref a_share, .ref a_hanging, .ref a_freePairs, .ref a_rest, .int v_size, .int v_freeSize])), (a_second, .inl (cI, 21, .inl v_second)), (a_cell, .inl (cI, 21, .inl v_cell)), (a_power, .inl (cI, 21, .inl v_power)), (a_share, .inl (cI, 21, .inl v_share)), (a_hanging, .inl (cI, 15, .inl v_hanging)), (a_freePairs, .inl (cI, 21, .inl v_freePairs)), (a_hull, .inr (0, [.ref a_hull_corner, .ref a_hull_outside, .ref a_hull_members, .int v_hull_size])), (a_hull_members, .inl (cI, 6, .inl v_hull_members))] H → va_D A [(a_this, .inr (1, [.ref a_second, .ref a_cell, .ref a_power, .ref a_share, .ref a_hanging, .ref a_freePairs, .ref a_rest, .int v_size, .int v_freeSize])), (a_second, .inl (cI, 21, .inl v_second)), (a_cell, .inl (cI, 21, .inl v_cell)), (a_power, .inl (cI, 21, .inl v_power)), (a_share, .inl (cI, 21, .inl v_share)), (a_hanging, .inl (cI, 15, .inl v_hanging)), (a_freePairs, .inl (cI, 21, .inl v_freePairs)), (a_hull, .inr (0, [.ref a_hull_corner, .ref a_hull_outside, .ref a_hull_members, .int v_hull_size])), (a_hull_members, .inl (cI, 6, .inl v_hull_members))] → va_S A s.heap H locs → ∀ ls : Array Slot, lv_has ls 5 [(0, .ref a_this)] → W p l e (headSpec wd_Pairs_arrange rm_Pairs_arrange).room s m args below meth c H locs 0 0 Q (F0 m 76 ls [])) → ∀ (H : Heap) (locs : List Loc), va_P D vwCl [(a_this, .inr (1, [.ref a_second, .ref a_cell, .ref a_power, .ref a_share, .ref a_hanging, .ref a_freePairs, .ref a_rest, .int v_size, .int v_freeSize])), (a_second, .inl (cI, 21, .inl v_second)), (a_cell, .inl (cI, 21, .inl v_cell)), (a_power, .inl (cI, 21, .inl v_power)), (a_share, .inl (cI, 21, .inl v_share)), (a_hanging, .inl (cI, 15, .inl v_hanging)), (a_freePairs, .inl (cI, 21, .inl v_freePairs)), (a_hull, .inr (0, [.ref a_hull_corner, .ref a_hull_outside, .ref a_hull_members, .int v_hull_size])), (a_hull_members, .inl (cI, 6, .inl v_hull_members))] H → va_D A [(a_this, .inr (1, [.ref a_second, .ref a_cell, .ref a_power, .ref a_share, .ref a_hanging, .ref a_freePairs, .ref a_rest, .int v_size, .int v_freeSize])), (a_second, .inl (cI, 21, .inl v_second)), (a_cell, .inl (cI, 21, .inl v_cell)), (a_power, .inl (cI, 21, .inl v_power)), (a_share, .inl (cI, 21, .inl v_share)), (a_hanging, .inl (cI, 15, .inl v_hanging)), (a_freePairs, .inl (cI, 21, .inl v_freePairs)), (a_hull, .inr (0, [.ref a_hull_corner, .ref a_hull_outside, .ref a_hull_members, .int v_hull_size])), (a_hull_members, .inl (cI, 6, .inl v_hull_members))] → va_S A s.heap H locs → ∀ ls : Array Slot, lv_has ls 5 [(2, .int x2), (0, .ref a_this), (1, .ref a_hull)] → W p l e (headSpec wd_Pairs_arrange rm_Pairs_arrange).room s m args below meth c H locs 0 0 Q (F0 m 15 ls []) := by
  obtain ⟨hx, hb, hr, hml, hown, hts, hK, hA, hT, hlocks, hZA, hZB, hTA, hTB, hnw⟩ := id cx
  intro n
  induction n with
  | zero => intro x2 v_size v_second v_cell v_power v_share v_hanging k h; rw [f_Pairs_arrange_L15] at h; cases h
  | succ n ih =>
    intro x2 v_size v_second v_cell v_power v_share v_hanging k h hk H locs hP hD hS ls hl
    rw [f_Pairs_arrange_L15] at h
    refine lv_iload_n hx hb d_Pairs_arrange_15 rfl (lv_at hl 0 rfl) ?_
    refine lv_aload_n hx hb d_Pairs_arrange_16 rfl (lv_at hl 2 rfl) ?_
    refine va_getN (D := D) (ci := 0) (v := .int v_hull_size) (C := R_Hull) (T := T_Hull) (N := 4) hx hb hts (fun w h9 => ct_in (iw_Hull w h9)) hown hK hP 7 rfl rfl 3 (by decide) (ct_nest_use n_3 hnw) (fun _ h9 => h9) rfl d_Pairs_arrange_17 ?_
    refine lv_icmp_ge (tgt := 76) hx hb d_Pairs_arrange_20 (by decide) (fun hc => ?_) (fun hc => ?_)
    · rw [if_pos hc] at h
      exact hk _ _ _ _ _ _ h _ _ hP hD hS ls (lv_sub hl [1] rfl)
    · rw [if_neg hc] at h
      refine lv_iload_n hx hb d_Pairs_arrange_23 rfl (lv_at hl 0 rfl) ?_
      refine lv_istore_n (lv' := [(3, .int x2), (2, .int x2), (0, .ref a_this), (1, .ref a_hull)]) hx hb d_Pairs_arrange_24 rfl hl (by decide) rfl (fun ls hl => ?_)
      refine w_Pairs_arrange_L25 cx _ _ _ _ _ _ _ _ _ h (fun v_size_131 v_second_132 v_cell_133 v_power_134 v_share_135 v_hanging_136 h H locs hP hD hS ls hl => ?_) _ _ hP hD hS ls (lv_sub hl [0, 1, 2, 3] rfl)
      try dsimp only at h
      refine lv_iinc (v := (x2 + 1)) (lv' := [(2, .int (x2 + 1)), (0, .ref a_this), (1, .ref a_hull)]) hx hb d_Pairs_arrange_70 hl (k := 0) rfl rfl (by decide) rfl (fun ls hl => ?_)
      refine lv_goto (tgt := 15) hx hb d_Pairs_arrange_73 (by decide) ?_
      exact ih _ _ _ _ _ _ _ k h hk _ _ hP hD hS ls (lv_sub hl [0, 1, 2] rfl)
set_option maxHeartbeats 4000000 in
set_option maxRecDepth 100000 in
theorem w_Pairs_arrange {p : Program} {l : Launch} {e : Env} {s : State} {m : MethodId} {args : Array Value} {below : List Frame} {meth : Method} {c : Code} {D : va_G} {cI cL cZ : ClassId} {tA tB : Nat} {A : Nat → Prop} {a_this a_second a_cell a_power a_share a_hanging a_freePairs a_rest a_hull a_hull_corner a_hull_outside a_hull_members : Nat} {v_size : Int32} {v_freeSize : Int32} {v_second : Nat → Int32} {v_cell : Nat → Int32} {v_power : Nat → Int32} {v_share : Nat → Int32} {v_hanging : Nat → Int32} {v_freePairs : Nat → Int32} {v_hull_size : Int32} {v_hull_members : Nat → Int32} {o_v_size : Int32} {o_v_freeSize : Int32} {o_v_second : Nat → Int32} {o_v_cell : Nat → Int32} {o_v_power : Nat → Int32} {o_v_share : Nat → Int32} {o_v_hanging : Nat → Int32} {o_v_freePairs : Nat → Int32} (cx : ct_Cx p s m args meth c b_Pairs_arrange 5 none R_Pairs wd_Pairs_arrange D (ct_tys cI cL cZ) tA tB A) (h : f_Pairs_arrange v_second v_cell v_power v_share v_hanging v_freePairs v_hull_size v_hull_members = some (o_v_size, o_v_freeSize, o_v_second, o_v_cell, o_v_power, o_v_share, o_v_hanging, o_v_freePairs)) : ∀ (H : Heap) (locs : List Loc), va_P D vwCl [(a_this, .inr (1, [.ref a_second, .ref a_cell, .ref a_power, .ref a_share, .ref a_hanging, .ref a_freePairs, .ref a_rest, .int v_size, .int v_freeSize])), (a_second, .inl (cI, 21, .inl v_second)), (a_cell, .inl (cI, 21, .inl v_cell)), (a_power, .inl (cI, 21, .inl v_power)), (a_share, .inl (cI, 21, .inl v_share)), (a_hanging, .inl (cI, 15, .inl v_hanging)), (a_freePairs, .inl (cI, 21, .inl v_freePairs)), (a_hull, .inr (0, [.ref a_hull_corner, .ref a_hull_outside, .ref a_hull_members, .int v_hull_size])), (a_hull_members, .inl (cI, 6, .inl v_hull_members))] H → va_D A [(a_this, .inr (1, [.ref a_second, .ref a_cell, .ref a_power, .ref a_share, .ref a_hanging, .ref a_freePairs, .ref a_rest, .int v_size, .int v_freeSize])), (a_second, .inl (cI, 21, .inl v_second)), (a_cell, .inl (cI, 21, .inl v_cell)), (a_power, .inl (cI, 21, .inl v_power)), (a_share, .inl (cI, 21, .inl v_share)), (a_hanging, .inl (cI, 15, .inl v_hanging)), (a_freePairs, .inl (cI, 21, .inl v_freePairs)), (a_hull, .inr (0, [.ref a_hull_corner, .ref a_hull_outside, .ref a_hull_members, .int v_hull_size])), (a_hull_members, .inl (cI, 6, .inl v_hull_members))] → va_S A s.heap H locs → ∀ ls : Array Slot, lv_has ls 5 [(0, .ref a_this), (1, .ref a_hull)] → W p l e (headSpec wd_Pairs_arrange rm_Pairs_arrange).room s m args below meth c H locs 0 0 (MQ below (ct_Qv D [(a_this, .inr (1, [.ref a_second, .ref a_cell, .ref a_power, .ref a_share, .ref a_hanging, .ref a_freePairs, .ref a_rest, .int o_v_size, .int o_v_freeSize])), (a_second, .inl (cI, 21, .inl o_v_second)), (a_cell, .inl (cI, 21, .inl o_v_cell)), (a_power, .inl (cI, 21, .inl o_v_power)), (a_share, .inl (cI, 21, .inl o_v_share)), (a_hanging, .inl (cI, 15, .inl o_v_hanging)), (a_freePairs, .inl (cI, 21, .inl o_v_freePairs)), (a_hull, .inr (0, [.ref a_hull_corner, .ref a_hull_outside, .ref a_hull_members, .int v_hull_size])), (a_hull_members, .inl (cI, 6, .inl v_hull_members))] A) args s 0 0 A) (F0 m 0 ls []) := by
  obtain ⟨hx, hb, hr, hml, hown, hts, hK, hA, hT, hlocks, hZA, hZB, hTA, hTB, hnw⟩ := id cx
  intro H locs hP hD hS ls hl
  rw [f_Pairs_arrange] at h
  refine lv_aload_n hx hb d_Pairs_arrange_0 rfl (lv_at hl 0 rfl) ?_
  refine va_get (D := D) (ci := 1) (v := .ref a_hanging) (C := R_Pairs) (T := T_Pairs) (N := 9) hx hb hts (fun w h9 => ct_in (iw_Pairs w h9)) hown hK hP 0 rfl rfl 4 (by decide) (hts _ (ct_in k_37)) (fun _ h9 => h9) rfl d_Pairs_arrange_1 ?_
  refine lv_iconst (v := (-1)) hx hb d_Pairs_arrange_4 (by decide) ?_
  obtain ⟨v_arr_1, ho, h⟩ := Option.bind_eq_some_iff.mp h
  refine ct_callv (wc := [(a_hanging, .inl (cI, 15, .inl v_hanging))]) (wr := [(a_this, .inr (1, [.ref a_second, .ref a_cell, .ref a_power, .ref a_share, .ref a_hanging, .ref a_freePairs, .ref a_rest, .int v_size, .int v_freeSize])), (a_second, .inl (cI, 21, .inl v_second)), (a_cell, .inl (cI, 21, .inl v_cell)), (a_power, .inl (cI, 21, .inl v_power)), (a_share, .inl (cI, 21, .inl v_share)), (a_freePairs, .inl (cI, 21, .inl v_freePairs)), (a_hull, .inr (0, [.ref a_hull_corner, .ref a_hull_outside, .ref a_hull_members, .int v_hull_size])), (a_hull_members, .inl (cI, 6, .inl v_hull_members))]) (wc' := [(a_hanging, .inl (cI, 15, .inl v_arr_1))]) (ws' := [(a_this, .inr (1, [.ref a_second, .ref a_cell, .ref a_power, .ref a_share, .ref a_hanging, .ref a_freePairs, .ref a_rest, .int v_size, .int v_freeSize])), (a_second, .inl (cI, 21, .inl v_second)), (a_cell, .inl (cI, 21, .inl v_cell)), (a_power, .inl (cI, 21, .inl v_power)), (a_share, .inl (cI, 21, .inl v_share)), (a_hanging, .inl (cI, 15, .inl v_arr_1)), (a_freePairs, .inl (cI, 21, .inl v_freePairs)), (a_hull, .inr (0, [.ref a_hull_corner, .ref a_hull_outside, .ref a_hull_members, .int v_hull_size])), (a_hull_members, .inl (cI, 6, .inl v_hull_members))]) (va_runS (As := [.ref a_hanging, .int (-1)]) (rest := []) ⟨hx, hb, hml, hown, hts⟩ (c_Ar_fill_15 l D cI cL cZ tA tB H.size a_hanging ((-1) : Int32) v_hanging v_arr_1 _ rfl ho) (va_cwS 2 hts (ct_goodS k_41 k_40 k_39 k_38) rfl rfl rfl (by decide +kernel) ⟨Nat.le_of_ble_eq_true rfl, Nat.le_of_ble_eq_true rfl⟩) (ct_preS (wc := [(a_hanging, .inl (cI, 15, .inl v_hanging))]) hP hD hK hS hA hT [5] rfl (by decide)) rfl rfl hl.1 rfl (lv_room (Nat.le_of_ble_eq_true rfl)) d_Pairs_arrange_5 ⟨Nat.zero_le _, Nat.zero_le _⟩) hP hD hS hA [5] [0, 1, 2, 3, 4, 6, 7, 8] rfl rfl (by decide) (by decide) [0, 1, 2, 3, 4, 8, 5, 6, 7] rfl (by decide) (fun H locs hP hD hS => ?_)
  refine lv_aload_n hx hb d_Pairs_arrange_8 rfl (lv_at hl 0 rfl) ?_
  refine lv_iconst (v := 0) hx hb d_Pairs_arrange_9 (by decide) ?_
  refine va_put (D := D) (ci := 1) (v := .int 0) (ty := .int) (C := R_Pairs) (T := T_Pairs) (N := 9) hx hb hts (fun w h9 => ct_in (iw_Pairs w h9)) t_Pairs tk_Pairs nm_Pairs hown hK hP hD hS 0 rfl rfl 7 (by decide) (hts _ (ct_in k_42)) (fun _ h9 => h9) rfl (by decide +kernel) rfl rfl (Nat.le_of_ble_eq_true rfl) d_Pairs_arrange_10 (fun H locs hP hD hS => ?_)
  have hP : va_P D vwCl [(a_this, .inr (1, [.ref a_second, .ref a_cell, .ref a_power, .ref a_share, .ref a_hanging, .ref a_freePairs, .ref a_rest, .int 0, .int v_freeSize])), (a_second, .inl (cI, 21, .inl v_second)), (a_cell, .inl (cI, 21, .inl v_cell)), (a_power, .inl (cI, 21, .inl v_power)), (a_share, .inl (cI, 21, .inl v_share)), (a_hanging, .inl (cI, 15, .inl v_arr_1)), (a_freePairs, .inl (cI, 21, .inl v_freePairs)), (a_hull, .inr (0, [.ref a_hull_corner, .ref a_hull_outside, .ref a_hull_members, .int v_hull_size])), (a_hull_members, .inl (cI, 6, .inl v_hull_members))] H := hP
  have hD : va_D A [(a_this, .inr (1, [.ref a_second, .ref a_cell, .ref a_power, .ref a_share, .ref a_hanging, .ref a_freePairs, .ref a_rest, .int 0, .int v_freeSize])), (a_second, .inl (cI, 21, .inl v_second)), (a_cell, .inl (cI, 21, .inl v_cell)), (a_power, .inl (cI, 21, .inl v_power)), (a_share, .inl (cI, 21, .inl v_share)), (a_hanging, .inl (cI, 15, .inl v_arr_1)), (a_freePairs, .inl (cI, 21, .inl v_freePairs)), (a_hull, .inr (0, [.ref a_hull_corner, .ref a_hull_outside, .ref a_hull_members, .int v_hull_size])), (a_hull_members, .inl (cI, 6, .inl v_hull_members))] := hD
  refine lv_iconst (v := 0) hx hb d_Pairs_arrange_13 (by decide) ?_
  refine lv_istore_n (lv' := [(2, .int 0), (0, .ref a_this), (1, .ref a_hull)]) hx hb d_Pairs_arrange_14 rfl hl (by decide) rfl (fun ls hl => ?_)
  refine w_Pairs_arrange_L15 cx _ _ _ _ _ _ _ _ _ h (fun v_size_137 v_second_138 v_cell_139 v_power_140 v_share_141 v_hanging_142 h H locs hP hD hS ls hl => ?_) _ _ hP hD hS ls (lv_sub hl [0, 1, 2] rfl)
  try dsimp only at h
  refine lv_aload_n hx hb d_Pairs_arrange_76 rfl (lv_at hl 0 rfl) ?_
  obtain ⟨⟨v_freeSize_143, v_freePairs_144⟩, ho, h⟩ := Option.bind_eq_some_iff.mp h
  try dsimp only at h
  refine ct_callv (wc := [(a_this, .inr (1, [.ref a_second, .ref a_cell, .ref a_power, .ref a_share, .ref a_hanging, .ref a_freePairs, .ref a_rest, .int v_size_137, .int v_freeSize])), (a_power, .inl (cI, 21, .inl v_power_140)), (a_hanging, .inl (cI, 15, .inl v_hanging_142)), (a_freePairs, .inl (cI, 21, .inl v_freePairs))]) (wr := [(a_second, .inl (cI, 21, .inl v_second_138)), (a_cell, .inl (cI, 21, .inl v_cell_139)), (a_share, .inl (cI, 21, .inl v_share_141)), (a_hull, .inr (0, [.ref a_hull_corner, .ref a_hull_outside, .ref a_hull_members, .int v_hull_size])), (a_hull_members, .inl (cI, 6, .inl v_hull_members))]) (wc' := [(a_this, .inr (1, [.ref a_second, .ref a_cell, .ref a_power, .ref a_share, .ref a_hanging, .ref a_freePairs, .ref a_rest, .int v_size_137, .int v_freeSize_143])), (a_power, .inl (cI, 21, .inl v_power_140)), (a_hanging, .inl (cI, 15, .inl v_hanging_142)), (a_freePairs, .inl (cI, 21, .inl v_freePairs_144))]) (ws' := [(a_this, .inr (1, [.ref a_second, .ref a_cell, .ref a_power, .ref a_share, .ref a_hanging, .ref a_freePairs, .ref a_rest, .int v_size_137, .int v_freeSize_143])), (a_second, .inl (cI, 21, .inl v_second_138)), (a_cell, .inl (cI, 21, .inl v_cell_139)), (a_power, .inl (cI, 21, .inl v_power_140)), (a_share, .inl (cI, 21, .inl v_share_141)), (a_hanging, .inl (cI, 15, .inl v_hanging_142)), (a_freePairs, .inl (cI, 21, .inl v_freePairs_144)), (a_hull, .inr (0, [.ref a_hull_corner, .ref a_hull_outside, .ref a_hull_members, .int v_hull_size])), (a_hull_members, .inl (cI, 6, .inl v_hull_members))]) (va_runV (As := []) (rest := []) ⟨hx, hb, hml, hown, hts⟩ (c_Pairs_gatherFree l D cI cL cZ tA tB H.size a_this a_second a_cell a_power a_share a_hanging a_freePairs a_rest v_size_137 v_freeSize v_power_140 v_hanging_142 v_freePairs v_freeSize_143 v_freePairs_144 _ rfl ho) (cwV 0 hts (ct_goodV k_62 k_60 k_61 k_46 k_59) rfl rfl rfl (by decide +kernel) ⟨Nat.le_of_ble_eq_true rfl, Nat.le_of_ble_eq_true rfl⟩) (ct_preV (wc := [(a_this, .inr (1, [.ref a_second, .ref a_cell, .ref a_power, .ref a_share, .ref a_hanging, .ref a_freePairs, .ref a_rest, .int v_size_137, .int v_freeSize])), (a_power, .inl (cI, 21, .inl v_power_140)), (a_hanging, .inl (cI, 15, .inl v_hanging_142)), (a_freePairs, .inl (cI, 21, .inl v_freePairs))]) hP hD hK hS hA hT [0, 3, 5, 6] rfl (by decide) (ci := 1) (q0 := 0) rfl rfl) rfl rfl hl.1 rfl (lv_room (Nat.le_of_ble_eq_true rfl)) d_Pairs_arrange_77 ⟨Nat.zero_le _, Nat.zero_le _⟩) hP hD hS hA [0, 3, 5, 6] [1, 2, 4, 7, 8] rfl rfl (by decide) (by decide) [5, 0, 1, 6, 2, 7, 8, 3, 4] rfl (by decide) (fun H locs hP hD hS => ?_)
  cases h
  exact W.vret hx hb hr (fun t ht hW => ⟨⟨(), rfl, trivial, by rw [ht]; exact hP, hD⟩, hS.F ht⟩) hS.2.2 d_Pairs_arrange_80
set_option maxHeartbeats 4000000 in
set_option maxRecDepth 100000 in
theorem c_Pairs_arrange (l : Launch) (D : va_G) (cI cL cZ : ClassId) (tA tB sz : Nat) (a_this a_second a_cell a_power a_share a_hanging a_freePairs a_rest a_hull a_hull_corner a_hull_outside a_hull_members : Nat) (v_size : Int32) (v_freeSize : Int32) (v_second : Nat → Int32) (v_cell : Nat → Int32) (v_power : Nat → Int32) (v_share : Nat → Int32) (v_hanging : Nat → Int32) (v_freePairs : Nat → Int32) (v_hull_size : Int32) (v_hull_members : Nat → Int32) (o_v_size : Int32) (o_v_freeSize : Int32) (o_v_second : Nat → Int32) (o_v_cell : Nat → Int32) (o_v_power : Nat → Int32) (o_v_share : Nat → Int32) (o_v_hanging : Nat → Int32) (o_v_freePairs : Nat → Int32) (A : Nat → Prop) (hAe : A = va_A [(a_this, .inr (1, [.ref a_second, .ref a_cell, .ref a_power, .ref a_share, .ref a_hanging, .ref a_freePairs, .ref a_rest, .int v_size, .int v_freeSize])), (a_second, .inl (cI, 21, .inl v_second)), (a_cell, .inl (cI, 21, .inl v_cell)), (a_power, .inl (cI, 21, .inl v_power)), (a_share, .inl (cI, 21, .inl v_share)), (a_hanging, .inl (cI, 15, .inl v_hanging)), (a_freePairs, .inl (cI, 21, .inl v_freePairs)), (a_hull, .inr (0, [.ref a_hull_corner, .ref a_hull_outside, .ref a_hull_members, .int v_hull_size])), (a_hull_members, .inl (cI, 6, .inl v_hull_members))] sz) (h : f_Pairs_arrange v_second v_cell v_power v_share v_hanging v_freePairs v_hull_size v_hull_members = some (o_v_size, o_v_freeSize, o_v_second, o_v_cell, o_v_power, o_v_share, o_v_hanging, o_v_freePairs)) : Met l y_Pairs_arrange wd_Pairs_arrange rm_Pairs_arrange (ct_Pre D (ct_tys cI cL cZ) tA tB [(a_this, .inr (1, [.ref a_second, .ref a_cell, .ref a_power, .ref a_share, .ref a_hanging, .ref a_freePairs, .ref a_rest, .int v_size, .int v_freeSize])), (a_second, .inl (cI, 21, .inl v_second)), (a_cell, .inl (cI, 21, .inl v_cell)), (a_power, .inl (cI, 21, .inl v_power)), (a_share, .inl (cI, 21, .inl v_share)), (a_hanging, .inl (cI, 15, .inl v_hanging)), (a_freePairs, .inl (cI, 21, .inl v_freePairs)), (a_hull, .inr (0, [.ref a_hull_corner, .ref a_hull_outside, .ref a_hull_members, .int v_hull_size])), (a_hull_members, .inl (cI, 6, .inl v_hull_members))] sz [.ref a_this, .ref a_hull]) (ct_Qv D [(a_this, .inr (1, [.ref a_second, .ref a_cell, .ref a_power, .ref a_share, .ref a_hanging, .ref a_freePairs, .ref a_rest, .int o_v_size, .int o_v_freeSize])), (a_second, .inl (cI, 21, .inl o_v_second)), (a_cell, .inl (cI, 21, .inl o_v_cell)), (a_power, .inl (cI, 21, .inl o_v_power)), (a_share, .inl (cI, 21, .inl o_v_share)), (a_hanging, .inl (cI, 15, .inl o_v_hanging)), (a_freePairs, .inl (cI, 21, .inl o_v_freePairs)), (a_hull, .inr (0, [.ref a_hull_corner, .ref a_hull_outside, .ref a_hull_members, .int v_hull_size])), (a_hull_members, .inl (cI, 6, .inl v_hull_members))] A) 0 0 A := by
  refine Met.ofW (cc := b_Pairs_arrange) (maxL := 5) (ret := none) (by decide) rfl ?_
  intro p e s m args below meth c s₁ B hml hv
  obtain ⟨hargs, hsz, hP, hK, hD0, hT⟩ := hv
  subst hsz
  have hD := hD0.self (sz := s.heap.size)
  rw [← hAe] at hD hT
  have hA : ∀ q : Nat, s.heap.size ≤ q → A q := fun q h => by rw [hAe]; exact Or.inr h
  clear hAe
  have cx : ct_Cx p s m args meth c b_Pairs_arrange 5 none R_Pairs wd_Pairs_arrange D (ct_tys cI cL cZ) tA tB A := ⟨B.exec, B.bytes, B.returns, hml, findClass_of_methodNamed B.named, atoms_spec (ws := wd_Pairs_arrange) B.pre, hK, hA, hT, B.notSynchronized, hT.1, hT.2.1, hT.2.2.1, hT.2.2.2.1, hT.2.2.2.2⟩
  have hl := lv_entry ([.ref a_this, .ref a_hull]) (n := 5) (Nat.le_of_ble_eq_true rfl)
  rw [show entryFrame m args 5 = entryFrame m ([.ref a_this, .ref a_hull] : List Value).toArray 5 by rw [hargs], lg_entry_eq]
  exact w_Pairs_arrange cx h _ _ hP hD va_S.rf _ hl
abbrev rm_Pairs_doubleInto : Room := { frames := 0, cells := 0, slots := 0, locals := 0 }
abbrev wd_Pairs_doubleInto : List Cond := .code y_Pairs_doubleInto b_Pairs_doubleInto 3 none :: ct_G
def f_Pairs_doubleInto_L2 (v_numbers : Nat → Int32) : Nat → Int32 → (Nat → Int32) → ((Nat → Int32) → Option ((Nat → Int32))) → Option ((Nat → Int32))
  | 0, _, _, _ => none
  | n + 1, x2, v_dbl, k => (if 15 ≤ x2 then (k v_dbl) else (if x2 < 0 ∨ 15 ≤ x2.toNatClampNeg then none else (if x2 < 0 ∨ 15 ≤ x2.toNatClampNeg then none else (f_Pairs_doubleInto_L2 v_numbers n (x2 + 1) (upd v_dbl x2.toNatClampNeg (2 * (v_numbers x2.toNatClampNeg))) k))))
def f_Pairs_doubleInto (v_dbl : Nat → Int32) (v_numbers : Nat → Int32) : Option ((Nat → Int32)) := (f_Pairs_doubleInto_L2 v_numbers 40 0 v_dbl (fun (v_dbl_1 : Nat → Int32) => some v_dbl_1))
set_option maxHeartbeats 4000000 in
set_option maxRecDepth 100000 in
theorem w_Pairs_doubleInto_L2 {p : Program} {l : Launch} {e : Env} {s : State} {m : MethodId} {args : Array Value} {below : List Frame} {meth : Method} {c : Code} {D : va_G} {cI cL cZ : ClassId} {tA tB : Nat} {A : Nat → Prop} {Q : State → Prop} {a_dbl a_numbers : Nat} {v_numbers : Nat → Int32} {o_v_dbl : Nat → Int32} (cx : ct_Cx p s m args meth c b_Pairs_doubleInto 3 none R_Pairs wd_Pairs_doubleInto D (ct_tys cI cL cZ) tA tB A) : ∀ (n : Nat) (x2 : Int32) (v_dbl : Nat → Int32) (k : ((Nat → Int32) → Option ((Nat → Int32)))), f_Pairs_doubleInto_L2 v_numbers n x2 v_dbl k = some o_v_dbl → (∀ (v_dbl : Nat → Int32), k v_dbl = some o_v_dbl → ∀ (H : Heap) (locs : List Loc), va_P D vwCl [(a_dbl, .inl (cI, 15, .inl v_dbl)), (a_numbers, .inl (cI, 15, .inl v_numbers))] H → va_D A [(a_dbl, .inl (cI, 15, .inl v_dbl)), (a_numbers, .inl (cI, 15, .inl v_numbers))] → va_S A s.heap H locs → ∀ ls : Array Slot, lv_has ls 3 [] → W p l e (headSpec wd_Pairs_doubleInto rm_Pairs_doubleInto).room s m args below meth c H locs 0 0 Q (F0 m 22 ls [])) → ∀ (H : Heap) (locs : List Loc), va_P D vwCl [(a_dbl, .inl (cI, 15, .inl v_dbl)), (a_numbers, .inl (cI, 15, .inl v_numbers))] H → va_D A [(a_dbl, .inl (cI, 15, .inl v_dbl)), (a_numbers, .inl (cI, 15, .inl v_numbers))] → va_S A s.heap H locs → ∀ ls : Array Slot, lv_has ls 3 [(2, .int x2), (0, .ref a_dbl), (1, .ref a_numbers)] → W p l e (headSpec wd_Pairs_doubleInto rm_Pairs_doubleInto).room s m args below meth c H locs 0 0 Q (F0 m 2 ls []) := by
  obtain ⟨hx, hb, hr, hml, hown, hts, hK, hA, hT, hlocks, hZA, hZB, hTA, hTB, hnw⟩ := id cx
  intro n
  induction n with
  | zero => intro x2 v_dbl k h; rw [f_Pairs_doubleInto_L2] at h; cases h
  | succ n ih =>
    intro x2 v_dbl k h hk H locs hP hD hS ls hl
    rw [f_Pairs_doubleInto_L2] at h
    refine lv_iload_n hx hb d_Pairs_doubleInto_2 rfl (lv_at hl 0 rfl) ?_
    refine lv_bipush (v := 15) hx hb d_Pairs_doubleInto_3 (by decide) ?_
    refine lv_icmp_ge (tgt := 22) hx hb d_Pairs_doubleInto_5 (by decide) (fun hc => ?_) (fun hc => ?_)
    · rw [if_pos hc] at h
      exact hk _ h _ _ hP hD hS ls (lv_sub hl [] rfl)
    · rw [if_neg hc] at h
      refine lv_aload_n hx hb d_Pairs_doubleInto_8 rfl (lv_at hl 1 rfl) ?_
      refine lv_iload_n hx hb d_Pairs_doubleInto_9 rfl (lv_at hl 0 rfl) ?_
      refine lv_iconst (v := 2) hx hb d_Pairs_doubleInto_10 (by decide) ?_
      refine lv_aload_n hx hb d_Pairs_doubleInto_11 rfl (lv_at hl 2 rfl) ?_
      refine lv_iload_n hx hb d_Pairs_doubleInto_12 rfl (lv_at hl 0 rfl) ?_
      obtain ⟨hin, h⟩ := ct_chk h
      refine va_iald hx hb hK hP 1 0 rfl rfl hin d_Pairs_doubleInto_13 ?_
      refine lv_imul hx hb d_Pairs_doubleInto_14 ?_
      obtain ⟨hin, h⟩ := ct_chk h
      refine va_iast hx hb hK hP hD hS 0 0 rfl rfl hin d_Pairs_doubleInto_15 (fun H locs hP hD hS => ?_)
      have hP : va_P D vwCl [(a_dbl, .inl (cI, 15, .inl (upd v_dbl x2.toNatClampNeg (2 * (v_numbers x2.toNatClampNeg))))), (a_numbers, .inl (cI, 15, .inl v_numbers))] H := hP
      have hD : va_D A [(a_dbl, .inl (cI, 15, .inl (upd v_dbl x2.toNatClampNeg (2 * (v_numbers x2.toNatClampNeg))))), (a_numbers, .inl (cI, 15, .inl v_numbers))] := hD
      refine lv_iinc (v := (x2 + 1)) (lv' := [(2, .int (x2 + 1)), (0, .ref a_dbl), (1, .ref a_numbers)]) hx hb d_Pairs_doubleInto_16 hl (k := 0) rfl rfl (by decide) rfl (fun ls hl => ?_)
      refine lv_goto (tgt := 2) hx hb d_Pairs_doubleInto_19 (by decide) ?_
      exact ih _ _ k h hk _ _ hP hD hS ls (lv_sub hl [0, 1, 2] rfl)
set_option maxHeartbeats 4000000 in
set_option maxRecDepth 100000 in
theorem w_Pairs_doubleInto {p : Program} {l : Launch} {e : Env} {s : State} {m : MethodId} {args : Array Value} {below : List Frame} {meth : Method} {c : Code} {D : va_G} {cI cL cZ : ClassId} {tA tB : Nat} {A : Nat → Prop} {a_dbl a_numbers : Nat} {v_dbl : Nat → Int32} {v_numbers : Nat → Int32} {o_v_dbl : Nat → Int32} (cx : ct_Cx p s m args meth c b_Pairs_doubleInto 3 none R_Pairs wd_Pairs_doubleInto D (ct_tys cI cL cZ) tA tB A) (h : f_Pairs_doubleInto v_dbl v_numbers = some o_v_dbl) : ∀ (H : Heap) (locs : List Loc), va_P D vwCl [(a_dbl, .inl (cI, 15, .inl v_dbl)), (a_numbers, .inl (cI, 15, .inl v_numbers))] H → va_D A [(a_dbl, .inl (cI, 15, .inl v_dbl)), (a_numbers, .inl (cI, 15, .inl v_numbers))] → va_S A s.heap H locs → ∀ ls : Array Slot, lv_has ls 3 [(0, .ref a_dbl), (1, .ref a_numbers)] → W p l e (headSpec wd_Pairs_doubleInto rm_Pairs_doubleInto).room s m args below meth c H locs 0 0 (MQ below (ct_Qv D [(a_dbl, .inl (cI, 15, .inl o_v_dbl)), (a_numbers, .inl (cI, 15, .inl v_numbers))] A) args s 0 0 A) (F0 m 0 ls []) := by
  obtain ⟨hx, hb, hr, hml, hown, hts, hK, hA, hT, hlocks, hZA, hZB, hTA, hTB, hnw⟩ := id cx
  intro H locs hP hD hS ls hl
  rw [f_Pairs_doubleInto] at h
  refine lv_iconst (v := 0) hx hb d_Pairs_doubleInto_0 (by decide) ?_
  refine lv_istore_n (lv' := [(2, .int 0), (0, .ref a_dbl), (1, .ref a_numbers)]) hx hb d_Pairs_doubleInto_1 rfl hl (by decide) rfl (fun ls hl => ?_)
  refine w_Pairs_doubleInto_L2 cx _ _ _ _ h (fun v_dbl_1 h H locs hP hD hS ls hl => ?_) _ _ hP hD hS ls (lv_sub hl [0, 1, 2] rfl)
  try dsimp only at h
  cases h
  exact W.vret hx hb hr (fun t ht hW => ⟨⟨(), rfl, trivial, by rw [ht]; exact hP, hD⟩, hS.F ht⟩) hS.2.2 d_Pairs_doubleInto_22
set_option maxHeartbeats 4000000 in
set_option maxRecDepth 100000 in
theorem c_Pairs_doubleInto (l : Launch) (D : va_G) (cI cL cZ : ClassId) (tA tB sz : Nat) (a_dbl a_numbers : Nat) (v_dbl : Nat → Int32) (v_numbers : Nat → Int32) (o_v_dbl : Nat → Int32) (A : Nat → Prop) (hAe : A = va_A [(a_dbl, .inl (cI, 15, .inl v_dbl)), (a_numbers, .inl (cI, 15, .inl v_numbers))] sz) (h : f_Pairs_doubleInto v_dbl v_numbers = some o_v_dbl) : Met l y_Pairs_doubleInto wd_Pairs_doubleInto rm_Pairs_doubleInto (ct_Pre D (ct_tys cI cL cZ) tA tB [(a_dbl, .inl (cI, 15, .inl v_dbl)), (a_numbers, .inl (cI, 15, .inl v_numbers))] sz [.ref a_dbl, .ref a_numbers]) (ct_Qv D [(a_dbl, .inl (cI, 15, .inl o_v_dbl)), (a_numbers, .inl (cI, 15, .inl v_numbers))] A) 0 0 A := by
  refine Met.ofW (cc := b_Pairs_doubleInto) (maxL := 3) (ret := none) (by decide) rfl ?_
  intro p e s m args below meth c s₁ B hml hv
  obtain ⟨hargs, hsz, hP, hK, hD0, hT⟩ := hv
  subst hsz
  have hD := hD0.self (sz := s.heap.size)
  rw [← hAe] at hD hT
  have hA : ∀ q : Nat, s.heap.size ≤ q → A q := fun q h => by rw [hAe]; exact Or.inr h
  clear hAe
  have cx : ct_Cx p s m args meth c b_Pairs_doubleInto 3 none R_Pairs wd_Pairs_doubleInto D (ct_tys cI cL cZ) tA tB A := ⟨B.exec, B.bytes, B.returns, hml, findClass_of_methodNamed B.named, atoms_spec (ws := wd_Pairs_doubleInto) B.pre, hK, hA, hT, B.notSynchronized, hT.1, hT.2.1, hT.2.2.1, hT.2.2.2.1, hT.2.2.2.2⟩
  have hl := lv_entry ([.ref a_dbl, .ref a_numbers]) (n := 3) (Nat.le_of_ble_eq_true rfl)
  rw [show entryFrame m args 3 = entryFrame m ([.ref a_dbl, .ref a_numbers] : List Value).toArray 3 by rw [hargs], lg_entry_eq]
  exact w_Pairs_doubleInto cx h _ _ hP hD va_S.rf _ hl
abbrev rm_Pairs_make : Room := { frames := 1, cells := 0, slots := 0, locals := 22 }
abbrev wd_Pairs_make : List Cond := .code y_Pairs_make b_Pairs_make 4 (some .boolean) :: ct_G
def f_Pairs_make_L10 (v_size : Int32) (v_cell : Nat → Int32) (v_power : Nat → Int32) (v_share : Nat → Int32) (v_tbl : Nat → Int32) : Nat → Int32 → (Nat → Int32) → ((Nat → Int32) → Option (Int32 × (Nat → Int32))) → Option (Int32 × (Nat → Int32))
  | 0, _, _, _ => none
  | n + 1, x3, v_rest, k => (if v_size ≤ x3 then (k v_rest) else (if x3 < 0 ∨ 21 ≤ x3.toNatClampNeg then none else (if (v_power x3.toNatClampNeg) < 0 ∨ 15 ≤ (v_power x3.toNatClampNeg).toNatClampNeg then none else (if x3 < 0 ∨ 21 ≤ x3.toNatClampNeg then none else (if x3 < 0 ∨ 21 ≤ x3.toNatClampNeg then none else (if (v_cell x3.toNatClampNeg) < 0 ∨ 36 ≤ (v_cell x3.toNatClampNeg).toNatClampNeg then none else (if (v_power x3.toNatClampNeg) < 0 ∨ 15 ≤ (v_power x3.toNatClampNeg).toNatClampNeg then none else (f_Pairs_make_L10 v_size v_cell v_power v_share v_tbl n (x3 + 1) (upd v_rest (v_power x3.toNatClampNeg).toNatClampNeg ((v_rest (v_power x3.toNatClampNeg).toNatClampNeg) - ((v_share x3.toNatClampNeg) * (v_tbl (v_cell x3.toNatClampNeg).toNatClampNeg)))) k))))))))
def f_Pairs_make_L55 (v_rest : Nat → Int32) : Nat → Int32 → (Unit → Option (Int32 × (Nat → Int32))) → Option (Int32 × (Nat → Int32))
  | 0, _, _ => none
  | n + 1, x3, k => (if 15 ≤ x3 then k () else (if x3 < 0 ∨ 15 ≤ x3.toNatClampNeg then none else (if (v_rest x3.toNatClampNeg) = 0 then (f_Pairs_make_L55 v_rest n (x3 + 1) k) else some ((0 : Int32), v_rest))))
def f_Pairs_make (v_size : Int32) (v_cell : Nat → Int32) (v_power : Nat → Int32) (v_share : Nat → Int32) (v_rest : Nat → Int32) (v_tbl : Nat → Int32) (v_numbers : Nat → Int32) : Option (Int32 × (Nat → Int32)) := ((f_Pairs_doubleInto v_rest v_numbers).bind (fun v_dbl_1 => (f_Pairs_make_L10 v_size v_cell v_power v_share v_tbl 40 0 v_dbl_1 (fun (v_rest_2 : Nat → Int32) => (f_Pairs_make_L55 v_rest_2 40 0 (fun (_ : Unit) => some ((1 : Int32), v_rest_2)))))))
set_option maxHeartbeats 4000000 in
set_option maxRecDepth 100000 in
theorem w_Pairs_make_L10 {p : Program} {l : Launch} {e : Env} {s : State} {m : MethodId} {args : Array Value} {below : List Frame} {meth : Method} {c : Code} {D : va_G} {cI cL cZ : ClassId} {tA tB : Nat} {A : Nat → Prop} {Q : State → Prop} {a_this a_second a_cell a_power a_share a_hanging a_freePairs a_rest a_tbl a_numbers : Nat} {v_size : Int32} {v_freeSize : Int32} {v_cell : Nat → Int32} {v_power : Nat → Int32} {v_share : Nat → Int32} {v_tbl : Nat → Int32} {v_numbers : Nat → Int32} {o_r : Int32} {o_v_rest : Nat → Int32} (cx : ct_Cx p s m args meth c b_Pairs_make 4 (some .boolean) R_Pairs wd_Pairs_make D (ct_tys cI cL cZ) tA tB A) : ∀ (n : Nat) (x3 : Int32) (v_rest : Nat → Int32) (k : ((Nat → Int32) → Option (Int32 × (Nat → Int32)))), f_Pairs_make_L10 v_size v_cell v_power v_share v_tbl n x3 v_rest k = some (o_r, o_v_rest) → (∀ (v_rest : Nat → Int32), k v_rest = some (o_r, o_v_rest) → ∀ (H : Heap) (locs : List Loc), va_P D vwCl [(a_this, .inr (1, [.ref a_second, .ref a_cell, .ref a_power, .ref a_share, .ref a_hanging, .ref a_freePairs, .ref a_rest, .int v_size, .int v_freeSize])), (a_cell, .inl (cI, 21, .inl v_cell)), (a_power, .inl (cI, 21, .inl v_power)), (a_share, .inl (cI, 21, .inl v_share)), (a_rest, .inl (cI, 15, .inl v_rest)), (a_tbl, .inl (cI, 36, .inl v_tbl)), (a_numbers, .inl (cI, 15, .inl v_numbers))] H → va_D A [(a_this, .inr (1, [.ref a_second, .ref a_cell, .ref a_power, .ref a_share, .ref a_hanging, .ref a_freePairs, .ref a_rest, .int v_size, .int v_freeSize])), (a_cell, .inl (cI, 21, .inl v_cell)), (a_power, .inl (cI, 21, .inl v_power)), (a_share, .inl (cI, 21, .inl v_share)), (a_rest, .inl (cI, 15, .inl v_rest)), (a_tbl, .inl (cI, 36, .inl v_tbl)), (a_numbers, .inl (cI, 15, .inl v_numbers))] → va_S A s.heap H locs → ∀ ls : Array Slot, lv_has ls 4 [(0, .ref a_this)] → W p l e (headSpec wd_Pairs_make rm_Pairs_make).room s m args below meth c H locs 0 0 Q (F0 m 53 ls [])) → ∀ (H : Heap) (locs : List Loc), va_P D vwCl [(a_this, .inr (1, [.ref a_second, .ref a_cell, .ref a_power, .ref a_share, .ref a_hanging, .ref a_freePairs, .ref a_rest, .int v_size, .int v_freeSize])), (a_cell, .inl (cI, 21, .inl v_cell)), (a_power, .inl (cI, 21, .inl v_power)), (a_share, .inl (cI, 21, .inl v_share)), (a_rest, .inl (cI, 15, .inl v_rest)), (a_tbl, .inl (cI, 36, .inl v_tbl)), (a_numbers, .inl (cI, 15, .inl v_numbers))] H → va_D A [(a_this, .inr (1, [.ref a_second, .ref a_cell, .ref a_power, .ref a_share, .ref a_hanging, .ref a_freePairs, .ref a_rest, .int v_size, .int v_freeSize])), (a_cell, .inl (cI, 21, .inl v_cell)), (a_power, .inl (cI, 21, .inl v_power)), (a_share, .inl (cI, 21, .inl v_share)), (a_rest, .inl (cI, 15, .inl v_rest)), (a_tbl, .inl (cI, 36, .inl v_tbl)), (a_numbers, .inl (cI, 15, .inl v_numbers))] → va_S A s.heap H locs → ∀ ls : Array Slot, lv_has ls 4 [(3, .int x3), (0, .ref a_this), (1, .ref a_tbl)] → W p l e (headSpec wd_Pairs_make rm_Pairs_make).room s m args below meth c H locs 0 0 Q (F0 m 10 ls []) := by
  obtain ⟨hx, hb, hr, hml, hown, hts, hK, hA, hT, hlocks, hZA, hZB, hTA, hTB, hnw⟩ := id cx
  intro n
  induction n with
  | zero => intro x3 v_rest k h; rw [f_Pairs_make_L10] at h; cases h
  | succ n ih =>
    intro x3 v_rest k h hk H locs hP hD hS ls hl
    rw [f_Pairs_make_L10] at h
    refine lv_iload_n hx hb d_Pairs_make_10 rfl (lv_at hl 0 rfl) ?_
    refine lv_aload_n hx hb d_Pairs_make_11 rfl (lv_at hl 1 rfl) ?_
    refine va_get (D := D) (ci := 1) (v := .int v_size) (C := R_Pairs) (T := T_Pairs) (N := 9) hx hb hts (fun w h9 => ct_in (iw_Pairs w h9)) hown hK hP 0 rfl rfl 7 (by decide) (hts _ (ct_in k_42)) (fun _ h9 => h9) rfl d_Pairs_make_12 ?_
    refine lv_icmp_ge (tgt := 53) hx hb d_Pairs_make_15 (by decide) (fun hc => ?_) (fun hc => ?_)
    · rw [if_pos hc] at h
      exact hk _ h _ _ hP hD hS ls (lv_sub hl [1] rfl)
    · rw [if_neg hc] at h
      refine lv_aload_n hx hb d_Pairs_make_18 rfl (lv_at hl 1 rfl) ?_
      refine va_get (D := D) (ci := 1) (v := .ref a_rest) (C := R_Pairs) (T := T_Pairs) (N := 9) hx hb hts (fun w h9 => ct_in (iw_Pairs w h9)) hown hK hP 0 rfl rfl 6 (by decide) (hts _ (ct_in k_63)) (fun _ h9 => h9) rfl d_Pairs_make_19 ?_
      refine lv_aload_n hx hb d_Pairs_make_22 rfl (lv_at hl 1 rfl) ?_
      refine va_get (D := D) (ci := 1) (v := .ref a_power) (C := R_Pairs) (T := T_Pairs) (N := 9) hx hb hts (fun w h9 => ct_in (iw_Pairs w h9)) hown hK hP 0 rfl rfl 2 (by decide) (hts _ (ct_in k_51)) (fun _ h9 => h9) rfl d_Pairs_make_23 ?_
      refine lv_iload_n hx hb d_Pairs_make_26 rfl (lv_at hl 0 rfl) ?_
      obtain ⟨hin, h⟩ := ct_chk h
      refine va_iald hx hb hK hP 2 0 rfl rfl hin d_Pairs_make_27 ?_
      refine lv_dup2_11 hx hb d_Pairs_make_28 rfl rfl ?_
      obtain ⟨hin, h⟩ := ct_chk h
      refine va_iald hx hb hK hP 4 0 rfl rfl hin d_Pairs_make_29 ?_
      refine lv_aload_n hx hb d_Pairs_make_30 rfl (lv_at hl 1 rfl) ?_
      refine va_get (D := D) (ci := 1) (v := .ref a_share) (C := R_Pairs) (T := T_Pairs) (N := 9) hx hb hts (fun w h9 => ct_in (iw_Pairs w h9)) hown hK hP 0 rfl rfl 3 (by decide) (hts _ (ct_in k_52)) (fun _ h9 => h9) rfl d_Pairs_make_31 ?_
      refine lv_iload_n hx hb d_Pairs_make_34 rfl (lv_at hl 0 rfl) ?_
      obtain ⟨hin, h⟩ := ct_chk h
      refine va_iald hx hb hK hP 3 0 rfl rfl hin d_Pairs_make_35 ?_
      refine lv_aload_n hx hb d_Pairs_make_36 rfl (lv_at hl 2 rfl) ?_
      refine lv_aload_n hx hb d_Pairs_make_37 rfl (lv_at hl 1 rfl) ?_
      refine va_get (D := D) (ci := 1) (v := .ref a_cell) (C := R_Pairs) (T := T_Pairs) (N := 9) hx hb hts (fun w h9 => ct_in (iw_Pairs w h9)) hown hK hP 0 rfl rfl 1 (by decide) (hts _ (ct_in k_50)) (fun _ h9 => h9) rfl d_Pairs_make_38 ?_
      refine lv_iload_n hx hb d_Pairs_make_41 rfl (lv_at hl 0 rfl) ?_
      obtain ⟨hin, h⟩ := ct_chk h
      refine va_iald hx hb hK hP 1 0 rfl rfl hin d_Pairs_make_42 ?_
      obtain ⟨hin, h⟩ := ct_chk h
      refine va_iald hx hb hK hP 5 0 rfl rfl hin d_Pairs_make_43 ?_
      refine lv_imul hx hb d_Pairs_make_44 ?_
      refine lv_isub hx hb d_Pairs_make_45 ?_
      obtain ⟨hin, h⟩ := ct_chk h
      refine va_iast hx hb hK hP hD hS 4 0 rfl rfl hin d_Pairs_make_46 (fun H locs hP hD hS => ?_)
      have hP : va_P D vwCl [(a_this, .inr (1, [.ref a_second, .ref a_cell, .ref a_power, .ref a_share, .ref a_hanging, .ref a_freePairs, .ref a_rest, .int v_size, .int v_freeSize])), (a_cell, .inl (cI, 21, .inl v_cell)), (a_power, .inl (cI, 21, .inl v_power)), (a_share, .inl (cI, 21, .inl v_share)), (a_rest, .inl (cI, 15, .inl (upd v_rest (v_power x3.toNatClampNeg).toNatClampNeg ((v_rest (v_power x3.toNatClampNeg).toNatClampNeg) - ((v_share x3.toNatClampNeg) * (v_tbl (v_cell x3.toNatClampNeg).toNatClampNeg)))))), (a_tbl, .inl (cI, 36, .inl v_tbl)), (a_numbers, .inl (cI, 15, .inl v_numbers))] H := hP
      have hD : va_D A [(a_this, .inr (1, [.ref a_second, .ref a_cell, .ref a_power, .ref a_share, .ref a_hanging, .ref a_freePairs, .ref a_rest, .int v_size, .int v_freeSize])), (a_cell, .inl (cI, 21, .inl v_cell)), (a_power, .inl (cI, 21, .inl v_power)), (a_share, .inl (cI, 21, .inl v_share)), (a_rest, .inl (cI, 15, .inl (upd v_rest (v_power x3.toNatClampNeg).toNatClampNeg ((v_rest (v_power x3.toNatClampNeg).toNatClampNeg) - ((v_share x3.toNatClampNeg) * (v_tbl (v_cell x3.toNatClampNeg).toNatClampNeg)))))), (a_tbl, .inl (cI, 36, .inl v_tbl)), (a_numbers, .inl (cI, 15, .inl v_numbers))] := hD
      refine lv_iinc (v := (x3 + 1)) (lv' := [(3, .int (x3 + 1)), (0, .ref a_this), (1, .ref a_tbl)]) hx hb d_Pairs_make_47 hl (k := 0) rfl rfl (by decide) rfl (fun ls hl => ?_)
      refine lv_goto (tgt := 10) hx hb d_Pairs_make_50 (by decide) ?_
      exact ih _ _ k h hk _ _ hP hD hS ls (lv_sub hl [0, 1, 2] rfl)
set_option maxHeartbeats 4000000 in
set_option maxRecDepth 100000 in
theorem w_Pairs_make_L55 {p : Program} {l : Launch} {e : Env} {s : State} {m : MethodId} {args : Array Value} {below : List Frame} {meth : Method} {c : Code} {D : va_G} {cI cL cZ : ClassId} {tA tB : Nat} {A : Nat → Prop} {a_this a_second a_cell a_power a_share a_hanging a_freePairs a_rest a_tbl a_numbers : Nat} {v_size : Int32} {v_freeSize : Int32} {v_cell : Nat → Int32} {v_power : Nat → Int32} {v_share : Nat → Int32} {v_rest : Nat → Int32} {v_tbl : Nat → Int32} {v_numbers : Nat → Int32} {o_r : Int32} {o_v_rest : Nat → Int32} (cx : ct_Cx p s m args meth c b_Pairs_make 4 (some .boolean) R_Pairs wd_Pairs_make D (ct_tys cI cL cZ) tA tB A) : ∀ (n : Nat) (x3 : Int32) (k : (Unit → Option (Int32 × (Nat → Int32)))), f_Pairs_make_L55 v_rest n x3 k = some (o_r, o_v_rest) → (∀ (u : Unit), k u = some (o_r, o_v_rest) → ∀ (H : Heap) (locs : List Loc), va_P D vwCl [(a_this, .inr (1, [.ref a_second, .ref a_cell, .ref a_power, .ref a_share, .ref a_hanging, .ref a_freePairs, .ref a_rest, .int v_size, .int v_freeSize])), (a_cell, .inl (cI, 21, .inl v_cell)), (a_power, .inl (cI, 21, .inl v_power)), (a_share, .inl (cI, 21, .inl v_share)), (a_rest, .inl (cI, 15, .inl v_rest)), (a_tbl, .inl (cI, 36, .inl v_tbl)), (a_numbers, .inl (cI, 15, .inl v_numbers))] H → va_D A [(a_this, .inr (1, [.ref a_second, .ref a_cell, .ref a_power, .ref a_share, .ref a_hanging, .ref a_freePairs, .ref a_rest, .int v_size, .int v_freeSize])), (a_cell, .inl (cI, 21, .inl v_cell)), (a_power, .inl (cI, 21, .inl v_power)), (a_share, .inl (cI, 21, .inl v_share)), (a_rest, .inl (cI, 15, .inl v_rest)), (a_tbl, .inl (cI, 36, .inl v_tbl)), (a_numbers, .inl (cI, 15, .inl v_numbers))] → va_S A s.heap H locs → ∀ ls : Array Slot, lv_has ls 4 [] → W p l e (headSpec wd_Pairs_make rm_Pairs_make).room s m args below meth c H locs 0 0 (MQ below (ct_Qi D [(a_this, .inr (1, [.ref a_second, .ref a_cell, .ref a_power, .ref a_share, .ref a_hanging, .ref a_freePairs, .ref a_rest, .int v_size, .int v_freeSize])), (a_cell, .inl (cI, 21, .inl v_cell)), (a_power, .inl (cI, 21, .inl v_power)), (a_share, .inl (cI, 21, .inl v_share)), (a_rest, .inl (cI, 15, .inl o_v_rest)), (a_tbl, .inl (cI, 36, .inl v_tbl)), (a_numbers, .inl (cI, 15, .inl v_numbers))] A o_r) args s 0 0 A) (F0 m 78 ls [])) → ∀ (H : Heap) (locs : List Loc), va_P D vwCl [(a_this, .inr (1, [.ref a_second, .ref a_cell, .ref a_power, .ref a_share, .ref a_hanging, .ref a_freePairs, .ref a_rest, .int v_size, .int v_freeSize])), (a_cell, .inl (cI, 21, .inl v_cell)), (a_power, .inl (cI, 21, .inl v_power)), (a_share, .inl (cI, 21, .inl v_share)), (a_rest, .inl (cI, 15, .inl v_rest)), (a_tbl, .inl (cI, 36, .inl v_tbl)), (a_numbers, .inl (cI, 15, .inl v_numbers))] H → va_D A [(a_this, .inr (1, [.ref a_second, .ref a_cell, .ref a_power, .ref a_share, .ref a_hanging, .ref a_freePairs, .ref a_rest, .int v_size, .int v_freeSize])), (a_cell, .inl (cI, 21, .inl v_cell)), (a_power, .inl (cI, 21, .inl v_power)), (a_share, .inl (cI, 21, .inl v_share)), (a_rest, .inl (cI, 15, .inl v_rest)), (a_tbl, .inl (cI, 36, .inl v_tbl)), (a_numbers, .inl (cI, 15, .inl v_numbers))] → va_S A s.heap H locs → ∀ ls : Array Slot, lv_has ls 4 [(3, .int x3), (0, .ref a_this)] → W p l e (headSpec wd_Pairs_make rm_Pairs_make).room s m args below meth c H locs 0 0 (MQ below (ct_Qi D [(a_this, .inr (1, [.ref a_second, .ref a_cell, .ref a_power, .ref a_share, .ref a_hanging, .ref a_freePairs, .ref a_rest, .int v_size, .int v_freeSize])), (a_cell, .inl (cI, 21, .inl v_cell)), (a_power, .inl (cI, 21, .inl v_power)), (a_share, .inl (cI, 21, .inl v_share)), (a_rest, .inl (cI, 15, .inl o_v_rest)), (a_tbl, .inl (cI, 36, .inl v_tbl)), (a_numbers, .inl (cI, 15, .inl v_numbers))] A o_r) args s 0 0 A) (F0 m 55 ls []) := by
  obtain ⟨hx, hb, hr, hml, hown, hts, hK, hA, hT, hlocks, hZA, hZB, hTA, hTB, hnw⟩ := id cx
  intro n
  induction n with
  | zero => intro x3 k h; rw [f_Pairs_make_L55] at h; cases h
  | succ n ih =>
    intro x3 k h hk H locs hP hD hS ls hl
    rw [f_Pairs_make_L55] at h
    refine lv_iload_n hx hb d_Pairs_make_55 rfl (lv_at hl 0 rfl) ?_
    refine lv_bipush (v := 15) hx hb d_Pairs_make_56 (by decide) ?_
    refine lv_icmp_ge (tgt := 78) hx hb d_Pairs_make_58 (by decide) (fun hc => ?_) (fun hc => ?_)
    · rw [if_pos hc] at h
      exact hk _ h _ _ hP hD hS ls (lv_sub hl [] rfl)
    · rw [if_neg hc] at h
      refine lv_aload_n hx hb d_Pairs_make_61 rfl (lv_at hl 1 rfl) ?_
      refine va_get (D := D) (ci := 1) (v := .ref a_rest) (C := R_Pairs) (T := T_Pairs) (N := 9) hx hb hts (fun w h9 => ct_in (iw_Pairs w h9)) hown hK hP 0 rfl rfl 6 (by decide) (hts _ (ct_in k_63)) (fun _ h9 => h9) rfl d_Pairs_make_62 ?_
      refine lv_iload_n hx hb d_Pairs_make_65 rfl (lv_at hl 0 rfl) ?_
      obtain ⟨hin, h⟩ := ct_chk h
      refine va_iald hx hb hK hP 4 0 rfl rfl hin d_Pairs_make_66 ?_
      refine lv_if_eq (tgt := 72) hx hb d_Pairs_make_67 (by decide) (fun hc => ?_) (fun hc => ?_)
      · rw [if_pos hc] at h
        refine lv_iinc (v := (x3 + 1)) (lv' := [(3, .int (x3 + 1)), (0, .ref a_this)]) hx hb d_Pairs_make_72 hl (k := 0) rfl rfl (by decide) rfl (fun ls hl => ?_)
        refine lv_goto (tgt := 55) hx hb d_Pairs_make_75 (by decide) ?_
        exact ih _ k h hk _ _ hP hD hS ls (lv_sub hl [0, 1] rfl)
      · rw [if_neg hc] at h
        refine lv_iconst (v := 0) hx hb d_Pairs_make_70 (by decide) ?_
        cases h
        exact W.zret hx hb hr rfl (fun t ht hW => ⟨⟨_, (), rfl, rfl, by rw [ht]; exact hP, hD⟩, hS.F ht⟩) hS.2.2 d_Pairs_make_71
set_option maxHeartbeats 4000000 in
set_option maxRecDepth 100000 in
theorem w_Pairs_make {p : Program} {l : Launch} {e : Env} {s : State} {m : MethodId} {args : Array Value} {below : List Frame} {meth : Method} {c : Code} {D : va_G} {cI cL cZ : ClassId} {tA tB : Nat} {A : Nat → Prop} {a_this a_second a_cell a_power a_share a_hanging a_freePairs a_rest a_tbl a_numbers : Nat} {v_size : Int32} {v_freeSize : Int32} {v_cell : Nat → Int32} {v_power : Nat → Int32} {v_share : Nat → Int32} {v_rest : Nat → Int32} {v_tbl : Nat → Int32} {v_numbers : Nat → Int32} {o_r : Int32} {o_v_rest : Nat → Int32} (cx : ct_Cx p s m args meth c b_Pairs_make 4 (some .boolean) R_Pairs wd_Pairs_make D (ct_tys cI cL cZ) tA tB A) (h : f_Pairs_make v_size v_cell v_power v_share v_rest v_tbl v_numbers = some (o_r, o_v_rest)) : ∀ (H : Heap) (locs : List Loc), va_P D vwCl [(a_this, .inr (1, [.ref a_second, .ref a_cell, .ref a_power, .ref a_share, .ref a_hanging, .ref a_freePairs, .ref a_rest, .int v_size, .int v_freeSize])), (a_cell, .inl (cI, 21, .inl v_cell)), (a_power, .inl (cI, 21, .inl v_power)), (a_share, .inl (cI, 21, .inl v_share)), (a_rest, .inl (cI, 15, .inl v_rest)), (a_tbl, .inl (cI, 36, .inl v_tbl)), (a_numbers, .inl (cI, 15, .inl v_numbers))] H → va_D A [(a_this, .inr (1, [.ref a_second, .ref a_cell, .ref a_power, .ref a_share, .ref a_hanging, .ref a_freePairs, .ref a_rest, .int v_size, .int v_freeSize])), (a_cell, .inl (cI, 21, .inl v_cell)), (a_power, .inl (cI, 21, .inl v_power)), (a_share, .inl (cI, 21, .inl v_share)), (a_rest, .inl (cI, 15, .inl v_rest)), (a_tbl, .inl (cI, 36, .inl v_tbl)), (a_numbers, .inl (cI, 15, .inl v_numbers))] → va_S A s.heap H locs → ∀ ls : Array Slot, lv_has ls 4 [(0, .ref a_this), (1, .ref a_tbl), (2, .ref a_numbers)] → W p l e (headSpec wd_Pairs_make rm_Pairs_make).room s m args below meth c H locs 0 0 (MQ below (ct_Qi D [(a_this, .inr (1, [.ref a_second, .ref a_cell, .ref a_power, .ref a_share, .ref a_hanging, .ref a_freePairs, .ref a_rest, .int v_size, .int v_freeSize])), (a_cell, .inl (cI, 21, .inl v_cell)), (a_power, .inl (cI, 21, .inl v_power)), (a_share, .inl (cI, 21, .inl v_share)), (a_rest, .inl (cI, 15, .inl o_v_rest)), (a_tbl, .inl (cI, 36, .inl v_tbl)), (a_numbers, .inl (cI, 15, .inl v_numbers))] A o_r) args s 0 0 A) (F0 m 0 ls []) := by
  obtain ⟨hx, hb, hr, hml, hown, hts, hK, hA, hT, hlocks, hZA, hZB, hTA, hTB, hnw⟩ := id cx
  intro H locs hP hD hS ls hl
  rw [f_Pairs_make] at h
  refine lv_aload_n hx hb d_Pairs_make_0 rfl (lv_at hl 0 rfl) ?_
  refine va_get (D := D) (ci := 1) (v := .ref a_rest) (C := R_Pairs) (T := T_Pairs) (N := 9) hx hb hts (fun w h9 => ct_in (iw_Pairs w h9)) hown hK hP 0 rfl rfl 6 (by decide) (hts _ (ct_in k_63)) (fun _ h9 => h9) rfl d_Pairs_make_1 ?_
  refine lv_aload_n hx hb d_Pairs_make_4 rfl (lv_at hl 2 rfl) ?_
  obtain ⟨v_dbl_1, ho, h⟩ := Option.bind_eq_some_iff.mp h
  refine ct_callv (wc := [(a_rest, .inl (cI, 15, .inl v_rest)), (a_numbers, .inl (cI, 15, .inl v_numbers))]) (wr := [(a_this, .inr (1, [.ref a_second, .ref a_cell, .ref a_power, .ref a_share, .ref a_hanging, .ref a_freePairs, .ref a_rest, .int v_size, .int v_freeSize])), (a_cell, .inl (cI, 21, .inl v_cell)), (a_power, .inl (cI, 21, .inl v_power)), (a_share, .inl (cI, 21, .inl v_share)), (a_tbl, .inl (cI, 36, .inl v_tbl))]) (wc' := [(a_rest, .inl (cI, 15, .inl v_dbl_1)), (a_numbers, .inl (cI, 15, .inl v_numbers))]) (ws' := [(a_this, .inr (1, [.ref a_second, .ref a_cell, .ref a_power, .ref a_share, .ref a_hanging, .ref a_freePairs, .ref a_rest, .int v_size, .int v_freeSize])), (a_cell, .inl (cI, 21, .inl v_cell)), (a_power, .inl (cI, 21, .inl v_power)), (a_share, .inl (cI, 21, .inl v_share)), (a_rest, .inl (cI, 15, .inl v_dbl_1)), (a_tbl, .inl (cI, 36, .inl v_tbl)), (a_numbers, .inl (cI, 15, .inl v_numbers))]) (va_runS (As := [.ref a_rest, .ref a_numbers]) (rest := []) ⟨hx, hb, hml, hown, hts⟩ (c_Pairs_doubleInto l D cI cL cZ tA tB H.size a_rest a_numbers v_rest v_numbers v_dbl_1 _ rfl ho) (va_cwS 2 hts (ct_goodS k_66 k_65 k_46 k_64) rfl rfl rfl (by decide +kernel) ⟨Nat.le_of_ble_eq_true rfl, Nat.le_of_ble_eq_true rfl⟩) (ct_preS (wc := [(a_rest, .inl (cI, 15, .inl v_rest)), (a_numbers, .inl (cI, 15, .inl v_numbers))]) hP hD hK hS hA hT [4, 6] rfl (by decide)) rfl rfl hl.1 rfl (lv_room (Nat.le_of_ble_eq_true rfl)) d_Pairs_make_5 ⟨Nat.zero_le _, Nat.zero_le _⟩) hP hD hS hA [4, 6] [0, 1, 2, 3, 5] rfl rfl (by decide) (by decide) [0, 1, 2, 3, 5, 4, 6] rfl (by decide) (fun H locs hP hD hS => ?_)
  refine lv_iconst (v := 0) hx hb d_Pairs_make_8 (by decide) ?_
  refine lv_istore_n (lv' := [(3, .int 0), (0, .ref a_this), (1, .ref a_tbl), (2, .ref a_numbers)]) hx hb d_Pairs_make_9 rfl hl (by decide) rfl (fun ls hl => ?_)
  refine w_Pairs_make_L10 cx _ _ _ _ h (fun v_rest_2 h H locs hP hD hS ls hl => ?_) _ _ hP hD hS ls (lv_sub hl [0, 1, 2] rfl)
  try dsimp only at h
  refine lv_iconst (v := 0) hx hb d_Pairs_make_53 (by decide) ?_
  refine lv_istore_n (lv' := [(3, .int 0), (0, .ref a_this)]) hx hb d_Pairs_make_54 rfl hl (by decide) rfl (fun ls hl => ?_)
  refine w_Pairs_make_L55 cx _ _ _ h (fun _ h H locs hP hD hS ls hl => ?_) _ _ hP hD hS ls (lv_sub hl [0, 1] rfl)
  try dsimp only at h
  refine lv_iconst (v := 1) hx hb d_Pairs_make_78 (by decide) ?_
  cases h
  exact W.zret hx hb hr rfl (fun t ht hW => ⟨⟨_, (), rfl, rfl, by rw [ht]; exact hP, hD⟩, hS.F ht⟩) hS.2.2 d_Pairs_make_79
set_option maxHeartbeats 4000000 in
set_option maxRecDepth 100000 in
theorem c_Pairs_make (l : Launch) (D : va_G) (cI cL cZ : ClassId) (tA tB sz : Nat) (a_this a_second a_cell a_power a_share a_hanging a_freePairs a_rest a_tbl a_numbers : Nat) (v_size : Int32) (v_freeSize : Int32) (v_cell : Nat → Int32) (v_power : Nat → Int32) (v_share : Nat → Int32) (v_rest : Nat → Int32) (v_tbl : Nat → Int32) (v_numbers : Nat → Int32) (o_r : Int32) (o_v_rest : Nat → Int32) (A : Nat → Prop) (hAe : A = va_A [(a_this, .inr (1, [.ref a_second, .ref a_cell, .ref a_power, .ref a_share, .ref a_hanging, .ref a_freePairs, .ref a_rest, .int v_size, .int v_freeSize])), (a_cell, .inl (cI, 21, .inl v_cell)), (a_power, .inl (cI, 21, .inl v_power)), (a_share, .inl (cI, 21, .inl v_share)), (a_rest, .inl (cI, 15, .inl v_rest)), (a_tbl, .inl (cI, 36, .inl v_tbl)), (a_numbers, .inl (cI, 15, .inl v_numbers))] sz) (h : f_Pairs_make v_size v_cell v_power v_share v_rest v_tbl v_numbers = some (o_r, o_v_rest)) : Met l y_Pairs_make wd_Pairs_make rm_Pairs_make (ct_Pre D (ct_tys cI cL cZ) tA tB [(a_this, .inr (1, [.ref a_second, .ref a_cell, .ref a_power, .ref a_share, .ref a_hanging, .ref a_freePairs, .ref a_rest, .int v_size, .int v_freeSize])), (a_cell, .inl (cI, 21, .inl v_cell)), (a_power, .inl (cI, 21, .inl v_power)), (a_share, .inl (cI, 21, .inl v_share)), (a_rest, .inl (cI, 15, .inl v_rest)), (a_tbl, .inl (cI, 36, .inl v_tbl)), (a_numbers, .inl (cI, 15, .inl v_numbers))] sz [.ref a_this, .ref a_tbl, .ref a_numbers]) (ct_Qi D [(a_this, .inr (1, [.ref a_second, .ref a_cell, .ref a_power, .ref a_share, .ref a_hanging, .ref a_freePairs, .ref a_rest, .int v_size, .int v_freeSize])), (a_cell, .inl (cI, 21, .inl v_cell)), (a_power, .inl (cI, 21, .inl v_power)), (a_share, .inl (cI, 21, .inl v_share)), (a_rest, .inl (cI, 15, .inl o_v_rest)), (a_tbl, .inl (cI, 36, .inl v_tbl)), (a_numbers, .inl (cI, 15, .inl v_numbers))] A o_r) 0 0 A := by
  refine Met.ofW (cc := b_Pairs_make) (maxL := 4) (ret := (some .boolean)) (by decide) rfl ?_
  intro p e s m args below meth c s₁ B hml hv
  obtain ⟨hargs, hsz, hP, hK, hD0, hT⟩ := hv
  subst hsz
  have hD := hD0.self (sz := s.heap.size)
  rw [← hAe] at hD hT
  have hA : ∀ q : Nat, s.heap.size ≤ q → A q := fun q h => by rw [hAe]; exact Or.inr h
  clear hAe
  have cx : ct_Cx p s m args meth c b_Pairs_make 4 (some .boolean) R_Pairs wd_Pairs_make D (ct_tys cI cL cZ) tA tB A := ⟨B.exec, B.bytes, B.returns, hml, findClass_of_methodNamed B.named, atoms_spec (ws := wd_Pairs_make) B.pre, hK, hA, hT, B.notSynchronized, hT.1, hT.2.1, hT.2.2.1, hT.2.2.2.1, hT.2.2.2.2⟩
  have hl := lv_entry ([.ref a_this, .ref a_tbl, .ref a_numbers]) (n := 4) (Nat.le_of_ble_eq_true rfl)
  rw [show entryFrame m args 4 = entryFrame m ([.ref a_this, .ref a_tbl, .ref a_numbers] : List Value).toArray 4 by rw [hargs], lg_entry_eq]
  exact w_Pairs_make cx h _ _ hP hD va_S.rf _ hl
abbrev rm_Pairs_haveAllTerms : Room := { frames := 0, cells := 0, slots := 0, locals := 0 }
abbrev wd_Pairs_haveAllTerms : List Cond := .code y_Pairs_haveAllTerms b_Pairs_haveAllTerms 3 (some .boolean) :: ct_G
def f_Pairs_haveAllTerms_L2 (v_hanging : Nat → Int32) (v_numbers : Nat → Int32) : Nat → Int32 → (Unit → Option (Int32)) → Option (Int32)
  | 0, _, _ => none
  | n + 1, x2, k => (if 15 ≤ x2 then k () else (if x2 < 0 ∨ 15 ≤ x2.toNatClampNeg then none else (if (v_numbers x2.toNatClampNeg) = 0 then (f_Pairs_haveAllTerms_L2 v_hanging v_numbers n (x2 + 1) k) else (if x2 < 0 ∨ 15 ≤ x2.toNatClampNeg then none else (if (v_hanging x2.toNatClampNeg) = (-1) then some (0 : Int32) else (f_Pairs_haveAllTerms_L2 v_hanging v_numbers n (x2 + 1) k))))))
def f_Pairs_haveAllTerms (v_hanging : Nat → Int32) (v_numbers : Nat → Int32) : Option (Int32) := (f_Pairs_haveAllTerms_L2 v_hanging v_numbers 40 0 (fun (_ : Unit) => some (1 : Int32)))
set_option maxHeartbeats 4000000 in
set_option maxRecDepth 100000 in
theorem w_Pairs_haveAllTerms_L2 {p : Program} {l : Launch} {e : Env} {s : State} {m : MethodId} {args : Array Value} {below : List Frame} {meth : Method} {c : Code} {D : va_G} {cI cL cZ : ClassId} {tA tB : Nat} {A : Nat → Prop} {a_this a_second a_cell a_power a_share a_hanging a_freePairs a_rest a_numbers : Nat} {v_size : Int32} {v_freeSize : Int32} {v_hanging : Nat → Int32} {v_numbers : Nat → Int32} {o_r : Int32} (cx : ct_Cx p s m args meth c b_Pairs_haveAllTerms 3 (some .boolean) R_Pairs wd_Pairs_haveAllTerms D (ct_tys cI cL cZ) tA tB A) : ∀ (n : Nat) (x2 : Int32) (k : (Unit → Option (Int32))), f_Pairs_haveAllTerms_L2 v_hanging v_numbers n x2 k = some o_r → (∀ (u : Unit), k u = some o_r → ∀ (H : Heap) (locs : List Loc), va_P D vwCl [(a_this, .inr (1, [.ref a_second, .ref a_cell, .ref a_power, .ref a_share, .ref a_hanging, .ref a_freePairs, .ref a_rest, .int v_size, .int v_freeSize])), (a_hanging, .inl (cI, 15, .inl v_hanging)), (a_numbers, .inl (cI, 15, .inl v_numbers))] H → va_D A [(a_this, .inr (1, [.ref a_second, .ref a_cell, .ref a_power, .ref a_share, .ref a_hanging, .ref a_freePairs, .ref a_rest, .int v_size, .int v_freeSize])), (a_hanging, .inl (cI, 15, .inl v_hanging)), (a_numbers, .inl (cI, 15, .inl v_numbers))] → va_S A s.heap H locs → ∀ ls : Array Slot, lv_has ls 3 [] → W p l e (headSpec wd_Pairs_haveAllTerms rm_Pairs_haveAllTerms).room s m args below meth c H locs 0 0 (MQ below (ct_Qi D [(a_this, .inr (1, [.ref a_second, .ref a_cell, .ref a_power, .ref a_share, .ref a_hanging, .ref a_freePairs, .ref a_rest, .int v_size, .int v_freeSize])), (a_hanging, .inl (cI, 15, .inl v_hanging)), (a_numbers, .inl (cI, 15, .inl v_numbers))] A o_r) args s 0 0 A) (F0 m 32 ls [])) → ∀ (H : Heap) (locs : List Loc), va_P D vwCl [(a_this, .inr (1, [.ref a_second, .ref a_cell, .ref a_power, .ref a_share, .ref a_hanging, .ref a_freePairs, .ref a_rest, .int v_size, .int v_freeSize])), (a_hanging, .inl (cI, 15, .inl v_hanging)), (a_numbers, .inl (cI, 15, .inl v_numbers))] H → va_D A [(a_this, .inr (1, [.ref a_second, .ref a_cell, .ref a_power, .ref a_share, .ref a_hanging, .ref a_freePairs, .ref a_rest, .int v_size, .int v_freeSize])), (a_hanging, .inl (cI, 15, .inl v_hanging)), (a_numbers, .inl (cI, 15, .inl v_numbers))] → va_S A s.heap H locs → ∀ ls : Array Slot, lv_has ls 3 [(2, .int x2), (0, .ref a_this), (1, .ref a_numbers)] → W p l e (headSpec wd_Pairs_haveAllTerms rm_Pairs_haveAllTerms).room s m args below meth c H locs 0 0 (MQ below (ct_Qi D [(a_this, .inr (1, [.ref a_second, .ref a_cell, .ref a_power, .ref a_share, .ref a_hanging, .ref a_freePairs, .ref a_rest, .int v_size, .int v_freeSize])), (a_hanging, .inl (cI, 15, .inl v_hanging)), (a_numbers, .inl (cI, 15, .inl v_numbers))] A o_r) args s 0 0 A) (F0 m 2 ls []) := by
  obtain ⟨hx, hb, hr, hml, hown, hts, hK, hA, hT, hlocks, hZA, hZB, hTA, hTB, hnw⟩ := id cx
  intro n
  induction n with
  | zero => intro x2 k h; rw [f_Pairs_haveAllTerms_L2] at h; cases h
  | succ n ih =>
    intro x2 k h hk H locs hP hD hS ls hl
    rw [f_Pairs_haveAllTerms_L2] at h
    refine lv_iload_n hx hb d_Pairs_haveAllTerms_2 rfl (lv_at hl 0 rfl) ?_
    refine lv_bipush (v := 15) hx hb d_Pairs_haveAllTerms_3 (by decide) ?_
    refine lv_icmp_ge (tgt := 32) hx hb d_Pairs_haveAllTerms_5 (by decide) (fun hc => ?_) (fun hc => ?_)
    · rw [if_pos hc] at h
      exact hk _ h _ _ hP hD hS ls (lv_sub hl [] rfl)
    · rw [if_neg hc] at h
      refine lv_aload_n hx hb d_Pairs_haveAllTerms_8 rfl (lv_at hl 2 rfl) ?_
      refine lv_iload_n hx hb d_Pairs_haveAllTerms_9 rfl (lv_at hl 0 rfl) ?_
      obtain ⟨hin, h⟩ := ct_chk h
      refine va_iald hx hb hK hP 2 0 rfl rfl hin d_Pairs_haveAllTerms_10 ?_
      refine lv_if_eq (tgt := 26) hx hb d_Pairs_haveAllTerms_11 (by decide) (fun hc => ?_) (fun hc => ?_)
      · rw [if_pos hc] at h
        refine lv_iinc (v := (x2 + 1)) (lv' := [(2, .int (x2 + 1)), (0, .ref a_this), (1, .ref a_numbers)]) hx hb d_Pairs_haveAllTerms_26 hl (k := 0) rfl rfl (by decide) rfl (fun ls hl => ?_)
        refine lv_goto (tgt := 2) hx hb d_Pairs_haveAllTerms_29 (by decide) ?_
        exact ih _ k h hk _ _ hP hD hS ls (lv_sub hl [0, 1, 2] rfl)
      · rw [if_neg hc] at h
        refine lv_aload_n hx hb d_Pairs_haveAllTerms_14 rfl (lv_at hl 1 rfl) ?_
        refine va_get (D := D) (ci := 1) (v := .ref a_hanging) (C := R_Pairs) (T := T_Pairs) (N := 9) hx hb hts (fun w h9 => ct_in (iw_Pairs w h9)) hown hK hP 0 rfl rfl 4 (by decide) (hts _ (ct_in k_37)) (fun _ h9 => h9) rfl d_Pairs_haveAllTerms_15 ?_
        refine lv_iload_n hx hb d_Pairs_haveAllTerms_18 rfl (lv_at hl 0 rfl) ?_
        obtain ⟨hin, h⟩ := ct_chk h
        refine va_iald hx hb hK hP 1 0 rfl rfl hin d_Pairs_haveAllTerms_19 ?_
        refine lv_iconst (v := (-1)) hx hb d_Pairs_haveAllTerms_20 (by decide) ?_
        refine lv_icmp_ne (tgt := 26) hx hb d_Pairs_haveAllTerms_21 (by decide) (fun hc => ?_) (fun hc => ?_)
        · rw [if_neg hc] at h
          refine lv_iinc (v := (x2 + 1)) (lv' := [(2, .int (x2 + 1)), (0, .ref a_this), (1, .ref a_numbers)]) hx hb d_Pairs_haveAllTerms_26 hl (k := 0) rfl rfl (by decide) rfl (fun ls hl => ?_)
          refine lv_goto (tgt := 2) hx hb d_Pairs_haveAllTerms_29 (by decide) ?_
          exact ih _ k h hk _ _ hP hD hS ls (lv_sub hl [0, 1, 2] rfl)
        · rw [if_pos hc] at h
          refine lv_iconst (v := 0) hx hb d_Pairs_haveAllTerms_24 (by decide) ?_
          cases h
          exact W.zret hx hb hr rfl (fun t ht hW => ⟨⟨_, (), rfl, rfl, by rw [ht]; exact hP, hD⟩, hS.F ht⟩) hS.2.2 d_Pairs_haveAllTerms_25
set_option maxHeartbeats 4000000 in
set_option maxRecDepth 100000 in
theorem w_Pairs_haveAllTerms {p : Program} {l : Launch} {e : Env} {s : State} {m : MethodId} {args : Array Value} {below : List Frame} {meth : Method} {c : Code} {D : va_G} {cI cL cZ : ClassId} {tA tB : Nat} {A : Nat → Prop} {a_this a_second a_cell a_power a_share a_hanging a_freePairs a_rest a_numbers : Nat} {v_size : Int32} {v_freeSize : Int32} {v_hanging : Nat → Int32} {v_numbers : Nat → Int32} {o_r : Int32} (cx : ct_Cx p s m args meth c b_Pairs_haveAllTerms 3 (some .boolean) R_Pairs wd_Pairs_haveAllTerms D (ct_tys cI cL cZ) tA tB A) (h : f_Pairs_haveAllTerms v_hanging v_numbers = some o_r) : ∀ (H : Heap) (locs : List Loc), va_P D vwCl [(a_this, .inr (1, [.ref a_second, .ref a_cell, .ref a_power, .ref a_share, .ref a_hanging, .ref a_freePairs, .ref a_rest, .int v_size, .int v_freeSize])), (a_hanging, .inl (cI, 15, .inl v_hanging)), (a_numbers, .inl (cI, 15, .inl v_numbers))] H → va_D A [(a_this, .inr (1, [.ref a_second, .ref a_cell, .ref a_power, .ref a_share, .ref a_hanging, .ref a_freePairs, .ref a_rest, .int v_size, .int v_freeSize])), (a_hanging, .inl (cI, 15, .inl v_hanging)), (a_numbers, .inl (cI, 15, .inl v_numbers))] → va_S A s.heap H locs → ∀ ls : Array Slot, lv_has ls 3 [(0, .ref a_this), (1, .ref a_numbers)] → W p l e (headSpec wd_Pairs_haveAllTerms rm_Pairs_haveAllTerms).room s m args below meth c H locs 0 0 (MQ below (ct_Qi D [(a_this, .inr (1, [.ref a_second, .ref a_cell, .ref a_power, .ref a_share, .ref a_hanging, .ref a_freePairs, .ref a_rest, .int v_size, .int v_freeSize])), (a_hanging, .inl (cI, 15, .inl v_hanging)), (a_numbers, .inl (cI, 15, .inl v_numbers))] A o_r) args s 0 0 A) (F0 m 0 ls []) := by
  obtain ⟨hx, hb, hr, hml, hown, hts, hK, hA, hT, hlocks, hZA, hZB, hTA, hTB, hnw⟩ := id cx
  intro H locs hP hD hS ls hl
  rw [f_Pairs_haveAllTerms] at h
  refine lv_iconst (v := 0) hx hb d_Pairs_haveAllTerms_0 (by decide) ?_
  refine lv_istore_n (lv' := [(2, .int 0), (0, .ref a_this), (1, .ref a_numbers)]) hx hb d_Pairs_haveAllTerms_1 rfl hl (by decide) rfl (fun ls hl => ?_)
  refine w_Pairs_haveAllTerms_L2 cx _ _ _ h (fun _ h H locs hP hD hS ls hl => ?_) _ _ hP hD hS ls (lv_sub hl [0, 1, 2] rfl)
  try dsimp only at h
  refine lv_iconst (v := 1) hx hb d_Pairs_haveAllTerms_32 (by decide) ?_
  cases h
  exact W.zret hx hb hr rfl (fun t ht hW => ⟨⟨_, (), rfl, rfl, by rw [ht]; exact hP, hD⟩, hS.F ht⟩) hS.2.2 d_Pairs_haveAllTerms_33
set_option maxHeartbeats 4000000 in
set_option maxRecDepth 100000 in
theorem c_Pairs_haveAllTerms (l : Launch) (D : va_G) (cI cL cZ : ClassId) (tA tB sz : Nat) (a_this a_second a_cell a_power a_share a_hanging a_freePairs a_rest a_numbers : Nat) (v_size : Int32) (v_freeSize : Int32) (v_hanging : Nat → Int32) (v_numbers : Nat → Int32) (o_r : Int32) (A : Nat → Prop) (hAe : A = va_A [(a_this, .inr (1, [.ref a_second, .ref a_cell, .ref a_power, .ref a_share, .ref a_hanging, .ref a_freePairs, .ref a_rest, .int v_size, .int v_freeSize])), (a_hanging, .inl (cI, 15, .inl v_hanging)), (a_numbers, .inl (cI, 15, .inl v_numbers))] sz) (h : f_Pairs_haveAllTerms v_hanging v_numbers = some o_r) : Met l y_Pairs_haveAllTerms wd_Pairs_haveAllTerms rm_Pairs_haveAllTerms (ct_Pre D (ct_tys cI cL cZ) tA tB [(a_this, .inr (1, [.ref a_second, .ref a_cell, .ref a_power, .ref a_share, .ref a_hanging, .ref a_freePairs, .ref a_rest, .int v_size, .int v_freeSize])), (a_hanging, .inl (cI, 15, .inl v_hanging)), (a_numbers, .inl (cI, 15, .inl v_numbers))] sz [.ref a_this, .ref a_numbers]) (ct_Qi D [(a_this, .inr (1, [.ref a_second, .ref a_cell, .ref a_power, .ref a_share, .ref a_hanging, .ref a_freePairs, .ref a_rest, .int v_size, .int v_freeSize])), (a_hanging, .inl (cI, 15, .inl v_hanging)), (a_numbers, .inl (cI, 15, .inl v_numbers))] A o_r) 0 0 A := by
  refine Met.ofW (cc := b_Pairs_haveAllTerms) (maxL := 3) (ret := (some .boolean)) (by decide) rfl ?_
  intro p e s m args below meth c s₁ B hml hv
  obtain ⟨hargs, hsz, hP, hK, hD0, hT⟩ := hv
  subst hsz
  have hD := hD0.self (sz := s.heap.size)
  rw [← hAe] at hD hT
  have hA : ∀ q : Nat, s.heap.size ≤ q → A q := fun q h => by rw [hAe]; exact Or.inr h
  clear hAe
  have cx : ct_Cx p s m args meth c b_Pairs_haveAllTerms 3 (some .boolean) R_Pairs wd_Pairs_haveAllTerms D (ct_tys cI cL cZ) tA tB A := ⟨B.exec, B.bytes, B.returns, hml, findClass_of_methodNamed B.named, atoms_spec (ws := wd_Pairs_haveAllTerms) B.pre, hK, hA, hT, B.notSynchronized, hT.1, hT.2.1, hT.2.2.1, hT.2.2.2.1, hT.2.2.2.2⟩
  have hl := lv_entry ([.ref a_this, .ref a_numbers]) (n := 3) (Nat.le_of_ble_eq_true rfl)
  rw [show entryFrame m args 3 = entryFrame m ([.ref a_this, .ref a_numbers] : List Value).toArray 3 by rw [hargs], lg_entry_eq]
  exact w_Pairs_haveAllTerms cx h _ _ hP hD va_S.rf _ hl
