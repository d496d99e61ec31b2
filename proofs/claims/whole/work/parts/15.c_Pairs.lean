abbrev rm_Pairs_productOf : Room := { frames := 1, cells := 0, slots := 0, locals := 22 }
abbrev wd_Pairs_productOf : List Cond := .code y_Pairs_productOf b_Pairs_productOf 2 (some .int) :: ct_G
def f_Pairs_productOf (p : Int32) (q : Int32) : Option (Int32) := (if p < 0 ∨ 15 ≤ p.toNatClampNeg then none else (if q < 0 ∨ 15 ≤ q.toNatClampNeg then none else (if p < 0 ∨ 15 ≤ p.toNatClampNeg then none else (if q < 0 ∨ 15 ≤ q.toNatClampNeg then none else ((f_Sq_powerAt ((pwA p.toNatClampNeg) + (pwA q.toNatClampNeg)) ((pwB p.toNatClampNeg) + (pwB q.toNatClampNeg))).bind (fun r_1 => some r_1))))))
set_option maxHeartbeats 4000000 in
set_option maxRecDepth 100000 in
theorem w_Pairs_productOf {p : Program} {l : Launch} {e : Env} {s : State} {m : MethodId} {args : Array Value} {below : List Frame} {meth : Method} {c : Code} {D : va_G} {cI cL cZ : ClassId} {tA tB : Nat} {A : Nat → Prop}  {p : Int32} {q : Int32} {o_r : Int32} (cx : ct_Cx p s m args meth c b_Pairs_productOf 2 (some .int) R_Pairs wd_Pairs_productOf D (ct_tys cI cL cZ) tA tB A) (h : f_Pairs_productOf p q = some o_r) : ∀ (H : Heap) (locs : List Loc), va_P D vwCl [] H → va_D A [] → va_S A s.heap H locs → ∀ ls : Array Slot, lv_has ls 2 [(0, .int p), (1, .int q)] → W p l e (headSpec wd_Pairs_productOf rm_Pairs_productOf).room s m args below meth c H locs 0 0 (MQ below (ct_Qi D [] A o_r) args s 0 0 A) (F0 m 0 ls []) := by
  obtain ⟨hx, hb, hr, hml, hown, hts, hK, hA, hT, hlocks, hZA, hZB, hTA, hTB, hnw⟩ := id cx
  intro H locs hP hD hS ls hl
  rw [f_Pairs_productOf] at h
  refine va_getsN hx hb hZA hS hown (ct_nest_use n_5 hnw) (fun _ h9 => h9) d_Pairs_productOf_0 ?_
  refine lv_iload_n hx hb d_Pairs_productOf_3 rfl (lv_at hl 0 rfl) ?_
  obtain ⟨hin, h⟩ := ct_chk h
  refine va_ti hx hb hTA hS hin (v := .int (pwA p.toNatClampNeg)) rfl d_Pairs_productOf_4 ?_
  refine va_getsN hx hb hZA hS hown (ct_nest_use n_5 hnw) (fun _ h9 => h9) d_Pairs_productOf_5 ?_
  refine lv_iload_n hx hb d_Pairs_productOf_8 rfl (lv_at hl 1 rfl) ?_
  obtain ⟨hin, h⟩ := ct_chk h
  refine va_ti hx hb hTA hS hin (v := .int (pwA q.toNatClampNeg)) rfl d_Pairs_productOf_9 ?_
  refine lv_iadd hx hb d_Pairs_productOf_10 ?_
  refine va_getsN hx hb hZB hS hown (ct_nest_use n_6 hnw) (fun _ h9 => h9) d_Pairs_productOf_11 ?_
  refine lv_iload_n hx hb d_Pairs_productOf_14 rfl (lv_at hl 0 rfl) ?_
  obtain ⟨hin, h⟩ := ct_chk h
  refine va_ti hx hb hTB hS hin (v := .int (pwB p.toNatClampNeg)) rfl d_Pairs_productOf_15 ?_
  refine va_getsN hx hb hZB hS hown (ct_nest_use n_6 hnw) (fun _ h9 => h9) d_Pairs_productOf_16 ?_
  refine lv_iload_n hx hb d_Pairs_productOf_19 rfl (lv_at hl 1 rfl) ?_
  obtain ⟨hin, h⟩ := ct_chk h
  refine va_ti hx hb hTB hS hin (v := .int (pwB q.toNatClampNeg)) rfl d_Pairs_productOf_20 ?_
  refine lv_iadd hx hb d_Pairs_productOf_21 ?_
  obtain ⟨r_1, ho, h⟩ := Option.bind_eq_some_iff.mp h
  refine ct_calli (wc := []) (wr := []) (wc' := []) (ws' := []) (va_runSN (As := [.int ((pwA p.toNatClampNeg) + (pwA q.toNatClampNeg)), .int ((pwB p.toNatClampNeg) + (pwB q.toNatClampNeg))]) (rest := []) ⟨hx, hb, hml, hown, hts⟩ (c_Sq_powerAt l D cI cL cZ tA tB H.size ((pwA p.toNatClampNeg) + (pwA q.toNatClampNeg)) ((pwB p.toNatClampNeg) + (pwB q.toNatClampNeg)) r_1 _ rfl ho) ⟨va_cnB 2 hts (ct_good k_43) rfl rfl rfl (ct_nest_use n_7 hnw) (hts _ (ct_in k_20)) (by decide +kernel) ⟨Nat.le_of_ble_eq_true rfl, Nat.le_of_ble_eq_true rfl⟩, hts _ (ct_in k_44), trivial⟩ (ct_preS (wc := []) hP hD hK hS hA hT [] rfl (by decide)) rfl rfl hl.1 rfl (lv_room (Nat.le_of_ble_eq_true rfl)) d_Pairs_productOf_22 ⟨Nat.zero_le _, Nat.zero_le _⟩) hP hD hS hA [] [] rfl rfl (by decide) (by decide) [] rfl (by decide) (fun H locs hP hD hS => ?_)
  cases h
  exact W.iret hx hb hr (fun t ht hW => ⟨⟨_, (), rfl, rfl, by rw [ht]; exact hP, hD⟩, hS.F ht⟩) hS.2.2 d_Pairs_productOf_25
set_option maxHeartbeats 4000000 in
set_option maxRecDepth 100000 in
theorem c_Pairs_productOf (l : Launch) (D : va_G) (cI cL cZ : ClassId) (tA tB sz : Nat)  (p : Int32) (q : Int32) (o_r : Int32) (A : Nat → Prop) (hAe : A = va_A [] sz) (h : f_Pairs_productOf p q = some o_r) : Met l y_Pairs_productOf wd_Pairs_productOf rm_Pairs_productOf (ct_Pre D (ct_tys cI cL cZ) tA tB [] sz [.int p, .int q]) (ct_Qi D [] A o_r) 0 0 A := by
  refine Met.ofW (cc := b_Pairs_productOf) (maxL := 2) (ret := (some .int)) (by decide) rfl ?_
  intro p e s m args below meth c s₁ B hml hv
  obtain ⟨hargs, hsz, hP, hK, hD0, hT⟩ := hv
  subst hsz
  have hD := hD0.self (sz := s.heap.size)
  rw [← hAe] at hD hT
  have hA : ∀ q : Nat, s.heap.size ≤ q → A q := fun q h => by rw [hAe]; exact Or.inr h
  clear hAe
  have cx : ct_Cx p s m args meth c b_Pairs_productOf 2 (some .int) R_Pairs wd_Pairs_productOf D (ct_tys cI cL cZ) tA tB A := ⟨B.exec, B.bytes, B.returns, hml, findClass_of_methodNamed B.named, atoms_spec (ws := wd_Pairs_productOf) B.pre, hK, hA, hT, B.notSynchronized, hT.1, hT.2.1, hT.2.2.1, hT.2.2.2.1, hT.2.2.2.2⟩
  have hl := lv_entry ([.int p, .int q]) (n := 2) (Nat.le_of_ble_eq_true rfl)
  rw [show entryFrame m args 2 = entryFrame m ([.int p, .int q] : List Value).toArray 2 by rw [hargs], lg_entry_eq]
  exact w_Pairs_productOf cx h _ _ hP hD va_S.rf _ hl
abbrev rm_Pairs_add : Room := { frames := 1, cells := 0, slots := 0, locals := 21 }
abbrev wd_Pairs_add : List Cond := .code y_Pairs_add b_Pairs_add 4 none :: ct_G
def f_Pairs_add (i : Int32) (j : Int32) (product : Int32) (size : Int32) (second : Nat → Int32) (cell : Nat → Int32) (power : Nat → Int32) (share : Nat → Int32) (hanging : Nat → Int32) : Option (Int32 × (Nat → Int32) × (Nat → Int32) × (Nat → Int32) × (Nat → Int32) × (Nat → Int32)) := (if size < 0 ∨ 21 ≤ size.toNatClampNeg then none else ((f_Sq_cellOf i j).bind (fun r_1 => (if size < 0 ∨ 21 ≤ size.toNatClampNeg then none else (if size < 0 ∨ 21 ≤ size.toNatClampNeg then none else (ct_jn (fun (j2 : Int32 → Option (Int32 × (Nat → Int32) × (Nat → Int32) × (Nat → Int32) × (Nat → Int32) × (Nat → Int32))) => (if i = j then (j2 1) else (j2 2))) (fun (s_2 : Int32) => (if size < 0 ∨ 21 ≤ size.toNatClampNeg then none else (if product < 0 ∨ 15 ≤ product.toNatClampNeg then none else (ct_jn (fun (j3 : (Nat → Int32) → Option (Int32 × (Nat → Int32) × (Nat → Int32) × (Nat → Int32) × (Nat → Int32) × (Nat → Int32))) => (if (hanging product.toNatClampNeg) = (-1) then (if product < 0 ∨ 15 ≤ product.toNatClampNeg then none else (j3 (upd hanging product.toNatClampNeg size))) else (if i = j then (if product < 0 ∨ 15 ≤ product.toNatClampNeg then none else (j3 (upd hanging product.toNatClampNeg size))) else (j3 hanging)))) (fun (hanging_3 : Nat → Int32) => some ((size + 1), (upd second size.toNatClampNeg j), (upd cell size.toNatClampNeg r_1), (upd power size.toNatClampNeg product), (upd share size.toNatClampNeg s_2), hanging_3))))))))))))
set_option maxHeartbeats 4000000 in
set_option maxRecDepth 100000 in
theorem w_Pairs_add {p : Program} {l : Launch} {e : Env} {s : State} {m : MethodId} {args : Array Value} {below : List Frame} {meth : Method} {c : Code} {D : va_G} {cI cL cZ : ClassId} {tA tB : Nat} {A : Nat → Prop} {a_this a_second a_cell a_power a_share a_hanging a_freePairs a_rest : Nat} {i : Int32} {j : Int32} {product : Int32} {size : Int32} {freeSize : Int32} {second : Nat → Int32} {cell : Nat → Int32} {power : Nat → Int32} {share : Nat → Int32} {hanging : Nat → Int32} {o_size : Int32} {o_second : Nat → Int32} {o_cell : Nat → Int32} {o_power : Nat → Int32} {o_share : Nat → Int32} {o_hanging : Nat → Int32} (cx : ct_Cx p s m args meth c b_Pairs_add 4 none R_Pairs wd_Pairs_add D (ct_tys cI cL cZ) tA tB A) (h : f_Pairs_add i j product size second cell power share hanging = some (o_size, o_second, o_cell, o_power, o_share, o_hanging)) : ∀ (H : Heap) (locs : List Loc), va_P D vwCl [(a_this, .inr (1, [.ref a_second, .ref a_cell, .ref a_power, .ref a_share, .ref a_hanging, .ref a_freePairs, .ref a_rest, .int size, .int freeSize])), (a_second, .inl (cI, 21, .inl second)), (a_cell, .inl (cI, 21, .inl cell)), (a_power, .inl (cI, 21, .inl power)), (a_share, .inl (cI, 21, .inl share)), (a_hanging, .inl (cI, 15, .inl hanging))] H → va_D A [(a_this, .inr (1, [.ref a_second, .ref a_cell, .ref a_power, .ref a_share, .ref a_hanging, .ref a_freePairs, .ref a_rest, .int size, .int freeSize])), (a_second, .inl (cI, 21, .inl second)), (a_cell, .inl (cI, 21, .inl cell)), (a_power, .inl (cI, 21, .inl power)), (a_share, .inl (cI, 21, .inl share)), (a_hanging, .inl (cI, 15, .inl hanging))] → va_S A s.heap H locs → ∀ ls : Array Slot, lv_has ls 4 [(0, .ref a_this), (1, .int i), (2, .int j), (3, .int product)] → W p l e (headSpec wd_Pairs_add rm_Pairs_add).room s m args below meth c H locs 0 0 (MQ below (ct_Qv D [(a_this, .inr (1, [.ref a_second, .ref a_cell, .ref a_power, .ref a_share, .ref a_hanging, .ref a_freePairs, .ref a_rest, .int o_size, .int freeSize])), (a_second, .inl (cI, 21, .inl o_second)), (a_cell, .inl (cI, 21, .inl o_cell)), (a_power, .inl (cI, 21, .inl o_power)), (a_share, .inl (cI, 21, .inl o_share)), (a_hanging, .inl (cI, 15, .inl o_hanging))] A) args s 0 0 A) (F0 m 0 ls []) := by
  obtain ⟨hx, hb, hr, hml, hown, hts, hK, hA, hT, hlocks, hZA, hZB, hTA, hTB, hnw⟩ := id cx
  intro H locs hP hD hS ls hl
  rw [f_Pairs_add] at h
  refine lv_aload_n hx hb d_Pairs_add_0 rfl (lv_at hl 0 rfl) ?_
  refine va_get (D := D) (ci := 1) (v := .ref a_second) (C := R_Pairs) (T := T_Pairs) (N := 9) hx hb hts (fun w h9 => ct_in (iw_Pairs w h9)) hown hK hP 0 rfl rfl 0 (by decide) (hts _ (ct_in k_49)) (fun _ h9 => h9) rfl d_Pairs_add_1 ?_
  refine lv_aload_n hx hb d_Pairs_add_4 rfl (lv_at hl 0 rfl) ?_
  refine va_get (D := D) (ci := 1) (v := .int size) (C := R_Pairs) (T := T_Pairs) (N := 9) hx hb hts (fun w h9 => ct_in (iw_Pairs w h9)) hown hK hP 0 rfl rfl 7 (by decide) (hts _ (ct_in k_42)) (fun _ h9 => h9) rfl d_Pairs_add_5 ?_
  refine lv_iload_n hx hb d_Pairs_add_8 rfl (lv_at hl 2 rfl) ?_
  obtain ⟨hin, h⟩ := ct_chk h
  refine va_iast hx hb hK hP hD hS 1 0 rfl rfl hin d_Pairs_add_9 (fun H locs hP hD hS => ?_)
  have hP : va_P D vwCl [(a_this, .inr (1, [.ref a_second, .ref a_cell, .ref a_power, .ref a_share, .ref a_hanging, .ref a_freePairs, .ref a_rest, .int size, .int freeSize])), (a_second, .inl (cI, 21, .inl (upd second size.toNatClampNeg j))), (a_cell, .inl (cI, 21, .inl cell)), (a_power, .inl (cI, 21, .inl power)), (a_share, .inl (cI, 21, .inl share)), (a_hanging, .inl (cI, 15, .inl hanging))] H := hP
  have hD : va_D A [(a_this, .inr (1, [.ref a_second, .ref a_cell, .ref a_power, .ref a_share, .ref a_hanging, .ref a_freePairs, .ref a_rest, .int size, .int freeSize])), (a_second, .inl (cI, 21, .inl (upd second size.toNatClampNeg j))), (a_cell, .inl (cI, 21, .inl cell)), (a_power, .inl (cI, 21, .inl power)), (a_share, .inl (cI, 21, .inl share)), (a_hanging, .inl (cI, 15, .inl hanging))] := hD
  refine lv_aload_n hx hb d_Pairs_add_10 rfl (lv_at hl 0 rfl) ?_
  refine va_get (D := D) (ci := 1) (v := .ref a_cell) (C := R_Pairs) (T := T_Pairs) (N := 9) hx hb hts (fun w h9 => ct_in (iw_Pairs w h9)) hown hK hP 0 rfl rfl 1 (by decide) (hts _ (ct_in k_50)) (fun _ h9 => h9) rfl d_Pairs_add_11 ?_
  refine lv_aload_n hx hb d_Pairs_add_14 rfl (lv_at hl 0 rfl) ?_
  refine va_get (D := D) (ci := 1) (v := .int size) (C := R_Pairs) (T := T_Pairs) (N := 9) hx hb hts (fun w h9 => ct_in (iw_Pairs w h9)) hown hK hP 0 rfl rfl 7 (by decide) (hts _ (ct_in k_42)) (fun _ h9 => h9) rfl d_Pairs_add_15 ?_
  refine lv_iload_n hx hb d_Pairs_add_18 rfl (lv_at hl 1 rfl) ?_
  refine lv_iload_n hx hb d_Pairs_add_19 rfl (lv_at hl 2 rfl) ?_
  obtain ⟨r_1, ho, h⟩ := Option.bind_eq_some_iff.mp h
  refine ct_calli (wc := []) (wr := [(a_this, .inr (1, [.ref a_second, .ref a_cell, .ref a_power, .ref a_share, .ref a_hanging, .ref a_freePairs, .ref a_rest, .int size, .int freeSize])), (a_second, .inl (cI, 21, .inl (upd second size.toNatClampNeg j))), (a_cell, .inl (cI, 21, .inl cell)), (a_power, .inl (cI, 21, .inl power)), (a_share, .inl (cI, 21, .inl share)), (a_hanging, .inl (cI, 15, .inl hanging))]) (wc' := []) (ws' := [(a_this, .inr (1, [.ref a_second, .ref a_cell, .ref a_power, .ref a_share, .ref a_hanging, .ref a_freePairs, .ref a_rest, .int size, .int freeSize])), (a_second, .inl (cI, 21, .inl (upd second size.toNatClampNeg j))), (a_cell, .inl (cI, 21, .inl cell)), (a_power, .inl (cI, 21, .inl power)), (a_share, .inl (cI, 21, .inl share)), (a_hanging, .inl (cI, 15, .inl hanging))]) (va_runSN (As := [.int i, .int j]) (rest := [.int size, .ref a_cell]) ⟨hx, hb, hml, hown, hts⟩ (c_Sq_cellOf l D cI cL cZ tA tB H.size i j r_1 _ rfl ho) ⟨va_cnB 2 hts (ct_good k_19) rfl rfl rfl (ct_nest_use n_8 hnw) (hts _ (ct_in k_20)) (by decide +kernel) ⟨Nat.le_of_ble_eq_true rfl, Nat.le_of_ble_eq_true rfl⟩, hts _ (ct_in k_21), trivial⟩ (ct_preS (wc := []) hP hD hK hS hA hT [] rfl (by decide)) rfl rfl hl.1 rfl (lv_room (Nat.le_of_ble_eq_true rfl)) d_Pairs_add_20 ⟨Nat.zero_le _, Nat.zero_le _⟩) hP hD hS hA [] [0, 1, 2, 3, 4, 5] rfl rfl (by decide) (by decide) [0, 1, 2, 3, 4, 5] rfl (by decide) (fun H locs hP hD hS => ?_)
  obtain ⟨hin, h⟩ := ct_chk h
  refine va_iast hx hb hK hP hD hS 2 0 rfl rfl hin d_Pairs_add_23 (fun H locs hP hD hS => ?_)
  have hP : va_P D vwCl [(a_this, .inr (1, [.ref a_second, .ref a_cell, .ref a_power, .ref a_share, .ref a_hanging, .ref a_freePairs, .ref a_rest, .int size, .int freeSize])), (a_second, .inl (cI, 21, .inl (upd second size.toNatClampNeg j))), (a_cell, .inl (cI, 21, .inl (upd cell size.toNatClampNeg r_1))), (a_power, .inl (cI, 21, .inl power)), (a_share, .inl (cI, 21, .inl share)), (a_hanging, .inl (cI, 15, .inl hanging))] H := hP
  have hD : va_D A [(a_this, .inr (1, [.ref a_second, .ref a_cell, .ref a_power, .ref a_share, .ref a_hanging, .ref a_freePairs, .ref a_rest, .int size, .int freeSize])), (a_second, .inl (cI, 21, .inl (upd second size.toNatClampNeg j))), (a_cell, .inl (cI, 21, .inl (upd cell size.toNatClampNeg r_1))), (a_power, .inl (cI, 21, .inl power)), (a_share, .inl (cI, 21, .inl share)), (a_hanging, .inl (cI, 15, .inl hanging))] := hD
  refine lv_aload_n hx hb d_Pairs_add_24 rfl (lv_at hl 0 rfl) ?_
  refine va_get (D := D) (ci := 1) (v := .ref a_power) (C := R_Pairs) (T := T_Pairs) (N := 9) hx hb hts (fun w h9 => ct_in (iw_Pairs w h9)) hown hK hP 0 rfl rfl 2 (by decide) (hts _ (ct_in k_51)) (fun _ h9 => h9) rfl d_Pairs_add_25 ?_
  refine lv_aload_n hx hb d_Pairs_add_28 rfl (lv_at hl 0 rfl) ?_
  refine va_get (D := D) (ci := 1) (v := .int size) (C := R_Pairs) (T := T_Pairs) (N := 9) hx hb hts (fun w h9 => ct_in (iw_Pairs w h9)) hown hK hP 0 rfl rfl 7 (by decide) (hts _ (ct_in k_42)) (fun _ h9 => h9) rfl d_Pairs_add_29 ?_
  refine lv_iload_n hx hb d_Pairs_add_32 rfl (lv_at hl 3 rfl) ?_
  obtain ⟨hin, h⟩ := ct_chk h
  refine va_iast hx hb hK hP hD hS 3 0 rfl rfl hin d_Pairs_add_33 (fun H locs hP hD hS => ?_)
  have hP : va_P D vwCl [(a_this, .inr (1, [.ref a_second, .ref a_cell, .ref a_power, .ref a_share, .ref a_hanging, .ref a_freePairs, .ref a_rest, .int size, .int freeSize])), (a_second, .inl (cI, 21, .inl (upd second size.toNatClampNeg j))), (a_cell, .inl (cI, 21, .inl (upd cell size.toNatClampNeg r_1))), (a_power, .inl (cI, 21, .inl (upd power size.toNatClampNeg product))), (a_share, .inl (cI, 21, .inl share)), (a_hanging, .inl (cI, 15, .inl hanging))] H := hP
  have hD : va_D A [(a_this, .inr (1, [.ref a_second, .ref a_cell, .ref a_power, .ref a_share, .ref a_hanging, .ref a_freePairs, .ref a_rest, .int size, .int freeSize])), (a_second, .inl (cI, 21, .inl (upd second size.toNatClampNeg j))), (a_cell, .inl (cI, 21, .inl (upd cell size.toNatClampNeg r_1))), (a_power, .inl (cI, 21, .inl (upd power size.toNatClampNeg product))), (a_share, .inl (cI, 21, .inl share)), (a_hanging, .inl (cI, 15, .inl hanging))] := hD
  refine lv_aload_n hx hb d_Pairs_add_34 rfl (lv_at hl 0 rfl) ?_
  refine va_get (D := D) (ci := 1) (v := .ref a_share) (C := R_Pairs) (T := T_Pairs) (N := 9) hx hb hts (fun w h9 => ct_in (iw_Pairs w h9)) hown hK hP 0 rfl rfl 3 (by decide) (hts _ (ct_in k_52)) (fun _ h9 => h9) rfl d_Pairs_add_35 ?_
  refine lv_aload_n hx hb d_Pairs_add_38 rfl (lv_at hl 0 rfl) ?_
  refine va_get (D := D) (ci := 1) (v := .int size) (C := R_Pairs) (T := T_Pairs) (N := 9) hx hb hts (fun w h9 => ct_in (iw_Pairs w h9)) hown hK hP 0 rfl rfl 7 (by decide) (hts _ (ct_in k_42)) (fun _ h9 => h9) rfl d_Pairs_add_39 ?_
  refine lv_iload_n hx hb d_Pairs_add_42 rfl (lv_at hl 1 rfl) ?_
  refine lv_iload_n hx hb d_Pairs_add_43 rfl (lv_at hl 2 rfl) ?_
  obtain ⟨j2, hjd2, h⟩ := ct_jn_elim h
  try dsimp only at h
  have hj2 : ∀ (s_2 : Int32), j2 s_2 = some (o_size, o_second, o_cell, o_power, o_share, o_hanging) → ∀ (H : Heap) (locs : List Loc), va_P D vwCl [(a_this, .inr (1, [.ref a_second, .ref a_cell, .ref a_power, .ref a_share, .ref a_hanging, .ref a_freePairs, .ref a_rest, .int size, .int freeSize])), (a_second, .inl (cI, 21, .inl (upd second size.toNatClampNeg j))), (a_cell, .inl (cI, 21, .inl (upd cell size.toNatClampNeg r_1))), (a_power, .inl (cI, 21, .inl (upd power size.toNatClampNeg product))), (a_share, .inl (cI, 21, .inl share)), (a_hanging, .inl (cI, 15, .inl hanging))] H → va_D A [(a_this, .inr (1, [.ref a_second, .ref a_cell, .ref a_power, .ref a_share, .ref a_hanging, .ref a_freePairs, .ref a_rest, .int size, .int freeSize])), (a_second, .inl (cI, 21, .inl (upd second size.toNatClampNeg j))), (a_cell, .inl (cI, 21, .inl (upd cell size.toNatClampNeg r_1))), (a_power, .inl (cI, 21, .inl (upd power size.toNatClampNeg product))), (a_share, .inl (cI, 21, .inl share)), (a_hanging, .inl (cI, 15, .inl hanging))] → va_S A s.heap H locs → ∀ ls : Array Slot, lv_has ls 4 [(0, .ref a_this), (1, .int i), (2, .int j), (3, .int product)] → W p l e (headSpec wd_Pairs_add rm_Pairs_add).room s m args below meth c H locs 0 0 (MQ below (ct_Qv D [(a_this, .inr (1, [.ref a_second, .ref a_cell, .ref a_power, .ref a_share, .ref a_hanging, .ref a_freePairs, .ref a_rest, .int o_size, .int freeSize])), (a_second, .inl (cI, 21, .inl o_second)), (a_cell, .inl (cI, 21, .inl o_cell)), (a_power, .inl (cI, 21, .inl o_power)), (a_share, .inl (cI, 21, .inl o_share)), (a_hanging, .inl (cI, 15, .inl o_hanging))] A) args s 0 0 A) (F0 m 52 ls [.int s_2, .int size, .ref a_share]) := by
    intro s_2 h H locs hP hD hS ls hl
    rw [hjd2] at h
    try dsimp only at h
    obtain ⟨hin, h⟩ := ct_chk h
    refine va_iast hx hb hK hP hD hS 4 0 rfl rfl hin d_Pairs_add_52 (fun H locs hP hD hS => ?_)
    have hP : va_P D vwCl [(a_this, .inr (1, [.ref a_second, .ref a_cell, .ref a_power, .ref a_share, .ref a_hanging, .ref a_freePairs, .ref a_rest, .int size, .int freeSize])), (a_second, .inl (cI, 21, .inl (upd second size.toNatClampNeg j))), (a_cell, .inl (cI, 21, .inl (upd cell size.toNatClampNeg r_1))), (a_power, .inl (cI, 21, .inl (upd power size.toNatClampNeg product))), (a_share, .inl (cI, 21, .inl (upd share size.toNatClampNeg s_2))), (a_hanging, .inl (cI, 15, .inl hanging))] H := hP
    have hD : va_D A [(a_this, .inr (1, [.ref a_second, .ref a_cell, .ref a_power, .ref a_share, .ref a_hanging, .ref a_freePairs, .ref a_rest, .int size, .int freeSize])), (a_second, .inl (cI, 21, .inl (upd second size.toNatClampNeg j))), (a_cell, .inl (cI, 21, .inl (upd cell size.toNatClampNeg r_1))), (a_power, .inl (cI, 21, .inl (upd power size.toNatClampNeg product))), (a_share, .inl (cI, 21, .inl (upd share size.toNatClampNeg s_2))), (a_hanging, .inl (cI, 15, .inl hanging))] := hD
    refine lv_aload_n hx hb d_Pairs_add_53 rfl (lv_at hl 0 rfl) ?_
    refine va_get (D := D) (ci := 1) (v := .ref a_hanging) (C := R_Pairs) (T := T_Pairs) (N := 9) hx hb hts (fun w h9 => ct_in (iw_Pairs w h9)) hown hK hP 0 rfl rfl 4 (by decide) (hts _ (ct_in k_37)) (fun _ h9 => h9) rfl d_Pairs_add_54 ?_
    refine lv_iload_n hx hb d_Pairs_add_57 rfl (lv_at hl 3 rfl) ?_
    obtain ⟨hin, h⟩ := ct_chk h
    refine va_iald hx hb hK hP 5 0 rfl rfl hin d_Pairs_add_58 ?_
    refine lv_iconst (v := (-1)) hx hb d_Pairs_add_59 (by decide) ?_
    obtain ⟨j3, hjd3, h⟩ := ct_jn_elim h
    try dsimp only at h
    have hj3 : ∀ (hanging_3 : Nat → Int32), j3 hanging_3 = some (o_size, o_second, o_cell, o_power, o_share, o_hanging) → ∀ (H : Heap) (locs : List Loc), va_P D vwCl [(a_this, .inr (1, [.ref a_second, .ref a_cell, .ref a_power, .ref a_share, .ref a_hanging, .ref a_freePairs, .ref a_rest, .int size, .int freeSize])), (a_second, .inl (cI, 21, .inl (upd second size.toNatClampNeg j))), (a_cell, .inl (cI, 21, .inl (upd cell size.toNatClampNeg r_1))), (a_power, .inl (cI, 21, .inl (upd power size.toNatClampNeg product))), (a_share, .inl (cI, 21, .inl (upd share size.toNatClampNeg s_2))), (a_hanging, .inl (cI, 15, .inl hanging_3))] H → va_D A [(a_this, .inr (1, [.ref a_second, .ref a_cell, .ref a_power, .ref a_share, .ref a_hanging, .ref a_freePairs, .ref a_rest, .int size, .int freeSize])), (a_second, .inl (cI, 21, .inl (upd second size.toNatClampNeg j))), (a_cell, .inl (cI, 21, .inl (upd cell size.toNatClampNeg r_1))), (a_power, .inl (cI, 21, .inl (upd power size.toNatClampNeg product))), (a_share, .inl (cI, 21, .inl (upd share size.toNatClampNeg s_2))), (a_hanging, .inl (cI, 15, .inl hanging_3))] → va_S A s.heap H locs → ∀ ls : Array Slot, lv_has ls 4 [(0, .ref a_this)] → W p l e (headSpec wd_Pairs_add rm_Pairs_add).room s m args below meth c H locs 0 0 (MQ below (ct_Qv D [(a_this, .inr (1, [.ref a_second, .ref a_cell, .ref a_power, .ref a_share, .ref a_hanging, .ref a_freePairs, .ref a_rest, .int o_size, .int freeSize])), (a_second, .inl (cI, 21, .inl o_second)), (a_cell, .inl (cI, 21, .inl o_cell)), (a_power, .inl (cI, 21, .inl o_power)), (a_share, .inl (cI, 21, .inl o_share)), (a_hanging, .inl (cI, 15, .inl o_hanging))] A) args s 0 0 A) (F0 m 78 ls []) := by
      intro hanging_3 h H locs hP hD hS ls hl
      rw [hjd3] at h
      try dsimp only at h
      refine lv_aload_n hx hb d_Pairs_add_78 rfl (lv_at hl 0 rfl) ?_
      refine lv_dup hx hb d_Pairs_add_79 rfl ?_
      refine va_get (D := D) (ci := 1) (v := .int size) (C := R_Pairs) (T := T_Pairs) (N := 9) hx hb hts (fun w h9 => ct_in (iw_Pairs w h9)) hown hK hP 0 rfl rfl 7 (by decide) (hts _ (ct_in k_42)) (fun _ h9 => h9) rfl d_Pairs_add_80 ?_
      refine lv_iconst (v := 1) hx hb d_Pairs_add_83 (by decide) ?_
      refine lv_iadd hx hb d_Pairs_add_84 ?_
      refine va_put (D := D) (ci := 1) (v := .int (size + 1)) (ty := .int) (C := R_Pairs) (T := T_Pairs) (N := 9) hx hb hts (fun w h9 => ct_in (iw_Pairs w h9)) t_Pairs tk_Pairs nm_Pairs hown hK hP hD hS 0 rfl rfl 7 (by decide) (hts _ (ct_in k_42)) (fun _ h9 => h9) rfl (by decide +kernel) rfl rfl (Nat.le_of_ble_eq_true rfl) d_Pairs_add_85 (fun H locs hP hD hS => ?_)
      have hP : va_P D vwCl [(a_this, .inr (1, [.ref a_second, .ref a_cell, .ref a_power, .ref a_share, .ref a_hanging, .ref a_freePairs, .ref a_rest, .int (size + 1), .int freeSize])), (a_second, .inl (cI, 21, .inl (upd second size.toNatClampNeg j))), (a_cell, .inl (cI, 21, .inl (upd cell size.toNatClampNeg r_1))), (a_power, .inl (cI, 21, .inl (upd power size.toNatClampNeg product))), (a_share, .inl (cI, 21, .inl (upd share size.toNatClampNeg s_2))), (a_hanging, .inl (cI, 15, .inl hanging_3))] H := hP
      have hD : va_D A [(a_this, .inr (1, [.ref a_second, .ref a_cell, .ref a_power, .ref a_share, .ref a_hanging, .ref a_freePairs, .ref a_rest, .int (size + 1), .int freeSize])), (a_second, .inl (cI, 21, .inl (upd second size.toNatClampNeg j))), (a_cell, .inl (cI, 21, .inl (upd cell size.toNatClampNeg r_1))), (a_power, .inl (cI, 21, .inl (upd power size.toNatClampNeg product))), (a_share, .inl (cI, 21, .inl (upd share size.toNatClampNeg s_2))), (a_hanging, .inl (cI, 15, .inl hanging_3))] := hD
      cases h
      exact W.vret hx hb hr (fun t ht hW => ⟨⟨(), rfl, trivial, by rw [ht]; exact hP, hD⟩, hS.F ht⟩) hS.2.2 d_Pairs_add_88
    clear hjd3
    refine lv_icmp_eq (tgt := 68) hx hb d_Pairs_add_60 (by decide) (fun hc => ?_) (fun hc => ?_)
    · rw [if_pos hc] at h
      refine lv_aload_n hx hb d_Pairs_add_68 rfl (lv_at hl 0 rfl) ?_
      refine va_get (D := D) (ci := 1) (v := .ref a_hanging) (C := R_Pairs) (T := T_Pairs) (N := 9) hx hb hts (fun w h9 => ct_in (iw_Pairs w h9)) hown hK hP 0 rfl rfl 4 (by decide) (hts _ (ct_in k_37)) (fun _ h9 => h9) rfl d_Pairs_add_69 ?_
      refine lv_iload_n hx hb d_Pairs_add_72 rfl (lv_at hl 3 rfl) ?_
      refine lv_aload_n hx hb d_Pairs_add_73 rfl (lv_at hl 0 rfl) ?_
      refine va_get (D := D) (ci := 1) (v := .int size) (C := R_Pairs) (T := T_Pairs) (N := 9) hx hb hts (fun w h9 => ct_in (iw_Pairs w h9)) hown hK hP 0 rfl rfl 7 (by decide) (hts _ (ct_in k_42)) (fun _ h9 => h9) rfl d_Pairs_add_74 ?_
      obtain ⟨hin, h⟩ := ct_chk h
      refine va_iast hx hb hK hP hD hS 5 0 rfl rfl hin d_Pairs_add_77 (fun H locs hP hD hS => ?_)
      have hP : va_P D vwCl [(a_this, .inr (1, [.ref a_second, .ref a_cell, .ref a_power, .ref a_share, .ref a_hanging, .ref a_freePairs, .ref a_rest, .int size, .int freeSize])), (a_second, .inl (cI, 21, .inl (upd second size.toNatClampNeg j))), (a_cell, .inl (cI, 21, .inl (upd cell size.toNatClampNeg r_1))), (a_power, .inl (cI, 21, .inl (upd power size.toNatClampNeg product))), (a_share, .inl (cI, 21, .inl (upd share size.toNatClampNeg s_2))), (a_hanging, .inl (cI, 15, .inl (upd hanging product.toNatClampNeg size)))] H := hP
      have hD : va_D A [(a_this, .inr (1, [.ref a_second, .ref a_cell, .ref a_power, .ref a_share, .ref a_hanging, .ref a_freePairs, .ref a_rest, .int size, .int freeSize])), (a_second, .inl (cI, 21, .inl (upd second size.toNatClampNeg j))), (a_cell, .inl (cI, 21, .inl (upd cell size.toNatClampNeg r_1))), (a_power, .inl (cI, 21, .inl (upd power size.toNatClampNeg product))), (a_share, .inl (cI, 21, .inl (upd share size.toNatClampNeg s_2))), (a_hanging, .inl (cI, 15, .inl (upd hanging product.toNatClampNeg size)))] := hD
      exact hj3 _ h _ _ hP hD hS ls (lv_sub hl [0] rfl)
    · rw [if_neg hc] at h
      refine lv_iload_n hx hb d_Pairs_add_63 rfl (lv_at hl 1 rfl) ?_
      refine lv_iload_n hx hb d_Pairs_add_64 rfl (lv_at hl 2 rfl) ?_
      refine lv_icmp_ne (tgt := 78) hx hb d_Pairs_add_65 (by decide) (fun hc => ?_) (fun hc => ?_)
      · rw [if_neg hc] at h
        exact hj3 _ h _ _ hP hD hS ls (lv_sub hl [0] rfl)
      · rw [if_pos hc] at h
        refine lv_aload_n hx hb d_Pairs_add_68 rfl (lv_at hl 0 rfl) ?_
        refine va_get (D := D) (ci := 1) (v := .ref a_hanging) (C := R_Pairs) (T := T_Pairs) (N := 9) hx hb hts (fun w h9 => ct_in (iw_Pairs w h9)) hown hK hP 0 rfl rfl 4 (by decide) (hts _ (ct_in k_37)) (fun _ h9 => h9) rfl d_Pairs_add_69 ?_
        refine lv_iload_n hx hb d_Pairs_add_72 rfl (lv_at hl 3 rfl) ?_
        refine lv_aload_n hx hb d_Pairs_add_73 rfl (lv_at hl 0 rfl) ?_
        refine va_get (D := D) (ci := 1) (v := .int size) (C := R_Pairs) (T := T_Pairs) (N := 9) hx hb hts (fun w h9 => ct_in (iw_Pairs w h9)) hown hK hP 0 rfl rfl 7 (by decide) (hts _ (ct_in k_42)) (fun _ h9 => h9) rfl d_Pairs_add_74 ?_
        obtain ⟨hin, h⟩ := ct_chk h
        refine va_iast hx hb hK hP hD hS 5 0 rfl rfl hin d_Pairs_add_77 (fun H locs hP hD hS => ?_)
        have hP : va_P D vwCl [(a_this, .inr (1, [.ref a_second, .ref a_cell, .ref a_power, .ref a_share, .ref a_hanging, .ref a_freePairs, .ref a_rest, .int size, .int freeSize])), (a_second, .inl (cI, 21, .inl (upd second size.toNatClampNeg j))), (a_cell, .inl (cI, 21, .inl (upd cell size.toNatClampNeg r_1))), (a_power, .inl (cI, 21, .inl (upd power size.toNatClampNeg product))), (a_share, .inl (cI, 21, .inl (upd share size.toNatClampNeg s_2))), (a_hanging, .inl (cI, 15, .inl (upd hanging product.toNatClampNeg size)))] H := hP
        have hD : va_D A [(a_this, .inr (1, [.ref a_second, .ref a_cell, .ref a_power, .ref a_share, .ref a_hanging, .ref a_freePairs, .ref a_rest, .int size, .int freeSize])), (a_second, .inl (cI, 21, .inl (upd second size.toNatClampNeg j))), (a_cell, .inl (cI, 21, .inl (upd cell size.toNatClampNeg r_1))), (a_power, .inl (cI, 21, .inl (upd power size.toNatClampNeg product))), (a_share, .inl (cI, 21, .inl (upd share size.toNatClampNeg s_2))), (a_hanging, .inl (cI, 15, .inl (upd hanging product.toNatClampNeg size)))] := hD
        exact hj3 _ h _ _ hP hD hS ls (lv_sub hl [0] rfl)
  clear hjd2
  refine lv_icmp_ne (tgt := 51) hx hb d_Pairs_add_44 (by decide) (fun hc => ?_) (fun hc => ?_)
  · rw [if_neg hc] at h
    refine lv_iconst (v := 2) hx hb d_Pairs_add_51 (by decide) ?_
    exact hj2 _ h _ _ hP hD hS ls (lv_sub hl [0, 1, 2, 3] rfl)
  · rw [if_pos hc] at h
    refine lv_iconst (v := 1) hx hb d_Pairs_add_47 (by decide) ?_
    refine lv_goto (tgt := 52) hx hb d_Pairs_add_48 (by decide) ?_
    exact hj2 _ h _ _ hP hD hS ls (lv_sub hl [0, 1, 2, 3] rfl)
set_option maxHeartbeats 4000000 in
set_option maxRecDepth 100000 in
theorem c_Pairs_add (l : Launch) (D : va_G) (cI cL cZ : ClassId) (tA tB sz : Nat) (a_this a_second a_cell a_power a_share a_hanging a_freePairs a_rest : Nat) (i : Int32) (j : Int32) (product : Int32) (size : Int32) (freeSize : Int32) (second : Nat → Int32) (cell : Nat → Int32) (power : Nat → Int32) (share : Nat → Int32) (hanging : Nat → Int32) (o_size : Int32) (o_second : Nat → Int32) (o_cell : Nat → Int32) (o_power : Nat → Int32) (o_share : Nat → Int32) (o_hanging : Nat → Int32) (A : Nat → Prop) (hAe : A = va_A [(a_this, .inr (1, [.ref a_second, .ref a_cell, .ref a_power, .ref a_share, .ref a_hanging, .ref a_freePairs, .ref a_rest, .int size, .int freeSize])), (a_second, .inl (cI, 21, .inl second)), (a_cell, .inl (cI, 21, .inl cell)), (a_power, .inl (cI, 21, .inl power)), (a_share, .inl (cI, 21, .inl share)), (a_hanging, .inl (cI, 15, .inl hanging))] sz) (h : f_Pairs_add i j product size second cell power share hanging = some (o_size, o_second, o_cell, o_power, o_share, o_hanging)) : Met l y_Pairs_add wd_Pairs_add rm_Pairs_add (ct_Pre D (ct_tys cI cL cZ) tA tB [(a_this, .inr (1, [.ref a_second, .ref a_cell, .ref a_power, .ref a_share, .ref a_hanging, .ref a_freePairs, .ref a_rest, .int size, .int freeSize])), (a_second, .inl (cI, 21, .inl second)), (a_cell, .inl (cI, 21, .inl cell)), (a_power, .inl (cI, 21, .inl power)), (a_share, .inl (cI, 21, .inl share)), (a_hanging, .inl (cI, 15, .inl hanging))] sz [.ref a_this, .int i, .int j, .int product]) (ct_Qv D [(a_this, .inr (1, [.ref a_second, .ref a_cell, .ref a_power, .ref a_share, .ref a_hanging, .ref a_freePairs, .ref a_rest, .int o_size, .int freeSize])), (a_second, .inl (cI, 21, .inl o_second)), (a_cell, .inl (cI, 21, .inl o_cell)), (a_power, .inl (cI, 21, .inl o_power)), (a_share, .inl (cI, 21, .inl o_share)), (a_hanging, .inl (cI, 15, .inl o_hanging))] A) 0 0 A := by
  refine Met.ofW (cc := b_Pairs_add) (maxL := 4) (ret := none) (by decide) rfl ?_
  intro p e s m args below meth c s₁ B hml hv
  obtain ⟨hargs, hsz, hP, hK, hD0, hT⟩ := hv
  subst hsz
  have hD := hD0.self (sz := s.heap.size)
  rw [← hAe] at hD hT
  have hA : ∀ q : Nat, s.heap.size ≤ q → A q := fun q h => by rw [hAe]; exact Or.inr h
  clear hAe
  have cx : ct_Cx p s m args meth c b_Pairs_add 4 none R_Pairs wd_Pairs_add D (ct_tys cI cL cZ) tA tB A := ⟨B.exec, B.bytes, B.returns, hml, findClass_of_methodNamed B.named, atoms_spec (ws := wd_Pairs_add) B.pre, hK, hA, hT, B.notSynchronized, hT.1, hT.2.1, hT.2.2.1, hT.2.2.2.1, hT.2.2.2.2⟩
  have hl := lv_entry ([.ref a_this, .int i, .int j, .int product]) (n := 4) (Nat.le_of_ble_eq_true rfl)
  rw [show entryFrame m args 4 = entryFrame m ([.ref a_this, .int i, .int j, .int product] : List Value).toArray 4 by rw [hargs], lg_entry_eq]
  exact w_Pairs_add cx h _ _ hP hD va_S.rf _ hl
abbrev rm_Pairs_gatherFree : Room := { frames := 0, cells := 0, slots := 0, locals := 0 }
abbrev wd_Pairs_gatherFree : List Cond := .code y_Pairs_gatherFree b_Pairs_gatherFree 2 none :: ct_G
def f_Pairs_gatherFree_L7 (size : Int32) (power : Nat → Int32) (hanging : Nat → Int32) : Nat → Int32 → Int32 → (Nat → Int32) → (Int32 → (Nat → Int32) → Option (Int32 × (Nat → Int32))) → Option (Int32 × (Nat → Int32))
  | 0, _, _, _, _ => none
  | n + 1, x1, freeSize, freePairs, k => (if size ≤ x1 then (k freeSize freePairs) else (if x1 < 0 ∨ 21 ≤ x1.toNatClampNeg then none else (if (power x1.toNatClampNeg) < 0 ∨ 15 ≤ (power x1.toNatClampNeg).toNatClampNeg then none else (if (hanging (power x1.toNatClampNeg).toNatClampNeg) = x1 then (f_Pairs_gatherFree_L7 size power hanging n (x1 + 1) freeSize freePairs k) else (if freeSize < 0 ∨ 21 ≤ freeSize.toNatClampNeg then none else (f_Pairs_gatherFree_L7 size power hanging n (x1 + 1) (freeSize + 1) (upd freePairs freeSize.toNatClampNeg x1) k))))))
def f_Pairs_gatherFree (size : Int32) (power : Nat → Int32) (hanging : Nat → Int32) (freePairs : Nat → Int32) : Option (Int32 × (Nat → Int32)) := (f_Pairs_gatherFree_L7 size power hanging 40 0 0 freePairs (fun (freeSize_7 : Int32) (freePairs_8 : Nat → Int32) => some (freeSize_7, freePairs_8)))
set_option maxHeartbeats 4000000 in
set_option maxRecDepth 100000 in
theorem w_Pairs_gatherFree_L7 {p : Program} {l : Launch} {e : Env} {s : State} {m : MethodId} {args : Array Value} {below : List Frame} {meth : Method} {c : Code} {D : va_G} {cI cL cZ : ClassId} {tA tB : Nat} {A : Nat → Prop} {Q : State → Prop} {a_this a_second a_cell a_power a_share a_hanging a_freePairs a_rest : Nat} {size : Int32} {power : Nat → Int32} {hanging : Nat → Int32} {o_freeSize : Int32} {o_freePairs : Nat → Int32} (cx : ct_Cx p s m args meth c b_Pairs_gatherFree 2 none R_Pairs wd_Pairs_gatherFree D (ct_tys cI cL cZ) tA tB A) : ∀ (n : Nat) (x1 : Int32) (freeSize : Int32) (freePairs : Nat → Int32) (k : (Int32 → (Nat → Int32) → Option (Int32 × (Nat → Int32)))), f_Pairs_gatherFree_L7 size power hanging n x1 freeSize freePairs k = some (o_freeSize, o_freePairs) → (∀ (freeSize : Int32) (freePairs : Nat → Int32), k freeSize freePairs = some (o_freeSize, o_freePairs) → ∀ (H : Heap) (locs : List Loc), va_P D vwCl [(a_this, .inr (1, [.ref a_second, .ref a_cell, .ref a_power, .ref a_share, .ref a_hanging, .ref a_freePairs, .ref a_rest, .int size, .int freeSize])), (a_power, .inl (cI, 21, .inl power)), (a_hanging, .inl (cI, 15, .inl hanging)), (a_freePairs, .inl (cI, 21, .inl freePairs))] H → va_D A [(a_this, .inr (1, [.ref a_second, .ref a_cell, .ref a_power, .ref a_share, .ref a_hanging, .ref a_freePairs, .ref a_rest, .int size, .int freeSize])), (a_power, .inl (cI, 21, .inl power)), (a_hanging, .inl (cI, 15, .inl hanging)), (a_freePairs, .inl (cI, 21, .inl freePairs))] → va_S A s.heap H locs → ∀ ls : Array Slot, lv_has ls 2 [] → W p l e (headSpec wd_Pairs_gatherFree rm_Pairs_gatherFree).room s m args below meth c H locs 0 0 Q (F0 m 56 ls [])) → ∀ (H : Heap) (locs : List Loc), va_P D vwCl [(a_this, .inr (1, [.ref a_second, .ref a_cell, .ref a_power, .ref a_share, .ref a_hanging, .ref a_freePairs, .ref a_rest, .int size, .int freeSize])), (a_power, .inl (cI, 21, .inl power)), (a_hanging, .inl (cI, 15, .inl hanging)), (a_freePairs, .inl (cI, 21, .inl freePairs))] H → va_D A [(a_this, .inr (1, [.ref a_second, .ref a_cell, .ref a_power, .ref a_share, .ref a_hanging, .ref a_freePairs, .ref a_rest, .int size, .int freeSize])), (a_power, .inl (cI, 21, .inl power)), (a_hanging, .inl (cI, 15, .inl hanging)), (a_freePairs, .inl (cI, 21, .inl freePairs))] → va_S A s.heap H locs → ∀ ls : Array Slot, lv_has ls 2 [(1, .int x1), (0, .ref a_this)] → W p l e (headSpec wd_Pairs_gatherFree rm_Pairs_gatherFree).room s m args below meth c H locs 0 0 Q (F0 m 7 ls []) := by
  obtain ⟨hx, hb, hr, hml, hown, hts, hK, hA, hT, hlocks, hZA, hZB, hTA, hTB, hnw⟩ := id cx
  intro n
  induction n with
  | zero => intro x1 freeSize freePairs k h; rw [f_Pairs_gatherFree_L7] at h; cases h
  | succ n ih =>
    intro x1 freeSize freePairs k h hk H locs hP hD hS ls hl
    rw [f_Pairs_gatherFree_L7] at h
    refine lv_iload_n hx hb d_Pairs_gatherFree_7 rfl (lv_at hl 0 rfl) ?_
    refine lv_aload_n hx hb d_Pairs_gatherFree_8 rfl (lv_at hl 1 rfl) ?_
    refine va_get (D := D) (ci := 1) (v := .int size) (C := R_Pairs) (T := T_Pairs) (N := 9) hx hb hts (fun w h9 => ct_in (iw_Pairs w h9)) hown hK hP 0 rfl rfl 7 (by decide) (hts _ (ct_in k_42)) (fun _ h9 => h9) rfl d_Pairs_gatherFree_9 ?_
    refine lv_icmp_ge (tgt := 56) hx hb d_Pairs_gatherFree_12 (by decide) (fun hc => ?_) (fun hc => ?_)
    · rw [if_pos hc] at h
      exact hk _ _ h _ _ hP hD hS ls (lv_sub hl [] rfl)
    · rw [if_neg hc] at h
      refine lv_aload_n hx hb d_Pairs_gatherFree_15 rfl (lv_at hl 1 rfl) ?_
      refine va_get (D := D) (ci := 1) (v := .ref a_hanging) (C := R_Pairs) (T := T_Pairs) (N := 9) hx hb hts (fun w h9 => ct_in (iw_Pairs w h9)) hown hK hP 0 rfl rfl 4 (by decide) (hts _ (ct_in k_37)) (fun _ h9 => h9) rfl d_Pairs_gatherFree_16 ?_
      refine lv_aload_n hx hb d_Pairs_gatherFree_19 rfl (lv_at hl 1 rfl) ?_
      refine va_get (D := D) (ci := 1) (v := .ref a_power) (C := R_Pairs) (T := T_Pairs) (N := 9) hx hb hts (fun w h9 => ct_in (iw_Pairs w h9)) hown hK hP 0 rfl rfl 2 (by decide) (hts _ (ct_in k_51)) (fun _ h9 => h9) rfl d_Pairs_gatherFree_20 ?_
      refine lv_iload_n hx hb d_Pairs_gatherFree_23 rfl (lv_at hl 0 rfl) ?_
      obtain ⟨hin, h⟩ := ct_chk h
      refine va_iald hx hb hK hP 1 0 rfl rfl hin d_Pairs_gatherFree_24 ?_
      obtain ⟨hin, h⟩ := ct_chk h
      refine va_iald hx hb hK hP 2 0 rfl rfl hin d_Pairs_gatherFree_25 ?_
      refine lv_iload_n hx hb d_Pairs_gatherFree_26 rfl (lv_at hl 0 rfl) ?_
      refine lv_icmp_eq (tgt := 50) hx hb d_Pairs_gatherFree_27 (by decide) (fun hc => ?_) (fun hc => ?_)
      · rw [if_pos hc] at h
        refine lv_iinc (v := (x1 + 1)) (lv' := [(1, .int (x1 + 1)), (0, .ref a_this)]) hx hb d_Pairs_gatherFree_50 hl (k := 0) rfl rfl (by decide) rfl (fun ls hl => ?_)
        refine lv_goto (tgt := 7) hx hb d_Pairs_gatherFree_53 (by decide) ?_
        exact ih _ _ _ k h hk _ _ hP hD hS ls (lv_sub hl [0, 1] rfl)
      · rw [if_neg hc] at h
        refine lv_aload_n hx hb d_Pairs_gatherFree_30 rfl (lv_at hl 1 rfl) ?_
        refine va_get (D := D) (ci := 1) (v := .ref a_freePairs) (C := R_Pairs) (T := T_Pairs) (N := 9) hx hb hts (fun w h9 => ct_in (iw_Pairs w h9)) hown hK hP 0 rfl rfl 5 (by decide) (hts _ (ct_in k_58)) (fun _ h9 => h9) rfl d_Pairs_gatherFree_31 ?_
        refine lv_aload_n hx hb d_Pairs_gatherFree_34 rfl (lv_at hl 1 rfl) ?_
        refine va_get (D := D) (ci := 1) (v := .int freeSize) (C := R_Pairs) (T := T_Pairs) (N := 9) hx hb hts (fun w h9 => ct_in (iw_Pairs w h9)) hown hK hP 0 rfl rfl 8 (by decide) (hts _ (ct_in k_57)) (fun _ h9 => h9) rfl d_Pairs_gatherFree_35 ?_
        refine lv_iload_n hx hb d_Pairs_gatherFree_38 rfl (lv_at hl 0 rfl) ?_
        obtain ⟨hin, h⟩ := ct_chk h
        refine va_iast hx hb hK hP hD hS 3 0 rfl rfl hin d_Pairs_gatherFree_39 (fun H locs hP hD hS => ?_)
        have hP : va_P D vwCl [(a_this, .inr (1, [.ref a_second, .ref a_cell, .ref a_power, .ref a_share, .ref a_hanging, .ref a_freePairs, .ref a_rest, .int size, .int freeSize])), (a_power, .inl (cI, 21, .inl power)), (a_hanging, .inl (cI, 15, .inl hanging)), (a_freePairs, .inl (cI, 21, .inl (upd freePairs freeSize.toNatClampNeg x1)))] H := hP
        have hD : va_D A [(a_this, .inr (1, [.ref a_second, .ref a_cell, .ref a_power, .ref a_share, .ref a_hanging, .ref a_freePairs, .ref a_rest, .int size, .int freeSize])), (a_power, .inl (cI, 21, .inl power)), (a_hanging, .inl (cI, 15, .inl hanging)), (a_freePairs, .inl (cI, 21, .inl (upd freePairs freeSize.toNatClampNeg x1)))] := hD
        refine lv_aload_n hx hb d_Pairs_gatherFree_40 rfl (lv_at hl 1 rfl) ?_
        refine lv_dup hx hb d_Pairs_gatherFree_41 rfl ?_
        refine va_get (D := D) (ci := 1) (v := .int freeSize) (C := R_Pairs) (T := T_Pairs) (N := 9) hx hb hts (fun w h9 => ct_in (iw_Pairs w h9)) hown hK hP 0 rfl rfl 8 (by decide) (hts _ (ct_in k_57)) (fun _ h9 => h9) rfl d_Pairs_gatherFree_42 ?_
        refine lv_iconst (v := 1) hx hb d_Pairs_gatherFree_45 (by decide) ?_
        refine lv_iadd hx hb d_Pairs_gatherFree_46 ?_
        refine va_put (D := D) (ci := 1) (v := .int (freeSize + 1)) (ty := .int) (C := R_Pairs) (T := T_Pairs) (N := 9) hx hb hts (fun w h9 => ct_in (iw_Pairs w h9)) t_Pairs tk_Pairs nm_Pairs hown hK hP hD hS 0 rfl rfl 8 (by decide) (hts _ (ct_in k_57)) (fun _ h9 => h9) rfl (by decide +kernel) rfl rfl (Nat.le_of_ble_eq_true rfl) d_Pairs_gatherFree_47 (fun H locs hP hD hS => ?_)
        have hP : va_P D vwCl [(a_this, .inr (1, [.ref a_second, .ref a_cell, .ref a_power, .ref a_share, .ref a_hanging, .ref a_freePairs, .ref a_rest, .int size, .int (freeSize + 1)])), (a_power, .inl (cI, 21, .inl power)), (a_hanging, .inl (cI, 15, .inl hanging)), (a_freePairs, .inl (cI, 21, .inl (upd freePairs freeSize.toNatClampNeg x1)))] H := hP
        have hD : va_D A [(a_this, .inr (1, [.ref a_second, .ref a_cell, .ref a_power, .ref a_share, .ref a_hanging, .ref a_freePairs, .ref a_rest, .int size, .int (freeSize + 1)])), (a_power, .inl (cI, 21, .inl power)), (a_hanging, .inl (cI, 15, .inl hanging)), (a_freePairs, .inl (cI, 21, .inl (upd freePairs freeSize.toNatClampNeg x1)))] := hD
        refine lv_iinc (v := (x1 + 1)) (lv' := [(1, .int (x1 + 1)), (0, .ref a_this)]) hx hb d_Pairs_gatherFree_50 hl (k := 0) rfl rfl (by decide) rfl (fun ls hl => ?_)
        refine lv_goto (tgt := 7) hx hb d_Pairs_gatherFree_53 (by decide) ?_
        exact ih _ _ _ k h hk _ _ hP hD hS ls (lv_sub hl [0, 1] rfl)
set_option maxHeartbeats 4000000 in
set_option maxRecDepth 100000 in
theorem w_Pairs_gatherFree {p : Program} {l : Launch} {e : Env} {s : State} {m : MethodId} {args : Array Value} {below : List Frame} {meth : Method} {c : Code} {D : va_G} {cI cL cZ : ClassId} {tA tB : Nat} {A : Nat → Prop} {a_this a_second a_cell a_power a_share a_hanging a_freePairs a_rest : Nat} {size : Int32} {freeSize : Int32} {power : Nat → Int32} {hanging : Nat → Int32} {freePairs : Nat → Int32} {o_freeSize : Int32} {o_freePairs : Nat → Int32} (cx : ct_Cx p s m args meth c b_Pairs_gatherFree 2 none R_Pairs wd_Pairs_gatherFree D (ct_tys cI cL cZ) tA tB A) (h : f_Pairs_gatherFree size power hanging freePairs = some (o_freeSize, o_freePairs)) : ∀ (H : Heap) (locs : List Loc), va_P D vwCl [(a_this, .inr (1, [.ref a_second, .ref a_cell, .ref a_power, .ref a_share, .ref a_hanging, .ref a_freePairs, .ref a_rest, .int size, .int freeSize])), (a_power, .inl (cI, 21, .inl power)), (a_hanging, .inl (cI, 15, .inl hanging)), (a_freePairs, .inl (cI, 21, .inl freePairs))] H → va_D A [(a_this, .inr (1, [.ref a_second, .ref a_cell, .ref a_power, .ref a_share, .ref a_hanging, .ref a_freePairs, .ref a_rest, .int size, .int freeSize])), (a_power, .inl (cI, 21, .inl power)), (a_hanging, .inl (cI, 15, .inl hanging)), (a_freePairs, .inl (cI, 21, .inl freePairs))] → va_S A s.heap H locs → ∀ ls : Array Slot, lv_has ls 2 [(0, .ref a_this)] → W p l e (headSpec wd_Pairs_gatherFree rm_Pairs_gatherFree).room s m args below meth c H locs 0 0 (MQ below (ct_Qv D [(a_this, .inr (1, [.ref a_second, .ref a_cell, .ref a_power, .ref a_share, .ref a_hanging, .ref a_freePairs, .ref a_rest, .int size, .int o_freeSize])), (a_power, .inl (cI, 21, .inl power)), (a_hanging, .inl (cI, 15, .inl hanging)), (a_freePairs, .inl (cI, 21, .inl o_freePairs))] A) args s 0 0 A) (F0 m 0 ls []) := by
  obtain ⟨hx, hb, hr, hml, hown, hts, hK, hA, hT, hlocks, hZA, hZB, hTA, hTB, hnw⟩ := id cx
  intro H locs hP hD hS ls hl
  rw [f_Pairs_gatherFree] at h
  refine lv_aload_n hx hb d_Pairs_gatherFree_0 rfl (lv_at hl 0 rfl) ?_
  refine lv_iconst (v := 0) hx hb d_Pairs_gatherFree_1 (by decide) ?_
  refine va_put (D := D) (ci := 1) (v := .int 0) (ty := .int) (C := R_Pairs) (T := T_Pairs) (N := 9) hx hb hts (fun w h9 => ct_in (iw_Pairs w h9)) t_Pairs tk_Pairs nm_Pairs hown hK hP hD hS 0 rfl rfl 8 (by decide) (hts _ (ct_in k_57)) (fun _ h9 => h9) rfl (by decide +kernel) rfl rfl (Nat.le_of_ble_eq_true rfl) d_Pairs_gatherFree_2 (fun H locs hP hD hS => ?_)
  have hP : va_P D vwCl [(a_this, .inr (1, [.ref a_second, .ref a_cell, .ref a_power, .ref a_share, .ref a_hanging, .ref a_freePairs, .ref a_rest, .int size, .int 0])), (a_power, .inl (cI, 21, .inl power)), (a_hanging, .inl (cI, 15, .inl hanging)), (a_freePairs, .inl (cI, 21, .inl freePairs))] H := hP
  have hD : va_D A [(a_this, .inr (1, [.ref a_second, .ref a_cell, .ref a_power, .ref a_share, .ref a_hanging, .ref a_freePairs, .ref a_rest, .int size, .int 0])), (a_power, .inl (cI, 21, .inl power)), (a_hanging, .inl (cI, 15, .inl hanging)), (a_freePairs, .inl (cI, 21, .inl freePairs))] := hD
  refine lv_iconst (v := 0) hx hb d_Pairs_gatherFree_5 (by decide) ?_
  refine lv_istore_n (lv' := [(1, .int 0), (0, .ref a_this)]) hx hb d_Pairs_gatherFree_6 rfl hl (by decide) rfl (fun ls hl => ?_)
  refine w_Pairs_gatherFree_L7 cx _ _ _ _ _ h (fun freeSize_7 freePairs_8 h H locs hP hD hS ls hl => ?_) _ _ hP hD hS ls (lv_sub hl [0, 1] rfl)
  try dsimp only at h
  cases h
  exact W.vret hx hb hr (fun t ht hW => ⟨⟨(), rfl, trivial, by rw [ht]; exact hP, hD⟩, hS.F ht⟩) hS.2.2 d_Pairs_gatherFree_56
set_option maxHeartbeats 4000000 in
set_option maxRecDepth 100000 in
theorem c_Pairs_gatherFree (l : Launch) (D : va_G) (cI cL cZ : ClassId) (tA tB sz : Nat) (a_this a_second a_cell a_power a_share a_hanging a_freePairs a_rest : Nat) (size : Int32) (freeSize : Int32) (power : Nat → Int32) (hanging : Nat → Int32) (freePairs : Nat → Int32) (o_freeSize : Int32) (o_freePairs : Nat → Int32) (A : Nat → Prop) (hAe : A = va_A [(a_this, .inr (1, [.ref a_second, .ref a_cell, .ref a_power, .ref a_share, .ref a_hanging, .ref a_freePairs, .ref a_rest, .int size, .int freeSize])), (a_power, .inl (cI, 21, .inl power)), (a_hanging, .inl (cI, 15, .inl hanging)), (a_freePairs, .inl (cI, 21, .inl freePairs))] sz) (h : f_Pairs_gatherFree size power hanging freePairs = some (o_freeSize, o_freePairs)) : Met l y_Pairs_gatherFree wd_Pairs_gatherFree rm_Pairs_gatherFree (ct_Pre D (ct_tys cI cL cZ) tA tB [(a_this, .inr (1, [.ref a_second, .ref a_cell, .ref a_power, .ref a_share, .ref a_hanging, .ref a_freePairs, .ref a_rest, .int size, .int freeSize])), (a_power, .inl (cI, 21, .inl power)), (a_hanging, .inl (cI, 15, .inl hanging)), (a_freePairs, .inl (cI, 21, .inl freePairs))] sz [.ref a_this]) (ct_Qv D [(a_this, .inr (1, [.ref a_second, .ref a_cell, .ref a_power, .ref a_share, .ref a_hanging, .ref a_freePairs, .ref a_rest, .int size, .int o_freeSize])), (a_power, .inl (cI, 21, .inl power)), (a_hanging, .inl (cI, 15, .inl hanging)), (a_freePairs, .inl (cI, 21, .inl o_freePairs))] A) 0 0 A := by
  refine Met.ofW (cc := b_Pairs_gatherFree) (maxL := 2) (ret := none) (by decide) rfl ?_
  intro p e s m args below meth c s₁ B hml hv
  obtain ⟨hargs, hsz, hP, hK, hD0, hT⟩ := hv
  subst hsz
  have hD := hD0.self (sz := s.heap.size)
  rw [← hAe] at hD hT
  have hA : ∀ q : Nat, s.heap.size ≤ q → A q := fun q h => by rw [hAe]; exact Or.inr h
  clear hAe
  have cx : ct_Cx p s m args meth c b_Pairs_gatherFree 2 none R_Pairs wd_Pairs_gatherFree D (ct_tys cI cL cZ) tA tB A := ⟨B.exec, B.bytes, B.returns, hml, findClass_of_methodNamed B.named, atoms_spec (ws := wd_Pairs_gatherFree) B.pre, hK, hA, hT, B.notSynchronized, hT.1, hT.2.1, hT.2.2.1, hT.2.2.2.1, hT.2.2.2.2⟩
  have hl := lv_entry ([.ref a_this]) (n := 2) (Nat.le_of_ble_eq_true rfl)
  rw [show entryFrame m args 2 = entryFrame m ([.ref a_this] : List Value).toArray 2 by rw [hargs], lg_entry_eq]
  exact w_Pairs_gatherFree cx h _ _ hP hD va_S.rf _ hl
abbrev rm_Pairs_arrange : Room := { frames := 2, cells := 0, slots := 0, locals := 44 }
abbrev wd_Pairs_arrange : List Cond := .code y_Pairs_arrange b_Pairs_arrange 5 none :: ct_G
def f_Pairs_arrange_L25 (x2 : Int32) (hull_size : Int32) (hull_members : Nat → Int32) : Nat → Int32 → Int32 → (Nat → Int32) → (Nat → Int32) → (Nat → Int32) → (Nat → Int32) → (Nat → Int32) → (Int32 → (Nat → Int32) → (Nat → Int32) → (Nat → Int32) → (Nat → Int32) → (Nat → Int32) → Option (Int32 × Int32 × (Nat → Int32) × (Nat → Int32) × (Nat → Int32) × (Nat → Int32) × (Nat → Int32) × (Nat → Int32))) → Option (Int32 × Int32 × (Nat → Int32) × (Nat → Int32) × (Nat → Int32) × (Nat → Int32) × (Nat → Int32) × (Nat → Int32))
  | 0, _, _, _, _, _, _, _, _ => none
  | n + 1, x3, size, second, cell, power, share, hanging, k => (if hull_size ≤ x3 then (k size second cell power share hanging) else (if x2 < 0 ∨ 6 ≤ x2.toNatClampNeg then none else (if x3 < 0 ∨ 6 ≤ x3.toNatClampNeg then none else ((f_Pairs_productOf (hull_members x2.toNatClampNeg) (hull_members x3.toNatClampNeg)).bind (fun r_118 => (if r_118 = (-1) then (f_Pairs_arrange_L25 x2 hull_size hull_members n (x3 + 1) size second cell power share hanging k) else ((f_Pairs_add x2 x3 r_118 size second cell power share hanging).bind (fun (size_125, second_126, cell_127, power_128, share_129, hanging_130) => (f_Pairs_arrange_L25 x2 hull_size hull_members n (x3 + 1) size_125 second_126 cell_127 power_128 share_129 hanging_130 k)))))))))
def f_Pairs_arrange_L15 (hull_size : Int32) (hull_members : Nat → Int32) : Nat → Int32 → Int32 → (Nat → Int32) → (Nat → Int32) → (Nat → Int32) → (Nat → Int32) → (Nat → Int32) → (Int32 → (Nat → Int32) → (Nat → Int32) → (Nat → Int32) → (Nat → Int32) → (Nat → Int32) → Option (Int32 × Int32 × (Nat → Int32) × (Nat → Int32) × (Nat → Int32) × (Nat → Int32) × (Nat → Int32) × (Nat → Int32))) → Option (Int32 × Int32 × (Nat → Int32) × (Nat → Int32) × (Nat → Int32) × (Nat → Int32) × (Nat → Int32) × (Nat → Int32))
  | 0, _, _, _, _, _, _, _, _ => none
  | n + 1, x2, size, second, cell, power, share, hanging, k => (if hull_size ≤ x2 then (k size second cell power share hanging) else (f_Pairs_arrange_L25 x2 hull_size hull_members 40 x2 size second cell power share hanging (fun (size_131 : Int32) (second_132 : Nat → Int32) (cell_133 : Nat → Int32) (power_134 : Nat → Int32) (share_135 : Nat → Int32) (hanging_136 : Nat → Int32) => (f_Pairs_arrange_L15 hull_size hull_members n (x2 + 1) size_131 second_132 cell_133 power_134 share_135 hanging_136 k))))
def f_Pairs_arrange (second : Nat → Int32) (cell : Nat → Int32) (power : Nat → Int32) (share : Nat → Int32) (hanging : Nat → Int32) (freePairs : Nat → Int32) (hull_size : Int32) (hull_members : Nat → Int32) : Option (Int32 × Int32 × (Nat → Int32) × (Nat → Int32) × (Nat → Int32) × (Nat → Int32) × (Nat → Int32) × (Nat → Int32)) := ((f_Ar_fill_15 ((-1) : Int32) hanging).bind (fun arr_1 => (f_Pairs_arrange_L15 hull_size hull_members 40 0 0 second cell power share arr_1 (fun (size_137 : Int32) (second_138 : Nat → Int32) (cell_139 : Nat → Int32) (power_140 : Nat → Int32) (share_141 : Nat → Int32) (hanging_142 : Nat → Int32) => ((f_Pairs_gatherFree size_137 power_140 hanging_142 freePairs).bind (fun (freeSize_143, freePairs_144) => some (size_137, freeSize_143, second_138, cell_139, power_140, share_141, hanging_142, freePairs_144)))))))
set_option maxHeartbeats 4000000 in
set_option maxRecDepth 100000 in
theorem w_Pairs_arrange_L25 {p : Program} {l : Launch} {e : Env} {s : State} {m : MethodId} {args : Array Value} {below : List Frame} {meth : Method} {c : Code} {D : va_G} {cI cL cZ : ClassId} {tA tB : Nat} {A : Nat → Prop} {Q : State → Prop} {a_this a_second a_cell a_power a_share a_hanging a_freePairs a_rest a_hull a_hull_corner a_hull_outside a_hull_members : Nat} {x2 : Int32} {freeSize : Int32} {freePairs : Nat → Int32} {hull_size : Int32} {hull_members : Nat → Int32} {o_size : Int32} {o_freeSize : Int32} {o_second : Nat → Int32} {o_cell : Nat → Int32} {o_power : Nat → Int32} {o_share : Nat → Int32} {o_hanging : Nat → Int32} {o_freePairs : Nat → Int32} (cx : ct_Cx p s m args meth c b_Pairs_arrange 5 none R_Pairs wd_Pairs_arrange D (ct_tys cI cL cZ) tA tB A) : ∀ (n : Nat) (x3 : Int32) (size : Int32) (second : Nat → Int32) (cell : Nat → Int32) (power : Nat → Int32) (share : Nat → Int32) (hanging : Nat → Int32) (k : (Int32 → (Nat → Int32) → (Nat → Int32) → (Nat → Int32) → (Nat → Int32) → (Nat → Int32) → Option (Int32 × Int32 × (Nat → Int32) × (Nat → Int32) × (Nat → Int32) × (Nat → Int32) × (Nat → Int32) × (Nat → Int32)))), f_Pairs_arrange_L25 x2 hull_size hull_members n x3 size second cell power share hanging k = some (o_size, o_freeSize, o_second, o_cell, o_power, o_share, o_hanging, o_freePairs) → (∀ (size : Int32) (second : Nat → Int32) (cell : Nat → Int32) (power : Nat → Int32) (share : Nat → Int32) (hanging : Nat → Int32), k size second cell power share hanging = some (o_size, o_freeSize, o_second, o_cell, o_power, o_share, o_hanging, o_freePairs) → ∀ (H : Heap) (locs : List Loc), va_P D vwCl [(a_this, .inr (1, [.ref a_second, .ref a_cell, .ref a_power, .ref a_share, .ref a_hanging, .ref a_freePairs, .ref a_rest, .int size, .int freeSize])), (a_second, .inl (cI, 21, .inl second)), (a_cell, .inl (cI, 21, .inl cell)), (a_power, .inl (cI, 21, .inl power)), (a_share, .inl (cI, 21, .inl share)), (a_hanging, .inl (cI, 15, .inl hanging)), (a_freePairs, .inl (cI, 21, .inl freePairs)), (a_hull, .inr (0, [.ref a_hull_corner, .ref a_hull_outside, .ref a_hull_members, .int hull_size])), (a_hull_members, .inl (cI, 6, .inl hull_members))] H → va_D A [(a_this, .inr (1, [.ref a_second, .ref a_cell, .ref a_power, .ref a_share, .ref a_hanging, .ref a_freePairs, .ref a_rest, .int size, .int freeSize])), (a_second, .inl (cI, 21, .inl second)), (a_cell, .inl (cI, 21, .inl cell)), (a_power, .inl (cI, 21, .inl power)), (a_share, .inl (cI, 21, .inl share)), (a_hanging, .inl (cI, 15, .inl hanging)), (a_freePairs, .inl (cI, 21, .inl freePairs)), (a_hull, .inr (0, [.ref a_hull_corner, .ref a_hull_outside, .ref a_hull_members, .int hull_size])), (a_hull_members, .inl (cI, 6, .inl hull_members))] → va_S A s.heap H locs → ∀ ls : Array Slot, lv_has ls 5 [(2, .int x2), (0, .ref a_this), (1, .ref a_hull)] → W p l e (headSpec wd_Pairs_arrange rm_Pairs_arrange).room s m args below meth c H locs 0 0 Q (F0 m 70 ls [])) → ∀ (H : Heap) (locs : List Loc), va_P D vwCl [(a_this, .inr (1, [.ref a_second, .ref a_cell, .ref a_power, .ref a_share, .ref a_hanging, .ref a_freePairs, .ref a_rest, .int size, .int freeSize])), (a_second, .inl (cI, 21, .inl second)), (a_cell, .inl (cI, 21, .inl cell)), (a_power, .inl (cI, 21, .inl power)), (a_share, .inl (cI, 21, .inl share)), (a_hanging, .inl (cI, 15, .inl hanging)), (a_freePairs, .inl (cI, 21, .inl freePairs)), (a_hull, .inr (0, [.ref a_hull_corner, .ref a_hull_outside, .ref a_hull_members, .int hull_size])), (a_hull_members, .inl (cI, 6, .inl hull_members))] H → va_D A [(a_this, .inr (1, [.ref a_second, .ref a_cell, .ref a_power, .ref a_share, .ref a_hanging, .ref a_freePairs, .ref a_rest, .int size, .int freeSize])), (a_second, .inl (cI, 21, .inl second)), (a_cell, .inl (cI, 21, .inl cell)), (a_power, .inl (cI, 21, .inl power)), (a_share, .inl (cI, 21, .inl share)), (a_hanging, .inl (cI, 15, .inl hanging)), (a_freePairs, .inl (cI, 21, .inl freePairs)), (a_hull, .inr (0, [.ref a_hull_corner, .ref a_hull_outside, .ref a_hull_members, .int hull_size])), (a_hull_members, .inl (cI, 6, .inl hull_members))] → va_S A s.heap H locs → ∀ ls : Array Slot, lv_has ls 5 [(3, .int x3), (2, .int x2), (0, .ref a_this), (1, .ref a_hull)] → W p l e (headSpec wd_Pairs_arrange rm_Pairs_arrange).room s m args below meth c H locs 0 0 Q (F0 m 25 ls []) := by
  obtain ⟨hx, hb, hr, hml, hown, hts, hK, hA, hT, hlocks, hZA, hZB, hTA, hTB, hnw⟩ := id cx
  intro n
  induction n with
  | zero => intro x3 size second cell power share hanging k h; rw [f_Pairs_arrange_L25] at h; cases h
  | succ n ih =>
    intro x3 size second cell power share hanging k h hk H locs hP hD hS ls hl
    rw [f_Pairs_arrange_L25] at h
    refine lv_iload_n hx hb d_Pairs_arrange_25 rfl (lv_at hl 0 rfl) ?_
    refine lv_aload_n hx hb d_Pairs_arrange_26 rfl (lv_at hl 3 rfl) ?_
    refine va_getN (D := D) (ci := 0) (v := .int hull_size) (C := R_Hull) (T := T_Hull) (N := 4) hx hb hts (fun w h9 => ct_in (iw_Hull w h9)) hown hK hP 7 rfl rfl 3 (by decide) (ct_nest_use n_3 hnw) (fun _ h9 => h9) rfl d_Pairs_arrange_27 ?_
    refine lv_icmp_ge (tgt := 70) hx hb d_Pairs_arrange_30 (by decide) (fun hc => ?_) (fun hc => ?_)
    · rw [if_pos hc] at h
      exact hk _ _ _ _ _ _ h _ _ hP hD hS ls (lv_sub hl [1, 2, 3] rfl)
    · rw [if_neg hc] at h
      refine lv_aload_n hx hb d_Pairs_arrange_33 rfl (lv_at hl 3 rfl) ?_
      refine va_getN (D := D) (ci := 0) (v := .ref a_hull_members) (C := R_Hull) (T := T_Hull) (N := 4) hx hb hts (fun w h9 => ct_in (iw_Hull w h9)) hown hK hP 7 rfl rfl 2 (by decide) (ct_nest_use n_4 hnw) (fun _ h9 => h9) rfl d_Pairs_arrange_34 ?_
      refine lv_iload_n hx hb d_Pairs_arrange_37 rfl (lv_at hl 1 rfl) ?_
      obtain ⟨hin, h⟩ := ct_chk h
      refine va_iald hx hb hK hP 8 0 rfl rfl hin d_Pairs_arrange_38 ?_
      refine lv_aload_n hx hb d_Pairs_arrange_39 rfl (lv_at hl 3 rfl) ?_
      refine va_getN (D := D) (ci := 0) (v := .ref a_hull_members) (C := R_Hull) (T := T_Hull) (N := 4) hx hb hts (fun w h9 => ct_in (iw_Hull w h9)) hown hK hP 7 rfl rfl 2 (by decide) (ct_nest_use n_4 hnw) (fun _ h9 => h9) rfl d_Pairs_arrange_40 ?_
      refine lv_iload_n hx hb d_Pairs_arrange_43 rfl (lv_at hl 0 rfl) ?_
      obtain ⟨hin, h⟩ := ct_chk h
      refine va_iald hx hb hK hP 8 0 rfl rfl hin d_Pairs_arrange_44 ?_
      obtain ⟨r_118, ho, h⟩ := Option.bind_eq_some_iff.mp h
      refine ct_calli (wc := []) (wr := [(a_this, .inr (1, [.ref a_second, .ref a_cell, .ref a_power, .ref a_share, .ref a_hanging, .ref a_freePairs, .ref a_rest, .int size, .int freeSize])), (a_second, .inl (cI, 21, .inl second)), (a_cell, .inl (cI, 21, .inl cell)), (a_power, .inl (cI, 21, .inl power)), (a_share, .inl (cI, 21, .inl share)), (a_hanging, .inl (cI, 15, .inl hanging)), (a_freePairs, .inl (cI, 21, .inl freePairs)), (a_hull, .inr (0, [.ref a_hull_corner, .ref a_hull_outside, .ref a_hull_members, .int hull_size])), (a_hull_members, .inl (cI, 6, .inl hull_members))]) (wc' := []) (ws' := [(a_this, .inr (1, [.ref a_second, .ref a_cell, .ref a_power, .ref a_share, .ref a_hanging, .ref a_freePairs, .ref a_rest, .int size, .int freeSize])), (a_second, .inl (cI, 21, .inl second)), (a_cell, .inl (cI, 21, .inl cell)), (a_power, .inl (cI, 21, .inl power)), (a_share, .inl (cI, 21, .inl share)), (a_hanging, .inl (cI, 15, .inl hanging)), (a_freePairs, .inl (cI, 21, .inl freePairs)), (a_hull, .inr (0, [.ref a_hull_corner, .ref a_hull_outside, .ref a_hull_members, .int hull_size])), (a_hull_members, .inl (cI, 6, .inl hull_members))]) (va_runS (As := [.int (hull_members x2.toNatClampNeg), .int (hull_members x3.toNatClampNeg)]) (rest := []) ⟨hx, hb, hml, hown, hts⟩ (c_Pairs_productOf l D cI cL cZ tA tB H.size (hull_members x2.toNatClampNeg) (hull_members x3.toNatClampNeg) r_118 _ rfl ho) (va_cwS 2 hts (ct_goodS k_48 k_47 k_46 k_45) rfl rfl rfl (by decide +kernel) ⟨Nat.le_of_ble_eq_true rfl, Nat.le_of_ble_eq_true rfl⟩) (ct_preS (wc := []) hP hD hK hS hA hT [] rfl (by decide)) rfl rfl hl.1 rfl (lv_room (Nat.le_of_ble_eq_true rfl)) d_Pairs_arrange_45 ⟨Nat.zero_le _, Nat.zero_le _⟩) hP hD hS hA [] [0, 1, 2, 3, 4, 5, 6, 7, 8] rfl rfl (by decide) (by decide) [0, 1, 2, 3, 4, 5, 6, 7, 8] rfl (by decide) (fun H locs hP hD hS => ?_)
      refine lv_istore (lv' := [(4, .int r_118), (3, .int x3), (2, .int x2), (0, .ref a_this), (1, .ref a_hull)]) hx hb d_Pairs_arrange_48 hl (by decide) rfl (fun ls hl => ?_)
      refine lv_iload hx hb d_Pairs_arrange_50 (lv_at hl 0 rfl) ?_
      refine lv_iconst (v := (-1)) hx hb d_Pairs_arrange_52 (by decide) ?_
      refine lv_icmp_eq (tgt := 64) hx hb d_Pairs_arrange_53 (by decide) (fun hc => ?_) (fun hc => ?_)
      · rw [if_pos hc] at h
        refine lv_iinc (v := (x3 + 1)) (lv' := [(3, .int (x3 + 1)), (4, .int r_118), (2, .int x2), (0, .ref a_this), (1, .ref a_hull)]) hx hb d_Pairs_arrange_64 hl (k := 1) rfl rfl (by decide) rfl (fun ls hl => ?_)
        refine lv_goto (tgt := 25) hx hb d_Pairs_arrange_67 (by decide) ?_
        exact ih _ _ _ _ _ _ _ k h hk _ _ hP hD hS ls (lv_sub hl [0, 2, 3, 4] rfl)
      · rw [if_neg hc] at h
        refine lv_aload_n hx hb d_Pairs_arrange_56 rfl (lv_at hl 3 rfl) ?_
        refine lv_iload_n hx hb d_Pairs_arrange_57 rfl (lv_at hl 2 rfl) ?_
        refine lv_iload_n hx hb d_Pairs_arrange_58 rfl (lv_at hl 1 rfl) ?_
        refine lv_iload hx hb d_Pairs_arrange_59 (lv_at hl 0 rfl) ?_
        obtain ⟨⟨size_125, second_126, cell_127, power_128, share_129, hanging_130⟩, ho, h⟩ := Option.bind_eq_some_iff.mp h
        try dsimp only at h
        refine ct_callv (wc := [(a_this, .inr (1, [.ref a_second, .ref a_cell, .ref a_power, .ref a_share, .ref a_hanging, .ref a_freePairs, .ref a_rest, .int size, .int freeSize])), (a_second, .inl (cI, 21, .inl second)), (a_cell, .inl (cI, 21, .inl cell)), (a_power, .inl (cI, 21, .inl power)), (a_share, .inl (cI, 21, .inl share)), (a_hanging, .inl (cI, 15, .inl hanging))]) (wr := [(a_freePairs, .inl (cI, 21, .inl freePairs)), (a_hull, .inr (0, [.ref a_hull_corner, .ref a_hull_outside, .ref a_hull_members, .int hull_size])), (a_hull_members, .inl (cI, 6, .inl hull_members))]) (wc' := [(a_this, .inr (1, [.ref a_second, .ref a_cell, .ref a_power, .ref a_share, .ref a_hanging, .ref a_freePairs, .ref a_rest, .int size_125, .int freeSize])), (a_second, .inl (cI, 21, .inl second_126)), (a_cell, .inl (cI, 21, .inl cell_127)), (a_power, .inl (cI, 21, .inl power_128)), (a_share, .inl (cI, 21, .inl share_129)), (a_hanging, .inl (cI, 15, .inl hanging_130))]) (ws' := [(a_this, .inr (1, [.ref a_second, .ref a_cell, .ref a_power, .ref a_share, .ref a_hanging, .ref a_freePairs, .ref a_rest, .int size_125, .int freeSize])), (a_second, .inl (cI, 21, .inl second_126)), (a_cell, .inl (cI, 21, .inl cell_127)), (a_power, .inl (cI, 21, .inl power_128)), (a_share, .inl (cI, 21, .inl share_129)), (a_hanging, .inl (cI, 15, .inl hanging_130)), (a_freePairs, .inl (cI, 21, .inl freePairs)), (a_hull, .inr (0, [.ref a_hull_corner, .ref a_hull_outside, .ref a_hull_members, .int hull_size])), (a_hull_members, .inl (cI, 6, .inl hull_members))]) (va_runV (As := [.int x2, .int x3, .int r_118]) (rest := []) ⟨hx, hb, hml, hown, hts⟩ (c_Pairs_add l D cI cL cZ tA tB H.size a_this a_second a_cell a_power a_share a_hanging a_freePairs a_rest x2 x3 r_118 size freeSize second cell power share hanging size_125 second_126 cell_127 power_128 share_129 hanging_130 _ rfl ho) (cwV 3 hts (ct_goodV k_56 k_54 k_55 k_46 k_53) rfl rfl rfl (by decide +kernel) ⟨Nat.le_of_ble_eq_true rfl, Nat.le_of_ble_eq_true rfl⟩) (ct_preV (wc := [(a_this, .inr (1, [.ref a_second, .ref a_cell, .ref a_power, .ref a_share, .ref a_hanging, .ref a_freePairs, .ref a_rest, .int size, .int freeSize])), (a_second, .inl (cI, 21, .inl second)), (a_cell, .inl (cI, 21, .inl cell)), (a_power, .inl (cI, 21, .inl power)), (a_share, .inl (cI, 21, .inl share)), (a_hanging, .inl (cI, 15, .inl hanging))]) hP hD hK hS hA hT [0, 1, 2, 3, 4, 5] rfl (by decide) (ci := 1) (q0 := 0) rfl rfl) rfl rfl hl.1 rfl (lv_room (Nat.le_of_ble_eq_true rfl)) d_Pairs_arrange_61 ⟨Nat.zero_le _, Nat.zero_le _⟩) hP hD hS hA [0, 1, 2, 3, 4, 5] [6, 7, 8] rfl rfl (by decide) (by decide) [3, 4, 5, 6, 7, 8, 0, 1, 2] rfl (by decide) (fun H locs hP hD hS => ?_)
        refine lv_iinc (v := (x3 + 1)) (lv' := [(3, .int (x3 + 1)), (4, .int r_118), (2, .int x2), (0, .ref a_this), (1, .ref a_hull)]) hx hb d_Pairs_arrange_64 hl (k := 1) rfl rfl (by decide) rfl (fun ls hl => ?_)
        refine lv_goto (tgt := 25) hx hb d_Pairs_arrange_67 (by decide) ?_
        exact ih _ _ _ _ _ _ _ k h hk _ _ hP hD hS ls (lv_sub hl [0, 2, 3, 4] rfl)
set_option maxHeartbeats 4000000 in
set_option maxRecDepth 100000 in
theorem w_Pairs_arrange_L15 {p : Program} {l : Launch} {e : Env} {s : State} {m : MethodId} {args : Array Value} {below : List Frame} {meth : Method} {c : Code} {D : va_G} {cI cL cZ : ClassId} {tA tB : Nat} {A : Nat → Prop} {Q : State → Prop} {a_this a_second a_cell a_power a_share a_hanging a_freePairs a_rest a_hull a_hull_corner a_hull_outside a_hull_members : Nat} {freeSize : Int32} {freePairs : Nat → Int32} {hull_size : Int32} {hull_members : Nat → Int32} {o_size : Int32} {o_freeSize : Int32} {o_second : Nat → Int32} {o_cell : Nat → Int32} {o_power : Nat → Int32} {o_share : Nat → Int32} {o_hanging : Nat → Int32} {o_freePairs : Nat → Int32} (cx : ct_Cx p s m args meth c b_Pairs_arrange 5 none R_Pairs wd_Pairs_arrange D (ct_tys cI cL cZ) tA tB A) : ∀ (n : Nat) (x2 : Int32) (size : Int32) (second : Nat → Int32) (cell : Nat → Int32) (power : Nat → Int32) (share : Nat → Int32) (hanging : Nat → Int32) (k : (Int32 → (Nat → Int32) → (Nat → Int32) → (Nat → Int32) → (Nat → Int32) → (Nat → Int32) → Option (Int32 × Int32 × (Nat → Int32) × (Nat → Int32) × (Nat → Int32) × (Nat → Int32) × (Nat → Int32) × (Nat → Int32)))), f_Pairs_arrange_L15 hull_size hull_members n x2 size second cell power share hanging k = some (o_size, o_freeSize, o_second, o_cell, o_power, o_share, o_hanging, o_freePairs) → (∀ (size : Int32) (second : Nat → Int32) (cell : Nat → Int32) (power : Nat → Int32) (share : Nat → Int32) (hanging : Nat → Int32), k size second cell power share hanging = some (o_size, o_freeSize, o_second, o_cell, o_power, o_share, o_hanging, o_freePairs) → ∀ (H : Heap) (locs : List Loc), va_P D vwCl [(a_this, .inr (1, [.ref a_second, .ref a_cell, .ref a_power, .ref a_share, .ref a_hanging, .ref a_freePairs, .ref a_rest, .int size, .int freeSize])), (a_second, .inl (cI, 21, .inl second)), (a_cell, .inl (cI, 21, .inl cell)), (a_power, .inl (cI, 21, .inl power)), (a_share, .inl (cI, 21, .inl share)), (a_hanging, .inl (cI, 15, .inl hanging)), (a_freePairs, .inl (cI, 21, .inl freePairs)), (a_hull, .inr (0, [.ref a_hull_corner, .ref a_hull_outside, .ref a_hull_members, .int hull_size])), (a_hull_members, .inl (cI, 6, .inl hull_members))] H → va_D A [(a_this, .inr (1, [.ref a_second, .ref a_cell, .ref a_power, .ref a_share, .ref a_hanging, .ref a_freePairs, .ref a_rest, .int size, .int freeSize])), (a_second, .inl (cI, 21, .inl second)), (a_cell, .inl (cI, 21, .inl cell)), (a_power, .inl (cI, 21, .inl power)), (a_share, .inl (cI, 21, .inl share)), (a_hanging, .inl (cI, 15, .inl hanging)), (a_freePairs, .inl (cI, 21, .inl freePairs)), (a_hull, .inr (0, [.ref a_hull_corner, .ref a_hull_outside, .ref a_hull_members, .int hull_size])), (a_hull_members, .inl (cI, 6, .inl hull_members))] → va_S A s.heap H locs → ∀ ls : Array Slot, lv_has ls 5 [(0, .ref a_this)] → W p l e (headSpec wd_Pairs_arrange rm_Pairs_arrange).room s m args below meth c H locs 0 0 Q (F0 m 76 ls [])) → ∀ (H : Heap) (locs : List Loc), va_P D vwCl [(a_this, .inr (1, [.ref a_second, .ref a_cell, .ref a_power, .ref a_share, .ref a_hanging, .ref a_freePairs, .ref a_rest, .int size, .int freeSize])), (a_second, .inl (cI, 21, .inl second)), (a_cell, .inl (cI, 21, .inl cell)), (a_power, .inl (cI, 21, .inl power)), (a_share, .inl (cI, 21, .inl share)), (a_hanging, .inl (cI, 15, .inl hanging)), (a_freePairs, .inl (cI, 21, .inl freePairs)), (a_hull, .inr (0, [.ref a_hull_corner, .ref a_hull_outside, .ref a_hull_members, .int hull_size])), (a_hull_members, .inl (cI, 6, .inl hull_members))] H → va_D A [(a_this, .inr (1, [.ref a_second, .ref a_cell, .ref a_power, .ref a_share, .ref a_hanging, .ref a_freePairs, .ref a_rest, .int size, .int freeSize])), (a_second, .inl (cI, 21, .inl second)), (a_cell, .inl (cI, 21, .inl cell)), (a_power, .inl (cI, 21, .inl power)), (a_share, .inl (cI, 21, .inl share)), (a_hanging, .inl (cI, 15, .inl hanging)), (a_freePairs, .inl (cI, 21, .inl freePairs)), (a_hull, .inr (0, [.ref a_hull_corner, .ref a_hull_outside, .ref a_hull_members, .int hull_size])), (a_hull_members, .inl (cI, 6, .inl hull_members))] → va_S A s.heap H locs → ∀ ls : Array Slot, lv_has ls 5 [(2, .int x2), (0, .ref a_this), (1, .ref a_hull)] → W p l e (headSpec wd_Pairs_arrange rm_Pairs_arrange).room s m args below meth c H locs 0 0 Q (F0 m 15 ls []) := by
  obtain ⟨hx, hb, hr, hml, hown, hts, hK, hA, hT, hlocks, hZA, hZB, hTA, hTB, hnw⟩ := id cx
  intro n
  induction n with
  | zero => intro x2 size second cell power share hanging k h; rw [f_Pairs_arrange_L15] at h; cases h
  | succ n ih =>
    intro x2 size second cell power share hanging k h hk H locs hP hD hS ls hl
    rw [f_Pairs_arrange_L15] at h
    refine lv_iload_n hx hb d_Pairs_arrange_15 rfl (lv_at hl 0 rfl) ?_
    refine lv_aload_n hx hb d_Pairs_arrange_16 rfl (lv_at hl 2 rfl) ?_
    refine va_getN (D := D) (ci := 0) (v := .int hull_size) (C := R_Hull) (T := T_Hull) (N := 4) hx hb hts (fun w h9 => ct_in (iw_Hull w h9)) hown hK hP 7 rfl rfl 3 (by decide) (ct_nest_use n_3 hnw) (fun _ h9 => h9) rfl d_Pairs_arrange_17 ?_
    refine lv_icmp_ge (tgt := 76) hx hb d_Pairs_arrange_20 (by decide) (fun hc => ?_) (fun hc => ?_)
    · rw [if_pos hc] at h
      exact hk _ _ _ _ _ _ h _ _ hP hD hS ls (lv_sub hl [1] rfl)
    · rw [if_neg hc] at h
      refine lv_iload_n hx hb d_Pairs_arrange_23 rfl (lv_at hl 0 rfl) ?_
      refine lv_istore_n (lv' := [(3, .int x2), (2, .int x2), (0, .ref a_this), (1, .ref a_hull)]) hx hb d_Pairs_arrange_24 rfl hl (by decide) rfl (fun ls hl => ?_)
      refine w_Pairs_arrange_L25 cx _ _ _ _ _ _ _ _ _ h (fun size_131 second_132 cell_133 power_134 share_135 hanging_136 h H locs hP hD hS ls hl => ?_) _ _ hP hD hS ls (lv_sub hl [0, 1, 2, 3] rfl)
      try dsimp only at h
      refine lv_iinc (v := (x2 + 1)) (lv' := [(2, .int (x2 + 1)), (0, .ref a_this), (1, .ref a_hull)]) hx hb d_Pairs_arrange_70 hl (k := 0) rfl rfl (by decide) rfl (fun ls hl => ?_)
      refine lv_goto (tgt := 15) hx hb d_Pairs_arrange_73 (by decide) ?_
      exact ih _ _ _ _ _ _ _ k h hk _ _ hP hD hS ls (lv_sub hl [0, 1, 2] rfl)
set_option maxHeartbeats 4000000 in
set_option maxRecDepth 100000 in
theorem w_Pairs_arrange {p : Program} {l : Launch} {e : Env} {s : State} {m : MethodId} {args : Array Value} {below : List Frame} {meth : Method} {c : Code} {D : va_G} {cI cL cZ : ClassId} {tA tB : Nat} {A : Nat → Prop} {a_this a_second a_cell a_power a_share a_hanging a_freePairs a_rest a_hull a_hull_corner a_hull_outside a_hull_members : Nat} {size : Int32} {freeSize : Int32} {second : Nat → Int32} {cell : Nat → Int32} {power : Nat → Int32} {share : Nat → Int32} {hanging : Nat → Int32} {freePairs : Nat → Int32} {hull_size : Int32} {hull_members : Nat → Int32} {o_size : Int32} {o_freeSize : Int32} {o_second : Nat → Int32} {o_cell : Nat → Int32} {o_power : Nat → Int32} {o_share : Nat → Int32} {o_hanging : Nat → Int32} {o_freePairs : Nat → Int32} (cx : ct_Cx p s m args meth c b_Pairs_arrange 5 none R_Pairs wd_Pairs_arrange D (ct_tys cI cL cZ) tA tB A) (h : f_Pairs_arrange second cell power share hanging freePairs hull_size hull_members = some (o_size, o_freeSize, o_second, o_cell, o_power, o_share, o_hanging, o_freePairs)) : ∀ (H : Heap) (locs : List Loc), va_P D vwCl [(a_this, .inr (1, [.ref a_second, .ref a_cell, .ref a_power, .ref a_share, .ref a_hanging, .ref a_freePairs, .ref a_rest, .int size, .int freeSize])), (a_second, .inl (cI, 21, .inl second)), (a_cell, .inl (cI, 21, .inl cell)), (a_power, .inl (cI, 21, .inl power)), (a_share, .inl (cI, 21, .inl share)), (a_hanging, .inl (cI, 15, .inl hanging)), (a_freePairs, .inl (cI, 21, .inl freePairs)), (a_hull, .inr (0, [.ref a_hull_corner, .ref a_hull_outside, .ref a_hull_members, .int hull_size])), (a_hull_members, .inl (cI, 6, .inl hull_members))] H → va_D A [(a_this, .inr (1, [.ref a_second, .ref a_cell, .ref a_power, .ref a_share, .ref a_hanging, .ref a_freePairs, .ref a_rest, .int size, .int freeSize])), (a_second, .inl (cI, 21, .inl second)), (a_cell, .inl (cI, 21, .inl cell)), (a_power, .inl (cI, 21, .inl power)), (a_share, .inl (cI, 21, .inl share)), (a_hanging, .inl (cI, 15, .inl hanging)), (a_freePairs, .inl (cI, 21, .inl freePairs)), (a_hull, .inr (0, [.ref a_hull_corner, .ref a_hull_outside, .ref a_hull_members, .int hull_size])), (a_hull_members, .inl (cI, 6, .inl hull_members))] → va_S A s.heap H locs → ∀ ls : Array Slot, lv_has ls 5 [(0, .ref a_this), (1, .ref a_hull)] → W p l e (headSpec wd_Pairs_arrange rm_Pairs_arrange).room s m args below meth c H locs 0 0 (MQ below (ct_Qv D [(a_this, .inr (1, [.ref a_second, .ref a_cell, .ref a_power, .ref a_share, .ref a_hanging, .ref a_freePairs, .ref a_rest, .int o_size, .int o_freeSize])), (a_second, .inl (cI, 21, .inl o_second)), (a_cell, .inl (cI, 21, .inl o_cell)), (a_power, .inl (cI, 21, .inl o_power)), (a_share, .inl (cI, 21, .inl o_share)), (a_hanging, .inl (cI, 15, .inl o_hanging)), (a_freePairs, .inl (cI, 21, .inl o_freePairs)), (a_hull, .inr (0, [.ref a_hull_corner, .ref a_hull_outside, .ref a_hull_members, .int hull_size])), (a_hull_members, .inl (cI, 6, .inl hull_members))] A) args s 0 0 A) (F0 m 0 ls []) := by
  obtain ⟨hx, hb, hr, hml, hown, hts, hK, hA, hT, hlocks, hZA, hZB, hTA, hTB, hnw⟩ := id cx
  intro H locs hP hD hS ls hl
  rw [f_Pairs_arrange] at h
  refine lv_aload_n hx hb d_Pairs_arrange_0 rfl (lv_at hl 0 rfl) ?_
  refine va_get (D := D) (ci := 1) (v := .ref a_hanging) (C := R_Pairs) (T := T_Pairs) (N := 9) hx hb hts (fun w h9 => ct_in (iw_Pairs w h9)) hown hK hP 0 rfl rfl 4 (by decide) (hts _ (ct_in k_37)) (fun _ h9 => h9) rfl d_Pairs_arrange_1 ?_
  refine lv_iconst (v := (-1)) hx hb d_Pairs_arrange_4 (by decide) ?_
  obtain ⟨arr_1, ho, h⟩ := Option.bind_eq_some_iff.mp h
  refine ct_callv (wc := [(a_hanging, .inl (cI, 15, .inl hanging))]) (wr := [(a_this, .inr (1, [.ref a_second, .ref a_cell, .ref a_power, .ref a_share, .ref a_hanging, .ref a_freePairs, .ref a_rest, .int size, .int freeSize])), (a_second, .inl (cI, 21, .inl second)), (a_cell, .inl (cI, 21, .inl cell)), (a_power, .inl (cI, 21, .inl power)), (a_share, .inl (cI, 21, .inl share)), (a_freePairs, .inl (cI, 21, .inl freePairs)), (a_hull, .inr (0, [.ref a_hull_corner, .ref a_hull_outside, .ref a_hull_members, .int hull_size])), (a_hull_members, .inl (cI, 6, .inl hull_members))]) (wc' := [(a_hanging, .inl (cI, 15, .inl arr_1))]) (ws' := [(a_this, .inr (1, [.ref a_second, .ref a_cell, .ref a_power, .ref a_share, .ref a_hanging, .ref a_freePairs, .ref a_rest, .int size, .int freeSize])), (a_second, .inl (cI, 21, .inl second)), (a_cell, .inl (cI, 21, .inl cell)), (a_power, .inl (cI, 21, .inl power)), (a_share, .inl (cI, 21, .inl share)), (a_hanging, .inl (cI, 15, .inl arr_1)), (a_freePairs, .inl (cI, 21, .inl freePairs)), (a_hull, .inr (0, [.ref a_hull_corner, .ref a_hull_outside, .ref a_hull_members, .int hull_size])), (a_hull_members, .inl (cI, 6, .inl hull_members))]) (va_runS (As := [.ref a_hanging, .int (-1)]) (rest := []) ⟨hx, hb, hml, hown, hts⟩ (c_Ar_fill_15 l D cI cL cZ tA tB H.size a_hanging ((-1) : Int32) hanging arr_1 _ rfl ho) (va_cwS 2 hts (ct_goodS k_41 k_40 k_39 k_38) rfl rfl rfl (by decide +kernel) ⟨Nat.le_of_ble_eq_true rfl, Nat.le_of_ble_eq_true rfl⟩) (ct_preS (wc := [(a_hanging, .inl (cI, 15, .inl hanging))]) hP hD hK hS hA hT [5] rfl (by decide)) rfl rfl hl.1 rfl (lv_room (Nat.le_of_ble_eq_true rfl)) d_Pairs_arrange_5 ⟨Nat.zero_le _, Nat.zero_le _⟩) hP hD hS hA [5] [0, 1, 2, 3, 4, 6, 7, 8] rfl rfl (by decide) (by decide) [0, 1, 2, 3, 4, 8, 5, 6, 7] rfl (by decide) (fun H locs hP hD hS => ?_)
  refine lv_aload_n hx hb d_Pairs_arrange_8 rfl (lv_at hl 0 rfl) ?_
  refine lv_iconst (v := 0) hx hb d_Pairs_arrange_9 (by decide) ?_
  refine va_put (D := D) (ci := 1) (v := .int 0) (ty := .int) (C := R_Pairs) (T := T_Pairs) (N := 9) hx hb hts (fun w h9 => ct_in (iw_Pairs w h9)) t_Pairs tk_Pairs nm_Pairs hown hK hP hD hS 0 rfl rfl 7 (by decide) (hts _ (ct_in k_42)) (fun _ h9 => h9) rfl (by decide +kernel) rfl rfl (Nat.le_of_ble_eq_true rfl) d_Pairs_arrange_10 (fun H locs hP hD hS => ?_)
  have hP : va_P D vwCl [(a_this, .inr (1, [.ref a_second, .ref a_cell, .ref a_power, .ref a_share, .ref a_hanging, .ref a_freePairs, .ref a_rest, .int 0, .int freeSize])), (a_second, .inl (cI, 21, .inl second)), (a_cell, .inl (cI, 21, .inl cell)), (a_power, .inl (cI, 21, .inl power)), (a_share, .inl (cI, 21, .inl share)), (a_hanging, .inl (cI, 15, .inl arr_1)), (a_freePairs, .inl (cI, 21, .inl freePairs)), (a_hull, .inr (0, [.ref a_hull_corner, .ref a_hull_outside, .ref a_hull_members, .int hull_size])), (a_hull_members, .inl (cI, 6, .inl hull_members))] H := hP
  have hD : va_D A [(a_this, .inr (1, [.ref a_second, .ref a_cell, .ref a_power, .ref a_share, .ref a_hanging, .ref a_freePairs, .ref a_rest, .int 0, .int freeSize])), (a_second, .inl (cI, 21, .inl second)), (a_cell, .inl (cI, 21, .inl cell)), (a_power, .inl (cI, 21, .inl power)), (a_share, .inl (cI, 21, .inl share)), (a_hanging, .inl (cI, 15, .inl arr_1)), (a_freePairs, .inl (cI, 21, .inl freePairs)), (a_hull, .inr (0, [.ref a_hull_corner, .ref a_hull_outside, .ref a_hull_members, .int hull_size])), (a_hull_members, .inl (cI, 6, .inl hull_members))] := hD
  refine lv_iconst (v := 0) hx hb d_Pairs_arrange_13 (by decide) ?_
  refine lv_istore_n (lv' := [(2, .int 0), (0, .ref a_this), (1, .ref a_hull)]) hx hb d_Pairs_arrange_14 rfl hl (by decide) rfl (fun ls hl => ?_)
  refine w_Pairs_arrange_L15 cx _ _ _ _ _ _ _ _ _ h (fun size_137 second_138 cell_139 power_140 share_141 hanging_142 h H locs hP hD hS ls hl => ?_) _ _ hP hD hS ls (lv_sub hl [0, 1, 2] rfl)
  try dsimp only at h
  refine lv_aload_n hx hb d_Pairs_arrange_76 rfl (lv_at hl 0 rfl) ?_
  obtain ⟨⟨freeSize_143, freePairs_144⟩, ho, h⟩ := Option.bind_eq_some_iff.mp h
  try dsimp only at h
  refine ct_callv (wc := [(a_this, .inr (1, [.ref a_second, .ref a_cell, .ref a_power, .ref a_share, .ref a_hanging, .ref a_freePairs, .ref a_rest, .int size_137, .int freeSize])), (a_power, .inl (cI, 21, .inl power_140)), (a_hanging, .inl (cI, 15, .inl hanging_142)), (a_freePairs, .inl (cI, 21, .inl freePairs))]) (wr := [(a_second, .inl (cI, 21, .inl second_138)), (a_cell, .inl (cI, 21, .inl cell_139)), (a_share, .inl (cI, 21, .inl share_141)), (a_hull, .inr (0, [.ref a_hull_corner, .ref a_hull_outside, .ref a_hull_members, .int hull_size])), (a_hull_members, .inl (cI, 6, .inl hull_members))]) (wc' := [(a_this, .inr (1, [.ref a_second, .ref a_cell, .ref a_power, .ref a_share, .ref a_hanging, .ref a_freePairs, .ref a_rest, .int size_137, .int freeSize_143])), (a_power, .inl (cI, 21, .inl power_140)), (a_hanging, .inl (cI, 15, .inl hanging_142)), (a_freePairs, .inl (cI, 21, .inl freePairs_144))]) (ws' := [(a_this, .inr (1, [.ref a_second, .ref a_cell, .ref a_power, .ref a_share, .ref a_hanging, .ref a_freePairs, .ref a_rest, .int size_137, .int freeSize_143])), (a_second, .inl (cI, 21, .inl second_138)), (a_cell, .inl (cI, 21, .inl cell_139)), (a_power, .inl (cI, 21, .inl power_140)), (a_share, .inl (cI, 21, .inl share_141)), (a_hanging, .inl (cI, 15, .inl hanging_142)), (a_freePairs, .inl (cI, 21, .inl freePairs_144)), (a_hull, .inr (0, [.ref a_hull_corner, .ref a_hull_outside, .ref a_hull_members, .int hull_size])), (a_hull_members, .inl (cI, 6, .inl hull_members))]) (va_runV (As := []) (rest := []) ⟨hx, hb, hml, hown, hts⟩ (c_Pairs_gatherFree l D cI cL cZ tA tB H.size a_this a_second a_cell a_power a_share a_hanging a_freePairs a_rest size_137 freeSize power_140 hanging_142 freePairs freeSize_143 freePairs_144 _ rfl ho) (cwV 0 hts (ct_goodV k_62 k_60 k_61 k_46 k_59) rfl rfl rfl (by decide +kernel) ⟨Nat.le_of_ble_eq_true rfl, Nat.le_of_ble_eq_true rfl⟩) (ct_preV (wc := [(a_this, .inr (1, [.ref a_second, .ref a_cell, .ref a_power, .ref a_share, .ref a_hanging, .ref a_freePairs, .ref a_rest, .int size_137, .int freeSize])), (a_power, .inl (cI, 21, .inl power_140)), (a_hanging, .inl (cI, 15, .inl hanging_142)), (a_freePairs, .inl (cI, 21, .inl freePairs))]) hP hD hK hS hA hT [0, 3, 5, 6] rfl (by decide) (ci := 1) (q0 := 0) rfl rfl) rfl rfl hl.1 rfl (lv_room (Nat.le_of_ble_eq_true rfl)) d_Pairs_arrange_77 ⟨Nat.zero_le _, Nat.zero_le _⟩) hP hD hS hA [0, 3, 5, 6] [1, 2, 4, 7, 8] rfl rfl (by decide) (by decide) [5, 0, 1, 6, 2, 7, 8, 3, 4] rfl (by decide) (fun H locs hP hD hS => ?_)
  cases h
  exact W.vret hx hb hr (fun t ht hW => ⟨⟨(), rfl, trivial, by rw [ht]; exact hP, hD⟩, hS.F ht⟩) hS.2.2 d_Pairs_arrange_80
set_option maxHeartbeats 4000000 in
set_option maxRecDepth 100000 in
theorem c_Pairs_arrange (l : Launch) (D : va_G) (cI cL cZ : ClassId) (tA tB sz : Nat) (a_this a_second a_cell a_power a_share a_hanging a_freePairs a_rest a_hull a_hull_corner a_hull_outside a_hull_members : Nat) (size : Int32) (freeSize : Int32) (second : Nat → Int32) (cell : Nat → Int32) (power : Nat → Int32) (share : Nat → Int32) (hanging : Nat → Int32) (freePairs : Nat → Int32) (hull_size : Int32) (hull_members : Nat → Int32) (o_size : Int32) (o_freeSize : Int32) (o_second : Nat → Int32) (o_cell : Nat → Int32) (o_power : Nat → Int32) (o_share : Nat → Int32) (o_hanging : Nat → Int32) (o_freePairs : Nat → Int32) (A : Nat → Prop) (hAe : A = va_A [(a_this, .inr (1, [.ref a_second, .ref a_cell, .ref a_power, .ref a_share, .ref a_hanging, .ref a_freePairs, .ref a_rest, .int size, .int freeSize])), (a_second, .inl (cI, 21, .inl second)), (a_cell, .inl (cI, 21, .inl cell)), (a_power, .inl (cI, 21, .inl power)), (a_share, .inl (cI, 21, .inl share)), (a_hanging, .inl (cI, 15, .inl hanging)), (a_freePairs, .inl (cI, 21, .inl freePairs)), (a_hull, .inr (0, [.ref a_hull_corner, .ref a_hull_outside, .ref a_hull_members, .int hull_size])), (a_hull_members, .inl (cI, 6, .inl hull_members))] sz) (h : f_Pairs_arrange second cell power share hanging freePairs hull_size hull_members = some (o_size, o_freeSize, o_second, o_cell, o_power, o_share, o_hanging, o_freePairs)) : Met l y_Pairs_arrange wd_Pairs_arrange rm_Pairs_arrange (ct_Pre D (ct_tys cI cL cZ) tA tB [(a_this, .inr (1, [.ref a_second, .ref a_cell, .ref a_power, .ref a_share, .ref a_hanging, .ref a_freePairs, .ref a_rest, .int size, .int freeSize])), (a_second, .inl (cI, 21, .inl second)), (a_cell, .inl (cI, 21, .inl cell)), (a_power, .inl (cI, 21, .inl power)), (a_share, .inl (cI, 21, .inl share)), (a_hanging, .inl (cI, 15, .inl hanging)), (a_freePairs, .inl (cI, 21, .inl freePairs)), (a_hull, .inr (0, [.ref a_hull_corner, .ref a_hull_outside, .ref a_hull_members, .int hull_size])), (a_hull_members, .inl (cI, 6, .inl hull_members))] sz [.ref a_this, .ref a_hull]) (ct_Qv D [(a_this, .inr (1, [.ref a_second, .ref a_cell, .ref a_power, .ref a_share, .ref a_hanging, .ref a_freePairs, .ref a_rest, .int o_size, .int o_freeSize])), (a_second, .inl (cI, 21, .inl o_second)), (a_cell, .inl (cI, 21, .inl o_cell)), (a_power, .inl (cI, 21, .inl o_power)), (a_share, .inl (cI, 21, .inl o_share)), (a_hanging, .inl (cI, 15, .inl o_hanging)), (a_freePairs, .inl (cI, 21, .inl o_freePairs)), (a_hull, .inr (0, [.ref a_hull_corner, .ref a_hull_outside, .ref a_hull_members, .int hull_size])), (a_hull_members, .inl (cI, 6, .inl hull_members))] A) 0 0 A := by
  refine Met.ofW (cc := b_Pairs_arrange) (maxL := 5) (ret := none) (by decide) rfl ?_
  intro p e s m args below meth c s₁ B hml hv
  obtain ⟨hargs, hsz, hP, hK, hD0, hT⟩ := hv
  subst hsz
  have hD := hD0.self (sz := s.heap.size)
  rw [← hAe] at hD hT
  have hA : ∀ q : Nat, s.heap.size ≤ q → A q := fun q h => by rw [hAe]; exact Or.inr h
  clear hAe
  have cx : ct_Cx p s m args meth c b_Pairs_arrange 5 none R_Pairs wd_Pairs_arrange D (ct_tys cI cL cZ) tA tB A := ⟨B.exec, B.bytes, B.returns, hml, findClass_of_methodNamed B.named, atoms_spec (ws := wd_Pairs_arrange) B.pre, hK, hA, hT, B.notSynchronized, hT.1, hT.2.1, hT.2.2.1, hT.2.2.2.1, hT.2.2.2.2⟩
  have hl := lv_entry ([.ref a_this, .ref a_hull]) (n := 5) (Nat.le_of_ble_eq_true rfl)
  rw [show entryFrame m args 5 = entryFrame m ([.ref a_this, .ref a_hull] : List Value).toArray 5 by rw [hargs], lg_entry_eq]
  exact w_Pairs_arrange cx h _ _ hP hD va_S.rf _ hl
abbrev rm_Pairs_doubleInto : Room := { frames := 0, cells := 0, slots := 0, locals := 0 }
abbrev wd_Pairs_doubleInto : List Cond := .code y_Pairs_doubleInto b_Pairs_doubleInto 3 none :: ct_G
def f_Pairs_doubleInto_L2 (numbers : Nat → Int32) : Nat → Int32 → (Nat → Int32) → ((Nat → Int32) → Option ((Nat → Int32))) → Option ((Nat → Int32))
  | 0, _, _, _ => none
  | n + 1, x2, dbl, k => (if 15 ≤ x2 then (k dbl) else (if x2 < 0 ∨ 15 ≤ x2.toNatClampNeg then none else (if x2 < 0 ∨ 15 ≤ x2.toNatClampNeg then none else (f_Pairs_doubleInto_L2 numbers n (x2 + 1) (upd dbl x2.toNatClampNeg (2 * (numbers x2.toNatClampNeg))) k))))
def f_Pairs_doubleInto (dbl : Nat → Int32) (numbers : Nat → Int32) : Option ((Nat → Int32)) := (f_Pairs_doubleInto_L2 numbers 40 0 dbl (fun (dbl_1 : Nat → Int32) => some dbl_1))
set_option maxHeartbeats 4000000 in
set_option maxRecDepth 100000 in
theorem w_Pairs_doubleInto_L2 {p : Program} {l : Launch} {e : Env} {s : State} {m : MethodId} {args : Array Value} {below : List Frame} {meth : Method} {c : Code} {D : va_G} {cI cL cZ : ClassId} {tA tB : Nat} {A : Nat → Prop} {Q : State → Prop} {a_dbl a_numbers : Nat} {numbers : Nat → Int32} {o_dbl : Nat → Int32} (cx : ct_Cx p s m args meth c b_Pairs_doubleInto 3 none R_Pairs wd_Pairs_doubleInto D (ct_tys cI cL cZ) tA tB A) : ∀ (n : Nat) (x2 : Int32) (dbl : Nat → Int32) (k : ((Nat → Int32) → Option ((Nat → Int32)))), f_Pairs_doubleInto_L2 numbers n x2 dbl k = some o_dbl → (∀ (dbl : Nat → Int32), k dbl = some o_dbl → ∀ (H : Heap) (locs : List Loc), va_P D vwCl [(a_dbl, .inl (cI, 15, .inl dbl)), (a_numbers, .inl (cI, 15, .inl numbers))] H → va_D A [(a_dbl, .inl (cI, 15, .inl dbl)), (a_numbers, .inl (cI, 15, .inl numbers))] → va_S A s.heap H locs → ∀ ls : Array Slot, lv_has ls 3 [] → W p l e (headSpec wd_Pairs_doubleInto rm_Pairs_doubleInto).room s m args below meth c H locs 0 0 Q (F0 m 22 ls [])) → ∀ (H : Heap) (locs : List Loc), va_P D vwCl [(a_dbl, .inl (cI, 15, .inl dbl)), (a_numbers, .inl (cI, 15, .inl numbers))] H → va_D A [(a_dbl, .inl (cI, 15, .inl dbl)), (a_numbers, .inl (cI, 15, .inl numbers))] → va_S A s.heap H locs → ∀ ls : Array Slot, lv_has ls 3 [(2, .int x2), (0, .ref a_dbl), (1, .ref a_numbers)] → W p l e (headSpec wd_Pairs_doubleInto rm_Pairs_doubleInto).room s m args below meth c H locs 0 0 Q (F0 m 2 ls []) := by
  obtain ⟨hx, hb, hr, hml, hown, hts, hK, hA, hT, hlocks, hZA, hZB, hTA, hTB, hnw⟩ := id cx
  intro n
  induction n with
  | zero => intro x2 dbl k h; rw [f_Pairs_doubleInto_L2] at h; cases h
  | succ n ih =>
    intro x2 dbl k h hk H locs hP hD hS ls hl
    rw [f_Pairs_doubleInto_L2] at h
    refine lv_iload_n hx hb d_Pairs_doubleInto_2 rfl (lv_at hl 0 rfl) ?_
    refine lv_bipush (v := 15) hx hb d_Pairs_doubleInto_3 (by decide) ?_
    refine lv_icmp_ge (tgt := 22) hx hb d_Pairs_doubleInto_5 (by decide) (fun hc => ?_) (fun hc => ?_)
    · rw [if_pos hc] at h
      exact hk _ h _ _ hP hD hS ls (lv_sub hl [] rfl)
    · rw [if_neg hc] at h
      refine lv_aload_n hx hb d_Pairs_doubleInto_8 rfl (lv_at hl 1 rfl) ?_
      refine lv_iload_n hx hb d_Pairs_doubleInto_9 rfl (lv_at hl 0 rfl) ?_
      refine lv_iconst (v := 2) hx hb d_Pairs_doubleInto_10 (by decide) ?_
      refine lv_aload_n hx hb d_Pairs_doubleInto_11 rfl (lv_at hl 2 rfl) ?_
      refine lv_iload_n hx hb d_Pairs_doubleInto_12 rfl (lv_at hl 0 rfl) ?_
      obtain ⟨hin, h⟩ := ct_chk h
      refine va_iald hx hb hK hP 1 0 rfl rfl hin d_Pairs_doubleInto_13 ?_
      refine lv_imul hx hb d_Pairs_doubleInto_14 ?_
      obtain ⟨hin, h⟩ := ct_chk h
      refine va_iast hx hb hK hP hD hS 0 0 rfl rfl hin d_Pairs_doubleInto_15 (fun H locs hP hD hS => ?_)
      have hP : va_P D vwCl [(a_dbl, .inl (cI, 15, .inl (upd dbl x2.toNatClampNeg (2 * (numbers x2.toNatClampNeg))))), (a_numbers, .inl (cI, 15, .inl numbers))] H := hP
      have hD : va_D A [(a_dbl, .inl (cI, 15, .inl (upd dbl x2.toNatClampNeg (2 * (numbers x2.toNatClampNeg))))), (a_numbers, .inl (cI, 15, .inl numbers))] := hD
      refine lv_iinc (v := (x2 + 1)) (lv' := [(2, .int (x2 + 1)), (0, .ref a_dbl), (1, .ref a_numbers)]) hx hb d_Pairs_doubleInto_16 hl (k := 0) rfl rfl (by decide) rfl (fun ls hl => ?_)
      refine lv_goto (tgt := 2) hx hb d_Pairs_doubleInto_19 (by decide) ?_
      exact ih _ _ k h hk _ _ hP hD hS ls (lv_sub hl [0, 1, 2] rfl)
set_option maxHeartbeats 4000000 in
set_option maxRecDepth 100000 in
theorem w_Pairs_doubleInto {p : Program} {l : Launch} {e : Env} {s : State} {m : MethodId} {args : Array Value} {below : List Frame} {meth : Method} {c : Code} {D : va_G} {cI cL cZ : ClassId} {tA tB : Nat} {A : Nat → Prop} {a_dbl a_numbers : Nat} {dbl : Nat → Int32} {numbers : Nat → Int32} {o_dbl : Nat → Int32} (cx : ct_Cx p s m args meth c b_Pairs_doubleInto 3 none R_Pairs wd_Pairs_doubleInto D (ct_tys cI cL cZ) tA tB A) (h : f_Pairs_doubleInto dbl numbers = some o_dbl) : ∀ (H : Heap) (locs : List Loc), va_P D vwCl [(a_dbl, .inl (cI, 15, .inl dbl)), (a_numbers, .inl (cI, 15, .inl numbers))] H → va_D A [(a_dbl, .inl (cI, 15, .inl dbl)), (a_numbers, .inl (cI, 15, .inl numbers))] → va_S A s.heap H locs → ∀ ls : Array Slot, lv_has ls 3 [(0, .ref a_dbl), (1, .ref a_numbers)] → W p l e (headSpec wd_Pairs_doubleInto rm_Pairs_doubleInto).room s m args below meth c H locs 0 0 (MQ below (ct_Qv D [(a_dbl, .inl (cI, 15, .inl o_dbl)), (a_numbers, .inl (cI, 15, .inl numbers))] A) args s 0 0 A) (F0 m 0 ls []) := by
  obtain ⟨hx, hb, hr, hml, hown, hts, hK, hA, hT, hlocks, hZA, hZB, hTA, hTB, hnw⟩ := id cx
  intro H locs hP hD hS ls hl
  rw [f_Pairs_doubleInto] at h
  refine lv_iconst (v := 0) hx hb d_Pairs_doubleInto_0 (by decide) ?_
  refine lv_istore_n (lv' := [(2, .int 0), (0, .ref a_dbl), (1, .ref a_numbers)]) hx hb d_Pairs_doubleInto_1 rfl hl (by decide) rfl (fun ls hl => ?_)
  refine w_Pairs_doubleInto_L2 cx _ _ _ _ h (fun dbl_1 h H locs hP hD hS ls hl => ?_) _ _ hP hD hS ls (lv_sub hl [0, 1, 2] rfl)
  try dsimp only at h
  cases h
  exact W.vret hx hb hr (fun t ht hW => ⟨⟨(), rfl, trivial, by rw [ht]; exact hP, hD⟩, hS.F ht⟩) hS.2.2 d_Pairs_doubleInto_22
set_option maxHeartbeats 4000000 in
set_option maxRecDepth 100000 in
theorem c_Pairs_doubleInto (l : Launch) (D : va_G) (cI cL cZ : ClassId) (tA tB sz : Nat) (a_dbl a_numbers : Nat) (dbl : Nat → Int32) (numbers : Nat → Int32) (o_dbl : Nat → Int32) (A : Nat → Prop) (hAe : A = va_A [(a_dbl, .inl (cI, 15, .inl dbl)), (a_numbers, .inl (cI, 15, .inl numbers))] sz) (h : f_Pairs_doubleInto dbl numbers = some o_dbl) : Met l y_Pairs_doubleInto wd_Pairs_doubleInto rm_Pairs_doubleInto (ct_Pre D (ct_tys cI cL cZ) tA tB [(a_dbl, .inl (cI, 15, .inl dbl)), (a_numbers, .inl (cI, 15, .inl numbers))] sz [.ref a_dbl, .ref a_numbers]) (ct_Qv D [(a_dbl, .inl (cI, 15, .inl o_dbl)), (a_numbers, .inl (cI, 15, .inl numbers))] A) 0 0 A := by
  refine Met.ofW (cc := b_Pairs_doubleInto) (maxL := 3) (ret := none) (by decide) rfl ?_
  intro p e s m args below meth c s₁ B hml hv
  obtain ⟨hargs, hsz, hP, hK, hD0, hT⟩ := hv
  subst hsz
  have hD := hD0.self (sz := s.heap.size)
  rw [← hAe] at hD hT
  have hA : ∀ q : Nat, s.heap.size ≤ q → A q := fun q h => by rw [hAe]; exact Or.inr h
  clear hAe
  have cx : ct_Cx p s m args meth c b_Pairs_doubleInto 3 none R_Pairs wd_Pairs_doubleInto D (ct_tys cI cL cZ) tA tB A := ⟨B.exec, B.bytes, B.returns, hml, findClass_of_methodNamed B.named, atoms_spec (ws := wd_Pairs_doubleInto) B.pre, hK, hA, hT, B.notSynchronized, hT.1, hT.2.1, hT.2.2.1, hT.2.2.2.1, hT.2.2.2.2⟩
  have hl := lv_entry ([.ref a_dbl, .ref a_numbers]) (n := 3) (Nat.le_of_ble_eq_true rfl)
  rw [show entryFrame m args 3 = entryFrame m ([.ref a_dbl, .ref a_numbers] : List Value).toArray 3 by rw [hargs], lg_entry_eq]
  exact w_Pairs_doubleInto cx h _ _ hP hD va_S.rf _ hl
abbrev rm_Pairs_make : Room := { frames := 1, cells := 0, slots := 0, locals := 22 }
abbrev wd_Pairs_make : List Cond := .code y_Pairs_make b_Pairs_make 4 (some .boolean) :: ct_G
def f_Pairs_make_L10 (size : Int32) (cell : Nat → Int32) (power : Nat → Int32) (share : Nat → Int32) (tbl : Nat → Int32) : Nat → Int32 → (Nat → Int32) → ((Nat → Int32) → Option (Int32 × (Nat → Int32))) → Option (Int32 × (Nat → Int32))
  | 0, _, _, _ => none
  | n + 1, x3, rest, k => (if size ≤ x3 then (k rest) else (if x3 < 0 ∨ 21 ≤ x3.toNatClampNeg then none else (if (power x3.toNatClampNeg) < 0 ∨ 15 ≤ (power x3.toNatClampNeg).toNatClampNeg then none else (if x3 < 0 ∨ 21 ≤ x3.toNatClampNeg then none else (if x3 < 0 ∨ 21 ≤ x3.toNatClampNeg then none else (if (cell x3.toNatClampNeg) < 0 ∨ 36 ≤ (cell x3.toNatClampNeg).toNatClampNeg then none else (if (power x3.toNatClampNeg) < 0 ∨ 15 ≤ (power x3.toNatClampNeg).toNatClampNeg then none else (f_Pairs_make_L10 size cell power share tbl n (x3 + 1) (upd rest (power x3.toNatClampNeg).toNatClampNeg ((rest (power x3.toNatClampNeg).toNatClampNeg) - ((share x3.toNatClampNeg) * (tbl (cell x3.toNatClampNeg).toNatClampNeg)))) k))))))))
def f_Pairs_make_L55 (rest : Nat → Int32) : Nat → Int32 → (Unit → Option (Int32 × (Nat → Int32))) → Option (Int32 × (Nat → Int32))
  | 0, _, _ => none
  | n + 1, x3, k => (if 15 ≤ x3 then k () else (if x3 < 0 ∨ 15 ≤ x3.toNatClampNeg then none else (if (rest x3.toNatClampNeg) = 0 then (f_Pairs_make_L55 rest n (x3 + 1) k) else some ((0 : Int32), rest))))
def f_Pairs_make (size : Int32) (cell : Nat → Int32) (power : Nat → Int32) (share : Nat → Int32) (rest : Nat → Int32) (tbl : Nat → Int32) (numbers : Nat → Int32) : Option (Int32 × (Nat → Int32)) := ((f_Pairs_doubleInto rest numbers).bind (fun dbl_1 => (f_Pairs_make_L10 size cell power share tbl 40 0 dbl_1 (fun (rest_2 : Nat → Int32) => (f_Pairs_make_L55 rest_2 40 0 (fun (_ : Unit) => some ((1 : Int32), rest_2)))))))
set_option maxHeartbeats 4000000 in
set_option maxRecDepth 100000 in
theorem w_Pairs_make_L10 {p : Program} {l : Launch} {e : Env} {s : State} {m : MethodId} {args : Array Value} {below : List Frame} {meth : Method} {c : Code} {D : va_G} {cI cL cZ : ClassId} {tA tB : Nat} {A : Nat → Prop} {Q : State → Prop} {a_this a_second a_cell a_power a_share a_hanging a_freePairs a_rest a_tbl a_numbers : Nat} {size : Int32} {freeSize : Int32} {cell : Nat → Int32} {power : Nat → Int32} {share : Nat → Int32} {tbl : Nat → Int32} {numbers : Nat → Int32} {o_r : Int32} {o_rest : Nat → Int32} (cx : ct_Cx p s m args meth c b_Pairs_make 4 (some .boolean) R_Pairs wd_Pairs_make D (ct_tys cI cL cZ) tA tB A) : ∀ (n : Nat) (x3 : Int32) (rest : Nat → Int32) (k : ((Nat → Int32) → Option (Int32 × (Nat → Int32)))), f_Pairs_make_L10 size cell power share tbl n x3 rest k = some (o_r, o_rest) → (∀ (rest : Nat → Int32), k rest = some (o_r, o_rest) → ∀ (H : Heap) (locs : List Loc), va_P D vwCl [(a_this, .inr (1, [.ref a_second, .ref a_cell, .ref a_power, .ref a_share, .ref a_hanging, .ref a_freePairs, .ref a_rest, .int size, .int freeSize])), (a_cell, .inl (cI, 21, .inl cell)), (a_power, .inl (cI, 21, .inl power)), (a_share, .inl (cI, 21, .inl share)), (a_rest, .inl (cI, 15, .inl rest)), (a_tbl, .inl (cI, 36, .inl tbl)), (a_numbers, .inl (cI, 15, .inl numbers))] H → va_D A [(a_this, .inr (1, [.ref a_second, .ref a_cell, .ref a_power, .ref a_share, .ref a_hanging, .ref a_freePairs, .ref a_rest, .int size, .int freeSize])), (a_cell, .inl (cI, 21, .inl cell)), (a_power, .inl (cI, 21, .inl power)), (a_share, .inl (cI, 21, .inl share)), (a_rest, .inl (cI, 15, .inl rest)), (a_tbl, .inl (cI, 36, .inl tbl)), (a_numbers, .inl (cI, 15, .inl numbers))] → va_S A s.heap H locs → ∀ ls : Array Slot, lv_has ls 4 [(0, .ref a_this)] → W p l e (headSpec wd_Pairs_make rm_Pairs_make).room s m args below meth c H locs 0 0 Q (F0 m 53 ls [])) → ∀ (H : Heap) (locs : List Loc), va_P D vwCl [(a_this, .inr (1, [.ref a_second, .ref a_cell, .ref a_power, .ref a_share, .ref a_hanging, .ref a_freePairs, .ref a_rest, .int size, .int freeSize])), (a_cell, .inl (cI, 21, .inl cell)), (a_power, .inl (cI, 21, .inl power)), (a_share, .inl (cI, 21, .inl share)), (a_rest, .inl (cI, 15, .inl rest)), (a_tbl, .inl (cI, 36, .inl tbl)), (a_numbers, .inl (cI, 15, .inl numbers))] H → va_D A [(a_this, .inr (1, [.ref a_second, .ref a_cell, .ref a_power, .ref a_share, .ref a_hanging, .ref a_freePairs, .ref a_rest, .int size, .int freeSize])), (a_cell, .inl (cI, 21, .inl cell)), (a_power, .inl (cI, 21, .inl power)), (a_share, .inl (cI, 21, .inl share)), (a_rest, .inl (cI, 15, .inl rest)), (a_tbl, .inl (cI, 36, .inl tbl)), (a_numbers, .inl (cI, 15, .inl numbers))] → va_S A s.heap H locs → ∀ ls : Array Slot, lv_has ls 4 [(3, .int x3), (0, .ref a_this), (1, .ref a_tbl)] → W p l e (headSpec wd_Pairs_make rm_Pairs_make).room s m args below meth c H locs 0 0 Q (F0 m 10 ls []) := by
  obtain ⟨hx, hb, hr, hml, hown, hts, hK, hA, hT, hlocks, hZA, hZB, hTA, hTB, hnw⟩ := id cx
  intro n
  induction n with
  | zero => intro x3 rest k h; rw [f_Pairs_make_L10] at h; cases h
  | succ n ih =>
    intro x3 rest k h hk H locs hP hD hS ls hl
    rw [f_Pairs_make_L10] at h
    refine lv_iload_n hx hb d_Pairs_make_10 rfl (lv_at hl 0 rfl) ?_
    refine lv_aload_n hx hb d_Pairs_make_11 rfl (lv_at hl 1 rfl) ?_
    refine va_get (D := D) (ci := 1) (v := .int size) (C := R_Pairs) (T := T_Pairs) (N := 9) hx hb hts (fun w h9 => ct_in (iw_Pairs w h9)) hown hK hP 0 rfl rfl 7 (by decide) (hts _ (ct_in k_42)) (fun _ h9 => h9) rfl d_Pairs_make_12 ?_
    refine lv_icmp_ge (tgt := 53) hx hb d_Pairs_make_15 (by decide) (fun hc => ?_) (fun hc => ?_)
    · rw [if_pos hc] at h
      exact hk _ h _ _ hP hD hS ls (lv_sub hl [1] rfl)
    · rw [if_neg hc] at h
      refine lv_aload_n hx hb d_Pairs_make_18 rfl (lv_at hl 1 rfl) ?_
      refine va_get (D := D) (ci := 1) (v := .ref a_rest) (C := R_Pairs) (T := T_Pairs) (N := 9) hx hb hts (fun w h9 => ct_in (iw_Pairs w h9)) hown hK hP 0 rfl rfl 6 (by decide) (hts _ (ct_in k_63)) (fun _ h9 => h9) rfl d_Pairs_make_19 ?_
      refine lv_aload_n hx hb d_Pairs_make_22 rfl (lv_at hl 1 rfl) ?_
      refine va_get (D := D) (ci := 1) (v := .ref a_power) (C := R_Pairs) (T := T_Pairs) (N := 9) hx hb hts (fun w h9 => ct_in (iw_Pairs w h9)) hown hK hP 0 rfl rfl 2 (by decide) (hts _ (ct_in k_51)) (fun _ h9 => h9) rfl d_Pairs_make_23 ?_
      refine lv_iload_n hx hb d_Pairs_make_26 rfl (lv_at hl 0 rfl) ?_
      obtain ⟨hin, h⟩ := ct_chk h
      refine va_iald hx hb hK hP 2 0 rfl rfl hin d_Pairs_make_27 ?_
      refine lv_dup2_11 hx hb d_Pairs_make_28 rfl rfl ?_
      obtain ⟨hin, h⟩ := ct_chk h
      refine va_iald hx hb hK hP 4 0 rfl rfl hin d_Pairs_make_29 ?_
      refine lv_aload_n hx hb d_Pairs_make_30 rfl (lv_at hl 1 rfl) ?_
      refine va_get (D := D) (ci := 1) (v := .ref a_share) (C := R_Pairs) (T := T_Pairs) (N := 9) hx hb hts (fun w h9 => ct_in (iw_Pairs w h9)) hown hK hP 0 rfl rfl 3 (by decide) (hts _ (ct_in k_52)) (fun _ h9 => h9) rfl d_Pairs_make_31 ?_
      refine lv_iload_n hx hb d_Pairs_make_34 rfl (lv_at hl 0 rfl) ?_
      obtain ⟨hin, h⟩ := ct_chk h
      refine va_iald hx hb hK hP 3 0 rfl rfl hin d_Pairs_make_35 ?_
      refine lv_aload_n hx hb d_Pairs_make_36 rfl (lv_at hl 2 rfl) ?_
      refine lv_aload_n hx hb d_Pairs_make_37 rfl (lv_at hl 1 rfl) ?_
      refine va_get (D := D) (ci := 1) (v := .ref a_cell) (C := R_Pairs) (T := T_Pairs) (N := 9) hx hb hts (fun w h9 => ct_in (iw_Pairs w h9)) hown hK hP 0 rfl rfl 1 (by decide) (hts _ (ct_in k_50)) (fun _ h9 => h9) rfl d_Pairs_make_38 ?_
      refine lv_iload_n hx hb d_Pairs_make_41 rfl (lv_at hl 0 rfl) ?_
      obtain ⟨hin, h⟩ := ct_chk h
      refine va_iald hx hb hK hP 1 0 rfl rfl hin d_Pairs_make_42 ?_
      obtain ⟨hin, h⟩ := ct_chk h
      refine va_iald hx hb hK hP 5 0 rfl rfl hin d_Pairs_make_43 ?_
      refine lv_imul hx hb d_Pairs_make_44 ?_
      refine lv_isub hx hb d_Pairs_make_45 ?_
      obtain ⟨hin, h⟩ := ct_chk h
      refine va_iast hx hb hK hP hD hS 4 0 rfl rfl hin d_Pairs_make_46 (fun H locs hP hD hS => ?_)
      have hP : va_P D vwCl [(a_this, .inr (1, [.ref a_second, .ref a_cell, .ref a_power, .ref a_share, .ref a_hanging, .ref a_freePairs, .ref a_rest, .int size, .int freeSize])), (a_cell, .inl (cI, 21, .inl cell)), (a_power, .inl (cI, 21, .inl power)), (a_share, .inl (cI, 21, .inl share)), (a_rest, .inl (cI, 15, .inl (upd rest (power x3.toNatClampNeg).toNatClampNeg ((rest (power x3.toNatClampNeg).toNatClampNeg) - ((share x3.toNatClampNeg) * (tbl (cell x3.toNatClampNeg).toNatClampNeg)))))), (a_tbl, .inl (cI, 36, .inl tbl)), (a_numbers, .inl (cI, 15, .inl numbers))] H := hP
      have hD : va_D A [(a_this, .inr (1, [.ref a_second, .ref a_cell, .ref a_power, .ref a_share, .ref a_hanging, .ref a_freePairs, .ref a_rest, .int size, .int freeSize])), (a_cell, .inl (cI, 21, .inl cell)), (a_power, .inl (cI, 21, .inl power)), (a_share, .inl (cI, 21, .inl share)), (a_rest, .inl (cI, 15, .inl (upd rest (power x3.toNatClampNeg).toNatClampNeg ((rest (power x3.toNatClampNeg).toNatClampNeg) - ((share x3.toNatClampNeg) * (tbl (cell x3.toNatClampNeg).toNatClampNeg)))))), (a_tbl, .inl (cI, 36, .inl tbl)), (a_numbers, .inl (cI, 15, .inl numbers))] := hD
      refine lv_iinc (v := (x3 + 1)) (lv' := [(3, .int (x3 + 1)), (0, .ref a_this), (1, .ref a_tbl)]) hx hb d_Pairs_make_47 hl (k := 0) rfl rfl (by decide) rfl (fun ls hl => ?_)
      refine lv_goto (tgt := 10) hx hb d_Pairs_make_50 (by decide) ?_
      exact ih _ _ k h hk _ _ hP hD hS ls (lv_sub hl [0, 1, 2] rfl)
set_option maxHeartbeats 4000000 in
set_option maxRecDepth 100000 in
theorem w_Pairs_make_L55 {p : Program} {l : Launch} {e : Env} {s : State} {m : MethodId} {args : Array Value} {below : List Frame} {meth : Method} {c : Code} {D : va_G} {cI cL cZ : ClassId} {tA tB : Nat} {A : Nat → Prop} {a_this a_second a_cell a_power a_share a_hanging a_freePairs a_rest a_tbl a_numbers : Nat} {size : Int32} {freeSize : Int32} {cell : Nat → Int32} {power : Nat → Int32} {share : Nat → Int32} {rest : Nat → Int32} {tbl : Nat → Int32} {numbers : Nat → Int32} {o_r : Int32} {o_rest : Nat → Int32} (cx : ct_Cx p s m args meth c b_Pairs_make 4 (some .boolean) R_Pairs wd_Pairs_make D (ct_tys cI cL cZ) tA tB A) : ∀ (n : Nat) (x3 : Int32) (k : (Unit → Option (Int32 × (Nat → Int32)))), f_Pairs_make_L55 rest n x3 k = some (o_r, o_rest) → (∀ (u : Unit), k u = some (o_r, o_rest) → ∀ (H : Heap) (locs : List Loc), va_P D vwCl [(a_this, .inr (1, [.ref a_second, .ref a_cell, .ref a_power, .ref a_share, .ref a_hanging, .ref a_freePairs, .ref a_rest, .int size, .int freeSize])), (a_cell, .inl (cI, 21, .inl cell)), (a_power, .inl (cI, 21, .inl power)), (a_share, .inl (cI, 21, .inl share)), (a_rest, .inl (cI, 15, .inl rest)), (a_tbl, .inl (cI, 36, .inl tbl)), (a_numbers, .inl (cI, 15, .inl numbers))] H → va_D A [(a_this, .inr (1, [.ref a_second, .ref a_cell, .ref a_power, .ref a_share, .ref a_hanging, .ref a_freePairs, .ref a_rest, .int size, .int freeSize])), (a_cell, .inl (cI, 21, .inl cell)), (a_power, .inl (cI, 21, .inl power)), (a_share, .inl (cI, 21, .inl share)), (a_rest, .inl (cI, 15, .inl rest)), (a_tbl, .inl (cI, 36, .inl tbl)), (a_numbers, .inl (cI, 15, .inl numbers))] → va_S A s.heap H locs → ∀ ls : Array Slot, lv_has ls 4 [] → W p l e (headSpec wd_Pairs_make rm_Pairs_make).room s m args below meth c H locs 0 0 (MQ below (ct_Qi D [(a_this, .inr (1, [.ref a_second, .ref a_cell, .ref a_power, .ref a_share, .ref a_hanging, .ref a_freePairs, .ref a_rest, .int size, .int freeSize])), (a_cell, .inl (cI, 21, .inl cell)), (a_power, .inl (cI, 21, .inl power)), (a_share, .inl (cI, 21, .inl share)), (a_rest, .inl (cI, 15, .inl o_rest)), (a_tbl, .inl (cI, 36, .inl tbl)), (a_numbers, .inl (cI, 15, .inl numbers))] A o_r) args s 0 0 A) (F0 m 78 ls [])) → ∀ (H : Heap) (locs : List Loc), va_P D vwCl [(a_this, .inr (1, [.ref a_second, .ref a_cell, .ref a_power, .ref a_share, .ref a_hanging, .ref a_freePairs, .ref a_rest, .int size, .int freeSize])), (a_cell, .inl (cI, 21, .inl cell)), (a_power, .inl (cI, 21, .inl power)), (a_share, .inl (cI, 21, .inl share)), (a_rest, .inl (cI, 15, .inl rest)), (a_tbl, .inl (cI, 36, .inl tbl)), (a_numbers, .inl (cI, 15, .inl numbers))] H → va_D A [(a_this, .inr (1, [.ref a_second, .ref a_cell, .ref a_power, .ref a_share, .ref a_hanging, .ref a_freePairs, .ref a_rest, .int size, .int freeSize])), (a_cell, .inl (cI, 21, .inl cell)), (a_power, .inl (cI, 21, .inl power)), (a_share, .inl (cI, 21, .inl share)), (a_rest, .inl (cI, 15, .inl rest)), (a_tbl, .inl (cI, 36, .inl tbl)), (a_numbers, .inl (cI, 15, .inl numbers))] → va_S A s.heap H locs → ∀ ls : Array Slot, lv_has ls 4 [(3, .int x3), (0, .ref a_this)] → W p l e (headSpec wd_Pairs_make rm_Pairs_make).room s m args below meth c H locs 0 0 (MQ below (ct_Qi D [(a_this, .inr (1, [.ref a_second, .ref a_cell, .ref a_power, .ref a_share, .ref a_hanging, .ref a_freePairs, .ref a_rest, .int size, .int freeSize])), (a_cell, .inl (cI, 21, .inl cell)), (a_power, .inl (cI, 21, .inl power)), (a_share, .inl (cI, 21, .inl share)), (a_rest, .inl (cI, 15, .inl o_rest)), (a_tbl, .inl (cI, 36, .inl tbl)), (a_numbers, .inl (cI, 15, .inl numbers))] A o_r) args s 0 0 A) (F0 m 55 ls []) := by
  obtain ⟨hx, hb, hr, hml, hown, hts, hK, hA, hT, hlocks, hZA, hZB, hTA, hTB, hnw⟩ := id cx
  intro n
  induction n with
  | zero => intro x3 k h; rw [f_Pairs_make_L55] at h; cases h
  | succ n ih =>
    intro x3 k h hk H locs hP hD hS ls hl
    rw [f_Pairs_make_L55] at h
    refine lv_iload_n hx hb d_Pairs_make_55 rfl (lv_at hl 0 rfl) ?_
    refine lv_bipush (v := 15) hx hb d_Pairs_make_56 (by decide) ?_
    refine lv_icmp_ge (tgt := 78) hx hb d_Pairs_make_58 (by decide) (fun hc => ?_) (fun hc => ?_)
    · rw [if_pos hc] at h
      exact hk _ h _ _ hP hD hS ls (lv_sub hl [] rfl)
    · rw [if_neg hc] at h
      refine lv_aload_n hx hb d_Pairs_make_61 rfl (lv_at hl 1 rfl) ?_
      refine va_get (D := D) (ci := 1) (v := .ref a_rest) (C := R_Pairs) (T := T_Pairs) (N := 9) hx hb hts (fun w h9 => ct_in (iw_Pairs w h9)) hown hK hP 0 rfl rfl 6 (by decide) (hts _ (ct_in k_63)) (fun _ h9 => h9) rfl d_Pairs_make_62 ?_
      refine lv_iload_n hx hb d_Pairs_make_65 rfl (lv_at hl 0 rfl) ?_
      obtain ⟨hin, h⟩ := ct_chk h
      refine va_iald hx hb hK hP 4 0 rfl rfl hin d_Pairs_make_66 ?_
      refine lv_if_eq (tgt := 72) hx hb d_Pairs_make_67 (by decide) (fun hc => ?_) (fun hc => ?_)
      · rw [if_pos hc] at h
        refine lv_iinc (v := (x3 + 1)) (lv' := [(3, .int (x3 + 1)), (0, .ref a_this)]) hx hb d_Pairs_make_72 hl (k := 0) rfl rfl (by decide) rfl (fun ls hl => ?_)
        refine lv_goto (tgt := 55) hx hb d_Pairs_make_75 (by decide) ?_
        exact ih _ k h hk _ _ hP hD hS ls (lv_sub hl [0, 1] rfl)
      · rw [if_neg hc] at h
        refine lv_iconst (v := 0) hx hb d_Pairs_make_70 (by decide) ?_
        cases h
        exact W.zret hx hb hr rfl (fun t ht hW => ⟨⟨_, (), rfl, rfl, by rw [ht]; exact hP, hD⟩, hS.F ht⟩) hS.2.2 d_Pairs_make_71
set_option maxHeartbeats 4000000 in
set_option maxRecDepth 100000 in
theorem w_Pairs_make {p : Program} {l : Launch} {e : Env} {s : State} {m : MethodId} {args : Array Value} {below : List Frame} {meth : Method} {c : Code} {D : va_G} {cI cL cZ : ClassId} {tA tB : Nat} {A : Nat → Prop} {a_this a_second a_cell a_power a_share a_hanging a_freePairs a_rest a_tbl a_numbers : Nat} {size : Int32} {freeSize : Int32} {cell : Nat → Int32} {power : Nat → Int32} {share : Nat → Int32} {rest : Nat → Int32} {tbl : Nat → Int32} {numbers : Nat → Int32} {o_r : Int32} {o_rest : Nat → Int32} (cx : ct_Cx p s m args meth c b_Pairs_make 4 (some .boolean) R_Pairs wd_Pairs_make D (ct_tys cI cL cZ) tA tB A) (h : f_Pairs_make size cell power share rest tbl numbers = some (o_r, o_rest)) : ∀ (H : Heap) (locs : List Loc), va_P D vwCl [(a_this, .inr (1, [.ref a_second, .ref a_cell, .ref a_power, .ref a_share, .ref a_hanging, .ref a_freePairs, .ref a_rest, .int size, .int freeSize])), (a_cell, .inl (cI, 21, .inl cell)), (a_power, .inl (cI, 21, .inl power)), (a_share, .inl (cI, 21, .inl share)), (a_rest, .inl (cI, 15, .inl rest)), (a_tbl, .inl (cI, 36, .inl tbl)), (a_numbers, .inl (cI, 15, .inl numbers))] H → va_D A [(a_this, .inr (1, [.ref a_second, .ref a_cell, .ref a_power, .ref a_share, .ref a_hanging, .ref a_freePairs, .ref a_rest, .int size, .int freeSize])), (a_cell, .inl (cI, 21, .inl cell)), (a_power, .inl (cI, 21, .inl power)), (a_share, .inl (cI, 21, .inl share)), (a_rest, .inl (cI, 15, .inl rest)), (a_tbl, .inl (cI, 36, .inl tbl)), (a_numbers, .inl (cI, 15, .inl numbers))] → va_S A s.heap H locs → ∀ ls : Array Slot, lv_has ls 4 [(0, .ref a_this), (1, .ref a_tbl), (2, .ref a_numbers)] → W p l e (headSpec wd_Pairs_make rm_Pairs_make).room s m args below meth c H locs 0 0 (MQ below (ct_Qi D [(a_this, .inr (1, [.ref a_second, .ref a_cell, .ref a_power, .ref a_share, .ref a_hanging, .ref a_freePairs, .ref a_rest, .int size, .int freeSize])), (a_cell, .inl (cI, 21, .inl cell)), (a_power, .inl (cI, 21, .inl power)), (a_share, .inl (cI, 21, .inl share)), (a_rest, .inl (cI, 15, .inl o_rest)), (a_tbl, .inl (cI, 36, .inl tbl)), (a_numbers, .inl (cI, 15, .inl numbers))] A o_r) args s 0 0 A) (F0 m 0 ls []) := by
  obtain ⟨hx, hb, hr, hml, hown, hts, hK, hA, hT, hlocks, hZA, hZB, hTA, hTB, hnw⟩ := id cx
  intro H locs hP hD hS ls hl
  rw [f_Pairs_make] at h
  refine lv_aload_n hx hb d_Pairs_make_0 rfl (lv_at hl 0 rfl) ?_
  refine va_get (D := D) (ci := 1) (v := .ref a_rest) (C := R_Pairs) (T := T_Pairs) (N := 9) hx hb hts (fun w h9 => ct_in (iw_Pairs w h9)) hown hK hP 0 rfl rfl 6 (by decide) (hts _ (ct_in k_63)) (fun _ h9 => h9) rfl d_Pairs_make_1 ?_
  refine lv_aload_n hx hb d_Pairs_make_4 rfl (lv_at hl 2 rfl) ?_
  obtain ⟨dbl_1, ho, h⟩ := Option.bind_eq_some_iff.mp h
  refine ct_callv (wc := [(a_rest, .inl (cI, 15, .inl rest)), (a_numbers, .inl (cI, 15, .inl numbers))]) (wr := [(a_this, .inr (1, [.ref a_second, .ref a_cell, .ref a_power, .ref a_share, .ref a_hanging, .ref a_freePairs, .ref a_rest, .int size, .int freeSize])), (a_cell, .inl (cI, 21, .inl cell)), (a_power, .inl (cI, 21, .inl power)), (a_share, .inl (cI, 21, .inl share)), (a_tbl, .inl (cI, 36, .inl tbl))]) (wc' := [(a_rest, .inl (cI, 15, .inl dbl_1)), (a_numbers, .inl (cI, 15, .inl numbers))]) (ws' := [(a_this, .inr (1, [.ref a_second, .ref a_cell, .ref a_power, .ref a_share, .ref a_hanging, .ref a_freePairs, .ref a_rest, .int size, .int freeSize])), (a_cell, .inl (cI, 21, .inl cell)), (a_power, .inl (cI, 21, .inl power)), (a_share, .inl (cI, 21, .inl share)), (a_rest, .inl (cI, 15, .inl dbl_1)), (a_tbl, .inl (cI, 36, .inl tbl)), (a_numbers, .inl (cI, 15, .inl numbers))]) (va_runS (As := [.ref a_rest, .ref a_numbers]) (rest := []) ⟨hx, hb, hml, hown, hts⟩ (c_Pairs_doubleInto l D cI cL cZ tA tB H.size a_rest a_numbers rest numbers dbl_1 _ rfl ho) (va_cwS 2 hts (ct_goodS k_66 k_65 k_46 k_64) rfl rfl rfl (by decide +kernel) ⟨Nat.le_of_ble_eq_true rfl, Nat.le_of_ble_eq_true rfl⟩) (ct_preS (wc := [(a_rest, .inl (cI, 15, .inl rest)), (a_numbers, .inl (cI, 15, .inl numbers))]) hP hD hK hS hA hT [4, 6] rfl (by decide)) rfl rfl hl.1 rfl (lv_room (Nat.le_of_ble_eq_true rfl)) d_Pairs_make_5 ⟨Nat.zero_le _, Nat.zero_le _⟩) hP hD hS hA [4, 6] [0, 1, 2, 3, 5] rfl rfl (by decide) (by decide) [0, 1, 2, 3, 5, 4, 6] rfl (by decide) (fun H locs hP hD hS => ?_)
  refine lv_iconst (v := 0) hx hb d_Pairs_make_8 (by decide) ?_
  refine lv_istore_n (lv' := [(3, .int 0), (0, .ref a_this), (1, .ref a_tbl), (2, .ref a_numbers)]) hx hb d_Pairs_make_9 rfl hl (by decide) rfl (fun ls hl => ?_)
  refine w_Pairs_make_L10 cx _ _ _ _ h (fun rest_2 h H locs hP hD hS ls hl => ?_) _ _ hP hD hS ls (lv_sub hl [0, 1, 2] rfl)
  try dsimp only at h
  refine lv_iconst (v := 0) hx hb d_Pairs_make_53 (by decide) ?_
  refine lv_istore_n (lv' := [(3, .int 0), (0, .ref a_this)]) hx hb d_Pairs_make_54 rfl hl (by decide) rfl (fun ls hl => ?_)
  refine w_Pairs_make_L55 cx _ _ _ h (fun _ h H locs hP hD hS ls hl => ?_) _ _ hP hD hS ls (lv_sub hl [0, 1] rfl)
  try dsimp only at h
  refine lv_iconst (v := 1) hx hb d_Pairs_make_78 (by decide) ?_
  cases h
  exact W.zret hx hb hr rfl (fun t ht hW => ⟨⟨_, (), rfl, rfl, by rw [ht]; exact hP, hD⟩, hS.F ht⟩) hS.2.2 d_Pairs_make_79
set_option maxHeartbeats 4000000 in
set_option maxRecDepth 100000 in
theorem c_Pairs_make (l : Launch) (D : va_G) (cI cL cZ : ClassId) (tA tB sz : Nat) (a_this a_second a_cell a_power a_share a_hanging a_freePairs a_rest a_tbl a_numbers : Nat) (size : Int32) (freeSize : Int32) (cell : Nat → Int32) (power : Nat → Int32) (share : Nat → Int32) (rest : Nat → Int32) (tbl : Nat → Int32) (numbers : Nat → Int32) (o_r : Int32) (o_rest : Nat → Int32) (A : Nat → Prop) (hAe : A = va_A [(a_this, .inr (1, [.ref a_second, .ref a_cell, .ref a_power, .ref a_share, .ref a_hanging, .ref a_freePairs, .ref a_rest, .int size, .int freeSize])), (a_cell, .inl (cI, 21, .inl cell)), (a_power, .inl (cI, 21, .inl power)), (a_share, .inl (cI, 21, .inl share)), (a_rest, .inl (cI, 15, .inl rest)), (a_tbl, .inl (cI, 36, .inl tbl)), (a_numbers, .inl (cI, 15, .inl numbers))] sz) (h : f_Pairs_make size cell power share rest tbl numbers = some (o_r, o_rest)) : Met l y_Pairs_make wd_Pairs_make rm_Pairs_make (ct_Pre D (ct_tys cI cL cZ) tA tB [(a_this, .inr (1, [.ref a_second, .ref a_cell, .ref a_power, .ref a_share, .ref a_hanging, .ref a_freePairs, .ref a_rest, .int size, .int freeSize])), (a_cell, .inl (cI, 21, .inl cell)), (a_power, .inl (cI, 21, .inl power)), (a_share, .inl (cI, 21, .inl share)), (a_rest, .inl (cI, 15, .inl rest)), (a_tbl, .inl (cI, 36, .inl tbl)), (a_numbers, .inl (cI, 15, .inl numbers))] sz [.ref a_this, .ref a_tbl, .ref a_numbers]) (ct_Qi D [(a_this, .inr (1, [.ref a_second, .ref a_cell, .ref a_power, .ref a_share, .ref a_hanging, .ref a_freePairs, .ref a_rest, .int size, .int freeSize])), (a_cell, .inl (cI, 21, .inl cell)), (a_power, .inl (cI, 21, .inl power)), (a_share, .inl (cI, 21, .inl share)), (a_rest, .inl (cI, 15, .inl o_rest)), (a_tbl, .inl (cI, 36, .inl tbl)), (a_numbers, .inl (cI, 15, .inl numbers))] A o_r) 0 0 A := by
  refine Met.ofW (cc := b_Pairs_make) (maxL := 4) (ret := (some .boolean)) (by decide) rfl ?_
  intro p e s m args below meth c s₁ B hml hv
  obtain ⟨hargs, hsz, hP, hK, hD0, hT⟩ := hv
  subst hsz
  have hD := hD0.self (sz := s.heap.size)
  rw [← hAe] at hD hT
  have hA : ∀ q : Nat, s.heap.size ≤ q → A q := fun q h => by rw [hAe]; exact Or.inr h
  clear hAe
  have cx : ct_Cx p s m args meth c b_Pairs_make 4 (some .boolean) R_Pairs wd_Pairs_make D (ct_tys cI cL cZ) tA tB A := ⟨B.exec, B.bytes, B.returns, hml, findClass_of_methodNamed B.named, atoms_spec (ws := wd_Pairs_make) B.pre, hK, hA, hT, B.notSynchronized, hT.1, hT.2.1, hT.2.2.1, hT.2.2.2.1, hT.2.2.2.2⟩
  have hl := lv_entry ([.ref a_this, .ref a_tbl, .ref a_numbers]) (n := 4) (Nat.le_of_ble_eq_true rfl)
  rw [show entryFrame m args 4 = entryFrame m ([.ref a_this, .ref a_tbl, .ref a_numbers] : List Value).toArray 4 by rw [hargs], lg_entry_eq]
  exact w_Pairs_make cx h _ _ hP hD va_S.rf _ hl
abbrev rm_Pairs_haveAllTerms : Room := { frames := 0, cells := 0, slots := 0, locals := 0 }
abbrev wd_Pairs_haveAllTerms : List Cond := .code y_Pairs_haveAllTerms b_Pairs_haveAllTerms 3 (some .boolean) :: ct_G
def f_Pairs_haveAllTerms_L2 (hanging : Nat → Int32) (numbers : Nat → Int32) : Nat → Int32 → (Unit → Option (Int32)) → Option (Int32)
  | 0, _, _ => none
  | n + 1, x2, k => (if 15 ≤ x2 then k () else (if x2 < 0 ∨ 15 ≤ x2.toNatClampNeg then none else (if (numbers x2.toNatClampNeg) = 0 then (f_Pairs_haveAllTerms_L2 hanging numbers n (x2 + 1) k) else (if x2 < 0 ∨ 15 ≤ x2.toNatClampNeg then none else (if (hanging x2.toNatClampNeg) = (-1) then some (0 : Int32) else (f_Pairs_haveAllTerms_L2 hanging numbers n (x2 + 1) k))))))
def f_Pairs_haveAllTerms (hanging : Nat → Int32) (numbers : Nat → Int32) : Option (Int32) := (f_Pairs_haveAllTerms_L2 hanging numbers 40 0 (fun (_ : Unit) => some (1 : Int32)))
set_option maxHeartbeats 4000000 in
set_option maxRecDepth 100000 in
theorem w_Pairs_haveAllTerms_L2 {p : Program} {l : Launch} {e : Env} {s : State} {m : MethodId} {args : Array Value} {below : List Frame} {meth : Method} {c : Code} {D : va_G} {cI cL cZ : ClassId} {tA tB : Nat} {A : Nat → Prop} {a_this a_second a_cell a_power a_share a_hanging a_freePairs a_rest a_numbers : Nat} {size : Int32} {freeSize : Int32} {hanging : Nat → Int32} {numbers : Nat → Int32} {o_r : Int32} (cx : ct_Cx p s m args meth c b_Pairs_haveAllTerms 3 (some .boolean) R_Pairs wd_Pairs_haveAllTerms D (ct_tys cI cL cZ) tA tB A) : ∀ (n : Nat) (x2 : Int32) (k : (Unit → Option (Int32))), f_Pairs_haveAllTerms_L2 hanging numbers n x2 k = some o_r → (∀ (u : Unit), k u = some o_r → ∀ (H : Heap) (locs : List Loc), va_P D vwCl [(a_this, .inr (1, [.ref a_second, .ref a_cell, .ref a_power, .ref a_share, .ref a_hanging, .ref a_freePairs, .ref a_rest, .int size, .int freeSize])), (a_hanging, .inl (cI, 15, .inl hanging)), (a_numbers, .inl (cI, 15, .inl numbers))] H → va_D A [(a_this, .inr (1, [.ref a_second, .ref a_cell, .ref a_power, .ref a_share, .ref a_hanging, .ref a_freePairs, .ref a_rest, .int size, .int freeSize])), (a_hanging, .inl (cI, 15, .inl hanging)), (a_numbers, .inl (cI, 15, .inl numbers))] → va_S A s.heap H locs → ∀ ls : Array Slot, lv_has ls 3 [] → W p l e (headSpec wd_Pairs_haveAllTerms rm_Pairs_haveAllTerms).room s m args below meth c H locs 0 0 (MQ below (ct_Qi D [(a_this, .inr (1, [.ref a_second, .ref a_cell, .ref a_power, .ref a_share, .ref a_hanging, .ref a_freePairs, .ref a_rest, .int size, .int freeSize])), (a_hanging, .inl (cI, 15, .inl hanging)), (a_numbers, .inl (cI, 15, .inl numbers))] A o_r) args s 0 0 A) (F0 m 32 ls [])) → ∀ (H : Heap) (locs : List Loc), va_P D vwCl [(a_this, .inr (1, [.ref a_second, .ref a_cell, .ref a_power, .ref a_share, .ref a_hanging, .ref a_freePairs, .ref a_rest, .int size, .int freeSize])), (a_hanging, .inl (cI, 15, .inl hanging)), (a_numbers, .inl (cI, 15, .inl numbers))] H → va_D A [(a_this, .inr (1, [.ref a_second, .ref a_cell, .ref a_power, .ref a_share, .ref a_hanging, .ref a_freePairs, .ref a_rest, .int size, .int freeSize])), (a_hanging, .inl (cI, 15, .inl hanging)), (a_numbers, .inl (cI, 15, .inl numbers))] → va_S A s.heap H locs → ∀ ls : Array Slot, lv_has ls 3 [(2, .int x2), (0, .ref a_this), (1, .ref a_numbers)] → W p l e (headSpec wd_Pairs_haveAllTerms rm_Pairs_haveAllTerms).room s m args below meth c H locs 0 0 (MQ below (ct_Qi D [(a_this, .inr (1, [.ref a_second, .ref a_cell, .ref a_power, .ref a_share, .ref a_hanging, .ref a_freePairs, .ref a_rest, .int size, .int freeSize])), (a_hanging, .inl (cI, 15, .inl hanging)), (a_numbers, .inl (cI, 15, .inl numbers))] A o_r) args s 0 0 A) (F0 m 2 ls []) := by
  obtain ⟨hx, hb, hr, hml, hown, hts, hK, hA, hT, hlocks, hZA, hZB, hTA, hTB, hnw⟩ := id cx
  intro n
  induction n with
  | zero => intro x2 k h; rw [f_Pairs_haveAllTerms_L2] at h; cases h
  | succ n ih =>
    intro x2 k h hk H locs hP hD hS ls hl
    rw [f_Pairs_haveAllTerms_L2] at h
    refine lv_iload_n hx hb d_Pairs_haveAllTerms_2 rfl (lv_at hl 0 rfl) ?_
    refine lv_bipush (v := 15) hx hb d_Pairs_haveAllTerms_3 (by decide) ?_
    refine lv_icmp_ge (tgt := 32) hx hb d_Pairs_haveAllTerms_5 (by decide) (fun hc => ?_) (fun hc => ?_)
    · rw [if_pos hc] at h
      exact hk _ h _ _ hP hD hS ls (lv_sub hl [] rfl)
    · rw [if_neg hc] at h
      refine lv_aload_n hx hb d_Pairs_haveAllTerms_8 rfl (lv_at hl 2 rfl) ?_
      refine lv_iload_n hx hb d_Pairs_haveAllTerms_9 rfl (lv_at hl 0 rfl) ?_
      obtain ⟨hin, h⟩ := ct_chk h
      refine va_iald hx hb hK hP 2 0 rfl rfl hin d_Pairs_haveAllTerms_10 ?_
      refine lv_if_eq (tgt := 26) hx hb d_Pairs_haveAllTerms_11 (by decide) (fun hc => ?_) (fun hc => ?_)
      · rw [if_pos hc] at h
        refine lv_iinc (v := (x2 + 1)) (lv' := [(2, .int (x2 + 1)), (0, .ref a_this), (1, .ref a_numbers)]) hx hb d_Pairs_haveAllTerms_26 hl (k := 0) rfl rfl (by decide) rfl (fun ls hl => ?_)
        refine lv_goto (tgt := 2) hx hb d_Pairs_haveAllTerms_29 (by decide) ?_
        exact ih _ k h hk _ _ hP hD hS ls (lv_sub hl [0, 1, 2] rfl)
      · rw [if_neg hc] at h
        refine lv_aload_n hx hb d_Pairs_haveAllTerms_14 rfl (lv_at hl 1 rfl) ?_
        refine va_get (D := D) (ci := 1) (v := .ref a_hanging) (C := R_Pairs) (T := T_Pairs) (N := 9) hx hb hts (fun w h9 => ct_in (iw_Pairs w h9)) hown hK hP 0 rfl rfl 4 (by decide) (hts _ (ct_in k_37)) (fun _ h9 => h9) rfl d_Pairs_haveAllTerms_15 ?_
        refine lv_iload_n hx hb d_Pairs_haveAllTerms_18 rfl (lv_at hl 0 rfl) ?_
        obtain ⟨hin, h⟩ := ct_chk h
        refine va_iald hx hb hK hP 1 0 rfl rfl hin d_Pairs_haveAllTerms_19 ?_
        refine lv_iconst (v := (-1)) hx hb d_Pairs_haveAllTerms_20 (by decide) ?_
        refine lv_icmp_ne (tgt := 26) hx hb d_Pairs_haveAllTerms_21 (by decide) (fun hc => ?_) (fun hc => ?_)
        · rw [if_neg hc] at h
          refine lv_iinc (v := (x2 + 1)) (lv' := [(2, .int (x2 + 1)), (0, .ref a_this), (1, .ref a_numbers)]) hx hb d_Pairs_haveAllTerms_26 hl (k := 0) rfl rfl (by decide) rfl (fun ls hl => ?_)
          refine lv_goto (tgt := 2) hx hb d_Pairs_haveAllTerms_29 (by decide) ?_
          exact ih _ k h hk _ _ hP hD hS ls (lv_sub hl [0, 1, 2] rfl)
        · rw [if_pos hc] at h
          refine lv_iconst (v := 0) hx hb d_Pairs_haveAllTerms_24 (by decide) ?_
          cases h
          exact W.zret hx hb hr rfl (fun t ht hW => ⟨⟨_, (), rfl, rfl, by rw [ht]; exact hP, hD⟩, hS.F ht⟩) hS.2.2 d_Pairs_haveAllTerms_25
set_option maxHeartbeats 4000000 in
set_option maxRecDepth 100000 in
theorem w_Pairs_haveAllTerms {p : Program} {l : Launch} {e : Env} {s : State} {m : MethodId} {args : Array Value} {below : List Frame} {meth : Method} {c : Code} {D : va_G} {cI cL cZ : ClassId} {tA tB : Nat} {A : Nat → Prop} {a_this a_second a_cell a_power a_share a_hanging a_freePairs a_rest a_numbers : Nat} {size : Int32} {freeSize : Int32} {hanging : Nat → Int32} {numbers : Nat → Int32} {o_r : Int32} (cx : ct_Cx p s m args meth c b_Pairs_haveAllTerms 3 (some .boolean) R_Pairs wd_Pairs_haveAllTerms D (ct_tys cI cL cZ) tA tB A) (h : f_Pairs_haveAllTerms hanging numbers = some o_r) : ∀ (H : Heap) (locs : List Loc), va_P D vwCl [(a_this, .inr (1, [.ref a_second, .ref a_cell, .ref a_power, .ref a_share, .ref a_hanging, .ref a_freePairs, .ref a_rest, .int size, .int freeSize])), (a_hanging, .inl (cI, 15, .inl hanging)), (a_numbers, .inl (cI, 15, .inl numbers))] H → va_D A [(a_this, .inr (1, [.ref a_second, .ref a_cell, .ref a_power, .ref a_share, .ref a_hanging, .ref a_freePairs, .ref a_rest, .int size, .int freeSize])), (a_hanging, .inl (cI, 15, .inl hanging)), (a_numbers, .inl (cI, 15, .inl numbers))] → va_S A s.heap H locs → ∀ ls : Array Slot, lv_has ls 3 [(0, .ref a_this), (1, .ref a_numbers)] → W p l e (headSpec wd_Pairs_haveAllTerms rm_Pairs_haveAllTerms).room s m args below meth c H locs 0 0 (MQ below (ct_Qi D [(a_this, .inr (1, [.ref a_second, .ref a_cell, .ref a_power, .ref a_share, .ref a_hanging, .ref a_freePairs, .ref a_rest, .int size, .int freeSize])), (a_hanging, .inl (cI, 15, .inl hanging)), (a_numbers, .inl (cI, 15, .inl numbers))] A o_r) args s 0 0 A) (F0 m 0 ls []) := by
  obtain ⟨hx, hb, hr, hml, hown, hts, hK, hA, hT, hlocks, hZA, hZB, hTA, hTB, hnw⟩ := id cx
  intro H locs hP hD hS ls hl
  rw [f_Pairs_haveAllTerms] at h
  refine lv_iconst (v := 0) hx hb d_Pairs_haveAllTerms_0 (by decide) ?_
  refine lv_istore_n (lv' := [(2, .int 0), (0, .ref a_this), (1, .ref a_numbers)]) hx hb d_Pairs_haveAllTerms_1 rfl hl (by decide) rfl (fun ls hl => ?_)
  refine w_Pairs_haveAllTerms_L2 cx _ _ _ h (fun _ h H locs hP hD hS ls hl => ?_) _ _ hP hD hS ls (lv_sub hl [0, 1, 2] rfl)
  try dsimp only at h
  refine lv_iconst (v := 1) hx hb d_Pairs_haveAllTerms_32 (by decide) ?_
  cases h
  exact W.zret hx hb hr rfl (fun t ht hW => ⟨⟨_, (), rfl, rfl, by rw [ht]; exact hP, hD⟩, hS.F ht⟩) hS.2.2 d_Pairs_haveAllTerms_33
set_option maxHeartbeats 4000000 in
set_option maxRecDepth 100000 in
theorem c_Pairs_haveAllTerms (l : Launch) (D : va_G) (cI cL cZ : ClassId) (tA tB sz : Nat) (a_this a_second a_cell a_power a_share a_hanging a_freePairs a_rest a_numbers : Nat) (size : Int32) (freeSize : Int32) (hanging : Nat → Int32) (numbers : Nat → Int32) (o_r : Int32) (A : Nat → Prop) (hAe : A = va_A [(a_this, .inr (1, [.ref a_second, .ref a_cell, .ref a_power, .ref a_share, .ref a_hanging, .ref a_freePairs, .ref a_rest, .int size, .int freeSize])), (a_hanging, .inl (cI, 15, .inl hanging)), (a_numbers, .inl (cI, 15, .inl numbers))] sz) (h : f_Pairs_haveAllTerms hanging numbers = some o_r) : Met l y_Pairs_haveAllTerms wd_Pairs_haveAllTerms rm_Pairs_haveAllTerms (ct_Pre D (ct_tys cI cL cZ) tA tB [(a_this, .inr (1, [.ref a_second, .ref a_cell, .ref a_power, .ref a_share, .ref a_hanging, .ref a_freePairs, .ref a_rest, .int size, .int freeSize])), (a_hanging, .inl (cI, 15, .inl hanging)), (a_numbers, .inl (cI, 15, .inl numbers))] sz [.ref a_this, .ref a_numbers]) (ct_Qi D [(a_this, .inr (1, [.ref a_second, .ref a_cell, .ref a_power, .ref a_share, .ref a_hanging, .ref a_freePairs, .ref a_rest, .int size, .int freeSize])), (a_hanging, .inl (cI, 15, .inl hanging)), (a_numbers, .inl (cI, 15, .inl numbers))] A o_r) 0 0 A := by
  refine Met.ofW (cc := b_Pairs_haveAllTerms) (maxL := 3) (ret := (some .boolean)) (by decide) rfl ?_
  intro p e s m args below meth c s₁ B hml hv
  obtain ⟨hargs, hsz, hP, hK, hD0, hT⟩ := hv
  subst hsz
  have hD := hD0.self (sz := s.heap.size)
  rw [← hAe] at hD hT
  have hA : ∀ q : Nat, s.heap.size ≤ q → A q := fun q h => by rw [hAe]; exact Or.inr h
  clear hAe
  have cx : ct_Cx p s m args meth c b_Pairs_haveAllTerms 3 (some .boolean) R_Pairs wd_Pairs_haveAllTerms D (ct_tys cI cL cZ) tA tB A := ⟨B.exec, B.bytes, B.returns, hml, findClass_of_methodNamed B.named, atoms_spec (ws := wd_Pairs_haveAllTerms) B.pre, hK, hA, hT, B.notSynchronized, hT.1, hT.2.1, hT.2.2.1, hT.2.2.2.1, hT.2.2.2.2⟩
  have hl := lv_entry ([.ref a_this, .ref a_numbers]) (n := 3) (Nat.le_of_ble_eq_true rfl)
  rw [show entryFrame m args 3 = entryFrame m ([.ref a_this, .ref a_numbers] : List Value).toArray 3 by rw [hargs], lg_entry_eq]
  exact w_Pairs_haveAllTerms cx h _ _ hP hD va_S.rf _ hl
