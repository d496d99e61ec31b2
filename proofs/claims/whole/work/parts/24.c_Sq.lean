abbrev rm_Sq_raised : Room := { frames := 0, cells := 0, slots := 0, locals := 0 }
abbrev wd_Sq_raised : List Cond := .code y_Sq_raised b_Sq_raised 5 (some .long) :: ct_G
def f_Sq_raised_L5 (x0 : Int32) (x1 : Int32) : Nat → Int32 → Int64 → (Int64 → Option (Int64)) → Option (Int64)
  | 0, _, _, _ => none
  | n + 1, x4, x2, k => (if x1 ≤ x4 then (k x2) else (f_Sq_raised_L5 x0 x1 n (x4 + 1) (x2 * x0.toInt64) k))
def f_Sq_raised (p0 : Int32) (p1 : Int32) : Option (Int64) := (f_Sq_raised_L5 p0 p1 40 0 1 (fun (y2_1 : Int64) => some y2_1))
set_option maxHeartbeats 4000000 in
set_option maxRecDepth 100000 in
theorem w_Sq_raised_L5 {p : Program} {l : Launch} {e : Env} {s : State} {m : MethodId} {args : Array Value} {below : List Frame} {meth : Method} {c : Code} {D : va_G} {cI cL cZ : ClassId} {tA tB : Nat} {A : Nat → Prop} {Q : State → Prop}  {x0 : Int32} {x1 : Int32} {o_r : Int64} (cx : ct_Cx p s m args meth c b_Sq_raised 5 (some .long) R_Sq wd_Sq_raised D (ct_tys cI cL cZ) tA tB A) : ∀ (n : Nat) (x4 : Int32) (x2 : Int64) (k : (Int64 → Option (Int64))), f_Sq_raised_L5 x0 x1 n x4 x2 k = some o_r → (∀ (x2 : Int64), k x2 = some o_r → ∀ (H : Heap) (locs : List Loc), va_P D vwCl [] H → va_D A [] → va_S A s.heap H locs → ∀ ls : Array Slot, lv_has ls 5 [(2, .long x2)] → W p l e (headSpec wd_Sq_raised rm_Sq_raised).room s m args below meth c H locs 0 0 Q (F0 m 22 ls [])) → ∀ (H : Heap) (locs : List Loc), va_P D vwCl [] H → va_D A [] → va_S A s.heap H locs → ∀ ls : Array Slot, lv_has ls 5 [(4, .int x4), (2, .long x2), (0, .int x0), (1, .int x1)] → W p l e (headSpec wd_Sq_raised rm_Sq_raised).room s m args below meth c H locs 0 0 Q (F0 m 5 ls []) := by
  obtain ⟨hx, hb, hr, hml, hown, hts, hK, hA, hT, hlocks, hZA, hZB, hTA, hTB, hnw⟩ := id cx
  intro n
  induction n with
  | zero => intro x4 x2 k h; rw [f_Sq_raised_L5] at h; cases h
  | succ n ih =>
    intro x4 x2 k h hk H locs hP hD hS ls hl
    rw [f_Sq_raised_L5] at h
    refine lv_iload hx hb d_Sq_raised_5 (lv_at hl 0 rfl) ?_
    refine lv_iload_n hx hb d_Sq_raised_7 rfl (lv_at hl 3 rfl) ?_
    refine lv_icmp_ge (tgt := 22) hx hb d_Sq_raised_8 (by decide) (fun hc => ?_) (fun hc => ?_)
    · rw [if_pos hc] at h
      exact hk _ h _ _ hP hD hS ls (lv_sub hl [1] rfl)
    · rw [if_neg hc] at h
      refine lv_lload_n hx hb d_Sq_raised_11 rfl (lv_at hl 1 rfl) ?_
      refine lv_iload_n hx hb d_Sq_raised_12 rfl (lv_at hl 2 rfl) ?_
      refine lv_i2l (v := x0.toInt64) hx hb d_Sq_raised_13 rfl ?_
      refine lv_lmul hx hb d_Sq_raised_14 ?_
      refine lv_lstore_n (lv' := [(2, .long (x2 * x0.toInt64)), (4, .int x4), (0, .int x0), (1, .int x1)]) hx hb d_Sq_raised_15 rfl hl (by decide) rfl (fun ls hl => ?_)
      refine lv_iinc (v := (x4 + 1)) (lv' := [(4, .int (x4 + 1)), (2, .long (x2 * x0.toInt64)), (0, .int x0), (1, .int x1)]) hx hb d_Sq_raised_16 hl (k := 1) rfl rfl (by decide) rfl (fun ls hl => ?_)
      refine lv_goto (tgt := 5) hx hb d_Sq_raised_19 (by decide) ?_
      exact ih _ _ k h hk _ _ hP hD hS ls (lv_sub hl [0, 1, 2, 3] rfl)
set_option maxHeartbeats 4000000 in
set_option maxRecDepth 100000 in
theorem w_Sq_raised {p : Program} {l : Launch} {e : Env} {s : State} {m : MethodId} {args : Array Value} {below : List Frame} {meth : Method} {c : Code} {D : va_G} {cI cL cZ : ClassId} {tA tB : Nat} {A : Nat → Prop}  {p0 : Int32} {p1 : Int32} {o_r : Int64} (cx : ct_Cx p s m args meth c b_Sq_raised 5 (some .long) R_Sq wd_Sq_raised D (ct_tys cI cL cZ) tA tB A) (h : f_Sq_raised p0 p1 = some o_r) : ∀ (H : Heap) (locs : List Loc), va_P D vwCl [] H → va_D A [] → va_S A s.heap H locs → ∀ ls : Array Slot, lv_has ls 5 [(0, .int p0), (1, .int p1)] → W p l e (headSpec wd_Sq_raised rm_Sq_raised).room s m args below meth c H locs 0 0 (MQ below (ct_Ql D [] A o_r) args s 0 0 A) (F0 m 0 ls []) := by
  obtain ⟨hx, hb, hr, hml, hown, hts, hK, hA, hT, hlocks, hZA, hZB, hTA, hTB, hnw⟩ := id cx
  intro H locs hP hD hS ls hl
  rw [f_Sq_raised] at h
  refine lv_lconst (v := 1) hx hb d_Sq_raised_0 (by decide) ?_
  refine lv_lstore_n (lv' := [(2, .long 1), (0, .int p0), (1, .int p1)]) hx hb d_Sq_raised_1 rfl hl (by decide) rfl (fun ls hl => ?_)
  refine lv_iconst (v := 0) hx hb d_Sq_raised_2 (by decide) ?_
  refine lv_istore (lv' := [(4, .int 0), (2, .long 1), (0, .int p0), (1, .int p1)]) hx hb d_Sq_raised_3 hl (by decide) rfl (fun ls hl => ?_)
  refine w_Sq_raised_L5 cx _ _ _ _ h (fun y2_1 h H locs hP hD hS ls hl => ?_) _ _ hP hD hS ls (lv_sub hl [0, 1, 2, 3] rfl)
  try dsimp only at h
  refine lv_lload_n hx hb d_Sq_raised_22 rfl (lv_at hl 0 rfl) ?_
  cases h
  exact W.lret hx hb hr (fun t ht hW => ⟨⟨_, (), rfl, rfl, by rw [ht]; exact hP, hD⟩, hS.F ht⟩) hS.2.2 d_Sq_raised_23
set_option maxHeartbeats 4000000 in
set_option maxRecDepth 100000 in
theorem c_Sq_raised (l : Launch) (D : va_G) (cI cL cZ : ClassId) (tA tB sz : Nat)  (p0 : Int32) (p1 : Int32) (o_r : Int64) (A : Nat → Prop) (hAe : A = va_A [] sz) (h : f_Sq_raised p0 p1 = some o_r) : Met l y_Sq_raised wd_Sq_raised rm_Sq_raised (ct_Pre D (ct_tys cI cL cZ) tA tB [] sz [.int p0, .int p1]) (ct_Ql D [] A o_r) 0 0 A := by
  refine Met.ofW (cc := b_Sq_raised) (maxL := 5) (ret := (some .long)) (by decide) rfl ?_
  intro p e s m args below meth c s₁ B hml hv
  obtain ⟨hargs, hsz, hP, hK, hD0, hT⟩ := hv
  subst hsz
  have hD := hD0.self (sz := s.heap.size)
  rw [← hAe] at hD hT
  have hA : ∀ q : Nat, s.heap.size ≤ q → A q := fun q h => by rw [hAe]; exact Or.inr h
  clear hAe
  have cx : ct_Cx p s m args meth c b_Sq_raised 5 (some .long) R_Sq wd_Sq_raised D (ct_tys cI cL cZ) tA tB A := ⟨B.exec, B.bytes, B.returns, hml, findClass_of_methodNamed B.named, atoms_spec (ws := wd_Sq_raised) B.pre, hK, hA, hT, B.notSynchronized, hT.1, hT.2.1, hT.2.2.1, hT.2.2.2.1, hT.2.2.2.2⟩
  have hl := lv_entry ([.int p0, .int p1]) (n := 5) (Nat.le_of_ble_eq_true rfl)
  rw [show entryFrame m args 5 = entryFrame m ([.int p0, .int p1] : List Value).toArray 5 by rw [hargs], lg_entry_eq]
  exact w_Sq_raised cx h _ _ hP hD va_S.rf _ hl
abbrev rm_Sq_value : Room := { frames := 1, cells := 0, slots := 0, locals := 24 }
abbrev wd_Sq_value : List Cond := .code y_Sq_value b_Sq_value 6 (some .long) :: ct_G
def f_Sq_value_L41 (x1 : Int32) (x2 : Int32) (v_numbers : Nat → Int32) : Nat → Int32 → Int64 → (Int64 → Option (Sum Nat (Int64))) → Option (Sum Nat (Int64))
  | 0, _, _, _ => none
  | n + 1, x5, x3, k => (if 15 ≤ x5 then (k x3) else (if x5 < 0 ∨ 15 ≤ x5.toNatClampNeg then none else (if x5 < 0 ∨ 15 ≤ x5.toNatClampNeg then none else ((f_Sq_raised x1 (pwA x5.toNatClampNeg)).bind (fun r_6 => (if x5 < 0 ∨ 15 ≤ x5.toNatClampNeg then none else ((f_Sq_raised x2 (pwB x5.toNatClampNeg)).bind (fun r_7 => (f_Sq_value_L41 x1 x2 v_numbers n (x5 + 1) (x3 + (((v_numbers x5.toNatClampNeg).toInt64 * r_6) * r_7)) k)))))))))
def f_Sq_value (p0 : Int32) (p1 : Int32) (v_unknowns : Int32) (v_numbers : Nat → Int32) : Option (Sum Nat (Int64)) := ((f_Sq_within p0 (100 : Int32)).bind (fun r_1 => (if r_1 = 0 then some (.inl 1) else (if v_unknowns = 2 then ((f_Sq_within p1 (100 : Int32)).bind (fun r_9 => (if r_9 = 0 then some (.inl 1) else (f_Sq_value_L41 p0 p1 v_numbers 40 0 0 (fun (y3_16 : Int64) => some (.inr y3_16)))))) else (f_Sq_value_L41 p0 p1 v_numbers 40 0 0 (fun (y3_8 : Int64) => some (.inr y3_8)))))))
set_option maxHeartbeats 4000000 in
set_option maxRecDepth 100000 in
theorem w_Sq_value_L41 {p : Program} {l : Launch} {e : Env} {s : State} {m : MethodId} {args : Array Value} {below : List Frame} {meth : Method} {c : Code} {D : va_G} {cI cL cZ : ClassId} {tA tB : Nat} {A : Nat → Prop} {Q : State → Prop} {a_this a_numbers a_table a_hull a_pairs a_steps a_search : Nat} {x1 : Int32} {x2 : Int32} {v_unknowns : Int32} {v_squaresThere : Int32} {v_numbers : Nat → Int32} {o_r : Int64} (cx : ct_Cx p s m args meth c b_Sq_value 6 (some .long) R_Sq wd_Sq_value D (ct_tys cI cL cZ) tA tB A) : ∀ (n : Nat) (x5 : Int32) (x3 : Int64) (k : (Int64 → Option (Sum Nat (Int64)))), f_Sq_value_L41 x1 x2 v_numbers n x5 x3 k = some (.inr o_r) → (∀ (x3 : Int64), k x3 = some (.inr o_r) → ∀ (H : Heap) (locs : List Loc), va_P D vwCl [(a_this, .inr (4, [.int v_unknowns, .ref a_numbers, .ref a_table, .ref a_hull, .ref a_pairs, .ref a_steps, .ref a_search, .int v_squaresThere])), (a_numbers, .inl (cI, 15, .inl v_numbers))] H → va_D A [(a_this, .inr (4, [.int v_unknowns, .ref a_numbers, .ref a_table, .ref a_hull, .ref a_pairs, .ref a_steps, .ref a_search, .int v_squaresThere])), (a_numbers, .inl (cI, 15, .inl v_numbers))] → va_S A s.heap H locs → ∀ ls : Array Slot, lv_has ls 6 [(3, .long x3)] → W p l e (headSpec wd_Sq_value rm_Sq_value).room s m args below meth c H locs 0 0 Q (F0 m 87 ls [])) → ∀ (H : Heap) (locs : List Loc), va_P D vwCl [(a_this, .inr (4, [.int v_unknowns, .ref a_numbers, .ref a_table, .ref a_hull, .ref a_pairs, .ref a_steps, .ref a_search, .int v_squaresThere])), (a_numbers, .inl (cI, 15, .inl v_numbers))] H → va_D A [(a_this, .inr (4, [.int v_unknowns, .ref a_numbers, .ref a_table, .ref a_hull, .ref a_pairs, .ref a_steps, .ref a_search, .int v_squaresThere])), (a_numbers, .inl (cI, 15, .inl v_numbers))] → va_S A s.heap H locs → ∀ ls : Array Slot, lv_has ls 6 [(5, .int x5), (3, .long x3), (0, .ref a_this), (1, .int x1), (2, .int x2)] → W p l e (headSpec wd_Sq_value rm_Sq_value).room s m args below meth c H locs 0 0 Q (F0 m 41 ls []) := by
  obtain ⟨hx, hb, hr, hml, hown, hts, hK, hA, hT, hlocks, hZA, hZB, hTA, hTB, hnw⟩ := id cx
  intro n
  induction n with
  | zero => intro x5 x3 k h; rw [f_Sq_value_L41] at h; cases h
  | succ n ih =>
    intro x5 x3 k h hk H locs hP hD hS ls hl
    rw [f_Sq_value_L41] at h
    refine lv_iload hx hb d_Sq_value_41 (lv_at hl 0 rfl) ?_
    refine lv_bipush (v := 15) hx hb d_Sq_value_43 (by decide) ?_
    refine lv_icmp_ge (tgt := 87) hx hb d_Sq_value_45 (by decide) (fun hc => ?_) (fun hc => ?_)
    · rw [if_pos hc] at h
      exact hk _ h _ _ hP hD hS ls (lv_sub hl [1] rfl)
    · rw [if_neg hc] at h
      refine lv_lload_n hx hb d_Sq_value_48 rfl (lv_at hl 1 rfl) ?_
      refine lv_aload_n hx hb d_Sq_value_49 rfl (lv_at hl 2 rfl) ?_
      refine va_get (D := D) (ci := 4) (v := .ref a_numbers) (C := R_Sq) (T := T_Sq) (N := 8) hx hb hts (fun w h9 => ct_in (iw_Sq w h9)) hown hK hP 0 rfl rfl 1 (by decide) (hts _ (ct_in k_112)) (fun _ h9 => h9) rfl d_Sq_value_50 ?_
      refine lv_iload hx hb d_Sq_value_53 (lv_at hl 0 rfl) ?_
      obtain ⟨hin, h⟩ := ct_chk h
      refine va_iald hx hb hK hP 1 0 rfl rfl hin d_Sq_value_55 ?_
      refine lv_i2l (v := (v_numbers x5.toNatClampNeg).toInt64) hx hb d_Sq_value_56 rfl ?_
      refine lv_iload_n hx hb d_Sq_value_57 rfl (lv_at hl 3 rfl) ?_
      refine va_gets hx hb hZA hS hown (hts _ (ct_in k_139)) (fun _ h9 => h9) d_Sq_value_58 ?_
      refine lv_iload hx hb d_Sq_value_61 (lv_at hl 0 rfl) ?_
      obtain ⟨hin, h⟩ := ct_chk h
      refine va_ti hx hb hTA hS hin (v := .int (pwA x5.toNatClampNeg)) rfl d_Sq_value_63 ?_
      obtain ⟨r_6, ho, h⟩ := Option.bind_eq_some_iff.mp h
      refine ct_calll (wc := []) (wr := [(a_this, .inr (4, [.int v_unknowns, .ref a_numbers, .ref a_table, .ref a_hull, .ref a_pairs, .ref a_steps, .ref a_search, .int v_squaresThere])), (a_numbers, .inl (cI, 15, .inl v_numbers))]) (wc' := []) (ws' := [(a_this, .inr (4, [.int v_unknowns, .ref a_numbers, .ref a_table, .ref a_hull, .ref a_pairs, .ref a_steps, .ref a_search, .int v_squaresThere])), (a_numbers, .inl (cI, 15, .inl v_numbers))]) (va_runS (As := [.int x1, .int (pwA x5.toNatClampNeg)]) (rest := [.long ((v_numbers x5.toNatClampNeg).toInt64), .long x3]) ⟨hx, hb, hml, hown, hts⟩ (c_Sq_raised l D cI cL cZ tA tB H.size x1 (pwA x5.toNatClampNeg) r_6 _ rfl ho) (va_cwS 2 hts (ct_goodS k_194 k_193 k_20 k_192) rfl rfl rfl (by decide +kernel) ⟨Nat.le_of_ble_eq_true rfl, Nat.le_of_ble_eq_true rfl⟩) (ct_preS (wc := []) hP hD hK hS hA hT [] rfl (by decide)) rfl rfl hl.1 rfl (lv_room (Nat.le_of_ble_eq_true rfl)) d_Sq_value_64 ⟨Nat.zero_le _, Nat.zero_le _⟩) hP hD hS hA [] [0, 1] rfl rfl (by decide) (by decide) [0, 1] rfl (by decide) (fun H locs hP hD hS => ?_)
      refine lv_lmul hx hb d_Sq_value_67 ?_
      refine lv_iload_n hx hb d_Sq_value_68 rfl (lv_at hl 4 rfl) ?_
      refine va_gets hx hb hZB hS hown (hts _ (ct_in k_138)) (fun _ h9 => h9) d_Sq_value_69 ?_
      refine lv_iload hx hb d_Sq_value_72 (lv_at hl 0 rfl) ?_
      obtain ⟨hin, h⟩ := ct_chk h
      refine va_ti hx hb hTB hS hin (v := .int (pwB x5.toNatClampNeg)) rfl d_Sq_value_74 ?_
      obtain ⟨r_7, ho, h⟩ := Option.bind_eq_some_iff.mp h
      refine ct_calll (wc := []) (wr := [(a_this, .inr (4, [.int v_unknowns, .ref a_numbers, .ref a_table, .ref a_hull, .ref a_pairs, .ref a_steps, .ref a_search, .int v_squaresThere])), (a_numbers, .inl (cI, 15, .inl v_numbers))]) (wc' := []) (ws' := [(a_this, .inr (4, [.int v_unknowns, .ref a_numbers, .ref a_table, .ref a_hull, .ref a_pairs, .ref a_steps, .ref a_search, .int v_squaresThere])), (a_numbers, .inl (cI, 15, .inl v_numbers))]) (va_runS (As := [.int x2, .int (pwB x5.toNatClampNeg)]) (rest := [.long ((v_numbers x5.toNatClampNeg).toInt64 * r_6), .long x3]) ⟨hx, hb, hml, hown, hts⟩ (c_Sq_raised l D cI cL cZ tA tB H.size x2 (pwB x5.toNatClampNeg) r_7 _ rfl ho) (va_cwS 2 hts (ct_goodS k_194 k_193 k_20 k_192) rfl rfl rfl (by decide +kernel) ⟨Nat.le_of_ble_eq_true rfl, Nat.le_of_ble_eq_true rfl⟩) (ct_preS (wc := []) hP hD hK hS hA hT [] rfl (by decide)) rfl rfl hl.1 rfl (lv_room (Nat.le_of_ble_eq_true rfl)) d_Sq_value_75 ⟨Nat.zero_le _, Nat.zero_le _⟩) hP hD hS hA [] [0, 1] rfl rfl (by decide) (by decide) [0, 1] rfl (by decide) (fun H locs hP hD hS => ?_)
      refine lv_lmul hx hb d_Sq_value_78 ?_
      refine lv_ladd hx hb d_Sq_value_79 ?_
      refine lv_lstore_n (lv' := [(3, .long (x3 + (((v_numbers x5.toNatClampNeg).toInt64 * r_6) * r_7))), (5, .int x5), (0, .ref a_this), (1, .int x1), (2, .int x2)]) hx hb d_Sq_value_80 rfl hl (by decide) rfl (fun ls hl => ?_)
      refine lv_iinc (v := (x5 + 1)) (lv' := [(5, .int (x5 + 1)), (3, .long (x3 + (((v_numbers x5.toNatClampNeg).toInt64 * r_6) * r_7))), (0, .ref a_this), (1, .int x1), (2, .int x2)]) hx hb d_Sq_value_81 hl (k := 1) rfl rfl (by decide) rfl (fun ls hl => ?_)
      refine lv_goto (tgt := 41) hx hb d_Sq_value_84 (by decide) ?_
      exact ih _ _ k h hk _ _ hP hD hS ls (lv_sub hl [0, 1, 2, 3, 4] rfl)
set_option maxHeartbeats 4000000 in
set_option maxRecDepth 100000 in
theorem w_Sq_value {p : Program} {l : Launch} {e : Env} {s : State} {m : MethodId} {args : Array Value} {below : List Frame} {meth : Method} {c : Code} {D : va_G} {cI cL cZ : ClassId} {tA tB : Nat} {A : Nat → Prop} {a_this a_numbers a_table a_hull a_pairs a_steps a_search : Nat} {p0 : Int32} {p1 : Int32} {v_unknowns : Int32} {v_squaresThere : Int32} {v_numbers : Nat → Int32} {o_r : Int64} (cx : ct_Cx p s m args meth c b_Sq_value 6 (some .long) R_Sq wd_Sq_value D (ct_tys cI cL cZ) tA tB A) (h : f_Sq_value p0 p1 v_unknowns v_numbers = some (.inr o_r)) : ∀ (H : Heap) (locs : List Loc), va_P D vwCl [(a_this, .inr (4, [.int v_unknowns, .ref a_numbers, .ref a_table, .ref a_hull, .ref a_pairs, .ref a_steps, .ref a_search, .int v_squaresThere])), (a_numbers, .inl (cI, 15, .inl v_numbers))] H → va_D A [(a_this, .inr (4, [.int v_unknowns, .ref a_numbers, .ref a_table, .ref a_hull, .ref a_pairs, .ref a_steps, .ref a_search, .int v_squaresThere])), (a_numbers, .inl (cI, 15, .inl v_numbers))] → va_S A s.heap H locs → ∀ ls : Array Slot, lv_has ls 6 [(0, .ref a_this), (1, .int p0), (2, .int p1)] → W p l e (headSpec wd_Sq_value rm_Sq_value).room s m args below meth c H locs 0 0 (MQ below (ct_Ql D [(a_this, .inr (4, [.int v_unknowns, .ref a_numbers, .ref a_table, .ref a_hull, .ref a_pairs, .ref a_steps, .ref a_search, .int v_squaresThere])), (a_numbers, .inl (cI, 15, .inl v_numbers))] A o_r) args s 0 0 A) (F0 m 0 ls []) := by
  obtain ⟨hx, hb, hr, hml, hown, hts, hK, hA, hT, hlocks, hZA, hZB, hTA, hTB, hnw⟩ := id cx
  intro H locs hP hD hS ls hl
  rw [f_Sq_value] at h
  refine lv_iload_n hx hb d_Sq_value_0 rfl (lv_at hl 1 rfl) ?_
  refine lv_bipush (v := 100) hx hb d_Sq_value_1 (by decide) ?_
  obtain ⟨r_1, ho, h⟩ := Option.bind_eq_some_iff.mp h
  refine ct_calli (wc := []) (wr := [(a_this, .inr (4, [.int v_unknowns, .ref a_numbers, .ref a_table, .ref a_hull, .ref a_pairs, .ref a_steps, .ref a_search, .int v_squaresThere])), (a_numbers, .inl (cI, 15, .inl v_numbers))]) (wc' := []) (ws' := [(a_this, .inr (4, [.int v_unknowns, .ref a_numbers, .ref a_table, .ref a_hull, .ref a_pairs, .ref a_steps, .ref a_search, .int v_squaresThere])), (a_numbers, .inl (cI, 15, .inl v_numbers))]) (va_runS (As := [.int p0, .int 100]) (rest := []) ⟨hx, hb, hml, hown, hts⟩ (c_Sq_within l D cI cL cZ tA tB H.size p0 (100 : Int32) r_1 _ rfl ho) (va_cwS 2 hts (ct_goodS k_111 k_91 k_20 k_90) rfl rfl rfl (by decide +kernel) ⟨Nat.le_of_ble_eq_true rfl, Nat.le_of_ble_eq_true rfl⟩) (ct_preS (wc := []) hP hD hK hS hA hT [] rfl (by decide)) rfl rfl hl.1 rfl (lv_room (Nat.le_of_ble_eq_true rfl)) d_Sq_value_3 ⟨Nat.zero_le _, Nat.zero_le _⟩) hP hD hS hA [] [0, 1] rfl rfl (by decide) (by decide) [0, 1] rfl (by decide) (fun H locs hP hD hS => ?_)
  refine lv_if_eq (tgt := 26) hx hb d_Sq_value_6 (by decide) (fun hc => ?_) (fun hc => ?_)
  · rw [if_pos hc] at h
    cases h
  · rw [if_neg hc] at h
    refine lv_aload_n hx hb d_Sq_value_9 rfl (lv_at hl 0 rfl) ?_
    refine va_get (D := D) (ci := 4) (v := .int v_unknowns) (C := R_Sq) (T := T_Sq) (N := 8) hx hb hts (fun w h9 => ct_in (iw_Sq w h9)) hown hK hP 0 rfl rfl 0 (by decide) (hts _ (ct_in k_110)) (fun _ h9 => h9) rfl d_Sq_value_10 ?_
    refine lv_iconst (v := 2) hx hb d_Sq_value_13 (by decide) ?_
    refine lv_icmp_ne (tgt := 36) hx hb d_Sq_value_14 (by decide) (fun hc => ?_) (fun hc => ?_)
    · rw [if_neg hc] at h
      refine lv_lconst (v := 0) hx hb d_Sq_value_36 (by decide) ?_
      refine lv_lstore_n (lv' := [(3, .long 0), (0, .ref a_this), (1, .int p0), (2, .int p1)]) hx hb d_Sq_value_37 rfl hl (by decide) rfl (fun ls hl => ?_)
      refine lv_iconst (v := 0) hx hb d_Sq_value_38 (by decide) ?_
      refine lv_istore (lv' := [(5, .int 0), (3, .long 0), (0, .ref a_this), (1, .int p0), (2, .int p1)]) hx hb d_Sq_value_39 hl (by decide) rfl (fun ls hl => ?_)
      refine w_Sq_value_L41 cx _ _ _ _ h (fun y3_8 h H locs hP hD hS ls hl => ?_) _ _ hP hD hS ls (lv_sub hl [0, 1, 2, 3, 4] rfl)
      try dsimp only at h
      refine lv_lload_n hx hb d_Sq_value_87 rfl (lv_at hl 0 rfl) ?_
      cases h
      exact W.lret hx hb hr (fun t ht hW => ⟨⟨_, (), rfl, rfl, by rw [ht]; exact hP, hD⟩, hS.F ht⟩) hS.2.2 d_Sq_value_88
    · rw [if_pos hc] at h
      refine lv_iload_n hx hb d_Sq_value_17 rfl (lv_at hl 2 rfl) ?_
      refine lv_bipush (v := 100) hx hb d_Sq_value_18 (by decide) ?_
      obtain ⟨r_9, ho, h⟩ := Option.bind_eq_some_iff.mp h
      refine ct_calli (wc := []) (wr := [(a_this, .inr (4, [.int v_unknowns, .ref a_numbers, .ref a_table, .ref a_hull, .ref a_pairs, .ref a_steps, .ref a_search, .int v_squaresThere])), (a_numbers, .inl (cI, 15, .inl v_numbers))]) (wc' := []) (ws' := [(a_this, .inr (4, [.int v_unknowns, .ref a_numbers, .ref a_table, .ref a_hull, .ref a_pairs, .ref a_steps, .ref a_search, .int v_squaresThere])), (a_numbers, .inl (cI, 15, .inl v_numbers))]) (va_runS (As := [.int p1, .int 100]) (rest := []) ⟨hx, hb, hml, hown, hts⟩ (c_Sq_within l D cI cL cZ tA tB H.size p1 (100 : Int32) r_9 _ rfl ho) (va_cwS 2 hts (ct_goodS k_111 k_91 k_20 k_90) rfl rfl rfl (by decide +kernel) ⟨Nat.le_of_ble_eq_true rfl, Nat.le_of_ble_eq_true rfl⟩) (ct_preS (wc := []) hP hD hK hS hA hT [] rfl (by decide)) rfl rfl hl.1 rfl (lv_room (Nat.le_of_ble_eq_true rfl)) d_Sq_value_20 ⟨Nat.zero_le _, Nat.zero_le _⟩) hP hD hS hA [] [0, 1] rfl rfl (by decide) (by decide) [0, 1] rfl (by decide) (fun H locs hP hD hS => ?_)
      refine lv_if_ne (tgt := 36) hx hb d_Sq_value_23 (by decide) (fun hc => ?_) (fun hc => ?_)
      · rw [if_neg hc] at h
        refine lv_lconst (v := 0) hx hb d_Sq_value_36 (by decide) ?_
        refine lv_lstore_n (lv' := [(3, .long 0), (0, .ref a_this), (1, .int p0), (2, .int p1)]) hx hb d_Sq_value_37 rfl hl (by decide) rfl (fun ls hl => ?_)
        refine lv_iconst (v := 0) hx hb d_Sq_value_38 (by decide) ?_
        refine lv_istore (lv' := [(5, .int 0), (3, .long 0), (0, .ref a_this), (1, .int p0), (2, .int p1)]) hx hb d_Sq_value_39 hl (by decide) rfl (fun ls hl => ?_)
        refine w_Sq_value_L41 cx _ _ _ _ h (fun y3_16 h H locs hP hD hS ls hl => ?_) _ _ hP hD hS ls (lv_sub hl [0, 1, 2, 3, 4] rfl)
        try dsimp only at h
        refine lv_lload_n hx hb d_Sq_value_87 rfl (lv_at hl 0 rfl) ?_
        cases h
        exact W.lret hx hb hr (fun t ht hW => ⟨⟨_, (), rfl, rfl, by rw [ht]; exact hP, hD⟩, hS.F ht⟩) hS.2.2 d_Sq_value_88
      · rw [if_pos hc] at h
        cases h
set_option maxHeartbeats 4000000 in
set_option maxRecDepth 100000 in
theorem c_Sq_value (l : Launch) (D : va_G) (cI cL cZ : ClassId) (tA tB sz : Nat) (a_this a_numbers a_table a_hull a_pairs a_steps a_search : Nat) (p0 : Int32) (p1 : Int32) (v_unknowns : Int32) (v_squaresThere : Int32) (v_numbers : Nat → Int32) (o_r : Int64) (A : Nat → Prop) (hAe : A = va_A [(a_this, .inr (4, [.int v_unknowns, .ref a_numbers, .ref a_table, .ref a_hull, .ref a_pairs, .ref a_steps, .ref a_search, .int v_squaresThere])), (a_numbers, .inl (cI, 15, .inl v_numbers))] sz) (h : f_Sq_value p0 p1 v_unknowns v_numbers = some (.inr o_r)) : Met l y_Sq_value wd_Sq_value rm_Sq_value (ct_Pre D (ct_tys cI cL cZ) tA tB [(a_this, .inr (4, [.int v_unknowns, .ref a_numbers, .ref a_table, .ref a_hull, .ref a_pairs, .ref a_steps, .ref a_search, .int v_squaresThere])), (a_numbers, .inl (cI, 15, .inl v_numbers))] sz [.ref a_this, .int p0, .int p1]) (ct_Ql D [(a_this, .inr (4, [.int v_unknowns, .ref a_numbers, .ref a_table, .ref a_hull, .ref a_pairs, .ref a_steps, .ref a_search, .int v_squaresThere])), (a_numbers, .inl (cI, 15, .inl v_numbers))] A o_r) 0 0 A := by
  refine Met.ofW (cc := b_Sq_value) (maxL := 6) (ret := (some .long)) (by decide) rfl ?_
  intro p e s m args below meth c s₁ B hml hv
  obtain ⟨hargs, hsz, hP, hK, hD0, hT⟩ := hv
  subst hsz
  have hD := hD0.self (sz := s.heap.size)
  rw [← hAe] at hD hT
  have hA : ∀ q : Nat, s.heap.size ≤ q → A q := fun q h => by rw [hAe]; exact Or.inr h
  clear hAe
  have cx : ct_Cx p s m args meth c b_Sq_value 6 (some .long) R_Sq wd_Sq_value D (ct_tys cI cL cZ) tA tB A := ⟨B.exec, B.bytes, B.returns, hml, findClass_of_methodNamed B.named, atoms_spec (ws := wd_Sq_value) B.pre, hK, hA, hT, B.notSynchronized, hT.1, hT.2.1, hT.2.2.1, hT.2.2.2.1, hT.2.2.2.2⟩
  have hl := lv_entry ([.ref a_this, .int p0, .int p1]) (n := 6) (Nat.le_of_ble_eq_true rfl)
  rw [show entryFrame m args 6 = entryFrame m ([.ref a_this, .int p0, .int p1] : List Value).toArray 6 by rw [hargs], lg_entry_eq]
  exact w_Sq_value cx h _ _ hP hD va_S.rf _ hl
abbrev rm_Sq_termCount : Room := { frames := 0, cells := 0, slots := 0, locals := 0 }
abbrev wd_Sq_termCount : List Cond := .code y_Sq_termCount b_Sq_termCount 3 (some .int) :: ct_G
def f_Sq_termCount_L4 (v_numbers : Nat → Int32) : Nat → Int32 → Int32 → (Int32 → Option (Int32)) → Option (Int32)
  | 0, _, _, _ => none
  | n + 1, x2, x1, k => (if 15 ≤ x2 then (k x1) else (if x2 < 0 ∨ 15 ≤ x2.toNatClampNeg then none else (if (v_numbers x2.toNatClampNeg) = 0 then (f_Sq_termCount_L4 v_numbers n (x2 + 1) x1 k) else (f_Sq_termCount_L4 v_numbers n (x2 + 1) (x1 + 1) k))))
def f_Sq_termCount (v_numbers : Nat → Int32) : Option (Int32) := (f_Sq_termCount_L4 v_numbers 40 0 0 (fun (y1_4 : Int32) => some y1_4))
set_option maxHeartbeats 4000000 in
set_option maxRecDepth 100000 in
theorem w_Sq_termCount_L4 {p : Program} {l : Launch} {e : Env} {s : State} {m : MethodId} {args : Array Value} {below : List Frame} {meth : Method} {c : Code} {D : va_G} {cI cL cZ : ClassId} {tA tB : Nat} {A : Nat → Prop} {Q : State → Prop} {a_this a_numbers a_table a_hull a_pairs a_steps a_search : Nat} {v_unknowns : Int32} {v_squaresThere : Int32} {v_numbers : Nat → Int32} {o_r : Int32} (cx : ct_Cx p s m args meth c b_Sq_termCount 3 (some .int) R_Sq wd_Sq_termCount D (ct_tys cI cL cZ) tA tB A) : ∀ (n : Nat) (x2 : Int32) (x1 : Int32) (k : (Int32 → Option (Int32))), f_Sq_termCount_L4 v_numbers n x2 x1 k = some o_r → (∀ (x1 : Int32), k x1 = some o_r → ∀ (H : Heap) (locs : List Loc), va_P D vwCl [(a_this, .inr (4, [.int v_unknowns, .ref a_numbers, .ref a_table, .ref a_hull, .ref a_pairs, .ref a_steps, .ref a_search, .int v_squaresThere])), (a_numbers, .inl (cI, 15, .inl v_numbers))] H → va_D A [(a_this, .inr (4, [.int v_unknowns, .ref a_numbers, .ref a_table, .ref a_hull, .ref a_pairs, .ref a_steps, .ref a_search, .int v_squaresThere])), (a_numbers, .inl (cI, 15, .inl v_numbers))] → va_S A s.heap H locs → ∀ ls : Array Slot, lv_has ls 3 [(1, .int x1)] → W p l e (headSpec wd_Sq_termCount rm_Sq_termCount).room s m args below meth c H locs 0 0 Q (F0 m 28 ls [])) → ∀ (H : Heap) (locs : List Loc), va_P D vwCl [(a_this, .inr (4, [.int v_unknowns, .ref a_numbers, .ref a_table, .ref a_hull, .ref a_pairs, .ref a_steps, .ref a_search, .int v_squaresThere])), (a_numbers, .inl (cI, 15, .inl v_numbers))] H → va_D A [(a_this, .inr (4, [.int v_unknowns, .ref a_numbers, .ref a_table, .ref a_hull, .ref a_pairs, .ref a_steps, .ref a_search, .int v_squaresThere])), (a_numbers, .inl (cI, 15, .inl v_numbers))] → va_S A s.heap H locs → ∀ ls : Array Slot, lv_has ls 3 [(2, .int x2), (1, .int x1), (0, .ref a_this)] → W p l e (headSpec wd_Sq_termCount rm_Sq_termCount).room s m args below meth c H locs 0 0 Q (F0 m 4 ls []) := by
  obtain ⟨hx, hb, hr, hml, hown, hts, hK, hA, hT, hlocks, hZA, hZB, hTA, hTB, hnw⟩ := id cx
  intro n
  induction n with
  | zero => intro x2 x1 k h; rw [f_Sq_termCount_L4] at h; cases h
  | succ n ih =>
    intro x2 x1 k h hk H locs hP hD hS ls hl
    rw [f_Sq_termCount_L4] at h
    refine lv_iload_n hx hb d_Sq_termCount_4 rfl (lv_at hl 0 rfl) ?_
    refine lv_bipush (v := 15) hx hb d_Sq_termCount_5 (by decide) ?_
    refine lv_icmp_ge (tgt := 28) hx hb d_Sq_termCount_7 (by decide) (fun hc => ?_) (fun hc => ?_)
    · rw [if_pos hc] at h
      exact hk _ h _ _ hP hD hS ls (lv_sub hl [1] rfl)
    · rw [if_neg hc] at h
      refine lv_aload_n hx hb d_Sq_termCount_10 rfl (lv_at hl 2 rfl) ?_
      refine va_get (D := D) (ci := 4) (v := .ref a_numbers) (C := R_Sq) (T := T_Sq) (N := 8) hx hb hts (fun w h9 => ct_in (iw_Sq w h9)) hown hK hP 0 rfl rfl 1 (by decide) (hts _ (ct_in k_112)) (fun _ h9 => h9) rfl d_Sq_termCount_11 ?_
      refine lv_iload_n hx hb d_Sq_termCount_14 rfl (lv_at hl 0 rfl) ?_
      obtain ⟨hin, h⟩ := ct_chk h
      refine va_iald hx hb hK hP 1 0 rfl rfl hin d_Sq_termCount_15 ?_
      refine lv_if_eq (tgt := 22) hx hb d_Sq_termCount_16 (by decide) (fun hc => ?_) (fun hc => ?_)
      · rw [if_pos hc] at h
        refine lv_iinc (v := (x2 + 1)) (lv' := [(2, .int (x2 + 1)), (1, .int x1), (0, .ref a_this)]) hx hb d_Sq_termCount_22 hl (k := 0) rfl rfl (by decide) rfl (fun ls hl => ?_)
        refine lv_goto (tgt := 4) hx hb d_Sq_termCount_25 (by decide) ?_
        exact ih _ _ k h hk _ _ hP hD hS ls (lv_sub hl [0, 1, 2] rfl)
      · rw [if_neg hc] at h
        refine lv_iinc (v := (x1 + 1)) (lv' := [(1, .int (x1 + 1)), (2, .int x2), (0, .ref a_this)]) hx hb d_Sq_termCount_19 hl (k := 1) rfl rfl (by decide) rfl (fun ls hl => ?_)
        refine lv_iinc (v := (x2 + 1)) (lv' := [(2, .int (x2 + 1)), (1, .int (x1 + 1)), (0, .ref a_this)]) hx hb d_Sq_termCount_22 hl (k := 1) rfl rfl (by decide) rfl (fun ls hl => ?_)
        refine lv_goto (tgt := 4) hx hb d_Sq_termCount_25 (by decide) ?_
        exact ih _ _ k h hk _ _ hP hD hS ls (lv_sub hl [0, 1, 2] rfl)
set_option maxHeartbeats 4000000 in
set_option maxRecDepth 100000 in
theorem w_Sq_termCount {p : Program} {l : Launch} {e : Env} {s : State} {m : MethodId} {args : Array Value} {below : List Frame} {meth : Method} {c : Code} {D : va_G} {cI cL cZ : ClassId} {tA tB : Nat} {A : Nat → Prop} {a_this a_numbers a_table a_hull a_pairs a_steps a_search : Nat} {v_unknowns : Int32} {v_squaresThere : Int32} {v_numbers : Nat → Int32} {o_r : Int32} (cx : ct_Cx p s m args meth c b_Sq_termCount 3 (some .int) R_Sq wd_Sq_termCount D (ct_tys cI cL cZ) tA tB A) (h : f_Sq_termCount v_numbers = some o_r) : ∀ (H : Heap) (locs : List Loc), va_P D vwCl [(a_this, .inr (4, [.int v_unknowns, .ref a_numbers, .ref a_table, .ref a_hull, .ref a_pairs, .ref a_steps, .ref a_search, .int v_squaresThere])), (a_numbers, .inl (cI, 15, .inl v_numbers))] H → va_D A [(a_this, .inr (4, [.int v_unknowns, .ref a_numbers, .ref a_table, .ref a_hull, .ref a_pairs, .ref a_steps, .ref a_search, .int v_squaresThere])), (a_numbers, .inl (cI, 15, .inl v_numbers))] → va_S A s.heap H locs → ∀ ls : Array Slot, lv_has ls 3 [(0, .ref a_this)] → W p l e (headSpec wd_Sq_termCount rm_Sq_termCount).room s m args below meth c H locs 0 0 (MQ below (ct_Qi D [(a_this, .inr (4, [.int v_unknowns, .ref a_numbers, .ref a_table, .ref a_hull, .ref a_pairs, .ref a_steps, .ref a_search, .int v_squaresThere])), (a_numbers, .inl (cI, 15, .inl v_numbers))] A o_r) args s 0 0 A) (F0 m 0 ls []) := by
  obtain ⟨hx, hb, hr, hml, hown, hts, hK, hA, hT, hlocks, hZA, hZB, hTA, hTB, hnw⟩ := id cx
  intro H locs hP hD hS ls hl
  rw [f_Sq_termCount] at h
  refine lv_iconst (v := 0) hx hb d_Sq_termCount_0 (by decide) ?_
  refine lv_istore_n (lv' := [(1, .int 0), (0, .ref a_this)]) hx hb d_Sq_termCount_1 rfl hl (by decide) rfl (fun ls hl => ?_)
  refine lv_iconst (v := 0) hx hb d_Sq_termCount_2 (by decide) ?_
  refine lv_istore_n (lv' := [(2, .int 0), (1, .int 0), (0, .ref a_this)]) hx hb d_Sq_termCount_3 rfl hl (by decide) rfl (fun ls hl => ?_)
  refine w_Sq_termCount_L4 cx _ _ _ _ h (fun y1_4 h H locs hP hD hS ls hl => ?_) _ _ hP hD hS ls (lv_sub hl [0, 1, 2] rfl)
  try dsimp only at h
  refine lv_iload_n hx hb d_Sq_termCount_28 rfl (lv_at hl 0 rfl) ?_
  cases h
  exact W.iret hx hb hr (fun t ht hW => ⟨⟨_, (), rfl, rfl, by rw [ht]; exact hP, hD⟩, hS.F ht⟩) hS.2.2 d_Sq_termCount_29
set_option maxHeartbeats 4000000 in
set_option maxRecDepth 100000 in
theorem c_Sq_termCount (l : Launch) (D : va_G) (cI cL cZ : ClassId) (tA tB sz : Nat) (a_this a_numbers a_table a_hull a_pairs a_steps a_search : Nat) (v_unknowns : Int32) (v_squaresThere : Int32) (v_numbers : Nat → Int32) (o_r : Int32) (A : Nat → Prop) (hAe : A = va_A [(a_this, .inr (4, [.int v_unknowns, .ref a_numbers, .ref a_table, .ref a_hull, .ref a_pairs, .ref a_steps, .ref a_search, .int v_squaresThere])), (a_numbers, .inl (cI, 15, .inl v_numbers))] sz) (h : f_Sq_termCount v_numbers = some o_r) : Met l y_Sq_termCount wd_Sq_termCount rm_Sq_termCount (ct_Pre D (ct_tys cI cL cZ) tA tB [(a_this, .inr (4, [.int v_unknowns, .ref a_numbers, .ref a_table, .ref a_hull, .ref a_pairs, .ref a_steps, .ref a_search, .int v_squaresThere])), (a_numbers, .inl (cI, 15, .inl v_numbers))] sz [.ref a_this]) (ct_Qi D [(a_this, .inr (4, [.int v_unknowns, .ref a_numbers, .ref a_table, .ref a_hull, .ref a_pairs, .ref a_steps, .ref a_search, .int v_squaresThere])), (a_numbers, .inl (cI, 15, .inl v_numbers))] A o_r) 0 0 A := by
  refine Met.ofW (cc := b_Sq_termCount) (maxL := 3) (ret := (some .int)) (by decide) rfl ?_
  intro p e s m args below meth c s₁ B hml hv
  obtain ⟨hargs, hsz, hP, hK, hD0, hT⟩ := hv
  subst hsz
  have hD := hD0.self (sz := s.heap.size)
  rw [← hAe] at hD hT
  have hA : ∀ q : Nat, s.heap.size ≤ q → A q := fun q h => by rw [hAe]; exact Or.inr h
  clear hAe
  have cx : ct_Cx p s m args meth c b_Sq_termCount 3 (some .int) R_Sq wd_Sq_termCount D (ct_tys cI cL cZ) tA tB A := ⟨B.exec, B.bytes, B.returns, hml, findClass_of_methodNamed B.named, atoms_spec (ws := wd_Sq_termCount) B.pre, hK, hA, hT, B.notSynchronized, hT.1, hT.2.1, hT.2.2.1, hT.2.2.2.1, hT.2.2.2.2⟩
  have hl := lv_entry ([.ref a_this]) (n := 3) (Nat.le_of_ble_eq_true rfl)
  rw [show entryFrame m args 3 = entryFrame m ([.ref a_this] : List Value).toArray 3 by rw [hargs], lg_entry_eq]
  exact w_Sq_termCount cx h _ _ hP hD va_S.rf _ hl
abbrev rm_Sq_count : Room := { frames := 1, cells := 0, slots := 0, locals := 22 }
abbrev wd_Sq_count : List Cond := .code y_Sq_count b_Sq_count 2 (some .int) :: ct_G
def f_Sq_count (p0 : Int32) (v_unknowns : Int32) (v_numbers : Nat → Int32) (v_hull_corner : Nat → Int32) : Option (Int32) := (if p0 = 0 then ((f_Sq_termCount v_numbers).bind (fun r_1 => some r_1)) else (if p0 = 1 then some v_unknowns else (if p0 = 2 then ((f_Hull_cornerCount v_hull_corner).bind (fun r_2 => some r_2)) else some ((-1) : Int32))))
set_option maxHeartbeats 4000000 in
set_option maxRecDepth 100000 in
theorem w_Sq_count {p : Program} {l : Launch} {e : Env} {s : State} {m : MethodId} {args : Array Value} {below : List Frame} {meth : Method} {c : Code} {D : va_G} {cI cL cZ : ClassId} {tA tB : Nat} {A : Nat → Prop} {a_this a_numbers a_table a_hull a_pairs a_steps a_search a_hull_corner a_hull_outside a_hull_members : Nat} {p0 : Int32} {v_unknowns : Int32} {v_squaresThere : Int32} {v_numbers : Nat → Int32} {v_hull_size : Int32} {v_hull_corner : Nat → Int32} {o_r : Int32} (cx : ct_Cx p s m args meth c b_Sq_count 2 (some .int) R_Sq wd_Sq_count D (ct_tys cI cL cZ) tA tB A) (h : f_Sq_count p0 v_unknowns v_numbers v_hull_corner = some o_r) : ∀ (H : Heap) (locs : List Loc), va_P D vwCl [(a_this, .inr (4, [.int v_unknowns, .ref a_numbers, .ref a_table, .ref a_hull, .ref a_pairs, .ref a_steps, .ref a_search, .int v_squaresThere])), (a_numbers, .inl (cI, 15, .inl v_numbers)), (a_hull, .inr (0, [.ref a_hull_corner, .ref a_hull_outside, .ref a_hull_members, .int v_hull_size])), (a_hull_corner, .inl (cZ, 15, .inl v_hull_corner))] H → va_D A [(a_this, .inr (4, [.int v_unknowns, .ref a_numbers, .ref a_table, .ref a_hull, .ref a_pairs, .ref a_steps, .ref a_search, .int v_squaresThere])), (a_numbers, .inl (cI, 15, .inl v_numbers)), (a_hull, .inr (0, [.ref a_hull_corner, .ref a_hull_outside, .ref a_hull_members, .int v_hull_size])), (a_hull_corner, .inl (cZ, 15, .inl v_hull_corner))] → va_S A s.heap H locs → ∀ ls : Array Slot, lv_has ls 2 [(0, .ref a_this), (1, .int p0)] → W p l e (headSpec wd_Sq_count rm_Sq_count).room s m args below meth c H locs 0 0 (MQ below (ct_Qi D [(a_this, .inr (4, [.int v_unknowns, .ref a_numbers, .ref a_table, .ref a_hull, .ref a_pairs, .ref a_steps, .ref a_search, .int v_squaresThere])), (a_numbers, .inl (cI, 15, .inl v_numbers)), (a_hull, .inr (0, [.ref a_hull_corner, .ref a_hull_outside, .ref a_hull_members, .int v_hull_size])), (a_hull_corner, .inl (cZ, 15, .inl v_hull_corner))] A o_r) args s 0 0 A) (F0 m 0 ls []) := by
  obtain ⟨hx, hb, hr, hml, hown, hts, hK, hA, hT, hlocks, hZA, hZB, hTA, hTB, hnw⟩ := id cx
  intro H locs hP hD hS ls hl
  rw [f_Sq_count] at h
  refine lv_iload_n hx hb d_Sq_count_0 rfl (lv_at hl 1 rfl) ?_
  by_cases hc0 : p0 = 0
  · rw [if_pos hc0] at h
    refine lv_tableIn (tgt := 28) hx hb d_Sq_count_1 (by rw [hc0]; decide) (by rw [hc0]; decide) (by rw [hc0]; rfl) (by decide) ?_
    refine lv_aload_n hx hb d_Sq_count_28 rfl (lv_at hl 0 rfl) ?_
    obtain ⟨r_1, ho, h⟩ := Option.bind_eq_some_iff.mp h
    refine ct_calli (wc := [(a_this, .inr (4, [.int v_unknowns, .ref a_numbers, .ref a_table, .ref a_hull, .ref a_pairs, .ref a_steps, .ref a_search, .int v_squaresThere])), (a_numbers, .inl (cI, 15, .inl v_numbers))]) (wr := [(a_hull, .inr (0, [.ref a_hull_corner, .ref a_hull_outside, .ref a_hull_members, .int v_hull_size])), (a_hull_corner, .inl (cZ, 15, .inl v_hull_corner))]) (wc' := [(a_this, .inr (4, [.int v_unknowns, .ref a_numbers, .ref a_table, .ref a_hull, .ref a_pairs, .ref a_steps, .ref a_search, .int v_squaresThere])), (a_numbers, .inl (cI, 15, .inl v_numbers))]) (ws' := [(a_this, .inr (4, [.int v_unknowns, .ref a_numbers, .ref a_table, .ref a_hull, .ref a_pairs, .ref a_steps, .ref a_search, .int v_squaresThere])), (a_numbers, .inl (cI, 15, .inl v_numbers)), (a_hull, .inr (0, [.ref a_hull_corner, .ref a_hull_outside, .ref a_hull_members, .int v_hull_size])), (a_hull_corner, .inl (cZ, 15, .inl v_hull_corner))]) (va_runV (As := []) (rest := []) ⟨hx, hb, hml, hown, hts⟩ (c_Sq_termCount l D cI cL cZ tA tB H.size a_this a_numbers a_table a_hull a_pairs a_steps a_search v_unknowns v_squaresThere v_numbers r_1 _ rfl ho) (cwV 0 hts (ct_goodV k_198 k_196 k_197 k_20 k_195) rfl rfl rfl (by decide +kernel) ⟨Nat.le_of_ble_eq_true rfl, Nat.le_of_ble_eq_true rfl⟩) (ct_preV (wc := [(a_this, .inr (4, [.int v_unknowns, .ref a_numbers, .ref a_table, .ref a_hull, .ref a_pairs, .ref a_steps, .ref a_search, .int v_squaresThere])), (a_numbers, .inl (cI, 15, .inl v_numbers))]) hP hD hK hS hA hT [0, 1] rfl (by decide) (ci := 4) (q0 := 0) rfl rfl) rfl rfl hl.1 rfl (lv_room (Nat.le_of_ble_eq_true rfl)) d_Sq_count_29 ⟨Nat.zero_le _, Nat.zero_le _⟩) hP hD hS hA [0, 1] [2, 3] rfl rfl (by decide) (by decide) [2, 3, 0, 1] rfl (by decide) (fun H locs hP hD hS => ?_)
    cases h
    exact W.iret hx hb hr (fun t ht hW => ⟨⟨_, (), rfl, rfl, by rw [ht]; exact hP, hD⟩, hS.F ht⟩) hS.2.2 d_Sq_count_32
  rw [if_neg hc0] at h
  by_cases hc1 : p0 = 1
  · rw [if_pos hc1] at h
    refine lv_tableIn (tgt := 33) hx hb d_Sq_count_1 (by rw [hc1]; decide) (by rw [hc1]; decide) (by rw [hc1]; rfl) (by decide) ?_
    refine lv_aload_n hx hb d_Sq_count_33 rfl (lv_at hl 0 rfl) ?_
    refine va_get (D := D) (ci := 4) (v := .int v_unknowns) (C := R_Sq) (T := T_Sq) (N := 8) hx hb hts (fun w h9 => ct_in (iw_Sq w h9)) hown hK hP 0 rfl rfl 0 (by decide) (hts _ (ct_in k_110)) (fun _ h9 => h9) rfl d_Sq_count_34 ?_
    cases h
    exact W.iret hx hb hr (fun t ht hW => ⟨⟨_, (), rfl, rfl, by rw [ht]; exact hP, hD⟩, hS.F ht⟩) hS.2.2 d_Sq_count_37
  rw [if_neg hc1] at h
  by_cases hc2 : p0 = 2
  · rw [if_pos hc2] at h
    refine lv_tableIn (tgt := 38) hx hb d_Sq_count_1 (by rw [hc2]; decide) (by rw [hc2]; decide) (by rw [hc2]; rfl) (by decide) ?_
    refine lv_aload_n hx hb d_Sq_count_38 rfl (lv_at hl 0 rfl) ?_
    refine va_get (D := D) (ci := 4) (v := .ref a_hull) (C := R_Sq) (T := T_Sq) (N := 8) hx hb hts (fun w h9 => ct_in (iw_Sq w h9)) hown hK hP 0 rfl rfl 3 (by decide) (hts _ (ct_in k_116)) (fun _ h9 => h9) rfl d_Sq_count_39 ?_
    obtain ⟨r_2, ho, h⟩ := Option.bind_eq_some_iff.mp h
    refine ct_calli (wc := [(a_hull, .inr (0, [.ref a_hull_corner, .ref a_hull_outside, .ref a_hull_members, .int v_hull_size])), (a_hull_corner, .inl (cZ, 15, .inl v_hull_corner))]) (wr := [(a_this, .inr (4, [.int v_unknowns, .ref a_numbers, .ref a_table, .ref a_hull, .ref a_pairs, .ref a_steps, .ref a_search, .int v_squaresThere])), (a_numbers, .inl (cI, 15, .inl v_numbers))]) (wc' := [(a_hull, .inr (0, [.ref a_hull_corner, .ref a_hull_outside, .ref a_hull_members, .int v_hull_size])), (a_hull_corner, .inl (cZ, 15, .inl v_hull_corner))]) (ws' := [(a_this, .inr (4, [.int v_unknowns, .ref a_numbers, .ref a_table, .ref a_hull, .ref a_pairs, .ref a_steps, .ref a_search, .int v_squaresThere])), (a_numbers, .inl (cI, 15, .inl v_numbers)), (a_hull, .inr (0, [.ref a_hull_corner, .ref a_hull_outside, .ref a_hull_members, .int v_hull_size])), (a_hull_corner, .inl (cZ, 15, .inl v_hull_corner))]) (va_runV (As := []) (rest := []) ⟨hx, hb, hml, hown, hts⟩ (c_Hull_cornerCount l D cI cL cZ tA tB H.size a_hull a_hull_corner a_hull_outside a_hull_members v_hull_size v_hull_corner r_2 _ rfl ho) (cwV 0 hts (ct_goodV k_202 k_200 k_201 k_3 k_199) rfl rfl rfl (by decide +kernel) ⟨Nat.le_of_ble_eq_true rfl, Nat.le_of_ble_eq_true rfl⟩) (ct_preV (wc := [(a_hull, .inr (0, [.ref a_hull_corner, .ref a_hull_outside, .ref a_hull_members, .int v_hull_size])), (a_hull_corner, .inl (cZ, 15, .inl v_hull_corner))]) hP hD hK hS hA hT [2, 3] rfl (by decide) (ci := 0) (q0 := 0) rfl rfl) rfl rfl hl.1 rfl (lv_room (Nat.le_of_ble_eq_true rfl)) d_Sq_count_42 ⟨Nat.zero_le _, Nat.zero_le _⟩) hP hD hS hA [2, 3] [0, 1] rfl rfl (by decide) (by decide) [0, 1, 2, 3] rfl (by decide) (fun H locs hP hD hS => ?_)
    cases h
    exact W.iret hx hb hr (fun t ht hW => ⟨⟨_, (), rfl, rfl, by rw [ht]; exact hP, hD⟩, hS.F ht⟩) hS.2.2 d_Sq_count_45
  rw [if_neg hc2] at h
  refine lv_tableOut (tgt := 46) hx hb d_Sq_count_1 (ct_sw3 hc0 hc1 hc2) (by decide) ?_
  refine lv_iconst (v := (-1)) hx hb d_Sq_count_46 (by decide) ?_
  cases h
  exact W.iret hx hb hr (fun t ht hW => ⟨⟨_, (), rfl, rfl, by rw [ht]; exact hP, hD⟩, hS.F ht⟩) hS.2.2 d_Sq_count_47
set_option maxHeartbeats 4000000 in
set_option maxRecDepth 100000 in
theorem c_Sq_count (l : Launch) (D : va_G) (cI cL cZ : ClassId) (tA tB sz : Nat) (a_this a_numbers a_table a_hull a_pairs a_steps a_search a_hull_corner a_hull_outside a_hull_members : Nat) (p0 : Int32) (v_unknowns : Int32) (v_squaresThere : Int32) (v_numbers : Nat → Int32) (v_hull_size : Int32) (v_hull_corner : Nat → Int32) (o_r : Int32) (A : Nat → Prop) (hAe : A = va_A [(a_this, .inr (4, [.int v_unknowns, .ref a_numbers, .ref a_table, .ref a_hull, .ref a_pairs, .ref a_steps, .ref a_search, .int v_squaresThere])), (a_numbers, .inl (cI, 15, .inl v_numbers)), (a_hull, .inr (0, [.ref a_hull_corner, .ref a_hull_outside, .ref a_hull_members, .int v_hull_size])), (a_hull_corner, .inl (cZ, 15, .inl v_hull_corner))] sz) (h : f_Sq_count p0 v_unknowns v_numbers v_hull_corner = some o_r) : Met l y_Sq_count wd_Sq_count rm_Sq_count (ct_Pre D (ct_tys cI cL cZ) tA tB [(a_this, .inr (4, [.int v_unknowns, .ref a_numbers, .ref a_table, .ref a_hull, .ref a_pairs, .ref a_steps, .ref a_search, .int v_squaresThere])), (a_numbers, .inl (cI, 15, .inl v_numbers)), (a_hull, .inr (0, [.ref a_hull_corner, .ref a_hull_outside, .ref a_hull_members, .int v_hull_size])), (a_hull_corner, .inl (cZ, 15, .inl v_hull_corner))] sz [.ref a_this, .int p0]) (ct_Qi D [(a_this, .inr (4, [.int v_unknowns, .ref a_numbers, .ref a_table, .ref a_hull, .ref a_pairs, .ref a_steps, .ref a_search, .int v_squaresThere])), (a_numbers, .inl (cI, 15, .inl v_numbers)), (a_hull, .inr (0, [.ref a_hull_corner, .ref a_hull_outside, .ref a_hull_members, .int v_hull_size])), (a_hull_corner, .inl (cZ, 15, .inl v_hull_corner))] A o_r) 0 0 A := by
  refine Met.ofW (cc := b_Sq_count) (maxL := 2) (ret := (some .int)) (by decide) rfl ?_
  intro p e s m args below meth c s₁ B hml hv
  obtain ⟨hargs, hsz, hP, hK, hD0, hT⟩ := hv
  subst hsz
  have hD := hD0.self (sz := s.heap.size)
  rw [← hAe] at hD hT
  have hA : ∀ q : Nat, s.heap.size ≤ q → A q := fun q h => by rw [hAe]; exact Or.inr h
  clear hAe
  have cx : ct_Cx p s m args meth c b_Sq_count 2 (some .int) R_Sq wd_Sq_count D (ct_tys cI cL cZ) tA tB A := ⟨B.exec, B.bytes, B.returns, hml, findClass_of_methodNamed B.named, atoms_spec (ws := wd_Sq_count) B.pre, hK, hA, hT, B.notSynchronized, hT.1, hT.2.1, hT.2.2.1, hT.2.2.2.1, hT.2.2.2.2⟩
  have hl := lv_entry ([.ref a_this, .int p0]) (n := 2) (Nat.le_of_ble_eq_true rfl)
  rw [show entryFrame m args 2 = entryFrame m ([.ref a_this, .int p0] : List Value).toArray 2 by rw [hargs], lg_entry_eq]
  exact w_Sq_count cx h _ _ hP hD va_S.rf _ hl
abbrev rm_Sq_clear : Room := { frames := 4, cells := 0, slots := 0, locals := 88 }
abbrev wd_Sq_clear : List Cond := .code y_Sq_clear b_Sq_clear 1 none :: ct_G
def f_Sq_clear (v_numbers : Nat → Int32) (v_table : Nat → Int32) (v_hull_corner : Nat → Int32) (v_hull_outside : Nat → Int32) (v_hull_members : Nat → Int32) (v_pairs_second : Nat → Int32) (v_pairs_cell : Nat → Int32) (v_pairs_power : Nat → Int32) (v_pairs_share : Nat → Int32) (v_pairs_hanging : Nat → Int32) (v_pairs_freePairs : Nat → Int32) : Option (Int32 × (Nat → Int32) × (Nat → Int32) × Int32 × (Nat → Int32) × (Nat → Int32) × (Nat → Int32) × Int32 × Int32 × (Nat → Int32) × (Nat → Int32) × (Nat → Int32) × (Nat → Int32) × (Nat → Int32) × (Nat → Int32)) := ((f_Ar_fill_15 (0 : Int32) v_numbers).bind (fun v_arr_1 => ((f_Sq_startAnew v_arr_1 v_table v_hull_corner v_hull_outside v_hull_members v_pairs_second v_pairs_cell v_pairs_power v_pairs_share v_pairs_hanging v_pairs_freePairs).bind (fun (v_squaresThere_2, v_table_3, v_hull_size_4, v_hull_corner_5, v_hull_outside_6, v_hull_members_7, v_pairs_size_8, v_pairs_freeSize_9, v_pairs_second_10, v_pairs_cell_11, v_pairs_power_12, v_pairs_share_13, v_pairs_hanging_14, v_pairs_freePairs_15) => some (v_squaresThere_2, v_arr_1, v_table_3, v_hull_size_4, v_hull_corner_5, v_hull_outside_6, v_hull_members_7, v_pairs_size_8, v_pairs_freeSize_9, v_pairs_second_10, v_pairs_cell_11, v_pairs_power_12, v_pairs_share_13, v_pairs_hanging_14, v_pairs_freePairs_15)))))
set_option maxHeartbeats 4000000 in
set_option maxRecDepth 100000 in
theorem w_Sq_clear {p : Program} {l : Launch} {e : Env} {s : State} {m : MethodId} {args : Array Value} {below : List Frame} {meth : Method} {c : Code} {D : va_G} {cI cL cZ : ClassId} {tA tB : Nat} {A : Nat → Prop} {a_this a_numbers a_table a_hull a_pairs a_steps a_search a_hull_corner a_hull_outside a_hull_members a_pairs_second a_pairs_cell a_pairs_power a_pairs_share a_pairs_hanging a_pairs_freePairs a_pairs_rest : Nat} {v_unknowns : Int32} {v_squaresThere : Int32} {v_numbers : Nat → Int32} {v_table : Nat → Int32} {v_hull_size : Int32} {v_hull_corner : Nat → Int32} {v_hull_outside : Nat → Int32} {v_hull_members : Nat → Int32} {v_pairs_size : Int32} {v_pairs_freeSize : Int32} {v_pairs_second : Nat → Int32} {v_pairs_cell : Nat → Int32} {v_pairs_power : Nat → Int32} {v_pairs_share : Nat → Int32} {v_pairs_hanging : Nat → Int32} {v_pairs_freePairs : Nat → Int32} {o_v_squaresThere : Int32} {o_v_numbers : Nat → Int32} {o_v_table : Nat → Int32} {o_v_hull_size : Int32} {o_v_hull_corner : Nat → Int32} {o_v_hull_outside : Nat → Int32} {o_v_hull_members : Nat → Int32} {o_v_pairs_size : Int32} {o_v_pairs_freeSize : Int32} {o_v_pairs_second : Nat → Int32} {o_v_pairs_cell : Nat → Int32} {o_v_pairs_power : Nat → Int32} {o_v_pairs_share : Nat → Int32} {o_v_pairs_hanging : Nat → Int32} {o_v_pairs_freePairs : Nat → Int32} (cx : ct_Cx p s m args meth c b_Sq_clear 1 none R_Sq wd_Sq_clear D (ct_tys cI cL cZ) tA tB A) (h : f_Sq_clear v_numbers v_table v_hull_corner v_hull_outside v_hull_members v_pairs_second v_pairs_cell v_pairs_power v_pairs_share v_pairs_hanging v_pairs_freePairs = some (o_v_squaresThere, o_v_numbers, o_v_table, o_v_hull_size, o_v_hull_corner, o_v_hull_outside, o_v_hull_members, o_v_pairs_size, o_v_pairs_freeSize, o_v_pairs_second, o_v_pairs_cell, o_v_pairs_power, o_v_pairs_share, o_v_pairs_hanging, o_v_pairs_freePairs)) : ∀ (H : Heap) (locs : List Loc), va_P D vwCl [(a_this, .inr (4, [.int v_unknowns, .ref a_numbers, .ref a_table, .ref a_hull, .ref a_pairs, .ref a_steps, .ref a_search, .int v_squaresThere])), (a_numbers, .inl (cI, 15, .inl v_numbers)), (a_table, .inl (cI, 36, .inl v_table)), (a_hull, .inr (0, [.ref a_hull_corner, .ref a_hull_outside, .ref a_hull_members, .int v_hull_size])), (a_hull_corner, .inl (cZ, 15, .inl v_hull_corner)), (a_hull_outside, .inl (cZ, 6, .inl v_hull_outside)), (a_hull_members, .inl (cI, 6, .inl v_hull_members)), (a_pairs, .inr (1, [.ref a_pairs_second, .ref a_pairs_cell, .ref a_pairs_power, .ref a_pairs_share, .ref a_pairs_hanging, .ref a_pairs_freePairs, .ref a_pairs_rest, .int v_pairs_size, .int v_pairs_freeSize])), (a_pairs_second, .inl (cI, 21, .inl v_pairs_second)), (a_pairs_cell, .inl (cI, 21, .inl v_pairs_cell)), (a_pairs_power, .inl (cI, 21, .inl v_pairs_power)), (a_pairs_share, .inl (cI, 21, .inl v_pairs_share)), (a_pairs_hanging, .inl (cI, 15, .inl v_pairs_hanging)), (a_pairs_freePairs, .inl (cI, 21, .inl v_pairs_freePairs))] H → va_D A [(a_this, .inr (4, [.int v_unknowns, .ref a_numbers, .ref a_table, .ref a_hull, .ref a_pairs, .ref a_steps, .ref a_search, .int v_squaresThere])), (a_numbers, .inl (cI, 15, .inl v_numbers)), (a_table, .inl (cI, 36, .inl v_table)), (a_hull, .inr (0, [.ref a_hull_corner, .ref a_hull_outside, .ref a_hull_members, .int v_hull_size])), (a_hull_corner, .inl (cZ, 15, .inl v_hull_corner)), (a_hull_outside, .inl (cZ, 6, .inl v_hull_outside)), (a_hull_members, .inl (cI, 6, .inl v_hull_members)), (a_pairs, .inr (1, [.ref a_pairs_second, .ref a_pairs_cell, .ref a_pairs_power, .ref a_pairs_share, .ref a_pairs_hanging, .ref a_pairs_freePairs, .ref a_pairs_rest, .int v_pairs_size, .int v_pairs_freeSize])), (a_pairs_second, .inl (cI, 21, .inl v_pairs_second)), (a_pairs_cell, .inl (cI, 21, .inl v_pairs_cell)), (a_pairs_power, .inl (cI, 21, .inl v_pairs_power)), (a_pairs_share, .inl (cI, 21, .inl v_pairs_share)), (a_pairs_hanging, .inl (cI, 15, .inl v_pairs_hanging)), (a_pairs_freePairs, .inl (cI, 21, .inl v_pairs_freePairs))] → va_S A s.heap H locs → ∀ ls : Array Slot, lv_has ls 1 [(0, .ref a_this)] → W p l e (headSpec wd_Sq_clear rm_Sq_clear).room s m args below meth c H locs 0 0 (MQ below (ct_Qv D [(a_this, .inr (4, [.int v_unknowns, .ref a_numbers, .ref a_table, .ref a_hull, .ref a_pairs, .ref a_steps, .ref a_search, .int o_v_squaresThere])), (a_numbers, .inl (cI, 15, .inl o_v_numbers)), (a_table, .inl (cI, 36, .inl o_v_table)), (a_hull, .inr (0, [.ref a_hull_corner, .ref a_hull_outside, .ref a_hull_members, .int o_v_hull_size])), (a_hull_corner, .inl (cZ, 15, .inl o_v_hull_corner)), (a_hull_outside, .inl (cZ, 6, .inl o_v_hull_outside)), (a_hull_members, .inl (cI, 6, .inl o_v_hull_members)), (a_pairs, .inr (1, [.ref a_pairs_second, .ref a_pairs_cell, .ref a_pairs_power, .ref a_pairs_share, .ref a_pairs_hanging, .ref a_pairs_freePairs, .ref a_pairs_rest, .int o_v_pairs_size, .int o_v_pairs_freeSize])), (a_pairs_second, .inl (cI, 21, .inl o_v_pairs_second)), (a_pairs_cell, .inl (cI, 21, .inl o_v_pairs_cell)), (a_pairs_power, .inl (cI, 21, .inl o_v_pairs_power)), (a_pairs_share, .inl (cI, 21, .inl o_v_pairs_share)), (a_pairs_hanging, .inl (cI, 15, .inl o_v_pairs_hanging)), (a_pairs_freePairs, .inl (cI, 21, .inl o_v_pairs_freePairs))] A) args s 0 0 A) (F0 m 0 ls []) := by
  obtain ⟨hx, hb, hr, hml, hown, hts, hK, hA, hT, hlocks, hZA, hZB, hTA, hTB, hnw⟩ := id cx
  intro H locs hP hD hS ls hl
  rw [f_Sq_clear] at h
  refine lv_aload_n hx hb d_Sq_clear_0 rfl (lv_at hl 0 rfl) ?_
  refine va_get (D := D) (ci := 4) (v := .ref a_numbers) (C := R_Sq) (T := T_Sq) (N := 8) hx hb hts (fun w h9 => ct_in (iw_Sq w h9)) hown hK hP 0 rfl rfl 1 (by decide) (hts _ (ct_in k_112)) (fun _ h9 => h9) rfl d_Sq_clear_1 ?_
  refine lv_iconst (v := 0) hx hb d_Sq_clear_4 (by decide) ?_
  obtain ⟨v_arr_1, ho, h⟩ := Option.bind_eq_some_iff.mp h
  refine ct_callv (wc := [(a_numbers, .inl (cI, 15, .inl v_numbers))]) (wr := [(a_this, .inr (4, [.int v_unknowns, .ref a_numbers, .ref a_table, .ref a_hull, .ref a_pairs, .ref a_steps, .ref a_search, .int v_squaresThere])), (a_table, .inl (cI, 36, .inl v_table)), (a_hull, .inr (0, [.ref a_hull_corner, .ref a_hull_outside, .ref a_hull_members, .int v_hull_size])), (a_hull_corner, .inl (cZ, 15, .inl v_hull_corner)), (a_hull_outside, .inl (cZ, 6, .inl v_hull_outside)), (a_hull_members, .inl (cI, 6, .inl v_hull_members)), (a_pairs, .inr (1, [.ref a_pairs_second, .ref a_pairs_cell, .ref a_pairs_power, .ref a_pairs_share, .ref a_pairs_hanging, .ref a_pairs_freePairs, .ref a_pairs_rest, .int v_pairs_size, .int v_pairs_freeSize])), (a_pairs_second, .inl (cI, 21, .inl v_pairs_second)), (a_pairs_cell, .inl (cI, 21, .inl v_pairs_cell)), (a_pairs_power, .inl (cI, 21, .inl v_pairs_power)), (a_pairs_share, .inl (cI, 21, .inl v_pairs_share)), (a_pairs_hanging, .inl (cI, 15, .inl v_pairs_hanging)), (a_pairs_freePairs, .inl (cI, 21, .inl v_pairs_freePairs))]) (wc' := [(a_numbers, .inl (cI, 15, .inl v_arr_1))]) (ws' := [(a_this, .inr (4, [.int v_unknowns, .ref a_numbers, .ref a_table, .ref a_hull, .ref a_pairs, .ref a_steps, .ref a_search, .int v_squaresThere])), (a_numbers, .inl (cI, 15, .inl v_arr_1)), (a_table, .inl (cI, 36, .inl v_table)), (a_hull, .inr (0, [.ref a_hull_corner, .ref a_hull_outside, .ref a_hull_members, .int v_hull_size])), (a_hull_corner, .inl (cZ, 15, .inl v_hull_corner)), (a_hull_outside, .inl (cZ, 6, .inl v_hull_outside)), (a_hull_members, .inl (cI, 6, .inl v_hull_members)), (a_pairs, .inr (1, [.ref a_pairs_second, .ref a_pairs_cell, .ref a_pairs_power, .ref a_pairs_share, .ref a_pairs_hanging, .ref a_pairs_freePairs, .ref a_pairs_rest, .int v_pairs_size, .int v_pairs_freeSize])), (a_pairs_second, .inl (cI, 21, .inl v_pairs_second)), (a_pairs_cell, .inl (cI, 21, .inl v_pairs_cell)), (a_pairs_power, .inl (cI, 21, .inl v_pairs_power)), (a_pairs_share, .inl (cI, 21, .inl v_pairs_share)), (a_pairs_hanging, .inl (cI, 15, .inl v_pairs_hanging)), (a_pairs_freePairs, .inl (cI, 21, .inl v_pairs_freePairs))]) (va_runS (As := [.ref a_numbers, .int 0]) (rest := []) ⟨hx, hb, hml, hown, hts⟩ (c_Ar_fill_15 l D cI cL cZ tA tB H.size a_numbers (0 : Int32) v_numbers v_arr_1 _ rfl ho) (va_cwS 2 hts (ct_goodS k_114 k_40 k_39 k_38) rfl rfl rfl (by decide +kernel) ⟨Nat.le_of_ble_eq_true rfl, Nat.le_of_ble_eq_true rfl⟩) (ct_preS (wc := [(a_numbers, .inl (cI, 15, .inl v_numbers))]) hP hD hK hS hA hT [1] rfl (by decide)) rfl rfl hl.1 rfl (lv_room (Nat.le_of_ble_eq_true rfl)) d_Sq_clear_5 ⟨Nat.zero_le _, Nat.zero_le _⟩) hP hD hS hA [1] [0, 2, 3, 4, 5, 6, 7, 8, 9, 10, 11, 12, 13] rfl rfl (by decide) (by decide) [0, 13, 1, 2, 3, 4, 5, 6, 7, 8, 9, 10, 11, 12] rfl (by decide) (fun H locs hP hD hS => ?_)
  refine lv_aload_n hx hb d_Sq_clear_8 rfl (lv_at hl 0 rfl) ?_
  obtain ⟨⟨v_squaresThere_2, v_table_3, v_hull_size_4, v_hull_corner_5, v_hull_outside_6, v_hull_members_7, v_pairs_size_8, v_pairs_freeSize_9, v_pairs_second_10, v_pairs_cell_11, v_pairs_power_12, v_pairs_share_13, v_pairs_hanging_14, v_pairs_freePairs_15⟩, ho, h⟩ := Option.bind_eq_some_iff.mp h
  try dsimp only at h
  refine ct_callv (wc := [(a_this, .inr (4, [.int v_unknowns, .ref a_numbers, .ref a_table, .ref a_hull, .ref a_pairs, .ref a_steps, .ref a_search, .int v_squaresThere])), (a_numbers, .inl (cI, 15, .inl v_arr_1)), (a_table, .inl (cI, 36, .inl v_table)), (a_hull, .inr (0, [.ref a_hull_corner, .ref a_hull_outside, .ref a_hull_members, .int v_hull_size])), (a_hull_corner, .inl (cZ, 15, .inl v_hull_corner)), (a_hull_outside, .inl (cZ, 6, .inl v_hull_outside)), (a_hull_members, .inl (cI, 6, .inl v_hull_members)), (a_pairs, .inr (1, [.ref a_pairs_second, .ref a_pairs_cell, .ref a_pairs_power, .ref a_pairs_share, .ref a_pairs_hanging, .ref a_pairs_freePairs, .ref a_pairs_rest, .int v_pairs_size, .int v_pairs_freeSize])), (a_pairs_second, .inl (cI, 21, .inl v_pairs_second)), (a_pairs_cell, .inl (cI, 21, .inl v_pairs_cell)), (a_pairs_power, .inl (cI, 21, .inl v_pairs_power)), (a_pairs_share, .inl (cI, 21, .inl v_pairs_share)), (a_pairs_hanging, .inl (cI, 15, .inl v_pairs_hanging)), (a_pairs_freePairs, .inl (cI, 21, .inl v_pairs_freePairs))]) (wr := []) (wc' := [(a_this, .inr (4, [.int v_unknowns, .ref a_numbers, .ref a_table, .ref a_hull, .ref a_pairs, .ref a_steps, .ref a_search, .int v_squaresThere_2])), (a_numbers, .inl (cI, 15, .inl v_arr_1)), (a_table, .inl (cI, 36, .inl v_table_3)), (a_hull, .inr (0, [.ref a_hull_corner, .ref a_hull_outside, .ref a_hull_members, .int v_hull_size_4])), (a_hull_corner, .inl (cZ, 15, .inl v_hull_corner_5)), (a_hull_outside, .inl (cZ, 6, .inl v_hull_outside_6)), (a_hull_members, .inl (cI, 6, .inl v_hull_members_7)), (a_pairs, .inr (1, [.ref a_pairs_second, .ref a_pairs_cell, .ref a_pairs_power, .ref a_pairs_share, .ref a_pairs_hanging, .ref a_pairs_freePairs, .ref a_pairs_rest, .int v_pairs_size_8, .int v_pairs_freeSize_9])), (a_pairs_second, .inl (cI, 21, .inl v_pairs_second_10)), (a_pairs_cell, .inl (cI, 21, .inl v_pairs_cell_11)), (a_pairs_power, .inl (cI, 21, .inl v_pairs_power_12)), (a_pairs_share, .inl (cI, 21, .inl v_pairs_share_13)), (a_pairs_hanging, .inl (cI, 15, .inl v_pairs_hanging_14)), (a_pairs_freePairs, .inl (cI, 21, .inl v_pairs_freePairs_15))]) (ws' := [(a_this, .inr (4, [.int v_unknowns, .ref a_numbers, .ref a_table, .ref a_hull, .ref a_pairs, .ref a_steps, .ref a_search, .int v_squaresThere_2])), (a_numbers, .inl (cI, 15, .inl v_arr_1)), (a_table, .inl (cI, 36, .inl v_table_3)), (a_hull, .inr (0, [.ref a_hull_corner, .ref a_hull_outside, .ref a_hull_members, .int v_hull_size_4])), (a_hull_corner, .inl (cZ, 15, .inl v_hull_corner_5)), (a_hull_outside, .inl (cZ, 6, .inl v_hull_outside_6)), (a_hull_members, .inl (cI, 6, .inl v_hull_members_7)), (a_pairs, .inr (1, [.ref a_pairs_second, .ref a_pairs_cell, .ref a_pairs_power, .ref a_pairs_share, .ref a_pairs_hanging, .ref a_pairs_freePairs, .ref a_pairs_rest, .int v_pairs_size_8, .int v_pairs_freeSize_9])), (a_pairs_second, .inl (cI, 21, .inl v_pairs_second_10)), (a_pairs_cell, .inl (cI, 21, .inl v_pairs_cell_11)), (a_pairs_power, .inl (cI, 21, .inl v_pairs_power_12)), (a_pairs_share, .inl (cI, 21, .inl v_pairs_share_13)), (a_pairs_hanging, .inl (cI, 15, .inl v_pairs_hanging_14)), (a_pairs_freePairs, .inl (cI, 21, .inl v_pairs_freePairs_15))]) (va_runV (As := []) (rest := []) ⟨hx, hb, hml, hown, hts⟩ (c_Sq_startAnew l D cI cL cZ tA tB H.size a_this a_numbers a_table a_hull a_pairs a_steps a_search a_hull_corner a_hull_outside a_hull_members a_pairs_second a_pairs_cell a_pairs_power a_pairs_share a_pairs_hanging a_pairs_freePairs a_pairs_rest v_unknowns v_squaresThere v_arr_1 v_table v_hull_size v_hull_corner v_hull_outside v_hull_members v_pairs_size v_pairs_freeSize v_pairs_second v_pairs_cell v_pairs_power v_pairs_share v_pairs_hanging v_pairs_freePairs v_squaresThere_2 v_table_3 v_hull_size_4 v_hull_corner_5 v_hull_outside_6 v_hull_members_7 v_pairs_size_8 v_pairs_freeSize_9 v_pairs_second_10 v_pairs_cell_11 v_pairs_power_12 v_pairs_share_13 v_pairs_hanging_14 v_pairs_freePairs_15 _ rfl ho) (cwV 0 hts (ct_goodV k_129 k_127 k_128 k_20 k_126) rfl rfl rfl (by decide +kernel) ⟨Nat.le_of_ble_eq_true rfl, Nat.le_of_ble_eq_true rfl⟩) (ct_preV (wc := [(a_this, .inr (4, [.int v_unknowns, .ref a_numbers, .ref a_table, .ref a_hull, .ref a_pairs, .ref a_steps, .ref a_search, .int v_squaresThere])), (a_numbers, .inl (cI, 15, .inl v_arr_1)), (a_table, .inl (cI, 36, .inl v_table)), (a_hull, .inr (0, [.ref a_hull_corner, .ref a_hull_outside, .ref a_hull_members, .int v_hull_size])), (a_hull_corner, .inl (cZ, 15, .inl v_hull_corner)), (a_hull_outside, .inl (cZ, 6, .inl v_hull_outside)), (a_hull_members, .inl (cI, 6, .inl v_hull_members)), (a_pairs, .inr (1, [.ref a_pairs_second, .ref a_pairs_cell, .ref a_pairs_power, .ref a_pairs_share, .ref a_pairs_hanging, .ref a_pairs_freePairs, .ref a_pairs_rest, .int v_pairs_size, .int v_pairs_freeSize])), (a_pairs_second, .inl (cI, 21, .inl v_pairs_second)), (a_pairs_cell, .inl (cI, 21, .inl v_pairs_cell)), (a_pairs_power, .inl (cI, 21, .inl v_pairs_power)), (a_pairs_share, .inl (cI, 21, .inl v_pairs_share)), (a_pairs_hanging, .inl (cI, 15, .inl v_pairs_hanging)), (a_pairs_freePairs, .inl (cI, 21, .inl v_pairs_freePairs))]) hP hD hK hS hA hT [0, 1, 2, 3, 4, 5, 6, 7, 8, 9, 10, 11, 12, 13] rfl (by decide) (ci := 4) (q0 := 0) rfl rfl) rfl rfl hl.1 rfl (lv_room (Nat.le_of_ble_eq_true rfl)) d_Sq_clear_9 ⟨Nat.zero_le _, Nat.zero_le _⟩) hP hD hS hA [0, 1, 2, 3, 4, 5, 6, 7, 8, 9, 10, 11, 12, 13] [] rfl rfl (by decide) (by decide) [0, 1, 2, 3, 4, 5, 6, 7, 8, 9, 10, 11, 12, 13] rfl (by decide) (fun H locs hP hD hS => ?_)
  cases h
  exact W.vret hx hb hr (fun t ht hW => ⟨⟨(), rfl, trivial, by rw [ht]; exact hP, hD⟩, hS.F ht⟩) hS.2.2 d_Sq_clear_12
set_option maxHeartbeats 4000000 in
set_option maxRecDepth 100000 in
theorem c_Sq_clear (l : Launch) (D : va_G) (cI cL cZ : ClassId) (tA tB sz : Nat) (a_this a_numbers a_table a_hull a_pairs a_steps a_search a_hull_corner a_hull_outside a_hull_members a_pairs_second a_pairs_cell a_pairs_power a_pairs_share a_pairs_hanging a_pairs_freePairs a_pairs_rest : Nat) (v_unknowns : Int32) (v_squaresThere : Int32) (v_numbers : Nat → Int32) (v_table : Nat → Int32) (v_hull_size : Int32) (v_hull_corner : Nat → Int32) (v_hull_outside : Nat → Int32) (v_hull_members : Nat → Int32) (v_pairs_size : Int32) (v_pairs_freeSize : Int32) (v_pairs_second : Nat → Int32) (v_pairs_cell : Nat → Int32) (v_pairs_power : Nat → Int32) (v_pairs_share : Nat → Int32) (v_pairs_hanging : Nat → Int32) (v_pairs_freePairs : Nat → Int32) (o_v_squaresThere : Int32) (o_v_numbers : Nat → Int32) (o_v_table : Nat → Int32) (o_v_hull_size : Int32) (o_v_hull_corner : Nat → Int32) (o_v_hull_outside : Nat → Int32) (o_v_hull_members : Nat → Int32) (o_v_pairs_size : Int32) (o_v_pairs_freeSize : Int32) (o_v_pairs_second : Nat → Int32) (o_v_pairs_cell : Nat → Int32) (o_v_pairs_power : Nat → Int32) (o_v_pairs_share : Nat → Int32) (o_v_pairs_hanging : Nat → Int32) (o_v_pairs_freePairs : Nat → Int32) (A : Nat → Prop) (hAe : A = va_A [(a_this, .inr (4, [.int v_unknowns, .ref a_numbers, .ref a_table, .ref a_hull, .ref a_pairs, .ref a_steps, .ref a_search, .int v_squaresThere])), (a_numbers, .inl (cI, 15, .inl v_numbers)), (a_table, .inl (cI, 36, .inl v_table)), (a_hull, .inr (0, [.ref a_hull_corner, .ref a_hull_outside, .ref a_hull_members, .int v_hull_size])), (a_hull_corner, .inl (cZ, 15, .inl v_hull_corner)), (a_hull_outside, .inl (cZ, 6, .inl v_hull_outside)), (a_hull_members, .inl (cI, 6, .inl v_hull_members)), (a_pairs, .inr (1, [.ref a_pairs_second, .ref a_pairs_cell, .ref a_pairs_power, .ref a_pairs_share, .ref a_pairs_hanging, .ref a_pairs_freePairs, .ref a_pairs_rest, .int v_pairs_size, .int v_pairs_freeSize])), (a_pairs_second, .inl (cI, 21, .inl v_pairs_second)), (a_pairs_cell, .inl (cI, 21, .inl v_pairs_cell)), (a_pairs_power, .inl (cI, 21, .inl v_pairs_power)), (a_pairs_share, .inl (cI, 21, .inl v_pairs_share)), (a_pairs_hanging, .inl (cI, 15, .inl v_pairs_hanging)), (a_pairs_freePairs, .inl (cI, 21, .inl v_pairs_freePairs))] sz) (h : f_Sq_clear v_numbers v_table v_hull_corner v_hull_outside v_hull_members v_pairs_second v_pairs_cell v_pairs_power v_pairs_share v_pairs_hanging v_pairs_freePairs = some (o_v_squaresThere, o_v_numbers, o_v_table, o_v_hull_size, o_v_hull_corner, o_v_hull_outside, o_v_hull_members, o_v_pairs_size, o_v_pairs_freeSize, o_v_pairs_second, o_v_pairs_cell, o_v_pairs_power, o_v_pairs_share, o_v_pairs_hanging, o_v_pairs_freePairs)) : Met l y_Sq_clear wd_Sq_clear rm_Sq_clear (ct_Pre D (ct_tys cI cL cZ) tA tB [(a_this, .inr (4, [.int v_unknowns, .ref a_numbers, .ref a_table, .ref a_hull, .ref a_pairs, .ref a_steps, .ref a_search, .int v_squaresThere])), (a_numbers, .inl (cI, 15, .inl v_numbers)), (a_table, .inl (cI, 36, .inl v_table)), (a_hull, .inr (0, [.ref a_hull_corner, .ref a_hull_outside, .ref a_hull_members, .int v_hull_size])), (a_hull_corner, .inl (cZ, 15, .inl v_hull_corner)), (a_hull_outside, .inl (cZ, 6, .inl v_hull_outside)), (a_hull_members, .inl (cI, 6, .inl v_hull_members)), (a_pairs, .inr (1, [.ref a_pairs_second, .ref a_pairs_cell, .ref a_pairs_power, .ref a_pairs_share, .ref a_pairs_hanging, .ref a_pairs_freePairs, .ref a_pairs_rest, .int v_pairs_size, .int v_pairs_freeSize])), (a_pairs_second, .inl (cI, 21, .inl v_pairs_second)), (a_pairs_cell, .inl (cI, 21, .inl v_pairs_cell)), (a_pairs_power, .inl (cI, 21, .inl v_pairs_power)), (a_pairs_share, .inl (cI, 21, .inl v_pairs_share)), (a_pairs_hanging, .inl (cI, 15, .inl v_pairs_hanging)), (a_pairs_freePairs, .inl (cI, 21, .inl v_pairs_freePairs))] sz [.ref a_this]) (ct_Qv D [(a_this, .inr (4, [.int v_unknowns, .ref a_numbers, .ref a_table, .ref a_hull, .ref a_pairs, .ref a_steps, .ref a_search, .int o_v_squaresThere])), (a_numbers, .inl (cI, 15, .inl o_v_numbers)), (a_table, .inl (cI, 36, .inl o_v_table)), (a_hull, .inr (0, [.ref a_hull_corner, .ref a_hull_outside, .ref a_hull_members, .int o_v_hull_size])), (a_hull_corner, .inl (cZ, 15, .inl o_v_hull_corner)), (a_hull_outside, .inl (cZ, 6, .inl o_v_hull_outside)), (a_hull_members, .inl (cI, 6, .inl o_v_hull_members)), (a_pairs, .inr (1, [.ref a_pairs_second, .ref a_pairs_cell, .ref a_pairs_power, .ref a_pairs_share, .ref a_pairs_hanging, .ref a_pairs_freePairs, .ref a_pairs_rest, .int o_v_pairs_size, .int o_v_pairs_freeSize])), (a_pairs_second, .inl (cI, 21, .inl o_v_pairs_second)), (a_pairs_cell, .inl (cI, 21, .inl o_v_pairs_cell)), (a_pairs_power, .inl (cI, 21, .inl o_v_pairs_power)), (a_pairs_share, .inl (cI, 21, .inl o_v_pairs_share)), (a_pairs_hanging, .inl (cI, 15, .inl o_v_pairs_hanging)), (a_pairs_freePairs, .inl (cI, 21, .inl o_v_pairs_freePairs))] A) 0 0 A := by
  refine Met.ofW (cc := b_Sq_clear) (maxL := 1) (ret := none) (by decide) rfl ?_
  intro p e s m args below meth c s₁ B hml hv
  obtain ⟨hargs, hsz, hP, hK, hD0, hT⟩ := hv
  subst hsz
  have hD := hD0.self (sz := s.heap.size)
  rw [← hAe] at hD hT
  have hA : ∀ q : Nat, s.heap.size ≤ q → A q := fun q h => by rw [hAe]; exact Or.inr h
  clear hAe
  have cx : ct_Cx p s m args meth c b_Sq_clear 1 none R_Sq wd_Sq_clear D (ct_tys cI cL cZ) tA tB A := ⟨B.exec, B.bytes, B.returns, hml, findClass_of_methodNamed B.named, atoms_spec (ws := wd_Sq_clear) B.pre, hK, hA, hT, B.notSynchronized, hT.1, hT.2.1, hT.2.2.1, hT.2.2.2.1, hT.2.2.2.2⟩
  have hl := lv_entry ([.ref a_this]) (n := 1) (Nat.le_of_ble_eq_true rfl)
  rw [show entryFrame m args 1 = entryFrame m ([.ref a_this] : List Value).toArray 1 by rw [hargs], lg_entry_eq]
  exact w_Sq_clear cx h _ _ hP hD va_S.rf _ hl
