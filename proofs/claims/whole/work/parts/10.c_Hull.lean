abbrev rm_Hull_forget : Room := { frames := 0, cells := 0, slots := 0, locals := 0 }
abbrev wd_Hull_forget : List Cond := .code y_Hull_forget b_Hull_forget 2 none :: ct_G
def f_Hull_forget_L2  : Nat → Int32 → (Nat → Int32) → ((Nat → Int32) → Option ((Nat → Int32) × (Nat → Int32))) → Option ((Nat → Int32) × (Nat → Int32))
  | 0, _, _, _ => none
  | n + 1, x1, v_corner, k => (if 15 ≤ x1 then (k v_corner) else (if x1 < 0 ∨ 15 ≤ x1.toNatClampNeg then none else (f_Hull_forget_L2 n (x1 + 1) (upd v_corner x1.toNatClampNeg (vp_nar .boolean 0)) k)))
def f_Hull_forget_L23  : Nat → Int32 → (Nat → Int32) → ((Nat → Int32) → Option ((Nat → Int32) × (Nat → Int32))) → Option ((Nat → Int32) × (Nat → Int32))
  | 0, _, _, _ => none
  | n + 1, x1, v_outside, k => (if 6 ≤ x1 then (k v_outside) else (if x1 < 0 ∨ 6 ≤ x1.toNatClampNeg then none else (f_Hull_forget_L23 n (x1 + 1) (upd v_outside x1.toNatClampNeg (vp_nar .boolean 0)) k)))
def f_Hull_forget (v_corner : Nat → Int32) (v_outside : Nat → Int32) : Option ((Nat → Int32) × (Nat → Int32)) := (f_Hull_forget_L2 40 0 v_corner (fun (v_corner_1 : Nat → Int32) => (f_Hull_forget_L23 40 0 v_outside (fun (v_outside_2 : Nat → Int32) => some (v_corner_1, v_outside_2)))))
set_option maxHeartbeats 4000000 in
set_option maxRecDepth 100000 in
theorem w_Hull_forget_L2 {p : Program} {l : Launch} {e : Env} {s : State} {m : MethodId} {args : Array Value} {below : List Frame} {meth : Method} {c : Code} {D : va_G} {cI cL cZ : ClassId} {tA tB : Nat} {A : Nat → Prop} {Q : State → Prop} {a_this a_corner a_outside a_members : Nat} {v_size : Int32} {v_outside : Nat → Int32} {o_v_corner : Nat → Int32} {o_v_outside : Nat → Int32} (cx : ct_Cx p s m args meth c b_Hull_forget 2 none R_Hull wd_Hull_forget D (ct_tys cI cL cZ) tA tB A) : ∀ (n : Nat) (x1 : Int32) (v_corner : Nat → Int32) (k : ((Nat → Int32) → Option ((Nat → Int32) × (Nat → Int32)))), f_Hull_forget_L2 n x1 v_corner k = some (o_v_corner, o_v_outside) → (∀ (v_corner : Nat → Int32), k v_corner = some (o_v_corner, o_v_outside) → ∀ (H : Heap) (locs : List Loc), va_P D vwCl [(a_this, .inr (0, [.ref a_corner, .ref a_outside, .ref a_members, .int v_size])), (a_corner, .inl (cZ, 15, .inl v_corner)), (a_outside, .inl (cZ, 6, .inl v_outside))] H → va_D A [(a_this, .inr (0, [.ref a_corner, .ref a_outside, .ref a_members, .int v_size])), (a_corner, .inl (cZ, 15, .inl v_corner)), (a_outside, .inl (cZ, 6, .inl v_outside))] → va_S A s.heap H locs → ∀ ls : Array Slot, lv_has ls 2 [(0, .ref a_this)] → W p l e (headSpec wd_Hull_forget rm_Hull_forget).room s m args below meth c H locs 0 0 Q (F0 m 21 ls [])) → ∀ (H : Heap) (locs : List Loc), va_P D vwCl [(a_this, .inr (0, [.ref a_corner, .ref a_outside, .ref a_members, .int v_size])), (a_corner, .inl (cZ, 15, .inl v_corner)), (a_outside, .inl (cZ, 6, .inl v_outside))] H → va_D A [(a_this, .inr (0, [.ref a_corner, .ref a_outside, .ref a_members, .int v_size])), (a_corner, .inl (cZ, 15, .inl v_corner)), (a_outside, .inl (cZ, 6, .inl v_outside))] → va_S A s.heap H locs → ∀ ls : Array Slot, lv_has ls 2 [(1, .int x1), (0, .ref a_this)] → W p l e (headSpec wd_Hull_forget rm_Hull_forget).room s m args below meth c H locs 0 0 Q (F0 m 2 ls []) := by
  obtain ⟨hx, hb, hr, hml, hown, hts, hK, hA, hT, hlocks, hZA, hZB, hTA, hTB, hnw⟩ := id cx
  intro n
  induction n with
  | zero => intro x1 v_corner k h; rw [f_Hull_forget_L2] at h; cases h
  | succ n ih =>
    intro x1 v_corner k h hk H locs hP hD hS ls hl
    rw [f_Hull_forget_L2] at h
    refine lv_iload_n hx hb d_Hull_forget_2 rfl (lv_at hl 0 rfl) ?_
    refine lv_bipush (v := 15) hx hb d_Hull_forget_3 (by decide) ?_
    refine lv_icmp_ge (tgt := 21) hx hb d_Hull_forget_5 (by decide) (fun hc => ?_) (fun hc => ?_)
    · rw [if_pos hc] at h
      exact hk _ h _ _ hP hD hS ls (lv_sub hl [1] rfl)
    · rw [if_neg hc] at h
      refine lv_aload_n hx hb d_Hull_forget_8 rfl (lv_at hl 1 rfl) ?_
      refine va_get (D := D) (ci := 0) (v := .ref a_corner) (C := R_Hull) (T := T_Hull) (N := 4) hx hb hts (fun w h9 => ct_in (iw_Hull w h9)) hown hK hP 0 rfl rfl 0 (by decide) (hts _ (ct_in k_0)) (fun _ h9 => h9) rfl d_Hull_forget_9 ?_
      refine lv_iload_n hx hb d_Hull_forget_12 rfl (lv_at hl 0 rfl) ?_
      refine lv_iconst (v := 0) hx hb d_Hull_forget_13 (by decide) ?_
      obtain ⟨hin, h⟩ := ct_chk h
      refine va_zast hx hb hK hP hD hS 1 2 rfl rfl hin d_Hull_forget_14 (fun H locs hP hD hS => ?_)
      have hP : va_P D vwCl [(a_this, .inr (0, [.ref a_corner, .ref a_outside, .ref a_members, .int v_size])), (a_corner, .inl (cZ, 15, .inl (upd v_corner x1.toNatClampNeg (vp_nar .boolean 0)))), (a_outside, .inl (cZ, 6, .inl v_outside))] H := hP
      have hD : va_D A [(a_this, .inr (0, [.ref a_corner, .ref a_outside, .ref a_members, .int v_size])), (a_corner, .inl (cZ, 15, .inl (upd v_corner x1.toNatClampNeg (vp_nar .boolean 0)))), (a_outside, .inl (cZ, 6, .inl v_outside))] := hD
      refine lv_iinc (v := (x1 + 1)) (lv' := [(1, .int (x1 + 1)), (0, .ref a_this)]) hx hb d_Hull_forget_15 hl (k := 0) rfl rfl (by decide) rfl (fun ls hl => ?_)
      refine lv_goto (tgt := 2) hx hb d_Hull_forget_18 (by decide) ?_
      exact ih _ _ k h hk _ _ hP hD hS ls (lv_sub hl [0, 1] rfl)
set_option maxHeartbeats 4000000 in
set_option maxRecDepth 100000 in
theorem w_Hull_forget_L23 {p : Program} {l : Launch} {e : Env} {s : State} {m : MethodId} {args : Array Value} {below : List Frame} {meth : Method} {c : Code} {D : va_G} {cI cL cZ : ClassId} {tA tB : Nat} {A : Nat → Prop} {Q : State → Prop} {a_this a_corner a_outside a_members : Nat} {v_size : Int32} {v_corner : Nat → Int32} {o_v_corner : Nat → Int32} {o_v_outside : Nat → Int32} (cx : ct_Cx p s m args meth c b_Hull_forget 2 none R_Hull wd_Hull_forget D (ct_tys cI cL cZ) tA tB A) : ∀ (n : Nat) (x1 : Int32) (v_outside : Nat → Int32) (k : ((Nat → Int32) → Option ((Nat → Int32) × (Nat → Int32)))), f_Hull_forget_L23 n x1 v_outside k = some (o_v_corner, o_v_outside) → (∀ (v_outside : Nat → Int32), k v_outside = some (o_v_corner, o_v_outside) → ∀ (H : Heap) (locs : List Loc), va_P D vwCl [(a_this, .inr (0, [.ref a_corner, .ref a_outside, .ref a_members, .int v_size])), (a_corner, .inl (cZ, 15, .inl v_corner)), (a_outside, .inl (cZ, 6, .inl v_outside))] H → va_D A [(a_this, .inr (0, [.ref a_corner, .ref a_outside, .ref a_members, .int v_size])), (a_corner, .inl (cZ, 15, .inl v_corner)), (a_outside, .inl (cZ, 6, .inl v_outside))] → va_S A s.heap H locs → ∀ ls : Array Slot, lv_has ls 2 [] → W p l e (headSpec wd_Hull_forget rm_Hull_forget).room s m args below meth c H locs 0 0 Q (F0 m 42 ls [])) → ∀ (H : Heap) (locs : List Loc), va_P D vwCl [(a_this, .inr (0, [.ref a_corner, .ref a_outside, .ref a_members, .int v_size])), (a_corner, .inl (cZ, 15, .inl v_corner)), (a_outside, .inl (cZ, 6, .inl v_outside))] H → va_D A [(a_this, .inr (0, [.ref a_corner, .ref a_outside, .ref a_members, .int v_size])), (a_corner, .inl (cZ, 15, .inl v_corner)), (a_outside, .inl (cZ, 6, .inl v_outside))] → va_S A s.heap H locs → ∀ ls : Array Slot, lv_has ls 2 [(1, .int x1), (0, .ref a_this)] → W p l e (headSpec wd_Hull_forget rm_Hull_forget).room s m args below meth c H locs 0 0 Q (F0 m 23 ls []) := by
  obtain ⟨hx, hb, hr, hml, hown, hts, hK, hA, hT, hlocks, hZA, hZB, hTA, hTB, hnw⟩ := id cx
  intro n
  induction n with
  | zero => intro x1 v_outside k h; rw [f_Hull_forget_L23] at h; cases h
  | succ n ih =>
    intro x1 v_outside k h hk H locs hP hD hS ls hl
    rw [f_Hull_forget_L23] at h
    refine lv_iload_n hx hb d_Hull_forget_23 rfl (lv_at hl 0 rfl) ?_
    refine lv_bipush (v := 6) hx hb d_Hull_forget_24 (by decide) ?_
    refine lv_icmp_ge (tgt := 42) hx hb d_Hull_forget_26 (by decide) (fun hc => ?_) (fun hc => ?_)
    · rw [if_pos hc] at h
      exact hk _ h _ _ hP hD hS ls (lv_sub hl [] rfl)
    · rw [if_neg hc] at h
      refine lv_aload_n hx hb d_Hull_forget_29 rfl (lv_at hl 1 rfl) ?_
      refine va_get (D := D) (ci := 0) (v := .ref a_outside) (C := R_Hull) (T := T_Hull) (N := 4) hx hb hts (fun w h9 => ct_in (iw_Hull w h9)) hown hK hP 0 rfl rfl 1 (by decide) (hts _ (ct_in k_1)) (fun _ h9 => h9) rfl d_Hull_forget_30 ?_
      refine lv_iload_n hx hb d_Hull_forget_33 rfl (lv_at hl 0 rfl) ?_
      refine lv_iconst (v := 0) hx hb d_Hull_forget_34 (by decide) ?_
      obtain ⟨hin, h⟩ := ct_chk h
      refine va_zast hx hb hK hP hD hS 2 2 rfl rfl hin d_Hull_forget_35 (fun H locs hP hD hS => ?_)
      have hP : va_P D vwCl [(a_this, .inr (0, [.ref a_corner, .ref a_outside, .ref a_members, .int v_size])), (a_corner, .inl (cZ, 15, .inl v_corner)), (a_outside, .inl (cZ, 6, .inl (upd v_outside x1.toNatClampNeg (vp_nar .boolean 0))))] H := hP
      have hD : va_D A [(a_this, .inr (0, [.ref a_corner, .ref a_outside, .ref a_members, .int v_size])), (a_corner, .inl (cZ, 15, .inl v_corner)), (a_outside, .inl (cZ, 6, .inl (upd v_outside x1.toNatClampNeg (vp_nar .boolean 0))))] := hD
      refine lv_iinc (v := (x1 + 1)) (lv' := [(1, .int (x1 + 1)), (0, .ref a_this)]) hx hb d_Hull_forget_36 hl (k := 0) rfl rfl (by decide) rfl (fun ls hl => ?_)
      refine lv_goto (tgt := 23) hx hb d_Hull_forget_39 (by decide) ?_
      exact ih _ _ k h hk _ _ hP hD hS ls (lv_sub hl [0, 1] rfl)
set_option maxHeartbeats 4000000 in
set_option maxRecDepth 100000 in
theorem w_Hull_forget {p : Program} {l : Launch} {e : Env} {s : State} {m : MethodId} {args : Array Value} {below : List Frame} {meth : Method} {c : Code} {D : va_G} {cI cL cZ : ClassId} {tA tB : Nat} {A : Nat → Prop} {a_this a_corner a_outside a_members : Nat} {v_size : Int32} {v_corner : Nat → Int32} {v_outside : Nat → Int32} {o_v_corner : Nat → Int32} {o_v_outside : Nat → Int32} (cx : ct_Cx p s m args meth c b_Hull_forget 2 none R_Hull wd_Hull_forget D (ct_tys cI cL cZ) tA tB A) (h : f_Hull_forget v_corner v_outside = some (o_v_corner, o_v_outside)) : ∀ (H : Heap) (locs : List Loc), va_P D vwCl [(a_this, .inr (0, [.ref a_corner, .ref a_outside, .ref a_members, .int v_size])), (a_corner, .inl (cZ, 15, .inl v_corner)), (a_outside, .inl (cZ, 6, .inl v_outside))] H → va_D A [(a_this, .inr (0, [.ref a_corner, .ref a_outside, .ref a_members, .int v_size])), (a_corner, .inl (cZ, 15, .inl v_corner)), (a_outside, .inl (cZ, 6, .inl v_outside))] → va_S A s.heap H locs → ∀ ls : Array Slot, lv_has ls 2 [(0, .ref a_this)] → W p l e (headSpec wd_Hull_forget rm_Hull_forget).room s m args below meth c H locs 0 0 (MQ below (ct_Qv D [(a_this, .inr (0, [.ref a_corner, .ref a_outside, .ref a_members, .int v_size])), (a_corner, .inl (cZ, 15, .inl o_v_corner)), (a_outside, .inl (cZ, 6, .inl o_v_outside))] A) args s 0 0 A) (F0 m 0 ls []) := by
  obtain ⟨hx, hb, hr, hml, hown, hts, hK, hA, hT, hlocks, hZA, hZB, hTA, hTB, hnw⟩ := id cx
  intro H locs hP hD hS ls hl
  rw [f_Hull_forget] at h
  refine lv_iconst (v := 0) hx hb d_Hull_forget_0 (by decide) ?_
  refine lv_istore_n (lv' := [(1, .int 0), (0, .ref a_this)]) hx hb d_Hull_forget_1 rfl hl (by decide) rfl (fun ls hl => ?_)
  refine w_Hull_forget_L2 cx _ _ _ _ h (fun v_corner_1 h H locs hP hD hS ls hl => ?_) _ _ hP hD hS ls (lv_sub hl [0, 1] rfl)
  try dsimp only at h
  refine lv_iconst (v := 0) hx hb d_Hull_forget_21 (by decide) ?_
  refine lv_istore_n (lv' := [(1, .int 0), (0, .ref a_this)]) hx hb d_Hull_forget_22 rfl hl (by decide) rfl (fun ls hl => ?_)
  refine w_Hull_forget_L23 cx _ _ _ _ h (fun v_outside_2 h H locs hP hD hS ls hl => ?_) _ _ hP hD hS ls (lv_sub hl [0, 1] rfl)
  try dsimp only at h
  cases h
  exact W.vret hx hb hr (fun t ht hW => ⟨⟨(), rfl, trivial, by rw [ht]; exact hP, hD⟩, hS.F ht⟩) hS.2.2 d_Hull_forget_42
set_option maxHeartbeats 4000000 in
set_option maxRecDepth 100000 in
theorem c_Hull_forget (l : Launch) (D : va_G) (cI cL cZ : ClassId) (tA tB sz : Nat) (a_this a_corner a_outside a_members : Nat) (v_size : Int32) (v_corner : Nat → Int32) (v_outside : Nat → Int32) (o_v_corner : Nat → Int32) (o_v_outside : Nat → Int32) (A : Nat → Prop) (hAe : A = va_A [(a_this, .inr (0, [.ref a_corner, .ref a_outside, .ref a_members, .int v_size])), (a_corner, .inl (cZ, 15, .inl v_corner)), (a_outside, .inl (cZ, 6, .inl v_outside))] sz) (h : f_Hull_forget v_corner v_outside = some (o_v_corner, o_v_outside)) : Met l y_Hull_forget wd_Hull_forget rm_Hull_forget (ct_Pre D (ct_tys cI cL cZ) tA tB [(a_this, .inr (0, [.ref a_corner, .ref a_outside, .ref a_members, .int v_size])), (a_corner, .inl (cZ, 15, .inl v_corner)), (a_outside, .inl (cZ, 6, .inl v_outside))] sz [.ref a_this]) (ct_Qv D [(a_this, .inr (0, [.ref a_corner, .ref a_outside, .ref a_members, .int v_size])), (a_corner, .inl (cZ, 15, .inl o_v_corner)), (a_outside, .inl (cZ, 6, .inl o_v_outside))] A) 0 0 A := by
  refine Met.ofW (cc := b_Hull_forget) (maxL := 2) (ret := none) (by decide) rfl ?_
  intro p e s m args below meth c s₁ B hml hv
  obtain ⟨hargs, hsz, hP, hK, hD0, hT⟩ := hv
  subst hsz
  have hD := hD0.self (sz := s.heap.size)
  rw [← hAe] at hD hT
  have hA : ∀ q : Nat, s.heap.size ≤ q → A q := fun q h => by rw [hAe]; exact Or.inr h
  clear hAe
  have cx : ct_Cx p s m args meth c b_Hull_forget 2 none R_Hull wd_Hull_forget D (ct_tys cI cL cZ) tA tB A := ⟨B.exec, B.bytes, B.returns, hml, findClass_of_methodNamed B.named, atoms_spec (ws := wd_Hull_forget) B.pre, hK, hA, hT, B.notSynchronized, hT.1, hT.2.1, hT.2.2.1, hT.2.2.2.1, hT.2.2.2.2⟩
  have hl := lv_entry ([.ref a_this]) (n := 2) (Nat.le_of_ble_eq_true rfl)
  rw [show entryFrame m args 2 = entryFrame m ([.ref a_this] : List Value).toArray 2 by rw [hargs], lg_entry_eq]
  exact w_Hull_forget cx h _ _ hP hD va_S.rf _ hl
abbrev rm_Hull_lookAlong : Room := { frames := 0, cells := 0, slots := 0, locals := 0 }
abbrev wd_Hull_lookAlong : List Cond := .code y_Hull_lookAlong b_Hull_lookAlong 9 none :: ct_G
def f_Hull_lookAlong_L12 (x1 : Int32) (x2 : Int32) (v_numbers : Nat → Int32) : Nat → Int32 → Int32 → Int32 → Int32 → (Int32 → Int32 → Int32 → Option ((Nat → Int32) × (Nat → Int32))) → Option ((Nat → Int32) × (Nat → Int32))
  | 0, _, _, _, _, _ => none
  | n + 1, x7, x6, x5, x4, k => (if 15 ≤ x7 then (k x6 x5 x4) else (if x7 < 0 ∨ 15 ≤ x7.toNatClampNeg then none else (if (v_numbers x7.toNatClampNeg) = 0 then (f_Hull_lookAlong_L12 x1 x2 v_numbers n (x7 + 1) x6 x5 x4 k) else (if x7 < 0 ∨ 15 ≤ x7.toNatClampNeg then none else (if x7 < 0 ∨ 15 ≤ x7.toNatClampNeg then none else (if x4 = (-1) then (f_Hull_lookAlong_L12 x1 x2 v_numbers n (x7 + 1) 1 ((x1 * (pwA x7.toNatClampNeg)) + (x2 * (pwB x7.toNatClampNeg))) x7 k) else (if ((x1 * (pwA x7.toNatClampNeg)) + (x2 * (pwB x7.toNatClampNeg))) ≤ x5 then (if ((x1 * (pwA x7.toNatClampNeg)) + (x2 * (pwB x7.toNatClampNeg))) = x5 then (f_Hull_lookAlong_L12 x1 x2 v_numbers n (x7 + 1) 0 x5 x4 k) else (f_Hull_lookAlong_L12 x1 x2 v_numbers n (x7 + 1) x6 x5 x4 k)) else (f_Hull_lookAlong_L12 x1 x2 v_numbers n (x7 + 1) 1 ((x1 * (pwA x7.toNatClampNeg)) + (x2 * (pwB x7.toNatClampNeg))) x7 k))))))))
def f_Hull_lookAlong_L107 (x5 : Int32) (x4 : Int32) (x1 : Int32) (x2 : Int32) : Nat → Int32 → (Nat → Int32) → ((Nat → Int32) → Option ((Nat → Int32) × (Nat → Int32))) → Option ((Nat → Int32) × (Nat → Int32))
  | 0, _, _, _ => none
  | n + 1, x7, v_outside, k => (if 6 ≤ x7 then (k v_outside) else (if x4 = (-1) then (if x7 < 0 ∨ 6 ≤ x7.toNatClampNeg then none else (f_Hull_lookAlong_L107 x5 x4 x1 x2 n (x7 + 1) (upd v_outside x7.toNatClampNeg (vp_nar .boolean 1)) k)) else (if x7 < 0 ∨ 15 ≤ x7.toNatClampNeg then none else (if x7 < 0 ∨ 15 ≤ x7.toNatClampNeg then none else (if (2 * ((x1 * (pwA x7.toNatClampNeg)) + (x2 * (pwB x7.toNatClampNeg)))) ≤ x5 then (f_Hull_lookAlong_L107 x5 x4 x1 x2 n (x7 + 1) v_outside k) else (if x7 < 0 ∨ 6 ≤ x7.toNatClampNeg then none else (f_Hull_lookAlong_L107 x5 x4 x1 x2 n (x7 + 1) (upd v_outside x7.toNatClampNeg (vp_nar .boolean 1)) k)))))))
def f_Hull_lookAlong (u : Int32) (v : Int32) (v_corner : Nat → Int32) (v_outside : Nat → Int32) (v_numbers : Nat → Int32) : Option ((Nat → Int32) × (Nat → Int32)) := (f_Hull_lookAlong_L12 u v v_numbers 40 0 0 0 (-1) (fun (y6_31 : Int32) (y5_32 : Int32) (y4_33 : Int32) => (if y6_31 = 0 then (f_Hull_lookAlong_L107 y5_32 y4_33 u v 40 0 v_outside (fun (v_outside_41 : Nat → Int32) => some (v_corner, v_outside_41))) else (if y4_33 < 0 ∨ 15 ≤ y4_33.toNatClampNeg then none else (f_Hull_lookAlong_L107 y5_32 y4_33 u v 40 0 v_outside (fun (v_outside_48 : Nat → Int32) => some ((upd v_corner y4_33.toNatClampNeg (vp_nar .boolean 1)), v_outside_48)))))))
set_option maxHeartbeats 4000000 in
set_option maxRecDepth 100000 in
theorem w_Hull_lookAlong_L12 {p : Program} {l : Launch} {e : Env} {s : State} {m : MethodId} {args : Array Value} {below : List Frame} {meth : Method} {c : Code} {D : va_G} {cI cL cZ : ClassId} {tA tB : Nat} {A : Nat → Prop} {Q : State → Prop} {a_this a_corner a_outside a_members a_numbers : Nat} {x1 : Int32} {x2 : Int32} {v_size : Int32} {v_corner : Nat → Int32} {v_outside : Nat → Int32} {v_numbers : Nat → Int32} {o_v_corner : Nat → Int32} {o_v_outside : Nat → Int32} (cx : ct_Cx p s m args meth c b_Hull_lookAlong 9 none R_Hull wd_Hull_lookAlong D (ct_tys cI cL cZ) tA tB A) : ∀ (n : Nat) (x7 : Int32) (x6 : Int32) (x5 : Int32) (x4 : Int32) (k : (Int32 → Int32 → Int32 → Option ((Nat → Int32) × (Nat → Int32)))), f_Hull_lookAlong_L12 x1 x2 v_numbers n x7 x6 x5 x4 k = some (o_v_corner, o_v_outside) → (∀ (x6 : Int32) (x5 : Int32) (x4 : Int32), k x6 x5 x4 = some (o_v_corner, o_v_outside) → ∀ (H : Heap) (locs : List Loc), va_P D vwCl [(a_this, .inr (0, [.ref a_corner, .ref a_outside, .ref a_members, .int v_size])), (a_corner, .inl (cZ, 15, .inl v_corner)), (a_outside, .inl (cZ, 6, .inl v_outside)), (a_numbers, .inl (cI, 15, .inl v_numbers))] H → va_D A [(a_this, .inr (0, [.ref a_corner, .ref a_outside, .ref a_members, .int v_size])), (a_corner, .inl (cZ, 15, .inl v_corner)), (a_outside, .inl (cZ, 6, .inl v_outside)), (a_numbers, .inl (cI, 15, .inl v_numbers))] → va_S A s.heap H locs → ∀ ls : Array Slot, lv_has ls 9 [(6, .int x6), (5, .int x5), (4, .int x4), (0, .ref a_this), (1, .int x1), (2, .int x2)] → W p l e (headSpec wd_Hull_lookAlong rm_Hull_lookAlong).room s m args below meth c H locs 0 0 Q (F0 m 91 ls [])) → ∀ (H : Heap) (locs : List Loc), va_P D vwCl [(a_this, .inr (0, [.ref a_corner, .ref a_outside, .ref a_members, .int v_size])), (a_corner, .inl (cZ, 15, .inl v_corner)), (a_outside, .inl (cZ, 6, .inl v_outside)), (a_numbers, .inl (cI, 15, .inl v_numbers))] H → va_D A [(a_this, .inr (0, [.ref a_corner, .ref a_outside, .ref a_members, .int v_size])), (a_corner, .inl (cZ, 15, .inl v_corner)), (a_outside, .inl (cZ, 6, .inl v_outside)), (a_numbers, .inl (cI, 15, .inl v_numbers))] → va_S A s.heap H locs → ∀ ls : Array Slot, lv_has ls 9 [(7, .int x7), (6, .int x6), (5, .int x5), (4, .int x4), (0, .ref a_this), (1, .int x1), (2, .int x2), (3, .ref a_numbers)] → W p l e (headSpec wd_Hull_lookAlong rm_Hull_lookAlong).room s m args below meth c H locs 0 0 Q (F0 m 12 ls []) := by
  obtain ⟨hx, hb, hr, hml, hown, hts, hK, hA, hT, hlocks, hZA, hZB, hTA, hTB, hnw⟩ := id cx
  intro n
  induction n with
  | zero => intro x7 x6 x5 x4 k h; rw [f_Hull_lookAlong_L12] at h; cases h
  | succ n ih =>
    intro x7 x6 x5 x4 k h hk H locs hP hD hS ls hl
    rw [f_Hull_lookAlong_L12] at h
    refine lv_iload hx hb d_Hull_lookAlong_12 (lv_at hl 0 rfl) ?_
    refine lv_bipush (v := 15) hx hb d_Hull_lookAlong_14 (by decide) ?_
    refine lv_icmp_ge (tgt := 91) hx hb d_Hull_lookAlong_16 (by decide) (fun hc => ?_) (fun hc => ?_)
    · rw [if_pos hc] at h
      exact hk _ _ _ h _ _ hP hD hS ls (lv_sub hl [1, 2, 3, 4, 5, 6] rfl)
    · rw [if_neg hc] at h
      refine lv_aload_n hx hb d_Hull_lookAlong_19 rfl (lv_at hl 7 rfl) ?_
      refine lv_iload hx hb d_Hull_lookAlong_20 (lv_at hl 0 rfl) ?_
      obtain ⟨hin, h⟩ := ct_chk h
      refine va_iald hx hb hK hP 3 0 rfl rfl hin d_Hull_lookAlong_22 ?_
      refine lv_if_ne (tgt := 29) hx hb d_Hull_lookAlong_23 (by decide) (fun hc => ?_) (fun hc => ?_)
      · rw [if_neg hc] at h
        refine lv_iload_n hx hb d_Hull_lookAlong_29 rfl (lv_at hl 5 rfl) ?_
        refine va_getsN hx hb hZA hS hown (ct_nest_use n_0 hnw) (fun _ h9 => h9) d_Hull_lookAlong_30 ?_
        refine lv_iload hx hb d_Hull_lookAlong_33 (lv_at hl 0 rfl) ?_
        obtain ⟨hin, h⟩ := ct_chk h
        refine va_ti hx hb hTA hS hin (v := .int (pwA x7.toNatClampNeg)) rfl d_Hull_lookAlong_35 ?_
        refine lv_imul hx hb d_Hull_lookAlong_36 ?_
        refine lv_iload_n hx hb d_Hull_lookAlong_37 rfl (lv_at hl 6 rfl) ?_
        refine va_getsN hx hb hZB hS hown (ct_nest_use n_1 hnw) (fun _ h9 => h9) d_Hull_lookAlong_38 ?_
        refine lv_iload hx hb d_Hull_lookAlong_41 (lv_at hl 0 rfl) ?_
        obtain ⟨hin, h⟩ := ct_chk h
        refine va_ti hx hb hTB hS hin (v := .int (pwB x7.toNatClampNeg)) rfl d_Hull_lookAlong_43 ?_
        refine lv_imul hx hb d_Hull_lookAlong_44 ?_
        refine lv_iadd hx hb d_Hull_lookAlong_45 ?_
        refine lv_istore (lv' := [(8, .int ((x1 * (pwA x7.toNatClampNeg)) + (x2 * (pwB x7.toNatClampNeg)))), (7, .int x7), (6, .int x6), (5, .int x5), (4, .int x4), (0, .ref a_this), (1, .int x1), (2, .int x2), (3, .ref a_numbers)]) hx hb d_Hull_lookAlong_46 hl (by decide) rfl (fun ls hl => ?_)
        refine lv_iload hx hb d_Hull_lookAlong_48 (lv_at hl 4 rfl) ?_
        refine lv_iconst (v := (-1)) hx hb d_Hull_lookAlong_50 (by decide) ?_
        refine lv_icmp_eq (tgt := 61) hx hb d_Hull_lookAlong_51 (by decide) (fun hc => ?_) (fun hc => ?_)
        · rw [if_pos hc] at h
          refine lv_iload hx hb d_Hull_lookAlong_61 (lv_at hl 1 rfl) ?_
          refine lv_istore (lv' := [(4, .int x7), (8, .int ((x1 * (pwA x7.toNatClampNeg)) + (x2 * (pwB x7.toNatClampNeg)))), (7, .int x7), (6, .int x6), (5, .int x5), (0, .ref a_this), (1, .int x1), (2, .int x2), (3, .ref a_numbers)]) hx hb d_Hull_lookAlong_63 hl (by decide) rfl (fun ls hl => ?_)
          refine lv_iload hx hb d_Hull_lookAlong_65 (lv_at hl 1 rfl) ?_
          refine lv_istore (lv' := [(5, .int ((x1 * (pwA x7.toNatClampNeg)) + (x2 * (pwB x7.toNatClampNeg)))), (4, .int x7), (8, .int ((x1 * (pwA x7.toNatClampNeg)) + (x2 * (pwB x7.toNatClampNeg)))), (7, .int x7), (6, .int x6), (0, .ref a_this), (1, .int x1), (2, .int x2), (3, .ref a_numbers)]) hx hb d_Hull_lookAlong_67 hl (by decide) rfl (fun ls hl => ?_)
          refine lv_iconst (v := 1) hx hb d_Hull_lookAlong_69 (by decide) ?_
          refine lv_istore (lv' := [(6, .int 1), (5, .int ((x1 * (pwA x7.toNatClampNeg)) + (x2 * (pwB x7.toNatClampNeg)))), (4, .int x7), (8, .int ((x1 * (pwA x7.toNatClampNeg)) + (x2 * (pwB x7.toNatClampNeg)))), (7, .int x7), (0, .ref a_this), (1, .int x1), (2, .int x2), (3, .ref a_numbers)]) hx hb d_Hull_lookAlong_70 hl (by decide) rfl (fun ls hl => ?_)
          refine lv_goto (tgt := 85) hx hb d_Hull_lookAlong_72 (by decide) ?_
          refine lv_iinc (v := (x7 + 1)) (lv' := [(7, .int (x7 + 1)), (6, .int 1), (5, .int ((x1 * (pwA x7.toNatClampNeg)) + (x2 * (pwB x7.toNatClampNeg)))), (4, .int x7), (8, .int ((x1 * (pwA x7.toNatClampNeg)) + (x2 * (pwB x7.toNatClampNeg)))), (0, .ref a_this), (1, .int x1), (2, .int x2), (3, .ref a_numbers)]) hx hb d_Hull_lookAlong_85 hl (k := 4) rfl rfl (by decide) rfl (fun ls hl => ?_)
          refine lv_goto (tgt := 12) hx hb d_Hull_lookAlong_88 (by decide) ?_
          exact ih _ _ _ _ k h hk _ _ hP hD hS ls (lv_sub hl [0, 1, 2, 3, 5, 6, 7, 8] rfl)
        · rw [if_neg hc] at h
          refine lv_iload hx hb d_Hull_lookAlong_54 (lv_at hl 0 rfl) ?_
          refine lv_iload hx hb d_Hull_lookAlong_56 (lv_at hl 3 rfl) ?_
          refine lv_icmp_le (tgt := 75) hx hb d_Hull_lookAlong_58 (by decide) (fun hc => ?_) (fun hc => ?_)
          · rw [if_pos hc] at h
            refine lv_iload hx hb d_Hull_lookAlong_75 (lv_at hl 0 rfl) ?_
            refine lv_iload hx hb d_Hull_lookAlong_77 (lv_at hl 3 rfl) ?_
            refine lv_icmp_ne (tgt := 85) hx hb d_Hull_lookAlong_79 (by decide) (fun hc => ?_) (fun hc => ?_)
            · rw [if_neg hc] at h
              refine lv_iinc (v := (x7 + 1)) (lv' := [(7, .int (x7 + 1)), (8, .int ((x1 * (pwA x7.toNatClampNeg)) + (x2 * (pwB x7.toNatClampNeg)))), (6, .int x6), (5, .int x5), (4, .int x4), (0, .ref a_this), (1, .int x1), (2, .int x2), (3, .ref a_numbers)]) hx hb d_Hull_lookAlong_85 hl (k := 1) rfl rfl (by decide) rfl (fun ls hl => ?_)
              refine lv_goto (tgt := 12) hx hb d_Hull_lookAlong_88 (by decide) ?_
              exact ih _ _ _ _ k h hk _ _ hP hD hS ls (lv_sub hl [0, 2, 3, 4, 5, 6, 7, 8] rfl)
            · rw [if_pos hc] at h
              refine lv_iconst (v := 0) hx hb d_Hull_lookAlong_82 (by decide) ?_
              refine lv_istore (lv' := [(6, .int 0), (8, .int ((x1 * (pwA x7.toNatClampNeg)) + (x2 * (pwB x7.toNatClampNeg)))), (7, .int x7), (5, .int x5), (4, .int x4), (0, .ref a_this), (1, .int x1), (2, .int x2), (3, .ref a_numbers)]) hx hb d_Hull_lookAlong_83 hl (by decide) rfl (fun ls hl => ?_)
              refine lv_iinc (v := (x7 + 1)) (lv' := [(7, .int (x7 + 1)), (6, .int 0), (8, .int ((x1 * (pwA x7.toNatClampNeg)) + (x2 * (pwB x7.toNatClampNeg)))), (5, .int x5), (4, .int x4), (0, .ref a_this), (1, .int x1), (2, .int x2), (3, .ref a_numbers)]) hx hb d_Hull_lookAlong_85 hl (k := 2) rfl rfl (by decide) rfl (fun ls hl => ?_)
              refine lv_goto (tgt := 12) hx hb d_Hull_lookAlong_88 (by decide) ?_
              exact ih _ _ _ _ k h hk _ _ hP hD hS ls (lv_sub hl [0, 1, 3, 4, 5, 6, 7, 8] rfl)
          · rw [if_neg hc] at h
            refine lv_iload hx hb d_Hull_lookAlong_61 (lv_at hl 1 rfl) ?_
            refine lv_istore (lv' := [(4, .int x7), (8, .int ((x1 * (pwA x7.toNatClampNeg)) + (x2 * (pwB x7.toNatClampNeg)))), (7, .int x7), (6, .int x6), (5, .int x5), (0, .ref a_this), (1, .int x1), (2, .int x2), (3, .ref a_numbers)]) hx hb d_Hull_lookAlong_63 hl (by decide) rfl (fun ls hl => ?_)
            refine lv_iload hx hb d_Hull_lookAlong_65 (lv_at hl 1 rfl) ?_
            refine lv_istore (lv' := [(5, .int ((x1 * (pwA x7.toNatClampNeg)) + (x2 * (pwB x7.toNatClampNeg)))), (4, .int x7), (8, .int ((x1 * (pwA x7.toNatClampNeg)) + (x2 * (pwB x7.toNatClampNeg)))), (7, .int x7), (6, .int x6), (0, .ref a_this), (1, .int x1), (2, .int x2), (3, .ref a_numbers)]) hx hb d_Hull_lookAlong_67 hl (by decide) rfl (fun ls hl => ?_)
            refine lv_iconst (v := 1) hx hb d_Hull_lookAlong_69 (by decide) ?_
            refine lv_istore (lv' := [(6, .int 1), (5, .int ((x1 * (pwA x7.toNatClampNeg)) + (x2 * (pwB x7.toNatClampNeg)))), (4, .int x7), (8, .int ((x1 * (pwA x7.toNatClampNeg)) + (x2 * (pwB x7.toNatClampNeg)))), (7, .int x7), (0, .ref a_this), (1, .int x1), (2, .int x2), (3, .ref a_numbers)]) hx hb d_Hull_lookAlong_70 hl (by decide) rfl (fun ls hl => ?_)
            refine lv_goto (tgt := 85) hx hb d_Hull_lookAlong_72 (by decide) ?_
            refine lv_iinc (v := (x7 + 1)) (lv' := [(7, .int (x7 + 1)), (6, .int 1), (5, .int ((x1 * (pwA x7.toNatClampNeg)) + (x2 * (pwB x7.toNatClampNeg)))), (4, .int x7), (8, .int ((x1 * (pwA x7.toNatClampNeg)) + (x2 * (pwB x7.toNatClampNeg)))), (0, .ref a_this), (1, .int x1), (2, .int x2), (3, .ref a_numbers)]) hx hb d_Hull_lookAlong_85 hl (k := 4) rfl rfl (by decide) rfl (fun ls hl => ?_)
            refine lv_goto (tgt := 12) hx hb d_Hull_lookAlong_88 (by decide) ?_
            exact ih _ _ _ _ k h hk _ _ hP hD hS ls (lv_sub hl [0, 1, 2, 3, 5, 6, 7, 8] rfl)
      · rw [if_pos hc] at h
        refine lv_goto (tgt := 85) hx hb d_Hull_lookAlong_26 (by decide) ?_
        refine lv_iinc (v := (x7 + 1)) (lv' := [(7, .int (x7 + 1)), (6, .int x6), (5, .int x5), (4, .int x4), (0, .ref a_this), (1, .int x1), (2, .int x2), (3, .ref a_numbers)]) hx hb d_Hull_lookAlong_85 hl (k := 0) rfl rfl (by decide) rfl (fun ls hl => ?_)
        refine lv_goto (tgt := 12) hx hb d_Hull_lookAlong_88 (by decide) ?_
        exact ih _ _ _ _ k h hk _ _ hP hD hS ls (lv_sub hl [0, 1, 2, 3, 4, 5, 6, 7] rfl)
set_option maxHeartbeats 4000000 in
set_option maxRecDepth 100000 in
theorem w_Hull_lookAlong_L107 {p : Program} {l : Launch} {e : Env} {s : State} {m : MethodId} {args : Array Value} {below : List Frame} {meth : Method} {c : Code} {D : va_G} {cI cL cZ : ClassId} {tA tB : Nat} {A : Nat → Prop} {Q : State → Prop} {a_this a_corner a_outside a_members a_numbers : Nat} {x5 : Int32} {x4 : Int32} {x1 : Int32} {x2 : Int32} {v_size : Int32} {v_corner : Nat → Int32} {v_numbers : Nat → Int32} {o_v_corner : Nat → Int32} {o_v_outside : Nat → Int32} (cx : ct_Cx p s m args meth c b_Hull_lookAlong 9 none R_Hull wd_Hull_lookAlong D (ct_tys cI cL cZ) tA tB A) : ∀ (n : Nat) (x7 : Int32) (v_outside : Nat → Int32) (k : ((Nat → Int32) → Option ((Nat → Int32) × (Nat → Int32)))), f_Hull_lookAlong_L107 x5 x4 x1 x2 n x7 v_outside k = some (o_v_corner, o_v_outside) → (∀ (v_outside : Nat → Int32), k v_outside = some (o_v_corner, o_v_outside) → ∀ (H : Heap) (locs : List Loc), va_P D vwCl [(a_this, .inr (0, [.ref a_corner, .ref a_outside, .ref a_members, .int v_size])), (a_corner, .inl (cZ, 15, .inl v_corner)), (a_outside, .inl (cZ, 6, .inl v_outside)), (a_numbers, .inl (cI, 15, .inl v_numbers))] H → va_D A [(a_this, .inr (0, [.ref a_corner, .ref a_outside, .ref a_members, .int v_size])), (a_corner, .inl (cZ, 15, .inl v_corner)), (a_outside, .inl (cZ, 6, .inl v_outside)), (a_numbers, .inl (cI, 15, .inl v_numbers))] → va_S A s.heap H locs → ∀ ls : Array Slot, lv_has ls 9 [] → W p l e (headSpec wd_Hull_lookAlong rm_Hull_lookAlong).room s m args below meth c H locs 0 0 Q (F0 m 158 ls [])) → ∀ (H : Heap) (locs : List Loc), va_P D vwCl [(a_this, .inr (0, [.ref a_corner, .ref a_outside, .ref a_members, .int v_size])), (a_corner, .inl (cZ, 15, .inl v_corner)), (a_outside, .inl (cZ, 6, .inl v_outside)), (a_numbers, .inl (cI, 15, .inl v_numbers))] H → va_D A [(a_this, .inr (0, [.ref a_corner, .ref a_outside, .ref a_members, .int v_size])), (a_corner, .inl (cZ, 15, .inl v_corner)), (a_outside, .inl (cZ, 6, .inl v_outside)), (a_numbers, .inl (cI, 15, .inl v_numbers))] → va_S A s.heap H locs → ∀ ls : Array Slot, lv_has ls 9 [(7, .int x7), (5, .int x5), (4, .int x4), (0, .ref a_this), (1, .int x1), (2, .int x2)] → W p l e (headSpec wd_Hull_lookAlong rm_Hull_lookAlong).room s m args below meth c H locs 0 0 Q (F0 m 107 ls []) := by
  obtain ⟨hx, hb, hr, hml, hown, hts, hK, hA, hT, hlocks, hZA, hZB, hTA, hTB, hnw⟩ := id cx
  intro n
  induction n with
  | zero => intro x7 v_outside k h; rw [f_Hull_lookAlong_L107] at h; cases h
  | succ n ih =>
    intro x7 v_outside k h hk H locs hP hD hS ls hl
    rw [f_Hull_lookAlong_L107] at h
    refine lv_iload hx hb d_Hull_lookAlong_107 (lv_at hl 0 rfl) ?_
    refine lv_bipush (v := 6) hx hb d_Hull_lookAlong_109 (by decide) ?_
    refine lv_icmp_ge (tgt := 158) hx hb d_Hull_lookAlong_111 (by decide) (fun hc => ?_) (fun hc => ?_)
    · rw [if_pos hc] at h
      exact hk _ h _ _ hP hD hS ls (lv_sub hl [] rfl)
    · rw [if_neg hc] at h
      refine lv_iload hx hb d_Hull_lookAlong_114 (lv_at hl 2 rfl) ?_
      refine lv_iconst (v := (-1)) hx hb d_Hull_lookAlong_116 (by decide) ?_
      refine lv_icmp_eq (tgt := 144) hx hb d_Hull_lookAlong_117 (by decide) (fun hc => ?_) (fun hc => ?_)
      · rw [if_pos hc] at h
        refine lv_aload_n hx hb d_Hull_lookAlong_144 rfl (lv_at hl 3 rfl) ?_
        refine va_get (D := D) (ci := 0) (v := .ref a_outside) (C := R_Hull) (T := T_Hull) (N := 4) hx hb hts (fun w h9 => ct_in (iw_Hull w h9)) hown hK hP 0 rfl rfl 1 (by decide) (hts _ (ct_in k_1)) (fun _ h9 => h9) rfl d_Hull_lookAlong_145 ?_
        refine lv_iload hx hb d_Hull_lookAlong_148 (lv_at hl 0 rfl) ?_
        refine lv_iconst (v := 1) hx hb d_Hull_lookAlong_150 (by decide) ?_
        obtain ⟨hin, h⟩ := ct_chk h
        refine va_zast hx hb hK hP hD hS 2 2 rfl rfl hin d_Hull_lookAlong_151 (fun H locs hP hD hS => ?_)
        have hP : va_P D vwCl [(a_this, .inr (0, [.ref a_corner, .ref a_outside, .ref a_members, .int v_size])), (a_corner, .inl (cZ, 15, .inl v_corner)), (a_outside, .inl (cZ, 6, .inl (upd v_outside x7.toNatClampNeg (vp_nar .boolean 1)))), (a_numbers, .inl (cI, 15, .inl v_numbers))] H := hP
        have hD : va_D A [(a_this, .inr (0, [.ref a_corner, .ref a_outside, .ref a_members, .int v_size])), (a_corner, .inl (cZ, 15, .inl v_corner)), (a_outside, .inl (cZ, 6, .inl (upd v_outside x7.toNatClampNeg (vp_nar .boolean 1)))), (a_numbers, .inl (cI, 15, .inl v_numbers))] := hD
        refine lv_iinc (v := (x7 + 1)) (lv' := [(7, .int (x7 + 1)), (5, .int x5), (4, .int x4), (0, .ref a_this), (1, .int x1), (2, .int x2)]) hx hb d_Hull_lookAlong_152 hl (k := 0) rfl rfl (by decide) rfl (fun ls hl => ?_)
        refine lv_goto (tgt := 107) hx hb d_Hull_lookAlong_155 (by decide) ?_
        exact ih _ _ k h hk _ _ hP hD hS ls (lv_sub hl [0, 1, 2, 3, 4, 5] rfl)
      · rw [if_neg hc] at h
        refine lv_iconst (v := 2) hx hb d_Hull_lookAlong_120 (by decide) ?_
        refine lv_iload_n hx hb d_Hull_lookAlong_121 rfl (lv_at hl 4 rfl) ?_
        refine va_getsN hx hb hZA hS hown (ct_nest_use n_0 hnw) (fun _ h9 => h9) d_Hull_lookAlong_122 ?_
        refine lv_iload hx hb d_Hull_lookAlong_125 (lv_at hl 0 rfl) ?_
        obtain ⟨hin, h⟩ := ct_chk h
        refine va_ti hx hb hTA hS hin (v := .int (pwA x7.toNatClampNeg)) rfl d_Hull_lookAlong_127 ?_
        refine lv_imul hx hb d_Hull_lookAlong_128 ?_
        refine lv_iload_n hx hb d_Hull_lookAlong_129 rfl (lv_at hl 5 rfl) ?_
        refine va_getsN hx hb hZB hS hown (ct_nest_use n_1 hnw) (fun _ h9 => h9) d_Hull_lookAlong_130 ?_
        refine lv_iload hx hb d_Hull_lookAlong_133 (lv_at hl 0 rfl) ?_
        obtain ⟨hin, h⟩ := ct_chk h
        refine va_ti hx hb hTB hS hin (v := .int (pwB x7.toNatClampNeg)) rfl d_Hull_lookAlong_135 ?_
        refine lv_imul hx hb d_Hull_lookAlong_136 ?_
        refine lv_iadd hx hb d_Hull_lookAlong_137 ?_
        refine lv_imul hx hb d_Hull_lookAlong_138 ?_
        refine lv_iload hx hb d_Hull_lookAlong_139 (lv_at hl 1 rfl) ?_
        refine lv_icmp_le (tgt := 152) hx hb d_Hull_lookAlong_141 (by decide) (fun hc => ?_) (fun hc => ?_)
        · rw [if_pos hc] at h
          refine lv_iinc (v := (x7 + 1)) (lv' := [(7, .int (x7 + 1)), (5, .int x5), (4, .int x4), (0, .ref a_this), (1, .int x1), (2, .int x2)]) hx hb d_Hull_lookAlong_152 hl (k := 0) rfl rfl (by decide) rfl (fun ls hl => ?_)
          refine lv_goto (tgt := 107) hx hb d_Hull_lookAlong_155 (by decide) ?_
          exact ih _ _ k h hk _ _ hP hD hS ls (lv_sub hl [0, 1, 2, 3, 4, 5] rfl)
        · rw [if_neg hc] at h
          refine lv_aload_n hx hb d_Hull_lookAlong_144 rfl (lv_at hl 3 rfl) ?_
          refine va_get (D := D) (ci := 0) (v := .ref a_outside) (C := R_Hull) (T := T_Hull) (N := 4) hx hb hts (fun w h9 => ct_in (iw_Hull w h9)) hown hK hP 0 rfl rfl 1 (by decide) (hts _ (ct_in k_1)) (fun _ h9 => h9) rfl d_Hull_lookAlong_145 ?_
          refine lv_iload hx hb d_Hull_lookAlong_148 (lv_at hl 0 rfl) ?_
          refine lv_iconst (v := 1) hx hb d_Hull_lookAlong_150 (by decide) ?_
          obtain ⟨hin, h⟩ := ct_chk h
          refine va_zast hx hb hK hP hD hS 2 2 rfl rfl hin d_Hull_lookAlong_151 (fun H locs hP hD hS => ?_)
          have hP : va_P D vwCl [(a_this, .inr (0, [.ref a_corner, .ref a_outside, .ref a_members, .int v_size])), (a_corner, .inl (cZ, 15, .inl v_corner)), (a_outside, .inl (cZ, 6, .inl (upd v_outside x7.toNatClampNeg (vp_nar .boolean 1)))), (a_numbers, .inl (cI, 15, .inl v_numbers))] H := hP
          have hD : va_D A [(a_this, .inr (0, [.ref a_corner, .ref a_outside, .ref a_members, .int v_size])), (a_corner, .inl (cZ, 15, .inl v_corner)), (a_outside, .inl (cZ, 6, .inl (upd v_outside x7.toNatClampNeg (vp_nar .boolean 1)))), (a_numbers, .inl (cI, 15, .inl v_numbers))] := hD
          refine lv_iinc (v := (x7 + 1)) (lv' := [(7, .int (x7 + 1)), (5, .int x5), (4, .int x4), (0, .ref a_this), (1, .int x1), (2, .int x2)]) hx hb d_Hull_lookAlong_152 hl (k := 0) rfl rfl (by decide) rfl (fun ls hl => ?_)
          refine lv_goto (tgt := 107) hx hb d_Hull_lookAlong_155 (by decide) ?_
          exact ih _ _ k h hk _ _ hP hD hS ls (lv_sub hl [0, 1, 2, 3, 4, 5] rfl)
set_option maxHeartbeats 4000000 in
set_option maxRecDepth 100000 in
theorem w_Hull_lookAlong {p : Program} {l : Launch} {e : Env} {s : State} {m : MethodId} {args : Array Value} {below : List Frame} {meth : Method} {c : Code} {D : va_G} {cI cL cZ : ClassId} {tA tB : Nat} {A : Nat → Prop} {a_this a_corner a_outside a_members a_numbers : Nat} {u : Int32} {v : Int32} {v_size : Int32} {v_corner : Nat → Int32} {v_outside : Nat → Int32} {v_numbers : Nat → Int32} {o_v_corner : Nat → Int32} {o_v_outside : Nat → Int32} (cx : ct_Cx p s m args meth c b_Hull_lookAlong 9 none R_Hull wd_Hull_lookAlong D (ct_tys cI cL cZ) tA tB A) (h : f_Hull_lookAlong u v v_corner v_outside v_numbers = some (o_v_corner, o_v_outside)) : ∀ (H : Heap) (locs : List Loc), va_P D vwCl [(a_this, .inr (0, [.ref a_corner, .ref a_outside, .ref a_members, .int v_size])), (a_corner, .inl (cZ, 15, .inl v_corner)), (a_outside, .inl (cZ, 6, .inl v_outside)), (a_numbers, .inl (cI, 15, .inl v_numbers))] H → va_D A [(a_this, .inr (0, [.ref a_corner, .ref a_outside, .ref a_members, .int v_size])), (a_corner, .inl (cZ, 15, .inl v_corner)), (a_outside, .inl (cZ, 6, .inl v_outside)), (a_numbers, .inl (cI, 15, .inl v_numbers))] → va_S A s.heap H locs → ∀ ls : Array Slot, lv_has ls 9 [(0, .ref a_this), (1, .int u), (2, .int v), (3, .ref a_numbers)] → W p l e (headSpec wd_Hull_lookAlong rm_Hull_lookAlong).room s m args below meth c H locs 0 0 (MQ below (ct_Qv D [(a_this, .inr (0, [.ref a_corner, .ref a_outside, .ref a_members, .int v_size])), (a_corner, .inl (cZ, 15, .inl o_v_corner)), (a_outside, .inl (cZ, 6, .inl o_v_outside)), (a_numbers, .inl (cI, 15, .inl v_numbers))] A) args s 0 0 A) (F0 m 0 ls []) := by
  obtain ⟨hx, hb, hr, hml, hown, hts, hK, hA, hT, hlocks, hZA, hZB, hTA, hTB, hnw⟩ := id cx
  intro H locs hP hD hS ls hl
  rw [f_Hull_lookAlong] at h
  refine lv_iconst (v := (-1)) hx hb d_Hull_lookAlong_0 (by decide) ?_
  refine lv_istore (lv' := [(4, .int (-1)), (0, .ref a_this), (1, .int u), (2, .int v), (3, .ref a_numbers)]) hx hb d_Hull_lookAlong_1 hl (by decide) rfl (fun ls hl => ?_)
  refine lv_iconst (v := 0) hx hb d_Hull_lookAlong_3 (by decide) ?_
  refine lv_istore (lv' := [(5, .int 0), (4, .int (-1)), (0, .ref a_this), (1, .int u), (2, .int v), (3, .ref a_numbers)]) hx hb d_Hull_lookAlong_4 hl (by decide) rfl (fun ls hl => ?_)
  refine lv_iconst (v := 0) hx hb d_Hull_lookAlong_6 (by decide) ?_
  refine lv_istore (lv' := [(6, .int 0), (5, .int 0), (4, .int (-1)), (0, .ref a_this), (1, .int u), (2, .int v), (3, .ref a_numbers)]) hx hb d_Hull_lookAlong_7 hl (by decide) rfl (fun ls hl => ?_)
  refine lv_iconst (v := 0) hx hb d_Hull_lookAlong_9 (by decide) ?_
  refine lv_istore (lv' := [(7, .int 0), (6, .int 0), (5, .int 0), (4, .int (-1)), (0, .ref a_this), (1, .int u), (2, .int v), (3, .ref a_numbers)]) hx hb d_Hull_lookAlong_10 hl (by decide) rfl (fun ls hl => ?_)
  refine w_Hull_lookAlong_L12 cx _ _ _ _ _ _ h (fun y6_31 y5_32 y4_33 h H locs hP hD hS ls hl => ?_) _ _ hP hD hS ls (lv_sub hl [0, 1, 2, 3, 4, 5, 6, 7] rfl)
  try dsimp only at h
  refine lv_iload hx hb d_Hull_lookAlong_91 (lv_at hl 0 rfl) ?_
  refine lv_if_eq (tgt := 104) hx hb d_Hull_lookAlong_93 (by decide) (fun hc => ?_) (fun hc => ?_)
  · rw [if_pos hc] at h
    refine lv_iconst (v := 0) hx hb d_Hull_lookAlong_104 (by decide) ?_
    refine lv_istore (lv' := [(7, .int 0), (6, .int y6_31), (5, .int y5_32), (4, .int y4_33), (0, .ref a_this), (1, .int u), (2, .int v)]) hx hb d_Hull_lookAlong_105 hl (by decide) rfl (fun ls hl => ?_)
    refine w_Hull_lookAlong_L107 cx _ _ _ _ h (fun v_outside_41 h H locs hP hD hS ls hl => ?_) _ _ hP hD hS ls (lv_sub hl [0, 2, 3, 4, 5, 6] rfl)
    try dsimp only at h
    cases h
    exact W.vret hx hb hr (fun t ht hW => ⟨⟨(), rfl, trivial, by rw [ht]; exact hP, hD⟩, hS.F ht⟩) hS.2.2 d_Hull_lookAlong_158
  · rw [if_neg hc] at h
    refine lv_aload_n hx hb d_Hull_lookAlong_96 rfl (lv_at hl 3 rfl) ?_
    refine va_get (D := D) (ci := 0) (v := .ref a_corner) (C := R_Hull) (T := T_Hull) (N := 4) hx hb hts (fun w h9 => ct_in (iw_Hull w h9)) hown hK hP 0 rfl rfl 0 (by decide) (hts _ (ct_in k_0)) (fun _ h9 => h9) rfl d_Hull_lookAlong_97 ?_
    refine lv_iload hx hb d_Hull_lookAlong_100 (lv_at hl 2 rfl) ?_
    refine lv_iconst (v := 1) hx hb d_Hull_lookAlong_102 (by decide) ?_
    obtain ⟨hin, h⟩ := ct_chk h
    refine va_zast hx hb hK hP hD hS 1 2 rfl rfl hin d_Hull_lookAlong_103 (fun H locs hP hD hS => ?_)
    have hP : va_P D vwCl [(a_this, .inr (0, [.ref a_corner, .ref a_outside, .ref a_members, .int v_size])), (a_corner, .inl (cZ, 15, .inl (upd v_corner y4_33.toNatClampNeg (vp_nar .boolean 1)))), (a_outside, .inl (cZ, 6, .inl v_outside)), (a_numbers, .inl (cI, 15, .inl v_numbers))] H := hP
    have hD : va_D A [(a_this, .inr (0, [.ref a_corner, .ref a_outside, .ref a_members, .int v_size])), (a_corner, .inl (cZ, 15, .inl (upd v_corner y4_33.toNatClampNeg (vp_nar .boolean 1)))), (a_outside, .inl (cZ, 6, .inl v_outside)), (a_numbers, .inl (cI, 15, .inl v_numbers))] := hD
    refine lv_iconst (v := 0) hx hb d_Hull_lookAlong_104 (by decide) ?_
    refine lv_istore (lv' := [(7, .int 0), (6, .int y6_31), (5, .int y5_32), (4, .int y4_33), (0, .ref a_this), (1, .int u), (2, .int v)]) hx hb d_Hull_lookAlong_105 hl (by decide) rfl (fun ls hl => ?_)
    refine w_Hull_lookAlong_L107 cx _ _ _ _ h (fun v_outside_48 h H locs hP hD hS ls hl => ?_) _ _ hP hD hS ls (lv_sub hl [0, 2, 3, 4, 5, 6] rfl)
    try dsimp only at h
    cases h
    exact W.vret hx hb hr (fun t ht hW => ⟨⟨(), rfl, trivial, by rw [ht]; exact hP, hD⟩, hS.F ht⟩) hS.2.2 d_Hull_lookAlong_158
set_option maxHeartbeats 4000000 in
set_option maxRecDepth 100000 in
theorem c_Hull_lookAlong (l : Launch) (D : va_G) (cI cL cZ : ClassId) (tA tB sz : Nat) (a_this a_corner a_outside a_members a_numbers : Nat) (u : Int32) (v : Int32) (v_size : Int32) (v_corner : Nat → Int32) (v_outside : Nat → Int32) (v_numbers : Nat → Int32) (o_v_corner : Nat → Int32) (o_v_outside : Nat → Int32) (A : Nat → Prop) (hAe : A = va_A [(a_this, .inr (0, [.ref a_corner, .ref a_outside, .ref a_members, .int v_size])), (a_corner, .inl (cZ, 15, .inl v_corner)), (a_outside, .inl (cZ, 6, .inl v_outside)), (a_numbers, .inl (cI, 15, .inl v_numbers))] sz) (h : f_Hull_lookAlong u v v_corner v_outside v_numbers = some (o_v_corner, o_v_outside)) : Met l y_Hull_lookAlong wd_Hull_lookAlong rm_Hull_lookAlong (ct_Pre D (ct_tys cI cL cZ) tA tB [(a_this, .inr (0, [.ref a_corner, .ref a_outside, .ref a_members, .int v_size])), (a_corner, .inl (cZ, 15, .inl v_corner)), (a_outside, .inl (cZ, 6, .inl v_outside)), (a_numbers, .inl (cI, 15, .inl v_numbers))] sz [.ref a_this, .int u, .int v, .ref a_numbers]) (ct_Qv D [(a_this, .inr (0, [.ref a_corner, .ref a_outside, .ref a_members, .int v_size])), (a_corner, .inl (cZ, 15, .inl o_v_corner)), (a_outside, .inl (cZ, 6, .inl o_v_outside)), (a_numbers, .inl (cI, 15, .inl v_numbers))] A) 0 0 A := by
  refine Met.ofW (cc := b_Hull_lookAlong) (maxL := 9) (ret := none) (by decide) rfl ?_
  intro p e s m args below meth c s₁ B hml hv
  obtain ⟨hargs, hsz, hP, hK, hD0, hT⟩ := hv
  subst hsz
  have hD := hD0.self (sz := s.heap.size)
  rw [← hAe] at hD hT
  have hA : ∀ q : Nat, s.heap.size ≤ q → A q := fun q h => by rw [hAe]; exact Or.inr h
  clear hAe
  have cx : ct_Cx p s m args meth c b_Hull_lookAlong 9 none R_Hull wd_Hull_lookAlong D (ct_tys cI cL cZ) tA tB A := ⟨B.exec, B.bytes, B.returns, hml, findClass_of_methodNamed B.named, atoms_spec (ws := wd_Hull_lookAlong) B.pre, hK, hA, hT, B.notSynchronized, hT.1, hT.2.1, hT.2.2.1, hT.2.2.2.1, hT.2.2.2.2⟩
  have hl := lv_entry ([.ref a_this, .int u, .int v, .ref a_numbers]) (n := 9) (Nat.le_of_ble_eq_true rfl)
  rw [show entryFrame m args 9 = entryFrame m ([.ref a_this, .int u, .int v, .ref a_numbers] : List Value).toArray 9 by rw [hargs], lg_entry_eq]
  exact w_Hull_lookAlong cx h _ _ hP hD va_S.rf _ hl
abbrev rm_Hull_gatherMembers : Room := { frames := 0, cells := 0, slots := 0, locals := 0 }
abbrev wd_Hull_gatherMembers : List Cond := .code y_Hull_gatherMembers b_Hull_gatherMembers 2 none :: ct_G
def f_Hull_gatherMembers_L7 (v_outside : Nat → Int32) : Nat → Int32 → Int32 → (Nat → Int32) → (Int32 → (Nat → Int32) → Option (Int32 × (Nat → Int32))) → Option (Int32 × (Nat → Int32))
  | 0, _, _, _, _ => none
  | n + 1, x1, v_size, v_members, k => (if 6 ≤ x1 then (k v_size v_members) else (if x1 < 0 ∨ 6 ≤ x1.toNatClampNeg then none else (if (v_outside x1.toNatClampNeg) = 0 then (if v_size < 0 ∨ 6 ≤ v_size.toNatClampNeg then none else (f_Hull_gatherMembers_L7 v_outside n (x1 + 1) (v_size + 1) (upd v_members v_size.toNatClampNeg x1) k)) else (f_Hull_gatherMembers_L7 v_outside n (x1 + 1) v_size v_members k))))
def f_Hull_gatherMembers (v_outside : Nat → Int32) (v_members : Nat → Int32) : Option (Int32 × (Nat → Int32)) := (f_Hull_gatherMembers_L7 v_outside 40 0 0 v_members (fun (v_size_7 : Int32) (v_members_8 : Nat → Int32) => some (v_size_7, v_members_8)))
set_option maxHeartbeats 4000000 in
set_option maxRecDepth 100000 in
theorem w_Hull_gatherMembers_L7 {p : Program} {l : Launch} {e : Env} {s : State} {m : MethodId} {args : Array Value} {below : List Frame} {meth : Method} {c : Code} {D : va_G} {cI cL cZ : ClassId} {tA tB : Nat} {A : Nat → Prop} {Q : State → Prop} {a_this a_corner a_outside a_members : Nat} {v_outside : Nat → Int32} {o_v_size : Int32} {o_v_members : Nat → Int32} (cx : ct_Cx p s m args meth c b_Hull_gatherMembers 2 none R_Hull wd_Hull_gatherMembers D (ct_tys cI cL cZ) tA tB A) : ∀ (n : Nat) (x1 : Int32) (v_size : Int32) (v_members : Nat → Int32) (k : (Int32 → (Nat → Int32) → Option (Int32 × (Nat → Int32)))), f_Hull_gatherMembers_L7 v_outside n x1 v_size v_members k = some (o_v_size, o_v_members) → (∀ (v_size : Int32) (v_members : Nat → Int32), k v_size v_members = some (o_v_size, o_v_members) → ∀ (H : Heap) (locs : List Loc), va_P D vwCl [(a_this, .inr (0, [.ref a_corner, .ref a_outside, .ref a_members, .int v_size])), (a_outside, .inl (cZ, 6, .inl v_outside)), (a_members, .inl (cI, 6, .inl v_members))] H → va_D A [(a_this, .inr (0, [.ref a_corner, .ref a_outside, .ref a_members, .int v_size])), (a_outside, .inl (cZ, 6, .inl v_outside)), (a_members, .inl (cI, 6, .inl v_members))] → va_S A s.heap H locs → ∀ ls : Array Slot, lv_has ls 2 [] → W p l e (headSpec wd_Hull_gatherMembers rm_Hull_gatherMembers).room s m args below meth c H locs 0 0 Q (F0 m 48 ls [])) → ∀ (H : Heap) (locs : List Loc), va_P D vwCl [(a_this, .inr (0, [.ref a_corner, .ref a_outside, .ref a_members, .int v_size])), (a_outside, .inl (cZ, 6, .inl v_outside)), (a_members, .inl (cI, 6, .inl v_members))] H → va_D A [(a_this, .inr (0, [.ref a_corner, .ref a_outside, .ref a_members, .int v_size])), (a_outside, .inl (cZ, 6, .inl v_outside)), (a_members, .inl (cI, 6, .inl v_members))] → va_S A s.heap H locs → ∀ ls : Array Slot, lv_has ls 2 [(1, .int x1), (0, .ref a_this)] → W p l e (headSpec wd_Hull_gatherMembers rm_Hull_gatherMembers).room s m args below meth c H locs 0 0 Q (F0 m 7 ls []) := by
  obtain ⟨hx, hb, hr, hml, hown, hts, hK, hA, hT, hlocks, hZA, hZB, hTA, hTB, hnw⟩ := id cx
  intro n
  induction n with
  | zero => intro x1 v_size v_members k h; rw [f_Hull_gatherMembers_L7] at h; cases h
  | succ n ih =>
    intro x1 v_size v_members k h hk H locs hP hD hS ls hl
    rw [f_Hull_gatherMembers_L7] at h
    refine lv_iload_n hx hb d_Hull_gatherMembers_7 rfl (lv_at hl 0 rfl) ?_
    refine lv_bipush (v := 6) hx hb d_Hull_gatherMembers_8 (by decide) ?_
    refine lv_icmp_ge (tgt := 48) hx hb d_Hull_gatherMembers_10 (by decide) (fun hc => ?_) (fun hc => ?_)
    · rw [if_pos hc] at h
      exact hk _ _ h _ _ hP hD hS ls (lv_sub hl [] rfl)
    · rw [if_neg hc] at h
      refine lv_aload_n hx hb d_Hull_gatherMembers_13 rfl (lv_at hl 1 rfl) ?_
      refine va_get (D := D) (ci := 0) (v := .ref a_outside) (C := R_Hull) (T := T_Hull) (N := 4) hx hb hts (fun w h9 => ct_in (iw_Hull w h9)) hown hK hP 0 rfl rfl 1 (by decide) (hts _ (ct_in k_1)) (fun _ h9 => h9) rfl d_Hull_gatherMembers_14 ?_
      refine lv_iload_n hx hb d_Hull_gatherMembers_17 rfl (lv_at hl 0 rfl) ?_
      obtain ⟨hin, h⟩ := ct_chk h
      refine va_zald hx hb hK hP 1 2 rfl rfl hin d_Hull_gatherMembers_18 ?_
      refine lv_if_ne (tgt := 42) hx hb d_Hull_gatherMembers_19 (by decide) (fun hc => ?_) (fun hc => ?_)
      · rw [if_neg hc] at h
        refine lv_iinc (v := (x1 + 1)) (lv' := [(1, .int (x1 + 1)), (0, .ref a_this)]) hx hb d_Hull_gatherMembers_42 hl (k := 0) rfl rfl (by decide) rfl (fun ls hl => ?_)
        refine lv_goto (tgt := 7) hx hb d_Hull_gatherMembers_45 (by decide) ?_
        exact ih _ _ _ k h hk _ _ hP hD hS ls (lv_sub hl [0, 1] rfl)
      · rw [if_pos hc] at h
        refine lv_aload_n hx hb d_Hull_gatherMembers_22 rfl (lv_at hl 1 rfl) ?_
        refine va_get (D := D) (ci := 0) (v := .ref a_members) (C := R_Hull) (T := T_Hull) (N := 4) hx hb hts (fun w h9 => ct_in (iw_Hull w h9)) hown hK hP 0 rfl rfl 2 (by decide) (hts _ (ct_in k_12)) (fun _ h9 => h9) rfl d_Hull_gatherMembers_23 ?_
        refine lv_aload_n hx hb d_Hull_gatherMembers_26 rfl (lv_at hl 1 rfl) ?_
        refine va_get (D := D) (ci := 0) (v := .int v_size) (C := R_Hull) (T := T_Hull) (N := 4) hx hb hts (fun w h9 => ct_in (iw_Hull w h9)) hown hK hP 0 rfl rfl 3 (by decide) (hts _ (ct_in k_11)) (fun _ h9 => h9) rfl d_Hull_gatherMembers_27 ?_
        refine lv_iload_n hx hb d_Hull_gatherMembers_30 rfl (lv_at hl 0 rfl) ?_
        obtain ⟨hin, h⟩ := ct_chk h
        refine va_iast hx hb hK hP hD hS 2 0 rfl rfl hin d_Hull_gatherMembers_31 (fun H locs hP hD hS => ?_)
        have hP : va_P D vwCl [(a_this, .inr (0, [.ref a_corner, .ref a_outside, .ref a_members, .int v_size])), (a_outside, .inl (cZ, 6, .inl v_outside)), (a_members, .inl (cI, 6, .inl (upd v_members v_size.toNatClampNeg x1)))] H := hP
        have hD : va_D A [(a_this, .inr (0, [.ref a_corner, .ref a_outside, .ref a_members, .int v_size])), (a_outside, .inl (cZ, 6, .inl v_outside)), (a_members, .inl (cI, 6, .inl (upd v_members v_size.toNatClampNeg x1)))] := hD
        refine lv_aload_n hx hb d_Hull_gatherMembers_32 rfl (lv_at hl 1 rfl) ?_
        refine lv_dup hx hb d_Hull_gatherMembers_33 rfl ?_
        refine va_get (D := D) (ci := 0) (v := .int v_size) (C := R_Hull) (T := T_Hull) (N := 4) hx hb hts (fun w h9 => ct_in (iw_Hull w h9)) hown hK hP 0 rfl rfl 3 (by decide) (hts _ (ct_in k_11)) (fun _ h9 => h9) rfl d_Hull_gatherMembers_34 ?_
        refine lv_iconst (v := 1) hx hb d_Hull_gatherMembers_37 (by decide) ?_
        refine lv_iadd hx hb d_Hull_gatherMembers_38 ?_
        refine va_put (D := D) (ci := 0) (v := .int (v_size + 1)) (ty := .int) (C := R_Hull) (T := T_Hull) (N := 4) hx hb hts (fun w h9 => ct_in (iw_Hull w h9)) t_Hull tk_Hull nm_Hull hown hK hP hD hS 0 rfl rfl 3 (by decide) (hts _ (ct_in k_11)) (fun _ h9 => h9) rfl (by decide +kernel) rfl rfl (Nat.le_of_ble_eq_true rfl) d_Hull_gatherMembers_39 (fun H locs hP hD hS => ?_)
        have hP : va_P D vwCl [(a_this, .inr (0, [.ref a_corner, .ref a_outside, .ref a_members, .int (v_size + 1)])), (a_outside, .inl (cZ, 6, .inl v_outside)), (a_members, .inl (cI, 6, .inl (upd v_members v_size.toNatClampNeg x1)))] H := hP
        have hD : va_D A [(a_this, .inr (0, [.ref a_corner, .ref a_outside, .ref a_members, .int (v_size + 1)])), (a_outside, .inl (cZ, 6, .inl v_outside)), (a_members, .inl (cI, 6, .inl (upd v_members v_size.toNatClampNeg x1)))] := hD
        refine lv_iinc (v := (x1 + 1)) (lv' := [(1, .int (x1 + 1)), (0, .ref a_this)]) hx hb d_Hull_gatherMembers_42 hl (k := 0) rfl rfl (by decide) rfl (fun ls hl => ?_)
        refine lv_goto (tgt := 7) hx hb d_Hull_gatherMembers_45 (by decide) ?_
        exact ih _ _ _ k h hk _ _ hP hD hS ls (lv_sub hl [0, 1] rfl)
set_option maxHeartbeats 4000000 in
set_option maxRecDepth 100000 in
theorem w_Hull_gatherMembers {p : Program} {l : Launch} {e : Env} {s : State} {m : MethodId} {args : Array Value} {below : List Frame} {meth : Method} {c : Code} {D : va_G} {cI cL cZ : ClassId} {tA tB : Nat} {A : Nat → Prop} {a_this a_corner a_outside a_members : Nat} {v_size : Int32} {v_outside : Nat → Int32} {v_members : Nat → Int32} {o_v_size : Int32} {o_v_members : Nat → Int32} (cx : ct_Cx p s m args meth c b_Hull_gatherMembers 2 none R_Hull wd_Hull_gatherMembers D (ct_tys cI cL cZ) tA tB A) (h : f_Hull_gatherMembers v_outside v_members = some (o_v_size, o_v_members)) : ∀ (H : Heap) (locs : List Loc), va_P D vwCl [(a_this, .inr (0, [.ref a_corner, .ref a_outside, .ref a_members, .int v_size])), (a_outside, .inl (cZ, 6, .inl v_outside)), (a_members, .inl (cI, 6, .inl v_members))] H → va_D A [(a_this, .inr (0, [.ref a_corner, .ref a_outside, .ref a_members, .int v_size])), (a_outside, .inl (cZ, 6, .inl v_outside)), (a_members, .inl (cI, 6, .inl v_members))] → va_S A s.heap H locs → ∀ ls : Array Slot, lv_has ls 2 [(0, .ref a_this)] → W p l e (headSpec wd_Hull_gatherMembers rm_Hull_gatherMembers).room s m args below meth c H locs 0 0 (MQ below (ct_Qv D [(a_this, .inr (0, [.ref a_corner, .ref a_outside, .ref a_members, .int o_v_size])), (a_outside, .inl (cZ, 6, .inl v_outside)), (a_members, .inl (cI, 6, .inl o_v_members))] A) args s 0 0 A) (F0 m 0 ls []) := by
  obtain ⟨hx, hb, hr, hml, hown, hts, hK, hA, hT, hlocks, hZA, hZB, hTA, hTB, hnw⟩ := id cx
  intro H locs hP hD hS ls hl
  rw [f_Hull_gatherMembers] at h
  refine lv_aload_n hx hb d_Hull_gatherMembers_0 rfl (lv_at hl 0 rfl) ?_
  refine lv_iconst (v := 0) hx hb d_Hull_gatherMembers_1 (by decide) ?_
  refine va_put (D := D) (ci := 0) (v := .int 0) (ty := .int) (C := R_Hull) (T := T_Hull) (N := 4) hx hb hts (fun w h9 => ct_in (iw_Hull w h9)) t_Hull tk_Hull nm_Hull hown hK hP hD hS 0 rfl rfl 3 (by decide) (hts _ (ct_in k_11)) (fun _ h9 => h9) rfl (by decide +kernel) rfl rfl (Nat.le_of_ble_eq_true rfl) d_Hull_gatherMembers_2 (fun H locs hP hD hS => ?_)
  have hP : va_P D vwCl [(a_this, .inr (0, [.ref a_corner, .ref a_outside, .ref a_members, .int 0])), (a_outside, .inl (cZ, 6, .inl v_outside)), (a_members, .inl (cI, 6, .inl v_members))] H := hP
  have hD : va_D A [(a_this, .inr (0, [.ref a_corner, .ref a_outside, .ref a_members, .int 0])), (a_outside, .inl (cZ, 6, .inl v_outside)), (a_members, .inl (cI, 6, .inl v_members))] := hD
  refine lv_iconst (v := 0) hx hb d_Hull_gatherMembers_5 (by decide) ?_
  refine lv_istore_n (lv' := [(1, .int 0), (0, .ref a_this)]) hx hb d_Hull_gatherMembers_6 rfl hl (by decide) rfl (fun ls hl => ?_)
  refine w_Hull_gatherMembers_L7 cx _ _ _ _ _ h (fun v_size_7 v_members_8 h H locs hP hD hS ls hl => ?_) _ _ hP hD hS ls (lv_sub hl [0, 1] rfl)
  try dsimp only at h
  cases h
  exact W.vret hx hb hr (fun t ht hW => ⟨⟨(), rfl, trivial, by rw [ht]; exact hP, hD⟩, hS.F ht⟩) hS.2.2 d_Hull_gatherMembers_48
set_option maxHeartbeats 4000000 in
set_option maxRecDepth 100000 in
theorem c_Hull_gatherMembers (l : Launch) (D : va_G) (cI cL cZ : ClassId) (tA tB sz : Nat) (a_this a_corner a_outside a_members : Nat) (v_size : Int32) (v_outside : Nat → Int32) (v_members : Nat → Int32) (o_v_size : Int32) (o_v_members : Nat → Int32) (A : Nat → Prop) (hAe : A = va_A [(a_this, .inr (0, [.ref a_corner, .ref a_outside, .ref a_members, .int v_size])), (a_outside, .inl (cZ, 6, .inl v_outside)), (a_members, .inl (cI, 6, .inl v_members))] sz) (h : f_Hull_gatherMembers v_outside v_members = some (o_v_size, o_v_members)) : Met l y_Hull_gatherMembers wd_Hull_gatherMembers rm_Hull_gatherMembers (ct_Pre D (ct_tys cI cL cZ) tA tB [(a_this, .inr (0, [.ref a_corner, .ref a_outside, .ref a_members, .int v_size])), (a_outside, .inl (cZ, 6, .inl v_outside)), (a_members, .inl (cI, 6, .inl v_members))] sz [.ref a_this]) (ct_Qv D [(a_this, .inr (0, [.ref a_corner, .ref a_outside, .ref a_members, .int o_v_size])), (a_outside, .inl (cZ, 6, .inl v_outside)), (a_members, .inl (cI, 6, .inl o_v_members))] A) 0 0 A := by
  refine Met.ofW (cc := b_Hull_gatherMembers) (maxL := 2) (ret := none) (by decide) rfl ?_
  intro p e s m args below meth c s₁ B hml hv
  obtain ⟨hargs, hsz, hP, hK, hD0, hT⟩ := hv
  subst hsz
  have hD := hD0.self (sz := s.heap.size)
  rw [← hAe] at hD hT
  have hA : ∀ q : Nat, s.heap.size ≤ q → A q := fun q h => by rw [hAe]; exact Or.inr h
  clear hAe
  have cx : ct_Cx p s m args meth c b_Hull_gatherMembers 2 none R_Hull wd_Hull_gatherMembers D (ct_tys cI cL cZ) tA tB A := ⟨B.exec, B.bytes, B.returns, hml, findClass_of_methodNamed B.named, atoms_spec (ws := wd_Hull_gatherMembers) B.pre, hK, hA, hT, B.notSynchronized, hT.1, hT.2.1, hT.2.2.1, hT.2.2.2.1, hT.2.2.2.2⟩
  have hl := lv_entry ([.ref a_this]) (n := 2) (Nat.le_of_ble_eq_true rfl)
  rw [show entryFrame m args 2 = entryFrame m ([.ref a_this] : List Value).toArray 2 by rw [hargs], lg_entry_eq]
  exact w_Hull_gatherMembers cx h _ _ hP hD va_S.rf _ hl
abbrev rm_Hull_span : Room := { frames := 1, cells := 0, slots := 0, locals := 28 }
abbrev wd_Hull_span : List Cond := .code y_Hull_span b_Hull_span 4 none :: ct_G
def f_Hull_span_L15 (x2 : Int32) (v_numbers : Nat → Int32) : Nat → Int32 → (Nat → Int32) → (Nat → Int32) → ((Nat → Int32) → (Nat → Int32) → Option (Int32 × (Nat → Int32) × (Nat → Int32) × (Nat → Int32))) → Option (Int32 × (Nat → Int32) × (Nat → Int32) × (Nat → Int32))
  | 0, _, _, _, _ => none
  | n + 1, x3, v_corner, v_outside, k => (if 4 < x3 then (k v_corner v_outside) else ((f_Hull_lookAlong x2 x3 v_corner v_outside v_numbers).bind (fun (v_corner_23, v_outside_24) => (f_Hull_span_L15 x2 v_numbers n (x3 + 1) v_corner_23 v_outside_24 k))))
def f_Hull_span_L7 (v_numbers : Nat → Int32) : Nat → Int32 → (Nat → Int32) → (Nat → Int32) → ((Nat → Int32) → (Nat → Int32) → Option (Int32 × (Nat → Int32) × (Nat → Int32) × (Nat → Int32))) → Option (Int32 × (Nat → Int32) × (Nat → Int32) × (Nat → Int32))
  | 0, _, _, _, _ => none
  | n + 1, x2, v_corner, v_outside, k => (if 4 < x2 then (k v_corner v_outside) else (f_Hull_span_L15 x2 v_numbers 40 (-4) v_corner v_outside (fun (v_corner_25 : Nat → Int32) (v_outside_26 : Nat → Int32) => (f_Hull_span_L7 v_numbers n (x2 + 1) v_corner_25 v_outside_26 k))))
def f_Hull_span (v_corner : Nat → Int32) (v_outside : Nat → Int32) (v_members : Nat → Int32) (v_numbers : Nat → Int32) : Option (Int32 × (Nat → Int32) × (Nat → Int32) × (Nat → Int32)) := ((f_Hull_forget v_corner v_outside).bind (fun (v_corner_1, v_outside_2) => (f_Hull_span_L7 v_numbers 40 (-4) v_corner_1 v_outside_2 (fun (v_corner_27 : Nat → Int32) (v_outside_28 : Nat → Int32) => ((f_Hull_gatherMembers v_outside_28 v_members).bind (fun (v_size_29, v_members_30) => some (v_size_29, v_corner_27, v_outside_28, v_members_30)))))))
set_option maxHeartbeats 4000000 in
set_option maxRecDepth 100000 in
theorem w_Hull_span_L15 {p : Program} {l : Launch} {e : Env} {s : State} {m : MethodId} {args : Array Value} {below : List Frame} {meth : Method} {c : Code} {D : va_G} {cI cL cZ : ClassId} {tA tB : Nat} {A : Nat → Prop} {Q : State → Prop} {a_this a_corner a_outside a_members a_numbers : Nat} {x2 : Int32} {v_size : Int32} {v_members : Nat → Int32} {v_numbers : Nat → Int32} {o_v_size : Int32} {o_v_corner : Nat → Int32} {o_v_outside : Nat → Int32} {o_v_members : Nat → Int32} (cx : ct_Cx p s m args meth c b_Hull_span 4 none R_Hull wd_Hull_span D (ct_tys cI cL cZ) tA tB A) : ∀ (n : Nat) (x3 : Int32) (v_corner : Nat → Int32) (v_outside : Nat → Int32) (k : ((Nat → Int32) → (Nat → Int32) → Option (Int32 × (Nat → Int32) × (Nat → Int32) × (Nat → Int32)))), f_Hull_span_L15 x2 v_numbers n x3 v_corner v_outside k = some (o_v_size, o_v_corner, o_v_outside, o_v_members) → (∀ (v_corner : Nat → Int32) (v_outside : Nat → Int32), k v_corner v_outside = some (o_v_size, o_v_corner, o_v_outside, o_v_members) → ∀ (H : Heap) (locs : List Loc), va_P D vwCl [(a_this, .inr (0, [.ref a_corner, .ref a_outside, .ref a_members, .int v_size])), (a_corner, .inl (cZ, 15, .inl v_corner)), (a_outside, .inl (cZ, 6, .inl v_outside)), (a_members, .inl (cI, 6, .inl v_members)), (a_numbers, .inl (cI, 15, .inl v_numbers))] H → va_D A [(a_this, .inr (0, [.ref a_corner, .ref a_outside, .ref a_members, .int v_size])), (a_corner, .inl (cZ, 15, .inl v_corner)), (a_outside, .inl (cZ, 6, .inl v_outside)), (a_members, .inl (cI, 6, .inl v_members)), (a_numbers, .inl (cI, 15, .inl v_numbers))] → va_S A s.heap H locs → ∀ ls : Array Slot, lv_has ls 4 [(2, .int x2), (0, .ref a_this), (1, .ref a_numbers)] → W p l e (headSpec wd_Hull_span rm_Hull_span).room s m args below meth c H locs 0 0 Q (F0 m 33 ls [])) → ∀ (H : Heap) (locs : List Loc), va_P D vwCl [(a_this, .inr (0, [.ref a_corner, .ref a_outside, .ref a_members, .int v_size])), (a_corner, .inl (cZ, 15, .inl v_corner)), (a_outside, .inl (cZ, 6, .inl v_outside)), (a_members, .inl (cI, 6, .inl v_members)), (a_numbers, .inl (cI, 15, .inl v_numbers))] H → va_D A [(a_this, .inr (0, [.ref a_corner, .ref a_outside, .ref a_members, .int v_size])), (a_corner, .inl (cZ, 15, .inl v_corner)), (a_outside, .inl (cZ, 6, .inl v_outside)), (a_members, .inl (cI, 6, .inl v_members)), (a_numbers, .inl (cI, 15, .inl v_numbers))] → va_S A s.heap H locs → ∀ ls : Array Slot, lv_has ls 4 [(3, .int x3), (2, .int x2), (0, .ref a_this), (1, .ref a_numbers)] → W p l e (headSpec wd_Hull_span rm_Hull_span).room s m args below meth c H locs 0 0 Q (F0 m 15 ls []) := by
  obtain ⟨hx, hb, hr, hml, hown, hts, hK, hA, hT, hlocks, hZA, hZB, hTA, hTB, hnw⟩ := id cx
  intro n
  induction n with
  | zero => intro x3 v_corner v_outside k h; rw [f_Hull_span_L15] at h; cases h
  | succ n ih =>
    intro x3 v_corner v_outside k h hk H locs hP hD hS ls hl
    rw [f_Hull_span_L15] at h
    refine lv_iload_n hx hb d_Hull_span_15 rfl (lv_at hl 0 rfl) ?_
    refine lv_iconst (v := 4) hx hb d_Hull_span_16 (by decide) ?_
    refine lv_icmp_gt (tgt := 33) hx hb d_Hull_span_17 (by decide) (fun hc => ?_) (fun hc => ?_)
    · rw [if_pos hc] at h
      exact hk _ _ h _ _ hP hD hS ls (lv_sub hl [1, 2, 3] rfl)
    · rw [if_neg hc] at h
      refine lv_aload_n hx hb d_Hull_span_20 rfl (lv_at hl 2 rfl) ?_
      refine lv_iload_n hx hb d_Hull_span_21 rfl (lv_at hl 1 rfl) ?_
      refine lv_iload_n hx hb d_Hull_span_22 rfl (lv_at hl 0 rfl) ?_
      refine lv_aload_n hx hb d_Hull_span_23 rfl (lv_at hl 3 rfl) ?_
      obtain ⟨⟨v_corner_23, v_outside_24⟩, ho, h⟩ := Option.bind_eq_some_iff.mp h
      try dsimp only at h
      refine ct_callv (wc := [(a_this, .inr (0, [.ref a_corner, .ref a_outside, .ref a_members, .int v_size])), (a_corner, .inl (cZ, 15, .inl v_corner)), (a_outside, .inl (cZ, 6, .inl v_outside)), (a_numbers, .inl (cI, 15, .inl v_numbers))]) (wr := [(a_members, .inl (cI, 6, .inl v_members))]) (wc' := [(a_this, .inr (0, [.ref a_corner, .ref a_outside, .ref a_members, .int v_size])), (a_corner, .inl (cZ, 15, .inl v_corner_23)), (a_outside, .inl (cZ, 6, .inl v_outside_24)), (a_numbers, .inl (cI, 15, .inl v_numbers))]) (ws' := [(a_this, .inr (0, [.ref a_corner, .ref a_outside, .ref a_members, .int v_size])), (a_corner, .inl (cZ, 15, .inl v_corner_23)), (a_outside, .inl (cZ, 6, .inl v_outside_24)), (a_members, .inl (cI, 6, .inl v_members)), (a_numbers, .inl (cI, 15, .inl v_numbers))]) (va_runV (As := [.int x2, .int x3, .ref a_numbers]) (rest := []) ⟨hx, hb, hml, hown, hts⟩ (c_Hull_lookAlong l D cI cL cZ tA tB H.size a_this a_corner a_outside a_members a_numbers x2 x3 v_size v_corner v_outside v_numbers v_corner_23 v_outside_24 _ rfl ho) (cwV 3 hts (ct_goodV k_10 k_8 k_9 k_3 k_7) rfl rfl rfl (by decide +kernel) ⟨Nat.le_of_ble_eq_true rfl, Nat.le_of_ble_eq_true rfl⟩) (ct_preV (wc := [(a_this, .inr (0, [.ref a_corner, .ref a_outside, .ref a_members, .int v_size])), (a_corner, .inl (cZ, 15, .inl v_corner)), (a_outside, .inl (cZ, 6, .inl v_outside)), (a_numbers, .inl (cI, 15, .inl v_numbers))]) hP hD hK hS hA hT [0, 1, 2, 4] rfl (by decide) (ci := 0) (q0 := 0) rfl rfl) rfl rfl hl.1 rfl (lv_room (Nat.le_of_ble_eq_true rfl)) d_Hull_span_24 ⟨Nat.zero_le _, Nat.zero_le _⟩) hP hD hS hA [0, 1, 2, 4] [3] rfl rfl (by decide) (by decide) [1, 2, 3, 0, 4] rfl (by decide) (fun H locs hP hD hS => ?_)
      refine lv_iinc (v := (x3 + 1)) (lv' := [(3, .int (x3 + 1)), (2, .int x2), (0, .ref a_this), (1, .ref a_numbers)]) hx hb d_Hull_span_27 hl (k := 0) rfl rfl (by decide) rfl (fun ls hl => ?_)
      refine lv_goto (tgt := 15) hx hb d_Hull_span_30 (by decide) ?_
      exact ih _ _ _ k h hk _ _ hP hD hS ls (lv_sub hl [0, 1, 2, 3] rfl)
set_option maxHeartbeats 4000000 in
set_option maxRecDepth 100000 in
theorem w_Hull_span_L7 {p : Program} {l : Launch} {e : Env} {s : State} {m : MethodId} {args : Array Value} {below : List Frame} {meth : Method} {c : Code} {D : va_G} {cI cL cZ : ClassId} {tA tB : Nat} {A : Nat → Prop} {Q : State → Prop} {a_this a_corner a_outside a_members a_numbers : Nat} {v_size : Int32} {v_members : Nat → Int32} {v_numbers : Nat → Int32} {o_v_size : Int32} {o_v_corner : Nat → Int32} {o_v_outside : Nat → Int32} {o_v_members : Nat → Int32} (cx : ct_Cx p s m args meth c b_Hull_span 4 none R_Hull wd_Hull_span D (ct_tys cI cL cZ) tA tB A) : ∀ (n : Nat) (x2 : Int32) (v_corner : Nat → Int32) (v_outside : Nat → Int32) (k : ((Nat → Int32) → (Nat → Int32) → Option (Int32 × (Nat → Int32) × (Nat → Int32) × (Nat → Int32)))), f_Hull_span_L7 v_numbers n x2 v_corner v_outside k = some (o_v_size, o_v_corner, o_v_outside, o_v_members) → (∀ (v_corner : Nat → Int32) (v_outside : Nat → Int32), k v_corner v_outside = some (o_v_size, o_v_corner, o_v_outside, o_v_members) → ∀ (H : Heap) (locs : List Loc), va_P D vwCl [(a_this, .inr (0, [.ref a_corner, .ref a_outside, .ref a_members, .int v_size])), (a_corner, .inl (cZ, 15, .inl v_corner)), (a_outside, .inl (cZ, 6, .inl v_outside)), (a_members, .inl (cI, 6, .inl v_members)), (a_numbers, .inl (cI, 15, .inl v_numbers))] H → va_D A [(a_this, .inr (0, [.ref a_corner, .ref a_outside, .ref a_members, .int v_size])), (a_corner, .inl (cZ, 15, .inl v_corner)), (a_outside, .inl (cZ, 6, .inl v_outside)), (a_members, .inl (cI, 6, .inl v_members)), (a_numbers, .inl (cI, 15, .inl v_numbers))] → va_S A s.heap H locs → ∀ ls : Array Slot, lv_has ls 4 [(0, .ref a_this)] → W p l e (headSpec wd_Hull_span rm_Hull_span).room s m args below meth c H locs 0 0 Q (F0 m 39 ls [])) → ∀ (H : Heap) (locs : List Loc), va_P D vwCl [(a_this, .inr (0, [.ref a_corner, .ref a_outside, .ref a_members, .int v_size])), (a_corner, .inl (cZ, 15, .inl v_corner)), (a_outside, .inl (cZ, 6, .inl v_outside)), (a_members, .inl (cI, 6, .inl v_members)), (a_numbers, .inl (cI, 15, .inl v_numbers))] H → va_D A [(a_this, .inr (0, [.ref a_corner, .ref a_outside, .ref a_members, .int v_size])), (a_corner, .inl (cZ, 15, .inl v_corner)), (a_outside, .inl (cZ, 6, .inl v_outside)), (a_members, .inl (cI, 6, .inl v_members)), (a_numbers, .inl (cI, 15, .inl v_numbers))] → va_S A s.heap H locs → ∀ ls : Array Slot, lv_has ls 4 [(2, .int x2), (0, .ref a_this), (1, .ref a_numbers)] → W p l e (headSpec wd_Hull_span rm_Hull_span).room s m args below meth c H locs 0 0 Q (F0 m 7 ls []) := by
  obtain ⟨hx, hb, hr, hml, hown, hts, hK, hA, hT, hlocks, hZA, hZB, hTA, hTB, hnw⟩ := id cx
  intro n
  induction n with
  | zero => intro x2 v_corner v_outside k h; rw [f_Hull_span_L7] at h; cases h
  | succ n ih =>
    intro x2 v_corner v_outside k h hk H locs hP hD hS ls hl
    rw [f_Hull_span_L7] at h
    refine lv_iload_n hx hb d_Hull_span_7 rfl (lv_at hl 0 rfl) ?_
    refine lv_iconst (v := 4) hx hb d_Hull_span_8 (by decide) ?_
    refine lv_icmp_gt (tgt := 39) hx hb d_Hull_span_9 (by decide) (fun hc => ?_) (fun hc => ?_)
    · rw [if_pos hc] at h
      exact hk _ _ h _ _ hP hD hS ls (lv_sub hl [1] rfl)
    · rw [if_neg hc] at h
      refine lv_bipush (v := (-4)) hx hb d_Hull_span_12 (by decide) ?_
      refine lv_istore_n (lv' := [(3, .int (-4)), (2, .int x2), (0, .ref a_this), (1, .ref a_numbers)]) hx hb d_Hull_span_14 rfl hl (by decide) rfl (fun ls hl => ?_)
      refine w_Hull_span_L15 cx _ _ _ _ _ h (fun v_corner_25 v_outside_26 h H locs hP hD hS ls hl => ?_) _ _ hP hD hS ls (lv_sub hl [0, 1, 2, 3] rfl)
      try dsimp only at h
      refine lv_iinc (v := (x2 + 1)) (lv' := [(2, .int (x2 + 1)), (0, .ref a_this), (1, .ref a_numbers)]) hx hb d_Hull_span_33 hl (k := 0) rfl rfl (by decide) rfl (fun ls hl => ?_)
      refine lv_goto (tgt := 7) hx hb d_Hull_span_36 (by decide) ?_
      exact ih _ _ _ k h hk _ _ hP hD hS ls (lv_sub hl [0, 1, 2] rfl)
set_option maxHeartbeats 4000000 in
set_option maxRecDepth 100000 in
theorem w_Hull_span {p : Program} {l : Launch} {e : Env} {s : State} {m : MethodId} {args : Array Value} {below : List Frame} {meth : Method} {c : Code} {D : va_G} {cI cL cZ : ClassId} {tA tB : Nat} {A : Nat → Prop} {a_this a_corner a_outside a_members a_numbers : Nat} {v_size : Int32} {v_corner : Nat → Int32} {v_outside : Nat → Int32} {v_members : Nat → Int32} {v_numbers : Nat → Int32} {o_v_size : Int32} {o_v_corner : Nat → Int32} {o_v_outside : Nat → Int32} {o_v_members : Nat → Int32} (cx : ct_Cx p s m args meth c b_Hull_span 4 none R_Hull wd_Hull_span D (ct_tys cI cL cZ) tA tB A) (h : f_Hull_span v_corner v_outside v_members v_numbers = some (o_v_size, o_v_corner, o_v_outside, o_v_members)) : ∀ (H : Heap) (locs : List Loc), va_P D vwCl [(a_this, .inr (0, [.ref a_corner, .ref a_outside, .ref a_members, .int v_size])), (a_corner, .inl (cZ, 15, .inl v_corner)), (a_outside, .inl (cZ, 6, .inl v_outside)), (a_members, .inl (cI, 6, .inl v_members)), (a_numbers, .inl (cI, 15, .inl v_numbers))] H → va_D A [(a_this, .inr (0, [.ref a_corner, .ref a_outside, .ref a_members, .int v_size])), (a_corner, .inl (cZ, 15, .inl v_corner)), (a_outside, .inl (cZ, 6, .inl v_outside)), (a_members, .inl (cI, 6, .inl v_members)), (a_numbers, .inl (cI, 15, .inl v_numbers))] → va_S A s.heap H locs → ∀ ls : Array Slot, lv_has ls 4 [(0, .ref a_this), (1, .ref a_numbers)] → W p l e (headSpec wd_Hull_span rm_Hull_span).room s m args below meth c H locs 0 0 (MQ below (ct_Qv D [(a_this, .inr (0, [.ref a_corner, .ref a_outside, .ref a_members, .int o_v_size])), (a_corner, .inl (cZ, 15, .inl o_v_corner)), (a_outside, .inl (cZ, 6, .inl o_v_outside)), (a_members, .inl (cI, 6, .inl o_v_members)), (a_numbers, .inl (cI, 15, .inl v_numbers))] A) args s 0 0 A) (F0 m 0 ls []) := by
  obtain ⟨hx, hb, hr, hml, hown, hts, hK, hA, hT, hlocks, hZA, hZB, hTA, hTB, hnw⟩ := id cx
  intro H locs hP hD hS ls hl
  rw [f_Hull_span] at h
  refine lv_aload_n hx hb d_Hull_span_0 rfl (lv_at hl 0 rfl) ?_
  obtain ⟨⟨v_corner_1, v_outside_2⟩, ho, h⟩ := Option.bind_eq_some_iff.mp h
  try dsimp only at h
  refine ct_callv (wc := [(a_this, .inr (0, [.ref a_corner, .ref a_outside, .ref a_members, .int v_size])), (a_corner, .inl (cZ, 15, .inl v_corner)), (a_outside, .inl (cZ, 6, .inl v_outside))]) (wr := [(a_members, .inl (cI, 6, .inl v_members)), (a_numbers, .inl (cI, 15, .inl v_numbers))]) (wc' := [(a_this, .inr (0, [.ref a_corner, .ref a_outside, .ref a_members, .int v_size])), (a_corner, .inl (cZ, 15, .inl v_corner_1)), (a_outside, .inl (cZ, 6, .inl v_outside_2))]) (ws' := [(a_this, .inr (0, [.ref a_corner, .ref a_outside, .ref a_members, .int v_size])), (a_corner, .inl (cZ, 15, .inl v_corner_1)), (a_outside, .inl (cZ, 6, .inl v_outside_2)), (a_members, .inl (cI, 6, .inl v_members)), (a_numbers, .inl (cI, 15, .inl v_numbers))]) (va_runV (As := []) (rest := []) ⟨hx, hb, hml, hown, hts⟩ (c_Hull_forget l D cI cL cZ tA tB H.size a_this a_corner a_outside a_members v_size v_corner v_outside v_corner_1 v_outside_2 _ rfl ho) (cwV 0 hts (ct_goodV k_6 k_4 k_5 k_3 k_2) rfl rfl rfl (by decide +kernel) ⟨Nat.le_of_ble_eq_true rfl, Nat.le_of_ble_eq_true rfl⟩) (ct_preV (wc := [(a_this, .inr (0, [.ref a_corner, .ref a_outside, .ref a_members, .int v_size])), (a_corner, .inl (cZ, 15, .inl v_corner)), (a_outside, .inl (cZ, 6, .inl v_outside))]) hP hD hK hS hA hT [0, 1, 2] rfl (by decide) (ci := 0) (q0 := 0) rfl rfl) rfl rfl hl.1 rfl (lv_room (Nat.le_of_ble_eq_true rfl)) d_Hull_span_1 ⟨Nat.zero_le _, Nat.zero_le _⟩) hP hD hS hA [0, 1, 2] [3, 4] rfl rfl (by decide) (by decide) [2, 3, 4, 0, 1] rfl (by decide) (fun H locs hP hD hS => ?_)
  refine lv_bipush (v := (-4)) hx hb d_Hull_span_4 (by decide) ?_
  refine lv_istore_n (lv' := [(2, .int (-4)), (0, .ref a_this), (1, .ref a_numbers)]) hx hb d_Hull_span_6 rfl hl (by decide) rfl (fun ls hl => ?_)
  refine w_Hull_span_L7 cx _ _ _ _ _ h (fun v_corner_27 v_outside_28 h H locs hP hD hS ls hl => ?_) _ _ hP hD hS ls (lv_sub hl [0, 1, 2] rfl)
  try dsimp only at h
  refine lv_aload_n hx hb d_Hull_span_39 rfl (lv_at hl 0 rfl) ?_
  obtain ⟨⟨v_size_29, v_members_30⟩, ho, h⟩ := Option.bind_eq_some_iff.mp h
  try dsimp only at h
  refine ct_callv (wc := [(a_this, .inr (0, [.ref a_corner, .ref a_outside, .ref a_members, .int v_size])), (a_outside, .inl (cZ, 6, .inl v_outside_28)), (a_members, .inl (cI, 6, .inl v_members))]) (wr := [(a_corner, .inl (cZ, 15, .inl v_corner_27)), (a_numbers, .inl (cI, 15, .inl v_numbers))]) (wc' := [(a_this, .inr (0, [.ref a_corner, .ref a_outside, .ref a_members, .int v_size_29])), (a_outside, .inl (cZ, 6, .inl v_outside_28)), (a_members, .inl (cI, 6, .inl v_members_30))]) (ws' := [(a_this, .inr (0, [.ref a_corner, .ref a_outside, .ref a_members, .int v_size_29])), (a_corner, .inl (cZ, 15, .inl v_corner_27)), (a_outside, .inl (cZ, 6, .inl v_outside_28)), (a_members, .inl (cI, 6, .inl v_members_30)), (a_numbers, .inl (cI, 15, .inl v_numbers))]) (va_runV (As := []) (rest := []) ⟨hx, hb, hml, hown, hts⟩ (c_Hull_gatherMembers l D cI cL cZ tA tB H.size a_this a_corner a_outside a_members v_size v_outside_28 v_members v_size_29 v_members_30 _ rfl ho) (cwV 0 hts (ct_goodV k_16 k_14 k_15 k_3 k_13) rfl rfl rfl (by decide +kernel) ⟨Nat.le_of_ble_eq_true rfl, Nat.le_of_ble_eq_true rfl⟩) (ct_preV (wc := [(a_this, .inr (0, [.ref a_corner, .ref a_outside, .ref a_members, .int v_size])), (a_outside, .inl (cZ, 6, .inl v_outside_28)), (a_members, .inl (cI, 6, .inl v_members))]) hP hD hK hS hA hT [0, 2, 3] rfl (by decide) (ci := 0) (q0 := 0) rfl rfl) rfl rfl hl.1 rfl (lv_room (Nat.le_of_ble_eq_true rfl)) d_Hull_span_40 ⟨Nat.zero_le _, Nat.zero_le _⟩) hP hD hS hA [0, 2, 3] [1, 4] rfl rfl (by decide) (by decide) [2, 0, 3, 4, 1] rfl (by decide) (fun H locs hP hD hS => ?_)
  cases h
  exact W.vret hx hb hr (fun t ht hW => ⟨⟨(), rfl, trivial, by rw [ht]; exact hP, hD⟩, hS.F ht⟩) hS.2.2 d_Hull_span_43
set_option maxHeartbeats 4000000 in
set_option maxRecDepth 100000 in
theorem c_Hull_span (l : Launch) (D : va_G) (cI cL cZ : ClassId) (tA tB sz : Nat) (a_this a_corner a_outside a_members a_numbers : Nat) (v_size : Int32) (v_corner : Nat → Int32) (v_outside : Nat → Int32) (v_members : Nat → Int32) (v_numbers : Nat → Int32) (o_v_size : Int32) (o_v_corner : Nat → Int32) (o_v_outside : Nat → Int32) (o_v_members : Nat → Int32) (A : Nat → Prop) (hAe : A = va_A [(a_this, .inr (0, [.ref a_corner, .ref a_outside, .ref a_members, .int v_size])), (a_corner, .inl (cZ, 15, .inl v_corner)), (a_outside, .inl (cZ, 6, .inl v_outside)), (a_members, .inl (cI, 6, .inl v_members)), (a_numbers, .inl (cI, 15, .inl v_numbers))] sz) (h : f_Hull_span v_corner v_outside v_members v_numbers = some (o_v_size, o_v_corner, o_v_outside, o_v_members)) : Met l y_Hull_span wd_Hull_span rm_Hull_span (ct_Pre D (ct_tys cI cL cZ) tA tB [(a_this, .inr (0, [.ref a_corner, .ref a_outside, .ref a_members, .int v_size])), (a_corner, .inl (cZ, 15, .inl v_corner)), (a_outside, .inl (cZ, 6, .inl v_outside)), (a_members, .inl (cI, 6, .inl v_members)), (a_numbers, .inl (cI, 15, .inl v_numbers))] sz [.ref a_this, .ref a_numbers]) (ct_Qv D [(a_this, .inr (0, [.ref a_corner, .ref a_outside, .ref a_members, .int o_v_size])), (a_corner, .inl (cZ, 15, .inl o_v_corner)), (a_outside, .inl (cZ, 6, .inl o_v_outside)), (a_members, .inl (cI, 6, .inl o_v_members)), (a_numbers, .inl (cI, 15, .inl v_numbers))] A) 0 0 A := by
  refine Met.ofW (cc := b_Hull_span) (maxL := 4) (ret := none) (by decide) rfl ?_
  intro p e s m args below meth c s₁ B hml hv
  obtain ⟨hargs, hsz, hP, hK, hD0, hT⟩ := hv
  subst hsz
  have hD := hD0.self (sz := s.heap.size)
  rw [← hAe] at hD hT
  have hA : ∀ q : Nat, s.heap.size ≤ q → A q := fun q h => by rw [hAe]; exact Or.inr h
  clear hAe
  have cx : ct_Cx p s m args meth c b_Hull_span 4 none R_Hull wd_Hull_span D (ct_tys cI cL cZ) tA tB A := ⟨B.exec, B.bytes, B.returns, hml, findClass_of_methodNamed B.named, atoms_spec (ws := wd_Hull_span) B.pre, hK, hA, hT, B.notSynchronized, hT.1, hT.2.1, hT.2.2.1, hT.2.2.2.1, hT.2.2.2.2⟩
  have hl := lv_entry ([.ref a_this, .ref a_numbers]) (n := 4) (Nat.le_of_ble_eq_true rfl)
  rw [show entryFrame m args 4 = entryFrame m ([.ref a_this, .ref a_numbers] : List Value).toArray 4 by rw [hargs], lg_entry_eq]
  exact w_Hull_span cx h _ _ hP hD va_S.rf _ hl
abbrev rm_Hull_hasBarredCorner : Room := { frames := 0, cells := 0, slots := 0, locals := 0 }
abbrev wd_Hull_hasBarredCorner : List Cond := .code y_Hull_hasBarredCorner b_Hull_hasBarredCorner 4 (some .boolean) :: ct_G
def f_Hull_hasBarredCorner_L2 (v_corner : Nat → Int32) (v_numbers : Nat → Int32) : Nat → Int32 → (Unit → Option (Int32)) → Option (Int32)
  | 0, _, _ => none
  | n + 1, x2, k => (if 15 ≤ x2 then k () else (if x2 < 0 ∨ 15 ≤ x2.toNatClampNeg then none else (ct_jn (fun (j3 : Int32 → Option (Int32)) => (if ((pwA x2.toNatClampNeg) - (pwA x2.toNatClampNeg) / 2 * 2) = 0 then (if x2 < 0 ∨ 15 ≤ x2.toNatClampNeg then none else (if ((pwB x2.toNatClampNeg) - (pwB x2.toNatClampNeg) / 2 * 2) = 0 then (j3 0) else (j3 1))) else (j3 1))) (fun (s_3 : Int32) => (if x2 < 0 ∨ 15 ≤ x2.toNatClampNeg then none else (if (v_corner x2.toNatClampNeg) = 0 then (f_Hull_hasBarredCorner_L2 v_corner v_numbers n (x2 + 1) k) else (if s_3 = 0 then (if x2 < 0 ∨ 15 ≤ x2.toNatClampNeg then none else (if 0 ≤ (v_numbers x2.toNatClampNeg) then (f_Hull_hasBarredCorner_L2 v_corner v_numbers n (x2 + 1) k) else some (1 : Int32))) else some (1 : Int32))))))))
def f_Hull_hasBarredCorner (v_corner : Nat → Int32) (v_numbers : Nat → Int32) : Option (Int32) := (f_Hull_hasBarredCorner_L2 v_corner v_numbers 40 0 (fun (_ : Unit) => some (0 : Int32)))
set_option maxHeartbeats 4000000 in
set_option maxRecDepth 100000 in
theorem w_Hull_hasBarredCorner_L2 {p : Program} {l : Launch} {e : Env} {s : State} {m : MethodId} {args : Array Value} {below : List Frame} {meth : Method} {c : Code} {D : va_G} {cI cL cZ : ClassId} {tA tB : Nat} {A : Nat → Prop} {a_this a_corner a_outside a_members a_numbers : Nat} {v_size : Int32} {v_corner : Nat → Int32} {v_numbers : Nat → Int32} {o_r : Int32} (cx : ct_Cx p s m args meth c b_Hull_hasBarredCorner 4 (some .boolean) R_Hull wd_Hull_hasBarredCorner D (ct_tys cI cL cZ) tA tB A) : ∀ (n : Nat) (x2 : Int32) (k : (Unit → Option (Int32))), f_Hull_hasBarredCorner_L2 v_corner v_numbers n x2 k = some o_r → (∀ (u : Unit), k u = some o_r → ∀ (H : Heap) (locs : List Loc), va_P D vwCl [(a_this, .inr (0, [.ref a_corner, .ref a_outside, .ref a_members, .int v_size])), (a_corner, .inl (cZ, 15, .inl v_corner)), (a_numbers, .inl (cI, 15, .inl v_numbers))] H → va_D A [(a_this, .inr (0, [.ref a_corner, .ref a_outside, .ref a_members, .int v_size])), (a_corner, .inl (cZ, 15, .inl v_corner)), (a_numbers, .inl (cI, 15, .inl v_numbers))] → va_S A s.heap H locs → ∀ ls : Array Slot, lv_has ls 4 [] → W p l e (headSpec wd_Hull_hasBarredCorner rm_Hull_hasBarredCorner).room s m args below meth c H locs 0 0 (MQ below (ct_Qi D [(a_this, .inr (0, [.ref a_corner, .ref a_outside, .ref a_members, .int v_size])), (a_corner, .inl (cZ, 15, .inl v_corner)), (a_numbers, .inl (cI, 15, .inl v_numbers))] A o_r) args s 0 0 A) (F0 m 61 ls [])) → ∀ (H : Heap) (locs : List Loc), va_P D vwCl [(a_this, .inr (0, [.ref a_corner, .ref a_outside, .ref a_members, .int v_size])), (a_corner, .inl (cZ, 15, .inl v_corner)), (a_numbers, .inl (cI, 15, .inl v_numbers))] H → va_D A [(a_this, .inr (0, [.ref a_corner, .ref a_outside, .ref a_members, .int v_size])), (a_corner, .inl (cZ, 15, .inl v_corner)), (a_numbers, .inl (cI, 15, .inl v_numbers))] → va_S A s.heap H locs → ∀ ls : Array Slot, lv_has ls 4 [(2, .int x2), (0, .ref a_this), (1, .ref a_numbers)] → W p l e (headSpec wd_Hull_hasBarredCorner rm_Hull_hasBarredCorner).room s m args below meth c H locs 0 0 (MQ below (ct_Qi D [(a_this, .inr (0, [.ref a_corner, .ref a_outside, .ref a_members, .int v_size])), (a_corner, .inl (cZ, 15, .inl v_corner)), (a_numbers, .inl (cI, 15, .inl v_numbers))] A o_r) args s 0 0 A) (F0 m 2 ls []) := by
  obtain ⟨hx, hb, hr, hml, hown, hts, hK, hA, hT, hlocks, hZA, hZB, hTA, hTB, hnw⟩ := id cx
  intro n
  induction n with
  | zero => intro x2 k h; rw [f_Hull_hasBarredCorner_L2] at h; cases h
  | succ n ih =>
    intro x2 k h hk H locs hP hD hS ls hl
    rw [f_Hull_hasBarredCorner_L2] at h
    refine lv_iload_n hx hb d_Hull_hasBarredCorner_2 rfl (lv_at hl 0 rfl) ?_
    refine lv_bipush (v := 15) hx hb d_Hull_hasBarredCorner_3 (by decide) ?_
    refine lv_icmp_ge (tgt := 61) hx hb d_Hull_hasBarredCorner_5 (by decide) (fun hc => ?_) (fun hc => ?_)
    · rw [if_pos hc] at h
      exact hk _ h _ _ hP hD hS ls (lv_sub hl [] rfl)
    · rw [if_neg hc] at h
      refine va_getsN hx hb hZA hS hown (ct_nest_use n_0 hnw) (fun _ h9 => h9) d_Hull_hasBarredCorner_8 ?_
      refine lv_iload_n hx hb d_Hull_hasBarredCorner_11 rfl (lv_at hl 0 rfl) ?_
      obtain ⟨hin, h⟩ := ct_chk h
      refine va_ti hx hb hTA hS hin (v := .int (pwA x2.toNatClampNeg)) rfl d_Hull_hasBarredCorner_12 ?_
      refine lv_iconst (v := 2) hx hb d_Hull_hasBarredCorner_13 (by decide) ?_
      refine lv_irem hx hb d_Hull_hasBarredCorner_14 (by decide) ?_
      obtain ⟨j3, hjd3, h⟩ := ct_jn_elim h
      try dsimp only at h
      have hj3 : ∀ (s_3 : Int32), j3 s_3 = some o_r → ∀ (H : Heap) (locs : List Loc), va_P D vwCl [(a_this, .inr (0, [.ref a_corner, .ref a_outside, .ref a_members, .int v_size])), (a_corner, .inl (cZ, 15, .inl v_corner)), (a_numbers, .inl (cI, 15, .inl v_numbers))] H → va_D A [(a_this, .inr (0, [.ref a_corner, .ref a_outside, .ref a_members, .int v_size])), (a_corner, .inl (cZ, 15, .inl v_corner)), (a_numbers, .inl (cI, 15, .inl v_numbers))] → va_S A s.heap H locs → ∀ ls : Array Slot, lv_has ls 4 [(2, .int x2), (0, .ref a_this), (1, .ref a_numbers)] → W p l e (headSpec wd_Hull_hasBarredCorner rm_Hull_hasBarredCorner).room s m args below meth c H locs 0 0 (MQ below (ct_Qi D [(a_this, .inr (0, [.ref a_corner, .ref a_outside, .ref a_members, .int v_size])), (a_corner, .inl (cZ, 15, .inl v_corner)), (a_numbers, .inl (cI, 15, .inl v_numbers))] A o_r) args s 0 0 A) (F0 m 33 ls [.int s_3]) := by
        intro s_3 h H locs hP hD hS ls hl
        rw [hjd3] at h
        try dsimp only at h
        refine lv_istore_n (lv' := [(3, .int s_3), (2, .int x2), (0, .ref a_this), (1, .ref a_numbers)]) hx hb d_Hull_hasBarredCorner_33 rfl hl (by decide) rfl (fun ls hl => ?_)
        refine lv_aload_n hx hb d_Hull_hasBarredCorner_34 rfl (lv_at hl 2 rfl) ?_
        refine va_get (D := D) (ci := 0) (v := .ref a_corner) (C := R_Hull) (T := T_Hull) (N := 4) hx hb hts (fun w h9 => ct_in (iw_Hull w h9)) hown hK hP 0 rfl rfl 0 (by decide) (hts _ (ct_in k_0)) (fun _ h9 => h9) rfl d_Hull_hasBarredCorner_35 ?_
        refine lv_iload_n hx hb d_Hull_hasBarredCorner_38 rfl (lv_at hl 1 rfl) ?_
        obtain ⟨hin, h⟩ := ct_chk h
        refine va_zald hx hb hK hP 1 2 rfl rfl hin d_Hull_hasBarredCorner_39 ?_
        refine lv_if_eq (tgt := 55) hx hb d_Hull_hasBarredCorner_40 (by decide) (fun hc => ?_) (fun hc => ?_)
        · rw [if_pos hc] at h
          refine lv_iinc (v := (x2 + 1)) (lv' := [(2, .int (x2 + 1)), (3, .int s_3), (0, .ref a_this), (1, .ref a_numbers)]) hx hb d_Hull_hasBarredCorner_55 hl (k := 1) rfl rfl (by decide) rfl (fun ls hl => ?_)
          refine lv_goto (tgt := 2) hx hb d_Hull_hasBarredCorner_58 (by decide) ?_
          exact ih _ k h hk _ _ hP hD hS ls (lv_sub hl [0, 2, 3] rfl)
        · rw [if_neg hc] at h
          refine lv_iload_n hx hb d_Hull_hasBarredCorner_43 rfl (lv_at hl 0 rfl) ?_
          refine lv_if_ne (tgt := 53) hx hb d_Hull_hasBarredCorner_44 (by decide) (fun hc => ?_) (fun hc => ?_)
          · rw [if_neg hc] at h
            refine lv_iconst (v := 1) hx hb d_Hull_hasBarredCorner_53 (by decide) ?_
            cases h
            exact W.zret hx hb hr rfl (fun t ht hW => ⟨⟨_, (), rfl, rfl, by rw [ht]; exact hP, hD⟩, hS.F ht⟩) hS.2.2 d_Hull_hasBarredCorner_54
          · rw [if_pos hc] at h
            refine lv_aload_n hx hb d_Hull_hasBarredCorner_47 rfl (lv_at hl 3 rfl) ?_
            refine lv_iload_n hx hb d_Hull_hasBarredCorner_48 rfl (lv_at hl 1 rfl) ?_
            obtain ⟨hin, h⟩ := ct_chk h
            refine va_iald hx hb hK hP 2 0 rfl rfl hin d_Hull_hasBarredCorner_49 ?_
            refine lv_if_ge (tgt := 55) hx hb d_Hull_hasBarredCorner_50 (by decide) (fun hc => ?_) (fun hc => ?_)
            · rw [if_pos hc] at h
              refine lv_iinc (v := (x2 + 1)) (lv' := [(2, .int (x2 + 1)), (3, .int s_3), (0, .ref a_this), (1, .ref a_numbers)]) hx hb d_Hull_hasBarredCorner_55 hl (k := 1) rfl rfl (by decide) rfl (fun ls hl => ?_)
              refine lv_goto (tgt := 2) hx hb d_Hull_hasBarredCorner_58 (by decide) ?_
              exact ih _ k h hk _ _ hP hD hS ls (lv_sub hl [0, 2, 3] rfl)
            · rw [if_neg hc] at h
              refine lv_iconst (v := 1) hx hb d_Hull_hasBarredCorner_53 (by decide) ?_
              cases h
              exact W.zret hx hb hr rfl (fun t ht hW => ⟨⟨_, (), rfl, rfl, by rw [ht]; exact hP, hD⟩, hS.F ht⟩) hS.2.2 d_Hull_hasBarredCorner_54
      clear hjd3
      refine lv_if_ne (tgt := 28) hx hb d_Hull_hasBarredCorner_15 (by decide) (fun hc => ?_) (fun hc => ?_)
      · rw [if_neg hc] at h
        refine lv_iconst (v := 1) hx hb d_Hull_hasBarredCorner_28 (by decide) ?_
        refine lv_goto (tgt := 33) hx hb d_Hull_hasBarredCorner_29 (by decide) ?_
        exact hj3 _ h _ _ hP hD hS ls (lv_sub hl [0, 1, 2] rfl)
      · rw [if_pos hc] at h
        refine va_getsN hx hb hZB hS hown (ct_nest_use n_1 hnw) (fun _ h9 => h9) d_Hull_hasBarredCorner_18 ?_
        refine lv_iload_n hx hb d_Hull_hasBarredCorner_21 rfl (lv_at hl 0 rfl) ?_
        obtain ⟨hin, h⟩ := ct_chk h
        refine va_ti hx hb hTB hS hin (v := .int (pwB x2.toNatClampNeg)) rfl d_Hull_hasBarredCorner_22 ?_
        refine lv_iconst (v := 2) hx hb d_Hull_hasBarredCorner_23 (by decide) ?_
        refine lv_irem hx hb d_Hull_hasBarredCorner_24 (by decide) ?_
        refine lv_if_eq (tgt := 32) hx hb d_Hull_hasBarredCorner_25 (by decide) (fun hc => ?_) (fun hc => ?_)
        · rw [if_pos hc] at h
          refine lv_iconst (v := 0) hx hb d_Hull_hasBarredCorner_32 (by decide) ?_
          exact hj3 _ h _ _ hP hD hS ls (lv_sub hl [0, 1, 2] rfl)
        · rw [if_neg hc] at h
          refine lv_iconst (v := 1) hx hb d_Hull_hasBarredCorner_28 (by decide) ?_
          refine lv_goto (tgt := 33) hx hb d_Hull_hasBarredCorner_29 (by decide) ?_
          exact hj3 _ h _ _ hP hD hS ls (lv_sub hl [0, 1, 2] rfl)
set_option maxHeartbeats 4000000 in
set_option maxRecDepth 100000 in
theorem w_Hull_hasBarredCorner {p : Program} {l : Launch} {e : Env} {s : State} {m : MethodId} {args : Array Value} {below : List Frame} {meth : Method} {c : Code} {D : va_G} {cI cL cZ : ClassId} {tA tB : Nat} {A : Nat → Prop} {a_this a_corner a_outside a_members a_numbers : Nat} {v_size : Int32} {v_corner : Nat → Int32} {v_numbers : Nat → Int32} {o_r : Int32} (cx : ct_Cx p s m args meth c b_Hull_hasBarredCorner 4 (some .boolean) R_Hull wd_Hull_hasBarredCorner D (ct_tys cI cL cZ) tA tB A) (h : f_Hull_hasBarredCorner v_corner v_numbers = some o_r) : ∀ (H : Heap) (locs : List Loc), va_P D vwCl [(a_this, .inr (0, [.ref a_corner, .ref a_outside, .ref a_members, .int v_size])), (a_corner, .inl (cZ, 15, .inl v_corner)), (a_numbers, .inl (cI, 15, .inl v_numbers))] H → va_D A [(a_this, .inr (0, [.ref a_corner, .ref a_outside, .ref a_members, .int v_size])), (a_corner, .inl (cZ, 15, .inl v_corner)), (a_numbers, .inl (cI, 15, .inl v_numbers))] → va_S A s.heap H locs → ∀ ls : Array Slot, lv_has ls 4 [(0, .ref a_this), (1, .ref a_numbers)] → W p l e (headSpec wd_Hull_hasBarredCorner rm_Hull_hasBarredCorner).room s m args below meth c H locs 0 0 (MQ below (ct_Qi D [(a_this, .inr (0, [.ref a_corner, .ref a_outside, .ref a_members, .int v_size])), (a_corner, .inl (cZ, 15, .inl v_corner)), (a_numbers, .inl (cI, 15, .inl v_numbers))] A o_r) args s 0 0 A) (F0 m 0 ls []) := by
  obtain ⟨hx, hb, hr, hml, hown, hts, hK, hA, hT, hlocks, hZA, hZB, hTA, hTB, hnw⟩ := id cx
  intro H locs hP hD hS ls hl
  rw [f_Hull_hasBarredCorner] at h
  refine lv_iconst (v := 0) hx hb d_Hull_hasBarredCorner_0 (by decide) ?_
  refine lv_istore_n (lv' := [(2, .int 0), (0, .ref a_this), (1, .ref a_numbers)]) hx hb d_Hull_hasBarredCorner_1 rfl hl (by decide) rfl (fun ls hl => ?_)
  refine w_Hull_hasBarredCorner_L2 cx _ _ _ h (fun _ h H locs hP hD hS ls hl => ?_) _ _ hP hD hS ls (lv_sub hl [0, 1, 2] rfl)
  try dsimp only at h
  refine lv_iconst (v := 0) hx hb d_Hull_hasBarredCorner_61 (by decide) ?_
  cases h
  exact W.zret hx hb hr rfl (fun t ht hW => ⟨⟨_, (), rfl, rfl, by rw [ht]; exact hP, hD⟩, hS.F ht⟩) hS.2.2 d_Hull_hasBarredCorner_62
set_option maxHeartbeats 4000000 in
set_option maxRecDepth 100000 in
theorem c_Hull_hasBarredCorner (l : Launch) (D : va_G) (cI cL cZ : ClassId) (tA tB sz : Nat) (a_this a_corner a_outside a_members a_numbers : Nat) (v_size : Int32) (v_corner : Nat → Int32) (v_numbers : Nat → Int32) (o_r : Int32) (A : Nat → Prop) (hAe : A = va_A [(a_this, .inr (0, [.ref a_corner, .ref a_outside, .ref a_members, .int v_size])), (a_corner, .inl (cZ, 15, .inl v_corner)), (a_numbers, .inl (cI, 15, .inl v_numbers))] sz) (h : f_Hull_hasBarredCorner v_corner v_numbers = some o_r) : Met l y_Hull_hasBarredCorner wd_Hull_hasBarredCorner rm_Hull_hasBarredCorner (ct_Pre D (ct_tys cI cL cZ) tA tB [(a_this, .inr (0, [.ref a_corner, .ref a_outside, .ref a_members, .int v_size])), (a_corner, .inl (cZ, 15, .inl v_corner)), (a_numbers, .inl (cI, 15, .inl v_numbers))] sz [.ref a_this, .ref a_numbers]) (ct_Qi D [(a_this, .inr (0, [.ref a_corner, .ref a_outside, .ref a_members, .int v_size])), (a_corner, .inl (cZ, 15, .inl v_corner)), (a_numbers, .inl (cI, 15, .inl v_numbers))] A o_r) 0 0 A := by
  refine Met.ofW (cc := b_Hull_hasBarredCorner) (maxL := 4) (ret := (some .boolean)) (by decide) rfl ?_
  intro p e s m args below meth c s₁ B hml hv
  obtain ⟨hargs, hsz, hP, hK, hD0, hT⟩ := hv
  subst hsz
  have hD := hD0.self (sz := s.heap.size)
  rw [← hAe] at hD hT
  have hA : ∀ q : Nat, s.heap.size ≤ q → A q := fun q h => by rw [hAe]; exact Or.inr h
  clear hAe
  have cx : ct_Cx p s m args meth c b_Hull_hasBarredCorner 4 (some .boolean) R_Hull wd_Hull_hasBarredCorner D (ct_tys cI cL cZ) tA tB A := ⟨B.exec, B.bytes, B.returns, hml, findClass_of_methodNamed B.named, atoms_spec (ws := wd_Hull_hasBarredCorner) B.pre, hK, hA, hT, B.notSynchronized, hT.1, hT.2.1, hT.2.2.1, hT.2.2.2.1, hT.2.2.2.2⟩
  have hl := lv_entry ([.ref a_this, .ref a_numbers]) (n := 4) (Nat.le_of_ble_eq_true rfl)
  rw [show entryFrame m args 4 = entryFrame m ([.ref a_this, .ref a_numbers] : List Value).toArray 4 by rw [hargs], lg_entry_eq]
  exact w_Hull_hasBarredCorner cx h _ _ hP hD va_S.rf _ hl
abbrev rm_Hull_cornerCount : Room := { frames := 0, cells := 0, slots := 0, locals := 0 }
abbrev wd_Hull_cornerCount : List Cond := .code y_Hull_cornerCount b_Hull_cornerCount 3 (some .int) :: ct_G
def f_Hull_cornerCount_L4 (v_corner : Nat → Int32) : Nat → Int32 → Int32 → (Int32 → Option (Int32)) → Option (Int32)
  | 0, _, _, _ => none
  | n + 1, x2, x1, k => (if 15 ≤ x2 then (k x1) else (if x2 < 0 ∨ 15 ≤ x2.toNatClampNeg then none else (if (v_corner x2.toNatClampNeg) = 0 then (f_Hull_cornerCount_L4 v_corner n (x2 + 1) x1 k) else (f_Hull_cornerCount_L4 v_corner n (x2 + 1) (x1 + 1) k))))
def f_Hull_cornerCount (v_corner : Nat → Int32) : Option (Int32) := (f_Hull_cornerCount_L4 v_corner 40 0 0 (fun (y1_4 : Int32) => some y1_4))
set_option maxHeartbeats 4000000 in
set_option maxRecDepth 100000 in
theorem w_Hull_cornerCount_L4 {p : Program} {l : Launch} {e : Env} {s : State} {m : MethodId} {args : Array Value} {below : List Frame} {meth : Method} {c : Code} {D : va_G} {cI cL cZ : ClassId} {tA tB : Nat} {A : Nat → Prop} {Q : State → Prop} {a_this a_corner a_outside a_members : Nat} {v_size : Int32} {v_corner : Nat → Int32} {o_r : Int32} (cx : ct_Cx p s m args meth c b_Hull_cornerCount 3 (some .int) R_Hull wd_Hull_cornerCount D (ct_tys cI cL cZ) tA tB A) : ∀ (n : Nat) (x2 : Int32) (x1 : Int32) (k : (Int32 → Option (Int32))), f_Hull_cornerCount_L4 v_corner n x2 x1 k = some o_r → (∀ (x1 : Int32), k x1 = some o_r → ∀ (H : Heap) (locs : List Loc), va_P D vwCl [(a_this, .inr (0, [.ref a_corner, .ref a_outside, .ref a_members, .int v_size])), (a_corner, .inl (cZ, 15, .inl v_corner))] H → va_D A [(a_this, .inr (0, [.ref a_corner, .ref a_outside, .ref a_members, .int v_size])), (a_corner, .inl (cZ, 15, .inl v_corner))] → va_S A s.heap H locs → ∀ ls : Array Slot, lv_has ls 3 [(1, .int x1)] → W p l e (headSpec wd_Hull_cornerCount rm_Hull_cornerCount).room s m args below meth c H locs 0 0 Q (F0 m 28 ls [])) → ∀ (H : Heap) (locs : List Loc), va_P D vwCl [(a_this, .inr (0, [.ref a_corner, .ref a_outside, .ref a_members, .int v_size])), (a_corner, .inl (cZ, 15, .inl v_corner))] H → va_D A [(a_this, .inr (0, [.ref a_corner, .ref a_outside, .ref a_members, .int v_size])), (a_corner, .inl (cZ, 15, .inl v_corner))] → va_S A s.heap H locs → ∀ ls : Array Slot, lv_has ls 3 [(2, .int x2), (1, .int x1), (0, .ref a_this)] → W p l e (headSpec wd_Hull_cornerCount rm_Hull_cornerCount).room s m args below meth c H locs 0 0 Q (F0 m 4 ls []) := by
  obtain ⟨hx, hb, hr, hml, hown, hts, hK, hA, hT, hlocks, hZA, hZB, hTA, hTB, hnw⟩ := id cx
  intro n
  induction n with
  | zero => intro x2 x1 k h; rw [f_Hull_cornerCount_L4] at h; cases h
  | succ n ih =>
    intro x2 x1 k h hk H locs hP hD hS ls hl
    rw [f_Hull_cornerCount_L4] at h
    refine lv_iload_n hx hb d_Hull_cornerCount_4 rfl (lv_at hl 0 rfl) ?_
    refine lv_bipush (v := 15) hx hb d_Hull_cornerCount_5 (by decide) ?_
    refine lv_icmp_ge (tgt := 28) hx hb d_Hull_cornerCount_7 (by decide) (fun hc => ?_) (fun hc => ?_)
    · rw [if_pos hc] at h
      exact hk _ h _ _ hP hD hS ls (lv_sub hl [1] rfl)
    · rw [if_neg hc] at h
      refine lv_aload_n hx hb d_Hull_cornerCount_10 rfl (lv_at hl 2 rfl) ?_
      refine va_get (D := D) (ci := 0) (v := .ref a_corner) (C := R_Hull) (T := T_Hull) (N := 4) hx hb hts (fun w h9 => ct_in (iw_Hull w h9)) hown hK hP 0 rfl rfl 0 (by decide) (hts _ (ct_in k_0)) (fun _ h9 => h9) rfl d_Hull_cornerCount_11 ?_
      refine lv_iload_n hx hb d_Hull_cornerCount_14 rfl (lv_at hl 0 rfl) ?_
      obtain ⟨hin, h⟩ := ct_chk h
      refine va_zald hx hb hK hP 1 2 rfl rfl hin d_Hull_cornerCount_15 ?_
      refine lv_if_eq (tgt := 22) hx hb d_Hull_cornerCount_16 (by decide) (fun hc => ?_) (fun hc => ?_)
      · rw [if_pos hc] at h
        refine lv_iinc (v := (x2 + 1)) (lv' := [(2, .int (x2 + 1)), (1, .int x1), (0, .ref a_this)]) hx hb d_Hull_cornerCount_22 hl (k := 0) rfl rfl (by decide) rfl (fun ls hl => ?_)
        refine lv_goto (tgt := 4) hx hb d_Hull_cornerCount_25 (by decide) ?_
        exact ih _ _ k h hk _ _ hP hD hS ls (lv_sub hl [0, 1, 2] rfl)
      · rw [if_neg hc] at h
        refine lv_iinc (v := (x1 + 1)) (lv' := [(1, .int (x1 + 1)), (2, .int x2), (0, .ref a_this)]) hx hb d_Hull_cornerCount_19 hl (k := 1) rfl rfl (by decide) rfl (fun ls hl => ?_)
        refine lv_iinc (v := (x2 + 1)) (lv' := [(2, .int (x2 + 1)), (1, .int (x1 + 1)), (0, .ref a_this)]) hx hb d_Hull_cornerCount_22 hl (k := 1) rfl rfl (by decide) rfl (fun ls hl => ?_)
        refine lv_goto (tgt := 4) hx hb d_Hull_cornerCount_25 (by decide) ?_
        exact ih _ _ k h hk _ _ hP hD hS ls (lv_sub hl [0, 1, 2] rfl)
set_option maxHeartbeats 4000000 in
set_option maxRecDepth 100000 in
theorem w_Hull_cornerCount {p : Program} {l : Launch} {e : Env} {s : State} {m : MethodId} {args : Array Value} {below : List Frame} {meth : Method} {c : Code} {D : va_G} {cI cL cZ : ClassId} {tA tB : Nat} {A : Nat → Prop} {a_this a_corner a_outside a_members : Nat} {v_size : Int32} {v_corner : Nat → Int32} {o_r : Int32} (cx : ct_Cx p s m args meth c b_Hull_cornerCount 3 (some .int) R_Hull wd_Hull_cornerCount D (ct_tys cI cL cZ) tA tB A) (h : f_Hull_cornerCount v_corner = some o_r) : ∀ (H : Heap) (locs : List Loc), va_P D vwCl [(a_this, .inr (0, [.ref a_corner, .ref a_outside, .ref a_members, .int v_size])), (a_corner, .inl (cZ, 15, .inl v_corner))] H → va_D A [(a_this, .inr (0, [.ref a_corner, .ref a_outside, .ref a_members, .int v_size])), (a_corner, .inl (cZ, 15, .inl v_corner))] → va_S A s.heap H locs → ∀ ls : Array Slot, lv_has ls 3 [(0, .ref a_this)] → W p l e (headSpec wd_Hull_cornerCount rm_Hull_cornerCount).room s m args below meth c H locs 0 0 (MQ below (ct_Qi D [(a_this, .inr (0, [.ref a_corner, .ref a_outside, .ref a_members, .int v_size])), (a_corner, .inl (cZ, 15, .inl v_corner))] A o_r) args s 0 0 A) (F0 m 0 ls []) := by
  obtain ⟨hx, hb, hr, hml, hown, hts, hK, hA, hT, hlocks, hZA, hZB, hTA, hTB, hnw⟩ := id cx
  intro H locs hP hD hS ls hl
  rw [f_Hull_cornerCount] at h
  refine lv_iconst (v := 0) hx hb d_Hull_cornerCount_0 (by decide) ?_
  refine lv_istore_n (lv' := [(1, .int 0), (0, .ref a_this)]) hx hb d_Hull_cornerCount_1 rfl hl (by decide) rfl (fun ls hl => ?_)
  refine lv_iconst (v := 0) hx hb d_Hull_cornerCount_2 (by decide) ?_
  refine lv_istore_n (lv' := [(2, .int 0), (1, .int 0), (0, .ref a_this)]) hx hb d_Hull_cornerCount_3 rfl hl (by decide) rfl (fun ls hl => ?_)
  refine w_Hull_cornerCount_L4 cx _ _ _ _ h (fun y1_4 h H locs hP hD hS ls hl => ?_) _ _ hP hD hS ls (lv_sub hl [0, 1, 2] rfl)
  try dsimp only at h
  refine lv_iload_n hx hb d_Hull_cornerCount_28 rfl (lv_at hl 0 rfl) ?_
  cases h
  exact W.iret hx hb hr (fun t ht hW => ⟨⟨_, (), rfl, rfl, by rw [ht]; exact hP, hD⟩, hS.F ht⟩) hS.2.2 d_Hull_cornerCount_29
set_option maxHeartbeats 4000000 in
set_option maxRecDepth 100000 in
theorem c_Hull_cornerCount (l : Launch) (D : va_G) (cI cL cZ : ClassId) (tA tB sz : Nat) (a_this a_corner a_outside a_members : Nat) (v_size : Int32) (v_corner : Nat → Int32) (o_r : Int32) (A : Nat → Prop) (hAe : A = va_A [(a_this, .inr (0, [.ref a_corner, .ref a_outside, .ref a_members, .int v_size])), (a_corner, .inl (cZ, 15, .inl v_corner))] sz) (h : f_Hull_cornerCount v_corner = some o_r) : Met l y_Hull_cornerCount wd_Hull_cornerCount rm_Hull_cornerCount (ct_Pre D (ct_tys cI cL cZ) tA tB [(a_this, .inr (0, [.ref a_corner, .ref a_outside, .ref a_members, .int v_size])), (a_corner, .inl (cZ, 15, .inl v_corner))] sz [.ref a_this]) (ct_Qi D [(a_this, .inr (0, [.ref a_corner, .ref a_outside, .ref a_members, .int v_size])), (a_corner, .inl (cZ, 15, .inl v_corner))] A o_r) 0 0 A := by
  refine Met.ofW (cc := b_Hull_cornerCount) (maxL := 3) (ret := (some .int)) (by decide) rfl ?_
  intro p e s m args below meth c s₁ B hml hv
  obtain ⟨hargs, hsz, hP, hK, hD0, hT⟩ := hv
  subst hsz
  have hD := hD0.self (sz := s.heap.size)
  rw [← hAe] at hD hT
  have hA : ∀ q : Nat, s.heap.size ≤ q → A q := fun q h => by rw [hAe]; exact Or.inr h
  clear hAe
  have cx : ct_Cx p s m args meth c b_Hull_cornerCount 3 (some .int) R_Hull wd_Hull_cornerCount D (ct_tys cI cL cZ) tA tB A := ⟨B.exec, B.bytes, B.returns, hml, findClass_of_methodNamed B.named, atoms_spec (ws := wd_Hull_cornerCount) B.pre, hK, hA, hT, B.notSynchronized, hT.1, hT.2.1, hT.2.2.1, hT.2.2.2.1, hT.2.2.2.2⟩
  have hl := lv_entry ([.ref a_this]) (n := 3) (Nat.le_of_ble_eq_true rfl)
  rw [show entryFrame m args 3 = entryFrame m ([.ref a_this] : List Value).toArray 3 by rw [hargs], lg_entry_eq]
  exact w_Hull_cornerCount cx h _ _ hP hD va_S.rf _ hl
