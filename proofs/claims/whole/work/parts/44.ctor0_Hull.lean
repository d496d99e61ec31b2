abbrev rm_Hull_init : Room := { frames := 1, cells := 3, slots := 27, locals := 12 }
abbrev wd_Hull_init : List Cond := .code y_Hull_init b_Hull_init 1 none :: ct_G
def f_Hull_init  : Option (Unit) := some ()
set_option maxHeartbeats 4000000 in
set_option maxRecDepth 100000 in
theorem c_Hull_init (l : Launch) (D : va_G) (cI cL cZ : ClassId) (tA tB sz a_this : Nat)  (A : Nat → Prop) (hAe : A = va_A [(a_this, .inr (0, [.null, .null, .null, .int 0]))] sz) (h : f_Hull_init = some ()) : Met l y_Hull_init wd_Hull_init rm_Hull_init (ct_Pre D (ct_tys cI cL cZ) tA tB [(a_this, .inr (0, [.null, .null, .null, .int 0]))] sz [.ref a_this]) (va_Qv (S := Unit) (fun _ => True) (fun _ t => ∃ (q0 q1 q2 : Nat), va_P D vwCl [(a_this, .inr (0, [.ref q0, .ref q1, .ref q2, .int 0])), (q0, .inl (cZ, 15, .inl (fun _ => (0 : Int32)))), (q1, .inl (cZ, 6, .inl (fun _ => (0 : Int32)))), (q2, .inl (cI, 6, .inl (fun _ => (0 : Int32))))] t.heap ∧ va_D A [(a_this, .inr (0, [.ref q0, .ref q1, .ref q2, .int 0])), (q0, .inl (cZ, 15, .inl (fun _ => (0 : Int32)))), (q1, .inl (cZ, 6, .inl (fun _ => (0 : Int32)))), (q2, .inl (cI, 6, .inl (fun _ => (0 : Int32))))]) A) 3 27 A := by
  refine Met.ofW (cc := b_Hull_init) (maxL := 1) (ret := none) (by decide) rfl ?_
  intro p e s m args below meth c s₁ B hml hv
  obtain ⟨hargs, hsz, hP, hK, hD0, hT⟩ := hv
  subst hsz
  have hD := hD0.self (sz := s.heap.size)
  rw [← hAe] at hD hT
  have hA : ∀ q : Nat, s.heap.size ≤ q → A q := fun q h => by rw [hAe]; exact Or.inr h
  clear hAe
  have cx : ct_Cx p s m args meth c b_Hull_init 1 none R_Hull wd_Hull_init D (ct_tys cI cL cZ) tA tB A := ⟨B.exec, B.bytes, B.returns, hml, findClass_of_methodNamed B.named, atoms_spec (ws := wd_Hull_init) B.pre, hK, hA, hT, B.notSynchronized, hT.1, hT.2.1, hT.2.2.1, hT.2.2.2.1, hT.2.2.2.2⟩
  obtain ⟨hx, hb, hr, hml, hown, hts, hK, hA, hT, hlocks, hZA, hZB, hTA, hTB, hnw⟩ := id cx
  have hin : meth.name = "<init>" := (name_of_methodNamed B.named B.method).1
  have hS : va_S A s.heap s.heap [] := va_S.rf
  have hl := lv_entry ([.ref a_this]) (n := 1) (Nat.le_of_ble_eq_true rfl)
  rw [show entryFrame m args 1 = entryFrame m ([.ref a_this] : List Value).toArray 1 by rw [hargs], lg_entry_eq]
  generalize (lg_sl ([.ref a_this]) ++ List.replicate (1 - (lg_sl ([.ref a_this])).length) Slot.unset).toArray = ls at hl ⊢
  have hl : lv_has ls 1 [(0, .ref a_this)] := hl
  have hP : va_P D vwCl [(a_this, .inr (0, [.null, .null, .null, .int 0]))] s.heap := hP
  rw [f_Hull_init] at h
  refine lv_aload_n hx hb d_Hull_init_0 rfl (lv_at hl 0 rfl) ?_
  refine W.objInit hx hb hown (hts _ (ct_in k_335)) (hts _ (ct_in k_330)) (hts _ (ct_in k_331)) rfl (by rw [hml]; exact hl.1) rfl d_Hull_init_1 (Nat.le_of_ble_eq_true rfl) (Nat.le_of_ble_eq_true rfl) ?_
  refine W.eq (g2 := F0 m 4 ls []) rfl ?_
  refine lv_aload_n hx hb d_Hull_init_4 rfl (lv_at hl 0 rfl) ?_
  refine lv_bipush (v := 15) hx hb d_Hull_init_5 (by decide) ?_
  refine ct_newa (atype := .boolean) (ty := .boolean) (a0 := (15, .inl (fun _ => (0 : Int32)))) hx hb (hts _ (ct_in k_336)) rfl (by intro C h; cases h) hK 2 rfl hP hD hS hA (fun _ => rfl) (by decide) (N' := 15) (by decide) (by decide) (Nat.le_of_ble_eq_true rfl) (Nat.le_of_ble_eq_true rfl) d_Hull_init_7 (fun q_1 H hP hD hS => ?_)
  have hP : va_P D vwCl [(a_this, .inr (0, [.null, .null, .null, .int 0])), (q_1, .inl (cZ, 15, .inl (fun _ => (0 : Int32))))] H := hP
  have hD : va_D A [(a_this, .inr (0, [.null, .null, .null, .int 0])), (q_1, .inl (cZ, 15, .inl (fun _ => (0 : Int32))))] := hD
  refine W.widen (k := 1) (n := 15) (Nat.le_of_ble_eq_true rfl) (Nat.le_of_ble_eq_true rfl) ?_
  refine va_putF (D := D) (ci := 0) (v := .ref q_1) (ty := (.array .boolean)) (C := R_Hull) (T := T_Hull) (N := 4) hx hb hts (fun w h9 => ct_in (iw_Hull w h9)) t_Hull tk_Hull nm_Hull hown hK hP hD hS 0 rfl rfl 0 (by decide) (hts _ (ct_in k_0)) (fun _ h9 => h9) rfl hin rfl (by decide +kernel) rfl rfl (Nat.le_of_ble_eq_true rfl) d_Hull_init_9 (fun H locs hP hD hS => ?_)
  have hP : va_P D vwCl [(a_this, .inr (0, [.ref q_1, .null, .null, .int 0])), (q_1, .inl (cZ, 15, .inl (fun _ => (0 : Int32))))] H := hP
  have hD : va_D A [(a_this, .inr (0, [.ref q_1, .null, .null, .int 0])), (q_1, .inl (cZ, 15, .inl (fun _ => (0 : Int32))))] := hD
  refine lv_aload_n hx hb d_Hull_init_12 rfl (lv_at hl 0 rfl) ?_
  refine lv_bipush (v := 6) hx hb d_Hull_init_13 (by decide) ?_
  refine ct_newa (atype := .boolean) (ty := .boolean) (a0 := (6, .inl (fun _ => (0 : Int32)))) hx hb (hts _ (ct_in k_336)) rfl (by intro C h; cases h) hK 2 rfl hP hD hS hA (fun _ => rfl) (by decide) (N' := 6) (by decide) (by decide) (Nat.le_of_ble_eq_true rfl) (Nat.le_of_ble_eq_true rfl) d_Hull_init_15 (fun q_2 H hP hD hS => ?_)
  have hP : va_P D vwCl [(a_this, .inr (0, [.ref q_1, .null, .null, .int 0])), (q_1, .inl (cZ, 15, .inl (fun _ => (0 : Int32)))), (q_2, .inl (cZ, 6, .inl (fun _ => (0 : Int32))))] H := hP
  have hD : va_D A [(a_this, .inr (0, [.ref q_1, .null, .null, .int 0])), (q_1, .inl (cZ, 15, .inl (fun _ => (0 : Int32)))), (q_2, .inl (cZ, 6, .inl (fun _ => (0 : Int32))))] := hD
  refine W.widen (k := 2) (n := 21) (Nat.le_of_ble_eq_true rfl) (Nat.le_of_ble_eq_true rfl) ?_
  refine va_putF (D := D) (ci := 0) (v := .ref q_2) (ty := (.array .boolean)) (C := R_Hull) (T := T_Hull) (N := 4) hx hb hts (fun w h9 => ct_in (iw_Hull w h9)) t_Hull tk_Hull nm_Hull hown hK hP hD hS 0 rfl rfl 1 (by decide) (hts _ (ct_in k_1)) (fun _ h9 => h9) rfl hin rfl (by decide +kernel) rfl rfl (Nat.le_of_ble_eq_true rfl) d_Hull_init_17 (fun H locs hP hD hS => ?_)
  have hP : va_P D vwCl [(a_this, .inr (0, [.ref q_1, .ref q_2, .null, .int 0])), (q_1, .inl (cZ, 15, .inl (fun _ => (0 : Int32)))), (q_2, .inl (cZ, 6, .inl (fun _ => (0 : Int32))))] H := hP
  have hD : va_D A [(a_this, .inr (0, [.ref q_1, .ref q_2, .null, .int 0])), (q_1, .inl (cZ, 15, .inl (fun _ => (0 : Int32)))), (q_2, .inl (cZ, 6, .inl (fun _ => (0 : Int32))))] := hD
  refine lv_aload_n hx hb d_Hull_init_20 rfl (lv_at hl 0 rfl) ?_
  refine lv_bipush (v := 6) hx hb d_Hull_init_21 (by decide) ?_
  refine ct_newa (atype := .int) (ty := .int) (a0 := (6, .inl (fun _ => (0 : Int32)))) hx hb (hts _ (ct_in k_332)) rfl (by intro C h; cases h) hK 0 rfl hP hD hS hA (fun _ => rfl) (by decide) (N' := 6) (by decide) (by decide) (Nat.le_of_ble_eq_true rfl) (Nat.le_of_ble_eq_true rfl) d_Hull_init_23 (fun q_3 H hP hD hS => ?_)
  have hP : va_P D vwCl [(a_this, .inr (0, [.ref q_1, .ref q_2, .null, .int 0])), (q_1, .inl (cZ, 15, .inl (fun _ => (0 : Int32)))), (q_2, .inl (cZ, 6, .inl (fun _ => (0 : Int32)))), (q_3, .inl (cI, 6, .inl (fun _ => (0 : Int32))))] H := hP
  have hD : va_D A [(a_this, .inr (0, [.ref q_1, .ref q_2, .null, .int 0])), (q_1, .inl (cZ, 15, .inl (fun _ => (0 : Int32)))), (q_2, .inl (cZ, 6, .inl (fun _ => (0 : Int32)))), (q_3, .inl (cI, 6, .inl (fun _ => (0 : Int32))))] := hD
  refine W.widen (k := 3) (n := 27) (Nat.le_of_ble_eq_true rfl) (Nat.le_of_ble_eq_true rfl) ?_
  refine va_putF (D := D) (ci := 0) (v := .ref q_3) (ty := (.array .int)) (C := R_Hull) (T := T_Hull) (N := 4) hx hb hts (fun w h9 => ct_in (iw_Hull w h9)) t_Hull tk_Hull nm_Hull hown hK hP hD hS 0 rfl rfl 2 (by decide) (hts _ (ct_in k_12)) (fun _ h9 => h9) rfl hin rfl (by decide +kernel) rfl rfl (Nat.le_of_ble_eq_true rfl) d_Hull_init_25 (fun H locs hP hD hS => ?_)
  have hP : va_P D vwCl [(a_this, .inr (0, [.ref q_1, .ref q_2, .ref q_3, .int 0])), (q_1, .inl (cZ, 15, .inl (fun _ => (0 : Int32)))), (q_2, .inl (cZ, 6, .inl (fun _ => (0 : Int32)))), (q_3, .inl (cI, 6, .inl (fun _ => (0 : Int32))))] H := hP
  have hD : va_D A [(a_this, .inr (0, [.ref q_1, .ref q_2, .ref q_3, .int 0])), (q_1, .inl (cZ, 15, .inl (fun _ => (0 : Int32)))), (q_2, .inl (cZ, 6, .inl (fun _ => (0 : Int32)))), (q_3, .inl (cI, 6, .inl (fun _ => (0 : Int32))))] := hD
  refine lv_aload_n hx hb d_Hull_init_28 rfl (lv_at hl 0 rfl) ?_
  refine lv_iconst (v := 0) hx hb d_Hull_init_29 (by decide) ?_
  refine va_put (D := D) (ci := 0) (v := .int 0) (ty := .int) (C := R_Hull) (T := T_Hull) (N := 4) hx hb hts (fun w h9 => ct_in (iw_Hull w h9)) t_Hull tk_Hull nm_Hull hown hK hP hD hS 0 rfl rfl 3 (by decide) (hts _ (ct_in k_11)) (fun _ h9 => h9) rfl (by decide +kernel) rfl rfl (Nat.le_of_ble_eq_true rfl) d_Hull_init_30 (fun H locs hP hD hS => ?_)
  have hP : va_P D vwCl [(a_this, .inr (0, [.ref q_1, .ref q_2, .ref q_3, .int 0])), (q_1, .inl (cZ, 15, .inl (fun _ => (0 : Int32)))), (q_2, .inl (cZ, 6, .inl (fun _ => (0 : Int32)))), (q_3, .inl (cI, 6, .inl (fun _ => (0 : Int32))))] H := hP
  have hD : va_D A [(a_this, .inr (0, [.ref q_1, .ref q_2, .ref q_3, .int 0])), (q_1, .inl (cZ, 15, .inl (fun _ => (0 : Int32)))), (q_2, .inl (cZ, 6, .inl (fun _ => (0 : Int32)))), (q_3, .inl (cI, 6, .inl (fun _ => (0 : Int32))))] := hD
  cases h
  exact W.vret hx hb hr (fun t ht hW => ⟨⟨(), rfl, trivial, q_1, q_2, q_3, by rw [ht]; exact hP, hD⟩, hS.F ht⟩) hS.2.2 d_Hull_init_33
