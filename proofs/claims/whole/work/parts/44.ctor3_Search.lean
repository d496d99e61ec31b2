abbrev rm_Search_init : Room := { frames := 2, cells := 7, slots := 123, locals := 32 }
abbrev wd_Search_init : List Cond := .code y_Search_init b_Search_init 1 none :: ct_G
def f_Search_init  : Option (Unit) := some ()
set_option maxHeartbeats 4000000 in
set_option maxRecDepth 100000 in
theorem c_Search_init (l : Launch) (D : va_G) (cI cL cZ : ClassId) (tA tB sz a_this : Nat)  (A : Nat → Prop) (hAe : A = va_A [(a_this, .inr (2, [.null, .null, .null, .null, .null]))] sz) (h : f_Search_init = some ()) : Met l y_Search_init wd_Search_init rm_Search_init (ct_Pre D (ct_tys cI cL cZ) tA tB [(a_this, .inr (2, [.null, .null, .null, .null, .null]))] sz [.ref a_this]) (va_Qv (S := Unit) (fun _ => True) (fun _ t => ∃ (q0 q1 q2 q3 q4 q5 q6 : Nat), va_P D vwCl [(a_this, .inr (2, [.ref q0, .ref q1, .ref q2, .ref q3, .ref q4])), (q0, .inl (cI, 36, .inl (fun _ => (0 : Int32)))), (q1, .inl (cI, 15, .inl (fun _ => (0 : Int32)))), (q2, .inl (cI, 21, .inl (fun _ => (0 : Int32)))), (q3, .inl (cI, 6, .inl (fun _ => (0 : Int32)))), (q4, .inr (3, [.ref q5, .ref q6, .int 0])), (q5, .inl (cL, 36, .inr (.inl (fun _ => (0 : Int64))))), (q6, .inl (cI, 6, .inl (fun _ => (0 : Int32))))] t.heap ∧ va_D A [(a_this, .inr (2, [.ref q0, .ref q1, .ref q2, .ref q3, .ref q4])), (q0, .inl (cI, 36, .inl (fun _ => (0 : Int32)))), (q1, .inl (cI, 15, .inl (fun _ => (0 : Int32)))), (q2, .inl (cI, 21, .inl (fun _ => (0 : Int32)))), (q3, .inl (cI, 6, .inl (fun _ => (0 : Int32)))), (q4, .inr (3, [.ref q5, .ref q6, .int 0])), (q5, .inl (cL, 36, .inr (.inl (fun _ => (0 : Int64))))), (q6, .inl (cI, 6, .inl (fun _ => (0 : Int32))))]) A) 7 123 A := by
  refine Met.ofW (cc := b_Search_init) (maxL := 1) (ret := none) (by decide) rfl ?_
  intro p e s m args below meth c s₁ B hml hv
  obtain ⟨hargs, hsz, hP, hK, hD0, hT⟩ := hv
  subst hsz
  have hD := hD0.self (sz := s.heap.size)
  rw [← hAe] at hD hT
  have hA : ∀ q : Nat, s.heap.size ≤ q → A q := fun q h => by rw [hAe]; exact Or.inr h
  clear hAe
  have cx : ct_Cx p s m args meth c b_Search_init 1 none R_Search wd_Search_init D (ct_tys cI cL cZ) tA tB A := ⟨B.exec, B.bytes, B.returns, hml, findClass_of_methodNamed B.named, atoms_spec (ws := wd_Search_init) B.pre, hK, hA, hT, B.notSynchronized, hT.1, hT.2.1, hT.2.2.1, hT.2.2.2.1, hT.2.2.2.2⟩
  obtain ⟨hx, hb, hr, hml, hown, hts, hK, hA, hT, hlocks, hZA, hZB, hTA, hTB, hnw⟩ := id cx
  have hin : meth.name = "<init>" := (name_of_methodNamed B.named B.method).1
  have hS : va_S A s.heap s.heap [] := va_S.rf
  have hl := lv_entry ([.ref a_this]) (n := 1) (Nat.le_of_ble_eq_true rfl)
  rw [show entryFrame m args 1 = entryFrame m ([.ref a_this] : List Value).toArray 1 by rw [hargs], lg_entry_eq]
  generalize (lg_sl ([.ref a_this]) ++ List.replicate (1 - (lg_sl ([.ref a_this])).length) Slot.unset).toArray = ls at hl ⊢
  have hl : lv_has ls 1 [(0, .ref a_this)] := hl
  have hP : va_P D vwCl [(a_this, .inr (2, [.null, .null, .null, .null, .null]))] s.heap := hP
  rw [f_Search_init] at h
  refine lv_aload_n hx hb d_Search_init_0 rfl (lv_at hl 0 rfl) ?_
  refine W.objInit hx hb hown (hts _ (ct_in k_353)) (hts _ (ct_in k_330)) (hts _ (ct_in k_331)) rfl (by rw [hml]; exact hl.1) rfl d_Search_init_1 (Nat.le_of_ble_eq_true rfl) (Nat.le_of_ble_eq_true rfl) ?_
  refine W.eq (g2 := F0 m 4 ls []) rfl ?_
  refine lv_aload_n hx hb d_Search_init_4 rfl (lv_at hl 0 rfl) ?_
  refine lv_bipush (v := 36) hx hb d_Search_init_5 (by decide) ?_
  refine ct_newa (atype := .int) (ty := .int) (a0 := (36, .inl (fun _ => (0 : Int32)))) hx hb (hts _ (ct_in k_332)) rfl (by intro C h; cases h) hK 0 rfl hP hD hS hA (fun _ => rfl) (by decide) (N' := 36) (by decide) (by decide) (Nat.le_of_ble_eq_true rfl) (Nat.le_of_ble_eq_true rfl) d_Search_init_7 (fun q_1 H hP hD hS => ?_)
  have hP : va_P D vwCl [(a_this, .inr (2, [.null, .null, .null, .null, .null])), (q_1, .inl (cI, 36, .inl (fun _ => (0 : Int32))))] H := hP
  have hD : va_D A [(a_this, .inr (2, [.null, .null, .null, .null, .null])), (q_1, .inl (cI, 36, .inl (fun _ => (0 : Int32))))] := hD
  refine W.widen (k := 1) (n := 36) (Nat.le_of_ble_eq_true rfl) (Nat.le_of_ble_eq_true rfl) ?_
  refine va_putF (D := D) (ci := 2) (v := .ref q_1) (ty := (.array .int)) (C := R_Search) (T := T_Search) (N := 5) hx hb hts (fun w h9 => ct_in (iw_Search w h9)) t_Search tk_Search nm_Search hown hK hP hD hS 0 rfl rfl 0 (by decide) (hts _ (ct_in k_71)) (fun _ h9 => h9) rfl hin rfl (by decide +kernel) rfl rfl (Nat.le_of_ble_eq_true rfl) d_Search_init_9 (fun H locs hP hD hS => ?_)
  have hP : va_P D vwCl [(a_this, .inr (2, [.ref q_1, .null, .null, .null, .null])), (q_1, .inl (cI, 36, .inl (fun _ => (0 : Int32))))] H := hP
  have hD : va_D A [(a_this, .inr (2, [.ref q_1, .null, .null, .null, .null])), (q_1, .inl (cI, 36, .inl (fun _ => (0 : Int32))))] := hD
  refine lv_aload_n hx hb d_Search_init_12 rfl (lv_at hl 0 rfl) ?_
  refine lv_bipush (v := 15) hx hb d_Search_init_13 (by decide) ?_
  refine ct_newa (atype := .int) (ty := .int) (a0 := (15, .inl (fun _ => (0 : Int32)))) hx hb (hts _ (ct_in k_332)) rfl (by intro C h; cases h) hK 0 rfl hP hD hS hA (fun _ => rfl) (by decide) (N' := 15) (by decide) (by decide) (Nat.le_of_ble_eq_true rfl) (Nat.le_of_ble_eq_true rfl) d_Search_init_15 (fun q_2 H hP hD hS => ?_)
  have hP : va_P D vwCl [(a_this, .inr (2, [.ref q_1, .null, .null, .null, .null])), (q_1, .inl (cI, 36, .inl (fun _ => (0 : Int32)))), (q_2, .inl (cI, 15, .inl (fun _ => (0 : Int32))))] H := hP
  have hD : va_D A [(a_this, .inr (2, [.ref q_1, .null, .null, .null, .null])), (q_1, .inl (cI, 36, .inl (fun _ => (0 : Int32)))), (q_2, .inl (cI, 15, .inl (fun _ => (0 : Int32))))] := hD
  refine W.widen (k := 2) (n := 51) (Nat.le_of_ble_eq_true rfl) (Nat.le_of_ble_eq_true rfl) ?_
  refine va_putF (D := D) (ci := 2) (v := .ref q_2) (ty := (.array .int)) (C := R_Search) (T := T_Search) (N := 5) hx hb hts (fun w h9 => ct_in (iw_Search w h9)) t_Search tk_Search nm_Search hown hK hP hD hS 0 rfl rfl 1 (by decide) (hts _ (ct_in k_88)) (fun _ h9 => h9) rfl hin rfl (by decide +kernel) rfl rfl (Nat.le_of_ble_eq_true rfl) d_Search_init_17 (fun H locs hP hD hS => ?_)
  have hP : va_P D vwCl [(a_this, .inr (2, [.ref q_1, .ref q_2, .null, .null, .null])), (q_1, .inl (cI, 36, .inl (fun _ => (0 : Int32)))), (q_2, .inl (cI, 15, .inl (fun _ => (0 : Int32))))] H := hP
  have hD : va_D A [(a_this, .inr (2, [.ref q_1, .ref q_2, .null, .null, .null])), (q_1, .inl (cI, 36, .inl (fun _ => (0 : Int32)))), (q_2, .inl (cI, 15, .inl (fun _ => (0 : Int32))))] := hD
  refine lv_aload_n hx hb d_Search_init_20 rfl (lv_at hl 0 rfl) ?_
  refine lv_bipush (v := 21) hx hb d_Search_init_21 (by decide) ?_
  refine ct_newa (atype := .int) (ty := .int) (a0 := (21, .inl (fun _ => (0 : Int32)))) hx hb (hts _ (ct_in k_332)) rfl (by intro C h; cases h) hK 0 rfl hP hD hS hA (fun _ => rfl) (by decide) (N' := 21) (by decide) (by decide) (Nat.le_of_ble_eq_true rfl) (Nat.le_of_ble_eq_true rfl) d_Search_init_23 (fun q_3 H hP hD hS => ?_)
  have hP : va_P D vwCl [(a_this, .inr (2, [.ref q_1, .ref q_2, .null, .null, .null])), (q_1, .inl (cI, 36, .inl (fun _ => (0 : Int32)))), (q_2, .inl (cI, 15, .inl (fun _ => (0 : Int32)))), (q_3, .inl (cI, 21, .inl (fun _ => (0 : Int32))))] H := hP
  have hD : va_D A [(a_this, .inr (2, [.ref q_1, .ref q_2, .null, .null, .null])), (q_1, .inl (cI, 36, .inl (fun _ => (0 : Int32)))), (q_2, .inl (cI, 15, .inl (fun _ => (0 : Int32)))), (q_3, .inl (cI, 21, .inl (fun _ => (0 : Int32))))] := hD
  refine W.widen (k := 3) (n := 72) (Nat.le_of_ble_eq_true rfl) (Nat.le_of_ble_eq_true rfl) ?_
  refine va_putF (D := D) (ci := 2) (v := .ref q_3) (ty := (.array .int)) (C := R_Search) (T := T_Search) (N := 5) hx hb hts (fun w h9 => ct_in (iw_Search w h9)) t_Search tk_Search nm_Search hown hK hP hD hS 0 rfl rfl 2 (by decide) (hts _ (ct_in k_73)) (fun _ h9 => h9) rfl hin rfl (by decide +kernel) rfl rfl (Nat.le_of_ble_eq_true rfl) d_Search_init_25 (fun H locs hP hD hS => ?_)
  have hP : va_P D vwCl [(a_this, .inr (2, [.ref q_1, .ref q_2, .ref q_3, .null, .null])), (q_1, .inl (cI, 36, .inl (fun _ => (0 : Int32)))), (q_2, .inl (cI, 15, .inl (fun _ => (0 : Int32)))), (q_3, .inl (cI, 21, .inl (fun _ => (0 : Int32))))] H := hP
  have hD : va_D A [(a_this, .inr (2, [.ref q_1, .ref q_2, .ref q_3, .null, .null])), (q_1, .inl (cI, 36, .inl (fun _ => (0 : Int32)))), (q_2, .inl (cI, 15, .inl (fun _ => (0 : Int32)))), (q_3, .inl (cI, 21, .inl (fun _ => (0 : Int32))))] := hD
  refine lv_aload_n hx hb d_Search_init_28 rfl (lv_at hl 0 rfl) ?_
  refine lv_bipush (v := 6) hx hb d_Search_init_29 (by decide) ?_
  refine ct_newa (atype := .int) (ty := .int) (a0 := (6, .inl (fun _ => (0 : Int32)))) hx hb (hts _ (ct_in k_332)) rfl (by intro C h; cases h) hK 0 rfl hP hD hS hA (fun _ => rfl) (by decide) (N' := 6) (by decide) (by decide) (Nat.le_of_ble_eq_true rfl) (Nat.le_of_ble_eq_true rfl) d_Search_init_31 (fun q_4 H hP hD hS => ?_)
  have hP : va_P D vwCl [(a_this, .inr (2, [.ref q_1, .ref q_2, .ref q_3, .null, .null])), (q_1, .inl (cI, 36, .inl (fun _ => (0 : Int32)))), (q_2, .inl (cI, 15, .inl (fun _ => (0 : Int32)))), (q_3, .inl (cI, 21, .inl (fun _ => (0 : Int32)))), (q_4, .inl (cI, 6, .inl (fun _ => (0 : Int32))))] H := hP
  have hD : va_D A [(a_this, .inr (2, [.ref q_1, .ref q_2, .ref q_3, .null, .null])), (q_1, .inl (cI, 36, .inl (fun _ => (0 : Int32)))), (q_2, .inl (cI, 15, .inl (fun _ => (0 : Int32)))), (q_3, .inl (cI, 21, .inl (fun _ => (0 : Int32)))), (q_4, .inl (cI, 6, .inl (fun _ => (0 : Int32))))] := hD
  refine W.widen (k := 4) (n := 78) (Nat.le_of_ble_eq_true rfl) (Nat.le_of_ble_eq_true rfl) ?_
  refine va_putF (D := D) (ci := 2) (v := .ref q_4) (ty := (.array .int)) (C := R_Search) (T := T_Search) (N := 5) hx hb hts (fun w h9 => ct_in (iw_Search w h9)) t_Search tk_Search nm_Search hown hK hP hD hS 0 rfl rfl 3 (by decide) (hts _ (ct_in k_79)) (fun _ h9 => h9) rfl hin rfl (by decide +kernel) rfl rfl (Nat.le_of_ble_eq_true rfl) d_Search_init_33 (fun H locs hP hD hS => ?_)
  have hP : va_P D vwCl [(a_this, .inr (2, [.ref q_1, .ref q_2, .ref q_3, .ref q_4, .null])), (q_1, .inl (cI, 36, .inl (fun _ => (0 : Int32)))), (q_2, .inl (cI, 15, .inl (fun _ => (0 : Int32)))), (q_3, .inl (cI, 21, .inl (fun _ => (0 : Int32)))), (q_4, .inl (cI, 6, .inl (fun _ => (0 : Int32))))] H := hP
  have hD : va_D A [(a_this, .inr (2, [.ref q_1, .ref q_2, .ref q_3, .ref q_4, .null])), (q_1, .inl (cI, 36, .inl (fun _ => (0 : Int32)))), (q_2, .inl (cI, 15, .inl (fun _ => (0 : Int32)))), (q_3, .inl (cI, 21, .inl (fun _ => (0 : Int32)))), (q_4, .inl (cI, 6, .inl (fun _ => (0 : Int32))))] := hD
  refine lv_aload_n hx hb d_Search_init_36 rfl (lv_at hl 0 rfl) ?_
  refine va_new (ci := 3) (fs := [.null, .null, .int 0]) (C := R_Steps) (T := T_Steps) (N := 3) hx hb hts (fun w h9 => ct_in (iw_Steps w h9)) t_Steps tk_Steps hown (hts _ (ct_in k_354)) (hts _ (ct_in k_346)) (hts _ (ct_in k_23)) hK hP hD hS hA rfl (fun j hj => by rcases (show j = 0 ∨ j = 1 ∨ j = 2 by omega) with rfl | rfl | rfl <;> rfl) (Nat.le_of_ble_eq_true rfl) (Nat.le_of_ble_eq_true rfl) d_Search_init_37 (fun q_5 H hP hD hS => ?_)
  have hP : va_P D vwCl [(a_this, .inr (2, [.ref q_1, .ref q_2, .ref q_3, .ref q_4, .null])), (q_1, .inl (cI, 36, .inl (fun _ => (0 : Int32)))), (q_2, .inl (cI, 15, .inl (fun _ => (0 : Int32)))), (q_3, .inl (cI, 21, .inl (fun _ => (0 : Int32)))), (q_4, .inl (cI, 6, .inl (fun _ => (0 : Int32)))), (q_5, .inr (3, [.null, .null, .int 0]))] H := hP
  have hD : va_D A [(a_this, .inr (2, [.ref q_1, .ref q_2, .ref q_3, .ref q_4, .null])), (q_1, .inl (cI, 36, .inl (fun _ => (0 : Int32)))), (q_2, .inl (cI, 15, .inl (fun _ => (0 : Int32)))), (q_3, .inl (cI, 21, .inl (fun _ => (0 : Int32)))), (q_4, .inl (cI, 6, .inl (fun _ => (0 : Int32)))), (q_5, .inr (3, [.null, .null, .int 0]))] := hD
  refine W.widen (k := 5) (n := 81) (Nat.le_of_ble_eq_true rfl) (Nat.le_of_ble_eq_true rfl) ?_
  refine lv_dup hx hb d_Search_init_40 rfl ?_
  have hF := va_free (wc := [(q_5, .inr (3, [.null, .null, .int 0]))]) hD hS hA [5] rfl
  refine ct_calln (va_runIN (As := []) (rest := [.ref q_5, .ref a_this]) ⟨hx, hb, hml, hown, hts⟩ (c_Steps_init l D cI cL cZ tA tB H.size q_5  _ rfl rfl) ⟨va_cnB 0 hts (ct_good k_349) rfl rfl rfl (va_Nw.of rfl (ct_nest_use n_25 (a := #[]) hnw)) (hts _ (ct_in k_23)) (by decide +kernel) ⟨Nat.le_of_ble_eq_true rfl, Nat.le_of_ble_eq_true rfl⟩, rfl, hts _ (ct_in k_350)⟩ (ct_preS (wc := [(q_5, .inr (3, [.null, .null, .int 0]))]) hP hD hK hS hA hT [5] rfl (by decide)) rfl rfl hl.1 rfl (lv_room (Nat.le_of_ble_eq_true rfl)) d_Search_init_41 ⟨Nat.le_of_ble_eq_true rfl, Nat.le_of_ble_eq_true rfl⟩) hF hS (fun t H1 locs ht hB9 hk9 hS => ?_)
  obtain ⟨q_6, q_7, hP1, hD1⟩ := hB9
  rw [ht] at hP1
  obtain ⟨hP, hD⟩ := va_join (wr := [(a_this, .inr (2, [.ref q_1, .ref q_2, .ref q_3, .ref q_4, .null])), (q_1, .inl (cI, 36, .inl (fun _ => (0 : Int32)))), (q_2, .inl (cI, 15, .inl (fun _ => (0 : Int32)))), (q_3, .inl (cI, 21, .inl (fun _ => (0 : Int32)))), (q_4, .inl (cI, 6, .inl (fun _ => (0 : Int32))))]) (w1 := [(q_5, .inr (3, [.ref q_6, .ref q_7, .int 0])), (q_6, .inl (cL, 36, .inr (.inl (fun _ => (0 : Int64))))), (q_7, .inl (cI, 6, .inl (fun _ => (0 : Int32))))]) hP hD [5] [0, 1, 2, 3, 4] rfl rfl (by decide) (by decide) hk9 hF hP1 hD1
  clear hF hP1 hD1 hk9 ht
  generalize H1 = H at hP hS ⊢
  have hP : va_P D vwCl [(a_this, .inr (2, [.ref q_1, .ref q_2, .ref q_3, .ref q_4, .null])), (q_1, .inl (cI, 36, .inl (fun _ => (0 : Int32)))), (q_2, .inl (cI, 15, .inl (fun _ => (0 : Int32)))), (q_3, .inl (cI, 21, .inl (fun _ => (0 : Int32)))), (q_4, .inl (cI, 6, .inl (fun _ => (0 : Int32)))), (q_5, .inr (3, [.ref q_6, .ref q_7, .int 0])), (q_6, .inl (cL, 36, .inr (.inl (fun _ => (0 : Int64))))), (q_7, .inl (cI, 6, .inl (fun _ => (0 : Int32))))] H := hP
  have hD : va_D A [(a_this, .inr (2, [.ref q_1, .ref q_2, .ref q_3, .ref q_4, .null])), (q_1, .inl (cI, 36, .inl (fun _ => (0 : Int32)))), (q_2, .inl (cI, 15, .inl (fun _ => (0 : Int32)))), (q_3, .inl (cI, 21, .inl (fun _ => (0 : Int32)))), (q_4, .inl (cI, 6, .inl (fun _ => (0 : Int32)))), (q_5, .inr (3, [.ref q_6, .ref q_7, .int 0])), (q_6, .inl (cL, 36, .inr (.inl (fun _ => (0 : Int64))))), (q_7, .inl (cI, 6, .inl (fun _ => (0 : Int32))))] := hD
  refine W.widen (k := 7) (n := 123) (Nat.le_of_ble_eq_true rfl) (Nat.le_of_ble_eq_true rfl) ?_
  refine va_putF (D := D) (ci := 2) (v := .ref q_5) (ty := (.object "SquareSums$Steps")) (C := R_Search) (T := T_Search) (N := 5) hx hb hts (fun w h9 => ct_in (iw_Search w h9)) t_Search tk_Search nm_Search hown hK hP hD hS 0 rfl rfl 4 (by decide) (hts _ (ct_in k_92)) (fun _ h9 => h9) rfl hin rfl (by decide +kernel) rfl rfl (Nat.le_of_ble_eq_true rfl) d_Search_init_44 (fun H locs hP hD hS => ?_)
  have hP : va_P D vwCl [(a_this, .inr (2, [.ref q_1, .ref q_2, .ref q_3, .ref q_4, .ref q_5])), (q_1, .inl (cI, 36, .inl (fun _ => (0 : Int32)))), (q_2, .inl (cI, 15, .inl (fun _ => (0 : Int32)))), (q_3, .inl (cI, 21, .inl (fun _ => (0 : Int32)))), (q_4, .inl (cI, 6, .inl (fun _ => (0 : Int32)))), (q_5, .inr (3, [.ref q_6, .ref q_7, .int 0])), (q_6, .inl (cL, 36, .inr (.inl (fun _ => (0 : Int64))))), (q_7, .inl (cI, 6, .inl (fun _ => (0 : Int32))))] H := hP
  have hD : va_D A [(a_this, .inr (2, [.ref q_1, .ref q_2, .ref q_3, .ref q_4, .ref q_5])), (q_1, .inl (cI, 36, .inl (fun _ => (0 : Int32)))), (q_2, .inl (cI, 15, .inl (fun _ => (0 : Int32)))), (q_3, .inl (cI, 21, .inl (fun _ => (0 : Int32)))), (q_4, .inl (cI, 6, .inl (fun _ => (0 : Int32)))), (q_5, .inr (3, [.ref q_6, .ref q_7, .int 0])), (q_6, .inl (cL, 36, .inr (.inl (fun _ => (0 : Int64))))), (q_7, .inl (cI, 6, .inl (fun _ => (0 : Int32))))] := hD
  cases h
  exact W.vret hx hb hr (fun t ht hW => ⟨⟨(), rfl, trivial, q_1, q_2, q_3, q_4, q_5, q_6, q_7, by rw [ht]; exact hP, hD⟩, hS.F ht⟩) hS.2.2 d_Search_init_47
