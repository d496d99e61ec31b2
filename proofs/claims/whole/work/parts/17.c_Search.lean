abbrev rm_Search_startBehind : Room := { frames := 0, cells := 0, slots := 0, locals := 0 }
abbrev wd_Search_startBehind : List Cond := .code y_Search_startBehind b_Search_startBehind 4 none :: ct_G
def f_Search_startBehind_L4 (x2 : Int32) : Nat → Int32 → (Nat → Int32) → ((Nat → Int32) → Option ((Nat → Int32))) → Option ((Nat → Int32))
  | 0, _, _, _ => none
  | n + 1, x3, v_chosen, k => (if 21 ≤ x3 then (k v_chosen) else (if x3 < 0 ∨ 21 ≤ x3.toNatClampNeg then none else (f_Search_startBehind_L4 x2 n (x3 + 1) (upd v_chosen x3.toNatClampNeg (-x2)) k)))
def f_Search_startBehind (p0 : Int32) (p1 : Int32) (v_chosen : Nat → Int32) : Option ((Nat → Int32)) := (f_Search_startBehind_L4 p1 40 (p0 + 1) v_chosen (fun (v_chosen_1 : Nat → Int32) => some v_chosen_1))
set_option maxHeartbeats 4000000 in
set_option maxRecDepth 100000 in
theorem w_Search_startBehind_L4 {p : Program} {l : Launch} {e : Env} {s : State} {m : MethodId} {args : Array Value} {below : List Frame} {meth : Method} {c : Code} {D : va_G} {cI cL cZ : ClassId} {tA tB : Nat} {A : Nat → Prop} {Q : State → Prop} {a_this a_table a_rest a_chosen a_lastFree a_steps : Nat} {x2 : Int32} {o_v_chosen : Nat → Int32} (cx : ct_Cx p s m args meth c b_Search_startBehind 4 none R_Search wd_Search_startBehind D (ct_tys cI cL cZ) tA tB A) : ∀ (n : Nat) (x3 : Int32) (v_chosen : Nat → Int32) (k : ((Nat → Int32) → Option ((Nat → Int32)))), f_Search_startBehind_L4 x2 n x3 v_chosen k = some o_v_chosen → (∀ (v_chosen : Nat → Int32), k v_chosen = some o_v_chosen → ∀ (H : Heap) (locs : List Loc), va_P D vwCl [(a_this, .inr (2, [.ref a_table, .ref a_rest, .ref a_chosen, .ref a_lastFree, .ref a_steps])), (a_chosen, .inl (cI, 21, .inl v_chosen))] H → va_D A [(a_this, .inr (2, [.ref a_table, .ref a_rest, .ref a_chosen, .ref a_lastFree, .ref a_steps])), (a_chosen, .inl (cI, 21, .inl v_chosen))] → va_S A s.heap H locs → ∀ ls : Array Slot, lv_has ls 4 [] → W p l e (headSpec wd_Search_startBehind rm_Search_startBehind).room s m args below meth c H locs 0 0 Q (F0 m 24 ls [])) → ∀ (H : Heap) (locs : List Loc), va_P D vwCl [(a_this, .inr (2, [.ref a_table, .ref a_rest, .ref a_chosen, .ref a_lastFree, .ref a_steps])), (a_chosen, .inl (cI, 21, .inl v_chosen))] H → va_D A [(a_this, .inr (2, [.ref a_table, .ref a_rest, .ref a_chosen, .ref a_lastFree, .ref a_steps])), (a_chosen, .inl (cI, 21, .inl v_chosen))] → va_S A s.heap H locs → ∀ ls : Array Slot, lv_has ls 4 [(3, .int x3), (0, .ref a_this), (2, .int x2)] → W p l e (headSpec wd_Search_startBehind rm_Search_startBehind).room s m args below meth c H locs 0 0 Q (F0 m 4 ls []) := by
  obtain ⟨hx, hb, hr, hml, hown, hts, hK, hA, hT, hlocks, hZA, hZB, hTA, hTB, hnw⟩ := id cx
  intro n
  induction n with
  | zero => intro x3 v_chosen k h; rw [f_Search_startBehind_L4] at h; cases h
  | succ n ih =>
    intro x3 v_chosen k h hk H locs hP hD hS ls hl
    rw [f_Search_startBehind_L4] at h
    refine lv_iload_n hx hb d_Search_startBehind_4 rfl (lv_at hl 0 rfl) ?_
    refine lv_bipush (v := 21) hx hb d_Search_startBehind_5 (by decide) ?_
    refine lv_icmp_ge (tgt := 24) hx hb d_Search_startBehind_7 (by decide) (fun hc => ?_) (fun hc => ?_)
    · rw [if_pos hc] at h
      exact hk _ h _ _ hP hD hS ls (lv_sub hl [] rfl)
    · rw [if_neg hc] at h
      refine lv_aload_n hx hb d_Search_startBehind_10 rfl (lv_at hl 1 rfl) ?_
      refine va_get (D := D) (ci := 2) (v := .ref a_chosen) (C := R_Search) (T := T_Search) (N := 5) hx hb hts (fun w h9 => ct_in (iw_Search w h9)) hown hK hP 0 rfl rfl 2 (by decide) (hts _ (ct_in k_73)) (fun _ h9 => h9) rfl d_Search_startBehind_11 ?_
      refine lv_iload_n hx hb d_Search_startBehind_14 rfl (lv_at hl 0 rfl) ?_
      refine lv_iload_n hx hb d_Search_startBehind_15 rfl (lv_at hl 2 rfl) ?_
      refine lv_ineg hx hb d_Search_startBehind_16 ?_
      obtain ⟨hin, h⟩ := ct_chk h
      refine va_iast hx hb hK hP hD hS 1 0 rfl rfl hin d_Search_startBehind_17 (fun H locs hP hD hS => ?_)
      have hP : va_P D vwCl [(a_this, .inr (2, [.ref a_table, .ref a_rest, .ref a_chosen, .ref a_lastFree, .ref a_steps])), (a_chosen, .inl (cI, 21, .inl (upd v_chosen x3.toNatClampNeg (-x2))))] H := hP
      have hD : va_D A [(a_this, .inr (2, [.ref a_table, .ref a_rest, .ref a_chosen, .ref a_lastFree, .ref a_steps])), (a_chosen, .inl (cI, 21, .inl (upd v_chosen x3.toNatClampNeg (-x2))))] := hD
      refine lv_iinc (v := (x3 + 1)) (lv' := [(3, .int (x3 + 1)), (0, .ref a_this), (2, .int x2)]) hx hb d_Search_startBehind_18 hl (k := 0) rfl rfl (by decide) rfl (fun ls hl => ?_)
      refine lv_goto (tgt := 4) hx hb d_Search_startBehind_21 (by decide) ?_
      exact ih _ _ k h hk _ _ hP hD hS ls (lv_sub hl [0, 1, 2] rfl)
set_option maxHeartbeats 4000000 in
set_option maxRecDepth 100000 in
theorem w_Search_startBehind {p : Program} {l : Launch} {e : Env} {s : State} {m : MethodId} {args : Array Value} {below : List Frame} {meth : Method} {c : Code} {D : va_G} {cI cL cZ : ClassId} {tA tB : Nat} {A : Nat → Prop} {a_this a_table a_rest a_chosen a_lastFree a_steps : Nat} {p0 : Int32} {p1 : Int32} {v_chosen : Nat → Int32} {o_v_chosen : Nat → Int32} (cx : ct_Cx p s m args meth c b_Search_startBehind 4 none R_Search wd_Search_startBehind D (ct_tys cI cL cZ) tA tB A) (h : f_Search_startBehind p0 p1 v_chosen = some o_v_chosen) : ∀ (H : Heap) (locs : List Loc), va_P D vwCl [(a_this, .inr (2, [.ref a_table, .ref a_rest, .ref a_chosen, .ref a_lastFree, .ref a_steps])), (a_chosen, .inl (cI, 21, .inl v_chosen))] H → va_D A [(a_this, .inr (2, [.ref a_table, .ref a_rest, .ref a_chosen, .ref a_lastFree, .ref a_steps])), (a_chosen, .inl (cI, 21, .inl v_chosen))] → va_S A s.heap H locs → ∀ ls : Array Slot, lv_has ls 4 [(0, .ref a_this), (1, .int p0), (2, .int p1)] → W p l e (headSpec wd_Search_startBehind rm_Search_startBehind).room s m args below meth c H locs 0 0 (MQ below (ct_Qv D [(a_this, .inr (2, [.ref a_table, .ref a_rest, .ref a_chosen, .ref a_lastFree, .ref a_steps])), (a_chosen, .inl (cI, 21, .inl o_v_chosen))] A) args s 0 0 A) (F0 m 0 ls []) := by
  obtain ⟨hx, hb, hr, hml, hown, hts, hK, hA, hT, hlocks, hZA, hZB, hTA, hTB, hnw⟩ := id cx
  intro H locs hP hD hS ls hl
  rw [f_Search_startBehind] at h
  refine lv_iload_n hx hb d_Search_startBehind_0 rfl (lv_at hl 1 rfl) ?_
  refine lv_iconst (v := 1) hx hb d_Search_startBehind_1 (by decide) ?_
  refine lv_iadd hx hb d_Search_startBehind_2 ?_
  refine lv_istore_n (lv' := [(3, .int (p0 + 1)), (0, .ref a_this), (1, .int p0), (2, .int p1)]) hx hb d_Search_startBehind_3 rfl hl (by decide) rfl (fun ls hl => ?_)
  refine w_Search_startBehind_L4 cx _ _ _ _ h (fun v_chosen_1 h H locs hP hD hS ls hl => ?_) _ _ hP hD hS ls (lv_sub hl [0, 1, 3] rfl)
  try dsimp only at h
  cases h
  exact W.vret hx hb hr (fun t ht hW => ⟨⟨(), rfl, trivial, by rw [ht]; exact hP, hD⟩, hS.F ht⟩) hS.2.2 d_Search_startBehind_24
set_option maxHeartbeats 4000000 in
set_option maxRecDepth 100000 in
theorem c_Search_startBehind (l : Launch) (D : va_G) (cI cL cZ : ClassId) (tA tB sz : Nat) (a_this a_table a_rest a_chosen a_lastFree a_steps : Nat) (p0 : Int32) (p1 : Int32) (v_chosen : Nat → Int32) (o_v_chosen : Nat → Int32) (A : Nat → Prop) (hAe : A = va_A [(a_this, .inr (2, [.ref a_table, .ref a_rest, .ref a_chosen, .ref a_lastFree, .ref a_steps])), (a_chosen, .inl (cI, 21, .inl v_chosen))] sz) (h : f_Search_startBehind p0 p1 v_chosen = some o_v_chosen) : Met l y_Search_startBehind wd_Search_startBehind rm_Search_startBehind (ct_Pre D (ct_tys cI cL cZ) tA tB [(a_this, .inr (2, [.ref a_table, .ref a_rest, .ref a_chosen, .ref a_lastFree, .ref a_steps])), (a_chosen, .inl (cI, 21, .inl v_chosen))] sz [.ref a_this, .int p0, .int p1]) (ct_Qv D [(a_this, .inr (2, [.ref a_table, .ref a_rest, .ref a_chosen, .ref a_lastFree, .ref a_steps])), (a_chosen, .inl (cI, 21, .inl o_v_chosen))] A) 0 0 A := by
  refine Met.ofW (cc := b_Search_startBehind) (maxL := 4) (ret := none) (by decide) rfl ?_
  intro p e s m args below meth c s₁ B hml hv
  obtain ⟨hargs, hsz, hP, hK, hD0, hT⟩ := hv
  subst hsz
  have hD := hD0.self (sz := s.heap.size)
  rw [← hAe] at hD hT
  have hA : ∀ q : Nat, s.heap.size ≤ q → A q := fun q h => by rw [hAe]; exact Or.inr h
  clear hAe
  have cx : ct_Cx p s m args meth c b_Search_startBehind 4 none R_Search wd_Search_startBehind D (ct_tys cI cL cZ) tA tB A := ⟨B.exec, B.bytes, B.returns, hml, findClass_of_methodNamed B.named, atoms_spec (ws := wd_Search_startBehind) B.pre, hK, hA, hT, B.notSynchronized, hT.1, hT.2.1, hT.2.2.1, hT.2.2.2.1, hT.2.2.2.2⟩
  have hl := lv_entry ([.ref a_this, .int p0, .int p1]) (n := 4) (Nat.le_of_ble_eq_true rfl)
  rw [show entryFrame m args 4 = entryFrame m ([.ref a_this, .int p0, .int p1] : List Value).toArray 4 by rw [hargs], lg_entry_eq]
  exact w_Search_startBehind cx h _ _ hP hD va_S.rf _ hl
