abbrev rm_Ar_fill_6 : Room := { frames := 0, cells := 0, slots := 0, locals := 0 }
abbrev wd_Ar_fill_6 : List Cond := .code y_Ar_fill b_Ar_fill 4 none :: ct_G
def f_Ar_fill_6_L5 (x3 : Int32) (x1 : Int32) : Nat → Int32 → (Nat → Int32) → ((Nat → Int32) → Option ((Nat → Int32))) → Option ((Nat → Int32))
  | 0, _, _, _ => none
  | n + 1, x2, v_arr, k => (if x3 ≤ x2 then (k v_arr) else (if x2 < 0 ∨ 6 ≤ x2.toNatClampNeg then none else (f_Ar_fill_6_L5 x3 x1 n (x2 + 1) (upd v_arr x2.toNatClampNeg x1) k)))
def f_Ar_fill_6 (val : Int32) (v_arr : Nat → Int32) : Option ((Nat → Int32)) := (f_Ar_fill_6_L5 6 val 7 0 v_arr (fun (v_arr_1 : Nat → Int32) => some v_arr_1))
set_option maxHeartbeats 4000000 in
set_option maxRecDepth 100000 in
theorem w_Ar_fill_6_L5 {p : Program} {l : Launch} {e : Env} {s : State} {m : MethodId} {args : Array Value} {below : List Frame} {meth : Method} {c : Code} {D : va_G} {cI cL cZ : ClassId} {tA tB : Nat} {A : Nat → Prop} {Q : State → Prop} {a_arr : Nat} {x3 : Int32} {x1 : Int32} {o_v_arr : Nat → Int32} (cx : ct_Cx p s m args meth c b_Ar_fill 4 none R_Ar wd_Ar_fill_6 D (ct_tys cI cL cZ) tA tB A) : ∀ (n : Nat) (x2 : Int32) (v_arr : Nat → Int32) (k : ((Nat → Int32) → Option ((Nat → Int32)))), f_Ar_fill_6_L5 x3 x1 n x2 v_arr k = some o_v_arr → (∀ (v_arr : Nat → Int32), k v_arr = some o_v_arr → ∀ (H : Heap) (locs : List Loc), va_P D vwCl [(a_arr, .inl (cI, 6, .inl v_arr))] H → va_D A [(a_arr, .inl (cI, 6, .inl v_arr))] → va_S A s.heap H locs → ∀ ls : Array Slot, lv_has ls 4 [] → W p l e (headSpec wd_Ar_fill_6 rm_Ar_fill_6).room s m args below meth c H locs 0 0 Q (F0 m 20 ls [])) → ∀ (H : Heap) (locs : List Loc), va_P D vwCl [(a_arr, .inl (cI, 6, .inl v_arr))] H → va_D A [(a_arr, .inl (cI, 6, .inl v_arr))] → va_S A s.heap H locs → ∀ ls : Array Slot, lv_has ls 4 [(3, .int x3), (2, .int x2), (0, .ref a_arr), (1, .int x1)] → W p l e (headSpec wd_Ar_fill_6 rm_Ar_fill_6).room s m args below meth c H locs 0 0 Q (F0 m 5 ls []) := by
  obtain ⟨hx, hb, hr, hml, hown, hts, hK, hA, hT, hlocks, hZA, hZB, hTA, hTB, hnw⟩ := id cx
  intro n
  induction n with
  | zero => intro x2 v_arr k h; rw [f_Ar_fill_6_L5] at h; cases h
  | succ n ih =>
    intro x2 v_arr k h hk H locs hP hD hS ls hl
    rw [f_Ar_fill_6_L5] at h
    refine lv_iload_n hx hb d_Ar_fill_5 rfl (lv_at hl 1 rfl) ?_
    refine lv_iload_n hx hb d_Ar_fill_6 rfl (lv_at hl 0 rfl) ?_
    refine lv_icmp_ge (tgt := 20) hx hb d_Ar_fill_7 (by decide) (fun hc => ?_) (fun hc => ?_)
    · rw [if_pos hc] at h
      exact hk _ h _ _ hP hD hS ls (lv_sub hl [] rfl)
    · rw [if_neg hc] at h
      refine lv_aload_n hx hb d_Ar_fill_10 rfl (lv_at hl 2 rfl) ?_
      refine lv_iload_n hx hb d_Ar_fill_11 rfl (lv_at hl 1 rfl) ?_
      refine lv_iload_n hx hb d_Ar_fill_12 rfl (lv_at hl 3 rfl) ?_
      obtain ⟨hin, h⟩ := ct_chk h
      refine va_iast hx hb hK hP hD hS 0 0 rfl rfl hin d_Ar_fill_13 (fun H locs hP hD hS => ?_)
      have hP : va_P D vwCl [(a_arr, .inl (cI, 6, .inl (upd v_arr x2.toNatClampNeg x1)))] H := hP
      have hD : va_D A [(a_arr, .inl (cI, 6, .inl (upd v_arr x2.toNatClampNeg x1)))] := hD
      refine lv_iinc (v := (x2 + 1)) (lv' := [(2, .int (x2 + 1)), (3, .int x3), (0, .ref a_arr), (1, .int x1)]) hx hb d_Ar_fill_14 hl (k := 1) rfl rfl (by decide) rfl (fun ls hl => ?_)
      refine lv_goto (tgt := 5) hx hb d_Ar_fill_17 (by decide) ?_
      exact ih _ _ k h hk _ _ hP hD hS ls (lv_sub hl [1, 0, 2, 3] rfl)
set_option maxHeartbeats 4000000 in
set_option maxRecDepth 100000 in
theorem w_Ar_fill_6 {p : Program} {l : Launch} {e : Env} {s : State} {m : MethodId} {args : Array Value} {below : List Frame} {meth : Method} {c : Code} {D : va_G} {cI cL cZ : ClassId} {tA tB : Nat} {A : Nat → Prop} {a_arr : Nat} {val : Int32} {v_arr : Nat → Int32} {o_v_arr : Nat → Int32} (cx : ct_Cx p s m args meth c b_Ar_fill 4 none R_Ar wd_Ar_fill_6 D (ct_tys cI cL cZ) tA tB A) (h : f_Ar_fill_6 val v_arr = some o_v_arr) : ∀ (H : Heap) (locs : List Loc), va_P D vwCl [(a_arr, .inl (cI, 6, .inl v_arr))] H → va_D A [(a_arr, .inl (cI, 6, .inl v_arr))] → va_S A s.heap H locs → ∀ ls : Array Slot, lv_has ls 4 [(0, .ref a_arr), (1, .int val)] → W p l e (headSpec wd_Ar_fill_6 rm_Ar_fill_6).room s m args below meth c H locs 0 0 (MQ below (ct_Qv D [(a_arr, .inl (cI, 6, .inl o_v_arr))] A) args s 0 0 A) (F0 m 0 ls []) := by
  obtain ⟨hx, hb, hr, hml, hown, hts, hK, hA, hT, hlocks, hZA, hZB, hTA, hTB, hnw⟩ := id cx
  intro H locs hP hD hS ls hl
  rw [f_Ar_fill_6] at h
  refine lv_iconst (v := 0) hx hb d_Ar_fill_0 (by decide) ?_
  refine lv_istore_n (lv' := [(2, .int 0), (0, .ref a_arr), (1, .int val)]) hx hb d_Ar_fill_1 rfl hl (by decide) rfl (fun ls hl => ?_)
  refine lv_aload_n hx hb d_Ar_fill_2 rfl (lv_at hl 1 rfl) ?_
  refine va_alen hx hb hK hP 0 0 rfl rfl (v := 6) rfl d_Ar_fill_3 ?_
  refine lv_istore_n (lv' := [(3, .int 6), (2, .int 0), (0, .ref a_arr), (1, .int val)]) hx hb d_Ar_fill_4 rfl hl (by decide) rfl (fun ls hl => ?_)
  refine w_Ar_fill_6_L5 cx _ _ _ _ h (fun v_arr_1 h H locs hP hD hS ls hl => ?_) _ _ hP hD hS ls (lv_sub hl [0, 1, 2, 3] rfl)
  try dsimp only at h
  cases h
  exact W.vret hx hb hr (fun t ht hW => ⟨⟨(), rfl, trivial, by rw [ht]; exact hP, hD⟩, hS.F ht⟩) hS.2.2 d_Ar_fill_20
set_option maxHeartbeats 4000000 in
set_option maxRecDepth 100000 in
theorem c_Ar_fill_6 (l : Launch) (D : va_G) (cI cL cZ : ClassId) (tA tB sz : Nat) (a_arr : Nat) (val : Int32) (v_arr : Nat → Int32) (o_v_arr : Nat → Int32) (A : Nat → Prop) (hAe : A = va_A [(a_arr, .inl (cI, 6, .inl v_arr))] sz) (h : f_Ar_fill_6 val v_arr = some o_v_arr) : Met l y_Ar_fill wd_Ar_fill_6 rm_Ar_fill_6 (ct_Pre D (ct_tys cI cL cZ) tA tB [(a_arr, .inl (cI, 6, .inl v_arr))] sz [.ref a_arr, .int val]) (ct_Qv D [(a_arr, .inl (cI, 6, .inl o_v_arr))] A) 0 0 A := by
  refine Met.ofW (cc := b_Ar_fill) (maxL := 4) (ret := none) (by decide) rfl ?_
  intro p e s m args below meth c s₁ B hml hv
  obtain ⟨hargs, hsz, hP, hK, hD0, hT⟩ := hv
  subst hsz
  have hD := hD0.self (sz := s.heap.size)
  rw [← hAe] at hD hT
  have hA : ∀ q : Nat, s.heap.size ≤ q → A q := fun q h => by rw [hAe]; exact Or.inr h
  clear hAe
  have cx : ct_Cx p s m args meth c b_Ar_fill 4 none R_Ar wd_Ar_fill_6 D (ct_tys cI cL cZ) tA tB A := ⟨B.exec, B.bytes, B.returns, hml, findClass_of_methodNamed B.named, atoms_spec (ws := wd_Ar_fill_6) B.pre, hK, hA, hT, B.notSynchronized, hT.1, hT.2.1, hT.2.2.1, hT.2.2.2.1, hT.2.2.2.2⟩
  have hl := lv_entry ([.ref a_arr, .int val]) (n := 4) (Nat.le_of_ble_eq_true rfl)
  rw [show entryFrame m args 4 = entryFrame m ([.ref a_arr, .int val] : List Value).toArray 4 by rw [hargs], lg_entry_eq]
  exact w_Ar_fill_6 cx h _ _ hP hD va_S.rf _ hl
