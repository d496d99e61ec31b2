abbrev rm_Search_markFrom : Room := { frames := 0, cells := 0, slots := 0, locals := 0 }
abbrev wd_Search_markFrom : List Cond := .code y_Search_markFrom b_Search_markFrom 4 none :: ct_G
def f_Search_markFrom_L2 (x2 : Int32) : Nat → Int32 → (Nat → Int32) → ((Nat → Int32) → Option ((Nat → Int32))) → Option ((Nat → Int32))
  | 0, _, _, _ => none
  | n + 1, x3, lastFree, k => (if 6 ≤ x3 then (k lastFree) else (if x3 < 0 ∨ 6 ≤ x3.toNatClampNeg then none else (f_Search_markFrom_L2 x2 n (x3 + 1) (upd lastFree x3.toNatClampNeg x2) k)))
def f_Search_markFrom (p0 : Int32) (p1 : Int32) (lastFree : Nat → Int32) : Option ((Nat → Int32)) := (f_Search_markFrom_L2 p1 40 p0 lastFree (fun (lastFree_1 : Nat → Int32) => some lastFree_1))
set_option maxHeartbeats 4000000 in
set_option maxRecDepth 100000 in
theorem w_Search_markFrom_L2 {p : Program} {l : Launch} {e : Env} {s : State} {m : MethodId} {args : Array Value} {below : List Frame} {meth : Method} {c : Code} {D : va_G} {cI cL cZ : ClassId} {tA tB : Nat} {A : Nat → Prop} {Q : State → Prop} {a_this a_table a_rest a_chosen a_lastFree a_steps : Nat} {x2 : Int32} {o_lastFree : Nat → Int32} (cx : ct_Cx p s m args meth c b_Search_markFrom 4 none R_Search wd_Search_markFrom D (ct_tys cI cL cZ) tA tB A) : ∀ (n : Nat) (x3 : Int32) (lastFree : Nat → Int32) (k : ((Nat → Int32) → Option ((Nat → Int32)))), f_Search_markFrom_L2 x2 n x3 lastFree k = some o_lastFree → (∀ (lastFree : Nat → Int32), k lastFree = some o_lastFree → ∀ (H : Heap) (locs : List Loc), va_P D vwCl [(a_this, .inr (2, [.ref a_table, .ref a_rest, .ref a_chosen, .ref a_lastFree, .ref a_steps])), (a_lastFree, .inl (cI, 6, .inl lastFree))] H → va_D A [(a_this, .inr (2, [.ref a_table, .ref a_rest, .ref a_chosen, .ref a_lastFree, .ref a_steps])), (a_lastFree, .inl (cI, 6, .inl lastFree))] → va_S A s.heap H locs → ∀ ls : Array Slot, lv_has ls 4 [] → W p l e (headSpec wd_Search_markFrom rm_Search_markFrom).room s m args below meth c H locs 0 0 Q (F0 m 21 ls [])) → ∀ (H : Heap) (locs : List Loc), va_P D vwCl [(a_this, .inr (2, [.ref a_table, .ref a_rest, .ref a_chosen, .ref a_lastFree, .ref a_steps])), (a_lastFree, .inl (cI, 6, .inl lastFree))] H → va_D A [(a_this, .inr (2, [.ref a_table, .ref a_rest, .ref a_chosen, .ref a_lastFree, .ref a_steps])), (a_lastFree, .inl (cI, 6, .inl lastFree))] → va_S A s.heap H locs → ∀ ls : Array Slot, lv_has ls 4 [(3, .int x3), (0, .ref a_this), (2, .int x2)] → W p l e (headSpec wd_Search_markFrom rm_Search_markFrom).room s m args below meth c H locs 0 0 Q (F0 m 2 ls []) := by
  obtain ⟨hx, hb, hr, hml, hown, hts, hK, hA, hT, hlocks, hZA, hZB, hTA, hTB, hnw⟩ := id cx
  intro n
  induction n with
  | zero => intro x3 lastFree k h; rw [f_Search_markFrom_L2] at h; cases h
  | succ n ih =>
    intro x3 lastFree k h hk H locs hP hD hS ls hl
    rw [f_Search_markFrom_L2] at h
    refine lv_iload_n hx hb d_Search_markFrom_2 rfl (lv_at hl 0 rfl) ?_
    refine lv_bipush (v := 6) hx hb d_Search_markFrom_3 (by decide) ?_
    refine lv_icmp_ge (tgt := 21) hx hb d_Search_markFrom_5 (by decide) (fun hc => ?_) (fun hc => ?_)
    · rw [if_pos hc] at h
      exact hk _ h _ _ hP hD hS ls (lv_sub hl [] rfl)
    · rw [if_neg hc] at h
      refine lv_aload_n hx hb d_Search_markFrom_8 rfl (lv_at hl 1 rfl) ?_
      refine va_get (D := D) (ci := 2) (v := .ref a_lastFree) (C := R_Search) (T := T_Search) (N := 5) hx hb hts (fun w h9 => ct_in (iw_Search w h9)) hown hK hP 0 rfl rfl 3 (by decide) (hts _ (ct_in k_79)) (fun _ h9 => h9) rfl d_Search_markFrom_9 ?_
      refine lv_iload_n hx hb d_Search_markFrom_12 rfl (lv_at hl 0 rfl) ?_
      refine lv_iload_n hx hb d_Search_markFrom_13 rfl (lv_at hl 2 rfl) ?_
      obtain ⟨hin, h⟩ := ct_chk h
      refine va_iast hx hb hK hP hD hS 1 0 rfl rfl hin d_Search_markFrom_14 (fun H locs hP hD hS => ?_)
      have hP : va_P D vwCl [(a_this, .inr (2, [.ref a_table, .ref a_rest, .ref a_chosen, .ref a_lastFree, .ref a_steps])), (a_lastFree, .inl (cI, 6, .inl (upd lastFree x3.toNatClampNeg x2)))] H := hP
      have hD : va_D A [(a_this, .inr (2, [.ref a_table, .ref a_rest, .ref a_chosen, .ref a_lastFree, .ref a_steps])), (a_lastFree, .inl (cI, 6, .inl (upd lastFree x3.toNatClampNeg x2)))] := hD
      refine lv_iinc (v := (x3 + 1)) (lv' := [(3, .int (x3 + 1)), (0, .ref a_this), (2, .int x2)]) hx hb d_Search_markFrom_15 hl (k := 0) rfl rfl (by decide) rfl (fun ls hl => ?_)
      refine lv_goto (tgt := 2) hx hb d_Search_markFrom_18 (by decide) ?_
      exact ih _ _ k h hk _ _ hP hD hS ls (lv_sub hl [0, 1, 2] rfl)
set_option maxHeartbeats 4000000 in
set_option maxRecDepth 100000 in
theorem w_Search_markFrom {p : Program} {l : Launch} {e : Env} {s : State} {m : MethodId} {args : Array Value} {below : List Frame} {meth : Method} {c : Code} {D : va_G} {cI cL cZ : ClassId} {tA tB : Nat} {A : Nat → Prop} {a_this a_table a_rest a_chosen a_lastFree a_steps : Nat} {p0 : Int32} {p1 : Int32} {lastFree : Nat → Int32} {o_lastFree : Nat → Int32} (cx : ct_Cx p s m args meth c b_Search_markFrom 4 none R_Search wd_Search_markFrom D (ct_tys cI cL cZ) tA tB A) (h : f_Search_markFrom p0 p1 lastFree = some o_lastFree) : ∀ (H : Heap) (locs : List Loc), va_P D vwCl [(a_this, .inr (2, [.ref a_table, .ref a_rest, .ref a_chosen, .ref a_lastFree, .ref a_steps])), (a_lastFree, .inl (cI, 6, .inl lastFree))] H → va_D A [(a_this, .inr (2, [.ref a_table, .ref a_rest, .ref a_chosen, .ref a_lastFree, .ref a_steps])), (a_lastFree, .inl (cI, 6, .inl lastFree))] → va_S A s.heap H locs → ∀ ls : Array Slot, lv_has ls 4 [(0, .ref a_this), (1, .int p0), (2, .int p1)] → W p l e (headSpec wd_Search_markFrom rm_Search_markFrom).room s m args below meth c H locs 0 0 (MQ below (ct_Qv D [(a_this, .inr (2, [.ref a_table, .ref a_rest, .ref a_chosen, .ref a_lastFree, .ref a_steps])), (a_lastFree, .inl (cI, 6, .inl o_lastFree))] A) args s 0 0 A) (F0 m 0 ls []) := by
  obtain ⟨hx, hb, hr, hml, hown, hts, hK, hA, hT, hlocks, hZA, hZB, hTA, hTB, hnw⟩ := id cx
  intro H locs hP hD hS ls hl
  rw [f_Search_markFrom] at h
  refine lv_iload_n hx hb d_Search_markFrom_0 rfl (lv_at hl 1 rfl) ?_
  refine lv_istore_n (lv' := [(3, .int p0), (0, .ref a_this), (1, .int p0), (2, .int p1)]) hx hb d_Search_markFrom_1 rfl hl (by decide) rfl (fun ls hl => ?_)
  refine w_Search_markFrom_L2 cx _ _ _ _ h (fun lastFree_1 h H locs hP hD hS ls hl => ?_) _ _ hP hD hS ls (lv_sub hl [0, 1, 3] rfl)
  try dsimp only at h
  cases h
  exact W.vret hx hb hr (fun t ht hW => ⟨⟨(), rfl, trivial, by rw [ht]; exact hP, hD⟩, hS.F ht⟩) hS.2.2 d_Search_markFrom_21
set_option maxHeartbeats 4000000 in
set_option maxRecDepth 100000 in
theorem c_Search_markFrom (l : Launch) (D : va_G) (cI cL cZ : ClassId) (tA tB sz : Nat) (a_this a_table a_rest a_chosen a_lastFree a_steps : Nat) (p0 : Int32) (p1 : Int32) (lastFree : Nat → Int32) (o_lastFree : Nat → Int32) (A : Nat → Prop) (hAe : A = va_A [(a_this, .inr (2, [.ref a_table, .ref a_rest, .ref a_chosen, .ref a_lastFree, .ref a_steps])), (a_lastFree, .inl (cI, 6, .inl lastFree))] sz) (h : f_Search_markFrom p0 p1 lastFree = some o_lastFree) : Met l y_Search_markFrom wd_Search_markFrom rm_Search_markFrom (ct_Pre D (ct_tys cI cL cZ) tA tB [(a_this, .inr (2, [.ref a_table, .ref a_rest, .ref a_chosen, .ref a_lastFree, .ref a_steps])), (a_lastFree, .inl (cI, 6, .inl lastFree))] sz [.ref a_this, .int p0, .int p1]) (ct_Qv D [(a_this, .inr (2, [.ref a_table, .ref a_rest, .ref a_chosen, .ref a_lastFree, .ref a_steps])), (a_lastFree, .inl (cI, 6, .inl o_lastFree))] A) 0 0 A := by
  refine Met.ofW (cc := b_Search_markFrom) (maxL := 4) (ret := none) (by decide) rfl ?_
  intro p e s m args below meth c s₁ B hml hv
  obtain ⟨hargs, hsz, hP, hK, hD0, hT⟩ := hv
  subst hsz
  have hD := hD0.self (sz := s.heap.size)
  rw [← hAe] at hD hT
  have hA : ∀ q : Nat, s.heap.size ≤ q → A q := fun q h => by rw [hAe]; exact Or.inr h
  clear hAe
  have cx : ct_Cx p s m args meth c b_Search_markFrom 4 none R_Search wd_Search_markFrom D (ct_tys cI cL cZ) tA tB A := ⟨B.exec, B.bytes, B.returns, hml, findClass_of_methodNamed B.named, atoms_spec (ws := wd_Search_markFrom) B.pre, hK, hA, hT, B.notSynchronized, hT.1, hT.2.1, hT.2.2.1, hT.2.2.2.1, hT.2.2.2.2⟩
  have hl := lv_entry ([.ref a_this, .int p0, .int p1]) (n := 4) (Nat.le_of_ble_eq_true rfl)
  rw [show entryFrame m args 4 = entryFrame m ([.ref a_this, .int p0, .int p1] : List Value).toArray 4 by rw [hargs], lg_entry_eq]
  exact w_Search_markFrom cx h _ _ hP hD va_S.rf _ hl
abbrev rm_Search_findLastFree : Room := { frames := 1, cells := 0, slots := 0, locals := 23 }
abbrev wd_Search_findLastFree : List Cond := .code y_Search_findLastFree b_Search_findLastFree 5 none :: ct_G
def f_Search_findLastFree_L33 (x3 : Int32) (x2 : Int32) (pairs_size : Int32) (pairs_second : Nat → Int32) (pairs_power : Nat → Int32) : Nat → Int32 → (Nat → Int32) → ((Nat → Int32) → Option ((Nat → Int32))) → Option ((Nat → Int32))
  | 0, _, _, _ => none
  | n + 1, x4, lastFree, k => (if pairs_size ≤ x4 then (k lastFree) else (if x4 < 0 ∨ 21 ≤ x4.toNatClampNeg then none else (if (pairs_power x4.toNatClampNeg) = x3 then (if x4 < 0 ∨ 21 ≤ x4.toNatClampNeg then none else ((f_Search_markFrom (pairs_second x4.toNatClampNeg) x2 lastFree).bind (fun lastFree_21 => (f_Search_findLastFree_L33 x3 x2 pairs_size pairs_second pairs_power n (x4 + 1) lastFree_21 k)))) else (f_Search_findLastFree_L33 x3 x2 pairs_size pairs_second pairs_power n (x4 + 1) lastFree k))))
def f_Search_findLastFree_L10 (pairs_size : Int32) (pairs_freeSize : Int32) (pairs_second : Nat → Int32) (pairs_power : Nat → Int32) (pairs_freePairs : Nat → Int32) : Nat → Int32 → (Nat → Int32) → ((Nat → Int32) → Option ((Nat → Int32))) → Option ((Nat → Int32))
  | 0, _, _, _ => none
  | n + 1, x2, lastFree, k => (if pairs_freeSize ≤ x2 then (k lastFree) else (if x2 < 0 ∨ 21 ≤ x2.toNatClampNeg then none else (if (pairs_freePairs x2.toNatClampNeg) < 0 ∨ 21 ≤ (pairs_freePairs x2.toNatClampNeg).toNatClampNeg then none else (f_Search_findLastFree_L33 (pairs_power (pairs_freePairs x2.toNatClampNeg).toNatClampNeg) x2 pairs_size pairs_second pairs_power 40 0 lastFree (fun (lastFree_22 : Nat → Int32) => (f_Search_findLastFree_L10 pairs_size pairs_freeSize pairs_second pairs_power pairs_freePairs n (x2 + 1) lastFree_22 k))))))
def f_Search_findLastFree (lastFree : Nat → Int32) (pairs_size : Int32) (pairs_freeSize : Int32) (pairs_second : Nat → Int32) (pairs_power : Nat → Int32) (pairs_freePairs : Nat → Int32) : Option ((Nat → Int32)) := ((f_Ar_fill_6 ((-1) : Int32) lastFree).bind (fun arr_1 => (f_Search_findLastFree_L10 pairs_size pairs_freeSize pairs_second pairs_power pairs_freePairs 40 0 arr_1 (fun (lastFree_23 : Nat → Int32) => some lastFree_23))))
set_option maxHeartbeats 4000000 in
set_option maxRecDepth 100000 in
theorem w_Search_findLastFree_L33 {p : Program} {l : Launch} {e : Env} {s : State} {m : MethodId} {args : Array Value} {below : List Frame} {meth : Method} {c : Code} {D : va_G} {cI cL cZ : ClassId} {tA tB : Nat} {A : Nat → Prop} {Q : State → Prop} {a_this a_table a_rest a_chosen a_lastFree a_steps a_pairs a_pairs_second a_pairs_cell a_pairs_power a_pairs_share a_pairs_hanging a_pairs_freePairs a_pairs_rest : Nat} {x3 : Int32} {x2 : Int32} {pairs_size : Int32} {pairs_freeSize : Int32} {pairs_second : Nat → Int32} {pairs_power : Nat → Int32} {pairs_freePairs : Nat → Int32} {o_lastFree : Nat → Int32} (cx : ct_Cx p s m args meth c b_Search_findLastFree 5 none R_Search wd_Search_findLastFree D (ct_tys cI cL cZ) tA tB A) : ∀ (n : Nat) (x4 : Int32) (lastFree : Nat → Int32) (k : ((Nat → Int32) → Option ((Nat → Int32)))), f_Search_findLastFree_L33 x3 x2 pairs_size pairs_second pairs_power n x4 lastFree k = some o_lastFree → (∀ (lastFree : Nat → Int32), k lastFree = some o_lastFree → ∀ (H : Heap) (locs : List Loc), va_P D vwCl [(a_this, .inr (2, [.ref a_table, .ref a_rest, .ref a_chosen, .ref a_lastFree, .ref a_steps])), (a_lastFree, .inl (cI, 6, .inl lastFree)), (a_pairs, .inr (1, [.ref a_pairs_second, .ref a_pairs_cell, .ref a_pairs_power, .ref a_pairs_share, .ref a_pairs_hanging, .ref a_pairs_freePairs, .ref a_pairs_rest, .int pairs_size, .int pairs_freeSize])), (a_pairs_second, .inl (cI, 21, .inl pairs_second)), (a_pairs_power, .inl (cI, 21, .inl pairs_power)), (a_pairs_freePairs, .inl (cI, 21, .inl pairs_freePairs))] H → va_D A [(a_this, .inr (2, [.ref a_table, .ref a_rest, .ref a_chosen, .ref a_lastFree, .ref a_steps])), (a_lastFree, .inl (cI, 6, .inl lastFree)), (a_pairs, .inr (1, [.ref a_pairs_second, .ref a_pairs_cell, .ref a_pairs_power, .ref a_pairs_share, .ref a_pairs_hanging, .ref a_pairs_freePairs, .ref a_pairs_rest, .int pairs_size, .int pairs_freeSize])), (a_pairs_second, .inl (cI, 21, .inl pairs_second)), (a_pairs_power, .inl (cI, 21, .inl pairs_power)), (a_pairs_freePairs, .inl (cI, 21, .inl pairs_freePairs))] → va_S A s.heap H locs → ∀ ls : Array Slot, lv_has ls 5 [(2, .int x2), (0, .ref a_this), (1, .ref a_pairs)] → W p l e (headSpec wd_Search_findLastFree rm_Search_findLastFree).room s m args below meth c H locs 0 0 Q (F0 m 71 ls [])) → ∀ (H : Heap) (locs : List Loc), va_P D vwCl [(a_this, .inr (2, [.ref a_table, .ref a_rest, .ref a_chosen, .ref a_lastFree, .ref a_steps])), (a_lastFree, .inl (cI, 6, .inl lastFree)), (a_pairs, .inr (1, [.ref a_pairs_second, .ref a_pairs_cell, .ref a_pairs_power, .ref a_pairs_share, .ref a_pairs_hanging, .ref a_pairs_freePairs, .ref a_pairs_rest, .int pairs_size, .int pairs_freeSize])), (a_pairs_second, .inl (cI, 21, .inl pairs_second)), (a_pairs_power, .inl (cI, 21, .inl pairs_power)), (a_pairs_freePairs, .inl (cI, 21, .inl pairs_freePairs))] H → va_D A [(a_this, .inr (2, [.ref a_table, .ref a_rest, .ref a_chosen, .ref a_lastFree, .ref a_steps])), (a_lastFree, .inl (cI, 6, .inl lastFree)), (a_pairs, .inr (1, [.ref a_pairs_second, .ref a_pairs_cell, .ref a_pairs_power, .ref a_pairs_share, .ref a_pairs_hanging, .ref a_pairs_freePairs, .ref a_pairs_rest, .int pairs_size, .int pairs_freeSize])), (a_pairs_second, .inl (cI, 21, .inl pairs_second)), (a_pairs_power, .inl (cI, 21, .inl pairs_power)), (a_pairs_freePairs, .inl (cI, 21, .inl pairs_freePairs))] → va_S A s.heap H locs → ∀ ls : Array Slot, lv_has ls 5 [(4, .int x4), (3, .int x3), (2, .int x2), (0, .ref a_this), (1, .ref a_pairs)] → W p l e (headSpec wd_Search_findLastFree rm_Search_findLastFree).room s m args below meth c H locs 0 0 Q (F0 m 33 ls []) := by
  obtain ⟨hx, hb, hr, hml, hown, hts, hK, hA, hT, hlocks, hZA, hZB, hTA, hTB, hnw⟩ := id cx
  intro n
  induction n with
  | zero => intro x4 lastFree k h; rw [f_Search_findLastFree_L33] at h; cases h
  | succ n ih =>
    intro x4 lastFree k h hk H locs hP hD hS ls hl
    rw [f_Search_findLastFree_L33] at h
    refine lv_iload hx hb d_Search_findLastFree_33 (lv_at hl 0 rfl) ?_
    refine lv_aload_n hx hb d_Search_findLastFree_35 rfl (lv_at hl 4 rfl) ?_
    refine va_getN (D := D) (ci := 1) (v := .int pairs_size) (C := R_Pairs) (T := T_Pairs) (N := 9) hx hb hts (fun w h9 => ct_in (iw_Pairs w h9)) hown hK hP 2 rfl rfl 7 (by decide) (ct_nest_use n_12 hnw) (fun _ h9 => h9) rfl d_Search_findLastFree_36 ?_
    refine lv_icmp_ge (tgt := 71) hx hb d_Search_findLastFree_39 (by decide) (fun hc => ?_) (fun hc => ?_)
    · rw [if_pos hc] at h
      exact hk _ h _ _ hP hD hS ls (lv_sub hl [2, 3, 4] rfl)
    · rw [if_neg hc] at h
      refine lv_aload_n hx hb d_Search_findLastFree_42 rfl (lv_at hl 4 rfl) ?_
      refine va_getN (D := D) (ci := 1) (v := .ref a_pairs_power) (C := R_Pairs) (T := T_Pairs) (N := 9) hx hb hts (fun w h9 => ct_in (iw_Pairs w h9)) hown hK hP 2 rfl rfl 2 (by decide) (ct_nest_use n_10 hnw) (fun _ h9 => h9) rfl d_Search_findLastFree_43 ?_
      refine lv_iload hx hb d_Search_findLastFree_46 (lv_at hl 0 rfl) ?_
      obtain ⟨hin, h⟩ := ct_chk h
      refine va_iald hx hb hK hP 4 0 rfl rfl hin d_Search_findLastFree_48 ?_
      refine lv_iload_n hx hb d_Search_findLastFree_49 rfl (lv_at hl 1 rfl) ?_
      refine lv_icmp_ne (tgt := 65) hx hb d_Search_findLastFree_50 (by decide) (fun hc => ?_) (fun hc => ?_)
      · rw [if_neg hc] at h
        refine lv_iinc (v := (x4 + 1)) (lv' := [(4, .int (x4 + 1)), (3, .int x3), (2, .int x2), (0, .ref a_this), (1, .ref a_pairs)]) hx hb d_Search_findLastFree_65 hl (k := 0) rfl rfl (by decide) rfl (fun ls hl => ?_)
        refine lv_goto (tgt := 33) hx hb d_Search_findLastFree_68 (by decide) ?_
        exact ih _ _ k h hk _ _ hP hD hS ls (lv_sub hl [0, 1, 2, 3, 4] rfl)
      · rw [if_pos hc] at h
        refine lv_aload_n hx hb d_Search_findLastFree_53 rfl (lv_at hl 3 rfl) ?_
        refine lv_aload_n hx hb d_Search_findLastFree_54 rfl (lv_at hl 4 rfl) ?_
        refine va_getN (D := D) (ci := 1) (v := .ref a_pairs_second) (C := R_Pairs) (T := T_Pairs) (N := 9) hx hb hts (fun w h9 => ct_in (iw_Pairs w h9)) hown hK hP 2 rfl rfl 0 (by decide) (ct_nest_use n_13 hnw) (fun _ h9 => h9) rfl d_Search_findLastFree_55 ?_
        refine lv_iload hx hb d_Search_findLastFree_58 (lv_at hl 0 rfl) ?_
        obtain ⟨hin, h⟩ := ct_chk h
        refine va_iald hx hb hK hP 3 0 rfl rfl hin d_Search_findLastFree_60 ?_
        refine lv_iload_n hx hb d_Search_findLastFree_61 rfl (lv_at hl 2 rfl) ?_
        obtain ⟨lastFree_21, ho, h⟩ := Option.bind_eq_some_iff.mp h
        refine ct_callv (wc := [(a_this, .inr (2, [.ref a_table, .ref a_rest, .ref a_chosen, .ref a_lastFree, .ref a_steps])), (a_lastFree, .inl (cI, 6, .inl lastFree))]) (wr := [(a_pairs, .inr (1, [.ref a_pairs_second, .ref a_pairs_cell, .ref a_pairs_power, .ref a_pairs_share, .ref a_pairs_hanging, .ref a_pairs_freePairs, .ref a_pairs_rest, .int pairs_size, .int pairs_freeSize])), (a_pairs_second, .inl (cI, 21, .inl pairs_second)), (a_pairs_power, .inl (cI, 21, .inl pairs_power)), (a_pairs_freePairs, .inl (cI, 21, .inl pairs_freePairs))]) (wc' := [(a_this, .inr (2, [.ref a_table, .ref a_rest, .ref a_chosen, .ref a_lastFree, .ref a_steps])), (a_lastFree, .inl (cI, 6, .inl lastFree_21))]) (ws' := [(a_this, .inr (2, [.ref a_table, .ref a_rest, .ref a_chosen, .ref a_lastFree, .ref a_steps])), (a_lastFree, .inl (cI, 6, .inl lastFree_21)), (a_pairs, .inr (1, [.ref a_pairs_second, .ref a_pairs_cell, .ref a_pairs_power, .ref a_pairs_share, .ref a_pairs_hanging, .ref a_pairs_freePairs, .ref a_pairs_rest, .int pairs_size, .int pairs_freeSize])), (a_pairs_second, .inl (cI, 21, .inl pairs_second)), (a_pairs_power, .inl (cI, 21, .inl pairs_power)), (a_pairs_freePairs, .inl (cI, 21, .inl pairs_freePairs))]) (va_runV (As := [.int (pairs_second x4.toNatClampNeg), .int x2]) (rest := []) ⟨hx, hb, hml, hown, hts⟩ (c_Search_markFrom l D cI cL cZ tA tB H.size a_this a_table a_rest a_chosen a_lastFree a_steps (pairs_second x4.toNatClampNeg) x2 lastFree lastFree_21 _ rfl ho) (cwV 2 hts (ct_goodV k_83 k_81 k_82 k_75 k_80) rfl rfl rfl (by decide +kernel) ⟨Nat.le_of_ble_eq_true rfl, Nat.le_of_ble_eq_true rfl⟩) (ct_preV (wc := [(a_this, .inr (2, [.ref a_table, .ref a_rest, .ref a_chosen, .ref a_lastFree, .ref a_steps])), (a_lastFree, .inl (cI, 6, .inl lastFree))]) hP hD hK hS hA hT [0, 1] rfl (by decide) (ci := 2) (q0 := 0) rfl rfl) rfl rfl hl.1 rfl (lv_room (Nat.le_of_ble_eq_true rfl)) d_Search_findLastFree_62 ⟨Nat.zero_le _, Nat.zero_le _⟩) hP hD hS hA [0, 1] [2, 3, 4, 5] rfl rfl (by decide) (by decide) [4, 5, 0, 1, 2, 3] rfl (by decide) (fun H locs hP hD hS => ?_)
        refine lv_iinc (v := (x4 + 1)) (lv' := [(4, .int (x4 + 1)), (3, .int x3), (2, .int x2), (0, .ref a_this), (1, .ref a_pairs)]) hx hb d_Search_findLastFree_65 hl (k := 0) rfl rfl (by decide) rfl (fun ls hl => ?_)
        refine lv_goto (tgt := 33) hx hb d_Search_findLastFree_68 (by decide) ?_
        exact ih _ _ k h hk _ _ hP hD hS ls (lv_sub hl [0, 1, 2, 3, 4] rfl)
set_option maxHeartbeats 4000000 in
set_option maxRecDepth 100000 in
theorem w_Search_findLastFree_L10 {p : Program} {l : Launch} {e : Env} {s : State} {m : MethodId} {args : Array Value} {below : List Frame} {meth : Method} {c : Code} {D : va_G} {cI cL cZ : ClassId} {tA tB : Nat} {A : Nat → Prop} {Q : State → Prop} {a_this a_table a_rest a_chosen a_lastFree a_steps a_pairs a_pairs_second a_pairs_cell a_pairs_power a_pairs_share a_pairs_hanging a_pairs_freePairs a_pairs_rest : Nat} {pairs_size : Int32} {pairs_freeSize : Int32} {pairs_second : Nat → Int32} {pairs_power : Nat → Int32} {pairs_freePairs : Nat → Int32} {o_lastFree : Nat → Int32} (cx : ct_Cx p s m args meth c b_Search_findLastFree 5 none R_Search wd_Search_findLastFree D (ct_tys cI cL cZ) tA tB A) : ∀ (n : Nat) (x2 : Int32) (lastFree : Nat → Int32) (k : ((Nat → Int32) → Option ((Nat → Int32)))), f_Search_findLastFree_L10 pairs_size pairs_freeSize pairs_second pairs_power pairs_freePairs n x2 lastFree k = some o_lastFree → (∀ (lastFree : Nat → Int32), k lastFree = some o_lastFree → ∀ (H : Heap) (locs : List Loc), va_P D vwCl [(a_this, .inr (2, [.ref a_table, .ref a_rest, .ref a_chosen, .ref a_lastFree, .ref a_steps])), (a_lastFree, .inl (cI, 6, .inl lastFree)), (a_pairs, .inr (1, [.ref a_pairs_second, .ref a_pairs_cell, .ref a_pairs_power, .ref a_pairs_share, .ref a_pairs_hanging, .ref a_pairs_freePairs, .ref a_pairs_rest, .int pairs_size, .int pairs_freeSize])), (a_pairs_second, .inl (cI, 21, .inl pairs_second)), (a_pairs_power, .inl (cI, 21, .inl pairs_power)), (a_pairs_freePairs, .inl (cI, 21, .inl pairs_freePairs))] H → va_D A [(a_this, .inr (2, [.ref a_table, .ref a_rest, .ref a_chosen, .ref a_lastFree, .ref a_steps])), (a_lastFree, .inl (cI, 6, .inl lastFree)), (a_pairs, .inr (1, [.ref a_pairs_second, .ref a_pairs_cell, .ref a_pairs_power, .ref a_pairs_share, .ref a_pairs_hanging, .ref a_pairs_freePairs, .ref a_pairs_rest, .int pairs_size, .int pairs_freeSize])), (a_pairs_second, .inl (cI, 21, .inl pairs_second)), (a_pairs_power, .inl (cI, 21, .inl pairs_power)), (a_pairs_freePairs, .inl (cI, 21, .inl pairs_freePairs))] → va_S A s.heap H locs → ∀ ls : Array Slot, lv_has ls 5 [] → W p l e (headSpec wd_Search_findLastFree rm_Search_findLastFree).room s m args below meth c H locs 0 0 Q (F0 m 77 ls [])) → ∀ (H : Heap) (locs : List Loc), va_P D vwCl [(a_this, .inr (2, [.ref a_table, .ref a_rest, .ref a_chosen, .ref a_lastFree, .ref a_steps])), (a_lastFree, .inl (cI, 6, .inl lastFree)), (a_pairs, .inr (1, [.ref a_pairs_second, .ref a_pairs_cell, .ref a_pairs_power, .ref a_pairs_share, .ref a_pairs_hanging, .ref a_pairs_freePairs, .ref a_pairs_rest, .int pairs_size, .int pairs_freeSize])), (a_pairs_second, .inl (cI, 21, .inl pairs_second)), (a_pairs_power, .inl (cI, 21, .inl pairs_power)), (a_pairs_freePairs, .inl (cI, 21, .inl pairs_freePairs))] H → va_D A [(a_this, .inr (2, [.ref a_table, .ref a_rest, .ref a_chosen, .ref a_lastFree, .ref a_steps])), (a_lastFree, .inl (cI, 6, .inl lastFree)), (a_pairs, .inr (1, [.ref a_pairs_second, .ref a_pairs_cell, .ref a_pairs_power, .ref a_pairs_share, .ref a_pairs_hanging, .ref a_pairs_freePairs, .ref a_pairs_rest, .int pairs_size, .int pairs_freeSize])), (a_pairs_second, .inl (cI, 21, .inl pairs_second)), (a_pairs_power, .inl (cI, 21, .inl pairs_power)), (a_pairs_freePairs, .inl (cI, 21, .inl pairs_freePairs))] → va_S A s.heap H locs → ∀ ls : Array Slot, lv_has ls 5 [(2, .int x2), (0, .ref a_this), (1, .ref a_pairs)] → W p l e (headSpec wd_Search_findLastFree rm_Search_findLastFree).room s m args below meth c H locs 0 0 Q (F0 m 10 ls []) := by
  obtain ⟨hx, hb, hr, hml, hown, hts, hK, hA, hT, hlocks, hZA, hZB, hTA, hTB, hnw⟩ := id cx
  intro n
  induction n with
  | zero => intro x2 lastFree k h; rw [f_Search_findLastFree_L10] at h; cases h
  | succ n ih =>
    intro x2 lastFree k h hk H locs hP hD hS ls hl
    rw [f_Search_findLastFree_L10] at h
    refine lv_iload_n hx hb d_Search_findLastFree_10 rfl (lv_at hl 0 rfl) ?_
    refine lv_aload_n hx hb d_Search_findLastFree_11 rfl (lv_at hl 2 rfl) ?_
    refine va_getN (D := D) (ci := 1) (v := .int pairs_freeSize) (C := R_Pairs) (T := T_Pairs) (N := 9) hx hb hts (fun w h9 => ct_in (iw_Pairs w h9)) hown hK hP 2 rfl rfl 8 (by decide) (ct_nest_use n_9 hnw) (fun _ h9 => h9) rfl d_Search_findLastFree_12 ?_
    refine lv_icmp_ge (tgt := 77) hx hb d_Search_findLastFree_15 (by decide) (fun hc => ?_) (fun hc => ?_)
    · rw [if_pos hc] at h
      exact hk _ h _ _ hP hD hS ls (lv_sub hl [] rfl)
    · rw [if_neg hc] at h
      refine lv_aload_n hx hb d_Search_findLastFree_18 rfl (lv_at hl 2 rfl) ?_
      refine va_getN (D := D) (ci := 1) (v := .ref a_pairs_power) (C := R_Pairs) (T := T_Pairs) (N := 9) hx hb hts (fun w h9 => ct_in (iw_Pairs w h9)) hown hK hP 2 rfl rfl 2 (by decide) (ct_nest_use n_10 hnw) (fun _ h9 => h9) rfl d_Search_findLastFree_19 ?_
      refine lv_aload_n hx hb d_Search_findLastFree_22 rfl (lv_at hl 2 rfl) ?_
      refine va_getN (D := D) (ci := 1) (v := .ref a_pairs_freePairs) (C := R_Pairs) (T := T_Pairs) (N := 9) hx hb hts (fun w h9 => ct_in (iw_Pairs w h9)) hown hK hP 2 rfl rfl 5 (by decide) (ct_nest_use n_11 hnw) (fun _ h9 => h9) rfl d_Search_findLastFree_23 ?_
      refine lv_iload_n hx hb d_Search_findLastFree_26 rfl (lv_at hl 0 rfl) ?_
      obtain ⟨hin, h⟩ := ct_chk h
      refine va_iald hx hb hK hP 5 0 rfl rfl hin d_Search_findLastFree_27 ?_
      obtain ⟨hin, h⟩ := ct_chk h
      refine va_iald hx hb hK hP 4 0 rfl rfl hin d_Search_findLastFree_28 ?_
      refine lv_istore_n (lv' := [(3, .int (pairs_power (pairs_freePairs x2.toNatClampNeg).toNatClampNeg)), (2, .int x2), (0, .ref a_this), (1, .ref a_pairs)]) hx hb d_Search_findLastFree_29 rfl hl (by decide) rfl (fun ls hl => ?_)
      refine lv_iconst (v := 0) hx hb d_Search_findLastFree_30 (by decide) ?_
      refine lv_istore (lv' := [(4, .int 0), (3, .int (pairs_power (pairs_freePairs x2.toNatClampNeg).toNatClampNeg)), (2, .int x2), (0, .ref a_this), (1, .ref a_pairs)]) hx hb d_Search_findLastFree_31 hl (by decide) rfl (fun ls hl => ?_)
      refine w_Search_findLastFree_L33 cx _ _ _ _ h (fun lastFree_22 h H locs hP hD hS ls hl => ?_) _ _ hP hD hS ls (lv_sub hl [0, 1, 2, 3, 4] rfl)
      try dsimp only at h
      refine lv_iinc (v := (x2 + 1)) (lv' := [(2, .int (x2 + 1)), (0, .ref a_this), (1, .ref a_pairs)]) hx hb d_Search_findLastFree_71 hl (k := 0) rfl rfl (by decide) rfl (fun ls hl => ?_)
      refine lv_goto (tgt := 10) hx hb d_Search_findLastFree_74 (by decide) ?_
      exact ih _ _ k h hk _ _ hP hD hS ls (lv_sub hl [0, 1, 2] rfl)
set_option maxHeartbeats 4000000 in
set_option maxRecDepth 100000 in
theorem w_Search_findLastFree {p : Program} {l : Launch} {e : Env} {s : State} {m : MethodId} {args : Array Value} {below : List Frame} {meth : Method} {c : Code} {D : va_G} {cI cL cZ : ClassId} {tA tB : Nat} {A : Nat → Prop} {a_this a_table a_rest a_chosen a_lastFree a_steps a_pairs a_pairs_second a_pairs_cell a_pairs_power a_pairs_share a_pairs_hanging a_pairs_freePairs a_pairs_rest : Nat} {lastFree : Nat → Int32} {pairs_size : Int32} {pairs_freeSize : Int32} {pairs_second : Nat → Int32} {pairs_power : Nat → Int32} {pairs_freePairs : Nat → Int32} {o_lastFree : Nat → Int32} (cx : ct_Cx p s m args meth c b_Search_findLastFree 5 none R_Search wd_Search_findLastFree D (ct_tys cI cL cZ) tA tB A) (h : f_Search_findLastFree lastFree pairs_size pairs_freeSize pairs_second pairs_power pairs_freePairs = some o_lastFree) : ∀ (H : Heap) (locs : List Loc), va_P D vwCl [(a_this, .inr (2, [.ref a_table, .ref a_rest, .ref a_chosen, .ref a_lastFree, .ref a_steps])), (a_lastFree, .inl (cI, 6, .inl lastFree)), (a_pairs, .inr (1, [.ref a_pairs_second, .ref a_pairs_cell, .ref a_pairs_power, .ref a_pairs_share, .ref a_pairs_hanging, .ref a_pairs_freePairs, .ref a_pairs_rest, .int pairs_size, .int pairs_freeSize])), (a_pairs_second, .inl (cI, 21, .inl pairs_second)), (a_pairs_power, .inl (cI, 21, .inl pairs_power)), (a_pairs_freePairs, .inl (cI, 21, .inl pairs_freePairs))] H → va_D A [(a_this, .inr (2, [.ref a_table, .ref a_rest, .ref a_chosen, .ref a_lastFree, .ref a_steps])), (a_lastFree, .inl (cI, 6, .inl lastFree)), (a_pairs, .inr (1, [.ref a_pairs_second, .ref a_pairs_cell, .ref a_pairs_power, .ref a_pairs_share, .ref a_pairs_hanging, .ref a_pairs_freePairs, .ref a_pairs_rest, .int pairs_size, .int pairs_freeSize])), (a_pairs_second, .inl (cI, 21, .inl pairs_second)), (a_pairs_power, .inl (cI, 21, .inl pairs_power)), (a_pairs_freePairs, .inl (cI, 21, .inl pairs_freePairs))] → va_S A s.heap H locs → ∀ ls : Array Slot, lv_has ls 5 [(0, .ref a_this), (1, .ref a_pairs)] → W p l e (headSpec wd_Search_findLastFree rm_Search_findLastFree).room s m args below meth c H locs 0 0 (MQ below (ct_Qv D [(a_this, .inr (2, [.ref a_table, .ref a_rest, .ref a_chosen, .ref a_lastFree, .ref a_steps])), (a_lastFree, .inl (cI, 6, .inl o_lastFree)), (a_pairs, .inr (1, [.ref a_pairs_second, .ref a_pairs_cell, .ref a_pairs_power, .ref a_pairs_share, .ref a_pairs_hanging, .ref a_pairs_freePairs, .ref a_pairs_rest, .int pairs_size, .int pairs_freeSize])), (a_pairs_second, .inl (cI, 21, .inl pairs_second)), (a_pairs_power, .inl (cI, 21, .inl pairs_power)), (a_pairs_freePairs, .inl (cI, 21, .inl pairs_freePairs))] A) args s 0 0 A) (F0 m 0 ls []) := by
  obtain ⟨hx, hb, hr, hml, hown, hts, hK, hA, hT, hlocks, hZA, hZB, hTA, hTB, hnw⟩ := id cx
  intro H locs hP hD hS ls hl
  rw [f_Search_findLastFree] at h
  refine lv_aload_n hx hb d_Search_findLastFree_0 rfl (lv_at hl 0 rfl) ?_
  refine va_get (D := D) (ci := 2) (v := .ref a_lastFree) (C := R_Search) (T := T_Search) (N := 5) hx hb hts (fun w h9 => ct_in (iw_Search w h9)) hown hK hP 0 rfl rfl 3 (by decide) (hts _ (ct_in k_79)) (fun _ h9 => h9) rfl d_Search_findLastFree_1 ?_
  refine lv_iconst (v := (-1)) hx hb d_Search_findLastFree_4 (by decide) ?_
  obtain ⟨arr_1, ho, h⟩ := Option.bind_eq_some_iff.mp h
  refine ct_callv (wc := [(a_lastFree, .inl (cI, 6, .inl lastFree))]) (wr := [(a_this, .inr (2, [.ref a_table, .ref a_rest, .ref a_chosen, .ref a_lastFree, .ref a_steps])), (a_pairs, .inr (1, [.ref a_pairs_second, .ref a_pairs_cell, .ref a_pairs_power, .ref a_pairs_share, .ref a_pairs_hanging, .ref a_pairs_freePairs, .ref a_pairs_rest, .int pairs_size, .int pairs_freeSize])), (a_pairs_second, .inl (cI, 21, .inl pairs_second)), (a_pairs_power, .inl (cI, 21, .inl pairs_power)), (a_pairs_freePairs, .inl (cI, 21, .inl pairs_freePairs))]) (wc' := [(a_lastFree, .inl (cI, 6, .inl arr_1))]) (ws' := [(a_this, .inr (2, [.ref a_table, .ref a_rest, .ref a_chosen, .ref a_lastFree, .ref a_steps])), (a_lastFree, .inl (cI, 6, .inl arr_1)), (a_pairs, .inr (1, [.ref a_pairs_second, .ref a_pairs_cell, .ref a_pairs_power, .ref a_pairs_share, .ref a_pairs_hanging, .ref a_pairs_freePairs, .ref a_pairs_rest, .int pairs_size, .int pairs_freeSize])), (a_pairs_second, .inl (cI, 21, .inl pairs_second)), (a_pairs_power, .inl (cI, 21, .inl pairs_power)), (a_pairs_freePairs, .inl (cI, 21, .inl pairs_freePairs))]) (va_runS (As := [.ref a_lastFree, .int (-1)]) (rest := []) ⟨hx, hb, hml, hown, hts⟩ (c_Ar_fill_6 l D cI cL cZ tA tB H.size a_lastFree ((-1) : Int32) lastFree arr_1 _ rfl ho) (va_cwS 2 hts (ct_goodS k_72 k_40 k_39 k_38) rfl rfl rfl (by decide +kernel) ⟨Nat.le_of_ble_eq_true rfl, Nat.le_of_ble_eq_true rfl⟩) (ct_preS (wc := [(a_lastFree, .inl (cI, 6, .inl lastFree))]) hP hD hK hS hA hT [1] rfl (by decide)) rfl rfl hl.1 rfl (lv_room (Nat.le_of_ble_eq_true rfl)) d_Search_findLastFree_5 ⟨Nat.zero_le _, Nat.zero_le _⟩) hP hD hS hA [1] [0, 2, 3, 4, 5] rfl rfl (by decide) (by decide) [0, 5, 1, 2, 3, 4] rfl (by decide) (fun H locs hP hD hS => ?_)
  refine lv_iconst (v := 0) hx hb d_Search_findLastFree_8 (by decide) ?_
  refine lv_istore_n (lv' := [(2, .int 0), (0, .ref a_this), (1, .ref a_pairs)]) hx hb d_Search_findLastFree_9 rfl hl (by decide) rfl (fun ls hl => ?_)
  refine w_Search_findLastFree_L10 cx _ _ _ _ h (fun lastFree_23 h H locs hP hD hS ls hl => ?_) _ _ hP hD hS ls (lv_sub hl [0, 1, 2] rfl)
  try dsimp only at h
  cases h
  exact W.vret hx hb hr (fun t ht hW => ⟨⟨(), rfl, trivial, by rw [ht]; exact hP, hD⟩, hS.F ht⟩) hS.2.2 d_Search_findLastFree_77
set_option maxHeartbeats 4000000 in
set_option maxRecDepth 100000 in
theorem c_Search_findLastFree (l : Launch) (D : va_G) (cI cL cZ : ClassId) (tA tB sz : Nat) (a_this a_table a_rest a_chosen a_lastFree a_steps a_pairs a_pairs_second a_pairs_cell a_pairs_power a_pairs_share a_pairs_hanging a_pairs_freePairs a_pairs_rest : Nat) (lastFree : Nat → Int32) (pairs_size : Int32) (pairs_freeSize : Int32) (pairs_second : Nat → Int32) (pairs_power : Nat → Int32) (pairs_freePairs : Nat → Int32) (o_lastFree : Nat → Int32) (A : Nat → Prop) (hAe : A = va_A [(a_this, .inr (2, [.ref a_table, .ref a_rest, .ref a_chosen, .ref a_lastFree, .ref a_steps])), (a_lastFree, .inl (cI, 6, .inl lastFree)), (a_pairs, .inr (1, [.ref a_pairs_second, .ref a_pairs_cell, .ref a_pairs_power, .ref a_pairs_share, .ref a_pairs_hanging, .ref a_pairs_freePairs, .ref a_pairs_rest, .int pairs_size, .int pairs_freeSize])), (a_pairs_second, .inl (cI, 21, .inl pairs_second)), (a_pairs_power, .inl (cI, 21, .inl pairs_power)), (a_pairs_freePairs, .inl (cI, 21, .inl pairs_freePairs))] sz) (h : f_Search_findLastFree lastFree pairs_size pairs_freeSize pairs_second pairs_power pairs_freePairs = some o_lastFree) : Met l y_Search_findLastFree wd_Search_findLastFree rm_Search_findLastFree (ct_Pre D (ct_tys cI cL cZ) tA tB [(a_this, .inr (2, [.ref a_table, .ref a_rest, .ref a_chosen, .ref a_lastFree, .ref a_steps])), (a_lastFree, .inl (cI, 6, .inl lastFree)), (a_pairs, .inr (1, [.ref a_pairs_second, .ref a_pairs_cell, .ref a_pairs_power, .ref a_pairs_share, .ref a_pairs_hanging, .ref a_pairs_freePairs, .ref a_pairs_rest, .int pairs_size, .int pairs_freeSize])), (a_pairs_second, .inl (cI, 21, .inl pairs_second)), (a_pairs_power, .inl (cI, 21, .inl pairs_power)), (a_pairs_freePairs, .inl (cI, 21, .inl pairs_freePairs))] sz [.ref a_this, .ref a_pairs]) (ct_Qv D [(a_this, .inr (2, [.ref a_table, .ref a_rest, .ref a_chosen, .ref a_lastFree, .ref a_steps])), (a_lastFree, .inl (cI, 6, .inl o_lastFree)), (a_pairs, .inr (1, [.ref a_pairs_second, .ref a_pairs_cell, .ref a_pairs_power, .ref a_pairs_share, .ref a_pairs_hanging, .ref a_pairs_freePairs, .ref a_pairs_rest, .int pairs_size, .int pairs_freeSize])), (a_pairs_second, .inl (cI, 21, .inl pairs_second)), (a_pairs_power, .inl (cI, 21, .inl pairs_power)), (a_pairs_freePairs, .inl (cI, 21, .inl pairs_freePairs))] A) 0 0 A := by
  refine Met.ofW (cc := b_Search_findLastFree) (maxL := 5) (ret := none) (by decide) rfl ?_
  intro p e s m args below meth c s₁ B hml hv
  obtain ⟨hargs, hsz, hP, hK, hD0, hT⟩ := hv
  subst hsz
  have hD := hD0.self (sz := s.heap.size)
  rw [← hAe] at hD hT
  have hA : ∀ q : Nat, s.heap.size ≤ q → A q := fun q h => by rw [hAe]; exact Or.inr h
  clear hAe
  have cx : ct_Cx p s m args meth c b_Search_findLastFree 5 none R_Search wd_Search_findLastFree D (ct_tys cI cL cZ) tA tB A := ⟨B.exec, B.bytes, B.returns, hml, findClass_of_methodNamed B.named, atoms_spec (ws := wd_Search_findLastFree) B.pre, hK, hA, hT, B.notSynchronized, hT.1, hT.2.1, hT.2.2.1, hT.2.2.2.1, hT.2.2.2.2⟩
  have hl := lv_entry ([.ref a_this, .ref a_pairs]) (n := 5) (Nat.le_of_ble_eq_true rfl)
  rw [show entryFrame m args 5 = entryFrame m ([.ref a_this, .ref a_pairs] : List Value).toArray 5 by rw [hargs], lg_entry_eq]
  exact w_Search_findLastFree cx h _ _ hP hD va_S.rf _ hl
