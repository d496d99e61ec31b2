abbrev rm_Steps_takeOffSquare : Room := { frames := 0, cells := 0, slots := 0, locals := 0 }
abbrev wd_Steps_takeOffSquare : List Cond := .code y_Steps_takeOffSquare b_Steps_takeOffSquare 13 none :: ct_G
def f_Steps_takeOffSquare_L58 (x10 : Int64) (x9 : Int32) (x6 : Int64) (x5 : Int32) (x2 : Int32) (x3 : Int64) : Nat → Int32 → (Nat → Int64) → ((Nat → Int64) → Option ((Nat → Int64))) → Option ((Nat → Int64))
  | 0, _, _, _ => none
  | n + 1, x12, v_left, k => (if x2 ≤ x12 then (k v_left) else (if (x9 + x12) < 0 ∨ 36 ≤ (x9 + x12).toNatClampNeg then none else (if (x5 + x12) < 0 ∨ 36 ≤ (x5 + x12).toNatClampNeg then none else (if x3 = 0 then none else (if (x9 + x12) < 0 ∨ 36 ≤ (x9 + x12).toNatClampNeg then none else (f_Steps_takeOffSquare_L58 x10 x9 x6 x5 x2 x3 n (x12 + 1) (vp_updL v_left (x9 + x12).toNatClampNeg (((x6 * (v_left (x9 + x12).toNatClampNeg)) - (x10 * (v_left (x5 + x12).toNatClampNeg))) / x3)) k))))))
def f_Steps_takeOffSquare_L29 (x6 : Int64) (x5 : Int32) (x2 : Int32) (x3 : Int64) : Nat → Int32 → (Nat → Int64) → ((Nat → Int64) → Option ((Nat → Int64))) → Option ((Nat → Int64))
  | 0, _, _, _ => none
  | n + 1, x8, v_left, k => (if x2 ≤ x8 then (k v_left) else (if (x5 + x8) < 0 ∨ 36 ≤ (x5 + x8).toNatClampNeg then none else (f_Steps_takeOffSquare_L58 (v_left (x5 + x8).toNatClampNeg) (x8 * 6) x6 x5 x2 x3 40 x8 v_left (fun (v_left_3 : Nat → Int64) => (f_Steps_takeOffSquare_L29 x6 x5 x2 x3 n (x8 + 1) v_left_3 k)))))
def f_Steps_takeOffSquare (i : Int32) (mem : Int32) (before : Int64) (v_left : Nat → Int64) : Option ((Nat → Int64)) := (if 0 < (lg_cmp before 0) then (if ((i * 6) + i) < 0 ∨ 36 ≤ ((i * 6) + i).toNatClampNeg then none else (f_Steps_takeOffSquare_L29 (v_left ((i * 6) + i).toNatClampNeg) (i * 6) mem before 40 (i + 1) v_left (fun (v_left_4 : Nat → Int64) => some v_left_4))) else some v_left)
set_option maxHeartbeats 4000000 in
set_option maxRecDepth 100000 in
theorem w_Steps_takeOffSquare_L58 {p : Program} {l : Launch} {e : Env} {s : State} {m : MethodId} {args : Array Value} {below : List Frame} {meth : Method} {c : Code} {D : va_G} {cI cL cZ : ClassId} {tA tB : Nat} {A : Nat → Prop} {Q : State → Prop} {a_this a_left a_squareMember : Nat} {x10 : Int64} {x9 : Int32} {x8 : Int32} {x6 : Int64} {x5 : Int32} {x2 : Int32} {x3 : Int64} {v_size : Int32} {o_v_left : Nat → Int64} (cx : ct_Cx p s m args meth c b_Steps_takeOffSquare 13 none R_Steps wd_Steps_takeOffSquare D (ct_tys cI cL cZ) tA tB A) : ∀ (n : Nat) (x12 : Int32) (v_left : Nat → Int64) (k : ((Nat → Int64) → Option ((Nat → Int64)))), f_Steps_takeOffSquare_L58 x10 x9 x6 x5 x2 x3 n x12 v_left k = some o_v_left → (∀ (v_left : Nat → Int64), k v_left = some o_v_left → ∀ (H : Heap) (locs : List Loc), va_P D vwCl [(a_this, .inr (3, [.ref a_left, .ref a_squareMember, .int v_size])), (a_left, .inl (cL, 36, .inr (.inl v_left)))] H → va_D A [(a_this, .inr (3, [.ref a_left, .ref a_squareMember, .int v_size])), (a_left, .inl (cL, 36, .inr (.inl v_left)))] → va_S A s.heap H locs → ∀ ls : Array Slot, lv_has ls 13 [(8, .int x8), (6, .long x6), (5, .int x5), (0, .ref a_this), (2, .int x2), (3, .long x3)] → W p l e (headSpec wd_Steps_takeOffSquare rm_Steps_takeOffSquare).room s m args below meth c H locs 0 0 Q (F0 m 109 ls [])) → ∀ (H : Heap) (locs : List Loc), va_P D vwCl [(a_this, .inr (3, [.ref a_left, .ref a_squareMember, .int v_size])), (a_left, .inl (cL, 36, .inr (.inl v_left)))] H → va_D A [(a_this, .inr (3, [.ref a_left, .ref a_squareMember, .int v_size])), (a_left, .inl (cL, 36, .inr (.inl v_left)))] → va_S A s.heap H locs → ∀ ls : Array Slot, lv_has ls 13 [(12, .int x12), (10, .long x10), (9, .int x9), (8, .int x8), (6, .long x6), (5, .int x5), (0, .ref a_this), (2, .int x2), (3, .long x3)] → W p l e (headSpec wd_Steps_takeOffSquare rm_Steps_takeOffSquare).room s m args below meth c H locs 0 0 Q (F0 m 58 ls []) := by
  obtain ⟨hx, hb, hr, hml, hown, hts, hK, hA, hT, hlocks, hZA, hZB, hTA, hTB, hnw⟩ := id cx
  intro n
  induction n with
  | zero => intro x12 v_left k h; rw [f_Steps_takeOffSquare_L58] at h; cases h
  | succ n ih =>
    intro x12 v_left k h hk H locs hP hD hS ls hl
    rw [f_Steps_takeOffSquare_L58] at h
    refine lv_iload hx hb d_Steps_takeOffSquare_58 (lv_at hl 0 rfl) ?_
    refine lv_iload_n hx hb d_Steps_takeOffSquare_60 rfl (lv_at hl 7 rfl) ?_
    refine lv_icmp_ge (tgt := 109) hx hb d_Steps_takeOffSquare_61 (by decide) (fun hc => ?_) (fun hc => ?_)
    · rw [if_pos hc] at h
      exact hk _ h _ _ hP hD hS ls (lv_sub hl [3, 4, 5, 6, 7, 8] rfl)
    · rw [if_neg hc] at h
      refine lv_aload_n hx hb d_Steps_takeOffSquare_64 rfl (lv_at hl 6 rfl) ?_
      refine va_get (D := D) (ci := 3) (v := .ref a_left) (C := R_Steps) (T := T_Steps) (N := 3) hx hb hts (fun w h9 => ct_in (iw_Steps w h9)) hown hK hP 0 rfl rfl 0 (by decide) (hts _ (ct_in k_17)) (fun _ h9 => h9) rfl d_Steps_takeOffSquare_65 ?_
      refine lv_iload hx hb d_Steps_takeOffSquare_68 (lv_at hl 2 rfl) ?_
      refine lv_iload hx hb d_Steps_takeOffSquare_70 (lv_at hl 0 rfl) ?_
      refine lv_iadd hx hb d_Steps_takeOffSquare_72 ?_
      refine lv_lload hx hb d_Steps_takeOffSquare_73 (lv_at hl 4 rfl) ?_
      refine lv_aload_n hx hb d_Steps_takeOffSquare_75 rfl (lv_at hl 6 rfl) ?_
      refine va_get (D := D) (ci := 3) (v := .ref a_left) (C := R_Steps) (T := T_Steps) (N := 3) hx hb hts (fun w h9 => ct_in (iw_Steps w h9)) hown hK hP 0 rfl rfl 0 (by decide) (hts _ (ct_in k_17)) (fun _ h9 => h9) rfl d_Steps_takeOffSquare_76 ?_
      refine lv_iload hx hb d_Steps_takeOffSquare_79 (lv_at hl 2 rfl) ?_
      refine lv_iload hx hb d_Steps_takeOffSquare_81 (lv_at hl 0 rfl) ?_
      refine lv_iadd hx hb d_Steps_takeOffSquare_83 ?_
      obtain ⟨hin, h⟩ := ct_chk h
      refine va_lald hx hb hK hP 1 1 rfl rfl hin d_Steps_takeOffSquare_84 ?_
      refine lv_lmul hx hb d_Steps_takeOffSquare_85 ?_
      refine lv_lload hx hb d_Steps_takeOffSquare_86 (lv_at hl 1 rfl) ?_
      refine lv_aload_n hx hb d_Steps_takeOffSquare_88 rfl (lv_at hl 6 rfl) ?_
      refine va_get (D := D) (ci := 3) (v := .ref a_left) (C := R_Steps) (T := T_Steps) (N := 3) hx hb hts (fun w h9 => ct_in (iw_Steps w h9)) hown hK hP 0 rfl rfl 0 (by decide) (hts _ (ct_in k_17)) (fun _ h9 => h9) rfl d_Steps_takeOffSquare_89 ?_
      refine lv_iload hx hb d_Steps_takeOffSquare_92 (lv_at hl 5 rfl) ?_
      refine lv_iload hx hb d_Steps_takeOffSquare_94 (lv_at hl 0 rfl) ?_
      refine lv_iadd hx hb d_Steps_takeOffSquare_96 ?_
      obtain ⟨hin, h⟩ := ct_chk h
      refine va_lald hx hb hK hP 1 1 rfl rfl hin d_Steps_takeOffSquare_97 ?_
      refine lv_lmul hx hb d_Steps_takeOffSquare_98 ?_
      refine lv_lsub hx hb d_Steps_takeOffSquare_99 ?_
      refine lv_lload_n hx hb d_Steps_takeOffSquare_100 rfl (lv_at hl 8 rfl) ?_
      obtain ⟨hne, h⟩ := ct_chk h
      refine lv_ldiv hx hb d_Steps_takeOffSquare_101 hne ?_
      obtain ⟨hin, h⟩ := ct_chk h
      refine va_last hx hb hK hP hD hS 1 1 rfl rfl hin d_Steps_takeOffSquare_102 (fun H locs hP hD hS => ?_)
      have hP : va_P D vwCl [(a_this, .inr (3, [.ref a_left, .ref a_squareMember, .int v_size])), (a_left, .inl (cL, 36, .inr (.inl (vp_updL v_left (x9 + x12).toNatClampNeg (((x6 * (v_left (x9 + x12).toNatClampNeg)) - (x10 * (v_left (x5 + x12).toNatClampNeg))) / x3)))))] H := hP
      have hD : va_D A [(a_this, .inr (3, [.ref a_left, .ref a_squareMember, .int v_size])), (a_left, .inl (cL, 36, .inr (.inl (vp_updL v_left (x9 + x12).toNatClampNeg (((x6 * (v_left (x9 + x12).toNatClampNeg)) - (x10 * (v_left (x5 + x12).toNatClampNeg))) / x3)))))] := hD
      refine lv_iinc (v := (x12 + 1)) (lv' := [(12, .int (x12 + 1)), (10, .long x10), (9, .int x9), (8, .int x8), (6, .long x6), (5, .int x5), (0, .ref a_this), (2, .int x2), (3, .long x3)]) hx hb d_Steps_takeOffSquare_103 hl (k := 0) rfl rfl (by decide) rfl (fun ls hl => ?_)
      refine lv_goto (tgt := 58) hx hb d_Steps_takeOffSquare_106 (by decide) ?_
      exact ih _ _ k h hk _ _ hP hD hS ls (lv_sub hl [0, 1, 2, 3, 4, 5, 6, 7, 8] rfl)
set_option maxHeartbeats 4000000 in
set_option maxRecDepth 100000 in
theorem w_Steps_takeOffSquare_L29 {p : Program} {l : Launch} {e : Env} {s : State} {m : MethodId} {args : Array Value} {below : List Frame} {meth : Method} {c : Code} {D : va_G} {cI cL cZ : ClassId} {tA tB : Nat} {A : Nat → Prop} {Q : State → Prop} {a_this a_left a_squareMember : Nat} {x6 : Int64} {x5 : Int32} {x2 : Int32} {x3 : Int64} {v_size : Int32} {o_v_left : Nat → Int64} (cx : ct_Cx p s m args meth c b_Steps_takeOffSquare 13 none R_Steps wd_Steps_takeOffSquare D (ct_tys cI cL cZ) tA tB A) : ∀ (n : Nat) (x8 : Int32) (v_left : Nat → Int64) (k : ((Nat → Int64) → Option ((Nat → Int64)))), f_Steps_takeOffSquare_L29 x6 x5 x2 x3 n x8 v_left k = some o_v_left → (∀ (v_left : Nat → Int64), k v_left = some o_v_left → ∀ (H : Heap) (locs : List Loc), va_P D vwCl [(a_this, .inr (3, [.ref a_left, .ref a_squareMember, .int v_size])), (a_left, .inl (cL, 36, .inr (.inl v_left)))] H → va_D A [(a_this, .inr (3, [.ref a_left, .ref a_squareMember, .int v_size])), (a_left, .inl (cL, 36, .inr (.inl v_left)))] → va_S A s.heap H locs → ∀ ls : Array Slot, lv_has ls 13 [] → W p l e (headSpec wd_Steps_takeOffSquare rm_Steps_takeOffSquare).room s m args below meth c H locs 0 0 Q (F0 m 115 ls [])) → ∀ (H : Heap) (locs : List Loc), va_P D vwCl [(a_this, .inr (3, [.ref a_left, .ref a_squareMember, .int v_size])), (a_left, .inl (cL, 36, .inr (.inl v_left)))] H → va_D A [(a_this, .inr (3, [.ref a_left, .ref a_squareMember, .int v_size])), (a_left, .inl (cL, 36, .inr (.inl v_left)))] → va_S A s.heap H locs → ∀ ls : Array Slot, lv_has ls 13 [(8, .int x8), (6, .long x6), (5, .int x5), (0, .ref a_this), (2, .int x2), (3, .long x3)] → W p l e (headSpec wd_Steps_takeOffSquare rm_Steps_takeOffSquare).room s m args below meth c H locs 0 0 Q (F0 m 29 ls []) := by
  obtain ⟨hx, hb, hr, hml, hown, hts, hK, hA, hT, hlocks, hZA, hZB, hTA, hTB, hnw⟩ := id cx
  intro n
  induction n with
  | zero => intro x8 v_left k h; rw [f_Steps_takeOffSquare_L29] at h; cases h
  | succ n ih =>
    intro x8 v_left k h hk H locs hP hD hS ls hl
    rw [f_Steps_takeOffSquare_L29] at h
    refine lv_iload hx hb d_Steps_takeOffSquare_29 (lv_at hl 0 rfl) ?_
    refine lv_iload_n hx hb d_Steps_takeOffSquare_31 rfl (lv_at hl 4 rfl) ?_
    refine lv_icmp_ge (tgt := 115) hx hb d_Steps_takeOffSquare_32 (by decide) (fun hc => ?_) (fun hc => ?_)
    · rw [if_pos hc] at h
      exact hk _ h _ _ hP hD hS ls (lv_sub hl [] rfl)
    · rw [if_neg hc] at h
      refine lv_iload hx hb d_Steps_takeOffSquare_35 (lv_at hl 0 rfl) ?_
      refine lv_bipush (v := 6) hx hb d_Steps_takeOffSquare_37 (by decide) ?_
      refine lv_imul hx hb d_Steps_takeOffSquare_39 ?_
      refine lv_istore (lv' := [(9, .int (x8 * 6)), (8, .int x8), (6, .long x6), (5, .int x5), (0, .ref a_this), (2, .int x2), (3, .long x3)]) hx hb d_Steps_takeOffSquare_40 hl (by decide) rfl (fun ls hl => ?_)
      refine lv_aload_n hx hb d_Steps_takeOffSquare_42 rfl (lv_at hl 4 rfl) ?_
      refine va_get (D := D) (ci := 3) (v := .ref a_left) (C := R_Steps) (T := T_Steps) (N := 3) hx hb hts (fun w h9 => ct_in (iw_Steps w h9)) hown hK hP 0 rfl rfl 0 (by decide) (hts _ (ct_in k_17)) (fun _ h9 => h9) rfl d_Steps_takeOffSquare_43 ?_
      refine lv_iload hx hb d_Steps_takeOffSquare_46 (lv_at hl 3 rfl) ?_
      refine lv_iload hx hb d_Steps_takeOffSquare_48 (lv_at hl 1 rfl) ?_
      refine lv_iadd hx hb d_Steps_takeOffSquare_50 ?_
      obtain ⟨hin, h⟩ := ct_chk h
      refine va_lald hx hb hK hP 1 1 rfl rfl hin d_Steps_takeOffSquare_51 ?_
      refine lv_lstore (lv' := [(10, .long (v_left (x5 + x8).toNatClampNeg)), (9, .int (x8 * 6)), (8, .int x8), (6, .long x6), (5, .int x5), (0, .ref a_this), (2, .int x2), (3, .long x3)]) hx hb d_Steps_takeOffSquare_52 hl (by decide) rfl (fun ls hl => ?_)
      refine lv_iload hx hb d_Steps_takeOffSquare_54 (lv_at hl 2 rfl) ?_
      refine lv_istore (lv' := [(12, .int x8), (10, .long (v_left (x5 + x8).toNatClampNeg)), (9, .int (x8 * 6)), (8, .int x8), (6, .long x6), (5, .int x5), (0, .ref a_this), (2, .int x2), (3, .long x3)]) hx hb d_Steps_takeOffSquare_56 hl (by decide) rfl (fun ls hl => ?_)
      refine w_Steps_takeOffSquare_L58 cx _ _ _ _ h (fun v_left_3 h H locs hP hD hS ls hl => ?_) _ _ hP hD hS ls (lv_sub hl [0, 1, 2, 3, 4, 5, 6, 7, 8] rfl)
      try dsimp only at h
      refine lv_iinc (v := (x8 + 1)) (lv' := [(8, .int (x8 + 1)), (6, .long x6), (5, .int x5), (0, .ref a_this), (2, .int x2), (3, .long x3)]) hx hb d_Steps_takeOffSquare_109 hl (k := 0) rfl rfl (by decide) rfl (fun ls hl => ?_)
      refine lv_goto (tgt := 29) hx hb d_Steps_takeOffSquare_112 (by decide) ?_
      exact ih _ _ k h hk _ _ hP hD hS ls (lv_sub hl [0, 1, 2, 3, 4, 5] rfl)
set_option maxHeartbeats 4000000 in
set_option maxRecDepth 100000 in
theorem w_Steps_takeOffSquare {p : Program} {l : Launch} {e : Env} {s : State} {m : MethodId} {args : Array Value} {below : List Frame} {meth : Method} {c : Code} {D : va_G} {cI cL cZ : ClassId} {tA tB : Nat} {A : Nat → Prop} {a_this a_left a_squareMember : Nat} {i : Int32} {mem : Int32} {before : Int64} {v_size : Int32} {v_left : Nat → Int64} {o_v_left : Nat → Int64} (cx : ct_Cx p s m args meth c b_Steps_takeOffSquare 13 none R_Steps wd_Steps_takeOffSquare D (ct_tys cI cL cZ) tA tB A) (h : f_Steps_takeOffSquare i mem before v_left = some o_v_left) : ∀ (H : Heap) (locs : List Loc), va_P D vwCl [(a_this, .inr (3, [.ref a_left, .ref a_squareMember, .int v_size])), (a_left, .inl (cL, 36, .inr (.inl v_left)))] H → va_D A [(a_this, .inr (3, [.ref a_left, .ref a_squareMember, .int v_size])), (a_left, .inl (cL, 36, .inr (.inl v_left)))] → va_S A s.heap H locs → ∀ ls : Array Slot, lv_has ls 13 [(0, .ref a_this), (1, .int i), (2, .int mem), (3, .long before)] → W p l e (headSpec wd_Steps_takeOffSquare rm_Steps_takeOffSquare).room s m args below meth c H locs 0 0 (MQ below (ct_Qv D [(a_this, .inr (3, [.ref a_left, .ref a_squareMember, .int v_size])), (a_left, .inl (cL, 36, .inr (.inl o_v_left)))] A) args s 0 0 A) (F0 m 0 ls []) := by
  obtain ⟨hx, hb, hr, hml, hown, hts, hK, hA, hT, hlocks, hZA, hZB, hTA, hTB, hnw⟩ := id cx
  intro H locs hP hD hS ls hl
  rw [f_Steps_takeOffSquare] at h
  refine lv_lload_n hx hb d_Steps_takeOffSquare_0 rfl (lv_at hl 3 rfl) ?_
  refine lv_lconst (v := 0) hx hb d_Steps_takeOffSquare_1 (by decide) ?_
  refine W.lcmp hx hb d_Steps_takeOffSquare_2 ?_
  refine lv_if_gt (tgt := 7) hx hb d_Steps_takeOffSquare_3 (by decide) (fun hc => ?_) (fun hc => ?_)
  · rw [if_pos hc] at h
    refine lv_iload_n hx hb d_Steps_takeOffSquare_7 rfl (lv_at hl 1 rfl) ?_
    refine lv_bipush (v := 6) hx hb d_Steps_takeOffSquare_8 (by decide) ?_
    refine lv_imul hx hb d_Steps_takeOffSquare_10 ?_
    refine lv_istore (lv' := [(5, .int (i * 6)), (0, .ref a_this), (1, .int i), (2, .int mem), (3, .long before)]) hx hb d_Steps_takeOffSquare_11 hl (by decide) rfl (fun ls hl => ?_)
    refine lv_aload_n hx hb d_Steps_takeOffSquare_13 rfl (lv_at hl 1 rfl) ?_
    refine va_get (D := D) (ci := 3) (v := .ref a_left) (C := R_Steps) (T := T_Steps) (N := 3) hx hb hts (fun w h9 => ct_in (iw_Steps w h9)) hown hK hP 0 rfl rfl 0 (by decide) (hts _ (ct_in k_17)) (fun _ h9 => h9) rfl d_Steps_takeOffSquare_14 ?_
    refine lv_iload hx hb d_Steps_takeOffSquare_17 (lv_at hl 0 rfl) ?_
    refine lv_iload_n hx hb d_Steps_takeOffSquare_19 rfl (lv_at hl 2 rfl) ?_
    refine lv_iadd hx hb d_Steps_takeOffSquare_20 ?_
    obtain ⟨hin, h⟩ := ct_chk h
    refine va_lald hx hb hK hP 1 1 rfl rfl hin d_Steps_takeOffSquare_21 ?_
    refine lv_lstore (lv' := [(6, .long (v_left ((i * 6) + i).toNatClampNeg)), (5, .int (i * 6)), (0, .ref a_this), (1, .int i), (2, .int mem), (3, .long before)]) hx hb d_Steps_takeOffSquare_22 hl (by decide) rfl (fun ls hl => ?_)
    refine lv_iload_n hx hb d_Steps_takeOffSquare_24 rfl (lv_at hl 3 rfl) ?_
    refine lv_iconst (v := 1) hx hb d_Steps_takeOffSquare_25 (by decide) ?_
    refine lv_iadd hx hb d_Steps_takeOffSquare_26 ?_
    refine lv_istore (lv' := [(8, .int (i + 1)), (6, .long (v_left ((i * 6) + i).toNatClampNeg)), (5, .int (i * 6)), (0, .ref a_this), (1, .int i), (2, .int mem), (3, .long before)]) hx hb d_Steps_takeOffSquare_27 hl (by decide) rfl (fun ls hl => ?_)
    refine w_Steps_takeOffSquare_L29 cx _ _ _ _ h (fun v_left_4 h H locs hP hD hS ls hl => ?_) _ _ hP hD hS ls (lv_sub hl [0, 1, 2, 3, 5, 6] rfl)
    try dsimp only at h
    cases h
    exact W.vret hx hb hr (fun t ht hW => ⟨⟨(), rfl, trivial, by rw [ht]; exact hP, hD⟩, hS.F ht⟩) hS.2.2 d_Steps_takeOffSquare_115
  · rw [if_neg hc] at h
    cases h
    exact W.vret hx hb hr (fun t ht hW => ⟨⟨(), rfl, trivial, by rw [ht]; exact hP, hD⟩, hS.F ht⟩) hS.2.2 d_Steps_takeOffSquare_6
set_option maxHeartbeats 4000000 in
set_option maxRecDepth 100000 in
theorem c_Steps_takeOffSquare (l : Launch) (D : va_G) (cI cL cZ : ClassId) (tA tB sz : Nat) (a_this a_left a_squareMember : Nat) (i : Int32) (mem : Int32) (before : Int64) (v_size : Int32) (v_left : Nat → Int64) (o_v_left : Nat → Int64) (A : Nat → Prop) (hAe : A = va_A [(a_this, .inr (3, [.ref a_left, .ref a_squareMember, .int v_size])), (a_left, .inl (cL, 36, .inr (.inl v_left)))] sz) (h : f_Steps_takeOffSquare i mem before v_left = some o_v_left) : Met l y_Steps_takeOffSquare wd_Steps_takeOffSquare rm_Steps_takeOffSquare (ct_Pre D (ct_tys cI cL cZ) tA tB [(a_this, .inr (3, [.ref a_left, .ref a_squareMember, .int v_size])), (a_left, .inl (cL, 36, .inr (.inl v_left)))] sz [.ref a_this, .int i, .int mem, .long before]) (ct_Qv D [(a_this, .inr (3, [.ref a_left, .ref a_squareMember, .int v_size])), (a_left, .inl (cL, 36, .inr (.inl o_v_left)))] A) 0 0 A := by
  refine Met.ofW (cc := b_Steps_takeOffSquare) (maxL := 13) (ret := none) (by decide) rfl ?_
  intro p e s m args below meth c s₁ B hml hv
  obtain ⟨hargs, hsz, hP, hK, hD0, hT⟩ := hv
  subst hsz
  have hD := hD0.self (sz := s.heap.size)
  rw [← hAe] at hD hT
  have hA : ∀ q : Nat, s.heap.size ≤ q → A q := fun q h => by rw [hAe]; exact Or.inr h
  clear hAe
  have cx : ct_Cx p s m args meth c b_Steps_takeOffSquare 13 none R_Steps wd_Steps_takeOffSquare D (ct_tys cI cL cZ) tA tB A := ⟨B.exec, B.bytes, B.returns, hml, findClass_of_methodNamed B.named, atoms_spec (ws := wd_Steps_takeOffSquare) B.pre, hK, hA, hT, B.notSynchronized, hT.1, hT.2.1, hT.2.2.1, hT.2.2.2.1, hT.2.2.2.2⟩
  have hl := lv_entry ([.ref a_this, .int i, .int mem, .long before]) (n := 13) (Nat.le_of_ble_eq_true rfl)
  rw [show entryFrame m args 13 = entryFrame m ([.ref a_this, .int i, .int mem, .long before] : List Value).toArray 13 by rw [hargs], lg_entry_eq]
  exact w_Steps_takeOffSquare cx h _ _ hP hD va_S.rf _ hl
abbrev rm_Steps_firstNotZeroBehind : Room := { frames := 1, cells := 0, slots := 0, locals := 21 }
abbrev wd_Steps_firstNotZeroBehind : List Cond := .code y_Steps_firstNotZeroBehind b_Steps_firstNotZeroBehind 4 (some .int) :: ct_G
def f_Steps_firstNotZeroBehind_L4 (x1 : Int32) (x2 : Int32) (v_left : Nat → Int64) : Nat → Int32 → (Unit → Option (Int32)) → Option (Int32)
  | 0, _, _ => none
  | n + 1, x3, k => (if x2 ≤ x3 then k () else ((f_Sq_cellOf x1 x3).bind (fun r_3 => (if r_3 < 0 ∨ 36 ≤ r_3.toNatClampNeg then none else (if (lg_cmp (v_left r_3.toNatClampNeg) 0) = 0 then (f_Steps_firstNotZeroBehind_L4 x1 x2 v_left n (x3 + 1) k) else some x3)))))
def f_Steps_firstNotZeroBehind (i : Int32) (mem : Int32) (v_left : Nat → Int64) : Option (Int32) := (f_Steps_firstNotZeroBehind_L4 i mem v_left 40 (i + 1) (fun (_ : Unit) => some ((-1) : Int32)))
set_option maxHeartbeats 4000000 in
set_option maxRecDepth 100000 in
theorem w_Steps_firstNotZeroBehind_L4 {p : Program} {l : Launch} {e : Env} {s : State} {m : MethodId} {args : Array Value} {below : List Frame} {meth : Method} {c : Code} {D : va_G} {cI cL cZ : ClassId} {tA tB : Nat} {A : Nat → Prop} {a_this a_left a_squareMember : Nat} {x1 : Int32} {x2 : Int32} {v_size : Int32} {v_left : Nat → Int64} {o_r : Int32} (cx : ct_Cx p s m args meth c b_Steps_firstNotZeroBehind 4 (some .int) R_Steps wd_Steps_firstNotZeroBehind D (ct_tys cI cL cZ) tA tB A) : ∀ (n : Nat) (x3 : Int32) (k : (Unit → Option (Int32))), f_Steps_firstNotZeroBehind_L4 x1 x2 v_left n x3 k = some o_r → (∀ (u : Unit), k u = some o_r → ∀ (H : Heap) (locs : List Loc), va_P D vwCl [(a_this, .inr (3, [.ref a_left, .ref a_squareMember, .int v_size])), (a_left, .inl (cL, 36, .inr (.inl v_left)))] H → va_D A [(a_this, .inr (3, [.ref a_left, .ref a_squareMember, .int v_size])), (a_left, .inl (cL, 36, .inr (.inl v_left)))] → va_S A s.heap H locs → ∀ ls : Array Slot, lv_has ls 4 [] → W p l e (headSpec wd_Steps_firstNotZeroBehind rm_Steps_firstNotZeroBehind).room s m args below meth c H locs 0 0 (MQ below (ct_Qi D [(a_this, .inr (3, [.ref a_left, .ref a_squareMember, .int v_size])), (a_left, .inl (cL, 36, .inr (.inl v_left)))] A o_r) args s 0 0 A) (F0 m 32 ls [])) → ∀ (H : Heap) (locs : List Loc), va_P D vwCl [(a_this, .inr (3, [.ref a_left, .ref a_squareMember, .int v_size])), (a_left, .inl (cL, 36, .inr (.inl v_left)))] H → va_D A [(a_this, .inr (3, [.ref a_left, .ref a_squareMember, .int v_size])), (a_left, .inl (cL, 36, .inr (.inl v_left)))] → va_S A s.heap H locs → ∀ ls : Array Slot, lv_has ls 4 [(3, .int x3), (0, .ref a_this), (1, .int x1), (2, .int x2)] → W p l e (headSpec wd_Steps_firstNotZeroBehind rm_Steps_firstNotZeroBehind).room s m args below meth c H locs 0 0 (MQ below (ct_Qi D [(a_this, .inr (3, [.ref a_left, .ref a_squareMember, .int v_size])), (a_left, .inl (cL, 36, .inr (.inl v_left)))] A o_r) args s 0 0 A) (F0 m 4 ls []) := by
  obtain ⟨hx, hb, hr, hml, hown, hts, hK, hA, hT, hlocks, hZA, hZB, hTA, hTB, hnw⟩ := id cx
  intro n
  induction n with
  | zero => intro x3 k h; rw [f_Steps_firstNotZeroBehind_L4] at h; cases h
  | succ n ih =>
    intro x3 k h hk H locs hP hD hS ls hl
    rw [f_Steps_firstNotZeroBehind_L4] at h
    refine lv_iload_n hx hb d_Steps_firstNotZeroBehind_4 rfl (lv_at hl 0 rfl) ?_
    refine lv_iload_n hx hb d_Steps_firstNotZeroBehind_5 rfl (lv_at hl 3 rfl) ?_
    refine lv_icmp_ge (tgt := 32) hx hb d_Steps_firstNotZeroBehind_6 (by decide) (fun hc => ?_) (fun hc => ?_)
    · rw [if_pos hc] at h
      exact hk _ h _ _ hP hD hS ls (lv_sub hl [] rfl)
    · rw [if_neg hc] at h
      refine lv_aload_n hx hb d_Steps_firstNotZeroBehind_9 rfl (lv_at hl 1 rfl) ?_
      refine va_get (D := D) (ci := 3) (v := .ref a_left) (C := R_Steps) (T := T_Steps) (N := 3) hx hb hts (fun w h9 => ct_in (iw_Steps w h9)) hown hK hP 0 rfl rfl 0 (by decide) (hts _ (ct_in k_17)) (fun _ h9 => h9) rfl d_Steps_firstNotZeroBehind_10 ?_
      refine lv_iload_n hx hb d_Steps_firstNotZeroBehind_13 rfl (lv_at hl 2 rfl) ?_
      refine lv_iload_n hx hb d_Steps_firstNotZeroBehind_14 rfl (lv_at hl 0 rfl) ?_
      obtain ⟨r_3, ho, h⟩ := Option.bind_eq_some_iff.mp h
      refine ct_calli (wc := []) (wr := [(a_this, .inr (3, [.ref a_left, .ref a_squareMember, .int v_size])), (a_left, .inl (cL, 36, .inr (.inl v_left)))]) (wc' := []) (ws' := [(a_this, .inr (3, [.ref a_left, .ref a_squareMember, .int v_size])), (a_left, .inl (cL, 36, .inr (.inl v_left)))]) (va_runSN (As := [.int x1, .int x3]) (rest := [.ref a_left]) ⟨hx, hb, hml, hown, hts⟩ (c_Sq_cellOf l D cI cL cZ tA tB H.size x1 x3 r_3 _ rfl ho) ⟨va_cnB 2 hts (ct_good k_19) rfl rfl rfl (ct_nest_use n_2 hnw) (hts _ (ct_in k_20)) (by decide +kernel) ⟨Nat.le_of_ble_eq_true rfl, Nat.le_of_ble_eq_true rfl⟩, hts _ (ct_in k_21), trivial⟩ (ct_preS (wc := []) hP hD hK hS hA hT [] rfl (by decide)) rfl rfl hl.1 rfl (lv_room (Nat.le_of_ble_eq_true rfl)) d_Steps_firstNotZeroBehind_15 ⟨Nat.zero_le _, Nat.zero_le _⟩) hP hD hS hA [] [0, 1] rfl rfl (by decide) (by decide) [0, 1] rfl (by decide) (fun H locs hP hD hS => ?_)
      obtain ⟨hin, h⟩ := ct_chk h
      refine va_lald hx hb hK hP 1 1 rfl rfl hin d_Steps_firstNotZeroBehind_18 ?_
      refine lv_lconst (v := 0) hx hb d_Steps_firstNotZeroBehind_19 (by decide) ?_
      refine W.lcmp hx hb d_Steps_firstNotZeroBehind_20 ?_
      refine lv_if_eq (tgt := 26) hx hb d_Steps_firstNotZeroBehind_21 (by decide) (fun hc => ?_) (fun hc => ?_)
      · rw [if_pos hc] at h
        refine lv_iinc (v := (x3 + 1)) (lv' := [(3, .int (x3 + 1)), (0, .ref a_this), (1, .int x1), (2, .int x2)]) hx hb d_Steps_firstNotZeroBehind_26 hl (k := 0) rfl rfl (by decide) rfl (fun ls hl => ?_)
        refine lv_goto (tgt := 4) hx hb d_Steps_firstNotZeroBehind_29 (by decide) ?_
        exact ih _ k h hk _ _ hP hD hS ls (lv_sub hl [0, 1, 2, 3] rfl)
      · rw [if_neg hc] at h
        refine lv_iload_n hx hb d_Steps_firstNotZeroBehind_24 rfl (lv_at hl 0 rfl) ?_
        cases h
        exact W.iret hx hb hr (fun t ht hW => ⟨⟨_, (), rfl, rfl, by rw [ht]; exact hP, hD⟩, hS.F ht⟩) hS.2.2 d_Steps_firstNotZeroBehind_25
set_option maxHeartbeats 4000000 in
set_option maxRecDepth 100000 in
theorem w_Steps_firstNotZeroBehind {p : Program} {l : Launch} {e : Env} {s : State} {m : MethodId} {args : Array Value} {below : List Frame} {meth : Method} {c : Code} {D : va_G} {cI cL cZ : ClassId} {tA tB : Nat} {A : Nat → Prop} {a_this a_left a_squareMember : Nat} {i : Int32} {mem : Int32} {v_size : Int32} {v_left : Nat → Int64} {o_r : Int32} (cx : ct_Cx p s m args meth c b_Steps_firstNotZeroBehind 4 (some .int) R_Steps wd_Steps_firstNotZeroBehind D (ct_tys cI cL cZ) tA tB A) (h : f_Steps_firstNotZeroBehind i mem v_left = some o_r) : ∀ (H : Heap) (locs : List Loc), va_P D vwCl [(a_this, .inr (3, [.ref a_left, .ref a_squareMember, .int v_size])), (a_left, .inl (cL, 36, .inr (.inl v_left)))] H → va_D A [(a_this, .inr (3, [.ref a_left, .ref a_squareMember, .int v_size])), (a_left, .inl (cL, 36, .inr (.inl v_left)))] → va_S A s.heap H locs → ∀ ls : Array Slot, lv_has ls 4 [(0, .ref a_this), (1, .int i), (2, .int mem)] → W p l e (headSpec wd_Steps_firstNotZeroBehind rm_Steps_firstNotZeroBehind).room s m args below meth c H locs 0 0 (MQ below (ct_Qi D [(a_this, .inr (3, [.ref a_left, .ref a_squareMember, .int v_size])), (a_left, .inl (cL, 36, .inr (.inl v_left)))] A o_r) args s 0 0 A) (F0 m 0 ls []) := by
  obtain ⟨hx, hb, hr, hml, hown, hts, hK, hA, hT, hlocks, hZA, hZB, hTA, hTB, hnw⟩ := id cx
  intro H locs hP hD hS ls hl
  rw [f_Steps_firstNotZeroBehind] at h
  refine lv_iload_n hx hb d_Steps_firstNotZeroBehind_0 rfl (lv_at hl 1 rfl) ?_
  refine lv_iconst (v := 1) hx hb d_Steps_firstNotZeroBehind_1 (by decide) ?_
  refine lv_iadd hx hb d_Steps_firstNotZeroBehind_2 ?_
  refine lv_istore_n (lv' := [(3, .int (i + 1)), (0, .ref a_this), (1, .int i), (2, .int mem)]) hx hb d_Steps_firstNotZeroBehind_3 rfl hl (by decide) rfl (fun ls hl => ?_)
  refine w_Steps_firstNotZeroBehind_L4 cx _ _ _ h (fun _ h H locs hP hD hS ls hl => ?_) _ _ hP hD hS ls (lv_sub hl [0, 1, 2, 3] rfl)
  try dsimp only at h
  refine lv_iconst (v := (-1)) hx hb d_Steps_firstNotZeroBehind_32 (by decide) ?_
  cases h
  exact W.iret hx hb hr (fun t ht hW => ⟨⟨_, (), rfl, rfl, by rw [ht]; exact hP, hD⟩, hS.F ht⟩) hS.2.2 d_Steps_firstNotZeroBehind_33
set_option maxHeartbeats 4000000 in
set_option maxRecDepth 100000 in
theorem c_Steps_firstNotZeroBehind (l : Launch) (D : va_G) (cI cL cZ : ClassId) (tA tB sz : Nat) (a_this a_left a_squareMember : Nat) (i : Int32) (mem : Int32) (v_size : Int32) (v_left : Nat → Int64) (o_r : Int32) (A : Nat → Prop) (hAe : A = va_A [(a_this, .inr (3, [.ref a_left, .ref a_squareMember, .int v_size])), (a_left, .inl (cL, 36, .inr (.inl v_left)))] sz) (h : f_Steps_firstNotZeroBehind i mem v_left = some o_r) : Met l y_Steps_firstNotZeroBehind wd_Steps_firstNotZeroBehind rm_Steps_firstNotZeroBehind (ct_Pre D (ct_tys cI cL cZ) tA tB [(a_this, .inr (3, [.ref a_left, .ref a_squareMember, .int v_size])), (a_left, .inl (cL, 36, .inr (.inl v_left)))] sz [.ref a_this, .int i, .int mem]) (ct_Qi D [(a_this, .inr (3, [.ref a_left, .ref a_squareMember, .int v_size])), (a_left, .inl (cL, 36, .inr (.inl v_left)))] A o_r) 0 0 A := by
  refine Met.ofW (cc := b_Steps_firstNotZeroBehind) (maxL := 4) (ret := (some .int)) (by decide) rfl ?_
  intro p e s m args below meth c s₁ B hml hv
  obtain ⟨hargs, hsz, hP, hK, hD0, hT⟩ := hv
  subst hsz
  have hD := hD0.self (sz := s.heap.size)
  rw [← hAe] at hD hT
  have hA : ∀ q : Nat, s.heap.size ≤ q → A q := fun q h => by rw [hAe]; exact Or.inr h
  clear hAe
  have cx : ct_Cx p s m args meth c b_Steps_firstNotZeroBehind 4 (some .int) R_Steps wd_Steps_firstNotZeroBehind D (ct_tys cI cL cZ) tA tB A := ⟨B.exec, B.bytes, B.returns, hml, findClass_of_methodNamed B.named, atoms_spec (ws := wd_Steps_firstNotZeroBehind) B.pre, hK, hA, hT, B.notSynchronized, hT.1, hT.2.1, hT.2.2.1, hT.2.2.2.1, hT.2.2.2.2⟩
  have hl := lv_entry ([.ref a_this, .int i, .int mem]) (n := 4) (Nat.le_of_ble_eq_true rfl)
  rw [show entryFrame m args 4 = entryFrame m ([.ref a_this, .int i, .int mem] : List Value).toArray 4 by rw [hargs], lg_entry_eq]
  exact w_Steps_firstNotZeroBehind cx h _ _ hP hD va_S.rf _ hl
abbrev rm_Steps_failingMember : Room := { frames := 2, cells := 0, slots := 0, locals := 44 }
abbrev wd_Steps_failingMember : List Cond := .code y_Steps_failingMember b_Steps_failingMember 9 (some .int) :: ct_G
def f_Steps_failingMember_L2 (v_tbl : Nat → Int32) : Nat → Int32 → (Nat → Int64) → ((Nat → Int64) → Option (Int32 × Int32 × (Nat → Int64) × (Nat → Int32))) → Option (Int32 × Int32 × (Nat → Int64) × (Nat → Int32))
  | 0, _, _, _ => none
  | n + 1, x3, v_left, k => (if 36 ≤ x3 then (k v_left) else (if x3 < 0 ∨ 36 ≤ x3.toNatClampNeg then none else (if x3 < 0 ∨ 36 ≤ x3.toNatClampNeg then none else (f_Steps_failingMember_L2 v_tbl n (x3 + 1) (vp_updL v_left x3.toNatClampNeg ((v_tbl x3.toNatClampNeg).toInt64)) k))))
def f_Steps_failingMember_L34 (x2 : Int32) : Nat → Int32 → Int64 → Int32 → (Nat → Int64) → (Nat → Int32) → (Int32 → (Nat → Int64) → (Nat → Int32) → Option (Int32 × Int32 × (Nat → Int64) × (Nat → Int32))) → Option (Int32 × Int32 × (Nat → Int64) × (Nat → Int32))
  | 0, _, _, _, _, _, _ => none
  | n + 1, x5, x3, v_size, v_left, v_squareMember, k => (if x2 ≤ x5 then (k v_size v_left v_squareMember) else ((f_Sq_cellOf x5 x5).bind (fun r_8 => (if r_8 < 0 ∨ 36 ≤ r_8.toNatClampNeg then none else (if 0 ≤ (lg_cmp (v_left r_8.toNatClampNeg) 0) then (if (lg_cmp (v_left r_8.toNatClampNeg) 0) = 0 then ((f_Steps_firstNotZeroBehind x5 x2 v_left).bind (fun r_10 => (if r_10 = (-1) then (f_Steps_failingMember_L34 x2 n (x5 + 1) x3 v_size v_left v_squareMember k) else some (r_10, v_size, v_left, v_squareMember)))) else ((f_Steps_takeOffSquare x5 x2 x3 v_left).bind (fun v_left_9 => (if v_size < 0 ∨ 6 ≤ v_size.toNatClampNeg then none else (f_Steps_failingMember_L34 x2 n (x5 + 1) (v_left r_8.toNatClampNeg) (v_size + 1) v_left_9 (upd v_squareMember v_size.toNatClampNeg x5) k))))) else some (x5, v_size, v_left, v_squareMember))))))
def f_Steps_failingMember (mem : Int32) (v_left : Nat → Int64) (v_squareMember : Nat → Int32) (v_tbl : Nat → Int32) : Option (Int32 × Int32 × (Nat → Int64) × (Nat → Int32)) := (f_Steps_failingMember_L2 v_tbl 40 0 v_left (fun (v_left_1 : Nat → Int64) => (f_Steps_failingMember_L34 mem 40 0 1 0 v_left_1 v_squareMember (fun (v_size_11 : Int32) (v_left_12 : Nat → Int64) (v_squareMember_13 : Nat → Int32) => some (((-1) : Int32), v_size_11, v_left_12, v_squareMember_13)))))
set_option maxHeartbeats 4000000 in
set_option maxRecDepth 100000 in
theorem w_Steps_failingMember_L2 {p : Program} {l : Launch} {e : Env} {s : State} {m : MethodId} {args : Array Value} {below : List Frame} {meth : Method} {c : Code} {D : va_G} {cI cL cZ : ClassId} {tA tB : Nat} {A : Nat → Prop} {Q : State → Prop} {a_this a_left a_squareMember a_tbl : Nat} {x2 : Int32} {v_size : Int32} {v_squareMember : Nat → Int32} {v_tbl : Nat → Int32} {o_r : Int32} {o_v_size : Int32} {o_v_left : Nat → Int64} {o_v_squareMember : Nat → Int32} (cx : ct_Cx p s m args meth c b_Steps_failingMember 9 (some .int) R_Steps wd_Steps_failingMember D (ct_tys cI cL cZ) tA tB A) : ∀ (n : Nat) (x3 : Int32) (v_left : Nat → Int64) (k : ((Nat → Int64) → Option (Int32 × Int32 × (Nat → Int64) × (Nat → Int32)))), f_Steps_failingMember_L2 v_tbl n x3 v_left k = some (o_r, o_v_size, o_v_left, o_v_squareMember) → (∀ (v_left : Nat → Int64), k v_left = some (o_r, o_v_size, o_v_left, o_v_squareMember) → ∀ (H : Heap) (locs : List Loc), va_P D vwCl [(a_this, .inr (3, [.ref a_left, .ref a_squareMember, .int v_size])), (a_left, .inl (cL, 36, .inr (.inl v_left))), (a_squareMember, .inl (cI, 6, .inl v_squareMember)), (a_tbl, .inl (cI, 36, .inl v_tbl))] H → va_D A [(a_this, .inr (3, [.ref a_left, .ref a_squareMember, .int v_size])), (a_left, .inl (cL, 36, .inr (.inl v_left))), (a_squareMember, .inl (cI, 6, .inl v_squareMember)), (a_tbl, .inl (cI, 36, .inl v_tbl))] → va_S A s.heap H locs → ∀ ls : Array Slot, lv_has ls 9 [(0, .ref a_this), (2, .int x2)] → W p l e (headSpec wd_Steps_failingMember rm_Steps_failingMember).room s m args below meth c H locs 0 0 Q (F0 m 24 ls [])) → ∀ (H : Heap) (locs : List Loc), va_P D vwCl [(a_this, .inr (3, [.ref a_left, .ref a_squareMember, .int v_size])), (a_left, .inl (cL, 36, .inr (.inl v_left))), (a_squareMember, .inl (cI, 6, .inl v_squareMember)), (a_tbl, .inl (cI, 36, .inl v_tbl))] H → va_D A [(a_this, .inr (3, [.ref a_left, .ref a_squareMember, .int v_size])), (a_left, .inl (cL, 36, .inr (.inl v_left))), (a_squareMember, .inl (cI, 6, .inl v_squareMember)), (a_tbl, .inl (cI, 36, .inl v_tbl))] → va_S A s.heap H locs → ∀ ls : Array Slot, lv_has ls 9 [(3, .int x3), (0, .ref a_this), (1, .ref a_tbl), (2, .int x2)] → W p l e (headSpec wd_Steps_failingMember rm_Steps_failingMember).room s m args below meth c H locs 0 0 Q (F0 m 2 ls []) := by
  obtain ⟨hx, hb, hr, hml, hown, hts, hK, hA, hT, hlocks, hZA, hZB, hTA, hTB, hnw⟩ := id cx
  intro n
  induction n with
  | zero => intro x3 v_left k h; rw [f_Steps_failingMember_L2] at h; cases h
  | succ n ih =>
    intro x3 v_left k h hk H locs hP hD hS ls hl
    rw [f_Steps_failingMember_L2] at h
    refine lv_iload_n hx hb d_Steps_failingMember_2 rfl (lv_at hl 0 rfl) ?_
    refine lv_bipush (v := 36) hx hb d_Steps_failingMember_3 (by decide) ?_
    refine lv_icmp_ge (tgt := 24) hx hb d_Steps_failingMember_5 (by decide) (fun hc => ?_) (fun hc => ?_)
    · rw [if_pos hc] at h
      exact hk _ h _ _ hP hD hS ls (lv_sub hl [1, 3] rfl)
    · rw [if_neg hc] at h
      refine lv_aload_n hx hb d_Steps_failingMember_8 rfl (lv_at hl 1 rfl) ?_
      refine va_get (D := D) (ci := 3) (v := .ref a_left) (C := R_Steps) (T := T_Steps) (N := 3) hx hb hts (fun w h9 => ct_in (iw_Steps w h9)) hown hK hP 0 rfl rfl 0 (by decide) (hts _ (ct_in k_17)) (fun _ h9 => h9) rfl d_Steps_failingMember_9 ?_
      refine lv_iload_n hx hb d_Steps_failingMember_12 rfl (lv_at hl 0 rfl) ?_
      refine lv_aload_n hx hb d_Steps_failingMember_13 rfl (lv_at hl 2 rfl) ?_
      refine lv_iload_n hx hb d_Steps_failingMember_14 rfl (lv_at hl 0 rfl) ?_
      obtain ⟨hin, h⟩ := ct_chk h
      refine va_iald hx hb hK hP 3 0 rfl rfl hin d_Steps_failingMember_15 ?_
      refine lv_i2l (v := (v_tbl x3.toNatClampNeg).toInt64) hx hb d_Steps_failingMember_16 rfl ?_
      obtain ⟨hin, h⟩ := ct_chk h
      refine va_last hx hb hK hP hD hS 1 1 rfl rfl hin d_Steps_failingMember_17 (fun H locs hP hD hS => ?_)
      have hP : va_P D vwCl [(a_this, .inr (3, [.ref a_left, .ref a_squareMember, .int v_size])), (a_left, .inl (cL, 36, .inr (.inl (vp_updL v_left x3.toNatClampNeg ((v_tbl x3.toNatClampNeg).toInt64))))), (a_squareMember, .inl (cI, 6, .inl v_squareMember)), (a_tbl, .inl (cI, 36, .inl v_tbl))] H := hP
      have hD : va_D A [(a_this, .inr (3, [.ref a_left, .ref a_squareMember, .int v_size])), (a_left, .inl (cL, 36, .inr (.inl (vp_updL v_left x3.toNatClampNeg ((v_tbl x3.toNatClampNeg).toInt64))))), (a_squareMember, .inl (cI, 6, .inl v_squareMember)), (a_tbl, .inl (cI, 36, .inl v_tbl))] := hD
      refine lv_iinc (v := (x3 + 1)) (lv' := [(3, .int (x3 + 1)), (0, .ref a_this), (1, .ref a_tbl), (2, .int x2)]) hx hb d_Steps_failingMember_18 hl (k := 0) rfl rfl (by decide) rfl (fun ls hl => ?_)
      refine lv_goto (tgt := 2) hx hb d_Steps_failingMember_21 (by decide) ?_
      exact ih _ _ k h hk _ _ hP hD hS ls (lv_sub hl [0, 1, 2, 3] rfl)
set_option maxHeartbeats 4000000 in
set_option maxRecDepth 100000 in
theorem w_Steps_failingMember_L34 {p : Program} {l : Launch} {e : Env} {s : State} {m : MethodId} {args : Array Value} {below : List Frame} {meth : Method} {c : Code} {D : va_G} {cI cL cZ : ClassId} {tA tB : Nat} {A : Nat → Prop} {a_this a_left a_squareMember a_tbl : Nat} {x2 : Int32} {v_tbl : Nat → Int32} {o_r : Int32} {o_v_size : Int32} {o_v_left : Nat → Int64} {o_v_squareMember : Nat → Int32} (cx : ct_Cx p s m args meth c b_Steps_failingMember 9 (some .int) R_Steps wd_Steps_failingMember D (ct_tys cI cL cZ) tA tB A) : ∀ (n : Nat) (x5 : Int32) (x3 : Int64) (v_size : Int32) (v_left : Nat → Int64) (v_squareMember : Nat → Int32) (k : (Int32 → (Nat → Int64) → (Nat → Int32) → Option (Int32 × Int32 × (Nat → Int64) × (Nat → Int32)))), f_Steps_failingMember_L34 x2 n x5 x3 v_size v_left v_squareMember k = some (o_r, o_v_size, o_v_left, o_v_squareMember) → (∀ (v_size : Int32) (v_left : Nat → Int64) (v_squareMember : Nat → Int32), k v_size v_left v_squareMember = some (o_r, o_v_size, o_v_left, o_v_squareMember) → ∀ (H : Heap) (locs : List Loc), va_P D vwCl [(a_this, .inr (3, [.ref a_left, .ref a_squareMember, .int v_size])), (a_left, .inl (cL, 36, .inr (.inl v_left))), (a_squareMember, .inl (cI, 6, .inl v_squareMember)), (a_tbl, .inl (cI, 36, .inl v_tbl))] H → va_D A [(a_this, .inr (3, [.ref a_left, .ref a_squareMember, .int v_size])), (a_left, .inl (cL, 36, .inr (.inl v_left))), (a_squareMember, .inl (cI, 6, .inl v_squareMember)), (a_tbl, .inl (cI, 36, .inl v_tbl))] → va_S A s.heap H locs → ∀ ls : Array Slot, lv_has ls 9 [] → W p l e (headSpec wd_Steps_failingMember rm_Steps_failingMember).room s m args below meth c H locs 0 0 (MQ below (ct_Qi D [(a_this, .inr (3, [.ref a_left, .ref a_squareMember, .int o_v_size])), (a_left, .inl (cL, 36, .inr (.inl o_v_left))), (a_squareMember, .inl (cI, 6, .inl o_v_squareMember)), (a_tbl, .inl (cI, 36, .inl v_tbl))] A o_r) args s 0 0 A) (F0 m 130 ls [])) → ∀ (H : Heap) (locs : List Loc), va_P D vwCl [(a_this, .inr (3, [.ref a_left, .ref a_squareMember, .int v_size])), (a_left, .inl (cL, 36, .inr (.inl v_left))), (a_squareMember, .inl (cI, 6, .inl v_squareMember)), (a_tbl, .inl (cI, 36, .inl v_tbl))] H → va_D A [(a_this, .inr (3, [.ref a_left, .ref a_squareMember, .int v_size])), (a_left, .inl (cL, 36, .inr (.inl v_left))), (a_squareMember, .inl (cI, 6, .inl v_squareMember)), (a_tbl, .inl (cI, 36, .inl v_tbl))] → va_S A s.heap H locs → ∀ ls : Array Slot, lv_has ls 9 [(5, .int x5), (3, .long x3), (0, .ref a_this), (2, .int x2)] → W p l e (headSpec wd_Steps_failingMember rm_Steps_failingMember).room s m args below meth c H locs 0 0 (MQ below (ct_Qi D [(a_this, .inr (3, [.ref a_left, .ref a_squareMember, .int o_v_size])), (a_left, .inl (cL, 36, .inr (.inl o_v_left))), (a_squareMember, .inl (cI, 6, .inl o_v_squareMember)), (a_tbl, .inl (cI, 36, .inl v_tbl))] A o_r) args s 0 0 A) (F0 m 34 ls []) := by
  obtain ⟨hx, hb, hr, hml, hown, hts, hK, hA, hT, hlocks, hZA, hZB, hTA, hTB, hnw⟩ := id cx
  intro n
  induction n with
  | zero => intro x5 x3 v_size v_left v_squareMember k h; rw [f_Steps_failingMember_L34] at h; cases h
  | succ n ih =>
    intro x5 x3 v_size v_left v_squareMember k h hk H locs hP hD hS ls hl
    rw [f_Steps_failingMember_L34] at h
    refine lv_iload hx hb d_Steps_failingMember_34 (lv_at hl 0 rfl) ?_
    refine lv_iload_n hx hb d_Steps_failingMember_36 rfl (lv_at hl 3 rfl) ?_
    refine lv_icmp_ge (tgt := 130) hx hb d_Steps_failingMember_37 (by decide) (fun hc => ?_) (fun hc => ?_)
    · rw [if_pos hc] at h
      exact hk _ _ _ h _ _ hP hD hS ls (lv_sub hl [] rfl)
    · rw [if_neg hc] at h
      refine lv_aload_n hx hb d_Steps_failingMember_40 rfl (lv_at hl 2 rfl) ?_
      refine va_get (D := D) (ci := 3) (v := .ref a_left) (C := R_Steps) (T := T_Steps) (N := 3) hx hb hts (fun w h9 => ct_in (iw_Steps w h9)) hown hK hP 0 rfl rfl 0 (by decide) (hts _ (ct_in k_17)) (fun _ h9 => h9) rfl d_Steps_failingMember_41 ?_
      refine lv_iload hx hb d_Steps_failingMember_44 (lv_at hl 0 rfl) ?_
      refine lv_iload hx hb d_Steps_failingMember_46 (lv_at hl 0 rfl) ?_
      obtain ⟨r_8, ho, h⟩ := Option.bind_eq_some_iff.mp h
      refine ct_calli (wc := []) (wr := [(a_this, .inr (3, [.ref a_left, .ref a_squareMember, .int v_size])), (a_left, .inl (cL, 36, .inr (.inl v_left))), (a_squareMember, .inl (cI, 6, .inl v_squareMember)), (a_tbl, .inl (cI, 36, .inl v_tbl))]) (wc' := []) (ws' := [(a_this, .inr (3, [.ref a_left, .ref a_squareMember, .int v_size])), (a_left, .inl (cL, 36, .inr (.inl v_left))), (a_squareMember, .inl (cI, 6, .inl v_squareMember)), (a_tbl, .inl (cI, 36, .inl v_tbl))]) (va_runSN (As := [.int x5, .int x5]) (rest := [.ref a_left]) ⟨hx, hb, hml, hown, hts⟩ (c_Sq_cellOf l D cI cL cZ tA tB H.size x5 x5 r_8 _ rfl ho) ⟨va_cnB 2 hts (ct_good k_19) rfl rfl rfl (ct_nest_use n_2 hnw) (hts _ (ct_in k_20)) (by decide +kernel) ⟨Nat.le_of_ble_eq_true rfl, Nat.le_of_ble_eq_true rfl⟩, hts _ (ct_in k_21), trivial⟩ (ct_preS (wc := []) hP hD hK hS hA hT [] rfl (by decide)) rfl rfl hl.1 rfl (lv_room (Nat.le_of_ble_eq_true rfl)) d_Steps_failingMember_48 ⟨Nat.zero_le _, Nat.zero_le _⟩) hP hD hS hA [] [0, 1, 2, 3] rfl rfl (by decide) (by decide) [0, 1, 2, 3] rfl (by decide) (fun H locs hP hD hS => ?_)
      obtain ⟨hin, h⟩ := ct_chk h
      refine va_lald hx hb hK hP 1 1 rfl rfl hin d_Steps_failingMember_51 ?_
      refine lv_lstore (lv' := [(6, .long (v_left r_8.toNatClampNeg)), (5, .int x5), (3, .long x3), (0, .ref a_this), (2, .int x2)]) hx hb d_Steps_failingMember_52 hl (by decide) rfl (fun ls hl => ?_)
      refine lv_lload hx hb d_Steps_failingMember_54 (lv_at hl 0 rfl) ?_
      refine lv_lconst (v := 0) hx hb d_Steps_failingMember_56 (by decide) ?_
      refine W.lcmp hx hb d_Steps_failingMember_57 ?_
      refine lv_if_ge (tgt := 64) hx hb d_Steps_failingMember_58 (by decide) (fun hc => ?_) (fun hc => ?_)
      · rw [if_pos hc] at h
        refine lv_lload hx hb d_Steps_failingMember_64 (lv_at hl 0 rfl) ?_
        refine lv_lconst (v := 0) hx hb d_Steps_failingMember_66 (by decide) ?_
        refine W.lcmp hx hb d_Steps_failingMember_67 ?_
        refine lv_if_ne (tgt := 92) hx hb d_Steps_failingMember_68 (by decide) (fun hc => ?_) (fun hc => ?_)
        · rw [if_neg hc] at h
          refine lv_aload_n hx hb d_Steps_failingMember_92 rfl (lv_at hl 3 rfl) ?_
          refine lv_iload hx hb d_Steps_failingMember_93 (lv_at hl 1 rfl) ?_
          refine lv_iload_n hx hb d_Steps_failingMember_95 rfl (lv_at hl 4 rfl) ?_
          refine lv_lload_n hx hb d_Steps_failingMember_96 rfl (lv_at hl 2 rfl) ?_
          obtain ⟨v_left_9, ho, h⟩ := Option.bind_eq_some_iff.mp h
          refine ct_callv (wc := [(a_this, .inr (3, [.ref a_left, .ref a_squareMember, .int v_size])), (a_left, .inl (cL, 36, .inr (.inl v_left)))]) (wr := [(a_squareMember, .inl (cI, 6, .inl v_squareMember)), (a_tbl, .inl (cI, 36, .inl v_tbl))]) (wc' := [(a_this, .inr (3, [.ref a_left, .ref a_squareMember, .int v_size])), (a_left, .inl (cL, 36, .inr (.inl v_left_9)))]) (ws' := [(a_this, .inr (3, [.ref a_left, .ref a_squareMember, .int v_size])), (a_left, .inl (cL, 36, .inr (.inl v_left_9))), (a_squareMember, .inl (cI, 6, .inl v_squareMember)), (a_tbl, .inl (cI, 36, .inl v_tbl))]) (va_runV (As := [.int x5, .int x2, .long x3]) (rest := []) ⟨hx, hb, hml, hown, hts⟩ (c_Steps_takeOffSquare l D cI cL cZ tA tB H.size a_this a_left a_squareMember x5 x2 x3 v_size v_left v_left_9 _ rfl ho) (cwV 3 hts (ct_goodV k_26 k_24 k_25 k_23 k_22) rfl rfl rfl (by decide +kernel) ⟨Nat.le_of_ble_eq_true rfl, Nat.le_of_ble_eq_true rfl⟩) (ct_preV (wc := [(a_this, .inr (3, [.ref a_left, .ref a_squareMember, .int v_size])), (a_left, .inl (cL, 36, .inr (.inl v_left)))]) hP hD hK hS hA hT [0, 1] rfl (by decide) (ci := 3) (q0 := 0) rfl rfl) rfl rfl hl.1 rfl (lv_room (Nat.le_of_ble_eq_true rfl)) d_Steps_failingMember_97 ⟨Nat.zero_le _, Nat.zero_le _⟩) hP hD hS hA [0, 1] [2, 3] rfl rfl (by decide) (by decide) [2, 3, 0, 1] rfl (by decide) (fun H locs hP hD hS => ?_)
          refine lv_aload_n hx hb d_Steps_failingMember_100 rfl (lv_at hl 3 rfl) ?_
          refine va_get (D := D) (ci := 3) (v := .ref a_squareMember) (C := R_Steps) (T := T_Steps) (N := 3) hx hb hts (fun w h9 => ct_in (iw_Steps w h9)) hown hK hP 0 rfl rfl 1 (by decide) (hts _ (ct_in k_27)) (fun _ h9 => h9) rfl d_Steps_failingMember_101 ?_
          refine lv_aload_n hx hb d_Steps_failingMember_104 rfl (lv_at hl 3 rfl) ?_
          refine va_get (D := D) (ci := 3) (v := .int v_size) (C := R_Steps) (T := T_Steps) (N := 3) hx hb hts (fun w h9 => ct_in (iw_Steps w h9)) hown hK hP 0 rfl rfl 2 (by decide) (hts _ (ct_in k_18)) (fun _ h9 => h9) rfl d_Steps_failingMember_105 ?_
          refine lv_iload hx hb d_Steps_failingMember_108 (lv_at hl 1 rfl) ?_
          obtain ⟨hin, h⟩ := ct_chk h
          refine va_iast hx hb hK hP hD hS 2 0 rfl rfl hin d_Steps_failingMember_110 (fun H locs hP hD hS => ?_)
          have hP : va_P D vwCl [(a_this, .inr (3, [.ref a_left, .ref a_squareMember, .int v_size])), (a_left, .inl (cL, 36, .inr (.inl v_left_9))), (a_squareMember, .inl (cI, 6, .inl (upd v_squareMember v_size.toNatClampNeg x5))), (a_tbl, .inl (cI, 36, .inl v_tbl))] H := hP
          have hD : va_D A [(a_this, .inr (3, [.ref a_left, .ref a_squareMember, .int v_size])), (a_left, .inl (cL, 36, .inr (.inl v_left_9))), (a_squareMember, .inl (cI, 6, .inl (upd v_squareMember v_size.toNatClampNeg x5))), (a_tbl, .inl (cI, 36, .inl v_tbl))] := hD
          refine lv_aload_n hx hb d_Steps_failingMember_111 rfl (lv_at hl 3 rfl) ?_
          refine lv_dup hx hb d_Steps_failingMember_112 rfl ?_
          refine va_get (D := D) (ci := 3) (v := .int v_size) (C := R_Steps) (T := T_Steps) (N := 3) hx hb hts (fun w h9 => ct_in (iw_Steps w h9)) hown hK hP 0 rfl rfl 2 (by decide) (hts _ (ct_in k_18)) (fun _ h9 => h9) rfl d_Steps_failingMember_113 ?_
          refine lv_iconst (v := 1) hx hb d_Steps_failingMember_116 (by decide) ?_
          refine lv_iadd hx hb d_Steps_failingMember_117 ?_
          refine va_put (D := D) (ci := 3) (v := .int (v_size + 1)) (ty := .int) (C := R_Steps) (T := T_Steps) (N := 3) hx hb hts (fun w h9 => ct_in (iw_Steps w h9)) t_Steps tk_Steps nm_Steps hown hK hP hD hS 0 rfl rfl 2 (by decide) (hts _ (ct_in k_18)) (fun _ h9 => h9) rfl (by decide +kernel) rfl rfl (Nat.le_of_ble_eq_true rfl) d_Steps_failingMember_118 (fun H locs hP hD hS => ?_)
          have hP : va_P D vwCl [(a_this, .inr (3, [.ref a_left, .ref a_squareMember, .int (v_size + 1)])), (a_left, .inl (cL, 36, .inr (.inl v_left_9))), (a_squareMember, .inl (cI, 6, .inl (upd v_squareMember v_size.toNatClampNeg x5))), (a_tbl, .inl (cI, 36, .inl v_tbl))] H := hP
          have hD : va_D A [(a_this, .inr (3, [.ref a_left, .ref a_squareMember, .int (v_size + 1)])), (a_left, .inl (cL, 36, .inr (.inl v_left_9))), (a_squareMember, .inl (cI, 6, .inl (upd v_squareMember v_size.toNatClampNeg x5))), (a_tbl, .inl (cI, 36, .inl v_tbl))] := hD
          refine lv_lload hx hb d_Steps_failingMember_121 (lv_at hl 0 rfl) ?_
          refine lv_lstore_n (lv' := [(3, .long (v_left r_8.toNatClampNeg)), (6, .long (v_left r_8.toNatClampNeg)), (5, .int x5), (0, .ref a_this), (2, .int x2)]) hx hb d_Steps_failingMember_123 rfl hl (by decide) rfl (fun ls hl => ?_)
          refine lv_iinc (v := (x5 + 1)) (lv' := [(5, .int (x5 + 1)), (3, .long (v_left r_8.toNatClampNeg)), (6, .long (v_left r_8.toNatClampNeg)), (0, .ref a_this), (2, .int x2)]) hx hb d_Steps_failingMember_124 hl (k := 2) rfl rfl (by decide) rfl (fun ls hl => ?_)
          refine lv_goto (tgt := 34) hx hb d_Steps_failingMember_127 (by decide) ?_
          exact ih _ _ _ _ _ k h hk _ _ hP hD hS ls (lv_sub hl [0, 1, 3, 4] rfl)
        · rw [if_pos hc] at h
          refine lv_aload_n hx hb d_Steps_failingMember_71 rfl (lv_at hl 3 rfl) ?_
          refine lv_iload hx hb d_Steps_failingMember_72 (lv_at hl 1 rfl) ?_
          refine lv_iload_n hx hb d_Steps_failingMember_74 rfl (lv_at hl 4 rfl) ?_
          obtain ⟨r_10, ho, h⟩ := Option.bind_eq_some_iff.mp h
          refine ct_calli (wc := [(a_this, .inr (3, [.ref a_left, .ref a_squareMember, .int v_size])), (a_left, .inl (cL, 36, .inr (.inl v_left)))]) (wr := [(a_squareMember, .inl (cI, 6, .inl v_squareMember)), (a_tbl, .inl (cI, 36, .inl v_tbl))]) (wc' := [(a_this, .inr (3, [.ref a_left, .ref a_squareMember, .int v_size])), (a_left, .inl (cL, 36, .inr (.inl v_left)))]) (ws' := [(a_this, .inr (3, [.ref a_left, .ref a_squareMember, .int v_size])), (a_left, .inl (cL, 36, .inr (.inl v_left))), (a_squareMember, .inl (cI, 6, .inl v_squareMember)), (a_tbl, .inl (cI, 36, .inl v_tbl))]) (va_runV (As := [.int x5, .int x2]) (rest := []) ⟨hx, hb, hml, hown, hts⟩ (c_Steps_firstNotZeroBehind l D cI cL cZ tA tB H.size a_this a_left a_squareMember x5 x2 v_size v_left r_10 _ rfl ho) (cwV 2 hts (ct_goodV k_31 k_29 k_30 k_23 k_28) rfl rfl rfl (by decide +kernel) ⟨Nat.le_of_ble_eq_true rfl, Nat.le_of_ble_eq_true rfl⟩) (ct_preV (wc := [(a_this, .inr (3, [.ref a_left, .ref a_squareMember, .int v_size])), (a_left, .inl (cL, 36, .inr (.inl v_left)))]) hP hD hK hS hA hT [0, 1] rfl (by decide) (ci := 3) (q0 := 0) rfl rfl) rfl rfl hl.1 rfl (lv_room (Nat.le_of_ble_eq_true rfl)) d_Steps_failingMember_75 ⟨Nat.zero_le _, Nat.zero_le _⟩) hP hD hS hA [0, 1] [2, 3] rfl rfl (by decide) (by decide) [2, 3, 0, 1] rfl (by decide) (fun H locs hP hD hS => ?_)
          refine lv_istore (lv' := [(8, .int r_10), (6, .long (v_left r_8.toNatClampNeg)), (5, .int x5), (3, .long x3), (0, .ref a_this), (2, .int x2)]) hx hb d_Steps_failingMember_78 hl (by decide) rfl (fun ls hl => ?_)
          refine lv_iload hx hb d_Steps_failingMember_80 (lv_at hl 0 rfl) ?_
          refine lv_iconst (v := (-1)) hx hb d_Steps_failingMember_82 (by decide) ?_
          refine lv_icmp_eq (tgt := 89) hx hb d_Steps_failingMember_83 (by decide) (fun hc => ?_) (fun hc => ?_)
          · rw [if_pos hc] at h
            refine lv_goto (tgt := 124) hx hb d_Steps_failingMember_89 (by decide) ?_
            refine lv_iinc (v := (x5 + 1)) (lv' := [(5, .int (x5 + 1)), (8, .int r_10), (6, .long (v_left r_8.toNatClampNeg)), (3, .long x3), (0, .ref a_this), (2, .int x2)]) hx hb d_Steps_failingMember_124 hl (k := 2) rfl rfl (by decide) rfl (fun ls hl => ?_)
            refine lv_goto (tgt := 34) hx hb d_Steps_failingMember_127 (by decide) ?_
            exact ih _ _ _ _ _ k h hk _ _ hP hD hS ls (lv_sub hl [0, 3, 4, 5] rfl)
          · rw [if_neg hc] at h
            refine lv_iload hx hb d_Steps_failingMember_86 (lv_at hl 0 rfl) ?_
            cases h
            exact W.iret hx hb hr (fun t ht hW => ⟨⟨_, (), rfl, rfl, by rw [ht]; exact hP, hD⟩, hS.F ht⟩) hS.2.2 d_Steps_failingMember_88
      · rw [if_neg hc] at h
        refine lv_iload hx hb d_Steps_failingMember_61 (lv_at hl 1 rfl) ?_
        cases h
        exact W.iret hx hb hr (fun t ht hW => ⟨⟨_, (), rfl, rfl, by rw [ht]; exact hP, hD⟩, hS.F ht⟩) hS.2.2 d_Steps_failingMember_63
set_option maxHeartbeats 4000000 in
set_option maxRecDepth 100000 in
theorem w_Steps_failingMember {p : Program} {l : Launch} {e : Env} {s : State} {m : MethodId} {args : Array Value} {below : List Frame} {meth : Method} {c : Code} {D : va_G} {cI cL cZ : ClassId} {tA tB : Nat} {A : Nat → Prop} {a_this a_left a_squareMember a_tbl : Nat} {mem : Int32} {v_size : Int32} {v_left : Nat → Int64} {v_squareMember : Nat → Int32} {v_tbl : Nat → Int32} {o_r : Int32} {o_v_size : Int32} {o_v_left : Nat → Int64} {o_v_squareMember : Nat → Int32} (cx : ct_Cx p s m args meth c b_Steps_failingMember 9 (some .int) R_Steps wd_Steps_failingMember D (ct_tys cI cL cZ) tA tB A) (h : f_Steps_failingMember mem v_left v_squareMember v_tbl = some (o_r, o_v_size, o_v_left, o_v_squareMember)) : ∀ (H : Heap) (locs : List Loc), va_P D vwCl [(a_this, .inr (3, [.ref a_left, .ref a_squareMember, .int v_size])), (a_left, .inl (cL, 36, .inr (.inl v_left))), (a_squareMember, .inl (cI, 6, .inl v_squareMember)), (a_tbl, .inl (cI, 36, .inl v_tbl))] H → va_D A [(a_this, .inr (3, [.ref a_left, .ref a_squareMember, .int v_size])), (a_left, .inl (cL, 36, .inr (.inl v_left))), (a_squareMember, .inl (cI, 6, .inl v_squareMember)), (a_tbl, .inl (cI, 36, .inl v_tbl))] → va_S A s.heap H locs → ∀ ls : Array Slot, lv_has ls 9 [(0, .ref a_this), (1, .ref a_tbl), (2, .int mem)] → W p l e (headSpec wd_Steps_failingMember rm_Steps_failingMember).room s m args below meth c H locs 0 0 (MQ below (ct_Qi D [(a_this, .inr (3, [.ref a_left, .ref a_squareMember, .int o_v_size])), (a_left, .inl (cL, 36, .inr (.inl o_v_left))), (a_squareMember, .inl (cI, 6, .inl o_v_squareMember)), (a_tbl, .inl (cI, 36, .inl v_tbl))] A o_r) args s 0 0 A) (F0 m 0 ls []) := by
  obtain ⟨hx, hb, hr, hml, hown, hts, hK, hA, hT, hlocks, hZA, hZB, hTA, hTB, hnw⟩ := id cx
  intro H locs hP hD hS ls hl
  rw [f_Steps_failingMember] at h
  refine lv_iconst (v := 0) hx hb d_Steps_failingMember_0 (by decide) ?_
  refine lv_istore_n (lv' := [(3, .int 0), (0, .ref a_this), (1, .ref a_tbl), (2, .int mem)]) hx hb d_Steps_failingMember_1 rfl hl (by decide) rfl (fun ls hl => ?_)
  refine w_Steps_failingMember_L2 cx _ _ _ _ h (fun v_left_1 h H locs hP hD hS ls hl => ?_) _ _ hP hD hS ls (lv_sub hl [0, 1, 2, 3] rfl)
  try dsimp only at h
  refine lv_aload_n hx hb d_Steps_failingMember_24 rfl (lv_at hl 0 rfl) ?_
  refine lv_iconst (v := 0) hx hb d_Steps_failingMember_25 (by decide) ?_
  refine va_put (D := D) (ci := 3) (v := .int 0) (ty := .int) (C := R_Steps) (T := T_Steps) (N := 3) hx hb hts (fun w h9 => ct_in (iw_Steps w h9)) t_Steps tk_Steps nm_Steps hown hK hP hD hS 0 rfl rfl 2 (by decide) (hts _ (ct_in k_18)) (fun _ h9 => h9) rfl (by decide +kernel) rfl rfl (Nat.le_of_ble_eq_true rfl) d_Steps_failingMember_26 (fun H locs hP hD hS => ?_)
  have hP : va_P D vwCl [(a_this, .inr (3, [.ref a_left, .ref a_squareMember, .int 0])), (a_left, .inl (cL, 36, .inr (.inl v_left_1))), (a_squareMember, .inl (cI, 6, .inl v_squareMember)), (a_tbl, .inl (cI, 36, .inl v_tbl))] H := hP
  have hD : va_D A [(a_this, .inr (3, [.ref a_left, .ref a_squareMember, .int 0])), (a_left, .inl (cL, 36, .inr (.inl v_left_1))), (a_squareMember, .inl (cI, 6, .inl v_squareMember)), (a_tbl, .inl (cI, 36, .inl v_tbl))] := hD
  refine lv_lconst (v := 1) hx hb d_Steps_failingMember_29 (by decide) ?_
  refine lv_lstore_n (lv' := [(3, .long 1), (0, .ref a_this), (2, .int mem)]) hx hb d_Steps_failingMember_30 rfl hl (by decide) rfl (fun ls hl => ?_)
  refine lv_iconst (v := 0) hx hb d_Steps_failingMember_31 (by decide) ?_
  refine lv_istore (lv' := [(5, .int 0), (3, .long 1), (0, .ref a_this), (2, .int mem)]) hx hb d_Steps_failingMember_32 hl (by decide) rfl (fun ls hl => ?_)
  refine w_Steps_failingMember_L34 cx _ _ _ _ _ _ _ h (fun v_size_11 v_left_12 v_squareMember_13 h H locs hP hD hS ls hl => ?_) _ _ hP hD hS ls (lv_sub hl [0, 1, 2, 3] rfl)
  try dsimp only at h
  refine lv_iconst (v := (-1)) hx hb d_Steps_failingMember_130 (by decide) ?_
  cases h
  exact W.iret hx hb hr (fun t ht hW => ⟨⟨_, (), rfl, rfl, by rw [ht]; exact hP, hD⟩, hS.F ht⟩) hS.2.2 d_Steps_failingMember_131
set_option maxHeartbeats 4000000 in
set_option maxRecDepth 100000 in
theorem c_Steps_failingMember (l : Launch) (D : va_G) (cI cL cZ : ClassId) (tA tB sz : Nat) (a_this a_left a_squareMember a_tbl : Nat) (mem : Int32) (v_size : Int32) (v_left : Nat → Int64) (v_squareMember : Nat → Int32) (v_tbl : Nat → Int32) (o_r : Int32) (o_v_size : Int32) (o_v_left : Nat → Int64) (o_v_squareMember : Nat → Int32) (A : Nat → Prop) (hAe : A = va_A [(a_this, .inr (3, [.ref a_left, .ref a_squareMember, .int v_size])), (a_left, .inl (cL, 36, .inr (.inl v_left))), (a_squareMember, .inl (cI, 6, .inl v_squareMember)), (a_tbl, .inl (cI, 36, .inl v_tbl))] sz) (h : f_Steps_failingMember mem v_left v_squareMember v_tbl = some (o_r, o_v_size, o_v_left, o_v_squareMember)) : Met l y_Steps_failingMember wd_Steps_failingMember rm_Steps_failingMember (ct_Pre D (ct_tys cI cL cZ) tA tB [(a_this, .inr (3, [.ref a_left, .ref a_squareMember, .int v_size])), (a_left, .inl (cL, 36, .inr (.inl v_left))), (a_squareMember, .inl (cI, 6, .inl v_squareMember)), (a_tbl, .inl (cI, 36, .inl v_tbl))] sz [.ref a_this, .ref a_tbl, .int mem]) (ct_Qi D [(a_this, .inr (3, [.ref a_left, .ref a_squareMember, .int o_v_size])), (a_left, .inl (cL, 36, .inr (.inl o_v_left))), (a_squareMember, .inl (cI, 6, .inl o_v_squareMember)), (a_tbl, .inl (cI, 36, .inl v_tbl))] A o_r) 0 0 A := by
  refine Met.ofW (cc := b_Steps_failingMember) (maxL := 9) (ret := (some .int)) (by decide) rfl ?_
  intro p e s m args below meth c s₁ B hml hv
  obtain ⟨hargs, hsz, hP, hK, hD0, hT⟩ := hv
  subst hsz
  have hD := hD0.self (sz := s.heap.size)
  rw [← hAe] at hD hT
  have hA : ∀ q : Nat, s.heap.size ≤ q → A q := fun q h => by rw [hAe]; exact Or.inr h
  clear hAe
  have cx : ct_Cx p s m args meth c b_Steps_failingMember 9 (some .int) R_Steps wd_Steps_failingMember D (ct_tys cI cL cZ) tA tB A := ⟨B.exec, B.bytes, B.returns, hml, findClass_of_methodNamed B.named, atoms_spec (ws := wd_Steps_failingMember) B.pre, hK, hA, hT, B.notSynchronized, hT.1, hT.2.1, hT.2.2.1, hT.2.2.2.1, hT.2.2.2.2⟩
  have hl := lv_entry ([.ref a_this, .ref a_tbl, .int mem]) (n := 9) (Nat.le_of_ble_eq_true rfl)
  rw [show entryFrame m args 9 = entryFrame m ([.ref a_this, .ref a_tbl, .int mem] : List Value).toArray 9 by rw [hargs], lg_entry_eq]
  exact w_Steps_failingMember cx h _ _ hP hD va_S.rf _ hl
abbrev rm_Steps_pivot : Room := { frames := 1, cells := 0, slots := 0, locals := 21 }
abbrev wd_Steps_pivot : List Cond := .code y_Steps_pivot b_Steps_pivot 2 (some .long) :: ct_G
def f_Steps_pivot (p0 : Int32) (v_left : Nat → Int64) (v_squareMember : Nat → Int32) : Option (Int64) := (if p0 < 0 ∨ 6 ≤ p0.toNatClampNeg then none else (if p0 < 0 ∨ 6 ≤ p0.toNatClampNeg then none else ((f_Sq_cellOf (v_squareMember p0.toNatClampNeg) (v_squareMember p0.toNatClampNeg)).bind (fun r_1 => (if r_1 < 0 ∨ 36 ≤ r_1.toNatClampNeg then none else some (v_left r_1.toNatClampNeg))))))
set_option maxHeartbeats 4000000 in
set_option maxRecDepth 100000 in
theorem w_Steps_pivot {p : Program} {l : Launch} {e : Env} {s : State} {m : MethodId} {args : Array Value} {below : List Frame} {meth : Method} {c : Code} {D : va_G} {cI cL cZ : ClassId} {tA tB : Nat} {A : Nat → Prop} {a_this a_left a_squareMember : Nat} {p0 : Int32} {v_size : Int32} {v_left : Nat → Int64} {v_squareMember : Nat → Int32} {o_r : Int64} (cx : ct_Cx p s m args meth c b_Steps_pivot 2 (some .long) R_Steps wd_Steps_pivot D (ct_tys cI cL cZ) tA tB A) (h : f_Steps_pivot p0 v_left v_squareMember = some o_r) : ∀ (H : Heap) (locs : List Loc), va_P D vwCl [(a_this, .inr (3, [.ref a_left, .ref a_squareMember, .int v_size])), (a_left, .inl (cL, 36, .inr (.inl v_left))), (a_squareMember, .inl (cI, 6, .inl v_squareMember))] H → va_D A [(a_this, .inr (3, [.ref a_left, .ref a_squareMember, .int v_size])), (a_left, .inl (cL, 36, .inr (.inl v_left))), (a_squareMember, .inl (cI, 6, .inl v_squareMember))] → va_S A s.heap H locs → ∀ ls : Array Slot, lv_has ls 2 [(0, .ref a_this), (1, .int p0)] → W p l e (headSpec wd_Steps_pivot rm_Steps_pivot).room s m args below meth c H locs 0 0 (MQ below (ct_Ql D [(a_this, .inr (3, [.ref a_left, .ref a_squareMember, .int v_size])), (a_left, .inl (cL, 36, .inr (.inl v_left))), (a_squareMember, .inl (cI, 6, .inl v_squareMember))] A o_r) args s 0 0 A) (F0 m 0 ls []) := by
  obtain ⟨hx, hb, hr, hml, hown, hts, hK, hA, hT, hlocks, hZA, hZB, hTA, hTB, hnw⟩ := id cx
  intro H locs hP hD hS ls hl
  rw [f_Steps_pivot] at h
  refine lv_aload_n hx hb d_Steps_pivot_0 rfl (lv_at hl 0 rfl) ?_
  refine va_get (D := D) (ci := 3) (v := .ref a_left) (C := R_Steps) (T := T_Steps) (N := 3) hx hb hts (fun w h9 => ct_in (iw_Steps w h9)) hown hK hP 0 rfl rfl 0 (by decide) (hts _ (ct_in k_17)) (fun _ h9 => h9) rfl d_Steps_pivot_1 ?_
  refine lv_aload_n hx hb d_Steps_pivot_4 rfl (lv_at hl 0 rfl) ?_
  refine va_get (D := D) (ci := 3) (v := .ref a_squareMember) (C := R_Steps) (T := T_Steps) (N := 3) hx hb hts (fun w h9 => ct_in (iw_Steps w h9)) hown hK hP 0 rfl rfl 1 (by decide) (hts _ (ct_in k_27)) (fun _ h9 => h9) rfl d_Steps_pivot_5 ?_
  refine lv_iload_n hx hb d_Steps_pivot_8 rfl (lv_at hl 1 rfl) ?_
  obtain ⟨hin, h⟩ := ct_chk h
  refine va_iald hx hb hK hP 2 0 rfl rfl hin d_Steps_pivot_9 ?_
  refine lv_aload_n hx hb d_Steps_pivot_10 rfl (lv_at hl 0 rfl) ?_
  refine va_get (D := D) (ci := 3) (v := .ref a_squareMember) (C := R_Steps) (T := T_Steps) (N := 3) hx hb hts (fun w h9 => ct_in (iw_Steps w h9)) hown hK hP 0 rfl rfl 1 (by decide) (hts _ (ct_in k_27)) (fun _ h9 => h9) rfl d_Steps_pivot_11 ?_
  refine lv_iload_n hx hb d_Steps_pivot_14 rfl (lv_at hl 1 rfl) ?_
  obtain ⟨hin, h⟩ := ct_chk h
  refine va_iald hx hb hK hP 2 0 rfl rfl hin d_Steps_pivot_15 ?_
  obtain ⟨r_1, ho, h⟩ := Option.bind_eq_some_iff.mp h
  refine ct_calli (wc := []) (wr := [(a_this, .inr (3, [.ref a_left, .ref a_squareMember, .int v_size])), (a_left, .inl (cL, 36, .inr (.inl v_left))), (a_squareMember, .inl (cI, 6, .inl v_squareMember))]) (wc' := []) (ws' := [(a_this, .inr (3, [.ref a_left, .ref a_squareMember, .int v_size])), (a_left, .inl (cL, 36, .inr (.inl v_left))), (a_squareMember, .inl (cI, 6, .inl v_squareMember))]) (va_runSN (As := [.int (v_squareMember p0.toNatClampNeg), .int (v_squareMember p0.toNatClampNeg)]) (rest := [.ref a_left]) ⟨hx, hb, hml, hown, hts⟩ (c_Sq_cellOf l D cI cL cZ tA tB H.size (v_squareMember p0.toNatClampNeg) (v_squareMember p0.toNatClampNeg) r_1 _ rfl ho) ⟨va_cnB 2 hts (ct_good k_19) rfl rfl rfl (ct_nest_use n_2 hnw) (hts _ (ct_in k_20)) (by decide +kernel) ⟨Nat.le_of_ble_eq_true rfl, Nat.le_of_ble_eq_true rfl⟩, hts _ (ct_in k_21), trivial⟩ (ct_preS (wc := []) hP hD hK hS hA hT [] rfl (by decide)) rfl rfl hl.1 rfl (lv_room (Nat.le_of_ble_eq_true rfl)) d_Steps_pivot_16 ⟨Nat.zero_le _, Nat.zero_le _⟩) hP hD hS hA [] [0, 1, 2] rfl rfl (by decide) (by decide) [0, 1, 2] rfl (by decide) (fun H locs hP hD hS => ?_)
  obtain ⟨hin, h⟩ := ct_chk h
  refine va_lald hx hb hK hP 1 1 rfl rfl hin d_Steps_pivot_19 ?_
  cases h
  exact W.lret hx hb hr (fun t ht hW => ⟨⟨_, (), rfl, rfl, by rw [ht]; exact hP, hD⟩, hS.F ht⟩) hS.2.2 d_Steps_pivot_20
set_option maxHeartbeats 4000000 in
set_option maxRecDepth 100000 in
theorem c_Steps_pivot (l : Launch) (D : va_G) (cI cL cZ : ClassId) (tA tB sz : Nat) (a_this a_left a_squareMember : Nat) (p0 : Int32) (v_size : Int32) (v_left : Nat → Int64) (v_squareMember : Nat → Int32) (o_r : Int64) (A : Nat → Prop) (hAe : A = va_A [(a_this, .inr (3, [.ref a_left, .ref a_squareMember, .int v_size])), (a_left, .inl (cL, 36, .inr (.inl v_left))), (a_squareMember, .inl (cI, 6, .inl v_squareMember))] sz) (h : f_Steps_pivot p0 v_left v_squareMember = some o_r) : Met l y_Steps_pivot wd_Steps_pivot rm_Steps_pivot (ct_Pre D (ct_tys cI cL cZ) tA tB [(a_this, .inr (3, [.ref a_left, .ref a_squareMember, .int v_size])), (a_left, .inl (cL, 36, .inr (.inl v_left))), (a_squareMember, .inl (cI, 6, .inl v_squareMember))] sz [.ref a_this, .int p0]) (ct_Ql D [(a_this, .inr (3, [.ref a_left, .ref a_squareMember, .int v_size])), (a_left, .inl (cL, 36, .inr (.inl v_left))), (a_squareMember, .inl (cI, 6, .inl v_squareMember))] A o_r) 0 0 A := by
  refine Met.ofW (cc := b_Steps_pivot) (maxL := 2) (ret := (some .long)) (by decide) rfl ?_
  intro p e s m args below meth c s₁ B hml hv
  obtain ⟨hargs, hsz, hP, hK, hD0, hT⟩ := hv
  subst hsz
  have hD := hD0.self (sz := s.heap.size)
  rw [← hAe] at hD hT
  have hA : ∀ q : Nat, s.heap.size ≤ q → A q := fun q h => by rw [hAe]; exact Or.inr h
  clear hAe
  have cx : ct_Cx p s m args meth c b_Steps_pivot 2 (some .long) R_Steps wd_Steps_pivot D (ct_tys cI cL cZ) tA tB A := ⟨B.exec, B.bytes, B.returns, hml, findClass_of_methodNamed B.named, atoms_spec (ws := wd_Steps_pivot) B.pre, hK, hA, hT, B.notSynchronized, hT.1, hT.2.1, hT.2.2.1, hT.2.2.2.1, hT.2.2.2.2⟩
  have hl := lv_entry ([.ref a_this, .int p0]) (n := 2) (Nat.le_of_ble_eq_true rfl)
  rw [show entryFrame m args 2 = entryFrame m ([.ref a_this, .int p0] : List Value).toArray 2 by rw [hargs], lg_entry_eq]
  exact w_Steps_pivot cx h _ _ hP hD va_S.rf _ hl
abbrev rm_Steps_weightAbove : Room := { frames := 2, cells := 0, slots := 0, locals := 42 }
abbrev wd_Steps_weightAbove : List Cond := .code y_Steps_weightAbove b_Steps_weightAbove 2 (some .long) :: ct_G
def f_Steps_weightAbove (p0 : Int32) (v_left : Nat → Int64) (v_squareMember : Nat → Int32) : Option (Int64) := ((f_Steps_pivot p0 v_left v_squareMember).bind (fun r_1 => some r_1))
set_option maxHeartbeats 4000000 in
set_option maxRecDepth 100000 in
theorem w_Steps_weightAbove {p : Program} {l : Launch} {e : Env} {s : State} {m : MethodId} {args : Array Value} {below : List Frame} {meth : Method} {c : Code} {D : va_G} {cI cL cZ : ClassId} {tA tB : Nat} {A : Nat → Prop} {a_this a_left a_squareMember : Nat} {p0 : Int32} {v_size : Int32} {v_left : Nat → Int64} {v_squareMember : Nat → Int32} {o_r : Int64} (cx : ct_Cx p s m args meth c b_Steps_weightAbove 2 (some .long) R_Steps wd_Steps_weightAbove D (ct_tys cI cL cZ) tA tB A) (h : f_Steps_weightAbove p0 v_left v_squareMember = some o_r) : ∀ (H : Heap) (locs : List Loc), va_P D vwCl [(a_this, .inr (3, [.ref a_left, .ref a_squareMember, .int v_size])), (a_left, .inl (cL, 36, .inr (.inl v_left))), (a_squareMember, .inl (cI, 6, .inl v_squareMember))] H → va_D A [(a_this, .inr (3, [.ref a_left, .ref a_squareMember, .int v_size])), (a_left, .inl (cL, 36, .inr (.inl v_left))), (a_squareMember, .inl (cI, 6, .inl v_squareMember))] → va_S A s.heap H locs → ∀ ls : Array Slot, lv_has ls 2 [(0, .ref a_this), (1, .int p0)] → W p l e (headSpec wd_Steps_weightAbove rm_Steps_weightAbove).room s m args below meth c H locs 0 0 (MQ below (ct_Ql D [(a_this, .inr (3, [.ref a_left, .ref a_squareMember, .int v_size])), (a_left, .inl (cL, 36, .inr (.inl v_left))), (a_squareMember, .inl (cI, 6, .inl v_squareMember))] A o_r) args s 0 0 A) (F0 m 0 ls []) := by
  obtain ⟨hx, hb, hr, hml, hown, hts, hK, hA, hT, hlocks, hZA, hZB, hTA, hTB, hnw⟩ := id cx
  intro H locs hP hD hS ls hl
  rw [f_Steps_weightAbove] at h
  refine lv_aload_n hx hb d_Steps_weightAbove_0 rfl (lv_at hl 0 rfl) ?_
  refine lv_iload_n hx hb d_Steps_weightAbove_1 rfl (lv_at hl 1 rfl) ?_
  obtain ⟨r_1, ho, h⟩ := Option.bind_eq_some_iff.mp h
  refine ct_calll (wc := [(a_this, .inr (3, [.ref a_left, .ref a_squareMember, .int v_size])), (a_left, .inl (cL, 36, .inr (.inl v_left))), (a_squareMember, .inl (cI, 6, .inl v_squareMember))]) (wr := []) (wc' := [(a_this, .inr (3, [.ref a_left, .ref a_squareMember, .int v_size])), (a_left, .inl (cL, 36, .inr (.inl v_left))), (a_squareMember, .inl (cI, 6, .inl v_squareMember))]) (ws' := [(a_this, .inr (3, [.ref a_left, .ref a_squareMember, .int v_size])), (a_left, .inl (cL, 36, .inr (.inl v_left))), (a_squareMember, .inl (cI, 6, .inl v_squareMember))]) (va_runV (As := [.int p0]) (rest := []) ⟨hx, hb, hml, hown, hts⟩ (c_Steps_pivot l D cI cL cZ tA tB H.size a_this a_left a_squareMember p0 v_size v_left v_squareMember r_1 _ rfl ho) (cwV 1 hts (ct_goodV k_35 k_33 k_34 k_23 k_32) rfl rfl rfl (by decide +kernel) ⟨Nat.le_of_ble_eq_true rfl, Nat.le_of_ble_eq_true rfl⟩) (ct_preV (wc := [(a_this, .inr (3, [.ref a_left, .ref a_squareMember, .int v_size])), (a_left, .inl (cL, 36, .inr (.inl v_left))), (a_squareMember, .inl (cI, 6, .inl v_squareMember))]) hP hD hK hS hA hT [0, 1, 2] rfl (by decide) (ci := 3) (q0 := 0) rfl rfl) rfl rfl hl.1 rfl (lv_room (Nat.le_of_ble_eq_true rfl)) d_Steps_weightAbove_2 ⟨Nat.zero_le _, Nat.zero_le _⟩) hP hD hS hA [0, 1, 2] [] rfl rfl (by decide) (by decide) [0, 1, 2] rfl (by decide) (fun H locs hP hD hS => ?_)
  cases h
  exact W.lret hx hb hr (fun t ht hW => ⟨⟨_, (), rfl, rfl, by rw [ht]; exact hP, hD⟩, hS.F ht⟩) hS.2.2 d_Steps_weightAbove_5
set_option maxHeartbeats 4000000 in
set_option maxRecDepth 100000 in
theorem c_Steps_weightAbove (l : Launch) (D : va_G) (cI cL cZ : ClassId) (tA tB sz : Nat) (a_this a_left a_squareMember : Nat) (p0 : Int32) (v_size : Int32) (v_left : Nat → Int64) (v_squareMember : Nat → Int32) (o_r : Int64) (A : Nat → Prop) (hAe : A = va_A [(a_this, .inr (3, [.ref a_left, .ref a_squareMember, .int v_size])), (a_left, .inl (cL, 36, .inr (.inl v_left))), (a_squareMember, .inl (cI, 6, .inl v_squareMember))] sz) (h : f_Steps_weightAbove p0 v_left v_squareMember = some o_r) : Met l y_Steps_weightAbove wd_Steps_weightAbove rm_Steps_weightAbove (ct_Pre D (ct_tys cI cL cZ) tA tB [(a_this, .inr (3, [.ref a_left, .ref a_squareMember, .int v_size])), (a_left, .inl (cL, 36, .inr (.inl v_left))), (a_squareMember, .inl (cI, 6, .inl v_squareMember))] sz [.ref a_this, .int p0]) (ct_Ql D [(a_this, .inr (3, [.ref a_left, .ref a_squareMember, .int v_size])), (a_left, .inl (cL, 36, .inr (.inl v_left))), (a_squareMember, .inl (cI, 6, .inl v_squareMember))] A o_r) 0 0 A := by
  refine Met.ofW (cc := b_Steps_weightAbove) (maxL := 2) (ret := (some .long)) (by decide) rfl ?_
  intro p e s m args below meth c s₁ B hml hv
  obtain ⟨hargs, hsz, hP, hK, hD0, hT⟩ := hv
  subst hsz
  have hD := hD0.self (sz := s.heap.size)
  rw [← hAe] at hD hT
  have hA : ∀ q : Nat, s.heap.size ≤ q → A q := fun q h => by rw [hAe]; exact Or.inr h
  clear hAe
  have cx : ct_Cx p s m args meth c b_Steps_weightAbove 2 (some .long) R_Steps wd_Steps_weightAbove D (ct_tys cI cL cZ) tA tB A := ⟨B.exec, B.bytes, B.returns, hml, findClass_of_methodNamed B.named, atoms_spec (ws := wd_Steps_weightAbove) B.pre, hK, hA, hT, B.notSynchronized, hT.1, hT.2.1, hT.2.2.1, hT.2.2.2.1, hT.2.2.2.2⟩
  have hl := lv_entry ([.ref a_this, .int p0]) (n := 2) (Nat.le_of_ble_eq_true rfl)
  rw [show entryFrame m args 2 = entryFrame m ([.ref a_this, .int p0] : List Value).toArray 2 by rw [hargs], lg_entry_eq]
  exact w_Steps_weightAbove cx h _ _ hP hD va_S.rf _ hl
abbrev rm_Steps_weightBelow : Room := { frames := 2, cells := 0, slots := 0, locals := 42 }
abbrev wd_Steps_weightBelow : List Cond := .code y_Steps_weightBelow b_Steps_weightBelow 2 (some .long) :: ct_G
def f_Steps_weightBelow (p0 : Int32) (v_left : Nat → Int64) (v_squareMember : Nat → Int32) : Option (Int64) := (if p0 = 0 then some (2 * 1) else ((f_Steps_pivot (p0 - 1) v_left v_squareMember).bind (fun r_2 => some (2 * r_2))))
set_option maxHeartbeats 4000000 in
set_option maxRecDepth 100000 in
theorem w_Steps_weightBelow {p : Program} {l : Launch} {e : Env} {s : State} {m : MethodId} {args : Array Value} {below : List Frame} {meth : Method} {c : Code} {D : va_G} {cI cL cZ : ClassId} {tA tB : Nat} {A : Nat → Prop} {a_this a_left a_squareMember : Nat} {p0 : Int32} {v_size : Int32} {v_left : Nat → Int64} {v_squareMember : Nat → Int32} {o_r : Int64} (cx : ct_Cx p s m args meth c b_Steps_weightBelow 2 (some .long) R_Steps wd_Steps_weightBelow D (ct_tys cI cL cZ) tA tB A) (h : f_Steps_weightBelow p0 v_left v_squareMember = some o_r) : ∀ (H : Heap) (locs : List Loc), va_P D vwCl [(a_this, .inr (3, [.ref a_left, .ref a_squareMember, .int v_size])), (a_left, .inl (cL, 36, .inr (.inl v_left))), (a_squareMember, .inl (cI, 6, .inl v_squareMember))] H → va_D A [(a_this, .inr (3, [.ref a_left, .ref a_squareMember, .int v_size])), (a_left, .inl (cL, 36, .inr (.inl v_left))), (a_squareMember, .inl (cI, 6, .inl v_squareMember))] → va_S A s.heap H locs → ∀ ls : Array Slot, lv_has ls 2 [(0, .ref a_this), (1, .int p0)] → W p l e (headSpec wd_Steps_weightBelow rm_Steps_weightBelow).room s m args below meth c H locs 0 0 (MQ below (ct_Ql D [(a_this, .inr (3, [.ref a_left, .ref a_squareMember, .int v_size])), (a_left, .inl (cL, 36, .inr (.inl v_left))), (a_squareMember, .inl (cI, 6, .inl v_squareMember))] A o_r) args s 0 0 A) (F0 m 0 ls []) := by
  obtain ⟨hx, hb, hr, hml, hown, hts, hK, hA, hT, hlocks, hZA, hZB, hTA, hTB, hnw⟩ := id cx
  intro H locs hP hD hS ls hl
  rw [f_Steps_weightBelow] at h
  refine lv_ldc2 hx hb hown (hts _ (ct_in k_36)) d_Steps_weightBelow_0 ?_
  refine lv_iload_n hx hb d_Steps_weightBelow_3 rfl (lv_at hl 1 rfl) ?_
  refine lv_if_ne (tgt := 11) hx hb d_Steps_weightBelow_4 (by decide) (fun hc => ?_) (fun hc => ?_)
  · rw [if_neg hc] at h
    refine lv_aload_n hx hb d_Steps_weightBelow_11 rfl (lv_at hl 0 rfl) ?_
    refine lv_iload_n hx hb d_Steps_weightBelow_12 rfl (lv_at hl 1 rfl) ?_
    refine lv_iconst (v := 1) hx hb d_Steps_weightBelow_13 (by decide) ?_
    refine lv_isub hx hb d_Steps_weightBelow_14 ?_
    obtain ⟨r_2, ho, h⟩ := Option.bind_eq_some_iff.mp h
    refine ct_calll (wc := [(a_this, .inr (3, [.ref a_left, .ref a_squareMember, .int v_size])), (a_left, .inl (cL, 36, .inr (.inl v_left))), (a_squareMember, .inl (cI, 6, .inl v_squareMember))]) (wr := []) (wc' := [(a_this, .inr (3, [.ref a_left, .ref a_squareMember, .int v_size])), (a_left, .inl (cL, 36, .inr (.inl v_left))), (a_squareMember, .inl (cI, 6, .inl v_squareMember))]) (ws' := [(a_this, .inr (3, [.ref a_left, .ref a_squareMember, .int v_size])), (a_left, .inl (cL, 36, .inr (.inl v_left))), (a_squareMember, .inl (cI, 6, .inl v_squareMember))]) (va_runV (As := [.int (p0 - 1)]) (rest := [.long 2]) ⟨hx, hb, hml, hown, hts⟩ (c_Steps_pivot l D cI cL cZ tA tB H.size a_this a_left a_squareMember (p0 - 1) v_size v_left v_squareMember r_2 _ rfl ho) (cwV 1 hts (ct_goodV k_35 k_33 k_34 k_23 k_32) rfl rfl rfl (by decide +kernel) ⟨Nat.le_of_ble_eq_true rfl, Nat.le_of_ble_eq_true rfl⟩) (ct_preV (wc := [(a_this, .inr (3, [.ref a_left, .ref a_squareMember, .int v_size])), (a_left, .inl (cL, 36, .inr (.inl v_left))), (a_squareMember, .inl (cI, 6, .inl v_squareMember))]) hP hD hK hS hA hT [0, 1, 2] rfl (by decide) (ci := 3) (q0 := 0) rfl rfl) rfl rfl hl.1 rfl (lv_room (Nat.le_of_ble_eq_true rfl)) d_Steps_weightBelow_15 ⟨Nat.zero_le _, Nat.zero_le _⟩) hP hD hS hA [0, 1, 2] [] rfl rfl (by decide) (by decide) [0, 1, 2] rfl (by decide) (fun H locs hP hD hS => ?_)
    refine lv_lmul hx hb d_Steps_weightBelow_18 ?_
    cases h
    exact W.lret hx hb hr (fun t ht hW => ⟨⟨_, (), rfl, rfl, by rw [ht]; exact hP, hD⟩, hS.F ht⟩) hS.2.2 d_Steps_weightBelow_19
  · rw [if_pos hc] at h
    refine lv_lconst (v := 1) hx hb d_Steps_weightBelow_7 (by decide) ?_
    refine lv_goto (tgt := 18) hx hb d_Steps_weightBelow_8 (by decide) ?_
    refine lv_lmul hx hb d_Steps_weightBelow_18 ?_
    cases h
    exact W.lret hx hb hr (fun t ht hW => ⟨⟨_, (), rfl, rfl, by rw [ht]; exact hP, hD⟩, hS.F ht⟩) hS.2.2 d_Steps_weightBelow_19
set_option maxHeartbeats 4000000 in
set_option maxRecDepth 100000 in
theorem c_Steps_weightBelow (l : Launch) (D : va_G) (cI cL cZ : ClassId) (tA tB sz : Nat) (a_this a_left a_squareMember : Nat) (p0 : Int32) (v_size : Int32) (v_left : Nat → Int64) (v_squareMember : Nat → Int32) (o_r : Int64) (A : Nat → Prop) (hAe : A = va_A [(a_this, .inr (3, [.ref a_left, .ref a_squareMember, .int v_size])), (a_left, .inl (cL, 36, .inr (.inl v_left))), (a_squareMember, .inl (cI, 6, .inl v_squareMember))] sz) (h : f_Steps_weightBelow p0 v_left v_squareMember = some o_r) : Met l y_Steps_weightBelow wd_Steps_weightBelow rm_Steps_weightBelow (ct_Pre D (ct_tys cI cL cZ) tA tB [(a_this, .inr (3, [.ref a_left, .ref a_squareMember, .int v_size])), (a_left, .inl (cL, 36, .inr (.inl v_left))), (a_squareMember, .inl (cI, 6, .inl v_squareMember))] sz [.ref a_this, .int p0]) (ct_Ql D [(a_this, .inr (3, [.ref a_left, .ref a_squareMember, .int v_size])), (a_left, .inl (cL, 36, .inr (.inl v_left))), (a_squareMember, .inl (cI, 6, .inl v_squareMember))] A o_r) 0 0 A := by
  refine Met.ofW (cc := b_Steps_weightBelow) (maxL := 2) (ret := (some .long)) (by decide) rfl ?_
  intro p e s m args below meth c s₁ B hml hv
  obtain ⟨hargs, hsz, hP, hK, hD0, hT⟩ := hv
  subst hsz
  have hD := hD0.self (sz := s.heap.size)
  rw [← hAe] at hD hT
  have hA : ∀ q : Nat, s.heap.size ≤ q → A q := fun q h => by rw [hAe]; exact Or.inr h
  clear hAe
  have cx : ct_Cx p s m args meth c b_Steps_weightBelow 2 (some .long) R_Steps wd_Steps_weightBelow D (ct_tys cI cL cZ) tA tB A := ⟨B.exec, B.bytes, B.returns, hml, findClass_of_methodNamed B.named, atoms_spec (ws := wd_Steps_weightBelow) B.pre, hK, hA, hT, B.notSynchronized, hT.1, hT.2.1, hT.2.2.1, hT.2.2.2.1, hT.2.2.2.2⟩
  have hl := lv_entry ([.ref a_this, .int p0]) (n := 2) (Nat.le_of_ble_eq_true rfl)
  rw [show entryFrame m args 2 = entryFrame m ([.ref a_this, .int p0] : List Value).toArray 2 by rw [hargs], lg_entry_eq]
  exact w_Steps_weightBelow cx h _ _ hP hD va_S.rf _ hl
abbrev rm_Steps_rowAbove : Room := { frames := 1, cells := 0, slots := 0, locals := 21 }
abbrev wd_Steps_rowAbove : List Cond := .code y_Steps_rowAbove b_Steps_rowAbove 3 (some .long) :: ct_G
def f_Steps_rowAbove (p0 : Int32) (p1 : Int32) (v_left : Nat → Int64) (v_squareMember : Nat → Int32) : Option (Int64) := (if p0 < 0 ∨ 6 ≤ p0.toNatClampNeg then none else (if (v_squareMember p0.toNatClampNeg) ≤ p1 then (if p0 < 0 ∨ 6 ≤ p0.toNatClampNeg then none else ((f_Sq_cellOf (v_squareMember p0.toNatClampNeg) p1).bind (fun r_1 => (if r_1 < 0 ∨ 36 ≤ r_1.toNatClampNeg then none else some (v_left r_1.toNatClampNeg))))) else some (0 : Int64)))
set_option maxHeartbeats 4000000 in
set_option maxRecDepth 100000 in
theorem w_Steps_rowAbove {p : Program} {l : Launch} {e : Env} {s : State} {m : MethodId} {args : Array Value} {below : List Frame} {meth : Method} {c : Code} {D : va_G} {cI cL cZ : ClassId} {tA tB : Nat} {A : Nat → Prop} {a_this a_left a_squareMember : Nat} {p0 : Int32} {p1 : Int32} {v_size : Int32} {v_left : Nat → Int64} {v_squareMember : Nat → Int32} {o_r : Int64} (cx : ct_Cx p s m args meth c b_Steps_rowAbove 3 (some .long) R_Steps wd_Steps_rowAbove D (ct_tys cI cL cZ) tA tB A) (h : f_Steps_rowAbove p0 p1 v_left v_squareMember = some o_r) : ∀ (H : Heap) (locs : List Loc), va_P D vwCl [(a_this, .inr (3, [.ref a_left, .ref a_squareMember, .int v_size])), (a_left, .inl (cL, 36, .inr (.inl v_left))), (a_squareMember, .inl (cI, 6, .inl v_squareMember))] H → va_D A [(a_this, .inr (3, [.ref a_left, .ref a_squareMember, .int v_size])), (a_left, .inl (cL, 36, .inr (.inl v_left))), (a_squareMember, .inl (cI, 6, .inl v_squareMember))] → va_S A s.heap H locs → ∀ ls : Array Slot, lv_has ls 3 [(0, .ref a_this), (1, .int p0), (2, .int p1)] → W p l e (headSpec wd_Steps_rowAbove rm_Steps_rowAbove).room s m args below meth c H locs 0 0 (MQ below (ct_Ql D [(a_this, .inr (3, [.ref a_left, .ref a_squareMember, .int v_size])), (a_left, .inl (cL, 36, .inr (.inl v_left))), (a_squareMember, .inl (cI, 6, .inl v_squareMember))] A o_r) args s 0 0 A) (F0 m 0 ls []) := by
  obtain ⟨hx, hb, hr, hml, hown, hts, hK, hA, hT, hlocks, hZA, hZB, hTA, hTB, hnw⟩ := id cx
  intro H locs hP hD hS ls hl
  rw [f_Steps_rowAbove] at h
  refine lv_iload_n hx hb d_Steps_rowAbove_0 rfl (lv_at hl 2 rfl) ?_
  refine lv_aload_n hx hb d_Steps_rowAbove_1 rfl (lv_at hl 0 rfl) ?_
  refine va_get (D := D) (ci := 3) (v := .ref a_squareMember) (C := R_Steps) (T := T_Steps) (N := 3) hx hb hts (fun w h9 => ct_in (iw_Steps w h9)) hown hK hP 0 rfl rfl 1 (by decide) (hts _ (ct_in k_27)) (fun _ h9 => h9) rfl d_Steps_rowAbove_2 ?_
  refine lv_iload_n hx hb d_Steps_rowAbove_5 rfl (lv_at hl 1 rfl) ?_
  obtain ⟨hin, h⟩ := ct_chk h
  refine va_iald hx hb hK hP 2 0 rfl rfl hin d_Steps_rowAbove_6 ?_
  refine lv_icmp_ge (tgt := 14) hx hb d_Steps_rowAbove_7 (by decide) (fun hc => ?_) (fun hc => ?_)
  · rw [if_pos hc] at h
    refine lv_aload_n hx hb d_Steps_rowAbove_14 rfl (lv_at hl 0 rfl) ?_
    refine va_get (D := D) (ci := 3) (v := .ref a_left) (C := R_Steps) (T := T_Steps) (N := 3) hx hb hts (fun w h9 => ct_in (iw_Steps w h9)) hown hK hP 0 rfl rfl 0 (by decide) (hts _ (ct_in k_17)) (fun _ h9 => h9) rfl d_Steps_rowAbove_15 ?_
    refine lv_aload_n hx hb d_Steps_rowAbove_18 rfl (lv_at hl 0 rfl) ?_
    refine va_get (D := D) (ci := 3) (v := .ref a_squareMember) (C := R_Steps) (T := T_Steps) (N := 3) hx hb hts (fun w h9 => ct_in (iw_Steps w h9)) hown hK hP 0 rfl rfl 1 (by decide) (hts _ (ct_in k_27)) (fun _ h9 => h9) rfl d_Steps_rowAbove_19 ?_
    refine lv_iload_n hx hb d_Steps_rowAbove_22 rfl (lv_at hl 1 rfl) ?_
    obtain ⟨hin, h⟩ := ct_chk h
    refine va_iald hx hb hK hP 2 0 rfl rfl hin d_Steps_rowAbove_23 ?_
    refine lv_iload_n hx hb d_Steps_rowAbove_24 rfl (lv_at hl 2 rfl) ?_
    obtain ⟨r_1, ho, h⟩ := Option.bind_eq_some_iff.mp h
    refine ct_calli (wc := []) (wr := [(a_this, .inr (3, [.ref a_left, .ref a_squareMember, .int v_size])), (a_left, .inl (cL, 36, .inr (.inl v_left))), (a_squareMember, .inl (cI, 6, .inl v_squareMember))]) (wc' := []) (ws' := [(a_this, .inr (3, [.ref a_left, .ref a_squareMember, .int v_size])), (a_left, .inl (cL, 36, .inr (.inl v_left))), (a_squareMember, .inl (cI, 6, .inl v_squareMember))]) (va_runSN (As := [.int (v_squareMember p0.toNatClampNeg), .int p1]) (rest := [.ref a_left]) ⟨hx, hb, hml, hown, hts⟩ (c_Sq_cellOf l D cI cL cZ tA tB H.size (v_squareMember p0.toNatClampNeg) p1 r_1 _ rfl ho) ⟨va_cnB 2 hts (ct_good k_19) rfl rfl rfl (ct_nest_use n_2 hnw) (hts _ (ct_in k_20)) (by decide +kernel) ⟨Nat.le_of_ble_eq_true rfl, Nat.le_of_ble_eq_true rfl⟩, hts _ (ct_in k_21), trivial⟩ (ct_preS (wc := []) hP hD hK hS hA hT [] rfl (by decide)) rfl rfl hl.1 rfl (lv_room (Nat.le_of_ble_eq_true rfl)) d_Steps_rowAbove_25 ⟨Nat.zero_le _, Nat.zero_le _⟩) hP hD hS hA [] [0, 1, 2] rfl rfl (by decide) (by decide) [0, 1, 2] rfl (by decide) (fun H locs hP hD hS => ?_)
    obtain ⟨hin, h⟩ := ct_chk h
    refine va_lald hx hb hK hP 1 1 rfl rfl hin d_Steps_rowAbove_28 ?_
    cases h
    exact W.lret hx hb hr (fun t ht hW => ⟨⟨_, (), rfl, rfl, by rw [ht]; exact hP, hD⟩, hS.F ht⟩) hS.2.2 d_Steps_rowAbove_29
  · rw [if_neg hc] at h
    refine lv_lconst (v := 0) hx hb d_Steps_rowAbove_10 (by decide) ?_
    refine lv_goto (tgt := 29) hx hb d_Steps_rowAbove_11 (by decide) ?_
    cases h
    exact W.lret hx hb hr (fun t ht hW => ⟨⟨_, (), rfl, rfl, by rw [ht]; exact hP, hD⟩, hS.F ht⟩) hS.2.2 d_Steps_rowAbove_29
set_option maxHeartbeats 4000000 in
set_option maxRecDepth 100000 in
theorem c_Steps_rowAbove (l : Launch) (D : va_G) (cI cL cZ : ClassId) (tA tB sz : Nat) (a_this a_left a_squareMember : Nat) (p0 : Int32) (p1 : Int32) (v_size : Int32) (v_left : Nat → Int64) (v_squareMember : Nat → Int32) (o_r : Int64) (A : Nat → Prop) (hAe : A = va_A [(a_this, .inr (3, [.ref a_left, .ref a_squareMember, .int v_size])), (a_left, .inl (cL, 36, .inr (.inl v_left))), (a_squareMember, .inl (cI, 6, .inl v_squareMember))] sz) (h : f_Steps_rowAbove p0 p1 v_left v_squareMember = some o_r) : Met l y_Steps_rowAbove wd_Steps_rowAbove rm_Steps_rowAbove (ct_Pre D (ct_tys cI cL cZ) tA tB [(a_this, .inr (3, [.ref a_left, .ref a_squareMember, .int v_size])), (a_left, .inl (cL, 36, .inr (.inl v_left))), (a_squareMember, .inl (cI, 6, .inl v_squareMember))] sz [.ref a_this, .int p0, .int p1]) (ct_Ql D [(a_this, .inr (3, [.ref a_left, .ref a_squareMember, .int v_size])), (a_left, .inl (cL, 36, .inr (.inl v_left))), (a_squareMember, .inl (cI, 6, .inl v_squareMember))] A o_r) 0 0 A := by
  refine Met.ofW (cc := b_Steps_rowAbove) (maxL := 3) (ret := (some .long)) (by decide) rfl ?_
  intro p e s m args below meth c s₁ B hml hv
  obtain ⟨hargs, hsz, hP, hK, hD0, hT⟩ := hv
  subst hsz
  have hD := hD0.self (sz := s.heap.size)
  rw [← hAe] at hD hT
  have hA : ∀ q : Nat, s.heap.size ≤ q → A q := fun q h => by rw [hAe]; exact Or.inr h
  clear hAe
  have cx : ct_Cx p s m args meth c b_Steps_rowAbove 3 (some .long) R_Steps wd_Steps_rowAbove D (ct_tys cI cL cZ) tA tB A := ⟨B.exec, B.bytes, B.returns, hml, findClass_of_methodNamed B.named, atoms_spec (ws := wd_Steps_rowAbove) B.pre, hK, hA, hT, B.notSynchronized, hT.1, hT.2.1, hT.2.2.1, hT.2.2.2.1, hT.2.2.2.2⟩
  have hl := lv_entry ([.ref a_this, .int p0, .int p1]) (n := 3) (Nat.le_of_ble_eq_true rfl)
  rw [show entryFrame m args 3 = entryFrame m ([.ref a_this, .int p0, .int p1] : List Value).toArray 3 by rw [hargs], lg_entry_eq]
  exact w_Steps_rowAbove cx h _ _ hP hD va_S.rf _ hl
abbrev rm_Steps_rowBelow : Room := { frames := 2, cells := 0, slots := 0, locals := 42 }
abbrev wd_Steps_rowBelow : List Cond := .code y_Steps_rowBelow b_Steps_rowBelow 2 (some .long) :: ct_G
def f_Steps_rowBelow (p0 : Int32) (v_left : Nat → Int64) (v_squareMember : Nat → Int32) : Option (Int64) := ((f_Steps_pivot p0 v_left v_squareMember).bind (fun r_1 => some r_1))
set_option maxHeartbeats 4000000 in
set_option maxRecDepth 100000 in
theorem w_Steps_rowBelow {p : Program} {l : Launch} {e : Env} {s : State} {m : MethodId} {args : Array Value} {below : List Frame} {meth : Method} {c : Code} {D : va_G} {cI cL cZ : ClassId} {tA tB : Nat} {A : Nat → Prop} {a_this a_left a_squareMember : Nat} {p0 : Int32} {v_size : Int32} {v_left : Nat → Int64} {v_squareMember : Nat → Int32} {o_r : Int64} (cx : ct_Cx p s m args meth c b_Steps_rowBelow 2 (some .long) R_Steps wd_Steps_rowBelow D (ct_tys cI cL cZ) tA tB A) (h : f_Steps_rowBelow p0 v_left v_squareMember = some o_r) : ∀ (H : Heap) (locs : List Loc), va_P D vwCl [(a_this, .inr (3, [.ref a_left, .ref a_squareMember, .int v_size])), (a_left, .inl (cL, 36, .inr (.inl v_left))), (a_squareMember, .inl (cI, 6, .inl v_squareMember))] H → va_D A [(a_this, .inr (3, [.ref a_left, .ref a_squareMember, .int v_size])), (a_left, .inl (cL, 36, .inr (.inl v_left))), (a_squareMember, .inl (cI, 6, .inl v_squareMember))] → va_S A s.heap H locs → ∀ ls : Array Slot, lv_has ls 2 [(0, .ref a_this), (1, .int p0)] → W p l e (headSpec wd_Steps_rowBelow rm_Steps_rowBelow).room s m args below meth c H locs 0 0 (MQ below (ct_Ql D [(a_this, .inr (3, [.ref a_left, .ref a_squareMember, .int v_size])), (a_left, .inl (cL, 36, .inr (.inl v_left))), (a_squareMember, .inl (cI, 6, .inl v_squareMember))] A o_r) args s 0 0 A) (F0 m 0 ls []) := by
  obtain ⟨hx, hb, hr, hml, hown, hts, hK, hA, hT, hlocks, hZA, hZB, hTA, hTB, hnw⟩ := id cx
  intro H locs hP hD hS ls hl
  rw [f_Steps_rowBelow] at h
  refine lv_aload_n hx hb d_Steps_rowBelow_0 rfl (lv_at hl 0 rfl) ?_
  refine lv_iload_n hx hb d_Steps_rowBelow_1 rfl (lv_at hl 1 rfl) ?_
  obtain ⟨r_1, ho, h⟩ := Option.bind_eq_some_iff.mp h
  refine ct_calll (wc := [(a_this, .inr (3, [.ref a_left, .ref a_squareMember, .int v_size])), (a_left, .inl (cL, 36, .inr (.inl v_left))), (a_squareMember, .inl (cI, 6, .inl v_squareMember))]) (wr := []) (wc' := [(a_this, .inr (3, [.ref a_left, .ref a_squareMember, .int v_size])), (a_left, .inl (cL, 36, .inr (.inl v_left))), (a_squareMember, .inl (cI, 6, .inl v_squareMember))]) (ws' := [(a_this, .inr (3, [.ref a_left, .ref a_squareMember, .int v_size])), (a_left, .inl (cL, 36, .inr (.inl v_left))), (a_squareMember, .inl (cI, 6, .inl v_squareMember))]) (va_runV (As := [.int p0]) (rest := []) ⟨hx, hb, hml, hown, hts⟩ (c_Steps_pivot l D cI cL cZ tA tB H.size a_this a_left a_squareMember p0 v_size v_left v_squareMember r_1 _ rfl ho) (cwV 1 hts (ct_goodV k_35 k_33 k_34 k_23 k_32) rfl rfl rfl (by decide +kernel) ⟨Nat.le_of_ble_eq_true rfl, Nat.le_of_ble_eq_true rfl⟩) (ct_preV (wc := [(a_this, .inr (3, [.ref a_left, .ref a_squareMember, .int v_size])), (a_left, .inl (cL, 36, .inr (.inl v_left))), (a_squareMember, .inl (cI, 6, .inl v_squareMember))]) hP hD hK hS hA hT [0, 1, 2] rfl (by decide) (ci := 3) (q0 := 0) rfl rfl) rfl rfl hl.1 rfl (lv_room (Nat.le_of_ble_eq_true rfl)) d_Steps_rowBelow_2 ⟨Nat.zero_le _, Nat.zero_le _⟩) hP hD hS hA [0, 1, 2] [] rfl rfl (by decide) (by decide) [0, 1, 2] rfl (by decide) (fun H locs hP hD hS => ?_)
  cases h
  exact W.lret hx hb hr (fun t ht hW => ⟨⟨_, (), rfl, rfl, by rw [ht]; exact hP, hD⟩, hS.F ht⟩) hS.2.2 d_Steps_rowBelow_5
set_option maxHeartbeats 4000000 in
set_option maxRecDepth 100000 in
theorem c_Steps_rowBelow (l : Launch) (D : va_G) (cI cL cZ : ClassId) (tA tB sz : Nat) (a_this a_left a_squareMember : Nat) (p0 : Int32) (v_size : Int32) (v_left : Nat → Int64) (v_squareMember : Nat → Int32) (o_r : Int64) (A : Nat → Prop) (hAe : A = va_A [(a_this, .inr (3, [.ref a_left, .ref a_squareMember, .int v_size])), (a_left, .inl (cL, 36, .inr (.inl v_left))), (a_squareMember, .inl (cI, 6, .inl v_squareMember))] sz) (h : f_Steps_rowBelow p0 v_left v_squareMember = some o_r) : Met l y_Steps_rowBelow wd_Steps_rowBelow rm_Steps_rowBelow (ct_Pre D (ct_tys cI cL cZ) tA tB [(a_this, .inr (3, [.ref a_left, .ref a_squareMember, .int v_size])), (a_left, .inl (cL, 36, .inr (.inl v_left))), (a_squareMember, .inl (cI, 6, .inl v_squareMember))] sz [.ref a_this, .int p0]) (ct_Ql D [(a_this, .inr (3, [.ref a_left, .ref a_squareMember, .int v_size])), (a_left, .inl (cL, 36, .inr (.inl v_left))), (a_squareMember, .inl (cI, 6, .inl v_squareMember))] A o_r) 0 0 A := by
  refine Met.ofW (cc := b_Steps_rowBelow) (maxL := 2) (ret := (some .long)) (by decide) rfl ?_
  intro p e s m args below meth c s₁ B hml hv
  obtain ⟨hargs, hsz, hP, hK, hD0, hT⟩ := hv
  subst hsz
  have hD := hD0.self (sz := s.heap.size)
  rw [← hAe] at hD hT
  have hA : ∀ q : Nat, s.heap.size ≤ q → A q := fun q h => by rw [hAe]; exact Or.inr h
  clear hAe
  have cx : ct_Cx p s m args meth c b_Steps_rowBelow 2 (some .long) R_Steps wd_Steps_rowBelow D (ct_tys cI cL cZ) tA tB A := ⟨B.exec, B.bytes, B.returns, hml, findClass_of_methodNamed B.named, atoms_spec (ws := wd_Steps_rowBelow) B.pre, hK, hA, hT, B.notSynchronized, hT.1, hT.2.1, hT.2.2.1, hT.2.2.2.1, hT.2.2.2.2⟩
  have hl := lv_entry ([.ref a_this, .int p0]) (n := 2) (Nat.le_of_ble_eq_true rfl)
  rw [show entryFrame m args 2 = entryFrame m ([.ref a_this, .int p0] : List Value).toArray 2 by rw [hargs], lg_entry_eq]
  exact w_Steps_rowBelow cx h _ _ hP hD va_S.rf _ hl
