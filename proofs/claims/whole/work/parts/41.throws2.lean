-- what a method that throws finds at its start
abbrev cx_IAE : String := "java/lang/IllegalArgumentException"
abbrev cx_IOB : String := "java/lang/IndexOutOfBoundsException"
abbrev cx_ISE : String := "java/lang/IllegalStateException"
abbrev cx_up : List String := ["java/lang/RuntimeException", "java/lang/Exception"]
def cx_F : List Cond := [.castable cx_IAE cx_IAE, .castable cx_IOB cx_IOB, .castable cx_ISE cx_ISE, .declares ⟨"java/lang/RuntimeException", "<init>", "(Ljava/lang/String;)V"⟩, .declares ⟨"java/lang/Exception", "<init>", "(Ljava/lang/String;)V"⟩, .declares ⟨"java/lang/Throwable", "<init>", "(Ljava/lang/String;)V"⟩,
  .not (.castable cx_IAE cx_IOB), .not (.castable cx_IAE cx_ISE), .not (.castable cx_IOB cx_ISE), .not (.castable cx_IOB cx_IAE), .not (.castable cx_ISE cx_IAE), .not (.castable cx_ISE cx_IOB)]
def cx_face : Cond → Bool
  | .castable .. => true
  | .declares _ => true
  | .not (.castable ..) => true
  | _ => false
theorem cx_F_face : ∀ w ∈ cx_F, cx_face w = true := by decide
theorem cx_face_warm {w : Cond} (h : cx_face w = true) {s U : State} (hW : s.WarmedH U.vm) (hZ : va_Nw w s) : va_Nw w U := by
  cases w with
  | castable a b => exact va_Nw.warmC hW hZ
  | declares x => exact va_Nw.warmD hW hZ
  | not v =>
    cases v with
    | castable a b => exact Cond.castAtom_setVm (args := #[]) hW.alike (.not (.castable a b)) rfl hZ
    | _ => cases h
  | _ => cases h
theorem cx_face_use {w : Cond} (h : cx_face w = true) {U : State} {a : Array Value} (hZ : va_Nw w U) : w.before a U = true := by
  cases w with
  | castable x y => exact va_Nw.use rfl hZ
  | declares x => exact va_Nw.use rfl hZ
  | not v =>
    cases v with
    | castable x y => exact hZ
    | _ => cases h
  | _ => cases h
theorem cx_face_same {w : Cond} (h : cx_face w = true) {u U : State} (hv : u.vm = U.vm) (hZ : va_Nw w u) : va_Nw w U := cx_face_warm h (by rw [← hv]; exact State.WarmedH.refl u) hZ
def cx_strs : List (Nat × String) := [(58, "no such power"), (67, "no such number of a polynomial"), (85, "no such member"), (88, "no such letter"), (99, "no such number of a table"), (114, "no squares are there"), (121, "no such square"), (126, "no such part"), (139, "no such square or member"), (151, "most is not 0 to 2"), (164, "x or y is not -100 to 100")]
/-- where a static field lies -/
def cx_L (C n d : String) (A : Nat → Prop) (U : State) (H : Heap) : Prop := ∃ (c : ClassId) (k : Class) (i : Nat) (f : Field) (a : Nat) (cell : Cell), U.vm.findClass C = some c ∧ U.fieldFound? C n d = some (c, k, i, f) ∧ f.isStatic = true ∧ k.statics = some a ∧ H[a]? = some cell ∧ cell.vm.isStatics = true ∧ cell.cls = c ∧ f.slot < cell.slots.size ∧ k.staticTypes[f.slot]? = some f.type ∧ ¬ A a
theorem cx_L.moved {C n d : String} {A : Nat → Prop} {u U : State} {H : Heap} (hvm : u.vm.Alike U.vm) (h : cx_L C n d A u H) : cx_L C n d A U H := by
  obtain ⟨c, k, i, f, a, cell, h0, h1, h2, h4, h5, h6, h7, h8, h9, h10⟩ := h
  obtain ⟨k', hi', he⟩ := State.fieldFound?_setVm hvm h1
  exact ⟨c, k', i, f, a, cell, by rw [hvm.findClass]; exact h0, hi', h2, by rw [he]; exact h4, h5, h6, h7, h8, by rw [he]; exact h9, h10⟩
theorem cx_L.kept {C n d : String} {A : Nat → Prop} {U : State} {H H1 : Heap} (h : cx_L C n d A U H) (hq : ∀ a : Nat, a < H.size → ¬ A a → H1[a]? = H[a]?) : cx_L C n d A U H1 := by
  obtain ⟨c, k, i, f, a, cell, h0, h1, h2, h4, h5, h6, h7, h8, h9, h10⟩ := h
  exact ⟨c, k, i, f, a, cell, h0, h1, h2, h4, by rw [hq a (Array.getElem?_eq_some_iff.mp h5).1 h10]; exact h5, h6, h7, h8, h9, h10⟩
theorem cx_L.narrow {C n d : String} {A B : Nat → Prop} {U : State} {H : Heap} (h : cx_L C n d A U H) (hAB : ∀ q, B q → A q) : cx_L C n d B U H := by
  obtain ⟨c, k, i, f, a, cell, h0, h1, h2, h4, h5, h6, h7, h8, h9, h10⟩ := h
  exact ⟨c, k, i, f, a, cell, h0, h1, h2, h4, h5, h6, h7, h8, h9, fun z => h10 (hAB a z)⟩
theorem cx_L.of {C n d : String} {A : Nat → Prop} {s : State} {args : Array Value} (hl : (Cond.laysStatic C n d).before args s = true) (hA : ∀ a : Nat, a < s.heap.size → ¬ A a) : cx_L C n d A s s.heap := by
  obtain ⟨c, k, i, f, a, cell, hc, hi, hst, ha, hcell, hs, hcls, hlt, hty⟩ := Cond.laysStatic_spec hl
  exact ⟨c, k, i, f, a, cell, hc, hi, hst, ha, hcell, hs, hcls, hlt, hty, hA a (Array.getElem?_eq_some_iff.mp hcell).1⟩
theorem cx_L.use {C n d : String} {A : Nat → Prop} {U : State} {args : Array Value} (h : cx_L C n d A U U.heap) : (Cond.laysStatic C n d).before args U = true := by
  obtain ⟨c, k, i, f, a, cell, h0, h1, h2, h4, h5, h6, h7, h8, h9, h10⟩ := h
  simp [Cond.before, Cond.holds, Cond.value, h0, h1, h2, h4, h5, h6, h7, h8, h9]
def cx_B (A : Nat → Prop) (U : State) (H : Heap) : Prop := va_Zq Bundle.tN "UNASSIGNED_STACK" Bundle.steD A U H ∧ va_Zq Bundle.tN "SUPPRESSED_SENTINEL" Bundle.listD A U H ∧ (∀ w ∈ cx_strs, ∃ q, vk_R "SquareSums" w.1 w.2 q U) ∧ (∀ w ∈ cx_F, va_Nw w U) ∧ cx_L Bundle.tN "UNASSIGNED_STACK" Bundle.steD A U H ∧ cx_L Bundle.tN "SUPPRESSED_SENTINEL" Bundle.listD A U H
theorem cx_B.moved {A : Nat → Prop} {u U : State} {H : Heap} (hW : u.WarmedH U.vm) (h : cx_B A u H) : cx_B A U H :=
  ⟨h.1.moved hW.alike, h.2.1.moved hW.alike, fun w hw => by obtain ⟨q, hq⟩ := h.2.2.1 w hw; exact ⟨q, hq.warm hW⟩, fun w hw => cx_face_warm (cx_F_face w hw) hW (h.2.2.2.1 w hw), h.2.2.2.2.1.moved hW.alike, h.2.2.2.2.2.moved hW.alike⟩
theorem cx_B.blind {A : Nat → Prop} {U : State} {H : Heap} {g : JFrame} {mk : MethodId} {a : Array Value} (h : cx_B A U H) : cx_B A (U.calling g mk a) H :=
  ⟨va_Zq.moved (U := U.calling g mk a) (Vm.Alike.refl U.vm) h.1, va_Zq.moved (U := U.calling g mk a) (Vm.Alike.refl U.vm) h.2.1, fun w hw => by obtain ⟨q, hq⟩ := h.2.2.1 w hw; exact ⟨q, vk_R.same (U := U.calling g mk a) rfl hq⟩, fun w hw => cx_face_same (u := U) (U := U.calling g mk a) (cx_F_face w hw) rfl (h.2.2.2.1 w hw), cx_L.moved (U := U.calling g mk a) (Vm.Alike.refl U.vm) h.2.2.2.2.1, cx_L.moved (U := U.calling g mk a) (Vm.Alike.refl U.vm) h.2.2.2.2.2⟩
theorem cx_B.kept {A : Nat → Prop} {U : State} {H H1 : Heap} (h : cx_B A U H) (hq : ∀ a : Nat, a < H.size → ¬ A a → H1[a]? = H[a]?) : cx_B A U H1 := ⟨h.1.kept hq, h.2.1.kept hq, h.2.2.1, h.2.2.2.1, h.2.2.2.2.1.kept hq, h.2.2.2.2.2.kept hq⟩
theorem cx_B.narrow {A B : Nat → Prop} {U : State} {H : Heap} (h : cx_B A U H) (hAB : ∀ q, B q → A q) : cx_B B U H := ⟨h.1.narrow hAB, h.2.1.narrow hAB, h.2.2.1, h.2.2.2.1, h.2.2.2.2.1.narrow hAB, h.2.2.2.2.2.narrow hAB⟩
theorem cx_isRef {C n d : String} {A : Nat → Prop} {U : State} {args : Array Value} (h : va_Zq C n d A U U.heap) : (Cond.isRef (.static C n d)).before args U = true := by
  rcases h with h | ⟨t, h⟩
  · obtain ⟨cf, kf, fi, f, a, cell, h1, h2, h3, h4, h5, h6, h7, -⟩ := h
    simp [Cond.before, Cond.holds, Cond.value, Term.eval, State.fieldNamed?, h1, h2, h4, h5, h6, h7]
  · obtain ⟨cf, kf, fi, f, a, cell, h1, h2, h3, h4, h5, h6, h7, -⟩ := h
    simp [Cond.before, Cond.holds, Cond.value, Term.eval, State.fieldNamed?, h1, h2, h4, h5, h6, h7]
def cx_ok (a : Cond) : Bool := (decide (a ∈ lw_tbl) && goodWord a) || decide (a ∈ cx_F) || decide (a = .isRef (.static Bundle.tN "UNASSIGNED_STACK" Bundle.steD)) || decide (a = .isRef (.static Bundle.tN "SUPPRESSED_SENTINEL" Bundle.listD)) || decide (a = .laysStatic Bundle.tN "UNASSIGNED_STACK" Bundle.steD) || decide (a = .laysStatic Bundle.tN "SUPPRESSED_SENTINEL" Bundle.listD)
theorem cx_own {L : List Cond} (hL : L.all cx_ok = true) {x : Cond} {args : Array Value} {s : State} {A : Nat → Prop} (hts : ∀ w ∈ x :: ct_G, w.before args s = true) (hB : cx_B A s s.heap) : ∀ a ∈ L, a.before args s = true := by
  intro a ha
  have h := List.all_eq_true.mp hL a ha
  simp only [cx_ok, Bool.or_eq_true, Bool.and_eq_true, decide_eq_true_eq] at h
  rcases h with ((((⟨h1, h2⟩ | h) | rfl) | rfl) | rfl) | rfl
  · exact hts a (ct_in (ct_ofG h1 h2))
  · exact cx_face_use (cx_F_face a h) (hB.2.2.2.1 a h)
  · exact cx_isRef hB.1
  · exact cx_isRef hB.2.1
  · exact hB.2.2.2.2.1.use
  · exact hB.2.2.2.2.2.use
set_option maxRecDepth 100000 in
theorem cx_IAE_ok : (Bundle.ownAtoms "SquareSums" 60 cx_IAE cx_up).all cx_ok = true := by decide +kernel
set_option maxRecDepth 100000 in
theorem cx_IOB_ok : (Bundle.ownAtoms "SquareSums" 87 cx_IOB cx_up).all cx_ok = true := by decide +kernel
set_option maxRecDepth 100000 in
theorem cx_ISE_ok : (Bundle.ownAtoms "SquareSums" 116 cx_ISE cx_up).all cx_ok = true := by decide +kernel
def cx_X : Nat → String
  | 1 => cx_IAE
  | 2 => cx_IOB
  | _ => cx_ISE
def cx_Pre (D : va_G) (tys : List (ClassId × FieldType)) (tA tB : Nat) (ws : va_W) (sz : Nat) (av : List Value) : Array Value → State → Prop :=
  va_Pc av (fun U => U.heap.size = sz ∧ va_P D vwCl ws U.heap ∧ va_K D vwCl tys U ∧ va_D (fun _ => True) ws ∧ ct_T tA tB (va_A ws sz) U U.heap ∧ cx_B (va_A ws sz) U U.heap)
theorem cx_blind {D : va_G} {tys : List (ClassId × FieldType)} {tA tB : Nat} {ws : va_W} {sz : Nat} {av : List Value} : FrameBlind (cx_Pre D tys tA tB ws sz av) := by
  intro a U g mk q
  obtain ⟨q0, q1, qP, qK, qD, qT, qB⟩ := q
  exact ⟨q0, q1, qP, va_K.moved (u := U) (U := U.calling g mk a) (Vm.Alike.refl U.vm) qK, qD, qT.blind, qB.blind⟩
section CTX5
variable {p : Program} {l : Launch} {e : Env} {R : Room} {s : State} {m : MethodId} {args : Array Value} {below : List Frame} {meth : Method} {c : Code} {H : Heap} {locs : List Loc} {cells slots : Nat} {Q : State → Prop}
variable {pc : Nat} {ls : Array Slot} {rest st0 : List Value} {a : Array Value} {A : Nat → Prop} {D : va_G} {tys : List (ClassId × FieldType)} {tA tB : Nat} {ws wc : va_W} {av As : List Value}
theorem cx_callp {r0 : Int32} (hr : va_Run p l e R s m args below meth c H locs cells slots 0 0 (F0 m pc ls st0) rest (QcRead r0 a) (fun _ => False)) (kk : W p l e R s m args below meth c H locs cells slots Q (F0 m (pc + 3) ls (.int r0 :: rest))) : W p l e R s m args below meth c H locs cells slots Q (F0 m pc ls st0) := by
  intro T hT X
  obtain ⟨v, st₀, t, T', L, h0, X', hL, e1, e2, ⟨hv, hh⟩, st⟩ := hr T hT X
  cases hv
  have hn : L = [] := List.eq_nil_iff_forall_not_mem.mpr (fun q hq => hL q hq)
  subst hn
  rw [List.append_nil] at X'
  obtain ⟨t2, a1, b1⟩ := kk T' (by rw [e1, hh, h0]) X'
  exact ⟨t2, st t2 a1, b1⟩
theorem cx_preV {b q0 ci : Nat} {q : vw_C} {fs : List Value} (hP : va_P D vwCl ws H) (hD : va_D A ws) (hK : va_K D vwCl tys s) (hS : va_S A s.heap H locs) (hA : ∀ q, s.heap.size ≤ q → A q) (hT : ct_T tA tB A s s.heap) (hB : cx_B A s s.heap) (isC : List Nat) (hC : isC.map (fun i => ws[i]?) = wc.map some) (hn : va_nd isC = true) (hc : vwCl[ci]? = some q) (he : wc[q0]? = some (b, .inr (ci, fs))) :
    PreV s H q.1 b (cx_Pre D tys tA tB wc H.size (.ref b :: As)) As := by
  refine ⟨cx_blind, va_recv hK (hP.sub isC (ct_fm hC)) hc he, fun U hU hW => ?_⟩
  obtain ⟨h0, h1, h2, h3, h4, h5⟩ := ct_pre (av := .ref b :: As) hP hD hK hS hA hT isC hC hn U hU hW
  refine ⟨h0, h1, h2, h3, h4, h5, ?_⟩
  rw [hU]
  exact ((hB.kept hS.2.1).narrow (va_free (wc := wc) hD hS hA isC hC)).moved hW
end CTX5
