-- the words of every contract: one list of words for all methods, the tables of powers, the worlds behind a call
theorem ct_chk {α : Type} {c : Prop} [Decidable c] {x : Option α} {o : α} (h : (if c then none else x) = some o) : ¬ c ∧ x = some o := by
  by_cases hc : c
  · rw [if_pos hc] at h; cases h
  · rw [if_neg hc] at h; exact ⟨hc, h⟩
def ct_G : List Cond := lw_tbl.filter goodWord
theorem ct_ofG {w : Cond} (h : w ∈ lw_tbl) (hg : goodWord w = true) : w ∈ ct_G := List.mem_filter.mpr ⟨h, hg⟩
theorem ct_in {w x : Cond} (h : w ∈ ct_G) : w ∈ x :: ct_G := List.mem_cons_of_mem _ h
theorem ct_gw {w : Cond} (h : w ∈ ct_G) : (w.onTables && w.keeps) = true ∨ ∃ ty, w = .arrayClass ty := good_of_word (List.mem_filter.mp h).2
theorem ct_good {x w : Cond} (h : w ∈ ct_G) : GoodIn (x :: ct_G) (w :: ct_G) := by
  intro v hv
  rcases List.mem_cons.mp hv with rfl | hv
  · exact ⟨ct_in h, ct_gw h⟩
  · exact ⟨ct_in hv, ct_gw hv⟩
theorem ct_goodL {x w : Cond} {L : List Cond} (hL : ∀ v ∈ L, v ∈ ct_G) (h : w ∈ ct_G) : GoodIn (x :: ct_G) (L ++ w :: ct_G) := by
  intro v hv
  rcases List.mem_append.mp hv with hv | hv
  · exact ⟨ct_in (hL v hv), ct_gw (hL v hv)⟩
  · exact ct_good h v hv
theorem ct_goodV {x w : Cond} {own C : String} {idx : Nat} {y : MethodName} (h1 : Cond.methodLink own idx y ∈ ct_G) (h2 : Cond.instanceMethod y ∈ ct_G) (h3 : Cond.selects C y y ∈ ct_G) (h4 : Cond.initialized C ∈ ct_G) (h : w ∈ ct_G) : GoodIn (x :: ct_G) (wsV own idx C y (w :: ct_G)) := by
  refine ct_goodL (fun v hv => ?_) h
  simp only [List.mem_cons, List.not_mem_nil, or_false] at hv
  rcases hv with rfl | rfl | rfl | rfl <;> assumption
theorem ct_goodS {x w : Cond} {own : String} {idx : Nat} {y : MethodName} (h1 : Cond.methodLink own idx y ∈ ct_G) (h2 : Cond.static y ∈ ct_G) (h4 : Cond.initialized y.cls ∈ ct_G) (h : w ∈ ct_G) : GoodIn (x :: ct_G) (va_wsS own idx y (w :: ct_G)) := by
  refine ct_goodL (fun v hv => ?_) h
  simp only [List.mem_cons, List.not_mem_nil, or_false] at hv
  rcases hv with rfl | rfl | rfl <;> assumption
def ct_nest : Cond → Bool
  | .fieldLinkNest .. => true
  | .methodLinkNest .. => true
  | _ => false
def ct_N : List Cond := lw_tbl.filter ct_nest
theorem ct_ofN {w : Cond} (h : w ∈ lw_tbl) (hg : ct_nest w = true) : w ∈ ct_N := List.mem_filter.mpr ⟨h, hg⟩
theorem ct_nest_warm {w : Cond} (h : ct_nest w = true) {s U : State} (hW : s.WarmedH U.vm) (hZ : va_Nw w s) : va_Nw w U := by
  cases w <;> first | (simp [ct_nest] at h; done) | exact va_Nw.warmF hW hZ | exact va_Nw.warmM hW hZ
theorem ct_nest_same {w : Cond} (h : ct_nest w = true) {u U : State} (hv : u.vm = U.vm) (hZ : va_Nw w u) : va_Nw w U := by
  cases w <;> first | (simp [ct_nest] at h; done) | exact va_Nw.same rfl hv hZ
theorem ct_nest_use {w : Cond} (hn : w ∈ ct_N) {U : State} {a : Array Value} (h : ∀ w ∈ ct_N, va_Nw w U) : w.before a U = true := by
  have h1 := (List.mem_filter.mp hn).2
  have h2 := h w hn
  cases w <;> first | (simp [ct_nest] at h1; done) | exact va_Nw.use rfl h2
abbrev ct_tys (cI cL cZ : ClassId) : List (ClassId × FieldType) := [(cI, .int), (cL, .long), (cZ, .boolean)]
def pwA : Nat → Int32 := fun k => ([0, 1, 0, 2, 1, 0, 3, 2, 1, 0, 4, 3, 2, 1, 0] : List Int32).getD k 0
def pwB : Nat → Int32 := fun k => ([0, 0, 1, 0, 1, 2, 0, 1, 2, 3, 0, 1, 2, 3, 4] : List Int32).getD k 0
/-- the tables of the powers, where they lie, and the words of nest mates -/
def ct_T (tA tB : Nat) (A : Nat → Prop) (U : State) (H : Heap) : Prop :=
  va_Z "SquareSums" "POWER_A" "[I" (.ref tA) A U H ∧ va_Z "SquareSums" "POWER_B" "[I" (.ref tB) A U H ∧ va_T .int tA 15 (fun j => .int (pwA j)) A U H ∧ va_T .int tB 15 (fun j => .int (pwB j)) A U H ∧ ∀ w ∈ ct_N, va_Nw w U
theorem ct_T.moved {tA tB : Nat} {A : Nat → Prop} {u U : State} {H : Heap} (hW : u.WarmedH U.vm) (h : ct_T tA tB A u H) : ct_T tA tB A U H :=
  ⟨h.1.moved hW.alike, h.2.1.moved hW.alike, h.2.2.1.moved hW.alike, h.2.2.2.1.moved hW.alike, fun w hw => ct_nest_warm (List.mem_filter.mp hw).2 hW (h.2.2.2.2 w hw)⟩
theorem ct_T.blind {tA tB : Nat} {A : Nat → Prop} {U : State} {H : Heap} {g : JFrame} {mk : MethodId} {a : Array Value} (h : ct_T tA tB A U H) : ct_T tA tB A (U.calling g mk a) H :=
  ⟨va_Z.moved (U := U.calling g mk a) (Vm.Alike.refl U.vm) h.1, va_Z.moved (U := U.calling g mk a) (Vm.Alike.refl U.vm) h.2.1, va_T.moved (U := U.calling g mk a) (Vm.Alike.refl U.vm) h.2.2.1, va_T.moved (U := U.calling g mk a) (Vm.Alike.refl U.vm) h.2.2.2.1, fun w hw => ct_nest_same (u := U) (U := U.calling g mk a) (List.mem_filter.mp hw).2 rfl (h.2.2.2.2 w hw)⟩
theorem ct_T.kept {tA tB : Nat} {A : Nat → Prop} {U : State} {H H1 : Heap} (h : ct_T tA tB A U H) (hq : ∀ a : Nat, a < H.size → ¬ A a → H1[a]? = H[a]?) : ct_T tA tB A U H1 :=
  ⟨h.1.kept hq, h.2.1.kept hq, h.2.2.1.kept hq, h.2.2.2.1.kept hq, h.2.2.2.2⟩
theorem ct_T.narrow {tA tB : Nat} {A B : Nat → Prop} {U : State} {H : Heap} (h : ct_T tA tB A U H) (hAB : ∀ q, B q → A q) : ct_T tA tB B U H :=
  ⟨h.1.narrow hAB, h.2.1.narrow hAB, h.2.2.1.narrow hAB, h.2.2.2.1.narrow hAB, h.2.2.2.2⟩
/-- a method's start -/
def ct_Pre (D : va_G) (tys : List (ClassId × FieldType)) (tA tB : Nat) (ws : va_W) (sz : Nat) (av : List Value) : Array Value → State → Prop :=
  va_Pc av (fun U => U.heap.size = sz ∧ va_P D vwCl ws U.heap ∧ va_K D vwCl tys U ∧ va_D (fun _ => True) ws ∧ ct_T tA tB (va_A ws sz) U U.heap)
theorem ct_blind {D : va_G} {tys : List (ClassId × FieldType)} {tA tB : Nat} {ws : va_W} {sz : Nat} {av : List Value} : FrameBlind (ct_Pre D tys tA tB ws sz av) := by
  intro a U g mk q
  obtain ⟨q0, q1, qP, qK, qD, qT⟩ := q
  exact ⟨q0, q1, qP, va_K.moved (u := U) (U := U.calling g mk a) (Vm.Alike.refl U.vm) qK, qD, qT.blind⟩
/-- a method's end: the cells that it had, with what they hold now -/
def ct_B (D : va_G) (ws : va_W) (A : Nat → Prop) : Unit → State → Prop := fun _ t => va_P D vwCl ws t.heap ∧ va_D A ws
def ct_Qi (D : va_G) (ws : va_W) (A : Nat → Prop) (r0 : Int32) : Array Value → State → Outcome → State → Prop := va_Qi (S := Unit) (fun r _ => r = r0) (ct_B D ws A) A
def ct_Ql (D : va_G) (ws : va_W) (A : Nat → Prop) (r0 : Int64) : Array Value → State → Outcome → State → Prop := va_Ql (S := Unit) (fun r _ => r = r0) (ct_B D ws A) A
def ct_Qv (D : va_G) (ws : va_W) (A : Nat → Prop) : Array Value → State → Outcome → State → Prop := va_Qv (S := Unit) (fun _ => True) (ct_B D ws A) A
theorem ct_fm {α β : Type} {f : α → Option β} {l : List α} {w : List β} (h : l.map f = w.map some) : l.filterMap f = w := by
  have h1 : l.filterMap f = (l.map f).filterMap id := by rw [List.filterMap_map]; rfl
  rw [h1, h, List.filterMap_map]
  simp
/-- what holds all along a method's walk -/
def ct_Cx (p : Program) (s : State) (m : MethodId) (args : Array Value) (meth : Method) (c : Code) (cc : ByteArray) (nL : Nat) (ret : Option FieldType) (own : String) (Ts : List Cond) (D : va_G) (tys : List (ClassId × FieldType)) (tA tB : Nat) (A : Nat → Prop) : Prop :=
  p.tables.exec = Jvm.exec ∧ c.code = cc ∧ meth.sig.returnType = ret ∧ c.maxLocals = nL ∧ s.vm.findClass own = some m.cls ∧ (∀ w ∈ Ts, w.before args s = true) ∧ va_K D vwCl tys s ∧ (∀ q : Nat, s.heap.size ≤ q → A q) ∧ ct_T tA tB A s s.heap ∧ meth.locks = false ∧
  va_Z "SquareSums" "POWER_A" "[I" (.ref tA) A s s.heap ∧ va_Z "SquareSums" "POWER_B" "[I" (.ref tB) A s s.heap ∧ va_T .int tA 15 (fun j => .int (pwA j)) A s s.heap ∧ va_T .int tB 15 (fun j => .int (pwB j)) A s s.heap ∧ ∀ w ∈ ct_N, va_Nw w s
section CT
variable {p : Program} {l : Launch} {e : Env} {R : Room} {s : State} {m : MethodId} {args : Array Value} {below : List Frame} {meth : Method} {c : Code} {H : Heap} {locs : List Loc} {cells slots : Nat} {Q : State → Prop}
variable {pc : Nat} {ls : Array Slot} {rest st0 : List Value} {a : Array Value} {A : Nat → Prop} {D : va_G} {tys : List (ClassId × FieldType)} {tA tB : Nat} {ws wc wr wc' ws' : va_W} {av As : List Value}
theorem ct_pre (hP : va_P D vwCl ws H) (hD : va_D A ws) (hK : va_K D vwCl tys s) (hS : va_S A s.heap H locs) (hA : ∀ q, s.heap.size ≤ q → A q) (hT : ct_T tA tB A s s.heap) (isC : List Nat) (hC : isC.map (fun i => ws[i]?) = wc.map some) (hn : va_nd isC = true) :
    ∀ U : State, U.heap = H → s.WarmedH U.vm → ct_Pre D tys tA tB wc H.size av av.toArray U := by
  intro U hU hW
  have hF := va_free (wc := wc) hD hS hA isC hC
  refine ⟨rfl, by rw [hU], ?_, va_K.moved hW.alike hK, (hD.sub isC hn hC).weaken (fun _ _ _ _ => trivial), ?_⟩
  · rw [hU]; exact hP.sub isC (ct_fm hC)
  · rw [hU]; exact ((hT.kept hS.2.1).narrow hF).moved hW
theorem ct_preS (hP : va_P D vwCl ws H) (hD : va_D A ws) (hK : va_K D vwCl tys s) (hS : va_S A s.heap H locs) (hA : ∀ q, s.heap.size ≤ q → A q) (hT : ct_T tA tB A s s.heap) (isC : List Nat) (hC : isC.map (fun i => ws[i]?) = wc.map some) (hn : va_nd isC = true) :
    PreS s H (ct_Pre D tys tA tB wc H.size As) As := ⟨ct_blind, ct_pre hP hD hK hS hA hT isC hC hn⟩
theorem ct_preW {b q0 ci : Nat} {q : vw_C} {fs : List Value} (hP : va_P D vwCl ws H) (hD : va_D A ws) (hK : va_K D vwCl tys s) (hS : va_S A s.heap H locs) (hA : ∀ q, s.heap.size ≤ q → A q) (hT : ct_T tA tB A s s.heap) (isC : List Nat) (hC : isC.map (fun i => ws[i]?) = wc.map some) (hn : va_nd isC = true) (hc : vwCl[ci]? = some q) (he : ws[q0]? = some (b, .inr (ci, fs))) :
    PreV s H q.1 b (ct_Pre D tys tA tB wc H.size (.ref b :: As)) As := ⟨ct_blind, va_recv hK hP hc he, ct_pre hP hD hK hS hA hT isC hC hn⟩
theorem ct_preV {b q0 ci : Nat} {q : vw_C} {fs : List Value} (hP : va_P D vwCl ws H) (hD : va_D A ws) (hK : va_K D vwCl tys s) (hS : va_S A s.heap H locs) (hA : ∀ q, s.heap.size ≤ q → A q) (hT : ct_T tA tB A s s.heap) (isC : List Nat) (hC : isC.map (fun i => ws[i]?) = wc.map some) (hn : va_nd isC = true) (hc : vwCl[ci]? = some q) (he : wc[q0]? = some (b, .inr (ci, fs))) :
    PreV s H q.1 b (ct_Pre D tys tA tB wc H.size (.ref b :: As)) As := ⟨ct_blind, va_recv hK (hP.sub isC (ct_fm hC)) hc he, ct_pre hP hD hK hS hA hT isC hC hn⟩
theorem ct_back {H1 : Heap} {t : State} (ht : t.heap = H1) (hB : ct_B D wc' (va_A wc H.size) () t) (hk1 : ∀ q : Nat, q < H.size → ¬ va_A wc H.size q → H1[q]? = H[q]?) (hP : va_P D vwCl ws H) (hD : va_D A ws) (hF : ∀ q, va_A wc H.size q → A q) (isC isR : List Nat) (hC : isC.map (fun i => ws[i]?) = wc.map some) (hR : isR.map (fun i => ws[i]?) = wr.map some) (hn : va_nd isR = true) (hdis : ∀ i ∈ isR, i ∉ isC) (ks : List Nat) (hks : ks.map (fun i => (wr ++ wc')[i]?) = ws'.map some) (hnd : va_nd ks = true) : va_P D vwCl ws' H1 ∧ va_D A ws' := by
  obtain ⟨hP1, hD1⟩ := hB
  rw [ht] at hP1
  obtain ⟨hP2, hD2⟩ := va_join (wr := wr) (w1 := wc') hP hD isC isR hC hR hn hdis hk1 hF hP1 hD1
  exact ⟨hP2.sub ks (ct_fm hks), hD2.sub ks hnd hks⟩
theorem ct_calli {r0 : Int32} (hr : va_Run p l e R s m args below meth c H locs cells slots 0 0 (F0 m pc ls st0) rest (ct_Qi D wc' (va_A wc H.size) r0 a) (va_A wc H.size)) (hP : va_P D vwCl ws H) (hD : va_D A ws) (hS : va_S A s.heap H locs) (hA : ∀ q, s.heap.size ≤ q → A q) (isC isR : List Nat) (hC : isC.map (fun i => ws[i]?) = wc.map some) (hR : isR.map (fun i => ws[i]?) = wr.map some) (hn : va_nd isR = true) (hdis : ∀ i ∈ isR, i ∉ isC) (ks : List Nat) (hks : ks.map (fun i => (wr ++ wc')[i]?) = ws'.map some) (hnd : va_nd ks = true)
    (kk : ∀ (H1 : Heap) (locs1 : List Loc), va_P D vwCl ws' H1 → va_D A ws' → va_S A s.heap H1 locs1 → W p l e R s m args below meth c H1 locs1 cells slots Q (F0 m (pc + 3) ls (.int r0 :: rest))) : W p l e R s m args below meth c H locs cells slots Q (F0 m pc ls st0) := by
  have hF := va_free (wc := wc) hD hS hA isC hC
  refine va_calli hr hS (fun q _ h => hF q h) hF (fun r u t H1 locs1 ht hvm hw hB hz1 hk1 hS1 => ?_)
  have hw : r = r0 := hw
  subst hw
  obtain ⟨h1, h2⟩ := ct_back ht hB hk1 hP hD hF isC isR hC hR hn hdis ks hks hnd
  exact kk _ _ h1 h2 hS1
theorem ct_calll {r0 : Int64} (hr : va_Run p l e R s m args below meth c H locs cells slots 0 0 (F0 m pc ls st0) rest (ct_Ql D wc' (va_A wc H.size) r0 a) (va_A wc H.size)) (hP : va_P D vwCl ws H) (hD : va_D A ws) (hS : va_S A s.heap H locs) (hA : ∀ q, s.heap.size ≤ q → A q) (isC isR : List Nat) (hC : isC.map (fun i => ws[i]?) = wc.map some) (hR : isR.map (fun i => ws[i]?) = wr.map some) (hn : va_nd isR = true) (hdis : ∀ i ∈ isR, i ∉ isC) (ks : List Nat) (hks : ks.map (fun i => (wr ++ wc')[i]?) = ws'.map some) (hnd : va_nd ks = true)
    (kk : ∀ (H1 : Heap) (locs1 : List Loc), va_P D vwCl ws' H1 → va_D A ws' → va_S A s.heap H1 locs1 → W p l e R s m args below meth c H1 locs1 cells slots Q (F0 m (pc + 3) ls (.long r0 :: rest))) : W p l e R s m args below meth c H locs cells slots Q (F0 m pc ls st0) := by
  have hF := va_free (wc := wc) hD hS hA isC hC
  refine va_calll hr hS (fun q _ h => hF q h) hF (fun r u t H1 locs1 ht hvm hw hB hz1 hk1 hS1 => ?_)
  have hw : r = r0 := hw
  subst hw
  obtain ⟨h1, h2⟩ := ct_back ht hB hk1 hP hD hF isC isR hC hR hn hdis ks hks hnd
  exact kk _ _ h1 h2 hS1
theorem ct_callv (hr : va_Run p l e R s m args below meth c H locs cells slots 0 0 (F0 m pc ls st0) rest (ct_Qv D wc' (va_A wc H.size) a) (va_A wc H.size)) (hP : va_P D vwCl ws H) (hD : va_D A ws) (hS : va_S A s.heap H locs) (hA : ∀ q, s.heap.size ≤ q → A q) (isC isR : List Nat) (hC : isC.map (fun i => ws[i]?) = wc.map some) (hR : isR.map (fun i => ws[i]?) = wr.map some) (hn : va_nd isR = true) (hdis : ∀ i ∈ isR, i ∉ isC) (ks : List Nat) (hks : ks.map (fun i => (wr ++ wc')[i]?) = ws'.map some) (hnd : va_nd ks = true)
    (kk : ∀ (H1 : Heap) (locs1 : List Loc), va_P D vwCl ws' H1 → va_D A ws' → va_S A s.heap H1 locs1 → W p l e R s m args below meth c H1 locs1 cells slots Q (F0 m (pc + 3) ls rest)) : W p l e R s m args below meth c H locs cells slots Q (F0 m pc ls st0) := by
  have hF := va_free (wc := wc) hD hS hA isC hC
  refine va_callv hr hS (fun q _ h => hF q h) hF (fun u t H1 locs1 ht hvm hw hB hz1 hk1 hS1 => ?_)
  obtain ⟨h1, h2⟩ := ct_back ht hB hk1 hP hD hF isC isR hC hR hn hdis ks hks hnd
  exact kk _ _ h1 h2 hS1
end CT
def ct_jn {γ β : Type} (body : γ → β) (k : γ) : β := body k
theorem ct_jn_elim {γ α : Type} {body : γ → Option α} {k : γ} {o : α} (h : ct_jn body k = some o) : ∃ j, j = k ∧ body j = some o := ⟨k, rfl, h⟩
theorem ct_sw3 {x : Int32} (h0 : ¬ x = 0) (h1 : ¬ x = 1) (h2 : ¬ x = 2) : x.toInt < 0 ∨ 2 < x.toInt := by
  have e0 : x.toInt ≠ 0 := fun h => h0 (Int32.toInt_inj.mp (by rw [h]; rfl))
  have e1 : x.toInt ≠ 1 := fun h => h1 (Int32.toInt_inj.mp (by rw [h]; rfl))
  have e2 : x.toInt ≠ 2 := fun h => h2 (Int32.toInt_inj.mp (by rw [h]; rfl))
  omega
theorem ct_zr {v : Int32} (h : ¬ ¬ vp_nar .boolean v = v) : narrow .boolean (.int v) = .int v := by
  have h := Classical.not_not.mp h
  show Value.int (vp_nar .boolean v) = _
  rw [h]
