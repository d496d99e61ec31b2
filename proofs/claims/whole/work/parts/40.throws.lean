-- a callee that throws, and the caller's table of handlers
section CTX
variable {e : Env} {f : JFrame} {a : Addr}
/-- one row of the table whose class is linked, resolved already or not -/
theorem cx_row {s : State} {Q : Handler → Pre} {E : CtlPost} {d : Bool} {acts : List Action} {x : ExceptionTableEntry} {t : List ExceptionTableEntry} {c : ClassId} {cell : Cell} (hx : covers x f.pc = true) (h0 : x.catchType ≠ 0)
    (hl : s.vm.ClassLinks e.platform f.method.cls x.catchType c) (hcell : s.heap[a]? = some cell) (hobj : ∀ k, cell.vm ≠ .statics k) (hk : ∃ k, s.vm.classes[cell.cls]? = some k) (hc : ∃ k, s.vm.classes[c]? = some k) :
    wp (findHandler.go f a (x :: t)) Q E e d acts s ↔ if s.vm.assignable cell.cls c = true then Q (.found x.handlerPc) d acts (s.setVm (s.vm.noted f.method.cls x.catchType (.cls c))) else wp (findHandler.go f a t) Q E e d acts (s.setVm (s.vm.noted f.method.cls x.catchType (.cls c))) := by
  obtain ⟨g1, g2⟩ := (resolveClass_links e.toSetting hl).op (op := VmOp.resolveClass f.method.cls x.catchType) rfl
  have hal : s.vm.Alike (s.vm.noted f.method.cls x.catchType (.cls c)) := (Vm.Alike.refl s.vm).noted _ _ _
  obtain ⟨k1, hk1⟩ := hk
  obtain ⟨k2, hk2⟩ := hc
  obtain ⟨k1', hk1', -⟩ := hal.2.2 _ _ hk1
  obtain ⟨k2', hk2', -⟩ := hal.2.2 _ _ hk2
  have has : (s.vm.noted f.method.cls x.catchType (.cls c)).assignable cell.cls c = s.vm.assignable cell.cls c := hal.assignable ..
  simp only [covers] at hx
  cases hf : s.vm.assignable cell.cls c
  · rw [hf] at has
    simp [findHandler.go, hx, h0, g1, g2, hcell, hobj, hk1', hk2', has, VmOp.dirties, VmOp.acts]
  · rw [hf] at has
    simp [findHandler.go, hx, h0, g1, g2, hcell, hobj, hk1', hk2', has, VmOp.dirties, VmOp.acts]
/-- what the search gives, the tables perhaps warmer -/
def cx_Finds (e : Env) (S : State) (f : JFrame) (a : Addr) (h : Handler) (vm' : Vm) : Prop := ∀ (Q : Handler → Pre) (E : CtlPost) (d : Bool) (acts : List Action), wp (findHandler f a) Q E e d acts S ↔ Q h d acts (S.setVm vm')
theorem cx_step {S : State} {r : List Frame} {pc : Nat} {vm' : Vm} (h : cx_Finds e S f a (.found pc) vm') : (stepThrowing e S a (.java f :: r)).Is ((S.setVm vm').setFrames (.java { f with pc := pc, stack := [.ref a] } :: r)) [] := by
  simp only [stepThrowing, searchFrame, vmDo]
  generalize hr : Sem.go _ e false [] S = res
  obtain ⟨as, rfl, ha⟩ := Sem.eq_ok_of hr (a := Handler.found pc) (s' := S.setVm vm') (acts' := []) (by simp [h _ _ _ _])
  exact ⟨rfl, ha⟩
theorem cx_caught {tb : Tables} {s target : State} {g : JFrame} {c : Code} {below : List Frame} (h : At s g.method c below) {pc : Nat} {vm' : Vm} (hfind : cx_Finds e ((s.setTop g).pushFrame (.throwing a)) g a (.found pc) vm')
    (hrest : Steps tb e below ((s.setVm vm').setTop { g with pc := pc, stack := [.ref a] }) target) : Steps tb e below ((s.setTop g).pushFrame (.throwing a)) target := by
  obtain ⟨hgo, hw⟩ := h.throwing a
  refine Steps.head hgo hw ?_
  rw [stepThread_throwing (frames_entered h.top _), (cx_step (S := (s.setTop g).pushFrame (.throwing a)) hfind).1]
  obtain ⟨g₀, hg⟩ := Option.isSome_iff_exists.mp h.top
  obtain ⟨r, hr⟩ := State.topJava?_eq_some.mp hg
  have hr' : (s.setVm vm').frames = .java g₀ :: r := hr
  rw [State.setTop_of_frames _ hr'] at hrest
  have e1 : (((s.setTop g).pushFrame (.throwing a)).setVm vm').setFrames (.java { g with pc := pc, stack := [.ref a] } :: s.frames.tail) = (s.setVm vm').setFrames (.java { g with pc := pc, stack := [.ref a] } :: r) := by
    rw [State.pushFrame, State.setTop_of_frames _ hr, hr]
    show (((s.setVm vm').setFrames _).setFrames _).setFrames _ = _
    rw [State.setFrames_setFrames, State.setFrames_setFrames]
    rfl
  rw [e1]
  exact hrest
end CTX
/-- the rows of a table of handlers, from the first on, for an exception of class X at pc: those that are passed, and the one that catches, at hpc -/
def cx_Seek (s : State) (args : Array Value) (own X : String) (pc hpc : Nat) : List (Nat × Nat × Nat × Nat) → Prop
  | [] => False
  | q :: t => (q.1 ≤ pc ∧ pc < q.2.1 ∧ q.2.2.2 ≠ 0) ∧ ∃ name, (Cond.classLink own q.2.2.2 name).before args s = true ∧ ((hpc = q.2.2.1 ∧ (Cond.castable X name).before args s = true) ∨ ((Cond.not (.castable X name)).before args s = true ∧ cx_Seek s args own X pc hpc t))
theorem cx_seek {e : Env} {f : JFrame} {a : Addr} {s : State} {args : Array Value} {own X : String} {hpc : Nat} {cell : Cell} (hpl : e.platform.magicAccessors = ({} : Platform).magicAccessors) (hown : s.vm.findClass own = some f.method.cls) (hX : s.vm.findClass X = some cell.cls) (hobj : ∀ k, cell.vm ≠ .statics k) :
    ∀ (tab : List ExceptionTableEntry) (S : State), s.WarmedH S.vm → S.heap[a]? = some cell → cx_Seek s args own X f.pc hpc (tab.map (fun h => (h.startPc, h.endPc, h.handlerPc, h.catchType))) →
      ∃ vm', s.WarmedH vm' ∧ ∀ (Q : Handler → Pre) (E : CtlPost) (d : Bool) (acts : List Action), wp (findHandler.go f a tab) Q E e d acts S ↔ Q (.found hpc) d acts (S.setVm vm') := by
  intro tab
  induction tab with
  | nil => intro S _ _ h; exact absurd h id
  | cons y t ih =>
    intro S hW hcell h
    obtain ⟨⟨h1, h2, h0⟩, name, hlink, hrest⟩ := h
    have hcov : covers y f.pc = true := by simp only [covers, Bool.and_eq_true, decide_eq_true_eq]; exact ⟨h1, h2⟩
    obtain ⟨c', hc', hcl⟩ := Cond.classLink_spec hown hlink e.platform hpl
    obtain ⟨dk, _, _, kt, hd, _, _, _, _, hkt, _, hopen⟩ := hcl.here
    obtain ⟨kt', hkt', -⟩ := hW.alike.2.2 _ _ hkt
    obtain ⟨k0, hk0⟩ := Vm.classAt_of_findClass hX
    obtain ⟨k0', hk0', -⟩ := hW.alike.2.2 _ _ hk0
    have hW' := hW.noted hd hopen (State.rightAt_cls hcl)
    have has : S.vm.assignable cell.cls c' = s.vm.assignable cell.cls c' := hW.alike.assignable ..
    rcases hrest with ⟨hp, hcast⟩ | ⟨hno, hmore⟩
    · obtain ⟨c3, c4, w1, w2, w3⟩ := Cond.castable_spec hcast
      cases hX.symm.trans w1
      cases hc'.symm.trans w2
      refine ⟨_, hW', fun Q E d acts => ?_⟩
      rw [cx_row hcov h0 (hW.classLinks hcl) hcell hobj ⟨k0', hk0'⟩ ⟨kt', hkt'⟩, has, if_pos w3, hp]
    · have hv := Cond.holds_not_iff.mp hno
      simp only [Cond.value, hX, hc'] at hv
      have hf : s.vm.assignable cell.cls c' = false := Option.some.inj hv
      obtain ⟨vm', hW2, hq⟩ := ih (S.setVm (S.vm.noted f.method.cls y.catchType (.cls c'))) hW' hcell hmore
      refine ⟨vm', hW2, fun Q E d acts => ?_⟩
      rw [cx_row hcov h0 (hW.classLinks hcl) hcell hobj ⟨k0', hk0'⟩ ⟨kt', hkt'⟩, has, hf, if_neg (by decide)]
      exact hq Q E d acts
/-- an exception of class X has left the method; what was there is as it was; one cell of six slots has come -/
def cx_Q (X : String) : Array Value → State → Outcome → State → Prop := fun _ st o t => ∃ (x : Addr) (cell : Cell), o = .threw x ∧ t.heap[x]? = some cell ∧ cell.vm = .none ∧ st.vm.findClass X = some cell.cls ∧ st.WarmedH t.vm ∧ st.sameButNew ({ t with vm := st.vm } : State) [] 1 6
def cx_Met (l : Launch) (y : MethodName) (ws : List Cond) (rm : Room) (Pc : Array Value → State → Prop) (X : String) : Prop := MetFree l y (headSpec ws rm) Pc (fun _ _ _ _ _ => True) (cx_Q X)
def cx_T (below : List Frame) (X : String) (a : Array Value) (s : State) : State → Prop := fun t => ∃ o, t.status = .running ∧ Ended t below o ∧ cx_Q X a s o t
theorem cx_ofW {l : Launch} {y : MethodName} {ws ws' : List Cond} {rm : Room} {Pc : Array Value → State → Prop} {X : String} {cc : ByteArray} {maxL : Nat} {ret : Option FieldType} (hy : plainName y.cls = true) (hw : ws = Cond.code y cc maxL ret :: ws')
    (body : ∀ p e s m args below meth c s₁, BodyLoose p l y (headSpec ws rm) cc maxL ret e s m args below meth c s₁ → c.maxLocals = maxL → c.exceptionTable.isEmpty = true → Pc args s → W p l e (headSpec ws rm).room s m args below meth c s.heap [] 0 0 (cx_T below X args s) (entryFrame m args maxL)) : cx_Met l y ws rm Pc X := by
  refine MetFree.of_bodyS (code := cc) (maxLocals := maxL) (ret := ret) hy ?_ ?_
  · intro args s m h hn
    obtain ⟨meth, c, h1, h2, h3, h4, h5, h6, -, -⟩ := Cond.code_spec hn (atoms_spec (ws := ws) h _ (by rw [hw]; exact List.mem_cons_self))
    exact ⟨meth, c, h1, h2, h3, h4, h5, h6⟩
  · intro p e s m args below meth c s₁ B hml hP _
    have hh0 : s₁.heap = s.heap := by rw [B.state]; rfl
    have hex : c.exceptionTable.isEmpty = true := B.noHandlers (atoms_spec (ws := ws) B.pre _ (by rw [hw]; exact List.mem_cons_self))
    obtain ⟨t, a1, o, b1, b2, b3⟩ := body p e s m args below meth c s₁ B hml hex hP s₁ hh0 (Stand.of_body B)
    exact ⟨t, o, a1, b1, b2, b3⟩
theorem cx_htr {l : Launch} {e : Env} (h : l.admits e) (hl : l.stackTraces = false) : e.platform.stackTraces = false := by
  have := h.2.2.2.2.1
  rw [this]
  exact hl
section CTX2
variable {p : Program} {l : Launch} {e : Env} {R : Room} {s : State} {m : MethodId} {args : Array Value} {below : List Frame} {meth : Method} {c : Code} {cc : ByteArray} {H : Heap} {locs : List Loc} {cells slots : Nat} {Q : State → Prop} {pc nL : Nat} {ls : Array Slot}
/-- throw new X("..") -/
theorem cx_new (hl : l.stackTraces = false) (hx : p.tables.exec = Jvm.exec) (hb : c.code = cc) {own X tx : String} {names : List String} {ia ib ic : Nat} (hown : s.vm.findClass own = some m.cls) (hlocks : meth.locks = false) (hex : c.exceptionTable.isEmpty = true) (hml : c.maxLocals = nL) (hls : ls.size = nL)
    (hcl : (Cond.classLink own ia X).before args s = true) (hins : (Cond.instantiable X 6).before args s = true) (hini : (Cond.initialized X).before args s = true) (hstr : ∃ q, vk_R own ib tx q s) (hfX : Bundle.fit X = true) (hfn : ∀ n ∈ names, Bundle.fit n = true) (hat : ∀ a ∈ Bundle.ownAtoms own ic X names, a.before args s = true)
    (d0 : decode cc pc = .ok (.new ia, 3)) (d3 : decode cc (pc + 3) = .ok (.dup, 1)) (d4 : decode cc (pc + 4) = .ok (.ldc ib, 2)) (d6 : decode cc (pc + 6) = .ok (.invokespecial ic, 3)) (d9 : decode cc (pc + 9) = .ok (.athrow, 1))
    (hRc : 1 ≤ R.cells) (hRs : 6 ≤ R.slots) (hRf : names.length + 3 < R.frames) (hRl : 13 * (names.length + 1) + 43 ≤ R.locals) : W p l e R s m args below meth c s.heap [] 0 0 (cx_T below X args s) (F0 m pc ls []) := by
  refine W.newc hx hb hown hcl hins hini rfl d0 (by omega) (by omega) (fun cC kC hfc hk hkind hsz => ?_)
  obtain ⟨q, hq⟩ := hstr
  refine W.eq (g2 := F0 m (pc + 3) ls [.ref s.heap.size]) rfl ?_
  refine lv_dup hx hb d3 rfl ?_
  refine va_ldcS hx hb hown hq d4 ?_
  intro T hT XX
  have hout : ∀ x ∈ c.exceptionTable.toList, covers x (pc + 9) = false := by
    intro x hxx
    have h0 : c.exceptionTable.size = 0 := by simpa [Array.isEmpty] using hex
    have h1 : c.exceptionTable.toList = [] := List.eq_nil_of_length_eq_zero (by simpa using h0)
    rw [h1] at hxx
    cases hxx
  have hcell : T.heap[s.heap.size]? = some (freshCell cC kC) := by rw [hT]; simp [freshCell]
  obtain ⟨U, st, hrun, hend, hWU, hsame, ce, hce, O⟩ := XX.ctorThrowS hx (cx_htr XX.admits hl) hown hfX hfn hat (fun x h => by cases h) hfc hk hcell (Nat.le_refl _) (msg := .ref q) rfl (g := F0 m (pc + 6) ls [.ref q, .ref s.heap.size, .ref s.heap.size]) rfl (hls.trans hml.symm) rfl rfl (rest := []) rfl (by rw [hb]; exact d6) (by rw [hb]; exact d9) hout hRf (by show 2 * 0 + 1 + _ ≤ _; omega) hlocks
  exact ⟨U, st, .threw s.heap.size, hrun, hend, s.heap.size, ce, rfl, hce, O.vm, O.cls, hWU, hsame⟩
end CTX2
section CTX3
variable {p : Program} {l : Launch} {e : Env} {R : Room} {s : State} {m : MethodId} {args : Array Value} {below : List Frame} {meth : Method} {c : Code} {cc : ByteArray} {H : Heap} {locs : List Loc} {cells slots : Nat} {Q : State → Prop} {pc nL : Nat} {ls : Array Slot}
/-- a call whose callee throws, caught by a row of the caller's own table -/
theorem cx_callV {y : MethodName} {bytes : ByteArray} {maxL n index hpc : Nat} {ret : Option FieldType} {ws : List Cond} {rm : Room} {Pc : Array Value → State → Prop} {Ts : List Cond} {own C X : String} {b : Addr} {As rest st0 : List Value} {hs : List (Nat × Nat × Nat × Nat)}
    (S : CallFix p m c cc nL s args Ts own) (hM : cx_Met l y ws rm Pc X) (cw : CallW R s args own C index y bytes maxL ret ws rm 1 6 n) (hp : PreV s H C b Pc As)
    (hn : As.length = n) (hsize : ls.size = nL) (hstack : st0 = As.reverse ++ .ref b :: rest) (hW : (rest.map fun v => v.category).sum ≤ 8) (hdg : decode cc pc = .ok (.invokevirtual index, 3)) (hf : cells + 1 ≤ R.cells ∧ slots + 6 ≤ R.slots)
    (htab : c.exceptionTable.toList.map (fun h => (h.startPc, h.endPc, h.handlerPc, h.catchType)) = hs) (hseek : cx_Seek s args own X pc hpc hs)
    (kk : ∀ (x : Addr) (H1 : Heap), H.size ≤ H1.size → (∀ q : Nat, q < H.size → H1[q]? = H[q]?) → W p l e R s m args below meth c H1 locs (cells + 1) (slots + 6) Q (F0 m hpc ls [.ref x])) : W p l e R s m args below meth c H locs cells slots Q (F0 m pc ls st0) := by
  obtain ⟨hx, hb, hml, ho, -⟩ := S
  obtain ⟨⟨hrc, hrs, hfr, hlo, hws, hcw, hcode, hini, hy, hlen, hlk⟩, hin, hse⟩ := cw
  obtain ⟨hbl, ⟨cellB, hcB, hoB, hclB⟩, hPc⟩ := hp
  intro T hT X₀
  have hpl : e.platform.magicAccessors = ({} : Platform).magicAccessors := by rw [X₀.admits.platform]
  obtain ⟨mk, methM, hnamed, hmethM, hstM, habM⟩ := Cond.instanceMethod_spec hin
  obtain ⟨methM', cM, hmethM', hcM, -, hlM, -, -, -, hsigM⟩ := Cond.code_spec hnamed hcode
  cases hmethM.symm.trans hmethM'
  obtain ⟨c2, r2, m2, q1, q2, q3, q4, kP, hkP, hkPi⟩ := Cond.selects_spec hse
  cases hclB.symm.trans q1
  cases (State.methodFound?_of_named hnamed hy).symm.trans q2
  cases hnamed.symm.trans q3
  have hselP : selectMethod e.platform s.vm cellB.cls mk = .method mk := by rw [Launch.admits_selectMethod X₀.admits]; exact q4
  obtain ⟨vm₁, X₁, hstep₁⟩ := X₀.invokevirtual hx ho hlk hnamed hmethM hstM hkP hkPi hy (a := b) (cell := cellB) (by rw [hT]; exact hcB) (fun z h => by rw [h] at hoB; cases hoB) hselP hmethM habM hkP hkPi (g := F0 m pc ls st0) rfl (argsL := As) (rest := rest) (hn.trans (hlen _ hsigM)) hstack (by rw [hb]; exact hdg)
  have hdg' : decode c.code (F0 m pc ls rest).pc = .ok (.invokevirtual index, 3) := by rw [hb]; exact hdg
  have hinitP : kP.init = .initialized := Cond.initialized_spec (findClass_of_methodNamed hnamed) hkP hini
  obtain ⟨kP₁, hkP₁, heP₁⟩ := X₁.warmed.alike.2.2 _ _ hkP
  have hmM₁ : (T.setVm vm₁).vm.method? mk = some methM := by rw [X₁.warmed.alike.method?]; exact hmethM
  have happ : (headSpec ws rm).appliesLoose y e.platform ((T.setVm vm₁).calling (F0 m pc ls rest) mk (Value.ref b :: As).toArray) = true :=
    Spec.appliesLoose_calling (g := F0 m pc ls rest) X₁.here hdg' (X₁.named hnamed) hkP₁ (by rw [heP₁]; exact hinitP)
      (X₁.room_calling (g := F0 m pc ls rest) (R' := (headSpec ws rm).room) (hsize.trans hml.symm) hmM₁ hcM hfr (by rw [hlM]; show 2 * 0 + (rest.map fun v => v.category).sum + (maxL + 11) + rm.locals ≤ R.locals; omega) (by show cells + rm.cells ≤ _; rw [hrc]; exact hf.1) (by show slots + rm.slots ≤ _; rw [hrs]; exact hf.2))
      (atoms_intro fun w hw => hws w hw _ _ X₁.warmed)
  obtain ⟨mid, hmid⟩ := X₁.here.above
  have hfr2 : ((T.setVm vm₁).setTop (F0 m pc ls rest)).frames = (.java (F0 m pc ls rest) :: mid) ++ below := by rw [State.frames_setTop' _ X₁.here.top, hmid]; rfl
  obtain ⟨o, t, hsteps, hrun, hend, x, ce, rfl, hce, hcv, hcc, hWt, hsame⟩ := Steps.callFree hM p X₀.admits X₀.cas X₀.clock (acts := []) hfr2 happ (hbl _ _ _ _ (hPc (T.setVm vm₁) hT X₁.warmed)) trivial
  rw [State.frames_setTop' _ X₁.here.top, X₁.tail] at hend
  obtain ⟨T', X₂, hW₂, hsame₂, ht⟩ := X₁.outOfThrown (g := F0 m pc ls rest) rfl hend hWt hsame
  rw [List.append_nil] at X₂
  have hceT : T'.heap[x]? = some ce := by rw [ht, Stand.throwing_heap] at hce; exact hce
  have hXs : s.vm.findClass X = some ce.cls := by
    have h1 : (T.setVm vm₁).vm.findClass X = some ce.cls := hcc
    rw [X₁.warmed.alike.findClass] at h1
    exact h1
  have hobj : ∀ k, ce.vm ≠ .statics k := fun k h => by rw [hcv] at h; cases h
  obtain ⟨vm', hW', hq⟩ := cx_seek (e := e) (f := F0 m pc ls rest) (a := x) (s := s) (args := args) (own := own) (X := X) (hpc := hpc) (cell := ce) hpl ho hXs hobj c.exceptionTable.toList ((T'.setTop (F0 m pc ls rest)).pushFrame (.throwing x)) (by rw [Stand.throwing_vm]; exact X₂.warmed) (by rw [Stand.throwing_heap]; exact hceT) (by rw [htab]; exact hseek)
  have hfind : cx_Finds e ((T'.setTop (F0 m pc ls rest)).pushFrame (.throwing x)) (F0 m pc ls rest) x (.found hpc) vm' := fun Q E d acts => by
    rw [W.findHandler_eq (meth := meth) (code := c) (by rw [Stand.throwing_vm]; exact X₂.method') X₂.code]
    exact hq Q E d acts
  have hsz : H.size ≤ T'.heap.size := by rw [← hT]; exact hsame₂.2.1
  have hold : ∀ q : Nat, q < H.size → T'.heap[q]? = H[q]? := fun q hq => by
    have h1 : (T.setVm vm₁).heap[q]? = some H[q] := by
      show T.heap[q]? = _
      rw [hT]; simp [hq]
    have h2 := State.sameButNew.old_cell hsame₂ h1
    rw [show T'.heap[q]? = some H[q] from h2]; simp [hq]
  obtain ⟨t2, a2, b2⟩ := kk x T'.heap hsz hold (T'.setVm vm') rfl (X₂.noted hW')
  refine ⟨t2, hstep₁ _ (fun acts => ?_), b2⟩
  rw [doInvoke_state]
  refine Steps.trans hsteps ?_
  rw [ht]
  exact cx_caught (g := F0 m pc ls rest) X₂.here hfind a2
end CTX3
section CTX4
variable {p : Program} {l : Launch} {e : Env} {R : Room} {s : State} {m : MethodId} {args : Array Value} {below : List Frame} {meth : Method} {c : Code} {cc : ByteArray} {H : Heap} {locs : List Loc} {cells slots : Nat} {Q : State → Prop}
/-- a method with a table of handlers, by its walk -/
theorem cx_ofWith {y : MethodName} {ws ws' : List Cond} {rm : Room} {Pc : Array Value → State → Prop} {Qc : Array Value → State → Outcome → State → Prop} {mc ms : Nat} {free : Addr → Prop} {maxL : Nat} {ret : Option FieldType} {hs : List (Nat × Nat × Nat × Nat)} (hy : plainName y.cls = true) (hw : ws = Cond.codeWith y cc maxL ret hs :: ws')
    (body : ∀ p e s m args below meth c s₁, BodyLoose p l y (headSpec ws rm) cc maxL ret e s m args below meth c s₁ → c.maxLocals = maxL → c.exceptionTable.toList.map (fun h => (h.startPc, h.endPc, h.handlerPc, h.catchType)) = hs → Pc args s → W p l e (headSpec ws rm).room s m args below meth c s.heap [] 0 0 (MQ below Qc args s mc ms free) (entryFrame m args maxL)) : Met l y ws rm Pc Qc mc ms free := by
  refine MetFree.of_bodyS (code := cc) (maxLocals := maxL) (ret := ret) hy ?_ ?_
  · intro args s m h hn
    obtain ⟨m', meth, c, h0, h1, h2, h3, h4, -, h5, h6, -⟩ := Cond.codeWith_spec (atoms_spec (ws := ws) h _ (by rw [hw]; exact List.mem_cons_self))
    cases hn.symm.trans h0
    exact ⟨meth, c, h1, h2, h3, h4, h5, h6⟩
  · intro p e s m args below meth c s₁ B hml hP _
    have hh0 : s₁.heap = s.heap := by rw [B.state]; rfl
    obtain ⟨m', meth', c', h0, h1, h2, h3, h4, htab, h5, h6, -⟩ := Cond.codeWith_spec (atoms_spec (ws := ws) B.pre _ (by rw [hw]; exact List.mem_cons_self))
    cases B.named.symm.trans h0
    cases B.method.symm.trans h1
    cases (Stand.of_body B).code.symm.trans h2
    obtain ⟨t, a1, o, b1, b2, b3⟩ := body p e s m args below meth c s₁ B hml htab hP s₁ hh0 (Stand.of_body B)
    exact ⟨t, o, a1, b1, b2, ⟨b3.1, b3.2⟩⟩
/-- the call of a static method that has a table of handlers -/
theorem cx_runS {y : MethodName} {bytes : ByteArray} {maxL nL mc ms n index : Nat} {ret : Option FieldType} {ws : List Cond} {rm : Room} {Pc : Array Value → State → Prop} {Qc : Array Value → State → Outcome → State → Prop} {free : Addr → Prop} {Ts : List Cond} {own : String} {As rest : List Value} {g : JFrame} {hs : List (Nat × Nat × Nat × Nat)}
    (S : CallFix p m c cc nL s args Ts own) (hM : Met l y ws rm Pc Qc mc ms free) (hrc : rm.cells = mc) (hrs : rm.slots = ms) (hfr : rm.frames + 1 ≤ R.frames) (hlo : 8 + (maxL + 11) + rm.locals ≤ R.locals) (hws : ∀ w ∈ ws, ∀ (a' : Array Value) (U : State), s.WarmedH U.vm → w.before a' U = true) (hcw : Cond.codeWith y bytes maxL ret hs ∈ ws) (hini : ∀ (a' : Array Value) (U : State), s.WarmedH U.vm → (Cond.initialized y.cls).before a' U = true)
    (hy : y.cls ≠ "java/lang/invoke/MethodHandle" ∧ y.cls ≠ "java/lang/invoke/VarHandle") (hlen : ∀ sig, parseMethodDescriptor y.desc = some sig → n = sig.parameters.length) (hlink : (Cond.methodLink own index y).before args s = true) (hstat : (Cond.static y).before args s = true) (hp : PreS s H Pc As)
    (hg : g.method = m) (hn : As.length = n) (hsize : g.locals.size = nL) (hstack : g.stack = As.reverse ++ rest) (hW : 2 * g.monitorRoom + (rest.map fun v => v.category).sum ≤ 8) (hdg : decode cc g.pc = .ok (.invokestatic index, 3)) (hf : cells + mc ≤ R.cells ∧ slots + ms ≤ R.slots) :
    va_Run p l e R s m args below meth c H locs cells slots mc ms g rest (Qc As.toArray) free := by
  have hK : Back l R p e below s args y 3 8 (PreOf R mc ms Pc) (PostOf Qc mc ms free) := by
    refine Back.of_freeWith (S := headSpec ws rm) (P := Pc) (K := fun _ _ _ _ _ => True) (Q := fun a st o t => Qc a st o t ∧ ∃ L, FrameEnd st o t L mc ms ∧ ∀ q ∈ L, free q.base) (bytes := bytes) (maxL := maxL) (ret := ret) (handlers := hs)
      (E := fun a st o t L k n => k = mc ∧ n = ms ∧ ∀ q ∈ L, free q.base) hM hfr hlo ?_ ?_ (fun _ _ _ _ _ _ _ _ _ => trivial) ?_ ?_
    · intro m meth c A a X hp
      exact ⟨atoms_intro fun w hw => hws w hw _ _ X.warmed, hws _ hcw _ _ X.warmed, hini _ _ X.warmed, by rw [show (headSpec ws rm).room.cells = mc from hrc]; exact hp.1, by rw [show (headSpec ws rm).room.slots = ms from hrs]; exact hp.2.1⟩
    · intro m meth c A a g mk X hq
      exact hp.1 _ _ _ _ hq.2.2
    · intro a st o t ⟨hq, L, hF, hL⟩
      exact ⟨L, mc, ms, hF, rfl, rfl, hL⟩
    · intro m meth c A a g mk v t L k n X hp hq hF ⟨e1, e2, hL⟩
      subst e1; subst e2
      exact ⟨g, mk, t, L, rfl, rfl, hq.1, rfl, hL, rfl, rfl⟩
  obtain ⟨hx, hb, hml, ho, -⟩ := S
  intro T hT X
  have hcode : (Cond.codeWith y bytes maxL ret hs).before args s = true := hws _ hcw _ _ (State.WarmedH.refl s)
  obtain ⟨mk, methM, cM, hnamed, hmethM, -, -, -, -, -, -, hsigM⟩ := Cond.codeWith_spec hcode
  have hstatic : methM.isStatic = true := Cond.static_spec hnamed hmethM hstat
  obtain ⟨kP, hkP, -⟩ := className_of_methodNamed hnamed
  have hinitP : kP.init = .initialized := Cond.initialized_spec (findClass_of_methodNamed hnamed) hkP (hini args s (State.WarmedH.refl s))
  have hdg' : decode c.code g.pc = .ok (.invokestatic index, 3) := by rw [hb]; exact hdg
  obtain ⟨vm₁, X₁, hstep₁⟩ := X.invokestatic hx ho hlink hnamed hmethM hstatic hkP hinitP hy (g := g) hg (argsL := As) (rest := rest) (hn.trans (hlen _ hsigM)) hstack hdg'
  obtain ⟨v, ⟨U', l2, c2, s2⟩, X', ⟨g', mk', t, L, e1, e2, hq, h1, hL, h2, h3⟩, hsteps⟩ := hK m meth c ⟨T.setVm vm₁, locs, cells, slots⟩ { g with stack := rest } (.invokestatic index) mk As.toArray X₁ hg (hsize.trans hml.symm) hdg' hW (X₁.named hnamed) ⟨hf.1, hf.2, hp.2 (T.setVm vm₁) hT X₁.warmed⟩
  dsimp only [Pt.U, Pt.locs, Pt.cells, Pt.slots] at X' e1 e2 h1 h2 h3 hsteps
  subst h1; subst h2; subst h3
  exact ⟨v, (T.setVm vm₁).calling g' mk' As.toArray, t, U', L, hT, X', hL, e1, e2, hq, fun target h => hstep₁ _ fun acts => by rw [doInvoke_state]; exact hsteps.trans h⟩
end CTX4
