-- from the law's entry to its walk
theorem cx_face_drop {w : Cond} (h : cx_face w = true) {U : State} {a : Array Value} (hZ : w.before a U = true) : va_Nw w U := by
  cases w with
  | castable x y => exact va_Nw.of rfl hZ
  | declares x => exact va_Nw.of rfl hZ
  | not v =>
    cases v with
    | castable x y => exact hZ
    | _ => cases h
  | _ => cases h
abbrev st_N : List Cond := flatC (Jvm.Cond.and given_1 narrow_1)
set_option maxRecDepth 100000 in
theorem st_face : cx_F.all (fun w => decide (w ∈ lw_tbl) || decide (w ∈ st_N)) = true := by decide +kernel
set_option maxRecDepth 100000 in
theorem st_A : (List.range 15).all (fun j => decide (Cond.eq (.elem (.static "SquareSums" "POWER_A" "[I") (.int (Int32.ofNat j))) (.int (pwA j)) ∈ st_N)) = true := by decide +kernel
set_option maxRecDepth 100000 in
theorem st_B : (List.range 15).all (fun j => decide (Cond.eq (.elem (.static "SquareSums" "POWER_B" "[I") (.int (Int32.ofNat j))) (.int (pwB j)) ∈ st_N)) = true := by decide +kernel
set_option maxRecDepth 100000 in
theorem st_S : cx_strs.all (fun w => decide (Cond.stringRef "SquareSums" w.1 w.2 ∈ lw_tbl) && decide (Cond.exactly (.string "SquareSums" w.1) "java/lang/String" ∈ st_N)) = true := by decide +kernel
theorem st_all {α : Type} {L : List α} {f : α → Bool} (h : L.all f = true) {x : α} (hx : x ∈ L) : f x = true := List.all_eq_true.mp h x hx
theorem st_arr {args : Array Value} {s : State} {ty : FieldType} (hp : ∀ C, ty ≠ .object C) (h : (Cond.arrayClass ty).before args s = true) : ∃ cA, ArrOfT s cA ty ∧ va_RA s cA ty := by
  obtain ⟨cA, kA, comp, h1, h2, h3⟩ := Cond.arrayClass_spec h
  refine ⟨cA, fun n z => ⟨fun k h => (by cases h), kA, h2, comp, h3⟩, ?_⟩
  cases ty <;> first | exact absurd rfl (hp _) | exact h1
set_option maxHeartbeats 4000000 in
set_option maxRecDepth 100000 in
theorem whole_open {p : Program} {e : Env} {s : State} {m : MethodId} {below : List Frame} {meth : Method} {c : Code} (l : Launch) (hfl : l.flags = flags0) {b L : Nat} {xs : Nat → Int32} (hL : L ≤ 2049) (C0 : lw_At p s m meth c b L xs) (hmath : f_La_law L xs = some 1) : W p l e room_1 s m #[Value.ref b] below meth c s.heap [] 0 0 (lw_Z below #[Value.ref b] s) (entryFrame m ([Value.ref b] : List Value).toArray 8) := by
  obtain ⟨hx, hb, hr, hml, hown, hts, hX, hbl, hlocks, hgv⟩ := C0
  have hn := flat_of_before _ hgv
  have hlt : l.stackTraces = false := by
    unfold Launch.stackTraces
    rw [hfl]
    decide +kernel
  have hA0 : ∀ a : Nat, a < s.heap.size → ¬ (fun q : Nat => s.heap.size ≤ q) a := fun a h => Nat.not_le.mpr h
  obtain ⟨c0, i0, k0⟩ := u_known (C := R_Hull) (T := T_Hull) (N := 4) (n := 4) hts (fun w h => (iv_Hull w h).1) (hts _ (List.mem_append_right _ (List.mem_of_getElem? (i := 25) rfl)))
  obtain ⟨c1, i1, k1⟩ := u_known (C := R_Pairs) (T := T_Pairs) (N := 9) (n := 9) hts (fun w h => (iv_Pairs w h).1) (hts _ (List.mem_append_right _ (List.mem_of_getElem? (i := 50) rfl)))
  obtain ⟨c2, i2, k2⟩ := u_known (C := R_Search) (T := T_Search) (N := 5) (n := 5) hts (fun w h => (iv_Search w h).1) (hts _ (List.mem_append_right _ (List.mem_of_getElem? (i := 114) rfl)))
  obtain ⟨c3, i3, k3⟩ := u_known (C := R_Steps) (T := T_Steps) (N := 3) (n := 3) hts (fun w h => (iv_Steps w h).1) (hts _ (List.mem_append_right _ (List.mem_of_getElem? (i := 96) rfl)))
  obtain ⟨c4, i4, k4⟩ := u_known (C := R_Sq) (T := T_Sq) (N := 8) (n := 8) hts (fun w h => (iv_Sq w h).1) (hts _ (List.mem_append_right _ (List.mem_of_getElem? (i := 17) rfl)))
  obtain ⟨c5, i5, k5⟩ := u_known (C := R_Mo) (T := T_Mo) (N := 26) (n := 26) hts (fun w h => (iv_Mo w h).1) (hts _ (List.mem_append_right _ (List.mem_of_getElem? (i := 534) rfl)))
  obtain ⟨D, hKc⟩ : ∃ (D : va_G), ∀ (k : Nat) (q : vw_C), vwCl[k]? = some q → u_Kn s q.1 q.2.1 q.2.2 (D.1 k) (D.2 k) := by
    refine ⟨(fun k => match k with | 0 => c0 | 1 => c1 | 2 => c2 | 3 => c3 | 4 => c4 | _ => c5, fun k => match k with | 0 => i0 | 1 => i1 | 2 => i2 | 3 => i3 | 4 => i4 | _ => i5), ?_⟩
    intro k q hq
    match k, hq with
    | 0, hq => cases hq; exact k0
    | 1, hq => cases hq; exact k1
    | 2, hq => cases hq; exact k2
    | 3, hq => cases hq; exact k3
    | 4, hq => cases hq; exact k4
    | 5, hq => cases hq; exact k5
    | k + 6, hq => simp [vwCl] at hq
  obtain ⟨cI, hI1, hI2⟩ := st_arr (ty := .int) (by intro C h; cases h) (hts _ (List.mem_append_right _ (List.mem_of_getElem? (i := 47) rfl)))
  obtain ⟨cL, hL1, hL2⟩ := st_arr (ty := .long) (by intro C h; cases h) (hts _ (List.mem_append_right _ (List.mem_of_getElem? (i := 112) rfl)))
  obtain ⟨cZ, hZ1, hZ2⟩ := st_arr (ty := .boolean) (by intro C h; cases h) (hts _ (List.mem_append_right _ (List.mem_of_getElem? (i := 48) rfl)))
  have hK : va_K D vwCl (ct_tys cI cL cZ) s := by
    refine ⟨hKc, fun k q hq => ?_⟩
    match k, hq with
    | 0, hq => cases hq; exact ⟨hI1, hI2⟩
    | 1, hq => cases hq; exact ⟨hL1, hL2⟩
    | 2, hq => cases hq; exact ⟨hZ1, hZ2⟩
    | k + 3, hq => simp [ct_tys] at hq
  have hiSq : (Cond.initialized "SquareSums").before #[Value.ref b] s = true := hts _ (List.mem_append_right _ (List.mem_of_getElem? (i := 1) rfl))
  have hiTh : (Cond.initialized Bundle.tN).before #[Value.ref b] s = true := hts _ (List.mem_append_right _ (List.mem_of_getElem? (i := 8) rfl))
  obtain ⟨tA, vA, hTA⟩ := va_Tof (tm := .static "SquareSums" "POWER_A" "[I") (N := 15) (f := fun j => .int (pwA j)) (A := fun q : Nat => s.heap.size ≤ q) (by decide) (hn (.arrayOf (.static "SquareSums" "POWER_A" "[I") .int) (by decide +kernel)) (va_eqt (hn (.eq (.length (.static "SquareSums" "POWER_A" "[I")) (.int 15)) (by decide +kernel))) (fun j hj => va_eqt (hn _ (of_decide_eq_true (st_all st_A (List.mem_range.mpr hj))))) hA0
  obtain ⟨tB, vB, hTB⟩ := va_Tof (tm := .static "SquareSums" "POWER_B" "[I") (N := 15) (f := fun j => .int (pwB j)) (A := fun q : Nat => s.heap.size ≤ q) (by decide) (hn (.arrayOf (.static "SquareSums" "POWER_B" "[I") .int) (by decide +kernel)) (va_eqt (hn (.eq (.length (.static "SquareSums" "POWER_B" "[I")) (.int 15)) (by decide +kernel))) (fun j hj => va_eqt (hn _ (of_decide_eq_true (st_all st_B (List.mem_range.mpr hj))))) hA0
  have hlA : (Cond.laysStatic "SquareSums" "POWER_A" "[I").before #[Value.ref b] s = true := hts _ (List.mem_append_right _ (List.mem_of_getElem? (i := 172) rfl))
  have hlB : (Cond.laysStatic "SquareSums" "POWER_B" "[I").before #[Value.ref b] s = true := hts _ (List.mem_append_right _ (List.mem_of_getElem? (i := 174) rfl))
  have hT : ct_T tA tB (fun q : Nat => s.heap.size ≤ q) s s.heap := by
    refine ⟨va_Zref hlA hiSq vA hA0, va_Zref hlB hiSq vB hA0, hTA, hTB, fun w hw => ?_⟩
    have hm := List.mem_filter.mp hw
    have h1 := hts w hm.1
    have h2 := hm.2
    cases w <;> first | (simp [ct_nest] at h2; done) | exact va_Nw.of rfl h1
  have hl1 : (Cond.laysStatic Bundle.tN "UNASSIGNED_STACK" Bundle.steD).before #[Value.ref b] s = true := hts _ (List.mem_append_right _ (List.mem_of_getElem? (i := 302) rfl))
  have hl2 : (Cond.laysStatic Bundle.tN "SUPPRESSED_SENTINEL" Bundle.listD).before #[Value.ref b] s = true := hts _ (List.mem_append_right _ (List.mem_of_getElem? (i := 304) rfl))
  have hB : cx_B (fun q : Nat => s.heap.size ≤ q) s s.heap := by
    refine ⟨va_Zqof hl1 hiTh (hn _ (by decide +kernel)) hA0, va_Zqof hl2 hiTh (hn _ (by decide +kernel)) hA0, fun w hw => ?_, fun w hw => ?_, cx_L.of hl1 hA0, cx_L.of hl2 hA0⟩
    · have h := st_all st_S hw
      simp only [Bool.and_eq_true, decide_eq_true_eq] at h
      obtain ⟨q, cB, cellB, kB, hq, -⟩ := Cond.exactly_spec (hn _ h.2)
      exact ⟨q, vk_R.of (hts _ h.1) hq⟩
    · have h := st_all st_face hw
      simp only [Bool.or_eq_true, decide_eq_true_eq] at h
      exact cx_face_drop (cx_F_face w hw) (h.elim (fun h => hts w h) (fun h => hn w h))
  have hts' : ∀ w ∈ wd_La_law, w.before #[Value.ref b] s = true := by
    intro w hw
    rcases List.mem_cons.mp hw with rfl | hw
    · exact hts _ (List.mem_append_right _ (List.mem_of_getElem? (i := 0) rfl))
    · exact hts w (List.mem_filter.mp hw).1
  have cx : ct_Cx p s m #[Value.ref b] meth c b_La_law 8 ret R_La wd_La_law D (ct_tys cI cL cZ) tA tB (fun q : Nat => s.heap.size ≤ q) := ⟨hx, hb, hr, hml, hown, hts', hK, fun _ h => h, hT, hlocks, hT.1, hT.2.1, hT.2.2.1, hT.2.2.2.1, hT.2.2.2.2⟩
  have lx : ct_Lx l s (fun q : Nat => s.heap.size ≤ q) b L xs := ⟨hX, hbl, Nat.not_le.mpr hbl, fun _ h => h, hB, hlt, hL⟩
  have hl := lv_entry ([.ref b]) (n := 8) (Nat.le_of_ble_eq_true rfl)
  rw [lg_entry_eq]
  exact w_La_law cx lx hmath _ hl
