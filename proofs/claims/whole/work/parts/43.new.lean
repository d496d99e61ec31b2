-- constructors: new arrays of the known classes, calls that make cells
section CTN
variable {p : Program} {l : Launch} {e : Env} {R : Room} {s : State} {m : MethodId} {args : Array Value} {below : List Frame} {meth : Method} {c : Code} {cc : ByteArray} {H H0 : Heap} {locs : List Loc} {cells slots : Nat} {Q : State → Prop}
variable {pc : Nat} {ls : Array Slot} {rest st0 : List Value} {a : Array Value} {A : Nat → Prop} {D : va_G} {tys : List (ClassId × FieldType)} {ws wc : va_W} {mc ms : Nat}
theorem ct_newa {cT : ClassId} (hx : p.tables.exec = Jvm.exec) (hb : c.code = cc) {atype : ArrayType} (harr : (Cond.arrayClass (newarray.typeOf atype)).before args s = true) {ty : FieldType} (hty : newarray.typeOf atype = ty) (hprim : ∀ C, ty ≠ .object C) (hK : va_K D vwCl tys s) (t0 : Nat) (ht : tys[t0]? = some (cT, ty)) (hP : va_P D vwCl ws H) (hD : va_D A ws) (hS : va_S A H0 H locs) (hA : ∀ q, H0.size ≤ q → A q)
    {n : Int32} {N' : Nat} {a0 : vp_A} (ha : ∀ cA : ClassId, vp_cell cA a0 = arrV cA N' (fun _ => defaultValue ty)) (hn : ¬ n < 0) (hN : n.toNatClampNeg = N') (hbytes : N' * componentBytes ty ≤ 536870912) (hcells : cells + 1 ≤ R.cells) (hslots : slots + N' ≤ R.slots) (hdg : decode cc pc = .ok (.newarray atype, 2))
    (kk : ∀ (q : Nat) (H1 : Heap), va_P D vwCl (ws ++ [(q, .inl (cT, a0))]) H1 → va_D A (ws ++ [(q, .inl (cT, a0))]) → va_S A H0 H1 locs → W p l e R s m args below meth c H1 locs (cells + 1) (slots + N') Q (F0 m (pc + 2) ls (.ref q :: rest))) : W p l e R s m args below meth c H locs cells slots Q (F0 m pc ls (.int n :: rest)) := by
  refine va_newa hx hb harr hty hK hP hD hS hA ha hn hN hbytes hcells hslots hdg (fun q cA H1 hK1 hP1 hD1 hS1 => ?_)
  have h1 := (hK1.2 tys.length (cA, ty) (by simp)).2
  have h2 := (hK.2 t0 (cT, ty) ht).2
  have e1 : cA = cT := by
    cases ty <;> first | exact absurd rfl (hprim _) | exact Option.some.inj (h1.symm.trans h2)
  subst e1
  exact kk q H1 hP1 hD1 hS1
theorem ct_calln {B : State → Prop} (hr : va_Run p l e R s m args below meth c H locs cells slots mc ms (F0 m pc ls st0) rest (va_Qv (S := Unit) (fun _ => True) (fun _ t => B t) (va_A wc H.size) a) (va_A wc H.size)) (hF : ∀ q, va_A wc H.size q → A q) (hS : va_S A s.heap H locs)
    (kk : ∀ (t : State) (H1 : Heap) (locs1 : List Loc), t.heap = H1 → B t → (∀ q : Nat, q < H.size → ¬ va_A wc H.size q → H1[q]? = H[q]?) → va_S A s.heap H1 locs1 → W p l e R s m args below meth c H1 locs1 (cells + mc) (slots + ms) Q (F0 m (pc + 3) ls rest)) : W p l e R s m args below meth c H locs cells slots Q (F0 m pc ls st0) :=
  va_callv hr hS (fun q _ h => hF q h) hF (fun u t H1 locs1 ht hvm hw hB hz1 hk1 hS1 => kk t H1 locs1 ht hB hk1 hS1)
end CTN
theorem cx_fw {A : Nat → Prop} {U : State} {H : Heap} {args : Array Value} (hB : cx_B A U H) {w : Cond} (hm : w ∈ cx_F) : w.before args U = true := cx_face_use (cx_F_face _ hm) (hB.2.2.2.1 _ hm)
theorem cx_Sof {A : Nat → Prop} {H0 H1 : Heap} (h1 : H0.size ≤ H1.size) (h2 : ∀ q : Nat, q < H0.size → H1[q]? = H0[q]?) : va_S A H0 H1 [] := ⟨h1, fun q h _ => h2 q h, fun _ h => by cases h⟩
theorem cx_Pkept {D : va_G} {cl : List vw_C} {ws : va_W} {H H1 : Heap} (h : va_P D cl ws H) (h2 : ∀ q : Nat, q < H.size → H1[q]? = H[q]?) : va_P D cl ws H1 := h.kept (fun k q hk => h2 q.1 (h k q hk).lt)
