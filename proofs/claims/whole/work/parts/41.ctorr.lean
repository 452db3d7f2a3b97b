/-! constructors: worlds that grow -/
abbrev tc_zi (c n q : Nat) : Nat × va_E := (q, .inl (c, n, .inl (fun _ => 0)))
def tc_Qn (D : va_G) (ws0 : va_W) (sz : Nat) (P : va_W → Prop) : Array Value → State → Outcome → State → Prop := fun _ st oc t => oc = .returned none ∧ (∃ ws, P ws ∧ va_P D tc_classes ws t.heap ∧ va_D (va_A ws0 sz) ws) ∧ va_F (va_A ws0 sz) st t
def tc_Pn (D : va_G) (c0 c1 : ClassId) (av : List Value) (ws0 : va_W) (sz : Nat) : Array Value → State → Prop := va_Pc av (fun U => U.heap.size = sz ∧ va_P D tc_classes ws0 U.heap ∧ va_K D tc_classes [(c0, .int), (c1, .boolean)] U ∧ va_D (fun _ => True) ws0)
def tc_Cn (l : Launch) (D : va_G) (c0 c1 : ClassId) (y : tc_MI) (av : List Value) (ws0 : va_W) (P : va_W → Prop) : Prop := ∀ sz : Nat, Met l y.1 (tc_ws y) y.2.2.2.2 (tc_Pn D c0 c1 av ws0 sz) (tc_Qn D ws0 sz P) y.2.2.2.2.cells y.2.2.2.2.slots (va_A ws0 sz)
def tc_Cx (D : va_G) (c0 c1 : ClassId) (y : tc_MI) : tc_X → Prop
  | (p, _, s, m, args, _, meth, c) => p.tables.exec = Jvm.exec ∧ c.code = y.2.1 ∧ meth.sig.returnType = y.2.2.2.1 ∧ c.maxLocals = y.2.2.1 ∧ s.vm.findClass y.1.cls = some m.cls ∧ (∀ w ∈ tc_ws y, w.before args s = true) ∧ meth.locks = false ∧ va_K D tc_classes [(c0, .int), (c1, .boolean)] s ∧ meth.name = "<init>"
def tc_An (l : Launch) (D : va_G) (c0 c1 : ClassId) (y : tc_MI) (ws0 : va_W) (P : va_W → Prop) : tc_X → Nat → List (Nat × Value) → List Value → va_W → Nat → Nat → Prop
  | (p, e, s, m, args, below, meth, c), pc, L, st, ws, k, n => tc_Cx D c0 c1 y (p, e, s, m, args, below, meth, c) → ∀ (H : Heap) (locs : List Loc) (ls : Array Slot), va_P D tc_classes ws H → va_D (va_A ws0 s.heap.size) ws → va_S (va_A ws0 s.heap.size) s.heap H locs → lv_has ls y.2.2.1 L → W p l e y.2.2.2.2 s m args below meth c H locs k n (MQ below (tc_Qn D ws0 s.heap.size P) args s y.2.2.2.2.cells y.2.2.2.2.slots (va_A ws0 s.heap.size)) (F0 m pc ls st)
theorem tc_nblind {D : va_G} {c0 c1 : ClassId} {av : List Value} {ws0 : va_W} {sz : Nat} : FrameBlind (tc_Pn D c0 c1 av ws0 sz) := by
  intro a U g mk q
  obtain ⟨q0, q1, q2, q3, q4⟩ := q
  exact ⟨q0, q1, q2, va_K.moved (u := U) (U := U.calling g mk a) (Vm.Alike.refl U.vm) q3, q4⟩
section CTOR
variable {l : Launch} {D : va_G} {c0 c1 : ClassId} {y : tc_MI} {ws0 : va_W} {P : va_W → Prop} {X : tc_X} {pc : Nat} {L : List (Nat × Value)} {st : List Value} {ws : va_W} {k n : Nat}
theorem tc_Cn.of {av : List Value} {L : List (Nat × Value)} (hp : plainName y.1.cls = true) (hnm : y.1.name = "<init>") (hn : (lg_sl av).length ≤ y.2.2.1) (hL : lv_args 0 av = L) (h : ∀ X : tc_X, tc_An l D c0 c1 y ws0 P X 0 L [] ws0 0 0) : tc_Cn l D c0 c1 y av ws0 P := by
  intro sz
  refine Met.ofW (cc := y.2.1) (maxL := y.2.2.1) (ret := y.2.2.2.1) hp rfl ?_
  intro p e s m args below meth c s₁ B hml hv
  obtain ⟨rfl, hsz, hP, hK, hD⟩ := hv
  subst hsz
  have hl := lv_entry av (n := y.2.2.1) hn
  rw [hL] at hl
  rw [lg_entry_eq]
  exact h (p, e, s, m, av.toArray, below, meth, c) ⟨B.exec, B.bytes, B.returns, hml, findClass_of_methodNamed B.named, atoms_spec (ws := tc_ws y) B.pre, B.notSynchronized, hK, (name_of_methodNamed B.named B.method).1.trans hnm⟩ s.heap [] _ hP hD.self va_S.rf hl
theorem tc_n_iconst {i : Int} {v : Int32} (hd : decode y.2.1 pc = .ok (.iconst i, 1)) (hv : Int32.ofInt i = v) (K : tc_An l D c0 c1 y ws0 P X (pc + 1) L (.int v :: st) ws k n) : tc_An l D c0 c1 y ws0 P X pc L st ws k n := by
  obtain ⟨p, e, s, m, args, below, meth, c⟩ := X
  intro hC H locs ls hP hD hS hl
  exact lv_iconst hC.1 hC.2.1 hd hv (K hC H locs ls hP hD hS hl)
theorem tc_n_bipush {i : Int} {v : Int32} (hd : decode y.2.1 pc = .ok (.bipush i, 2)) (hv : (Int8.ofInt i).toInt32 = v) (K : tc_An l D c0 c1 y ws0 P X (pc + 2) L (.int v :: st) ws k n) : tc_An l D c0 c1 y ws0 P X pc L st ws k n := by
  obtain ⟨p, e, s, m, args, below, meth, c⟩ := X
  intro hC H locs ls hP hD hS hl
  exact lv_bipush hC.1 hC.2.1 hd hv (K hC H locs ls hP hD hS hl)
theorem tc_n_sipush {i : Int} {v : Int32} (hd : decode y.2.1 pc = .ok (.sipush i, 3)) (hv : (Int16.ofInt i).toInt32 = v) (K : tc_An l D c0 c1 y ws0 P X (pc + 3) L (.int v :: st) ws k n) : tc_An l D c0 c1 y ws0 P X pc L st ws k n := by
  obtain ⟨p, e, s, m, args, below, meth, c⟩ := X
  intro hC H locs ls hP hD hS hl
  exact lv_sipush hC.1 hC.2.1 hd hv (K hC H locs ls hP hD hS hl)
theorem tc_n_aload_n {i : Fin 4} {x : Nat} (hd : decode y.2.1 pc = .ok (.aload_n i, 1)) (j : Nat) (hj : L[j]? = some ((i : Nat), .ref x)) (K : tc_An l D c0 c1 y ws0 P X (pc + 1) L (.ref x :: st) ws k n) : tc_An l D c0 c1 y ws0 P X pc L st ws k n := by
  obtain ⟨p, e, s, m, args, below, meth, c⟩ := X
  intro hC H locs ls hP hD hS hl
  exact lv_aload_n hC.1 hC.2.1 hd rfl (lv_at hl j hj) (K hC H locs ls hP hD hS hl)
theorem tc_n_iload_n {i : Fin 4} {x : Int32} (hd : decode y.2.1 pc = .ok (.iload_n i, 1)) (j : Nat) (hj : L[j]? = some ((i : Nat), .int x)) (K : tc_An l D c0 c1 y ws0 P X (pc + 1) L (.int x :: st) ws k n) : tc_An l D c0 c1 y ws0 P X pc L st ws k n := by
  obtain ⟨p, e, s, m, args, below, meth, c⟩ := X
  intro hC H locs ls hP hD hS hl
  exact lv_iload_n hC.1 hC.2.1 hd rfl (lv_at hl j hj) (K hC H locs ls hP hD hS hl)
theorem tc_n_dup {v : Value} (hd : decode y.2.1 pc = .ok (.dup, 1)) (hv : v.category = 1) (K : tc_An l D c0 c1 y ws0 P X (pc + 1) L (v :: v :: st) ws k n) : tc_An l D c0 c1 y ws0 P X pc L (v :: st) ws k n := by
  obtain ⟨p, e, s, m, args, below, meth, c⟩ := X
  intro hC H locs ls hP hD hS hl
  exact lv_dup hC.1 hC.2.1 hd hv (K hC H locs ls hP hD hS hl)
theorem tc_n_istore_n {i : Fin 4} {x : Int32} {L' : List (Nat × Value)} (hd : decode y.2.1 pc = .ok (.istore_n i, 1)) (hn : (i : Nat) < y.2.2.1) (hl' : ((i : Nat), Value.int x) :: L.filter (fun q => !(q.1 == (i : Nat)) && !(q.1 + 1 == (i : Nat) && q.2.category == 2)) = L') (K : tc_An l D c0 c1 y ws0 P X (pc + 1) L' st ws k n) : tc_An l D c0 c1 y ws0 P X pc L (.int x :: st) ws k n := by
  obtain ⟨p, e, s, m, args, below, meth, c⟩ := X
  intro hC H locs ls hP hD hS hl
  exact lv_istore_n hC.1 hC.2.1 hd rfl hl hn hl' (fun ls' h' => K hC H locs ls' hP hD hS h')
theorem tc_n_iinc {i j : Nat} {z : Int} {x v : Int32} {L' : List (Nat × Value)} (hd : decode y.2.1 pc = .ok (.iinc i z, 3)) (hj : L[j]? = some (i, .int x)) (hv : x + Int32.ofInt z = v) (hn : i < y.2.2.1) (hl' : (i, Value.int v) :: L.filter (fun q => !(q.1 == i) && !(q.1 + 1 == i && q.2.category == 2)) = L') (K : tc_An l D c0 c1 y ws0 P X (pc + 3) L' st ws k n) : tc_An l D c0 c1 y ws0 P X pc L st ws k n := by
  obtain ⟨p, e, s, m, args, below, meth, c⟩ := X
  intro hC H locs ls hP hD hS hl
  exact lv_iinc hC.1 hC.2.1 hd hl hj hv hn hl' (fun ls' h' => K hC H locs ls' hP hD hS h')
theorem tc_n_goto {off : Int} {tgt : Nat} (hd : decode y.2.1 pc = .ok (.goto off, 3)) (ht : (pc : Int) + off = (tgt : Int)) (K : tc_An l D c0 c1 y ws0 P X tgt L st ws k n) : tc_An l D c0 c1 y ws0 P X pc L st ws k n := by
  obtain ⟨p, e, s, m, args, below, meth, c⟩ := X
  intro hC H locs ls hP hD hS hl
  exact lv_goto hC.1 hC.2.1 hd ht (K hC H locs ls hP hD hS hl)
theorem tc_n_geT {x w : Int32} {off : Int} {tgt : Nat} (hd : decode y.2.1 pc = .ok (.if_icmp .ge off, 3)) (ht : (pc : Int) + off = (tgt : Int)) (hq : w ≤ x) (K : tc_An l D c0 c1 y ws0 P X tgt L st ws k n) : tc_An l D c0 c1 y ws0 P X pc L (.int w :: .int x :: st) ws k n := by
  obtain ⟨p, e, s, m, args, below, meth, c⟩ := X
  intro hC H locs ls hP hD hS hl
  exact lv_icmp_ge hC.1 hC.2.1 hd ht (fun _ => K hC H locs ls hP hD hS hl) (fun q => absurd hq q)
theorem tc_n_geF {x w : Int32} {off : Int} {tgt : Nat} (hd : decode y.2.1 pc = .ok (.if_icmp .ge off, 3)) (ht : (pc : Int) + off = (tgt : Int)) (hq : ¬ w ≤ x) (K : tc_An l D c0 c1 y ws0 P X (pc + 3) L st ws k n) : tc_An l D c0 c1 y ws0 P X pc L (.int w :: .int x :: st) ws k n := by
  obtain ⟨p, e, s, m, args, below, meth, c⟩ := X
  intro hC H locs ls hP hD hS hl
  exact lv_icmp_ge hC.1 hC.2.1 hd ht (fun q => absurd q hq) (fun _ => K hC H locs ls hP hD hS hl)
theorem tc_n_oinit {index a : Nat} (hd : decode y.2.1 pc = .ok (.invokespecial index, 3)) (hw : Cond.methodLink y.1.cls index Lib.objectInit ∈ tc_gw) (ho : Cond.instanceMethod Lib.objectInit ∈ tc_gw ∧ Cond.code Lib.objectInit ⟨#[0xb1]⟩ 1 none ∈ tc_gw) (hf : 1 ≤ y.2.2.2.2.frames) (hlo : (st.map fun v => v.category).sum + 12 ≤ y.2.2.2.2.locals) (K : tc_An l D c0 c1 y ws0 P X (pc + 3) L st ws k n) : tc_An l D c0 c1 y ws0 P X pc L (.ref a :: st) ws k n := by
  obtain ⟨p, e, s, m, args, below, meth, c⟩ := X
  intro hC H locs ls hP hD hS hl
  have hg : ∀ w, w ∈ tc_gw → w.before args s = true := fun w h => hC.2.2.2.2.2.1 w (List.mem_cons_of_mem _ h)
  exact W.objInit hC.1 hC.2.1 hC.2.2.2.2.1 (hg _ hw) (hg _ ho.1) (hg _ ho.2) rfl (by rw [hC.2.2.2.1]; exact hl.1) rfl hd hf (by show 2 * 0 + _ + 12 ≤ _; omega) (K hC H locs ls hP hD hS hl)
theorem tc_n_newi {N : Nat} {i : Int32} {ws' : Nat → va_W} (hd : decode y.2.1 pc = .ok (.newarray .int, 2)) (hw : Cond.arrayClass .int ∈ tc_gw) (hi : ¬ i < 0) (hN : i.toNatClampNeg = N) (hb : N * 4 ≤ 536870912) (hr : k + 1 ≤ y.2.2.2.2.cells ∧ n + N ≤ y.2.2.2.2.slots) (hw' : ∀ q, ws ++ [tc_zi c0 N q] = ws' q) (K : ∀ q, tc_An l D c0 c1 y ws0 P X (pc + 2) L (.ref q :: st) (ws' q) (k + 1) (n + N)) : tc_An l D c0 c1 y ws0 P X pc L (.int i :: st) ws k n := by
  obtain ⟨p, e, s, m, args, below, meth, c⟩ := X
  intro hC H locs ls hP hD hS hl
  refine va_newa (atype := .int) (ty := .int) (a0 := (N, .inl (fun _ => 0))) hC.1 hC.2.1 (hC.2.2.2.2.2.1 _ (List.mem_cons_of_mem _ hw)) rfl hC.2.2.2.2.2.2.2.1 hP hD hS (fun q h => Or.inr h) (fun _ => rfl) hi hN hb hr.1 hr.2 hd (fun q cA H1 hK1 hP1 hD1 hS1 => ?_)
  have e1 := (hK1.2 2 (cA, .int) rfl).2
  have e2 := (hK1.2 0 (c0, .int) rfl).2
  obtain rfl : cA = c0 := Option.some.inj ((show s.vm.findClass _ = some cA from e1).symm.trans (show s.vm.findClass _ = some c0 from e2))
  have := hw' q
  exact K q hC H1 locs ls (by rw [← this]; exact hP1) (by rw [← this]; exact hD1) hS1 hl
theorem tc_n_newz {N : Nat} {i : Int32} {ws' : Nat → va_W} (hd : decode y.2.1 pc = .ok (.newarray .boolean, 2)) (hw : Cond.arrayClass .boolean ∈ tc_gw) (hi : ¬ i < 0) (hN : i.toNatClampNeg = N) (hb : N * 1 ≤ 536870912) (hr : k + 1 ≤ y.2.2.2.2.cells ∧ n + N ≤ y.2.2.2.2.slots) (hw' : ∀ q, ws ++ [tc_zi c1 N q] = ws' q) (K : ∀ q, tc_An l D c0 c1 y ws0 P X (pc + 2) L (.ref q :: st) (ws' q) (k + 1) (n + N)) : tc_An l D c0 c1 y ws0 P X pc L (.int i :: st) ws k n := by
  obtain ⟨p, e, s, m, args, below, meth, c⟩ := X
  intro hC H locs ls hP hD hS hl
  refine va_newa (atype := .boolean) (ty := .boolean) (a0 := (N, .inl (fun _ => 0))) hC.1 hC.2.1 (hC.2.2.2.2.2.1 _ (List.mem_cons_of_mem _ hw)) rfl hC.2.2.2.2.2.2.2.1 hP hD hS (fun q h => Or.inr h) (fun _ => rfl) hi hN hb hr.1 hr.2 hd (fun q cA H1 hK1 hP1 hD1 hS1 => ?_)
  have e1 := (hK1.2 2 (cA, .boolean) rfl).2
  have e2 := (hK1.2 1 (c1, .boolean) rfl).2
  obtain rfl : cA = c1 := Option.some.inj ((show s.vm.findClass _ = some cA from e1).symm.trans (show s.vm.findClass _ = some c1 from e2))
  have := hw' q
  exact K q hC H1 locs ls (by rw [← this]; exact hP1) (by rw [← this]; exact hD1) hS1 hl
theorem tc_n_new {ci N index : Nat} {C : String} {T : u_T} {ty0 : Nat → FieldType} {fs : List Value} {ws' : Nat → va_W} (hd : decode y.2.1 pc = .ok (.new index, 3)) (hin : ∀ w ∈ u_ws C T N, w ∈ lw_tbl ∧ goodWord w = true) (hty : ∀ k, k < N → parseFieldDescriptor (T k).2.2.1 = some (ty0 k)) (hc : tc_classes[ci]? = some (C, T, N)) (hw : Cond.classLink y.1.cls index C ∈ tc_gw ∧ Cond.instantiable C N ∈ tc_gw ∧ Cond.initialized C ∈ tc_gw) (hfs : ∀ j, j < N → defaultValue (ty0 j) = vp_V fs j) (hr : k + 1 ≤ y.2.2.2.2.cells ∧ n + N ≤ y.2.2.2.2.slots) (hw' : ∀ q, ws ++ [(q, .inr (ci, fs))] = ws' q) (K : ∀ q, tc_An l D c0 c1 y ws0 P X (pc + 3) L (.ref q :: st) (ws' q) (k + 1) (n + N)) : tc_An l D c0 c1 y ws0 P X pc L st ws k n := by
  obtain ⟨p, e, s, m, args, below, meth, c⟩ := X
  intro hC H locs ls hP hD hS hl
  have hg : ∀ w, w ∈ tc_gw → w.before args s = true := fun w h => hC.2.2.2.2.2.1 w (List.mem_cons_of_mem _ h)
  refine va_new (C := C) (T := T) (N := N) hC.1 hC.2.1 hC.2.2.2.2.2.1 (fun w h => List.mem_cons_of_mem _ (List.mem_filter.mpr (hin w h))) ty0 hty hC.2.2.2.2.1 (hg _ hw.1) (hg _ hw.2.1) (hg _ hw.2.2) hC.2.2.2.2.2.2.2.1 hP hD hS (fun q h => Or.inr h) hc hfs hr.1 hr.2 hd (fun q H1 hP1 hD1 hS1 => ?_)
  have := hw' q
  exact K q hC H1 locs ls (by rw [← this]; exact hP1) (by rw [← this]; exact hD1) hS1 hl
theorem tc_n_putF {ci i index N : Nat} {C : String} {T : u_T} {ty0 : Nat → FieldType} {fs : List Value} {a j : Nat} {v : Value} {ty : FieldType} {ws' : va_W} (hd : decode y.2.1 pc = .ok (.putfield index, 3)) (hin : ∀ w ∈ u_ws C T N, w ∈ lw_tbl ∧ goodWord w = true) (hc : tc_classes[ci]? = some (C, T, N)) (hj : j < N) (hw : Cond.fieldLink y.1.cls index (T j).1 (T j).2.1 (T j).2.2.1 ∈ tc_gw) (he : ws[i]? = some (a, .inr (ci, fs))) (hty : ∀ k, k < N → parseFieldDescriptor (T k).2.2.1 = some (ty0 k)) (hnm : ∀ a, a < N → ∀ b, b < N → a ≠ b → (T a).2.1 ≠ (T b).2.1) (hfin : (T j).2.2.2 = true) (hdecl : (T j).1 = y.1.cls) (hpt : parseFieldDescriptor (T j).2.2.1 = some ty) (hnar : narrow ty v = v) (hfit : fits ty v = true) (hlen : j < fs.length) (hw' : ws.set i (a, .inr (ci, fs.set j v)) = ws') (K : tc_An l D c0 c1 y ws0 P X (pc + 3) L st ws' k n) : tc_An l D c0 c1 y ws0 P X pc L (v :: .ref a :: st) ws k n := by
  subst hw'
  obtain ⟨p, e, s, m, args, below, meth, c⟩ := X
  intro hC H locs ls hP hD hS hl
  exact va_putF (C := C) (T := T) (N := N) (ref := (T j).1) hC.1 hC.2.1 hC.2.2.2.2.2.1 (fun w h => List.mem_cons_of_mem _ (List.mem_filter.mpr (hin w h))) ty0 hty hnm hC.2.2.2.2.1 hC.2.2.2.2.2.2.2.1 hP hD hS i he hc j hj (hC.2.2.2.2.2.1 _ (List.mem_cons_of_mem _ hw)) (fun _ h => h) hfin hC.2.2.2.2.2.2.2.2 hdecl hpt hnar hfit hlen hd (fun H1 locs1 hP1 hD1 hS1 => K hC H1 locs1 ls hP1 hD1 hS1 hl)
theorem tc_n_put {ci i index N : Nat} {C : String} {T : u_T} {ty0 : Nat → FieldType} {fs : List Value} {a j : Nat} {v : Value} {ty : FieldType} {ws' : va_W} (hd : decode y.2.1 pc = .ok (.putfield index, 3)) (hin : ∀ w ∈ u_ws C T N, w ∈ lw_tbl ∧ goodWord w = true) (hc : tc_classes[ci]? = some (C, T, N)) (hj : j < N) (hw : Cond.fieldLink y.1.cls index (T j).1 (T j).2.1 (T j).2.2.1 ∈ tc_gw) (he : ws[i]? = some (a, .inr (ci, fs))) (hty : ∀ k, k < N → parseFieldDescriptor (T k).2.2.1 = some (ty0 k)) (hnm : ∀ a, a < N → ∀ b, b < N → a ≠ b → (T a).2.1 ≠ (T b).2.1) (hfin : (T j).2.2.2 = false) (hpt : parseFieldDescriptor (T j).2.2.1 = some ty) (hnar : narrow ty v = v) (hfit : fits ty v = true) (hlen : j < fs.length) (hw' : ws.set i (a, .inr (ci, fs.set j v)) = ws') (K : tc_An l D c0 c1 y ws0 P X (pc + 3) L st ws' k n) : tc_An l D c0 c1 y ws0 P X pc L (v :: .ref a :: st) ws k n := by
  subst hw'
  obtain ⟨p, e, s, m, args, below, meth, c⟩ := X
  intro hC H locs ls hP hD hS hl
  exact va_put (C := C) (T := T) (N := N) (ref := (T j).1) hC.1 hC.2.1 hC.2.2.2.2.2.1 (fun w h => List.mem_cons_of_mem _ (List.mem_filter.mpr (hin w h))) ty0 hty hnm hC.2.2.2.2.1 hC.2.2.2.2.2.2.2.1 hP hD hS i he hc j hj (hC.2.2.2.2.2.1 _ (List.mem_cons_of_mem _ hw)) (fun _ h => h) hfin hpt hnar hfit hlen hd (fun H1 locs1 hP1 hD1 hS1 => K hC H1 locs1 ls hP1 hD1 hS1 hl)
theorem tc_n_get {ci i index N : Nat} {C : String} {T : u_T} {fs : List Value} {a j : Nat} {v : Value} (hd : decode y.2.1 pc = .ok (.getfield index, 3)) (hin : ∀ w ∈ u_ws C T N, w ∈ lw_tbl ∧ goodWord w = true) (hc : tc_classes[ci]? = some (C, T, N)) (hj : j < N) (hw : Cond.fieldLink y.1.cls index (T j).1 (T j).2.1 (T j).2.2.1 ∈ tc_gw) (he : ws[i]? = some (a, .inr (ci, fs))) (hv : fs[j]? = some v) (K : tc_An l D c0 c1 y ws0 P X (pc + 3) L (v :: st) ws k n) : tc_An l D c0 c1 y ws0 P X pc L (.ref a :: st) ws k n := by
  obtain ⟨p, e, s, m, args, below, meth, c⟩ := X
  intro hC H locs ls hP hD hS hl
  exact va_get (C := C) (T := T) (N := N) (ref := (T j).1) hC.1 hC.2.1 hC.2.2.2.2.2.1 (fun w h => List.mem_cons_of_mem _ (List.mem_filter.mpr (hin w h))) hC.2.2.2.2.1 hC.2.2.2.2.2.2.2.1 hP i he hc j hj (hC.2.2.2.2.2.1 _ (List.mem_cons_of_mem _ hw)) (fun _ h => h) hv hd (K hC H locs ls hP hD hS hl)
theorem tc_n_iast {i N a : Nat} {f : Nat → Int32} {j x : Int32} {ws' : va_W} (hd : decode y.2.1 pc = .ok (.iastore, 1)) (he : ws[i]? = some (a, .inl (c0, N, .inl f))) (hj : vp_in j N) (hw' : ws.set i (a, .inl (c0, N, .inl (upd f j.toNatClampNeg x))) = ws') (K : tc_An l D c0 c1 y ws0 P X (pc + 1) L st ws' k n) : tc_An l D c0 c1 y ws0 P X pc L (.int x :: .int j :: .ref a :: st) ws k n := by
  subst hw'
  obtain ⟨p, e, s, m, args, below, meth, c⟩ := X
  intro hC H locs ls hP hD hS hl
  exact va_iast hC.1 hC.2.1 hC.2.2.2.2.2.2.2.1 hP hD hS i 0 he rfl hj hd (fun H1 locs1 hP1 hD1 hS1 => K hC H1 locs1 ls hP1 hD1 hS1 hl)
theorem tc_n_ret (hd : decode y.2.1 pc = .ok (.return_, 1)) (hr : y.2.2.2.1 = none) (hw : P ws) (hk : k = y.2.2.2.2.cells ∧ n = y.2.2.2.2.slots) : tc_An l D c0 c1 y ws0 P X pc L [] ws k n := by
  obtain ⟨rfl, rfl⟩ := hk
  obtain ⟨p, e, s, m, args, below, meth, c⟩ := X
  intro hC H locs ls hP hD hS hl
  have hlocks : meth.locks = false := hC.2.2.2.2.2.2.1
  exact W.vret hC.1 hC.2.1 (hC.2.2.1.trans hr) (fun t ht _ => ⟨rfl, ⟨ws, hw, by rw [ht]; exact hP, hD⟩, hS.F ht⟩) hS.2.2 hd
def tc_OkI (nm : MethodName) (cd : ByteArray) (ml np : Nat) : Prop := Cond.code nm cd ml none ∈ tc_gw ∧ Cond.initialized nm.cls ∈ tc_gw ∧ (nm.cls ≠ "java/lang/invoke/MethodHandle" ∧ nm.cls ≠ "java/lang/invoke/VarHandle" ∧ (parseMethodDescriptor nm.desc).map (fun d => d.parameters.length) = some np) ∧ nm.name = "<init>" ∧ Cond.instanceMethod nm ∈ tc_gw
theorem tc_n_call {nm : MethodName} {cd : ByteArray} {ml np index a : Nat} {rm : Room} {ent : va_E} {As rest : List Value} {wr : va_W} {Pz : va_W → Prop} {st0 : List Value} (i : Nat) (isR : List Nat) (hd : decode y.2.1 pc = .ok (.invokespecial index, 3)) (hz : tc_OkI nm cd ml np) (hlk : Cond.methodLink y.1.cls index nm ∈ tc_gw) (hR : rm.frames + 1 ≤ y.2.2.2.2.frames ∧ 8 + (ml + 11) + rm.locals ≤ y.2.2.2.2.locals) (hi : ws[i]? = some (a, ent)) (hr : isR.map (fun i => ws[i]?) = wr.map some) (hnd : va_nd isR = true) (hdis : ∀ j ∈ isR, j ∉ [i])
    (hcon : tc_Cn l D c0 c1 (nm, cd, ml, none, rm) (.ref a :: As) [(a, ent)] Pz) (hn : As.length = np) (hst : st0 = As.reverse ++ .ref a :: rest) (hrest : (rest.map fun v => v.category).sum ≤ 8) (hc : k + rm.cells ≤ y.2.2.2.2.cells ∧ n + rm.slots ≤ y.2.2.2.2.slots) (K : ∀ w1, Pz w1 → tc_An l D c0 c1 y ws0 P X (pc + 3) L rest (wr ++ w1) (k + rm.cells) (n + rm.slots)) : tc_An l D c0 c1 y ws0 P X pc L st0 ws k n := by
  subst hst
  obtain ⟨p, e, s, m, args, below, meth, c⟩ := X
  intro hC H locs ls hP hD hS hl
  obtain ⟨hx, hb, hr0, hml, hown, hts, hlk0, hK, hinm⟩ := id hC
  obtain ⟨z1, z2, z3, z4, z5⟩ := hz
  have hg : ∀ w, w ∈ tc_gw → w.before args s = true := fun w h => hts w (List.mem_cons_of_mem _ h)
  have hA : ∀ q, s.heap.size ≤ q → va_A ws0 s.heap.size q := fun q h => Or.inr h
  have hmap : [i].map (fun i => ws[i]?) = [(a, ent)].map some := by simp [hi]
  have hF := va_free (wc := [(a, ent)]) hD hS hA [i] hmap
  have hPc := hP.sub (ws' := [(a, ent)]) [i] (by simp [hi])
  have hDc := hD.sub (ws' := [(a, ent)]) [i] rfl hmap
  have hcw : CallB y.2.2.2.2 s args y.1.cls index nm cd ml none (tc_ws (nm, cd, ml, none, rm)) rm rm.cells rm.slots np := callB_of np hts (tc_goodIn (z := (nm, cd, ml, none, rm)) z1) rfl rfl rfl (hg _ z2) (hg _ hlk) z3 hR
  have hrun := va_runI (l := l) (e := e) (below := below) (meth := meth) (locs := locs) (cells := k) (slots := n) (g := F0 m pc ls (As.reverse ++ .ref a :: rest)) (As := As) (rest := rest) (b := a) ⟨hx, hb, hml, hown, hts⟩ (hcon H.size) ⟨hcw, z4, hg _ z5⟩ ⟨tc_nblind, fun U hU hW => ⟨rfl, by rw [hU], by rw [hU]; exact hPc, va_K.moved hW.alike hK, hDc.weaken (fun _ _ _ _ => trivial)⟩⟩ rfl hn hl.1 rfl (lv_room hrest) hd hc
  intro T hT X
  obtain ⟨v, st₀, t, T', L1, h0, X', hL, e1, e2, ⟨hv, ⟨w1, hw1, hP1, hD1⟩, hz1, hk1⟩, st⟩ := hrun T hT X
  cases hv
  rw [h0] at hz1 hk1
  obtain ⟨hP2, hD2⟩ := va_join (wr := wr) (w1 := w1) (H1 := t.heap) hP hD [i] isR hmap hr hnd hdis hk1 hF hP1 hD1
  obtain ⟨t2, a1, b1⟩ := K w1 hw1 hC T'.heap (locs ++ L1) ls (by rw [e1]; exact hP2) hD2 ⟨Nat.le_trans hS.1 (by rw [e1]; exact hz1), fun q h1 h2 => by
      rw [e1, hk1 q (Nat.lt_of_lt_of_le h1 hS.1) (fun z => h2 (hF q z))]
      exact hS.2.1 q h1 h2, fun q hq => by
      rcases List.mem_append.mp hq with h | h
      · exact hS.2.2 q h
      · exact hF _ (hL q h)⟩ hl T' rfl X'
  exact ⟨t2, st t2 a1, b1⟩
end CTOR
