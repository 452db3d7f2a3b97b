section CALLS
variable {l : Launch} {G : tc_G} {y : tc_MI} {ρ : Option Value} {μ' : tc_Mem} {X : tc_X} {pc : Nat} {L : List (Nat × Value)} {st : List Value} {μ : tc_Mem}
theorem tc_St.enter {s U : State} {H : Heap} {locs : List Loc} (h : tc_St G s.heap.size s) (hS : va_S (tc_A G s.heap.size) s.heap H locs) (hU : U.heap = H) (hW : s.WarmedH U.vm) : tc_St G H.size U := by
  obtain ⟨h1, h2, h3, h4, h5⟩ := h
  refine ⟨va_K.moved hW.alike h1, h2, ?_, h4.warm hW, h5.warm hW⟩
  rw [hU]
  exact ((h3.kept (fun a ha hn => hS.2.1 a ha hn)).narrow (fun q hq => tc_A.mono hS.1 q hq)).moved hW.alike
/-- behind a call -/
theorem tc_go {p : Program} {e : Env} {R : Room} {s : State} {m : MethodId} {args : Array Value} {below : List Frame} {meth : Method} {c : Code} {H : Heap} {locs : List Loc} {Q : State → Prop} {ls : Array Slot} {rest st0 : List Value} {ρ1 : Option Value} {μ1 : tc_Mem} {av : Array Value}
    (hr : va_Run p l e R s m args below meth c H locs 0 0 0 0 (F0 m pc ls st0) rest (tc_Qc G H.size ρ1 μ1 av) (tc_A G H.size)) (hS : va_S (tc_A G s.heap.size) s.heap H locs)
    (kk : ∀ (H1 : Heap) (locs1 : List Loc), va_P G.1 tc_classes (tc_wd G μ1) H1 → va_S (tc_A G s.heap.size) s.heap H1 locs1 → W p l e R s m args below meth c H1 locs1 0 0 Q (F0 m (pc + 3) ls (ρ1.toList ++ rest))) : W p l e R s m args below meth c H locs 0 0 Q (F0 m pc ls st0) := by
  intro T hT X
  obtain ⟨v, st₀, t, T', L, h0, X', hL, e1, e2, ⟨hv, hP1, hz, hk⟩, st⟩ := hr T hT X
  cases hv
  rw [h0] at hz hk
  obtain ⟨t2, a1, b1⟩ := kk T'.heap (locs ++ L) (by rw [e1]; exact hP1) ⟨Nat.le_trans hS.1 (by rw [e1]; exact hz), fun q h1 h2 => by
      rw [e1, hk q (Nat.lt_of_lt_of_le h1 hS.1) (fun z => h2 (tc_A.mono hS.1 q z))]
      exact hS.2.1 q h1 h2, fun q hq => by
      rcases List.mem_append.mp hq with h | h
      · exact hS.2.2 q h
      · exact tc_A.mono hS.1 _ (hL q h)⟩ T' rfl X'
  exact ⟨t2, st t2 a1, b1⟩
def tc_Ok (z : tc_MI) (n : Nat) : Prop := Cond.code z.1 z.2.1 z.2.2.1 z.2.2.2.1 ∈ tc_gw ∧ Cond.initialized z.1.cls ∈ tc_gw ∧ (z.1.cls ≠ "java/lang/invoke/MethodHandle" ∧ z.1.cls ≠ "java/lang/invoke/VarHandle" ∧ (parseMethodDescriptor z.1.desc).map (fun d => d.parameters.length) = some n) ∧ z.2.2.2.2.cells = 0 ∧ z.2.2.2.2.slots = 0
def tc_OkV (z : tc_MI) (n : Nat) : Prop := tc_Ok z n ∧ Cond.instanceMethod z.1 ∈ tc_gw ∧ Cond.selects z.1.cls z.1 z.1 ∈ tc_gw
def tc_OkS (z : tc_MI) (n : Nat) : Prop := tc_Ok z n ∧ Cond.static z.1 ∈ tc_gw
def tc_Rm (y z : tc_MI) : Prop := z.2.2.2.2.frames + 1 ≤ y.2.2.2.2.frames ∧ 8 + (z.2.2.1 + 11) + z.2.2.2.2.locals ≤ y.2.2.2.2.locals
theorem tc_callV {z : tc_MI} {index n ci a N : Nat} {fs : List (Option Nat)} {T : u_T} {As rest : List Value} {ρ1 : Option Value} {μ1 : tc_Mem} {st0 : List Value}
    (hd : decode y.2.1 pc = .ok (.invokevirtual index, 3)) (hz : tc_OkV z n) (hlk : Cond.methodLink y.1.cls index z.1 ∈ tc_gw) (hR : tc_Rm y z) (ha : tc_sk[a]? = some (.inr (ci, fs))) (hc : tc_classes[ci]? = some (z.1.cls, T, N))
    (hcon : tc_Con l G z (.ref (tc_ad G a) :: As) μ ρ1 μ1) (hn : As.length = n) (hst : st0 = As.reverse ++ .ref (tc_ad G a) :: rest) (hrest : (rest.map fun v => v.category).sum ≤ 8) (K : tc_At l G y ρ μ' X (pc + 3) L (ρ1.toList ++ rest) μ1) : tc_At l G y ρ μ' X pc L st0 μ := by
  subst hst
  obtain ⟨p, e, s, m, args, below, meth, c⟩ := X
  intro hC H locs ls hP hS hl
  obtain ⟨hx, hb, hr, hml, hown, hts, hlk0, hSt⟩ := id hC
  obtain ⟨⟨z1, z2, z3, z4, z5⟩, z6, z7⟩ := hz
  have hg : ∀ w, w ∈ tc_gw → w.before args s = true := fun w h => hts w (List.mem_cons_of_mem _ h)
  have hcw : CallW y.2.2.2.2 s args y.1.cls z.1.cls index z.1 z.2.1 z.2.2.1 z.2.2.2.1 (tc_ws z) z.2.2.2.2 0 0 n := ⟨callB_of n hts (tc_goodIn z1) rfl z4 z5 (hg _ z2) (hg _ hlk) z3 hR, hg _ z6, hg _ z7⟩
  exact tc_go (va_runV (As := As) (rest := rest) (b := tc_ad G a) ⟨hx, hb, hml, hown, hts⟩ (hcon H.size) hcw ⟨tc_blind, va_recv hSt.1 hP hc (tc_world_at ha), fun U hU hW => ⟨rfl, by rw [hU], by rw [hU]; exact hP, hSt.enter hS hU hW⟩⟩ rfl hn hl.1 rfl (lv_room hrest) hd ⟨Nat.zero_le _, Nat.zero_le _⟩) hS (fun H1 locs1 hP1 hS1 => K hC H1 locs1 ls hP1 hS1 hl)
theorem tc_callS {z : tc_MI} {index n : Nat} {As rest : List Value} {ρ1 : Option Value} {μ1 : tc_Mem} {st0 : List Value}
    (hd : decode y.2.1 pc = .ok (.invokestatic index, 3)) (hz : tc_OkS z n) (hlk : Cond.methodLink y.1.cls index z.1 ∈ tc_gw) (hR : tc_Rm y z)
    (hcon : tc_Con l G z As μ ρ1 μ1) (hn : As.length = n) (hst : st0 = As.reverse ++ rest) (hrest : (rest.map fun v => v.category).sum ≤ 8) (K : tc_At l G y ρ μ' X (pc + 3) L (ρ1.toList ++ rest) μ1) : tc_At l G y ρ μ' X pc L st0 μ := by
  subst hst
  obtain ⟨p, e, s, m, args, below, meth, c⟩ := X
  intro hC H locs ls hP hS hl
  obtain ⟨hx, hb, hr, hml, hown, hts, hlk0, hSt⟩ := id hC
  obtain ⟨⟨z1, z2, z3, z4, z5⟩, z6⟩ := hz
  have hg : ∀ w, w ∈ tc_gw → w.before args s = true := fun w h => hts w (List.mem_cons_of_mem _ h)
  have hcw : CallB y.2.2.2.2 s args y.1.cls index z.1 z.2.1 z.2.2.1 z.2.2.2.1 (tc_ws z) z.2.2.2.2 0 0 n := callB_of n hts (tc_goodIn z1) rfl z4 z5 (hg _ z2) (hg _ hlk) z3 hR
  exact tc_go (va_runS (As := As) (rest := rest) ⟨hx, hb, hml, hown, hts⟩ (hcon H.size) ⟨hcw, hg _ z6⟩ ⟨tc_blind, fun U hU hW => ⟨rfl, by rw [hU], by rw [hU]; exact hP, hSt.enter hS hU hW⟩⟩ rfl hn hl.1 rfl (lv_room hrest) hd ⟨Nat.zero_le _, Nat.zero_le _⟩) hS (fun H1 locs1 hP1 hS1 => K hC H1 locs1 ls hP1 hS1 hl)
theorem tc_callN {z : tc_MI} {index n : Nat} {host : String} {As rest : List Value} {ρ1 : Option Value} {μ1 : tc_Mem} {st0 : List Value}
    (hd : decode y.2.1 pc = .ok (.invokestatic index, 3)) (hz : tc_OkS z n) (hlk : ∀ U, tc_Nest U → va_Nw (.methodLinkNest y.1.cls index z.1 host) U) (hR : tc_Rm y z)
    (hcon : tc_Con l G z As μ ρ1 μ1) (hn : As.length = n) (hst : st0 = As.reverse ++ rest) (hrest : (rest.map fun v => v.category).sum ≤ 8) (K : tc_At l G y ρ μ' X (pc + 3) L (ρ1.toList ++ rest) μ1) : tc_At l G y ρ μ' X pc L st0 μ := by
  subst hst
  obtain ⟨p, e, s, m, args, below, meth, c⟩ := X
  intro hC H locs ls hP hS hl
  obtain ⟨hx, hb, hr, hml, hown, hts, hlk0, hSt⟩ := id hC
  obtain ⟨⟨z1, z2, z3, z4, z5⟩, z6⟩ := hz
  have hg : ∀ w, w ∈ tc_gw → w.before args s = true := fun w h => hts w (List.mem_cons_of_mem _ h)
  have hcw := va_cnB (R := y.2.2.2.2) (args := args) (host := host) (maxL := z.2.2.1) n hts (tc_goodIn (y := y) z1) rfl z4 z5 (hlk s hSt.2.2.2.1) (hg _ z2) z3 hR
  exact tc_go (va_runSN (As := As) (rest := rest) ⟨hx, hb, hml, hown, hts⟩ (hcon H.size) ⟨hcw, hg _ z6, trivial⟩ ⟨tc_blind, fun U hU hW => ⟨rfl, by rw [hU], by rw [hU]; exact hP, hSt.enter hS hU hW⟩⟩ rfl hn hl.1 rfl (lv_room hrest) hd ⟨Nat.zero_le _, Nat.zero_le _⟩) hS (fun H1 locs1 hP1 hS1 => K hC H1 locs1 ls hP1 hS1 hl)
theorem tc_mmax {index : Nat} {a b : Int32} {rest : List Value} (hd : decode y.2.1 pc = .ok (.invokestatic index, 3)) (hlk : Cond.methodLink y.1.cls index Lib.Math.max.name ∈ tc_gw) (hw : Cond.static Lib.Math.max.name ∈ tc_gw ∧ Cond.initialized "java/lang/Math" ∈ tc_gw ∧ Cond.code Lib.Math.max.name Lib.Math.max.code 2 (some .int) ∈ tc_gw) (hR : 1 ≤ y.2.2.2.2.frames ∧ (rest.map fun v => v.category).sum + 13 ≤ y.2.2.2.2.locals) (K : tc_At l G y ρ μ' X (pc + 3) L (.int (if a < b then b else a) :: rest) μ) : tc_At l G y ρ μ' X pc L (.int b :: .int a :: rest) μ := by
  obtain ⟨p, e, s, m, args, below, meth, c⟩ := X
  intro hC H locs ls hP hS hl
  have hg : ∀ w, w ∈ tc_gw → w.before args s = true := fun w h => hC.2.2.2.2.2.1 w (List.mem_cons_of_mem _ h)
  exact va_mmax hC.1 hC.2.1 (hC.2.2.2.1.trans hl.1.symm) hC.2.2.2.2.1 (hg _ hlk) (hg _ hw.1) (hg _ hw.2.1) (hg _ hw.2.2) hR.1 hR.2 (Nat.zero_le _) (Nat.zero_le _) hd (K hC H locs ls hP hS hl)
theorem tc_mmin {index : Nat} {a b : Int32} {rest : List Value} (hd : decode y.2.1 pc = .ok (.invokestatic index, 3)) (hlk : Cond.methodLink y.1.cls index Lib.Math.min.name ∈ tc_gw) (hw : Cond.static Lib.Math.min.name ∈ tc_gw ∧ Cond.initialized "java/lang/Math" ∈ tc_gw ∧ Cond.code Lib.Math.min.name Lib.Math.min.code 2 (some .int) ∈ tc_gw) (hR : 1 ≤ y.2.2.2.2.frames ∧ (rest.map fun v => v.category).sum + 13 ≤ y.2.2.2.2.locals) (K : tc_At l G y ρ μ' X (pc + 3) L (.int (if b < a then b else a) :: rest) μ) : tc_At l G y ρ μ' X pc L (.int b :: .int a :: rest) μ := by
  obtain ⟨p, e, s, m, args, below, meth, c⟩ := X
  intro hC H locs ls hP hS hl
  have hg : ∀ w, w ∈ tc_gw → w.before args s = true := fun w h => hC.2.2.2.2.2.1 w (List.mem_cons_of_mem _ h)
  exact va_mmin hC.1 hC.2.1 (hC.2.2.2.1.trans hl.1.symm) hC.2.2.2.2.1 (hg _ hlk) (hg _ hw.1) (hg _ hw.2.1) (hg _ hw.2.2) hR.1 hR.2 (Nat.zero_le _) (Nat.zero_le _) hd (K hC H locs ls hP hS hl)
theorem tc_acpy {index k0 k1 n0 n1 : Nat} {sp dp n : Int32} {rest : List Value} (hd : decode y.2.1 pc = .ok (.invokestatic index, 3)) (hlk : Cond.methodLink y.1.cls index arraycopyName ∈ tc_gw) (hw : Cond.native arraycopyName ∈ tc_gw ∧ Cond.static arraycopyName ∈ tc_gw ∧ Cond.initialized "java/lang/System" ∈ tc_gw) (hR : 1 ≤ y.2.2.2.2.frames ∧ (rest.map fun v => v.category).sum + (nativeFrameWords "java/lang/System" "arraycopy" 5 + 11) ≤ y.2.2.2.2.locals) (ha0 : tc_sk[k0]? = some (.inl (0, n0))) (ha1 : tc_sk[k1]? = some (.inl (0, n1))) (hb : ¬ sp < 0 ∧ ¬ dp < 0 ∧ ¬ n < 0 ∧ sp.toNatClampNeg + n.toNatClampNeg ≤ n0 ∧ dp.toNatClampNeg + n.toNatClampNeg ≤ n1) (K : tc_At l G y ρ μ' X (pc + 3) L rest (tc_row μ k1 (va_cpy (μ k0) (μ k1) sp.toNatClampNeg dp.toNatClampNeg n.toNatClampNeg))) : tc_At l G y ρ μ' X pc L (.int n :: .int dp :: .ref (tc_ad G k1) :: .int sp :: .ref (tc_ad G k0) :: rest) μ := by
  obtain ⟨p, e, s, m, args, below, meth, c⟩ := X
  intro hC H locs ls hP hS hl
  have hg : ∀ w, w ∈ tc_gw → w.before args s = true := fun w h => hC.2.2.2.2.2.1 w (List.mem_cons_of_mem _ h)
  refine va_copyi (ty := .int) hC.1 hC.2.1 (hC.2.2.2.1.trans hl.1.symm) hC.2.2.2.2.1 (hg _ hlk) (hg _ hw.1) (hg _ hw.2.1) (hg _ hw.2.2) hC.2.2.2.2.2.2.2.1 hP (tc_D hC.2.2.2.2.2.2.2.2.1 μ) hS k0 k1 0 0 (tc_world_at ha0) (tc_world_at ha1) rfl rfl rfl hb.1 hb.2.1 hb.2.2.1 hb.2.2.2.1 hb.2.2.2.2 (fun _ _ => rfl) hR.1 hR.2 hd (fun H1 locs1 hP1 _ hS1 => K hC H1 locs1 ls ?_ hS1 hl)
  unfold tc_wd
  rw [← tc_world_set (k := k1) (g := va_cpy (μ k0) (μ k1) sp.toNatClampNeg dp.toNatClampNeg n.toNatClampNeg) ha1 (z := (tc_ad G k1, .inl (G.2.2.1 0, n1, .inl (va_cpy (μ k0) (μ k1) sp.toNatClampNeg dp.toNatClampNeg n.toNatClampNeg)))) (by simp only [tc_cell, tc_row_self]; rfl)]
  exact hP1
/-- static tables -/
theorem tc_gets {index t N : Nat} {nm : String} {f : Nat → Int32} (hd : decode y.2.1 pc = .ok (.getstatic index, 3)) (hlk : Cond.fieldLink y.1.cls index "TrackCircuits" nm "[I" ∈ tc_gw) (hT : ∀ A U H, tc_Stat G A U H → tc_Tab "TrackCircuits" nm (tc_tb G t) N f A U H) (K : tc_At l G y ρ μ' X (pc + 3) L (.ref (tc_tb G t) :: st) μ) : tc_At l G y ρ μ' X pc L st μ := by
  obtain ⟨p, e, s, m, args, below, meth, c⟩ := X
  intro hC H locs ls hP hS hl
  have hg : ∀ w, w ∈ tc_gw → w.before args s = true := fun w h => hC.2.2.2.2.2.1 w (List.mem_cons_of_mem _ h)
  exact va_gets hC.1 hC.2.1 (hT _ _ _ hC.2.2.2.2.2.2.2.2.2.1).1 hS hC.2.2.2.2.1 (hg _ hlk) (fun _ h => h) hd (K hC H locs ls hP hS hl)
theorem tc_tld {t N : Nat} {nm : String} {f : Nat → Int32} {i : Int32} (hd : decode y.2.1 pc = .ok (.iaload, 1)) (hT : ∀ A U H, tc_Stat G A U H → tc_Tab "TrackCircuits" nm (tc_tb G t) N f A U H) (hi : vp_in i N) (K : tc_At l G y ρ μ' X (pc + 1) L (.int (f i.toNatClampNeg) :: st) μ) : tc_At l G y ρ μ' X pc L (.int i :: .ref (tc_tb G t) :: st) μ := by
  obtain ⟨p, e, s, m, args, below, meth, c⟩ := X
  intro hC H locs ls hP hS hl
  exact va_ti hC.1 hC.2.1 (hT _ _ _ hC.2.2.2.2.2.2.2.2.2.1).2 hS hi rfl hd (K hC H locs ls hP hS hl)
theorem tc_tab0 (A : Nat → Prop) (U : State) (H : Heap) (h : tc_Stat G A U H) : tc_Tab "TrackCircuits" "LOOKS" (tc_tb G 0) 6 tc_LOOKS A U H := h.1
theorem tc_tab1 (A : Nat → Prop) (U : State) (H : Heap) (h : tc_Stat G A U H) : tc_Tab "TrackCircuits" "ABOVE" (tc_tb G 1) 6 tc_ABOVE A U H := h.2.1
theorem tc_tab2 (A : Nat → Prop) (U : State) (H : Heap) (h : tc_Stat G A U H) : tc_Tab "TrackCircuits" "NUMBERS" (tc_tb G 2) 8 tc_NUMBERS A U H := h.2.2.1
theorem tc_getsN {index t N : Nat} {nm host : String} {f : Nat → Int32} (hd : decode y.2.1 pc = .ok (.getstatic index, 3)) (hlk : ∀ U, tc_Nest U → va_Nw (.fieldLinkNest y.1.cls index "TrackCircuits" nm "[I" host) U) (hT : ∀ A U H, tc_Stat G A U H → tc_Tab "TrackCircuits" nm (tc_tb G t) N f A U H) (K : tc_At l G y ρ μ' X (pc + 3) L (.ref (tc_tb G t) :: st) μ) : tc_At l G y ρ μ' X pc L st μ := by
  obtain ⟨p, e, s, m, args, below, meth, c⟩ := X
  intro hC H locs ls hP hS hl
  exact va_getsN hC.1 hC.2.1 (hT _ _ _ hC.2.2.2.2.2.2.2.2.2.1).1 hS hC.2.2.2.2.1 (va_Nw.use rfl (hlk s hC.2.2.2.2.2.2.2.2.2.2.1)) (fun _ h => h) hd (K hC H locs ls hP hS hl)
theorem tc_ldcS {index i : Nat} {tx : String} (hd : decode y.2.1 pc = .ok (.ldc index, 2)) (hZ : ∀ U, tc_StrR G U → vk_R y.1.cls index tx (tc_sK G i) U) (K : tc_At l G y ρ μ' X (pc + 2) L (.ref (tc_sK G i) :: st) μ) : tc_At l G y ρ μ' X pc L st μ := by
  obtain ⟨p, e, s, m, args, below, meth, c⟩ := X
  intro hC H locs ls hP hS hl
  exact va_ldcS hC.1 hC.2.1 hC.2.2.2.2.1 (hZ s hC.2.2.2.2.2.2.2.2.2.2.2) hd (K hC H locs ls hP hS hl)
/-! the same, with what the functions say -/
def tc_ck {α : Type} (i : Int32) (n : Nat) (b : Option α) : Option α := if i < 0 ∨ n ≤ i.toNatClampNeg then none else b
def tc_nz {α : Type} (d : Int32) (b : Option α) : Option α := if d = 0 then none else b
def tc_lt {α β : Type} (m : β) (k : β → Option α) : Option α := k m
def tc_bd {α β : Type} (o : Option (β × tc_Mem)) (k : β → tc_Mem → Option α) : Option α := match o with
  | none => none
  | some q => k q.1 q.2
def tc_zr (v : Int32) (μ : tc_Mem) : Option (Int32 × tc_Mem) := if v = 0 ∨ v = 1 then some (v, μ) else none
theorem tc_ckS {α : Type} {i : Int32} {n : Nat} {b : Option α} {z : α} (h : tc_ck i n b = some z) : vp_in i n ∧ b = some z := by
  unfold tc_ck at h
  split at h
  · cases h
  · rename_i q; exact ⟨q, h⟩
theorem tc_nzS {α : Type} {d : Int32} {b : Option α} {z : α} (h : tc_nz d b = some z) : ¬ d = 0 ∧ b = some z := by
  unfold tc_nz at h
  split at h
  · cases h
  · rename_i q; exact ⟨q, h⟩
theorem tc_bdS {α β : Type} {o : Option (β × tc_Mem)} {k : β → tc_Mem → Option α} {z : α} (h : tc_bd o k = some z) : ∃ (r : β) (μ1 : tc_Mem), o = some (r, μ1) ∧ k r μ1 = some z := by
  unfold tc_bd at h
  cases o with
  | none => cases h
  | some q => exact ⟨q.1, q.2, rfl, h⟩
theorem tc_ifS {α : Type} {c : Prop} [Decidable c] {b : Option α} {z : α} (h : (if c then b else none) = some z) : c ∧ b = some z := by
  split at h
  · rename_i q; exact ⟨q, h⟩
  · cases h
theorem tc_riS {v : Int32} {μ : tc_Mem} {z : Int32 × tc_Mem} (h : some (v, μ) = some z) : some (Value.int z.1) = some (Value.int v) ∧ z.2 = μ := by
  cases h; exact ⟨rfl, rfl⟩
theorem tc_rvS {v : Int32} {μ : tc_Mem} {z : Int32 × tc_Mem} (h : some (v, μ) = some z) : (none : Option Value) = none ∧ z.2 = μ := by
  cases h; exact ⟨rfl, rfl⟩
theorem tc_rsS {v : Nat} {μ : tc_Mem} {z : Nat × tc_Mem} (h : some (v, μ) = some z) : some (Value.ref (tc_sK G z.1)) = some (Value.ref (tc_sK G v)) ∧ z.2 = μ := by
  cases h; exact ⟨rfl, rfl⟩
theorem tc_zrS {v : Int32} {μ : tc_Mem} {z : Int32 × tc_Mem} (h : tc_zr v μ = some z) : (v = 0 ∨ v = 1) ∧ some (Value.int z.1) = some (Value.int v) ∧ z.2 = μ := by
  unfold tc_zr at h
  split at h
  · rename_i q; cases h; exact ⟨q, rfl, rfl⟩
  · cases h
theorem tc_ltI {α : Type} {v : Int32} {k : Int32 → Option α} {z : α} (h : tc_lt v k = some z) (K : ∀ w : Int32, k w = some z → tc_At l G y ρ μ' X pc L (.int w :: st) μ) : tc_At l G y ρ μ' X pc L (.int v :: st) μ := K v h
theorem tc_iastL {α : Type} {k n : Nat} {i v : Int32} {f : tc_Mem → Option α} {z : α} (hd : decode y.2.1 pc = .ok (.iastore, 1)) (ha : tc_sk[k]? = some (.inl (0, n))) (hi : vp_in i n) (h : tc_lt (tc_wr μ k i.toNatClampNeg v) f = some z) (K : ∀ μ1, f μ1 = some z → tc_At l G y ρ μ' X (pc + 1) L st μ1) : tc_At l G y ρ μ' X pc L (.int v :: .int i :: .ref (tc_ad G k) :: st) μ := tc_iast hd ha hi (K _ h)
theorem tc_zastL {α : Type} {k n : Nat} {i v : Int32} {f : tc_Mem → Option α} {z : α} (hd : decode y.2.1 pc = .ok (.bastore, 1)) (ha : tc_sk[k]? = some (.inl (1, n))) (hi : vp_in i n) (h : tc_lt (tc_wr μ k i.toNatClampNeg (vp_nar .boolean v)) f = some z) (K : ∀ μ1, f μ1 = some z → tc_At l G y ρ μ' X (pc + 1) L st μ1) : tc_At l G y ρ μ' X pc L (.int v :: .int i :: .ref (tc_ad G k) :: st) μ := tc_zast hd ha hi (K _ h)
theorem tc_acpyL {α : Type} {f : tc_Mem → Option α} {z0 : α} {index k0 k1 n0 n1 : Nat} {sp dp n : Int32} {rest : List Value} (hd : decode y.2.1 pc = .ok (.invokestatic index, 3)) (hlk : Cond.methodLink y.1.cls index arraycopyName ∈ tc_gw) (hw : Cond.native arraycopyName ∈ tc_gw ∧ Cond.static arraycopyName ∈ tc_gw ∧ Cond.initialized "java/lang/System" ∈ tc_gw) (hR : 1 ≤ y.2.2.2.2.frames ∧ (rest.map fun v => v.category).sum + (nativeFrameWords "java/lang/System" "arraycopy" 5 + 11) ≤ y.2.2.2.2.locals) (ha0 : tc_sk[k0]? = some (.inl (0, n0))) (ha1 : tc_sk[k1]? = some (.inl (0, n1))) (h : (if ¬ sp < 0 ∧ ¬ dp < 0 ∧ ¬ n < 0 ∧ sp.toNatClampNeg + n.toNatClampNeg ≤ n0 ∧ dp.toNatClampNeg + n.toNatClampNeg ≤ n1 then tc_lt (tc_row μ k1 (va_cpy (μ k0) (μ k1) sp.toNatClampNeg dp.toNatClampNeg n.toNatClampNeg)) f else none) = some z0) (K : ∀ μ1, f μ1 = some z0 → tc_At l G y ρ μ' X (pc + 3) L rest μ1) : tc_At l G y ρ μ' X pc L (.int n :: .int dp :: .ref (tc_ad G k1) :: .int sp :: .ref (tc_ad G k0) :: rest) μ := by
  obtain ⟨hb, h⟩ := tc_ifS h
  exact tc_acpy hd hlk hw hR ha0 ha1 hb (K _ h)
theorem tc_callVi {z : tc_MI} {index n ci a N : Nat} {fs : List (Option Nat)} {T : u_T} {As rest : List Value} {r1 : Int32} {μ1 : tc_Mem} {st0 : List Value}
    (hd : decode y.2.1 pc = .ok (.invokevirtual index, 3)) (hz : tc_OkV z n) (hlk : Cond.methodLink y.1.cls index z.1 ∈ tc_gw) (hR : tc_Rm y z) (ha : tc_sk[a]? = some (.inr (ci, fs))) (hc : tc_classes[ci]? = some (z.1.cls, T, N))
    (hcon : tc_Con l G z (.ref (tc_ad G a) :: As) μ (some (.int r1)) μ1) (hn : As.length = n) (hst : st0 = As.reverse ++ .ref (tc_ad G a) :: rest) (hrest : (rest.map fun v => v.category).sum ≤ 8) (K : tc_At l G y ρ μ' X (pc + 3) L (.int r1 :: rest) μ1) : tc_At l G y ρ μ' X pc L st0 μ := tc_callV hd hz hlk hR ha hc hcon hn hst hrest K
theorem tc_callVv {z : tc_MI} {index n ci a N : Nat} {fs : List (Option Nat)} {T : u_T} {As rest : List Value} {μ1 : tc_Mem} {st0 : List Value}
    (hd : decode y.2.1 pc = .ok (.invokevirtual index, 3)) (hz : tc_OkV z n) (hlk : Cond.methodLink y.1.cls index z.1 ∈ tc_gw) (hR : tc_Rm y z) (ha : tc_sk[a]? = some (.inr (ci, fs))) (hc : tc_classes[ci]? = some (z.1.cls, T, N))
    (hcon : tc_Con l G z (.ref (tc_ad G a) :: As) μ none μ1) (hn : As.length = n) (hst : st0 = As.reverse ++ .ref (tc_ad G a) :: rest) (hrest : (rest.map fun v => v.category).sum ≤ 8) (K : tc_At l G y ρ μ' X (pc + 3) L rest μ1) : tc_At l G y ρ μ' X pc L st0 μ := tc_callV hd hz hlk hR ha hc hcon hn hst hrest K
theorem tc_callSi {z : tc_MI} {index n : Nat} {As rest : List Value} {r1 : Int32} {μ1 : tc_Mem} {st0 : List Value}
    (hd : decode y.2.1 pc = .ok (.invokestatic index, 3)) (hz : tc_OkS z n) (hlk : Cond.methodLink y.1.cls index z.1 ∈ tc_gw) (hR : tc_Rm y z)
    (hcon : tc_Con l G z As μ (some (.int r1)) μ1) (hn : As.length = n) (hst : st0 = As.reverse ++ rest) (hrest : (rest.map fun v => v.category).sum ≤ 8) (K : tc_At l G y ρ μ' X (pc + 3) L (.int r1 :: rest) μ1) : tc_At l G y ρ μ' X pc L st0 μ := tc_callS hd hz hlk hR hcon hn hst hrest K
theorem tc_callSs {z : tc_MI} {index n : Nat} {As rest : List Value} {r1 : Nat} {μ1 : tc_Mem} {st0 : List Value}
    (hd : decode y.2.1 pc = .ok (.invokestatic index, 3)) (hz : tc_OkS z n) (hlk : Cond.methodLink y.1.cls index z.1 ∈ tc_gw) (hR : tc_Rm y z)
    (hcon : tc_Con l G z As μ (some (.ref (tc_sK G r1))) μ1) (hn : As.length = n) (hst : st0 = As.reverse ++ rest) (hrest : (rest.map fun v => v.category).sum ≤ 8) (K : tc_At l G y ρ μ' X (pc + 3) L (.ref (tc_sK G r1) :: rest) μ1) : tc_At l G y ρ μ' X pc L st0 μ := tc_callS hd hz hlk hR hcon hn hst hrest K
theorem tc_callNi {z : tc_MI} {index n : Nat} {host : String} {As rest : List Value} {r1 : Int32} {μ1 : tc_Mem} {st0 : List Value}
    (hd : decode y.2.1 pc = .ok (.invokestatic index, 3)) (hz : tc_OkS z n) (hlk : ∀ U, tc_Nest U → va_Nw (.methodLinkNest y.1.cls index z.1 host) U) (hR : tc_Rm y z)
    (hcon : tc_Con l G z As μ (some (.int r1)) μ1) (hn : As.length = n) (hst : st0 = As.reverse ++ rest) (hrest : (rest.map fun v => v.category).sum ≤ 8) (K : tc_At l G y ρ μ' X (pc + 3) L (.int r1 :: rest) μ1) : tc_At l G y ρ μ' X pc L st0 μ := tc_callN hd hz hlk hR hcon hn hst hrest K
end CALLS
