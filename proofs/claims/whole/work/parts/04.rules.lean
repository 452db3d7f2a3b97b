section RULES
variable {l : Launch} {G : tc_G} {y : tc_MI} {ρ : Option Value} {μ' : tc_Mem} {X : tc_X} {pc : Nat} {L : List (Nat × Value)} {st : List Value} {μ : tc_Mem}

theorem tc_iconst {n : Int} {v : Int32} (hd : decode y.2.1 pc = .ok (.iconst n, 1)) (hv : Int32.ofInt n = v) (K : tc_At l G y ρ μ' X (pc + 1) L (.int v :: st) μ) : tc_At l G y ρ μ' X pc L (st) μ := by
  obtain ⟨p, e, s, m, args, below, meth, c⟩ := X
  intro hC H locs ls hP hS hl
  exact lv_iconst hC.1 hC.2.1 hd hv (K hC H locs ls hP hS hl)
theorem tc_bipush {n : Int} {v : Int32} (hd : decode y.2.1 pc = .ok (.bipush n, 2)) (hv : (Int8.ofInt n).toInt32 = v) (K : tc_At l G y ρ μ' X (pc + 2) L (.int v :: st) μ) : tc_At l G y ρ μ' X pc L (st) μ := by
  obtain ⟨p, e, s, m, args, below, meth, c⟩ := X
  intro hC H locs ls hP hS hl
  exact lv_bipush hC.1 hC.2.1 hd hv (K hC H locs ls hP hS hl)
theorem tc_sipush {n : Int} {v : Int32} (hd : decode y.2.1 pc = .ok (.sipush n, 3)) (hv : (Int16.ofInt n).toInt32 = v) (K : tc_At l G y ρ μ' X (pc + 3) L (.int v :: st) μ) : tc_At l G y ρ μ' X pc L (st) μ := by
  obtain ⟨p, e, s, m, args, below, meth, c⟩ := X
  intro hC H locs ls hP hS hl
  exact lv_sipush hC.1 hC.2.1 hd hv (K hC H locs ls hP hS hl)
theorem tc_lconst {n : Fin 2} {v : Int64} (hd : decode y.2.1 pc = .ok (.lconst n, 1)) (hv : Int64.ofNat (n : Nat) = v) (K : tc_At l G y ρ μ' X (pc + 1) L (.long v :: st) μ) : tc_At l G y ρ μ' X pc L (st) μ := by
  obtain ⟨p, e, s, m, args, below, meth, c⟩ := X
  intro hC H locs ls hP hS hl
  exact lv_lconst hC.1 hC.2.1 hd hv (K hC H locs ls hP hS hl)
theorem tc_ldc {index : Nat} {v : Int32} (hd : decode y.2.1 pc = .ok (.ldc index, 2)) (hw : Cond.constant y.1.cls index v ∈ tc_gw) (K : tc_At l G y ρ μ' X (pc + 2) L (.int v :: st) μ) : tc_At l G y ρ μ' X pc L (st) μ := by
  obtain ⟨p, e, s, m, args, below, meth, c⟩ := X
  intro hC H locs ls hP hS hl
  exact lv_ldc hC.1 hC.2.1 hC.2.2.2.2.1 (hC.2.2.2.2.2.1 _ (List.mem_cons_of_mem _ hw)) hd (K hC H locs ls hP hS hl)
theorem tc_ldc2 {index : Nat} {v : Int64} (hd : decode y.2.1 pc = .ok (.ldc2_w index, 3)) (hw : Cond.constantLong y.1.cls index v ∈ tc_gw) (K : tc_At l G y ρ μ' X (pc + 3) L (.long v :: st) μ) : tc_At l G y ρ μ' X pc L (st) μ := by
  obtain ⟨p, e, s, m, args, below, meth, c⟩ := X
  intro hC H locs ls hP hS hl
  exact lv_ldc2 hC.1 hC.2.1 hC.2.2.2.2.1 (hC.2.2.2.2.2.1 _ (List.mem_cons_of_mem _ hw)) hd (K hC H locs ls hP hS hl)
theorem tc_iload_n {k : Fin 4} {x : Int32} (hd : decode y.2.1 pc = .ok (.iload_n k, 1)) (j : Nat) (hj : L[j]? = some ((k : Nat), .int x)) (K : tc_At l G y ρ μ' X (pc + 1) L (.int x :: st) μ) : tc_At l G y ρ μ' X pc L (st) μ := by
  obtain ⟨p, e, s, m, args, below, meth, c⟩ := X
  intro hC H locs ls hP hS hl
  exact lv_iload_n hC.1 hC.2.1 hd rfl (lv_at hl j hj) (K hC H locs ls hP hS hl)
theorem tc_iload {i : Nat} {x : Int32} (hd : decode y.2.1 pc = .ok (.iload i, 2)) (j : Nat) (hj : L[j]? = some (i, .int x)) (K : tc_At l G y ρ μ' X (pc + 2) L (.int x :: st) μ) : tc_At l G y ρ μ' X pc L (st) μ := by
  obtain ⟨p, e, s, m, args, below, meth, c⟩ := X
  intro hC H locs ls hP hS hl
  exact lv_iload hC.1 hC.2.1 hd (lv_at hl j hj) (K hC H locs ls hP hS hl)
theorem tc_aload_n {k : Fin 4} {x : Nat} (hd : decode y.2.1 pc = .ok (.aload_n k, 1)) (j : Nat) (hj : L[j]? = some ((k : Nat), .ref x)) (K : tc_At l G y ρ μ' X (pc + 1) L (.ref x :: st) μ) : tc_At l G y ρ μ' X pc L (st) μ := by
  obtain ⟨p, e, s, m, args, below, meth, c⟩ := X
  intro hC H locs ls hP hS hl
  exact lv_aload_n hC.1 hC.2.1 hd rfl (lv_at hl j hj) (K hC H locs ls hP hS hl)
theorem tc_aload {i : Nat} {x : Nat} (hd : decode y.2.1 pc = .ok (.aload i, 2)) (j : Nat) (hj : L[j]? = some (i, .ref x)) (K : tc_At l G y ρ μ' X (pc + 2) L (.ref x :: st) μ) : tc_At l G y ρ μ' X pc L (st) μ := by
  obtain ⟨p, e, s, m, args, below, meth, c⟩ := X
  intro hC H locs ls hP hS hl
  exact lv_aload hC.1 hC.2.1 hd (lv_at hl j hj) (K hC H locs ls hP hS hl)
theorem tc_lload_n {k : Fin 4} {x : Int64} (hd : decode y.2.1 pc = .ok (.lload_n k, 1)) (j : Nat) (hj : L[j]? = some ((k : Nat), .long x)) (K : tc_At l G y ρ μ' X (pc + 1) L (.long x :: st) μ) : tc_At l G y ρ μ' X pc L (st) μ := by
  obtain ⟨p, e, s, m, args, below, meth, c⟩ := X
  intro hC H locs ls hP hS hl
  exact lv_lload_n hC.1 hC.2.1 hd rfl (lv_at hl j hj) (K hC H locs ls hP hS hl)
theorem tc_lload {i : Nat} {x : Int64} (hd : decode y.2.1 pc = .ok (.lload i, 2)) (j : Nat) (hj : L[j]? = some (i, .long x)) (K : tc_At l G y ρ μ' X (pc + 2) L (.long x :: st) μ) : tc_At l G y ρ μ' X pc L (st) μ := by
  obtain ⟨p, e, s, m, args, below, meth, c⟩ := X
  intro hC H locs ls hP hS hl
  exact lv_lload hC.1 hC.2.1 hd (lv_at hl j hj) (K hC H locs ls hP hS hl)
theorem tc_istore_n {k : Fin 4} {x : Int32} {L' : List (Nat × Value)} (hd : decode y.2.1 pc = .ok (.istore_n k, 1)) (hn : (k : Nat) < y.2.2.1) (hl' : ((k : Nat), Value.int x) :: L.filter (fun q => !(q.1 == (k : Nat)) && !(q.1 + 1 == (k : Nat) && q.2.category == 2)) = L') (K : tc_At l G y ρ μ' X (pc + 1) L' st μ) : tc_At l G y ρ μ' X pc L (.int x :: st) μ := by
  obtain ⟨p, e, s, m, args, below, meth, c⟩ := X
  intro hC H locs ls hP hS hl
  exact lv_istore_n hC.1 hC.2.1 hd rfl hl hn hl' (fun ls' h' => K hC H locs ls' hP hS h')
theorem tc_istore {i : Nat} {x : Int32} {L' : List (Nat × Value)} (hd : decode y.2.1 pc = .ok (.istore i, 2)) (hn : i < y.2.2.1) (hl' : (i, Value.int x) :: L.filter (fun q => !(q.1 == i) && !(q.1 + 1 == i && q.2.category == 2)) = L') (K : tc_At l G y ρ μ' X (pc + 2) L' st μ) : tc_At l G y ρ μ' X pc L (.int x :: st) μ := by
  obtain ⟨p, e, s, m, args, below, meth, c⟩ := X
  intro hC H locs ls hP hS hl
  exact lv_istore hC.1 hC.2.1 hd hl hn hl' (fun ls' h' => K hC H locs ls' hP hS h')
theorem tc_astore_n {k : Fin 4} {x : Nat} {L' : List (Nat × Value)} (hd : decode y.2.1 pc = .ok (.astore_n k, 1)) (hn : (k : Nat) < y.2.2.1) (hl' : ((k : Nat), Value.ref x) :: L.filter (fun q => !(q.1 == (k : Nat)) && !(q.1 + 1 == (k : Nat) && q.2.category == 2)) = L') (K : tc_At l G y ρ μ' X (pc + 1) L' st μ) : tc_At l G y ρ μ' X pc L (.ref x :: st) μ := by
  obtain ⟨p, e, s, m, args, below, meth, c⟩ := X
  intro hC H locs ls hP hS hl
  exact lv_astore_n hC.1 hC.2.1 hd rfl hl hn hl' (fun ls' h' => K hC H locs ls' hP hS h')
theorem tc_astore {i : Nat} {x : Nat} {L' : List (Nat × Value)} (hd : decode y.2.1 pc = .ok (.astore i, 2)) (hn : i < y.2.2.1) (hl' : (i, Value.ref x) :: L.filter (fun q => !(q.1 == i) && !(q.1 + 1 == i && q.2.category == 2)) = L') (K : tc_At l G y ρ μ' X (pc + 2) L' st μ) : tc_At l G y ρ μ' X pc L (.ref x :: st) μ := by
  obtain ⟨p, e, s, m, args, below, meth, c⟩ := X
  intro hC H locs ls hP hS hl
  exact lv_astore hC.1 hC.2.1 hd hl hn hl' (fun ls' h' => K hC H locs ls' hP hS h')
theorem tc_lstore {i : Nat} {x : Int64} {L' : List (Nat × Value)} (hd : decode y.2.1 pc = .ok (.lstore i, 2)) (hn : i + 1 < y.2.2.1) (hl' : (i, Value.long x) :: L.filter (fun q => !(q.1 == i) && (!(q.1 == i + 1) && !(q.1 + 1 == i && q.2.category == 2))) = L') (K : tc_At l G y ρ μ' X (pc + 2) L' st μ) : tc_At l G y ρ μ' X pc L (.long x :: st) μ := by
  obtain ⟨p, e, s, m, args, below, meth, c⟩ := X
  intro hC H locs ls hP hS hl
  exact lv_lstore hC.1 hC.2.1 hd hl hn hl' (fun ls' h' => K hC H locs ls' hP hS h')
theorem tc_iinc {i : Nat} {n : Int} {x v : Int32} {L' : List (Nat × Value)} (hd : decode y.2.1 pc = .ok (.iinc i n, 3)) (j : Nat) (hj : L[j]? = some (i, .int x)) (hv : x + Int32.ofInt n = v) (hn : i < y.2.2.1) (hl' : (i, Value.int v) :: L.filter (fun q => !(q.1 == i) && !(q.1 + 1 == i && q.2.category == 2)) = L') (K : tc_At l G y ρ μ' X (pc + 3) L' st μ) : tc_At l G y ρ μ' X pc L (st) μ := by
  obtain ⟨p, e, s, m, args, below, meth, c⟩ := X
  intro hC H locs ls hP hS hl
  exact lv_iinc hC.1 hC.2.1 hd hl hj hv hn hl' (fun ls' h' => K hC H locs ls' hP hS h')
theorem tc_iadd {a b : Int32} (hd : decode y.2.1 pc = .ok (.iadd, 1)) (K : tc_At l G y ρ μ' X (pc + 1) L (.int (a + b) :: st) μ) : tc_At l G y ρ μ' X pc L (.int b :: .int a :: st) μ := by
  obtain ⟨p, e, s, m, args, below, meth, c⟩ := X
  intro hC H locs ls hP hS hl
  exact lv_iadd hC.1 hC.2.1 hd (K hC H locs ls hP hS hl)
theorem tc_isub {a b : Int32} (hd : decode y.2.1 pc = .ok (.isub, 1)) (K : tc_At l G y ρ μ' X (pc + 1) L (.int (a - b) :: st) μ) : tc_At l G y ρ μ' X pc L (.int b :: .int a :: st) μ := by
  obtain ⟨p, e, s, m, args, below, meth, c⟩ := X
  intro hC H locs ls hP hS hl
  exact lv_isub hC.1 hC.2.1 hd (K hC H locs ls hP hS hl)
theorem tc_imul {a b : Int32} (hd : decode y.2.1 pc = .ok (.imul, 1)) (K : tc_At l G y ρ μ' X (pc + 1) L (.int (a * b) :: st) μ) : tc_At l G y ρ μ' X pc L (.int b :: .int a :: st) μ := by
  obtain ⟨p, e, s, m, args, below, meth, c⟩ := X
  intro hC H locs ls hP hS hl
  exact lv_imul hC.1 hC.2.1 hd (K hC H locs ls hP hS hl)
theorem tc_iand {a b : Int32} (hd : decode y.2.1 pc = .ok (.iand, 1)) (K : tc_At l G y ρ μ' X (pc + 1) L (.int (a &&& b) :: st) μ) : tc_At l G y ρ μ' X pc L (.int b :: .int a :: st) μ := by
  obtain ⟨p, e, s, m, args, below, meth, c⟩ := X
  intro hC H locs ls hP hS hl
  exact lv_iand hC.1 hC.2.1 hd (K hC H locs ls hP hS hl)
theorem tc_ior {a b : Int32} (hd : decode y.2.1 pc = .ok (.ior, 1)) (K : tc_At l G y ρ μ' X (pc + 1) L (.int (a ||| b) :: st) μ) : tc_At l G y ρ μ' X pc L (.int b :: .int a :: st) μ := by
  obtain ⟨p, e, s, m, args, below, meth, c⟩ := X
  intro hC H locs ls hP hS hl
  exact lv_ior hC.1 hC.2.1 hd (K hC H locs ls hP hS hl)
theorem tc_ixor {a b : Int32} (hd : decode y.2.1 pc = .ok (.ixor, 1)) (K : tc_At l G y ρ μ' X (pc + 1) L (.int (a ^^^ b) :: st) μ) : tc_At l G y ρ μ' X pc L (.int b :: .int a :: st) μ := by
  obtain ⟨p, e, s, m, args, below, meth, c⟩ := X
  intro hC H locs ls hP hS hl
  exact lv_ixor hC.1 hC.2.1 hd (K hC H locs ls hP hS hl)
theorem tc_ishl {a b : Int32} (hd : decode y.2.1 pc = .ok (.ishl, 1)) (K : tc_At l G y ρ μ' X (pc + 1) L (.int (a <<< (b &&& 31)) :: st) μ) : tc_At l G y ρ μ' X pc L (.int b :: .int a :: st) μ := by
  obtain ⟨p, e, s, m, args, below, meth, c⟩ := X
  intro hC H locs ls hP hS hl
  exact lv_ishl hC.1 hC.2.1 hd (K hC H locs ls hP hS hl)
theorem tc_ishr {a b : Int32} (hd : decode y.2.1 pc = .ok (.ishr, 1)) (K : tc_At l G y ρ μ' X (pc + 1) L (.int (a >>> (b &&& 31)) :: st) μ) : tc_At l G y ρ μ' X pc L (.int b :: .int a :: st) μ := by
  obtain ⟨p, e, s, m, args, below, meth, c⟩ := X
  intro hC H locs ls hP hS hl
  exact lv_ishr hC.1 hC.2.1 hd (K hC H locs ls hP hS hl)
theorem tc_idiv {a b : Int32} (hd : decode y.2.1 pc = .ok (.idiv, 1)) (hne : ¬ b = 0) (K : tc_At l G y ρ μ' X (pc + 1) L (.int (a / b) :: st) μ) : tc_At l G y ρ μ' X pc L (.int b :: .int a :: st) μ := by
  obtain ⟨p, e, s, m, args, below, meth, c⟩ := X
  intro hC H locs ls hP hS hl
  exact lv_idiv hC.1 hC.2.1 hd hne (K hC H locs ls hP hS hl)
theorem tc_irem {a b : Int32} (hd : decode y.2.1 pc = .ok (.irem, 1)) (hne : ¬ b = 0) (K : tc_At l G y ρ μ' X (pc + 1) L (.int (a - a / b * b) :: st) μ) : tc_At l G y ρ μ' X pc L (.int b :: .int a :: st) μ := by
  obtain ⟨p, e, s, m, args, below, meth, c⟩ := X
  intro hC H locs ls hP hS hl
  exact lv_irem hC.1 hC.2.1 hd hne (K hC H locs ls hP hS hl)
theorem tc_iushr {a b : Int32} (hd : decode y.2.1 pc = .ok (.iushr, 1)) (K : tc_At l G y ρ μ' X (pc + 1) L (.int (a.toUInt32 >>> (b.toUInt32 &&& Int32.toUInt32 31)).toInt32 :: st) μ) : tc_At l G y ρ μ' X pc L (.int b :: .int a :: st) μ := by
  obtain ⟨p, e, s, m, args, below, meth, c⟩ := X
  intro hC H locs ls hP hS hl
  exact lv_iushr hC.1 hC.2.1 hd rfl (K hC H locs ls hP hS hl)
theorem tc_ladd {a b : Int64} (hd : decode y.2.1 pc = .ok (.ladd, 1)) (K : tc_At l G y ρ μ' X (pc + 1) L (.long (a + b) :: st) μ) : tc_At l G y ρ μ' X pc L (.long b :: .long a :: st) μ := by
  obtain ⟨p, e, s, m, args, below, meth, c⟩ := X
  intro hC H locs ls hP hS hl
  exact lv_ladd hC.1 hC.2.1 hd (K hC H locs ls hP hS hl)
theorem tc_lmul {a b : Int64} (hd : decode y.2.1 pc = .ok (.lmul, 1)) (K : tc_At l G y ρ μ' X (pc + 1) L (.long (a * b) :: st) μ) : tc_At l G y ρ μ' X pc L (.long b :: .long a :: st) μ := by
  obtain ⟨p, e, s, m, args, below, meth, c⟩ := X
  intro hC H locs ls hP hS hl
  exact lv_lmul hC.1 hC.2.1 hd (K hC H locs ls hP hS hl)
theorem tc_lcmp {a b : Int64} (hd : decode y.2.1 pc = .ok (.lcmp, 1)) (K : tc_At l G y ρ μ' X (pc + 1) L (.int (lg_cmp a b) :: st) μ) : tc_At l G y ρ μ' X pc L (.long b :: .long a :: st) μ := by
  obtain ⟨p, e, s, m, args, below, meth, c⟩ := X
  intro hC H locs ls hP hS hl
  exact W.lcmp hC.1 hC.2.1 hd (K hC H locs ls hP hS hl)
theorem tc_i2l {a : Int32} (hd : decode y.2.1 pc = .ok (.i2l, 1)) (K : tc_At l G y ρ μ' X (pc + 1) L (.long a.toInt64 :: st) μ) : tc_At l G y ρ μ' X pc L (.int a :: st) μ := by
  obtain ⟨p, e, s, m, args, below, meth, c⟩ := X
  intro hC H locs ls hP hS hl
  exact lv_i2l hC.1 hC.2.1 hd rfl (K hC H locs ls hP hS hl)
theorem tc_l2i {a : Int64} (hd : decode y.2.1 pc = .ok (.l2i, 1)) (K : tc_At l G y ρ μ' X (pc + 1) L (.int a.toInt32 :: st) μ) : tc_At l G y ρ μ' X pc L (.long a :: st) μ := by
  obtain ⟨p, e, s, m, args, below, meth, c⟩ := X
  intro hC H locs ls hP hS hl
  exact lv_l2i hC.1 hC.2.1 hd rfl (K hC H locs ls hP hS hl)
theorem tc_i2s {a : Int32} (hd : decode y.2.1 pc = .ok (.i2s, 1)) (K : tc_At l G y ρ μ' X (pc + 1) L (.int a.toInt16.toInt32 :: st) μ) : tc_At l G y ρ μ' X pc L (.int a :: st) μ := by
  obtain ⟨p, e, s, m, args, below, meth, c⟩ := X
  intro hC H locs ls hP hS hl
  exact lv_i2s hC.1 hC.2.1 hd rfl (K hC H locs ls hP hS hl)
theorem tc_dup {v : Value} (hd : decode y.2.1 pc = .ok (.dup, 1)) (hv : v.category = 1) (K : tc_At l G y ρ μ' X (pc + 1) L (v :: v :: st) μ) : tc_At l G y ρ μ' X pc L (v :: st) μ := by
  obtain ⟨p, e, s, m, args, below, meth, c⟩ := X
  intro hC H locs ls hP hS hl
  exact lv_dup hC.1 hC.2.1 hd hv (K hC H locs ls hP hS hl)
theorem tc_pop {v : Value} (hd : decode y.2.1 pc = .ok (.pop, 1)) (hv : v.category = 1) (K : tc_At l G y ρ μ' X (pc + 1) L (st) μ) : tc_At l G y ρ μ' X pc L (v :: st) μ := by
  obtain ⟨p, e, s, m, args, below, meth, c⟩ := X
  intro hC H locs ls hP hS hl
  exact lv_pop hC.1 hC.2.1 hd hv (K hC H locs ls hP hS hl)
theorem tc_goto {off : Int} {tgt : Nat} (hd : decode y.2.1 pc = .ok (.goto off, 3)) (ht : (pc : Int) + off = (tgt : Int)) (K : tc_At l G y ρ μ' X tgt L st μ) : tc_At l G y ρ μ' X pc L st μ := by
  obtain ⟨p, e, s, m, args, below, meth, c⟩ := X
  intro hC H locs ls hP hS hl
  exact lv_goto hC.1 hC.2.1 hd ht (K hC H locs ls hP hS hl)
theorem tc_if_eq {x : Int32} {off : Int} {tgt : Nat} {α : Type} {A B : Option α} {z : α} (hd : decode y.2.1 pc = .ok (.ifCond .eq off, 3)) (ht : (pc : Int) + off = (tgt : Int)) (h : (if x = 0 then A else B) = some z) (kt : A = some z → tc_At l G y ρ μ' X tgt L st μ) (kf : B = some z → tc_At l G y ρ μ' X (pc + 3) L st μ) : tc_At l G y ρ μ' X pc L (.int x :: st) μ := by
  obtain ⟨p, e, s, m, args, below, meth, c⟩ := X
  intro hC H locs ls hP hS hl
  exact lv_if_eq hC.1 hC.2.1 hd ht (fun q => kt (by rw [if_pos q] at h; exact h) hC H locs ls hP hS hl) (fun q => kf (by rw [if_neg q] at h; exact h) hC H locs ls hP hS hl)
theorem tc_if_lt {x : Int32} {off : Int} {tgt : Nat} {α : Type} {A B : Option α} {z : α} (hd : decode y.2.1 pc = .ok (.ifCond .lt off, 3)) (ht : (pc : Int) + off = (tgt : Int)) (h : (if x < 0 then A else B) = some z) (kt : A = some z → tc_At l G y ρ μ' X tgt L st μ) (kf : B = some z → tc_At l G y ρ μ' X (pc + 3) L st μ) : tc_At l G y ρ μ' X pc L (.int x :: st) μ := by
  obtain ⟨p, e, s, m, args, below, meth, c⟩ := X
  intro hC H locs ls hP hS hl
  exact lv_if_lt hC.1 hC.2.1 hd ht (fun q => kt (by rw [if_pos q] at h; exact h) hC H locs ls hP hS hl) (fun q => kf (by rw [if_neg q] at h; exact h) hC H locs ls hP hS hl)
theorem tc_if_ge {x : Int32} {off : Int} {tgt : Nat} {α : Type} {A B : Option α} {z : α} (hd : decode y.2.1 pc = .ok (.ifCond .ge off, 3)) (ht : (pc : Int) + off = (tgt : Int)) (h : (if 0 ≤ x then A else B) = some z) (kt : A = some z → tc_At l G y ρ μ' X tgt L st μ) (kf : B = some z → tc_At l G y ρ μ' X (pc + 3) L st μ) : tc_At l G y ρ μ' X pc L (.int x :: st) μ := by
  obtain ⟨p, e, s, m, args, below, meth, c⟩ := X
  intro hC H locs ls hP hS hl
  exact lv_if_ge hC.1 hC.2.1 hd ht (fun q => kt (by rw [if_pos q] at h; exact h) hC H locs ls hP hS hl) (fun q => kf (by rw [if_neg q] at h; exact h) hC H locs ls hP hS hl)
theorem tc_if_gt {x : Int32} {off : Int} {tgt : Nat} {α : Type} {A B : Option α} {z : α} (hd : decode y.2.1 pc = .ok (.ifCond .gt off, 3)) (ht : (pc : Int) + off = (tgt : Int)) (h : (if 0 < x then A else B) = some z) (kt : A = some z → tc_At l G y ρ μ' X tgt L st μ) (kf : B = some z → tc_At l G y ρ μ' X (pc + 3) L st μ) : tc_At l G y ρ μ' X pc L (.int x :: st) μ := by
  obtain ⟨p, e, s, m, args, below, meth, c⟩ := X
  intro hC H locs ls hP hS hl
  exact lv_if_gt hC.1 hC.2.1 hd ht (fun q => kt (by rw [if_pos q] at h; exact h) hC H locs ls hP hS hl) (fun q => kf (by rw [if_neg q] at h; exact h) hC H locs ls hP hS hl)
theorem tc_if_le {x : Int32} {off : Int} {tgt : Nat} {α : Type} {A B : Option α} {z : α} (hd : decode y.2.1 pc = .ok (.ifCond .le off, 3)) (ht : (pc : Int) + off = (tgt : Int)) (h : (if x ≤ 0 then A else B) = some z) (kt : A = some z → tc_At l G y ρ μ' X tgt L st μ) (kf : B = some z → tc_At l G y ρ μ' X (pc + 3) L st μ) : tc_At l G y ρ μ' X pc L (.int x :: st) μ := by
  obtain ⟨p, e, s, m, args, below, meth, c⟩ := X
  intro hC H locs ls hP hS hl
  exact lv_if_le hC.1 hC.2.1 hd ht (fun q => kt (by rw [if_pos q] at h; exact h) hC H locs ls hP hS hl) (fun q => kf (by rw [if_neg q] at h; exact h) hC H locs ls hP hS hl)
theorem tc_if_ne {x : Int32} {off : Int} {tgt : Nat} {α : Type} {A B : Option α} {z : α} (hd : decode y.2.1 pc = .ok (.ifCond .ne off, 3)) (ht : (pc : Int) + off = (tgt : Int)) (h : (if x = 0 then B else A) = some z) (kt : A = some z → tc_At l G y ρ μ' X tgt L st μ) (kf : B = some z → tc_At l G y ρ μ' X (pc + 3) L st μ) : tc_At l G y ρ μ' X pc L (.int x :: st) μ := by
  obtain ⟨p, e, s, m, args, below, meth, c⟩ := X
  intro hC H locs ls hP hS hl
  exact lv_if_ne hC.1 hC.2.1 hd ht (fun q => kt (by rw [if_neg q] at h; exact h) hC H locs ls hP hS hl) (fun q => kf (by rw [if_pos q] at h; exact h) hC H locs ls hP hS hl)
theorem tc_icmp_eq {x w : Int32} {off : Int} {tgt : Nat} {α : Type} {A B : Option α} {z : α} (hd : decode y.2.1 pc = .ok (.if_icmp .eq off, 3)) (ht : (pc : Int) + off = (tgt : Int)) (h : (if x = w then A else B) = some z) (kt : A = some z → tc_At l G y ρ μ' X tgt L st μ) (kf : B = some z → tc_At l G y ρ μ' X (pc + 3) L st μ) : tc_At l G y ρ μ' X pc L (.int w :: .int x :: st) μ := by
  obtain ⟨p, e, s, m, args, below, meth, c⟩ := X
  intro hC H locs ls hP hS hl
  exact lv_icmp_eq hC.1 hC.2.1 hd ht (fun q => kt (by rw [if_pos q] at h; exact h) hC H locs ls hP hS hl) (fun q => kf (by rw [if_neg q] at h; exact h) hC H locs ls hP hS hl)
theorem tc_icmp_lt {x w : Int32} {off : Int} {tgt : Nat} {α : Type} {A B : Option α} {z : α} (hd : decode y.2.1 pc = .ok (.if_icmp .lt off, 3)) (ht : (pc : Int) + off = (tgt : Int)) (h : (if x < w then A else B) = some z) (kt : A = some z → tc_At l G y ρ μ' X tgt L st μ) (kf : B = some z → tc_At l G y ρ μ' X (pc + 3) L st μ) : tc_At l G y ρ μ' X pc L (.int w :: .int x :: st) μ := by
  obtain ⟨p, e, s, m, args, below, meth, c⟩ := X
  intro hC H locs ls hP hS hl
  exact lv_icmp_lt hC.1 hC.2.1 hd ht (fun q => kt (by rw [if_pos q] at h; exact h) hC H locs ls hP hS hl) (fun q => kf (by rw [if_neg q] at h; exact h) hC H locs ls hP hS hl)
theorem tc_icmp_ge {x w : Int32} {off : Int} {tgt : Nat} {α : Type} {A B : Option α} {z : α} (hd : decode y.2.1 pc = .ok (.if_icmp .ge off, 3)) (ht : (pc : Int) + off = (tgt : Int)) (h : (if w ≤ x then A else B) = some z) (kt : A = some z → tc_At l G y ρ μ' X tgt L st μ) (kf : B = some z → tc_At l G y ρ μ' X (pc + 3) L st μ) : tc_At l G y ρ μ' X pc L (.int w :: .int x :: st) μ := by
  obtain ⟨p, e, s, m, args, below, meth, c⟩ := X
  intro hC H locs ls hP hS hl
  exact lv_icmp_ge hC.1 hC.2.1 hd ht (fun q => kt (by rw [if_pos q] at h; exact h) hC H locs ls hP hS hl) (fun q => kf (by rw [if_neg q] at h; exact h) hC H locs ls hP hS hl)
theorem tc_icmp_gt {x w : Int32} {off : Int} {tgt : Nat} {α : Type} {A B : Option α} {z : α} (hd : decode y.2.1 pc = .ok (.if_icmp .gt off, 3)) (ht : (pc : Int) + off = (tgt : Int)) (h : (if w < x then A else B) = some z) (kt : A = some z → tc_At l G y ρ μ' X tgt L st μ) (kf : B = some z → tc_At l G y ρ μ' X (pc + 3) L st μ) : tc_At l G y ρ μ' X pc L (.int w :: .int x :: st) μ := by
  obtain ⟨p, e, s, m, args, below, meth, c⟩ := X
  intro hC H locs ls hP hS hl
  exact lv_icmp_gt hC.1 hC.2.1 hd ht (fun q => kt (by rw [if_pos q] at h; exact h) hC H locs ls hP hS hl) (fun q => kf (by rw [if_neg q] at h; exact h) hC H locs ls hP hS hl)
theorem tc_icmp_le {x w : Int32} {off : Int} {tgt : Nat} {α : Type} {A B : Option α} {z : α} (hd : decode y.2.1 pc = .ok (.if_icmp .le off, 3)) (ht : (pc : Int) + off = (tgt : Int)) (h : (if x ≤ w then A else B) = some z) (kt : A = some z → tc_At l G y ρ μ' X tgt L st μ) (kf : B = some z → tc_At l G y ρ μ' X (pc + 3) L st μ) : tc_At l G y ρ μ' X pc L (.int w :: .int x :: st) μ := by
  obtain ⟨p, e, s, m, args, below, meth, c⟩ := X
  intro hC H locs ls hP hS hl
  exact lv_icmp_le hC.1 hC.2.1 hd ht (fun q => kt (by rw [if_pos q] at h; exact h) hC H locs ls hP hS hl) (fun q => kf (by rw [if_neg q] at h; exact h) hC H locs ls hP hS hl)
theorem tc_icmp_ne {x w : Int32} {off : Int} {tgt : Nat} {α : Type} {A B : Option α} {z : α} (hd : decode y.2.1 pc = .ok (.if_icmp .ne off, 3)) (ht : (pc : Int) + off = (tgt : Int)) (h : (if x = w then B else A) = some z) (kt : A = some z → tc_At l G y ρ μ' X tgt L st μ) (kf : B = some z → tc_At l G y ρ μ' X (pc + 3) L st μ) : tc_At l G y ρ μ' X pc L (.int w :: .int x :: st) μ := by
  obtain ⟨p, e, s, m, args, below, meth, c⟩ := X
  intro hC H locs ls hP hS hl
  exact lv_icmp_ne hC.1 hC.2.1 hd ht (fun q => kt (by rw [if_neg q] at h; exact h) hC H locs ls hP hS hl) (fun q => kf (by rw [if_pos q] at h; exact h) hC H locs ls hP hS hl)
/-- locals that nobody needs any more are left out -/
theorem tc_sub {L' : List (Nat × Value)} (ks : List Nat) (hl' : lv_pick L ks = L') (K : tc_At l G y ρ μ' X pc L' st μ) : tc_At l G y ρ μ' X pc L st μ := by
  obtain ⟨p, e, s, m, args, below, meth, c⟩ := X
  intro hC H locs ls hP hS hl
  exact K hC H locs ls hP hS (lv_sub hl ks hl')
/-- a switch by a table: outside, or at a place -/
theorem tc_tswD {x : Int32} {dflt lo hi : Int} {offs : Array Int} {len tgt : Nat} {a b : Int32} (hd : decode y.2.1 pc = .ok (.tableswitch dflt lo hi offs, len)) (hab : a.toInt = lo ∧ b.toInt = hi) (hx : x < a ∨ b < x) (ht : (pc : Int) + dflt = (tgt : Int)) (K : tc_At l G y ρ μ' X tgt L st μ) : tc_At l G y ρ μ' X pc L (.int x :: st) μ := by
  obtain ⟨p, e, s, m, args, below, meth, c⟩ := X
  intro hC H locs ls hP hS hl
  refine lv_tableOut hC.1 hC.2.1 hd ?_ ht (K hC H locs ls hP hS hl)
  rcases hx with q | q
  · left; rw [← hab.1]; exact Int32.lt_iff_toInt_lt.mp q
  · right; rw [← hab.2]; exact Int32.lt_iff_toInt_lt.mp q
theorem tc_tswK {x k : Int32} {dflt lo hi : Int} {offs : Array Int} {len tgt : Nat} {off : Int} (hd : decode y.2.1 pc = .ok (.tableswitch dflt lo hi offs, len)) (hx : x = k) (h1 : ¬ k.toInt < lo) (h2 : ¬ hi < k.toInt) (ho : offs[(k.toInt - lo).toNat]? = some off) (ht : (pc : Int) + off = (tgt : Int)) (K : tc_At l G y ρ μ' X tgt L st μ) : tc_At l G y ρ μ' X pc L (.int x :: st) μ := by
  subst hx
  obtain ⟨p, e, s, m, args, below, meth, c⟩ := X
  intro hC H locs ls hP hS hl
  exact lv_tableIn hC.1 hC.2.1 hd h1 h2 ho ht (K hC H locs ls hP hS hl)
theorem tc_lsw {x : Int32} {dflt : Int} {ps : Array (Int × Int)} {len : Nat} {off : Int} {tgt : Nat} (hd : decode y.2.1 pc = .ok (.lookupswitch dflt ps, len)) (hp : (ps.toList.zip (ps.toList.drop 1)).all (fun (a, next) => a.1 < next.1) = true) (ho : Op.lookupswitch.offset ps.toList dflt x.toInt = off) (ht : (pc : Int) + off = (tgt : Int)) (K : tc_At l G y ρ μ' X tgt L st μ) : tc_At l G y ρ μ' X pc L (.int x :: st) μ := by
  obtain ⟨p, e, s, m, args, below, meth, c⟩ := X
  intro hC H locs ls hP hS hl
  exact lv_lookup hC.1 hC.2.1 hd hp ho ht (K hC H locs ls hP hS hl)
/-- fields -/
theorem tc_get {ci a k index N : Nat} {C : String} {T : u_T} {fs : List (Option Nat)} {o : Option Nat} (hd : decode y.2.1 pc = .ok (.getfield index, 3)) (hin : ∀ w ∈ u_ws C T N, w ∈ lw_tbl ∧ goodWord w = true) (hc : tc_classes[ci]? = some (C, T, N)) (hk : k < N) (hw : Cond.fieldLink y.1.cls index (T k).1 (T k).2.1 (T k).2.2.1 ∈ tc_gw) (ha : tc_sk[a]? = some (.inr (ci, fs))) (hf : fs[k]? = some o) (K : tc_At l G y ρ μ' X (pc + 3) L (tc_fv (tc_ad G) (μ a) k o :: st) μ) : tc_At l G y ρ μ' X pc L (.ref (tc_ad G a) :: st) μ := by
  obtain ⟨p, e, s, m, args, below, meth, c⟩ := X
  intro hC H locs ls hP hS hl
  refine va_get (C := C) (T := T) (N := N) (ref := (T k).1) hC.1 hC.2.1 hC.2.2.2.2.2.1 (fun w h => List.mem_cons_of_mem _ (List.mem_filter.mpr (hin w h))) hC.2.2.2.2.1 hC.2.2.2.2.2.2.2.1 hP a (tc_world_at ha) hc k hk (hC.2.2.2.2.2.1 _ (List.mem_cons_of_mem _ hw)) (fun _ h => h) (v := tc_fv (tc_ad G) (μ a) k o) ?_ hd (K hC H locs ls hP hS hl)
  rw [List.getElem?_mapIdx, hf]
  rfl
theorem tc_put {ci a k index N : Nat} {C : String} {T : u_T} {fs : List (Option Nat)} {ty0 : Nat → FieldType} {v : Int32} {ty : FieldType} (hd : decode y.2.1 pc = .ok (.putfield index, 3)) (hin : ∀ w ∈ u_ws C T N, w ∈ lw_tbl ∧ goodWord w = true) (hc : tc_classes[ci]? = some (C, T, N)) (hk : k < N) (hw : Cond.fieldLink y.1.cls index (T k).1 (T k).2.1 (T k).2.2.1 ∈ tc_gw) (ha : tc_sk[a]? = some (.inr (ci, fs))) (hf : fs[k]? = some none) (hty : ∀ k, k < N → parseFieldDescriptor (T k).2.2.1 = some (ty0 k)) (hnm : ∀ a, a < N → ∀ b, b < N → a ≠ b → (T a).2.1 ≠ (T b).2.1) (hfin : (T k).2.2.2 = false) (hpt : parseFieldDescriptor (T k).2.2.1 = some ty) (hnar : narrow ty (.int v) = .int v) (hfit : fits ty (.int v) = true) (K : tc_At l G y ρ μ' X (pc + 3) L st (tc_wr μ a k v)) : tc_At l G y ρ μ' X pc L (.int v :: .ref (tc_ad G a) :: st) μ := by
  obtain ⟨p, e, s, m, args, below, meth, c⟩ := X
  intro hC H locs ls hP hS hl
  have hi := hC.2.2.2.2.2.2.2.2.1
  refine va_put (C := C) (T := T) (N := N) (ref := (T k).1) (v := .int v) hC.1 hC.2.1 hC.2.2.2.2.2.1 (fun w h => List.mem_cons_of_mem _ (List.mem_filter.mpr (hin w h))) ty0 hty hnm hC.2.2.2.2.1 hC.2.2.2.2.2.2.2.1 hP (tc_D hi μ) hS a (tc_world_at ha) hc k hk (hC.2.2.2.2.2.1 _ (List.mem_cons_of_mem _ hw)) (fun _ h => h) hfin hpt hnar hfit ?_ hd (fun H1 locs1 hP1 _ hS1 => ?_)
  · rw [List.length_mapIdx]; exact (List.getElem?_eq_some_iff.mp hf).1
  · rw [tc_fields_set hf] at hP1
    refine K hC H1 locs1 ls ?_ hS1 hl
    unfold tc_wd tc_wr
    rw [← tc_world_set (k := a) (g := upd (μ a) k v) ha (z := (tc_ad G a, .inr (ci, fs.mapIdx (tc_fv (tc_ad G) (upd (μ a) k v))))) (by simp only [tc_cell, tc_row_self]; rfl)]
    exact hP1
/-- arrays -/
theorem tc_iald {k n : Nat} {i : Int32} (hd : decode y.2.1 pc = .ok (.iaload, 1)) (ha : tc_sk[k]? = some (.inl (0, n))) (hi : vp_in i n) (K : tc_At l G y ρ μ' X (pc + 1) L (.int (μ k i.toNatClampNeg) :: st) μ) : tc_At l G y ρ μ' X pc L (.int i :: .ref (tc_ad G k) :: st) μ := by
  obtain ⟨p, e, s, m, args, below, meth, c⟩ := X
  intro hC H locs ls hP hS hl
  exact va_iald hC.1 hC.2.1 hC.2.2.2.2.2.2.2.1 hP k 0 (tc_world_at ha) rfl hi hd (K hC H locs ls hP hS hl)
theorem tc_zald {k n : Nat} {i : Int32} (hd : decode y.2.1 pc = .ok (.baload, 1)) (ha : tc_sk[k]? = some (.inl (1, n))) (hi : vp_in i n) (K : tc_At l G y ρ μ' X (pc + 1) L (.int (μ k i.toNatClampNeg) :: st) μ) : tc_At l G y ρ μ' X pc L (.int i :: .ref (tc_ad G k) :: st) μ := by
  obtain ⟨p, e, s, m, args, below, meth, c⟩ := X
  intro hC H locs ls hP hS hl
  exact va_zald hC.1 hC.2.1 hC.2.2.2.2.2.2.2.1 hP k 1 (tc_world_at ha) rfl hi hd (K hC H locs ls hP hS hl)
theorem tc_iast {k n : Nat} {i v : Int32} (hd : decode y.2.1 pc = .ok (.iastore, 1)) (ha : tc_sk[k]? = some (.inl (0, n))) (hi : vp_in i n) (K : tc_At l G y ρ μ' X (pc + 1) L st (tc_wr μ k i.toNatClampNeg v)) : tc_At l G y ρ μ' X pc L (.int v :: .int i :: .ref (tc_ad G k) :: st) μ := by
  obtain ⟨p, e, s, m, args, below, meth, c⟩ := X
  intro hC H locs ls hP hS hl
  refine va_iast hC.1 hC.2.1 hC.2.2.2.2.2.2.2.1 hP (tc_D hC.2.2.2.2.2.2.2.2.1 μ) hS k 0 (tc_world_at ha) rfl hi hd (fun H1 locs1 hP1 _ hS1 => K hC H1 locs1 ls ?_ hS1 hl)
  unfold tc_wd tc_wr
  rw [← tc_world_set (k := k) (g := upd (μ k) i.toNatClampNeg v) ha (z := (tc_ad G k, .inl (G.2.2.1 0, n, .inl (upd (μ k) i.toNatClampNeg v)))) (by simp only [tc_cell, tc_row_self]; rfl)]
  exact hP1
theorem tc_zast {k n : Nat} {i v : Int32} (hd : decode y.2.1 pc = .ok (.bastore, 1)) (ha : tc_sk[k]? = some (.inl (1, n))) (hi : vp_in i n) (K : tc_At l G y ρ μ' X (pc + 1) L st (tc_wr μ k i.toNatClampNeg (vp_nar .boolean v))) : tc_At l G y ρ μ' X pc L (.int v :: .int i :: .ref (tc_ad G k) :: st) μ := by
  obtain ⟨p, e, s, m, args, below, meth, c⟩ := X
  intro hC H locs ls hP hS hl
  refine va_zast hC.1 hC.2.1 hC.2.2.2.2.2.2.2.1 hP (tc_D hC.2.2.2.2.2.2.2.2.1 μ) hS k 1 (tc_world_at ha) rfl hi hd (fun H1 locs1 hP1 _ hS1 => K hC H1 locs1 ls ?_ hS1 hl)
  unfold tc_wd tc_wr
  rw [← tc_world_set (k := k) (g := upd (μ k) i.toNatClampNeg (vp_nar .boolean v)) ha (z := (tc_ad G k, .inl (G.2.2.1 1, n, .inl (upd (μ k) i.toNatClampNeg (vp_nar .boolean v))))) (by simp only [tc_cell, tc_row_self]; rfl)]
  exact hP1
theorem tc_alen {k t n : Nat} {v : Int32} (hd : decode y.2.1 pc = .ok (.arraylength, 1)) (ha : tc_sk[k]? = some (.inl (t, n))) (ht : t < 2) (hv : Int32.ofNat n = v) (K : tc_At l G y ρ μ' X (pc + 1) L (.int v :: st) μ) : tc_At l G y ρ μ' X pc L (.ref (tc_ad G k) :: st) μ := by
  obtain ⟨p, e, s, m, args, below, meth, c⟩ := X
  intro hC H locs ls hP hS hl
  rcases (show t = 0 ∨ t = 1 by omega) with rfl | rfl
  · exact va_alen hC.1 hC.2.1 hC.2.2.2.2.2.2.2.1 hP k 0 (tc_world_at ha) (ty := .int) rfl hv hd (K hC H locs ls hP hS hl)
  · exact va_alen hC.1 hC.2.1 hC.2.2.2.2.2.2.2.1 hP k 1 (tc_world_at ha) (ty := .boolean) rfl hv hd (K hC H locs ls hP hS hl)
/-- ends -/
theorem tc_iret {v : Int32} (hd : decode y.2.1 pc = .ok (.ireturn, 1)) (hr : y.2.2.2.1 = some .int) (h : ρ = some (.int v) ∧ μ' = μ) : tc_At l G y ρ μ' X pc L [.int v] μ := by
  obtain ⟨rfl, rfl⟩ := h
  obtain ⟨p, e, s, m, args, below, meth, c⟩ := X
  intro hC H locs ls hP hS hl
  have hlocks : meth.locks = false := hC.2.2.2.2.2.2.1
  exact W.iret hC.1 hC.2.1 (hC.2.2.1.trans hr) (fun t ht _ => ⟨rfl, by rw [ht]; exact hP, hS.F ht⟩) hS.2.2 hd
theorem tc_zret {v : Int32} (hd : decode y.2.1 pc = .ok (.ireturn, 1)) (hr : y.2.2.2.1 = some .boolean) (hv : v = 0 ∨ v = 1) (h : ρ = some (.int v) ∧ μ' = μ) : tc_At l G y ρ μ' X pc L [.int v] μ := by
  obtain ⟨rfl, rfl⟩ := h
  obtain ⟨p, e, s, m, args, below, meth, c⟩ := X
  intro hC H locs ls hP hS hl
  have hlocks : meth.locks = false := hC.2.2.2.2.2.2.1
  exact W.zret hC.1 hC.2.1 (hC.2.2.1.trans hr) (by rcases hv with rfl | rfl <;> decide) (fun t ht _ => ⟨rfl, by rw [ht]; exact hP, hS.F ht⟩) hS.2.2 hd
theorem tc_vret (hd : decode y.2.1 pc = .ok (.return_, 1)) (hr : y.2.2.2.1 = none) (h : ρ = none ∧ μ' = μ) : tc_At l G y ρ μ' X pc L [] μ := by
  obtain ⟨rfl, rfl⟩ := h
  obtain ⟨p, e, s, m, args, below, meth, c⟩ := X
  intro hC H locs ls hP hS hl
  have hlocks : meth.locks = false := hC.2.2.2.2.2.2.1
  exact W.vret hC.1 hC.2.1 (hC.2.2.1.trans hr) (fun t ht _ => ⟨rfl, by rw [ht]; exact hP, hS.F ht⟩) hS.2.2 hd
theorem tc_aret {v : Nat} {C : String} (hd : decode y.2.1 pc = .ok (.areturn, 1)) (hr : y.2.2.2.1 = some (.object C)) (h : ρ = some (.ref v) ∧ μ' = μ) : tc_At l G y ρ μ' X pc L [.ref v] μ := by
  obtain ⟨rfl, rfl⟩ := h
  obtain ⟨p, e, s, m, args, below, meth, c⟩ := X
  intro hC H locs ls hP hS hl
  have hlocks : meth.locks = false := hC.2.2.2.2.2.2.1
  exact W.aret hC.1 hC.2.1 (hC.2.2.1.trans hr) (Or.inl ⟨C, rfl⟩) (Or.inr ⟨v, rfl⟩) (fun t ht _ => ⟨rfl, by rw [ht]; exact hP, hS.F ht⟩) hS.2.2 hd
end RULES
