/-! the memory of ints: cell, place; the skeleton never changes behind the constructors -/
abbrev tc_Mem : Type := Nat → Nat → Int32
def tc_row (μ : tc_Mem) (k : Nat) (g : Nat → Int32) : tc_Mem := fun k' => if k' = k then g else μ k'
def tc_wr (μ : tc_Mem) (k i : Nat) (v : Int32) : tc_Mem := tc_row μ k (upd (μ k) i v)
abbrev tc_Sk : Type := (Nat × Nat) ⊕ (Nat × List (Option Nat))
def tc_fv (ad : Nat → Nat) (f : Nat → Int32) (j : Nat) (o : Option Nat) : Value := match o with
  | some q => .ref (ad q)
  | none => .int (f j)
def tc_cell (ad : Nat → Nat) (tc : Nat → ClassId) (μ : tc_Mem) (k : Nat) (c : tc_Sk) : Nat × va_E := match c with
  | .inl q => (ad k, .inl (tc q.1, q.2, .inl (μ k)))
  | .inr o => (ad k, .inr (o.1, o.2.mapIdx (tc_fv ad (μ k))))
def tc_world (ad : Nat → Nat) (tc : Nat → ClassId) (μ : tc_Mem) : va_W := tc_sk.mapIdx (tc_cell ad tc μ)
theorem tc_world_at {ad : Nat → Nat} {tc : Nat → ClassId} {μ : tc_Mem} {k : Nat} {c : tc_Sk} (h : tc_sk[k]? = some c) : (tc_world ad tc μ)[k]? = some (tc_cell ad tc μ k c) := by
  unfold tc_world
  rw [List.getElem?_mapIdx, h]
  rfl
theorem tc_cell_ad {ad : Nat → Nat} {tc : Nat → ClassId} {μ : tc_Mem} {k : Nat} {c : tc_Sk} : (tc_cell ad tc μ k c).1 = ad k := by
  cases c <;> rfl
theorem tc_world_inv {ad : Nat → Nat} {tc : Nat → ClassId} {μ : tc_Mem} {k : Nat} {q : Nat × va_E} (h : (tc_world ad tc μ)[k]? = some q) : ∃ c, tc_sk[k]? = some c ∧ q = tc_cell ad tc μ k c := by
  unfold tc_world at h
  rw [List.getElem?_mapIdx] at h
  cases hc : tc_sk[k]? with
  | none => rw [hc] at h; cases h
  | some c => rw [hc] at h; exact ⟨c, rfl, (Option.some.inj h).symm⟩
theorem tc_cell_off {ad : Nat → Nat} {tc : Nat → ClassId} {μ : tc_Mem} {k j : Nat} {g : Nat → Int32} (c : tc_Sk) (h : j ≠ k) : tc_cell ad tc (tc_row μ k g) j c = tc_cell ad tc μ j c := by
  unfold tc_cell tc_row
  rw [if_neg h]
theorem tc_world_set {ad : Nat → Nat} {tc : Nat → ClassId} {μ : tc_Mem} {k : Nat} {c : tc_Sk} {g : Nat → Int32} {z : Nat × va_E} (h : tc_sk[k]? = some c) (hz : tc_cell ad tc (tc_row μ k g) k c = z) : (tc_world ad tc μ).set k z = tc_world ad tc (tc_row μ k g) := by
  apply List.ext_getElem?
  intro j
  by_cases hj : j = k
  · subst hj
    rw [tc_world_at h, hz, List.getElem?_set_self]
    exact (List.getElem?_eq_some_iff.mp (tc_world_at (ad := ad) (tc := tc) (μ := μ) h)).1
  · rw [List.getElem?_set_ne (Ne.symm hj)]
    cases hc : tc_sk[j]? with
    | none =>
      unfold tc_world
      rw [List.getElem?_mapIdx, List.getElem?_mapIdx, hc]
      rfl
    | some d => rw [tc_world_at hc, tc_world_at hc, tc_cell_off d hj]
theorem tc_row_self (μ : tc_Mem) (k : Nat) (g : Nat → Int32) : tc_row μ k g k = g := if_pos rfl
theorem tc_row_off {μ : tc_Mem} {k j : Nat} {g : Nat → Int32} (h : j ≠ k) : tc_row μ k g j = μ j := if_neg h
theorem tc_fields_set {ad : Nat → Nat} {f : Nat → Int32} {fs : List (Option Nat)} {j : Nat} {v : Int32} (h : fs[j]? = some none) : (fs.mapIdx (tc_fv ad f)).set j (.int v) = fs.mapIdx (tc_fv ad (upd f j v)) := by
  apply List.ext_getElem?
  intro i
  by_cases hi : i = j
  · subst hi
    rw [List.getElem?_set_self (by rw [List.length_mapIdx]; exact (List.getElem?_eq_some_iff.mp h).1), List.getElem?_mapIdx, h]
    simp [tc_fv, upd]
  · rw [List.getElem?_set_ne (Ne.symm hi), List.getElem?_mapIdx, List.getElem?_mapIdx]
    cases fs[i]? with
    | none => rfl
    | some o =>
      cases o with
      | none => simp [tc_fv, upd, hi]
      | some q => simp [tc_fv]
/-! the frame of the world: addresses, array classes, tables, texts -/
abbrev tc_G : Type := va_G × (Nat → Nat) × (Nat → ClassId) × (Nat → Nat) × (Nat → Nat) × (Nat → Nat)
def tc_ad (G : tc_G) (k : Nat) : Nat := G.2.1 k
def tc_tb (G : tc_G) (k : Nat) : Nat := G.2.2.2.1 k
def tc_sK (G : tc_G) (k : Nat) : Nat := G.2.2.2.2.1 k
def tc_sV (G : tc_G) (k : Nat) : Nat := G.2.2.2.2.2 k
def tc_tys (G : tc_G) : List (ClassId × FieldType) := [(G.2.2.1 0, .int), (G.2.2.1 1, .boolean)]
def tc_wd (G : tc_G) (μ : tc_Mem) : va_W := tc_world G.2.1 G.2.2.1 μ
def tc_A (G : tc_G) (sz : Nat) : Nat → Prop := fun q => (∃ k, k < 77 ∧ q = tc_ad G k) ∨ sz ≤ q
def tc_inj (G : tc_G) : Prop := ∀ i j, i < 77 → j < 77 → tc_ad G i = tc_ad G j → i = j
theorem tc_A.mono {G : tc_G} {a b : Nat} (h : a ≤ b) (q : Nat) (hq : tc_A G b q) : tc_A G a q := by
  rcases hq with hq | hq
  · exact Or.inl hq
  · exact Or.inr (Nat.le_trans h hq)
theorem tc_sk_lt {k : Nat} {c : tc_Sk} (h : tc_sk[k]? = some c) : k < 77 := by
  have h1 := (List.getElem?_eq_some_iff.mp h).1
  rw [tc_sk_len] at h1
  exact h1
theorem tc_D {G : tc_G} {sz : Nat} (hi : tc_inj G) (μ : tc_Mem) : va_D (tc_A G sz) (tc_wd G μ) := by
  refine ⟨fun i j p q hp hq e => ?_, fun k q hq => ?_⟩
  · obtain ⟨c, h1, rfl⟩ := tc_world_inv hp
    obtain ⟨d, h2, rfl⟩ := tc_world_inv hq
    rw [tc_cell_ad, tc_cell_ad] at e
    exact hi i j (tc_sk_lt h1) (tc_sk_lt h2) e
  · obtain ⟨c, h1, rfl⟩ := tc_world_inv hq
    rw [tc_cell_ad]
    exact Or.inl ⟨k, tc_sk_lt h1, rfl⟩
/-! static tables, nest mates' words, texts -/
def tc_LOOKS (j : Nat) : Int32 := ([0, 0, 1, 2, 2, 3] : List Int32).getD j 0
def tc_ABOVE (j : Nat) : Int32 := ([-1, 0, 0, 1, 0, 2] : List Int32).getD j 0
def tc_NUMBERS (j : Nat) : Int32 := ([4, 1, 1, 2, 1, 1, 0, 0] : List Int32).getD j 0
def tc_Tab (C n : String) (t N : Nat) (f : Nat → Int32) (A : Nat → Prop) (U : State) (H : Heap) : Prop := va_Z C n "[I" (.ref t) A U H ∧ va_T .int t N (fun j => .int (f j)) A U H
theorem tc_Tab.moved {C n : String} {t N : Nat} {f : Nat → Int32} {A : Nat → Prop} {u U : State} {H : Heap} (hvm : u.vm.Alike U.vm) (h : tc_Tab C n t N f A u H) : tc_Tab C n t N f A U H := ⟨va_Z.moved hvm h.1, va_T.moved hvm h.2⟩
theorem tc_Tab.kept {C n : String} {t N : Nat} {f : Nat → Int32} {A : Nat → Prop} {U : State} {H H1 : Heap} (h : tc_Tab C n t N f A U H) (hq : ∀ a : Nat, a < H.size → ¬ A a → H1[a]? = H[a]?) : tc_Tab C n t N f A U H1 := ⟨h.1.kept hq, h.2.kept hq⟩
theorem tc_Tab.narrow {C n : String} {t N : Nat} {f : Nat → Int32} {A B : Nat → Prop} {U : State} {H : Heap} (h : tc_Tab C n t N f A U H) (hAB : ∀ q, B q → A q) : tc_Tab C n t N f B U H := ⟨h.1.narrow hAB, h.2.narrow hAB⟩
def tc_withBit : MethodName := ⟨"TrackCircuits", "withBit", "(IIZ)I"⟩
def tc_isWithin : MethodName := ⟨"TrackCircuits", "isWithin", "(III)Z"⟩
def tc_Nest (U : State) : Prop := va_Nw (.methodLinkNest "TrackCircuits$Yard" 69 tc_withBit "TrackCircuits") U ∧ va_Nw (.methodLinkNest "TrackCircuits$Asking" 59 tc_withBit "TrackCircuits") U ∧ va_Nw (.methodLinkNest "TrackCircuits$Mind" 99 tc_withBit "TrackCircuits") U ∧ va_Nw (.methodLinkNest "TrackCircuits$Sheets" 21 tc_isWithin "TrackCircuits") U ∧ va_Nw (.fieldLinkNest "TrackCircuits$Yard" 66 "TrackCircuits" "LOOKS" "[I" "TrackCircuits") U ∧ va_Nw (.fieldLinkNest "TrackCircuits$Tape" 45 "TrackCircuits" "NUMBERS" "[I" "TrackCircuits") U
theorem tc_Nest.warm {s U : State} (hW : s.WarmedH U.vm) (h : tc_Nest s) : tc_Nest U := by
  obtain ⟨h1, h2, h3, h4, h5, h6⟩ := h
  exact ⟨va_Nw.warmM hW h1, va_Nw.warmM hW h2, va_Nw.warmM hW h3, va_Nw.warmM hW h4, va_Nw.warmF hW h5, va_Nw.warmF hW h6⟩
theorem tc_Nest.same {u U : State} (hv : u.vm = U.vm) (h : tc_Nest u) : tc_Nest U := by
  obtain ⟨h1, h2, h3, h4, h5, h6⟩ := h
  exact ⟨va_Nw.same rfl hv h1, va_Nw.same rfl hv h2, va_Nw.same rfl hv h3, va_Nw.same rfl hv h4, va_Nw.same rfl hv h5, va_Nw.same rfl hv h6⟩
def tc_txt : List String := ["section", "train", "gone", "fault", "mend", "weather", "moment", "drop"]
def tc_txI4 : List Nat := [69, 71, 73, 75, 77, 79, 81, 83]
def tc_txI7 : List Nat := [237, 239, 240, 242, 244, 246, 248, 250]
def tc_txB : List (List Int32) := [[115, 101, 99, 116, 105, 111, 110], [116, 114, 97, 105, 110], [103, 111, 110, 101], [102, 97, 117, 108, 116], [109, 101, 110, 100], [119, 101, 97, 116, 104, 101, 114], [109, 111, 109, 101, 110, 116], [100, 114, 111, 112]]
def tc_txL : List Nat := [7, 5, 4, 5, 4, 7, 6, 4]
def tc_StrR (G : tc_G) (U : State) : Prop := ∀ i, i < 8 → vk_R "TrackCircuits$Tape" (tc_txI4.getD i 0) (tc_txt.getD i "") (tc_sK G i) U ∧ vk_R "TrackCircuitsModel" (tc_txI7.getD i 0) (tc_txt.getD i "") (tc_sK G i) U
def tc_Str (G : tc_G) (A : Nat → Prop) (U : State) (H : Heap) : Prop := vk_S 8 tc_txL tc_txB (tc_sK G) (tc_sV G) A U H ∧ va_Z "java/lang/String" "COMPACT_STRINGS" "Z" (.int 1) A U H ∧ va_Zq "jdk/internal/util/Preconditions" "SIOOBE_FORMATTER" "Ljava/util/function/BiFunction;" A U H
def tc_Stat (G : tc_G) (A : Nat → Prop) (U : State) (H : Heap) : Prop := tc_Tab "TrackCircuits" "LOOKS" (tc_tb G 0) 6 tc_LOOKS A U H ∧ tc_Tab "TrackCircuits" "ABOVE" (tc_tb G 1) 6 tc_ABOVE A U H ∧ tc_Tab "TrackCircuits" "NUMBERS" (tc_tb G 2) 8 tc_NUMBERS A U H ∧ tc_Str G A U H
theorem tc_Stat.moved {G : tc_G} {A : Nat → Prop} {u U : State} {H : Heap} (hvm : u.vm.Alike U.vm) (h : tc_Stat G A u H) : tc_Stat G A U H := by
  obtain ⟨h1, h2, h3, h4, h5, h6⟩ := h
  exact ⟨h1.moved hvm, h2.moved hvm, h3.moved hvm, h4.moved hvm, h5.moved hvm, h6.moved hvm⟩
theorem tc_Stat.kept {G : tc_G} {A : Nat → Prop} {U : State} {H H1 : Heap} (h : tc_Stat G A U H) (hq : ∀ a : Nat, a < H.size → ¬ A a → H1[a]? = H[a]?) : tc_Stat G A U H1 := by
  obtain ⟨h1, h2, h3, h4, h5, h6⟩ := h
  exact ⟨h1.kept hq, h2.kept hq, h3.kept hq, h4.kept hq, h5.kept hq, h6.kept hq⟩
theorem tc_Stat.narrow {G : tc_G} {A B : Nat → Prop} {U : State} {H : Heap} (h : tc_Stat G A U H) (hAB : ∀ q, B q → A q) : tc_Stat G B U H := by
  obtain ⟨h1, h2, h3, h4, h5, h6⟩ := h
  exact ⟨h1.narrow hAB, h2.narrow hAB, h3.narrow hAB, h4.narrow hAB, h5.narrow hAB, h6.narrow hAB⟩
theorem tc_StrR.warm {G : tc_G} {s U : State} (hW : s.WarmedH U.vm) (h : tc_StrR G s) : tc_StrR G U := fun i hi => ⟨vk_R.warm hW (h i hi).1, vk_R.warm hW (h i hi).2⟩
theorem tc_StrR.same {G : tc_G} {u U : State} (hv : U.vm = u.vm) (h : tc_StrR G u) : tc_StrR G U := fun i hi => ⟨vk_R.same hv (h i hi).1, vk_R.same hv (h i hi).2⟩
/-- what stays of the frame, at a state -/
def tc_St (G : tc_G) (sz : Nat) (U : State) : Prop := va_K G.1 tc_classes (tc_tys G) U ∧ tc_inj G ∧ tc_Stat G (tc_A G sz) U U.heap ∧ tc_Nest U ∧ tc_StrR G U
/-! methods -/
abbrev tc_MI : Type := MethodName × ByteArray × Nat × Option FieldType × Room
def tc_gw : List Cond := lw_tbl.filter goodWord
def tc_ws (y : tc_MI) : List Cond := Cond.code y.1 y.2.1 y.2.2.1 y.2.2.2.1 :: tc_gw
theorem tc_gm {w : Cond} (i : Nat) (h : lw_tbl[i]? = some w) (hg : goodWord w = true) : w ∈ tc_gw := List.mem_filter.mpr ⟨List.mem_of_getElem? h, hg⟩
theorem tc_goodIn {y z : tc_MI} (h : Cond.code z.1 z.2.1 z.2.2.1 z.2.2.2.1 ∈ tc_gw) : GoodIn (tc_ws y) (tc_ws z) := by
  intro w hw
  have hw' : w ∈ tc_gw := by
    rcases List.mem_cons.mp hw with rfl | hw
    · exact h
    · exact hw
  exact ⟨List.mem_cons_of_mem _ hw', good_of_word (List.mem_filter.mp hw').2⟩
/-- the end of a method: its answer, its world -/
def tc_Qc (G : tc_G) (sz : Nat) (ρ : Option Value) (μ' : tc_Mem) : Array Value → State → Outcome → State → Prop := fun _ st oc t => oc = .returned ρ ∧ va_P G.1 tc_classes (tc_wd G μ') t.heap ∧ va_F (tc_A G sz) st t
def tc_Pc (G : tc_G) (sz : Nat) (av : List Value) (μ : tc_Mem) : Array Value → State → Prop := va_Pc av (fun U => U.heap.size = sz ∧ va_P G.1 tc_classes (tc_wd G μ) U.heap ∧ tc_St G sz U)
/-- a method's contract at arguments and a memory -/
def tc_Con (l : Launch) (G : tc_G) (y : tc_MI) (av : List Value) (μ : tc_Mem) (ρ : Option Value) (μ' : tc_Mem) : Prop := ∀ sz : Nat, Met l y.1 (tc_ws y) y.2.2.2.2 (tc_Pc G sz av μ) (tc_Qc G sz ρ μ') 0 0 (tc_A G sz)
abbrev tc_X : Type := Program × Env × State × MethodId × Array Value × List Frame × Method × Code
def tc_Ctx (G : tc_G) (y : tc_MI) : tc_X → Prop
  | (p, _, s, m, args, _, meth, c) => p.tables.exec = Jvm.exec ∧ c.code = y.2.1 ∧ meth.sig.returnType = y.2.2.2.1 ∧ c.maxLocals = y.2.2.1 ∧ s.vm.findClass y.1.cls = some m.cls ∧ (∀ w ∈ tc_ws y, w.before args s = true) ∧ meth.locks = false ∧ tc_St G s.heap.size s
def tc_At (l : Launch) (G : tc_G) (y : tc_MI) (ρ : Option Value) (μ' : tc_Mem) : tc_X → Nat → List (Nat × Value) → List Value → tc_Mem → Prop
  | (p, e, s, m, args, below, meth, c), pc, L, st, μ => tc_Ctx G y (p, e, s, m, args, below, meth, c) → ∀ (H : Heap) (locs : List Loc) (ls : Array Slot), va_P G.1 tc_classes (tc_wd G μ) H → va_S (tc_A G s.heap.size) s.heap H locs → lv_has ls y.2.2.1 L → W p l e y.2.2.2.2 s m args below meth c H locs 0 0 (MQ below (tc_Qc G s.heap.size ρ μ') args s 0 0 (tc_A G s.heap.size)) (F0 m pc ls st)
theorem tc_St.blind {G : tc_G} {sz : Nat} {U V : State} (hv : V.vm = U.vm) (hh : V.heap = U.heap) (h : tc_St G sz U) : tc_St G sz V := by
  obtain ⟨h1, h2, h3, h4, h5⟩ := h
  have ha : U.vm.Alike V.vm := by rw [hv]; exact Vm.Alike.refl _
  exact ⟨va_K.moved ha h1, h2, by rw [hh]; exact h3.moved ha, h4.same hv.symm, h5.same hv⟩
theorem tc_blind {G : tc_G} {sz : Nat} {av : List Value} {μ : tc_Mem} : FrameBlind (tc_Pc G sz av μ) := by
  intro a U g mk q
  obtain ⟨q0, q1, q2, q3⟩ := q
  exact ⟨q0, q1, q2, tc_St.blind (U := U) rfl rfl q3⟩
/-- a method's contract out of its walk -/
theorem tc_Con.of {l : Launch} {G : tc_G} {y : tc_MI} {av : List Value} {μ : tc_Mem} {ρ : Option Value} {μ' : tc_Mem} {L : List (Nat × Value)} (hp : plainName y.1.cls = true) (hn : (lg_sl av).length ≤ y.2.2.1) (hL : lv_args 0 av = L) (h : ∀ X : tc_X, tc_At l G y ρ μ' X 0 L [] μ) : tc_Con l G y av μ ρ μ' := by
  intro sz
  refine Met.ofW (cc := y.2.1) (maxL := y.2.2.1) (ret := y.2.2.2.1) hp rfl ?_
  intro p e s m args below meth c s₁ B hml hv
  obtain ⟨rfl, hsz, hP, hSt⟩ := hv
  subst hsz
  have hl := lv_entry av (n := y.2.2.1) hn
  rw [hL] at hl
  rw [lg_entry_eq]
  exact h (p, e, s, m, av.toArray, below, meth, c) ⟨B.exec, B.bytes, B.returns, hml, findClass_of_methodNamed B.named, atoms_spec (ws := tc_ws y) B.pre, B.notSynchronized, hSt⟩ s.heap [] _ hP va_S.rf hl
