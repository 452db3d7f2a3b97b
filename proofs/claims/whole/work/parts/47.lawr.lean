
/-! the law's own walk, between its calls -/
def tc_LC (G : tc_G) (b Ls : Nat) (xs : Nat → Int32) : tc_X → Prop
  | (p, _, s, m, _, _, meth, c) => lw_At p s m meth c b Ls xs ∧ va_K G.1 tc_classes (tc_tys G) s ∧ tc_inj G ∧ (∀ k, k < 77 → s.heap.size ≤ tc_ad G k) ∧ tc_Stat G (fun q => s.heap.size ≤ q) s s.heap ∧ tc_Nest s ∧ tc_StrR G s
def tc_Lw (l : Launch) (G : tc_G) (b Ls : Nat) (xs : Nat → Int32) : tc_X → Nat → List (Nat × Value) → List Value → tc_Mem → Prop
  | (p, e, s, m, args, below, meth, c), pc, L, st, μ => tc_LC G b Ls xs (p, e, s, m, args, below, meth, c) → ∀ (H : Heap) (locs : List Loc) (ls : Array Slot), va_P G.1 tc_classes (tc_wd G μ) H → va_S (fun q => s.heap.size ≤ q) s.heap H locs → lv_has ls 4 L → W p l e room_1 s m #[Value.ref b] below meth c H locs 77 1450 (lw_Z below #[Value.ref b] s) (F0 m pc ls st)
section LAWR
variable {l : Launch} {G : tc_G} {b Ls : Nat} {xs : Nat → Int32} {X : tc_X} {pc : Nat} {L : List (Nat × Value)} {st : List Value} {μ : tc_Mem}
theorem tc_lA {s : State} {H : Heap} (h : ∀ k, k < 77 → s.heap.size ≤ tc_ad G k) (hz : s.heap.size ≤ H.size) (q : Nat) (hq : tc_A G H.size q) : s.heap.size ≤ q := by
  rcases hq with ⟨k, hk, rfl⟩ | hq
  · exact h k hk
  · exact Nat.le_trans hz hq

theorem tc_l_iconst {n : Int} {v : Int32} (hd : decode code pc = .ok (.iconst n, 1)) (hv : Int32.ofInt n = v) (K : tc_Lw l G b Ls xs X (pc + 1) L (.int v :: st) μ) : tc_Lw l G b Ls xs X pc L (st) μ := by
  obtain ⟨p, e, s, m, args, below, meth, c⟩ := X
  intro hC H locs ls hP hS hl
  exact lv_iconst hC.1.1 hC.1.2.1 hd hv (K hC H locs ls hP hS hl)
theorem tc_l_bipush {n : Int} {v : Int32} (hd : decode code pc = .ok (.bipush n, 2)) (hv : (Int8.ofInt n).toInt32 = v) (K : tc_Lw l G b Ls xs X (pc + 2) L (.int v :: st) μ) : tc_Lw l G b Ls xs X pc L (st) μ := by
  obtain ⟨p, e, s, m, args, below, meth, c⟩ := X
  intro hC H locs ls hP hS hl
  exact lv_bipush hC.1.1 hC.1.2.1 hd hv (K hC H locs ls hP hS hl)
theorem tc_l_iload_n {k : Fin 4} {x : Int32} (hd : decode code pc = .ok (.iload_n k, 1)) (j : Nat) (hj : L[j]? = some ((k : Nat), .int x)) (K : tc_Lw l G b Ls xs X (pc + 1) L (.int x :: st) μ) : tc_Lw l G b Ls xs X pc L (st) μ := by
  obtain ⟨p, e, s, m, args, below, meth, c⟩ := X
  intro hC H locs ls hP hS hl
  exact lv_iload_n hC.1.1 hC.1.2.1 hd rfl (lv_at hl j hj) (K hC H locs ls hP hS hl)
theorem tc_l_aload_n {k : Fin 4} {x : Nat} (hd : decode code pc = .ok (.aload_n k, 1)) (j : Nat) (hj : L[j]? = some ((k : Nat), .ref x)) (K : tc_Lw l G b Ls xs X (pc + 1) L (.ref x :: st) μ) : tc_Lw l G b Ls xs X pc L (st) μ := by
  obtain ⟨p, e, s, m, args, below, meth, c⟩ := X
  intro hC H locs ls hP hS hl
  exact lv_aload_n hC.1.1 hC.1.2.1 hd rfl (lv_at hl j hj) (K hC H locs ls hP hS hl)
theorem tc_l_iadd {a c : Int32} (hd : decode code pc = .ok (.iadd, 1)) (K : tc_Lw l G b Ls xs X (pc + 1) L (.int (a + c) :: st) μ) : tc_Lw l G b Ls xs X pc L (.int c :: .int a :: st) μ := by
  obtain ⟨p, e, s, m, args, below, meth, c⟩ := X
  intro hC H locs ls hP hS hl
  exact lv_iadd hC.1.1 hC.1.2.1 hd (K hC H locs ls hP hS hl)
theorem tc_l_isub {a c : Int32} (hd : decode code pc = .ok (.isub, 1)) (K : tc_Lw l G b Ls xs X (pc + 1) L (.int (a - c) :: st) μ) : tc_Lw l G b Ls xs X pc L (.int c :: .int a :: st) μ := by
  obtain ⟨p, e, s, m, args, below, meth, c⟩ := X
  intro hC H locs ls hP hS hl
  exact lv_isub hC.1.1 hC.1.2.1 hd (K hC H locs ls hP hS hl)
theorem tc_l_iand {a c : Int32} (hd : decode code pc = .ok (.iand, 1)) (K : tc_Lw l G b Ls xs X (pc + 1) L (.int (a &&& c) :: st) μ) : tc_Lw l G b Ls xs X pc L (.int c :: .int a :: st) μ := by
  obtain ⟨p, e, s, m, args, below, meth, c⟩ := X
  intro hC H locs ls hP hS hl
  exact lv_iand hC.1.1 hC.1.2.1 hd (K hC H locs ls hP hS hl)

theorem tc_l_goto {off : Int} {tgt : Nat} (hd : decode code pc = .ok (.goto off, 3)) (ht : (pc : Int) + off = (tgt : Int)) (K : tc_Lw l G b Ls xs X tgt L st μ) : tc_Lw l G b Ls xs X pc L st μ := by
  obtain ⟨p, e, s, m, args, below, meth, c⟩ := X
  intro hC H locs ls hP hS hl
  exact lv_goto hC.1.1 hC.1.2.1 hd ht (K hC H locs ls hP hS hl)
theorem tc_l_gt {x w : Int32} {off : Int} {tgt : Nat} (hd : decode code pc = .ok (.if_icmp .gt off, 3)) (ht : (pc : Int) + off = (tgt : Int)) (kt : w < x → tc_Lw l G b Ls xs X tgt L st μ) (kf : ¬ w < x → tc_Lw l G b Ls xs X (pc + 3) L st μ) : tc_Lw l G b Ls xs X pc L (.int w :: .int x :: st) μ := by
  obtain ⟨p, e, s, m, args, below, meth, c⟩ := X
  intro hC H locs ls hP hS hl
  exact lv_icmp_gt hC.1.1 hC.1.2.1 hd ht (fun q => kt q hC H locs ls hP hS hl) (fun q => kf q hC H locs ls hP hS hl)
theorem tc_l_eq {x : Int32} {off : Int} {tgt : Nat} (hd : decode code pc = .ok (.if_icmp .eq off, 3)) (ht : (pc : Int) + off = (tgt : Int)) (kt : tc_Lw l G b Ls xs X tgt L st μ) : tc_Lw l G b Ls xs X pc L (.int x :: .int x :: st) μ := by
  obtain ⟨p, e, s, m, args, below, meth, c⟩ := X
  intro hC H locs ls hP hS hl
  exact lv_icmp_eq hC.1.1 hC.1.2.1 hd ht (fun _ => kt hC H locs ls hP hS hl) (fun q => absurd rfl q)
theorem tc_l_iinc {i : Nat} {n : Int} {x v : Int32} {L' : List (Nat × Value)} (hd : decode code pc = .ok (.iinc i n, 3)) (j : Nat) (hj : L[j]? = some (i, .int x)) (hv : x + Int32.ofInt n = v) (hn : i < 4) (hl' : (i, Value.int v) :: L.filter (fun q => !(q.1 == i) && !(q.1 + 1 == i && q.2.category == 2)) = L') (K : tc_Lw l G b Ls xs X (pc + 3) L' st μ) : tc_Lw l G b Ls xs X pc L st μ := by
  obtain ⟨p, e, s, m, args, below, meth, c⟩ := X
  intro hC H locs ls hP hS hl
  exact lv_iinc hC.1.1 hC.1.2.1 hd hl hj hv hn hl' (fun ls' h' => K hC H locs ls' hP hS h')
theorem tc_l_sub {L' : List (Nat × Value)} (ks : List Nat) (hl' : lv_pick L ks = L') (K : tc_Lw l G b Ls xs X pc L' st μ) : tc_Lw l G b Ls xs X pc L st μ := by
  obtain ⟨p, e, s, m, args, below, meth, c⟩ := X
  intro hC H locs ls hP hS hl
  exact K hC H locs ls hP hS (lv_sub hl ks hl')
theorem tc_l_tswD {x : Int32} {dflt lo hi : Int} {offs : Array Int} {len tgt : Nat} {a c1 : Int32} (hd : decode code pc = .ok (.tableswitch dflt lo hi offs, len)) (hab : a.toInt = lo ∧ c1.toInt = hi) (hx : x < a ∨ c1 < x) (ht : (pc : Int) + dflt = (tgt : Int)) (K : tc_Lw l G b Ls xs X tgt L st μ) : tc_Lw l G b Ls xs X pc L (.int x :: st) μ := by
  obtain ⟨p, e, s, m, args, below, meth, c⟩ := X
  intro hC H locs ls hP hS hl
  refine lv_tableOut hC.1.1 hC.1.2.1 hd ?_ ht (K hC H locs ls hP hS hl)
  rcases hx with q | q
  · left; rw [← hab.1]; exact Int32.lt_iff_toInt_lt.mp q
  · right; rw [← hab.2]; exact Int32.lt_iff_toInt_lt.mp q
theorem tc_l_tswK {x k : Int32} {dflt lo hi : Int} {offs : Array Int} {len tgt : Nat} {off : Int} (hd : decode code pc = .ok (.tableswitch dflt lo hi offs, len)) (hx : x = k) (h1 : ¬ k.toInt < lo) (h2 : ¬ hi < k.toInt) (ho : offs[(k.toInt - lo).toNat]? = some off) (ht : (pc : Int) + off = (tgt : Int)) (K : tc_Lw l G b Ls xs X tgt L st μ) : tc_Lw l G b Ls xs X pc L (.int x :: st) μ := by
  subst hx
  obtain ⟨p, e, s, m, args, below, meth, c⟩ := X
  intro hC H locs ls hP hS hl
  exact lv_tableIn hC.1.1 hC.1.2.1 hd h1 h2 ho ht (K hC H locs ls hP hS hl)
theorem tc_l_slen (hd : decode code pc = .ok (.arraylength, 1)) (K : tc_Lw l G b Ls xs X (pc + 1) L (.int (Int32.ofNat Ls) :: st) μ) : tc_Lw l G b Ls xs X pc L (.ref b :: st) μ := by
  obtain ⟨p, e, s, m, args, below, meth, c⟩ := X
  intro hC H locs ls hP hS hl
  obtain ⟨hx, hb, hr, hml, hown, hts, hX, hbl, hlocks, hgv⟩ := hC.1
  exact va_slen hx hb hX hbl (Nat.not_le.mpr hbl) hS hd (K hC H locs ls hP hS hl)
theorem tc_l_sld {i : Int32} (hd : decode code pc = .ok (.iaload, 1)) (hi : vp_in i Ls) (K : tc_Lw l G b Ls xs X (pc + 1) L (.int (xs i.toNatClampNeg) :: st) μ) : tc_Lw l G b Ls xs X pc L (.int i :: .ref b :: st) μ := by
  obtain ⟨p, e, s, m, args, below, meth, c⟩ := X
  intro hC H locs ls hP hS hl
  obtain ⟨hx, hb, hr, hml, hown, hts, hX, hbl, hlocks, hgv⟩ := hC.1
  exact va_sld hx hb hX hbl (Nat.not_le.mpr hbl) hS hi hd (K hC H locs ls hP hS hl)
theorem tc_l_ret (hd : decode code pc = .ok (.ireturn, 1)) : tc_Lw l G b Ls xs X pc L [.int 1] μ := by
  obtain ⟨p, e, s, m, args, below, meth, c⟩ := X
  intro hC H locs ls hP hS hl
  obtain ⟨hx, hb, hr, hml, hown, hts, hX, hbl, hlocks, hgv⟩ := hC.1
  refine va_forget (fun q hq => hS.2.2 q hq) ?_
  exact lw_ret hx hb hr hlocks hd
theorem tc_l_call {z : tc_MI} {index n ci a N : Nat} {fs : List (Option Nat)} {T : u_T} {As rest : List Value} {r1 : Int32} {μ1 : tc_Mem} {st0 : List Value}
    (hd : decode code pc = .ok (.invokevirtual index, 3)) (hz : tc_OkV z n) (hlk : Cond.methodLink R_law index z.1 ∈ tc_gw) (hR : z.2.2.2.2.frames + 1 ≤ 12 ∧ 8 + (z.2.2.1 + 11) + z.2.2.2.2.locals ≤ 444) (ha : tc_sk[a]? = some (.inr (ci, fs))) (hc : tc_classes[ci]? = some (z.1.cls, T, N))
    (hcon : tc_Con l G z (.ref (tc_ad G a) :: As) μ (some (.int r1)) μ1) (hn : As.length = n) (hst : st0 = As.reverse ++ .ref (tc_ad G a) :: rest) (hrest : (rest.map fun v => v.category).sum ≤ 8) (K : tc_Lw l G b Ls xs X (pc + 3) L (.int r1 :: rest) μ1) : tc_Lw l G b Ls xs X pc L st0 μ := by
  subst hst
  obtain ⟨p, e, s, m, args, below, meth, c⟩ := X
  intro hC H locs ls hP hS hl
  obtain ⟨⟨hx, hb, hr, hml, hown, hts, hX, hbl, hlocks, hgv⟩, hK, hinj, hnew, hStat, hNest, hStrR⟩ := id hC
  obtain ⟨⟨z1, z2, z3, z4, z5⟩, z6, z7⟩ := hz
  have hg : ∀ w, w ∈ tc_gw → w.before #[Value.ref b] s = true := fun w h => hts w (List.mem_filter.mp h).1
  have hgi : GoodIn lw_tbl (tc_ws z) := fun w hw => by
    have h1 := tc_goodIn (y := z) z1 w hw
    refine ⟨?_, h1.2⟩
    rcases List.mem_cons.mp hw with rfl | hw
    · exact (List.mem_filter.mp z1).1
    · exact (List.mem_filter.mp hw).1
  have hcw : CallW room_1 s #[Value.ref b] R_law z.1.cls index z.1 z.2.1 z.2.2.1 z.2.2.2.1 (tc_ws z) z.2.2.2.2 0 0 n := ⟨callB_of n hts hgi rfl z4 z5 (hg _ z2) (hg _ hlk) z3 hR, hg _ z6, hg _ z7⟩
  have hrun := va_runV (l := l) (e := e) (below := below) (meth := meth) (locs := locs) (cells := 77) (slots := 1450) (g := F0 m pc ls (As.reverse ++ .ref (tc_ad G a) :: rest)) (As := As) (rest := rest) (b := tc_ad G a) ⟨hx, hb, hml, hown, hts⟩ (hcon H.size) hcw ⟨tc_blind, va_recv hK hP hc (tc_world_at ha), fun U hU hW => ⟨rfl, by rw [hU], by rw [hU]; exact hP, ⟨va_K.moved hW.alike hK, hinj, by
    rw [hU]
    exact ((hStat.kept (fun a ha hn => hS.2.1 a ha hn)).narrow (fun q hq => tc_lA hnew hS.1 q hq)).moved hW.alike, hNest.warm hW, hStrR.warm hW⟩⟩⟩ rfl hn hl.1 rfl (lv_room hrest) hd ⟨Nat.le_refl _, Nat.le_refl _⟩
  intro T hT X
  obtain ⟨v, st₀, t, T', L1, h0, X', hL, e1, e2, ⟨hv, hP1, hz1, hk1⟩, st⟩ := hrun T hT X
  cases hv
  rw [h0] at hz1 hk1
  obtain ⟨t2, a1, b1⟩ := K hC T'.heap (locs ++ L1) ls (by rw [e1]; exact hP1) ⟨Nat.le_trans hS.1 (by rw [e1]; exact hz1), fun q h1 h2 => by
      rw [e1, hk1 q (Nat.lt_of_lt_of_le h1 hS.1) (fun z => h2 (tc_lA hnew hS.1 q z))]
      exact hS.2.1 q h1 h2, fun q hq => by
      rcases List.mem_append.mp hq with h | h
      · exact hS.2.2 q h
      · exact tc_lA hnew hS.1 _ (hL q h)⟩ hl T' rfl X'
  exact ⟨t2, st t2 a1, b1⟩
/-- an argument: what the script holds at i + k -/
theorem tc_l_arg {i : Nat} {k : Int} (v j : Nat) {rx : List (Nat × Value)} (hL' : L = [(0, .ref b), (1, .ref (tc_ad G 0)), (2, .ref (tc_ad G 50)), (3, .int (nI i))]) (hv : Int32.ofInt k = nI j) (hj : i + j < Ls) (hs : Ls < 2 ^ 31) (d0 : decode code pc = .ok (.aload_n 0, 1)) (d1 : decode code (pc + 1) = .ok (.iload_n 3, 1)) (d2 : decode code (pc + 2) = .ok (.iconst k, 1)) (d3 : decode code (pc + 3) = .ok (.iadd, 1)) (d4 : decode code (pc + 4) = .ok (.iaload, 1)) (K : tc_Lw l G b Ls xs X (pc + 5) L (.int (xs (i + j)) :: st) μ) : tc_Lw l G b Ls xs X pc L st μ := by
  subst hL'
  refine tc_l_aload_n d0 0 rfl ?_
  refine tc_l_iload_n d1 3 rfl ?_
  refine tc_l_iconst d2 hv ?_
  refine tc_l_iadd d3 ?_
  rw [nI_add]
  refine tc_l_sld d4 (vp_in_nI hj hs) ?_
  rw [nI_clamp (by omega)]
  exact K
theorem tc_l_arg6 {i : Nat} {k : Int} (v j : Nat) {rx : List (Nat × Value)} (hL' : L = [(0, .ref b), (1, .ref (tc_ad G 0)), (2, .ref (tc_ad G 50)), (3, .int (nI i))]) (hv : (Int8.ofInt k).toInt32 = nI j) (hj : i + j < Ls) (hs : Ls < 2 ^ 31) (d0 : decode code pc = .ok (.aload_n 0, 1)) (d1 : decode code (pc + 1) = .ok (.iload_n 3, 1)) (d2 : decode code (pc + 2) = .ok (.bipush k, 2)) (d3 : decode code (pc + 4) = .ok (.iadd, 1)) (d4 : decode code (pc + 5) = .ok (.iaload, 1)) (K : tc_Lw l G b Ls xs X (pc + 6) L (.int (xs (i + j)) :: st) μ) : tc_Lw l G b Ls xs X pc L st μ := by
  subst hL'
  refine tc_l_aload_n d0 0 rfl ?_
  refine tc_l_iload_n d1 3 rfl ?_
  refine tc_l_bipush d2 hv ?_
  refine tc_l_iadd d3 ?_
  rw [nI_add]
  refine tc_l_sld d4 (vp_in_nI hj hs) ?_
  rw [nI_clamp (by omega)]
  exact K
end LAWR

