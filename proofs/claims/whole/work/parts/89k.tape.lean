/-! the tape, counts -/
section H4
variable {N : Nat} {Y Z : tc_Y} {x1 x2 x3 x4 x5 x6 : Int32} {μ μ0 μ1 μ2 : tc_Mem} {tp : List Int32}
def tz_TC (μ : tc_Mem) (tp : List Int32) : Prop := μ 42 1 = nI tp.length ∧ tc_CH μ 43 tp
def tz_TM (μ : tc_Mem) (tp : List Int32) : Prop := μ 50 17 = nI tp.length ∧ tc_CH μ 63 tp
def tz_F4 (μ μ' : tc_Mem) : Prop := (∀ k, k ≠ 42 → k ≠ 43 → μ' k = μ k) ∧ ∀ j, j ≠ 1 → μ' 42 j = μ 42 j
def tz_F7 (μ μ' : tc_Mem) : Prop := (∀ k, k ≠ 50 → k ≠ 63 → μ' k = μ k) ∧ ∀ j, j ≠ 17 → μ' 50 j = μ 50 j
theorem tz_CHw {k : Nat} (h : tc_CH μ k tp) : tc_CH (tc_wr μ k tp.length x1) k (tp ++ [x1]) := by
  intro i v hi
  rw [tc_wr_at]
  by_cases c : i < tp.length
  · rw [List.getElem?_append_left c] at hi
    rw [if_neg (by omega)]; exact h i v hi
  · rw [List.getElem?_append_right (by omega)] at hi
    have : i - tp.length = 0 := by
      have := (List.getElem?_eq_some_iff.mp hi).1
      simp at this; omega
    rw [this] at hi
    simp at hi
    rw [if_pos ⟨rfl, by omega⟩]; exact hi
theorem tz_ad {K : tc_Mem → Option (Int32 × tc_Mem)} {P : Int32 → tc_Mem → Prop} (hT : tz_TC μ1 tp) (hl : tp.length < 60) (hF : tz_F4 μ μ1) (h : ∀ μ2, tz_F4 μ μ2 → tz_TC μ2 (tp ++ [x1]) → tc_wp (K μ2) P) : tc_wp (tc_bd (tc_f4_add N x1 μ1) fun _ μ2 => K μ2) P := by
  unfold tc_f4_add
  rw [tc_wp_bd, hT.1, if_neg (by rw [tc_Lle (k := 60) (by omega) (by decide)]; omega), tc_wp_ck, tc_cl (by omega), tc_wp_lt, tc_wp_lt, tc_wp_some, tc_wr_k (show (42 : Nat) ≠ 43 by decide), hT.1, tc_ad1]
  refine ⟨(tc_vin (by omega) (by decide)).mpr hl, h _ ⟨fun k q1 q2 => by rw [tc_wr_k q1, tc_wr_k q2]; exact hF.1 k q1 q2, fun j hj => by rw [tc_wr_at, if_neg (by omega), tc_wr_k (by decide)]; exact hF.2 j hj⟩ ⟨by rw [tc_wr_at, if_pos ⟨rfl, rfl⟩, List.length_append]; rfl, ?_⟩⟩
  exact (tz_CHw hT.2).frame (tc_wr_k (by decide))
theorem tz_ads {K : tc_Mem → Option (Int32 × tc_Mem)} {P : Int32 → tc_Mem → Prop} (hT : tz_TM μ1 tp) (hl : tp.length < 60) (hF : tz_F7 μ μ1) (h : ∀ μ2, tz_F7 μ μ2 → tz_TM μ2 (tp ++ [x1]) → tc_wp (K μ2) P) : tc_wp (tc_bd (tc_f7_adds N x1 μ1) fun _ μ2 => K μ2) P := by
  unfold tc_f7_adds
  rw [tc_wp_bd, hT.1, tc_wp_ck, tc_cl (by omega), tc_wp_lt, tc_wp_lt, tc_wp_some, tc_wr_k (show (50 : Nat) ≠ 63 by decide), hT.1, tc_ad1]
  refine ⟨(tc_vin (by omega) (by decide)).mpr hl, h _ ⟨fun k q1 q2 => by rw [tc_wr_k q1, tc_wr_k q2]; exact hF.1 k q1 q2, fun j hj => by rw [tc_wr_at, if_neg (by omega), tc_wr_k (by decide)]; exact hF.2 j hj⟩ ⟨by rw [tc_wr_at, if_pos ⟨rfl, rfl⟩, List.length_append]; rfl, ?_⟩⟩
  exact (tz_CHw hT.2).frame (tc_wr_k (by decide))
theorem tc_v6_isByte : tc_f6_isByte N x1 μ = some (tc_bI (tc_wi x1 0 255), μ) := by
  apply tc_wp_of
  unfold tc_f6_isByte
  rw [tc_wp_bd, tc_v6_isWithin, tc_wp_some, tc_wp_zr]
  exact ⟨tc_bI_01 _, rfl, rfl⟩
theorem tc_v7_isByte : tc_f7_isByte N x1 μ = some (tc_bI (tc_wi x1 0 255), μ) := by
  apply tc_wp_of
  unfold tc_f7_isByte
  rw [tc_wp_bd, tc_v7_in, tc_wp_some, tc_wp_zr]
  exact ⟨tc_bI_01 _, rfl, rfl⟩
theorem tz_mkT {o1 : Option (Int32 × tc_Mem)} {o2 : tc_Mem → Option (Int32 × tc_Mem)} (hO : tc_IO μ) (hY : tc_IY μ Y) {tp' : List Int32} (hl : tp'.length ≤ 60) (hb : ∀ v ∈ tp', ∃ b, b < 256 ∧ v = nI b) {r0 : Int32} (h1 : tc_wp o1 (fun r μ1 => r = r0 ∧ tz_F4 μ μ1 ∧ tz_TC μ1 tp')) (h2 : ∀ μ1, tz_F4 μ μ1 → tc_wp (o2 μ1) (fun r μ2 => r = r0 ∧ tz_F7 μ1 μ2 ∧ tz_TM μ2 tp')) : ∃ (r : Int32) (μ1 μ2 : tc_Mem), o1 = some (r, μ1) ∧ o2 μ1 = some (r, μ2) ∧ tc_Inv μ2 := by
  refine tc_mk (tc_wp_mono h1 (fun r μ1 hh => ?_))
  obtain ⟨rfl, f1, t1⟩ := hh
  refine tc_wp_mono (h2 μ1 f1) (fun r2 μ2 hh => ?_)
  obtain ⟨rfl, f2, t2⟩ := hh
  have o : ∀ k, k ≠ 42 → k ≠ 43 → k ≠ 50 → k ≠ 63 → μ2 k = μ k := fun k a1 a2 a3 a4 => by rw [f2.1 k a3 a4, f1.1 k a1 a2]
  have o50 : ∀ j, j ≠ 17 → μ2 50 j = μ 50 j := fun j hj => by rw [f2.2 j hj, f1.1 50 (by decide) (by decide)]
  obtain ⟨hL, -, hS, hI⟩ := hO
  refine ⟨rfl, ⟨Y, hY.1, hY.2.1, hY.2.2.1.frame (fun k a1 a2 _ => o k (by omega) (by omega) (by omega) (by omega)), hY.2.2.2.frame (fun j hj => o50 j (by omega)) (fun k a1 a2 => o k (by omega) (by omega) (by omega) (by omega))⟩, hL.frame (by rw [o 0 (by decide) (by decide) (by decide) (by decide)]) (o 26 (by decide) (by decide) (by decide) (by decide)) (o50 14 (by decide)) (o 62 (by decide) (by decide) (by decide) (by decide)), ⟨tp', hl, by rw [f2.1 42 (by decide) (by decide)]; exact t1.1, t1.2.frame (f2.1 43 (by decide) (by decide)), t2.1, t2.2, hb⟩, hS.frame (fun k hk => o k (by omega) (by omega) (by omega) (by omega)), hI.frame (by rw [o 0 (by decide) (by decide) (by decide) (by decide)]) (o50 37 (by decide)) (fun k hk => o k (by omega) (by omega) (by omega) (by omega))⟩
theorem tz_s28 : tc_S28 N tc_Inv := fun a1 a2 a3 a4 a5 a6 μ h => by
  obtain ⟨Y, g, hY, hO⟩ := h.g
  rcases Bool.eq_false_or_eq_true (tc_wi a1 1 5) with c1 | c1
  case inr => exact tc_mk0 h (r0 := -2) (tc_wp_of (by unfold tc_f6_feed; simp [tc_wp_bd, tc_v6_isWithin, tc_wp_some, c1, tc_bI])) (tc_wp_of (by unfold tc_f7_feed; simp [tc_wp_bd, tc_v7_in, tc_wp_some, c1, tc_bI]))
  rcases Bool.eq_false_or_eq_true (tc_wi a2 0 255) with c2 | c2
  case inr => exact tc_mk0 h (r0 := -2) (tc_wp_of (by unfold tc_f6_feed; simp [tc_wp_bd, tc_v6_isWithin, tc_v6_isByte, tc_wp_some, c1, c2, tc_bI])) (tc_wp_of (by unfold tc_f7_feed; simp [tc_wp_bd, tc_v7_in, tc_v7_isByte, tc_wp_some, c1, c2, tc_bI]))
  rcases Bool.eq_false_or_eq_true (tc_wi a3 0 255) with c3 | c3
  case inr => exact tc_mk0 h (r0 := -2) (tc_wp_of (by unfold tc_f6_feed; simp [tc_wp_bd, tc_v6_isWithin, tc_v6_isByte, tc_wp_some, c1, c2, c3, tc_bI])) (tc_wp_of (by unfold tc_f7_feed; simp [tc_wp_bd, tc_v7_in, tc_v7_isByte, tc_wp_some, c1, c2, c3, tc_bI]))
  rcases Bool.eq_false_or_eq_true (tc_wi a4 0 255) with c4 | c4
  case inr => exact tc_mk0 h (r0 := -2) (tc_wp_of (by unfold tc_f6_feed; simp [tc_wp_bd, tc_v6_isWithin, tc_v6_isByte, tc_wp_some, c1, c2, c3, c4, tc_bI])) (tc_wp_of (by unfold tc_f7_feed; simp [tc_wp_bd, tc_v7_in, tc_v7_isByte, tc_wp_some, c1, c2, c3, c4, tc_bI]))
  rcases Bool.eq_false_or_eq_true (tc_wi a5 0 255) with c5 | c5
  case inr => exact tc_mk0 h (r0 := -2) (tc_wp_of (by unfold tc_f6_feed; simp [tc_wp_bd, tc_v6_isWithin, tc_v6_isByte, tc_wp_some, c1, c2, c3, c4, c5, tc_bI])) (tc_wp_of (by unfold tc_f7_feed; simp [tc_wp_bd, tc_v7_in, tc_v7_isByte, tc_wp_some, c1, c2, c3, c4, c5, tc_bI]))
  rcases Bool.eq_false_or_eq_true (tc_wi a6 0 255) with c6 | c6
  case inr => exact tc_mk0 h (r0 := -2) (tc_wp_of (by unfold tc_f6_feed; simp [tc_wp_bd, tc_v6_isWithin, tc_v6_isByte, tc_wp_some, c1, c2, c3, c4, c5, c6, tc_bI])) (tc_wp_of (by unfold tc_f7_feed; simp [tc_wp_bd, tc_v7_in, tc_v7_isByte, tc_wp_some, c1, c2, c3, c4, c5, c6, tc_bI]))
  obtain ⟨n, hn1, hn, rfl⟩ := tc_wi_nI (a := 1) (b := 5) (by decide) (by decide) c1
  obtain ⟨tp, t1, t2, t3, t4, t5, t6⟩ := hO.2.1
  have kk : ∀ P, tc_wp (if (nI tp.length + nI n) ≤ 60 then tc_bd (tc_f4_add N a2 μ) fun _ μ14 => if nI n ≤ 1 then tc_f6_feed_91 N (nI n) a4 a5 a6 μ14 else tc_bd (tc_f4_add N a3 μ14) fun _ μ16 => tc_f6_feed_91 N (nI n) a4 a5 a6 μ16 else some ((-4), μ)) P → tc_wp (tc_f6_feed N (nI n) a2 a3 a4 a5 a6 μ) P := by
    intro P hP
    unfold tc_f6_feed
    rw [tc_wp_bd, tc_v6_isWithin, tc_wp_some, c1, if_neg (by decide), tc_wp_bd, tc_v6_isByte, tc_wp_some, c2, if_neg (by decide), tc_wp_bd, tc_v6_isByte, tc_wp_some, c3, if_neg (by decide), tc_wp_bd, tc_v6_isByte, tc_wp_some, c4, if_neg (by decide), tc_wp_bd, tc_v6_isByte, tc_wp_some, c5, if_neg (by decide), tc_wp_bd, tc_v6_isByte, tc_wp_some, c6, if_neg (by decide), t2]
    exact hP
  have rr : ∀ μ1, tz_TM μ1 tp → ∀ P, tc_wp (if (nI tp.length + nI n) ≤ 60 then tc_bd (tc_f7_adds N a2 μ1) fun _ μ14 => if nI n ≤ 1 then tc_f7_feed_79 N (nI n) a4 a5 a6 μ14 else tc_bd (tc_f7_adds N a3 μ14) fun _ μ16 => tc_f7_feed_79 N (nI n) a4 a5 a6 μ16 else some ((-4), μ1)) P → tc_wp (tc_f7_feed N (nI n) a2 a3 a4 a5 a6 μ1) P := by
    intro μ1 hT P hP
    unfold tc_f7_feed
    rw [tc_wp_bd, tc_v7_in, tc_wp_some, c1, if_neg (by decide), tc_wp_bd, tc_v7_isByte, tc_wp_some, c2, if_neg (by decide), tc_wp_bd, tc_v7_isByte, tc_wp_some, c3, if_neg (by decide), tc_wp_bd, tc_v7_isByte, tc_wp_some, c4, if_neg (by decide), tc_wp_bd, tc_v7_isByte, tc_wp_some, c5, if_neg (by decide), tc_wp_bd, tc_v7_isByte, tc_wp_some, c6, if_neg (by decide), hT.1]
    exact hP
  have hTM : tz_TM μ tp := ⟨t4, t5⟩
  have hTC : tz_TC μ tp := ⟨t2, t3⟩
  rw [nI_add] at kk rr
  by_cases cl : tp.length + n ≤ 60
  case neg =>
    have hc : ¬ nI (tp.length + n) ≤ 60 := by rw [tc_leL (k := 60) (by omega) (by decide)]; exact cl
    exact tc_mk0 h (r0 := -4) (tc_wp_of (kk _ (by rw [if_neg hc, tc_wp_some]; exact ⟨rfl, rfl⟩))) (tc_wp_of (rr μ hTM _ (by rw [if_neg hc, tc_wp_some]; exact ⟨rfl, rfl⟩)))
  have hc : nI (tp.length + n) ≤ 60 := by rw [tc_leL (k := 60) (by omega) (by decide)]; exact cl
  have by' : ∀ x : Int32, tc_wi x 0 255 = true → ∃ b, b < 256 ∧ x = nI b := fun x hx => by
    obtain ⟨b, -, hb, rfl⟩ := tc_wi_nI (a := 0) (b := 255) (by decide) (by decide) hx
    exact ⟨b, by omega, rfl⟩
  have hTM1 : ∀ μ1, tz_F4 μ μ1 → tz_TM μ1 tp := fun μ1 f => ⟨by rw [f.1 50 (by decide) (by decide)]; exact t4, t5.frame (f.1 63 (by decide) (by decide))⟩
  have b2 := by' _ c2
  have b3 := by' _ c3
  have b4 := by' _ c4
  have b5 := by' _ c5
  have b6 := by' _ c6
  have hb : ∀ (l : List Int32) (x : Int32), (∀ v ∈ l, ∃ b, b < 256 ∧ v = nI b) → (∃ b, b < 256 ∧ x = nI b) → ∀ v ∈ l ++ [x], ∃ b, b < 256 ∧ v = nI b := fun l x h1 h2 v hv => by
    rcases List.mem_append.mp hv with q | q
    · exact h1 v q
    · rw [List.mem_singleton.mp q]; exact h2
  rcases (show n = 1 ∨ n = 2 ∨ n = 3 ∨ n = 4 ∨ n = 5 by omega) with rfl | rfl | rfl | rfl | rfl
  · refine tz_mkT hO hY (tp' := tp ++ [a2]) (r0 := nI (tp ++ [a2]).length) (by simp; omega) (hb _ _ t6 b2) (kk _ ?_) (fun μ1 f1 => rr μ1 (hTM1 μ1 f1) _ ?_)
    · have T0 := hTC
      have F0 : tz_F4 μ μ := ⟨fun _ _ _ => rfl, fun _ _ => rfl⟩
      rw [if_pos hc]
      have e : (nI 1 : Int32) = 1 := rfl
      refine tz_ad T0 (by omega) F0 (fun μa Fa Ta => ?_)
      rw [if_pos (by decide)]
      unfold tc_f6_feed_91
      rw [if_pos (by decide)]
      unfold tc_f6_feed_105
      rw [if_pos (by decide)]
      unfold tc_f6_feed_119
      rw [if_pos (by decide)]
      unfold tc_f6_feed_133
      rw [tc_wp_some]
      exact ⟨Ta.1, Fa, Ta⟩
    · have T0 := hTM1 μ1 f1
      have F0 : tz_F7 μ1 μ1 := ⟨fun _ _ _ => rfl, fun _ _ => rfl⟩
      rw [if_pos hc]
      have e : (nI 1 : Int32) = 1 := rfl
      refine tz_ads T0 (by omega) F0 (fun μa Fa Ta => ?_)
      rw [if_pos (by decide)]
      unfold tc_f7_feed_79
      rw [if_pos (by decide)]
      unfold tc_f7_feed_90
      rw [if_pos (by decide)]
      unfold tc_f7_feed_101
      rw [if_pos (by decide)]
      unfold tc_f7_feed_112
      rw [tc_wp_some]
      exact ⟨Ta.1, Fa, Ta⟩
  · refine tz_mkT hO hY (tp' := (tp ++ [a2]) ++ [a3]) (r0 := nI ((tp ++ [a2]) ++ [a3]).length) (by simp; omega) (hb _ _ (hb _ _ t6 b2) b3) (kk _ ?_) (fun μ1 f1 => rr μ1 (hTM1 μ1 f1) _ ?_)
    · have T0 := hTC
      have F0 : tz_F4 μ μ := ⟨fun _ _ _ => rfl, fun _ _ => rfl⟩
      rw [if_pos hc]
      have e : (nI 2 : Int32) = 2 := rfl
      refine tz_ad T0 (by omega) F0 (fun μa Fa Ta => ?_)
      rw [if_neg (by decide)]
      refine tz_ad Ta (by simp; omega) Fa (fun μb Fb Tb => ?_)
      unfold tc_f6_feed_91
      rw [if_pos (by decide)]
      unfold tc_f6_feed_105
      rw [if_pos (by decide)]
      unfold tc_f6_feed_119
      rw [if_pos (by decide)]
      unfold tc_f6_feed_133
      rw [tc_wp_some]
      exact ⟨Tb.1, Fb, Tb⟩
    · have T0 := hTM1 μ1 f1
      have F0 : tz_F7 μ1 μ1 := ⟨fun _ _ _ => rfl, fun _ _ => rfl⟩
      rw [if_pos hc]
      have e : (nI 2 : Int32) = 2 := rfl
      refine tz_ads T0 (by omega) F0 (fun μa Fa Ta => ?_)
      rw [if_neg (by decide)]
      refine tz_ads Ta (by simp; omega) Fa (fun μb Fb Tb => ?_)
      unfold tc_f7_feed_79
      rw [if_pos (by decide)]
      unfold tc_f7_feed_90
      rw [if_pos (by decide)]
      unfold tc_f7_feed_101
      rw [if_pos (by decide)]
      unfold tc_f7_feed_112
      rw [tc_wp_some]
      exact ⟨Tb.1, Fb, Tb⟩
  · refine tz_mkT hO hY (tp' := ((tp ++ [a2]) ++ [a3]) ++ [a4]) (r0 := nI (((tp ++ [a2]) ++ [a3]) ++ [a4]).length) (by simp; omega) (hb _ _ (hb _ _ (hb _ _ t6 b2) b3) b4) (kk _ ?_) (fun μ1 f1 => rr μ1 (hTM1 μ1 f1) _ ?_)
    · have T0 := hTC
      have F0 : tz_F4 μ μ := ⟨fun _ _ _ => rfl, fun _ _ => rfl⟩
      rw [if_pos hc]
      have e : (nI 3 : Int32) = 3 := rfl
      refine tz_ad T0 (by omega) F0 (fun μa Fa Ta => ?_)
      rw [if_neg (by decide)]
      refine tz_ad Ta (by simp; omega) Fa (fun μb Fb Tb => ?_)
      unfold tc_f6_feed_91
      rw [if_neg (by decide)]
      refine tz_ad Tb (by simp; omega) Fb (fun μc Fc Tc => ?_)
      unfold tc_f6_feed_105
      rw [if_pos (by decide)]
      unfold tc_f6_feed_119
      rw [if_pos (by decide)]
      unfold tc_f6_feed_133
      rw [tc_wp_some]
      exact ⟨Tc.1, Fc, Tc⟩
    · have T0 := hTM1 μ1 f1
      have F0 : tz_F7 μ1 μ1 := ⟨fun _ _ _ => rfl, fun _ _ => rfl⟩
      rw [if_pos hc]
      have e : (nI 3 : Int32) = 3 := rfl
      refine tz_ads T0 (by omega) F0 (fun μa Fa Ta => ?_)
      rw [if_neg (by decide)]
      refine tz_ads Ta (by simp; omega) Fa (fun μb Fb Tb => ?_)
      unfold tc_f7_feed_79
      rw [if_neg (by decide)]
      refine tz_ads Tb (by simp; omega) Fb (fun μc Fc Tc => ?_)
      unfold tc_f7_feed_90
      rw [if_pos (by decide)]
      unfold tc_f7_feed_101
      rw [if_pos (by decide)]
      unfold tc_f7_feed_112
      rw [tc_wp_some]
      exact ⟨Tc.1, Fc, Tc⟩
  · refine tz_mkT hO hY (tp' := (((tp ++ [a2]) ++ [a3]) ++ [a4]) ++ [a5]) (r0 := nI ((((tp ++ [a2]) ++ [a3]) ++ [a4]) ++ [a5]).length) (by simp; omega) (hb _ _ (hb _ _ (hb _ _ (hb _ _ t6 b2) b3) b4) b5) (kk _ ?_) (fun μ1 f1 => rr μ1 (hTM1 μ1 f1) _ ?_)
    · have T0 := hTC
      have F0 : tz_F4 μ μ := ⟨fun _ _ _ => rfl, fun _ _ => rfl⟩
      rw [if_pos hc]
      have e : (nI 4 : Int32) = 4 := rfl
      refine tz_ad T0 (by omega) F0 (fun μa Fa Ta => ?_)
      rw [if_neg (by decide)]
      refine tz_ad Ta (by simp; omega) Fa (fun μb Fb Tb => ?_)
      unfold tc_f6_feed_91
      rw [if_neg (by decide)]
      refine tz_ad Tb (by simp; omega) Fb (fun μc Fc Tc => ?_)
      unfold tc_f6_feed_105
      rw [if_neg (by decide)]
      refine tz_ad Tc (by simp; omega) Fc (fun μd Fd Td => ?_)
      unfold tc_f6_feed_119
      rw [if_pos (by decide)]
      unfold tc_f6_feed_133
      rw [tc_wp_some]
      exact ⟨Td.1, Fd, Td⟩
    · have T0 := hTM1 μ1 f1
      have F0 : tz_F7 μ1 μ1 := ⟨fun _ _ _ => rfl, fun _ _ => rfl⟩
      rw [if_pos hc]
      have e : (nI 4 : Int32) = 4 := rfl
      refine tz_ads T0 (by omega) F0 (fun μa Fa Ta => ?_)
      rw [if_neg (by decide)]
      refine tz_ads Ta (by simp; omega) Fa (fun μb Fb Tb => ?_)
      unfold tc_f7_feed_79
      rw [if_neg (by decide)]
      refine tz_ads Tb (by simp; omega) Fb (fun μc Fc Tc => ?_)
      unfold tc_f7_feed_90
      rw [if_neg (by decide)]
      refine tz_ads Tc (by simp; omega) Fc (fun μd Fd Td => ?_)
      unfold tc_f7_feed_101
      rw [if_pos (by decide)]
      unfold tc_f7_feed_112
      rw [tc_wp_some]
      exact ⟨Td.1, Fd, Td⟩
  · refine tz_mkT hO hY (tp' := ((((tp ++ [a2]) ++ [a3]) ++ [a4]) ++ [a5]) ++ [a6]) (r0 := nI (((((tp ++ [a2]) ++ [a3]) ++ [a4]) ++ [a5]) ++ [a6]).length) (by simp; omega) (hb _ _ (hb _ _ (hb _ _ (hb _ _ (hb _ _ t6 b2) b3) b4) b5) b6) (kk _ ?_) (fun μ1 f1 => rr μ1 (hTM1 μ1 f1) _ ?_)
    · have T0 := hTC
      have F0 : tz_F4 μ μ := ⟨fun _ _ _ => rfl, fun _ _ => rfl⟩
      rw [if_pos hc]
      have e : (nI 5 : Int32) = 5 := rfl
      refine tz_ad T0 (by omega) F0 (fun μa Fa Ta => ?_)
      rw [if_neg (by decide)]
      refine tz_ad Ta (by simp; omega) Fa (fun μb Fb Tb => ?_)
      unfold tc_f6_feed_91
      rw [if_neg (by decide)]
      refine tz_ad Tb (by simp; omega) Fb (fun μc Fc Tc => ?_)
      unfold tc_f6_feed_105
      rw [if_neg (by decide)]
      refine tz_ad Tc (by simp; omega) Fc (fun μd Fd Td => ?_)
      unfold tc_f6_feed_119
      rw [if_neg (by decide)]
      refine tz_ad Td (by simp; omega) Fd (fun μe Fe Te => ?_)
      unfold tc_f6_feed_133
      rw [tc_wp_some]
      exact ⟨Te.1, Fe, Te⟩
    · have T0 := hTM1 μ1 f1
      have F0 : tz_F7 μ1 μ1 := ⟨fun _ _ _ => rfl, fun _ _ => rfl⟩
      rw [if_pos hc]
      have e : (nI 5 : Int32) = 5 := rfl
      refine tz_ads T0 (by omega) F0 (fun μa Fa Ta => ?_)
      rw [if_neg (by decide)]
      refine tz_ads Ta (by simp; omega) Fa (fun μb Fb Tb => ?_)
      unfold tc_f7_feed_79
      rw [if_neg (by decide)]
      refine tz_ads Tb (by simp; omega) Fb (fun μc Fc Tc => ?_)
      unfold tc_f7_feed_90
      rw [if_neg (by decide)]
      refine tz_ads Tc (by simp; omega) Fc (fun μd Fd Td => ?_)
      unfold tc_f7_feed_101
      rw [if_neg (by decide)]
      refine tz_ads Td (by simp; omega) Fd (fun μe Fe Te => ?_)
      unfold tc_f7_feed_112
      rw [tc_wp_some]
      exact ⟨Te.1, Fe, Te⟩
def tz_sum (v : Nat → Int32) : Nat → Nat → Int32 → Int32
  | 0, _, a => a
  | d + 1, s, a => tz_sum v d (s + 1) (a + v s)
theorem tz_s33 (hN : 300 ≤ N) : tc_S33 N tc_Inv := fun a1 μ h => by
  obtain ⟨Y, g, hY, hO⟩ := h.g
  have g1 := g.1.1
  have hC := hY.2.2.1
  have hM := hY.2.2.2
  obtain ⟨tp, t1, t2, t3, t4, t5, t6⟩ := hO.2.1
  by_cases cb : a1 < 0 ∨ 4 < a1
  · exact tc_mk0 h (r0 := -2) (by unfold tc_f6_count; rw [if_pos cb]) (by unfold tc_f7_count; rw [if_pos cb])
  have hj : ∃ j, j < 5 ∧ a1 = nI j := by
    rcases tc_split a1 with q | ⟨j, hj, rfl⟩
    · exact absurd (Or.inl q) cb
    · refine ⟨j, ?_, rfl⟩
      have : ¬ (4 : Int32) < nI j := fun q => cb (Or.inr q)
      rw [tc_Llt (k := 4) hj (by decide)] at this
      omega
  obtain ⟨j, hj, rfl⟩ := hj
  rcases (show j = 0 ∨ j = 1 ∨ j = 2 ∨ j = 3 ∨ j = 4 by omega) with rfl | rfl | rfl | rfl | rfl
  · refine tc_mk0 h (r0 := nI Y.1.1) (tc_wp_of ?_) (tc_wp_of ?_)
    · unfold tc_f6_count
      rw [if_neg (by decide), if_pos (by decide), tc_wp_some]; exact ⟨hC.1, rfl⟩
    · unfold tc_f7_count
      rw [if_neg (by decide), if_pos (by decide), tc_wp_some]; exact ⟨hM.1, rfl⟩
  · refine tc_mk0 h (r0 := nI Y.2.2.2.length) (tc_wp_of ?_) (tc_wp_of ?_)
    · unfold tc_f6_count
      rw [if_neg (by decide), if_neg (by decide), if_pos (by decide), tc_wp_some]; exact ⟨hC.2.2.2.1, rfl⟩
    · unfold tc_f7_count
      rw [if_neg (by decide), if_neg (by decide), if_pos (by decide), tc_wp_some]; exact ⟨hM.2.2.2.1.1, rfl⟩
  · refine tc_mk0 h (r0 := nI tp.length) (tc_wp_of ?_) (tc_wp_of ?_)
    · unfold tc_f6_count
      rw [if_neg (by decide), if_neg (by decide), if_neg (by decide), if_pos (by decide), tc_wp_some]; exact ⟨t2, rfl⟩
    · unfold tc_f7_count
      rw [if_neg (by decide), if_neg (by decide), if_neg (by decide), if_pos (by decide), tc_wp_some]; exact ⟨t4, rfl⟩
  · refine tc_mk0 h (r0 := tc_pc (nI Y.1.2.2)) (tc_wp_of ?_) (tc_wp_of ?_)
    · unfold tc_f6_count
      have e9 : μ 1 9 = nI Y.1.2.2 := hC.2.2.1.2.1
      rw [if_neg (by decide), if_neg (by decide), if_neg (by decide), if_neg (by decide), if_pos (by decide), tc_wp_bd, e9, tc_v8_bitCount, tc_wp_some, tc_wp_some]; exact ⟨rfl, rfl⟩
    · unfold tc_f7_count
      have b3 : tc_f7_bitsOf N 3 μ = _ := tc_v7_bitsOf hN hM g.1 (v := 3) (by decide)
      rw [tc_bm_t g.1] at b3
      rw [if_neg (by decide), if_neg (by decide), if_neg (by decide), if_neg (by decide), if_pos (by decide), tc_wp_bd, b3, tc_wp_some, tc_wp_bd, tc_v8_bitCount, tc_wp_some, tc_wp_some]; exact ⟨rfl, rfl⟩
  · have J : tc_J (tc_f6_count N (nI 4)) (tc_f7_count N (nI 4)) Y := by
      refine ⟨tz_sum (tc_cY Y) Y.1.1 0 0, Y, g, fun μ h => ?_, fun μ h => ?_⟩
      · unfold tc_f6_count
        rw [if_neg (by decide), if_neg (by decide), if_neg (by decide), if_neg (by decide), if_neg (by decide), if_pos (by decide), tc_wp_bd]
        unfold tc_f5_allCurrents
        rw [tc_wp_bd]
        refine tc_wp_mono (tc_w5_measure hN h g.1) (fun _ μ1 hh => ?_)
        have key : ∀ (d f s : Nat) (a : Int32), s + d = Y.1.1 → d < f → tc_f5_allCurrents_8 N 1 f a (nI s) μ1 = some (tz_sum (tc_cY Y) d s a, μ1) := by
          intro d
          induction d with
          | zero =>
            intro f s a hs hf
            obtain ⟨f, rfl⟩ : ∃ f', f = f' + 1 := ⟨f - 1, by omega⟩
            rw [tc_f5_allCurrents_8]; dsimp only
            rw [hh.1 1 (by decide), h.1, if_pos (by rw [tc_le (by omega) (by omega)]; omega)]; rfl
          | succ d ih =>
            intro f s a hs hf
            obtain ⟨f, rfl⟩ : ∃ f', f = f' + 1 := ⟨f - 1, by omega⟩
            rw [tc_f5_allCurrents_8]; dsimp only
            rw [hh.1 1 (by decide), h.1, if_neg (by rw [tc_le (by omega) (by omega)]; omega)]
            apply tc_wp_of
            rw [tc_wp_ck, tc_cl (by omega), tc_wp_lt, hh.2 s (by omega), tc_ad1, ih f (s + 1) _ (by omega) (by omega), tc_wp_some]
            exact ⟨(tc_vin (by omega) (by decide)).mpr (by omega), rfl, rfl⟩
        rw [show (0 : Int32) = nI 0 from rfl, key Y.1.1 N 0 (nI 0) (by omega) (by omega), tc_wp_some, tc_wp_some]
        exact ⟨rfl, fun k hk => hh.1 k (by omega), h.frame (fun k _ _ q => hh.1 k q)⟩
      · unfold tc_f7_count
        rw [if_neg (by decide), if_neg (by decide), if_neg (by decide), if_neg (by decide), if_neg (by decide), if_pos (by decide)]
        have key : ∀ (d f s : Nat) (a : Int32), s + d = Y.1.1 → d < f → tc_f7_count_64 N f a (nI s) μ = some (tz_sum (tc_cY Y) d s a, μ) := by
          intro d
          induction d with
          | zero =>
            intro f s a hs hf
            obtain ⟨f, rfl⟩ : ∃ f', f = f' + 1 := ⟨f - 1, by omega⟩
            rw [tc_f7_count_64]; dsimp only
            rw [h.1, if_pos (by rw [tc_le (by omega) (by omega)]; omega)]; rfl
          | succ d ih =>
            intro f s a hs hf
            obtain ⟨f, rfl⟩ : ∃ f', f = f' + 1 := ⟨f - 1, by omega⟩
            rw [tc_f7_count_64]; dsimp only
            rw [h.1, if_neg (by rw [tc_le (by omega) (by omega)]; omega)]
            apply tc_wp_of
            rw [tc_wp_bd, tc_v7_currentOf hN h g.1 (by omega), tc_wp_some, tc_wp_lt, tc_ad1, ih f (s + 1) _ (by omega) (by omega), tc_wp_some]
            exact ⟨rfl, rfl⟩
        rw [show (0 : Int32) = nI 0 from rfl, key Y.1.1 N 0 (nI 0) (by omega) (by omega), tc_wp_some]
        exact ⟨rfl, tc_FM.rf, h⟩
    exact J.step hO hY
end H4
