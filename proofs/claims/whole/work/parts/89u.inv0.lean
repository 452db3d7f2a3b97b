/-! what holds at the beginning -/
def tz_Y0 : tc_Y := ((0, 0, 0), (20, 10, 1), (fun _ => 0, fun _ => 0, fun _ => 0, fun _ => 0, fun _ => 0), [])
theorem tz_inv0 : tc_Inv tc_m0 := by
  have g : tc_Gd tz_Y0 := ⟨by decide, by decide, by decide, fun s hs => absurd hs (by show ¬ s < 0; omega), by decide, fun q hq => by simp [tz_Y0] at hq⟩
  have n0 : ∀ s, ¬ s < tz_Y0.1.1 := fun s => by show ¬ s < 0; omega
  refine ⟨⟨tz_Y0, g, by decide, ⟨by rfl, fun s hs => absurd hs (n0 s), ⟨by rfl, by rfl, by rfl, by rfl, by rfl⟩, by rfl, fun i q hq => by simp [tz_Y0] at hq⟩, ⟨by rfl, fun s hs => absurd hs (n0 s), ⟨by rfl, by rfl, by rfl⟩, ⟨by rfl, fun i q hq => by simp [tz_Y0] at hq⟩, by rfl, by decide, by rfl, fun q hq => by simp [tz_Y0] at hq⟩⟩, ⟨[], by simp, by rfl, fun i v hv => by simp at hv, by rfl, fun i v hv => by simp at hv⟩, ⟨[], by simp, by rfl, fun i v hv => by simp at hv, by rfl, fun i v hv => by simp at hv, fun v hv => by simp at hv⟩, fun r hr => ?_, Or.inl ⟨by rfl, by rfl⟩⟩
  have e : tc_m0 47 r = -1 ∧ tc_m0 64 r = -1 := by
    rcases (show r = 0 ∨ r = 1 ∨ r = 2 ∨ r = 3 by omega) with rfl | rfl | rfl | rfl
    · exact ⟨by rfl, by rfl⟩
    · exact ⟨by rfl, by rfl⟩
    · exact ⟨by rfl, by rfl⟩
    · exact ⟨by rfl, by rfl⟩
  exact ⟨⟨0, by decide, by rfl⟩, by rw [e.1, e.2], Or.inl e.1⟩
