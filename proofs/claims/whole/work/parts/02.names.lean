def tc_R0 : String := "TrackCircuits$Asking"
def tc_T0 : u_T := fun k => match k with
  | 0 => ("TrackCircuits$Asking", "changes", "[I", true)
  | 1 => ("TrackCircuits$Asking", "changed", "I", false)
  | 2 => ("TrackCircuits$Asking", "queue", "[I", true)
  | 3 => ("TrackCircuits$Asking", "first", "I", false)
  | 4 => ("TrackCircuits$Asking", "waiting", "I", false)
  | _ => ("TrackCircuits$Asking", "inQueue", "I", false)
def tc_ty0 : Nat → FieldType := fun k => match k with
  | 0 => .array .int
  | 1 => .int
  | 2 => .array .int
  | 3 => .int
  | 4 => .int
  | _ => .int
theorem tc_nm0 : ∀ a, a < 6 → ∀ b, b < 6 → a ≠ b → (tc_T0 a).2.1 ≠ (tc_T0 b).2.1 := by decide +kernel
theorem tc_tk0 : ∀ k, k < 6 → parseFieldDescriptor (tc_T0 k).2.2.1 = some (tc_ty0 k) := by decide +kernel
def tc_R1 : String := "TrackCircuits$Faults"
def tc_T1 : u_T := fun k => match k with
  | 0 => ("TrackCircuits$Faults", "many", "I", false)
  | 1 => ("TrackCircuits$Faults", "kinds", "[I", true)
  | 2 => ("TrackCircuits$Faults", "places", "[I", true)
  | _ => ("TrackCircuits$Faults", "caught", "[I", true)
def tc_ty1 : Nat → FieldType := fun k => match k with
  | 0 => .int
  | 1 => .array .int
  | 2 => .array .int
  | _ => .array .int
theorem tc_nm1 : ∀ a, a < 4 → ∀ b, b < 4 → a ≠ b → (tc_T1 a).2.1 ≠ (tc_T1 b).2.1 := by decide +kernel
theorem tc_tk1 : ∀ k, k < 4 → parseFieldDescriptor (tc_T1 k).2.2.1 = some (tc_ty1 k) := by decide +kernel
def tc_R2 : String := "TrackCircuits$Mind"
def tc_T2 : u_T := fun k => match k with
  | 0 => ("TrackCircuits$Mind", "real", "LTrackCircuits$Yard;", true)
  | 1 => ("TrackCircuits$Mind", "thought", "LTrackCircuits$Yard;", true)
  | _ => ("TrackCircuits$Mind", "asking", "LTrackCircuits$Asking;", true)
def tc_ty2 : Nat → FieldType := fun k => match k with
  | 0 => .object "TrackCircuits$Yard"
  | 1 => .object "TrackCircuits$Yard"
  | _ => .object "TrackCircuits$Asking"
theorem tc_nm2 : ∀ a, a < 3 → ∀ b, b < 3 → a ≠ b → (tc_T2 a).2.1 ≠ (tc_T2 b).2.1 := by decide +kernel
theorem tc_tk2 : ∀ k, k < 3 → parseFieldDescriptor (tc_T2 k).2.2.1 = some (tc_ty2 k) := by decide +kernel
def tc_R3 : String := "TrackCircuits$Sheets"
def tc_T3 : u_T := fun k => match k with
  | 0 => ("TrackCircuits$Sheets", "sorts", "[I", true)
  | 1 => ("TrackCircuits$Sheets", "sizes", "[I", true)
  | _ => ("TrackCircuits$Sheets", "items", "[I", true)
def tc_ty3 : Nat → FieldType := fun k => match k with
  | 0 => .array .int
  | 1 => .array .int
  | _ => .array .int
theorem tc_nm3 : ∀ a, a < 3 → ∀ b, b < 3 → a ≠ b → (tc_T3 a).2.1 ≠ (tc_T3 b).2.1 := by decide +kernel
theorem tc_tk3 : ∀ k, k < 3 → parseFieldDescriptor (tc_T3 k).2.2.1 = some (tc_ty3 k) := by decide +kernel
def tc_R4 : String := "TrackCircuits$Tape"
def tc_T4 : u_T := fun k => match k with
  | 0 => ("TrackCircuits$Tape", "bytes", "[I", true)
  | 1 => ("TrackCircuits$Tape", "size", "I", false)
  | 2 => ("TrackCircuits$Tape", "at", "I", false)
  | 3 => ("TrackCircuits$Tape", "words", "[I", true)
  | 4 => ("TrackCircuits$Tape", "numbers", "[I", true)
  | _ => ("TrackCircuits$Tape", "clauses", "I", false)
def tc_ty4 : Nat → FieldType := fun k => match k with
  | 0 => .array .int
  | 1 => .int
  | 2 => .int
  | 3 => .array .int
  | 4 => .array .int
  | _ => .int
theorem tc_nm4 : ∀ a, a < 6 → ∀ b, b < 6 → a ≠ b → (tc_T4 a).2.1 ≠ (tc_T4 b).2.1 := by decide +kernel
theorem tc_tk4 : ∀ k, k < 6 → parseFieldDescriptor (tc_T4 k).2.2.1 = some (tc_ty4 k) := by decide +kernel
def tc_R5 : String := "TrackCircuits$Yard"
def tc_T5 : u_T := fun k => match k with
  | 0 => ("TrackCircuits$Yard", "size", "I", false)
  | 1 => ("TrackCircuits$Yard", "kinds", "[I", true)
  | 2 => ("TrackCircuits$Yard", "feeds", "[I", true)
  | 3 => ("TrackCircuits$Yard", "losses", "[I", true)
  | 4 => ("TrackCircuits$Yard", "lengths", "[I", true)
  | 5 => ("TrackCircuits$Yard", "waits", "[I", true)
  | 6 => ("TrackCircuits$Yard", "currents", "[I", true)
  | 7 => ("TrackCircuits$Yard", "faults", "LTrackCircuits$Faults;", true)
  | 8 => ("TrackCircuits$Yard", "up", "I", false)
  | 9 => ("TrackCircuits$Yard", "trains", "I", false)
  | 10 => ("TrackCircuits$Yard", "pick", "I", false)
  | 11 => ("TrackCircuits$Yard", "hold", "I", false)
  | _ => ("TrackCircuits$Yard", "weather", "I", false)
def tc_ty5 : Nat → FieldType := fun k => match k with
  | 0 => .int
  | 1 => .array .int
  | 2 => .array .int
  | 3 => .array .int
  | 4 => .array .int
  | 5 => .array .int
  | 6 => .array .int
  | 7 => .object "TrackCircuits$Faults"
  | 8 => .int
  | 9 => .int
  | 10 => .int
  | 11 => .int
  | _ => .int
theorem tc_nm5 : ∀ a, a < 13 → ∀ b, b < 13 → a ≠ b → (tc_T5 a).2.1 ≠ (tc_T5 b).2.1 := by decide +kernel
theorem tc_tk5 : ∀ k, k < 13 → parseFieldDescriptor (tc_T5 k).2.2.1 = some (tc_ty5 k) := by decide +kernel
def tc_R6 : String := "TrackCircuits"
def tc_T6 : u_T := fun k => match k with
  | 0 => ("TrackCircuits", "yard", "LTrackCircuits$Yard;", true)
  | 1 => ("TrackCircuits", "kept", "LTrackCircuits$Yard;", true)
  | 2 => ("TrackCircuits", "isKept", "Z", false)
  | 3 => ("TrackCircuits", "asking", "LTrackCircuits$Asking;", true)
  | 4 => ("TrackCircuits", "latest", "[I", true)
  | 5 => ("TrackCircuits", "latestChanges", "I", false)
  | 6 => ("TrackCircuits", "mind", "LTrackCircuits$Mind;", true)
  | 7 => ("TrackCircuits", "tape", "LTrackCircuits$Tape;", true)
  | _ => ("TrackCircuits", "sheets", "LTrackCircuits$Sheets;", true)
def tc_ty6 : Nat → FieldType := fun k => match k with
  | 0 => .object "TrackCircuits$Yard"
  | 1 => .object "TrackCircuits$Yard"
  | 2 => .boolean
  | 3 => .object "TrackCircuits$Asking"
  | 4 => .array .int
  | 5 => .int
  | 6 => .object "TrackCircuits$Mind"
  | 7 => .object "TrackCircuits$Tape"
  | _ => .object "TrackCircuits$Sheets"
theorem tc_nm6 : ∀ a, a < 9 → ∀ b, b < 9 → a ≠ b → (tc_T6 a).2.1 ≠ (tc_T6 b).2.1 := by decide +kernel
theorem tc_tk6 : ∀ k, k < 9 → parseFieldDescriptor (tc_T6 k).2.2.1 = some (tc_ty6 k) := by decide +kernel
def tc_R7 : String := "TrackCircuitsModel"
def tc_T7 : u_T := fun k => match k with
  | 0 => ("TrackCircuitsModel", "sections", "I", false)
  | 1 => ("TrackCircuitsModel", "kind", "[I", true)
  | 2 => ("TrackCircuitsModel", "feed", "[I", true)
  | 3 => ("TrackCircuitsModel", "loss", "[I", true)
  | 4 => ("TrackCircuitsModel", "length", "[I", true)
  | 5 => ("TrackCircuitsModel", "waits", "[I", true)
  | 6 => ("TrackCircuitsModel", "up", "[Z", true)
  | 7 => ("TrackCircuitsModel", "train", "[Z", true)
  | 8 => ("TrackCircuitsModel", "rule", "[I", true)
  | 9 => ("TrackCircuitsModel", "faults", "I", false)
  | 10 => ("TrackCircuitsModel", "faultKind", "[I", true)
  | 11 => ("TrackCircuitsModel", "faultAt", "[I", true)
  | 12 => ("TrackCircuitsModel", "caught", "[I", true)
  | 13 => ("TrackCircuitsModel", "without", "I", false)
  | 14 => ("TrackCircuitsModel", "logged", "I", false)
  | 15 => ("TrackCircuitsModel", "log", "[I", true)
  | 16 => ("TrackCircuitsModel", "tape", "[I", true)
  | 17 => ("TrackCircuitsModel", "taped", "I", false)
  | 18 => ("TrackCircuitsModel", "sort", "[I", true)
  | 19 => ("TrackCircuitsModel", "size", "[I", true)
  | 20 => ("TrackCircuitsModel", "cell", "[I", true)
  | 21 => ("TrackCircuitsModel", "between", "[I", true)
  | 22 => ("TrackCircuitsModel", "queue", "[I", true)
  | 23 => ("TrackCircuitsModel", "queued", "[Z", true)
  | 24 => ("TrackCircuitsModel", "first", "I", false)
  | 25 => ("TrackCircuitsModel", "waiting", "I", false)
  | 26 => ("TrackCircuitsModel", "ahead", "[Z", true)
  | 27 => ("TrackCircuitsModel", "changed", "[I", true)
  | 28 => ("TrackCircuitsModel", "keptUp", "[Z", true)
  | 29 => ("TrackCircuitsModel", "keptTrain", "[Z", true)
  | 30 => ("TrackCircuitsModel", "keptWaits", "[I", true)
  | 31 => ("TrackCircuitsModel", "keptFaults", "I", false)
  | 32 => ("TrackCircuitsModel", "at", "I", false)
  | 33 => ("TrackCircuitsModel", "token", "I", false)
  | 34 => ("TrackCircuitsModel", "tokenAt", "I", false)
  | 35 => ("TrackCircuitsModel", "value", "I", false)
  | 36 => ("TrackCircuitsModel", "told", "[I", true)
  | 37 => ("TrackCircuitsModel", "hasImage", "Z", false)
  | _ => ("TrackCircuitsModel", "imaged", "[I", true)
def tc_ty7 : Nat → FieldType := fun k => match k with
  | 0 => .int
  | 1 => .array .int
  | 2 => .array .int
  | 3 => .array .int
  | 4 => .array .int
  | 5 => .array .int
  | 6 => .array .boolean
  | 7 => .array .boolean
  | 8 => .array .int
  | 9 => .int
  | 10 => .array .int
  | 11 => .array .int
  | 12 => .array .int
  | 13 => .int
  | 14 => .int
  | 15 => .array .int
  | 16 => .array .int
  | 17 => .int
  | 18 => .array .int
  | 19 => .array .int
  | 20 => .array .int
  | 21 => .array .int
  | 22 => .array .int
  | 23 => .array .boolean
  | 24 => .int
  | 25 => .int
  | 26 => .array .boolean
  | 27 => .array .int
  | 28 => .array .boolean
  | 29 => .array .boolean
  | 30 => .array .int
  | 31 => .int
  | 32 => .int
  | 33 => .int
  | 34 => .int
  | 35 => .int
  | 36 => .array .int
  | 37 => .boolean
  | _ => .array .int
theorem tc_nm7 : ∀ a, a < 39 → ∀ b, b < 39 → a ≠ b → (tc_T7 a).2.1 ≠ (tc_T7 b).2.1 := by decide +kernel
theorem tc_tk7 : ∀ k, k < 39 → parseFieldDescriptor (tc_T7 k).2.2.1 = some (tc_ty7 k) := by decide +kernel
def tc_classes : List vw_C := [(tc_R0, tc_T0, 6), (tc_R1, tc_T1, 4), (tc_R2, tc_T2, 3), (tc_R3, tc_T3, 3), (tc_R4, tc_T4, 6), (tc_R5, tc_T5, 13), (tc_R6, tc_T6, 9), (tc_R7, tc_T7, 39)]
def tc_sk : List ((Nat × Nat) ⊕ (Nat × List (Option Nat))) := [
  .inr (6, [some 1, some 12, none, some 23, some 26, none, some 27, some 42, some 46]),
  .inr (5, [none, some 2, some 3, some 4, some 5, some 6, some 7, some 8, none, none, none, none, none]),
  .inl (0, 8),
  .inl (0, 8),
  .inl (0, 8),
  .inl (0, 8),
  .inl (0, 8),
  .inl (0, 8),
  .inr (1, [none, some 9, some 10, some 11]),
  .inl (0, 15),
  .inl (0, 15),
  .inl (0, 15),
  .inr (5, [none, some 13, some 14, some 15, some 16, some 17, some 18, some 19, none, none, none, none, none]),
  .inl (0, 8),
  .inl (0, 8),
  .inl (0, 8),
  .inl (0, 8),
  .inl (0, 8),
  .inl (0, 8),
  .inr (1, [none, some 20, some 21, some 22]),
  .inl (0, 15),
  .inl (0, 15),
  .inl (0, 15),
  .inr (0, [some 24, none, some 25, none, none, none]),
  .inl (0, 40),
  .inl (0, 8),
  .inl (0, 40),
  .inr (2, [some 1, some 28, some 39]),
  .inr (5, [none, some 29, some 30, some 31, some 32, some 33, some 34, some 35, none, none, none, none, none]),
  .inl (0, 8),
  .inl (0, 8),
  .inl (0, 8),
  .inl (0, 8),
  .inl (0, 8),
  .inl (0, 8),
  .inr (1, [none, some 36, some 37, some 38]),
  .inl (0, 15),
  .inl (0, 15),
  .inl (0, 15),
  .inr (0, [some 40, none, some 41, none, none, none]),
  .inl (0, 40),
  .inl (0, 8),
  .inr (4, [some 43, none, none, some 44, some 45, none]),
  .inl (0, 60),
  .inl (0, 15),
  .inl (0, 60),
  .inr (3, [some 47, some 48, some 49]),
  .inl (0, 4),
  .inl (0, 4),
  .inl (0, 160),
  .inr (7, [none, some 51, some 52, some 53, some 54, some 55, some 56, some 57, some 58, none, some 59, some 60, some 61, none, none, some 62, some 63, none, some 64, some 65, some 66, some 67, some 68, some 69, none, none, some 70, some 71, some 72, some 73, some 74, none, none, none, none, none, some 75, none, some 76]),
  .inl (0, 8),
  .inl (0, 8),
  .inl (0, 8),
  .inl (0, 8),
  .inl (0, 8),
  .inl (1, 8),
  .inl (1, 8),
  .inl (0, 3),
  .inl (0, 20),
  .inl (0, 20),
  .inl (0, 20),
  .inl (0, 40),
  .inl (0, 60),
  .inl (0, 4),
  .inl (0, 4),
  .inl (0, 160),
  .inl (0, 40),
  .inl (0, 8),
  .inl (1, 8),
  .inl (1, 8),
  .inl (0, 40),
  .inl (1, 8),
  .inl (1, 8),
  .inl (0, 8),
  .inl (0, 4),
  .inl (0, 90)]
theorem tc_sk_len : tc_sk.length = 77 := by decide +kernel
theorem tc_in0 : ∀ w ∈ u_ws tc_R0 tc_T0 6, w ∈ lw_tbl ∧ goodWord w = true := by decide +kernel
theorem tc_in1 : ∀ w ∈ u_ws tc_R1 tc_T1 4, w ∈ lw_tbl ∧ goodWord w = true := by decide +kernel
theorem tc_in2 : ∀ w ∈ u_ws tc_R2 tc_T2 3, w ∈ lw_tbl ∧ goodWord w = true := by decide +kernel
theorem tc_in3 : ∀ w ∈ u_ws tc_R3 tc_T3 3, w ∈ lw_tbl ∧ goodWord w = true := by decide +kernel
theorem tc_in4 : ∀ w ∈ u_ws tc_R4 tc_T4 6, w ∈ lw_tbl ∧ goodWord w = true := by decide +kernel
theorem tc_in5 : ∀ w ∈ u_ws tc_R5 tc_T5 13, w ∈ lw_tbl ∧ goodWord w = true := by decide +kernel
theorem tc_in6 : ∀ w ∈ u_ws tc_R6 tc_T6 9, w ∈ lw_tbl ∧ goodWord w = true := by decide +kernel
theorem tc_in7 : ∀ w ∈ u_ws tc_R7 tc_T7 39, w ∈ lw_tbl ∧ goodWord w = true := by decide +kernel
