theorem tc_wL296 : (Cond.methodLink "TrackCircuitsLaw" (13 : Nat) ({ cls := "TrackCircuits", name := "section", desc := "(IIII)I" } : MethodName)) ∈ tc_gw := tc_gm 296 (by decide +kernel) (by decide +kernel)
theorem tc_wL997 : (Cond.methodLink "TrackCircuitsLaw" (17 : Nat) ({ cls := "TrackCircuitsModel", name := "section", desc := "(IIII)I" } : MethodName)) ∈ tc_gw := tc_gm 997 (by decide +kernel) (by decide +kernel)
theorem tc_wL310 : (Cond.methodLink "TrackCircuitsLaw" (18 : Nat) ({ cls := "TrackCircuits", name := "drop", desc := "()I" } : MethodName)) ∈ tc_gw := tc_gm 310 (by decide +kernel) (by decide +kernel)
theorem tc_wL1004 : (Cond.methodLink "TrackCircuitsLaw" (22 : Nat) ({ cls := "TrackCircuitsModel", name := "drop", desc := "()I" } : MethodName)) ∈ tc_gw := tc_gm 1004 (by decide +kernel) (by decide +kernel)
theorem tc_wL329 : (Cond.methodLink "TrackCircuitsLaw" (23 : Nat) ({ cls := "TrackCircuits", name := "set", desc := "(III)I" } : MethodName)) ∈ tc_gw := tc_gm 329 (by decide +kernel) (by decide +kernel)
theorem tc_wL1012 : (Cond.methodLink "TrackCircuitsLaw" (27 : Nat) ({ cls := "TrackCircuitsModel", name := "set", desc := "(III)I" } : MethodName)) ∈ tc_gw := tc_gm 1012 (by decide +kernel) (by decide +kernel)
theorem tc_wL378 : (Cond.methodLink "TrackCircuitsLaw" (28 : Nat) ({ cls := "TrackCircuits", name := "of", desc := "(II)I" } : MethodName)) ∈ tc_gw := tc_gm 378 (by decide +kernel) (by decide +kernel)
theorem tc_wL1020 : (Cond.methodLink "TrackCircuitsLaw" (32 : Nat) ({ cls := "TrackCircuitsModel", name := "of", desc := "(II)I" } : MethodName)) ∈ tc_gw := tc_gm 1020 (by decide +kernel) (by decide +kernel)
theorem tc_wL379 : (Cond.methodLink "TrackCircuitsLaw" (33 : Nat) ({ cls := "TrackCircuits", name := "taken", desc := "(II)I" } : MethodName)) ∈ tc_gw := tc_gm 379 (by decide +kernel) (by decide +kernel)
theorem tc_wL1041 : (Cond.methodLink "TrackCircuitsLaw" (36 : Nat) ({ cls := "TrackCircuitsModel", name := "taken", desc := "(II)I" } : MethodName)) ∈ tc_gw := tc_gm 1041 (by decide +kernel) (by decide +kernel)
theorem tc_wL388 : (Cond.methodLink "TrackCircuitsLaw" (37 : Nat) ({ cls := "TrackCircuits", name := "rule", desc := "(II)I" } : MethodName)) ∈ tc_gw := tc_gm 388 (by decide +kernel) (by decide +kernel)
theorem tc_wL1045 : (Cond.methodLink "TrackCircuitsLaw" (40 : Nat) ({ cls := "TrackCircuitsModel", name := "rule", desc := "(II)I" } : MethodName)) ∈ tc_gw := tc_gm 1045 (by decide +kernel) (by decide +kernel)
theorem tc_wL396 : (Cond.methodLink "TrackCircuitsLaw" (41 : Nat) ({ cls := "TrackCircuits", name := "train", desc := "(II)I" } : MethodName)) ∈ tc_gw := tc_gm 396 (by decide +kernel) (by decide +kernel)
theorem tc_wL1049 : (Cond.methodLink "TrackCircuitsLaw" (44 : Nat) ({ cls := "TrackCircuitsModel", name := "train", desc := "(II)I" } : MethodName)) ∈ tc_gw := tc_gm 1049 (by decide +kernel) (by decide +kernel)
theorem tc_wL401 : (Cond.methodLink "TrackCircuitsLaw" (45 : Nat) ({ cls := "TrackCircuits", name := "moves", desc := "()I" } : MethodName)) ∈ tc_gw := tc_gm 401 (by decide +kernel) (by decide +kernel)
theorem tc_wL1053 : (Cond.methodLink "TrackCircuitsLaw" (48 : Nat) ({ cls := "TrackCircuitsModel", name := "moves", desc := "()I" } : MethodName)) ∈ tc_gw := tc_gm 1053 (by decide +kernel) (by decide +kernel)
theorem tc_wL413 : (Cond.methodLink "TrackCircuitsLaw" (49 : Nat) ({ cls := "TrackCircuits", name := "force", desc := "(II)I" } : MethodName)) ∈ tc_gw := tc_gm 413 (by decide +kernel) (by decide +kernel)
theorem tc_wL1069 : (Cond.methodLink "TrackCircuitsLaw" (52 : Nat) ({ cls := "TrackCircuitsModel", name := "force", desc := "(II)I" } : MethodName)) ∈ tc_gw := tc_gm 1069 (by decide +kernel) (by decide +kernel)
theorem tc_wL417 : (Cond.methodLink "TrackCircuitsLaw" (53 : Nat) ({ cls := "TrackCircuits", name := "fault", desc := "(II)I" } : MethodName)) ∈ tc_gw := tc_gm 417 (by decide +kernel) (by decide +kernel)
theorem tc_wL1073 : (Cond.methodLink "TrackCircuitsLaw" (56 : Nat) ({ cls := "TrackCircuitsModel", name := "fault", desc := "(II)I" } : MethodName)) ∈ tc_gw := tc_gm 1073 (by decide +kernel) (by decide +kernel)
theorem tc_wL429 : (Cond.methodLink "TrackCircuitsLaw" (57 : Nat) ({ cls := "TrackCircuits", name := "faultOf", desc := "(II)I" } : MethodName)) ∈ tc_gw := tc_gm 429 (by decide +kernel) (by decide +kernel)
theorem tc_wL1085 : (Cond.methodLink "TrackCircuitsLaw" (60 : Nat) ({ cls := "TrackCircuitsModel", name := "faultOf", desc := "(II)I" } : MethodName)) ∈ tc_gw := tc_gm 1085 (by decide +kernel) (by decide +kernel)
theorem tc_wL433 : (Cond.methodLink "TrackCircuitsLaw" (61 : Nat) ({ cls := "TrackCircuits", name := "mend", desc := "(I)I" } : MethodName)) ∈ tc_gw := tc_gm 433 (by decide +kernel) (by decide +kernel)
theorem tc_wL1089 : (Cond.methodLink "TrackCircuitsLaw" (65 : Nat) ({ cls := "TrackCircuitsModel", name := "mend", desc := "(I)I" } : MethodName)) ∈ tc_gw := tc_gm 1089 (by decide +kernel) (by decide +kernel)
theorem tc_wL438 : (Cond.methodLink "TrackCircuitsLaw" (66 : Nat) ({ cls := "TrackCircuits", name := "moment", desc := "()I" } : MethodName)) ∈ tc_gw := tc_gm 438 (by decide +kernel) (by decide +kernel)
theorem tc_wL1093 : (Cond.methodLink "TrackCircuitsLaw" (69 : Nat) ({ cls := "TrackCircuitsModel", name := "moment", desc := "()I" } : MethodName)) ∈ tc_gw := tc_gm 1093 (by decide +kernel) (by decide +kernel)
theorem tc_wL494 : (Cond.methodLink "TrackCircuitsLaw" (70 : Nat) ({ cls := "TrackCircuits", name := "log", desc := "(I)I" } : MethodName)) ∈ tc_gw := tc_gm 494 (by decide +kernel) (by decide +kernel)
theorem tc_wL1129 : (Cond.methodLink "TrackCircuitsLaw" (73 : Nat) ({ cls := "TrackCircuitsModel", name := "log", desc := "(I)I" } : MethodName)) ∈ tc_gw := tc_gm 1129 (by decide +kernel) (by decide +kernel)
theorem tc_wL498 : (Cond.methodLink "TrackCircuitsLaw" (74 : Nat) ({ cls := "TrackCircuits", name := "who", desc := "(I)I" } : MethodName)) ∈ tc_gw := tc_gm 498 (by decide +kernel) (by decide +kernel)
theorem tc_wL1133 : (Cond.methodLink "TrackCircuitsLaw" (77 : Nat) ({ cls := "TrackCircuitsModel", name := "who", desc := "(I)I" } : MethodName)) ∈ tc_gw := tc_gm 1133 (by decide +kernel) (by decide +kernel)
theorem tc_wL515 : (Cond.methodLink "TrackCircuitsLaw" (78 : Nat) ({ cls := "TrackCircuits", name := "aspect", desc := "(I)I" } : MethodName)) ∈ tc_gw := tc_gm 515 (by decide +kernel) (by decide +kernel)
theorem tc_wL1137 : (Cond.methodLink "TrackCircuitsLaw" (81 : Nat) ({ cls := "TrackCircuitsModel", name := "aspect", desc := "(I)I" } : MethodName)) ∈ tc_gw := tc_gm 1137 (by decide +kernel) (by decide +kernel)
theorem tc_wL520 : (Cond.methodLink "TrackCircuitsLaw" (82 : Nat) ({ cls := "TrackCircuits", name := "run", desc := "(II)I" } : MethodName)) ∈ tc_gw := tc_gm 520 (by decide +kernel) (by decide +kernel)
theorem tc_wL1141 : (Cond.methodLink "TrackCircuitsLaw" (85 : Nat) ({ cls := "TrackCircuitsModel", name := "run", desc := "(II)I" } : MethodName)) ∈ tc_gw := tc_gm 1141 (by decide +kernel) (by decide +kernel)
theorem tc_wL546 : (Cond.methodLink "TrackCircuitsLaw" (86 : Nat) ({ cls := "TrackCircuits", name := "clears", desc := "(I)I" } : MethodName)) ∈ tc_gw := tc_gm 546 (by decide +kernel) (by decide +kernel)
theorem tc_wL1154 : (Cond.methodLink "TrackCircuitsLaw" (89 : Nat) ({ cls := "TrackCircuitsModel", name := "clears", desc := "(I)I" } : MethodName)) ∈ tc_gw := tc_gm 1154 (by decide +kernel) (by decide +kernel)
theorem tc_wL555 : (Cond.methodLink "TrackCircuitsLaw" (90 : Nat) ({ cls := "TrackCircuits", name := "order", desc := "(I)I" } : MethodName)) ∈ tc_gw := tc_gm 555 (by decide +kernel) (by decide +kernel)
theorem tc_wL1158 : (Cond.methodLink "TrackCircuitsLaw" (93 : Nat) ({ cls := "TrackCircuitsModel", name := "order", desc := "(I)I" } : MethodName)) ∈ tc_gw := tc_gm 1158 (by decide +kernel) (by decide +kernel)
theorem tc_wL564 : (Cond.methodLink "TrackCircuitsLaw" (94 : Nat) ({ cls := "TrackCircuits", name := "seen", desc := "(I)I" } : MethodName)) ∈ tc_gw := tc_gm 564 (by decide +kernel) (by decide +kernel)
theorem tc_wL1162 : (Cond.methodLink "TrackCircuitsLaw" (97 : Nat) ({ cls := "TrackCircuitsModel", name := "seen", desc := "(I)I" } : MethodName)) ∈ tc_gw := tc_gm 1162 (by decide +kernel) (by decide +kernel)
theorem tc_wL577 : (Cond.methodLink "TrackCircuitsLaw" (98 : Nat) ({ cls := "TrackCircuits", name := "bound", desc := "(I)I" } : MethodName)) ∈ tc_gw := tc_gm 577 (by decide +kernel) (by decide +kernel)
theorem tc_wL1170 : (Cond.methodLink "TrackCircuitsLaw" (101 : Nat) ({ cls := "TrackCircuitsModel", name := "bound", desc := "(I)I" } : MethodName)) ∈ tc_gw := tc_gm 1170 (by decide +kernel) (by decide +kernel)
theorem tc_wL594 : (Cond.methodLink "TrackCircuitsLaw" (102 : Nat) ({ cls := "TrackCircuits", name := "proof", desc := "(I)I" } : MethodName)) ∈ tc_gw := tc_gm 594 (by decide +kernel) (by decide +kernel)
theorem tc_wL1182 : (Cond.methodLink "TrackCircuitsLaw" (105 : Nat) ({ cls := "TrackCircuitsModel", name := "proof", desc := "(I)I" } : MethodName)) ∈ tc_gw := tc_gm 1182 (by decide +kernel) (by decide +kernel)
theorem tc_wL615 : (Cond.methodLink "TrackCircuitsLaw" (106 : Nat) ({ cls := "TrackCircuits", name := "pick", desc := "(I)I" } : MethodName)) ∈ tc_gw := tc_gm 615 (by decide +kernel) (by decide +kernel)
theorem tc_wL1194 : (Cond.methodLink "TrackCircuitsLaw" (109 : Nat) ({ cls := "TrackCircuitsModel", name := "pick", desc := "(I)I" } : MethodName)) ∈ tc_gw := tc_gm 1194 (by decide +kernel) (by decide +kernel)
theorem tc_wL628 : (Cond.methodLink "TrackCircuitsLaw" (110 : Nat) ({ cls := "TrackCircuits", name := "fix", desc := "()I" } : MethodName)) ∈ tc_gw := tc_gm 628 (by decide +kernel) (by decide +kernel)
theorem tc_wL1198 : (Cond.methodLink "TrackCircuitsLaw" (113 : Nat) ({ cls := "TrackCircuitsModel", name := "fix", desc := "()I" } : MethodName)) ∈ tc_gw := tc_gm 1198 (by decide +kernel) (by decide +kernel)
theorem tc_wL644 : (Cond.methodLink "TrackCircuitsLaw" (114 : Nat) ({ cls := "TrackCircuits", name := "drawn", desc := "(II)I" } : MethodName)) ∈ tc_gw := tc_gm 644 (by decide +kernel) (by decide +kernel)
theorem tc_wL1206 : (Cond.methodLink "TrackCircuitsLaw" (117 : Nat) ({ cls := "TrackCircuitsModel", name := "drawn", desc := "(II)I" } : MethodName)) ∈ tc_gw := tc_gm 1206 (by decide +kernel) (by decide +kernel)
theorem tc_wL653 : (Cond.methodLink "TrackCircuitsLaw" (118 : Nat) ({ cls := "TrackCircuits", name := "chance", desc := "(IIIII)I" } : MethodName)) ∈ tc_gw := tc_gm 653 (by decide +kernel) (by decide +kernel)
theorem tc_wL1215 : (Cond.methodLink "TrackCircuitsLaw" (122 : Nat) ({ cls := "TrackCircuitsModel", name := "chance", desc := "(IIIII)I" } : MethodName)) ∈ tc_gw := tc_gm 1215 (by decide +kernel) (by decide +kernel)
theorem tc_wL666 : (Cond.methodLink "TrackCircuitsLaw" (123 : Nat) ({ cls := "TrackCircuits", name := "tells", desc := "(III)I" } : MethodName)) ∈ tc_gw := tc_gm 666 (by decide +kernel) (by decide +kernel)
theorem tc_wL1219 : (Cond.methodLink "TrackCircuitsLaw" (126 : Nat) ({ cls := "TrackCircuitsModel", name := "tells", desc := "(III)I" } : MethodName)) ∈ tc_gw := tc_gm 1219 (by decide +kernel) (by decide +kernel)
theorem tc_wL687 : (Cond.methodLink "TrackCircuitsLaw" (127 : Nat) ({ cls := "TrackCircuits", name := "film", desc := "(III)I" } : MethodName)) ∈ tc_gw := tc_gm 687 (by decide +kernel) (by decide +kernel)
theorem tc_wL1230 : (Cond.methodLink "TrackCircuitsLaw" (130 : Nat) ({ cls := "TrackCircuitsModel", name := "film", desc := "(III)I" } : MethodName)) ∈ tc_gw := tc_gm 1230 (by decide +kernel) (by decide +kernel)
theorem tc_wL703 : (Cond.methodLink "TrackCircuitsLaw" (131 : Nat) ({ cls := "TrackCircuits", name := "feed", desc := "(IIIIII)I" } : MethodName)) ∈ tc_gw := tc_gm 703 (by decide +kernel) (by decide +kernel)
theorem tc_wL1234 : (Cond.methodLink "TrackCircuitsLaw" (135 : Nat) ({ cls := "TrackCircuitsModel", name := "feed", desc := "(IIIIII)I" } : MethodName)) ∈ tc_gw := tc_gm 1234 (by decide +kernel) (by decide +kernel)
theorem tc_wL714 : (Cond.methodLink "TrackCircuitsLaw" (136 : Nat) ({ cls := "TrackCircuits", name := "text", desc := "()I" } : MethodName)) ∈ tc_gw := tc_gm 714 (by decide +kernel) (by decide +kernel)
theorem tc_wL1245 : (Cond.methodLink "TrackCircuitsLaw" (139 : Nat) ({ cls := "TrackCircuitsModel", name := "text", desc := "()I" } : MethodName)) ∈ tc_gw := tc_gm 1245 (by decide +kernel) (by decide +kernel)
theorem tc_wL823 : (Cond.methodLink "TrackCircuitsLaw" (140 : Nat) ({ cls := "TrackCircuits", name := "image", desc := "()I" } : MethodName)) ∈ tc_gw := tc_gm 823 (by decide +kernel) (by decide +kernel)
theorem tc_wL1296 : (Cond.methodLink "TrackCircuitsLaw" (143 : Nat) ({ cls := "TrackCircuitsModel", name := "image", desc := "()I" } : MethodName)) ∈ tc_gw := tc_gm 1296 (by decide +kernel) (by decide +kernel)
theorem tc_wL828 : (Cond.methodLink "TrackCircuitsLaw" (144 : Nat) ({ cls := "TrackCircuits", name := "back", desc := "()I" } : MethodName)) ∈ tc_gw := tc_gm 828 (by decide +kernel) (by decide +kernel)
theorem tc_wL1300 : (Cond.methodLink "TrackCircuitsLaw" (147 : Nat) ({ cls := "TrackCircuitsModel", name := "back", desc := "()I" } : MethodName)) ∈ tc_gw := tc_gm 1300 (by decide +kernel) (by decide +kernel)
theorem tc_wL832 : (Cond.methodLink "TrackCircuitsLaw" (148 : Nat) ({ cls := "TrackCircuits", name := "load", desc := "(IIII)I" } : MethodName)) ∈ tc_gw := tc_gm 832 (by decide +kernel) (by decide +kernel)
theorem tc_wL1304 : (Cond.methodLink "TrackCircuitsLaw" (151 : Nat) ({ cls := "TrackCircuitsModel", name := "load", desc := "(IIII)I" } : MethodName)) ∈ tc_gw := tc_gm 1304 (by decide +kernel) (by decide +kernel)
theorem tc_wL845 : (Cond.methodLink "TrackCircuitsLaw" (152 : Nat) ({ cls := "TrackCircuits", name := "count", desc := "(I)I" } : MethodName)) ∈ tc_gw := tc_gm 845 (by decide +kernel) (by decide +kernel)
theorem tc_wL1310 : (Cond.methodLink "TrackCircuitsLaw" (155 : Nat) ({ cls := "TrackCircuitsModel", name := "count", desc := "(I)I" } : MethodName)) ∈ tc_gw := tc_gm 1310 (by decide +kernel) (by decide +kernel)
theorem tc_wL855 : (Cond.methodLink "TrackCircuitsLaw" (156 : Nat) ({ cls := "TrackCircuits", name := "sheet", desc := "(III)I" } : MethodName)) ∈ tc_gw := tc_gm 855 (by decide +kernel) (by decide +kernel)
theorem tc_wL1314 : (Cond.methodLink "TrackCircuitsLaw" (159 : Nat) ({ cls := "TrackCircuitsModel", name := "sheet", desc := "(III)I" } : MethodName)) ∈ tc_gw := tc_gm 1314 (by decide +kernel) (by decide +kernel)
theorem tc_wL859 : (Cond.methodLink "TrackCircuitsLaw" (160 : Nat) ({ cls := "TrackCircuits", name := "put", desc := "(III)I" } : MethodName)) ∈ tc_gw := tc_gm 859 (by decide +kernel) (by decide +kernel)
theorem tc_wL1318 : (Cond.methodLink "TrackCircuitsLaw" (163 : Nat) ({ cls := "TrackCircuitsModel", name := "put", desc := "(III)I" } : MethodName)) ∈ tc_gw := tc_gm 1318 (by decide +kernel) (by decide +kernel)
theorem tc_wL863 : (Cond.methodLink "TrackCircuitsLaw" (164 : Nat) ({ cls := "TrackCircuits", name := "copy", desc := "(IIIII)I" } : MethodName)) ∈ tc_gw := tc_gm 863 (by decide +kernel) (by decide +kernel)
theorem tc_wL1322 : (Cond.methodLink "TrackCircuitsLaw" (167 : Nat) ({ cls := "TrackCircuitsModel", name := "copy", desc := "(IIIII)I" } : MethodName)) ∈ tc_gw := tc_gm 1322 (by decide +kernel) (by decide +kernel)
def tc_S0 (N : Nat) (Inv : tc_Mem → Prop) : Prop := ∀ (a1 a2 a3 a4 : Int32) (μ : tc_Mem), Inv μ → ∃ (r : Int32) (μ1 μ2 : tc_Mem), tc_f6_section N a1 a2 a3 a4 μ = some (r, μ1) ∧ tc_f7_section N a1 a2 a3 a4 μ1 = some (r, μ2) ∧ Inv μ2
def tc_S1 (N : Nat) (Inv : tc_Mem → Prop) : Prop := ∀ (μ : tc_Mem), Inv μ → ∃ (r : Int32) (μ1 μ2 : tc_Mem), tc_f6_drop N μ = some (r, μ1) ∧ tc_f7_drop N μ1 = some (r, μ2) ∧ Inv μ2
def tc_S2 (N : Nat) (Inv : tc_Mem → Prop) : Prop := ∀ (a1 a2 a3 : Int32) (μ : tc_Mem), Inv μ → ∃ (r : Int32) (μ1 μ2 : tc_Mem), tc_f6_set N a1 a2 a3 μ = some (r, μ1) ∧ tc_f7_set N a1 a2 a3 μ1 = some (r, μ2) ∧ Inv μ2
def tc_S3 (N : Nat) (Inv : tc_Mem → Prop) : Prop := ∀ (a1 a2 : Int32) (μ : tc_Mem), Inv μ → ∃ (r : Int32) (μ1 μ2 : tc_Mem), tc_f6_of N a1 a2 μ = some (r, μ1) ∧ tc_f7_of N a1 a2 μ1 = some (r, μ2) ∧ Inv μ2
def tc_S4 (N : Nat) (Inv : tc_Mem → Prop) : Prop := ∀ (a1 a2 : Int32) (μ : tc_Mem), Inv μ → ∃ (r : Int32) (μ1 μ2 : tc_Mem), tc_f6_taken N a1 a2 μ = some (r, μ1) ∧ tc_f7_taken N a1 a2 μ1 = some (r, μ2) ∧ Inv μ2
def tc_S5 (N : Nat) (Inv : tc_Mem → Prop) : Prop := ∀ (a1 a2 : Int32) (μ : tc_Mem), Inv μ → ∃ (r : Int32) (μ1 μ2 : tc_Mem), tc_f6_rule N a1 a2 μ = some (r, μ1) ∧ tc_f7_rule N a1 a2 μ1 = some (r, μ2) ∧ Inv μ2
def tc_S6 (N : Nat) (Inv : tc_Mem → Prop) : Prop := ∀ (a1 a2 : Int32) (μ : tc_Mem), Inv μ → ∃ (r : Int32) (μ1 μ2 : tc_Mem), tc_f6_train N a1 a2 μ = some (r, μ1) ∧ tc_f7_train N a1 a2 μ1 = some (r, μ2) ∧ Inv μ2
def tc_S7 (N : Nat) (Inv : tc_Mem → Prop) : Prop := ∀ (μ : tc_Mem), Inv μ → ∃ (r : Int32) (μ1 μ2 : tc_Mem), tc_f6_moves N μ = some (r, μ1) ∧ tc_f7_moves N μ1 = some (r, μ2) ∧ Inv μ2
def tc_S8 (N : Nat) (Inv : tc_Mem → Prop) : Prop := ∀ (a1 a2 : Int32) (μ : tc_Mem), Inv μ → ∃ (r : Int32) (μ1 μ2 : tc_Mem), tc_f6_force N a1 a2 μ = some (r, μ1) ∧ tc_f7_force N a1 a2 μ1 = some (r, μ2) ∧ Inv μ2
def tc_S9 (N : Nat) (Inv : tc_Mem → Prop) : Prop := ∀ (a1 a2 : Int32) (μ : tc_Mem), Inv μ → ∃ (r : Int32) (μ1 μ2 : tc_Mem), tc_f6_fault N a1 a2 μ = some (r, μ1) ∧ tc_f7_fault N a1 a2 μ1 = some (r, μ2) ∧ Inv μ2
def tc_S10 (N : Nat) (Inv : tc_Mem → Prop) : Prop := ∀ (a1 a2 : Int32) (μ : tc_Mem), Inv μ → ∃ (r : Int32) (μ1 μ2 : tc_Mem), tc_f6_faultOf N a1 a2 μ = some (r, μ1) ∧ tc_f7_faultOf N a1 a2 μ1 = some (r, μ2) ∧ Inv μ2
def tc_S11 (N : Nat) (Inv : tc_Mem → Prop) : Prop := ∀ (a1 : Int32) (μ : tc_Mem), Inv μ → ∃ (r : Int32) (μ1 μ2 : tc_Mem), tc_f6_mend N a1 μ = some (r, μ1) ∧ tc_f7_mend N a1 μ1 = some (r, μ2) ∧ Inv μ2
def tc_S12 (N : Nat) (Inv : tc_Mem → Prop) : Prop := ∀ (μ : tc_Mem), Inv μ → ∃ (r : Int32) (μ1 μ2 : tc_Mem), tc_f6_moment N μ = some (r, μ1) ∧ tc_f7_moment N μ1 = some (r, μ2) ∧ Inv μ2
def tc_S13 (N : Nat) (Inv : tc_Mem → Prop) : Prop := ∀ (a1 : Int32) (μ : tc_Mem), Inv μ → ∃ (r : Int32) (μ1 μ2 : tc_Mem), tc_f6_log N a1 μ = some (r, μ1) ∧ tc_f7_log N a1 μ1 = some (r, μ2) ∧ Inv μ2
def tc_S14 (N : Nat) (Inv : tc_Mem → Prop) : Prop := ∀ (a1 : Int32) (μ : tc_Mem), Inv μ → ∃ (r : Int32) (μ1 μ2 : tc_Mem), tc_f6_who N a1 μ = some (r, μ1) ∧ tc_f7_who N a1 μ1 = some (r, μ2) ∧ Inv μ2
def tc_S15 (N : Nat) (Inv : tc_Mem → Prop) : Prop := ∀ (a1 : Int32) (μ : tc_Mem), Inv μ → ∃ (r : Int32) (μ1 μ2 : tc_Mem), tc_f6_aspect N a1 μ = some (r, μ1) ∧ tc_f7_aspect N a1 μ1 = some (r, μ2) ∧ Inv μ2
def tc_S16 (N : Nat) (Inv : tc_Mem → Prop) : Prop := ∀ (a1 a2 : Int32) (μ : tc_Mem), Inv μ → ∃ (r : Int32) (μ1 μ2 : tc_Mem), tc_f6_run N a1 a2 μ = some (r, μ1) ∧ tc_f7_run N a1 a2 μ1 = some (r, μ2) ∧ Inv μ2
def tc_S17 (N : Nat) (Inv : tc_Mem → Prop) : Prop := ∀ (a1 : Int32) (μ : tc_Mem), Inv μ → ∃ (r : Int32) (μ1 μ2 : tc_Mem), tc_f6_clears N a1 μ = some (r, μ1) ∧ tc_f7_clears N a1 μ1 = some (r, μ2) ∧ Inv μ2
def tc_S18 (N : Nat) (Inv : tc_Mem → Prop) : Prop := ∀ (a1 : Int32) (μ : tc_Mem), Inv μ → ∃ (r : Int32) (μ1 μ2 : tc_Mem), tc_f6_order N a1 μ = some (r, μ1) ∧ tc_f7_order N a1 μ1 = some (r, μ2) ∧ Inv μ2
def tc_S19 (N : Nat) (Inv : tc_Mem → Prop) : Prop := ∀ (a1 : Int32) (μ : tc_Mem), Inv μ → ∃ (r : Int32) (μ1 μ2 : tc_Mem), tc_f6_seen N a1 μ = some (r, μ1) ∧ tc_f7_seen N a1 μ1 = some (r, μ2) ∧ Inv μ2
def tc_S20 (N : Nat) (Inv : tc_Mem → Prop) : Prop := ∀ (a1 : Int32) (μ : tc_Mem), Inv μ → ∃ (r : Int32) (μ1 μ2 : tc_Mem), tc_f6_bound N a1 μ = some (r, μ1) ∧ tc_f7_bound N a1 μ1 = some (r, μ2) ∧ Inv μ2
def tc_S21 (N : Nat) (Inv : tc_Mem → Prop) : Prop := ∀ (a1 : Int32) (μ : tc_Mem), Inv μ → ∃ (r : Int32) (μ1 μ2 : tc_Mem), tc_f6_proof N a1 μ = some (r, μ1) ∧ tc_f7_proof N a1 μ1 = some (r, μ2) ∧ Inv μ2
def tc_S22 (N : Nat) (Inv : tc_Mem → Prop) : Prop := ∀ (a1 : Int32) (μ : tc_Mem), Inv μ → ∃ (r : Int32) (μ1 μ2 : tc_Mem), tc_f6_pick N a1 μ = some (r, μ1) ∧ tc_f7_pick N a1 μ1 = some (r, μ2) ∧ Inv μ2
def tc_S23 (N : Nat) (Inv : tc_Mem → Prop) : Prop := ∀ (μ : tc_Mem), Inv μ → ∃ (r : Int32) (μ1 μ2 : tc_Mem), tc_f6_fix N μ = some (r, μ1) ∧ tc_f7_fix N μ1 = some (r, μ2) ∧ Inv μ2
def tc_S24 (N : Nat) (Inv : tc_Mem → Prop) : Prop := ∀ (a1 a2 : Int32) (μ : tc_Mem), Inv μ → ∃ (r : Int32) (μ1 μ2 : tc_Mem), tc_f6_drawn N a1 a2 μ = some (r, μ1) ∧ tc_f7_drawn N a1 a2 μ1 = some (r, μ2) ∧ Inv μ2
def tc_S25 (N : Nat) (Inv : tc_Mem → Prop) : Prop := ∀ (a1 a2 a3 a4 a5 : Int32) (μ : tc_Mem), Inv μ → ∃ (r : Int32) (μ1 μ2 : tc_Mem), tc_f6_chance N a1 a2 a3 a4 a5 μ = some (r, μ1) ∧ tc_f7_chance N a1 a2 a3 a4 a5 μ1 = some (r, μ2) ∧ Inv μ2
def tc_S26 (N : Nat) (Inv : tc_Mem → Prop) : Prop := ∀ (a1 a2 a3 : Int32) (μ : tc_Mem), Inv μ → ∃ (r : Int32) (μ1 μ2 : tc_Mem), tc_f6_tells N a1 a2 a3 μ = some (r, μ1) ∧ tc_f7_tells N a1 a2 a3 μ1 = some (r, μ2) ∧ Inv μ2
def tc_S27 (N : Nat) (Inv : tc_Mem → Prop) : Prop := ∀ (a1 a2 a3 : Int32) (μ : tc_Mem), Inv μ → ∃ (r : Int32) (μ1 μ2 : tc_Mem), tc_f6_film N a1 a2 a3 μ = some (r, μ1) ∧ tc_f7_film N a1 a2 a3 μ1 = some (r, μ2) ∧ Inv μ2
def tc_S28 (N : Nat) (Inv : tc_Mem → Prop) : Prop := ∀ (a1 a2 a3 a4 a5 a6 : Int32) (μ : tc_Mem), Inv μ → ∃ (r : Int32) (μ1 μ2 : tc_Mem), tc_f6_feed N a1 a2 a3 a4 a5 a6 μ = some (r, μ1) ∧ tc_f7_feed N a1 a2 a3 a4 a5 a6 μ1 = some (r, μ2) ∧ Inv μ2
def tc_S29 (N : Nat) (Inv : tc_Mem → Prop) : Prop := ∀ (μ : tc_Mem), Inv μ → ∃ (r : Int32) (μ1 μ2 : tc_Mem), tc_f6_text N μ = some (r, μ1) ∧ tc_f7_text N μ1 = some (r, μ2) ∧ Inv μ2
def tc_S30 (N : Nat) (Inv : tc_Mem → Prop) : Prop := ∀ (μ : tc_Mem), Inv μ → ∃ (r : Int32) (μ1 μ2 : tc_Mem), tc_f6_image N μ = some (r, μ1) ∧ tc_f7_image N μ1 = some (r, μ2) ∧ Inv μ2
def tc_S31 (N : Nat) (Inv : tc_Mem → Prop) : Prop := ∀ (μ : tc_Mem), Inv μ → ∃ (r : Int32) (μ1 μ2 : tc_Mem), tc_f6_back N μ = some (r, μ1) ∧ tc_f7_back N μ1 = some (r, μ2) ∧ Inv μ2
def tc_S32 (N : Nat) (Inv : tc_Mem → Prop) : Prop := ∀ (a1 a2 a3 a4 : Int32) (μ : tc_Mem), Inv μ → ∃ (r : Int32) (μ1 μ2 : tc_Mem), tc_f6_load N a1 a2 a3 a4 μ = some (r, μ1) ∧ tc_f7_load N a1 a2 a3 a4 μ1 = some (r, μ2) ∧ Inv μ2
def tc_S33 (N : Nat) (Inv : tc_Mem → Prop) : Prop := ∀ (a1 : Int32) (μ : tc_Mem), Inv μ → ∃ (r : Int32) (μ1 μ2 : tc_Mem), tc_f6_count N a1 μ = some (r, μ1) ∧ tc_f7_count N a1 μ1 = some (r, μ2) ∧ Inv μ2
def tc_S34 (N : Nat) (Inv : tc_Mem → Prop) : Prop := ∀ (a1 a2 a3 : Int32) (μ : tc_Mem), Inv μ → ∃ (r : Int32) (μ1 μ2 : tc_Mem), tc_f6_sheet N a1 a2 a3 μ = some (r, μ1) ∧ tc_f7_sheet N a1 a2 a3 μ1 = some (r, μ2) ∧ Inv μ2
def tc_S35 (N : Nat) (Inv : tc_Mem → Prop) : Prop := ∀ (a1 a2 a3 : Int32) (μ : tc_Mem), Inv μ → ∃ (r : Int32) (μ1 μ2 : tc_Mem), tc_f6_put N a1 a2 a3 μ = some (r, μ1) ∧ tc_f7_put N a1 a2 a3 μ1 = some (r, μ2) ∧ Inv μ2
def tc_S36 (N : Nat) (Inv : tc_Mem → Prop) : Prop := ∀ (a1 a2 a3 a4 a5 : Int32) (μ : tc_Mem), Inv μ → ∃ (r : Int32) (μ1 μ2 : tc_Mem), tc_f6_copy N a1 a2 a3 a4 a5 μ = some (r, μ1) ∧ tc_f7_copy N a1 a2 a3 a4 a5 μ1 = some (r, μ2) ∧ Inv μ2
section LAWC
variable {l : Launch} {G : tc_G} {b Ls : Nat} {xs : Nat → Int32} {X : tc_X}
theorem tc_k0 {N : Nat} {Inv : tc_Mem → Prop} (hs : tc_S0 N Inv) {i : Nat} (hi : i + 7 ≤ Ls) (hL : Ls < 2 ^ 31) {μ : tc_Mem} (hI : Inv μ) (K : ∀ μ2, Inv μ2 → tc_Lw l G b Ls xs X 1359 [(0, .ref b), (1, .ref (tc_ad G 0)), (2, .ref (tc_ad G 50)), (3, .int (nI i))] [] μ2) : tc_Lw l G b Ls xs X 196 [(0, .ref b), (1, .ref (tc_ad G 0)), (2, .ref (tc_ad G 50)), (3, .int (nI i))] [] μ := by
  obtain ⟨r, μ1, μ2, e1, e2, hI2⟩ := hs (xs (i + 1)) (xs (i + 2)) (xs (i + 3)) (xs (i + 4)) μ hI
  refine tc_l_aload_n tc_dL_196 1 rfl ?_
  refine tc_l_arg 0 1 (rx := []) rfl (by decide) (by omega) hL tc_dL_197 tc_dL_198 tc_dL_199 tc_dL_200 tc_dL_201 ?_
  refine tc_l_arg 0 2 (rx := []) rfl (by decide) (by omega) hL tc_dL_202 tc_dL_203 tc_dL_204 tc_dL_205 tc_dL_206 ?_
  refine tc_l_arg 0 3 (rx := []) rfl (by decide) (by omega) hL tc_dL_207 tc_dL_208 tc_dL_209 tc_dL_210 tc_dL_211 ?_
  refine tc_l_arg 0 4 (rx := []) rfl (by decide) (by omega) hL tc_dL_212 tc_dL_213 tc_dL_214 tc_dL_215 tc_dL_216 ?_
  have c1 := tc_c6_section (l := l) (G := G) N e1
  refine tc_l_call (As := [.int (xs (i + 1)), .int (xs (i + 2)), .int (xs (i + 3)), .int (xs (i + 4))]) (rest := []) (r1 := r) (μ1 := μ1) tc_dL_217 tc_ok6_section tc_wL296 ⟨Nat.le_of_ble_eq_true rfl, Nat.le_of_ble_eq_true rfl⟩ tc_s6 rfl c1 rfl rfl (Nat.le_of_ble_eq_true rfl) ?_
  refine tc_l_aload_n tc_dL_220 2 rfl ?_
  refine tc_l_arg 0 1 (rx := []) rfl (by decide) (by omega) hL tc_dL_221 tc_dL_222 tc_dL_223 tc_dL_224 tc_dL_225 ?_
  refine tc_l_arg 0 2 (rx := []) rfl (by decide) (by omega) hL tc_dL_226 tc_dL_227 tc_dL_228 tc_dL_229 tc_dL_230 ?_
  refine tc_l_arg 0 3 (rx := []) rfl (by decide) (by omega) hL tc_dL_231 tc_dL_232 tc_dL_233 tc_dL_234 tc_dL_235 ?_
  refine tc_l_arg 0 4 (rx := []) rfl (by decide) (by omega) hL tc_dL_236 tc_dL_237 tc_dL_238 tc_dL_239 tc_dL_240 ?_
  have c2 := tc_c7_section (l := l) (G := G) N e2
  refine tc_l_call (As := [.int (xs (i + 1)), .int (xs (i + 2)), .int (xs (i + 3)), .int (xs (i + 4))]) (rest := [.int r]) (r1 := r) (μ1 := μ2) tc_dL_241 tc_ok7_section tc_wL997 ⟨Nat.le_of_ble_eq_true rfl, Nat.le_of_ble_eq_true rfl⟩ tc_s7 rfl c2 rfl rfl (Nat.le_of_ble_eq_true rfl) ?_
  refine tc_l_eq (tgt := 1359) tc_dL_244 (by decide) ?_
  exact K μ2 hI2
theorem tc_k1 {N : Nat} {Inv : tc_Mem → Prop} (hs : tc_S1 N Inv) {i : Nat} (hi : i + 7 ≤ Ls) (hL : Ls < 2 ^ 31) {μ : tc_Mem} (hI : Inv μ) (K : ∀ μ2, Inv μ2 → tc_Lw l G b Ls xs X 1359 [(0, .ref b), (1, .ref (tc_ad G 0)), (2, .ref (tc_ad G 50)), (3, .int (nI i))] [] μ2) : tc_Lw l G b Ls xs X 249 [(0, .ref b), (1, .ref (tc_ad G 0)), (2, .ref (tc_ad G 50)), (3, .int (nI i))] [] μ := by
  obtain ⟨r, μ1, μ2, e1, e2, hI2⟩ := hs μ hI
  refine tc_l_aload_n tc_dL_249 1 rfl ?_
  have c1 := tc_c6_drop (l := l) (G := G) N e1
  refine tc_l_call (As := []) (rest := []) (r1 := r) (μ1 := μ1) tc_dL_250 tc_ok6_drop tc_wL310 ⟨Nat.le_of_ble_eq_true rfl, Nat.le_of_ble_eq_true rfl⟩ tc_s6 rfl c1 rfl rfl (Nat.le_of_ble_eq_true rfl) ?_
  refine tc_l_aload_n tc_dL_253 2 rfl ?_
  have c2 := tc_c7_drop (l := l) (G := G) N e2
  refine tc_l_call (As := []) (rest := [.int r]) (r1 := r) (μ1 := μ2) tc_dL_254 tc_ok7_drop tc_wL1004 ⟨Nat.le_of_ble_eq_true rfl, Nat.le_of_ble_eq_true rfl⟩ tc_s7 rfl c2 rfl rfl (Nat.le_of_ble_eq_true rfl) ?_
  refine tc_l_eq (tgt := 1359) tc_dL_257 (by decide) ?_
  exact K μ2 hI2
theorem tc_k2 {N : Nat} {Inv : tc_Mem → Prop} (hs : tc_S2 N Inv) {i : Nat} (hi : i + 7 ≤ Ls) (hL : Ls < 2 ^ 31) {μ : tc_Mem} (hI : Inv μ) (K : ∀ μ2, Inv μ2 → tc_Lw l G b Ls xs X 1359 [(0, .ref b), (1, .ref (tc_ad G 0)), (2, .ref (tc_ad G 50)), (3, .int (nI i))] [] μ2) : tc_Lw l G b Ls xs X 262 [(0, .ref b), (1, .ref (tc_ad G 0)), (2, .ref (tc_ad G 50)), (3, .int (nI i))] [] μ := by
  obtain ⟨r, μ1, μ2, e1, e2, hI2⟩ := hs (xs (i + 1)) (xs (i + 2)) (xs (i + 3)) μ hI
  refine tc_l_aload_n tc_dL_262 1 rfl ?_
  refine tc_l_arg 0 1 (rx := []) rfl (by decide) (by omega) hL tc_dL_263 tc_dL_264 tc_dL_265 tc_dL_266 tc_dL_267 ?_
  refine tc_l_arg 0 2 (rx := []) rfl (by decide) (by omega) hL tc_dL_268 tc_dL_269 tc_dL_270 tc_dL_271 tc_dL_272 ?_
  refine tc_l_arg 0 3 (rx := []) rfl (by decide) (by omega) hL tc_dL_273 tc_dL_274 tc_dL_275 tc_dL_276 tc_dL_277 ?_
  have c1 := tc_c6_set (l := l) (G := G) N e1
  refine tc_l_call (As := [.int (xs (i + 1)), .int (xs (i + 2)), .int (xs (i + 3))]) (rest := []) (r1 := r) (μ1 := μ1) tc_dL_278 tc_ok6_set tc_wL329 ⟨Nat.le_of_ble_eq_true rfl, Nat.le_of_ble_eq_true rfl⟩ tc_s6 rfl c1 rfl rfl (Nat.le_of_ble_eq_true rfl) ?_
  refine tc_l_aload_n tc_dL_281 2 rfl ?_
  refine tc_l_arg 0 1 (rx := []) rfl (by decide) (by omega) hL tc_dL_282 tc_dL_283 tc_dL_284 tc_dL_285 tc_dL_286 ?_
  refine tc_l_arg 0 2 (rx := []) rfl (by decide) (by omega) hL tc_dL_287 tc_dL_288 tc_dL_289 tc_dL_290 tc_dL_291 ?_
  refine tc_l_arg 0 3 (rx := []) rfl (by decide) (by omega) hL tc_dL_292 tc_dL_293 tc_dL_294 tc_dL_295 tc_dL_296 ?_
  have c2 := tc_c7_set (l := l) (G := G) N e2
  refine tc_l_call (As := [.int (xs (i + 1)), .int (xs (i + 2)), .int (xs (i + 3))]) (rest := [.int r]) (r1 := r) (μ1 := μ2) tc_dL_297 tc_ok7_set tc_wL1012 ⟨Nat.le_of_ble_eq_true rfl, Nat.le_of_ble_eq_true rfl⟩ tc_s7 rfl c2 rfl rfl (Nat.le_of_ble_eq_true rfl) ?_
  refine tc_l_eq (tgt := 1359) tc_dL_300 (by decide) ?_
  exact K μ2 hI2
theorem tc_k3 {N : Nat} {Inv : tc_Mem → Prop} (hs : tc_S3 N Inv) {i : Nat} (hi : i + 7 ≤ Ls) (hL : Ls < 2 ^ 31) {μ : tc_Mem} (hI : Inv μ) (K : ∀ μ2, Inv μ2 → tc_Lw l G b Ls xs X 1359 [(0, .ref b), (1, .ref (tc_ad G 0)), (2, .ref (tc_ad G 50)), (3, .int (nI i))] [] μ2) : tc_Lw l G b Ls xs X 305 [(0, .ref b), (1, .ref (tc_ad G 0)), (2, .ref (tc_ad G 50)), (3, .int (nI i))] [] μ := by
  obtain ⟨r, μ1, μ2, e1, e2, hI2⟩ := hs (xs (i + 1)) (xs (i + 2)) μ hI
  refine tc_l_aload_n tc_dL_305 1 rfl ?_
  refine tc_l_arg 0 1 (rx := []) rfl (by decide) (by omega) hL tc_dL_306 tc_dL_307 tc_dL_308 tc_dL_309 tc_dL_310 ?_
  refine tc_l_arg 0 2 (rx := []) rfl (by decide) (by omega) hL tc_dL_311 tc_dL_312 tc_dL_313 tc_dL_314 tc_dL_315 ?_
  have c1 := tc_c6_of (l := l) (G := G) N e1
  refine tc_l_call (As := [.int (xs (i + 1)), .int (xs (i + 2))]) (rest := []) (r1 := r) (μ1 := μ1) tc_dL_316 tc_ok6_of tc_wL378 ⟨Nat.le_of_ble_eq_true rfl, Nat.le_of_ble_eq_true rfl⟩ tc_s6 rfl c1 rfl rfl (Nat.le_of_ble_eq_true rfl) ?_
  refine tc_l_aload_n tc_dL_319 2 rfl ?_
  refine tc_l_arg 0 1 (rx := []) rfl (by decide) (by omega) hL tc_dL_320 tc_dL_321 tc_dL_322 tc_dL_323 tc_dL_324 ?_
  refine tc_l_arg 0 2 (rx := []) rfl (by decide) (by omega) hL tc_dL_325 tc_dL_326 tc_dL_327 tc_dL_328 tc_dL_329 ?_
  have c2 := tc_c7_of (l := l) (G := G) N e2
  refine tc_l_call (As := [.int (xs (i + 1)), .int (xs (i + 2))]) (rest := [.int r]) (r1 := r) (μ1 := μ2) tc_dL_330 tc_ok7_of tc_wL1020 ⟨Nat.le_of_ble_eq_true rfl, Nat.le_of_ble_eq_true rfl⟩ tc_s7 rfl c2 rfl rfl (Nat.le_of_ble_eq_true rfl) ?_
  refine tc_l_eq (tgt := 1359) tc_dL_333 (by decide) ?_
  exact K μ2 hI2
theorem tc_k4 {N : Nat} {Inv : tc_Mem → Prop} (hs : tc_S4 N Inv) {i : Nat} (hi : i + 7 ≤ Ls) (hL : Ls < 2 ^ 31) {μ : tc_Mem} (hI : Inv μ) (K : ∀ μ2, Inv μ2 → tc_Lw l G b Ls xs X 1359 [(0, .ref b), (1, .ref (tc_ad G 0)), (2, .ref (tc_ad G 50)), (3, .int (nI i))] [] μ2) : tc_Lw l G b Ls xs X 338 [(0, .ref b), (1, .ref (tc_ad G 0)), (2, .ref (tc_ad G 50)), (3, .int (nI i))] [] μ := by
  obtain ⟨r, μ1, μ2, e1, e2, hI2⟩ := hs (xs (i + 1)) (xs (i + 2)) μ hI
  refine tc_l_aload_n tc_dL_338 1 rfl ?_
  refine tc_l_arg 0 1 (rx := []) rfl (by decide) (by omega) hL tc_dL_339 tc_dL_340 tc_dL_341 tc_dL_342 tc_dL_343 ?_
  refine tc_l_arg 0 2 (rx := []) rfl (by decide) (by omega) hL tc_dL_344 tc_dL_345 tc_dL_346 tc_dL_347 tc_dL_348 ?_
  have c1 := tc_c6_taken (l := l) (G := G) N e1
  refine tc_l_call (As := [.int (xs (i + 1)), .int (xs (i + 2))]) (rest := []) (r1 := r) (μ1 := μ1) tc_dL_349 tc_ok6_taken tc_wL379 ⟨Nat.le_of_ble_eq_true rfl, Nat.le_of_ble_eq_true rfl⟩ tc_s6 rfl c1 rfl rfl (Nat.le_of_ble_eq_true rfl) ?_
  refine tc_l_aload_n tc_dL_352 2 rfl ?_
  refine tc_l_arg 0 1 (rx := []) rfl (by decide) (by omega) hL tc_dL_353 tc_dL_354 tc_dL_355 tc_dL_356 tc_dL_357 ?_
  refine tc_l_arg 0 2 (rx := []) rfl (by decide) (by omega) hL tc_dL_358 tc_dL_359 tc_dL_360 tc_dL_361 tc_dL_362 ?_
  have c2 := tc_c7_taken (l := l) (G := G) N e2
  refine tc_l_call (As := [.int (xs (i + 1)), .int (xs (i + 2))]) (rest := [.int r]) (r1 := r) (μ1 := μ2) tc_dL_363 tc_ok7_taken tc_wL1041 ⟨Nat.le_of_ble_eq_true rfl, Nat.le_of_ble_eq_true rfl⟩ tc_s7 rfl c2 rfl rfl (Nat.le_of_ble_eq_true rfl) ?_
  refine tc_l_eq (tgt := 1359) tc_dL_366 (by decide) ?_
  exact K μ2 hI2
theorem tc_k5 {N : Nat} {Inv : tc_Mem → Prop} (hs : tc_S5 N Inv) {i : Nat} (hi : i + 7 ≤ Ls) (hL : Ls < 2 ^ 31) {μ : tc_Mem} (hI : Inv μ) (K : ∀ μ2, Inv μ2 → tc_Lw l G b Ls xs X 1359 [(0, .ref b), (1, .ref (tc_ad G 0)), (2, .ref (tc_ad G 50)), (3, .int (nI i))] [] μ2) : tc_Lw l G b Ls xs X 371 [(0, .ref b), (1, .ref (tc_ad G 0)), (2, .ref (tc_ad G 50)), (3, .int (nI i))] [] μ := by
  obtain ⟨r, μ1, μ2, e1, e2, hI2⟩ := hs (xs (i + 1)) (xs (i + 2)) μ hI
  refine tc_l_aload_n tc_dL_371 1 rfl ?_
  refine tc_l_arg 0 1 (rx := []) rfl (by decide) (by omega) hL tc_dL_372 tc_dL_373 tc_dL_374 tc_dL_375 tc_dL_376 ?_
  refine tc_l_arg 0 2 (rx := []) rfl (by decide) (by omega) hL tc_dL_377 tc_dL_378 tc_dL_379 tc_dL_380 tc_dL_381 ?_
  have c1 := tc_c6_rule (l := l) (G := G) N e1
  refine tc_l_call (As := [.int (xs (i + 1)), .int (xs (i + 2))]) (rest := []) (r1 := r) (μ1 := μ1) tc_dL_382 tc_ok6_rule tc_wL388 ⟨Nat.le_of_ble_eq_true rfl, Nat.le_of_ble_eq_true rfl⟩ tc_s6 rfl c1 rfl rfl (Nat.le_of_ble_eq_true rfl) ?_
  refine tc_l_aload_n tc_dL_385 2 rfl ?_
  refine tc_l_arg 0 1 (rx := []) rfl (by decide) (by omega) hL tc_dL_386 tc_dL_387 tc_dL_388 tc_dL_389 tc_dL_390 ?_
  refine tc_l_arg 0 2 (rx := []) rfl (by decide) (by omega) hL tc_dL_391 tc_dL_392 tc_dL_393 tc_dL_394 tc_dL_395 ?_
  have c2 := tc_c7_rule (l := l) (G := G) N e2
  refine tc_l_call (As := [.int (xs (i + 1)), .int (xs (i + 2))]) (rest := [.int r]) (r1 := r) (μ1 := μ2) tc_dL_396 tc_ok7_rule tc_wL1045 ⟨Nat.le_of_ble_eq_true rfl, Nat.le_of_ble_eq_true rfl⟩ tc_s7 rfl c2 rfl rfl (Nat.le_of_ble_eq_true rfl) ?_
  refine tc_l_eq (tgt := 1359) tc_dL_399 (by decide) ?_
  exact K μ2 hI2
theorem tc_k6 {N : Nat} {Inv : tc_Mem → Prop} (hs : tc_S6 N Inv) {i : Nat} (hi : i + 7 ≤ Ls) (hL : Ls < 2 ^ 31) {μ : tc_Mem} (hI : Inv μ) (K : ∀ μ2, Inv μ2 → tc_Lw l G b Ls xs X 1359 [(0, .ref b), (1, .ref (tc_ad G 0)), (2, .ref (tc_ad G 50)), (3, .int (nI i))] [] μ2) : tc_Lw l G b Ls xs X 404 [(0, .ref b), (1, .ref (tc_ad G 0)), (2, .ref (tc_ad G 50)), (3, .int (nI i))] [] μ := by
  obtain ⟨r, μ1, μ2, e1, e2, hI2⟩ := hs (xs (i + 1)) (xs (i + 2)) μ hI
  refine tc_l_aload_n tc_dL_404 1 rfl ?_
  refine tc_l_arg 0 1 (rx := []) rfl (by decide) (by omega) hL tc_dL_405 tc_dL_406 tc_dL_407 tc_dL_408 tc_dL_409 ?_
  refine tc_l_arg 0 2 (rx := []) rfl (by decide) (by omega) hL tc_dL_410 tc_dL_411 tc_dL_412 tc_dL_413 tc_dL_414 ?_
  have c1 := tc_c6_train (l := l) (G := G) N e1
  refine tc_l_call (As := [.int (xs (i + 1)), .int (xs (i + 2))]) (rest := []) (r1 := r) (μ1 := μ1) tc_dL_415 tc_ok6_train tc_wL396 ⟨Nat.le_of_ble_eq_true rfl, Nat.le_of_ble_eq_true rfl⟩ tc_s6 rfl c1 rfl rfl (Nat.le_of_ble_eq_true rfl) ?_
  refine tc_l_aload_n tc_dL_418 2 rfl ?_
  refine tc_l_arg 0 1 (rx := []) rfl (by decide) (by omega) hL tc_dL_419 tc_dL_420 tc_dL_421 tc_dL_422 tc_dL_423 ?_
  refine tc_l_arg 0 2 (rx := []) rfl (by decide) (by omega) hL tc_dL_424 tc_dL_425 tc_dL_426 tc_dL_427 tc_dL_428 ?_
  have c2 := tc_c7_train (l := l) (G := G) N e2
  refine tc_l_call (As := [.int (xs (i + 1)), .int (xs (i + 2))]) (rest := [.int r]) (r1 := r) (μ1 := μ2) tc_dL_429 tc_ok7_train tc_wL1049 ⟨Nat.le_of_ble_eq_true rfl, Nat.le_of_ble_eq_true rfl⟩ tc_s7 rfl c2 rfl rfl (Nat.le_of_ble_eq_true rfl) ?_
  refine tc_l_eq (tgt := 1359) tc_dL_432 (by decide) ?_
  exact K μ2 hI2
theorem tc_k7 {N : Nat} {Inv : tc_Mem → Prop} (hs : tc_S7 N Inv) {i : Nat} (hi : i + 7 ≤ Ls) (hL : Ls < 2 ^ 31) {μ : tc_Mem} (hI : Inv μ) (K : ∀ μ2, Inv μ2 → tc_Lw l G b Ls xs X 1359 [(0, .ref b), (1, .ref (tc_ad G 0)), (2, .ref (tc_ad G 50)), (3, .int (nI i))] [] μ2) : tc_Lw l G b Ls xs X 437 [(0, .ref b), (1, .ref (tc_ad G 0)), (2, .ref (tc_ad G 50)), (3, .int (nI i))] [] μ := by
  obtain ⟨r, μ1, μ2, e1, e2, hI2⟩ := hs μ hI
  refine tc_l_aload_n tc_dL_437 1 rfl ?_
  have c1 := tc_c6_moves (l := l) (G := G) N e1
  refine tc_l_call (As := []) (rest := []) (r1 := r) (μ1 := μ1) tc_dL_438 tc_ok6_moves tc_wL401 ⟨Nat.le_of_ble_eq_true rfl, Nat.le_of_ble_eq_true rfl⟩ tc_s6 rfl c1 rfl rfl (Nat.le_of_ble_eq_true rfl) ?_
  refine tc_l_aload_n tc_dL_441 2 rfl ?_
  have c2 := tc_c7_moves (l := l) (G := G) N e2
  refine tc_l_call (As := []) (rest := [.int r]) (r1 := r) (μ1 := μ2) tc_dL_442 tc_ok7_moves tc_wL1053 ⟨Nat.le_of_ble_eq_true rfl, Nat.le_of_ble_eq_true rfl⟩ tc_s7 rfl c2 rfl rfl (Nat.le_of_ble_eq_true rfl) ?_
  refine tc_l_eq (tgt := 1359) tc_dL_445 (by decide) ?_
  exact K μ2 hI2
theorem tc_k8 {N : Nat} {Inv : tc_Mem → Prop} (hs : tc_S8 N Inv) {i : Nat} (hi : i + 7 ≤ Ls) (hL : Ls < 2 ^ 31) {μ : tc_Mem} (hI : Inv μ) (K : ∀ μ2, Inv μ2 → tc_Lw l G b Ls xs X 1359 [(0, .ref b), (1, .ref (tc_ad G 0)), (2, .ref (tc_ad G 50)), (3, .int (nI i))] [] μ2) : tc_Lw l G b Ls xs X 450 [(0, .ref b), (1, .ref (tc_ad G 0)), (2, .ref (tc_ad G 50)), (3, .int (nI i))] [] μ := by
  obtain ⟨r, μ1, μ2, e1, e2, hI2⟩ := hs (xs (i + 1)) (xs (i + 2)) μ hI
  refine tc_l_aload_n tc_dL_450 1 rfl ?_
  refine tc_l_arg 0 1 (rx := []) rfl (by decide) (by omega) hL tc_dL_451 tc_dL_452 tc_dL_453 tc_dL_454 tc_dL_455 ?_
  refine tc_l_arg 0 2 (rx := []) rfl (by decide) (by omega) hL tc_dL_456 tc_dL_457 tc_dL_458 tc_dL_459 tc_dL_460 ?_
  have c1 := tc_c6_force (l := l) (G := G) N e1
  refine tc_l_call (As := [.int (xs (i + 1)), .int (xs (i + 2))]) (rest := []) (r1 := r) (μ1 := μ1) tc_dL_461 tc_ok6_force tc_wL413 ⟨Nat.le_of_ble_eq_true rfl, Nat.le_of_ble_eq_true rfl⟩ tc_s6 rfl c1 rfl rfl (Nat.le_of_ble_eq_true rfl) ?_
  refine tc_l_aload_n tc_dL_464 2 rfl ?_
  refine tc_l_arg 0 1 (rx := []) rfl (by decide) (by omega) hL tc_dL_465 tc_dL_466 tc_dL_467 tc_dL_468 tc_dL_469 ?_
  refine tc_l_arg 0 2 (rx := []) rfl (by decide) (by omega) hL tc_dL_470 tc_dL_471 tc_dL_472 tc_dL_473 tc_dL_474 ?_
  have c2 := tc_c7_force (l := l) (G := G) N e2
  refine tc_l_call (As := [.int (xs (i + 1)), .int (xs (i + 2))]) (rest := [.int r]) (r1 := r) (μ1 := μ2) tc_dL_475 tc_ok7_force tc_wL1069 ⟨Nat.le_of_ble_eq_true rfl, Nat.le_of_ble_eq_true rfl⟩ tc_s7 rfl c2 rfl rfl (Nat.le_of_ble_eq_true rfl) ?_
  refine tc_l_eq (tgt := 1359) tc_dL_478 (by decide) ?_
  exact K μ2 hI2
theorem tc_k9 {N : Nat} {Inv : tc_Mem → Prop} (hs : tc_S9 N Inv) {i : Nat} (hi : i + 7 ≤ Ls) (hL : Ls < 2 ^ 31) {μ : tc_Mem} (hI : Inv μ) (K : ∀ μ2, Inv μ2 → tc_Lw l G b Ls xs X 1359 [(0, .ref b), (1, .ref (tc_ad G 0)), (2, .ref (tc_ad G 50)), (3, .int (nI i))] [] μ2) : tc_Lw l G b Ls xs X 483 [(0, .ref b), (1, .ref (tc_ad G 0)), (2, .ref (tc_ad G 50)), (3, .int (nI i))] [] μ := by
  obtain ⟨r, μ1, μ2, e1, e2, hI2⟩ := hs (xs (i + 1)) (xs (i + 2)) μ hI
  refine tc_l_aload_n tc_dL_483 1 rfl ?_
  refine tc_l_arg 0 1 (rx := []) rfl (by decide) (by omega) hL tc_dL_484 tc_dL_485 tc_dL_486 tc_dL_487 tc_dL_488 ?_
  refine tc_l_arg 0 2 (rx := []) rfl (by decide) (by omega) hL tc_dL_489 tc_dL_490 tc_dL_491 tc_dL_492 tc_dL_493 ?_
  have c1 := tc_c6_fault (l := l) (G := G) N e1
  refine tc_l_call (As := [.int (xs (i + 1)), .int (xs (i + 2))]) (rest := []) (r1 := r) (μ1 := μ1) tc_dL_494 tc_ok6_fault tc_wL417 ⟨Nat.le_of_ble_eq_true rfl, Nat.le_of_ble_eq_true rfl⟩ tc_s6 rfl c1 rfl rfl (Nat.le_of_ble_eq_true rfl) ?_
  refine tc_l_aload_n tc_dL_497 2 rfl ?_
  refine tc_l_arg 0 1 (rx := []) rfl (by decide) (by omega) hL tc_dL_498 tc_dL_499 tc_dL_500 tc_dL_501 tc_dL_502 ?_
  refine tc_l_arg 0 2 (rx := []) rfl (by decide) (by omega) hL tc_dL_503 tc_dL_504 tc_dL_505 tc_dL_506 tc_dL_507 ?_
  have c2 := tc_c7_fault (l := l) (G := G) N e2
  refine tc_l_call (As := [.int (xs (i + 1)), .int (xs (i + 2))]) (rest := [.int r]) (r1 := r) (μ1 := μ2) tc_dL_508 tc_ok7_fault tc_wL1073 ⟨Nat.le_of_ble_eq_true rfl, Nat.le_of_ble_eq_true rfl⟩ tc_s7 rfl c2 rfl rfl (Nat.le_of_ble_eq_true rfl) ?_
  refine tc_l_eq (tgt := 1359) tc_dL_511 (by decide) ?_
  exact K μ2 hI2
theorem tc_k10 {N : Nat} {Inv : tc_Mem → Prop} (hs : tc_S10 N Inv) {i : Nat} (hi : i + 7 ≤ Ls) (hL : Ls < 2 ^ 31) {μ : tc_Mem} (hI : Inv μ) (K : ∀ μ2, Inv μ2 → tc_Lw l G b Ls xs X 1359 [(0, .ref b), (1, .ref (tc_ad G 0)), (2, .ref (tc_ad G 50)), (3, .int (nI i))] [] μ2) : tc_Lw l G b Ls xs X 516 [(0, .ref b), (1, .ref (tc_ad G 0)), (2, .ref (tc_ad G 50)), (3, .int (nI i))] [] μ := by
  obtain ⟨r, μ1, μ2, e1, e2, hI2⟩ := hs (xs (i + 1)) (xs (i + 2)) μ hI
  refine tc_l_aload_n tc_dL_516 1 rfl ?_
  refine tc_l_arg 0 1 (rx := []) rfl (by decide) (by omega) hL tc_dL_517 tc_dL_518 tc_dL_519 tc_dL_520 tc_dL_521 ?_
  refine tc_l_arg 0 2 (rx := []) rfl (by decide) (by omega) hL tc_dL_522 tc_dL_523 tc_dL_524 tc_dL_525 tc_dL_526 ?_
  have c1 := tc_c6_faultOf (l := l) (G := G) N e1
  refine tc_l_call (As := [.int (xs (i + 1)), .int (xs (i + 2))]) (rest := []) (r1 := r) (μ1 := μ1) tc_dL_527 tc_ok6_faultOf tc_wL429 ⟨Nat.le_of_ble_eq_true rfl, Nat.le_of_ble_eq_true rfl⟩ tc_s6 rfl c1 rfl rfl (Nat.le_of_ble_eq_true rfl) ?_
  refine tc_l_aload_n tc_dL_530 2 rfl ?_
  refine tc_l_arg 0 1 (rx := []) rfl (by decide) (by omega) hL tc_dL_531 tc_dL_532 tc_dL_533 tc_dL_534 tc_dL_535 ?_
  refine tc_l_arg 0 2 (rx := []) rfl (by decide) (by omega) hL tc_dL_536 tc_dL_537 tc_dL_538 tc_dL_539 tc_dL_540 ?_
  have c2 := tc_c7_faultOf (l := l) (G := G) N e2
  refine tc_l_call (As := [.int (xs (i + 1)), .int (xs (i + 2))]) (rest := [.int r]) (r1 := r) (μ1 := μ2) tc_dL_541 tc_ok7_faultOf tc_wL1085 ⟨Nat.le_of_ble_eq_true rfl, Nat.le_of_ble_eq_true rfl⟩ tc_s7 rfl c2 rfl rfl (Nat.le_of_ble_eq_true rfl) ?_
  refine tc_l_eq (tgt := 1359) tc_dL_544 (by decide) ?_
  exact K μ2 hI2
theorem tc_k11 {N : Nat} {Inv : tc_Mem → Prop} (hs : tc_S11 N Inv) {i : Nat} (hi : i + 7 ≤ Ls) (hL : Ls < 2 ^ 31) {μ : tc_Mem} (hI : Inv μ) (K : ∀ μ2, Inv μ2 → tc_Lw l G b Ls xs X 1359 [(0, .ref b), (1, .ref (tc_ad G 0)), (2, .ref (tc_ad G 50)), (3, .int (nI i))] [] μ2) : tc_Lw l G b Ls xs X 549 [(0, .ref b), (1, .ref (tc_ad G 0)), (2, .ref (tc_ad G 50)), (3, .int (nI i))] [] μ := by
  obtain ⟨r, μ1, μ2, e1, e2, hI2⟩ := hs (xs (i + 1)) μ hI
  refine tc_l_aload_n tc_dL_549 1 rfl ?_
  refine tc_l_arg 0 1 (rx := []) rfl (by decide) (by omega) hL tc_dL_550 tc_dL_551 tc_dL_552 tc_dL_553 tc_dL_554 ?_
  have c1 := tc_c6_mend (l := l) (G := G) N e1
  refine tc_l_call (As := [.int (xs (i + 1))]) (rest := []) (r1 := r) (μ1 := μ1) tc_dL_555 tc_ok6_mend tc_wL433 ⟨Nat.le_of_ble_eq_true rfl, Nat.le_of_ble_eq_true rfl⟩ tc_s6 rfl c1 rfl rfl (Nat.le_of_ble_eq_true rfl) ?_
  refine tc_l_aload_n tc_dL_558 2 rfl ?_
  refine tc_l_arg 0 1 (rx := []) rfl (by decide) (by omega) hL tc_dL_559 tc_dL_560 tc_dL_561 tc_dL_562 tc_dL_563 ?_
  have c2 := tc_c7_mend (l := l) (G := G) N e2
  refine tc_l_call (As := [.int (xs (i + 1))]) (rest := [.int r]) (r1 := r) (μ1 := μ2) tc_dL_564 tc_ok7_mend tc_wL1089 ⟨Nat.le_of_ble_eq_true rfl, Nat.le_of_ble_eq_true rfl⟩ tc_s7 rfl c2 rfl rfl (Nat.le_of_ble_eq_true rfl) ?_
  refine tc_l_eq (tgt := 1359) tc_dL_567 (by decide) ?_
  exact K μ2 hI2
theorem tc_k12 {N : Nat} {Inv : tc_Mem → Prop} (hs : tc_S12 N Inv) {i : Nat} (hi : i + 7 ≤ Ls) (hL : Ls < 2 ^ 31) {μ : tc_Mem} (hI : Inv μ) (K : ∀ μ2, Inv μ2 → tc_Lw l G b Ls xs X 1359 [(0, .ref b), (1, .ref (tc_ad G 0)), (2, .ref (tc_ad G 50)), (3, .int (nI i))] [] μ2) : tc_Lw l G b Ls xs X 572 [(0, .ref b), (1, .ref (tc_ad G 0)), (2, .ref (tc_ad G 50)), (3, .int (nI i))] [] μ := by
  obtain ⟨r, μ1, μ2, e1, e2, hI2⟩ := hs μ hI
  refine tc_l_aload_n tc_dL_572 1 rfl ?_
  have c1 := tc_c6_moment (l := l) (G := G) N e1
  refine tc_l_call (As := []) (rest := []) (r1 := r) (μ1 := μ1) tc_dL_573 tc_ok6_moment tc_wL438 ⟨Nat.le_of_ble_eq_true rfl, Nat.le_of_ble_eq_true rfl⟩ tc_s6 rfl c1 rfl rfl (Nat.le_of_ble_eq_true rfl) ?_
  refine tc_l_aload_n tc_dL_576 2 rfl ?_
  have c2 := tc_c7_moment (l := l) (G := G) N e2
  refine tc_l_call (As := []) (rest := [.int r]) (r1 := r) (μ1 := μ2) tc_dL_577 tc_ok7_moment tc_wL1093 ⟨Nat.le_of_ble_eq_true rfl, Nat.le_of_ble_eq_true rfl⟩ tc_s7 rfl c2 rfl rfl (Nat.le_of_ble_eq_true rfl) ?_
  refine tc_l_eq (tgt := 1359) tc_dL_580 (by decide) ?_
  exact K μ2 hI2
theorem tc_k13 {N : Nat} {Inv : tc_Mem → Prop} (hs : tc_S13 N Inv) {i : Nat} (hi : i + 7 ≤ Ls) (hL : Ls < 2 ^ 31) {μ : tc_Mem} (hI : Inv μ) (K : ∀ μ2, Inv μ2 → tc_Lw l G b Ls xs X 1359 [(0, .ref b), (1, .ref (tc_ad G 0)), (2, .ref (tc_ad G 50)), (3, .int (nI i))] [] μ2) : tc_Lw l G b Ls xs X 585 [(0, .ref b), (1, .ref (tc_ad G 0)), (2, .ref (tc_ad G 50)), (3, .int (nI i))] [] μ := by
  obtain ⟨r, μ1, μ2, e1, e2, hI2⟩ := hs (xs (i + 1)) μ hI
  refine tc_l_aload_n tc_dL_585 1 rfl ?_
  refine tc_l_arg 0 1 (rx := []) rfl (by decide) (by omega) hL tc_dL_586 tc_dL_587 tc_dL_588 tc_dL_589 tc_dL_590 ?_
  have c1 := tc_c6_log (l := l) (G := G) N e1
  refine tc_l_call (As := [.int (xs (i + 1))]) (rest := []) (r1 := r) (μ1 := μ1) tc_dL_591 tc_ok6_log tc_wL494 ⟨Nat.le_of_ble_eq_true rfl, Nat.le_of_ble_eq_true rfl⟩ tc_s6 rfl c1 rfl rfl (Nat.le_of_ble_eq_true rfl) ?_
  refine tc_l_aload_n tc_dL_594 2 rfl ?_
  refine tc_l_arg 0 1 (rx := []) rfl (by decide) (by omega) hL tc_dL_595 tc_dL_596 tc_dL_597 tc_dL_598 tc_dL_599 ?_
  have c2 := tc_c7_log (l := l) (G := G) N e2
  refine tc_l_call (As := [.int (xs (i + 1))]) (rest := [.int r]) (r1 := r) (μ1 := μ2) tc_dL_600 tc_ok7_log tc_wL1129 ⟨Nat.le_of_ble_eq_true rfl, Nat.le_of_ble_eq_true rfl⟩ tc_s7 rfl c2 rfl rfl (Nat.le_of_ble_eq_true rfl) ?_
  refine tc_l_eq (tgt := 1359) tc_dL_603 (by decide) ?_
  exact K μ2 hI2
theorem tc_k14 {N : Nat} {Inv : tc_Mem → Prop} (hs : tc_S14 N Inv) {i : Nat} (hi : i + 7 ≤ Ls) (hL : Ls < 2 ^ 31) {μ : tc_Mem} (hI : Inv μ) (K : ∀ μ2, Inv μ2 → tc_Lw l G b Ls xs X 1359 [(0, .ref b), (1, .ref (tc_ad G 0)), (2, .ref (tc_ad G 50)), (3, .int (nI i))] [] μ2) : tc_Lw l G b Ls xs X 608 [(0, .ref b), (1, .ref (tc_ad G 0)), (2, .ref (tc_ad G 50)), (3, .int (nI i))] [] μ := by
  obtain ⟨r, μ1, μ2, e1, e2, hI2⟩ := hs (xs (i + 1)) μ hI
  refine tc_l_aload_n tc_dL_608 1 rfl ?_
  refine tc_l_arg 0 1 (rx := []) rfl (by decide) (by omega) hL tc_dL_609 tc_dL_610 tc_dL_611 tc_dL_612 tc_dL_613 ?_
  have c1 := tc_c6_who (l := l) (G := G) N e1
  refine tc_l_call (As := [.int (xs (i + 1))]) (rest := []) (r1 := r) (μ1 := μ1) tc_dL_614 tc_ok6_who tc_wL498 ⟨Nat.le_of_ble_eq_true rfl, Nat.le_of_ble_eq_true rfl⟩ tc_s6 rfl c1 rfl rfl (Nat.le_of_ble_eq_true rfl) ?_
  refine tc_l_aload_n tc_dL_617 2 rfl ?_
  refine tc_l_arg 0 1 (rx := []) rfl (by decide) (by omega) hL tc_dL_618 tc_dL_619 tc_dL_620 tc_dL_621 tc_dL_622 ?_
  have c2 := tc_c7_who (l := l) (G := G) N e2
  refine tc_l_call (As := [.int (xs (i + 1))]) (rest := [.int r]) (r1 := r) (μ1 := μ2) tc_dL_623 tc_ok7_who tc_wL1133 ⟨Nat.le_of_ble_eq_true rfl, Nat.le_of_ble_eq_true rfl⟩ tc_s7 rfl c2 rfl rfl (Nat.le_of_ble_eq_true rfl) ?_
  refine tc_l_eq (tgt := 1359) tc_dL_626 (by decide) ?_
  exact K μ2 hI2
theorem tc_k15 {N : Nat} {Inv : tc_Mem → Prop} (hs : tc_S15 N Inv) {i : Nat} (hi : i + 7 ≤ Ls) (hL : Ls < 2 ^ 31) {μ : tc_Mem} (hI : Inv μ) (K : ∀ μ2, Inv μ2 → tc_Lw l G b Ls xs X 1359 [(0, .ref b), (1, .ref (tc_ad G 0)), (2, .ref (tc_ad G 50)), (3, .int (nI i))] [] μ2) : tc_Lw l G b Ls xs X 631 [(0, .ref b), (1, .ref (tc_ad G 0)), (2, .ref (tc_ad G 50)), (3, .int (nI i))] [] μ := by
  obtain ⟨r, μ1, μ2, e1, e2, hI2⟩ := hs (xs (i + 1)) μ hI
  refine tc_l_aload_n tc_dL_631 1 rfl ?_
  refine tc_l_arg 0 1 (rx := []) rfl (by decide) (by omega) hL tc_dL_632 tc_dL_633 tc_dL_634 tc_dL_635 tc_dL_636 ?_
  have c1 := tc_c6_aspect (l := l) (G := G) N e1
  refine tc_l_call (As := [.int (xs (i + 1))]) (rest := []) (r1 := r) (μ1 := μ1) tc_dL_637 tc_ok6_aspect tc_wL515 ⟨Nat.le_of_ble_eq_true rfl, Nat.le_of_ble_eq_true rfl⟩ tc_s6 rfl c1 rfl rfl (Nat.le_of_ble_eq_true rfl) ?_
  refine tc_l_aload_n tc_dL_640 2 rfl ?_
  refine tc_l_arg 0 1 (rx := []) rfl (by decide) (by omega) hL tc_dL_641 tc_dL_642 tc_dL_643 tc_dL_644 tc_dL_645 ?_
  have c2 := tc_c7_aspect (l := l) (G := G) N e2
  refine tc_l_call (As := [.int (xs (i + 1))]) (rest := [.int r]) (r1 := r) (μ1 := μ2) tc_dL_646 tc_ok7_aspect tc_wL1137 ⟨Nat.le_of_ble_eq_true rfl, Nat.le_of_ble_eq_true rfl⟩ tc_s7 rfl c2 rfl rfl (Nat.le_of_ble_eq_true rfl) ?_
  refine tc_l_eq (tgt := 1359) tc_dL_649 (by decide) ?_
  exact K μ2 hI2
theorem tc_k16 {N : Nat} {Inv : tc_Mem → Prop} (hs : tc_S16 N Inv) {i : Nat} (hi : i + 7 ≤ Ls) (hL : Ls < 2 ^ 31) {μ : tc_Mem} (hI : Inv μ) (K : ∀ μ2, Inv μ2 → tc_Lw l G b Ls xs X 1359 [(0, .ref b), (1, .ref (tc_ad G 0)), (2, .ref (tc_ad G 50)), (3, .int (nI i))] [] μ2) : tc_Lw l G b Ls xs X 654 [(0, .ref b), (1, .ref (tc_ad G 0)), (2, .ref (tc_ad G 50)), (3, .int (nI i))] [] μ := by
  obtain ⟨r, μ1, μ2, e1, e2, hI2⟩ := hs (xs (i + 1)) (xs (i + 2)) μ hI
  refine tc_l_aload_n tc_dL_654 1 rfl ?_
  refine tc_l_arg 0 1 (rx := []) rfl (by decide) (by omega) hL tc_dL_655 tc_dL_656 tc_dL_657 tc_dL_658 tc_dL_659 ?_
  refine tc_l_arg 0 2 (rx := []) rfl (by decide) (by omega) hL tc_dL_660 tc_dL_661 tc_dL_662 tc_dL_663 tc_dL_664 ?_
  have c1 := tc_c6_run (l := l) (G := G) N e1
  refine tc_l_call (As := [.int (xs (i + 1)), .int (xs (i + 2))]) (rest := []) (r1 := r) (μ1 := μ1) tc_dL_665 tc_ok6_run tc_wL520 ⟨Nat.le_of_ble_eq_true rfl, Nat.le_of_ble_eq_true rfl⟩ tc_s6 rfl c1 rfl rfl (Nat.le_of_ble_eq_true rfl) ?_
  refine tc_l_aload_n tc_dL_668 2 rfl ?_
  refine tc_l_arg 0 1 (rx := []) rfl (by decide) (by omega) hL tc_dL_669 tc_dL_670 tc_dL_671 tc_dL_672 tc_dL_673 ?_
  refine tc_l_arg 0 2 (rx := []) rfl (by decide) (by omega) hL tc_dL_674 tc_dL_675 tc_dL_676 tc_dL_677 tc_dL_678 ?_
  have c2 := tc_c7_run (l := l) (G := G) N e2
  refine tc_l_call (As := [.int (xs (i + 1)), .int (xs (i + 2))]) (rest := [.int r]) (r1 := r) (μ1 := μ2) tc_dL_679 tc_ok7_run tc_wL1141 ⟨Nat.le_of_ble_eq_true rfl, Nat.le_of_ble_eq_true rfl⟩ tc_s7 rfl c2 rfl rfl (Nat.le_of_ble_eq_true rfl) ?_
  refine tc_l_eq (tgt := 1359) tc_dL_682 (by decide) ?_
  exact K μ2 hI2
theorem tc_k17 {N : Nat} {Inv : tc_Mem → Prop} (hs : tc_S17 N Inv) {i : Nat} (hi : i + 7 ≤ Ls) (hL : Ls < 2 ^ 31) {μ : tc_Mem} (hI : Inv μ) (K : ∀ μ2, Inv μ2 → tc_Lw l G b Ls xs X 1359 [(0, .ref b), (1, .ref (tc_ad G 0)), (2, .ref (tc_ad G 50)), (3, .int (nI i))] [] μ2) : tc_Lw l G b Ls xs X 687 [(0, .ref b), (1, .ref (tc_ad G 0)), (2, .ref (tc_ad G 50)), (3, .int (nI i))] [] μ := by
  obtain ⟨r, μ1, μ2, e1, e2, hI2⟩ := hs (xs (i + 1)) μ hI
  refine tc_l_aload_n tc_dL_687 1 rfl ?_
  refine tc_l_arg 0 1 (rx := []) rfl (by decide) (by omega) hL tc_dL_688 tc_dL_689 tc_dL_690 tc_dL_691 tc_dL_692 ?_
  have c1 := tc_c6_clears (l := l) (G := G) N e1
  refine tc_l_call (As := [.int (xs (i + 1))]) (rest := []) (r1 := r) (μ1 := μ1) tc_dL_693 tc_ok6_clears tc_wL546 ⟨Nat.le_of_ble_eq_true rfl, Nat.le_of_ble_eq_true rfl⟩ tc_s6 rfl c1 rfl rfl (Nat.le_of_ble_eq_true rfl) ?_
  refine tc_l_aload_n tc_dL_696 2 rfl ?_
  refine tc_l_arg 0 1 (rx := []) rfl (by decide) (by omega) hL tc_dL_697 tc_dL_698 tc_dL_699 tc_dL_700 tc_dL_701 ?_
  have c2 := tc_c7_clears (l := l) (G := G) N e2
  refine tc_l_call (As := [.int (xs (i + 1))]) (rest := [.int r]) (r1 := r) (μ1 := μ2) tc_dL_702 tc_ok7_clears tc_wL1154 ⟨Nat.le_of_ble_eq_true rfl, Nat.le_of_ble_eq_true rfl⟩ tc_s7 rfl c2 rfl rfl (Nat.le_of_ble_eq_true rfl) ?_
  refine tc_l_eq (tgt := 1359) tc_dL_705 (by decide) ?_
  exact K μ2 hI2
theorem tc_k18 {N : Nat} {Inv : tc_Mem → Prop} (hs : tc_S18 N Inv) {i : Nat} (hi : i + 7 ≤ Ls) (hL : Ls < 2 ^ 31) {μ : tc_Mem} (hI : Inv μ) (K : ∀ μ2, Inv μ2 → tc_Lw l G b Ls xs X 1359 [(0, .ref b), (1, .ref (tc_ad G 0)), (2, .ref (tc_ad G 50)), (3, .int (nI i))] [] μ2) : tc_Lw l G b Ls xs X 710 [(0, .ref b), (1, .ref (tc_ad G 0)), (2, .ref (tc_ad G 50)), (3, .int (nI i))] [] μ := by
  obtain ⟨r, μ1, μ2, e1, e2, hI2⟩ := hs (xs (i + 1)) μ hI
  refine tc_l_aload_n tc_dL_710 1 rfl ?_
  refine tc_l_arg 0 1 (rx := []) rfl (by decide) (by omega) hL tc_dL_711 tc_dL_712 tc_dL_713 tc_dL_714 tc_dL_715 ?_
  have c1 := tc_c6_order (l := l) (G := G) N e1
  refine tc_l_call (As := [.int (xs (i + 1))]) (rest := []) (r1 := r) (μ1 := μ1) tc_dL_716 tc_ok6_order tc_wL555 ⟨Nat.le_of_ble_eq_true rfl, Nat.le_of_ble_eq_true rfl⟩ tc_s6 rfl c1 rfl rfl (Nat.le_of_ble_eq_true rfl) ?_
  refine tc_l_aload_n tc_dL_719 2 rfl ?_
  refine tc_l_arg 0 1 (rx := []) rfl (by decide) (by omega) hL tc_dL_720 tc_dL_721 tc_dL_722 tc_dL_723 tc_dL_724 ?_
  have c2 := tc_c7_order (l := l) (G := G) N e2
  refine tc_l_call (As := [.int (xs (i + 1))]) (rest := [.int r]) (r1 := r) (μ1 := μ2) tc_dL_725 tc_ok7_order tc_wL1158 ⟨Nat.le_of_ble_eq_true rfl, Nat.le_of_ble_eq_true rfl⟩ tc_s7 rfl c2 rfl rfl (Nat.le_of_ble_eq_true rfl) ?_
  refine tc_l_eq (tgt := 1359) tc_dL_728 (by decide) ?_
  exact K μ2 hI2
theorem tc_k19 {N : Nat} {Inv : tc_Mem → Prop} (hs : tc_S19 N Inv) {i : Nat} (hi : i + 7 ≤ Ls) (hL : Ls < 2 ^ 31) {μ : tc_Mem} (hI : Inv μ) (K : ∀ μ2, Inv μ2 → tc_Lw l G b Ls xs X 1359 [(0, .ref b), (1, .ref (tc_ad G 0)), (2, .ref (tc_ad G 50)), (3, .int (nI i))] [] μ2) : tc_Lw l G b Ls xs X 733 [(0, .ref b), (1, .ref (tc_ad G 0)), (2, .ref (tc_ad G 50)), (3, .int (nI i))] [] μ := by
  obtain ⟨r, μ1, μ2, e1, e2, hI2⟩ := hs (xs (i + 1)) μ hI
  refine tc_l_aload_n tc_dL_733 1 rfl ?_
  refine tc_l_arg 0 1 (rx := []) rfl (by decide) (by omega) hL tc_dL_734 tc_dL_735 tc_dL_736 tc_dL_737 tc_dL_738 ?_
  have c1 := tc_c6_seen (l := l) (G := G) N e1
  refine tc_l_call (As := [.int (xs (i + 1))]) (rest := []) (r1 := r) (μ1 := μ1) tc_dL_739 tc_ok6_seen tc_wL564 ⟨Nat.le_of_ble_eq_true rfl, Nat.le_of_ble_eq_true rfl⟩ tc_s6 rfl c1 rfl rfl (Nat.le_of_ble_eq_true rfl) ?_
  refine tc_l_aload_n tc_dL_742 2 rfl ?_
  refine tc_l_arg 0 1 (rx := []) rfl (by decide) (by omega) hL tc_dL_743 tc_dL_744 tc_dL_745 tc_dL_746 tc_dL_747 ?_
  have c2 := tc_c7_seen (l := l) (G := G) N e2
  refine tc_l_call (As := [.int (xs (i + 1))]) (rest := [.int r]) (r1 := r) (μ1 := μ2) tc_dL_748 tc_ok7_seen tc_wL1162 ⟨Nat.le_of_ble_eq_true rfl, Nat.le_of_ble_eq_true rfl⟩ tc_s7 rfl c2 rfl rfl (Nat.le_of_ble_eq_true rfl) ?_
  refine tc_l_eq (tgt := 1359) tc_dL_751 (by decide) ?_
  exact K μ2 hI2
theorem tc_k20 {N : Nat} {Inv : tc_Mem → Prop} (hs : tc_S20 N Inv) {i : Nat} (hi : i + 7 ≤ Ls) (hL : Ls < 2 ^ 31) {μ : tc_Mem} (hI : Inv μ) (K : ∀ μ2, Inv μ2 → tc_Lw l G b Ls xs X 1359 [(0, .ref b), (1, .ref (tc_ad G 0)), (2, .ref (tc_ad G 50)), (3, .int (nI i))] [] μ2) : tc_Lw l G b Ls xs X 756 [(0, .ref b), (1, .ref (tc_ad G 0)), (2, .ref (tc_ad G 50)), (3, .int (nI i))] [] μ := by
  obtain ⟨r, μ1, μ2, e1, e2, hI2⟩ := hs (xs (i + 1)) μ hI
  refine tc_l_aload_n tc_dL_756 1 rfl ?_
  refine tc_l_arg 0 1 (rx := []) rfl (by decide) (by omega) hL tc_dL_757 tc_dL_758 tc_dL_759 tc_dL_760 tc_dL_761 ?_
  have c1 := tc_c6_bound (l := l) (G := G) N e1
  refine tc_l_call (As := [.int (xs (i + 1))]) (rest := []) (r1 := r) (μ1 := μ1) tc_dL_762 tc_ok6_bound tc_wL577 ⟨Nat.le_of_ble_eq_true rfl, Nat.le_of_ble_eq_true rfl⟩ tc_s6 rfl c1 rfl rfl (Nat.le_of_ble_eq_true rfl) ?_
  refine tc_l_aload_n tc_dL_765 2 rfl ?_
  refine tc_l_arg 0 1 (rx := []) rfl (by decide) (by omega) hL tc_dL_766 tc_dL_767 tc_dL_768 tc_dL_769 tc_dL_770 ?_
  have c2 := tc_c7_bound (l := l) (G := G) N e2
  refine tc_l_call (As := [.int (xs (i + 1))]) (rest := [.int r]) (r1 := r) (μ1 := μ2) tc_dL_771 tc_ok7_bound tc_wL1170 ⟨Nat.le_of_ble_eq_true rfl, Nat.le_of_ble_eq_true rfl⟩ tc_s7 rfl c2 rfl rfl (Nat.le_of_ble_eq_true rfl) ?_
  refine tc_l_eq (tgt := 1359) tc_dL_774 (by decide) ?_
  exact K μ2 hI2
theorem tc_k21 {N : Nat} {Inv : tc_Mem → Prop} (hs : tc_S21 N Inv) {i : Nat} (hi : i + 7 ≤ Ls) (hL : Ls < 2 ^ 31) {μ : tc_Mem} (hI : Inv μ) (K : ∀ μ2, Inv μ2 → tc_Lw l G b Ls xs X 1359 [(0, .ref b), (1, .ref (tc_ad G 0)), (2, .ref (tc_ad G 50)), (3, .int (nI i))] [] μ2) : tc_Lw l G b Ls xs X 779 [(0, .ref b), (1, .ref (tc_ad G 0)), (2, .ref (tc_ad G 50)), (3, .int (nI i))] [] μ := by
  obtain ⟨r, μ1, μ2, e1, e2, hI2⟩ := hs (xs (i + 1)) μ hI
  refine tc_l_aload_n tc_dL_779 1 rfl ?_
  refine tc_l_arg 0 1 (rx := []) rfl (by decide) (by omega) hL tc_dL_780 tc_dL_781 tc_dL_782 tc_dL_783 tc_dL_784 ?_
  have c1 := tc_c6_proof (l := l) (G := G) N e1
  refine tc_l_call (As := [.int (xs (i + 1))]) (rest := []) (r1 := r) (μ1 := μ1) tc_dL_785 tc_ok6_proof tc_wL594 ⟨Nat.le_of_ble_eq_true rfl, Nat.le_of_ble_eq_true rfl⟩ tc_s6 rfl c1 rfl rfl (Nat.le_of_ble_eq_true rfl) ?_
  refine tc_l_aload_n tc_dL_788 2 rfl ?_
  refine tc_l_arg 0 1 (rx := []) rfl (by decide) (by omega) hL tc_dL_789 tc_dL_790 tc_dL_791 tc_dL_792 tc_dL_793 ?_
  have c2 := tc_c7_proof (l := l) (G := G) N e2
  refine tc_l_call (As := [.int (xs (i + 1))]) (rest := [.int r]) (r1 := r) (μ1 := μ2) tc_dL_794 tc_ok7_proof tc_wL1182 ⟨Nat.le_of_ble_eq_true rfl, Nat.le_of_ble_eq_true rfl⟩ tc_s7 rfl c2 rfl rfl (Nat.le_of_ble_eq_true rfl) ?_
  refine tc_l_eq (tgt := 1359) tc_dL_797 (by decide) ?_
  exact K μ2 hI2
theorem tc_k22 {N : Nat} {Inv : tc_Mem → Prop} (hs : tc_S22 N Inv) {i : Nat} (hi : i + 7 ≤ Ls) (hL : Ls < 2 ^ 31) {μ : tc_Mem} (hI : Inv μ) (K : ∀ μ2, Inv μ2 → tc_Lw l G b Ls xs X 1359 [(0, .ref b), (1, .ref (tc_ad G 0)), (2, .ref (tc_ad G 50)), (3, .int (nI i))] [] μ2) : tc_Lw l G b Ls xs X 802 [(0, .ref b), (1, .ref (tc_ad G 0)), (2, .ref (tc_ad G 50)), (3, .int (nI i))] [] μ := by
  obtain ⟨r, μ1, μ2, e1, e2, hI2⟩ := hs (xs (i + 1)) μ hI
  refine tc_l_aload_n tc_dL_802 1 rfl ?_
  refine tc_l_arg 0 1 (rx := []) rfl (by decide) (by omega) hL tc_dL_803 tc_dL_804 tc_dL_805 tc_dL_806 tc_dL_807 ?_
  have c1 := tc_c6_pick (l := l) (G := G) N e1
  refine tc_l_call (As := [.int (xs (i + 1))]) (rest := []) (r1 := r) (μ1 := μ1) tc_dL_808 tc_ok6_pick tc_wL615 ⟨Nat.le_of_ble_eq_true rfl, Nat.le_of_ble_eq_true rfl⟩ tc_s6 rfl c1 rfl rfl (Nat.le_of_ble_eq_true rfl) ?_
  refine tc_l_aload_n tc_dL_811 2 rfl ?_
  refine tc_l_arg 0 1 (rx := []) rfl (by decide) (by omega) hL tc_dL_812 tc_dL_813 tc_dL_814 tc_dL_815 tc_dL_816 ?_
  have c2 := tc_c7_pick (l := l) (G := G) N e2
  refine tc_l_call (As := [.int (xs (i + 1))]) (rest := [.int r]) (r1 := r) (μ1 := μ2) tc_dL_817 tc_ok7_pick tc_wL1194 ⟨Nat.le_of_ble_eq_true rfl, Nat.le_of_ble_eq_true rfl⟩ tc_s7 rfl c2 rfl rfl (Nat.le_of_ble_eq_true rfl) ?_
  refine tc_l_eq (tgt := 1359) tc_dL_820 (by decide) ?_
  exact K μ2 hI2
theorem tc_k23 {N : Nat} {Inv : tc_Mem → Prop} (hs : tc_S23 N Inv) {i : Nat} (hi : i + 7 ≤ Ls) (hL : Ls < 2 ^ 31) {μ : tc_Mem} (hI : Inv μ) (K : ∀ μ2, Inv μ2 → tc_Lw l G b Ls xs X 1359 [(0, .ref b), (1, .ref (tc_ad G 0)), (2, .ref (tc_ad G 50)), (3, .int (nI i))] [] μ2) : tc_Lw l G b Ls xs X 825 [(0, .ref b), (1, .ref (tc_ad G 0)), (2, .ref (tc_ad G 50)), (3, .int (nI i))] [] μ := by
  obtain ⟨r, μ1, μ2, e1, e2, hI2⟩ := hs μ hI
  refine tc_l_aload_n tc_dL_825 1 rfl ?_
  have c1 := tc_c6_fix (l := l) (G := G) N e1
  refine tc_l_call (As := []) (rest := []) (r1 := r) (μ1 := μ1) tc_dL_826 tc_ok6_fix tc_wL628 ⟨Nat.le_of_ble_eq_true rfl, Nat.le_of_ble_eq_true rfl⟩ tc_s6 rfl c1 rfl rfl (Nat.le_of_ble_eq_true rfl) ?_
  refine tc_l_aload_n tc_dL_829 2 rfl ?_
  have c2 := tc_c7_fix (l := l) (G := G) N e2
  refine tc_l_call (As := []) (rest := [.int r]) (r1 := r) (μ1 := μ2) tc_dL_830 tc_ok7_fix tc_wL1198 ⟨Nat.le_of_ble_eq_true rfl, Nat.le_of_ble_eq_true rfl⟩ tc_s7 rfl c2 rfl rfl (Nat.le_of_ble_eq_true rfl) ?_
  refine tc_l_eq (tgt := 1359) tc_dL_833 (by decide) ?_
  exact K μ2 hI2
theorem tc_k24 {N : Nat} {Inv : tc_Mem → Prop} (hs : tc_S24 N Inv) {i : Nat} (hi : i + 7 ≤ Ls) (hL : Ls < 2 ^ 31) {μ : tc_Mem} (hI : Inv μ) (K : ∀ μ2, Inv μ2 → tc_Lw l G b Ls xs X 1359 [(0, .ref b), (1, .ref (tc_ad G 0)), (2, .ref (tc_ad G 50)), (3, .int (nI i))] [] μ2) : tc_Lw l G b Ls xs X 838 [(0, .ref b), (1, .ref (tc_ad G 0)), (2, .ref (tc_ad G 50)), (3, .int (nI i))] [] μ := by
  obtain ⟨r, μ1, μ2, e1, e2, hI2⟩ := hs (xs (i + 1)) (xs (i + 2)) μ hI
  refine tc_l_aload_n tc_dL_838 1 rfl ?_
  refine tc_l_arg 0 1 (rx := []) rfl (by decide) (by omega) hL tc_dL_839 tc_dL_840 tc_dL_841 tc_dL_842 tc_dL_843 ?_
  refine tc_l_arg 0 2 (rx := []) rfl (by decide) (by omega) hL tc_dL_844 tc_dL_845 tc_dL_846 tc_dL_847 tc_dL_848 ?_
  have c1 := tc_c6_drawn (l := l) (G := G) N e1
  refine tc_l_call (As := [.int (xs (i + 1)), .int (xs (i + 2))]) (rest := []) (r1 := r) (μ1 := μ1) tc_dL_849 tc_ok6_drawn tc_wL644 ⟨Nat.le_of_ble_eq_true rfl, Nat.le_of_ble_eq_true rfl⟩ tc_s6 rfl c1 rfl rfl (Nat.le_of_ble_eq_true rfl) ?_
  refine tc_l_aload_n tc_dL_852 2 rfl ?_
  refine tc_l_arg 0 1 (rx := []) rfl (by decide) (by omega) hL tc_dL_853 tc_dL_854 tc_dL_855 tc_dL_856 tc_dL_857 ?_
  refine tc_l_arg 0 2 (rx := []) rfl (by decide) (by omega) hL tc_dL_858 tc_dL_859 tc_dL_860 tc_dL_861 tc_dL_862 ?_
  have c2 := tc_c7_drawn (l := l) (G := G) N e2
  refine tc_l_call (As := [.int (xs (i + 1)), .int (xs (i + 2))]) (rest := [.int r]) (r1 := r) (μ1 := μ2) tc_dL_863 tc_ok7_drawn tc_wL1206 ⟨Nat.le_of_ble_eq_true rfl, Nat.le_of_ble_eq_true rfl⟩ tc_s7 rfl c2 rfl rfl (Nat.le_of_ble_eq_true rfl) ?_
  refine tc_l_eq (tgt := 1359) tc_dL_866 (by decide) ?_
  exact K μ2 hI2
theorem tc_k25 {N : Nat} {Inv : tc_Mem → Prop} (hs : tc_S25 N Inv) {i : Nat} (hi : i + 7 ≤ Ls) (hL : Ls < 2 ^ 31) {μ : tc_Mem} (hI : Inv μ) (K : ∀ μ2, Inv μ2 → tc_Lw l G b Ls xs X 1359 [(0, .ref b), (1, .ref (tc_ad G 0)), (2, .ref (tc_ad G 50)), (3, .int (nI i))] [] μ2) : tc_Lw l G b Ls xs X 871 [(0, .ref b), (1, .ref (tc_ad G 0)), (2, .ref (tc_ad G 50)), (3, .int (nI i))] [] μ := by
  obtain ⟨r, μ1, μ2, e1, e2, hI2⟩ := hs (xs (i + 1)) (xs (i + 2)) (xs (i + 3)) (xs (i + 4)) (xs (i + 5)) μ hI
  refine tc_l_aload_n tc_dL_871 1 rfl ?_
  refine tc_l_arg 0 1 (rx := []) rfl (by decide) (by omega) hL tc_dL_872 tc_dL_873 tc_dL_874 tc_dL_875 tc_dL_876 ?_
  refine tc_l_arg 0 2 (rx := []) rfl (by decide) (by omega) hL tc_dL_877 tc_dL_878 tc_dL_879 tc_dL_880 tc_dL_881 ?_
  refine tc_l_arg 0 3 (rx := []) rfl (by decide) (by omega) hL tc_dL_882 tc_dL_883 tc_dL_884 tc_dL_885 tc_dL_886 ?_
  refine tc_l_arg 0 4 (rx := []) rfl (by decide) (by omega) hL tc_dL_887 tc_dL_888 tc_dL_889 tc_dL_890 tc_dL_891 ?_
  refine tc_l_arg 0 5 (rx := []) rfl (by decide) (by omega) hL tc_dL_892 tc_dL_893 tc_dL_894 tc_dL_895 tc_dL_896 ?_
  have c1 := tc_c6_chance (l := l) (G := G) N e1
  refine tc_l_call (As := [.int (xs (i + 1)), .int (xs (i + 2)), .int (xs (i + 3)), .int (xs (i + 4)), .int (xs (i + 5))]) (rest := []) (r1 := r) (μ1 := μ1) tc_dL_897 tc_ok6_chance tc_wL653 ⟨Nat.le_of_ble_eq_true rfl, Nat.le_of_ble_eq_true rfl⟩ tc_s6 rfl c1 rfl rfl (Nat.le_of_ble_eq_true rfl) ?_
  refine tc_l_aload_n tc_dL_900 2 rfl ?_
  refine tc_l_arg 0 1 (rx := []) rfl (by decide) (by omega) hL tc_dL_901 tc_dL_902 tc_dL_903 tc_dL_904 tc_dL_905 ?_
  refine tc_l_arg 0 2 (rx := []) rfl (by decide) (by omega) hL tc_dL_906 tc_dL_907 tc_dL_908 tc_dL_909 tc_dL_910 ?_
  refine tc_l_arg 0 3 (rx := []) rfl (by decide) (by omega) hL tc_dL_911 tc_dL_912 tc_dL_913 tc_dL_914 tc_dL_915 ?_
  refine tc_l_arg 0 4 (rx := []) rfl (by decide) (by omega) hL tc_dL_916 tc_dL_917 tc_dL_918 tc_dL_919 tc_dL_920 ?_
  refine tc_l_arg 0 5 (rx := []) rfl (by decide) (by omega) hL tc_dL_921 tc_dL_922 tc_dL_923 tc_dL_924 tc_dL_925 ?_
  have c2 := tc_c7_chance (l := l) (G := G) N e2
  refine tc_l_call (As := [.int (xs (i + 1)), .int (xs (i + 2)), .int (xs (i + 3)), .int (xs (i + 4)), .int (xs (i + 5))]) (rest := [.int r]) (r1 := r) (μ1 := μ2) tc_dL_926 tc_ok7_chance tc_wL1215 ⟨Nat.le_of_ble_eq_true rfl, Nat.le_of_ble_eq_true rfl⟩ tc_s7 rfl c2 rfl rfl (Nat.le_of_ble_eq_true rfl) ?_
  refine tc_l_eq (tgt := 1359) tc_dL_929 (by decide) ?_
  exact K μ2 hI2
theorem tc_k26 {N : Nat} {Inv : tc_Mem → Prop} (hs : tc_S26 N Inv) {i : Nat} (hi : i + 7 ≤ Ls) (hL : Ls < 2 ^ 31) {μ : tc_Mem} (hI : Inv μ) (K : ∀ μ2, Inv μ2 → tc_Lw l G b Ls xs X 1359 [(0, .ref b), (1, .ref (tc_ad G 0)), (2, .ref (tc_ad G 50)), (3, .int (nI i))] [] μ2) : tc_Lw l G b Ls xs X 934 [(0, .ref b), (1, .ref (tc_ad G 0)), (2, .ref (tc_ad G 50)), (3, .int (nI i))] [] μ := by
  obtain ⟨r, μ1, μ2, e1, e2, hI2⟩ := hs (xs (i + 1)) (xs (i + 2)) (xs (i + 3)) μ hI
  refine tc_l_aload_n tc_dL_934 1 rfl ?_
  refine tc_l_arg 0 1 (rx := []) rfl (by decide) (by omega) hL tc_dL_935 tc_dL_936 tc_dL_937 tc_dL_938 tc_dL_939 ?_
  refine tc_l_arg 0 2 (rx := []) rfl (by decide) (by omega) hL tc_dL_940 tc_dL_941 tc_dL_942 tc_dL_943 tc_dL_944 ?_
  refine tc_l_arg 0 3 (rx := []) rfl (by decide) (by omega) hL tc_dL_945 tc_dL_946 tc_dL_947 tc_dL_948 tc_dL_949 ?_
  have c1 := tc_c6_tells (l := l) (G := G) N e1
  refine tc_l_call (As := [.int (xs (i + 1)), .int (xs (i + 2)), .int (xs (i + 3))]) (rest := []) (r1 := r) (μ1 := μ1) tc_dL_950 tc_ok6_tells tc_wL666 ⟨Nat.le_of_ble_eq_true rfl, Nat.le_of_ble_eq_true rfl⟩ tc_s6 rfl c1 rfl rfl (Nat.le_of_ble_eq_true rfl) ?_
  refine tc_l_aload_n tc_dL_953 2 rfl ?_
  refine tc_l_arg 0 1 (rx := []) rfl (by decide) (by omega) hL tc_dL_954 tc_dL_955 tc_dL_956 tc_dL_957 tc_dL_958 ?_
  refine tc_l_arg 0 2 (rx := []) rfl (by decide) (by omega) hL tc_dL_959 tc_dL_960 tc_dL_961 tc_dL_962 tc_dL_963 ?_
  refine tc_l_arg 0 3 (rx := []) rfl (by decide) (by omega) hL tc_dL_964 tc_dL_965 tc_dL_966 tc_dL_967 tc_dL_968 ?_
  have c2 := tc_c7_tells (l := l) (G := G) N e2
  refine tc_l_call (As := [.int (xs (i + 1)), .int (xs (i + 2)), .int (xs (i + 3))]) (rest := [.int r]) (r1 := r) (μ1 := μ2) tc_dL_969 tc_ok7_tells tc_wL1219 ⟨Nat.le_of_ble_eq_true rfl, Nat.le_of_ble_eq_true rfl⟩ tc_s7 rfl c2 rfl rfl (Nat.le_of_ble_eq_true rfl) ?_
  refine tc_l_eq (tgt := 1359) tc_dL_972 (by decide) ?_
  exact K μ2 hI2
theorem tc_k27 {N : Nat} {Inv : tc_Mem → Prop} (hs : tc_S27 N Inv) {i : Nat} (hi : i + 7 ≤ Ls) (hL : Ls < 2 ^ 31) {μ : tc_Mem} (hI : Inv μ) (K : ∀ μ2, Inv μ2 → tc_Lw l G b Ls xs X 1359 [(0, .ref b), (1, .ref (tc_ad G 0)), (2, .ref (tc_ad G 50)), (3, .int (nI i))] [] μ2) : tc_Lw l G b Ls xs X 977 [(0, .ref b), (1, .ref (tc_ad G 0)), (2, .ref (tc_ad G 50)), (3, .int (nI i))] [] μ := by
  obtain ⟨r, μ1, μ2, e1, e2, hI2⟩ := hs (xs (i + 1)) (xs (i + 2)) (xs (i + 3)) μ hI
  refine tc_l_aload_n tc_dL_977 1 rfl ?_
  refine tc_l_arg 0 1 (rx := []) rfl (by decide) (by omega) hL tc_dL_978 tc_dL_979 tc_dL_980 tc_dL_981 tc_dL_982 ?_
  refine tc_l_arg 0 2 (rx := []) rfl (by decide) (by omega) hL tc_dL_983 tc_dL_984 tc_dL_985 tc_dL_986 tc_dL_987 ?_
  refine tc_l_arg 0 3 (rx := []) rfl (by decide) (by omega) hL tc_dL_988 tc_dL_989 tc_dL_990 tc_dL_991 tc_dL_992 ?_
  have c1 := tc_c6_film (l := l) (G := G) N e1
  refine tc_l_call (As := [.int (xs (i + 1)), .int (xs (i + 2)), .int (xs (i + 3))]) (rest := []) (r1 := r) (μ1 := μ1) tc_dL_993 tc_ok6_film tc_wL687 ⟨Nat.le_of_ble_eq_true rfl, Nat.le_of_ble_eq_true rfl⟩ tc_s6 rfl c1 rfl rfl (Nat.le_of_ble_eq_true rfl) ?_
  refine tc_l_aload_n tc_dL_996 2 rfl ?_
  refine tc_l_arg 0 1 (rx := []) rfl (by decide) (by omega) hL tc_dL_997 tc_dL_998 tc_dL_999 tc_dL_1000 tc_dL_1001 ?_
  refine tc_l_arg 0 2 (rx := []) rfl (by decide) (by omega) hL tc_dL_1002 tc_dL_1003 tc_dL_1004 tc_dL_1005 tc_dL_1006 ?_
  refine tc_l_arg 0 3 (rx := []) rfl (by decide) (by omega) hL tc_dL_1007 tc_dL_1008 tc_dL_1009 tc_dL_1010 tc_dL_1011 ?_
  have c2 := tc_c7_film (l := l) (G := G) N e2
  refine tc_l_call (As := [.int (xs (i + 1)), .int (xs (i + 2)), .int (xs (i + 3))]) (rest := [.int r]) (r1 := r) (μ1 := μ2) tc_dL_1012 tc_ok7_film tc_wL1230 ⟨Nat.le_of_ble_eq_true rfl, Nat.le_of_ble_eq_true rfl⟩ tc_s7 rfl c2 rfl rfl (Nat.le_of_ble_eq_true rfl) ?_
  refine tc_l_eq (tgt := 1359) tc_dL_1015 (by decide) ?_
  exact K μ2 hI2
theorem tc_k28 {N : Nat} {Inv : tc_Mem → Prop} (hs : tc_S28 N Inv) {i : Nat} (hi : i + 7 ≤ Ls) (hL : Ls < 2 ^ 31) {μ : tc_Mem} (hI : Inv μ) (K : ∀ μ2, Inv μ2 → tc_Lw l G b Ls xs X 1359 [(0, .ref b), (1, .ref (tc_ad G 0)), (2, .ref (tc_ad G 50)), (3, .int (nI i))] [] μ2) : tc_Lw l G b Ls xs X 1020 [(0, .ref b), (1, .ref (tc_ad G 0)), (2, .ref (tc_ad G 50)), (3, .int (nI i))] [] μ := by
  obtain ⟨r, μ1, μ2, e1, e2, hI2⟩ := hs (xs (i + 1)) (xs (i + 2)) (xs (i + 3)) (xs (i + 4)) (xs (i + 5)) (xs (i + 6)) μ hI
  refine tc_l_aload_n tc_dL_1020 1 rfl ?_
  refine tc_l_arg 0 1 (rx := []) rfl (by decide) (by omega) hL tc_dL_1021 tc_dL_1022 tc_dL_1023 tc_dL_1024 tc_dL_1025 ?_
  refine tc_l_arg 0 2 (rx := []) rfl (by decide) (by omega) hL tc_dL_1026 tc_dL_1027 tc_dL_1028 tc_dL_1029 tc_dL_1030 ?_
  refine tc_l_arg 0 3 (rx := []) rfl (by decide) (by omega) hL tc_dL_1031 tc_dL_1032 tc_dL_1033 tc_dL_1034 tc_dL_1035 ?_
  refine tc_l_arg 0 4 (rx := []) rfl (by decide) (by omega) hL tc_dL_1036 tc_dL_1037 tc_dL_1038 tc_dL_1039 tc_dL_1040 ?_
  refine tc_l_arg 0 5 (rx := []) rfl (by decide) (by omega) hL tc_dL_1041 tc_dL_1042 tc_dL_1043 tc_dL_1044 tc_dL_1045 ?_
  refine tc_l_arg6 0 6 (rx := []) rfl (by decide) (by omega) hL tc_dL_1046 tc_dL_1047 tc_dL_1048 tc_dL_1050 tc_dL_1051 ?_
  have c1 := tc_c6_feed (l := l) (G := G) N e1
  refine tc_l_call (As := [.int (xs (i + 1)), .int (xs (i + 2)), .int (xs (i + 3)), .int (xs (i + 4)), .int (xs (i + 5)), .int (xs (i + 6))]) (rest := []) (r1 := r) (μ1 := μ1) tc_dL_1052 tc_ok6_feed tc_wL703 ⟨Nat.le_of_ble_eq_true rfl, Nat.le_of_ble_eq_true rfl⟩ tc_s6 rfl c1 rfl rfl (Nat.le_of_ble_eq_true rfl) ?_
  refine tc_l_aload_n tc_dL_1055 2 rfl ?_
  refine tc_l_arg 0 1 (rx := []) rfl (by decide) (by omega) hL tc_dL_1056 tc_dL_1057 tc_dL_1058 tc_dL_1059 tc_dL_1060 ?_
  refine tc_l_arg 0 2 (rx := []) rfl (by decide) (by omega) hL tc_dL_1061 tc_dL_1062 tc_dL_1063 tc_dL_1064 tc_dL_1065 ?_
  refine tc_l_arg 0 3 (rx := []) rfl (by decide) (by omega) hL tc_dL_1066 tc_dL_1067 tc_dL_1068 tc_dL_1069 tc_dL_1070 ?_
  refine tc_l_arg 0 4 (rx := []) rfl (by decide) (by omega) hL tc_dL_1071 tc_dL_1072 tc_dL_1073 tc_dL_1074 tc_dL_1075 ?_
  refine tc_l_arg 0 5 (rx := []) rfl (by decide) (by omega) hL tc_dL_1076 tc_dL_1077 tc_dL_1078 tc_dL_1079 tc_dL_1080 ?_
  refine tc_l_arg6 0 6 (rx := []) rfl (by decide) (by omega) hL tc_dL_1081 tc_dL_1082 tc_dL_1083 tc_dL_1085 tc_dL_1086 ?_
  have c2 := tc_c7_feed (l := l) (G := G) N e2
  refine tc_l_call (As := [.int (xs (i + 1)), .int (xs (i + 2)), .int (xs (i + 3)), .int (xs (i + 4)), .int (xs (i + 5)), .int (xs (i + 6))]) (rest := [.int r]) (r1 := r) (μ1 := μ2) tc_dL_1087 tc_ok7_feed tc_wL1234 ⟨Nat.le_of_ble_eq_true rfl, Nat.le_of_ble_eq_true rfl⟩ tc_s7 rfl c2 rfl rfl (Nat.le_of_ble_eq_true rfl) ?_
  refine tc_l_eq (tgt := 1359) tc_dL_1090 (by decide) ?_
  exact K μ2 hI2
theorem tc_k29 {N : Nat} {Inv : tc_Mem → Prop} (hs : tc_S29 N Inv) {i : Nat} (hi : i + 7 ≤ Ls) (hL : Ls < 2 ^ 31) {μ : tc_Mem} (hI : Inv μ) (K : ∀ μ2, Inv μ2 → tc_Lw l G b Ls xs X 1359 [(0, .ref b), (1, .ref (tc_ad G 0)), (2, .ref (tc_ad G 50)), (3, .int (nI i))] [] μ2) : tc_Lw l G b Ls xs X 1095 [(0, .ref b), (1, .ref (tc_ad G 0)), (2, .ref (tc_ad G 50)), (3, .int (nI i))] [] μ := by
  obtain ⟨r, μ1, μ2, e1, e2, hI2⟩ := hs μ hI
  refine tc_l_aload_n tc_dL_1095 1 rfl ?_
  have c1 := tc_c6_text (l := l) (G := G) N e1
  refine tc_l_call (As := []) (rest := []) (r1 := r) (μ1 := μ1) tc_dL_1096 tc_ok6_text tc_wL714 ⟨Nat.le_of_ble_eq_true rfl, Nat.le_of_ble_eq_true rfl⟩ tc_s6 rfl c1 rfl rfl (Nat.le_of_ble_eq_true rfl) ?_
  refine tc_l_aload_n tc_dL_1099 2 rfl ?_
  have c2 := tc_c7_text (l := l) (G := G) N e2
  refine tc_l_call (As := []) (rest := [.int r]) (r1 := r) (μ1 := μ2) tc_dL_1100 tc_ok7_text tc_wL1245 ⟨Nat.le_of_ble_eq_true rfl, Nat.le_of_ble_eq_true rfl⟩ tc_s7 rfl c2 rfl rfl (Nat.le_of_ble_eq_true rfl) ?_
  refine tc_l_eq (tgt := 1359) tc_dL_1103 (by decide) ?_
  exact K μ2 hI2
theorem tc_k30 {N : Nat} {Inv : tc_Mem → Prop} (hs : tc_S30 N Inv) {i : Nat} (hi : i + 7 ≤ Ls) (hL : Ls < 2 ^ 31) {μ : tc_Mem} (hI : Inv μ) (K : ∀ μ2, Inv μ2 → tc_Lw l G b Ls xs X 1359 [(0, .ref b), (1, .ref (tc_ad G 0)), (2, .ref (tc_ad G 50)), (3, .int (nI i))] [] μ2) : tc_Lw l G b Ls xs X 1108 [(0, .ref b), (1, .ref (tc_ad G 0)), (2, .ref (tc_ad G 50)), (3, .int (nI i))] [] μ := by
  obtain ⟨r, μ1, μ2, e1, e2, hI2⟩ := hs μ hI
  refine tc_l_aload_n tc_dL_1108 1 rfl ?_
  have c1 := tc_c6_image (l := l) (G := G) N e1
  refine tc_l_call (As := []) (rest := []) (r1 := r) (μ1 := μ1) tc_dL_1109 tc_ok6_image tc_wL823 ⟨Nat.le_of_ble_eq_true rfl, Nat.le_of_ble_eq_true rfl⟩ tc_s6 rfl c1 rfl rfl (Nat.le_of_ble_eq_true rfl) ?_
  refine tc_l_aload_n tc_dL_1112 2 rfl ?_
  have c2 := tc_c7_image (l := l) (G := G) N e2
  refine tc_l_call (As := []) (rest := [.int r]) (r1 := r) (μ1 := μ2) tc_dL_1113 tc_ok7_image tc_wL1296 ⟨Nat.le_of_ble_eq_true rfl, Nat.le_of_ble_eq_true rfl⟩ tc_s7 rfl c2 rfl rfl (Nat.le_of_ble_eq_true rfl) ?_
  refine tc_l_eq (tgt := 1359) tc_dL_1116 (by decide) ?_
  exact K μ2 hI2
theorem tc_k31 {N : Nat} {Inv : tc_Mem → Prop} (hs : tc_S31 N Inv) {i : Nat} (hi : i + 7 ≤ Ls) (hL : Ls < 2 ^ 31) {μ : tc_Mem} (hI : Inv μ) (K : ∀ μ2, Inv μ2 → tc_Lw l G b Ls xs X 1359 [(0, .ref b), (1, .ref (tc_ad G 0)), (2, .ref (tc_ad G 50)), (3, .int (nI i))] [] μ2) : tc_Lw l G b Ls xs X 1121 [(0, .ref b), (1, .ref (tc_ad G 0)), (2, .ref (tc_ad G 50)), (3, .int (nI i))] [] μ := by
  obtain ⟨r, μ1, μ2, e1, e2, hI2⟩ := hs μ hI
  refine tc_l_aload_n tc_dL_1121 1 rfl ?_
  have c1 := tc_c6_back (l := l) (G := G) N e1
  refine tc_l_call (As := []) (rest := []) (r1 := r) (μ1 := μ1) tc_dL_1122 tc_ok6_back tc_wL828 ⟨Nat.le_of_ble_eq_true rfl, Nat.le_of_ble_eq_true rfl⟩ tc_s6 rfl c1 rfl rfl (Nat.le_of_ble_eq_true rfl) ?_
  refine tc_l_aload_n tc_dL_1125 2 rfl ?_
  have c2 := tc_c7_back (l := l) (G := G) N e2
  refine tc_l_call (As := []) (rest := [.int r]) (r1 := r) (μ1 := μ2) tc_dL_1126 tc_ok7_back tc_wL1300 ⟨Nat.le_of_ble_eq_true rfl, Nat.le_of_ble_eq_true rfl⟩ tc_s7 rfl c2 rfl rfl (Nat.le_of_ble_eq_true rfl) ?_
  refine tc_l_eq (tgt := 1359) tc_dL_1129 (by decide) ?_
  exact K μ2 hI2
theorem tc_k32 {N : Nat} {Inv : tc_Mem → Prop} (hs : tc_S32 N Inv) {i : Nat} (hi : i + 7 ≤ Ls) (hL : Ls < 2 ^ 31) {μ : tc_Mem} (hI : Inv μ) (K : ∀ μ2, Inv μ2 → tc_Lw l G b Ls xs X 1359 [(0, .ref b), (1, .ref (tc_ad G 0)), (2, .ref (tc_ad G 50)), (3, .int (nI i))] [] μ2) : tc_Lw l G b Ls xs X 1134 [(0, .ref b), (1, .ref (tc_ad G 0)), (2, .ref (tc_ad G 50)), (3, .int (nI i))] [] μ := by
  obtain ⟨r, μ1, μ2, e1, e2, hI2⟩ := hs (xs (i + 1)) (xs (i + 2)) (xs (i + 3)) (xs (i + 4)) μ hI
  refine tc_l_aload_n tc_dL_1134 1 rfl ?_
  refine tc_l_arg 0 1 (rx := []) rfl (by decide) (by omega) hL tc_dL_1135 tc_dL_1136 tc_dL_1137 tc_dL_1138 tc_dL_1139 ?_
  refine tc_l_arg 0 2 (rx := []) rfl (by decide) (by omega) hL tc_dL_1140 tc_dL_1141 tc_dL_1142 tc_dL_1143 tc_dL_1144 ?_
  refine tc_l_arg 0 3 (rx := []) rfl (by decide) (by omega) hL tc_dL_1145 tc_dL_1146 tc_dL_1147 tc_dL_1148 tc_dL_1149 ?_
  refine tc_l_arg 0 4 (rx := []) rfl (by decide) (by omega) hL tc_dL_1150 tc_dL_1151 tc_dL_1152 tc_dL_1153 tc_dL_1154 ?_
  have c1 := tc_c6_load (l := l) (G := G) N e1
  refine tc_l_call (As := [.int (xs (i + 1)), .int (xs (i + 2)), .int (xs (i + 3)), .int (xs (i + 4))]) (rest := []) (r1 := r) (μ1 := μ1) tc_dL_1155 tc_ok6_load tc_wL832 ⟨Nat.le_of_ble_eq_true rfl, Nat.le_of_ble_eq_true rfl⟩ tc_s6 rfl c1 rfl rfl (Nat.le_of_ble_eq_true rfl) ?_
  refine tc_l_aload_n tc_dL_1158 2 rfl ?_
  refine tc_l_arg 0 1 (rx := []) rfl (by decide) (by omega) hL tc_dL_1159 tc_dL_1160 tc_dL_1161 tc_dL_1162 tc_dL_1163 ?_
  refine tc_l_arg 0 2 (rx := []) rfl (by decide) (by omega) hL tc_dL_1164 tc_dL_1165 tc_dL_1166 tc_dL_1167 tc_dL_1168 ?_
  refine tc_l_arg 0 3 (rx := []) rfl (by decide) (by omega) hL tc_dL_1169 tc_dL_1170 tc_dL_1171 tc_dL_1172 tc_dL_1173 ?_
  refine tc_l_arg 0 4 (rx := []) rfl (by decide) (by omega) hL tc_dL_1174 tc_dL_1175 tc_dL_1176 tc_dL_1177 tc_dL_1178 ?_
  have c2 := tc_c7_load (l := l) (G := G) N e2
  refine tc_l_call (As := [.int (xs (i + 1)), .int (xs (i + 2)), .int (xs (i + 3)), .int (xs (i + 4))]) (rest := [.int r]) (r1 := r) (μ1 := μ2) tc_dL_1179 tc_ok7_load tc_wL1304 ⟨Nat.le_of_ble_eq_true rfl, Nat.le_of_ble_eq_true rfl⟩ tc_s7 rfl c2 rfl rfl (Nat.le_of_ble_eq_true rfl) ?_
  refine tc_l_eq (tgt := 1359) tc_dL_1182 (by decide) ?_
  exact K μ2 hI2
theorem tc_k33 {N : Nat} {Inv : tc_Mem → Prop} (hs : tc_S33 N Inv) {i : Nat} (hi : i + 7 ≤ Ls) (hL : Ls < 2 ^ 31) {μ : tc_Mem} (hI : Inv μ) (K : ∀ μ2, Inv μ2 → tc_Lw l G b Ls xs X 1359 [(0, .ref b), (1, .ref (tc_ad G 0)), (2, .ref (tc_ad G 50)), (3, .int (nI i))] [] μ2) : tc_Lw l G b Ls xs X 1187 [(0, .ref b), (1, .ref (tc_ad G 0)), (2, .ref (tc_ad G 50)), (3, .int (nI i))] [] μ := by
  obtain ⟨r, μ1, μ2, e1, e2, hI2⟩ := hs (xs (i + 1)) μ hI
  refine tc_l_aload_n tc_dL_1187 1 rfl ?_
  refine tc_l_arg 0 1 (rx := []) rfl (by decide) (by omega) hL tc_dL_1188 tc_dL_1189 tc_dL_1190 tc_dL_1191 tc_dL_1192 ?_
  have c1 := tc_c6_count (l := l) (G := G) N e1
  refine tc_l_call (As := [.int (xs (i + 1))]) (rest := []) (r1 := r) (μ1 := μ1) tc_dL_1193 tc_ok6_count tc_wL845 ⟨Nat.le_of_ble_eq_true rfl, Nat.le_of_ble_eq_true rfl⟩ tc_s6 rfl c1 rfl rfl (Nat.le_of_ble_eq_true rfl) ?_
  refine tc_l_aload_n tc_dL_1196 2 rfl ?_
  refine tc_l_arg 0 1 (rx := []) rfl (by decide) (by omega) hL tc_dL_1197 tc_dL_1198 tc_dL_1199 tc_dL_1200 tc_dL_1201 ?_
  have c2 := tc_c7_count (l := l) (G := G) N e2
  refine tc_l_call (As := [.int (xs (i + 1))]) (rest := [.int r]) (r1 := r) (μ1 := μ2) tc_dL_1202 tc_ok7_count tc_wL1310 ⟨Nat.le_of_ble_eq_true rfl, Nat.le_of_ble_eq_true rfl⟩ tc_s7 rfl c2 rfl rfl (Nat.le_of_ble_eq_true rfl) ?_
  refine tc_l_eq (tgt := 1359) tc_dL_1205 (by decide) ?_
  exact K μ2 hI2
theorem tc_k34 {N : Nat} {Inv : tc_Mem → Prop} (hs : tc_S34 N Inv) {i : Nat} (hi : i + 7 ≤ Ls) (hL : Ls < 2 ^ 31) {μ : tc_Mem} (hI : Inv μ) (K : ∀ μ2, Inv μ2 → tc_Lw l G b Ls xs X 1359 [(0, .ref b), (1, .ref (tc_ad G 0)), (2, .ref (tc_ad G 50)), (3, .int (nI i))] [] μ2) : tc_Lw l G b Ls xs X 1210 [(0, .ref b), (1, .ref (tc_ad G 0)), (2, .ref (tc_ad G 50)), (3, .int (nI i))] [] μ := by
  obtain ⟨r, μ1, μ2, e1, e2, hI2⟩ := hs (xs (i + 1)) (xs (i + 2)) (xs (i + 3)) μ hI
  refine tc_l_aload_n tc_dL_1210 1 rfl ?_
  refine tc_l_arg 0 1 (rx := []) rfl (by decide) (by omega) hL tc_dL_1211 tc_dL_1212 tc_dL_1213 tc_dL_1214 tc_dL_1215 ?_
  refine tc_l_arg 0 2 (rx := []) rfl (by decide) (by omega) hL tc_dL_1216 tc_dL_1217 tc_dL_1218 tc_dL_1219 tc_dL_1220 ?_
  refine tc_l_arg 0 3 (rx := []) rfl (by decide) (by omega) hL tc_dL_1221 tc_dL_1222 tc_dL_1223 tc_dL_1224 tc_dL_1225 ?_
  have c1 := tc_c6_sheet (l := l) (G := G) N e1
  refine tc_l_call (As := [.int (xs (i + 1)), .int (xs (i + 2)), .int (xs (i + 3))]) (rest := []) (r1 := r) (μ1 := μ1) tc_dL_1226 tc_ok6_sheet tc_wL855 ⟨Nat.le_of_ble_eq_true rfl, Nat.le_of_ble_eq_true rfl⟩ tc_s6 rfl c1 rfl rfl (Nat.le_of_ble_eq_true rfl) ?_
  refine tc_l_aload_n tc_dL_1229 2 rfl ?_
  refine tc_l_arg 0 1 (rx := []) rfl (by decide) (by omega) hL tc_dL_1230 tc_dL_1231 tc_dL_1232 tc_dL_1233 tc_dL_1234 ?_
  refine tc_l_arg 0 2 (rx := []) rfl (by decide) (by omega) hL tc_dL_1235 tc_dL_1236 tc_dL_1237 tc_dL_1238 tc_dL_1239 ?_
  refine tc_l_arg 0 3 (rx := []) rfl (by decide) (by omega) hL tc_dL_1240 tc_dL_1241 tc_dL_1242 tc_dL_1243 tc_dL_1244 ?_
  have c2 := tc_c7_sheet (l := l) (G := G) N e2
  refine tc_l_call (As := [.int (xs (i + 1)), .int (xs (i + 2)), .int (xs (i + 3))]) (rest := [.int r]) (r1 := r) (μ1 := μ2) tc_dL_1245 tc_ok7_sheet tc_wL1314 ⟨Nat.le_of_ble_eq_true rfl, Nat.le_of_ble_eq_true rfl⟩ tc_s7 rfl c2 rfl rfl (Nat.le_of_ble_eq_true rfl) ?_
  refine tc_l_eq (tgt := 1359) tc_dL_1248 (by decide) ?_
  exact K μ2 hI2
theorem tc_k35 {N : Nat} {Inv : tc_Mem → Prop} (hs : tc_S35 N Inv) {i : Nat} (hi : i + 7 ≤ Ls) (hL : Ls < 2 ^ 31) {μ : tc_Mem} (hI : Inv μ) (K : ∀ μ2, Inv μ2 → tc_Lw l G b Ls xs X 1359 [(0, .ref b), (1, .ref (tc_ad G 0)), (2, .ref (tc_ad G 50)), (3, .int (nI i))] [] μ2) : tc_Lw l G b Ls xs X 1253 [(0, .ref b), (1, .ref (tc_ad G 0)), (2, .ref (tc_ad G 50)), (3, .int (nI i))] [] μ := by
  obtain ⟨r, μ1, μ2, e1, e2, hI2⟩ := hs (xs (i + 1)) (xs (i + 2)) (xs (i + 3)) μ hI
  refine tc_l_aload_n tc_dL_1253 1 rfl ?_
  refine tc_l_arg 0 1 (rx := []) rfl (by decide) (by omega) hL tc_dL_1254 tc_dL_1255 tc_dL_1256 tc_dL_1257 tc_dL_1258 ?_
  refine tc_l_arg 0 2 (rx := []) rfl (by decide) (by omega) hL tc_dL_1259 tc_dL_1260 tc_dL_1261 tc_dL_1262 tc_dL_1263 ?_
  refine tc_l_arg 0 3 (rx := []) rfl (by decide) (by omega) hL tc_dL_1264 tc_dL_1265 tc_dL_1266 tc_dL_1267 tc_dL_1268 ?_
  have c1 := tc_c6_put (l := l) (G := G) N e1
  refine tc_l_call (As := [.int (xs (i + 1)), .int (xs (i + 2)), .int (xs (i + 3))]) (rest := []) (r1 := r) (μ1 := μ1) tc_dL_1269 tc_ok6_put tc_wL859 ⟨Nat.le_of_ble_eq_true rfl, Nat.le_of_ble_eq_true rfl⟩ tc_s6 rfl c1 rfl rfl (Nat.le_of_ble_eq_true rfl) ?_
  refine tc_l_aload_n tc_dL_1272 2 rfl ?_
  refine tc_l_arg 0 1 (rx := []) rfl (by decide) (by omega) hL tc_dL_1273 tc_dL_1274 tc_dL_1275 tc_dL_1276 tc_dL_1277 ?_
  refine tc_l_arg 0 2 (rx := []) rfl (by decide) (by omega) hL tc_dL_1278 tc_dL_1279 tc_dL_1280 tc_dL_1281 tc_dL_1282 ?_
  refine tc_l_arg 0 3 (rx := []) rfl (by decide) (by omega) hL tc_dL_1283 tc_dL_1284 tc_dL_1285 tc_dL_1286 tc_dL_1287 ?_
  have c2 := tc_c7_put (l := l) (G := G) N e2
  refine tc_l_call (As := [.int (xs (i + 1)), .int (xs (i + 2)), .int (xs (i + 3))]) (rest := [.int r]) (r1 := r) (μ1 := μ2) tc_dL_1288 tc_ok7_put tc_wL1318 ⟨Nat.le_of_ble_eq_true rfl, Nat.le_of_ble_eq_true rfl⟩ tc_s7 rfl c2 rfl rfl (Nat.le_of_ble_eq_true rfl) ?_
  refine tc_l_eq (tgt := 1359) tc_dL_1291 (by decide) ?_
  exact K μ2 hI2
theorem tc_k36 {N : Nat} {Inv : tc_Mem → Prop} (hs : tc_S36 N Inv) {i : Nat} (hi : i + 7 ≤ Ls) (hL : Ls < 2 ^ 31) {μ : tc_Mem} (hI : Inv μ) (K : ∀ μ2, Inv μ2 → tc_Lw l G b Ls xs X 1359 [(0, .ref b), (1, .ref (tc_ad G 0)), (2, .ref (tc_ad G 50)), (3, .int (nI i))] [] μ2) : tc_Lw l G b Ls xs X 1296 [(0, .ref b), (1, .ref (tc_ad G 0)), (2, .ref (tc_ad G 50)), (3, .int (nI i))] [] μ := by
  obtain ⟨r, μ1, μ2, e1, e2, hI2⟩ := hs (xs (i + 1)) (xs (i + 2)) (xs (i + 3)) (xs (i + 4)) (xs (i + 5)) μ hI
  refine tc_l_aload_n tc_dL_1296 1 rfl ?_
  refine tc_l_arg 0 1 (rx := []) rfl (by decide) (by omega) hL tc_dL_1297 tc_dL_1298 tc_dL_1299 tc_dL_1300 tc_dL_1301 ?_
  refine tc_l_arg 0 2 (rx := []) rfl (by decide) (by omega) hL tc_dL_1302 tc_dL_1303 tc_dL_1304 tc_dL_1305 tc_dL_1306 ?_
  refine tc_l_arg 0 3 (rx := []) rfl (by decide) (by omega) hL tc_dL_1307 tc_dL_1308 tc_dL_1309 tc_dL_1310 tc_dL_1311 ?_
  refine tc_l_arg 0 4 (rx := []) rfl (by decide) (by omega) hL tc_dL_1312 tc_dL_1313 tc_dL_1314 tc_dL_1315 tc_dL_1316 ?_
  refine tc_l_arg 0 5 (rx := []) rfl (by decide) (by omega) hL tc_dL_1317 tc_dL_1318 tc_dL_1319 tc_dL_1320 tc_dL_1321 ?_
  have c1 := tc_c6_copy (l := l) (G := G) N e1
  refine tc_l_call (As := [.int (xs (i + 1)), .int (xs (i + 2)), .int (xs (i + 3)), .int (xs (i + 4)), .int (xs (i + 5))]) (rest := []) (r1 := r) (μ1 := μ1) tc_dL_1322 tc_ok6_copy tc_wL863 ⟨Nat.le_of_ble_eq_true rfl, Nat.le_of_ble_eq_true rfl⟩ tc_s6 rfl c1 rfl rfl (Nat.le_of_ble_eq_true rfl) ?_
  refine tc_l_aload_n tc_dL_1325 2 rfl ?_
  refine tc_l_arg 0 1 (rx := []) rfl (by decide) (by omega) hL tc_dL_1326 tc_dL_1327 tc_dL_1328 tc_dL_1329 tc_dL_1330 ?_
  refine tc_l_arg 0 2 (rx := []) rfl (by decide) (by omega) hL tc_dL_1331 tc_dL_1332 tc_dL_1333 tc_dL_1334 tc_dL_1335 ?_
  refine tc_l_arg 0 3 (rx := []) rfl (by decide) (by omega) hL tc_dL_1336 tc_dL_1337 tc_dL_1338 tc_dL_1339 tc_dL_1340 ?_
  refine tc_l_arg 0 4 (rx := []) rfl (by decide) (by omega) hL tc_dL_1341 tc_dL_1342 tc_dL_1343 tc_dL_1344 tc_dL_1345 ?_
  refine tc_l_arg 0 5 (rx := []) rfl (by decide) (by omega) hL tc_dL_1346 tc_dL_1347 tc_dL_1348 tc_dL_1349 tc_dL_1350 ?_
  have c2 := tc_c7_copy (l := l) (G := G) N e2
  refine tc_l_call (As := [.int (xs (i + 1)), .int (xs (i + 2)), .int (xs (i + 3)), .int (xs (i + 4)), .int (xs (i + 5))]) (rest := [.int r]) (r1 := r) (μ1 := μ2) tc_dL_1351 tc_ok7_copy tc_wL1322 ⟨Nat.le_of_ble_eq_true rfl, Nat.le_of_ble_eq_true rfl⟩ tc_s7 rfl c2 rfl rfl (Nat.le_of_ble_eq_true rfl) ?_
  refine tc_l_eq (tgt := 1359) tc_dL_1354 (by decide) ?_
  exact K μ2 hI2
end LAWC
