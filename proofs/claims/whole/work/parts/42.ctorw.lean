theorem tc_wC57 : (Cond.initialized "TrackCircuits") ∈ tc_gw := tc_gm 57 (by decide +kernel) (by decide +kernel)
theorem tc_wC58 : (Cond.initialized "TrackCircuits$Yard") ∈ tc_gw := tc_gm 58 (by decide +kernel) (by decide +kernel)
theorem tc_wC59 : (Cond.initialized "TrackCircuits$Faults") ∈ tc_gw := tc_gm 59 (by decide +kernel) (by decide +kernel)
theorem tc_wC60 : (Cond.initialized "TrackCircuits$Asking") ∈ tc_gw := tc_gm 60 (by decide +kernel) (by decide +kernel)
theorem tc_wC61 : (Cond.initialized "TrackCircuits$Mind") ∈ tc_gw := tc_gm 61 (by decide +kernel) (by decide +kernel)
theorem tc_wC62 : (Cond.initialized "TrackCircuits$Tape") ∈ tc_gw := tc_gm 62 (by decide +kernel) (by decide +kernel)
theorem tc_wC63 : (Cond.initialized "TrackCircuits$Sheets") ∈ tc_gw := tc_gm 63 (by decide +kernel) (by decide +kernel)
theorem tc_wC64 : (Cond.initialized "TrackCircuitsModel") ∈ tc_gw := tc_gm 64 (by decide +kernel) (by decide +kernel)
theorem tc_wC75 : (Cond.instanceMethod ({ cls := "TrackCircuits", name := "<init>", desc := "()V" } : MethodName)) ∈ tc_gw := tc_gm 75 (by decide +kernel) (by decide +kernel)
theorem tc_wC76 : (Cond.code ({ cls := "TrackCircuits", name := "<init>", desc := "()V" } : MethodName) prog_1_method_1_code (1 : Nat) (Option.none : Option FieldType)) ∈ tc_gw := tc_gm 76 (by decide +kernel) (by decide +kernel)
theorem tc_wC77 : (Cond.methodLink "TrackCircuits" (3 : Nat) ({ cls := "java/lang/Object", name := "<init>", desc := "()V" } : MethodName)) ∈ tc_gw := tc_gm 77 (by decide +kernel) (by decide +kernel)
theorem tc_wC80 : (Cond.classLink "TrackCircuits" (9 : Nat) "TrackCircuits$Yard") ∈ tc_gw := tc_gm 80 (by decide +kernel) (by decide +kernel)
theorem tc_wC81 : (Cond.instantiable "TrackCircuits$Yard" (13 : Nat)) ∈ tc_gw := tc_gm 81 (by decide +kernel) (by decide +kernel)
theorem tc_wC82 : (Cond.methodLink "TrackCircuits" (11 : Nat) ({ cls := "TrackCircuits$Yard", name := "<init>", desc := "()V" } : MethodName)) ∈ tc_gw := tc_gm 82 (by decide +kernel) (by decide +kernel)
theorem tc_wC83 : (Cond.instanceMethod ({ cls := "TrackCircuits$Yard", name := "<init>", desc := "()V" } : MethodName)) ∈ tc_gw := tc_gm 83 (by decide +kernel) (by decide +kernel)
theorem tc_wC84 : (Cond.code ({ cls := "TrackCircuits$Yard", name := "<init>", desc := "()V" } : MethodName) prog_7_method_1_code (1 : Nat) (Option.none : Option FieldType)) ∈ tc_gw := tc_gm 84 (by decide +kernel) (by decide +kernel)
theorem tc_wC85 : (Cond.methodLink "TrackCircuits$Yard" (3 : Nat) ({ cls := "java/lang/Object", name := "<init>", desc := "()V" } : MethodName)) ∈ tc_gw := tc_gm 85 (by decide +kernel) (by decide +kernel)
theorem tc_wC86 : (Cond.classLink "TrackCircuits$Yard" (30 : Nat) "TrackCircuits$Faults") ∈ tc_gw := tc_gm 86 (by decide +kernel) (by decide +kernel)
theorem tc_wC87 : (Cond.instantiable "TrackCircuits$Faults" (4 : Nat)) ∈ tc_gw := tc_gm 87 (by decide +kernel) (by decide +kernel)
theorem tc_wC88 : (Cond.methodLink "TrackCircuits$Yard" (32 : Nat) ({ cls := "TrackCircuits$Faults", name := "<init>", desc := "()V" } : MethodName)) ∈ tc_gw := tc_gm 88 (by decide +kernel) (by decide +kernel)
theorem tc_wC89 : (Cond.instanceMethod ({ cls := "TrackCircuits$Faults", name := "<init>", desc := "()V" } : MethodName)) ∈ tc_gw := tc_gm 89 (by decide +kernel) (by decide +kernel)
theorem tc_wC90 : (Cond.code ({ cls := "TrackCircuits$Faults", name := "<init>", desc := "()V" } : MethodName) prog_3_method_1_code (1 : Nat) (Option.none : Option FieldType)) ∈ tc_gw := tc_gm 90 (by decide +kernel) (by decide +kernel)
theorem tc_wC91 : (Cond.methodLink "TrackCircuits$Faults" (3 : Nat) ({ cls := "java/lang/Object", name := "<init>", desc := "()V" } : MethodName)) ∈ tc_gw := tc_gm 91 (by decide +kernel) (by decide +kernel)
theorem tc_wC96 : (Cond.fieldLink "TrackCircuits$Faults" (9 : Nat) "TrackCircuits$Faults" "kinds" "[I") ∈ tc_gw := tc_gm 96 (by decide +kernel) (by decide +kernel)
theorem tc_wC98 : (Cond.fieldLink "TrackCircuits$Faults" (15 : Nat) "TrackCircuits$Faults" "places" "[I") ∈ tc_gw := tc_gm 98 (by decide +kernel) (by decide +kernel)
theorem tc_wC101 : (Cond.fieldLink "TrackCircuits$Faults" (18 : Nat) "TrackCircuits$Faults" "caught" "[I") ∈ tc_gw := tc_gm 101 (by decide +kernel) (by decide +kernel)
theorem tc_wC112 : (Cond.arrayClass FieldType.int) ∈ tc_gw := tc_gm 112 (by decide +kernel) (by decide +kernel)
theorem tc_wC117 : (Cond.fieldLink "TrackCircuits$Yard" (9 : Nat) "TrackCircuits$Yard" "kinds" "[I") ∈ tc_gw := tc_gm 117 (by decide +kernel) (by decide +kernel)
theorem tc_wC120 : (Cond.fieldLink "TrackCircuits$Yard" (15 : Nat) "TrackCircuits$Yard" "feeds" "[I") ∈ tc_gw := tc_gm 120 (by decide +kernel) (by decide +kernel)
theorem tc_wC122 : (Cond.fieldLink "TrackCircuits$Yard" (18 : Nat) "TrackCircuits$Yard" "losses" "[I") ∈ tc_gw := tc_gm 122 (by decide +kernel) (by decide +kernel)
theorem tc_wC124 : (Cond.fieldLink "TrackCircuits$Yard" (21 : Nat) "TrackCircuits$Yard" "lengths" "[I") ∈ tc_gw := tc_gm 124 (by decide +kernel) (by decide +kernel)
theorem tc_wC126 : (Cond.fieldLink "TrackCircuits$Yard" (24 : Nat) "TrackCircuits$Yard" "waits" "[I") ∈ tc_gw := tc_gm 126 (by decide +kernel) (by decide +kernel)
theorem tc_wC128 : (Cond.fieldLink "TrackCircuits$Yard" (27 : Nat) "TrackCircuits$Yard" "currents" "[I") ∈ tc_gw := tc_gm 128 (by decide +kernel) (by decide +kernel)
theorem tc_wC130 : (Cond.fieldLink "TrackCircuits$Yard" (33 : Nat) "TrackCircuits$Yard" "faults" "LTrackCircuits$Faults;") ∈ tc_gw := tc_gm 130 (by decide +kernel) (by decide +kernel)
theorem tc_wC140 : (Cond.fieldLink "TrackCircuits$Yard" (37 : Nat) "TrackCircuits$Yard" "pick" "I") ∈ tc_gw := tc_gm 140 (by decide +kernel) (by decide +kernel)
theorem tc_wC143 : (Cond.fieldLink "TrackCircuits$Yard" (41 : Nat) "TrackCircuits$Yard" "hold" "I") ∈ tc_gw := tc_gm 143 (by decide +kernel) (by decide +kernel)
theorem tc_wC144 : (Cond.fieldLink "TrackCircuits$Yard" (44 : Nat) "TrackCircuits$Yard" "weather" "I") ∈ tc_gw := tc_gm 144 (by decide +kernel) (by decide +kernel)
theorem tc_wC173 : (Cond.classLink "TrackCircuits" (19 : Nat) "TrackCircuits$Asking") ∈ tc_gw := tc_gm 173 (by decide +kernel) (by decide +kernel)
theorem tc_wC174 : (Cond.instantiable "TrackCircuits$Asking" (6 : Nat)) ∈ tc_gw := tc_gm 174 (by decide +kernel) (by decide +kernel)
theorem tc_wC175 : (Cond.methodLink "TrackCircuits" (21 : Nat) ({ cls := "TrackCircuits$Asking", name := "<init>", desc := "()V" } : MethodName)) ∈ tc_gw := tc_gm 175 (by decide +kernel) (by decide +kernel)
theorem tc_wC176 : (Cond.instanceMethod ({ cls := "TrackCircuits$Asking", name := "<init>", desc := "()V" } : MethodName)) ∈ tc_gw := tc_gm 176 (by decide +kernel) (by decide +kernel)
theorem tc_wC177 : (Cond.code ({ cls := "TrackCircuits$Asking", name := "<init>", desc := "()V" } : MethodName) prog_2_method_1_code (1 : Nat) (Option.none : Option FieldType)) ∈ tc_gw := tc_gm 177 (by decide +kernel) (by decide +kernel)
theorem tc_wC178 : (Cond.methodLink "TrackCircuits$Asking" (3 : Nat) ({ cls := "java/lang/Object", name := "<init>", desc := "()V" } : MethodName)) ∈ tc_gw := tc_gm 178 (by decide +kernel) (by decide +kernel)
theorem tc_wC179 : (Cond.fieldLink "TrackCircuits$Asking" (9 : Nat) "TrackCircuits$Asking" "changes" "[I") ∈ tc_gw := tc_gm 179 (by decide +kernel) (by decide +kernel)
theorem tc_wC184 : (Cond.fieldLink "TrackCircuits$Asking" (15 : Nat) "TrackCircuits$Asking" "queue" "[I") ∈ tc_gw := tc_gm 184 (by decide +kernel) (by decide +kernel)
theorem tc_wC201 : (Cond.classLink "TrackCircuits" (30 : Nat) "TrackCircuits$Mind") ∈ tc_gw := tc_gm 201 (by decide +kernel) (by decide +kernel)
theorem tc_wC202 : (Cond.instantiable "TrackCircuits$Mind" (3 : Nat)) ∈ tc_gw := tc_gm 202 (by decide +kernel) (by decide +kernel)
theorem tc_wC203 : (Cond.methodLink "TrackCircuits" (32 : Nat) ({ cls := "TrackCircuits$Mind", name := "<init>", desc := "(LTrackCircuits$Yard;)V" } : MethodName)) ∈ tc_gw := tc_gm 203 (by decide +kernel) (by decide +kernel)
theorem tc_wC204 : (Cond.instanceMethod ({ cls := "TrackCircuits$Mind", name := "<init>", desc := "(LTrackCircuits$Yard;)V" } : MethodName)) ∈ tc_gw := tc_gm 204 (by decide +kernel) (by decide +kernel)
theorem tc_wC205 : (Cond.code ({ cls := "TrackCircuits$Mind", name := "<init>", desc := "(LTrackCircuits$Yard;)V" } : MethodName) prog_4_method_1_code (2 : Nat) (Option.none : Option FieldType)) ∈ tc_gw := tc_gm 205 (by decide +kernel) (by decide +kernel)
theorem tc_wC206 : (Cond.methodLink "TrackCircuits$Mind" (3 : Nat) ({ cls := "java/lang/Object", name := "<init>", desc := "()V" } : MethodName)) ∈ tc_gw := tc_gm 206 (by decide +kernel) (by decide +kernel)
theorem tc_wC207 : (Cond.classLink "TrackCircuits$Mind" (15 : Nat) "TrackCircuits$Yard") ∈ tc_gw := tc_gm 207 (by decide +kernel) (by decide +kernel)
theorem tc_wC208 : (Cond.methodLink "TrackCircuits$Mind" (17 : Nat) ({ cls := "TrackCircuits$Yard", name := "<init>", desc := "()V" } : MethodName)) ∈ tc_gw := tc_gm 208 (by decide +kernel) (by decide +kernel)
theorem tc_wC209 : (Cond.classLink "TrackCircuits$Mind" (21 : Nat) "TrackCircuits$Asking") ∈ tc_gw := tc_gm 209 (by decide +kernel) (by decide +kernel)
theorem tc_wC210 : (Cond.methodLink "TrackCircuits$Mind" (23 : Nat) ({ cls := "TrackCircuits$Asking", name := "<init>", desc := "()V" } : MethodName)) ∈ tc_gw := tc_gm 210 (by decide +kernel) (by decide +kernel)
theorem tc_wC211 : (Cond.fieldLink "TrackCircuits$Mind" (9 : Nat) "TrackCircuits$Mind" "real" "LTrackCircuits$Yard;") ∈ tc_gw := tc_gm 211 (by decide +kernel) (by decide +kernel)
theorem tc_wC212 : (Cond.fieldLink "TrackCircuits$Mind" (18 : Nat) "TrackCircuits$Mind" "thought" "LTrackCircuits$Yard;") ∈ tc_gw := tc_gm 212 (by decide +kernel) (by decide +kernel)
theorem tc_wC213 : (Cond.fieldLink "TrackCircuits$Mind" (24 : Nat) "TrackCircuits$Mind" "asking" "LTrackCircuits$Asking;") ∈ tc_gw := tc_gm 213 (by decide +kernel) (by decide +kernel)
theorem tc_wC221 : (Cond.classLink "TrackCircuits" (39 : Nat) "TrackCircuits$Tape") ∈ tc_gw := tc_gm 221 (by decide +kernel) (by decide +kernel)
theorem tc_wC222 : (Cond.instantiable "TrackCircuits$Tape" (6 : Nat)) ∈ tc_gw := tc_gm 222 (by decide +kernel) (by decide +kernel)
theorem tc_wC223 : (Cond.methodLink "TrackCircuits" (41 : Nat) ({ cls := "TrackCircuits$Tape", name := "<init>", desc := "()V" } : MethodName)) ∈ tc_gw := tc_gm 223 (by decide +kernel) (by decide +kernel)
theorem tc_wC224 : (Cond.instanceMethod ({ cls := "TrackCircuits$Tape", name := "<init>", desc := "()V" } : MethodName)) ∈ tc_gw := tc_gm 224 (by decide +kernel) (by decide +kernel)
theorem tc_wC225 : (Cond.code ({ cls := "TrackCircuits$Tape", name := "<init>", desc := "()V" } : MethodName) prog_6_method_1_code (1 : Nat) (Option.none : Option FieldType)) ∈ tc_gw := tc_gm 225 (by decide +kernel) (by decide +kernel)
theorem tc_wC226 : (Cond.methodLink "TrackCircuits$Tape" (3 : Nat) ({ cls := "java/lang/Object", name := "<init>", desc := "()V" } : MethodName)) ∈ tc_gw := tc_gm 226 (by decide +kernel) (by decide +kernel)
theorem tc_wC227 : (Cond.fieldLink "TrackCircuits$Tape" (9 : Nat) "TrackCircuits$Tape" "bytes" "[I") ∈ tc_gw := tc_gm 227 (by decide +kernel) (by decide +kernel)
theorem tc_wC231 : (Cond.fieldLink "TrackCircuits$Tape" (15 : Nat) "TrackCircuits$Tape" "words" "[I") ∈ tc_gw := tc_gm 231 (by decide +kernel) (by decide +kernel)
theorem tc_wC233 : (Cond.fieldLink "TrackCircuits$Tape" (18 : Nat) "TrackCircuits$Tape" "numbers" "[I") ∈ tc_gw := tc_gm 233 (by decide +kernel) (by decide +kernel)
theorem tc_wC249 : (Cond.classLink "TrackCircuits" (46 : Nat) "TrackCircuits$Sheets") ∈ tc_gw := tc_gm 249 (by decide +kernel) (by decide +kernel)
theorem tc_wC250 : (Cond.instantiable "TrackCircuits$Sheets" (3 : Nat)) ∈ tc_gw := tc_gm 250 (by decide +kernel) (by decide +kernel)
theorem tc_wC251 : (Cond.methodLink "TrackCircuits" (48 : Nat) ({ cls := "TrackCircuits$Sheets", name := "<init>", desc := "()V" } : MethodName)) ∈ tc_gw := tc_gm 251 (by decide +kernel) (by decide +kernel)
theorem tc_wC252 : (Cond.instanceMethod ({ cls := "TrackCircuits$Sheets", name := "<init>", desc := "()V" } : MethodName)) ∈ tc_gw := tc_gm 252 (by decide +kernel) (by decide +kernel)
theorem tc_wC253 : (Cond.code ({ cls := "TrackCircuits$Sheets", name := "<init>", desc := "()V" } : MethodName) prog_5_method_1_code (2 : Nat) (Option.none : Option FieldType)) ∈ tc_gw := tc_gm 253 (by decide +kernel) (by decide +kernel)
theorem tc_wC254 : (Cond.methodLink "TrackCircuits$Sheets" (3 : Nat) ({ cls := "java/lang/Object", name := "<init>", desc := "()V" } : MethodName)) ∈ tc_gw := tc_gm 254 (by decide +kernel) (by decide +kernel)
theorem tc_wC255 : (Cond.fieldLink "TrackCircuits$Sheets" (9 : Nat) "TrackCircuits$Sheets" "sorts" "[I") ∈ tc_gw := tc_gm 255 (by decide +kernel) (by decide +kernel)
theorem tc_wC257 : (Cond.fieldLink "TrackCircuits$Sheets" (15 : Nat) "TrackCircuits$Sheets" "sizes" "[I") ∈ tc_gw := tc_gm 257 (by decide +kernel) (by decide +kernel)
theorem tc_wC260 : (Cond.fieldLink "TrackCircuits$Sheets" (18 : Nat) "TrackCircuits$Sheets" "items" "[I") ∈ tc_gw := tc_gm 260 (by decide +kernel) (by decide +kernel)
theorem tc_wC268 : (Cond.fieldLink "TrackCircuits" (12 : Nat) "TrackCircuits" "yard" "LTrackCircuits$Yard;") ∈ tc_gw := tc_gm 268 (by decide +kernel) (by decide +kernel)
theorem tc_wC269 : (Cond.fieldLink "TrackCircuits" (16 : Nat) "TrackCircuits" "kept" "LTrackCircuits$Yard;") ∈ tc_gw := tc_gm 269 (by decide +kernel) (by decide +kernel)
theorem tc_wC271 : (Cond.fieldLink "TrackCircuits" (22 : Nat) "TrackCircuits" "asking" "LTrackCircuits$Asking;") ∈ tc_gw := tc_gm 271 (by decide +kernel) (by decide +kernel)
theorem tc_wC272 : (Cond.fieldLink "TrackCircuits" (26 : Nat) "TrackCircuits" "latest" "[I") ∈ tc_gw := tc_gm 272 (by decide +kernel) (by decide +kernel)
theorem tc_wC274 : (Cond.fieldLink "TrackCircuits" (35 : Nat) "TrackCircuits" "mind" "LTrackCircuits$Mind;") ∈ tc_gw := tc_gm 274 (by decide +kernel) (by decide +kernel)
theorem tc_wC275 : (Cond.fieldLink "TrackCircuits" (42 : Nat) "TrackCircuits" "tape" "LTrackCircuits$Tape;") ∈ tc_gw := tc_gm 275 (by decide +kernel) (by decide +kernel)
theorem tc_wC276 : (Cond.fieldLink "TrackCircuits" (49 : Nat) "TrackCircuits" "sheets" "LTrackCircuits$Sheets;") ∈ tc_gw := tc_gm 276 (by decide +kernel) (by decide +kernel)
theorem tc_wC875 : (Cond.instanceMethod ({ cls := "TrackCircuitsModel", name := "<init>", desc := "()V" } : MethodName)) ∈ tc_gw := tc_gm 875 (by decide +kernel) (by decide +kernel)
theorem tc_wC876 : (Cond.code ({ cls := "TrackCircuitsModel", name := "<init>", desc := "()V" } : MethodName) prog_9_method_1_code (1 : Nat) (Option.none : Option FieldType)) ∈ tc_gw := tc_gm 876 (by decide +kernel) (by decide +kernel)
theorem tc_wC877 : (Cond.methodLink "TrackCircuitsModel" (1 : Nat) ({ cls := "java/lang/Object", name := "<init>", desc := "()V" } : MethodName)) ∈ tc_gw := tc_gm 877 (by decide +kernel) (by decide +kernel)
theorem tc_wC879 : (Cond.fieldLink "TrackCircuitsModel" (7 : Nat) "TrackCircuitsModel" "kind" "[I") ∈ tc_gw := tc_gm 879 (by decide +kernel) (by decide +kernel)
theorem tc_wC880 : (Cond.fieldLink "TrackCircuitsModel" (13 : Nat) "TrackCircuitsModel" "feed" "[I") ∈ tc_gw := tc_gm 880 (by decide +kernel) (by decide +kernel)
theorem tc_wC881 : (Cond.fieldLink "TrackCircuitsModel" (16 : Nat) "TrackCircuitsModel" "loss" "[I") ∈ tc_gw := tc_gm 881 (by decide +kernel) (by decide +kernel)
theorem tc_wC882 : (Cond.fieldLink "TrackCircuitsModel" (19 : Nat) "TrackCircuitsModel" "length" "[I") ∈ tc_gw := tc_gm 882 (by decide +kernel) (by decide +kernel)
theorem tc_wC883 : (Cond.fieldLink "TrackCircuitsModel" (22 : Nat) "TrackCircuitsModel" "waits" "[I") ∈ tc_gw := tc_gm 883 (by decide +kernel) (by decide +kernel)
theorem tc_wC884 : (Cond.fieldLink "TrackCircuitsModel" (25 : Nat) "TrackCircuitsModel" "up" "[Z") ∈ tc_gw := tc_gm 884 (by decide +kernel) (by decide +kernel)
theorem tc_wC885 : (Cond.fieldLink "TrackCircuitsModel" (29 : Nat) "TrackCircuitsModel" "train" "[Z") ∈ tc_gw := tc_gm 885 (by decide +kernel) (by decide +kernel)
theorem tc_wC886 : (Cond.fieldLink "TrackCircuitsModel" (32 : Nat) "TrackCircuitsModel" "rule" "[I") ∈ tc_gw := tc_gm 886 (by decide +kernel) (by decide +kernel)
theorem tc_wC888 : (Cond.fieldLink "TrackCircuitsModel" (35 : Nat) "TrackCircuitsModel" "faultKind" "[I") ∈ tc_gw := tc_gm 888 (by decide +kernel) (by decide +kernel)
theorem tc_wC889 : (Cond.fieldLink "TrackCircuitsModel" (38 : Nat) "TrackCircuitsModel" "faultAt" "[I") ∈ tc_gw := tc_gm 889 (by decide +kernel) (by decide +kernel)
theorem tc_wC890 : (Cond.fieldLink "TrackCircuitsModel" (41 : Nat) "TrackCircuitsModel" "caught" "[I") ∈ tc_gw := tc_gm 890 (by decide +kernel) (by decide +kernel)
theorem tc_wC891 : (Cond.fieldLink "TrackCircuitsModel" (44 : Nat) "TrackCircuitsModel" "without" "I") ∈ tc_gw := tc_gm 891 (by decide +kernel) (by decide +kernel)
theorem tc_wC893 : (Cond.fieldLink "TrackCircuitsModel" (48 : Nat) "TrackCircuitsModel" "log" "[I") ∈ tc_gw := tc_gm 893 (by decide +kernel) (by decide +kernel)
theorem tc_wC894 : (Cond.fieldLink "TrackCircuitsModel" (51 : Nat) "TrackCircuitsModel" "tape" "[I") ∈ tc_gw := tc_gm 894 (by decide +kernel) (by decide +kernel)
theorem tc_wC896 : (Cond.fieldLink "TrackCircuitsModel" (54 : Nat) "TrackCircuitsModel" "sort" "[I") ∈ tc_gw := tc_gm 896 (by decide +kernel) (by decide +kernel)
theorem tc_wC897 : (Cond.fieldLink "TrackCircuitsModel" (57 : Nat) "TrackCircuitsModel" "size" "[I") ∈ tc_gw := tc_gm 897 (by decide +kernel) (by decide +kernel)
theorem tc_wC898 : (Cond.fieldLink "TrackCircuitsModel" (60 : Nat) "TrackCircuitsModel" "cell" "[I") ∈ tc_gw := tc_gm 898 (by decide +kernel) (by decide +kernel)
theorem tc_wC899 : (Cond.fieldLink "TrackCircuitsModel" (63 : Nat) "TrackCircuitsModel" "between" "[I") ∈ tc_gw := tc_gm 899 (by decide +kernel) (by decide +kernel)
theorem tc_wC900 : (Cond.fieldLink "TrackCircuitsModel" (66 : Nat) "TrackCircuitsModel" "queue" "[I") ∈ tc_gw := tc_gm 900 (by decide +kernel) (by decide +kernel)
theorem tc_wC901 : (Cond.fieldLink "TrackCircuitsModel" (69 : Nat) "TrackCircuitsModel" "queued" "[Z") ∈ tc_gw := tc_gm 901 (by decide +kernel) (by decide +kernel)
theorem tc_wC904 : (Cond.fieldLink "TrackCircuitsModel" (72 : Nat) "TrackCircuitsModel" "ahead" "[Z") ∈ tc_gw := tc_gm 904 (by decide +kernel) (by decide +kernel)
theorem tc_wC905 : (Cond.fieldLink "TrackCircuitsModel" (75 : Nat) "TrackCircuitsModel" "changed" "[I") ∈ tc_gw := tc_gm 905 (by decide +kernel) (by decide +kernel)
theorem tc_wC906 : (Cond.fieldLink "TrackCircuitsModel" (78 : Nat) "TrackCircuitsModel" "keptUp" "[Z") ∈ tc_gw := tc_gm 906 (by decide +kernel) (by decide +kernel)
theorem tc_wC907 : (Cond.fieldLink "TrackCircuitsModel" (81 : Nat) "TrackCircuitsModel" "keptTrain" "[Z") ∈ tc_gw := tc_gm 907 (by decide +kernel) (by decide +kernel)
theorem tc_wC908 : (Cond.fieldLink "TrackCircuitsModel" (84 : Nat) "TrackCircuitsModel" "keptWaits" "[I") ∈ tc_gw := tc_gm 908 (by decide +kernel) (by decide +kernel)
theorem tc_wC914 : (Cond.fieldLink "TrackCircuitsModel" (87 : Nat) "TrackCircuitsModel" "told" "[I") ∈ tc_gw := tc_gm 914 (by decide +kernel) (by decide +kernel)
theorem tc_wC916 : (Cond.fieldLink "TrackCircuitsModel" (90 : Nat) "TrackCircuitsModel" "imaged" "[I") ∈ tc_gw := tc_gm 916 (by decide +kernel) (by decide +kernel)
theorem tc_wC996 : (Cond.arrayClass FieldType.boolean) ∈ tc_gw := tc_gm 996 (by decide +kernel) (by decide +kernel)
def tc_i0_init : tc_MI := (⟨"TrackCircuits$Asking", "<init>", "()V"⟩, prog_2_method_1_code, 1, none, { frames := 1, cells := 2, slots := 48, locals := 20 })
theorem tc_okI0 : tc_OkI ⟨"TrackCircuits$Asking", "<init>", "()V"⟩ prog_2_method_1_code 1 0 := ⟨tc_wC177, tc_wC60, ⟨by decide, by decide, by decide +kernel⟩, rfl, tc_wC176⟩
theorem tc_d0_init_0 : decode tc_i0_init.2.1 0 = .ok (.aload_n 0, 1) := by decide +kernel
theorem tc_d0_init_1 : decode tc_i0_init.2.1 1 = .ok (.invokespecial 3, 3) := by decide +kernel
theorem tc_d0_init_4 : decode tc_i0_init.2.1 4 = .ok (.aload_n 0, 1) := by decide +kernel
theorem tc_d0_init_5 : decode tc_i0_init.2.1 5 = .ok (.bipush 40, 2) := by decide +kernel
theorem tc_d0_init_7 : decode tc_i0_init.2.1 7 = .ok (.newarray .int, 2) := by decide +kernel
theorem tc_d0_init_9 : decode tc_i0_init.2.1 9 = .ok (.putfield 9, 3) := by decide +kernel
theorem tc_d0_init_12 : decode tc_i0_init.2.1 12 = .ok (.aload_n 0, 1) := by decide +kernel
theorem tc_d0_init_13 : decode tc_i0_init.2.1 13 = .ok (.bipush 8, 2) := by decide +kernel
theorem tc_d0_init_15 : decode tc_i0_init.2.1 15 = .ok (.newarray .int, 2) := by decide +kernel
theorem tc_d0_init_17 : decode tc_i0_init.2.1 17 = .ok (.putfield 15, 3) := by decide +kernel
theorem tc_d0_init_20 : decode tc_i0_init.2.1 20 = .ok (.return_, 1) := by decide +kernel
def tc_i1_init : tc_MI := (⟨"TrackCircuits$Faults", "<init>", "()V"⟩, prog_3_method_1_code, 1, none, { frames := 1, cells := 3, slots := 45, locals := 20 })
theorem tc_okI1 : tc_OkI ⟨"TrackCircuits$Faults", "<init>", "()V"⟩ prog_3_method_1_code 1 0 := ⟨tc_wC90, tc_wC59, ⟨by decide, by decide, by decide +kernel⟩, rfl, tc_wC89⟩
theorem tc_d1_init_0 : decode tc_i1_init.2.1 0 = .ok (.aload_n 0, 1) := by decide +kernel
theorem tc_d1_init_1 : decode tc_i1_init.2.1 1 = .ok (.invokespecial 3, 3) := by decide +kernel
theorem tc_d1_init_4 : decode tc_i1_init.2.1 4 = .ok (.aload_n 0, 1) := by decide +kernel
theorem tc_d1_init_5 : decode tc_i1_init.2.1 5 = .ok (.bipush 15, 2) := by decide +kernel
theorem tc_d1_init_7 : decode tc_i1_init.2.1 7 = .ok (.newarray .int, 2) := by decide +kernel
theorem tc_d1_init_9 : decode tc_i1_init.2.1 9 = .ok (.putfield 9, 3) := by decide +kernel
theorem tc_d1_init_12 : decode tc_i1_init.2.1 12 = .ok (.aload_n 0, 1) := by decide +kernel
theorem tc_d1_init_13 : decode tc_i1_init.2.1 13 = .ok (.bipush 15, 2) := by decide +kernel
theorem tc_d1_init_15 : decode tc_i1_init.2.1 15 = .ok (.newarray .int, 2) := by decide +kernel
theorem tc_d1_init_17 : decode tc_i1_init.2.1 17 = .ok (.putfield 15, 3) := by decide +kernel
theorem tc_d1_init_20 : decode tc_i1_init.2.1 20 = .ok (.aload_n 0, 1) := by decide +kernel
theorem tc_d1_init_21 : decode tc_i1_init.2.1 21 = .ok (.bipush 15, 2) := by decide +kernel
theorem tc_d1_init_23 : decode tc_i1_init.2.1 23 = .ok (.newarray .int, 2) := by decide +kernel
theorem tc_d1_init_25 : decode tc_i1_init.2.1 25 = .ok (.putfield 18, 3) := by decide +kernel
theorem tc_d1_init_28 : decode tc_i1_init.2.1 28 = .ok (.return_, 1) := by decide +kernel
def tc_i4_init : tc_MI := (⟨"TrackCircuits$Tape", "<init>", "()V"⟩, prog_6_method_1_code, 1, none, { frames := 1, cells := 3, slots := 135, locals := 20 })
theorem tc_okI4 : tc_OkI ⟨"TrackCircuits$Tape", "<init>", "()V"⟩ prog_6_method_1_code 1 0 := ⟨tc_wC225, tc_wC62, ⟨by decide, by decide, by decide +kernel⟩, rfl, tc_wC224⟩
theorem tc_d4_init_0 : decode tc_i4_init.2.1 0 = .ok (.aload_n 0, 1) := by decide +kernel
theorem tc_d4_init_1 : decode tc_i4_init.2.1 1 = .ok (.invokespecial 3, 3) := by decide +kernel
theorem tc_d4_init_4 : decode tc_i4_init.2.1 4 = .ok (.aload_n 0, 1) := by decide +kernel
theorem tc_d4_init_5 : decode tc_i4_init.2.1 5 = .ok (.bipush 60, 2) := by decide +kernel
theorem tc_d4_init_7 : decode tc_i4_init.2.1 7 = .ok (.newarray .int, 2) := by decide +kernel
theorem tc_d4_init_9 : decode tc_i4_init.2.1 9 = .ok (.putfield 9, 3) := by decide +kernel
theorem tc_d4_init_12 : decode tc_i4_init.2.1 12 = .ok (.aload_n 0, 1) := by decide +kernel
theorem tc_d4_init_13 : decode tc_i4_init.2.1 13 = .ok (.bipush 15, 2) := by decide +kernel
theorem tc_d4_init_15 : decode tc_i4_init.2.1 15 = .ok (.newarray .int, 2) := by decide +kernel
theorem tc_d4_init_17 : decode tc_i4_init.2.1 17 = .ok (.putfield 15, 3) := by decide +kernel
theorem tc_d4_init_20 : decode tc_i4_init.2.1 20 = .ok (.aload_n 0, 1) := by decide +kernel
theorem tc_d4_init_21 : decode tc_i4_init.2.1 21 = .ok (.bipush 60, 2) := by decide +kernel
theorem tc_d4_init_23 : decode tc_i4_init.2.1 23 = .ok (.newarray .int, 2) := by decide +kernel
theorem tc_d4_init_25 : decode tc_i4_init.2.1 25 = .ok (.putfield 18, 3) := by decide +kernel
theorem tc_d4_init_28 : decode tc_i4_init.2.1 28 = .ok (.return_, 1) := by decide +kernel
def tc_i3_init : tc_MI := (⟨"TrackCircuits$Sheets", "<init>", "()V"⟩, prog_5_method_1_code, 2, none, { frames := 1, cells := 3, slots := 168, locals := 20 })
theorem tc_okI3 : tc_OkI ⟨"TrackCircuits$Sheets", "<init>", "()V"⟩ prog_5_method_1_code 2 0 := ⟨tc_wC253, tc_wC63, ⟨by decide, by decide, by decide +kernel⟩, rfl, tc_wC252⟩
theorem tc_d3_init_0 : decode tc_i3_init.2.1 0 = .ok (.aload_n 0, 1) := by decide +kernel
theorem tc_d3_init_1 : decode tc_i3_init.2.1 1 = .ok (.invokespecial 3, 3) := by decide +kernel
theorem tc_d3_init_4 : decode tc_i3_init.2.1 4 = .ok (.aload_n 0, 1) := by decide +kernel
theorem tc_d3_init_5 : decode tc_i3_init.2.1 5 = .ok (.iconst 4, 1) := by decide +kernel
theorem tc_d3_init_6 : decode tc_i3_init.2.1 6 = .ok (.newarray .int, 2) := by decide +kernel
theorem tc_d3_init_8 : decode tc_i3_init.2.1 8 = .ok (.putfield 9, 3) := by decide +kernel
theorem tc_d3_init_11 : decode tc_i3_init.2.1 11 = .ok (.aload_n 0, 1) := by decide +kernel
theorem tc_d3_init_12 : decode tc_i3_init.2.1 12 = .ok (.iconst 4, 1) := by decide +kernel
theorem tc_d3_init_13 : decode tc_i3_init.2.1 13 = .ok (.newarray .int, 2) := by decide +kernel
theorem tc_d3_init_15 : decode tc_i3_init.2.1 15 = .ok (.putfield 15, 3) := by decide +kernel
theorem tc_d3_init_18 : decode tc_i3_init.2.1 18 = .ok (.aload_n 0, 1) := by decide +kernel
theorem tc_d3_init_19 : decode tc_i3_init.2.1 19 = .ok (.sipush 160, 3) := by decide +kernel
theorem tc_d3_init_22 : decode tc_i3_init.2.1 22 = .ok (.newarray .int, 2) := by decide +kernel
theorem tc_d3_init_24 : decode tc_i3_init.2.1 24 = .ok (.putfield 18, 3) := by decide +kernel
theorem tc_d3_init_27 : decode tc_i3_init.2.1 27 = .ok (.iconst 0, 1) := by decide +kernel
theorem tc_d3_init_28 : decode tc_i3_init.2.1 28 = .ok (.istore_n 1, 1) := by decide +kernel
theorem tc_d3_init_29 : decode tc_i3_init.2.1 29 = .ok (.iload_n 1, 1) := by decide +kernel
theorem tc_d3_init_30 : decode tc_i3_init.2.1 30 = .ok (.iconst 4, 1) := by decide +kernel
theorem tc_d3_init_31 : decode tc_i3_init.2.1 31 = .ok (.if_icmp .ge 16, 3) := by decide +kernel
theorem tc_d3_init_34 : decode tc_i3_init.2.1 34 = .ok (.aload_n 0, 1) := by decide +kernel
theorem tc_d3_init_35 : decode tc_i3_init.2.1 35 = .ok (.getfield 9, 3) := by decide +kernel
theorem tc_d3_init_38 : decode tc_i3_init.2.1 38 = .ok (.iload_n 1, 1) := by decide +kernel
theorem tc_d3_init_39 : decode tc_i3_init.2.1 39 = .ok (.iconst (-1), 1) := by decide +kernel
theorem tc_d3_init_40 : decode tc_i3_init.2.1 40 = .ok (.iastore, 1) := by decide +kernel
theorem tc_d3_init_41 : decode tc_i3_init.2.1 41 = .ok (.iinc 1 1, 3) := by decide +kernel
theorem tc_d3_init_44 : decode tc_i3_init.2.1 44 = .ok (.goto (-15), 3) := by decide +kernel
theorem tc_d3_init_47 : decode tc_i3_init.2.1 47 = .ok (.return_, 1) := by decide +kernel
def tc_i5_init : tc_MI := (⟨"TrackCircuits$Yard", "<init>", "()V"⟩, prog_7_method_1_code, 1, none, { frames := 2, cells := 10, slots := 97, locals := 40 })
theorem tc_okI5 : tc_OkI ⟨"TrackCircuits$Yard", "<init>", "()V"⟩ prog_7_method_1_code 1 0 := ⟨tc_wC84, tc_wC58, ⟨by decide, by decide, by decide +kernel⟩, rfl, tc_wC83⟩
theorem tc_d5_init_0 : decode tc_i5_init.2.1 0 = .ok (.aload_n 0, 1) := by decide +kernel
theorem tc_d5_init_1 : decode tc_i5_init.2.1 1 = .ok (.invokespecial 3, 3) := by decide +kernel
theorem tc_d5_init_4 : decode tc_i5_init.2.1 4 = .ok (.aload_n 0, 1) := by decide +kernel
theorem tc_d5_init_5 : decode tc_i5_init.2.1 5 = .ok (.bipush 8, 2) := by decide +kernel
theorem tc_d5_init_7 : decode tc_i5_init.2.1 7 = .ok (.newarray .int, 2) := by decide +kernel
theorem tc_d5_init_9 : decode tc_i5_init.2.1 9 = .ok (.putfield 9, 3) := by decide +kernel
theorem tc_d5_init_12 : decode tc_i5_init.2.1 12 = .ok (.aload_n 0, 1) := by decide +kernel
theorem tc_d5_init_13 : decode tc_i5_init.2.1 13 = .ok (.bipush 8, 2) := by decide +kernel
theorem tc_d5_init_15 : decode tc_i5_init.2.1 15 = .ok (.newarray .int, 2) := by decide +kernel
theorem tc_d5_init_17 : decode tc_i5_init.2.1 17 = .ok (.putfield 15, 3) := by decide +kernel
theorem tc_d5_init_20 : decode tc_i5_init.2.1 20 = .ok (.aload_n 0, 1) := by decide +kernel
theorem tc_d5_init_21 : decode tc_i5_init.2.1 21 = .ok (.bipush 8, 2) := by decide +kernel
theorem tc_d5_init_23 : decode tc_i5_init.2.1 23 = .ok (.newarray .int, 2) := by decide +kernel
theorem tc_d5_init_25 : decode tc_i5_init.2.1 25 = .ok (.putfield 18, 3) := by decide +kernel
theorem tc_d5_init_28 : decode tc_i5_init.2.1 28 = .ok (.aload_n 0, 1) := by decide +kernel
theorem tc_d5_init_29 : decode tc_i5_init.2.1 29 = .ok (.bipush 8, 2) := by decide +kernel
theorem tc_d5_init_31 : decode tc_i5_init.2.1 31 = .ok (.newarray .int, 2) := by decide +kernel
theorem tc_d5_init_33 : decode tc_i5_init.2.1 33 = .ok (.putfield 21, 3) := by decide +kernel
theorem tc_d5_init_36 : decode tc_i5_init.2.1 36 = .ok (.aload_n 0, 1) := by decide +kernel
theorem tc_d5_init_37 : decode tc_i5_init.2.1 37 = .ok (.bipush 8, 2) := by decide +kernel
theorem tc_d5_init_39 : decode tc_i5_init.2.1 39 = .ok (.newarray .int, 2) := by decide +kernel
theorem tc_d5_init_41 : decode tc_i5_init.2.1 41 = .ok (.putfield 24, 3) := by decide +kernel
theorem tc_d5_init_44 : decode tc_i5_init.2.1 44 = .ok (.aload_n 0, 1) := by decide +kernel
theorem tc_d5_init_45 : decode tc_i5_init.2.1 45 = .ok (.bipush 8, 2) := by decide +kernel
theorem tc_d5_init_47 : decode tc_i5_init.2.1 47 = .ok (.newarray .int, 2) := by decide +kernel
theorem tc_d5_init_49 : decode tc_i5_init.2.1 49 = .ok (.putfield 27, 3) := by decide +kernel
theorem tc_d5_init_52 : decode tc_i5_init.2.1 52 = .ok (.aload_n 0, 1) := by decide +kernel
theorem tc_d5_init_53 : decode tc_i5_init.2.1 53 = .ok (.new 30, 3) := by decide +kernel
theorem tc_d5_init_56 : decode tc_i5_init.2.1 56 = .ok (.dup, 1) := by decide +kernel
theorem tc_d5_init_57 : decode tc_i5_init.2.1 57 = .ok (.invokespecial 32, 3) := by decide +kernel
theorem tc_d5_init_60 : decode tc_i5_init.2.1 60 = .ok (.putfield 33, 3) := by decide +kernel
theorem tc_d5_init_63 : decode tc_i5_init.2.1 63 = .ok (.aload_n 0, 1) := by decide +kernel
theorem tc_d5_init_64 : decode tc_i5_init.2.1 64 = .ok (.bipush 20, 2) := by decide +kernel
theorem tc_d5_init_66 : decode tc_i5_init.2.1 66 = .ok (.putfield 37, 3) := by decide +kernel
theorem tc_d5_init_69 : decode tc_i5_init.2.1 69 = .ok (.aload_n 0, 1) := by decide +kernel
theorem tc_d5_init_70 : decode tc_i5_init.2.1 70 = .ok (.bipush 10, 2) := by decide +kernel
theorem tc_d5_init_72 : decode tc_i5_init.2.1 72 = .ok (.putfield 41, 3) := by decide +kernel
theorem tc_d5_init_75 : decode tc_i5_init.2.1 75 = .ok (.aload_n 0, 1) := by decide +kernel
theorem tc_d5_init_76 : decode tc_i5_init.2.1 76 = .ok (.iconst 1, 1) := by decide +kernel
theorem tc_d5_init_77 : decode tc_i5_init.2.1 77 = .ok (.putfield 44, 3) := by decide +kernel
theorem tc_d5_init_80 : decode tc_i5_init.2.1 80 = .ok (.return_, 1) := by decide +kernel
def tc_i2_init : tc_MI := (⟨"TrackCircuits$Mind", "<init>", "(LTrackCircuits$Yard;)V"⟩, prog_4_method_1_code, 2, none, { frames := 3, cells := 14, slots := 164, locals := 60 })
theorem tc_okI2 : tc_OkI ⟨"TrackCircuits$Mind", "<init>", "(LTrackCircuits$Yard;)V"⟩ prog_4_method_1_code 2 1 := ⟨tc_wC205, tc_wC61, ⟨by decide, by decide, by decide +kernel⟩, rfl, tc_wC204⟩
theorem tc_d2_init_0 : decode tc_i2_init.2.1 0 = .ok (.aload_n 0, 1) := by decide +kernel
theorem tc_d2_init_1 : decode tc_i2_init.2.1 1 = .ok (.invokespecial 3, 3) := by decide +kernel
theorem tc_d2_init_4 : decode tc_i2_init.2.1 4 = .ok (.aload_n 0, 1) := by decide +kernel
theorem tc_d2_init_5 : decode tc_i2_init.2.1 5 = .ok (.aload_n 1, 1) := by decide +kernel
theorem tc_d2_init_6 : decode tc_i2_init.2.1 6 = .ok (.putfield 9, 3) := by decide +kernel
theorem tc_d2_init_9 : decode tc_i2_init.2.1 9 = .ok (.aload_n 0, 1) := by decide +kernel
theorem tc_d2_init_10 : decode tc_i2_init.2.1 10 = .ok (.new 15, 3) := by decide +kernel
theorem tc_d2_init_13 : decode tc_i2_init.2.1 13 = .ok (.dup, 1) := by decide +kernel
theorem tc_d2_init_14 : decode tc_i2_init.2.1 14 = .ok (.invokespecial 17, 3) := by decide +kernel
theorem tc_d2_init_17 : decode tc_i2_init.2.1 17 = .ok (.putfield 18, 3) := by decide +kernel
theorem tc_d2_init_20 : decode tc_i2_init.2.1 20 = .ok (.aload_n 0, 1) := by decide +kernel
theorem tc_d2_init_21 : decode tc_i2_init.2.1 21 = .ok (.new 21, 3) := by decide +kernel
theorem tc_d2_init_24 : decode tc_i2_init.2.1 24 = .ok (.dup, 1) := by decide +kernel
theorem tc_d2_init_25 : decode tc_i2_init.2.1 25 = .ok (.invokespecial 23, 3) := by decide +kernel
theorem tc_d2_init_28 : decode tc_i2_init.2.1 28 = .ok (.putfield 24, 3) := by decide +kernel
theorem tc_d2_init_31 : decode tc_i2_init.2.1 31 = .ok (.return_, 1) := by decide +kernel
def tc_i6_init : tc_MI := (⟨"TrackCircuits", "<init>", "()V"⟩, prog_1_method_1_code, 1, none, { frames := 4, cells := 49, slots := 793, locals := 81 })
theorem tc_okI6 : tc_OkI ⟨"TrackCircuits", "<init>", "()V"⟩ prog_1_method_1_code 1 0 := ⟨tc_wC76, tc_wC57, ⟨by decide, by decide, by decide +kernel⟩, rfl, tc_wC75⟩
theorem tc_d6_init_0 : decode tc_i6_init.2.1 0 = .ok (.aload_n 0, 1) := by decide +kernel
theorem tc_d6_init_1 : decode tc_i6_init.2.1 1 = .ok (.invokespecial 3, 3) := by decide +kernel
theorem tc_d6_init_4 : decode tc_i6_init.2.1 4 = .ok (.aload_n 0, 1) := by decide +kernel
theorem tc_d6_init_5 : decode tc_i6_init.2.1 5 = .ok (.new 9, 3) := by decide +kernel
theorem tc_d6_init_8 : decode tc_i6_init.2.1 8 = .ok (.dup, 1) := by decide +kernel
theorem tc_d6_init_9 : decode tc_i6_init.2.1 9 = .ok (.invokespecial 11, 3) := by decide +kernel
theorem tc_d6_init_12 : decode tc_i6_init.2.1 12 = .ok (.putfield 12, 3) := by decide +kernel
theorem tc_d6_init_15 : decode tc_i6_init.2.1 15 = .ok (.aload_n 0, 1) := by decide +kernel
theorem tc_d6_init_16 : decode tc_i6_init.2.1 16 = .ok (.new 9, 3) := by decide +kernel
theorem tc_d6_init_19 : decode tc_i6_init.2.1 19 = .ok (.dup, 1) := by decide +kernel
theorem tc_d6_init_20 : decode tc_i6_init.2.1 20 = .ok (.invokespecial 11, 3) := by decide +kernel
theorem tc_d6_init_23 : decode tc_i6_init.2.1 23 = .ok (.putfield 16, 3) := by decide +kernel
theorem tc_d6_init_26 : decode tc_i6_init.2.1 26 = .ok (.aload_n 0, 1) := by decide +kernel
theorem tc_d6_init_27 : decode tc_i6_init.2.1 27 = .ok (.new 19, 3) := by decide +kernel
theorem tc_d6_init_30 : decode tc_i6_init.2.1 30 = .ok (.dup, 1) := by decide +kernel
theorem tc_d6_init_31 : decode tc_i6_init.2.1 31 = .ok (.invokespecial 21, 3) := by decide +kernel
theorem tc_d6_init_34 : decode tc_i6_init.2.1 34 = .ok (.putfield 22, 3) := by decide +kernel
theorem tc_d6_init_37 : decode tc_i6_init.2.1 37 = .ok (.aload_n 0, 1) := by decide +kernel
theorem tc_d6_init_38 : decode tc_i6_init.2.1 38 = .ok (.bipush 40, 2) := by decide +kernel
theorem tc_d6_init_40 : decode tc_i6_init.2.1 40 = .ok (.newarray .int, 2) := by decide +kernel
theorem tc_d6_init_42 : decode tc_i6_init.2.1 42 = .ok (.putfield 26, 3) := by decide +kernel
theorem tc_d6_init_45 : decode tc_i6_init.2.1 45 = .ok (.aload_n 0, 1) := by decide +kernel
theorem tc_d6_init_46 : decode tc_i6_init.2.1 46 = .ok (.new 30, 3) := by decide +kernel
theorem tc_d6_init_49 : decode tc_i6_init.2.1 49 = .ok (.dup, 1) := by decide +kernel
theorem tc_d6_init_50 : decode tc_i6_init.2.1 50 = .ok (.aload_n 0, 1) := by decide +kernel
theorem tc_d6_init_51 : decode tc_i6_init.2.1 51 = .ok (.getfield 12, 3) := by decide +kernel
theorem tc_d6_init_54 : decode tc_i6_init.2.1 54 = .ok (.invokespecial 32, 3) := by decide +kernel
theorem tc_d6_init_57 : decode tc_i6_init.2.1 57 = .ok (.putfield 35, 3) := by decide +kernel
theorem tc_d6_init_60 : decode tc_i6_init.2.1 60 = .ok (.aload_n 0, 1) := by decide +kernel
theorem tc_d6_init_61 : decode tc_i6_init.2.1 61 = .ok (.new 39, 3) := by decide +kernel
theorem tc_d6_init_64 : decode tc_i6_init.2.1 64 = .ok (.dup, 1) := by decide +kernel
theorem tc_d6_init_65 : decode tc_i6_init.2.1 65 = .ok (.invokespecial 41, 3) := by decide +kernel
theorem tc_d6_init_68 : decode tc_i6_init.2.1 68 = .ok (.putfield 42, 3) := by decide +kernel
theorem tc_d6_init_71 : decode tc_i6_init.2.1 71 = .ok (.aload_n 0, 1) := by decide +kernel
theorem tc_d6_init_72 : decode tc_i6_init.2.1 72 = .ok (.new 46, 3) := by decide +kernel
theorem tc_d6_init_75 : decode tc_i6_init.2.1 75 = .ok (.dup, 1) := by decide +kernel
theorem tc_d6_init_76 : decode tc_i6_init.2.1 76 = .ok (.invokespecial 48, 3) := by decide +kernel
theorem tc_d6_init_79 : decode tc_i6_init.2.1 79 = .ok (.putfield 49, 3) := by decide +kernel
theorem tc_d6_init_82 : decode tc_i6_init.2.1 82 = .ok (.return_, 1) := by decide +kernel
def tc_i7_init : tc_MI := (⟨"TrackCircuitsModel", "<init>", "()V"⟩, prog_9_method_1_code, 1, none, { frames := 1, cells := 26, slots := 609, locals := 20 })
theorem tc_okI7 : tc_OkI ⟨"TrackCircuitsModel", "<init>", "()V"⟩ prog_9_method_1_code 1 0 := ⟨tc_wC876, tc_wC64, ⟨by decide, by decide, by decide +kernel⟩, rfl, tc_wC875⟩
theorem tc_d7_init_0 : decode tc_i7_init.2.1 0 = .ok (.aload_n 0, 1) := by decide +kernel
theorem tc_d7_init_1 : decode tc_i7_init.2.1 1 = .ok (.invokespecial 1, 3) := by decide +kernel
theorem tc_d7_init_4 : decode tc_i7_init.2.1 4 = .ok (.aload_n 0, 1) := by decide +kernel
theorem tc_d7_init_5 : decode tc_i7_init.2.1 5 = .ok (.bipush 8, 2) := by decide +kernel
theorem tc_d7_init_7 : decode tc_i7_init.2.1 7 = .ok (.newarray .int, 2) := by decide +kernel
theorem tc_d7_init_9 : decode tc_i7_init.2.1 9 = .ok (.putfield 7, 3) := by decide +kernel
theorem tc_d7_init_12 : decode tc_i7_init.2.1 12 = .ok (.aload_n 0, 1) := by decide +kernel
theorem tc_d7_init_13 : decode tc_i7_init.2.1 13 = .ok (.bipush 8, 2) := by decide +kernel
theorem tc_d7_init_15 : decode tc_i7_init.2.1 15 = .ok (.newarray .int, 2) := by decide +kernel
theorem tc_d7_init_17 : decode tc_i7_init.2.1 17 = .ok (.putfield 13, 3) := by decide +kernel
theorem tc_d7_init_20 : decode tc_i7_init.2.1 20 = .ok (.aload_n 0, 1) := by decide +kernel
theorem tc_d7_init_21 : decode tc_i7_init.2.1 21 = .ok (.bipush 8, 2) := by decide +kernel
theorem tc_d7_init_23 : decode tc_i7_init.2.1 23 = .ok (.newarray .int, 2) := by decide +kernel
theorem tc_d7_init_25 : decode tc_i7_init.2.1 25 = .ok (.putfield 16, 3) := by decide +kernel
theorem tc_d7_init_28 : decode tc_i7_init.2.1 28 = .ok (.aload_n 0, 1) := by decide +kernel
theorem tc_d7_init_29 : decode tc_i7_init.2.1 29 = .ok (.bipush 8, 2) := by decide +kernel
theorem tc_d7_init_31 : decode tc_i7_init.2.1 31 = .ok (.newarray .int, 2) := by decide +kernel
theorem tc_d7_init_33 : decode tc_i7_init.2.1 33 = .ok (.putfield 19, 3) := by decide +kernel
theorem tc_d7_init_36 : decode tc_i7_init.2.1 36 = .ok (.aload_n 0, 1) := by decide +kernel
theorem tc_d7_init_37 : decode tc_i7_init.2.1 37 = .ok (.bipush 8, 2) := by decide +kernel
theorem tc_d7_init_39 : decode tc_i7_init.2.1 39 = .ok (.newarray .int, 2) := by decide +kernel
theorem tc_d7_init_41 : decode tc_i7_init.2.1 41 = .ok (.putfield 22, 3) := by decide +kernel
theorem tc_d7_init_44 : decode tc_i7_init.2.1 44 = .ok (.aload_n 0, 1) := by decide +kernel
theorem tc_d7_init_45 : decode tc_i7_init.2.1 45 = .ok (.bipush 8, 2) := by decide +kernel
theorem tc_d7_init_47 : decode tc_i7_init.2.1 47 = .ok (.newarray .boolean, 2) := by decide +kernel
theorem tc_d7_init_49 : decode tc_i7_init.2.1 49 = .ok (.putfield 25, 3) := by decide +kernel
theorem tc_d7_init_52 : decode tc_i7_init.2.1 52 = .ok (.aload_n 0, 1) := by decide +kernel
theorem tc_d7_init_53 : decode tc_i7_init.2.1 53 = .ok (.bipush 8, 2) := by decide +kernel
theorem tc_d7_init_55 : decode tc_i7_init.2.1 55 = .ok (.newarray .boolean, 2) := by decide +kernel
theorem tc_d7_init_57 : decode tc_i7_init.2.1 57 = .ok (.putfield 29, 3) := by decide +kernel
theorem tc_d7_init_60 : decode tc_i7_init.2.1 60 = .ok (.aload_n 0, 1) := by decide +kernel
theorem tc_d7_init_61 : decode tc_i7_init.2.1 61 = .ok (.iconst 3, 1) := by decide +kernel
theorem tc_d7_init_62 : decode tc_i7_init.2.1 62 = .ok (.newarray .int, 2) := by decide +kernel
theorem tc_d7_init_64 : decode tc_i7_init.2.1 64 = .ok (.dup, 1) := by decide +kernel
theorem tc_d7_init_65 : decode tc_i7_init.2.1 65 = .ok (.iconst 0, 1) := by decide +kernel
theorem tc_d7_init_66 : decode tc_i7_init.2.1 66 = .ok (.bipush 20, 2) := by decide +kernel
theorem tc_d7_init_68 : decode tc_i7_init.2.1 68 = .ok (.iastore, 1) := by decide +kernel
theorem tc_d7_init_69 : decode tc_i7_init.2.1 69 = .ok (.dup, 1) := by decide +kernel
theorem tc_d7_init_70 : decode tc_i7_init.2.1 70 = .ok (.iconst 1, 1) := by decide +kernel
theorem tc_d7_init_71 : decode tc_i7_init.2.1 71 = .ok (.bipush 10, 2) := by decide +kernel
theorem tc_d7_init_73 : decode tc_i7_init.2.1 73 = .ok (.iastore, 1) := by decide +kernel
theorem tc_d7_init_74 : decode tc_i7_init.2.1 74 = .ok (.dup, 1) := by decide +kernel
theorem tc_d7_init_75 : decode tc_i7_init.2.1 75 = .ok (.iconst 2, 1) := by decide +kernel
theorem tc_d7_init_76 : decode tc_i7_init.2.1 76 = .ok (.iconst 1, 1) := by decide +kernel
theorem tc_d7_init_77 : decode tc_i7_init.2.1 77 = .ok (.iastore, 1) := by decide +kernel
theorem tc_d7_init_78 : decode tc_i7_init.2.1 78 = .ok (.putfield 32, 3) := by decide +kernel
theorem tc_d7_init_81 : decode tc_i7_init.2.1 81 = .ok (.aload_n 0, 1) := by decide +kernel
theorem tc_d7_init_82 : decode tc_i7_init.2.1 82 = .ok (.bipush 20, 2) := by decide +kernel
theorem tc_d7_init_84 : decode tc_i7_init.2.1 84 = .ok (.newarray .int, 2) := by decide +kernel
theorem tc_d7_init_86 : decode tc_i7_init.2.1 86 = .ok (.putfield 35, 3) := by decide +kernel
theorem tc_d7_init_89 : decode tc_i7_init.2.1 89 = .ok (.aload_n 0, 1) := by decide +kernel
theorem tc_d7_init_90 : decode tc_i7_init.2.1 90 = .ok (.bipush 20, 2) := by decide +kernel
theorem tc_d7_init_92 : decode tc_i7_init.2.1 92 = .ok (.newarray .int, 2) := by decide +kernel
theorem tc_d7_init_94 : decode tc_i7_init.2.1 94 = .ok (.putfield 38, 3) := by decide +kernel
theorem tc_d7_init_97 : decode tc_i7_init.2.1 97 = .ok (.aload_n 0, 1) := by decide +kernel
theorem tc_d7_init_98 : decode tc_i7_init.2.1 98 = .ok (.bipush 20, 2) := by decide +kernel
theorem tc_d7_init_100 : decode tc_i7_init.2.1 100 = .ok (.newarray .int, 2) := by decide +kernel
theorem tc_d7_init_102 : decode tc_i7_init.2.1 102 = .ok (.putfield 41, 3) := by decide +kernel
theorem tc_d7_init_105 : decode tc_i7_init.2.1 105 = .ok (.aload_n 0, 1) := by decide +kernel
theorem tc_d7_init_106 : decode tc_i7_init.2.1 106 = .ok (.iconst (-1), 1) := by decide +kernel
theorem tc_d7_init_107 : decode tc_i7_init.2.1 107 = .ok (.putfield 44, 3) := by decide +kernel
theorem tc_d7_init_110 : decode tc_i7_init.2.1 110 = .ok (.aload_n 0, 1) := by decide +kernel
theorem tc_d7_init_111 : decode tc_i7_init.2.1 111 = .ok (.bipush 40, 2) := by decide +kernel
theorem tc_d7_init_113 : decode tc_i7_init.2.1 113 = .ok (.newarray .int, 2) := by decide +kernel
theorem tc_d7_init_115 : decode tc_i7_init.2.1 115 = .ok (.putfield 48, 3) := by decide +kernel
theorem tc_d7_init_118 : decode tc_i7_init.2.1 118 = .ok (.aload_n 0, 1) := by decide +kernel
theorem tc_d7_init_119 : decode tc_i7_init.2.1 119 = .ok (.bipush 60, 2) := by decide +kernel
theorem tc_d7_init_121 : decode tc_i7_init.2.1 121 = .ok (.newarray .int, 2) := by decide +kernel
theorem tc_d7_init_123 : decode tc_i7_init.2.1 123 = .ok (.putfield 51, 3) := by decide +kernel
theorem tc_d7_init_126 : decode tc_i7_init.2.1 126 = .ok (.aload_n 0, 1) := by decide +kernel
theorem tc_d7_init_127 : decode tc_i7_init.2.1 127 = .ok (.iconst 4, 1) := by decide +kernel
theorem tc_d7_init_128 : decode tc_i7_init.2.1 128 = .ok (.newarray .int, 2) := by decide +kernel
theorem tc_d7_init_130 : decode tc_i7_init.2.1 130 = .ok (.dup, 1) := by decide +kernel
theorem tc_d7_init_131 : decode tc_i7_init.2.1 131 = .ok (.iconst 0, 1) := by decide +kernel
theorem tc_d7_init_132 : decode tc_i7_init.2.1 132 = .ok (.iconst (-1), 1) := by decide +kernel
theorem tc_d7_init_133 : decode tc_i7_init.2.1 133 = .ok (.iastore, 1) := by decide +kernel
theorem tc_d7_init_134 : decode tc_i7_init.2.1 134 = .ok (.dup, 1) := by decide +kernel
theorem tc_d7_init_135 : decode tc_i7_init.2.1 135 = .ok (.iconst 1, 1) := by decide +kernel
theorem tc_d7_init_136 : decode tc_i7_init.2.1 136 = .ok (.iconst (-1), 1) := by decide +kernel
theorem tc_d7_init_137 : decode tc_i7_init.2.1 137 = .ok (.iastore, 1) := by decide +kernel
theorem tc_d7_init_138 : decode tc_i7_init.2.1 138 = .ok (.dup, 1) := by decide +kernel
theorem tc_d7_init_139 : decode tc_i7_init.2.1 139 = .ok (.iconst 2, 1) := by decide +kernel
theorem tc_d7_init_140 : decode tc_i7_init.2.1 140 = .ok (.iconst (-1), 1) := by decide +kernel
theorem tc_d7_init_141 : decode tc_i7_init.2.1 141 = .ok (.iastore, 1) := by decide +kernel
theorem tc_d7_init_142 : decode tc_i7_init.2.1 142 = .ok (.dup, 1) := by decide +kernel
theorem tc_d7_init_143 : decode tc_i7_init.2.1 143 = .ok (.iconst 3, 1) := by decide +kernel
theorem tc_d7_init_144 : decode tc_i7_init.2.1 144 = .ok (.iconst (-1), 1) := by decide +kernel
theorem tc_d7_init_145 : decode tc_i7_init.2.1 145 = .ok (.iastore, 1) := by decide +kernel
theorem tc_d7_init_146 : decode tc_i7_init.2.1 146 = .ok (.putfield 54, 3) := by decide +kernel
theorem tc_d7_init_149 : decode tc_i7_init.2.1 149 = .ok (.aload_n 0, 1) := by decide +kernel
theorem tc_d7_init_150 : decode tc_i7_init.2.1 150 = .ok (.iconst 4, 1) := by decide +kernel
theorem tc_d7_init_151 : decode tc_i7_init.2.1 151 = .ok (.newarray .int, 2) := by decide +kernel
theorem tc_d7_init_153 : decode tc_i7_init.2.1 153 = .ok (.putfield 57, 3) := by decide +kernel
theorem tc_d7_init_156 : decode tc_i7_init.2.1 156 = .ok (.aload_n 0, 1) := by decide +kernel
theorem tc_d7_init_157 : decode tc_i7_init.2.1 157 = .ok (.sipush 160, 3) := by decide +kernel
theorem tc_d7_init_160 : decode tc_i7_init.2.1 160 = .ok (.newarray .int, 2) := by decide +kernel
theorem tc_d7_init_162 : decode tc_i7_init.2.1 162 = .ok (.putfield 60, 3) := by decide +kernel
theorem tc_d7_init_165 : decode tc_i7_init.2.1 165 = .ok (.aload_n 0, 1) := by decide +kernel
theorem tc_d7_init_166 : decode tc_i7_init.2.1 166 = .ok (.bipush 40, 2) := by decide +kernel
theorem tc_d7_init_168 : decode tc_i7_init.2.1 168 = .ok (.newarray .int, 2) := by decide +kernel
theorem tc_d7_init_170 : decode tc_i7_init.2.1 170 = .ok (.putfield 63, 3) := by decide +kernel
theorem tc_d7_init_173 : decode tc_i7_init.2.1 173 = .ok (.aload_n 0, 1) := by decide +kernel
theorem tc_d7_init_174 : decode tc_i7_init.2.1 174 = .ok (.bipush 8, 2) := by decide +kernel
theorem tc_d7_init_176 : decode tc_i7_init.2.1 176 = .ok (.newarray .int, 2) := by decide +kernel
theorem tc_d7_init_178 : decode tc_i7_init.2.1 178 = .ok (.putfield 66, 3) := by decide +kernel
theorem tc_d7_init_181 : decode tc_i7_init.2.1 181 = .ok (.aload_n 0, 1) := by decide +kernel
theorem tc_d7_init_182 : decode tc_i7_init.2.1 182 = .ok (.bipush 8, 2) := by decide +kernel
theorem tc_d7_init_184 : decode tc_i7_init.2.1 184 = .ok (.newarray .boolean, 2) := by decide +kernel
theorem tc_d7_init_186 : decode tc_i7_init.2.1 186 = .ok (.putfield 69, 3) := by decide +kernel
theorem tc_d7_init_189 : decode tc_i7_init.2.1 189 = .ok (.aload_n 0, 1) := by decide +kernel
theorem tc_d7_init_190 : decode tc_i7_init.2.1 190 = .ok (.bipush 8, 2) := by decide +kernel
theorem tc_d7_init_192 : decode tc_i7_init.2.1 192 = .ok (.newarray .boolean, 2) := by decide +kernel
theorem tc_d7_init_194 : decode tc_i7_init.2.1 194 = .ok (.putfield 72, 3) := by decide +kernel
theorem tc_d7_init_197 : decode tc_i7_init.2.1 197 = .ok (.aload_n 0, 1) := by decide +kernel
theorem tc_d7_init_198 : decode tc_i7_init.2.1 198 = .ok (.bipush 40, 2) := by decide +kernel
theorem tc_d7_init_200 : decode tc_i7_init.2.1 200 = .ok (.newarray .int, 2) := by decide +kernel
theorem tc_d7_init_202 : decode tc_i7_init.2.1 202 = .ok (.putfield 75, 3) := by decide +kernel
theorem tc_d7_init_205 : decode tc_i7_init.2.1 205 = .ok (.aload_n 0, 1) := by decide +kernel
theorem tc_d7_init_206 : decode tc_i7_init.2.1 206 = .ok (.bipush 8, 2) := by decide +kernel
theorem tc_d7_init_208 : decode tc_i7_init.2.1 208 = .ok (.newarray .boolean, 2) := by decide +kernel
theorem tc_d7_init_210 : decode tc_i7_init.2.1 210 = .ok (.putfield 78, 3) := by decide +kernel
theorem tc_d7_init_213 : decode tc_i7_init.2.1 213 = .ok (.aload_n 0, 1) := by decide +kernel
theorem tc_d7_init_214 : decode tc_i7_init.2.1 214 = .ok (.bipush 8, 2) := by decide +kernel
theorem tc_d7_init_216 : decode tc_i7_init.2.1 216 = .ok (.newarray .boolean, 2) := by decide +kernel
theorem tc_d7_init_218 : decode tc_i7_init.2.1 218 = .ok (.putfield 81, 3) := by decide +kernel
theorem tc_d7_init_221 : decode tc_i7_init.2.1 221 = .ok (.aload_n 0, 1) := by decide +kernel
theorem tc_d7_init_222 : decode tc_i7_init.2.1 222 = .ok (.bipush 8, 2) := by decide +kernel
theorem tc_d7_init_224 : decode tc_i7_init.2.1 224 = .ok (.newarray .int, 2) := by decide +kernel
theorem tc_d7_init_226 : decode tc_i7_init.2.1 226 = .ok (.putfield 84, 3) := by decide +kernel
theorem tc_d7_init_229 : decode tc_i7_init.2.1 229 = .ok (.aload_n 0, 1) := by decide +kernel
theorem tc_d7_init_230 : decode tc_i7_init.2.1 230 = .ok (.iconst 4, 1) := by decide +kernel
theorem tc_d7_init_231 : decode tc_i7_init.2.1 231 = .ok (.newarray .int, 2) := by decide +kernel
theorem tc_d7_init_233 : decode tc_i7_init.2.1 233 = .ok (.putfield 87, 3) := by decide +kernel
theorem tc_d7_init_236 : decode tc_i7_init.2.1 236 = .ok (.aload_n 0, 1) := by decide +kernel
theorem tc_d7_init_237 : decode tc_i7_init.2.1 237 = .ok (.bipush 90, 2) := by decide +kernel
theorem tc_d7_init_239 : decode tc_i7_init.2.1 239 = .ok (.newarray .int, 2) := by decide +kernel
theorem tc_d7_init_241 : decode tc_i7_init.2.1 241 = .ok (.putfield 90, 3) := by decide +kernel
theorem tc_d7_init_244 : decode tc_i7_init.2.1 244 = .ok (.return_, 1) := by decide +kernel
theorem tc_okO : Cond.instanceMethod Lib.objectInit ∈ tc_gw ∧ Cond.code Lib.objectInit ⟨#[0xb1]⟩ 1 none ∈ tc_gw := ⟨tc_gm 78 (by decide +kernel) (by decide +kernel), tc_gm 79 (by decide +kernel) (by decide +kernel)⟩
