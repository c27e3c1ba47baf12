abbrev iX0_init : HI := (yX0_init, cX0_init, 2, none)
abbrev iX1_init : HI := (yX1_init, cX1_init, 1, none)
abbrev iX2_init : HI := (yX2_init, cX2_init, 3, none)
abbrev iX3_init : HI := (yX3_init, cX3_init, 1, none)
abbrev iX4_init : HI := (yX4_init, cX4_init, 2, none)
abbrev iX5_init : HI := (yX5_init, cX5_init, 1, none)
abbrev iX6_init : HI := (yX6_init, cX6_init, 2, none)
abbrev iX7_init : HI := (yX7_init, cX7_init, 2, none)
abbrev iX8_init : HI := (yX8_init, cX8_init, 1, none)
abbrev iX9_init : HI := (yX9_init, cX9_init, 2, none)
abbrev iX10_init : HI := (yX10_init, cX10_init, 1, none)
abbrev iX11_init : HI := (yX11_init, cX11_init, 1, none)
abbrev iX12_init : HI := (yX12_init, cX12_init, 1, none)
theorem nw175 : (Jvm.Cond.initialized "HeelHounds$Tape") ∈ lw_tbl := lw_in1 (List.mem_of_getElem? (i := 2) (by decide +kernel))
theorem nw176 : (Jvm.Cond.initialized "HeelHounds$Country") ∈ lw_tbl := lw_in1 (List.mem_of_getElem? (i := 3) (by decide +kernel))
theorem nw177 : (Jvm.Cond.initialized "HeelHounds$Land") ∈ lw_tbl := lw_in1 (List.mem_of_getElem? (i := 4) (by decide +kernel))
theorem nw178 : (Jvm.Cond.initialized "HeelHounds$Course") ∈ lw_tbl := lw_in1 (List.mem_of_getElem? (i := 5) (by decide +kernel))
theorem nw179 : (Jvm.Cond.initialized "HeelHounds$LineReader") ∈ lw_tbl := lw_in1 (List.mem_of_getElem? (i := 6) (by decide +kernel))
theorem nw180 : (Jvm.Cond.initialized "HeelHounds$LandReader") ∈ lw_tbl := lw_in1 (List.mem_of_getElem? (i := 7) (by decide +kernel))
theorem nw181 : (Jvm.Cond.initialized "HeelHounds$LawReader") ∈ lw_tbl := lw_in1 (List.mem_of_getElem? (i := 8) (by decide +kernel))
theorem nw182 : (Jvm.Cond.initialized "HeelHounds$Law") ∈ lw_tbl := lw_in1 (List.mem_of_getElem? (i := 9) (by decide +kernel))
theorem nw183 : (Jvm.Cond.initialized "HeelHounds$Hunt") ∈ lw_tbl := lw_in1 (List.mem_of_getElem? (i := 10) (by decide +kernel))
theorem nw184 : (Jvm.Cond.initialized "HeelHounds$Survey") ∈ lw_tbl := lw_in1 (List.mem_of_getElem? (i := 11) (by decide +kernel))
theorem nw185 : (Jvm.Cond.initialized "HeelHounds$Pack") ∈ lw_tbl := lw_in1 (List.mem_of_getElem? (i := 12) (by decide +kernel))
theorem nw186 : (Jvm.Cond.initialized "java/util/Arrays") ∈ lw_tbl := lw_in1 (List.mem_of_getElem? (i := 13) (by decide +kernel))
theorem nw196 : (Jvm.Cond.methodLink "HeelHounds" (1 : Nat) ({ cls := "java/lang/Object", name := "<init>", desc := "()V" } : Jvm.MethodName)) ∈ lw_tbl := lw_in1 (List.mem_of_getElem? (i := 23) (by decide +kernel))
theorem nw197 : (Jvm.Cond.instanceMethod ({ cls := "java/lang/Object", name := "<init>", desc := "()V" } : Jvm.MethodName)) ∈ lw_tbl := lw_in1 (List.mem_of_getElem? (i := 24) (by decide +kernel))
theorem nw198 : (Jvm.Cond.code ({ cls := "java/lang/Object", name := "<init>", desc := "()V" } : Jvm.MethodName) object_method_1_code (1 : Nat) (Option.none : Option Jvm.ClassFile.FieldType)) ∈ lw_tbl := lw_in1 (List.mem_of_getElem? (i := 25) (by decide +kernel))
theorem nw199 : (Jvm.Cond.classLink "HeelHounds" (7 : Nat) "HeelHounds$Tape") ∈ lw_tbl := lw_in1 (List.mem_of_getElem? (i := 26) (by decide +kernel))
theorem nw200 : (Jvm.Cond.instantiable "HeelHounds$Tape" (6 : Nat)) ∈ lw_tbl := lw_in1 (List.mem_of_getElem? (i := 27) (by decide +kernel))
theorem nw201 : (Jvm.Cond.methodLinkNest "HeelHounds" (9 : Nat) ({ cls := "HeelHounds$Tape", name := "<init>", desc := "()V" } : Jvm.MethodName) "HeelHounds") ∈ lw_tbl := lw_in1 (List.mem_of_getElem? (i := 28) (by decide +kernel))
theorem nw202 : (Jvm.Cond.instanceMethod ({ cls := "HeelHounds$Tape", name := "<init>", desc := "()V" } : Jvm.MethodName)) ∈ lw_tbl := lw_in1 (List.mem_of_getElem? (i := 29) (by decide +kernel))
theorem nw203 : (Jvm.Cond.code ({ cls := "HeelHounds$Tape", name := "<init>", desc := "()V" } : Jvm.MethodName) prog_12_method_1_code (1 : Nat) (Option.none : Option Jvm.ClassFile.FieldType)) ∈ lw_tbl := lw_in1 (List.mem_of_getElem? (i := 30) (by decide +kernel))
theorem nw204 : (Jvm.Cond.methodLink "HeelHounds$Tape" (3 : Nat) ({ cls := "java/lang/Object", name := "<init>", desc := "()V" } : Jvm.MethodName)) ∈ lw_tbl := lw_in1 (List.mem_of_getElem? (i := 31) (by decide +kernel))
theorem nw205 : (Jvm.Cond.fieldLink "HeelHounds$Tape" (9 : Nat) "HeelHounds$Tape" "bytes" "[I") ∈ lw_tbl := lw_in1 (List.mem_of_getElem? (i := 32) (by decide +kernel))
theorem nw206 : (Jvm.Cond.fieldLink "HeelHounds$Tape" (15 : Nat) "HeelHounds$Tape" "size" "I") ∈ lw_tbl := lw_in1 (List.mem_of_getElem? (i := 33) (by decide +kernel))
theorem nw208 : (Jvm.Cond.fieldLink "HeelHounds$Tape" (19 : Nat) "HeelHounds$Tape" "end" "I") ∈ lw_tbl := lw_in1 (List.mem_of_getElem? (i := 35) (by decide +kernel))
theorem nw209 : (Jvm.Cond.fieldLink "HeelHounds$Tape" (22 : Nat) "HeelHounds$Tape" "place" "I") ∈ lw_tbl := lw_in1 (List.mem_of_getElem? (i := 36) (by decide +kernel))
theorem nw212 : (Jvm.Cond.fieldLink "HeelHounds$Tape" (25 : Nat) "HeelHounds$Tape" "fault" "I") ∈ lw_tbl := lw_in1 (List.mem_of_getElem? (i := 39) (by decide +kernel))
theorem nw213 : (Jvm.Cond.fieldLink "HeelHounds$Tape" (28 : Nat) "HeelHounds$Tape" "faultPlace" "I") ∈ lw_tbl := lw_in1 (List.mem_of_getElem? (i := 40) (by decide +kernel))
theorem nw228 : (Jvm.Cond.classLink "HeelHounds" (16 : Nat) "HeelHounds$Country") ∈ lw_tbl := lw_in1 (List.mem_of_getElem? (i := 55) (by decide +kernel))
theorem nw229 : (Jvm.Cond.instantiable "HeelHounds$Country" (3 : Nat)) ∈ lw_tbl := lw_in1 (List.mem_of_getElem? (i := 56) (by decide +kernel))
theorem nw230 : (Jvm.Cond.methodLinkNest "HeelHounds" (18 : Nat) ({ cls := "HeelHounds$Country", name := "<init>", desc := "()V" } : Jvm.MethodName) "HeelHounds") ∈ lw_tbl := lw_in1 (List.mem_of_getElem? (i := 57) (by decide +kernel))
theorem nw231 : (Jvm.Cond.instanceMethod ({ cls := "HeelHounds$Country", name := "<init>", desc := "()V" } : Jvm.MethodName)) ∈ lw_tbl := lw_in1 (List.mem_of_getElem? (i := 58) (by decide +kernel))
theorem nw232 : (Jvm.Cond.code ({ cls := "HeelHounds$Country", name := "<init>", desc := "()V" } : Jvm.MethodName) prog_2_method_1_code (2 : Nat) (Option.none : Option Jvm.ClassFile.FieldType)) ∈ lw_tbl := lw_in1 (List.mem_of_getElem? (i := 59) (by decide +kernel))
theorem nw233 : (Jvm.Cond.methodLink "HeelHounds$Country" (3 : Nat) ({ cls := "java/lang/Object", name := "<init>", desc := "()V" } : Jvm.MethodName)) ∈ lw_tbl := lw_in1 (List.mem_of_getElem? (i := 60) (by decide +kernel))
theorem nw234 : (Jvm.Cond.classLink "HeelHounds$Country" (9 : Nat) "HeelHounds$Course") ∈ lw_tbl := lw_in1 (List.mem_of_getElem? (i := 61) (by decide +kernel))
theorem nw236 : (Jvm.Cond.classLink "HeelHounds$Country" (17 : Nat) "HeelHounds$Land") ∈ lw_tbl := lw_in1 (List.mem_of_getElem? (i := 63) (by decide +kernel))
theorem nw237 : (Jvm.Cond.instantiable "HeelHounds$Land" (3 : Nat)) ∈ lw_tbl := lw_in1 (List.mem_of_getElem? (i := 64) (by decide +kernel))
theorem nw238 : (Jvm.Cond.methodLinkNest "HeelHounds$Country" (19 : Nat) ({ cls := "HeelHounds$Land", name := "<init>", desc := "()V" } : Jvm.MethodName) "HeelHounds") ∈ lw_tbl := lw_in1 (List.mem_of_getElem? (i := 65) (by decide +kernel))
theorem nw239 : (Jvm.Cond.instanceMethod ({ cls := "HeelHounds$Land", name := "<init>", desc := "()V" } : Jvm.MethodName)) ∈ lw_tbl := lw_in1 (List.mem_of_getElem? (i := 66) (by decide +kernel))
theorem nw240 : (Jvm.Cond.code ({ cls := "HeelHounds$Land", name := "<init>", desc := "()V" } : Jvm.MethodName) prog_5_method_1_code (1 : Nat) (Option.none : Option Jvm.ClassFile.FieldType)) ∈ lw_tbl := lw_in1 (List.mem_of_getElem? (i := 67) (by decide +kernel))
theorem nw241 : (Jvm.Cond.methodLink "HeelHounds$Land" (3 : Nat) ({ cls := "java/lang/Object", name := "<init>", desc := "()V" } : Jvm.MethodName)) ∈ lw_tbl := lw_in1 (List.mem_of_getElem? (i := 68) (by decide +kernel))
theorem nw242 : (Jvm.Cond.fieldLink "HeelHounds$Land" (9 : Nat) "HeelHounds$Land" "kinds" "[I") ∈ lw_tbl := lw_in1 (List.mem_of_getElem? (i := 69) (by decide +kernel))
theorem nw243 : (Jvm.Cond.fieldLink "HeelHounds$Land" (15 : Nat) "HeelHounds$Land" "pence" "[I") ∈ lw_tbl := lw_in1 (List.mem_of_getElem? (i := 70) (by decide +kernel))
theorem nw244 : (Jvm.Cond.fieldLink "HeelHounds$Land" (18 : Nat) "HeelHounds$Land" "told" "I") ∈ lw_tbl := lw_in1 (List.mem_of_getElem? (i := 71) (by decide +kernel))
theorem nw254 : (Jvm.Cond.instantiable "HeelHounds$Course" (5 : Nat)) ∈ lw_tbl := lw_in1 (List.mem_of_getElem? (i := 81) (by decide +kernel))
theorem nw255 : (Jvm.Cond.methodLinkNest "HeelHounds$Country" (28 : Nat) ({ cls := "HeelHounds$Course", name := "<init>", desc := "()V" } : Jvm.MethodName) "HeelHounds") ∈ lw_tbl := lw_in1 (List.mem_of_getElem? (i := 82) (by decide +kernel))
theorem nw256 : (Jvm.Cond.instanceMethod ({ cls := "HeelHounds$Course", name := "<init>", desc := "()V" } : Jvm.MethodName)) ∈ lw_tbl := lw_in1 (List.mem_of_getElem? (i := 83) (by decide +kernel))
theorem nw257 : (Jvm.Cond.code ({ cls := "HeelHounds$Course", name := "<init>", desc := "()V" } : Jvm.MethodName) prog_3_method_1_code (1 : Nat) (Option.none : Option Jvm.ClassFile.FieldType)) ∈ lw_tbl := lw_in1 (List.mem_of_getElem? (i := 84) (by decide +kernel))
theorem nw258 : (Jvm.Cond.methodLink "HeelHounds$Course" (3 : Nat) ({ cls := "java/lang/Object", name := "<init>", desc := "()V" } : Jvm.MethodName)) ∈ lw_tbl := lw_in1 (List.mem_of_getElem? (i := 85) (by decide +kernel))
theorem nw259 : (Jvm.Cond.fieldLink "HeelHounds$Course" (9 : Nat) "HeelHounds$Course" "steps" "[I") ∈ lw_tbl := lw_in1 (List.mem_of_getElem? (i := 86) (by decide +kernel))
theorem nw260 : (Jvm.Cond.fieldLink "HeelHounds$Course" (15 : Nat) "HeelHounds$Course" "places" "[I") ∈ lw_tbl := lw_in1 (List.mem_of_getElem? (i := 87) (by decide +kernel))
theorem nw261 : (Jvm.Cond.fieldLink "HeelHounds$Course" (18 : Nat) "HeelHounds$Course" "isLaid" "Z") ∈ lw_tbl := lw_in1 (List.mem_of_getElem? (i := 88) (by decide +kernel))
theorem nw263 : (Jvm.Cond.fieldLink "HeelHounds$Course" (22 : Nat) "HeelHounds$Course" "from" "I") ∈ lw_tbl := lw_in1 (List.mem_of_getElem? (i := 90) (by decide +kernel))
theorem nw268 : (Jvm.Cond.fieldLink "HeelHounds$Course" (26 : Nat) "HeelHounds$Course" "length" "I") ∈ lw_tbl := lw_in1 (List.mem_of_getElem? (i := 95) (by decide +kernel))
theorem nw281 : (Jvm.Cond.fieldLink "HeelHounds$Country" (11 : Nat) "HeelHounds$Country" "courses" "[LHeelHounds$Course;") ∈ lw_tbl := lw_in1 (List.mem_of_getElem? (i := 108) (by decide +kernel))
theorem nw282 : (Jvm.Cond.fieldLink "HeelHounds$Country" (20 : Nat) "HeelHounds$Country" "ground" "LHeelHounds$Land;") ∈ lw_tbl := lw_in1 (List.mem_of_getElem? (i := 109) (by decide +kernel))
theorem nw286 : (Jvm.Cond.fieldLink "HeelHounds$Country" (24 : Nat) "HeelHounds$Country" "fade" "I") ∈ lw_tbl := lw_in1 (List.mem_of_getElem? (i := 113) (by decide +kernel))
theorem nw295 : (Jvm.Cond.classLink "HeelHounds" (23 : Nat) "HeelHounds$LineReader") ∈ lw_tbl := lw_in1 (List.mem_of_getElem? (i := 122) (by decide +kernel))
theorem nw296 : (Jvm.Cond.instantiable "HeelHounds$LineReader" (3 : Nat)) ∈ lw_tbl := lw_in1 (List.mem_of_getElem? (i := 123) (by decide +kernel))
theorem nw297 : (Jvm.Cond.methodLinkNest "HeelHounds" (25 : Nat) ({ cls := "HeelHounds$LineReader", name := "<init>", desc := "(LHeelHounds$Tape;)V" } : Jvm.MethodName) "HeelHounds") ∈ lw_tbl := lw_in1 (List.mem_of_getElem? (i := 124) (by decide +kernel))
theorem nw298 : (Jvm.Cond.instanceMethod ({ cls := "HeelHounds$LineReader", name := "<init>", desc := "(LHeelHounds$Tape;)V" } : Jvm.MethodName)) ∈ lw_tbl := lw_in1 (List.mem_of_getElem? (i := 125) (by decide +kernel))
theorem nw299 : (Jvm.Cond.code ({ cls := "HeelHounds$LineReader", name := "<init>", desc := "(LHeelHounds$Tape;)V" } : Jvm.MethodName) prog_9_method_1_code (2 : Nat) (Option.none : Option Jvm.ClassFile.FieldType)) ∈ lw_tbl := lw_in1 (List.mem_of_getElem? (i := 126) (by decide +kernel))
theorem nw300 : (Jvm.Cond.methodLink "HeelHounds$LineReader" (3 : Nat) ({ cls := "java/lang/Object", name := "<init>", desc := "()V" } : Jvm.MethodName)) ∈ lw_tbl := lw_in1 (List.mem_of_getElem? (i := 127) (by decide +kernel))
theorem nw301 : (Jvm.Cond.fieldLink "HeelHounds$LineReader" (19 : Nat) "HeelHounds$LineReader" "tape" "LHeelHounds$Tape;") ∈ lw_tbl := lw_in1 (List.mem_of_getElem? (i := 128) (by decide +kernel))
theorem nw302 : (Jvm.Cond.fieldLink "HeelHounds$LineReader" (9 : Nat) "HeelHounds$LineReader" "steps" "[I") ∈ lw_tbl := lw_in1 (List.mem_of_getElem? (i := 129) (by decide +kernel))
theorem nw304 : (Jvm.Cond.fieldLink "HeelHounds$LineReader" (15 : Nat) "HeelHounds$LineReader" "length" "I") ∈ lw_tbl := lw_in1 (List.mem_of_getElem? (i := 131) (by decide +kernel))
theorem nw313 : (Jvm.Cond.classLink "HeelHounds" (32 : Nat) "HeelHounds$LandReader") ∈ lw_tbl := lw_in1 (List.mem_of_getElem? (i := 140) (by decide +kernel))
theorem nw314 : (Jvm.Cond.instantiable "HeelHounds$LandReader" (2 : Nat)) ∈ lw_tbl := lw_in1 (List.mem_of_getElem? (i := 141) (by decide +kernel))
theorem nw315 : (Jvm.Cond.methodLinkNest "HeelHounds" (34 : Nat) ({ cls := "HeelHounds$LandReader", name := "<init>", desc := "(LHeelHounds$Tape;)V" } : Jvm.MethodName) "HeelHounds") ∈ lw_tbl := lw_in1 (List.mem_of_getElem? (i := 142) (by decide +kernel))
theorem nw316 : (Jvm.Cond.instanceMethod ({ cls := "HeelHounds$LandReader", name := "<init>", desc := "(LHeelHounds$Tape;)V" } : Jvm.MethodName)) ∈ lw_tbl := lw_in1 (List.mem_of_getElem? (i := 143) (by decide +kernel))
theorem nw317 : (Jvm.Cond.code ({ cls := "HeelHounds$LandReader", name := "<init>", desc := "(LHeelHounds$Tape;)V" } : Jvm.MethodName) prog_6_method_1_code (2 : Nat) (Option.none : Option Jvm.ClassFile.FieldType)) ∈ lw_tbl := lw_in1 (List.mem_of_getElem? (i := 144) (by decide +kernel))
theorem nw318 : (Jvm.Cond.methodLink "HeelHounds$LandReader" (3 : Nat) ({ cls := "java/lang/Object", name := "<init>", desc := "()V" } : Jvm.MethodName)) ∈ lw_tbl := lw_in1 (List.mem_of_getElem? (i := 145) (by decide +kernel))
theorem nw319 : (Jvm.Cond.classLink "HeelHounds$LandReader" (9 : Nat) "HeelHounds$Land") ∈ lw_tbl := lw_in1 (List.mem_of_getElem? (i := 146) (by decide +kernel))
theorem nw320 : (Jvm.Cond.methodLinkNest "HeelHounds$LandReader" (11 : Nat) ({ cls := "HeelHounds$Land", name := "<init>", desc := "()V" } : Jvm.MethodName) "HeelHounds") ∈ lw_tbl := lw_in1 (List.mem_of_getElem? (i := 147) (by decide +kernel))
theorem nw321 : (Jvm.Cond.fieldLink "HeelHounds$LandReader" (18 : Nat) "HeelHounds$LandReader" "tape" "LHeelHounds$Tape;") ∈ lw_tbl := lw_in1 (List.mem_of_getElem? (i := 148) (by decide +kernel))
theorem nw322 : (Jvm.Cond.fieldLink "HeelHounds$LandReader" (12 : Nat) "HeelHounds$LandReader" "made" "LHeelHounds$Land;") ∈ lw_tbl := lw_in1 (List.mem_of_getElem? (i := 149) (by decide +kernel))
theorem nw329 : (Jvm.Cond.classLink "HeelHounds" (39 : Nat) "HeelHounds$LawReader") ∈ lw_tbl := lw_in1 (List.mem_of_getElem? (i := 156) (by decide +kernel))
theorem nw330 : (Jvm.Cond.instantiable "HeelHounds$LawReader" (2 : Nat)) ∈ lw_tbl := lw_in1 (List.mem_of_getElem? (i := 157) (by decide +kernel))
theorem nw331 : (Jvm.Cond.methodLinkNest "HeelHounds" (41 : Nat) ({ cls := "HeelHounds$LawReader", name := "<init>", desc := "(LHeelHounds$Tape;)V" } : Jvm.MethodName) "HeelHounds") ∈ lw_tbl := lw_in1 (List.mem_of_getElem? (i := 158) (by decide +kernel))
theorem nw332 : (Jvm.Cond.instanceMethod ({ cls := "HeelHounds$LawReader", name := "<init>", desc := "(LHeelHounds$Tape;)V" } : Jvm.MethodName)) ∈ lw_tbl := lw_in1 (List.mem_of_getElem? (i := 159) (by decide +kernel))
theorem nw333 : (Jvm.Cond.code ({ cls := "HeelHounds$LawReader", name := "<init>", desc := "(LHeelHounds$Tape;)V" } : Jvm.MethodName) prog_8_method_1_code (2 : Nat) (Option.none : Option Jvm.ClassFile.FieldType)) ∈ lw_tbl := lw_in1 (List.mem_of_getElem? (i := 160) (by decide +kernel))
theorem nw334 : (Jvm.Cond.methodLink "HeelHounds$LawReader" (3 : Nat) ({ cls := "java/lang/Object", name := "<init>", desc := "()V" } : Jvm.MethodName)) ∈ lw_tbl := lw_in1 (List.mem_of_getElem? (i := 161) (by decide +kernel))
theorem nw335 : (Jvm.Cond.classLink "HeelHounds$LawReader" (9 : Nat) "HeelHounds$Law") ∈ lw_tbl := lw_in1 (List.mem_of_getElem? (i := 162) (by decide +kernel))
theorem nw336 : (Jvm.Cond.instantiable "HeelHounds$Law" (9 : Nat)) ∈ lw_tbl := lw_in1 (List.mem_of_getElem? (i := 163) (by decide +kernel))
theorem nw337 : (Jvm.Cond.methodLinkNest "HeelHounds$LawReader" (11 : Nat) ({ cls := "HeelHounds$Law", name := "<init>", desc := "()V" } : Jvm.MethodName) "HeelHounds") ∈ lw_tbl := lw_in1 (List.mem_of_getElem? (i := 164) (by decide +kernel))
theorem nw338 : (Jvm.Cond.instanceMethod ({ cls := "HeelHounds$Law", name := "<init>", desc := "()V" } : Jvm.MethodName)) ∈ lw_tbl := lw_in1 (List.mem_of_getElem? (i := 165) (by decide +kernel))
theorem nw339 : (Jvm.Cond.code ({ cls := "HeelHounds$Law", name := "<init>", desc := "()V" } : Jvm.MethodName) prog_7_method_1_code (1 : Nat) (Option.none : Option Jvm.ClassFile.FieldType)) ∈ lw_tbl := lw_in1 (List.mem_of_getElem? (i := 166) (by decide +kernel))
theorem nw340 : (Jvm.Cond.methodLink "HeelHounds$Law" (3 : Nat) ({ cls := "java/lang/Object", name := "<init>", desc := "()V" } : Jvm.MethodName)) ∈ lw_tbl := lw_in1 (List.mem_of_getElem? (i := 167) (by decide +kernel))
theorem nw341 : (Jvm.Cond.fieldLink "HeelHounds$Law" (11 : Nat) "HeelHounds$Law" "kinds" "[I") ∈ lw_tbl := lw_in1 (List.mem_of_getElem? (i := 168) (by decide +kernel))
theorem nw342 : (Jvm.Cond.fieldLink "HeelHounds$Law" (15 : Nat) "HeelHounds$Law" "worths" "[I") ∈ lw_tbl := lw_in1 (List.mem_of_getElem? (i := 169) (by decide +kernel))
theorem nw343 : (Jvm.Cond.fieldLink "HeelHounds$Law" (18 : Nat) "HeelHounds$Law" "tests" "[I") ∈ lw_tbl := lw_in1 (List.mem_of_getElem? (i := 170) (by decide +kernel))
theorem nw344 : (Jvm.Cond.fieldLink "HeelHounds$Law" (21 : Nat) "HeelHounds$Law" "told" "I") ∈ lw_tbl := lw_in1 (List.mem_of_getElem? (i := 171) (by decide +kernel))
theorem nw347 : (Jvm.Cond.fieldLink "HeelHounds$Law" (25 : Nat) "HeelHounds$Law" "signs" "[I") ∈ lw_tbl := lw_in1 (List.mem_of_getElem? (i := 174) (by decide +kernel))
theorem nw348 : (Jvm.Cond.fieldLink "HeelHounds$Law" (28 : Nat) "HeelHounds$Law" "with" "[I") ∈ lw_tbl := lw_in1 (List.mem_of_getElem? (i := 175) (by decide +kernel))
theorem nw349 : (Jvm.Cond.fieldLink "HeelHounds$Law" (31 : Nat) "HeelHounds$Law" "size" "I") ∈ lw_tbl := lw_in1 (List.mem_of_getElem? (i := 176) (by decide +kernel))
theorem nw350 : (Jvm.Cond.fieldLink "HeelHounds$Law" (34 : Nat) "HeelHounds$Law" "values" "[I") ∈ lw_tbl := lw_in1 (List.mem_of_getElem? (i := 177) (by decide +kernel))
theorem nw351 : (Jvm.Cond.fieldLink "HeelHounds$Law" (37 : Nat) "HeelHounds$Law" "stack" "[I") ∈ lw_tbl := lw_in1 (List.mem_of_getElem? (i := 178) (by decide +kernel))
theorem nw371 : (Jvm.Cond.fieldLink "HeelHounds$LawReader" (18 : Nat) "HeelHounds$LawReader" "tape" "LHeelHounds$Tape;") ∈ lw_tbl := lw_in1 (List.mem_of_getElem? (i := 198) (by decide +kernel))
theorem nw372 : (Jvm.Cond.fieldLink "HeelHounds$LawReader" (12 : Nat) "HeelHounds$LawReader" "made" "LHeelHounds$Law;") ∈ lw_tbl := lw_in1 (List.mem_of_getElem? (i := 199) (by decide +kernel))
theorem nw379 : (Jvm.Cond.classLink "HeelHounds" (46 : Nat) "HeelHounds$Law") ∈ lw_tbl := lw_in1 (List.mem_of_getElem? (i := 206) (by decide +kernel))
theorem nw380 : (Jvm.Cond.methodLinkNest "HeelHounds" (48 : Nat) ({ cls := "HeelHounds$Law", name := "<init>", desc := "()V" } : Jvm.MethodName) "HeelHounds") ∈ lw_tbl := lw_in1 (List.mem_of_getElem? (i := 207) (by decide +kernel))
theorem nw381 : (Jvm.Cond.classLink "HeelHounds" (53 : Nat) "HeelHounds$Hunt") ∈ lw_tbl := lw_in1 (List.mem_of_getElem? (i := 208) (by decide +kernel))
theorem nw382 : (Jvm.Cond.instantiable "HeelHounds$Hunt" (6 : Nat)) ∈ lw_tbl := lw_in1 (List.mem_of_getElem? (i := 209) (by decide +kernel))
theorem nw383 : (Jvm.Cond.methodLinkNest "HeelHounds" (55 : Nat) ({ cls := "HeelHounds$Hunt", name := "<init>", desc := "(LHeelHounds$Country;LHeelHounds$Law;)V" } : Jvm.MethodName) "HeelHounds") ∈ lw_tbl := lw_in1 (List.mem_of_getElem? (i := 210) (by decide +kernel))
theorem nw384 : (Jvm.Cond.instanceMethod ({ cls := "HeelHounds$Hunt", name := "<init>", desc := "(LHeelHounds$Country;LHeelHounds$Law;)V" } : Jvm.MethodName)) ∈ lw_tbl := lw_in1 (List.mem_of_getElem? (i := 211) (by decide +kernel))
theorem nw385 : (Jvm.Cond.code ({ cls := "HeelHounds$Hunt", name := "<init>", desc := "(LHeelHounds$Country;LHeelHounds$Law;)V" } : Jvm.MethodName) prog_4_method_1_code (3 : Nat) (Option.none : Option Jvm.ClassFile.FieldType)) ∈ lw_tbl := lw_in1 (List.mem_of_getElem? (i := 212) (by decide +kernel))
theorem nw386 : (Jvm.Cond.methodLink "HeelHounds$Hunt" (3 : Nat) ({ cls := "java/lang/Object", name := "<init>", desc := "()V" } : Jvm.MethodName)) ∈ lw_tbl := lw_in1 (List.mem_of_getElem? (i := 213) (by decide +kernel))
theorem nw387 : (Jvm.Cond.fieldLink "HeelHounds$Hunt" (24 : Nat) "HeelHounds$Hunt" "country" "LHeelHounds$Country;") ∈ lw_tbl := lw_in1 (List.mem_of_getElem? (i := 214) (by decide +kernel))
theorem nw388 : (Jvm.Cond.fieldLink "HeelHounds$Hunt" (28 : Nat) "HeelHounds$Hunt" "law" "LHeelHounds$Law;") ∈ lw_tbl := lw_in1 (List.mem_of_getElem? (i := 215) (by decide +kernel))
theorem nw389 : (Jvm.Cond.fieldLink "HeelHounds$Hunt" (9 : Nat) "HeelHounds$Hunt" "bestWorth" "I") ∈ lw_tbl := lw_in1 (List.mem_of_getElem? (i := 216) (by decide +kernel))
theorem nw390 : (Jvm.Cond.fieldLink "HeelHounds$Hunt" (15 : Nat) "HeelHounds$Hunt" "bestTime" "I") ∈ lw_tbl := lw_in1 (List.mem_of_getElem? (i := 217) (by decide +kernel))
theorem nw391 : (Jvm.Cond.fieldLink "HeelHounds$Hunt" (18 : Nat) "HeelHounds$Hunt" "bestWay" "I") ∈ lw_tbl := lw_in1 (List.mem_of_getElem? (i := 218) (by decide +kernel))
theorem nw392 : (Jvm.Cond.fieldLink "HeelHounds$Hunt" (21 : Nat) "HeelHounds$Hunt" "bestCreature" "I") ∈ lw_tbl := lw_in1 (List.mem_of_getElem? (i := 219) (by decide +kernel))
theorem nw406 : (Jvm.Cond.classLink "HeelHounds" (62 : Nat) "HeelHounds$Survey") ∈ lw_tbl := lw_in1 (List.mem_of_getElem? (i := 233) (by decide +kernel))
theorem nw407 : (Jvm.Cond.instantiable "HeelHounds$Survey" (3 : Nat)) ∈ lw_tbl := lw_in1 (List.mem_of_getElem? (i := 234) (by decide +kernel))
theorem nw408 : (Jvm.Cond.methodLinkNest "HeelHounds" (64 : Nat) ({ cls := "HeelHounds$Survey", name := "<init>", desc := "(LHeelHounds$Country;)V" } : Jvm.MethodName) "HeelHounds") ∈ lw_tbl := lw_in1 (List.mem_of_getElem? (i := 235) (by decide +kernel))
theorem nw409 : (Jvm.Cond.instanceMethod ({ cls := "HeelHounds$Survey", name := "<init>", desc := "(LHeelHounds$Country;)V" } : Jvm.MethodName)) ∈ lw_tbl := lw_in1 (List.mem_of_getElem? (i := 236) (by decide +kernel))
theorem nw410 : (Jvm.Cond.code ({ cls := "HeelHounds$Survey", name := "<init>", desc := "(LHeelHounds$Country;)V" } : Jvm.MethodName) prog_11_method_1_code (2 : Nat) (Option.none : Option Jvm.ClassFile.FieldType)) ∈ lw_tbl := lw_in1 (List.mem_of_getElem? (i := 237) (by decide +kernel))
theorem nw411 : (Jvm.Cond.methodLink "HeelHounds$Survey" (3 : Nat) ({ cls := "java/lang/Object", name := "<init>", desc := "()V" } : Jvm.MethodName)) ∈ lw_tbl := lw_in1 (List.mem_of_getElem? (i := 238) (by decide +kernel))
theorem nw412 : (Jvm.Cond.fieldLink "HeelHounds$Survey" (18 : Nat) "HeelHounds$Survey" "country" "LHeelHounds$Country;") ∈ lw_tbl := lw_in1 (List.mem_of_getElem? (i := 239) (by decide +kernel))
theorem nw413 : (Jvm.Cond.fieldLink "HeelHounds$Survey" (9 : Nat) "HeelHounds$Survey" "marks" "[I") ∈ lw_tbl := lw_in2 (List.mem_of_getElem? (i := 0) (by decide +kernel))
theorem nw414 : (Jvm.Cond.fieldLink "HeelHounds$Survey" (15 : Nat) "HeelHounds$Survey" "row" "[I") ∈ lw_tbl := lw_in2 (List.mem_of_getElem? (i := 1) (by decide +kernel))
theorem nw422 : (Jvm.Cond.classLink "HeelHounds" (71 : Nat) "HeelHounds$Pack") ∈ lw_tbl := lw_in2 (List.mem_of_getElem? (i := 9) (by decide +kernel))
theorem nw423 : (Jvm.Cond.instantiable "HeelHounds$Pack" (6 : Nat)) ∈ lw_tbl := lw_in2 (List.mem_of_getElem? (i := 10) (by decide +kernel))
theorem nw424 : (Jvm.Cond.methodLinkNest "HeelHounds" (73 : Nat) ({ cls := "HeelHounds$Pack", name := "<init>", desc := "()V" } : Jvm.MethodName) "HeelHounds") ∈ lw_tbl := lw_in2 (List.mem_of_getElem? (i := 11) (by decide +kernel))
theorem nw425 : (Jvm.Cond.instanceMethod ({ cls := "HeelHounds$Pack", name := "<init>", desc := "()V" } : Jvm.MethodName)) ∈ lw_tbl := lw_in2 (List.mem_of_getElem? (i := 12) (by decide +kernel))
theorem nw426 : (Jvm.Cond.code ({ cls := "HeelHounds$Pack", name := "<init>", desc := "()V" } : Jvm.MethodName) prog_10_method_1_code (1 : Nat) (Option.none : Option Jvm.ClassFile.FieldType)) ∈ lw_tbl := lw_in2 (List.mem_of_getElem? (i := 13) (by decide +kernel))
theorem nw427 : (Jvm.Cond.methodLink "HeelHounds$Pack" (3 : Nat) ({ cls := "java/lang/Object", name := "<init>", desc := "()V" } : Jvm.MethodName)) ∈ lw_tbl := lw_in2 (List.mem_of_getElem? (i := 14) (by decide +kernel))
theorem nw428 : (Jvm.Cond.methodLink "HeelHounds$Pack" (31 : Nat) ({ cls := "java/util/Arrays", name := "fill", desc := "([II)V" } : Jvm.MethodName)) ∈ lw_tbl := lw_in2 (List.mem_of_getElem? (i := 15) (by decide +kernel))
theorem nw429 : (Jvm.Cond.static ({ cls := "java/util/Arrays", name := "fill", desc := "([II)V" } : Jvm.MethodName)) ∈ lw_tbl := lw_in2 (List.mem_of_getElem? (i := 16) (by decide +kernel))
theorem nw430 : (Jvm.Cond.code ({ cls := "java/util/Arrays", name := "fill", desc := "([II)V" } : Jvm.MethodName) prog_18_method_103_code (4 : Nat) (Option.none : Option Jvm.ClassFile.FieldType)) ∈ lw_tbl := lw_in2 (List.mem_of_getElem? (i := 17) (by decide +kernel))
theorem nw431 : (Jvm.Cond.fieldLink "HeelHounds$Pack" (9 : Nat) "HeelHounds$Pack" "places" "[I") ∈ lw_tbl := lw_in2 (List.mem_of_getElem? (i := 18) (by decide +kernel))
theorem nw432 : (Jvm.Cond.fieldLink "HeelHounds$Pack" (15 : Nat) "HeelHounds$Pack" "times" "[I") ∈ lw_tbl := lw_in2 (List.mem_of_getElem? (i := 19) (by decide +kernel))
theorem nw433 : (Jvm.Cond.fieldLink "HeelHounds$Pack" (18 : Nat) "HeelHounds$Pack" "faults" "[I") ∈ lw_tbl := lw_in2 (List.mem_of_getElem? (i := 20) (by decide +kernel))
theorem nw434 : (Jvm.Cond.fieldLink "HeelHounds$Pack" (21 : Nat) "HeelHounds$Pack" "states" "[I") ∈ lw_tbl := lw_in2 (List.mem_of_getElem? (i := 21) (by decide +kernel))
theorem nw435 : (Jvm.Cond.fieldLink "HeelHounds$Pack" (24 : Nat) "HeelHounds$Pack" "clock" "I") ∈ lw_tbl := lw_in2 (List.mem_of_getElem? (i := 22) (by decide +kernel))
theorem nw438 : (Jvm.Cond.fieldLink "HeelHounds$Pack" (28 : Nat) "HeelHounds$Pack" "drawn" "I") ∈ lw_tbl := lw_in2 (List.mem_of_getElem? (i := 25) (by decide +kernel))
theorem nw453 : (Jvm.Cond.fieldLink "HeelHounds" (10 : Nat) "HeelHounds" "tape" "LHeelHounds$Tape;") ∈ lw_tbl := lw_in2 (List.mem_of_getElem? (i := 40) (by decide +kernel))
theorem nw454 : (Jvm.Cond.fieldLink "HeelHounds" (19 : Nat) "HeelHounds" "country" "LHeelHounds$Country;") ∈ lw_tbl := lw_in2 (List.mem_of_getElem? (i := 41) (by decide +kernel))
theorem nw455 : (Jvm.Cond.fieldLink "HeelHounds" (28 : Nat) "HeelHounds" "lineReader" "LHeelHounds$LineReader;") ∈ lw_tbl := lw_in2 (List.mem_of_getElem? (i := 42) (by decide +kernel))
theorem nw456 : (Jvm.Cond.fieldLink "HeelHounds" (35 : Nat) "HeelHounds" "landReader" "LHeelHounds$LandReader;") ∈ lw_tbl := lw_in2 (List.mem_of_getElem? (i := 43) (by decide +kernel))
theorem nw457 : (Jvm.Cond.fieldLink "HeelHounds" (42 : Nat) "HeelHounds" "lawReader" "LHeelHounds$LawReader;") ∈ lw_tbl := lw_in2 (List.mem_of_getElem? (i := 44) (by decide +kernel))
theorem nw458 : (Jvm.Cond.fieldLink "HeelHounds" (49 : Nat) "HeelHounds" "rules" "LHeelHounds$Law;") ∈ lw_tbl := lw_in2 (List.mem_of_getElem? (i := 45) (by decide +kernel))
theorem nw459 : (Jvm.Cond.fieldLink "HeelHounds" (58 : Nat) "HeelHounds" "hunt" "LHeelHounds$Hunt;") ∈ lw_tbl := lw_in2 (List.mem_of_getElem? (i := 46) (by decide +kernel))
theorem nw460 : (Jvm.Cond.fieldLink "HeelHounds" (67 : Nat) "HeelHounds" "survey" "LHeelHounds$Survey;") ∈ lw_tbl := lw_in2 (List.mem_of_getElem? (i := 47) (by decide +kernel))
theorem nw461 : (Jvm.Cond.fieldLink "HeelHounds" (74 : Nat) "HeelHounds" "now" "LHeelHounds$Pack;") ∈ lw_tbl := lw_in2 (List.mem_of_getElem? (i := 48) (by decide +kernel))
theorem nw462 : (Jvm.Cond.fieldLink "HeelHounds" (78 : Nat) "HeelHounds" "kept" "LHeelHounds$Pack;") ∈ lw_tbl := lw_in2 (List.mem_of_getElem? (i := 49) (by decide +kernel))
theorem nw463 : (Jvm.Cond.fieldLink "HeelHounds" (81 : Nat) "HeelHounds" "trial" "LHeelHounds$Pack;") ∈ lw_tbl := lw_in2 (List.mem_of_getElem? (i := 50) (by decide +kernel))
theorem nw464 : (Jvm.Cond.fieldLink "HeelHounds" (84 : Nat) "HeelHounds" "hasKept" "Z") ∈ lw_tbl := lw_in2 (List.mem_of_getElem? (i := 51) (by decide +kernel))
theorem nw1225 : (Jvm.Cond.methodLink "HeelHoundsModel" (1 : Nat) ({ cls := "java/lang/Object", name := "<init>", desc := "()V" } : Jvm.MethodName)) ∈ lw_tbl := lw_in5 (List.mem_of_getElem? (i := 92) (by decide +kernel))
theorem nw1226 : (Jvm.Cond.fieldLink "HeelHoundsModel" (7 : Nat) "HeelHoundsModel" "now" "[I") ∈ lw_tbl := lw_in5 (List.mem_of_getElem? (i := 93) (by decide +kernel))
theorem nw1227 : (Jvm.Cond.fieldLink "HeelHoundsModel" (13 : Nat) "HeelHoundsModel" "aside" "[I") ∈ lw_tbl := lw_in5 (List.mem_of_getElem? (i := 94) (by decide +kernel))
theorem nw1228 : (Jvm.Cond.fieldLink "HeelHoundsModel" (16 : Nat) "HeelHoundsModel" "kept" "[I") ∈ lw_tbl := lw_in5 (List.mem_of_getElem? (i := 95) (by decide +kernel))
theorem nw1229 : (Jvm.Cond.fieldLink "HeelHoundsModel" (19 : Nat) "HeelHoundsModel" "stepMany" "[I") ∈ lw_tbl := lw_in5 (List.mem_of_getElem? (i := 96) (by decide +kernel))
theorem nw1230 : (Jvm.Cond.fieldLink "HeelHoundsModel" (22 : Nat) "HeelHoundsModel" "beginAt" "[I") ∈ lw_tbl := lw_in5 (List.mem_of_getElem? (i := 97) (by decide +kernel))
theorem nw1231 : (Jvm.Cond.fieldLink "HeelHoundsModel" (25 : Nat) "HeelHoundsModel" "stepOf" "[I") ∈ lw_tbl := lw_in5 (List.mem_of_getElem? (i := 98) (by decide +kernel))
theorem nw1232 : (Jvm.Cond.fieldLink "HeelHoundsModel" (28 : Nat) "HeelHoundsModel" "placeOf" "[I") ∈ lw_tbl := lw_in5 (List.mem_of_getElem? (i := 99) (by decide +kernel))
theorem nw1233 : (Jvm.Cond.fieldLink "HeelHoundsModel" (31 : Nat) "HeelHoundsModel" "landOf" "[I") ∈ lw_tbl := lw_in5 (List.mem_of_getElem? (i := 100) (by decide +kernel))
theorem nw1234 : (Jvm.Cond.fieldLink "HeelHoundsModel" (34 : Nat) "HeelHoundsModel" "penceOf" "[I") ∈ lw_tbl := lw_in5 (List.mem_of_getElem? (i := 101) (by decide +kernel))
theorem nw1235 : (Jvm.Cond.fieldLink "HeelHoundsModel" (114 : Nat) "HeelHoundsModel" "fadingNow" "I") ∈ lw_tbl := lw_in5 (List.mem_of_getElem? (i := 102) (by decide +kernel))
theorem nw1237 : (Jvm.Cond.fieldLink "HeelHoundsModel" (37 : Nat) "HeelHoundsModel" "tape" "[B") ∈ lw_tbl := lw_in5 (List.mem_of_getElem? (i := 104) (by decide +kernel))
theorem nw1248 : (Jvm.Cond.fieldLink "HeelHoundsModel" (41 : Nat) "HeelHoundsModel" "said" "[I") ∈ lw_tbl := lw_in5 (List.mem_of_getElem? (i := 115) (by decide +kernel))
theorem nw1249 : (Jvm.Cond.fieldLink "HeelHoundsModel" (44 : Nat) "HeelHoundsModel" "waitsAt" "[I") ∈ lw_tbl := lw_in5 (List.mem_of_getElem? (i := 116) (by decide +kernel))
theorem nw1250 : (Jvm.Cond.fieldLink "HeelHoundsModel" (47 : Nat) "HeelHoundsModel" "saidLetter" "[I") ∈ lw_tbl := lw_in5 (List.mem_of_getElem? (i := 117) (by decide +kernel))
theorem nw1251 : (Jvm.Cond.fieldLink "HeelHoundsModel" (50 : Nat) "HeelHoundsModel" "saidFrom" "[I") ∈ lw_tbl := lw_in5 (List.mem_of_getElem? (i := 118) (by decide +kernel))
theorem nw1252 : (Jvm.Cond.fieldLink "HeelHoundsModel" (53 : Nat) "HeelHoundsModel" "saidHalf" "[I") ∈ lw_tbl := lw_in5 (List.mem_of_getElem? (i := 119) (by decide +kernel))
theorem nw1253 : (Jvm.Cond.fieldLink "HeelHoundsModel" (56 : Nat) "HeelHoundsModel" "saidTo" "[I") ∈ lw_tbl := lw_in5 (List.mem_of_getElem? (i := 120) (by decide +kernel))
theorem nw1254 : (Jvm.Cond.fieldLink "HeelHoundsModel" (59 : Nat) "HeelHoundsModel" "codes" "[I") ∈ lw_tbl := lw_in5 (List.mem_of_getElem? (i := 121) (by decide +kernel))
theorem nw1255 : (Jvm.Cond.fieldLink "HeelHoundsModel" (62 : Nat) "HeelHoundsModel" "clauseOf" "[I") ∈ lw_tbl := lw_in5 (List.mem_of_getElem? (i := 122) (by decide +kernel))
theorem nw1256 : (Jvm.Cond.fieldLink "HeelHoundsModel" (65 : Nat) "HeelHoundsModel" "codeFrom" "[I") ∈ lw_tbl := lw_in5 (List.mem_of_getElem? (i := 123) (by decide +kernel))
theorem nw1257 : (Jvm.Cond.fieldLink "HeelHoundsModel" (68 : Nat) "HeelHoundsModel" "codeHalf" "[I") ∈ lw_tbl := lw_in5 (List.mem_of_getElem? (i := 124) (by decide +kernel))
theorem nw1258 : (Jvm.Cond.fieldLink "HeelHoundsModel" (71 : Nat) "HeelHoundsModel" "codeTo" "[I") ∈ lw_tbl := lw_in5 (List.mem_of_getElem? (i := 125) (by decide +kernel))
theorem nw1259 : (Jvm.Cond.fieldLink "HeelHoundsModel" (74 : Nat) "HeelHoundsModel" "stack" "[I") ∈ lw_tbl := lw_in5 (List.mem_of_getElem? (i := 126) (by decide +kernel))
theorem nw1260 : (Jvm.Cond.fieldLink "HeelHoundsModel" (77 : Nat) "HeelHoundsModel" "facts" "[I") ∈ lw_tbl := lw_in5 (List.mem_of_getElem? (i := 127) (by decide +kernel))
theorem nw1261 : (Jvm.Cond.fieldLink "HeelHoundsModel" (80 : Nat) "HeelHoundsModel" "newSteps" "[I") ∈ lw_tbl := lw_in5 (List.mem_of_getElem? (i := 128) (by decide +kernel))
theorem nw1262 : (Jvm.Cond.fieldLink "HeelHoundsModel" (83 : Nat) "HeelHoundsModel" "roundFrom" "[I") ∈ lw_tbl := lw_in5 (List.mem_of_getElem? (i := 129) (by decide +kernel))
theorem nw1263 : (Jvm.Cond.fieldLink "HeelHoundsModel" (86 : Nat) "HeelHoundsModel" "roundAt" "[I") ∈ lw_tbl := lw_in5 (List.mem_of_getElem? (i := 130) (by decide +kernel))
theorem nw1264 : (Jvm.Cond.fieldLink "HeelHoundsModel" (89 : Nat) "HeelHoundsModel" "roundTimes" "[I") ∈ lw_tbl := lw_in5 (List.mem_of_getElem? (i := 131) (by decide +kernel))
theorem nw1269 : (Jvm.Cond.fieldLink "HeelHoundsModel" (92 : Nat) "HeelHoundsModel" "newLand" "[I") ∈ lw_tbl := lw_in5 (List.mem_of_getElem? (i := 136) (by decide +kernel))
theorem nw1270 : (Jvm.Cond.fieldLink "HeelHoundsModel" (95 : Nat) "HeelHoundsModel" "newPence" "[I") ∈ lw_tbl := lw_in5 (List.mem_of_getElem? (i := 137) (by decide +kernel))
theorem nw1276 : (Jvm.Cond.fieldLink "HeelHoundsModel" (98 : Nat) "HeelHoundsModel" "rowNow" "[I") ∈ lw_tbl := lw_in5 (List.mem_of_getElem? (i := 143) (by decide +kernel))
theorem nw1277 : (Jvm.Cond.fieldLink "HeelHoundsModel" (101 : Nat) "HeelHoundsModel" "paidFor" "[I") ∈ lw_tbl := lw_in5 (List.mem_of_getElem? (i := 144) (by decide +kernel))
theorem nw1278 : (Jvm.Cond.fieldLink "HeelHoundsModel" (104 : Nat) "HeelHoundsModel" "stepsTo" "[I") ∈ lw_tbl := lw_in5 (List.mem_of_getElem? (i := 145) (by decide +kernel))
theorem nw1279 : (Jvm.Cond.fieldLink "HeelHoundsModel" (107 : Nat) "HeelHoundsModel" "queue" "[I") ∈ lw_tbl := lw_in5 (List.mem_of_getElem? (i := 146) (by decide +kernel))
theorem nw1280 : (Jvm.Cond.fieldLink "HeelHoundsModel" (110 : Nat) "HeelHoundsModel" "isShut" "[Z") ∈ lw_tbl := lw_in5 (List.mem_of_getElem? (i := 147) (by decide +kernel))
theorem fq_X10_9 : FLp RX10 9 10 0 true (.array .int) := ⟨(RX10, TX10, 6), rfl, by decide, rfl, rfl, uX10, nw205, ⟨tyX10, tyX10_ok, nmX10⟩, rfl, by decide +kernel⟩
theorem fq_X10_15 : FLp RX10 15 10 1 false .int := ⟨(RX10, TX10, 6), rfl, by decide, rfl, rfl, uX10, nw206, ⟨tyX10, tyX10_ok, nmX10⟩, rfl, by decide +kernel⟩
theorem fq_X10_19 : FLp RX10 19 10 2 false .int := ⟨(RX10, TX10, 6), rfl, by decide, rfl, rfl, uX10, nw208, ⟨tyX10, tyX10_ok, nmX10⟩, rfl, by decide +kernel⟩
theorem fq_X10_22 : FLp RX10 22 10 3 false .int := ⟨(RX10, TX10, 6), rfl, by decide, rfl, rfl, uX10, nw209, ⟨tyX10, tyX10_ok, nmX10⟩, rfl, by decide +kernel⟩
theorem fq_X10_25 : FLp RX10 25 10 4 false .int := ⟨(RX10, TX10, 6), rfl, by decide, rfl, rfl, uX10, nw212, ⟨tyX10, tyX10_ok, nmX10⟩, rfl, by decide +kernel⟩
theorem fq_X10_28 : FLp RX10 28 10 5 false .int := ⟨(RX10, TX10, 6), rfl, by decide, rfl, rfl, uX10, nw213, ⟨tyX10, tyX10_ok, nmX10⟩, rfl, by decide +kernel⟩
theorem fq_X3_9 : FLp RX3 9 3 0 true (.array .int) := ⟨(RX3, TX3, 3), rfl, by decide, rfl, rfl, uX3, nw242, ⟨tyX3, tyX3_ok, nmX3⟩, rfl, by decide +kernel⟩
theorem fq_X3_15 : FLp RX3 15 3 1 true (.array .int) := ⟨(RX3, TX3, 3), rfl, by decide, rfl, rfl, uX3, nw243, ⟨tyX3, tyX3_ok, nmX3⟩, rfl, by decide +kernel⟩
theorem fq_X3_18 : FLp RX3 18 3 2 false .int := ⟨(RX3, TX3, 3), rfl, by decide, rfl, rfl, uX3, nw244, ⟨tyX3, tyX3_ok, nmX3⟩, rfl, by decide +kernel⟩
theorem fq_X1_9 : FLp RX1 9 1 0 true (.array .int) := ⟨(RX1, TX1, 5), rfl, by decide, rfl, rfl, uX1, nw259, ⟨tyX1, tyX1_ok, nmX1⟩, rfl, by decide +kernel⟩
theorem fq_X1_15 : FLp RX1 15 1 1 true (.array .int) := ⟨(RX1, TX1, 5), rfl, by decide, rfl, rfl, uX1, nw260, ⟨tyX1, tyX1_ok, nmX1⟩, rfl, by decide +kernel⟩
theorem fq_X1_18 : FLp RX1 18 1 2 false .boolean := ⟨(RX1, TX1, 5), rfl, by decide, rfl, rfl, uX1, nw261, ⟨tyX1, tyX1_ok, nmX1⟩, rfl, by decide +kernel⟩
theorem fq_X1_22 : FLp RX1 22 1 3 false .int := ⟨(RX1, TX1, 5), rfl, by decide, rfl, rfl, uX1, nw263, ⟨tyX1, tyX1_ok, nmX1⟩, rfl, by decide +kernel⟩
theorem fq_X1_26 : FLp RX1 26 1 4 false .int := ⟨(RX1, TX1, 5), rfl, by decide, rfl, rfl, uX1, nw268, ⟨tyX1, tyX1_ok, nmX1⟩, rfl, by decide +kernel⟩
theorem fq_X7_9 : FLp RX7 9 7 1 true (.array .int) := ⟨(RX7, TX7, 3), rfl, by decide, rfl, rfl, uX7, nw302, ⟨tyX7, tyX7_ok, nmX7⟩, rfl, by decide +kernel⟩
theorem fq_X7_15 : FLp RX7 15 7 2 false .int := ⟨(RX7, TX7, 3), rfl, by decide, rfl, rfl, uX7, nw304, ⟨tyX7, tyX7_ok, nmX7⟩, rfl, by decide +kernel⟩
theorem fq_X7_19 : FLp RX7 19 7 0 true (.object "HeelHounds$Tape") := ⟨(RX7, TX7, 3), rfl, by decide, rfl, rfl, uX7, nw301, ⟨tyX7, tyX7_ok, nmX7⟩, rfl, by decide +kernel⟩
theorem fq_X5_11 : FLp RX5 11 5 0 true (.array .int) := ⟨(RX5, TX5, 9), rfl, by decide, rfl, rfl, uX5, nw341, ⟨tyX5, tyX5_ok, nmX5⟩, rfl, by decide +kernel⟩
theorem fq_X5_15 : FLp RX5 15 5 1 true (.array .int) := ⟨(RX5, TX5, 9), rfl, by decide, rfl, rfl, uX5, nw342, ⟨tyX5, tyX5_ok, nmX5⟩, rfl, by decide +kernel⟩
theorem fq_X5_18 : FLp RX5 18 5 2 true (.array .int) := ⟨(RX5, TX5, 9), rfl, by decide, rfl, rfl, uX5, nw343, ⟨tyX5, tyX5_ok, nmX5⟩, rfl, by decide +kernel⟩
theorem fq_X5_21 : FLp RX5 21 5 3 false .int := ⟨(RX5, TX5, 9), rfl, by decide, rfl, rfl, uX5, nw344, ⟨tyX5, tyX5_ok, nmX5⟩, rfl, by decide +kernel⟩
theorem fq_X5_25 : FLp RX5 25 5 4 true (.array .int) := ⟨(RX5, TX5, 9), rfl, by decide, rfl, rfl, uX5, nw347, ⟨tyX5, tyX5_ok, nmX5⟩, rfl, by decide +kernel⟩
theorem fq_X5_28 : FLp RX5 28 5 5 true (.array .int) := ⟨(RX5, TX5, 9), rfl, by decide, rfl, rfl, uX5, nw348, ⟨tyX5, tyX5_ok, nmX5⟩, rfl, by decide +kernel⟩
theorem fq_X5_31 : FLp RX5 31 5 6 false .int := ⟨(RX5, TX5, 9), rfl, by decide, rfl, rfl, uX5, nw349, ⟨tyX5, tyX5_ok, nmX5⟩, rfl, by decide +kernel⟩
theorem fq_X5_34 : FLp RX5 34 5 7 true (.array .int) := ⟨(RX5, TX5, 9), rfl, by decide, rfl, rfl, uX5, nw350, ⟨tyX5, tyX5_ok, nmX5⟩, rfl, by decide +kernel⟩
theorem fq_X5_37 : FLp RX5 37 5 8 true (.array .int) := ⟨(RX5, TX5, 9), rfl, by decide, rfl, rfl, uX5, nw351, ⟨tyX5, tyX5_ok, nmX5⟩, rfl, by decide +kernel⟩
theorem fq_X8_9 : FLp RX8 9 8 0 true (.array .int) := ⟨(RX8, TX8, 6), rfl, by decide, rfl, rfl, uX8, nw431, ⟨tyX8, tyX8_ok, nmX8⟩, rfl, by decide +kernel⟩
theorem fq_X8_15 : FLp RX8 15 8 1 true (.array .int) := ⟨(RX8, TX8, 6), rfl, by decide, rfl, rfl, uX8, nw432, ⟨tyX8, tyX8_ok, nmX8⟩, rfl, by decide +kernel⟩
theorem fq_X8_18 : FLp RX8 18 8 2 true (.array .int) := ⟨(RX8, TX8, 6), rfl, by decide, rfl, rfl, uX8, nw433, ⟨tyX8, tyX8_ok, nmX8⟩, rfl, by decide +kernel⟩
theorem fq_X8_21 : FLp RX8 21 8 3 true (.array .int) := ⟨(RX8, TX8, 6), rfl, by decide, rfl, rfl, uX8, nw434, ⟨tyX8, tyX8_ok, nmX8⟩, rfl, by decide +kernel⟩
theorem fq_X8_24 : FLp RX8 24 8 4 false .int := ⟨(RX8, TX8, 6), rfl, by decide, rfl, rfl, uX8, nw435, ⟨tyX8, tyX8_ok, nmX8⟩, rfl, by decide +kernel⟩
theorem fq_X8_28 : FLp RX8 28 8 5 false .int := ⟨(RX8, TX8, 6), rfl, by decide, rfl, rfl, uX8, nw438, ⟨tyX8, tyX8_ok, nmX8⟩, rfl, by decide +kernel⟩
theorem fq_X9_9 : FLp RX9 9 9 1 true (.array .int) := ⟨(RX9, TX9, 3), rfl, by decide, rfl, rfl, uX9, nw413, ⟨tyX9, tyX9_ok, nmX9⟩, rfl, by decide +kernel⟩
theorem fq_X9_15 : FLp RX9 15 9 2 true (.array .int) := ⟨(RX9, TX9, 3), rfl, by decide, rfl, rfl, uX9, nw414, ⟨tyX9, tyX9_ok, nmX9⟩, rfl, by decide +kernel⟩
theorem fq_X9_18 : FLp RX9 18 9 0 true (.object "HeelHounds$Country") := ⟨(RX9, TX9, 3), rfl, by decide, rfl, rfl, uX9, nw412, ⟨tyX9, tyX9_ok, nmX9⟩, rfl, by decide +kernel⟩
theorem fq_X2_9 : FLp RX2 9 2 2 false .int := ⟨(RX2, TX2, 6), rfl, by decide, rfl, rfl, uX2, nw389, ⟨tyX2, tyX2_ok, nmX2⟩, rfl, by decide +kernel⟩
theorem fq_X2_15 : FLp RX2 15 2 3 false .int := ⟨(RX2, TX2, 6), rfl, by decide, rfl, rfl, uX2, nw390, ⟨tyX2, tyX2_ok, nmX2⟩, rfl, by decide +kernel⟩
theorem fq_X2_18 : FLp RX2 18 2 4 false .int := ⟨(RX2, TX2, 6), rfl, by decide, rfl, rfl, uX2, nw391, ⟨tyX2, tyX2_ok, nmX2⟩, rfl, by decide +kernel⟩
theorem fq_X2_21 : FLp RX2 21 2 5 false .int := ⟨(RX2, TX2, 6), rfl, by decide, rfl, rfl, uX2, nw392, ⟨tyX2, tyX2_ok, nmX2⟩, rfl, by decide +kernel⟩
theorem fq_X2_24 : FLp RX2 24 2 0 true (.object "HeelHounds$Country") := ⟨(RX2, TX2, 6), rfl, by decide, rfl, rfl, uX2, nw387, ⟨tyX2, tyX2_ok, nmX2⟩, rfl, by decide +kernel⟩
theorem fq_X2_28 : FLp RX2 28 2 1 true (.object "HeelHounds$Law") := ⟨(RX2, TX2, 6), rfl, by decide, rfl, rfl, uX2, nw388, ⟨tyX2, tyX2_ok, nmX2⟩, rfl, by decide +kernel⟩
theorem fq_X4_12 : FLp RX4 12 4 1 true (.object "HeelHounds$Land") := ⟨(RX4, TX4, 2), rfl, by decide, rfl, rfl, uX4, nw322, ⟨tyX4, tyX4_ok, nmX4⟩, rfl, by decide +kernel⟩
theorem fq_X4_18 : FLp RX4 18 4 0 true (.object "HeelHounds$Tape") := ⟨(RX4, TX4, 2), rfl, by decide, rfl, rfl, uX4, nw321, ⟨tyX4, tyX4_ok, nmX4⟩, rfl, by decide +kernel⟩
theorem fq_X6_12 : FLp RX6 12 6 1 true (.object "HeelHounds$Law") := ⟨(RX6, TX6, 2), rfl, by decide, rfl, rfl, uX6, nw372, ⟨tyX6, tyX6_ok, nmX6⟩, rfl, by decide +kernel⟩
theorem fq_X6_18 : FLp RX6 18 6 0 true (.object "HeelHounds$Tape") := ⟨(RX6, TX6, 2), rfl, by decide, rfl, rfl, uX6, nw371, ⟨tyX6, tyX6_ok, nmX6⟩, rfl, by decide +kernel⟩
theorem fq_X0_11 : FLp RX0 11 0 0 true (.array (.object "HeelHounds$Course")) := ⟨(RX0, TX0, 3), rfl, by decide, rfl, rfl, uX0, nw281, ⟨tyX0, tyX0_ok, nmX0⟩, rfl, by decide +kernel⟩
theorem fq_X0_20 : FLp RX0 20 0 1 true (.object "HeelHounds$Land") := ⟨(RX0, TX0, 3), rfl, by decide, rfl, rfl, uX0, nw282, ⟨tyX0, tyX0_ok, nmX0⟩, rfl, by decide +kernel⟩
theorem fq_X0_24 : FLp RX0 24 0 2 false .int := ⟨(RX0, TX0, 3), rfl, by decide, rfl, rfl, uX0, nw286, ⟨tyX0, tyX0_ok, nmX0⟩, rfl, by decide +kernel⟩
theorem fq_X11_10 : FLp RX11 10 11 0 true (.object "HeelHounds$Tape") := ⟨(RX11, TX11, 12), rfl, by decide, rfl, rfl, uX11, nw453, ⟨tyX11, tyX11_ok, nmX11⟩, rfl, by decide +kernel⟩
theorem fq_X11_19 : FLp RX11 19 11 1 true (.object "HeelHounds$Country") := ⟨(RX11, TX11, 12), rfl, by decide, rfl, rfl, uX11, nw454, ⟨tyX11, tyX11_ok, nmX11⟩, rfl, by decide +kernel⟩
theorem fq_X11_28 : FLp RX11 28 11 2 true (.object "HeelHounds$LineReader") := ⟨(RX11, TX11, 12), rfl, by decide, rfl, rfl, uX11, nw455, ⟨tyX11, tyX11_ok, nmX11⟩, rfl, by decide +kernel⟩
theorem fq_X11_35 : FLp RX11 35 11 3 true (.object "HeelHounds$LandReader") := ⟨(RX11, TX11, 12), rfl, by decide, rfl, rfl, uX11, nw456, ⟨tyX11, tyX11_ok, nmX11⟩, rfl, by decide +kernel⟩
theorem fq_X11_42 : FLp RX11 42 11 4 true (.object "HeelHounds$LawReader") := ⟨(RX11, TX11, 12), rfl, by decide, rfl, rfl, uX11, nw457, ⟨tyX11, tyX11_ok, nmX11⟩, rfl, by decide +kernel⟩
theorem fq_X11_49 : FLp RX11 49 11 5 true (.object "HeelHounds$Law") := ⟨(RX11, TX11, 12), rfl, by decide, rfl, rfl, uX11, nw458, ⟨tyX11, tyX11_ok, nmX11⟩, rfl, by decide +kernel⟩
theorem fq_X11_58 : FLp RX11 58 11 6 true (.object "HeelHounds$Hunt") := ⟨(RX11, TX11, 12), rfl, by decide, rfl, rfl, uX11, nw459, ⟨tyX11, tyX11_ok, nmX11⟩, rfl, by decide +kernel⟩
theorem fq_X11_67 : FLp RX11 67 11 7 true (.object "HeelHounds$Survey") := ⟨(RX11, TX11, 12), rfl, by decide, rfl, rfl, uX11, nw460, ⟨tyX11, tyX11_ok, nmX11⟩, rfl, by decide +kernel⟩
theorem fq_X11_74 : FLp RX11 74 11 8 true (.object "HeelHounds$Pack") := ⟨(RX11, TX11, 12), rfl, by decide, rfl, rfl, uX11, nw461, ⟨tyX11, tyX11_ok, nmX11⟩, rfl, by decide +kernel⟩
theorem fq_X11_78 : FLp RX11 78 11 9 true (.object "HeelHounds$Pack") := ⟨(RX11, TX11, 12), rfl, by decide, rfl, rfl, uX11, nw462, ⟨tyX11, tyX11_ok, nmX11⟩, rfl, by decide +kernel⟩
theorem fq_X11_81 : FLp RX11 81 11 10 true (.object "HeelHounds$Pack") := ⟨(RX11, TX11, 12), rfl, by decide, rfl, rfl, uX11, nw463, ⟨tyX11, tyX11_ok, nmX11⟩, rfl, by decide +kernel⟩
theorem fq_X11_84 : FLp RX11 84 11 11 false .boolean := ⟨(RX11, TX11, 12), rfl, by decide, rfl, rfl, uX11, nw464, ⟨tyX11, tyX11_ok, nmX11⟩, rfl, by decide +kernel⟩
theorem fq_X12_7 : FLp RX12 7 12 0 true (.array .int) := ⟨(RX12, TX12, 56), rfl, by decide, rfl, rfl, uX12, nw1226, ⟨tyX12, tyX12_ok, nmX12⟩, rfl, by decide +kernel⟩
theorem fq_X12_13 : FLp RX12 13 12 1 true (.array .int) := ⟨(RX12, TX12, 56), rfl, by decide, rfl, rfl, uX12, nw1227, ⟨tyX12, tyX12_ok, nmX12⟩, rfl, by decide +kernel⟩
theorem fq_X12_16 : FLp RX12 16 12 2 true (.array .int) := ⟨(RX12, TX12, 56), rfl, by decide, rfl, rfl, uX12, nw1228, ⟨tyX12, tyX12_ok, nmX12⟩, rfl, by decide +kernel⟩
theorem fq_X12_19 : FLp RX12 19 12 3 true (.array .int) := ⟨(RX12, TX12, 56), rfl, by decide, rfl, rfl, uX12, nw1229, ⟨tyX12, tyX12_ok, nmX12⟩, rfl, by decide +kernel⟩
theorem fq_X12_22 : FLp RX12 22 12 4 true (.array .int) := ⟨(RX12, TX12, 56), rfl, by decide, rfl, rfl, uX12, nw1230, ⟨tyX12, tyX12_ok, nmX12⟩, rfl, by decide +kernel⟩
theorem fq_X12_25 : FLp RX12 25 12 5 true (.array .int) := ⟨(RX12, TX12, 56), rfl, by decide, rfl, rfl, uX12, nw1231, ⟨tyX12, tyX12_ok, nmX12⟩, rfl, by decide +kernel⟩
theorem fq_X12_28 : FLp RX12 28 12 6 true (.array .int) := ⟨(RX12, TX12, 56), rfl, by decide, rfl, rfl, uX12, nw1232, ⟨tyX12, tyX12_ok, nmX12⟩, rfl, by decide +kernel⟩
theorem fq_X12_31 : FLp RX12 31 12 7 true (.array .int) := ⟨(RX12, TX12, 56), rfl, by decide, rfl, rfl, uX12, nw1233, ⟨tyX12, tyX12_ok, nmX12⟩, rfl, by decide +kernel⟩
theorem fq_X12_34 : FLp RX12 34 12 8 true (.array .int) := ⟨(RX12, TX12, 56), rfl, by decide, rfl, rfl, uX12, nw1234, ⟨tyX12, tyX12_ok, nmX12⟩, rfl, by decide +kernel⟩
theorem fq_X12_37 : FLp RX12 37 12 11 true (.array .byte) := ⟨(RX12, TX12, 56), rfl, by decide, rfl, rfl, uX12, nw1237, ⟨tyX12, tyX12_ok, nmX12⟩, rfl, by decide +kernel⟩
theorem fq_X12_41 : FLp RX12 41 12 22 true (.array .int) := ⟨(RX12, TX12, 56), rfl, by decide, rfl, rfl, uX12, nw1248, ⟨tyX12, tyX12_ok, nmX12⟩, rfl, by decide +kernel⟩
theorem fq_X12_44 : FLp RX12 44 12 23 true (.array .int) := ⟨(RX12, TX12, 56), rfl, by decide, rfl, rfl, uX12, nw1249, ⟨tyX12, tyX12_ok, nmX12⟩, rfl, by decide +kernel⟩
theorem fq_X12_47 : FLp RX12 47 12 24 true (.array .int) := ⟨(RX12, TX12, 56), rfl, by decide, rfl, rfl, uX12, nw1250, ⟨tyX12, tyX12_ok, nmX12⟩, rfl, by decide +kernel⟩
theorem fq_X12_50 : FLp RX12 50 12 25 true (.array .int) := ⟨(RX12, TX12, 56), rfl, by decide, rfl, rfl, uX12, nw1251, ⟨tyX12, tyX12_ok, nmX12⟩, rfl, by decide +kernel⟩
theorem fq_X12_53 : FLp RX12 53 12 26 true (.array .int) := ⟨(RX12, TX12, 56), rfl, by decide, rfl, rfl, uX12, nw1252, ⟨tyX12, tyX12_ok, nmX12⟩, rfl, by decide +kernel⟩
theorem fq_X12_56 : FLp RX12 56 12 27 true (.array .int) := ⟨(RX12, TX12, 56), rfl, by decide, rfl, rfl, uX12, nw1253, ⟨tyX12, tyX12_ok, nmX12⟩, rfl, by decide +kernel⟩
theorem fq_X12_59 : FLp RX12 59 12 28 true (.array .int) := ⟨(RX12, TX12, 56), rfl, by decide, rfl, rfl, uX12, nw1254, ⟨tyX12, tyX12_ok, nmX12⟩, rfl, by decide +kernel⟩
theorem fq_X12_62 : FLp RX12 62 12 29 true (.array .int) := ⟨(RX12, TX12, 56), rfl, by decide, rfl, rfl, uX12, nw1255, ⟨tyX12, tyX12_ok, nmX12⟩, rfl, by decide +kernel⟩
theorem fq_X12_65 : FLp RX12 65 12 30 true (.array .int) := ⟨(RX12, TX12, 56), rfl, by decide, rfl, rfl, uX12, nw1256, ⟨tyX12, tyX12_ok, nmX12⟩, rfl, by decide +kernel⟩
theorem fq_X12_68 : FLp RX12 68 12 31 true (.array .int) := ⟨(RX12, TX12, 56), rfl, by decide, rfl, rfl, uX12, nw1257, ⟨tyX12, tyX12_ok, nmX12⟩, rfl, by decide +kernel⟩
theorem fq_X12_71 : FLp RX12 71 12 32 true (.array .int) := ⟨(RX12, TX12, 56), rfl, by decide, rfl, rfl, uX12, nw1258, ⟨tyX12, tyX12_ok, nmX12⟩, rfl, by decide +kernel⟩
theorem fq_X12_74 : FLp RX12 74 12 33 true (.array .int) := ⟨(RX12, TX12, 56), rfl, by decide, rfl, rfl, uX12, nw1259, ⟨tyX12, tyX12_ok, nmX12⟩, rfl, by decide +kernel⟩
theorem fq_X12_77 : FLp RX12 77 12 34 true (.array .int) := ⟨(RX12, TX12, 56), rfl, by decide, rfl, rfl, uX12, nw1260, ⟨tyX12, tyX12_ok, nmX12⟩, rfl, by decide +kernel⟩
theorem fq_X12_80 : FLp RX12 80 12 35 true (.array .int) := ⟨(RX12, TX12, 56), rfl, by decide, rfl, rfl, uX12, nw1261, ⟨tyX12, tyX12_ok, nmX12⟩, rfl, by decide +kernel⟩
theorem fq_X12_83 : FLp RX12 83 12 36 true (.array .int) := ⟨(RX12, TX12, 56), rfl, by decide, rfl, rfl, uX12, nw1262, ⟨tyX12, tyX12_ok, nmX12⟩, rfl, by decide +kernel⟩
theorem fq_X12_86 : FLp RX12 86 12 37 true (.array .int) := ⟨(RX12, TX12, 56), rfl, by decide, rfl, rfl, uX12, nw1263, ⟨tyX12, tyX12_ok, nmX12⟩, rfl, by decide +kernel⟩
theorem fq_X12_89 : FLp RX12 89 12 38 true (.array .int) := ⟨(RX12, TX12, 56), rfl, by decide, rfl, rfl, uX12, nw1264, ⟨tyX12, tyX12_ok, nmX12⟩, rfl, by decide +kernel⟩
theorem fq_X12_92 : FLp RX12 92 12 43 true (.array .int) := ⟨(RX12, TX12, 56), rfl, by decide, rfl, rfl, uX12, nw1269, ⟨tyX12, tyX12_ok, nmX12⟩, rfl, by decide +kernel⟩
theorem fq_X12_95 : FLp RX12 95 12 44 true (.array .int) := ⟨(RX12, TX12, 56), rfl, by decide, rfl, rfl, uX12, nw1270, ⟨tyX12, tyX12_ok, nmX12⟩, rfl, by decide +kernel⟩
theorem fq_X12_98 : FLp RX12 98 12 50 true (.array .int) := ⟨(RX12, TX12, 56), rfl, by decide, rfl, rfl, uX12, nw1276, ⟨tyX12, tyX12_ok, nmX12⟩, rfl, by decide +kernel⟩
theorem fq_X12_101 : FLp RX12 101 12 51 true (.array .int) := ⟨(RX12, TX12, 56), rfl, by decide, rfl, rfl, uX12, nw1277, ⟨tyX12, tyX12_ok, nmX12⟩, rfl, by decide +kernel⟩
theorem fq_X12_104 : FLp RX12 104 12 52 true (.array .int) := ⟨(RX12, TX12, 56), rfl, by decide, rfl, rfl, uX12, nw1278, ⟨tyX12, tyX12_ok, nmX12⟩, rfl, by decide +kernel⟩
theorem fq_X12_107 : FLp RX12 107 12 53 true (.array .int) := ⟨(RX12, TX12, 56), rfl, by decide, rfl, rfl, uX12, nw1279, ⟨tyX12, tyX12_ok, nmX12⟩, rfl, by decide +kernel⟩
theorem fq_X12_110 : FLp RX12 110 12 54 true (.array .boolean) := ⟨(RX12, TX12, 56), rfl, by decide, rfl, rfl, uX12, nw1280, ⟨tyX12, tyX12_ok, nmX12⟩, rfl, by decide +kernel⟩
theorem fq_X12_114 : FLp RX12 114 12 9 false .int := ⟨(RX12, TX12, 56), rfl, by decide, rfl, rfl, uX12, nw1235, ⟨tyX12, tyX12_ok, nmX12⟩, rfl, by decide +kernel⟩
theorem mi_X8_31 : MLi RX8 31 iJ7_fill_53178 2 := ⟨nw430, nw186, ⟨by decide, by decide, by decide +kernel⟩, by decide, rfl, Or.inl nw428⟩
theorem mi_X4_11 : MLi RX4 11 iX3_init 0 := ⟨nw240, nw177, ⟨by decide, by decide, by decide +kernel⟩, by decide, rfl, Or.inr ⟨"HeelHounds", nw320⟩⟩
theorem mi_X6_11 : MLi RX6 11 iX5_init 0 := ⟨nw339, nw182, ⟨by decide, by decide, by decide +kernel⟩, by decide, rfl, Or.inr ⟨"HeelHounds", nw337⟩⟩
theorem mi_X0_19 : MLi RX0 19 iX3_init 0 := ⟨nw240, nw177, ⟨by decide, by decide, by decide +kernel⟩, by decide, rfl, Or.inr ⟨"HeelHounds", nw238⟩⟩
theorem mi_X0_28 : MLi RX0 28 iX1_init 0 := ⟨nw257, nw178, ⟨by decide, by decide, by decide +kernel⟩, by decide, rfl, Or.inr ⟨"HeelHounds", nw255⟩⟩
theorem mi_X11_9 : MLi RX11 9 iX10_init 0 := ⟨nw203, nw175, ⟨by decide, by decide, by decide +kernel⟩, by decide, rfl, Or.inr ⟨"HeelHounds", nw201⟩⟩
theorem mi_X11_18 : MLi RX11 18 iX0_init 0 := ⟨nw232, nw176, ⟨by decide, by decide, by decide +kernel⟩, by decide, rfl, Or.inr ⟨"HeelHounds", nw230⟩⟩
theorem mi_X11_25 : MLi RX11 25 iX7_init 1 := ⟨nw299, nw179, ⟨by decide, by decide, by decide +kernel⟩, by decide, rfl, Or.inr ⟨"HeelHounds", nw297⟩⟩
theorem mi_X11_34 : MLi RX11 34 iX4_init 1 := ⟨nw317, nw180, ⟨by decide, by decide, by decide +kernel⟩, by decide, rfl, Or.inr ⟨"HeelHounds", nw315⟩⟩
theorem mi_X11_41 : MLi RX11 41 iX6_init 1 := ⟨nw333, nw181, ⟨by decide, by decide, by decide +kernel⟩, by decide, rfl, Or.inr ⟨"HeelHounds", nw331⟩⟩
theorem mi_X11_48 : MLi RX11 48 iX5_init 0 := ⟨nw339, nw182, ⟨by decide, by decide, by decide +kernel⟩, by decide, rfl, Or.inr ⟨"HeelHounds", nw380⟩⟩
theorem mi_X11_55 : MLi RX11 55 iX2_init 2 := ⟨nw385, nw183, ⟨by decide, by decide, by decide +kernel⟩, by decide, rfl, Or.inr ⟨"HeelHounds", nw383⟩⟩
theorem mi_X11_64 : MLi RX11 64 iX9_init 1 := ⟨nw410, nw184, ⟨by decide, by decide, by decide +kernel⟩, by decide, rfl, Or.inr ⟨"HeelHounds", nw408⟩⟩
theorem mi_X11_73 : MLi RX11 73 iX8_init 0 := ⟨nw426, nw185, ⟨by decide, by decide, by decide +kernel⟩, by decide, rfl, Or.inr ⟨"HeelHounds", nw424⟩⟩
