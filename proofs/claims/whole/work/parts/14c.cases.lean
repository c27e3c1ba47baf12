theorem nw174 : (Jvm.Cond.initialized "HeelHounds") ∈ lw_tbl := lw_in1 (List.mem_of_getElem? (i := 1) (by decide +kernel))
theorem nw187 : (Jvm.Cond.initialized "HeelHoundsModel") ∈ lw_tbl := lw_in1 (List.mem_of_getElem? (i := 14) (by decide +kernel))
theorem nw490 : (Jvm.Cond.methodLink "HeelHoundsLaw" (13 : Nat) ({ cls := "HeelHounds", name := "hound", desc := "(III)Z" } : Jvm.MethodName)) ∈ lw_tbl := lw_in2 (List.mem_of_getElem? (i := 77) (by decide +kernel))
theorem nw491 : (Jvm.Cond.instanceMethod ({ cls := "HeelHounds", name := "hound", desc := "(III)Z" } : Jvm.MethodName)) ∈ lw_tbl := lw_in2 (List.mem_of_getElem? (i := 78) (by decide +kernel))
theorem nw492 : (Jvm.Cond.selects "HeelHounds" ({ cls := "HeelHounds", name := "hound", desc := "(III)Z" } : Jvm.MethodName) ({ cls := "HeelHounds", name := "hound", desc := "(III)Z" } : Jvm.MethodName)) ∈ lw_tbl := lw_in2 (List.mem_of_getElem? (i := 79) (by decide +kernel))
theorem nw493 : (Jvm.Cond.code ({ cls := "HeelHounds", name := "hound", desc := "(III)Z" } : Jvm.MethodName) prog_1_method_2_code (4 : Nat) (Option.some Jvm.ClassFile.FieldType.boolean)) ∈ lw_tbl := lw_in2 (List.mem_of_getElem? (i := 80) (by decide +kernel))
theorem nw508 : (Jvm.Cond.methodLink "HeelHoundsLaw" (18 : Nat) ({ cls := "HeelHounds", name := "fading", desc := "(I)Z" } : Jvm.MethodName)) ∈ lw_tbl := lw_in2 (List.mem_of_getElem? (i := 95) (by decide +kernel))
theorem nw509 : (Jvm.Cond.instanceMethod ({ cls := "HeelHounds", name := "fading", desc := "(I)Z" } : Jvm.MethodName)) ∈ lw_tbl := lw_in2 (List.mem_of_getElem? (i := 96) (by decide +kernel))
theorem nw510 : (Jvm.Cond.selects "HeelHounds" ({ cls := "HeelHounds", name := "fading", desc := "(I)Z" } : Jvm.MethodName) ({ cls := "HeelHounds", name := "fading", desc := "(I)Z" } : Jvm.MethodName)) ∈ lw_tbl := lw_in2 (List.mem_of_getElem? (i := 97) (by decide +kernel))
theorem nw511 : (Jvm.Cond.code ({ cls := "HeelHounds", name := "fading", desc := "(I)Z" } : Jvm.MethodName) prog_1_method_3_code (2 : Nat) (Option.some Jvm.ClassFile.FieldType.boolean)) ∈ lw_tbl := lw_in2 (List.mem_of_getElem? (i := 98) (by decide +kernel))
theorem nw512 : (Jvm.Cond.methodLink "HeelHoundsLaw" (23 : Nat) ({ cls := "HeelHounds", name := "time", desc := "(I)Z" } : Jvm.MethodName)) ∈ lw_tbl := lw_in2 (List.mem_of_getElem? (i := 99) (by decide +kernel))
theorem nw513 : (Jvm.Cond.instanceMethod ({ cls := "HeelHounds", name := "time", desc := "(I)Z" } : Jvm.MethodName)) ∈ lw_tbl := lw_in2 (List.mem_of_getElem? (i := 100) (by decide +kernel))
theorem nw514 : (Jvm.Cond.selects "HeelHounds" ({ cls := "HeelHounds", name := "time", desc := "(I)Z" } : Jvm.MethodName) ({ cls := "HeelHounds", name := "time", desc := "(I)Z" } : Jvm.MethodName)) ∈ lw_tbl := lw_in2 (List.mem_of_getElem? (i := 101) (by decide +kernel))
theorem nw515 : (Jvm.Cond.code ({ cls := "HeelHounds", name := "time", desc := "(I)Z" } : Jvm.MethodName) prog_1_method_4_code (2 : Nat) (Option.some Jvm.ClassFile.FieldType.boolean)) ∈ lw_tbl := lw_in2 (List.mem_of_getElem? (i := 102) (by decide +kernel))
theorem nw516 : (Jvm.Cond.methodLink "HeelHoundsLaw" (27 : Nat) ({ cls := "HeelHounds", name := "feed", desc := "(IIIII)I" } : Jvm.MethodName)) ∈ lw_tbl := lw_in2 (List.mem_of_getElem? (i := 103) (by decide +kernel))
theorem nw517 : (Jvm.Cond.instanceMethod ({ cls := "HeelHounds", name := "feed", desc := "(IIIII)I" } : Jvm.MethodName)) ∈ lw_tbl := lw_in2 (List.mem_of_getElem? (i := 104) (by decide +kernel))
theorem nw518 : (Jvm.Cond.selects "HeelHounds" ({ cls := "HeelHounds", name := "feed", desc := "(IIIII)I" } : Jvm.MethodName) ({ cls := "HeelHounds", name := "feed", desc := "(IIIII)I" } : Jvm.MethodName)) ∈ lw_tbl := lw_in2 (List.mem_of_getElem? (i := 105) (by decide +kernel))
theorem nw519 : (Jvm.Cond.code ({ cls := "HeelHounds", name := "feed", desc := "(IIIII)I" } : Jvm.MethodName) prog_1_method_5_code (6 : Nat) (Option.some Jvm.ClassFile.FieldType.int)) ∈ lw_tbl := lw_in2 (List.mem_of_getElem? (i := 106) (by decide +kernel))
theorem nw528 : (Jvm.Cond.methodLink "HeelHoundsLaw" (32 : Nat) ({ cls := "HeelHounds", name := "law", desc := "(I)I" } : Jvm.MethodName)) ∈ lw_tbl := lw_in2 (List.mem_of_getElem? (i := 115) (by decide +kernel))
theorem nw529 : (Jvm.Cond.instanceMethod ({ cls := "HeelHounds", name := "law", desc := "(I)I" } : Jvm.MethodName)) ∈ lw_tbl := lw_in2 (List.mem_of_getElem? (i := 116) (by decide +kernel))
theorem nw530 : (Jvm.Cond.selects "HeelHounds" ({ cls := "HeelHounds", name := "law", desc := "(I)I" } : Jvm.MethodName) ({ cls := "HeelHounds", name := "law", desc := "(I)I" } : Jvm.MethodName)) ∈ lw_tbl := lw_in2 (List.mem_of_getElem? (i := 117) (by decide +kernel))
theorem nw531 : (Jvm.Cond.code ({ cls := "HeelHounds", name := "law", desc := "(I)I" } : Jvm.MethodName) prog_1_method_6_code (2 : Nat) (Option.some Jvm.ClassFile.FieldType.int)) ∈ lw_tbl := lw_in2 (List.mem_of_getElem? (i := 118) (by decide +kernel))
theorem nw666 : (Jvm.Cond.methodLink "HeelHoundsLaw" (37 : Nat) ({ cls := "HeelHounds", name := "line", desc := "(IIIII)I" } : Jvm.MethodName)) ∈ lw_tbl := lw_in3 (List.mem_of_getElem? (i := 13) (by decide +kernel))
theorem nw667 : (Jvm.Cond.instanceMethod ({ cls := "HeelHounds", name := "line", desc := "(IIIII)I" } : Jvm.MethodName)) ∈ lw_tbl := lw_in3 (List.mem_of_getElem? (i := 14) (by decide +kernel))
theorem nw668 : (Jvm.Cond.selects "HeelHounds" ({ cls := "HeelHounds", name := "line", desc := "(IIIII)I" } : Jvm.MethodName) ({ cls := "HeelHounds", name := "line", desc := "(IIIII)I" } : Jvm.MethodName)) ∈ lw_tbl := lw_in3 (List.mem_of_getElem? (i := 15) (by decide +kernel))
theorem nw669 : (Jvm.Cond.code ({ cls := "HeelHounds", name := "line", desc := "(IIIII)I" } : Jvm.MethodName) prog_1_method_7_code (7 : Nat) (Option.some Jvm.ClassFile.FieldType.int)) ∈ lw_tbl := lw_in3 (List.mem_of_getElem? (i := 16) (by decide +kernel))
theorem nw722 : (Jvm.Cond.methodLink "HeelHoundsLaw" (41 : Nat) ({ cls := "HeelHounds", name := "land", desc := "(I)I" } : Jvm.MethodName)) ∈ lw_tbl := lw_in3 (List.mem_of_getElem? (i := 69) (by decide +kernel))
theorem nw723 : (Jvm.Cond.instanceMethod ({ cls := "HeelHounds", name := "land", desc := "(I)I" } : Jvm.MethodName)) ∈ lw_tbl := lw_in3 (List.mem_of_getElem? (i := 70) (by decide +kernel))
theorem nw724 : (Jvm.Cond.selects "HeelHounds" ({ cls := "HeelHounds", name := "land", desc := "(I)I" } : Jvm.MethodName) ({ cls := "HeelHounds", name := "land", desc := "(I)I" } : Jvm.MethodName)) ∈ lw_tbl := lw_in3 (List.mem_of_getElem? (i := 71) (by decide +kernel))
theorem nw725 : (Jvm.Cond.code ({ cls := "HeelHounds", name := "land", desc := "(I)I" } : Jvm.MethodName) prog_1_method_8_code (2 : Nat) (Option.some Jvm.ClassFile.FieldType.int)) ∈ lw_tbl := lw_in3 (List.mem_of_getElem? (i := 72) (by decide +kernel))
theorem nw775 : (Jvm.Cond.methodLink "HeelHoundsLaw" (45 : Nat) ({ cls := "HeelHounds", name := "moments", desc := "(I)I" } : Jvm.MethodName)) ∈ lw_tbl := lw_in3 (List.mem_of_getElem? (i := 122) (by decide +kernel))
theorem nw776 : (Jvm.Cond.instanceMethod ({ cls := "HeelHounds", name := "moments", desc := "(I)I" } : Jvm.MethodName)) ∈ lw_tbl := lw_in3 (List.mem_of_getElem? (i := 123) (by decide +kernel))
theorem nw777 : (Jvm.Cond.selects "HeelHounds" ({ cls := "HeelHounds", name := "moments", desc := "(I)I" } : Jvm.MethodName) ({ cls := "HeelHounds", name := "moments", desc := "(I)I" } : Jvm.MethodName)) ∈ lw_tbl := lw_in3 (List.mem_of_getElem? (i := 124) (by decide +kernel))
theorem nw778 : (Jvm.Cond.code ({ cls := "HeelHounds", name := "moments", desc := "(I)I" } : Jvm.MethodName) prog_1_method_9_code (3 : Nat) (Option.some Jvm.ClassFile.FieldType.int)) ∈ lw_tbl := lw_in3 (List.mem_of_getElem? (i := 125) (by decide +kernel))
theorem nw902 : (Jvm.Cond.methodLink "HeelHoundsLaw" (49 : Nat) ({ cls := "HeelHounds", name := "tried", desc := "(II)I" } : Jvm.MethodName)) ∈ lw_tbl := lw_in4 (List.mem_of_getElem? (i := 9) (by decide +kernel))
theorem nw903 : (Jvm.Cond.instanceMethod ({ cls := "HeelHounds", name := "tried", desc := "(II)I" } : Jvm.MethodName)) ∈ lw_tbl := lw_in4 (List.mem_of_getElem? (i := 10) (by decide +kernel))
theorem nw904 : (Jvm.Cond.selects "HeelHounds" ({ cls := "HeelHounds", name := "tried", desc := "(II)I" } : Jvm.MethodName) ({ cls := "HeelHounds", name := "tried", desc := "(II)I" } : Jvm.MethodName)) ∈ lw_tbl := lw_in4 (List.mem_of_getElem? (i := 11) (by decide +kernel))
theorem nw905 : (Jvm.Cond.code ({ cls := "HeelHounds", name := "tried", desc := "(II)I" } : Jvm.MethodName) prog_1_method_10_code (4 : Nat) (Option.some Jvm.ClassFile.FieldType.int)) ∈ lw_tbl := lw_in4 (List.mem_of_getElem? (i := 12) (by decide +kernel))
theorem nw923 : (Jvm.Cond.methodLink "HeelHoundsLaw" (54 : Nat) ({ cls := "HeelHounds", name := "houndIs", desc := "(II)I" } : Jvm.MethodName)) ∈ lw_tbl := lw_in4 (List.mem_of_getElem? (i := 30) (by decide +kernel))
theorem nw924 : (Jvm.Cond.instanceMethod ({ cls := "HeelHounds", name := "houndIs", desc := "(II)I" } : Jvm.MethodName)) ∈ lw_tbl := lw_in4 (List.mem_of_getElem? (i := 31) (by decide +kernel))
theorem nw925 : (Jvm.Cond.selects "HeelHounds" ({ cls := "HeelHounds", name := "houndIs", desc := "(II)I" } : Jvm.MethodName) ({ cls := "HeelHounds", name := "houndIs", desc := "(II)I" } : Jvm.MethodName)) ∈ lw_tbl := lw_in4 (List.mem_of_getElem? (i := 32) (by decide +kernel))
theorem nw926 : (Jvm.Cond.code ({ cls := "HeelHounds", name := "houndIs", desc := "(II)I" } : Jvm.MethodName) prog_1_method_11_code (3 : Nat) (Option.some Jvm.ClassFile.FieldType.int)) ∈ lw_tbl := lw_in4 (List.mem_of_getElem? (i := 33) (by decide +kernel))
theorem nw928 : (Jvm.Cond.methodLink "HeelHoundsLaw" (58 : Nat) ({ cls := "HeelHounds", name := "where", desc := "(II)I" } : Jvm.MethodName)) ∈ lw_tbl := lw_in4 (List.mem_of_getElem? (i := 35) (by decide +kernel))
theorem nw929 : (Jvm.Cond.instanceMethod ({ cls := "HeelHounds", name := "where", desc := "(II)I" } : Jvm.MethodName)) ∈ lw_tbl := lw_in4 (List.mem_of_getElem? (i := 36) (by decide +kernel))
theorem nw930 : (Jvm.Cond.selects "HeelHounds" ({ cls := "HeelHounds", name := "where", desc := "(II)I" } : Jvm.MethodName) ({ cls := "HeelHounds", name := "where", desc := "(II)I" } : Jvm.MethodName)) ∈ lw_tbl := lw_in4 (List.mem_of_getElem? (i := 37) (by decide +kernel))
theorem nw931 : (Jvm.Cond.code ({ cls := "HeelHounds", name := "where", desc := "(II)I" } : Jvm.MethodName) prog_1_method_12_code (4 : Nat) (Option.some Jvm.ClassFile.FieldType.int)) ∈ lw_tbl := lw_in4 (List.mem_of_getElem? (i := 38) (by decide +kernel))
theorem nw934 : (Jvm.Cond.methodLink "HeelHoundsLaw" (62 : Nat) ({ cls := "HeelHounds", name := "freshest", desc := "(III)I" } : Jvm.MethodName)) ∈ lw_tbl := lw_in4 (List.mem_of_getElem? (i := 41) (by decide +kernel))
theorem nw935 : (Jvm.Cond.instanceMethod ({ cls := "HeelHounds", name := "freshest", desc := "(III)I" } : Jvm.MethodName)) ∈ lw_tbl := lw_in4 (List.mem_of_getElem? (i := 42) (by decide +kernel))
theorem nw936 : (Jvm.Cond.selects "HeelHounds" ({ cls := "HeelHounds", name := "freshest", desc := "(III)I" } : Jvm.MethodName) ({ cls := "HeelHounds", name := "freshest", desc := "(III)I" } : Jvm.MethodName)) ∈ lw_tbl := lw_in4 (List.mem_of_getElem? (i := 43) (by decide +kernel))
theorem nw937 : (Jvm.Cond.code ({ cls := "HeelHounds", name := "freshest", desc := "(III)I" } : Jvm.MethodName) prog_1_method_13_code (5 : Nat) (Option.some Jvm.ClassFile.FieldType.int)) ∈ lw_tbl := lw_in4 (List.mem_of_getElem? (i := 44) (by decide +kernel))
theorem nw967 : (Jvm.Cond.methodLink "HeelHoundsLaw" (67 : Nat) ({ cls := "HeelHounds", name := "firstHome", desc := "(II)I" } : Jvm.MethodName)) ∈ lw_tbl := lw_in4 (List.mem_of_getElem? (i := 74) (by decide +kernel))
theorem nw968 : (Jvm.Cond.instanceMethod ({ cls := "HeelHounds", name := "firstHome", desc := "(II)I" } : Jvm.MethodName)) ∈ lw_tbl := lw_in4 (List.mem_of_getElem? (i := 75) (by decide +kernel))
theorem nw969 : (Jvm.Cond.selects "HeelHounds" ({ cls := "HeelHounds", name := "firstHome", desc := "(II)I" } : Jvm.MethodName) ({ cls := "HeelHounds", name := "firstHome", desc := "(II)I" } : Jvm.MethodName)) ∈ lw_tbl := lw_in4 (List.mem_of_getElem? (i := 76) (by decide +kernel))
theorem nw970 : (Jvm.Cond.code ({ cls := "HeelHounds", name := "firstHome", desc := "(II)I" } : Jvm.MethodName) prog_1_method_14_code (5 : Nat) (Option.some Jvm.ClassFile.FieldType.int)) ∈ lw_tbl := lw_in4 (List.mem_of_getElem? (i := 77) (by decide +kernel))
theorem nw975 : (Jvm.Cond.methodLink "HeelHoundsLaw" (71 : Nat) ({ cls := "HeelHounds", name := "two", desc := "(III)I" } : Jvm.MethodName)) ∈ lw_tbl := lw_in4 (List.mem_of_getElem? (i := 82) (by decide +kernel))
theorem nw976 : (Jvm.Cond.instanceMethod ({ cls := "HeelHounds", name := "two", desc := "(III)I" } : Jvm.MethodName)) ∈ lw_tbl := lw_in4 (List.mem_of_getElem? (i := 83) (by decide +kernel))
theorem nw977 : (Jvm.Cond.selects "HeelHounds" ({ cls := "HeelHounds", name := "two", desc := "(III)I" } : Jvm.MethodName) ({ cls := "HeelHounds", name := "two", desc := "(III)I" } : Jvm.MethodName)) ∈ lw_tbl := lw_in4 (List.mem_of_getElem? (i := 84) (by decide +kernel))
theorem nw978 : (Jvm.Cond.code ({ cls := "HeelHounds", name := "two", desc := "(III)I" } : Jvm.MethodName) prog_1_method_15_code (6 : Nat) (Option.some Jvm.ClassFile.FieldType.int)) ∈ lw_tbl := lw_in4 (List.mem_of_getElem? (i := 85) (by decide +kernel))
theorem nw1017 : (Jvm.Cond.methodLink "HeelHoundsLaw" (75 : Nat) ({ cls := "HeelHounds", name := "together", desc := "(III)I" } : Jvm.MethodName)) ∈ lw_tbl := lw_in4 (List.mem_of_getElem? (i := 124) (by decide +kernel))
theorem nw1018 : (Jvm.Cond.instanceMethod ({ cls := "HeelHounds", name := "together", desc := "(III)I" } : Jvm.MethodName)) ∈ lw_tbl := lw_in4 (List.mem_of_getElem? (i := 125) (by decide +kernel))
theorem nw1019 : (Jvm.Cond.selects "HeelHounds" ({ cls := "HeelHounds", name := "together", desc := "(III)I" } : Jvm.MethodName) ({ cls := "HeelHounds", name := "together", desc := "(III)I" } : Jvm.MethodName)) ∈ lw_tbl := lw_in4 (List.mem_of_getElem? (i := 126) (by decide +kernel))
theorem nw1020 : (Jvm.Cond.code ({ cls := "HeelHounds", name := "together", desc := "(III)I" } : Jvm.MethodName) prog_1_method_16_code (6 : Nat) (Option.some Jvm.ClassFile.FieldType.int)) ∈ lw_tbl := lw_in4 (List.mem_of_getElem? (i := 127) (by decide +kernel))
theorem nw1025 : (Jvm.Cond.methodLink "HeelHoundsLaw" (79 : Nat) ({ cls := "HeelHounds", name := "crowd", desc := "(II)I" } : Jvm.MethodName)) ∈ lw_tbl := lw_in4 (List.mem_of_getElem? (i := 132) (by decide +kernel))
theorem nw1026 : (Jvm.Cond.instanceMethod ({ cls := "HeelHounds", name := "crowd", desc := "(II)I" } : Jvm.MethodName)) ∈ lw_tbl := lw_in4 (List.mem_of_getElem? (i := 133) (by decide +kernel))
theorem nw1027 : (Jvm.Cond.selects "HeelHounds" ({ cls := "HeelHounds", name := "crowd", desc := "(II)I" } : Jvm.MethodName) ({ cls := "HeelHounds", name := "crowd", desc := "(II)I" } : Jvm.MethodName)) ∈ lw_tbl := lw_in4 (List.mem_of_getElem? (i := 134) (by decide +kernel))
theorem nw1028 : (Jvm.Cond.code ({ cls := "HeelHounds", name := "crowd", desc := "(II)I" } : Jvm.MethodName) prog_1_method_17_code (4 : Nat) (Option.some Jvm.ClassFile.FieldType.int)) ∈ lw_tbl := lw_in4 (List.mem_of_getElem? (i := 135) (by decide +kernel))
theorem nw1039 : (Jvm.Cond.methodLink "HeelHoundsLaw" (83 : Nat) ({ cls := "HeelHounds", name := "stayed", desc := "(II)I" } : Jvm.MethodName)) ∈ lw_tbl := lw_in4 (List.mem_of_getElem? (i := 146) (by decide +kernel))
theorem nw1040 : (Jvm.Cond.instanceMethod ({ cls := "HeelHounds", name := "stayed", desc := "(II)I" } : Jvm.MethodName)) ∈ lw_tbl := lw_in4 (List.mem_of_getElem? (i := 147) (by decide +kernel))
theorem nw1041 : (Jvm.Cond.selects "HeelHounds" ({ cls := "HeelHounds", name := "stayed", desc := "(II)I" } : Jvm.MethodName) ({ cls := "HeelHounds", name := "stayed", desc := "(II)I" } : Jvm.MethodName)) ∈ lw_tbl := lw_in4 (List.mem_of_getElem? (i := 148) (by decide +kernel))
theorem nw1042 : (Jvm.Cond.code ({ cls := "HeelHounds", name := "stayed", desc := "(II)I" } : Jvm.MethodName) prog_1_method_18_code (4 : Nat) (Option.some Jvm.ClassFile.FieldType.int)) ∈ lw_tbl := lw_in4 (List.mem_of_getElem? (i := 149) (by decide +kernel))
theorem nw1055 : (Jvm.Cond.methodLink "HeelHoundsLaw" (87 : Nat) ({ cls := "HeelHounds", name := "unlooped", desc := "(II)I" } : Jvm.MethodName)) ∈ lw_tbl := lw_in4 (List.mem_of_getElem? (i := 162) (by decide +kernel))
theorem nw1056 : (Jvm.Cond.instanceMethod ({ cls := "HeelHounds", name := "unlooped", desc := "(II)I" } : Jvm.MethodName)) ∈ lw_tbl := lw_in4 (List.mem_of_getElem? (i := 163) (by decide +kernel))
theorem nw1057 : (Jvm.Cond.selects "HeelHounds" ({ cls := "HeelHounds", name := "unlooped", desc := "(II)I" } : Jvm.MethodName) ({ cls := "HeelHounds", name := "unlooped", desc := "(II)I" } : Jvm.MethodName)) ∈ lw_tbl := lw_in4 (List.mem_of_getElem? (i := 164) (by decide +kernel))
theorem nw1058 : (Jvm.Cond.code ({ cls := "HeelHounds", name := "unlooped", desc := "(II)I" } : Jvm.MethodName) prog_1_method_19_code (5 : Nat) (Option.some Jvm.ClassFile.FieldType.int)) ∈ lw_tbl := lw_in4 (List.mem_of_getElem? (i := 165) (by decide +kernel))
theorem nw1068 : (Jvm.Cond.methodLink "HeelHoundsLaw" (91 : Nat) ({ cls := "HeelHounds", name := "charges", desc := "(II)I" } : Jvm.MethodName)) ∈ lw_tbl := lw_in4 (List.mem_of_getElem? (i := 175) (by decide +kernel))
theorem nw1069 : (Jvm.Cond.instanceMethod ({ cls := "HeelHounds", name := "charges", desc := "(II)I" } : Jvm.MethodName)) ∈ lw_tbl := lw_in4 (List.mem_of_getElem? (i := 176) (by decide +kernel))
theorem nw1070 : (Jvm.Cond.selects "HeelHounds" ({ cls := "HeelHounds", name := "charges", desc := "(II)I" } : Jvm.MethodName) ({ cls := "HeelHounds", name := "charges", desc := "(II)I" } : Jvm.MethodName)) ∈ lw_tbl := lw_in4 (List.mem_of_getElem? (i := 177) (by decide +kernel))
theorem nw1071 : (Jvm.Cond.code ({ cls := "HeelHounds", name := "charges", desc := "(II)I" } : Jvm.MethodName) prog_1_method_20_code (4 : Nat) (Option.some Jvm.ClassFile.FieldType.int)) ∈ lw_tbl := lw_in4 (List.mem_of_getElem? (i := 178) (by decide +kernel))
theorem nw1090 : (Jvm.Cond.methodLink "HeelHoundsLaw" (95 : Nat) ({ cls := "HeelHounds", name := "round", desc := "(II)I" } : Jvm.MethodName)) ∈ lw_tbl := lw_in4 (List.mem_of_getElem? (i := 197) (by decide +kernel))
theorem nw1091 : (Jvm.Cond.instanceMethod ({ cls := "HeelHounds", name := "round", desc := "(II)I" } : Jvm.MethodName)) ∈ lw_tbl := lw_in4 (List.mem_of_getElem? (i := 198) (by decide +kernel))
theorem nw1092 : (Jvm.Cond.selects "HeelHounds" ({ cls := "HeelHounds", name := "round", desc := "(II)I" } : Jvm.MethodName) ({ cls := "HeelHounds", name := "round", desc := "(II)I" } : Jvm.MethodName)) ∈ lw_tbl := lw_in4 (List.mem_of_getElem? (i := 199) (by decide +kernel))
theorem nw1093 : (Jvm.Cond.code ({ cls := "HeelHounds", name := "round", desc := "(II)I" } : Jvm.MethodName) prog_1_method_21_code (3 : Nat) (Option.some Jvm.ClassFile.FieldType.int)) ∈ lw_tbl := lw_in4 (List.mem_of_getElem? (i := 200) (by decide +kernel))
theorem nw1109 : (Jvm.Cond.methodLink "HeelHoundsLaw" (99 : Nat) ({ cls := "HeelHounds", name := "cast", desc := "(I)I" } : Jvm.MethodName)) ∈ lw_tbl := lw_in4 (List.mem_of_getElem? (i := 216) (by decide +kernel))
theorem nw1110 : (Jvm.Cond.instanceMethod ({ cls := "HeelHounds", name := "cast", desc := "(I)I" } : Jvm.MethodName)) ∈ lw_tbl := lw_in4 (List.mem_of_getElem? (i := 217) (by decide +kernel))
theorem nw1111 : (Jvm.Cond.selects "HeelHounds" ({ cls := "HeelHounds", name := "cast", desc := "(I)I" } : Jvm.MethodName) ({ cls := "HeelHounds", name := "cast", desc := "(I)I" } : Jvm.MethodName)) ∈ lw_tbl := lw_in4 (List.mem_of_getElem? (i := 218) (by decide +kernel))
theorem nw1112 : (Jvm.Cond.code ({ cls := "HeelHounds", name := "cast", desc := "(I)I" } : Jvm.MethodName) prog_1_method_22_code (2 : Nat) (Option.some Jvm.ClassFile.FieldType.int)) ∈ lw_tbl := lw_in4 (List.mem_of_getElem? (i := 219) (by decide +kernel))
theorem nw1119 : (Jvm.Cond.methodLink "HeelHoundsLaw" (103 : Nat) ({ cls := "HeelHounds", name := "huntable", desc := "(I)I" } : Jvm.MethodName)) ∈ lw_tbl := lw_in4 (List.mem_of_getElem? (i := 226) (by decide +kernel))
theorem nw1120 : (Jvm.Cond.instanceMethod ({ cls := "HeelHounds", name := "huntable", desc := "(I)I" } : Jvm.MethodName)) ∈ lw_tbl := lw_in4 (List.mem_of_getElem? (i := 227) (by decide +kernel))
theorem nw1121 : (Jvm.Cond.selects "HeelHounds" ({ cls := "HeelHounds", name := "huntable", desc := "(I)I" } : Jvm.MethodName) ({ cls := "HeelHounds", name := "huntable", desc := "(I)I" } : Jvm.MethodName)) ∈ lw_tbl := lw_in4 (List.mem_of_getElem? (i := 228) (by decide +kernel))
theorem nw1122 : (Jvm.Cond.code ({ cls := "HeelHounds", name := "huntable", desc := "(I)I" } : Jvm.MethodName) prog_1_method_23_code (2 : Nat) (Option.some Jvm.ClassFile.FieldType.int)) ∈ lw_tbl := lw_in4 (List.mem_of_getElem? (i := 229) (by decide +kernel))
theorem nw1129 : (Jvm.Cond.methodLink "HeelHoundsLaw" (107 : Nat) ({ cls := "HeelHounds", name := "couldBe", desc := "(II)I" } : Jvm.MethodName)) ∈ lw_tbl := lw_in4 (List.mem_of_getElem? (i := 236) (by decide +kernel))
theorem nw1130 : (Jvm.Cond.instanceMethod ({ cls := "HeelHounds", name := "couldBe", desc := "(II)I" } : Jvm.MethodName)) ∈ lw_tbl := lw_in4 (List.mem_of_getElem? (i := 237) (by decide +kernel))
theorem nw1131 : (Jvm.Cond.selects "HeelHounds" ({ cls := "HeelHounds", name := "couldBe", desc := "(II)I" } : Jvm.MethodName) ({ cls := "HeelHounds", name := "couldBe", desc := "(II)I" } : Jvm.MethodName)) ∈ lw_tbl := lw_in4 (List.mem_of_getElem? (i := 238) (by decide +kernel))
theorem nw1132 : (Jvm.Cond.code ({ cls := "HeelHounds", name := "couldBe", desc := "(II)I" } : Jvm.MethodName) prog_1_method_24_code (5 : Nat) (Option.some Jvm.ClassFile.FieldType.int)) ∈ lw_tbl := lw_in4 (List.mem_of_getElem? (i := 239) (by decide +kernel))
theorem nw1149 : (Jvm.Cond.methodLink "HeelHoundsLaw" (111 : Nat) ({ cls := "HeelHounds", name := "heldIn", desc := "(I)I" } : Jvm.MethodName)) ∈ lw_tbl := lw_in5 (List.mem_of_getElem? (i := 16) (by decide +kernel))
theorem nw1150 : (Jvm.Cond.instanceMethod ({ cls := "HeelHounds", name := "heldIn", desc := "(I)I" } : Jvm.MethodName)) ∈ lw_tbl := lw_in5 (List.mem_of_getElem? (i := 17) (by decide +kernel))
theorem nw1151 : (Jvm.Cond.selects "HeelHounds" ({ cls := "HeelHounds", name := "heldIn", desc := "(I)I" } : Jvm.MethodName) ({ cls := "HeelHounds", name := "heldIn", desc := "(I)I" } : Jvm.MethodName)) ∈ lw_tbl := lw_in5 (List.mem_of_getElem? (i := 18) (by decide +kernel))
theorem nw1152 : (Jvm.Cond.code ({ cls := "HeelHounds", name := "heldIn", desc := "(I)I" } : Jvm.MethodName) prog_1_method_25_code (3 : Nat) (Option.some Jvm.ClassFile.FieldType.int)) ∈ lw_tbl := lw_in5 (List.mem_of_getElem? (i := 19) (by decide +kernel))
theorem nw1160 : (Jvm.Cond.methodLink "HeelHoundsLaw" (115 : Nat) ({ cls := "HeelHounds", name := "lineIs", desc := "(II)I" } : Jvm.MethodName)) ∈ lw_tbl := lw_in5 (List.mem_of_getElem? (i := 27) (by decide +kernel))
theorem nw1161 : (Jvm.Cond.instanceMethod ({ cls := "HeelHounds", name := "lineIs", desc := "(II)I" } : Jvm.MethodName)) ∈ lw_tbl := lw_in5 (List.mem_of_getElem? (i := 28) (by decide +kernel))
theorem nw1162 : (Jvm.Cond.selects "HeelHounds" ({ cls := "HeelHounds", name := "lineIs", desc := "(II)I" } : Jvm.MethodName) ({ cls := "HeelHounds", name := "lineIs", desc := "(II)I" } : Jvm.MethodName)) ∈ lw_tbl := lw_in5 (List.mem_of_getElem? (i := 29) (by decide +kernel))
theorem nw1163 : (Jvm.Cond.code ({ cls := "HeelHounds", name := "lineIs", desc := "(II)I" } : Jvm.MethodName) prog_1_method_26_code (4 : Nat) (Option.some Jvm.ClassFile.FieldType.int)) ∈ lw_tbl := lw_in5 (List.mem_of_getElem? (i := 30) (by decide +kernel))
theorem nw1185 : (Jvm.Cond.methodLink "HeelHoundsLaw" (119 : Nat) ({ cls := "HeelHounds", name := "landAt", desc := "(II)I" } : Jvm.MethodName)) ∈ lw_tbl := lw_in5 (List.mem_of_getElem? (i := 52) (by decide +kernel))
theorem nw1186 : (Jvm.Cond.instanceMethod ({ cls := "HeelHounds", name := "landAt", desc := "(II)I" } : Jvm.MethodName)) ∈ lw_tbl := lw_in5 (List.mem_of_getElem? (i := 53) (by decide +kernel))
theorem nw1187 : (Jvm.Cond.selects "HeelHounds" ({ cls := "HeelHounds", name := "landAt", desc := "(II)I" } : Jvm.MethodName) ({ cls := "HeelHounds", name := "landAt", desc := "(II)I" } : Jvm.MethodName)) ∈ lw_tbl := lw_in5 (List.mem_of_getElem? (i := 54) (by decide +kernel))
theorem nw1188 : (Jvm.Cond.code ({ cls := "HeelHounds", name := "landAt", desc := "(II)I" } : Jvm.MethodName) prog_1_method_27_code (3 : Nat) (Option.some Jvm.ClassFile.FieldType.int)) ∈ lw_tbl := lw_in5 (List.mem_of_getElem? (i := 55) (by decide +kernel))
theorem nw1190 : (Jvm.Cond.methodLink "HeelHoundsLaw" (123 : Nat) ({ cls := "HeelHounds", name := "seed", desc := "(I)Z" } : Jvm.MethodName)) ∈ lw_tbl := lw_in5 (List.mem_of_getElem? (i := 57) (by decide +kernel))
theorem nw1191 : (Jvm.Cond.instanceMethod ({ cls := "HeelHounds", name := "seed", desc := "(I)Z" } : Jvm.MethodName)) ∈ lw_tbl := lw_in5 (List.mem_of_getElem? (i := 58) (by decide +kernel))
theorem nw1192 : (Jvm.Cond.selects "HeelHounds" ({ cls := "HeelHounds", name := "seed", desc := "(I)Z" } : Jvm.MethodName) ({ cls := "HeelHounds", name := "seed", desc := "(I)Z" } : Jvm.MethodName)) ∈ lw_tbl := lw_in5 (List.mem_of_getElem? (i := 59) (by decide +kernel))
theorem nw1193 : (Jvm.Cond.code ({ cls := "HeelHounds", name := "seed", desc := "(I)Z" } : Jvm.MethodName) prog_1_method_28_code (2 : Nat) (Option.some Jvm.ClassFile.FieldType.boolean)) ∈ lw_tbl := lw_in5 (List.mem_of_getElem? (i := 60) (by decide +kernel))
theorem nw1195 : (Jvm.Cond.methodLink "HeelHoundsLaw" (127 : Nat) ({ cls := "HeelHounds", name := "keep", desc := "()I" } : Jvm.MethodName)) ∈ lw_tbl := lw_in5 (List.mem_of_getElem? (i := 62) (by decide +kernel))
theorem nw1196 : (Jvm.Cond.instanceMethod ({ cls := "HeelHounds", name := "keep", desc := "()I" } : Jvm.MethodName)) ∈ lw_tbl := lw_in5 (List.mem_of_getElem? (i := 63) (by decide +kernel))
theorem nw1197 : (Jvm.Cond.selects "HeelHounds" ({ cls := "HeelHounds", name := "keep", desc := "()I" } : Jvm.MethodName) ({ cls := "HeelHounds", name := "keep", desc := "()I" } : Jvm.MethodName)) ∈ lw_tbl := lw_in5 (List.mem_of_getElem? (i := 64) (by decide +kernel))
theorem nw1198 : (Jvm.Cond.code ({ cls := "HeelHounds", name := "keep", desc := "()I" } : Jvm.MethodName) prog_1_method_29_code (1 : Nat) (Option.some Jvm.ClassFile.FieldType.int)) ∈ lw_tbl := lw_in5 (List.mem_of_getElem? (i := 65) (by decide +kernel))
theorem nw1199 : (Jvm.Cond.methodLink "HeelHoundsLaw" (132 : Nat) ({ cls := "HeelHounds", name := "undo", desc := "()Z" } : Jvm.MethodName)) ∈ lw_tbl := lw_in5 (List.mem_of_getElem? (i := 66) (by decide +kernel))
theorem nw1200 : (Jvm.Cond.instanceMethod ({ cls := "HeelHounds", name := "undo", desc := "()Z" } : Jvm.MethodName)) ∈ lw_tbl := lw_in5 (List.mem_of_getElem? (i := 67) (by decide +kernel))
theorem nw1201 : (Jvm.Cond.selects "HeelHounds" ({ cls := "HeelHounds", name := "undo", desc := "()Z" } : Jvm.MethodName) ({ cls := "HeelHounds", name := "undo", desc := "()Z" } : Jvm.MethodName)) ∈ lw_tbl := lw_in5 (List.mem_of_getElem? (i := 68) (by decide +kernel))
theorem nw1202 : (Jvm.Cond.code ({ cls := "HeelHounds", name := "undo", desc := "()Z" } : Jvm.MethodName) prog_1_method_30_code (1 : Nat) (Option.some Jvm.ClassFile.FieldType.boolean)) ∈ lw_tbl := lw_in5 (List.mem_of_getElem? (i := 69) (by decide +kernel))
theorem nw1203 : (Jvm.Cond.methodLink "HeelHoundsLaw" (137 : Nat) ({ cls := "HeelHounds", name := "check", desc := "(I)I" } : Jvm.MethodName)) ∈ lw_tbl := lw_in5 (List.mem_of_getElem? (i := 70) (by decide +kernel))
theorem nw1204 : (Jvm.Cond.instanceMethod ({ cls := "HeelHounds", name := "check", desc := "(I)I" } : Jvm.MethodName)) ∈ lw_tbl := lw_in5 (List.mem_of_getElem? (i := 71) (by decide +kernel))
theorem nw1205 : (Jvm.Cond.selects "HeelHounds" ({ cls := "HeelHounds", name := "check", desc := "(I)I" } : Jvm.MethodName) ({ cls := "HeelHounds", name := "check", desc := "(I)I" } : Jvm.MethodName)) ∈ lw_tbl := lw_in5 (List.mem_of_getElem? (i := 72) (by decide +kernel))
theorem nw1206 : (Jvm.Cond.code ({ cls := "HeelHounds", name := "check", desc := "(I)I" } : Jvm.MethodName) prog_1_method_31_code (5 : Nat) (Option.some Jvm.ClassFile.FieldType.int)) ∈ lw_tbl := lw_in5 (List.mem_of_getElem? (i := 73) (by decide +kernel))
theorem nw1207 : (Jvm.Cond.methodLink "HeelHoundsLaw" (141 : Nat) ({ cls := "HeelHounds", name := "count", desc := "(I)I" } : Jvm.MethodName)) ∈ lw_tbl := lw_in5 (List.mem_of_getElem? (i := 74) (by decide +kernel))
theorem nw1208 : (Jvm.Cond.instanceMethod ({ cls := "HeelHounds", name := "count", desc := "(I)I" } : Jvm.MethodName)) ∈ lw_tbl := lw_in5 (List.mem_of_getElem? (i := 75) (by decide +kernel))
theorem nw1209 : (Jvm.Cond.selects "HeelHounds" ({ cls := "HeelHounds", name := "count", desc := "(I)I" } : Jvm.MethodName) ({ cls := "HeelHounds", name := "count", desc := "(I)I" } : Jvm.MethodName)) ∈ lw_tbl := lw_in5 (List.mem_of_getElem? (i := 76) (by decide +kernel))
theorem nw1210 : (Jvm.Cond.code ({ cls := "HeelHounds", name := "count", desc := "(I)I" } : Jvm.MethodName) prog_1_method_32_code (2 : Nat) (Option.some Jvm.ClassFile.FieldType.int)) ∈ lw_tbl := lw_in5 (List.mem_of_getElem? (i := 77) (by decide +kernel))
theorem nw1397 : (Jvm.Cond.methodLink "HeelHoundsLaw" (17 : Nat) ({ cls := "HeelHoundsModel", name := "hound", desc := "(III)Z" } : Jvm.MethodName)) ∈ lw_tbl := lw_in6 (List.mem_of_getElem? (i := 24) (by decide +kernel))
theorem nw1398 : (Jvm.Cond.instanceMethod ({ cls := "HeelHoundsModel", name := "hound", desc := "(III)Z" } : Jvm.MethodName)) ∈ lw_tbl := lw_in6 (List.mem_of_getElem? (i := 25) (by decide +kernel))
theorem nw1399 : (Jvm.Cond.selects "HeelHoundsModel" ({ cls := "HeelHoundsModel", name := "hound", desc := "(III)Z" } : Jvm.MethodName) ({ cls := "HeelHoundsModel", name := "hound", desc := "(III)Z" } : Jvm.MethodName)) ∈ lw_tbl := lw_in6 (List.mem_of_getElem? (i := 26) (by decide +kernel))
theorem nw1400 : (Jvm.Cond.code ({ cls := "HeelHoundsModel", name := "hound", desc := "(III)Z" } : Jvm.MethodName) prog_14_method_13_code (4 : Nat) (Option.some Jvm.ClassFile.FieldType.boolean)) ∈ lw_tbl := lw_in6 (List.mem_of_getElem? (i := 27) (by decide +kernel))
theorem nw1407 : (Jvm.Cond.methodLink "HeelHoundsLaw" (22 : Nat) ({ cls := "HeelHoundsModel", name := "fading", desc := "(I)Z" } : Jvm.MethodName)) ∈ lw_tbl := lw_in6 (List.mem_of_getElem? (i := 34) (by decide +kernel))
theorem nw1408 : (Jvm.Cond.instanceMethod ({ cls := "HeelHoundsModel", name := "fading", desc := "(I)Z" } : Jvm.MethodName)) ∈ lw_tbl := lw_in6 (List.mem_of_getElem? (i := 35) (by decide +kernel))
theorem nw1409 : (Jvm.Cond.selects "HeelHoundsModel" ({ cls := "HeelHoundsModel", name := "fading", desc := "(I)Z" } : Jvm.MethodName) ({ cls := "HeelHoundsModel", name := "fading", desc := "(I)Z" } : Jvm.MethodName)) ∈ lw_tbl := lw_in6 (List.mem_of_getElem? (i := 36) (by decide +kernel))
theorem nw1410 : (Jvm.Cond.code ({ cls := "HeelHoundsModel", name := "fading", desc := "(I)Z" } : Jvm.MethodName) prog_14_method_14_code (2 : Nat) (Option.some Jvm.ClassFile.FieldType.boolean)) ∈ lw_tbl := lw_in6 (List.mem_of_getElem? (i := 37) (by decide +kernel))
theorem nw1411 : (Jvm.Cond.methodLink "HeelHoundsLaw" (26 : Nat) ({ cls := "HeelHoundsModel", name := "time", desc := "(I)Z" } : Jvm.MethodName)) ∈ lw_tbl := lw_in6 (List.mem_of_getElem? (i := 38) (by decide +kernel))
theorem nw1412 : (Jvm.Cond.instanceMethod ({ cls := "HeelHoundsModel", name := "time", desc := "(I)Z" } : Jvm.MethodName)) ∈ lw_tbl := lw_in6 (List.mem_of_getElem? (i := 39) (by decide +kernel))
theorem nw1413 : (Jvm.Cond.selects "HeelHoundsModel" ({ cls := "HeelHoundsModel", name := "time", desc := "(I)Z" } : Jvm.MethodName) ({ cls := "HeelHoundsModel", name := "time", desc := "(I)Z" } : Jvm.MethodName)) ∈ lw_tbl := lw_in6 (List.mem_of_getElem? (i := 40) (by decide +kernel))
theorem nw1414 : (Jvm.Cond.code ({ cls := "HeelHoundsModel", name := "time", desc := "(I)Z" } : Jvm.MethodName) prog_14_method_15_code (2 : Nat) (Option.some Jvm.ClassFile.FieldType.boolean)) ∈ lw_tbl := lw_in6 (List.mem_of_getElem? (i := 41) (by decide +kernel))
theorem nw1415 : (Jvm.Cond.methodLink "HeelHoundsLaw" (31 : Nat) ({ cls := "HeelHoundsModel", name := "feed", desc := "(IIIII)I" } : Jvm.MethodName)) ∈ lw_tbl := lw_in6 (List.mem_of_getElem? (i := 42) (by decide +kernel))
theorem nw1416 : (Jvm.Cond.instanceMethod ({ cls := "HeelHoundsModel", name := "feed", desc := "(IIIII)I" } : Jvm.MethodName)) ∈ lw_tbl := lw_in6 (List.mem_of_getElem? (i := 43) (by decide +kernel))
theorem nw1417 : (Jvm.Cond.selects "HeelHoundsModel" ({ cls := "HeelHoundsModel", name := "feed", desc := "(IIIII)I" } : Jvm.MethodName) ({ cls := "HeelHoundsModel", name := "feed", desc := "(IIIII)I" } : Jvm.MethodName)) ∈ lw_tbl := lw_in6 (List.mem_of_getElem? (i := 44) (by decide +kernel))
theorem nw1418 : (Jvm.Cond.code ({ cls := "HeelHoundsModel", name := "feed", desc := "(IIIII)I" } : Jvm.MethodName) prog_14_method_17_code (6 : Nat) (Option.some Jvm.ClassFile.FieldType.int)) ∈ lw_tbl := lw_in6 (List.mem_of_getElem? (i := 45) (by decide +kernel))
theorem nw1423 : (Jvm.Cond.methodLink "HeelHoundsLaw" (36 : Nat) ({ cls := "HeelHoundsModel", name := "law", desc := "(I)I" } : Jvm.MethodName)) ∈ lw_tbl := lw_in6 (List.mem_of_getElem? (i := 50) (by decide +kernel))
theorem nw1424 : (Jvm.Cond.instanceMethod ({ cls := "HeelHoundsModel", name := "law", desc := "(I)I" } : Jvm.MethodName)) ∈ lw_tbl := lw_in6 (List.mem_of_getElem? (i := 51) (by decide +kernel))
theorem nw1425 : (Jvm.Cond.selects "HeelHoundsModel" ({ cls := "HeelHoundsModel", name := "law", desc := "(I)I" } : Jvm.MethodName) ({ cls := "HeelHoundsModel", name := "law", desc := "(I)I" } : Jvm.MethodName)) ∈ lw_tbl := lw_in6 (List.mem_of_getElem? (i := 52) (by decide +kernel))
theorem nw1426 : (Jvm.Cond.code ({ cls := "HeelHoundsModel", name := "law", desc := "(I)I" } : Jvm.MethodName) prog_14_method_40_code (4 : Nat) (Option.some Jvm.ClassFile.FieldType.int)) ∈ lw_tbl := lw_in6 (List.mem_of_getElem? (i := 53) (by decide +kernel))
theorem nw1510 : (Jvm.Cond.methodLink "HeelHoundsLaw" (40 : Nat) ({ cls := "HeelHoundsModel", name := "line", desc := "(IIIII)I" } : Jvm.MethodName)) ∈ lw_tbl := lw_in6 (List.mem_of_getElem? (i := 137) (by decide +kernel))
theorem nw1511 : (Jvm.Cond.instanceMethod ({ cls := "HeelHoundsModel", name := "line", desc := "(IIIII)I" } : Jvm.MethodName)) ∈ lw_tbl := lw_in6 (List.mem_of_getElem? (i := 138) (by decide +kernel))
theorem nw1512 : (Jvm.Cond.selects "HeelHoundsModel" ({ cls := "HeelHoundsModel", name := "line", desc := "(IIIII)I" } : Jvm.MethodName) ({ cls := "HeelHoundsModel", name := "line", desc := "(IIIII)I" } : Jvm.MethodName)) ∈ lw_tbl := lw_in6 (List.mem_of_getElem? (i := 139) (by decide +kernel))
theorem nw1513 : (Jvm.Cond.code ({ cls := "HeelHoundsModel", name := "line", desc := "(IIIII)I" } : Jvm.MethodName) prog_14_method_50_code (8 : Nat) (Option.some Jvm.ClassFile.FieldType.int)) ∈ lw_tbl := lw_in6 (List.mem_of_getElem? (i := 140) (by decide +kernel))
theorem nw1532 : (Jvm.Cond.methodLink "HeelHoundsLaw" (44 : Nat) ({ cls := "HeelHoundsModel", name := "land", desc := "(I)I" } : Jvm.MethodName)) ∈ lw_tbl := lw_in6 (List.mem_of_getElem? (i := 159) (by decide +kernel))
theorem nw1533 : (Jvm.Cond.instanceMethod ({ cls := "HeelHoundsModel", name := "land", desc := "(I)I" } : Jvm.MethodName)) ∈ lw_tbl := lw_in6 (List.mem_of_getElem? (i := 160) (by decide +kernel))
theorem nw1534 : (Jvm.Cond.selects "HeelHoundsModel" ({ cls := "HeelHoundsModel", name := "land", desc := "(I)I" } : Jvm.MethodName) ({ cls := "HeelHoundsModel", name := "land", desc := "(I)I" } : Jvm.MethodName)) ∈ lw_tbl := lw_in6 (List.mem_of_getElem? (i := 161) (by decide +kernel))
theorem nw1535 : (Jvm.Cond.code ({ cls := "HeelHoundsModel", name := "land", desc := "(I)I" } : Jvm.MethodName) prog_14_method_55_code (4 : Nat) (Option.some Jvm.ClassFile.FieldType.int)) ∈ lw_tbl := lw_in6 (List.mem_of_getElem? (i := 162) (by decide +kernel))
theorem nw1548 : (Jvm.Cond.methodLink "HeelHoundsLaw" (122 : Nat) ({ cls := "HeelHoundsModel", name := "landAt", desc := "(II)I" } : Jvm.MethodName)) ∈ lw_tbl := lw_in6 (List.mem_of_getElem? (i := 175) (by decide +kernel))
theorem nw1549 : (Jvm.Cond.instanceMethod ({ cls := "HeelHoundsModel", name := "landAt", desc := "(II)I" } : Jvm.MethodName)) ∈ lw_tbl := lw_in6 (List.mem_of_getElem? (i := 176) (by decide +kernel))
theorem nw1550 : (Jvm.Cond.selects "HeelHoundsModel" ({ cls := "HeelHoundsModel", name := "landAt", desc := "(II)I" } : Jvm.MethodName) ({ cls := "HeelHoundsModel", name := "landAt", desc := "(II)I" } : Jvm.MethodName)) ∈ lw_tbl := lw_in6 (List.mem_of_getElem? (i := 177) (by decide +kernel))
theorem nw1551 : (Jvm.Cond.code ({ cls := "HeelHoundsModel", name := "landAt", desc := "(II)I" } : Jvm.MethodName) prog_14_method_56_code (3 : Nat) (Option.some Jvm.ClassFile.FieldType.int)) ∈ lw_tbl := lw_in6 (List.mem_of_getElem? (i := 178) (by decide +kernel))
theorem nw1552 : (Jvm.Cond.methodLink "HeelHoundsLaw" (48 : Nat) ({ cls := "HeelHoundsModel", name := "moments", desc := "(I)I" } : Jvm.MethodName)) ∈ lw_tbl := lw_in6 (List.mem_of_getElem? (i := 179) (by decide +kernel))
theorem nw1553 : (Jvm.Cond.instanceMethod ({ cls := "HeelHoundsModel", name := "moments", desc := "(I)I" } : Jvm.MethodName)) ∈ lw_tbl := lw_in6 (List.mem_of_getElem? (i := 180) (by decide +kernel))
theorem nw1554 : (Jvm.Cond.selects "HeelHoundsModel" ({ cls := "HeelHoundsModel", name := "moments", desc := "(I)I" } : Jvm.MethodName) ({ cls := "HeelHoundsModel", name := "moments", desc := "(I)I" } : Jvm.MethodName)) ∈ lw_tbl := lw_in6 (List.mem_of_getElem? (i := 181) (by decide +kernel))
theorem nw1555 : (Jvm.Cond.code ({ cls := "HeelHoundsModel", name := "moments", desc := "(I)I" } : Jvm.MethodName) prog_14_method_68_code (2 : Nat) (Option.some Jvm.ClassFile.FieldType.int)) ∈ lw_tbl := lw_in6 (List.mem_of_getElem? (i := 182) (by decide +kernel))
theorem nw1630 : (Jvm.Cond.methodLink "HeelHoundsLaw" (53 : Nat) ({ cls := "HeelHoundsModel", name := "tried", desc := "(II)I" } : Jvm.MethodName)) ∈ lw_tbl := lw_in7 (List.mem_of_getElem? (i := 17) (by decide +kernel))
theorem nw1631 : (Jvm.Cond.instanceMethod ({ cls := "HeelHoundsModel", name := "tried", desc := "(II)I" } : Jvm.MethodName)) ∈ lw_tbl := lw_in7 (List.mem_of_getElem? (i := 18) (by decide +kernel))
theorem nw1632 : (Jvm.Cond.selects "HeelHoundsModel" ({ cls := "HeelHoundsModel", name := "tried", desc := "(II)I" } : Jvm.MethodName) ({ cls := "HeelHoundsModel", name := "tried", desc := "(II)I" } : Jvm.MethodName)) ∈ lw_tbl := lw_in7 (List.mem_of_getElem? (i := 19) (by decide +kernel))
theorem nw1633 : (Jvm.Cond.code ({ cls := "HeelHoundsModel", name := "tried", desc := "(II)I" } : Jvm.MethodName) prog_14_method_69_code (4 : Nat) (Option.some Jvm.ClassFile.FieldType.int)) ∈ lw_tbl := lw_in7 (List.mem_of_getElem? (i := 20) (by decide +kernel))
theorem nw1637 : (Jvm.Cond.methodLink "HeelHoundsLaw" (57 : Nat) ({ cls := "HeelHoundsModel", name := "houndIs", desc := "(II)I" } : Jvm.MethodName)) ∈ lw_tbl := lw_in7 (List.mem_of_getElem? (i := 24) (by decide +kernel))
theorem nw1638 : (Jvm.Cond.instanceMethod ({ cls := "HeelHoundsModel", name := "houndIs", desc := "(II)I" } : Jvm.MethodName)) ∈ lw_tbl := lw_in7 (List.mem_of_getElem? (i := 25) (by decide +kernel))
theorem nw1639 : (Jvm.Cond.selects "HeelHoundsModel" ({ cls := "HeelHoundsModel", name := "houndIs", desc := "(II)I" } : Jvm.MethodName) ({ cls := "HeelHoundsModel", name := "houndIs", desc := "(II)I" } : Jvm.MethodName)) ∈ lw_tbl := lw_in7 (List.mem_of_getElem? (i := 26) (by decide +kernel))
theorem nw1640 : (Jvm.Cond.code ({ cls := "HeelHoundsModel", name := "houndIs", desc := "(II)I" } : Jvm.MethodName) prog_14_method_70_code (3 : Nat) (Option.some Jvm.ClassFile.FieldType.int)) ∈ lw_tbl := lw_in7 (List.mem_of_getElem? (i := 27) (by decide +kernel))
theorem nw1641 : (Jvm.Cond.methodLink "HeelHoundsLaw" (70 : Nat) ({ cls := "HeelHoundsModel", name := "firstHome", desc := "(II)I" } : Jvm.MethodName)) ∈ lw_tbl := lw_in7 (List.mem_of_getElem? (i := 28) (by decide +kernel))
theorem nw1642 : (Jvm.Cond.instanceMethod ({ cls := "HeelHoundsModel", name := "firstHome", desc := "(II)I" } : Jvm.MethodName)) ∈ lw_tbl := lw_in7 (List.mem_of_getElem? (i := 29) (by decide +kernel))
theorem nw1643 : (Jvm.Cond.selects "HeelHoundsModel" ({ cls := "HeelHoundsModel", name := "firstHome", desc := "(II)I" } : Jvm.MethodName) ({ cls := "HeelHoundsModel", name := "firstHome", desc := "(II)I" } : Jvm.MethodName)) ∈ lw_tbl := lw_in7 (List.mem_of_getElem? (i := 30) (by decide +kernel))
theorem nw1644 : (Jvm.Cond.code ({ cls := "HeelHoundsModel", name := "firstHome", desc := "(II)I" } : Jvm.MethodName) prog_14_method_72_code (5 : Nat) (Option.some Jvm.ClassFile.FieldType.int)) ∈ lw_tbl := lw_in7 (List.mem_of_getElem? (i := 31) (by decide +kernel))
theorem nw1651 : (Jvm.Cond.methodLink "HeelHoundsLaw" (61 : Nat) ({ cls := "HeelHoundsModel", name := "where", desc := "(II)I" } : Jvm.MethodName)) ∈ lw_tbl := lw_in7 (List.mem_of_getElem? (i := 38) (by decide +kernel))
theorem nw1652 : (Jvm.Cond.instanceMethod ({ cls := "HeelHoundsModel", name := "where", desc := "(II)I" } : Jvm.MethodName)) ∈ lw_tbl := lw_in7 (List.mem_of_getElem? (i := 39) (by decide +kernel))
theorem nw1653 : (Jvm.Cond.selects "HeelHoundsModel" ({ cls := "HeelHoundsModel", name := "where", desc := "(II)I" } : Jvm.MethodName) ({ cls := "HeelHoundsModel", name := "where", desc := "(II)I" } : Jvm.MethodName)) ∈ lw_tbl := lw_in7 (List.mem_of_getElem? (i := 40) (by decide +kernel))
theorem nw1654 : (Jvm.Cond.code ({ cls := "HeelHoundsModel", name := "where", desc := "(II)I" } : Jvm.MethodName) prog_14_method_73_code (4 : Nat) (Option.some Jvm.ClassFile.FieldType.int)) ∈ lw_tbl := lw_in7 (List.mem_of_getElem? (i := 41) (by decide +kernel))
theorem nw1659 : (Jvm.Cond.methodLink "HeelHoundsLaw" (66 : Nat) ({ cls := "HeelHoundsModel", name := "freshest", desc := "(III)I" } : Jvm.MethodName)) ∈ lw_tbl := lw_in7 (List.mem_of_getElem? (i := 46) (by decide +kernel))
theorem nw1660 : (Jvm.Cond.instanceMethod ({ cls := "HeelHoundsModel", name := "freshest", desc := "(III)I" } : Jvm.MethodName)) ∈ lw_tbl := lw_in7 (List.mem_of_getElem? (i := 47) (by decide +kernel))
theorem nw1661 : (Jvm.Cond.selects "HeelHoundsModel" ({ cls := "HeelHoundsModel", name := "freshest", desc := "(III)I" } : Jvm.MethodName) ({ cls := "HeelHoundsModel", name := "freshest", desc := "(III)I" } : Jvm.MethodName)) ∈ lw_tbl := lw_in7 (List.mem_of_getElem? (i := 48) (by decide +kernel))
theorem nw1662 : (Jvm.Cond.code ({ cls := "HeelHoundsModel", name := "freshest", desc := "(III)I" } : Jvm.MethodName) prog_14_method_74_code (9 : Nat) (Option.some Jvm.ClassFile.FieldType.int)) ∈ lw_tbl := lw_in7 (List.mem_of_getElem? (i := 49) (by decide +kernel))
theorem nw1663 : (Jvm.Cond.methodLink "HeelHoundsLaw" (74 : Nat) ({ cls := "HeelHoundsModel", name := "two", desc := "(III)I" } : Jvm.MethodName)) ∈ lw_tbl := lw_in7 (List.mem_of_getElem? (i := 50) (by decide +kernel))
theorem nw1664 : (Jvm.Cond.instanceMethod ({ cls := "HeelHoundsModel", name := "two", desc := "(III)I" } : Jvm.MethodName)) ∈ lw_tbl := lw_in7 (List.mem_of_getElem? (i := 51) (by decide +kernel))
theorem nw1665 : (Jvm.Cond.selects "HeelHoundsModel" ({ cls := "HeelHoundsModel", name := "two", desc := "(III)I" } : Jvm.MethodName) ({ cls := "HeelHoundsModel", name := "two", desc := "(III)I" } : Jvm.MethodName)) ∈ lw_tbl := lw_in7 (List.mem_of_getElem? (i := 52) (by decide +kernel))
theorem nw1666 : (Jvm.Cond.code ({ cls := "HeelHoundsModel", name := "two", desc := "(III)I" } : Jvm.MethodName) prog_14_method_78_code (8 : Nat) (Option.some Jvm.ClassFile.FieldType.int)) ∈ lw_tbl := lw_in7 (List.mem_of_getElem? (i := 53) (by decide +kernel))
theorem nw1686 : (Jvm.Cond.methodLink "HeelHoundsLaw" (78 : Nat) ({ cls := "HeelHoundsModel", name := "together", desc := "(III)I" } : Jvm.MethodName)) ∈ lw_tbl := lw_in7 (List.mem_of_getElem? (i := 73) (by decide +kernel))
theorem nw1687 : (Jvm.Cond.instanceMethod ({ cls := "HeelHoundsModel", name := "together", desc := "(III)I" } : Jvm.MethodName)) ∈ lw_tbl := lw_in7 (List.mem_of_getElem? (i := 74) (by decide +kernel))
theorem nw1688 : (Jvm.Cond.selects "HeelHoundsModel" ({ cls := "HeelHoundsModel", name := "together", desc := "(III)I" } : Jvm.MethodName) ({ cls := "HeelHoundsModel", name := "together", desc := "(III)I" } : Jvm.MethodName)) ∈ lw_tbl := lw_in7 (List.mem_of_getElem? (i := 75) (by decide +kernel))
theorem nw1689 : (Jvm.Cond.code ({ cls := "HeelHoundsModel", name := "together", desc := "(III)I" } : Jvm.MethodName) prog_14_method_79_code (6 : Nat) (Option.some Jvm.ClassFile.FieldType.int)) ∈ lw_tbl := lw_in7 (List.mem_of_getElem? (i := 76) (by decide +kernel))
theorem nw1690 : (Jvm.Cond.methodLink "HeelHoundsLaw" (82 : Nat) ({ cls := "HeelHoundsModel", name := "crowd", desc := "(II)I" } : Jvm.MethodName)) ∈ lw_tbl := lw_in7 (List.mem_of_getElem? (i := 77) (by decide +kernel))
theorem nw1691 : (Jvm.Cond.instanceMethod ({ cls := "HeelHoundsModel", name := "crowd", desc := "(II)I" } : Jvm.MethodName)) ∈ lw_tbl := lw_in7 (List.mem_of_getElem? (i := 78) (by decide +kernel))
theorem nw1692 : (Jvm.Cond.selects "HeelHoundsModel" ({ cls := "HeelHoundsModel", name := "crowd", desc := "(II)I" } : Jvm.MethodName) ({ cls := "HeelHoundsModel", name := "crowd", desc := "(II)I" } : Jvm.MethodName)) ∈ lw_tbl := lw_in7 (List.mem_of_getElem? (i := 79) (by decide +kernel))
theorem nw1693 : (Jvm.Cond.code ({ cls := "HeelHoundsModel", name := "crowd", desc := "(II)I" } : Jvm.MethodName) prog_14_method_80_code (8 : Nat) (Option.some Jvm.ClassFile.FieldType.int)) ∈ lw_tbl := lw_in7 (List.mem_of_getElem? (i := 80) (by decide +kernel))
theorem nw1694 : (Jvm.Cond.methodLink "HeelHoundsLaw" (86 : Nat) ({ cls := "HeelHoundsModel", name := "stayed", desc := "(II)I" } : Jvm.MethodName)) ∈ lw_tbl := lw_in7 (List.mem_of_getElem? (i := 81) (by decide +kernel))
theorem nw1695 : (Jvm.Cond.instanceMethod ({ cls := "HeelHoundsModel", name := "stayed", desc := "(II)I" } : Jvm.MethodName)) ∈ lw_tbl := lw_in7 (List.mem_of_getElem? (i := 82) (by decide +kernel))
theorem nw1696 : (Jvm.Cond.selects "HeelHoundsModel" ({ cls := "HeelHoundsModel", name := "stayed", desc := "(II)I" } : Jvm.MethodName) ({ cls := "HeelHoundsModel", name := "stayed", desc := "(II)I" } : Jvm.MethodName)) ∈ lw_tbl := lw_in7 (List.mem_of_getElem? (i := 83) (by decide +kernel))
theorem nw1697 : (Jvm.Cond.code ({ cls := "HeelHoundsModel", name := "stayed", desc := "(II)I" } : Jvm.MethodName) prog_14_method_83_code (7 : Nat) (Option.some Jvm.ClassFile.FieldType.int)) ∈ lw_tbl := lw_in7 (List.mem_of_getElem? (i := 84) (by decide +kernel))
theorem nw1706 : (Jvm.Cond.methodLink "HeelHoundsLaw" (90 : Nat) ({ cls := "HeelHoundsModel", name := "unlooped", desc := "(II)I" } : Jvm.MethodName)) ∈ lw_tbl := lw_in7 (List.mem_of_getElem? (i := 93) (by decide +kernel))
theorem nw1707 : (Jvm.Cond.instanceMethod ({ cls := "HeelHoundsModel", name := "unlooped", desc := "(II)I" } : Jvm.MethodName)) ∈ lw_tbl := lw_in7 (List.mem_of_getElem? (i := 94) (by decide +kernel))
theorem nw1708 : (Jvm.Cond.selects "HeelHoundsModel" ({ cls := "HeelHoundsModel", name := "unlooped", desc := "(II)I" } : Jvm.MethodName) ({ cls := "HeelHoundsModel", name := "unlooped", desc := "(II)I" } : Jvm.MethodName)) ∈ lw_tbl := lw_in7 (List.mem_of_getElem? (i := 95) (by decide +kernel))
theorem nw1709 : (Jvm.Cond.code ({ cls := "HeelHoundsModel", name := "unlooped", desc := "(II)I" } : Jvm.MethodName) prog_14_method_84_code (6 : Nat) (Option.some Jvm.ClassFile.FieldType.int)) ∈ lw_tbl := lw_in7 (List.mem_of_getElem? (i := 96) (by decide +kernel))
theorem nw1710 : (Jvm.Cond.methodLink "HeelHoundsLaw" (94 : Nat) ({ cls := "HeelHoundsModel", name := "charges", desc := "(II)I" } : Jvm.MethodName)) ∈ lw_tbl := lw_in7 (List.mem_of_getElem? (i := 97) (by decide +kernel))
theorem nw1711 : (Jvm.Cond.instanceMethod ({ cls := "HeelHoundsModel", name := "charges", desc := "(II)I" } : Jvm.MethodName)) ∈ lw_tbl := lw_in7 (List.mem_of_getElem? (i := 98) (by decide +kernel))
theorem nw1712 : (Jvm.Cond.selects "HeelHoundsModel" ({ cls := "HeelHoundsModel", name := "charges", desc := "(II)I" } : Jvm.MethodName) ({ cls := "HeelHoundsModel", name := "charges", desc := "(II)I" } : Jvm.MethodName)) ∈ lw_tbl := lw_in7 (List.mem_of_getElem? (i := 99) (by decide +kernel))
theorem nw1713 : (Jvm.Cond.code ({ cls := "HeelHoundsModel", name := "charges", desc := "(II)I" } : Jvm.MethodName) prog_14_method_85_code (7 : Nat) (Option.some Jvm.ClassFile.FieldType.int)) ∈ lw_tbl := lw_in7 (List.mem_of_getElem? (i := 100) (by decide +kernel))
theorem nw1714 : (Jvm.Cond.methodLink "HeelHoundsLaw" (98 : Nat) ({ cls := "HeelHoundsModel", name := "round", desc := "(II)I" } : Jvm.MethodName)) ∈ lw_tbl := lw_in7 (List.mem_of_getElem? (i := 101) (by decide +kernel))
theorem nw1715 : (Jvm.Cond.instanceMethod ({ cls := "HeelHoundsModel", name := "round", desc := "(II)I" } : Jvm.MethodName)) ∈ lw_tbl := lw_in7 (List.mem_of_getElem? (i := 102) (by decide +kernel))
theorem nw1716 : (Jvm.Cond.selects "HeelHoundsModel" ({ cls := "HeelHoundsModel", name := "round", desc := "(II)I" } : Jvm.MethodName) ({ cls := "HeelHoundsModel", name := "round", desc := "(II)I" } : Jvm.MethodName)) ∈ lw_tbl := lw_in7 (List.mem_of_getElem? (i := 103) (by decide +kernel))
theorem nw1717 : (Jvm.Cond.code ({ cls := "HeelHoundsModel", name := "round", desc := "(II)I" } : Jvm.MethodName) prog_14_method_87_code (4 : Nat) (Option.some Jvm.ClassFile.FieldType.int)) ∈ lw_tbl := lw_in7 (List.mem_of_getElem? (i := 104) (by decide +kernel))
theorem nw1722 : (Jvm.Cond.methodLink "HeelHoundsLaw" (102 : Nat) ({ cls := "HeelHoundsModel", name := "cast", desc := "(I)I" } : Jvm.MethodName)) ∈ lw_tbl := lw_in7 (List.mem_of_getElem? (i := 109) (by decide +kernel))
theorem nw1723 : (Jvm.Cond.instanceMethod ({ cls := "HeelHoundsModel", name := "cast", desc := "(I)I" } : Jvm.MethodName)) ∈ lw_tbl := lw_in7 (List.mem_of_getElem? (i := 110) (by decide +kernel))
theorem nw1724 : (Jvm.Cond.selects "HeelHoundsModel" ({ cls := "HeelHoundsModel", name := "cast", desc := "(I)I" } : Jvm.MethodName) ({ cls := "HeelHoundsModel", name := "cast", desc := "(I)I" } : Jvm.MethodName)) ∈ lw_tbl := lw_in7 (List.mem_of_getElem? (i := 111) (by decide +kernel))
theorem nw1725 : (Jvm.Cond.code ({ cls := "HeelHoundsModel", name := "cast", desc := "(I)I" } : Jvm.MethodName) prog_14_method_88_code (7 : Nat) (Option.some Jvm.ClassFile.FieldType.int)) ∈ lw_tbl := lw_in7 (List.mem_of_getElem? (i := 112) (by decide +kernel))
theorem nw1726 : (Jvm.Cond.methodLink "HeelHoundsLaw" (106 : Nat) ({ cls := "HeelHoundsModel", name := "huntable", desc := "(I)I" } : Jvm.MethodName)) ∈ lw_tbl := lw_in7 (List.mem_of_getElem? (i := 113) (by decide +kernel))
theorem nw1727 : (Jvm.Cond.instanceMethod ({ cls := "HeelHoundsModel", name := "huntable", desc := "(I)I" } : Jvm.MethodName)) ∈ lw_tbl := lw_in7 (List.mem_of_getElem? (i := 114) (by decide +kernel))
theorem nw1728 : (Jvm.Cond.selects "HeelHoundsModel" ({ cls := "HeelHoundsModel", name := "huntable", desc := "(I)I" } : Jvm.MethodName) ({ cls := "HeelHoundsModel", name := "huntable", desc := "(I)I" } : Jvm.MethodName)) ∈ lw_tbl := lw_in7 (List.mem_of_getElem? (i := 115) (by decide +kernel))
theorem nw1729 : (Jvm.Cond.code ({ cls := "HeelHoundsModel", name := "huntable", desc := "(I)I" } : Jvm.MethodName) prog_14_method_89_code (6 : Nat) (Option.some Jvm.ClassFile.FieldType.int)) ∈ lw_tbl := lw_in7 (List.mem_of_getElem? (i := 116) (by decide +kernel))
theorem nw1730 : (Jvm.Cond.methodLink "HeelHoundsLaw" (110 : Nat) ({ cls := "HeelHoundsModel", name := "couldBe", desc := "(II)I" } : Jvm.MethodName)) ∈ lw_tbl := lw_in7 (List.mem_of_getElem? (i := 117) (by decide +kernel))
theorem nw1731 : (Jvm.Cond.instanceMethod ({ cls := "HeelHoundsModel", name := "couldBe", desc := "(II)I" } : Jvm.MethodName)) ∈ lw_tbl := lw_in7 (List.mem_of_getElem? (i := 118) (by decide +kernel))
theorem nw1732 : (Jvm.Cond.selects "HeelHoundsModel" ({ cls := "HeelHoundsModel", name := "couldBe", desc := "(II)I" } : Jvm.MethodName) ({ cls := "HeelHoundsModel", name := "couldBe", desc := "(II)I" } : Jvm.MethodName)) ∈ lw_tbl := lw_in7 (List.mem_of_getElem? (i := 119) (by decide +kernel))
theorem nw1733 : (Jvm.Cond.code ({ cls := "HeelHoundsModel", name := "couldBe", desc := "(II)I" } : Jvm.MethodName) prog_14_method_91_code (7 : Nat) (Option.some Jvm.ClassFile.FieldType.int)) ∈ lw_tbl := lw_in7 (List.mem_of_getElem? (i := 120) (by decide +kernel))
theorem nw1742 : (Jvm.Cond.methodLink "HeelHoundsLaw" (114 : Nat) ({ cls := "HeelHoundsModel", name := "heldIn", desc := "(I)I" } : Jvm.MethodName)) ∈ lw_tbl := lw_in7 (List.mem_of_getElem? (i := 129) (by decide +kernel))
theorem nw1743 : (Jvm.Cond.instanceMethod ({ cls := "HeelHoundsModel", name := "heldIn", desc := "(I)I" } : Jvm.MethodName)) ∈ lw_tbl := lw_in7 (List.mem_of_getElem? (i := 130) (by decide +kernel))
theorem nw1744 : (Jvm.Cond.selects "HeelHoundsModel" ({ cls := "HeelHoundsModel", name := "heldIn", desc := "(I)I" } : Jvm.MethodName) ({ cls := "HeelHoundsModel", name := "heldIn", desc := "(I)I" } : Jvm.MethodName)) ∈ lw_tbl := lw_in7 (List.mem_of_getElem? (i := 131) (by decide +kernel))
theorem nw1745 : (Jvm.Cond.code ({ cls := "HeelHoundsModel", name := "heldIn", desc := "(I)I" } : Jvm.MethodName) prog_14_method_93_code (5 : Nat) (Option.some Jvm.ClassFile.FieldType.int)) ∈ lw_tbl := lw_in7 (List.mem_of_getElem? (i := 132) (by decide +kernel))
theorem nw1749 : (Jvm.Cond.methodLink "HeelHoundsLaw" (118 : Nat) ({ cls := "HeelHoundsModel", name := "lineIs", desc := "(II)I" } : Jvm.MethodName)) ∈ lw_tbl := lw_in7 (List.mem_of_getElem? (i := 136) (by decide +kernel))
theorem nw1750 : (Jvm.Cond.instanceMethod ({ cls := "HeelHoundsModel", name := "lineIs", desc := "(II)I" } : Jvm.MethodName)) ∈ lw_tbl := lw_in7 (List.mem_of_getElem? (i := 137) (by decide +kernel))
theorem nw1751 : (Jvm.Cond.selects "HeelHoundsModel" ({ cls := "HeelHoundsModel", name := "lineIs", desc := "(II)I" } : Jvm.MethodName) ({ cls := "HeelHoundsModel", name := "lineIs", desc := "(II)I" } : Jvm.MethodName)) ∈ lw_tbl := lw_in7 (List.mem_of_getElem? (i := 138) (by decide +kernel))
theorem nw1752 : (Jvm.Cond.code ({ cls := "HeelHoundsModel", name := "lineIs", desc := "(II)I" } : Jvm.MethodName) prog_14_method_98_code (3 : Nat) (Option.some Jvm.ClassFile.FieldType.int)) ∈ lw_tbl := lw_in7 (List.mem_of_getElem? (i := 139) (by decide +kernel))
theorem nw1769 : (Jvm.Cond.methodLink "HeelHoundsLaw" (126 : Nat) ({ cls := "HeelHoundsModel", name := "seed", desc := "(I)Z" } : Jvm.MethodName)) ∈ lw_tbl := lw_in7 (List.mem_of_getElem? (i := 156) (by decide +kernel))
theorem nw1770 : (Jvm.Cond.instanceMethod ({ cls := "HeelHoundsModel", name := "seed", desc := "(I)Z" } : Jvm.MethodName)) ∈ lw_tbl := lw_in7 (List.mem_of_getElem? (i := 157) (by decide +kernel))
theorem nw1771 : (Jvm.Cond.selects "HeelHoundsModel" ({ cls := "HeelHoundsModel", name := "seed", desc := "(I)Z" } : Jvm.MethodName) ({ cls := "HeelHoundsModel", name := "seed", desc := "(I)Z" } : Jvm.MethodName)) ∈ lw_tbl := lw_in7 (List.mem_of_getElem? (i := 158) (by decide +kernel))
theorem nw1772 : (Jvm.Cond.code ({ cls := "HeelHoundsModel", name := "seed", desc := "(I)Z" } : Jvm.MethodName) prog_14_method_99_code (2 : Nat) (Option.some Jvm.ClassFile.FieldType.boolean)) ∈ lw_tbl := lw_in7 (List.mem_of_getElem? (i := 159) (by decide +kernel))
theorem nw1774 : (Jvm.Cond.methodLink "HeelHoundsLaw" (131 : Nat) ({ cls := "HeelHoundsModel", name := "keep", desc := "()I" } : Jvm.MethodName)) ∈ lw_tbl := lw_in7 (List.mem_of_getElem? (i := 161) (by decide +kernel))
theorem nw1775 : (Jvm.Cond.instanceMethod ({ cls := "HeelHoundsModel", name := "keep", desc := "()I" } : Jvm.MethodName)) ∈ lw_tbl := lw_in7 (List.mem_of_getElem? (i := 162) (by decide +kernel))
theorem nw1776 : (Jvm.Cond.selects "HeelHoundsModel" ({ cls := "HeelHoundsModel", name := "keep", desc := "()I" } : Jvm.MethodName) ({ cls := "HeelHoundsModel", name := "keep", desc := "()I" } : Jvm.MethodName)) ∈ lw_tbl := lw_in7 (List.mem_of_getElem? (i := 163) (by decide +kernel))
theorem nw1777 : (Jvm.Cond.code ({ cls := "HeelHoundsModel", name := "keep", desc := "()I" } : Jvm.MethodName) prog_14_method_100_code (1 : Nat) (Option.some Jvm.ClassFile.FieldType.int)) ∈ lw_tbl := lw_in7 (List.mem_of_getElem? (i := 164) (by decide +kernel))
theorem nw1778 : (Jvm.Cond.methodLink "HeelHoundsLaw" (136 : Nat) ({ cls := "HeelHoundsModel", name := "undo", desc := "()Z" } : Jvm.MethodName)) ∈ lw_tbl := lw_in7 (List.mem_of_getElem? (i := 165) (by decide +kernel))
theorem nw1779 : (Jvm.Cond.instanceMethod ({ cls := "HeelHoundsModel", name := "undo", desc := "()Z" } : Jvm.MethodName)) ∈ lw_tbl := lw_in7 (List.mem_of_getElem? (i := 166) (by decide +kernel))
theorem nw1780 : (Jvm.Cond.selects "HeelHoundsModel" ({ cls := "HeelHoundsModel", name := "undo", desc := "()Z" } : Jvm.MethodName) ({ cls := "HeelHoundsModel", name := "undo", desc := "()Z" } : Jvm.MethodName)) ∈ lw_tbl := lw_in7 (List.mem_of_getElem? (i := 167) (by decide +kernel))
theorem nw1781 : (Jvm.Cond.code ({ cls := "HeelHoundsModel", name := "undo", desc := "()Z" } : Jvm.MethodName) prog_14_method_101_code (1 : Nat) (Option.some Jvm.ClassFile.FieldType.boolean)) ∈ lw_tbl := lw_in7 (List.mem_of_getElem? (i := 168) (by decide +kernel))
theorem nw1782 : (Jvm.Cond.methodLink "HeelHoundsLaw" (140 : Nat) ({ cls := "HeelHoundsModel", name := "check", desc := "(I)I" } : Jvm.MethodName)) ∈ lw_tbl := lw_in7 (List.mem_of_getElem? (i := 169) (by decide +kernel))
theorem nw1783 : (Jvm.Cond.instanceMethod ({ cls := "HeelHoundsModel", name := "check", desc := "(I)I" } : Jvm.MethodName)) ∈ lw_tbl := lw_in7 (List.mem_of_getElem? (i := 170) (by decide +kernel))
theorem nw1784 : (Jvm.Cond.selects "HeelHoundsModel" ({ cls := "HeelHoundsModel", name := "check", desc := "(I)I" } : Jvm.MethodName) ({ cls := "HeelHoundsModel", name := "check", desc := "(I)I" } : Jvm.MethodName)) ∈ lw_tbl := lw_in7 (List.mem_of_getElem? (i := 171) (by decide +kernel))
theorem nw1785 : (Jvm.Cond.code ({ cls := "HeelHoundsModel", name := "check", desc := "(I)I" } : Jvm.MethodName) prog_14_method_102_code (3 : Nat) (Option.some Jvm.ClassFile.FieldType.int)) ∈ lw_tbl := lw_in7 (List.mem_of_getElem? (i := 172) (by decide +kernel))
theorem nw1786 : (Jvm.Cond.methodLink "HeelHoundsLaw" (144 : Nat) ({ cls := "HeelHoundsModel", name := "count", desc := "(I)I" } : Jvm.MethodName)) ∈ lw_tbl := lw_in7 (List.mem_of_getElem? (i := 173) (by decide +kernel))
theorem nw1787 : (Jvm.Cond.instanceMethod ({ cls := "HeelHoundsModel", name := "count", desc := "(I)I" } : Jvm.MethodName)) ∈ lw_tbl := lw_in7 (List.mem_of_getElem? (i := 174) (by decide +kernel))
theorem nw1788 : (Jvm.Cond.selects "HeelHoundsModel" ({ cls := "HeelHoundsModel", name := "count", desc := "(I)I" } : Jvm.MethodName) ({ cls := "HeelHoundsModel", name := "count", desc := "(I)I" } : Jvm.MethodName)) ∈ lw_tbl := lw_in7 (List.mem_of_getElem? (i := 175) (by decide +kernel))
theorem nw1789 : (Jvm.Cond.code ({ cls := "HeelHoundsModel", name := "count", desc := "(I)I" } : Jvm.MethodName) prog_14_method_103_code (4 : Nat) (Option.some Jvm.ClassFile.FieldType.int)) ∈ lw_tbl := lw_in7 (List.mem_of_getElem? (i := 176) (by decide +kernel))
theorem ml_L_13 : MLV RL 13 11 iX11_hound 3 := ⟨⟨nw493, nw174, ⟨by decide, by decide, by decide +kernel⟩, by decide, Or.inl nw490⟩, ⟨_, rfl, rfl⟩, nw491, nw492⟩
theorem ml_L_17 : MLV RL 17 12 iX12_hound 3 := ⟨⟨nw1400, nw187, ⟨by decide, by decide, by decide +kernel⟩, by decide, Or.inl nw1397⟩, ⟨_, rfl, rfl⟩, nw1398, nw1399⟩
theorem ml_L_18 : MLV RL 18 11 iX11_fading 1 := ⟨⟨nw511, nw174, ⟨by decide, by decide, by decide +kernel⟩, by decide, Or.inl nw508⟩, ⟨_, rfl, rfl⟩, nw509, nw510⟩
theorem ml_L_22 : MLV RL 22 12 iX12_fading 1 := ⟨⟨nw1410, nw187, ⟨by decide, by decide, by decide +kernel⟩, by decide, Or.inl nw1407⟩, ⟨_, rfl, rfl⟩, nw1408, nw1409⟩
theorem ml_L_23 : MLV RL 23 11 iX11_time 1 := ⟨⟨nw515, nw174, ⟨by decide, by decide, by decide +kernel⟩, by decide, Or.inl nw512⟩, ⟨_, rfl, rfl⟩, nw513, nw514⟩
theorem ml_L_26 : MLV RL 26 12 iX12_time 1 := ⟨⟨nw1414, nw187, ⟨by decide, by decide, by decide +kernel⟩, by decide, Or.inl nw1411⟩, ⟨_, rfl, rfl⟩, nw1412, nw1413⟩
theorem ml_L_27 : MLV RL 27 11 iX11_feed 5 := ⟨⟨nw519, nw174, ⟨by decide, by decide, by decide +kernel⟩, by decide, Or.inl nw516⟩, ⟨_, rfl, rfl⟩, nw517, nw518⟩
theorem ml_L_31 : MLV RL 31 12 iX12_feed 5 := ⟨⟨nw1418, nw187, ⟨by decide, by decide, by decide +kernel⟩, by decide, Or.inl nw1415⟩, ⟨_, rfl, rfl⟩, nw1416, nw1417⟩
theorem ml_L_32 : MLV RL 32 11 iX11_law 1 := ⟨⟨nw531, nw174, ⟨by decide, by decide, by decide +kernel⟩, by decide, Or.inl nw528⟩, ⟨_, rfl, rfl⟩, nw529, nw530⟩
theorem ml_L_36 : MLV RL 36 12 iX12_law 1 := ⟨⟨nw1426, nw187, ⟨by decide, by decide, by decide +kernel⟩, by decide, Or.inl nw1423⟩, ⟨_, rfl, rfl⟩, nw1424, nw1425⟩
theorem ml_L_37 : MLV RL 37 11 iX11_line 5 := ⟨⟨nw669, nw174, ⟨by decide, by decide, by decide +kernel⟩, by decide, Or.inl nw666⟩, ⟨_, rfl, rfl⟩, nw667, nw668⟩
theorem ml_L_40 : MLV RL 40 12 iX12_line 5 := ⟨⟨nw1513, nw187, ⟨by decide, by decide, by decide +kernel⟩, by decide, Or.inl nw1510⟩, ⟨_, rfl, rfl⟩, nw1511, nw1512⟩
theorem ml_L_41 : MLV RL 41 11 iX11_land 1 := ⟨⟨nw725, nw174, ⟨by decide, by decide, by decide +kernel⟩, by decide, Or.inl nw722⟩, ⟨_, rfl, rfl⟩, nw723, nw724⟩
theorem ml_L_44 : MLV RL 44 12 iX12_land 1 := ⟨⟨nw1535, nw187, ⟨by decide, by decide, by decide +kernel⟩, by decide, Or.inl nw1532⟩, ⟨_, rfl, rfl⟩, nw1533, nw1534⟩
theorem ml_L_45 : MLV RL 45 11 iX11_moments 1 := ⟨⟨nw778, nw174, ⟨by decide, by decide, by decide +kernel⟩, by decide, Or.inl nw775⟩, ⟨_, rfl, rfl⟩, nw776, nw777⟩
theorem ml_L_48 : MLV RL 48 12 iX12_moments 1 := ⟨⟨nw1555, nw187, ⟨by decide, by decide, by decide +kernel⟩, by decide, Or.inl nw1552⟩, ⟨_, rfl, rfl⟩, nw1553, nw1554⟩
theorem ml_L_49 : MLV RL 49 11 iX11_tried 2 := ⟨⟨nw905, nw174, ⟨by decide, by decide, by decide +kernel⟩, by decide, Or.inl nw902⟩, ⟨_, rfl, rfl⟩, nw903, nw904⟩
theorem ml_L_53 : MLV RL 53 12 iX12_tried 2 := ⟨⟨nw1633, nw187, ⟨by decide, by decide, by decide +kernel⟩, by decide, Or.inl nw1630⟩, ⟨_, rfl, rfl⟩, nw1631, nw1632⟩
theorem ml_L_54 : MLV RL 54 11 iX11_houndIs 2 := ⟨⟨nw926, nw174, ⟨by decide, by decide, by decide +kernel⟩, by decide, Or.inl nw923⟩, ⟨_, rfl, rfl⟩, nw924, nw925⟩
theorem ml_L_57 : MLV RL 57 12 iX12_houndIs 2 := ⟨⟨nw1640, nw187, ⟨by decide, by decide, by decide +kernel⟩, by decide, Or.inl nw1637⟩, ⟨_, rfl, rfl⟩, nw1638, nw1639⟩
theorem ml_L_58 : MLV RL 58 11 iX11_where 2 := ⟨⟨nw931, nw174, ⟨by decide, by decide, by decide +kernel⟩, by decide, Or.inl nw928⟩, ⟨_, rfl, rfl⟩, nw929, nw930⟩
theorem ml_L_61 : MLV RL 61 12 iX12_where 2 := ⟨⟨nw1654, nw187, ⟨by decide, by decide, by decide +kernel⟩, by decide, Or.inl nw1651⟩, ⟨_, rfl, rfl⟩, nw1652, nw1653⟩
theorem ml_L_62 : MLV RL 62 11 iX11_freshest 3 := ⟨⟨nw937, nw174, ⟨by decide, by decide, by decide +kernel⟩, by decide, Or.inl nw934⟩, ⟨_, rfl, rfl⟩, nw935, nw936⟩
theorem ml_L_66 : MLV RL 66 12 iX12_freshest 3 := ⟨⟨nw1662, nw187, ⟨by decide, by decide, by decide +kernel⟩, by decide, Or.inl nw1659⟩, ⟨_, rfl, rfl⟩, nw1660, nw1661⟩
theorem ml_L_67 : MLV RL 67 11 iX11_firstHome 2 := ⟨⟨nw970, nw174, ⟨by decide, by decide, by decide +kernel⟩, by decide, Or.inl nw967⟩, ⟨_, rfl, rfl⟩, nw968, nw969⟩
theorem ml_L_70 : MLV RL 70 12 iX12_firstHome 2 := ⟨⟨nw1644, nw187, ⟨by decide, by decide, by decide +kernel⟩, by decide, Or.inl nw1641⟩, ⟨_, rfl, rfl⟩, nw1642, nw1643⟩
theorem ml_L_71 : MLV RL 71 11 iX11_two 3 := ⟨⟨nw978, nw174, ⟨by decide, by decide, by decide +kernel⟩, by decide, Or.inl nw975⟩, ⟨_, rfl, rfl⟩, nw976, nw977⟩
theorem ml_L_74 : MLV RL 74 12 iX12_two 3 := ⟨⟨nw1666, nw187, ⟨by decide, by decide, by decide +kernel⟩, by decide, Or.inl nw1663⟩, ⟨_, rfl, rfl⟩, nw1664, nw1665⟩
theorem ml_L_75 : MLV RL 75 11 iX11_together 3 := ⟨⟨nw1020, nw174, ⟨by decide, by decide, by decide +kernel⟩, by decide, Or.inl nw1017⟩, ⟨_, rfl, rfl⟩, nw1018, nw1019⟩
theorem ml_L_78 : MLV RL 78 12 iX12_together 3 := ⟨⟨nw1689, nw187, ⟨by decide, by decide, by decide +kernel⟩, by decide, Or.inl nw1686⟩, ⟨_, rfl, rfl⟩, nw1687, nw1688⟩
theorem ml_L_79 : MLV RL 79 11 iX11_crowd 2 := ⟨⟨nw1028, nw174, ⟨by decide, by decide, by decide +kernel⟩, by decide, Or.inl nw1025⟩, ⟨_, rfl, rfl⟩, nw1026, nw1027⟩
theorem ml_L_82 : MLV RL 82 12 iX12_crowd 2 := ⟨⟨nw1693, nw187, ⟨by decide, by decide, by decide +kernel⟩, by decide, Or.inl nw1690⟩, ⟨_, rfl, rfl⟩, nw1691, nw1692⟩
theorem ml_L_83 : MLV RL 83 11 iX11_stayed 2 := ⟨⟨nw1042, nw174, ⟨by decide, by decide, by decide +kernel⟩, by decide, Or.inl nw1039⟩, ⟨_, rfl, rfl⟩, nw1040, nw1041⟩
theorem ml_L_86 : MLV RL 86 12 iX12_stayed 2 := ⟨⟨nw1697, nw187, ⟨by decide, by decide, by decide +kernel⟩, by decide, Or.inl nw1694⟩, ⟨_, rfl, rfl⟩, nw1695, nw1696⟩
theorem ml_L_87 : MLV RL 87 11 iX11_unlooped 2 := ⟨⟨nw1058, nw174, ⟨by decide, by decide, by decide +kernel⟩, by decide, Or.inl nw1055⟩, ⟨_, rfl, rfl⟩, nw1056, nw1057⟩
theorem ml_L_90 : MLV RL 90 12 iX12_unlooped 2 := ⟨⟨nw1709, nw187, ⟨by decide, by decide, by decide +kernel⟩, by decide, Or.inl nw1706⟩, ⟨_, rfl, rfl⟩, nw1707, nw1708⟩
theorem ml_L_91 : MLV RL 91 11 iX11_charges 2 := ⟨⟨nw1071, nw174, ⟨by decide, by decide, by decide +kernel⟩, by decide, Or.inl nw1068⟩, ⟨_, rfl, rfl⟩, nw1069, nw1070⟩
theorem ml_L_94 : MLV RL 94 12 iX12_charges 2 := ⟨⟨nw1713, nw187, ⟨by decide, by decide, by decide +kernel⟩, by decide, Or.inl nw1710⟩, ⟨_, rfl, rfl⟩, nw1711, nw1712⟩
theorem ml_L_95 : MLV RL 95 11 iX11_round 2 := ⟨⟨nw1093, nw174, ⟨by decide, by decide, by decide +kernel⟩, by decide, Or.inl nw1090⟩, ⟨_, rfl, rfl⟩, nw1091, nw1092⟩
theorem ml_L_98 : MLV RL 98 12 iX12_round 2 := ⟨⟨nw1717, nw187, ⟨by decide, by decide, by decide +kernel⟩, by decide, Or.inl nw1714⟩, ⟨_, rfl, rfl⟩, nw1715, nw1716⟩
theorem ml_L_99 : MLV RL 99 11 iX11_cast 1 := ⟨⟨nw1112, nw174, ⟨by decide, by decide, by decide +kernel⟩, by decide, Or.inl nw1109⟩, ⟨_, rfl, rfl⟩, nw1110, nw1111⟩
theorem ml_L_102 : MLV RL 102 12 iX12_cast 1 := ⟨⟨nw1725, nw187, ⟨by decide, by decide, by decide +kernel⟩, by decide, Or.inl nw1722⟩, ⟨_, rfl, rfl⟩, nw1723, nw1724⟩
theorem ml_L_103 : MLV RL 103 11 iX11_huntable 1 := ⟨⟨nw1122, nw174, ⟨by decide, by decide, by decide +kernel⟩, by decide, Or.inl nw1119⟩, ⟨_, rfl, rfl⟩, nw1120, nw1121⟩
theorem ml_L_106 : MLV RL 106 12 iX12_huntable 1 := ⟨⟨nw1729, nw187, ⟨by decide, by decide, by decide +kernel⟩, by decide, Or.inl nw1726⟩, ⟨_, rfl, rfl⟩, nw1727, nw1728⟩
theorem ml_L_107 : MLV RL 107 11 iX11_couldBe 2 := ⟨⟨nw1132, nw174, ⟨by decide, by decide, by decide +kernel⟩, by decide, Or.inl nw1129⟩, ⟨_, rfl, rfl⟩, nw1130, nw1131⟩
theorem ml_L_110 : MLV RL 110 12 iX12_couldBe 2 := ⟨⟨nw1733, nw187, ⟨by decide, by decide, by decide +kernel⟩, by decide, Or.inl nw1730⟩, ⟨_, rfl, rfl⟩, nw1731, nw1732⟩
theorem ml_L_111 : MLV RL 111 11 iX11_heldIn 1 := ⟨⟨nw1152, nw174, ⟨by decide, by decide, by decide +kernel⟩, by decide, Or.inl nw1149⟩, ⟨_, rfl, rfl⟩, nw1150, nw1151⟩
theorem ml_L_114 : MLV RL 114 12 iX12_heldIn 1 := ⟨⟨nw1745, nw187, ⟨by decide, by decide, by decide +kernel⟩, by decide, Or.inl nw1742⟩, ⟨_, rfl, rfl⟩, nw1743, nw1744⟩
theorem ml_L_115 : MLV RL 115 11 iX11_lineIs 2 := ⟨⟨nw1163, nw174, ⟨by decide, by decide, by decide +kernel⟩, by decide, Or.inl nw1160⟩, ⟨_, rfl, rfl⟩, nw1161, nw1162⟩
theorem ml_L_118 : MLV RL 118 12 iX12_lineIs 2 := ⟨⟨nw1752, nw187, ⟨by decide, by decide, by decide +kernel⟩, by decide, Or.inl nw1749⟩, ⟨_, rfl, rfl⟩, nw1750, nw1751⟩
theorem ml_L_119 : MLV RL 119 11 iX11_landAt 2 := ⟨⟨nw1188, nw174, ⟨by decide, by decide, by decide +kernel⟩, by decide, Or.inl nw1185⟩, ⟨_, rfl, rfl⟩, nw1186, nw1187⟩
theorem ml_L_122 : MLV RL 122 12 iX12_landAt 2 := ⟨⟨nw1551, nw187, ⟨by decide, by decide, by decide +kernel⟩, by decide, Or.inl nw1548⟩, ⟨_, rfl, rfl⟩, nw1549, nw1550⟩
theorem ml_L_123 : MLV RL 123 11 iX11_seed 1 := ⟨⟨nw1193, nw174, ⟨by decide, by decide, by decide +kernel⟩, by decide, Or.inl nw1190⟩, ⟨_, rfl, rfl⟩, nw1191, nw1192⟩
theorem ml_L_126 : MLV RL 126 12 iX12_seed 1 := ⟨⟨nw1772, nw187, ⟨by decide, by decide, by decide +kernel⟩, by decide, Or.inl nw1769⟩, ⟨_, rfl, rfl⟩, nw1770, nw1771⟩
theorem ml_L_127 : MLV RL 127 11 iX11_keep 0 := ⟨⟨nw1198, nw174, ⟨by decide, by decide, by decide +kernel⟩, by decide, Or.inl nw1195⟩, ⟨_, rfl, rfl⟩, nw1196, nw1197⟩
theorem ml_L_131 : MLV RL 131 12 iX12_keep 0 := ⟨⟨nw1777, nw187, ⟨by decide, by decide, by decide +kernel⟩, by decide, Or.inl nw1774⟩, ⟨_, rfl, rfl⟩, nw1775, nw1776⟩
theorem ml_L_132 : MLV RL 132 11 iX11_undo 0 := ⟨⟨nw1202, nw174, ⟨by decide, by decide, by decide +kernel⟩, by decide, Or.inl nw1199⟩, ⟨_, rfl, rfl⟩, nw1200, nw1201⟩
theorem ml_L_136 : MLV RL 136 12 iX12_undo 0 := ⟨⟨nw1781, nw187, ⟨by decide, by decide, by decide +kernel⟩, by decide, Or.inl nw1778⟩, ⟨_, rfl, rfl⟩, nw1779, nw1780⟩
theorem ml_L_137 : MLV RL 137 11 iX11_check 1 := ⟨⟨nw1206, nw174, ⟨by decide, by decide, by decide +kernel⟩, by decide, Or.inl nw1203⟩, ⟨_, rfl, rfl⟩, nw1204, nw1205⟩
theorem ml_L_140 : MLV RL 140 12 iX12_check 1 := ⟨⟨nw1785, nw187, ⟨by decide, by decide, by decide +kernel⟩, by decide, Or.inl nw1782⟩, ⟨_, rfl, rfl⟩, nw1783, nw1784⟩
theorem ml_L_141 : MLV RL 141 11 iX11_count 1 := ⟨⟨nw1210, nw174, ⟨by decide, by decide, by decide +kernel⟩, by decide, Or.inl nw1207⟩, ⟨_, rfl, rfl⟩, nw1208, nw1209⟩
theorem ml_L_144 : MLV RL 144 12 iX12_count 1 := ⟨⟨nw1789, nw187, ⟨by decide, by decide, by decide +kernel⟩, by decide, Or.inl nw1786⟩, ⟨_, rfl, rfl⟩, nw1787, nw1788⟩
section LCS
variable {p : Program} {l : Launch} {e : Env} {s : State} {m : MethodId} {below : List Frame} {meth : Method} {c : Code} {b L : Nat} {xs : Nat → Int32} {cs dC : Nat → ClassId} {dI : Nat → Nat → Nat} {al : Nat → Nat} {i : Int32} {M : HMem} {n : Nat}
theorem lc_0 (C : LC p s m meth c b L xs cs dC dI al) (hi : i = iI (n : Int)) (hn : n + 6 ≤ L) (hI : Inv M) (kk : ∀ M2, Inv M2 → LG p l e s m below meth c b cs dC dI al i M2 1145 []) : LG p l e s m below meth c b cs dC dI al i M 172 [] := by
  obtain ⟨r, M1, M2, g1, g2, g3⟩ := pr_hound (xs (n + 1)) (xs (n + 2)) (xs (n + 3)) hI
  refine lg_al1 C dL_law_172 ?_
  refine lg_arg (t := 1) C hi (by decide) (by omega) dL_law_173 dL_law_174 dL_law_175 dL_law_176 dL_law_177 ?_
  refine lg_arg (t := 2) C hi (by decide) (by omega) dL_law_178 dL_law_179 dL_law_180 dL_law_181 dL_law_182 ?_
  refine lg_arg (t := 3) C hi (by decide) (by omega) dL_law_183 dL_law_184 dL_law_185 dL_law_186 dL_law_187 ?_
  refine lg_call (av := [.inl (xs (n + 1)), .inl (xs (n + 2)), .inl (xs (n + 3))]) (st := []) C ml_L_13 sh0 (by decide) g1 rfl rfl (Nat.le_of_ble_eq_true rfl) dL_law_188 ?_
  refine lg_al2 C dL_law_191 ?_
  refine lg_arg (t := 1) C hi (by decide) (by omega) dL_law_192 dL_law_193 dL_law_194 dL_law_195 dL_law_196 ?_
  refine lg_arg (t := 2) C hi (by decide) (by omega) dL_law_197 dL_law_198 dL_law_199 dL_law_200 dL_law_201 ?_
  refine lg_arg (t := 3) C hi (by decide) (by omega) dL_law_202 dL_law_203 dL_law_204 dL_law_205 dL_law_206 ?_
  refine lg_call (av := [.inl (xs (n + 1)), .inl (xs (n + 2)), .inl (xs (n + 3))]) (st := [.int r]) C ml_L_17 sh74 (by decide) g2 rfl rfl (Nat.le_of_ble_eq_true rfl) dL_law_207 ?_
  exact lg_eq C dL_law_210 (by decide) (kk M2 g3)
theorem lc_1 (C : LC p s m meth c b L xs cs dC dI al) (hi : i = iI (n : Int)) (hn : n + 6 ≤ L) (hI : Inv M) (kk : ∀ M2, Inv M2 → LG p l e s m below meth c b cs dC dI al i M2 1145 []) : LG p l e s m below meth c b cs dC dI al i M 215 [] := by
  obtain ⟨r, M1, M2, g1, g2, g3⟩ := pr_fading (xs (n + 1)) hI
  refine lg_al1 C dL_law_215 ?_
  refine lg_arg (t := 1) C hi (by decide) (by omega) dL_law_216 dL_law_217 dL_law_218 dL_law_219 dL_law_220 ?_
  refine lg_call (av := [.inl (xs (n + 1))]) (st := []) C ml_L_18 sh0 (by decide) g1 rfl rfl (Nat.le_of_ble_eq_true rfl) dL_law_221 ?_
  refine lg_al2 C dL_law_224 ?_
  refine lg_arg (t := 1) C hi (by decide) (by omega) dL_law_225 dL_law_226 dL_law_227 dL_law_228 dL_law_229 ?_
  refine lg_call (av := [.inl (xs (n + 1))]) (st := [.int r]) C ml_L_22 sh74 (by decide) g2 rfl rfl (Nat.le_of_ble_eq_true rfl) dL_law_230 ?_
  exact lg_eq C dL_law_233 (by decide) (kk M2 g3)
theorem lc_2 (C : LC p s m meth c b L xs cs dC dI al) (hi : i = iI (n : Int)) (hn : n + 6 ≤ L) (hI : Inv M) (kk : ∀ M2, Inv M2 → LG p l e s m below meth c b cs dC dI al i M2 1145 []) : LG p l e s m below meth c b cs dC dI al i M 238 [] := by
  obtain ⟨r, M1, M2, g1, g2, g3⟩ := pr_time (xs (n + 1)) hI
  refine lg_al1 C dL_law_238 ?_
  refine lg_arg (t := 1) C hi (by decide) (by omega) dL_law_239 dL_law_240 dL_law_241 dL_law_242 dL_law_243 ?_
  refine lg_call (av := [.inl (xs (n + 1))]) (st := []) C ml_L_23 sh0 (by decide) g1 rfl rfl (Nat.le_of_ble_eq_true rfl) dL_law_244 ?_
  refine lg_al2 C dL_law_247 ?_
  refine lg_arg (t := 1) C hi (by decide) (by omega) dL_law_248 dL_law_249 dL_law_250 dL_law_251 dL_law_252 ?_
  refine lg_call (av := [.inl (xs (n + 1))]) (st := [.int r]) C ml_L_26 sh74 (by decide) g2 rfl rfl (Nat.le_of_ble_eq_true rfl) dL_law_253 ?_
  exact lg_eq C dL_law_256 (by decide) (kk M2 g3)
theorem lc_3 (C : LC p s m meth c b L xs cs dC dI al) (hi : i = iI (n : Int)) (hn : n + 6 ≤ L) (hI : Inv M) (kk : ∀ M2, Inv M2 → LG p l e s m below meth c b cs dC dI al i M2 1145 []) : LG p l e s m below meth c b cs dC dI al i M 261 [] := by
  obtain ⟨r, M1, M2, g1, g2, g3⟩ := pr_feed (xs (n + 1)) (xs (n + 2)) (xs (n + 3)) (xs (n + 4)) (xs (n + 5)) hI
  refine lg_al1 C dL_law_261 ?_
  refine lg_arg (t := 1) C hi (by decide) (by omega) dL_law_262 dL_law_263 dL_law_264 dL_law_265 dL_law_266 ?_
  refine lg_arg (t := 2) C hi (by decide) (by omega) dL_law_267 dL_law_268 dL_law_269 dL_law_270 dL_law_271 ?_
  refine lg_arg (t := 3) C hi (by decide) (by omega) dL_law_272 dL_law_273 dL_law_274 dL_law_275 dL_law_276 ?_
  refine lg_arg (t := 4) C hi (by decide) (by omega) dL_law_277 dL_law_278 dL_law_279 dL_law_280 dL_law_281 ?_
  refine lg_arg (t := 5) C hi (by decide) (by omega) dL_law_282 dL_law_283 dL_law_284 dL_law_285 dL_law_286 ?_
  refine lg_call (av := [.inl (xs (n + 1)), .inl (xs (n + 2)), .inl (xs (n + 3)), .inl (xs (n + 4)), .inl (xs (n + 5))]) (st := []) C ml_L_27 sh0 (by decide) g1 rfl rfl (Nat.le_of_ble_eq_true rfl) dL_law_287 ?_
  refine lg_al2 C dL_law_290 ?_
  refine lg_arg (t := 1) C hi (by decide) (by omega) dL_law_291 dL_law_292 dL_law_293 dL_law_294 dL_law_295 ?_
  refine lg_arg (t := 2) C hi (by decide) (by omega) dL_law_296 dL_law_297 dL_law_298 dL_law_299 dL_law_300 ?_
  refine lg_arg (t := 3) C hi (by decide) (by omega) dL_law_301 dL_law_302 dL_law_303 dL_law_304 dL_law_305 ?_
  refine lg_arg (t := 4) C hi (by decide) (by omega) dL_law_306 dL_law_307 dL_law_308 dL_law_309 dL_law_310 ?_
  refine lg_arg (t := 5) C hi (by decide) (by omega) dL_law_311 dL_law_312 dL_law_313 dL_law_314 dL_law_315 ?_
  refine lg_call (av := [.inl (xs (n + 1)), .inl (xs (n + 2)), .inl (xs (n + 3)), .inl (xs (n + 4)), .inl (xs (n + 5))]) (st := [.int r]) C ml_L_31 sh74 (by decide) g2 rfl rfl (Nat.le_of_ble_eq_true rfl) dL_law_316 ?_
  exact lg_eq C dL_law_319 (by decide) (kk M2 g3)
theorem lc_4 (C : LC p s m meth c b L xs cs dC dI al) (hi : i = iI (n : Int)) (hn : n + 6 ≤ L) (hI : Inv M) (kk : ∀ M2, Inv M2 → LG p l e s m below meth c b cs dC dI al i M2 1145 []) : LG p l e s m below meth c b cs dC dI al i M 324 [] := by
  obtain ⟨r, M1, M2, g1, g2, g3⟩ := pr_law (xs (n + 1)) hI
  refine lg_al1 C dL_law_324 ?_
  refine lg_arg (t := 1) C hi (by decide) (by omega) dL_law_325 dL_law_326 dL_law_327 dL_law_328 dL_law_329 ?_
  refine lg_call (av := [.inl (xs (n + 1))]) (st := []) C ml_L_32 sh0 (by decide) g1 rfl rfl (Nat.le_of_ble_eq_true rfl) dL_law_330 ?_
  refine lg_al2 C dL_law_333 ?_
  refine lg_arg (t := 1) C hi (by decide) (by omega) dL_law_334 dL_law_335 dL_law_336 dL_law_337 dL_law_338 ?_
  refine lg_call (av := [.inl (xs (n + 1))]) (st := [.int r]) C ml_L_36 sh74 (by decide) g2 rfl rfl (Nat.le_of_ble_eq_true rfl) dL_law_339 ?_
  exact lg_eq C dL_law_342 (by decide) (kk M2 g3)
theorem lc_5 (C : LC p s m meth c b L xs cs dC dI al) (hi : i = iI (n : Int)) (hn : n + 6 ≤ L) (hI : Inv M) (kk : ∀ M2, Inv M2 → LG p l e s m below meth c b cs dC dI al i M2 1145 []) : LG p l e s m below meth c b cs dC dI al i M 347 [] := by
  obtain ⟨r, M1, M2, g1, g2, g3⟩ := pr_line (xs (n + 1)) (xs (n + 2)) (xs (n + 3)) (xs (n + 4)) (xs (n + 5)) hI
  refine lg_al1 C dL_law_347 ?_
  refine lg_arg (t := 1) C hi (by decide) (by omega) dL_law_348 dL_law_349 dL_law_350 dL_law_351 dL_law_352 ?_
  refine lg_arg (t := 2) C hi (by decide) (by omega) dL_law_353 dL_law_354 dL_law_355 dL_law_356 dL_law_357 ?_
  refine lg_arg (t := 3) C hi (by decide) (by omega) dL_law_358 dL_law_359 dL_law_360 dL_law_361 dL_law_362 ?_
  refine lg_arg (t := 4) C hi (by decide) (by omega) dL_law_363 dL_law_364 dL_law_365 dL_law_366 dL_law_367 ?_
  refine lg_arg (t := 5) C hi (by decide) (by omega) dL_law_368 dL_law_369 dL_law_370 dL_law_371 dL_law_372 ?_
  refine lg_call (av := [.inl (xs (n + 1)), .inl (xs (n + 2)), .inl (xs (n + 3)), .inl (xs (n + 4)), .inl (xs (n + 5))]) (st := []) C ml_L_37 sh0 (by decide) g1 rfl rfl (Nat.le_of_ble_eq_true rfl) dL_law_373 ?_
  refine lg_al2 C dL_law_376 ?_
  refine lg_arg (t := 1) C hi (by decide) (by omega) dL_law_377 dL_law_378 dL_law_379 dL_law_380 dL_law_381 ?_
  refine lg_arg (t := 2) C hi (by decide) (by omega) dL_law_382 dL_law_383 dL_law_384 dL_law_385 dL_law_386 ?_
  refine lg_arg (t := 3) C hi (by decide) (by omega) dL_law_387 dL_law_388 dL_law_389 dL_law_390 dL_law_391 ?_
  refine lg_arg (t := 4) C hi (by decide) (by omega) dL_law_392 dL_law_393 dL_law_394 dL_law_395 dL_law_396 ?_
  refine lg_arg (t := 5) C hi (by decide) (by omega) dL_law_397 dL_law_398 dL_law_399 dL_law_400 dL_law_401 ?_
  refine lg_call (av := [.inl (xs (n + 1)), .inl (xs (n + 2)), .inl (xs (n + 3)), .inl (xs (n + 4)), .inl (xs (n + 5))]) (st := [.int r]) C ml_L_40 sh74 (by decide) g2 rfl rfl (Nat.le_of_ble_eq_true rfl) dL_law_402 ?_
  exact lg_eq C dL_law_405 (by decide) (kk M2 g3)
theorem lc_6 (C : LC p s m meth c b L xs cs dC dI al) (hi : i = iI (n : Int)) (hn : n + 6 ≤ L) (hI : Inv M) (kk : ∀ M2, Inv M2 → LG p l e s m below meth c b cs dC dI al i M2 1145 []) : LG p l e s m below meth c b cs dC dI al i M 410 [] := by
  obtain ⟨r, M1, M2, g1, g2, g3⟩ := pr_land (xs (n + 1)) hI
  refine lg_al1 C dL_law_410 ?_
  refine lg_arg (t := 1) C hi (by decide) (by omega) dL_law_411 dL_law_412 dL_law_413 dL_law_414 dL_law_415 ?_
  refine lg_call (av := [.inl (xs (n + 1))]) (st := []) C ml_L_41 sh0 (by decide) g1 rfl rfl (Nat.le_of_ble_eq_true rfl) dL_law_416 ?_
  refine lg_al2 C dL_law_419 ?_
  refine lg_arg (t := 1) C hi (by decide) (by omega) dL_law_420 dL_law_421 dL_law_422 dL_law_423 dL_law_424 ?_
  refine lg_call (av := [.inl (xs (n + 1))]) (st := [.int r]) C ml_L_44 sh74 (by decide) g2 rfl rfl (Nat.le_of_ble_eq_true rfl) dL_law_425 ?_
  exact lg_eq C dL_law_428 (by decide) (kk M2 g3)
theorem lc_7 (C : LC p s m meth c b L xs cs dC dI al) (hi : i = iI (n : Int)) (hn : n + 6 ≤ L) (hI : Inv M) (kk : ∀ M2, Inv M2 → LG p l e s m below meth c b cs dC dI al i M2 1145 []) : LG p l e s m below meth c b cs dC dI al i M 433 [] := by
  obtain ⟨r, M1, M2, g1, g2, g3⟩ := pr_moments (xs (n + 1)) hI
  refine lg_al1 C dL_law_433 ?_
  refine lg_arg (t := 1) C hi (by decide) (by omega) dL_law_434 dL_law_435 dL_law_436 dL_law_437 dL_law_438 ?_
  refine lg_call (av := [.inl (xs (n + 1))]) (st := []) C ml_L_45 sh0 (by decide) g1 rfl rfl (Nat.le_of_ble_eq_true rfl) dL_law_439 ?_
  refine lg_al2 C dL_law_442 ?_
  refine lg_arg (t := 1) C hi (by decide) (by omega) dL_law_443 dL_law_444 dL_law_445 dL_law_446 dL_law_447 ?_
  refine lg_call (av := [.inl (xs (n + 1))]) (st := [.int r]) C ml_L_48 sh74 (by decide) g2 rfl rfl (Nat.le_of_ble_eq_true rfl) dL_law_448 ?_
  exact lg_eq C dL_law_451 (by decide) (kk M2 g3)
theorem lc_8 (C : LC p s m meth c b L xs cs dC dI al) (hi : i = iI (n : Int)) (hn : n + 6 ≤ L) (hI : Inv M) (kk : ∀ M2, Inv M2 → LG p l e s m below meth c b cs dC dI al i M2 1145 []) : LG p l e s m below meth c b cs dC dI al i M 456 [] := by
  obtain ⟨r, M1, M2, g1, g2, g3⟩ := pr_tried (xs (n + 1)) (xs (n + 2)) hI
  refine lg_al1 C dL_law_456 ?_
  refine lg_arg (t := 1) C hi (by decide) (by omega) dL_law_457 dL_law_458 dL_law_459 dL_law_460 dL_law_461 ?_
  refine lg_arg (t := 2) C hi (by decide) (by omega) dL_law_462 dL_law_463 dL_law_464 dL_law_465 dL_law_466 ?_
  refine lg_call (av := [.inl (xs (n + 1)), .inl (xs (n + 2))]) (st := []) C ml_L_49 sh0 (by decide) g1 rfl rfl (Nat.le_of_ble_eq_true rfl) dL_law_467 ?_
  refine lg_al2 C dL_law_470 ?_
  refine lg_arg (t := 1) C hi (by decide) (by omega) dL_law_471 dL_law_472 dL_law_473 dL_law_474 dL_law_475 ?_
  refine lg_arg (t := 2) C hi (by decide) (by omega) dL_law_476 dL_law_477 dL_law_478 dL_law_479 dL_law_480 ?_
  refine lg_call (av := [.inl (xs (n + 1)), .inl (xs (n + 2))]) (st := [.int r]) C ml_L_53 sh74 (by decide) g2 rfl rfl (Nat.le_of_ble_eq_true rfl) dL_law_481 ?_
  exact lg_eq C dL_law_484 (by decide) (kk M2 g3)
theorem lc_9 (C : LC p s m meth c b L xs cs dC dI al) (hi : i = iI (n : Int)) (hn : n + 6 ≤ L) (hI : Inv M) (kk : ∀ M2, Inv M2 → LG p l e s m below meth c b cs dC dI al i M2 1145 []) : LG p l e s m below meth c b cs dC dI al i M 489 [] := by
  obtain ⟨r, M1, M2, g1, g2, g3⟩ := pr_houndIs (xs (n + 1)) (xs (n + 2)) hI
  refine lg_al1 C dL_law_489 ?_
  refine lg_arg (t := 1) C hi (by decide) (by omega) dL_law_490 dL_law_491 dL_law_492 dL_law_493 dL_law_494 ?_
  refine lg_arg (t := 2) C hi (by decide) (by omega) dL_law_495 dL_law_496 dL_law_497 dL_law_498 dL_law_499 ?_
  refine lg_call (av := [.inl (xs (n + 1)), .inl (xs (n + 2))]) (st := []) C ml_L_54 sh0 (by decide) g1 rfl rfl (Nat.le_of_ble_eq_true rfl) dL_law_500 ?_
  refine lg_al2 C dL_law_503 ?_
  refine lg_arg (t := 1) C hi (by decide) (by omega) dL_law_504 dL_law_505 dL_law_506 dL_law_507 dL_law_508 ?_
  refine lg_arg (t := 2) C hi (by decide) (by omega) dL_law_509 dL_law_510 dL_law_511 dL_law_512 dL_law_513 ?_
  refine lg_call (av := [.inl (xs (n + 1)), .inl (xs (n + 2))]) (st := [.int r]) C ml_L_57 sh74 (by decide) g2 rfl rfl (Nat.le_of_ble_eq_true rfl) dL_law_514 ?_
  exact lg_eq C dL_law_517 (by decide) (kk M2 g3)
theorem lc_10 (C : LC p s m meth c b L xs cs dC dI al) (hi : i = iI (n : Int)) (hn : n + 6 ≤ L) (hI : Inv M) (kk : ∀ M2, Inv M2 → LG p l e s m below meth c b cs dC dI al i M2 1145 []) : LG p l e s m below meth c b cs dC dI al i M 522 [] := by
  obtain ⟨r, M1, M2, g1, g2, g3⟩ := pr_where (xs (n + 1)) (xs (n + 2)) hI
  refine lg_al1 C dL_law_522 ?_
  refine lg_arg (t := 1) C hi (by decide) (by omega) dL_law_523 dL_law_524 dL_law_525 dL_law_526 dL_law_527 ?_
  refine lg_arg (t := 2) C hi (by decide) (by omega) dL_law_528 dL_law_529 dL_law_530 dL_law_531 dL_law_532 ?_
  refine lg_call (av := [.inl (xs (n + 1)), .inl (xs (n + 2))]) (st := []) C ml_L_58 sh0 (by decide) g1 rfl rfl (Nat.le_of_ble_eq_true rfl) dL_law_533 ?_
  refine lg_al2 C dL_law_536 ?_
  refine lg_arg (t := 1) C hi (by decide) (by omega) dL_law_537 dL_law_538 dL_law_539 dL_law_540 dL_law_541 ?_
  refine lg_arg (t := 2) C hi (by decide) (by omega) dL_law_542 dL_law_543 dL_law_544 dL_law_545 dL_law_546 ?_
  refine lg_call (av := [.inl (xs (n + 1)), .inl (xs (n + 2))]) (st := [.int r]) C ml_L_61 sh74 (by decide) g2 rfl rfl (Nat.le_of_ble_eq_true rfl) dL_law_547 ?_
  exact lg_eq C dL_law_550 (by decide) (kk M2 g3)
theorem lc_11 (C : LC p s m meth c b L xs cs dC dI al) (hi : i = iI (n : Int)) (hn : n + 6 ≤ L) (hI : Inv M) (kk : ∀ M2, Inv M2 → LG p l e s m below meth c b cs dC dI al i M2 1145 []) : LG p l e s m below meth c b cs dC dI al i M 555 [] := by
  obtain ⟨r, M1, M2, g1, g2, g3⟩ := pr_freshest (xs (n + 1)) (xs (n + 2)) (xs (n + 3)) hI
  refine lg_al1 C dL_law_555 ?_
  refine lg_arg (t := 1) C hi (by decide) (by omega) dL_law_556 dL_law_557 dL_law_558 dL_law_559 dL_law_560 ?_
  refine lg_arg (t := 2) C hi (by decide) (by omega) dL_law_561 dL_law_562 dL_law_563 dL_law_564 dL_law_565 ?_
  refine lg_arg (t := 3) C hi (by decide) (by omega) dL_law_566 dL_law_567 dL_law_568 dL_law_569 dL_law_570 ?_
  refine lg_call (av := [.inl (xs (n + 1)), .inl (xs (n + 2)), .inl (xs (n + 3))]) (st := []) C ml_L_62 sh0 (by decide) g1 rfl rfl (Nat.le_of_ble_eq_true rfl) dL_law_571 ?_
  refine lg_al2 C dL_law_574 ?_
  refine lg_arg (t := 1) C hi (by decide) (by omega) dL_law_575 dL_law_576 dL_law_577 dL_law_578 dL_law_579 ?_
  refine lg_arg (t := 2) C hi (by decide) (by omega) dL_law_580 dL_law_581 dL_law_582 dL_law_583 dL_law_584 ?_
  refine lg_arg (t := 3) C hi (by decide) (by omega) dL_law_585 dL_law_586 dL_law_587 dL_law_588 dL_law_589 ?_
  refine lg_call (av := [.inl (xs (n + 1)), .inl (xs (n + 2)), .inl (xs (n + 3))]) (st := [.int r]) C ml_L_66 sh74 (by decide) g2 rfl rfl (Nat.le_of_ble_eq_true rfl) dL_law_590 ?_
  exact lg_eq C dL_law_593 (by decide) (kk M2 g3)
theorem lc_12 (C : LC p s m meth c b L xs cs dC dI al) (hi : i = iI (n : Int)) (hn : n + 6 ≤ L) (hI : Inv M) (kk : ∀ M2, Inv M2 → LG p l e s m below meth c b cs dC dI al i M2 1145 []) : LG p l e s m below meth c b cs dC dI al i M 598 [] := by
  obtain ⟨r, M1, M2, g1, g2, g3⟩ := pr_firstHome (xs (n + 1)) (xs (n + 2)) hI
  refine lg_al1 C dL_law_598 ?_
  refine lg_arg (t := 1) C hi (by decide) (by omega) dL_law_599 dL_law_600 dL_law_601 dL_law_602 dL_law_603 ?_
  refine lg_arg (t := 2) C hi (by decide) (by omega) dL_law_604 dL_law_605 dL_law_606 dL_law_607 dL_law_608 ?_
  refine lg_call (av := [.inl (xs (n + 1)), .inl (xs (n + 2))]) (st := []) C ml_L_67 sh0 (by decide) g1 rfl rfl (Nat.le_of_ble_eq_true rfl) dL_law_609 ?_
  refine lg_al2 C dL_law_612 ?_
  refine lg_arg (t := 1) C hi (by decide) (by omega) dL_law_613 dL_law_614 dL_law_615 dL_law_616 dL_law_617 ?_
  refine lg_arg (t := 2) C hi (by decide) (by omega) dL_law_618 dL_law_619 dL_law_620 dL_law_621 dL_law_622 ?_
  refine lg_call (av := [.inl (xs (n + 1)), .inl (xs (n + 2))]) (st := [.int r]) C ml_L_70 sh74 (by decide) g2 rfl rfl (Nat.le_of_ble_eq_true rfl) dL_law_623 ?_
  exact lg_eq C dL_law_626 (by decide) (kk M2 g3)
theorem lc_13 (C : LC p s m meth c b L xs cs dC dI al) (hi : i = iI (n : Int)) (hn : n + 6 ≤ L) (hI : Inv M) (kk : ∀ M2, Inv M2 → LG p l e s m below meth c b cs dC dI al i M2 1145 []) : LG p l e s m below meth c b cs dC dI al i M 631 [] := by
  obtain ⟨r, M1, M2, g1, g2, g3⟩ := pr_two (xs (n + 1)) (xs (n + 2)) (xs (n + 3)) hI
  refine lg_al1 C dL_law_631 ?_
  refine lg_arg (t := 1) C hi (by decide) (by omega) dL_law_632 dL_law_633 dL_law_634 dL_law_635 dL_law_636 ?_
  refine lg_arg (t := 2) C hi (by decide) (by omega) dL_law_637 dL_law_638 dL_law_639 dL_law_640 dL_law_641 ?_
  refine lg_arg (t := 3) C hi (by decide) (by omega) dL_law_642 dL_law_643 dL_law_644 dL_law_645 dL_law_646 ?_
  refine lg_call (av := [.inl (xs (n + 1)), .inl (xs (n + 2)), .inl (xs (n + 3))]) (st := []) C ml_L_71 sh0 (by decide) g1 rfl rfl (Nat.le_of_ble_eq_true rfl) dL_law_647 ?_
  refine lg_al2 C dL_law_650 ?_
  refine lg_arg (t := 1) C hi (by decide) (by omega) dL_law_651 dL_law_652 dL_law_653 dL_law_654 dL_law_655 ?_
  refine lg_arg (t := 2) C hi (by decide) (by omega) dL_law_656 dL_law_657 dL_law_658 dL_law_659 dL_law_660 ?_
  refine lg_arg (t := 3) C hi (by decide) (by omega) dL_law_661 dL_law_662 dL_law_663 dL_law_664 dL_law_665 ?_
  refine lg_call (av := [.inl (xs (n + 1)), .inl (xs (n + 2)), .inl (xs (n + 3))]) (st := [.int r]) C ml_L_74 sh74 (by decide) g2 rfl rfl (Nat.le_of_ble_eq_true rfl) dL_law_666 ?_
  exact lg_eq C dL_law_669 (by decide) (kk M2 g3)
theorem lc_14 (C : LC p s m meth c b L xs cs dC dI al) (hi : i = iI (n : Int)) (hn : n + 6 ≤ L) (hI : Inv M) (kk : ∀ M2, Inv M2 → LG p l e s m below meth c b cs dC dI al i M2 1145 []) : LG p l e s m below meth c b cs dC dI al i M 674 [] := by
  obtain ⟨r, M1, M2, g1, g2, g3⟩ := pr_together (xs (n + 1)) (xs (n + 2)) (xs (n + 3)) hI
  refine lg_al1 C dL_law_674 ?_
  refine lg_arg (t := 1) C hi (by decide) (by omega) dL_law_675 dL_law_676 dL_law_677 dL_law_678 dL_law_679 ?_
  refine lg_arg (t := 2) C hi (by decide) (by omega) dL_law_680 dL_law_681 dL_law_682 dL_law_683 dL_law_684 ?_
  refine lg_arg (t := 3) C hi (by decide) (by omega) dL_law_685 dL_law_686 dL_law_687 dL_law_688 dL_law_689 ?_
  refine lg_call (av := [.inl (xs (n + 1)), .inl (xs (n + 2)), .inl (xs (n + 3))]) (st := []) C ml_L_75 sh0 (by decide) g1 rfl rfl (Nat.le_of_ble_eq_true rfl) dL_law_690 ?_
  refine lg_al2 C dL_law_693 ?_
  refine lg_arg (t := 1) C hi (by decide) (by omega) dL_law_694 dL_law_695 dL_law_696 dL_law_697 dL_law_698 ?_
  refine lg_arg (t := 2) C hi (by decide) (by omega) dL_law_699 dL_law_700 dL_law_701 dL_law_702 dL_law_703 ?_
  refine lg_arg (t := 3) C hi (by decide) (by omega) dL_law_704 dL_law_705 dL_law_706 dL_law_707 dL_law_708 ?_
  refine lg_call (av := [.inl (xs (n + 1)), .inl (xs (n + 2)), .inl (xs (n + 3))]) (st := [.int r]) C ml_L_78 sh74 (by decide) g2 rfl rfl (Nat.le_of_ble_eq_true rfl) dL_law_709 ?_
  exact lg_eq C dL_law_712 (by decide) (kk M2 g3)
theorem lc_15 (C : LC p s m meth c b L xs cs dC dI al) (hi : i = iI (n : Int)) (hn : n + 6 ≤ L) (hI : Inv M) (kk : ∀ M2, Inv M2 → LG p l e s m below meth c b cs dC dI al i M2 1145 []) : LG p l e s m below meth c b cs dC dI al i M 717 [] := by
  obtain ⟨r, M1, M2, g1, g2, g3⟩ := pr_crowd (xs (n + 1)) (xs (n + 2)) hI
  refine lg_al1 C dL_law_717 ?_
  refine lg_arg (t := 1) C hi (by decide) (by omega) dL_law_718 dL_law_719 dL_law_720 dL_law_721 dL_law_722 ?_
  refine lg_arg (t := 2) C hi (by decide) (by omega) dL_law_723 dL_law_724 dL_law_725 dL_law_726 dL_law_727 ?_
  refine lg_call (av := [.inl (xs (n + 1)), .inl (xs (n + 2))]) (st := []) C ml_L_79 sh0 (by decide) g1 rfl rfl (Nat.le_of_ble_eq_true rfl) dL_law_728 ?_
  refine lg_al2 C dL_law_731 ?_
  refine lg_arg (t := 1) C hi (by decide) (by omega) dL_law_732 dL_law_733 dL_law_734 dL_law_735 dL_law_736 ?_
  refine lg_arg (t := 2) C hi (by decide) (by omega) dL_law_737 dL_law_738 dL_law_739 dL_law_740 dL_law_741 ?_
  refine lg_call (av := [.inl (xs (n + 1)), .inl (xs (n + 2))]) (st := [.int r]) C ml_L_82 sh74 (by decide) g2 rfl rfl (Nat.le_of_ble_eq_true rfl) dL_law_742 ?_
  exact lg_eq C dL_law_745 (by decide) (kk M2 g3)
theorem lc_16 (C : LC p s m meth c b L xs cs dC dI al) (hi : i = iI (n : Int)) (hn : n + 6 ≤ L) (hI : Inv M) (kk : ∀ M2, Inv M2 → LG p l e s m below meth c b cs dC dI al i M2 1145 []) : LG p l e s m below meth c b cs dC dI al i M 750 [] := by
  obtain ⟨r, M1, M2, g1, g2, g3⟩ := pr_stayed (xs (n + 1)) (xs (n + 2)) hI
  refine lg_al1 C dL_law_750 ?_
  refine lg_arg (t := 1) C hi (by decide) (by omega) dL_law_751 dL_law_752 dL_law_753 dL_law_754 dL_law_755 ?_
  refine lg_arg (t := 2) C hi (by decide) (by omega) dL_law_756 dL_law_757 dL_law_758 dL_law_759 dL_law_760 ?_
  refine lg_call (av := [.inl (xs (n + 1)), .inl (xs (n + 2))]) (st := []) C ml_L_83 sh0 (by decide) g1 rfl rfl (Nat.le_of_ble_eq_true rfl) dL_law_761 ?_
  refine lg_al2 C dL_law_764 ?_
  refine lg_arg (t := 1) C hi (by decide) (by omega) dL_law_765 dL_law_766 dL_law_767 dL_law_768 dL_law_769 ?_
  refine lg_arg (t := 2) C hi (by decide) (by omega) dL_law_770 dL_law_771 dL_law_772 dL_law_773 dL_law_774 ?_
  refine lg_call (av := [.inl (xs (n + 1)), .inl (xs (n + 2))]) (st := [.int r]) C ml_L_86 sh74 (by decide) g2 rfl rfl (Nat.le_of_ble_eq_true rfl) dL_law_775 ?_
  exact lg_eq C dL_law_778 (by decide) (kk M2 g3)
theorem lc_17 (C : LC p s m meth c b L xs cs dC dI al) (hi : i = iI (n : Int)) (hn : n + 6 ≤ L) (hI : Inv M) (kk : ∀ M2, Inv M2 → LG p l e s m below meth c b cs dC dI al i M2 1145 []) : LG p l e s m below meth c b cs dC dI al i M 783 [] := by
  obtain ⟨r, M1, M2, g1, g2, g3⟩ := pr_unlooped (xs (n + 1)) (xs (n + 2)) hI
  refine lg_al1 C dL_law_783 ?_
  refine lg_arg (t := 1) C hi (by decide) (by omega) dL_law_784 dL_law_785 dL_law_786 dL_law_787 dL_law_788 ?_
  refine lg_arg (t := 2) C hi (by decide) (by omega) dL_law_789 dL_law_790 dL_law_791 dL_law_792 dL_law_793 ?_
  refine lg_call (av := [.inl (xs (n + 1)), .inl (xs (n + 2))]) (st := []) C ml_L_87 sh0 (by decide) g1 rfl rfl (Nat.le_of_ble_eq_true rfl) dL_law_794 ?_
  refine lg_al2 C dL_law_797 ?_
  refine lg_arg (t := 1) C hi (by decide) (by omega) dL_law_798 dL_law_799 dL_law_800 dL_law_801 dL_law_802 ?_
  refine lg_arg (t := 2) C hi (by decide) (by omega) dL_law_803 dL_law_804 dL_law_805 dL_law_806 dL_law_807 ?_
  refine lg_call (av := [.inl (xs (n + 1)), .inl (xs (n + 2))]) (st := [.int r]) C ml_L_90 sh74 (by decide) g2 rfl rfl (Nat.le_of_ble_eq_true rfl) dL_law_808 ?_
  exact lg_eq C dL_law_811 (by decide) (kk M2 g3)
theorem lc_18 (C : LC p s m meth c b L xs cs dC dI al) (hi : i = iI (n : Int)) (hn : n + 6 ≤ L) (hI : Inv M) (kk : ∀ M2, Inv M2 → LG p l e s m below meth c b cs dC dI al i M2 1145 []) : LG p l e s m below meth c b cs dC dI al i M 816 [] := by
  obtain ⟨r, M1, M2, g1, g2, g3⟩ := pr_charges (xs (n + 1)) (xs (n + 2)) hI
  refine lg_al1 C dL_law_816 ?_
  refine lg_arg (t := 1) C hi (by decide) (by omega) dL_law_817 dL_law_818 dL_law_819 dL_law_820 dL_law_821 ?_
  refine lg_arg (t := 2) C hi (by decide) (by omega) dL_law_822 dL_law_823 dL_law_824 dL_law_825 dL_law_826 ?_
  refine lg_call (av := [.inl (xs (n + 1)), .inl (xs (n + 2))]) (st := []) C ml_L_91 sh0 (by decide) g1 rfl rfl (Nat.le_of_ble_eq_true rfl) dL_law_827 ?_
  refine lg_al2 C dL_law_830 ?_
  refine lg_arg (t := 1) C hi (by decide) (by omega) dL_law_831 dL_law_832 dL_law_833 dL_law_834 dL_law_835 ?_
  refine lg_arg (t := 2) C hi (by decide) (by omega) dL_law_836 dL_law_837 dL_law_838 dL_law_839 dL_law_840 ?_
  refine lg_call (av := [.inl (xs (n + 1)), .inl (xs (n + 2))]) (st := [.int r]) C ml_L_94 sh74 (by decide) g2 rfl rfl (Nat.le_of_ble_eq_true rfl) dL_law_841 ?_
  exact lg_eq C dL_law_844 (by decide) (kk M2 g3)
theorem lc_19 (C : LC p s m meth c b L xs cs dC dI al) (hi : i = iI (n : Int)) (hn : n + 6 ≤ L) (hI : Inv M) (kk : ∀ M2, Inv M2 → LG p l e s m below meth c b cs dC dI al i M2 1145 []) : LG p l e s m below meth c b cs dC dI al i M 849 [] := by
  obtain ⟨r, M1, M2, g1, g2, g3⟩ := pr_round (xs (n + 1)) (xs (n + 2)) hI
  refine lg_al1 C dL_law_849 ?_
  refine lg_arg (t := 1) C hi (by decide) (by omega) dL_law_850 dL_law_851 dL_law_852 dL_law_853 dL_law_854 ?_
  refine lg_arg (t := 2) C hi (by decide) (by omega) dL_law_855 dL_law_856 dL_law_857 dL_law_858 dL_law_859 ?_
  refine lg_call (av := [.inl (xs (n + 1)), .inl (xs (n + 2))]) (st := []) C ml_L_95 sh0 (by decide) g1 rfl rfl (Nat.le_of_ble_eq_true rfl) dL_law_860 ?_
  refine lg_al2 C dL_law_863 ?_
  refine lg_arg (t := 1) C hi (by decide) (by omega) dL_law_864 dL_law_865 dL_law_866 dL_law_867 dL_law_868 ?_
  refine lg_arg (t := 2) C hi (by decide) (by omega) dL_law_869 dL_law_870 dL_law_871 dL_law_872 dL_law_873 ?_
  refine lg_call (av := [.inl (xs (n + 1)), .inl (xs (n + 2))]) (st := [.int r]) C ml_L_98 sh74 (by decide) g2 rfl rfl (Nat.le_of_ble_eq_true rfl) dL_law_874 ?_
  exact lg_eq C dL_law_877 (by decide) (kk M2 g3)
theorem lc_20 (C : LC p s m meth c b L xs cs dC dI al) (hi : i = iI (n : Int)) (hn : n + 6 ≤ L) (hI : Inv M) (kk : ∀ M2, Inv M2 → LG p l e s m below meth c b cs dC dI al i M2 1145 []) : LG p l e s m below meth c b cs dC dI al i M 882 [] := by
  obtain ⟨r, M1, M2, g1, g2, g3⟩ := pr_cast (xs (n + 1)) hI
  refine lg_al1 C dL_law_882 ?_
  refine lg_arg (t := 1) C hi (by decide) (by omega) dL_law_883 dL_law_884 dL_law_885 dL_law_886 dL_law_887 ?_
  refine lg_call (av := [.inl (xs (n + 1))]) (st := []) C ml_L_99 sh0 (by decide) g1 rfl rfl (Nat.le_of_ble_eq_true rfl) dL_law_888 ?_
  refine lg_al2 C dL_law_891 ?_
  refine lg_arg (t := 1) C hi (by decide) (by omega) dL_law_892 dL_law_893 dL_law_894 dL_law_895 dL_law_896 ?_
  refine lg_call (av := [.inl (xs (n + 1))]) (st := [.int r]) C ml_L_102 sh74 (by decide) g2 rfl rfl (Nat.le_of_ble_eq_true rfl) dL_law_897 ?_
  exact lg_eq C dL_law_900 (by decide) (kk M2 g3)
theorem lc_21 (C : LC p s m meth c b L xs cs dC dI al) (hi : i = iI (n : Int)) (hn : n + 6 ≤ L) (hI : Inv M) (kk : ∀ M2, Inv M2 → LG p l e s m below meth c b cs dC dI al i M2 1145 []) : LG p l e s m below meth c b cs dC dI al i M 905 [] := by
  obtain ⟨r, M1, M2, g1, g2, g3⟩ := pr_huntable (xs (n + 1)) hI
  refine lg_al1 C dL_law_905 ?_
  refine lg_arg (t := 1) C hi (by decide) (by omega) dL_law_906 dL_law_907 dL_law_908 dL_law_909 dL_law_910 ?_
  refine lg_call (av := [.inl (xs (n + 1))]) (st := []) C ml_L_103 sh0 (by decide) g1 rfl rfl (Nat.le_of_ble_eq_true rfl) dL_law_911 ?_
  refine lg_al2 C dL_law_914 ?_
  refine lg_arg (t := 1) C hi (by decide) (by omega) dL_law_915 dL_law_916 dL_law_917 dL_law_918 dL_law_919 ?_
  refine lg_call (av := [.inl (xs (n + 1))]) (st := [.int r]) C ml_L_106 sh74 (by decide) g2 rfl rfl (Nat.le_of_ble_eq_true rfl) dL_law_920 ?_
  exact lg_eq C dL_law_923 (by decide) (kk M2 g3)
theorem lc_22 (C : LC p s m meth c b L xs cs dC dI al) (hi : i = iI (n : Int)) (hn : n + 6 ≤ L) (hI : Inv M) (kk : ∀ M2, Inv M2 → LG p l e s m below meth c b cs dC dI al i M2 1145 []) : LG p l e s m below meth c b cs dC dI al i M 928 [] := by
  obtain ⟨r, M1, M2, g1, g2, g3⟩ := pr_couldBe (xs (n + 1)) (xs (n + 2)) hI
  refine lg_al1 C dL_law_928 ?_
  refine lg_arg (t := 1) C hi (by decide) (by omega) dL_law_929 dL_law_930 dL_law_931 dL_law_932 dL_law_933 ?_
  refine lg_arg (t := 2) C hi (by decide) (by omega) dL_law_934 dL_law_935 dL_law_936 dL_law_937 dL_law_938 ?_
  refine lg_call (av := [.inl (xs (n + 1)), .inl (xs (n + 2))]) (st := []) C ml_L_107 sh0 (by decide) g1 rfl rfl (Nat.le_of_ble_eq_true rfl) dL_law_939 ?_
  refine lg_al2 C dL_law_942 ?_
  refine lg_arg (t := 1) C hi (by decide) (by omega) dL_law_943 dL_law_944 dL_law_945 dL_law_946 dL_law_947 ?_
  refine lg_arg (t := 2) C hi (by decide) (by omega) dL_law_948 dL_law_949 dL_law_950 dL_law_951 dL_law_952 ?_
  refine lg_call (av := [.inl (xs (n + 1)), .inl (xs (n + 2))]) (st := [.int r]) C ml_L_110 sh74 (by decide) g2 rfl rfl (Nat.le_of_ble_eq_true rfl) dL_law_953 ?_
  exact lg_eq C dL_law_956 (by decide) (kk M2 g3)
theorem lc_23 (C : LC p s m meth c b L xs cs dC dI al) (hi : i = iI (n : Int)) (hn : n + 6 ≤ L) (hI : Inv M) (kk : ∀ M2, Inv M2 → LG p l e s m below meth c b cs dC dI al i M2 1145 []) : LG p l e s m below meth c b cs dC dI al i M 961 [] := by
  obtain ⟨r, M1, M2, g1, g2, g3⟩ := pr_heldIn (xs (n + 1)) hI
  refine lg_al1 C dL_law_961 ?_
  refine lg_arg (t := 1) C hi (by decide) (by omega) dL_law_962 dL_law_963 dL_law_964 dL_law_965 dL_law_966 ?_
  refine lg_call (av := [.inl (xs (n + 1))]) (st := []) C ml_L_111 sh0 (by decide) g1 rfl rfl (Nat.le_of_ble_eq_true rfl) dL_law_967 ?_
  refine lg_al2 C dL_law_970 ?_
  refine lg_arg (t := 1) C hi (by decide) (by omega) dL_law_971 dL_law_972 dL_law_973 dL_law_974 dL_law_975 ?_
  refine lg_call (av := [.inl (xs (n + 1))]) (st := [.int r]) C ml_L_114 sh74 (by decide) g2 rfl rfl (Nat.le_of_ble_eq_true rfl) dL_law_976 ?_
  exact lg_eq C dL_law_979 (by decide) (kk M2 g3)
theorem lc_24 (C : LC p s m meth c b L xs cs dC dI al) (hi : i = iI (n : Int)) (hn : n + 6 ≤ L) (hI : Inv M) (kk : ∀ M2, Inv M2 → LG p l e s m below meth c b cs dC dI al i M2 1145 []) : LG p l e s m below meth c b cs dC dI al i M 984 [] := by
  obtain ⟨r, M1, M2, g1, g2, g3⟩ := pr_lineIs (xs (n + 1)) (xs (n + 2)) hI
  refine lg_al1 C dL_law_984 ?_
  refine lg_arg (t := 1) C hi (by decide) (by omega) dL_law_985 dL_law_986 dL_law_987 dL_law_988 dL_law_989 ?_
  refine lg_arg (t := 2) C hi (by decide) (by omega) dL_law_990 dL_law_991 dL_law_992 dL_law_993 dL_law_994 ?_
  refine lg_call (av := [.inl (xs (n + 1)), .inl (xs (n + 2))]) (st := []) C ml_L_115 sh0 (by decide) g1 rfl rfl (Nat.le_of_ble_eq_true rfl) dL_law_995 ?_
  refine lg_al2 C dL_law_998 ?_
  refine lg_arg (t := 1) C hi (by decide) (by omega) dL_law_999 dL_law_1000 dL_law_1001 dL_law_1002 dL_law_1003 ?_
  refine lg_arg (t := 2) C hi (by decide) (by omega) dL_law_1004 dL_law_1005 dL_law_1006 dL_law_1007 dL_law_1008 ?_
  refine lg_call (av := [.inl (xs (n + 1)), .inl (xs (n + 2))]) (st := [.int r]) C ml_L_118 sh74 (by decide) g2 rfl rfl (Nat.le_of_ble_eq_true rfl) dL_law_1009 ?_
  exact lg_eq C dL_law_1012 (by decide) (kk M2 g3)
theorem lc_25 (C : LC p s m meth c b L xs cs dC dI al) (hi : i = iI (n : Int)) (hn : n + 6 ≤ L) (hI : Inv M) (kk : ∀ M2, Inv M2 → LG p l e s m below meth c b cs dC dI al i M2 1145 []) : LG p l e s m below meth c b cs dC dI al i M 1017 [] := by
  obtain ⟨r, M1, M2, g1, g2, g3⟩ := pr_landAt (xs (n + 1)) (xs (n + 2)) hI
  refine lg_al1 C dL_law_1017 ?_
  refine lg_arg (t := 1) C hi (by decide) (by omega) dL_law_1018 dL_law_1019 dL_law_1020 dL_law_1021 dL_law_1022 ?_
  refine lg_arg (t := 2) C hi (by decide) (by omega) dL_law_1023 dL_law_1024 dL_law_1025 dL_law_1026 dL_law_1027 ?_
  refine lg_call (av := [.inl (xs (n + 1)), .inl (xs (n + 2))]) (st := []) C ml_L_119 sh0 (by decide) g1 rfl rfl (Nat.le_of_ble_eq_true rfl) dL_law_1028 ?_
  refine lg_al2 C dL_law_1031 ?_
  refine lg_arg (t := 1) C hi (by decide) (by omega) dL_law_1032 dL_law_1033 dL_law_1034 dL_law_1035 dL_law_1036 ?_
  refine lg_arg (t := 2) C hi (by decide) (by omega) dL_law_1037 dL_law_1038 dL_law_1039 dL_law_1040 dL_law_1041 ?_
  refine lg_call (av := [.inl (xs (n + 1)), .inl (xs (n + 2))]) (st := [.int r]) C ml_L_122 sh74 (by decide) g2 rfl rfl (Nat.le_of_ble_eq_true rfl) dL_law_1042 ?_
  exact lg_eq C dL_law_1045 (by decide) (kk M2 g3)
theorem lc_26 (C : LC p s m meth c b L xs cs dC dI al) (hi : i = iI (n : Int)) (hn : n + 6 ≤ L) (hI : Inv M) (kk : ∀ M2, Inv M2 → LG p l e s m below meth c b cs dC dI al i M2 1145 []) : LG p l e s m below meth c b cs dC dI al i M 1050 [] := by
  obtain ⟨r, M1, M2, g1, g2, g3⟩ := pr_seed (xs (n + 1)) hI
  refine lg_al1 C dL_law_1050 ?_
  refine lg_arg (t := 1) C hi (by decide) (by omega) dL_law_1051 dL_law_1052 dL_law_1053 dL_law_1054 dL_law_1055 ?_
  refine lg_call (av := [.inl (xs (n + 1))]) (st := []) C ml_L_123 sh0 (by decide) g1 rfl rfl (Nat.le_of_ble_eq_true rfl) dL_law_1056 ?_
  refine lg_al2 C dL_law_1059 ?_
  refine lg_arg (t := 1) C hi (by decide) (by omega) dL_law_1060 dL_law_1061 dL_law_1062 dL_law_1063 dL_law_1064 ?_
  refine lg_call (av := [.inl (xs (n + 1))]) (st := [.int r]) C ml_L_126 sh74 (by decide) g2 rfl rfl (Nat.le_of_ble_eq_true rfl) dL_law_1065 ?_
  exact lg_eq C dL_law_1068 (by decide) (kk M2 g3)
theorem lc_27 (C : LC p s m meth c b L xs cs dC dI al) (hi : i = iI (n : Int)) (hn : n + 6 ≤ L) (hI : Inv M) (kk : ∀ M2, Inv M2 → LG p l e s m below meth c b cs dC dI al i M2 1145 []) : LG p l e s m below meth c b cs dC dI al i M 1073 [] := by
  obtain ⟨r, M1, M2, g1, g2, g3⟩ := pr_keep  hI
  refine lg_al1 C dL_law_1073 ?_
  refine lg_call (av := []) (st := []) C ml_L_127 sh0 (by decide) g1 rfl rfl (Nat.le_of_ble_eq_true rfl) dL_law_1074 ?_
  refine lg_al2 C dL_law_1077 ?_
  refine lg_call (av := []) (st := [.int r]) C ml_L_131 sh74 (by decide) g2 rfl rfl (Nat.le_of_ble_eq_true rfl) dL_law_1078 ?_
  exact lg_eq C dL_law_1081 (by decide) (kk M2 g3)
theorem lc_28 (C : LC p s m meth c b L xs cs dC dI al) (hi : i = iI (n : Int)) (hn : n + 6 ≤ L) (hI : Inv M) (kk : ∀ M2, Inv M2 → LG p l e s m below meth c b cs dC dI al i M2 1145 []) : LG p l e s m below meth c b cs dC dI al i M 1086 [] := by
  obtain ⟨r, M1, M2, g1, g2, g3⟩ := pr_undo  hI
  refine lg_al1 C dL_law_1086 ?_
  refine lg_call (av := []) (st := []) C ml_L_132 sh0 (by decide) g1 rfl rfl (Nat.le_of_ble_eq_true rfl) dL_law_1087 ?_
  refine lg_al2 C dL_law_1090 ?_
  refine lg_call (av := []) (st := [.int r]) C ml_L_136 sh74 (by decide) g2 rfl rfl (Nat.le_of_ble_eq_true rfl) dL_law_1091 ?_
  exact lg_eq C dL_law_1094 (by decide) (kk M2 g3)
theorem lc_29 (C : LC p s m meth c b L xs cs dC dI al) (hi : i = iI (n : Int)) (hn : n + 6 ≤ L) (hI : Inv M) (kk : ∀ M2, Inv M2 → LG p l e s m below meth c b cs dC dI al i M2 1145 []) : LG p l e s m below meth c b cs dC dI al i M 1099 [] := by
  obtain ⟨r, M1, M2, g1, g2, g3⟩ := pr_check (xs (n + 1)) hI
  refine lg_al1 C dL_law_1099 ?_
  refine lg_arg (t := 1) C hi (by decide) (by omega) dL_law_1100 dL_law_1101 dL_law_1102 dL_law_1103 dL_law_1104 ?_
  refine lg_call (av := [.inl (xs (n + 1))]) (st := []) C ml_L_137 sh0 (by decide) g1 rfl rfl (Nat.le_of_ble_eq_true rfl) dL_law_1105 ?_
  refine lg_al2 C dL_law_1108 ?_
  refine lg_arg (t := 1) C hi (by decide) (by omega) dL_law_1109 dL_law_1110 dL_law_1111 dL_law_1112 dL_law_1113 ?_
  refine lg_call (av := [.inl (xs (n + 1))]) (st := [.int r]) C ml_L_140 sh74 (by decide) g2 rfl rfl (Nat.le_of_ble_eq_true rfl) dL_law_1114 ?_
  exact lg_eq C dL_law_1117 (by decide) (kk M2 g3)
theorem lc_30 (C : LC p s m meth c b L xs cs dC dI al) (hi : i = iI (n : Int)) (hn : n + 6 ≤ L) (hI : Inv M) (kk : ∀ M2, Inv M2 → LG p l e s m below meth c b cs dC dI al i M2 1145 []) : LG p l e s m below meth c b cs dC dI al i M 1122 [] := by
  obtain ⟨r, M1, M2, g1, g2, g3⟩ := pr_count (xs (n + 1)) hI
  refine lg_al1 C dL_law_1122 ?_
  refine lg_arg (t := 1) C hi (by decide) (by omega) dL_law_1123 dL_law_1124 dL_law_1125 dL_law_1126 dL_law_1127 ?_
  refine lg_call (av := [.inl (xs (n + 1))]) (st := []) C ml_L_141 sh0 (by decide) g1 rfl rfl (Nat.le_of_ble_eq_true rfl) dL_law_1128 ?_
  refine lg_al2 C dL_law_1131 ?_
  refine lg_arg (t := 1) C hi (by decide) (by omega) dL_law_1132 dL_law_1133 dL_law_1134 dL_law_1135 dL_law_1136 ?_
  refine lg_call (av := [.inl (xs (n + 1))]) (st := [.int r]) C ml_L_144 sh74 (by decide) g2 rfl rfl (Nat.le_of_ble_eq_true rfl) dL_law_1137 ?_
  exact lg_eq C dL_law_1140 (by decide) (kk M2 g3)
end LCS
