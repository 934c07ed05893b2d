/-! words of the constructors -/
set_option maxRecDepth 20000 in
theorem cw_1 : (Jvm.Cond.initialized "TownRiverBeast") ∈ en_gw := List.mem_filter.mpr ⟨en_tm_1 _ (List.mem_of_getElem? (i := 1) rfl), rfl⟩
set_option maxRecDepth 20000 in
theorem cw_2 : (Jvm.Cond.initialized "TownRiverBeast$Evening") ∈ en_gw := List.mem_filter.mpr ⟨en_tm_1 _ (List.mem_of_getElem? (i := 2) rfl), rfl⟩
set_option maxRecDepth 20000 in
theorem cw_3 : (Jvm.Cond.initialized "TownRiverBeast$Outcome") ∈ en_gw := List.mem_filter.mpr ⟨en_tm_1 _ (List.mem_of_getElem? (i := 3) rfl), rfl⟩
set_option maxRecDepth 20000 in
theorem cw_4 : (Jvm.Cond.initialized "TownRiverBeast$BestSheet") ∈ en_gw := List.mem_filter.mpr ⟨en_tm_1 _ (List.mem_of_getElem? (i := 4) rfl), rfl⟩
set_option maxRecDepth 20000 in
theorem cw_5 : (Jvm.Cond.initialized "TownRiverBeast$Reader") ∈ en_gw := List.mem_filter.mpr ⟨en_tm_1 _ (List.mem_of_getElem? (i := 5) rfl), rfl⟩
set_option maxRecDepth 20000 in
theorem cw_6 : (Jvm.Cond.initialized "TownRiverBeast$Shelf") ∈ en_gw := List.mem_filter.mpr ⟨en_tm_1 _ (List.mem_of_getElem? (i := 6) rfl), rfl⟩
set_option maxRecDepth 20000 in
theorem cw_7 : (Jvm.Cond.initialized "TownRiverBeastModel") ∈ en_gw := List.mem_filter.mpr ⟨en_tm_1 _ (List.mem_of_getElem? (i := 7) rfl), rfl⟩
set_option maxRecDepth 20000 in
theorem cw_15 : (Jvm.Cond.classLink "TownRiverBeastLaw" (7 : Nat) "TownRiverBeast") ∈ en_gw := List.mem_filter.mpr ⟨en_tm_1 _ (List.mem_of_getElem? (i := 15) rfl), rfl⟩
set_option maxRecDepth 20000 in
theorem cw_16 : (Jvm.Cond.instantiable "TownRiverBeast" (10 : Nat)) ∈ en_gw := List.mem_filter.mpr ⟨en_tm_1 _ (List.mem_of_getElem? (i := 16) rfl), rfl⟩
set_option maxRecDepth 20000 in
theorem cw_17 : (Jvm.Cond.methodLink "TownRiverBeastLaw" (9 : Nat) ({ cls := "TownRiverBeast", name := "<init>", desc := "()V" } : Jvm.MethodName)) ∈ en_gw := List.mem_filter.mpr ⟨en_tm_1 _ (List.mem_of_getElem? (i := 17) rfl), rfl⟩
set_option maxRecDepth 20000 in
theorem cw_18 : (Jvm.Cond.instanceMethod ({ cls := "TownRiverBeast", name := "<init>", desc := "()V" } : Jvm.MethodName)) ∈ en_gw := List.mem_filter.mpr ⟨en_tm_1 _ (List.mem_of_getElem? (i := 18) rfl), rfl⟩
set_option maxRecDepth 20000 in
theorem cw_19 : (Jvm.Cond.code ({ cls := "TownRiverBeast", name := "<init>", desc := "()V" } : Jvm.MethodName) prog_1_method_1_code (2 : Nat) (Option.none : Option Jvm.ClassFile.FieldType)) ∈ en_gw := List.mem_filter.mpr ⟨en_tm_1 _ (List.mem_of_getElem? (i := 19) rfl), rfl⟩
set_option maxRecDepth 20000 in
theorem cw_20 : Cond.methodLink "TownRiverBeast" 1 objectInit ∈ en_gw := List.mem_filter.mpr ⟨en_tm_1 _ (List.mem_of_getElem? (i := 20) rfl), rfl⟩
set_option maxRecDepth 20000 in
theorem cw_21 : Cond.instanceMethod objectInit ∈ en_gw := List.mem_filter.mpr ⟨en_tm_1 _ (List.mem_of_getElem? (i := 21) rfl), rfl⟩
set_option maxRecDepth 20000 in
theorem cw_22 : Cond.code objectInit ⟨#[0xb1]⟩ 1 none ∈ en_gw := List.mem_filter.mpr ⟨en_tm_1 _ (List.mem_of_getElem? (i := 22) rfl), rfl⟩
set_option maxRecDepth 20000 in
theorem cw_23 : (Jvm.Cond.classLink "TownRiverBeast" (7 : Nat) "TownRiverBeast$Evening") ∈ en_gw := List.mem_filter.mpr ⟨en_tm_1 _ (List.mem_of_getElem? (i := 23) rfl), rfl⟩
set_option maxRecDepth 20000 in
theorem cw_24 : (Jvm.Cond.instantiable "TownRiverBeast$Evening" (15 : Nat)) ∈ en_gw := List.mem_filter.mpr ⟨en_tm_1 _ (List.mem_of_getElem? (i := 24) rfl), rfl⟩
set_option maxRecDepth 20000 in
theorem cw_26 : (Jvm.Cond.instanceMethod ({ cls := "TownRiverBeast$Evening", name := "<init>", desc := "()V" } : Jvm.MethodName)) ∈ en_gw := List.mem_filter.mpr ⟨en_tm_1 _ (List.mem_of_getElem? (i := 26) rfl), rfl⟩
set_option maxRecDepth 20000 in
theorem cw_27 : (Jvm.Cond.code ({ cls := "TownRiverBeast$Evening", name := "<init>", desc := "()V" } : Jvm.MethodName) prog_3_method_1_code (1 : Nat) (Option.none : Option Jvm.ClassFile.FieldType)) ∈ en_gw := List.mem_filter.mpr ⟨en_tm_1 _ (List.mem_of_getElem? (i := 27) rfl), rfl⟩
set_option maxRecDepth 20000 in
theorem cw_28 : Cond.methodLink "TownRiverBeast$Evening" 3 objectInit ∈ en_gw := List.mem_filter.mpr ⟨en_tm_1 _ (List.mem_of_getElem? (i := 28) rfl), rfl⟩
set_option maxRecDepth 20000 in
theorem cw_31 : (Jvm.Cond.methodLink "TownRiverBeast$Evening" (28 : Nat) ({ cls := "[I", name := "clone", desc := "()Ljava/lang/Object;" } : Jvm.MethodName)) ∈ en_gw := List.mem_filter.mpr ⟨en_tm_1 _ (List.mem_of_getElem? (i := 31) rfl), rfl⟩
set_option maxRecDepth 20000 in
theorem cw_32 : (Jvm.Cond.sameMethod "[I" "java/lang/Object" "clone" "()Ljava/lang/Object;") ∈ en_gw := List.mem_filter.mpr ⟨en_tm_1 _ (List.mem_of_getElem? (i := 32) rfl), rfl⟩
set_option maxRecDepth 20000 in
theorem cw_33 : (Jvm.Cond.native ({ cls := "java/lang/Object", name := "clone", desc := "()Ljava/lang/Object;" } : Jvm.MethodName)) ∈ en_gw := List.mem_filter.mpr ⟨en_tm_1 _ (List.mem_of_getElem? (i := 33) rfl), rfl⟩
set_option maxRecDepth 20000 in
theorem cw_34 : (Jvm.Cond.instanceMethod ({ cls := "java/lang/Object", name := "clone", desc := "()Ljava/lang/Object;" } : Jvm.MethodName)) ∈ en_gw := List.mem_filter.mpr ⟨en_tm_1 _ (List.mem_of_getElem? (i := 34) rfl), rfl⟩
set_option maxRecDepth 20000 in
theorem cw_35 : (Jvm.Cond.selects "[I" ({ cls := "[I", name := "clone", desc := "()Ljava/lang/Object;" } : Jvm.MethodName) ({ cls := "java/lang/Object", name := "clone", desc := "()Ljava/lang/Object;" } : Jvm.MethodName)) ∈ en_gw := List.mem_filter.mpr ⟨en_tm_1 _ (List.mem_of_getElem? (i := 35) rfl), rfl⟩
set_option maxRecDepth 20000 in
theorem cw_37 : (Jvm.Cond.classLink "TownRiverBeast$Evening" (29 : Nat) "[I") ∈ en_gw := List.mem_filter.mpr ⟨en_tm_1 _ (List.mem_of_getElem? (i := 37) rfl), rfl⟩
set_option maxRecDepth 20000 in
theorem cw_38 : (Jvm.Cond.classLink "TownRiverBeast$Evening" (58 : Nat) "[[I") ∈ en_gw := List.mem_filter.mpr ⟨en_tm_1 _ (List.mem_of_getElem? (i := 38) rfl), rfl⟩
set_option maxRecDepth 20000 in
theorem cw_40 : (Jvm.Cond.fieldLink "TownRiverBeast$Evening" (9 : Nat) "TownRiverBeast$Evening" "columnCount" "I") ∈ en_gw := List.mem_filter.mpr ⟨en_tm_1 _ (List.mem_of_getElem? (i := 40) rfl), rfl⟩
set_option maxRecDepth 20000 in
theorem cw_43 : (Jvm.Cond.fieldLink "TownRiverBeast$Evening" (15 : Nat) "TownRiverBeast$Evening" "wordCount" "I") ∈ en_gw := List.mem_filter.mpr ⟨en_tm_1 _ (List.mem_of_getElem? (i := 43) rfl), rfl⟩
set_option maxRecDepth 20000 in
theorem cw_48 : (Jvm.Cond.fieldLink "TownRiverBeast$Evening" (18 : Nat) "TownRiverBeast$Evening" "peopleCount" "I") ∈ en_gw := List.mem_filter.mpr ⟨en_tm_1 _ (List.mem_of_getElem? (i := 48) rfl), rfl⟩
set_option maxRecDepth 20000 in
theorem cw_53 : (Jvm.Cond.fieldLink "TownRiverBeast$Evening" (21 : Nat) "TownRiverBeast$Evening" "seedNow" "I") ∈ en_gw := List.mem_filter.mpr ⟨en_tm_1 _ (List.mem_of_getElem? (i := 53) rfl), rfl⟩
set_option maxRecDepth 20000 in
theorem cw_55 : (Jvm.Cond.fieldLink "TownRiverBeast$Evening" (33 : Nat) "TownRiverBeast$Evening" "asked" "[I") ∈ en_gw := List.mem_filter.mpr ⟨en_tm_1 _ (List.mem_of_getElem? (i := 55) rfl), rfl⟩
set_option maxRecDepth 20000 in
theorem cw_60 : (Jvm.Cond.fieldLink "TownRiverBeast$Evening" (36 : Nat) "TownRiverBeast$Evening" "kinds" "[I") ∈ en_gw := List.mem_filter.mpr ⟨en_tm_1 _ (List.mem_of_getElem? (i := 60) rfl), rfl⟩
set_option maxRecDepth 20000 in
theorem cw_62 : (Jvm.Cond.fieldLink "TownRiverBeast$Evening" (39 : Nat) "TownRiverBeast$Evening" "letters" "[I") ∈ en_gw := List.mem_filter.mpr ⟨en_tm_1 _ (List.mem_of_getElem? (i := 62) rfl), rfl⟩
set_option maxRecDepth 20000 in
theorem cw_64 : (Jvm.Cond.fieldLink "TownRiverBeast$Evening" (42 : Nat) "TownRiverBeast$Evening" "columnOf" "[I") ∈ en_gw := List.mem_filter.mpr ⟨en_tm_1 _ (List.mem_of_getElem? (i := 64) rfl), rfl⟩
set_option maxRecDepth 20000 in
theorem cw_68 : (Jvm.Cond.fieldLink "TownRiverBeast$Evening" (45 : Nat) "TownRiverBeast$Evening" "seconds" "[I") ∈ en_gw := List.mem_filter.mpr ⟨en_tm_1 _ (List.mem_of_getElem? (i := 68) rfl), rfl⟩
set_option maxRecDepth 20000 in
theorem cw_70 : (Jvm.Cond.fieldLink "TownRiverBeast$Evening" (48 : Nat) "TownRiverBeast$Evening" "extras" "[I") ∈ en_gw := List.mem_filter.mpr ⟨en_tm_1 _ (List.mem_of_getElem? (i := 70) rfl), rfl⟩
set_option maxRecDepth 20000 in
theorem cw_72 : (Jvm.Cond.fieldLink "TownRiverBeast$Evening" (51 : Nat) "TownRiverBeast$Evening" "knowers" "[I") ∈ en_gw := List.mem_filter.mpr ⟨en_tm_1 _ (List.mem_of_getElem? (i := 72) rfl), rfl⟩
set_option maxRecDepth 20000 in
theorem cw_75 : (Jvm.Cond.fieldLink "TownRiverBeast$Evening" (54 : Nat) "TownRiverBeast$Evening" "isUsed" "[Z") ∈ en_gw := List.mem_filter.mpr ⟨en_tm_1 _ (List.mem_of_getElem? (i := 75) rfl), rfl⟩
set_option maxRecDepth 20000 in
theorem cw_77 : (Jvm.Cond.fieldLink "TownRiverBeast$Evening" (60 : Nat) "TownRiverBeast$Evening" "sheets" "[[I") ∈ en_gw := List.mem_filter.mpr ⟨en_tm_1 _ (List.mem_of_getElem? (i := 77) rfl), rfl⟩
set_option maxRecDepth 20000 in
theorem cw_81 : (Jvm.Cond.fieldLink "TownRiverBeast$Evening" (63 : Nat) "TownRiverBeast$Evening" "sizes" "[I") ∈ en_gw := List.mem_filter.mpr ⟨en_tm_1 _ (List.mem_of_getElem? (i := 81) rfl), rfl⟩
set_option maxRecDepth 20000 in
theorem cw_85 : (Jvm.Cond.fieldLink "TownRiverBeast$Evening" (66 : Nat) "TownRiverBeast$Evening" "scores" "[I") ∈ en_gw := List.mem_filter.mpr ⟨en_tm_1 _ (List.mem_of_getElem? (i := 85) rfl), rfl⟩
set_option maxRecDepth 20000 in
theorem cw_118 : (Jvm.Cond.arrayClass Jvm.ClassFile.FieldType.int) ∈ en_gw := List.mem_filter.mpr ⟨en_tm_1 _ (List.mem_of_getElem? (i := 118) rfl), rfl⟩
set_option maxRecDepth 20000 in
theorem cw_119 : (Jvm.Cond.arrayClass Jvm.ClassFile.FieldType.boolean) ∈ en_gw := List.mem_filter.mpr ⟨en_tm_1 _ (List.mem_of_getElem? (i := 119) rfl), rfl⟩
set_option maxRecDepth 20000 in
theorem cw_120 : (Jvm.Cond.classLink "TownRiverBeast" (22 : Nat) "TownRiverBeast$Outcome") ∈ en_gw := List.mem_filter.mpr ⟨en_tm_1 _ (List.mem_of_getElem? (i := 120) rfl), rfl⟩
set_option maxRecDepth 20000 in
theorem cw_121 : (Jvm.Cond.instantiable "TownRiverBeast$Outcome" (4 : Nat)) ∈ en_gw := List.mem_filter.mpr ⟨en_tm_1 _ (List.mem_of_getElem? (i := 121) rfl), rfl⟩
set_option maxRecDepth 20000 in
theorem cw_123 : (Jvm.Cond.instanceMethod ({ cls := "TownRiverBeast$Outcome", name := "<init>", desc := "()V" } : Jvm.MethodName)) ∈ en_gw := List.mem_filter.mpr ⟨en_tm_1 _ (List.mem_of_getElem? (i := 123) rfl), rfl⟩
set_option maxRecDepth 20000 in
theorem cw_124 : (Jvm.Cond.code ({ cls := "TownRiverBeast$Outcome", name := "<init>", desc := "()V" } : Jvm.MethodName) prog_4_method_1_code (1 : Nat) (Option.none : Option Jvm.ClassFile.FieldType)) ∈ en_gw := List.mem_filter.mpr ⟨en_tm_1 _ (List.mem_of_getElem? (i := 124) rfl), rfl⟩
set_option maxRecDepth 20000 in
theorem cw_125 : Cond.methodLink "TownRiverBeast$Outcome" 3 objectInit ∈ en_gw := List.mem_filter.mpr ⟨en_tm_1 _ (List.mem_of_getElem? (i := 125) rfl), rfl⟩
set_option maxRecDepth 20000 in
theorem cw_126 : (Jvm.Cond.fieldLink "TownRiverBeast$Outcome" (9 : Nat) "TownRiverBeast$Outcome" "callSecond" "I") ∈ en_gw := List.mem_filter.mpr ⟨en_tm_1 _ (List.mem_of_getElem? (i := 126) rfl), rfl⟩
set_option maxRecDepth 20000 in
theorem cw_128 : (Jvm.Cond.fieldLink "TownRiverBeast$Outcome" (15 : Nat) "TownRiverBeast$Outcome" "callerNumber" "I") ∈ en_gw := List.mem_filter.mpr ⟨en_tm_1 _ (List.mem_of_getElem? (i := 128) rfl), rfl⟩
set_option maxRecDepth 20000 in
theorem cw_130 : (Jvm.Cond.fieldLink "TownRiverBeast$Outcome" (18 : Nat) "TownRiverBeast$Outcome" "keptWords" "[I") ∈ en_gw := List.mem_filter.mpr ⟨en_tm_1 _ (List.mem_of_getElem? (i := 130) rfl), rfl⟩
set_option maxRecDepth 20000 in
theorem cw_132 : (Jvm.Cond.fieldLink "TownRiverBeast$Outcome" (22 : Nat) "TownRiverBeast$Outcome" "keptColumns" "[I") ∈ en_gw := List.mem_filter.mpr ⟨en_tm_1 _ (List.mem_of_getElem? (i := 132) rfl), rfl⟩
set_option maxRecDepth 20000 in
theorem cw_142 : (Jvm.Cond.classLink "TownRiverBeast" (29 : Nat) "TownRiverBeast$BestSheet") ∈ en_gw := List.mem_filter.mpr ⟨en_tm_1 _ (List.mem_of_getElem? (i := 142) rfl), rfl⟩
set_option maxRecDepth 20000 in
theorem cw_143 : (Jvm.Cond.instantiable "TownRiverBeast$BestSheet" (18 : Nat)) ∈ en_gw := List.mem_filter.mpr ⟨en_tm_1 _ (List.mem_of_getElem? (i := 143) rfl), rfl⟩
set_option maxRecDepth 20000 in
theorem cw_145 : (Jvm.Cond.instanceMethod ({ cls := "TownRiverBeast$BestSheet", name := "<init>", desc := "()V" } : Jvm.MethodName)) ∈ en_gw := List.mem_filter.mpr ⟨en_tm_1 _ (List.mem_of_getElem? (i := 145) rfl), rfl⟩
set_option maxRecDepth 20000 in
theorem cw_146 : (Jvm.Cond.code ({ cls := "TownRiverBeast$BestSheet", name := "<init>", desc := "()V" } : Jvm.MethodName) prog_2_method_1_code (1 : Nat) (Option.none : Option Jvm.ClassFile.FieldType)) ∈ en_gw := List.mem_filter.mpr ⟨en_tm_1 _ (List.mem_of_getElem? (i := 146) rfl), rfl⟩
set_option maxRecDepth 20000 in
theorem cw_147 : Cond.methodLink "TownRiverBeast$BestSheet" 3 objectInit ∈ en_gw := List.mem_filter.mpr ⟨en_tm_1 _ (List.mem_of_getElem? (i := 147) rfl), rfl⟩
set_option maxRecDepth 20000 in
theorem cw_148 : (Jvm.Cond.fieldLink "TownRiverBeast$BestSheet" (9 : Nat) "TownRiverBeast$BestSheet" "points" "I") ∈ en_gw := List.mem_filter.mpr ⟨en_tm_1 _ (List.mem_of_getElem? (i := 148) rfl), rfl⟩
set_option maxRecDepth 20000 in
theorem cw_150 : (Jvm.Cond.fieldLink "TownRiverBeast$BestSheet" (15 : Nat) "TownRiverBeast$BestSheet" "bits" "I") ∈ en_gw := List.mem_filter.mpr ⟨en_tm_1 _ (List.mem_of_getElem? (i := 150) rfl), rfl⟩
set_option maxRecDepth 20000 in
theorem cw_152 : (Jvm.Cond.fieldLink "TownRiverBeast$BestSheet" (18 : Nat) "TownRiverBeast$BestSheet" "callSecond" "I") ∈ en_gw := List.mem_filter.mpr ⟨en_tm_1 _ (List.mem_of_getElem? (i := 152) rfl), rfl⟩
set_option maxRecDepth 20000 in
theorem cw_154 : (Jvm.Cond.fieldLink "TownRiverBeast$BestSheet" (21 : Nat) "TownRiverBeast$BestSheet" "need" "I") ∈ en_gw := List.mem_filter.mpr ⟨en_tm_1 _ (List.mem_of_getElem? (i := 154) rfl), rfl⟩
set_option maxRecDepth 20000 in
theorem cw_155 : (Jvm.Cond.fieldLink "TownRiverBeast$BestSheet" (24 : Nat) "TownRiverBeast$BestSheet" "limit" "I") ∈ en_gw := List.mem_filter.mpr ⟨en_tm_1 _ (List.mem_of_getElem? (i := 155) rfl), rfl⟩
set_option maxRecDepth 20000 in
theorem cw_156 : (Jvm.Cond.fieldLink "TownRiverBeast$BestSheet" (27 : Nat) "TownRiverBeast$BestSheet" "alone" "I") ∈ en_gw := List.mem_filter.mpr ⟨en_tm_1 _ (List.mem_of_getElem? (i := 156) rfl), rfl⟩
set_option maxRecDepth 20000 in
theorem cw_157 : (Jvm.Cond.fieldLink "TownRiverBeast$BestSheet" (30 : Nat) "TownRiverBeast$BestSheet" "own" "I") ∈ en_gw := List.mem_filter.mpr ⟨en_tm_1 _ (List.mem_of_getElem? (i := 157) rfl), rfl⟩
set_option maxRecDepth 20000 in
theorem cw_158 : (Jvm.Cond.fieldLink "TownRiverBeast$BestSheet" (33 : Nat) "TownRiverBeast$BestSheet" "alike" "I") ∈ en_gw := List.mem_filter.mpr ⟨en_tm_1 _ (List.mem_of_getElem? (i := 158) rfl), rfl⟩
set_option maxRecDepth 20000 in
theorem cw_159 : (Jvm.Cond.fieldLink "TownRiverBeast$BestSheet" (36 : Nat) "TownRiverBeast$BestSheet" "count" "I") ∈ en_gw := List.mem_filter.mpr ⟨en_tm_1 _ (List.mem_of_getElem? (i := 159) rfl), rfl⟩
set_option maxRecDepth 20000 in
theorem cw_160 : (Jvm.Cond.fieldLink "TownRiverBeast$BestSheet" (39 : Nat) "TownRiverBeast$BestSheet" "line" "[I") ∈ en_gw := List.mem_filter.mpr ⟨en_tm_1 _ (List.mem_of_getElem? (i := 160) rfl), rfl⟩
set_option maxRecDepth 20000 in
theorem cw_161 : (Jvm.Cond.fieldLink "TownRiverBeast$BestSheet" (43 : Nat) "TownRiverBeast$BestSheet" "costs" "[I") ∈ en_gw := List.mem_filter.mpr ⟨en_tm_1 _ (List.mem_of_getElem? (i := 161) rfl), rfl⟩
set_option maxRecDepth 20000 in
theorem cw_162 : (Jvm.Cond.fieldLink "TownRiverBeast$BestSheet" (46 : Nat) "TownRiverBeast$BestSheet" "columnBits" "[I") ∈ en_gw := List.mem_filter.mpr ⟨en_tm_1 _ (List.mem_of_getElem? (i := 162) rfl), rfl⟩
set_option maxRecDepth 20000 in
theorem cw_163 : (Jvm.Cond.fieldLink "TownRiverBeast$BestSheet" (49 : Nat) "TownRiverBeast$BestSheet" "counts" "[Z") ∈ en_gw := List.mem_filter.mpr ⟨en_tm_1 _ (List.mem_of_getElem? (i := 163) rfl), rfl⟩
set_option maxRecDepth 20000 in
theorem cw_164 : (Jvm.Cond.fieldLink "TownRiverBeast$BestSheet" (53 : Nat) "TownRiverBeast$BestSheet" "chosen" "[I") ∈ en_gw := List.mem_filter.mpr ⟨en_tm_1 _ (List.mem_of_getElem? (i := 164) rfl), rfl⟩
set_option maxRecDepth 20000 in
theorem cw_165 : (Jvm.Cond.fieldLink "TownRiverBeast$BestSheet" (56 : Nat) "TownRiverBeast$BestSheet" "othersCount" "I") ∈ en_gw := List.mem_filter.mpr ⟨en_tm_1 _ (List.mem_of_getElem? (i := 165) rfl), rfl⟩
set_option maxRecDepth 20000 in
theorem cw_166 : (Jvm.Cond.fieldLink "TownRiverBeast$BestSheet" (59 : Nat) "TownRiverBeast$BestSheet" "othersWords" "[I") ∈ en_gw := List.mem_filter.mpr ⟨en_tm_1 _ (List.mem_of_getElem? (i := 166) rfl), rfl⟩
set_option maxRecDepth 20000 in
theorem cw_167 : (Jvm.Cond.fieldLink "TownRiverBeast$BestSheet" (62 : Nat) "TownRiverBeast$BestSheet" "othersColumns" "[I") ∈ en_gw := List.mem_filter.mpr ⟨en_tm_1 _ (List.mem_of_getElem? (i := 167) rfl), rfl⟩
set_option maxRecDepth 20000 in
theorem cw_168 : (Jvm.Cond.fieldLink "TownRiverBeast$BestSheet" (65 : Nat) "TownRiverBeast$BestSheet" "othersSeconds" "[I") ∈ en_gw := List.mem_filter.mpr ⟨en_tm_1 _ (List.mem_of_getElem? (i := 168) rfl), rfl⟩
set_option maxRecDepth 20000 in
theorem cw_206 : (Jvm.Cond.classLink "TownRiverBeast" (36 : Nat) "TownRiverBeast$Reader") ∈ en_gw := List.mem_filter.mpr ⟨en_tm_1 _ (List.mem_of_getElem? (i := 206) rfl), rfl⟩
set_option maxRecDepth 20000 in
theorem cw_207 : (Jvm.Cond.instantiable "TownRiverBeast$Reader" (9 : Nat)) ∈ en_gw := List.mem_filter.mpr ⟨en_tm_1 _ (List.mem_of_getElem? (i := 207) rfl), rfl⟩
set_option maxRecDepth 20000 in
theorem cw_209 : (Jvm.Cond.instanceMethod ({ cls := "TownRiverBeast$Reader", name := "<init>", desc := "()V" } : Jvm.MethodName)) ∈ en_gw := List.mem_filter.mpr ⟨en_tm_1 _ (List.mem_of_getElem? (i := 209) rfl), rfl⟩
set_option maxRecDepth 20000 in
theorem cw_210 : (Jvm.Cond.code ({ cls := "TownRiverBeast$Reader", name := "<init>", desc := "()V" } : Jvm.MethodName) prog_5_method_1_code (1 : Nat) (Option.none : Option Jvm.ClassFile.FieldType)) ∈ en_gw := List.mem_filter.mpr ⟨en_tm_1 _ (List.mem_of_getElem? (i := 210) rfl), rfl⟩
set_option maxRecDepth 20000 in
theorem cw_211 : Cond.methodLink "TownRiverBeast$Reader" 3 objectInit ∈ en_gw := List.mem_filter.mpr ⟨en_tm_1 _ (List.mem_of_getElem? (i := 211) rfl), rfl⟩
set_option maxRecDepth 20000 in
theorem cw_212 : (Jvm.Cond.fieldLink "TownRiverBeast$Reader" (9 : Nat) "TownRiverBeast$Reader" "size" "I") ∈ en_gw := List.mem_filter.mpr ⟨en_tm_1 _ (List.mem_of_getElem? (i := 212) rfl), rfl⟩
set_option maxRecDepth 20000 in
theorem cw_214 : (Jvm.Cond.fieldLink "TownRiverBeast$Reader" (15 : Nat) "TownRiverBeast$Reader" "statements" "I") ∈ en_gw := List.mem_filter.mpr ⟨en_tm_1 _ (List.mem_of_getElem? (i := 214) rfl), rfl⟩
set_option maxRecDepth 20000 in
theorem cw_216 : (Jvm.Cond.fieldLink "TownRiverBeast$Reader" (18 : Nat) "TownRiverBeast$Reader" "start" "I") ∈ en_gw := List.mem_filter.mpr ⟨en_tm_1 _ (List.mem_of_getElem? (i := 216) rfl), rfl⟩
set_option maxRecDepth 20000 in
theorem cw_218 : (Jvm.Cond.fieldLink "TownRiverBeast$Reader" (21 : Nat) "TownRiverBeast$Reader" "behind" "I") ∈ en_gw := List.mem_filter.mpr ⟨en_tm_1 _ (List.mem_of_getElem? (i := 218) rfl), rfl⟩
set_option maxRecDepth 20000 in
theorem cw_219 : (Jvm.Cond.fieldLink "TownRiverBeast$Reader" (24 : Nat) "TownRiverBeast$Reader" "token" "I") ∈ en_gw := List.mem_filter.mpr ⟨en_tm_1 _ (List.mem_of_getElem? (i := 219) rfl), rfl⟩
set_option maxRecDepth 20000 in
theorem cw_220 : (Jvm.Cond.fieldLink "TownRiverBeast$Reader" (27 : Nat) "TownRiverBeast$Reader" "tape" "[I") ∈ en_gw := List.mem_filter.mpr ⟨en_tm_1 _ (List.mem_of_getElem? (i := 220) rfl), rfl⟩
set_option maxRecDepth 20000 in
theorem cw_221 : (Jvm.Cond.fieldLink "TownRiverBeast$Reader" (31 : Nat) "TownRiverBeast$Reader" "numbers" "[I") ∈ en_gw := List.mem_filter.mpr ⟨en_tm_1 _ (List.mem_of_getElem? (i := 221) rfl), rfl⟩
set_option maxRecDepth 20000 in
theorem cw_222 : (Jvm.Cond.fieldLink "TownRiverBeast$Reader" (34 : Nat) "TownRiverBeast$Reader" "told" "[J") ∈ en_gw := List.mem_filter.mpr ⟨en_tm_1 _ (List.mem_of_getElem? (i := 222) rfl), rfl⟩
set_option maxRecDepth 20000 in
theorem cw_223 : (Jvm.Cond.fieldLink "TownRiverBeast$Reader" (38 : Nat) "TownRiverBeast$Reader" "numberCount" "I") ∈ en_gw := List.mem_filter.mpr ⟨en_tm_1 _ (List.mem_of_getElem? (i := 223) rfl), rfl⟩
set_option maxRecDepth 20000 in
theorem cw_243 : (Jvm.Cond.arrayClass Jvm.ClassFile.FieldType.long) ∈ en_gw := List.mem_filter.mpr ⟨en_tm_2 _ (List.mem_of_getElem? (i := 3) rfl), rfl⟩
set_option maxRecDepth 20000 in
theorem cw_244 : (Jvm.Cond.classLink "TownRiverBeast" (43 : Nat) "TownRiverBeast$Shelf") ∈ en_gw := List.mem_filter.mpr ⟨en_tm_2 _ (List.mem_of_getElem? (i := 4) rfl), rfl⟩
set_option maxRecDepth 20000 in
theorem cw_246 : (Jvm.Cond.instantiable "TownRiverBeast$Shelf" (4 : Nat)) ∈ en_gw := List.mem_filter.mpr ⟨en_tm_2 _ (List.mem_of_getElem? (i := 6) rfl), rfl⟩
set_option maxRecDepth 20000 in
theorem cw_248 : (Jvm.Cond.instanceMethod ({ cls := "TownRiverBeast$Shelf", name := "<init>", desc := "()V" } : Jvm.MethodName)) ∈ en_gw := List.mem_filter.mpr ⟨en_tm_2 _ (List.mem_of_getElem? (i := 8) rfl), rfl⟩
set_option maxRecDepth 20000 in
theorem cw_249 : (Jvm.Cond.code ({ cls := "TownRiverBeast$Shelf", name := "<init>", desc := "()V" } : Jvm.MethodName) prog_6_method_1_code (1 : Nat) (Option.none : Option Jvm.ClassFile.FieldType)) ∈ en_gw := List.mem_filter.mpr ⟨en_tm_2 _ (List.mem_of_getElem? (i := 9) rfl), rfl⟩
set_option maxRecDepth 20000 in
theorem cw_250 : Cond.methodLink "TownRiverBeast$Shelf" 3 objectInit ∈ en_gw := List.mem_filter.mpr ⟨en_tm_2 _ (List.mem_of_getElem? (i := 10) rfl), rfl⟩
set_option maxRecDepth 20000 in
theorem cw_251 : (Jvm.Cond.fieldLink "TownRiverBeast$Shelf" (9 : Nat) "TownRiverBeast$Shelf" "content" "I") ∈ en_gw := List.mem_filter.mpr ⟨en_tm_2 _ (List.mem_of_getElem? (i := 11) rfl), rfl⟩
set_option maxRecDepth 20000 in
theorem cw_253 : (Jvm.Cond.fieldLink "TownRiverBeast$Shelf" (15 : Nat) "TownRiverBeast$Shelf" "size" "I") ∈ en_gw := List.mem_filter.mpr ⟨en_tm_2 _ (List.mem_of_getElem? (i := 13) rfl), rfl⟩
set_option maxRecDepth 20000 in
theorem cw_255 : (Jvm.Cond.fieldLink "TownRiverBeast$Shelf" (18 : Nat) "TownRiverBeast$Shelf" "shownWord" "I") ∈ en_gw := List.mem_filter.mpr ⟨en_tm_2 _ (List.mem_of_getElem? (i := 15) rfl), rfl⟩
set_option maxRecDepth 20000 in
theorem cw_257 : (Jvm.Cond.fieldLink "TownRiverBeast$Shelf" (21 : Nat) "TownRiverBeast$Shelf" "elements" "[J") ∈ en_gw := List.mem_filter.mpr ⟨en_tm_2 _ (List.mem_of_getElem? (i := 17) rfl), rfl⟩
set_option maxRecDepth 20000 in
theorem cw_268 : (Jvm.Cond.fieldLink "TownRiverBeast" (10 : Nat) "TownRiverBeast" "now" "LTownRiverBeast$Evening;") ∈ en_gw := List.mem_filter.mpr ⟨en_tm_2 _ (List.mem_of_getElem? (i := 28) rfl), rfl⟩
set_option maxRecDepth 20000 in
theorem cw_269 : (Jvm.Cond.fieldLink "TownRiverBeast" (16 : Nat) "TownRiverBeast" "imageOfAll" "LTownRiverBeast$Evening;") ∈ en_gw := List.mem_filter.mpr ⟨en_tm_2 _ (List.mem_of_getElem? (i := 29) rfl), rfl⟩
set_option maxRecDepth 20000 in
theorem cw_270 : (Jvm.Cond.fieldLink "TownRiverBeast" (19 : Nat) "TownRiverBeast" "thought" "LTownRiverBeast$Evening;") ∈ en_gw := List.mem_filter.mpr ⟨en_tm_2 _ (List.mem_of_getElem? (i := 30) rfl), rfl⟩
set_option maxRecDepth 20000 in
theorem cw_271 : (Jvm.Cond.fieldLink "TownRiverBeast" (25 : Nat) "TownRiverBeast" "outcome" "LTownRiverBeast$Outcome;") ∈ en_gw := List.mem_filter.mpr ⟨en_tm_2 _ (List.mem_of_getElem? (i := 31) rfl), rfl⟩
set_option maxRecDepth 20000 in
theorem cw_272 : (Jvm.Cond.fieldLink "TownRiverBeast" (32 : Nat) "TownRiverBeast" "bestSheet" "LTownRiverBeast$BestSheet;") ∈ en_gw := List.mem_filter.mpr ⟨en_tm_2 _ (List.mem_of_getElem? (i := 32) rfl), rfl⟩
set_option maxRecDepth 20000 in
theorem cw_273 : (Jvm.Cond.fieldLink "TownRiverBeast" (39 : Nat) "TownRiverBeast" "reader" "LTownRiverBeast$Reader;") ∈ en_gw := List.mem_filter.mpr ⟨en_tm_2 _ (List.mem_of_getElem? (i := 33) rfl), rfl⟩
set_option maxRecDepth 20000 in
theorem cw_274 : (Jvm.Cond.fieldLink "TownRiverBeast" (45 : Nat) "TownRiverBeast" "shelves" "[LTownRiverBeast$Shelf;") ∈ en_gw := List.mem_filter.mpr ⟨en_tm_2 _ (List.mem_of_getElem? (i := 34) rfl), rfl⟩
set_option maxRecDepth 20000 in
theorem cw_275 : (Jvm.Cond.fieldLink "TownRiverBeast" (49 : Nat) "TownRiverBeast" "refused" "[I") ∈ en_gw := List.mem_filter.mpr ⟨en_tm_2 _ (List.mem_of_getElem? (i := 35) rfl), rfl⟩
set_option maxRecDepth 20000 in
theorem cw_276 : (Jvm.Cond.fieldLink "TownRiverBeast" (53 : Nat) "TownRiverBeast" "orderFound" "[I") ∈ en_gw := List.mem_filter.mpr ⟨en_tm_2 _ (List.mem_of_getElem? (i := 36) rfl), rfl⟩
set_option maxRecDepth 20000 in
theorem cw_277 : (Jvm.Cond.fieldLink "TownRiverBeast" (56 : Nat) "TownRiverBeast" "hasImage" "Z") ∈ en_gw := List.mem_filter.mpr ⟨en_tm_2 _ (List.mem_of_getElem? (i := 37) rfl), rfl⟩
set_option maxRecDepth 20000 in
theorem cw_930 : (Jvm.Cond.classLink "TownRiverBeastLaw" (10 : Nat) "TownRiverBeastModel") ∈ en_gw := List.mem_filter.mpr ⟨en_tm_4 _ (List.mem_of_getElem? (i := 210) rfl), rfl⟩
set_option maxRecDepth 20000 in
theorem cw_931 : (Jvm.Cond.instantiable "TownRiverBeastModel" (41 : Nat)) ∈ en_gw := List.mem_filter.mpr ⟨en_tm_4 _ (List.mem_of_getElem? (i := 211) rfl), rfl⟩
set_option maxRecDepth 20000 in
theorem cw_932 : (Jvm.Cond.methodLink "TownRiverBeastLaw" (12 : Nat) ({ cls := "TownRiverBeastModel", name := "<init>", desc := "()V" } : Jvm.MethodName)) ∈ en_gw := List.mem_filter.mpr ⟨en_tm_4 _ (List.mem_of_getElem? (i := 212) rfl), rfl⟩
set_option maxRecDepth 20000 in
theorem cw_933 : (Jvm.Cond.instanceMethod ({ cls := "TownRiverBeastModel", name := "<init>", desc := "()V" } : Jvm.MethodName)) ∈ en_gw := List.mem_filter.mpr ⟨en_tm_4 _ (List.mem_of_getElem? (i := 213) rfl), rfl⟩
set_option maxRecDepth 20000 in
theorem cw_934 : (Jvm.Cond.code ({ cls := "TownRiverBeastModel", name := "<init>", desc := "()V" } : Jvm.MethodName) prog_8_method_1_code (1 : Nat) (Option.none : Option Jvm.ClassFile.FieldType)) ∈ en_gw := List.mem_filter.mpr ⟨en_tm_4 _ (List.mem_of_getElem? (i := 214) rfl), rfl⟩
set_option maxRecDepth 20000 in
theorem cw_935 : Cond.methodLink "TownRiverBeastModel" 1 objectInit ∈ en_gw := List.mem_filter.mpr ⟨en_tm_4 _ (List.mem_of_getElem? (i := 215) rfl), rfl⟩
set_option maxRecDepth 20000 in
theorem cw_936 : (Jvm.Cond.classLink "TownRiverBeastModel" (19 : Nat) "[[J") ∈ en_gw := List.mem_filter.mpr ⟨en_tm_4 _ (List.mem_of_getElem? (i := 216) rfl), rfl⟩
set_option maxRecDepth 20000 in
theorem cw_938 : (Jvm.Cond.classLink "TownRiverBeastModel" (62 : Nat) "[[I") ∈ en_gw := List.mem_filter.mpr ⟨en_tm_4 _ (List.mem_of_getElem? (i := 218) rfl), rfl⟩
set_option maxRecDepth 20000 in
theorem cw_939 : (Jvm.Cond.fieldLink "TownRiverBeastModel" (7 : Nat) "TownRiverBeastModel" "shelf" "[I") ∈ en_gw := List.mem_filter.mpr ⟨en_tm_4 _ (List.mem_of_getElem? (i := 219) rfl), rfl⟩
set_option maxRecDepth 20000 in
theorem cw_940 : (Jvm.Cond.fieldLink "TownRiverBeastModel" (13 : Nat) "TownRiverBeastModel" "rowSort" "[I") ∈ en_gw := List.mem_filter.mpr ⟨en_tm_4 _ (List.mem_of_getElem? (i := 220) rfl), rfl⟩
set_option maxRecDepth 20000 in
theorem cw_941 : (Jvm.Cond.fieldLink "TownRiverBeastModel" (16 : Nat) "TownRiverBeastModel" "rowSize" "[I") ∈ en_gw := List.mem_filter.mpr ⟨en_tm_4 _ (List.mem_of_getElem? (i := 221) rfl), rfl⟩
set_option maxRecDepth 20000 in
theorem cw_942 : (Jvm.Cond.fieldLink "TownRiverBeastModel" (21 : Nat) "TownRiverBeastModel" "rows" "[[J") ∈ en_gw := List.mem_filter.mpr ⟨en_tm_4 _ (List.mem_of_getElem? (i := 222) rfl), rfl⟩
set_option maxRecDepth 20000 in
theorem cw_943 : (Jvm.Cond.fieldLink "TownRiverBeastModel" (24 : Nat) "TownRiverBeastModel" "moved" "[J") ∈ en_gw := List.mem_filter.mpr ⟨en_tm_4 _ (List.mem_of_getElem? (i := 223) rfl), rfl⟩
set_option maxRecDepth 20000 in
theorem cw_944 : (Jvm.Cond.fieldLink "TownRiverBeastModel" (28 : Nat) "TownRiverBeastModel" "shown" "[I") ∈ en_gw := List.mem_filter.mpr ⟨en_tm_4 _ (List.mem_of_getElem? (i := 224) rfl), rfl⟩
set_option maxRecDepth 20000 in
theorem cw_945 : (Jvm.Cond.fieldLink "TownRiverBeastModel" (31 : Nat) "TownRiverBeastModel" "tape" "[I") ∈ en_gw := List.mem_filter.mpr ⟨en_tm_4 _ (List.mem_of_getElem? (i := 225) rfl), rfl⟩
set_option maxRecDepth 20000 in
theorem cw_947 : (Jvm.Cond.fieldLink "TownRiverBeastModel" (34 : Nat) "TownRiverBeastModel" "refused" "[I") ∈ en_gw := List.mem_filter.mpr ⟨en_tm_4 _ (List.mem_of_getElem? (i := 227) rfl), rfl⟩
set_option maxRecDepth 20000 in
theorem cw_948 : (Jvm.Cond.fieldLink "TownRiverBeastModel" (37 : Nat) "TownRiverBeastModel" "columns" "I") ∈ en_gw := List.mem_filter.mpr ⟨en_tm_4 _ (List.mem_of_getElem? (i := 228) rfl), rfl⟩
set_option maxRecDepth 20000 in
theorem cw_950 : (Jvm.Cond.fieldLink "TownRiverBeastModel" (41 : Nat) "TownRiverBeastModel" "kind" "[I") ∈ en_gw := List.mem_filter.mpr ⟨en_tm_4 _ (List.mem_of_getElem? (i := 230) rfl), rfl⟩
set_option maxRecDepth 20000 in
theorem cw_951 : (Jvm.Cond.fieldLink "TownRiverBeastModel" (44 : Nat) "TownRiverBeastModel" "letter" "[I") ∈ en_gw := List.mem_filter.mpr ⟨en_tm_4 _ (List.mem_of_getElem? (i := 231) rfl), rfl⟩
set_option maxRecDepth 20000 in
theorem cw_952 : (Jvm.Cond.fieldLink "TownRiverBeastModel" (47 : Nat) "TownRiverBeastModel" "column" "[I") ∈ en_gw := List.mem_filter.mpr ⟨en_tm_4 _ (List.mem_of_getElem? (i := 232) rfl), rfl⟩
set_option maxRecDepth 20000 in
theorem cw_953 : (Jvm.Cond.fieldLink "TownRiverBeastModel" (50 : Nat) "TownRiverBeastModel" "seconds" "[I") ∈ en_gw := List.mem_filter.mpr ⟨en_tm_4 _ (List.mem_of_getElem? (i := 233) rfl), rfl⟩
set_option maxRecDepth 20000 in
theorem cw_954 : (Jvm.Cond.fieldLink "TownRiverBeastModel" (53 : Nat) "TownRiverBeastModel" "by" "[I") ∈ en_gw := List.mem_filter.mpr ⟨en_tm_4 _ (List.mem_of_getElem? (i := 234) rfl), rfl⟩
set_option maxRecDepth 20000 in
theorem cw_955 : (Jvm.Cond.fieldLink "TownRiverBeastModel" (56 : Nat) "TownRiverBeastModel" "known" "[I") ∈ en_gw := List.mem_filter.mpr ⟨en_tm_4 _ (List.mem_of_getElem? (i := 235) rfl), rfl⟩
set_option maxRecDepth 20000 in
theorem cw_956 : (Jvm.Cond.fieldLink "TownRiverBeastModel" (59 : Nat) "TownRiverBeastModel" "used" "[I") ∈ en_gw := List.mem_filter.mpr ⟨en_tm_4 _ (List.mem_of_getElem? (i := 236) rfl), rfl⟩
set_option maxRecDepth 20000 in
theorem cw_958 : (Jvm.Cond.fieldLink "TownRiverBeastModel" (64 : Nat) "TownRiverBeastModel" "sheet" "[[I") ∈ en_gw := List.mem_filter.mpr ⟨en_tm_4 _ (List.mem_of_getElem? (i := 238) rfl), rfl⟩
set_option maxRecDepth 20000 in
theorem cw_959 : (Jvm.Cond.fieldLink "TownRiverBeastModel" (67 : Nat) "TownRiverBeastModel" "size" "[I") ∈ en_gw := List.mem_filter.mpr ⟨en_tm_4 _ (List.mem_of_getElem? (i := 239) rfl), rfl⟩
set_option maxRecDepth 20000 in
theorem cw_960 : (Jvm.Cond.fieldLink "TownRiverBeastModel" (70 : Nat) "TownRiverBeastModel" "score" "[I") ∈ en_gw := List.mem_filter.mpr ⟨en_tm_5 _ (List.mem_of_getElem? (i := 0) rfl), rfl⟩
set_option maxRecDepth 20000 in
theorem cw_961 : (Jvm.Cond.fieldLink "TownRiverBeastModel" (73 : Nat) "TownRiverBeastModel" "asked" "[I") ∈ en_gw := List.mem_filter.mpr ⟨en_tm_5 _ (List.mem_of_getElem? (i := 1) rfl), rfl⟩
set_option maxRecDepth 20000 in
theorem cw_962 : (Jvm.Cond.fieldLink "TownRiverBeastModel" (76 : Nat) "TownRiverBeastModel" "seed" "I") ∈ en_gw := List.mem_filter.mpr ⟨en_tm_5 _ (List.mem_of_getElem? (i := 2) rfl), rfl⟩
set_option maxRecDepth 20000 in
theorem cw_963 : (Jvm.Cond.fieldLink "TownRiverBeastModel" (370 : Nat) "TownRiverBeastModel" "kept" "LTownRiverBeastModel;") ∈ en_gw := List.mem_filter.mpr ⟨en_tm_5 _ (List.mem_of_getElem? (i := 3) rfl), rfl⟩
set_option maxRecDepth 20000 in
theorem cw_964 : (Jvm.Cond.fieldLink "TownRiverBeastModel" (361 : Nat) "TownRiverBeastModel" "tried" "LTownRiverBeastModel;") ∈ en_gw := List.mem_filter.mpr ⟨en_tm_5 _ (List.mem_of_getElem? (i := 4) rfl), rfl⟩
set_option maxRecDepth 20000 in
theorem cw_970 : (Jvm.Cond.fieldLink "TownRiverBeastModel" (79 : Nat) "TownRiverBeastModel" "told" "[I") ∈ en_gw := List.mem_filter.mpr ⟨en_tm_5 _ (List.mem_of_getElem? (i := 10) rfl), rfl⟩
set_option maxRecDepth 20000 in
theorem cw_971 : (Jvm.Cond.fieldLink "TownRiverBeastModel" (82 : Nat) "TownRiverBeastModel" "toldSheet" "[J") ∈ en_gw := List.mem_filter.mpr ⟨en_tm_5 _ (List.mem_of_getElem? (i := 11) rfl), rfl⟩
set_option maxRecDepth 20000 in
theorem cw_973 : (Jvm.Cond.fieldLink "TownRiverBeastModel" (85 : Nat) "TownRiverBeastModel" "keptAll" "[I") ∈ en_gw := List.mem_filter.mpr ⟨en_tm_5 _ (List.mem_of_getElem? (i := 13) rfl), rfl⟩
set_option maxRecDepth 20000 in
theorem cw_977 : (Jvm.Cond.fieldLink "TownRiverBeastModel" (88 : Nat) "TownRiverBeastModel" "orderNow" "[I") ∈ en_gw := List.mem_filter.mpr ⟨en_tm_5 _ (List.mem_of_getElem? (i := 17) rfl), rfl⟩
set_option maxRecDepth 20000 in
theorem cw_978 : (Jvm.Cond.fieldLink "TownRiverBeastModel" (91 : Nat) "TownRiverBeastModel" "orderBest" "[I") ∈ en_gw := List.mem_filter.mpr ⟨en_tm_5 _ (List.mem_of_getElem? (i := 18) rfl), rfl⟩
set_option maxRecDepth 20000 in
theorem cw_1213 : (Jvm.Cond.classLink "TownRiverBeastModel" (8 : Nat) "TownRiverBeastModel") ∈ en_gw := List.mem_filter.mpr ⟨en_tm_6 _ (List.mem_of_getElem? (i := 13) rfl), rfl⟩
set_option maxRecDepth 20000 in
theorem cw_1214 : (Jvm.Cond.methodLink "TownRiverBeastModel" (365 : Nat) ({ cls := "TownRiverBeastModel", name := "<init>", desc := "()V" } : Jvm.MethodName)) ∈ en_gw := List.mem_filter.mpr ⟨en_tm_6 _ (List.mem_of_getElem? (i := 14) rfl), rfl⟩
