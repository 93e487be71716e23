set_option maxRecDepth 100000 in
theorem kw0 : Jvm.Cond.initialized "AccessGateLaw" ∈ lw_tbl := List.mem_of_getElem? (i := 45) rfl
set_option maxRecDepth 100000 in
theorem kw1 : Jvm.Cond.initialized "AccessGate" ∈ lw_tbl := List.mem_of_getElem? (i := 46) rfl
set_option maxRecDepth 100000 in
theorem kw2 : Jvm.Cond.initialized "java/util/AbstractCollection" ∈ lw_tbl := List.mem_of_getElem? (i := 47) rfl
set_option maxRecDepth 100000 in
theorem kw3 : Jvm.Cond.initialized "java/util/AbstractList" ∈ lw_tbl := List.mem_of_getElem? (i := 48) rfl
set_option maxRecDepth 100000 in
theorem kw4 : Jvm.Cond.initialized "java/util/ArrayList" ∈ lw_tbl := List.mem_of_getElem? (i := 49) rfl
set_option maxRecDepth 100000 in
theorem kw5 : Jvm.Cond.initialized "AccessGate$StepRecord" ∈ lw_tbl := List.mem_of_getElem? (i := 50) rfl
set_option maxRecDepth 100000 in
theorem kw6 : Jvm.Cond.initialized "AccessGateModel" ∈ lw_tbl := List.mem_of_getElem? (i := 51) rfl
set_option maxRecDepth 100000 in
theorem kw7 : Jvm.Cond.initialized "java/lang/Throwable" ∈ lw_tbl := List.mem_of_getElem? (i := 52) rfl
set_option maxRecDepth 100000 in
theorem kw8 : Jvm.Cond.initialized "java/lang/Exception" ∈ lw_tbl := List.mem_of_getElem? (i := 53) rfl
set_option maxRecDepth 100000 in
theorem kw9 : Jvm.Cond.initialized "java/lang/RuntimeException" ∈ lw_tbl := List.mem_of_getElem? (i := 54) rfl
set_option maxRecDepth 100000 in
theorem kw10 : Jvm.Cond.initialized "java/lang/IllegalArgumentException" ∈ lw_tbl := List.mem_of_getElem? (i := 55) rfl
set_option maxRecDepth 100000 in
theorem kw11 : Jvm.Cond.initialized "java/lang/IllegalStateException" ∈ lw_tbl := List.mem_of_getElem? (i := 56) rfl
set_option maxRecDepth 100000 in
theorem kw12 : Jvm.Cond.initialized "AccessGate$Person" ∈ lw_tbl := List.mem_of_getElem? (i := 57) rfl
set_option maxRecDepth 100000 in
theorem kw13 : Jvm.Cond.initialized "jdk/internal/util/ArraysSupport" ∈ lw_tbl := List.mem_of_getElem? (i := 58) rfl
set_option maxRecDepth 100000 in
theorem kw14 : Jvm.Cond.initialized "java/lang/Math" ∈ lw_tbl := List.mem_of_getElem? (i := 59) rfl
set_option maxRecDepth 100000 in
theorem kw15 : Jvm.Cond.initialized "java/util/Arrays" ∈ lw_tbl := List.mem_of_getElem? (i := 60) rfl
set_option maxRecDepth 100000 in
theorem kw16 : Jvm.Cond.initialized "java/lang/System" ∈ lw_tbl := List.mem_of_getElem? (i := 61) rfl
set_option maxRecDepth 100000 in
theorem kw17 : Jvm.Cond.initialized "AccessGate$Machine" ∈ lw_tbl := List.mem_of_getElem? (i := 62) rfl
set_option maxRecDepth 100000 in
theorem kw18 : Jvm.Cond.initialized "java/lang/IndexOutOfBoundsException" ∈ lw_tbl := List.mem_of_getElem? (i := 63) rfl
set_option maxRecDepth 100000 in
theorem kw19 : Jvm.Cond.initialized "java/util/Objects" ∈ lw_tbl := List.mem_of_getElem? (i := 64) rfl
set_option maxRecDepth 100000 in
theorem kw20 : Jvm.Cond.initialized "jdk/internal/util/Preconditions" ∈ lw_tbl := List.mem_of_getElem? (i := 65) rfl
set_option maxRecDepth 100000 in
theorem kw21 : Jvm.Cond.initialized "AccessGate$Ask" ∈ lw_tbl := List.mem_of_getElem? (i := 66) rfl
set_option maxRecDepth 100000 in
theorem kw22 : Jvm.Cond.initialized "AccessGate$Right" ∈ lw_tbl := List.mem_of_getElem? (i := 67) rfl
set_option maxRecDepth 100000 in
theorem kw23 : Jvm.Cond.initialized "AccessGate$Entry" ∈ lw_tbl := List.mem_of_getElem? (i := 68) rfl
set_option maxRecDepth 100000 in
theorem kw24 : Jvm.Cond.initialized "AccessGate$Session" ∈ lw_tbl := List.mem_of_getElem? (i := 69) rfl
set_option maxRecDepth 100000 in
theorem kw25 : Jvm.Cond.classLink "AccessGateLaw" (8 : Nat) "AccessGate" ∈ lw_tbl := List.mem_of_getElem? (i := 70) rfl
set_option maxRecDepth 100000 in
theorem kw26 : Jvm.Cond.instantiable "AccessGate" (9 : Nat) ∈ lw_tbl := List.mem_of_getElem? (i := 71) rfl
set_option maxRecDepth 100000 in
theorem kw27 : Jvm.Cond.methodLink "AccessGateLaw" (83 : Nat) ({ cls := "AccessGate", name := "<init>", desc := "()V" } : Jvm.MethodName) ∈ lw_tbl := List.mem_of_getElem? (i := 72) rfl
set_option maxRecDepth 100000 in
theorem kw28 : Jvm.Cond.instanceMethod ({ cls := "AccessGate", name := "<init>", desc := "()V" } : Jvm.MethodName) ∈ lw_tbl := List.mem_of_getElem? (i := 73) rfl
set_option maxRecDepth 100000 in
theorem kw29 : Jvm.Cond.code ({ cls := "AccessGate", name := "<init>", desc := "()V" } : Jvm.MethodName) prog_1_method_1_code (1 : Nat) (Option.none : Option Jvm.ClassFile.FieldType) ∈ lw_tbl := List.mem_of_getElem? (i := 74) rfl
set_option maxRecDepth 100000 in
theorem kw30 : Jvm.Cond.methodLink "AccessGate" (3 : Nat) ({ cls := "java/lang/Object", name := "<init>", desc := "()V" } : Jvm.MethodName) ∈ lw_tbl := List.mem_of_getElem? (i := 75) rfl
set_option maxRecDepth 100000 in
theorem kw31 : Jvm.Cond.instanceMethod ({ cls := "java/lang/Object", name := "<init>", desc := "()V" } : Jvm.MethodName) ∈ lw_tbl := List.mem_of_getElem? (i := 76) rfl
set_option maxRecDepth 100000 in
theorem kw32 : Jvm.Cond.code ({ cls := "java/lang/Object", name := "<init>", desc := "()V" } : Jvm.MethodName) object_method_1_code (1 : Nat) (Option.none : Option Jvm.ClassFile.FieldType) ∈ lw_tbl := List.mem_of_getElem? (i := 77) rfl
set_option maxRecDepth 100000 in
theorem kw33 : Jvm.Cond.classLink "AccessGate" (9 : Nat) "java/util/ArrayList" ∈ lw_tbl := List.mem_of_getElem? (i := 78) rfl
set_option maxRecDepth 100000 in
theorem kw34 : Jvm.Cond.instantiable "java/util/ArrayList" (3 : Nat) ∈ lw_tbl := List.mem_of_getElem? (i := 79) rfl
set_option maxRecDepth 100000 in
theorem kw35 : Jvm.Cond.methodLink "AccessGate" (11 : Nat) ({ cls := "java/util/ArrayList", name := "<init>", desc := "()V" } : Jvm.MethodName) ∈ lw_tbl := List.mem_of_getElem? (i := 80) rfl
set_option maxRecDepth 100000 in
theorem kw36 : Jvm.Cond.instanceMethod ({ cls := "java/util/ArrayList", name := "<init>", desc := "()V" } : Jvm.MethodName) ∈ lw_tbl := List.mem_of_getElem? (i := 81) rfl
set_option maxRecDepth 100000 in
theorem kw37 : Jvm.Cond.code ({ cls := "java/util/ArrayList", name := "<init>", desc := "()V" } : Jvm.MethodName) prog_25_method_2_code (1 : Nat) (Option.none : Option Jvm.ClassFile.FieldType) ∈ lw_tbl := List.mem_of_getElem? (i := 82) rfl
set_option maxRecDepth 100000 in
theorem kw38 : Jvm.Cond.methodLink "java/util/ArrayList" (1 : Nat) ({ cls := "java/util/AbstractList", name := "<init>", desc := "()V" } : Jvm.MethodName) ∈ lw_tbl := List.mem_of_getElem? (i := 83) rfl
set_option maxRecDepth 100000 in
theorem kw39 : Jvm.Cond.instanceMethod ({ cls := "java/util/AbstractList", name := "<init>", desc := "()V" } : Jvm.MethodName) ∈ lw_tbl := List.mem_of_getElem? (i := 84) rfl
set_option maxRecDepth 100000 in
theorem kw40 : Jvm.Cond.code ({ cls := "java/util/AbstractList", name := "<init>", desc := "()V" } : Jvm.MethodName) prog_24_method_1_code (1 : Nat) (Option.none : Option Jvm.ClassFile.FieldType) ∈ lw_tbl := List.mem_of_getElem? (i := 85) rfl
set_option maxRecDepth 100000 in
theorem kw41 : Jvm.Cond.methodLink "java/util/AbstractList" (1 : Nat) ({ cls := "java/util/AbstractCollection", name := "<init>", desc := "()V" } : Jvm.MethodName) ∈ lw_tbl := List.mem_of_getElem? (i := 86) rfl
set_option maxRecDepth 100000 in
theorem kw42 : Jvm.Cond.instanceMethod ({ cls := "java/util/AbstractCollection", name := "<init>", desc := "()V" } : Jvm.MethodName) ∈ lw_tbl := List.mem_of_getElem? (i := 87) rfl
set_option maxRecDepth 100000 in
theorem kw43 : Jvm.Cond.code ({ cls := "java/util/AbstractCollection", name := "<init>", desc := "()V" } : Jvm.MethodName) prog_23_method_1_code (1 : Nat) (Option.none : Option Jvm.ClassFile.FieldType) ∈ lw_tbl := List.mem_of_getElem? (i := 88) rfl
set_option maxRecDepth 100000 in
theorem kw44 : Jvm.Cond.methodLink "java/util/AbstractCollection" (1 : Nat) ({ cls := "java/lang/Object", name := "<init>", desc := "()V" } : Jvm.MethodName) ∈ lw_tbl := List.mem_of_getElem? (i := 89) rfl
set_option maxRecDepth 100000 in
theorem kw45 : Jvm.Cond.fieldLink "java/util/ArrayList" (39 : Nat) "java/util/ArrayList" "DEFAULTCAPACITY_EMPTY_ELEMENTDATA" "[Ljava/lang/Object;" ∈ lw_tbl := List.mem_of_getElem? (i := 90) rfl
set_option maxRecDepth 100000 in
theorem kw47 : Jvm.Cond.fieldLink "java/util/ArrayList" (9 : Nat) "java/util/ArrayList" "elementData" "[Ljava/lang/Object;" ∈ lw_tbl := List.mem_of_getElem? (i := 92) rfl
set_option maxRecDepth 100000 in
theorem kw48 : Jvm.Cond.fieldLink "java/util/ArrayList" (48 : Nat) "java/util/ArrayList" "size" "I" ∈ lw_tbl := List.mem_of_getElem? (i := 93) rfl
set_option maxRecDepth 100000 in
theorem kw49 : Jvm.Cond.fieldLink "java/util/AbstractList" (7 : Nat) "java/util/AbstractList" "modCount" "I" ∈ lw_tbl := List.mem_of_getElem? (i := 94) rfl
set_option maxRecDepth 100000 in
theorem kw50 : Jvm.Cond.fieldLink "java/util/ArrayList" (63 : Nat) "java/util/ArrayList" "modCount" "I" ∈ lw_tbl := List.mem_of_getElem? (i := 95) rfl
set_option maxRecDepth 100000 in
theorem kw51 : Jvm.Cond.sameField "java/util/ArrayList" "java/util/AbstractList" "modCount" "I" ∈ lw_tbl := List.mem_of_getElem? (i := 96) rfl
set_option maxRecDepth 100000 in
theorem kw59 : Jvm.Cond.classLink "AccessGate" (31 : Nat) "AccessGate$StepRecord" ∈ lw_tbl := List.mem_of_getElem? (i := 104) rfl
set_option maxRecDepth 100000 in
theorem kw60 : Jvm.Cond.instantiable "AccessGate$StepRecord" (4 : Nat) ∈ lw_tbl := List.mem_of_getElem? (i := 105) rfl
set_option maxRecDepth 100000 in
theorem kw61 : Jvm.Cond.methodLinkNest "AccessGate" (33 : Nat) ({ cls := "AccessGate$StepRecord", name := "<init>", desc := "()V" } : Jvm.MethodName) "AccessGate" ∈ lw_tbl := List.mem_of_getElem? (i := 106) rfl
set_option maxRecDepth 100000 in
theorem kw62 : Jvm.Cond.instanceMethod ({ cls := "AccessGate$StepRecord", name := "<init>", desc := "()V" } : Jvm.MethodName) ∈ lw_tbl := List.mem_of_getElem? (i := 107) rfl
set_option maxRecDepth 100000 in
theorem kw63 : Jvm.Cond.code ({ cls := "AccessGate$StepRecord", name := "<init>", desc := "()V" } : Jvm.MethodName) prog_8_method_1_code (1 : Nat) (Option.none : Option Jvm.ClassFile.FieldType) ∈ lw_tbl := List.mem_of_getElem? (i := 108) rfl
set_option maxRecDepth 100000 in
theorem kw64 : Jvm.Cond.methodLink "AccessGate$StepRecord" (3 : Nat) ({ cls := "java/lang/Object", name := "<init>", desc := "()V" } : Jvm.MethodName) ∈ lw_tbl := List.mem_of_getElem? (i := 109) rfl
set_option maxRecDepth 100000 in
theorem kw65 : Jvm.Cond.fieldLink "AccessGate$StepRecord" (9 : Nat) "AccessGate$StepRecord" "kinds" "[I" ∈ lw_tbl := List.mem_of_getElem? (i := 110) rfl
set_option maxRecDepth 100000 in
theorem kw66 : Jvm.Cond.fieldLinkNest "AccessGate" (248 : Nat) "AccessGate$StepRecord" "kinds" "[I" "AccessGate" ∈ lw_tbl := List.mem_of_getElem? (i := 111) rfl
set_option maxRecDepth 100000 in
theorem kw67 : Jvm.Cond.fieldLink "AccessGate$StepRecord" (15 : Nat) "AccessGate$StepRecord" "seals" "[I" ∈ lw_tbl := List.mem_of_getElem? (i := 112) rfl
set_option maxRecDepth 100000 in
theorem kw68 : Jvm.Cond.fieldLinkNest "AccessGate" (252 : Nat) "AccessGate$StepRecord" "seals" "[I" "AccessGate" ∈ lw_tbl := List.mem_of_getElem? (i := 113) rfl
set_option maxRecDepth 100000 in
theorem kw69 : Jvm.Cond.fieldLink "AccessGate$StepRecord" (18 : Nat) "AccessGate$StepRecord" "count" "I" ∈ lw_tbl := List.mem_of_getElem? (i := 114) rfl
set_option maxRecDepth 100000 in
theorem kw70 : Jvm.Cond.fieldLinkNest "AccessGate" (242 : Nat) "AccessGate$StepRecord" "count" "I" "AccessGate" ∈ lw_tbl := List.mem_of_getElem? (i := 115) rfl
set_option maxRecDepth 100000 in
theorem kw71 : Jvm.Cond.fieldLink "AccessGate$StepRecord" (22 : Nat) "AccessGate$StepRecord" "lastSeal" "I" ∈ lw_tbl := List.mem_of_getElem? (i := 116) rfl
set_option maxRecDepth 100000 in
theorem kw81 : Jvm.Cond.arrayClass Jvm.ClassFile.FieldType.int ∈ lw_tbl := List.mem_of_getElem? (i := 126) rfl
set_option maxRecDepth 100000 in
theorem kw82 : Jvm.Cond.fieldLink "AccessGate" (12 : Nat) "AccessGate" "people" "Ljava/util/ArrayList;" ∈ lw_tbl := List.mem_of_getElem? (i := 127) rfl
set_option maxRecDepth 100000 in
theorem kw83 : Jvm.Cond.fieldLink "AccessGate" (16 : Nat) "AccessGate" "machines" "Ljava/util/ArrayList;" ∈ lw_tbl := List.mem_of_getElem? (i := 128) rfl
set_option maxRecDepth 100000 in
theorem kw84 : Jvm.Cond.fieldLink "AccessGate" (19 : Nat) "AccessGate" "asks" "Ljava/util/ArrayList;" ∈ lw_tbl := List.mem_of_getElem? (i := 129) rfl
set_option maxRecDepth 100000 in
theorem kw85 : Jvm.Cond.fieldLink "AccessGate" (22 : Nat) "AccessGate" "entries" "Ljava/util/ArrayList;" ∈ lw_tbl := List.mem_of_getElem? (i := 130) rfl
set_option maxRecDepth 100000 in
theorem kw86 : Jvm.Cond.fieldLink "AccessGate" (25 : Nat) "AccessGate" "rights" "Ljava/util/ArrayList;" ∈ lw_tbl := List.mem_of_getElem? (i := 131) rfl
set_option maxRecDepth 100000 in
theorem kw87 : Jvm.Cond.fieldLink "AccessGate" (28 : Nat) "AccessGate" "sessions" "Ljava/util/ArrayList;" ∈ lw_tbl := List.mem_of_getElem? (i := 132) rfl
set_option maxRecDepth 100000 in
theorem kw88 : Jvm.Cond.fieldLink "AccessGate" (34 : Nat) "AccessGate" "record" "LAccessGate$StepRecord;" ∈ lw_tbl := List.mem_of_getElem? (i := 133) rfl
set_option maxRecDepth 100000 in
theorem kw89 : Jvm.Cond.fieldLink "AccessGate" (38 : Nat) "AccessGate" "openCount" "I" ∈ lw_tbl := List.mem_of_getElem? (i := 134) rfl
set_option maxRecDepth 100000 in
theorem kw90 : Jvm.Cond.fieldLink "AccessGate" (42 : Nat) "AccessGate" "now" "I" ∈ lw_tbl := List.mem_of_getElem? (i := 135) rfl
set_option maxRecDepth 100000 in
theorem kw110 : Jvm.Cond.methodLink "AccessGateLaw" (149 : Nat) ({ cls := "AccessGate", name := "openSessions", desc := "()I" } : Jvm.MethodName) ∈ lw_tbl := List.mem_of_getElem? (i := 155) rfl
set_option maxRecDepth 100000 in
theorem kw111 : Jvm.Cond.instanceMethod ({ cls := "AccessGate", name := "openSessions", desc := "()I" } : Jvm.MethodName) ∈ lw_tbl := List.mem_of_getElem? (i := 156) rfl
set_option maxRecDepth 100000 in
theorem kw112 : Jvm.Cond.selects "AccessGate" ({ cls := "AccessGate", name := "openSessions", desc := "()I" } : Jvm.MethodName) ({ cls := "AccessGate", name := "openSessions", desc := "()I" } : Jvm.MethodName) ∈ lw_tbl := List.mem_of_getElem? (i := 157) rfl
set_option maxRecDepth 100000 in
theorem kw113 : Jvm.Cond.code ({ cls := "AccessGate", name := "openSessions", desc := "()I" } : Jvm.MethodName) prog_1_method_19_code (1 : Nat) (Option.some Jvm.ClassFile.FieldType.int) ∈ lw_tbl := List.mem_of_getElem? (i := 158) rfl
set_option maxRecDepth 100000 in
theorem kw114 : Jvm.Cond.methodLink "AccessGateLaw" (156 : Nat) ({ cls := "AccessGate", name := "clock", desc := "()I" } : Jvm.MethodName) ∈ lw_tbl := List.mem_of_getElem? (i := 159) rfl
set_option maxRecDepth 100000 in
theorem kw115 : Jvm.Cond.instanceMethod ({ cls := "AccessGate", name := "clock", desc := "()I" } : Jvm.MethodName) ∈ lw_tbl := List.mem_of_getElem? (i := 160) rfl
set_option maxRecDepth 100000 in
theorem kw116 : Jvm.Cond.selects "AccessGate" ({ cls := "AccessGate", name := "clock", desc := "()I" } : Jvm.MethodName) ({ cls := "AccessGate", name := "clock", desc := "()I" } : Jvm.MethodName) ∈ lw_tbl := List.mem_of_getElem? (i := 161) rfl
set_option maxRecDepth 100000 in
theorem kw117 : Jvm.Cond.code ({ cls := "AccessGate", name := "clock", desc := "()I" } : Jvm.MethodName) prog_1_method_21_code (1 : Nat) (Option.some Jvm.ClassFile.FieldType.int) ∈ lw_tbl := List.mem_of_getElem? (i := 162) rfl
set_option maxRecDepth 100000 in
theorem kw118 : Jvm.Cond.methodLink "AccessGateLaw" (160 : Nat) ({ cls := "AccessGate", name := "steps", desc := "()I" } : Jvm.MethodName) ∈ lw_tbl := List.mem_of_getElem? (i := 163) rfl
set_option maxRecDepth 100000 in
theorem kw119 : Jvm.Cond.instanceMethod ({ cls := "AccessGate", name := "steps", desc := "()I" } : Jvm.MethodName) ∈ lw_tbl := List.mem_of_getElem? (i := 164) rfl
set_option maxRecDepth 100000 in
theorem kw120 : Jvm.Cond.selects "AccessGate" ({ cls := "AccessGate", name := "steps", desc := "()I" } : Jvm.MethodName) ({ cls := "AccessGate", name := "steps", desc := "()I" } : Jvm.MethodName) ∈ lw_tbl := List.mem_of_getElem? (i := 165) rfl
set_option maxRecDepth 100000 in
theorem kw121 : Jvm.Cond.code ({ cls := "AccessGate", name := "steps", desc := "()I" } : Jvm.MethodName) prog_1_method_22_code (1 : Nat) (Option.some Jvm.ClassFile.FieldType.int) ∈ lw_tbl := List.mem_of_getElem? (i := 166) rfl
set_option maxRecDepth 100000 in
theorem kw122 : Jvm.Cond.methodLink "AccessGateLaw" (87 : Nat) ({ cls := "AccessGateLaw", name := "addPerson", desc := "(LAccessGate;I[J)I" } : Jvm.MethodName) ∈ lw_tbl := List.mem_of_getElem? (i := 167) rfl
set_option maxRecDepth 100000 in
theorem kw123 : Jvm.Cond.static ({ cls := "AccessGateLaw", name := "addPerson", desc := "(LAccessGate;I[J)I" } : Jvm.MethodName) ∈ lw_tbl := List.mem_of_getElem? (i := 168) rfl
set_option maxRecDepth 100000 in
theorem kw124 : Jvm.Cond.codeWith ({ cls := "AccessGateLaw", name := "addPerson", desc := "(LAccessGate;I[J)I" } : Jvm.MethodName) method_3_code (4 : Nat) (Option.some Jvm.ClassFile.FieldType.int) [((0 : Nat), (9 : Nat), (12 : Nat), (13 : Nat)), ((0 : Nat), (9 : Nat), (15 : Nat), (15 : Nat))] ∈ lw_tbl := List.mem_of_getElem? (i := 169) rfl
set_option maxRecDepth 100000 in
theorem kw125 : Jvm.Cond.classLink "AccessGateLaw" (13 : Nat) "java/lang/IllegalArgumentException" ∈ lw_tbl := List.mem_of_getElem? (i := 170) rfl
set_option maxRecDepth 100000 in
theorem kw126 : Jvm.Cond.classLink "AccessGateLaw" (15 : Nat) "java/lang/IllegalStateException" ∈ lw_tbl := List.mem_of_getElem? (i := 171) rfl
set_option maxRecDepth 100000 in
theorem kw127 : Jvm.Cond.methodLink "AccessGateLaw" (7 : Nat) ({ cls := "AccessGate", name := "addPerson", desc := "(I)I" } : Jvm.MethodName) ∈ lw_tbl := List.mem_of_getElem? (i := 172) rfl
set_option maxRecDepth 100000 in
theorem kw128 : Jvm.Cond.instanceMethod ({ cls := "AccessGate", name := "addPerson", desc := "(I)I" } : Jvm.MethodName) ∈ lw_tbl := List.mem_of_getElem? (i := 173) rfl
set_option maxRecDepth 100000 in
theorem kw129 : Jvm.Cond.selects "AccessGate" ({ cls := "AccessGate", name := "addPerson", desc := "(I)I" } : Jvm.MethodName) ({ cls := "AccessGate", name := "addPerson", desc := "(I)I" } : Jvm.MethodName) ∈ lw_tbl := List.mem_of_getElem? (i := 174) rfl
set_option maxRecDepth 100000 in
theorem kw130 : Jvm.Cond.code ({ cls := "AccessGate", name := "addPerson", desc := "(I)I" } : Jvm.MethodName) prog_1_method_2_code (3 : Nat) (Option.some Jvm.ClassFile.FieldType.int) ∈ lw_tbl := List.mem_of_getElem? (i := 175) rfl
set_option maxRecDepth 100000 in
theorem kw131 : Jvm.Cond.classLink "AccessGate" (45 : Nat) "java/lang/IllegalArgumentException" ∈ lw_tbl := List.mem_of_getElem? (i := 176) rfl
set_option maxRecDepth 100000 in
theorem kw132 : Jvm.Cond.instantiable "java/lang/IllegalArgumentException" (6 : Nat) ∈ lw_tbl := List.mem_of_getElem? (i := 177) rfl
set_option maxRecDepth 100000 in
theorem kw133 : Jvm.Cond.castable "java/lang/IllegalArgumentException" "java/lang/IllegalArgumentException" ∈ lw_tbl := List.mem_of_getElem? (i := 178) rfl
set_option maxRecDepth 100000 in
theorem kw134 : Jvm.Cond.declares ({ cls := "java/lang/RuntimeException", name := "<init>", desc := "()V" } : Jvm.MethodName) ∈ lw_tbl := List.mem_of_getElem? (i := 179) rfl
set_option maxRecDepth 100000 in
theorem kw135 : Jvm.Cond.declares ({ cls := "java/lang/RuntimeException", name := "<init>", desc := "(Ljava/lang/String;)V" } : Jvm.MethodName) ∈ lw_tbl := List.mem_of_getElem? (i := 180) rfl
set_option maxRecDepth 100000 in
theorem kw136 : Jvm.Cond.declares ({ cls := "java/lang/Exception", name := "<init>", desc := "()V" } : Jvm.MethodName) ∈ lw_tbl := List.mem_of_getElem? (i := 181) rfl
set_option maxRecDepth 100000 in
theorem kw137 : Jvm.Cond.declares ({ cls := "java/lang/Exception", name := "<init>", desc := "(Ljava/lang/String;)V" } : Jvm.MethodName) ∈ lw_tbl := List.mem_of_getElem? (i := 182) rfl
set_option maxRecDepth 100000 in
theorem kw138 : Jvm.Cond.declares ({ cls := "java/lang/Throwable", name := "<init>", desc := "()V" } : Jvm.MethodName) ∈ lw_tbl := List.mem_of_getElem? (i := 183) rfl
set_option maxRecDepth 100000 in
theorem kw139 : Jvm.Cond.declares ({ cls := "java/lang/Throwable", name := "<init>", desc := "(Ljava/lang/String;)V" } : Jvm.MethodName) ∈ lw_tbl := List.mem_of_getElem? (i := 184) rfl
set_option maxRecDepth 100000 in
theorem kw140 : Jvm.Cond.selects "java/lang/IllegalArgumentException" ({ cls := "java/lang/Throwable", name := "fillInStackTrace", desc := "(I)Ljava/lang/Throwable;" } : Jvm.MethodName) ({ cls := "java/lang/Throwable", name := "fillInStackTrace", desc := "(I)Ljava/lang/Throwable;" } : Jvm.MethodName) ∈ lw_tbl := List.mem_of_getElem? (i := 185) rfl
set_option maxRecDepth 100000 in
theorem kw141 : Jvm.Cond.selects "java/lang/IllegalArgumentException" ({ cls := "java/lang/Throwable", name := "fillInStackTrace", desc := "()Ljava/lang/Throwable;" } : Jvm.MethodName) ({ cls := "java/lang/Throwable", name := "fillInStackTrace", desc := "()Ljava/lang/Throwable;" } : Jvm.MethodName) ∈ lw_tbl := List.mem_of_getElem? (i := 186) rfl
set_option maxRecDepth 100000 in
theorem kw152 : Jvm.Cond.fieldLink "java/lang/Throwable" (198 : Nat) "java/lang/Throwable" "backtrace" "Ljava/lang/Object;" ∈ lw_tbl := List.mem_of_getElem? (i := 197) rfl
set_option maxRecDepth 100000 in
theorem kw154 : Jvm.Cond.instanceMethod ({ cls := "java/lang/Throwable", name := "<init>", desc := "()V" } : Jvm.MethodName) ∈ lw_tbl := List.mem_of_getElem? (i := 199) rfl
set_option maxRecDepth 100000 in
theorem kw155 : Jvm.Cond.code ({ cls := "java/lang/Throwable", name := "<init>", desc := "()V" } : Jvm.MethodName) prog_22_method_1_code (1 : Nat) (Option.none : Option Jvm.ClassFile.FieldType) ∈ lw_tbl := List.mem_of_getElem? (i := 200) rfl
set_option maxRecDepth 100000 in
theorem kw156 : Jvm.Cond.methodLink "java/lang/Throwable" (1 : Nat) ({ cls := "java/lang/Object", name := "<init>", desc := "()V" } : Jvm.MethodName) ∈ lw_tbl := List.mem_of_getElem? (i := 201) rfl
set_option maxRecDepth 100000 in
theorem kw157 : Jvm.Cond.fieldLink "java/lang/Throwable" (13 : Nat) "java/lang/Throwable" "UNASSIGNED_STACK" "[Ljava/lang/StackTraceElement;" ∈ lw_tbl := List.mem_of_getElem? (i := 202) rfl
set_option maxRecDepth 100000 in
theorem kw159 : Jvm.Cond.fieldLink "java/lang/Throwable" (20 : Nat) "java/lang/Throwable" "SUPPRESSED_SENTINEL" "Ljava/util/List;" ∈ lw_tbl := List.mem_of_getElem? (i := 204) rfl
set_option maxRecDepth 100000 in
theorem kw161 : Jvm.Cond.methodLink "java/lang/Throwable" (27 : Nat) ({ cls := "java/lang/Throwable", name := "fillInStackTrace", desc := "()Ljava/lang/Throwable;" } : Jvm.MethodName) ∈ lw_tbl := List.mem_of_getElem? (i := 206) rfl
set_option maxRecDepth 100000 in
theorem kw162 : Jvm.Cond.instanceMethod ({ cls := "java/lang/Throwable", name := "fillInStackTrace", desc := "()Ljava/lang/Throwable;" } : Jvm.MethodName) ∈ lw_tbl := List.mem_of_getElem? (i := 207) rfl
set_option maxRecDepth 100000 in
theorem kw164 : Jvm.Cond.selects "java/lang/IllegalStateException" ({ cls := "java/lang/Throwable", name := "fillInStackTrace", desc := "()Ljava/lang/Throwable;" } : Jvm.MethodName) ({ cls := "java/lang/Throwable", name := "fillInStackTrace", desc := "()Ljava/lang/Throwable;" } : Jvm.MethodName) ∈ lw_tbl := List.mem_of_getElem? (i := 209) rfl
set_option maxRecDepth 100000 in
theorem kw165 : Jvm.Cond.selects "java/lang/IndexOutOfBoundsException" ({ cls := "java/lang/Throwable", name := "fillInStackTrace", desc := "()Ljava/lang/Throwable;" } : Jvm.MethodName) ({ cls := "java/lang/Throwable", name := "fillInStackTrace", desc := "()Ljava/lang/Throwable;" } : Jvm.MethodName) ∈ lw_tbl := List.mem_of_getElem? (i := 210) rfl
set_option maxRecDepth 100000 in
theorem kw167 : Jvm.Cond.methodLink "java/lang/Throwable" (202 : Nat) ({ cls := "java/lang/Throwable", name := "fillInStackTrace", desc := "(I)Ljava/lang/Throwable;" } : Jvm.MethodName) ∈ lw_tbl := List.mem_of_getElem? (i := 212) rfl
set_option maxRecDepth 100000 in
theorem kw169 : Jvm.Cond.instanceMethod ({ cls := "java/lang/Throwable", name := "fillInStackTrace", desc := "(I)Ljava/lang/Throwable;" } : Jvm.MethodName) ∈ lw_tbl := List.mem_of_getElem? (i := 214) rfl
set_option maxRecDepth 100000 in
theorem kw170 : Jvm.Cond.instantiable "java/lang/Throwable" (6 : Nat) ∈ lw_tbl := List.mem_of_getElem? (i := 215) rfl
set_option maxRecDepth 100000 in
theorem kw171 : Jvm.Cond.native ({ cls := "java/lang/Throwable", name := "fillInStackTrace", desc := "(I)Ljava/lang/Throwable;" } : Jvm.MethodName) ∈ lw_tbl := List.mem_of_getElem? (i := 216) rfl
set_option maxRecDepth 100000 in
theorem kw173 : Jvm.Cond.methodLink "AccessGate" (49 : Nat) ({ cls := "java/lang/IllegalArgumentException", name := "<init>", desc := "(Ljava/lang/String;)V" } : Jvm.MethodName) ∈ lw_tbl := List.mem_of_getElem? (i := 218) rfl
set_option maxRecDepth 100000 in
theorem kw174 : Jvm.Cond.instanceMethod ({ cls := "java/lang/IllegalArgumentException", name := "<init>", desc := "(Ljava/lang/String;)V" } : Jvm.MethodName) ∈ lw_tbl := List.mem_of_getElem? (i := 219) rfl
set_option maxRecDepth 100000 in
theorem kw175 : Jvm.Cond.code ({ cls := "java/lang/IllegalArgumentException", name := "<init>", desc := "(Ljava/lang/String;)V" } : Jvm.MethodName) prog_14_method_2_code (2 : Nat) (Option.none : Option Jvm.ClassFile.FieldType) ∈ lw_tbl := List.mem_of_getElem? (i := 220) rfl
set_option maxRecDepth 100000 in
theorem kw176 : Jvm.Cond.methodLink "java/lang/IllegalArgumentException" (7 : Nat) ({ cls := "java/lang/RuntimeException", name := "<init>", desc := "(Ljava/lang/String;)V" } : Jvm.MethodName) ∈ lw_tbl := List.mem_of_getElem? (i := 221) rfl
set_option maxRecDepth 100000 in
theorem kw177 : Jvm.Cond.instanceMethod ({ cls := "java/lang/RuntimeException", name := "<init>", desc := "(Ljava/lang/String;)V" } : Jvm.MethodName) ∈ lw_tbl := List.mem_of_getElem? (i := 222) rfl
set_option maxRecDepth 100000 in
theorem kw178 : Jvm.Cond.code ({ cls := "java/lang/RuntimeException", name := "<init>", desc := "(Ljava/lang/String;)V" } : Jvm.MethodName) prog_19_method_2_code (2 : Nat) (Option.none : Option Jvm.ClassFile.FieldType) ∈ lw_tbl := List.mem_of_getElem? (i := 223) rfl
set_option maxRecDepth 100000 in
theorem kw179 : Jvm.Cond.methodLink "java/lang/RuntimeException" (7 : Nat) ({ cls := "java/lang/Exception", name := "<init>", desc := "(Ljava/lang/String;)V" } : Jvm.MethodName) ∈ lw_tbl := List.mem_of_getElem? (i := 224) rfl
set_option maxRecDepth 100000 in
theorem kw180 : Jvm.Cond.instanceMethod ({ cls := "java/lang/Exception", name := "<init>", desc := "(Ljava/lang/String;)V" } : Jvm.MethodName) ∈ lw_tbl := List.mem_of_getElem? (i := 225) rfl
set_option maxRecDepth 100000 in
theorem kw181 : Jvm.Cond.code ({ cls := "java/lang/Exception", name := "<init>", desc := "(Ljava/lang/String;)V" } : Jvm.MethodName) prog_13_method_2_code (2 : Nat) (Option.none : Option Jvm.ClassFile.FieldType) ∈ lw_tbl := List.mem_of_getElem? (i := 226) rfl
set_option maxRecDepth 100000 in
theorem kw182 : Jvm.Cond.methodLink "java/lang/Exception" (7 : Nat) ({ cls := "java/lang/Throwable", name := "<init>", desc := "(Ljava/lang/String;)V" } : Jvm.MethodName) ∈ lw_tbl := List.mem_of_getElem? (i := 227) rfl
set_option maxRecDepth 100000 in
theorem kw183 : Jvm.Cond.instanceMethod ({ cls := "java/lang/Throwable", name := "<init>", desc := "(Ljava/lang/String;)V" } : Jvm.MethodName) ∈ lw_tbl := List.mem_of_getElem? (i := 228) rfl
set_option maxRecDepth 100000 in
theorem kw184 : Jvm.Cond.code ({ cls := "java/lang/Throwable", name := "<init>", desc := "(Ljava/lang/String;)V" } : Jvm.MethodName) prog_22_method_2_code (2 : Nat) (Option.none : Option Jvm.ClassFile.FieldType) ∈ lw_tbl := List.mem_of_getElem? (i := 229) rfl
set_option maxRecDepth 100000 in
theorem kw185 : Jvm.Cond.fieldLink "java/lang/Throwable" (198 : Nat) "java/lang/Throwable" "backtrace" "Ljava/lang/Object;" ∈ lw_tbl := List.mem_of_getElem? (i := 230) rfl
set_option maxRecDepth 100000 in
theorem kw186 : Jvm.Cond.fieldLink "java/lang/Throwable" (31 : Nat) "java/lang/Throwable" "detailMessage" "Ljava/lang/String;" ∈ lw_tbl := List.mem_of_getElem? (i := 231) rfl
set_option maxRecDepth 100000 in
theorem kw187 : Jvm.Cond.fieldLink "java/lang/Throwable" (7 : Nat) "java/lang/Throwable" "cause" "Ljava/lang/Throwable;" ∈ lw_tbl := List.mem_of_getElem? (i := 232) rfl
set_option maxRecDepth 100000 in
theorem kw188 : Jvm.Cond.fieldLink "java/lang/Throwable" (17 : Nat) "java/lang/Throwable" "stackTrace" "[Ljava/lang/StackTraceElement;" ∈ lw_tbl := List.mem_of_getElem? (i := 233) rfl
set_option maxRecDepth 100000 in
theorem kw189 : Jvm.Cond.fieldLink "java/lang/Throwable" (24 : Nat) "java/lang/Throwable" "suppressedExceptions" "Ljava/util/List;" ∈ lw_tbl := List.mem_of_getElem? (i := 234) rfl
set_option maxRecDepth 100000 in
theorem kw198 : Jvm.Cond.arrayClass Jvm.ClassFile.FieldType.byte ∈ lw_tbl := List.mem_of_getElem? (i := 243) rfl
set_option maxRecDepth 100000 in
theorem kw199 : Jvm.Cond.methodLink "AccessGate" (52 : Nat) ({ cls := "java/util/ArrayList", name := "size", desc := "()I" } : Jvm.MethodName) ∈ lw_tbl := List.mem_of_getElem? (i := 244) rfl
set_option maxRecDepth 100000 in
theorem kw200 : Jvm.Cond.instanceMethod ({ cls := "java/util/ArrayList", name := "size", desc := "()I" } : Jvm.MethodName) ∈ lw_tbl := List.mem_of_getElem? (i := 245) rfl
set_option maxRecDepth 100000 in
theorem kw201 : Jvm.Cond.selects "java/util/ArrayList" ({ cls := "java/util/ArrayList", name := "size", desc := "()I" } : Jvm.MethodName) ({ cls := "java/util/ArrayList", name := "size", desc := "()I" } : Jvm.MethodName) ∈ lw_tbl := List.mem_of_getElem? (i := 246) rfl
set_option maxRecDepth 100000 in
theorem kw202 : Jvm.Cond.code ({ cls := "java/util/ArrayList", name := "size", desc := "()I" } : Jvm.MethodName) prog_25_method_8_code (1 : Nat) (Option.some Jvm.ClassFile.FieldType.int) ∈ lw_tbl := List.mem_of_getElem? (i := 247) rfl
set_option maxRecDepth 100000 in
theorem kw203 : Jvm.Cond.classLink "AccessGate" (56 : Nat) "java/lang/IllegalStateException" ∈ lw_tbl := List.mem_of_getElem? (i := 248) rfl
set_option maxRecDepth 100000 in
theorem kw204 : Jvm.Cond.instantiable "java/lang/IllegalStateException" (6 : Nat) ∈ lw_tbl := List.mem_of_getElem? (i := 249) rfl
set_option maxRecDepth 100000 in
theorem kw205 : Jvm.Cond.castable "java/lang/IllegalStateException" "java/lang/IllegalStateException" ∈ lw_tbl := List.mem_of_getElem? (i := 250) rfl
set_option maxRecDepth 100000 in
theorem kw206 : Jvm.Cond.selects "java/lang/IllegalStateException" ({ cls := "java/lang/Throwable", name := "fillInStackTrace", desc := "(I)Ljava/lang/Throwable;" } : Jvm.MethodName) ({ cls := "java/lang/Throwable", name := "fillInStackTrace", desc := "(I)Ljava/lang/Throwable;" } : Jvm.MethodName) ∈ lw_tbl := List.mem_of_getElem? (i := 251) rfl
set_option maxRecDepth 100000 in
theorem kw213 : Jvm.Cond.methodLink "AccessGate" (60 : Nat) ({ cls := "java/lang/IllegalStateException", name := "<init>", desc := "(Ljava/lang/String;)V" } : Jvm.MethodName) ∈ lw_tbl := List.mem_of_getElem? (i := 258) rfl
set_option maxRecDepth 100000 in
theorem kw214 : Jvm.Cond.instanceMethod ({ cls := "java/lang/IllegalStateException", name := "<init>", desc := "(Ljava/lang/String;)V" } : Jvm.MethodName) ∈ lw_tbl := List.mem_of_getElem? (i := 259) rfl
set_option maxRecDepth 100000 in
theorem kw215 : Jvm.Cond.code ({ cls := "java/lang/IllegalStateException", name := "<init>", desc := "(Ljava/lang/String;)V" } : Jvm.MethodName) prog_15_method_2_code (2 : Nat) (Option.none : Option Jvm.ClassFile.FieldType) ∈ lw_tbl := List.mem_of_getElem? (i := 260) rfl
set_option maxRecDepth 100000 in
theorem kw216 : Jvm.Cond.methodLink "java/lang/IllegalStateException" (7 : Nat) ({ cls := "java/lang/RuntimeException", name := "<init>", desc := "(Ljava/lang/String;)V" } : Jvm.MethodName) ∈ lw_tbl := List.mem_of_getElem? (i := 261) rfl
set_option maxRecDepth 100000 in
theorem kw219 : Jvm.Cond.classLink "AccessGate" (61 : Nat) "AccessGate$Person" ∈ lw_tbl := List.mem_of_getElem? (i := 264) rfl
set_option maxRecDepth 100000 in
theorem kw220 : Jvm.Cond.instantiable "AccessGate$Person" (3 : Nat) ∈ lw_tbl := List.mem_of_getElem? (i := 265) rfl
set_option maxRecDepth 100000 in
theorem kw221 : Jvm.Cond.methodLinkNest "AccessGate" (63 : Nat) ({ cls := "AccessGate$Person", name := "<init>", desc := "(II)V" } : Jvm.MethodName) "AccessGate" ∈ lw_tbl := List.mem_of_getElem? (i := 266) rfl
set_option maxRecDepth 100000 in
theorem kw222 : Jvm.Cond.instanceMethod ({ cls := "AccessGate$Person", name := "<init>", desc := "(II)V" } : Jvm.MethodName) ∈ lw_tbl := List.mem_of_getElem? (i := 267) rfl
set_option maxRecDepth 100000 in
theorem kw223 : Jvm.Cond.code ({ cls := "AccessGate$Person", name := "<init>", desc := "(II)V" } : Jvm.MethodName) prog_5_method_1_code (3 : Nat) (Option.none : Option Jvm.ClassFile.FieldType) ∈ lw_tbl := List.mem_of_getElem? (i := 268) rfl
set_option maxRecDepth 100000 in
theorem kw224 : Jvm.Cond.methodLink "AccessGate$Person" (1 : Nat) ({ cls := "java/lang/Object", name := "<init>", desc := "()V" } : Jvm.MethodName) ∈ lw_tbl := List.mem_of_getElem? (i := 269) rfl
set_option maxRecDepth 100000 in
theorem kw225 : Jvm.Cond.fieldLink "AccessGate$Person" (13 : Nat) "AccessGate$Person" "number" "I" ∈ lw_tbl := List.mem_of_getElem? (i := 270) rfl
set_option maxRecDepth 100000 in
theorem kw226 : Jvm.Cond.fieldLinkNest "AccessGate$StepRecord" (25 : Nat) "AccessGate$Person" "number" "I" "AccessGate" ∈ lw_tbl := List.mem_of_getElem? (i := 271) rfl
set_option maxRecDepth 100000 in
theorem kw227 : Jvm.Cond.fieldLink "AccessGate$Person" (16 : Nat) "AccessGate$Person" "team" "I" ∈ lw_tbl := List.mem_of_getElem? (i := 272) rfl
set_option maxRecDepth 100000 in
theorem kw228 : Jvm.Cond.fieldLinkNest "AccessGate" (173 : Nat) "AccessGate$Person" "team" "I" "AccessGate" ∈ lw_tbl := List.mem_of_getElem? (i := 273) rfl
set_option maxRecDepth 100000 in
theorem kw229 : Jvm.Cond.fieldLink "AccessGate$Person" (7 : Nat) "AccessGate$Person" "labelBits" "I" ∈ lw_tbl := List.mem_of_getElem? (i := 274) rfl
set_option maxRecDepth 100000 in
theorem kw237 : Jvm.Cond.methodLink "AccessGate" (66 : Nat) ({ cls := "java/util/ArrayList", name := "add", desc := "(Ljava/lang/Object;)Z" } : Jvm.MethodName) ∈ lw_tbl := List.mem_of_getElem? (i := 282) rfl
set_option maxRecDepth 100000 in
theorem kw238 : Jvm.Cond.instanceMethod ({ cls := "java/util/ArrayList", name := "add", desc := "(Ljava/lang/Object;)Z" } : Jvm.MethodName) ∈ lw_tbl := List.mem_of_getElem? (i := 283) rfl
set_option maxRecDepth 100000 in
theorem kw239 : Jvm.Cond.selects "java/util/ArrayList" ({ cls := "java/util/ArrayList", name := "add", desc := "(Ljava/lang/Object;)Z" } : Jvm.MethodName) ({ cls := "java/util/ArrayList", name := "add", desc := "(Ljava/lang/Object;)Z" } : Jvm.MethodName) ∈ lw_tbl := List.mem_of_getElem? (i := 284) rfl
set_option maxRecDepth 100000 in
theorem kw240 : Jvm.Cond.code ({ cls := "java/util/ArrayList", name := "add", desc := "(Ljava/lang/Object;)Z" } : Jvm.MethodName) prog_25_method_25_code (2 : Nat) (Option.some Jvm.ClassFile.FieldType.boolean) ∈ lw_tbl := List.mem_of_getElem? (i := 285) rfl
set_option maxRecDepth 100000 in
theorem kw241 : Jvm.Cond.methodLink "java/util/ArrayList" (131 : Nat) ({ cls := "java/util/ArrayList", name := "add", desc := "(Ljava/lang/Object;[Ljava/lang/Object;I)V" } : Jvm.MethodName) ∈ lw_tbl := List.mem_of_getElem? (i := 286) rfl
set_option maxRecDepth 100000 in
theorem kw243 : Jvm.Cond.instanceMethod ({ cls := "java/util/ArrayList", name := "add", desc := "(Ljava/lang/Object;[Ljava/lang/Object;I)V" } : Jvm.MethodName) ∈ lw_tbl := List.mem_of_getElem? (i := 288) rfl
set_option maxRecDepth 100000 in
theorem kw244 : Jvm.Cond.code ({ cls := "java/util/ArrayList", name := "add", desc := "(Ljava/lang/Object;[Ljava/lang/Object;I)V" } : Jvm.MethodName) prog_25_method_24_code (4 : Nat) (Option.none : Option Jvm.ClassFile.FieldType) ∈ lw_tbl := List.mem_of_getElem? (i := 289) rfl
set_option maxRecDepth 100000 in
theorem kw245 : Jvm.Cond.methodLink "java/util/ArrayList" (129 : Nat) ({ cls := "java/util/ArrayList", name := "grow", desc := "()[Ljava/lang/Object;" } : Jvm.MethodName) ∈ lw_tbl := List.mem_of_getElem? (i := 290) rfl
set_option maxRecDepth 100000 in
theorem kw247 : Jvm.Cond.instanceMethod ({ cls := "java/util/ArrayList", name := "grow", desc := "()[Ljava/lang/Object;" } : Jvm.MethodName) ∈ lw_tbl := List.mem_of_getElem? (i := 292) rfl
set_option maxRecDepth 100000 in
theorem kw248 : Jvm.Cond.code ({ cls := "java/util/ArrayList", name := "grow", desc := "()[Ljava/lang/Object;" } : Jvm.MethodName) prog_25_method_7_code (1 : Nat) (Option.some (Jvm.ClassFile.FieldType.array (Jvm.ClassFile.FieldType.object "java/lang/Object"))) ∈ lw_tbl := List.mem_of_getElem? (i := 293) rfl
set_option maxRecDepth 100000 in
theorem kw249 : Jvm.Cond.methodLink "java/util/ArrayList" (69 : Nat) ({ cls := "java/util/ArrayList", name := "grow", desc := "(I)[Ljava/lang/Object;" } : Jvm.MethodName) ∈ lw_tbl := List.mem_of_getElem? (i := 294) rfl
set_option maxRecDepth 100000 in
theorem kw251 : Jvm.Cond.instanceMethod ({ cls := "java/util/ArrayList", name := "grow", desc := "(I)[Ljava/lang/Object;" } : Jvm.MethodName) ∈ lw_tbl := List.mem_of_getElem? (i := 296) rfl
set_option maxRecDepth 100000 in
theorem kw252 : Jvm.Cond.code ({ cls := "java/util/ArrayList", name := "grow", desc := "(I)[Ljava/lang/Object;" } : Jvm.MethodName) prog_25_method_6_code (4 : Nat) (Option.some (Jvm.ClassFile.FieldType.array (Jvm.ClassFile.FieldType.object "java/lang/Object"))) ∈ lw_tbl := List.mem_of_getElem? (i := 297) rfl
set_option maxRecDepth 100000 in
theorem kw253 : Jvm.Cond.methodLink "java/util/ArrayList" (73 : Nat) ({ cls := "jdk/internal/util/ArraysSupport", name := "newLength", desc := "(III)I" } : Jvm.MethodName) ∈ lw_tbl := List.mem_of_getElem? (i := 298) rfl
set_option maxRecDepth 100000 in
theorem kw254 : Jvm.Cond.static ({ cls := "jdk/internal/util/ArraysSupport", name := "newLength", desc := "(III)I" } : Jvm.MethodName) ∈ lw_tbl := List.mem_of_getElem? (i := 299) rfl
set_option maxRecDepth 100000 in
theorem kw255 : Jvm.Cond.code ({ cls := "jdk/internal/util/ArraysSupport", name := "newLength", desc := "(III)I" } : Jvm.MethodName) prog_32_method_27_code (4 : Nat) (Option.some Jvm.ClassFile.FieldType.int) ∈ lw_tbl := List.mem_of_getElem? (i := 300) rfl
set_option maxRecDepth 100000 in
theorem kw256 : Jvm.Cond.methodLink "jdk/internal/util/ArraysSupport" (194 : Nat) ({ cls := "java/lang/Math", name := "max", desc := "(II)I" } : Jvm.MethodName) ∈ lw_tbl := List.mem_of_getElem? (i := 301) rfl
set_option maxRecDepth 100000 in
theorem kw257 : Jvm.Cond.static ({ cls := "java/lang/Math", name := "max", desc := "(II)I" } : Jvm.MethodName) ∈ lw_tbl := List.mem_of_getElem? (i := 302) rfl
set_option maxRecDepth 100000 in
theorem kw258 : Jvm.Cond.code ({ cls := "java/lang/Math", name := "max", desc := "(II)I" } : Jvm.MethodName) prog_18_method_65_code (2 : Nat) (Option.some Jvm.ClassFile.FieldType.int) ∈ lw_tbl := List.mem_of_getElem? (i := 303) rfl
set_option maxRecDepth 100000 in
theorem kw259 : Jvm.Cond.constant "jdk/internal/util/ArraysSupport" (200 : Nat) (2147483639 : Int32) ∈ lw_tbl := List.mem_of_getElem? (i := 304) rfl
set_option maxRecDepth 100000 in
theorem kw260 : Jvm.Cond.methodLink "jdk/internal/util/ArraysSupport" (201 : Nat) ({ cls := "jdk/internal/util/ArraysSupport", name := "hugeLength", desc := "(II)I" } : Jvm.MethodName) ∈ lw_tbl := List.mem_of_getElem? (i := 305) rfl
set_option maxRecDepth 100000 in
theorem kw261 : Jvm.Cond.static ({ cls := "jdk/internal/util/ArraysSupport", name := "hugeLength", desc := "(II)I" } : Jvm.MethodName) ∈ lw_tbl := List.mem_of_getElem? (i := 306) rfl
set_option maxRecDepth 100000 in
theorem kw262 : Jvm.Cond.code ({ cls := "jdk/internal/util/ArraysSupport", name := "hugeLength", desc := "(II)I" } : Jvm.MethodName) prog_32_method_28_code (3 : Nat) (Option.some Jvm.ClassFile.FieldType.int) ∈ lw_tbl := List.mem_of_getElem? (i := 307) rfl
set_option maxRecDepth 100000 in
theorem kw263 : Jvm.Cond.methodLink "java/util/ArrayList" (66 : Nat) ({ cls := "java/util/Arrays", name := "copyOf", desc := "([Ljava/lang/Object;I)[Ljava/lang/Object;" } : Jvm.MethodName) ∈ lw_tbl := List.mem_of_getElem? (i := 308) rfl
set_option maxRecDepth 100000 in
theorem kw264 : Jvm.Cond.static ({ cls := "java/util/Arrays", name := "copyOf", desc := "([Ljava/lang/Object;I)[Ljava/lang/Object;" } : Jvm.MethodName) ∈ lw_tbl := List.mem_of_getElem? (i := 309) rfl
set_option maxRecDepth 100000 in
theorem kw265 : Jvm.Cond.code ({ cls := "java/util/Arrays", name := "copyOf", desc := "([Ljava/lang/Object;I)[Ljava/lang/Object;" } : Jvm.MethodName) prog_26_method_119_code (2 : Nat) (Option.some (Jvm.ClassFile.FieldType.array (Jvm.ClassFile.FieldType.object "java/lang/Object"))) ∈ lw_tbl := List.mem_of_getElem? (i := 310) rfl
set_option maxRecDepth 100000 in
theorem kw266 : Jvm.Cond.methodLink "java/util/Arrays" (86 : Nat) ({ cls := "java/lang/Object", name := "getClass", desc := "()Ljava/lang/Class;" } : Jvm.MethodName) ∈ lw_tbl := List.mem_of_getElem? (i := 311) rfl
set_option maxRecDepth 100000 in
theorem kw267 : Jvm.Cond.instanceMethod ({ cls := "java/lang/Object", name := "getClass", desc := "()Ljava/lang/Class;" } : Jvm.MethodName) ∈ lw_tbl := List.mem_of_getElem? (i := 312) rfl
set_option maxRecDepth 100000 in
theorem kw269 : Jvm.Cond.selects "AccessGate" ({ cls := "java/lang/Object", name := "getClass", desc := "()Ljava/lang/Class;" } : Jvm.MethodName) ({ cls := "java/lang/Object", name := "getClass", desc := "()Ljava/lang/Class;" } : Jvm.MethodName) ∈ lw_tbl := List.mem_of_getElem? (i := 314) rfl
set_option maxRecDepth 100000 in
theorem kw270 : Jvm.Cond.selects "AccessGate$Ask" ({ cls := "java/lang/Object", name := "getClass", desc := "()Ljava/lang/Class;" } : Jvm.MethodName) ({ cls := "java/lang/Object", name := "getClass", desc := "()Ljava/lang/Class;" } : Jvm.MethodName) ∈ lw_tbl := List.mem_of_getElem? (i := 315) rfl
set_option maxRecDepth 100000 in
theorem kw271 : Jvm.Cond.selects "AccessGate$Entry" ({ cls := "java/lang/Object", name := "getClass", desc := "()Ljava/lang/Class;" } : Jvm.MethodName) ({ cls := "java/lang/Object", name := "getClass", desc := "()Ljava/lang/Class;" } : Jvm.MethodName) ∈ lw_tbl := List.mem_of_getElem? (i := 316) rfl
set_option maxRecDepth 100000 in
theorem kw272 : Jvm.Cond.selects "AccessGate$Machine" ({ cls := "java/lang/Object", name := "getClass", desc := "()Ljava/lang/Class;" } : Jvm.MethodName) ({ cls := "java/lang/Object", name := "getClass", desc := "()Ljava/lang/Class;" } : Jvm.MethodName) ∈ lw_tbl := List.mem_of_getElem? (i := 317) rfl
set_option maxRecDepth 100000 in
theorem kw273 : Jvm.Cond.selects "AccessGate$Person" ({ cls := "java/lang/Object", name := "getClass", desc := "()Ljava/lang/Class;" } : Jvm.MethodName) ({ cls := "java/lang/Object", name := "getClass", desc := "()Ljava/lang/Class;" } : Jvm.MethodName) ∈ lw_tbl := List.mem_of_getElem? (i := 318) rfl
set_option maxRecDepth 100000 in
theorem kw274 : Jvm.Cond.selects "AccessGate$Right" ({ cls := "java/lang/Object", name := "getClass", desc := "()Ljava/lang/Class;" } : Jvm.MethodName) ({ cls := "java/lang/Object", name := "getClass", desc := "()Ljava/lang/Class;" } : Jvm.MethodName) ∈ lw_tbl := List.mem_of_getElem? (i := 319) rfl
set_option maxRecDepth 100000 in
theorem kw275 : Jvm.Cond.selects "AccessGate$Session" ({ cls := "java/lang/Object", name := "getClass", desc := "()Ljava/lang/Class;" } : Jvm.MethodName) ({ cls := "java/lang/Object", name := "getClass", desc := "()Ljava/lang/Class;" } : Jvm.MethodName) ∈ lw_tbl := List.mem_of_getElem? (i := 320) rfl
set_option maxRecDepth 100000 in
theorem kw276 : Jvm.Cond.selects "AccessGate$StepRecord" ({ cls := "java/lang/Object", name := "getClass", desc := "()Ljava/lang/Class;" } : Jvm.MethodName) ({ cls := "java/lang/Object", name := "getClass", desc := "()Ljava/lang/Class;" } : Jvm.MethodName) ∈ lw_tbl := List.mem_of_getElem? (i := 321) rfl
set_option maxRecDepth 100000 in
theorem kw277 : Jvm.Cond.selects "AccessGateModel" ({ cls := "java/lang/Object", name := "getClass", desc := "()Ljava/lang/Class;" } : Jvm.MethodName) ({ cls := "java/lang/Object", name := "getClass", desc := "()Ljava/lang/Class;" } : Jvm.MethodName) ∈ lw_tbl := List.mem_of_getElem? (i := 322) rfl
set_option maxRecDepth 100000 in
theorem kw278 : Jvm.Cond.selects "java/lang/IllegalArgumentException" ({ cls := "java/lang/Object", name := "getClass", desc := "()Ljava/lang/Class;" } : Jvm.MethodName) ({ cls := "java/lang/Object", name := "getClass", desc := "()Ljava/lang/Class;" } : Jvm.MethodName) ∈ lw_tbl := List.mem_of_getElem? (i := 323) rfl
set_option maxRecDepth 100000 in
theorem kw279 : Jvm.Cond.selects "java/lang/IllegalStateException" ({ cls := "java/lang/Object", name := "getClass", desc := "()Ljava/lang/Class;" } : Jvm.MethodName) ({ cls := "java/lang/Object", name := "getClass", desc := "()Ljava/lang/Class;" } : Jvm.MethodName) ∈ lw_tbl := List.mem_of_getElem? (i := 324) rfl
set_option maxRecDepth 100000 in
theorem kw280 : Jvm.Cond.selects "java/lang/IndexOutOfBoundsException" ({ cls := "java/lang/Object", name := "getClass", desc := "()Ljava/lang/Class;" } : Jvm.MethodName) ({ cls := "java/lang/Object", name := "getClass", desc := "()Ljava/lang/Class;" } : Jvm.MethodName) ∈ lw_tbl := List.mem_of_getElem? (i := 325) rfl
set_option maxRecDepth 100000 in
theorem kw281 : Jvm.Cond.selects "java/util/ArrayList" ({ cls := "java/lang/Object", name := "getClass", desc := "()Ljava/lang/Class;" } : Jvm.MethodName) ({ cls := "java/lang/Object", name := "getClass", desc := "()Ljava/lang/Class;" } : Jvm.MethodName) ∈ lw_tbl := List.mem_of_getElem? (i := 326) rfl
set_option maxRecDepth 100000 in
theorem kw282 : Jvm.Cond.native ({ cls := "java/lang/Object", name := "getClass", desc := "()Ljava/lang/Class;" } : Jvm.MethodName) ∈ lw_tbl := List.mem_of_getElem? (i := 327) rfl
set_option maxRecDepth 100000 in
theorem kw283 : Jvm.Cond.methodLink "java/util/Arrays" (300 : Nat) ({ cls := "java/util/Arrays", name := "copyOf", desc := "([Ljava/lang/Object;ILjava/lang/Class;)[Ljava/lang/Object;" } : Jvm.MethodName) ∈ lw_tbl := List.mem_of_getElem? (i := 328) rfl
set_option maxRecDepth 100000 in
theorem kw284 : Jvm.Cond.static ({ cls := "java/util/Arrays", name := "copyOf", desc := "([Ljava/lang/Object;ILjava/lang/Class;)[Ljava/lang/Object;" } : Jvm.MethodName) ∈ lw_tbl := List.mem_of_getElem? (i := 329) rfl
set_option maxRecDepth 100000 in
theorem kw285 : Jvm.Cond.code ({ cls := "java/util/Arrays", name := "copyOf", desc := "([Ljava/lang/Object;ILjava/lang/Class;)[Ljava/lang/Object;" } : Jvm.MethodName) prog_26_method_120_code (4 : Nat) (Option.some (Jvm.ClassFile.FieldType.array (Jvm.ClassFile.FieldType.object "java/lang/Object"))) ∈ lw_tbl := List.mem_of_getElem? (i := 330) rfl
set_option maxRecDepth 100000 in
theorem kw286 : Jvm.Cond.classLink "java/util/Arrays" (110 : Nat) "[Ljava/lang/Object;" ∈ lw_tbl := List.mem_of_getElem? (i := 331) rfl
set_option maxRecDepth 100000 in
theorem kw288 : Jvm.Cond.classLink "java/util/Arrays" (2 : Nat) "java/lang/Object" ∈ lw_tbl := List.mem_of_getElem? (i := 333) rfl
set_option maxRecDepth 100000 in
theorem kw289 : Jvm.Cond.methodLink "java/util/Arrays" (304 : Nat) ({ cls := "java/lang/Math", name := "min", desc := "(II)I" } : Jvm.MethodName) ∈ lw_tbl := List.mem_of_getElem? (i := 334) rfl
set_option maxRecDepth 100000 in
theorem kw290 : Jvm.Cond.static ({ cls := "java/lang/Math", name := "min", desc := "(II)I" } : Jvm.MethodName) ∈ lw_tbl := List.mem_of_getElem? (i := 335) rfl
set_option maxRecDepth 100000 in
theorem kw291 : Jvm.Cond.code ({ cls := "java/lang/Math", name := "min", desc := "(II)I" } : Jvm.MethodName) prog_18_method_69_code (2 : Nat) (Option.some Jvm.ClassFile.FieldType.int) ∈ lw_tbl := List.mem_of_getElem? (i := 336) rfl
set_option maxRecDepth 100000 in
theorem kw292 : Jvm.Cond.methodLink "java/util/Arrays" (150 : Nat) ({ cls := "java/lang/System", name := "arraycopy", desc := "(Ljava/lang/Object;ILjava/lang/Object;II)V" } : Jvm.MethodName) ∈ lw_tbl := List.mem_of_getElem? (i := 337) rfl
set_option maxRecDepth 100000 in
theorem kw293 : Jvm.Cond.static ({ cls := "java/lang/System", name := "arraycopy", desc := "(Ljava/lang/Object;ILjava/lang/Object;II)V" } : Jvm.MethodName) ∈ lw_tbl := List.mem_of_getElem? (i := 338) rfl
set_option maxRecDepth 100000 in
theorem kw294 : Jvm.Cond.native ({ cls := "java/lang/System", name := "arraycopy", desc := "(Ljava/lang/Object;ILjava/lang/Object;II)V" } : Jvm.MethodName) ∈ lw_tbl := List.mem_of_getElem? (i := 339) rfl
set_option maxRecDepth 100000 in
theorem kw295 : Jvm.Cond.methodLink "java/util/ArrayList" (79 : Nat) ({ cls := "java/lang/Math", name := "max", desc := "(II)I" } : Jvm.MethodName) ∈ lw_tbl := List.mem_of_getElem? (i := 340) rfl
set_option maxRecDepth 100000 in
theorem kw296 : Jvm.Cond.classLink "java/util/ArrayList" (7 : Nat) "java/lang/Object" ∈ lw_tbl := List.mem_of_getElem? (i := 341) rfl
set_option maxRecDepth 100000 in
theorem kw297 : Jvm.Cond.methodLink "AccessGateLaw" (97 : Nat) ({ cls := "AccessGateLaw", name := "addMachine", desc := "(LAccessGate;I[J)I" } : Jvm.MethodName) ∈ lw_tbl := List.mem_of_getElem? (i := 342) rfl
set_option maxRecDepth 100000 in
theorem kw298 : Jvm.Cond.static ({ cls := "AccessGateLaw", name := "addMachine", desc := "(LAccessGate;I[J)I" } : Jvm.MethodName) ∈ lw_tbl := List.mem_of_getElem? (i := 343) rfl
set_option maxRecDepth 100000 in
theorem kw299 : Jvm.Cond.codeWith ({ cls := "AccessGateLaw", name := "addMachine", desc := "(LAccessGate;I[J)I" } : Jvm.MethodName) method_4_code (4 : Nat) (Option.some Jvm.ClassFile.FieldType.int) [((0 : Nat), (9 : Nat), (12 : Nat), (13 : Nat)), ((0 : Nat), (9 : Nat), (15 : Nat), (15 : Nat))] ∈ lw_tbl := List.mem_of_getElem? (i := 344) rfl
set_option maxRecDepth 100000 in
theorem kw300 : Jvm.Cond.methodLink "AccessGateLaw" (17 : Nat) ({ cls := "AccessGate", name := "addMachine", desc := "(I)I" } : Jvm.MethodName) ∈ lw_tbl := List.mem_of_getElem? (i := 345) rfl
set_option maxRecDepth 100000 in
theorem kw301 : Jvm.Cond.instanceMethod ({ cls := "AccessGate", name := "addMachine", desc := "(I)I" } : Jvm.MethodName) ∈ lw_tbl := List.mem_of_getElem? (i := 346) rfl
set_option maxRecDepth 100000 in
theorem kw302 : Jvm.Cond.selects "AccessGate" ({ cls := "AccessGate", name := "addMachine", desc := "(I)I" } : Jvm.MethodName) ({ cls := "AccessGate", name := "addMachine", desc := "(I)I" } : Jvm.MethodName) ∈ lw_tbl := List.mem_of_getElem? (i := 347) rfl
set_option maxRecDepth 100000 in
theorem kw303 : Jvm.Cond.code ({ cls := "AccessGate", name := "addMachine", desc := "(I)I" } : Jvm.MethodName) prog_1_method_3_code (3 : Nat) (Option.some Jvm.ClassFile.FieldType.int) ∈ lw_tbl := List.mem_of_getElem? (i := 348) rfl
set_option maxRecDepth 100000 in
theorem kw304 : Jvm.Cond.methodLink "AccessGate" (70 : Nat) ({ cls := "AccessGate", name := "requireLabel", desc := "(I)V" } : Jvm.MethodName) ∈ lw_tbl := List.mem_of_getElem? (i := 349) rfl
set_option maxRecDepth 100000 in
theorem kw305 : Jvm.Cond.static ({ cls := "AccessGate", name := "requireLabel", desc := "(I)V" } : Jvm.MethodName) ∈ lw_tbl := List.mem_of_getElem? (i := 350) rfl
set_option maxRecDepth 100000 in
theorem kw306 : Jvm.Cond.code ({ cls := "AccessGate", name := "requireLabel", desc := "(I)V" } : Jvm.MethodName) prog_1_method_31_code (1 : Nat) (Option.none : Option Jvm.ClassFile.FieldType) ∈ lw_tbl := List.mem_of_getElem? (i := 351) rfl
set_option maxRecDepth 100000 in
theorem kw309 : Jvm.Cond.classLink "AccessGate" (76 : Nat) "AccessGate$Machine" ∈ lw_tbl := List.mem_of_getElem? (i := 354) rfl
set_option maxRecDepth 100000 in
theorem kw310 : Jvm.Cond.instantiable "AccessGate$Machine" (2 : Nat) ∈ lw_tbl := List.mem_of_getElem? (i := 355) rfl
set_option maxRecDepth 100000 in
theorem kw311 : Jvm.Cond.methodLinkNest "AccessGate" (78 : Nat) ({ cls := "AccessGate$Machine", name := "<init>", desc := "(II)V" } : Jvm.MethodName) "AccessGate" ∈ lw_tbl := List.mem_of_getElem? (i := 356) rfl
set_option maxRecDepth 100000 in
theorem kw312 : Jvm.Cond.instanceMethod ({ cls := "AccessGate$Machine", name := "<init>", desc := "(II)V" } : Jvm.MethodName) ∈ lw_tbl := List.mem_of_getElem? (i := 357) rfl
set_option maxRecDepth 100000 in
theorem kw313 : Jvm.Cond.code ({ cls := "AccessGate$Machine", name := "<init>", desc := "(II)V" } : Jvm.MethodName) prog_4_method_1_code (3 : Nat) (Option.none : Option Jvm.ClassFile.FieldType) ∈ lw_tbl := List.mem_of_getElem? (i := 358) rfl
set_option maxRecDepth 100000 in
theorem kw314 : Jvm.Cond.methodLink "AccessGate$Machine" (1 : Nat) ({ cls := "java/lang/Object", name := "<init>", desc := "()V" } : Jvm.MethodName) ∈ lw_tbl := List.mem_of_getElem? (i := 359) rfl
set_option maxRecDepth 100000 in
theorem kw315 : Jvm.Cond.fieldLink "AccessGate$Machine" (7 : Nat) "AccessGate$Machine" "number" "I" ∈ lw_tbl := List.mem_of_getElem? (i := 360) rfl
set_option maxRecDepth 100000 in
theorem kw316 : Jvm.Cond.fieldLinkNest "AccessGate$StepRecord" (30 : Nat) "AccessGate$Machine" "number" "I" "AccessGate" ∈ lw_tbl := List.mem_of_getElem? (i := 361) rfl
set_option maxRecDepth 100000 in
theorem kw317 : Jvm.Cond.fieldLink "AccessGate$Machine" (13 : Nat) "AccessGate$Machine" "label" "I" ∈ lw_tbl := List.mem_of_getElem? (i := 362) rfl
set_option maxRecDepth 100000 in
theorem kw318 : Jvm.Cond.fieldLinkNest "AccessGate$Person" (19 : Nat) "AccessGate$Machine" "label" "I" "AccessGate" ∈ lw_tbl := List.mem_of_getElem? (i := 363) rfl
set_option maxRecDepth 100000 in
theorem kw319 : Jvm.Cond.fieldLinkNest "AccessGate" (91 : Nat) "AccessGate$Machine" "label" "I" "AccessGate" ∈ lw_tbl := List.mem_of_getElem? (i := 364) rfl
set_option maxRecDepth 100000 in
theorem kw325 : Jvm.Cond.methodLink "AccessGateLaw" (100 : Nat) ({ cls := "AccessGateLaw", name := "setLabel", desc := "(LAccessGate;IIZ[J)I" } : Jvm.MethodName) ∈ lw_tbl := List.mem_of_getElem? (i := 370) rfl
set_option maxRecDepth 100000 in
theorem kw326 : Jvm.Cond.static ({ cls := "AccessGateLaw", name := "setLabel", desc := "(LAccessGate;IIZ[J)I" } : Jvm.MethodName) ∈ lw_tbl := List.mem_of_getElem? (i := 371) rfl
set_option maxRecDepth 100000 in
theorem kw327 : Jvm.Cond.codeWith ({ cls := "AccessGateLaw", name := "setLabel", desc := "(LAccessGate;IIZ[J)I" } : Jvm.MethodName) method_5_code (6 : Nat) (Option.some Jvm.ClassFile.FieldType.int) [((0 : Nat), (12 : Nat), (15 : Nat), (24 : Nat)), ((0 : Nat), (12 : Nat), (19 : Nat), (13 : Nat))] ∈ lw_tbl := List.mem_of_getElem? (i := 372) rfl
set_option maxRecDepth 100000 in
theorem kw328 : Jvm.Cond.classLink "AccessGateLaw" (24 : Nat) "java/lang/IndexOutOfBoundsException" ∈ lw_tbl := List.mem_of_getElem? (i := 373) rfl
set_option maxRecDepth 100000 in
theorem kw329 : Jvm.Cond.methodLink "AccessGateLaw" (20 : Nat) ({ cls := "AccessGate", name := "setLabel", desc := "(IIZ)I" } : Jvm.MethodName) ∈ lw_tbl := List.mem_of_getElem? (i := 374) rfl
set_option maxRecDepth 100000 in
theorem kw330 : Jvm.Cond.instanceMethod ({ cls := "AccessGate", name := "setLabel", desc := "(IIZ)I" } : Jvm.MethodName) ∈ lw_tbl := List.mem_of_getElem? (i := 375) rfl
set_option maxRecDepth 100000 in
theorem kw331 : Jvm.Cond.selects "AccessGate" ({ cls := "AccessGate", name := "setLabel", desc := "(IIZ)I" } : Jvm.MethodName) ({ cls := "AccessGate", name := "setLabel", desc := "(IIZ)I" } : Jvm.MethodName) ∈ lw_tbl := List.mem_of_getElem? (i := 376) rfl
set_option maxRecDepth 100000 in
theorem kw332 : Jvm.Cond.code ({ cls := "AccessGate", name := "setLabel", desc := "(IIZ)I" } : Jvm.MethodName) prog_1_method_4_code (7 : Nat) (Option.some Jvm.ClassFile.FieldType.int) ∈ lw_tbl := List.mem_of_getElem? (i := 377) rfl
set_option maxRecDepth 100000 in
theorem kw333 : Jvm.Cond.methodLink "AccessGate" (79 : Nat) ({ cls := "AccessGate", name := "personAt", desc := "(I)LAccessGate$Person;" } : Jvm.MethodName) ∈ lw_tbl := List.mem_of_getElem? (i := 378) rfl
set_option maxRecDepth 100000 in
theorem kw335 : Jvm.Cond.instanceMethod ({ cls := "AccessGate", name := "personAt", desc := "(I)LAccessGate$Person;" } : Jvm.MethodName) ∈ lw_tbl := List.mem_of_getElem? (i := 380) rfl
set_option maxRecDepth 100000 in
theorem kw336 : Jvm.Cond.code ({ cls := "AccessGate", name := "personAt", desc := "(I)LAccessGate$Person;" } : Jvm.MethodName) prog_1_method_25_code (2 : Nat) (Option.some (Jvm.ClassFile.FieldType.object "AccessGate$Person")) ∈ lw_tbl := List.mem_of_getElem? (i := 381) rfl
set_option maxRecDepth 100000 in
theorem kw337 : Jvm.Cond.classLink "AccessGate" (255 : Nat) "java/lang/IndexOutOfBoundsException" ∈ lw_tbl := List.mem_of_getElem? (i := 382) rfl
set_option maxRecDepth 100000 in
theorem kw338 : Jvm.Cond.instantiable "java/lang/IndexOutOfBoundsException" (6 : Nat) ∈ lw_tbl := List.mem_of_getElem? (i := 383) rfl
set_option maxRecDepth 100000 in
theorem kw339 : Jvm.Cond.castable "java/lang/IndexOutOfBoundsException" "java/lang/IndexOutOfBoundsException" ∈ lw_tbl := List.mem_of_getElem? (i := 384) rfl
set_option maxRecDepth 100000 in
theorem kw340 : Jvm.Cond.selects "java/lang/IndexOutOfBoundsException" ({ cls := "java/lang/Throwable", name := "fillInStackTrace", desc := "(I)Ljava/lang/Throwable;" } : Jvm.MethodName) ({ cls := "java/lang/Throwable", name := "fillInStackTrace", desc := "(I)Ljava/lang/Throwable;" } : Jvm.MethodName) ∈ lw_tbl := List.mem_of_getElem? (i := 385) rfl
set_option maxRecDepth 100000 in
theorem kw347 : Jvm.Cond.methodLink "AccessGate" (259 : Nat) ({ cls := "java/lang/IndexOutOfBoundsException", name := "<init>", desc := "(Ljava/lang/String;)V" } : Jvm.MethodName) ∈ lw_tbl := List.mem_of_getElem? (i := 392) rfl
set_option maxRecDepth 100000 in
theorem kw348 : Jvm.Cond.instanceMethod ({ cls := "java/lang/IndexOutOfBoundsException", name := "<init>", desc := "(Ljava/lang/String;)V" } : Jvm.MethodName) ∈ lw_tbl := List.mem_of_getElem? (i := 393) rfl
set_option maxRecDepth 100000 in
theorem kw349 : Jvm.Cond.code ({ cls := "java/lang/IndexOutOfBoundsException", name := "<init>", desc := "(Ljava/lang/String;)V" } : Jvm.MethodName) prog_16_method_2_code (2 : Nat) (Option.none : Option Jvm.ClassFile.FieldType) ∈ lw_tbl := List.mem_of_getElem? (i := 394) rfl
set_option maxRecDepth 100000 in
theorem kw350 : Jvm.Cond.methodLink "java/lang/IndexOutOfBoundsException" (7 : Nat) ({ cls := "java/lang/RuntimeException", name := "<init>", desc := "(Ljava/lang/String;)V" } : Jvm.MethodName) ∈ lw_tbl := List.mem_of_getElem? (i := 395) rfl
set_option maxRecDepth 100000 in
theorem kw353 : Jvm.Cond.methodLink "AccessGate" (87 : Nat) ({ cls := "java/util/ArrayList", name := "get", desc := "(I)Ljava/lang/Object;" } : Jvm.MethodName) ∈ lw_tbl := List.mem_of_getElem? (i := 398) rfl
set_option maxRecDepth 100000 in
theorem kw354 : Jvm.Cond.instanceMethod ({ cls := "java/util/ArrayList", name := "get", desc := "(I)Ljava/lang/Object;" } : Jvm.MethodName) ∈ lw_tbl := List.mem_of_getElem? (i := 399) rfl
set_option maxRecDepth 100000 in
theorem kw355 : Jvm.Cond.selects "java/util/ArrayList" ({ cls := "java/util/ArrayList", name := "get", desc := "(I)Ljava/lang/Object;" } : Jvm.MethodName) ({ cls := "java/util/ArrayList", name := "get", desc := "(I)Ljava/lang/Object;" } : Jvm.MethodName) ∈ lw_tbl := List.mem_of_getElem? (i := 400) rfl
set_option maxRecDepth 100000 in
theorem kw356 : Jvm.Cond.code ({ cls := "java/util/ArrayList", name := "get", desc := "(I)Ljava/lang/Object;" } : Jvm.MethodName) prog_25_method_20_code (2 : Nat) (Option.some (Jvm.ClassFile.FieldType.object "java/lang/Object")) ∈ lw_tbl := List.mem_of_getElem? (i := 401) rfl
set_option maxRecDepth 100000 in
theorem kw357 : Jvm.Cond.methodLink "java/util/ArrayList" (118 : Nat) ({ cls := "java/util/Objects", name := "checkIndex", desc := "(II)I" } : Jvm.MethodName) ∈ lw_tbl := List.mem_of_getElem? (i := 402) rfl
set_option maxRecDepth 100000 in
theorem kw358 : Jvm.Cond.static ({ cls := "java/util/Objects", name := "checkIndex", desc := "(II)I" } : Jvm.MethodName) ∈ lw_tbl := List.mem_of_getElem? (i := 403) rfl
set_option maxRecDepth 100000 in
theorem kw359 : Jvm.Cond.code ({ cls := "java/util/Objects", name := "checkIndex", desc := "(II)I" } : Jvm.MethodName) prog_29_method_17_code (2 : Nat) (Option.some Jvm.ClassFile.FieldType.int) ∈ lw_tbl := List.mem_of_getElem? (i := 404) rfl
set_option maxRecDepth 100000 in
theorem kw360 : Jvm.Cond.methodLink "java/util/Objects" (105 : Nat) ({ cls := "jdk/internal/util/Preconditions", name := "checkIndex", desc := "(IILjava/util/function/BiFunction;)I" } : Jvm.MethodName) ∈ lw_tbl := List.mem_of_getElem? (i := 405) rfl
set_option maxRecDepth 100000 in
theorem kw361 : Jvm.Cond.static ({ cls := "jdk/internal/util/Preconditions", name := "checkIndex", desc := "(IILjava/util/function/BiFunction;)I" } : Jvm.MethodName) ∈ lw_tbl := List.mem_of_getElem? (i := 406) rfl
set_option maxRecDepth 100000 in
theorem kw362 : Jvm.Cond.code ({ cls := "jdk/internal/util/Preconditions", name := "checkIndex", desc := "(IILjava/util/function/BiFunction;)I" } : Jvm.MethodName) prog_33_method_11_code (3 : Nat) (Option.some Jvm.ClassFile.FieldType.int) ∈ lw_tbl := List.mem_of_getElem? (i := 407) rfl
set_option maxRecDepth 100000 in
theorem kw363 : Jvm.Cond.methodLink "java/util/ArrayList" (123 : Nat) ({ cls := "java/util/ArrayList", name := "elementData", desc := "(I)Ljava/lang/Object;" } : Jvm.MethodName) ∈ lw_tbl := List.mem_of_getElem? (i := 408) rfl
set_option maxRecDepth 100000 in
theorem kw364 : Jvm.Cond.instanceMethod ({ cls := "java/util/ArrayList", name := "elementData", desc := "(I)Ljava/lang/Object;" } : Jvm.MethodName) ∈ lw_tbl := List.mem_of_getElem? (i := 409) rfl
set_option maxRecDepth 100000 in
theorem kw365 : Jvm.Cond.selects "java/util/ArrayList" ({ cls := "java/util/ArrayList", name := "elementData", desc := "(I)Ljava/lang/Object;" } : Jvm.MethodName) ({ cls := "java/util/ArrayList", name := "elementData", desc := "(I)Ljava/lang/Object;" } : Jvm.MethodName) ∈ lw_tbl := List.mem_of_getElem? (i := 410) rfl
set_option maxRecDepth 100000 in
theorem kw366 : Jvm.Cond.code ({ cls := "java/util/ArrayList", name := "elementData", desc := "(I)Ljava/lang/Object;" } : Jvm.MethodName) prog_25_method_18_code (2 : Nat) (Option.some (Jvm.ClassFile.FieldType.object "java/lang/Object")) ∈ lw_tbl := List.mem_of_getElem? (i := 411) rfl
set_option maxRecDepth 100000 in
theorem kw367 : Jvm.Cond.methodLinkNest "AccessGate" (83 : Nat) ({ cls := "AccessGate$Person", name := "keepLabel", desc := "(IZ)V" } : Jvm.MethodName) "AccessGate" ∈ lw_tbl := List.mem_of_getElem? (i := 412) rfl
set_option maxRecDepth 100000 in
theorem kw369 : Jvm.Cond.instanceMethod ({ cls := "AccessGate$Person", name := "keepLabel", desc := "(IZ)V" } : Jvm.MethodName) ∈ lw_tbl := List.mem_of_getElem? (i := 414) rfl
set_option maxRecDepth 100000 in
theorem kw370 : Jvm.Cond.code ({ cls := "AccessGate$Person", name := "keepLabel", desc := "(IZ)V" } : Jvm.MethodName) prog_5_method_3_code (4 : Nat) (Option.none : Option Jvm.ClassFile.FieldType) ∈ lw_tbl := List.mem_of_getElem? (i := 415) rfl
set_option maxRecDepth 100000 in
theorem kw371 : Jvm.Cond.methodLink "AccessGate" (94 : Nat) ({ cls := "AccessGate", name := "endRights", desc := "(LAccessGate$Person;LAccessGate$Machine;)V" } : Jvm.MethodName) ∈ lw_tbl := List.mem_of_getElem? (i := 416) rfl
set_option maxRecDepth 100000 in
theorem kw373 : Jvm.Cond.instanceMethod ({ cls := "AccessGate", name := "endRights", desc := "(LAccessGate$Person;LAccessGate$Machine;)V" } : Jvm.MethodName) ∈ lw_tbl := List.mem_of_getElem? (i := 418) rfl
set_option maxRecDepth 100000 in
theorem kw374 : Jvm.Cond.code ({ cls := "AccessGate", name := "endRights", desc := "(LAccessGate$Person;LAccessGate$Machine;)V" } : Jvm.MethodName) prog_1_method_38_code (5 : Nat) (Option.none : Option Jvm.ClassFile.FieldType) ∈ lw_tbl := List.mem_of_getElem? (i := 419) rfl
set_option maxRecDepth 100000 in
theorem kw375 : Jvm.Cond.classLink "AccessGate" (145 : Nat) "AccessGate$Right" ∈ lw_tbl := List.mem_of_getElem? (i := 420) rfl
set_option maxRecDepth 100000 in
theorem kw376 : Jvm.Cond.methodLinkNest "AccessGate" (293 : Nat) ({ cls := "AccessGate$Right", name := "holdsAt", desc := "(I)Z" } : Jvm.MethodName) "AccessGate" ∈ lw_tbl := List.mem_of_getElem? (i := 421) rfl
set_option maxRecDepth 100000 in
theorem kw378 : Jvm.Cond.instanceMethod ({ cls := "AccessGate$Right", name := "holdsAt", desc := "(I)Z" } : Jvm.MethodName) ∈ lw_tbl := List.mem_of_getElem? (i := 423) rfl
set_option maxRecDepth 100000 in
theorem kw379 : Jvm.Cond.instantiable "AccessGate$Right" (4 : Nat) ∈ lw_tbl := List.mem_of_getElem? (i := 424) rfl
set_option maxRecDepth 100000 in
theorem kw380 : Jvm.Cond.code ({ cls := "AccessGate$Right", name := "holdsAt", desc := "(I)Z" } : Jvm.MethodName) prog_6_method_2_code (2 : Nat) (Option.some Jvm.ClassFile.FieldType.boolean) ∈ lw_tbl := List.mem_of_getElem? (i := 425) rfl
set_option maxRecDepth 100000 in
theorem kw381 : Jvm.Cond.methodLink "AccessGate" (98 : Nat) ({ cls := "AccessGate", name := "denyWaitingAsks", desc := "(LAccessGate$Person;LAccessGate$Machine;)V" } : Jvm.MethodName) ∈ lw_tbl := List.mem_of_getElem? (i := 426) rfl
set_option maxRecDepth 100000 in
theorem kw383 : Jvm.Cond.instanceMethod ({ cls := "AccessGate", name := "denyWaitingAsks", desc := "(LAccessGate$Person;LAccessGate$Machine;)V" } : Jvm.MethodName) ∈ lw_tbl := List.mem_of_getElem? (i := 428) rfl
set_option maxRecDepth 100000 in
theorem kw384 : Jvm.Cond.code ({ cls := "AccessGate", name := "denyWaitingAsks", desc := "(LAccessGate$Person;LAccessGate$Machine;)V" } : Jvm.MethodName) prog_1_method_39_code (5 : Nat) (Option.none : Option Jvm.ClassFile.FieldType) ∈ lw_tbl := List.mem_of_getElem? (i := 429) rfl
set_option maxRecDepth 100000 in
theorem kw385 : Jvm.Cond.classLink "AccessGate" (116 : Nat) "AccessGate$Ask" ∈ lw_tbl := List.mem_of_getElem? (i := 430) rfl
set_option maxRecDepth 100000 in
theorem kw386 : Jvm.Cond.methodLinkNest "AccessGate" (154 : Nat) ({ cls := "AccessGate$Ask", name := "stateAt", desc := "(I)I" } : Jvm.MethodName) "AccessGate" ∈ lw_tbl := List.mem_of_getElem? (i := 431) rfl
set_option maxRecDepth 100000 in
theorem kw388 : Jvm.Cond.instanceMethod ({ cls := "AccessGate$Ask", name := "stateAt", desc := "(I)I" } : Jvm.MethodName) ∈ lw_tbl := List.mem_of_getElem? (i := 433) rfl
set_option maxRecDepth 100000 in
theorem kw389 : Jvm.Cond.instantiable "AccessGate$Ask" (6 : Nat) ∈ lw_tbl := List.mem_of_getElem? (i := 434) rfl
set_option maxRecDepth 100000 in
theorem kw390 : Jvm.Cond.code ({ cls := "AccessGate$Ask", name := "stateAt", desc := "(I)I" } : Jvm.MethodName) prog_2_method_2_code (2 : Nat) (Option.some Jvm.ClassFile.FieldType.int) ∈ lw_tbl := List.mem_of_getElem? (i := 435) rfl
set_option maxRecDepth 100000 in
theorem kw391 : Jvm.Cond.methodLink "AccessGate" (101 : Nat) ({ cls := "AccessGate", name := "closeEndedSessions", desc := "()I" } : Jvm.MethodName) ∈ lw_tbl := List.mem_of_getElem? (i := 436) rfl
set_option maxRecDepth 100000 in
theorem kw393 : Jvm.Cond.instanceMethod ({ cls := "AccessGate", name := "closeEndedSessions", desc := "()I" } : Jvm.MethodName) ∈ lw_tbl := List.mem_of_getElem? (i := 438) rfl
set_option maxRecDepth 100000 in
theorem kw394 : Jvm.Cond.code ({ cls := "AccessGate", name := "closeEndedSessions", desc := "()I" } : Jvm.MethodName) prog_1_method_40_code (4 : Nat) (Option.some Jvm.ClassFile.FieldType.int) ∈ lw_tbl := List.mem_of_getElem? (i := 439) rfl
set_option maxRecDepth 100000 in
theorem kw395 : Jvm.Cond.classLink "AccessGate" (196 : Nat) "AccessGate$Session" ∈ lw_tbl := List.mem_of_getElem? (i := 440) rfl
set_option maxRecDepth 100000 in
theorem kw396 : Jvm.Cond.methodLinkNest "AccessGate" (299 : Nat) ({ cls := "AccessGate$Session", name := "restsAt", desc := "(I)Z" } : Jvm.MethodName) "AccessGate" ∈ lw_tbl := List.mem_of_getElem? (i := 441) rfl
set_option maxRecDepth 100000 in
theorem kw398 : Jvm.Cond.instanceMethod ({ cls := "AccessGate$Session", name := "restsAt", desc := "(I)Z" } : Jvm.MethodName) ∈ lw_tbl := List.mem_of_getElem? (i := 443) rfl
set_option maxRecDepth 100000 in
theorem kw399 : Jvm.Cond.instantiable "AccessGate$Session" (6 : Nat) ∈ lw_tbl := List.mem_of_getElem? (i := 444) rfl
set_option maxRecDepth 100000 in
theorem kw400 : Jvm.Cond.code ({ cls := "AccessGate$Session", name := "restsAt", desc := "(I)Z" } : Jvm.MethodName) prog_7_method_3_code (2 : Nat) (Option.some Jvm.ClassFile.FieldType.boolean) ∈ lw_tbl := List.mem_of_getElem? (i := 445) rfl
set_option maxRecDepth 100000 in
theorem kw401 : Jvm.Cond.methodLink "AccessGate" (190 : Nat) ({ cls := "AccessGate", name := "rightHolds", desc := "(LAccessGate$Person;LAccessGate$Machine;I)Z" } : Jvm.MethodName) ∈ lw_tbl := List.mem_of_getElem? (i := 446) rfl
set_option maxRecDepth 100000 in
theorem kw403 : Jvm.Cond.instanceMethod ({ cls := "AccessGate", name := "rightHolds", desc := "(LAccessGate$Person;LAccessGate$Machine;I)Z" } : Jvm.MethodName) ∈ lw_tbl := List.mem_of_getElem? (i := 448) rfl
set_option maxRecDepth 100000 in
theorem kw404 : Jvm.Cond.code ({ cls := "AccessGate", name := "rightHolds", desc := "(LAccessGate$Person;LAccessGate$Machine;I)Z" } : Jvm.MethodName) prog_1_method_37_code (6 : Nat) (Option.some Jvm.ClassFile.FieldType.boolean) ∈ lw_tbl := List.mem_of_getElem? (i := 449) rfl
set_option maxRecDepth 100000 in
theorem kw405 : Jvm.Cond.methodLink "AccessGate" (234 : Nat) ({ cls := "AccessGate", name := "endSession", desc := "(LAccessGate$Session;)V" } : Jvm.MethodName) ∈ lw_tbl := List.mem_of_getElem? (i := 450) rfl
set_option maxRecDepth 100000 in
theorem kw407 : Jvm.Cond.instanceMethod ({ cls := "AccessGate", name := "endSession", desc := "(LAccessGate$Session;)V" } : Jvm.MethodName) ∈ lw_tbl := List.mem_of_getElem? (i := 452) rfl
set_option maxRecDepth 100000 in
theorem kw408 : Jvm.Cond.code ({ cls := "AccessGate", name := "endSession", desc := "(LAccessGate$Session;)V" } : Jvm.MethodName) prog_1_method_41_code (2 : Nat) (Option.none : Option Jvm.ClassFile.FieldType) ∈ lw_tbl := List.mem_of_getElem? (i := 453) rfl
set_option maxRecDepth 100000 in
theorem kw409 : Jvm.Cond.methodLinkNest "AccessGate" (121 : Nat) ({ cls := "AccessGate$StepRecord", name := "add", desc := "(ILAccessGate$Person;LAccessGate$Machine;I)V" } : Jvm.MethodName) "AccessGate" ∈ lw_tbl := List.mem_of_getElem? (i := 454) rfl
set_option maxRecDepth 100000 in
theorem kw411 : Jvm.Cond.instanceMethod ({ cls := "AccessGate$StepRecord", name := "add", desc := "(ILAccessGate$Person;LAccessGate$Machine;I)V" } : Jvm.MethodName) ∈ lw_tbl := List.mem_of_getElem? (i := 456) rfl
set_option maxRecDepth 100000 in
theorem kw412 : Jvm.Cond.code ({ cls := "AccessGate$StepRecord", name := "add", desc := "(ILAccessGate$Person;LAccessGate$Machine;I)V" } : Jvm.MethodName) prog_8_method_2_code (5 : Nat) (Option.none : Option Jvm.ClassFile.FieldType) ∈ lw_tbl := List.mem_of_getElem? (i := 457) rfl
set_option maxRecDepth 100000 in
theorem kw413 : Jvm.Cond.constant "AccessGate$StepRecord" (33 : Nat) (1000003 : Int32) ∈ lw_tbl := List.mem_of_getElem? (i := 458) rfl
set_option maxRecDepth 100000 in
theorem kw414 : Jvm.Cond.methodLink "AccessGateLaw" (104 : Nat) ({ cls := "AccessGateLaw", name := "takeAway", desc := "(LAccessGate;II[J)I" } : Jvm.MethodName) ∈ lw_tbl := List.mem_of_getElem? (i := 459) rfl
set_option maxRecDepth 100000 in
theorem kw415 : Jvm.Cond.static ({ cls := "AccessGateLaw", name := "takeAway", desc := "(LAccessGate;II[J)I" } : Jvm.MethodName) ∈ lw_tbl := List.mem_of_getElem? (i := 460) rfl
set_option maxRecDepth 100000 in
theorem kw416 : Jvm.Cond.codeWith ({ cls := "AccessGateLaw", name := "takeAway", desc := "(LAccessGate;II[J)I" } : Jvm.MethodName) method_6_code (5 : Nat) (Option.some Jvm.ClassFile.FieldType.int) [((0 : Nat), (10 : Nat), (13 : Nat), (24 : Nat))] ∈ lw_tbl := List.mem_of_getElem? (i := 461) rfl
set_option maxRecDepth 100000 in
theorem kw417 : Jvm.Cond.methodLink "AccessGateLaw" (26 : Nat) ({ cls := "AccessGate", name := "takeAway", desc := "(II)I" } : Jvm.MethodName) ∈ lw_tbl := List.mem_of_getElem? (i := 462) rfl
set_option maxRecDepth 100000 in
theorem kw418 : Jvm.Cond.instanceMethod ({ cls := "AccessGate", name := "takeAway", desc := "(II)I" } : Jvm.MethodName) ∈ lw_tbl := List.mem_of_getElem? (i := 463) rfl
set_option maxRecDepth 100000 in
theorem kw419 : Jvm.Cond.selects "AccessGate" ({ cls := "AccessGate", name := "takeAway", desc := "(II)I" } : Jvm.MethodName) ({ cls := "AccessGate", name := "takeAway", desc := "(II)I" } : Jvm.MethodName) ∈ lw_tbl := List.mem_of_getElem? (i := 464) rfl
set_option maxRecDepth 100000 in
theorem kw420 : Jvm.Cond.code ({ cls := "AccessGate", name := "takeAway", desc := "(II)I" } : Jvm.MethodName) prog_1_method_5_code (5 : Nat) (Option.some Jvm.ClassFile.FieldType.int) ∈ lw_tbl := List.mem_of_getElem? (i := 465) rfl
set_option maxRecDepth 100000 in
theorem kw421 : Jvm.Cond.methodLink "AccessGate" (104 : Nat) ({ cls := "AccessGate", name := "machineAt", desc := "(I)LAccessGate$Machine;" } : Jvm.MethodName) ∈ lw_tbl := List.mem_of_getElem? (i := 466) rfl
set_option maxRecDepth 100000 in
theorem kw423 : Jvm.Cond.instanceMethod ({ cls := "AccessGate", name := "machineAt", desc := "(I)LAccessGate$Machine;" } : Jvm.MethodName) ∈ lw_tbl := List.mem_of_getElem? (i := 468) rfl
set_option maxRecDepth 100000 in
theorem kw424 : Jvm.Cond.code ({ cls := "AccessGate", name := "machineAt", desc := "(I)LAccessGate$Machine;" } : Jvm.MethodName) prog_1_method_26_code (2 : Nat) (Option.some (Jvm.ClassFile.FieldType.object "AccessGate$Machine")) ∈ lw_tbl := List.mem_of_getElem? (i := 469) rfl
set_option maxRecDepth 100000 in
theorem kw426 : Jvm.Cond.methodLink "AccessGateLaw" (108 : Nat) ({ cls := "AccessGateLaw", name := "ask", desc := "(LAccessGate;III[J)I" } : Jvm.MethodName) ∈ lw_tbl := List.mem_of_getElem? (i := 471) rfl
set_option maxRecDepth 100000 in
theorem kw427 : Jvm.Cond.static ({ cls := "AccessGateLaw", name := "ask", desc := "(LAccessGate;III[J)I" } : Jvm.MethodName) ∈ lw_tbl := List.mem_of_getElem? (i := 472) rfl
set_option maxRecDepth 100000 in
theorem kw428 : Jvm.Cond.codeWith ({ cls := "AccessGateLaw", name := "ask", desc := "(LAccessGate;III[J)I" } : Jvm.MethodName) method_7_code (6 : Nat) (Option.some Jvm.ClassFile.FieldType.int) [((0 : Nat), (12 : Nat), (15 : Nat), (24 : Nat)), ((0 : Nat), (12 : Nat), (19 : Nat), (13 : Nat)), ((0 : Nat), (12 : Nat), (23 : Nat), (15 : Nat))] ∈ lw_tbl := List.mem_of_getElem? (i := 473) rfl
set_option maxRecDepth 100000 in
theorem kw429 : Jvm.Cond.methodLink "AccessGateLaw" (30 : Nat) ({ cls := "AccessGate", name := "ask", desc := "(III)I" } : Jvm.MethodName) ∈ lw_tbl := List.mem_of_getElem? (i := 474) rfl
set_option maxRecDepth 100000 in
theorem kw430 : Jvm.Cond.instanceMethod ({ cls := "AccessGate", name := "ask", desc := "(III)I" } : Jvm.MethodName) ∈ lw_tbl := List.mem_of_getElem? (i := 475) rfl
set_option maxRecDepth 100000 in
theorem kw431 : Jvm.Cond.selects "AccessGate" ({ cls := "AccessGate", name := "ask", desc := "(III)I" } : Jvm.MethodName) ({ cls := "AccessGate", name := "ask", desc := "(III)I" } : Jvm.MethodName) ∈ lw_tbl := List.mem_of_getElem? (i := 476) rfl
set_option maxRecDepth 100000 in
theorem kw432 : Jvm.Cond.code ({ cls := "AccessGate", name := "ask", desc := "(III)I" } : Jvm.MethodName) prog_1_method_6_code (7 : Nat) (Option.some Jvm.ClassFile.FieldType.int) ∈ lw_tbl := List.mem_of_getElem? (i := 477) rfl
set_option maxRecDepth 100000 in
theorem kw434 : Jvm.Cond.methodLink "AccessGate" (110 : Nat) ({ cls := "AccessGate", name := "requireMayAskOrEnter", desc := "(LAccessGate$Person;LAccessGate$Machine;)V" } : Jvm.MethodName) ∈ lw_tbl := List.mem_of_getElem? (i := 479) rfl
set_option maxRecDepth 100000 in
theorem kw436 : Jvm.Cond.instanceMethod ({ cls := "AccessGate", name := "requireMayAskOrEnter", desc := "(LAccessGate$Person;LAccessGate$Machine;)V" } : Jvm.MethodName) ∈ lw_tbl := List.mem_of_getElem? (i := 481) rfl
set_option maxRecDepth 100000 in
theorem kw437 : Jvm.Cond.code ({ cls := "AccessGate", name := "requireMayAskOrEnter", desc := "(LAccessGate$Person;LAccessGate$Machine;)V" } : Jvm.MethodName) prog_1_method_34_code (3 : Nat) (Option.none : Option Jvm.ClassFile.FieldType) ∈ lw_tbl := List.mem_of_getElem? (i := 482) rfl
set_option maxRecDepth 100000 in
theorem kw438 : Jvm.Cond.methodLinkNest "AccessGate" (276 : Nat) ({ cls := "AccessGate$Person", name := "hasLabel", desc := "(I)Z" } : Jvm.MethodName) "AccessGate" ∈ lw_tbl := List.mem_of_getElem? (i := 483) rfl
set_option maxRecDepth 100000 in
theorem kw440 : Jvm.Cond.instanceMethod ({ cls := "AccessGate$Person", name := "hasLabel", desc := "(I)Z" } : Jvm.MethodName) ∈ lw_tbl := List.mem_of_getElem? (i := 485) rfl
set_option maxRecDepth 100000 in
theorem kw441 : Jvm.Cond.code ({ cls := "AccessGate$Person", name := "hasLabel", desc := "(I)Z" } : Jvm.MethodName) prog_5_method_2_code (2 : Nat) (Option.some Jvm.ClassFile.FieldType.boolean) ∈ lw_tbl := List.mem_of_getElem? (i := 486) rfl
set_option maxRecDepth 100000 in
theorem kw443 : Jvm.Cond.methodLink "AccessGate" (183 : Nat) ({ cls := "AccessGate", name := "countOverdue", desc := "(LAccessGate$Person;)I" } : Jvm.MethodName) ∈ lw_tbl := List.mem_of_getElem? (i := 488) rfl
set_option maxRecDepth 100000 in
theorem kw445 : Jvm.Cond.instanceMethod ({ cls := "AccessGate", name := "countOverdue", desc := "(LAccessGate$Person;)I" } : Jvm.MethodName) ∈ lw_tbl := List.mem_of_getElem? (i := 490) rfl
set_option maxRecDepth 100000 in
theorem kw446 : Jvm.Cond.code ({ cls := "AccessGate", name := "countOverdue", desc := "(LAccessGate$Person;)I" } : Jvm.MethodName) prog_1_method_36_code (5 : Nat) (Option.some Jvm.ClassFile.FieldType.int) ∈ lw_tbl := List.mem_of_getElem? (i := 491) rfl
set_option maxRecDepth 100000 in
theorem kw447 : Jvm.Cond.classLink "AccessGate" (158 : Nat) "AccessGate$Entry" ∈ lw_tbl := List.mem_of_getElem? (i := 492) rfl
set_option maxRecDepth 100000 in
theorem kw448 : Jvm.Cond.methodLinkNest "AccessGate" (288 : Nat) ({ cls := "AccessGate$Entry", name := "isOverdueAt", desc := "(I)Z" } : Jvm.MethodName) "AccessGate" ∈ lw_tbl := List.mem_of_getElem? (i := 493) rfl
set_option maxRecDepth 100000 in
theorem kw450 : Jvm.Cond.instanceMethod ({ cls := "AccessGate$Entry", name := "isOverdueAt", desc := "(I)Z" } : Jvm.MethodName) ∈ lw_tbl := List.mem_of_getElem? (i := 495) rfl
set_option maxRecDepth 100000 in
theorem kw451 : Jvm.Cond.instantiable "AccessGate$Entry" (4 : Nat) ∈ lw_tbl := List.mem_of_getElem? (i := 496) rfl
set_option maxRecDepth 100000 in
theorem kw452 : Jvm.Cond.code ({ cls := "AccessGate$Entry", name := "isOverdueAt", desc := "(I)Z" } : Jvm.MethodName) prog_3_method_2_code (2 : Nat) (Option.some Jvm.ClassFile.FieldType.boolean) ∈ lw_tbl := List.mem_of_getElem? (i := 497) rfl
set_option maxRecDepth 100000 in
theorem kw454 : Jvm.Cond.methodLink "AccessGate" (113 : Nat) ({ cls := "AccessGate", name := "requireRoomFor", desc := "(I)V" } : Jvm.MethodName) ∈ lw_tbl := List.mem_of_getElem? (i := 499) rfl
set_option maxRecDepth 100000 in
theorem kw455 : Jvm.Cond.static ({ cls := "AccessGate", name := "requireRoomFor", desc := "(I)V" } : Jvm.MethodName) ∈ lw_tbl := List.mem_of_getElem? (i := 500) rfl
set_option maxRecDepth 100000 in
theorem kw456 : Jvm.Cond.code ({ cls := "AccessGate", name := "requireRoomFor", desc := "(I)V" } : Jvm.MethodName) prog_1_method_32_code (1 : Nat) (Option.none : Option Jvm.ClassFile.FieldType) ∈ lw_tbl := List.mem_of_getElem? (i := 501) rfl
set_option maxRecDepth 100000 in
theorem kw458 : Jvm.Cond.methodLinkNest "AccessGate" (118 : Nat) ({ cls := "AccessGate$Ask", name := "<init>", desc := "(LAccessGate$Person;LAccessGate$Machine;II)V" } : Jvm.MethodName) "AccessGate" ∈ lw_tbl := List.mem_of_getElem? (i := 503) rfl
set_option maxRecDepth 100000 in
theorem kw459 : Jvm.Cond.instanceMethod ({ cls := "AccessGate$Ask", name := "<init>", desc := "(LAccessGate$Person;LAccessGate$Machine;II)V" } : Jvm.MethodName) ∈ lw_tbl := List.mem_of_getElem? (i := 504) rfl
set_option maxRecDepth 100000 in
theorem kw460 : Jvm.Cond.code ({ cls := "AccessGate$Ask", name := "<init>", desc := "(LAccessGate$Person;LAccessGate$Machine;II)V" } : Jvm.MethodName) prog_2_method_1_code (5 : Nat) (Option.none : Option Jvm.ClassFile.FieldType) ∈ lw_tbl := List.mem_of_getElem? (i := 505) rfl
set_option maxRecDepth 100000 in
theorem kw461 : Jvm.Cond.methodLink "AccessGate$Ask" (3 : Nat) ({ cls := "java/lang/Object", name := "<init>", desc := "()V" } : Jvm.MethodName) ∈ lw_tbl := List.mem_of_getElem? (i := 506) rfl
set_option maxRecDepth 100000 in
theorem kw462 : Jvm.Cond.fieldLink "AccessGate$Ask" (19 : Nat) "AccessGate$Ask" "who" "LAccessGate$Person;" ∈ lw_tbl := List.mem_of_getElem? (i := 507) rfl
set_option maxRecDepth 100000 in
theorem kw463 : Jvm.Cond.fieldLinkNest "AccessGate" (147 : Nat) "AccessGate$Ask" "who" "LAccessGate$Person;" "AccessGate" ∈ lw_tbl := List.mem_of_getElem? (i := 508) rfl
set_option maxRecDepth 100000 in
theorem kw464 : Jvm.Cond.fieldLink "AccessGate$Ask" (22 : Nat) "AccessGate$Ask" "where" "LAccessGate$Machine;" ∈ lw_tbl := List.mem_of_getElem? (i := 509) rfl
set_option maxRecDepth 100000 in
theorem kw465 : Jvm.Cond.fieldLinkNest "AccessGate" (138 : Nat) "AccessGate$Ask" "where" "LAccessGate$Machine;" "AccessGate" ∈ lw_tbl := List.mem_of_getElem? (i := 510) rfl
set_option maxRecDepth 100000 in
theorem kw466 : Jvm.Cond.fieldLink "AccessGate$Ask" (26 : Nat) "AccessGate$Ask" "minutes" "I" ∈ lw_tbl := List.mem_of_getElem? (i := 511) rfl
set_option maxRecDepth 100000 in
theorem kw467 : Jvm.Cond.fieldLinkNest "AccessGate" (150 : Nat) "AccessGate$Ask" "minutes" "I" "AccessGate" ∈ lw_tbl := List.mem_of_getElem? (i := 512) rfl
set_option maxRecDepth 100000 in
theorem kw468 : Jvm.Cond.fieldLink "AccessGate$Ask" (29 : Nat) "AccessGate$Ask" "time" "I" ∈ lw_tbl := List.mem_of_getElem? (i := 513) rfl
set_option maxRecDepth 100000 in
theorem kw469 : Jvm.Cond.fieldLink "AccessGate$Ask" (9 : Nat) "AccessGate$Ask" "firstApprover" "LAccessGate$Person;" ∈ lw_tbl := List.mem_of_getElem? (i := 514) rfl
set_option maxRecDepth 100000 in
theorem kw470 : Jvm.Cond.fieldLinkNest "AccessGate" (132 : Nat) "AccessGate$Ask" "firstApprover" "LAccessGate$Person;" "AccessGate" ∈ lw_tbl := List.mem_of_getElem? (i := 515) rfl
set_option maxRecDepth 100000 in
theorem kw471 : Jvm.Cond.fieldLink "AccessGate$Ask" (15 : Nat) "AccessGate$Ask" "settled" "I" ∈ lw_tbl := List.mem_of_getElem? (i := 516) rfl
set_option maxRecDepth 100000 in
theorem kw472 : Jvm.Cond.fieldLinkNest "AccessGate" (142 : Nat) "AccessGate$Ask" "settled" "I" "AccessGate" ∈ lw_tbl := List.mem_of_getElem? (i := 517) rfl
set_option maxRecDepth 100000 in
theorem kw486 : Jvm.Cond.methodLink "AccessGateLaw" (112 : Nat) ({ cls := "AccessGateLaw", name := "approve", desc := "(LAccessGate;II[J)I" } : Jvm.MethodName) ∈ lw_tbl := List.mem_of_getElem? (i := 531) rfl
set_option maxRecDepth 100000 in
theorem kw487 : Jvm.Cond.static ({ cls := "AccessGateLaw", name := "approve", desc := "(LAccessGate;II[J)I" } : Jvm.MethodName) ∈ lw_tbl := List.mem_of_getElem? (i := 532) rfl
set_option maxRecDepth 100000 in
theorem kw488 : Jvm.Cond.codeWith ({ cls := "AccessGateLaw", name := "approve", desc := "(LAccessGate;II[J)I" } : Jvm.MethodName) method_8_code (5 : Nat) (Option.some Jvm.ClassFile.FieldType.int) [((0 : Nat), (17 : Nat), (20 : Nat), (24 : Nat)), ((0 : Nat), (17 : Nat), (24 : Nat), (15 : Nat))] ∈ lw_tbl := List.mem_of_getElem? (i := 533) rfl
set_option maxRecDepth 100000 in
theorem kw489 : Jvm.Cond.methodLink "AccessGateLaw" (34 : Nat) ({ cls := "AccessGate", name := "approve", desc := "(II)Z" } : Jvm.MethodName) ∈ lw_tbl := List.mem_of_getElem? (i := 534) rfl
set_option maxRecDepth 100000 in
theorem kw490 : Jvm.Cond.instanceMethod ({ cls := "AccessGate", name := "approve", desc := "(II)Z" } : Jvm.MethodName) ∈ lw_tbl := List.mem_of_getElem? (i := 535) rfl
set_option maxRecDepth 100000 in
theorem kw491 : Jvm.Cond.selects "AccessGate" ({ cls := "AccessGate", name := "approve", desc := "(II)Z" } : Jvm.MethodName) ({ cls := "AccessGate", name := "approve", desc := "(II)Z" } : Jvm.MethodName) ∈ lw_tbl := List.mem_of_getElem? (i := 536) rfl
set_option maxRecDepth 100000 in
theorem kw492 : Jvm.Cond.code ({ cls := "AccessGate", name := "approve", desc := "(II)Z" } : Jvm.MethodName) prog_1_method_7_code (5 : Nat) (Option.some Jvm.ClassFile.FieldType.boolean) ∈ lw_tbl := List.mem_of_getElem? (i := 537) rfl
set_option maxRecDepth 100000 in
theorem kw493 : Jvm.Cond.methodLink "AccessGate" (124 : Nat) ({ cls := "AccessGate", name := "askAt", desc := "(I)LAccessGate$Ask;" } : Jvm.MethodName) ∈ lw_tbl := List.mem_of_getElem? (i := 538) rfl
set_option maxRecDepth 100000 in
theorem kw495 : Jvm.Cond.instanceMethod ({ cls := "AccessGate", name := "askAt", desc := "(I)LAccessGate$Ask;" } : Jvm.MethodName) ∈ lw_tbl := List.mem_of_getElem? (i := 540) rfl
set_option maxRecDepth 100000 in
theorem kw496 : Jvm.Cond.code ({ cls := "AccessGate", name := "askAt", desc := "(I)LAccessGate$Ask;" } : Jvm.MethodName) prog_1_method_27_code (2 : Nat) (Option.some (Jvm.ClassFile.FieldType.object "AccessGate$Ask")) ∈ lw_tbl := List.mem_of_getElem? (i := 541) rfl
set_option maxRecDepth 100000 in
theorem kw498 : Jvm.Cond.methodLink "AccessGate" (128 : Nat) ({ cls := "AccessGate", name := "requireMayJudge", desc := "(LAccessGate$Ask;LAccessGate$Person;)V" } : Jvm.MethodName) ∈ lw_tbl := List.mem_of_getElem? (i := 543) rfl
set_option maxRecDepth 100000 in
theorem kw500 : Jvm.Cond.instanceMethod ({ cls := "AccessGate", name := "requireMayJudge", desc := "(LAccessGate$Ask;LAccessGate$Person;)V" } : Jvm.MethodName) ∈ lw_tbl := List.mem_of_getElem? (i := 545) rfl
set_option maxRecDepth 100000 in
theorem kw501 : Jvm.Cond.code ({ cls := "AccessGate", name := "requireMayJudge", desc := "(LAccessGate$Ask;LAccessGate$Person;)V" } : Jvm.MethodName) prog_1_method_35_code (3 : Nat) (Option.none : Option Jvm.ClassFile.FieldType) ∈ lw_tbl := List.mem_of_getElem? (i := 546) rfl
set_option maxRecDepth 100000 in
theorem kw503 : Jvm.Cond.methodLinkNest "AccessGate" (228 : Nat) ({ cls := "AccessGate$Person", name := "mayJudge", desc := "(LAccessGate$Person;LAccessGate$Machine;)Z" } : Jvm.MethodName) "AccessGate" ∈ lw_tbl := List.mem_of_getElem? (i := 548) rfl
set_option maxRecDepth 100000 in
theorem kw505 : Jvm.Cond.instanceMethod ({ cls := "AccessGate$Person", name := "mayJudge", desc := "(LAccessGate$Person;LAccessGate$Machine;)Z" } : Jvm.MethodName) ∈ lw_tbl := List.mem_of_getElem? (i := 550) rfl
set_option maxRecDepth 100000 in
theorem kw506 : Jvm.Cond.code ({ cls := "AccessGate$Person", name := "mayJudge", desc := "(LAccessGate$Person;LAccessGate$Machine;)Z" } : Jvm.MethodName) prog_5_method_4_code (3 : Nat) (Option.some Jvm.ClassFile.FieldType.boolean) ∈ lw_tbl := List.mem_of_getElem? (i := 551) rfl
set_option maxRecDepth 100000 in
theorem kw507 : Jvm.Cond.methodLink "AccessGate$Person" (24 : Nat) ({ cls := "AccessGate$Person", name := "hasLabel", desc := "(I)Z" } : Jvm.MethodName) ∈ lw_tbl := List.mem_of_getElem? (i := 552) rfl
set_option maxRecDepth 100000 in
theorem kw510 : Jvm.Cond.methodLinkNest "AccessGate" (153 : Nat) ({ cls := "AccessGate$Right", name := "<init>", desc := "(LAccessGate$Person;LAccessGate$Machine;II)V" } : Jvm.MethodName) "AccessGate" ∈ lw_tbl := List.mem_of_getElem? (i := 555) rfl
set_option maxRecDepth 100000 in
theorem kw511 : Jvm.Cond.instanceMethod ({ cls := "AccessGate$Right", name := "<init>", desc := "(LAccessGate$Person;LAccessGate$Machine;II)V" } : Jvm.MethodName) ∈ lw_tbl := List.mem_of_getElem? (i := 556) rfl
set_option maxRecDepth 100000 in
theorem kw512 : Jvm.Cond.code ({ cls := "AccessGate$Right", name := "<init>", desc := "(LAccessGate$Person;LAccessGate$Machine;II)V" } : Jvm.MethodName) prog_6_method_1_code (5 : Nat) (Option.none : Option Jvm.ClassFile.FieldType) ∈ lw_tbl := List.mem_of_getElem? (i := 557) rfl
set_option maxRecDepth 100000 in
theorem kw513 : Jvm.Cond.methodLink "AccessGate$Right" (1 : Nat) ({ cls := "java/lang/Object", name := "<init>", desc := "()V" } : Jvm.MethodName) ∈ lw_tbl := List.mem_of_getElem? (i := 558) rfl
set_option maxRecDepth 100000 in
theorem kw514 : Jvm.Cond.fieldLink "AccessGate$Right" (7 : Nat) "AccessGate$Right" "who" "LAccessGate$Person;" ∈ lw_tbl := List.mem_of_getElem? (i := 559) rfl
set_option maxRecDepth 100000 in
theorem kw515 : Jvm.Cond.fieldLinkNest "AccessGate" (291 : Nat) "AccessGate$Right" "who" "LAccessGate$Person;" "AccessGate" ∈ lw_tbl := List.mem_of_getElem? (i := 560) rfl
set_option maxRecDepth 100000 in
theorem kw516 : Jvm.Cond.fieldLink "AccessGate$Right" (13 : Nat) "AccessGate$Right" "where" "LAccessGate$Machine;" ∈ lw_tbl := List.mem_of_getElem? (i := 561) rfl
set_option maxRecDepth 100000 in
theorem kw517 : Jvm.Cond.fieldLinkNest "AccessGate" (292 : Nat) "AccessGate$Right" "where" "LAccessGate$Machine;" "AccessGate" ∈ lw_tbl := List.mem_of_getElem? (i := 562) rfl
set_option maxRecDepth 100000 in
theorem kw518 : Jvm.Cond.fieldLink "AccessGate$Right" (17 : Nat) "AccessGate$Right" "begin" "I" ∈ lw_tbl := List.mem_of_getElem? (i := 563) rfl
set_option maxRecDepth 100000 in
theorem kw519 : Jvm.Cond.fieldLink "AccessGate$Right" (21 : Nat) "AccessGate$Right" "end" "I" ∈ lw_tbl := List.mem_of_getElem? (i := 564) rfl
set_option maxRecDepth 100000 in
theorem kw520 : Jvm.Cond.fieldLinkNest "AccessGate" (296 : Nat) "AccessGate$Right" "end" "I" "AccessGate" ∈ lw_tbl := List.mem_of_getElem? (i := 565) rfl
set_option maxRecDepth 100000 in
theorem kw530 : Jvm.Cond.methodLink "AccessGateLaw" (115 : Nat) ({ cls := "AccessGateLaw", name := "deny", desc := "(LAccessGate;II)I" } : Jvm.MethodName) ∈ lw_tbl := List.mem_of_getElem? (i := 575) rfl
set_option maxRecDepth 100000 in
theorem kw531 : Jvm.Cond.static ({ cls := "AccessGateLaw", name := "deny", desc := "(LAccessGate;II)I" } : Jvm.MethodName) ∈ lw_tbl := List.mem_of_getElem? (i := 576) rfl
set_option maxRecDepth 100000 in
theorem kw532 : Jvm.Cond.codeWith ({ cls := "AccessGateLaw", name := "deny", desc := "(LAccessGate;II)I" } : Jvm.MethodName) method_9_code (4 : Nat) (Option.some Jvm.ClassFile.FieldType.int) [((0 : Nat), (6 : Nat), (9 : Nat), (24 : Nat)), ((0 : Nat), (6 : Nat), (12 : Nat), (15 : Nat))] ∈ lw_tbl := List.mem_of_getElem? (i := 577) rfl
set_option maxRecDepth 100000 in
theorem kw533 : Jvm.Cond.methodLink "AccessGateLaw" (38 : Nat) ({ cls := "AccessGate", name := "deny", desc := "(II)V" } : Jvm.MethodName) ∈ lw_tbl := List.mem_of_getElem? (i := 578) rfl
set_option maxRecDepth 100000 in
theorem kw534 : Jvm.Cond.instanceMethod ({ cls := "AccessGate", name := "deny", desc := "(II)V" } : Jvm.MethodName) ∈ lw_tbl := List.mem_of_getElem? (i := 579) rfl
set_option maxRecDepth 100000 in
theorem kw535 : Jvm.Cond.selects "AccessGate" ({ cls := "AccessGate", name := "deny", desc := "(II)V" } : Jvm.MethodName) ({ cls := "AccessGate", name := "deny", desc := "(II)V" } : Jvm.MethodName) ∈ lw_tbl := List.mem_of_getElem? (i := 580) rfl
set_option maxRecDepth 100000 in
theorem kw536 : Jvm.Cond.code ({ cls := "AccessGate", name := "deny", desc := "(II)V" } : Jvm.MethodName) prog_1_method_8_code (5 : Nat) (Option.none : Option Jvm.ClassFile.FieldType) ∈ lw_tbl := List.mem_of_getElem? (i := 581) rfl
set_option maxRecDepth 100000 in
theorem kw537 : Jvm.Cond.methodLink "AccessGateLaw" (119 : Nat) ({ cls := "AccessGateLaw", name := "askState", desc := "(LAccessGate;I[J)I" } : Jvm.MethodName) ∈ lw_tbl := List.mem_of_getElem? (i := 582) rfl
set_option maxRecDepth 100000 in
theorem kw538 : Jvm.Cond.static ({ cls := "AccessGateLaw", name := "askState", desc := "(LAccessGate;I[J)I" } : Jvm.MethodName) ∈ lw_tbl := List.mem_of_getElem? (i := 583) rfl
set_option maxRecDepth 100000 in
theorem kw539 : Jvm.Cond.codeWith ({ cls := "AccessGateLaw", name := "askState", desc := "(LAccessGate;I[J)I" } : Jvm.MethodName) method_10_code (4 : Nat) (Option.some Jvm.ClassFile.FieldType.int) [((0 : Nat), (9 : Nat), (12 : Nat), (24 : Nat))] ∈ lw_tbl := List.mem_of_getElem? (i := 584) rfl
set_option maxRecDepth 100000 in
theorem kw540 : Jvm.Cond.methodLink "AccessGateLaw" (42 : Nat) ({ cls := "AccessGate", name := "askState", desc := "(I)I" } : Jvm.MethodName) ∈ lw_tbl := List.mem_of_getElem? (i := 585) rfl
set_option maxRecDepth 100000 in
theorem kw541 : Jvm.Cond.instanceMethod ({ cls := "AccessGate", name := "askState", desc := "(I)I" } : Jvm.MethodName) ∈ lw_tbl := List.mem_of_getElem? (i := 586) rfl
set_option maxRecDepth 100000 in
theorem kw542 : Jvm.Cond.selects "AccessGate" ({ cls := "AccessGate", name := "askState", desc := "(I)I" } : Jvm.MethodName) ({ cls := "AccessGate", name := "askState", desc := "(I)I" } : Jvm.MethodName) ∈ lw_tbl := List.mem_of_getElem? (i := 587) rfl
set_option maxRecDepth 100000 in
theorem kw543 : Jvm.Cond.code ({ cls := "AccessGate", name := "askState", desc := "(I)I" } : Jvm.MethodName) prog_1_method_9_code (2 : Nat) (Option.some Jvm.ClassFile.FieldType.int) ∈ lw_tbl := List.mem_of_getElem? (i := 588) rfl
set_option maxRecDepth 100000 in
theorem kw544 : Jvm.Cond.methodLink "AccessGateLaw" (122 : Nat) ({ cls := "AccessGateLaw", name := "enter", desc := "(LAccessGate;II[J)I" } : Jvm.MethodName) ∈ lw_tbl := List.mem_of_getElem? (i := 589) rfl
set_option maxRecDepth 100000 in
theorem kw545 : Jvm.Cond.static ({ cls := "AccessGateLaw", name := "enter", desc := "(LAccessGate;II[J)I" } : Jvm.MethodName) ∈ lw_tbl := List.mem_of_getElem? (i := 590) rfl
set_option maxRecDepth 100000 in
theorem kw546 : Jvm.Cond.codeWith ({ cls := "AccessGateLaw", name := "enter", desc := "(LAccessGate;II[J)I" } : Jvm.MethodName) method_11_code (5 : Nat) (Option.some Jvm.ClassFile.FieldType.int) [((0 : Nat), (10 : Nat), (13 : Nat), (24 : Nat)), ((0 : Nat), (10 : Nat), (17 : Nat), (15 : Nat))] ∈ lw_tbl := List.mem_of_getElem? (i := 591) rfl
set_option maxRecDepth 100000 in
theorem kw547 : Jvm.Cond.methodLink "AccessGateLaw" (45 : Nat) ({ cls := "AccessGate", name := "enter", desc := "(II)I" } : Jvm.MethodName) ∈ lw_tbl := List.mem_of_getElem? (i := 592) rfl
set_option maxRecDepth 100000 in
theorem kw548 : Jvm.Cond.instanceMethod ({ cls := "AccessGate", name := "enter", desc := "(II)I" } : Jvm.MethodName) ∈ lw_tbl := List.mem_of_getElem? (i := 593) rfl
set_option maxRecDepth 100000 in
theorem kw549 : Jvm.Cond.selects "AccessGate" ({ cls := "AccessGate", name := "enter", desc := "(II)I" } : Jvm.MethodName) ({ cls := "AccessGate", name := "enter", desc := "(II)I" } : Jvm.MethodName) ∈ lw_tbl := List.mem_of_getElem? (i := 594) rfl
set_option maxRecDepth 100000 in
theorem kw550 : Jvm.Cond.code ({ cls := "AccessGate", name := "enter", desc := "(II)I" } : Jvm.MethodName) prog_1_method_10_code (6 : Nat) (Option.some Jvm.ClassFile.FieldType.int) ∈ lw_tbl := List.mem_of_getElem? (i := 595) rfl
set_option maxRecDepth 100000 in
theorem kw551 : Jvm.Cond.methodLinkNest "AccessGate" (160 : Nat) ({ cls := "AccessGate$Entry", name := "<init>", desc := "(LAccessGate$Person;LAccessGate$Machine;I)V" } : Jvm.MethodName) "AccessGate" ∈ lw_tbl := List.mem_of_getElem? (i := 596) rfl
set_option maxRecDepth 100000 in
theorem kw552 : Jvm.Cond.instanceMethod ({ cls := "AccessGate$Entry", name := "<init>", desc := "(LAccessGate$Person;LAccessGate$Machine;I)V" } : Jvm.MethodName) ∈ lw_tbl := List.mem_of_getElem? (i := 597) rfl
set_option maxRecDepth 100000 in
theorem kw553 : Jvm.Cond.code ({ cls := "AccessGate$Entry", name := "<init>", desc := "(LAccessGate$Person;LAccessGate$Machine;I)V" } : Jvm.MethodName) prog_3_method_1_code (4 : Nat) (Option.none : Option Jvm.ClassFile.FieldType) ∈ lw_tbl := List.mem_of_getElem? (i := 598) rfl
set_option maxRecDepth 100000 in
theorem kw554 : Jvm.Cond.methodLink "AccessGate$Entry" (3 : Nat) ({ cls := "java/lang/Object", name := "<init>", desc := "()V" } : Jvm.MethodName) ∈ lw_tbl := List.mem_of_getElem? (i := 599) rfl
set_option maxRecDepth 100000 in
theorem kw555 : Jvm.Cond.fieldLink "AccessGate$Entry" (15 : Nat) "AccessGate$Entry" "who" "LAccessGate$Person;" ∈ lw_tbl := List.mem_of_getElem? (i := 600) rfl
set_option maxRecDepth 100000 in
theorem kw556 : Jvm.Cond.fieldLinkNest "AccessGate" (176 : Nat) "AccessGate$Entry" "who" "LAccessGate$Person;" "AccessGate" ∈ lw_tbl := List.mem_of_getElem? (i := 601) rfl
set_option maxRecDepth 100000 in
theorem kw557 : Jvm.Cond.fieldLink "AccessGate$Entry" (19 : Nat) "AccessGate$Entry" "where" "LAccessGate$Machine;" ∈ lw_tbl := List.mem_of_getElem? (i := 602) rfl
set_option maxRecDepth 100000 in
theorem kw558 : Jvm.Cond.fieldLinkNest "AccessGate" (179 : Nat) "AccessGate$Entry" "where" "LAccessGate$Machine;" "AccessGate" ∈ lw_tbl := List.mem_of_getElem? (i := 603) rfl
set_option maxRecDepth 100000 in
theorem kw559 : Jvm.Cond.fieldLink "AccessGate$Entry" (23 : Nat) "AccessGate$Entry" "time" "I" ∈ lw_tbl := List.mem_of_getElem? (i := 604) rfl
set_option maxRecDepth 100000 in
theorem kw560 : Jvm.Cond.fieldLinkNest "AccessGate" (180 : Nat) "AccessGate$Entry" "time" "I" "AccessGate" ∈ lw_tbl := List.mem_of_getElem? (i := 605) rfl
set_option maxRecDepth 100000 in
theorem kw561 : Jvm.Cond.fieldLink "AccessGate$Entry" (9 : Nat) "AccessGate$Entry" "lookedAt" "Z" ∈ lw_tbl := List.mem_of_getElem? (i := 606) rfl
set_option maxRecDepth 100000 in
theorem kw562 : Jvm.Cond.fieldLinkNest "AccessGate" (167 : Nat) "AccessGate$Entry" "lookedAt" "Z" "AccessGate" ∈ lw_tbl := List.mem_of_getElem? (i := 607) rfl
set_option maxRecDepth 100000 in
theorem kw572 : Jvm.Cond.methodLink "AccessGateLaw" (125 : Nat) ({ cls := "AccessGateLaw", name := "lookAt", desc := "(LAccessGate;II[J)I" } : Jvm.MethodName) ∈ lw_tbl := List.mem_of_getElem? (i := 617) rfl
set_option maxRecDepth 100000 in
theorem kw573 : Jvm.Cond.static ({ cls := "AccessGateLaw", name := "lookAt", desc := "(LAccessGate;II[J)I" } : Jvm.MethodName) ∈ lw_tbl := List.mem_of_getElem? (i := 618) rfl
set_option maxRecDepth 100000 in
theorem kw574 : Jvm.Cond.codeWith ({ cls := "AccessGateLaw", name := "lookAt", desc := "(LAccessGate;II[J)I" } : Jvm.MethodName) method_12_code (5 : Nat) (Option.some Jvm.ClassFile.FieldType.int) [((0 : Nat), (10 : Nat), (13 : Nat), (24 : Nat)), ((0 : Nat), (10 : Nat), (17 : Nat), (15 : Nat))] ∈ lw_tbl := List.mem_of_getElem? (i := 619) rfl
set_option maxRecDepth 100000 in
theorem kw575 : Jvm.Cond.methodLink "AccessGateLaw" (48 : Nat) ({ cls := "AccessGate", name := "lookAt", desc := "(II)I" } : Jvm.MethodName) ∈ lw_tbl := List.mem_of_getElem? (i := 620) rfl
set_option maxRecDepth 100000 in
theorem kw576 : Jvm.Cond.instanceMethod ({ cls := "AccessGate", name := "lookAt", desc := "(II)I" } : Jvm.MethodName) ∈ lw_tbl := List.mem_of_getElem? (i := 621) rfl
set_option maxRecDepth 100000 in
theorem kw577 : Jvm.Cond.selects "AccessGate" ({ cls := "AccessGate", name := "lookAt", desc := "(II)I" } : Jvm.MethodName) ({ cls := "AccessGate", name := "lookAt", desc := "(II)I" } : Jvm.MethodName) ∈ lw_tbl := List.mem_of_getElem? (i := 622) rfl
set_option maxRecDepth 100000 in
theorem kw578 : Jvm.Cond.code ({ cls := "AccessGate", name := "lookAt", desc := "(II)I" } : Jvm.MethodName) prog_1_method_11_code (5 : Nat) (Option.some Jvm.ClassFile.FieldType.int) ∈ lw_tbl := List.mem_of_getElem? (i := 623) rfl
set_option maxRecDepth 100000 in
theorem kw579 : Jvm.Cond.methodLink "AccessGate" (163 : Nat) ({ cls := "AccessGate", name := "entryAt", desc := "(I)LAccessGate$Entry;" } : Jvm.MethodName) ∈ lw_tbl := List.mem_of_getElem? (i := 624) rfl
set_option maxRecDepth 100000 in
theorem kw581 : Jvm.Cond.instanceMethod ({ cls := "AccessGate", name := "entryAt", desc := "(I)LAccessGate$Entry;" } : Jvm.MethodName) ∈ lw_tbl := List.mem_of_getElem? (i := 626) rfl
set_option maxRecDepth 100000 in
theorem kw582 : Jvm.Cond.code ({ cls := "AccessGate", name := "entryAt", desc := "(I)LAccessGate$Entry;" } : Jvm.MethodName) prog_1_method_28_code (2 : Nat) (Option.some (Jvm.ClassFile.FieldType.object "AccessGate$Entry")) ∈ lw_tbl := List.mem_of_getElem? (i := 627) rfl
set_option maxRecDepth 100000 in
theorem kw586 : Jvm.Cond.methodLink "AccessGateLaw" (128 : Nat) ({ cls := "AccessGateLaw", name := "overdue", desc := "(LAccessGate;I[J)I" } : Jvm.MethodName) ∈ lw_tbl := List.mem_of_getElem? (i := 631) rfl
set_option maxRecDepth 100000 in
theorem kw587 : Jvm.Cond.static ({ cls := "AccessGateLaw", name := "overdue", desc := "(LAccessGate;I[J)I" } : Jvm.MethodName) ∈ lw_tbl := List.mem_of_getElem? (i := 632) rfl
set_option maxRecDepth 100000 in
theorem kw588 : Jvm.Cond.codeWith ({ cls := "AccessGateLaw", name := "overdue", desc := "(LAccessGate;I[J)I" } : Jvm.MethodName) method_13_code (4 : Nat) (Option.some Jvm.ClassFile.FieldType.int) [((0 : Nat), (9 : Nat), (12 : Nat), (24 : Nat))] ∈ lw_tbl := List.mem_of_getElem? (i := 633) rfl
set_option maxRecDepth 100000 in
theorem kw589 : Jvm.Cond.methodLink "AccessGateLaw" (51 : Nat) ({ cls := "AccessGate", name := "overdue", desc := "(I)I" } : Jvm.MethodName) ∈ lw_tbl := List.mem_of_getElem? (i := 634) rfl
set_option maxRecDepth 100000 in
theorem kw590 : Jvm.Cond.instanceMethod ({ cls := "AccessGate", name := "overdue", desc := "(I)I" } : Jvm.MethodName) ∈ lw_tbl := List.mem_of_getElem? (i := 635) rfl
set_option maxRecDepth 100000 in
theorem kw591 : Jvm.Cond.selects "AccessGate" ({ cls := "AccessGate", name := "overdue", desc := "(I)I" } : Jvm.MethodName) ({ cls := "AccessGate", name := "overdue", desc := "(I)I" } : Jvm.MethodName) ∈ lw_tbl := List.mem_of_getElem? (i := 636) rfl
set_option maxRecDepth 100000 in
theorem kw592 : Jvm.Cond.code ({ cls := "AccessGate", name := "overdue", desc := "(I)I" } : Jvm.MethodName) prog_1_method_12_code (2 : Nat) (Option.some Jvm.ClassFile.FieldType.int) ∈ lw_tbl := List.mem_of_getElem? (i := 637) rfl
set_option maxRecDepth 100000 in
theorem kw593 : Jvm.Cond.methodLink "AccessGateLaw" (131 : Nat) ({ cls := "AccessGateLaw", name := "couldEnter", desc := "(LAccessGate;III[J)I" } : Jvm.MethodName) ∈ lw_tbl := List.mem_of_getElem? (i := 638) rfl
set_option maxRecDepth 100000 in
theorem kw594 : Jvm.Cond.static ({ cls := "AccessGateLaw", name := "couldEnter", desc := "(LAccessGate;III[J)I" } : Jvm.MethodName) ∈ lw_tbl := List.mem_of_getElem? (i := 639) rfl
set_option maxRecDepth 100000 in
theorem kw595 : Jvm.Cond.codeWith ({ cls := "AccessGateLaw", name := "couldEnter", desc := "(LAccessGate;III[J)I" } : Jvm.MethodName) method_14_code (6 : Nat) (Option.some Jvm.ClassFile.FieldType.int) [((0 : Nat), (19 : Nat), (22 : Nat), (24 : Nat)), ((0 : Nat), (19 : Nat), (26 : Nat), (13 : Nat))] ∈ lw_tbl := List.mem_of_getElem? (i := 640) rfl
set_option maxRecDepth 100000 in
theorem kw596 : Jvm.Cond.methodLink "AccessGateLaw" (54 : Nat) ({ cls := "AccessGate", name := "couldEnter", desc := "(III)Z" } : Jvm.MethodName) ∈ lw_tbl := List.mem_of_getElem? (i := 641) rfl
set_option maxRecDepth 100000 in
theorem kw597 : Jvm.Cond.instanceMethod ({ cls := "AccessGate", name := "couldEnter", desc := "(III)Z" } : Jvm.MethodName) ∈ lw_tbl := List.mem_of_getElem? (i := 642) rfl
set_option maxRecDepth 100000 in
theorem kw598 : Jvm.Cond.selects "AccessGate" ({ cls := "AccessGate", name := "couldEnter", desc := "(III)Z" } : Jvm.MethodName) ({ cls := "AccessGate", name := "couldEnter", desc := "(III)Z" } : Jvm.MethodName) ∈ lw_tbl := List.mem_of_getElem? (i := 643) rfl
set_option maxRecDepth 100000 in
theorem kw599 : Jvm.Cond.code ({ cls := "AccessGate", name := "couldEnter", desc := "(III)Z" } : Jvm.MethodName) prog_1_method_13_code (6 : Nat) (Option.some Jvm.ClassFile.FieldType.boolean) ∈ lw_tbl := List.mem_of_getElem? (i := 644) rfl
set_option maxRecDepth 100000 in
theorem kw600 : Jvm.Cond.constant "AccessGate" (187 : Nat) (100000 : Int32) ∈ lw_tbl := List.mem_of_getElem? (i := 645) rfl
set_option maxRecDepth 100000 in
theorem kw602 : Jvm.Cond.methodLink "AccessGateLaw" (134 : Nat) ({ cls := "AccessGateLaw", name := "open", desc := "(LAccessGate;II[J)I" } : Jvm.MethodName) ∈ lw_tbl := List.mem_of_getElem? (i := 647) rfl
set_option maxRecDepth 100000 in
theorem kw603 : Jvm.Cond.static ({ cls := "AccessGateLaw", name := "open", desc := "(LAccessGate;II[J)I" } : Jvm.MethodName) ∈ lw_tbl := List.mem_of_getElem? (i := 648) rfl
set_option maxRecDepth 100000 in
theorem kw604 : Jvm.Cond.codeWith ({ cls := "AccessGateLaw", name := "open", desc := "(LAccessGate;II[J)I" } : Jvm.MethodName) method_15_code (5 : Nat) (Option.some Jvm.ClassFile.FieldType.int) [((0 : Nat), (10 : Nat), (13 : Nat), (24 : Nat)), ((0 : Nat), (10 : Nat), (17 : Nat), (15 : Nat))] ∈ lw_tbl := List.mem_of_getElem? (i := 649) rfl
set_option maxRecDepth 100000 in
theorem kw605 : Jvm.Cond.methodLink "AccessGateLaw" (58 : Nat) ({ cls := "AccessGate", name := "open", desc := "(II)I" } : Jvm.MethodName) ∈ lw_tbl := List.mem_of_getElem? (i := 650) rfl
set_option maxRecDepth 100000 in
theorem kw606 : Jvm.Cond.instanceMethod ({ cls := "AccessGate", name := "open", desc := "(II)I" } : Jvm.MethodName) ∈ lw_tbl := List.mem_of_getElem? (i := 651) rfl
set_option maxRecDepth 100000 in
theorem kw607 : Jvm.Cond.selects "AccessGate" ({ cls := "AccessGate", name := "open", desc := "(II)I" } : Jvm.MethodName) ({ cls := "AccessGate", name := "open", desc := "(II)I" } : Jvm.MethodName) ∈ lw_tbl := List.mem_of_getElem? (i := 652) rfl
set_option maxRecDepth 100000 in
theorem kw608 : Jvm.Cond.code ({ cls := "AccessGate", name := "open", desc := "(II)I" } : Jvm.MethodName) prog_1_method_14_code (6 : Nat) (Option.some Jvm.ClassFile.FieldType.int) ∈ lw_tbl := List.mem_of_getElem? (i := 653) rfl
set_option maxRecDepth 100000 in
theorem kw610 : Jvm.Cond.methodLinkNest "AccessGate" (198 : Nat) ({ cls := "AccessGate$Session", name := "<init>", desc := "(LAccessGate$Person;LAccessGate$Machine;I)V" } : Jvm.MethodName) "AccessGate" ∈ lw_tbl := List.mem_of_getElem? (i := 655) rfl
set_option maxRecDepth 100000 in
theorem kw611 : Jvm.Cond.instanceMethod ({ cls := "AccessGate$Session", name := "<init>", desc := "(LAccessGate$Person;LAccessGate$Machine;I)V" } : Jvm.MethodName) ∈ lw_tbl := List.mem_of_getElem? (i := 656) rfl
set_option maxRecDepth 100000 in
theorem kw612 : Jvm.Cond.code ({ cls := "AccessGate$Session", name := "<init>", desc := "(LAccessGate$Person;LAccessGate$Machine;I)V" } : Jvm.MethodName) prog_7_method_1_code (4 : Nat) (Option.none : Option Jvm.ClassFile.FieldType) ∈ lw_tbl := List.mem_of_getElem? (i := 657) rfl
set_option maxRecDepth 100000 in
theorem kw613 : Jvm.Cond.methodLink "AccessGate$Session" (3 : Nat) ({ cls := "java/lang/Object", name := "<init>", desc := "()V" } : Jvm.MethodName) ∈ lw_tbl := List.mem_of_getElem? (i := 658) rfl
set_option maxRecDepth 100000 in
theorem kw614 : Jvm.Cond.fieldLink "AccessGate$Session" (22 : Nat) "AccessGate$Session" "who" "LAccessGate$Person;" ∈ lw_tbl := List.mem_of_getElem? (i := 659) rfl
set_option maxRecDepth 100000 in
theorem kw615 : Jvm.Cond.fieldLinkNest "AccessGate" (215 : Nat) "AccessGate$Session" "who" "LAccessGate$Person;" "AccessGate" ∈ lw_tbl := List.mem_of_getElem? (i := 660) rfl
set_option maxRecDepth 100000 in
theorem kw616 : Jvm.Cond.fieldLink "AccessGate$Session" (26 : Nat) "AccessGate$Session" "where" "LAccessGate$Machine;" ∈ lw_tbl := List.mem_of_getElem? (i := 661) rfl
set_option maxRecDepth 100000 in
theorem kw617 : Jvm.Cond.fieldLinkNest "AccessGate" (216 : Nat) "AccessGate$Session" "where" "LAccessGate$Machine;" "AccessGate" ∈ lw_tbl := List.mem_of_getElem? (i := 662) rfl
set_option maxRecDepth 100000 in
theorem kw618 : Jvm.Cond.fieldLink "AccessGate$Session" (9 : Nat) "AccessGate$Session" "closed" "Z" ∈ lw_tbl := List.mem_of_getElem? (i := 663) rfl
set_option maxRecDepth 100000 in
theorem kw619 : Jvm.Cond.fieldLinkNest "AccessGate" (237 : Nat) "AccessGate$Session" "closed" "Z" "AccessGate" ∈ lw_tbl := List.mem_of_getElem? (i := 664) rfl
set_option maxRecDepth 100000 in
theorem kw620 : Jvm.Cond.fieldLink "AccessGate$Session" (30 : Nat) "AccessGate$Session" "lastLine" "I" ∈ lw_tbl := List.mem_of_getElem? (i := 665) rfl
set_option maxRecDepth 100000 in
theorem kw621 : Jvm.Cond.fieldLinkNest "AccessGate" (217 : Nat) "AccessGate$Session" "lastLine" "I" "AccessGate" ∈ lw_tbl := List.mem_of_getElem? (i := 666) rfl
set_option maxRecDepth 100000 in
theorem kw622 : Jvm.Cond.fieldLink "AccessGate$Session" (15 : Nat) "AccessGate$Session" "heldSince" "I" ∈ lw_tbl := List.mem_of_getElem? (i := 667) rfl
set_option maxRecDepth 100000 in
theorem kw623 : Jvm.Cond.fieldLinkNest "AccessGate" (223 : Nat) "AccessGate$Session" "heldSince" "I" "AccessGate" ∈ lw_tbl := List.mem_of_getElem? (i := 668) rfl
set_option maxRecDepth 100000 in
theorem kw624 : Jvm.Cond.fieldLink "AccessGate$Session" (19 : Nat) "AccessGate$Session" "linesLetThrough" "I" ∈ lw_tbl := List.mem_of_getElem? (i := 669) rfl
set_option maxRecDepth 100000 in
theorem kw625 : Jvm.Cond.fieldLinkNest "AccessGate" (220 : Nat) "AccessGate$Session" "linesLetThrough" "I" "AccessGate" ∈ lw_tbl := List.mem_of_getElem? (i := 670) rfl
set_option maxRecDepth 100000 in
theorem kw639 : Jvm.Cond.methodLink "AccessGateLaw" (137 : Nat) ({ cls := "AccessGateLaw", name := "type", desc := "(LAccessGate;II[J)I" } : Jvm.MethodName) ∈ lw_tbl := List.mem_of_getElem? (i := 684) rfl
set_option maxRecDepth 100000 in
theorem kw640 : Jvm.Cond.static ({ cls := "AccessGateLaw", name := "type", desc := "(LAccessGate;II[J)I" } : Jvm.MethodName) ∈ lw_tbl := List.mem_of_getElem? (i := 685) rfl
set_option maxRecDepth 100000 in
theorem kw641 : Jvm.Cond.codeWith ({ cls := "AccessGateLaw", name := "type", desc := "(LAccessGate;II[J)I" } : Jvm.MethodName) method_16_code (5 : Nat) (Option.some Jvm.ClassFile.FieldType.int) [((0 : Nat), (17 : Nat), (20 : Nat), (24 : Nat)), ((0 : Nat), (17 : Nat), (24 : Nat), (13 : Nat)), ((0 : Nat), (17 : Nat), (28 : Nat), (15 : Nat))] ∈ lw_tbl := List.mem_of_getElem? (i := 686) rfl
set_option maxRecDepth 100000 in
theorem kw642 : Jvm.Cond.methodLink "AccessGateLaw" (61 : Nat) ({ cls := "AccessGate", name := "type", desc := "(II)Z" } : Jvm.MethodName) ∈ lw_tbl := List.mem_of_getElem? (i := 687) rfl
set_option maxRecDepth 100000 in
theorem kw643 : Jvm.Cond.instanceMethod ({ cls := "AccessGate", name := "type", desc := "(II)Z" } : Jvm.MethodName) ∈ lw_tbl := List.mem_of_getElem? (i := 688) rfl
set_option maxRecDepth 100000 in
theorem kw644 : Jvm.Cond.selects "AccessGate" ({ cls := "AccessGate", name := "type", desc := "(II)Z" } : Jvm.MethodName) ({ cls := "AccessGate", name := "type", desc := "(II)Z" } : Jvm.MethodName) ∈ lw_tbl := List.mem_of_getElem? (i := 689) rfl
set_option maxRecDepth 100000 in
theorem kw645 : Jvm.Cond.code ({ cls := "AccessGate", name := "type", desc := "(II)Z" } : Jvm.MethodName) prog_1_method_15_code (4 : Nat) (Option.some Jvm.ClassFile.FieldType.boolean) ∈ lw_tbl := List.mem_of_getElem? (i := 690) rfl
set_option maxRecDepth 100000 in
theorem kw646 : Jvm.Cond.methodLink "AccessGate" (199 : Nat) ({ cls := "AccessGate", name := "sessionAt", desc := "(I)LAccessGate$Session;" } : Jvm.MethodName) ∈ lw_tbl := List.mem_of_getElem? (i := 691) rfl
set_option maxRecDepth 100000 in
theorem kw648 : Jvm.Cond.instanceMethod ({ cls := "AccessGate", name := "sessionAt", desc := "(I)LAccessGate$Session;" } : Jvm.MethodName) ∈ lw_tbl := List.mem_of_getElem? (i := 693) rfl
set_option maxRecDepth 100000 in
theorem kw649 : Jvm.Cond.code ({ cls := "AccessGate", name := "sessionAt", desc := "(I)LAccessGate$Session;" } : Jvm.MethodName) prog_1_method_29_code (2 : Nat) (Option.some (Jvm.ClassFile.FieldType.object "AccessGate$Session")) ∈ lw_tbl := List.mem_of_getElem? (i := 694) rfl
set_option maxRecDepth 100000 in
theorem kw652 : Jvm.Cond.methodLink "AccessGate" (205 : Nat) ({ cls := "AccessGate", name := "requireOpen", desc := "(LAccessGate$Session;)V" } : Jvm.MethodName) ∈ lw_tbl := List.mem_of_getElem? (i := 697) rfl
set_option maxRecDepth 100000 in
theorem kw653 : Jvm.Cond.static ({ cls := "AccessGate", name := "requireOpen", desc := "(LAccessGate$Session;)V" } : Jvm.MethodName) ∈ lw_tbl := List.mem_of_getElem? (i := 698) rfl
set_option maxRecDepth 100000 in
theorem kw654 : Jvm.Cond.code ({ cls := "AccessGate", name := "requireOpen", desc := "(LAccessGate$Session;)V" } : Jvm.MethodName) prog_1_method_33_code (1 : Nat) (Option.none : Option Jvm.ClassFile.FieldType) ∈ lw_tbl := List.mem_of_getElem? (i := 699) rfl
set_option maxRecDepth 100000 in
theorem kw656 : Jvm.Cond.methodLinkNest "AccessGate" (209 : Nat) ({ cls := "AccessGate$Session", name := "holdsLine", desc := "()Z" } : Jvm.MethodName) "AccessGate" ∈ lw_tbl := List.mem_of_getElem? (i := 701) rfl
set_option maxRecDepth 100000 in
theorem kw658 : Jvm.Cond.instanceMethod ({ cls := "AccessGate$Session", name := "holdsLine", desc := "()Z" } : Jvm.MethodName) ∈ lw_tbl := List.mem_of_getElem? (i := 703) rfl
set_option maxRecDepth 100000 in
theorem kw659 : Jvm.Cond.code ({ cls := "AccessGate$Session", name := "holdsLine", desc := "()Z" } : Jvm.MethodName) prog_7_method_2_code (1 : Nat) (Option.some Jvm.ClassFile.FieldType.boolean) ∈ lw_tbl := List.mem_of_getElem? (i := 704) rfl
set_option maxRecDepth 100000 in
theorem kw661 : Jvm.Cond.methodLink "AccessGateLaw" (140 : Nat) ({ cls := "AccessGateLaw", name := "letThrough", desc := "(LAccessGate;II[J)I" } : Jvm.MethodName) ∈ lw_tbl := List.mem_of_getElem? (i := 706) rfl
set_option maxRecDepth 100000 in
theorem kw662 : Jvm.Cond.static ({ cls := "AccessGateLaw", name := "letThrough", desc := "(LAccessGate;II[J)I" } : Jvm.MethodName) ∈ lw_tbl := List.mem_of_getElem? (i := 707) rfl
set_option maxRecDepth 100000 in
theorem kw663 : Jvm.Cond.codeWith ({ cls := "AccessGateLaw", name := "letThrough", desc := "(LAccessGate;II[J)I" } : Jvm.MethodName) method_17_code (5 : Nat) (Option.some Jvm.ClassFile.FieldType.int) [((0 : Nat), (10 : Nat), (13 : Nat), (24 : Nat)), ((0 : Nat), (10 : Nat), (17 : Nat), (15 : Nat))] ∈ lw_tbl := List.mem_of_getElem? (i := 708) rfl
set_option maxRecDepth 100000 in
theorem kw664 : Jvm.Cond.methodLink "AccessGateLaw" (64 : Nat) ({ cls := "AccessGate", name := "letThrough", desc := "(II)I" } : Jvm.MethodName) ∈ lw_tbl := List.mem_of_getElem? (i := 709) rfl
set_option maxRecDepth 100000 in
theorem kw665 : Jvm.Cond.instanceMethod ({ cls := "AccessGate", name := "letThrough", desc := "(II)I" } : Jvm.MethodName) ∈ lw_tbl := List.mem_of_getElem? (i := 710) rfl
set_option maxRecDepth 100000 in
theorem kw666 : Jvm.Cond.selects "AccessGate" ({ cls := "AccessGate", name := "letThrough", desc := "(II)I" } : Jvm.MethodName) ({ cls := "AccessGate", name := "letThrough", desc := "(II)I" } : Jvm.MethodName) ∈ lw_tbl := List.mem_of_getElem? (i := 711) rfl
set_option maxRecDepth 100000 in
theorem kw667 : Jvm.Cond.code ({ cls := "AccessGate", name := "letThrough", desc := "(II)I" } : Jvm.MethodName) prog_1_method_16_code (6 : Nat) (Option.some Jvm.ClassFile.FieldType.int) ∈ lw_tbl := List.mem_of_getElem? (i := 712) rfl
set_option maxRecDepth 100000 in
theorem kw670 : Jvm.Cond.methodLink "AccessGateLaw" (143 : Nat) ({ cls := "AccessGateLaw", name := "close", desc := "(LAccessGate;I[J)I" } : Jvm.MethodName) ∈ lw_tbl := List.mem_of_getElem? (i := 715) rfl
set_option maxRecDepth 100000 in
theorem kw671 : Jvm.Cond.static ({ cls := "AccessGateLaw", name := "close", desc := "(LAccessGate;I[J)I" } : Jvm.MethodName) ∈ lw_tbl := List.mem_of_getElem? (i := 716) rfl
set_option maxRecDepth 100000 in
theorem kw672 : Jvm.Cond.codeWith ({ cls := "AccessGateLaw", name := "close", desc := "(LAccessGate;I[J)I" } : Jvm.MethodName) method_18_code (4 : Nat) (Option.some Jvm.ClassFile.FieldType.int) [((0 : Nat), (9 : Nat), (12 : Nat), (24 : Nat)), ((0 : Nat), (9 : Nat), (15 : Nat), (15 : Nat))] ∈ lw_tbl := List.mem_of_getElem? (i := 717) rfl
set_option maxRecDepth 100000 in
theorem kw673 : Jvm.Cond.methodLink "AccessGateLaw" (67 : Nat) ({ cls := "AccessGate", name := "close", desc := "(I)I" } : Jvm.MethodName) ∈ lw_tbl := List.mem_of_getElem? (i := 718) rfl
set_option maxRecDepth 100000 in
theorem kw674 : Jvm.Cond.instanceMethod ({ cls := "AccessGate", name := "close", desc := "(I)I" } : Jvm.MethodName) ∈ lw_tbl := List.mem_of_getElem? (i := 719) rfl
set_option maxRecDepth 100000 in
theorem kw675 : Jvm.Cond.selects "AccessGate" ({ cls := "AccessGate", name := "close", desc := "(I)I" } : Jvm.MethodName) ({ cls := "AccessGate", name := "close", desc := "(I)I" } : Jvm.MethodName) ∈ lw_tbl := List.mem_of_getElem? (i := 720) rfl
set_option maxRecDepth 100000 in
theorem kw676 : Jvm.Cond.code ({ cls := "AccessGate", name := "close", desc := "(I)I" } : Jvm.MethodName) prog_1_method_17_code (3 : Nat) (Option.some Jvm.ClassFile.FieldType.int) ∈ lw_tbl := List.mem_of_getElem? (i := 721) rfl
set_option maxRecDepth 100000 in
theorem kw677 : Jvm.Cond.methodLink "AccessGateLaw" (146 : Nat) ({ cls := "AccessGateLaw", name := "isOpen", desc := "(LAccessGate;I[J)I" } : Jvm.MethodName) ∈ lw_tbl := List.mem_of_getElem? (i := 722) rfl
set_option maxRecDepth 100000 in
theorem kw678 : Jvm.Cond.static ({ cls := "AccessGateLaw", name := "isOpen", desc := "(LAccessGate;I[J)I" } : Jvm.MethodName) ∈ lw_tbl := List.mem_of_getElem? (i := 723) rfl
set_option maxRecDepth 100000 in
theorem kw679 : Jvm.Cond.codeWith ({ cls := "AccessGateLaw", name := "isOpen", desc := "(LAccessGate;I[J)I" } : Jvm.MethodName) method_19_code (4 : Nat) (Option.some Jvm.ClassFile.FieldType.int) [((0 : Nat), (16 : Nat), (19 : Nat), (24 : Nat))] ∈ lw_tbl := List.mem_of_getElem? (i := 724) rfl
set_option maxRecDepth 100000 in
theorem kw680 : Jvm.Cond.methodLink "AccessGateLaw" (70 : Nat) ({ cls := "AccessGate", name := "isOpen", desc := "(I)Z" } : Jvm.MethodName) ∈ lw_tbl := List.mem_of_getElem? (i := 725) rfl
set_option maxRecDepth 100000 in
theorem kw681 : Jvm.Cond.instanceMethod ({ cls := "AccessGate", name := "isOpen", desc := "(I)Z" } : Jvm.MethodName) ∈ lw_tbl := List.mem_of_getElem? (i := 726) rfl
set_option maxRecDepth 100000 in
theorem kw682 : Jvm.Cond.selects "AccessGate" ({ cls := "AccessGate", name := "isOpen", desc := "(I)Z" } : Jvm.MethodName) ({ cls := "AccessGate", name := "isOpen", desc := "(I)Z" } : Jvm.MethodName) ∈ lw_tbl := List.mem_of_getElem? (i := 727) rfl
set_option maxRecDepth 100000 in
theorem kw683 : Jvm.Cond.code ({ cls := "AccessGate", name := "isOpen", desc := "(I)Z" } : Jvm.MethodName) prog_1_method_18_code (2 : Nat) (Option.some Jvm.ClassFile.FieldType.boolean) ∈ lw_tbl := List.mem_of_getElem? (i := 728) rfl
set_option maxRecDepth 100000 in
theorem kw684 : Jvm.Cond.methodLink "AccessGateLaw" (153 : Nat) ({ cls := "AccessGateLaw", name := "pass", desc := "(LAccessGate;I[J)I" } : Jvm.MethodName) ∈ lw_tbl := List.mem_of_getElem? (i := 729) rfl
set_option maxRecDepth 100000 in
theorem kw685 : Jvm.Cond.static ({ cls := "AccessGateLaw", name := "pass", desc := "(LAccessGate;I[J)I" } : Jvm.MethodName) ∈ lw_tbl := List.mem_of_getElem? (i := 730) rfl
set_option maxRecDepth 100000 in
theorem kw686 : Jvm.Cond.codeWith ({ cls := "AccessGateLaw", name := "pass", desc := "(LAccessGate;I[J)I" } : Jvm.MethodName) method_20_code (4 : Nat) (Option.some Jvm.ClassFile.FieldType.int) [((0 : Nat), (9 : Nat), (12 : Nat), (13 : Nat)), ((0 : Nat), (9 : Nat), (15 : Nat), (15 : Nat))] ∈ lw_tbl := List.mem_of_getElem? (i := 731) rfl
set_option maxRecDepth 100000 in
theorem kw687 : Jvm.Cond.methodLink "AccessGateLaw" (74 : Nat) ({ cls := "AccessGate", name := "pass", desc := "(I)I" } : Jvm.MethodName) ∈ lw_tbl := List.mem_of_getElem? (i := 732) rfl
set_option maxRecDepth 100000 in
theorem kw688 : Jvm.Cond.instanceMethod ({ cls := "AccessGate", name := "pass", desc := "(I)I" } : Jvm.MethodName) ∈ lw_tbl := List.mem_of_getElem? (i := 733) rfl
set_option maxRecDepth 100000 in
theorem kw689 : Jvm.Cond.selects "AccessGate" ({ cls := "AccessGate", name := "pass", desc := "(I)I" } : Jvm.MethodName) ({ cls := "AccessGate", name := "pass", desc := "(I)I" } : Jvm.MethodName) ∈ lw_tbl := List.mem_of_getElem? (i := 734) rfl
set_option maxRecDepth 100000 in
theorem kw690 : Jvm.Cond.code ({ cls := "AccessGate", name := "pass", desc := "(I)I" } : Jvm.MethodName) prog_1_method_20_code (5 : Nat) (Option.some Jvm.ClassFile.FieldType.int) ∈ lw_tbl := List.mem_of_getElem? (i := 735) rfl
set_option maxRecDepth 100000 in
theorem kw692 : Jvm.Cond.methodLink "AccessGateLaw" (164 : Nat) ({ cls := "AccessGateLaw", name := "kind", desc := "(LAccessGate;I[J)I" } : Jvm.MethodName) ∈ lw_tbl := List.mem_of_getElem? (i := 737) rfl
set_option maxRecDepth 100000 in
theorem kw693 : Jvm.Cond.static ({ cls := "AccessGateLaw", name := "kind", desc := "(LAccessGate;I[J)I" } : Jvm.MethodName) ∈ lw_tbl := List.mem_of_getElem? (i := 738) rfl
set_option maxRecDepth 100000 in
theorem kw694 : Jvm.Cond.codeWith ({ cls := "AccessGateLaw", name := "kind", desc := "(LAccessGate;I[J)I" } : Jvm.MethodName) method_21_code (4 : Nat) (Option.some Jvm.ClassFile.FieldType.int) [((0 : Nat), (9 : Nat), (12 : Nat), (24 : Nat))] ∈ lw_tbl := List.mem_of_getElem? (i := 739) rfl
set_option maxRecDepth 100000 in
theorem kw695 : Jvm.Cond.methodLink "AccessGateLaw" (77 : Nat) ({ cls := "AccessGate", name := "kind", desc := "(I)I" } : Jvm.MethodName) ∈ lw_tbl := List.mem_of_getElem? (i := 740) rfl
set_option maxRecDepth 100000 in
theorem kw696 : Jvm.Cond.instanceMethod ({ cls := "AccessGate", name := "kind", desc := "(I)I" } : Jvm.MethodName) ∈ lw_tbl := List.mem_of_getElem? (i := 741) rfl
set_option maxRecDepth 100000 in
theorem kw697 : Jvm.Cond.selects "AccessGate" ({ cls := "AccessGate", name := "kind", desc := "(I)I" } : Jvm.MethodName) ({ cls := "AccessGate", name := "kind", desc := "(I)I" } : Jvm.MethodName) ∈ lw_tbl := List.mem_of_getElem? (i := 742) rfl
set_option maxRecDepth 100000 in
theorem kw698 : Jvm.Cond.code ({ cls := "AccessGate", name := "kind", desc := "(I)I" } : Jvm.MethodName) prog_1_method_23_code (2 : Nat) (Option.some Jvm.ClassFile.FieldType.int) ∈ lw_tbl := List.mem_of_getElem? (i := 743) rfl
set_option maxRecDepth 100000 in
theorem kw699 : Jvm.Cond.methodLink "AccessGate" (245 : Nat) ({ cls := "AccessGate", name := "requireStep", desc := "(I)V" } : Jvm.MethodName) ∈ lw_tbl := List.mem_of_getElem? (i := 744) rfl
set_option maxRecDepth 100000 in
theorem kw701 : Jvm.Cond.instanceMethod ({ cls := "AccessGate", name := "requireStep", desc := "(I)V" } : Jvm.MethodName) ∈ lw_tbl := List.mem_of_getElem? (i := 746) rfl
set_option maxRecDepth 100000 in
theorem kw702 : Jvm.Cond.code ({ cls := "AccessGate", name := "requireStep", desc := "(I)V" } : Jvm.MethodName) prog_1_method_30_code (2 : Nat) (Option.none : Option Jvm.ClassFile.FieldType) ∈ lw_tbl := List.mem_of_getElem? (i := 747) rfl
set_option maxRecDepth 100000 in
theorem kw704 : Jvm.Cond.methodLink "AccessGateLaw" (167 : Nat) ({ cls := "AccessGateLaw", name := "seal", desc := "(LAccessGate;I[J)I" } : Jvm.MethodName) ∈ lw_tbl := List.mem_of_getElem? (i := 749) rfl
set_option maxRecDepth 100000 in
theorem kw705 : Jvm.Cond.static ({ cls := "AccessGateLaw", name := "seal", desc := "(LAccessGate;I[J)I" } : Jvm.MethodName) ∈ lw_tbl := List.mem_of_getElem? (i := 750) rfl
set_option maxRecDepth 100000 in
theorem kw706 : Jvm.Cond.codeWith ({ cls := "AccessGateLaw", name := "seal", desc := "(LAccessGate;I[J)I" } : Jvm.MethodName) method_22_code (4 : Nat) (Option.some Jvm.ClassFile.FieldType.int) [((0 : Nat), (9 : Nat), (12 : Nat), (24 : Nat))] ∈ lw_tbl := List.mem_of_getElem? (i := 751) rfl
set_option maxRecDepth 100000 in
theorem kw707 : Jvm.Cond.methodLink "AccessGateLaw" (80 : Nat) ({ cls := "AccessGate", name := "seal", desc := "(I)I" } : Jvm.MethodName) ∈ lw_tbl := List.mem_of_getElem? (i := 752) rfl
set_option maxRecDepth 100000 in
theorem kw708 : Jvm.Cond.instanceMethod ({ cls := "AccessGate", name := "seal", desc := "(I)I" } : Jvm.MethodName) ∈ lw_tbl := List.mem_of_getElem? (i := 753) rfl
set_option maxRecDepth 100000 in
theorem kw709 : Jvm.Cond.selects "AccessGate" ({ cls := "AccessGate", name := "seal", desc := "(I)I" } : Jvm.MethodName) ({ cls := "AccessGate", name := "seal", desc := "(I)I" } : Jvm.MethodName) ∈ lw_tbl := List.mem_of_getElem? (i := 754) rfl
set_option maxRecDepth 100000 in
theorem kw710 : Jvm.Cond.code ({ cls := "AccessGate", name := "seal", desc := "(I)I" } : Jvm.MethodName) prog_1_method_24_code (2 : Nat) (Option.some Jvm.ClassFile.FieldType.int) ∈ lw_tbl := List.mem_of_getElem? (i := 755) rfl
set_option maxRecDepth 100000 in
theorem kw711 : Jvm.Cond.classLink "AccessGateLaw" (84 : Nat) "AccessGateModel" ∈ lw_tbl := List.mem_of_getElem? (i := 756) rfl
set_option maxRecDepth 100000 in
theorem kw712 : Jvm.Cond.instantiable "AccessGateModel" (34 : Nat) ∈ lw_tbl := List.mem_of_getElem? (i := 757) rfl
set_option maxRecDepth 100000 in
theorem kw713 : Jvm.Cond.methodLink "AccessGateLaw" (86 : Nat) ({ cls := "AccessGateModel", name := "<init>", desc := "()V" } : Jvm.MethodName) ∈ lw_tbl := List.mem_of_getElem? (i := 758) rfl
set_option maxRecDepth 100000 in
theorem kw714 : Jvm.Cond.instanceMethod ({ cls := "AccessGateModel", name := "<init>", desc := "()V" } : Jvm.MethodName) ∈ lw_tbl := List.mem_of_getElem? (i := 759) rfl
set_option maxRecDepth 100000 in
theorem kw715 : Jvm.Cond.code ({ cls := "AccessGateModel", name := "<init>", desc := "()V" } : Jvm.MethodName) prog_10_method_1_code (1 : Nat) (Option.none : Option Jvm.ClassFile.FieldType) ∈ lw_tbl := List.mem_of_getElem? (i := 760) rfl
set_option maxRecDepth 100000 in
theorem kw716 : Jvm.Cond.methodLink "AccessGateModel" (1 : Nat) ({ cls := "java/lang/Object", name := "<init>", desc := "()V" } : Jvm.MethodName) ∈ lw_tbl := List.mem_of_getElem? (i := 761) rfl
set_option maxRecDepth 100000 in
theorem kw717 : Jvm.Cond.fieldLink "AccessGateModel" (7 : Nat) "AccessGateModel" "teams" "[I" ∈ lw_tbl := List.mem_of_getElem? (i := 762) rfl
set_option maxRecDepth 100000 in
theorem kw718 : Jvm.Cond.fieldLink "AccessGateModel" (13 : Nat) "AccessGateModel" "labels" "[Z" ∈ lw_tbl := List.mem_of_getElem? (i := 763) rfl
set_option maxRecDepth 100000 in
theorem kw719 : Jvm.Cond.fieldLink "AccessGateModel" (90 : Nat) "AccessGateModel" "people" "I" ∈ lw_tbl := List.mem_of_getElem? (i := 764) rfl
set_option maxRecDepth 100000 in
theorem kw720 : Jvm.Cond.fieldLink "AccessGateModel" (17 : Nat) "AccessGateModel" "labelOf" "[I" ∈ lw_tbl := List.mem_of_getElem? (i := 765) rfl
set_option maxRecDepth 100000 in
theorem kw721 : Jvm.Cond.fieldLink "AccessGateModel" (97 : Nat) "AccessGateModel" "machines" "I" ∈ lw_tbl := List.mem_of_getElem? (i := 766) rfl
set_option maxRecDepth 100000 in
theorem kw722 : Jvm.Cond.fieldLink "AccessGateModel" (119 : Nat) "AccessGateModel" "clock" "I" ∈ lw_tbl := List.mem_of_getElem? (i := 767) rfl
set_option maxRecDepth 100000 in
theorem kw723 : Jvm.Cond.fieldLink "AccessGateModel" (20 : Nat) "AccessGateModel" "rightPeople" "[I" ∈ lw_tbl := List.mem_of_getElem? (i := 768) rfl
set_option maxRecDepth 100000 in
theorem kw724 : Jvm.Cond.fieldLink "AccessGateModel" (23 : Nat) "AccessGateModel" "rightMachines" "[I" ∈ lw_tbl := List.mem_of_getElem? (i := 769) rfl
set_option maxRecDepth 100000 in
theorem kw725 : Jvm.Cond.fieldLink "AccessGateModel" (26 : Nat) "AccessGateModel" "begins" "[I" ∈ lw_tbl := List.mem_of_getElem? (i := 770) rfl
set_option maxRecDepth 100000 in
theorem kw726 : Jvm.Cond.fieldLink "AccessGateModel" (29 : Nat) "AccessGateModel" "ends" "[I" ∈ lw_tbl := List.mem_of_getElem? (i := 771) rfl
set_option maxRecDepth 100000 in
theorem kw727 : Jvm.Cond.fieldLink "AccessGateModel" (127 : Nat) "AccessGateModel" "rights" "I" ∈ lw_tbl := List.mem_of_getElem? (i := 772) rfl
set_option maxRecDepth 100000 in
theorem kw728 : Jvm.Cond.fieldLink "AccessGateModel" (32 : Nat) "AccessGateModel" "askPeople" "[I" ∈ lw_tbl := List.mem_of_getElem? (i := 773) rfl
set_option maxRecDepth 100000 in
theorem kw729 : Jvm.Cond.fieldLink "AccessGateModel" (35 : Nat) "AccessGateModel" "askMachines" "[I" ∈ lw_tbl := List.mem_of_getElem? (i := 774) rfl
set_option maxRecDepth 100000 in
theorem kw730 : Jvm.Cond.fieldLink "AccessGateModel" (38 : Nat) "AccessGateModel" "askMinutes" "[I" ∈ lw_tbl := List.mem_of_getElem? (i := 775) rfl
set_option maxRecDepth 100000 in
theorem kw731 : Jvm.Cond.fieldLink "AccessGateModel" (41 : Nat) "AccessGateModel" "askTimes" "[I" ∈ lw_tbl := List.mem_of_getElem? (i := 776) rfl
set_option maxRecDepth 100000 in
theorem kw732 : Jvm.Cond.fieldLink "AccessGateModel" (44 : Nat) "AccessGateModel" "askStates" "[I" ∈ lw_tbl := List.mem_of_getElem? (i := 777) rfl
set_option maxRecDepth 100000 in
theorem kw733 : Jvm.Cond.fieldLink "AccessGateModel" (47 : Nat) "AccessGateModel" "firstBy" "[I" ∈ lw_tbl := List.mem_of_getElem? (i := 778) rfl
set_option maxRecDepth 100000 in
theorem kw734 : Jvm.Cond.fieldLink "AccessGateModel" (107 : Nat) "AccessGateModel" "asks" "I" ∈ lw_tbl := List.mem_of_getElem? (i := 779) rfl
set_option maxRecDepth 100000 in
theorem kw735 : Jvm.Cond.fieldLink "AccessGateModel" (50 : Nat) "AccessGateModel" "entryPeople" "[I" ∈ lw_tbl := List.mem_of_getElem? (i := 780) rfl
set_option maxRecDepth 100000 in
theorem kw736 : Jvm.Cond.fieldLink "AccessGateModel" (53 : Nat) "AccessGateModel" "entryMachines" "[I" ∈ lw_tbl := List.mem_of_getElem? (i := 781) rfl
set_option maxRecDepth 100000 in
theorem kw737 : Jvm.Cond.fieldLink "AccessGateModel" (56 : Nat) "AccessGateModel" "entryTimes" "[I" ∈ lw_tbl := List.mem_of_getElem? (i := 782) rfl
set_option maxRecDepth 100000 in
theorem kw738 : Jvm.Cond.fieldLink "AccessGateModel" (59 : Nat) "AccessGateModel" "looked" "[Z" ∈ lw_tbl := List.mem_of_getElem? (i := 783) rfl
set_option maxRecDepth 100000 in
theorem kw739 : Jvm.Cond.fieldLink "AccessGateModel" (110 : Nat) "AccessGateModel" "entries" "I" ∈ lw_tbl := List.mem_of_getElem? (i := 784) rfl
set_option maxRecDepth 100000 in
theorem kw740 : Jvm.Cond.fieldLink "AccessGateModel" (62 : Nat) "AccessGateModel" "sessionPeople" "[I" ∈ lw_tbl := List.mem_of_getElem? (i := 785) rfl
set_option maxRecDepth 100000 in
theorem kw741 : Jvm.Cond.fieldLink "AccessGateModel" (65 : Nat) "AccessGateModel" "sessionMachines" "[I" ∈ lw_tbl := List.mem_of_getElem? (i := 786) rfl
set_option maxRecDepth 100000 in
theorem kw742 : Jvm.Cond.fieldLink "AccessGateModel" (68 : Nat) "AccessGateModel" "opens" "[Z" ∈ lw_tbl := List.mem_of_getElem? (i := 787) rfl
set_option maxRecDepth 100000 in
theorem kw743 : Jvm.Cond.fieldLink "AccessGateModel" (71 : Nat) "AccessGateModel" "typed" "[I" ∈ lw_tbl := List.mem_of_getElem? (i := 788) rfl
set_option maxRecDepth 100000 in
theorem kw744 : Jvm.Cond.fieldLink "AccessGateModel" (74 : Nat) "AccessGateModel" "held" "[I" ∈ lw_tbl := List.mem_of_getElem? (i := 789) rfl
set_option maxRecDepth 100000 in
theorem kw745 : Jvm.Cond.fieldLink "AccessGateModel" (77 : Nat) "AccessGateModel" "through" "[I" ∈ lw_tbl := List.mem_of_getElem? (i := 790) rfl
set_option maxRecDepth 100000 in
theorem kw746 : Jvm.Cond.fieldLink "AccessGateModel" (113 : Nat) "AccessGateModel" "sessions" "I" ∈ lw_tbl := List.mem_of_getElem? (i := 791) rfl
set_option maxRecDepth 100000 in
theorem kw747 : Jvm.Cond.fieldLink "AccessGateModel" (80 : Nat) "AccessGateModel" "kinds" "[I" ∈ lw_tbl := List.mem_of_getElem? (i := 792) rfl
set_option maxRecDepth 100000 in
theorem kw748 : Jvm.Cond.fieldLink "AccessGateModel" (83 : Nat) "AccessGateModel" "seals" "[I" ∈ lw_tbl := List.mem_of_getElem? (i := 793) rfl
set_option maxRecDepth 100000 in
theorem kw749 : Jvm.Cond.fieldLink "AccessGateModel" (116 : Nat) "AccessGateModel" "steps" "I" ∈ lw_tbl := List.mem_of_getElem? (i := 794) rfl
set_option maxRecDepth 100000 in
theorem kw750 : Jvm.Cond.fieldLink "AccessGateModel" (86 : Nat) "AccessGateModel" "last" "I" ∈ lw_tbl := List.mem_of_getElem? (i := 795) rfl
set_option maxRecDepth 100000 in
theorem kw820 : Jvm.Cond.arrayClass Jvm.ClassFile.FieldType.boolean ∈ lw_tbl := List.mem_of_getElem? (i := 865) rfl
set_option maxRecDepth 100000 in
theorem kw821 : Jvm.Cond.methodLink "AccessGateLaw" (93 : Nat) ({ cls := "AccessGateModel", name := "thrown", desc := "()I" } : Jvm.MethodName) ∈ lw_tbl := List.mem_of_getElem? (i := 866) rfl
set_option maxRecDepth 100000 in
theorem kw822 : Jvm.Cond.instanceMethod ({ cls := "AccessGateModel", name := "thrown", desc := "()I" } : Jvm.MethodName) ∈ lw_tbl := List.mem_of_getElem? (i := 867) rfl
set_option maxRecDepth 100000 in
theorem kw823 : Jvm.Cond.selects "AccessGateModel" ({ cls := "AccessGateModel", name := "thrown", desc := "()I" } : Jvm.MethodName) ({ cls := "AccessGateModel", name := "thrown", desc := "()I" } : Jvm.MethodName) ∈ lw_tbl := List.mem_of_getElem? (i := 868) rfl
set_option maxRecDepth 100000 in
theorem kw824 : Jvm.Cond.code ({ cls := "AccessGateModel", name := "thrown", desc := "()I" } : Jvm.MethodName) prog_10_method_2_code (1 : Nat) (Option.some Jvm.ClassFile.FieldType.int) ∈ lw_tbl := List.mem_of_getElem? (i := 869) rfl
set_option maxRecDepth 100000 in
theorem kw825 : Jvm.Cond.methodLink "AccessGateLaw" (92 : Nat) ({ cls := "AccessGateModel", name := "addPerson", desc := "(I)I" } : Jvm.MethodName) ∈ lw_tbl := List.mem_of_getElem? (i := 870) rfl
set_option maxRecDepth 100000 in
theorem kw826 : Jvm.Cond.instanceMethod ({ cls := "AccessGateModel", name := "addPerson", desc := "(I)I" } : Jvm.MethodName) ∈ lw_tbl := List.mem_of_getElem? (i := 871) rfl
set_option maxRecDepth 100000 in
theorem kw827 : Jvm.Cond.selects "AccessGateModel" ({ cls := "AccessGateModel", name := "addPerson", desc := "(I)I" } : Jvm.MethodName) ({ cls := "AccessGateModel", name := "addPerson", desc := "(I)I" } : Jvm.MethodName) ∈ lw_tbl := List.mem_of_getElem? (i := 872) rfl
set_option maxRecDepth 100000 in
theorem kw828 : Jvm.Cond.code ({ cls := "AccessGateModel", name := "addPerson", desc := "(I)I" } : Jvm.MethodName) prog_10_method_12_code (2 : Nat) (Option.some Jvm.ClassFile.FieldType.int) ∈ lw_tbl := List.mem_of_getElem? (i := 873) rfl
set_option maxRecDepth 100000 in
theorem kw829 : Jvm.Cond.methodLink "AccessGateModel" (93 : Nat) ({ cls := "AccessGateModel", name := "in", desc := "(III)Z" } : Jvm.MethodName) ∈ lw_tbl := List.mem_of_getElem? (i := 874) rfl
set_option maxRecDepth 100000 in
theorem kw830 : Jvm.Cond.static ({ cls := "AccessGateModel", name := "in", desc := "(III)Z" } : Jvm.MethodName) ∈ lw_tbl := List.mem_of_getElem? (i := 875) rfl
set_option maxRecDepth 100000 in
theorem kw831 : Jvm.Cond.code ({ cls := "AccessGateModel", name := "in", desc := "(III)Z" } : Jvm.MethodName) prog_10_method_3_code (3 : Nat) (Option.some Jvm.ClassFile.FieldType.boolean) ∈ lw_tbl := List.mem_of_getElem? (i := 876) rfl
set_option maxRecDepth 100000 in
theorem kw832 : Jvm.Cond.methodLink "AccessGateModel" (123 : Nat) ({ cls := "AccessGateModel", name := "goes", desc := "(ZZZ)Z" } : Jvm.MethodName) ∈ lw_tbl := List.mem_of_getElem? (i := 877) rfl
set_option maxRecDepth 100000 in
theorem kw834 : Jvm.Cond.instanceMethod ({ cls := "AccessGateModel", name := "goes", desc := "(ZZZ)Z" } : Jvm.MethodName) ∈ lw_tbl := List.mem_of_getElem? (i := 879) rfl
set_option maxRecDepth 100000 in
theorem kw835 : Jvm.Cond.code ({ cls := "AccessGateModel", name := "goes", desc := "(ZZZ)Z" } : Jvm.MethodName) prog_10_method_4_code (4 : Nat) (Option.some Jvm.ClassFile.FieldType.boolean) ∈ lw_tbl := List.mem_of_getElem? (i := 880) rfl
set_option maxRecDepth 100000 in
theorem kw836 : Jvm.Cond.methodLink "AccessGateLaw" (99 : Nat) ({ cls := "AccessGateModel", name := "addMachine", desc := "(I)I" } : Jvm.MethodName) ∈ lw_tbl := List.mem_of_getElem? (i := 881) rfl
set_option maxRecDepth 100000 in
theorem kw837 : Jvm.Cond.instanceMethod ({ cls := "AccessGateModel", name := "addMachine", desc := "(I)I" } : Jvm.MethodName) ∈ lw_tbl := List.mem_of_getElem? (i := 882) rfl
set_option maxRecDepth 100000 in
theorem kw838 : Jvm.Cond.selects "AccessGateModel" ({ cls := "AccessGateModel", name := "addMachine", desc := "(I)I" } : Jvm.MethodName) ({ cls := "AccessGateModel", name := "addMachine", desc := "(I)I" } : Jvm.MethodName) ∈ lw_tbl := List.mem_of_getElem? (i := 883) rfl
set_option maxRecDepth 100000 in
theorem kw839 : Jvm.Cond.code ({ cls := "AccessGateModel", name := "addMachine", desc := "(I)I" } : Jvm.MethodName) prog_10_method_13_code (2 : Nat) (Option.some Jvm.ClassFile.FieldType.int) ∈ lw_tbl := List.mem_of_getElem? (i := 884) rfl
set_option maxRecDepth 100000 in
theorem kw840 : Jvm.Cond.methodLink "AccessGateLaw" (103 : Nat) ({ cls := "AccessGateModel", name := "setLabel", desc := "(IIZ)I" } : Jvm.MethodName) ∈ lw_tbl := List.mem_of_getElem? (i := 885) rfl
set_option maxRecDepth 100000 in
theorem kw841 : Jvm.Cond.instanceMethod ({ cls := "AccessGateModel", name := "setLabel", desc := "(IIZ)I" } : Jvm.MethodName) ∈ lw_tbl := List.mem_of_getElem? (i := 886) rfl
set_option maxRecDepth 100000 in
theorem kw842 : Jvm.Cond.selects "AccessGateModel" ({ cls := "AccessGateModel", name := "setLabel", desc := "(IIZ)I" } : Jvm.MethodName) ({ cls := "AccessGateModel", name := "setLabel", desc := "(IIZ)I" } : Jvm.MethodName) ∈ lw_tbl := List.mem_of_getElem? (i := 887) rfl
set_option maxRecDepth 100000 in
theorem kw843 : Jvm.Cond.code ({ cls := "AccessGateModel", name := "setLabel", desc := "(IIZ)I" } : Jvm.MethodName) prog_10_method_21_code (5 : Nat) (Option.some Jvm.ClassFile.FieldType.int) ∈ lw_tbl := List.mem_of_getElem? (i := 888) rfl
set_option maxRecDepth 100000 in
theorem kw844 : Jvm.Cond.methodLink "AccessGateModel" (100 : Nat) ({ cls := "AccessGateModel", name := "isPerson", desc := "(I)Z" } : Jvm.MethodName) ∈ lw_tbl := List.mem_of_getElem? (i := 889) rfl
set_option maxRecDepth 100000 in
theorem kw846 : Jvm.Cond.instanceMethod ({ cls := "AccessGateModel", name := "isPerson", desc := "(I)Z" } : Jvm.MethodName) ∈ lw_tbl := List.mem_of_getElem? (i := 891) rfl
set_option maxRecDepth 100000 in
theorem kw847 : Jvm.Cond.code ({ cls := "AccessGateModel", name := "isPerson", desc := "(I)Z" } : Jvm.MethodName) prog_10_method_5_code (2 : Nat) (Option.some Jvm.ClassFile.FieldType.boolean) ∈ lw_tbl := List.mem_of_getElem? (i := 892) rfl
set_option maxRecDepth 100000 in
theorem kw848 : Jvm.Cond.methodLink "AccessGateModel" (141 : Nat) ({ cls := "AccessGateModel", name := "endsRights", desc := "(II)V" } : Jvm.MethodName) ∈ lw_tbl := List.mem_of_getElem? (i := 893) rfl
set_option maxRecDepth 100000 in
theorem kw850 : Jvm.Cond.instanceMethod ({ cls := "AccessGateModel", name := "endsRights", desc := "(II)V" } : Jvm.MethodName) ∈ lw_tbl := List.mem_of_getElem? (i := 895) rfl
set_option maxRecDepth 100000 in
theorem kw851 : Jvm.Cond.code ({ cls := "AccessGateModel", name := "endsRights", desc := "(II)V" } : Jvm.MethodName) prog_10_method_17_code (5 : Nat) (Option.none : Option Jvm.ClassFile.FieldType) ∈ lw_tbl := List.mem_of_getElem? (i := 896) rfl
set_option maxRecDepth 100000 in
theorem kw852 : Jvm.Cond.methodLink "AccessGateModel" (145 : Nat) ({ cls := "AccessGateModel", name := "deniesAsks", desc := "(II)V" } : Jvm.MethodName) ∈ lw_tbl := List.mem_of_getElem? (i := 897) rfl
set_option maxRecDepth 100000 in
theorem kw854 : Jvm.Cond.instanceMethod ({ cls := "AccessGateModel", name := "deniesAsks", desc := "(II)V" } : Jvm.MethodName) ∈ lw_tbl := List.mem_of_getElem? (i := 899) rfl
set_option maxRecDepth 100000 in
theorem kw855 : Jvm.Cond.code ({ cls := "AccessGateModel", name := "deniesAsks", desc := "(II)V" } : Jvm.MethodName) prog_10_method_18_code (5 : Nat) (Option.none : Option Jvm.ClassFile.FieldType) ∈ lw_tbl := List.mem_of_getElem? (i := 900) rfl
set_option maxRecDepth 100000 in
theorem kw856 : Jvm.Cond.methodLink "AccessGateModel" (148 : Nat) ({ cls := "AccessGateModel", name := "closes", desc := "(I)I" } : Jvm.MethodName) ∈ lw_tbl := List.mem_of_getElem? (i := 901) rfl
set_option maxRecDepth 100000 in
theorem kw858 : Jvm.Cond.instanceMethod ({ cls := "AccessGateModel", name := "closes", desc := "(I)I" } : Jvm.MethodName) ∈ lw_tbl := List.mem_of_getElem? (i := 903) rfl
set_option maxRecDepth 100000 in
theorem kw859 : Jvm.Cond.code ({ cls := "AccessGateModel", name := "closes", desc := "(I)I" } : Jvm.MethodName) prog_10_method_20_code (4 : Nat) (Option.some Jvm.ClassFile.FieldType.int) ∈ lw_tbl := List.mem_of_getElem? (i := 904) rfl
set_option maxRecDepth 100000 in
theorem kw860 : Jvm.Cond.methodLink "AccessGateModel" (134 : Nat) ({ cls := "AccessGateModel", name := "holdsAt", desc := "(III)Z" } : Jvm.MethodName) ∈ lw_tbl := List.mem_of_getElem? (i := 905) rfl
set_option maxRecDepth 100000 in
theorem kw862 : Jvm.Cond.instanceMethod ({ cls := "AccessGateModel", name := "holdsAt", desc := "(III)Z" } : Jvm.MethodName) ∈ lw_tbl := List.mem_of_getElem? (i := 907) rfl
set_option maxRecDepth 100000 in
theorem kw863 : Jvm.Cond.code ({ cls := "AccessGateModel", name := "holdsAt", desc := "(III)Z" } : Jvm.MethodName) prog_10_method_15_code (6 : Nat) (Option.some Jvm.ClassFile.FieldType.boolean) ∈ lw_tbl := List.mem_of_getElem? (i := 908) rfl
set_option maxRecDepth 100000 in
theorem kw864 : Jvm.Cond.methodLink "AccessGateModel" (137 : Nat) ({ cls := "AccessGateModel", name := "shuts", desc := "(I)V" } : Jvm.MethodName) ∈ lw_tbl := List.mem_of_getElem? (i := 909) rfl
set_option maxRecDepth 100000 in
theorem kw866 : Jvm.Cond.instanceMethod ({ cls := "AccessGateModel", name := "shuts", desc := "(I)V" } : Jvm.MethodName) ∈ lw_tbl := List.mem_of_getElem? (i := 911) rfl
set_option maxRecDepth 100000 in
theorem kw867 : Jvm.Cond.code ({ cls := "AccessGateModel", name := "shuts", desc := "(I)V" } : Jvm.MethodName) prog_10_method_19_code (2 : Nat) (Option.none : Option Jvm.ClassFile.FieldType) ∈ lw_tbl := List.mem_of_getElem? (i := 912) rfl
set_option maxRecDepth 100000 in
theorem kw868 : Jvm.Cond.methodLink "AccessGateModel" (130 : Nat) ({ cls := "AccessGateModel", name := "writes", desc := "(III)V" } : Jvm.MethodName) ∈ lw_tbl := List.mem_of_getElem? (i := 913) rfl
set_option maxRecDepth 100000 in
theorem kw870 : Jvm.Cond.instanceMethod ({ cls := "AccessGateModel", name := "writes", desc := "(III)V" } : Jvm.MethodName) ∈ lw_tbl := List.mem_of_getElem? (i := 915) rfl
set_option maxRecDepth 100000 in
theorem kw871 : Jvm.Cond.code ({ cls := "AccessGateModel", name := "writes", desc := "(III)V" } : Jvm.MethodName) prog_10_method_11_code (5 : Nat) (Option.none : Option Jvm.ClassFile.FieldType) ∈ lw_tbl := List.mem_of_getElem? (i := 916) rfl
set_option maxRecDepth 100000 in
theorem kw872 : Jvm.Cond.constant "AccessGateModel" (122 : Nat) (1000003 : Int32) ∈ lw_tbl := List.mem_of_getElem? (i := 917) rfl
set_option maxRecDepth 100000 in
theorem kw873 : Jvm.Cond.methodLink "AccessGateLaw" (107 : Nat) ({ cls := "AccessGateModel", name := "takeAway", desc := "(II)I" } : Jvm.MethodName) ∈ lw_tbl := List.mem_of_getElem? (i := 918) rfl
set_option maxRecDepth 100000 in
theorem kw874 : Jvm.Cond.instanceMethod ({ cls := "AccessGateModel", name := "takeAway", desc := "(II)I" } : Jvm.MethodName) ∈ lw_tbl := List.mem_of_getElem? (i := 919) rfl
set_option maxRecDepth 100000 in
theorem kw875 : Jvm.Cond.selects "AccessGateModel" ({ cls := "AccessGateModel", name := "takeAway", desc := "(II)I" } : Jvm.MethodName) ({ cls := "AccessGateModel", name := "takeAway", desc := "(II)I" } : Jvm.MethodName) ∈ lw_tbl := List.mem_of_getElem? (i := 920) rfl
set_option maxRecDepth 100000 in
theorem kw876 : Jvm.Cond.code ({ cls := "AccessGateModel", name := "takeAway", desc := "(II)I" } : Jvm.MethodName) prog_10_method_22_code (3 : Nat) (Option.some Jvm.ClassFile.FieldType.int) ∈ lw_tbl := List.mem_of_getElem? (i := 921) rfl
set_option maxRecDepth 100000 in
theorem kw877 : Jvm.Cond.methodLink "AccessGateModel" (152 : Nat) ({ cls := "AccessGateModel", name := "areBoth", desc := "(II)Z" } : Jvm.MethodName) ∈ lw_tbl := List.mem_of_getElem? (i := 922) rfl
set_option maxRecDepth 100000 in
theorem kw879 : Jvm.Cond.instanceMethod ({ cls := "AccessGateModel", name := "areBoth", desc := "(II)Z" } : Jvm.MethodName) ∈ lw_tbl := List.mem_of_getElem? (i := 924) rfl
set_option maxRecDepth 100000 in
theorem kw880 : Jvm.Cond.code ({ cls := "AccessGateModel", name := "areBoth", desc := "(II)Z" } : Jvm.MethodName) prog_10_method_7_code (3 : Nat) (Option.some Jvm.ClassFile.FieldType.boolean) ∈ lw_tbl := List.mem_of_getElem? (i := 925) rfl
set_option maxRecDepth 100000 in
theorem kw881 : Jvm.Cond.methodLink "AccessGateModel" (104 : Nat) ({ cls := "AccessGateModel", name := "isMachine", desc := "(I)Z" } : Jvm.MethodName) ∈ lw_tbl := List.mem_of_getElem? (i := 926) rfl
set_option maxRecDepth 100000 in
theorem kw883 : Jvm.Cond.instanceMethod ({ cls := "AccessGateModel", name := "isMachine", desc := "(I)Z" } : Jvm.MethodName) ∈ lw_tbl := List.mem_of_getElem? (i := 928) rfl
set_option maxRecDepth 100000 in
theorem kw884 : Jvm.Cond.code ({ cls := "AccessGateModel", name := "isMachine", desc := "(I)Z" } : Jvm.MethodName) prog_10_method_6_code (2 : Nat) (Option.some Jvm.ClassFile.FieldType.boolean) ∈ lw_tbl := List.mem_of_getElem? (i := 929) rfl
set_option maxRecDepth 100000 in
theorem kw885 : Jvm.Cond.methodLink "AccessGateLaw" (111 : Nat) ({ cls := "AccessGateModel", name := "ask", desc := "(III)I" } : Jvm.MethodName) ∈ lw_tbl := List.mem_of_getElem? (i := 930) rfl
set_option maxRecDepth 100000 in
theorem kw886 : Jvm.Cond.instanceMethod ({ cls := "AccessGateModel", name := "ask", desc := "(III)I" } : Jvm.MethodName) ∈ lw_tbl := List.mem_of_getElem? (i := 931) rfl
set_option maxRecDepth 100000 in
theorem kw887 : Jvm.Cond.selects "AccessGateModel" ({ cls := "AccessGateModel", name := "ask", desc := "(III)I" } : Jvm.MethodName) ({ cls := "AccessGateModel", name := "ask", desc := "(III)I" } : Jvm.MethodName) ∈ lw_tbl := List.mem_of_getElem? (i := 932) rfl
set_option maxRecDepth 100000 in
theorem kw888 : Jvm.Cond.code ({ cls := "AccessGateModel", name := "ask", desc := "(III)I" } : Jvm.MethodName) prog_10_method_25_code (4 : Nat) (Option.some Jvm.ClassFile.FieldType.int) ∈ lw_tbl := List.mem_of_getElem? (i := 933) rfl
set_option maxRecDepth 100000 in
theorem kw889 : Jvm.Cond.methodLink "AccessGateModel" (162 : Nat) ({ cls := "AccessGateModel", name := "canAsk", desc := "(II)Z" } : Jvm.MethodName) ∈ lw_tbl := List.mem_of_getElem? (i := 934) rfl
set_option maxRecDepth 100000 in
theorem kw891 : Jvm.Cond.instanceMethod ({ cls := "AccessGateModel", name := "canAsk", desc := "(II)Z" } : Jvm.MethodName) ∈ lw_tbl := List.mem_of_getElem? (i := 936) rfl
set_option maxRecDepth 100000 in
theorem kw892 : Jvm.Cond.code ({ cls := "AccessGateModel", name := "canAsk", desc := "(II)Z" } : Jvm.MethodName) prog_10_method_24_code (3 : Nat) (Option.some Jvm.ClassFile.FieldType.boolean) ∈ lw_tbl := List.mem_of_getElem? (i := 937) rfl
set_option maxRecDepth 100000 in
theorem kw893 : Jvm.Cond.methodLink "AccessGateModel" (156 : Nat) ({ cls := "AccessGateModel", name := "hasLabel", desc := "(II)Z" } : Jvm.MethodName) ∈ lw_tbl := List.mem_of_getElem? (i := 938) rfl
set_option maxRecDepth 100000 in
theorem kw895 : Jvm.Cond.instanceMethod ({ cls := "AccessGateModel", name := "hasLabel", desc := "(II)Z" } : Jvm.MethodName) ∈ lw_tbl := List.mem_of_getElem? (i := 940) rfl
set_option maxRecDepth 100000 in
theorem kw896 : Jvm.Cond.code ({ cls := "AccessGateModel", name := "hasLabel", desc := "(II)Z" } : Jvm.MethodName) prog_10_method_14_code (3 : Nat) (Option.some Jvm.ClassFile.FieldType.boolean) ∈ lw_tbl := List.mem_of_getElem? (i := 941) rfl
set_option maxRecDepth 100000 in
theorem kw897 : Jvm.Cond.methodLink "AccessGateModel" (159 : Nat) ({ cls := "AccessGateModel", name := "overdues", desc := "(I)I" } : Jvm.MethodName) ∈ lw_tbl := List.mem_of_getElem? (i := 942) rfl
set_option maxRecDepth 100000 in
theorem kw899 : Jvm.Cond.instanceMethod ({ cls := "AccessGateModel", name := "overdues", desc := "(I)I" } : Jvm.MethodName) ∈ lw_tbl := List.mem_of_getElem? (i := 944) rfl
set_option maxRecDepth 100000 in
theorem kw900 : Jvm.Cond.code ({ cls := "AccessGateModel", name := "overdues", desc := "(I)I" } : Jvm.MethodName) prog_10_method_23_code (4 : Nat) (Option.some Jvm.ClassFile.FieldType.int) ∈ lw_tbl := List.mem_of_getElem? (i := 945) rfl
set_option maxRecDepth 100000 in
theorem kw901 : Jvm.Cond.methodLink "AccessGateLaw" (114 : Nat) ({ cls := "AccessGateModel", name := "approve", desc := "(II)Z" } : Jvm.MethodName) ∈ lw_tbl := List.mem_of_getElem? (i := 946) rfl
set_option maxRecDepth 100000 in
theorem kw902 : Jvm.Cond.instanceMethod ({ cls := "AccessGateModel", name := "approve", desc := "(II)Z" } : Jvm.MethodName) ∈ lw_tbl := List.mem_of_getElem? (i := 947) rfl
set_option maxRecDepth 100000 in
theorem kw903 : Jvm.Cond.selects "AccessGateModel" ({ cls := "AccessGateModel", name := "approve", desc := "(II)Z" } : Jvm.MethodName) ({ cls := "AccessGateModel", name := "approve", desc := "(II)Z" } : Jvm.MethodName) ∈ lw_tbl := List.mem_of_getElem? (i := 948) rfl
set_option maxRecDepth 100000 in
theorem kw904 : Jvm.Cond.code ({ cls := "AccessGateModel", name := "approve", desc := "(II)Z" } : Jvm.MethodName) prog_10_method_27_code (4 : Nat) (Option.some Jvm.ClassFile.FieldType.boolean) ∈ lw_tbl := List.mem_of_getElem? (i := 949) rfl
set_option maxRecDepth 100000 in
theorem kw905 : Jvm.Cond.methodLink "AccessGateModel" (168 : Nat) ({ cls := "AccessGateModel", name := "canJudge", desc := "(II)Z" } : Jvm.MethodName) ∈ lw_tbl := List.mem_of_getElem? (i := 950) rfl
set_option maxRecDepth 100000 in
theorem kw907 : Jvm.Cond.instanceMethod ({ cls := "AccessGateModel", name := "canJudge", desc := "(II)Z" } : Jvm.MethodName) ∈ lw_tbl := List.mem_of_getElem? (i := 952) rfl
set_option maxRecDepth 100000 in
theorem kw908 : Jvm.Cond.code ({ cls := "AccessGateModel", name := "canJudge", desc := "(II)Z" } : Jvm.MethodName) prog_10_method_26_code (3 : Nat) (Option.some Jvm.ClassFile.FieldType.boolean) ∈ lw_tbl := List.mem_of_getElem? (i := 953) rfl
set_option maxRecDepth 100000 in
theorem kw909 : Jvm.Cond.methodLink "AccessGateModel" (165 : Nat) ({ cls := "AccessGateModel", name := "isAsk", desc := "(I)Z" } : Jvm.MethodName) ∈ lw_tbl := List.mem_of_getElem? (i := 954) rfl
set_option maxRecDepth 100000 in
theorem kw911 : Jvm.Cond.instanceMethod ({ cls := "AccessGateModel", name := "isAsk", desc := "(I)Z" } : Jvm.MethodName) ∈ lw_tbl := List.mem_of_getElem? (i := 956) rfl
set_option maxRecDepth 100000 in
theorem kw912 : Jvm.Cond.code ({ cls := "AccessGateModel", name := "isAsk", desc := "(I)Z" } : Jvm.MethodName) prog_10_method_8_code (2 : Nat) (Option.some Jvm.ClassFile.FieldType.boolean) ∈ lw_tbl := List.mem_of_getElem? (i := 957) rfl
set_option maxRecDepth 100000 in
theorem kw913 : Jvm.Cond.methodLink "AccessGateModel" (171 : Nat) ({ cls := "AccessGateModel", name := "grants", desc := "(III)V" } : Jvm.MethodName) ∈ lw_tbl := List.mem_of_getElem? (i := 958) rfl
set_option maxRecDepth 100000 in
theorem kw915 : Jvm.Cond.instanceMethod ({ cls := "AccessGateModel", name := "grants", desc := "(III)V" } : Jvm.MethodName) ∈ lw_tbl := List.mem_of_getElem? (i := 960) rfl
set_option maxRecDepth 100000 in
theorem kw916 : Jvm.Cond.code ({ cls := "AccessGateModel", name := "grants", desc := "(III)V" } : Jvm.MethodName) prog_10_method_16_code (4 : Nat) (Option.none : Option Jvm.ClassFile.FieldType) ∈ lw_tbl := List.mem_of_getElem? (i := 961) rfl
set_option maxRecDepth 100000 in
theorem kw917 : Jvm.Cond.methodLink "AccessGateLaw" (118 : Nat) ({ cls := "AccessGateModel", name := "deny", desc := "(II)V" } : Jvm.MethodName) ∈ lw_tbl := List.mem_of_getElem? (i := 962) rfl
set_option maxRecDepth 100000 in
theorem kw918 : Jvm.Cond.instanceMethod ({ cls := "AccessGateModel", name := "deny", desc := "(II)V" } : Jvm.MethodName) ∈ lw_tbl := List.mem_of_getElem? (i := 963) rfl
set_option maxRecDepth 100000 in
theorem kw919 : Jvm.Cond.selects "AccessGateModel" ({ cls := "AccessGateModel", name := "deny", desc := "(II)V" } : Jvm.MethodName) ({ cls := "AccessGateModel", name := "deny", desc := "(II)V" } : Jvm.MethodName) ∈ lw_tbl := List.mem_of_getElem? (i := 964) rfl
set_option maxRecDepth 100000 in
theorem kw920 : Jvm.Cond.code ({ cls := "AccessGateModel", name := "deny", desc := "(II)V" } : Jvm.MethodName) prog_10_method_28_code (3 : Nat) (Option.none : Option Jvm.ClassFile.FieldType) ∈ lw_tbl := List.mem_of_getElem? (i := 965) rfl
set_option maxRecDepth 100000 in
theorem kw921 : Jvm.Cond.methodLink "AccessGateLaw" (121 : Nat) ({ cls := "AccessGateModel", name := "askState", desc := "(I)I" } : Jvm.MethodName) ∈ lw_tbl := List.mem_of_getElem? (i := 966) rfl
set_option maxRecDepth 100000 in
theorem kw922 : Jvm.Cond.instanceMethod ({ cls := "AccessGateModel", name := "askState", desc := "(I)I" } : Jvm.MethodName) ∈ lw_tbl := List.mem_of_getElem? (i := 967) rfl
set_option maxRecDepth 100000 in
theorem kw923 : Jvm.Cond.selects "AccessGateModel" ({ cls := "AccessGateModel", name := "askState", desc := "(I)I" } : Jvm.MethodName) ({ cls := "AccessGateModel", name := "askState", desc := "(I)I" } : Jvm.MethodName) ∈ lw_tbl := List.mem_of_getElem? (i := 968) rfl
set_option maxRecDepth 100000 in
theorem kw924 : Jvm.Cond.code ({ cls := "AccessGateModel", name := "askState", desc := "(I)I" } : Jvm.MethodName) prog_10_method_29_code (2 : Nat) (Option.some Jvm.ClassFile.FieldType.int) ∈ lw_tbl := List.mem_of_getElem? (i := 969) rfl
set_option maxRecDepth 100000 in
theorem kw925 : Jvm.Cond.methodLink "AccessGateLaw" (124 : Nat) ({ cls := "AccessGateModel", name := "enter", desc := "(II)I" } : Jvm.MethodName) ∈ lw_tbl := List.mem_of_getElem? (i := 970) rfl
set_option maxRecDepth 100000 in
theorem kw926 : Jvm.Cond.instanceMethod ({ cls := "AccessGateModel", name := "enter", desc := "(II)I" } : Jvm.MethodName) ∈ lw_tbl := List.mem_of_getElem? (i := 971) rfl
set_option maxRecDepth 100000 in
theorem kw927 : Jvm.Cond.selects "AccessGateModel" ({ cls := "AccessGateModel", name := "enter", desc := "(II)I" } : Jvm.MethodName) ({ cls := "AccessGateModel", name := "enter", desc := "(II)I" } : Jvm.MethodName) ∈ lw_tbl := List.mem_of_getElem? (i := 972) rfl
set_option maxRecDepth 100000 in
theorem kw928 : Jvm.Cond.code ({ cls := "AccessGateModel", name := "enter", desc := "(II)I" } : Jvm.MethodName) prog_10_method_30_code (3 : Nat) (Option.some Jvm.ClassFile.FieldType.int) ∈ lw_tbl := List.mem_of_getElem? (i := 973) rfl
set_option maxRecDepth 100000 in
theorem kw929 : Jvm.Cond.methodLink "AccessGateLaw" (127 : Nat) ({ cls := "AccessGateModel", name := "lookAt", desc := "(II)I" } : Jvm.MethodName) ∈ lw_tbl := List.mem_of_getElem? (i := 974) rfl
set_option maxRecDepth 100000 in
theorem kw930 : Jvm.Cond.instanceMethod ({ cls := "AccessGateModel", name := "lookAt", desc := "(II)I" } : Jvm.MethodName) ∈ lw_tbl := List.mem_of_getElem? (i := 975) rfl
set_option maxRecDepth 100000 in
theorem kw931 : Jvm.Cond.selects "AccessGateModel" ({ cls := "AccessGateModel", name := "lookAt", desc := "(II)I" } : Jvm.MethodName) ({ cls := "AccessGateModel", name := "lookAt", desc := "(II)I" } : Jvm.MethodName) ∈ lw_tbl := List.mem_of_getElem? (i := 976) rfl
set_option maxRecDepth 100000 in
theorem kw932 : Jvm.Cond.code ({ cls := "AccessGateModel", name := "lookAt", desc := "(II)I" } : Jvm.MethodName) prog_10_method_31_code (4 : Nat) (Option.some Jvm.ClassFile.FieldType.int) ∈ lw_tbl := List.mem_of_getElem? (i := 977) rfl
set_option maxRecDepth 100000 in
theorem kw933 : Jvm.Cond.methodLink "AccessGateModel" (174 : Nat) ({ cls := "AccessGateModel", name := "isEntry", desc := "(I)Z" } : Jvm.MethodName) ∈ lw_tbl := List.mem_of_getElem? (i := 978) rfl
set_option maxRecDepth 100000 in
theorem kw935 : Jvm.Cond.instanceMethod ({ cls := "AccessGateModel", name := "isEntry", desc := "(I)Z" } : Jvm.MethodName) ∈ lw_tbl := List.mem_of_getElem? (i := 980) rfl
set_option maxRecDepth 100000 in
theorem kw936 : Jvm.Cond.code ({ cls := "AccessGateModel", name := "isEntry", desc := "(I)Z" } : Jvm.MethodName) prog_10_method_9_code (2 : Nat) (Option.some Jvm.ClassFile.FieldType.boolean) ∈ lw_tbl := List.mem_of_getElem? (i := 981) rfl
set_option maxRecDepth 100000 in
theorem kw937 : Jvm.Cond.methodLink "AccessGateLaw" (130 : Nat) ({ cls := "AccessGateModel", name := "overdue", desc := "(I)I" } : Jvm.MethodName) ∈ lw_tbl := List.mem_of_getElem? (i := 982) rfl
set_option maxRecDepth 100000 in
theorem kw938 : Jvm.Cond.instanceMethod ({ cls := "AccessGateModel", name := "overdue", desc := "(I)I" } : Jvm.MethodName) ∈ lw_tbl := List.mem_of_getElem? (i := 983) rfl
set_option maxRecDepth 100000 in
theorem kw939 : Jvm.Cond.selects "AccessGateModel" ({ cls := "AccessGateModel", name := "overdue", desc := "(I)I" } : Jvm.MethodName) ({ cls := "AccessGateModel", name := "overdue", desc := "(I)I" } : Jvm.MethodName) ∈ lw_tbl := List.mem_of_getElem? (i := 984) rfl
set_option maxRecDepth 100000 in
theorem kw940 : Jvm.Cond.code ({ cls := "AccessGateModel", name := "overdue", desc := "(I)I" } : Jvm.MethodName) prog_10_method_32_code (2 : Nat) (Option.some Jvm.ClassFile.FieldType.int) ∈ lw_tbl := List.mem_of_getElem? (i := 985) rfl
set_option maxRecDepth 100000 in
theorem kw941 : Jvm.Cond.methodLink "AccessGateLaw" (133 : Nat) ({ cls := "AccessGateModel", name := "couldEnter", desc := "(III)Z" } : Jvm.MethodName) ∈ lw_tbl := List.mem_of_getElem? (i := 986) rfl
set_option maxRecDepth 100000 in
theorem kw942 : Jvm.Cond.instanceMethod ({ cls := "AccessGateModel", name := "couldEnter", desc := "(III)Z" } : Jvm.MethodName) ∈ lw_tbl := List.mem_of_getElem? (i := 987) rfl
set_option maxRecDepth 100000 in
theorem kw943 : Jvm.Cond.selects "AccessGateModel" ({ cls := "AccessGateModel", name := "couldEnter", desc := "(III)Z" } : Jvm.MethodName) ({ cls := "AccessGateModel", name := "couldEnter", desc := "(III)Z" } : Jvm.MethodName) ∈ lw_tbl := List.mem_of_getElem? (i := 988) rfl
set_option maxRecDepth 100000 in
theorem kw944 : Jvm.Cond.code ({ cls := "AccessGateModel", name := "couldEnter", desc := "(III)Z" } : Jvm.MethodName) prog_10_method_33_code (4 : Nat) (Option.some Jvm.ClassFile.FieldType.boolean) ∈ lw_tbl := List.mem_of_getElem? (i := 989) rfl
set_option maxRecDepth 100000 in
theorem kw945 : Jvm.Cond.constant "AccessGateModel" (177 : Nat) (100000 : Int32) ∈ lw_tbl := List.mem_of_getElem? (i := 990) rfl
set_option maxRecDepth 100000 in
theorem kw946 : Jvm.Cond.methodLink "AccessGateLaw" (136 : Nat) ({ cls := "AccessGateModel", name := "open", desc := "(II)I" } : Jvm.MethodName) ∈ lw_tbl := List.mem_of_getElem? (i := 991) rfl
set_option maxRecDepth 100000 in
theorem kw947 : Jvm.Cond.instanceMethod ({ cls := "AccessGateModel", name := "open", desc := "(II)I" } : Jvm.MethodName) ∈ lw_tbl := List.mem_of_getElem? (i := 992) rfl
set_option maxRecDepth 100000 in
theorem kw948 : Jvm.Cond.selects "AccessGateModel" ({ cls := "AccessGateModel", name := "open", desc := "(II)I" } : Jvm.MethodName) ({ cls := "AccessGateModel", name := "open", desc := "(II)I" } : Jvm.MethodName) ∈ lw_tbl := List.mem_of_getElem? (i := 993) rfl
set_option maxRecDepth 100000 in
theorem kw949 : Jvm.Cond.code ({ cls := "AccessGateModel", name := "open", desc := "(II)I" } : Jvm.MethodName) prog_10_method_34_code (4 : Nat) (Option.some Jvm.ClassFile.FieldType.int) ∈ lw_tbl := List.mem_of_getElem? (i := 994) rfl
set_option maxRecDepth 100000 in
theorem kw950 : Jvm.Cond.methodLink "AccessGateLaw" (139 : Nat) ({ cls := "AccessGateModel", name := "type", desc := "(II)Z" } : Jvm.MethodName) ∈ lw_tbl := List.mem_of_getElem? (i := 995) rfl
set_option maxRecDepth 100000 in
theorem kw951 : Jvm.Cond.instanceMethod ({ cls := "AccessGateModel", name := "type", desc := "(II)Z" } : Jvm.MethodName) ∈ lw_tbl := List.mem_of_getElem? (i := 996) rfl
set_option maxRecDepth 100000 in
theorem kw952 : Jvm.Cond.selects "AccessGateModel" ({ cls := "AccessGateModel", name := "type", desc := "(II)Z" } : Jvm.MethodName) ({ cls := "AccessGateModel", name := "type", desc := "(II)Z" } : Jvm.MethodName) ∈ lw_tbl := List.mem_of_getElem? (i := 997) rfl
set_option maxRecDepth 100000 in
theorem kw953 : Jvm.Cond.code ({ cls := "AccessGateModel", name := "type", desc := "(II)Z" } : Jvm.MethodName) prog_10_method_35_code (4 : Nat) (Option.some Jvm.ClassFile.FieldType.boolean) ∈ lw_tbl := List.mem_of_getElem? (i := 998) rfl
set_option maxRecDepth 100000 in
theorem kw954 : Jvm.Cond.methodLink "AccessGateModel" (178 : Nat) ({ cls := "AccessGateModel", name := "isSession", desc := "(I)Z" } : Jvm.MethodName) ∈ lw_tbl := List.mem_of_getElem? (i := 999) rfl
set_option maxRecDepth 100000 in
theorem kw956 : Jvm.Cond.instanceMethod ({ cls := "AccessGateModel", name := "isSession", desc := "(I)Z" } : Jvm.MethodName) ∈ lw_tbl := List.mem_of_getElem? (i := 1001) rfl
set_option maxRecDepth 100000 in
theorem kw957 : Jvm.Cond.code ({ cls := "AccessGateModel", name := "isSession", desc := "(I)Z" } : Jvm.MethodName) prog_10_method_10_code (2 : Nat) (Option.some Jvm.ClassFile.FieldType.boolean) ∈ lw_tbl := List.mem_of_getElem? (i := 1002) rfl
set_option maxRecDepth 100000 in
theorem kw958 : Jvm.Cond.methodLink "AccessGateLaw" (142 : Nat) ({ cls := "AccessGateModel", name := "letThrough", desc := "(II)I" } : Jvm.MethodName) ∈ lw_tbl := List.mem_of_getElem? (i := 1003) rfl
set_option maxRecDepth 100000 in
theorem kw959 : Jvm.Cond.instanceMethod ({ cls := "AccessGateModel", name := "letThrough", desc := "(II)I" } : Jvm.MethodName) ∈ lw_tbl := List.mem_of_getElem? (i := 1004) rfl
set_option maxRecDepth 100000 in
theorem kw960 : Jvm.Cond.selects "AccessGateModel" ({ cls := "AccessGateModel", name := "letThrough", desc := "(II)I" } : Jvm.MethodName) ({ cls := "AccessGateModel", name := "letThrough", desc := "(II)I" } : Jvm.MethodName) ∈ lw_tbl := List.mem_of_getElem? (i := 1005) rfl
set_option maxRecDepth 100000 in
theorem kw961 : Jvm.Cond.code ({ cls := "AccessGateModel", name := "letThrough", desc := "(II)I" } : Jvm.MethodName) prog_10_method_36_code (6 : Nat) (Option.some Jvm.ClassFile.FieldType.int) ∈ lw_tbl := List.mem_of_getElem? (i := 1006) rfl
set_option maxRecDepth 100000 in
theorem kw962 : Jvm.Cond.methodLink "AccessGateLaw" (145 : Nat) ({ cls := "AccessGateModel", name := "close", desc := "(I)I" } : Jvm.MethodName) ∈ lw_tbl := List.mem_of_getElem? (i := 1007) rfl
set_option maxRecDepth 100000 in
theorem kw963 : Jvm.Cond.instanceMethod ({ cls := "AccessGateModel", name := "close", desc := "(I)I" } : Jvm.MethodName) ∈ lw_tbl := List.mem_of_getElem? (i := 1008) rfl
set_option maxRecDepth 100000 in
theorem kw964 : Jvm.Cond.selects "AccessGateModel" ({ cls := "AccessGateModel", name := "close", desc := "(I)I" } : Jvm.MethodName) ({ cls := "AccessGateModel", name := "close", desc := "(I)I" } : Jvm.MethodName) ∈ lw_tbl := List.mem_of_getElem? (i := 1009) rfl
set_option maxRecDepth 100000 in
theorem kw965 : Jvm.Cond.code ({ cls := "AccessGateModel", name := "close", desc := "(I)I" } : Jvm.MethodName) prog_10_method_37_code (3 : Nat) (Option.some Jvm.ClassFile.FieldType.int) ∈ lw_tbl := List.mem_of_getElem? (i := 1010) rfl
set_option maxRecDepth 100000 in
theorem kw966 : Jvm.Cond.methodLink "AccessGateLaw" (148 : Nat) ({ cls := "AccessGateModel", name := "isOpen", desc := "(I)Z" } : Jvm.MethodName) ∈ lw_tbl := List.mem_of_getElem? (i := 1011) rfl
set_option maxRecDepth 100000 in
theorem kw967 : Jvm.Cond.instanceMethod ({ cls := "AccessGateModel", name := "isOpen", desc := "(I)Z" } : Jvm.MethodName) ∈ lw_tbl := List.mem_of_getElem? (i := 1012) rfl
set_option maxRecDepth 100000 in
theorem kw968 : Jvm.Cond.selects "AccessGateModel" ({ cls := "AccessGateModel", name := "isOpen", desc := "(I)Z" } : Jvm.MethodName) ({ cls := "AccessGateModel", name := "isOpen", desc := "(I)Z" } : Jvm.MethodName) ∈ lw_tbl := List.mem_of_getElem? (i := 1013) rfl
set_option maxRecDepth 100000 in
theorem kw969 : Jvm.Cond.code ({ cls := "AccessGateModel", name := "isOpen", desc := "(I)Z" } : Jvm.MethodName) prog_10_method_38_code (2 : Nat) (Option.some Jvm.ClassFile.FieldType.boolean) ∈ lw_tbl := List.mem_of_getElem? (i := 1014) rfl
set_option maxRecDepth 100000 in
theorem kw970 : Jvm.Cond.methodLink "AccessGateLaw" (152 : Nat) ({ cls := "AccessGateModel", name := "openSessions", desc := "()I" } : Jvm.MethodName) ∈ lw_tbl := List.mem_of_getElem? (i := 1015) rfl
set_option maxRecDepth 100000 in
theorem kw971 : Jvm.Cond.instanceMethod ({ cls := "AccessGateModel", name := "openSessions", desc := "()I" } : Jvm.MethodName) ∈ lw_tbl := List.mem_of_getElem? (i := 1016) rfl
set_option maxRecDepth 100000 in
theorem kw972 : Jvm.Cond.selects "AccessGateModel" ({ cls := "AccessGateModel", name := "openSessions", desc := "()I" } : Jvm.MethodName) ({ cls := "AccessGateModel", name := "openSessions", desc := "()I" } : Jvm.MethodName) ∈ lw_tbl := List.mem_of_getElem? (i := 1017) rfl
set_option maxRecDepth 100000 in
theorem kw973 : Jvm.Cond.code ({ cls := "AccessGateModel", name := "openSessions", desc := "()I" } : Jvm.MethodName) prog_10_method_39_code (3 : Nat) (Option.some Jvm.ClassFile.FieldType.int) ∈ lw_tbl := List.mem_of_getElem? (i := 1018) rfl
set_option maxRecDepth 100000 in
theorem kw974 : Jvm.Cond.methodLink "AccessGateLaw" (155 : Nat) ({ cls := "AccessGateModel", name := "pass", desc := "(I)I" } : Jvm.MethodName) ∈ lw_tbl := List.mem_of_getElem? (i := 1019) rfl
set_option maxRecDepth 100000 in
theorem kw975 : Jvm.Cond.instanceMethod ({ cls := "AccessGateModel", name := "pass", desc := "(I)I" } : Jvm.MethodName) ∈ lw_tbl := List.mem_of_getElem? (i := 1020) rfl
set_option maxRecDepth 100000 in
theorem kw976 : Jvm.Cond.selects "AccessGateModel" ({ cls := "AccessGateModel", name := "pass", desc := "(I)I" } : Jvm.MethodName) ({ cls := "AccessGateModel", name := "pass", desc := "(I)I" } : Jvm.MethodName) ∈ lw_tbl := List.mem_of_getElem? (i := 1021) rfl
set_option maxRecDepth 100000 in
theorem kw977 : Jvm.Cond.code ({ cls := "AccessGateModel", name := "pass", desc := "(I)I" } : Jvm.MethodName) prog_10_method_40_code (5 : Nat) (Option.some Jvm.ClassFile.FieldType.int) ∈ lw_tbl := List.mem_of_getElem? (i := 1022) rfl
set_option maxRecDepth 100000 in
theorem kw978 : Jvm.Cond.methodLink "AccessGateLaw" (159 : Nat) ({ cls := "AccessGateModel", name := "clock", desc := "()I" } : Jvm.MethodName) ∈ lw_tbl := List.mem_of_getElem? (i := 1023) rfl
set_option maxRecDepth 100000 in
theorem kw979 : Jvm.Cond.instanceMethod ({ cls := "AccessGateModel", name := "clock", desc := "()I" } : Jvm.MethodName) ∈ lw_tbl := List.mem_of_getElem? (i := 1024) rfl
set_option maxRecDepth 100000 in
theorem kw980 : Jvm.Cond.selects "AccessGateModel" ({ cls := "AccessGateModel", name := "clock", desc := "()I" } : Jvm.MethodName) ({ cls := "AccessGateModel", name := "clock", desc := "()I" } : Jvm.MethodName) ∈ lw_tbl := List.mem_of_getElem? (i := 1025) rfl
set_option maxRecDepth 100000 in
theorem kw981 : Jvm.Cond.code ({ cls := "AccessGateModel", name := "clock", desc := "()I" } : Jvm.MethodName) prog_10_method_41_code (1 : Nat) (Option.some Jvm.ClassFile.FieldType.int) ∈ lw_tbl := List.mem_of_getElem? (i := 1026) rfl
set_option maxRecDepth 100000 in
theorem kw982 : Jvm.Cond.methodLink "AccessGateLaw" (163 : Nat) ({ cls := "AccessGateModel", name := "steps", desc := "()I" } : Jvm.MethodName) ∈ lw_tbl := List.mem_of_getElem? (i := 1027) rfl
set_option maxRecDepth 100000 in
theorem kw983 : Jvm.Cond.instanceMethod ({ cls := "AccessGateModel", name := "steps", desc := "()I" } : Jvm.MethodName) ∈ lw_tbl := List.mem_of_getElem? (i := 1028) rfl
set_option maxRecDepth 100000 in
theorem kw984 : Jvm.Cond.selects "AccessGateModel" ({ cls := "AccessGateModel", name := "steps", desc := "()I" } : Jvm.MethodName) ({ cls := "AccessGateModel", name := "steps", desc := "()I" } : Jvm.MethodName) ∈ lw_tbl := List.mem_of_getElem? (i := 1029) rfl
set_option maxRecDepth 100000 in
theorem kw985 : Jvm.Cond.code ({ cls := "AccessGateModel", name := "steps", desc := "()I" } : Jvm.MethodName) prog_10_method_42_code (1 : Nat) (Option.some Jvm.ClassFile.FieldType.int) ∈ lw_tbl := List.mem_of_getElem? (i := 1030) rfl
set_option maxRecDepth 100000 in
theorem kw986 : Jvm.Cond.methodLink "AccessGateLaw" (166 : Nat) ({ cls := "AccessGateModel", name := "kind", desc := "(I)I" } : Jvm.MethodName) ∈ lw_tbl := List.mem_of_getElem? (i := 1031) rfl
set_option maxRecDepth 100000 in
theorem kw987 : Jvm.Cond.instanceMethod ({ cls := "AccessGateModel", name := "kind", desc := "(I)I" } : Jvm.MethodName) ∈ lw_tbl := List.mem_of_getElem? (i := 1032) rfl
set_option maxRecDepth 100000 in
theorem kw988 : Jvm.Cond.selects "AccessGateModel" ({ cls := "AccessGateModel", name := "kind", desc := "(I)I" } : Jvm.MethodName) ({ cls := "AccessGateModel", name := "kind", desc := "(I)I" } : Jvm.MethodName) ∈ lw_tbl := List.mem_of_getElem? (i := 1033) rfl
set_option maxRecDepth 100000 in
theorem kw989 : Jvm.Cond.code ({ cls := "AccessGateModel", name := "kind", desc := "(I)I" } : Jvm.MethodName) prog_10_method_43_code (2 : Nat) (Option.some Jvm.ClassFile.FieldType.int) ∈ lw_tbl := List.mem_of_getElem? (i := 1034) rfl
set_option maxRecDepth 100000 in
theorem kw990 : Jvm.Cond.methodLink "AccessGateLaw" (169 : Nat) ({ cls := "AccessGateModel", name := "seal", desc := "(I)I" } : Jvm.MethodName) ∈ lw_tbl := List.mem_of_getElem? (i := 1035) rfl
set_option maxRecDepth 100000 in
theorem kw991 : Jvm.Cond.instanceMethod ({ cls := "AccessGateModel", name := "seal", desc := "(I)I" } : Jvm.MethodName) ∈ lw_tbl := List.mem_of_getElem? (i := 1036) rfl
set_option maxRecDepth 100000 in
theorem kw992 : Jvm.Cond.selects "AccessGateModel" ({ cls := "AccessGateModel", name := "seal", desc := "(I)I" } : Jvm.MethodName) ({ cls := "AccessGateModel", name := "seal", desc := "(I)I" } : Jvm.MethodName) ∈ lw_tbl := List.mem_of_getElem? (i := 1037) rfl
set_option maxRecDepth 100000 in
theorem kw993 : Jvm.Cond.code ({ cls := "AccessGateModel", name := "seal", desc := "(I)I" } : Jvm.MethodName) prog_10_method_44_code (2 : Nat) (Option.some Jvm.ClassFile.FieldType.int) ∈ lw_tbl := List.mem_of_getElem? (i := 1038) rfl
set_option maxRecDepth 100000 in
theorem kw994 : Jvm.Cond.arrayClass Jvm.ClassFile.FieldType.long ∈ lw_tbl := List.mem_of_getElem? (i := 1039) rfl
set_option maxRecDepth 100000 in
theorem kw996 : Jvm.Cond.castable "AccessGate" "java/lang/Object" ∈ lw_tbl := List.mem_of_getElem? (i := 1041) rfl
set_option maxRecDepth 100000 in
theorem kw997 : Jvm.Cond.castable "java/util/ArrayList" "java/lang/Object" ∈ lw_tbl := List.mem_of_getElem? (i := 1042) rfl
set_option maxRecDepth 100000 in
theorem kw998 : Jvm.Cond.castable "AccessGate$StepRecord" "java/lang/Object" ∈ lw_tbl := List.mem_of_getElem? (i := 1043) rfl
set_option maxRecDepth 100000 in
theorem kw999 : Jvm.Cond.castable "AccessGateModel" "java/lang/Object" ∈ lw_tbl := List.mem_of_getElem? (i := 1044) rfl
set_option maxRecDepth 100000 in
theorem kw1000 : Jvm.Cond.castable "java/lang/IllegalArgumentException" "java/lang/Object" ∈ lw_tbl := List.mem_of_getElem? (i := 1045) rfl
set_option maxRecDepth 100000 in
theorem kw1001 : Jvm.Cond.castable "java/lang/IllegalStateException" "java/lang/Object" ∈ lw_tbl := List.mem_of_getElem? (i := 1046) rfl
set_option maxRecDepth 100000 in
theorem kw1002 : Jvm.Cond.castable "AccessGate$Person" "java/lang/Object" ∈ lw_tbl := List.mem_of_getElem? (i := 1047) rfl
set_option maxRecDepth 100000 in
theorem kw1003 : Jvm.Cond.castable "AccessGate$Machine" "java/lang/Object" ∈ lw_tbl := List.mem_of_getElem? (i := 1048) rfl
set_option maxRecDepth 100000 in
theorem kw1004 : Jvm.Cond.castable "java/lang/IndexOutOfBoundsException" "java/lang/Object" ∈ lw_tbl := List.mem_of_getElem? (i := 1049) rfl
set_option maxRecDepth 100000 in
theorem kw1005 : Jvm.Cond.castable "AccessGate$Ask" "java/lang/Object" ∈ lw_tbl := List.mem_of_getElem? (i := 1050) rfl
set_option maxRecDepth 100000 in
theorem kw1006 : Jvm.Cond.castable "AccessGate$Right" "java/lang/Object" ∈ lw_tbl := List.mem_of_getElem? (i := 1051) rfl
set_option maxRecDepth 100000 in
theorem kw1007 : Jvm.Cond.castable "AccessGate$Entry" "java/lang/Object" ∈ lw_tbl := List.mem_of_getElem? (i := 1052) rfl
set_option maxRecDepth 100000 in
theorem kw1008 : Jvm.Cond.castable "AccessGate$Session" "java/lang/Object" ∈ lw_tbl := List.mem_of_getElem? (i := 1053) rfl
set_option maxRecDepth 100000 in
theorem kw1009 : Jvm.Cond.castable "java/lang/Throwable" "java/lang/Object" ∈ lw_tbl := List.mem_of_getElem? (i := 1054) rfl
set_option maxRecDepth 100000 in
theorem kw1010 : Jvm.Cond.castable "java/lang/String" "java/lang/Object" ∈ lw_tbl := List.mem_of_getElem? (i := 1055) rfl
set_option maxRecDepth 100000 in
theorem kw1012 : Jvm.Cond.selects "[Ljava/lang/Object;" ({ cls := "java/lang/Object", name := "getClass", desc := "()Ljava/lang/Class;" } : Jvm.MethodName) ({ cls := "java/lang/Object", name := "getClass", desc := "()Ljava/lang/Class;" } : Jvm.MethodName) ∈ lw_tbl := List.mem_of_getElem? (i := 1057) rfl
set_option maxRecDepth 100000 in
theorem kw1013 : Jvm.Cond.declares ({ cls := "java/lang/Object", name := "getClass", desc := "()Ljava/lang/Class;" } : Jvm.MethodName) ∈ lw_tbl := List.mem_of_getElem? (i := 1058) rfl
set_option maxRecDepth 100000 in
theorem kw1014 : Jvm.Cond.castable "[I" "java/lang/Object" ∈ lw_tbl := List.mem_of_getElem? (i := 1059) rfl
set_option maxRecDepth 100000 in
theorem kw1015 : Jvm.Cond.castable "[B" "java/lang/Object" ∈ lw_tbl := List.mem_of_getElem? (i := 1060) rfl
set_option maxRecDepth 100000 in
theorem kw1016 : Jvm.Cond.castable "[Ljava/lang/Object;" "java/lang/Object" ∈ lw_tbl := List.mem_of_getElem? (i := 1061) rfl
set_option maxRecDepth 100000 in
theorem kw1017 : Jvm.Cond.castable "[Z" "java/lang/Object" ∈ lw_tbl := List.mem_of_getElem? (i := 1062) rfl
set_option maxRecDepth 100000 in
theorem kw1018 : Jvm.Cond.castable "[J" "java/lang/Object" ∈ lw_tbl := List.mem_of_getElem? (i := 1063) rfl
theorem kp0 : Jvm.Cond.selects "java/lang/Throwable" (⟨"java/lang/Throwable", "fillInStackTrace", "(I)Ljava/lang/Throwable;"⟩ : Jvm.MethodName) (⟨"java/lang/Throwable", "fillInStackTrace", "(I)Ljava/lang/Throwable;"⟩ : Jvm.MethodName) ∈ lw_tbl := List.mem_of_getElem? (i := 0) rfl
theorem kp1 : Jvm.Cond.selects "java/util/ArrayList" (⟨"java/util/ArrayList", "add", "(Ljava/lang/Object;[Ljava/lang/Object;I)V"⟩ : Jvm.MethodName) (⟨"java/util/ArrayList", "add", "(Ljava/lang/Object;[Ljava/lang/Object;I)V"⟩ : Jvm.MethodName) ∈ lw_tbl := List.mem_of_getElem? (i := 1) rfl
theorem kp2 : Jvm.Cond.selects "java/util/ArrayList" (⟨"java/util/ArrayList", "grow", "()[Ljava/lang/Object;"⟩ : Jvm.MethodName) (⟨"java/util/ArrayList", "grow", "()[Ljava/lang/Object;"⟩ : Jvm.MethodName) ∈ lw_tbl := List.mem_of_getElem? (i := 2) rfl
theorem kp3 : Jvm.Cond.selects "java/util/ArrayList" (⟨"java/util/ArrayList", "grow", "(I)[Ljava/lang/Object;"⟩ : Jvm.MethodName) (⟨"java/util/ArrayList", "grow", "(I)[Ljava/lang/Object;"⟩ : Jvm.MethodName) ∈ lw_tbl := List.mem_of_getElem? (i := 3) rfl
theorem kp4 : Jvm.Cond.selects "AccessGate" (⟨"AccessGate", "personAt", "(I)LAccessGate$Person;"⟩ : Jvm.MethodName) (⟨"AccessGate", "personAt", "(I)LAccessGate$Person;"⟩ : Jvm.MethodName) ∈ lw_tbl := List.mem_of_getElem? (i := 4) rfl
theorem kp5 : Jvm.Cond.selects "AccessGate$Person" (⟨"AccessGate$Person", "keepLabel", "(IZ)V"⟩ : Jvm.MethodName) (⟨"AccessGate$Person", "keepLabel", "(IZ)V"⟩ : Jvm.MethodName) ∈ lw_tbl := List.mem_of_getElem? (i := 5) rfl
theorem kp6 : Jvm.Cond.selects "AccessGate" (⟨"AccessGate", "endRights", "(LAccessGate$Person;LAccessGate$Machine;)V"⟩ : Jvm.MethodName) (⟨"AccessGate", "endRights", "(LAccessGate$Person;LAccessGate$Machine;)V"⟩ : Jvm.MethodName) ∈ lw_tbl := List.mem_of_getElem? (i := 6) rfl
theorem kp7 : Jvm.Cond.selects "AccessGate$Right" (⟨"AccessGate$Right", "holdsAt", "(I)Z"⟩ : Jvm.MethodName) (⟨"AccessGate$Right", "holdsAt", "(I)Z"⟩ : Jvm.MethodName) ∈ lw_tbl := List.mem_of_getElem? (i := 7) rfl
theorem kp8 : Jvm.Cond.selects "AccessGate" (⟨"AccessGate", "denyWaitingAsks", "(LAccessGate$Person;LAccessGate$Machine;)V"⟩ : Jvm.MethodName) (⟨"AccessGate", "denyWaitingAsks", "(LAccessGate$Person;LAccessGate$Machine;)V"⟩ : Jvm.MethodName) ∈ lw_tbl := List.mem_of_getElem? (i := 8) rfl
theorem kp9 : Jvm.Cond.selects "AccessGate$Ask" (⟨"AccessGate$Ask", "stateAt", "(I)I"⟩ : Jvm.MethodName) (⟨"AccessGate$Ask", "stateAt", "(I)I"⟩ : Jvm.MethodName) ∈ lw_tbl := List.mem_of_getElem? (i := 9) rfl
theorem kp10 : Jvm.Cond.selects "AccessGate" (⟨"AccessGate", "closeEndedSessions", "()I"⟩ : Jvm.MethodName) (⟨"AccessGate", "closeEndedSessions", "()I"⟩ : Jvm.MethodName) ∈ lw_tbl := List.mem_of_getElem? (i := 10) rfl
theorem kp11 : Jvm.Cond.selects "AccessGate$Session" (⟨"AccessGate$Session", "restsAt", "(I)Z"⟩ : Jvm.MethodName) (⟨"AccessGate$Session", "restsAt", "(I)Z"⟩ : Jvm.MethodName) ∈ lw_tbl := List.mem_of_getElem? (i := 11) rfl
theorem kp12 : Jvm.Cond.selects "AccessGate" (⟨"AccessGate", "rightHolds", "(LAccessGate$Person;LAccessGate$Machine;I)Z"⟩ : Jvm.MethodName) (⟨"AccessGate", "rightHolds", "(LAccessGate$Person;LAccessGate$Machine;I)Z"⟩ : Jvm.MethodName) ∈ lw_tbl := List.mem_of_getElem? (i := 12) rfl
theorem kp13 : Jvm.Cond.selects "AccessGate" (⟨"AccessGate", "endSession", "(LAccessGate$Session;)V"⟩ : Jvm.MethodName) (⟨"AccessGate", "endSession", "(LAccessGate$Session;)V"⟩ : Jvm.MethodName) ∈ lw_tbl := List.mem_of_getElem? (i := 13) rfl
theorem kp14 : Jvm.Cond.selects "AccessGate$StepRecord" (⟨"AccessGate$StepRecord", "add", "(ILAccessGate$Person;LAccessGate$Machine;I)V"⟩ : Jvm.MethodName) (⟨"AccessGate$StepRecord", "add", "(ILAccessGate$Person;LAccessGate$Machine;I)V"⟩ : Jvm.MethodName) ∈ lw_tbl := List.mem_of_getElem? (i := 14) rfl
theorem kp15 : Jvm.Cond.selects "AccessGate" (⟨"AccessGate", "machineAt", "(I)LAccessGate$Machine;"⟩ : Jvm.MethodName) (⟨"AccessGate", "machineAt", "(I)LAccessGate$Machine;"⟩ : Jvm.MethodName) ∈ lw_tbl := List.mem_of_getElem? (i := 15) rfl
theorem kp16 : Jvm.Cond.selects "AccessGate" (⟨"AccessGate", "requireMayAskOrEnter", "(LAccessGate$Person;LAccessGate$Machine;)V"⟩ : Jvm.MethodName) (⟨"AccessGate", "requireMayAskOrEnter", "(LAccessGate$Person;LAccessGate$Machine;)V"⟩ : Jvm.MethodName) ∈ lw_tbl := List.mem_of_getElem? (i := 16) rfl
theorem kp17 : Jvm.Cond.selects "AccessGate$Person" (⟨"AccessGate$Person", "hasLabel", "(I)Z"⟩ : Jvm.MethodName) (⟨"AccessGate$Person", "hasLabel", "(I)Z"⟩ : Jvm.MethodName) ∈ lw_tbl := List.mem_of_getElem? (i := 17) rfl
theorem kp18 : Jvm.Cond.selects "AccessGate" (⟨"AccessGate", "countOverdue", "(LAccessGate$Person;)I"⟩ : Jvm.MethodName) (⟨"AccessGate", "countOverdue", "(LAccessGate$Person;)I"⟩ : Jvm.MethodName) ∈ lw_tbl := List.mem_of_getElem? (i := 18) rfl
theorem kp19 : Jvm.Cond.selects "AccessGate$Entry" (⟨"AccessGate$Entry", "isOverdueAt", "(I)Z"⟩ : Jvm.MethodName) (⟨"AccessGate$Entry", "isOverdueAt", "(I)Z"⟩ : Jvm.MethodName) ∈ lw_tbl := List.mem_of_getElem? (i := 19) rfl
theorem kp20 : Jvm.Cond.selects "AccessGate" (⟨"AccessGate", "askAt", "(I)LAccessGate$Ask;"⟩ : Jvm.MethodName) (⟨"AccessGate", "askAt", "(I)LAccessGate$Ask;"⟩ : Jvm.MethodName) ∈ lw_tbl := List.mem_of_getElem? (i := 20) rfl
theorem kp21 : Jvm.Cond.selects "AccessGate" (⟨"AccessGate", "requireMayJudge", "(LAccessGate$Ask;LAccessGate$Person;)V"⟩ : Jvm.MethodName) (⟨"AccessGate", "requireMayJudge", "(LAccessGate$Ask;LAccessGate$Person;)V"⟩ : Jvm.MethodName) ∈ lw_tbl := List.mem_of_getElem? (i := 21) rfl
theorem kp22 : Jvm.Cond.selects "AccessGate$Person" (⟨"AccessGate$Person", "mayJudge", "(LAccessGate$Person;LAccessGate$Machine;)Z"⟩ : Jvm.MethodName) (⟨"AccessGate$Person", "mayJudge", "(LAccessGate$Person;LAccessGate$Machine;)Z"⟩ : Jvm.MethodName) ∈ lw_tbl := List.mem_of_getElem? (i := 22) rfl
theorem kp23 : Jvm.Cond.selects "AccessGate" (⟨"AccessGate", "entryAt", "(I)LAccessGate$Entry;"⟩ : Jvm.MethodName) (⟨"AccessGate", "entryAt", "(I)LAccessGate$Entry;"⟩ : Jvm.MethodName) ∈ lw_tbl := List.mem_of_getElem? (i := 23) rfl
theorem kp24 : Jvm.Cond.selects "AccessGate" (⟨"AccessGate", "sessionAt", "(I)LAccessGate$Session;"⟩ : Jvm.MethodName) (⟨"AccessGate", "sessionAt", "(I)LAccessGate$Session;"⟩ : Jvm.MethodName) ∈ lw_tbl := List.mem_of_getElem? (i := 24) rfl
theorem kp25 : Jvm.Cond.selects "AccessGate$Session" (⟨"AccessGate$Session", "holdsLine", "()Z"⟩ : Jvm.MethodName) (⟨"AccessGate$Session", "holdsLine", "()Z"⟩ : Jvm.MethodName) ∈ lw_tbl := List.mem_of_getElem? (i := 25) rfl
theorem kp26 : Jvm.Cond.selects "AccessGate" (⟨"AccessGate", "requireStep", "(I)V"⟩ : Jvm.MethodName) (⟨"AccessGate", "requireStep", "(I)V"⟩ : Jvm.MethodName) ∈ lw_tbl := List.mem_of_getElem? (i := 26) rfl
theorem kp27 : Jvm.Cond.selects "AccessGateModel" (⟨"AccessGateModel", "goes", "(ZZZ)Z"⟩ : Jvm.MethodName) (⟨"AccessGateModel", "goes", "(ZZZ)Z"⟩ : Jvm.MethodName) ∈ lw_tbl := List.mem_of_getElem? (i := 27) rfl
theorem kp28 : Jvm.Cond.selects "AccessGateModel" (⟨"AccessGateModel", "isPerson", "(I)Z"⟩ : Jvm.MethodName) (⟨"AccessGateModel", "isPerson", "(I)Z"⟩ : Jvm.MethodName) ∈ lw_tbl := List.mem_of_getElem? (i := 28) rfl
theorem kp29 : Jvm.Cond.selects "AccessGateModel" (⟨"AccessGateModel", "endsRights", "(II)V"⟩ : Jvm.MethodName) (⟨"AccessGateModel", "endsRights", "(II)V"⟩ : Jvm.MethodName) ∈ lw_tbl := List.mem_of_getElem? (i := 29) rfl
theorem kp30 : Jvm.Cond.selects "AccessGateModel" (⟨"AccessGateModel", "deniesAsks", "(II)V"⟩ : Jvm.MethodName) (⟨"AccessGateModel", "deniesAsks", "(II)V"⟩ : Jvm.MethodName) ∈ lw_tbl := List.mem_of_getElem? (i := 30) rfl
theorem kp31 : Jvm.Cond.selects "AccessGateModel" (⟨"AccessGateModel", "closes", "(I)I"⟩ : Jvm.MethodName) (⟨"AccessGateModel", "closes", "(I)I"⟩ : Jvm.MethodName) ∈ lw_tbl := List.mem_of_getElem? (i := 31) rfl
theorem kp32 : Jvm.Cond.selects "AccessGateModel" (⟨"AccessGateModel", "holdsAt", "(III)Z"⟩ : Jvm.MethodName) (⟨"AccessGateModel", "holdsAt", "(III)Z"⟩ : Jvm.MethodName) ∈ lw_tbl := List.mem_of_getElem? (i := 32) rfl
theorem kp33 : Jvm.Cond.selects "AccessGateModel" (⟨"AccessGateModel", "shuts", "(I)V"⟩ : Jvm.MethodName) (⟨"AccessGateModel", "shuts", "(I)V"⟩ : Jvm.MethodName) ∈ lw_tbl := List.mem_of_getElem? (i := 33) rfl
theorem kp34 : Jvm.Cond.selects "AccessGateModel" (⟨"AccessGateModel", "writes", "(III)V"⟩ : Jvm.MethodName) (⟨"AccessGateModel", "writes", "(III)V"⟩ : Jvm.MethodName) ∈ lw_tbl := List.mem_of_getElem? (i := 34) rfl
theorem kp35 : Jvm.Cond.selects "AccessGateModel" (⟨"AccessGateModel", "areBoth", "(II)Z"⟩ : Jvm.MethodName) (⟨"AccessGateModel", "areBoth", "(II)Z"⟩ : Jvm.MethodName) ∈ lw_tbl := List.mem_of_getElem? (i := 35) rfl
theorem kp36 : Jvm.Cond.selects "AccessGateModel" (⟨"AccessGateModel", "isMachine", "(I)Z"⟩ : Jvm.MethodName) (⟨"AccessGateModel", "isMachine", "(I)Z"⟩ : Jvm.MethodName) ∈ lw_tbl := List.mem_of_getElem? (i := 36) rfl
theorem kp37 : Jvm.Cond.selects "AccessGateModel" (⟨"AccessGateModel", "canAsk", "(II)Z"⟩ : Jvm.MethodName) (⟨"AccessGateModel", "canAsk", "(II)Z"⟩ : Jvm.MethodName) ∈ lw_tbl := List.mem_of_getElem? (i := 37) rfl
theorem kp38 : Jvm.Cond.selects "AccessGateModel" (⟨"AccessGateModel", "hasLabel", "(II)Z"⟩ : Jvm.MethodName) (⟨"AccessGateModel", "hasLabel", "(II)Z"⟩ : Jvm.MethodName) ∈ lw_tbl := List.mem_of_getElem? (i := 38) rfl
theorem kp39 : Jvm.Cond.selects "AccessGateModel" (⟨"AccessGateModel", "overdues", "(I)I"⟩ : Jvm.MethodName) (⟨"AccessGateModel", "overdues", "(I)I"⟩ : Jvm.MethodName) ∈ lw_tbl := List.mem_of_getElem? (i := 39) rfl
theorem kp40 : Jvm.Cond.selects "AccessGateModel" (⟨"AccessGateModel", "canJudge", "(II)Z"⟩ : Jvm.MethodName) (⟨"AccessGateModel", "canJudge", "(II)Z"⟩ : Jvm.MethodName) ∈ lw_tbl := List.mem_of_getElem? (i := 40) rfl
theorem kp41 : Jvm.Cond.selects "AccessGateModel" (⟨"AccessGateModel", "isAsk", "(I)Z"⟩ : Jvm.MethodName) (⟨"AccessGateModel", "isAsk", "(I)Z"⟩ : Jvm.MethodName) ∈ lw_tbl := List.mem_of_getElem? (i := 41) rfl
theorem kp42 : Jvm.Cond.selects "AccessGateModel" (⟨"AccessGateModel", "grants", "(III)V"⟩ : Jvm.MethodName) (⟨"AccessGateModel", "grants", "(III)V"⟩ : Jvm.MethodName) ∈ lw_tbl := List.mem_of_getElem? (i := 42) rfl
theorem kp43 : Jvm.Cond.selects "AccessGateModel" (⟨"AccessGateModel", "isEntry", "(I)Z"⟩ : Jvm.MethodName) (⟨"AccessGateModel", "isEntry", "(I)Z"⟩ : Jvm.MethodName) ∈ lw_tbl := List.mem_of_getElem? (i := 43) rfl
theorem kp44 : Jvm.Cond.selects "AccessGateModel" (⟨"AccessGateModel", "isSession", "(I)Z"⟩ : Jvm.MethodName) (⟨"AccessGateModel", "isSession", "(I)Z"⟩ : Jvm.MethodName) ∈ lw_tbl := List.mem_of_getElem? (i := 44) rfl
