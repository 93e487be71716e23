set_option maxRecDepth 100000 in
theorem kw0 : Jvm.Cond.initialized "AccessGateLaw" ∈ lw_tbl := List.mem_of_getElem? (i := 27) rfl
set_option maxRecDepth 100000 in
theorem kw1 : Jvm.Cond.initialized "AccessGate" ∈ lw_tbl := List.mem_of_getElem? (i := 28) rfl
set_option maxRecDepth 100000 in
theorem kw2 : Jvm.Cond.initialized "java/util/AbstractCollection" ∈ lw_tbl := List.mem_of_getElem? (i := 29) rfl
set_option maxRecDepth 100000 in
theorem kw3 : Jvm.Cond.initialized "java/util/AbstractList" ∈ lw_tbl := List.mem_of_getElem? (i := 30) rfl
set_option maxRecDepth 100000 in
theorem kw4 : Jvm.Cond.initialized "java/util/ArrayList" ∈ lw_tbl := List.mem_of_getElem? (i := 31) rfl
set_option maxRecDepth 100000 in
theorem kw5 : Jvm.Cond.initialized "AccessGate$StepRecord" ∈ lw_tbl := List.mem_of_getElem? (i := 32) rfl
set_option maxRecDepth 100000 in
theorem kw6 : Jvm.Cond.initialized "java/lang/Throwable" ∈ lw_tbl := List.mem_of_getElem? (i := 33) rfl
set_option maxRecDepth 100000 in
theorem kw7 : Jvm.Cond.initialized "java/lang/Exception" ∈ lw_tbl := List.mem_of_getElem? (i := 34) rfl
set_option maxRecDepth 100000 in
theorem kw8 : Jvm.Cond.initialized "java/lang/RuntimeException" ∈ lw_tbl := List.mem_of_getElem? (i := 35) rfl
set_option maxRecDepth 100000 in
theorem kw9 : Jvm.Cond.initialized "java/lang/IllegalArgumentException" ∈ lw_tbl := List.mem_of_getElem? (i := 36) rfl
set_option maxRecDepth 100000 in
theorem kw10 : Jvm.Cond.initialized "java/lang/IllegalStateException" ∈ lw_tbl := List.mem_of_getElem? (i := 37) rfl
set_option maxRecDepth 100000 in
theorem kw11 : Jvm.Cond.initialized "AccessGate$Person" ∈ lw_tbl := List.mem_of_getElem? (i := 38) rfl
set_option maxRecDepth 100000 in
theorem kw12 : Jvm.Cond.initialized "jdk/internal/util/ArraysSupport" ∈ lw_tbl := List.mem_of_getElem? (i := 39) rfl
set_option maxRecDepth 100000 in
theorem kw13 : Jvm.Cond.initialized "java/lang/Math" ∈ lw_tbl := List.mem_of_getElem? (i := 40) rfl
set_option maxRecDepth 100000 in
theorem kw14 : Jvm.Cond.initialized "java/util/Arrays" ∈ lw_tbl := List.mem_of_getElem? (i := 41) rfl
set_option maxRecDepth 100000 in
theorem kw15 : Jvm.Cond.initialized "java/lang/System" ∈ lw_tbl := List.mem_of_getElem? (i := 42) rfl
set_option maxRecDepth 100000 in
theorem kw16 : Jvm.Cond.initialized "java/lang/IndexOutOfBoundsException" ∈ lw_tbl := List.mem_of_getElem? (i := 43) rfl
set_option maxRecDepth 100000 in
theorem kw17 : Jvm.Cond.initialized "java/util/Objects" ∈ lw_tbl := List.mem_of_getElem? (i := 44) rfl
set_option maxRecDepth 100000 in
theorem kw18 : Jvm.Cond.initialized "jdk/internal/util/Preconditions" ∈ lw_tbl := List.mem_of_getElem? (i := 45) rfl
set_option maxRecDepth 100000 in
theorem kw19 : Jvm.Cond.initialized "AccessGate$Machine" ∈ lw_tbl := List.mem_of_getElem? (i := 46) rfl
set_option maxRecDepth 100000 in
theorem kw20 : Jvm.Cond.initialized "AccessGate$Ask" ∈ lw_tbl := List.mem_of_getElem? (i := 47) rfl
set_option maxRecDepth 100000 in
theorem kw21 : Jvm.Cond.initialized "AccessGate$Entry" ∈ lw_tbl := List.mem_of_getElem? (i := 48) rfl
set_option maxRecDepth 100000 in
theorem kw22 : Jvm.Cond.initialized "AccessGate$Right" ∈ lw_tbl := List.mem_of_getElem? (i := 49) rfl
set_option maxRecDepth 100000 in
theorem kw23 : Jvm.Cond.initialized "AccessGate$Session" ∈ lw_tbl := List.mem_of_getElem? (i := 50) rfl
set_option maxRecDepth 100000 in
theorem kw24 : Jvm.Cond.methodLink "AccessGateLaw" (193 : Nat) ({ cls := "AccessGateLaw", name := "isHeld", desc := "([I)Z" } : Jvm.MethodName) ∈ lw_tbl := List.mem_of_getElem? (i := 51) rfl
set_option maxRecDepth 100000 in
theorem kw25 : Jvm.Cond.static ({ cls := "AccessGateLaw", name := "isHeld", desc := "([I)Z" } : Jvm.MethodName) ∈ lw_tbl := List.mem_of_getElem? (i := 52) rfl
set_option maxRecDepth 100000 in
theorem kw26 : Jvm.Cond.codeWith ({ cls := "AccessGateLaw", name := "isHeld", desc := "([I)Z" } : Jvm.MethodName) method_25_code (2 : Nat) (Option.some Jvm.ClassFile.FieldType.boolean) [((0 : Nat), (4 : Nat), (5 : Nat), (189 : Nat)), ((0 : Nat), (4 : Nat), (8 : Nat), (191 : Nat)), ((0 : Nat), (4 : Nat), (11 : Nat), (46 : Nat))] ∈ lw_tbl := List.mem_of_getElem? (i := 53) rfl
set_option maxRecDepth 100000 in
theorem kw27 : Jvm.Cond.classLink "AccessGateLaw" (189 : Nat) "java/lang/IndexOutOfBoundsException" ∈ lw_tbl := List.mem_of_getElem? (i := 54) rfl
set_option maxRecDepth 100000 in
theorem kw28 : Jvm.Cond.classLink "AccessGateLaw" (191 : Nat) "java/lang/IllegalArgumentException" ∈ lw_tbl := List.mem_of_getElem? (i := 55) rfl
set_option maxRecDepth 100000 in
theorem kw29 : Jvm.Cond.classLink "AccessGateLaw" (46 : Nat) "java/lang/IllegalStateException" ∈ lw_tbl := List.mem_of_getElem? (i := 56) rfl
set_option maxRecDepth 100000 in
theorem kw30 : Jvm.Cond.methodLink "AccessGateLaw" (185 : Nat) ({ cls := "AccessGateLaw", name := "holds", desc := "([I)Z" } : Jvm.MethodName) ∈ lw_tbl := List.mem_of_getElem? (i := 57) rfl
set_option maxRecDepth 100000 in
theorem kw31 : Jvm.Cond.static ({ cls := "AccessGateLaw", name := "holds", desc := "([I)Z" } : Jvm.MethodName) ∈ lw_tbl := List.mem_of_getElem? (i := 58) rfl
set_option maxRecDepth 100000 in
theorem kw32 : Jvm.Cond.code ({ cls := "AccessGateLaw", name := "holds", desc := "([I)Z" } : Jvm.MethodName) method_24_code (11 : Nat) (Option.some Jvm.ClassFile.FieldType.boolean) ∈ lw_tbl := List.mem_of_getElem? (i := 59) rfl
set_option maxRecDepth 100000 in
theorem kw33 : Jvm.Cond.classLink "AccessGateLaw" (20 : Nat) "AccessGate" ∈ lw_tbl := List.mem_of_getElem? (i := 60) rfl
set_option maxRecDepth 100000 in
theorem kw34 : Jvm.Cond.instantiable "AccessGate" (9 : Nat) ∈ lw_tbl := List.mem_of_getElem? (i := 61) rfl
set_option maxRecDepth 100000 in
theorem kw35 : Jvm.Cond.methodLink "AccessGateLaw" (164 : Nat) ({ cls := "AccessGate", name := "<init>", desc := "()V" } : Jvm.MethodName) ∈ lw_tbl := List.mem_of_getElem? (i := 62) rfl
set_option maxRecDepth 100000 in
theorem kw36 : Jvm.Cond.instanceMethod ({ cls := "AccessGate", name := "<init>", desc := "()V" } : Jvm.MethodName) ∈ lw_tbl := List.mem_of_getElem? (i := 63) rfl
set_option maxRecDepth 100000 in
theorem kw37 : Jvm.Cond.code ({ cls := "AccessGate", name := "<init>", desc := "()V" } : Jvm.MethodName) prog_1_method_1_code (1 : Nat) (Option.none : Option Jvm.ClassFile.FieldType) ∈ lw_tbl := List.mem_of_getElem? (i := 64) rfl
set_option maxRecDepth 100000 in
theorem kw38 : Jvm.Cond.methodLink "AccessGate" (3 : Nat) ({ cls := "java/lang/Object", name := "<init>", desc := "()V" } : Jvm.MethodName) ∈ lw_tbl := List.mem_of_getElem? (i := 65) rfl
set_option maxRecDepth 100000 in
theorem kw39 : Jvm.Cond.instanceMethod ({ cls := "java/lang/Object", name := "<init>", desc := "()V" } : Jvm.MethodName) ∈ lw_tbl := List.mem_of_getElem? (i := 66) rfl
set_option maxRecDepth 100000 in
theorem kw40 : Jvm.Cond.code ({ cls := "java/lang/Object", name := "<init>", desc := "()V" } : Jvm.MethodName) object_method_1_code (1 : Nat) (Option.none : Option Jvm.ClassFile.FieldType) ∈ lw_tbl := List.mem_of_getElem? (i := 67) rfl
set_option maxRecDepth 100000 in
theorem kw41 : Jvm.Cond.classLink "AccessGate" (9 : Nat) "java/util/ArrayList" ∈ lw_tbl := List.mem_of_getElem? (i := 68) rfl
set_option maxRecDepth 100000 in
theorem kw42 : Jvm.Cond.instantiable "java/util/ArrayList" (3 : Nat) ∈ lw_tbl := List.mem_of_getElem? (i := 69) rfl
set_option maxRecDepth 100000 in
theorem kw43 : Jvm.Cond.methodLink "AccessGate" (11 : Nat) ({ cls := "java/util/ArrayList", name := "<init>", desc := "()V" } : Jvm.MethodName) ∈ lw_tbl := List.mem_of_getElem? (i := 70) rfl
set_option maxRecDepth 100000 in
theorem kw44 : Jvm.Cond.instanceMethod ({ cls := "java/util/ArrayList", name := "<init>", desc := "()V" } : Jvm.MethodName) ∈ lw_tbl := List.mem_of_getElem? (i := 71) rfl
set_option maxRecDepth 100000 in
theorem kw45 : Jvm.Cond.code ({ cls := "java/util/ArrayList", name := "<init>", desc := "()V" } : Jvm.MethodName) prog_25_method_2_code (1 : Nat) (Option.none : Option Jvm.ClassFile.FieldType) ∈ lw_tbl := List.mem_of_getElem? (i := 72) rfl
set_option maxRecDepth 100000 in
theorem kw46 : Jvm.Cond.methodLink "java/util/ArrayList" (1 : Nat) ({ cls := "java/util/AbstractList", name := "<init>", desc := "()V" } : Jvm.MethodName) ∈ lw_tbl := List.mem_of_getElem? (i := 73) rfl
set_option maxRecDepth 100000 in
theorem kw47 : Jvm.Cond.instanceMethod ({ cls := "java/util/AbstractList", name := "<init>", desc := "()V" } : Jvm.MethodName) ∈ lw_tbl := List.mem_of_getElem? (i := 74) rfl
set_option maxRecDepth 100000 in
theorem kw48 : Jvm.Cond.code ({ cls := "java/util/AbstractList", name := "<init>", desc := "()V" } : Jvm.MethodName) prog_24_method_1_code (1 : Nat) (Option.none : Option Jvm.ClassFile.FieldType) ∈ lw_tbl := List.mem_of_getElem? (i := 75) rfl
set_option maxRecDepth 100000 in
theorem kw49 : Jvm.Cond.methodLink "java/util/AbstractList" (1 : Nat) ({ cls := "java/util/AbstractCollection", name := "<init>", desc := "()V" } : Jvm.MethodName) ∈ lw_tbl := List.mem_of_getElem? (i := 76) rfl
set_option maxRecDepth 100000 in
theorem kw50 : Jvm.Cond.instanceMethod ({ cls := "java/util/AbstractCollection", name := "<init>", desc := "()V" } : Jvm.MethodName) ∈ lw_tbl := List.mem_of_getElem? (i := 77) rfl
set_option maxRecDepth 100000 in
theorem kw51 : Jvm.Cond.code ({ cls := "java/util/AbstractCollection", name := "<init>", desc := "()V" } : Jvm.MethodName) prog_23_method_1_code (1 : Nat) (Option.none : Option Jvm.ClassFile.FieldType) ∈ lw_tbl := List.mem_of_getElem? (i := 78) rfl
set_option maxRecDepth 100000 in
theorem kw52 : Jvm.Cond.methodLink "java/util/AbstractCollection" (1 : Nat) ({ cls := "java/lang/Object", name := "<init>", desc := "()V" } : Jvm.MethodName) ∈ lw_tbl := List.mem_of_getElem? (i := 79) rfl
set_option maxRecDepth 100000 in
theorem kw53 : Jvm.Cond.fieldLink "java/util/ArrayList" (39 : Nat) "java/util/ArrayList" "DEFAULTCAPACITY_EMPTY_ELEMENTDATA" "[Ljava/lang/Object;" ∈ lw_tbl := List.mem_of_getElem? (i := 80) rfl
set_option maxRecDepth 100000 in
theorem kw55 : Jvm.Cond.fieldLink "java/util/ArrayList" (9 : Nat) "java/util/ArrayList" "elementData" "[Ljava/lang/Object;" ∈ lw_tbl := List.mem_of_getElem? (i := 82) rfl
set_option maxRecDepth 100000 in
theorem kw56 : Jvm.Cond.fieldLink "java/util/ArrayList" (48 : Nat) "java/util/ArrayList" "size" "I" ∈ lw_tbl := List.mem_of_getElem? (i := 83) rfl
set_option maxRecDepth 100000 in
theorem kw57 : Jvm.Cond.fieldLink "java/util/AbstractList" (7 : Nat) "java/util/AbstractList" "modCount" "I" ∈ lw_tbl := List.mem_of_getElem? (i := 84) rfl
set_option maxRecDepth 100000 in
theorem kw58 : Jvm.Cond.fieldLink "java/util/ArrayList" (63 : Nat) "java/util/ArrayList" "modCount" "I" ∈ lw_tbl := List.mem_of_getElem? (i := 85) rfl
set_option maxRecDepth 100000 in
theorem kw59 : Jvm.Cond.sameField "java/util/ArrayList" "java/util/AbstractList" "modCount" "I" ∈ lw_tbl := List.mem_of_getElem? (i := 86) rfl
set_option maxRecDepth 100000 in
theorem kw67 : Jvm.Cond.classLink "AccessGate" (31 : Nat) "AccessGate$StepRecord" ∈ lw_tbl := List.mem_of_getElem? (i := 94) rfl
set_option maxRecDepth 100000 in
theorem kw68 : Jvm.Cond.instantiable "AccessGate$StepRecord" (4 : Nat) ∈ lw_tbl := List.mem_of_getElem? (i := 95) rfl
set_option maxRecDepth 100000 in
theorem kw69 : Jvm.Cond.methodLinkNest "AccessGate" (33 : Nat) ({ cls := "AccessGate$StepRecord", name := "<init>", desc := "()V" } : Jvm.MethodName) "AccessGate" ∈ lw_tbl := List.mem_of_getElem? (i := 96) rfl
set_option maxRecDepth 100000 in
theorem kw70 : Jvm.Cond.instanceMethod ({ cls := "AccessGate$StepRecord", name := "<init>", desc := "()V" } : Jvm.MethodName) ∈ lw_tbl := List.mem_of_getElem? (i := 97) rfl
set_option maxRecDepth 100000 in
theorem kw71 : Jvm.Cond.code ({ cls := "AccessGate$StepRecord", name := "<init>", desc := "()V" } : Jvm.MethodName) prog_8_method_1_code (1 : Nat) (Option.none : Option Jvm.ClassFile.FieldType) ∈ lw_tbl := List.mem_of_getElem? (i := 98) rfl
set_option maxRecDepth 100000 in
theorem kw72 : Jvm.Cond.methodLink "AccessGate$StepRecord" (3 : Nat) ({ cls := "java/lang/Object", name := "<init>", desc := "()V" } : Jvm.MethodName) ∈ lw_tbl := List.mem_of_getElem? (i := 99) rfl
set_option maxRecDepth 100000 in
theorem kw73 : Jvm.Cond.fieldLink "AccessGate$StepRecord" (9 : Nat) "AccessGate$StepRecord" "kinds" "[I" ∈ lw_tbl := List.mem_of_getElem? (i := 100) rfl
set_option maxRecDepth 100000 in
theorem kw74 : Jvm.Cond.fieldLinkNest "AccessGate" (248 : Nat) "AccessGate$StepRecord" "kinds" "[I" "AccessGate" ∈ lw_tbl := List.mem_of_getElem? (i := 101) rfl
set_option maxRecDepth 100000 in
theorem kw75 : Jvm.Cond.fieldLink "AccessGate$StepRecord" (15 : Nat) "AccessGate$StepRecord" "seals" "[I" ∈ lw_tbl := List.mem_of_getElem? (i := 102) rfl
set_option maxRecDepth 100000 in
theorem kw76 : Jvm.Cond.fieldLinkNest "AccessGate" (252 : Nat) "AccessGate$StepRecord" "seals" "[I" "AccessGate" ∈ lw_tbl := List.mem_of_getElem? (i := 103) rfl
set_option maxRecDepth 100000 in
theorem kw77 : Jvm.Cond.fieldLink "AccessGate$StepRecord" (18 : Nat) "AccessGate$StepRecord" "count" "I" ∈ lw_tbl := List.mem_of_getElem? (i := 104) rfl
set_option maxRecDepth 100000 in
theorem kw78 : Jvm.Cond.fieldLinkNest "AccessGate" (242 : Nat) "AccessGate$StepRecord" "count" "I" "AccessGate" ∈ lw_tbl := List.mem_of_getElem? (i := 105) rfl
set_option maxRecDepth 100000 in
theorem kw79 : Jvm.Cond.fieldLink "AccessGate$StepRecord" (22 : Nat) "AccessGate$StepRecord" "lastSeal" "I" ∈ lw_tbl := List.mem_of_getElem? (i := 106) rfl
set_option maxRecDepth 100000 in
theorem kw89 : Jvm.Cond.arrayClass Jvm.ClassFile.FieldType.int ∈ lw_tbl := List.mem_of_getElem? (i := 116) rfl
set_option maxRecDepth 100000 in
theorem kw90 : Jvm.Cond.fieldLink "AccessGate" (12 : Nat) "AccessGate" "people" "Ljava/util/ArrayList;" ∈ lw_tbl := List.mem_of_getElem? (i := 117) rfl
set_option maxRecDepth 100000 in
theorem kw91 : Jvm.Cond.fieldLink "AccessGate" (16 : Nat) "AccessGate" "machines" "Ljava/util/ArrayList;" ∈ lw_tbl := List.mem_of_getElem? (i := 118) rfl
set_option maxRecDepth 100000 in
theorem kw92 : Jvm.Cond.fieldLink "AccessGate" (19 : Nat) "AccessGate" "asks" "Ljava/util/ArrayList;" ∈ lw_tbl := List.mem_of_getElem? (i := 119) rfl
set_option maxRecDepth 100000 in
theorem kw93 : Jvm.Cond.fieldLink "AccessGate" (22 : Nat) "AccessGate" "entries" "Ljava/util/ArrayList;" ∈ lw_tbl := List.mem_of_getElem? (i := 120) rfl
set_option maxRecDepth 100000 in
theorem kw94 : Jvm.Cond.fieldLink "AccessGate" (25 : Nat) "AccessGate" "rights" "Ljava/util/ArrayList;" ∈ lw_tbl := List.mem_of_getElem? (i := 121) rfl
set_option maxRecDepth 100000 in
theorem kw95 : Jvm.Cond.fieldLink "AccessGate" (28 : Nat) "AccessGate" "sessions" "Ljava/util/ArrayList;" ∈ lw_tbl := List.mem_of_getElem? (i := 122) rfl
set_option maxRecDepth 100000 in
theorem kw96 : Jvm.Cond.fieldLink "AccessGate" (34 : Nat) "AccessGate" "record" "LAccessGate$StepRecord;" ∈ lw_tbl := List.mem_of_getElem? (i := 123) rfl
set_option maxRecDepth 100000 in
theorem kw97 : Jvm.Cond.fieldLink "AccessGate" (38 : Nat) "AccessGate" "openCount" "I" ∈ lw_tbl := List.mem_of_getElem? (i := 124) rfl
set_option maxRecDepth 100000 in
theorem kw98 : Jvm.Cond.fieldLink "AccessGate" (42 : Nat) "AccessGate" "now" "I" ∈ lw_tbl := List.mem_of_getElem? (i := 125) rfl
set_option maxRecDepth 100000 in
theorem kw118 : Jvm.Cond.methodLink "AccessGateLaw" (165 : Nat) ({ cls := "AccessGateLaw", name := "from", desc := "([III)I" } : Jvm.MethodName) ∈ lw_tbl := List.mem_of_getElem? (i := 145) rfl
set_option maxRecDepth 100000 in
theorem kw119 : Jvm.Cond.static ({ cls := "AccessGateLaw", name := "from", desc := "([III)I" } : Jvm.MethodName) ∈ lw_tbl := List.mem_of_getElem? (i := 146) rfl
set_option maxRecDepth 100000 in
theorem kw120 : Jvm.Cond.code ({ cls := "AccessGateLaw", name := "from", desc := "([III)I" } : Jvm.MethodName) method_2_code (4 : Nat) (Option.some Jvm.ClassFile.FieldType.int) ∈ lw_tbl := List.mem_of_getElem? (i := 147) rfl
set_option maxRecDepth 100000 in
theorem kw121 : Jvm.Cond.constant "AccessGateLaw" (7 : Nat) (136999 : Int32) ∈ lw_tbl := List.mem_of_getElem? (i := 148) rfl
set_option maxRecDepth 100000 in
theorem kw122 : Jvm.Cond.constant "AccessGateLaw" (8 : Nat) (2147483647 : Int32) ∈ lw_tbl := List.mem_of_getElem? (i := 149) rfl
set_option maxRecDepth 100000 in
theorem kw123 : Jvm.Cond.methodLink "AccessGateLaw" (169 : Nat) ({ cls := "AccessGate", name := "addPerson", desc := "(I)I" } : Jvm.MethodName) ∈ lw_tbl := List.mem_of_getElem? (i := 150) rfl
set_option maxRecDepth 100000 in
theorem kw124 : Jvm.Cond.instanceMethod ({ cls := "AccessGate", name := "addPerson", desc := "(I)I" } : Jvm.MethodName) ∈ lw_tbl := List.mem_of_getElem? (i := 151) rfl
set_option maxRecDepth 100000 in
theorem kw125 : Jvm.Cond.selects "AccessGate" ({ cls := "AccessGate", name := "addPerson", desc := "(I)I" } : Jvm.MethodName) ({ cls := "AccessGate", name := "addPerson", desc := "(I)I" } : Jvm.MethodName) ∈ lw_tbl := List.mem_of_getElem? (i := 152) rfl
set_option maxRecDepth 100000 in
theorem kw126 : Jvm.Cond.code ({ cls := "AccessGate", name := "addPerson", desc := "(I)I" } : Jvm.MethodName) prog_1_method_2_code (3 : Nat) (Option.some Jvm.ClassFile.FieldType.int) ∈ lw_tbl := List.mem_of_getElem? (i := 153) rfl
set_option maxRecDepth 100000 in
theorem kw127 : Jvm.Cond.classLink "AccessGate" (45 : Nat) "java/lang/IllegalArgumentException" ∈ lw_tbl := List.mem_of_getElem? (i := 154) rfl
set_option maxRecDepth 100000 in
theorem kw128 : Jvm.Cond.instantiable "java/lang/IllegalArgumentException" (6 : Nat) ∈ lw_tbl := List.mem_of_getElem? (i := 155) rfl
set_option maxRecDepth 100000 in
theorem kw129 : Jvm.Cond.castable "java/lang/IllegalArgumentException" "java/lang/IllegalArgumentException" ∈ lw_tbl := List.mem_of_getElem? (i := 156) rfl
set_option maxRecDepth 100000 in
theorem kw130 : Jvm.Cond.declares ({ cls := "java/lang/RuntimeException", name := "<init>", desc := "()V" } : Jvm.MethodName) ∈ lw_tbl := List.mem_of_getElem? (i := 157) rfl
set_option maxRecDepth 100000 in
theorem kw131 : Jvm.Cond.declares ({ cls := "java/lang/RuntimeException", name := "<init>", desc := "(Ljava/lang/String;)V" } : Jvm.MethodName) ∈ lw_tbl := List.mem_of_getElem? (i := 158) rfl
set_option maxRecDepth 100000 in
theorem kw132 : Jvm.Cond.declares ({ cls := "java/lang/Exception", name := "<init>", desc := "()V" } : Jvm.MethodName) ∈ lw_tbl := List.mem_of_getElem? (i := 159) rfl
set_option maxRecDepth 100000 in
theorem kw133 : Jvm.Cond.declares ({ cls := "java/lang/Exception", name := "<init>", desc := "(Ljava/lang/String;)V" } : Jvm.MethodName) ∈ lw_tbl := List.mem_of_getElem? (i := 160) rfl
set_option maxRecDepth 100000 in
theorem kw134 : Jvm.Cond.declares ({ cls := "java/lang/Throwable", name := "<init>", desc := "()V" } : Jvm.MethodName) ∈ lw_tbl := List.mem_of_getElem? (i := 161) rfl
set_option maxRecDepth 100000 in
theorem kw135 : Jvm.Cond.declares ({ cls := "java/lang/Throwable", name := "<init>", desc := "(Ljava/lang/String;)V" } : Jvm.MethodName) ∈ lw_tbl := List.mem_of_getElem? (i := 162) rfl
set_option maxRecDepth 100000 in
theorem kw136 : Jvm.Cond.selects "java/lang/IllegalArgumentException" ({ cls := "java/lang/Throwable", name := "fillInStackTrace", desc := "(I)Ljava/lang/Throwable;" } : Jvm.MethodName) ({ cls := "java/lang/Throwable", name := "fillInStackTrace", desc := "(I)Ljava/lang/Throwable;" } : Jvm.MethodName) ∈ lw_tbl := List.mem_of_getElem? (i := 163) rfl
set_option maxRecDepth 100000 in
theorem kw137 : Jvm.Cond.selects "java/lang/IllegalArgumentException" ({ cls := "java/lang/Throwable", name := "fillInStackTrace", desc := "()Ljava/lang/Throwable;" } : Jvm.MethodName) ({ cls := "java/lang/Throwable", name := "fillInStackTrace", desc := "()Ljava/lang/Throwable;" } : Jvm.MethodName) ∈ lw_tbl := List.mem_of_getElem? (i := 164) rfl
set_option maxRecDepth 100000 in
theorem kw148 : Jvm.Cond.fieldLink "java/lang/Throwable" (198 : Nat) "java/lang/Throwable" "backtrace" "Ljava/lang/Object;" ∈ lw_tbl := List.mem_of_getElem? (i := 175) rfl
set_option maxRecDepth 100000 in
theorem kw150 : Jvm.Cond.instanceMethod ({ cls := "java/lang/Throwable", name := "<init>", desc := "()V" } : Jvm.MethodName) ∈ lw_tbl := List.mem_of_getElem? (i := 177) rfl
set_option maxRecDepth 100000 in
theorem kw151 : Jvm.Cond.code ({ cls := "java/lang/Throwable", name := "<init>", desc := "()V" } : Jvm.MethodName) prog_22_method_1_code (1 : Nat) (Option.none : Option Jvm.ClassFile.FieldType) ∈ lw_tbl := List.mem_of_getElem? (i := 178) rfl
set_option maxRecDepth 100000 in
theorem kw152 : Jvm.Cond.methodLink "java/lang/Throwable" (1 : Nat) ({ cls := "java/lang/Object", name := "<init>", desc := "()V" } : Jvm.MethodName) ∈ lw_tbl := List.mem_of_getElem? (i := 179) rfl
set_option maxRecDepth 100000 in
theorem kw153 : Jvm.Cond.fieldLink "java/lang/Throwable" (13 : Nat) "java/lang/Throwable" "UNASSIGNED_STACK" "[Ljava/lang/StackTraceElement;" ∈ lw_tbl := List.mem_of_getElem? (i := 180) rfl
set_option maxRecDepth 100000 in
theorem kw155 : Jvm.Cond.fieldLink "java/lang/Throwable" (20 : Nat) "java/lang/Throwable" "SUPPRESSED_SENTINEL" "Ljava/util/List;" ∈ lw_tbl := List.mem_of_getElem? (i := 182) rfl
set_option maxRecDepth 100000 in
theorem kw157 : Jvm.Cond.methodLink "java/lang/Throwable" (27 : Nat) ({ cls := "java/lang/Throwable", name := "fillInStackTrace", desc := "()Ljava/lang/Throwable;" } : Jvm.MethodName) ∈ lw_tbl := List.mem_of_getElem? (i := 184) rfl
set_option maxRecDepth 100000 in
theorem kw158 : Jvm.Cond.instanceMethod ({ cls := "java/lang/Throwable", name := "fillInStackTrace", desc := "()Ljava/lang/Throwable;" } : Jvm.MethodName) ∈ lw_tbl := List.mem_of_getElem? (i := 185) rfl
set_option maxRecDepth 100000 in
theorem kw160 : Jvm.Cond.selects "java/lang/IllegalStateException" ({ cls := "java/lang/Throwable", name := "fillInStackTrace", desc := "()Ljava/lang/Throwable;" } : Jvm.MethodName) ({ cls := "java/lang/Throwable", name := "fillInStackTrace", desc := "()Ljava/lang/Throwable;" } : Jvm.MethodName) ∈ lw_tbl := List.mem_of_getElem? (i := 187) rfl
set_option maxRecDepth 100000 in
theorem kw161 : Jvm.Cond.selects "java/lang/IndexOutOfBoundsException" ({ cls := "java/lang/Throwable", name := "fillInStackTrace", desc := "()Ljava/lang/Throwable;" } : Jvm.MethodName) ({ cls := "java/lang/Throwable", name := "fillInStackTrace", desc := "()Ljava/lang/Throwable;" } : Jvm.MethodName) ∈ lw_tbl := List.mem_of_getElem? (i := 188) rfl
set_option maxRecDepth 100000 in
theorem kw163 : Jvm.Cond.methodLink "java/lang/Throwable" (202 : Nat) ({ cls := "java/lang/Throwable", name := "fillInStackTrace", desc := "(I)Ljava/lang/Throwable;" } : Jvm.MethodName) ∈ lw_tbl := List.mem_of_getElem? (i := 190) rfl
set_option maxRecDepth 100000 in
theorem kw165 : Jvm.Cond.instanceMethod ({ cls := "java/lang/Throwable", name := "fillInStackTrace", desc := "(I)Ljava/lang/Throwable;" } : Jvm.MethodName) ∈ lw_tbl := List.mem_of_getElem? (i := 192) rfl
set_option maxRecDepth 100000 in
theorem kw166 : Jvm.Cond.instantiable "java/lang/Throwable" (6 : Nat) ∈ lw_tbl := List.mem_of_getElem? (i := 193) rfl
set_option maxRecDepth 100000 in
theorem kw167 : Jvm.Cond.native ({ cls := "java/lang/Throwable", name := "fillInStackTrace", desc := "(I)Ljava/lang/Throwable;" } : Jvm.MethodName) ∈ lw_tbl := List.mem_of_getElem? (i := 194) rfl
set_option maxRecDepth 100000 in
theorem kw169 : Jvm.Cond.methodLink "AccessGate" (49 : Nat) ({ cls := "java/lang/IllegalArgumentException", name := "<init>", desc := "(Ljava/lang/String;)V" } : Jvm.MethodName) ∈ lw_tbl := List.mem_of_getElem? (i := 196) rfl
set_option maxRecDepth 100000 in
theorem kw170 : Jvm.Cond.instanceMethod ({ cls := "java/lang/IllegalArgumentException", name := "<init>", desc := "(Ljava/lang/String;)V" } : Jvm.MethodName) ∈ lw_tbl := List.mem_of_getElem? (i := 197) rfl
set_option maxRecDepth 100000 in
theorem kw171 : Jvm.Cond.code ({ cls := "java/lang/IllegalArgumentException", name := "<init>", desc := "(Ljava/lang/String;)V" } : Jvm.MethodName) prog_14_method_2_code (2 : Nat) (Option.none : Option Jvm.ClassFile.FieldType) ∈ lw_tbl := List.mem_of_getElem? (i := 198) rfl
set_option maxRecDepth 100000 in
theorem kw172 : Jvm.Cond.methodLink "java/lang/IllegalArgumentException" (7 : Nat) ({ cls := "java/lang/RuntimeException", name := "<init>", desc := "(Ljava/lang/String;)V" } : Jvm.MethodName) ∈ lw_tbl := List.mem_of_getElem? (i := 199) rfl
set_option maxRecDepth 100000 in
theorem kw173 : Jvm.Cond.instanceMethod ({ cls := "java/lang/RuntimeException", name := "<init>", desc := "(Ljava/lang/String;)V" } : Jvm.MethodName) ∈ lw_tbl := List.mem_of_getElem? (i := 200) rfl
set_option maxRecDepth 100000 in
theorem kw174 : Jvm.Cond.code ({ cls := "java/lang/RuntimeException", name := "<init>", desc := "(Ljava/lang/String;)V" } : Jvm.MethodName) prog_19_method_2_code (2 : Nat) (Option.none : Option Jvm.ClassFile.FieldType) ∈ lw_tbl := List.mem_of_getElem? (i := 201) rfl
set_option maxRecDepth 100000 in
theorem kw175 : Jvm.Cond.methodLink "java/lang/RuntimeException" (7 : Nat) ({ cls := "java/lang/Exception", name := "<init>", desc := "(Ljava/lang/String;)V" } : Jvm.MethodName) ∈ lw_tbl := List.mem_of_getElem? (i := 202) rfl
set_option maxRecDepth 100000 in
theorem kw176 : Jvm.Cond.instanceMethod ({ cls := "java/lang/Exception", name := "<init>", desc := "(Ljava/lang/String;)V" } : Jvm.MethodName) ∈ lw_tbl := List.mem_of_getElem? (i := 203) rfl
set_option maxRecDepth 100000 in
theorem kw177 : Jvm.Cond.code ({ cls := "java/lang/Exception", name := "<init>", desc := "(Ljava/lang/String;)V" } : Jvm.MethodName) prog_13_method_2_code (2 : Nat) (Option.none : Option Jvm.ClassFile.FieldType) ∈ lw_tbl := List.mem_of_getElem? (i := 204) rfl
set_option maxRecDepth 100000 in
theorem kw178 : Jvm.Cond.methodLink "java/lang/Exception" (7 : Nat) ({ cls := "java/lang/Throwable", name := "<init>", desc := "(Ljava/lang/String;)V" } : Jvm.MethodName) ∈ lw_tbl := List.mem_of_getElem? (i := 205) rfl
set_option maxRecDepth 100000 in
theorem kw179 : Jvm.Cond.instanceMethod ({ cls := "java/lang/Throwable", name := "<init>", desc := "(Ljava/lang/String;)V" } : Jvm.MethodName) ∈ lw_tbl := List.mem_of_getElem? (i := 206) rfl
set_option maxRecDepth 100000 in
theorem kw180 : Jvm.Cond.code ({ cls := "java/lang/Throwable", name := "<init>", desc := "(Ljava/lang/String;)V" } : Jvm.MethodName) prog_22_method_2_code (2 : Nat) (Option.none : Option Jvm.ClassFile.FieldType) ∈ lw_tbl := List.mem_of_getElem? (i := 207) rfl
set_option maxRecDepth 100000 in
theorem kw181 : Jvm.Cond.fieldLink "java/lang/Throwable" (198 : Nat) "java/lang/Throwable" "backtrace" "Ljava/lang/Object;" ∈ lw_tbl := List.mem_of_getElem? (i := 208) rfl
set_option maxRecDepth 100000 in
theorem kw182 : Jvm.Cond.fieldLink "java/lang/Throwable" (31 : Nat) "java/lang/Throwable" "detailMessage" "Ljava/lang/String;" ∈ lw_tbl := List.mem_of_getElem? (i := 209) rfl
set_option maxRecDepth 100000 in
theorem kw183 : Jvm.Cond.fieldLink "java/lang/Throwable" (7 : Nat) "java/lang/Throwable" "cause" "Ljava/lang/Throwable;" ∈ lw_tbl := List.mem_of_getElem? (i := 210) rfl
set_option maxRecDepth 100000 in
theorem kw184 : Jvm.Cond.fieldLink "java/lang/Throwable" (17 : Nat) "java/lang/Throwable" "stackTrace" "[Ljava/lang/StackTraceElement;" ∈ lw_tbl := List.mem_of_getElem? (i := 211) rfl
set_option maxRecDepth 100000 in
theorem kw185 : Jvm.Cond.fieldLink "java/lang/Throwable" (24 : Nat) "java/lang/Throwable" "suppressedExceptions" "Ljava/util/List;" ∈ lw_tbl := List.mem_of_getElem? (i := 212) rfl
set_option maxRecDepth 100000 in
theorem kw194 : Jvm.Cond.arrayClass Jvm.ClassFile.FieldType.byte ∈ lw_tbl := List.mem_of_getElem? (i := 221) rfl
set_option maxRecDepth 100000 in
theorem kw195 : Jvm.Cond.methodLink "AccessGate" (52 : Nat) ({ cls := "java/util/ArrayList", name := "size", desc := "()I" } : Jvm.MethodName) ∈ lw_tbl := List.mem_of_getElem? (i := 222) rfl
set_option maxRecDepth 100000 in
theorem kw196 : Jvm.Cond.instanceMethod ({ cls := "java/util/ArrayList", name := "size", desc := "()I" } : Jvm.MethodName) ∈ lw_tbl := List.mem_of_getElem? (i := 223) rfl
set_option maxRecDepth 100000 in
theorem kw197 : Jvm.Cond.selects "java/util/ArrayList" ({ cls := "java/util/ArrayList", name := "size", desc := "()I" } : Jvm.MethodName) ({ cls := "java/util/ArrayList", name := "size", desc := "()I" } : Jvm.MethodName) ∈ lw_tbl := List.mem_of_getElem? (i := 224) rfl
set_option maxRecDepth 100000 in
theorem kw198 : Jvm.Cond.code ({ cls := "java/util/ArrayList", name := "size", desc := "()I" } : Jvm.MethodName) prog_25_method_8_code (1 : Nat) (Option.some Jvm.ClassFile.FieldType.int) ∈ lw_tbl := List.mem_of_getElem? (i := 225) rfl
set_option maxRecDepth 100000 in
theorem kw199 : Jvm.Cond.classLink "AccessGate" (56 : Nat) "java/lang/IllegalStateException" ∈ lw_tbl := List.mem_of_getElem? (i := 226) rfl
set_option maxRecDepth 100000 in
theorem kw200 : Jvm.Cond.instantiable "java/lang/IllegalStateException" (6 : Nat) ∈ lw_tbl := List.mem_of_getElem? (i := 227) rfl
set_option maxRecDepth 100000 in
theorem kw201 : Jvm.Cond.castable "java/lang/IllegalStateException" "java/lang/IllegalStateException" ∈ lw_tbl := List.mem_of_getElem? (i := 228) rfl
set_option maxRecDepth 100000 in
theorem kw202 : Jvm.Cond.selects "java/lang/IllegalStateException" ({ cls := "java/lang/Throwable", name := "fillInStackTrace", desc := "(I)Ljava/lang/Throwable;" } : Jvm.MethodName) ({ cls := "java/lang/Throwable", name := "fillInStackTrace", desc := "(I)Ljava/lang/Throwable;" } : Jvm.MethodName) ∈ lw_tbl := List.mem_of_getElem? (i := 229) rfl
set_option maxRecDepth 100000 in
theorem kw209 : Jvm.Cond.methodLink "AccessGate" (60 : Nat) ({ cls := "java/lang/IllegalStateException", name := "<init>", desc := "(Ljava/lang/String;)V" } : Jvm.MethodName) ∈ lw_tbl := List.mem_of_getElem? (i := 236) rfl
set_option maxRecDepth 100000 in
theorem kw210 : Jvm.Cond.instanceMethod ({ cls := "java/lang/IllegalStateException", name := "<init>", desc := "(Ljava/lang/String;)V" } : Jvm.MethodName) ∈ lw_tbl := List.mem_of_getElem? (i := 237) rfl
set_option maxRecDepth 100000 in
theorem kw211 : Jvm.Cond.code ({ cls := "java/lang/IllegalStateException", name := "<init>", desc := "(Ljava/lang/String;)V" } : Jvm.MethodName) prog_15_method_2_code (2 : Nat) (Option.none : Option Jvm.ClassFile.FieldType) ∈ lw_tbl := List.mem_of_getElem? (i := 238) rfl
set_option maxRecDepth 100000 in
theorem kw212 : Jvm.Cond.methodLink "java/lang/IllegalStateException" (7 : Nat) ({ cls := "java/lang/RuntimeException", name := "<init>", desc := "(Ljava/lang/String;)V" } : Jvm.MethodName) ∈ lw_tbl := List.mem_of_getElem? (i := 239) rfl
set_option maxRecDepth 100000 in
theorem kw215 : Jvm.Cond.classLink "AccessGate" (61 : Nat) "AccessGate$Person" ∈ lw_tbl := List.mem_of_getElem? (i := 242) rfl
set_option maxRecDepth 100000 in
theorem kw216 : Jvm.Cond.instantiable "AccessGate$Person" (3 : Nat) ∈ lw_tbl := List.mem_of_getElem? (i := 243) rfl
set_option maxRecDepth 100000 in
theorem kw217 : Jvm.Cond.methodLinkNest "AccessGate" (63 : Nat) ({ cls := "AccessGate$Person", name := "<init>", desc := "(II)V" } : Jvm.MethodName) "AccessGate" ∈ lw_tbl := List.mem_of_getElem? (i := 244) rfl
set_option maxRecDepth 100000 in
theorem kw218 : Jvm.Cond.instanceMethod ({ cls := "AccessGate$Person", name := "<init>", desc := "(II)V" } : Jvm.MethodName) ∈ lw_tbl := List.mem_of_getElem? (i := 245) rfl
set_option maxRecDepth 100000 in
theorem kw219 : Jvm.Cond.code ({ cls := "AccessGate$Person", name := "<init>", desc := "(II)V" } : Jvm.MethodName) prog_5_method_1_code (3 : Nat) (Option.none : Option Jvm.ClassFile.FieldType) ∈ lw_tbl := List.mem_of_getElem? (i := 246) rfl
set_option maxRecDepth 100000 in
theorem kw220 : Jvm.Cond.methodLink "AccessGate$Person" (1 : Nat) ({ cls := "java/lang/Object", name := "<init>", desc := "()V" } : Jvm.MethodName) ∈ lw_tbl := List.mem_of_getElem? (i := 247) rfl
set_option maxRecDepth 100000 in
theorem kw221 : Jvm.Cond.fieldLink "AccessGate$Person" (13 : Nat) "AccessGate$Person" "number" "I" ∈ lw_tbl := List.mem_of_getElem? (i := 248) rfl
set_option maxRecDepth 100000 in
theorem kw222 : Jvm.Cond.fieldLinkNest "AccessGate$StepRecord" (25 : Nat) "AccessGate$Person" "number" "I" "AccessGate" ∈ lw_tbl := List.mem_of_getElem? (i := 249) rfl
set_option maxRecDepth 100000 in
theorem kw223 : Jvm.Cond.fieldLink "AccessGate$Person" (16 : Nat) "AccessGate$Person" "team" "I" ∈ lw_tbl := List.mem_of_getElem? (i := 250) rfl
set_option maxRecDepth 100000 in
theorem kw224 : Jvm.Cond.fieldLinkNest "AccessGate" (173 : Nat) "AccessGate$Person" "team" "I" "AccessGate" ∈ lw_tbl := List.mem_of_getElem? (i := 251) rfl
set_option maxRecDepth 100000 in
theorem kw225 : Jvm.Cond.fieldLink "AccessGate$Person" (7 : Nat) "AccessGate$Person" "labelBits" "I" ∈ lw_tbl := List.mem_of_getElem? (i := 252) rfl
set_option maxRecDepth 100000 in
theorem kw233 : Jvm.Cond.methodLink "AccessGate" (66 : Nat) ({ cls := "java/util/ArrayList", name := "add", desc := "(Ljava/lang/Object;)Z" } : Jvm.MethodName) ∈ lw_tbl := List.mem_of_getElem? (i := 260) rfl
set_option maxRecDepth 100000 in
theorem kw234 : Jvm.Cond.instanceMethod ({ cls := "java/util/ArrayList", name := "add", desc := "(Ljava/lang/Object;)Z" } : Jvm.MethodName) ∈ lw_tbl := List.mem_of_getElem? (i := 261) rfl
set_option maxRecDepth 100000 in
theorem kw235 : Jvm.Cond.selects "java/util/ArrayList" ({ cls := "java/util/ArrayList", name := "add", desc := "(Ljava/lang/Object;)Z" } : Jvm.MethodName) ({ cls := "java/util/ArrayList", name := "add", desc := "(Ljava/lang/Object;)Z" } : Jvm.MethodName) ∈ lw_tbl := List.mem_of_getElem? (i := 262) rfl
set_option maxRecDepth 100000 in
theorem kw236 : Jvm.Cond.code ({ cls := "java/util/ArrayList", name := "add", desc := "(Ljava/lang/Object;)Z" } : Jvm.MethodName) prog_25_method_25_code (2 : Nat) (Option.some Jvm.ClassFile.FieldType.boolean) ∈ lw_tbl := List.mem_of_getElem? (i := 263) rfl
set_option maxRecDepth 100000 in
theorem kw237 : Jvm.Cond.methodLink "java/util/ArrayList" (131 : Nat) ({ cls := "java/util/ArrayList", name := "add", desc := "(Ljava/lang/Object;[Ljava/lang/Object;I)V" } : Jvm.MethodName) ∈ lw_tbl := List.mem_of_getElem? (i := 264) rfl
set_option maxRecDepth 100000 in
theorem kw239 : Jvm.Cond.instanceMethod ({ cls := "java/util/ArrayList", name := "add", desc := "(Ljava/lang/Object;[Ljava/lang/Object;I)V" } : Jvm.MethodName) ∈ lw_tbl := List.mem_of_getElem? (i := 266) rfl
set_option maxRecDepth 100000 in
theorem kw240 : Jvm.Cond.code ({ cls := "java/util/ArrayList", name := "add", desc := "(Ljava/lang/Object;[Ljava/lang/Object;I)V" } : Jvm.MethodName) prog_25_method_24_code (4 : Nat) (Option.none : Option Jvm.ClassFile.FieldType) ∈ lw_tbl := List.mem_of_getElem? (i := 267) rfl
set_option maxRecDepth 100000 in
theorem kw241 : Jvm.Cond.methodLink "java/util/ArrayList" (129 : Nat) ({ cls := "java/util/ArrayList", name := "grow", desc := "()[Ljava/lang/Object;" } : Jvm.MethodName) ∈ lw_tbl := List.mem_of_getElem? (i := 268) rfl
set_option maxRecDepth 100000 in
theorem kw243 : Jvm.Cond.instanceMethod ({ cls := "java/util/ArrayList", name := "grow", desc := "()[Ljava/lang/Object;" } : Jvm.MethodName) ∈ lw_tbl := List.mem_of_getElem? (i := 270) rfl
set_option maxRecDepth 100000 in
theorem kw244 : Jvm.Cond.code ({ cls := "java/util/ArrayList", name := "grow", desc := "()[Ljava/lang/Object;" } : Jvm.MethodName) prog_25_method_7_code (1 : Nat) (Option.some (Jvm.ClassFile.FieldType.array (Jvm.ClassFile.FieldType.object "java/lang/Object"))) ∈ lw_tbl := List.mem_of_getElem? (i := 271) rfl
set_option maxRecDepth 100000 in
theorem kw245 : Jvm.Cond.methodLink "java/util/ArrayList" (69 : Nat) ({ cls := "java/util/ArrayList", name := "grow", desc := "(I)[Ljava/lang/Object;" } : Jvm.MethodName) ∈ lw_tbl := List.mem_of_getElem? (i := 272) rfl
set_option maxRecDepth 100000 in
theorem kw247 : Jvm.Cond.instanceMethod ({ cls := "java/util/ArrayList", name := "grow", desc := "(I)[Ljava/lang/Object;" } : Jvm.MethodName) ∈ lw_tbl := List.mem_of_getElem? (i := 274) rfl
set_option maxRecDepth 100000 in
theorem kw248 : Jvm.Cond.code ({ cls := "java/util/ArrayList", name := "grow", desc := "(I)[Ljava/lang/Object;" } : Jvm.MethodName) prog_25_method_6_code (4 : Nat) (Option.some (Jvm.ClassFile.FieldType.array (Jvm.ClassFile.FieldType.object "java/lang/Object"))) ∈ lw_tbl := List.mem_of_getElem? (i := 275) rfl
set_option maxRecDepth 100000 in
theorem kw249 : Jvm.Cond.methodLink "java/util/ArrayList" (73 : Nat) ({ cls := "jdk/internal/util/ArraysSupport", name := "newLength", desc := "(III)I" } : Jvm.MethodName) ∈ lw_tbl := List.mem_of_getElem? (i := 276) rfl
set_option maxRecDepth 100000 in
theorem kw250 : Jvm.Cond.static ({ cls := "jdk/internal/util/ArraysSupport", name := "newLength", desc := "(III)I" } : Jvm.MethodName) ∈ lw_tbl := List.mem_of_getElem? (i := 277) rfl
set_option maxRecDepth 100000 in
theorem kw251 : Jvm.Cond.code ({ cls := "jdk/internal/util/ArraysSupport", name := "newLength", desc := "(III)I" } : Jvm.MethodName) prog_32_method_27_code (4 : Nat) (Option.some Jvm.ClassFile.FieldType.int) ∈ lw_tbl := List.mem_of_getElem? (i := 278) rfl
set_option maxRecDepth 100000 in
theorem kw252 : Jvm.Cond.methodLink "jdk/internal/util/ArraysSupport" (194 : Nat) ({ cls := "java/lang/Math", name := "max", desc := "(II)I" } : Jvm.MethodName) ∈ lw_tbl := List.mem_of_getElem? (i := 279) rfl
set_option maxRecDepth 100000 in
theorem kw253 : Jvm.Cond.static ({ cls := "java/lang/Math", name := "max", desc := "(II)I" } : Jvm.MethodName) ∈ lw_tbl := List.mem_of_getElem? (i := 280) rfl
set_option maxRecDepth 100000 in
theorem kw254 : Jvm.Cond.code ({ cls := "java/lang/Math", name := "max", desc := "(II)I" } : Jvm.MethodName) prog_18_method_65_code (2 : Nat) (Option.some Jvm.ClassFile.FieldType.int) ∈ lw_tbl := List.mem_of_getElem? (i := 281) rfl
set_option maxRecDepth 100000 in
theorem kw255 : Jvm.Cond.constant "jdk/internal/util/ArraysSupport" (200 : Nat) (2147483639 : Int32) ∈ lw_tbl := List.mem_of_getElem? (i := 282) rfl
set_option maxRecDepth 100000 in
theorem kw256 : Jvm.Cond.methodLink "jdk/internal/util/ArraysSupport" (201 : Nat) ({ cls := "jdk/internal/util/ArraysSupport", name := "hugeLength", desc := "(II)I" } : Jvm.MethodName) ∈ lw_tbl := List.mem_of_getElem? (i := 283) rfl
set_option maxRecDepth 100000 in
theorem kw257 : Jvm.Cond.static ({ cls := "jdk/internal/util/ArraysSupport", name := "hugeLength", desc := "(II)I" } : Jvm.MethodName) ∈ lw_tbl := List.mem_of_getElem? (i := 284) rfl
set_option maxRecDepth 100000 in
theorem kw258 : Jvm.Cond.code ({ cls := "jdk/internal/util/ArraysSupport", name := "hugeLength", desc := "(II)I" } : Jvm.MethodName) prog_32_method_28_code (3 : Nat) (Option.some Jvm.ClassFile.FieldType.int) ∈ lw_tbl := List.mem_of_getElem? (i := 285) rfl
set_option maxRecDepth 100000 in
theorem kw259 : Jvm.Cond.methodLink "java/util/ArrayList" (66 : Nat) ({ cls := "java/util/Arrays", name := "copyOf", desc := "([Ljava/lang/Object;I)[Ljava/lang/Object;" } : Jvm.MethodName) ∈ lw_tbl := List.mem_of_getElem? (i := 286) rfl
set_option maxRecDepth 100000 in
theorem kw260 : Jvm.Cond.static ({ cls := "java/util/Arrays", name := "copyOf", desc := "([Ljava/lang/Object;I)[Ljava/lang/Object;" } : Jvm.MethodName) ∈ lw_tbl := List.mem_of_getElem? (i := 287) rfl
set_option maxRecDepth 100000 in
theorem kw261 : Jvm.Cond.code ({ cls := "java/util/Arrays", name := "copyOf", desc := "([Ljava/lang/Object;I)[Ljava/lang/Object;" } : Jvm.MethodName) prog_26_method_119_code (2 : Nat) (Option.some (Jvm.ClassFile.FieldType.array (Jvm.ClassFile.FieldType.object "java/lang/Object"))) ∈ lw_tbl := List.mem_of_getElem? (i := 288) rfl
set_option maxRecDepth 100000 in
theorem kw262 : Jvm.Cond.methodLink "java/util/Arrays" (86 : Nat) ({ cls := "java/lang/Object", name := "getClass", desc := "()Ljava/lang/Class;" } : Jvm.MethodName) ∈ lw_tbl := List.mem_of_getElem? (i := 289) rfl
set_option maxRecDepth 100000 in
theorem kw263 : Jvm.Cond.instanceMethod ({ cls := "java/lang/Object", name := "getClass", desc := "()Ljava/lang/Class;" } : Jvm.MethodName) ∈ lw_tbl := List.mem_of_getElem? (i := 290) rfl
set_option maxRecDepth 100000 in
theorem kw265 : Jvm.Cond.selects "AccessGate" ({ cls := "java/lang/Object", name := "getClass", desc := "()Ljava/lang/Class;" } : Jvm.MethodName) ({ cls := "java/lang/Object", name := "getClass", desc := "()Ljava/lang/Class;" } : Jvm.MethodName) ∈ lw_tbl := List.mem_of_getElem? (i := 292) rfl
set_option maxRecDepth 100000 in
theorem kw266 : Jvm.Cond.selects "AccessGate$Ask" ({ cls := "java/lang/Object", name := "getClass", desc := "()Ljava/lang/Class;" } : Jvm.MethodName) ({ cls := "java/lang/Object", name := "getClass", desc := "()Ljava/lang/Class;" } : Jvm.MethodName) ∈ lw_tbl := List.mem_of_getElem? (i := 293) rfl
set_option maxRecDepth 100000 in
theorem kw267 : Jvm.Cond.selects "AccessGate$Entry" ({ cls := "java/lang/Object", name := "getClass", desc := "()Ljava/lang/Class;" } : Jvm.MethodName) ({ cls := "java/lang/Object", name := "getClass", desc := "()Ljava/lang/Class;" } : Jvm.MethodName) ∈ lw_tbl := List.mem_of_getElem? (i := 294) rfl
set_option maxRecDepth 100000 in
theorem kw268 : Jvm.Cond.selects "AccessGate$Machine" ({ cls := "java/lang/Object", name := "getClass", desc := "()Ljava/lang/Class;" } : Jvm.MethodName) ({ cls := "java/lang/Object", name := "getClass", desc := "()Ljava/lang/Class;" } : Jvm.MethodName) ∈ lw_tbl := List.mem_of_getElem? (i := 295) rfl
set_option maxRecDepth 100000 in
theorem kw269 : Jvm.Cond.selects "AccessGate$Person" ({ cls := "java/lang/Object", name := "getClass", desc := "()Ljava/lang/Class;" } : Jvm.MethodName) ({ cls := "java/lang/Object", name := "getClass", desc := "()Ljava/lang/Class;" } : Jvm.MethodName) ∈ lw_tbl := List.mem_of_getElem? (i := 296) rfl
set_option maxRecDepth 100000 in
theorem kw270 : Jvm.Cond.selects "AccessGate$Right" ({ cls := "java/lang/Object", name := "getClass", desc := "()Ljava/lang/Class;" } : Jvm.MethodName) ({ cls := "java/lang/Object", name := "getClass", desc := "()Ljava/lang/Class;" } : Jvm.MethodName) ∈ lw_tbl := List.mem_of_getElem? (i := 297) rfl
set_option maxRecDepth 100000 in
theorem kw271 : Jvm.Cond.selects "AccessGate$Session" ({ cls := "java/lang/Object", name := "getClass", desc := "()Ljava/lang/Class;" } : Jvm.MethodName) ({ cls := "java/lang/Object", name := "getClass", desc := "()Ljava/lang/Class;" } : Jvm.MethodName) ∈ lw_tbl := List.mem_of_getElem? (i := 298) rfl
set_option maxRecDepth 100000 in
theorem kw272 : Jvm.Cond.selects "AccessGate$StepRecord" ({ cls := "java/lang/Object", name := "getClass", desc := "()Ljava/lang/Class;" } : Jvm.MethodName) ({ cls := "java/lang/Object", name := "getClass", desc := "()Ljava/lang/Class;" } : Jvm.MethodName) ∈ lw_tbl := List.mem_of_getElem? (i := 299) rfl
set_option maxRecDepth 100000 in
theorem kw273 : Jvm.Cond.selects "java/lang/IllegalArgumentException" ({ cls := "java/lang/Object", name := "getClass", desc := "()Ljava/lang/Class;" } : Jvm.MethodName) ({ cls := "java/lang/Object", name := "getClass", desc := "()Ljava/lang/Class;" } : Jvm.MethodName) ∈ lw_tbl := List.mem_of_getElem? (i := 300) rfl
set_option maxRecDepth 100000 in
theorem kw274 : Jvm.Cond.selects "java/lang/IllegalStateException" ({ cls := "java/lang/Object", name := "getClass", desc := "()Ljava/lang/Class;" } : Jvm.MethodName) ({ cls := "java/lang/Object", name := "getClass", desc := "()Ljava/lang/Class;" } : Jvm.MethodName) ∈ lw_tbl := List.mem_of_getElem? (i := 301) rfl
set_option maxRecDepth 100000 in
theorem kw275 : Jvm.Cond.selects "java/lang/IndexOutOfBoundsException" ({ cls := "java/lang/Object", name := "getClass", desc := "()Ljava/lang/Class;" } : Jvm.MethodName) ({ cls := "java/lang/Object", name := "getClass", desc := "()Ljava/lang/Class;" } : Jvm.MethodName) ∈ lw_tbl := List.mem_of_getElem? (i := 302) rfl
set_option maxRecDepth 100000 in
theorem kw276 : Jvm.Cond.selects "java/util/ArrayList" ({ cls := "java/lang/Object", name := "getClass", desc := "()Ljava/lang/Class;" } : Jvm.MethodName) ({ cls := "java/lang/Object", name := "getClass", desc := "()Ljava/lang/Class;" } : Jvm.MethodName) ∈ lw_tbl := List.mem_of_getElem? (i := 303) rfl
set_option maxRecDepth 100000 in
theorem kw277 : Jvm.Cond.native ({ cls := "java/lang/Object", name := "getClass", desc := "()Ljava/lang/Class;" } : Jvm.MethodName) ∈ lw_tbl := List.mem_of_getElem? (i := 304) rfl
set_option maxRecDepth 100000 in
theorem kw278 : Jvm.Cond.methodLink "java/util/Arrays" (300 : Nat) ({ cls := "java/util/Arrays", name := "copyOf", desc := "([Ljava/lang/Object;ILjava/lang/Class;)[Ljava/lang/Object;" } : Jvm.MethodName) ∈ lw_tbl := List.mem_of_getElem? (i := 305) rfl
set_option maxRecDepth 100000 in
theorem kw279 : Jvm.Cond.static ({ cls := "java/util/Arrays", name := "copyOf", desc := "([Ljava/lang/Object;ILjava/lang/Class;)[Ljava/lang/Object;" } : Jvm.MethodName) ∈ lw_tbl := List.mem_of_getElem? (i := 306) rfl
set_option maxRecDepth 100000 in
theorem kw280 : Jvm.Cond.code ({ cls := "java/util/Arrays", name := "copyOf", desc := "([Ljava/lang/Object;ILjava/lang/Class;)[Ljava/lang/Object;" } : Jvm.MethodName) prog_26_method_120_code (4 : Nat) (Option.some (Jvm.ClassFile.FieldType.array (Jvm.ClassFile.FieldType.object "java/lang/Object"))) ∈ lw_tbl := List.mem_of_getElem? (i := 307) rfl
set_option maxRecDepth 100000 in
theorem kw281 : Jvm.Cond.classLink "java/util/Arrays" (110 : Nat) "[Ljava/lang/Object;" ∈ lw_tbl := List.mem_of_getElem? (i := 308) rfl
set_option maxRecDepth 100000 in
theorem kw283 : Jvm.Cond.classLink "java/util/Arrays" (2 : Nat) "java/lang/Object" ∈ lw_tbl := List.mem_of_getElem? (i := 310) rfl
set_option maxRecDepth 100000 in
theorem kw284 : Jvm.Cond.methodLink "java/util/Arrays" (304 : Nat) ({ cls := "java/lang/Math", name := "min", desc := "(II)I" } : Jvm.MethodName) ∈ lw_tbl := List.mem_of_getElem? (i := 311) rfl
set_option maxRecDepth 100000 in
theorem kw285 : Jvm.Cond.static ({ cls := "java/lang/Math", name := "min", desc := "(II)I" } : Jvm.MethodName) ∈ lw_tbl := List.mem_of_getElem? (i := 312) rfl
set_option maxRecDepth 100000 in
theorem kw286 : Jvm.Cond.code ({ cls := "java/lang/Math", name := "min", desc := "(II)I" } : Jvm.MethodName) prog_18_method_69_code (2 : Nat) (Option.some Jvm.ClassFile.FieldType.int) ∈ lw_tbl := List.mem_of_getElem? (i := 313) rfl
set_option maxRecDepth 100000 in
theorem kw287 : Jvm.Cond.methodLink "java/util/Arrays" (150 : Nat) ({ cls := "java/lang/System", name := "arraycopy", desc := "(Ljava/lang/Object;ILjava/lang/Object;II)V" } : Jvm.MethodName) ∈ lw_tbl := List.mem_of_getElem? (i := 314) rfl
set_option maxRecDepth 100000 in
theorem kw288 : Jvm.Cond.static ({ cls := "java/lang/System", name := "arraycopy", desc := "(Ljava/lang/Object;ILjava/lang/Object;II)V" } : Jvm.MethodName) ∈ lw_tbl := List.mem_of_getElem? (i := 315) rfl
set_option maxRecDepth 100000 in
theorem kw289 : Jvm.Cond.native ({ cls := "java/lang/System", name := "arraycopy", desc := "(Ljava/lang/Object;ILjava/lang/Object;II)V" } : Jvm.MethodName) ∈ lw_tbl := List.mem_of_getElem? (i := 316) rfl
set_option maxRecDepth 100000 in
theorem kw290 : Jvm.Cond.methodLink "java/util/ArrayList" (79 : Nat) ({ cls := "java/lang/Math", name := "max", desc := "(II)I" } : Jvm.MethodName) ∈ lw_tbl := List.mem_of_getElem? (i := 317) rfl
set_option maxRecDepth 100000 in
theorem kw291 : Jvm.Cond.classLink "java/util/ArrayList" (7 : Nat) "java/lang/Object" ∈ lw_tbl := List.mem_of_getElem? (i := 318) rfl
set_option maxRecDepth 100000 in
theorem kw292 : Jvm.Cond.methodLink "AccessGateLaw" (149 : Nat) ({ cls := "AccessGate", name := "setLabel", desc := "(IIZ)I" } : Jvm.MethodName) ∈ lw_tbl := List.mem_of_getElem? (i := 319) rfl
set_option maxRecDepth 100000 in
theorem kw293 : Jvm.Cond.instanceMethod ({ cls := "AccessGate", name := "setLabel", desc := "(IIZ)I" } : Jvm.MethodName) ∈ lw_tbl := List.mem_of_getElem? (i := 320) rfl
set_option maxRecDepth 100000 in
theorem kw294 : Jvm.Cond.selects "AccessGate" ({ cls := "AccessGate", name := "setLabel", desc := "(IIZ)I" } : Jvm.MethodName) ({ cls := "AccessGate", name := "setLabel", desc := "(IIZ)I" } : Jvm.MethodName) ∈ lw_tbl := List.mem_of_getElem? (i := 321) rfl
set_option maxRecDepth 100000 in
theorem kw295 : Jvm.Cond.code ({ cls := "AccessGate", name := "setLabel", desc := "(IIZ)I" } : Jvm.MethodName) prog_1_method_4_code (7 : Nat) (Option.some Jvm.ClassFile.FieldType.int) ∈ lw_tbl := List.mem_of_getElem? (i := 322) rfl
set_option maxRecDepth 100000 in
theorem kw296 : Jvm.Cond.methodLink "AccessGate" (79 : Nat) ({ cls := "AccessGate", name := "personAt", desc := "(I)LAccessGate$Person;" } : Jvm.MethodName) ∈ lw_tbl := List.mem_of_getElem? (i := 323) rfl
set_option maxRecDepth 100000 in
theorem kw298 : Jvm.Cond.instanceMethod ({ cls := "AccessGate", name := "personAt", desc := "(I)LAccessGate$Person;" } : Jvm.MethodName) ∈ lw_tbl := List.mem_of_getElem? (i := 325) rfl
set_option maxRecDepth 100000 in
theorem kw299 : Jvm.Cond.code ({ cls := "AccessGate", name := "personAt", desc := "(I)LAccessGate$Person;" } : Jvm.MethodName) prog_1_method_25_code (2 : Nat) (Option.some (Jvm.ClassFile.FieldType.object "AccessGate$Person")) ∈ lw_tbl := List.mem_of_getElem? (i := 326) rfl
set_option maxRecDepth 100000 in
theorem kw300 : Jvm.Cond.classLink "AccessGate" (255 : Nat) "java/lang/IndexOutOfBoundsException" ∈ lw_tbl := List.mem_of_getElem? (i := 327) rfl
set_option maxRecDepth 100000 in
theorem kw301 : Jvm.Cond.instantiable "java/lang/IndexOutOfBoundsException" (6 : Nat) ∈ lw_tbl := List.mem_of_getElem? (i := 328) rfl
set_option maxRecDepth 100000 in
theorem kw302 : Jvm.Cond.castable "java/lang/IndexOutOfBoundsException" "java/lang/IndexOutOfBoundsException" ∈ lw_tbl := List.mem_of_getElem? (i := 329) rfl
set_option maxRecDepth 100000 in
theorem kw303 : Jvm.Cond.selects "java/lang/IndexOutOfBoundsException" ({ cls := "java/lang/Throwable", name := "fillInStackTrace", desc := "(I)Ljava/lang/Throwable;" } : Jvm.MethodName) ({ cls := "java/lang/Throwable", name := "fillInStackTrace", desc := "(I)Ljava/lang/Throwable;" } : Jvm.MethodName) ∈ lw_tbl := List.mem_of_getElem? (i := 330) rfl
set_option maxRecDepth 100000 in
theorem kw310 : Jvm.Cond.methodLink "AccessGate" (259 : Nat) ({ cls := "java/lang/IndexOutOfBoundsException", name := "<init>", desc := "(Ljava/lang/String;)V" } : Jvm.MethodName) ∈ lw_tbl := List.mem_of_getElem? (i := 337) rfl
set_option maxRecDepth 100000 in
theorem kw311 : Jvm.Cond.instanceMethod ({ cls := "java/lang/IndexOutOfBoundsException", name := "<init>", desc := "(Ljava/lang/String;)V" } : Jvm.MethodName) ∈ lw_tbl := List.mem_of_getElem? (i := 338) rfl
set_option maxRecDepth 100000 in
theorem kw312 : Jvm.Cond.code ({ cls := "java/lang/IndexOutOfBoundsException", name := "<init>", desc := "(Ljava/lang/String;)V" } : Jvm.MethodName) prog_16_method_2_code (2 : Nat) (Option.none : Option Jvm.ClassFile.FieldType) ∈ lw_tbl := List.mem_of_getElem? (i := 339) rfl
set_option maxRecDepth 100000 in
theorem kw313 : Jvm.Cond.methodLink "java/lang/IndexOutOfBoundsException" (7 : Nat) ({ cls := "java/lang/RuntimeException", name := "<init>", desc := "(Ljava/lang/String;)V" } : Jvm.MethodName) ∈ lw_tbl := List.mem_of_getElem? (i := 340) rfl
set_option maxRecDepth 100000 in
theorem kw316 : Jvm.Cond.methodLink "AccessGate" (87 : Nat) ({ cls := "java/util/ArrayList", name := "get", desc := "(I)Ljava/lang/Object;" } : Jvm.MethodName) ∈ lw_tbl := List.mem_of_getElem? (i := 343) rfl
set_option maxRecDepth 100000 in
theorem kw317 : Jvm.Cond.instanceMethod ({ cls := "java/util/ArrayList", name := "get", desc := "(I)Ljava/lang/Object;" } : Jvm.MethodName) ∈ lw_tbl := List.mem_of_getElem? (i := 344) rfl
set_option maxRecDepth 100000 in
theorem kw318 : Jvm.Cond.selects "java/util/ArrayList" ({ cls := "java/util/ArrayList", name := "get", desc := "(I)Ljava/lang/Object;" } : Jvm.MethodName) ({ cls := "java/util/ArrayList", name := "get", desc := "(I)Ljava/lang/Object;" } : Jvm.MethodName) ∈ lw_tbl := List.mem_of_getElem? (i := 345) rfl
set_option maxRecDepth 100000 in
theorem kw319 : Jvm.Cond.code ({ cls := "java/util/ArrayList", name := "get", desc := "(I)Ljava/lang/Object;" } : Jvm.MethodName) prog_25_method_20_code (2 : Nat) (Option.some (Jvm.ClassFile.FieldType.object "java/lang/Object")) ∈ lw_tbl := List.mem_of_getElem? (i := 346) rfl
set_option maxRecDepth 100000 in
theorem kw320 : Jvm.Cond.methodLink "java/util/ArrayList" (118 : Nat) ({ cls := "java/util/Objects", name := "checkIndex", desc := "(II)I" } : Jvm.MethodName) ∈ lw_tbl := List.mem_of_getElem? (i := 347) rfl
set_option maxRecDepth 100000 in
theorem kw321 : Jvm.Cond.static ({ cls := "java/util/Objects", name := "checkIndex", desc := "(II)I" } : Jvm.MethodName) ∈ lw_tbl := List.mem_of_getElem? (i := 348) rfl
set_option maxRecDepth 100000 in
theorem kw322 : Jvm.Cond.code ({ cls := "java/util/Objects", name := "checkIndex", desc := "(II)I" } : Jvm.MethodName) prog_29_method_17_code (2 : Nat) (Option.some Jvm.ClassFile.FieldType.int) ∈ lw_tbl := List.mem_of_getElem? (i := 349) rfl
set_option maxRecDepth 100000 in
theorem kw323 : Jvm.Cond.methodLink "java/util/Objects" (105 : Nat) ({ cls := "jdk/internal/util/Preconditions", name := "checkIndex", desc := "(IILjava/util/function/BiFunction;)I" } : Jvm.MethodName) ∈ lw_tbl := List.mem_of_getElem? (i := 350) rfl
set_option maxRecDepth 100000 in
theorem kw324 : Jvm.Cond.static ({ cls := "jdk/internal/util/Preconditions", name := "checkIndex", desc := "(IILjava/util/function/BiFunction;)I" } : Jvm.MethodName) ∈ lw_tbl := List.mem_of_getElem? (i := 351) rfl
set_option maxRecDepth 100000 in
theorem kw325 : Jvm.Cond.code ({ cls := "jdk/internal/util/Preconditions", name := "checkIndex", desc := "(IILjava/util/function/BiFunction;)I" } : Jvm.MethodName) prog_33_method_11_code (3 : Nat) (Option.some Jvm.ClassFile.FieldType.int) ∈ lw_tbl := List.mem_of_getElem? (i := 352) rfl
set_option maxRecDepth 100000 in
theorem kw326 : Jvm.Cond.methodLink "java/util/ArrayList" (123 : Nat) ({ cls := "java/util/ArrayList", name := "elementData", desc := "(I)Ljava/lang/Object;" } : Jvm.MethodName) ∈ lw_tbl := List.mem_of_getElem? (i := 353) rfl
set_option maxRecDepth 100000 in
theorem kw327 : Jvm.Cond.instanceMethod ({ cls := "java/util/ArrayList", name := "elementData", desc := "(I)Ljava/lang/Object;" } : Jvm.MethodName) ∈ lw_tbl := List.mem_of_getElem? (i := 354) rfl
set_option maxRecDepth 100000 in
theorem kw328 : Jvm.Cond.selects "java/util/ArrayList" ({ cls := "java/util/ArrayList", name := "elementData", desc := "(I)Ljava/lang/Object;" } : Jvm.MethodName) ({ cls := "java/util/ArrayList", name := "elementData", desc := "(I)Ljava/lang/Object;" } : Jvm.MethodName) ∈ lw_tbl := List.mem_of_getElem? (i := 355) rfl
set_option maxRecDepth 100000 in
theorem kw329 : Jvm.Cond.code ({ cls := "java/util/ArrayList", name := "elementData", desc := "(I)Ljava/lang/Object;" } : Jvm.MethodName) prog_25_method_18_code (2 : Nat) (Option.some (Jvm.ClassFile.FieldType.object "java/lang/Object")) ∈ lw_tbl := List.mem_of_getElem? (i := 356) rfl
set_option maxRecDepth 100000 in
theorem kw330 : Jvm.Cond.methodLink "AccessGate" (70 : Nat) ({ cls := "AccessGate", name := "requireLabel", desc := "(I)V" } : Jvm.MethodName) ∈ lw_tbl := List.mem_of_getElem? (i := 357) rfl
set_option maxRecDepth 100000 in
theorem kw331 : Jvm.Cond.static ({ cls := "AccessGate", name := "requireLabel", desc := "(I)V" } : Jvm.MethodName) ∈ lw_tbl := List.mem_of_getElem? (i := 358) rfl
set_option maxRecDepth 100000 in
theorem kw332 : Jvm.Cond.code ({ cls := "AccessGate", name := "requireLabel", desc := "(I)V" } : Jvm.MethodName) prog_1_method_31_code (1 : Nat) (Option.none : Option Jvm.ClassFile.FieldType) ∈ lw_tbl := List.mem_of_getElem? (i := 359) rfl
set_option maxRecDepth 100000 in
theorem kw334 : Jvm.Cond.methodLinkNest "AccessGate" (83 : Nat) ({ cls := "AccessGate$Person", name := "keepLabel", desc := "(IZ)V" } : Jvm.MethodName) "AccessGate" ∈ lw_tbl := List.mem_of_getElem? (i := 361) rfl
set_option maxRecDepth 100000 in
theorem kw336 : Jvm.Cond.instanceMethod ({ cls := "AccessGate$Person", name := "keepLabel", desc := "(IZ)V" } : Jvm.MethodName) ∈ lw_tbl := List.mem_of_getElem? (i := 363) rfl
set_option maxRecDepth 100000 in
theorem kw337 : Jvm.Cond.code ({ cls := "AccessGate$Person", name := "keepLabel", desc := "(IZ)V" } : Jvm.MethodName) prog_5_method_3_code (4 : Nat) (Option.none : Option Jvm.ClassFile.FieldType) ∈ lw_tbl := List.mem_of_getElem? (i := 364) rfl
set_option maxRecDepth 100000 in
theorem kw338 : Jvm.Cond.classLink "AccessGate" (76 : Nat) "AccessGate$Machine" ∈ lw_tbl := List.mem_of_getElem? (i := 365) rfl
set_option maxRecDepth 100000 in
theorem kw339 : Jvm.Cond.methodLink "AccessGate" (94 : Nat) ({ cls := "AccessGate", name := "endRights", desc := "(LAccessGate$Person;LAccessGate$Machine;)V" } : Jvm.MethodName) ∈ lw_tbl := List.mem_of_getElem? (i := 366) rfl
set_option maxRecDepth 100000 in
theorem kw341 : Jvm.Cond.instanceMethod ({ cls := "AccessGate", name := "endRights", desc := "(LAccessGate$Person;LAccessGate$Machine;)V" } : Jvm.MethodName) ∈ lw_tbl := List.mem_of_getElem? (i := 368) rfl
set_option maxRecDepth 100000 in
theorem kw342 : Jvm.Cond.code ({ cls := "AccessGate", name := "endRights", desc := "(LAccessGate$Person;LAccessGate$Machine;)V" } : Jvm.MethodName) prog_1_method_38_code (5 : Nat) (Option.none : Option Jvm.ClassFile.FieldType) ∈ lw_tbl := List.mem_of_getElem? (i := 369) rfl
set_option maxRecDepth 100000 in
theorem kw343 : Jvm.Cond.classLink "AccessGate" (145 : Nat) "AccessGate$Right" ∈ lw_tbl := List.mem_of_getElem? (i := 370) rfl
set_option maxRecDepth 100000 in
theorem kw344 : Jvm.Cond.methodLinkNest "AccessGate" (293 : Nat) ({ cls := "AccessGate$Right", name := "holdsAt", desc := "(I)Z" } : Jvm.MethodName) "AccessGate" ∈ lw_tbl := List.mem_of_getElem? (i := 371) rfl
set_option maxRecDepth 100000 in
theorem kw346 : Jvm.Cond.instanceMethod ({ cls := "AccessGate$Right", name := "holdsAt", desc := "(I)Z" } : Jvm.MethodName) ∈ lw_tbl := List.mem_of_getElem? (i := 373) rfl
set_option maxRecDepth 100000 in
theorem kw347 : Jvm.Cond.instantiable "AccessGate$Right" (4 : Nat) ∈ lw_tbl := List.mem_of_getElem? (i := 374) rfl
set_option maxRecDepth 100000 in
theorem kw348 : Jvm.Cond.code ({ cls := "AccessGate$Right", name := "holdsAt", desc := "(I)Z" } : Jvm.MethodName) prog_6_method_2_code (2 : Nat) (Option.some Jvm.ClassFile.FieldType.boolean) ∈ lw_tbl := List.mem_of_getElem? (i := 375) rfl
set_option maxRecDepth 100000 in
theorem kw349 : Jvm.Cond.methodLink "AccessGate" (98 : Nat) ({ cls := "AccessGate", name := "denyWaitingAsks", desc := "(LAccessGate$Person;LAccessGate$Machine;)V" } : Jvm.MethodName) ∈ lw_tbl := List.mem_of_getElem? (i := 376) rfl
set_option maxRecDepth 100000 in
theorem kw351 : Jvm.Cond.instanceMethod ({ cls := "AccessGate", name := "denyWaitingAsks", desc := "(LAccessGate$Person;LAccessGate$Machine;)V" } : Jvm.MethodName) ∈ lw_tbl := List.mem_of_getElem? (i := 378) rfl
set_option maxRecDepth 100000 in
theorem kw352 : Jvm.Cond.code ({ cls := "AccessGate", name := "denyWaitingAsks", desc := "(LAccessGate$Person;LAccessGate$Machine;)V" } : Jvm.MethodName) prog_1_method_39_code (5 : Nat) (Option.none : Option Jvm.ClassFile.FieldType) ∈ lw_tbl := List.mem_of_getElem? (i := 379) rfl
set_option maxRecDepth 100000 in
theorem kw353 : Jvm.Cond.classLink "AccessGate" (116 : Nat) "AccessGate$Ask" ∈ lw_tbl := List.mem_of_getElem? (i := 380) rfl
set_option maxRecDepth 100000 in
theorem kw354 : Jvm.Cond.methodLinkNest "AccessGate" (154 : Nat) ({ cls := "AccessGate$Ask", name := "stateAt", desc := "(I)I" } : Jvm.MethodName) "AccessGate" ∈ lw_tbl := List.mem_of_getElem? (i := 381) rfl
set_option maxRecDepth 100000 in
theorem kw356 : Jvm.Cond.instanceMethod ({ cls := "AccessGate$Ask", name := "stateAt", desc := "(I)I" } : Jvm.MethodName) ∈ lw_tbl := List.mem_of_getElem? (i := 383) rfl
set_option maxRecDepth 100000 in
theorem kw357 : Jvm.Cond.instantiable "AccessGate$Ask" (6 : Nat) ∈ lw_tbl := List.mem_of_getElem? (i := 384) rfl
set_option maxRecDepth 100000 in
theorem kw358 : Jvm.Cond.code ({ cls := "AccessGate$Ask", name := "stateAt", desc := "(I)I" } : Jvm.MethodName) prog_2_method_2_code (2 : Nat) (Option.some Jvm.ClassFile.FieldType.int) ∈ lw_tbl := List.mem_of_getElem? (i := 385) rfl
set_option maxRecDepth 100000 in
theorem kw359 : Jvm.Cond.methodLink "AccessGate" (101 : Nat) ({ cls := "AccessGate", name := "closeEndedSessions", desc := "()I" } : Jvm.MethodName) ∈ lw_tbl := List.mem_of_getElem? (i := 386) rfl
set_option maxRecDepth 100000 in
theorem kw361 : Jvm.Cond.instanceMethod ({ cls := "AccessGate", name := "closeEndedSessions", desc := "()I" } : Jvm.MethodName) ∈ lw_tbl := List.mem_of_getElem? (i := 388) rfl
set_option maxRecDepth 100000 in
theorem kw362 : Jvm.Cond.code ({ cls := "AccessGate", name := "closeEndedSessions", desc := "()I" } : Jvm.MethodName) prog_1_method_40_code (4 : Nat) (Option.some Jvm.ClassFile.FieldType.int) ∈ lw_tbl := List.mem_of_getElem? (i := 389) rfl
set_option maxRecDepth 100000 in
theorem kw363 : Jvm.Cond.classLink "AccessGate" (196 : Nat) "AccessGate$Session" ∈ lw_tbl := List.mem_of_getElem? (i := 390) rfl
set_option maxRecDepth 100000 in
theorem kw364 : Jvm.Cond.methodLinkNest "AccessGate" (299 : Nat) ({ cls := "AccessGate$Session", name := "restsAt", desc := "(I)Z" } : Jvm.MethodName) "AccessGate" ∈ lw_tbl := List.mem_of_getElem? (i := 391) rfl
set_option maxRecDepth 100000 in
theorem kw366 : Jvm.Cond.instanceMethod ({ cls := "AccessGate$Session", name := "restsAt", desc := "(I)Z" } : Jvm.MethodName) ∈ lw_tbl := List.mem_of_getElem? (i := 393) rfl
set_option maxRecDepth 100000 in
theorem kw367 : Jvm.Cond.instantiable "AccessGate$Session" (6 : Nat) ∈ lw_tbl := List.mem_of_getElem? (i := 394) rfl
set_option maxRecDepth 100000 in
theorem kw368 : Jvm.Cond.code ({ cls := "AccessGate$Session", name := "restsAt", desc := "(I)Z" } : Jvm.MethodName) prog_7_method_3_code (2 : Nat) (Option.some Jvm.ClassFile.FieldType.boolean) ∈ lw_tbl := List.mem_of_getElem? (i := 395) rfl
set_option maxRecDepth 100000 in
theorem kw369 : Jvm.Cond.methodLink "AccessGate" (190 : Nat) ({ cls := "AccessGate", name := "rightHolds", desc := "(LAccessGate$Person;LAccessGate$Machine;I)Z" } : Jvm.MethodName) ∈ lw_tbl := List.mem_of_getElem? (i := 396) rfl
set_option maxRecDepth 100000 in
theorem kw371 : Jvm.Cond.instanceMethod ({ cls := "AccessGate", name := "rightHolds", desc := "(LAccessGate$Person;LAccessGate$Machine;I)Z" } : Jvm.MethodName) ∈ lw_tbl := List.mem_of_getElem? (i := 398) rfl
set_option maxRecDepth 100000 in
theorem kw372 : Jvm.Cond.code ({ cls := "AccessGate", name := "rightHolds", desc := "(LAccessGate$Person;LAccessGate$Machine;I)Z" } : Jvm.MethodName) prog_1_method_37_code (6 : Nat) (Option.some Jvm.ClassFile.FieldType.boolean) ∈ lw_tbl := List.mem_of_getElem? (i := 399) rfl
set_option maxRecDepth 100000 in
theorem kw373 : Jvm.Cond.methodLink "AccessGate" (234 : Nat) ({ cls := "AccessGate", name := "endSession", desc := "(LAccessGate$Session;)V" } : Jvm.MethodName) ∈ lw_tbl := List.mem_of_getElem? (i := 400) rfl
set_option maxRecDepth 100000 in
theorem kw375 : Jvm.Cond.instanceMethod ({ cls := "AccessGate", name := "endSession", desc := "(LAccessGate$Session;)V" } : Jvm.MethodName) ∈ lw_tbl := List.mem_of_getElem? (i := 402) rfl
set_option maxRecDepth 100000 in
theorem kw376 : Jvm.Cond.code ({ cls := "AccessGate", name := "endSession", desc := "(LAccessGate$Session;)V" } : Jvm.MethodName) prog_1_method_41_code (2 : Nat) (Option.none : Option Jvm.ClassFile.FieldType) ∈ lw_tbl := List.mem_of_getElem? (i := 403) rfl
set_option maxRecDepth 100000 in
theorem kw377 : Jvm.Cond.methodLinkNest "AccessGate" (121 : Nat) ({ cls := "AccessGate$StepRecord", name := "add", desc := "(ILAccessGate$Person;LAccessGate$Machine;I)V" } : Jvm.MethodName) "AccessGate" ∈ lw_tbl := List.mem_of_getElem? (i := 404) rfl
set_option maxRecDepth 100000 in
theorem kw379 : Jvm.Cond.instanceMethod ({ cls := "AccessGate$StepRecord", name := "add", desc := "(ILAccessGate$Person;LAccessGate$Machine;I)V" } : Jvm.MethodName) ∈ lw_tbl := List.mem_of_getElem? (i := 406) rfl
set_option maxRecDepth 100000 in
theorem kw380 : Jvm.Cond.code ({ cls := "AccessGate$StepRecord", name := "add", desc := "(ILAccessGate$Person;LAccessGate$Machine;I)V" } : Jvm.MethodName) prog_8_method_2_code (5 : Nat) (Option.none : Option Jvm.ClassFile.FieldType) ∈ lw_tbl := List.mem_of_getElem? (i := 407) rfl
set_option maxRecDepth 100000 in
theorem kw381 : Jvm.Cond.constant "AccessGate$StepRecord" (33 : Nat) (1000003 : Int32) ∈ lw_tbl := List.mem_of_getElem? (i := 408) rfl
set_option maxRecDepth 100000 in
theorem kw382 : Jvm.Cond.methodLink "AccessGateLaw" (172 : Nat) ({ cls := "AccessGate", name := "addMachine", desc := "(I)I" } : Jvm.MethodName) ∈ lw_tbl := List.mem_of_getElem? (i := 409) rfl
set_option maxRecDepth 100000 in
theorem kw383 : Jvm.Cond.instanceMethod ({ cls := "AccessGate", name := "addMachine", desc := "(I)I" } : Jvm.MethodName) ∈ lw_tbl := List.mem_of_getElem? (i := 410) rfl
set_option maxRecDepth 100000 in
theorem kw384 : Jvm.Cond.selects "AccessGate" ({ cls := "AccessGate", name := "addMachine", desc := "(I)I" } : Jvm.MethodName) ({ cls := "AccessGate", name := "addMachine", desc := "(I)I" } : Jvm.MethodName) ∈ lw_tbl := List.mem_of_getElem? (i := 411) rfl
set_option maxRecDepth 100000 in
theorem kw385 : Jvm.Cond.code ({ cls := "AccessGate", name := "addMachine", desc := "(I)I" } : Jvm.MethodName) prog_1_method_3_code (3 : Nat) (Option.some Jvm.ClassFile.FieldType.int) ∈ lw_tbl := List.mem_of_getElem? (i := 412) rfl
set_option maxRecDepth 100000 in
theorem kw387 : Jvm.Cond.instantiable "AccessGate$Machine" (2 : Nat) ∈ lw_tbl := List.mem_of_getElem? (i := 414) rfl
set_option maxRecDepth 100000 in
theorem kw388 : Jvm.Cond.methodLinkNest "AccessGate" (78 : Nat) ({ cls := "AccessGate$Machine", name := "<init>", desc := "(II)V" } : Jvm.MethodName) "AccessGate" ∈ lw_tbl := List.mem_of_getElem? (i := 415) rfl
set_option maxRecDepth 100000 in
theorem kw389 : Jvm.Cond.instanceMethod ({ cls := "AccessGate$Machine", name := "<init>", desc := "(II)V" } : Jvm.MethodName) ∈ lw_tbl := List.mem_of_getElem? (i := 416) rfl
set_option maxRecDepth 100000 in
theorem kw390 : Jvm.Cond.code ({ cls := "AccessGate$Machine", name := "<init>", desc := "(II)V" } : Jvm.MethodName) prog_4_method_1_code (3 : Nat) (Option.none : Option Jvm.ClassFile.FieldType) ∈ lw_tbl := List.mem_of_getElem? (i := 417) rfl
set_option maxRecDepth 100000 in
theorem kw391 : Jvm.Cond.methodLink "AccessGate$Machine" (1 : Nat) ({ cls := "java/lang/Object", name := "<init>", desc := "()V" } : Jvm.MethodName) ∈ lw_tbl := List.mem_of_getElem? (i := 418) rfl
set_option maxRecDepth 100000 in
theorem kw392 : Jvm.Cond.fieldLink "AccessGate$Machine" (7 : Nat) "AccessGate$Machine" "number" "I" ∈ lw_tbl := List.mem_of_getElem? (i := 419) rfl
set_option maxRecDepth 100000 in
theorem kw393 : Jvm.Cond.fieldLinkNest "AccessGate$StepRecord" (30 : Nat) "AccessGate$Machine" "number" "I" "AccessGate" ∈ lw_tbl := List.mem_of_getElem? (i := 420) rfl
set_option maxRecDepth 100000 in
theorem kw394 : Jvm.Cond.fieldLink "AccessGate$Machine" (13 : Nat) "AccessGate$Machine" "label" "I" ∈ lw_tbl := List.mem_of_getElem? (i := 421) rfl
set_option maxRecDepth 100000 in
theorem kw395 : Jvm.Cond.fieldLinkNest "AccessGate$Person" (19 : Nat) "AccessGate$Machine" "label" "I" "AccessGate" ∈ lw_tbl := List.mem_of_getElem? (i := 422) rfl
set_option maxRecDepth 100000 in
theorem kw396 : Jvm.Cond.fieldLinkNest "AccessGate" (91 : Nat) "AccessGate$Machine" "label" "I" "AccessGate" ∈ lw_tbl := List.mem_of_getElem? (i := 423) rfl
set_option maxRecDepth 100000 in
theorem kw402 : Jvm.Cond.constant "AccessGateLaw" (175 : Nat) (1000000 : Int32) ∈ lw_tbl := List.mem_of_getElem? (i := 429) rfl
set_option maxRecDepth 100000 in
theorem kw403 : Jvm.Cond.methodLink "AccessGateLaw" (176 : Nat) ({ cls := "AccessGateLaw", name := "acts", desc := "(LAccessGate;[I[I[I[I[I[I[III)Z" } : Jvm.MethodName) ∈ lw_tbl := List.mem_of_getElem? (i := 430) rfl
set_option maxRecDepth 100000 in
theorem kw404 : Jvm.Cond.static ({ cls := "AccessGateLaw", name := "acts", desc := "(LAccessGate;[I[I[I[I[I[I[III)Z" } : Jvm.MethodName) ∈ lw_tbl := List.mem_of_getElem? (i := 431) rfl
set_option maxRecDepth 100000 in
theorem kw405 : Jvm.Cond.code ({ cls := "AccessGateLaw", name := "acts", desc := "(LAccessGate;[I[I[I[I[I[I[III)Z" } : Jvm.MethodName) method_23_code (15 : Nat) (Option.some Jvm.ClassFile.FieldType.boolean) ∈ lw_tbl := List.mem_of_getElem? (i := 432) rfl
set_option maxRecDepth 100000 in
theorem kw406 : Jvm.Cond.constant "AccessGateLaw" (143 : Nat) (90000 : Int32) ∈ lw_tbl := List.mem_of_getElem? (i := 433) rfl
set_option maxRecDepth 100000 in
theorem kw407 : Jvm.Cond.methodLink "AccessGateLaw" (32 : Nat) ({ cls := "AccessGateLaw", name := "holdsAt", desc := "([I[III)Z" } : Jvm.MethodName) ∈ lw_tbl := List.mem_of_getElem? (i := 434) rfl
set_option maxRecDepth 100000 in
theorem kw408 : Jvm.Cond.static ({ cls := "AccessGateLaw", name := "holdsAt", desc := "([I[III)Z" } : Jvm.MethodName) ∈ lw_tbl := List.mem_of_getElem? (i := 435) rfl
set_option maxRecDepth 100000 in
theorem kw409 : Jvm.Cond.code ({ cls := "AccessGateLaw", name := "holdsAt", desc := "([I[III)Z" } : Jvm.MethodName) method_4_code (6 : Nat) (Option.some Jvm.ClassFile.FieldType.boolean) ∈ lw_tbl := List.mem_of_getElem? (i := 436) rfl
set_option maxRecDepth 100000 in
theorem kw410 : Jvm.Cond.methodLink "AccessGateLaw" (144 : Nat) ({ cls := "AccessGate", name := "pass", desc := "(I)I" } : Jvm.MethodName) ∈ lw_tbl := List.mem_of_getElem? (i := 437) rfl
set_option maxRecDepth 100000 in
theorem kw411 : Jvm.Cond.instanceMethod ({ cls := "AccessGate", name := "pass", desc := "(I)I" } : Jvm.MethodName) ∈ lw_tbl := List.mem_of_getElem? (i := 438) rfl
set_option maxRecDepth 100000 in
theorem kw412 : Jvm.Cond.selects "AccessGate" ({ cls := "AccessGate", name := "pass", desc := "(I)I" } : Jvm.MethodName) ({ cls := "AccessGate", name := "pass", desc := "(I)I" } : Jvm.MethodName) ∈ lw_tbl := List.mem_of_getElem? (i := 439) rfl
set_option maxRecDepth 100000 in
theorem kw413 : Jvm.Cond.code ({ cls := "AccessGate", name := "pass", desc := "(I)I" } : Jvm.MethodName) prog_1_method_20_code (5 : Nat) (Option.some Jvm.ClassFile.FieldType.int) ∈ lw_tbl := List.mem_of_getElem? (i := 440) rfl
set_option maxRecDepth 100000 in
theorem kw415 : Jvm.Cond.constant "AccessGate" (187 : Nat) (100000 : Int32) ∈ lw_tbl := List.mem_of_getElem? (i := 442) rfl
set_option maxRecDepth 100000 in
theorem kw417 : Jvm.Cond.methodLink "AccessGateLaw" (38 : Nat) ({ cls := "AccessGateLaw", name := "isStep", desc := "(LAccessGate;[IIIII)Z" } : Jvm.MethodName) ∈ lw_tbl := List.mem_of_getElem? (i := 444) rfl
set_option maxRecDepth 100000 in
theorem kw418 : Jvm.Cond.static ({ cls := "AccessGateLaw", name := "isStep", desc := "(LAccessGate;[IIIII)Z" } : Jvm.MethodName) ∈ lw_tbl := List.mem_of_getElem? (i := 445) rfl
set_option maxRecDepth 100000 in
theorem kw419 : Jvm.Cond.code ({ cls := "AccessGateLaw", name := "isStep", desc := "(LAccessGate;[IIIII)Z" } : Jvm.MethodName) method_5_code (8 : Nat) (Option.some Jvm.ClassFile.FieldType.boolean) ∈ lw_tbl := List.mem_of_getElem? (i := 446) rfl
set_option maxRecDepth 100000 in
theorem kw425 : Jvm.Cond.methodLink "AccessGateLaw" (19 : Nat) ({ cls := "AccessGate", name := "steps", desc := "()I" } : Jvm.MethodName) ∈ lw_tbl := List.mem_of_getElem? (i := 452) rfl
set_option maxRecDepth 100000 in
theorem kw426 : Jvm.Cond.instanceMethod ({ cls := "AccessGate", name := "steps", desc := "()I" } : Jvm.MethodName) ∈ lw_tbl := List.mem_of_getElem? (i := 453) rfl
set_option maxRecDepth 100000 in
theorem kw427 : Jvm.Cond.selects "AccessGate" ({ cls := "AccessGate", name := "steps", desc := "()I" } : Jvm.MethodName) ({ cls := "AccessGate", name := "steps", desc := "()I" } : Jvm.MethodName) ∈ lw_tbl := List.mem_of_getElem? (i := 454) rfl
set_option maxRecDepth 100000 in
theorem kw428 : Jvm.Cond.code ({ cls := "AccessGate", name := "steps", desc := "()I" } : Jvm.MethodName) prog_1_method_22_code (1 : Nat) (Option.some Jvm.ClassFile.FieldType.int) ∈ lw_tbl := List.mem_of_getElem? (i := 455) rfl
set_option maxRecDepth 100000 in
theorem kw429 : Jvm.Cond.methodLink "AccessGateLaw" (25 : Nat) ({ cls := "AccessGate", name := "kind", desc := "(I)I" } : Jvm.MethodName) ∈ lw_tbl := List.mem_of_getElem? (i := 456) rfl
set_option maxRecDepth 100000 in
theorem kw430 : Jvm.Cond.instanceMethod ({ cls := "AccessGate", name := "kind", desc := "(I)I" } : Jvm.MethodName) ∈ lw_tbl := List.mem_of_getElem? (i := 457) rfl
set_option maxRecDepth 100000 in
theorem kw431 : Jvm.Cond.selects "AccessGate" ({ cls := "AccessGate", name := "kind", desc := "(I)I" } : Jvm.MethodName) ({ cls := "AccessGate", name := "kind", desc := "(I)I" } : Jvm.MethodName) ∈ lw_tbl := List.mem_of_getElem? (i := 458) rfl
set_option maxRecDepth 100000 in
theorem kw432 : Jvm.Cond.code ({ cls := "AccessGate", name := "kind", desc := "(I)I" } : Jvm.MethodName) prog_1_method_23_code (2 : Nat) (Option.some Jvm.ClassFile.FieldType.int) ∈ lw_tbl := List.mem_of_getElem? (i := 459) rfl
set_option maxRecDepth 100000 in
theorem kw433 : Jvm.Cond.methodLink "AccessGate" (245 : Nat) ({ cls := "AccessGate", name := "requireStep", desc := "(I)V" } : Jvm.MethodName) ∈ lw_tbl := List.mem_of_getElem? (i := 460) rfl
set_option maxRecDepth 100000 in
theorem kw435 : Jvm.Cond.instanceMethod ({ cls := "AccessGate", name := "requireStep", desc := "(I)V" } : Jvm.MethodName) ∈ lw_tbl := List.mem_of_getElem? (i := 462) rfl
set_option maxRecDepth 100000 in
theorem kw436 : Jvm.Cond.code ({ cls := "AccessGate", name := "requireStep", desc := "(I)V" } : Jvm.MethodName) prog_1_method_30_code (2 : Nat) (Option.none : Option Jvm.ClassFile.FieldType) ∈ lw_tbl := List.mem_of_getElem? (i := 463) rfl
set_option maxRecDepth 100000 in
theorem kw438 : Jvm.Cond.methodLink "AccessGateLaw" (29 : Nat) ({ cls := "AccessGate", name := "seal", desc := "(I)I" } : Jvm.MethodName) ∈ lw_tbl := List.mem_of_getElem? (i := 465) rfl
set_option maxRecDepth 100000 in
theorem kw439 : Jvm.Cond.instanceMethod ({ cls := "AccessGate", name := "seal", desc := "(I)I" } : Jvm.MethodName) ∈ lw_tbl := List.mem_of_getElem? (i := 466) rfl
set_option maxRecDepth 100000 in
theorem kw440 : Jvm.Cond.selects "AccessGate" ({ cls := "AccessGate", name := "seal", desc := "(I)I" } : Jvm.MethodName) ({ cls := "AccessGate", name := "seal", desc := "(I)I" } : Jvm.MethodName) ∈ lw_tbl := List.mem_of_getElem? (i := 467) rfl
set_option maxRecDepth 100000 in
theorem kw441 : Jvm.Cond.code ({ cls := "AccessGate", name := "seal", desc := "(I)I" } : Jvm.MethodName) prog_1_method_24_code (2 : Nat) (Option.some Jvm.ClassFile.FieldType.int) ∈ lw_tbl := List.mem_of_getElem? (i := 468) rfl
set_option maxRecDepth 100000 in
theorem kw442 : Jvm.Cond.methodLink "AccessGateLaw" (116 : Nat) ({ cls := "AccessGateLaw", name := "end", desc := "([I[II)V" } : Jvm.MethodName) ∈ lw_tbl := List.mem_of_getElem? (i := 469) rfl
set_option maxRecDepth 100000 in
theorem kw443 : Jvm.Cond.static ({ cls := "AccessGateLaw", name := "end", desc := "([I[II)V" } : Jvm.MethodName) ∈ lw_tbl := List.mem_of_getElem? (i := 470) rfl
set_option maxRecDepth 100000 in
theorem kw444 : Jvm.Cond.code ({ cls := "AccessGateLaw", name := "end", desc := "([I[II)V" } : Jvm.MethodName) method_6_code (4 : Nat) (Option.none : Option Jvm.ClassFile.FieldType) ∈ lw_tbl := List.mem_of_getElem? (i := 471) rfl
set_option maxRecDepth 100000 in
theorem kw445 : Jvm.Cond.methodLink "AccessGateLaw" (147 : Nat) ({ cls := "AccessGateLaw", name := "deny", desc := "([I[II)V" } : Jvm.MethodName) ∈ lw_tbl := List.mem_of_getElem? (i := 472) rfl
set_option maxRecDepth 100000 in
theorem kw446 : Jvm.Cond.static ({ cls := "AccessGateLaw", name := "deny", desc := "([I[II)V" } : Jvm.MethodName) ∈ lw_tbl := List.mem_of_getElem? (i := 473) rfl
set_option maxRecDepth 100000 in
theorem kw447 : Jvm.Cond.code ({ cls := "AccessGateLaw", name := "deny", desc := "([I[II)V" } : Jvm.MethodName) method_7_code (4 : Nat) (Option.none : Option Jvm.ClassFile.FieldType) ∈ lw_tbl := List.mem_of_getElem? (i := 474) rfl
set_option maxRecDepth 100000 in
theorem kw448 : Jvm.Cond.methodLink "AccessGateLaw" (120 : Nat) ({ cls := "AccessGateLaw", name := "shut", desc := "(LAccessGate;[I[I[II)I" } : Jvm.MethodName) ∈ lw_tbl := List.mem_of_getElem? (i := 475) rfl
set_option maxRecDepth 100000 in
theorem kw449 : Jvm.Cond.static ({ cls := "AccessGateLaw", name := "shut", desc := "(LAccessGate;[I[I[II)I" } : Jvm.MethodName) ∈ lw_tbl := List.mem_of_getElem? (i := 476) rfl
set_option maxRecDepth 100000 in
theorem kw450 : Jvm.Cond.code ({ cls := "AccessGateLaw", name := "shut", desc := "(LAccessGate;[I[I[II)I" } : Jvm.MethodName) method_8_code (8 : Nat) (Option.some Jvm.ClassFile.FieldType.int) ∈ lw_tbl := List.mem_of_getElem? (i := 477) rfl
set_option maxRecDepth 100000 in
theorem kw451 : Jvm.Cond.methodLink "AccessGateLaw" (153 : Nat) ({ cls := "AccessGate", name := "takeAway", desc := "(II)I" } : Jvm.MethodName) ∈ lw_tbl := List.mem_of_getElem? (i := 478) rfl
set_option maxRecDepth 100000 in
theorem kw452 : Jvm.Cond.instanceMethod ({ cls := "AccessGate", name := "takeAway", desc := "(II)I" } : Jvm.MethodName) ∈ lw_tbl := List.mem_of_getElem? (i := 479) rfl
set_option maxRecDepth 100000 in
theorem kw453 : Jvm.Cond.selects "AccessGate" ({ cls := "AccessGate", name := "takeAway", desc := "(II)I" } : Jvm.MethodName) ({ cls := "AccessGate", name := "takeAway", desc := "(II)I" } : Jvm.MethodName) ∈ lw_tbl := List.mem_of_getElem? (i := 480) rfl
set_option maxRecDepth 100000 in
theorem kw454 : Jvm.Cond.code ({ cls := "AccessGate", name := "takeAway", desc := "(II)I" } : Jvm.MethodName) prog_1_method_5_code (5 : Nat) (Option.some Jvm.ClassFile.FieldType.int) ∈ lw_tbl := List.mem_of_getElem? (i := 481) rfl
set_option maxRecDepth 100000 in
theorem kw455 : Jvm.Cond.methodLink "AccessGate" (104 : Nat) ({ cls := "AccessGate", name := "machineAt", desc := "(I)LAccessGate$Machine;" } : Jvm.MethodName) ∈ lw_tbl := List.mem_of_getElem? (i := 482) rfl
set_option maxRecDepth 100000 in
theorem kw457 : Jvm.Cond.instanceMethod ({ cls := "AccessGate", name := "machineAt", desc := "(I)LAccessGate$Machine;" } : Jvm.MethodName) ∈ lw_tbl := List.mem_of_getElem? (i := 484) rfl
set_option maxRecDepth 100000 in
theorem kw458 : Jvm.Cond.code ({ cls := "AccessGate", name := "machineAt", desc := "(I)LAccessGate$Machine;" } : Jvm.MethodName) prog_1_method_26_code (2 : Nat) (Option.some (Jvm.ClassFile.FieldType.object "AccessGate$Machine")) ∈ lw_tbl := List.mem_of_getElem? (i := 485) rfl
set_option maxRecDepth 100000 in
theorem kw460 : Jvm.Cond.methodLink "AccessGateLaw" (156 : Nat) ({ cls := "AccessGateLaw", name := "isAsked", desc := "(LAccessGate;[I[I[I[I[I[III)Z" } : Jvm.MethodName) ∈ lw_tbl := List.mem_of_getElem? (i := 487) rfl
set_option maxRecDepth 100000 in
theorem kw461 : Jvm.Cond.static ({ cls := "AccessGateLaw", name := "isAsked", desc := "(LAccessGate;[I[I[I[I[I[III)Z" } : Jvm.MethodName) ∈ lw_tbl := List.mem_of_getElem? (i := 488) rfl
set_option maxRecDepth 100000 in
theorem kw462 : Jvm.Cond.code ({ cls := "AccessGateLaw", name := "isAsked", desc := "(LAccessGate;[I[I[I[I[I[III)Z" } : Jvm.MethodName) method_20_code (16 : Nat) (Option.some Jvm.ClassFile.FieldType.boolean) ∈ lw_tbl := List.mem_of_getElem? (i := 489) rfl
set_option maxRecDepth 100000 in
theorem kw463 : Jvm.Cond.methodLink "AccessGateLaw" (75 : Nat) ({ cls := "AccessGateLaw", name := "may", desc := "([I[III)Z" } : Jvm.MethodName) ∈ lw_tbl := List.mem_of_getElem? (i := 490) rfl
set_option maxRecDepth 100000 in
theorem kw464 : Jvm.Cond.static ({ cls := "AccessGateLaw", name := "may", desc := "([I[III)Z" } : Jvm.MethodName) ∈ lw_tbl := List.mem_of_getElem? (i := 491) rfl
set_option maxRecDepth 100000 in
theorem kw465 : Jvm.Cond.code ({ cls := "AccessGateLaw", name := "may", desc := "([I[III)Z" } : Jvm.MethodName) method_3_code (4 : Nat) (Option.some Jvm.ClassFile.FieldType.boolean) ∈ lw_tbl := List.mem_of_getElem? (i := 492) rfl
set_option maxRecDepth 100000 in
theorem kw466 : Jvm.Cond.methodLink "AccessGateLaw" (78 : Nat) ({ cls := "AccessGateLaw", name := "overdue", desc := "([I[II)I" } : Jvm.MethodName) ∈ lw_tbl := List.mem_of_getElem? (i := 493) rfl
set_option maxRecDepth 100000 in
theorem kw467 : Jvm.Cond.static ({ cls := "AccessGateLaw", name := "overdue", desc := "([I[II)I" } : Jvm.MethodName) ∈ lw_tbl := List.mem_of_getElem? (i := 494) rfl
set_option maxRecDepth 100000 in
theorem kw468 : Jvm.Cond.code ({ cls := "AccessGateLaw", name := "overdue", desc := "([I[II)I" } : Jvm.MethodName) method_9_code (5 : Nat) (Option.some Jvm.ClassFile.FieldType.int) ∈ lw_tbl := List.mem_of_getElem? (i := 495) rfl
set_option maxRecDepth 100000 in
theorem kw469 : Jvm.Cond.methodLink "AccessGateLaw" (82 : Nat) ({ cls := "AccessGateLaw", name := "asked", desc := "(LAccessGate;III)I" } : Jvm.MethodName) ∈ lw_tbl := List.mem_of_getElem? (i := 496) rfl
set_option maxRecDepth 100000 in
theorem kw470 : Jvm.Cond.static ({ cls := "AccessGateLaw", name := "asked", desc := "(LAccessGate;III)I" } : Jvm.MethodName) ∈ lw_tbl := List.mem_of_getElem? (i := 497) rfl
set_option maxRecDepth 100000 in
theorem kw471 : Jvm.Cond.codeWith ({ cls := "AccessGateLaw", name := "asked", desc := "(LAccessGate;III)I" } : Jvm.MethodName) method_10_code (5 : Nat) (Option.some Jvm.ClassFile.FieldType.int) [((0 : Nat), (7 : Nat), (8 : Nat), (46 : Nat))] ∈ lw_tbl := List.mem_of_getElem? (i := 498) rfl
set_option maxRecDepth 100000 in
theorem kw472 : Jvm.Cond.methodLink "AccessGateLaw" (42 : Nat) ({ cls := "AccessGate", name := "ask", desc := "(III)I" } : Jvm.MethodName) ∈ lw_tbl := List.mem_of_getElem? (i := 499) rfl
set_option maxRecDepth 100000 in
theorem kw473 : Jvm.Cond.instanceMethod ({ cls := "AccessGate", name := "ask", desc := "(III)I" } : Jvm.MethodName) ∈ lw_tbl := List.mem_of_getElem? (i := 500) rfl
set_option maxRecDepth 100000 in
theorem kw474 : Jvm.Cond.selects "AccessGate" ({ cls := "AccessGate", name := "ask", desc := "(III)I" } : Jvm.MethodName) ({ cls := "AccessGate", name := "ask", desc := "(III)I" } : Jvm.MethodName) ∈ lw_tbl := List.mem_of_getElem? (i := 501) rfl
set_option maxRecDepth 100000 in
theorem kw475 : Jvm.Cond.code ({ cls := "AccessGate", name := "ask", desc := "(III)I" } : Jvm.MethodName) prog_1_method_6_code (7 : Nat) (Option.some Jvm.ClassFile.FieldType.int) ∈ lw_tbl := List.mem_of_getElem? (i := 502) rfl
set_option maxRecDepth 100000 in
theorem kw476 : Jvm.Cond.methodLink "AccessGate" (110 : Nat) ({ cls := "AccessGate", name := "requireMayAskOrEnter", desc := "(LAccessGate$Person;LAccessGate$Machine;)V" } : Jvm.MethodName) ∈ lw_tbl := List.mem_of_getElem? (i := 503) rfl
set_option maxRecDepth 100000 in
theorem kw478 : Jvm.Cond.instanceMethod ({ cls := "AccessGate", name := "requireMayAskOrEnter", desc := "(LAccessGate$Person;LAccessGate$Machine;)V" } : Jvm.MethodName) ∈ lw_tbl := List.mem_of_getElem? (i := 505) rfl
set_option maxRecDepth 100000 in
theorem kw479 : Jvm.Cond.code ({ cls := "AccessGate", name := "requireMayAskOrEnter", desc := "(LAccessGate$Person;LAccessGate$Machine;)V" } : Jvm.MethodName) prog_1_method_34_code (3 : Nat) (Option.none : Option Jvm.ClassFile.FieldType) ∈ lw_tbl := List.mem_of_getElem? (i := 506) rfl
set_option maxRecDepth 100000 in
theorem kw480 : Jvm.Cond.methodLinkNest "AccessGate" (276 : Nat) ({ cls := "AccessGate$Person", name := "hasLabel", desc := "(I)Z" } : Jvm.MethodName) "AccessGate" ∈ lw_tbl := List.mem_of_getElem? (i := 507) rfl
set_option maxRecDepth 100000 in
theorem kw482 : Jvm.Cond.instanceMethod ({ cls := "AccessGate$Person", name := "hasLabel", desc := "(I)Z" } : Jvm.MethodName) ∈ lw_tbl := List.mem_of_getElem? (i := 509) rfl
set_option maxRecDepth 100000 in
theorem kw483 : Jvm.Cond.code ({ cls := "AccessGate$Person", name := "hasLabel", desc := "(I)Z" } : Jvm.MethodName) prog_5_method_2_code (2 : Nat) (Option.some Jvm.ClassFile.FieldType.boolean) ∈ lw_tbl := List.mem_of_getElem? (i := 510) rfl
set_option maxRecDepth 100000 in
theorem kw485 : Jvm.Cond.methodLink "AccessGate" (183 : Nat) ({ cls := "AccessGate", name := "countOverdue", desc := "(LAccessGate$Person;)I" } : Jvm.MethodName) ∈ lw_tbl := List.mem_of_getElem? (i := 512) rfl
set_option maxRecDepth 100000 in
theorem kw487 : Jvm.Cond.instanceMethod ({ cls := "AccessGate", name := "countOverdue", desc := "(LAccessGate$Person;)I" } : Jvm.MethodName) ∈ lw_tbl := List.mem_of_getElem? (i := 514) rfl
set_option maxRecDepth 100000 in
theorem kw488 : Jvm.Cond.code ({ cls := "AccessGate", name := "countOverdue", desc := "(LAccessGate$Person;)I" } : Jvm.MethodName) prog_1_method_36_code (5 : Nat) (Option.some Jvm.ClassFile.FieldType.int) ∈ lw_tbl := List.mem_of_getElem? (i := 515) rfl
set_option maxRecDepth 100000 in
theorem kw489 : Jvm.Cond.classLink "AccessGate" (158 : Nat) "AccessGate$Entry" ∈ lw_tbl := List.mem_of_getElem? (i := 516) rfl
set_option maxRecDepth 100000 in
theorem kw490 : Jvm.Cond.methodLinkNest "AccessGate" (288 : Nat) ({ cls := "AccessGate$Entry", name := "isOverdueAt", desc := "(I)Z" } : Jvm.MethodName) "AccessGate" ∈ lw_tbl := List.mem_of_getElem? (i := 517) rfl
set_option maxRecDepth 100000 in
theorem kw492 : Jvm.Cond.instanceMethod ({ cls := "AccessGate$Entry", name := "isOverdueAt", desc := "(I)Z" } : Jvm.MethodName) ∈ lw_tbl := List.mem_of_getElem? (i := 519) rfl
set_option maxRecDepth 100000 in
theorem kw493 : Jvm.Cond.instantiable "AccessGate$Entry" (4 : Nat) ∈ lw_tbl := List.mem_of_getElem? (i := 520) rfl
set_option maxRecDepth 100000 in
theorem kw494 : Jvm.Cond.code ({ cls := "AccessGate$Entry", name := "isOverdueAt", desc := "(I)Z" } : Jvm.MethodName) prog_3_method_2_code (2 : Nat) (Option.some Jvm.ClassFile.FieldType.boolean) ∈ lw_tbl := List.mem_of_getElem? (i := 521) rfl
set_option maxRecDepth 100000 in
theorem kw496 : Jvm.Cond.methodLink "AccessGate" (113 : Nat) ({ cls := "AccessGate", name := "requireRoomFor", desc := "(I)V" } : Jvm.MethodName) ∈ lw_tbl := List.mem_of_getElem? (i := 523) rfl
set_option maxRecDepth 100000 in
theorem kw497 : Jvm.Cond.static ({ cls := "AccessGate", name := "requireRoomFor", desc := "(I)V" } : Jvm.MethodName) ∈ lw_tbl := List.mem_of_getElem? (i := 524) rfl
set_option maxRecDepth 100000 in
theorem kw498 : Jvm.Cond.code ({ cls := "AccessGate", name := "requireRoomFor", desc := "(I)V" } : Jvm.MethodName) prog_1_method_32_code (1 : Nat) (Option.none : Option Jvm.ClassFile.FieldType) ∈ lw_tbl := List.mem_of_getElem? (i := 525) rfl
set_option maxRecDepth 100000 in
theorem kw500 : Jvm.Cond.methodLinkNest "AccessGate" (118 : Nat) ({ cls := "AccessGate$Ask", name := "<init>", desc := "(LAccessGate$Person;LAccessGate$Machine;II)V" } : Jvm.MethodName) "AccessGate" ∈ lw_tbl := List.mem_of_getElem? (i := 527) rfl
set_option maxRecDepth 100000 in
theorem kw501 : Jvm.Cond.instanceMethod ({ cls := "AccessGate$Ask", name := "<init>", desc := "(LAccessGate$Person;LAccessGate$Machine;II)V" } : Jvm.MethodName) ∈ lw_tbl := List.mem_of_getElem? (i := 528) rfl
set_option maxRecDepth 100000 in
theorem kw502 : Jvm.Cond.code ({ cls := "AccessGate$Ask", name := "<init>", desc := "(LAccessGate$Person;LAccessGate$Machine;II)V" } : Jvm.MethodName) prog_2_method_1_code (5 : Nat) (Option.none : Option Jvm.ClassFile.FieldType) ∈ lw_tbl := List.mem_of_getElem? (i := 529) rfl
set_option maxRecDepth 100000 in
theorem kw503 : Jvm.Cond.methodLink "AccessGate$Ask" (3 : Nat) ({ cls := "java/lang/Object", name := "<init>", desc := "()V" } : Jvm.MethodName) ∈ lw_tbl := List.mem_of_getElem? (i := 530) rfl
set_option maxRecDepth 100000 in
theorem kw504 : Jvm.Cond.fieldLink "AccessGate$Ask" (19 : Nat) "AccessGate$Ask" "who" "LAccessGate$Person;" ∈ lw_tbl := List.mem_of_getElem? (i := 531) rfl
set_option maxRecDepth 100000 in
theorem kw505 : Jvm.Cond.fieldLinkNest "AccessGate" (147 : Nat) "AccessGate$Ask" "who" "LAccessGate$Person;" "AccessGate" ∈ lw_tbl := List.mem_of_getElem? (i := 532) rfl
set_option maxRecDepth 100000 in
theorem kw506 : Jvm.Cond.fieldLink "AccessGate$Ask" (22 : Nat) "AccessGate$Ask" "where" "LAccessGate$Machine;" ∈ lw_tbl := List.mem_of_getElem? (i := 533) rfl
set_option maxRecDepth 100000 in
theorem kw507 : Jvm.Cond.fieldLinkNest "AccessGate" (138 : Nat) "AccessGate$Ask" "where" "LAccessGate$Machine;" "AccessGate" ∈ lw_tbl := List.mem_of_getElem? (i := 534) rfl
set_option maxRecDepth 100000 in
theorem kw508 : Jvm.Cond.fieldLink "AccessGate$Ask" (26 : Nat) "AccessGate$Ask" "minutes" "I" ∈ lw_tbl := List.mem_of_getElem? (i := 535) rfl
set_option maxRecDepth 100000 in
theorem kw509 : Jvm.Cond.fieldLinkNest "AccessGate" (150 : Nat) "AccessGate$Ask" "minutes" "I" "AccessGate" ∈ lw_tbl := List.mem_of_getElem? (i := 536) rfl
set_option maxRecDepth 100000 in
theorem kw510 : Jvm.Cond.fieldLink "AccessGate$Ask" (29 : Nat) "AccessGate$Ask" "time" "I" ∈ lw_tbl := List.mem_of_getElem? (i := 537) rfl
set_option maxRecDepth 100000 in
theorem kw511 : Jvm.Cond.fieldLink "AccessGate$Ask" (9 : Nat) "AccessGate$Ask" "firstApprover" "LAccessGate$Person;" ∈ lw_tbl := List.mem_of_getElem? (i := 538) rfl
set_option maxRecDepth 100000 in
theorem kw512 : Jvm.Cond.fieldLinkNest "AccessGate" (132 : Nat) "AccessGate$Ask" "firstApprover" "LAccessGate$Person;" "AccessGate" ∈ lw_tbl := List.mem_of_getElem? (i := 539) rfl
set_option maxRecDepth 100000 in
theorem kw513 : Jvm.Cond.fieldLink "AccessGate$Ask" (15 : Nat) "AccessGate$Ask" "settled" "I" ∈ lw_tbl := List.mem_of_getElem? (i := 540) rfl
set_option maxRecDepth 100000 in
theorem kw514 : Jvm.Cond.fieldLinkNest "AccessGate" (142 : Nat) "AccessGate$Ask" "settled" "I" "AccessGate" ∈ lw_tbl := List.mem_of_getElem? (i := 541) rfl
set_option maxRecDepth 100000 in
theorem kw528 : Jvm.Cond.methodLink "AccessGateLaw" (86 : Nat) ({ cls := "AccessGateLaw", name := "entered", desc := "(LAccessGate;II)I" } : Jvm.MethodName) ∈ lw_tbl := List.mem_of_getElem? (i := 555) rfl
set_option maxRecDepth 100000 in
theorem kw529 : Jvm.Cond.static ({ cls := "AccessGateLaw", name := "entered", desc := "(LAccessGate;II)I" } : Jvm.MethodName) ∈ lw_tbl := List.mem_of_getElem? (i := 556) rfl
set_option maxRecDepth 100000 in
theorem kw530 : Jvm.Cond.codeWith ({ cls := "AccessGateLaw", name := "entered", desc := "(LAccessGate;II)I" } : Jvm.MethodName) method_13_code (4 : Nat) (Option.some Jvm.ClassFile.FieldType.int) [((0 : Nat), (6 : Nat), (7 : Nat), (46 : Nat))] ∈ lw_tbl := List.mem_of_getElem? (i := 557) rfl
set_option maxRecDepth 100000 in
theorem kw531 : Jvm.Cond.methodLink "AccessGateLaw" (56 : Nat) ({ cls := "AccessGate", name := "enter", desc := "(II)I" } : Jvm.MethodName) ∈ lw_tbl := List.mem_of_getElem? (i := 558) rfl
set_option maxRecDepth 100000 in
theorem kw532 : Jvm.Cond.instanceMethod ({ cls := "AccessGate", name := "enter", desc := "(II)I" } : Jvm.MethodName) ∈ lw_tbl := List.mem_of_getElem? (i := 559) rfl
set_option maxRecDepth 100000 in
theorem kw533 : Jvm.Cond.selects "AccessGate" ({ cls := "AccessGate", name := "enter", desc := "(II)I" } : Jvm.MethodName) ({ cls := "AccessGate", name := "enter", desc := "(II)I" } : Jvm.MethodName) ∈ lw_tbl := List.mem_of_getElem? (i := 560) rfl
set_option maxRecDepth 100000 in
theorem kw534 : Jvm.Cond.code ({ cls := "AccessGate", name := "enter", desc := "(II)I" } : Jvm.MethodName) prog_1_method_10_code (6 : Nat) (Option.some Jvm.ClassFile.FieldType.int) ∈ lw_tbl := List.mem_of_getElem? (i := 561) rfl
set_option maxRecDepth 100000 in
theorem kw535 : Jvm.Cond.methodLinkNest "AccessGate" (160 : Nat) ({ cls := "AccessGate$Entry", name := "<init>", desc := "(LAccessGate$Person;LAccessGate$Machine;I)V" } : Jvm.MethodName) "AccessGate" ∈ lw_tbl := List.mem_of_getElem? (i := 562) rfl
set_option maxRecDepth 100000 in
theorem kw536 : Jvm.Cond.instanceMethod ({ cls := "AccessGate$Entry", name := "<init>", desc := "(LAccessGate$Person;LAccessGate$Machine;I)V" } : Jvm.MethodName) ∈ lw_tbl := List.mem_of_getElem? (i := 563) rfl
set_option maxRecDepth 100000 in
theorem kw537 : Jvm.Cond.code ({ cls := "AccessGate$Entry", name := "<init>", desc := "(LAccessGate$Person;LAccessGate$Machine;I)V" } : Jvm.MethodName) prog_3_method_1_code (4 : Nat) (Option.none : Option Jvm.ClassFile.FieldType) ∈ lw_tbl := List.mem_of_getElem? (i := 564) rfl
set_option maxRecDepth 100000 in
theorem kw538 : Jvm.Cond.methodLink "AccessGate$Entry" (3 : Nat) ({ cls := "java/lang/Object", name := "<init>", desc := "()V" } : Jvm.MethodName) ∈ lw_tbl := List.mem_of_getElem? (i := 565) rfl
set_option maxRecDepth 100000 in
theorem kw539 : Jvm.Cond.fieldLink "AccessGate$Entry" (15 : Nat) "AccessGate$Entry" "who" "LAccessGate$Person;" ∈ lw_tbl := List.mem_of_getElem? (i := 566) rfl
set_option maxRecDepth 100000 in
theorem kw540 : Jvm.Cond.fieldLinkNest "AccessGate" (176 : Nat) "AccessGate$Entry" "who" "LAccessGate$Person;" "AccessGate" ∈ lw_tbl := List.mem_of_getElem? (i := 567) rfl
set_option maxRecDepth 100000 in
theorem kw541 : Jvm.Cond.fieldLink "AccessGate$Entry" (19 : Nat) "AccessGate$Entry" "where" "LAccessGate$Machine;" ∈ lw_tbl := List.mem_of_getElem? (i := 568) rfl
set_option maxRecDepth 100000 in
theorem kw542 : Jvm.Cond.fieldLinkNest "AccessGate" (179 : Nat) "AccessGate$Entry" "where" "LAccessGate$Machine;" "AccessGate" ∈ lw_tbl := List.mem_of_getElem? (i := 569) rfl
set_option maxRecDepth 100000 in
theorem kw543 : Jvm.Cond.fieldLink "AccessGate$Entry" (23 : Nat) "AccessGate$Entry" "time" "I" ∈ lw_tbl := List.mem_of_getElem? (i := 570) rfl
set_option maxRecDepth 100000 in
theorem kw544 : Jvm.Cond.fieldLinkNest "AccessGate" (180 : Nat) "AccessGate$Entry" "time" "I" "AccessGate" ∈ lw_tbl := List.mem_of_getElem? (i := 571) rfl
set_option maxRecDepth 100000 in
theorem kw545 : Jvm.Cond.fieldLink "AccessGate$Entry" (9 : Nat) "AccessGate$Entry" "lookedAt" "Z" ∈ lw_tbl := List.mem_of_getElem? (i := 572) rfl
set_option maxRecDepth 100000 in
theorem kw546 : Jvm.Cond.fieldLinkNest "AccessGate" (167 : Nat) "AccessGate$Entry" "lookedAt" "Z" "AccessGate" ∈ lw_tbl := List.mem_of_getElem? (i := 573) rfl
set_option maxRecDepth 100000 in
theorem kw556 : Jvm.Cond.methodLinkNest "AccessGate" (153 : Nat) ({ cls := "AccessGate$Right", name := "<init>", desc := "(LAccessGate$Person;LAccessGate$Machine;II)V" } : Jvm.MethodName) "AccessGate" ∈ lw_tbl := List.mem_of_getElem? (i := 583) rfl
set_option maxRecDepth 100000 in
theorem kw557 : Jvm.Cond.instanceMethod ({ cls := "AccessGate$Right", name := "<init>", desc := "(LAccessGate$Person;LAccessGate$Machine;II)V" } : Jvm.MethodName) ∈ lw_tbl := List.mem_of_getElem? (i := 584) rfl
set_option maxRecDepth 100000 in
theorem kw558 : Jvm.Cond.code ({ cls := "AccessGate$Right", name := "<init>", desc := "(LAccessGate$Person;LAccessGate$Machine;II)V" } : Jvm.MethodName) prog_6_method_1_code (5 : Nat) (Option.none : Option Jvm.ClassFile.FieldType) ∈ lw_tbl := List.mem_of_getElem? (i := 585) rfl
set_option maxRecDepth 100000 in
theorem kw559 : Jvm.Cond.methodLink "AccessGate$Right" (1 : Nat) ({ cls := "java/lang/Object", name := "<init>", desc := "()V" } : Jvm.MethodName) ∈ lw_tbl := List.mem_of_getElem? (i := 586) rfl
set_option maxRecDepth 100000 in
theorem kw560 : Jvm.Cond.fieldLink "AccessGate$Right" (7 : Nat) "AccessGate$Right" "who" "LAccessGate$Person;" ∈ lw_tbl := List.mem_of_getElem? (i := 587) rfl
set_option maxRecDepth 100000 in
theorem kw561 : Jvm.Cond.fieldLinkNest "AccessGate" (291 : Nat) "AccessGate$Right" "who" "LAccessGate$Person;" "AccessGate" ∈ lw_tbl := List.mem_of_getElem? (i := 588) rfl
set_option maxRecDepth 100000 in
theorem kw562 : Jvm.Cond.fieldLink "AccessGate$Right" (13 : Nat) "AccessGate$Right" "where" "LAccessGate$Machine;" ∈ lw_tbl := List.mem_of_getElem? (i := 589) rfl
set_option maxRecDepth 100000 in
theorem kw563 : Jvm.Cond.fieldLinkNest "AccessGate" (292 : Nat) "AccessGate$Right" "where" "LAccessGate$Machine;" "AccessGate" ∈ lw_tbl := List.mem_of_getElem? (i := 590) rfl
set_option maxRecDepth 100000 in
theorem kw564 : Jvm.Cond.fieldLink "AccessGate$Right" (17 : Nat) "AccessGate$Right" "begin" "I" ∈ lw_tbl := List.mem_of_getElem? (i := 591) rfl
set_option maxRecDepth 100000 in
theorem kw565 : Jvm.Cond.fieldLink "AccessGate$Right" (21 : Nat) "AccessGate$Right" "end" "I" ∈ lw_tbl := List.mem_of_getElem? (i := 592) rfl
set_option maxRecDepth 100000 in
theorem kw566 : Jvm.Cond.fieldLinkNest "AccessGate" (296 : Nat) "AccessGate$Right" "end" "I" "AccessGate" ∈ lw_tbl := List.mem_of_getElem? (i := 593) rfl
set_option maxRecDepth 100000 in
theorem kw576 : Jvm.Cond.methodLink "AccessGateLaw" (90 : Nat) ({ cls := "AccessGateLaw", name := "give", desc := "([I[III)V" } : Jvm.MethodName) ∈ lw_tbl := List.mem_of_getElem? (i := 603) rfl
set_option maxRecDepth 100000 in
theorem kw577 : Jvm.Cond.static ({ cls := "AccessGateLaw", name := "give", desc := "([I[III)V" } : Jvm.MethodName) ∈ lw_tbl := List.mem_of_getElem? (i := 604) rfl
set_option maxRecDepth 100000 in
theorem kw578 : Jvm.Cond.code ({ cls := "AccessGateLaw", name := "give", desc := "([I[III)V" } : Jvm.MethodName) method_19_code (4 : Nat) (Option.none : Option Jvm.ClassFile.FieldType) ∈ lw_tbl := List.mem_of_getElem? (i := 605) rfl
set_option maxRecDepth 100000 in
theorem kw579 : Jvm.Cond.methodLink "AccessGateLaw" (94 : Nat) ({ cls := "AccessGateLaw", name := "looked", desc := "(LAccessGate;II)I" } : Jvm.MethodName) ∈ lw_tbl := List.mem_of_getElem? (i := 606) rfl
set_option maxRecDepth 100000 in
theorem kw580 : Jvm.Cond.static ({ cls := "AccessGateLaw", name := "looked", desc := "(LAccessGate;II)I" } : Jvm.MethodName) ∈ lw_tbl := List.mem_of_getElem? (i := 607) rfl
set_option maxRecDepth 100000 in
theorem kw581 : Jvm.Cond.codeWith ({ cls := "AccessGateLaw", name := "looked", desc := "(LAccessGate;II)I" } : Jvm.MethodName) method_14_code (4 : Nat) (Option.some Jvm.ClassFile.FieldType.int) [((0 : Nat), (6 : Nat), (7 : Nat), (46 : Nat))] ∈ lw_tbl := List.mem_of_getElem? (i := 608) rfl
set_option maxRecDepth 100000 in
theorem kw582 : Jvm.Cond.methodLink "AccessGateLaw" (60 : Nat) ({ cls := "AccessGate", name := "lookAt", desc := "(II)I" } : Jvm.MethodName) ∈ lw_tbl := List.mem_of_getElem? (i := 609) rfl
set_option maxRecDepth 100000 in
theorem kw583 : Jvm.Cond.instanceMethod ({ cls := "AccessGate", name := "lookAt", desc := "(II)I" } : Jvm.MethodName) ∈ lw_tbl := List.mem_of_getElem? (i := 610) rfl
set_option maxRecDepth 100000 in
theorem kw584 : Jvm.Cond.selects "AccessGate" ({ cls := "AccessGate", name := "lookAt", desc := "(II)I" } : Jvm.MethodName) ({ cls := "AccessGate", name := "lookAt", desc := "(II)I" } : Jvm.MethodName) ∈ lw_tbl := List.mem_of_getElem? (i := 611) rfl
set_option maxRecDepth 100000 in
theorem kw585 : Jvm.Cond.code ({ cls := "AccessGate", name := "lookAt", desc := "(II)I" } : Jvm.MethodName) prog_1_method_11_code (5 : Nat) (Option.some Jvm.ClassFile.FieldType.int) ∈ lw_tbl := List.mem_of_getElem? (i := 612) rfl
set_option maxRecDepth 100000 in
theorem kw586 : Jvm.Cond.methodLink "AccessGate" (163 : Nat) ({ cls := "AccessGate", name := "entryAt", desc := "(I)LAccessGate$Entry;" } : Jvm.MethodName) ∈ lw_tbl := List.mem_of_getElem? (i := 613) rfl
set_option maxRecDepth 100000 in
theorem kw588 : Jvm.Cond.instanceMethod ({ cls := "AccessGate", name := "entryAt", desc := "(I)LAccessGate$Entry;" } : Jvm.MethodName) ∈ lw_tbl := List.mem_of_getElem? (i := 615) rfl
set_option maxRecDepth 100000 in
theorem kw589 : Jvm.Cond.code ({ cls := "AccessGate", name := "entryAt", desc := "(I)LAccessGate$Entry;" } : Jvm.MethodName) prog_1_method_28_code (2 : Nat) (Option.some (Jvm.ClassFile.FieldType.object "AccessGate$Entry")) ∈ lw_tbl := List.mem_of_getElem? (i := 616) rfl
set_option maxRecDepth 100000 in
theorem kw593 : Jvm.Cond.methodLink "AccessGateLaw" (97 : Nat) ({ cls := "AccessGateLaw", name := "denied", desc := "(LAccessGate;II)I" } : Jvm.MethodName) ∈ lw_tbl := List.mem_of_getElem? (i := 620) rfl
set_option maxRecDepth 100000 in
theorem kw594 : Jvm.Cond.static ({ cls := "AccessGateLaw", name := "denied", desc := "(LAccessGate;II)I" } : Jvm.MethodName) ∈ lw_tbl := List.mem_of_getElem? (i := 621) rfl
set_option maxRecDepth 100000 in
theorem kw595 : Jvm.Cond.codeWith ({ cls := "AccessGateLaw", name := "denied", desc := "(LAccessGate;II)I" } : Jvm.MethodName) method_12_code (4 : Nat) (Option.some Jvm.ClassFile.FieldType.int) [((0 : Nat), (6 : Nat), (9 : Nat), (46 : Nat))] ∈ lw_tbl := List.mem_of_getElem? (i := 622) rfl
set_option maxRecDepth 100000 in
theorem kw596 : Jvm.Cond.methodLink "AccessGateLaw" (52 : Nat) ({ cls := "AccessGate", name := "deny", desc := "(II)V" } : Jvm.MethodName) ∈ lw_tbl := List.mem_of_getElem? (i := 623) rfl
set_option maxRecDepth 100000 in
theorem kw597 : Jvm.Cond.instanceMethod ({ cls := "AccessGate", name := "deny", desc := "(II)V" } : Jvm.MethodName) ∈ lw_tbl := List.mem_of_getElem? (i := 624) rfl
set_option maxRecDepth 100000 in
theorem kw598 : Jvm.Cond.selects "AccessGate" ({ cls := "AccessGate", name := "deny", desc := "(II)V" } : Jvm.MethodName) ({ cls := "AccessGate", name := "deny", desc := "(II)V" } : Jvm.MethodName) ∈ lw_tbl := List.mem_of_getElem? (i := 625) rfl
set_option maxRecDepth 100000 in
theorem kw599 : Jvm.Cond.code ({ cls := "AccessGate", name := "deny", desc := "(II)V" } : Jvm.MethodName) prog_1_method_8_code (5 : Nat) (Option.none : Option Jvm.ClassFile.FieldType) ∈ lw_tbl := List.mem_of_getElem? (i := 626) rfl
set_option maxRecDepth 100000 in
theorem kw600 : Jvm.Cond.methodLink "AccessGate" (124 : Nat) ({ cls := "AccessGate", name := "askAt", desc := "(I)LAccessGate$Ask;" } : Jvm.MethodName) ∈ lw_tbl := List.mem_of_getElem? (i := 627) rfl
set_option maxRecDepth 100000 in
theorem kw602 : Jvm.Cond.instanceMethod ({ cls := "AccessGate", name := "askAt", desc := "(I)LAccessGate$Ask;" } : Jvm.MethodName) ∈ lw_tbl := List.mem_of_getElem? (i := 629) rfl
set_option maxRecDepth 100000 in
theorem kw603 : Jvm.Cond.code ({ cls := "AccessGate", name := "askAt", desc := "(I)LAccessGate$Ask;" } : Jvm.MethodName) prog_1_method_27_code (2 : Nat) (Option.some (Jvm.ClassFile.FieldType.object "AccessGate$Ask")) ∈ lw_tbl := List.mem_of_getElem? (i := 630) rfl
set_option maxRecDepth 100000 in
theorem kw605 : Jvm.Cond.methodLink "AccessGate" (128 : Nat) ({ cls := "AccessGate", name := "requireMayJudge", desc := "(LAccessGate$Ask;LAccessGate$Person;)V" } : Jvm.MethodName) ∈ lw_tbl := List.mem_of_getElem? (i := 632) rfl
set_option maxRecDepth 100000 in
theorem kw607 : Jvm.Cond.instanceMethod ({ cls := "AccessGate", name := "requireMayJudge", desc := "(LAccessGate$Ask;LAccessGate$Person;)V" } : Jvm.MethodName) ∈ lw_tbl := List.mem_of_getElem? (i := 634) rfl
set_option maxRecDepth 100000 in
theorem kw608 : Jvm.Cond.code ({ cls := "AccessGate", name := "requireMayJudge", desc := "(LAccessGate$Ask;LAccessGate$Person;)V" } : Jvm.MethodName) prog_1_method_35_code (3 : Nat) (Option.none : Option Jvm.ClassFile.FieldType) ∈ lw_tbl := List.mem_of_getElem? (i := 635) rfl
set_option maxRecDepth 100000 in
theorem kw610 : Jvm.Cond.methodLinkNest "AccessGate" (228 : Nat) ({ cls := "AccessGate$Person", name := "mayJudge", desc := "(LAccessGate$Person;LAccessGate$Machine;)Z" } : Jvm.MethodName) "AccessGate" ∈ lw_tbl := List.mem_of_getElem? (i := 637) rfl
set_option maxRecDepth 100000 in
theorem kw612 : Jvm.Cond.instanceMethod ({ cls := "AccessGate$Person", name := "mayJudge", desc := "(LAccessGate$Person;LAccessGate$Machine;)Z" } : Jvm.MethodName) ∈ lw_tbl := List.mem_of_getElem? (i := 639) rfl
set_option maxRecDepth 100000 in
theorem kw613 : Jvm.Cond.code ({ cls := "AccessGate$Person", name := "mayJudge", desc := "(LAccessGate$Person;LAccessGate$Machine;)Z" } : Jvm.MethodName) prog_5_method_4_code (3 : Nat) (Option.some Jvm.ClassFile.FieldType.boolean) ∈ lw_tbl := List.mem_of_getElem? (i := 640) rfl
set_option maxRecDepth 100000 in
theorem kw614 : Jvm.Cond.methodLink "AccessGate$Person" (24 : Nat) ({ cls := "AccessGate$Person", name := "hasLabel", desc := "(I)Z" } : Jvm.MethodName) ∈ lw_tbl := List.mem_of_getElem? (i := 641) rfl
set_option maxRecDepth 100000 in
theorem kw616 : Jvm.Cond.methodLink "AccessGateLaw" (100 : Nat) ({ cls := "AccessGateLaw", name := "approved", desc := "(LAccessGate;II)I" } : Jvm.MethodName) ∈ lw_tbl := List.mem_of_getElem? (i := 643) rfl
set_option maxRecDepth 100000 in
theorem kw617 : Jvm.Cond.static ({ cls := "AccessGateLaw", name := "approved", desc := "(LAccessGate;II)I" } : Jvm.MethodName) ∈ lw_tbl := List.mem_of_getElem? (i := 644) rfl
set_option maxRecDepth 100000 in
theorem kw618 : Jvm.Cond.codeWith ({ cls := "AccessGateLaw", name := "approved", desc := "(LAccessGate;II)I" } : Jvm.MethodName) method_11_code (4 : Nat) (Option.some Jvm.ClassFile.FieldType.int) [((0 : Nat), (14 : Nat), (15 : Nat), (46 : Nat))] ∈ lw_tbl := List.mem_of_getElem? (i := 645) rfl
set_option maxRecDepth 100000 in
theorem kw619 : Jvm.Cond.methodLink "AccessGateLaw" (48 : Nat) ({ cls := "AccessGate", name := "approve", desc := "(II)Z" } : Jvm.MethodName) ∈ lw_tbl := List.mem_of_getElem? (i := 646) rfl
set_option maxRecDepth 100000 in
theorem kw620 : Jvm.Cond.instanceMethod ({ cls := "AccessGate", name := "approve", desc := "(II)Z" } : Jvm.MethodName) ∈ lw_tbl := List.mem_of_getElem? (i := 647) rfl
set_option maxRecDepth 100000 in
theorem kw621 : Jvm.Cond.selects "AccessGate" ({ cls := "AccessGate", name := "approve", desc := "(II)Z" } : Jvm.MethodName) ({ cls := "AccessGate", name := "approve", desc := "(II)Z" } : Jvm.MethodName) ∈ lw_tbl := List.mem_of_getElem? (i := 648) rfl
set_option maxRecDepth 100000 in
theorem kw622 : Jvm.Cond.code ({ cls := "AccessGate", name := "approve", desc := "(II)Z" } : Jvm.MethodName) prog_1_method_7_code (5 : Nat) (Option.some Jvm.ClassFile.FieldType.boolean) ∈ lw_tbl := List.mem_of_getElem? (i := 649) rfl
set_option maxRecDepth 100000 in
theorem kw624 : Jvm.Cond.methodLink "AccessGateLaw" (160 : Nat) ({ cls := "AccessGateLaw", name := "isTyped", desc := "(LAccessGate;[I[I[I[I[III)Z" } : Jvm.MethodName) ∈ lw_tbl := List.mem_of_getElem? (i := 651) rfl
set_option maxRecDepth 100000 in
theorem kw625 : Jvm.Cond.static ({ cls := "AccessGateLaw", name := "isTyped", desc := "(LAccessGate;[I[I[I[I[III)Z" } : Jvm.MethodName) ∈ lw_tbl := List.mem_of_getElem? (i := 652) rfl
set_option maxRecDepth 100000 in
theorem kw626 : Jvm.Cond.code ({ cls := "AccessGateLaw", name := "isTyped", desc := "(LAccessGate;[I[I[I[I[III)Z" } : Jvm.MethodName) method_21_code (16 : Nat) (Option.some Jvm.ClassFile.FieldType.boolean) ∈ lw_tbl := List.mem_of_getElem? (i := 653) rfl
set_option maxRecDepth 100000 in
theorem kw627 : Jvm.Cond.methodLink "AccessGateLaw" (103 : Nat) ({ cls := "AccessGateLaw", name := "opened", desc := "(LAccessGate;II)I" } : Jvm.MethodName) ∈ lw_tbl := List.mem_of_getElem? (i := 654) rfl
set_option maxRecDepth 100000 in
theorem kw628 : Jvm.Cond.static ({ cls := "AccessGateLaw", name := "opened", desc := "(LAccessGate;II)I" } : Jvm.MethodName) ∈ lw_tbl := List.mem_of_getElem? (i := 655) rfl
set_option maxRecDepth 100000 in
theorem kw629 : Jvm.Cond.codeWith ({ cls := "AccessGateLaw", name := "opened", desc := "(LAccessGate;II)I" } : Jvm.MethodName) method_15_code (4 : Nat) (Option.some Jvm.ClassFile.FieldType.int) [((0 : Nat), (6 : Nat), (7 : Nat), (46 : Nat))] ∈ lw_tbl := List.mem_of_getElem? (i := 656) rfl
set_option maxRecDepth 100000 in
theorem kw630 : Jvm.Cond.methodLink "AccessGateLaw" (63 : Nat) ({ cls := "AccessGate", name := "open", desc := "(II)I" } : Jvm.MethodName) ∈ lw_tbl := List.mem_of_getElem? (i := 657) rfl
set_option maxRecDepth 100000 in
theorem kw631 : Jvm.Cond.instanceMethod ({ cls := "AccessGate", name := "open", desc := "(II)I" } : Jvm.MethodName) ∈ lw_tbl := List.mem_of_getElem? (i := 658) rfl
set_option maxRecDepth 100000 in
theorem kw632 : Jvm.Cond.selects "AccessGate" ({ cls := "AccessGate", name := "open", desc := "(II)I" } : Jvm.MethodName) ({ cls := "AccessGate", name := "open", desc := "(II)I" } : Jvm.MethodName) ∈ lw_tbl := List.mem_of_getElem? (i := 659) rfl
set_option maxRecDepth 100000 in
theorem kw633 : Jvm.Cond.code ({ cls := "AccessGate", name := "open", desc := "(II)I" } : Jvm.MethodName) prog_1_method_14_code (6 : Nat) (Option.some Jvm.ClassFile.FieldType.int) ∈ lw_tbl := List.mem_of_getElem? (i := 660) rfl
set_option maxRecDepth 100000 in
theorem kw635 : Jvm.Cond.methodLinkNest "AccessGate" (198 : Nat) ({ cls := "AccessGate$Session", name := "<init>", desc := "(LAccessGate$Person;LAccessGate$Machine;I)V" } : Jvm.MethodName) "AccessGate" ∈ lw_tbl := List.mem_of_getElem? (i := 662) rfl
set_option maxRecDepth 100000 in
theorem kw636 : Jvm.Cond.instanceMethod ({ cls := "AccessGate$Session", name := "<init>", desc := "(LAccessGate$Person;LAccessGate$Machine;I)V" } : Jvm.MethodName) ∈ lw_tbl := List.mem_of_getElem? (i := 663) rfl
set_option maxRecDepth 100000 in
theorem kw637 : Jvm.Cond.code ({ cls := "AccessGate$Session", name := "<init>", desc := "(LAccessGate$Person;LAccessGate$Machine;I)V" } : Jvm.MethodName) prog_7_method_1_code (4 : Nat) (Option.none : Option Jvm.ClassFile.FieldType) ∈ lw_tbl := List.mem_of_getElem? (i := 664) rfl
set_option maxRecDepth 100000 in
theorem kw638 : Jvm.Cond.methodLink "AccessGate$Session" (3 : Nat) ({ cls := "java/lang/Object", name := "<init>", desc := "()V" } : Jvm.MethodName) ∈ lw_tbl := List.mem_of_getElem? (i := 665) rfl
set_option maxRecDepth 100000 in
theorem kw639 : Jvm.Cond.fieldLink "AccessGate$Session" (22 : Nat) "AccessGate$Session" "who" "LAccessGate$Person;" ∈ lw_tbl := List.mem_of_getElem? (i := 666) rfl
set_option maxRecDepth 100000 in
theorem kw640 : Jvm.Cond.fieldLinkNest "AccessGate" (215 : Nat) "AccessGate$Session" "who" "LAccessGate$Person;" "AccessGate" ∈ lw_tbl := List.mem_of_getElem? (i := 667) rfl
set_option maxRecDepth 100000 in
theorem kw641 : Jvm.Cond.fieldLink "AccessGate$Session" (26 : Nat) "AccessGate$Session" "where" "LAccessGate$Machine;" ∈ lw_tbl := List.mem_of_getElem? (i := 668) rfl
set_option maxRecDepth 100000 in
theorem kw642 : Jvm.Cond.fieldLinkNest "AccessGate" (216 : Nat) "AccessGate$Session" "where" "LAccessGate$Machine;" "AccessGate" ∈ lw_tbl := List.mem_of_getElem? (i := 669) rfl
set_option maxRecDepth 100000 in
theorem kw643 : Jvm.Cond.fieldLink "AccessGate$Session" (9 : Nat) "AccessGate$Session" "closed" "Z" ∈ lw_tbl := List.mem_of_getElem? (i := 670) rfl
set_option maxRecDepth 100000 in
theorem kw644 : Jvm.Cond.fieldLinkNest "AccessGate" (237 : Nat) "AccessGate$Session" "closed" "Z" "AccessGate" ∈ lw_tbl := List.mem_of_getElem? (i := 671) rfl
set_option maxRecDepth 100000 in
theorem kw645 : Jvm.Cond.fieldLink "AccessGate$Session" (30 : Nat) "AccessGate$Session" "lastLine" "I" ∈ lw_tbl := List.mem_of_getElem? (i := 672) rfl
set_option maxRecDepth 100000 in
theorem kw646 : Jvm.Cond.fieldLinkNest "AccessGate" (217 : Nat) "AccessGate$Session" "lastLine" "I" "AccessGate" ∈ lw_tbl := List.mem_of_getElem? (i := 673) rfl
set_option maxRecDepth 100000 in
theorem kw647 : Jvm.Cond.fieldLink "AccessGate$Session" (15 : Nat) "AccessGate$Session" "heldSince" "I" ∈ lw_tbl := List.mem_of_getElem? (i := 674) rfl
set_option maxRecDepth 100000 in
theorem kw648 : Jvm.Cond.fieldLinkNest "AccessGate" (223 : Nat) "AccessGate$Session" "heldSince" "I" "AccessGate" ∈ lw_tbl := List.mem_of_getElem? (i := 675) rfl
set_option maxRecDepth 100000 in
theorem kw649 : Jvm.Cond.fieldLink "AccessGate$Session" (19 : Nat) "AccessGate$Session" "linesLetThrough" "I" ∈ lw_tbl := List.mem_of_getElem? (i := 676) rfl
set_option maxRecDepth 100000 in
theorem kw650 : Jvm.Cond.fieldLinkNest "AccessGate" (220 : Nat) "AccessGate$Session" "linesLetThrough" "I" "AccessGate" ∈ lw_tbl := List.mem_of_getElem? (i := 677) rfl
set_option maxRecDepth 100000 in
theorem kw664 : Jvm.Cond.methodLink "AccessGateLaw" (106 : Nat) ({ cls := "AccessGateLaw", name := "let", desc := "(LAccessGate;II)I" } : Jvm.MethodName) ∈ lw_tbl := List.mem_of_getElem? (i := 691) rfl
set_option maxRecDepth 100000 in
theorem kw665 : Jvm.Cond.static ({ cls := "AccessGateLaw", name := "let", desc := "(LAccessGate;II)I" } : Jvm.MethodName) ∈ lw_tbl := List.mem_of_getElem? (i := 692) rfl
set_option maxRecDepth 100000 in
theorem kw666 : Jvm.Cond.codeWith ({ cls := "AccessGateLaw", name := "let", desc := "(LAccessGate;II)I" } : Jvm.MethodName) method_17_code (4 : Nat) (Option.some Jvm.ClassFile.FieldType.int) [((0 : Nat), (6 : Nat), (7 : Nat), (46 : Nat))] ∈ lw_tbl := List.mem_of_getElem? (i := 693) rfl
set_option maxRecDepth 100000 in
theorem kw667 : Jvm.Cond.methodLink "AccessGateLaw" (69 : Nat) ({ cls := "AccessGate", name := "letThrough", desc := "(II)I" } : Jvm.MethodName) ∈ lw_tbl := List.mem_of_getElem? (i := 694) rfl
set_option maxRecDepth 100000 in
theorem kw668 : Jvm.Cond.instanceMethod ({ cls := "AccessGate", name := "letThrough", desc := "(II)I" } : Jvm.MethodName) ∈ lw_tbl := List.mem_of_getElem? (i := 695) rfl
set_option maxRecDepth 100000 in
theorem kw669 : Jvm.Cond.selects "AccessGate" ({ cls := "AccessGate", name := "letThrough", desc := "(II)I" } : Jvm.MethodName) ({ cls := "AccessGate", name := "letThrough", desc := "(II)I" } : Jvm.MethodName) ∈ lw_tbl := List.mem_of_getElem? (i := 696) rfl
set_option maxRecDepth 100000 in
theorem kw670 : Jvm.Cond.code ({ cls := "AccessGate", name := "letThrough", desc := "(II)I" } : Jvm.MethodName) prog_1_method_16_code (6 : Nat) (Option.some Jvm.ClassFile.FieldType.int) ∈ lw_tbl := List.mem_of_getElem? (i := 697) rfl
set_option maxRecDepth 100000 in
theorem kw671 : Jvm.Cond.methodLink "AccessGate" (199 : Nat) ({ cls := "AccessGate", name := "sessionAt", desc := "(I)LAccessGate$Session;" } : Jvm.MethodName) ∈ lw_tbl := List.mem_of_getElem? (i := 698) rfl
set_option maxRecDepth 100000 in
theorem kw673 : Jvm.Cond.instanceMethod ({ cls := "AccessGate", name := "sessionAt", desc := "(I)LAccessGate$Session;" } : Jvm.MethodName) ∈ lw_tbl := List.mem_of_getElem? (i := 700) rfl
set_option maxRecDepth 100000 in
theorem kw674 : Jvm.Cond.code ({ cls := "AccessGate", name := "sessionAt", desc := "(I)LAccessGate$Session;" } : Jvm.MethodName) prog_1_method_29_code (2 : Nat) (Option.some (Jvm.ClassFile.FieldType.object "AccessGate$Session")) ∈ lw_tbl := List.mem_of_getElem? (i := 701) rfl
set_option maxRecDepth 100000 in
theorem kw676 : Jvm.Cond.methodLink "AccessGate" (205 : Nat) ({ cls := "AccessGate", name := "requireOpen", desc := "(LAccessGate$Session;)V" } : Jvm.MethodName) ∈ lw_tbl := List.mem_of_getElem? (i := 703) rfl
set_option maxRecDepth 100000 in
theorem kw677 : Jvm.Cond.static ({ cls := "AccessGate", name := "requireOpen", desc := "(LAccessGate$Session;)V" } : Jvm.MethodName) ∈ lw_tbl := List.mem_of_getElem? (i := 704) rfl
set_option maxRecDepth 100000 in
theorem kw678 : Jvm.Cond.code ({ cls := "AccessGate", name := "requireOpen", desc := "(LAccessGate$Session;)V" } : Jvm.MethodName) prog_1_method_33_code (1 : Nat) (Option.none : Option Jvm.ClassFile.FieldType) ∈ lw_tbl := List.mem_of_getElem? (i := 705) rfl
set_option maxRecDepth 100000 in
theorem kw680 : Jvm.Cond.methodLinkNest "AccessGate" (209 : Nat) ({ cls := "AccessGate$Session", name := "holdsLine", desc := "()Z" } : Jvm.MethodName) "AccessGate" ∈ lw_tbl := List.mem_of_getElem? (i := 707) rfl
set_option maxRecDepth 100000 in
theorem kw682 : Jvm.Cond.instanceMethod ({ cls := "AccessGate$Session", name := "holdsLine", desc := "()Z" } : Jvm.MethodName) ∈ lw_tbl := List.mem_of_getElem? (i := 709) rfl
set_option maxRecDepth 100000 in
theorem kw683 : Jvm.Cond.code ({ cls := "AccessGate$Session", name := "holdsLine", desc := "()Z" } : Jvm.MethodName) prog_7_method_2_code (1 : Nat) (Option.some Jvm.ClassFile.FieldType.boolean) ∈ lw_tbl := List.mem_of_getElem? (i := 710) rfl
set_option maxRecDepth 100000 in
theorem kw686 : Jvm.Cond.methodLink "AccessGateLaw" (109 : Nat) ({ cls := "AccessGateLaw", name := "closed", desc := "(LAccessGate;I)I" } : Jvm.MethodName) ∈ lw_tbl := List.mem_of_getElem? (i := 713) rfl
set_option maxRecDepth 100000 in
theorem kw687 : Jvm.Cond.static ({ cls := "AccessGateLaw", name := "closed", desc := "(LAccessGate;I)I" } : Jvm.MethodName) ∈ lw_tbl := List.mem_of_getElem? (i := 714) rfl
set_option maxRecDepth 100000 in
theorem kw688 : Jvm.Cond.codeWith ({ cls := "AccessGateLaw", name := "closed", desc := "(LAccessGate;I)I" } : Jvm.MethodName) method_18_code (3 : Nat) (Option.some Jvm.ClassFile.FieldType.int) [((0 : Nat), (5 : Nat), (6 : Nat), (46 : Nat))] ∈ lw_tbl := List.mem_of_getElem? (i := 715) rfl
set_option maxRecDepth 100000 in
theorem kw689 : Jvm.Cond.methodLink "AccessGateLaw" (72 : Nat) ({ cls := "AccessGate", name := "close", desc := "(I)I" } : Jvm.MethodName) ∈ lw_tbl := List.mem_of_getElem? (i := 716) rfl
set_option maxRecDepth 100000 in
theorem kw690 : Jvm.Cond.instanceMethod ({ cls := "AccessGate", name := "close", desc := "(I)I" } : Jvm.MethodName) ∈ lw_tbl := List.mem_of_getElem? (i := 717) rfl
set_option maxRecDepth 100000 in
theorem kw691 : Jvm.Cond.selects "AccessGate" ({ cls := "AccessGate", name := "close", desc := "(I)I" } : Jvm.MethodName) ({ cls := "AccessGate", name := "close", desc := "(I)I" } : Jvm.MethodName) ∈ lw_tbl := List.mem_of_getElem? (i := 718) rfl
set_option maxRecDepth 100000 in
theorem kw692 : Jvm.Cond.code ({ cls := "AccessGate", name := "close", desc := "(I)I" } : Jvm.MethodName) prog_1_method_17_code (3 : Nat) (Option.some Jvm.ClassFile.FieldType.int) ∈ lw_tbl := List.mem_of_getElem? (i := 719) rfl
set_option maxRecDepth 100000 in
theorem kw693 : Jvm.Cond.methodLink "AccessGateLaw" (113 : Nat) ({ cls := "AccessGateLaw", name := "typed", desc := "(LAccessGate;II)I" } : Jvm.MethodName) ∈ lw_tbl := List.mem_of_getElem? (i := 720) rfl
set_option maxRecDepth 100000 in
theorem kw694 : Jvm.Cond.static ({ cls := "AccessGateLaw", name := "typed", desc := "(LAccessGate;II)I" } : Jvm.MethodName) ∈ lw_tbl := List.mem_of_getElem? (i := 721) rfl
set_option maxRecDepth 100000 in
theorem kw695 : Jvm.Cond.codeWith ({ cls := "AccessGateLaw", name := "typed", desc := "(LAccessGate;II)I" } : Jvm.MethodName) method_16_code (4 : Nat) (Option.some Jvm.ClassFile.FieldType.int) [((0 : Nat), (14 : Nat), (15 : Nat), (46 : Nat))] ∈ lw_tbl := List.mem_of_getElem? (i := 722) rfl
set_option maxRecDepth 100000 in
theorem kw696 : Jvm.Cond.methodLink "AccessGateLaw" (66 : Nat) ({ cls := "AccessGate", name := "type", desc := "(II)Z" } : Jvm.MethodName) ∈ lw_tbl := List.mem_of_getElem? (i := 723) rfl
set_option maxRecDepth 100000 in
theorem kw697 : Jvm.Cond.instanceMethod ({ cls := "AccessGate", name := "type", desc := "(II)Z" } : Jvm.MethodName) ∈ lw_tbl := List.mem_of_getElem? (i := 724) rfl
set_option maxRecDepth 100000 in
theorem kw698 : Jvm.Cond.selects "AccessGate" ({ cls := "AccessGate", name := "type", desc := "(II)Z" } : Jvm.MethodName) ({ cls := "AccessGate", name := "type", desc := "(II)Z" } : Jvm.MethodName) ∈ lw_tbl := List.mem_of_getElem? (i := 725) rfl
set_option maxRecDepth 100000 in
theorem kw699 : Jvm.Cond.code ({ cls := "AccessGate", name := "type", desc := "(II)Z" } : Jvm.MethodName) prog_1_method_15_code (4 : Nat) (Option.some Jvm.ClassFile.FieldType.boolean) ∈ lw_tbl := List.mem_of_getElem? (i := 726) rfl
set_option maxRecDepth 100000 in
theorem kw702 : Jvm.Cond.constant "AccessGateLaw" (180 : Nat) (100000 : Int32) ∈ lw_tbl := List.mem_of_getElem? (i := 729) rfl
set_option maxRecDepth 100000 in
theorem kw703 : Jvm.Cond.methodLink "AccessGateLaw" (181 : Nat) ({ cls := "AccessGateLaw", name := "isTold", desc := "(LAccessGate;[I[I[I[I[II)Z" } : Jvm.MethodName) ∈ lw_tbl := List.mem_of_getElem? (i := 730) rfl
set_option maxRecDepth 100000 in
theorem kw704 : Jvm.Cond.static ({ cls := "AccessGateLaw", name := "isTold", desc := "(LAccessGate;[I[I[I[I[II)Z" } : Jvm.MethodName) ∈ lw_tbl := List.mem_of_getElem? (i := 731) rfl
set_option maxRecDepth 100000 in
theorem kw705 : Jvm.Cond.code ({ cls := "AccessGateLaw", name := "isTold", desc := "(LAccessGate;[I[I[I[I[II)Z" } : Jvm.MethodName) method_22_code (12 : Nat) (Option.some Jvm.ClassFile.FieldType.boolean) ∈ lw_tbl := List.mem_of_getElem? (i := 732) rfl
set_option maxRecDepth 100000 in
theorem kw706 : Jvm.Cond.methodLink "AccessGateLaw" (124 : Nat) ({ cls := "AccessGate", name := "clock", desc := "()I" } : Jvm.MethodName) ∈ lw_tbl := List.mem_of_getElem? (i := 733) rfl
set_option maxRecDepth 100000 in
theorem kw707 : Jvm.Cond.instanceMethod ({ cls := "AccessGate", name := "clock", desc := "()I" } : Jvm.MethodName) ∈ lw_tbl := List.mem_of_getElem? (i := 734) rfl
set_option maxRecDepth 100000 in
theorem kw708 : Jvm.Cond.selects "AccessGate" ({ cls := "AccessGate", name := "clock", desc := "()I" } : Jvm.MethodName) ({ cls := "AccessGate", name := "clock", desc := "()I" } : Jvm.MethodName) ∈ lw_tbl := List.mem_of_getElem? (i := 735) rfl
set_option maxRecDepth 100000 in
theorem kw709 : Jvm.Cond.code ({ cls := "AccessGate", name := "clock", desc := "()I" } : Jvm.MethodName) prog_1_method_21_code (1 : Nat) (Option.some Jvm.ClassFile.FieldType.int) ∈ lw_tbl := List.mem_of_getElem? (i := 736) rfl
set_option maxRecDepth 100000 in
theorem kw710 : Jvm.Cond.methodLink "AccessGateLaw" (127 : Nat) ({ cls := "AccessGate", name := "askState", desc := "(I)I" } : Jvm.MethodName) ∈ lw_tbl := List.mem_of_getElem? (i := 737) rfl
set_option maxRecDepth 100000 in
theorem kw711 : Jvm.Cond.instanceMethod ({ cls := "AccessGate", name := "askState", desc := "(I)I" } : Jvm.MethodName) ∈ lw_tbl := List.mem_of_getElem? (i := 738) rfl
set_option maxRecDepth 100000 in
theorem kw712 : Jvm.Cond.selects "AccessGate" ({ cls := "AccessGate", name := "askState", desc := "(I)I" } : Jvm.MethodName) ({ cls := "AccessGate", name := "askState", desc := "(I)I" } : Jvm.MethodName) ∈ lw_tbl := List.mem_of_getElem? (i := 739) rfl
set_option maxRecDepth 100000 in
theorem kw713 : Jvm.Cond.code ({ cls := "AccessGate", name := "askState", desc := "(I)I" } : Jvm.MethodName) prog_1_method_9_code (2 : Nat) (Option.some Jvm.ClassFile.FieldType.int) ∈ lw_tbl := List.mem_of_getElem? (i := 740) rfl
set_option maxRecDepth 100000 in
theorem kw714 : Jvm.Cond.methodLink "AccessGateLaw" (130 : Nat) ({ cls := "AccessGate", name := "isOpen", desc := "(I)Z" } : Jvm.MethodName) ∈ lw_tbl := List.mem_of_getElem? (i := 741) rfl
set_option maxRecDepth 100000 in
theorem kw715 : Jvm.Cond.instanceMethod ({ cls := "AccessGate", name := "isOpen", desc := "(I)Z" } : Jvm.MethodName) ∈ lw_tbl := List.mem_of_getElem? (i := 742) rfl
set_option maxRecDepth 100000 in
theorem kw716 : Jvm.Cond.selects "AccessGate" ({ cls := "AccessGate", name := "isOpen", desc := "(I)Z" } : Jvm.MethodName) ({ cls := "AccessGate", name := "isOpen", desc := "(I)Z" } : Jvm.MethodName) ∈ lw_tbl := List.mem_of_getElem? (i := 743) rfl
set_option maxRecDepth 100000 in
theorem kw717 : Jvm.Cond.code ({ cls := "AccessGate", name := "isOpen", desc := "(I)Z" } : Jvm.MethodName) prog_1_method_18_code (2 : Nat) (Option.some Jvm.ClassFile.FieldType.boolean) ∈ lw_tbl := List.mem_of_getElem? (i := 744) rfl
set_option maxRecDepth 100000 in
theorem kw718 : Jvm.Cond.methodLink "AccessGateLaw" (134 : Nat) ({ cls := "AccessGate", name := "overdue", desc := "(I)I" } : Jvm.MethodName) ∈ lw_tbl := List.mem_of_getElem? (i := 745) rfl
set_option maxRecDepth 100000 in
theorem kw719 : Jvm.Cond.instanceMethod ({ cls := "AccessGate", name := "overdue", desc := "(I)I" } : Jvm.MethodName) ∈ lw_tbl := List.mem_of_getElem? (i := 746) rfl
set_option maxRecDepth 100000 in
theorem kw720 : Jvm.Cond.selects "AccessGate" ({ cls := "AccessGate", name := "overdue", desc := "(I)I" } : Jvm.MethodName) ({ cls := "AccessGate", name := "overdue", desc := "(I)I" } : Jvm.MethodName) ∈ lw_tbl := List.mem_of_getElem? (i := 747) rfl
set_option maxRecDepth 100000 in
theorem kw721 : Jvm.Cond.code ({ cls := "AccessGate", name := "overdue", desc := "(I)I" } : Jvm.MethodName) prog_1_method_12_code (2 : Nat) (Option.some Jvm.ClassFile.FieldType.int) ∈ lw_tbl := List.mem_of_getElem? (i := 748) rfl
set_option maxRecDepth 100000 in
theorem kw722 : Jvm.Cond.methodLink "AccessGateLaw" (136 : Nat) ({ cls := "AccessGate", name := "couldEnter", desc := "(III)Z" } : Jvm.MethodName) ∈ lw_tbl := List.mem_of_getElem? (i := 749) rfl
set_option maxRecDepth 100000 in
theorem kw723 : Jvm.Cond.instanceMethod ({ cls := "AccessGate", name := "couldEnter", desc := "(III)Z" } : Jvm.MethodName) ∈ lw_tbl := List.mem_of_getElem? (i := 750) rfl
set_option maxRecDepth 100000 in
theorem kw724 : Jvm.Cond.selects "AccessGate" ({ cls := "AccessGate", name := "couldEnter", desc := "(III)Z" } : Jvm.MethodName) ({ cls := "AccessGate", name := "couldEnter", desc := "(III)Z" } : Jvm.MethodName) ∈ lw_tbl := List.mem_of_getElem? (i := 751) rfl
set_option maxRecDepth 100000 in
theorem kw725 : Jvm.Cond.code ({ cls := "AccessGate", name := "couldEnter", desc := "(III)Z" } : Jvm.MethodName) prog_1_method_13_code (6 : Nat) (Option.some Jvm.ClassFile.FieldType.boolean) ∈ lw_tbl := List.mem_of_getElem? (i := 752) rfl
set_option maxRecDepth 100000 in
theorem kw727 : Jvm.Cond.methodLink "AccessGateLaw" (140 : Nat) ({ cls := "AccessGate", name := "openSessions", desc := "()I" } : Jvm.MethodName) ∈ lw_tbl := List.mem_of_getElem? (i := 754) rfl
set_option maxRecDepth 100000 in
theorem kw728 : Jvm.Cond.instanceMethod ({ cls := "AccessGate", name := "openSessions", desc := "()I" } : Jvm.MethodName) ∈ lw_tbl := List.mem_of_getElem? (i := 755) rfl
set_option maxRecDepth 100000 in
theorem kw729 : Jvm.Cond.selects "AccessGate" ({ cls := "AccessGate", name := "openSessions", desc := "()I" } : Jvm.MethodName) ({ cls := "AccessGate", name := "openSessions", desc := "()I" } : Jvm.MethodName) ∈ lw_tbl := List.mem_of_getElem? (i := 756) rfl
set_option maxRecDepth 100000 in
theorem kw730 : Jvm.Cond.code ({ cls := "AccessGate", name := "openSessions", desc := "()I" } : Jvm.MethodName) prog_1_method_19_code (1 : Nat) (Option.some Jvm.ClassFile.FieldType.int) ∈ lw_tbl := List.mem_of_getElem? (i := 757) rfl
set_option maxRecDepth 100000 in
theorem kw732 : Jvm.Cond.castable "AccessGate" "java/lang/Object" ∈ lw_tbl := List.mem_of_getElem? (i := 759) rfl
set_option maxRecDepth 100000 in
theorem kw733 : Jvm.Cond.castable "java/util/ArrayList" "java/lang/Object" ∈ lw_tbl := List.mem_of_getElem? (i := 760) rfl
set_option maxRecDepth 100000 in
theorem kw734 : Jvm.Cond.castable "AccessGate$StepRecord" "java/lang/Object" ∈ lw_tbl := List.mem_of_getElem? (i := 761) rfl
set_option maxRecDepth 100000 in
theorem kw735 : Jvm.Cond.castable "java/lang/IllegalArgumentException" "java/lang/Object" ∈ lw_tbl := List.mem_of_getElem? (i := 762) rfl
set_option maxRecDepth 100000 in
theorem kw736 : Jvm.Cond.castable "java/lang/IllegalStateException" "java/lang/Object" ∈ lw_tbl := List.mem_of_getElem? (i := 763) rfl
set_option maxRecDepth 100000 in
theorem kw737 : Jvm.Cond.castable "AccessGate$Person" "java/lang/Object" ∈ lw_tbl := List.mem_of_getElem? (i := 764) rfl
set_option maxRecDepth 100000 in
theorem kw738 : Jvm.Cond.castable "java/lang/IndexOutOfBoundsException" "java/lang/Object" ∈ lw_tbl := List.mem_of_getElem? (i := 765) rfl
set_option maxRecDepth 100000 in
theorem kw739 : Jvm.Cond.castable "AccessGate$Machine" "java/lang/Object" ∈ lw_tbl := List.mem_of_getElem? (i := 766) rfl
set_option maxRecDepth 100000 in
theorem kw740 : Jvm.Cond.castable "AccessGate$Ask" "java/lang/Object" ∈ lw_tbl := List.mem_of_getElem? (i := 767) rfl
set_option maxRecDepth 100000 in
theorem kw741 : Jvm.Cond.castable "AccessGate$Entry" "java/lang/Object" ∈ lw_tbl := List.mem_of_getElem? (i := 768) rfl
set_option maxRecDepth 100000 in
theorem kw742 : Jvm.Cond.castable "AccessGate$Right" "java/lang/Object" ∈ lw_tbl := List.mem_of_getElem? (i := 769) rfl
set_option maxRecDepth 100000 in
theorem kw743 : Jvm.Cond.castable "AccessGate$Session" "java/lang/Object" ∈ lw_tbl := List.mem_of_getElem? (i := 770) rfl
set_option maxRecDepth 100000 in
theorem kw744 : Jvm.Cond.castable "java/lang/Throwable" "java/lang/Object" ∈ lw_tbl := List.mem_of_getElem? (i := 771) rfl
set_option maxRecDepth 100000 in
theorem kw745 : Jvm.Cond.castable "java/lang/String" "java/lang/Object" ∈ lw_tbl := List.mem_of_getElem? (i := 772) rfl
set_option maxRecDepth 100000 in
theorem kw747 : Jvm.Cond.selects "[Ljava/lang/Object;" ({ cls := "java/lang/Object", name := "getClass", desc := "()Ljava/lang/Class;" } : Jvm.MethodName) ({ cls := "java/lang/Object", name := "getClass", desc := "()Ljava/lang/Class;" } : Jvm.MethodName) ∈ lw_tbl := List.mem_of_getElem? (i := 774) rfl
set_option maxRecDepth 100000 in
theorem kw748 : Jvm.Cond.declares ({ cls := "java/lang/Object", name := "getClass", desc := "()Ljava/lang/Class;" } : Jvm.MethodName) ∈ lw_tbl := List.mem_of_getElem? (i := 775) rfl
set_option maxRecDepth 100000 in
theorem kw749 : Jvm.Cond.castable "[I" "java/lang/Object" ∈ lw_tbl := List.mem_of_getElem? (i := 776) rfl
set_option maxRecDepth 100000 in
theorem kw750 : Jvm.Cond.castable "[B" "java/lang/Object" ∈ lw_tbl := List.mem_of_getElem? (i := 777) rfl
set_option maxRecDepth 100000 in
theorem kw751 : Jvm.Cond.castable "[Ljava/lang/Object;" "java/lang/Object" ∈ lw_tbl := List.mem_of_getElem? (i := 778) rfl
theorem kp0 : Jvm.Cond.selects "java/lang/Throwable" (⟨"java/lang/Throwable", "fillInStackTrace", "(I)Ljava/lang/Throwable;"⟩ : Jvm.MethodName) (⟨"java/lang/Throwable", "fillInStackTrace", "(I)Ljava/lang/Throwable;"⟩ : Jvm.MethodName) ∈ lw_tbl := List.mem_of_getElem? (i := 0) rfl
theorem kp1 : Jvm.Cond.selects "java/util/ArrayList" (⟨"java/util/ArrayList", "add", "(Ljava/lang/Object;[Ljava/lang/Object;I)V"⟩ : Jvm.MethodName) (⟨"java/util/ArrayList", "add", "(Ljava/lang/Object;[Ljava/lang/Object;I)V"⟩ : Jvm.MethodName) ∈ lw_tbl := List.mem_of_getElem? (i := 1) rfl
theorem kp2 : Jvm.Cond.selects "java/util/ArrayList" (⟨"java/util/ArrayList", "grow", "()[Ljava/lang/Object;"⟩ : Jvm.MethodName) (⟨"java/util/ArrayList", "grow", "()[Ljava/lang/Object;"⟩ : Jvm.MethodName) ∈ lw_tbl := List.mem_of_getElem? (i := 2) rfl
theorem kp3 : Jvm.Cond.selects "java/util/ArrayList" (⟨"java/util/ArrayList", "grow", "(I)[Ljava/lang/Object;"⟩ : Jvm.MethodName) (⟨"java/util/ArrayList", "grow", "(I)[Ljava/lang/Object;"⟩ : Jvm.MethodName) ∈ lw_tbl := List.mem_of_getElem? (i := 3) rfl
theorem kp4 : Jvm.Cond.selects "AccessGate" (⟨"AccessGate", "personAt", "(I)LAccessGate$Person;"⟩ : Jvm.MethodName) (⟨"AccessGate", "personAt", "(I)LAccessGate$Person;"⟩ : Jvm.MethodName) ∈ lw_tbl := List.mem_of_getElem? (i := 4) rfl
theorem kp5 : Jvm.Cond.selects "AccessGate$Person" (⟨"AccessGate$Person", "keepLabel", "(IZ)V"⟩ : Jvm.MethodName) (⟨"AccessGate$Person", "keepLabel", "(IZ)V"⟩ : Jvm.MethodName) ∈ lw_tbl := List.mem_of_getElem? (i := 5) rfl
theorem kp6 : Jvm.Cond.selects "AccessGate" (⟨"AccessGate", "endRights", "(LAccessGate$Person;LAccessGate$Machine;)V"⟩ : Jvm.MethodName) (⟨"AccessGate", "endRights", "(LAccessGate$Person;LAccessGate$Machine;)V"⟩ : Jvm.MethodName) ∈ lw_tbl := List.mem_of_getElem? (i := 6) rfl
theorem kp7 : Jvm.Cond.selects "AccessGate$Right" (⟨"AccessGate$Right", "holdsAt", "(I)Z"⟩ : Jvm.MethodName) (⟨"AccessGate$Right", "holdsAt", "(I)Z"⟩ : Jvm.MethodName) ∈ lw_tbl := List.mem_of_getElem? (i := 7) rfl
theorem kp8 : Jvm.Cond.selects "AccessGate" (⟨"AccessGate", "denyWaitingAsks", "(LAccessGate$Person;LAccessGate$Machine;)V"⟩ : Jvm.MethodName) (⟨"AccessGate", "denyWaitingAsks", "(LAccessGate$Person;LAccessGate$Machine;)V"⟩ : Jvm.MethodName) ∈ lw_tbl := List.mem_of_getElem? (i := 8) rfl
theorem kp9 : Jvm.Cond.selects "AccessGate$Ask" (⟨"AccessGate$Ask", "stateAt", "(I)I"⟩ : Jvm.MethodName) (⟨"AccessGate$Ask", "stateAt", "(I)I"⟩ : Jvm.MethodName) ∈ lw_tbl := List.mem_of_getElem? (i := 9) rfl
theorem kp10 : Jvm.Cond.selects "AccessGate" (⟨"AccessGate", "closeEndedSessions", "()I"⟩ : Jvm.MethodName) (⟨"AccessGate", "closeEndedSessions", "()I"⟩ : Jvm.MethodName) ∈ lw_tbl := List.mem_of_getElem? (i := 10) rfl
theorem kp11 : Jvm.Cond.selects "AccessGate$Session" (⟨"AccessGate$Session", "restsAt", "(I)Z"⟩ : Jvm.MethodName) (⟨"AccessGate$Session", "restsAt", "(I)Z"⟩ : Jvm.MethodName) ∈ lw_tbl := List.mem_of_getElem? (i := 11) rfl
theorem kp12 : Jvm.Cond.selects "AccessGate" (⟨"AccessGate", "rightHolds", "(LAccessGate$Person;LAccessGate$Machine;I)Z"⟩ : Jvm.MethodName) (⟨"AccessGate", "rightHolds", "(LAccessGate$Person;LAccessGate$Machine;I)Z"⟩ : Jvm.MethodName) ∈ lw_tbl := List.mem_of_getElem? (i := 12) rfl
theorem kp13 : Jvm.Cond.selects "AccessGate" (⟨"AccessGate", "endSession", "(LAccessGate$Session;)V"⟩ : Jvm.MethodName) (⟨"AccessGate", "endSession", "(LAccessGate$Session;)V"⟩ : Jvm.MethodName) ∈ lw_tbl := List.mem_of_getElem? (i := 13) rfl
theorem kp14 : Jvm.Cond.selects "AccessGate$StepRecord" (⟨"AccessGate$StepRecord", "add", "(ILAccessGate$Person;LAccessGate$Machine;I)V"⟩ : Jvm.MethodName) (⟨"AccessGate$StepRecord", "add", "(ILAccessGate$Person;LAccessGate$Machine;I)V"⟩ : Jvm.MethodName) ∈ lw_tbl := List.mem_of_getElem? (i := 14) rfl
theorem kp15 : Jvm.Cond.selects "AccessGate" (⟨"AccessGate", "requireStep", "(I)V"⟩ : Jvm.MethodName) (⟨"AccessGate", "requireStep", "(I)V"⟩ : Jvm.MethodName) ∈ lw_tbl := List.mem_of_getElem? (i := 15) rfl
theorem kp16 : Jvm.Cond.selects "AccessGate" (⟨"AccessGate", "machineAt", "(I)LAccessGate$Machine;"⟩ : Jvm.MethodName) (⟨"AccessGate", "machineAt", "(I)LAccessGate$Machine;"⟩ : Jvm.MethodName) ∈ lw_tbl := List.mem_of_getElem? (i := 16) rfl
theorem kp17 : Jvm.Cond.selects "AccessGate" (⟨"AccessGate", "requireMayAskOrEnter", "(LAccessGate$Person;LAccessGate$Machine;)V"⟩ : Jvm.MethodName) (⟨"AccessGate", "requireMayAskOrEnter", "(LAccessGate$Person;LAccessGate$Machine;)V"⟩ : Jvm.MethodName) ∈ lw_tbl := List.mem_of_getElem? (i := 17) rfl
theorem kp18 : Jvm.Cond.selects "AccessGate$Person" (⟨"AccessGate$Person", "hasLabel", "(I)Z"⟩ : Jvm.MethodName) (⟨"AccessGate$Person", "hasLabel", "(I)Z"⟩ : Jvm.MethodName) ∈ lw_tbl := List.mem_of_getElem? (i := 18) rfl
theorem kp19 : Jvm.Cond.selects "AccessGate" (⟨"AccessGate", "countOverdue", "(LAccessGate$Person;)I"⟩ : Jvm.MethodName) (⟨"AccessGate", "countOverdue", "(LAccessGate$Person;)I"⟩ : Jvm.MethodName) ∈ lw_tbl := List.mem_of_getElem? (i := 19) rfl
theorem kp20 : Jvm.Cond.selects "AccessGate$Entry" (⟨"AccessGate$Entry", "isOverdueAt", "(I)Z"⟩ : Jvm.MethodName) (⟨"AccessGate$Entry", "isOverdueAt", "(I)Z"⟩ : Jvm.MethodName) ∈ lw_tbl := List.mem_of_getElem? (i := 20) rfl
theorem kp21 : Jvm.Cond.selects "AccessGate" (⟨"AccessGate", "entryAt", "(I)LAccessGate$Entry;"⟩ : Jvm.MethodName) (⟨"AccessGate", "entryAt", "(I)LAccessGate$Entry;"⟩ : Jvm.MethodName) ∈ lw_tbl := List.mem_of_getElem? (i := 21) rfl
theorem kp22 : Jvm.Cond.selects "AccessGate" (⟨"AccessGate", "askAt", "(I)LAccessGate$Ask;"⟩ : Jvm.MethodName) (⟨"AccessGate", "askAt", "(I)LAccessGate$Ask;"⟩ : Jvm.MethodName) ∈ lw_tbl := List.mem_of_getElem? (i := 22) rfl
theorem kp23 : Jvm.Cond.selects "AccessGate" (⟨"AccessGate", "requireMayJudge", "(LAccessGate$Ask;LAccessGate$Person;)V"⟩ : Jvm.MethodName) (⟨"AccessGate", "requireMayJudge", "(LAccessGate$Ask;LAccessGate$Person;)V"⟩ : Jvm.MethodName) ∈ lw_tbl := List.mem_of_getElem? (i := 23) rfl
theorem kp24 : Jvm.Cond.selects "AccessGate$Person" (⟨"AccessGate$Person", "mayJudge", "(LAccessGate$Person;LAccessGate$Machine;)Z"⟩ : Jvm.MethodName) (⟨"AccessGate$Person", "mayJudge", "(LAccessGate$Person;LAccessGate$Machine;)Z"⟩ : Jvm.MethodName) ∈ lw_tbl := List.mem_of_getElem? (i := 24) rfl
theorem kp25 : Jvm.Cond.selects "AccessGate" (⟨"AccessGate", "sessionAt", "(I)LAccessGate$Session;"⟩ : Jvm.MethodName) (⟨"AccessGate", "sessionAt", "(I)LAccessGate$Session;"⟩ : Jvm.MethodName) ∈ lw_tbl := List.mem_of_getElem? (i := 25) rfl
theorem kp26 : Jvm.Cond.selects "AccessGate$Session" (⟨"AccessGate$Session", "holdsLine", "()Z"⟩ : Jvm.MethodName) (⟨"AccessGate$Session", "holdsLine", "()Z"⟩ : Jvm.MethodName) ∈ lw_tbl := List.mem_of_getElem? (i := 26) rfl
