/-! The words of the tables, by their places. -/
set_option maxRecDepth 8000 in
theorem w0 : (Cond.initialized "FormulaSetterLaw") ∈ fh_T := fh_m1 0 rfl rfl
set_option maxRecDepth 8000 in
theorem w1 : (Cond.initialized "FormulaSetter") ∈ fh_T := fh_m1 1 rfl rfl
set_option maxRecDepth 8000 in
theorem w2 : (Cond.initialized "FormulaSetter$Reader") ∈ fh_T := fh_m1 2 rfl rfl
set_option maxRecDepth 8000 in
theorem w3 : (Cond.initialized "FormulaSetter$Box") ∈ fh_T := fh_m1 3 rfl rfl
set_option maxRecDepth 8000 in
theorem w4 : (Cond.initialized "FormulaSetter$Nucleus") ∈ fh_T := fh_m1 4 rfl rfl
set_option maxRecDepth 8000 in
theorem w5 : (Cond.initialized "FormulaSetter$Line") ∈ fh_T := fh_m1 5 rfl rfl
set_option maxRecDepth 8000 in
theorem w6 : (Cond.initialized "FormulaSetter$Typesetter") ∈ fh_T := fh_m1 6 rfl rfl
set_option maxRecDepth 8000 in
theorem w7 : (Cond.initialized "FormulaSetter$Sheet") ∈ fh_T := fh_m1 7 rfl rfl
set_option maxRecDepth 8000 in
theorem w8 : (Cond.initialized "FormulaSetter$Grid") ∈ fh_T := fh_m1 8 rfl rfl
set_option maxRecDepth 8000 in
theorem w9 : (Cond.initialized "FormulaSetterModel") ∈ fh_T := fh_m1 9 rfl rfl
set_option maxRecDepth 8000 in
theorem w10 : (Cond.initialized "java/lang/Throwable") ∈ fh_T := fh_m1 10 rfl rfl
set_option maxRecDepth 8000 in
theorem w11 : (Cond.initialized "java/lang/Exception") ∈ fh_T := fh_m1 11 rfl rfl
set_option maxRecDepth 8000 in
theorem w12 : (Cond.initialized "java/lang/RuntimeException") ∈ fh_T := fh_m1 12 rfl rfl
set_option maxRecDepth 8000 in
theorem w13 : (Cond.initialized "java/lang/IllegalArgumentException") ∈ fh_T := fh_m1 13 rfl rfl
set_option maxRecDepth 8000 in
theorem w14 : (Cond.initialized "java/lang/Math") ∈ fh_T := fh_m1 14 rfl rfl
set_option maxRecDepth 8000 in
theorem w15 : (Cond.initialized "java/lang/String") ∈ fh_T := fh_m1 15 rfl rfl
set_option maxRecDepth 8000 in
theorem w16 : (Cond.initialized "java/lang/StringLatin1") ∈ fh_T := fh_m1 16 rfl rfl
set_option maxRecDepth 8000 in
theorem w17 : (Cond.initialized "jdk/internal/util/Preconditions") ∈ fh_T := fh_m1 17 rfl rfl
set_option maxRecDepth 8000 in
theorem w18 : (Cond.initialized "java/lang/StringUTF16") ∈ fh_T := fh_m1 18 rfl rfl
set_option maxRecDepth 8000 in
theorem w19 : (Cond.initialized "java/lang/Enum") ∈ fh_T := fh_m1 19 rfl rfl
set_option maxRecDepth 8000 in
theorem w20 : (Cond.initialized "FormulaSetter$Atom") ∈ fh_T := fh_m1 20 rfl rfl
set_option maxRecDepth 8000 in
theorem w21 : (Cond.initialized "FormulaSetter$Kind") ∈ fh_T := fh_m1 21 rfl rfl
set_option maxRecDepth 8000 in
theorem w22 : (Cond.initialized "java/lang/Character") ∈ fh_T := fh_m1 22 rfl rfl
set_option maxRecDepth 8000 in
theorem w23 : (Cond.initialized "FormulaSetter$1") ∈ fh_T := fh_m1 23 rfl rfl
set_option maxRecDepth 8000 in
theorem w24 : (Cond.initialized "FormulaSetter$Style") ∈ fh_T := fh_m1 24 rfl rfl
set_option maxRecDepth 8000 in
theorem w25 : (Cond.initialized "java/util/Arrays") ∈ fh_T := fh_m1 25 rfl rfl
set_option maxRecDepth 8000 in
theorem w26 : (Cond.initialized "java/lang/IndexOutOfBoundsException") ∈ fh_T := fh_m1 26 rfl rfl
set_option maxRecDepth 8000 in
theorem w27 : (Cond.classLink "FormulaSetterLaw" (8 : Nat) "FormulaSetter") ∈ fh_T := fh_m1 27 rfl rfl
set_option maxRecDepth 8000 in
theorem w28 : (Cond.instantiable "FormulaSetter" (7 : Nat)) ∈ fh_T := fh_m1 28 rfl rfl
set_option maxRecDepth 8000 in
theorem w29 : (Cond.methodLink "FormulaSetterLaw" (21 : Nat) ({ cls := "FormulaSetter", name := "<init>", desc := "()V" } : MethodName)) ∈ fh_T := fh_m1 29 rfl rfl
set_option maxRecDepth 8000 in
theorem w30 : (Cond.instanceMethod ({ cls := "FormulaSetter", name := "<init>", desc := "()V" } : MethodName)) ∈ fh_T := fh_m1 30 rfl rfl
set_option maxRecDepth 8000 in
theorem w31 : (Cond.code ({ cls := "FormulaSetter", name := "<init>", desc := "()V" } : MethodName) prog_1_method_1_code (1 : Nat) (Option.none : Option FieldType)) ∈ fh_T := fh_m1 31 rfl rfl
set_option maxRecDepth 8000 in
theorem w32 : (Cond.methodLink "FormulaSetter" (3 : Nat) ({ cls := "java/lang/Object", name := "<init>", desc := "()V" } : MethodName)) ∈ fh_T := fh_m1 32 rfl rfl
set_option maxRecDepth 8000 in
theorem w33 : (Cond.instanceMethod ({ cls := "java/lang/Object", name := "<init>", desc := "()V" } : MethodName)) ∈ fh_T := fh_m1 33 rfl rfl
set_option maxRecDepth 8000 in
theorem w34 : (Cond.code ({ cls := "java/lang/Object", name := "<init>", desc := "()V" } : MethodName) object_method_1_code (1 : Nat) (Option.none : Option FieldType)) ∈ fh_T := fh_m1 34 rfl rfl
set_option maxRecDepth 8000 in
theorem w35 : (Cond.classLink "FormulaSetter" (13 : Nat) "FormulaSetter$Reader") ∈ fh_T := fh_m1 35 rfl rfl
set_option maxRecDepth 8000 in
theorem w36 : (Cond.instantiable "FormulaSetter$Reader" (7 : Nat)) ∈ fh_T := fh_m1 36 rfl rfl
set_option maxRecDepth 8000 in
theorem w37 : (Cond.methodLink "FormulaSetter" (15 : Nat) ({ cls := "FormulaSetter$Reader", name := "<init>", desc := "()V" } : MethodName)) ∈ fh_T := fh_m1 37 rfl rfl
set_option maxRecDepth 8000 in
theorem w38 : (Cond.instanceMethod ({ cls := "FormulaSetter$Reader", name := "<init>", desc := "()V" } : MethodName)) ∈ fh_T := fh_m1 38 rfl rfl
set_option maxRecDepth 8000 in
theorem w39 : (Cond.code ({ cls := "FormulaSetter$Reader", name := "<init>", desc := "()V" } : MethodName) prog_9_method_1_code (2 : Nat) (Option.none : Option FieldType)) ∈ fh_T := fh_m1 39 rfl rfl
set_option maxRecDepth 8000 in
theorem w40 : (Cond.methodLink "FormulaSetter$Reader" (3 : Nat) ({ cls := "java/lang/Object", name := "<init>", desc := "()V" } : MethodName)) ∈ fh_T := fh_m1 40 rfl rfl
set_option maxRecDepth 8000 in
theorem w41 : (Cond.classLink "FormulaSetter$Reader" (9 : Nat) "FormulaSetter$Nucleus") ∈ fh_T := fh_m1 41 rfl rfl
set_option maxRecDepth 8000 in
theorem w43 : (Cond.instantiable "FormulaSetter$Nucleus" (15 : Nat)) ∈ fh_T := fh_m1 43 rfl rfl
set_option maxRecDepth 8000 in
theorem w45 : (Cond.instanceMethod ({ cls := "FormulaSetter$Nucleus", name := "<init>", desc := "()V" } : MethodName)) ∈ fh_T := fh_m1 45 rfl rfl
set_option maxRecDepth 8000 in
theorem w46 : (Cond.code ({ cls := "FormulaSetter$Nucleus", name := "<init>", desc := "()V" } : MethodName) prog_8_method_1_code (1 : Nat) (Option.none : Option FieldType)) ∈ fh_T := fh_m1 46 rfl rfl
set_option maxRecDepth 8000 in
theorem w48 : (Cond.instanceMethod ({ cls := "FormulaSetter$Box", name := "<init>", desc := "()V" } : MethodName)) ∈ fh_T := fh_m1 48 rfl rfl
set_option maxRecDepth 8000 in
theorem w49 : (Cond.code ({ cls := "FormulaSetter$Box", name := "<init>", desc := "()V" } : MethodName) prog_4_method_1_code (1 : Nat) (Option.none : Option FieldType)) ∈ fh_T := fh_m1 49 rfl rfl
set_option maxRecDepth 8000 in
theorem w50 : (Cond.methodLink "FormulaSetter$Box" (1 : Nat) ({ cls := "java/lang/Object", name := "<init>", desc := "()V" } : MethodName)) ∈ fh_T := fh_m1 50 rfl rfl
set_option maxRecDepth 8000 in
theorem w51 : (Cond.fieldLink "FormulaSetter$Nucleus" (7 : Nat) "FormulaSetter$Nucleus" "kind" "LFormulaSetter$Kind;") ∈ fh_T := fh_m1 51 rfl rfl
set_option maxRecDepth 8000 in
theorem w52 : (Cond.fieldLink "FormulaSetter$Typesetter" (110 : Nat) "FormulaSetter$Nucleus" "kind" "LFormulaSetter$Kind;") ∈ fh_T := fh_m1 52 rfl rfl
set_option maxRecDepth 8000 in
theorem w53 : (Cond.fieldLink "FormulaSetter$Reader" (116 : Nat) "FormulaSetter$Nucleus" "kind" "LFormulaSetter$Kind;") ∈ fh_T := fh_m1 53 rfl rfl
set_option maxRecDepth 8000 in
theorem w54 : (Cond.fieldLink "FormulaSetter$Nucleus" (13 : Nat) "FormulaSetter$Nucleus" "atom" "LFormulaSetter$Atom;") ∈ fh_T := fh_m1 54 rfl rfl
set_option maxRecDepth 8000 in
theorem w55 : (Cond.fieldLink "FormulaSetter$Line" (24 : Nat) "FormulaSetter$Nucleus" "atom" "LFormulaSetter$Atom;") ∈ fh_T := fh_m1 55 rfl rfl
set_option maxRecDepth 8000 in
theorem w56 : (Cond.fieldLink "FormulaSetter$Typesetter" (53 : Nat) "FormulaSetter$Nucleus" "atom" "LFormulaSetter$Atom;") ∈ fh_T := fh_m1 56 rfl rfl
set_option maxRecDepth 8000 in
theorem w57 : (Cond.fieldLink "FormulaSetter$Reader" (137 : Nat) "FormulaSetter$Nucleus" "atom" "LFormulaSetter$Atom;") ∈ fh_T := fh_m1 57 rfl rfl
set_option maxRecDepth 8000 in
theorem w58 : (Cond.fieldLink "FormulaSetter$Nucleus" (17 : Nat) "FormulaSetter$Nucleus" "code" "I") ∈ fh_T := fh_m1 58 rfl rfl
set_option maxRecDepth 8000 in
theorem w59 : (Cond.fieldLink "FormulaSetter$Reader" (128 : Nat) "FormulaSetter$Nucleus" "code" "I") ∈ fh_T := fh_m1 59 rfl rfl
set_option maxRecDepth 8000 in
theorem w60 : (Cond.fieldLink "FormulaSetter$Typesetter" (195 : Nat) "FormulaSetter$Nucleus" "code" "I") ∈ fh_T := fh_m1 60 rfl rfl
set_option maxRecDepth 8000 in
theorem w61 : (Cond.fieldLink "FormulaSetter$Nucleus" (21 : Nat) "FormulaSetter$Nucleus" "rightCode" "I") ∈ fh_T := fh_m1 61 rfl rfl
set_option maxRecDepth 8000 in
theorem w62 : (Cond.fieldLink "FormulaSetter$Reader" (178 : Nat) "FormulaSetter$Nucleus" "rightCode" "I") ∈ fh_T := fh_m1 62 rfl rfl
set_option maxRecDepth 8000 in
theorem w63 : (Cond.fieldLink "FormulaSetter$Typesetter" (228 : Nat) "FormulaSetter$Nucleus" "rightCode" "I") ∈ fh_T := fh_m1 63 rfl rfl
set_option maxRecDepth 8000 in
theorem w64 : (Cond.fieldLink "FormulaSetter$Nucleus" (24 : Nat) "FormulaSetter$Nucleus" "first" "LFormulaSetter$Nucleus;") ∈ fh_T := fh_m1 64 rfl rfl
set_option maxRecDepth 8000 in
theorem w65 : (Cond.fieldLink "FormulaSetter$Reader" (161 : Nat) "FormulaSetter$Nucleus" "first" "LFormulaSetter$Nucleus;") ∈ fh_T := fh_m1 65 rfl rfl
set_option maxRecDepth 8000 in
theorem w66 : (Cond.fieldLink "FormulaSetter$Typesetter" (171 : Nat) "FormulaSetter$Nucleus" "first" "LFormulaSetter$Nucleus;") ∈ fh_T := fh_m1 66 rfl rfl
set_option maxRecDepth 8000 in
theorem w67 : (Cond.fieldLink "FormulaSetter$Nucleus" (28 : Nat) "FormulaSetter$Nucleus" "second" "LFormulaSetter$Nucleus;") ∈ fh_T := fh_m1 67 rfl rfl
set_option maxRecDepth 8000 in
theorem w68 : (Cond.fieldLink "FormulaSetter$Reader" (162 : Nat) "FormulaSetter$Nucleus" "second" "LFormulaSetter$Nucleus;") ∈ fh_T := fh_m1 68 rfl rfl
set_option maxRecDepth 8000 in
theorem w69 : (Cond.fieldLink "FormulaSetter$Typesetter" (172 : Nat) "FormulaSetter$Nucleus" "second" "LFormulaSetter$Nucleus;") ∈ fh_T := fh_m1 69 rfl rfl
set_option maxRecDepth 8000 in
theorem w70 : (Cond.fieldLink "FormulaSetter$Nucleus" (31 : Nat) "FormulaSetter$Nucleus" "inside" "LFormulaSetter$Line;") ∈ fh_T := fh_m1 70 rfl rfl
set_option maxRecDepth 8000 in
theorem w71 : (Cond.fieldLink "FormulaSetter$Reader" (157 : Nat) "FormulaSetter$Nucleus" "inside" "LFormulaSetter$Line;") ∈ fh_T := fh_m1 71 rfl rfl
set_option maxRecDepth 8000 in
theorem w72 : (Cond.fieldLink "FormulaSetter$Typesetter" (160 : Nat) "FormulaSetter$Nucleus" "inside" "LFormulaSetter$Line;") ∈ fh_T := fh_m1 72 rfl rfl
set_option maxRecDepth 8000 in
theorem w73 : (Cond.fieldLink "FormulaSetter$Nucleus" (35 : Nat) "FormulaSetter$Nucleus" "upper" "LFormulaSetter$Nucleus;") ∈ fh_T := fh_m1 73 rfl rfl
set_option maxRecDepth 8000 in
theorem w74 : (Cond.fieldLink "FormulaSetter$Typesetter" (96 : Nat) "FormulaSetter$Nucleus" "upper" "LFormulaSetter$Nucleus;") ∈ fh_T := fh_m1 74 rfl rfl
set_option maxRecDepth 8000 in
theorem w75 : (Cond.fieldLink "FormulaSetter$Reader" (95 : Nat) "FormulaSetter$Nucleus" "upper" "LFormulaSetter$Nucleus;") ∈ fh_T := fh_m1 75 rfl rfl
set_option maxRecDepth 8000 in
theorem w76 : (Cond.fieldLink "FormulaSetter$Nucleus" (38 : Nat) "FormulaSetter$Nucleus" "lower" "LFormulaSetter$Nucleus;") ∈ fh_T := fh_m1 76 rfl rfl
set_option maxRecDepth 8000 in
theorem w77 : (Cond.fieldLink "FormulaSetter$Typesetter" (99 : Nat) "FormulaSetter$Nucleus" "lower" "LFormulaSetter$Nucleus;") ∈ fh_T := fh_m1 77 rfl rfl
set_option maxRecDepth 8000 in
theorem w78 : (Cond.fieldLink "FormulaSetter$Reader" (98 : Nat) "FormulaSetter$Nucleus" "lower" "LFormulaSetter$Nucleus;") ∈ fh_T := fh_m1 78 rfl rfl
set_option maxRecDepth 8000 in
theorem w79 : (Cond.fieldLink "FormulaSetter$Nucleus" (41 : Nat) "FormulaSetter$Nucleus" "next" "LFormulaSetter$Nucleus;") ∈ fh_T := fh_m1 79 rfl rfl
set_option maxRecDepth 8000 in
theorem w80 : (Cond.fieldLink "FormulaSetter$Line" (42 : Nat) "FormulaSetter$Nucleus" "next" "LFormulaSetter$Nucleus;") ∈ fh_T := fh_m1 80 rfl rfl
set_option maxRecDepth 8000 in
theorem w81 : (Cond.fieldLink "FormulaSetter$Reader" (72 : Nat) "FormulaSetter$Nucleus" "next" "LFormulaSetter$Nucleus;") ∈ fh_T := fh_m1 81 rfl rfl
set_option maxRecDepth 8000 in
theorem w82 : (Cond.fieldLink "FormulaSetter$Typesetter" (87 : Nat) "FormulaSetter$Nucleus" "next" "LFormulaSetter$Nucleus;") ∈ fh_T := fh_m1 82 rfl rfl
set_option maxRecDepth 8000 in
theorem w83 : (Cond.fieldLink "FormulaSetter$Box" (7 : Nat) "FormulaSetter$Box" "w" "I") ∈ fh_T := fh_m1 83 rfl rfl
set_option maxRecDepth 8000 in
theorem w84 : (Cond.fieldLink "FormulaSetter$Grid" (41 : Nat) "FormulaSetter$Line" "w" "I") ∈ fh_T := fh_m1 84 rfl rfl
set_option maxRecDepth 8000 in
theorem w85 : (Cond.sameField "FormulaSetter$Line" "FormulaSetter$Box" "w" "I") ∈ fh_T := fh_m1 85 rfl rfl
set_option maxRecDepth 8000 in
theorem w86 : (Cond.fieldLink "FormulaSetter$Typesetter" (65 : Nat) "FormulaSetter$Line" "w" "I") ∈ fh_T := fh_m1 86 rfl rfl
set_option maxRecDepth 8000 in
theorem w87 : (Cond.fieldLink "FormulaSetter$Typesetter" (72 : Nat) "FormulaSetter$Nucleus" "w" "I") ∈ fh_T := fh_m1 87 rfl rfl
set_option maxRecDepth 8000 in
theorem w88 : (Cond.sameField "FormulaSetter$Nucleus" "FormulaSetter$Box" "w" "I") ∈ fh_T := fh_m1 88 rfl rfl
set_option maxRecDepth 8000 in
theorem w89 : (Cond.fieldLink "FormulaSetter" (57 : Nat) "FormulaSetter$Line" "w" "I") ∈ fh_T := fh_m1 89 rfl rfl
set_option maxRecDepth 8000 in
theorem w90 : (Cond.fieldLink "FormulaSetter$Box" (13 : Nat) "FormulaSetter$Box" "h" "I") ∈ fh_T := fh_m1 90 rfl rfl
set_option maxRecDepth 8000 in
theorem w91 : (Cond.fieldLink "FormulaSetter$Grid" (52 : Nat) "FormulaSetter$Line" "h" "I") ∈ fh_T := fh_m1 91 rfl rfl
set_option maxRecDepth 8000 in
theorem w92 : (Cond.sameField "FormulaSetter$Line" "FormulaSetter$Box" "h" "I") ∈ fh_T := fh_m1 92 rfl rfl
set_option maxRecDepth 8000 in
theorem w93 : (Cond.fieldLink "FormulaSetter$Typesetter" (73 : Nat) "FormulaSetter$Line" "h" "I") ∈ fh_T := fh_m1 93 rfl rfl
set_option maxRecDepth 8000 in
theorem w94 : (Cond.fieldLink "FormulaSetter$Typesetter" (76 : Nat) "FormulaSetter$Nucleus" "h" "I") ∈ fh_T := fh_m1 94 rfl rfl
set_option maxRecDepth 8000 in
theorem w95 : (Cond.sameField "FormulaSetter$Nucleus" "FormulaSetter$Box" "h" "I") ∈ fh_T := fh_m1 95 rfl rfl
set_option maxRecDepth 8000 in
theorem w96 : (Cond.fieldLink "FormulaSetter" (65 : Nat) "FormulaSetter$Line" "h" "I") ∈ fh_T := fh_m1 96 rfl rfl
set_option maxRecDepth 8000 in
theorem w97 : (Cond.fieldLink "FormulaSetter$Box" (16 : Nat) "FormulaSetter$Box" "d" "I") ∈ fh_T := fh_m1 97 rfl rfl
set_option maxRecDepth 8000 in
theorem w98 : (Cond.fieldLink "FormulaSetter$Grid" (55 : Nat) "FormulaSetter$Line" "d" "I") ∈ fh_T := fh_m1 98 rfl rfl
set_option maxRecDepth 8000 in
theorem w99 : (Cond.sameField "FormulaSetter$Line" "FormulaSetter$Box" "d" "I") ∈ fh_T := fh_m1 99 rfl rfl
set_option maxRecDepth 8000 in
theorem w100 : (Cond.fieldLink "FormulaSetter$Typesetter" (83 : Nat) "FormulaSetter$Line" "d" "I") ∈ fh_T := fh_m1 100 rfl rfl
set_option maxRecDepth 8000 in
theorem w101 : (Cond.fieldLink "FormulaSetter$Typesetter" (86 : Nat) "FormulaSetter$Nucleus" "d" "I") ∈ fh_T := fh_m1 101 rfl rfl
set_option maxRecDepth 8000 in
theorem w102 : (Cond.sameField "FormulaSetter$Nucleus" "FormulaSetter$Box" "d" "I") ∈ fh_T := fh_m1 102 rfl rfl
set_option maxRecDepth 8000 in
theorem w103 : (Cond.fieldLink "FormulaSetter" (71 : Nat) "FormulaSetter$Line" "d" "I") ∈ fh_T := fh_m1 103 rfl rfl
set_option maxRecDepth 8000 in
theorem w104 : (Cond.fieldLink "FormulaSetter$Typesetter" (36 : Nat) "FormulaSetter$Line" "from" "I") ∈ fh_T := fh_m1 104 rfl rfl
set_option maxRecDepth 8000 in
theorem w105 : (Cond.sameField "FormulaSetter$Line" "FormulaSetter$Box" "from" "I") ∈ fh_T := fh_m1 105 rfl rfl
set_option maxRecDepth 8000 in
theorem w106 : (Cond.fieldLink "FormulaSetter$Sheet" (19 : Nat) "FormulaSetter$Box" "from" "I") ∈ fh_T := fh_m1 106 rfl rfl
set_option maxRecDepth 8000 in
theorem w107 : (Cond.fieldLink "FormulaSetter$Typesetter" (146 : Nat) "FormulaSetter$Nucleus" "from" "I") ∈ fh_T := fh_m1 107 rfl rfl
set_option maxRecDepth 8000 in
theorem w108 : (Cond.sameField "FormulaSetter$Nucleus" "FormulaSetter$Box" "from" "I") ∈ fh_T := fh_m1 108 rfl rfl
set_option maxRecDepth 8000 in
theorem w109 : (Cond.fieldLink "FormulaSetter$Typesetter" (90 : Nat) "FormulaSetter$Line" "end" "I") ∈ fh_T := fh_m1 109 rfl rfl
set_option maxRecDepth 8000 in
theorem w110 : (Cond.sameField "FormulaSetter$Line" "FormulaSetter$Box" "end" "I") ∈ fh_T := fh_m1 110 rfl rfl
set_option maxRecDepth 8000 in
theorem w111 : (Cond.fieldLink "FormulaSetter$Typesetter" (127 : Nat) "FormulaSetter$Nucleus" "end" "I") ∈ fh_T := fh_m1 111 rfl rfl
set_option maxRecDepth 8000 in
theorem w112 : (Cond.sameField "FormulaSetter$Nucleus" "FormulaSetter$Box" "end" "I") ∈ fh_T := fh_m1 112 rfl rfl
set_option maxRecDepth 8000 in
theorem w113 : (Cond.fieldLink "FormulaSetter$Sheet" (30 : Nat) "FormulaSetter$Box" "end" "I") ∈ fh_T := fh_m1 113 rfl rfl
set_option maxRecDepth 8000 in
theorem w114 : (Cond.lays "FormulaSetter$Nucleus" "FormulaSetter$Nucleus" "kind" "LFormulaSetter$Kind;") ∈ fh_T := fh_m1 114 rfl rfl
set_option maxRecDepth 8000 in
theorem w115 : (Cond.soleField "FormulaSetter$Nucleus" "kind") ∈ fh_T := fh_m1 115 rfl rfl
set_option maxRecDepth 8000 in
theorem w116 : (Cond.lays "FormulaSetter$Nucleus" "FormulaSetter$Nucleus" "atom" "LFormulaSetter$Atom;") ∈ fh_T := fh_m1 116 rfl rfl
set_option maxRecDepth 8000 in
theorem w117 : (Cond.soleField "FormulaSetter$Nucleus" "atom") ∈ fh_T := fh_m1 117 rfl rfl
set_option maxRecDepth 8000 in
theorem w118 : (Cond.lays "FormulaSetter$Nucleus" "FormulaSetter$Nucleus" "code" "I") ∈ fh_T := fh_m1 118 rfl rfl
set_option maxRecDepth 8000 in
theorem w119 : (Cond.soleField "FormulaSetter$Nucleus" "code") ∈ fh_T := fh_m1 119 rfl rfl
set_option maxRecDepth 8000 in
theorem w120 : (Cond.lays "FormulaSetter$Nucleus" "FormulaSetter$Nucleus" "rightCode" "I") ∈ fh_T := fh_m1 120 rfl rfl
set_option maxRecDepth 8000 in
theorem w121 : (Cond.soleField "FormulaSetter$Nucleus" "rightCode") ∈ fh_T := fh_m1 121 rfl rfl
set_option maxRecDepth 8000 in
theorem w122 : (Cond.lays "FormulaSetter$Nucleus" "FormulaSetter$Nucleus" "first" "LFormulaSetter$Nucleus;") ∈ fh_T := fh_m1 122 rfl rfl
set_option maxRecDepth 8000 in
theorem w123 : (Cond.soleField "FormulaSetter$Nucleus" "first") ∈ fh_T := fh_m1 123 rfl rfl
set_option maxRecDepth 8000 in
theorem w124 : (Cond.lays "FormulaSetter$Nucleus" "FormulaSetter$Nucleus" "second" "LFormulaSetter$Nucleus;") ∈ fh_T := fh_m1 124 rfl rfl
set_option maxRecDepth 8000 in
theorem w125 : (Cond.soleField "FormulaSetter$Nucleus" "second") ∈ fh_T := fh_m1 125 rfl rfl
set_option maxRecDepth 8000 in
theorem w126 : (Cond.lays "FormulaSetter$Nucleus" "FormulaSetter$Nucleus" "inside" "LFormulaSetter$Line;") ∈ fh_T := fh_m1 126 rfl rfl
set_option maxRecDepth 8000 in
theorem w127 : (Cond.soleField "FormulaSetter$Nucleus" "inside") ∈ fh_T := fh_m1 127 rfl rfl
set_option maxRecDepth 8000 in
theorem w128 : (Cond.lays "FormulaSetter$Nucleus" "FormulaSetter$Nucleus" "upper" "LFormulaSetter$Nucleus;") ∈ fh_T := fh_m1 128 rfl rfl
set_option maxRecDepth 8000 in
theorem w129 : (Cond.soleField "FormulaSetter$Nucleus" "upper") ∈ fh_T := fh_m1 129 rfl rfl
set_option maxRecDepth 8000 in
theorem w130 : (Cond.lays "FormulaSetter$Nucleus" "FormulaSetter$Nucleus" "lower" "LFormulaSetter$Nucleus;") ∈ fh_T := fh_m1 130 rfl rfl
set_option maxRecDepth 8000 in
theorem w131 : (Cond.soleField "FormulaSetter$Nucleus" "lower") ∈ fh_T := fh_m1 131 rfl rfl
set_option maxRecDepth 8000 in
theorem w132 : (Cond.lays "FormulaSetter$Nucleus" "FormulaSetter$Nucleus" "next" "LFormulaSetter$Nucleus;") ∈ fh_T := fh_m1 132 rfl rfl
set_option maxRecDepth 8000 in
theorem w133 : (Cond.soleField "FormulaSetter$Nucleus" "next") ∈ fh_T := fh_m1 133 rfl rfl
set_option maxRecDepth 8000 in
theorem w134 : (Cond.lays "FormulaSetter$Nucleus" "FormulaSetter$Box" "w" "I") ∈ fh_T := fh_m1 134 rfl rfl
set_option maxRecDepth 8000 in
theorem w135 : (Cond.soleField "FormulaSetter$Box" "w") ∈ fh_T := fh_m1 135 rfl rfl
set_option maxRecDepth 8000 in
theorem w136 : (Cond.lays "FormulaSetter$Nucleus" "FormulaSetter$Box" "h" "I") ∈ fh_T := fh_m1 136 rfl rfl
set_option maxRecDepth 8000 in
theorem w137 : (Cond.soleField "FormulaSetter$Box" "h") ∈ fh_T := fh_m1 137 rfl rfl
set_option maxRecDepth 8000 in
theorem w138 : (Cond.lays "FormulaSetter$Nucleus" "FormulaSetter$Box" "d" "I") ∈ fh_T := fh_m1 138 rfl rfl
set_option maxRecDepth 8000 in
theorem w139 : (Cond.soleField "FormulaSetter$Box" "d") ∈ fh_T := fh_m1 139 rfl rfl
set_option maxRecDepth 8000 in
theorem w140 : (Cond.lays "FormulaSetter$Nucleus" "FormulaSetter$Box" "from" "I") ∈ fh_T := fh_m1 140 rfl rfl
set_option maxRecDepth 8000 in
theorem w141 : (Cond.soleField "FormulaSetter$Box" "from") ∈ fh_T := fh_m1 141 rfl rfl
set_option maxRecDepth 8000 in
theorem w142 : (Cond.lays "FormulaSetter$Nucleus" "FormulaSetter$Box" "end" "I") ∈ fh_T := fh_m1 142 rfl rfl
set_option maxRecDepth 8000 in
theorem w143 : (Cond.soleField "FormulaSetter$Box" "end") ∈ fh_T := fh_m1 143 rfl rfl
set_option maxRecDepth 8000 in
theorem w144 : (Cond.superclass "FormulaSetter$Nucleus" "FormulaSetter$Box") ∈ fh_T := fh_m1 144 rfl rfl
set_option maxRecDepth 8000 in
theorem w145 : (Cond.arrayClass FieldType.char) ∈ fh_T := fh_m1 145 rfl rfl
set_option maxRecDepth 8000 in
theorem w146 : (Cond.classLink "FormulaSetter$Reader" (18 : Nat) "FormulaSetter$Line") ∈ fh_T := fh_m1 146 rfl rfl
set_option maxRecDepth 8000 in
theorem w148 : (Cond.instantiable "FormulaSetter$Line" (9 : Nat)) ∈ fh_T := fh_m1 148 rfl rfl
set_option maxRecDepth 8000 in
theorem w150 : (Cond.instanceMethod ({ cls := "FormulaSetter$Line", name := "<init>", desc := "()V" } : MethodName)) ∈ fh_T := fh_m1 150 rfl rfl
set_option maxRecDepth 8000 in
theorem w151 : (Cond.code ({ cls := "FormulaSetter$Line", name := "<init>", desc := "()V" } : MethodName) prog_7_method_1_code (1 : Nat) (Option.none : Option FieldType)) ∈ fh_T := fh_m1 151 rfl rfl
set_option maxRecDepth 8000 in
theorem w153 : (Cond.fieldLink "FormulaSetter$Line" (7 : Nat) "FormulaSetter$Line" "first" "LFormulaSetter$Nucleus;") ∈ fh_T := fh_m1 153 rfl rfl
set_option maxRecDepth 8000 in
theorem w154 : (Cond.fieldLink "FormulaSetter$Typesetter" (45 : Nat) "FormulaSetter$Line" "first" "LFormulaSetter$Nucleus;") ∈ fh_T := fh_m1 154 rfl rfl
set_option maxRecDepth 8000 in
theorem w155 : (Cond.fieldLink "FormulaSetter$Reader" (68 : Nat) "FormulaSetter$Line" "first" "LFormulaSetter$Nucleus;") ∈ fh_T := fh_m1 155 rfl rfl
set_option maxRecDepth 8000 in
theorem w156 : (Cond.fieldLink "FormulaSetter$Line" (13 : Nat) "FormulaSetter$Line" "row" "I") ∈ fh_T := fh_m1 156 rfl rfl
set_option maxRecDepth 8000 in
theorem w157 : (Cond.fieldLink "FormulaSetter$Grid" (68 : Nat) "FormulaSetter$Line" "row" "I") ∈ fh_T := fh_m1 157 rfl rfl
set_option maxRecDepth 8000 in
theorem w158 : (Cond.fieldLink "FormulaSetter$Reader" (181 : Nat) "FormulaSetter$Line" "row" "I") ∈ fh_T := fh_m1 158 rfl rfl
set_option maxRecDepth 8000 in
theorem w159 : (Cond.fieldLink "FormulaSetter$Line" (17 : Nat) "FormulaSetter$Line" "column" "I") ∈ fh_T := fh_m1 159 rfl rfl
set_option maxRecDepth 8000 in
theorem w160 : (Cond.fieldLink "FormulaSetter$Grid" (74 : Nat) "FormulaSetter$Line" "column" "I") ∈ fh_T := fh_m1 160 rfl rfl
set_option maxRecDepth 8000 in
theorem w161 : (Cond.fieldLink "FormulaSetter$Reader" (184 : Nat) "FormulaSetter$Line" "column" "I") ∈ fh_T := fh_m1 161 rfl rfl
set_option maxRecDepth 8000 in
theorem w162 : (Cond.fieldLink "FormulaSetter$Line" (20 : Nat) "FormulaSetter$Line" "next" "LFormulaSetter$Line;") ∈ fh_T := fh_m1 162 rfl rfl
set_option maxRecDepth 8000 in
theorem w163 : (Cond.fieldLink "FormulaSetter$Grid" (58 : Nat) "FormulaSetter$Line" "next" "LFormulaSetter$Line;") ∈ fh_T := fh_m1 163 rfl rfl
set_option maxRecDepth 8000 in
theorem w164 : (Cond.fieldLink "FormulaSetter$Reader" (187 : Nat) "FormulaSetter$Line" "next" "LFormulaSetter$Line;") ∈ fh_T := fh_m1 164 rfl rfl
set_option maxRecDepth 8000 in
theorem w165 : (Cond.fieldLink "FormulaSetter$Typesetter" (235 : Nat) "FormulaSetter$Line" "next" "LFormulaSetter$Line;") ∈ fh_T := fh_m1 165 rfl rfl
set_option maxRecDepth 8000 in
theorem w166 : (Cond.lays "FormulaSetter$Line" "FormulaSetter$Line" "first" "LFormulaSetter$Nucleus;") ∈ fh_T := fh_m1 166 rfl rfl
set_option maxRecDepth 8000 in
theorem w167 : (Cond.soleField "FormulaSetter$Line" "first") ∈ fh_T := fh_m1 167 rfl rfl
set_option maxRecDepth 8000 in
theorem w168 : (Cond.lays "FormulaSetter$Line" "FormulaSetter$Line" "row" "I") ∈ fh_T := fh_m1 168 rfl rfl
set_option maxRecDepth 8000 in
theorem w169 : (Cond.soleField "FormulaSetter$Line" "row") ∈ fh_T := fh_m1 169 rfl rfl
set_option maxRecDepth 8000 in
theorem w170 : (Cond.lays "FormulaSetter$Line" "FormulaSetter$Line" "column" "I") ∈ fh_T := fh_m1 170 rfl rfl
set_option maxRecDepth 8000 in
theorem w171 : (Cond.soleField "FormulaSetter$Line" "column") ∈ fh_T := fh_m1 171 rfl rfl
set_option maxRecDepth 8000 in
theorem w172 : (Cond.lays "FormulaSetter$Line" "FormulaSetter$Line" "next" "LFormulaSetter$Line;") ∈ fh_T := fh_m1 172 rfl rfl
set_option maxRecDepth 8000 in
theorem w173 : (Cond.soleField "FormulaSetter$Line" "next") ∈ fh_T := fh_m1 173 rfl rfl
set_option maxRecDepth 8000 in
theorem w174 : (Cond.lays "FormulaSetter$Line" "FormulaSetter$Box" "w" "I") ∈ fh_T := fh_m1 174 rfl rfl
set_option maxRecDepth 8000 in
theorem w175 : (Cond.lays "FormulaSetter$Line" "FormulaSetter$Box" "h" "I") ∈ fh_T := fh_m1 175 rfl rfl
set_option maxRecDepth 8000 in
theorem w176 : (Cond.lays "FormulaSetter$Line" "FormulaSetter$Box" "d" "I") ∈ fh_T := fh_m1 176 rfl rfl
set_option maxRecDepth 8000 in
theorem w177 : (Cond.lays "FormulaSetter$Line" "FormulaSetter$Box" "from" "I") ∈ fh_T := fh_m1 177 rfl rfl
set_option maxRecDepth 8000 in
theorem w178 : (Cond.lays "FormulaSetter$Line" "FormulaSetter$Box" "end" "I") ∈ fh_T := fh_m1 178 rfl rfl
set_option maxRecDepth 8000 in
theorem w179 : (Cond.superclass "FormulaSetter$Line" "FormulaSetter$Box") ∈ fh_T := fh_m1 179 rfl rfl
set_option maxRecDepth 8000 in
theorem w180 : (Cond.fieldLink "FormulaSetter$Reader" (11 : Nat) "FormulaSetter$Reader" "nuclei" "[LFormulaSetter$Nucleus;") ∈ fh_T := fh_m1 180 rfl rfl
set_option maxRecDepth 8000 in
theorem w181 : (Cond.fieldLink "FormulaSetter$Reader" (20 : Nat) "FormulaSetter$Reader" "lines" "[LFormulaSetter$Line;") ∈ fh_T := fh_m1 181 rfl rfl
set_option maxRecDepth 8000 in
theorem w182 : (Cond.fieldLink "FormulaSetter$Reader" (42 : Nat) "FormulaSetter$Reader" "nucleusCount" "I") ∈ fh_T := fh_m1 182 rfl rfl
set_option maxRecDepth 8000 in
theorem w183 : (Cond.fieldLink "FormulaSetter$Reader" (45 : Nat) "FormulaSetter$Reader" "lineCount" "I") ∈ fh_T := fh_m1 183 rfl rfl
set_option maxRecDepth 8000 in
theorem w184 : (Cond.fieldLink "FormulaSetter$Reader" (25 : Nat) "FormulaSetter$Reader" "text" "[C") ∈ fh_T := fh_m1 184 rfl rfl
set_option maxRecDepth 8000 in
theorem w185 : (Cond.fieldLink "FormulaSetter$Reader" (35 : Nat) "FormulaSetter$Reader" "length" "I") ∈ fh_T := fh_m1 185 rfl rfl
set_option maxRecDepth 8000 in
theorem w186 : (Cond.fieldLink "FormulaSetter$Reader" (39 : Nat) "FormulaSetter$Reader" "at" "I") ∈ fh_T := fh_m1 186 rfl rfl
set_option maxRecDepth 8000 in
theorem w187 : (Cond.laysFinal "FormulaSetter$Reader" "FormulaSetter$Reader" "nuclei" "[LFormulaSetter$Nucleus;") ∈ fh_T := fh_m1 187 rfl rfl
set_option maxRecDepth 8000 in
theorem w188 : (Cond.soleField "FormulaSetter$Reader" "nuclei") ∈ fh_T := fh_m1 188 rfl rfl
set_option maxRecDepth 8000 in
theorem w189 : (Cond.laysFinal "FormulaSetter$Reader" "FormulaSetter$Reader" "lines" "[LFormulaSetter$Line;") ∈ fh_T := fh_m1 189 rfl rfl
set_option maxRecDepth 8000 in
theorem w190 : (Cond.soleField "FormulaSetter$Reader" "lines") ∈ fh_T := fh_m1 190 rfl rfl
set_option maxRecDepth 8000 in
theorem w191 : (Cond.lays "FormulaSetter$Reader" "FormulaSetter$Reader" "nucleusCount" "I") ∈ fh_T := fh_m1 191 rfl rfl
set_option maxRecDepth 8000 in
theorem w192 : (Cond.soleField "FormulaSetter$Reader" "nucleusCount") ∈ fh_T := fh_m1 192 rfl rfl
set_option maxRecDepth 8000 in
theorem w193 : (Cond.lays "FormulaSetter$Reader" "FormulaSetter$Reader" "lineCount" "I") ∈ fh_T := fh_m1 193 rfl rfl
set_option maxRecDepth 8000 in
theorem w194 : (Cond.soleField "FormulaSetter$Reader" "lineCount") ∈ fh_T := fh_m1 194 rfl rfl
set_option maxRecDepth 8000 in
theorem w195 : (Cond.lays "FormulaSetter$Reader" "FormulaSetter$Reader" "text" "[C") ∈ fh_T := fh_m1 195 rfl rfl
set_option maxRecDepth 8000 in
theorem w196 : (Cond.soleField "FormulaSetter$Reader" "text") ∈ fh_T := fh_m1 196 rfl rfl
set_option maxRecDepth 8000 in
theorem w197 : (Cond.lays "FormulaSetter$Reader" "FormulaSetter$Reader" "length" "I") ∈ fh_T := fh_m1 197 rfl rfl
set_option maxRecDepth 8000 in
theorem w198 : (Cond.soleField "FormulaSetter$Reader" "length") ∈ fh_T := fh_m1 198 rfl rfl
set_option maxRecDepth 8000 in
theorem w199 : (Cond.lays "FormulaSetter$Reader" "FormulaSetter$Reader" "at" "I") ∈ fh_T := fh_m1 199 rfl rfl
set_option maxRecDepth 8000 in
theorem w200 : (Cond.soleField "FormulaSetter$Reader" "at") ∈ fh_T := fh_m1 200 rfl rfl
set_option maxRecDepth 8000 in
theorem w201 : (Cond.superclass "FormulaSetter$Reader" "java/lang/Object") ∈ fh_T := fh_m1 201 rfl rfl
set_option maxRecDepth 8000 in
theorem w202 : (Cond.classLink "FormulaSetter" (20 : Nat) "FormulaSetter$Typesetter") ∈ fh_T := fh_m1 202 rfl rfl
set_option maxRecDepth 8000 in
theorem w203 : (Cond.instantiable "FormulaSetter$Typesetter" (2 : Nat)) ∈ fh_T := fh_m1 203 rfl rfl
set_option maxRecDepth 8000 in
theorem w204 : (Cond.methodLink "FormulaSetter" (22 : Nat) ({ cls := "FormulaSetter$Typesetter", name := "<init>", desc := "()V" } : MethodName)) ∈ fh_T := fh_m1 204 rfl rfl
set_option maxRecDepth 8000 in
theorem w205 : (Cond.instanceMethod ({ cls := "FormulaSetter$Typesetter", name := "<init>", desc := "()V" } : MethodName)) ∈ fh_T := fh_m1 205 rfl rfl
set_option maxRecDepth 8000 in
theorem w206 : (Cond.code ({ cls := "FormulaSetter$Typesetter", name := "<init>", desc := "()V" } : MethodName) prog_12_method_1_code (1 : Nat) (Option.none : Option FieldType)) ∈ fh_T := fh_m1 206 rfl rfl
set_option maxRecDepth 8000 in
theorem w207 : (Cond.methodLink "FormulaSetter$Typesetter" (3 : Nat) ({ cls := "java/lang/Object", name := "<init>", desc := "()V" } : MethodName)) ∈ fh_T := fh_m1 207 rfl rfl
set_option maxRecDepth 8000 in
theorem w208 : (Cond.classLink "FormulaSetter$Typesetter" (9 : Nat) "FormulaSetter$Sheet") ∈ fh_T := fh_m1 208 rfl rfl
set_option maxRecDepth 8000 in
theorem w209 : (Cond.instantiable "FormulaSetter$Sheet" (2 : Nat)) ∈ fh_T := fh_m1 209 rfl rfl
set_option maxRecDepth 8000 in
theorem w210 : (Cond.methodLink "FormulaSetter$Typesetter" (11 : Nat) ({ cls := "FormulaSetter$Sheet", name := "<init>", desc := "()V" } : MethodName)) ∈ fh_T := fh_m1 210 rfl rfl
set_option maxRecDepth 8000 in
theorem w211 : (Cond.instanceMethod ({ cls := "FormulaSetter$Sheet", name := "<init>", desc := "()V" } : MethodName)) ∈ fh_T := fh_m1 211 rfl rfl
set_option maxRecDepth 8000 in
theorem w212 : (Cond.code ({ cls := "FormulaSetter$Sheet", name := "<init>", desc := "()V" } : MethodName) prog_10_method_1_code (1 : Nat) (Option.none : Option FieldType)) ∈ fh_T := fh_m1 212 rfl rfl
set_option maxRecDepth 8000 in
theorem w213 : (Cond.methodLink "FormulaSetter$Sheet" (3 : Nat) ({ cls := "java/lang/Object", name := "<init>", desc := "()V" } : MethodName)) ∈ fh_T := fh_m1 213 rfl rfl
set_option maxRecDepth 8000 in
theorem w214 : (Cond.fieldLink "FormulaSetter$Sheet" (9 : Nat) "FormulaSetter$Sheet" "facts" "[I") ∈ fh_T := fh_m1 214 rfl rfl
set_option maxRecDepth 8000 in
theorem w215 : (Cond.fieldLink "FormulaSetter" (91 : Nat) "FormulaSetter$Sheet" "facts" "[I") ∈ fh_T := fh_m1 215 rfl rfl
set_option maxRecDepth 8000 in
theorem w216 : (Cond.fieldLink "FormulaSetter$Sheet" (15 : Nat) "FormulaSetter$Sheet" "count" "I") ∈ fh_T := fh_m1 216 rfl rfl
set_option maxRecDepth 8000 in
theorem w217 : (Cond.fieldLink "FormulaSetter$Typesetter" (32 : Nat) "FormulaSetter$Sheet" "count" "I") ∈ fh_T := fh_m1 217 rfl rfl
set_option maxRecDepth 8000 in
theorem w218 : (Cond.fieldLink "FormulaSetter" (81 : Nat) "FormulaSetter$Sheet" "count" "I") ∈ fh_T := fh_m1 218 rfl rfl
set_option maxRecDepth 8000 in
theorem w219 : (Cond.laysFinal "FormulaSetter$Sheet" "FormulaSetter$Sheet" "facts" "[I") ∈ fh_T := fh_m1 219 rfl rfl
set_option maxRecDepth 8000 in
theorem w220 : (Cond.soleField "FormulaSetter$Sheet" "facts") ∈ fh_T := fh_m1 220 rfl rfl
set_option maxRecDepth 8000 in
theorem w221 : (Cond.lays "FormulaSetter$Sheet" "FormulaSetter$Sheet" "count" "I") ∈ fh_T := fh_m1 221 rfl rfl
set_option maxRecDepth 8000 in
theorem w222 : (Cond.soleField "FormulaSetter$Sheet" "count") ∈ fh_T := fh_m1 222 rfl rfl
set_option maxRecDepth 8000 in
theorem w223 : (Cond.superclass "FormulaSetter$Sheet" "java/lang/Object") ∈ fh_T := fh_m1 223 rfl rfl
set_option maxRecDepth 8000 in
theorem w224 : (Cond.arrayClass FieldType.int) ∈ fh_T := fh_m1 224 rfl rfl
set_option maxRecDepth 8000 in
theorem w225 : (Cond.classLink "FormulaSetter$Typesetter" (18 : Nat) "FormulaSetter$Grid") ∈ fh_T := fh_m1 225 rfl rfl
set_option maxRecDepth 8000 in
theorem w226 : (Cond.instantiable "FormulaSetter$Grid" (5 : Nat)) ∈ fh_T := fh_m1 226 rfl rfl
set_option maxRecDepth 8000 in
theorem w227 : (Cond.methodLink "FormulaSetter$Typesetter" (20 : Nat) ({ cls := "FormulaSetter$Grid", name := "<init>", desc := "()V" } : MethodName)) ∈ fh_T := fh_m1 227 rfl rfl
set_option maxRecDepth 8000 in
theorem w228 : (Cond.instanceMethod ({ cls := "FormulaSetter$Grid", name := "<init>", desc := "()V" } : MethodName)) ∈ fh_T := fh_m1 228 rfl rfl
set_option maxRecDepth 8000 in
theorem w229 : (Cond.code ({ cls := "FormulaSetter$Grid", name := "<init>", desc := "()V" } : MethodName) prog_5_method_1_code (1 : Nat) (Option.none : Option FieldType)) ∈ fh_T := fh_m1 229 rfl rfl
set_option maxRecDepth 8000 in
theorem w230 : (Cond.methodLink "FormulaSetter$Grid" (3 : Nat) ({ cls := "java/lang/Object", name := "<init>", desc := "()V" } : MethodName)) ∈ fh_T := fh_m1 230 rfl rfl
set_option maxRecDepth 8000 in
theorem w231 : (Cond.fieldLink "FormulaSetter$Grid" (9 : Nat) "FormulaSetter$Grid" "columnWidths" "[I") ∈ fh_T := fh_m1 231 rfl rfl
set_option maxRecDepth 8000 in
theorem w232 : (Cond.fieldLink "FormulaSetter$Grid" (15 : Nat) "FormulaSetter$Grid" "rowHeights" "[I") ∈ fh_T := fh_m1 232 rfl rfl
set_option maxRecDepth 8000 in
theorem w233 : (Cond.fieldLink "FormulaSetter$Grid" (18 : Nat) "FormulaSetter$Grid" "rowDepths" "[I") ∈ fh_T := fh_m1 233 rfl rfl
set_option maxRecDepth 8000 in
theorem w234 : (Cond.fieldLink "FormulaSetter$Grid" (27 : Nat) "FormulaSetter$Grid" "rows" "I") ∈ fh_T := fh_m1 234 rfl rfl
set_option maxRecDepth 8000 in
theorem w235 : (Cond.fieldLink "FormulaSetter$Grid" (31 : Nat) "FormulaSetter$Grid" "columns" "I") ∈ fh_T := fh_m1 235 rfl rfl
set_option maxRecDepth 8000 in
theorem w236 : (Cond.laysFinal "FormulaSetter$Grid" "FormulaSetter$Grid" "columnWidths" "[I") ∈ fh_T := fh_m1 236 rfl rfl
set_option maxRecDepth 8000 in
theorem w237 : (Cond.soleField "FormulaSetter$Grid" "columnWidths") ∈ fh_T := fh_m1 237 rfl rfl
set_option maxRecDepth 8000 in
theorem w238 : (Cond.laysFinal "FormulaSetter$Grid" "FormulaSetter$Grid" "rowHeights" "[I") ∈ fh_T := fh_m1 238 rfl rfl
set_option maxRecDepth 8000 in
theorem w239 : (Cond.soleField "FormulaSetter$Grid" "rowHeights") ∈ fh_T := fh_m1 239 rfl rfl
set_option maxRecDepth 8000 in
theorem w240 : (Cond.laysFinal "FormulaSetter$Grid" "FormulaSetter$Grid" "rowDepths" "[I") ∈ fh_T := fh_m2 0 rfl rfl
set_option maxRecDepth 8000 in
theorem w241 : (Cond.soleField "FormulaSetter$Grid" "rowDepths") ∈ fh_T := fh_m2 1 rfl rfl
set_option maxRecDepth 8000 in
theorem w242 : (Cond.lays "FormulaSetter$Grid" "FormulaSetter$Grid" "rows" "I") ∈ fh_T := fh_m2 2 rfl rfl
set_option maxRecDepth 8000 in
theorem w243 : (Cond.soleField "FormulaSetter$Grid" "rows") ∈ fh_T := fh_m2 3 rfl rfl
set_option maxRecDepth 8000 in
theorem w244 : (Cond.lays "FormulaSetter$Grid" "FormulaSetter$Grid" "columns" "I") ∈ fh_T := fh_m2 4 rfl rfl
set_option maxRecDepth 8000 in
theorem w245 : (Cond.soleField "FormulaSetter$Grid" "columns") ∈ fh_T := fh_m2 5 rfl rfl
set_option maxRecDepth 8000 in
theorem w246 : (Cond.superclass "FormulaSetter$Grid" "java/lang/Object") ∈ fh_T := fh_m2 6 rfl rfl
set_option maxRecDepth 8000 in
theorem w247 : (Cond.fieldLink "FormulaSetter$Typesetter" (12 : Nat) "FormulaSetter$Typesetter" "sheet" "LFormulaSetter$Sheet;") ∈ fh_T := fh_m2 7 rfl rfl
set_option maxRecDepth 8000 in
theorem w248 : (Cond.fieldLink "FormulaSetter" (77 : Nat) "FormulaSetter$Typesetter" "sheet" "LFormulaSetter$Sheet;") ∈ fh_T := fh_m2 8 rfl rfl
set_option maxRecDepth 8000 in
theorem w249 : (Cond.fieldLink "FormulaSetter$Typesetter" (21 : Nat) "FormulaSetter$Typesetter" "grid" "LFormulaSetter$Grid;") ∈ fh_T := fh_m2 9 rfl rfl
set_option maxRecDepth 8000 in
theorem w250 : (Cond.laysFinal "FormulaSetter$Typesetter" "FormulaSetter$Typesetter" "sheet" "LFormulaSetter$Sheet;") ∈ fh_T := fh_m2 10 rfl rfl
set_option maxRecDepth 8000 in
theorem w251 : (Cond.soleField "FormulaSetter$Typesetter" "sheet") ∈ fh_T := fh_m2 11 rfl rfl
set_option maxRecDepth 8000 in
theorem w252 : (Cond.laysFinal "FormulaSetter$Typesetter" "FormulaSetter$Typesetter" "grid" "LFormulaSetter$Grid;") ∈ fh_T := fh_m2 12 rfl rfl
set_option maxRecDepth 8000 in
theorem w253 : (Cond.soleField "FormulaSetter$Typesetter" "grid") ∈ fh_T := fh_m2 13 rfl rfl
set_option maxRecDepth 8000 in
theorem w254 : (Cond.superclass "FormulaSetter$Typesetter" "java/lang/Object") ∈ fh_T := fh_m2 14 rfl rfl
set_option maxRecDepth 8000 in
theorem w255 : (Cond.fieldLink "FormulaSetter" (9 : Nat) "FormulaSetter" "text" "[C") ∈ fh_T := fh_m2 15 rfl rfl
set_option maxRecDepth 8000 in
theorem w256 : (Cond.fieldLink "FormulaSetter" (16 : Nat) "FormulaSetter" "reader" "LFormulaSetter$Reader;") ∈ fh_T := fh_m2 16 rfl rfl
set_option maxRecDepth 8000 in
theorem w257 : (Cond.fieldLink "FormulaSetter" (23 : Nat) "FormulaSetter" "typesetter" "LFormulaSetter$Typesetter;") ∈ fh_T := fh_m2 17 rfl rfl
set_option maxRecDepth 8000 in
theorem w258 : (Cond.fieldLink "FormulaSetter" (27 : Nat) "FormulaSetter" "length" "I") ∈ fh_T := fh_m2 18 rfl rfl
set_option maxRecDepth 8000 in
theorem w259 : (Cond.fieldLink "FormulaSetter" (62 : Nat) "FormulaSetter" "wholeWidth" "I") ∈ fh_T := fh_m2 19 rfl rfl
set_option maxRecDepth 8000 in
theorem w260 : (Cond.fieldLink "FormulaSetter" (68 : Nat) "FormulaSetter" "wholeHeight" "I") ∈ fh_T := fh_m2 20 rfl rfl
set_option maxRecDepth 8000 in
theorem w261 : (Cond.fieldLink "FormulaSetter" (74 : Nat) "FormulaSetter" "wholeDepth" "I") ∈ fh_T := fh_m2 21 rfl rfl
set_option maxRecDepth 8000 in
theorem w262 : (Cond.laysFinal "FormulaSetter" "FormulaSetter" "text" "[C") ∈ fh_T := fh_m2 22 rfl rfl
set_option maxRecDepth 8000 in
theorem w263 : (Cond.soleField "FormulaSetter" "text") ∈ fh_T := fh_m2 23 rfl rfl
set_option maxRecDepth 8000 in
theorem w264 : (Cond.laysFinal "FormulaSetter" "FormulaSetter" "reader" "LFormulaSetter$Reader;") ∈ fh_T := fh_m2 24 rfl rfl
set_option maxRecDepth 8000 in
theorem w265 : (Cond.soleField "FormulaSetter" "reader") ∈ fh_T := fh_m2 25 rfl rfl
set_option maxRecDepth 8000 in
theorem w266 : (Cond.laysFinal "FormulaSetter" "FormulaSetter" "typesetter" "LFormulaSetter$Typesetter;") ∈ fh_T := fh_m2 26 rfl rfl
set_option maxRecDepth 8000 in
theorem w267 : (Cond.soleField "FormulaSetter" "typesetter") ∈ fh_T := fh_m2 27 rfl rfl
set_option maxRecDepth 8000 in
theorem w268 : (Cond.lays "FormulaSetter" "FormulaSetter" "length" "I") ∈ fh_T := fh_m2 28 rfl rfl
set_option maxRecDepth 8000 in
theorem w269 : (Cond.soleField "FormulaSetter" "length") ∈ fh_T := fh_m2 29 rfl rfl
set_option maxRecDepth 8000 in
theorem w270 : (Cond.lays "FormulaSetter" "FormulaSetter" "wholeWidth" "I") ∈ fh_T := fh_m2 30 rfl rfl
set_option maxRecDepth 8000 in
theorem w271 : (Cond.soleField "FormulaSetter" "wholeWidth") ∈ fh_T := fh_m2 31 rfl rfl
set_option maxRecDepth 8000 in
theorem w272 : (Cond.lays "FormulaSetter" "FormulaSetter" "wholeHeight" "I") ∈ fh_T := fh_m2 32 rfl rfl
set_option maxRecDepth 8000 in
theorem w273 : (Cond.soleField "FormulaSetter" "wholeHeight") ∈ fh_T := fh_m2 33 rfl rfl
set_option maxRecDepth 8000 in
theorem w274 : (Cond.lays "FormulaSetter" "FormulaSetter" "wholeDepth" "I") ∈ fh_T := fh_m2 34 rfl rfl
set_option maxRecDepth 8000 in
theorem w275 : (Cond.soleField "FormulaSetter" "wholeDepth") ∈ fh_T := fh_m2 35 rfl rfl
set_option maxRecDepth 8000 in
theorem w276 : (Cond.superclass "FormulaSetter" "java/lang/Object") ∈ fh_T := fh_m2 36 rfl rfl
set_option maxRecDepth 8000 in
theorem w277 : (Cond.methodLink "FormulaSetterLaw" (27 : Nat) ({ cls := "FormulaSetter", name := "type", desc := "(JI)I" } : MethodName)) ∈ fh_T := fh_m2 37 rfl rfl
set_option maxRecDepth 8000 in
theorem w278 : (Cond.instanceMethod ({ cls := "FormulaSetter", name := "type", desc := "(JI)I" } : MethodName)) ∈ fh_T := fh_m2 38 rfl rfl
set_option maxRecDepth 8000 in
theorem w279 : (Cond.selects "FormulaSetter" ({ cls := "FormulaSetter", name := "type", desc := "(JI)I" } : MethodName) ({ cls := "FormulaSetter", name := "type", desc := "(JI)I" } : MethodName)) ∈ fh_T := fh_m2 39 rfl rfl
set_option maxRecDepth 8000 in
theorem w280 : (Cond.code ({ cls := "FormulaSetter", name := "type", desc := "(JI)I" } : MethodName) prog_1_method_2_code (6 : Nat) (Option.some FieldType.int)) ∈ fh_T := fh_m2 40 rfl rfl
set_option maxRecDepth 8000 in
theorem w281 : (Cond.constant "FormulaSetter" (31 : Nat) (-1000000 : Int32)) ∈ fh_T := fh_m2 41 rfl rfl
set_option maxRecDepth 8000 in
theorem w282 : (Cond.methodLink "FormulaSetter" (32 : Nat) ({ cls := "FormulaSetter", name := "byteOf", desc := "(JI)I" } : MethodName)) ∈ fh_T := fh_m2 42 rfl rfl
set_option maxRecDepth 8000 in
theorem w283 : (Cond.static ({ cls := "FormulaSetter", name := "byteOf", desc := "(JI)I" } : MethodName)) ∈ fh_T := fh_m2 43 rfl rfl
set_option maxRecDepth 8000 in
theorem w284 : (Cond.code ({ cls := "FormulaSetter", name := "byteOf", desc := "(JI)I" } : MethodName) prog_1_method_11_code (3 : Nat) (Option.some FieldType.int)) ∈ fh_T := fh_m2 44 rfl rfl
set_option maxRecDepth 8000 in
theorem w285 : (Cond.methodLink "FormulaSetterLaw" (32 : Nat) ({ cls := "FormulaSetter", name := "wipe", desc := "()I" } : MethodName)) ∈ fh_T := fh_m2 45 rfl rfl
set_option maxRecDepth 8000 in
theorem w286 : (Cond.instanceMethod ({ cls := "FormulaSetter", name := "wipe", desc := "()I" } : MethodName)) ∈ fh_T := fh_m2 46 rfl rfl
set_option maxRecDepth 8000 in
theorem w287 : (Cond.selects "FormulaSetter" ({ cls := "FormulaSetter", name := "wipe", desc := "()I" } : MethodName) ({ cls := "FormulaSetter", name := "wipe", desc := "()I" } : MethodName)) ∈ fh_T := fh_m2 47 rfl rfl
set_option maxRecDepth 8000 in
theorem w288 : (Cond.code ({ cls := "FormulaSetter", name := "wipe", desc := "()I" } : MethodName) prog_1_method_3_code (2 : Nat) (Option.some FieldType.int)) ∈ fh_T := fh_m2 48 rfl rfl
set_option maxRecDepth 8000 in
theorem w289 : (Cond.methodLink "FormulaSetterLaw" (46 : Nat) ({ cls := "FormulaSetter", name := "isFormula", desc := "()Z" } : MethodName)) ∈ fh_T := fh_m2 49 rfl rfl
set_option maxRecDepth 8000 in
theorem w290 : (Cond.instanceMethod ({ cls := "FormulaSetter", name := "isFormula", desc := "()Z" } : MethodName)) ∈ fh_T := fh_m2 50 rfl rfl
set_option maxRecDepth 8000 in
theorem w291 : (Cond.selects "FormulaSetter" ({ cls := "FormulaSetter", name := "isFormula", desc := "()Z" } : MethodName) ({ cls := "FormulaSetter", name := "isFormula", desc := "()Z" } : MethodName)) ∈ fh_T := fh_m2 51 rfl rfl
set_option maxRecDepth 8000 in
theorem w292 : (Cond.code ({ cls := "FormulaSetter", name := "isFormula", desc := "()Z" } : MethodName) prog_1_method_5_code (1 : Nat) (Option.some FieldType.boolean)) ∈ fh_T := fh_m2 52 rfl rfl
set_option maxRecDepth 8000 in
theorem w293 : (Cond.methodLink "FormulaSetter" (47 : Nat) ({ cls := "FormulaSetter$Reader", name := "read", desc := "([CI)LFormulaSetter$Line;" } : MethodName)) ∈ fh_T := fh_m2 53 rfl rfl
set_option maxRecDepth 8000 in
theorem w294 : (Cond.instanceMethod ({ cls := "FormulaSetter$Reader", name := "read", desc := "([CI)LFormulaSetter$Line;" } : MethodName)) ∈ fh_T := fh_m2 54 rfl rfl
set_option maxRecDepth 8000 in
theorem w295 : (Cond.selects "FormulaSetter$Reader" ({ cls := "FormulaSetter$Reader", name := "read", desc := "([CI)LFormulaSetter$Line;" } : MethodName) ({ cls := "FormulaSetter$Reader", name := "read", desc := "([CI)LFormulaSetter$Line;" } : MethodName)) ∈ fh_T := fh_m2 55 rfl rfl
set_option maxRecDepth 8000 in
theorem w296 : (Cond.code ({ cls := "FormulaSetter$Reader", name := "read", desc := "([CI)LFormulaSetter$Line;" } : MethodName) prog_9_method_2_code (4 : Nat) (Option.some (FieldType.object "FormulaSetter$Line"))) ∈ fh_T := fh_m2 56 rfl rfl
set_option maxRecDepth 8000 in
theorem w297 : (Cond.methodLink "FormulaSetter$Reader" (29 : Nat) ({ cls := "java/lang/Math", name := "min", desc := "(II)I" } : MethodName)) ∈ fh_T := fh_m2 57 rfl rfl
set_option maxRecDepth 8000 in
theorem w298 : (Cond.static ({ cls := "java/lang/Math", name := "min", desc := "(II)I" } : MethodName)) ∈ fh_T := fh_m2 58 rfl rfl
set_option maxRecDepth 8000 in
theorem w299 : (Cond.code ({ cls := "java/lang/Math", name := "min", desc := "(II)I" } : MethodName) prog_20_method_69_code (2 : Nat) (Option.some FieldType.int)) ∈ fh_T := fh_m2 59 rfl rfl
set_option maxRecDepth 8000 in
theorem w300 : (Cond.methodLink "FormulaSetter$Reader" (48 : Nat) ({ cls := "FormulaSetter$Reader", name := "readLine", desc := "(I)LFormulaSetter$Line;" } : MethodName)) ∈ fh_T := fh_m2 60 rfl rfl
set_option maxRecDepth 8000 in
theorem w302 : (Cond.instanceMethod ({ cls := "FormulaSetter$Reader", name := "readLine", desc := "(I)LFormulaSetter$Line;" } : MethodName)) ∈ fh_T := fh_m2 62 rfl rfl
set_option maxRecDepth 8000 in
theorem w303 : (Cond.code ({ cls := "FormulaSetter$Reader", name := "readLine", desc := "(I)LFormulaSetter$Line;" } : MethodName) prog_9_method_3_code (6 : Nat) (Option.some (FieldType.object "FormulaSetter$Line"))) ∈ fh_T := fh_m2 63 rfl rfl
set_option maxRecDepth 8000 in
theorem w304 : (Cond.methodLink "FormulaSetter$Reader" (52 : Nat) ({ cls := "FormulaSetter$Reader", name := "freshLine", desc := "()LFormulaSetter$Line;" } : MethodName)) ∈ fh_T := fh_m2 64 rfl rfl
set_option maxRecDepth 8000 in
theorem w306 : (Cond.instanceMethod ({ cls := "FormulaSetter$Reader", name := "freshLine", desc := "()LFormulaSetter$Line;" } : MethodName)) ∈ fh_T := fh_m2 66 rfl rfl
set_option maxRecDepth 8000 in
theorem w307 : (Cond.code ({ cls := "FormulaSetter$Reader", name := "freshLine", desc := "()LFormulaSetter$Line;" } : MethodName) prog_9_method_12_code (2 : Nat) (Option.some (FieldType.object "FormulaSetter$Line"))) ∈ fh_T := fh_m2 67 rfl rfl
set_option maxRecDepth 8000 in
theorem w308 : (Cond.methodLink "FormulaSetter$Reader" (192 : Nat) ({ cls := "FormulaSetter$Line", name := "clear", desc := "()V" } : MethodName)) ∈ fh_T := fh_m2 68 rfl rfl
set_option maxRecDepth 8000 in
theorem w309 : (Cond.instanceMethod ({ cls := "FormulaSetter$Line", name := "clear", desc := "()V" } : MethodName)) ∈ fh_T := fh_m2 69 rfl rfl
set_option maxRecDepth 8000 in
theorem w310 : (Cond.selects "FormulaSetter$Line" ({ cls := "FormulaSetter$Line", name := "clear", desc := "()V" } : MethodName) ({ cls := "FormulaSetter$Line", name := "clear", desc := "()V" } : MethodName)) ∈ fh_T := fh_m2 70 rfl rfl
set_option maxRecDepth 8000 in
theorem w311 : (Cond.code ({ cls := "FormulaSetter$Line", name := "clear", desc := "()V" } : MethodName) prog_7_method_2_code (1 : Nat) (Option.none : Option FieldType)) ∈ fh_T := fh_m2 71 rfl rfl
set_option maxRecDepth 8000 in
theorem w312 : (Cond.methodLink "FormulaSetter$Reader" (56 : Nat) ({ cls := "FormulaSetter$Reader", name := "isLineEnd", desc := "()Z" } : MethodName)) ∈ fh_T := fh_m2 72 rfl rfl
set_option maxRecDepth 8000 in
theorem w314 : (Cond.instanceMethod ({ cls := "FormulaSetter$Reader", name := "isLineEnd", desc := "()Z" } : MethodName)) ∈ fh_T := fh_m2 74 rfl rfl
set_option maxRecDepth 8000 in
theorem w315 : (Cond.code ({ cls := "FormulaSetter$Reader", name := "isLineEnd", desc := "()Z" } : MethodName) prog_9_method_4_code (2 : Nat) (Option.some FieldType.boolean)) ∈ fh_T := fh_m2 75 rfl rfl
set_option maxRecDepth 8000 in
theorem w316 : (Cond.methodLink "FormulaSetter$Reader" (78 : Nat) ({ cls := "FormulaSetter$Reader", name := "peek", desc := "()C" } : MethodName)) ∈ fh_T := fh_m2 76 rfl rfl
set_option maxRecDepth 8000 in
theorem w318 : (Cond.instanceMethod ({ cls := "FormulaSetter$Reader", name := "peek", desc := "()C" } : MethodName)) ∈ fh_T := fh_m2 78 rfl rfl
set_option maxRecDepth 8000 in
theorem w319 : (Cond.code ({ cls := "FormulaSetter$Reader", name := "peek", desc := "()C" } : MethodName) prog_9_method_13_code (1 : Nat) (Option.some FieldType.char)) ∈ fh_T := fh_m2 79 rfl rfl
set_option maxRecDepth 8000 in
theorem w320 : (Cond.methodLink "FormulaSetter$Reader" (82 : Nat) ({ cls := "FormulaSetter$Reader", name := "seesRowEnd", desc := "()Z" } : MethodName)) ∈ fh_T := fh_m2 80 rfl rfl
set_option maxRecDepth 8000 in
theorem w322 : (Cond.instanceMethod ({ cls := "FormulaSetter$Reader", name := "seesRowEnd", desc := "()Z" } : MethodName)) ∈ fh_T := fh_m2 82 rfl rfl
set_option maxRecDepth 8000 in
theorem w323 : (Cond.code ({ cls := "FormulaSetter$Reader", name := "seesRowEnd", desc := "()Z" } : MethodName) prog_9_method_16_code (1 : Nat) (Option.some FieldType.boolean)) ∈ fh_T := fh_m2 83 rfl rfl
set_option maxRecDepth 8000 in
theorem w325 : (Cond.methodLink "FormulaSetter$Reader" (87 : Nat) ({ cls := "FormulaSetter$Reader", name := "seesCommand", desc := "(Ljava/lang/String;)Z" } : MethodName)) ∈ fh_T := fh_m2 85 rfl rfl
set_option maxRecDepth 8000 in
theorem w327 : (Cond.instanceMethod ({ cls := "FormulaSetter$Reader", name := "seesCommand", desc := "(Ljava/lang/String;)Z" } : MethodName)) ∈ fh_T := fh_m2 87 rfl rfl
set_option maxRecDepth 8000 in
theorem w328 : (Cond.code ({ cls := "FormulaSetter$Reader", name := "seesCommand", desc := "(Ljava/lang/String;)Z" } : MethodName) prog_9_method_18_code (4 : Nat) (Option.some FieldType.boolean)) ∈ fh_T := fh_m2 88 rfl rfl
set_option maxRecDepth 8000 in
theorem w329 : (Cond.methodLink "FormulaSetter$Reader" (174 : Nat) ({ cls := "java/lang/String", name := "length", desc := "()I" } : MethodName)) ∈ fh_T := fh_m2 89 rfl rfl
set_option maxRecDepth 8000 in
theorem w330 : (Cond.instanceMethod ({ cls := "java/lang/String", name := "length", desc := "()I" } : MethodName)) ∈ fh_T := fh_m2 90 rfl rfl
set_option maxRecDepth 8000 in
theorem w331 : (Cond.selects "java/lang/String" ({ cls := "java/lang/String", name := "length", desc := "()I" } : MethodName) ({ cls := "java/lang/String", name := "length", desc := "()I" } : MethodName)) ∈ fh_T := fh_m2 91 rfl rfl
set_option maxRecDepth 8000 in
theorem w332 : (Cond.code ({ cls := "java/lang/String", name := "length", desc := "()I" } : MethodName) prog_22_method_54_code (1 : Nat) (Option.some FieldType.int)) ∈ fh_T := fh_m2 92 rfl rfl
set_option maxRecDepth 8000 in
theorem w333 : (Cond.methodLink "java/lang/String" (335 : Nat) ({ cls := "java/lang/String", name := "coder", desc := "()B" } : MethodName)) ∈ fh_T := fh_m2 93 rfl rfl
set_option maxRecDepth 8000 in
theorem w334 : (Cond.instanceMethod ({ cls := "java/lang/String", name := "coder", desc := "()B" } : MethodName)) ∈ fh_T := fh_m2 94 rfl rfl
set_option maxRecDepth 8000 in
theorem w335 : (Cond.selects "java/lang/String" ({ cls := "java/lang/String", name := "coder", desc := "()B" } : MethodName) ({ cls := "java/lang/String", name := "coder", desc := "()B" } : MethodName)) ∈ fh_T := fh_m2 95 rfl rfl
set_option maxRecDepth 8000 in
theorem w336 : (Cond.code ({ cls := "java/lang/String", name := "coder", desc := "()B" } : MethodName) prog_22_method_152_code (1 : Nat) (Option.some FieldType.byte)) ∈ fh_T := fh_m2 96 rfl rfl
set_option maxRecDepth 8000 in
theorem w337 : (Cond.fieldLink "java/lang/String" (38 : Nat) "java/lang/String" "COMPACT_STRINGS" "Z") ∈ fh_T := fh_m2 97 rfl rfl
set_option maxRecDepth 8000 in
theorem w339 : (Cond.methodLink "FormulaSetter$Reader" (210 : Nat) ({ cls := "java/lang/String", name := "charAt", desc := "(I)C" } : MethodName)) ∈ fh_T := fh_m2 99 rfl rfl
set_option maxRecDepth 8000 in
theorem w340 : (Cond.instanceMethod ({ cls := "java/lang/String", name := "charAt", desc := "(I)C" } : MethodName)) ∈ fh_T := fh_m2 100 rfl rfl
set_option maxRecDepth 8000 in
theorem w341 : (Cond.selects "java/lang/String" ({ cls := "java/lang/String", name := "charAt", desc := "(I)C" } : MethodName) ({ cls := "java/lang/String", name := "charAt", desc := "(I)C" } : MethodName)) ∈ fh_T := fh_m2 101 rfl rfl
set_option maxRecDepth 8000 in
theorem w342 : (Cond.code ({ cls := "java/lang/String", name := "charAt", desc := "(I)C" } : MethodName) prog_22_method_56_code (2 : Nat) (Option.some FieldType.char)) ∈ fh_T := fh_m2 102 rfl rfl
set_option maxRecDepth 8000 in
theorem w343 : (Cond.methodLink "java/lang/String" (492 : Nat) ({ cls := "java/lang/String", name := "isLatin1", desc := "()Z" } : MethodName)) ∈ fh_T := fh_m2 103 rfl rfl
set_option maxRecDepth 8000 in
theorem w344 : (Cond.instanceMethod ({ cls := "java/lang/String", name := "isLatin1", desc := "()Z" } : MethodName)) ∈ fh_T := fh_m2 104 rfl rfl
set_option maxRecDepth 8000 in
theorem w345 : (Cond.selects "java/lang/String" ({ cls := "java/lang/String", name := "isLatin1", desc := "()Z" } : MethodName) ({ cls := "java/lang/String", name := "isLatin1", desc := "()Z" } : MethodName)) ∈ fh_T := fh_m2 105 rfl rfl
set_option maxRecDepth 8000 in
theorem w346 : (Cond.code ({ cls := "java/lang/String", name := "isLatin1", desc := "()Z" } : MethodName) prog_22_method_154_code (1 : Nat) (Option.some FieldType.boolean)) ∈ fh_T := fh_m2 106 rfl rfl
set_option maxRecDepth 8000 in
theorem w347 : (Cond.methodLink "java/lang/String" (495 : Nat) ({ cls := "java/lang/StringLatin1", name := "charAt", desc := "([BI)C" } : MethodName)) ∈ fh_T := fh_m2 107 rfl rfl
set_option maxRecDepth 8000 in
theorem w348 : (Cond.static ({ cls := "java/lang/StringLatin1", name := "charAt", desc := "([BI)C" } : MethodName)) ∈ fh_T := fh_m2 108 rfl rfl
set_option maxRecDepth 8000 in
theorem w349 : (Cond.code ({ cls := "java/lang/StringLatin1", name := "charAt", desc := "([BI)C" } : MethodName) prog_23_method_2_code (2 : Nat) (Option.some FieldType.char)) ∈ fh_T := fh_m2 109 rfl rfl
set_option maxRecDepth 8000 in
theorem w350 : (Cond.methodLink "java/lang/StringLatin1" (9 : Nat) ({ cls := "java/lang/String", name := "checkIndex", desc := "(II)V" } : MethodName)) ∈ fh_T := fh_m2 110 rfl rfl
set_option maxRecDepth 8000 in
theorem w351 : (Cond.static ({ cls := "java/lang/String", name := "checkIndex", desc := "(II)V" } : MethodName)) ∈ fh_T := fh_m2 111 rfl rfl
set_option maxRecDepth 8000 in
theorem w352 : (Cond.code ({ cls := "java/lang/String", name := "checkIndex", desc := "(II)V" } : MethodName) prog_22_method_155_code (2 : Nat) (Option.none : Option FieldType)) ∈ fh_T := fh_m2 112 rfl rfl
set_option maxRecDepth 8000 in
theorem w353 : (Cond.fieldLink "java/lang/String" (1053 : Nat) "jdk/internal/util/Preconditions" "SIOOBE_FORMATTER" "Ljava/util/function/BiFunction;") ∈ fh_T := fh_m2 113 rfl rfl
set_option maxRecDepth 8000 in
theorem w355 : (Cond.methodLink "java/lang/String" (1059 : Nat) ({ cls := "jdk/internal/util/Preconditions", name := "checkIndex", desc := "(IILjava/util/function/BiFunction;)I" } : MethodName)) ∈ fh_T := fh_m2 115 rfl rfl
set_option maxRecDepth 8000 in
theorem w356 : (Cond.static ({ cls := "jdk/internal/util/Preconditions", name := "checkIndex", desc := "(IILjava/util/function/BiFunction;)I" } : MethodName)) ∈ fh_T := fh_m2 116 rfl rfl
set_option maxRecDepth 8000 in
theorem w357 : (Cond.code ({ cls := "jdk/internal/util/Preconditions", name := "checkIndex", desc := "(IILjava/util/function/BiFunction;)I" } : MethodName) prog_27_method_11_code (3 : Nat) (Option.some FieldType.int)) ∈ fh_T := fh_m2 117 rfl rfl
set_option maxRecDepth 8000 in
theorem w358 : (Cond.methodLink "java/lang/String" (498 : Nat) ({ cls := "java/lang/StringUTF16", name := "charAt", desc := "([BI)C" } : MethodName)) ∈ fh_T := fh_m2 118 rfl rfl
set_option maxRecDepth 8000 in
theorem w359 : (Cond.static ({ cls := "java/lang/StringUTF16", name := "charAt", desc := "([BI)C" } : MethodName)) ∈ fh_T := fh_m2 119 rfl rfl
set_option maxRecDepth 8000 in
theorem w360 : (Cond.code ({ cls := "java/lang/StringUTF16", name := "charAt", desc := "([BI)C" } : MethodName) prog_24_method_83_code (2 : Nat) (Option.some FieldType.char)) ∈ fh_T := fh_m2 120 rfl rfl
set_option maxRecDepth 8000 in
theorem w361 : (Cond.methodLink "java/lang/StringUTF16" (67 : Nat) ({ cls := "java/lang/StringUTF16", name := "checkIndex", desc := "(I[B)V" } : MethodName)) ∈ fh_T := fh_m2 121 rfl rfl
set_option maxRecDepth 8000 in
theorem w362 : (Cond.static ({ cls := "java/lang/StringUTF16", name := "checkIndex", desc := "(I[B)V" } : MethodName)) ∈ fh_T := fh_m2 122 rfl rfl
set_option maxRecDepth 8000 in
theorem w363 : (Cond.code ({ cls := "java/lang/StringUTF16", name := "checkIndex", desc := "(I[B)V" } : MethodName) prog_24_method_91_code (2 : Nat) (Option.none : Option FieldType)) ∈ fh_T := fh_m2 123 rfl rfl
set_option maxRecDepth 8000 in
theorem w364 : (Cond.methodLink "java/lang/StringUTF16" (48 : Nat) ({ cls := "java/lang/StringUTF16", name := "length", desc := "([B)I" } : MethodName)) ∈ fh_T := fh_m2 124 rfl rfl
set_option maxRecDepth 8000 in
theorem w365 : (Cond.static ({ cls := "java/lang/StringUTF16", name := "length", desc := "([B)I" } : MethodName)) ∈ fh_T := fh_m2 125 rfl rfl
set_option maxRecDepth 8000 in
theorem w366 : (Cond.code ({ cls := "java/lang/StringUTF16", name := "length", desc := "([B)I" } : MethodName) prog_24_method_6_code (1 : Nat) (Option.some FieldType.int)) ∈ fh_T := fh_m2 126 rfl rfl
set_option maxRecDepth 8000 in
theorem w367 : (Cond.methodLink "java/lang/StringUTF16" (414 : Nat) ({ cls := "java/lang/String", name := "checkIndex", desc := "(II)V" } : MethodName)) ∈ fh_T := fh_m2 127 rfl rfl
set_option maxRecDepth 8000 in
theorem w368 : (Cond.methodLink "java/lang/StringUTF16" (71 : Nat) ({ cls := "java/lang/StringUTF16", name := "getChar", desc := "([BI)C" } : MethodName)) ∈ fh_T := fh_m2 128 rfl rfl
set_option maxRecDepth 8000 in
theorem w369 : (Cond.static ({ cls := "java/lang/StringUTF16", name := "getChar", desc := "([BI)C" } : MethodName)) ∈ fh_T := fh_m2 129 rfl rfl
set_option maxRecDepth 8000 in
theorem w370 : (Cond.code ({ cls := "java/lang/StringUTF16", name := "getChar", desc := "([BI)C" } : MethodName) prog_24_method_5_code (2 : Nat) (Option.some FieldType.char)) ∈ fh_T := fh_m2 130 rfl rfl
set_option maxRecDepth 8000 in
theorem w371 : (Cond.fieldLink "java/lang/StringUTF16" (44 : Nat) "java/lang/StringUTF16" "$assertionsDisabled" "Z") ∈ fh_T := fh_m2 131 rfl rfl
set_option maxRecDepth 8000 in
theorem w373 : (Cond.fieldLink "java/lang/StringUTF16" (59 : Nat) "java/lang/StringUTF16" "HI_BYTE_SHIFT" "I") ∈ fh_T := fh_m2 133 rfl rfl
set_option maxRecDepth 8000 in
theorem w375 : (Cond.fieldLink "java/lang/StringUTF16" (63 : Nat) "java/lang/StringUTF16" "LO_BYTE_SHIFT" "I") ∈ fh_T := fh_m2 135 rfl rfl
set_option maxRecDepth 8000 in
theorem w377 : (Cond.methodLink "FormulaSetter$Reader" (214 : Nat) ({ cls := "FormulaSetter$Atom", name := "isLetter", desc := "(C)Z" } : MethodName)) ∈ fh_T := fh_m2 137 rfl rfl
set_option maxRecDepth 8000 in
theorem w378 : (Cond.static ({ cls := "FormulaSetter$Atom", name := "isLetter", desc := "(C)Z" } : MethodName)) ∈ fh_T := fh_m2 138 rfl rfl
set_option maxRecDepth 8000 in
theorem w379 : (Cond.code ({ cls := "FormulaSetter$Atom", name := "isLetter", desc := "(C)Z" } : MethodName) prog_3_method_5_code (1 : Nat) (Option.some FieldType.boolean)) ∈ fh_T := fh_m2 139 rfl rfl
set_option maxRecDepth 8000 in
theorem w380 : (Cond.methodLink "FormulaSetter$Reader" (60 : Nat) ({ cls := "FormulaSetter$Reader", name := "readNucleus", desc := "(I)LFormulaSetter$Nucleus;" } : MethodName)) ∈ fh_T := fh_m2 140 rfl rfl
set_option maxRecDepth 8000 in
theorem w382 : (Cond.instanceMethod ({ cls := "FormulaSetter$Reader", name := "readNucleus", desc := "(I)LFormulaSetter$Nucleus;" } : MethodName)) ∈ fh_T := fh_m2 142 rfl rfl
set_option maxRecDepth 8000 in
theorem w383 : (Cond.code ({ cls := "FormulaSetter$Reader", name := "readNucleus", desc := "(I)LFormulaSetter$Nucleus;" } : MethodName) prog_9_method_6_code (3 : Nat) (Option.some (FieldType.object "FormulaSetter$Nucleus"))) ∈ fh_T := fh_m2 143 rfl rfl
set_option maxRecDepth 8000 in
theorem w384 : (Cond.methodLink "FormulaSetter$Reader" (101 : Nat) ({ cls := "FormulaSetter$Reader", name := "freshNucleus", desc := "()LFormulaSetter$Nucleus;" } : MethodName)) ∈ fh_T := fh_m2 144 rfl rfl
set_option maxRecDepth 8000 in
theorem w386 : (Cond.instanceMethod ({ cls := "FormulaSetter$Reader", name := "freshNucleus", desc := "()LFormulaSetter$Nucleus;" } : MethodName)) ∈ fh_T := fh_m2 146 rfl rfl
set_option maxRecDepth 8000 in
theorem w387 : (Cond.code ({ cls := "FormulaSetter$Reader", name := "freshNucleus", desc := "()LFormulaSetter$Nucleus;" } : MethodName) prog_9_method_11_code (2 : Nat) (Option.some (FieldType.object "FormulaSetter$Nucleus"))) ∈ fh_T := fh_m2 147 rfl rfl
set_option maxRecDepth 8000 in
theorem w388 : (Cond.methodLink "FormulaSetter$Reader" (189 : Nat) ({ cls := "FormulaSetter$Nucleus", name := "clear", desc := "()V" } : MethodName)) ∈ fh_T := fh_m2 148 rfl rfl
set_option maxRecDepth 8000 in
theorem w389 : (Cond.instanceMethod ({ cls := "FormulaSetter$Nucleus", name := "clear", desc := "()V" } : MethodName)) ∈ fh_T := fh_m2 149 rfl rfl
set_option maxRecDepth 8000 in
theorem w390 : (Cond.selects "FormulaSetter$Nucleus" ({ cls := "FormulaSetter$Nucleus", name := "clear", desc := "()V" } : MethodName) ({ cls := "FormulaSetter$Nucleus", name := "clear", desc := "()V" } : MethodName)) ∈ fh_T := fh_m2 150 rfl rfl
set_option maxRecDepth 8000 in
theorem w391 : (Cond.code ({ cls := "FormulaSetter$Nucleus", name := "clear", desc := "()V" } : MethodName) prog_8_method_2_code (1 : Nat) (Option.none : Option FieldType)) ∈ fh_T := fh_m2 151 rfl rfl
set_option maxRecDepth 8000 in
theorem w392 : (Cond.methodLink "FormulaSetter$Reader" (105 : Nat) ({ cls := "FormulaSetter$Reader", name := "readHead", desc := "(LFormulaSetter$Nucleus;)Z" } : MethodName)) ∈ fh_T := fh_m2 152 rfl rfl
set_option maxRecDepth 8000 in
theorem w394 : (Cond.instanceMethod ({ cls := "FormulaSetter$Reader", name := "readHead", desc := "(LFormulaSetter$Nucleus;)Z" } : MethodName)) ∈ fh_T := fh_m2 154 rfl rfl
set_option maxRecDepth 8000 in
theorem w395 : (Cond.code ({ cls := "FormulaSetter$Reader", name := "readHead", desc := "(LFormulaSetter$Nucleus;)Z" } : MethodName) prog_9_method_7_code (3 : Nat) (Option.some FieldType.boolean)) ∈ fh_T := fh_m2 155 rfl rfl
set_option maxRecDepth 8000 in
theorem w396 : (Cond.methodLink "FormulaSetter$Reader" (112 : Nat) ({ cls := "FormulaSetter$Reader", name := "takeCommand", desc := "()LFormulaSetter$Kind;" } : MethodName)) ∈ fh_T := fh_m2 156 rfl rfl
set_option maxRecDepth 8000 in
theorem w398 : (Cond.instanceMethod ({ cls := "FormulaSetter$Reader", name := "takeCommand", desc := "()LFormulaSetter$Kind;" } : MethodName)) ∈ fh_T := fh_m2 158 rfl rfl
set_option maxRecDepth 8000 in
theorem w399 : (Cond.code ({ cls := "FormulaSetter$Reader", name := "takeCommand", desc := "()LFormulaSetter$Kind;" } : MethodName) prog_9_method_17_code (3 : Nat) (Option.some (FieldType.object "FormulaSetter$Kind"))) ∈ fh_T := fh_m2 159 rfl rfl
set_option maxRecDepth 8000 in
theorem w402 : (Cond.methodLink "FormulaSetter$Reader" (207 : Nat) ({ cls := "java/lang/String", name := "isEmpty", desc := "()Z" } : MethodName)) ∈ fh_T := fh_m2 162 rfl rfl
set_option maxRecDepth 8000 in
theorem w403 : (Cond.instanceMethod ({ cls := "java/lang/String", name := "isEmpty", desc := "()Z" } : MethodName)) ∈ fh_T := fh_m2 163 rfl rfl
set_option maxRecDepth 8000 in
theorem w404 : (Cond.selects "java/lang/String" ({ cls := "java/lang/String", name := "isEmpty", desc := "()Z" } : MethodName) ({ cls := "java/lang/String", name := "isEmpty", desc := "()Z" } : MethodName)) ∈ fh_T := fh_m2 164 rfl rfl
set_option maxRecDepth 8000 in
theorem w405 : (Cond.code ({ cls := "java/lang/String", name := "isEmpty", desc := "()Z" } : MethodName) prog_22_method_55_code (1 : Nat) (Option.some FieldType.boolean)) ∈ fh_T := fh_m2 165 rfl rfl
set_option maxRecDepth 8000 in
theorem w406 : (Cond.fieldLink "FormulaSetter$Reader" (120 : Nat) "FormulaSetter$Kind" "GROUP" "LFormulaSetter$Kind;") ∈ fh_T := fh_m2 166 rfl rfl
set_option maxRecDepth 8000 in
theorem w408 : (Cond.fieldLink "FormulaSetter$Reader" (125 : Nat) "FormulaSetter$Kind" "CHARACTER" "LFormulaSetter$Kind;") ∈ fh_T := fh_m2 168 rfl rfl
set_option maxRecDepth 8000 in
theorem w410 : (Cond.methodLink "FormulaSetter$Reader" (131 : Nat) ({ cls := "FormulaSetter$Atom", name := "ofCharacter", desc := "(C)LFormulaSetter$Atom;" } : MethodName)) ∈ fh_T := fh_m2 170 rfl rfl
set_option maxRecDepth 8000 in
theorem w411 : (Cond.static ({ cls := "FormulaSetter$Atom", name := "ofCharacter", desc := "(C)LFormulaSetter$Atom;" } : MethodName)) ∈ fh_T := fh_m2 171 rfl rfl
set_option maxRecDepth 8000 in
theorem w412 : (Cond.code ({ cls := "FormulaSetter$Atom", name := "ofCharacter", desc := "(C)LFormulaSetter$Atom;" } : MethodName) prog_3_method_4_code (1 : Nat) (Option.some (FieldType.object "FormulaSetter$Atom"))) ∈ fh_T := fh_m2 172 rfl rfl
set_option maxRecDepth 8000 in
theorem w413 : (Cond.methodLink "FormulaSetter$Atom" (62 : Nat) ({ cls := "FormulaSetter$Atom", name := "isLetter", desc := "(C)Z" } : MethodName)) ∈ fh_T := fh_m2 173 rfl rfl
set_option maxRecDepth 8000 in
theorem w415 : (Cond.methodLink "FormulaSetter$Atom" (68 : Nat) ({ cls := "java/lang/String", name := "indexOf", desc := "(I)I" } : MethodName)) ∈ fh_T := fh_m2 175 rfl rfl
set_option maxRecDepth 8000 in
theorem w416 : (Cond.instanceMethod ({ cls := "java/lang/String", name := "indexOf", desc := "(I)I" } : MethodName)) ∈ fh_T := fh_m2 176 rfl rfl
set_option maxRecDepth 8000 in
theorem w417 : (Cond.selects "java/lang/String" ({ cls := "java/lang/String", name := "indexOf", desc := "(I)I" } : MethodName) ({ cls := "java/lang/String", name := "indexOf", desc := "(I)I" } : MethodName)) ∈ fh_T := fh_m2 177 rfl rfl
set_option maxRecDepth 8000 in
theorem w418 : (Cond.code ({ cls := "java/lang/String", name := "indexOf", desc := "(I)I" } : MethodName) prog_22_method_79_code (2 : Nat) (Option.some FieldType.int)) ∈ fh_T := fh_m2 178 rfl rfl
set_option maxRecDepth 8000 in
theorem w419 : (Cond.methodLink "java/lang/String" (633 : Nat) ({ cls := "java/lang/String", name := "indexOf", desc := "(II)I" } : MethodName)) ∈ fh_T := fh_m2 179 rfl rfl
set_option maxRecDepth 8000 in
theorem w420 : (Cond.instanceMethod ({ cls := "java/lang/String", name := "indexOf", desc := "(II)I" } : MethodName)) ∈ fh_T := fh_m2 180 rfl rfl
set_option maxRecDepth 8000 in
theorem w421 : (Cond.selects "java/lang/String" ({ cls := "java/lang/String", name := "indexOf", desc := "(II)I" } : MethodName) ({ cls := "java/lang/String", name := "indexOf", desc := "(II)I" } : MethodName)) ∈ fh_T := fh_m2 181 rfl rfl
set_option maxRecDepth 8000 in
theorem w422 : (Cond.code ({ cls := "java/lang/String", name := "indexOf", desc := "(II)I" } : MethodName) prog_22_method_80_code (3 : Nat) (Option.some FieldType.int)) ∈ fh_T := fh_m2 182 rfl rfl
set_option maxRecDepth 8000 in
theorem w423 : (Cond.methodLink "java/lang/String" (505 : Nat) ({ cls := "java/lang/String", name := "length", desc := "()I" } : MethodName)) ∈ fh_T := fh_m2 183 rfl rfl
set_option maxRecDepth 8000 in
theorem w424 : (Cond.methodLink "java/lang/String" (637 : Nat) ({ cls := "java/lang/StringLatin1", name := "indexOf", desc := "([BIII)I" } : MethodName)) ∈ fh_T := fh_m2 184 rfl rfl
set_option maxRecDepth 8000 in
theorem w425 : (Cond.static ({ cls := "java/lang/StringLatin1", name := "indexOf", desc := "([BIII)I" } : MethodName)) ∈ fh_T := fh_m2 185 rfl rfl
set_option maxRecDepth 8000 in
theorem w426 : (Cond.code ({ cls := "java/lang/StringLatin1", name := "indexOf", desc := "([BIII)I" } : MethodName) prog_23_method_22_code (4 : Nat) (Option.some FieldType.int)) ∈ fh_T := fh_m2 186 rfl rfl
set_option maxRecDepth 8000 in
theorem w427 : (Cond.methodLink "java/lang/StringLatin1" (88 : Nat) ({ cls := "java/lang/StringLatin1", name := "canEncode", desc := "(I)Z" } : MethodName)) ∈ fh_T := fh_m2 187 rfl rfl
set_option maxRecDepth 8000 in
theorem w428 : (Cond.static ({ cls := "java/lang/StringLatin1", name := "canEncode", desc := "(I)Z" } : MethodName)) ∈ fh_T := fh_m2 188 rfl rfl
set_option maxRecDepth 8000 in
theorem w429 : (Cond.code ({ cls := "java/lang/StringLatin1", name := "canEncode", desc := "(I)Z" } : MethodName) prog_23_method_4_code (1 : Nat) (Option.some FieldType.boolean)) ∈ fh_T := fh_m2 189 rfl rfl
set_option maxRecDepth 8000 in
theorem w430 : (Cond.methodLink "java/lang/StringLatin1" (92 : Nat) ({ cls := "java/lang/Math", name := "max", desc := "(II)I" } : MethodName)) ∈ fh_T := fh_m2 190 rfl rfl
set_option maxRecDepth 8000 in
theorem w431 : (Cond.static ({ cls := "java/lang/Math", name := "max", desc := "(II)I" } : MethodName)) ∈ fh_T := fh_m2 191 rfl rfl
set_option maxRecDepth 8000 in
theorem w432 : (Cond.code ({ cls := "java/lang/Math", name := "max", desc := "(II)I" } : MethodName) prog_20_method_65_code (2 : Nat) (Option.some FieldType.int)) ∈ fh_T := fh_m2 192 rfl rfl
set_option maxRecDepth 8000 in
theorem w433 : (Cond.methodLink "java/lang/StringLatin1" (38 : Nat) ({ cls := "java/lang/Math", name := "min", desc := "(II)I" } : MethodName)) ∈ fh_T := fh_m2 193 rfl rfl
set_option maxRecDepth 8000 in
theorem w434 : (Cond.methodLink "java/lang/StringLatin1" (95 : Nat) ({ cls := "java/lang/StringLatin1", name := "indexOfChar", desc := "([BIII)I" } : MethodName)) ∈ fh_T := fh_m2 194 rfl rfl
set_option maxRecDepth 8000 in
theorem w435 : (Cond.static ({ cls := "java/lang/StringLatin1", name := "indexOfChar", desc := "([BIII)I" } : MethodName)) ∈ fh_T := fh_m2 195 rfl rfl
set_option maxRecDepth 8000 in
theorem w436 : (Cond.code ({ cls := "java/lang/StringLatin1", name := "indexOfChar", desc := "([BIII)I" } : MethodName) prog_23_method_23_code (6 : Nat) (Option.some FieldType.int)) ∈ fh_T := fh_m2 196 rfl rfl
set_option maxRecDepth 8000 in
theorem w437 : (Cond.methodLink "java/lang/String" (640 : Nat) ({ cls := "java/lang/StringUTF16", name := "indexOf", desc := "([BIII)I" } : MethodName)) ∈ fh_T := fh_m2 197 rfl rfl
set_option maxRecDepth 8000 in
theorem w438 : (Cond.static ({ cls := "java/lang/StringUTF16", name := "indexOf", desc := "([BIII)I" } : MethodName)) ∈ fh_T := fh_m2 198 rfl rfl
set_option maxRecDepth 8000 in
theorem w439 : (Cond.code ({ cls := "java/lang/StringUTF16", name := "indexOf", desc := "([BIII)I" } : MethodName) prog_24_method_40_code (4 : Nat) (Option.some FieldType.int)) ∈ fh_T := fh_m2 199 rfl rfl
set_option maxRecDepth 8000 in
theorem w440 : (Cond.methodLink "java/lang/StringUTF16" (224 : Nat) ({ cls := "java/lang/Math", name := "max", desc := "(II)I" } : MethodName)) ∈ fh_T := fh_m2 200 rfl rfl
set_option maxRecDepth 8000 in
theorem w441 : (Cond.methodLink "java/lang/StringUTF16" (183 : Nat) ({ cls := "java/lang/Math", name := "min", desc := "(II)I" } : MethodName)) ∈ fh_T := fh_m2 201 rfl rfl
set_option maxRecDepth 8000 in
theorem w442 : (Cond.constant "java/lang/StringUTF16" (227 : Nat) (65536 : Int32)) ∈ fh_T := fh_m2 202 rfl rfl
set_option maxRecDepth 8000 in
theorem w443 : (Cond.methodLink "java/lang/StringUTF16" (228 : Nat) ({ cls := "java/lang/StringUTF16", name := "indexOfChar", desc := "([BIII)I" } : MethodName)) ∈ fh_T := fh_m2 203 rfl rfl
set_option maxRecDepth 8000 in
theorem w444 : (Cond.static ({ cls := "java/lang/StringUTF16", name := "indexOfChar", desc := "([BIII)I" } : MethodName)) ∈ fh_T := fh_m2 204 rfl rfl
set_option maxRecDepth 8000 in
theorem w445 : (Cond.code ({ cls := "java/lang/StringUTF16", name := "indexOfChar", desc := "([BIII)I" } : MethodName) prog_24_method_47_code (4 : Nat) (Option.some FieldType.int)) ∈ fh_T := fh_m2 205 rfl rfl
set_option maxRecDepth 8000 in
theorem w446 : (Cond.methodLink "java/lang/StringUTF16" (96 : Nat) ({ cls := "java/lang/StringUTF16", name := "checkBoundsBeginEnd", desc := "(II[B)V" } : MethodName)) ∈ fh_T := fh_m2 206 rfl rfl
set_option maxRecDepth 8000 in
theorem w447 : (Cond.static ({ cls := "java/lang/StringUTF16", name := "checkBoundsBeginEnd", desc := "(II[B)V" } : MethodName)) ∈ fh_T := fh_m2 207 rfl rfl
set_option maxRecDepth 8000 in
theorem w448 : (Cond.code ({ cls := "java/lang/StringUTF16", name := "checkBoundsBeginEnd", desc := "(II[B)V" } : MethodName) prog_24_method_93_code (3 : Nat) (Option.none : Option FieldType)) ∈ fh_T := fh_m2 208 rfl rfl
set_option maxRecDepth 8000 in
theorem w449 : (Cond.methodLink "java/lang/StringUTF16" (241 : Nat) ({ cls := "java/lang/String", name := "checkBoundsBeginEnd", desc := "(III)V" } : MethodName)) ∈ fh_T := fh_m2 209 rfl rfl
set_option maxRecDepth 8000 in
theorem w450 : (Cond.static ({ cls := "java/lang/String", name := "checkBoundsBeginEnd", desc := "(III)V" } : MethodName)) ∈ fh_T := fh_m2 210 rfl rfl
set_option maxRecDepth 8000 in
theorem w451 : (Cond.code ({ cls := "java/lang/String", name := "checkBoundsBeginEnd", desc := "(III)V" } : MethodName) prog_22_method_158_code (3 : Nat) (Option.none : Option FieldType)) ∈ fh_T := fh_m2 211 rfl rfl
set_option maxRecDepth 8000 in
theorem w452 : (Cond.methodLink "java/lang/String" (1062 : Nat) ({ cls := "jdk/internal/util/Preconditions", name := "checkFromToIndex", desc := "(IIILjava/util/function/BiFunction;)I" } : MethodName)) ∈ fh_T := fh_m2 212 rfl rfl
set_option maxRecDepth 8000 in
theorem w453 : (Cond.static ({ cls := "jdk/internal/util/Preconditions", name := "checkFromToIndex", desc := "(IIILjava/util/function/BiFunction;)I" } : MethodName)) ∈ fh_T := fh_m2 213 rfl rfl
set_option maxRecDepth 8000 in
theorem w454 : (Cond.code ({ cls := "jdk/internal/util/Preconditions", name := "checkFromToIndex", desc := "(IIILjava/util/function/BiFunction;)I" } : MethodName) prog_27_method_12_code (4 : Nat) (Option.some FieldType.int)) ∈ fh_T := fh_m2 214 rfl rfl
set_option maxRecDepth 8000 in
theorem w455 : (Cond.methodLink "java/lang/StringUTF16" (244 : Nat) ({ cls := "java/lang/StringUTF16", name := "indexOfCharUnsafe", desc := "([BIII)I" } : MethodName)) ∈ fh_T := fh_m2 215 rfl rfl
set_option maxRecDepth 8000 in
theorem w456 : (Cond.static ({ cls := "java/lang/StringUTF16", name := "indexOfCharUnsafe", desc := "([BIII)I" } : MethodName)) ∈ fh_T := fh_m2 216 rfl rfl
set_option maxRecDepth 8000 in
theorem w457 : (Cond.code ({ cls := "java/lang/StringUTF16", name := "indexOfCharUnsafe", desc := "([BIII)I" } : MethodName) prog_24_method_48_code (5 : Nat) (Option.some FieldType.int)) ∈ fh_T := fh_m2 217 rfl rfl
set_option maxRecDepth 8000 in
theorem w458 : (Cond.methodLink "java/lang/StringUTF16" (232 : Nat) ({ cls := "java/lang/StringUTF16", name := "indexOfSupplementary", desc := "([BIII)I" } : MethodName)) ∈ fh_T := fh_m2 218 rfl rfl
set_option maxRecDepth 8000 in
theorem w459 : (Cond.static ({ cls := "java/lang/StringUTF16", name := "indexOfSupplementary", desc := "([BIII)I" } : MethodName)) ∈ fh_T := fh_m2 219 rfl rfl
set_option maxRecDepth 8000 in
theorem w460 : (Cond.code ({ cls := "java/lang/StringUTF16", name := "indexOfSupplementary", desc := "([BIII)I" } : MethodName) prog_24_method_49_code (7 : Nat) (Option.some FieldType.int)) ∈ fh_T := fh_m2 220 rfl rfl
set_option maxRecDepth 8000 in
theorem w461 : (Cond.methodLink "java/lang/StringUTF16" (164 : Nat) ({ cls := "java/lang/Character", name := "isValidCodePoint", desc := "(I)Z" } : MethodName)) ∈ fh_T := fh_m2 221 rfl rfl
set_option maxRecDepth 8000 in
theorem w462 : (Cond.static ({ cls := "java/lang/Character", name := "isValidCodePoint", desc := "(I)Z" } : MethodName)) ∈ fh_T := fh_m2 222 rfl rfl
set_option maxRecDepth 8000 in
theorem w463 : (Cond.code ({ cls := "java/lang/Character", name := "isValidCodePoint", desc := "(I)Z" } : MethodName) prog_15_method_11_code (2 : Nat) (Option.some FieldType.boolean)) ∈ fh_T := fh_m2 223 rfl rfl
set_option maxRecDepth 8000 in
theorem w464 : (Cond.methodLink "java/lang/StringUTF16" (157 : Nat) ({ cls := "java/lang/Character", name := "highSurrogate", desc := "(I)C" } : MethodName)) ∈ fh_T := fh_m2 224 rfl rfl
set_option maxRecDepth 8000 in
theorem w465 : (Cond.static ({ cls := "java/lang/Character", name := "highSurrogate", desc := "(I)C" } : MethodName)) ∈ fh_T := fh_m2 225 rfl rfl
set_option maxRecDepth 8000 in
theorem w466 : (Cond.code ({ cls := "java/lang/Character", name := "highSurrogate", desc := "(I)C" } : MethodName) prog_15_method_28_code (1 : Nat) (Option.some FieldType.char)) ∈ fh_T := fh_m2 226 rfl rfl
set_option maxRecDepth 8000 in
theorem w467 : (Cond.constant "java/lang/Character" (110 : Nat) (55232 : Int32)) ∈ fh_T := fh_m2 227 rfl rfl
set_option maxRecDepth 8000 in
theorem w468 : (Cond.methodLink "java/lang/StringUTF16" (161 : Nat) ({ cls := "java/lang/Character", name := "lowSurrogate", desc := "(I)C" } : MethodName)) ∈ fh_T := fh_m2 228 rfl rfl
set_option maxRecDepth 8000 in
theorem w469 : (Cond.static ({ cls := "java/lang/Character", name := "lowSurrogate", desc := "(I)C" } : MethodName)) ∈ fh_T := fh_m2 229 rfl rfl
set_option maxRecDepth 8000 in
theorem w470 : (Cond.code ({ cls := "java/lang/Character", name := "lowSurrogate", desc := "(I)C" } : MethodName) prog_15_method_29_code (1 : Nat) (Option.some FieldType.char)) ∈ fh_T := fh_m2 230 rfl rfl
set_option maxRecDepth 8000 in
theorem w471 : (Cond.constant "java/lang/Character" (76 : Nat) (56320 : Int32)) ∈ fh_T := fh_m2 231 rfl rfl
set_option maxRecDepth 8000 in
theorem w472 : (Cond.fieldLink "FormulaSetter$Atom" (3 : Nat) "FormulaSetter$Atom" "ORD" "LFormulaSetter$Atom;") ∈ fh_T := fh_m2 232 rfl rfl
set_option maxRecDepth 8000 in
theorem w475 : (Cond.fieldLink "FormulaSetter$Atom" (10 : Nat) "FormulaSetter$Atom" "BIN" "LFormulaSetter$Atom;") ∈ fh_T := fh_m2 235 rfl rfl
set_option maxRecDepth 8000 in
theorem w478 : (Cond.fieldLink "FormulaSetter$Atom" (13 : Nat) "FormulaSetter$Atom" "REL" "LFormulaSetter$Atom;") ∈ fh_T := fh_m2 238 rfl rfl
set_option maxRecDepth 8000 in
theorem w481 : (Cond.fieldLink "FormulaSetter$Atom" (16 : Nat) "FormulaSetter$Atom" "OPEN" "LFormulaSetter$Atom;") ∈ fh_T := fh_m3 1 rfl rfl
set_option maxRecDepth 8000 in
theorem w484 : (Cond.fieldLink "FormulaSetter$Atom" (19 : Nat) "FormulaSetter$Atom" "CLOSE" "LFormulaSetter$Atom;") ∈ fh_T := fh_m3 4 rfl rfl
set_option maxRecDepth 8000 in
theorem w487 : (Cond.fieldLink "FormulaSetter$Atom" (22 : Nat) "FormulaSetter$Atom" "PUNCT" "LFormulaSetter$Atom;") ∈ fh_T := fh_m3 7 rfl rfl
set_option maxRecDepth 8000 in
theorem w489 : (Cond.methodLink "FormulaSetter$Reader" (141 : Nat) ({ cls := "FormulaSetter$Kind", name := "atom", desc := "()LFormulaSetter$Atom;" } : MethodName)) ∈ fh_T := fh_m3 9 rfl rfl
set_option maxRecDepth 8000 in
theorem w490 : (Cond.instanceMethod ({ cls := "FormulaSetter$Kind", name := "atom", desc := "()LFormulaSetter$Atom;" } : MethodName)) ∈ fh_T := fh_m3 10 rfl rfl
set_option maxRecDepth 8000 in
theorem w491 : (Cond.selects "FormulaSetter$Kind" ({ cls := "FormulaSetter$Kind", name := "atom", desc := "()LFormulaSetter$Atom;" } : MethodName) ({ cls := "FormulaSetter$Kind", name := "atom", desc := "()LFormulaSetter$Atom;" } : MethodName)) ∈ fh_T := fh_m3 11 rfl rfl
set_option maxRecDepth 8000 in
theorem w492 : (Cond.code ({ cls := "FormulaSetter$Kind", name := "atom", desc := "()LFormulaSetter$Atom;" } : MethodName) prog_6_method_4_code (1 : Nat) (Option.some (FieldType.object "FormulaSetter$Atom"))) ∈ fh_T := fh_m3 12 rfl rfl
set_option maxRecDepth 8000 in
theorem w493 : (Cond.fieldLink "FormulaSetter$Kind" (64 : Nat) "FormulaSetter$Atom" "OP" "LFormulaSetter$Atom;") ∈ fh_T := fh_m3 13 rfl rfl
set_option maxRecDepth 8000 in
theorem w495 : (Cond.fieldLink "FormulaSetter$Kind" (19 : Nat) "FormulaSetter$Kind" "FRAC" "LFormulaSetter$Kind;") ∈ fh_T := fh_m3 15 rfl rfl
set_option maxRecDepth 8000 in
theorem w497 : (Cond.fieldLink "FormulaSetter$Kind" (31 : Nat) "FormulaSetter$Kind" "LEFT" "LFormulaSetter$Kind;") ∈ fh_T := fh_m3 17 rfl rfl
set_option maxRecDepth 8000 in
theorem w499 : (Cond.fieldLink "FormulaSetter$Kind" (34 : Nat) "FormulaSetter$Kind" "MAT" "LFormulaSetter$Kind;") ∈ fh_T := fh_m3 19 rfl rfl
set_option maxRecDepth 8000 in
theorem w501 : (Cond.fieldLink "FormulaSetter$Kind" (70 : Nat) "FormulaSetter$Atom" "INNER" "LFormulaSetter$Atom;") ∈ fh_T := fh_m3 21 rfl rfl
set_option maxRecDepth 8000 in
theorem w503 : (Cond.fieldLink "FormulaSetter$Kind" (73 : Nat) "FormulaSetter$Atom" "ORD" "LFormulaSetter$Atom;") ∈ fh_T := fh_m3 23 rfl rfl
set_option maxRecDepth 8000 in
theorem w504 : (Cond.methodLink "FormulaSetter$Reader" (109 : Nat) ({ cls := "FormulaSetter$Reader", name := "readParts", desc := "(LFormulaSetter$Nucleus;I)Z" } : MethodName)) ∈ fh_T := fh_m3 24 rfl rfl
set_option maxRecDepth 8000 in
theorem w506 : (Cond.instanceMethod ({ cls := "FormulaSetter$Reader", name := "readParts", desc := "(LFormulaSetter$Nucleus;I)Z" } : MethodName)) ∈ fh_T := fh_m3 26 rfl rfl
set_option maxRecDepth 8000 in
theorem w507 : (Cond.code ({ cls := "FormulaSetter$Reader", name := "readParts", desc := "(LFormulaSetter$Nucleus;I)Z" } : MethodName) prog_9_method_8_code (3 : Nat) (Option.some FieldType.boolean)) ∈ fh_T := fh_m3 27 rfl rfl
set_option maxRecDepth 8000 in
theorem w508 : (Cond.fieldLink "FormulaSetter$Reader" (147 : Nat) "FormulaSetter$1" "$SwitchMap$FormulaSetter$Kind" "[I") ∈ fh_T := fh_m3 28 rfl rfl
set_option maxRecDepth 8000 in
theorem w510 : (Cond.methodLink "FormulaSetter$Reader" (153 : Nat) ({ cls := "FormulaSetter$Kind", name := "ordinal", desc := "()I" } : MethodName)) ∈ fh_T := fh_m3 30 rfl rfl
set_option maxRecDepth 8000 in
theorem w511 : (Cond.sameMethod "FormulaSetter$Kind" "java/lang/Enum" "ordinal" "()I") ∈ fh_T := fh_m3 31 rfl rfl
set_option maxRecDepth 8000 in
theorem w513 : (Cond.selects "FormulaSetter$Kind" ({ cls := "FormulaSetter$Kind", name := "ordinal", desc := "()I" } : MethodName) ({ cls := "java/lang/Enum", name := "ordinal", desc := "()I" } : MethodName)) ∈ fh_T := fh_m3 33 rfl rfl
set_option maxRecDepth 8000 in
theorem w514 : (Cond.instanceMethod ({ cls := "java/lang/Enum", name := "ordinal", desc := "()I" } : MethodName)) ∈ fh_T := fh_m3 34 rfl rfl
set_option maxRecDepth 8000 in
theorem w515 : (Cond.code ({ cls := "java/lang/Enum", name := "ordinal", desc := "()I" } : MethodName) prog_16_method_2_code (1 : Nat) (Option.some FieldType.int)) ∈ fh_T := fh_m3 35 rfl rfl
set_option maxRecDepth 8000 in
theorem w516 : (Cond.methodLink "FormulaSetter$Reader" (91 : Nat) ({ cls := "FormulaSetter$Reader", name := "take", desc := "(C)Z" } : MethodName)) ∈ fh_T := fh_m3 36 rfl rfl
set_option maxRecDepth 8000 in
theorem w518 : (Cond.instanceMethod ({ cls := "FormulaSetter$Reader", name := "take", desc := "(C)Z" } : MethodName)) ∈ fh_T := fh_m3 38 rfl rfl
set_option maxRecDepth 8000 in
theorem w519 : (Cond.code ({ cls := "FormulaSetter$Reader", name := "take", desc := "(C)Z" } : MethodName) prog_9_method_14_code (2 : Nat) (Option.some FieldType.boolean)) ∈ fh_T := fh_m3 39 rfl rfl
set_option maxRecDepth 8000 in
theorem w520 : (Cond.methodLink "FormulaSetter$Reader" (165 : Nat) ({ cls := "FormulaSetter$Reader", name := "readSides", desc := "(LFormulaSetter$Nucleus;I)Z" } : MethodName)) ∈ fh_T := fh_m3 40 rfl rfl
set_option maxRecDepth 8000 in
theorem w522 : (Cond.instanceMethod ({ cls := "FormulaSetter$Reader", name := "readSides", desc := "(LFormulaSetter$Nucleus;I)Z" } : MethodName)) ∈ fh_T := fh_m3 42 rfl rfl
set_option maxRecDepth 8000 in
theorem w523 : (Cond.code ({ cls := "FormulaSetter$Reader", name := "readSides", desc := "(LFormulaSetter$Nucleus;I)Z" } : MethodName) prog_9_method_9_code (3 : Nat) (Option.some FieldType.boolean)) ∈ fh_T := fh_m3 43 rfl rfl
set_option maxRecDepth 8000 in
theorem w524 : (Cond.methodLink "FormulaSetter$Reader" (171 : Nat) ({ cls := "FormulaSetter$Reader", name := "takeSide", desc := "()C" } : MethodName)) ∈ fh_T := fh_m3 44 rfl rfl
set_option maxRecDepth 8000 in
theorem w526 : (Cond.instanceMethod ({ cls := "FormulaSetter$Reader", name := "takeSide", desc := "()C" } : MethodName)) ∈ fh_T := fh_m3 46 rfl rfl
set_option maxRecDepth 8000 in
theorem w527 : (Cond.code ({ cls := "FormulaSetter$Reader", name := "takeSide", desc := "()C" } : MethodName) prog_9_method_15_code (2 : Nat) (Option.some FieldType.char)) ∈ fh_T := fh_m3 47 rfl rfl
set_option maxRecDepth 8000 in
theorem w529 : (Cond.methodLink "FormulaSetter$Reader" (195 : Nat) ({ cls := "java/lang/String", name := "indexOf", desc := "(I)I" } : MethodName)) ∈ fh_T := fh_m3 49 rfl rfl
set_option maxRecDepth 8000 in
theorem w530 : (Cond.methodLink "FormulaSetter$Reader" (168 : Nat) ({ cls := "FormulaSetter$Reader", name := "readCells", desc := "(LFormulaSetter$Nucleus;I)Z" } : MethodName)) ∈ fh_T := fh_m3 50 rfl rfl
set_option maxRecDepth 8000 in
theorem w532 : (Cond.instanceMethod ({ cls := "FormulaSetter$Reader", name := "readCells", desc := "(LFormulaSetter$Nucleus;I)Z" } : MethodName)) ∈ fh_T := fh_m3 52 rfl rfl
set_option maxRecDepth 8000 in
theorem w533 : (Cond.code ({ cls := "FormulaSetter$Reader", name := "readCells", desc := "(LFormulaSetter$Nucleus;I)Z" } : MethodName) prog_9_method_10_code (8 : Nat) (Option.some FieldType.boolean)) ∈ fh_T := fh_m3 53 rfl rfl
set_option maxRecDepth 8000 in
theorem w534 : (Cond.methodLink "FormulaSetter$Reader" (64 : Nat) ({ cls := "FormulaSetter$Reader", name := "readScripts", desc := "(LFormulaSetter$Nucleus;I)Z" } : MethodName)) ∈ fh_T := fh_m3 54 rfl rfl
set_option maxRecDepth 8000 in
theorem w536 : (Cond.instanceMethod ({ cls := "FormulaSetter$Reader", name := "readScripts", desc := "(LFormulaSetter$Nucleus;I)Z" } : MethodName)) ∈ fh_T := fh_m3 56 rfl rfl
set_option maxRecDepth 8000 in
theorem w537 : (Cond.code ({ cls := "FormulaSetter$Reader", name := "readScripts", desc := "(LFormulaSetter$Nucleus;I)Z" } : MethodName) prog_9_method_5_code (6 : Nat) (Option.some FieldType.boolean)) ∈ fh_T := fh_m3 57 rfl rfl
set_option maxRecDepth 8000 in
theorem w538 : (Cond.methodLink "FormulaSetter$Reader" (75 : Nat) ({ cls := "FormulaSetter$Line", name := "settleAtoms", desc := "()V" } : MethodName)) ∈ fh_T := fh_m3 58 rfl rfl
set_option maxRecDepth 8000 in
theorem w539 : (Cond.instanceMethod ({ cls := "FormulaSetter$Line", name := "settleAtoms", desc := "()V" } : MethodName)) ∈ fh_T := fh_m3 59 rfl rfl
set_option maxRecDepth 8000 in
theorem w540 : (Cond.selects "FormulaSetter$Line" ({ cls := "FormulaSetter$Line", name := "settleAtoms", desc := "()V" } : MethodName) ({ cls := "FormulaSetter$Line", name := "settleAtoms", desc := "()V" } : MethodName)) ∈ fh_T := fh_m3 60 rfl rfl
set_option maxRecDepth 8000 in
theorem w541 : (Cond.code ({ cls := "FormulaSetter$Line", name := "settleAtoms", desc := "()V" } : MethodName) prog_7_method_3_code (3 : Nat) (Option.none : Option FieldType)) ∈ fh_T := fh_m3 61 rfl rfl
set_option maxRecDepth 8000 in
theorem w542 : (Cond.fieldLink "FormulaSetter$Line" (30 : Nat) "FormulaSetter$Atom" "BIN" "LFormulaSetter$Atom;") ∈ fh_T := fh_m3 62 rfl rfl
set_option maxRecDepth 8000 in
theorem w543 : (Cond.fieldLink "FormulaSetter$Line" (39 : Nat) "FormulaSetter$Atom" "ORD" "LFormulaSetter$Atom;") ∈ fh_T := fh_m3 63 rfl rfl
set_option maxRecDepth 8000 in
theorem w544 : (Cond.arrayClass FieldType.byte) ∈ fh_T := fh_m3 64 rfl rfl
set_option maxRecDepth 8000 in
theorem w545 : (Cond.methodLink "FormulaSetterLaw" (51 : Nat) ({ cls := "FormulaSetter", name := "pieces", desc := "()I" } : MethodName)) ∈ fh_T := fh_m3 65 rfl rfl
set_option maxRecDepth 8000 in
theorem w546 : (Cond.instanceMethod ({ cls := "FormulaSetter", name := "pieces", desc := "()I" } : MethodName)) ∈ fh_T := fh_m3 66 rfl rfl
set_option maxRecDepth 8000 in
theorem w547 : (Cond.selects "FormulaSetter" ({ cls := "FormulaSetter", name := "pieces", desc := "()I" } : MethodName) ({ cls := "FormulaSetter", name := "pieces", desc := "()I" } : MethodName)) ∈ fh_T := fh_m3 67 rfl rfl
set_option maxRecDepth 8000 in
theorem w548 : (Cond.code ({ cls := "FormulaSetter", name := "pieces", desc := "()I" } : MethodName) prog_1_method_6_code (1 : Nat) (Option.some FieldType.int)) ∈ fh_T := fh_m3 68 rfl rfl
set_option maxRecDepth 8000 in
theorem w549 : (Cond.methodLink "FormulaSetterLaw" (59 : Nat) ({ cls := "FormulaSetter", name := "width", desc := "()I" } : MethodName)) ∈ fh_T := fh_m3 69 rfl rfl
set_option maxRecDepth 8000 in
theorem w550 : (Cond.instanceMethod ({ cls := "FormulaSetter", name := "width", desc := "()I" } : MethodName)) ∈ fh_T := fh_m3 70 rfl rfl
set_option maxRecDepth 8000 in
theorem w551 : (Cond.selects "FormulaSetter" ({ cls := "FormulaSetter", name := "width", desc := "()I" } : MethodName) ({ cls := "FormulaSetter", name := "width", desc := "()I" } : MethodName)) ∈ fh_T := fh_m3 71 rfl rfl
set_option maxRecDepth 8000 in
theorem w552 : (Cond.code ({ cls := "FormulaSetter", name := "width", desc := "()I" } : MethodName) prog_1_method_8_code (1 : Nat) (Option.some FieldType.int)) ∈ fh_T := fh_m3 72 rfl rfl
set_option maxRecDepth 8000 in
theorem w553 : (Cond.methodLink "FormulaSetterLaw" (63 : Nat) ({ cls := "FormulaSetter", name := "height", desc := "()I" } : MethodName)) ∈ fh_T := fh_m3 73 rfl rfl
set_option maxRecDepth 8000 in
theorem w554 : (Cond.instanceMethod ({ cls := "FormulaSetter", name := "height", desc := "()I" } : MethodName)) ∈ fh_T := fh_m3 74 rfl rfl
set_option maxRecDepth 8000 in
theorem w555 : (Cond.selects "FormulaSetter" ({ cls := "FormulaSetter", name := "height", desc := "()I" } : MethodName) ({ cls := "FormulaSetter", name := "height", desc := "()I" } : MethodName)) ∈ fh_T := fh_m3 75 rfl rfl
set_option maxRecDepth 8000 in
theorem w556 : (Cond.code ({ cls := "FormulaSetter", name := "height", desc := "()I" } : MethodName) prog_1_method_9_code (1 : Nat) (Option.some FieldType.int)) ∈ fh_T := fh_m3 76 rfl rfl
set_option maxRecDepth 8000 in
theorem w557 : (Cond.methodLink "FormulaSetterLaw" (67 : Nat) ({ cls := "FormulaSetter", name := "depth", desc := "()I" } : MethodName)) ∈ fh_T := fh_m3 77 rfl rfl
set_option maxRecDepth 8000 in
theorem w558 : (Cond.instanceMethod ({ cls := "FormulaSetter", name := "depth", desc := "()I" } : MethodName)) ∈ fh_T := fh_m3 78 rfl rfl
set_option maxRecDepth 8000 in
theorem w559 : (Cond.selects "FormulaSetter" ({ cls := "FormulaSetter", name := "depth", desc := "()I" } : MethodName) ({ cls := "FormulaSetter", name := "depth", desc := "()I" } : MethodName)) ∈ fh_T := fh_m3 79 rfl rfl
set_option maxRecDepth 8000 in
theorem w560 : (Cond.code ({ cls := "FormulaSetter", name := "depth", desc := "()I" } : MethodName) prog_1_method_10_code (1 : Nat) (Option.some FieldType.int)) ∈ fh_T := fh_m3 80 rfl rfl
set_option maxRecDepth 8000 in
theorem w561 : (Cond.methodLink "FormulaSetterLaw" (37 : Nat) ({ cls := "FormulaSetterLaw", name := "set", desc := "(LFormulaSetter;I[J)I" } : MethodName)) ∈ fh_T := fh_m3 81 rfl rfl
set_option maxRecDepth 8000 in
theorem w562 : (Cond.static ({ cls := "FormulaSetterLaw", name := "set", desc := "(LFormulaSetter;I[J)I" } : MethodName)) ∈ fh_T := fh_m3 82 rfl rfl
set_option maxRecDepth 8000 in
theorem w563 : (Cond.codeWith ({ cls := "FormulaSetterLaw", name := "set", desc := "(LFormulaSetter;I[J)I" } : MethodName) method_3_code (4 : Nat) (Option.some FieldType.int) [((0 : Nat), (9 : Nat), (12 : Nat), (13 : Nat))]) ∈ fh_T := fh_m3 83 rfl rfl
set_option maxRecDepth 8000 in
theorem w564 : (Cond.classLink "FormulaSetterLaw" (13 : Nat) "java/lang/IllegalArgumentException") ∈ fh_T := fh_m3 84 rfl rfl
set_option maxRecDepth 8000 in
theorem w565 : (Cond.methodLink "FormulaSetterLaw" (7 : Nat) ({ cls := "FormulaSetter", name := "set", desc := "(I)I" } : MethodName)) ∈ fh_T := fh_m3 85 rfl rfl
set_option maxRecDepth 8000 in
theorem w566 : (Cond.instanceMethod ({ cls := "FormulaSetter", name := "set", desc := "(I)I" } : MethodName)) ∈ fh_T := fh_m3 86 rfl rfl
set_option maxRecDepth 8000 in
theorem w567 : (Cond.selects "FormulaSetter" ({ cls := "FormulaSetter", name := "set", desc := "(I)I" } : MethodName) ({ cls := "FormulaSetter", name := "set", desc := "(I)I" } : MethodName)) ∈ fh_T := fh_m3 87 rfl rfl
set_option maxRecDepth 8000 in
theorem w568 : (Cond.code ({ cls := "FormulaSetter", name := "set", desc := "(I)I" } : MethodName) prog_1_method_4_code (3 : Nat) (Option.some FieldType.int)) ∈ fh_T := fh_m3 88 rfl rfl
set_option maxRecDepth 8000 in
theorem w569 : (Cond.fieldLink "FormulaSetter" (36 : Nat) "FormulaSetter" "STYLES" "[LFormulaSetter$Style;") ∈ fh_T := fh_m3 89 rfl rfl
set_option maxRecDepth 8000 in
theorem w571 : (Cond.classLink "FormulaSetter" (40 : Nat) "java/lang/IllegalArgumentException") ∈ fh_T := fh_m3 91 rfl rfl
set_option maxRecDepth 8000 in
theorem w572 : (Cond.instantiable "java/lang/IllegalArgumentException" (6 : Nat)) ∈ fh_T := fh_m3 92 rfl rfl
set_option maxRecDepth 8000 in
theorem w580 : (Cond.selects "java/lang/IllegalArgumentException" ({ cls := "java/lang/Throwable", name := "fillInStackTrace", desc := "(I)Ljava/lang/Throwable;" } : MethodName) ({ cls := "java/lang/Throwable", name := "fillInStackTrace", desc := "(I)Ljava/lang/Throwable;" } : MethodName)) ∈ fh_T := fh_m3 100 rfl rfl
set_option maxRecDepth 8000 in
theorem w581 : (Cond.selects "java/lang/IllegalArgumentException" ({ cls := "java/lang/Throwable", name := "fillInStackTrace", desc := "()Ljava/lang/Throwable;" } : MethodName) ({ cls := "java/lang/Throwable", name := "fillInStackTrace", desc := "()Ljava/lang/Throwable;" } : MethodName)) ∈ fh_T := fh_m3 101 rfl rfl
set_option maxRecDepth 8000 in
theorem w582 : (Cond.lays "java/lang/IllegalArgumentException" "java/lang/Throwable" "cause" "Ljava/lang/Throwable;") ∈ fh_T := fh_m3 102 rfl rfl
set_option maxRecDepth 8000 in
theorem w583 : (Cond.lays "java/lang/Throwable" "java/lang/Throwable" "cause" "Ljava/lang/Throwable;") ∈ fh_T := fh_m3 103 rfl rfl
set_option maxRecDepth 8000 in
theorem w584 : (Cond.lays "java/lang/IllegalArgumentException" "java/lang/Throwable" "stackTrace" "[Ljava/lang/StackTraceElement;") ∈ fh_T := fh_m3 104 rfl rfl
set_option maxRecDepth 8000 in
theorem w585 : (Cond.lays "java/lang/Throwable" "java/lang/Throwable" "stackTrace" "[Ljava/lang/StackTraceElement;") ∈ fh_T := fh_m3 105 rfl rfl
set_option maxRecDepth 8000 in
theorem w586 : (Cond.lays "java/lang/IllegalArgumentException" "java/lang/Throwable" "suppressedExceptions" "Ljava/util/List;") ∈ fh_T := fh_m3 106 rfl rfl
set_option maxRecDepth 8000 in
theorem w587 : (Cond.lays "java/lang/Throwable" "java/lang/Throwable" "suppressedExceptions" "Ljava/util/List;") ∈ fh_T := fh_m3 107 rfl rfl
set_option maxRecDepth 8000 in
theorem w588 : (Cond.lays "java/lang/IllegalArgumentException" "java/lang/Throwable" "detailMessage" "Ljava/lang/String;") ∈ fh_T := fh_m3 108 rfl rfl
set_option maxRecDepth 8000 in
theorem w589 : (Cond.lays "java/lang/Throwable" "java/lang/Throwable" "detailMessage" "Ljava/lang/String;") ∈ fh_T := fh_m3 109 rfl rfl
set_option maxRecDepth 8000 in
theorem w590 : (Cond.lays "java/lang/IllegalArgumentException" "java/lang/Throwable" "backtrace" "Ljava/lang/Object;") ∈ fh_T := fh_m3 110 rfl rfl
set_option maxRecDepth 8000 in
theorem w591 : (Cond.lays "java/lang/Throwable" "java/lang/Throwable" "backtrace" "Ljava/lang/Object;") ∈ fh_T := fh_m3 111 rfl rfl
set_option maxRecDepth 8000 in
theorem w592 : (Cond.fieldLink "java/lang/Throwable" (198 : Nat) "java/lang/Throwable" "backtrace" "Ljava/lang/Object;") ∈ fh_T := fh_m3 112 rfl rfl
set_option maxRecDepth 8000 in
theorem w593 : (Cond.superclass "java/lang/Throwable" "java/lang/Object") ∈ fh_T := fh_m3 113 rfl rfl
set_option maxRecDepth 8000 in
theorem w594 : (Cond.instanceMethod ({ cls := "java/lang/Throwable", name := "<init>", desc := "()V" } : MethodName)) ∈ fh_T := fh_m3 114 rfl rfl
set_option maxRecDepth 8000 in
theorem w595 : (Cond.code ({ cls := "java/lang/Throwable", name := "<init>", desc := "()V" } : MethodName) prog_25_method_1_code (1 : Nat) (Option.none : Option FieldType)) ∈ fh_T := fh_m3 115 rfl rfl
set_option maxRecDepth 8000 in
theorem w596 : (Cond.methodLink "java/lang/Throwable" (1 : Nat) ({ cls := "java/lang/Object", name := "<init>", desc := "()V" } : MethodName)) ∈ fh_T := fh_m3 116 rfl rfl
set_option maxRecDepth 8000 in
theorem w597 : (Cond.fieldLink "java/lang/Throwable" (13 : Nat) "java/lang/Throwable" "UNASSIGNED_STACK" "[Ljava/lang/StackTraceElement;") ∈ fh_T := fh_m3 117 rfl rfl
set_option maxRecDepth 8000 in
theorem w599 : (Cond.fieldLink "java/lang/Throwable" (20 : Nat) "java/lang/Throwable" "SUPPRESSED_SENTINEL" "Ljava/util/List;") ∈ fh_T := fh_m3 119 rfl rfl
set_option maxRecDepth 8000 in
theorem w601 : (Cond.methodLink "java/lang/Throwable" (27 : Nat) ({ cls := "java/lang/Throwable", name := "fillInStackTrace", desc := "()Ljava/lang/Throwable;" } : MethodName)) ∈ fh_T := fh_m3 121 rfl rfl
set_option maxRecDepth 8000 in
theorem w602 : (Cond.instanceMethod ({ cls := "java/lang/Throwable", name := "fillInStackTrace", desc := "()Ljava/lang/Throwable;" } : MethodName)) ∈ fh_T := fh_m3 122 rfl rfl
set_option maxRecDepth 8000 in
theorem w603 : (Cond.sameMethod "java/lang/Throwable" "java/lang/Throwable" "fillInStackTrace" "()Ljava/lang/Throwable;") ∈ fh_T := fh_m3 123 rfl rfl
set_option maxRecDepth 8000 in
theorem w604 : (Cond.selects "java/lang/IndexOutOfBoundsException" ({ cls := "java/lang/Throwable", name := "fillInStackTrace", desc := "()Ljava/lang/Throwable;" } : MethodName) ({ cls := "java/lang/Throwable", name := "fillInStackTrace", desc := "()Ljava/lang/Throwable;" } : MethodName)) ∈ fh_T := fh_m3 124 rfl rfl
set_option maxRecDepth 8000 in
theorem w606 : (Cond.methodLink "java/lang/Throwable" (202 : Nat) ({ cls := "java/lang/Throwable", name := "fillInStackTrace", desc := "(I)Ljava/lang/Throwable;" } : MethodName)) ∈ fh_T := fh_m3 126 rfl rfl
set_option maxRecDepth 8000 in
theorem w608 : (Cond.instanceMethod ({ cls := "java/lang/Throwable", name := "fillInStackTrace", desc := "(I)Ljava/lang/Throwable;" } : MethodName)) ∈ fh_T := fh_m3 128 rfl rfl
set_option maxRecDepth 8000 in
theorem w609 : (Cond.instantiable "java/lang/Throwable" (6 : Nat)) ∈ fh_T := fh_m3 129 rfl rfl
set_option maxRecDepth 8000 in
theorem w610 : (Cond.native ({ cls := "java/lang/Throwable", name := "fillInStackTrace", desc := "(I)Ljava/lang/Throwable;" } : MethodName)) ∈ fh_T := fh_m3 130 rfl rfl
set_option maxRecDepth 8000 in
theorem w612 : (Cond.methodLink "FormulaSetter" (44 : Nat) ({ cls := "java/lang/IllegalArgumentException", name := "<init>", desc := "(Ljava/lang/String;)V" } : MethodName)) ∈ fh_T := fh_m3 132 rfl rfl
set_option maxRecDepth 8000 in
theorem w613 : (Cond.instanceMethod ({ cls := "java/lang/IllegalArgumentException", name := "<init>", desc := "(Ljava/lang/String;)V" } : MethodName)) ∈ fh_T := fh_m3 133 rfl rfl
set_option maxRecDepth 8000 in
theorem w614 : (Cond.code ({ cls := "java/lang/IllegalArgumentException", name := "<init>", desc := "(Ljava/lang/String;)V" } : MethodName) prog_18_method_2_code (2 : Nat) (Option.none : Option FieldType)) ∈ fh_T := fh_m3 134 rfl rfl
set_option maxRecDepth 8000 in
theorem w615 : (Cond.methodLink "java/lang/IllegalArgumentException" (7 : Nat) ({ cls := "java/lang/RuntimeException", name := "<init>", desc := "(Ljava/lang/String;)V" } : MethodName)) ∈ fh_T := fh_m3 135 rfl rfl
set_option maxRecDepth 8000 in
theorem w616 : (Cond.instanceMethod ({ cls := "java/lang/RuntimeException", name := "<init>", desc := "(Ljava/lang/String;)V" } : MethodName)) ∈ fh_T := fh_m3 136 rfl rfl
set_option maxRecDepth 8000 in
theorem w617 : (Cond.code ({ cls := "java/lang/RuntimeException", name := "<init>", desc := "(Ljava/lang/String;)V" } : MethodName) prog_21_method_2_code (2 : Nat) (Option.none : Option FieldType)) ∈ fh_T := fh_m3 137 rfl rfl
set_option maxRecDepth 8000 in
theorem w618 : (Cond.methodLink "java/lang/RuntimeException" (7 : Nat) ({ cls := "java/lang/Exception", name := "<init>", desc := "(Ljava/lang/String;)V" } : MethodName)) ∈ fh_T := fh_m3 138 rfl rfl
set_option maxRecDepth 8000 in
theorem w619 : (Cond.instanceMethod ({ cls := "java/lang/Exception", name := "<init>", desc := "(Ljava/lang/String;)V" } : MethodName)) ∈ fh_T := fh_m3 139 rfl rfl
set_option maxRecDepth 8000 in
theorem w620 : (Cond.code ({ cls := "java/lang/Exception", name := "<init>", desc := "(Ljava/lang/String;)V" } : MethodName) prog_17_method_2_code (2 : Nat) (Option.none : Option FieldType)) ∈ fh_T := fh_m3 140 rfl rfl
set_option maxRecDepth 8000 in
theorem w621 : (Cond.methodLink "java/lang/Exception" (7 : Nat) ({ cls := "java/lang/Throwable", name := "<init>", desc := "(Ljava/lang/String;)V" } : MethodName)) ∈ fh_T := fh_m3 141 rfl rfl
set_option maxRecDepth 8000 in
theorem w622 : (Cond.instanceMethod ({ cls := "java/lang/Throwable", name := "<init>", desc := "(Ljava/lang/String;)V" } : MethodName)) ∈ fh_T := fh_m3 142 rfl rfl
set_option maxRecDepth 8000 in
theorem w623 : (Cond.code ({ cls := "java/lang/Throwable", name := "<init>", desc := "(Ljava/lang/String;)V" } : MethodName) prog_25_method_2_code (2 : Nat) (Option.none : Option FieldType)) ∈ fh_T := fh_m3 143 rfl rfl
set_option maxRecDepth 8000 in
theorem w625 : (Cond.fieldLink "java/lang/Throwable" (31 : Nat) "java/lang/Throwable" "detailMessage" "Ljava/lang/String;") ∈ fh_T := fh_m3 145 rfl rfl
set_option maxRecDepth 8000 in
theorem w626 : (Cond.fieldLink "java/lang/Throwable" (7 : Nat) "java/lang/Throwable" "cause" "Ljava/lang/Throwable;") ∈ fh_T := fh_m3 146 rfl rfl
set_option maxRecDepth 8000 in
theorem w627 : (Cond.fieldLink "java/lang/Throwable" (17 : Nat) "java/lang/Throwable" "stackTrace" "[Ljava/lang/StackTraceElement;") ∈ fh_T := fh_m3 147 rfl rfl
set_option maxRecDepth 8000 in
theorem w628 : (Cond.fieldLink "java/lang/Throwable" (24 : Nat) "java/lang/Throwable" "suppressedExceptions" "Ljava/util/List;") ∈ fh_T := fh_m3 148 rfl rfl
set_option maxRecDepth 8000 in
theorem w629 : (Cond.soleField "java/lang/Throwable" "backtrace") ∈ fh_T := fh_m3 149 rfl rfl
set_option maxRecDepth 8000 in
theorem w630 : (Cond.soleField "java/lang/Throwable" "detailMessage") ∈ fh_T := fh_m3 150 rfl rfl
set_option maxRecDepth 8000 in
theorem w631 : (Cond.soleField "java/lang/Throwable" "cause") ∈ fh_T := fh_m3 151 rfl rfl
set_option maxRecDepth 8000 in
theorem w632 : (Cond.soleField "java/lang/Throwable" "stackTrace") ∈ fh_T := fh_m3 152 rfl rfl
set_option maxRecDepth 8000 in
theorem w633 : (Cond.lays "java/lang/IllegalArgumentException" "java/lang/Throwable" "depth" "I") ∈ fh_T := fh_m3 153 rfl rfl
set_option maxRecDepth 8000 in
theorem w634 : (Cond.soleField "java/lang/Throwable" "depth") ∈ fh_T := fh_m3 154 rfl rfl
set_option maxRecDepth 8000 in
theorem w635 : (Cond.soleField "java/lang/Throwable" "suppressedExceptions") ∈ fh_T := fh_m3 155 rfl rfl
set_option maxRecDepth 8000 in
theorem w636 : (Cond.superclass "java/lang/IllegalArgumentException" "java/lang/RuntimeException") ∈ fh_T := fh_m3 156 rfl rfl
set_option maxRecDepth 8000 in
theorem w638 : (Cond.methodLink "FormulaSetter" (53 : Nat) ({ cls := "FormulaSetter$Typesetter", name := "setAll", desc := "(LFormulaSetter$Line;LFormulaSetter$Style;)V" } : MethodName)) ∈ fh_T := fh_m3 158 rfl rfl
set_option maxRecDepth 8000 in
theorem w639 : (Cond.instanceMethod ({ cls := "FormulaSetter$Typesetter", name := "setAll", desc := "(LFormulaSetter$Line;LFormulaSetter$Style;)V" } : MethodName)) ∈ fh_T := fh_m3 159 rfl rfl
set_option maxRecDepth 8000 in
theorem w640 : (Cond.selects "FormulaSetter$Typesetter" ({ cls := "FormulaSetter$Typesetter", name := "setAll", desc := "(LFormulaSetter$Line;LFormulaSetter$Style;)V" } : MethodName) ({ cls := "FormulaSetter$Typesetter", name := "setAll", desc := "(LFormulaSetter$Line;LFormulaSetter$Style;)V" } : MethodName)) ∈ fh_T := fh_m3 160 rfl rfl
set_option maxRecDepth 8000 in
theorem w641 : (Cond.code ({ cls := "FormulaSetter$Typesetter", name := "setAll", desc := "(LFormulaSetter$Line;LFormulaSetter$Style;)V" } : MethodName) prog_12_method_2_code (3 : Nat) (Option.none : Option FieldType)) ∈ fh_T := fh_m3 161 rfl rfl
set_option maxRecDepth 8000 in
theorem w642 : (Cond.methodLink "FormulaSetter$Typesetter" (25 : Nat) ({ cls := "FormulaSetter$Sheet", name := "clear", desc := "()V" } : MethodName)) ∈ fh_T := fh_m3 162 rfl rfl
set_option maxRecDepth 8000 in
theorem w643 : (Cond.instanceMethod ({ cls := "FormulaSetter$Sheet", name := "clear", desc := "()V" } : MethodName)) ∈ fh_T := fh_m3 163 rfl rfl
set_option maxRecDepth 8000 in
theorem w644 : (Cond.selects "FormulaSetter$Sheet" ({ cls := "FormulaSetter$Sheet", name := "clear", desc := "()V" } : MethodName) ({ cls := "FormulaSetter$Sheet", name := "clear", desc := "()V" } : MethodName)) ∈ fh_T := fh_m3 164 rfl rfl
set_option maxRecDepth 8000 in
theorem w645 : (Cond.code ({ cls := "FormulaSetter$Sheet", name := "clear", desc := "()V" } : MethodName) prog_10_method_2_code (1 : Nat) (Option.none : Option FieldType)) ∈ fh_T := fh_m3 165 rfl rfl
set_option maxRecDepth 8000 in
theorem w646 : (Cond.methodLink "FormulaSetter$Typesetter" (28 : Nat) ({ cls := "FormulaSetter$Typesetter", name := "setLine", desc := "(LFormulaSetter$Line;LFormulaSetter$Style;Z)V" } : MethodName)) ∈ fh_T := fh_m3 166 rfl rfl
set_option maxRecDepth 8000 in
theorem w648 : (Cond.instanceMethod ({ cls := "FormulaSetter$Typesetter", name := "setLine", desc := "(LFormulaSetter$Line;LFormulaSetter$Style;Z)V" } : MethodName)) ∈ fh_T := fh_m3 168 rfl rfl
set_option maxRecDepth 8000 in
theorem w649 : (Cond.code ({ cls := "FormulaSetter$Typesetter", name := "setLine", desc := "(LFormulaSetter$Line;LFormulaSetter$Style;Z)V" } : MethodName) prog_12_method_3_code (8 : Nat) (Option.none : Option FieldType)) ∈ fh_T := fh_m3 169 rfl rfl
set_option maxRecDepth 8000 in
theorem w650 : (Cond.methodLink "FormulaSetter$Typesetter" (41 : Nat) ({ cls := "FormulaSetter$Line", name := "measure", desc := "(III)V" } : MethodName)) ∈ fh_T := fh_m3 170 rfl rfl
set_option maxRecDepth 8000 in
theorem w651 : (Cond.sameMethod "FormulaSetter$Line" "FormulaSetter$Box" "measure" "(III)V") ∈ fh_T := fh_m3 171 rfl rfl
set_option maxRecDepth 8000 in
theorem w653 : (Cond.selects "FormulaSetter$Line" ({ cls := "FormulaSetter$Line", name := "measure", desc := "(III)V" } : MethodName) ({ cls := "FormulaSetter$Box", name := "measure", desc := "(III)V" } : MethodName)) ∈ fh_T := fh_m3 173 rfl rfl
set_option maxRecDepth 8000 in
theorem w654 : (Cond.instanceMethod ({ cls := "FormulaSetter$Box", name := "measure", desc := "(III)V" } : MethodName)) ∈ fh_T := fh_m3 174 rfl rfl
set_option maxRecDepth 8000 in
theorem w655 : (Cond.code ({ cls := "FormulaSetter$Box", name := "measure", desc := "(III)V" } : MethodName) prog_4_method_2_code (4 : Nat) (Option.none : Option FieldType)) ∈ fh_T := fh_m3 175 rfl rfl
set_option maxRecDepth 8000 in
theorem w656 : (Cond.methodLink "FormulaSetter$Typesetter" (49 : Nat) ({ cls := "FormulaSetter$Typesetter", name := "setItem", desc := "(LFormulaSetter$Nucleus;LFormulaSetter$Style;Z)V" } : MethodName)) ∈ fh_T := fh_m3 176 rfl rfl
set_option maxRecDepth 8000 in
theorem w658 : (Cond.instanceMethod ({ cls := "FormulaSetter$Typesetter", name := "setItem", desc := "(LFormulaSetter$Nucleus;LFormulaSetter$Style;Z)V" } : MethodName)) ∈ fh_T := fh_m3 178 rfl rfl
set_option maxRecDepth 8000 in
theorem w659 : (Cond.code ({ cls := "FormulaSetter$Typesetter", name := "setItem", desc := "(LFormulaSetter$Nucleus;LFormulaSetter$Style;Z)V" } : MethodName) prog_12_method_4_code (4 : Nat) (Option.none : Option FieldType)) ∈ fh_T := fh_m3 179 rfl rfl
set_option maxRecDepth 8000 in
theorem w660 : (Cond.methodLink "FormulaSetter$Typesetter" (93 : Nat) ({ cls := "FormulaSetter$Typesetter", name := "setNucleus", desc := "(LFormulaSetter$Nucleus;LFormulaSetter$Style;Z)V" } : MethodName)) ∈ fh_T := fh_m3 180 rfl rfl
set_option maxRecDepth 8000 in
theorem w662 : (Cond.instanceMethod ({ cls := "FormulaSetter$Typesetter", name := "setNucleus", desc := "(LFormulaSetter$Nucleus;LFormulaSetter$Style;Z)V" } : MethodName)) ∈ fh_T := fh_m3 182 rfl rfl
set_option maxRecDepth 8000 in
theorem w663 : (Cond.code ({ cls := "FormulaSetter$Typesetter", name := "setNucleus", desc := "(LFormulaSetter$Nucleus;LFormulaSetter$Style;Z)V" } : MethodName) prog_12_method_9_code (4 : Nat) (Option.none : Option FieldType)) ∈ fh_T := fh_m3 183 rfl rfl
set_option maxRecDepth 8000 in
theorem w664 : (Cond.fieldLink "FormulaSetter$Typesetter" (147 : Nat) "FormulaSetter$1" "$SwitchMap$FormulaSetter$Kind" "[I") ∈ fh_T := fh_m3 184 rfl rfl
set_option maxRecDepth 8000 in
theorem w665 : (Cond.methodLink "FormulaSetter$Typesetter" (153 : Nat) ({ cls := "FormulaSetter$Kind", name := "ordinal", desc := "()I" } : MethodName)) ∈ fh_T := fh_m3 185 rfl rfl
set_option maxRecDepth 8000 in
theorem w666 : (Cond.methodLink "FormulaSetter$Typesetter" (157 : Nat) ({ cls := "FormulaSetter$Typesetter", name := "setCharacter", desc := "(LFormulaSetter$Nucleus;LFormulaSetter$Style;)V" } : MethodName)) ∈ fh_T := fh_m3 186 rfl rfl
set_option maxRecDepth 8000 in
theorem w668 : (Cond.instanceMethod ({ cls := "FormulaSetter$Typesetter", name := "setCharacter", desc := "(LFormulaSetter$Nucleus;LFormulaSetter$Style;)V" } : MethodName)) ∈ fh_T := fh_m3 188 rfl rfl
set_option maxRecDepth 8000 in
theorem w669 : (Cond.code ({ cls := "FormulaSetter$Typesetter", name := "setCharacter", desc := "(LFormulaSetter$Nucleus;LFormulaSetter$Style;)V" } : MethodName) prog_12_method_10_code (5 : Nat) (Option.none : Option FieldType)) ∈ fh_T := fh_m3 189 rfl rfl
set_option maxRecDepth 8000 in
theorem w670 : (Cond.methodLink "FormulaSetter$Typesetter" (198 : Nat) ({ cls := "FormulaSetter$Typesetter", name := "addSign", desc := "(IIII)V" } : MethodName)) ∈ fh_T := fh_m3 190 rfl rfl
set_option maxRecDepth 8000 in
theorem w672 : (Cond.instanceMethod ({ cls := "FormulaSetter$Typesetter", name := "addSign", desc := "(IIII)V" } : MethodName)) ∈ fh_T := fh_m3 192 rfl rfl
set_option maxRecDepth 8000 in
theorem w673 : (Cond.code ({ cls := "FormulaSetter$Typesetter", name := "addSign", desc := "(IIII)V" } : MethodName) prog_12_method_19_code (5 : Nat) (Option.none : Option FieldType)) ∈ fh_T := fh_m3 193 rfl rfl
set_option maxRecDepth 8000 in
theorem w674 : (Cond.methodLink "FormulaSetter$Typesetter" (217 : Nat) ({ cls := "FormulaSetter$Sheet", name := "reserve", desc := "()I" } : MethodName)) ∈ fh_T := fh_m3 194 rfl rfl
set_option maxRecDepth 8000 in
theorem w675 : (Cond.instanceMethod ({ cls := "FormulaSetter$Sheet", name := "reserve", desc := "()I" } : MethodName)) ∈ fh_T := fh_m3 195 rfl rfl
set_option maxRecDepth 8000 in
theorem w676 : (Cond.selects "FormulaSetter$Sheet" ({ cls := "FormulaSetter$Sheet", name := "reserve", desc := "()I" } : MethodName) ({ cls := "FormulaSetter$Sheet", name := "reserve", desc := "()I" } : MethodName)) ∈ fh_T := fh_m3 196 rfl rfl
set_option maxRecDepth 8000 in
theorem w677 : (Cond.code ({ cls := "FormulaSetter$Sheet", name := "reserve", desc := "()I" } : MethodName) prog_10_method_3_code (2 : Nat) (Option.some FieldType.int)) ∈ fh_T := fh_m3 197 rfl rfl
set_option maxRecDepth 8000 in
theorem w678 : (Cond.methodLink "FormulaSetter$Typesetter" (202 : Nat) ({ cls := "FormulaSetter$Typesetter", name := "signWidth", desc := "(II)I" } : MethodName)) ∈ fh_T := fh_m3 198 rfl rfl
set_option maxRecDepth 8000 in
theorem w679 : (Cond.static ({ cls := "FormulaSetter$Typesetter", name := "signWidth", desc := "(II)I" } : MethodName)) ∈ fh_T := fh_m3 199 rfl rfl
set_option maxRecDepth 8000 in
theorem w680 : (Cond.code ({ cls := "FormulaSetter$Typesetter", name := "signWidth", desc := "(II)I" } : MethodName) prog_12_method_20_code (2 : Nat) (Option.some FieldType.int)) ∈ fh_T := fh_m3 200 rfl rfl
set_option maxRecDepth 8000 in
theorem w681 : (Cond.methodLink "FormulaSetter$Typesetter" (220 : Nat) ({ cls := "FormulaSetter$Sheet", name := "put", desc := "(IIIIIII)V" } : MethodName)) ∈ fh_T := fh_m3 201 rfl rfl
set_option maxRecDepth 8000 in
theorem w682 : (Cond.instanceMethod ({ cls := "FormulaSetter$Sheet", name := "put", desc := "(IIIIIII)V" } : MethodName)) ∈ fh_T := fh_m3 202 rfl rfl
set_option maxRecDepth 8000 in
theorem w683 : (Cond.selects "FormulaSetter$Sheet" ({ cls := "FormulaSetter$Sheet", name := "put", desc := "(IIIIIII)V" } : MethodName) ({ cls := "FormulaSetter$Sheet", name := "put", desc := "(IIIIIII)V" } : MethodName)) ∈ fh_T := fh_m3 203 rfl rfl
set_option maxRecDepth 8000 in
theorem w684 : (Cond.code ({ cls := "FormulaSetter$Sheet", name := "put", desc := "(IIIIIII)V" } : MethodName) prog_10_method_4_code (9 : Nat) (Option.none : Option FieldType)) ∈ fh_T := fh_m3 204 rfl rfl
set_option maxRecDepth 8000 in
theorem w685 : (Cond.methodLink "FormulaSetter$Typesetter" (205 : Nat) ({ cls := "FormulaSetter$Typesetter", name := "signHeight", desc := "(II)I" } : MethodName)) ∈ fh_T := fh_m3 205 rfl rfl
set_option maxRecDepth 8000 in
theorem w686 : (Cond.static ({ cls := "FormulaSetter$Typesetter", name := "signHeight", desc := "(II)I" } : MethodName)) ∈ fh_T := fh_m3 206 rfl rfl
set_option maxRecDepth 8000 in
theorem w687 : (Cond.code ({ cls := "FormulaSetter$Typesetter", name := "signHeight", desc := "(II)I" } : MethodName) prog_12_method_21_code (2 : Nat) (Option.some FieldType.int)) ∈ fh_T := fh_m3 207 rfl rfl
set_option maxRecDepth 8000 in
theorem w688 : (Cond.methodLink "FormulaSetter$Typesetter" (208 : Nat) ({ cls := "FormulaSetter$Typesetter", name := "signDepth", desc := "(II)I" } : MethodName)) ∈ fh_T := fh_m3 208 rfl rfl
set_option maxRecDepth 8000 in
theorem w689 : (Cond.static ({ cls := "FormulaSetter$Typesetter", name := "signDepth", desc := "(II)I" } : MethodName)) ∈ fh_T := fh_m3 209 rfl rfl
set_option maxRecDepth 8000 in
theorem w690 : (Cond.code ({ cls := "FormulaSetter$Typesetter", name := "signDepth", desc := "(II)I" } : MethodName) prog_12_method_22_code (2 : Nat) (Option.some FieldType.int)) ∈ fh_T := fh_m3 210 rfl rfl
set_option maxRecDepth 8000 in
theorem w691 : (Cond.methodLink "FormulaSetter$Typesetter" (131 : Nat) ({ cls := "FormulaSetter$Nucleus", name := "measure", desc := "(III)V" } : MethodName)) ∈ fh_T := fh_m3 211 rfl rfl
set_option maxRecDepth 8000 in
theorem w692 : (Cond.sameMethod "FormulaSetter$Nucleus" "FormulaSetter$Box" "measure" "(III)V") ∈ fh_T := fh_m3 212 rfl rfl
set_option maxRecDepth 8000 in
theorem w693 : (Cond.selects "FormulaSetter$Nucleus" ({ cls := "FormulaSetter$Nucleus", name := "measure", desc := "(III)V" } : MethodName) ({ cls := "FormulaSetter$Box", name := "measure", desc := "(III)V" } : MethodName)) ∈ fh_T := fh_m3 213 rfl rfl
set_option maxRecDepth 8000 in
theorem w694 : (Cond.methodLink "FormulaSetter$Typesetter" (164 : Nat) ({ cls := "FormulaSetter$Typesetter", name := "setGroup", desc := "(LFormulaSetter$Nucleus;LFormulaSetter$Line;LFormulaSetter$Style;Z)V" } : MethodName)) ∈ fh_T := fh_m3 214 rfl rfl
set_option maxRecDepth 8000 in
theorem w696 : (Cond.instanceMethod ({ cls := "FormulaSetter$Typesetter", name := "setGroup", desc := "(LFormulaSetter$Nucleus;LFormulaSetter$Line;LFormulaSetter$Style;Z)V" } : MethodName)) ∈ fh_T := fh_m3 216 rfl rfl
set_option maxRecDepth 8000 in
theorem w697 : (Cond.code ({ cls := "FormulaSetter$Typesetter", name := "setGroup", desc := "(LFormulaSetter$Nucleus;LFormulaSetter$Line;LFormulaSetter$Style;Z)V" } : MethodName) prog_12_method_11_code (5 : Nat) (Option.none : Option FieldType)) ∈ fh_T := fh_m3 217 rfl rfl
set_option maxRecDepth 8000 in
theorem w698 : (Cond.methodLink "FormulaSetter$Typesetter" (168 : Nat) ({ cls := "FormulaSetter$Typesetter", name := "setOperator", desc := "(LFormulaSetter$Nucleus;LFormulaSetter$Style;)V" } : MethodName)) ∈ fh_T := fh_m3 218 rfl rfl
set_option maxRecDepth 8000 in
theorem w700 : (Cond.instanceMethod ({ cls := "FormulaSetter$Typesetter", name := "setOperator", desc := "(LFormulaSetter$Nucleus;LFormulaSetter$Style;)V" } : MethodName)) ∈ fh_T := fh_m3 220 rfl rfl
set_option maxRecDepth 8000 in
theorem w701 : (Cond.code ({ cls := "FormulaSetter$Typesetter", name := "setOperator", desc := "(LFormulaSetter$Nucleus;LFormulaSetter$Style;)V" } : MethodName) prog_12_method_12_code (8 : Nat) (Option.none : Option FieldType)) ∈ fh_T := fh_m3 221 rfl rfl
set_option maxRecDepth 8000 in
theorem w702 : (Cond.fieldLink "FormulaSetter$Typesetter" (106 : Nat) "FormulaSetter$Style" "DISPLAY" "LFormulaSetter$Style;") ∈ fh_T := fh_m3 222 rfl rfl
set_option maxRecDepth 8000 in
theorem w704 : (Cond.methodLink "FormulaSetter$Typesetter" (77 : Nat) ({ cls := "java/lang/Math", name := "max", desc := "(II)I" } : MethodName)) ∈ fh_T := fh_m3 224 rfl rfl
set_option maxRecDepth 8000 in
theorem w705 : (Cond.methodLink "FormulaSetter$Typesetter" (175 : Nat) ({ cls := "FormulaSetter$Typesetter", name := "setFraction", desc := "(LFormulaSetter$Nucleus;LFormulaSetter$Nucleus;LFormulaSetter$Nucleus;LFormulaSetter$Style;Z)V" } : MethodName)) ∈ fh_T := fh_m3 225 rfl rfl
set_option maxRecDepth 8000 in
theorem w707 : (Cond.instanceMethod ({ cls := "FormulaSetter$Typesetter", name := "setFraction", desc := "(LFormulaSetter$Nucleus;LFormulaSetter$Nucleus;LFormulaSetter$Nucleus;LFormulaSetter$Style;Z)V" } : MethodName)) ∈ fh_T := fh_m3 227 rfl rfl
set_option maxRecDepth 8000 in
theorem w708 : (Cond.code ({ cls := "FormulaSetter$Typesetter", name := "setFraction", desc := "(LFormulaSetter$Nucleus;LFormulaSetter$Nucleus;LFormulaSetter$Nucleus;LFormulaSetter$Style;Z)V" } : MethodName) prog_12_method_13_code (15 : Nat) (Option.none : Option FieldType)) ∈ fh_T := fh_m3 228 rfl rfl
set_option maxRecDepth 8000 in
theorem w709 : (Cond.methodLink "FormulaSetter$Typesetter" (214 : Nat) ({ cls := "FormulaSetter$Style", name := "forParts", desc := "()LFormulaSetter$Style;" } : MethodName)) ∈ fh_T := fh_m3 229 rfl rfl
set_option maxRecDepth 8000 in
theorem w710 : (Cond.instanceMethod ({ cls := "FormulaSetter$Style", name := "forParts", desc := "()LFormulaSetter$Style;" } : MethodName)) ∈ fh_T := fh_m3 230 rfl rfl
set_option maxRecDepth 8000 in
theorem w711 : (Cond.selects "FormulaSetter$Style" ({ cls := "FormulaSetter$Style", name := "forParts", desc := "()LFormulaSetter$Style;" } : MethodName) ({ cls := "FormulaSetter$Style", name := "forParts", desc := "()LFormulaSetter$Style;" } : MethodName)) ∈ fh_T := fh_m3 231 rfl rfl
set_option maxRecDepth 8000 in
theorem w712 : (Cond.code ({ cls := "FormulaSetter$Style", name := "forParts", desc := "()LFormulaSetter$Style;" } : MethodName) prog_11_method_6_code (1 : Nat) (Option.some (FieldType.object "FormulaSetter$Style"))) ∈ fh_T := fh_m3 232 rfl rfl
set_option maxRecDepth 8000 in
theorem w713 : (Cond.fieldLink "FormulaSetter$Style" (3 : Nat) "FormulaSetter$Style" "DISPLAY" "LFormulaSetter$Style;") ∈ fh_T := fh_m3 233 rfl rfl
set_option maxRecDepth 8000 in
theorem w714 : (Cond.fieldLink "FormulaSetter$Style" (7 : Nat) "FormulaSetter$Style" "TEXT" "LFormulaSetter$Style;") ∈ fh_T := fh_m3 234 rfl rfl
set_option maxRecDepth 8000 in
theorem w716 : (Cond.fieldLink "FormulaSetter$Style" (10 : Nat) "FormulaSetter$Style" "SCRIPT" "LFormulaSetter$Style;") ∈ fh_T := fh_m3 236 rfl rfl
set_option maxRecDepth 8000 in
theorem w718 : (Cond.fieldLink "FormulaSetter$Style" (13 : Nat) "FormulaSetter$Style" "LEAST" "LFormulaSetter$Style;") ∈ fh_T := fh_m3 238 rfl rfl
set_option maxRecDepth 8000 in
theorem w720 : (Cond.methodLink "FormulaSetter$Typesetter" (68 : Nat) ({ cls := "FormulaSetter$Sheet", name := "move", desc := "(LFormulaSetter$Box;II)V" } : MethodName)) ∈ fh_T := fh_m4 0 rfl rfl
set_option maxRecDepth 8000 in
theorem w721 : (Cond.instanceMethod ({ cls := "FormulaSetter$Sheet", name := "move", desc := "(LFormulaSetter$Box;II)V" } : MethodName)) ∈ fh_T := fh_m4 1 rfl rfl
set_option maxRecDepth 8000 in
theorem w722 : (Cond.selects "FormulaSetter$Sheet" ({ cls := "FormulaSetter$Sheet", name := "move", desc := "(LFormulaSetter$Box;II)V" } : MethodName) ({ cls := "FormulaSetter$Sheet", name := "move", desc := "(LFormulaSetter$Box;II)V" } : MethodName)) ∈ fh_T := fh_m4 2 rfl rfl
set_option maxRecDepth 8000 in
theorem w723 : (Cond.code ({ cls := "FormulaSetter$Sheet", name := "move", desc := "(LFormulaSetter$Box;II)V" } : MethodName) prog_10_method_5_code (5 : Nat) (Option.none : Option FieldType)) ∈ fh_T := fh_m4 3 rfl rfl
set_option maxRecDepth 8000 in
theorem w724 : (Cond.methodLink "FormulaSetter$Sheet" (24 : Nat) ({ cls := "java/lang/Math", name := "max", desc := "(II)I" } : MethodName)) ∈ fh_T := fh_m4 4 rfl rfl
set_option maxRecDepth 8000 in
theorem w725 : (Cond.methodLink "FormulaSetter$Typesetter" (179 : Nat) ({ cls := "FormulaSetter$Typesetter", name := "setRoot", desc := "(LFormulaSetter$Nucleus;LFormulaSetter$Nucleus;LFormulaSetter$Style;)V" } : MethodName)) ∈ fh_T := fh_m4 5 rfl rfl
set_option maxRecDepth 8000 in
theorem w727 : (Cond.instanceMethod ({ cls := "FormulaSetter$Typesetter", name := "setRoot", desc := "(LFormulaSetter$Nucleus;LFormulaSetter$Nucleus;LFormulaSetter$Style;)V" } : MethodName)) ∈ fh_T := fh_m4 7 rfl rfl
set_option maxRecDepth 8000 in
theorem w728 : (Cond.code ({ cls := "FormulaSetter$Typesetter", name := "setRoot", desc := "(LFormulaSetter$Nucleus;LFormulaSetter$Nucleus;LFormulaSetter$Style;)V" } : MethodName) prog_12_method_14_code (11 : Nat) (Option.none : Option FieldType)) ∈ fh_T := fh_m4 8 rfl rfl
set_option maxRecDepth 8000 in
theorem w729 : (Cond.methodLink "FormulaSetter$Typesetter" (224 : Nat) ({ cls := "FormulaSetter$Style", name := "tallFor", desc := "(I)I" } : MethodName)) ∈ fh_T := fh_m4 9 rfl rfl
set_option maxRecDepth 8000 in
theorem w730 : (Cond.instanceMethod ({ cls := "FormulaSetter$Style", name := "tallFor", desc := "(I)I" } : MethodName)) ∈ fh_T := fh_m4 10 rfl rfl
set_option maxRecDepth 8000 in
theorem w731 : (Cond.selects "FormulaSetter$Style" ({ cls := "FormulaSetter$Style", name := "tallFor", desc := "(I)I" } : MethodName) ({ cls := "FormulaSetter$Style", name := "tallFor", desc := "(I)I" } : MethodName)) ∈ fh_T := fh_m4 11 rfl rfl
set_option maxRecDepth 8000 in
theorem w732 : (Cond.code ({ cls := "FormulaSetter$Style", name := "tallFor", desc := "(I)I" } : MethodName) prog_11_method_8_code (3 : Nat) (Option.some FieldType.int)) ∈ fh_T := fh_m4 12 rfl rfl
set_option maxRecDepth 8000 in
theorem w733 : (Cond.methodLink "FormulaSetter$Typesetter" (183 : Nat) ({ cls := "FormulaSetter$Typesetter", name := "setHat", desc := "(LFormulaSetter$Nucleus;LFormulaSetter$Nucleus;LFormulaSetter$Style;)V" } : MethodName)) ∈ fh_T := fh_m4 13 rfl rfl
set_option maxRecDepth 8000 in
theorem w735 : (Cond.instanceMethod ({ cls := "FormulaSetter$Typesetter", name := "setHat", desc := "(LFormulaSetter$Nucleus;LFormulaSetter$Nucleus;LFormulaSetter$Style;)V" } : MethodName)) ∈ fh_T := fh_m4 15 rfl rfl
set_option maxRecDepth 8000 in
theorem w736 : (Cond.code ({ cls := "FormulaSetter$Typesetter", name := "setHat", desc := "(LFormulaSetter$Nucleus;LFormulaSetter$Nucleus;LFormulaSetter$Style;)V" } : MethodName) prog_12_method_15_code (7 : Nat) (Option.none : Option FieldType)) ∈ fh_T := fh_m4 16 rfl rfl
set_option maxRecDepth 8000 in
theorem w737 : (Cond.methodLink "FormulaSetter$Typesetter" (186 : Nat) ({ cls := "FormulaSetter$Typesetter", name := "setBar", desc := "(LFormulaSetter$Nucleus;LFormulaSetter$Nucleus;LFormulaSetter$Style;)V" } : MethodName)) ∈ fh_T := fh_m4 17 rfl rfl
set_option maxRecDepth 8000 in
theorem w739 : (Cond.instanceMethod ({ cls := "FormulaSetter$Typesetter", name := "setBar", desc := "(LFormulaSetter$Nucleus;LFormulaSetter$Nucleus;LFormulaSetter$Style;)V" } : MethodName)) ∈ fh_T := fh_m4 19 rfl rfl
set_option maxRecDepth 8000 in
theorem w740 : (Cond.code ({ cls := "FormulaSetter$Typesetter", name := "setBar", desc := "(LFormulaSetter$Nucleus;LFormulaSetter$Nucleus;LFormulaSetter$Style;)V" } : MethodName) prog_12_method_16_code (5 : Nat) (Option.none : Option FieldType)) ∈ fh_T := fh_m4 20 rfl rfl
set_option maxRecDepth 8000 in
theorem w741 : (Cond.methodLink "FormulaSetter$Typesetter" (189 : Nat) ({ cls := "FormulaSetter$Typesetter", name := "setSides", desc := "(LFormulaSetter$Nucleus;LFormulaSetter$Line;LFormulaSetter$Style;Z)V" } : MethodName)) ∈ fh_T := fh_m4 21 rfl rfl
set_option maxRecDepth 8000 in
theorem w743 : (Cond.instanceMethod ({ cls := "FormulaSetter$Typesetter", name := "setSides", desc := "(LFormulaSetter$Nucleus;LFormulaSetter$Line;LFormulaSetter$Style;Z)V" } : MethodName)) ∈ fh_T := fh_m4 23 rfl rfl
set_option maxRecDepth 8000 in
theorem w744 : (Cond.code ({ cls := "FormulaSetter$Typesetter", name := "setSides", desc := "(LFormulaSetter$Nucleus;LFormulaSetter$Line;LFormulaSetter$Style;Z)V" } : MethodName) prog_12_method_17_code (16 : Nat) (Option.none : Option FieldType)) ∈ fh_T := fh_m4 24 rfl rfl
set_option maxRecDepth 8000 in
theorem w745 : (Cond.constant "FormulaSetter$Typesetter" (231 : Nat) (-1000000 : Int32)) ∈ fh_T := fh_m4 25 rfl rfl
set_option maxRecDepth 8000 in
theorem w746 : (Cond.methodLink "FormulaSetter$Typesetter" (192 : Nat) ({ cls := "FormulaSetter$Typesetter", name := "setMatrix", desc := "(LFormulaSetter$Nucleus;LFormulaSetter$Line;LFormulaSetter$Style;Z)V" } : MethodName)) ∈ fh_T := fh_m4 26 rfl rfl
set_option maxRecDepth 8000 in
theorem w748 : (Cond.instanceMethod ({ cls := "FormulaSetter$Typesetter", name := "setMatrix", desc := "(LFormulaSetter$Nucleus;LFormulaSetter$Line;LFormulaSetter$Style;Z)V" } : MethodName)) ∈ fh_T := fh_m4 28 rfl rfl
set_option maxRecDepth 8000 in
theorem w749 : (Cond.code ({ cls := "FormulaSetter$Typesetter", name := "setMatrix", desc := "(LFormulaSetter$Nucleus;LFormulaSetter$Line;LFormulaSetter$Style;Z)V" } : MethodName) prog_12_method_18_code (9 : Nat) (Option.none : Option FieldType)) ∈ fh_T := fh_m4 29 rfl rfl
set_option maxRecDepth 8000 in
theorem w750 : (Cond.methodLink "FormulaSetter$Typesetter" (232 : Nat) ({ cls := "FormulaSetter$Style", name := "forCells", desc := "()LFormulaSetter$Style;" } : MethodName)) ∈ fh_T := fh_m4 30 rfl rfl
set_option maxRecDepth 8000 in
theorem w751 : (Cond.instanceMethod ({ cls := "FormulaSetter$Style", name := "forCells", desc := "()LFormulaSetter$Style;" } : MethodName)) ∈ fh_T := fh_m4 31 rfl rfl
set_option maxRecDepth 8000 in
theorem w752 : (Cond.selects "FormulaSetter$Style" ({ cls := "FormulaSetter$Style", name := "forCells", desc := "()LFormulaSetter$Style;" } : MethodName) ({ cls := "FormulaSetter$Style", name := "forCells", desc := "()LFormulaSetter$Style;" } : MethodName)) ∈ fh_T := fh_m4 32 rfl rfl
set_option maxRecDepth 8000 in
theorem w753 : (Cond.code ({ cls := "FormulaSetter$Style", name := "forCells", desc := "()LFormulaSetter$Style;" } : MethodName) prog_11_method_7_code (1 : Nat) (Option.some (FieldType.object "FormulaSetter$Style"))) ∈ fh_T := fh_m4 33 rfl rfl
set_option maxRecDepth 8000 in
theorem w754 : (Cond.methodLink "FormulaSetter$Typesetter" (237 : Nat) ({ cls := "FormulaSetter$Grid", name := "measure", desc := "(LFormulaSetter$Line;I)V" } : MethodName)) ∈ fh_T := fh_m4 34 rfl rfl
set_option maxRecDepth 8000 in
theorem w755 : (Cond.instanceMethod ({ cls := "FormulaSetter$Grid", name := "measure", desc := "(LFormulaSetter$Line;I)V" } : MethodName)) ∈ fh_T := fh_m4 35 rfl rfl
set_option maxRecDepth 8000 in
theorem w756 : (Cond.selects "FormulaSetter$Grid" ({ cls := "FormulaSetter$Grid", name := "measure", desc := "(LFormulaSetter$Line;I)V" } : MethodName) ({ cls := "FormulaSetter$Grid", name := "measure", desc := "(LFormulaSetter$Line;I)V" } : MethodName)) ∈ fh_T := fh_m4 36 rfl rfl
set_option maxRecDepth 8000 in
theorem w757 : (Cond.code ({ cls := "FormulaSetter$Grid", name := "measure", desc := "(LFormulaSetter$Line;I)V" } : MethodName) prog_5_method_2_code (6 : Nat) (Option.none : Option FieldType)) ∈ fh_T := fh_m4 37 rfl rfl
set_option maxRecDepth 8000 in
theorem w758 : (Cond.methodLink "FormulaSetter$Grid" (21 : Nat) ({ cls := "java/util/Arrays", name := "fill", desc := "([II)V" } : MethodName)) ∈ fh_T := fh_m4 38 rfl rfl
set_option maxRecDepth 8000 in
theorem w759 : (Cond.static ({ cls := "java/util/Arrays", name := "fill", desc := "([II)V" } : MethodName)) ∈ fh_T := fh_m4 39 rfl rfl
set_option maxRecDepth 8000 in
theorem w760 : (Cond.code ({ cls := "java/util/Arrays", name := "fill", desc := "([II)V" } : MethodName) prog_26_method_103_code (4 : Nat) (Option.none : Option FieldType)) ∈ fh_T := fh_m4 40 rfl rfl
set_option maxRecDepth 8000 in
theorem w761 : (Cond.methodLink "FormulaSetter$Grid" (34 : Nat) ({ cls := "FormulaSetter$Grid", name := "rowOf", desc := "(LFormulaSetter$Line;)I" } : MethodName)) ∈ fh_T := fh_m4 41 rfl rfl
set_option maxRecDepth 8000 in
theorem w762 : (Cond.static ({ cls := "FormulaSetter$Grid", name := "rowOf", desc := "(LFormulaSetter$Line;)I" } : MethodName)) ∈ fh_T := fh_m4 42 rfl rfl
set_option maxRecDepth 8000 in
theorem w763 : (Cond.code ({ cls := "FormulaSetter$Grid", name := "rowOf", desc := "(LFormulaSetter$Line;)I" } : MethodName) prog_5_method_9_code (1 : Nat) (Option.some FieldType.int)) ∈ fh_T := fh_m4 43 rfl rfl
set_option maxRecDepth 8000 in
theorem w764 : (Cond.methodLink "FormulaSetter$Grid" (71 : Nat) ({ cls := "java/lang/Math", name := "min", desc := "(II)I" } : MethodName)) ∈ fh_T := fh_m4 44 rfl rfl
set_option maxRecDepth 8000 in
theorem w765 : (Cond.methodLink "FormulaSetter$Grid" (46 : Nat) ({ cls := "java/lang/Math", name := "max", desc := "(II)I" } : MethodName)) ∈ fh_T := fh_m4 45 rfl rfl
set_option maxRecDepth 8000 in
theorem w766 : (Cond.methodLink "FormulaSetter$Grid" (38 : Nat) ({ cls := "FormulaSetter$Grid", name := "columnOf", desc := "(LFormulaSetter$Line;)I" } : MethodName)) ∈ fh_T := fh_m4 46 rfl rfl
set_option maxRecDepth 8000 in
theorem w767 : (Cond.static ({ cls := "FormulaSetter$Grid", name := "columnOf", desc := "(LFormulaSetter$Line;)I" } : MethodName)) ∈ fh_T := fh_m4 47 rfl rfl
set_option maxRecDepth 8000 in
theorem w768 : (Cond.code ({ cls := "FormulaSetter$Grid", name := "columnOf", desc := "(LFormulaSetter$Line;)I" } : MethodName) prog_5_method_10_code (1 : Nat) (Option.some FieldType.int)) ∈ fh_T := fh_m4 48 rfl rfl
set_option maxRecDepth 8000 in
theorem w769 : (Cond.methodLink "FormulaSetter$Typesetter" (240 : Nat) ({ cls := "FormulaSetter$Grid", name := "wholeHeight", desc := "(I)I" } : MethodName)) ∈ fh_T := fh_m4 49 rfl rfl
set_option maxRecDepth 8000 in
theorem w770 : (Cond.instanceMethod ({ cls := "FormulaSetter$Grid", name := "wholeHeight", desc := "(I)I" } : MethodName)) ∈ fh_T := fh_m4 50 rfl rfl
set_option maxRecDepth 8000 in
theorem w771 : (Cond.selects "FormulaSetter$Grid" ({ cls := "FormulaSetter$Grid", name := "wholeHeight", desc := "(I)I" } : MethodName) ({ cls := "FormulaSetter$Grid", name := "wholeHeight", desc := "(I)I" } : MethodName)) ∈ fh_T := fh_m4 51 rfl rfl
set_option maxRecDepth 8000 in
theorem w772 : (Cond.code ({ cls := "FormulaSetter$Grid", name := "wholeHeight", desc := "(I)I" } : MethodName) prog_5_method_6_code (2 : Nat) (Option.some FieldType.int)) ∈ fh_T := fh_m4 52 rfl rfl
set_option maxRecDepth 8000 in
theorem w773 : (Cond.methodLink "FormulaSetter$Grid" (65 : Nat) ({ cls := "FormulaSetter$Grid", name := "topOf", desc := "(II)I" } : MethodName)) ∈ fh_T := fh_m4 53 rfl rfl
set_option maxRecDepth 8000 in
theorem w774 : (Cond.instanceMethod ({ cls := "FormulaSetter$Grid", name := "topOf", desc := "(II)I" } : MethodName)) ∈ fh_T := fh_m4 54 rfl rfl
set_option maxRecDepth 8000 in
theorem w775 : (Cond.selects "FormulaSetter$Grid" ({ cls := "FormulaSetter$Grid", name := "topOf", desc := "(II)I" } : MethodName) ({ cls := "FormulaSetter$Grid", name := "topOf", desc := "(II)I" } : MethodName)) ∈ fh_T := fh_m4 55 rfl rfl
set_option maxRecDepth 8000 in
theorem w776 : (Cond.code ({ cls := "FormulaSetter$Grid", name := "topOf", desc := "(II)I" } : MethodName) prog_5_method_4_code (5 : Nat) (Option.some FieldType.int)) ∈ fh_T := fh_m4 56 rfl rfl
set_option maxRecDepth 8000 in
theorem w777 : (Cond.methodLink "FormulaSetter$Typesetter" (243 : Nat) ({ cls := "FormulaSetter$Grid", name := "xOf", desc := "(LFormulaSetter$Line;I)I" } : MethodName)) ∈ fh_T := fh_m4 57 rfl rfl
set_option maxRecDepth 8000 in
theorem w778 : (Cond.instanceMethod ({ cls := "FormulaSetter$Grid", name := "xOf", desc := "(LFormulaSetter$Line;I)I" } : MethodName)) ∈ fh_T := fh_m4 58 rfl rfl
set_option maxRecDepth 8000 in
theorem w779 : (Cond.selects "FormulaSetter$Grid" ({ cls := "FormulaSetter$Grid", name := "xOf", desc := "(LFormulaSetter$Line;I)I" } : MethodName) ({ cls := "FormulaSetter$Grid", name := "xOf", desc := "(LFormulaSetter$Line;I)I" } : MethodName)) ∈ fh_T := fh_m4 59 rfl rfl
set_option maxRecDepth 8000 in
theorem w780 : (Cond.code ({ cls := "FormulaSetter$Grid", name := "xOf", desc := "(LFormulaSetter$Line;I)I" } : MethodName) prog_5_method_7_code (4 : Nat) (Option.some FieldType.int)) ∈ fh_T := fh_m4 60 rfl rfl
set_option maxRecDepth 8000 in
theorem w781 : (Cond.methodLink "FormulaSetter$Grid" (62 : Nat) ({ cls := "FormulaSetter$Grid", name := "leftOf", desc := "(II)I" } : MethodName)) ∈ fh_T := fh_m4 61 rfl rfl
set_option maxRecDepth 8000 in
theorem w782 : (Cond.instanceMethod ({ cls := "FormulaSetter$Grid", name := "leftOf", desc := "(II)I" } : MethodName)) ∈ fh_T := fh_m4 62 rfl rfl
set_option maxRecDepth 8000 in
theorem w783 : (Cond.selects "FormulaSetter$Grid" ({ cls := "FormulaSetter$Grid", name := "leftOf", desc := "(II)I" } : MethodName) ({ cls := "FormulaSetter$Grid", name := "leftOf", desc := "(II)I" } : MethodName)) ∈ fh_T := fh_m4 63 rfl rfl
set_option maxRecDepth 8000 in
theorem w784 : (Cond.code ({ cls := "FormulaSetter$Grid", name := "leftOf", desc := "(II)I" } : MethodName) prog_5_method_3_code (5 : Nat) (Option.some FieldType.int)) ∈ fh_T := fh_m4 64 rfl rfl
set_option maxRecDepth 8000 in
theorem w785 : (Cond.methodLink "FormulaSetter$Typesetter" (247 : Nat) ({ cls := "FormulaSetter$Grid", name := "baseOf", desc := "(LFormulaSetter$Line;I)I" } : MethodName)) ∈ fh_T := fh_m4 65 rfl rfl
set_option maxRecDepth 8000 in
theorem w786 : (Cond.instanceMethod ({ cls := "FormulaSetter$Grid", name := "baseOf", desc := "(LFormulaSetter$Line;I)I" } : MethodName)) ∈ fh_T := fh_m4 66 rfl rfl
set_option maxRecDepth 8000 in
theorem w787 : (Cond.selects "FormulaSetter$Grid" ({ cls := "FormulaSetter$Grid", name := "baseOf", desc := "(LFormulaSetter$Line;I)I" } : MethodName) ({ cls := "FormulaSetter$Grid", name := "baseOf", desc := "(LFormulaSetter$Line;I)I" } : MethodName)) ∈ fh_T := fh_m4 67 rfl rfl
set_option maxRecDepth 8000 in
theorem w788 : (Cond.code ({ cls := "FormulaSetter$Grid", name := "baseOf", desc := "(LFormulaSetter$Line;I)I" } : MethodName) prog_5_method_8_code (4 : Nat) (Option.some FieldType.int)) ∈ fh_T := fh_m4 68 rfl rfl
set_option maxRecDepth 8000 in
theorem w789 : (Cond.methodLink "FormulaSetter$Typesetter" (250 : Nat) ({ cls := "FormulaSetter$Grid", name := "wholeWidth", desc := "(I)I" } : MethodName)) ∈ fh_T := fh_m4 69 rfl rfl
set_option maxRecDepth 8000 in
theorem w790 : (Cond.instanceMethod ({ cls := "FormulaSetter$Grid", name := "wholeWidth", desc := "(I)I" } : MethodName)) ∈ fh_T := fh_m4 70 rfl rfl
set_option maxRecDepth 8000 in
theorem w791 : (Cond.selects "FormulaSetter$Grid" ({ cls := "FormulaSetter$Grid", name := "wholeWidth", desc := "(I)I" } : MethodName) ({ cls := "FormulaSetter$Grid", name := "wholeWidth", desc := "(I)I" } : MethodName)) ∈ fh_T := fh_m4 71 rfl rfl
set_option maxRecDepth 8000 in
theorem w792 : (Cond.code ({ cls := "FormulaSetter$Grid", name := "wholeWidth", desc := "(I)I" } : MethodName) prog_5_method_5_code (2 : Nat) (Option.some FieldType.int)) ∈ fh_T := fh_m4 72 rfl rfl
set_option maxRecDepth 8000 in
theorem w793 : (Cond.methodLink "FormulaSetter$Typesetter" (102 : Nat) ({ cls := "FormulaSetter$Style", name := "forScripts", desc := "()LFormulaSetter$Style;" } : MethodName)) ∈ fh_T := fh_m4 73 rfl rfl
set_option maxRecDepth 8000 in
theorem w794 : (Cond.instanceMethod ({ cls := "FormulaSetter$Style", name := "forScripts", desc := "()LFormulaSetter$Style;" } : MethodName)) ∈ fh_T := fh_m4 74 rfl rfl
set_option maxRecDepth 8000 in
theorem w795 : (Cond.selects "FormulaSetter$Style" ({ cls := "FormulaSetter$Style", name := "forScripts", desc := "()LFormulaSetter$Style;" } : MethodName) ({ cls := "FormulaSetter$Style", name := "forScripts", desc := "()LFormulaSetter$Style;" } : MethodName)) ∈ fh_T := fh_m4 75 rfl rfl
set_option maxRecDepth 8000 in
theorem w796 : (Cond.code ({ cls := "FormulaSetter$Style", name := "forScripts", desc := "()LFormulaSetter$Style;" } : MethodName) prog_11_method_5_code (1 : Nat) (Option.some (FieldType.object "FormulaSetter$Style"))) ∈ fh_T := fh_m4 76 rfl rfl
set_option maxRecDepth 8000 in
theorem w797 : (Cond.methodLink "FormulaSetter$Style" (45 : Nat) ({ cls := "FormulaSetter$Style", name := "isLarge", desc := "()Z" } : MethodName)) ∈ fh_T := fh_m4 77 rfl rfl
set_option maxRecDepth 8000 in
theorem w798 : (Cond.instanceMethod ({ cls := "FormulaSetter$Style", name := "isLarge", desc := "()Z" } : MethodName)) ∈ fh_T := fh_m4 78 rfl rfl
set_option maxRecDepth 8000 in
theorem w799 : (Cond.selects "FormulaSetter$Style" ({ cls := "FormulaSetter$Style", name := "isLarge", desc := "()Z" } : MethodName) ({ cls := "FormulaSetter$Style", name := "isLarge", desc := "()Z" } : MethodName)) ∈ fh_T := fh_m4 79 rfl rfl
set_option maxRecDepth 8000 in
theorem w800 : (Cond.code ({ cls := "FormulaSetter$Style", name := "isLarge", desc := "()Z" } : MethodName) prog_11_method_4_code (1 : Nat) (Option.some FieldType.boolean)) ∈ fh_T := fh_m4 80 rfl rfl
set_option maxRecDepth 8000 in
theorem w801 : (Cond.methodLink "FormulaSetter$Typesetter" (114 : Nat) ({ cls := "FormulaSetter$Kind", name := "takesLimits", desc := "()Z" } : MethodName)) ∈ fh_T := fh_m4 81 rfl rfl
set_option maxRecDepth 8000 in
theorem w802 : (Cond.instanceMethod ({ cls := "FormulaSetter$Kind", name := "takesLimits", desc := "()Z" } : MethodName)) ∈ fh_T := fh_m4 82 rfl rfl
set_option maxRecDepth 8000 in
theorem w803 : (Cond.selects "FormulaSetter$Kind" ({ cls := "FormulaSetter$Kind", name := "takesLimits", desc := "()Z" } : MethodName) ({ cls := "FormulaSetter$Kind", name := "takesLimits", desc := "()Z" } : MethodName)) ∈ fh_T := fh_m4 83 rfl rfl
set_option maxRecDepth 8000 in
theorem w804 : (Cond.code ({ cls := "FormulaSetter$Kind", name := "takesLimits", desc := "()Z" } : MethodName) prog_6_method_5_code (1 : Nat) (Option.some FieldType.boolean)) ∈ fh_T := fh_m4 84 rfl rfl
set_option maxRecDepth 8000 in
theorem w805 : (Cond.fieldLink "FormulaSetter$Kind" (10 : Nat) "FormulaSetter$Kind" "SUM" "LFormulaSetter$Kind;") ∈ fh_T := fh_m4 85 rfl rfl
set_option maxRecDepth 8000 in
theorem w807 : (Cond.fieldLink "FormulaSetter$Kind" (13 : Nat) "FormulaSetter$Kind" "PROD" "LFormulaSetter$Kind;") ∈ fh_T := fh_m4 87 rfl rfl
set_option maxRecDepth 8000 in
theorem w809 : (Cond.methodLink "FormulaSetter$Typesetter" (120 : Nat) ({ cls := "FormulaSetter$Typesetter", name := "placeLimits", desc := "(LFormulaSetter$Nucleus;LFormulaSetter$Style;)V" } : MethodName)) ∈ fh_T := fh_m4 89 rfl rfl
set_option maxRecDepth 8000 in
theorem w811 : (Cond.instanceMethod ({ cls := "FormulaSetter$Typesetter", name := "placeLimits", desc := "(LFormulaSetter$Nucleus;LFormulaSetter$Style;)V" } : MethodName)) ∈ fh_T := fh_m4 91 rfl rfl
set_option maxRecDepth 8000 in
theorem w812 : (Cond.code ({ cls := "FormulaSetter$Typesetter", name := "placeLimits", desc := "(LFormulaSetter$Nucleus;LFormulaSetter$Style;)V" } : MethodName) prog_12_method_5_code (10 : Nat) (Option.none : Option FieldType)) ∈ fh_T := fh_m4 92 rfl rfl
set_option maxRecDepth 8000 in
theorem w813 : (Cond.methodLink "FormulaSetter$Typesetter" (124 : Nat) ({ cls := "FormulaSetter$Typesetter", name := "placeScripts", desc := "(LFormulaSetter$Nucleus;LFormulaSetter$Style;Z)V" } : MethodName)) ∈ fh_T := fh_m4 93 rfl rfl
set_option maxRecDepth 8000 in
theorem w815 : (Cond.instanceMethod ({ cls := "FormulaSetter$Typesetter", name := "placeScripts", desc := "(LFormulaSetter$Nucleus;LFormulaSetter$Style;Z)V" } : MethodName)) ∈ fh_T := fh_m4 95 rfl rfl
set_option maxRecDepth 8000 in
theorem w816 : (Cond.code ({ cls := "FormulaSetter$Typesetter", name := "placeScripts", desc := "(LFormulaSetter$Nucleus;LFormulaSetter$Style;Z)V" } : MethodName) prog_12_method_6_code (12 : Nat) (Option.none : Option FieldType)) ∈ fh_T := fh_m4 96 rfl rfl
set_option maxRecDepth 8000 in
theorem w817 : (Cond.methodLink "FormulaSetter$Typesetter" (132 : Nat) ({ cls := "FormulaSetter$Typesetter", name := "raiseOf", desc := "(LFormulaSetter$Nucleus;LFormulaSetter$Nucleus;LFormulaSetter$Style;Z)I" } : MethodName)) ∈ fh_T := fh_m4 97 rfl rfl
set_option maxRecDepth 8000 in
theorem w818 : (Cond.static ({ cls := "FormulaSetter$Typesetter", name := "raiseOf", desc := "(LFormulaSetter$Nucleus;LFormulaSetter$Nucleus;LFormulaSetter$Style;Z)I" } : MethodName)) ∈ fh_T := fh_m4 98 rfl rfl
set_option maxRecDepth 8000 in
theorem w819 : (Cond.code ({ cls := "FormulaSetter$Typesetter", name := "raiseOf", desc := "(LFormulaSetter$Nucleus;LFormulaSetter$Nucleus;LFormulaSetter$Style;Z)I" } : MethodName) prog_12_method_7_code (5 : Nat) (Option.some FieldType.int)) ∈ fh_T := fh_m4 99 rfl rfl
set_option maxRecDepth 8000 in
theorem w820 : (Cond.methodLink "FormulaSetter$Typesetter" (136 : Nat) ({ cls := "FormulaSetter$Typesetter", name := "dropOf", desc := "(LFormulaSetter$Nucleus;LFormulaSetter$Nucleus;LFormulaSetter$Style;)I" } : MethodName)) ∈ fh_T := fh_m4 100 rfl rfl
set_option maxRecDepth 8000 in
theorem w821 : (Cond.static ({ cls := "FormulaSetter$Typesetter", name := "dropOf", desc := "(LFormulaSetter$Nucleus;LFormulaSetter$Nucleus;LFormulaSetter$Style;)I" } : MethodName)) ∈ fh_T := fh_m4 101 rfl rfl
set_option maxRecDepth 8000 in
theorem w822 : (Cond.code ({ cls := "FormulaSetter$Typesetter", name := "dropOf", desc := "(LFormulaSetter$Nucleus;LFormulaSetter$Nucleus;LFormulaSetter$Style;)I" } : MethodName) prog_12_method_8_code (4 : Nat) (Option.some FieldType.int)) ∈ fh_T := fh_m4 102 rfl rfl
set_option maxRecDepth 8000 in
theorem w823 : (Cond.fieldLink "FormulaSetter$Typesetter" (140 : Nat) "FormulaSetter$Kind" "INT" "LFormulaSetter$Kind;") ∈ fh_T := fh_m4 103 rfl rfl
set_option maxRecDepth 8000 in
theorem w825 : (Cond.methodLink "FormulaSetter$Typesetter" (59 : Nat) ({ cls := "FormulaSetter$Style", name := "spaceBetween", desc := "(LFormulaSetter$Atom;LFormulaSetter$Atom;)I" } : MethodName)) ∈ fh_T := fh_m4 105 rfl rfl
set_option maxRecDepth 8000 in
theorem w826 : (Cond.instanceMethod ({ cls := "FormulaSetter$Style", name := "spaceBetween", desc := "(LFormulaSetter$Atom;LFormulaSetter$Atom;)I" } : MethodName)) ∈ fh_T := fh_m4 106 rfl rfl
set_option maxRecDepth 8000 in
theorem w827 : (Cond.selects "FormulaSetter$Style" ({ cls := "FormulaSetter$Style", name := "spaceBetween", desc := "(LFormulaSetter$Atom;LFormulaSetter$Atom;)I" } : MethodName) ({ cls := "FormulaSetter$Style", name := "spaceBetween", desc := "(LFormulaSetter$Atom;LFormulaSetter$Atom;)I" } : MethodName)) ∈ fh_T := fh_m4 107 rfl rfl
set_option maxRecDepth 8000 in
theorem w828 : (Cond.code ({ cls := "FormulaSetter$Style", name := "spaceBetween", desc := "(LFormulaSetter$Atom;LFormulaSetter$Atom;)I" } : MethodName) prog_11_method_9_code (4 : Nat) (Option.some FieldType.int)) ∈ fh_T := fh_m4 108 rfl rfl
set_option maxRecDepth 8000 in
theorem w829 : (Cond.methodLink "FormulaSetter$Style" (58 : Nat) ({ cls := "java/lang/String", name := "charAt", desc := "(I)C" } : MethodName)) ∈ fh_T := fh_m4 109 rfl rfl
set_option maxRecDepth 8000 in
theorem w830 : (Cond.methodLink "FormulaSetterLaw" (55 : Nat) ({ cls := "FormulaSetterLaw", name := "piece", desc := "(LFormulaSetter;II[J)I" } : MethodName)) ∈ fh_T := fh_m4 110 rfl rfl
set_option maxRecDepth 8000 in
theorem w831 : (Cond.static ({ cls := "FormulaSetterLaw", name := "piece", desc := "(LFormulaSetter;II[J)I" } : MethodName)) ∈ fh_T := fh_m4 111 rfl rfl
set_option maxRecDepth 8000 in
theorem w832 : (Cond.codeWith ({ cls := "FormulaSetterLaw", name := "piece", desc := "(LFormulaSetter;II[J)I" } : MethodName) method_4_code (5 : Nat) (Option.some FieldType.int) [((0 : Nat), (10 : Nat), (13 : Nat), (19 : Nat))]) ∈ fh_T := fh_m4 112 rfl rfl
set_option maxRecDepth 8000 in
theorem w833 : (Cond.classLink "FormulaSetterLaw" (19 : Nat) "java/lang/IndexOutOfBoundsException") ∈ fh_T := fh_m4 113 rfl rfl
set_option maxRecDepth 8000 in
theorem w834 : (Cond.methodLink "FormulaSetterLaw" (15 : Nat) ({ cls := "FormulaSetter", name := "piece", desc := "(II)I" } : MethodName)) ∈ fh_T := fh_m4 114 rfl rfl
set_option maxRecDepth 8000 in
theorem w835 : (Cond.instanceMethod ({ cls := "FormulaSetter", name := "piece", desc := "(II)I" } : MethodName)) ∈ fh_T := fh_m4 115 rfl rfl
set_option maxRecDepth 8000 in
theorem w836 : (Cond.selects "FormulaSetter" ({ cls := "FormulaSetter", name := "piece", desc := "(II)I" } : MethodName) ({ cls := "FormulaSetter", name := "piece", desc := "(II)I" } : MethodName)) ∈ fh_T := fh_m4 116 rfl rfl
set_option maxRecDepth 8000 in
theorem w837 : (Cond.code ({ cls := "FormulaSetter", name := "piece", desc := "(II)I" } : MethodName) prog_1_method_7_code (4 : Nat) (Option.some FieldType.int)) ∈ fh_T := fh_m4 117 rfl rfl
set_option maxRecDepth 8000 in
theorem w838 : (Cond.classLink "FormulaSetter" (86 : Nat) "java/lang/IndexOutOfBoundsException") ∈ fh_T := fh_m4 118 rfl rfl
set_option maxRecDepth 8000 in
theorem w839 : (Cond.instantiable "java/lang/IndexOutOfBoundsException" (6 : Nat)) ∈ fh_T := fh_m4 119 rfl rfl
set_option maxRecDepth 8000 in
theorem w841 : (Cond.selects "java/lang/IndexOutOfBoundsException" ({ cls := "java/lang/Throwable", name := "fillInStackTrace", desc := "(I)Ljava/lang/Throwable;" } : MethodName) ({ cls := "java/lang/Throwable", name := "fillInStackTrace", desc := "(I)Ljava/lang/Throwable;" } : MethodName)) ∈ fh_T := fh_m4 121 rfl rfl
set_option maxRecDepth 8000 in
theorem w842 : (Cond.lays "java/lang/IndexOutOfBoundsException" "java/lang/Throwable" "cause" "Ljava/lang/Throwable;") ∈ fh_T := fh_m4 122 rfl rfl
set_option maxRecDepth 8000 in
theorem w843 : (Cond.lays "java/lang/IndexOutOfBoundsException" "java/lang/Throwable" "stackTrace" "[Ljava/lang/StackTraceElement;") ∈ fh_T := fh_m4 123 rfl rfl
set_option maxRecDepth 8000 in
theorem w844 : (Cond.lays "java/lang/IndexOutOfBoundsException" "java/lang/Throwable" "suppressedExceptions" "Ljava/util/List;") ∈ fh_T := fh_m4 124 rfl rfl
set_option maxRecDepth 8000 in
theorem w845 : (Cond.lays "java/lang/IndexOutOfBoundsException" "java/lang/Throwable" "detailMessage" "Ljava/lang/String;") ∈ fh_T := fh_m4 125 rfl rfl
set_option maxRecDepth 8000 in
theorem w846 : (Cond.lays "java/lang/IndexOutOfBoundsException" "java/lang/Throwable" "backtrace" "Ljava/lang/Object;") ∈ fh_T := fh_m4 126 rfl rfl
set_option maxRecDepth 8000 in
theorem w848 : (Cond.methodLink "FormulaSetter" (90 : Nat) ({ cls := "java/lang/IndexOutOfBoundsException", name := "<init>", desc := "(Ljava/lang/String;)V" } : MethodName)) ∈ fh_T := fh_m4 128 rfl rfl
set_option maxRecDepth 8000 in
theorem w849 : (Cond.instanceMethod ({ cls := "java/lang/IndexOutOfBoundsException", name := "<init>", desc := "(Ljava/lang/String;)V" } : MethodName)) ∈ fh_T := fh_m4 129 rfl rfl
set_option maxRecDepth 8000 in
theorem w850 : (Cond.code ({ cls := "java/lang/IndexOutOfBoundsException", name := "<init>", desc := "(Ljava/lang/String;)V" } : MethodName) prog_19_method_2_code (2 : Nat) (Option.none : Option FieldType)) ∈ fh_T := fh_m4 130 rfl rfl
set_option maxRecDepth 8000 in
theorem w851 : (Cond.methodLink "java/lang/IndexOutOfBoundsException" (7 : Nat) ({ cls := "java/lang/RuntimeException", name := "<init>", desc := "(Ljava/lang/String;)V" } : MethodName)) ∈ fh_T := fh_m4 131 rfl rfl
set_option maxRecDepth 8000 in
theorem w852 : (Cond.lays "java/lang/IndexOutOfBoundsException" "java/lang/Throwable" "depth" "I") ∈ fh_T := fh_m4 132 rfl rfl
set_option maxRecDepth 8000 in
theorem w853 : (Cond.superclass "java/lang/IndexOutOfBoundsException" "java/lang/RuntimeException") ∈ fh_T := fh_m4 133 rfl rfl
set_option maxRecDepth 8000 in
theorem w854 : (Cond.classLink "FormulaSetterLaw" (22 : Nat) "FormulaSetterModel") ∈ fh_T := fh_m4 134 rfl rfl
set_option maxRecDepth 8000 in
theorem w855 : (Cond.instantiable "FormulaSetterModel" (53 : Nat)) ∈ fh_T := fh_m4 135 rfl rfl
set_option maxRecDepth 8000 in
theorem w856 : (Cond.methodLink "FormulaSetterLaw" (24 : Nat) ({ cls := "FormulaSetterModel", name := "<init>", desc := "()V" } : MethodName)) ∈ fh_T := fh_m4 136 rfl rfl
set_option maxRecDepth 8000 in
theorem w857 : (Cond.instanceMethod ({ cls := "FormulaSetterModel", name := "<init>", desc := "()V" } : MethodName)) ∈ fh_T := fh_m4 137 rfl rfl
set_option maxRecDepth 8000 in
theorem w858 : (Cond.code ({ cls := "FormulaSetterModel", name := "<init>", desc := "()V" } : MethodName) prog_14_method_1_code (1 : Nat) (Option.none : Option FieldType)) ∈ fh_T := fh_m4 138 rfl rfl
set_option maxRecDepth 8000 in
theorem w859 : (Cond.methodLink "FormulaSetterModel" (1 : Nat) ({ cls := "java/lang/Object", name := "<init>", desc := "()V" } : MethodName)) ∈ fh_T := fh_m4 139 rfl rfl
set_option maxRecDepth 8000 in
theorem w860 : (Cond.fieldLink "FormulaSetterModel" (137 : Nat) "FormulaSetterModel" "thrown" "I") ∈ fh_T := fh_m4 140 rfl rfl
set_option maxRecDepth 8000 in
theorem w861 : (Cond.fieldLink "FormulaSetterModel" (141 : Nat) "FormulaSetterModel" "count" "I") ∈ fh_T := fh_m4 141 rfl rfl
set_option maxRecDepth 8000 in
theorem w862 : (Cond.fieldLink "FormulaSetterModel" (7 : Nat) "FormulaSetterModel" "text" "[I") ∈ fh_T := fh_m4 142 rfl rfl
set_option maxRecDepth 8000 in
theorem w863 : (Cond.fieldLink "FormulaSetterModel" (151 : Nat) "FormulaSetterModel" "at" "I") ∈ fh_T := fh_m4 143 rfl rfl
set_option maxRecDepth 8000 in
theorem w864 : (Cond.fieldLink "FormulaSetterModel" (174 : Nat) "FormulaSetterModel" "wrong" "Z") ∈ fh_T := fh_m4 144 rfl rfl
set_option maxRecDepth 8000 in
theorem w865 : (Cond.fieldLink "FormulaSetterModel" (162 : Nat) "FormulaSetterModel" "nodes" "I") ∈ fh_T := fh_m4 145 rfl rfl
set_option maxRecDepth 8000 in
theorem w866 : (Cond.fieldLink "FormulaSetterModel" (171 : Nat) "FormulaSetterModel" "nuclei" "I") ∈ fh_T := fh_m4 146 rfl rfl
set_option maxRecDepth 8000 in
theorem w867 : (Cond.fieldLink "FormulaSetterModel" (13 : Nat) "FormulaSetterModel" "kind" "[I") ∈ fh_T := fh_m4 147 rfl rfl
set_option maxRecDepth 8000 in
theorem w868 : (Cond.fieldLink "FormulaSetterModel" (16 : Nat) "FormulaSetterModel" "code" "[I") ∈ fh_T := fh_m4 148 rfl rfl
set_option maxRecDepth 8000 in
theorem w869 : (Cond.fieldLink "FormulaSetterModel" (19 : Nat) "FormulaSetterModel" "code2" "[I") ∈ fh_T := fh_m4 149 rfl rfl
set_option maxRecDepth 8000 in
theorem w870 : (Cond.fieldLink "FormulaSetterModel" (22 : Nat) "FormulaSetterModel" "sort" "[I") ∈ fh_T := fh_m4 150 rfl rfl
set_option maxRecDepth 8000 in
theorem w871 : (Cond.fieldLink "FormulaSetterModel" (25 : Nat) "FormulaSetterModel" "deep" "[I") ∈ fh_T := fh_m4 151 rfl rfl
set_option maxRecDepth 8000 in
theorem w872 : (Cond.fieldLink "FormulaSetterModel" (28 : Nat) "FormulaSetterModel" "first" "[I") ∈ fh_T := fh_m4 152 rfl rfl
set_option maxRecDepth 8000 in
theorem w873 : (Cond.fieldLink "FormulaSetterModel" (31 : Nat) "FormulaSetterModel" "next" "[I") ∈ fh_T := fh_m4 153 rfl rfl
set_option maxRecDepth 8000 in
theorem w874 : (Cond.fieldLink "FormulaSetterModel" (34 : Nat) "FormulaSetterModel" "row" "[I") ∈ fh_T := fh_m4 154 rfl rfl
set_option maxRecDepth 8000 in
theorem w875 : (Cond.fieldLink "FormulaSetterModel" (37 : Nat) "FormulaSetterModel" "column" "[I") ∈ fh_T := fh_m4 155 rfl rfl
set_option maxRecDepth 8000 in
theorem w876 : (Cond.fieldLink "FormulaSetterModel" (40 : Nat) "FormulaSetterModel" "one" "[I") ∈ fh_T := fh_m4 156 rfl rfl
set_option maxRecDepth 8000 in
theorem w877 : (Cond.fieldLink "FormulaSetterModel" (43 : Nat) "FormulaSetterModel" "two" "[I") ∈ fh_T := fh_m4 157 rfl rfl
set_option maxRecDepth 8000 in
theorem w878 : (Cond.fieldLink "FormulaSetterModel" (46 : Nat) "FormulaSetterModel" "upper" "[I") ∈ fh_T := fh_m4 158 rfl rfl
set_option maxRecDepth 8000 in
theorem w879 : (Cond.fieldLink "FormulaSetterModel" (49 : Nat) "FormulaSetterModel" "lower" "[I") ∈ fh_T := fh_m4 159 rfl rfl
set_option maxRecDepth 8000 in
theorem w880 : (Cond.fieldLink "FormulaSetterModel" (52 : Nat) "FormulaSetterModel" "owner" "[I") ∈ fh_T := fh_m4 160 rfl rfl
set_option maxRecDepth 8000 in
theorem w881 : (Cond.fieldLink "FormulaSetterModel" (55 : Nat) "FormulaSetterModel" "script" "[Z") ∈ fh_T := fh_m4 161 rfl rfl
set_option maxRecDepth 8000 in
theorem w882 : (Cond.fieldLink "FormulaSetterModel" (165 : Nat) "FormulaSetterModel" "open" "I") ∈ fh_T := fh_m4 162 rfl rfl
set_option maxRecDepth 8000 in
theorem w883 : (Cond.fieldLink "FormulaSetterModel" (59 : Nat) "FormulaSetterModel" "how" "[I") ∈ fh_T := fh_m4 163 rfl rfl
set_option maxRecDepth 8000 in
theorem w884 : (Cond.fieldLink "FormulaSetterModel" (62 : Nat) "FormulaSetterModel" "whose" "[I") ∈ fh_T := fh_m4 164 rfl rfl
set_option maxRecDepth 8000 in
theorem w885 : (Cond.fieldLink "FormulaSetterModel" (65 : Nat) "FormulaSetterModel" "list" "[I") ∈ fh_T := fh_m4 165 rfl rfl
set_option maxRecDepth 8000 in
theorem w886 : (Cond.fieldLink "FormulaSetterModel" (68 : Nat) "FormulaSetterModel" "last" "[I") ∈ fh_T := fh_m4 166 rfl rfl
set_option maxRecDepth 8000 in
theorem w887 : (Cond.fieldLink "FormulaSetterModel" (71 : Nat) "FormulaSetterModel" "style" "[I") ∈ fh_T := fh_m4 167 rfl rfl
set_option maxRecDepth 8000 in
theorem w888 : (Cond.fieldLink "FormulaSetterModel" (74 : Nat) "FormulaSetterModel" "cramped" "[Z") ∈ fh_T := fh_m4 168 rfl rfl
set_option maxRecDepth 8000 in
theorem w889 : (Cond.fieldLink "FormulaSetterModel" (77 : Nat) "FormulaSetterModel" "w" "[I") ∈ fh_T := fh_m4 169 rfl rfl
set_option maxRecDepth 8000 in
theorem w890 : (Cond.fieldLink "FormulaSetterModel" (80 : Nat) "FormulaSetterModel" "h" "[I") ∈ fh_T := fh_m4 170 rfl rfl
set_option maxRecDepth 8000 in
theorem w891 : (Cond.fieldLink "FormulaSetterModel" (83 : Nat) "FormulaSetterModel" "d" "[I") ∈ fh_T := fh_m4 171 rfl rfl
set_option maxRecDepth 8000 in
theorem w892 : (Cond.fieldLink "FormulaSetterModel" (86 : Nat) "FormulaSetterModel" "allW" "[I") ∈ fh_T := fh_m4 172 rfl rfl
set_option maxRecDepth 8000 in
theorem w893 : (Cond.fieldLink "FormulaSetterModel" (89 : Nat) "FormulaSetterModel" "allH" "[I") ∈ fh_T := fh_m4 173 rfl rfl
set_option maxRecDepth 8000 in
theorem w894 : (Cond.fieldLink "FormulaSetterModel" (92 : Nat) "FormulaSetterModel" "allD" "[I") ∈ fh_T := fh_m4 174 rfl rfl
set_option maxRecDepth 8000 in
theorem w895 : (Cond.fieldLink "FormulaSetterModel" (95 : Nat) "FormulaSetterModel" "byX" "[I") ∈ fh_T := fh_m4 175 rfl rfl
set_option maxRecDepth 8000 in
theorem w896 : (Cond.fieldLink "FormulaSetterModel" (98 : Nat) "FormulaSetterModel" "lx" "[I") ∈ fh_T := fh_m4 176 rfl rfl
set_option maxRecDepth 8000 in
theorem w897 : (Cond.fieldLink "FormulaSetterModel" (101 : Nat) "FormulaSetterModel" "ly" "[I") ∈ fh_T := fh_m4 177 rfl rfl
set_option maxRecDepth 8000 in
theorem w898 : (Cond.fieldLink "FormulaSetterModel" (104 : Nat) "FormulaSetterModel" "x" "[I") ∈ fh_T := fh_m4 178 rfl rfl
set_option maxRecDepth 8000 in
theorem w899 : (Cond.fieldLink "FormulaSetterModel" (107 : Nat) "FormulaSetterModel" "y" "[I") ∈ fh_T := fh_m4 179 rfl rfl
set_option maxRecDepth 8000 in
theorem w900 : (Cond.fieldLink "FormulaSetterModel" (110 : Nat) "FormulaSetterModel" "become" "[I") ∈ fh_T := fh_m4 180 rfl rfl
set_option maxRecDepth 8000 in
theorem w901 : (Cond.fieldLink "FormulaSetterModel" (113 : Nat) "FormulaSetterModel" "tall" "[I") ∈ fh_T := fh_m4 181 rfl rfl
set_option maxRecDepth 8000 in
theorem w902 : (Cond.fieldLink "FormulaSetterModel" (116 : Nat) "FormulaSetterModel" "bottom" "[I") ∈ fh_T := fh_m4 182 rfl rfl
set_option maxRecDepth 8000 in
theorem w903 : (Cond.fieldLink "FormulaSetterModel" (119 : Nat) "FormulaSetterModel" "columns" "[I") ∈ fh_T := fh_m4 183 rfl rfl
set_option maxRecDepth 8000 in
theorem w904 : (Cond.fieldLink "FormulaSetterModel" (122 : Nat) "FormulaSetterModel" "rowH" "[I") ∈ fh_T := fh_m4 184 rfl rfl
set_option maxRecDepth 8000 in
theorem w905 : (Cond.fieldLink "FormulaSetterModel" (125 : Nat) "FormulaSetterModel" "rowD" "[I") ∈ fh_T := fh_m4 185 rfl rfl
set_option maxRecDepth 8000 in
theorem w906 : (Cond.fieldLink "FormulaSetterModel" (128 : Nat) "FormulaSetterModel" "step" "[I") ∈ fh_T := fh_m4 186 rfl rfl
set_option maxRecDepth 8000 in
theorem w907 : (Cond.fieldLink "FormulaSetterModel" (131 : Nat) "FormulaSetterModel" "cursor" "[I") ∈ fh_T := fh_m4 187 rfl rfl
set_option maxRecDepth 8000 in
theorem w908 : (Cond.fieldLink "FormulaSetterModel" (309 : Nat) "FormulaSetterModel" "pieces" "I") ∈ fh_T := fh_m4 188 rfl rfl
set_option maxRecDepth 8000 in
theorem w909 : (Cond.fieldLink "FormulaSetterModel" (134 : Nat) "FormulaSetterModel" "piece" "[I") ∈ fh_T := fh_m4 189 rfl rfl
set_option maxRecDepth 8000 in
theorem w910 : (Cond.fieldLink "FormulaSetterModel" (331 : Nat) "FormulaSetterModel" "width" "I") ∈ fh_T := fh_m4 190 rfl rfl
set_option maxRecDepth 8000 in
theorem w911 : (Cond.fieldLink "FormulaSetterModel" (334 : Nat) "FormulaSetterModel" "height" "I") ∈ fh_T := fh_m4 191 rfl rfl
set_option maxRecDepth 8000 in
theorem w912 : (Cond.fieldLink "FormulaSetterModel" (337 : Nat) "FormulaSetterModel" "depth" "I") ∈ fh_T := fh_m4 192 rfl rfl
set_option maxRecDepth 8000 in
theorem w913 : (Cond.lays "FormulaSetterModel" "FormulaSetterModel" "thrown" "I") ∈ fh_T := fh_m4 193 rfl rfl
set_option maxRecDepth 8000 in
theorem w914 : (Cond.soleField "FormulaSetterModel" "thrown") ∈ fh_T := fh_m4 194 rfl rfl
set_option maxRecDepth 8000 in
theorem w915 : (Cond.lays "FormulaSetterModel" "FormulaSetterModel" "count" "I") ∈ fh_T := fh_m4 195 rfl rfl
set_option maxRecDepth 8000 in
theorem w916 : (Cond.soleField "FormulaSetterModel" "count") ∈ fh_T := fh_m4 196 rfl rfl
set_option maxRecDepth 8000 in
theorem w917 : (Cond.laysFinal "FormulaSetterModel" "FormulaSetterModel" "text" "[I") ∈ fh_T := fh_m4 197 rfl rfl
set_option maxRecDepth 8000 in
theorem w918 : (Cond.soleField "FormulaSetterModel" "text") ∈ fh_T := fh_m4 198 rfl rfl
set_option maxRecDepth 8000 in
theorem w919 : (Cond.lays "FormulaSetterModel" "FormulaSetterModel" "at" "I") ∈ fh_T := fh_m4 199 rfl rfl
set_option maxRecDepth 8000 in
theorem w920 : (Cond.soleField "FormulaSetterModel" "at") ∈ fh_T := fh_m4 200 rfl rfl
set_option maxRecDepth 8000 in
theorem w921 : (Cond.lays "FormulaSetterModel" "FormulaSetterModel" "wrong" "Z") ∈ fh_T := fh_m4 201 rfl rfl
set_option maxRecDepth 8000 in
theorem w922 : (Cond.soleField "FormulaSetterModel" "wrong") ∈ fh_T := fh_m4 202 rfl rfl
set_option maxRecDepth 8000 in
theorem w923 : (Cond.lays "FormulaSetterModel" "FormulaSetterModel" "nodes" "I") ∈ fh_T := fh_m4 203 rfl rfl
set_option maxRecDepth 8000 in
theorem w924 : (Cond.soleField "FormulaSetterModel" "nodes") ∈ fh_T := fh_m4 204 rfl rfl
set_option maxRecDepth 8000 in
theorem w925 : (Cond.lays "FormulaSetterModel" "FormulaSetterModel" "nuclei" "I") ∈ fh_T := fh_m4 205 rfl rfl
set_option maxRecDepth 8000 in
theorem w926 : (Cond.soleField "FormulaSetterModel" "nuclei") ∈ fh_T := fh_m4 206 rfl rfl
set_option maxRecDepth 8000 in
theorem w927 : (Cond.laysFinal "FormulaSetterModel" "FormulaSetterModel" "kind" "[I") ∈ fh_T := fh_m4 207 rfl rfl
set_option maxRecDepth 8000 in
theorem w928 : (Cond.soleField "FormulaSetterModel" "kind") ∈ fh_T := fh_m4 208 rfl rfl
set_option maxRecDepth 8000 in
theorem w929 : (Cond.laysFinal "FormulaSetterModel" "FormulaSetterModel" "code" "[I") ∈ fh_T := fh_m4 209 rfl rfl
set_option maxRecDepth 8000 in
theorem w930 : (Cond.soleField "FormulaSetterModel" "code") ∈ fh_T := fh_m4 210 rfl rfl
set_option maxRecDepth 8000 in
theorem w931 : (Cond.laysFinal "FormulaSetterModel" "FormulaSetterModel" "code2" "[I") ∈ fh_T := fh_m4 211 rfl rfl
set_option maxRecDepth 8000 in
theorem w932 : (Cond.soleField "FormulaSetterModel" "code2") ∈ fh_T := fh_m4 212 rfl rfl
set_option maxRecDepth 8000 in
theorem w933 : (Cond.laysFinal "FormulaSetterModel" "FormulaSetterModel" "sort" "[I") ∈ fh_T := fh_m4 213 rfl rfl
set_option maxRecDepth 8000 in
theorem w934 : (Cond.soleField "FormulaSetterModel" "sort") ∈ fh_T := fh_m4 214 rfl rfl
set_option maxRecDepth 8000 in
theorem w935 : (Cond.laysFinal "FormulaSetterModel" "FormulaSetterModel" "deep" "[I") ∈ fh_T := fh_m4 215 rfl rfl
set_option maxRecDepth 8000 in
theorem w936 : (Cond.soleField "FormulaSetterModel" "deep") ∈ fh_T := fh_m4 216 rfl rfl
set_option maxRecDepth 8000 in
theorem w937 : (Cond.laysFinal "FormulaSetterModel" "FormulaSetterModel" "first" "[I") ∈ fh_T := fh_m4 217 rfl rfl
set_option maxRecDepth 8000 in
theorem w938 : (Cond.soleField "FormulaSetterModel" "first") ∈ fh_T := fh_m4 218 rfl rfl
set_option maxRecDepth 8000 in
theorem w939 : (Cond.laysFinal "FormulaSetterModel" "FormulaSetterModel" "next" "[I") ∈ fh_T := fh_m4 219 rfl rfl
set_option maxRecDepth 8000 in
theorem w940 : (Cond.soleField "FormulaSetterModel" "next") ∈ fh_T := fh_m4 220 rfl rfl
set_option maxRecDepth 8000 in
theorem w941 : (Cond.laysFinal "FormulaSetterModel" "FormulaSetterModel" "row" "[I") ∈ fh_T := fh_m4 221 rfl rfl
set_option maxRecDepth 8000 in
theorem w942 : (Cond.soleField "FormulaSetterModel" "row") ∈ fh_T := fh_m4 222 rfl rfl
set_option maxRecDepth 8000 in
theorem w943 : (Cond.laysFinal "FormulaSetterModel" "FormulaSetterModel" "column" "[I") ∈ fh_T := fh_m4 223 rfl rfl
set_option maxRecDepth 8000 in
theorem w944 : (Cond.soleField "FormulaSetterModel" "column") ∈ fh_T := fh_m4 224 rfl rfl
set_option maxRecDepth 8000 in
theorem w945 : (Cond.laysFinal "FormulaSetterModel" "FormulaSetterModel" "one" "[I") ∈ fh_T := fh_m4 225 rfl rfl
set_option maxRecDepth 8000 in
theorem w946 : (Cond.soleField "FormulaSetterModel" "one") ∈ fh_T := fh_m4 226 rfl rfl
set_option maxRecDepth 8000 in
theorem w947 : (Cond.laysFinal "FormulaSetterModel" "FormulaSetterModel" "two" "[I") ∈ fh_T := fh_m4 227 rfl rfl
set_option maxRecDepth 8000 in
theorem w948 : (Cond.soleField "FormulaSetterModel" "two") ∈ fh_T := fh_m4 228 rfl rfl
set_option maxRecDepth 8000 in
theorem w949 : (Cond.laysFinal "FormulaSetterModel" "FormulaSetterModel" "upper" "[I") ∈ fh_T := fh_m4 229 rfl rfl
set_option maxRecDepth 8000 in
theorem w950 : (Cond.soleField "FormulaSetterModel" "upper") ∈ fh_T := fh_m4 230 rfl rfl
set_option maxRecDepth 8000 in
theorem w951 : (Cond.laysFinal "FormulaSetterModel" "FormulaSetterModel" "lower" "[I") ∈ fh_T := fh_m4 231 rfl rfl
set_option maxRecDepth 8000 in
theorem w952 : (Cond.soleField "FormulaSetterModel" "lower") ∈ fh_T := fh_m4 232 rfl rfl
set_option maxRecDepth 8000 in
theorem w953 : (Cond.laysFinal "FormulaSetterModel" "FormulaSetterModel" "owner" "[I") ∈ fh_T := fh_m4 233 rfl rfl
set_option maxRecDepth 8000 in
theorem w954 : (Cond.soleField "FormulaSetterModel" "owner") ∈ fh_T := fh_m4 234 rfl rfl
set_option maxRecDepth 8000 in
theorem w955 : (Cond.laysFinal "FormulaSetterModel" "FormulaSetterModel" "script" "[Z") ∈ fh_T := fh_m4 235 rfl rfl
set_option maxRecDepth 8000 in
theorem w956 : (Cond.soleField "FormulaSetterModel" "script") ∈ fh_T := fh_m4 236 rfl rfl
set_option maxRecDepth 8000 in
theorem w957 : (Cond.lays "FormulaSetterModel" "FormulaSetterModel" "open" "I") ∈ fh_T := fh_m4 237 rfl rfl
set_option maxRecDepth 8000 in
theorem w958 : (Cond.soleField "FormulaSetterModel" "open") ∈ fh_T := fh_m4 238 rfl rfl
set_option maxRecDepth 8000 in
theorem w959 : (Cond.laysFinal "FormulaSetterModel" "FormulaSetterModel" "how" "[I") ∈ fh_T := fh_m4 239 rfl rfl
set_option maxRecDepth 8000 in
theorem w960 : (Cond.soleField "FormulaSetterModel" "how") ∈ fh_T := fh_m5 0 rfl rfl
set_option maxRecDepth 8000 in
theorem w961 : (Cond.laysFinal "FormulaSetterModel" "FormulaSetterModel" "whose" "[I") ∈ fh_T := fh_m5 1 rfl rfl
set_option maxRecDepth 8000 in
theorem w962 : (Cond.soleField "FormulaSetterModel" "whose") ∈ fh_T := fh_m5 2 rfl rfl
set_option maxRecDepth 8000 in
theorem w963 : (Cond.laysFinal "FormulaSetterModel" "FormulaSetterModel" "list" "[I") ∈ fh_T := fh_m5 3 rfl rfl
set_option maxRecDepth 8000 in
theorem w964 : (Cond.soleField "FormulaSetterModel" "list") ∈ fh_T := fh_m5 4 rfl rfl
set_option maxRecDepth 8000 in
theorem w965 : (Cond.laysFinal "FormulaSetterModel" "FormulaSetterModel" "last" "[I") ∈ fh_T := fh_m5 5 rfl rfl
set_option maxRecDepth 8000 in
theorem w966 : (Cond.soleField "FormulaSetterModel" "last") ∈ fh_T := fh_m5 6 rfl rfl
set_option maxRecDepth 8000 in
theorem w967 : (Cond.laysFinal "FormulaSetterModel" "FormulaSetterModel" "style" "[I") ∈ fh_T := fh_m5 7 rfl rfl
set_option maxRecDepth 8000 in
theorem w968 : (Cond.soleField "FormulaSetterModel" "style") ∈ fh_T := fh_m5 8 rfl rfl
set_option maxRecDepth 8000 in
theorem w969 : (Cond.laysFinal "FormulaSetterModel" "FormulaSetterModel" "cramped" "[Z") ∈ fh_T := fh_m5 9 rfl rfl
set_option maxRecDepth 8000 in
theorem w970 : (Cond.soleField "FormulaSetterModel" "cramped") ∈ fh_T := fh_m5 10 rfl rfl
set_option maxRecDepth 8000 in
theorem w971 : (Cond.laysFinal "FormulaSetterModel" "FormulaSetterModel" "w" "[I") ∈ fh_T := fh_m5 11 rfl rfl
set_option maxRecDepth 8000 in
theorem w972 : (Cond.soleField "FormulaSetterModel" "w") ∈ fh_T := fh_m5 12 rfl rfl
set_option maxRecDepth 8000 in
theorem w973 : (Cond.laysFinal "FormulaSetterModel" "FormulaSetterModel" "h" "[I") ∈ fh_T := fh_m5 13 rfl rfl
set_option maxRecDepth 8000 in
theorem w974 : (Cond.soleField "FormulaSetterModel" "h") ∈ fh_T := fh_m5 14 rfl rfl
set_option maxRecDepth 8000 in
theorem w975 : (Cond.laysFinal "FormulaSetterModel" "FormulaSetterModel" "d" "[I") ∈ fh_T := fh_m5 15 rfl rfl
set_option maxRecDepth 8000 in
theorem w976 : (Cond.soleField "FormulaSetterModel" "d") ∈ fh_T := fh_m5 16 rfl rfl
set_option maxRecDepth 8000 in
theorem w977 : (Cond.laysFinal "FormulaSetterModel" "FormulaSetterModel" "allW" "[I") ∈ fh_T := fh_m5 17 rfl rfl
set_option maxRecDepth 8000 in
theorem w978 : (Cond.soleField "FormulaSetterModel" "allW") ∈ fh_T := fh_m5 18 rfl rfl
set_option maxRecDepth 8000 in
theorem w979 : (Cond.laysFinal "FormulaSetterModel" "FormulaSetterModel" "allH" "[I") ∈ fh_T := fh_m5 19 rfl rfl
set_option maxRecDepth 8000 in
theorem w980 : (Cond.soleField "FormulaSetterModel" "allH") ∈ fh_T := fh_m5 20 rfl rfl
set_option maxRecDepth 8000 in
theorem w981 : (Cond.laysFinal "FormulaSetterModel" "FormulaSetterModel" "allD" "[I") ∈ fh_T := fh_m5 21 rfl rfl
set_option maxRecDepth 8000 in
theorem w982 : (Cond.soleField "FormulaSetterModel" "allD") ∈ fh_T := fh_m5 22 rfl rfl
set_option maxRecDepth 8000 in
theorem w983 : (Cond.laysFinal "FormulaSetterModel" "FormulaSetterModel" "byX" "[I") ∈ fh_T := fh_m5 23 rfl rfl
set_option maxRecDepth 8000 in
theorem w984 : (Cond.soleField "FormulaSetterModel" "byX") ∈ fh_T := fh_m5 24 rfl rfl
set_option maxRecDepth 8000 in
theorem w985 : (Cond.laysFinal "FormulaSetterModel" "FormulaSetterModel" "lx" "[I") ∈ fh_T := fh_m5 25 rfl rfl
set_option maxRecDepth 8000 in
theorem w986 : (Cond.soleField "FormulaSetterModel" "lx") ∈ fh_T := fh_m5 26 rfl rfl
set_option maxRecDepth 8000 in
theorem w987 : (Cond.laysFinal "FormulaSetterModel" "FormulaSetterModel" "ly" "[I") ∈ fh_T := fh_m5 27 rfl rfl
set_option maxRecDepth 8000 in
theorem w988 : (Cond.soleField "FormulaSetterModel" "ly") ∈ fh_T := fh_m5 28 rfl rfl
set_option maxRecDepth 8000 in
theorem w989 : (Cond.laysFinal "FormulaSetterModel" "FormulaSetterModel" "x" "[I") ∈ fh_T := fh_m5 29 rfl rfl
set_option maxRecDepth 8000 in
theorem w990 : (Cond.soleField "FormulaSetterModel" "x") ∈ fh_T := fh_m5 30 rfl rfl
set_option maxRecDepth 8000 in
theorem w991 : (Cond.laysFinal "FormulaSetterModel" "FormulaSetterModel" "y" "[I") ∈ fh_T := fh_m5 31 rfl rfl
set_option maxRecDepth 8000 in
theorem w992 : (Cond.soleField "FormulaSetterModel" "y") ∈ fh_T := fh_m5 32 rfl rfl
set_option maxRecDepth 8000 in
theorem w993 : (Cond.laysFinal "FormulaSetterModel" "FormulaSetterModel" "become" "[I") ∈ fh_T := fh_m5 33 rfl rfl
set_option maxRecDepth 8000 in
theorem w994 : (Cond.soleField "FormulaSetterModel" "become") ∈ fh_T := fh_m5 34 rfl rfl
set_option maxRecDepth 8000 in
theorem w995 : (Cond.laysFinal "FormulaSetterModel" "FormulaSetterModel" "tall" "[I") ∈ fh_T := fh_m5 35 rfl rfl
set_option maxRecDepth 8000 in
theorem w996 : (Cond.soleField "FormulaSetterModel" "tall") ∈ fh_T := fh_m5 36 rfl rfl
set_option maxRecDepth 8000 in
theorem w997 : (Cond.laysFinal "FormulaSetterModel" "FormulaSetterModel" "bottom" "[I") ∈ fh_T := fh_m5 37 rfl rfl
set_option maxRecDepth 8000 in
theorem w998 : (Cond.soleField "FormulaSetterModel" "bottom") ∈ fh_T := fh_m5 38 rfl rfl
set_option maxRecDepth 8000 in
theorem w999 : (Cond.laysFinal "FormulaSetterModel" "FormulaSetterModel" "columns" "[I") ∈ fh_T := fh_m5 39 rfl rfl
set_option maxRecDepth 8000 in
theorem w1000 : (Cond.soleField "FormulaSetterModel" "columns") ∈ fh_T := fh_m5 40 rfl rfl
set_option maxRecDepth 8000 in
theorem w1001 : (Cond.laysFinal "FormulaSetterModel" "FormulaSetterModel" "rowH" "[I") ∈ fh_T := fh_m5 41 rfl rfl
set_option maxRecDepth 8000 in
theorem w1002 : (Cond.soleField "FormulaSetterModel" "rowH") ∈ fh_T := fh_m5 42 rfl rfl
set_option maxRecDepth 8000 in
theorem w1003 : (Cond.laysFinal "FormulaSetterModel" "FormulaSetterModel" "rowD" "[I") ∈ fh_T := fh_m5 43 rfl rfl
set_option maxRecDepth 8000 in
theorem w1004 : (Cond.soleField "FormulaSetterModel" "rowD") ∈ fh_T := fh_m5 44 rfl rfl
set_option maxRecDepth 8000 in
theorem w1005 : (Cond.laysFinal "FormulaSetterModel" "FormulaSetterModel" "step" "[I") ∈ fh_T := fh_m5 45 rfl rfl
set_option maxRecDepth 8000 in
theorem w1006 : (Cond.soleField "FormulaSetterModel" "step") ∈ fh_T := fh_m5 46 rfl rfl
set_option maxRecDepth 8000 in
theorem w1007 : (Cond.laysFinal "FormulaSetterModel" "FormulaSetterModel" "cursor" "[I") ∈ fh_T := fh_m5 47 rfl rfl
set_option maxRecDepth 8000 in
theorem w1008 : (Cond.soleField "FormulaSetterModel" "cursor") ∈ fh_T := fh_m5 48 rfl rfl
set_option maxRecDepth 8000 in
theorem w1009 : (Cond.lays "FormulaSetterModel" "FormulaSetterModel" "pieces" "I") ∈ fh_T := fh_m5 49 rfl rfl
set_option maxRecDepth 8000 in
theorem w1010 : (Cond.soleField "FormulaSetterModel" "pieces") ∈ fh_T := fh_m5 50 rfl rfl
set_option maxRecDepth 8000 in
theorem w1011 : (Cond.laysFinal "FormulaSetterModel" "FormulaSetterModel" "piece" "[I") ∈ fh_T := fh_m5 51 rfl rfl
set_option maxRecDepth 8000 in
theorem w1012 : (Cond.soleField "FormulaSetterModel" "piece") ∈ fh_T := fh_m5 52 rfl rfl
set_option maxRecDepth 8000 in
theorem w1013 : (Cond.lays "FormulaSetterModel" "FormulaSetterModel" "width" "I") ∈ fh_T := fh_m5 53 rfl rfl
set_option maxRecDepth 8000 in
theorem w1014 : (Cond.soleField "FormulaSetterModel" "width") ∈ fh_T := fh_m5 54 rfl rfl
set_option maxRecDepth 8000 in
theorem w1015 : (Cond.lays "FormulaSetterModel" "FormulaSetterModel" "height" "I") ∈ fh_T := fh_m5 55 rfl rfl
set_option maxRecDepth 8000 in
theorem w1016 : (Cond.soleField "FormulaSetterModel" "height") ∈ fh_T := fh_m5 56 rfl rfl
set_option maxRecDepth 8000 in
theorem w1017 : (Cond.lays "FormulaSetterModel" "FormulaSetterModel" "depth" "I") ∈ fh_T := fh_m5 57 rfl rfl
set_option maxRecDepth 8000 in
theorem w1018 : (Cond.soleField "FormulaSetterModel" "depth") ∈ fh_T := fh_m5 58 rfl rfl
set_option maxRecDepth 8000 in
theorem w1019 : (Cond.superclass "FormulaSetterModel" "java/lang/Object") ∈ fh_T := fh_m5 59 rfl rfl
set_option maxRecDepth 8000 in
theorem w1020 : (Cond.arrayClass FieldType.boolean) ∈ fh_T := fh_m5 60 rfl rfl
set_option maxRecDepth 8000 in
theorem w1021 : (Cond.methodLink "FormulaSetterLaw" (43 : Nat) ({ cls := "FormulaSetterModel", name := "thrown", desc := "()I" } : MethodName)) ∈ fh_T := fh_m5 61 rfl rfl
set_option maxRecDepth 8000 in
theorem w1022 : (Cond.instanceMethod ({ cls := "FormulaSetterModel", name := "thrown", desc := "()I" } : MethodName)) ∈ fh_T := fh_m5 62 rfl rfl
set_option maxRecDepth 8000 in
theorem w1023 : (Cond.selects "FormulaSetterModel" ({ cls := "FormulaSetterModel", name := "thrown", desc := "()I" } : MethodName) ({ cls := "FormulaSetterModel", name := "thrown", desc := "()I" } : MethodName)) ∈ fh_T := fh_m5 63 rfl rfl
set_option maxRecDepth 8000 in
theorem w1024 : (Cond.code ({ cls := "FormulaSetterModel", name := "thrown", desc := "()I" } : MethodName) prog_14_method_2_code (1 : Nat) (Option.some FieldType.int)) ∈ fh_T := fh_m5 64 rfl rfl
set_option maxRecDepth 8000 in
theorem w1025 : (Cond.methodLink "FormulaSetterLaw" (31 : Nat) ({ cls := "FormulaSetterModel", name := "type", desc := "(JI)I" } : MethodName)) ∈ fh_T := fh_m5 65 rfl rfl
set_option maxRecDepth 8000 in
theorem w1026 : (Cond.instanceMethod ({ cls := "FormulaSetterModel", name := "type", desc := "(JI)I" } : MethodName)) ∈ fh_T := fh_m5 66 rfl rfl
set_option maxRecDepth 8000 in
theorem w1027 : (Cond.selects "FormulaSetterModel" ({ cls := "FormulaSetterModel", name := "type", desc := "(JI)I" } : MethodName) ({ cls := "FormulaSetterModel", name := "type", desc := "(JI)I" } : MethodName)) ∈ fh_T := fh_m5 67 rfl rfl
set_option maxRecDepth 8000 in
theorem w1028 : (Cond.code ({ cls := "FormulaSetterModel", name := "type", desc := "(JI)I" } : MethodName) prog_14_method_3_code (7 : Nat) (Option.some FieldType.int)) ∈ fh_T := fh_m5 68 rfl rfl
set_option maxRecDepth 8000 in
theorem w1029 : (Cond.constant "FormulaSetterModel" (144 : Nat) (-1000000 : Int32)) ∈ fh_T := fh_m5 69 rfl rfl
set_option maxRecDepth 8000 in
theorem w1030 : (Cond.constantLong "FormulaSetterModel" (145 : Nat) (255 : Int64)) ∈ fh_T := fh_m5 70 rfl rfl
set_option maxRecDepth 8000 in
theorem w1031 : (Cond.constantLong "FormulaSetterModel" (147 : Nat) (32 : Int64)) ∈ fh_T := fh_m5 71 rfl rfl
set_option maxRecDepth 8000 in
theorem w1032 : (Cond.constantLong "FormulaSetterModel" (149 : Nat) (126 : Int64)) ∈ fh_T := fh_m5 72 rfl rfl
set_option maxRecDepth 8000 in
theorem w1033 : (Cond.methodLink "FormulaSetterLaw" (36 : Nat) ({ cls := "FormulaSetterModel", name := "wipe", desc := "()I" } : MethodName)) ∈ fh_T := fh_m5 73 rfl rfl
set_option maxRecDepth 8000 in
theorem w1034 : (Cond.instanceMethod ({ cls := "FormulaSetterModel", name := "wipe", desc := "()I" } : MethodName)) ∈ fh_T := fh_m5 74 rfl rfl
set_option maxRecDepth 8000 in
theorem w1035 : (Cond.selects "FormulaSetterModel" ({ cls := "FormulaSetterModel", name := "wipe", desc := "()I" } : MethodName) ({ cls := "FormulaSetterModel", name := "wipe", desc := "()I" } : MethodName)) ∈ fh_T := fh_m5 75 rfl rfl
set_option maxRecDepth 8000 in
theorem w1036 : (Cond.code ({ cls := "FormulaSetterModel", name := "wipe", desc := "()I" } : MethodName) prog_14_method_4_code (2 : Nat) (Option.some FieldType.int)) ∈ fh_T := fh_m5 76 rfl rfl
set_option maxRecDepth 8000 in
theorem w1037 : (Cond.methodLink "FormulaSetterLaw" (50 : Nat) ({ cls := "FormulaSetterModel", name := "isFormula", desc := "()Z" } : MethodName)) ∈ fh_T := fh_m5 77 rfl rfl
set_option maxRecDepth 8000 in
theorem w1038 : (Cond.instanceMethod ({ cls := "FormulaSetterModel", name := "isFormula", desc := "()Z" } : MethodName)) ∈ fh_T := fh_m5 78 rfl rfl
set_option maxRecDepth 8000 in
theorem w1039 : (Cond.selects "FormulaSetterModel" ({ cls := "FormulaSetterModel", name := "isFormula", desc := "()Z" } : MethodName) ({ cls := "FormulaSetterModel", name := "isFormula", desc := "()Z" } : MethodName)) ∈ fh_T := fh_m5 79 rfl rfl
set_option maxRecDepth 8000 in
theorem w1040 : (Cond.code ({ cls := "FormulaSetterModel", name := "isFormula", desc := "()Z" } : MethodName) prog_14_method_22_code (1 : Nat) (Option.some FieldType.boolean)) ∈ fh_T := fh_m5 80 rfl rfl
set_option maxRecDepth 8000 in
theorem w1041 : (Cond.methodLink "FormulaSetterModel" (245 : Nat) ({ cls := "FormulaSetterModel", name := "read", desc := "()Z" } : MethodName)) ∈ fh_T := fh_m5 81 rfl rfl
set_option maxRecDepth 8000 in
theorem w1043 : (Cond.instanceMethod ({ cls := "FormulaSetterModel", name := "read", desc := "()Z" } : MethodName)) ∈ fh_T := fh_m5 83 rfl rfl
set_option maxRecDepth 8000 in
theorem w1044 : (Cond.code ({ cls := "FormulaSetterModel", name := "read", desc := "()Z" } : MethodName) prog_14_method_21_code (3 : Nat) (Option.some FieldType.boolean)) ∈ fh_T := fh_m5 84 rfl rfl
set_option maxRecDepth 8000 in
theorem w1045 : (Cond.methodLink "FormulaSetterModel" (168 : Nat) ({ cls := "FormulaSetterModel", name := "make", desc := "(I)I" } : MethodName)) ∈ fh_T := fh_m5 85 rfl rfl
set_option maxRecDepth 8000 in
theorem w1047 : (Cond.instanceMethod ({ cls := "FormulaSetterModel", name := "make", desc := "(I)I" } : MethodName)) ∈ fh_T := fh_m5 87 rfl rfl
set_option maxRecDepth 8000 in
theorem w1048 : (Cond.code ({ cls := "FormulaSetterModel", name := "make", desc := "(I)I" } : MethodName) prog_14_method_11_code (3 : Nat) (Option.some FieldType.int)) ∈ fh_T := fh_m5 88 rfl rfl
set_option maxRecDepth 8000 in
theorem w1049 : (Cond.methodLink "FormulaSetterModel" (181 : Nat) ({ cls := "FormulaSetterModel", name := "push", desc := "(III)V" } : MethodName)) ∈ fh_T := fh_m5 89 rfl rfl
set_option maxRecDepth 8000 in
theorem w1051 : (Cond.instanceMethod ({ cls := "FormulaSetterModel", name := "push", desc := "(III)V" } : MethodName)) ∈ fh_T := fh_m5 91 rfl rfl
set_option maxRecDepth 8000 in
theorem w1052 : (Cond.code ({ cls := "FormulaSetterModel", name := "push", desc := "(III)V" } : MethodName) prog_14_method_12_code (4 : Nat) (Option.none : Option FieldType)) ∈ fh_T := fh_m5 92 rfl rfl
set_option maxRecDepth 8000 in
theorem w1053 : (Cond.methodLink "FormulaSetterModel" (178 : Nat) ({ cls := "FormulaSetterModel", name := "blanks", desc := "()V" } : MethodName)) ∈ fh_T := fh_m5 93 rfl rfl
set_option maxRecDepth 8000 in
theorem w1055 : (Cond.instanceMethod ({ cls := "FormulaSetterModel", name := "blanks", desc := "()V" } : MethodName)) ∈ fh_T := fh_m5 95 rfl rfl
set_option maxRecDepth 8000 in
theorem w1056 : (Cond.code ({ cls := "FormulaSetterModel", name := "blanks", desc := "()V" } : MethodName) prog_14_method_6_code (1 : Nat) (Option.none : Option FieldType)) ∈ fh_T := fh_m5 96 rfl rfl
set_option maxRecDepth 8000 in
theorem w1057 : (Cond.methodLink "FormulaSetterModel" (154 : Nat) ({ cls := "FormulaSetterModel", name := "here", desc := "(I)I" } : MethodName)) ∈ fh_T := fh_m5 97 rfl rfl
set_option maxRecDepth 8000 in
theorem w1059 : (Cond.instanceMethod ({ cls := "FormulaSetterModel", name := "here", desc := "(I)I" } : MethodName)) ∈ fh_T := fh_m5 99 rfl rfl
set_option maxRecDepth 8000 in
theorem w1060 : (Cond.code ({ cls := "FormulaSetterModel", name := "here", desc := "(I)I" } : MethodName) prog_14_method_5_code (2 : Nat) (Option.some FieldType.int)) ∈ fh_T := fh_m5 100 rfl rfl
set_option maxRecDepth 8000 in
theorem w1061 : (Cond.methodLink "FormulaSetterModel" (238 : Nat) ({ cls := "FormulaSetterModel", name := "inList", desc := "()Z" } : MethodName)) ∈ fh_T := fh_m5 101 rfl rfl
set_option maxRecDepth 8000 in
theorem w1063 : (Cond.instanceMethod ({ cls := "FormulaSetterModel", name := "inList", desc := "()Z" } : MethodName)) ∈ fh_T := fh_m5 103 rfl rfl
set_option maxRecDepth 8000 in
theorem w1064 : (Cond.code ({ cls := "FormulaSetterModel", name := "inList", desc := "()Z" } : MethodName) prog_14_method_20_code (5 : Nat) (Option.some FieldType.boolean)) ∈ fh_T := fh_m5 104 rfl rfl
set_option maxRecDepth 8000 in
theorem w1065 : (Cond.methodLink "FormulaSetterModel" (199 : Nat) ({ cls := "FormulaSetterModel", name := "deliver", desc := "(I)V" } : MethodName)) ∈ fh_T := fh_m5 105 rfl rfl
set_option maxRecDepth 8000 in
theorem w1067 : (Cond.instanceMethod ({ cls := "FormulaSetterModel", name := "deliver", desc := "(I)V" } : MethodName)) ∈ fh_T := fh_m5 107 rfl rfl
set_option maxRecDepth 8000 in
theorem w1068 : (Cond.code ({ cls := "FormulaSetterModel", name := "deliver", desc := "(I)V" } : MethodName) prog_14_method_17_code (6 : Nat) (Option.none : Option FieldType)) ∈ fh_T := fh_m5 108 rfl rfl
set_option maxRecDepth 8000 in
theorem w1069 : (Cond.methodLink "FormulaSetterModel" (233 : Nat) ({ cls := "FormulaSetterModel", name := "cell", desc := "(II)V" } : MethodName)) ∈ fh_T := fh_m5 109 rfl rfl
set_option maxRecDepth 8000 in
theorem w1071 : (Cond.instanceMethod ({ cls := "FormulaSetterModel", name := "cell", desc := "(II)V" } : MethodName)) ∈ fh_T := fh_m5 111 rfl rfl
set_option maxRecDepth 8000 in
theorem w1072 : (Cond.code ({ cls := "FormulaSetterModel", name := "cell", desc := "(II)V" } : MethodName) prog_14_method_16_code (5 : Nat) (Option.none : Option FieldType)) ∈ fh_T := fh_m5 112 rfl rfl
set_option maxRecDepth 8000 in
theorem w1073 : (Cond.methodLink "FormulaSetterModel" (222 : Nat) ({ cls := "FormulaSetterModel", name := "nameHere", desc := "()J" } : MethodName)) ∈ fh_T := fh_m5 113 rfl rfl
set_option maxRecDepth 8000 in
theorem w1075 : (Cond.instanceMethod ({ cls := "FormulaSetterModel", name := "nameHere", desc := "()J" } : MethodName)) ∈ fh_T := fh_m5 115 rfl rfl
set_option maxRecDepth 8000 in
theorem w1076 : (Cond.code ({ cls := "FormulaSetterModel", name := "nameHere", desc := "()J" } : MethodName) prog_14_method_9_code (4 : Nat) (Option.some FieldType.long)) ∈ fh_T := fh_m5 116 rfl rfl
set_option maxRecDepth 8000 in
theorem w1077 : (Cond.methodLink "FormulaSetterModel" (158 : Nat) ({ cls := "FormulaSetterModel", name := "isLetter", desc := "(I)Z" } : MethodName)) ∈ fh_T := fh_m5 117 rfl rfl
set_option maxRecDepth 8000 in
theorem w1078 : (Cond.static ({ cls := "FormulaSetterModel", name := "isLetter", desc := "(I)Z" } : MethodName)) ∈ fh_T := fh_m5 118 rfl rfl
set_option maxRecDepth 8000 in
theorem w1079 : (Cond.code ({ cls := "FormulaSetterModel", name := "isLetter", desc := "(I)Z" } : MethodName) prog_14_method_7_code (1 : Nat) (Option.some FieldType.boolean)) ∈ fh_T := fh_m5 119 rfl rfl
set_option maxRecDepth 8000 in
theorem w1080 : (Cond.constantLong "FormulaSetterModel" (236 : Nat) (491394656372 : Int64)) ∈ fh_T := fh_m5 120 rfl rfl
set_option maxRecDepth 8000 in
theorem w1081 : (Cond.methodLink "FormulaSetterModel" (213 : Nat) ({ cls := "FormulaSetterModel", name := "side", desc := "()I" } : MethodName)) ∈ fh_T := fh_m5 121 rfl rfl
set_option maxRecDepth 8000 in
theorem w1083 : (Cond.instanceMethod ({ cls := "FormulaSetterModel", name := "side", desc := "()I" } : MethodName)) ∈ fh_T := fh_m5 123 rfl rfl
set_option maxRecDepth 8000 in
theorem w1084 : (Cond.code ({ cls := "FormulaSetterModel", name := "side", desc := "()I" } : MethodName) prog_14_method_14_code (3 : Nat) (Option.some FieldType.int)) ∈ fh_T := fh_m5 124 rfl rfl
set_option maxRecDepth 8000 in
theorem w1085 : (Cond.methodLink "FormulaSetterModel" (242 : Nat) ({ cls := "FormulaSetterModel", name := "begin", desc := "()V" } : MethodName)) ∈ fh_T := fh_m5 125 rfl rfl
set_option maxRecDepth 8000 in
theorem w1087 : (Cond.instanceMethod ({ cls := "FormulaSetterModel", name := "begin", desc := "()V" } : MethodName)) ∈ fh_T := fh_m5 127 rfl rfl
set_option maxRecDepth 8000 in
theorem w1088 : (Cond.code ({ cls := "FormulaSetterModel", name := "begin", desc := "()V" } : MethodName) prog_14_method_19_code (3 : Nat) (Option.none : Option FieldType)) ∈ fh_T := fh_m5 128 rfl rfl
set_option maxRecDepth 8000 in
theorem w1089 : (Cond.methodLink "FormulaSetterModel" (195 : Nat) ({ cls := "FormulaSetterModel", name := "nucleus", desc := "(II)I" } : MethodName)) ∈ fh_T := fh_m5 129 rfl rfl
set_option maxRecDepth 8000 in
theorem w1091 : (Cond.instanceMethod ({ cls := "FormulaSetterModel", name := "nucleus", desc := "(II)I" } : MethodName)) ∈ fh_T := fh_m5 131 rfl rfl
set_option maxRecDepth 8000 in
theorem w1092 : (Cond.code ({ cls := "FormulaSetterModel", name := "nucleus", desc := "(II)I" } : MethodName) prog_14_method_13_code (5 : Nat) (Option.some FieldType.int)) ∈ fh_T := fh_m5 132 rfl rfl
set_option maxRecDepth 8000 in
theorem w1093 : (Cond.methodLink "FormulaSetterModel" (216 : Nat) ({ cls := "FormulaSetterModel", name := "inside", desc := "(II)V" } : MethodName)) ∈ fh_T := fh_m5 133 rfl rfl
set_option maxRecDepth 8000 in
theorem w1095 : (Cond.instanceMethod ({ cls := "FormulaSetterModel", name := "inside", desc := "(II)V" } : MethodName)) ∈ fh_T := fh_m5 135 rfl rfl
set_option maxRecDepth 8000 in
theorem w1096 : (Cond.code ({ cls := "FormulaSetterModel", name := "inside", desc := "(II)V" } : MethodName) prog_14_method_15_code (4 : Nat) (Option.none : Option FieldType)) ∈ fh_T := fh_m5 136 rfl rfl
set_option maxRecDepth 8000 in
theorem w1097 : (Cond.methodLink "FormulaSetterModel" (226 : Nat) ({ cls := "FormulaSetterModel", name := "obey", desc := "(J)V" } : MethodName)) ∈ fh_T := fh_m5 137 rfl rfl
set_option maxRecDepth 8000 in
theorem w1099 : (Cond.instanceMethod ({ cls := "FormulaSetterModel", name := "obey", desc := "(J)V" } : MethodName)) ∈ fh_T := fh_m5 139 rfl rfl
set_option maxRecDepth 8000 in
theorem w1100 : (Cond.code ({ cls := "FormulaSetterModel", name := "obey", desc := "(J)V" } : MethodName) prog_14_method_18_code (4 : Nat) (Option.none : Option FieldType)) ∈ fh_T := fh_m5 140 rfl rfl
set_option maxRecDepth 8000 in
theorem w1101 : (Cond.methodLink "FormulaSetterModel" (185 : Nat) ({ cls := "FormulaSetterModel", name := "letters", desc := "()I" } : MethodName)) ∈ fh_T := fh_m5 141 rfl rfl
set_option maxRecDepth 8000 in
theorem w1103 : (Cond.instanceMethod ({ cls := "FormulaSetterModel", name := "letters", desc := "()I" } : MethodName)) ∈ fh_T := fh_m5 143 rfl rfl
set_option maxRecDepth 8000 in
theorem w1104 : (Cond.code ({ cls := "FormulaSetterModel", name := "letters", desc := "()I" } : MethodName) prog_14_method_10_code (2 : Nat) (Option.some FieldType.int)) ∈ fh_T := fh_m5 144 rfl rfl
set_option maxRecDepth 8000 in
theorem w1105 : (Cond.constantLong "FormulaSetterModel" (189 : Nat) (7566701 : Int64)) ∈ fh_T := fh_m5 145 rfl rfl
set_option maxRecDepth 8000 in
theorem w1106 : (Cond.constantLong "FormulaSetterModel" (191 : Nat) (1886547812 : Int64)) ∈ fh_T := fh_m5 146 rfl rfl
set_option maxRecDepth 8000 in
theorem w1107 : (Cond.constantLong "FormulaSetterModel" (193 : Nat) (6909556 : Int64)) ∈ fh_T := fh_m5 147 rfl rfl
set_option maxRecDepth 8000 in
theorem w1108 : (Cond.constantLong "FormulaSetterModel" (203 : Nat) (1718772067 : Int64)) ∈ fh_T := fh_m5 148 rfl rfl
set_option maxRecDepth 8000 in
theorem w1109 : (Cond.constantLong "FormulaSetterModel" (205 : Nat) (1936814708 : Int64)) ∈ fh_T := fh_m5 149 rfl rfl
set_option maxRecDepth 8000 in
theorem w1110 : (Cond.constantLong "FormulaSetterModel" (207 : Nat) (6840692 : Int64)) ∈ fh_T := fh_m5 150 rfl rfl
set_option maxRecDepth 8000 in
theorem w1111 : (Cond.constantLong "FormulaSetterModel" (209 : Nat) (6447474 : Int64)) ∈ fh_T := fh_m5 151 rfl rfl
set_option maxRecDepth 8000 in
theorem w1112 : (Cond.constantLong "FormulaSetterModel" (211 : Nat) (1818584692 : Int64)) ∈ fh_T := fh_m5 152 rfl rfl
set_option maxRecDepth 8000 in
theorem w1113 : (Cond.constantLong "FormulaSetterModel" (220 : Nat) (7168372 : Int64)) ∈ fh_T := fh_m5 153 rfl rfl
set_option maxRecDepth 8000 in
theorem w1114 : (Cond.methodLink "FormulaSetterModel" (230 : Nat) ({ cls := "FormulaSetterModel", name := "sortOf", desc := "(I)I" } : MethodName)) ∈ fh_T := fh_m5 154 rfl rfl
set_option maxRecDepth 8000 in
theorem w1115 : (Cond.static ({ cls := "FormulaSetterModel", name := "sortOf", desc := "(I)I" } : MethodName)) ∈ fh_T := fh_m5 155 rfl rfl
set_option maxRecDepth 8000 in
theorem w1116 : (Cond.code ({ cls := "FormulaSetterModel", name := "sortOf", desc := "(I)I" } : MethodName) prog_14_method_8_code (1 : Nat) (Option.some FieldType.int)) ∈ fh_T := fh_m5 156 rfl rfl
set_option maxRecDepth 8000 in
theorem w1117 : (Cond.methodLink "FormulaSetterLaw" (42 : Nat) ({ cls := "FormulaSetterModel", name := "set", desc := "(I)I" } : MethodName)) ∈ fh_T := fh_m5 157 rfl rfl
set_option maxRecDepth 8000 in
theorem w1118 : (Cond.instanceMethod ({ cls := "FormulaSetterModel", name := "set", desc := "(I)I" } : MethodName)) ∈ fh_T := fh_m5 158 rfl rfl
set_option maxRecDepth 8000 in
theorem w1119 : (Cond.selects "FormulaSetterModel" ({ cls := "FormulaSetterModel", name := "set", desc := "(I)I" } : MethodName) ({ cls := "FormulaSetterModel", name := "set", desc := "(I)I" } : MethodName)) ∈ fh_T := fh_m5 159 rfl rfl
set_option maxRecDepth 8000 in
theorem w1120 : (Cond.code ({ cls := "FormulaSetterModel", name := "set", desc := "(I)I" } : MethodName) prog_14_method_48_code (4 : Nat) (Option.some FieldType.int)) ∈ fh_T := fh_m5 160 rfl rfl
set_option maxRecDepth 8000 in
theorem w1121 : (Cond.methodLink "FormulaSetterModel" (325 : Nat) ({ cls := "FormulaSetterModel", name := "handDown", desc := "(I)V" } : MethodName)) ∈ fh_T := fh_m5 161 rfl rfl
set_option maxRecDepth 8000 in
theorem w1123 : (Cond.instanceMethod ({ cls := "FormulaSetterModel", name := "handDown", desc := "(I)V" } : MethodName)) ∈ fh_T := fh_m5 163 rfl rfl
set_option maxRecDepth 8000 in
theorem w1124 : (Cond.code ({ cls := "FormulaSetterModel", name := "handDown", desc := "(I)V" } : MethodName) prog_14_method_32_code (6 : Nat) (Option.none : Option FieldType)) ∈ fh_T := fh_m5 164 rfl rfl
set_option maxRecDepth 8000 in
theorem w1125 : (Cond.methodLink "FormulaSetterModel" (251 : Nat) ({ cls := "FormulaSetterModel", name := "hand", desc := "(IIZ)V" } : MethodName)) ∈ fh_T := fh_m5 165 rfl rfl
set_option maxRecDepth 8000 in
theorem w1127 : (Cond.instanceMethod ({ cls := "FormulaSetterModel", name := "hand", desc := "(IIZ)V" } : MethodName)) ∈ fh_T := fh_m5 167 rfl rfl
set_option maxRecDepth 8000 in
theorem w1128 : (Cond.code ({ cls := "FormulaSetterModel", name := "hand", desc := "(IIZ)V" } : MethodName) prog_14_method_31_code (4 : Nat) (Option.none : Option FieldType)) ∈ fh_T := fh_m5 168 rfl rfl
set_option maxRecDepth 8000 in
theorem w1129 : (Cond.methodLink "FormulaSetterModel" (328 : Nat) ({ cls := "FormulaSetterModel", name := "measure", desc := "(I)V" } : MethodName)) ∈ fh_T := fh_m5 169 rfl rfl
set_option maxRecDepth 8000 in
theorem w1131 : (Cond.instanceMethod ({ cls := "FormulaSetterModel", name := "measure", desc := "(I)V" } : MethodName)) ∈ fh_T := fh_m5 171 rfl rfl
set_option maxRecDepth 8000 in
theorem w1132 : (Cond.code ({ cls := "FormulaSetterModel", name := "measure", desc := "(I)V" } : MethodName) prog_14_method_42_code (4 : Nat) (Option.none : Option FieldType)) ∈ fh_T := fh_m5 172 rfl rfl
set_option maxRecDepth 8000 in
theorem w1133 : (Cond.methodLink "FormulaSetterModel" (285 : Nat) ({ cls := "FormulaSetterModel", name := "setList", desc := "(I)V" } : MethodName)) ∈ fh_T := fh_m5 173 rfl rfl
set_option maxRecDepth 8000 in
theorem w1135 : (Cond.instanceMethod ({ cls := "FormulaSetterModel", name := "setList", desc := "(I)V" } : MethodName)) ∈ fh_T := fh_m5 175 rfl rfl
set_option maxRecDepth 8000 in
theorem w1136 : (Cond.code ({ cls := "FormulaSetterModel", name := "setList", desc := "(I)V" } : MethodName) prog_14_method_34_code (7 : Nat) (Option.none : Option FieldType)) ∈ fh_T := fh_m5 176 rfl rfl
set_option maxRecDepth 8000 in
theorem w1137 : (Cond.methodLink "FormulaSetterModel" (248 : Nat) ({ cls := "FormulaSetterModel", name := "zOf", desc := "(I)I" } : MethodName)) ∈ fh_T := fh_m5 177 rfl rfl
set_option maxRecDepth 8000 in
theorem w1138 : (Cond.static ({ cls := "FormulaSetterModel", name := "zOf", desc := "(I)I" } : MethodName)) ∈ fh_T := fh_m5 178 rfl rfl
set_option maxRecDepth 8000 in
theorem w1139 : (Cond.code ({ cls := "FormulaSetterModel", name := "zOf", desc := "(I)I" } : MethodName) prog_14_method_23_code (1 : Nat) (Option.some FieldType.int)) ∈ fh_T := fh_m5 179 rfl rfl
set_option maxRecDepth 8000 in
theorem w1140 : (Cond.methodLink "FormulaSetterModel" (261 : Nat) ({ cls := "FormulaSetterModel", name := "spaceBetween", desc := "(II)I" } : MethodName)) ∈ fh_T := fh_m5 180 rfl rfl
set_option maxRecDepth 8000 in
theorem w1141 : (Cond.static ({ cls := "FormulaSetterModel", name := "spaceBetween", desc := "(II)I" } : MethodName)) ∈ fh_T := fh_m5 181 rfl rfl
set_option maxRecDepth 8000 in
theorem w1142 : (Cond.code ({ cls := "FormulaSetterModel", name := "spaceBetween", desc := "(II)I" } : MethodName) prog_14_method_33_code (4 : Nat) (Option.some FieldType.int)) ∈ fh_T := fh_m5 182 rfl rfl
set_option maxRecDepth 8000 in
theorem w1143 : (Cond.constant "FormulaSetterModel" (255 : Nat) (1230004 : Int32)) ∈ fh_T := fh_m5 183 rfl rfl
set_option maxRecDepth 8000 in
theorem w1144 : (Cond.constant "FormulaSetterModel" (256 : Nat) (11030004 : Int32)) ∈ fh_T := fh_m5 184 rfl rfl
set_option maxRecDepth 8000 in
theorem w1145 : (Cond.constant "FormulaSetterModel" (257 : Nat) (22002002 : Int32)) ∈ fh_T := fh_m5 185 rfl rfl
set_option maxRecDepth 8000 in
theorem w1146 : (Cond.constant "FormulaSetterModel" (258 : Nat) (33003003 : Int32)) ∈ fh_T := fh_m5 186 rfl rfl
set_option maxRecDepth 8000 in
theorem w1147 : (Cond.constant "FormulaSetterModel" (259 : Nat) (44044444 : Int32)) ∈ fh_T := fh_m5 187 rfl rfl
set_option maxRecDepth 8000 in
theorem w1148 : (Cond.constant "FormulaSetterModel" (260 : Nat) (41234044 : Int32)) ∈ fh_T := fh_m5 188 rfl rfl
set_option maxRecDepth 8000 in
theorem w1149 : (Cond.methodLink "FormulaSetterModel" (264 : Nat) ({ cls := "FormulaSetterModel", name := "most", desc := "(II)I" } : MethodName)) ∈ fh_T := fh_m5 189 rfl rfl
set_option maxRecDepth 8000 in
theorem w1150 : (Cond.static ({ cls := "FormulaSetterModel", name := "most", desc := "(II)I" } : MethodName)) ∈ fh_T := fh_m5 190 rfl rfl
set_option maxRecDepth 8000 in
theorem w1151 : (Cond.code ({ cls := "FormulaSetterModel", name := "most", desc := "(II)I" } : MethodName) prog_14_method_29_code (2 : Nat) (Option.some FieldType.int)) ∈ fh_T := fh_m5 191 rfl rfl
set_option maxRecDepth 8000 in
theorem w1152 : (Cond.methodLink "FormulaSetterModel" (282 : Nat) ({ cls := "FormulaSetterModel", name := "signW", desc := "(II)I" } : MethodName)) ∈ fh_T := fh_m5 192 rfl rfl
set_option maxRecDepth 8000 in
theorem w1153 : (Cond.static ({ cls := "FormulaSetterModel", name := "signW", desc := "(II)I" } : MethodName)) ∈ fh_T := fh_m5 193 rfl rfl
set_option maxRecDepth 8000 in
theorem w1154 : (Cond.code ({ cls := "FormulaSetterModel", name := "signW", desc := "(II)I" } : MethodName) prog_14_method_26_code (2 : Nat) (Option.some FieldType.int)) ∈ fh_T := fh_m5 194 rfl rfl
set_option maxRecDepth 8000 in
theorem w1155 : (Cond.methodLink "FormulaSetterModel" (276 : Nat) ({ cls := "FormulaSetterModel", name := "signH", desc := "(II)I" } : MethodName)) ∈ fh_T := fh_m5 195 rfl rfl
set_option maxRecDepth 8000 in
theorem w1156 : (Cond.static ({ cls := "FormulaSetterModel", name := "signH", desc := "(II)I" } : MethodName)) ∈ fh_T := fh_m5 196 rfl rfl
set_option maxRecDepth 8000 in
theorem w1157 : (Cond.code ({ cls := "FormulaSetterModel", name := "signH", desc := "(II)I" } : MethodName) prog_14_method_27_code (2 : Nat) (Option.some FieldType.int)) ∈ fh_T := fh_m5 197 rfl rfl
set_option maxRecDepth 8000 in
theorem w1158 : (Cond.methodLink "FormulaSetterModel" (279 : Nat) ({ cls := "FormulaSetterModel", name := "signD", desc := "(II)I" } : MethodName)) ∈ fh_T := fh_m5 198 rfl rfl
set_option maxRecDepth 8000 in
theorem w1159 : (Cond.static ({ cls := "FormulaSetterModel", name := "signD", desc := "(II)I" } : MethodName)) ∈ fh_T := fh_m5 199 rfl rfl
set_option maxRecDepth 8000 in
theorem w1160 : (Cond.code ({ cls := "FormulaSetterModel", name := "signD", desc := "(II)I" } : MethodName) prog_14_method_28_code (2 : Nat) (Option.some FieldType.int)) ∈ fh_T := fh_m5 200 rfl rfl
set_option maxRecDepth 8000 in
theorem w1161 : (Cond.methodLink "FormulaSetterModel" (288 : Nat) ({ cls := "FormulaSetterModel", name := "setLarge", desc := "(I)V" } : MethodName)) ∈ fh_T := fh_m5 201 rfl rfl
set_option maxRecDepth 8000 in
theorem w1163 : (Cond.instanceMethod ({ cls := "FormulaSetterModel", name := "setLarge", desc := "(I)V" } : MethodName)) ∈ fh_T := fh_m5 203 rfl rfl
set_option maxRecDepth 8000 in
theorem w1164 : (Cond.code ({ cls := "FormulaSetterModel", name := "setLarge", desc := "(I)V" } : MethodName) prog_14_method_40_code (4 : Nat) (Option.none : Option FieldType)) ∈ fh_T := fh_m5 204 rfl rfl
set_option maxRecDepth 8000 in
theorem w1165 : (Cond.methodLink "FormulaSetterModel" (270 : Nat) ({ cls := "FormulaSetterModel", name := "axisOf", desc := "(I)I" } : MethodName)) ∈ fh_T := fh_m5 205 rfl rfl
set_option maxRecDepth 8000 in
theorem w1166 : (Cond.static ({ cls := "FormulaSetterModel", name := "axisOf", desc := "(I)I" } : MethodName)) ∈ fh_T := fh_m5 206 rfl rfl
set_option maxRecDepth 8000 in
theorem w1167 : (Cond.code ({ cls := "FormulaSetterModel", name := "axisOf", desc := "(I)I" } : MethodName) prog_14_method_25_code (1 : Nat) (Option.some FieldType.int)) ∈ fh_T := fh_m5 207 rfl rfl
set_option maxRecDepth 8000 in
theorem w1168 : (Cond.methodLink "FormulaSetterModel" (291 : Nat) ({ cls := "FormulaSetterModel", name := "setFrac", desc := "(I)V" } : MethodName)) ∈ fh_T := fh_m5 208 rfl rfl
set_option maxRecDepth 8000 in
theorem w1170 : (Cond.instanceMethod ({ cls := "FormulaSetterModel", name := "setFrac", desc := "(I)V" } : MethodName)) ∈ fh_T := fh_m5 210 rfl rfl
set_option maxRecDepth 8000 in
theorem w1171 : (Cond.code ({ cls := "FormulaSetterModel", name := "setFrac", desc := "(I)V" } : MethodName) prog_14_method_35_code (9 : Nat) (Option.none : Option FieldType)) ∈ fh_T := fh_m5 211 rfl rfl
set_option maxRecDepth 8000 in
theorem w1172 : (Cond.methodLink "FormulaSetterModel" (267 : Nat) ({ cls := "FormulaSetterModel", name := "tOf", desc := "(I)I" } : MethodName)) ∈ fh_T := fh_m5 212 rfl rfl
set_option maxRecDepth 8000 in
theorem w1173 : (Cond.static ({ cls := "FormulaSetterModel", name := "tOf", desc := "(I)I" } : MethodName)) ∈ fh_T := fh_m5 213 rfl rfl
set_option maxRecDepth 8000 in
theorem w1174 : (Cond.code ({ cls := "FormulaSetterModel", name := "tOf", desc := "(I)I" } : MethodName) prog_14_method_24_code (1 : Nat) (Option.some FieldType.int)) ∈ fh_T := fh_m5 214 rfl rfl
set_option maxRecDepth 8000 in
theorem w1175 : (Cond.methodLink "FormulaSetterModel" (294 : Nat) ({ cls := "FormulaSetterModel", name := "setSqrt", desc := "(I)V" } : MethodName)) ∈ fh_T := fh_m5 215 rfl rfl
set_option maxRecDepth 8000 in
theorem w1177 : (Cond.instanceMethod ({ cls := "FormulaSetterModel", name := "setSqrt", desc := "(I)V" } : MethodName)) ∈ fh_T := fh_m5 217 rfl rfl
set_option maxRecDepth 8000 in
theorem w1178 : (Cond.code ({ cls := "FormulaSetterModel", name := "setSqrt", desc := "(I)V" } : MethodName) prog_14_method_36_code (6 : Nat) (Option.none : Option FieldType)) ∈ fh_T := fh_m5 218 rfl rfl
set_option maxRecDepth 8000 in
theorem w1179 : (Cond.methodLink "FormulaSetterModel" (273 : Nat) ({ cls := "FormulaSetterModel", name := "tallFor", desc := "(II)I" } : MethodName)) ∈ fh_T := fh_m5 219 rfl rfl
set_option maxRecDepth 8000 in
theorem w1180 : (Cond.static ({ cls := "FormulaSetterModel", name := "tallFor", desc := "(II)I" } : MethodName)) ∈ fh_T := fh_m5 220 rfl rfl
set_option maxRecDepth 8000 in
theorem w1181 : (Cond.code ({ cls := "FormulaSetterModel", name := "tallFor", desc := "(II)I" } : MethodName) prog_14_method_30_code (3 : Nat) (Option.some FieldType.int)) ∈ fh_T := fh_m5 221 rfl rfl
set_option maxRecDepth 8000 in
theorem w1182 : (Cond.methodLink "FormulaSetterModel" (297 : Nat) ({ cls := "FormulaSetterModel", name := "setLeft", desc := "(I)V" } : MethodName)) ∈ fh_T := fh_m5 222 rfl rfl
set_option maxRecDepth 8000 in
theorem w1184 : (Cond.instanceMethod ({ cls := "FormulaSetterModel", name := "setLeft", desc := "(I)V" } : MethodName)) ∈ fh_T := fh_m5 224 rfl rfl
set_option maxRecDepth 8000 in
theorem w1185 : (Cond.code ({ cls := "FormulaSetterModel", name := "setLeft", desc := "(I)V" } : MethodName) prog_14_method_38_code (7 : Nat) (Option.none : Option FieldType)) ∈ fh_T := fh_m5 225 rfl rfl
set_option maxRecDepth 8000 in
theorem w1186 : (Cond.methodLink "FormulaSetterModel" (300 : Nat) ({ cls := "FormulaSetterModel", name := "setMat", desc := "(I)V" } : MethodName)) ∈ fh_T := fh_m5 226 rfl rfl
set_option maxRecDepth 8000 in
theorem w1188 : (Cond.instanceMethod ({ cls := "FormulaSetterModel", name := "setMat", desc := "(I)V" } : MethodName)) ∈ fh_T := fh_m5 228 rfl rfl
set_option maxRecDepth 8000 in
theorem w1189 : (Cond.code ({ cls := "FormulaSetterModel", name := "setMat", desc := "(I)V" } : MethodName) prog_14_method_39_code (9 : Nat) (Option.none : Option FieldType)) ∈ fh_T := fh_m5 229 rfl rfl
set_option maxRecDepth 8000 in
theorem w1190 : (Cond.methodLink "FormulaSetterModel" (303 : Nat) ({ cls := "FormulaSetterModel", name := "setAccent", desc := "(I)V" } : MethodName)) ∈ fh_T := fh_m5 230 rfl rfl
set_option maxRecDepth 8000 in
theorem w1192 : (Cond.instanceMethod ({ cls := "FormulaSetterModel", name := "setAccent", desc := "(I)V" } : MethodName)) ∈ fh_T := fh_m5 232 rfl rfl
set_option maxRecDepth 8000 in
theorem w1193 : (Cond.code ({ cls := "FormulaSetterModel", name := "setAccent", desc := "(I)V" } : MethodName) prog_14_method_37_code (5 : Nat) (Option.none : Option FieldType)) ∈ fh_T := fh_m5 233 rfl rfl
set_option maxRecDepth 8000 in
theorem w1194 : (Cond.methodLink "FormulaSetterModel" (306 : Nat) ({ cls := "FormulaSetterModel", name := "setScripts", desc := "(I)V" } : MethodName)) ∈ fh_T := fh_m5 234 rfl rfl
set_option maxRecDepth 8000 in
theorem w1196 : (Cond.instanceMethod ({ cls := "FormulaSetterModel", name := "setScripts", desc := "(I)V" } : MethodName)) ∈ fh_T := fh_m5 236 rfl rfl
set_option maxRecDepth 8000 in
theorem w1197 : (Cond.code ({ cls := "FormulaSetterModel", name := "setScripts", desc := "(I)V" } : MethodName) prog_14_method_41_code (10 : Nat) (Option.none : Option FieldType)) ∈ fh_T := fh_m5 237 rfl rfl
set_option maxRecDepth 8000 in
theorem w1198 : (Cond.methodLink "FormulaSetterModel" (316 : Nat) ({ cls := "FormulaSetterModel", name := "enter", desc := "(I)V" } : MethodName)) ∈ fh_T := fh_m5 238 rfl rfl
set_option maxRecDepth 8000 in
theorem w1200 : (Cond.instanceMethod ({ cls := "FormulaSetterModel", name := "enter", desc := "(I)V" } : MethodName)) ∈ fh_T := fh_m6 0 rfl rfl
set_option maxRecDepth 8000 in
theorem w1201 : (Cond.code ({ cls := "FormulaSetterModel", name := "enter", desc := "(I)V" } : MethodName) prog_14_method_46_code (2 : Nat) (Option.none : Option FieldType)) ∈ fh_T := fh_m6 1 rfl rfl
set_option maxRecDepth 8000 in
theorem w1202 : (Cond.methodLink "FormulaSetterModel" (340 : Nat) ({ cls := "FormulaSetterModel", name := "walk", desc := "()V" } : MethodName)) ∈ fh_T := fh_m6 2 rfl rfl
set_option maxRecDepth 8000 in
theorem w1204 : (Cond.instanceMethod ({ cls := "FormulaSetterModel", name := "walk", desc := "()V" } : MethodName)) ∈ fh_T := fh_m6 4 rfl rfl
set_option maxRecDepth 8000 in
theorem w1205 : (Cond.code ({ cls := "FormulaSetterModel", name := "walk", desc := "()V" } : MethodName) prog_14_method_47_code (5 : Nat) (Option.none : Option FieldType)) ∈ fh_T := fh_m6 5 rfl rfl
set_option maxRecDepth 8000 in
theorem w1206 : (Cond.methodLink "FormulaSetterModel" (319 : Nat) ({ cls := "FormulaSetterModel", name := "sayBefore", desc := "(I)V" } : MethodName)) ∈ fh_T := fh_m6 6 rfl rfl
set_option maxRecDepth 8000 in
theorem w1208 : (Cond.instanceMethod ({ cls := "FormulaSetterModel", name := "sayBefore", desc := "(I)V" } : MethodName)) ∈ fh_T := fh_m6 8 rfl rfl
set_option maxRecDepth 8000 in
theorem w1209 : (Cond.code ({ cls := "FormulaSetterModel", name := "sayBefore", desc := "(I)V" } : MethodName) prog_14_method_44_code (6 : Nat) (Option.none : Option FieldType)) ∈ fh_T := fh_m6 9 rfl rfl
set_option maxRecDepth 8000 in
theorem w1210 : (Cond.methodLink "FormulaSetterModel" (312 : Nat) ({ cls := "FormulaSetterModel", name := "say", desc := "(IIIIII)V" } : MethodName)) ∈ fh_T := fh_m6 10 rfl rfl
set_option maxRecDepth 8000 in
theorem w1212 : (Cond.instanceMethod ({ cls := "FormulaSetterModel", name := "say", desc := "(IIIIII)V" } : MethodName)) ∈ fh_T := fh_m6 12 rfl rfl
set_option maxRecDepth 8000 in
theorem w1213 : (Cond.code ({ cls := "FormulaSetterModel", name := "say", desc := "(IIIIII)V" } : MethodName) prog_14_method_43_code (7 : Nat) (Option.none : Option FieldType)) ∈ fh_T := fh_m6 13 rfl rfl
set_option maxRecDepth 8000 in
theorem w1214 : (Cond.methodLink "FormulaSetterModel" (322 : Nat) ({ cls := "FormulaSetterModel", name := "sayBehind", desc := "(I)V" } : MethodName)) ∈ fh_T := fh_m6 14 rfl rfl
set_option maxRecDepth 8000 in
theorem w1216 : (Cond.instanceMethod ({ cls := "FormulaSetterModel", name := "sayBehind", desc := "(I)V" } : MethodName)) ∈ fh_T := fh_m6 16 rfl rfl
set_option maxRecDepth 8000 in
theorem w1217 : (Cond.code ({ cls := "FormulaSetterModel", name := "sayBehind", desc := "(I)V" } : MethodName) prog_14_method_45_code (6 : Nat) (Option.none : Option FieldType)) ∈ fh_T := fh_m6 17 rfl rfl
set_option maxRecDepth 8000 in
theorem w1218 : (Cond.methodLink "FormulaSetterLaw" (54 : Nat) ({ cls := "FormulaSetterModel", name := "pieces", desc := "()I" } : MethodName)) ∈ fh_T := fh_m6 18 rfl rfl
set_option maxRecDepth 8000 in
theorem w1219 : (Cond.instanceMethod ({ cls := "FormulaSetterModel", name := "pieces", desc := "()I" } : MethodName)) ∈ fh_T := fh_m6 19 rfl rfl
set_option maxRecDepth 8000 in
theorem w1220 : (Cond.selects "FormulaSetterModel" ({ cls := "FormulaSetterModel", name := "pieces", desc := "()I" } : MethodName) ({ cls := "FormulaSetterModel", name := "pieces", desc := "()I" } : MethodName)) ∈ fh_T := fh_m6 20 rfl rfl
set_option maxRecDepth 8000 in
theorem w1221 : (Cond.code ({ cls := "FormulaSetterModel", name := "pieces", desc := "()I" } : MethodName) prog_14_method_49_code (1 : Nat) (Option.some FieldType.int)) ∈ fh_T := fh_m6 21 rfl rfl
set_option maxRecDepth 8000 in
theorem w1222 : (Cond.methodLink "FormulaSetterLaw" (58 : Nat) ({ cls := "FormulaSetterModel", name := "piece", desc := "(II)I" } : MethodName)) ∈ fh_T := fh_m6 22 rfl rfl
set_option maxRecDepth 8000 in
theorem w1223 : (Cond.instanceMethod ({ cls := "FormulaSetterModel", name := "piece", desc := "(II)I" } : MethodName)) ∈ fh_T := fh_m6 23 rfl rfl
set_option maxRecDepth 8000 in
theorem w1224 : (Cond.selects "FormulaSetterModel" ({ cls := "FormulaSetterModel", name := "piece", desc := "(II)I" } : MethodName) ({ cls := "FormulaSetterModel", name := "piece", desc := "(II)I" } : MethodName)) ∈ fh_T := fh_m6 24 rfl rfl
set_option maxRecDepth 8000 in
theorem w1225 : (Cond.code ({ cls := "FormulaSetterModel", name := "piece", desc := "(II)I" } : MethodName) prog_14_method_50_code (3 : Nat) (Option.some FieldType.int)) ∈ fh_T := fh_m6 25 rfl rfl
set_option maxRecDepth 8000 in
theorem w1226 : (Cond.methodLink "FormulaSetterLaw" (62 : Nat) ({ cls := "FormulaSetterModel", name := "width", desc := "()I" } : MethodName)) ∈ fh_T := fh_m6 26 rfl rfl
set_option maxRecDepth 8000 in
theorem w1227 : (Cond.instanceMethod ({ cls := "FormulaSetterModel", name := "width", desc := "()I" } : MethodName)) ∈ fh_T := fh_m6 27 rfl rfl
set_option maxRecDepth 8000 in
theorem w1228 : (Cond.selects "FormulaSetterModel" ({ cls := "FormulaSetterModel", name := "width", desc := "()I" } : MethodName) ({ cls := "FormulaSetterModel", name := "width", desc := "()I" } : MethodName)) ∈ fh_T := fh_m6 28 rfl rfl
set_option maxRecDepth 8000 in
theorem w1229 : (Cond.code ({ cls := "FormulaSetterModel", name := "width", desc := "()I" } : MethodName) prog_14_method_51_code (1 : Nat) (Option.some FieldType.int)) ∈ fh_T := fh_m6 29 rfl rfl
set_option maxRecDepth 8000 in
theorem w1230 : (Cond.methodLink "FormulaSetterLaw" (66 : Nat) ({ cls := "FormulaSetterModel", name := "height", desc := "()I" } : MethodName)) ∈ fh_T := fh_m6 30 rfl rfl
set_option maxRecDepth 8000 in
theorem w1231 : (Cond.instanceMethod ({ cls := "FormulaSetterModel", name := "height", desc := "()I" } : MethodName)) ∈ fh_T := fh_m6 31 rfl rfl
set_option maxRecDepth 8000 in
theorem w1232 : (Cond.selects "FormulaSetterModel" ({ cls := "FormulaSetterModel", name := "height", desc := "()I" } : MethodName) ({ cls := "FormulaSetterModel", name := "height", desc := "()I" } : MethodName)) ∈ fh_T := fh_m6 32 rfl rfl
set_option maxRecDepth 8000 in
theorem w1233 : (Cond.code ({ cls := "FormulaSetterModel", name := "height", desc := "()I" } : MethodName) prog_14_method_52_code (1 : Nat) (Option.some FieldType.int)) ∈ fh_T := fh_m6 33 rfl rfl
set_option maxRecDepth 8000 in
theorem w1234 : (Cond.methodLink "FormulaSetterLaw" (70 : Nat) ({ cls := "FormulaSetterModel", name := "depth", desc := "()I" } : MethodName)) ∈ fh_T := fh_m6 34 rfl rfl
set_option maxRecDepth 8000 in
theorem w1235 : (Cond.instanceMethod ({ cls := "FormulaSetterModel", name := "depth", desc := "()I" } : MethodName)) ∈ fh_T := fh_m6 35 rfl rfl
set_option maxRecDepth 8000 in
theorem w1236 : (Cond.selects "FormulaSetterModel" ({ cls := "FormulaSetterModel", name := "depth", desc := "()I" } : MethodName) ({ cls := "FormulaSetterModel", name := "depth", desc := "()I" } : MethodName)) ∈ fh_T := fh_m6 36 rfl rfl
set_option maxRecDepth 8000 in
theorem w1237 : (Cond.code ({ cls := "FormulaSetterModel", name := "depth", desc := "()I" } : MethodName) prog_14_method_53_code (1 : Nat) (Option.some FieldType.int)) ∈ fh_T := fh_m6 37 rfl rfl
set_option maxRecDepth 8000 in
theorem w1238 : (Cond.constantLong "FormulaSetterLaw" (25 : Nat) (4294967295 : Int64)) ∈ fh_T := fh_m6 38 rfl rfl
set_option maxRecDepth 8000 in
theorem w1239 : (Cond.arrayClass FieldType.long) ∈ fh_T := fh_m6 39 rfl rfl
set_option maxRecDepth 8000 in
theorem w1240 : (Cond.sameMethod "java/lang/Throwable" "java/lang/Throwable" "fillInStackTrace" "(I)Ljava/lang/Throwable;") ∈ fh_T := fh_m6 40 rfl rfl
set_option maxRecDepth 8000 in
theorem w1241 : (Cond.fieldLink "java/lang/String" (9 : Nat) "java/lang/String" "value" "[B") ∈ fh_T := fh_m6 41 rfl rfl
set_option maxRecDepth 8000 in
theorem w1242 : (Cond.fieldLink "java/lang/String" (15 : Nat) "java/lang/String" "coder" "B") ∈ fh_T := fh_m6 42 rfl rfl
set_option maxRecDepth 8000 in
theorem w1243 : (Cond.fieldLink "FormulaSetter$Reader" (203 : Nat) "FormulaSetter$Kind" "command" "Ljava/lang/String;") ∈ fh_T := fh_m6 43 rfl rfl
set_option maxRecDepth 8000 in
theorem w1244 : (Cond.fieldLink "FormulaSetter$Kind" (60 : Nat) "FormulaSetter$Kind" "operator" "I") ∈ fh_T := fh_m6 44 rfl rfl
set_option maxRecDepth 8000 in
theorem w1245 : (Cond.fieldLink "FormulaSetter$Reader" (144 : Nat) "FormulaSetter$Kind" "operator" "I") ∈ fh_T := fh_m6 45 rfl rfl
set_option maxRecDepth 8000 in
theorem w1246 : (Cond.fieldLink "java/lang/Enum" (7 : Nat) "java/lang/Enum" "ordinal" "I") ∈ fh_T := fh_m6 46 rfl rfl
set_option maxRecDepth 8000 in
theorem w1247 : (Cond.fieldLink "FormulaSetter$Line" (35 : Nat) "FormulaSetter$Atom" "noBinBehind" "Z") ∈ fh_T := fh_m6 47 rfl rfl
set_option maxRecDepth 8000 in
theorem w1248 : (Cond.fieldLink "FormulaSetter$Line" (44 : Nat) "FormulaSetter$Atom" "noBinBefore" "Z") ∈ fh_T := fh_m6 48 rfl rfl
set_option maxRecDepth 8000 in
theorem w1249 : (Cond.fieldLink "FormulaSetter$Typesetter" (143 : Nat) "FormulaSetter$Style" "size" "I") ∈ fh_T := fh_m6 49 rfl rfl
set_option maxRecDepth 8000 in
theorem w1250 : (Cond.fieldLink "FormulaSetter$Typesetter" (211 : Nat) "FormulaSetter$Style" "axis" "I") ∈ fh_T := fh_m6 50 rfl rfl
set_option maxRecDepth 8000 in
theorem w1251 : (Cond.fieldLink "FormulaSetter$Typesetter" (128 : Nat) "FormulaSetter$Style" "thickness" "I") ∈ fh_T := fh_m6 51 rfl rfl
set_option maxRecDepth 8000 in
theorem w1252 : (Cond.fieldLink "FormulaSetter$Style" (35 : Nat) "FormulaSetter$Style" "size" "I") ∈ fh_T := fh_m6 52 rfl rfl
set_option maxRecDepth 8000 in
theorem w1253 : (Cond.fieldLink "FormulaSetter$Style" (49 : Nat) "FormulaSetter$Atom" "spaces" "Ljava/lang/String;") ∈ fh_T := fh_m6 53 rfl rfl
set_option maxRecDepth 8000 in
theorem w1254 : (Cond.fieldLink "FormulaSetter$Style" (55 : Nat) "FormulaSetter$Atom" "column" "I") ∈ fh_T := fh_m6 54 rfl rfl
theorem v0 : Cond.selects "FormulaSetter$Reader" ⟨"FormulaSetter$Reader", "readLine", "(I)LFormulaSetter$Line;"⟩ ⟨"FormulaSetter$Reader", "readLine", "(I)LFormulaSetter$Line;"⟩ ∈ fh_T := fh_memS 0 rfl rfl
theorem v1 : Cond.selects "FormulaSetter$Reader" ⟨"FormulaSetter$Reader", "freshLine", "()LFormulaSetter$Line;"⟩ ⟨"FormulaSetter$Reader", "freshLine", "()LFormulaSetter$Line;"⟩ ∈ fh_T := fh_memS 1 rfl rfl
theorem v2 : Cond.selects "FormulaSetter$Reader" ⟨"FormulaSetter$Reader", "isLineEnd", "()Z"⟩ ⟨"FormulaSetter$Reader", "isLineEnd", "()Z"⟩ ∈ fh_T := fh_memS 2 rfl rfl
theorem v3 : Cond.selects "FormulaSetter$Reader" ⟨"FormulaSetter$Reader", "peek", "()C"⟩ ⟨"FormulaSetter$Reader", "peek", "()C"⟩ ∈ fh_T := fh_memS 3 rfl rfl
theorem v4 : Cond.selects "FormulaSetter$Reader" ⟨"FormulaSetter$Reader", "seesRowEnd", "()Z"⟩ ⟨"FormulaSetter$Reader", "seesRowEnd", "()Z"⟩ ∈ fh_T := fh_memS 4 rfl rfl
theorem v5 : Cond.selects "FormulaSetter$Reader" ⟨"FormulaSetter$Reader", "seesCommand", "(Ljava/lang/String;)Z"⟩ ⟨"FormulaSetter$Reader", "seesCommand", "(Ljava/lang/String;)Z"⟩ ∈ fh_T := fh_memS 5 rfl rfl
theorem v6 : Cond.selects "FormulaSetter$Reader" ⟨"FormulaSetter$Reader", "readNucleus", "(I)LFormulaSetter$Nucleus;"⟩ ⟨"FormulaSetter$Reader", "readNucleus", "(I)LFormulaSetter$Nucleus;"⟩ ∈ fh_T := fh_memS 6 rfl rfl
theorem v7 : Cond.selects "FormulaSetter$Reader" ⟨"FormulaSetter$Reader", "freshNucleus", "()LFormulaSetter$Nucleus;"⟩ ⟨"FormulaSetter$Reader", "freshNucleus", "()LFormulaSetter$Nucleus;"⟩ ∈ fh_T := fh_memS 7 rfl rfl
theorem v8 : Cond.selects "FormulaSetter$Reader" ⟨"FormulaSetter$Reader", "readHead", "(LFormulaSetter$Nucleus;)Z"⟩ ⟨"FormulaSetter$Reader", "readHead", "(LFormulaSetter$Nucleus;)Z"⟩ ∈ fh_T := fh_memS 8 rfl rfl
theorem v9 : Cond.selects "FormulaSetter$Reader" ⟨"FormulaSetter$Reader", "takeCommand", "()LFormulaSetter$Kind;"⟩ ⟨"FormulaSetter$Reader", "takeCommand", "()LFormulaSetter$Kind;"⟩ ∈ fh_T := fh_memS 9 rfl rfl
theorem v10 : Cond.selects "FormulaSetter$Reader" ⟨"FormulaSetter$Reader", "readParts", "(LFormulaSetter$Nucleus;I)Z"⟩ ⟨"FormulaSetter$Reader", "readParts", "(LFormulaSetter$Nucleus;I)Z"⟩ ∈ fh_T := fh_memS 10 rfl rfl
theorem v11 : Cond.selects "FormulaSetter$Reader" ⟨"FormulaSetter$Reader", "take", "(C)Z"⟩ ⟨"FormulaSetter$Reader", "take", "(C)Z"⟩ ∈ fh_T := fh_memS 11 rfl rfl
theorem v12 : Cond.selects "FormulaSetter$Reader" ⟨"FormulaSetter$Reader", "readSides", "(LFormulaSetter$Nucleus;I)Z"⟩ ⟨"FormulaSetter$Reader", "readSides", "(LFormulaSetter$Nucleus;I)Z"⟩ ∈ fh_T := fh_memS 12 rfl rfl
theorem v13 : Cond.selects "FormulaSetter$Reader" ⟨"FormulaSetter$Reader", "takeSide", "()C"⟩ ⟨"FormulaSetter$Reader", "takeSide", "()C"⟩ ∈ fh_T := fh_memS 13 rfl rfl
theorem v14 : Cond.selects "FormulaSetter$Reader" ⟨"FormulaSetter$Reader", "readCells", "(LFormulaSetter$Nucleus;I)Z"⟩ ⟨"FormulaSetter$Reader", "readCells", "(LFormulaSetter$Nucleus;I)Z"⟩ ∈ fh_T := fh_memS 14 rfl rfl
theorem v15 : Cond.selects "FormulaSetter$Reader" ⟨"FormulaSetter$Reader", "readScripts", "(LFormulaSetter$Nucleus;I)Z"⟩ ⟨"FormulaSetter$Reader", "readScripts", "(LFormulaSetter$Nucleus;I)Z"⟩ ∈ fh_T := fh_memS 15 rfl rfl
theorem v16 : Cond.selects "java/lang/Throwable" ⟨"java/lang/Throwable", "fillInStackTrace", "(I)Ljava/lang/Throwable;"⟩ ⟨"java/lang/Throwable", "fillInStackTrace", "(I)Ljava/lang/Throwable;"⟩ ∈ fh_T := fh_memS 16 rfl rfl
theorem v17 : Cond.selects "FormulaSetter$Typesetter" ⟨"FormulaSetter$Typesetter", "setLine", "(LFormulaSetter$Line;LFormulaSetter$Style;Z)V"⟩ ⟨"FormulaSetter$Typesetter", "setLine", "(LFormulaSetter$Line;LFormulaSetter$Style;Z)V"⟩ ∈ fh_T := fh_memS 17 rfl rfl
theorem v18 : Cond.selects "FormulaSetter$Typesetter" ⟨"FormulaSetter$Typesetter", "setItem", "(LFormulaSetter$Nucleus;LFormulaSetter$Style;Z)V"⟩ ⟨"FormulaSetter$Typesetter", "setItem", "(LFormulaSetter$Nucleus;LFormulaSetter$Style;Z)V"⟩ ∈ fh_T := fh_memS 18 rfl rfl
theorem v19 : Cond.selects "FormulaSetter$Typesetter" ⟨"FormulaSetter$Typesetter", "setNucleus", "(LFormulaSetter$Nucleus;LFormulaSetter$Style;Z)V"⟩ ⟨"FormulaSetter$Typesetter", "setNucleus", "(LFormulaSetter$Nucleus;LFormulaSetter$Style;Z)V"⟩ ∈ fh_T := fh_memS 19 rfl rfl
theorem v20 : Cond.selects "FormulaSetter$Typesetter" ⟨"FormulaSetter$Typesetter", "setCharacter", "(LFormulaSetter$Nucleus;LFormulaSetter$Style;)V"⟩ ⟨"FormulaSetter$Typesetter", "setCharacter", "(LFormulaSetter$Nucleus;LFormulaSetter$Style;)V"⟩ ∈ fh_T := fh_memS 20 rfl rfl
theorem v21 : Cond.selects "FormulaSetter$Typesetter" ⟨"FormulaSetter$Typesetter", "addSign", "(IIII)V"⟩ ⟨"FormulaSetter$Typesetter", "addSign", "(IIII)V"⟩ ∈ fh_T := fh_memS 21 rfl rfl
theorem v22 : Cond.selects "FormulaSetter$Typesetter" ⟨"FormulaSetter$Typesetter", "setGroup", "(LFormulaSetter$Nucleus;LFormulaSetter$Line;LFormulaSetter$Style;Z)V"⟩ ⟨"FormulaSetter$Typesetter", "setGroup", "(LFormulaSetter$Nucleus;LFormulaSetter$Line;LFormulaSetter$Style;Z)V"⟩ ∈ fh_T := fh_memS 22 rfl rfl
theorem v23 : Cond.selects "FormulaSetter$Typesetter" ⟨"FormulaSetter$Typesetter", "setOperator", "(LFormulaSetter$Nucleus;LFormulaSetter$Style;)V"⟩ ⟨"FormulaSetter$Typesetter", "setOperator", "(LFormulaSetter$Nucleus;LFormulaSetter$Style;)V"⟩ ∈ fh_T := fh_memS 23 rfl rfl
theorem v24 : Cond.selects "FormulaSetter$Typesetter" ⟨"FormulaSetter$Typesetter", "setFraction", "(LFormulaSetter$Nucleus;LFormulaSetter$Nucleus;LFormulaSetter$Nucleus;LFormulaSetter$Style;Z)V"⟩ ⟨"FormulaSetter$Typesetter", "setFraction", "(LFormulaSetter$Nucleus;LFormulaSetter$Nucleus;LFormulaSetter$Nucleus;LFormulaSetter$Style;Z)V"⟩ ∈ fh_T := fh_memS 24 rfl rfl
theorem v25 : Cond.selects "FormulaSetter$Typesetter" ⟨"FormulaSetter$Typesetter", "setRoot", "(LFormulaSetter$Nucleus;LFormulaSetter$Nucleus;LFormulaSetter$Style;)V"⟩ ⟨"FormulaSetter$Typesetter", "setRoot", "(LFormulaSetter$Nucleus;LFormulaSetter$Nucleus;LFormulaSetter$Style;)V"⟩ ∈ fh_T := fh_memS 25 rfl rfl
theorem v26 : Cond.selects "FormulaSetter$Typesetter" ⟨"FormulaSetter$Typesetter", "setHat", "(LFormulaSetter$Nucleus;LFormulaSetter$Nucleus;LFormulaSetter$Style;)V"⟩ ⟨"FormulaSetter$Typesetter", "setHat", "(LFormulaSetter$Nucleus;LFormulaSetter$Nucleus;LFormulaSetter$Style;)V"⟩ ∈ fh_T := fh_memS 26 rfl rfl
theorem v27 : Cond.selects "FormulaSetter$Typesetter" ⟨"FormulaSetter$Typesetter", "setBar", "(LFormulaSetter$Nucleus;LFormulaSetter$Nucleus;LFormulaSetter$Style;)V"⟩ ⟨"FormulaSetter$Typesetter", "setBar", "(LFormulaSetter$Nucleus;LFormulaSetter$Nucleus;LFormulaSetter$Style;)V"⟩ ∈ fh_T := fh_memS 27 rfl rfl
theorem v28 : Cond.selects "FormulaSetter$Typesetter" ⟨"FormulaSetter$Typesetter", "setSides", "(LFormulaSetter$Nucleus;LFormulaSetter$Line;LFormulaSetter$Style;Z)V"⟩ ⟨"FormulaSetter$Typesetter", "setSides", "(LFormulaSetter$Nucleus;LFormulaSetter$Line;LFormulaSetter$Style;Z)V"⟩ ∈ fh_T := fh_memS 28 rfl rfl
theorem v29 : Cond.selects "FormulaSetter$Typesetter" ⟨"FormulaSetter$Typesetter", "setMatrix", "(LFormulaSetter$Nucleus;LFormulaSetter$Line;LFormulaSetter$Style;Z)V"⟩ ⟨"FormulaSetter$Typesetter", "setMatrix", "(LFormulaSetter$Nucleus;LFormulaSetter$Line;LFormulaSetter$Style;Z)V"⟩ ∈ fh_T := fh_memS 29 rfl rfl
theorem v30 : Cond.selects "FormulaSetter$Typesetter" ⟨"FormulaSetter$Typesetter", "placeLimits", "(LFormulaSetter$Nucleus;LFormulaSetter$Style;)V"⟩ ⟨"FormulaSetter$Typesetter", "placeLimits", "(LFormulaSetter$Nucleus;LFormulaSetter$Style;)V"⟩ ∈ fh_T := fh_memS 30 rfl rfl
theorem v31 : Cond.selects "FormulaSetter$Typesetter" ⟨"FormulaSetter$Typesetter", "placeScripts", "(LFormulaSetter$Nucleus;LFormulaSetter$Style;Z)V"⟩ ⟨"FormulaSetter$Typesetter", "placeScripts", "(LFormulaSetter$Nucleus;LFormulaSetter$Style;Z)V"⟩ ∈ fh_T := fh_memS 31 rfl rfl
theorem v32 : Cond.selects "FormulaSetterModel" ⟨"FormulaSetterModel", "read", "()Z"⟩ ⟨"FormulaSetterModel", "read", "()Z"⟩ ∈ fh_T := fh_memS 32 rfl rfl
theorem v33 : Cond.selects "FormulaSetterModel" ⟨"FormulaSetterModel", "make", "(I)I"⟩ ⟨"FormulaSetterModel", "make", "(I)I"⟩ ∈ fh_T := fh_memS 33 rfl rfl
theorem v34 : Cond.selects "FormulaSetterModel" ⟨"FormulaSetterModel", "push", "(III)V"⟩ ⟨"FormulaSetterModel", "push", "(III)V"⟩ ∈ fh_T := fh_memS 34 rfl rfl
theorem v35 : Cond.selects "FormulaSetterModel" ⟨"FormulaSetterModel", "blanks", "()V"⟩ ⟨"FormulaSetterModel", "blanks", "()V"⟩ ∈ fh_T := fh_memS 35 rfl rfl
theorem v36 : Cond.selects "FormulaSetterModel" ⟨"FormulaSetterModel", "here", "(I)I"⟩ ⟨"FormulaSetterModel", "here", "(I)I"⟩ ∈ fh_T := fh_memS 36 rfl rfl
theorem v37 : Cond.selects "FormulaSetterModel" ⟨"FormulaSetterModel", "inList", "()Z"⟩ ⟨"FormulaSetterModel", "inList", "()Z"⟩ ∈ fh_T := fh_memS 37 rfl rfl
theorem v38 : Cond.selects "FormulaSetterModel" ⟨"FormulaSetterModel", "deliver", "(I)V"⟩ ⟨"FormulaSetterModel", "deliver", "(I)V"⟩ ∈ fh_T := fh_memS 38 rfl rfl
theorem v39 : Cond.selects "FormulaSetterModel" ⟨"FormulaSetterModel", "cell", "(II)V"⟩ ⟨"FormulaSetterModel", "cell", "(II)V"⟩ ∈ fh_T := fh_memS 39 rfl rfl
theorem v40 : Cond.selects "FormulaSetterModel" ⟨"FormulaSetterModel", "nameHere", "()J"⟩ ⟨"FormulaSetterModel", "nameHere", "()J"⟩ ∈ fh_T := fh_memS 40 rfl rfl
theorem v41 : Cond.selects "FormulaSetterModel" ⟨"FormulaSetterModel", "side", "()I"⟩ ⟨"FormulaSetterModel", "side", "()I"⟩ ∈ fh_T := fh_memS 41 rfl rfl
theorem v42 : Cond.selects "FormulaSetterModel" ⟨"FormulaSetterModel", "begin", "()V"⟩ ⟨"FormulaSetterModel", "begin", "()V"⟩ ∈ fh_T := fh_memS 42 rfl rfl
theorem v43 : Cond.selects "FormulaSetterModel" ⟨"FormulaSetterModel", "nucleus", "(II)I"⟩ ⟨"FormulaSetterModel", "nucleus", "(II)I"⟩ ∈ fh_T := fh_memS 43 rfl rfl
theorem v44 : Cond.selects "FormulaSetterModel" ⟨"FormulaSetterModel", "inside", "(II)V"⟩ ⟨"FormulaSetterModel", "inside", "(II)V"⟩ ∈ fh_T := fh_memS 44 rfl rfl
theorem v45 : Cond.selects "FormulaSetterModel" ⟨"FormulaSetterModel", "obey", "(J)V"⟩ ⟨"FormulaSetterModel", "obey", "(J)V"⟩ ∈ fh_T := fh_memS 45 rfl rfl
theorem v46 : Cond.selects "FormulaSetterModel" ⟨"FormulaSetterModel", "letters", "()I"⟩ ⟨"FormulaSetterModel", "letters", "()I"⟩ ∈ fh_T := fh_memS 46 rfl rfl
theorem v47 : Cond.selects "FormulaSetterModel" ⟨"FormulaSetterModel", "handDown", "(I)V"⟩ ⟨"FormulaSetterModel", "handDown", "(I)V"⟩ ∈ fh_T := fh_memS 47 rfl rfl
theorem v48 : Cond.selects "FormulaSetterModel" ⟨"FormulaSetterModel", "hand", "(IIZ)V"⟩ ⟨"FormulaSetterModel", "hand", "(IIZ)V"⟩ ∈ fh_T := fh_memS 48 rfl rfl
theorem v49 : Cond.selects "FormulaSetterModel" ⟨"FormulaSetterModel", "measure", "(I)V"⟩ ⟨"FormulaSetterModel", "measure", "(I)V"⟩ ∈ fh_T := fh_memS 49 rfl rfl
theorem v50 : Cond.selects "FormulaSetterModel" ⟨"FormulaSetterModel", "setList", "(I)V"⟩ ⟨"FormulaSetterModel", "setList", "(I)V"⟩ ∈ fh_T := fh_memS 50 rfl rfl
theorem v51 : Cond.selects "FormulaSetterModel" ⟨"FormulaSetterModel", "setLarge", "(I)V"⟩ ⟨"FormulaSetterModel", "setLarge", "(I)V"⟩ ∈ fh_T := fh_memS 51 rfl rfl
theorem v52 : Cond.selects "FormulaSetterModel" ⟨"FormulaSetterModel", "setFrac", "(I)V"⟩ ⟨"FormulaSetterModel", "setFrac", "(I)V"⟩ ∈ fh_T := fh_memS 52 rfl rfl
theorem v53 : Cond.selects "FormulaSetterModel" ⟨"FormulaSetterModel", "setSqrt", "(I)V"⟩ ⟨"FormulaSetterModel", "setSqrt", "(I)V"⟩ ∈ fh_T := fh_memS 53 rfl rfl
theorem v54 : Cond.selects "FormulaSetterModel" ⟨"FormulaSetterModel", "setLeft", "(I)V"⟩ ⟨"FormulaSetterModel", "setLeft", "(I)V"⟩ ∈ fh_T := fh_memS 54 rfl rfl
theorem v55 : Cond.selects "FormulaSetterModel" ⟨"FormulaSetterModel", "setMat", "(I)V"⟩ ⟨"FormulaSetterModel", "setMat", "(I)V"⟩ ∈ fh_T := fh_memS 55 rfl rfl
theorem v56 : Cond.selects "FormulaSetterModel" ⟨"FormulaSetterModel", "setAccent", "(I)V"⟩ ⟨"FormulaSetterModel", "setAccent", "(I)V"⟩ ∈ fh_T := fh_memS 56 rfl rfl
theorem v57 : Cond.selects "FormulaSetterModel" ⟨"FormulaSetterModel", "setScripts", "(I)V"⟩ ⟨"FormulaSetterModel", "setScripts", "(I)V"⟩ ∈ fh_T := fh_memS 57 rfl rfl
theorem v58 : Cond.selects "FormulaSetterModel" ⟨"FormulaSetterModel", "enter", "(I)V"⟩ ⟨"FormulaSetterModel", "enter", "(I)V"⟩ ∈ fh_T := fh_memS 58 rfl rfl
theorem v59 : Cond.selects "FormulaSetterModel" ⟨"FormulaSetterModel", "walk", "()V"⟩ ⟨"FormulaSetterModel", "walk", "()V"⟩ ∈ fh_T := fh_memS 59 rfl rfl
theorem v60 : Cond.selects "FormulaSetterModel" ⟨"FormulaSetterModel", "sayBefore", "(I)V"⟩ ⟨"FormulaSetterModel", "sayBefore", "(I)V"⟩ ∈ fh_T := fh_memS 60 rfl rfl
theorem v61 : Cond.selects "FormulaSetterModel" ⟨"FormulaSetterModel", "say", "(IIIIII)V"⟩ ⟨"FormulaSetterModel", "say", "(IIIIII)V"⟩ ∈ fh_T := fh_memS 61 rfl rfl
theorem v62 : Cond.selects "FormulaSetterModel" ⟨"FormulaSetterModel", "sayBehind", "(I)V"⟩ ⟨"FormulaSetterModel", "sayBehind", "(I)V"⟩ ∈ fh_T := fh_memS 62 rfl rfl
