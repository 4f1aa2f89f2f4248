/-! words of the tables, by their places -/
theorem m1 : (Jvm.Cond.initialized "ChartKnitter") ∈ xall := mx 1 (by decide +kernel) (by decide +kernel)
theorem m2 : (Jvm.Cond.initialized "ChartKnitter$Chart") ∈ xall := mx 2 (by decide +kernel) (by decide +kernel)
theorem m3 : (Jvm.Cond.initialized "ChartKnitter$Stitch") ∈ xall := mx 3 (by decide +kernel) (by decide +kernel)
theorem m4 : (Jvm.Cond.initialized "ChartKnitter$Plan") ∈ xall := mx 4 (by decide +kernel) (by decide +kernel)
theorem m5 : (Jvm.Cond.initialized "ChartKnitter$Machine") ∈ xall := mx 5 (by decide +kernel) (by decide +kernel)
theorem m6 : (Jvm.Cond.initialized "ChartKnitter$Loops") ∈ xall := mx 6 (by decide +kernel) (by decide +kernel)
theorem m7 : (Jvm.Cond.initialized "ChartKnitter$Crossings") ∈ xall := mx 7 (by decide +kernel) (by decide +kernel)
theorem m8 : (Jvm.Cond.initialized "ChartKnitter$Row") ∈ xall := mx 8 (by decide +kernel) (by decide +kernel)
theorem m9 : (Jvm.Cond.initialized "ChartKnitterModel") ∈ xall := mx 9 (by decide +kernel) (by decide +kernel)
theorem m15 : (Jvm.Cond.initialized "java/lang/Math") ∈ xall := mx 15 (by decide +kernel) (by decide +kernel)
theorem m22 : (Jvm.Cond.methodLink "ChartKnitter" (3 : Nat) ({ cls := "java/lang/Object", name := "<init>", desc := "()V" } : Jvm.MethodName)) ∈ xall := mx 22 (by decide +kernel) (by decide +kernel)
theorem m23 : (Jvm.Cond.instanceMethod ({ cls := "java/lang/Object", name := "<init>", desc := "()V" } : Jvm.MethodName)) ∈ xall := mx 23 (by decide +kernel) (by decide +kernel)
theorem m24 : (Jvm.Cond.code ({ cls := "java/lang/Object", name := "<init>", desc := "()V" } : Jvm.MethodName) object_method_1_code (1 : Nat) (Option.none : Option Jvm.ClassFile.FieldType)) ∈ xall := mx 24 (by decide +kernel) (by decide +kernel)
theorem m25 : (Jvm.Cond.classLink "ChartKnitter" (9 : Nat) "ChartKnitter$Chart") ∈ xall := mx 25 (by decide +kernel) (by decide +kernel)
theorem m26 : (Jvm.Cond.instantiable "ChartKnitter$Chart" (7 : Nat)) ∈ xall := mx 26 (by decide +kernel) (by decide +kernel)
theorem m27 : (Jvm.Cond.methodLink "ChartKnitter" (11 : Nat) ({ cls := "ChartKnitter$Chart", name := "<init>", desc := "()V" } : Jvm.MethodName)) ∈ xall := mx 27 (by decide +kernel) (by decide +kernel)
theorem m28 : (Jvm.Cond.instanceMethod ({ cls := "ChartKnitter$Chart", name := "<init>", desc := "()V" } : Jvm.MethodName)) ∈ xall := mx 28 (by decide +kernel) (by decide +kernel)
theorem m29 : (Jvm.Cond.code ({ cls := "ChartKnitter$Chart", name := "<init>", desc := "()V" } : Jvm.MethodName) prog_2_method_1_code (2 : Nat) (Option.none : Option Jvm.ClassFile.FieldType)) ∈ xall := mx 29 (by decide +kernel) (by decide +kernel)
theorem m30 : (Jvm.Cond.methodLink "ChartKnitter$Chart" (3 : Nat) ({ cls := "java/lang/Object", name := "<init>", desc := "()V" } : Jvm.MethodName)) ∈ xall := mx 30 (by decide +kernel) (by decide +kernel)
theorem m31 : (Jvm.Cond.classLink "ChartKnitter$Chart" (19 : Nat) "ChartKnitter$Stitch") ∈ xall := mx 31 (by decide +kernel) (by decide +kernel)
theorem m33 : (Jvm.Cond.instantiable "ChartKnitter$Stitch" (6 : Nat)) ∈ xall := mx 33 (by decide +kernel) (by decide +kernel)
theorem m35 : (Jvm.Cond.instanceMethod ({ cls := "ChartKnitter$Stitch", name := "<init>", desc := "()V" } : Jvm.MethodName)) ∈ xall := mx 35 (by decide +kernel) (by decide +kernel)
theorem m36 : (Jvm.Cond.code ({ cls := "ChartKnitter$Stitch", name := "<init>", desc := "()V" } : Jvm.MethodName) prog_8_method_1_code (1 : Nat) (Option.none : Option Jvm.ClassFile.FieldType)) ∈ xall := mx 36 (by decide +kernel) (by decide +kernel)
theorem m37 : (Jvm.Cond.methodLink "ChartKnitter$Stitch" (3 : Nat) ({ cls := "java/lang/Object", name := "<init>", desc := "()V" } : Jvm.MethodName)) ∈ xall := mx 37 (by decide +kernel) (by decide +kernel)
theorem m38 : (Jvm.Cond.fieldLink "ChartKnitter$Crossings" (34 : Nat) "ChartKnitter$Stitch" "sign" "I") ∈ xall := mx 38 (by decide +kernel) (by decide +kernel)
theorem m39 : (Jvm.Cond.fieldLink "ChartKnitter$Stitch" (9 : Nat) "ChartKnitter$Stitch" "sign" "I") ∈ xall := mx 39 (by decide +kernel) (by decide +kernel)
theorem m40 : (Jvm.Cond.fieldLink "ChartKnitter$Chart" (53 : Nat) "ChartKnitter$Stitch" "sign" "I") ∈ xall := mx 40 (by decide +kernel) (by decide +kernel)
theorem m41 : (Jvm.Cond.fieldLink "ChartKnitter$Plan" (70 : Nat) "ChartKnitter$Stitch" "at" "I") ∈ xall := mx 41 (by decide +kernel) (by decide +kernel)
theorem m42 : (Jvm.Cond.fieldLink "ChartKnitter$Chart" (56 : Nat) "ChartKnitter$Stitch" "at" "I") ∈ xall := mx 42 (by decide +kernel) (by decide +kernel)
theorem m43 : (Jvm.Cond.fieldLink "ChartKnitter$Crossings" (30 : Nat) "ChartKnitter$Stitch" "left" "I") ∈ xall := mx 43 (by decide +kernel) (by decide +kernel)
theorem m44 : (Jvm.Cond.fieldLink "ChartKnitter$Chart" (59 : Nat) "ChartKnitter$Stitch" "left" "I") ∈ xall := mx 44 (by decide +kernel) (by decide +kernel)
theorem m45 : (Jvm.Cond.fieldLink "ChartKnitter$Stitch" (19 : Nat) "ChartKnitter$Stitch" "left" "I") ∈ xall := mx 45 (by decide +kernel) (by decide +kernel)
theorem m46 : (Jvm.Cond.fieldLink "ChartKnitter$Crossings" (32 : Nat) "ChartKnitter$Stitch" "right" "I") ∈ xall := mx 46 (by decide +kernel) (by decide +kernel)
theorem m47 : (Jvm.Cond.fieldLink "ChartKnitter$Chart" (62 : Nat) "ChartKnitter$Stitch" "right" "I") ∈ xall := mx 47 (by decide +kernel) (by decide +kernel)
theorem m48 : (Jvm.Cond.fieldLink "ChartKnitter$Stitch" (22 : Nat) "ChartKnitter$Stitch" "right" "I") ∈ xall := mx 48 (by decide +kernel) (by decide +kernel)
theorem m49 : (Jvm.Cond.fieldLink "ChartKnitter$Crossings" (24 : Nat) "ChartKnitter$Stitch" "firstTaken" "I") ∈ xall := mx 49 (by decide +kernel) (by decide +kernel)
theorem m50 : (Jvm.Cond.fieldLink "ChartKnitter$Plan" (48 : Nat) "ChartKnitter$Stitch" "firstTaken" "I") ∈ xall := mx 50 (by decide +kernel) (by decide +kernel)
theorem m51 : (Jvm.Cond.fieldLink "ChartKnitter$Chart" (65 : Nat) "ChartKnitter$Stitch" "firstTaken" "I") ∈ xall := mx 51 (by decide +kernel) (by decide +kernel)
theorem m52 : (Jvm.Cond.fieldLink "ChartKnitter$Stitch" (32 : Nat) "ChartKnitter$Stitch" "firstTaken" "I") ∈ xall := mx 52 (by decide +kernel) (by decide +kernel)
theorem m53 : (Jvm.Cond.fieldLink "ChartKnitter$Plan" (62 : Nat) "ChartKnitter$Stitch" "firstGiven" "I") ∈ xall := mx 53 (by decide +kernel) (by decide +kernel)
theorem m54 : (Jvm.Cond.fieldLink "ChartKnitter$Chart" (68 : Nat) "ChartKnitter$Stitch" "firstGiven" "I") ∈ xall := mx 54 (by decide +kernel) (by decide +kernel)
theorem m55 : (Jvm.Cond.fieldLink "ChartKnitter$Stitch" (29 : Nat) "ChartKnitter$Stitch" "firstGiven" "I") ∈ xall := mx 55 (by decide +kernel) (by decide +kernel)
theorem m56 : (Jvm.Cond.lays "ChartKnitter$Stitch" "ChartKnitter$Stitch" "sign" "I") ∈ xall := mx 56 (by decide +kernel) (by decide +kernel)
theorem m58 : (Jvm.Cond.lays "ChartKnitter$Stitch" "ChartKnitter$Stitch" "at" "I") ∈ xall := mx 58 (by decide +kernel) (by decide +kernel)
theorem m60 : (Jvm.Cond.lays "ChartKnitter$Stitch" "ChartKnitter$Stitch" "left" "I") ∈ xall := mx 60 (by decide +kernel) (by decide +kernel)
theorem m62 : (Jvm.Cond.lays "ChartKnitter$Stitch" "ChartKnitter$Stitch" "right" "I") ∈ xall := mx 62 (by decide +kernel) (by decide +kernel)
theorem m64 : (Jvm.Cond.lays "ChartKnitter$Stitch" "ChartKnitter$Stitch" "firstTaken" "I") ∈ xall := mx 64 (by decide +kernel) (by decide +kernel)
theorem m66 : (Jvm.Cond.lays "ChartKnitter$Stitch" "ChartKnitter$Stitch" "firstGiven" "I") ∈ xall := mx 66 (by decide +kernel) (by decide +kernel)
theorem m69 : (Jvm.Cond.arrayClass Jvm.ClassFile.FieldType.int) ∈ xall := mx 69 (by decide +kernel) (by decide +kernel)
theorem m70 : (Jvm.Cond.fieldLink "ChartKnitter$Chart" (9 : Nat) "ChartKnitter$Chart" "text" "[I") ∈ xall := mx 70 (by decide +kernel) (by decide +kernel)
theorem m71 : (Jvm.Cond.fieldLink "ChartKnitter" (65 : Nat) "ChartKnitter$Chart" "text" "[I") ∈ xall := mx 71 (by decide +kernel) (by decide +kernel)
theorem m72 : (Jvm.Cond.fieldLink "ChartKnitter$Chart" (15 : Nat) "ChartKnitter$Chart" "length" "I") ∈ xall := mx 72 (by decide +kernel) (by decide +kernel)
theorem m73 : (Jvm.Cond.fieldLink "ChartKnitter" (62 : Nat) "ChartKnitter$Chart" "length" "I") ∈ xall := mx 73 (by decide +kernel) (by decide +kernel)
theorem m74 : (Jvm.Cond.fieldLink "ChartKnitter$Chart" (21 : Nat) "ChartKnitter$Chart" "stitches" "[LChartKnitter$Stitch;") ∈ xall := mx 74 (by decide +kernel) (by decide +kernel)
theorem m75 : (Jvm.Cond.fieldLink "ChartKnitter$Plan" (41 : Nat) "ChartKnitter$Chart" "stitches" "[LChartKnitter$Stitch;") ∈ xall := mx 75 (by decide +kernel) (by decide +kernel)
theorem m76 : (Jvm.Cond.fieldLink "ChartKnitter" (249 : Nat) "ChartKnitter$Chart" "stitches" "[LChartKnitter$Stitch;") ∈ xall := mx 76 (by decide +kernel) (by decide +kernel)
theorem m77 : (Jvm.Cond.fieldLink "ChartKnitter$Chart" (25 : Nat) "ChartKnitter$Chart" "stitchCount" "I") ∈ xall := mx 77 (by decide +kernel) (by decide +kernel)
theorem m78 : (Jvm.Cond.fieldLink "ChartKnitter$Plan" (38 : Nat) "ChartKnitter$Chart" "stitchCount" "I") ∈ xall := mx 78 (by decide +kernel) (by decide +kernel)
theorem m79 : (Jvm.Cond.fieldLink "ChartKnitter" (246 : Nat) "ChartKnitter$Chart" "stitchCount" "I") ∈ xall := mx 79 (by decide +kernel) (by decide +kernel)
theorem m80 : (Jvm.Cond.fieldLink "ChartKnitter$Chart" (28 : Nat) "ChartKnitter$Chart" "taken" "I") ∈ xall := mx 80 (by decide +kernel) (by decide +kernel)
theorem m81 : (Jvm.Cond.fieldLink "ChartKnitter$Plan" (33 : Nat) "ChartKnitter$Chart" "taken" "I") ∈ xall := mx 81 (by decide +kernel) (by decide +kernel)
theorem m82 : (Jvm.Cond.fieldLink "ChartKnitter" (197 : Nat) "ChartKnitter$Chart" "taken" "I") ∈ xall := mx 82 (by decide +kernel) (by decide +kernel)
theorem m83 : (Jvm.Cond.fieldLink "ChartKnitter$Chart" (31 : Nat) "ChartKnitter$Chart" "given" "I") ∈ xall := mx 83 (by decide +kernel) (by decide +kernel)
theorem m84 : (Jvm.Cond.fieldLink "ChartKnitter" (200 : Nat) "ChartKnitter$Chart" "given" "I") ∈ xall := mx 84 (by decide +kernel) (by decide +kernel)
theorem m85 : (Jvm.Cond.fieldLink "ChartKnitter$Chart" (34 : Nat) "ChartKnitter$Chart" "made" "I") ∈ xall := mx 85 (by decide +kernel) (by decide +kernel)
theorem m86 : (Jvm.Cond.fieldLink "ChartKnitter" (216 : Nat) "ChartKnitter$Chart" "made" "I") ∈ xall := mx 86 (by decide +kernel) (by decide +kernel)
theorem m87 : (Jvm.Cond.laysFinal "ChartKnitter$Chart" "ChartKnitter$Chart" "text" "[I") ∈ xall := mx 87 (by decide +kernel) (by decide +kernel)
theorem m89 : (Jvm.Cond.lays "ChartKnitter$Chart" "ChartKnitter$Chart" "length" "I") ∈ xall := mx 89 (by decide +kernel) (by decide +kernel)
theorem m91 : (Jvm.Cond.laysFinal "ChartKnitter$Chart" "ChartKnitter$Chart" "stitches" "[LChartKnitter$Stitch;") ∈ xall := mx 91 (by decide +kernel) (by decide +kernel)
theorem m93 : (Jvm.Cond.lays "ChartKnitter$Chart" "ChartKnitter$Chart" "stitchCount" "I") ∈ xall := mx 93 (by decide +kernel) (by decide +kernel)
theorem m95 : (Jvm.Cond.lays "ChartKnitter$Chart" "ChartKnitter$Chart" "taken" "I") ∈ xall := mx 95 (by decide +kernel) (by decide +kernel)
theorem m97 : (Jvm.Cond.lays "ChartKnitter$Chart" "ChartKnitter$Chart" "given" "I") ∈ xall := mx 97 (by decide +kernel) (by decide +kernel)
theorem m99 : (Jvm.Cond.lays "ChartKnitter$Chart" "ChartKnitter$Chart" "made" "I") ∈ xall := mx 99 (by decide +kernel) (by decide +kernel)
theorem m102 : (Jvm.Cond.classLink "ChartKnitter" (16 : Nat) "ChartKnitter$Plan") ∈ xall := mx 102 (by decide +kernel) (by decide +kernel)
theorem m103 : (Jvm.Cond.instantiable "ChartKnitter$Plan" (5 : Nat)) ∈ xall := mx 103 (by decide +kernel) (by decide +kernel)
theorem m104 : (Jvm.Cond.methodLink "ChartKnitter" (18 : Nat) ({ cls := "ChartKnitter$Plan", name := "<init>", desc := "()V" } : Jvm.MethodName)) ∈ xall := mx 104 (by decide +kernel) (by decide +kernel)
theorem m105 : (Jvm.Cond.instanceMethod ({ cls := "ChartKnitter$Plan", name := "<init>", desc := "()V" } : Jvm.MethodName)) ∈ xall := mx 105 (by decide +kernel) (by decide +kernel)
theorem m106 : (Jvm.Cond.code ({ cls := "ChartKnitter$Plan", name := "<init>", desc := "()V" } : Jvm.MethodName) prog_6_method_1_code (3 : Nat) (Option.none : Option Jvm.ClassFile.FieldType)) ∈ xall := mx 106 (by decide +kernel) (by decide +kernel)
theorem m107 : (Jvm.Cond.methodLink "ChartKnitter$Plan" (3 : Nat) ({ cls := "java/lang/Object", name := "<init>", desc := "()V" } : Jvm.MethodName)) ∈ xall := mx 107 (by decide +kernel) (by decide +kernel)
theorem m108 : (Jvm.Cond.classLink "ChartKnitter$Plan" (15 : Nat) "ChartKnitter$Stitch") ∈ xall := mx 108 (by decide +kernel) (by decide +kernel)
theorem m110 : (Jvm.Cond.fieldLink "ChartKnitter$Plan" (9 : Nat) "ChartKnitter$Plan" "columns" "I") ∈ xall := mx 110 (by decide +kernel) (by decide +kernel)
theorem m111 : (Jvm.Cond.fieldLink "ChartKnitter$Machine" (45 : Nat) "ChartKnitter$Plan" "columns" "I") ∈ xall := mx 111 (by decide +kernel) (by decide +kernel)
theorem m112 : (Jvm.Cond.fieldLink "ChartKnitter" (238 : Nat) "ChartKnitter$Plan" "columns" "I") ∈ xall := mx 112 (by decide +kernel) (by decide +kernel)
theorem m113 : (Jvm.Cond.fieldLink "ChartKnitter$Plan" (17 : Nat) "ChartKnitter$Plan" "takers" "[LChartKnitter$Stitch;") ∈ xall := mx 113 (by decide +kernel) (by decide +kernel)
theorem m114 : (Jvm.Cond.fieldLink "ChartKnitter$Machine" (64 : Nat) "ChartKnitter$Plan" "takers" "[LChartKnitter$Stitch;") ∈ xall := mx 114 (by decide +kernel) (by decide +kernel)
theorem m115 : (Jvm.Cond.fieldLink "ChartKnitter$Plan" (21 : Nat) "ChartKnitter$Plan" "goals" "[I") ∈ xall := mx 115 (by decide +kernel) (by decide +kernel)
theorem m116 : (Jvm.Cond.fieldLink "ChartKnitter$Machine" (48 : Nat) "ChartKnitter$Plan" "goals" "[I") ∈ xall := mx 116 (by decide +kernel) (by decide +kernel)
theorem m117 : (Jvm.Cond.fieldLink "ChartKnitter" (239 : Nat) "ChartKnitter$Plan" "goals" "[I") ∈ xall := mx 117 (by decide +kernel) (by decide +kernel)
theorem m118 : (Jvm.Cond.fieldLink "ChartKnitter$Plan" (25 : Nat) "ChartKnitter$Plan" "late" "[Z") ∈ xall := mx 118 (by decide +kernel) (by decide +kernel)
theorem m119 : (Jvm.Cond.fieldLink "ChartKnitter$Machine" (60 : Nat) "ChartKnitter$Plan" "late" "[Z") ∈ xall := mx 119 (by decide +kernel) (by decide +kernel)
theorem m120 : (Jvm.Cond.fieldLink "ChartKnitter" (242 : Nat) "ChartKnitter$Plan" "late" "[Z") ∈ xall := mx 120 (by decide +kernel) (by decide +kernel)
theorem m121 : (Jvm.Cond.fieldLink "ChartKnitter$Plan" (29 : Nat) "ChartKnitter$Plan" "givers" "[LChartKnitter$Stitch;") ∈ xall := mx 121 (by decide +kernel) (by decide +kernel)
theorem m122 : (Jvm.Cond.fieldLink "ChartKnitter" (263 : Nat) "ChartKnitter$Plan" "givers" "[LChartKnitter$Stitch;") ∈ xall := mx 122 (by decide +kernel) (by decide +kernel)
theorem m123 : (Jvm.Cond.lays "ChartKnitter$Plan" "ChartKnitter$Plan" "columns" "I") ∈ xall := mx 123 (by decide +kernel) (by decide +kernel)
theorem m125 : (Jvm.Cond.laysFinal "ChartKnitter$Plan" "ChartKnitter$Plan" "takers" "[LChartKnitter$Stitch;") ∈ xall := mx 125 (by decide +kernel) (by decide +kernel)
theorem m127 : (Jvm.Cond.laysFinal "ChartKnitter$Plan" "ChartKnitter$Plan" "goals" "[I") ∈ xall := mx 127 (by decide +kernel) (by decide +kernel)
theorem m129 : (Jvm.Cond.laysFinal "ChartKnitter$Plan" "ChartKnitter$Plan" "late" "[Z") ∈ xall := mx 129 (by decide +kernel) (by decide +kernel)
theorem m131 : (Jvm.Cond.laysFinal "ChartKnitter$Plan" "ChartKnitter$Plan" "givers" "[LChartKnitter$Stitch;") ∈ xall := mx 131 (by decide +kernel) (by decide +kernel)
theorem m134 : (Jvm.Cond.arrayClass Jvm.ClassFile.FieldType.boolean) ∈ xall := mx 134 (by decide +kernel) (by decide +kernel)
theorem m135 : (Jvm.Cond.classLink "ChartKnitter" (23 : Nat) "ChartKnitter$Machine") ∈ xall := mx 135 (by decide +kernel) (by decide +kernel)
theorem m136 : (Jvm.Cond.instantiable "ChartKnitter$Machine" (3 : Nat)) ∈ xall := mx 136 (by decide +kernel) (by decide +kernel)
theorem m138 : (Jvm.Cond.instanceMethod ({ cls := "ChartKnitter$Machine", name := "<init>", desc := "()V" } : Jvm.MethodName)) ∈ xall := mx 138 (by decide +kernel) (by decide +kernel)
theorem m139 : (Jvm.Cond.code ({ cls := "ChartKnitter$Machine", name := "<init>", desc := "()V" } : Jvm.MethodName) prog_5_method_1_code (1 : Nat) (Option.none : Option Jvm.ClassFile.FieldType)) ∈ xall := mx 139 (by decide +kernel) (by decide +kernel)
theorem m140 : (Jvm.Cond.methodLink "ChartKnitter$Machine" (3 : Nat) ({ cls := "java/lang/Object", name := "<init>", desc := "()V" } : Jvm.MethodName)) ∈ xall := mx 140 (by decide +kernel) (by decide +kernel)
theorem m141 : (Jvm.Cond.fieldLink "ChartKnitter$Machine" (9 : Nat) "ChartKnitter$Machine" "rack" "I") ∈ xall := mx 141 (by decide +kernel) (by decide +kernel)
theorem m142 : (Jvm.Cond.fieldLink "ChartKnitter$Machine" (15 : Nat) "ChartKnitter$Machine" "transfers" "I") ∈ xall := mx 142 (by decide +kernel) (by decide +kernel)
theorem m143 : (Jvm.Cond.fieldLink "ChartKnitter" (221 : Nat) "ChartKnitter$Machine" "transfers" "I") ∈ xall := mx 143 (by decide +kernel) (by decide +kernel)
theorem m144 : (Jvm.Cond.fieldLink "ChartKnitter$Machine" (18 : Nat) "ChartKnitter$Machine" "rackings" "I") ∈ xall := mx 144 (by decide +kernel) (by decide +kernel)
theorem m145 : (Jvm.Cond.fieldLink "ChartKnitter" (222 : Nat) "ChartKnitter$Machine" "rackings" "I") ∈ xall := mx 145 (by decide +kernel) (by decide +kernel)
theorem m146 : (Jvm.Cond.lays "ChartKnitter$Machine" "ChartKnitter$Machine" "rack" "I") ∈ xall := mx 146 (by decide +kernel) (by decide +kernel)
theorem m148 : (Jvm.Cond.lays "ChartKnitter$Machine" "ChartKnitter$Machine" "transfers" "I") ∈ xall := mx 148 (by decide +kernel) (by decide +kernel)
theorem m150 : (Jvm.Cond.lays "ChartKnitter$Machine" "ChartKnitter$Machine" "rackings" "I") ∈ xall := mx 150 (by decide +kernel) (by decide +kernel)
theorem m153 : (Jvm.Cond.classLink "ChartKnitter" (30 : Nat) "ChartKnitter$Loops") ∈ xall := mx 153 (by decide +kernel) (by decide +kernel)
theorem m154 : (Jvm.Cond.instantiable "ChartKnitter$Loops" (6 : Nat)) ∈ xall := mx 154 (by decide +kernel) (by decide +kernel)
theorem m156 : (Jvm.Cond.instanceMethod ({ cls := "ChartKnitter$Loops", name := "<init>", desc := "()V" } : Jvm.MethodName)) ∈ xall := mx 156 (by decide +kernel) (by decide +kernel)
theorem m157 : (Jvm.Cond.code ({ cls := "ChartKnitter$Loops", name := "<init>", desc := "()V" } : Jvm.MethodName) prog_4_method_1_code (1 : Nat) (Option.none : Option Jvm.ClassFile.FieldType)) ∈ xall := mx 157 (by decide +kernel) (by decide +kernel)
theorem m158 : (Jvm.Cond.methodLink "ChartKnitter$Loops" (3 : Nat) ({ cls := "java/lang/Object", name := "<init>", desc := "()V" } : Jvm.MethodName)) ∈ xall := mx 158 (by decide +kernel) (by decide +kernel)
theorem m159 : (Jvm.Cond.fieldLink "ChartKnitter$Loops" (9 : Nat) "ChartKnitter$Loops" "row" "[I") ∈ xall := mx 159 (by decide +kernel) (by decide +kernel)
theorem m160 : (Jvm.Cond.fieldLink "ChartKnitter" (169 : Nat) "ChartKnitter$Loops" "row" "[I") ∈ xall := mx 160 (by decide +kernel) (by decide +kernel)
theorem m161 : (Jvm.Cond.fieldLink "ChartKnitter$Loops" (15 : Nat) "ChartKnitter$Loops" "column" "[I") ∈ xall := mx 161 (by decide +kernel) (by decide +kernel)
theorem m162 : (Jvm.Cond.fieldLink "ChartKnitter" (172 : Nat) "ChartKnitter$Loops" "column" "[I") ∈ xall := mx 162 (by decide +kernel) (by decide +kernel)
theorem m163 : (Jvm.Cond.fieldLink "ChartKnitter$Loops" (18 : Nat) "ChartKnitter$Loops" "bed" "[I") ∈ xall := mx 163 (by decide +kernel) (by decide +kernel)
theorem m164 : (Jvm.Cond.fieldLink "ChartKnitter" (175 : Nat) "ChartKnitter$Loops" "bed" "[I") ∈ xall := mx 164 (by decide +kernel) (by decide +kernel)
theorem m165 : (Jvm.Cond.fieldLink "ChartKnitter$Loops" (21 : Nat) "ChartKnitter$Loops" "carrier" "[I") ∈ xall := mx 165 (by decide +kernel) (by decide +kernel)
theorem m166 : (Jvm.Cond.fieldLink "ChartKnitter" (178 : Nat) "ChartKnitter$Loops" "carrier" "[I") ∈ xall := mx 166 (by decide +kernel) (by decide +kernel)
theorem m167 : (Jvm.Cond.fieldLink "ChartKnitter$Loops" (24 : Nat) "ChartKnitter$Loops" "where" "[I") ∈ xall := mx 167 (by decide +kernel) (by decide +kernel)
theorem m168 : (Jvm.Cond.fieldLink "ChartKnitter" (129 : Nat) "ChartKnitter$Loops" "where" "[I") ∈ xall := mx 168 (by decide +kernel) (by decide +kernel)
theorem m169 : (Jvm.Cond.fieldLink "ChartKnitter$Loops" (27 : Nat) "ChartKnitter$Loops" "parents" "[I") ∈ xall := mx 169 (by decide +kernel) (by decide +kernel)
theorem m170 : (Jvm.Cond.fieldLink "ChartKnitter" (166 : Nat) "ChartKnitter$Loops" "parents" "[I") ∈ xall := mx 170 (by decide +kernel) (by decide +kernel)
theorem m171 : (Jvm.Cond.laysFinal "ChartKnitter$Loops" "ChartKnitter$Loops" "row" "[I") ∈ xall := mx 171 (by decide +kernel) (by decide +kernel)
theorem m173 : (Jvm.Cond.laysFinal "ChartKnitter$Loops" "ChartKnitter$Loops" "column" "[I") ∈ xall := mx 173 (by decide +kernel) (by decide +kernel)
theorem m175 : (Jvm.Cond.laysFinal "ChartKnitter$Loops" "ChartKnitter$Loops" "bed" "[I") ∈ xall := mx 175 (by decide +kernel) (by decide +kernel)
theorem m177 : (Jvm.Cond.laysFinal "ChartKnitter$Loops" "ChartKnitter$Loops" "carrier" "[I") ∈ xall := mx 177 (by decide +kernel) (by decide +kernel)
theorem m179 : (Jvm.Cond.laysFinal "ChartKnitter$Loops" "ChartKnitter$Loops" "where" "[I") ∈ xall := mx 179 (by decide +kernel) (by decide +kernel)
theorem m181 : (Jvm.Cond.laysFinal "ChartKnitter$Loops" "ChartKnitter$Loops" "parents" "[I") ∈ xall := mx 181 (by decide +kernel) (by decide +kernel)
theorem m184 : (Jvm.Cond.classLink "ChartKnitter" (37 : Nat) "ChartKnitter$Crossings") ∈ xall := mx 184 (by decide +kernel) (by decide +kernel)
theorem m185 : (Jvm.Cond.instantiable "ChartKnitter$Crossings" (4 : Nat)) ∈ xall := mx 185 (by decide +kernel) (by decide +kernel)
theorem m187 : (Jvm.Cond.instanceMethod ({ cls := "ChartKnitter$Crossings", name := "<init>", desc := "()V" } : Jvm.MethodName)) ∈ xall := mx 187 (by decide +kernel) (by decide +kernel)
theorem m188 : (Jvm.Cond.code ({ cls := "ChartKnitter$Crossings", name := "<init>", desc := "()V" } : Jvm.MethodName) prog_3_method_1_code (1 : Nat) (Option.none : Option Jvm.ClassFile.FieldType)) ∈ xall := mx 188 (by decide +kernel) (by decide +kernel)
theorem m189 : (Jvm.Cond.methodLink "ChartKnitter$Crossings" (3 : Nat) ({ cls := "java/lang/Object", name := "<init>", desc := "()V" } : Jvm.MethodName)) ∈ xall := mx 189 (by decide +kernel) (by decide +kernel)
theorem m190 : (Jvm.Cond.fieldLink "ChartKnitter$Crossings" (9 : Nat) "ChartKnitter$Crossings" "first" "[I") ∈ xall := mx 190 (by decide +kernel) (by decide +kernel)
theorem m191 : (Jvm.Cond.fieldLink "ChartKnitter$Crossings" (15 : Nat) "ChartKnitter$Crossings" "left" "[I") ∈ xall := mx 191 (by decide +kernel) (by decide +kernel)
theorem m192 : (Jvm.Cond.fieldLink "ChartKnitter$Crossings" (18 : Nat) "ChartKnitter$Crossings" "right" "[I") ∈ xall := mx 192 (by decide +kernel) (by decide +kernel)
theorem m193 : (Jvm.Cond.fieldLink "ChartKnitter$Crossings" (21 : Nat) "ChartKnitter$Crossings" "leftInFront" "[I") ∈ xall := mx 193 (by decide +kernel) (by decide +kernel)
theorem m194 : (Jvm.Cond.laysFinal "ChartKnitter$Crossings" "ChartKnitter$Crossings" "first" "[I") ∈ xall := mx 194 (by decide +kernel) (by decide +kernel)
theorem m196 : (Jvm.Cond.laysFinal "ChartKnitter$Crossings" "ChartKnitter$Crossings" "left" "[I") ∈ xall := mx 196 (by decide +kernel) (by decide +kernel)
theorem m198 : (Jvm.Cond.laysFinal "ChartKnitter$Crossings" "ChartKnitter$Crossings" "right" "[I") ∈ xall := mx 198 (by decide +kernel) (by decide +kernel)
theorem m200 : (Jvm.Cond.laysFinal "ChartKnitter$Crossings" "ChartKnitter$Crossings" "leftInFront" "[I") ∈ xall := mx 200 (by decide +kernel) (by decide +kernel)
theorem m203 : (Jvm.Cond.classLink "ChartKnitter" (44 : Nat) "ChartKnitter$Row") ∈ xall := mx 203 (by decide +kernel) (by decide +kernel)
theorem m205 : (Jvm.Cond.instantiable "ChartKnitter$Row" (13 : Nat)) ∈ xall := mx 205 (by decide +kernel) (by decide +kernel)
theorem m207 : (Jvm.Cond.instanceMethod ({ cls := "ChartKnitter$Row", name := "<init>", desc := "()V" } : Jvm.MethodName)) ∈ xall := mx 207 (by decide +kernel) (by decide +kernel)
theorem m208 : (Jvm.Cond.code ({ cls := "ChartKnitter$Row", name := "<init>", desc := "()V" } : Jvm.MethodName) prog_7_method_1_code (1 : Nat) (Option.none : Option Jvm.ClassFile.FieldType)) ∈ xall := mx 208 (by decide +kernel) (by decide +kernel)
theorem m209 : (Jvm.Cond.methodLink "ChartKnitter$Row" (3 : Nat) ({ cls := "java/lang/Object", name := "<init>", desc := "()V" } : Jvm.MethodName)) ∈ xall := mx 209 (by decide +kernel) (by decide +kernel)
theorem m210 : (Jvm.Cond.fieldLink "ChartKnitter$Row" (9 : Nat) "ChartKnitter$Row" "columns" "I") ∈ xall := mx 210 (by decide +kernel) (by decide +kernel)
theorem m211 : (Jvm.Cond.fieldLink "ChartKnitter" (101 : Nat) "ChartKnitter$Row" "columns" "I") ∈ xall := mx 211 (by decide +kernel) (by decide +kernel)
theorem m212 : (Jvm.Cond.fieldLink "ChartKnitter$Row" (15 : Nat) "ChartKnitter$Row" "stacks" "[I") ∈ xall := mx 212 (by decide +kernel) (by decide +kernel)
theorem m213 : (Jvm.Cond.fieldLink "ChartKnitter$Row" (19 : Nat) "ChartKnitter$Row" "sizes" "[I") ∈ xall := mx 213 (by decide +kernel) (by decide +kernel)
theorem m214 : (Jvm.Cond.fieldLink "ChartKnitter$Crossings" (51 : Nat) "ChartKnitter$Row" "sizes" "[I") ∈ xall := mx 214 (by decide +kernel) (by decide +kernel)
theorem m215 : (Jvm.Cond.fieldLink "ChartKnitter$Chart" (82 : Nat) "ChartKnitter$Row" "sizes" "[I") ∈ xall := mx 215 (by decide +kernel) (by decide +kernel)
theorem m216 : (Jvm.Cond.fieldLink "ChartKnitter" (126 : Nat) "ChartKnitter$Row" "sizes" "[I") ∈ xall := mx 216 (by decide +kernel) (by decide +kernel)
theorem m217 : (Jvm.Cond.fieldLink "ChartKnitter$Row" (22 : Nat) "ChartKnitter$Row" "beds" "[I") ∈ xall := mx 217 (by decide +kernel) (by decide +kernel)
theorem m218 : (Jvm.Cond.fieldLink "ChartKnitter$Machine" (52 : Nat) "ChartKnitter$Row" "beds" "[I") ∈ xall := mx 218 (by decide +kernel) (by decide +kernel)
theorem m219 : (Jvm.Cond.fieldLink "ChartKnitter" (84 : Nat) "ChartKnitter$Row" "beds" "[I") ∈ xall := mx 219 (by decide +kernel) (by decide +kernel)
theorem m220 : (Jvm.Cond.fieldLink "ChartKnitter$Stitch" (38 : Nat) "ChartKnitter$Row" "beds" "[I") ∈ xall := mx 220 (by decide +kernel) (by decide +kernel)
theorem m221 : (Jvm.Cond.fieldLink "ChartKnitter$Row" (25 : Nat) "ChartKnitter$Row" "sides" "[I") ∈ xall := mx 221 (by decide +kernel) (by decide +kernel)
theorem m222 : (Jvm.Cond.fieldLink "ChartKnitter" (98 : Nat) "ChartKnitter$Row" "sides" "[I") ∈ xall := mx 222 (by decide +kernel) (by decide +kernel)
theorem m223 : (Jvm.Cond.fieldLink "ChartKnitter$Row" (28 : Nat) "ChartKnitter$Row" "loops" "I") ∈ xall := mx 223 (by decide +kernel) (by decide +kernel)
theorem m224 : (Jvm.Cond.fieldLink "ChartKnitter" (91 : Nat) "ChartKnitter$Row" "loops" "I") ∈ xall := mx 224 (by decide +kernel) (by decide +kernel)
theorem m225 : (Jvm.Cond.fieldLink "ChartKnitter$Row" (31 : Nat) "ChartKnitter$Row" "dropped" "I") ∈ xall := mx 225 (by decide +kernel) (by decide +kernel)
theorem m226 : (Jvm.Cond.fieldLink "ChartKnitter" (93 : Nat) "ChartKnitter$Row" "dropped" "I") ∈ xall := mx 226 (by decide +kernel) (by decide +kernel)
theorem m227 : (Jvm.Cond.fieldLink "ChartKnitter$Row" (34 : Nat) "ChartKnitter$Row" "crossings" "I") ∈ xall := mx 227 (by decide +kernel) (by decide +kernel)
theorem m228 : (Jvm.Cond.fieldLink "ChartKnitter" (96 : Nat) "ChartKnitter$Row" "crossings" "I") ∈ xall := mx 228 (by decide +kernel) (by decide +kernel)
theorem m229 : (Jvm.Cond.fieldLink "ChartKnitter$Row" (37 : Nat) "ChartKnitter$Row" "transfers" "I") ∈ xall := mx 229 (by decide +kernel) (by decide +kernel)
theorem m230 : (Jvm.Cond.fieldLink "ChartKnitter" (144 : Nat) "ChartKnitter$Row" "transfers" "I") ∈ xall := mx 230 (by decide +kernel) (by decide +kernel)
theorem m231 : (Jvm.Cond.fieldLink "ChartKnitter$Row" (40 : Nat) "ChartKnitter$Row" "rackings" "I") ∈ xall := mx 231 (by decide +kernel) (by decide +kernel)
theorem m232 : (Jvm.Cond.fieldLink "ChartKnitter" (147 : Nat) "ChartKnitter$Row" "rackings" "I") ∈ xall := mx 232 (by decide +kernel) (by decide +kernel)
theorem m233 : (Jvm.Cond.fieldLink "ChartKnitter$Row" (43 : Nat) "ChartKnitter$Row" "released" "I") ∈ xall := mx 233 (by decide +kernel) (by decide +kernel)
theorem m234 : (Jvm.Cond.fieldLink "ChartKnitter" (150 : Nat) "ChartKnitter$Row" "released" "I") ∈ xall := mx 234 (by decide +kernel) (by decide +kernel)
theorem m235 : (Jvm.Cond.fieldLink "ChartKnitter$Row" (46 : Nat) "ChartKnitter$Row" "made" "I") ∈ xall := mx 235 (by decide +kernel) (by decide +kernel)
theorem m236 : (Jvm.Cond.fieldLink "ChartKnitter" (153 : Nat) "ChartKnitter$Row" "made" "I") ∈ xall := mx 236 (by decide +kernel) (by decide +kernel)
theorem m237 : (Jvm.Cond.fieldLink "ChartKnitter$Row" (49 : Nat) "ChartKnitter$Row" "crossedPairs" "I") ∈ xall := mx 237 (by decide +kernel) (by decide +kernel)
theorem m238 : (Jvm.Cond.fieldLink "ChartKnitter" (156 : Nat) "ChartKnitter$Row" "crossedPairs" "I") ∈ xall := mx 238 (by decide +kernel) (by decide +kernel)
theorem m239 : (Jvm.Cond.lays "ChartKnitter$Row" "ChartKnitter$Row" "columns" "I") ∈ xall := mx 239 (by decide +kernel) (by decide +kernel)
theorem m241 : (Jvm.Cond.laysFinal "ChartKnitter$Row" "ChartKnitter$Row" "stacks" "[I") ∈ xall := mx 241 (by decide +kernel) (by decide +kernel)
theorem m243 : (Jvm.Cond.laysFinal "ChartKnitter$Row" "ChartKnitter$Row" "sizes" "[I") ∈ xall := mx 243 (by decide +kernel) (by decide +kernel)
theorem m245 : (Jvm.Cond.laysFinal "ChartKnitter$Row" "ChartKnitter$Row" "beds" "[I") ∈ xall := mx 245 (by decide +kernel) (by decide +kernel)
theorem m247 : (Jvm.Cond.laysFinal "ChartKnitter$Row" "ChartKnitter$Row" "sides" "[I") ∈ xall := mx 247 (by decide +kernel) (by decide +kernel)
theorem m249 : (Jvm.Cond.lays "ChartKnitter$Row" "ChartKnitter$Row" "loops" "I") ∈ xall := mx 249 (by decide +kernel) (by decide +kernel)
theorem m251 : (Jvm.Cond.lays "ChartKnitter$Row" "ChartKnitter$Row" "dropped" "I") ∈ xall := mx 251 (by decide +kernel) (by decide +kernel)
theorem m253 : (Jvm.Cond.lays "ChartKnitter$Row" "ChartKnitter$Row" "crossings" "I") ∈ xall := mx 253 (by decide +kernel) (by decide +kernel)
theorem m255 : (Jvm.Cond.lays "ChartKnitter$Row" "ChartKnitter$Row" "transfers" "I") ∈ xall := mx 255 (by decide +kernel) (by decide +kernel)
theorem m257 : (Jvm.Cond.lays "ChartKnitter$Row" "ChartKnitter$Row" "rackings" "I") ∈ xall := mx 257 (by decide +kernel) (by decide +kernel)
theorem m259 : (Jvm.Cond.lays "ChartKnitter$Row" "ChartKnitter$Row" "released" "I") ∈ xall := mx 259 (by decide +kernel) (by decide +kernel)
theorem m261 : (Jvm.Cond.lays "ChartKnitter$Row" "ChartKnitter$Row" "made" "I") ∈ xall := mx 261 (by decide +kernel) (by decide +kernel)
theorem m263 : (Jvm.Cond.lays "ChartKnitter$Row" "ChartKnitter$Row" "crossedPairs" "I") ∈ xall := mx 263 (by decide +kernel) (by decide +kernel)
theorem m266 : (Jvm.Cond.fieldLink "ChartKnitter" (12 : Nat) "ChartKnitter" "chart" "LChartKnitter$Chart;") ∈ xall := mx 266 (by decide +kernel) (by decide +kernel)
theorem m267 : (Jvm.Cond.fieldLink "ChartKnitter" (19 : Nat) "ChartKnitter" "plan" "LChartKnitter$Plan;") ∈ xall := mx 267 (by decide +kernel) (by decide +kernel)
theorem m268 : (Jvm.Cond.fieldLink "ChartKnitter" (26 : Nat) "ChartKnitter" "machine" "LChartKnitter$Machine;") ∈ xall := mx 268 (by decide +kernel) (by decide +kernel)
theorem m269 : (Jvm.Cond.fieldLink "ChartKnitter" (33 : Nat) "ChartKnitter" "loops" "LChartKnitter$Loops;") ∈ xall := mx 269 (by decide +kernel) (by decide +kernel)
theorem m270 : (Jvm.Cond.fieldLink "ChartKnitter" (40 : Nat) "ChartKnitter" "crossings" "LChartKnitter$Crossings;") ∈ xall := mx 270 (by decide +kernel) (by decide +kernel)
theorem m271 : (Jvm.Cond.fieldLink "ChartKnitter" (46 : Nat) "ChartKnitter" "rows" "[LChartKnitter$Row;") ∈ xall := mx 271 (by decide +kernel) (by decide +kernel)
theorem m272 : (Jvm.Cond.fieldLink "ChartKnitter" (50 : Nat) "ChartKnitter" "lastRow" "I") ∈ xall := mx 272 (by decide +kernel) (by decide +kernel)
theorem m273 : (Jvm.Cond.fieldLink "ChartKnitter" (54 : Nat) "ChartKnitter" "faultPlace" "I") ∈ xall := mx 273 (by decide +kernel) (by decide +kernel)
theorem m274 : (Jvm.Cond.laysFinal "ChartKnitter" "ChartKnitter" "chart" "LChartKnitter$Chart;") ∈ xall := mx 274 (by decide +kernel) (by decide +kernel)
theorem m276 : (Jvm.Cond.laysFinal "ChartKnitter" "ChartKnitter" "plan" "LChartKnitter$Plan;") ∈ xall := mx 276 (by decide +kernel) (by decide +kernel)
theorem m278 : (Jvm.Cond.laysFinal "ChartKnitter" "ChartKnitter" "machine" "LChartKnitter$Machine;") ∈ xall := mx 278 (by decide +kernel) (by decide +kernel)
theorem m280 : (Jvm.Cond.laysFinal "ChartKnitter" "ChartKnitter" "loops" "LChartKnitter$Loops;") ∈ xall := mx 280 (by decide +kernel) (by decide +kernel)
theorem m282 : (Jvm.Cond.laysFinal "ChartKnitter" "ChartKnitter" "crossings" "LChartKnitter$Crossings;") ∈ xall := mx 282 (by decide +kernel) (by decide +kernel)
theorem m284 : (Jvm.Cond.laysFinal "ChartKnitter" "ChartKnitter" "rows" "[LChartKnitter$Row;") ∈ xall := mx 284 (by decide +kernel) (by decide +kernel)
theorem m286 : (Jvm.Cond.lays "ChartKnitter" "ChartKnitter" "lastRow" "I") ∈ xall := mx 286 (by decide +kernel) (by decide +kernel)
theorem m288 : (Jvm.Cond.lays "ChartKnitter" "ChartKnitter" "faultPlace" "I") ∈ xall := mx 288 (by decide +kernel) (by decide +kernel)
theorem m295 : (Jvm.Cond.methodLink "ChartKnitter" (58 : Nat) ({ cls := "ChartKnitter", name := "byteOf", desc := "(JI)I" } : Jvm.MethodName)) ∈ xall := mx 295 (by decide +kernel) (by decide +kernel)
theorem m296 : (Jvm.Cond.static ({ cls := "ChartKnitter", name := "byteOf", desc := "(JI)I" } : Jvm.MethodName)) ∈ xall := mx 296 (by decide +kernel) (by decide +kernel)
theorem m297 : (Jvm.Cond.code ({ cls := "ChartKnitter", name := "byteOf", desc := "(JI)I" } : Jvm.MethodName) prog_1_method_19_code (3 : Nat) (Option.some Jvm.ClassFile.FieldType.int)) ∈ xall := mx 297 (by decide +kernel) (by decide +kernel)
theorem m298 : (Jvm.Cond.constantLong "ChartKnitter" (192 : Nat) (255 : Int64)) ∈ xall := mx 298 (by decide +kernel) (by decide +kernel)
theorem m311 : (Jvm.Cond.methodLink "ChartKnitter" (132 : Nat) ({ cls := "ChartKnitter$Row", name := "loopAt", desc := "(II)I" } : Jvm.MethodName)) ∈ xall := mx 311 (by decide +kernel) (by decide +kernel)
theorem m312 : (Jvm.Cond.instanceMethod ({ cls := "ChartKnitter$Row", name := "loopAt", desc := "(II)I" } : Jvm.MethodName)) ∈ xall := mx 312 (by decide +kernel) (by decide +kernel)
theorem m313 : (Jvm.Cond.selects "ChartKnitter$Row" ({ cls := "ChartKnitter$Row", name := "loopAt", desc := "(II)I" } : Jvm.MethodName) ({ cls := "ChartKnitter$Row", name := "loopAt", desc := "(II)I" } : Jvm.MethodName)) ∈ xall := mx 313 (by decide +kernel) (by decide +kernel)
theorem m314 : (Jvm.Cond.code ({ cls := "ChartKnitter$Row", name := "loopAt", desc := "(II)I" } : Jvm.MethodName) prog_7_method_4_code (3 : Nat) (Option.some Jvm.ClassFile.FieldType.int)) ∈ xall := mx 314 (by decide +kernel) (by decide +kernel)
theorem m323 : (Jvm.Cond.methodLink "ChartKnitter" (189 : Nat) ({ cls := "ChartKnitter$Row", name := "hasColumn", desc := "(I)Z" } : Jvm.MethodName)) ∈ xall := mx 323 (by decide +kernel) (by decide +kernel)
theorem m324 : (Jvm.Cond.instanceMethod ({ cls := "ChartKnitter$Row", name := "hasColumn", desc := "(I)Z" } : Jvm.MethodName)) ∈ xall := mx 324 (by decide +kernel) (by decide +kernel)
theorem m325 : (Jvm.Cond.selects "ChartKnitter$Row" ({ cls := "ChartKnitter$Row", name := "hasColumn", desc := "(I)Z" } : Jvm.MethodName) ({ cls := "ChartKnitter$Row", name := "hasColumn", desc := "(I)Z" } : Jvm.MethodName)) ∈ xall := mx 325 (by decide +kernel) (by decide +kernel)
theorem m326 : (Jvm.Cond.code ({ cls := "ChartKnitter$Row", name := "hasColumn", desc := "(I)Z" } : Jvm.MethodName) prog_7_method_3_code (2 : Nat) (Option.some Jvm.ClassFile.FieldType.boolean)) ∈ xall := mx 326 (by decide +kernel) (by decide +kernel)
theorem m335 : (Jvm.Cond.methodLink "ChartKnitter" (109 : Nat) ({ cls := "ChartKnitter", name := "isCarrier", desc := "(I)Z" } : Jvm.MethodName)) ∈ xall := mx 335 (by decide +kernel) (by decide +kernel)
theorem m336 : (Jvm.Cond.static ({ cls := "ChartKnitter", name := "isCarrier", desc := "(I)Z" } : Jvm.MethodName)) ∈ xall := mx 336 (by decide +kernel) (by decide +kernel)
theorem m337 : (Jvm.Cond.code ({ cls := "ChartKnitter", name := "isCarrier", desc := "(I)Z" } : Jvm.MethodName) prog_1_method_18_code (1 : Nat) (Option.some Jvm.ClassFile.FieldType.boolean)) ∈ xall := mx 337 (by decide +kernel) (by decide +kernel)
theorem m414 : (Jvm.Cond.methodLink "ChartKnitter" (76 : Nat) ({ cls := "ChartKnitter$Row", name := "begin", desc := "(I)V" } : Jvm.MethodName)) ∈ xall := mx 414 (by decide +kernel) (by decide +kernel)
theorem m415 : (Jvm.Cond.instanceMethod ({ cls := "ChartKnitter$Row", name := "begin", desc := "(I)V" } : Jvm.MethodName)) ∈ xall := mx 415 (by decide +kernel) (by decide +kernel)
theorem m416 : (Jvm.Cond.selects "ChartKnitter$Row" ({ cls := "ChartKnitter$Row", name := "begin", desc := "(I)V" } : Jvm.MethodName) ({ cls := "ChartKnitter$Row", name := "begin", desc := "(I)V" } : Jvm.MethodName)) ∈ xall := mx 416 (by decide +kernel) (by decide +kernel)
theorem m417 : (Jvm.Cond.code ({ cls := "ChartKnitter$Row", name := "begin", desc := "(I)V" } : Jvm.MethodName) prog_7_method_2_code (3 : Nat) (Option.none : Option Jvm.ClassFile.FieldType)) ∈ xall := mx 417 (by decide +kernel) (by decide +kernel)
theorem m418 : (Jvm.Cond.methodLink "ChartKnitter" (80 : Nat) ({ cls := "ChartKnitter$Loops", name := "make", desc := "(IIIII)V" } : Jvm.MethodName)) ∈ xall := mx 418 (by decide +kernel) (by decide +kernel)
theorem m419 : (Jvm.Cond.instanceMethod ({ cls := "ChartKnitter$Loops", name := "make", desc := "(IIIII)V" } : Jvm.MethodName)) ∈ xall := mx 419 (by decide +kernel) (by decide +kernel)
theorem m420 : (Jvm.Cond.selects "ChartKnitter$Loops" ({ cls := "ChartKnitter$Loops", name := "make", desc := "(IIIII)V" } : Jvm.MethodName) ({ cls := "ChartKnitter$Loops", name := "make", desc := "(IIIII)V" } : Jvm.MethodName)) ∈ xall := mx 420 (by decide +kernel) (by decide +kernel)
theorem m421 : (Jvm.Cond.code ({ cls := "ChartKnitter$Loops", name := "make", desc := "(IIIII)V" } : Jvm.MethodName) prog_4_method_2_code (7 : Nat) (Option.none : Option Jvm.ClassFile.FieldType)) ∈ xall := mx 421 (by decide +kernel) (by decide +kernel)
theorem m422 : (Jvm.Cond.methodLink "ChartKnitter" (87 : Nat) ({ cls := "ChartKnitter$Row", name := "push", desc := "(II)V" } : Jvm.MethodName)) ∈ xall := mx 422 (by decide +kernel) (by decide +kernel)
theorem m423 : (Jvm.Cond.instanceMethod ({ cls := "ChartKnitter$Row", name := "push", desc := "(II)V" } : Jvm.MethodName)) ∈ xall := mx 423 (by decide +kernel) (by decide +kernel)
theorem m424 : (Jvm.Cond.selects "ChartKnitter$Row" ({ cls := "ChartKnitter$Row", name := "push", desc := "(II)V" } : Jvm.MethodName) ({ cls := "ChartKnitter$Row", name := "push", desc := "(II)V" } : Jvm.MethodName)) ∈ xall := mx 424 (by decide +kernel) (by decide +kernel)
theorem m425 : (Jvm.Cond.code ({ cls := "ChartKnitter$Row", name := "push", desc := "(II)V" } : Jvm.MethodName) prog_7_method_5_code (3 : Nat) (Option.none : Option Jvm.ClassFile.FieldType)) ∈ xall := mx 425 (by decide +kernel) (by decide +kernel)
theorem m451 : (Jvm.Cond.methodLink "ChartKnitter" (115 : Nat) ({ cls := "ChartKnitter", name := "faultOfChart", desc := "()I" } : Jvm.MethodName)) ∈ xall := mx 451 (by decide +kernel) (by decide +kernel)
theorem m453 : (Jvm.Cond.instanceMethod ({ cls := "ChartKnitter", name := "faultOfChart", desc := "()I" } : Jvm.MethodName)) ∈ xall := mx 453 (by decide +kernel) (by decide +kernel)
theorem m454 : (Jvm.Cond.code ({ cls := "ChartKnitter", name := "faultOfChart", desc := "()I" } : Jvm.MethodName) prog_1_method_21_code (5 : Nat) (Option.some Jvm.ClassFile.FieldType.int)) ∈ xall := mx 454 (by decide +kernel) (by decide +kernel)
theorem m455 : (Jvm.Cond.methodLink "ChartKnitter" (194 : Nat) ({ cls := "ChartKnitter$Chart", name := "read", desc := "()I" } : Jvm.MethodName)) ∈ xall := mx 455 (by decide +kernel) (by decide +kernel)
theorem m456 : (Jvm.Cond.instanceMethod ({ cls := "ChartKnitter$Chart", name := "read", desc := "()I" } : Jvm.MethodName)) ∈ xall := mx 456 (by decide +kernel) (by decide +kernel)
theorem m457 : (Jvm.Cond.selects "ChartKnitter$Chart" ({ cls := "ChartKnitter$Chart", name := "read", desc := "()I" } : Jvm.MethodName) ({ cls := "ChartKnitter$Chart", name := "read", desc := "()I" } : Jvm.MethodName)) ∈ xall := mx 457 (by decide +kernel) (by decide +kernel)
theorem m458 : (Jvm.Cond.code ({ cls := "ChartKnitter$Chart", name := "read", desc := "()I" } : Jvm.MethodName) prog_2_method_2_code (3 : Nat) (Option.some Jvm.ClassFile.FieldType.int)) ∈ xall := mx 458 (by decide +kernel) (by decide +kernel)
theorem m459 : (Jvm.Cond.methodLink "ChartKnitter$Chart" (38 : Nat) ({ cls := "ChartKnitter$Stitch", name := "isSign", desc := "(I)Z" } : Jvm.MethodName)) ∈ xall := mx 459 (by decide +kernel) (by decide +kernel)
theorem m460 : (Jvm.Cond.static ({ cls := "ChartKnitter$Stitch", name := "isSign", desc := "(I)Z" } : Jvm.MethodName)) ∈ xall := mx 460 (by decide +kernel) (by decide +kernel)
theorem m461 : (Jvm.Cond.code ({ cls := "ChartKnitter$Stitch", name := "isSign", desc := "(I)Z" } : Jvm.MethodName) prog_8_method_2_code (1 : Nat) (Option.some Jvm.ClassFile.FieldType.boolean)) ∈ xall := mx 461 (by decide +kernel) (by decide +kernel)
theorem m462 : (Jvm.Cond.methodLink "ChartKnitter$Chart" (42 : Nat) ({ cls := "ChartKnitter$Stitch", name := "isCrossingSign", desc := "(I)Z" } : Jvm.MethodName)) ∈ xall := mx 462 (by decide +kernel) (by decide +kernel)
theorem m463 : (Jvm.Cond.static ({ cls := "ChartKnitter$Stitch", name := "isCrossingSign", desc := "(I)Z" } : Jvm.MethodName)) ∈ xall := mx 463 (by decide +kernel) (by decide +kernel)
theorem m464 : (Jvm.Cond.code ({ cls := "ChartKnitter$Stitch", name := "isCrossingSign", desc := "(I)Z" } : Jvm.MethodName) prog_8_method_3_code (1 : Nat) (Option.some Jvm.ClassFile.FieldType.boolean)) ∈ xall := mx 464 (by decide +kernel) (by decide +kernel)
theorem m465 : (Jvm.Cond.methodLink "ChartKnitter$Chart" (45 : Nat) ({ cls := "ChartKnitter$Chart", name := "digitAt", desc := "(I)I" } : Jvm.MethodName)) ∈ xall := mx 465 (by decide +kernel) (by decide +kernel)
theorem m467 : (Jvm.Cond.instanceMethod ({ cls := "ChartKnitter$Chart", name := "digitAt", desc := "(I)I" } : Jvm.MethodName)) ∈ xall := mx 467 (by decide +kernel) (by decide +kernel)
theorem m468 : (Jvm.Cond.code ({ cls := "ChartKnitter$Chart", name := "digitAt", desc := "(I)I" } : Jvm.MethodName) prog_2_method_3_code (2 : Nat) (Option.some Jvm.ClassFile.FieldType.int)) ∈ xall := mx 468 (by decide +kernel) (by decide +kernel)
theorem m469 : (Jvm.Cond.methodLink "ChartKnitter$Chart" (49 : Nat) ({ cls := "ChartKnitter$Chart", name := "add", desc := "(IZ)V" } : Jvm.MethodName)) ∈ xall := mx 469 (by decide +kernel) (by decide +kernel)
theorem m471 : (Jvm.Cond.instanceMethod ({ cls := "ChartKnitter$Chart", name := "add", desc := "(IZ)V" } : Jvm.MethodName)) ∈ xall := mx 471 (by decide +kernel) (by decide +kernel)
theorem m472 : (Jvm.Cond.code ({ cls := "ChartKnitter$Chart", name := "add", desc := "(IZ)V" } : Jvm.MethodName) prog_2_method_4_code (4 : Nat) (Option.none : Option Jvm.ClassFile.FieldType)) ∈ xall := mx 472 (by decide +kernel) (by decide +kernel)
theorem m473 : (Jvm.Cond.methodLink "ChartKnitter$Chart" (71 : Nat) ({ cls := "ChartKnitter$Stitch", name := "takes", desc := "()I" } : Jvm.MethodName)) ∈ xall := mx 473 (by decide +kernel) (by decide +kernel)
theorem m474 : (Jvm.Cond.instanceMethod ({ cls := "ChartKnitter$Stitch", name := "takes", desc := "()I" } : Jvm.MethodName)) ∈ xall := mx 474 (by decide +kernel) (by decide +kernel)
theorem m475 : (Jvm.Cond.selects "ChartKnitter$Stitch" ({ cls := "ChartKnitter$Stitch", name := "takes", desc := "()I" } : Jvm.MethodName) ({ cls := "ChartKnitter$Stitch", name := "takes", desc := "()I" } : Jvm.MethodName)) ∈ xall := mx 475 (by decide +kernel) (by decide +kernel)
theorem m476 : (Jvm.Cond.code ({ cls := "ChartKnitter$Stitch", name := "takes", desc := "()I" } : Jvm.MethodName) prog_8_method_5_code (1 : Nat) (Option.some Jvm.ClassFile.FieldType.int)) ∈ xall := mx 476 (by decide +kernel) (by decide +kernel)
theorem m477 : (Jvm.Cond.methodLink "ChartKnitter$Chart" (75 : Nat) ({ cls := "ChartKnitter$Stitch", name := "gives", desc := "()I" } : Jvm.MethodName)) ∈ xall := mx 477 (by decide +kernel) (by decide +kernel)
theorem m478 : (Jvm.Cond.instanceMethod ({ cls := "ChartKnitter$Stitch", name := "gives", desc := "()I" } : Jvm.MethodName)) ∈ xall := mx 478 (by decide +kernel) (by decide +kernel)
theorem m479 : (Jvm.Cond.selects "ChartKnitter$Stitch" ({ cls := "ChartKnitter$Stitch", name := "gives", desc := "()I" } : Jvm.MethodName) ({ cls := "ChartKnitter$Stitch", name := "gives", desc := "()I" } : Jvm.MethodName)) ∈ xall := mx 479 (by decide +kernel) (by decide +kernel)
theorem m480 : (Jvm.Cond.code ({ cls := "ChartKnitter$Stitch", name := "gives", desc := "()I" } : Jvm.MethodName) prog_8_method_6_code (1 : Nat) (Option.some Jvm.ClassFile.FieldType.int)) ∈ xall := mx 480 (by decide +kernel) (by decide +kernel)
theorem m481 : (Jvm.Cond.methodLink "ChartKnitter$Chart" (78 : Nat) ({ cls := "ChartKnitter$Stitch", name := "makesLoop", desc := "()Z" } : Jvm.MethodName)) ∈ xall := mx 481 (by decide +kernel) (by decide +kernel)
theorem m482 : (Jvm.Cond.instanceMethod ({ cls := "ChartKnitter$Stitch", name := "makesLoop", desc := "()Z" } : Jvm.MethodName)) ∈ xall := mx 482 (by decide +kernel) (by decide +kernel)
theorem m483 : (Jvm.Cond.selects "ChartKnitter$Stitch" ({ cls := "ChartKnitter$Stitch", name := "makesLoop", desc := "()Z" } : Jvm.MethodName) ({ cls := "ChartKnitter$Stitch", name := "makesLoop", desc := "()Z" } : Jvm.MethodName)) ∈ xall := mx 483 (by decide +kernel) (by decide +kernel)
theorem m484 : (Jvm.Cond.code ({ cls := "ChartKnitter$Stitch", name := "makesLoop", desc := "()Z" } : Jvm.MethodName) prog_8_method_7_code (1 : Nat) (Option.some Jvm.ClassFile.FieldType.boolean)) ∈ xall := mx 484 (by decide +kernel) (by decide +kernel)
theorem m485 : (Jvm.Cond.methodLink "ChartKnitter" (203 : Nat) ({ cls := "ChartKnitter$Plan", name := "make", desc := "(LChartKnitter$Chart;)V" } : Jvm.MethodName)) ∈ xall := mx 485 (by decide +kernel) (by decide +kernel)
theorem m486 : (Jvm.Cond.instanceMethod ({ cls := "ChartKnitter$Plan", name := "make", desc := "(LChartKnitter$Chart;)V" } : Jvm.MethodName)) ∈ xall := mx 486 (by decide +kernel) (by decide +kernel)
theorem m487 : (Jvm.Cond.selects "ChartKnitter$Plan" ({ cls := "ChartKnitter$Plan", name := "make", desc := "(LChartKnitter$Chart;)V" } : Jvm.MethodName) ({ cls := "ChartKnitter$Plan", name := "make", desc := "(LChartKnitter$Chart;)V" } : Jvm.MethodName)) ∈ xall := mx 487 (by decide +kernel) (by decide +kernel)
theorem m488 : (Jvm.Cond.code ({ cls := "ChartKnitter$Plan", name := "make", desc := "(LChartKnitter$Chart;)V" } : Jvm.MethodName) prog_6_method_2_code (6 : Nat) (Option.none : Option Jvm.ClassFile.FieldType)) ∈ xall := mx 488 (by decide +kernel) (by decide +kernel)
theorem m489 : (Jvm.Cond.methodLink "ChartKnitter$Plan" (44 : Nat) ({ cls := "ChartKnitter$Stitch", name := "takes", desc := "()I" } : Jvm.MethodName)) ∈ xall := mx 489 (by decide +kernel) (by decide +kernel)
theorem m490 : (Jvm.Cond.methodLink "ChartKnitter$Plan" (51 : Nat) ({ cls := "ChartKnitter$Stitch", name := "goalOf", desc := "(I)I" } : Jvm.MethodName)) ∈ xall := mx 490 (by decide +kernel) (by decide +kernel)
theorem m491 : (Jvm.Cond.instanceMethod ({ cls := "ChartKnitter$Stitch", name := "goalOf", desc := "(I)I" } : Jvm.MethodName)) ∈ xall := mx 491 (by decide +kernel) (by decide +kernel)
theorem m492 : (Jvm.Cond.selects "ChartKnitter$Stitch" ({ cls := "ChartKnitter$Stitch", name := "goalOf", desc := "(I)I" } : Jvm.MethodName) ({ cls := "ChartKnitter$Stitch", name := "goalOf", desc := "(I)I" } : Jvm.MethodName)) ∈ xall := mx 492 (by decide +kernel) (by decide +kernel)
theorem m493 : (Jvm.Cond.code ({ cls := "ChartKnitter$Stitch", name := "goalOf", desc := "(I)I" } : Jvm.MethodName) prog_8_method_9_code (3 : Nat) (Option.some Jvm.ClassFile.FieldType.int)) ∈ xall := mx 493 (by decide +kernel) (by decide +kernel)
theorem m494 : (Jvm.Cond.methodLink "ChartKnitter$Stitch" (25 : Nat) ({ cls := "ChartKnitter$Stitch", name := "isCrossing", desc := "()Z" } : Jvm.MethodName)) ∈ xall := mx 494 (by decide +kernel) (by decide +kernel)
theorem m495 : (Jvm.Cond.instanceMethod ({ cls := "ChartKnitter$Stitch", name := "isCrossing", desc := "()Z" } : Jvm.MethodName)) ∈ xall := mx 495 (by decide +kernel) (by decide +kernel)
theorem m496 : (Jvm.Cond.selects "ChartKnitter$Stitch" ({ cls := "ChartKnitter$Stitch", name := "isCrossing", desc := "()Z" } : Jvm.MethodName) ({ cls := "ChartKnitter$Stitch", name := "isCrossing", desc := "()Z" } : Jvm.MethodName)) ∈ xall := mx 496 (by decide +kernel) (by decide +kernel)
theorem m497 : (Jvm.Cond.code ({ cls := "ChartKnitter$Stitch", name := "isCrossing", desc := "()Z" } : Jvm.MethodName) prog_8_method_4_code (1 : Nat) (Option.some Jvm.ClassFile.FieldType.boolean)) ∈ xall := mx 497 (by decide +kernel) (by decide +kernel)
theorem m498 : (Jvm.Cond.methodLink "ChartKnitter$Stitch" (15 : Nat) ({ cls := "ChartKnitter$Stitch", name := "isCrossingSign", desc := "(I)Z" } : Jvm.MethodName)) ∈ xall := mx 498 (by decide +kernel) (by decide +kernel)
theorem m499 : (Jvm.Cond.methodLink "ChartKnitter$Plan" (55 : Nat) ({ cls := "ChartKnitter$Stitch", name := "isLate", desc := "(I)Z" } : Jvm.MethodName)) ∈ xall := mx 499 (by decide +kernel) (by decide +kernel)
theorem m500 : (Jvm.Cond.instanceMethod ({ cls := "ChartKnitter$Stitch", name := "isLate", desc := "(I)Z" } : Jvm.MethodName)) ∈ xall := mx 500 (by decide +kernel) (by decide +kernel)
theorem m501 : (Jvm.Cond.selects "ChartKnitter$Stitch" ({ cls := "ChartKnitter$Stitch", name := "isLate", desc := "(I)Z" } : Jvm.MethodName) ({ cls := "ChartKnitter$Stitch", name := "isLate", desc := "(I)Z" } : Jvm.MethodName)) ∈ xall := mx 501 (by decide +kernel) (by decide +kernel)
theorem m502 : (Jvm.Cond.code ({ cls := "ChartKnitter$Stitch", name := "isLate", desc := "(I)Z" } : Jvm.MethodName) prog_8_method_10_code (3 : Nat) (Option.some Jvm.ClassFile.FieldType.boolean)) ∈ xall := mx 502 (by decide +kernel) (by decide +kernel)
theorem m503 : (Jvm.Cond.methodLink "ChartKnitter$Plan" (59 : Nat) ({ cls := "ChartKnitter$Stitch", name := "gives", desc := "()I" } : Jvm.MethodName)) ∈ xall := mx 503 (by decide +kernel) (by decide +kernel)
theorem m504 : (Jvm.Cond.methodLink "ChartKnitter" (206 : Nat) ({ cls := "ChartKnitter$Chart", name := "placeOfOverfull", desc := "(LChartKnitter$Row;)I" } : Jvm.MethodName)) ∈ xall := mx 504 (by decide +kernel) (by decide +kernel)
theorem m505 : (Jvm.Cond.instanceMethod ({ cls := "ChartKnitter$Chart", name := "placeOfOverfull", desc := "(LChartKnitter$Row;)I" } : Jvm.MethodName)) ∈ xall := mx 505 (by decide +kernel) (by decide +kernel)
theorem m506 : (Jvm.Cond.selects "ChartKnitter$Chart" ({ cls := "ChartKnitter$Chart", name := "placeOfOverfull", desc := "(LChartKnitter$Row;)I" } : Jvm.MethodName) ({ cls := "ChartKnitter$Chart", name := "placeOfOverfull", desc := "(LChartKnitter$Row;)I" } : Jvm.MethodName)) ∈ xall := mx 506 (by decide +kernel) (by decide +kernel)
theorem m507 : (Jvm.Cond.code ({ cls := "ChartKnitter$Chart", name := "placeOfOverfull", desc := "(LChartKnitter$Row;)I" } : Jvm.MethodName) prog_2_method_5_code (6 : Nat) (Option.some Jvm.ClassFile.FieldType.int)) ∈ xall := mx 507 (by decide +kernel) (by decide +kernel)
theorem m508 : (Jvm.Cond.methodLink "ChartKnitter$Chart" (87 : Nat) ({ cls := "ChartKnitter$Stitch", name := "isCrossing", desc := "()Z" } : Jvm.MethodName)) ∈ xall := mx 508 (by decide +kernel) (by decide +kernel)
theorem m509 : (Jvm.Cond.methodLink "ChartKnitter" (210 : Nat) ({ cls := "ChartKnitter$Plan", name := "placeOfTooFar", desc := "()I" } : Jvm.MethodName)) ∈ xall := mx 509 (by decide +kernel) (by decide +kernel)
theorem m510 : (Jvm.Cond.instanceMethod ({ cls := "ChartKnitter$Plan", name := "placeOfTooFar", desc := "()I" } : Jvm.MethodName)) ∈ xall := mx 510 (by decide +kernel) (by decide +kernel)
theorem m511 : (Jvm.Cond.selects "ChartKnitter$Plan" ({ cls := "ChartKnitter$Plan", name := "placeOfTooFar", desc := "()I" } : Jvm.MethodName) ({ cls := "ChartKnitter$Plan", name := "placeOfTooFar", desc := "()I" } : Jvm.MethodName)) ∈ xall := mx 511 (by decide +kernel) (by decide +kernel)
theorem m512 : (Jvm.Cond.code ({ cls := "ChartKnitter$Plan", name := "placeOfTooFar", desc := "()I" } : Jvm.MethodName) prog_6_method_3_code (2 : Nat) (Option.some Jvm.ClassFile.FieldType.int)) ∈ xall := mx 512 (by decide +kernel) (by decide +kernel)
theorem m513 : (Jvm.Cond.methodLink "ChartKnitter$Plan" (65 : Nat) ({ cls := "java/lang/Math", name := "abs", desc := "(I)I" } : Jvm.MethodName)) ∈ xall := mx 513 (by decide +kernel) (by decide +kernel)
theorem m514 : (Jvm.Cond.static ({ cls := "java/lang/Math", name := "abs", desc := "(I)I" } : Jvm.MethodName)) ∈ xall := mx 514 (by decide +kernel) (by decide +kernel)
theorem m515 : (Jvm.Cond.code ({ cls := "java/lang/Math", name := "abs", desc := "(I)I" } : Jvm.MethodName) prog_15_method_59_code (1 : Nat) (Option.some Jvm.ClassFile.FieldType.int)) ∈ xall := mx 515 (by decide +kernel) (by decide +kernel)
theorem m516 : (Jvm.Cond.methodLink "ChartKnitter" (119 : Nat) ({ cls := "ChartKnitter", name := "faultOfRow", desc := "(I)I" } : Jvm.MethodName)) ∈ xall := mx 516 (by decide +kernel) (by decide +kernel)
theorem m518 : (Jvm.Cond.instanceMethod ({ cls := "ChartKnitter", name := "faultOfRow", desc := "(I)I" } : Jvm.MethodName)) ∈ xall := mx 518 (by decide +kernel) (by decide +kernel)
theorem m519 : (Jvm.Cond.code ({ cls := "ChartKnitter", name := "faultOfRow", desc := "(I)I" } : Jvm.MethodName) prog_1_method_22_code (3 : Nat) (Option.some Jvm.ClassFile.FieldType.int)) ∈ xall := mx 519 (by decide +kernel) (by decide +kernel)
theorem m520 : (Jvm.Cond.methodLink "ChartKnitter" (213 : Nat) ({ cls := "ChartKnitter", name := "endOf", desc := "(I)I" } : Jvm.MethodName)) ∈ xall := mx 520 (by decide +kernel) (by decide +kernel)
theorem m521 : (Jvm.Cond.static ({ cls := "ChartKnitter", name := "endOf", desc := "(I)I" } : Jvm.MethodName)) ∈ xall := mx 521 (by decide +kernel) (by decide +kernel)
theorem m522 : (Jvm.Cond.code ({ cls := "ChartKnitter", name := "endOf", desc := "(I)I" } : Jvm.MethodName) prog_1_method_20_code (1 : Nat) (Option.some Jvm.ClassFile.FieldType.int)) ∈ xall := mx 522 (by decide +kernel) (by decide +kernel)
theorem m523 : (Jvm.Cond.methodLink "ChartKnitter" (123 : Nat) ({ cls := "ChartKnitter", name := "knitNextRow", desc := "(I)V" } : Jvm.MethodName)) ∈ xall := mx 523 (by decide +kernel) (by decide +kernel)
theorem m525 : (Jvm.Cond.instanceMethod ({ cls := "ChartKnitter", name := "knitNextRow", desc := "(I)V" } : Jvm.MethodName)) ∈ xall := mx 525 (by decide +kernel) (by decide +kernel)
theorem m526 : (Jvm.Cond.code ({ cls := "ChartKnitter", name := "knitNextRow", desc := "(I)V" } : Jvm.MethodName) prog_1_method_23_code (5 : Nat) (Option.none : Option Jvm.ClassFile.FieldType)) ∈ xall := mx 526 (by decide +kernel) (by decide +kernel)
theorem m527 : (Jvm.Cond.methodLink "ChartKnitter" (217 : Nat) ({ cls := "ChartKnitter$Machine", name := "run", desc := "(LChartKnitter$Plan;LChartKnitter$Row;)V" } : Jvm.MethodName)) ∈ xall := mx 527 (by decide +kernel) (by decide +kernel)
theorem m528 : (Jvm.Cond.instanceMethod ({ cls := "ChartKnitter$Machine", name := "run", desc := "(LChartKnitter$Plan;LChartKnitter$Row;)V" } : Jvm.MethodName)) ∈ xall := mx 528 (by decide +kernel) (by decide +kernel)
theorem m529 : (Jvm.Cond.selects "ChartKnitter$Machine" ({ cls := "ChartKnitter$Machine", name := "run", desc := "(LChartKnitter$Plan;LChartKnitter$Row;)V" } : Jvm.MethodName) ({ cls := "ChartKnitter$Machine", name := "run", desc := "(LChartKnitter$Plan;LChartKnitter$Row;)V" } : Jvm.MethodName)) ∈ xall := mx 529 (by decide +kernel) (by decide +kernel)
theorem m530 : (Jvm.Cond.code ({ cls := "ChartKnitter$Machine", name := "run", desc := "(LChartKnitter$Plan;LChartKnitter$Row;)V" } : Jvm.MethodName) prog_5_method_2_code (3 : Nat) (Option.none : Option Jvm.ClassFile.FieldType)) ∈ xall := mx 530 (by decide +kernel) (by decide +kernel)
theorem m531 : (Jvm.Cond.methodLink "ChartKnitter$Machine" (21 : Nat) ({ cls := "ChartKnitter$Plan", name := "movesColumns", desc := "()Z" } : Jvm.MethodName)) ∈ xall := mx 531 (by decide +kernel) (by decide +kernel)
theorem m532 : (Jvm.Cond.instanceMethod ({ cls := "ChartKnitter$Plan", name := "movesColumns", desc := "()Z" } : Jvm.MethodName)) ∈ xall := mx 532 (by decide +kernel) (by decide +kernel)
theorem m533 : (Jvm.Cond.selects "ChartKnitter$Plan" ({ cls := "ChartKnitter$Plan", name := "movesColumns", desc := "()Z" } : Jvm.MethodName) ({ cls := "ChartKnitter$Plan", name := "movesColumns", desc := "()Z" } : Jvm.MethodName)) ∈ xall := mx 533 (by decide +kernel) (by decide +kernel)
theorem m534 : (Jvm.Cond.code ({ cls := "ChartKnitter$Plan", name := "movesColumns", desc := "()Z" } : Jvm.MethodName) prog_6_method_4_code (2 : Nat) (Option.some Jvm.ClassFile.FieldType.boolean)) ∈ xall := mx 534 (by decide +kernel) (by decide +kernel)
theorem m535 : (Jvm.Cond.methodLink "ChartKnitter$Machine" (27 : Nat) ({ cls := "ChartKnitter$Machine", name := "clearFront", desc := "(LChartKnitter$Plan;LChartKnitter$Row;)V" } : Jvm.MethodName)) ∈ xall := mx 535 (by decide +kernel) (by decide +kernel)
theorem m537 : (Jvm.Cond.instanceMethod ({ cls := "ChartKnitter$Machine", name := "clearFront", desc := "(LChartKnitter$Plan;LChartKnitter$Row;)V" } : Jvm.MethodName)) ∈ xall := mx 537 (by decide +kernel) (by decide +kernel)
theorem m538 : (Jvm.Cond.code ({ cls := "ChartKnitter$Machine", name := "clearFront", desc := "(LChartKnitter$Plan;LChartKnitter$Row;)V" } : Jvm.MethodName) prog_5_method_3_code (4 : Nat) (Option.none : Option Jvm.ClassFile.FieldType)) ∈ xall := mx 538 (by decide +kernel) (by decide +kernel)
theorem m539 : (Jvm.Cond.methodLink "ChartKnitter$Machine" (57 : Nat) ({ cls := "ChartKnitter$Machine", name := "transfer", desc := "(I)V" } : Jvm.MethodName)) ∈ xall := mx 539 (by decide +kernel) (by decide +kernel)
theorem m541 : (Jvm.Cond.instanceMethod ({ cls := "ChartKnitter$Machine", name := "transfer", desc := "(I)V" } : Jvm.MethodName)) ∈ xall := mx 541 (by decide +kernel) (by decide +kernel)
theorem m542 : (Jvm.Cond.code ({ cls := "ChartKnitter$Machine", name := "transfer", desc := "(I)V" } : Jvm.MethodName) prog_5_method_7_code (2 : Nat) (Option.none : Option Jvm.ClassFile.FieldType)) ∈ xall := mx 542 (by decide +kernel) (by decide +kernel)
theorem m543 : (Jvm.Cond.methodLink "ChartKnitter$Machine" (41 : Nat) ({ cls := "ChartKnitter$Machine", name := "rackTo", desc := "(I)V" } : Jvm.MethodName)) ∈ xall := mx 543 (by decide +kernel) (by decide +kernel)
theorem m545 : (Jvm.Cond.instanceMethod ({ cls := "ChartKnitter$Machine", name := "rackTo", desc := "(I)V" } : Jvm.MethodName)) ∈ xall := mx 545 (by decide +kernel) (by decide +kernel)
theorem m546 : (Jvm.Cond.code ({ cls := "ChartKnitter$Machine", name := "rackTo", desc := "(I)V" } : Jvm.MethodName) prog_5_method_8_code (2 : Nat) (Option.none : Option Jvm.ClassFile.FieldType)) ∈ xall := mx 546 (by decide +kernel) (by decide +kernel)
theorem m547 : (Jvm.Cond.methodLink "ChartKnitter$Machine" (31 : Nat) ({ cls := "ChartKnitter$Machine", name := "moveToGoals", desc := "(LChartKnitter$Plan;Z)V" } : Jvm.MethodName)) ∈ xall := mx 547 (by decide +kernel) (by decide +kernel)
theorem m549 : (Jvm.Cond.instanceMethod ({ cls := "ChartKnitter$Machine", name := "moveToGoals", desc := "(LChartKnitter$Plan;Z)V" } : Jvm.MethodName)) ∈ xall := mx 549 (by decide +kernel) (by decide +kernel)
theorem m550 : (Jvm.Cond.code ({ cls := "ChartKnitter$Machine", name := "moveToGoals", desc := "(LChartKnitter$Plan;Z)V" } : Jvm.MethodName) prog_5_method_4_code (4 : Nat) (Option.none : Option Jvm.ClassFile.FieldType)) ∈ xall := mx 550 (by decide +kernel) (by decide +kernel)
theorem m551 : (Jvm.Cond.methodLink "ChartKnitter$Machine" (35 : Nat) ({ cls := "ChartKnitter$Machine", name := "fillBack", desc := "(LChartKnitter$Plan;LChartKnitter$Row;)V" } : Jvm.MethodName)) ∈ xall := mx 551 (by decide +kernel) (by decide +kernel)
theorem m553 : (Jvm.Cond.instanceMethod ({ cls := "ChartKnitter$Machine", name := "fillBack", desc := "(LChartKnitter$Plan;LChartKnitter$Row;)V" } : Jvm.MethodName)) ∈ xall := mx 553 (by decide +kernel) (by decide +kernel)
theorem m554 : (Jvm.Cond.code ({ cls := "ChartKnitter$Machine", name := "fillBack", desc := "(LChartKnitter$Plan;LChartKnitter$Row;)V" } : Jvm.MethodName) prog_5_method_5_code (4 : Nat) (Option.none : Option Jvm.ClassFile.FieldType)) ∈ xall := mx 554 (by decide +kernel) (by decide +kernel)
theorem m555 : (Jvm.Cond.methodLink "ChartKnitter$Machine" (68 : Nat) ({ cls := "ChartKnitter$Stitch", name := "bedNeeded", desc := "(LChartKnitter$Row;)I" } : Jvm.MethodName)) ∈ xall := mx 555 (by decide +kernel) (by decide +kernel)
theorem m556 : (Jvm.Cond.instanceMethod ({ cls := "ChartKnitter$Stitch", name := "bedNeeded", desc := "(LChartKnitter$Row;)I" } : Jvm.MethodName)) ∈ xall := mx 556 (by decide +kernel) (by decide +kernel)
theorem m557 : (Jvm.Cond.selects "ChartKnitter$Stitch" ({ cls := "ChartKnitter$Stitch", name := "bedNeeded", desc := "(LChartKnitter$Row;)I" } : Jvm.MethodName) ({ cls := "ChartKnitter$Stitch", name := "bedNeeded", desc := "(LChartKnitter$Row;)I" } : Jvm.MethodName)) ∈ xall := mx 557 (by decide +kernel) (by decide +kernel)
theorem m558 : (Jvm.Cond.code ({ cls := "ChartKnitter$Stitch", name := "bedNeeded", desc := "(LChartKnitter$Row;)I" } : Jvm.MethodName) prog_8_method_11_code (2 : Nat) (Option.some Jvm.ClassFile.FieldType.int)) ∈ xall := mx 558 (by decide +kernel) (by decide +kernel)
theorem m559 : (Jvm.Cond.methodLink "ChartKnitter$Stitch" (35 : Nat) ({ cls := "ChartKnitter$Stitch", name := "keepsStack", desc := "()Z" } : Jvm.MethodName)) ∈ xall := mx 559 (by decide +kernel) (by decide +kernel)
theorem m560 : (Jvm.Cond.instanceMethod ({ cls := "ChartKnitter$Stitch", name := "keepsStack", desc := "()Z" } : Jvm.MethodName)) ∈ xall := mx 560 (by decide +kernel) (by decide +kernel)
theorem m561 : (Jvm.Cond.selects "ChartKnitter$Stitch" ({ cls := "ChartKnitter$Stitch", name := "keepsStack", desc := "()Z" } : Jvm.MethodName) ({ cls := "ChartKnitter$Stitch", name := "keepsStack", desc := "()Z" } : Jvm.MethodName)) ∈ xall := mx 561 (by decide +kernel) (by decide +kernel)
theorem m562 : (Jvm.Cond.code ({ cls := "ChartKnitter$Stitch", name := "keepsStack", desc := "()Z" } : Jvm.MethodName) prog_8_method_8_code (1 : Nat) (Option.some Jvm.ClassFile.FieldType.boolean)) ∈ xall := mx 562 (by decide +kernel) (by decide +kernel)
theorem m563 : (Jvm.Cond.methodLink "ChartKnitter$Machine" (38 : Nat) ({ cls := "ChartKnitter$Machine", name := "changeBeds", desc := "(LChartKnitter$Plan;LChartKnitter$Row;)V" } : Jvm.MethodName)) ∈ xall := mx 563 (by decide +kernel) (by decide +kernel)
theorem m565 : (Jvm.Cond.instanceMethod ({ cls := "ChartKnitter$Machine", name := "changeBeds", desc := "(LChartKnitter$Plan;LChartKnitter$Row;)V" } : Jvm.MethodName)) ∈ xall := mx 565 (by decide +kernel) (by decide +kernel)
theorem m566 : (Jvm.Cond.code ({ cls := "ChartKnitter$Machine", name := "changeBeds", desc := "(LChartKnitter$Plan;LChartKnitter$Row;)V" } : Jvm.MethodName) prog_5_method_6_code (4 : Nat) (Option.none : Option Jvm.ClassFile.FieldType)) ∈ xall := mx 566 (by decide +kernel) (by decide +kernel)
theorem m567 : (Jvm.Cond.methodLink "ChartKnitter" (223 : Nat) ({ cls := "ChartKnitter", name := "release", desc := "(LChartKnitter$Row;LChartKnitter$Row;)V" } : Jvm.MethodName)) ∈ xall := mx 567 (by decide +kernel) (by decide +kernel)
theorem m569 : (Jvm.Cond.instanceMethod ({ cls := "ChartKnitter", name := "release", desc := "(LChartKnitter$Row;LChartKnitter$Row;)V" } : Jvm.MethodName)) ∈ xall := mx 569 (by decide +kernel) (by decide +kernel)
theorem m570 : (Jvm.Cond.code ({ cls := "ChartKnitter", name := "release", desc := "(LChartKnitter$Row;LChartKnitter$Row;)V" } : Jvm.MethodName) prog_1_method_24_code (5 : Nat) (Option.none : Option Jvm.ClassFile.FieldType)) ∈ xall := mx 570 (by decide +kernel) (by decide +kernel)
theorem m571 : (Jvm.Cond.methodLink "ChartKnitter" (227 : Nat) ({ cls := "ChartKnitter", name := "bringToGoals", desc := "(LChartKnitter$Row;LChartKnitter$Row;Z)V" } : Jvm.MethodName)) ∈ xall := mx 571 (by decide +kernel) (by decide +kernel)
theorem m573 : (Jvm.Cond.instanceMethod ({ cls := "ChartKnitter", name := "bringToGoals", desc := "(LChartKnitter$Row;LChartKnitter$Row;Z)V" } : Jvm.MethodName)) ∈ xall := mx 573 (by decide +kernel) (by decide +kernel)
theorem m574 : (Jvm.Cond.code ({ cls := "ChartKnitter", name := "bringToGoals", desc := "(LChartKnitter$Row;LChartKnitter$Row;Z)V" } : Jvm.MethodName) prog_1_method_25_code (8 : Nat) (Option.none : Option Jvm.ClassFile.FieldType)) ∈ xall := mx 574 (by decide +kernel) (by decide +kernel)
theorem m575 : (Jvm.Cond.methodLink "ChartKnitter" (231 : Nat) ({ cls := "ChartKnitter", name := "noteCrossings", desc := "(LChartKnitter$Row;LChartKnitter$Row;)V" } : Jvm.MethodName)) ∈ xall := mx 575 (by decide +kernel) (by decide +kernel)
theorem m577 : (Jvm.Cond.instanceMethod ({ cls := "ChartKnitter", name := "noteCrossings", desc := "(LChartKnitter$Row;LChartKnitter$Row;)V" } : Jvm.MethodName)) ∈ xall := mx 577 (by decide +kernel) (by decide +kernel)
theorem m578 : (Jvm.Cond.code ({ cls := "ChartKnitter", name := "noteCrossings", desc := "(LChartKnitter$Row;LChartKnitter$Row;)V" } : Jvm.MethodName) prog_1_method_26_code (4 : Nat) (Option.none : Option Jvm.ClassFile.FieldType)) ∈ xall := mx 578 (by decide +kernel) (by decide +kernel)
theorem m579 : (Jvm.Cond.methodLink "ChartKnitter" (253 : Nat) ({ cls := "ChartKnitter$Stitch", name := "isCrossing", desc := "()Z" } : Jvm.MethodName)) ∈ xall := mx 579 (by decide +kernel) (by decide +kernel)
theorem m580 : (Jvm.Cond.methodLink "ChartKnitter" (259 : Nat) ({ cls := "ChartKnitter$Crossings", name := "note", desc := "(ILChartKnitter$Stitch;)V" } : Jvm.MethodName)) ∈ xall := mx 580 (by decide +kernel) (by decide +kernel)
theorem m581 : (Jvm.Cond.instanceMethod ({ cls := "ChartKnitter$Crossings", name := "note", desc := "(ILChartKnitter$Stitch;)V" } : Jvm.MethodName)) ∈ xall := mx 581 (by decide +kernel) (by decide +kernel)
theorem m582 : (Jvm.Cond.selects "ChartKnitter$Crossings" ({ cls := "ChartKnitter$Crossings", name := "note", desc := "(ILChartKnitter$Stitch;)V" } : Jvm.MethodName) ({ cls := "ChartKnitter$Crossings", name := "note", desc := "(ILChartKnitter$Stitch;)V" } : Jvm.MethodName)) ∈ xall := mx 582 (by decide +kernel) (by decide +kernel)
theorem m583 : (Jvm.Cond.code ({ cls := "ChartKnitter$Crossings", name := "note", desc := "(ILChartKnitter$Stitch;)V" } : Jvm.MethodName) prog_3_method_2_code (3 : Nat) (Option.none : Option Jvm.ClassFile.FieldType)) ∈ xall := mx 583 (by decide +kernel) (by decide +kernel)
theorem m584 : (Jvm.Cond.methodLink "ChartKnitter" (181 : Nat) ({ cls := "ChartKnitter$Crossings", name := "pairs", desc := "(ILChartKnitter$Row;)I" } : Jvm.MethodName)) ∈ xall := mx 584 (by decide +kernel) (by decide +kernel)
theorem m585 : (Jvm.Cond.instanceMethod ({ cls := "ChartKnitter$Crossings", name := "pairs", desc := "(ILChartKnitter$Row;)I" } : Jvm.MethodName)) ∈ xall := mx 585 (by decide +kernel) (by decide +kernel)
theorem m586 : (Jvm.Cond.selects "ChartKnitter$Crossings" ({ cls := "ChartKnitter$Crossings", name := "pairs", desc := "(ILChartKnitter$Row;)I" } : Jvm.MethodName) ({ cls := "ChartKnitter$Crossings", name := "pairs", desc := "(ILChartKnitter$Row;)I" } : Jvm.MethodName)) ∈ xall := mx 586 (by decide +kernel) (by decide +kernel)
theorem m587 : (Jvm.Cond.code ({ cls := "ChartKnitter$Crossings", name := "pairs", desc := "(ILChartKnitter$Row;)I" } : Jvm.MethodName) prog_3_method_3_code (3 : Nat) (Option.some Jvm.ClassFile.FieldType.int)) ∈ xall := mx 587 (by decide +kernel) (by decide +kernel)
theorem m588 : (Jvm.Cond.methodLink "ChartKnitter$Crossings" (37 : Nat) ({ cls := "ChartKnitter$Crossings", name := "loopsIn", desc := "(LChartKnitter$Row;II)I" } : Jvm.MethodName)) ∈ xall := mx 588 (by decide +kernel) (by decide +kernel)
theorem m589 : (Jvm.Cond.static ({ cls := "ChartKnitter$Crossings", name := "loopsIn", desc := "(LChartKnitter$Row;II)I" } : Jvm.MethodName)) ∈ xall := mx 589 (by decide +kernel) (by decide +kernel)
theorem m590 : (Jvm.Cond.code ({ cls := "ChartKnitter$Crossings", name := "loopsIn", desc := "(LChartKnitter$Row;II)I" } : Jvm.MethodName) prog_3_method_5_code (5 : Nat) (Option.some Jvm.ClassFile.FieldType.int)) ∈ xall := mx 590 (by decide +kernel) (by decide +kernel)
theorem m591 : (Jvm.Cond.methodLink "ChartKnitter" (234 : Nat) ({ cls := "ChartKnitter", name := "makeLoops", desc := "(LChartKnitter$Row;LChartKnitter$Row;I)V" } : Jvm.MethodName)) ∈ xall := mx 591 (by decide +kernel) (by decide +kernel)
theorem m593 : (Jvm.Cond.instanceMethod ({ cls := "ChartKnitter", name := "makeLoops", desc := "(LChartKnitter$Row;LChartKnitter$Row;I)V" } : Jvm.MethodName)) ∈ xall := mx 593 (by decide +kernel) (by decide +kernel)
theorem m594 : (Jvm.Cond.code ({ cls := "ChartKnitter", name := "makeLoops", desc := "(LChartKnitter$Row;LChartKnitter$Row;I)V" } : Jvm.MethodName) prog_1_method_27_code (8 : Nat) (Option.none : Option Jvm.ClassFile.FieldType)) ∈ xall := mx 594 (by decide +kernel) (by decide +kernel)
theorem m595 : (Jvm.Cond.methodLink "ChartKnitter" (266 : Nat) ({ cls := "ChartKnitter$Stitch", name := "bedNeeded", desc := "(LChartKnitter$Row;)I" } : Jvm.MethodName)) ∈ xall := mx 595 (by decide +kernel) (by decide +kernel)
theorem m596 : (Jvm.Cond.methodLink "ChartKnitter" (269 : Nat) ({ cls := "ChartKnitter$Stitch", name := "makesLoop", desc := "()Z" } : Jvm.MethodName)) ∈ xall := mx 596 (by decide +kernel) (by decide +kernel)
theorem m597 : (Jvm.Cond.methodLink "ChartKnitter" (272 : Nat) ({ cls := "ChartKnitter$Stitch", name := "keepsStack", desc := "()Z" } : Jvm.MethodName)) ∈ xall := mx 597 (by decide +kernel) (by decide +kernel)
theorem m598 : (Jvm.Cond.methodLink "ChartKnitter" (275 : Nat) ({ cls := "ChartKnitter", name := "drawThrough", desc := "(LChartKnitter$Row;II)V" } : Jvm.MethodName)) ∈ xall := mx 598 (by decide +kernel) (by decide +kernel)
theorem m600 : (Jvm.Cond.instanceMethod ({ cls := "ChartKnitter", name := "drawThrough", desc := "(LChartKnitter$Row;II)V" } : Jvm.MethodName)) ∈ xall := mx 600 (by decide +kernel) (by decide +kernel)
theorem m601 : (Jvm.Cond.code ({ cls := "ChartKnitter", name := "drawThrough", desc := "(LChartKnitter$Row;II)V" } : Jvm.MethodName) prog_1_method_28_code (6 : Nat) (Option.none : Option Jvm.ClassFile.FieldType)) ∈ xall := mx 601 (by decide +kernel) (by decide +kernel)
theorem m610 : (Jvm.Cond.methodLink "ChartKnitter" (136 : Nat) ({ cls := "ChartKnitter", name := "isKnitted", desc := "(I)Z" } : Jvm.MethodName)) ∈ xall := mx 610 (by decide +kernel) (by decide +kernel)
theorem m612 : (Jvm.Cond.instanceMethod ({ cls := "ChartKnitter", name := "isKnitted", desc := "(I)Z" } : Jvm.MethodName)) ∈ xall := mx 612 (by decide +kernel) (by decide +kernel)
theorem m613 : (Jvm.Cond.code ({ cls := "ChartKnitter", name := "isKnitted", desc := "(I)Z" } : Jvm.MethodName) prog_1_method_16_code (2 : Nat) (Option.some Jvm.ClassFile.FieldType.boolean)) ∈ xall := mx 613 (by decide +kernel) (by decide +kernel)
theorem m638 : (Jvm.Cond.methodLink "ChartKnitter" (161 : Nat) ({ cls := "ChartKnitter", name := "isLoop", desc := "(I)Z" } : Jvm.MethodName)) ∈ xall := mx 638 (by decide +kernel) (by decide +kernel)
theorem m640 : (Jvm.Cond.instanceMethod ({ cls := "ChartKnitter", name := "isLoop", desc := "(I)Z" } : Jvm.MethodName)) ∈ xall := mx 640 (by decide +kernel) (by decide +kernel)
theorem m641 : (Jvm.Cond.code ({ cls := "ChartKnitter", name := "isLoop", desc := "(I)Z" } : Jvm.MethodName) prog_1_method_17_code (2 : Nat) (Option.some Jvm.ClassFile.FieldType.boolean)) ∈ xall := mx 641 (by decide +kernel) (by decide +kernel)
theorem m657 : (Jvm.Cond.methodLink "ChartKnitter" (185 : Nat) ({ cls := "ChartKnitter$Crossings", name := "pairAt", desc := "(ILChartKnitter$Row;I)I" } : Jvm.MethodName)) ∈ xall := mx 657 (by decide +kernel) (by decide +kernel)
theorem m658 : (Jvm.Cond.instanceMethod ({ cls := "ChartKnitter$Crossings", name := "pairAt", desc := "(ILChartKnitter$Row;I)I" } : Jvm.MethodName)) ∈ xall := mx 658 (by decide +kernel) (by decide +kernel)
theorem m659 : (Jvm.Cond.selects "ChartKnitter$Crossings" ({ cls := "ChartKnitter$Crossings", name := "pairAt", desc := "(ILChartKnitter$Row;I)I" } : Jvm.MethodName) ({ cls := "ChartKnitter$Crossings", name := "pairAt", desc := "(ILChartKnitter$Row;I)I" } : Jvm.MethodName)) ∈ xall := mx 659 (by decide +kernel) (by decide +kernel)
theorem m660 : (Jvm.Cond.code ({ cls := "ChartKnitter$Crossings", name := "pairAt", desc := "(ILChartKnitter$Row;I)I" } : Jvm.MethodName) prog_3_method_4_code (8 : Nat) (Option.some Jvm.ClassFile.FieldType.int)) ∈ xall := mx 660 (by decide +kernel) (by decide +kernel)
theorem m661 : (Jvm.Cond.methodLink "ChartKnitter$Crossings" (41 : Nat) ({ cls := "java/lang/Math", name := "max", desc := "(II)I" } : Jvm.MethodName)) ∈ xall := mx 661 (by decide +kernel) (by decide +kernel)
theorem m662 : (Jvm.Cond.static ({ cls := "java/lang/Math", name := "max", desc := "(II)I" } : Jvm.MethodName)) ∈ xall := mx 662 (by decide +kernel) (by decide +kernel)
theorem m663 : (Jvm.Cond.code ({ cls := "java/lang/Math", name := "max", desc := "(II)I" } : Jvm.MethodName) prog_15_method_65_code (2 : Nat) (Option.some Jvm.ClassFile.FieldType.int)) ∈ xall := mx 663 (by decide +kernel) (by decide +kernel)
theorem m664 : (Jvm.Cond.methodLink "ChartKnitter$Crossings" (47 : Nat) ({ cls := "ChartKnitter$Crossings", name := "loopIn", desc := "(LChartKnitter$Row;III)I" } : Jvm.MethodName)) ∈ xall := mx 664 (by decide +kernel) (by decide +kernel)
theorem m665 : (Jvm.Cond.static ({ cls := "ChartKnitter$Crossings", name := "loopIn", desc := "(LChartKnitter$Row;III)I" } : Jvm.MethodName)) ∈ xall := mx 665 (by decide +kernel) (by decide +kernel)
theorem m666 : (Jvm.Cond.code ({ cls := "ChartKnitter$Crossings", name := "loopIn", desc := "(LChartKnitter$Row;III)I" } : Jvm.MethodName) prog_3_method_6_code (6 : Nat) (Option.some Jvm.ClassFile.FieldType.int)) ∈ xall := mx 666 (by decide +kernel) (by decide +kernel)
theorem m667 : (Jvm.Cond.methodLink "ChartKnitter$Crossings" (56 : Nat) ({ cls := "ChartKnitter$Row", name := "loopAt", desc := "(II)I" } : Jvm.MethodName)) ∈ xall := mx 667 (by decide +kernel) (by decide +kernel)
theorem m673 : (Jvm.Cond.methodLink "ChartKnitterModel" (1 : Nat) ({ cls := "java/lang/Object", name := "<init>", desc := "()V" } : Jvm.MethodName)) ∈ xall := mx 673 (by decide +kernel) (by decide +kernel)
theorem m674 : (Jvm.Cond.fieldLink "ChartKnitterModel" (102 : Nat) "ChartKnitterModel" "thrown" "I") ∈ xall := mx 674 (by decide +kernel) (by decide +kernel)
theorem m675 : (Jvm.Cond.fieldLink "ChartKnitterModel" (7 : Nat) "ChartKnitterModel" "text" "[I") ∈ xall := mx 675 (by decide +kernel) (by decide +kernel)
theorem m676 : (Jvm.Cond.fieldLink "ChartKnitterModel" (107 : Nat) "ChartKnitterModel" "length" "I") ∈ xall := mx 676 (by decide +kernel) (by decide +kernel)
theorem m677 : (Jvm.Cond.fieldLink "ChartKnitterModel" (13 : Nat) "ChartKnitterModel" "told" "I") ∈ xall := mx 677 (by decide +kernel) (by decide +kernel)
theorem m678 : (Jvm.Cond.fieldLink "ChartKnitterModel" (171 : Nat) "ChartKnitterModel" "cast" "Z") ∈ xall := mx 678 (by decide +kernel) (by decide +kernel)
theorem m679 : (Jvm.Cond.fieldLink "ChartKnitterModel" (120 : Nat) "ChartKnitterModel" "rows" "I") ∈ xall := mx 679 (by decide +kernel) (by decide +kernel)
theorem m680 : (Jvm.Cond.fieldLink "ChartKnitterModel" (17 : Nat) "ChartKnitterModel" "stacks" "[I") ∈ xall := mx 680 (by decide +kernel) (by decide +kernel)
theorem m681 : (Jvm.Cond.fieldLink "ChartKnitterModel" (20 : Nat) "ChartKnitterModel" "sizes" "[I") ∈ xall := mx 681 (by decide +kernel) (by decide +kernel)
theorem m682 : (Jvm.Cond.fieldLink "ChartKnitterModel" (23 : Nat) "ChartKnitterModel" "beds" "[I") ∈ xall := mx 682 (by decide +kernel) (by decide +kernel)
theorem m683 : (Jvm.Cond.fieldLink "ChartKnitterModel" (26 : Nat) "ChartKnitterModel" "columns" "[I") ∈ xall := mx 683 (by decide +kernel) (by decide +kernel)
theorem m684 : (Jvm.Cond.fieldLink "ChartKnitterModel" (29 : Nat) "ChartKnitterModel" "loops" "[I") ∈ xall := mx 684 (by decide +kernel) (by decide +kernel)
theorem m685 : (Jvm.Cond.fieldLink "ChartKnitterModel" (32 : Nat) "ChartKnitterModel" "drops" "[I") ∈ xall := mx 685 (by decide +kernel) (by decide +kernel)
theorem m686 : (Jvm.Cond.fieldLink "ChartKnitterModel" (35 : Nat) "ChartKnitterModel" "sides" "[I") ∈ xall := mx 686 (by decide +kernel) (by decide +kernel)
theorem m687 : (Jvm.Cond.fieldLink "ChartKnitterModel" (38 : Nat) "ChartKnitterModel" "texts" "[I") ∈ xall := mx 687 (by decide +kernel) (by decide +kernel)
theorem m688 : (Jvm.Cond.fieldLink "ChartKnitterModel" (41 : Nat) "ChartKnitterModel" "lengths" "[I") ∈ xall := mx 688 (by decide +kernel) (by decide +kernel)
theorem m689 : (Jvm.Cond.fieldLink "ChartKnitterModel" (44 : Nat) "ChartKnitterModel" "programs" "[I") ∈ xall := mx 689 (by decide +kernel) (by decide +kernel)
theorem m690 : (Jvm.Cond.fieldLink "ChartKnitterModel" (47 : Nat) "ChartKnitterModel" "parents" "[I") ∈ xall := mx 690 (by decide +kernel) (by decide +kernel)
theorem m691 : (Jvm.Cond.fieldLink "ChartKnitterModel" (50 : Nat) "ChartKnitterModel" "many" "[I") ∈ xall := mx 691 (by decide +kernel) (by decide +kernel)
theorem m692 : (Jvm.Cond.fieldLink "ChartKnitterModel" (53 : Nat) "ChartKnitterModel" "rowOf" "[I") ∈ xall := mx 692 (by decide +kernel) (by decide +kernel)
theorem m693 : (Jvm.Cond.fieldLink "ChartKnitterModel" (56 : Nat) "ChartKnitterModel" "columnOf" "[I") ∈ xall := mx 693 (by decide +kernel) (by decide +kernel)
theorem m694 : (Jvm.Cond.fieldLink "ChartKnitterModel" (59 : Nat) "ChartKnitterModel" "bedOf" "[I") ∈ xall := mx 694 (by decide +kernel) (by decide +kernel)
theorem m695 : (Jvm.Cond.fieldLink "ChartKnitterModel" (62 : Nat) "ChartKnitterModel" "carrierOf" "[I") ∈ xall := mx 695 (by decide +kernel) (by decide +kernel)
theorem m696 : (Jvm.Cond.fieldLink "ChartKnitterModel" (65 : Nat) "ChartKnitterModel" "droppedIn" "[I") ∈ xall := mx 696 (by decide +kernel) (by decide +kernel)
theorem m697 : (Jvm.Cond.fieldLink "ChartKnitterModel" (110 : Nat) "ChartKnitterModel" "count" "I") ∈ xall := mx 697 (by decide +kernel) (by decide +kernel)
theorem m698 : (Jvm.Cond.fieldLink "ChartKnitterModel" (68 : Nat) "ChartKnitterModel" "kind" "[I") ∈ xall := mx 698 (by decide +kernel) (by decide +kernel)
theorem m699 : (Jvm.Cond.fieldLink "ChartKnitterModel" (71 : Nat) "ChartKnitterModel" "at" "[I") ∈ xall := mx 699 (by decide +kernel) (by decide +kernel)
theorem m700 : (Jvm.Cond.fieldLink "ChartKnitterModel" (74 : Nat) "ChartKnitterModel" "left" "[I") ∈ xall := mx 700 (by decide +kernel) (by decide +kernel)
theorem m701 : (Jvm.Cond.fieldLink "ChartKnitterModel" (77 : Nat) "ChartKnitterModel" "right" "[I") ∈ xall := mx 701 (by decide +kernel) (by decide +kernel)
theorem m702 : (Jvm.Cond.fieldLink "ChartKnitterModel" (80 : Nat) "ChartKnitterModel" "goal" "[I") ∈ xall := mx 702 (by decide +kernel) (by decide +kernel)
theorem m703 : (Jvm.Cond.fieldLink "ChartKnitterModel" (83 : Nat) "ChartKnitterModel" "late" "[Z") ∈ xall := mx 703 (by decide +kernel) (by decide +kernel)
theorem m704 : (Jvm.Cond.fieldLink "ChartKnitterModel" (87 : Nat) "ChartKnitterModel" "must" "[I") ∈ xall := mx 704 (by decide +kernel) (by decide +kernel)
theorem m705 : (Jvm.Cond.fieldLink "ChartKnitterModel" (90 : Nat) "ChartKnitterModel" "charOf" "[I") ∈ xall := mx 705 (by decide +kernel) (by decide +kernel)
theorem m706 : (Jvm.Cond.fieldLink "ChartKnitterModel" (93 : Nat) "ChartKnitterModel" "by" "[I") ∈ xall := mx 706 (by decide +kernel) (by decide +kernel)
theorem m707 : (Jvm.Cond.fieldLink "ChartKnitterModel" (96 : Nat) "ChartKnitterModel" "sources" "[I") ∈ xall := mx 707 (by decide +kernel) (by decide +kernel)
theorem m708 : (Jvm.Cond.fieldLink "ChartKnitterModel" (99 : Nat) "ChartKnitterModel" "source" "[I") ∈ xall := mx 708 (by decide +kernel) (by decide +kernel)
theorem m709 : (Jvm.Cond.lays "ChartKnitterModel" "ChartKnitterModel" "thrown" "I") ∈ xall := mx 709 (by decide +kernel) (by decide +kernel)
theorem m711 : (Jvm.Cond.laysFinal "ChartKnitterModel" "ChartKnitterModel" "text" "[I") ∈ xall := mx 711 (by decide +kernel) (by decide +kernel)
theorem m713 : (Jvm.Cond.lays "ChartKnitterModel" "ChartKnitterModel" "length" "I") ∈ xall := mx 713 (by decide +kernel) (by decide +kernel)
theorem m715 : (Jvm.Cond.lays "ChartKnitterModel" "ChartKnitterModel" "told" "I") ∈ xall := mx 715 (by decide +kernel) (by decide +kernel)
theorem m717 : (Jvm.Cond.lays "ChartKnitterModel" "ChartKnitterModel" "cast" "Z") ∈ xall := mx 717 (by decide +kernel) (by decide +kernel)
theorem m719 : (Jvm.Cond.lays "ChartKnitterModel" "ChartKnitterModel" "rows" "I") ∈ xall := mx 719 (by decide +kernel) (by decide +kernel)
theorem m721 : (Jvm.Cond.laysFinal "ChartKnitterModel" "ChartKnitterModel" "stacks" "[I") ∈ xall := mx 721 (by decide +kernel) (by decide +kernel)
theorem m723 : (Jvm.Cond.laysFinal "ChartKnitterModel" "ChartKnitterModel" "sizes" "[I") ∈ xall := mx 723 (by decide +kernel) (by decide +kernel)
theorem m725 : (Jvm.Cond.laysFinal "ChartKnitterModel" "ChartKnitterModel" "beds" "[I") ∈ xall := mx 725 (by decide +kernel) (by decide +kernel)
theorem m727 : (Jvm.Cond.laysFinal "ChartKnitterModel" "ChartKnitterModel" "columns" "[I") ∈ xall := mx 727 (by decide +kernel) (by decide +kernel)
theorem m729 : (Jvm.Cond.laysFinal "ChartKnitterModel" "ChartKnitterModel" "loops" "[I") ∈ xall := mx 729 (by decide +kernel) (by decide +kernel)
theorem m731 : (Jvm.Cond.laysFinal "ChartKnitterModel" "ChartKnitterModel" "drops" "[I") ∈ xall := mx 731 (by decide +kernel) (by decide +kernel)
theorem m733 : (Jvm.Cond.laysFinal "ChartKnitterModel" "ChartKnitterModel" "sides" "[I") ∈ xall := mx 733 (by decide +kernel) (by decide +kernel)
theorem m735 : (Jvm.Cond.laysFinal "ChartKnitterModel" "ChartKnitterModel" "texts" "[I") ∈ xall := mx 735 (by decide +kernel) (by decide +kernel)
theorem m737 : (Jvm.Cond.laysFinal "ChartKnitterModel" "ChartKnitterModel" "lengths" "[I") ∈ xall := mx 737 (by decide +kernel) (by decide +kernel)
theorem m739 : (Jvm.Cond.laysFinal "ChartKnitterModel" "ChartKnitterModel" "programs" "[I") ∈ xall := mx 739 (by decide +kernel) (by decide +kernel)
theorem m741 : (Jvm.Cond.laysFinal "ChartKnitterModel" "ChartKnitterModel" "parents" "[I") ∈ xall := mx 741 (by decide +kernel) (by decide +kernel)
theorem m743 : (Jvm.Cond.laysFinal "ChartKnitterModel" "ChartKnitterModel" "many" "[I") ∈ xall := mx 743 (by decide +kernel) (by decide +kernel)
theorem m745 : (Jvm.Cond.laysFinal "ChartKnitterModel" "ChartKnitterModel" "rowOf" "[I") ∈ xall := mx 745 (by decide +kernel) (by decide +kernel)
theorem m747 : (Jvm.Cond.laysFinal "ChartKnitterModel" "ChartKnitterModel" "columnOf" "[I") ∈ xall := mx 747 (by decide +kernel) (by decide +kernel)
theorem m749 : (Jvm.Cond.laysFinal "ChartKnitterModel" "ChartKnitterModel" "bedOf" "[I") ∈ xall := mx 749 (by decide +kernel) (by decide +kernel)
theorem m751 : (Jvm.Cond.laysFinal "ChartKnitterModel" "ChartKnitterModel" "carrierOf" "[I") ∈ xall := mx 751 (by decide +kernel) (by decide +kernel)
theorem m753 : (Jvm.Cond.laysFinal "ChartKnitterModel" "ChartKnitterModel" "droppedIn" "[I") ∈ xall := mx 753 (by decide +kernel) (by decide +kernel)
theorem m755 : (Jvm.Cond.lays "ChartKnitterModel" "ChartKnitterModel" "count" "I") ∈ xall := mx 755 (by decide +kernel) (by decide +kernel)
theorem m757 : (Jvm.Cond.laysFinal "ChartKnitterModel" "ChartKnitterModel" "kind" "[I") ∈ xall := mx 757 (by decide +kernel) (by decide +kernel)
theorem m759 : (Jvm.Cond.laysFinal "ChartKnitterModel" "ChartKnitterModel" "at" "[I") ∈ xall := mx 759 (by decide +kernel) (by decide +kernel)
theorem m761 : (Jvm.Cond.laysFinal "ChartKnitterModel" "ChartKnitterModel" "left" "[I") ∈ xall := mx 761 (by decide +kernel) (by decide +kernel)
theorem m763 : (Jvm.Cond.laysFinal "ChartKnitterModel" "ChartKnitterModel" "right" "[I") ∈ xall := mx 763 (by decide +kernel) (by decide +kernel)
theorem m765 : (Jvm.Cond.laysFinal "ChartKnitterModel" "ChartKnitterModel" "goal" "[I") ∈ xall := mx 765 (by decide +kernel) (by decide +kernel)
theorem m767 : (Jvm.Cond.laysFinal "ChartKnitterModel" "ChartKnitterModel" "late" "[Z") ∈ xall := mx 767 (by decide +kernel) (by decide +kernel)
theorem m769 : (Jvm.Cond.laysFinal "ChartKnitterModel" "ChartKnitterModel" "must" "[I") ∈ xall := mx 769 (by decide +kernel) (by decide +kernel)
theorem m771 : (Jvm.Cond.laysFinal "ChartKnitterModel" "ChartKnitterModel" "charOf" "[I") ∈ xall := mx 771 (by decide +kernel) (by decide +kernel)
theorem m773 : (Jvm.Cond.laysFinal "ChartKnitterModel" "ChartKnitterModel" "by" "[I") ∈ xall := mx 773 (by decide +kernel) (by decide +kernel)
theorem m775 : (Jvm.Cond.laysFinal "ChartKnitterModel" "ChartKnitterModel" "sources" "[I") ∈ xall := mx 775 (by decide +kernel) (by decide +kernel)
theorem m777 : (Jvm.Cond.laysFinal "ChartKnitterModel" "ChartKnitterModel" "source" "[I") ∈ xall := mx 777 (by decide +kernel) (by decide +kernel)
theorem m788 : (Jvm.Cond.constantLong "ChartKnitterModel" (105 : Nat) (255 : Int64)) ∈ xall := mx 788 (by decide +kernel) (by decide +kernel)
theorem m797 : (Jvm.Cond.methodLink "ChartKnitterModel" (175 : Nat) ({ cls := "ChartKnitterModel", name := "parse", desc := "([III)I" } : Jvm.MethodName)) ∈ xall := mx 797 (by decide +kernel) (by decide +kernel)
theorem m799 : (Jvm.Cond.instanceMethod ({ cls := "ChartKnitterModel", name := "parse", desc := "([III)I" } : Jvm.MethodName)) ∈ xall := mx 799 (by decide +kernel) (by decide +kernel)
theorem m800 : (Jvm.Cond.code ({ cls := "ChartKnitterModel", name := "parse", desc := "([III)I" } : Jvm.MethodName) prog_10_method_7_code (7 : Nat) (Option.some Jvm.ClassFile.FieldType.int)) ∈ xall := mx 800 (by decide +kernel) (by decide +kernel)
theorem m801 : (Jvm.Cond.methodLink "ChartKnitterModel" (113 : Nat) ({ cls := "ChartKnitterModel", name := "isPlain", desc := "(I)Z" } : Jvm.MethodName)) ∈ xall := mx 801 (by decide +kernel) (by decide +kernel)
theorem m802 : (Jvm.Cond.static ({ cls := "ChartKnitterModel", name := "isPlain", desc := "(I)Z" } : Jvm.MethodName)) ∈ xall := mx 802 (by decide +kernel) (by decide +kernel)
theorem m803 : (Jvm.Cond.code ({ cls := "ChartKnitterModel", name := "isPlain", desc := "(I)Z" } : Jvm.MethodName) prog_10_method_5_code (1 : Nat) (Option.some Jvm.ClassFile.FieldType.boolean)) ∈ xall := mx 803 (by decide +kernel) (by decide +kernel)
theorem m804 : (Jvm.Cond.methodLink "ChartKnitterModel" (117 : Nat) ({ cls := "ChartKnitterModel", name := "isFigure", desc := "(I)Z" } : Jvm.MethodName)) ∈ xall := mx 804 (by decide +kernel) (by decide +kernel)
theorem m805 : (Jvm.Cond.static ({ cls := "ChartKnitterModel", name := "isFigure", desc := "(I)Z" } : Jvm.MethodName)) ∈ xall := mx 805 (by decide +kernel) (by decide +kernel)
theorem m806 : (Jvm.Cond.code ({ cls := "ChartKnitterModel", name := "isFigure", desc := "(I)Z" } : Jvm.MethodName) prog_10_method_6_code (1 : Nat) (Option.some Jvm.ClassFile.FieldType.boolean)) ∈ xall := mx 806 (by decide +kernel) (by decide +kernel)
theorem m807 : (Jvm.Cond.methodLink "ChartKnitterModel" (179 : Nat) ({ cls := "ChartKnitterModel", name := "fault", desc := "(II)I" } : Jvm.MethodName)) ∈ xall := mx 807 (by decide +kernel) (by decide +kernel)
theorem m809 : (Jvm.Cond.instanceMethod ({ cls := "ChartKnitterModel", name := "fault", desc := "(II)I" } : Jvm.MethodName)) ∈ xall := mx 809 (by decide +kernel) (by decide +kernel)
theorem m810 : (Jvm.Cond.code ({ cls := "ChartKnitterModel", name := "fault", desc := "(II)I" } : Jvm.MethodName) prog_10_method_10_code (3 : Nat) (Option.some Jvm.ClassFile.FieldType.int)) ∈ xall := mx 810 (by decide +kernel) (by decide +kernel)
theorem m811 : (Jvm.Cond.methodLink "ChartKnitterModel" (123 : Nat) ({ cls := "ChartKnitterModel", name := "takes", desc := "(I)I" } : Jvm.MethodName)) ∈ xall := mx 811 (by decide +kernel) (by decide +kernel)
theorem m813 : (Jvm.Cond.instanceMethod ({ cls := "ChartKnitterModel", name := "takes", desc := "(I)I" } : Jvm.MethodName)) ∈ xall := mx 813 (by decide +kernel) (by decide +kernel)
theorem m814 : (Jvm.Cond.code ({ cls := "ChartKnitterModel", name := "takes", desc := "(I)I" } : Jvm.MethodName) prog_10_method_8_code (2 : Nat) (Option.some Jvm.ClassFile.FieldType.int)) ∈ xall := mx 814 (by decide +kernel) (by decide +kernel)
theorem m815 : (Jvm.Cond.methodLink "ChartKnitterModel" (144 : Nat) ({ cls := "ChartKnitterModel", name := "gives", desc := "(I)I" } : Jvm.MethodName)) ∈ xall := mx 815 (by decide +kernel) (by decide +kernel)
theorem m817 : (Jvm.Cond.instanceMethod ({ cls := "ChartKnitterModel", name := "gives", desc := "(I)I" } : Jvm.MethodName)) ∈ xall := mx 817 (by decide +kernel) (by decide +kernel)
theorem m818 : (Jvm.Cond.code ({ cls := "ChartKnitterModel", name := "gives", desc := "(I)I" } : Jvm.MethodName) prog_10_method_9_code (2 : Nat) (Option.some Jvm.ClassFile.FieldType.int)) ∈ xall := mx 818 (by decide +kernel) (by decide +kernel)
theorem m819 : (Jvm.Cond.methodLink "ChartKnitterModel" (183 : Nat) ({ cls := "ChartKnitterModel", name := "crowded", desc := "()I" } : Jvm.MethodName)) ∈ xall := mx 819 (by decide +kernel) (by decide +kernel)
theorem m821 : (Jvm.Cond.instanceMethod ({ cls := "ChartKnitterModel", name := "crowded", desc := "()I" } : Jvm.MethodName)) ∈ xall := mx 821 (by decide +kernel) (by decide +kernel)
theorem m822 : (Jvm.Cond.code ({ cls := "ChartKnitterModel", name := "crowded", desc := "()I" } : Jvm.MethodName) prog_10_method_12_code (6 : Nat) (Option.some Jvm.ClassFile.FieldType.int)) ∈ xall := mx 822 (by decide +kernel) (by decide +kernel)
theorem m823 : (Jvm.Cond.methodLink "ChartKnitterModel" (127 : Nat) ({ cls := "ChartKnitterModel", name := "size", desc := "(I)I" } : Jvm.MethodName)) ∈ xall := mx 823 (by decide +kernel) (by decide +kernel)
theorem m825 : (Jvm.Cond.instanceMethod ({ cls := "ChartKnitterModel", name := "size", desc := "(I)I" } : Jvm.MethodName)) ∈ xall := mx 825 (by decide +kernel) (by decide +kernel)
theorem m826 : (Jvm.Cond.code ({ cls := "ChartKnitterModel", name := "size", desc := "(I)I" } : Jvm.MethodName) prog_10_method_11_code (2 : Nat) (Option.some Jvm.ClassFile.FieldType.int)) ∈ xall := mx 826 (by decide +kernel) (by decide +kernel)
theorem m827 : (Jvm.Cond.methodLink "ChartKnitterModel" (186 : Nat) ({ cls := "ChartKnitterModel", name := "plan", desc := "()V" } : Jvm.MethodName)) ∈ xall := mx 827 (by decide +kernel) (by decide +kernel)
theorem m829 : (Jvm.Cond.instanceMethod ({ cls := "ChartKnitterModel", name := "plan", desc := "()V" } : Jvm.MethodName)) ∈ xall := mx 829 (by decide +kernel) (by decide +kernel)
theorem m830 : (Jvm.Cond.code ({ cls := "ChartKnitterModel", name := "plan", desc := "()V" } : Jvm.MethodName) prog_10_method_17_code (5 : Nat) (Option.none : Option Jvm.ClassFile.FieldType)) ∈ xall := mx 830 (by decide +kernel) (by decide +kernel)
theorem m831 : (Jvm.Cond.methodLink "ChartKnitterModel" (138 : Nat) ({ cls := "ChartKnitterModel", name := "cable", desc := "(III)V" } : Jvm.MethodName)) ∈ xall := mx 831 (by decide +kernel) (by decide +kernel)
theorem m833 : (Jvm.Cond.instanceMethod ({ cls := "ChartKnitterModel", name := "cable", desc := "(III)V" } : Jvm.MethodName)) ∈ xall := mx 833 (by decide +kernel) (by decide +kernel)
theorem m834 : (Jvm.Cond.code ({ cls := "ChartKnitterModel", name := "cable", desc := "(III)V" } : Jvm.MethodName) prog_10_method_16_code (8 : Nat) (Option.none : Option Jvm.ClassFile.FieldType)) ∈ xall := mx 834 (by decide +kernel) (by decide +kernel)
theorem m835 : (Jvm.Cond.methodLink "ChartKnitterModel" (130 : Nat) ({ cls := "ChartKnitterModel", name := "take", desc := "(IIIZI)V" } : Jvm.MethodName)) ∈ xall := mx 835 (by decide +kernel) (by decide +kernel)
theorem m837 : (Jvm.Cond.instanceMethod ({ cls := "ChartKnitterModel", name := "take", desc := "(IIIZI)V" } : Jvm.MethodName)) ∈ xall := mx 837 (by decide +kernel) (by decide +kernel)
theorem m838 : (Jvm.Cond.code ({ cls := "ChartKnitterModel", name := "take", desc := "(IIIZI)V" } : Jvm.MethodName) prog_10_method_13_code (6 : Nat) (Option.none : Option Jvm.ClassFile.FieldType)) ∈ xall := mx 838 (by decide +kernel) (by decide +kernel)
theorem m839 : (Jvm.Cond.methodLink "ChartKnitterModel" (134 : Nat) ({ cls := "ChartKnitterModel", name := "give", desc := "(III)V" } : Jvm.MethodName)) ∈ xall := mx 839 (by decide +kernel) (by decide +kernel)
theorem m841 : (Jvm.Cond.instanceMethod ({ cls := "ChartKnitterModel", name := "give", desc := "(III)V" } : Jvm.MethodName)) ∈ xall := mx 841 (by decide +kernel) (by decide +kernel)
theorem m842 : (Jvm.Cond.code ({ cls := "ChartKnitterModel", name := "give", desc := "(III)V" } : Jvm.MethodName) prog_10_method_14_code (4 : Nat) (Option.none : Option Jvm.ClassFile.FieldType)) ∈ xall := mx 842 (by decide +kernel) (by decide +kernel)
theorem m843 : (Jvm.Cond.methodLink "ChartKnitterModel" (141 : Nat) ({ cls := "ChartKnitterModel", name := "join", desc := "(III)V" } : Jvm.MethodName)) ∈ xall := mx 843 (by decide +kernel) (by decide +kernel)
theorem m845 : (Jvm.Cond.instanceMethod ({ cls := "ChartKnitterModel", name := "join", desc := "(III)V" } : Jvm.MethodName)) ∈ xall := mx 845 (by decide +kernel) (by decide +kernel)
theorem m846 : (Jvm.Cond.code ({ cls := "ChartKnitterModel", name := "join", desc := "(III)V" } : Jvm.MethodName) prog_10_method_15_code (6 : Nat) (Option.none : Option Jvm.ClassFile.FieldType)) ∈ xall := mx 846 (by decide +kernel) (by decide +kernel)
theorem m847 : (Jvm.Cond.methodLink "ChartKnitterModel" (147 : Nat) ({ cls := "ChartKnitterModel", name := "areMoved", desc := "()Z" } : Jvm.MethodName)) ∈ xall := mx 847 (by decide +kernel) (by decide +kernel)
theorem m849 : (Jvm.Cond.instanceMethod ({ cls := "ChartKnitterModel", name := "areMoved", desc := "()Z" } : Jvm.MethodName)) ∈ xall := mx 849 (by decide +kernel) (by decide +kernel)
theorem m850 : (Jvm.Cond.code ({ cls := "ChartKnitterModel", name := "areMoved", desc := "()Z" } : Jvm.MethodName) prog_10_method_18_code (3 : Nat) (Option.some Jvm.ClassFile.FieldType.boolean)) ∈ xall := mx 850 (by decide +kernel) (by decide +kernel)
theorem m851 : (Jvm.Cond.methodLink "ChartKnitterModel" (189 : Nat) ({ cls := "ChartKnitterModel", name := "tooFar", desc := "()I" } : Jvm.MethodName)) ∈ xall := mx 851 (by decide +kernel) (by decide +kernel)
theorem m853 : (Jvm.Cond.instanceMethod ({ cls := "ChartKnitterModel", name := "tooFar", desc := "()I" } : Jvm.MethodName)) ∈ xall := mx 853 (by decide +kernel) (by decide +kernel)
theorem m854 : (Jvm.Cond.code ({ cls := "ChartKnitterModel", name := "tooFar", desc := "()I" } : Jvm.MethodName) prog_10_method_19_code (2 : Nat) (Option.some Jvm.ClassFile.FieldType.int)) ∈ xall := mx 854 (by decide +kernel) (by decide +kernel)
theorem m855 : (Jvm.Cond.methodLink "ChartKnitterModel" (161 : Nat) ({ cls := "ChartKnitterModel", name := "makes", desc := "(I)I" } : Jvm.MethodName)) ∈ xall := mx 855 (by decide +kernel) (by decide +kernel)
theorem m857 : (Jvm.Cond.instanceMethod ({ cls := "ChartKnitterModel", name := "makes", desc := "(I)I" } : Jvm.MethodName)) ∈ xall := mx 857 (by decide +kernel) (by decide +kernel)
theorem m858 : (Jvm.Cond.code ({ cls := "ChartKnitterModel", name := "makes", desc := "(I)I" } : Jvm.MethodName) prog_10_method_20_code (4 : Nat) (Option.some Jvm.ClassFile.FieldType.int)) ∈ xall := mx 858 (by decide +kernel) (by decide +kernel)
theorem m859 : (Jvm.Cond.methodLink "ChartKnitterModel" (192 : Nat) ({ cls := "ChartKnitterModel", name := "knitRow", desc := "(II)V" } : Jvm.MethodName)) ∈ xall := mx 859 (by decide +kernel) (by decide +kernel)
theorem m861 : (Jvm.Cond.instanceMethod ({ cls := "ChartKnitterModel", name := "knitRow", desc := "(II)V" } : Jvm.MethodName)) ∈ xall := mx 861 (by decide +kernel) (by decide +kernel)
theorem m862 : (Jvm.Cond.code ({ cls := "ChartKnitterModel", name := "knitRow", desc := "(II)V" } : Jvm.MethodName) prog_10_method_26_code (5 : Nat) (Option.none : Option Jvm.ClassFile.FieldType)) ∈ xall := mx 862 (by decide +kernel) (by decide +kernel)
theorem m863 : (Jvm.Cond.methodLink "ChartKnitterModel" (151 : Nat) ({ cls := "ChartKnitterModel", name := "transfers", desc := "()I" } : Jvm.MethodName)) ∈ xall := mx 863 (by decide +kernel) (by decide +kernel)
theorem m865 : (Jvm.Cond.instanceMethod ({ cls := "ChartKnitterModel", name := "transfers", desc := "()I" } : Jvm.MethodName)) ∈ xall := mx 865 (by decide +kernel) (by decide +kernel)
theorem m866 : (Jvm.Cond.code ({ cls := "ChartKnitterModel", name := "transfers", desc := "()I" } : Jvm.MethodName) prog_10_method_21_code (6 : Nat) (Option.some Jvm.ClassFile.FieldType.int)) ∈ xall := mx 866 (by decide +kernel) (by decide +kernel)
theorem m867 : (Jvm.Cond.methodLink "ChartKnitterModel" (155 : Nat) ({ cls := "ChartKnitterModel", name := "rackings", desc := "()I" } : Jvm.MethodName)) ∈ xall := mx 867 (by decide +kernel) (by decide +kernel)
theorem m869 : (Jvm.Cond.instanceMethod ({ cls := "ChartKnitterModel", name := "rackings", desc := "()I" } : Jvm.MethodName)) ∈ xall := mx 869 (by decide +kernel) (by decide +kernel)
theorem m870 : (Jvm.Cond.code ({ cls := "ChartKnitterModel", name := "rackings", desc := "()I" } : Jvm.MethodName) prog_10_method_22_code (6 : Nat) (Option.some Jvm.ClassFile.FieldType.int)) ∈ xall := mx 870 (by decide +kernel) (by decide +kernel)
theorem m871 : (Jvm.Cond.methodLink "ChartKnitterModel" (158 : Nat) ({ cls := "ChartKnitterModel", name := "released", desc := "()I" } : Jvm.MethodName)) ∈ xall := mx 871 (by decide +kernel) (by decide +kernel)
theorem m873 : (Jvm.Cond.instanceMethod ({ cls := "ChartKnitterModel", name := "released", desc := "()I" } : Jvm.MethodName)) ∈ xall := mx 873 (by decide +kernel) (by decide +kernel)
theorem m874 : (Jvm.Cond.code ({ cls := "ChartKnitterModel", name := "released", desc := "()I" } : Jvm.MethodName) prog_10_method_23_code (3 : Nat) (Option.some Jvm.ClassFile.FieldType.int)) ∈ xall := mx 874 (by decide +kernel) (by decide +kernel)
theorem m875 : (Jvm.Cond.methodLink "ChartKnitterModel" (164 : Nat) ({ cls := "ChartKnitterModel", name := "make", desc := "(II)V" } : Jvm.MethodName)) ∈ xall := mx 875 (by decide +kernel) (by decide +kernel)
theorem m877 : (Jvm.Cond.instanceMethod ({ cls := "ChartKnitterModel", name := "make", desc := "(II)V" } : Jvm.MethodName)) ∈ xall := mx 877 (by decide +kernel) (by decide +kernel)
theorem m878 : (Jvm.Cond.code ({ cls := "ChartKnitterModel", name := "make", desc := "(II)V" } : Jvm.MethodName) prog_10_method_24_code (13 : Nat) (Option.none : Option Jvm.ClassFile.FieldType)) ∈ xall := mx 878 (by decide +kernel) (by decide +kernel)
theorem m879 : (Jvm.Cond.methodLink "ChartKnitterModel" (168 : Nat) ({ cls := "ChartKnitterModel", name := "drop", desc := "()V" } : Jvm.MethodName)) ∈ xall := mx 879 (by decide +kernel) (by decide +kernel)
theorem m881 : (Jvm.Cond.instanceMethod ({ cls := "ChartKnitterModel", name := "drop", desc := "()V" } : Jvm.MethodName)) ∈ xall := mx 881 (by decide +kernel) (by decide +kernel)
theorem m882 : (Jvm.Cond.code ({ cls := "ChartKnitterModel", name := "drop", desc := "()V" } : Jvm.MethodName) prog_10_method_25_code (4 : Nat) (Option.none : Option Jvm.ClassFile.FieldType)) ∈ xall := mx 882 (by decide +kernel) (by decide +kernel)
theorem m903 : (Jvm.Cond.methodLink "ChartKnitterModel" (195 : Nat) ({ cls := "ChartKnitterModel", name := "noRow", desc := "(I)Z" } : Jvm.MethodName)) ∈ xall := mx 903 (by decide +kernel) (by decide +kernel)
theorem m905 : (Jvm.Cond.instanceMethod ({ cls := "ChartKnitterModel", name := "noRow", desc := "(I)Z" } : Jvm.MethodName)) ∈ xall := mx 905 (by decide +kernel) (by decide +kernel)
theorem m906 : (Jvm.Cond.code ({ cls := "ChartKnitterModel", name := "noRow", desc := "(I)Z" } : Jvm.MethodName) prog_10_method_32_code (2 : Nat) (Option.some Jvm.ClassFile.FieldType.boolean)) ∈ xall := mx 906 (by decide +kernel) (by decide +kernel)
theorem m907 : (Jvm.Cond.methodLink "ChartKnitterModel" (198 : Nat) ({ cls := "ChartKnitterModel", name := "pair", desc := "(II)I" } : Jvm.MethodName)) ∈ xall := mx 907 (by decide +kernel) (by decide +kernel)
theorem m909 : (Jvm.Cond.instanceMethod ({ cls := "ChartKnitterModel", name := "pair", desc := "(II)I" } : Jvm.MethodName)) ∈ xall := mx 909 (by decide +kernel) (by decide +kernel)
theorem m910 : (Jvm.Cond.code ({ cls := "ChartKnitterModel", name := "pair", desc := "(II)I" } : Jvm.MethodName) prog_10_method_34_code (13 : Nat) (Option.some Jvm.ClassFile.FieldType.int)) ∈ xall := mx 910 (by decide +kernel) (by decide +kernel)
theorem m915 : (Jvm.Cond.methodLink "ChartKnitterModel" (201 : Nat) ({ cls := "ChartKnitterModel", name := "noLoop", desc := "(I)Z" } : Jvm.MethodName)) ∈ xall := mx 915 (by decide +kernel) (by decide +kernel)
theorem m917 : (Jvm.Cond.instanceMethod ({ cls := "ChartKnitterModel", name := "noLoop", desc := "(I)Z" } : Jvm.MethodName)) ∈ xall := mx 917 (by decide +kernel) (by decide +kernel)
theorem m918 : (Jvm.Cond.code ({ cls := "ChartKnitterModel", name := "noLoop", desc := "(I)Z" } : Jvm.MethodName) prog_10_method_33_code (2 : Nat) (Option.some Jvm.ClassFile.FieldType.boolean)) ∈ xall := mx 918 (by decide +kernel) (by decide +kernel)
theorem m923 : (Jvm.Cond.methodLink "ChartKnitterModel" (204 : Nat) ({ cls := "ChartKnitterModel", name := "whereIs", desc := "(I)I" } : Jvm.MethodName)) ∈ xall := mx 923 (by decide +kernel) (by decide +kernel)
theorem m925 : (Jvm.Cond.instanceMethod ({ cls := "ChartKnitterModel", name := "whereIs", desc := "(I)I" } : Jvm.MethodName)) ∈ xall := mx 925 (by decide +kernel) (by decide +kernel)
theorem m926 : (Jvm.Cond.code ({ cls := "ChartKnitterModel", name := "whereIs", desc := "(I)I" } : Jvm.MethodName) prog_10_method_37_code (4 : Nat) (Option.some Jvm.ClassFile.FieldType.int)) ∈ xall := mx 926 (by decide +kernel) (by decide +kernel)
theorem ms1 : Cond.selects "ChartKnitter" ⟨"ChartKnitter", "faultOfChart", "()I"⟩ ⟨"ChartKnitter", "faultOfChart", "()I"⟩ ∈ xall := mp (q := (⟨"ChartKnitter", "faultOfChart", "()I"⟩, 8)) 1 (by decide +kernel) (by decide +kernel)
theorem ms2 : Cond.selects "ChartKnitter$Chart" ⟨"ChartKnitter$Chart", "digitAt", "(I)I"⟩ ⟨"ChartKnitter$Chart", "digitAt", "(I)I"⟩ ∈ xall := mp (q := (⟨"ChartKnitter$Chart", "digitAt", "(I)I"⟩, 7)) 2 (by decide +kernel) (by decide +kernel)
theorem ms3 : Cond.selects "ChartKnitter$Chart" ⟨"ChartKnitter$Chart", "add", "(IZ)V"⟩ ⟨"ChartKnitter$Chart", "add", "(IZ)V"⟩ ∈ xall := mp (q := (⟨"ChartKnitter$Chart", "add", "(IZ)V"⟩, 7)) 3 (by decide +kernel) (by decide +kernel)
theorem ms4 : Cond.selects "ChartKnitter" ⟨"ChartKnitter", "faultOfRow", "(I)I"⟩ ⟨"ChartKnitter", "faultOfRow", "(I)I"⟩ ∈ xall := mp (q := (⟨"ChartKnitter", "faultOfRow", "(I)I"⟩, 8)) 4 (by decide +kernel) (by decide +kernel)
theorem ms5 : Cond.selects "ChartKnitter" ⟨"ChartKnitter", "knitNextRow", "(I)V"⟩ ⟨"ChartKnitter", "knitNextRow", "(I)V"⟩ ∈ xall := mp (q := (⟨"ChartKnitter", "knitNextRow", "(I)V"⟩, 8)) 5 (by decide +kernel) (by decide +kernel)
theorem ms6 : Cond.selects "ChartKnitter$Machine" ⟨"ChartKnitter$Machine", "clearFront", "(LChartKnitter$Plan;LChartKnitter$Row;)V"⟩ ⟨"ChartKnitter$Machine", "clearFront", "(LChartKnitter$Plan;LChartKnitter$Row;)V"⟩ ∈ xall := mp (q := (⟨"ChartKnitter$Machine", "clearFront", "(LChartKnitter$Plan;LChartKnitter$Row;)V"⟩, 3)) 6 (by decide +kernel) (by decide +kernel)
theorem ms7 : Cond.selects "ChartKnitter$Machine" ⟨"ChartKnitter$Machine", "transfer", "(I)V"⟩ ⟨"ChartKnitter$Machine", "transfer", "(I)V"⟩ ∈ xall := mp (q := (⟨"ChartKnitter$Machine", "transfer", "(I)V"⟩, 3)) 7 (by decide +kernel) (by decide +kernel)
theorem ms8 : Cond.selects "ChartKnitter$Machine" ⟨"ChartKnitter$Machine", "rackTo", "(I)V"⟩ ⟨"ChartKnitter$Machine", "rackTo", "(I)V"⟩ ∈ xall := mp (q := (⟨"ChartKnitter$Machine", "rackTo", "(I)V"⟩, 3)) 8 (by decide +kernel) (by decide +kernel)
theorem ms9 : Cond.selects "ChartKnitter$Machine" ⟨"ChartKnitter$Machine", "moveToGoals", "(LChartKnitter$Plan;Z)V"⟩ ⟨"ChartKnitter$Machine", "moveToGoals", "(LChartKnitter$Plan;Z)V"⟩ ∈ xall := mp (q := (⟨"ChartKnitter$Machine", "moveToGoals", "(LChartKnitter$Plan;Z)V"⟩, 3)) 9 (by decide +kernel) (by decide +kernel)
theorem ms10 : Cond.selects "ChartKnitter$Machine" ⟨"ChartKnitter$Machine", "fillBack", "(LChartKnitter$Plan;LChartKnitter$Row;)V"⟩ ⟨"ChartKnitter$Machine", "fillBack", "(LChartKnitter$Plan;LChartKnitter$Row;)V"⟩ ∈ xall := mp (q := (⟨"ChartKnitter$Machine", "fillBack", "(LChartKnitter$Plan;LChartKnitter$Row;)V"⟩, 3)) 10 (by decide +kernel) (by decide +kernel)
theorem ms11 : Cond.selects "ChartKnitter$Machine" ⟨"ChartKnitter$Machine", "changeBeds", "(LChartKnitter$Plan;LChartKnitter$Row;)V"⟩ ⟨"ChartKnitter$Machine", "changeBeds", "(LChartKnitter$Plan;LChartKnitter$Row;)V"⟩ ∈ xall := mp (q := (⟨"ChartKnitter$Machine", "changeBeds", "(LChartKnitter$Plan;LChartKnitter$Row;)V"⟩, 3)) 11 (by decide +kernel) (by decide +kernel)
theorem ms12 : Cond.selects "ChartKnitter" ⟨"ChartKnitter", "release", "(LChartKnitter$Row;LChartKnitter$Row;)V"⟩ ⟨"ChartKnitter", "release", "(LChartKnitter$Row;LChartKnitter$Row;)V"⟩ ∈ xall := mp (q := (⟨"ChartKnitter", "release", "(LChartKnitter$Row;LChartKnitter$Row;)V"⟩, 8)) 12 (by decide +kernel) (by decide +kernel)
theorem ms13 : Cond.selects "ChartKnitter" ⟨"ChartKnitter", "bringToGoals", "(LChartKnitter$Row;LChartKnitter$Row;Z)V"⟩ ⟨"ChartKnitter", "bringToGoals", "(LChartKnitter$Row;LChartKnitter$Row;Z)V"⟩ ∈ xall := mp (q := (⟨"ChartKnitter", "bringToGoals", "(LChartKnitter$Row;LChartKnitter$Row;Z)V"⟩, 8)) 13 (by decide +kernel) (by decide +kernel)
theorem ms14 : Cond.selects "ChartKnitter" ⟨"ChartKnitter", "noteCrossings", "(LChartKnitter$Row;LChartKnitter$Row;)V"⟩ ⟨"ChartKnitter", "noteCrossings", "(LChartKnitter$Row;LChartKnitter$Row;)V"⟩ ∈ xall := mp (q := (⟨"ChartKnitter", "noteCrossings", "(LChartKnitter$Row;LChartKnitter$Row;)V"⟩, 8)) 14 (by decide +kernel) (by decide +kernel)
theorem ms15 : Cond.selects "ChartKnitter" ⟨"ChartKnitter", "makeLoops", "(LChartKnitter$Row;LChartKnitter$Row;I)V"⟩ ⟨"ChartKnitter", "makeLoops", "(LChartKnitter$Row;LChartKnitter$Row;I)V"⟩ ∈ xall := mp (q := (⟨"ChartKnitter", "makeLoops", "(LChartKnitter$Row;LChartKnitter$Row;I)V"⟩, 8)) 15 (by decide +kernel) (by decide +kernel)
theorem ms16 : Cond.selects "ChartKnitter" ⟨"ChartKnitter", "drawThrough", "(LChartKnitter$Row;II)V"⟩ ⟨"ChartKnitter", "drawThrough", "(LChartKnitter$Row;II)V"⟩ ∈ xall := mp (q := (⟨"ChartKnitter", "drawThrough", "(LChartKnitter$Row;II)V"⟩, 8)) 16 (by decide +kernel) (by decide +kernel)
theorem ms17 : Cond.selects "ChartKnitter" ⟨"ChartKnitter", "isKnitted", "(I)Z"⟩ ⟨"ChartKnitter", "isKnitted", "(I)Z"⟩ ∈ xall := mp (q := (⟨"ChartKnitter", "isKnitted", "(I)Z"⟩, 8)) 17 (by decide +kernel) (by decide +kernel)
theorem ms18 : Cond.selects "ChartKnitter" ⟨"ChartKnitter", "isLoop", "(I)Z"⟩ ⟨"ChartKnitter", "isLoop", "(I)Z"⟩ ∈ xall := mp (q := (⟨"ChartKnitter", "isLoop", "(I)Z"⟩, 8)) 18 (by decide +kernel) (by decide +kernel)
theorem ms19 : Cond.selects "ChartKnitterModel" ⟨"ChartKnitterModel", "parse", "([III)I"⟩ ⟨"ChartKnitterModel", "parse", "([III)I"⟩ ∈ xall := mp (q := (⟨"ChartKnitterModel", "parse", "([III)I"⟩, 35)) 19 (by decide +kernel) (by decide +kernel)
theorem ms20 : Cond.selects "ChartKnitterModel" ⟨"ChartKnitterModel", "fault", "(II)I"⟩ ⟨"ChartKnitterModel", "fault", "(II)I"⟩ ∈ xall := mp (q := (⟨"ChartKnitterModel", "fault", "(II)I"⟩, 35)) 20 (by decide +kernel) (by decide +kernel)
theorem ms21 : Cond.selects "ChartKnitterModel" ⟨"ChartKnitterModel", "takes", "(I)I"⟩ ⟨"ChartKnitterModel", "takes", "(I)I"⟩ ∈ xall := mp (q := (⟨"ChartKnitterModel", "takes", "(I)I"⟩, 35)) 21 (by decide +kernel) (by decide +kernel)
theorem ms22 : Cond.selects "ChartKnitterModel" ⟨"ChartKnitterModel", "gives", "(I)I"⟩ ⟨"ChartKnitterModel", "gives", "(I)I"⟩ ∈ xall := mp (q := (⟨"ChartKnitterModel", "gives", "(I)I"⟩, 35)) 22 (by decide +kernel) (by decide +kernel)
theorem ms23 : Cond.selects "ChartKnitterModel" ⟨"ChartKnitterModel", "crowded", "()I"⟩ ⟨"ChartKnitterModel", "crowded", "()I"⟩ ∈ xall := mp (q := (⟨"ChartKnitterModel", "crowded", "()I"⟩, 35)) 23 (by decide +kernel) (by decide +kernel)
theorem ms24 : Cond.selects "ChartKnitterModel" ⟨"ChartKnitterModel", "size", "(I)I"⟩ ⟨"ChartKnitterModel", "size", "(I)I"⟩ ∈ xall := mp (q := (⟨"ChartKnitterModel", "size", "(I)I"⟩, 35)) 24 (by decide +kernel) (by decide +kernel)
theorem ms25 : Cond.selects "ChartKnitterModel" ⟨"ChartKnitterModel", "plan", "()V"⟩ ⟨"ChartKnitterModel", "plan", "()V"⟩ ∈ xall := mp (q := (⟨"ChartKnitterModel", "plan", "()V"⟩, 35)) 25 (by decide +kernel) (by decide +kernel)
theorem ms26 : Cond.selects "ChartKnitterModel" ⟨"ChartKnitterModel", "cable", "(III)V"⟩ ⟨"ChartKnitterModel", "cable", "(III)V"⟩ ∈ xall := mp (q := (⟨"ChartKnitterModel", "cable", "(III)V"⟩, 35)) 26 (by decide +kernel) (by decide +kernel)
theorem ms27 : Cond.selects "ChartKnitterModel" ⟨"ChartKnitterModel", "take", "(IIIZI)V"⟩ ⟨"ChartKnitterModel", "take", "(IIIZI)V"⟩ ∈ xall := mp (q := (⟨"ChartKnitterModel", "take", "(IIIZI)V"⟩, 35)) 27 (by decide +kernel) (by decide +kernel)
theorem ms28 : Cond.selects "ChartKnitterModel" ⟨"ChartKnitterModel", "give", "(III)V"⟩ ⟨"ChartKnitterModel", "give", "(III)V"⟩ ∈ xall := mp (q := (⟨"ChartKnitterModel", "give", "(III)V"⟩, 35)) 28 (by decide +kernel) (by decide +kernel)
theorem ms29 : Cond.selects "ChartKnitterModel" ⟨"ChartKnitterModel", "join", "(III)V"⟩ ⟨"ChartKnitterModel", "join", "(III)V"⟩ ∈ xall := mp (q := (⟨"ChartKnitterModel", "join", "(III)V"⟩, 35)) 29 (by decide +kernel) (by decide +kernel)
theorem ms30 : Cond.selects "ChartKnitterModel" ⟨"ChartKnitterModel", "areMoved", "()Z"⟩ ⟨"ChartKnitterModel", "areMoved", "()Z"⟩ ∈ xall := mp (q := (⟨"ChartKnitterModel", "areMoved", "()Z"⟩, 35)) 30 (by decide +kernel) (by decide +kernel)
theorem ms31 : Cond.selects "ChartKnitterModel" ⟨"ChartKnitterModel", "tooFar", "()I"⟩ ⟨"ChartKnitterModel", "tooFar", "()I"⟩ ∈ xall := mp (q := (⟨"ChartKnitterModel", "tooFar", "()I"⟩, 35)) 31 (by decide +kernel) (by decide +kernel)
theorem ms32 : Cond.selects "ChartKnitterModel" ⟨"ChartKnitterModel", "makes", "(I)I"⟩ ⟨"ChartKnitterModel", "makes", "(I)I"⟩ ∈ xall := mp (q := (⟨"ChartKnitterModel", "makes", "(I)I"⟩, 35)) 32 (by decide +kernel) (by decide +kernel)
theorem ms33 : Cond.selects "ChartKnitterModel" ⟨"ChartKnitterModel", "knitRow", "(II)V"⟩ ⟨"ChartKnitterModel", "knitRow", "(II)V"⟩ ∈ xall := mp (q := (⟨"ChartKnitterModel", "knitRow", "(II)V"⟩, 35)) 33 (by decide +kernel) (by decide +kernel)
theorem ms34 : Cond.selects "ChartKnitterModel" ⟨"ChartKnitterModel", "transfers", "()I"⟩ ⟨"ChartKnitterModel", "transfers", "()I"⟩ ∈ xall := mp (q := (⟨"ChartKnitterModel", "transfers", "()I"⟩, 35)) 34 (by decide +kernel) (by decide +kernel)
theorem ms35 : Cond.selects "ChartKnitterModel" ⟨"ChartKnitterModel", "rackings", "()I"⟩ ⟨"ChartKnitterModel", "rackings", "()I"⟩ ∈ xall := mp (q := (⟨"ChartKnitterModel", "rackings", "()I"⟩, 35)) 35 (by decide +kernel) (by decide +kernel)
theorem ms36 : Cond.selects "ChartKnitterModel" ⟨"ChartKnitterModel", "released", "()I"⟩ ⟨"ChartKnitterModel", "released", "()I"⟩ ∈ xall := mp (q := (⟨"ChartKnitterModel", "released", "()I"⟩, 35)) 36 (by decide +kernel) (by decide +kernel)
theorem ms37 : Cond.selects "ChartKnitterModel" ⟨"ChartKnitterModel", "make", "(II)V"⟩ ⟨"ChartKnitterModel", "make", "(II)V"⟩ ∈ xall := mp (q := (⟨"ChartKnitterModel", "make", "(II)V"⟩, 35)) 37 (by decide +kernel) (by decide +kernel)
theorem ms38 : Cond.selects "ChartKnitterModel" ⟨"ChartKnitterModel", "drop", "()V"⟩ ⟨"ChartKnitterModel", "drop", "()V"⟩ ∈ xall := mp (q := (⟨"ChartKnitterModel", "drop", "()V"⟩, 35)) 38 (by decide +kernel) (by decide +kernel)
theorem ms39 : Cond.selects "ChartKnitterModel" ⟨"ChartKnitterModel", "noRow", "(I)Z"⟩ ⟨"ChartKnitterModel", "noRow", "(I)Z"⟩ ∈ xall := mp (q := (⟨"ChartKnitterModel", "noRow", "(I)Z"⟩, 35)) 39 (by decide +kernel) (by decide +kernel)
theorem ms40 : Cond.selects "ChartKnitterModel" ⟨"ChartKnitterModel", "pair", "(II)I"⟩ ⟨"ChartKnitterModel", "pair", "(II)I"⟩ ∈ xall := mp (q := (⟨"ChartKnitterModel", "pair", "(II)I"⟩, 35)) 40 (by decide +kernel) (by decide +kernel)
theorem ms41 : Cond.selects "ChartKnitterModel" ⟨"ChartKnitterModel", "noLoop", "(I)Z"⟩ ⟨"ChartKnitterModel", "noLoop", "(I)Z"⟩ ∈ xall := mp (q := (⟨"ChartKnitterModel", "noLoop", "(I)Z"⟩, 35)) 41 (by decide +kernel) (by decide +kernel)
theorem ms42 : Cond.selects "ChartKnitterModel" ⟨"ChartKnitterModel", "whereIs", "(I)I"⟩ ⟨"ChartKnitterModel", "whereIs", "(I)I"⟩ ∈ xall := mp (q := (⟨"ChartKnitterModel", "whereIs", "(I)I"⟩, 35)) 42 (by decide +kernel) (by decide +kernel)
theorem lay0 : ∀ w ∈ u_ws CR0 CF0 8, w ∈ xall := by
  intro w hw
  obtain ⟨k, hk, rfl⟩ := List.mem_map.mp hw
  have hk := List.mem_range.mp hk
  rcases (show k = 0 ∨ k = 1 ∨ k = 2 ∨ k = 3 ∨ k = 4 ∨ k = 5 ∨ k = 6 ∨ k = 7 by omega) with rfl | rfl | rfl | rfl | rfl | rfl | rfl | rfl
  · exact m274
  · exact m276
  · exact m278
  · exact m280
  · exact m282
  · exact m284
  · exact m286
  · exact m288
theorem lay1 : ∀ w ∈ u_ws CR1 CF1 7, w ∈ xall := by
  intro w hw
  obtain ⟨k, hk, rfl⟩ := List.mem_map.mp hw
  have hk := List.mem_range.mp hk
  rcases (show k = 0 ∨ k = 1 ∨ k = 2 ∨ k = 3 ∨ k = 4 ∨ k = 5 ∨ k = 6 by omega) with rfl | rfl | rfl | rfl | rfl | rfl | rfl
  · exact m87
  · exact m89
  · exact m91
  · exact m93
  · exact m95
  · exact m97
  · exact m99
theorem lay2 : ∀ w ∈ u_ws CR2 CF2 4, w ∈ xall := by
  intro w hw
  obtain ⟨k, hk, rfl⟩ := List.mem_map.mp hw
  have hk := List.mem_range.mp hk
  rcases (show k = 0 ∨ k = 1 ∨ k = 2 ∨ k = 3 by omega) with rfl | rfl | rfl | rfl
  · exact m194
  · exact m196
  · exact m198
  · exact m200
theorem lay3 : ∀ w ∈ u_ws CR3 CF3 6, w ∈ xall := by
  intro w hw
  obtain ⟨k, hk, rfl⟩ := List.mem_map.mp hw
  have hk := List.mem_range.mp hk
  rcases (show k = 0 ∨ k = 1 ∨ k = 2 ∨ k = 3 ∨ k = 4 ∨ k = 5 by omega) with rfl | rfl | rfl | rfl | rfl | rfl
  · exact m171
  · exact m173
  · exact m175
  · exact m177
  · exact m179
  · exact m181
theorem lay4 : ∀ w ∈ u_ws CR4 CF4 3, w ∈ xall := by
  intro w hw
  obtain ⟨k, hk, rfl⟩ := List.mem_map.mp hw
  have hk := List.mem_range.mp hk
  rcases (show k = 0 ∨ k = 1 ∨ k = 2 by omega) with rfl | rfl | rfl
  · exact m146
  · exact m148
  · exact m150
theorem lay5 : ∀ w ∈ u_ws CR5 CF5 5, w ∈ xall := by
  intro w hw
  obtain ⟨k, hk, rfl⟩ := List.mem_map.mp hw
  have hk := List.mem_range.mp hk
  rcases (show k = 0 ∨ k = 1 ∨ k = 2 ∨ k = 3 ∨ k = 4 by omega) with rfl | rfl | rfl | rfl | rfl
  · exact m123
  · exact m125
  · exact m127
  · exact m129
  · exact m131
theorem lay6 : ∀ w ∈ u_ws CR6 CF6 13, w ∈ xall := by
  intro w hw
  obtain ⟨k, hk, rfl⟩ := List.mem_map.mp hw
  have hk := List.mem_range.mp hk
  rcases (show k = 0 ∨ k = 1 ∨ k = 2 ∨ k = 3 ∨ k = 4 ∨ k = 5 ∨ k = 6 ∨ k = 7 ∨ k = 8 ∨ k = 9 ∨ k = 10 ∨ k = 11 ∨ k = 12 by omega) with rfl | rfl | rfl | rfl | rfl | rfl | rfl | rfl | rfl | rfl | rfl | rfl | rfl
  · exact m239
  · exact m241
  · exact m243
  · exact m245
  · exact m247
  · exact m249
  · exact m251
  · exact m253
  · exact m255
  · exact m257
  · exact m259
  · exact m261
  · exact m263
theorem lay7 : ∀ w ∈ u_ws CR7 CF7 6, w ∈ xall := by
  intro w hw
  obtain ⟨k, hk, rfl⟩ := List.mem_map.mp hw
  have hk := List.mem_range.mp hk
  rcases (show k = 0 ∨ k = 1 ∨ k = 2 ∨ k = 3 ∨ k = 4 ∨ k = 5 by omega) with rfl | rfl | rfl | rfl | rfl | rfl
  · exact m56
  · exact m58
  · exact m60
  · exact m62
  · exact m64
  · exact m66
theorem lay8 : ∀ w ∈ u_ws CR8 CF8 35, w ∈ xall := by
  intro w hw
  obtain ⟨k, hk, rfl⟩ := List.mem_map.mp hw
  have hk := List.mem_range.mp hk
  rcases (show k = 0 ∨ k = 1 ∨ k = 2 ∨ k = 3 ∨ k = 4 ∨ k = 5 ∨ k = 6 ∨ k = 7 ∨ k = 8 ∨ k = 9 ∨ k = 10 ∨ k = 11 ∨ k = 12 ∨ k = 13 ∨ k = 14 ∨ k = 15 ∨ k = 16 ∨ k = 17 ∨ k = 18 ∨ k = 19 ∨ k = 20 ∨ k = 21 ∨ k = 22 ∨ k = 23 ∨ k = 24 ∨ k = 25 ∨ k = 26 ∨ k = 27 ∨ k = 28 ∨ k = 29 ∨ k = 30 ∨ k = 31 ∨ k = 32 ∨ k = 33 ∨ k = 34 by omega) with rfl | rfl | rfl | rfl | rfl | rfl | rfl | rfl | rfl | rfl | rfl | rfl | rfl | rfl | rfl | rfl | rfl | rfl | rfl | rfl | rfl | rfl | rfl | rfl | rfl | rfl | rfl | rfl | rfl | rfl | rfl | rfl | rfl | rfl | rfl
  · exact m709
  · exact m711
  · exact m713
  · exact m715
  · exact m717
  · exact m719
  · exact m721
  · exact m723
  · exact m725
  · exact m727
  · exact m729
  · exact m731
  · exact m733
  · exact m735
  · exact m737
  · exact m739
  · exact m741
  · exact m743
  · exact m745
  · exact m747
  · exact m749
  · exact m751
  · exact m753
  · exact m755
  · exact m757
  · exact m759
  · exact m761
  · exact m763
  · exact m765
  · exact m767
  · exact m769
  · exact m771
  · exact m773
  · exact m775
  · exact m777
theorem xz15 : XZ 15 := ⟨by decide +kernel, m613, by decide +kernel, by decide +kernel⟩
theorem xz16 : XZ 16 := ⟨by decide +kernel, m641, by decide +kernel, by decide +kernel⟩
theorem xz17 : XZ 17 := ⟨by decide +kernel, m337, by decide +kernel, by decide +kernel⟩
theorem xz18 : XZ 18 := ⟨by decide +kernel, m297, by decide +kernel, by decide +kernel⟩
theorem xz19 : XZ 19 := ⟨by decide +kernel, m522, by decide +kernel, by decide +kernel⟩
theorem xz20 : XZ 20 := ⟨by decide +kernel, m454, by decide +kernel, by decide +kernel⟩
theorem xz21 : XZ 21 := ⟨by decide +kernel, m519, by decide +kernel, by decide +kernel⟩
theorem xz22 : XZ 22 := ⟨by decide +kernel, m526, by decide +kernel, by decide +kernel⟩
theorem xz23 : XZ 23 := ⟨by decide +kernel, m570, by decide +kernel, by decide +kernel⟩
theorem xz24 : XZ 24 := ⟨by decide +kernel, m574, by decide +kernel, by decide +kernel⟩
theorem xz25 : XZ 25 := ⟨by decide +kernel, m578, by decide +kernel, by decide +kernel⟩
theorem xz26 : XZ 26 := ⟨by decide +kernel, m594, by decide +kernel, by decide +kernel⟩
theorem xz27 : XZ 27 := ⟨by decide +kernel, m601, by decide +kernel, by decide +kernel⟩
theorem xz28 : XZ 28 := ⟨by decide +kernel, m29, by decide +kernel, by decide +kernel⟩
theorem xz29 : XZ 29 := ⟨by decide +kernel, m458, by decide +kernel, by decide +kernel⟩
theorem xz30 : XZ 30 := ⟨by decide +kernel, m468, by decide +kernel, by decide +kernel⟩
theorem xz31 : XZ 31 := ⟨by decide +kernel, m472, by decide +kernel, by decide +kernel⟩
theorem xz32 : XZ 32 := ⟨by decide +kernel, m507, by decide +kernel, by decide +kernel⟩
theorem xz33 : XZ 33 := ⟨by decide +kernel, m188, by decide +kernel, by decide +kernel⟩
theorem xz34 : XZ 34 := ⟨by decide +kernel, m583, by decide +kernel, by decide +kernel⟩
theorem xz35 : XZ 35 := ⟨by decide +kernel, m587, by decide +kernel, by decide +kernel⟩
theorem xz36 : XZ 36 := ⟨by decide +kernel, m660, by decide +kernel, by decide +kernel⟩
theorem xz37 : XZ 37 := ⟨by decide +kernel, m590, by decide +kernel, by decide +kernel⟩
theorem xz38 : XZ 38 := ⟨by decide +kernel, m666, by decide +kernel, by decide +kernel⟩
theorem xz39 : XZ 39 := ⟨by decide +kernel, m157, by decide +kernel, by decide +kernel⟩
theorem xz40 : XZ 40 := ⟨by decide +kernel, m421, by decide +kernel, by decide +kernel⟩
theorem xz41 : XZ 41 := ⟨by decide +kernel, m139, by decide +kernel, by decide +kernel⟩
theorem xz42 : XZ 42 := ⟨by decide +kernel, m530, by decide +kernel, by decide +kernel⟩
theorem xz43 : XZ 43 := ⟨by decide +kernel, m538, by decide +kernel, by decide +kernel⟩
theorem xz44 : XZ 44 := ⟨by decide +kernel, m550, by decide +kernel, by decide +kernel⟩
theorem xz45 : XZ 45 := ⟨by decide +kernel, m554, by decide +kernel, by decide +kernel⟩
theorem xz46 : XZ 46 := ⟨by decide +kernel, m566, by decide +kernel, by decide +kernel⟩
theorem xz47 : XZ 47 := ⟨by decide +kernel, m542, by decide +kernel, by decide +kernel⟩
theorem xz48 : XZ 48 := ⟨by decide +kernel, m546, by decide +kernel, by decide +kernel⟩
theorem xz49 : XZ 49 := ⟨by decide +kernel, m106, by decide +kernel, by decide +kernel⟩
theorem xz50 : XZ 50 := ⟨by decide +kernel, m488, by decide +kernel, by decide +kernel⟩
theorem xz51 : XZ 51 := ⟨by decide +kernel, m512, by decide +kernel, by decide +kernel⟩
theorem xz52 : XZ 52 := ⟨by decide +kernel, m534, by decide +kernel, by decide +kernel⟩
theorem xz53 : XZ 53 := ⟨by decide +kernel, m208, by decide +kernel, by decide +kernel⟩
theorem xz54 : XZ 54 := ⟨by decide +kernel, m417, by decide +kernel, by decide +kernel⟩
theorem xz55 : XZ 55 := ⟨by decide +kernel, m326, by decide +kernel, by decide +kernel⟩
theorem xz56 : XZ 56 := ⟨by decide +kernel, m314, by decide +kernel, by decide +kernel⟩
theorem xz57 : XZ 57 := ⟨by decide +kernel, m425, by decide +kernel, by decide +kernel⟩
theorem xz58 : XZ 58 := ⟨by decide +kernel, m36, by decide +kernel, by decide +kernel⟩
theorem xz59 : XZ 59 := ⟨by decide +kernel, m461, by decide +kernel, by decide +kernel⟩
theorem xz60 : XZ 60 := ⟨by decide +kernel, m464, by decide +kernel, by decide +kernel⟩
theorem xz61 : XZ 61 := ⟨by decide +kernel, m497, by decide +kernel, by decide +kernel⟩
theorem xz62 : XZ 62 := ⟨by decide +kernel, m476, by decide +kernel, by decide +kernel⟩
theorem xz63 : XZ 63 := ⟨by decide +kernel, m480, by decide +kernel, by decide +kernel⟩
theorem xz64 : XZ 64 := ⟨by decide +kernel, m484, by decide +kernel, by decide +kernel⟩
theorem xz65 : XZ 65 := ⟨by decide +kernel, m562, by decide +kernel, by decide +kernel⟩
theorem xz66 : XZ 66 := ⟨by decide +kernel, m493, by decide +kernel, by decide +kernel⟩
theorem xz67 : XZ 67 := ⟨by decide +kernel, m502, by decide +kernel, by decide +kernel⟩
theorem xz68 : XZ 68 := ⟨by decide +kernel, m558, by decide +kernel, by decide +kernel⟩
theorem xz73 : XZ 73 := ⟨by decide +kernel, m803, by decide +kernel, by decide +kernel⟩
theorem xz74 : XZ 74 := ⟨by decide +kernel, m806, by decide +kernel, by decide +kernel⟩
theorem xz75 : XZ 75 := ⟨by decide +kernel, m800, by decide +kernel, by decide +kernel⟩
theorem xz76 : XZ 76 := ⟨by decide +kernel, m814, by decide +kernel, by decide +kernel⟩
theorem xz77 : XZ 77 := ⟨by decide +kernel, m818, by decide +kernel, by decide +kernel⟩
theorem xz78 : XZ 78 := ⟨by decide +kernel, m810, by decide +kernel, by decide +kernel⟩
theorem xz79 : XZ 79 := ⟨by decide +kernel, m826, by decide +kernel, by decide +kernel⟩
theorem xz80 : XZ 80 := ⟨by decide +kernel, m822, by decide +kernel, by decide +kernel⟩
theorem xz81 : XZ 81 := ⟨by decide +kernel, m838, by decide +kernel, by decide +kernel⟩
theorem xz82 : XZ 82 := ⟨by decide +kernel, m842, by decide +kernel, by decide +kernel⟩
theorem xz83 : XZ 83 := ⟨by decide +kernel, m846, by decide +kernel, by decide +kernel⟩
theorem xz84 : XZ 84 := ⟨by decide +kernel, m834, by decide +kernel, by decide +kernel⟩
theorem xz85 : XZ 85 := ⟨by decide +kernel, m830, by decide +kernel, by decide +kernel⟩
theorem xz86 : XZ 86 := ⟨by decide +kernel, m850, by decide +kernel, by decide +kernel⟩
theorem xz87 : XZ 87 := ⟨by decide +kernel, m854, by decide +kernel, by decide +kernel⟩
theorem xz88 : XZ 88 := ⟨by decide +kernel, m858, by decide +kernel, by decide +kernel⟩
theorem xz89 : XZ 89 := ⟨by decide +kernel, m866, by decide +kernel, by decide +kernel⟩
theorem xz90 : XZ 90 := ⟨by decide +kernel, m870, by decide +kernel, by decide +kernel⟩
theorem xz91 : XZ 91 := ⟨by decide +kernel, m874, by decide +kernel, by decide +kernel⟩
theorem xz92 : XZ 92 := ⟨by decide +kernel, m878, by decide +kernel, by decide +kernel⟩
theorem xz93 : XZ 93 := ⟨by decide +kernel, m882, by decide +kernel, by decide +kernel⟩
theorem xz94 : XZ 94 := ⟨by decide +kernel, m862, by decide +kernel, by decide +kernel⟩
theorem xz100 : XZ 100 := ⟨by decide +kernel, m906, by decide +kernel, by decide +kernel⟩
theorem xz101 : XZ 101 := ⟨by decide +kernel, m918, by decide +kernel, by decide +kernel⟩
theorem xz102 : XZ 102 := ⟨by decide +kernel, m910, by decide +kernel, by decide +kernel⟩
theorem xz105 : XZ 105 := ⟨by decide +kernel, m926, by decide +kernel, by decide +kernel⟩
def swr (pc : Nat) : List (Int × Int) → List (Int32 × Nat) → Bool
  | [], [] => true
  | (a, o) :: r, (k, t) :: s => decide (k.toInt = a) && decide ((pc : Int) + o = (t : Int)) && swr pc r s
  | _, _ => false
theorem xsw_aux {pc d : Nat} {dflt : Int} (hd : (pc : Int) + dflt = (d : Int)) (x : Int32) : ∀ (ps : List (Int × Int)) (qs : List (Int32 × Nat)), swr pc ps qs = true → (pc : Int) + Op.lookupswitch.offset ps dflt x.toInt = ((xsw x d qs : Nat) : Int)
  | [], [], _ => by simpa [xsw, Op.lookupswitch.offset] using hd
  | (a, o) :: r, (k, t) :: s, h => by
    simp only [swr, Bool.and_eq_true, decide_eq_true_eq] at h
    by_cases hx : x = k
    · subst hx
      rw [Op.lookupswitch.offset_cons, if_pos (by rw [h.1.1])]
      simp [xsw, h.1.2]
    · rw [lv_osw hx h.1.1, xsw_aux hd x r s h.2]
      simp [xsw, hx]
  | [], _ :: _, h => by cases h
  | _ :: _, [], h => by cases h
theorem xsw_ok {pc d : Nat} {dflt : Int} {ps : Array (Int × Int)} {qs : List (Int32 × Nat)} (h : (decide ((pc : Int) + dflt = (d : Int)) && swr pc ps.toList qs) = true) : ∀ x : Int32, (pc : Int) + Op.lookupswitch.offset ps.toList dflt x.toInt = ((xsw x d qs : Nat) : Int) := by
  simp only [Bool.and_eq_true, decide_eq_true_eq] at h
  exact fun x => xsw_aux h.1 x _ _ h.2
theorem sw_7_11 : ∀ x : Int32, (x.toInt < 0 ∨ 3 < x.toInt → ((11 : Nat) : Int) + 49 = ((xsw x 60 [(0, 40), (1, 45), (2, 50), (3, 55)] : Nat) : Int)) ∧ (¬ (x.toInt < 0 ∨ 3 < x.toInt) → ∃ off, (#[29, 34, 39, 44] : Array Int)[(x.toInt - 0).toNat]? = some off ∧ ((11 : Nat) : Int) + off = ((xsw x 60 [(0, 40), (1, 45), (2, 50), (3, 55)] : Nat) : Int)) := by
  intro x
  refine ⟨fun h => ?_, fun h => ?_⟩
  · have h0 : ¬ x = 0 := fun q => by subst q; revert h; decide
    have h1 : ¬ x = 1 := fun q => by subst q; revert h; decide
    have h2 : ¬ x = 2 := fun q => by subst q; revert h; decide
    have h3 : ¬ x = 3 := fun q => by subst q; revert h; decide
    simp [xsw, h0, h1, h2, h3]
  · rcases (show x.toInt = 0 ∨ x.toInt = 1 ∨ x.toInt = 2 ∨ x.toInt = 3 by omega) with h | h | h | h
    · have e : x = 0 := Int32.toInt_inj.mp (by rw [h]; decide)
      subst e
      exact ⟨_, rfl, by decide⟩
    · have e : x = 1 := Int32.toInt_inj.mp (by rw [h]; decide)
      subst e
      exact ⟨_, rfl, by decide⟩
    · have e : x = 2 := Int32.toInt_inj.mp (by rw [h]; decide)
      subst e
      exact ⟨_, rfl, by decide⟩
    · have e : x = 3 := Int32.toInt_inj.mp (by rw [h]; decide)
      subst e
      exact ⟨_, rfl, by decide⟩
theorem sw_8_26 : ∀ x : Int32, (x.toInt < 0 ∨ 4 < x.toInt → ((26 : Nat) : Int) + 59 = ((xsw x 85 [(0, 60), (1, 65), (2, 70), (3, 75), (4, 80)] : Nat) : Int)) ∧ (¬ (x.toInt < 0 ∨ 4 < x.toInt) → ∃ off, (#[34, 39, 44, 49, 54] : Array Int)[(x.toInt - 0).toNat]? = some off ∧ ((26 : Nat) : Int) + off = ((xsw x 85 [(0, 60), (1, 65), (2, 70), (3, 75), (4, 80)] : Nat) : Int)) := by
  intro x
  refine ⟨fun h => ?_, fun h => ?_⟩
  · have h0 : ¬ x = 0 := fun q => by subst q; revert h; decide
    have h1 : ¬ x = 1 := fun q => by subst q; revert h; decide
    have h2 : ¬ x = 2 := fun q => by subst q; revert h; decide
    have h3 : ¬ x = 3 := fun q => by subst q; revert h; decide
    have h4 : ¬ x = 4 := fun q => by subst q; revert h; decide
    simp [xsw, h0, h1, h2, h3, h4]
  · rcases (show x.toInt = 0 ∨ x.toInt = 1 ∨ x.toInt = 2 ∨ x.toInt = 3 ∨ x.toInt = 4 by omega) with h | h | h | h | h
    · have e : x = 0 := Int32.toInt_inj.mp (by rw [h]; decide)
      subst e
      exact ⟨_, rfl, by decide⟩
    · have e : x = 1 := Int32.toInt_inj.mp (by rw [h]; decide)
      subst e
      exact ⟨_, rfl, by decide⟩
    · have e : x = 2 := Int32.toInt_inj.mp (by rw [h]; decide)
      subst e
      exact ⟨_, rfl, by decide⟩
    · have e : x = 3 := Int32.toInt_inj.mp (by rw [h]; decide)
      subst e
      exact ⟨_, rfl, by decide⟩
    · have e : x = 4 := Int32.toInt_inj.mp (by rw [h]; decide)
      subst e
      exact ⟨_, rfl, by decide⟩
theorem sw_10_19 : ∀ x : Int32, (x.toInt < 0 ∨ 4 < x.toInt → ((19 : Nat) : Int) + 83 = ((xsw x 102 [(0, 52), (1, 62), (2, 72), (3, 82), (4, 92)] : Nat) : Int)) ∧ (¬ (x.toInt < 0 ∨ 4 < x.toInt) → ∃ off, (#[33, 43, 53, 63, 73] : Array Int)[(x.toInt - 0).toNat]? = some off ∧ ((19 : Nat) : Int) + off = ((xsw x 102 [(0, 52), (1, 62), (2, 72), (3, 82), (4, 92)] : Nat) : Int)) := by
  intro x
  refine ⟨fun h => ?_, fun h => ?_⟩
  · have h0 : ¬ x = 0 := fun q => by subst q; revert h; decide
    have h1 : ¬ x = 1 := fun q => by subst q; revert h; decide
    have h2 : ¬ x = 2 := fun q => by subst q; revert h; decide
    have h3 : ¬ x = 3 := fun q => by subst q; revert h; decide
    have h4 : ¬ x = 4 := fun q => by subst q; revert h; decide
    simp [xsw, h0, h1, h2, h3, h4]
  · rcases (show x.toInt = 0 ∨ x.toInt = 1 ∨ x.toInt = 2 ∨ x.toInt = 3 ∨ x.toInt = 4 by omega) with h | h | h | h | h
    · have e : x = 0 := Int32.toInt_inj.mp (by rw [h]; decide)
      subst e
      exact ⟨_, rfl, by decide⟩
    · have e : x = 1 := Int32.toInt_inj.mp (by rw [h]; decide)
      subst e
      exact ⟨_, rfl, by decide⟩
    · have e : x = 2 := Int32.toInt_inj.mp (by rw [h]; decide)
      subst e
      exact ⟨_, rfl, by decide⟩
    · have e : x = 3 := Int32.toInt_inj.mp (by rw [h]; decide)
      subst e
      exact ⟨_, rfl, by decide⟩
    · have e : x = 4 := Int32.toInt_inj.mp (by rw [h]; decide)
      subst e
      exact ⟨_, rfl, by decide⟩
