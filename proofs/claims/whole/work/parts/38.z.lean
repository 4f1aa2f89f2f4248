theorem m0 : (Jvm.Cond.initialized "ChartKnitterLaw") ∈ xall := mx 0 (by decide +kernel) (by decide +kernel)
theorem m17 : (Jvm.Cond.classLink "ChartKnitterLaw" (8 : Nat) "ChartKnitter") ∈ xall := mx 17 (by decide +kernel) (by decide +kernel)
theorem m18 : (Jvm.Cond.instantiable "ChartKnitter" (8 : Nat)) ∈ xall := mx 18 (by decide +kernel) (by decide +kernel)
theorem m19 : (Jvm.Cond.methodLink "ChartKnitterLaw" (36 : Nat) ({ cls := "ChartKnitter", name := "<init>", desc := "()V" } : Jvm.MethodName)) ∈ xall := mx 19 (by decide +kernel) (by decide +kernel)
theorem m20 : (Jvm.Cond.instanceMethod ({ cls := "ChartKnitter", name := "<init>", desc := "()V" } : Jvm.MethodName)) ∈ xall := mx 20 (by decide +kernel) (by decide +kernel)
theorem m21 : (Jvm.Cond.code ({ cls := "ChartKnitter", name := "<init>", desc := "()V" } : Jvm.MethodName) prog_1_method_1_code (2 : Nat) (Option.none : Option Jvm.ClassFile.FieldType)) ∈ xall := mx 21 (by decide +kernel) (by decide +kernel)
theorem m291 : (Jvm.Cond.methodLink "ChartKnitterLaw" (42 : Nat) ({ cls := "ChartKnitter", name := "write", desc := "(J)I" } : Jvm.MethodName)) ∈ xall := mx 291 (by decide +kernel) (by decide +kernel)
theorem m292 : (Jvm.Cond.instanceMethod ({ cls := "ChartKnitter", name := "write", desc := "(J)I" } : Jvm.MethodName)) ∈ xall := mx 292 (by decide +kernel) (by decide +kernel)
theorem m293 : (Jvm.Cond.selects "ChartKnitter" ({ cls := "ChartKnitter", name := "write", desc := "(J)I" } : Jvm.MethodName) ({ cls := "ChartKnitter", name := "write", desc := "(J)I" } : Jvm.MethodName)) ∈ xall := mx 293 (by decide +kernel) (by decide +kernel)
theorem m294 : (Jvm.Cond.code ({ cls := "ChartKnitter", name := "write", desc := "(J)I" } : Jvm.MethodName) prog_1_method_2_code (6 : Nat) (Option.some Jvm.ClassFile.FieldType.int)) ∈ xall := mx 294 (by decide +kernel) (by decide +kernel)
theorem m299 : (Jvm.Cond.methodLink "ChartKnitterLaw" (47 : Nat) ({ cls := "ChartKnitter", name := "wipe", desc := "()I" } : Jvm.MethodName)) ∈ xall := mx 299 (by decide +kernel) (by decide +kernel)
theorem m300 : (Jvm.Cond.instanceMethod ({ cls := "ChartKnitter", name := "wipe", desc := "()I" } : Jvm.MethodName)) ∈ xall := mx 300 (by decide +kernel) (by decide +kernel)
theorem m301 : (Jvm.Cond.selects "ChartKnitter" ({ cls := "ChartKnitter", name := "wipe", desc := "()I" } : Jvm.MethodName) ({ cls := "ChartKnitter", name := "wipe", desc := "()I" } : Jvm.MethodName)) ∈ xall := mx 301 (by decide +kernel) (by decide +kernel)
theorem m302 : (Jvm.Cond.code ({ cls := "ChartKnitter", name := "wipe", desc := "()I" } : Jvm.MethodName) prog_1_method_3_code (2 : Nat) (Option.some Jvm.ClassFile.FieldType.int)) ∈ xall := mx 302 (by decide +kernel) (by decide +kernel)
theorem m303 : (Jvm.Cond.methodLink "ChartKnitterLaw" (65 : Nat) ({ cls := "ChartKnitter", name := "place", desc := "()I" } : Jvm.MethodName)) ∈ xall := mx 303 (by decide +kernel) (by decide +kernel)
theorem m304 : (Jvm.Cond.instanceMethod ({ cls := "ChartKnitter", name := "place", desc := "()I" } : Jvm.MethodName)) ∈ xall := mx 304 (by decide +kernel) (by decide +kernel)
theorem m305 : (Jvm.Cond.selects "ChartKnitter" ({ cls := "ChartKnitter", name := "place", desc := "()I" } : Jvm.MethodName) ({ cls := "ChartKnitter", name := "place", desc := "()I" } : Jvm.MethodName)) ∈ xall := mx 305 (by decide +kernel) (by decide +kernel)
theorem m306 : (Jvm.Cond.code ({ cls := "ChartKnitter", name := "place", desc := "()I" } : Jvm.MethodName) prog_1_method_6_code (1 : Nat) (Option.some Jvm.ClassFile.FieldType.int)) ∈ xall := mx 306 (by decide +kernel) (by decide +kernel)
theorem m307 : (Jvm.Cond.methodLink "ChartKnitterLaw" (69 : Nat) ({ cls := "ChartKnitter", name := "ravel", desc := "()I" } : Jvm.MethodName)) ∈ xall := mx 307 (by decide +kernel) (by decide +kernel)
theorem m308 : (Jvm.Cond.instanceMethod ({ cls := "ChartKnitter", name := "ravel", desc := "()I" } : Jvm.MethodName)) ∈ xall := mx 308 (by decide +kernel) (by decide +kernel)
theorem m309 : (Jvm.Cond.selects "ChartKnitter" ({ cls := "ChartKnitter", name := "ravel", desc := "()I" } : Jvm.MethodName) ({ cls := "ChartKnitter", name := "ravel", desc := "()I" } : Jvm.MethodName)) ∈ xall := mx 309 (by decide +kernel) (by decide +kernel)
theorem m310 : (Jvm.Cond.code ({ cls := "ChartKnitter", name := "ravel", desc := "()I" } : Jvm.MethodName) prog_1_method_7_code (4 : Nat) (Option.some Jvm.ClassFile.FieldType.int)) ∈ xall := mx 310 (by decide +kernel) (by decide +kernel)
theorem m315 : (Jvm.Cond.methodLink "ChartKnitterLaw" (73 : Nat) ({ cls := "ChartKnitter", name := "number", desc := "(I)I" } : Jvm.MethodName)) ∈ xall := mx 315 (by decide +kernel) (by decide +kernel)
theorem m316 : (Jvm.Cond.instanceMethod ({ cls := "ChartKnitter", name := "number", desc := "(I)I" } : Jvm.MethodName)) ∈ xall := mx 316 (by decide +kernel) (by decide +kernel)
theorem m317 : (Jvm.Cond.selects "ChartKnitter" ({ cls := "ChartKnitter", name := "number", desc := "(I)I" } : Jvm.MethodName) ({ cls := "ChartKnitter", name := "number", desc := "(I)I" } : Jvm.MethodName)) ∈ xall := mx 317 (by decide +kernel) (by decide +kernel)
theorem m318 : (Jvm.Cond.code ({ cls := "ChartKnitter", name := "number", desc := "(I)I" } : Jvm.MethodName) prog_1_method_8_code (3 : Nat) (Option.some Jvm.ClassFile.FieldType.int)) ∈ xall := mx 318 (by decide +kernel) (by decide +kernel)
theorem m319 : (Jvm.Cond.methodLink "ChartKnitterLaw" (90 : Nat) ({ cls := "ChartKnitter", name := "live", desc := "(II)I" } : Jvm.MethodName)) ∈ xall := mx 319 (by decide +kernel) (by decide +kernel)
theorem m320 : (Jvm.Cond.instanceMethod ({ cls := "ChartKnitter", name := "live", desc := "(II)I" } : Jvm.MethodName)) ∈ xall := mx 320 (by decide +kernel) (by decide +kernel)
theorem m321 : (Jvm.Cond.selects "ChartKnitter" ({ cls := "ChartKnitter", name := "live", desc := "(II)I" } : Jvm.MethodName) ({ cls := "ChartKnitter", name := "live", desc := "(II)I" } : Jvm.MethodName)) ∈ xall := mx 321 (by decide +kernel) (by decide +kernel)
theorem m322 : (Jvm.Cond.code ({ cls := "ChartKnitter", name := "live", desc := "(II)I" } : Jvm.MethodName) prog_1_method_13_code (4 : Nat) (Option.some Jvm.ClassFile.FieldType.int)) ∈ xall := mx 322 (by decide +kernel) (by decide +kernel)
theorem m327 : (Jvm.Cond.methodLink "ChartKnitterLaw" (94 : Nat) ({ cls := "ChartKnitter", name := "bed", desc := "(I)I" } : Jvm.MethodName)) ∈ xall := mx 327 (by decide +kernel) (by decide +kernel)
theorem m328 : (Jvm.Cond.instanceMethod ({ cls := "ChartKnitter", name := "bed", desc := "(I)I" } : Jvm.MethodName)) ∈ xall := mx 328 (by decide +kernel) (by decide +kernel)
theorem m329 : (Jvm.Cond.selects "ChartKnitter" ({ cls := "ChartKnitter", name := "bed", desc := "(I)I" } : Jvm.MethodName) ({ cls := "ChartKnitter", name := "bed", desc := "(I)I" } : Jvm.MethodName)) ∈ xall := mx 329 (by decide +kernel) (by decide +kernel)
theorem m330 : (Jvm.Cond.code ({ cls := "ChartKnitter", name := "bed", desc := "(I)I" } : Jvm.MethodName) prog_1_method_14_code (3 : Nat) (Option.some Jvm.ClassFile.FieldType.int)) ∈ xall := mx 330 (by decide +kernel) (by decide +kernel)
theorem m331 : (Jvm.Cond.methodLink "ChartKnitterLaw" (98 : Nat) ({ cls := "ChartKnitter", name := "side", desc := "(I)I" } : Jvm.MethodName)) ∈ xall := mx 331 (by decide +kernel) (by decide +kernel)
theorem m332 : (Jvm.Cond.instanceMethod ({ cls := "ChartKnitter", name := "side", desc := "(I)I" } : Jvm.MethodName)) ∈ xall := mx 332 (by decide +kernel) (by decide +kernel)
theorem m333 : (Jvm.Cond.selects "ChartKnitter" ({ cls := "ChartKnitter", name := "side", desc := "(I)I" } : Jvm.MethodName) ({ cls := "ChartKnitter", name := "side", desc := "(I)I" } : Jvm.MethodName)) ∈ xall := mx 333 (by decide +kernel) (by decide +kernel)
theorem m334 : (Jvm.Cond.code ({ cls := "ChartKnitter", name := "side", desc := "(I)I" } : Jvm.MethodName) prog_1_method_15_code (2 : Nat) (Option.some Jvm.ClassFile.FieldType.int)) ∈ xall := mx 334 (by decide +kernel) (by decide +kernel)
theorem m338 : (Jvm.Cond.methodLink "ChartKnitterLaw" (52 : Nat) ({ cls := "ChartKnitterLaw", name := "castOn", desc := "(LChartKnitter;I)I" } : Jvm.MethodName)) ∈ xall := mx 338 (by decide +kernel) (by decide +kernel)
theorem m339 : (Jvm.Cond.static ({ cls := "ChartKnitterLaw", name := "castOn", desc := "(LChartKnitter;I)I" } : Jvm.MethodName)) ∈ xall := mx 339 (by decide +kernel) (by decide +kernel)
theorem m340 : (Jvm.Cond.codeWith ({ cls := "ChartKnitterLaw", name := "castOn", desc := "(LChartKnitter;I)I" } : Jvm.MethodName) method_3_code (3 : Nat) (Option.some Jvm.ClassFile.FieldType.int) [((0 : Nat), (5 : Nat), (8 : Nat), (13 : Nat))]) ∈ xall := mx 340 (by decide +kernel) (by decide +kernel)
theorem m341 : (Jvm.Cond.classLink "ChartKnitterLaw" (13 : Nat) "java/lang/IllegalArgumentException") ∈ xall := mx 341 (by decide +kernel) (by decide +kernel)
theorem m342 : (Jvm.Cond.methodLink "ChartKnitterLaw" (7 : Nat) ({ cls := "ChartKnitter", name := "castOn", desc := "(I)V" } : Jvm.MethodName)) ∈ xall := mx 342 (by decide +kernel) (by decide +kernel)
theorem m343 : (Jvm.Cond.instanceMethod ({ cls := "ChartKnitter", name := "castOn", desc := "(I)V" } : Jvm.MethodName)) ∈ xall := mx 343 (by decide +kernel) (by decide +kernel)
theorem m344 : (Jvm.Cond.selects "ChartKnitter" ({ cls := "ChartKnitter", name := "castOn", desc := "(I)V" } : Jvm.MethodName) ({ cls := "ChartKnitter", name := "castOn", desc := "(I)V" } : Jvm.MethodName)) ∈ xall := mx 344 (by decide +kernel) (by decide +kernel)
theorem m345 : (Jvm.Cond.code ({ cls := "ChartKnitter", name := "castOn", desc := "(I)V" } : Jvm.MethodName) prog_1_method_4_code (4 : Nat) (Option.none : Option Jvm.ClassFile.FieldType)) ∈ xall := mx 345 (by decide +kernel) (by decide +kernel)
theorem m426 : (Jvm.Cond.methodLink "ChartKnitterLaw" (61 : Nat) ({ cls := "ChartKnitterLaw", name := "knit", desc := "(LChartKnitter;I[J)I" } : Jvm.MethodName)) ∈ xall := mx 426 (by decide +kernel) (by decide +kernel)
theorem m427 : (Jvm.Cond.static ({ cls := "ChartKnitterLaw", name := "knit", desc := "(LChartKnitter;I[J)I" } : Jvm.MethodName)) ∈ xall := mx 427 (by decide +kernel) (by decide +kernel)
theorem m428 : (Jvm.Cond.codeWith ({ cls := "ChartKnitterLaw", name := "knit", desc := "(LChartKnitter;I[J)I" } : Jvm.MethodName) method_4_code (4 : Nat) (Option.some Jvm.ClassFile.FieldType.int) [((0 : Nat), (9 : Nat), (12 : Nat), (19 : Nat)), ((0 : Nat), (9 : Nat), (15 : Nat), (13 : Nat))]) ∈ xall := mx 428 (by decide +kernel) (by decide +kernel)
theorem m429 : (Jvm.Cond.classLink "ChartKnitterLaw" (19 : Nat) "java/lang/IllegalStateException") ∈ xall := mx 429 (by decide +kernel) (by decide +kernel)
theorem m430 : (Jvm.Cond.methodLink "ChartKnitterLaw" (15 : Nat) ({ cls := "ChartKnitter", name := "knit", desc := "(I)I" } : Jvm.MethodName)) ∈ xall := mx 430 (by decide +kernel) (by decide +kernel)
theorem m431 : (Jvm.Cond.instanceMethod ({ cls := "ChartKnitter", name := "knit", desc := "(I)I" } : Jvm.MethodName)) ∈ xall := mx 431 (by decide +kernel) (by decide +kernel)
theorem m432 : (Jvm.Cond.selects "ChartKnitter" ({ cls := "ChartKnitter", name := "knit", desc := "(I)I" } : Jvm.MethodName) ({ cls := "ChartKnitter", name := "knit", desc := "(I)I" } : Jvm.MethodName)) ∈ xall := mx 432 (by decide +kernel) (by decide +kernel)
theorem m433 : (Jvm.Cond.code ({ cls := "ChartKnitter", name := "knit", desc := "(I)I" } : Jvm.MethodName) prog_1_method_5_code (3 : Nat) (Option.some Jvm.ClassFile.FieldType.int)) ∈ xall := mx 433 (by decide +kernel) (by decide +kernel)
theorem m602 : (Jvm.Cond.methodLink "ChartKnitterLaw" (77 : Nat) ({ cls := "ChartKnitterLaw", name := "program", desc := "(LChartKnitter;II[J)I" } : Jvm.MethodName)) ∈ xall := mx 602 (by decide +kernel) (by decide +kernel)
theorem m603 : (Jvm.Cond.static ({ cls := "ChartKnitterLaw", name := "program", desc := "(LChartKnitter;II[J)I" } : Jvm.MethodName)) ∈ xall := mx 603 (by decide +kernel) (by decide +kernel)
theorem m604 : (Jvm.Cond.codeWith ({ cls := "ChartKnitterLaw", name := "program", desc := "(LChartKnitter;II[J)I" } : Jvm.MethodName) method_5_code (5 : Nat) (Option.some Jvm.ClassFile.FieldType.int) [((0 : Nat), (10 : Nat), (13 : Nat), (25 : Nat)), ((0 : Nat), (10 : Nat), (17 : Nat), (13 : Nat))]) ∈ xall := mx 604 (by decide +kernel) (by decide +kernel)
theorem m605 : (Jvm.Cond.classLink "ChartKnitterLaw" (25 : Nat) "java/lang/IndexOutOfBoundsException") ∈ xall := mx 605 (by decide +kernel) (by decide +kernel)
theorem m606 : (Jvm.Cond.methodLink "ChartKnitterLaw" (21 : Nat) ({ cls := "ChartKnitter", name := "program", desc := "(II)I" } : Jvm.MethodName)) ∈ xall := mx 606 (by decide +kernel) (by decide +kernel)
theorem m607 : (Jvm.Cond.instanceMethod ({ cls := "ChartKnitter", name := "program", desc := "(II)I" } : Jvm.MethodName)) ∈ xall := mx 607 (by decide +kernel) (by decide +kernel)
theorem m608 : (Jvm.Cond.selects "ChartKnitter" ({ cls := "ChartKnitter", name := "program", desc := "(II)I" } : Jvm.MethodName) ({ cls := "ChartKnitter", name := "program", desc := "(II)I" } : Jvm.MethodName)) ∈ xall := mx 608 (by decide +kernel) (by decide +kernel)
theorem m609 : (Jvm.Cond.code ({ cls := "ChartKnitter", name := "program", desc := "(II)I" } : Jvm.MethodName) prog_1_method_9_code (4 : Nat) (Option.some Jvm.ClassFile.FieldType.int)) ∈ xall := mx 609 (by decide +kernel) (by decide +kernel)
theorem m631 : (Jvm.Cond.methodLink "ChartKnitterLaw" (81 : Nat) ({ cls := "ChartKnitterLaw", name := "parent", desc := "(LChartKnitter;II[J)I" } : Jvm.MethodName)) ∈ xall := mx 631 (by decide +kernel) (by decide +kernel)
theorem m632 : (Jvm.Cond.static ({ cls := "ChartKnitterLaw", name := "parent", desc := "(LChartKnitter;II[J)I" } : Jvm.MethodName)) ∈ xall := mx 632 (by decide +kernel) (by decide +kernel)
theorem m633 : (Jvm.Cond.codeWith ({ cls := "ChartKnitterLaw", name := "parent", desc := "(LChartKnitter;II[J)I" } : Jvm.MethodName) method_6_code (5 : Nat) (Option.some Jvm.ClassFile.FieldType.int) [((0 : Nat), (10 : Nat), (13 : Nat), (25 : Nat))]) ∈ xall := mx 633 (by decide +kernel) (by decide +kernel)
theorem m634 : (Jvm.Cond.methodLink "ChartKnitterLaw" (27 : Nat) ({ cls := "ChartKnitter", name := "parent", desc := "(II)I" } : Jvm.MethodName)) ∈ xall := mx 634 (by decide +kernel) (by decide +kernel)
theorem m635 : (Jvm.Cond.instanceMethod ({ cls := "ChartKnitter", name := "parent", desc := "(II)I" } : Jvm.MethodName)) ∈ xall := mx 635 (by decide +kernel) (by decide +kernel)
theorem m636 : (Jvm.Cond.selects "ChartKnitter" ({ cls := "ChartKnitter", name := "parent", desc := "(II)I" } : Jvm.MethodName) ({ cls := "ChartKnitter", name := "parent", desc := "(II)I" } : Jvm.MethodName)) ∈ xall := mx 636 (by decide +kernel) (by decide +kernel)
theorem m637 : (Jvm.Cond.code ({ cls := "ChartKnitter", name := "parent", desc := "(II)I" } : Jvm.MethodName) prog_1_method_10_code (3 : Nat) (Option.some Jvm.ClassFile.FieldType.int)) ∈ xall := mx 637 (by decide +kernel) (by decide +kernel)
theorem m643 : (Jvm.Cond.methodLink "ChartKnitterLaw" (84 : Nat) ({ cls := "ChartKnitterLaw", name := "loop", desc := "(LChartKnitter;II[J)I" } : Jvm.MethodName)) ∈ xall := mx 643 (by decide +kernel) (by decide +kernel)
theorem m644 : (Jvm.Cond.static ({ cls := "ChartKnitterLaw", name := "loop", desc := "(LChartKnitter;II[J)I" } : Jvm.MethodName)) ∈ xall := mx 644 (by decide +kernel) (by decide +kernel)
theorem m645 : (Jvm.Cond.codeWith ({ cls := "ChartKnitterLaw", name := "loop", desc := "(LChartKnitter;II[J)I" } : Jvm.MethodName) method_7_code (5 : Nat) (Option.some Jvm.ClassFile.FieldType.int) [((0 : Nat), (10 : Nat), (13 : Nat), (25 : Nat)), ((0 : Nat), (10 : Nat), (17 : Nat), (13 : Nat))]) ∈ xall := mx 645 (by decide +kernel) (by decide +kernel)
theorem m646 : (Jvm.Cond.methodLink "ChartKnitterLaw" (30 : Nat) ({ cls := "ChartKnitter", name := "loop", desc := "(II)I" } : Jvm.MethodName)) ∈ xall := mx 646 (by decide +kernel) (by decide +kernel)
theorem m647 : (Jvm.Cond.instanceMethod ({ cls := "ChartKnitter", name := "loop", desc := "(II)I" } : Jvm.MethodName)) ∈ xall := mx 647 (by decide +kernel) (by decide +kernel)
theorem m648 : (Jvm.Cond.selects "ChartKnitter" ({ cls := "ChartKnitter", name := "loop", desc := "(II)I" } : Jvm.MethodName) ({ cls := "ChartKnitter", name := "loop", desc := "(II)I" } : Jvm.MethodName)) ∈ xall := mx 648 (by decide +kernel) (by decide +kernel)
theorem m649 : (Jvm.Cond.code ({ cls := "ChartKnitter", name := "loop", desc := "(II)I" } : Jvm.MethodName) prog_1_method_11_code (3 : Nat) (Option.some Jvm.ClassFile.FieldType.int)) ∈ xall := mx 649 (by decide +kernel) (by decide +kernel)
theorem m650 : (Jvm.Cond.methodLink "ChartKnitterLaw" (87 : Nat) ({ cls := "ChartKnitterLaw", name := "cross", desc := "(LChartKnitter;II[J)I" } : Jvm.MethodName)) ∈ xall := mx 650 (by decide +kernel) (by decide +kernel)
theorem m651 : (Jvm.Cond.static ({ cls := "ChartKnitterLaw", name := "cross", desc := "(LChartKnitter;II[J)I" } : Jvm.MethodName)) ∈ xall := mx 651 (by decide +kernel) (by decide +kernel)
theorem m652 : (Jvm.Cond.codeWith ({ cls := "ChartKnitterLaw", name := "cross", desc := "(LChartKnitter;II[J)I" } : Jvm.MethodName) method_8_code (5 : Nat) (Option.some Jvm.ClassFile.FieldType.int) [((0 : Nat), (10 : Nat), (13 : Nat), (25 : Nat))]) ∈ xall := mx 652 (by decide +kernel) (by decide +kernel)
theorem m653 : (Jvm.Cond.methodLink "ChartKnitterLaw" (33 : Nat) ({ cls := "ChartKnitter", name := "cross", desc := "(II)I" } : Jvm.MethodName)) ∈ xall := mx 653 (by decide +kernel) (by decide +kernel)
theorem m654 : (Jvm.Cond.instanceMethod ({ cls := "ChartKnitter", name := "cross", desc := "(II)I" } : Jvm.MethodName)) ∈ xall := mx 654 (by decide +kernel) (by decide +kernel)
theorem m655 : (Jvm.Cond.selects "ChartKnitter" ({ cls := "ChartKnitter", name := "cross", desc := "(II)I" } : Jvm.MethodName) ({ cls := "ChartKnitter", name := "cross", desc := "(II)I" } : Jvm.MethodName)) ∈ xall := mx 655 (by decide +kernel) (by decide +kernel)
theorem m656 : (Jvm.Cond.code ({ cls := "ChartKnitter", name := "cross", desc := "(II)I" } : Jvm.MethodName) prog_1_method_12_code (7 : Nat) (Option.some Jvm.ClassFile.FieldType.int)) ∈ xall := mx 656 (by decide +kernel) (by decide +kernel)
theorem m668 : (Jvm.Cond.classLink "ChartKnitterLaw" (37 : Nat) "ChartKnitterModel") ∈ xall := mx 668 (by decide +kernel) (by decide +kernel)
theorem m669 : (Jvm.Cond.instantiable "ChartKnitterModel" (35 : Nat)) ∈ xall := mx 669 (by decide +kernel) (by decide +kernel)
theorem m670 : (Jvm.Cond.methodLink "ChartKnitterLaw" (39 : Nat) ({ cls := "ChartKnitterModel", name := "<init>", desc := "()V" } : Jvm.MethodName)) ∈ xall := mx 670 (by decide +kernel) (by decide +kernel)
theorem m671 : (Jvm.Cond.instanceMethod ({ cls := "ChartKnitterModel", name := "<init>", desc := "()V" } : Jvm.MethodName)) ∈ xall := mx 671 (by decide +kernel) (by decide +kernel)
theorem m672 : (Jvm.Cond.code ({ cls := "ChartKnitterModel", name := "<init>", desc := "()V" } : Jvm.MethodName) prog_10_method_1_code (1 : Nat) (Option.none : Option Jvm.ClassFile.FieldType)) ∈ xall := mx 672 (by decide +kernel) (by decide +kernel)
theorem m780 : (Jvm.Cond.methodLink "ChartKnitterLaw" (58 : Nat) ({ cls := "ChartKnitterModel", name := "thrown", desc := "()I" } : Jvm.MethodName)) ∈ xall := mx 780 (by decide +kernel) (by decide +kernel)
theorem m781 : (Jvm.Cond.instanceMethod ({ cls := "ChartKnitterModel", name := "thrown", desc := "()I" } : Jvm.MethodName)) ∈ xall := mx 781 (by decide +kernel) (by decide +kernel)
theorem m782 : (Jvm.Cond.selects "ChartKnitterModel" ({ cls := "ChartKnitterModel", name := "thrown", desc := "()I" } : Jvm.MethodName) ({ cls := "ChartKnitterModel", name := "thrown", desc := "()I" } : Jvm.MethodName)) ∈ xall := mx 782 (by decide +kernel) (by decide +kernel)
theorem m783 : (Jvm.Cond.code ({ cls := "ChartKnitterModel", name := "thrown", desc := "()I" } : Jvm.MethodName) prog_10_method_2_code (1 : Nat) (Option.some Jvm.ClassFile.FieldType.int)) ∈ xall := mx 783 (by decide +kernel) (by decide +kernel)
theorem m784 : (Jvm.Cond.methodLink "ChartKnitterLaw" (46 : Nat) ({ cls := "ChartKnitterModel", name := "write", desc := "(J)I" } : Jvm.MethodName)) ∈ xall := mx 784 (by decide +kernel) (by decide +kernel)
theorem m785 : (Jvm.Cond.instanceMethod ({ cls := "ChartKnitterModel", name := "write", desc := "(J)I" } : Jvm.MethodName)) ∈ xall := mx 785 (by decide +kernel) (by decide +kernel)
theorem m786 : (Jvm.Cond.selects "ChartKnitterModel" ({ cls := "ChartKnitterModel", name := "write", desc := "(J)I" } : Jvm.MethodName) ({ cls := "ChartKnitterModel", name := "write", desc := "(J)I" } : Jvm.MethodName)) ∈ xall := mx 786 (by decide +kernel) (by decide +kernel)
theorem m787 : (Jvm.Cond.code ({ cls := "ChartKnitterModel", name := "write", desc := "(J)I" } : Jvm.MethodName) prog_10_method_3_code (6 : Nat) (Option.some Jvm.ClassFile.FieldType.int)) ∈ xall := mx 787 (by decide +kernel) (by decide +kernel)
theorem m789 : (Jvm.Cond.methodLink "ChartKnitterLaw" (51 : Nat) ({ cls := "ChartKnitterModel", name := "wipe", desc := "()I" } : Jvm.MethodName)) ∈ xall := mx 789 (by decide +kernel) (by decide +kernel)
theorem m790 : (Jvm.Cond.instanceMethod ({ cls := "ChartKnitterModel", name := "wipe", desc := "()I" } : Jvm.MethodName)) ∈ xall := mx 790 (by decide +kernel) (by decide +kernel)
theorem m791 : (Jvm.Cond.selects "ChartKnitterModel" ({ cls := "ChartKnitterModel", name := "wipe", desc := "()I" } : Jvm.MethodName) ({ cls := "ChartKnitterModel", name := "wipe", desc := "()I" } : Jvm.MethodName)) ∈ xall := mx 791 (by decide +kernel) (by decide +kernel)
theorem m792 : (Jvm.Cond.code ({ cls := "ChartKnitterModel", name := "wipe", desc := "()I" } : Jvm.MethodName) prog_10_method_4_code (2 : Nat) (Option.some Jvm.ClassFile.FieldType.int)) ∈ xall := mx 792 (by decide +kernel) (by decide +kernel)
theorem m793 : (Jvm.Cond.methodLink "ChartKnitterLaw" (64 : Nat) ({ cls := "ChartKnitterModel", name := "knit", desc := "(I)I" } : Jvm.MethodName)) ∈ xall := mx 793 (by decide +kernel) (by decide +kernel)
theorem m794 : (Jvm.Cond.instanceMethod ({ cls := "ChartKnitterModel", name := "knit", desc := "(I)I" } : Jvm.MethodName)) ∈ xall := mx 794 (by decide +kernel) (by decide +kernel)
theorem m795 : (Jvm.Cond.selects "ChartKnitterModel" ({ cls := "ChartKnitterModel", name := "knit", desc := "(I)I" } : Jvm.MethodName) ({ cls := "ChartKnitterModel", name := "knit", desc := "(I)I" } : Jvm.MethodName)) ∈ xall := mx 795 (by decide +kernel) (by decide +kernel)
theorem m796 : (Jvm.Cond.code ({ cls := "ChartKnitterModel", name := "knit", desc := "(I)I" } : Jvm.MethodName) prog_10_method_27_code (6 : Nat) (Option.some Jvm.ClassFile.FieldType.int)) ∈ xall := mx 796 (by decide +kernel) (by decide +kernel)
theorem m883 : (Jvm.Cond.methodLink "ChartKnitterLaw" (68 : Nat) ({ cls := "ChartKnitterModel", name := "place", desc := "()I" } : Jvm.MethodName)) ∈ xall := mx 883 (by decide +kernel) (by decide +kernel)
theorem m884 : (Jvm.Cond.instanceMethod ({ cls := "ChartKnitterModel", name := "place", desc := "()I" } : Jvm.MethodName)) ∈ xall := mx 884 (by decide +kernel) (by decide +kernel)
theorem m885 : (Jvm.Cond.selects "ChartKnitterModel" ({ cls := "ChartKnitterModel", name := "place", desc := "()I" } : Jvm.MethodName) ({ cls := "ChartKnitterModel", name := "place", desc := "()I" } : Jvm.MethodName)) ∈ xall := mx 885 (by decide +kernel) (by decide +kernel)
theorem m886 : (Jvm.Cond.code ({ cls := "ChartKnitterModel", name := "place", desc := "()I" } : Jvm.MethodName) prog_10_method_28_code (1 : Nat) (Option.some Jvm.ClassFile.FieldType.int)) ∈ xall := mx 886 (by decide +kernel) (by decide +kernel)
theorem m887 : (Jvm.Cond.methodLink "ChartKnitterLaw" (57 : Nat) ({ cls := "ChartKnitterModel", name := "castOn", desc := "(I)V" } : Jvm.MethodName)) ∈ xall := mx 887 (by decide +kernel) (by decide +kernel)
theorem m888 : (Jvm.Cond.instanceMethod ({ cls := "ChartKnitterModel", name := "castOn", desc := "(I)V" } : Jvm.MethodName)) ∈ xall := mx 888 (by decide +kernel) (by decide +kernel)
theorem m889 : (Jvm.Cond.selects "ChartKnitterModel" ({ cls := "ChartKnitterModel", name := "castOn", desc := "(I)V" } : Jvm.MethodName) ({ cls := "ChartKnitterModel", name := "castOn", desc := "(I)V" } : Jvm.MethodName)) ∈ xall := mx 889 (by decide +kernel) (by decide +kernel)
theorem m890 : (Jvm.Cond.code ({ cls := "ChartKnitterModel", name := "castOn", desc := "(I)V" } : Jvm.MethodName) prog_10_method_29_code (3 : Nat) (Option.none : Option Jvm.ClassFile.FieldType)) ∈ xall := mx 890 (by decide +kernel) (by decide +kernel)
theorem m891 : (Jvm.Cond.methodLink "ChartKnitterLaw" (72 : Nat) ({ cls := "ChartKnitterModel", name := "ravel", desc := "()I" } : Jvm.MethodName)) ∈ xall := mx 891 (by decide +kernel) (by decide +kernel)
theorem m892 : (Jvm.Cond.instanceMethod ({ cls := "ChartKnitterModel", name := "ravel", desc := "()I" } : Jvm.MethodName)) ∈ xall := mx 892 (by decide +kernel) (by decide +kernel)
theorem m893 : (Jvm.Cond.selects "ChartKnitterModel" ({ cls := "ChartKnitterModel", name := "ravel", desc := "()I" } : Jvm.MethodName) ({ cls := "ChartKnitterModel", name := "ravel", desc := "()I" } : Jvm.MethodName)) ∈ xall := mx 893 (by decide +kernel) (by decide +kernel)
theorem m894 : (Jvm.Cond.code ({ cls := "ChartKnitterModel", name := "ravel", desc := "()I" } : Jvm.MethodName) prog_10_method_30_code (2 : Nat) (Option.some Jvm.ClassFile.FieldType.int)) ∈ xall := mx 894 (by decide +kernel) (by decide +kernel)
theorem m895 : (Jvm.Cond.methodLink "ChartKnitterLaw" (76 : Nat) ({ cls := "ChartKnitterModel", name := "number", desc := "(I)I" } : Jvm.MethodName)) ∈ xall := mx 895 (by decide +kernel) (by decide +kernel)
theorem m896 : (Jvm.Cond.instanceMethod ({ cls := "ChartKnitterModel", name := "number", desc := "(I)I" } : Jvm.MethodName)) ∈ xall := mx 896 (by decide +kernel) (by decide +kernel)
theorem m897 : (Jvm.Cond.selects "ChartKnitterModel" ({ cls := "ChartKnitterModel", name := "number", desc := "(I)I" } : Jvm.MethodName) ({ cls := "ChartKnitterModel", name := "number", desc := "(I)I" } : Jvm.MethodName)) ∈ xall := mx 897 (by decide +kernel) (by decide +kernel)
theorem m898 : (Jvm.Cond.code ({ cls := "ChartKnitterModel", name := "number", desc := "(I)I" } : Jvm.MethodName) prog_10_method_31_code (2 : Nat) (Option.some Jvm.ClassFile.FieldType.int)) ∈ xall := mx 898 (by decide +kernel) (by decide +kernel)
theorem m899 : (Jvm.Cond.methodLink "ChartKnitterLaw" (80 : Nat) ({ cls := "ChartKnitterModel", name := "program", desc := "(II)I" } : Jvm.MethodName)) ∈ xall := mx 899 (by decide +kernel) (by decide +kernel)
theorem m900 : (Jvm.Cond.instanceMethod ({ cls := "ChartKnitterModel", name := "program", desc := "(II)I" } : Jvm.MethodName)) ∈ xall := mx 900 (by decide +kernel) (by decide +kernel)
theorem m901 : (Jvm.Cond.selects "ChartKnitterModel" ({ cls := "ChartKnitterModel", name := "program", desc := "(II)I" } : Jvm.MethodName) ({ cls := "ChartKnitterModel", name := "program", desc := "(II)I" } : Jvm.MethodName)) ∈ xall := mx 901 (by decide +kernel) (by decide +kernel)
theorem m902 : (Jvm.Cond.code ({ cls := "ChartKnitterModel", name := "program", desc := "(II)I" } : Jvm.MethodName) prog_10_method_35_code (3 : Nat) (Option.some Jvm.ClassFile.FieldType.int)) ∈ xall := mx 902 (by decide +kernel) (by decide +kernel)
theorem m911 : (Jvm.Cond.methodLink "ChartKnitterLaw" (83 : Nat) ({ cls := "ChartKnitterModel", name := "parent", desc := "(II)I" } : Jvm.MethodName)) ∈ xall := mx 911 (by decide +kernel) (by decide +kernel)
theorem m912 : (Jvm.Cond.instanceMethod ({ cls := "ChartKnitterModel", name := "parent", desc := "(II)I" } : Jvm.MethodName)) ∈ xall := mx 912 (by decide +kernel) (by decide +kernel)
theorem m913 : (Jvm.Cond.selects "ChartKnitterModel" ({ cls := "ChartKnitterModel", name := "parent", desc := "(II)I" } : Jvm.MethodName) ({ cls := "ChartKnitterModel", name := "parent", desc := "(II)I" } : Jvm.MethodName)) ∈ xall := mx 913 (by decide +kernel) (by decide +kernel)
theorem m914 : (Jvm.Cond.code ({ cls := "ChartKnitterModel", name := "parent", desc := "(II)I" } : Jvm.MethodName) prog_10_method_36_code (3 : Nat) (Option.some Jvm.ClassFile.FieldType.int)) ∈ xall := mx 914 (by decide +kernel) (by decide +kernel)
theorem m919 : (Jvm.Cond.methodLink "ChartKnitterLaw" (86 : Nat) ({ cls := "ChartKnitterModel", name := "loop", desc := "(II)I" } : Jvm.MethodName)) ∈ xall := mx 919 (by decide +kernel) (by decide +kernel)
theorem m920 : (Jvm.Cond.instanceMethod ({ cls := "ChartKnitterModel", name := "loop", desc := "(II)I" } : Jvm.MethodName)) ∈ xall := mx 920 (by decide +kernel) (by decide +kernel)
theorem m921 : (Jvm.Cond.selects "ChartKnitterModel" ({ cls := "ChartKnitterModel", name := "loop", desc := "(II)I" } : Jvm.MethodName) ({ cls := "ChartKnitterModel", name := "loop", desc := "(II)I" } : Jvm.MethodName)) ∈ xall := mx 921 (by decide +kernel) (by decide +kernel)
theorem m922 : (Jvm.Cond.code ({ cls := "ChartKnitterModel", name := "loop", desc := "(II)I" } : Jvm.MethodName) prog_10_method_38_code (3 : Nat) (Option.some Jvm.ClassFile.FieldType.int)) ∈ xall := mx 922 (by decide +kernel) (by decide +kernel)
theorem m927 : (Jvm.Cond.methodLink "ChartKnitterLaw" (89 : Nat) ({ cls := "ChartKnitterModel", name := "cross", desc := "(II)I" } : Jvm.MethodName)) ∈ xall := mx 927 (by decide +kernel) (by decide +kernel)
theorem m928 : (Jvm.Cond.instanceMethod ({ cls := "ChartKnitterModel", name := "cross", desc := "(II)I" } : Jvm.MethodName)) ∈ xall := mx 928 (by decide +kernel) (by decide +kernel)
theorem m929 : (Jvm.Cond.selects "ChartKnitterModel" ({ cls := "ChartKnitterModel", name := "cross", desc := "(II)I" } : Jvm.MethodName) ({ cls := "ChartKnitterModel", name := "cross", desc := "(II)I" } : Jvm.MethodName)) ∈ xall := mx 929 (by decide +kernel) (by decide +kernel)
theorem m930 : (Jvm.Cond.code ({ cls := "ChartKnitterModel", name := "cross", desc := "(II)I" } : Jvm.MethodName) prog_10_method_39_code (3 : Nat) (Option.some Jvm.ClassFile.FieldType.int)) ∈ xall := mx 930 (by decide +kernel) (by decide +kernel)
theorem m931 : (Jvm.Cond.methodLink "ChartKnitterLaw" (93 : Nat) ({ cls := "ChartKnitterModel", name := "live", desc := "(II)I" } : Jvm.MethodName)) ∈ xall := mx 931 (by decide +kernel) (by decide +kernel)
theorem m932 : (Jvm.Cond.instanceMethod ({ cls := "ChartKnitterModel", name := "live", desc := "(II)I" } : Jvm.MethodName)) ∈ xall := mx 932 (by decide +kernel) (by decide +kernel)
theorem m933 : (Jvm.Cond.selects "ChartKnitterModel" ({ cls := "ChartKnitterModel", name := "live", desc := "(II)I" } : Jvm.MethodName) ({ cls := "ChartKnitterModel", name := "live", desc := "(II)I" } : Jvm.MethodName)) ∈ xall := mx 933 (by decide +kernel) (by decide +kernel)
theorem m934 : (Jvm.Cond.code ({ cls := "ChartKnitterModel", name := "live", desc := "(II)I" } : Jvm.MethodName) prog_10_method_40_code (4 : Nat) (Option.some Jvm.ClassFile.FieldType.int)) ∈ xall := mx 934 (by decide +kernel) (by decide +kernel)
theorem m935 : (Jvm.Cond.methodLink "ChartKnitterLaw" (97 : Nat) ({ cls := "ChartKnitterModel", name := "bed", desc := "(I)I" } : Jvm.MethodName)) ∈ xall := mx 935 (by decide +kernel) (by decide +kernel)
theorem m936 : (Jvm.Cond.instanceMethod ({ cls := "ChartKnitterModel", name := "bed", desc := "(I)I" } : Jvm.MethodName)) ∈ xall := mx 936 (by decide +kernel) (by decide +kernel)
theorem m937 : (Jvm.Cond.selects "ChartKnitterModel" ({ cls := "ChartKnitterModel", name := "bed", desc := "(I)I" } : Jvm.MethodName) ({ cls := "ChartKnitterModel", name := "bed", desc := "(I)I" } : Jvm.MethodName)) ∈ xall := mx 937 (by decide +kernel) (by decide +kernel)
theorem m938 : (Jvm.Cond.code ({ cls := "ChartKnitterModel", name := "bed", desc := "(I)I" } : Jvm.MethodName) prog_10_method_41_code (2 : Nat) (Option.some Jvm.ClassFile.FieldType.int)) ∈ xall := mx 938 (by decide +kernel) (by decide +kernel)
theorem m939 : (Jvm.Cond.methodLink "ChartKnitterLaw" (101 : Nat) ({ cls := "ChartKnitterModel", name := "side", desc := "(I)I" } : Jvm.MethodName)) ∈ xall := mx 939 (by decide +kernel) (by decide +kernel)
theorem m940 : (Jvm.Cond.instanceMethod ({ cls := "ChartKnitterModel", name := "side", desc := "(I)I" } : Jvm.MethodName)) ∈ xall := mx 940 (by decide +kernel) (by decide +kernel)
theorem m941 : (Jvm.Cond.selects "ChartKnitterModel" ({ cls := "ChartKnitterModel", name := "side", desc := "(I)I" } : Jvm.MethodName) ({ cls := "ChartKnitterModel", name := "side", desc := "(I)I" } : Jvm.MethodName)) ∈ xall := mx 941 (by decide +kernel) (by decide +kernel)
theorem m942 : (Jvm.Cond.code ({ cls := "ChartKnitterModel", name := "side", desc := "(I)I" } : Jvm.MethodName) prog_10_method_42_code (2 : Nat) (Option.some Jvm.ClassFile.FieldType.int)) ∈ xall := mx 942 (by decide +kernel) (by decide +kernel)
theorem m943 : (Jvm.Cond.constantLong "ChartKnitterLaw" (40 : Nat) (4294967295 : Int64)) ∈ xall := mx 943 (by decide +kernel) (by decide +kernel)
theorem m944 : (Jvm.Cond.arrayClass Jvm.ClassFile.FieldType.long) ∈ xall := mx 944 (by decide +kernel) (by decide +kernel)
theorem xz0 : XZ 0 := ⟨by decide +kernel, m21, by decide +kernel, by decide +kernel, rfl⟩
theorem xz1 : XZ 1 := ⟨by decide +kernel, m294, by decide +kernel, by decide +kernel, rfl⟩
theorem xz2 : XZ 2 := ⟨by decide +kernel, m302, by decide +kernel, by decide +kernel, rfl⟩
theorem xz3 : XZ 3 := ⟨by decide +kernel, m345, by decide +kernel, by decide +kernel, rfl⟩
theorem xz4 : XZ 4 := ⟨by decide +kernel, m433, by decide +kernel, by decide +kernel, rfl⟩
theorem xz5 : XZ 5 := ⟨by decide +kernel, m306, by decide +kernel, by decide +kernel, rfl⟩
theorem xz6 : XZ 6 := ⟨by decide +kernel, m310, by decide +kernel, by decide +kernel, rfl⟩
theorem xz7 : XZ 7 := ⟨by decide +kernel, m318, by decide +kernel, by decide +kernel, rfl⟩
theorem xz8 : XZ 8 := ⟨by decide +kernel, m609, by decide +kernel, by decide +kernel, rfl⟩
theorem xz9 : XZ 9 := ⟨by decide +kernel, m637, by decide +kernel, by decide +kernel, rfl⟩
theorem xz10 : XZ 10 := ⟨by decide +kernel, m649, by decide +kernel, by decide +kernel, rfl⟩
theorem xz11 : XZ 11 := ⟨by decide +kernel, m656, by decide +kernel, by decide +kernel, rfl⟩
theorem xz12 : XZ 12 := ⟨by decide +kernel, m322, by decide +kernel, by decide +kernel, rfl⟩
theorem xz13 : XZ 13 := ⟨by decide +kernel, m330, by decide +kernel, by decide +kernel, rfl⟩
theorem xz14 : XZ 14 := ⟨by decide +kernel, m334, by decide +kernel, by decide +kernel, rfl⟩
theorem xz69 : XZ 69 := ⟨by decide +kernel, m672, by decide +kernel, by decide +kernel, rfl⟩
theorem xz70 : XZ 70 := ⟨by decide +kernel, m783, by decide +kernel, by decide +kernel, rfl⟩
theorem xz71 : XZ 71 := ⟨by decide +kernel, m787, by decide +kernel, by decide +kernel, rfl⟩
theorem xz72 : XZ 72 := ⟨by decide +kernel, m792, by decide +kernel, by decide +kernel, rfl⟩
theorem xz95 : XZ 95 := ⟨by decide +kernel, m796, by decide +kernel, by decide +kernel, rfl⟩
theorem xz96 : XZ 96 := ⟨by decide +kernel, m886, by decide +kernel, by decide +kernel, rfl⟩
theorem xz97 : XZ 97 := ⟨by decide +kernel, m890, by decide +kernel, by decide +kernel, rfl⟩
theorem xz98 : XZ 98 := ⟨by decide +kernel, m894, by decide +kernel, by decide +kernel, rfl⟩
theorem xz99 : XZ 99 := ⟨by decide +kernel, m898, by decide +kernel, by decide +kernel, rfl⟩
theorem xz103 : XZ 103 := ⟨by decide +kernel, m902, by decide +kernel, by decide +kernel, rfl⟩
theorem xz104 : XZ 104 := ⟨by decide +kernel, m914, by decide +kernel, by decide +kernel, rfl⟩
theorem xz106 : XZ 106 := ⟨by decide +kernel, m922, by decide +kernel, by decide +kernel, rfl⟩
theorem xz107 : XZ 107 := ⟨by decide +kernel, m930, by decide +kernel, by decide +kernel, rfl⟩
theorem xz108 : XZ 108 := ⟨by decide +kernel, m934, by decide +kernel, by decide +kernel, rfl⟩
theorem xz109 : XZ 109 := ⟨by decide +kernel, m938, by decide +kernel, by decide +kernel, rfl⟩
theorem xz110 : XZ 110 := ⟨by decide +kernel, m942, by decide +kernel, by decide +kernel, rfl⟩
theorem xzw111 : XZW 111 := ⟨by decide +kernel, m340, by decide +kernel, by decide +kernel⟩
theorem xzw112 : XZW 112 := ⟨by decide +kernel, m428, by decide +kernel, by decide +kernel⟩
theorem xzw113 : XZW 113 := ⟨by decide +kernel, m604, by decide +kernel, by decide +kernel⟩
theorem xzw114 : XZW 114 := ⟨by decide +kernel, m633, by decide +kernel, by decide +kernel⟩
theorem xzw115 : XZW 115 := ⟨by decide +kernel, m645, by decide +kernel, by decide +kernel⟩
theorem xzw116 : XZW 116 := ⟨by decide +kernel, m652, by decide +kernel, by decide +kernel⟩
theorem hh_111 : ∀ ex h k, xhd 111 2 ex = some (h, k) → XHd 111 2 ex h k := by
  intro ex h k hh
  by_cases e0 : ex = 1
  · subst e0
    have h2 : xhd 111 2 1 = some (9, 2) := by decide
    cases (h2.symm.trans hh : some (9, 2) = some (h, k))
    exact ⟨8, Or.inl ⟨2, d_111_8, rfl, rfl⟩, by simp [xnw, xex], Or.inl ⟨5, 13, [], rfl, by decide, by decide, m341⟩⟩
  exfalso
  unfold xhd at hh
  simp [e0] at hh
theorem hh_112 : ∀ ex h k, xhd 112 4 ex = some (h, k) → XHd 112 4 ex h k := by
  intro ex h k hh
  by_cases e0 : ex = 2
  · subst e0
    have h2 : xhd 112 4 2 = some (13, 3) := by decide
    cases (h2.symm.trans hh : some (13, 3) = some (h, k))
    exact ⟨12, Or.inl ⟨3, d_112_12, rfl, rfl⟩, by simp [xnw, xex], Or.inl ⟨9, 19, [(0, 9, 15, 13)], rfl, by decide, by decide, m429⟩⟩
  by_cases e1 : ex = 1
  · subst e1
    have h2 : xhd 112 4 1 = some (16, 3) := by decide
    cases (h2.symm.trans hh : some (16, 3) = some (h, k))
    exact ⟨15, Or.inl ⟨3, d_112_15, rfl, rfl⟩, by simp [xnw, xex], Or.inr ⟨9, 12, 19, 9, 13, [], "java/lang/IllegalStateException", rfl, by decide, by decide, by decide, by decide, m429, m341, by decide⟩⟩
  exfalso
  unfold xhd at hh
  simp [e0, e1] at hh
theorem hh_113 : ∀ ex h k, xhd 113 5 ex = some (h, k) → XHd 113 5 ex h k := by
  intro ex h k hh
  by_cases e0 : ex = 3
  · subst e0
    have h2 : xhd 113 5 3 = some (15, 4) := by decide
    cases (h2.symm.trans hh : some (15, 4) = some (h, k))
    exact ⟨13, Or.inr ⟨d_113_13, rfl⟩, by simp [xnw, xex], Or.inl ⟨10, 25, [(0, 10, 17, 13)], rfl, by decide, by decide, m605⟩⟩
  by_cases e1 : ex = 1
  · subst e1
    have h2 : xhd 113 5 1 = some (19, 4) := by decide
    cases (h2.symm.trans hh : some (19, 4) = some (h, k))
    exact ⟨17, Or.inr ⟨d_113_17, rfl⟩, by simp [xnw, xex], Or.inr ⟨10, 13, 25, 10, 13, [], "java/lang/IndexOutOfBoundsException", rfl, by decide, by decide, by decide, by decide, m605, m341, by decide⟩⟩
  exfalso
  unfold xhd at hh
  simp [e0, e1] at hh
theorem hh_114 : ∀ ex h k, xhd 114 5 ex = some (h, k) → XHd 114 5 ex h k := by
  intro ex h k hh
  by_cases e0 : ex = 3
  · subst e0
    have h2 : xhd 114 5 3 = some (15, 4) := by decide
    cases (h2.symm.trans hh : some (15, 4) = some (h, k))
    exact ⟨13, Or.inr ⟨d_114_13, rfl⟩, by simp [xnw, xex], Or.inl ⟨10, 25, [], rfl, by decide, by decide, m605⟩⟩
  exfalso
  unfold xhd at hh
  simp [e0] at hh
theorem hh_115 : ∀ ex h k, xhd 115 5 ex = some (h, k) → XHd 115 5 ex h k := by
  intro ex h k hh
  by_cases e0 : ex = 3
  · subst e0
    have h2 : xhd 115 5 3 = some (15, 4) := by decide
    cases (h2.symm.trans hh : some (15, 4) = some (h, k))
    exact ⟨13, Or.inr ⟨d_115_13, rfl⟩, by simp [xnw, xex], Or.inl ⟨10, 25, [(0, 10, 17, 13)], rfl, by decide, by decide, m605⟩⟩
  by_cases e1 : ex = 1
  · subst e1
    have h2 : xhd 115 5 1 = some (19, 4) := by decide
    cases (h2.symm.trans hh : some (19, 4) = some (h, k))
    exact ⟨17, Or.inr ⟨d_115_17, rfl⟩, by simp [xnw, xex], Or.inr ⟨10, 13, 25, 10, 13, [], "java/lang/IndexOutOfBoundsException", rfl, by decide, by decide, by decide, by decide, m605, m341, by decide⟩⟩
  exfalso
  unfold xhd at hh
  simp [e0, e1] at hh
theorem hh_116 : ∀ ex h k, xhd 116 5 ex = some (h, k) → XHd 116 5 ex h k := by
  intro ex h k hh
  by_cases e0 : ex = 3
  · subst e0
    have h2 : xhd 116 5 3 = some (15, 4) := by decide
    cases (h2.symm.trans hh : some (15, 4) = some (h, k))
    exact ⟨13, Or.inr ⟨d_116_13, rfl⟩, by simp [xnw, xex], Or.inl ⟨10, 25, [], rfl, by decide, by decide, m605⟩⟩
  exfalso
  unfold xhd at hh
  simp [e0] at hh
theorem sw_117_39 : ∀ x : Int32, (x.toInt < 0 ∨ 13 < x.toInt → ((39 : Nat) : Int) + 641 = ((xsw x 680 [(0, 108), (1, 165), (2, 178), (3, 214), (4, 270), (5, 283), (6, 296), (7, 321), (8, 389), (9, 457), (10, 525), (11, 593), (12, 630), (13, 655)] : Nat) : Int)) ∧ (¬ (x.toInt < 0 ∨ 13 < x.toInt) → ∃ off, (#[69, 126, 139, 175, 231, 244, 257, 282, 350, 418, 486, 554, 591, 616] : Array Int)[(x.toInt - 0).toNat]? = some off ∧ ((39 : Nat) : Int) + off = ((xsw x 680 [(0, 108), (1, 165), (2, 178), (3, 214), (4, 270), (5, 283), (6, 296), (7, 321), (8, 389), (9, 457), (10, 525), (11, 593), (12, 630), (13, 655)] : Nat) : Int)) := by
  intro x
  refine ⟨fun h => ?_, fun h => ?_⟩
  · have h0 : ¬ x = 0 := fun q => by subst q; revert h; decide
    have h1 : ¬ x = 1 := fun q => by subst q; revert h; decide
    have h2 : ¬ x = 2 := fun q => by subst q; revert h; decide
    have h3 : ¬ x = 3 := fun q => by subst q; revert h; decide
    have h4 : ¬ x = 4 := fun q => by subst q; revert h; decide
    have h5 : ¬ x = 5 := fun q => by subst q; revert h; decide
    have h6 : ¬ x = 6 := fun q => by subst q; revert h; decide
    have h7 : ¬ x = 7 := fun q => by subst q; revert h; decide
    have h8 : ¬ x = 8 := fun q => by subst q; revert h; decide
    have h9 : ¬ x = 9 := fun q => by subst q; revert h; decide
    have h10 : ¬ x = 10 := fun q => by subst q; revert h; decide
    have h11 : ¬ x = 11 := fun q => by subst q; revert h; decide
    have h12 : ¬ x = 12 := fun q => by subst q; revert h; decide
    have h13 : ¬ x = 13 := fun q => by subst q; revert h; decide
    simp [xsw, h0, h1, h2, h3, h4, h5, h6, h7, h8, h9, h10, h11, h12, h13]
  · rcases (show x.toInt = 0 ∨ x.toInt = 1 ∨ x.toInt = 2 ∨ x.toInt = 3 ∨ x.toInt = 4 ∨ x.toInt = 5 ∨ x.toInt = 6 ∨ x.toInt = 7 ∨ x.toInt = 8 ∨ x.toInt = 9 ∨ x.toInt = 10 ∨ x.toInt = 11 ∨ x.toInt = 12 ∨ x.toInt = 13 by omega) with h | h | h | h | h | h | h | h | h | h | h | h | h | h
    · have e : x = 0 := Int32.toInt_inj.mp (by rw [h]; decide)
      subst e
      exact ⟨_, rfl, by decide⟩
    · have e : x = 1 := Int32.toInt_inj.mp (by rw [h]; decide)
      subst e
      exact ⟨_, rfl, by decide⟩
    · have e : x = 2 := Int32.toInt_inj.mp (by rw [h]; decide)
      subst e
      exact ⟨_, rfl, by decide⟩
    · have e : x = 3 := Int32.toInt_inj.mp (by rw [h]; decide)
      subst e
      exact ⟨_, rfl, by decide⟩
    · have e : x = 4 := Int32.toInt_inj.mp (by rw [h]; decide)
      subst e
      exact ⟨_, rfl, by decide⟩
    · have e : x = 5 := Int32.toInt_inj.mp (by rw [h]; decide)
      subst e
      exact ⟨_, rfl, by decide⟩
    · have e : x = 6 := Int32.toInt_inj.mp (by rw [h]; decide)
      subst e
      exact ⟨_, rfl, by decide⟩
    · have e : x = 7 := Int32.toInt_inj.mp (by rw [h]; decide)
      subst e
      exact ⟨_, rfl, by decide⟩
    · have e : x = 8 := Int32.toInt_inj.mp (by rw [h]; decide)
      subst e
      exact ⟨_, rfl, by decide⟩
    · have e : x = 9 := Int32.toInt_inj.mp (by rw [h]; decide)
      subst e
      exact ⟨_, rfl, by decide⟩
    · have e : x = 10 := Int32.toInt_inj.mp (by rw [h]; decide)
      subst e
      exact ⟨_, rfl, by decide⟩
    · have e : x = 11 := Int32.toInt_inj.mp (by rw [h]; decide)
      subst e
      exact ⟨_, rfl, by decide⟩
    · have e : x = 12 := Int32.toInt_inj.mp (by rw [h]; decide)
      subst e
      exact ⟨_, rfl, by decide⟩
    · have e : x = 13 := Int32.toInt_inj.mp (by rw [h]; decide)
      subst e
      exact ⟨_, rfl, by decide⟩
