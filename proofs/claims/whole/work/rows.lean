section
/-- a private method of a class that the tables say can be made, by its rows of tables_1 -/
def lw_okq (q : MethodName × Nat) : Prop := (q.1.cls ≠ "java/lang/invoke/MethodHandle" ∧ q.1.cls ≠ "java/lang/invoke/VarHandle") ∧ Cond.instantiable q.1.cls q.2 ∈ tables_1 ∧ Cond.privateMethod q.1 ∈ tables_1 ∧ Cond.instanceMethod q.1 ∈ tables_1
theorem lw_p0 : lw_okq (⟨"java/lang/Throwable", "fillInStackTrace", "(I)Ljava/lang/Throwable;"⟩, 6) := ⟨⟨by decide +kernel, by decide +kernel⟩, List.mem_of_getElem? (i := 385) (by decide +kernel), List.mem_of_getElem? (i := 383) (by decide +kernel), List.mem_of_getElem? (i := 384) (by decide +kernel)⟩
theorem lw_p1 : lw_okq (⟨"ChartKnitter", "faultOfChart", "()I"⟩, 8) := ⟨⟨by decide +kernel, by decide +kernel⟩, List.mem_of_getElem? (i := 18) (by decide +kernel), List.mem_of_getElem? (i := 452) (by decide +kernel), List.mem_of_getElem? (i := 453) (by decide +kernel)⟩
theorem lw_p2 : lw_okq (⟨"ChartKnitter$Chart", "digitAt", "(I)I"⟩, 7) := ⟨⟨by decide +kernel, by decide +kernel⟩, List.mem_of_getElem? (i := 26) (by decide +kernel), List.mem_of_getElem? (i := 466) (by decide +kernel), List.mem_of_getElem? (i := 467) (by decide +kernel)⟩
theorem lw_p3 : lw_okq (⟨"ChartKnitter$Chart", "add", "(IZ)V"⟩, 7) := ⟨⟨by decide +kernel, by decide +kernel⟩, List.mem_of_getElem? (i := 26) (by decide +kernel), List.mem_of_getElem? (i := 470) (by decide +kernel), List.mem_of_getElem? (i := 471) (by decide +kernel)⟩
theorem lw_p4 : lw_okq (⟨"ChartKnitter", "faultOfRow", "(I)I"⟩, 8) := ⟨⟨by decide +kernel, by decide +kernel⟩, List.mem_of_getElem? (i := 18) (by decide +kernel), List.mem_of_getElem? (i := 517) (by decide +kernel), List.mem_of_getElem? (i := 518) (by decide +kernel)⟩
theorem lw_p5 : lw_okq (⟨"ChartKnitter", "knitNextRow", "(I)V"⟩, 8) := ⟨⟨by decide +kernel, by decide +kernel⟩, List.mem_of_getElem? (i := 18) (by decide +kernel), List.mem_of_getElem? (i := 524) (by decide +kernel), List.mem_of_getElem? (i := 525) (by decide +kernel)⟩
theorem lw_p6 : lw_okq (⟨"ChartKnitter$Machine", "clearFront", "(LChartKnitter$Plan;LChartKnitter$Row;)V"⟩, 3) := ⟨⟨by decide +kernel, by decide +kernel⟩, List.mem_of_getElem? (i := 136) (by decide +kernel), List.mem_of_getElem? (i := 536) (by decide +kernel), List.mem_of_getElem? (i := 537) (by decide +kernel)⟩
theorem lw_p7 : lw_okq (⟨"ChartKnitter$Machine", "transfer", "(I)V"⟩, 3) := ⟨⟨by decide +kernel, by decide +kernel⟩, List.mem_of_getElem? (i := 136) (by decide +kernel), List.mem_of_getElem? (i := 540) (by decide +kernel), List.mem_of_getElem? (i := 541) (by decide +kernel)⟩
theorem lw_p8 : lw_okq (⟨"ChartKnitter$Machine", "rackTo", "(I)V"⟩, 3) := ⟨⟨by decide +kernel, by decide +kernel⟩, List.mem_of_getElem? (i := 136) (by decide +kernel), List.mem_of_getElem? (i := 544) (by decide +kernel), List.mem_of_getElem? (i := 545) (by decide +kernel)⟩
theorem lw_p9 : lw_okq (⟨"ChartKnitter$Machine", "moveToGoals", "(LChartKnitter$Plan;Z)V"⟩, 3) := ⟨⟨by decide +kernel, by decide +kernel⟩, List.mem_of_getElem? (i := 136) (by decide +kernel), List.mem_of_getElem? (i := 548) (by decide +kernel), List.mem_of_getElem? (i := 549) (by decide +kernel)⟩
theorem lw_p10 : lw_okq (⟨"ChartKnitter$Machine", "fillBack", "(LChartKnitter$Plan;LChartKnitter$Row;)V"⟩, 3) := ⟨⟨by decide +kernel, by decide +kernel⟩, List.mem_of_getElem? (i := 136) (by decide +kernel), List.mem_of_getElem? (i := 552) (by decide +kernel), List.mem_of_getElem? (i := 553) (by decide +kernel)⟩
theorem lw_p11 : lw_okq (⟨"ChartKnitter$Machine", "changeBeds", "(LChartKnitter$Plan;LChartKnitter$Row;)V"⟩, 3) := ⟨⟨by decide +kernel, by decide +kernel⟩, List.mem_of_getElem? (i := 136) (by decide +kernel), List.mem_of_getElem? (i := 564) (by decide +kernel), List.mem_of_getElem? (i := 565) (by decide +kernel)⟩
theorem lw_p12 : lw_okq (⟨"ChartKnitter", "release", "(LChartKnitter$Row;LChartKnitter$Row;)V"⟩, 8) := ⟨⟨by decide +kernel, by decide +kernel⟩, List.mem_of_getElem? (i := 18) (by decide +kernel), List.mem_of_getElem? (i := 568) (by decide +kernel), List.mem_of_getElem? (i := 569) (by decide +kernel)⟩
theorem lw_p13 : lw_okq (⟨"ChartKnitter", "bringToGoals", "(LChartKnitter$Row;LChartKnitter$Row;Z)V"⟩, 8) := ⟨⟨by decide +kernel, by decide +kernel⟩, List.mem_of_getElem? (i := 18) (by decide +kernel), List.mem_of_getElem? (i := 572) (by decide +kernel), List.mem_of_getElem? (i := 573) (by decide +kernel)⟩
theorem lw_p14 : lw_okq (⟨"ChartKnitter", "noteCrossings", "(LChartKnitter$Row;LChartKnitter$Row;)V"⟩, 8) := ⟨⟨by decide +kernel, by decide +kernel⟩, List.mem_of_getElem? (i := 18) (by decide +kernel), List.mem_of_getElem? (i := 576) (by decide +kernel), List.mem_of_getElem? (i := 577) (by decide +kernel)⟩
theorem lw_p15 : lw_okq (⟨"ChartKnitter", "makeLoops", "(LChartKnitter$Row;LChartKnitter$Row;I)V"⟩, 8) := ⟨⟨by decide +kernel, by decide +kernel⟩, List.mem_of_getElem? (i := 18) (by decide +kernel), List.mem_of_getElem? (i := 592) (by decide +kernel), List.mem_of_getElem? (i := 593) (by decide +kernel)⟩
def lw_privs_1 : List (MethodName × Nat) := [(⟨"java/lang/Throwable", "fillInStackTrace", "(I)Ljava/lang/Throwable;"⟩, 6), (⟨"ChartKnitter", "faultOfChart", "()I"⟩, 8), (⟨"ChartKnitter$Chart", "digitAt", "(I)I"⟩, 7), (⟨"ChartKnitter$Chart", "add", "(IZ)V"⟩, 7), (⟨"ChartKnitter", "faultOfRow", "(I)I"⟩, 8), (⟨"ChartKnitter", "knitNextRow", "(I)V"⟩, 8), (⟨"ChartKnitter$Machine", "clearFront", "(LChartKnitter$Plan;LChartKnitter$Row;)V"⟩, 3), (⟨"ChartKnitter$Machine", "transfer", "(I)V"⟩, 3), (⟨"ChartKnitter$Machine", "rackTo", "(I)V"⟩, 3), (⟨"ChartKnitter$Machine", "moveToGoals", "(LChartKnitter$Plan;Z)V"⟩, 3), (⟨"ChartKnitter$Machine", "fillBack", "(LChartKnitter$Plan;LChartKnitter$Row;)V"⟩, 3), (⟨"ChartKnitter$Machine", "changeBeds", "(LChartKnitter$Plan;LChartKnitter$Row;)V"⟩, 3), (⟨"ChartKnitter", "release", "(LChartKnitter$Row;LChartKnitter$Row;)V"⟩, 8), (⟨"ChartKnitter", "bringToGoals", "(LChartKnitter$Row;LChartKnitter$Row;Z)V"⟩, 8), (⟨"ChartKnitter", "noteCrossings", "(LChartKnitter$Row;LChartKnitter$Row;)V"⟩, 8), (⟨"ChartKnitter", "makeLoops", "(LChartKnitter$Row;LChartKnitter$Row;I)V"⟩, 8)]
theorem lw_r1 : ∀ q ∈ lw_privs_1, lw_okq q := List.forall_mem_cons.mpr ⟨lw_p0, List.forall_mem_cons.mpr ⟨lw_p1, List.forall_mem_cons.mpr ⟨lw_p2, List.forall_mem_cons.mpr ⟨lw_p3, List.forall_mem_cons.mpr ⟨lw_p4, List.forall_mem_cons.mpr ⟨lw_p5, List.forall_mem_cons.mpr ⟨lw_p6, List.forall_mem_cons.mpr ⟨lw_p7, List.forall_mem_cons.mpr ⟨lw_p8, List.forall_mem_cons.mpr ⟨lw_p9, List.forall_mem_cons.mpr ⟨lw_p10, List.forall_mem_cons.mpr ⟨lw_p11, List.forall_mem_cons.mpr ⟨lw_p12, List.forall_mem_cons.mpr ⟨lw_p13, List.forall_mem_cons.mpr ⟨lw_p14, List.forall_mem_cons.mpr ⟨lw_p15, fun _ h => absurd h List.not_mem_nil⟩⟩⟩⟩⟩⟩⟩⟩⟩⟩⟩⟩⟩⟩⟩⟩
theorem lw_p16 : lw_okq (⟨"ChartKnitter", "drawThrough", "(LChartKnitter$Row;II)V"⟩, 8) := ⟨⟨by decide +kernel, by decide +kernel⟩, List.mem_of_getElem? (i := 18) (by decide +kernel), List.mem_of_getElem? (i := 599) (by decide +kernel), List.mem_of_getElem? (i := 600) (by decide +kernel)⟩
theorem lw_p17 : lw_okq (⟨"ChartKnitter", "isKnitted", "(I)Z"⟩, 8) := ⟨⟨by decide +kernel, by decide +kernel⟩, List.mem_of_getElem? (i := 18) (by decide +kernel), List.mem_of_getElem? (i := 611) (by decide +kernel), List.mem_of_getElem? (i := 612) (by decide +kernel)⟩
theorem lw_p18 : lw_okq (⟨"ChartKnitter", "isLoop", "(I)Z"⟩, 8) := ⟨⟨by decide +kernel, by decide +kernel⟩, List.mem_of_getElem? (i := 18) (by decide +kernel), List.mem_of_getElem? (i := 639) (by decide +kernel), List.mem_of_getElem? (i := 640) (by decide +kernel)⟩
theorem lw_p19 : lw_okq (⟨"ChartKnitterModel", "parse", "([III)I"⟩, 35) := ⟨⟨by decide +kernel, by decide +kernel⟩, List.mem_of_getElem? (i := 669) (by decide +kernel), List.mem_of_getElem? (i := 798) (by decide +kernel), List.mem_of_getElem? (i := 799) (by decide +kernel)⟩
theorem lw_p20 : lw_okq (⟨"ChartKnitterModel", "fault", "(II)I"⟩, 35) := ⟨⟨by decide +kernel, by decide +kernel⟩, List.mem_of_getElem? (i := 669) (by decide +kernel), List.mem_of_getElem? (i := 808) (by decide +kernel), List.mem_of_getElem? (i := 809) (by decide +kernel)⟩
theorem lw_p21 : lw_okq (⟨"ChartKnitterModel", "takes", "(I)I"⟩, 35) := ⟨⟨by decide +kernel, by decide +kernel⟩, List.mem_of_getElem? (i := 669) (by decide +kernel), List.mem_of_getElem? (i := 812) (by decide +kernel), List.mem_of_getElem? (i := 813) (by decide +kernel)⟩
theorem lw_p22 : lw_okq (⟨"ChartKnitterModel", "gives", "(I)I"⟩, 35) := ⟨⟨by decide +kernel, by decide +kernel⟩, List.mem_of_getElem? (i := 669) (by decide +kernel), List.mem_of_getElem? (i := 816) (by decide +kernel), List.mem_of_getElem? (i := 817) (by decide +kernel)⟩
theorem lw_p23 : lw_okq (⟨"ChartKnitterModel", "crowded", "()I"⟩, 35) := ⟨⟨by decide +kernel, by decide +kernel⟩, List.mem_of_getElem? (i := 669) (by decide +kernel), List.mem_of_getElem? (i := 820) (by decide +kernel), List.mem_of_getElem? (i := 821) (by decide +kernel)⟩
theorem lw_p24 : lw_okq (⟨"ChartKnitterModel", "size", "(I)I"⟩, 35) := ⟨⟨by decide +kernel, by decide +kernel⟩, List.mem_of_getElem? (i := 669) (by decide +kernel), List.mem_of_getElem? (i := 824) (by decide +kernel), List.mem_of_getElem? (i := 825) (by decide +kernel)⟩
theorem lw_p25 : lw_okq (⟨"ChartKnitterModel", "plan", "()V"⟩, 35) := ⟨⟨by decide +kernel, by decide +kernel⟩, List.mem_of_getElem? (i := 669) (by decide +kernel), List.mem_of_getElem? (i := 828) (by decide +kernel), List.mem_of_getElem? (i := 829) (by decide +kernel)⟩
theorem lw_p26 : lw_okq (⟨"ChartKnitterModel", "cable", "(III)V"⟩, 35) := ⟨⟨by decide +kernel, by decide +kernel⟩, List.mem_of_getElem? (i := 669) (by decide +kernel), List.mem_of_getElem? (i := 832) (by decide +kernel), List.mem_of_getElem? (i := 833) (by decide +kernel)⟩
theorem lw_p27 : lw_okq (⟨"ChartKnitterModel", "take", "(IIIZI)V"⟩, 35) := ⟨⟨by decide +kernel, by decide +kernel⟩, List.mem_of_getElem? (i := 669) (by decide +kernel), List.mem_of_getElem? (i := 836) (by decide +kernel), List.mem_of_getElem? (i := 837) (by decide +kernel)⟩
theorem lw_p28 : lw_okq (⟨"ChartKnitterModel", "give", "(III)V"⟩, 35) := ⟨⟨by decide +kernel, by decide +kernel⟩, List.mem_of_getElem? (i := 669) (by decide +kernel), List.mem_of_getElem? (i := 840) (by decide +kernel), List.mem_of_getElem? (i := 841) (by decide +kernel)⟩
theorem lw_p29 : lw_okq (⟨"ChartKnitterModel", "join", "(III)V"⟩, 35) := ⟨⟨by decide +kernel, by decide +kernel⟩, List.mem_of_getElem? (i := 669) (by decide +kernel), List.mem_of_getElem? (i := 844) (by decide +kernel), List.mem_of_getElem? (i := 845) (by decide +kernel)⟩
theorem lw_p30 : lw_okq (⟨"ChartKnitterModel", "areMoved", "()Z"⟩, 35) := ⟨⟨by decide +kernel, by decide +kernel⟩, List.mem_of_getElem? (i := 669) (by decide +kernel), List.mem_of_getElem? (i := 848) (by decide +kernel), List.mem_of_getElem? (i := 849) (by decide +kernel)⟩
theorem lw_p31 : lw_okq (⟨"ChartKnitterModel", "tooFar", "()I"⟩, 35) := ⟨⟨by decide +kernel, by decide +kernel⟩, List.mem_of_getElem? (i := 669) (by decide +kernel), List.mem_of_getElem? (i := 852) (by decide +kernel), List.mem_of_getElem? (i := 853) (by decide +kernel)⟩
def lw_privs_2 : List (MethodName × Nat) := [(⟨"ChartKnitter", "drawThrough", "(LChartKnitter$Row;II)V"⟩, 8), (⟨"ChartKnitter", "isKnitted", "(I)Z"⟩, 8), (⟨"ChartKnitter", "isLoop", "(I)Z"⟩, 8), (⟨"ChartKnitterModel", "parse", "([III)I"⟩, 35), (⟨"ChartKnitterModel", "fault", "(II)I"⟩, 35), (⟨"ChartKnitterModel", "takes", "(I)I"⟩, 35), (⟨"ChartKnitterModel", "gives", "(I)I"⟩, 35), (⟨"ChartKnitterModel", "crowded", "()I"⟩, 35), (⟨"ChartKnitterModel", "size", "(I)I"⟩, 35), (⟨"ChartKnitterModel", "plan", "()V"⟩, 35), (⟨"ChartKnitterModel", "cable", "(III)V"⟩, 35), (⟨"ChartKnitterModel", "take", "(IIIZI)V"⟩, 35), (⟨"ChartKnitterModel", "give", "(III)V"⟩, 35), (⟨"ChartKnitterModel", "join", "(III)V"⟩, 35), (⟨"ChartKnitterModel", "areMoved", "()Z"⟩, 35), (⟨"ChartKnitterModel", "tooFar", "()I"⟩, 35)]
theorem lw_r2 : ∀ q ∈ lw_privs_2, lw_okq q := List.forall_mem_cons.mpr ⟨lw_p16, List.forall_mem_cons.mpr ⟨lw_p17, List.forall_mem_cons.mpr ⟨lw_p18, List.forall_mem_cons.mpr ⟨lw_p19, List.forall_mem_cons.mpr ⟨lw_p20, List.forall_mem_cons.mpr ⟨lw_p21, List.forall_mem_cons.mpr ⟨lw_p22, List.forall_mem_cons.mpr ⟨lw_p23, List.forall_mem_cons.mpr ⟨lw_p24, List.forall_mem_cons.mpr ⟨lw_p25, List.forall_mem_cons.mpr ⟨lw_p26, List.forall_mem_cons.mpr ⟨lw_p27, List.forall_mem_cons.mpr ⟨lw_p28, List.forall_mem_cons.mpr ⟨lw_p29, List.forall_mem_cons.mpr ⟨lw_p30, List.forall_mem_cons.mpr ⟨lw_p31, fun _ h => absurd h List.not_mem_nil⟩⟩⟩⟩⟩⟩⟩⟩⟩⟩⟩⟩⟩⟩⟩⟩
theorem lw_p32 : lw_okq (⟨"ChartKnitterModel", "makes", "(I)I"⟩, 35) := ⟨⟨by decide +kernel, by decide +kernel⟩, List.mem_of_getElem? (i := 669) (by decide +kernel), List.mem_of_getElem? (i := 856) (by decide +kernel), List.mem_of_getElem? (i := 857) (by decide +kernel)⟩
theorem lw_p33 : lw_okq (⟨"ChartKnitterModel", "knitRow", "(II)V"⟩, 35) := ⟨⟨by decide +kernel, by decide +kernel⟩, List.mem_of_getElem? (i := 669) (by decide +kernel), List.mem_of_getElem? (i := 860) (by decide +kernel), List.mem_of_getElem? (i := 861) (by decide +kernel)⟩
theorem lw_p34 : lw_okq (⟨"ChartKnitterModel", "transfers", "()I"⟩, 35) := ⟨⟨by decide +kernel, by decide +kernel⟩, List.mem_of_getElem? (i := 669) (by decide +kernel), List.mem_of_getElem? (i := 864) (by decide +kernel), List.mem_of_getElem? (i := 865) (by decide +kernel)⟩
theorem lw_p35 : lw_okq (⟨"ChartKnitterModel", "rackings", "()I"⟩, 35) := ⟨⟨by decide +kernel, by decide +kernel⟩, List.mem_of_getElem? (i := 669) (by decide +kernel), List.mem_of_getElem? (i := 868) (by decide +kernel), List.mem_of_getElem? (i := 869) (by decide +kernel)⟩
theorem lw_p36 : lw_okq (⟨"ChartKnitterModel", "released", "()I"⟩, 35) := ⟨⟨by decide +kernel, by decide +kernel⟩, List.mem_of_getElem? (i := 669) (by decide +kernel), List.mem_of_getElem? (i := 872) (by decide +kernel), List.mem_of_getElem? (i := 873) (by decide +kernel)⟩
theorem lw_p37 : lw_okq (⟨"ChartKnitterModel", "make", "(II)V"⟩, 35) := ⟨⟨by decide +kernel, by decide +kernel⟩, List.mem_of_getElem? (i := 669) (by decide +kernel), List.mem_of_getElem? (i := 876) (by decide +kernel), List.mem_of_getElem? (i := 877) (by decide +kernel)⟩
theorem lw_p38 : lw_okq (⟨"ChartKnitterModel", "drop", "()V"⟩, 35) := ⟨⟨by decide +kernel, by decide +kernel⟩, List.mem_of_getElem? (i := 669) (by decide +kernel), List.mem_of_getElem? (i := 880) (by decide +kernel), List.mem_of_getElem? (i := 881) (by decide +kernel)⟩
theorem lw_p39 : lw_okq (⟨"ChartKnitterModel", "noRow", "(I)Z"⟩, 35) := ⟨⟨by decide +kernel, by decide +kernel⟩, List.mem_of_getElem? (i := 669) (by decide +kernel), List.mem_of_getElem? (i := 904) (by decide +kernel), List.mem_of_getElem? (i := 905) (by decide +kernel)⟩
theorem lw_p40 : lw_okq (⟨"ChartKnitterModel", "pair", "(II)I"⟩, 35) := ⟨⟨by decide +kernel, by decide +kernel⟩, List.mem_of_getElem? (i := 669) (by decide +kernel), List.mem_of_getElem? (i := 908) (by decide +kernel), List.mem_of_getElem? (i := 909) (by decide +kernel)⟩
theorem lw_p41 : lw_okq (⟨"ChartKnitterModel", "noLoop", "(I)Z"⟩, 35) := ⟨⟨by decide +kernel, by decide +kernel⟩, List.mem_of_getElem? (i := 669) (by decide +kernel), List.mem_of_getElem? (i := 916) (by decide +kernel), List.mem_of_getElem? (i := 917) (by decide +kernel)⟩
theorem lw_p42 : lw_okq (⟨"ChartKnitterModel", "whereIs", "(I)I"⟩, 35) := ⟨⟨by decide +kernel, by decide +kernel⟩, List.mem_of_getElem? (i := 669) (by decide +kernel), List.mem_of_getElem? (i := 924) (by decide +kernel), List.mem_of_getElem? (i := 925) (by decide +kernel)⟩
def lw_privs_3 : List (MethodName × Nat) := [(⟨"ChartKnitterModel", "makes", "(I)I"⟩, 35), (⟨"ChartKnitterModel", "knitRow", "(II)V"⟩, 35), (⟨"ChartKnitterModel", "transfers", "()I"⟩, 35), (⟨"ChartKnitterModel", "rackings", "()I"⟩, 35), (⟨"ChartKnitterModel", "released", "()I"⟩, 35), (⟨"ChartKnitterModel", "make", "(II)V"⟩, 35), (⟨"ChartKnitterModel", "drop", "()V"⟩, 35), (⟨"ChartKnitterModel", "noRow", "(I)Z"⟩, 35), (⟨"ChartKnitterModel", "pair", "(II)I"⟩, 35), (⟨"ChartKnitterModel", "noLoop", "(I)Z"⟩, 35), (⟨"ChartKnitterModel", "whereIs", "(I)I"⟩, 35)]
theorem lw_r3 : ∀ q ∈ lw_privs_3, lw_okq q := List.forall_mem_cons.mpr ⟨lw_p32, List.forall_mem_cons.mpr ⟨lw_p33, List.forall_mem_cons.mpr ⟨lw_p34, List.forall_mem_cons.mpr ⟨lw_p35, List.forall_mem_cons.mpr ⟨lw_p36, List.forall_mem_cons.mpr ⟨lw_p37, List.forall_mem_cons.mpr ⟨lw_p38, List.forall_mem_cons.mpr ⟨lw_p39, List.forall_mem_cons.mpr ⟨lw_p40, List.forall_mem_cons.mpr ⟨lw_p41, List.forall_mem_cons.mpr ⟨lw_p42, fun _ h => absurd h List.not_mem_nil⟩⟩⟩⟩⟩⟩⟩⟩⟩⟩⟩
def lw_privs : List (MethodName × Nat) := lw_privs_1 ++ (lw_privs_2 ++ (lw_privs_3))
def lw_tbl : List Cond := k2_sels lw_privs ++ tables_1
theorem lw_privs_ok : ∀ q ∈ lw_privs, lw_okq q := by
  show ∀ q ∈ lw_privs_1 ++ (lw_privs_2 ++ (lw_privs_3)), lw_okq q
  exact List.forall_mem_append.mpr ⟨lw_r1, List.forall_mem_append.mpr ⟨lw_r2, lw_r3⟩⟩
end
section
/-! names and tables, by program out of the Statement (wip/whole/gen_parts.py) -/
def CR0 : String := "ChartKnitter"
def CF0 : u_T := fun k => match k with
  | 0 => ("ChartKnitter", "chart", "LChartKnitter$Chart;", true)
  | 1 => ("ChartKnitter", "plan", "LChartKnitter$Plan;", true)
  | 2 => ("ChartKnitter", "machine", "LChartKnitter$Machine;", true)
  | 3 => ("ChartKnitter", "loops", "LChartKnitter$Loops;", true)
  | 4 => ("ChartKnitter", "crossings", "LChartKnitter$Crossings;", true)
  | 5 => ("ChartKnitter", "rows", "[LChartKnitter$Row;", true)
  | 6 => ("ChartKnitter", "lastRow", "I", false)
  | _ => ("ChartKnitter", "faultPlace", "I", false)
def cty0 : Nat → FieldType := fun k => match k with
  | 0 => .object "ChartKnitter$Chart"
  | 1 => .object "ChartKnitter$Plan"
  | 2 => .object "ChartKnitter$Machine"
  | 3 => .object "ChartKnitter$Loops"
  | 4 => .object "ChartKnitter$Crossings"
  | 5 => .array (.object "ChartKnitter$Row")
  | 6 => .int
  | _ => .int
theorem cnm0 : ∀ a, a < 8 → ∀ b, b < 8 → a ≠ b → (CF0 a).2.1 ≠ (CF0 b).2.1 := by decide +kernel
theorem ctyok0 : ∀ k, k < 8 → parseFieldDescriptor (CF0 k).2.2.1 = some (cty0 k) := by decide +kernel
def CR1 : String := "ChartKnitter$Chart"
def CF1 : u_T := fun k => match k with
  | 0 => ("ChartKnitter$Chart", "text", "[I", true)
  | 1 => ("ChartKnitter$Chart", "length", "I", false)
  | 2 => ("ChartKnitter$Chart", "stitches", "[LChartKnitter$Stitch;", true)
  | 3 => ("ChartKnitter$Chart", "stitchCount", "I", false)
  | 4 => ("ChartKnitter$Chart", "taken", "I", false)
  | 5 => ("ChartKnitter$Chart", "given", "I", false)
  | _ => ("ChartKnitter$Chart", "made", "I", false)
def cty1 : Nat → FieldType := fun k => match k with
  | 0 => .array .int
  | 1 => .int
  | 2 => .array (.object "ChartKnitter$Stitch")
  | 3 => .int
  | 4 => .int
  | 5 => .int
  | _ => .int
theorem cnm1 : ∀ a, a < 7 → ∀ b, b < 7 → a ≠ b → (CF1 a).2.1 ≠ (CF1 b).2.1 := by decide +kernel
theorem ctyok1 : ∀ k, k < 7 → parseFieldDescriptor (CF1 k).2.2.1 = some (cty1 k) := by decide +kernel
def CR2 : String := "ChartKnitter$Crossings"
def CF2 : u_T := fun k => match k with
  | 0 => ("ChartKnitter$Crossings", "first", "[I", true)
  | 1 => ("ChartKnitter$Crossings", "left", "[I", true)
  | 2 => ("ChartKnitter$Crossings", "right", "[I", true)
  | _ => ("ChartKnitter$Crossings", "leftInFront", "[I", true)
def cty2 : Nat → FieldType := fun k => match k with
  | 0 => .array .int
  | 1 => .array .int
  | 2 => .array .int
  | _ => .array .int
theorem cnm2 : ∀ a, a < 4 → ∀ b, b < 4 → a ≠ b → (CF2 a).2.1 ≠ (CF2 b).2.1 := by decide +kernel
theorem ctyok2 : ∀ k, k < 4 → parseFieldDescriptor (CF2 k).2.2.1 = some (cty2 k) := by decide +kernel
def CR3 : String := "ChartKnitter$Loops"
def CF3 : u_T := fun k => match k with
  | 0 => ("ChartKnitter$Loops", "row", "[I", true)
  | 1 => ("ChartKnitter$Loops", "column", "[I", true)
  | 2 => ("ChartKnitter$Loops", "bed", "[I", true)
  | 3 => ("ChartKnitter$Loops", "carrier", "[I", true)
  | 4 => ("ChartKnitter$Loops", "where", "[I", true)
  | _ => ("ChartKnitter$Loops", "parents", "[I", true)
def cty3 : Nat → FieldType := fun k => match k with
  | 0 => .array .int
  | 1 => .array .int
  | 2 => .array .int
  | 3 => .array .int
  | 4 => .array .int
  | _ => .array .int
theorem cnm3 : ∀ a, a < 6 → ∀ b, b < 6 → a ≠ b → (CF3 a).2.1 ≠ (CF3 b).2.1 := by decide +kernel
theorem ctyok3 : ∀ k, k < 6 → parseFieldDescriptor (CF3 k).2.2.1 = some (cty3 k) := by decide +kernel
def CR4 : String := "ChartKnitter$Machine"
def CF4 : u_T := fun k => match k with
  | 0 => ("ChartKnitter$Machine", "rack", "I", false)
  | 1 => ("ChartKnitter$Machine", "transfers", "I", false)
  | _ => ("ChartKnitter$Machine", "rackings", "I", false)
def cty4 : Nat → FieldType := fun k => match k with
  | 0 => .int
  | 1 => .int
  | _ => .int
theorem cnm4 : ∀ a, a < 3 → ∀ b, b < 3 → a ≠ b → (CF4 a).2.1 ≠ (CF4 b).2.1 := by decide +kernel
theorem ctyok4 : ∀ k, k < 3 → parseFieldDescriptor (CF4 k).2.2.1 = some (cty4 k) := by decide +kernel
def CR5 : String := "ChartKnitter$Plan"
def CF5 : u_T := fun k => match k with
  | 0 => ("ChartKnitter$Plan", "columns", "I", false)
  | 1 => ("ChartKnitter$Plan", "takers", "[LChartKnitter$Stitch;", true)
  | 2 => ("ChartKnitter$Plan", "goals", "[I", true)
  | 3 => ("ChartKnitter$Plan", "late", "[Z", true)
  | _ => ("ChartKnitter$Plan", "givers", "[LChartKnitter$Stitch;", true)
def cty5 : Nat → FieldType := fun k => match k with
  | 0 => .int
  | 1 => .array (.object "ChartKnitter$Stitch")
  | 2 => .array .int
  | 3 => .array .boolean
  | _ => .array (.object "ChartKnitter$Stitch")
theorem cnm5 : ∀ a, a < 5 → ∀ b, b < 5 → a ≠ b → (CF5 a).2.1 ≠ (CF5 b).2.1 := by decide +kernel
theorem ctyok5 : ∀ k, k < 5 → parseFieldDescriptor (CF5 k).2.2.1 = some (cty5 k) := by decide +kernel
def CR6 : String := "ChartKnitter$Row"
def CF6 : u_T := fun k => match k with
  | 0 => ("ChartKnitter$Row", "columns", "I", false)
  | 1 => ("ChartKnitter$Row", "stacks", "[I", true)
  | 2 => ("ChartKnitter$Row", "sizes", "[I", true)
  | 3 => ("ChartKnitter$Row", "beds", "[I", true)
  | 4 => ("ChartKnitter$Row", "sides", "[I", true)
  | 5 => ("ChartKnitter$Row", "loops", "I", false)
  | 6 => ("ChartKnitter$Row", "dropped", "I", false)
  | 7 => ("ChartKnitter$Row", "crossings", "I", false)
  | 8 => ("ChartKnitter$Row", "transfers", "I", false)
  | 9 => ("ChartKnitter$Row", "rackings", "I", false)
  | 10 => ("ChartKnitter$Row", "released", "I", false)
  | 11 => ("ChartKnitter$Row", "made", "I", false)
  | _ => ("ChartKnitter$Row", "crossedPairs", "I", false)
def cty6 : Nat → FieldType := fun k => match k with
  | 0 => .int
  | 1 => .array .int
  | 2 => .array .int
  | 3 => .array .int
  | 4 => .array .int
  | 5 => .int
  | 6 => .int
  | 7 => .int
  | 8 => .int
  | 9 => .int
  | 10 => .int
  | 11 => .int
  | _ => .int
theorem cnm6 : ∀ a, a < 13 → ∀ b, b < 13 → a ≠ b → (CF6 a).2.1 ≠ (CF6 b).2.1 := by decide +kernel
theorem ctyok6 : ∀ k, k < 13 → parseFieldDescriptor (CF6 k).2.2.1 = some (cty6 k) := by decide +kernel
def CR7 : String := "ChartKnitter$Stitch"
def CF7 : u_T := fun k => match k with
  | 0 => ("ChartKnitter$Stitch", "sign", "I", false)
  | 1 => ("ChartKnitter$Stitch", "at", "I", false)
  | 2 => ("ChartKnitter$Stitch", "left", "I", false)
  | 3 => ("ChartKnitter$Stitch", "right", "I", false)
  | 4 => ("ChartKnitter$Stitch", "firstTaken", "I", false)
  | _ => ("ChartKnitter$Stitch", "firstGiven", "I", false)
def cty7 : Nat → FieldType := fun k => match k with
  | 0 => .int
  | 1 => .int
  | 2 => .int
  | 3 => .int
  | 4 => .int
  | _ => .int
theorem cnm7 : ∀ a, a < 6 → ∀ b, b < 6 → a ≠ b → (CF7 a).2.1 ≠ (CF7 b).2.1 := by decide +kernel
theorem ctyok7 : ∀ k, k < 6 → parseFieldDescriptor (CF7 k).2.2.1 = some (cty7 k) := by decide +kernel
def CR8 : String := "ChartKnitterModel"
def CF8 : u_T := fun k => match k with
  | 0 => ("ChartKnitterModel", "thrown", "I", false)
  | 1 => ("ChartKnitterModel", "text", "[I", true)
  | 2 => ("ChartKnitterModel", "length", "I", false)
  | 3 => ("ChartKnitterModel", "told", "I", false)
  | 4 => ("ChartKnitterModel", "cast", "Z", false)
  | 5 => ("ChartKnitterModel", "rows", "I", false)
  | 6 => ("ChartKnitterModel", "stacks", "[I", true)
  | 7 => ("ChartKnitterModel", "sizes", "[I", true)
  | 8 => ("ChartKnitterModel", "beds", "[I", true)
  | 9 => ("ChartKnitterModel", "columns", "[I", true)
  | 10 => ("ChartKnitterModel", "loops", "[I", true)
  | 11 => ("ChartKnitterModel", "drops", "[I", true)
  | 12 => ("ChartKnitterModel", "sides", "[I", true)
  | 13 => ("ChartKnitterModel", "texts", "[I", true)
  | 14 => ("ChartKnitterModel", "lengths", "[I", true)
  | 15 => ("ChartKnitterModel", "programs", "[I", true)
  | 16 => ("ChartKnitterModel", "parents", "[I", true)
  | 17 => ("ChartKnitterModel", "many", "[I", true)
  | 18 => ("ChartKnitterModel", "rowOf", "[I", true)
  | 19 => ("ChartKnitterModel", "columnOf", "[I", true)
  | 20 => ("ChartKnitterModel", "bedOf", "[I", true)
  | 21 => ("ChartKnitterModel", "carrierOf", "[I", true)
  | 22 => ("ChartKnitterModel", "droppedIn", "[I", true)
  | 23 => ("ChartKnitterModel", "count", "I", false)
  | 24 => ("ChartKnitterModel", "kind", "[I", true)
  | 25 => ("ChartKnitterModel", "at", "[I", true)
  | 26 => ("ChartKnitterModel", "left", "[I", true)
  | 27 => ("ChartKnitterModel", "right", "[I", true)
  | 28 => ("ChartKnitterModel", "goal", "[I", true)
  | 29 => ("ChartKnitterModel", "late", "[Z", true)
  | 30 => ("ChartKnitterModel", "must", "[I", true)
  | 31 => ("ChartKnitterModel", "charOf", "[I", true)
  | 32 => ("ChartKnitterModel", "by", "[I", true)
  | 33 => ("ChartKnitterModel", "sources", "[I", true)
  | _ => ("ChartKnitterModel", "source", "[I", true)
def cty8 : Nat → FieldType := fun k => match k with
  | 0 => .int
  | 1 => .array .int
  | 2 => .int
  | 3 => .int
  | 4 => .boolean
  | 5 => .int
  | 6 => .array .int
  | 7 => .array .int
  | 8 => .array .int
  | 9 => .array .int
  | 10 => .array .int
  | 11 => .array .int
  | 12 => .array .int
  | 13 => .array .int
  | 14 => .array .int
  | 15 => .array .int
  | 16 => .array .int
  | 17 => .array .int
  | 18 => .array .int
  | 19 => .array .int
  | 20 => .array .int
  | 21 => .array .int
  | 22 => .array .int
  | 23 => .int
  | 24 => .array .int
  | 25 => .array .int
  | 26 => .array .int
  | 27 => .array .int
  | 28 => .array .int
  | 29 => .array .boolean
  | 30 => .array .int
  | 31 => .array .int
  | 32 => .array .int
  | 33 => .array .int
  | _ => .array .int
theorem cnm8 : ∀ a, a < 35 → ∀ b, b < 35 → a ≠ b → (CF8 a).2.1 ≠ (CF8 b).2.1 := by decide +kernel
theorem ctyok8 : ∀ k, k < 35 → parseFieldDescriptor (CF8 k).2.2.1 = some (cty8 k) := by decide +kernel
abbrev xcl : List vw_C := [(CR0, CF0, 8), (CR1, CF1, 7), (CR2, CF2, 4), (CR3, CF3, 6), (CR4, CF4, 3), (CR5, CF5, 5), (CR6, CF6, 13), (CR7, CF7, 6), (CR8, CF8, 35)]
def xkt (t : Nat) : Nat := if t < 31 then (if t < 15 then (if t < 7 then (if t < 3 then (if t < 1 then (5) else (if t < 2 then (0) else (0))) else (if t < 5 then (if t < 4 then (3) else (0)) else (if t < 6 then (0) else (0)))) else (if t < 11 then (if t < 9 then (if t < 8 then (0) else (0)) else (if t < 10 then (4) else (0))) else (if t < 13 then (if t < 12 then (1) else (4)) else (if t < 14 then (0) else (4))))) else (if t < 23 then (if t < 19 then (if t < 17 then (if t < 16 then (1) else (2)) else (if t < 18 then (4) else (0))) else (if t < 21 then (if t < 20 then (1) else (1)) else (if t < 22 then (1) else (1)))) else (if t < 27 then (if t < 25 then (if t < 24 then (1) else (1)) else (if t < 26 then (1) else (1))) else (if t < 29 then (if t < 28 then (1) else (1)) else (if t < 30 then (1) else (1)))))) else (if t < 47 then (if t < 39 then (if t < 35 then (if t < 33 then (if t < 32 then (1) else (1)) else (if t < 34 then (1) else (1))) else (if t < 37 then (if t < 36 then (1) else (1)) else (if t < 38 then (1) else (1)))) else (if t < 43 then (if t < 41 then (if t < 40 then (1) else (1)) else (if t < 42 then (1) else (1))) else (if t < 45 then (if t < 44 then (1) else (1)) else (if t < 46 then (1) else (1))))) else (if t < 55 then (if t < 51 then (if t < 49 then (if t < 48 then (1) else (1)) else (if t < 50 then (1) else (1))) else (if t < 53 then (if t < 52 then (1) else (1)) else (if t < 54 then (1) else (1)))) else (if t < 59 then (if t < 57 then (if t < 56 then (1) else (2)) else (if t < 58 then (1) else (1))) else (if t < 61 then (if t < 60 then (1) else (1)) else (if t < 62 then (1) else (9))))))
def xkn (t : Nat) : Nat := if t < 31 then (if t < 15 then (if t < 7 then (if t < 3 then (if t < 1 then (0) else (if t < 2 then (8) else (35))) else (if t < 5 then (if t < 4 then (1) else (7)) else (if t < 6 then (5) else (3)))) else (if t < 11 then (if t < 9 then (if t < 8 then (6) else (4)) else (if t < 10 then (21) else (13))) else (if t < 13 then (if t < 12 then (40) else (40)) else (if t < 14 then (6) else (16))))) else (if t < 23 then (if t < 19 then (if t < 17 then (if t < 16 then (16) else (16)) else (if t < 18 then (16) else (6))) else (if t < 21 then (if t < 20 then (64) else (16)) else (if t < 22 then (16) else (3)))) else (if t < 27 then (if t < 25 then (if t < 24 then (300) else (300)) else (if t < 26 then (300) else (300))) else (if t < 29 then (if t < 28 then (300) else (1200)) else (if t < 30 then (160) else (160)))))) else (if t < 47 then (if t < 39 then (if t < 35 then (if t < 33 then (if t < 32 then (160) else (160)) else (if t < 34 then (40) else (1344))) else (if t < 37 then (if t < 36 then (336) else (336)) else (if t < 38 then (21) else (21)))) else (if t < 43 then (if t < 41 then (if t < 40 then (21) else (63)) else (if t < 42 then (840) else (21))) else (if t < 45 then (if t < 44 then (84) else (1200)) else (if t < 46 then (300) else (300))))) else (if t < 55 then (if t < 51 then (if t < 49 then (if t < 48 then (300) else (300)) else (if t < 50 then (300) else (300))) else (if t < 53 then (if t < 52 then (40) else (40)) else (if t < 54 then (40) else (40)))) else (if t < 59 then (if t < 57 then (if t < 56 then (16) else (16)) else (if t < 58 then (16) else (16))) else (if t < 61 then (if t < 60 then (16) else (16)) else (if t < 62 then (48) else (0))))))
def xkc (t : Nat) : Nat := if t < 31 then (if t < 15 then (if t < 7 then (if t < 3 then (if t < 1 then (0) else (if t < 2 then (0) else (8))) else (if t < 5 then (if t < 4 then (0) else (1)) else (if t < 6 then (5) else (4)))) else (if t < 11 then (if t < 9 then (if t < 8 then (3) else (2)) else (if t < 10 then (6) else (6))) else (if t < 13 then (if t < 12 then (0) else (7)) else (if t < 14 then (7) else (7))))) else (if t < 23 then (if t < 19 then (if t < 17 then (if t < 16 then (0) else (0)) else (if t < 18 then (7) else (7))) else (if t < 21 then (if t < 20 then (0) else (0)) else (if t < 22 then (0) else (0)))) else (if t < 27 then (if t < 25 then (if t < 24 then (0) else (0)) else (if t < 26 then (0) else (0))) else (if t < 29 then (if t < 28 then (0) else (0)) else (if t < 30 then (0) else (0)))))) else (if t < 47 then (if t < 39 then (if t < 35 then (if t < 33 then (if t < 32 then (0) else (0)) else (if t < 34 then (0) else (0))) else (if t < 37 then (if t < 36 then (0) else (0)) else (if t < 38 then (0) else (0)))) else (if t < 43 then (if t < 41 then (if t < 40 then (0) else (0)) else (if t < 42 then (0) else (0))) else (if t < 45 then (if t < 44 then (0) else (0)) else (if t < 46 then (0) else (0))))) else (if t < 55 then (if t < 51 then (if t < 49 then (if t < 48 then (0) else (0)) else (if t < 50 then (0) else (0))) else (if t < 53 then (if t < 52 then (0) else (0)) else (if t < 54 then (0) else (0)))) else (if t < 59 then (if t < 57 then (if t < 56 then (0) else (0)) else (if t < 58 then (0) else (0))) else (if t < 61 then (if t < 60 then (0) else (0)) else (if t < 62 then (0) else (0))))))
def xst (ci k : Nat) : Nat := if ci < 4 then (if ci < 2 then (if ci < 1 then ((if k < 4 then (if k < 2 then (if k < 1 then (1) else (1)) else (if k < 3 then (1) else (1))) else (if k < 6 then (if k < 5 then (1) else (1)) else (if k < 7 then (0) else (0))))) else ((if k < 3 then (if k < 1 then (1) else (if k < 2 then (0) else (1))) else (if k < 5 then (if k < 4 then (0) else (0)) else (if k < 6 then (0) else (0)))))) else (if ci < 3 then ((if k < 2 then (if k < 1 then (1) else (1)) else (if k < 3 then (1) else (1)))) else ((if k < 3 then (if k < 1 then (1) else (if k < 2 then (1) else (1))) else (if k < 4 then (1) else (if k < 5 then (1) else (1))))))) else (if ci < 6 then (if ci < 5 then ((if k < 1 then (0) else (if k < 2 then (0) else (0)))) else ((if k < 2 then (if k < 1 then (0) else (1)) else (if k < 3 then (1) else (if k < 4 then (1) else (1)))))) else (if ci < 7 then ((if k < 6 then (if k < 3 then (if k < 1 then (0) else (if k < 2 then (1) else (1))) else (if k < 4 then (1) else (if k < 5 then (1) else (0)))) else (if k < 9 then (if k < 7 then (0) else (if k < 8 then (0) else (0))) else (if k < 11 then (if k < 10 then (0) else (0)) else (if k < 12 then (0) else (0)))))) else (if ci < 8 then ((if k < 3 then (if k < 1 then (0) else (if k < 2 then (0) else (0))) else (if k < 4 then (0) else (if k < 5 then (0) else (0))))) else ((if k < 17 then (if k < 8 then (if k < 4 then (if k < 2 then (if k < 1 then (0) else (1)) else (if k < 3 then (0) else (0))) else (if k < 6 then (if k < 5 then (2) else (0)) else (if k < 7 then (1) else (1)))) else (if k < 12 then (if k < 10 then (if k < 9 then (1) else (1)) else (if k < 11 then (1) else (1))) else (if k < 14 then (if k < 13 then (1) else (1)) else (if k < 15 then (1) else (if k < 16 then (1) else (1)))))) else (if k < 26 then (if k < 21 then (if k < 19 then (if k < 18 then (1) else (1)) else (if k < 20 then (1) else (1))) else (if k < 23 then (if k < 22 then (1) else (1)) else (if k < 24 then (0) else (if k < 25 then (1) else (1))))) else (if k < 30 then (if k < 28 then (if k < 27 then (1) else (1)) else (if k < 29 then (1) else (1))) else (if k < 32 then (if k < 31 then (1) else (1)) else (if k < 33 then (1) else (if k < 34 then (1) else (1)))))))))))
def xka (ci : Nat) : Nat := if ci = 7 then 3 else 4
def xtys (K : Nat → ClassId) : List (ClassId × FieldType) := [(K 0, .int), (K 1, .boolean), (K 2, .long), (K 3, .object CR7), (K 4, .object CR6)]
theorem xkn_ok : ∀ t, xkt t = 0 → (xcl[xkc t]?).map (fun r => r.2.2) = some (xkn t) := by
  intro t h
  by_cases ht : t < 62
  · revert h; revert t; decide +kernel
  · exfalso; revert h; unfold xkt; have h1 : 62 ≤ t := by omega
    repeat (rw [if_neg (by omega)])
    decide
theorem xkc_arr : ∀ t, xkt t = 4 → xkc t = 7 ∨ xkc t = 6 := by
  intro t h
  by_cases ht : t < 62
  · revert h; revert t; decide +kernel
  · exfalso; revert h; unfold xkt; have h1 : 62 ≤ t := by omega
    repeat (rw [if_neg (by omega)])
    decide
theorem xka_ok (K : Nat → ClassId) (ci : Nat) (h : ci = 7 ∨ ci = 6) : ∃ C, (xtys K)[xka ci]? = some (K (xka ci), .object C) := by
  rcases h with rfl | rfl
  · exact ⟨CR7, rfl⟩
  · exact ⟨CR6, rfl⟩
theorem xka_cl (K : Nat → ClassId) (ci : Nat) (h : ci = 7 ∨ ci = 6) : ∃ r : vw_C, xcl[ci]? = some r ∧ (xtys K)[xka ci]? = some (K (xka ci), .object r.1) := by
  rcases h with rfl | rfl
  · exact ⟨(CR7, CF7, 6), rfl, rfl⟩
  · exact ⟨(CR6, CF6, 13), rfl, rfl⟩
def CRLaw : String := "ChartKnitterLaw"
def y_CK_init : MethodName := ⟨CR0, "<init>", "()V"⟩
def y_CK_write : MethodName := ⟨CR0, "write", "(J)I"⟩
def y_CK_wipe : MethodName := ⟨CR0, "wipe", "()I"⟩
def y_CK_castOn : MethodName := ⟨CR0, "castOn", "(I)V"⟩
def y_CK_knit : MethodName := ⟨CR0, "knit", "(I)I"⟩
def y_CK_place : MethodName := ⟨CR0, "place", "()I"⟩
def y_CK_ravel : MethodName := ⟨CR0, "ravel", "()I"⟩
def y_CK_number : MethodName := ⟨CR0, "number", "(I)I"⟩
def y_CK_program : MethodName := ⟨CR0, "program", "(II)I"⟩
def y_CK_parent : MethodName := ⟨CR0, "parent", "(II)I"⟩
def y_CK_loop : MethodName := ⟨CR0, "loop", "(II)I"⟩
def y_CK_cross : MethodName := ⟨CR0, "cross", "(II)I"⟩
def y_CK_live : MethodName := ⟨CR0, "live", "(II)I"⟩
def y_CK_bed : MethodName := ⟨CR0, "bed", "(I)I"⟩
def y_CK_side : MethodName := ⟨CR0, "side", "(I)I"⟩
def y_CK_isKnitted : MethodName := ⟨CR0, "isKnitted", "(I)Z"⟩
def y_CK_isLoop : MethodName := ⟨CR0, "isLoop", "(I)Z"⟩
def y_CK_isCarrier : MethodName := ⟨CR0, "isCarrier", "(I)Z"⟩
def y_CK_byteOf : MethodName := ⟨CR0, "byteOf", "(JI)I"⟩
def y_CK_endOf : MethodName := ⟨CR0, "endOf", "(I)I"⟩
def y_CK_faultOfChart : MethodName := ⟨CR0, "faultOfChart", "()I"⟩
def y_CK_faultOfRow : MethodName := ⟨CR0, "faultOfRow", "(I)I"⟩
def y_CK_knitNextRow : MethodName := ⟨CR0, "knitNextRow", "(I)V"⟩
def y_CK_release : MethodName := ⟨CR0, "release", "(LChartKnitter$Row;LChartKnitter$Row;)V"⟩
def y_CK_bringToGoals : MethodName := ⟨CR0, "bringToGoals", "(LChartKnitter$Row;LChartKnitter$Row;Z)V"⟩
def y_CK_noteCrossings : MethodName := ⟨CR0, "noteCrossings", "(LChartKnitter$Row;LChartKnitter$Row;)V"⟩
def y_CK_makeLoops : MethodName := ⟨CR0, "makeLoops", "(LChartKnitter$Row;LChartKnitter$Row;I)V"⟩
def y_CK_drawThrough : MethodName := ⟨CR0, "drawThrough", "(LChartKnitter$Row;II)V"⟩
def y_Chart_init : MethodName := ⟨CR1, "<init>", "()V"⟩
def y_Chart_read : MethodName := ⟨CR1, "read", "()I"⟩
def y_Chart_digitAt : MethodName := ⟨CR1, "digitAt", "(I)I"⟩
def y_Chart_add : MethodName := ⟨CR1, "add", "(IZ)V"⟩
def y_Chart_placeOfOverfull : MethodName := ⟨CR1, "placeOfOverfull", "(LChartKnitter$Row;)I"⟩
def y_Crossings_init : MethodName := ⟨CR2, "<init>", "()V"⟩
def y_Crossings_note : MethodName := ⟨CR2, "note", "(ILChartKnitter$Stitch;)V"⟩
def y_Crossings_pairs : MethodName := ⟨CR2, "pairs", "(ILChartKnitter$Row;)I"⟩
def y_Crossings_pairAt : MethodName := ⟨CR2, "pairAt", "(ILChartKnitter$Row;I)I"⟩
def y_Crossings_loopsIn : MethodName := ⟨CR2, "loopsIn", "(LChartKnitter$Row;II)I"⟩
def y_Crossings_loopIn : MethodName := ⟨CR2, "loopIn", "(LChartKnitter$Row;III)I"⟩
def y_Loops_init : MethodName := ⟨CR3, "<init>", "()V"⟩
def y_Loops_make : MethodName := ⟨CR3, "make", "(IIIII)V"⟩
def y_Machine_init : MethodName := ⟨CR4, "<init>", "()V"⟩
def y_Machine_run : MethodName := ⟨CR4, "run", "(LChartKnitter$Plan;LChartKnitter$Row;)V"⟩
def y_Machine_clearFront : MethodName := ⟨CR4, "clearFront", "(LChartKnitter$Plan;LChartKnitter$Row;)V"⟩
def y_Machine_moveToGoals : MethodName := ⟨CR4, "moveToGoals", "(LChartKnitter$Plan;Z)V"⟩
def y_Machine_fillBack : MethodName := ⟨CR4, "fillBack", "(LChartKnitter$Plan;LChartKnitter$Row;)V"⟩
def y_Machine_changeBeds : MethodName := ⟨CR4, "changeBeds", "(LChartKnitter$Plan;LChartKnitter$Row;)V"⟩
def y_Machine_transfer : MethodName := ⟨CR4, "transfer", "(I)V"⟩
def y_Machine_rackTo : MethodName := ⟨CR4, "rackTo", "(I)V"⟩
def y_Plan_init : MethodName := ⟨CR5, "<init>", "()V"⟩
def y_Plan_make : MethodName := ⟨CR5, "make", "(LChartKnitter$Chart;)V"⟩
def y_Plan_placeOfTooFar : MethodName := ⟨CR5, "placeOfTooFar", "()I"⟩
def y_Plan_movesColumns : MethodName := ⟨CR5, "movesColumns", "()Z"⟩
def y_Row_init : MethodName := ⟨CR6, "<init>", "()V"⟩
def y_Row_begin : MethodName := ⟨CR6, "begin", "(I)V"⟩
def y_Row_hasColumn : MethodName := ⟨CR6, "hasColumn", "(I)Z"⟩
def y_Row_loopAt : MethodName := ⟨CR6, "loopAt", "(II)I"⟩
def y_Row_push : MethodName := ⟨CR6, "push", "(II)V"⟩
def y_Stitch_init : MethodName := ⟨CR7, "<init>", "()V"⟩
def y_Stitch_isSign : MethodName := ⟨CR7, "isSign", "(I)Z"⟩
def y_Stitch_isCrossingSign : MethodName := ⟨CR7, "isCrossingSign", "(I)Z"⟩
def y_Stitch_isCrossing : MethodName := ⟨CR7, "isCrossing", "()Z"⟩
def y_Stitch_takes : MethodName := ⟨CR7, "takes", "()I"⟩
def y_Stitch_gives : MethodName := ⟨CR7, "gives", "()I"⟩
def y_Stitch_makesLoop : MethodName := ⟨CR7, "makesLoop", "()Z"⟩
def y_Stitch_keepsStack : MethodName := ⟨CR7, "keepsStack", "()Z"⟩
def y_Stitch_goalOf : MethodName := ⟨CR7, "goalOf", "(I)I"⟩
def y_Stitch_isLate : MethodName := ⟨CR7, "isLate", "(I)Z"⟩
def y_Stitch_bedNeeded : MethodName := ⟨CR7, "bedNeeded", "(LChartKnitter$Row;)I"⟩
def y_Model_init : MethodName := ⟨CR8, "<init>", "()V"⟩
def y_Model_thrown : MethodName := ⟨CR8, "thrown", "()I"⟩
def y_Model_write : MethodName := ⟨CR8, "write", "(J)I"⟩
def y_Model_wipe : MethodName := ⟨CR8, "wipe", "()I"⟩
def y_Model_isPlain : MethodName := ⟨CR8, "isPlain", "(I)Z"⟩
def y_Model_isFigure : MethodName := ⟨CR8, "isFigure", "(I)Z"⟩
def y_Model_parse : MethodName := ⟨CR8, "parse", "([III)I"⟩
def y_Model_takes : MethodName := ⟨CR8, "takes", "(I)I"⟩
def y_Model_gives : MethodName := ⟨CR8, "gives", "(I)I"⟩
def y_Model_fault : MethodName := ⟨CR8, "fault", "(II)I"⟩
def y_Model_size : MethodName := ⟨CR8, "size", "(I)I"⟩
def y_Model_crowded : MethodName := ⟨CR8, "crowded", "()I"⟩
def y_Model_take : MethodName := ⟨CR8, "take", "(IIIZI)V"⟩
def y_Model_give : MethodName := ⟨CR8, "give", "(III)V"⟩
def y_Model_join : MethodName := ⟨CR8, "join", "(III)V"⟩
def y_Model_cable : MethodName := ⟨CR8, "cable", "(III)V"⟩
def y_Model_plan : MethodName := ⟨CR8, "plan", "()V"⟩
def y_Model_areMoved : MethodName := ⟨CR8, "areMoved", "()Z"⟩
def y_Model_tooFar : MethodName := ⟨CR8, "tooFar", "()I"⟩
def y_Model_makes : MethodName := ⟨CR8, "makes", "(I)I"⟩
def y_Model_transfers : MethodName := ⟨CR8, "transfers", "()I"⟩
def y_Model_rackings : MethodName := ⟨CR8, "rackings", "()I"⟩
def y_Model_released : MethodName := ⟨CR8, "released", "()I"⟩
def y_Model_make : MethodName := ⟨CR8, "make", "(II)V"⟩
def y_Model_drop : MethodName := ⟨CR8, "drop", "()V"⟩
def y_Model_knitRow : MethodName := ⟨CR8, "knitRow", "(II)V"⟩
def y_Model_knit : MethodName := ⟨CR8, "knit", "(I)I"⟩
def y_Model_place : MethodName := ⟨CR8, "place", "()I"⟩
def y_Model_castOn : MethodName := ⟨CR8, "castOn", "(I)V"⟩
def y_Model_ravel : MethodName := ⟨CR8, "ravel", "()I"⟩
def y_Model_number : MethodName := ⟨CR8, "number", "(I)I"⟩
def y_Model_noRow : MethodName := ⟨CR8, "noRow", "(I)Z"⟩
def y_Model_noLoop : MethodName := ⟨CR8, "noLoop", "(I)Z"⟩
def y_Model_pair : MethodName := ⟨CR8, "pair", "(II)I"⟩
def y_Model_program : MethodName := ⟨CR8, "program", "(II)I"⟩
def y_Model_parent : MethodName := ⟨CR8, "parent", "(II)I"⟩
def y_Model_whereIs : MethodName := ⟨CR8, "whereIs", "(I)I"⟩
def y_Model_loop : MethodName := ⟨CR8, "loop", "(II)I"⟩
def y_Model_cross : MethodName := ⟨CR8, "cross", "(II)I"⟩
def y_Model_live : MethodName := ⟨CR8, "live", "(II)I"⟩
def y_Model_bed : MethodName := ⟨CR8, "bed", "(I)I"⟩
def y_Model_side : MethodName := ⟨CR8, "side", "(I)I"⟩
def y_Law_castOn : MethodName := ⟨CRLaw, "castOn", "(LChartKnitter;I)I"⟩
def y_Law_knit : MethodName := ⟨CRLaw, "knit", "(LChartKnitter;I[J)I"⟩
def y_Law_program : MethodName := ⟨CRLaw, "program", "(LChartKnitter;II[J)I"⟩
def y_Law_parent : MethodName := ⟨CRLaw, "parent", "(LChartKnitter;II[J)I"⟩
def y_Law_loop : MethodName := ⟨CRLaw, "loop", "(LChartKnitter;II[J)I"⟩
def y_Law_cross : MethodName := ⟨CRLaw, "cross", "(LChartKnitter;II[J)I"⟩
def y_Law_law : MethodName := ⟨CRLaw, "law", "([I)Z"⟩
def xyn (y : Nat) : MethodName := if y < 59 then (if y < 29 then (if y < 14 then (if y < 7 then (if y < 3 then (if y < 1 then (y_CK_init) else (if y < 2 then (y_CK_write) else (y_CK_wipe))) else (if y < 5 then (if y < 4 then (y_CK_castOn) else (y_CK_knit)) else (if y < 6 then (y_CK_place) else (y_CK_ravel)))) else (if y < 10 then (if y < 8 then (y_CK_number) else (if y < 9 then (y_CK_program) else (y_CK_parent))) else (if y < 12 then (if y < 11 then (y_CK_loop) else (y_CK_cross)) else (if y < 13 then (y_CK_live) else (y_CK_bed))))) else (if y < 21 then (if y < 17 then (if y < 15 then (y_CK_side) else (if y < 16 then (y_CK_isKnitted) else (y_CK_isLoop))) else (if y < 19 then (if y < 18 then (y_CK_isCarrier) else (y_CK_byteOf)) else (if y < 20 then (y_CK_endOf) else (y_CK_faultOfChart)))) else (if y < 25 then (if y < 23 then (if y < 22 then (y_CK_faultOfRow) else (y_CK_knitNextRow)) else (if y < 24 then (y_CK_release) else (y_CK_bringToGoals))) else (if y < 27 then (if y < 26 then (y_CK_noteCrossings) else (y_CK_makeLoops)) else (if y < 28 then (y_CK_drawThrough) else (y_Chart_init)))))) else (if y < 44 then (if y < 36 then (if y < 32 then (if y < 30 then (y_Chart_read) else (if y < 31 then (y_Chart_digitAt) else (y_Chart_add))) else (if y < 34 then (if y < 33 then (y_Chart_placeOfOverfull) else (y_Crossings_init)) else (if y < 35 then (y_Crossings_note) else (y_Crossings_pairs)))) else (if y < 40 then (if y < 38 then (if y < 37 then (y_Crossings_pairAt) else (y_Crossings_loopsIn)) else (if y < 39 then (y_Crossings_loopIn) else (y_Loops_init))) else (if y < 42 then (if y < 41 then (y_Loops_make) else (y_Machine_init)) else (if y < 43 then (y_Machine_run) else (y_Machine_clearFront))))) else (if y < 51 then (if y < 47 then (if y < 45 then (y_Machine_moveToGoals) else (if y < 46 then (y_Machine_fillBack) else (y_Machine_changeBeds))) else (if y < 49 then (if y < 48 then (y_Machine_transfer) else (y_Machine_rackTo)) else (if y < 50 then (y_Plan_init) else (y_Plan_make)))) else (if y < 55 then (if y < 53 then (if y < 52 then (y_Plan_placeOfTooFar) else (y_Plan_movesColumns)) else (if y < 54 then (y_Row_init) else (y_Row_begin))) else (if y < 57 then (if y < 56 then (y_Row_hasColumn) else (y_Row_loopAt)) else (if y < 58 then (y_Row_push) else (y_Stitch_init))))))) else (if y < 89 then (if y < 74 then (if y < 66 then (if y < 62 then (if y < 60 then (y_Stitch_isSign) else (if y < 61 then (y_Stitch_isCrossingSign) else (y_Stitch_isCrossing))) else (if y < 64 then (if y < 63 then (y_Stitch_takes) else (y_Stitch_gives)) else (if y < 65 then (y_Stitch_makesLoop) else (y_Stitch_keepsStack)))) else (if y < 70 then (if y < 68 then (if y < 67 then (y_Stitch_goalOf) else (y_Stitch_isLate)) else (if y < 69 then (y_Stitch_bedNeeded) else (y_Model_init))) else (if y < 72 then (if y < 71 then (y_Model_thrown) else (y_Model_write)) else (if y < 73 then (y_Model_wipe) else (y_Model_isPlain))))) else (if y < 81 then (if y < 77 then (if y < 75 then (y_Model_isFigure) else (if y < 76 then (y_Model_parse) else (y_Model_takes))) else (if y < 79 then (if y < 78 then (y_Model_gives) else (y_Model_fault)) else (if y < 80 then (y_Model_size) else (y_Model_crowded)))) else (if y < 85 then (if y < 83 then (if y < 82 then (y_Model_take) else (y_Model_give)) else (if y < 84 then (y_Model_join) else (y_Model_cable))) else (if y < 87 then (if y < 86 then (y_Model_plan) else (y_Model_areMoved)) else (if y < 88 then (y_Model_tooFar) else (y_Model_makes)))))) else (if y < 104 then (if y < 96 then (if y < 92 then (if y < 90 then (y_Model_transfers) else (if y < 91 then (y_Model_rackings) else (y_Model_released))) else (if y < 94 then (if y < 93 then (y_Model_make) else (y_Model_drop)) else (if y < 95 then (y_Model_knitRow) else (y_Model_knit)))) else (if y < 100 then (if y < 98 then (if y < 97 then (y_Model_place) else (y_Model_castOn)) else (if y < 99 then (y_Model_ravel) else (y_Model_number))) else (if y < 102 then (if y < 101 then (y_Model_noRow) else (y_Model_noLoop)) else (if y < 103 then (y_Model_pair) else (y_Model_program))))) else (if y < 111 then (if y < 107 then (if y < 105 then (y_Model_parent) else (if y < 106 then (y_Model_whereIs) else (y_Model_loop))) else (if y < 109 then (if y < 108 then (y_Model_cross) else (y_Model_live)) else (if y < 110 then (y_Model_bed) else (y_Model_side)))) else (if y < 115 then (if y < 113 then (if y < 112 then (y_Law_castOn) else (y_Law_knit)) else (if y < 114 then (y_Law_program) else (y_Law_parent))) else (if y < 117 then (if y < 116 then (y_Law_loop) else (y_Law_cross)) else (if y < 118 then (y_Law_law) else (y_CK_init)))))))
def xby (y : Nat) : ByteArray := if y < 59 then (if y < 29 then (if y < 14 then (if y < 7 then (if y < 3 then (if y < 1 then (prog_1_method_1_code) else (if y < 2 then (prog_1_method_2_code) else (prog_1_method_3_code))) else (if y < 5 then (if y < 4 then (prog_1_method_4_code) else (prog_1_method_5_code)) else (if y < 6 then (prog_1_method_6_code) else (prog_1_method_7_code)))) else (if y < 10 then (if y < 8 then (prog_1_method_8_code) else (if y < 9 then (prog_1_method_9_code) else (prog_1_method_10_code))) else (if y < 12 then (if y < 11 then (prog_1_method_11_code) else (prog_1_method_12_code)) else (if y < 13 then (prog_1_method_13_code) else (prog_1_method_14_code))))) else (if y < 21 then (if y < 17 then (if y < 15 then (prog_1_method_15_code) else (if y < 16 then (prog_1_method_16_code) else (prog_1_method_17_code))) else (if y < 19 then (if y < 18 then (prog_1_method_18_code) else (prog_1_method_19_code)) else (if y < 20 then (prog_1_method_20_code) else (prog_1_method_21_code)))) else (if y < 25 then (if y < 23 then (if y < 22 then (prog_1_method_22_code) else (prog_1_method_23_code)) else (if y < 24 then (prog_1_method_24_code) else (prog_1_method_25_code))) else (if y < 27 then (if y < 26 then (prog_1_method_26_code) else (prog_1_method_27_code)) else (if y < 28 then (prog_1_method_28_code) else (prog_2_method_1_code)))))) else (if y < 44 then (if y < 36 then (if y < 32 then (if y < 30 then (prog_2_method_2_code) else (if y < 31 then (prog_2_method_3_code) else (prog_2_method_4_code))) else (if y < 34 then (if y < 33 then (prog_2_method_5_code) else (prog_3_method_1_code)) else (if y < 35 then (prog_3_method_2_code) else (prog_3_method_3_code)))) else (if y < 40 then (if y < 38 then (if y < 37 then (prog_3_method_4_code) else (prog_3_method_5_code)) else (if y < 39 then (prog_3_method_6_code) else (prog_4_method_1_code))) else (if y < 42 then (if y < 41 then (prog_4_method_2_code) else (prog_5_method_1_code)) else (if y < 43 then (prog_5_method_2_code) else (prog_5_method_3_code))))) else (if y < 51 then (if y < 47 then (if y < 45 then (prog_5_method_4_code) else (if y < 46 then (prog_5_method_5_code) else (prog_5_method_6_code))) else (if y < 49 then (if y < 48 then (prog_5_method_7_code) else (prog_5_method_8_code)) else (if y < 50 then (prog_6_method_1_code) else (prog_6_method_2_code)))) else (if y < 55 then (if y < 53 then (if y < 52 then (prog_6_method_3_code) else (prog_6_method_4_code)) else (if y < 54 then (prog_7_method_1_code) else (prog_7_method_2_code))) else (if y < 57 then (if y < 56 then (prog_7_method_3_code) else (prog_7_method_4_code)) else (if y < 58 then (prog_7_method_5_code) else (prog_8_method_1_code))))))) else (if y < 89 then (if y < 74 then (if y < 66 then (if y < 62 then (if y < 60 then (prog_8_method_2_code) else (if y < 61 then (prog_8_method_3_code) else (prog_8_method_4_code))) else (if y < 64 then (if y < 63 then (prog_8_method_5_code) else (prog_8_method_6_code)) else (if y < 65 then (prog_8_method_7_code) else (prog_8_method_8_code)))) else (if y < 70 then (if y < 68 then (if y < 67 then (prog_8_method_9_code) else (prog_8_method_10_code)) else (if y < 69 then (prog_8_method_11_code) else (prog_10_method_1_code))) else (if y < 72 then (if y < 71 then (prog_10_method_2_code) else (prog_10_method_3_code)) else (if y < 73 then (prog_10_method_4_code) else (prog_10_method_5_code))))) else (if y < 81 then (if y < 77 then (if y < 75 then (prog_10_method_6_code) else (if y < 76 then (prog_10_method_7_code) else (prog_10_method_8_code))) else (if y < 79 then (if y < 78 then (prog_10_method_9_code) else (prog_10_method_10_code)) else (if y < 80 then (prog_10_method_11_code) else (prog_10_method_12_code)))) else (if y < 85 then (if y < 83 then (if y < 82 then (prog_10_method_13_code) else (prog_10_method_14_code)) else (if y < 84 then (prog_10_method_15_code) else (prog_10_method_16_code))) else (if y < 87 then (if y < 86 then (prog_10_method_17_code) else (prog_10_method_18_code)) else (if y < 88 then (prog_10_method_19_code) else (prog_10_method_20_code)))))) else (if y < 104 then (if y < 96 then (if y < 92 then (if y < 90 then (prog_10_method_21_code) else (if y < 91 then (prog_10_method_22_code) else (prog_10_method_23_code))) else (if y < 94 then (if y < 93 then (prog_10_method_24_code) else (prog_10_method_25_code)) else (if y < 95 then (prog_10_method_26_code) else (prog_10_method_27_code)))) else (if y < 100 then (if y < 98 then (if y < 97 then (prog_10_method_28_code) else (prog_10_method_29_code)) else (if y < 99 then (prog_10_method_30_code) else (prog_10_method_31_code))) else (if y < 102 then (if y < 101 then (prog_10_method_32_code) else (prog_10_method_33_code)) else (if y < 103 then (prog_10_method_34_code) else (prog_10_method_35_code))))) else (if y < 111 then (if y < 107 then (if y < 105 then (prog_10_method_36_code) else (if y < 106 then (prog_10_method_37_code) else (prog_10_method_38_code))) else (if y < 109 then (if y < 108 then (prog_10_method_39_code) else (prog_10_method_40_code)) else (if y < 110 then (prog_10_method_41_code) else (prog_10_method_42_code)))) else (if y < 115 then (if y < 113 then (if y < 112 then (method_3_code) else (method_4_code)) else (if y < 114 then (method_5_code) else (method_6_code))) else (if y < 117 then (if y < 116 then (method_7_code) else (method_8_code)) else (if y < 118 then (code) else (code)))))))
def xml (y : Nat) : Nat := if y < 59 then (if y < 29 then (if y < 14 then (if y < 7 then (if y < 3 then (if y < 1 then (2) else (if y < 2 then (6) else (2))) else (if y < 5 then (if y < 4 then (4) else (3)) else (if y < 6 then (1) else (4)))) else (if y < 10 then (if y < 8 then (3) else (if y < 9 then (4) else (3))) else (if y < 12 then (if y < 11 then (3) else (7)) else (if y < 13 then (4) else (3))))) else (if y < 21 then (if y < 17 then (if y < 15 then (2) else (if y < 16 then (2) else (2))) else (if y < 19 then (if y < 18 then (1) else (3)) else (if y < 20 then (1) else (5)))) else (if y < 25 then (if y < 23 then (if y < 22 then (3) else (5)) else (if y < 24 then (5) else (8))) else (if y < 27 then (if y < 26 then (4) else (8)) else (if y < 28 then (6) else (2)))))) else (if y < 44 then (if y < 36 then (if y < 32 then (if y < 30 then (3) else (if y < 31 then (2) else (4))) else (if y < 34 then (if y < 33 then (6) else (1)) else (if y < 35 then (3) else (3)))) else (if y < 40 then (if y < 38 then (if y < 37 then (8) else (5)) else (if y < 39 then (6) else (1))) else (if y < 42 then (if y < 41 then (7) else (1)) else (if y < 43 then (3) else (4))))) else (if y < 51 then (if y < 47 then (if y < 45 then (4) else (if y < 46 then (4) else (4))) else (if y < 49 then (if y < 48 then (2) else (2)) else (if y < 50 then (3) else (6)))) else (if y < 55 then (if y < 53 then (if y < 52 then (2) else (2)) else (if y < 54 then (1) else (3))) else (if y < 57 then (if y < 56 then (2) else (3)) else (if y < 58 then (3) else (1))))))) else (if y < 89 then (if y < 74 then (if y < 66 then (if y < 62 then (if y < 60 then (1) else (if y < 61 then (1) else (1))) else (if y < 64 then (if y < 63 then (1) else (1)) else (if y < 65 then (1) else (1)))) else (if y < 70 then (if y < 68 then (if y < 67 then (3) else (3)) else (if y < 69 then (2) else (1))) else (if y < 72 then (if y < 71 then (1) else (6)) else (if y < 73 then (2) else (1))))) else (if y < 81 then (if y < 77 then (if y < 75 then (1) else (if y < 76 then (7) else (2))) else (if y < 79 then (if y < 78 then (2) else (3)) else (if y < 80 then (2) else (6)))) else (if y < 85 then (if y < 83 then (if y < 82 then (6) else (4)) else (if y < 84 then (6) else (8))) else (if y < 87 then (if y < 86 then (5) else (3)) else (if y < 88 then (2) else (4)))))) else (if y < 104 then (if y < 96 then (if y < 92 then (if y < 90 then (6) else (if y < 91 then (6) else (3))) else (if y < 94 then (if y < 93 then (13) else (4)) else (if y < 95 then (5) else (6)))) else (if y < 100 then (if y < 98 then (if y < 97 then (1) else (3)) else (if y < 99 then (2) else (2))) else (if y < 102 then (if y < 101 then (2) else (2)) else (if y < 103 then (13) else (3))))) else (if y < 111 then (if y < 107 then (if y < 105 then (3) else (if y < 106 then (4) else (3))) else (if y < 109 then (if y < 108 then (3) else (4)) else (if y < 110 then (2) else (2)))) else (if y < 115 then (if y < 113 then (if y < 112 then (3) else (4)) else (if y < 114 then (5) else (5))) else (if y < 117 then (if y < 116 then (5) else (5)) else (if y < 118 then (7) else (0)))))))
def xrty (y : Nat) : Option FieldType := if y < 59 then (if y < 29 then (if y < 14 then (if y < 7 then (if y < 3 then (if y < 1 then (none) else (if y < 2 then ((some .int)) else ((some .int)))) else (if y < 5 then (if y < 4 then (none) else ((some .int))) else (if y < 6 then ((some .int)) else ((some .int))))) else (if y < 10 then (if y < 8 then ((some .int)) else (if y < 9 then ((some .int)) else ((some .int)))) else (if y < 12 then (if y < 11 then ((some .int)) else ((some .int))) else (if y < 13 then ((some .int)) else ((some .int)))))) else (if y < 21 then (if y < 17 then (if y < 15 then ((some .int)) else (if y < 16 then ((some .boolean)) else ((some .boolean)))) else (if y < 19 then (if y < 18 then ((some .boolean)) else ((some .int))) else (if y < 20 then ((some .int)) else ((some .int))))) else (if y < 25 then (if y < 23 then (if y < 22 then ((some .int)) else (none)) else (if y < 24 then (none) else (none))) else (if y < 27 then (if y < 26 then (none) else (none)) else (if y < 28 then (none) else (none)))))) else (if y < 44 then (if y < 36 then (if y < 32 then (if y < 30 then ((some .int)) else (if y < 31 then ((some .int)) else (none))) else (if y < 34 then (if y < 33 then ((some .int)) else (none)) else (if y < 35 then (none) else ((some .int))))) else (if y < 40 then (if y < 38 then (if y < 37 then ((some .int)) else ((some .int))) else (if y < 39 then ((some .int)) else (none))) else (if y < 42 then (if y < 41 then (none) else (none)) else (if y < 43 then (none) else (none))))) else (if y < 51 then (if y < 47 then (if y < 45 then (none) else (if y < 46 then (none) else (none))) else (if y < 49 then (if y < 48 then (none) else (none)) else (if y < 50 then (none) else (none)))) else (if y < 55 then (if y < 53 then (if y < 52 then ((some .int)) else ((some .boolean))) else (if y < 54 then (none) else (none))) else (if y < 57 then (if y < 56 then ((some .boolean)) else ((some .int))) else (if y < 58 then (none) else (none))))))) else (if y < 89 then (if y < 74 then (if y < 66 then (if y < 62 then (if y < 60 then ((some .boolean)) else (if y < 61 then ((some .boolean)) else ((some .boolean)))) else (if y < 64 then (if y < 63 then ((some .int)) else ((some .int))) else (if y < 65 then ((some .boolean)) else ((some .boolean))))) else (if y < 70 then (if y < 68 then (if y < 67 then ((some .int)) else ((some .boolean))) else (if y < 69 then ((some .int)) else (none))) else (if y < 72 then (if y < 71 then ((some .int)) else ((some .int))) else (if y < 73 then ((some .int)) else ((some .boolean)))))) else (if y < 81 then (if y < 77 then (if y < 75 then ((some .boolean)) else (if y < 76 then ((some .int)) else ((some .int)))) else (if y < 79 then (if y < 78 then ((some .int)) else ((some .int))) else (if y < 80 then ((some .int)) else ((some .int))))) else (if y < 85 then (if y < 83 then (if y < 82 then (none) else (none)) else (if y < 84 then (none) else (none))) else (if y < 87 then (if y < 86 then (none) else ((some .boolean))) else (if y < 88 then ((some .int)) else ((some .int))))))) else (if y < 104 then (if y < 96 then (if y < 92 then (if y < 90 then ((some .int)) else (if y < 91 then ((some .int)) else ((some .int)))) else (if y < 94 then (if y < 93 then (none) else (none)) else (if y < 95 then (none) else ((some .int))))) else (if y < 100 then (if y < 98 then (if y < 97 then ((some .int)) else (none)) else (if y < 99 then ((some .int)) else ((some .int)))) else (if y < 102 then (if y < 101 then ((some .boolean)) else ((some .boolean))) else (if y < 103 then ((some .int)) else ((some .int)))))) else (if y < 111 then (if y < 107 then (if y < 105 then ((some .int)) else (if y < 106 then ((some .int)) else ((some .int)))) else (if y < 109 then (if y < 108 then ((some .int)) else ((some .int))) else (if y < 110 then ((some .int)) else ((some .int))))) else (if y < 115 then (if y < 113 then (if y < 112 then ((some .int)) else ((some .int))) else (if y < 114 then ((some .int)) else ((some .int)))) else (if y < 117 then (if y < 116 then ((some .int)) else ((some .int))) else (if y < 118 then ((some .boolean)) else (none)))))))
def xrt (y : Nat) : Nat := if y < 59 then (if y < 29 then (if y < 14 then (if y < 7 then (if y < 3 then (if y < 1 then (0) else (if y < 2 then (1) else (1))) else (if y < 5 then (if y < 4 then (0) else (1)) else (if y < 6 then (1) else (1)))) else (if y < 10 then (if y < 8 then (1) else (if y < 9 then (1) else (1))) else (if y < 12 then (if y < 11 then (1) else (1)) else (if y < 13 then (1) else (1))))) else (if y < 21 then (if y < 17 then (if y < 15 then (1) else (if y < 16 then (2) else (2))) else (if y < 19 then (if y < 18 then (2) else (1)) else (if y < 20 then (1) else (1)))) else (if y < 25 then (if y < 23 then (if y < 22 then (1) else (0)) else (if y < 24 then (0) else (0))) else (if y < 27 then (if y < 26 then (0) else (0)) else (if y < 28 then (0) else (0)))))) else (if y < 44 then (if y < 36 then (if y < 32 then (if y < 30 then (1) else (if y < 31 then (1) else (0))) else (if y < 34 then (if y < 33 then (1) else (0)) else (if y < 35 then (0) else (1)))) else (if y < 40 then (if y < 38 then (if y < 37 then (1) else (1)) else (if y < 39 then (1) else (0))) else (if y < 42 then (if y < 41 then (0) else (0)) else (if y < 43 then (0) else (0))))) else (if y < 51 then (if y < 47 then (if y < 45 then (0) else (if y < 46 then (0) else (0))) else (if y < 49 then (if y < 48 then (0) else (0)) else (if y < 50 then (0) else (0)))) else (if y < 55 then (if y < 53 then (if y < 52 then (1) else (2)) else (if y < 54 then (0) else (0))) else (if y < 57 then (if y < 56 then (2) else (1)) else (if y < 58 then (0) else (0))))))) else (if y < 89 then (if y < 74 then (if y < 66 then (if y < 62 then (if y < 60 then (2) else (if y < 61 then (2) else (2))) else (if y < 64 then (if y < 63 then (1) else (1)) else (if y < 65 then (2) else (2)))) else (if y < 70 then (if y < 68 then (if y < 67 then (1) else (2)) else (if y < 69 then (1) else (0))) else (if y < 72 then (if y < 71 then (1) else (1)) else (if y < 73 then (1) else (2))))) else (if y < 81 then (if y < 77 then (if y < 75 then (2) else (if y < 76 then (1) else (1))) else (if y < 79 then (if y < 78 then (1) else (1)) else (if y < 80 then (1) else (1)))) else (if y < 85 then (if y < 83 then (if y < 82 then (0) else (0)) else (if y < 84 then (0) else (0))) else (if y < 87 then (if y < 86 then (0) else (2)) else (if y < 88 then (1) else (1)))))) else (if y < 104 then (if y < 96 then (if y < 92 then (if y < 90 then (1) else (if y < 91 then (1) else (1))) else (if y < 94 then (if y < 93 then (0) else (0)) else (if y < 95 then (0) else (1)))) else (if y < 100 then (if y < 98 then (if y < 97 then (1) else (0)) else (if y < 99 then (1) else (1))) else (if y < 102 then (if y < 101 then (2) else (2)) else (if y < 103 then (1) else (1))))) else (if y < 111 then (if y < 107 then (if y < 105 then (1) else (if y < 106 then (1) else (1))) else (if y < 109 then (if y < 108 then (1) else (1)) else (if y < 110 then (1) else (1)))) else (if y < 115 then (if y < 113 then (if y < 112 then (1) else (1)) else (if y < 114 then (1) else (1))) else (if y < 117 then (if y < 116 then (1) else (1)) else (if y < 118 then (2) else (0)))))))
def xmn (y : Nat) : Nat := if y < 59 then (if y < 29 then (if y < 14 then (if y < 7 then (if y < 3 then (if y < 1 then (1) else (if y < 2 then (2) else (1))) else (if y < 5 then (if y < 4 then (2) else (2)) else (if y < 6 then (1) else (1)))) else (if y < 10 then (if y < 8 then (2) else (if y < 9 then (3) else (3))) else (if y < 12 then (if y < 11 then (3) else (3)) else (if y < 13 then (3) else (2))))) else (if y < 21 then (if y < 17 then (if y < 15 then (2) else (if y < 16 then (2) else (2))) else (if y < 19 then (if y < 18 then (1) else (2)) else (if y < 20 then (1) else (1)))) else (if y < 25 then (if y < 23 then (if y < 22 then (2) else (2)) else (if y < 24 then (3) else (4))) else (if y < 27 then (if y < 26 then (3) else (4)) else (if y < 28 then (4) else (1)))))) else (if y < 44 then (if y < 36 then (if y < 32 then (if y < 30 then (1) else (if y < 31 then (2) else (3))) else (if y < 34 then (if y < 33 then (2) else (1)) else (if y < 35 then (3) else (3)))) else (if y < 40 then (if y < 38 then (if y < 37 then (4) else (3)) else (if y < 39 then (4) else (1))) else (if y < 42 then (if y < 41 then (6) else (1)) else (if y < 43 then (3) else (3))))) else (if y < 51 then (if y < 47 then (if y < 45 then (3) else (if y < 46 then (3) else (3))) else (if y < 49 then (if y < 48 then (2) else (2)) else (if y < 50 then (1) else (2)))) else (if y < 55 then (if y < 53 then (if y < 52 then (1) else (1)) else (if y < 54 then (1) else (2))) else (if y < 57 then (if y < 56 then (2) else (3)) else (if y < 58 then (3) else (1))))))) else (if y < 89 then (if y < 74 then (if y < 66 then (if y < 62 then (if y < 60 then (1) else (if y < 61 then (1) else (1))) else (if y < 64 then (if y < 63 then (1) else (1)) else (if y < 65 then (1) else (1)))) else (if y < 70 then (if y < 68 then (if y < 67 then (2) else (2)) else (if y < 69 then (2) else (1))) else (if y < 72 then (if y < 71 then (1) else (2)) else (if y < 73 then (1) else (1))))) else (if y < 81 then (if y < 77 then (if y < 75 then (1) else (if y < 76 then (4) else (2))) else (if y < 79 then (if y < 78 then (2) else (3)) else (if y < 80 then (2) else (1)))) else (if y < 85 then (if y < 83 then (if y < 82 then (6) else (4)) else (if y < 84 then (4) else (4))) else (if y < 87 then (if y < 86 then (1) else (1)) else (if y < 88 then (1) else (2)))))) else (if y < 104 then (if y < 96 then (if y < 92 then (if y < 90 then (1) else (if y < 91 then (1) else (1))) else (if y < 94 then (if y < 93 then (3) else (1)) else (if y < 95 then (3) else (2)))) else (if y < 100 then (if y < 98 then (if y < 97 then (1) else (2)) else (if y < 99 then (1) else (2))) else (if y < 102 then (if y < 101 then (2) else (2)) else (if y < 103 then (3) else (3))))) else (if y < 111 then (if y < 107 then (if y < 105 then (3) else (if y < 106 then (2) else (3))) else (if y < 109 then (if y < 108 then (3) else (3)) else (if y < 110 then (2) else (2)))) else (if y < 115 then (if y < 113 then (if y < 112 then (2) else (3)) else (if y < 114 then (4) else (4))) else (if y < 117 then (if y < 116 then (4) else (4)) else (if y < 118 then (1) else (0)))))))
def xdp (y : Nat) : Nat := if y < 59 then (if y < 29 then (if y < 14 then (if y < 7 then (if y < 3 then (if y < 1 then (3) else (if y < 2 then (2) else (1))) else (if y < 5 then (if y < 4 then (8) else (8)) else (if y < 6 then (1) else (2)))) else (if y < 10 then (if y < 8 then (1) else (if y < 9 then (8) else (8))) else (if y < 12 then (if y < 11 then (8) else (8)) else (if y < 13 then (2) else (2))))) else (if y < 21 then (if y < 17 then (if y < 15 then (2) else (if y < 16 then (1) else (1))) else (if y < 19 then (if y < 18 then (1) else (1)) else (if y < 20 then (1) else (5)))) else (if y < 25 then (if y < 23 then (if y < 22 then (2) else (5)) else (if y < 24 then (2) else (2))) else (if y < 27 then (if y < 26 then (3) else (3)) else (if y < 28 then (2) else (2)))))) else (if y < 44 then (if y < 36 then (if y < 32 then (if y < 30 then (3) else (if y < 31 then (1) else (2))) else (if y < 34 then (if y < 33 then (3) else (1)) else (if y < 35 then (1) else (2)))) else (if y < 40 then (if y < 38 then (if y < 37 then (3) else (1)) else (if y < 39 then (2) else (1))) else (if y < 42 then (if y < 41 then (1) else (1)) else (if y < 43 then (4) else (3))))) else (if y < 51 then (if y < 47 then (if y < 45 then (3) else (if y < 46 then (3) else (3))) else (if y < 49 then (if y < 48 then (2) else (1)) else (if y < 50 then (2) else (4)))) else (if y < 55 then (if y < 53 then (if y < 52 then (1) else (1)) else (if y < 54 then (1) else (1))) else (if y < 57 then (if y < 56 then (1) else (1)) else (if y < 58 then (1) else (1))))))) else (if y < 89 then (if y < 74 then (if y < 66 then (if y < 62 then (if y < 60 then (1) else (if y < 61 then (1) else (2))) else (if y < 64 then (if y < 63 then (1) else (1)) else (if y < 65 then (1) else (1)))) else (if y < 70 then (if y < 68 then (if y < 67 then (3) else (1)) else (if y < 69 then (2) else (1))) else (if y < 72 then (if y < 71 then (1) else (1)) else (if y < 73 then (1) else (1))))) else (if y < 81 then (if y < 77 then (if y < 75 then (1) else (if y < 76 then (2) else (1))) else (if y < 79 then (if y < 78 then (1) else (1)) else (if y < 80 then (1) else (2)))) else (if y < 85 then (if y < 83 then (if y < 82 then (1) else (1)) else (if y < 84 then (2) else (2))) else (if y < 87 then (if y < 86 then (3) else (1)) else (if y < 88 then (1) else (1)))))) else (if y < 104 then (if y < 96 then (if y < 92 then (if y < 90 then (2) else (if y < 91 then (2) else (1))) else (if y < 94 then (if y < 93 then (2) else (2)) else (if y < 95 then (3) else (4)))) else (if y < 100 then (if y < 98 then (if y < 97 then (1) else (1)) else (if y < 99 then (1) else (1))) else (if y < 102 then (if y < 101 then (1) else (1)) else (if y < 103 then (3) else (4))))) else (if y < 111 then (if y < 107 then (if y < 105 then (2) else (if y < 106 then (2) else (3))) else (if y < 109 then (if y < 108 then (4) else (2)) else (if y < 110 then (1) else (1)))) else (if y < 115 then (if y < 113 then (if y < 112 then (9) else (9)) else (if y < 114 then (9) else (9))) else (if y < 117 then (if y < 116 then (9) else (9)) else (if y < 118 then (10) else (0)))))))
def xlo (y : Nat) : Nat := if y < 59 then (if y < 29 then (if y < 14 then (if y < 7 then (if y < 3 then (if y < 1 then (63) else (if y < 2 then (43) else (21))) else (if y < 5 then (if y < 4 then (100) else (132)) else (if y < 6 then (21) else (43)))) else (if y < 10 then (if y < 8 then (21) else (if y < 9 then (100) else (100))) else (if y < 12 then (if y < 11 then (100) else (100)) else (if y < 13 then (43) else (42))))) else (if y < 21 then (if y < 17 then (if y < 15 then (41) else (if y < 16 then (21) else (21))) else (if y < 19 then (if y < 18 then (21) else (21)) else (if y < 20 then (21) else (108)))) else (if y < 25 then (if y < 23 then (if y < 22 then (41) else (108)) else (if y < 24 then (43) else (43))) else (if y < 27 then (if y < 26 then (67) else (68)) else (if y < 28 then (43) else (41)))))) else (if y < 44 then (if y < 36 then (if y < 32 then (if y < 30 then (65) else (if y < 31 then (21) else (42))) else (if y < 34 then (if y < 33 then (61) else (21)) else (if y < 35 then (21) else (45)))) else (if y < 40 then (if y < 38 then (if y < 37 then (68) else (21)) else (if y < 39 then (43) else (21))) else (if y < 42 then (if y < 41 then (21) else (21)) else (if y < 43 then (86) else (63))))) else (if y < 51 then (if y < 47 then (if y < 45 then (63) else (if y < 46 then (63) else (63))) else (if y < 49 then (if y < 48 then (42) else (21)) else (if y < 50 then (41) else (83)))) else (if y < 55 then (if y < 53 then (if y < 52 then (21) else (21)) else (if y < 54 then (21) else (21))) else (if y < 57 then (if y < 56 then (21) else (21)) else (if y < 58 then (21) else (21))))))) else (if y < 89 then (if y < 74 then (if y < 66 then (if y < 62 then (if y < 60 then (21) else (if y < 61 then (21) else (41))) else (if y < 64 then (if y < 63 then (21) else (21)) else (if y < 65 then (21) else (21)))) else (if y < 70 then (if y < 68 then (if y < 67 then (61) else (21)) else (if y < 69 then (41) else (21))) else (if y < 72 then (if y < 71 then (21) else (21)) else (if y < 73 then (21) else (21))))) else (if y < 81 then (if y < 77 then (if y < 75 then (21) else (if y < 76 then (41) else (21))) else (if y < 79 then (if y < 78 then (21) else (21)) else (if y < 80 then (21) else (42)))) else (if y < 85 then (if y < 83 then (if y < 82 then (21) else (21)) else (if y < 84 then (46) else (46))) else (if y < 87 then (if y < 86 then (73) else (21)) else (if y < 88 then (21) else (21)))))) else (if y < 104 then (if y < 96 then (if y < 92 then (if y < 90 then (43) else (if y < 91 then (43) else (21))) else (if y < 94 then (if y < 93 then (42) else (42)) else (if y < 95 then (74) else (98)))) else (if y < 100 then (if y < 98 then (if y < 97 then (21) else (21)) else (if y < 99 then (21) else (21))) else (if y < 102 then (if y < 101 then (21) else (21)) else (if y < 103 then (67) else (99))))) else (if y < 111 then (if y < 107 then (if y < 105 then (42) else (if y < 106 then (42) else (65))) else (if y < 109 then (if y < 108 then (99) else (42)) else (if y < 110 then (21) else (21)))) else (if y < 115 then (if y < 113 then (if y < 112 then (123) else (154)) else (if y < 114 then (123) else (122))) else (if y < 117 then (if y < 116 then (122) else (126)) else (if y < 118 then (177) else (0)))))))
def xmc (y : Nat) : Nat := if y < 59 then (if y < 29 then (if y < 14 then (if y < 7 then (if y < 3 then (if y < 1 then (0) else (if y < 2 then (0) else (0))) else (if y < 5 then (if y < 4 then (0) else (0)) else (if y < 6 then (0) else (0)))) else (if y < 10 then (if y < 8 then (0) else (if y < 9 then (0) else (0))) else (if y < 12 then (if y < 11 then (0) else (0)) else (if y < 13 then (0) else (0))))) else (if y < 21 then (if y < 17 then (if y < 15 then (0) else (if y < 16 then (0) else (0))) else (if y < 19 then (if y < 18 then (0) else (0)) else (if y < 20 then (0) else (0)))) else (if y < 25 then (if y < 23 then (if y < 22 then (0) else (0)) else (if y < 24 then (0) else (0))) else (if y < 27 then (if y < 26 then (0) else (0)) else (if y < 28 then (0) else (1)))))) else (if y < 44 then (if y < 36 then (if y < 32 then (if y < 30 then (1) else (if y < 31 then (1) else (1))) else (if y < 34 then (if y < 33 then (1) else (2)) else (if y < 35 then (2) else (2)))) else (if y < 40 then (if y < 38 then (if y < 37 then (2) else (2)) else (if y < 39 then (2) else (3))) else (if y < 42 then (if y < 41 then (3) else (4)) else (if y < 43 then (4) else (4))))) else (if y < 51 then (if y < 47 then (if y < 45 then (4) else (if y < 46 then (4) else (4))) else (if y < 49 then (if y < 48 then (4) else (4)) else (if y < 50 then (5) else (5)))) else (if y < 55 then (if y < 53 then (if y < 52 then (5) else (5)) else (if y < 54 then (6) else (6))) else (if y < 57 then (if y < 56 then (6) else (6)) else (if y < 58 then (6) else (7))))))) else (if y < 89 then (if y < 74 then (if y < 66 then (if y < 62 then (if y < 60 then (7) else (if y < 61 then (7) else (7))) else (if y < 64 then (if y < 63 then (7) else (7)) else (if y < 65 then (7) else (7)))) else (if y < 70 then (if y < 68 then (if y < 67 then (7) else (7)) else (if y < 69 then (7) else (8))) else (if y < 72 then (if y < 71 then (8) else (8)) else (if y < 73 then (8) else (8))))) else (if y < 81 then (if y < 77 then (if y < 75 then (8) else (if y < 76 then (8) else (8))) else (if y < 79 then (if y < 78 then (8) else (8)) else (if y < 80 then (8) else (8)))) else (if y < 85 then (if y < 83 then (if y < 82 then (8) else (8)) else (if y < 84 then (8) else (8))) else (if y < 87 then (if y < 86 then (8) else (8)) else (if y < 88 then (8) else (8)))))) else (if y < 104 then (if y < 96 then (if y < 92 then (if y < 90 then (8) else (if y < 91 then (8) else (8))) else (if y < 94 then (if y < 93 then (8) else (8)) else (if y < 95 then (8) else (8)))) else (if y < 100 then (if y < 98 then (if y < 97 then (8) else (8)) else (if y < 99 then (8) else (8))) else (if y < 102 then (if y < 101 then (8) else (8)) else (if y < 103 then (8) else (8))))) else (if y < 111 then (if y < 107 then (if y < 105 then (8) else (if y < 106 then (8) else (8))) else (if y < 109 then (if y < 108 then (8) else (8)) else (if y < 110 then (8) else (8)))) else (if y < 115 then (if y < 113 then (if y < 112 then (99) else (99)) else (if y < 114 then (99) else (99))) else (if y < 117 then (if y < 116 then (99) else (99)) else (if y < 118 then (99) else (0)))))))
def xown (y : Nat) : String := (xyn y).cls
def xini (y : Nat) : Bool := decide ((xyn y).name = "<init>")
theorem xrt_ok0 : ∀ y, xrt y = 0 → xrty y = none := by
  intro y h
  by_cases hy : y < 118
  · revert h; revert y; decide +kernel
  · unfold xrty; have h1 : 118 ≤ y := by omega
    repeat (first | rfl | rw [if_neg (by omega)])
theorem xrt_ok1 : ∀ y, xrt y = 1 → xrty y = some .int := by
  intro y h
  by_cases hy : y < 118
  · revert h; revert y; decide +kernel
  · exfalso; revert h; unfold xrt; have h1 : 118 ≤ y := by omega
    repeat (rw [if_neg (by omega)])
    decide
theorem xrt_ok2 : ∀ y, xrt y = 2 → xrty y = some .boolean := by
  intro y h
  by_cases hy : y < 118
  · revert h; revert y; decide +kernel
  · exfalso; revert h; unfold xrt; have h1 : 118 ≤ y := by omega
    repeat (rw [if_neg (by omega)])
    decide
def xhd (_ _ _ : Nat) : Option (Nat × Nat) := none
def xec (_ : Nat) : Nat := 1
def xes (_ : Nat) : Nat := 6
def xall : List Cond := lw_tbl.filter goodWord
theorem xall_good : ∀ w ∈ xall, (w.onTables && w.keeps) = true ∨ ∃ ty, w = .arrayClass ty := fun w hw => good_of_word (List.mem_filter.mp hw).2
theorem mx {w : Cond} (i : Nat) (h : tables_1[i]? = some w) (hg : goodWord w = true) : w ∈ xall := List.mem_filter.mpr ⟨List.mem_append_right _ (List.mem_of_getElem? h), hg⟩
theorem mp {q : MethodName × Nat} (i : Nat) (h : lw_privs[i]? = some q) (hg : goodWord (.selects q.1.cls q.1 q.1) = true) : Cond.selects q.1.cls q.1 q.1 ∈ xall := List.mem_filter.mpr ⟨List.mem_append_left _ (List.mem_map.mpr ⟨q, List.mem_of_getElem? h, rfl⟩), hg⟩
def xws (y : Nat) : List Cond := Cond.code (xyn y) (xby y) (xml y) (xrty y) :: xall
def xnw : List Cond := [(Jvm.Cond.arrayOver (Jvm.ClassFile.FieldType.object "ChartKnitter$Stitch")), (Jvm.Cond.methodLinkNest "ChartKnitter$Chart" (37 : Nat) ({ cls := "ChartKnitter$Stitch", name := "<init>", desc := "()V" } : Jvm.MethodName) "ChartKnitter"), (Jvm.Cond.methodLinkNest "ChartKnitter$Plan" (32 : Nat) ({ cls := "ChartKnitter$Stitch", name := "<init>", desc := "()V" } : Jvm.MethodName) "ChartKnitter"), (Jvm.Cond.methodLinkNest "ChartKnitter" (25 : Nat) ({ cls := "ChartKnitter$Machine", name := "<init>", desc := "()V" } : Jvm.MethodName) "ChartKnitter"), (Jvm.Cond.methodLinkNest "ChartKnitter" (32 : Nat) ({ cls := "ChartKnitter$Loops", name := "<init>", desc := "()V" } : Jvm.MethodName) "ChartKnitter"), (Jvm.Cond.methodLinkNest "ChartKnitter" (39 : Nat) ({ cls := "ChartKnitter$Crossings", name := "<init>", desc := "()V" } : Jvm.MethodName) "ChartKnitter"), (Jvm.Cond.arrayOver (Jvm.ClassFile.FieldType.object "ChartKnitter$Row")), (Jvm.Cond.methodLinkNest "ChartKnitter" (57 : Nat) ({ cls := "ChartKnitter$Row", name := "<init>", desc := "()V" } : Jvm.MethodName) "ChartKnitter")]
theorem xnw_same {u U : State} (h : u.vm = U.vm) (hZ : ∀ w ∈ xnw, va_Nw w u) : ∀ w ∈ xnw, va_Nw w U := by
  intro w hw
  have hz := hZ w hw
  simp only [xnw, List.mem_cons, List.not_mem_nil, or_false] at hw
  rcases hw with rfl | rfl | rfl | rfl | rfl | rfl | rfl | rfl
  · exact va_AO.moved (by rw [h]; exact Vm.Alike.refl _) hz
  · exact va_Nw.same rfl h hz
  · exact va_Nw.same rfl h hz
  · exact va_Nw.same rfl h hz
  · exact va_Nw.same rfl h hz
  · exact va_Nw.same rfl h hz
  · exact va_AO.moved (by rw [h]; exact Vm.Alike.refl _) hz
  · exact va_Nw.same rfl h hz
theorem xnw_warm {s U : State} (hW : s.WarmedH U.vm) : ∀ w ∈ xnw, va_Nw w s → va_Nw w U := by
  intro w hw
  simp only [xnw, List.mem_cons, List.not_mem_nil, or_false] at hw
  rcases hw with rfl | rfl | rfl | rfl | rfl | rfl | rfl | rfl
  · exact fun h => va_AO.moved hW.alike h
  · exact fun h => va_Nw.warmM hW h
  · exact fun h => va_Nw.warmM hW h
  · exact fun h => va_Nw.warmM hW h
  · exact fun h => va_Nw.warmM hW h
  · exact fun h => va_Nw.warmM hW h
  · exact fun h => va_AO.moved hW.alike h
  · exact fun h => va_Nw.warmM hW h
end
section
/-! A small machine over a picture of the memory: objects are named by (kind, number), a kind being a place in the code where they are made. It runs the very instructions; part 30 shows that what it answers the machine of the Statement answers too. -/
abbrev XR : Type := Nat × Nat
abbrev XV : Type := Int32 ⊕ (Int64 ⊕ Option XR)
abbrev XL : Type := List (Option XV)
/-- ints, longs, references (by kind, number, place); how many there are of a kind; the script's length; cells and slots made so far -/
abbrev XM : Type := (Nat → Nat → Nat → Int32) × (Nat → Nat → Nat → Int64) × (Nat → Nat → Nat → Option XR) × (Nat → Nat) × Nat × Nat × Nat
/-- how a method ended: returned, or threw an exception of a number -/
abbrev XO : Type := Option XV ⊕ Nat
/-- one step: next (pc, locals, stack, memory), call (method, arguments, the rest of the stack), end -/
abbrev XN : Type := (Nat × XL × List XV × XM) ⊕ ((Nat × List XV × List XV) ⊕ (XO × XM))
abbrev xi (x : Int32) : XV := .inl x
abbrev xl (x : Int64) : XV := .inr (.inl x)
abbrev xq (t n : Nat) : XV := .inr (.inr (some (t, n)))
def up3 {α : Type} (f : Nat → Nat → Nat → α) (t n k : Nat) (v : α) : Nat → Nat → Nat → α := fun t' n' k' => if t' = t then (if n' = n then (if k' = k then v else f t' n' k') else f t' n' k') else f t' n' k'
def up2 {α : Type} (f : Nat → Nat → Nat → α) (t n : Nat) (v : α) : Nat → Nat → Nat → α := fun t' n' k' => if t' = t then (if n' = n then v else f t' n' k') else f t' n' k'
def up1 (f : Nat → Nat) (t : Nat) : Nat → Nat := fun t' => if t' = t then f t + 1 else f t'
def xin (i : Int32) (n : Nat) : Bool := !(decide (i < 0)) && Nat.blt i.toNatClampNeg n
def xcat : XV → Nat
  | .inr (.inl _) => 2
  | _ => 1
def xsum : List XV → Nat
  | [] => 0
  | v :: r => xcat v + xsum r
/-- the locals with which a method begins -/
def xent : Nat → List XV → XL
  | n, [] => List.replicate n none
  | n, v :: r => match v with
    | .inr (.inl x) => some (.inr (.inl x)) :: none :: xent (n - 2) r
    | v => some v :: xent (n - 1) r
/-- no long lies over the place i -/
def xok (lv : XL) (i : Nat) : Bool := match i with
  | 0 => true
  | j + 1 => match lv[j]? with
    | some (some (.inr (.inl _))) => false
    | _ => true
def xtg (pc : Nat) (off : Int) : Nat := ((pc : Int) + off).toNat
def xcmp (c : ClassFile.Cond) (x y : Int32) : Bool := match c with
  | .eq => decide (x = y)
  | .ne => !(decide (x = y))
  | .lt => decide (x < y)
  | .ge => decide (y ≤ x)
  | .gt => decide (y < x)
  | .le => decide (x ≤ y)
def xnx (pc : Nat) (lv : XL) (st : List XV) (M : XM) : Option XN := some (.inl (pc, lv, st, M))
end
section
/-- an int of an object or array, a reference, ... where the static checks (xkt: what a kind is; xkn: its length; xkc: its class; xst: what a field is) hold -/
def xo_iconst (v : Int32) (pc len : Nat) (lv : XL) (st : List XV) (M : XM) : Option XN := xnx (pc + len) lv (.inl v :: st) M
def xo_lconst (v : Int64) (pc len : Nat) (lv : XL) (st : List XV) (M : XM) : Option XN := xnx (pc + len) lv (.inr (.inl v) :: st) M
def xo_iload (i pc len : Nat) (lv : XL) (st : List XV) (M : XM) : Option XN := match lv[i]? with
  | some (some (.inl x)) => xnx (pc + len) lv (.inl x :: st) M
  | _ => none
def xo_lload (i pc len : Nat) (lv : XL) (st : List XV) (M : XM) : Option XN := match lv[i]? with
  | some (some (.inr (.inl x))) => xnx (pc + len) lv (.inr (.inl x) :: st) M
  | _ => none
def xo_aload (i pc len : Nat) (lv : XL) (st : List XV) (M : XM) : Option XN := match lv[i]? with
  | some (some (.inr (.inr (some q)))) => xnx (pc + len) lv (.inr (.inr (some q)) :: st) M
  | _ => none
def xo_istore (i pc len : Nat) (lv : XL) (st : List XV) (M : XM) : Option XN := match st with
  | .inl x :: r => bif Nat.blt i lv.length && xok lv i then xnx (pc + len) (lv.set i (some (.inl x))) r M else none
  | _ => none
def xo_astore (i pc len : Nat) (lv : XL) (st : List XV) (M : XM) : Option XN := match st with
  | .inr (.inr (some q)) :: r => bif Nat.blt i lv.length && xok lv i then xnx (pc + len) (lv.set i (some (.inr (.inr (some q))))) r M else none
  | _ => none
def xo_iinc (i : Nat) (n : Int) (pc len : Nat) (lv : XL) (st : List XV) (M : XM) : Option XN := match lv[i]? with
  | some (some (.inl x)) => bif Nat.blt i lv.length && xok lv i then xnx (pc + len) (lv.set i (some (.inl (x + Int32.ofInt n)))) st M else none
  | _ => none
def xo_iadd (pc len : Nat) (lv : XL) (st : List XV) (M : XM) : Option XN := match st with
  | .inl y :: .inl x :: r => xnx (pc + len) lv (.inl (x + y) :: r) M
  | _ => none
def xo_isub (pc len : Nat) (lv : XL) (st : List XV) (M : XM) : Option XN := match st with
  | .inl y :: .inl x :: r => xnx (pc + len) lv (.inl (x - y) :: r) M
  | _ => none
def xo_imul (pc len : Nat) (lv : XL) (st : List XV) (M : XM) : Option XN := match st with
  | .inl y :: .inl x :: r => xnx (pc + len) lv (.inl (x * y) :: r) M
  | _ => none
def xo_iand (pc len : Nat) (lv : XL) (st : List XV) (M : XM) : Option XN := match st with
  | .inl y :: .inl x :: r => xnx (pc + len) lv (.inl (x &&& y) :: r) M
  | _ => none
def xo_idiv (pc len : Nat) (lv : XL) (st : List XV) (M : XM) : Option XN := match st with
  | .inl y :: .inl x :: r => if y = 0 then none else xnx (pc + len) lv (.inl (x / y) :: r) M
  | _ => none
def xo_irem (pc len : Nat) (lv : XL) (st : List XV) (M : XM) : Option XN := match st with
  | .inl y :: .inl x :: r => if y = 0 then none else xnx (pc + len) lv (.inl (x - x / y * y) :: r) M
  | _ => none
def xo_land (pc len : Nat) (lv : XL) (st : List XV) (M : XM) : Option XN := match st with
  | .inr (.inl y) :: .inr (.inl x) :: r => xnx (pc + len) lv (.inr (.inl (x &&& y)) :: r) M
  | _ => none
def xo_lor (pc len : Nat) (lv : XL) (st : List XV) (M : XM) : Option XN := match st with
  | .inr (.inl y) :: .inr (.inl x) :: r => xnx (pc + len) lv (.inr (.inl (x ||| y)) :: r) M
  | _ => none
def xo_lshl (pc len : Nat) (lv : XL) (st : List XV) (M : XM) : Option XN := match st with
  | .inl y :: .inr (.inl x) :: r => xnx (pc + len) lv (.inr (.inl (x <<< (y.toInt64 &&& 63))) :: r) M
  | _ => none
def xo_lshr (pc len : Nat) (lv : XL) (st : List XV) (M : XM) : Option XN := match st with
  | .inl y :: .inr (.inl x) :: r => xnx (pc + len) lv (.inr (.inl (x >>> (y.toInt64 &&& 63))) :: r) M
  | _ => none
def xo_lushr (pc len : Nat) (lv : XL) (st : List XV) (M : XM) : Option XN := match st with
  | .inl y :: .inr (.inl x) :: r => xnx (pc + len) lv (.inr (.inl ((x.toUInt64 >>> (y.toInt64.toUInt64 &&& Int64.toUInt64 63)).toInt64)) :: r) M
  | _ => none
def xo_i2l (pc len : Nat) (lv : XL) (st : List XV) (M : XM) : Option XN := match st with
  | .inl x :: r => xnx (pc + len) lv (.inr (.inl x.toInt64) :: r) M
  | _ => none
def xo_l2i (pc len : Nat) (lv : XL) (st : List XV) (M : XM) : Option XN := match st with
  | .inr (.inl x) :: r => xnx (pc + len) lv (.inl x.toInt32 :: r) M
  | _ => none
def xo_lcmp (pc len : Nat) (lv : XL) (st : List XV) (M : XM) : Option XN := match st with
  | .inr (.inl y) :: .inr (.inl x) :: r => xnx (pc + len) lv (.inl (lg_cmp x y) :: r) M
  | _ => none
def xo_dup (pc len : Nat) (lv : XL) (st : List XV) (M : XM) : Option XN := match st with
  | v :: r => bif Nat.beq (xcat v) 1 then xnx (pc + len) lv (v :: v :: r) M else none
  | _ => none
def xo_dup2 (pc len : Nat) (lv : XL) (st : List XV) (M : XM) : Option XN := match st with
  | v :: u :: r => bif Nat.beq (xcat v) 1 && Nat.beq (xcat u) 1 then xnx (pc + len) lv (v :: u :: v :: u :: r) M else none
  | _ => none
def xo_pop (pc len : Nat) (lv : XL) (st : List XV) (M : XM) : Option XN := match st with
  | v :: r => bif Nat.beq (xcat v) 1 then xnx (pc + len) lv r M else none
  | _ => none
def xo_goto (off : Int) (pc : Nat) (lv : XL) (st : List XV) (M : XM) : Option XN := bif decide (0 ≤ (pc : Int) + off) then xnx (xtg pc off) lv st M else none
def xo_icmp (c : ClassFile.Cond) (off : Int) (pc len : Nat) (lv : XL) (st : List XV) (M : XM) : Option XN := match st with
  | .inl y :: .inl x :: r => bif decide (0 ≤ (pc : Int) + off) then (if xcmp c x y = true then xnx (xtg pc off) lv r M else xnx (pc + len) lv r M) else none
  | _ => none
def xo_if (c : ClassFile.Cond) (off : Int) (pc len : Nat) (lv : XL) (st : List XV) (M : XM) : Option XN := match st with
  | .inl x :: r => bif decide (0 ≤ (pc : Int) + off) then (if xcmp c x 0 = true then xnx (xtg pc off) lv r M else xnx (pc + len) lv r M) else none
  | _ => none
/-- where a switch goes: pairs (number, place), else the default's place -/
def xsw (x : Int32) (d : Nat) : List (Int32 × Nat) → Nat
  | [] => d
  | (k, t) :: r => if x = k then t else xsw x d r
def xo_switch (d : Nat) (ps : List (Int32 × Nat)) (lv : XL) (st : List XV) (M : XM) : Option XN := match st with
  | .inl x :: r => xnx (xsw x d ps) lv r M
  | _ => none
def xo_getf (ci k pc len : Nat) (lv : XL) (st : List XV) (M : XM) : Option XN := match st with
  | .inr (.inr (some (t, n))) :: r => bif Nat.beq (xkt t) 0 && Nat.beq (xkc t) ci then (bif Nat.beq (xst ci k) 1 then xnx (pc + len) lv (.inr (.inr (M.2.2.1 t n k)) :: r) M else xnx (pc + len) lv (.inl (M.1 t n k) :: r) M) else none
  | _ => none
def xo_puti (ci k pc len : Nat) (lv : XL) (st : List XV) (M : XM) : Option XN := match st with
  | .inl x :: .inr (.inr (some (t, n))) :: r => bif Nat.beq (xkt t) 0 && Nat.beq (xkc t) ci && Nat.beq (xst ci k) 0 then xnx (pc + len) lv r (up3 M.1 t n k x, M.2) else none
  | _ => none
def xo_putz (ci k pc len : Nat) (lv : XL) (st : List XV) (M : XM) : Option XN := match st with
  | .inl x :: .inr (.inr (some (t, n))) :: r => bif Nat.beq (xkt t) 0 && Nat.beq (xkc t) ci && Nat.beq (xst ci k) 2 then (if x = 0 ∨ x = 1 then xnx (pc + len) lv r (up3 M.1 t n k x, M.2) else none) else none
  | _ => none
def xo_putr (ci k pc len : Nat) (lv : XL) (st : List XV) (M : XM) : Option XN := match st with
  | .inr (.inr (some q)) :: .inr (.inr (some (t, n))) :: r => bif Nat.beq (xkt t) 0 && Nat.beq (xkc t) ci && Nat.beq (xst ci k) 1 then xnx (pc + len) lv r (M.1, M.2.1, up3 M.2.2.1 t n k (some q), M.2.2.2) else none
  | _ => none
def xo_iald (pc len : Nat) (lv : XL) (st : List XV) (M : XM) : Option XN := match st with
  | .inl i :: .inr (.inr (some (t, n))) :: r => bif Nat.beq (xkt t) 1 then (if xin i (xkn t) = true then xnx (pc + len) lv (.inl (M.1 t n i.toNatClampNeg) :: r) M else none) else (bif Nat.beq (xkt t) 5 then (if xin i M.2.2.2.2.1 = true then xnx (pc + len) lv (.inl (M.1 t n i.toNatClampNeg) :: r) M else none) else none)
  | _ => none
def xo_bald (pc len : Nat) (lv : XL) (st : List XV) (M : XM) : Option XN := match st with
  | .inl i :: .inr (.inr (some (t, n))) :: r => bif Nat.beq (xkt t) 2 then (if xin i (xkn t) = true then xnx (pc + len) lv (.inl (M.1 t n i.toNatClampNeg) :: r) M else none) else none
  | _ => none
def xo_lald (pc len : Nat) (lv : XL) (st : List XV) (M : XM) : Option XN := match st with
  | .inl i :: .inr (.inr (some (t, n))) :: r => bif Nat.beq (xkt t) 3 then (if xin i (xkn t) = true then xnx (pc + len) lv (.inr (.inl (M.2.1 t n i.toNatClampNeg)) :: r) M else none) else none
  | _ => none
def xo_aald (pc len : Nat) (lv : XL) (st : List XV) (M : XM) : Option XN := match st with
  | .inl i :: .inr (.inr (some (t, n))) :: r => bif Nat.beq (xkt t) 4 then (if xin i (xkn t) = true then xnx (pc + len) lv (.inr (.inr (M.2.2.1 t n i.toNatClampNeg)) :: r) M else none) else none
  | _ => none
def xo_iast (pc len : Nat) (lv : XL) (st : List XV) (M : XM) : Option XN := match st with
  | .inl x :: .inl i :: .inr (.inr (some (t, n))) :: r => bif Nat.beq (xkt t) 1 then (if xin i (xkn t) = true then xnx (pc + len) lv r (up3 M.1 t n i.toNatClampNeg x, M.2) else none) else none
  | _ => none
def xo_bast (pc len : Nat) (lv : XL) (st : List XV) (M : XM) : Option XN := match st with
  | .inl x :: .inl i :: .inr (.inr (some (t, n))) :: r => bif Nat.beq (xkt t) 2 then (if xin i (xkn t) = true then xnx (pc + len) lv r (up3 M.1 t n i.toNatClampNeg (vp_nar .boolean x), M.2) else none) else none
  | _ => none
def xo_last (pc len : Nat) (lv : XL) (st : List XV) (M : XM) : Option XN := match st with
  | .inr (.inl x) :: .inl i :: .inr (.inr (some (t, n))) :: r => bif Nat.beq (xkt t) 3 then (if xin i (xkn t) = true then xnx (pc + len) lv r (M.1, up3 M.2.1 t n i.toNatClampNeg x, M.2.2) else none) else none
  | _ => none
def xo_aast (pc len : Nat) (lv : XL) (st : List XV) (M : XM) : Option XN := match st with
  | .inr (.inr (some (t', n'))) :: .inl i :: .inr (.inr (some (t, n))) :: r => bif Nat.beq (xkt t) 4 && Nat.beq (xkt t') 0 && Nat.beq (xkc t') (xkc t) then (if xin i (xkn t) = true then xnx (pc + len) lv r (M.1, M.2.1, up3 M.2.2.1 t n i.toNatClampNeg (some (t', n')), M.2.2.2) else none) else none
  | _ => none
def xo_alen (pc len : Nat) (lv : XL) (st : List XV) (M : XM) : Option XN := match st with
  | .inr (.inr (some (t, _))) :: r => bif Nat.beq (xkt t) 5 then xnx (pc + len) lv (.inl (Int32.ofNat M.2.2.2.2.1) :: r) M else (bif Nat.beq (xkt t) 4 then xnx (pc + len) lv (.inl (Int32.ofNat (xkn t)) :: r) M else none)
  | _ => none
/-- a new object or array of the kind t -/
def xmake (t : Nat) (M : XM) : XM := (up2 M.1 t (M.2.2.2.1 t) 0, up2 M.2.1 t (M.2.2.2.1 t) 0, up2 M.2.2.1 t (M.2.2.2.1 t) none, up1 M.2.2.2.1 t, M.2.2.2.2.1, M.2.2.2.2.2.1 + 1, M.2.2.2.2.2.2 + xkn t)
def xo_new (t pc len : Nat) (lv : XL) (st : List XV) (M : XM) : Option XN := bif Nat.beq (xkt t) 0 then xnx (pc + len) lv (.inr (.inr (some (t, M.2.2.2.1 t))) :: st) (xmake t M) else none
def xo_newa (g t pc len : Nat) (lv : XL) (st : List XV) (M : XM) : Option XN := match st with
  | .inl x :: r => bif Nat.beq (xkt t) g && decide (x = Int32.ofNat (xkn t)) then xnx (pc + len) lv (.inr (.inr (some (t, M.2.2.2.1 t))) :: r) (xmake t M) else none
  | _ => none
/-- an exception of the number e is made and thrown -/
def xo_throw (e : Nat) (M : XM) : Option XN := some (.inr (.inr (.inr e, (M.1, M.2.1, M.2.2.1, M.2.2.2.1, M.2.2.2.2.1, M.2.2.2.2.2.1 + xec e, M.2.2.2.2.2.2 + xes e))))
/-- the arguments of a call: the n uppermost, the lowest first -/
def xargs : Nat → List XV → List XV → Option (List XV × List XV)
  | 0, acc, r => some (acc, r)
  | _ + 1, _, [] => none
  | n + 1, acc, v :: r => xargs n (v :: acc) r
def xrecv (y : Nat) (as : List XV) : Bool := match as with
  | .inr (.inr (some (t, _))) :: _ => Nat.beq (xkt t) 0 && Nat.beq (xkc t) (xmc y)
  | _ => false
/-- a call: v: the receiver's class is looked at -/
def xo_call (v : Bool) (m y : Nat) (st : List XV) : Option XN := match xargs (xmn y) [] st with
  | some (as, r) => bif Nat.blt (xdp y) (xdp m) && Nat.ble (19 + xml y + xlo y) (xlo m) && Nat.ble (xsum r) 8 && Nat.ble (xsum as) (xml y) && (v.not || xrecv y as) then some (.inr (.inl (y, as, r))) else none
  | none => none
def xo_objinit (pc len : Nat) (lv : XL) (st : List XV) (M : XM) : Option XN := match st with
  | .inr (.inr (some _)) :: r => bif Nat.ble (xsum r) 8 then xnx (pc + len) lv r M else none
  | _ => none
def xo_abs (pc len : Nat) (lv : XL) (st : List XV) (M : XM) : Option XN := match st with
  | .inl x :: r => bif Nat.ble (xsum r) 8 then xnx (pc + len) lv (.inl (if 0 ≤ x then x else 0 - x) :: r) M else none
  | _ => none
def xo_max (pc len : Nat) (lv : XL) (st : List XV) (M : XM) : Option XN := match st with
  | .inl y :: .inl x :: r => bif Nat.ble (xsum r) 8 then xnx (pc + len) lv (.inl (if x < y then y else x) :: r) M else none
  | _ => none
def xo_ret (m : Nat) (st : List XV) (M : XM) : Option XN := match st with
  | [] => bif Nat.beq (xrt m) 0 then some (.inr (.inr (.inl none, M))) else none
  | [.inl x] => bif Nat.beq (xrt m) 1 then some (.inr (.inr (.inl (some (.inl x)), M))) else (bif Nat.beq (xrt m) 2 then (if x = 0 ∨ x = 1 then some (.inr (.inr (.inl (some (.inl x)), M))) else none) else none)
  | _ => none
/-- what comes of a step; rec: the run with less fuel -/
def xk (rec : Nat → Nat → XL → List XV → XM → Option (XO × XM)) (y pc : Nat) (lv : XL) (M : XM) (r : Option XN) : Option (XO × XM) := match r with
  | none => none
  | some (.inl (pc', lv', st', M')) => rec y pc' lv' st' M'
  | some (.inr (.inl (z, as, rest))) => (match rec z 0 (xent (xml z) as) [] M with
    | none => none
    | some (.inl rv, M1) => rec y (pc + 3) lv (rv.toList ++ rest) M1
    | some (.inr e, M1) => (match xhd y pc e with
      | none => none
      | some (h, k) => rec y h (lv.set k none) [] M1))
  | some (.inr (.inr (o, M'))) => some (o, M')
end
section
def cd_0 (pc : Nat) (lv : XL) (st : List XV) (M : XM) : Option XN := if pc < 59 then (if pc < 27 then (if pc < 12 then (if pc < 5 then (if pc < 1 then (if pc = 0 then xo_aload 0 0 1 lv st M else none) else (if pc < 4 then (if pc = 1 then xo_objinit 1 3 lv st M else none) else (if pc = 4 then xo_aload 0 4 1 lv st M else none))) else (if pc < 8 then (if pc = 5 then xo_new 4 5 3 lv st M else none) else (if pc < 9 then (if pc = 8 then xo_dup 8 1 lv st M else none) else (if pc = 9 then xo_call true 0 28 st else none)))) else (if pc < 19 then (if pc < 15 then (if pc = 12 then xo_putr 0 0 12 3 lv st M else none) else (if pc < 16 then (if pc = 15 then xo_aload 0 15 1 lv st M else none) else (if pc = 16 then xo_new 5 16 3 lv st M else none))) else (if pc < 23 then (if pc < 20 then (if pc = 19 then xo_dup 19 1 lv st M else none) else (if pc = 20 then xo_call true 0 49 st else none)) else (if pc < 26 then (if pc = 23 then xo_putr 0 1 23 3 lv st M else none) else (if pc = 26 then xo_aload 0 26 1 lv st M else none))))) else (if pc < 42 then (if pc < 34 then (if pc < 30 then (if pc = 27 then xo_new 6 27 3 lv st M else none) else (if pc < 31 then (if pc = 30 then xo_dup 30 1 lv st M else none) else (if pc = 31 then xo_call true 0 41 st else none))) else (if pc < 38 then (if pc < 37 then (if pc = 34 then xo_putr 0 2 34 3 lv st M else none) else (if pc = 37 then xo_aload 0 37 1 lv st M else none)) else (if pc < 41 then (if pc = 38 then xo_new 7 38 3 lv st M else none) else (if pc = 41 then xo_dup 41 1 lv st M else none)))) else (if pc < 49 then (if pc < 45 then (if pc = 42 then xo_call true 0 39 st else none) else (if pc < 48 then (if pc = 45 then xo_putr 0 3 45 3 lv st M else none) else (if pc = 48 then xo_aload 0 48 1 lv st M else none))) else (if pc < 53 then (if pc < 52 then (if pc = 49 then xo_new 8 49 3 lv st M else none) else (if pc = 52 then xo_dup 52 1 lv st M else none)) else (if pc < 56 then (if pc = 53 then xo_call true 0 33 st else none) else (if pc = 56 then xo_putr 0 4 56 3 lv st M else none)))))) else (if pc < 81 then (if pc < 70 then (if pc < 65 then (if pc < 60 then (if pc = 59 then xo_aload 0 59 1 lv st M else none) else (if pc < 62 then (if pc = 60 then xo_iconst 21 60 2 lv st M else none) else (if pc = 62 then xo_newa 4 9 62 3 lv st M else none))) else (if pc < 68 then (if pc = 65 then xo_putr 0 5 65 3 lv st M else none) else (if pc < 69 then (if pc = 68 then xo_aload 0 68 1 lv st M else none) else (if pc = 69 then xo_iconst 0 69 1 lv st M else none)))) else (if pc < 75 then (if pc < 73 then (if pc = 70 then xo_puti 0 6 70 3 lv st M else none) else (if pc < 74 then (if pc = 73 then xo_aload 0 73 1 lv st M else none) else (if pc = 74 then xo_iconst (-1) 74 1 lv st M else none))) else (if pc < 79 then (if pc < 78 then (if pc = 75 then xo_puti 0 7 75 3 lv st M else none) else (if pc = 78 then xo_iconst 0 78 1 lv st M else none)) else (if pc < 80 then (if pc = 79 then xo_istore 1 79 1 lv st M else none) else (if pc = 80 then xo_iload 1 80 1 lv st M else none))))) else (if pc < 94 then (if pc < 86 then (if pc < 82 then (if pc = 81 then xo_aload 0 81 1 lv st M else none) else (if pc < 85 then (if pc = 82 then xo_getf 0 5 82 3 lv st M else none) else (if pc = 85 then xo_alen 85 1 lv st M else none))) else (if pc < 90 then (if pc < 89 then (if pc = 86 then xo_icmp .ge 22 86 3 lv st M else none) else (if pc = 89 then xo_aload 0 89 1 lv st M else none)) else (if pc < 93 then (if pc = 90 then xo_getf 0 5 90 3 lv st M else none) else (if pc = 93 then xo_iload 1 93 1 lv st M else none)))) else (if pc < 101 then (if pc < 97 then (if pc = 94 then xo_new 10 94 3 lv st M else none) else (if pc < 98 then (if pc = 97 then xo_dup 97 1 lv st M else none) else (if pc = 98 then xo_call true 0 53 st else none))) else (if pc < 105 then (if pc < 102 then (if pc = 101 then xo_aast 101 1 lv st M else none) else (if pc = 102 then xo_iinc 1 1 102 3 lv st M else none)) else (if pc < 108 then (if pc = 105 then xo_goto (-25) 105 lv st M else none) else (if pc = 108 then xo_ret 0 st M else none))))))
def cd_1 (pc : Nat) (lv : XL) (st : List XV) (M : XM) : Option XN := if pc < 53 then (if pc < 27 then (if pc < 9 then (if pc < 3 then (if pc < 1 then (if pc = 0 then xo_iconst 0 0 1 lv st M else none) else (if pc < 2 then (if pc = 1 then xo_istore 3 1 1 lv st M else none) else (if pc = 2 then xo_iconst 0 2 1 lv st M else none))) else (if pc < 5 then (if pc = 3 then xo_istore 4 3 2 lv st M else none) else (if pc < 7 then (if pc = 5 then xo_iload 4 5 2 lv st M else none) else (if pc = 7 then xo_iconst 8 7 2 lv st M else none)))) else (if pc < 15 then (if pc < 12 then (if pc = 9 then xo_icmp .ge 21 9 3 lv st M else none) else (if pc < 13 then (if pc = 12 then xo_lload 1 12 1 lv st M else none) else (if pc = 13 then xo_iload 4 13 2 lv st M else none))) else (if pc < 21 then (if pc < 18 then (if pc = 15 then xo_call false 1 18 st else none) else (if pc = 18 then xo_if .eq 6 18 3 lv st M else none)) else (if pc < 24 then (if pc = 21 then xo_iinc 3 1 21 3 lv st M else none) else (if pc = 24 then xo_iinc 4 1 24 3 lv st M else none))))) else (if pc < 41 then (if pc < 34 then (if pc < 30 then (if pc = 27 then xo_goto (-22) 27 lv st M else none) else (if pc < 31 then (if pc = 30 then xo_aload 0 30 1 lv st M else none) else (if pc = 31 then xo_getf 0 0 31 3 lv st M else none))) else (if pc < 38 then (if pc < 37 then (if pc = 34 then xo_getf 1 1 34 3 lv st M else none) else (if pc = 37 then xo_iload 3 37 1 lv st M else none)) else (if pc < 39 then (if pc = 38 then xo_iadd 38 1 lv st M else none) else (if pc = 39 then xo_iconst 40 39 2 lv st M else none)))) else (if pc < 46 then (if pc < 44 then (if pc = 41 then xo_icmp .le 5 41 3 lv st M else none) else (if pc < 45 then (if pc = 44 then xo_iconst (-1) 44 1 lv st M else none) else (if pc = 45 then xo_ret 1 st M else none))) else (if pc < 49 then (if pc < 47 then (if pc = 46 then xo_iconst 0 46 1 lv st M else none) else (if pc = 47 then xo_istore 4 47 2 lv st M else none)) else (if pc < 51 then (if pc = 49 then xo_iload 4 49 2 lv st M else none) else (if pc = 51 then xo_iconst 8 51 2 lv st M else none)))))) else (if pc < 85 then (if pc < 69 then (if pc < 59 then (if pc < 56 then (if pc = 53 then xo_icmp .ge 52 53 3 lv st M else none) else (if pc < 57 then (if pc = 56 then xo_lload 1 56 1 lv st M else none) else (if pc = 57 then xo_iload 4 57 2 lv st M else none))) else (if pc < 64 then (if pc < 62 then (if pc = 59 then xo_call false 1 18 st else none) else (if pc = 62 then xo_istore 5 62 2 lv st M else none)) else (if pc < 66 then (if pc = 64 then xo_iload 5 64 2 lv st M else none) else (if pc = 66 then xo_if .eq 33 66 3 lv st M else none)))) else (if pc < 76 then (if pc < 70 then (if pc = 69 then xo_aload 0 69 1 lv st M else none) else (if pc < 73 then (if pc = 70 then xo_getf 0 0 70 3 lv st M else none) else (if pc = 73 then xo_getf 1 0 73 3 lv st M else none))) else (if pc < 80 then (if pc < 77 then (if pc = 76 then xo_aload 0 76 1 lv st M else none) else (if pc = 77 then xo_getf 0 0 77 3 lv st M else none)) else (if pc < 83 then (if pc = 80 then xo_getf 1 1 80 3 lv st M else none) else (if pc = 83 then xo_iload 5 83 2 lv st M else none))))) else (if pc < 96 then (if pc < 90 then (if pc < 86 then (if pc = 85 then xo_iast 85 1 lv st M else none) else (if pc < 87 then (if pc = 86 then xo_aload 0 86 1 lv st M else none) else (if pc = 87 then xo_getf 0 0 87 3 lv st M else none))) else (if pc < 94 then (if pc < 91 then (if pc = 90 then xo_dup 90 1 lv st M else none) else (if pc = 91 then xo_getf 1 1 91 3 lv st M else none)) else (if pc < 95 then (if pc = 94 then xo_iconst 1 94 1 lv st M else none) else (if pc = 95 then xo_iadd 95 1 lv st M else none)))) else (if pc < 105 then (if pc < 99 then (if pc = 96 then xo_puti 1 1 96 3 lv st M else none) else (if pc < 102 then (if pc = 99 then xo_iinc 4 1 99 3 lv st M else none) else (if pc = 102 then xo_goto (-53) 102 lv st M else none))) else (if pc < 109 then (if pc < 106 then (if pc = 105 then xo_aload 0 105 1 lv st M else none) else (if pc = 106 then xo_getf 0 0 106 3 lv st M else none)) else (if pc < 112 then (if pc = 109 then xo_getf 1 1 109 3 lv st M else none) else (if pc = 112 then xo_ret 1 st M else none))))))
def cd_2 (pc : Nat) (lv : XL) (st : List XV) (M : XM) : Option XN := if pc < 9 then (if pc < 4 then (if pc < 1 then (if pc = 0 then xo_aload 0 0 1 lv st M else none) else (if pc = 1 then xo_getf 0 0 1 3 lv st M else none)) else (if pc < 7 then (if pc = 4 then xo_getf 1 1 4 3 lv st M else none) else (if pc < 8 then (if pc = 7 then xo_istore 1 7 1 lv st M else none) else (if pc = 8 then xo_aload 0 8 1 lv st M else none)))) else (if pc < 13 then (if pc < 12 then (if pc = 9 then xo_getf 0 0 9 3 lv st M else none) else (if pc = 12 then xo_iconst 0 12 1 lv st M else none)) else (if pc < 16 then (if pc = 13 then xo_puti 1 1 13 3 lv st M else none) else (if pc < 17 then (if pc = 16 then xo_iload 1 16 1 lv st M else none) else (if pc = 17 then xo_ret 2 st M else none))))
def cd_3 (pc : Nat) (lv : XL) (st : List XV) (M : XM) : Option XN := if pc < 59 then (if pc < 34 then (if pc < 21 then (if pc < 6 then (if pc < 2 then (if pc < 1 then (if pc = 0 then xo_iload 1 0 1 lv st M else none) else (if pc = 1 then xo_iconst 1 1 1 lv st M else none)) else (if pc < 5 then (if pc = 2 then xo_icmp .lt 9 2 3 lv st M else none) else (if pc = 5 then xo_iload 1 5 1 lv st M else none))) else (if pc < 11 then (if pc < 8 then (if pc = 6 then xo_iconst 16 6 2 lv st M else none) else (if pc = 8 then xo_icmp .le 13 8 3 lv st M else none)) else (if pc < 14 then (if pc = 11 then xo_throw 1 M else none) else (if pc = 14 then xo_dup 14 1 lv st M else none)))) else (if pc < 27 then (if pc < 25 then (if pc < 22 then (if pc = 21 then xo_aload 0 21 1 lv st M else none) else (if pc = 22 then xo_getf 0 5 22 3 lv st M else none)) else (if pc < 26 then (if pc = 25 then xo_iconst 0 25 1 lv st M else none) else (if pc = 26 then xo_aald 26 1 lv st M else none))) else (if pc < 29 then (if pc < 28 then (if pc = 27 then xo_astore 2 27 1 lv st M else none) else (if pc = 28 then xo_aload 2 28 1 lv st M else none)) else (if pc < 30 then (if pc = 29 then xo_iload 1 29 1 lv st M else none) else (if pc < 33 then (if pc = 30 then xo_call true 3 54 st else none) else (if pc = 33 then xo_iconst 0 33 1 lv st M else none)))))) else (if pc < 46 then (if pc < 40 then (if pc < 36 then (if pc < 35 then (if pc = 34 then xo_istore 3 34 1 lv st M else none) else (if pc = 35 then xo_iload 3 35 1 lv st M else none)) else (if pc < 37 then (if pc = 36 then xo_iload 1 36 1 lv st M else none) else (if pc = 37 then xo_icmp .ge 34 37 3 lv st M else none))) else (if pc < 44 then (if pc < 41 then (if pc = 40 then xo_aload 0 40 1 lv st M else none) else (if pc = 41 then xo_getf 0 3 41 3 lv st M else none)) else (if pc < 45 then (if pc = 44 then xo_iload 3 44 1 lv st M else none) else (if pc = 45 then xo_iconst 0 45 1 lv st M else none)))) else (if pc < 52 then (if pc < 48 then (if pc < 47 then (if pc = 46 then xo_iload 3 46 1 lv st M else none) else (if pc = 47 then xo_iconst 0 47 1 lv st M else none)) else (if pc < 49 then (if pc = 48 then xo_iconst 0 48 1 lv st M else none) else (if pc = 49 then xo_call true 3 40 st else none))) else (if pc < 56 then (if pc < 53 then (if pc = 52 then xo_aload 2 52 1 lv st M else none) else (if pc = 53 then xo_getf 6 3 53 3 lv st M else none)) else (if pc < 57 then (if pc = 56 then xo_iload 3 56 1 lv st M else none) else (if pc < 58 then (if pc = 57 then xo_iconst 0 57 1 lv st M else none) else (if pc = 58 then xo_iast 58 1 lv st M else none))))))) else (if pc < 90 then (if pc < 73 then (if pc < 65 then (if pc < 61 then (if pc < 60 then (if pc = 59 then xo_aload 2 59 1 lv st M else none) else (if pc = 60 then xo_iload 3 60 1 lv st M else none)) else (if pc < 62 then (if pc = 61 then xo_iload 3 61 1 lv st M else none) else (if pc = 62 then xo_call true 3 57 st else none))) else (if pc < 71 then (if pc < 68 then (if pc = 65 then xo_iinc 3 1 65 3 lv st M else none) else (if pc = 68 then xo_goto (-33) 68 lv st M else none)) else (if pc < 72 then (if pc = 71 then xo_aload 2 71 1 lv st M else none) else (if pc = 72 then xo_iload 1 72 1 lv st M else none)))) else (if pc < 81 then (if pc < 77 then (if pc < 76 then (if pc = 73 then xo_puti 6 5 73 3 lv st M else none) else (if pc = 76 then xo_aload 2 76 1 lv st M else none)) else (if pc < 78 then (if pc = 77 then xo_iconst 0 77 1 lv st M else none) else (if pc = 78 then xo_puti 6 6 78 3 lv st M else none))) else (if pc < 83 then (if pc < 82 then (if pc = 81 then xo_aload 2 81 1 lv st M else none) else (if pc = 82 then xo_iconst 0 82 1 lv st M else none)) else (if pc < 86 then (if pc = 83 then xo_puti 6 7 83 3 lv st M else none) else (if pc < 87 then (if pc = 86 then xo_aload 2 86 1 lv st M else none) else (if pc = 87 then xo_getf 6 4 87 3 lv st M else none)))))) else (if pc < 100 then (if pc < 94 then (if pc < 92 then (if pc < 91 then (if pc = 90 then xo_iconst 0 90 1 lv st M else none) else (if pc = 91 then xo_iconst 1 91 1 lv st M else none)) else (if pc < 93 then (if pc = 92 then xo_iast 92 1 lv st M else none) else (if pc = 93 then xo_aload 2 93 1 lv st M else none))) else (if pc < 98 then (if pc < 97 then (if pc = 94 then xo_getf 6 4 94 3 lv st M else none) else (if pc = 97 then xo_iconst 1 97 1 lv st M else none)) else (if pc < 99 then (if pc = 98 then xo_iconst (-1) 98 1 lv st M else none) else (if pc = 99 then xo_iast 99 1 lv st M else none)))) else (if pc < 106 then (if pc < 104 then (if pc < 101 then (if pc = 100 then xo_aload 2 100 1 lv st M else none) else (if pc = 101 then xo_getf 6 4 101 3 lv st M else none)) else (if pc < 105 then (if pc = 104 then xo_iconst 2 104 1 lv st M else none) else (if pc = 105 then xo_iconst (-1) 105 1 lv st M else none))) else (if pc < 108 then (if pc < 107 then (if pc = 106 then xo_iast 106 1 lv st M else none) else (if pc = 107 then xo_aload 0 107 1 lv st M else none)) else (if pc < 109 then (if pc = 108 then xo_iconst 0 108 1 lv st M else none) else (if pc < 112 then (if pc = 109 then xo_puti 0 6 109 3 lv st M else none) else (if pc = 112 then xo_ret 3 st M else none)))))))
def cd_4 (pc : Nat) (lv : XL) (st : List XV) (M : XM) : Option XN := if pc < 48 then (if pc < 23 then (if pc < 6 then (if pc < 4 then (if pc < 1 then (if pc = 0 then xo_aload 0 0 1 lv st M else none) else (if pc = 1 then xo_getf 0 5 1 3 lv st M else none)) else (if pc < 5 then (if pc = 4 then xo_iconst 0 4 1 lv st M else none) else (if pc = 5 then xo_aald 5 1 lv st M else none))) else (if pc < 12 then (if pc < 9 then (if pc = 6 then xo_getf 6 0 6 3 lv st M else none) else (if pc = 9 then xo_if .ne 13 9 3 lv st M else none)) else (if pc < 15 then (if pc = 12 then xo_throw 2 M else none) else (if pc < 22 then (if pc = 15 then xo_dup 15 1 lv st M else none) else (if pc = 22 then xo_iload 1 22 1 lv st M else none))))) else (if pc < 39 then (if pc < 29 then (if pc < 26 then (if pc = 23 then xo_call false 4 17 st else none) else (if pc = 26 then xo_if .ne 13 26 3 lv st M else none)) else (if pc < 32 then (if pc = 29 then xo_throw 1 M else none) else (if pc = 32 then xo_dup 32 1 lv st M else none))) else (if pc < 41 then (if pc < 40 then (if pc = 39 then xo_aload 0 39 1 lv st M else none) else (if pc = 40 then xo_iconst (-1) 40 1 lv st M else none)) else (if pc < 44 then (if pc = 41 then xo_puti 0 7 41 3 lv st M else none) else (if pc < 45 then (if pc = 44 then xo_aload 0 44 1 lv st M else none) else (if pc = 45 then xo_call true 4 20 st else none)))))) else (if pc < 63 then (if pc < 54 then (if pc < 50 then (if pc < 49 then (if pc = 48 then xo_istore 2 48 1 lv st M else none) else (if pc = 49 then xo_iload 2 49 1 lv st M else none)) else (if pc < 53 then (if pc = 50 then xo_if .ne 9 50 3 lv st M else none) else (if pc = 53 then xo_aload 0 53 1 lv st M else none))) else (if pc < 58 then (if pc < 55 then (if pc = 54 then xo_iload 1 54 1 lv st M else none) else (if pc = 55 then xo_call true 4 21 st else none)) else (if pc < 59 then (if pc = 58 then xo_istore 2 58 1 lv st M else none) else (if pc < 60 then (if pc = 59 then xo_iload 2 59 1 lv st M else none) else (if pc = 60 then xo_if .ne 16 60 3 lv st M else none))))) else (if pc < 69 then (if pc < 65 then (if pc < 64 then (if pc = 63 then xo_aload 0 63 1 lv st M else none) else (if pc = 64 then xo_iload 1 64 1 lv st M else none)) else (if pc < 68 then (if pc = 65 then xo_call true 4 22 st else none) else (if pc = 68 then xo_aload 0 68 1 lv st M else none))) else (if pc < 73 then (if pc < 72 then (if pc = 69 then xo_getf 0 0 69 3 lv st M else none) else (if pc = 72 then xo_iconst 0 72 1 lv st M else none)) else (if pc < 76 then (if pc = 73 then xo_puti 1 1 73 3 lv st M else none) else (if pc < 77 then (if pc = 76 then xo_iload 2 76 1 lv st M else none) else (if pc = 77 then xo_ret 4 st M else none))))))
def cd_5 (pc : Nat) (lv : XL) (st : List XV) (M : XM) : Option XN := if pc < 1 then (if pc = 0 then xo_aload 0 0 1 lv st M else none) else (if pc < 4 then (if pc = 1 then xo_getf 0 7 1 3 lv st M else none) else (if pc = 4 then xo_ret 5 st M else none))
def cd_6 (pc : Nat) (lv : XL) (st : List XV) (M : XM) : Option XN := if pc < 39 then (if pc < 19 then (if pc < 9 then (if pc < 4 then (if pc < 1 then (if pc = 0 then xo_aload 0 0 1 lv st M else none) else (if pc = 1 then xo_getf 0 6 1 3 lv st M else none)) else (if pc < 7 then (if pc = 4 then xo_if .ne 5 4 3 lv st M else none) else (if pc < 8 then (if pc = 7 then xo_iconst (-1) 7 1 lv st M else none) else (if pc = 8 then xo_ret 6 st M else none)))) else (if pc < 14 then (if pc < 10 then (if pc = 9 then xo_aload 0 9 1 lv st M else none) else (if pc < 11 then (if pc = 10 then xo_dup 10 1 lv st M else none) else (if pc = 11 then xo_getf 0 6 11 3 lv st M else none))) else (if pc < 15 then (if pc = 14 then xo_iconst 1 14 1 lv st M else none) else (if pc < 16 then (if pc = 15 then xo_isub 15 1 lv st M else none) else (if pc = 16 then xo_puti 0 6 16 3 lv st M else none))))) else (if pc < 29 then (if pc < 24 then (if pc < 20 then (if pc = 19 then xo_aload 0 19 1 lv st M else none) else (if pc < 23 then (if pc = 20 then xo_getf 0 5 20 3 lv st M else none) else (if pc = 23 then xo_aload 0 23 1 lv st M else none))) else (if pc < 27 then (if pc = 24 then xo_getf 0 6 24 3 lv st M else none) else (if pc < 28 then (if pc = 27 then xo_aald 27 1 lv st M else none) else (if pc = 28 then xo_astore 1 28 1 lv st M else none)))) else (if pc < 32 then (if pc < 30 then (if pc = 29 then xo_iconst 0 29 1 lv st M else none) else (if pc < 31 then (if pc = 30 then xo_istore 2 30 1 lv st M else none) else (if pc = 31 then xo_iload 2 31 1 lv st M else none))) else (if pc < 33 then (if pc = 32 then xo_aload 1 32 1 lv st M else none) else (if pc < 36 then (if pc = 33 then xo_getf 6 0 33 3 lv st M else none) else (if pc = 36 then xo_icmp .ge 42 36 3 lv st M else none)))))) else (if pc < 59 then (if pc < 47 then (if pc < 42 then (if pc < 40 then (if pc = 39 then xo_iconst 0 39 1 lv st M else none) else (if pc < 41 then (if pc = 40 then xo_istore 3 40 1 lv st M else none) else (if pc = 41 then xo_iload 3 41 1 lv st M else none))) else (if pc < 43 then (if pc = 42 then xo_aload 1 42 1 lv st M else none) else (if pc < 46 then (if pc = 43 then xo_getf 6 2 43 3 lv st M else none) else (if pc = 46 then xo_iload 2 46 1 lv st M else none)))) else (if pc < 52 then (if pc < 48 then (if pc = 47 then xo_iald 47 1 lv st M else none) else (if pc < 51 then (if pc = 48 then xo_icmp .ge 24 48 3 lv st M else none) else (if pc = 51 then xo_aload 0 51 1 lv st M else none))) else (if pc < 55 then (if pc = 52 then xo_getf 0 3 52 3 lv st M else none) else (if pc < 58 then (if pc = 55 then xo_getf 3 4 55 3 lv st M else none) else (if pc = 58 then xo_aload 1 58 1 lv st M else none))))) else (if pc < 69 then (if pc < 64 then (if pc < 60 then (if pc = 59 then xo_iload 2 59 1 lv st M else none) else (if pc < 61 then (if pc = 60 then xo_iload 3 60 1 lv st M else none) else (if pc = 61 then xo_call true 6 56 st else none))) else (if pc < 65 then (if pc = 64 then xo_iload 2 64 1 lv st M else none) else (if pc < 66 then (if pc = 65 then xo_iast 65 1 lv st M else none) else (if pc = 66 then xo_iinc 3 1 66 3 lv st M else none)))) else (if pc < 78 then (if pc < 72 then (if pc = 69 then xo_goto (-28) 69 lv st M else none) else (if pc < 75 then (if pc = 72 then xo_iinc 2 1 72 3 lv st M else none) else (if pc = 75 then xo_goto (-44) 75 lv st M else none))) else (if pc < 79 then (if pc = 78 then xo_aload 0 78 1 lv st M else none) else (if pc < 82 then (if pc = 79 then xo_getf 0 6 79 3 lv st M else none) else (if pc = 82 then xo_ret 6 st M else none))))))
def cd_7 (pc : Nat) (lv : XL) (st : List XV) (M : XM) : Option XN := if pc < 45 then (if pc < 9 then (if pc < 4 then (if pc < 1 then (if pc = 0 then xo_aload 0 0 1 lv st M else none) else (if pc = 1 then xo_getf 0 5 1 3 lv st M else none)) else (if pc < 5 then (if pc = 4 then xo_aload 0 4 1 lv st M else none) else (if pc < 8 then (if pc = 5 then xo_getf 0 6 5 3 lv st M else none) else (if pc = 8 then xo_aald 8 1 lv st M else none)))) else (if pc < 40 then (if pc < 10 then (if pc = 9 then xo_astore 2 9 1 lv st M else none) else (if pc < 11 then (if pc = 10 then xo_iload 1 10 1 lv st M else none) else (if pc = 11 then xo_switch 60 [(0, 40), (1, 45), (2, 50), (3, 55)] lv st M else none))) else (if pc < 41 then (if pc = 40 then xo_aload 0 40 1 lv st M else none) else (if pc < 44 then (if pc = 41 then xo_getf 0 6 41 3 lv st M else none) else (if pc = 44 then xo_ret 7 st M else none))))) else (if pc < 54 then (if pc < 49 then (if pc < 46 then (if pc = 45 then xo_aload 2 45 1 lv st M else none) else (if pc = 46 then xo_getf 6 0 46 3 lv st M else none)) else (if pc < 50 then (if pc = 49 then xo_ret 7 st M else none) else (if pc < 51 then (if pc = 50 then xo_aload 2 50 1 lv st M else none) else (if pc = 51 then xo_getf 6 5 51 3 lv st M else none)))) else (if pc < 59 then (if pc < 55 then (if pc = 54 then xo_ret 7 st M else none) else (if pc < 56 then (if pc = 55 then xo_aload 2 55 1 lv st M else none) else (if pc = 56 then xo_getf 6 6 56 3 lv st M else none))) else (if pc < 60 then (if pc = 59 then xo_ret 7 st M else none) else (if pc < 61 then (if pc = 60 then xo_iconst (-1) 60 1 lv st M else none) else (if pc = 61 then xo_ret 7 st M else none)))))
def cd_8 (pc : Nat) (lv : XL) (st : List XV) (M : XM) : Option XN := if pc < 64 then (if pc < 19 then (if pc < 5 then (if pc < 1 then (if pc = 0 then xo_aload 0 0 1 lv st M else none) else (if pc < 2 then (if pc = 1 then xo_iload 1 1 1 lv st M else none) else (if pc = 2 then xo_call true 8 15 st else none))) else (if pc < 11 then (if pc < 8 then (if pc = 5 then xo_if .ne 13 5 3 lv st M else none) else (if pc = 8 then xo_throw 3 M else none)) else (if pc < 18 then (if pc = 11 then xo_dup 11 1 lv st M else none) else (if pc = 18 then xo_aload 0 18 1 lv st M else none)))) else (if pc < 25 then (if pc < 23 then (if pc < 22 then (if pc = 19 then xo_getf 0 5 19 3 lv st M else none) else (if pc = 22 then xo_iload 1 22 1 lv st M else none)) else (if pc < 24 then (if pc = 23 then xo_aald 23 1 lv st M else none) else (if pc = 24 then xo_astore 3 24 1 lv st M else none))) else (if pc < 60 then (if pc < 26 then (if pc = 25 then xo_iload 2 25 1 lv st M else none) else (if pc = 26 then xo_switch 85 [(0, 60), (1, 65), (2, 70), (3, 75), (4, 80)] lv st M else none)) else (if pc < 61 then (if pc = 60 then xo_aload 3 60 1 lv st M else none) else (if pc = 61 then xo_getf 6 8 61 3 lv st M else none))))) else (if pc < 75 then (if pc < 69 then (if pc < 65 then (if pc = 64 then xo_ret 8 st M else none) else (if pc < 66 then (if pc = 65 then xo_aload 3 65 1 lv st M else none) else (if pc = 66 then xo_getf 6 9 66 3 lv st M else none))) else (if pc < 71 then (if pc < 70 then (if pc = 69 then xo_ret 8 st M else none) else (if pc = 70 then xo_aload 3 70 1 lv st M else none)) else (if pc < 74 then (if pc = 71 then xo_getf 6 10 71 3 lv st M else none) else (if pc = 74 then xo_ret 8 st M else none)))) else (if pc < 81 then (if pc < 79 then (if pc < 76 then (if pc = 75 then xo_aload 3 75 1 lv st M else none) else (if pc = 76 then xo_getf 6 11 76 3 lv st M else none)) else (if pc < 80 then (if pc = 79 then xo_ret 8 st M else none) else (if pc = 80 then xo_aload 3 80 1 lv st M else none))) else (if pc < 85 then (if pc < 84 then (if pc = 81 then xo_getf 6 12 81 3 lv st M else none) else (if pc = 84 then xo_ret 8 st M else none)) else (if pc < 88 then (if pc = 85 then xo_throw 1 M else none) else (if pc = 88 then xo_dup 88 1 lv st M else none)))))
def cd_9 (pc : Nat) (lv : XL) (st : List XV) (M : XM) : Option XN := if pc < 27 then (if pc < 11 then (if pc < 2 then (if pc < 1 then (if pc = 0 then xo_aload 0 0 1 lv st M else none) else (if pc = 1 then xo_iload 1 1 1 lv st M else none)) else (if pc < 5 then (if pc = 2 then xo_call true 9 16 st else none) else (if pc < 8 then (if pc = 5 then xo_if .ne 13 5 3 lv st M else none) else (if pc = 8 then xo_throw 3 M else none)))) else (if pc < 22 then (if pc < 18 then (if pc = 11 then xo_dup 11 1 lv st M else none) else (if pc < 19 then (if pc = 18 then xo_iload 2 18 1 lv st M else none) else (if pc = 19 then xo_if .lt 8 19 3 lv st M else none))) else (if pc < 23 then (if pc = 22 then xo_iload 2 22 1 lv st M else none) else (if pc < 24 then (if pc = 23 then xo_iconst 4 23 1 lv st M else none) else (if pc = 24 then xo_icmp .lt 7 24 3 lv st M else none))))) else (if pc < 39 then (if pc < 32 then (if pc < 28 then (if pc = 27 then xo_iconst (-1) 27 1 lv st M else none) else (if pc < 31 then (if pc = 28 then xo_goto 16 28 lv st M else none) else (if pc = 31 then xo_aload 0 31 1 lv st M else none))) else (if pc < 35 then (if pc = 32 then xo_getf 0 3 32 3 lv st M else none) else (if pc < 38 then (if pc = 35 then xo_getf 3 5 35 3 lv st M else none) else (if pc = 38 then xo_iload 1 38 1 lv st M else none)))) else (if pc < 42 then (if pc < 40 then (if pc = 39 then xo_iconst 4 39 1 lv st M else none) else (if pc < 41 then (if pc = 40 then xo_imul 40 1 lv st M else none) else (if pc = 41 then xo_iload 2 41 1 lv st M else none))) else (if pc < 43 then (if pc = 42 then xo_iadd 42 1 lv st M else none) else (if pc < 44 then (if pc = 43 then xo_iald 43 1 lv st M else none) else (if pc = 44 then xo_ret 9 st M else none)))))
def cd_10 (pc : Nat) (lv : XL) (st : List XV) (M : XM) : Option XN := if pc < 72 then (if pc < 56 then (if pc < 11 then (if pc < 2 then (if pc < 1 then (if pc = 0 then xo_aload 0 0 1 lv st M else none) else (if pc = 1 then xo_iload 1 1 1 lv st M else none)) else (if pc < 5 then (if pc = 2 then xo_call true 10 16 st else none) else (if pc < 8 then (if pc = 5 then xo_if .ne 13 5 3 lv st M else none) else (if pc = 8 then xo_throw 3 M else none)))) else (if pc < 19 then (if pc < 18 then (if pc = 11 then xo_dup 11 1 lv st M else none) else (if pc = 18 then xo_iload 2 18 1 lv st M else none)) else (if pc < 52 then (if pc = 19 then xo_switch 102 [(0, 52), (1, 62), (2, 72), (3, 82), (4, 92)] lv st M else none) else (if pc < 53 then (if pc = 52 then xo_aload 0 52 1 lv st M else none) else (if pc = 53 then xo_getf 0 3 53 3 lv st M else none))))) else (if pc < 63 then (if pc < 60 then (if pc < 59 then (if pc = 56 then xo_getf 3 0 56 3 lv st M else none) else (if pc = 59 then xo_iload 1 59 1 lv st M else none)) else (if pc < 61 then (if pc = 60 then xo_iald 60 1 lv st M else none) else (if pc < 62 then (if pc = 61 then xo_ret 10 st M else none) else (if pc = 62 then xo_aload 0 62 1 lv st M else none)))) else (if pc < 69 then (if pc < 66 then (if pc = 63 then xo_getf 0 3 63 3 lv st M else none) else (if pc = 66 then xo_getf 3 1 66 3 lv st M else none)) else (if pc < 70 then (if pc = 69 then xo_iload 1 69 1 lv st M else none) else (if pc < 71 then (if pc = 70 then xo_iald 70 1 lv st M else none) else (if pc = 71 then xo_ret 10 st M else none)))))) else (if pc < 90 then (if pc < 81 then (if pc < 76 then (if pc < 73 then (if pc = 72 then xo_aload 0 72 1 lv st M else none) else (if pc = 73 then xo_getf 0 3 73 3 lv st M else none)) else (if pc < 79 then (if pc = 76 then xo_getf 3 2 76 3 lv st M else none) else (if pc < 80 then (if pc = 79 then xo_iload 1 79 1 lv st M else none) else (if pc = 80 then xo_iald 80 1 lv st M else none)))) else (if pc < 83 then (if pc < 82 then (if pc = 81 then xo_ret 10 st M else none) else (if pc = 82 then xo_aload 0 82 1 lv st M else none)) else (if pc < 86 then (if pc = 83 then xo_getf 0 3 83 3 lv st M else none) else (if pc < 89 then (if pc = 86 then xo_getf 3 3 86 3 lv st M else none) else (if pc = 89 then xo_iload 1 89 1 lv st M else none))))) else (if pc < 99 then (if pc < 92 then (if pc < 91 then (if pc = 90 then xo_iald 90 1 lv st M else none) else (if pc = 91 then xo_ret 10 st M else none)) else (if pc < 93 then (if pc = 92 then xo_aload 0 92 1 lv st M else none) else (if pc < 96 then (if pc = 93 then xo_getf 0 3 93 3 lv st M else none) else (if pc = 96 then xo_getf 3 4 96 3 lv st M else none)))) else (if pc < 101 then (if pc < 100 then (if pc = 99 then xo_iload 1 99 1 lv st M else none) else (if pc = 100 then xo_iald 100 1 lv st M else none)) else (if pc < 102 then (if pc = 101 then xo_ret 10 st M else none) else (if pc < 105 then (if pc = 102 then xo_throw 1 M else none) else (if pc = 105 then xo_dup 105 1 lv st M else none))))))
def cd_11 (pc : Nat) (lv : XL) (st : List XV) (M : XM) : Option XN := if pc < 50 then (if pc < 26 then (if pc < 18 then (if pc < 5 then (if pc < 1 then (if pc = 0 then xo_aload 0 0 1 lv st M else none) else (if pc < 2 then (if pc = 1 then xo_iload 1 1 1 lv st M else none) else (if pc = 2 then xo_call true 11 15 st else none))) else (if pc < 8 then (if pc = 5 then xo_if .ne 13 5 3 lv st M else none) else (if pc < 11 then (if pc = 8 then xo_throw 3 M else none) else (if pc = 11 then xo_dup 11 1 lv st M else none)))) else (if pc < 23 then (if pc < 19 then (if pc = 18 then xo_aload 0 18 1 lv st M else none) else (if pc < 22 then (if pc = 19 then xo_getf 0 5 19 3 lv st M else none) else (if pc = 22 then xo_iload 1 22 1 lv st M else none))) else (if pc < 24 then (if pc = 23 then xo_iconst 1 23 1 lv st M else none) else (if pc < 25 then (if pc = 24 then xo_isub 24 1 lv st M else none) else (if pc = 25 then xo_aald 25 1 lv st M else none))))) else (if pc < 36 then (if pc < 30 then (if pc < 27 then (if pc = 26 then xo_astore 3 26 1 lv st M else none) else (if pc < 28 then (if pc = 27 then xo_iload 2 27 1 lv st M else none) else (if pc = 28 then xo_istore 4 28 2 lv st M else none))) else (if pc < 31 then (if pc = 30 then xo_aload 3 30 1 lv st M else none) else (if pc < 34 then (if pc = 31 then xo_getf 6 7 31 3 lv st M else none) else (if pc = 34 then xo_istore 5 34 2 lv st M else none)))) else (if pc < 42 then (if pc < 38 then (if pc = 36 then xo_iload 5 36 2 lv st M else none) else (if pc < 39 then (if pc = 38 then xo_aload 0 38 1 lv st M else none) else (if pc = 39 then xo_getf 0 5 39 3 lv st M else none))) else (if pc < 44 then (if pc < 43 then (if pc = 42 then xo_iload 1 42 1 lv st M else none) else (if pc = 43 then xo_aald 43 1 lv st M else none)) else (if pc < 47 then (if pc = 44 then xo_getf 6 7 44 3 lv st M else none) else (if pc = 47 then xo_icmp .ge 53 47 3 lv st M else none)))))) else (if pc < 78 then (if pc < 62 then (if pc < 56 then (if pc < 52 then (if pc = 50 then xo_iload 4 50 2 lv st M else none) else (if pc < 55 then (if pc = 52 then xo_if .lt 48 52 3 lv st M else none) else (if pc = 55 then xo_aload 0 55 1 lv st M else none))) else (if pc < 59 then (if pc = 56 then xo_getf 0 4 56 3 lv st M else none) else (if pc < 61 then (if pc = 59 then xo_iload 5 59 2 lv st M else none) else (if pc = 61 then xo_aload 3 61 1 lv st M else none)))) else (if pc < 69 then (if pc < 65 then (if pc = 62 then xo_call true 11 35 st else none) else (if pc < 67 then (if pc = 65 then xo_istore 6 65 2 lv st M else none) else (if pc = 67 then xo_iload 4 67 2 lv st M else none))) else (if pc < 74 then (if pc < 71 then (if pc = 69 then xo_iload 6 69 2 lv st M else none) else (if pc = 71 then xo_icmp .ge 16 71 3 lv st M else none)) else (if pc < 75 then (if pc = 74 then xo_aload 0 74 1 lv st M else none) else (if pc = 75 then xo_getf 0 4 75 3 lv st M else none))))) else (if pc < 89 then (if pc < 83 then (if pc < 80 then (if pc = 78 then xo_iload 5 78 2 lv st M else none) else (if pc < 81 then (if pc = 80 then xo_aload 3 80 1 lv st M else none) else (if pc = 81 then xo_iload 4 81 2 lv st M else none))) else (if pc < 86 then (if pc = 83 then xo_call true 11 36 st else none) else (if pc < 87 then (if pc = 86 then xo_ret 11 st M else none) else (if pc = 87 then xo_iload 4 87 2 lv st M else none)))) else (if pc < 94 then (if pc < 91 then (if pc = 89 then xo_iload 6 89 2 lv st M else none) else (if pc < 92 then (if pc = 91 then xo_isub 91 1 lv st M else none) else (if pc = 92 then xo_istore 4 92 2 lv st M else none))) else (if pc < 100 then (if pc < 97 then (if pc = 94 then xo_iinc 5 1 94 3 lv st M else none) else (if pc = 97 then xo_goto (-61) 97 lv st M else none)) else (if pc < 101 then (if pc = 100 then xo_iconst (-1) 100 1 lv st M else none) else (if pc = 101 then xo_ret 11 st M else none))))))
def cd_12 (pc : Nat) (lv : XL) (st : List XV) (M : XM) : Option XN := if pc < 22 then (if pc < 10 then (if pc < 5 then (if pc < 1 then (if pc = 0 then xo_aload 0 0 1 lv st M else none) else (if pc < 4 then (if pc = 1 then xo_getf 0 5 1 3 lv st M else none) else (if pc = 4 then xo_aload 0 4 1 lv st M else none))) else (if pc < 8 then (if pc = 5 then xo_getf 0 6 5 3 lv st M else none) else (if pc < 9 then (if pc = 8 then xo_aald 8 1 lv st M else none) else (if pc = 9 then xo_astore 3 9 1 lv st M else none)))) else (if pc < 15 then (if pc < 11 then (if pc = 10 then xo_aload 3 10 1 lv st M else none) else (if pc < 12 then (if pc = 11 then xo_iload 1 11 1 lv st M else none) else (if pc = 12 then xo_call true 12 55 st else none))) else (if pc < 18 then (if pc = 15 then xo_if .eq 17 15 3 lv st M else none) else (if pc < 19 then (if pc = 18 then xo_iload 2 18 1 lv st M else none) else (if pc = 19 then xo_if .lt 13 19 3 lv st M else none))))) else (if pc < 32 then (if pc < 27 then (if pc < 23 then (if pc = 22 then xo_iload 2 22 1 lv st M else none) else (if pc < 24 then (if pc = 23 then xo_aload 3 23 1 lv st M else none) else (if pc = 24 then xo_getf 6 2 24 3 lv st M else none))) else (if pc < 28 then (if pc = 27 then xo_iload 1 27 1 lv st M else none) else (if pc < 29 then (if pc = 28 then xo_iald 28 1 lv st M else none) else (if pc = 29 then xo_icmp .lt 5 29 3 lv st M else none)))) else (if pc < 35 then (if pc < 33 then (if pc = 32 then xo_iconst (-1) 32 1 lv st M else none) else (if pc < 34 then (if pc = 33 then xo_ret 12 st M else none) else (if pc = 34 then xo_aload 3 34 1 lv st M else none))) else (if pc < 37 then (if pc < 36 then (if pc = 35 then xo_iload 1 35 1 lv st M else none) else (if pc = 36 then xo_iload 2 36 1 lv st M else none)) else (if pc < 40 then (if pc = 37 then xo_call true 12 56 st else none) else (if pc = 40 then xo_ret 12 st M else none)))))
def cd_13 (pc : Nat) (lv : XL) (st : List XV) (M : XM) : Option XN := if pc < 12 then (if pc < 8 then (if pc < 4 then (if pc < 1 then (if pc = 0 then xo_aload 0 0 1 lv st M else none) else (if pc = 1 then xo_getf 0 5 1 3 lv st M else none)) else (if pc < 5 then (if pc = 4 then xo_aload 0 4 1 lv st M else none) else (if pc = 5 then xo_getf 0 6 5 3 lv st M else none))) else (if pc < 10 then (if pc < 9 then (if pc = 8 then xo_aald 8 1 lv st M else none) else (if pc = 9 then xo_astore 2 9 1 lv st M else none)) else (if pc < 11 then (if pc = 10 then xo_aload 2 10 1 lv st M else none) else (if pc = 11 then xo_iload 1 11 1 lv st M else none)))) else (if pc < 22 then (if pc < 18 then (if pc < 15 then (if pc = 12 then xo_call true 13 55 st else none) else (if pc = 15 then xo_if .eq 12 15 3 lv st M else none)) else (if pc < 19 then (if pc = 18 then xo_aload 2 18 1 lv st M else none) else (if pc = 19 then xo_getf 6 3 19 3 lv st M else none))) else (if pc < 24 then (if pc < 23 then (if pc = 22 then xo_iload 1 22 1 lv st M else none) else (if pc = 23 then xo_iald 23 1 lv st M else none)) else (if pc < 27 then (if pc = 24 then xo_goto 4 24 lv st M else none) else (if pc < 28 then (if pc = 27 then xo_iconst (-1) 27 1 lv st M else none) else (if pc = 28 then xo_ret 13 st M else none)))))
def cd_14 (pc : Nat) (lv : XL) (st : List XV) (M : XM) : Option XN := if pc < 15 then (if pc < 7 then (if pc < 1 then (if pc = 0 then xo_iload 1 0 1 lv st M else none) else (if pc < 4 then (if pc = 1 then xo_call false 14 17 st else none) else (if pc = 4 then xo_if .eq 20 4 3 lv st M else none))) else (if pc < 11 then (if pc < 8 then (if pc = 7 then xo_aload 0 7 1 lv st M else none) else (if pc = 8 then xo_getf 0 5 8 3 lv st M else none)) else (if pc < 12 then (if pc = 11 then xo_aload 0 11 1 lv st M else none) else (if pc = 12 then xo_getf 0 6 12 3 lv st M else none)))) else (if pc < 20 then (if pc < 16 then (if pc = 15 then xo_aald 15 1 lv st M else none) else (if pc < 19 then (if pc = 16 then xo_getf 6 4 16 3 lv st M else none) else (if pc = 19 then xo_iload 1 19 1 lv st M else none))) else (if pc < 24 then (if pc < 21 then (if pc = 20 then xo_iald 20 1 lv st M else none) else (if pc = 21 then xo_goto 4 21 lv st M else none)) else (if pc < 25 then (if pc = 24 then xo_iconst (-1) 24 1 lv st M else none) else (if pc = 25 then xo_ret 14 st M else none))))
def cd_15 (pc : Nat) (lv : XL) (st : List XV) (M : XM) : Option XN := if pc < 7 then (if pc < 2 then (if pc < 1 then (if pc = 0 then xo_iload 1 0 1 lv st M else none) else (if pc = 1 then xo_iconst 1 1 1 lv st M else none)) else (if pc < 5 then (if pc = 2 then xo_icmp .lt 15 2 3 lv st M else none) else (if pc < 6 then (if pc = 5 then xo_iload 1 5 1 lv st M else none) else (if pc = 6 then xo_aload 0 6 1 lv st M else none)))) else (if pc < 14 then (if pc < 10 then (if pc = 7 then xo_getf 0 6 7 3 lv st M else none) else (if pc < 13 then (if pc = 10 then xo_icmp .gt 7 10 3 lv st M else none) else (if pc = 13 then xo_iconst 1 13 1 lv st M else none))) else (if pc < 17 then (if pc = 14 then xo_goto 4 14 lv st M else none) else (if pc < 18 then (if pc = 17 then xo_iconst 0 17 1 lv st M else none) else (if pc = 18 then xo_ret 15 st M else none))))
def cd_16 (pc : Nat) (lv : XL) (st : List XV) (M : XM) : Option XN := if pc < 13 then (if pc < 5 then (if pc < 1 then (if pc = 0 then xo_iload 1 0 1 lv st M else none) else (if pc < 4 then (if pc = 1 then xo_if .lt 23 1 3 lv st M else none) else (if pc = 4 then xo_iload 1 4 1 lv st M else none))) else (if pc < 9 then (if pc < 6 then (if pc = 5 then xo_aload 0 5 1 lv st M else none) else (if pc = 6 then xo_getf 0 5 6 3 lv st M else none)) else (if pc < 10 then (if pc = 9 then xo_aload 0 9 1 lv st M else none) else (if pc = 10 then xo_getf 0 6 10 3 lv st M else none)))) else (if pc < 20 then (if pc < 14 then (if pc = 13 then xo_aald 13 1 lv st M else none) else (if pc < 17 then (if pc = 14 then xo_getf 6 5 14 3 lv st M else none) else (if pc = 17 then xo_icmp .ge 7 17 3 lv st M else none))) else (if pc < 24 then (if pc < 21 then (if pc = 20 then xo_iconst 1 20 1 lv st M else none) else (if pc = 21 then xo_goto 4 21 lv st M else none)) else (if pc < 25 then (if pc = 24 then xo_iconst 0 24 1 lv st M else none) else (if pc = 25 then xo_ret 16 st M else none))))
def cd_17 (pc : Nat) (lv : XL) (st : List XV) (M : XM) : Option XN := if pc < 6 then (if pc < 4 then (if pc < 1 then (if pc = 0 then xo_iload 0 0 1 lv st M else none) else (if pc = 1 then xo_if .lt 12 1 3 lv st M else none)) else (if pc < 5 then (if pc = 4 then xo_iload 0 4 1 lv st M else none) else (if pc = 5 then xo_iconst 3 5 1 lv st M else none))) else (if pc < 10 then (if pc < 9 then (if pc = 6 then xo_icmp .ge 7 6 3 lv st M else none) else (if pc = 9 then xo_iconst 1 9 1 lv st M else none)) else (if pc < 13 then (if pc = 10 then xo_goto 4 10 lv st M else none) else (if pc < 14 then (if pc = 13 then xo_iconst 0 13 1 lv st M else none) else (if pc = 14 then xo_ret 17 st M else none))))
def cd_18 (pc : Nat) (lv : XL) (st : List XV) (M : XM) : Option XN := if pc < 5 then (if pc < 3 then (if pc < 1 then (if pc = 0 then xo_lload 0 0 1 lv st M else none) else (if pc = 1 then xo_iconst 8 1 2 lv st M else none)) else (if pc < 4 then (if pc = 3 then xo_iload 2 3 1 lv st M else none) else (if pc = 4 then xo_imul 4 1 lv st M else none))) else (if pc < 9 then (if pc < 6 then (if pc = 5 then xo_lushr 5 1 lv st M else none) else (if pc = 6 then xo_lconst 255 6 3 lv st M else none)) else (if pc < 10 then (if pc = 9 then xo_land 9 1 lv st M else none) else (if pc < 11 then (if pc = 10 then xo_l2i 10 1 lv st M else none) else (if pc = 11 then xo_ret 18 st M else none))))
def cd_19 (pc : Nat) (lv : XL) (st : List XV) (M : XM) : Option XN := if pc < 4 then (if pc < 2 then (if pc < 1 then (if pc = 0 then xo_iload 0 0 1 lv st M else none) else (if pc = 1 then xo_iconst 2 1 1 lv st M else none)) else (if pc < 3 then (if pc = 2 then xo_irem 2 1 lv st M else none) else (if pc = 3 then xo_iconst 1 3 1 lv st M else none))) else (if pc < 8 then (if pc < 7 then (if pc = 4 then xo_icmp .ne 7 4 3 lv st M else none) else (if pc = 7 then xo_iconst 0 7 1 lv st M else none)) else (if pc < 11 then (if pc = 8 then xo_goto 4 8 lv st M else none) else (if pc < 12 then (if pc = 11 then xo_iconst 1 11 1 lv st M else none) else (if pc = 12 then xo_ret 19 st M else none))))
def cd_20 (pc : Nat) (lv : XL) (st : List XV) (M : XM) : Option XN := if pc < 66 then (if pc < 29 then (if pc < 14 then (if pc < 8 then (if pc < 4 then (if pc < 1 then (if pc = 0 then xo_aload 0 0 1 lv st M else none) else (if pc = 1 then xo_getf 0 5 1 3 lv st M else none)) else (if pc < 5 then (if pc = 4 then xo_aload 0 4 1 lv st M else none) else (if pc = 5 then xo_getf 0 6 5 3 lv st M else none))) else (if pc < 10 then (if pc < 9 then (if pc = 8 then xo_aald 8 1 lv st M else none) else (if pc = 9 then xo_astore 1 9 1 lv st M else none)) else (if pc < 11 then (if pc = 10 then xo_aload 0 10 1 lv st M else none) else (if pc = 11 then xo_getf 0 0 11 3 lv st M else none)))) else (if pc < 20 then (if pc < 18 then (if pc < 17 then (if pc = 14 then xo_call true 20 29 st else none) else (if pc = 17 then xo_istore 2 17 1 lv st M else none)) else (if pc < 19 then (if pc = 18 then xo_iload 2 18 1 lv st M else none) else (if pc = 19 then xo_iconst (-1) 19 1 lv st M else none))) else (if pc < 24 then (if pc < 23 then (if pc = 20 then xo_icmp .eq 10 20 3 lv st M else none) else (if pc = 23 then xo_aload 0 23 1 lv st M else none)) else (if pc < 25 then (if pc = 24 then xo_iload 2 24 1 lv st M else none) else (if pc < 28 then (if pc = 25 then xo_puti 0 7 25 3 lv st M else none) else (if pc = 28 then xo_iconst 1 28 1 lv st M else none)))))) else (if pc < 46 then (if pc < 37 then (if pc < 31 then (if pc < 30 then (if pc = 29 then xo_ret 20 st M else none) else (if pc = 30 then xo_aload 0 30 1 lv st M else none)) else (if pc < 34 then (if pc = 31 then xo_getf 0 0 31 3 lv st M else none) else (if pc = 34 then xo_getf 1 4 34 3 lv st M else none))) else (if pc < 41 then (if pc < 38 then (if pc = 37 then xo_aload 1 37 1 lv st M else none) else (if pc = 38 then xo_getf 6 0 38 3 lv st M else none)) else (if pc < 44 then (if pc = 41 then xo_icmp .eq 5 41 3 lv st M else none) else (if pc < 45 then (if pc = 44 then xo_iconst 2 44 1 lv st M else none) else (if pc = 45 then xo_ret 20 st M else none))))) else (if pc < 54 then (if pc < 50 then (if pc < 47 then (if pc = 46 then xo_aload 0 46 1 lv st M else none) else (if pc = 47 then xo_getf 0 0 47 3 lv st M else none)) else (if pc < 53 then (if pc = 50 then xo_getf 1 5 50 3 lv st M else none) else (if pc = 53 then xo_iconst 1 53 1 lv st M else none))) else (if pc < 58 then (if pc < 57 then (if pc = 54 then xo_icmp .lt 15 54 3 lv st M else none) else (if pc = 57 then xo_aload 0 57 1 lv st M else none)) else (if pc < 61 then (if pc = 58 then xo_getf 0 0 58 3 lv st M else none) else (if pc < 64 then (if pc = 61 then xo_getf 1 5 61 3 lv st M else none) else (if pc = 64 then xo_iconst 16 64 2 lv st M else none))))))) else (if pc < 97 then (if pc < 82 then (if pc < 72 then (if pc < 70 then (if pc < 69 then (if pc = 66 then xo_icmp .le 5 66 3 lv st M else none) else (if pc = 69 then xo_iconst 3 69 1 lv st M else none)) else (if pc < 71 then (if pc = 70 then xo_ret 20 st M else none) else (if pc = 71 then xo_aload 0 71 1 lv st M else none))) else (if pc < 76 then (if pc < 75 then (if pc = 72 then xo_getf 0 1 72 3 lv st M else none) else (if pc = 75 then xo_aload 0 75 1 lv st M else none)) else (if pc < 79 then (if pc = 76 then xo_getf 0 0 76 3 lv st M else none) else (if pc = 79 then xo_call true 20 50 st else none)))) else (if pc < 90 then (if pc < 86 then (if pc < 83 then (if pc = 82 then xo_aload 0 82 1 lv st M else none) else (if pc = 83 then xo_getf 0 0 83 3 lv st M else none)) else (if pc < 87 then (if pc = 86 then xo_aload 1 86 1 lv st M else none) else (if pc = 87 then xo_call true 20 32 st else none))) else (if pc < 92 then (if pc < 91 then (if pc = 90 then xo_istore 3 90 1 lv st M else none) else (if pc = 91 then xo_iload 3 91 1 lv st M else none)) else (if pc < 93 then (if pc = 92 then xo_iconst (-1) 92 1 lv st M else none) else (if pc < 96 then (if pc = 93 then xo_icmp .eq 10 93 3 lv st M else none) else (if pc = 96 then xo_aload 0 96 1 lv st M else none)))))) else (if pc < 114 then (if pc < 103 then (if pc < 101 then (if pc < 98 then (if pc = 97 then xo_iload 3 97 1 lv st M else none) else (if pc = 98 then xo_puti 0 7 98 3 lv st M else none)) else (if pc < 102 then (if pc = 101 then xo_iconst 4 101 1 lv st M else none) else (if pc = 102 then xo_ret 20 st M else none))) else (if pc < 107 then (if pc < 104 then (if pc = 103 then xo_aload 0 103 1 lv st M else none) else (if pc = 104 then xo_getf 0 1 104 3 lv st M else none)) else (if pc < 110 then (if pc = 107 then xo_call true 20 51 st else none) else (if pc < 112 then (if pc = 110 then xo_istore 4 110 2 lv st M else none) else (if pc = 112 then xo_iload 4 112 2 lv st M else none))))) else (if pc < 121 then (if pc < 118 then (if pc < 115 then (if pc = 114 then xo_iconst (-1) 114 1 lv st M else none) else (if pc = 115 then xo_icmp .eq 11 115 3 lv st M else none)) else (if pc < 119 then (if pc = 118 then xo_aload 0 118 1 lv st M else none) else (if pc = 119 then xo_iload 4 119 2 lv st M else none))) else (if pc < 125 then (if pc < 124 then (if pc = 121 then xo_puti 0 7 121 3 lv st M else none) else (if pc = 124 then xo_iconst 5 124 1 lv st M else none)) else (if pc < 126 then (if pc = 125 then xo_ret 20 st M else none) else (if pc < 127 then (if pc = 126 then xo_iconst 0 126 1 lv st M else none) else (if pc = 127 then xo_ret 20 st M else none)))))))
def cd_21 (pc : Nat) (lv : XL) (st : List XV) (M : XM) : Option XN := if pc < 31 then (if pc < 15 then (if pc < 8 then (if pc < 4 then (if pc < 1 then (if pc = 0 then xo_aload 0 0 1 lv st M else none) else (if pc = 1 then xo_getf 0 5 1 3 lv st M else none)) else (if pc < 5 then (if pc = 4 then xo_aload 0 4 1 lv st M else none) else (if pc = 5 then xo_getf 0 6 5 3 lv st M else none))) else (if pc < 10 then (if pc < 9 then (if pc = 8 then xo_aald 8 1 lv st M else none) else (if pc = 9 then xo_astore 2 9 1 lv st M else none)) else (if pc < 11 then (if pc = 10 then xo_aload 2 10 1 lv st M else none) else (if pc < 14 then (if pc = 11 then xo_getf 6 4 11 3 lv st M else none) else (if pc = 14 then xo_iload 1 14 1 lv st M else none))))) else (if pc < 21 then (if pc < 17 then (if pc < 16 then (if pc = 15 then xo_iald 15 1 lv st M else none) else (if pc = 16 then xo_aload 0 16 1 lv st M else none)) else (if pc < 20 then (if pc = 17 then xo_getf 0 6 17 3 lv st M else none) else (if pc = 20 then xo_iconst 1 20 1 lv st M else none))) else (if pc < 25 then (if pc < 22 then (if pc = 21 then xo_iadd 21 1 lv st M else none) else (if pc = 22 then xo_call false 21 19 st else none)) else (if pc < 28 then (if pc = 25 then xo_icmp .ne 6 25 3 lv st M else none) else (if pc < 30 then (if pc = 28 then xo_iconst 6 28 2 lv st M else none) else (if pc = 30 then xo_ret 21 st M else none)))))) else (if pc < 48 then (if pc < 40 then (if pc < 35 then (if pc < 32 then (if pc = 31 then xo_aload 0 31 1 lv st M else none) else (if pc = 32 then xo_getf 0 6 32 3 lv st M else none)) else (if pc < 37 then (if pc = 35 then xo_iconst 20 35 2 lv st M else none) else (if pc = 37 then xo_icmp .lt 6 37 3 lv st M else none))) else (if pc < 43 then (if pc < 42 then (if pc = 40 then xo_iconst 7 40 2 lv st M else none) else (if pc = 42 then xo_ret 21 st M else none)) else (if pc < 44 then (if pc = 43 then xo_aload 2 43 1 lv st M else none) else (if pc < 47 then (if pc = 44 then xo_getf 6 5 44 3 lv st M else none) else (if pc = 47 then xo_aload 0 47 1 lv st M else none))))) else (if pc < 58 then (if pc < 54 then (if pc < 51 then (if pc = 48 then xo_getf 0 0 48 3 lv st M else none) else (if pc = 51 then xo_getf 1 6 51 3 lv st M else none)) else (if pc < 55 then (if pc = 54 then xo_iadd 54 1 lv st M else none) else (if pc = 55 then xo_iconst 300 55 3 lv st M else none))) else (if pc < 63 then (if pc < 61 then (if pc = 58 then xo_icmp .le 6 58 3 lv st M else none) else (if pc = 61 then xo_iconst 8 61 2 lv st M else none)) else (if pc < 64 then (if pc = 63 then xo_ret 21 st M else none) else (if pc < 65 then (if pc = 64 then xo_iconst 0 64 1 lv st M else none) else (if pc = 65 then xo_ret 21 st M else none))))))
def cd_22 (pc : Nat) (lv : XL) (st : List XV) (M : XM) : Option XN := if pc < 87 then (if pc < 38 then (if pc < 17 then (if pc < 9 then (if pc < 4 then (if pc < 1 then (if pc = 0 then xo_aload 0 0 1 lv st M else none) else (if pc = 1 then xo_getf 0 5 1 3 lv st M else none)) else (if pc < 5 then (if pc = 4 then xo_aload 0 4 1 lv st M else none) else (if pc < 8 then (if pc = 5 then xo_getf 0 6 5 3 lv st M else none) else (if pc = 8 then xo_aald 8 1 lv st M else none)))) else (if pc < 12 then (if pc < 10 then (if pc = 9 then xo_astore 2 9 1 lv st M else none) else (if pc < 11 then (if pc = 10 then xo_aload 0 10 1 lv st M else none) else (if pc = 11 then xo_dup 11 1 lv st M else none))) else (if pc < 15 then (if pc = 12 then xo_getf 0 6 12 3 lv st M else none) else (if pc < 16 then (if pc = 15 then xo_iconst 1 15 1 lv st M else none) else (if pc = 16 then xo_iadd 16 1 lv st M else none))))) else (if pc < 28 then (if pc < 21 then (if pc < 20 then (if pc = 17 then xo_puti 0 6 17 3 lv st M else none) else (if pc = 20 then xo_aload 0 20 1 lv st M else none)) else (if pc < 24 then (if pc = 21 then xo_getf 0 5 21 3 lv st M else none) else (if pc < 25 then (if pc = 24 then xo_aload 0 24 1 lv st M else none) else (if pc = 25 then xo_getf 0 6 25 3 lv st M else none)))) else (if pc < 31 then (if pc < 29 then (if pc = 28 then xo_aald 28 1 lv st M else none) else (if pc < 30 then (if pc = 29 then xo_astore 3 29 1 lv st M else none) else (if pc = 30 then xo_aload 3 30 1 lv st M else none))) else (if pc < 32 then (if pc = 31 then xo_aload 0 31 1 lv st M else none) else (if pc < 35 then (if pc = 32 then xo_getf 0 0 32 3 lv st M else none) else (if pc = 35 then xo_getf 1 5 35 3 lv st M else none)))))) else (if pc < 61 then (if pc < 49 then (if pc < 42 then (if pc < 41 then (if pc = 38 then xo_call true 22 54 st else none) else (if pc = 41 then xo_aload 3 41 1 lv st M else none)) else (if pc < 43 then (if pc = 42 then xo_aload 0 42 1 lv st M else none) else (if pc < 46 then (if pc = 43 then xo_getf 0 0 43 3 lv st M else none) else (if pc = 46 then xo_getf 1 6 46 3 lv st M else none)))) else (if pc < 56 then (if pc < 52 then (if pc = 49 then xo_puti 6 11 49 3 lv st M else none) else (if pc < 53 then (if pc = 52 then xo_aload 0 52 1 lv st M else none) else (if pc = 53 then xo_getf 0 2 53 3 lv st M else none))) else (if pc < 57 then (if pc = 56 then xo_aload 0 56 1 lv st M else none) else (if pc < 60 then (if pc = 57 then xo_getf 0 1 57 3 lv st M else none) else (if pc = 60 then xo_aload 2 60 1 lv st M else none))))) else (if pc < 75 then (if pc < 66 then (if pc < 64 then (if pc = 61 then xo_call true 22 42 st else none) else (if pc < 65 then (if pc = 64 then xo_aload 3 64 1 lv st M else none) else (if pc = 65 then xo_aload 0 65 1 lv st M else none))) else (if pc < 69 then (if pc = 66 then xo_getf 0 2 66 3 lv st M else none) else (if pc < 72 then (if pc = 69 then xo_getf 4 1 69 3 lv st M else none) else (if pc = 72 then xo_puti 6 8 72 3 lv st M else none)))) else (if pc < 80 then (if pc < 76 then (if pc = 75 then xo_aload 3 75 1 lv st M else none) else (if pc < 77 then (if pc = 76 then xo_aload 0 76 1 lv st M else none) else (if pc = 77 then xo_getf 0 2 77 3 lv st M else none))) else (if pc < 83 then (if pc = 80 then xo_getf 4 2 80 3 lv st M else none) else (if pc < 86 then (if pc = 83 then xo_puti 6 9 83 3 lv st M else none) else (if pc = 86 then xo_aload 0 86 1 lv st M else none))))))) else (if pc < 119 then (if pc < 102 then (if pc < 94 then (if pc < 89 then (if pc < 88 then (if pc = 87 then xo_aload 2 87 1 lv st M else none) else (if pc = 88 then xo_aload 3 88 1 lv st M else none)) else (if pc < 92 then (if pc = 89 then xo_call true 22 23 st else none) else (if pc < 93 then (if pc = 92 then xo_aload 0 92 1 lv st M else none) else (if pc = 93 then xo_aload 2 93 1 lv st M else none)))) else (if pc < 99 then (if pc < 95 then (if pc = 94 then xo_aload 3 94 1 lv st M else none) else (if pc < 96 then (if pc = 95 then xo_iconst 0 95 1 lv st M else none) else (if pc = 96 then xo_call true 22 24 st else none))) else (if pc < 100 then (if pc = 99 then xo_aload 0 99 1 lv st M else none) else (if pc < 101 then (if pc = 100 then xo_aload 2 100 1 lv st M else none) else (if pc = 101 then xo_aload 3 101 1 lv st M else none))))) else (if pc < 109 then (if pc < 106 then (if pc < 103 then (if pc = 102 then xo_iconst 1 102 1 lv st M else none) else (if pc = 103 then xo_call true 22 24 st else none)) else (if pc < 107 then (if pc = 106 then xo_aload 0 106 1 lv st M else none) else (if pc < 108 then (if pc = 107 then xo_aload 2 107 1 lv st M else none) else (if pc = 108 then xo_aload 3 108 1 lv st M else none)))) else (if pc < 114 then (if pc < 112 then (if pc = 109 then xo_call true 22 25 st else none) else (if pc < 113 then (if pc = 112 then xo_aload 0 112 1 lv st M else none) else (if pc = 113 then xo_aload 2 113 1 lv st M else none))) else (if pc < 115 then (if pc = 114 then xo_aload 3 114 1 lv st M else none) else (if pc < 116 then (if pc = 115 then xo_iload 1 115 1 lv st M else none) else (if pc = 116 then xo_call true 22 26 st else none)))))) else (if pc < 140 then (if pc < 128 then (if pc < 122 then (if pc < 120 then (if pc = 119 then xo_iconst 0 119 1 lv st M else none) else (if pc = 120 then xo_istore 4 120 2 lv st M else none)) else (if pc < 124 then (if pc = 122 then xo_iload 4 122 2 lv st M else none) else (if pc < 125 then (if pc = 124 then xo_iconst 3 124 1 lv st M else none) else (if pc = 125 then xo_icmp .ge 23 125 3 lv st M else none)))) else (if pc < 134 then (if pc < 129 then (if pc = 128 then xo_aload 3 128 1 lv st M else none) else (if pc < 132 then (if pc = 129 then xo_getf 6 4 129 3 lv st M else none) else (if pc = 132 then xo_iload 4 132 2 lv st M else none))) else (if pc < 135 then (if pc = 134 then xo_aload 2 134 1 lv st M else none) else (if pc < 138 then (if pc = 135 then xo_getf 6 4 135 3 lv st M else none) else (if pc = 138 then xo_iload 4 138 2 lv st M else none))))) else (if pc < 152 then (if pc < 145 then (if pc < 141 then (if pc = 140 then xo_iald 140 1 lv st M else none) else (if pc < 142 then (if pc = 141 then xo_iast 141 1 lv st M else none) else (if pc = 142 then xo_iinc 4 1 142 3 lv st M else none))) else (if pc < 148 then (if pc = 145 then xo_goto (-23) 145 lv st M else none) else (if pc < 149 then (if pc = 148 then xo_aload 3 148 1 lv st M else none) else (if pc = 149 then xo_getf 6 4 149 3 lv st M else none)))) else (if pc < 157 then (if pc < 153 then (if pc = 152 then xo_iload 1 152 1 lv st M else none) else (if pc < 154 then (if pc = 153 then xo_aload 0 153 1 lv st M else none) else (if pc = 154 then xo_getf 0 6 154 3 lv st M else none))) else (if pc < 160 then (if pc = 157 then xo_call false 22 19 st else none) else (if pc < 161 then (if pc = 160 then xo_iast 160 1 lv st M else none) else (if pc = 161 then xo_ret 22 st M else none)))))))
def cd_23 (pc : Nat) (lv : XL) (st : List XV) (M : XM) : Option XN := if pc < 51 then (if pc < 26 then (if pc < 13 then (if pc < 5 then (if pc < 1 then (if pc = 0 then xo_aload 2 0 1 lv st M else none) else (if pc < 2 then (if pc = 1 then xo_iconst 0 1 1 lv st M else none) else (if pc = 2 then xo_puti 6 10 2 3 lv st M else none))) else (if pc < 7 then (if pc < 6 then (if pc = 5 then xo_aload 2 5 1 lv st M else none) else (if pc = 6 then xo_aload 1 6 1 lv st M else none)) else (if pc < 10 then (if pc = 7 then xo_getf 6 6 7 3 lv st M else none) else (if pc = 10 then xo_puti 6 6 10 3 lv st M else none)))) else (if pc < 16 then (if pc < 14 then (if pc = 13 then xo_iconst 0 13 1 lv st M else none) else (if pc < 15 then (if pc = 14 then xo_istore 3 14 1 lv st M else none) else (if pc = 15 then xo_iload 3 15 1 lv st M else none))) else (if pc < 20 then (if pc < 17 then (if pc = 16 then xo_aload 0 16 1 lv st M else none) else (if pc = 17 then xo_getf 0 1 17 3 lv st M else none)) else (if pc < 23 then (if pc = 20 then xo_getf 5 0 20 3 lv st M else none) else (if pc = 23 then xo_icmp .ge 84 23 3 lv st M else none))))) else (if pc < 39 then (if pc < 33 then (if pc < 27 then (if pc = 26 then xo_aload 0 26 1 lv st M else none) else (if pc < 30 then (if pc = 27 then xo_getf 0 1 27 3 lv st M else none) else (if pc = 30 then xo_getf 5 2 30 3 lv st M else none))) else (if pc < 35 then (if pc < 34 then (if pc = 33 then xo_iload 3 33 1 lv st M else none) else (if pc = 34 then xo_iald 34 1 lv st M else none)) else (if pc < 36 then (if pc = 35 then xo_iconst (-1) 35 1 lv st M else none) else (if pc = 36 then xo_icmp .ne 65 36 3 lv st M else none)))) else (if pc < 45 then (if pc < 41 then (if pc < 40 then (if pc = 39 then xo_aload 2 39 1 lv st M else none) else (if pc = 40 then xo_dup 40 1 lv st M else none)) else (if pc < 44 then (if pc = 41 then xo_getf 6 10 41 3 lv st M else none) else (if pc = 44 then xo_iconst 1 44 1 lv st M else none))) else (if pc < 49 then (if pc < 46 then (if pc = 45 then xo_iadd 45 1 lv st M else none) else (if pc = 46 then xo_puti 6 10 46 3 lv st M else none)) else (if pc < 50 then (if pc = 49 then xo_aload 2 49 1 lv st M else none) else (if pc = 50 then xo_dup 50 1 lv st M else none)))))) else (if pc < 75 then (if pc < 64 then (if pc < 58 then (if pc < 54 then (if pc = 51 then xo_getf 6 6 51 3 lv st M else none) else (if pc < 55 then (if pc = 54 then xo_aload 1 54 1 lv st M else none) else (if pc = 55 then xo_getf 6 2 55 3 lv st M else none))) else (if pc < 60 then (if pc < 59 then (if pc = 58 then xo_iload 3 58 1 lv st M else none) else (if pc = 59 then xo_iald 59 1 lv st M else none)) else (if pc < 61 then (if pc = 60 then xo_iadd 60 1 lv st M else none) else (if pc = 61 then xo_puti 6 6 61 3 lv st M else none)))) else (if pc < 69 then (if pc < 65 then (if pc = 64 then xo_iconst 0 64 1 lv st M else none) else (if pc < 67 then (if pc = 65 then xo_istore 4 65 2 lv st M else none) else (if pc = 67 then xo_iload 4 67 2 lv st M else none))) else (if pc < 73 then (if pc < 70 then (if pc = 69 then xo_aload 1 69 1 lv st M else none) else (if pc = 70 then xo_getf 6 2 70 3 lv st M else none)) else (if pc < 74 then (if pc = 73 then xo_iload 3 73 1 lv st M else none) else (if pc = 74 then xo_iald 74 1 lv st M else none))))) else (if pc < 89 then (if pc < 82 then (if pc < 78 then (if pc = 75 then xo_icmp .ge 26 75 3 lv st M else none) else (if pc < 79 then (if pc = 78 then xo_aload 0 78 1 lv st M else none) else (if pc = 79 then xo_getf 0 3 79 3 lv st M else none))) else (if pc < 86 then (if pc < 85 then (if pc = 82 then xo_getf 3 4 82 3 lv st M else none) else (if pc = 85 then xo_aload 1 85 1 lv st M else none)) else (if pc < 87 then (if pc = 86 then xo_iload 3 86 1 lv st M else none) else (if pc = 87 then xo_iload 4 87 2 lv st M else none)))) else (if pc < 98 then (if pc < 94 then (if pc < 92 then (if pc = 89 then xo_call true 23 56 st else none) else (if pc = 92 then xo_iconst (-2) 92 2 lv st M else none)) else (if pc < 95 then (if pc = 94 then xo_iast 94 1 lv st M else none) else (if pc = 95 then xo_iinc 4 1 95 3 lv st M else none))) else (if pc < 104 then (if pc < 101 then (if pc = 98 then xo_goto (-31) 98 lv st M else none) else (if pc = 101 then xo_iinc 3 1 101 3 lv st M else none)) else (if pc < 107 then (if pc = 104 then xo_goto (-89) 104 lv st M else none) else (if pc = 107 then xo_ret 23 st M else none))))))
def cd_24 (pc : Nat) (lv : XL) (st : List XV) (M : XM) : Option XN := if pc < 50 then (if pc < 25 then (if pc < 12 then (if pc < 5 then (if pc < 1 then (if pc = 0 then xo_iconst 0 0 1 lv st M else none) else (if pc < 3 then (if pc = 1 then xo_istore 4 1 2 lv st M else none) else (if pc = 3 then xo_iload 4 3 2 lv st M else none))) else (if pc < 6 then (if pc = 5 then xo_aload 0 5 1 lv st M else none) else (if pc < 9 then (if pc = 6 then xo_getf 0 1 6 3 lv st M else none) else (if pc = 9 then xo_getf 5 0 9 3 lv st M else none)))) else (if pc < 19 then (if pc < 15 then (if pc = 12 then xo_icmp .ge 92 12 3 lv st M else none) else (if pc < 16 then (if pc = 15 then xo_aload 0 15 1 lv st M else none) else (if pc = 16 then xo_getf 0 1 16 3 lv st M else none))) else (if pc < 22 then (if pc = 19 then xo_getf 5 2 19 3 lv st M else none) else (if pc < 24 then (if pc = 22 then xo_iload 4 22 2 lv st M else none) else (if pc = 24 then xo_iald 24 1 lv st M else none))))) else (if pc < 37 then (if pc < 30 then (if pc < 27 then (if pc = 25 then xo_istore 5 25 2 lv st M else none) else (if pc < 29 then (if pc = 27 then xo_iload 5 27 2 lv st M else none) else (if pc = 29 then xo_iconst (-1) 29 1 lv st M else none))) else (if pc < 33 then (if pc = 30 then xo_icmp .eq 68 30 3 lv st M else none) else (if pc < 34 then (if pc = 33 then xo_aload 0 33 1 lv st M else none) else (if pc = 34 then xo_getf 0 1 34 3 lv st M else none)))) else (if pc < 43 then (if pc < 40 then (if pc = 37 then xo_getf 5 3 37 3 lv st M else none) else (if pc < 42 then (if pc = 40 then xo_iload 4 40 2 lv st M else none) else (if pc = 42 then xo_bald 42 1 lv st M else none))) else (if pc < 47 then (if pc < 44 then (if pc = 43 then xo_iload 3 43 1 lv st M else none) else (if pc = 44 then xo_icmp .ne 54 44 3 lv st M else none)) else (if pc < 48 then (if pc = 47 then xo_iconst 0 47 1 lv st M else none) else (if pc = 48 then xo_istore 6 48 2 lv st M else none)))))) else (if pc < 75 then (if pc < 62 then (if pc < 56 then (if pc < 52 then (if pc = 50 then xo_iload 6 50 2 lv st M else none) else (if pc < 53 then (if pc = 52 then xo_aload 1 52 1 lv st M else none) else (if pc = 53 then xo_getf 6 2 53 3 lv st M else none))) else (if pc < 58 then (if pc = 56 then xo_iload 4 56 2 lv st M else none) else (if pc < 59 then (if pc = 58 then xo_iald 58 1 lv st M else none) else (if pc = 59 then xo_icmp .ge 39 59 3 lv st M else none)))) else (if pc < 67 then (if pc < 63 then (if pc = 62 then xo_aload 1 62 1 lv st M else none) else (if pc < 65 then (if pc = 63 then xo_iload 4 63 2 lv st M else none) else (if pc = 65 then xo_iload 6 65 2 lv st M else none))) else (if pc < 72 then (if pc < 70 then (if pc = 67 then xo_call true 24 56 st else none) else (if pc = 70 then xo_istore 7 70 2 lv st M else none)) else (if pc < 73 then (if pc = 72 then xo_aload 2 72 1 lv st M else none) else (if pc = 73 then xo_iload 5 73 2 lv st M else none))))) else (if pc < 89 then (if pc < 81 then (if pc < 77 then (if pc = 75 then xo_iload 7 75 2 lv st M else none) else (if pc < 80 then (if pc = 77 then xo_call true 24 57 st else none) else (if pc = 80 then xo_aload 0 80 1 lv st M else none))) else (if pc < 84 then (if pc = 81 then xo_getf 0 3 81 3 lv st M else none) else (if pc < 87 then (if pc = 84 then xo_getf 3 4 84 3 lv st M else none) else (if pc = 87 then xo_iload 7 87 2 lv st M else none)))) else (if pc < 95 then (if pc < 91 then (if pc = 89 then xo_iload 5 89 2 lv st M else none) else (if pc < 92 then (if pc = 91 then xo_iast 91 1 lv st M else none) else (if pc = 92 then xo_iinc 6 1 92 3 lv st M else none))) else (if pc < 101 then (if pc < 98 then (if pc = 95 then xo_goto (-45) 95 lv st M else none) else (if pc = 98 then xo_iinc 4 1 98 3 lv st M else none)) else (if pc < 104 then (if pc = 101 then xo_goto (-98) 101 lv st M else none) else (if pc = 104 then xo_ret 24 st M else none))))))
def cd_25 (pc : Nat) (lv : XL) (st : List XV) (M : XM) : Option XN := if pc < 49 then (if pc < 20 then (if pc < 10 then (if pc < 5 then (if pc < 1 then (if pc = 0 then xo_aload 2 0 1 lv st M else none) else (if pc < 2 then (if pc = 1 then xo_aload 1 1 1 lv st M else none) else (if pc = 2 then xo_getf 6 7 2 3 lv st M else none))) else (if pc < 8 then (if pc = 5 then xo_puti 6 7 5 3 lv st M else none) else (if pc < 9 then (if pc = 8 then xo_aload 2 8 1 lv st M else none) else (if pc = 9 then xo_iconst 0 9 1 lv st M else none)))) else (if pc < 15 then (if pc < 13 then (if pc = 10 then xo_puti 6 12 10 3 lv st M else none) else (if pc < 14 then (if pc = 13 then xo_iconst 0 13 1 lv st M else none) else (if pc = 14 then xo_istore 3 14 1 lv st M else none))) else (if pc < 16 then (if pc = 15 then xo_iload 3 15 1 lv st M else none) else (if pc < 17 then (if pc = 16 then xo_aload 0 16 1 lv st M else none) else (if pc = 17 then xo_getf 0 0 17 3 lv st M else none))))) else (if pc < 34 then (if pc < 27 then (if pc < 23 then (if pc = 20 then xo_getf 1 3 20 3 lv st M else none) else (if pc < 26 then (if pc = 23 then xo_icmp .ge 75 23 3 lv st M else none) else (if pc = 26 then xo_aload 0 26 1 lv st M else none))) else (if pc < 30 then (if pc = 27 then xo_getf 0 0 27 3 lv st M else none) else (if pc < 33 then (if pc = 30 then xo_getf 1 2 30 3 lv st M else none) else (if pc = 33 then xo_iload 3 33 1 lv st M else none)))) else (if pc < 41 then (if pc < 35 then (if pc = 34 then xo_aald 34 1 lv st M else none) else (if pc < 38 then (if pc = 35 then xo_call true 25 61 st else none) else (if pc = 38 then xo_if .eq 54 38 3 lv st M else none))) else (if pc < 45 then (if pc < 42 then (if pc = 41 then xo_aload 0 41 1 lv st M else none) else (if pc = 42 then xo_getf 0 4 42 3 lv st M else none)) else (if pc < 46 then (if pc = 45 then xo_aload 2 45 1 lv st M else none) else (if pc = 46 then xo_getf 6 7 46 3 lv st M else none)))))) else (if pc < 74 then (if pc < 61 then (if pc < 56 then (if pc < 50 then (if pc = 49 then xo_aload 0 49 1 lv st M else none) else (if pc < 53 then (if pc = 50 then xo_getf 0 0 50 3 lv st M else none) else (if pc = 53 then xo_getf 1 2 53 3 lv st M else none))) else (if pc < 57 then (if pc = 56 then xo_iload 3 56 1 lv st M else none) else (if pc < 58 then (if pc = 57 then xo_aald 57 1 lv st M else none) else (if pc = 58 then xo_call true 25 34 st else none)))) else (if pc < 66 then (if pc < 62 then (if pc = 61 then xo_aload 2 61 1 lv st M else none) else (if pc < 63 then (if pc = 62 then xo_dup 62 1 lv st M else none) else (if pc = 63 then xo_getf 6 12 63 3 lv st M else none))) else (if pc < 70 then (if pc < 67 then (if pc = 66 then xo_aload 0 66 1 lv st M else none) else (if pc = 67 then xo_getf 0 4 67 3 lv st M else none)) else (if pc < 71 then (if pc = 70 then xo_aload 2 70 1 lv st M else none) else (if pc = 71 then xo_getf 6 7 71 3 lv st M else none))))) else (if pc < 84 then (if pc < 79 then (if pc < 75 then (if pc = 74 then xo_aload 1 74 1 lv st M else none) else (if pc < 78 then (if pc = 75 then xo_call true 25 35 st else none) else (if pc = 78 then xo_iadd 78 1 lv st M else none))) else (if pc < 82 then (if pc = 79 then xo_puti 6 12 79 3 lv st M else none) else (if pc < 83 then (if pc = 82 then xo_aload 2 82 1 lv st M else none) else (if pc = 83 then xo_dup 83 1 lv st M else none)))) else (if pc < 89 then (if pc < 87 then (if pc = 84 then xo_getf 6 7 84 3 lv st M else none) else (if pc < 88 then (if pc = 87 then xo_iconst 1 87 1 lv st M else none) else (if pc = 88 then xo_iadd 88 1 lv st M else none))) else (if pc < 95 then (if pc < 92 then (if pc = 89 then xo_puti 6 7 89 3 lv st M else none) else (if pc = 92 then xo_iinc 3 1 92 3 lv st M else none)) else (if pc < 98 then (if pc = 95 then xo_goto (-80) 95 lv st M else none) else (if pc = 98 then xo_ret 25 st M else none))))))
def cd_26 (pc : Nat) (lv : XL) (st : List XV) (M : XM) : Option XN := if pc < 73 then (if pc < 36 then (if pc < 17 then (if pc < 8 then (if pc < 2 then (if pc < 1 then (if pc = 0 then xo_aload 2 0 1 lv st M else none) else (if pc = 1 then xo_aload 1 1 1 lv st M else none)) else (if pc < 5 then (if pc = 2 then xo_getf 6 5 2 3 lv st M else none) else (if pc = 5 then xo_puti 6 5 5 3 lv st M else none))) else (if pc < 11 then (if pc < 9 then (if pc = 8 then xo_iconst 0 8 1 lv st M else none) else (if pc = 9 then xo_istore 4 9 2 lv st M else none)) else (if pc < 13 then (if pc = 11 then xo_iload 4 11 2 lv st M else none) else (if pc < 14 then (if pc = 13 then xo_aload 2 13 1 lv st M else none) else (if pc = 14 then xo_getf 6 0 14 3 lv st M else none))))) else (if pc < 27 then (if pc < 21 then (if pc < 20 then (if pc = 17 then xo_icmp .ge 132 17 3 lv st M else none) else (if pc = 20 then xo_aload 0 20 1 lv st M else none)) else (if pc < 24 then (if pc = 21 then xo_getf 0 6 21 3 lv st M else none) else (if pc = 24 then xo_call false 26 19 st else none))) else (if pc < 31 then (if pc < 30 then (if pc = 27 then xo_if .ne 15 27 3 lv st M else none) else (if pc = 30 then xo_aload 2 30 1 lv st M else none)) else (if pc < 34 then (if pc = 31 then xo_getf 6 0 31 3 lv st M else none) else (if pc < 35 then (if pc = 34 then xo_iconst 1 34 1 lv st M else none) else (if pc = 35 then xo_isub 35 1 lv st M else none)))))) else (if pc < 55 then (if pc < 44 then (if pc < 39 then (if pc < 38 then (if pc = 36 then xo_iload 4 36 2 lv st M else none) else (if pc = 38 then xo_isub 38 1 lv st M else none)) else (if pc < 42 then (if pc = 39 then xo_goto 5 39 lv st M else none) else (if pc = 42 then xo_iload 4 42 2 lv st M else none))) else (if pc < 47 then (if pc < 46 then (if pc = 44 then xo_istore 5 44 2 lv st M else none) else (if pc = 46 then xo_aload 0 46 1 lv st M else none)) else (if pc < 50 then (if pc = 47 then xo_getf 0 1 47 3 lv st M else none) else (if pc < 53 then (if pc = 50 then xo_getf 5 4 50 3 lv st M else none) else (if pc = 53 then xo_iload 5 53 2 lv st M else none))))) else (if pc < 64 then (if pc < 58 then (if pc < 56 then (if pc = 55 then xo_aald 55 1 lv st M else none) else (if pc = 56 then xo_astore 6 56 2 lv st M else none)) else (if pc < 59 then (if pc = 58 then xo_aload 2 58 1 lv st M else none) else (if pc < 62 then (if pc = 59 then xo_getf 6 3 59 3 lv st M else none) else (if pc = 62 then xo_iload 5 62 2 lv st M else none)))) else (if pc < 67 then (if pc < 66 then (if pc = 64 then xo_aload 6 64 2 lv st M else none) else (if pc = 66 then xo_aload 1 66 1 lv st M else none)) else (if pc < 70 then (if pc = 67 then xo_call true 26 68 st else none) else (if pc < 71 then (if pc = 70 then xo_iast 70 1 lv st M else none) else (if pc = 71 then xo_aload 6 71 2 lv st M else none))))))) else (if pc < 113 then (if pc < 92 then (if pc < 83 then (if pc < 79 then (if pc < 76 then (if pc = 73 then xo_call true 26 64 st else none) else (if pc = 76 then xo_if .eq 67 76 3 lv st M else none)) else (if pc < 80 then (if pc = 79 then xo_aload 2 79 1 lv st M else none) else (if pc = 80 then xo_getf 6 5 80 3 lv st M else none))) else (if pc < 86 then (if pc < 85 then (if pc = 83 then xo_istore 7 83 2 lv st M else none) else (if pc = 85 then xo_aload 0 85 1 lv st M else none)) else (if pc < 89 then (if pc = 86 then xo_getf 0 3 86 3 lv st M else none) else (if pc < 91 then (if pc = 89 then xo_iload 7 89 2 lv st M else none) else (if pc = 91 then xo_aload 0 91 1 lv st M else none))))) else (if pc < 103 then (if pc < 97 then (if pc < 95 then (if pc = 92 then xo_getf 0 6 92 3 lv st M else none) else (if pc = 95 then xo_iload 5 95 2 lv st M else none)) else (if pc < 98 then (if pc = 97 then xo_aload 2 97 1 lv st M else none) else (if pc < 101 then (if pc = 98 then xo_getf 6 3 98 3 lv st M else none) else (if pc = 101 then xo_iload 5 101 2 lv st M else none)))) else (if pc < 105 then (if pc < 104 then (if pc = 103 then xo_iald 103 1 lv st M else none) else (if pc = 104 then xo_iload 3 104 1 lv st M else none)) else (if pc < 108 then (if pc = 105 then xo_call true 26 40 st else none) else (if pc < 110 then (if pc = 108 then xo_aload 6 108 2 lv st M else none) else (if pc = 110 then xo_call true 26 65 st else none)))))) else (if pc < 130 then (if pc < 120 then (if pc < 117 then (if pc < 116 then (if pc = 113 then xo_if .ne 12 113 3 lv st M else none) else (if pc = 116 then xo_aload 0 116 1 lv st M else none)) else (if pc < 118 then (if pc = 117 then xo_aload 2 117 1 lv st M else none) else (if pc = 118 then xo_iload 5 118 2 lv st M else none))) else (if pc < 125 then (if pc < 122 then (if pc = 120 then xo_iload 7 120 2 lv st M else none) else (if pc = 122 then xo_call true 26 27 st else none)) else (if pc < 126 then (if pc = 125 then xo_aload 2 125 1 lv st M else none) else (if pc < 128 then (if pc = 126 then xo_iload 5 126 2 lv st M else none) else (if pc = 128 then xo_iload 7 128 2 lv st M else none))))) else (if pc < 139 then (if pc < 134 then (if pc < 133 then (if pc = 130 then xo_call true 26 57 st else none) else (if pc = 133 then xo_aload 2 133 1 lv st M else none)) else (if pc < 135 then (if pc = 134 then xo_dup 134 1 lv st M else none) else (if pc < 138 then (if pc = 135 then xo_getf 6 5 135 3 lv st M else none) else (if pc = 138 then xo_iconst 1 138 1 lv st M else none)))) else (if pc < 143 then (if pc < 140 then (if pc = 139 then xo_iadd 139 1 lv st M else none) else (if pc = 140 then xo_puti 6 5 140 3 lv st M else none)) else (if pc < 146 then (if pc = 143 then xo_iinc 4 1 143 3 lv st M else none) else (if pc < 149 then (if pc = 146 then xo_goto (-135) 146 lv st M else none) else (if pc = 149 then xo_ret 26 st M else none)))))))
def cd_27 (pc : Nat) (lv : XL) (st : List XV) (M : XM) : Option XN := if pc < 32 then (if pc < 15 then (if pc < 6 then (if pc < 3 then (if pc < 1 then (if pc = 0 then xo_iconst 0 0 1 lv st M else none) else (if pc = 1 then xo_istore 4 1 2 lv st M else none)) else (if pc < 5 then (if pc = 3 then xo_iload 4 3 2 lv st M else none) else (if pc = 5 then xo_aload 1 5 1 lv st M else none))) else (if pc < 10 then (if pc < 9 then (if pc = 6 then xo_getf 6 2 6 3 lv st M else none) else (if pc = 9 then xo_iload 2 9 1 lv st M else none)) else (if pc < 11 then (if pc = 10 then xo_iald 10 1 lv st M else none) else (if pc < 14 then (if pc = 11 then xo_icmp .ge 45 11 3 lv st M else none) else (if pc = 14 then xo_aload 1 14 1 lv st M else none))))) else (if pc < 23 then (if pc < 18 then (if pc < 16 then (if pc = 15 then xo_iload 2 15 1 lv st M else none) else (if pc = 16 then xo_iload 4 16 2 lv st M else none)) else (if pc < 21 then (if pc = 18 then xo_call true 27 56 st else none) else (if pc = 21 then xo_istore 5 21 2 lv st M else none))) else (if pc < 27 then (if pc < 24 then (if pc = 23 then xo_aload 0 23 1 lv st M else none) else (if pc = 24 then xo_getf 0 3 24 3 lv st M else none)) else (if pc < 30 then (if pc = 27 then xo_getf 3 5 27 3 lv st M else none) else (if pc < 31 then (if pc = 30 then xo_iload 3 30 1 lv st M else none) else (if pc = 31 then xo_iconst 4 31 1 lv st M else none)))))) else (if pc < 48 then (if pc < 38 then (if pc < 35 then (if pc < 33 then (if pc = 32 then xo_imul 32 1 lv st M else none) else (if pc = 33 then xo_iload 4 33 2 lv st M else none)) else (if pc < 36 then (if pc = 35 then xo_iadd 35 1 lv st M else none) else (if pc = 36 then xo_iload 5 36 2 lv st M else none))) else (if pc < 40 then (if pc < 39 then (if pc = 38 then xo_iast 38 1 lv st M else none) else (if pc = 39 then xo_aload 0 39 1 lv st M else none)) else (if pc < 43 then (if pc = 40 then xo_getf 0 3 40 3 lv st M else none) else (if pc < 46 then (if pc = 43 then xo_getf 3 4 43 3 lv st M else none) else (if pc = 46 then xo_iload 5 46 2 lv st M else none))))) else (if pc < 57 then (if pc < 50 then (if pc < 49 then (if pc = 48 then xo_iconst (-1) 48 1 lv st M else none) else (if pc = 49 then xo_iast 49 1 lv st M else none)) else (if pc < 53 then (if pc = 50 then xo_iinc 4 1 50 3 lv st M else none) else (if pc < 56 then (if pc = 53 then xo_goto (-50) 53 lv st M else none) else (if pc = 56 then xo_aload 1 56 1 lv st M else none)))) else (if pc < 61 then (if pc < 60 then (if pc = 57 then xo_getf 6 2 57 3 lv st M else none) else (if pc = 60 then xo_iload 2 60 1 lv st M else none)) else (if pc < 62 then (if pc = 61 then xo_iconst 0 61 1 lv st M else none) else (if pc < 63 then (if pc = 62 then xo_iast 62 1 lv st M else none) else (if pc = 63 then xo_ret 27 st M else none))))))
def cd_28 (pc : Nat) (lv : XL) (st : List XV) (M : XM) : Option XN := if pc < 38 then (if pc < 18 then (if pc < 9 then (if pc < 4 then (if pc < 1 then (if pc = 0 then xo_aload 0 0 1 lv st M else none) else (if pc = 1 then xo_objinit 1 3 lv st M else none)) else (if pc < 5 then (if pc = 4 then xo_aload 0 4 1 lv st M else none) else (if pc < 7 then (if pc = 5 then xo_iconst 40 5 2 lv st M else none) else (if pc = 7 then xo_newa 1 11 7 2 lv st M else none)))) else (if pc < 13 then (if pc < 12 then (if pc = 9 then xo_putr 1 0 9 3 lv st M else none) else (if pc = 12 then xo_aload 0 12 1 lv st M else none)) else (if pc < 14 then (if pc = 13 then xo_iconst 0 13 1 lv st M else none) else (if pc < 17 then (if pc = 14 then xo_puti 1 1 14 3 lv st M else none) else (if pc = 17 then xo_aload 0 17 1 lv st M else none))))) else (if pc < 28 then (if pc < 23 then (if pc < 20 then (if pc = 18 then xo_iconst 40 18 2 lv st M else none) else (if pc = 20 then xo_newa 4 12 20 3 lv st M else none)) else (if pc < 26 then (if pc = 23 then xo_putr 1 2 23 3 lv st M else none) else (if pc < 27 then (if pc = 26 then xo_aload 0 26 1 lv st M else none) else (if pc = 27 then xo_iconst 0 27 1 lv st M else none)))) else (if pc < 33 then (if pc < 31 then (if pc = 28 then xo_puti 1 3 28 3 lv st M else none) else (if pc < 32 then (if pc = 31 then xo_aload 0 31 1 lv st M else none) else (if pc = 32 then xo_iconst 0 32 1 lv st M else none))) else (if pc < 36 then (if pc = 33 then xo_puti 1 4 33 3 lv st M else none) else (if pc < 37 then (if pc = 36 then xo_aload 0 36 1 lv st M else none) else (if pc = 37 then xo_iconst 0 37 1 lv st M else none)))))) else (if pc < 54 then (if pc < 47 then (if pc < 42 then (if pc < 41 then (if pc = 38 then xo_puti 1 5 38 3 lv st M else none) else (if pc = 41 then xo_aload 0 41 1 lv st M else none)) else (if pc < 43 then (if pc = 42 then xo_iconst 0 42 1 lv st M else none) else (if pc < 46 then (if pc = 43 then xo_puti 1 6 43 3 lv st M else none) else (if pc = 46 then xo_iconst 0 46 1 lv st M else none)))) else (if pc < 49 then (if pc < 48 then (if pc = 47 then xo_istore 1 47 1 lv st M else none) else (if pc = 48 then xo_iload 1 48 1 lv st M else none)) else (if pc < 50 then (if pc = 49 then xo_aload 0 49 1 lv st M else none) else (if pc < 53 then (if pc = 50 then xo_getf 1 2 50 3 lv st M else none) else (if pc = 53 then xo_alen 53 1 lv st M else none))))) else (if pc < 65 then (if pc < 58 then (if pc < 57 then (if pc = 54 then xo_icmp .ge 22 54 3 lv st M else none) else (if pc = 57 then xo_aload 0 57 1 lv st M else none)) else (if pc < 61 then (if pc = 58 then xo_getf 1 2 58 3 lv st M else none) else (if pc < 62 then (if pc = 61 then xo_iload 1 61 1 lv st M else none) else (if pc = 62 then xo_new 13 62 3 lv st M else none)))) else (if pc < 70 then (if pc < 66 then (if pc = 65 then xo_dup 65 1 lv st M else none) else (if pc < 69 then (if pc = 66 then xo_call true 28 58 st else none) else (if pc = 69 then xo_aast 69 1 lv st M else none))) else (if pc < 73 then (if pc = 70 then xo_iinc 1 1 70 3 lv st M else none) else (if pc < 76 then (if pc = 73 then xo_goto (-25) 73 lv st M else none) else (if pc = 76 then xo_ret 28 st M else none))))))
def cd_29 (pc : Nat) (lv : XL) (st : List XV) (M : XM) : Option XN := if pc < 62 then (if pc < 31 then (if pc < 15 then (if pc < 6 then (if pc < 2 then (if pc < 1 then (if pc = 0 then xo_aload 0 0 1 lv st M else none) else (if pc = 1 then xo_iconst 0 1 1 lv st M else none)) else (if pc < 5 then (if pc = 2 then xo_puti 1 3 2 3 lv st M else none) else (if pc = 5 then xo_aload 0 5 1 lv st M else none))) else (if pc < 10 then (if pc < 7 then (if pc = 6 then xo_iconst 0 6 1 lv st M else none) else (if pc = 7 then xo_puti 1 4 7 3 lv st M else none)) else (if pc < 11 then (if pc = 10 then xo_aload 0 10 1 lv st M else none) else (if pc < 12 then (if pc = 11 then xo_iconst 0 11 1 lv st M else none) else (if pc = 12 then xo_puti 1 5 12 3 lv st M else none))))) else (if pc < 22 then (if pc < 17 then (if pc < 16 then (if pc = 15 then xo_aload 0 15 1 lv st M else none) else (if pc = 16 then xo_iconst 0 16 1 lv st M else none)) else (if pc < 20 then (if pc = 17 then xo_puti 1 6 17 3 lv st M else none) else (if pc < 21 then (if pc = 20 then xo_iconst 0 20 1 lv st M else none) else (if pc = 21 then xo_istore 1 21 1 lv st M else none)))) else (if pc < 24 then (if pc < 23 then (if pc = 22 then xo_iload 1 22 1 lv st M else none) else (if pc = 23 then xo_aload 0 23 1 lv st M else none)) else (if pc < 27 then (if pc = 24 then xo_getf 1 1 24 3 lv st M else none) else (if pc < 30 then (if pc = 27 then xo_icmp .ge 84 27 3 lv st M else none) else (if pc = 30 then xo_aload 0 30 1 lv st M else none)))))) else (if pc < 48 then (if pc < 39 then (if pc < 35 then (if pc < 34 then (if pc = 31 then xo_getf 1 0 31 3 lv st M else none) else (if pc = 34 then xo_iload 1 34 1 lv st M else none)) else (if pc < 36 then (if pc = 35 then xo_iald 35 1 lv st M else none) else (if pc = 36 then xo_call false 29 59 st else none))) else (if pc < 43 then (if pc < 42 then (if pc = 39 then xo_if .ne 5 39 3 lv st M else none) else (if pc = 42 then xo_iload 1 42 1 lv st M else none)) else (if pc < 44 then (if pc = 43 then xo_ret 29 st M else none) else (if pc < 45 then (if pc = 44 then xo_aload 0 44 1 lv st M else none) else (if pc = 45 then xo_getf 1 0 45 3 lv st M else none))))) else (if pc < 55 then (if pc < 50 then (if pc < 49 then (if pc = 48 then xo_iload 1 48 1 lv st M else none) else (if pc = 49 then xo_iald 49 1 lv st M else none)) else (if pc < 53 then (if pc = 50 then xo_call false 29 60 st else none) else (if pc < 54 then (if pc = 53 then xo_istore 2 53 1 lv st M else none) else (if pc = 54 then xo_iload 2 54 1 lv st M else none)))) else (if pc < 59 then (if pc < 58 then (if pc = 55 then xo_if .eq 17 55 3 lv st M else none) else (if pc = 58 then xo_aload 0 58 1 lv st M else none)) else (if pc < 60 then (if pc = 59 then xo_iload 1 59 1 lv st M else none) else (if pc < 61 then (if pc = 60 then xo_iconst 1 60 1 lv st M else none) else (if pc = 61 then xo_iadd 61 1 lv st M else none))))))) else (if pc < 91 then (if pc < 77 then (if pc < 70 then (if pc < 68 then (if pc < 65 then (if pc = 62 then xo_call true 29 30 st else none) else (if pc = 65 then xo_if .ne 7 65 3 lv st M else none)) else (if pc < 69 then (if pc = 68 then xo_iload 1 68 1 lv st M else none) else (if pc = 69 then xo_iconst 1 69 1 lv st M else none))) else (if pc < 72 then (if pc < 71 then (if pc = 70 then xo_iadd 70 1 lv st M else none) else (if pc = 71 then xo_ret 29 st M else none)) else (if pc < 73 then (if pc = 72 then xo_iload 2 72 1 lv st M else none) else (if pc < 76 then (if pc = 73 then xo_if .eq 17 73 3 lv st M else none) else (if pc = 76 then xo_aload 0 76 1 lv st M else none))))) else (if pc < 86 then (if pc < 79 then (if pc < 78 then (if pc = 77 then xo_iload 1 77 1 lv st M else none) else (if pc = 78 then xo_iconst 2 78 1 lv st M else none)) else (if pc < 80 then (if pc = 79 then xo_iadd 79 1 lv st M else none) else (if pc < 83 then (if pc = 80 then xo_call true 29 30 st else none) else (if pc = 83 then xo_if .ne 7 83 3 lv st M else none)))) else (if pc < 88 then (if pc < 87 then (if pc = 86 then xo_iload 1 86 1 lv st M else none) else (if pc = 87 then xo_iconst 2 87 1 lv st M else none)) else (if pc < 89 then (if pc = 88 then xo_iadd 88 1 lv st M else none) else (if pc < 90 then (if pc = 89 then xo_ret 29 st M else none) else (if pc = 90 then xo_aload 0 90 1 lv st M else none)))))) else (if pc < 106 then (if pc < 97 then (if pc < 93 then (if pc < 92 then (if pc = 91 then xo_iload 1 91 1 lv st M else none) else (if pc = 92 then xo_iload 2 92 1 lv st M else none)) else (if pc < 96 then (if pc = 93 then xo_call true 29 31 st else none) else (if pc = 96 then xo_iload 1 96 1 lv st M else none))) else (if pc < 101 then (if pc < 98 then (if pc = 97 then xo_iload 2 97 1 lv st M else none) else (if pc = 98 then xo_if .eq 7 98 3 lv st M else none)) else (if pc < 102 then (if pc = 101 then xo_iconst 3 101 1 lv st M else none) else (if pc < 105 then (if pc = 102 then xo_goto 4 102 lv st M else none) else (if pc = 105 then xo_iconst 1 105 1 lv st M else none))))) else (if pc < 115 then (if pc < 108 then (if pc < 107 then (if pc = 106 then xo_iadd 106 1 lv st M else none) else (if pc = 107 then xo_istore 1 107 1 lv st M else none)) else (if pc < 111 then (if pc = 108 then xo_goto (-86) 108 lv st M else none) else (if pc < 112 then (if pc = 111 then xo_aload 0 111 1 lv st M else none) else (if pc = 112 then xo_getf 1 1 112 3 lv st M else none)))) else (if pc < 119 then (if pc < 118 then (if pc = 115 then xo_if .ne 7 115 3 lv st M else none) else (if pc = 118 then xo_iconst 0 118 1 lv st M else none)) else (if pc < 122 then (if pc = 119 then xo_goto 4 119 lv st M else none) else (if pc < 123 then (if pc = 122 then xo_iconst (-1) 122 1 lv st M else none) else (if pc = 123 then xo_ret 29 st M else none)))))))
def cd_30 (pc : Nat) (lv : XL) (st : List XV) (M : XM) : Option XN := if pc < 23 then (if pc < 12 then (if pc < 5 then (if pc < 1 then (if pc = 0 then xo_iload 1 0 1 lv st M else none) else (if pc < 2 then (if pc = 1 then xo_aload 0 1 1 lv st M else none) else (if pc = 2 then xo_getf 1 1 2 3 lv st M else none))) else (if pc < 8 then (if pc = 5 then xo_icmp .ge 37 5 3 lv st M else none) else (if pc < 9 then (if pc = 8 then xo_aload 0 8 1 lv st M else none) else (if pc = 9 then xo_getf 1 0 9 3 lv st M else none)))) else (if pc < 16 then (if pc < 13 then (if pc = 12 then xo_iload 1 12 1 lv st M else none) else (if pc < 14 then (if pc = 13 then xo_iald 13 1 lv st M else none) else (if pc = 14 then xo_iconst 49 14 2 lv st M else none))) else (if pc < 19 then (if pc = 16 then xo_icmp .lt 26 16 3 lv st M else none) else (if pc < 20 then (if pc = 19 then xo_aload 0 19 1 lv st M else none) else (if pc = 20 then xo_getf 1 0 20 3 lv st M else none))))) else (if pc < 34 then (if pc < 27 then (if pc < 24 then (if pc = 23 then xo_iload 1 23 1 lv st M else none) else (if pc < 25 then (if pc = 24 then xo_iald 24 1 lv st M else none) else (if pc = 25 then xo_iconst 52 25 2 lv st M else none))) else (if pc < 30 then (if pc = 27 then xo_icmp .gt 15 27 3 lv st M else none) else (if pc < 31 then (if pc = 30 then xo_aload 0 30 1 lv st M else none) else (if pc = 31 then xo_getf 1 0 31 3 lv st M else none)))) else (if pc < 38 then (if pc < 35 then (if pc = 34 then xo_iload 1 34 1 lv st M else none) else (if pc < 36 then (if pc = 35 then xo_iald 35 1 lv st M else none) else (if pc = 36 then xo_iconst 48 36 2 lv st M else none))) else (if pc < 42 then (if pc < 39 then (if pc = 38 then xo_isub 38 1 lv st M else none) else (if pc = 39 then xo_goto 4 39 lv st M else none)) else (if pc < 43 then (if pc = 42 then xo_iconst 0 42 1 lv st M else none) else (if pc = 43 then xo_ret 30 st M else none)))))
def cd_31 (pc : Nat) (lv : XL) (st : List XV) (M : XM) : Option XN := if pc < 65 then (if pc < 31 then (if pc < 15 then (if pc < 8 then (if pc < 4 then (if pc < 1 then (if pc = 0 then xo_aload 0 0 1 lv st M else none) else (if pc = 1 then xo_getf 1 2 1 3 lv st M else none)) else (if pc < 5 then (if pc = 4 then xo_aload 0 4 1 lv st M else none) else (if pc = 5 then xo_getf 1 3 5 3 lv st M else none))) else (if pc < 10 then (if pc < 9 then (if pc = 8 then xo_aald 8 1 lv st M else none) else (if pc = 9 then xo_astore 3 9 1 lv st M else none)) else (if pc < 11 then (if pc = 10 then xo_aload 3 10 1 lv st M else none) else (if pc < 12 then (if pc = 11 then xo_aload 0 11 1 lv st M else none) else (if pc = 12 then xo_getf 1 0 12 3 lv st M else none))))) else (if pc < 22 then (if pc < 17 then (if pc < 16 then (if pc = 15 then xo_iload 1 15 1 lv st M else none) else (if pc = 16 then xo_iald 16 1 lv st M else none)) else (if pc < 20 then (if pc = 17 then xo_puti 7 0 17 3 lv st M else none) else (if pc < 21 then (if pc = 20 then xo_aload 3 20 1 lv st M else none) else (if pc = 21 then xo_iload 1 21 1 lv st M else none)))) else (if pc < 26 then (if pc < 25 then (if pc = 22 then xo_puti 7 1 22 3 lv st M else none) else (if pc = 25 then xo_aload 3 25 1 lv st M else none)) else (if pc < 27 then (if pc = 26 then xo_iload 2 26 1 lv st M else none) else (if pc < 30 then (if pc = 27 then xo_if .eq 13 27 3 lv st M else none) else (if pc = 30 then xo_aload 0 30 1 lv st M else none)))))) else (if pc < 49 then (if pc < 40 then (if pc < 33 then (if pc < 32 then (if pc = 31 then xo_iload 1 31 1 lv st M else none) else (if pc = 32 then xo_iconst 1 32 1 lv st M else none)) else (if pc < 34 then (if pc = 33 then xo_iadd 33 1 lv st M else none) else (if pc < 37 then (if pc = 34 then xo_call true 31 30 st else none) else (if pc = 37 then xo_goto 4 37 lv st M else none)))) else (if pc < 44 then (if pc < 41 then (if pc = 40 then xo_iconst 0 40 1 lv st M else none) else (if pc = 41 then xo_puti 7 2 41 3 lv st M else none)) else (if pc < 45 then (if pc = 44 then xo_aload 3 44 1 lv st M else none) else (if pc < 46 then (if pc = 45 then xo_iload 2 45 1 lv st M else none) else (if pc = 46 then xo_if .eq 13 46 3 lv st M else none))))) else (if pc < 56 then (if pc < 51 then (if pc < 50 then (if pc = 49 then xo_aload 0 49 1 lv st M else none) else (if pc = 50 then xo_iload 1 50 1 lv st M else none)) else (if pc < 52 then (if pc = 51 then xo_iconst 2 51 1 lv st M else none) else (if pc < 53 then (if pc = 52 then xo_iadd 52 1 lv st M else none) else (if pc = 53 then xo_call true 31 30 st else none)))) else (if pc < 60 then (if pc < 59 then (if pc = 56 then xo_goto 4 56 lv st M else none) else (if pc = 59 then xo_iconst 0 59 1 lv st M else none)) else (if pc < 63 then (if pc = 60 then xo_puti 7 3 60 3 lv st M else none) else (if pc < 64 then (if pc = 63 then xo_aload 3 63 1 lv st M else none) else (if pc = 64 then xo_aload 0 64 1 lv st M else none))))))) else (if pc < 102 then (if pc < 84 then (if pc < 73 then (if pc < 71 then (if pc < 68 then (if pc = 65 then xo_getf 1 4 65 3 lv st M else none) else (if pc = 68 then xo_puti 7 4 68 3 lv st M else none)) else (if pc < 72 then (if pc = 71 then xo_aload 3 71 1 lv st M else none) else (if pc = 72 then xo_aload 0 72 1 lv st M else none))) else (if pc < 79 then (if pc < 76 then (if pc = 73 then xo_getf 1 5 73 3 lv st M else none) else (if pc = 76 then xo_puti 7 5 76 3 lv st M else none)) else (if pc < 80 then (if pc = 79 then xo_aload 0 79 1 lv st M else none) else (if pc < 81 then (if pc = 80 then xo_dup 80 1 lv st M else none) else (if pc = 81 then xo_getf 1 3 81 3 lv st M else none))))) else (if pc < 91 then (if pc < 86 then (if pc < 85 then (if pc = 84 then xo_iconst 1 84 1 lv st M else none) else (if pc = 85 then xo_iadd 85 1 lv st M else none)) else (if pc < 89 then (if pc = 86 then xo_puti 1 3 86 3 lv st M else none) else (if pc < 90 then (if pc = 89 then xo_aload 0 89 1 lv st M else none) else (if pc = 90 then xo_dup 90 1 lv st M else none)))) else (if pc < 95 then (if pc < 94 then (if pc = 91 then xo_getf 1 4 91 3 lv st M else none) else (if pc = 94 then xo_aload 3 94 1 lv st M else none)) else (if pc < 98 then (if pc = 95 then xo_call true 31 62 st else none) else (if pc < 99 then (if pc = 98 then xo_iadd 98 1 lv st M else none) else (if pc = 99 then xo_puti 1 4 99 3 lv st M else none)))))) else (if pc < 120 then (if pc < 111 then (if pc < 104 then (if pc < 103 then (if pc = 102 then xo_aload 0 102 1 lv st M else none) else (if pc = 103 then xo_dup 103 1 lv st M else none)) else (if pc < 107 then (if pc = 104 then xo_getf 1 5 104 3 lv st M else none) else (if pc < 108 then (if pc = 107 then xo_aload 3 107 1 lv st M else none) else (if pc = 108 then xo_call true 31 63 st else none)))) else (if pc < 115 then (if pc < 112 then (if pc = 111 then xo_iadd 111 1 lv st M else none) else (if pc = 112 then xo_puti 1 5 112 3 lv st M else none)) else (if pc < 116 then (if pc = 115 then xo_aload 0 115 1 lv st M else none) else (if pc < 117 then (if pc = 116 then xo_dup 116 1 lv st M else none) else (if pc = 117 then xo_getf 1 6 117 3 lv st M else none))))) else (if pc < 131 then (if pc < 124 then (if pc < 121 then (if pc = 120 then xo_aload 3 120 1 lv st M else none) else (if pc = 121 then xo_call true 31 64 st else none)) else (if pc < 127 then (if pc = 124 then xo_if .eq 10 124 3 lv st M else none) else (if pc < 128 then (if pc = 127 then xo_aload 3 127 1 lv st M else none) else (if pc = 128 then xo_call true 31 63 st else none)))) else (if pc < 135 then (if pc < 134 then (if pc = 131 then xo_goto 4 131 lv st M else none) else (if pc = 134 then xo_iconst 0 134 1 lv st M else none)) else (if pc < 136 then (if pc = 135 then xo_iadd 135 1 lv st M else none) else (if pc < 139 then (if pc = 136 then xo_puti 1 6 136 3 lv st M else none) else (if pc = 139 then xo_ret 31 st M else none)))))))
def cd_32 (pc : Nat) (lv : XL) (st : List XV) (M : XM) : Option XN := if pc < 45 then (if pc < 18 then (if pc < 10 then (if pc < 3 then (if pc < 1 then (if pc = 0 then xo_iconst 0 0 1 lv st M else none) else (if pc < 2 then (if pc = 1 then xo_istore 2 1 1 lv st M else none) else (if pc = 2 then xo_iload 2 2 1 lv st M else none))) else (if pc < 4 then (if pc = 3 then xo_aload 0 3 1 lv st M else none) else (if pc < 7 then (if pc = 4 then xo_getf 1 3 4 3 lv st M else none) else (if pc = 7 then xo_icmp .ge 85 7 3 lv st M else none)))) else (if pc < 15 then (if pc < 11 then (if pc = 10 then xo_aload 0 10 1 lv st M else none) else (if pc < 14 then (if pc = 11 then xo_getf 1 2 11 3 lv st M else none) else (if pc = 14 then xo_iload 2 14 1 lv st M else none))) else (if pc < 16 then (if pc = 15 then xo_aald 15 1 lv st M else none) else (if pc < 17 then (if pc = 16 then xo_astore 3 16 1 lv st M else none) else (if pc = 17 then xo_aload 3 17 1 lv st M else none))))) else (if pc < 31 then (if pc < 26 then (if pc < 21 then (if pc = 18 then xo_getf 7 0 18 3 lv st M else none) else (if pc < 23 then (if pc = 21 then xo_iconst 116 21 2 lv st M else none) else (if pc = 23 then xo_icmp .ne 7 23 3 lv st M else none))) else (if pc < 27 then (if pc = 26 then xo_iconst 1 26 1 lv st M else none) else (if pc < 30 then (if pc = 27 then xo_goto 4 27 lv st M else none) else (if pc = 30 then xo_iconst 0 30 1 lv st M else none)))) else (if pc < 36 then (if pc < 33 then (if pc = 31 then xo_istore 4 31 2 lv st M else none) else (if pc < 34 then (if pc = 33 then xo_iconst 0 33 1 lv st M else none) else (if pc = 34 then xo_istore 5 34 2 lv st M else none))) else (if pc < 39 then (if pc < 38 then (if pc = 36 then xo_iload 5 36 2 lv st M else none) else (if pc = 38 then xo_aload 3 38 1 lv st M else none)) else (if pc < 42 then (if pc = 39 then xo_call true 32 62 st else none) else (if pc = 42 then xo_icmp .ge 26 42 3 lv st M else none)))))) else (if pc < 68 then (if pc < 57 then (if pc < 51 then (if pc < 47 then (if pc = 45 then xo_iload 4 45 2 lv st M else none) else (if pc < 48 then (if pc = 47 then xo_aload 1 47 1 lv st M else none) else (if pc = 48 then xo_getf 6 2 48 3 lv st M else none))) else (if pc < 52 then (if pc = 51 then xo_aload 3 51 1 lv st M else none) else (if pc < 55 then (if pc = 52 then xo_getf 7 4 52 3 lv st M else none) else (if pc = 55 then xo_iload 5 55 2 lv st M else none)))) else (if pc < 60 then (if pc < 58 then (if pc = 57 then xo_iadd 57 1 lv st M else none) else (if pc < 59 then (if pc = 58 then xo_iald 58 1 lv st M else none) else (if pc = 59 then xo_iadd 59 1 lv st M else none))) else (if pc < 62 then (if pc = 60 then xo_istore 4 60 2 lv st M else none) else (if pc < 65 then (if pc = 62 then xo_iinc 5 1 62 3 lv st M else none) else (if pc = 65 then xo_goto (-29) 65 lv st M else none))))) else (if pc < 81 then (if pc < 74 then (if pc < 70 then (if pc = 68 then xo_iload 4 68 2 lv st M else none) else (if pc < 71 then (if pc = 70 then xo_iconst 4 70 1 lv st M else none) else (if pc = 71 then xo_icmp .le 15 71 3 lv st M else none))) else (if pc < 75 then (if pc = 74 then xo_aload 3 74 1 lv st M else none) else (if pc < 78 then (if pc = 75 then xo_call true 32 61 st else none) else (if pc = 78 then xo_if .ne 8 78 3 lv st M else none)))) else (if pc < 86 then (if pc < 82 then (if pc = 81 then xo_aload 3 81 1 lv st M else none) else (if pc < 85 then (if pc = 82 then xo_getf 7 1 82 3 lv st M else none) else (if pc = 85 then xo_ret 32 st M else none))) else (if pc < 92 then (if pc < 89 then (if pc = 86 then xo_iinc 2 1 86 3 lv st M else none) else (if pc = 89 then xo_goto (-87) 89 lv st M else none)) else (if pc < 93 then (if pc = 92 then xo_iconst (-1) 92 1 lv st M else none) else (if pc = 93 then xo_ret 32 st M else none))))))
def cd_33 (pc : Nat) (lv : XL) (st : List XV) (M : XM) : Option XN := if pc < 19 then (if pc < 8 then (if pc < 4 then (if pc < 1 then (if pc = 0 then xo_aload 0 0 1 lv st M else none) else (if pc = 1 then xo_objinit 1 3 lv st M else none)) else (if pc < 5 then (if pc = 4 then xo_aload 0 4 1 lv st M else none) else (if pc = 5 then xo_iconst 160 5 3 lv st M else none))) else (if pc < 13 then (if pc < 10 then (if pc = 8 then xo_newa 1 29 8 2 lv st M else none) else (if pc = 10 then xo_putr 2 0 10 3 lv st M else none)) else (if pc < 14 then (if pc = 13 then xo_aload 0 13 1 lv st M else none) else (if pc < 17 then (if pc = 14 then xo_iconst 160 14 3 lv st M else none) else (if pc = 17 then xo_newa 1 30 17 2 lv st M else none))))) else (if pc < 31 then (if pc < 23 then (if pc < 22 then (if pc = 19 then xo_putr 2 1 19 3 lv st M else none) else (if pc = 22 then xo_aload 0 22 1 lv st M else none)) else (if pc < 26 then (if pc = 23 then xo_iconst 160 23 3 lv st M else none) else (if pc < 28 then (if pc = 26 then xo_newa 1 31 26 2 lv st M else none) else (if pc = 28 then xo_putr 2 2 28 3 lv st M else none)))) else (if pc < 35 then (if pc < 32 then (if pc = 31 then xo_aload 0 31 1 lv st M else none) else (if pc = 32 then xo_iconst 160 32 3 lv st M else none)) else (if pc < 37 then (if pc = 35 then xo_newa 1 32 35 2 lv st M else none) else (if pc < 40 then (if pc = 37 then xo_putr 2 3 37 3 lv st M else none) else (if pc = 40 then xo_ret 33 st M else none)))))
def cd_34 (pc : Nat) (lv : XL) (st : List XV) (M : XM) : Option XN := if pc < 25 then (if pc < 11 then (if pc < 5 then (if pc < 1 then (if pc = 0 then xo_aload 0 0 1 lv st M else none) else (if pc < 4 then (if pc = 1 then xo_getf 2 0 1 3 lv st M else none) else (if pc = 4 then xo_iload 1 4 1 lv st M else none))) else (if pc < 9 then (if pc < 6 then (if pc = 5 then xo_aload 2 5 1 lv st M else none) else (if pc = 6 then xo_getf 7 4 6 3 lv st M else none)) else (if pc < 10 then (if pc = 9 then xo_iast 9 1 lv st M else none) else (if pc = 10 then xo_aload 0 10 1 lv st M else none)))) else (if pc < 19 then (if pc < 15 then (if pc < 14 then (if pc = 11 then xo_getf 2 1 11 3 lv st M else none) else (if pc = 14 then xo_iload 1 14 1 lv st M else none)) else (if pc < 16 then (if pc = 15 then xo_aload 2 15 1 lv st M else none) else (if pc = 16 then xo_getf 7 2 16 3 lv st M else none))) else (if pc < 21 then (if pc < 20 then (if pc = 19 then xo_iast 19 1 lv st M else none) else (if pc = 20 then xo_aload 0 20 1 lv st M else none)) else (if pc < 24 then (if pc = 21 then xo_getf 2 2 21 3 lv st M else none) else (if pc = 24 then xo_iload 1 24 1 lv st M else none))))) else (if pc < 36 then (if pc < 30 then (if pc < 26 then (if pc = 25 then xo_aload 2 25 1 lv st M else none) else (if pc < 29 then (if pc = 26 then xo_getf 7 3 26 3 lv st M else none) else (if pc = 29 then xo_iast 29 1 lv st M else none))) else (if pc < 34 then (if pc < 31 then (if pc = 30 then xo_aload 0 30 1 lv st M else none) else (if pc = 31 then xo_getf 2 3 31 3 lv st M else none)) else (if pc < 35 then (if pc = 34 then xo_iload 1 34 1 lv st M else none) else (if pc = 35 then xo_aload 2 35 1 lv st M else none)))) else (if pc < 45 then (if pc < 41 then (if pc < 39 then (if pc = 36 then xo_getf 7 0 36 3 lv st M else none) else (if pc = 39 then xo_iconst 60 39 2 lv st M else none)) else (if pc < 44 then (if pc = 41 then xo_icmp .ne 7 41 3 lv st M else none) else (if pc = 44 then xo_iconst 1 44 1 lv st M else none))) else (if pc < 49 then (if pc < 48 then (if pc = 45 then xo_goto 4 45 lv st M else none) else (if pc = 48 then xo_iconst 0 48 1 lv st M else none)) else (if pc < 50 then (if pc = 49 then xo_iast 49 1 lv st M else none) else (if pc = 50 then xo_ret 34 st M else none)))))
def cd_35 (pc : Nat) (lv : XL) (st : List XV) (M : XM) : Option XN := if pc < 21 then (if pc < 8 then (if pc < 5 then (if pc < 1 then (if pc = 0 then xo_aload 2 0 1 lv st M else none) else (if pc < 2 then (if pc = 1 then xo_aload 0 1 1 lv st M else none) else (if pc = 2 then xo_getf 2 0 2 3 lv st M else none))) else (if pc < 6 then (if pc = 5 then xo_iload 1 5 1 lv st M else none) else (if pc < 7 then (if pc = 6 then xo_iald 6 1 lv st M else none) else (if pc = 7 then xo_aload 0 7 1 lv st M else none)))) else (if pc < 13 then (if pc < 11 then (if pc = 8 then xo_getf 2 1 8 3 lv st M else none) else (if pc < 12 then (if pc = 11 then xo_iload 1 11 1 lv st M else none) else (if pc = 12 then xo_iald 12 1 lv st M else none))) else (if pc < 17 then (if pc < 16 then (if pc = 13 then xo_call false 35 37 st else none) else (if pc = 16 then xo_aload 2 16 1 lv st M else none)) else (if pc < 18 then (if pc = 17 then xo_aload 0 17 1 lv st M else none) else (if pc = 18 then xo_getf 2 0 18 3 lv st M else none))))) else (if pc < 30 then (if pc < 24 then (if pc < 22 then (if pc = 21 then xo_iload 1 21 1 lv st M else none) else (if pc < 23 then (if pc = 22 then xo_iald 22 1 lv st M else none) else (if pc = 23 then xo_aload 0 23 1 lv st M else none))) else (if pc < 28 then (if pc < 27 then (if pc = 24 then xo_getf 2 1 24 3 lv st M else none) else (if pc = 27 then xo_iload 1 27 1 lv st M else none)) else (if pc < 29 then (if pc = 28 then xo_iald 28 1 lv st M else none) else (if pc = 29 then xo_iadd 29 1 lv st M else none)))) else (if pc < 35 then (if pc < 31 then (if pc = 30 then xo_aload 0 30 1 lv st M else none) else (if pc < 34 then (if pc = 31 then xo_getf 2 2 31 3 lv st M else none) else (if pc = 34 then xo_iload 1 34 1 lv st M else none))) else (if pc < 39 then (if pc < 36 then (if pc = 35 then xo_iald 35 1 lv st M else none) else (if pc = 36 then xo_call false 35 37 st else none)) else (if pc < 40 then (if pc = 39 then xo_imul 39 1 lv st M else none) else (if pc = 40 then xo_ret 35 st M else none)))))
def cd_36 (pc : Nat) (lv : XL) (st : List XV) (M : XM) : Option XN := if pc < 46 then (if pc < 20 then (if pc < 11 then (if pc < 5 then (if pc < 1 then (if pc = 0 then xo_aload 0 0 1 lv st M else none) else (if pc < 4 then (if pc = 1 then xo_getf 2 0 1 3 lv st M else none) else (if pc = 4 then xo_iload 1 4 1 lv st M else none))) else (if pc < 7 then (if pc < 6 then (if pc = 5 then xo_iald 5 1 lv st M else none) else (if pc = 6 then xo_aload 0 6 1 lv st M else none)) else (if pc < 10 then (if pc = 7 then xo_getf 2 1 7 3 lv st M else none) else (if pc = 10 then xo_iload 1 10 1 lv st M else none)))) else (if pc < 15 then (if pc < 12 then (if pc = 11 then xo_iald 11 1 lv st M else none) else (if pc < 13 then (if pc = 12 then xo_iadd 12 1 lv st M else none) else (if pc = 13 then xo_istore 4 13 2 lv st M else none))) else (if pc < 17 then (if pc < 16 then (if pc = 15 then xo_iconst 1 15 1 lv st M else none) else (if pc = 16 then xo_aload 2 16 1 lv st M else none)) else (if pc < 19 then (if pc = 17 then xo_iload 4 17 2 lv st M else none) else (if pc = 19 then xo_aload 0 19 1 lv st M else none))))) else (if pc < 34 then (if pc < 25 then (if pc < 23 then (if pc = 20 then xo_getf 2 2 20 3 lv st M else none) else (if pc < 24 then (if pc = 23 then xo_iload 1 23 1 lv st M else none) else (if pc = 24 then xo_iald 24 1 lv st M else none))) else (if pc < 31 then (if pc < 28 then (if pc = 25 then xo_call false 36 37 st else none) else (if pc = 28 then xo_max 28 3 lv st M else none)) else (if pc < 33 then (if pc = 31 then xo_istore 5 31 2 lv st M else none) else (if pc = 33 then xo_aload 2 33 1 lv st M else none)))) else (if pc < 40 then (if pc < 38 then (if pc < 35 then (if pc = 34 then xo_aload 0 34 1 lv st M else none) else (if pc = 35 then xo_getf 2 0 35 3 lv st M else none)) else (if pc < 39 then (if pc = 38 then xo_iload 1 38 1 lv st M else none) else (if pc = 39 then xo_iald 39 1 lv st M else none))) else (if pc < 44 then (if pc < 41 then (if pc = 40 then xo_aload 0 40 1 lv st M else none) else (if pc = 41 then xo_getf 2 1 41 3 lv st M else none)) else (if pc < 45 then (if pc = 44 then xo_iload 1 44 1 lv st M else none) else (if pc = 45 then xo_iald 45 1 lv st M else none)))))) else (if pc < 68 then (if pc < 58 then (if pc < 50 then (if pc < 47 then (if pc = 46 then xo_iload 3 46 1 lv st M else none) else (if pc < 49 then (if pc = 47 then xo_iload 5 47 2 lv st M else none) else (if pc = 49 then xo_idiv 49 1 lv st M else none))) else (if pc < 55 then (if pc < 53 then (if pc = 50 then xo_call false 36 38 st else none) else (if pc = 53 then xo_istore 6 53 2 lv st M else none)) else (if pc < 56 then (if pc = 55 then xo_aload 2 55 1 lv st M else none) else (if pc = 56 then xo_iload 4 56 2 lv st M else none)))) else (if pc < 63 then (if pc < 59 then (if pc = 58 then xo_aload 0 58 1 lv st M else none) else (if pc < 62 then (if pc = 59 then xo_getf 2 2 59 3 lv st M else none) else (if pc = 62 then xo_iload 1 62 1 lv st M else none))) else (if pc < 65 then (if pc < 64 then (if pc = 63 then xo_iald 63 1 lv st M else none) else (if pc = 64 then xo_iload 3 64 1 lv st M else none)) else (if pc < 67 then (if pc = 65 then xo_iload 5 65 2 lv st M else none) else (if pc = 67 then xo_irem 67 1 lv st M else none))))) else (if pc < 82 then (if pc < 76 then (if pc < 71 then (if pc = 68 then xo_call false 36 38 st else none) else (if pc < 73 then (if pc = 71 then xo_istore 7 71 2 lv st M else none) else (if pc = 73 then xo_iconst 1024 73 3 lv st M else none))) else (if pc < 79 then (if pc < 78 then (if pc = 76 then xo_iload 6 76 2 lv st M else none) else (if pc = 78 then xo_imul 78 1 lv st M else none)) else (if pc < 80 then (if pc = 79 then xo_iconst 2 79 1 lv st M else none) else (if pc = 80 then xo_iload 7 80 2 lv st M else none)))) else (if pc < 88 then (if pc < 84 then (if pc < 83 then (if pc = 82 then xo_imul 82 1 lv st M else none) else (if pc = 83 then xo_iadd 83 1 lv st M else none)) else (if pc < 85 then (if pc = 84 then xo_aload 0 84 1 lv st M else none) else (if pc = 85 then xo_getf 2 3 85 3 lv st M else none))) else (if pc < 90 then (if pc < 89 then (if pc = 88 then xo_iload 1 88 1 lv st M else none) else (if pc = 89 then xo_iald 89 1 lv st M else none)) else (if pc < 91 then (if pc = 90 then xo_iadd 90 1 lv st M else none) else (if pc = 91 then xo_ret 36 st M else none))))))
def cd_37 (pc : Nat) (lv : XL) (st : List XV) (M : XM) : Option XN := if pc < 14 then (if pc < 7 then (if pc < 2 then (if pc < 1 then (if pc = 0 then xo_iconst 0 0 1 lv st M else none) else (if pc = 1 then xo_istore 3 1 1 lv st M else none)) else (if pc < 3 then (if pc = 2 then xo_iload 1 2 1 lv st M else none) else (if pc < 5 then (if pc = 3 then xo_istore 4 3 2 lv st M else none) else (if pc = 5 then xo_iload 4 5 2 lv st M else none)))) else (if pc < 9 then (if pc < 8 then (if pc = 7 then xo_iload 1 7 1 lv st M else none) else (if pc = 8 then xo_iload 2 8 1 lv st M else none)) else (if pc < 10 then (if pc = 9 then xo_iadd 9 1 lv st M else none) else (if pc < 13 then (if pc = 10 then xo_icmp .ge 19 10 3 lv st M else none) else (if pc = 13 then xo_iload 3 13 1 lv st M else none))))) else (if pc < 22 then (if pc < 18 then (if pc < 15 then (if pc = 14 then xo_aload 0 14 1 lv st M else none) else (if pc = 15 then xo_getf 6 2 15 3 lv st M else none)) else (if pc < 20 then (if pc = 18 then xo_iload 4 18 2 lv st M else none) else (if pc < 21 then (if pc = 20 then xo_iald 20 1 lv st M else none) else (if pc = 21 then xo_iadd 21 1 lv st M else none)))) else (if pc < 26 then (if pc < 23 then (if pc = 22 then xo_istore 3 22 1 lv st M else none) else (if pc = 23 then xo_iinc 4 1 23 3 lv st M else none)) else (if pc < 29 then (if pc = 26 then xo_goto (-21) 26 lv st M else none) else (if pc < 30 then (if pc = 29 then xo_iload 3 29 1 lv st M else none) else (if pc = 30 then xo_ret 37 st M else none)))))
def cd_38 (pc : Nat) (lv : XL) (st : List XV) (M : XM) : Option XN := if pc < 26 then (if pc < 10 then (if pc < 4 then (if pc < 1 then (if pc = 0 then xo_iload 3 0 1 lv st M else none) else (if pc < 3 then (if pc = 1 then xo_istore 4 1 2 lv st M else none) else (if pc = 3 then xo_iload 1 3 1 lv st M else none))) else (if pc < 8 then (if pc < 6 then (if pc = 4 then xo_istore 5 4 2 lv st M else none) else (if pc = 6 then xo_iload 5 6 2 lv st M else none)) else (if pc < 9 then (if pc = 8 then xo_iload 1 8 1 lv st M else none) else (if pc = 9 then xo_iload 2 9 1 lv st M else none)))) else (if pc < 17 then (if pc < 14 then (if pc < 11 then (if pc = 10 then xo_iadd 10 1 lv st M else none) else (if pc = 11 then xo_icmp .ge 42 11 3 lv st M else none)) else (if pc < 16 then (if pc = 14 then xo_iload 4 14 2 lv st M else none) else (if pc = 16 then xo_aload 0 16 1 lv st M else none))) else (if pc < 22 then (if pc < 20 then (if pc = 17 then xo_getf 6 2 17 3 lv st M else none) else (if pc = 20 then xo_iload 5 20 2 lv st M else none)) else (if pc < 23 then (if pc = 22 then xo_iald 22 1 lv st M else none) else (if pc = 23 then xo_icmp .ge 12 23 3 lv st M else none))))) else (if pc < 41 then (if pc < 34 then (if pc < 29 then (if pc < 27 then (if pc = 26 then xo_aload 0 26 1 lv st M else none) else (if pc = 27 then xo_iload 5 27 2 lv st M else none)) else (if pc < 31 then (if pc = 29 then xo_iload 4 29 2 lv st M else none) else (if pc = 31 then xo_call true 38 56 st else none))) else (if pc < 37 then (if pc < 35 then (if pc = 34 then xo_ret 38 st M else none) else (if pc = 35 then xo_iload 4 35 2 lv st M else none)) else (if pc < 38 then (if pc = 37 then xo_aload 0 37 1 lv st M else none) else (if pc = 38 then xo_getf 6 2 38 3 lv st M else none)))) else (if pc < 47 then (if pc < 44 then (if pc < 43 then (if pc = 41 then xo_iload 5 41 2 lv st M else none) else (if pc = 43 then xo_iald 43 1 lv st M else none)) else (if pc < 45 then (if pc = 44 then xo_isub 44 1 lv st M else none) else (if pc = 45 then xo_istore 4 45 2 lv st M else none))) else (if pc < 53 then (if pc < 50 then (if pc = 47 then xo_iinc 5 1 47 3 lv st M else none) else (if pc = 50 then xo_goto (-44) 50 lv st M else none)) else (if pc < 54 then (if pc = 53 then xo_iconst (-1) 53 1 lv st M else none) else (if pc = 54 then xo_ret 38 st M else none)))))
def cd_39 (pc : Nat) (lv : XL) (st : List XV) (M : XM) : Option XN := if pc < 28 then (if pc < 13 then (if pc < 5 then (if pc < 1 then (if pc = 0 then xo_aload 0 0 1 lv st M else none) else (if pc < 4 then (if pc = 1 then xo_objinit 1 3 lv st M else none) else (if pc = 4 then xo_aload 0 4 1 lv st M else none))) else (if pc < 8 then (if pc = 5 then xo_iconst 300 5 3 lv st M else none) else (if pc < 10 then (if pc = 8 then xo_newa 1 23 8 2 lv st M else none) else (if pc = 10 then xo_putr 3 0 10 3 lv st M else none)))) else (if pc < 19 then (if pc < 14 then (if pc = 13 then xo_aload 0 13 1 lv st M else none) else (if pc < 17 then (if pc = 14 then xo_iconst 300 14 3 lv st M else none) else (if pc = 17 then xo_newa 1 24 17 2 lv st M else none))) else (if pc < 23 then (if pc < 22 then (if pc = 19 then xo_putr 3 1 19 3 lv st M else none) else (if pc = 22 then xo_aload 0 22 1 lv st M else none)) else (if pc < 26 then (if pc = 23 then xo_iconst 300 23 3 lv st M else none) else (if pc = 26 then xo_newa 1 25 26 2 lv st M else none))))) else (if pc < 44 then (if pc < 35 then (if pc < 31 then (if pc = 28 then xo_putr 3 2 28 3 lv st M else none) else (if pc < 32 then (if pc = 31 then xo_aload 0 31 1 lv st M else none) else (if pc = 32 then xo_iconst 300 32 3 lv st M else none))) else (if pc < 40 then (if pc < 37 then (if pc = 35 then xo_newa 1 26 35 2 lv st M else none) else (if pc = 37 then xo_putr 3 3 37 3 lv st M else none)) else (if pc < 41 then (if pc = 40 then xo_aload 0 40 1 lv st M else none) else (if pc = 41 then xo_iconst 300 41 3 lv st M else none)))) else (if pc < 50 then (if pc < 46 then (if pc = 44 then xo_newa 1 27 44 2 lv st M else none) else (if pc < 49 then (if pc = 46 then xo_putr 3 4 46 3 lv st M else none) else (if pc = 49 then xo_aload 0 49 1 lv st M else none))) else (if pc < 55 then (if pc < 53 then (if pc = 50 then xo_iconst 1200 50 3 lv st M else none) else (if pc = 53 then xo_newa 1 28 53 2 lv st M else none)) else (if pc < 58 then (if pc = 55 then xo_putr 3 5 55 3 lv st M else none) else (if pc = 58 then xo_ret 39 st M else none)))))
def cd_40 (pc : Nat) (lv : XL) (st : List XV) (M : XM) : Option XN := if pc < 31 then (if pc < 14 then (if pc < 7 then (if pc < 4 then (if pc < 1 then (if pc = 0 then xo_aload 0 0 1 lv st M else none) else (if pc = 1 then xo_getf 3 0 1 3 lv st M else none)) else (if pc < 5 then (if pc = 4 then xo_iload 1 4 1 lv st M else none) else (if pc < 6 then (if pc = 5 then xo_iload 2 5 1 lv st M else none) else (if pc = 6 then xo_iast 6 1 lv st M else none)))) else (if pc < 11 then (if pc < 8 then (if pc = 7 then xo_aload 0 7 1 lv st M else none) else (if pc = 8 then xo_getf 3 1 8 3 lv st M else none)) else (if pc < 12 then (if pc = 11 then xo_iload 1 11 1 lv st M else none) else (if pc < 13 then (if pc = 12 then xo_iload 3 12 1 lv st M else none) else (if pc = 13 then xo_iast 13 1 lv st M else none))))) else (if pc < 22 then (if pc < 18 then (if pc < 15 then (if pc = 14 then xo_aload 0 14 1 lv st M else none) else (if pc = 15 then xo_getf 3 2 15 3 lv st M else none)) else (if pc < 19 then (if pc = 18 then xo_iload 1 18 1 lv st M else none) else (if pc < 21 then (if pc = 19 then xo_iload 4 19 2 lv st M else none) else (if pc = 21 then xo_iast 21 1 lv st M else none)))) else (if pc < 27 then (if pc < 23 then (if pc = 22 then xo_aload 0 22 1 lv st M else none) else (if pc < 26 then (if pc = 23 then xo_getf 3 3 23 3 lv st M else none) else (if pc = 26 then xo_iload 1 26 1 lv st M else none))) else (if pc < 29 then (if pc = 27 then xo_iload 5 27 2 lv st M else none) else (if pc < 30 then (if pc = 29 then xo_iast 29 1 lv st M else none) else (if pc = 30 then xo_aload 0 30 1 lv st M else none)))))) else (if pc < 47 then (if pc < 38 then (if pc < 35 then (if pc < 34 then (if pc = 31 then xo_getf 3 4 31 3 lv st M else none) else (if pc = 34 then xo_iload 1 34 1 lv st M else none)) else (if pc < 36 then (if pc = 35 then xo_iload 3 35 1 lv st M else none) else (if pc < 37 then (if pc = 36 then xo_iast 36 1 lv st M else none) else (if pc = 37 then xo_iconst 0 37 1 lv st M else none)))) else (if pc < 42 then (if pc < 40 then (if pc = 38 then xo_istore 6 38 2 lv st M else none) else (if pc = 40 then xo_iload 6 40 2 lv st M else none)) else (if pc < 43 then (if pc = 42 then xo_iconst 4 42 1 lv st M else none) else (if pc < 46 then (if pc = 43 then xo_icmp .ge 21 43 3 lv st M else none) else (if pc = 46 then xo_aload 0 46 1 lv st M else none))))) else (if pc < 55 then (if pc < 51 then (if pc < 50 then (if pc = 47 then xo_getf 3 5 47 3 lv st M else none) else (if pc = 50 then xo_iload 1 50 1 lv st M else none)) else (if pc < 52 then (if pc = 51 then xo_iconst 4 51 1 lv st M else none) else (if pc < 53 then (if pc = 52 then xo_imul 52 1 lv st M else none) else (if pc = 53 then xo_iload 6 53 2 lv st M else none)))) else (if pc < 58 then (if pc < 56 then (if pc = 55 then xo_iadd 55 1 lv st M else none) else (if pc < 57 then (if pc = 56 then xo_iconst (-1) 56 1 lv st M else none) else (if pc = 57 then xo_iast 57 1 lv st M else none))) else (if pc < 61 then (if pc = 58 then xo_iinc 6 1 58 3 lv st M else none) else (if pc < 64 then (if pc = 61 then xo_goto (-21) 61 lv st M else none) else (if pc = 64 then xo_ret 40 st M else none))))))
def cd_41 (pc : Nat) (lv : XL) (st : List XV) (M : XM) : Option XN := if pc < 10 then (if pc < 5 then (if pc < 1 then (if pc = 0 then xo_aload 0 0 1 lv st M else none) else (if pc < 4 then (if pc = 1 then xo_objinit 1 3 lv st M else none) else (if pc = 4 then xo_aload 0 4 1 lv st M else none))) else (if pc < 6 then (if pc = 5 then xo_iconst 0 5 1 lv st M else none) else (if pc < 9 then (if pc = 6 then xo_puti 4 0 6 3 lv st M else none) else (if pc = 9 then xo_aload 0 9 1 lv st M else none)))) else (if pc < 15 then (if pc < 11 then (if pc = 10 then xo_iconst 0 10 1 lv st M else none) else (if pc < 14 then (if pc = 11 then xo_puti 4 1 11 3 lv st M else none) else (if pc = 14 then xo_aload 0 14 1 lv st M else none))) else (if pc < 16 then (if pc = 15 then xo_iconst 0 15 1 lv st M else none) else (if pc < 19 then (if pc = 16 then xo_puti 4 2 16 3 lv st M else none) else (if pc = 19 then xo_ret 41 st M else none))))
def cd_42 (pc : Nat) (lv : XL) (st : List XV) (M : XM) : Option XN := if pc < 30 then (if pc < 15 then (if pc < 6 then (if pc < 2 then (if pc < 1 then (if pc = 0 then xo_aload 0 0 1 lv st M else none) else (if pc = 1 then xo_iconst 0 1 1 lv st M else none)) else (if pc < 5 then (if pc = 2 then xo_puti 4 0 2 3 lv st M else none) else (if pc = 5 then xo_aload 0 5 1 lv st M else none))) else (if pc < 10 then (if pc < 7 then (if pc = 6 then xo_iconst 0 6 1 lv st M else none) else (if pc = 7 then xo_puti 4 1 7 3 lv st M else none)) else (if pc < 11 then (if pc = 10 then xo_aload 0 10 1 lv st M else none) else (if pc < 12 then (if pc = 11 then xo_iconst 0 11 1 lv st M else none) else (if pc = 12 then xo_puti 4 2 12 3 lv st M else none))))) else (if pc < 23 then (if pc < 19 then (if pc < 16 then (if pc = 15 then xo_aload 1 15 1 lv st M else none) else (if pc = 16 then xo_call true 42 52 st else none)) else (if pc < 22 then (if pc = 19 then xo_if .eq 30 19 3 lv st M else none) else (if pc = 22 then xo_aload 0 22 1 lv st M else none))) else (if pc < 25 then (if pc < 24 then (if pc = 23 then xo_aload 1 23 1 lv st M else none) else (if pc = 24 then xo_aload 2 24 1 lv st M else none)) else (if pc < 28 then (if pc = 25 then xo_call true 42 43 st else none) else (if pc < 29 then (if pc = 28 then xo_aload 0 28 1 lv st M else none) else (if pc = 29 then xo_aload 1 29 1 lv st M else none)))))) else (if pc < 43 then (if pc < 36 then (if pc < 34 then (if pc < 31 then (if pc = 30 then xo_iconst 0 30 1 lv st M else none) else (if pc = 31 then xo_call true 42 44 st else none)) else (if pc < 35 then (if pc = 34 then xo_aload 0 34 1 lv st M else none) else (if pc = 35 then xo_aload 1 35 1 lv st M else none))) else (if pc < 40 then (if pc < 37 then (if pc = 36 then xo_iconst 1 36 1 lv st M else none) else (if pc = 37 then xo_call true 42 44 st else none)) else (if pc < 41 then (if pc = 40 then xo_aload 0 40 1 lv st M else none) else (if pc < 42 then (if pc = 41 then xo_aload 1 41 1 lv st M else none) else (if pc = 42 then xo_aload 2 42 1 lv st M else none))))) else (if pc < 52 then (if pc < 49 then (if pc < 46 then (if pc = 43 then xo_call true 42 45 st else none) else (if pc = 46 then xo_goto 9 46 lv st M else none)) else (if pc < 50 then (if pc = 49 then xo_aload 0 49 1 lv st M else none) else (if pc < 51 then (if pc = 50 then xo_aload 1 50 1 lv st M else none) else (if pc = 51 then xo_aload 2 51 1 lv st M else none)))) else (if pc < 56 then (if pc < 55 then (if pc = 52 then xo_call true 42 46 st else none) else (if pc = 55 then xo_aload 0 55 1 lv st M else none)) else (if pc < 57 then (if pc = 56 then xo_iconst 0 56 1 lv st M else none) else (if pc < 60 then (if pc = 57 then xo_call true 42 48 st else none) else (if pc = 60 then xo_ret 42 st M else none))))))
def cd_43 (pc : Nat) (lv : XL) (st : List XV) (M : XM) : Option XN := if pc < 17 then (if pc < 7 then (if pc < 2 then (if pc < 1 then (if pc = 0 then xo_iconst 0 0 1 lv st M else none) else (if pc = 1 then xo_istore 3 1 1 lv st M else none)) else (if pc < 3 then (if pc = 2 then xo_iload 3 2 1 lv st M else none) else (if pc < 4 then (if pc = 3 then xo_aload 1 3 1 lv st M else none) else (if pc = 4 then xo_getf 5 0 4 3 lv st M else none)))) else (if pc < 14 then (if pc < 10 then (if pc = 7 then xo_icmp .ge 33 7 3 lv st M else none) else (if pc < 11 then (if pc = 10 then xo_aload 1 10 1 lv st M else none) else (if pc = 11 then xo_getf 5 2 11 3 lv st M else none))) else (if pc < 15 then (if pc = 14 then xo_iload 3 14 1 lv st M else none) else (if pc < 16 then (if pc = 15 then xo_iald 15 1 lv st M else none) else (if pc = 16 then xo_iconst (-1) 16 1 lv st M else none))))) else (if pc < 29 then (if pc < 24 then (if pc < 20 then (if pc = 17 then xo_icmp .eq 17 17 3 lv st M else none) else (if pc < 21 then (if pc = 20 then xo_aload 2 20 1 lv st M else none) else (if pc = 21 then xo_getf 6 3 21 3 lv st M else none))) else (if pc < 25 then (if pc = 24 then xo_iload 3 24 1 lv st M else none) else (if pc < 26 then (if pc = 25 then xo_iald 25 1 lv st M else none) else (if pc = 26 then xo_if .ne 8 26 3 lv st M else none)))) else (if pc < 34 then (if pc < 30 then (if pc = 29 then xo_aload 0 29 1 lv st M else none) else (if pc < 31 then (if pc = 30 then xo_iconst 0 30 1 lv st M else none) else (if pc = 31 then xo_call true 43 47 st else none))) else (if pc < 37 then (if pc = 34 then xo_iinc 3 1 34 3 lv st M else none) else (if pc < 40 then (if pc = 37 then xo_goto (-35) 37 lv st M else none) else (if pc = 40 then xo_ret 43 st M else none)))))
def cd_44 (pc : Nat) (lv : XL) (st : List XV) (M : XM) : Option XN := if pc < 24 then (if pc < 11 then (if pc < 3 then (if pc < 1 then (if pc = 0 then xo_iconst 0 0 1 lv st M else none) else (if pc < 2 then (if pc = 1 then xo_istore 3 1 1 lv st M else none) else (if pc = 2 then xo_iload 3 2 1 lv st M else none))) else (if pc < 7 then (if pc < 4 then (if pc = 3 then xo_aload 1 3 1 lv st M else none) else (if pc = 4 then xo_getf 5 0 4 3 lv st M else none)) else (if pc < 10 then (if pc = 7 then xo_icmp .ge 41 7 3 lv st M else none) else (if pc = 10 then xo_aload 1 10 1 lv st M else none)))) else (if pc < 16 then (if pc < 14 then (if pc = 11 then xo_getf 5 2 11 3 lv st M else none) else (if pc < 15 then (if pc = 14 then xo_iload 3 14 1 lv st M else none) else (if pc = 15 then xo_iald 15 1 lv st M else none))) else (if pc < 20 then (if pc < 17 then (if pc = 16 then xo_iconst (-1) 16 1 lv st M else none) else (if pc = 17 then xo_icmp .eq 25 17 3 lv st M else none)) else (if pc < 21 then (if pc = 20 then xo_aload 1 20 1 lv st M else none) else (if pc = 21 then xo_getf 5 3 21 3 lv st M else none))))) else (if pc < 35 then (if pc < 27 then (if pc < 25 then (if pc = 24 then xo_iload 3 24 1 lv st M else none) else (if pc < 26 then (if pc = 25 then xo_bald 25 1 lv st M else none) else (if pc = 26 then xo_iload 2 26 1 lv st M else none))) else (if pc < 31 then (if pc < 30 then (if pc = 27 then xo_icmp .ne 15 27 3 lv st M else none) else (if pc = 30 then xo_aload 0 30 1 lv st M else none)) else (if pc < 32 then (if pc = 31 then xo_aload 1 31 1 lv st M else none) else (if pc = 32 then xo_getf 5 2 32 3 lv st M else none)))) else (if pc < 39 then (if pc < 37 then (if pc < 36 then (if pc = 35 then xo_iload 3 35 1 lv st M else none) else (if pc = 36 then xo_iald 36 1 lv st M else none)) else (if pc < 38 then (if pc = 37 then xo_iload 3 37 1 lv st M else none) else (if pc = 38 then xo_isub 38 1 lv st M else none))) else (if pc < 45 then (if pc < 42 then (if pc = 39 then xo_call true 44 47 st else none) else (if pc = 42 then xo_iinc 3 1 42 3 lv st M else none)) else (if pc < 48 then (if pc = 45 then xo_goto (-43) 45 lv st M else none) else (if pc = 48 then xo_ret 44 st M else none)))))
def cd_45 (pc : Nat) (lv : XL) (st : List XV) (M : XM) : Option XN := if pc < 21 then (if pc < 10 then (if pc < 3 then (if pc < 1 then (if pc = 0 then xo_iconst 0 0 1 lv st M else none) else (if pc < 2 then (if pc = 1 then xo_istore 3 1 1 lv st M else none) else (if pc = 2 then xo_iload 3 2 1 lv st M else none))) else (if pc < 4 then (if pc = 3 then xo_aload 1 3 1 lv st M else none) else (if pc < 7 then (if pc = 4 then xo_getf 5 0 4 3 lv st M else none) else (if pc = 7 then xo_icmp .ge 38 7 3 lv st M else none)))) else (if pc < 15 then (if pc < 11 then (if pc = 10 then xo_aload 1 10 1 lv st M else none) else (if pc < 14 then (if pc = 11 then xo_getf 5 2 11 3 lv st M else none) else (if pc = 14 then xo_iload 3 14 1 lv st M else none))) else (if pc < 17 then (if pc < 16 then (if pc = 15 then xo_iald 15 1 lv st M else none) else (if pc = 16 then xo_iconst (-1) 16 1 lv st M else none)) else (if pc < 20 then (if pc = 17 then xo_icmp .eq 22 17 3 lv st M else none) else (if pc = 20 then xo_aload 1 20 1 lv st M else none))))) else (if pc < 31 then (if pc < 26 then (if pc < 24 then (if pc = 21 then xo_getf 5 1 21 3 lv st M else none) else (if pc < 25 then (if pc = 24 then xo_iload 3 24 1 lv st M else none) else (if pc = 25 then xo_aald 25 1 lv st M else none))) else (if pc < 27 then (if pc = 26 then xo_aload 2 26 1 lv st M else none) else (if pc < 30 then (if pc = 27 then xo_call true 45 68 st else none) else (if pc = 30 then xo_iconst 1 30 1 lv st M else none)))) else (if pc < 36 then (if pc < 34 then (if pc = 31 then xo_icmp .ne 8 31 3 lv st M else none) else (if pc < 35 then (if pc = 34 then xo_aload 0 34 1 lv st M else none) else (if pc = 35 then xo_iconst 0 35 1 lv st M else none))) else (if pc < 42 then (if pc < 39 then (if pc = 36 then xo_call true 45 47 st else none) else (if pc = 39 then xo_iinc 3 1 39 3 lv st M else none)) else (if pc < 45 then (if pc = 42 then xo_goto (-40) 42 lv st M else none) else (if pc = 45 then xo_ret 45 st M else none)))))
def cd_46 (pc : Nat) (lv : XL) (st : List XV) (M : XM) : Option XN := if pc < 24 then (if pc < 11 then (if pc < 3 then (if pc < 1 then (if pc = 0 then xo_iconst 0 0 1 lv st M else none) else (if pc < 2 then (if pc = 1 then xo_istore 3 1 1 lv st M else none) else (if pc = 2 then xo_iload 3 2 1 lv st M else none))) else (if pc < 7 then (if pc < 4 then (if pc = 3 then xo_aload 1 3 1 lv st M else none) else (if pc = 4 then xo_getf 5 0 4 3 lv st M else none)) else (if pc < 10 then (if pc = 7 then xo_icmp .ge 43 7 3 lv st M else none) else (if pc = 10 then xo_aload 1 10 1 lv st M else none)))) else (if pc < 16 then (if pc < 14 then (if pc = 11 then xo_getf 5 2 11 3 lv st M else none) else (if pc < 15 then (if pc = 14 then xo_iload 3 14 1 lv st M else none) else (if pc = 15 then xo_iald 15 1 lv st M else none))) else (if pc < 20 then (if pc < 17 then (if pc = 16 then xo_iconst (-1) 16 1 lv st M else none) else (if pc = 17 then xo_icmp .eq 27 17 3 lv st M else none)) else (if pc < 21 then (if pc = 20 then xo_aload 1 20 1 lv st M else none) else (if pc = 21 then xo_getf 5 1 21 3 lv st M else none))))) else (if pc < 35 then (if pc < 27 then (if pc < 25 then (if pc = 24 then xo_iload 3 24 1 lv st M else none) else (if pc < 26 then (if pc = 25 then xo_aald 25 1 lv st M else none) else (if pc = 26 then xo_aload 2 26 1 lv st M else none))) else (if pc < 31 then (if pc < 30 then (if pc = 27 then xo_call true 46 68 st else none) else (if pc = 30 then xo_aload 2 30 1 lv st M else none)) else (if pc < 34 then (if pc = 31 then xo_getf 6 3 31 3 lv st M else none) else (if pc = 34 then xo_iload 3 34 1 lv st M else none)))) else (if pc < 41 then (if pc < 39 then (if pc < 36 then (if pc = 35 then xo_iald 35 1 lv st M else none) else (if pc = 36 then xo_icmp .eq 8 36 3 lv st M else none)) else (if pc < 40 then (if pc = 39 then xo_aload 0 39 1 lv st M else none) else (if pc = 40 then xo_iconst 0 40 1 lv st M else none))) else (if pc < 47 then (if pc < 44 then (if pc = 41 then xo_call true 46 47 st else none) else (if pc = 44 then xo_iinc 3 1 44 3 lv st M else none)) else (if pc < 50 then (if pc = 47 then xo_goto (-45) 47 lv st M else none) else (if pc = 50 then xo_ret 46 st M else none)))))
def cd_47 (pc : Nat) (lv : XL) (st : List XV) (M : XM) : Option XN := if pc < 7 then (if pc < 2 then (if pc < 1 then (if pc = 0 then xo_aload 0 0 1 lv st M else none) else (if pc = 1 then xo_iload 1 1 1 lv st M else none)) else (if pc < 5 then (if pc = 2 then xo_call true 47 48 st else none) else (if pc < 6 then (if pc = 5 then xo_aload 0 5 1 lv st M else none) else (if pc = 6 then xo_dup 6 1 lv st M else none)))) else (if pc < 11 then (if pc < 10 then (if pc = 7 then xo_getf 4 1 7 3 lv st M else none) else (if pc = 10 then xo_iconst 1 10 1 lv st M else none)) else (if pc < 12 then (if pc = 11 then xo_iadd 11 1 lv st M else none) else (if pc < 15 then (if pc = 12 then xo_puti 4 1 12 3 lv st M else none) else (if pc = 15 then xo_ret 47 st M else none))))
def cd_48 (pc : Nat) (lv : XL) (st : List XV) (M : XM) : Option XN := if pc < 13 then (if pc < 5 then (if pc < 1 then (if pc = 0 then xo_aload 0 0 1 lv st M else none) else (if pc < 4 then (if pc = 1 then xo_getf 4 0 1 3 lv st M else none) else (if pc = 4 then xo_iload 1 4 1 lv st M else none))) else (if pc < 9 then (if pc < 8 then (if pc = 5 then xo_icmp .eq 18 5 3 lv st M else none) else (if pc = 8 then xo_aload 0 8 1 lv st M else none)) else (if pc < 10 then (if pc = 9 then xo_iload 1 9 1 lv st M else none) else (if pc = 10 then xo_puti 4 0 10 3 lv st M else none)))) else (if pc < 18 then (if pc < 14 then (if pc = 13 then xo_aload 0 13 1 lv st M else none) else (if pc < 15 then (if pc = 14 then xo_dup 14 1 lv st M else none) else (if pc = 15 then xo_getf 4 2 15 3 lv st M else none))) else (if pc < 20 then (if pc < 19 then (if pc = 18 then xo_iconst 1 18 1 lv st M else none) else (if pc = 19 then xo_iadd 19 1 lv st M else none)) else (if pc < 23 then (if pc = 20 then xo_puti 4 2 20 3 lv st M else none) else (if pc = 23 then xo_ret 48 st M else none))))
def cd_49 (pc : Nat) (lv : XL) (st : List XV) (M : XM) : Option XN := if pc < 43 then (if pc < 19 then (if pc < 9 then (if pc < 4 then (if pc < 1 then (if pc = 0 then xo_aload 0 0 1 lv st M else none) else (if pc = 1 then xo_objinit 1 3 lv st M else none)) else (if pc < 5 then (if pc = 4 then xo_aload 0 4 1 lv st M else none) else (if pc < 6 then (if pc = 5 then xo_iconst 0 5 1 lv st M else none) else (if pc = 6 then xo_puti 5 0 6 3 lv st M else none)))) else (if pc < 12 then (if pc < 10 then (if pc = 9 then xo_aload 0 9 1 lv st M else none) else (if pc = 10 then xo_iconst 16 10 2 lv st M else none)) else (if pc < 15 then (if pc = 12 then xo_newa 4 14 12 3 lv st M else none) else (if pc < 18 then (if pc = 15 then xo_putr 5 1 15 3 lv st M else none) else (if pc = 18 then xo_aload 0 18 1 lv st M else none))))) else (if pc < 29 then (if pc < 23 then (if pc < 21 then (if pc = 19 then xo_iconst 16 19 2 lv st M else none) else (if pc = 21 then xo_newa 1 15 21 2 lv st M else none)) else (if pc < 26 then (if pc = 23 then xo_putr 5 2 23 3 lv st M else none) else (if pc < 27 then (if pc = 26 then xo_aload 0 26 1 lv st M else none) else (if pc = 27 then xo_iconst 16 27 2 lv st M else none)))) else (if pc < 35 then (if pc < 31 then (if pc = 29 then xo_newa 2 16 29 2 lv st M else none) else (if pc < 34 then (if pc = 31 then xo_putr 5 3 31 3 lv st M else none) else (if pc = 34 then xo_aload 0 34 1 lv st M else none))) else (if pc < 37 then (if pc = 35 then xo_iconst 16 35 2 lv st M else none) else (if pc < 40 then (if pc = 37 then xo_newa 4 17 37 3 lv st M else none) else (if pc = 40 then xo_putr 5 4 40 3 lv st M else none)))))) else (if pc < 63 then (if pc < 52 then (if pc < 47 then (if pc < 46 then (if pc = 43 then xo_new 18 43 3 lv st M else none) else (if pc = 46 then xo_dup 46 1 lv st M else none)) else (if pc < 50 then (if pc = 47 then xo_call true 49 58 st else none) else (if pc < 51 then (if pc = 50 then xo_astore 1 50 1 lv st M else none) else (if pc = 51 then xo_iconst 0 51 1 lv st M else none)))) else (if pc < 56 then (if pc < 53 then (if pc = 52 then xo_istore 2 52 1 lv st M else none) else (if pc < 54 then (if pc = 53 then xo_iload 2 53 1 lv st M else none) else (if pc = 54 then xo_iconst 16 54 2 lv st M else none))) else (if pc < 59 then (if pc = 56 then xo_icmp .ge 23 56 3 lv st M else none) else (if pc < 60 then (if pc = 59 then xo_aload 0 59 1 lv st M else none) else (if pc = 60 then xo_getf 5 1 60 3 lv st M else none))))) else (if pc < 70 then (if pc < 65 then (if pc < 64 then (if pc = 63 then xo_iload 2 63 1 lv st M else none) else (if pc = 64 then xo_aload 1 64 1 lv st M else none)) else (if pc < 66 then (if pc = 65 then xo_aast 65 1 lv st M else none) else (if pc < 67 then (if pc = 66 then xo_aload 0 66 1 lv st M else none) else (if pc = 67 then xo_getf 5 4 67 3 lv st M else none)))) else (if pc < 73 then (if pc < 71 then (if pc = 70 then xo_iload 2 70 1 lv st M else none) else (if pc < 72 then (if pc = 71 then xo_aload 1 71 1 lv st M else none) else (if pc = 72 then xo_aast 72 1 lv st M else none))) else (if pc < 76 then (if pc = 73 then xo_iinc 2 1 73 3 lv st M else none) else (if pc < 79 then (if pc = 76 then xo_goto (-23) 76 lv st M else none) else (if pc = 79 then xo_ret 49 st M else none))))))
def cd_50 (pc : Nat) (lv : XL) (st : List XV) (M : XM) : Option XN := if pc < 58 then (if pc < 26 then (if pc < 12 then (if pc < 8 then (if pc < 2 then (if pc < 1 then (if pc = 0 then xo_aload 0 0 1 lv st M else none) else (if pc = 1 then xo_aload 1 1 1 lv st M else none)) else (if pc < 5 then (if pc = 2 then xo_getf 1 4 2 3 lv st M else none) else (if pc = 5 then xo_puti 5 0 5 3 lv st M else none))) else (if pc < 10 then (if pc < 9 then (if pc = 8 then xo_iconst 0 8 1 lv st M else none) else (if pc = 9 then xo_istore 2 9 1 lv st M else none)) else (if pc < 11 then (if pc = 10 then xo_iload 2 10 1 lv st M else none) else (if pc = 11 then xo_aload 1 11 1 lv st M else none)))) else (if pc < 22 then (if pc < 18 then (if pc < 15 then (if pc = 12 then xo_getf 1 3 12 3 lv st M else none) else (if pc = 15 then xo_icmp .ge 108 15 3 lv st M else none)) else (if pc < 19 then (if pc = 18 then xo_aload 1 18 1 lv st M else none) else (if pc = 19 then xo_getf 1 2 19 3 lv st M else none))) else (if pc < 24 then (if pc < 23 then (if pc = 22 then xo_iload 2 22 1 lv st M else none) else (if pc = 23 then xo_aald 23 1 lv st M else none)) else (if pc < 25 then (if pc = 24 then xo_astore 3 24 1 lv st M else none) else (if pc = 25 then xo_iconst 0 25 1 lv st M else none))))) else (if pc < 43 then (if pc < 34 then (if pc < 30 then (if pc < 28 then (if pc = 26 then xo_istore 4 26 2 lv st M else none) else (if pc = 28 then xo_iload 4 28 2 lv st M else none)) else (if pc < 31 then (if pc = 30 then xo_aload 3 30 1 lv st M else none) else (if pc = 31 then xo_call true 50 62 st else none))) else (if pc < 38 then (if pc < 37 then (if pc = 34 then xo_icmp .ge 52 34 3 lv st M else none) else (if pc = 37 then xo_aload 3 37 1 lv st M else none)) else (if pc < 41 then (if pc = 38 then xo_getf 7 4 38 3 lv st M else none) else (if pc = 41 then xo_iload 4 41 2 lv st M else none)))) else (if pc < 50 then (if pc < 46 then (if pc < 44 then (if pc = 43 then xo_iadd 43 1 lv st M else none) else (if pc = 44 then xo_istore 5 44 2 lv st M else none)) else (if pc < 47 then (if pc = 46 then xo_aload 0 46 1 lv st M else none) else (if pc = 47 then xo_getf 5 1 47 3 lv st M else none))) else (if pc < 53 then (if pc < 52 then (if pc = 50 then xo_iload 5 50 2 lv st M else none) else (if pc = 52 then xo_aload 3 52 1 lv st M else none)) else (if pc < 54 then (if pc = 53 then xo_aast 53 1 lv st M else none) else (if pc < 55 then (if pc = 54 then xo_aload 0 54 1 lv st M else none) else (if pc = 55 then xo_getf 5 2 55 3 lv st M else none))))))) else (if pc < 89 then (if pc < 73 then (if pc < 66 then (if pc < 61 then (if pc < 60 then (if pc = 58 then xo_iload 5 58 2 lv st M else none) else (if pc = 60 then xo_aload 3 60 1 lv st M else none)) else (if pc < 63 then (if pc = 61 then xo_iload 5 61 2 lv st M else none) else (if pc = 63 then xo_call true 50 66 st else none))) else (if pc < 68 then (if pc < 67 then (if pc = 66 then xo_iast 66 1 lv st M else none) else (if pc = 67 then xo_aload 0 67 1 lv st M else none)) else (if pc < 71 then (if pc = 68 then xo_getf 5 3 68 3 lv st M else none) else (if pc = 71 then xo_iload 5 71 2 lv st M else none)))) else (if pc < 80 then (if pc < 76 then (if pc < 74 then (if pc = 73 then xo_aload 3 73 1 lv st M else none) else (if pc = 74 then xo_iload 5 74 2 lv st M else none)) else (if pc < 79 then (if pc = 76 then xo_call true 50 67 st else none) else (if pc = 79 then xo_bast 79 1 lv st M else none))) else (if pc < 86 then (if pc < 83 then (if pc = 80 then xo_iinc 4 1 80 3 lv st M else none) else (if pc = 83 then xo_goto (-55) 83 lv st M else none)) else (if pc < 87 then (if pc = 86 then xo_iconst 0 86 1 lv st M else none) else (if pc = 87 then xo_istore 4 87 2 lv st M else none))))) else (if pc < 106 then (if pc < 98 then (if pc < 92 then (if pc < 91 then (if pc = 89 then xo_iload 4 89 2 lv st M else none) else (if pc = 91 then xo_aload 3 91 1 lv st M else none)) else (if pc < 95 then (if pc = 92 then xo_call true 50 63 st else none) else (if pc = 95 then xo_icmp .ge 22 95 3 lv st M else none))) else (if pc < 102 then (if pc < 99 then (if pc = 98 then xo_aload 0 98 1 lv st M else none) else (if pc = 99 then xo_getf 5 4 99 3 lv st M else none)) else (if pc < 103 then (if pc = 102 then xo_aload 3 102 1 lv st M else none) else (if pc = 103 then xo_getf 7 5 103 3 lv st M else none)))) else (if pc < 111 then (if pc < 109 then (if pc < 108 then (if pc = 106 then xo_iload 4 106 2 lv st M else none) else (if pc = 108 then xo_iadd 108 1 lv st M else none)) else (if pc < 110 then (if pc = 109 then xo_aload 3 109 1 lv st M else none) else (if pc = 110 then xo_aast 110 1 lv st M else none))) else (if pc < 117 then (if pc < 114 then (if pc = 111 then xo_iinc 4 1 111 3 lv st M else none) else (if pc = 114 then xo_goto (-25) 114 lv st M else none)) else (if pc < 120 then (if pc = 117 then xo_iinc 2 1 117 3 lv st M else none) else (if pc < 123 then (if pc = 120 then xo_goto (-110) 120 lv st M else none) else (if pc = 123 then xo_ret 50 st M else none)))))))
def cd_51 (pc : Nat) (lv : XL) (st : List XV) (M : XM) : Option XN := if pc < 25 then (if pc < 11 then (if pc < 3 then (if pc < 1 then (if pc = 0 then xo_iconst 0 0 1 lv st M else none) else (if pc < 2 then (if pc = 1 then xo_istore 1 1 1 lv st M else none) else (if pc = 2 then xo_iload 1 2 1 lv st M else none))) else (if pc < 7 then (if pc < 4 then (if pc = 3 then xo_aload 0 3 1 lv st M else none) else (if pc = 4 then xo_getf 5 0 4 3 lv st M else none)) else (if pc < 10 then (if pc = 7 then xo_icmp .ge 45 7 3 lv st M else none) else (if pc = 10 then xo_aload 0 10 1 lv st M else none)))) else (if pc < 17 then (if pc < 15 then (if pc < 14 then (if pc = 11 then xo_getf 5 2 11 3 lv st M else none) else (if pc = 14 then xo_iload 1 14 1 lv st M else none)) else (if pc < 16 then (if pc = 15 then xo_iald 15 1 lv st M else none) else (if pc = 16 then xo_iconst (-1) 16 1 lv st M else none))) else (if pc < 21 then (if pc < 20 then (if pc = 17 then xo_icmp .eq 29 17 3 lv st M else none) else (if pc = 20 then xo_aload 0 20 1 lv st M else none)) else (if pc < 24 then (if pc = 21 then xo_getf 5 2 21 3 lv st M else none) else (if pc = 24 then xo_iload 1 24 1 lv st M else none))))) else (if pc < 40 then (if pc < 31 then (if pc < 27 then (if pc < 26 then (if pc = 25 then xo_iald 25 1 lv st M else none) else (if pc = 26 then xo_iload 1 26 1 lv st M else none)) else (if pc < 28 then (if pc = 27 then xo_isub 27 1 lv st M else none) else (if pc = 28 then xo_abs 28 3 lv st M else none))) else (if pc < 36 then (if pc < 33 then (if pc = 31 then xo_iconst 8 31 2 lv st M else none) else (if pc = 33 then xo_icmp .le 13 33 3 lv st M else none)) else (if pc < 37 then (if pc = 36 then xo_aload 0 36 1 lv st M else none) else (if pc = 37 then xo_getf 5 1 37 3 lv st M else none)))) else (if pc < 46 then (if pc < 42 then (if pc < 41 then (if pc = 40 then xo_iload 1 40 1 lv st M else none) else (if pc = 41 then xo_aald 41 1 lv st M else none)) else (if pc < 45 then (if pc = 42 then xo_getf 7 1 42 3 lv st M else none) else (if pc = 45 then xo_ret 51 st M else none))) else (if pc < 52 then (if pc < 49 then (if pc = 46 then xo_iinc 1 1 46 3 lv st M else none) else (if pc = 49 then xo_goto (-47) 49 lv st M else none)) else (if pc < 53 then (if pc = 52 then xo_iconst (-1) 52 1 lv st M else none) else (if pc = 53 then xo_ret 51 st M else none)))))
def cd_52 (pc : Nat) (lv : XL) (st : List XV) (M : XM) : Option XN := if pc < 20 then (if pc < 10 then (if pc < 3 then (if pc < 1 then (if pc = 0 then xo_iconst 0 0 1 lv st M else none) else (if pc < 2 then (if pc = 1 then xo_istore 1 1 1 lv st M else none) else (if pc = 2 then xo_iload 1 2 1 lv st M else none))) else (if pc < 4 then (if pc = 3 then xo_aload 0 3 1 lv st M else none) else (if pc < 7 then (if pc = 4 then xo_getf 5 0 4 3 lv st M else none) else (if pc = 7 then xo_icmp .ge 31 7 3 lv st M else none)))) else (if pc < 15 then (if pc < 11 then (if pc = 10 then xo_aload 0 10 1 lv st M else none) else (if pc < 14 then (if pc = 11 then xo_getf 5 2 11 3 lv st M else none) else (if pc = 14 then xo_iload 1 14 1 lv st M else none))) else (if pc < 16 then (if pc = 15 then xo_iald 15 1 lv st M else none) else (if pc < 17 then (if pc = 16 then xo_iconst (-1) 16 1 lv st M else none) else (if pc = 17 then xo_icmp .eq 15 17 3 lv st M else none))))) else (if pc < 30 then (if pc < 25 then (if pc < 21 then (if pc = 20 then xo_aload 0 20 1 lv st M else none) else (if pc < 24 then (if pc = 21 then xo_getf 5 2 21 3 lv st M else none) else (if pc = 24 then xo_iload 1 24 1 lv st M else none))) else (if pc < 26 then (if pc = 25 then xo_iald 25 1 lv st M else none) else (if pc < 27 then (if pc = 26 then xo_iload 1 26 1 lv st M else none) else (if pc = 27 then xo_icmp .eq 5 27 3 lv st M else none)))) else (if pc < 35 then (if pc < 31 then (if pc = 30 then xo_iconst 1 30 1 lv st M else none) else (if pc < 32 then (if pc = 31 then xo_ret 52 st M else none) else (if pc = 32 then xo_iinc 1 1 32 3 lv st M else none))) else (if pc < 38 then (if pc = 35 then xo_goto (-33) 35 lv st M else none) else (if pc < 39 then (if pc = 38 then xo_iconst 0 38 1 lv st M else none) else (if pc = 39 then xo_ret 52 st M else none)))))
def cd_53 (pc : Nat) (lv : XL) (st : List XV) (M : XM) : Option XN := if pc < 46 then (if pc < 26 then (if pc < 12 then (if pc < 5 then (if pc < 1 then (if pc = 0 then xo_aload 0 0 1 lv st M else none) else (if pc < 4 then (if pc = 1 then xo_objinit 1 3 lv st M else none) else (if pc = 4 then xo_aload 0 4 1 lv st M else none))) else (if pc < 9 then (if pc < 6 then (if pc = 5 then xo_iconst 0 5 1 lv st M else none) else (if pc = 6 then xo_puti 6 0 6 3 lv st M else none)) else (if pc < 10 then (if pc = 9 then xo_aload 0 9 1 lv st M else none) else (if pc = 10 then xo_iconst 64 10 2 lv st M else none)))) else (if pc < 18 then (if pc < 14 then (if pc = 12 then xo_newa 1 19 12 2 lv st M else none) else (if pc < 17 then (if pc = 14 then xo_putr 6 1 14 3 lv st M else none) else (if pc = 17 then xo_aload 0 17 1 lv st M else none))) else (if pc < 22 then (if pc < 20 then (if pc = 18 then xo_iconst 16 18 2 lv st M else none) else (if pc = 20 then xo_newa 1 20 20 2 lv st M else none)) else (if pc < 25 then (if pc = 22 then xo_putr 6 2 22 3 lv st M else none) else (if pc = 25 then xo_aload 0 25 1 lv st M else none))))) else (if pc < 38 then (if pc < 33 then (if pc < 28 then (if pc = 26 then xo_iconst 16 26 2 lv st M else none) else (if pc < 30 then (if pc = 28 then xo_newa 1 21 28 2 lv st M else none) else (if pc = 30 then xo_putr 6 3 30 3 lv st M else none))) else (if pc < 35 then (if pc < 34 then (if pc = 33 then xo_aload 0 33 1 lv st M else none) else (if pc = 34 then xo_iconst 3 34 1 lv st M else none)) else (if pc < 37 then (if pc = 35 then xo_newa 1 22 35 2 lv st M else none) else (if pc = 37 then xo_dup 37 1 lv st M else none)))) else (if pc < 42 then (if pc < 40 then (if pc < 39 then (if pc = 38 then xo_iconst 0 38 1 lv st M else none) else (if pc = 39 then xo_iconst (-1) 39 1 lv st M else none)) else (if pc < 41 then (if pc = 40 then xo_iast 40 1 lv st M else none) else (if pc = 41 then xo_dup 41 1 lv st M else none))) else (if pc < 44 then (if pc < 43 then (if pc = 42 then xo_iconst 1 42 1 lv st M else none) else (if pc = 43 then xo_iconst (-1) 43 1 lv st M else none)) else (if pc < 45 then (if pc = 44 then xo_iast 44 1 lv st M else none) else (if pc = 45 then xo_dup 45 1 lv st M else none)))))) else (if pc < 68 then (if pc < 57 then (if pc < 49 then (if pc < 47 then (if pc = 46 then xo_iconst 2 46 1 lv st M else none) else (if pc < 48 then (if pc = 47 then xo_iconst (-1) 47 1 lv st M else none) else (if pc = 48 then xo_iast 48 1 lv st M else none))) else (if pc < 53 then (if pc < 52 then (if pc = 49 then xo_putr 6 4 49 3 lv st M else none) else (if pc = 52 then xo_aload 0 52 1 lv st M else none)) else (if pc < 54 then (if pc = 53 then xo_iconst 0 53 1 lv st M else none) else (if pc = 54 then xo_puti 6 5 54 3 lv st M else none)))) else (if pc < 62 then (if pc < 58 then (if pc = 57 then xo_aload 0 57 1 lv st M else none) else (if pc < 59 then (if pc = 58 then xo_iconst 0 58 1 lv st M else none) else (if pc = 59 then xo_puti 6 6 59 3 lv st M else none))) else (if pc < 64 then (if pc < 63 then (if pc = 62 then xo_aload 0 62 1 lv st M else none) else (if pc = 63 then xo_iconst 0 63 1 lv st M else none)) else (if pc < 67 then (if pc = 64 then xo_puti 6 7 64 3 lv st M else none) else (if pc = 67 then xo_aload 0 67 1 lv st M else none))))) else (if pc < 79 then (if pc < 73 then (if pc < 69 then (if pc = 68 then xo_iconst 0 68 1 lv st M else none) else (if pc < 72 then (if pc = 69 then xo_puti 6 8 69 3 lv st M else none) else (if pc = 72 then xo_aload 0 72 1 lv st M else none))) else (if pc < 77 then (if pc < 74 then (if pc = 73 then xo_iconst 0 73 1 lv st M else none) else (if pc = 74 then xo_puti 6 9 74 3 lv st M else none)) else (if pc < 78 then (if pc = 77 then xo_aload 0 77 1 lv st M else none) else (if pc = 78 then xo_iconst 0 78 1 lv st M else none)))) else (if pc < 87 then (if pc < 83 then (if pc < 82 then (if pc = 79 then xo_puti 6 10 79 3 lv st M else none) else (if pc = 82 then xo_aload 0 82 1 lv st M else none)) else (if pc < 84 then (if pc = 83 then xo_iconst 0 83 1 lv st M else none) else (if pc = 84 then xo_puti 6 11 84 3 lv st M else none))) else (if pc < 89 then (if pc < 88 then (if pc = 87 then xo_aload 0 87 1 lv st M else none) else (if pc = 88 then xo_iconst 0 88 1 lv st M else none)) else (if pc < 92 then (if pc = 89 then xo_puti 6 12 89 3 lv st M else none) else (if pc = 92 then xo_ret 53 st M else none))))))
def cd_54 (pc : Nat) (lv : XL) (st : List XV) (M : XM) : Option XN := if pc < 13 then (if pc < 6 then (if pc < 2 then (if pc < 1 then (if pc = 0 then xo_aload 0 0 1 lv st M else none) else (if pc = 1 then xo_iload 1 1 1 lv st M else none)) else (if pc < 5 then (if pc = 2 then xo_puti 6 0 2 3 lv st M else none) else (if pc = 5 then xo_iconst 0 5 1 lv st M else none))) else (if pc < 8 then (if pc < 7 then (if pc = 6 then xo_istore 2 6 1 lv st M else none) else (if pc = 7 then xo_iload 2 7 1 lv st M else none)) else (if pc < 10 then (if pc = 8 then xo_iconst 16 8 2 lv st M else none) else (if pc = 10 then xo_icmp .ge 16 10 3 lv st M else none)))) else (if pc < 19 then (if pc < 17 then (if pc < 14 then (if pc = 13 then xo_aload 0 13 1 lv st M else none) else (if pc = 14 then xo_getf 6 2 14 3 lv st M else none)) else (if pc < 18 then (if pc = 17 then xo_iload 2 17 1 lv st M else none) else (if pc = 18 then xo_iconst 0 18 1 lv st M else none))) else (if pc < 23 then (if pc < 20 then (if pc = 19 then xo_iast 19 1 lv st M else none) else (if pc = 20 then xo_iinc 2 1 20 3 lv st M else none)) else (if pc < 26 then (if pc = 23 then xo_goto (-16) 23 lv st M else none) else (if pc = 26 then xo_ret 54 st M else none))))
def cd_55 (pc : Nat) (lv : XL) (st : List XV) (M : XM) : Option XN := if pc < 9 then (if pc < 4 then (if pc < 1 then (if pc = 0 then xo_iload 1 0 1 lv st M else none) else (if pc = 1 then xo_if .lt 15 1 3 lv st M else none)) else (if pc < 5 then (if pc = 4 then xo_iload 1 4 1 lv st M else none) else (if pc < 6 then (if pc = 5 then xo_aload 0 5 1 lv st M else none) else (if pc = 6 then xo_getf 6 0 6 3 lv st M else none)))) else (if pc < 13 then (if pc < 12 then (if pc = 9 then xo_icmp .ge 7 9 3 lv st M else none) else (if pc = 12 then xo_iconst 1 12 1 lv st M else none)) else (if pc < 16 then (if pc = 13 then xo_goto 4 13 lv st M else none) else (if pc < 17 then (if pc = 16 then xo_iconst 0 16 1 lv st M else none) else (if pc = 17 then xo_ret 55 st M else none))))
def cd_56 (pc : Nat) (lv : XL) (st : List XV) (M : XM) : Option XN := if pc < 6 then (if pc < 4 then (if pc < 1 then (if pc = 0 then xo_aload 0 0 1 lv st M else none) else (if pc = 1 then xo_getf 6 1 1 3 lv st M else none)) else (if pc < 5 then (if pc = 4 then xo_iload 1 4 1 lv st M else none) else (if pc = 5 then xo_iconst 4 5 1 lv st M else none))) else (if pc < 8 then (if pc < 7 then (if pc = 6 then xo_imul 6 1 lv st M else none) else (if pc = 7 then xo_iload 2 7 1 lv st M else none)) else (if pc < 9 then (if pc = 8 then xo_iadd 8 1 lv st M else none) else (if pc < 10 then (if pc = 9 then xo_iald 9 1 lv st M else none) else (if pc = 10 then xo_ret 56 st M else none))))
def cd_57 (pc : Nat) (lv : XL) (st : List XV) (M : XM) : Option XN := if pc < 14 then (if pc < 7 then (if pc < 4 then (if pc < 1 then (if pc = 0 then xo_aload 0 0 1 lv st M else none) else (if pc = 1 then xo_getf 6 1 1 3 lv st M else none)) else (if pc < 5 then (if pc = 4 then xo_iload 1 4 1 lv st M else none) else (if pc < 6 then (if pc = 5 then xo_iconst 4 5 1 lv st M else none) else (if pc = 6 then xo_imul 6 1 lv st M else none)))) else (if pc < 11 then (if pc < 8 then (if pc = 7 then xo_aload 0 7 1 lv st M else none) else (if pc = 8 then xo_getf 6 2 8 3 lv st M else none)) else (if pc < 12 then (if pc = 11 then xo_iload 1 11 1 lv st M else none) else (if pc < 13 then (if pc = 12 then xo_iald 12 1 lv st M else none) else (if pc = 13 then xo_iadd 13 1 lv st M else none))))) else (if pc < 21 then (if pc < 16 then (if pc < 15 then (if pc = 14 then xo_iload 2 14 1 lv st M else none) else (if pc = 15 then xo_iast 15 1 lv st M else none)) else (if pc < 17 then (if pc = 16 then xo_aload 0 16 1 lv st M else none) else (if pc < 20 then (if pc = 17 then xo_getf 6 2 17 3 lv st M else none) else (if pc = 20 then xo_iload 1 20 1 lv st M else none)))) else (if pc < 24 then (if pc < 22 then (if pc = 21 then xo_dup2 21 1 lv st M else none) else (if pc < 23 then (if pc = 22 then xo_iald 22 1 lv st M else none) else (if pc = 23 then xo_iconst 1 23 1 lv st M else none))) else (if pc < 25 then (if pc = 24 then xo_iadd 24 1 lv st M else none) else (if pc < 26 then (if pc = 25 then xo_iast 25 1 lv st M else none) else (if pc = 26 then xo_ret 57 st M else none)))))
def cd_58 (pc : Nat) (lv : XL) (st : List XV) (M : XM) : Option XN := if pc < 1 then (if pc = 0 then xo_aload 0 0 1 lv st M else none) else (if pc < 4 then (if pc = 1 then xo_objinit 1 3 lv st M else none) else (if pc = 4 then xo_ret 58 st M else none))
def cd_59 (pc : Nat) (lv : XL) (st : List XV) (M : XM) : Option XN := if pc < 101 then (if pc < 1 then (if pc = 0 then xo_iload 0 0 1 lv st M else none) else (if pc < 100 then (if pc = 1 then xo_switch 102 [(60, 100), (62, 100), (99, 100), (107, 100), (108, 100), (109, 100), (111, 100), (112, 100), (114, 100), (116, 100), (120, 100)] lv st M else none) else (if pc = 100 then xo_iconst 1 100 1 lv st M else none))) else (if pc < 102 then (if pc = 101 then xo_ret 59 st M else none) else (if pc < 103 then (if pc = 102 then xo_iconst 0 102 1 lv st M else none) else (if pc = 103 then xo_ret 59 st M else none)))
def cd_60 (pc : Nat) (lv : XL) (st : List XV) (M : XM) : Option XN := if pc < 9 then (if pc < 3 then (if pc < 1 then (if pc = 0 then xo_iload 0 0 1 lv st M else none) else (if pc = 1 then xo_iconst 60 1 2 lv st M else none)) else (if pc < 6 then (if pc = 3 then xo_icmp .eq 9 3 3 lv st M else none) else (if pc < 7 then (if pc = 6 then xo_iload 0 6 1 lv st M else none) else (if pc = 7 then xo_iconst 62 7 2 lv st M else none)))) else (if pc < 13 then (if pc < 12 then (if pc = 9 then xo_icmp .ne 7 9 3 lv st M else none) else (if pc = 12 then xo_iconst 1 12 1 lv st M else none)) else (if pc < 16 then (if pc = 13 then xo_goto 4 13 lv st M else none) else (if pc < 17 then (if pc = 16 then xo_iconst 0 16 1 lv st M else none) else (if pc = 17 then xo_ret 60 st M else none))))
def cd_61 (pc : Nat) (lv : XL) (st : List XV) (M : XM) : Option XN := if pc < 4 then (if pc < 1 then (if pc = 0 then xo_aload 0 0 1 lv st M else none) else (if pc = 1 then xo_getf 7 0 1 3 lv st M else none)) else (if pc < 7 then (if pc = 4 then xo_call false 61 60 st else none) else (if pc = 7 then xo_ret 61 st M else none))
def cd_62 (pc : Nat) (lv : XL) (st : List XV) (M : XM) : Option XN := if pc < 69 then (if pc < 65 then (if pc < 4 then (if pc < 1 then (if pc = 0 then xo_aload 0 0 1 lv st M else none) else (if pc = 1 then xo_getf 7 0 1 3 lv st M else none)) else (if pc < 64 then (if pc = 4 then xo_switch 80 [(60, 70), (62, 70), (99, 68), (108, 66), (111, 64), (114, 66)] lv st M else none) else (if pc = 64 then xo_iconst 0 64 1 lv st M else none))) else (if pc < 67 then (if pc < 66 then (if pc = 65 then xo_ret 62 st M else none) else (if pc = 66 then xo_iconst 2 66 1 lv st M else none)) else (if pc < 68 then (if pc = 67 then xo_ret 62 st M else none) else (if pc = 68 then xo_iconst 3 68 1 lv st M else none)))) else (if pc < 75 then (if pc < 71 then (if pc < 70 then (if pc = 69 then xo_ret 62 st M else none) else (if pc = 70 then xo_aload 0 70 1 lv st M else none)) else (if pc < 74 then (if pc = 71 then xo_getf 7 2 71 3 lv st M else none) else (if pc = 74 then xo_aload 0 74 1 lv st M else none))) else (if pc < 79 then (if pc < 78 then (if pc = 75 then xo_getf 7 3 75 3 lv st M else none) else (if pc = 78 then xo_iadd 78 1 lv st M else none)) else (if pc < 80 then (if pc = 79 then xo_ret 62 st M else none) else (if pc < 81 then (if pc = 80 then xo_iconst 1 80 1 lv st M else none) else (if pc = 81 then xo_ret 62 st M else none)))))
def cd_63 (pc : Nat) (lv : XL) (st : List XV) (M : XM) : Option XN := if pc < 43 then (if pc < 40 then (if pc < 1 then (if pc = 0 then xo_aload 0 0 1 lv st M else none) else (if pc < 4 then (if pc = 1 then xo_getf 7 0 1 3 lv st M else none) else (if pc = 4 then xo_switch 52 [(60, 42), (62, 42), (120, 40)] lv st M else none))) else (if pc < 41 then (if pc = 40 then xo_iconst 0 40 1 lv st M else none) else (if pc < 42 then (if pc = 41 then xo_ret 63 st M else none) else (if pc = 42 then xo_aload 0 42 1 lv st M else none)))) else (if pc < 50 then (if pc < 46 then (if pc = 43 then xo_getf 7 2 43 3 lv st M else none) else (if pc < 47 then (if pc = 46 then xo_aload 0 46 1 lv st M else none) else (if pc = 47 then xo_getf 7 3 47 3 lv st M else none))) else (if pc < 52 then (if pc < 51 then (if pc = 50 then xo_iadd 50 1 lv st M else none) else (if pc = 51 then xo_ret 63 st M else none)) else (if pc < 53 then (if pc = 52 then xo_iconst 1 52 1 lv st M else none) else (if pc = 53 then xo_ret 63 st M else none))))
def cd_64 (pc : Nat) (lv : XL) (st : List XV) (M : XM) : Option XN := if pc < 13 then (if pc < 6 then (if pc < 1 then (if pc = 0 then xo_aload 0 0 1 lv st M else none) else (if pc < 4 then (if pc = 1 then xo_getf 7 0 1 3 lv st M else none) else (if pc = 4 then xo_iconst 109 4 2 lv st M else none))) else (if pc < 9 then (if pc = 6 then xo_icmp .eq 16 6 3 lv st M else none) else (if pc < 10 then (if pc = 9 then xo_aload 0 9 1 lv st M else none) else (if pc = 10 then xo_getf 7 0 10 3 lv st M else none)))) else (if pc < 19 then (if pc < 15 then (if pc = 13 then xo_iconst 120 13 2 lv st M else none) else (if pc < 18 then (if pc = 15 then xo_icmp .eq 7 15 3 lv st M else none) else (if pc = 18 then xo_iconst 1 18 1 lv st M else none))) else (if pc < 22 then (if pc = 19 then xo_goto 4 19 lv st M else none) else (if pc < 23 then (if pc = 22 then xo_iconst 0 22 1 lv st M else none) else (if pc = 23 then xo_ret 64 st M else none))))
def cd_65 (pc : Nat) (lv : XL) (st : List XV) (M : XM) : Option XN := if pc < 13 then (if pc < 6 then (if pc < 1 then (if pc = 0 then xo_aload 0 0 1 lv st M else none) else (if pc < 4 then (if pc = 1 then xo_getf 7 0 1 3 lv st M else none) else (if pc = 4 then xo_iconst 116 4 2 lv st M else none))) else (if pc < 9 then (if pc = 6 then xo_icmp .eq 12 6 3 lv st M else none) else (if pc < 10 then (if pc = 9 then xo_aload 0 9 1 lv st M else none) else (if pc = 10 then xo_getf 7 0 10 3 lv st M else none)))) else (if pc < 19 then (if pc < 15 then (if pc = 13 then xo_iconst 109 13 2 lv st M else none) else (if pc < 18 then (if pc = 15 then xo_icmp .ne 7 15 3 lv st M else none) else (if pc = 18 then xo_iconst 1 18 1 lv st M else none))) else (if pc < 22 then (if pc = 19 then xo_goto 4 19 lv st M else none) else (if pc < 23 then (if pc = 22 then xo_iconst 0 22 1 lv st M else none) else (if pc = 23 then xo_ret 65 st M else none))))
def cd_66 (pc : Nat) (lv : XL) (st : List XV) (M : XM) : Option XN := if pc < 31 then (if pc < 18 then (if pc < 9 then (if pc < 4 then (if pc < 1 then (if pc = 0 then xo_aload 0 0 1 lv st M else none) else (if pc = 1 then xo_getf 7 0 1 3 lv st M else none)) else (if pc < 6 then (if pc = 4 then xo_iconst 120 4 2 lv st M else none) else (if pc = 6 then xo_icmp .ne 5 6 3 lv st M else none))) else (if pc < 11 then (if pc < 10 then (if pc = 9 then xo_iconst (-1) 9 1 lv st M else none) else (if pc = 10 then xo_ret 66 st M else none)) else (if pc < 12 then (if pc = 11 then xo_aload 0 11 1 lv st M else none) else (if pc < 15 then (if pc = 12 then xo_call true 66 61 st else none) else (if pc = 15 then xo_if .ne 8 15 3 lv st M else none))))) else (if pc < 24 then (if pc < 22 then (if pc < 19 then (if pc = 18 then xo_aload 0 18 1 lv st M else none) else (if pc = 19 then xo_getf 7 5 19 3 lv st M else none)) else (if pc < 23 then (if pc = 22 then xo_ret 66 st M else none) else (if pc = 23 then xo_iload 1 23 1 lv st M else none))) else (if pc < 28 then (if pc < 25 then (if pc = 24 then xo_aload 0 24 1 lv st M else none) else (if pc = 25 then xo_getf 7 4 25 3 lv st M else none)) else (if pc < 29 then (if pc = 28 then xo_isub 28 1 lv st M else none) else (if pc < 30 then (if pc = 29 then xo_istore 2 29 1 lv st M else none) else (if pc = 30 then xo_iload 2 30 1 lv st M else none)))))) else (if pc < 48 then (if pc < 39 then (if pc < 35 then (if pc < 32 then (if pc = 31 then xo_aload 0 31 1 lv st M else none) else (if pc = 32 then xo_getf 7 2 32 3 lv st M else none)) else (if pc < 38 then (if pc = 35 then xo_icmp .ge 17 35 3 lv st M else none) else (if pc = 38 then xo_aload 0 38 1 lv st M else none))) else (if pc < 43 then (if pc < 42 then (if pc = 39 then xo_getf 7 5 39 3 lv st M else none) else (if pc = 42 then xo_aload 0 42 1 lv st M else none)) else (if pc < 46 then (if pc = 43 then xo_getf 7 3 43 3 lv st M else none) else (if pc < 47 then (if pc = 46 then xo_iadd 46 1 lv st M else none) else (if pc = 47 then xo_iload 2 47 1 lv st M else none))))) else (if pc < 57 then (if pc < 52 then (if pc < 49 then (if pc = 48 then xo_iadd 48 1 lv st M else none) else (if pc = 49 then xo_goto 14 49 lv st M else none)) else (if pc < 53 then (if pc = 52 then xo_aload 0 52 1 lv st M else none) else (if pc < 56 then (if pc = 53 then xo_getf 7 5 53 3 lv st M else none) else (if pc = 56 then xo_iload 2 56 1 lv st M else none)))) else (if pc < 59 then (if pc < 58 then (if pc = 57 then xo_iadd 57 1 lv st M else none) else (if pc = 58 then xo_aload 0 58 1 lv st M else none)) else (if pc < 62 then (if pc = 59 then xo_getf 7 2 59 3 lv st M else none) else (if pc < 63 then (if pc = 62 then xo_isub 62 1 lv st M else none) else (if pc = 63 then xo_ret 66 st M else none))))))
def cd_67 (pc : Nat) (lv : XL) (st : List XV) (M : XM) : Option XN := if pc < 71 then (if pc < 53 then (if pc < 6 then (if pc < 2 then (if pc < 1 then (if pc = 0 then xo_iload 1 0 1 lv st M else none) else (if pc = 1 then xo_aload 0 1 1 lv st M else none)) else (if pc < 5 then (if pc = 2 then xo_getf 7 4 2 3 lv st M else none) else (if pc = 5 then xo_isub 5 1 lv st M else none))) else (if pc < 8 then (if pc < 7 then (if pc = 6 then xo_istore 2 6 1 lv st M else none) else (if pc = 7 then xo_aload 0 7 1 lv st M else none)) else (if pc < 11 then (if pc = 8 then xo_getf 7 0 8 3 lv st M else none) else (if pc < 52 then (if pc = 11 then xo_switch 101 [(60, 73), (62, 87), (99, 62), (108, 52)] lv st M else none) else (if pc = 52 then xo_iload 2 52 1 lv st M else none))))) else (if pc < 62 then (if pc < 57 then (if pc < 56 then (if pc = 53 then xo_if .ne 7 53 3 lv st M else none) else (if pc = 56 then xo_iconst 1 56 1 lv st M else none)) else (if pc < 60 then (if pc = 57 then xo_goto 4 57 lv st M else none) else (if pc < 61 then (if pc = 60 then xo_iconst 0 60 1 lv st M else none) else (if pc = 61 then xo_ret 67 st M else none)))) else (if pc < 64 then (if pc < 63 then (if pc = 62 then xo_iload 2 62 1 lv st M else none) else (if pc = 63 then xo_iconst 1 63 1 lv st M else none)) else (if pc < 67 then (if pc = 64 then xo_icmp .ne 7 64 3 lv st M else none) else (if pc < 68 then (if pc = 67 then xo_iconst 1 67 1 lv st M else none) else (if pc = 68 then xo_goto 4 68 lv st M else none)))))) else (if pc < 87 then (if pc < 78 then (if pc < 73 then (if pc < 72 then (if pc = 71 then xo_iconst 0 71 1 lv st M else none) else (if pc = 72 then xo_ret 67 st M else none)) else (if pc < 74 then (if pc = 73 then xo_iload 2 73 1 lv st M else none) else (if pc < 75 then (if pc = 74 then xo_aload 0 74 1 lv st M else none) else (if pc = 75 then xo_getf 7 2 75 3 lv st M else none)))) else (if pc < 82 then (if pc < 81 then (if pc = 78 then xo_icmp .lt 7 78 3 lv st M else none) else (if pc = 81 then xo_iconst 1 81 1 lv st M else none)) else (if pc < 85 then (if pc = 82 then xo_goto 4 82 lv st M else none) else (if pc < 86 then (if pc = 85 then xo_iconst 0 85 1 lv st M else none) else (if pc = 86 then xo_ret 67 st M else none))))) else (if pc < 96 then (if pc < 89 then (if pc < 88 then (if pc = 87 then xo_iload 2 87 1 lv st M else none) else (if pc = 88 then xo_aload 0 88 1 lv st M else none)) else (if pc < 92 then (if pc = 89 then xo_getf 7 2 89 3 lv st M else none) else (if pc < 95 then (if pc = 92 then xo_icmp .ge 7 92 3 lv st M else none) else (if pc = 95 then xo_iconst 1 95 1 lv st M else none)))) else (if pc < 100 then (if pc < 99 then (if pc = 96 then xo_goto 4 96 lv st M else none) else (if pc = 99 then xo_iconst 0 99 1 lv st M else none)) else (if pc < 101 then (if pc = 100 then xo_ret 67 st M else none) else (if pc < 102 then (if pc = 101 then xo_iconst 0 101 1 lv st M else none) else (if pc = 102 then xo_ret 67 st M else none))))))
def cd_68 (pc : Nat) (lv : XL) (st : List XV) (M : XM) : Option XN := if pc < 15 then (if pc < 9 then (if pc < 4 then (if pc < 1 then (if pc = 0 then xo_aload 0 0 1 lv st M else none) else (if pc = 1 then xo_getf 7 0 1 3 lv st M else none)) else (if pc < 6 then (if pc = 4 then xo_iconst 112 4 2 lv st M else none) else (if pc = 6 then xo_icmp .ne 5 6 3 lv st M else none))) else (if pc < 11 then (if pc < 10 then (if pc = 9 then xo_iconst 1 9 1 lv st M else none) else (if pc = 10 then xo_ret 68 st M else none)) else (if pc < 12 then (if pc = 11 then xo_aload 0 11 1 lv st M else none) else (if pc = 12 then xo_call true 68 65 st else none)))) else (if pc < 23 then (if pc < 19 then (if pc < 18 then (if pc = 15 then xo_if .eq 15 15 3 lv st M else none) else (if pc = 18 then xo_aload 1 18 1 lv st M else none)) else (if pc < 22 then (if pc = 19 then xo_getf 6 3 19 3 lv st M else none) else (if pc = 22 then xo_aload 0 22 1 lv st M else none))) else (if pc < 27 then (if pc < 26 then (if pc = 23 then xo_getf 7 4 23 3 lv st M else none) else (if pc = 26 then xo_iald 26 1 lv st M else none)) else (if pc < 30 then (if pc = 27 then xo_goto 4 27 lv st M else none) else (if pc < 31 then (if pc = 30 then xo_iconst 0 30 1 lv st M else none) else (if pc = 31 then xo_ret 68 st M else none)))))
def cd_69 (pc : Nat) (lv : XL) (st : List XV) (M : XM) : Option XN := if pc < 128 then (if pc < 61 then (if pc < 30 then (if pc < 13 then (if pc < 5 then (if pc < 1 then (if pc = 0 then xo_aload 0 0 1 lv st M else none) else (if pc < 4 then (if pc = 1 then xo_objinit 1 3 lv st M else none) else (if pc = 4 then xo_aload 0 4 1 lv st M else none))) else (if pc < 9 then (if pc < 7 then (if pc = 5 then xo_iconst 40 5 2 lv st M else none) else (if pc = 7 then xo_newa 1 33 7 2 lv st M else none)) else (if pc < 12 then (if pc = 9 then xo_putr 8 1 9 3 lv st M else none) else (if pc = 12 then xo_aload 0 12 1 lv st M else none)))) else (if pc < 21 then (if pc < 17 then (if pc < 14 then (if pc = 13 then xo_iconst (-1) 13 1 lv st M else none) else (if pc = 14 then xo_puti 8 3 14 3 lv st M else none)) else (if pc < 18 then (if pc = 17 then xo_aload 0 17 1 lv st M else none) else (if pc = 18 then xo_iconst 1344 18 3 lv st M else none))) else (if pc < 26 then (if pc < 23 then (if pc = 21 then xo_newa 1 34 21 2 lv st M else none) else (if pc = 23 then xo_putr 8 6 23 3 lv st M else none)) else (if pc < 27 then (if pc = 26 then xo_aload 0 26 1 lv st M else none) else (if pc = 27 then xo_iconst 336 27 3 lv st M else none))))) else (if pc < 45 then (if pc < 36 then (if pc < 32 then (if pc = 30 then xo_newa 1 35 30 2 lv st M else none) else (if pc < 35 then (if pc = 32 then xo_putr 8 7 32 3 lv st M else none) else (if pc = 35 then xo_aload 0 35 1 lv st M else none))) else (if pc < 41 then (if pc < 39 then (if pc = 36 then xo_iconst 336 36 3 lv st M else none) else (if pc = 39 then xo_newa 1 36 39 2 lv st M else none)) else (if pc < 44 then (if pc = 41 then xo_putr 8 8 41 3 lv st M else none) else (if pc = 44 then xo_aload 0 44 1 lv st M else none)))) else (if pc < 53 then (if pc < 49 then (if pc < 47 then (if pc = 45 then xo_iconst 21 45 2 lv st M else none) else (if pc = 47 then xo_newa 1 37 47 2 lv st M else none)) else (if pc < 52 then (if pc = 49 then xo_putr 8 9 49 3 lv st M else none) else (if pc = 52 then xo_aload 0 52 1 lv st M else none))) else (if pc < 57 then (if pc < 55 then (if pc = 53 then xo_iconst 21 53 2 lv st M else none) else (if pc = 55 then xo_newa 1 38 55 2 lv st M else none)) else (if pc < 60 then (if pc = 57 then xo_putr 8 10 57 3 lv st M else none) else (if pc = 60 then xo_aload 0 60 1 lv st M else none)))))) else (if pc < 93 then (if pc < 76 then (if pc < 68 then (if pc < 63 then (if pc = 61 then xo_iconst 21 61 2 lv st M else none) else (if pc < 65 then (if pc = 63 then xo_newa 1 39 63 2 lv st M else none) else (if pc = 65 then xo_putr 8 11 65 3 lv st M else none))) else (if pc < 71 then (if pc < 69 then (if pc = 68 then xo_aload 0 68 1 lv st M else none) else (if pc = 69 then xo_iconst 63 69 2 lv st M else none)) else (if pc < 73 then (if pc = 71 then xo_newa 1 40 71 2 lv st M else none) else (if pc = 73 then xo_putr 8 12 73 3 lv st M else none)))) else (if pc < 85 then (if pc < 80 then (if pc < 77 then (if pc = 76 then xo_aload 0 76 1 lv st M else none) else (if pc = 77 then xo_iconst 840 77 3 lv st M else none)) else (if pc < 82 then (if pc = 80 then xo_newa 1 41 80 2 lv st M else none) else (if pc = 82 then xo_putr 8 13 82 3 lv st M else none))) else (if pc < 88 then (if pc < 86 then (if pc = 85 then xo_aload 0 85 1 lv st M else none) else (if pc = 86 then xo_iconst 21 86 2 lv st M else none)) else (if pc < 90 then (if pc = 88 then xo_newa 1 42 88 2 lv st M else none) else (if pc = 90 then xo_putr 8 14 90 3 lv st M else none))))) else (if pc < 110 then (if pc < 101 then (if pc < 96 then (if pc < 94 then (if pc = 93 then xo_aload 0 93 1 lv st M else none) else (if pc = 94 then xo_iconst 84 94 2 lv st M else none)) else (if pc < 98 then (if pc = 96 then xo_newa 1 43 96 2 lv st M else none) else (if pc = 98 then xo_putr 8 15 98 3 lv st M else none))) else (if pc < 105 then (if pc < 102 then (if pc = 101 then xo_aload 0 101 1 lv st M else none) else (if pc = 102 then xo_iconst 1200 102 3 lv st M else none)) else (if pc < 107 then (if pc = 105 then xo_newa 1 44 105 2 lv st M else none) else (if pc = 107 then xo_putr 8 16 107 3 lv st M else none)))) else (if pc < 119 then (if pc < 114 then (if pc < 111 then (if pc = 110 then xo_aload 0 110 1 lv st M else none) else (if pc = 111 then xo_iconst 300 111 3 lv st M else none)) else (if pc < 116 then (if pc = 114 then xo_newa 1 45 114 2 lv st M else none) else (if pc = 116 then xo_putr 8 17 116 3 lv st M else none))) else (if pc < 123 then (if pc < 120 then (if pc = 119 then xo_aload 0 119 1 lv st M else none) else (if pc = 120 then xo_iconst 300 120 3 lv st M else none)) else (if pc < 125 then (if pc = 123 then xo_newa 1 46 123 2 lv st M else none) else (if pc = 125 then xo_putr 8 18 125 3 lv st M else none))))))) else (if pc < 191 then (if pc < 161 then (if pc < 143 then (if pc < 134 then (if pc < 129 then (if pc = 128 then xo_aload 0 128 1 lv st M else none) else (if pc < 132 then (if pc = 129 then xo_iconst 300 129 3 lv st M else none) else (if pc = 132 then xo_newa 1 47 132 2 lv st M else none))) else (if pc < 138 then (if pc < 137 then (if pc = 134 then xo_putr 8 19 134 3 lv st M else none) else (if pc = 137 then xo_aload 0 137 1 lv st M else none)) else (if pc < 141 then (if pc = 138 then xo_iconst 300 138 3 lv st M else none) else (if pc = 141 then xo_newa 1 48 141 2 lv st M else none)))) else (if pc < 152 then (if pc < 147 then (if pc < 146 then (if pc = 143 then xo_putr 8 20 143 3 lv st M else none) else (if pc = 146 then xo_aload 0 146 1 lv st M else none)) else (if pc < 150 then (if pc = 147 then xo_iconst 300 147 3 lv st M else none) else (if pc = 150 then xo_newa 1 49 150 2 lv st M else none))) else (if pc < 156 then (if pc < 155 then (if pc = 152 then xo_putr 8 21 152 3 lv st M else none) else (if pc = 155 then xo_aload 0 155 1 lv st M else none)) else (if pc < 159 then (if pc = 156 then xo_iconst 300 156 3 lv st M else none) else (if pc = 159 then xo_newa 1 50 159 2 lv st M else none))))) else (if pc < 175 then (if pc < 167 then (if pc < 164 then (if pc = 161 then xo_putr 8 22 161 3 lv st M else none) else (if pc < 165 then (if pc = 164 then xo_aload 0 164 1 lv st M else none) else (if pc = 165 then xo_iconst 40 165 2 lv st M else none))) else (if pc < 172 then (if pc < 169 then (if pc = 167 then xo_newa 1 51 167 2 lv st M else none) else (if pc = 169 then xo_putr 8 24 169 3 lv st M else none)) else (if pc < 173 then (if pc = 172 then xo_aload 0 172 1 lv st M else none) else (if pc = 173 then xo_iconst 40 173 2 lv st M else none)))) else (if pc < 183 then (if pc < 180 then (if pc < 177 then (if pc = 175 then xo_newa 1 52 175 2 lv st M else none) else (if pc = 177 then xo_putr 8 25 177 3 lv st M else none)) else (if pc < 181 then (if pc = 180 then xo_aload 0 180 1 lv st M else none) else (if pc = 181 then xo_iconst 40 181 2 lv st M else none))) else (if pc < 188 then (if pc < 185 then (if pc = 183 then xo_newa 1 53 183 2 lv st M else none) else (if pc = 185 then xo_putr 8 26 185 3 lv st M else none)) else (if pc < 189 then (if pc = 188 then xo_aload 0 188 1 lv st M else none) else (if pc = 189 then xo_iconst 40 189 2 lv st M else none)))))) else (if pc < 221 then (if pc < 205 then (if pc < 197 then (if pc < 193 then (if pc = 191 then xo_newa 1 54 191 2 lv st M else none) else (if pc < 196 then (if pc = 193 then xo_putr 8 27 193 3 lv st M else none) else (if pc = 196 then xo_aload 0 196 1 lv st M else none))) else (if pc < 201 then (if pc < 199 then (if pc = 197 then xo_iconst 16 197 2 lv st M else none) else (if pc = 199 then xo_newa 1 55 199 2 lv st M else none)) else (if pc < 204 then (if pc = 201 then xo_putr 8 28 201 3 lv st M else none) else (if pc = 204 then xo_aload 0 204 1 lv st M else none)))) else (if pc < 213 then (if pc < 209 then (if pc < 207 then (if pc = 205 then xo_iconst 16 205 2 lv st M else none) else (if pc = 207 then xo_newa 2 56 207 2 lv st M else none)) else (if pc < 212 then (if pc = 209 then xo_putr 8 29 209 3 lv st M else none) else (if pc = 212 then xo_aload 0 212 1 lv st M else none))) else (if pc < 217 then (if pc < 215 then (if pc = 213 then xo_iconst 16 213 2 lv st M else none) else (if pc = 215 then xo_newa 1 57 215 2 lv st M else none)) else (if pc < 220 then (if pc = 217 then xo_putr 8 30 217 3 lv st M else none) else (if pc = 220 then xo_aload 0 220 1 lv st M else none))))) else (if pc < 237 then (if pc < 229 then (if pc < 225 then (if pc < 223 then (if pc = 221 then xo_iconst 16 221 2 lv st M else none) else (if pc = 223 then xo_newa 1 58 223 2 lv st M else none)) else (if pc < 228 then (if pc = 225 then xo_putr 8 31 225 3 lv st M else none) else (if pc = 228 then xo_aload 0 228 1 lv st M else none))) else (if pc < 233 then (if pc < 231 then (if pc = 229 then xo_iconst 16 229 2 lv st M else none) else (if pc = 231 then xo_newa 1 59 231 2 lv st M else none)) else (if pc < 236 then (if pc = 233 then xo_putr 8 32 233 3 lv st M else none) else (if pc = 236 then xo_aload 0 236 1 lv st M else none)))) else (if pc < 245 then (if pc < 241 then (if pc < 239 then (if pc = 237 then xo_iconst 16 237 2 lv st M else none) else (if pc = 239 then xo_newa 1 60 239 2 lv st M else none)) else (if pc < 244 then (if pc = 241 then xo_putr 8 33 241 3 lv st M else none) else (if pc = 244 then xo_aload 0 244 1 lv st M else none))) else (if pc < 249 then (if pc < 247 then (if pc = 245 then xo_iconst 48 245 2 lv st M else none) else (if pc = 247 then xo_newa 1 61 247 2 lv st M else none)) else (if pc < 252 then (if pc = 249 then xo_putr 8 34 249 3 lv st M else none) else (if pc = 252 then xo_ret 69 st M else none)))))))
def cd_70 (pc : Nat) (lv : XL) (st : List XV) (M : XM) : Option XN := if pc < 1 then (if pc = 0 then xo_aload 0 0 1 lv st M else none) else (if pc < 4 then (if pc = 1 then xo_getf 8 0 1 3 lv st M else none) else (if pc = 4 then xo_ret 70 st M else none))
def cd_71 (pc : Nat) (lv : XL) (st : List XV) (M : XM) : Option XN := if pc < 55 then (if pc < 26 then (if pc < 12 then (if pc < 6 then (if pc < 2 then (if pc < 1 then (if pc = 0 then xo_aload 0 0 1 lv st M else none) else (if pc = 1 then xo_iconst 0 1 1 lv st M else none)) else (if pc < 5 then (if pc = 2 then xo_puti 8 0 2 3 lv st M else none) else (if pc = 5 then xo_iconst 0 5 1 lv st M else none))) else (if pc < 8 then (if pc < 7 then (if pc = 6 then xo_istore 3 6 1 lv st M else none) else (if pc = 7 then xo_iconst 0 7 1 lv st M else none)) else (if pc < 10 then (if pc = 8 then xo_istore 4 8 2 lv st M else none) else (if pc = 10 then xo_iload 4 10 2 lv st M else none)))) else (if pc < 20 then (if pc < 17 then (if pc < 14 then (if pc = 12 then xo_iconst 64 12 2 lv st M else none) else (if pc = 14 then xo_icmp .ge 30 14 3 lv st M else none)) else (if pc < 18 then (if pc = 17 then xo_lload 1 17 1 lv st M else none) else (if pc = 18 then xo_iload 4 18 2 lv st M else none))) else (if pc < 24 then (if pc < 21 then (if pc = 20 then xo_lshr 20 1 lv st M else none) else (if pc = 21 then xo_lconst 255 21 3 lv st M else none)) else (if pc < 25 then (if pc = 24 then xo_land 24 1 lv st M else none) else (if pc = 25 then xo_lconst 0 25 1 lv st M else none))))) else (if pc < 38 then (if pc < 32 then (if pc < 30 then (if pc < 27 then (if pc = 26 then xo_lcmp 26 1 lv st M else none) else (if pc = 27 then xo_if .eq 9 27 3 lv st M else none)) else (if pc < 31 then (if pc = 30 then xo_iload 3 30 1 lv st M else none) else (if pc = 31 then xo_iconst 1 31 1 lv st M else none))) else (if pc < 36 then (if pc < 33 then (if pc = 32 then xo_iadd 32 1 lv st M else none) else (if pc = 33 then xo_goto 4 33 lv st M else none)) else (if pc < 37 then (if pc = 36 then xo_iload 3 36 1 lv st M else none) else (if pc = 37 then xo_istore 3 37 1 lv st M else none)))) else (if pc < 48 then (if pc < 44 then (if pc < 41 then (if pc = 38 then xo_iinc 4 8 38 3 lv st M else none) else (if pc = 41 then xo_goto (-31) 41 lv st M else none)) else (if pc < 45 then (if pc = 44 then xo_aload 0 44 1 lv st M else none) else (if pc = 45 then xo_getf 8 2 45 3 lv st M else none))) else (if pc < 50 then (if pc < 49 then (if pc = 48 then xo_iload 3 48 1 lv st M else none) else (if pc = 49 then xo_iadd 49 1 lv st M else none)) else (if pc < 52 then (if pc = 50 then xo_iconst 40 50 2 lv st M else none) else (if pc = 52 then xo_icmp .le 5 52 3 lv st M else none)))))) else (if pc < 83 then (if pc < 68 then (if pc < 60 then (if pc < 57 then (if pc < 56 then (if pc = 55 then xo_iconst (-1) 55 1 lv st M else none) else (if pc = 56 then xo_ret 71 st M else none)) else (if pc < 58 then (if pc = 57 then xo_iconst 0 57 1 lv st M else none) else (if pc = 58 then xo_istore 4 58 2 lv st M else none))) else (if pc < 64 then (if pc < 62 then (if pc = 60 then xo_iload 4 60 2 lv st M else none) else (if pc = 62 then xo_iconst 64 62 2 lv st M else none)) else (if pc < 67 then (if pc = 64 then xo_icmp .ge 46 64 3 lv st M else none) else (if pc = 67 then xo_lload 1 67 1 lv st M else none)))) else (if pc < 75 then (if pc < 71 then (if pc < 70 then (if pc = 68 then xo_iload 4 68 2 lv st M else none) else (if pc = 70 then xo_lshr 70 1 lv st M else none)) else (if pc < 74 then (if pc = 71 then xo_lconst 255 71 3 lv st M else none) else (if pc = 74 then xo_land 74 1 lv st M else none))) else (if pc < 78 then (if pc < 76 then (if pc = 75 then xo_l2i 75 1 lv st M else none) else (if pc = 76 then xo_istore 5 76 2 lv st M else none)) else (if pc < 80 then (if pc = 78 then xo_iload 5 78 2 lv st M else none) else (if pc = 80 then xo_if .eq 24 80 3 lv st M else none))))) else (if pc < 96 then (if pc < 91 then (if pc < 87 then (if pc < 84 then (if pc = 83 then xo_aload 0 83 1 lv st M else none) else (if pc = 84 then xo_getf 8 1 84 3 lv st M else none)) else (if pc < 88 then (if pc = 87 then xo_aload 0 87 1 lv st M else none) else (if pc = 88 then xo_getf 8 2 88 3 lv st M else none))) else (if pc < 94 then (if pc < 93 then (if pc = 91 then xo_iload 5 91 2 lv st M else none) else (if pc = 93 then xo_iast 93 1 lv st M else none)) else (if pc < 95 then (if pc = 94 then xo_aload 0 94 1 lv st M else none) else (if pc = 95 then xo_dup 95 1 lv st M else none)))) else (if pc < 104 then (if pc < 100 then (if pc < 99 then (if pc = 96 then xo_getf 8 2 96 3 lv st M else none) else (if pc = 99 then xo_iconst 1 99 1 lv st M else none)) else (if pc < 101 then (if pc = 100 then xo_iadd 100 1 lv st M else none) else (if pc = 101 then xo_puti 8 2 101 3 lv st M else none))) else (if pc < 110 then (if pc < 107 then (if pc = 104 then xo_iinc 4 8 104 3 lv st M else none) else (if pc = 107 then xo_goto (-47) 107 lv st M else none)) else (if pc < 111 then (if pc = 110 then xo_aload 0 110 1 lv st M else none) else (if pc < 114 then (if pc = 111 then xo_getf 8 2 111 3 lv st M else none) else (if pc = 114 then xo_ret 71 st M else none)))))))
def cd_72 (pc : Nat) (lv : XL) (st : List XV) (M : XM) : Option XN := if pc < 9 then (if pc < 2 then (if pc < 1 then (if pc = 0 then xo_aload 0 0 1 lv st M else none) else (if pc = 1 then xo_iconst 0 1 1 lv st M else none)) else (if pc < 5 then (if pc = 2 then xo_puti 8 0 2 3 lv st M else none) else (if pc < 6 then (if pc = 5 then xo_aload 0 5 1 lv st M else none) else (if pc = 6 then xo_getf 8 2 6 3 lv st M else none)))) else (if pc < 12 then (if pc < 10 then (if pc = 9 then xo_istore 1 9 1 lv st M else none) else (if pc < 11 then (if pc = 10 then xo_aload 0 10 1 lv st M else none) else (if pc = 11 then xo_iconst 0 11 1 lv st M else none))) else (if pc < 15 then (if pc = 12 then xo_puti 8 2 12 3 lv st M else none) else (if pc < 16 then (if pc = 15 then xo_iload 1 15 1 lv st M else none) else (if pc = 16 then xo_ret 72 st M else none))))
def cd_73 (pc : Nat) (lv : XL) (st : List XV) (M : XM) : Option XN := if pc < 30 then (if pc < 13 then (if pc < 6 then (if pc < 1 then (if pc = 0 then xo_iload 0 0 1 lv st M else none) else (if pc < 3 then (if pc = 1 then xo_iconst 107 1 2 lv st M else none) else (if pc = 3 then xo_icmp .eq 51 3 3 lv st M else none))) else (if pc < 9 then (if pc < 7 then (if pc = 6 then xo_iload 0 6 1 lv st M else none) else (if pc = 7 then xo_iconst 112 7 2 lv st M else none)) else (if pc < 12 then (if pc = 9 then xo_icmp .eq 45 9 3 lv st M else none) else (if pc = 12 then xo_iload 0 12 1 lv st M else none)))) else (if pc < 21 then (if pc < 18 then (if pc < 15 then (if pc = 13 then xo_iconst 111 13 2 lv st M else none) else (if pc = 15 then xo_icmp .eq 39 15 3 lv st M else none)) else (if pc < 19 then (if pc = 18 then xo_iload 0 18 1 lv st M else none) else (if pc = 19 then xo_iconst 108 19 2 lv st M else none))) else (if pc < 25 then (if pc < 24 then (if pc = 21 then xo_icmp .eq 33 21 3 lv st M else none) else (if pc = 24 then xo_iload 0 24 1 lv st M else none)) else (if pc < 27 then (if pc = 25 then xo_iconst 114 25 2 lv st M else none) else (if pc = 27 then xo_icmp .eq 27 27 3 lv st M else none))))) else (if pc < 45 then (if pc < 37 then (if pc < 33 then (if pc < 31 then (if pc = 30 then xo_iload 0 30 1 lv st M else none) else (if pc = 31 then xo_iconst 99 31 2 lv st M else none)) else (if pc < 36 then (if pc = 33 then xo_icmp .eq 21 33 3 lv st M else none) else (if pc = 36 then xo_iload 0 36 1 lv st M else none))) else (if pc < 42 then (if pc < 39 then (if pc = 37 then xo_iconst 116 37 2 lv st M else none) else (if pc = 39 then xo_icmp .eq 15 39 3 lv st M else none)) else (if pc < 43 then (if pc = 42 then xo_iload 0 42 1 lv st M else none) else (if pc = 43 then xo_iconst 109 43 2 lv st M else none)))) else (if pc < 54 then (if pc < 49 then (if pc < 48 then (if pc = 45 then xo_icmp .eq 9 45 3 lv st M else none) else (if pc = 48 then xo_iload 0 48 1 lv st M else none)) else (if pc < 51 then (if pc = 49 then xo_iconst 120 49 2 lv st M else none) else (if pc = 51 then xo_icmp .ne 7 51 3 lv st M else none))) else (if pc < 58 then (if pc < 55 then (if pc = 54 then xo_iconst 1 54 1 lv st M else none) else (if pc = 55 then xo_goto 4 55 lv st M else none)) else (if pc < 59 then (if pc = 58 then xo_iconst 0 58 1 lv st M else none) else (if pc = 59 then xo_ret 73 st M else none)))))
def cd_74 (pc : Nat) (lv : XL) (st : List XV) (M : XM) : Option XN := if pc < 9 then (if pc < 3 then (if pc < 1 then (if pc = 0 then xo_iload 0 0 1 lv st M else none) else (if pc = 1 then xo_iconst 49 1 2 lv st M else none)) else (if pc < 6 then (if pc = 3 then xo_icmp .lt 13 3 3 lv st M else none) else (if pc < 7 then (if pc = 6 then xo_iload 0 6 1 lv st M else none) else (if pc = 7 then xo_iconst 52 7 2 lv st M else none)))) else (if pc < 13 then (if pc < 12 then (if pc = 9 then xo_icmp .gt 7 9 3 lv st M else none) else (if pc = 12 then xo_iconst 1 12 1 lv st M else none)) else (if pc < 16 then (if pc = 13 then xo_goto 4 13 lv st M else none) else (if pc < 17 then (if pc = 16 then xo_iconst 0 16 1 lv st M else none) else (if pc = 17 then xo_ret 74 st M else none))))
def cd_75 (pc : Nat) (lv : XL) (st : List XV) (M : XM) : Option XN := if pc < 102 then (if pc < 46 then (if pc < 20 then (if pc < 10 then (if pc < 5 then (if pc < 1 then (if pc = 0 then xo_aload 0 0 1 lv st M else none) else (if pc < 2 then (if pc = 1 then xo_iconst 0 1 1 lv st M else none) else (if pc = 2 then xo_puti 8 23 2 3 lv st M else none))) else (if pc < 6 then (if pc = 5 then xo_iconst 0 5 1 lv st M else none) else (if pc < 8 then (if pc = 6 then xo_istore 4 6 2 lv st M else none) else (if pc = 8 then xo_iload 4 8 2 lv st M else none)))) else (if pc < 15 then (if pc < 11 then (if pc = 10 then xo_iload 3 10 1 lv st M else none) else (if pc < 14 then (if pc = 11 then xo_icmp .ge 171 11 3 lv st M else none) else (if pc = 14 then xo_aload 1 14 1 lv st M else none))) else (if pc < 18 then (if pc < 16 then (if pc = 15 then xo_iload 2 15 1 lv st M else none) else (if pc = 16 then xo_iload 4 16 2 lv st M else none)) else (if pc < 19 then (if pc = 18 then xo_iadd 18 1 lv st M else none) else (if pc = 19 then xo_iald 19 1 lv st M else none))))) else (if pc < 33 then (if pc < 26 then (if pc < 22 then (if pc = 20 then xo_istore 5 20 2 lv st M else none) else (if pc < 23 then (if pc = 22 then xo_aload 0 22 1 lv st M else none) else (if pc = 23 then xo_getf 8 24 23 3 lv st M else none))) else (if pc < 30 then (if pc < 27 then (if pc = 26 then xo_aload 0 26 1 lv st M else none) else (if pc = 27 then xo_getf 8 23 27 3 lv st M else none)) else (if pc < 32 then (if pc = 30 then xo_iload 5 30 2 lv st M else none) else (if pc = 32 then xo_iast 32 1 lv st M else none)))) else (if pc < 38 then (if pc < 34 then (if pc = 33 then xo_aload 0 33 1 lv st M else none) else (if pc < 37 then (if pc = 34 then xo_getf 8 25 34 3 lv st M else none) else (if pc = 37 then xo_aload 0 37 1 lv st M else none))) else (if pc < 43 then (if pc < 41 then (if pc = 38 then xo_getf 8 23 38 3 lv st M else none) else (if pc = 41 then xo_iload 4 41 2 lv st M else none)) else (if pc < 44 then (if pc = 43 then xo_iast 43 1 lv st M else none) else (if pc = 44 then xo_iload 5 44 2 lv st M else none)))))) else (if pc < 78 then (if pc < 65 then (if pc < 55 then (if pc < 49 then (if pc = 46 then xo_call false 75 73 st else none) else (if pc < 52 then (if pc = 49 then xo_if .eq 9 49 3 lv st M else none) else (if pc = 52 then xo_iinc 4 1 52 3 lv st M else none))) else (if pc < 60 then (if pc < 58 then (if pc = 55 then xo_goto 114 55 lv st M else none) else (if pc = 58 then xo_iload 5 58 2 lv st M else none)) else (if pc < 62 then (if pc = 60 then xo_iconst 60 60 2 lv st M else none) else (if pc = 62 then xo_icmp .eq 10 62 3 lv st M else none)))) else (if pc < 72 then (if pc < 67 then (if pc = 65 then xo_iload 5 65 2 lv st M else none) else (if pc < 69 then (if pc = 67 then xo_iconst 62 67 2 lv st M else none) else (if pc = 69 then xo_icmp .ne 97 69 3 lv st M else none))) else (if pc < 75 then (if pc < 73 then (if pc = 72 then xo_iconst 1 72 1 lv st M else none) else (if pc = 73 then xo_istore 6 73 2 lv st M else none)) else (if pc < 77 then (if pc = 75 then xo_iload 6 75 2 lv st M else none) else (if pc = 77 then xo_iconst 3 77 1 lv st M else none))))) else (if pc < 91 then (if pc < 85 then (if pc < 81 then (if pc = 78 then xo_icmp .ge 39 78 3 lv st M else none) else (if pc < 83 then (if pc = 81 then xo_iload 4 81 2 lv st M else none) else (if pc = 83 then xo_iload 6 83 2 lv st M else none))) else (if pc < 87 then (if pc < 86 then (if pc = 85 then xo_iadd 85 1 lv st M else none) else (if pc = 86 then xo_iload 3 86 1 lv st M else none)) else (if pc < 90 then (if pc = 87 then xo_icmp .ge 18 87 3 lv st M else none) else (if pc = 90 then xo_aload 1 90 1 lv st M else none)))) else (if pc < 95 then (if pc < 92 then (if pc = 91 then xo_iload 2 91 1 lv st M else none) else (if pc < 94 then (if pc = 92 then xo_iload 4 92 2 lv st M else none) else (if pc = 94 then xo_iadd 94 1 lv st M else none))) else (if pc < 98 then (if pc < 97 then (if pc = 95 then xo_iload 6 95 2 lv st M else none) else (if pc = 97 then xo_iadd 97 1 lv st M else none)) else (if pc < 99 then (if pc = 98 then xo_iald 98 1 lv st M else none) else (if pc = 99 then xo_call false 75 74 st else none))))))) else (if pc < 149 then (if pc < 129 then (if pc < 117 then (if pc < 109 then (if pc < 105 then (if pc = 102 then xo_if .ne 9 102 3 lv st M else none) else (if pc < 107 then (if pc = 105 then xo_iload 4 105 2 lv st M else none) else (if pc = 107 then xo_iload 6 107 2 lv st M else none))) else (if pc < 111 then (if pc < 110 then (if pc = 109 then xo_iadd 109 1 lv st M else none) else (if pc = 110 then xo_ret 75 st M else none)) else (if pc < 114 then (if pc = 111 then xo_iinc 6 1 111 3 lv st M else none) else (if pc = 114 then xo_goto (-39) 114 lv st M else none)))) else (if pc < 122 then (if pc < 118 then (if pc = 117 then xo_aload 0 117 1 lv st M else none) else (if pc < 121 then (if pc = 118 then xo_getf 8 26 118 3 lv st M else none) else (if pc = 121 then xo_aload 0 121 1 lv st M else none))) else (if pc < 126 then (if pc < 125 then (if pc = 122 then xo_getf 8 23 122 3 lv st M else none) else (if pc = 125 then xo_aload 1 125 1 lv st M else none)) else (if pc < 127 then (if pc = 126 then xo_iload 2 126 1 lv st M else none) else (if pc = 127 then xo_iload 4 127 2 lv st M else none))))) else (if pc < 137 then (if pc < 132 then (if pc < 130 then (if pc = 129 then xo_iadd 129 1 lv st M else none) else (if pc < 131 then (if pc = 130 then xo_iconst 1 130 1 lv st M else none) else (if pc = 131 then xo_iadd 131 1 lv st M else none))) else (if pc < 135 then (if pc < 133 then (if pc = 132 then xo_iald 132 1 lv st M else none) else (if pc = 133 then xo_iconst 48 133 2 lv st M else none)) else (if pc < 136 then (if pc = 135 then xo_isub 135 1 lv st M else none) else (if pc = 136 then xo_iast 136 1 lv st M else none)))) else (if pc < 142 then (if pc < 138 then (if pc = 137 then xo_aload 0 137 1 lv st M else none) else (if pc < 141 then (if pc = 138 then xo_getf 8 27 138 3 lv st M else none) else (if pc = 141 then xo_aload 0 141 1 lv st M else none))) else (if pc < 146 then (if pc < 145 then (if pc = 142 then xo_getf 8 23 142 3 lv st M else none) else (if pc = 145 then xo_aload 1 145 1 lv st M else none)) else (if pc < 147 then (if pc = 146 then xo_iload 2 146 1 lv st M else none) else (if pc = 147 then xo_iload 4 147 2 lv st M else none)))))) else (if pc < 169 then (if pc < 157 then (if pc < 152 then (if pc < 150 then (if pc = 149 then xo_iadd 149 1 lv st M else none) else (if pc < 151 then (if pc = 150 then xo_iconst 2 150 1 lv st M else none) else (if pc = 151 then xo_iadd 151 1 lv st M else none))) else (if pc < 155 then (if pc < 153 then (if pc = 152 then xo_iald 152 1 lv st M else none) else (if pc = 153 then xo_iconst 48 153 2 lv st M else none)) else (if pc < 156 then (if pc = 155 then xo_isub 155 1 lv st M else none) else (if pc = 156 then xo_iast 156 1 lv st M else none)))) else (if pc < 161 then (if pc < 159 then (if pc = 157 then xo_iload 4 157 2 lv st M else none) else (if pc < 160 then (if pc = 159 then xo_iconst 3 159 1 lv st M else none) else (if pc = 160 then xo_iadd 160 1 lv st M else none))) else (if pc < 166 then (if pc < 163 then (if pc = 161 then xo_istore 4 161 2 lv st M else none) else (if pc = 163 then xo_goto 6 163 lv st M else none)) else (if pc < 168 then (if pc = 166 then xo_iload 4 166 2 lv st M else none) else (if pc = 168 then xo_ret 75 st M else none))))) else (if pc < 182 then (if pc < 174 then (if pc < 170 then (if pc = 169 then xo_aload 0 169 1 lv st M else none) else (if pc < 171 then (if pc = 170 then xo_dup 170 1 lv st M else none) else (if pc = 171 then xo_getf 8 23 171 3 lv st M else none))) else (if pc < 176 then (if pc < 175 then (if pc = 174 then xo_iconst 1 174 1 lv st M else none) else (if pc = 175 then xo_iadd 175 1 lv st M else none)) else (if pc < 179 then (if pc = 176 then xo_puti 8 23 176 3 lv st M else none) else (if pc = 179 then xo_goto (-171) 179 lv st M else none)))) else (if pc < 189 then (if pc < 183 then (if pc = 182 then xo_aload 0 182 1 lv st M else none) else (if pc < 186 then (if pc = 183 then xo_getf 8 23 183 3 lv st M else none) else (if pc = 186 then xo_if .ne 7 186 3 lv st M else none))) else (if pc < 193 then (if pc < 190 then (if pc = 189 then xo_iconst 0 189 1 lv st M else none) else (if pc = 190 then xo_goto 4 190 lv st M else none)) else (if pc < 194 then (if pc = 193 then xo_iconst (-1) 193 1 lv st M else none) else (if pc = 194 then xo_ret 75 st M else none)))))))
def cd_76 (pc : Nat) (lv : XL) (st : List XV) (M : XM) : Option XN := if pc < 74 then (if pc < 64 then (if pc < 4 then (if pc < 1 then (if pc = 0 then xo_aload 0 0 1 lv st M else none) else (if pc = 1 then xo_getf 8 24 1 3 lv st M else none)) else (if pc < 5 then (if pc = 4 then xo_iload 1 4 1 lv st M else none) else (if pc < 6 then (if pc = 5 then xo_iald 5 1 lv st M else none) else (if pc = 6 then xo_switch 84 [(60, 64), (62, 64), (99, 82), (108, 80), (111, 78), (114, 80)] lv st M else none)))) else (if pc < 69 then (if pc < 65 then (if pc = 64 then xo_aload 0 64 1 lv st M else none) else (if pc < 68 then (if pc = 65 then xo_getf 8 26 65 3 lv st M else none) else (if pc = 68 then xo_iload 1 68 1 lv st M else none))) else (if pc < 70 then (if pc = 69 then xo_iald 69 1 lv st M else none) else (if pc < 71 then (if pc = 70 then xo_aload 0 70 1 lv st M else none) else (if pc = 71 then xo_getf 8 27 71 3 lv st M else none))))) else (if pc < 80 then (if pc < 77 then (if pc < 75 then (if pc = 74 then xo_iload 1 74 1 lv st M else none) else (if pc < 76 then (if pc = 75 then xo_iald 75 1 lv st M else none) else (if pc = 76 then xo_iadd 76 1 lv st M else none))) else (if pc < 78 then (if pc = 77 then xo_ret 76 st M else none) else (if pc < 79 then (if pc = 78 then xo_iconst 0 78 1 lv st M else none) else (if pc = 79 then xo_ret 76 st M else none)))) else (if pc < 83 then (if pc < 81 then (if pc = 80 then xo_iconst 2 80 1 lv st M else none) else (if pc < 82 then (if pc = 81 then xo_ret 76 st M else none) else (if pc = 82 then xo_iconst 3 82 1 lv st M else none))) else (if pc < 84 then (if pc = 83 then xo_ret 76 st M else none) else (if pc < 85 then (if pc = 84 then xo_iconst 1 84 1 lv st M else none) else (if pc = 85 then xo_ret 76 st M else none)))))
def cd_77 (pc : Nat) (lv : XL) (st : List XV) (M : XM) : Option XN := if pc < 28 then (if pc < 15 then (if pc < 6 then (if pc < 4 then (if pc < 1 then (if pc = 0 then xo_aload 0 0 1 lv st M else none) else (if pc = 1 then xo_getf 8 24 1 3 lv st M else none)) else (if pc < 5 then (if pc = 4 then xo_iload 1 4 1 lv st M else none) else (if pc = 5 then xo_iald 5 1 lv st M else none))) else (if pc < 11 then (if pc < 8 then (if pc = 6 then xo_iconst 60 6 2 lv st M else none) else (if pc = 8 then xo_icmp .eq 14 8 3 lv st M else none)) else (if pc < 12 then (if pc = 11 then xo_aload 0 11 1 lv st M else none) else (if pc = 12 then xo_getf 8 24 12 3 lv st M else none)))) else (if pc < 22 then (if pc < 17 then (if pc < 16 then (if pc = 15 then xo_iload 1 15 1 lv st M else none) else (if pc = 16 then xo_iald 16 1 lv st M else none)) else (if pc < 19 then (if pc = 17 then xo_iconst 62 17 2 lv st M else none) else (if pc = 19 then xo_icmp .ne 19 19 3 lv st M else none))) else (if pc < 26 then (if pc < 23 then (if pc = 22 then xo_aload 0 22 1 lv st M else none) else (if pc = 23 then xo_getf 8 26 23 3 lv st M else none)) else (if pc < 27 then (if pc = 26 then xo_iload 1 26 1 lv st M else none) else (if pc = 27 then xo_iald 27 1 lv st M else none))))) else (if pc < 42 then (if pc < 34 then (if pc < 32 then (if pc < 29 then (if pc = 28 then xo_aload 0 28 1 lv st M else none) else (if pc = 29 then xo_getf 8 27 29 3 lv st M else none)) else (if pc < 33 then (if pc = 32 then xo_iload 1 32 1 lv st M else none) else (if pc = 33 then xo_iald 33 1 lv st M else none))) else (if pc < 38 then (if pc < 35 then (if pc = 34 then xo_iadd 34 1 lv st M else none) else (if pc = 35 then xo_goto 19 35 lv st M else none)) else (if pc < 39 then (if pc = 38 then xo_aload 0 38 1 lv st M else none) else (if pc = 39 then xo_getf 8 24 39 3 lv st M else none)))) else (if pc < 49 then (if pc < 44 then (if pc < 43 then (if pc = 42 then xo_iload 1 42 1 lv st M else none) else (if pc = 43 then xo_iald 43 1 lv st M else none)) else (if pc < 46 then (if pc = 44 then xo_iconst 120 44 2 lv st M else none) else (if pc = 46 then xo_icmp .ne 7 46 3 lv st M else none))) else (if pc < 53 then (if pc < 50 then (if pc = 49 then xo_iconst 0 49 1 lv st M else none) else (if pc = 50 then xo_goto 4 50 lv st M else none)) else (if pc < 54 then (if pc = 53 then xo_iconst 1 53 1 lv st M else none) else (if pc = 54 then xo_ret 77 st M else none)))))
def cd_78 (pc : Nat) (lv : XL) (st : List XV) (M : XM) : Option XN := if pc < 2 then (if pc < 1 then (if pc = 0 then xo_aload 0 0 1 lv st M else none) else (if pc = 1 then xo_iload 2 1 1 lv st M else none)) else (if pc < 5 then (if pc = 2 then xo_puti 8 3 2 3 lv st M else none) else (if pc < 6 then (if pc = 5 then xo_iload 1 5 1 lv st M else none) else (if pc = 6 then xo_ret 78 st M else none)))
def cd_79 (pc : Nat) (lv : XL) (st : List XV) (M : XM) : Option XN := if pc < 10 then (if pc < 4 then (if pc < 1 then (if pc = 0 then xo_aload 0 0 1 lv st M else none) else (if pc = 1 then xo_getf 8 7 1 3 lv st M else none)) else (if pc < 6 then (if pc = 4 then xo_iconst 16 4 2 lv st M else none) else (if pc < 7 then (if pc = 6 then xo_aload 0 6 1 lv st M else none) else (if pc = 7 then xo_getf 8 5 7 3 lv st M else none)))) else (if pc < 12 then (if pc < 11 then (if pc = 10 then xo_imul 10 1 lv st M else none) else (if pc = 11 then xo_iload 1 11 1 lv st M else none)) else (if pc < 13 then (if pc = 12 then xo_iadd 12 1 lv st M else none) else (if pc < 14 then (if pc = 13 then xo_iald 13 1 lv st M else none) else (if pc = 14 then xo_ret 79 st M else none))))
def cd_80 (pc : Nat) (lv : XL) (st : List XV) (M : XM) : Option XN := if pc < 73 then (if pc < 34 then (if pc < 16 then (if pc < 5 then (if pc < 2 then (if pc < 1 then (if pc = 0 then xo_iconst 0 0 1 lv st M else none) else (if pc = 1 then xo_istore 1 1 1 lv st M else none)) else (if pc < 3 then (if pc = 2 then xo_iconst 0 2 1 lv st M else none) else (if pc < 4 then (if pc = 3 then xo_istore 2 3 1 lv st M else none) else (if pc = 4 then xo_iload 2 4 1 lv st M else none)))) else (if pc < 9 then (if pc < 6 then (if pc = 5 then xo_aload 0 5 1 lv st M else none) else (if pc = 6 then xo_getf 8 23 6 3 lv st M else none)) else (if pc < 12 then (if pc = 9 then xo_icmp .ge 136 9 3 lv st M else none) else (if pc < 13 then (if pc = 12 then xo_aload 0 12 1 lv st M else none) else (if pc = 13 then xo_getf 8 24 13 3 lv st M else none))))) else (if pc < 24 then (if pc < 18 then (if pc < 17 then (if pc = 16 then xo_iload 2 16 1 lv st M else none) else (if pc = 17 then xo_iald 17 1 lv st M else none)) else (if pc < 20 then (if pc = 18 then xo_iconst 116 18 2 lv st M else none) else (if pc < 23 then (if pc = 20 then xo_icmp .ne 7 20 3 lv st M else none) else (if pc = 23 then xo_iconst 1 23 1 lv st M else none)))) else (if pc < 29 then (if pc < 27 then (if pc = 24 then xo_goto 4 24 lv st M else none) else (if pc < 28 then (if pc = 27 then xo_iconst 0 27 1 lv st M else none) else (if pc = 28 then xo_istore 3 28 1 lv st M else none))) else (if pc < 30 then (if pc = 29 then xo_aload 0 29 1 lv st M else none) else (if pc < 33 then (if pc = 30 then xo_getf 8 24 30 3 lv st M else none) else (if pc = 33 then xo_iload 2 33 1 lv st M else none)))))) else (if pc < 52 then (if pc < 44 then (if pc < 37 then (if pc < 35 then (if pc = 34 then xo_iald 34 1 lv st M else none) else (if pc = 35 then xo_iconst 108 35 2 lv st M else none)) else (if pc < 40 then (if pc = 37 then xo_icmp .eq 36 37 3 lv st M else none) else (if pc < 41 then (if pc = 40 then xo_aload 0 40 1 lv st M else none) else (if pc = 41 then xo_getf 8 24 41 3 lv st M else none)))) else (if pc < 46 then (if pc < 45 then (if pc = 44 then xo_iload 2 44 1 lv st M else none) else (if pc = 45 then xo_iald 45 1 lv st M else none)) else (if pc < 48 then (if pc = 46 then xo_iconst 114 46 2 lv st M else none) else (if pc < 51 then (if pc = 48 then xo_icmp .eq 25 48 3 lv st M else none) else (if pc = 51 then xo_aload 0 51 1 lv st M else none))))) else (if pc < 62 then (if pc < 56 then (if pc < 55 then (if pc = 52 then xo_getf 8 24 52 3 lv st M else none) else (if pc = 55 then xo_iload 2 55 1 lv st M else none)) else (if pc < 57 then (if pc = 56 then xo_iald 56 1 lv st M else none) else (if pc < 59 then (if pc = 57 then xo_iconst 99 57 2 lv st M else none) else (if pc = 59 then xo_icmp .eq 14 59 3 lv st M else none)))) else (if pc < 67 then (if pc < 63 then (if pc = 62 then xo_aload 0 62 1 lv st M else none) else (if pc < 66 then (if pc = 63 then xo_getf 8 24 63 3 lv st M else none) else (if pc = 66 then xo_iload 2 66 1 lv st M else none))) else (if pc < 68 then (if pc = 67 then xo_iald 67 1 lv st M else none) else (if pc < 70 then (if pc = 68 then xo_iconst 116 68 2 lv st M else none) else (if pc = 70 then xo_icmp .ne 7 70 3 lv st M else none))))))) else (if pc < 111 then (if pc < 90 then (if pc < 81 then (if pc < 77 then (if pc < 74 then (if pc = 73 then xo_iconst 1 73 1 lv st M else none) else (if pc = 74 then xo_goto 4 74 lv st M else none)) else (if pc < 78 then (if pc = 77 then xo_iconst 0 77 1 lv st M else none) else (if pc < 80 then (if pc = 78 then xo_istore 4 78 2 lv st M else none) else (if pc = 80 then xo_iconst 0 80 1 lv st M else none)))) else (if pc < 85 then (if pc < 83 then (if pc = 81 then xo_istore 5 81 2 lv st M else none) else (if pc = 83 then xo_iload 5 83 2 lv st M else none)) else (if pc < 86 then (if pc = 85 then xo_aload 0 85 1 lv st M else none) else (if pc < 87 then (if pc = 86 then xo_iload 2 86 1 lv st M else none) else (if pc = 87 then xo_call true 80 76 st else none))))) else (if pc < 100 then (if pc < 95 then (if pc < 93 then (if pc = 90 then xo_icmp .ge 29 90 3 lv st M else none) else (if pc = 93 then xo_iload 4 93 2 lv st M else none)) else (if pc < 98 then (if pc = 95 then xo_if .eq 16 95 3 lv st M else none) else (if pc < 99 then (if pc = 98 then xo_iload 3 98 1 lv st M else none) else (if pc = 99 then xo_aload 0 99 1 lv st M else none)))) else (if pc < 104 then (if pc < 101 then (if pc = 100 then xo_iload 1 100 1 lv st M else none) else (if pc < 103 then (if pc = 101 then xo_iload 5 101 2 lv st M else none) else (if pc = 103 then xo_iadd 103 1 lv st M else none))) else (if pc < 107 then (if pc = 104 then xo_call true 80 79 st else none) else (if pc < 108 then (if pc = 107 then xo_iadd 107 1 lv st M else none) else (if pc = 108 then xo_goto 4 108 lv st M else none)))))) else (if pc < 130 then (if pc < 120 then (if pc < 113 then (if pc < 112 then (if pc = 111 then xo_iload 3 111 1 lv st M else none) else (if pc = 112 then xo_istore 3 112 1 lv st M else none)) else (if pc < 116 then (if pc = 113 then xo_iinc 5 1 113 3 lv st M else none) else (if pc < 119 then (if pc = 116 then xo_goto (-33) 116 lv st M else none) else (if pc = 119 then xo_iload 3 119 1 lv st M else none)))) else (if pc < 125 then (if pc < 121 then (if pc = 120 then xo_iconst 4 120 1 lv st M else none) else (if pc < 124 then (if pc = 121 then xo_icmp .le 10 121 3 lv st M else none) else (if pc = 124 then xo_aload 0 124 1 lv st M else none))) else (if pc < 128 then (if pc = 125 then xo_getf 8 25 125 3 lv st M else none) else (if pc < 129 then (if pc = 128 then xo_iload 2 128 1 lv st M else none) else (if pc = 129 then xo_iald 129 1 lv st M else none))))) else (if pc < 137 then (if pc < 132 then (if pc < 131 then (if pc = 130 then xo_ret 80 st M else none) else (if pc = 131 then xo_iload 1 131 1 lv st M else none)) else (if pc < 133 then (if pc = 132 then xo_aload 0 132 1 lv st M else none) else (if pc < 134 then (if pc = 133 then xo_iload 2 133 1 lv st M else none) else (if pc = 134 then xo_call true 80 76 st else none)))) else (if pc < 142 then (if pc < 138 then (if pc = 137 then xo_iadd 137 1 lv st M else none) else (if pc < 139 then (if pc = 138 then xo_istore 1 138 1 lv st M else none) else (if pc = 139 then xo_iinc 2 1 139 3 lv st M else none))) else (if pc < 145 then (if pc = 142 then xo_goto (-138) 142 lv st M else none) else (if pc < 146 then (if pc = 145 then xo_iconst (-1) 145 1 lv st M else none) else (if pc = 146 then xo_ret 80 st M else none)))))))
def cd_81 (pc : Nat) (lv : XL) (st : List XV) (M : XM) : Option XN := if pc < 19 then (if pc < 8 then (if pc < 5 then (if pc < 1 then (if pc = 0 then xo_aload 0 0 1 lv st M else none) else (if pc < 4 then (if pc = 1 then xo_getf 8 28 1 3 lv st M else none) else (if pc = 4 then xo_iload 1 4 1 lv st M else none))) else (if pc < 6 then (if pc = 5 then xo_iload 2 5 1 lv st M else none) else (if pc < 7 then (if pc = 6 then xo_iast 6 1 lv st M else none) else (if pc = 7 then xo_aload 0 7 1 lv st M else none)))) else (if pc < 14 then (if pc < 11 then (if pc = 8 then xo_getf 8 29 8 3 lv st M else none) else (if pc < 12 then (if pc = 11 then xo_iload 1 11 1 lv st M else none) else (if pc = 12 then xo_iload 4 12 2 lv st M else none))) else (if pc < 15 then (if pc = 14 then xo_bast 14 1 lv st M else none) else (if pc < 16 then (if pc = 15 then xo_aload 0 15 1 lv st M else none) else (if pc = 16 then xo_getf 8 30 16 3 lv st M else none))))) else (if pc < 28 then (if pc < 23 then (if pc < 20 then (if pc = 19 then xo_iload 1 19 1 lv st M else none) else (if pc < 22 then (if pc = 20 then xo_iload 5 20 2 lv st M else none) else (if pc = 22 then xo_iast 22 1 lv st M else none))) else (if pc < 24 then (if pc = 23 then xo_aload 0 23 1 lv st M else none) else (if pc < 27 then (if pc = 24 then xo_getf 8 31 24 3 lv st M else none) else (if pc = 27 then xo_iload 1 27 1 lv st M else none)))) else (if pc < 33 then (if pc < 29 then (if pc = 28 then xo_aload 0 28 1 lv st M else none) else (if pc < 32 then (if pc = 29 then xo_getf 8 25 29 3 lv st M else none) else (if pc = 32 then xo_iload 3 32 1 lv st M else none))) else (if pc < 34 then (if pc = 33 then xo_iald 33 1 lv st M else none) else (if pc < 35 then (if pc = 34 then xo_iast 34 1 lv st M else none) else (if pc = 35 then xo_ret 81 st M else none)))))
def cd_82 (pc : Nat) (lv : XL) (st : List XV) (M : XM) : Option XN := if pc < 16 then (if pc < 9 then (if pc < 4 then (if pc < 1 then (if pc = 0 then xo_aload 0 0 1 lv st M else none) else (if pc = 1 then xo_getf 8 32 1 3 lv st M else none)) else (if pc < 5 then (if pc = 4 then xo_iload 1 4 1 lv st M else none) else (if pc < 6 then (if pc = 5 then xo_aload 0 5 1 lv st M else none) else (if pc = 6 then xo_getf 8 24 6 3 lv st M else none)))) else (if pc < 11 then (if pc < 10 then (if pc = 9 then xo_iload 2 9 1 lv st M else none) else (if pc = 10 then xo_iald 10 1 lv st M else none)) else (if pc < 12 then (if pc = 11 then xo_iast 11 1 lv st M else none) else (if pc < 13 then (if pc = 12 then xo_aload 0 12 1 lv st M else none) else (if pc = 13 then xo_getf 8 33 13 3 lv st M else none))))) else (if pc < 23 then (if pc < 18 then (if pc < 17 then (if pc = 16 then xo_iload 1 16 1 lv st M else none) else (if pc = 17 then xo_iconst 1 17 1 lv st M else none)) else (if pc < 19 then (if pc = 18 then xo_iast 18 1 lv st M else none) else (if pc < 20 then (if pc = 19 then xo_aload 0 19 1 lv st M else none) else (if pc = 20 then xo_getf 8 34 20 3 lv st M else none)))) else (if pc < 26 then (if pc < 24 then (if pc = 23 then xo_iconst 3 23 1 lv st M else none) else (if pc < 25 then (if pc = 24 then xo_iload 1 24 1 lv st M else none) else (if pc = 25 then xo_imul 25 1 lv st M else none))) else (if pc < 27 then (if pc = 26 then xo_iload 3 26 1 lv st M else none) else (if pc < 28 then (if pc = 27 then xo_iast 27 1 lv st M else none) else (if pc = 28 then xo_ret 82 st M else none)))))
def cd_83 (pc : Nat) (lv : XL) (st : List XV) (M : XM) : Option XN := if pc < 87 then (if pc < 42 then (if pc < 21 then (if pc < 9 then (if pc < 5 then (if pc < 1 then (if pc = 0 then xo_aload 0 0 1 lv st M else none) else (if pc < 4 then (if pc = 1 then xo_getf 8 24 1 3 lv st M else none) else (if pc = 4 then xo_iload 1 4 1 lv st M else none))) else (if pc < 6 then (if pc = 5 then xo_iald 5 1 lv st M else none) else (if pc < 8 then (if pc = 6 then xo_istore 4 6 2 lv st M else none) else (if pc = 8 then xo_iconst 0 8 1 lv st M else none)))) else (if pc < 14 then (if pc < 11 then (if pc = 9 then xo_istore 5 9 2 lv st M else none) else (if pc < 13 then (if pc = 11 then xo_iload 5 11 2 lv st M else none) else (if pc = 13 then xo_aload 0 13 1 lv st M else none))) else (if pc < 15 then (if pc = 14 then xo_iload 1 14 1 lv st M else none) else (if pc < 18 then (if pc = 15 then xo_call true 83 76 st else none) else (if pc = 18 then xo_icmp .ge 50 18 3 lv st M else none))))) else (if pc < 28 then (if pc < 25 then (if pc < 22 then (if pc = 21 then xo_aload 0 21 1 lv st M else none) else (if pc < 23 then (if pc = 22 then xo_iload 2 22 1 lv st M else none) else (if pc = 23 then xo_iload 5 23 2 lv st M else none))) else (if pc < 26 then (if pc = 25 then xo_iadd 25 1 lv st M else none) else (if pc < 27 then (if pc = 26 then xo_iload 3 26 1 lv st M else none) else (if pc = 27 then xo_iload 1 27 1 lv st M else none)))) else (if pc < 35 then (if pc < 30 then (if pc = 28 then xo_iload 4 28 2 lv st M else none) else (if pc < 32 then (if pc = 30 then xo_iconst 108 30 2 lv st M else none) else (if pc = 32 then xo_icmp .ne 8 32 3 lv st M else none))) else (if pc < 37 then (if pc = 35 then xo_iload 5 35 2 lv st M else none) else (if pc < 40 then (if pc = 37 then xo_if .eq 16 37 3 lv st M else none) else (if pc = 40 then xo_iload 4 40 2 lv st M else none)))))) else (if pc < 68 then (if pc < 54 then (if pc < 49 then (if pc < 44 then (if pc = 42 then xo_iconst 99 42 2 lv st M else none) else (if pc < 47 then (if pc = 44 then xo_icmp .ne 13 44 3 lv st M else none) else (if pc = 47 then xo_iload 5 47 2 lv st M else none))) else (if pc < 50 then (if pc = 49 then xo_iconst 1 49 1 lv st M else none) else (if pc < 53 then (if pc = 50 then xo_icmp .ne 7 50 3 lv st M else none) else (if pc = 53 then xo_iconst 1 53 1 lv st M else none)))) else (if pc < 59 then (if pc < 57 then (if pc = 54 then xo_goto 4 54 lv st M else none) else (if pc < 58 then (if pc = 57 then xo_iconst 0 57 1 lv st M else none) else (if pc = 58 then xo_iconst 0 58 1 lv st M else none))) else (if pc < 62 then (if pc = 59 then xo_call true 83 81 st else none) else (if pc < 65 then (if pc = 62 then xo_iinc 5 1 62 3 lv st M else none) else (if pc = 65 then xo_goto (-54) 65 lv st M else none))))) else (if pc < 77 then (if pc < 73 then (if pc < 69 then (if pc = 68 then xo_aload 0 68 1 lv st M else none) else (if pc < 72 then (if pc = 69 then xo_getf 8 32 69 3 lv st M else none) else (if pc = 72 then xo_iload 3 72 1 lv st M else none))) else (if pc < 75 then (if pc = 73 then xo_iload 4 73 2 lv st M else none) else (if pc < 76 then (if pc = 75 then xo_iast 75 1 lv st M else none) else (if pc = 76 then xo_aload 0 76 1 lv st M else none)))) else (if pc < 82 then (if pc < 80 then (if pc = 77 then xo_getf 8 33 77 3 lv st M else none) else (if pc < 81 then (if pc = 80 then xo_iload 3 80 1 lv st M else none) else (if pc = 81 then xo_aload 0 81 1 lv st M else none))) else (if pc < 83 then (if pc = 82 then xo_iload 1 82 1 lv st M else none) else (if pc < 86 then (if pc = 83 then xo_call true 83 76 st else none) else (if pc = 86 then xo_iast 86 1 lv st M else none))))))) else (if pc < 125 then (if pc < 107 then (if pc < 96 then (if pc < 92 then (if pc < 88 then (if pc = 87 then xo_aload 0 87 1 lv st M else none) else (if pc < 91 then (if pc = 88 then xo_getf 8 34 88 3 lv st M else none) else (if pc = 91 then xo_iconst 3 91 1 lv st M else none))) else (if pc < 93 then (if pc = 92 then xo_iload 3 92 1 lv st M else none) else (if pc < 94 then (if pc = 93 then xo_imul 93 1 lv st M else none) else (if pc = 94 then xo_iload 4 94 2 lv st M else none)))) else (if pc < 102 then (if pc < 98 then (if pc = 96 then xo_iconst 108 96 2 lv st M else none) else (if pc < 101 then (if pc = 98 then xo_icmp .ne 9 98 3 lv st M else none) else (if pc = 101 then xo_iload 2 101 1 lv st M else none))) else (if pc < 103 then (if pc = 102 then xo_iconst 1 102 1 lv st M else none) else (if pc < 104 then (if pc = 103 then xo_iadd 103 1 lv st M else none) else (if pc = 104 then xo_goto 4 104 lv st M else none))))) else (if pc < 115 then (if pc < 110 then (if pc < 108 then (if pc = 107 then xo_iload 2 107 1 lv st M else none) else (if pc < 109 then (if pc = 108 then xo_iast 108 1 lv st M else none) else (if pc = 109 then xo_aload 0 109 1 lv st M else none))) else (if pc < 113 then (if pc = 110 then xo_getf 8 34 110 3 lv st M else none) else (if pc < 114 then (if pc = 113 then xo_iconst 3 113 1 lv st M else none) else (if pc = 114 then xo_iload 3 114 1 lv st M else none)))) else (if pc < 118 then (if pc < 116 then (if pc = 115 then xo_imul 115 1 lv st M else none) else (if pc < 117 then (if pc = 116 then xo_iconst 1 116 1 lv st M else none) else (if pc = 117 then xo_iadd 117 1 lv st M else none))) else (if pc < 120 then (if pc = 118 then xo_iload 4 118 2 lv st M else none) else (if pc < 122 then (if pc = 120 then xo_iconst 108 120 2 lv st M else none) else (if pc = 122 then xo_icmp .ne 7 122 3 lv st M else none)))))) else (if pc < 145 then (if pc < 137 then (if pc < 131 then (if pc < 126 then (if pc = 125 then xo_iload 2 125 1 lv st M else none) else (if pc < 129 then (if pc = 126 then xo_goto 19 126 lv st M else none) else (if pc = 129 then xo_iload 4 129 2 lv st M else none))) else (if pc < 133 then (if pc = 131 then xo_iconst 99 131 2 lv st M else none) else (if pc < 136 then (if pc = 133 then xo_icmp .ne 9 133 3 lv st M else none) else (if pc = 136 then xo_iload 2 136 1 lv st M else none)))) else (if pc < 142 then (if pc < 138 then (if pc = 137 then xo_iconst 2 137 1 lv st M else none) else (if pc < 139 then (if pc = 138 then xo_iadd 138 1 lv st M else none) else (if pc = 139 then xo_goto 6 139 lv st M else none))) else (if pc < 143 then (if pc = 142 then xo_iload 2 142 1 lv st M else none) else (if pc < 144 then (if pc = 143 then xo_iconst 1 143 1 lv st M else none) else (if pc = 144 then xo_iadd 144 1 lv st M else none))))) else (if pc < 153 then (if pc < 150 then (if pc < 146 then (if pc = 145 then xo_iast 145 1 lv st M else none) else (if pc < 147 then (if pc = 146 then xo_aload 0 146 1 lv st M else none) else (if pc = 147 then xo_getf 8 34 147 3 lv st M else none))) else (if pc < 151 then (if pc = 150 then xo_iconst 3 150 1 lv st M else none) else (if pc < 152 then (if pc = 151 then xo_iload 3 151 1 lv st M else none) else (if pc = 152 then xo_imul 152 1 lv st M else none)))) else (if pc < 156 then (if pc < 154 then (if pc = 153 then xo_iconst 2 153 1 lv st M else none) else (if pc < 155 then (if pc = 154 then xo_iadd 154 1 lv st M else none) else (if pc = 155 then xo_iload 2 155 1 lv st M else none))) else (if pc < 158 then (if pc < 157 then (if pc = 156 then xo_iconst 1 156 1 lv st M else none) else (if pc = 157 then xo_iadd 157 1 lv st M else none)) else (if pc < 159 then (if pc = 158 then xo_iast 158 1 lv st M else none) else (if pc = 159 then xo_ret 83 st M else none)))))))
def cd_84 (pc : Nat) (lv : XL) (st : List XV) (M : XM) : Option XN := if pc < 57 then (if pc < 29 then (if pc < 13 then (if pc < 6 then (if pc < 4 then (if pc < 1 then (if pc = 0 then xo_aload 0 0 1 lv st M else none) else (if pc = 1 then xo_getf 8 26 1 3 lv st M else none)) else (if pc < 5 then (if pc = 4 then xo_iload 1 4 1 lv st M else none) else (if pc = 5 then xo_iald 5 1 lv st M else none))) else (if pc < 9 then (if pc < 8 then (if pc = 6 then xo_istore 4 6 2 lv st M else none) else (if pc = 8 then xo_aload 0 8 1 lv st M else none)) else (if pc < 12 then (if pc = 9 then xo_getf 8 27 9 3 lv st M else none) else (if pc = 12 then xo_iload 1 12 1 lv st M else none)))) else (if pc < 19 then (if pc < 16 then (if pc < 14 then (if pc = 13 then xo_iald 13 1 lv st M else none) else (if pc = 14 then xo_istore 5 14 2 lv st M else none)) else (if pc < 17 then (if pc = 16 then xo_iconst 0 16 1 lv st M else none) else (if pc = 17 then xo_istore 6 17 2 lv st M else none))) else (if pc < 23 then (if pc < 21 then (if pc = 19 then xo_iload 6 19 2 lv st M else none) else (if pc = 21 then xo_iload 4 21 2 lv st M else none)) else (if pc < 25 then (if pc = 23 then xo_iload 5 23 2 lv st M else none) else (if pc < 26 then (if pc = 25 then xo_iadd 25 1 lv st M else none) else (if pc = 26 then xo_icmp .ge 94 26 3 lv st M else none)))))) else (if pc < 43 then (if pc < 37 then (if pc < 33 then (if pc < 31 then (if pc = 29 then xo_iload 6 29 2 lv st M else none) else (if pc = 31 then xo_iload 4 31 2 lv st M else none)) else (if pc < 36 then (if pc = 33 then xo_icmp .ge 13 33 3 lv st M else none) else (if pc = 36 then xo_iload 3 36 1 lv st M else none))) else (if pc < 40 then (if pc < 39 then (if pc = 37 then xo_iload 5 37 2 lv st M else none) else (if pc = 39 then xo_iadd 39 1 lv st M else none)) else (if pc < 42 then (if pc = 40 then xo_iload 6 40 2 lv st M else none) else (if pc = 42 then xo_iadd 42 1 lv st M else none)))) else (if pc < 50 then (if pc < 47 then (if pc < 46 then (if pc = 43 then xo_goto 10 43 lv st M else none) else (if pc = 46 then xo_iload 3 46 1 lv st M else none)) else (if pc < 49 then (if pc = 47 then xo_iload 6 47 2 lv st M else none) else (if pc = 49 then xo_iadd 49 1 lv st M else none))) else (if pc < 53 then (if pc < 52 then (if pc = 50 then xo_iload 4 50 2 lv st M else none) else (if pc = 52 then xo_isub 52 1 lv st M else none)) else (if pc < 55 then (if pc = 53 then xo_istore 7 53 2 lv st M else none) else (if pc < 56 then (if pc = 55 then xo_aload 0 55 1 lv st M else none) else (if pc = 56 then xo_iload 2 56 1 lv st M else none))))))) else (if pc < 87 then (if pc < 71 then (if pc < 63 then (if pc < 60 then (if pc < 59 then (if pc = 57 then xo_iload 6 57 2 lv st M else none) else (if pc = 59 then xo_iadd 59 1 lv st M else none)) else (if pc < 62 then (if pc = 60 then xo_iload 7 60 2 lv st M else none) else (if pc = 62 then xo_iload 1 62 1 lv st M else none))) else (if pc < 67 then (if pc < 65 then (if pc = 63 then xo_iload 6 63 2 lv st M else none) else (if pc = 65 then xo_iload 4 65 2 lv st M else none)) else (if pc < 70 then (if pc = 67 then xo_icmp .ge 7 67 3 lv st M else none) else (if pc = 70 then xo_iconst 1 70 1 lv st M else none)))) else (if pc < 79 then (if pc < 75 then (if pc < 74 then (if pc = 71 then xo_goto 4 71 lv st M else none) else (if pc = 74 then xo_iconst 0 74 1 lv st M else none)) else (if pc < 76 then (if pc = 75 then xo_aload 0 75 1 lv st M else none) else (if pc = 76 then xo_getf 8 24 76 3 lv st M else none))) else (if pc < 81 then (if pc < 80 then (if pc = 79 then xo_iload 1 79 1 lv st M else none) else (if pc = 80 then xo_iald 80 1 lv st M else none)) else (if pc < 83 then (if pc = 81 then xo_iconst 62 81 2 lv st M else none) else (if pc < 86 then (if pc = 83 then xo_icmp .ne 7 83 3 lv st M else none) else (if pc = 86 then xo_iconst 1 86 1 lv st M else none)))))) else (if pc < 104 then (if pc < 95 then (if pc < 91 then (if pc < 90 then (if pc = 87 then xo_goto 4 87 lv st M else none) else (if pc = 90 then xo_iconst 0 90 1 lv st M else none)) else (if pc < 94 then (if pc = 91 then xo_icmp .ne 7 91 3 lv st M else none) else (if pc = 94 then xo_iconst 1 94 1 lv st M else none))) else (if pc < 99 then (if pc < 98 then (if pc = 95 then xo_goto 4 95 lv st M else none) else (if pc = 98 then xo_iconst 0 98 1 lv st M else none)) else (if pc < 100 then (if pc = 99 then xo_iconst 0 99 1 lv st M else none) else (if pc < 103 then (if pc = 100 then xo_call true 84 81 st else none) else (if pc = 103 then xo_aload 0 103 1 lv st M else none))))) else (if pc < 110 then (if pc < 107 then (if pc < 106 then (if pc = 104 then xo_iload 7 104 2 lv st M else none) else (if pc = 106 then xo_iload 1 106 1 lv st M else none)) else (if pc < 108 then (if pc = 107 then xo_iload 2 107 1 lv st M else none) else (if pc = 108 then xo_iload 6 108 2 lv st M else none))) else (if pc < 114 then (if pc < 111 then (if pc = 110 then xo_iadd 110 1 lv st M else none) else (if pc = 111 then xo_call true 84 82 st else none)) else (if pc < 117 then (if pc = 114 then xo_iinc 6 1 114 3 lv st M else none) else (if pc < 120 then (if pc = 117 then xo_goto (-98) 117 lv st M else none) else (if pc = 120 then xo_ret 84 st M else none)))))))
def cd_85 (pc : Nat) (lv : XL) (st : List XV) (M : XM) : Option XN := if pc < 93 then (if pc < 43 then (if pc < 19 then (if pc < 6 then (if pc < 3 then (if pc < 1 then (if pc = 0 then xo_iconst 0 0 1 lv st M else none) else (if pc < 2 then (if pc = 1 then xo_istore 1 1 1 lv st M else none) else (if pc = 2 then xo_iconst 0 2 1 lv st M else none))) else (if pc < 4 then (if pc = 3 then xo_istore 2 3 1 lv st M else none) else (if pc < 5 then (if pc = 4 then xo_iconst 0 4 1 lv st M else none) else (if pc = 5 then xo_istore 3 5 1 lv st M else none)))) else (if pc < 11 then (if pc < 7 then (if pc = 6 then xo_iload 3 6 1 lv st M else none) else (if pc < 8 then (if pc = 7 then xo_aload 0 7 1 lv st M else none) else (if pc = 8 then xo_getf 8 23 8 3 lv st M else none))) else (if pc < 15 then (if pc < 14 then (if pc = 11 then xo_icmp .ge 170 11 3 lv st M else none) else (if pc = 14 then xo_aload 0 14 1 lv st M else none)) else (if pc < 18 then (if pc = 15 then xo_getf 8 24 15 3 lv st M else none) else (if pc = 18 then xo_iload 3 18 1 lv st M else none))))) else (if pc < 31 then (if pc < 24 then (if pc < 20 then (if pc = 19 then xo_iald 19 1 lv st M else none) else (if pc < 22 then (if pc = 20 then xo_istore 4 20 2 lv st M else none) else (if pc = 22 then xo_iload 4 22 2 lv st M else none))) else (if pc < 26 then (if pc = 24 then xo_iconst 60 24 2 lv st M else none) else (if pc < 29 then (if pc = 26 then xo_icmp .eq 10 26 3 lv st M else none) else (if pc = 29 then xo_iload 4 29 2 lv st M else none)))) else (if pc < 37 then (if pc < 33 then (if pc = 31 then xo_iconst 62 31 2 lv st M else none) else (if pc < 36 then (if pc = 33 then xo_icmp .ne 13 33 3 lv st M else none) else (if pc = 36 then xo_aload 0 36 1 lv st M else none))) else (if pc < 39 then (if pc < 38 then (if pc = 37 then xo_iload 3 37 1 lv st M else none) else (if pc = 38 then xo_iload 1 38 1 lv st M else none)) else (if pc < 40 then (if pc = 39 then xo_iload 2 39 1 lv st M else none) else (if pc = 40 then xo_call true 85 84 st else none)))))) else (if pc < 70 then (if pc < 57 then (if pc < 50 then (if pc < 46 then (if pc = 43 then xo_goto 116 43 lv st M else none) else (if pc < 48 then (if pc = 46 then xo_iload 4 46 2 lv st M else none) else (if pc = 48 then xo_iconst 108 48 2 lv st M else none))) else (if pc < 53 then (if pc = 50 then xo_icmp .eq 17 50 3 lv st M else none) else (if pc < 55 then (if pc = 53 then xo_iload 4 53 2 lv st M else none) else (if pc = 55 then xo_iconst 114 55 2 lv st M else none)))) else (if pc < 64 then (if pc < 60 then (if pc = 57 then xo_icmp .eq 10 57 3 lv st M else none) else (if pc < 62 then (if pc = 60 then xo_iload 4 60 2 lv st M else none) else (if pc = 62 then xo_iconst 99 62 2 lv st M else none))) else (if pc < 68 then (if pc < 67 then (if pc = 64 then xo_icmp .ne 13 64 3 lv st M else none) else (if pc = 67 then xo_aload 0 67 1 lv st M else none)) else (if pc < 69 then (if pc = 68 then xo_iload 3 68 1 lv st M else none) else (if pc = 69 then xo_iload 1 69 1 lv st M else none))))) else (if pc < 84 then (if pc < 77 then (if pc < 71 then (if pc = 70 then xo_iload 2 70 1 lv st M else none) else (if pc < 74 then (if pc = 71 then xo_call true 85 83 st else none) else (if pc = 74 then xo_goto 85 74 lv st M else none))) else (if pc < 79 then (if pc = 77 then xo_iload 4 77 2 lv st M else none) else (if pc < 81 then (if pc = 79 then xo_iconst 120 79 2 lv st M else none) else (if pc = 81 then xo_icmp .ne 15 81 3 lv st M else none)))) else (if pc < 87 then (if pc < 85 then (if pc = 84 then xo_aload 0 84 1 lv st M else none) else (if pc < 86 then (if pc = 85 then xo_iload 1 85 1 lv st M else none) else (if pc = 86 then xo_iconst (-1) 86 1 lv st M else none))) else (if pc < 89 then (if pc < 88 then (if pc = 87 then xo_iload 3 87 1 lv st M else none) else (if pc = 88 then xo_iconst 0 88 1 lv st M else none)) else (if pc < 90 then (if pc = 89 then xo_iconst (-1) 89 1 lv st M else none) else (if pc = 90 then xo_call true 85 81 st else none))))))) else (if pc < 139 then (if pc < 117 then (if pc < 107 then (if pc < 100 then (if pc < 96 then (if pc = 93 then xo_goto 66 93 lv st M else none) else (if pc < 98 then (if pc = 96 then xo_iload 4 96 2 lv st M else none) else (if pc = 98 then xo_iconst 111 98 2 lv st M else none))) else (if pc < 103 then (if pc = 100 then xo_icmp .ne 21 100 3 lv st M else none) else (if pc < 104 then (if pc = 103 then xo_aload 0 103 1 lv st M else none) else (if pc = 104 then xo_getf 8 32 104 3 lv st M else none)))) else (if pc < 111 then (if pc < 108 then (if pc = 107 then xo_iload 2 107 1 lv st M else none) else (if pc < 110 then (if pc = 108 then xo_iload 4 108 2 lv st M else none) else (if pc = 110 then xo_iast 110 1 lv st M else none))) else (if pc < 115 then (if pc < 112 then (if pc = 111 then xo_aload 0 111 1 lv st M else none) else (if pc = 112 then xo_getf 8 33 112 3 lv st M else none)) else (if pc < 116 then (if pc = 115 then xo_iload 2 115 1 lv st M else none) else (if pc = 116 then xo_iconst 0 116 1 lv st M else none))))) else (if pc < 125 then (if pc < 122 then (if pc < 118 then (if pc = 117 then xo_iast 117 1 lv st M else none) else (if pc < 121 then (if pc = 118 then xo_goto 41 118 lv st M else none) else (if pc = 121 then xo_aload 0 121 1 lv st M else none))) else (if pc < 123 then (if pc = 122 then xo_iload 1 122 1 lv st M else none) else (if pc < 124 then (if pc = 123 then xo_iload 2 123 1 lv st M else none) else (if pc = 124 then xo_iload 3 124 1 lv st M else none)))) else (if pc < 130 then (if pc < 126 then (if pc = 125 then xo_iconst 0 125 1 lv st M else none) else (if pc < 128 then (if pc = 126 then xo_iload 4 126 2 lv st M else none) else (if pc = 128 then xo_iconst 107 128 2 lv st M else none))) else (if pc < 134 then (if pc < 133 then (if pc = 130 then xo_icmp .ne 7 130 3 lv st M else none) else (if pc = 133 then xo_iconst 0 133 1 lv st M else none)) else (if pc < 137 then (if pc = 134 then xo_goto 15 134 lv st M else none) else (if pc = 137 then xo_iload 4 137 2 lv st M else none)))))) else (if pc < 161 then (if pc < 152 then (if pc < 145 then (if pc < 141 then (if pc = 139 then xo_iconst 112 139 2 lv st M else none) else (if pc < 144 then (if pc = 141 then xo_icmp .ne 7 141 3 lv st M else none) else (if pc = 144 then xo_iconst 1 144 1 lv st M else none))) else (if pc < 148 then (if pc = 145 then xo_goto 4 145 lv st M else none) else (if pc < 149 then (if pc = 148 then xo_iconst (-1) 148 1 lv st M else none) else (if pc = 149 then xo_call true 85 81 st else none)))) else (if pc < 155 then (if pc < 153 then (if pc = 152 then xo_aload 0 152 1 lv st M else none) else (if pc < 154 then (if pc = 153 then xo_iload 2 153 1 lv st M else none) else (if pc = 154 then xo_iload 3 154 1 lv st M else none))) else (if pc < 159 then (if pc < 156 then (if pc = 155 then xo_iload 1 155 1 lv st M else none) else (if pc = 156 then xo_call true 85 82 st else none)) else (if pc < 160 then (if pc = 159 then xo_iload 1 159 1 lv st M else none) else (if pc = 160 then xo_aload 0 160 1 lv st M else none))))) else (if pc < 169 then (if pc < 166 then (if pc < 162 then (if pc = 161 then xo_iload 3 161 1 lv st M else none) else (if pc < 165 then (if pc = 162 then xo_call true 85 76 st else none) else (if pc = 165 then xo_iadd 165 1 lv st M else none))) else (if pc < 167 then (if pc = 166 then xo_istore 1 166 1 lv st M else none) else (if pc < 168 then (if pc = 167 then xo_iload 2 167 1 lv st M else none) else (if pc = 168 then xo_aload 0 168 1 lv st M else none)))) else (if pc < 174 then (if pc < 170 then (if pc = 169 then xo_iload 3 169 1 lv st M else none) else (if pc < 173 then (if pc = 170 then xo_call true 85 77 st else none) else (if pc = 173 then xo_iadd 173 1 lv st M else none))) else (if pc < 178 then (if pc < 175 then (if pc = 174 then xo_istore 2 174 1 lv st M else none) else (if pc = 175 then xo_iinc 3 1 175 3 lv st M else none)) else (if pc < 181 then (if pc = 178 then xo_goto (-172) 178 lv st M else none) else (if pc = 181 then xo_ret 85 st M else none)))))))
def cd_86 (pc : Nat) (lv : XL) (st : List XV) (M : XM) : Option XN := if pc < 26 then (if pc < 10 then (if pc < 4 then (if pc < 2 then (if pc < 1 then (if pc = 0 then xo_iconst 0 0 1 lv st M else none) else (if pc = 1 then xo_istore 1 1 1 lv st M else none)) else (if pc < 3 then (if pc = 2 then xo_iconst 0 2 1 lv st M else none) else (if pc = 3 then xo_istore 2 3 1 lv st M else none))) else (if pc < 6 then (if pc < 5 then (if pc = 4 then xo_iload 2 4 1 lv st M else none) else (if pc = 5 then xo_aload 0 5 1 lv st M else none)) else (if pc < 9 then (if pc = 6 then xo_getf 8 9 6 3 lv st M else none) else (if pc = 9 then xo_aload 0 9 1 lv st M else none)))) else (if pc < 18 then (if pc < 14 then (if pc < 13 then (if pc = 10 then xo_getf 8 5 10 3 lv st M else none) else (if pc = 13 then xo_iald 13 1 lv st M else none)) else (if pc < 17 then (if pc = 14 then xo_icmp .ge 38 14 3 lv st M else none) else (if pc = 17 then xo_iload 1 17 1 lv st M else none))) else (if pc < 22 then (if pc < 21 then (if pc = 18 then xo_if .ne 22 18 3 lv st M else none) else (if pc = 21 then xo_aload 0 21 1 lv st M else none)) else (if pc < 25 then (if pc = 22 then xo_getf 8 28 22 3 lv st M else none) else (if pc = 25 then xo_iload 2 25 1 lv st M else none))))) else (if pc < 40 then (if pc < 34 then (if pc < 30 then (if pc < 27 then (if pc = 26 then xo_iald 26 1 lv st M else none) else (if pc = 27 then xo_if .lt 17 27 3 lv st M else none)) else (if pc < 31 then (if pc = 30 then xo_aload 0 30 1 lv st M else none) else (if pc = 31 then xo_getf 8 28 31 3 lv st M else none))) else (if pc < 36 then (if pc < 35 then (if pc = 34 then xo_iload 2 34 1 lv st M else none) else (if pc = 35 then xo_iald 35 1 lv st M else none)) else (if pc < 37 then (if pc = 36 then xo_iload 2 36 1 lv st M else none) else (if pc = 37 then xo_icmp .eq 7 37 3 lv st M else none)))) else (if pc < 46 then (if pc < 44 then (if pc < 41 then (if pc = 40 then xo_iconst 1 40 1 lv st M else none) else (if pc = 41 then xo_goto 4 41 lv st M else none)) else (if pc < 45 then (if pc = 44 then xo_iconst 0 44 1 lv st M else none) else (if pc = 45 then xo_istore 1 45 1 lv st M else none))) else (if pc < 52 then (if pc < 49 then (if pc = 46 then xo_iinc 2 1 46 3 lv st M else none) else (if pc = 49 then xo_goto (-45) 49 lv st M else none)) else (if pc < 53 then (if pc = 52 then xo_iload 1 52 1 lv st M else none) else (if pc = 53 then xo_ret 86 st M else none)))))
def cd_87 (pc : Nat) (lv : XL) (st : List XV) (M : XM) : Option XN := if pc < 31 then (if pc < 15 then (if pc < 4 then (if pc < 2 then (if pc < 1 then (if pc = 0 then xo_iconst 0 0 1 lv st M else none) else (if pc = 1 then xo_istore 1 1 1 lv st M else none)) else (if pc < 3 then (if pc = 2 then xo_iload 1 2 1 lv st M else none) else (if pc = 3 then xo_aload 0 3 1 lv st M else none))) else (if pc < 8 then (if pc < 7 then (if pc = 4 then xo_getf 8 9 4 3 lv st M else none) else (if pc = 7 then xo_aload 0 7 1 lv st M else none)) else (if pc < 11 then (if pc = 8 then xo_getf 8 5 8 3 lv st M else none) else (if pc < 12 then (if pc = 11 then xo_iald 11 1 lv st M else none) else (if pc = 12 then xo_icmp .ge 51 12 3 lv st M else none))))) else (if pc < 24 then (if pc < 19 then (if pc < 16 then (if pc = 15 then xo_aload 0 15 1 lv st M else none) else (if pc = 16 then xo_getf 8 28 16 3 lv st M else none)) else (if pc < 20 then (if pc = 19 then xo_iload 1 19 1 lv st M else none) else (if pc < 21 then (if pc = 20 then xo_iald 20 1 lv st M else none) else (if pc = 21 then xo_if .lt 36 21 3 lv st M else none)))) else (if pc < 28 then (if pc < 25 then (if pc = 24 then xo_aload 0 24 1 lv st M else none) else (if pc = 25 then xo_getf 8 28 25 3 lv st M else none)) else (if pc < 29 then (if pc = 28 then xo_iload 1 28 1 lv st M else none) else (if pc < 30 then (if pc = 29 then xo_iald 29 1 lv st M else none) else (if pc = 30 then xo_iload 1 30 1 lv st M else none)))))) else (if pc < 47 then (if pc < 39 then (if pc < 34 then (if pc < 32 then (if pc = 31 then xo_isub 31 1 lv st M else none) else (if pc = 32 then xo_iconst 8 32 2 lv st M else none)) else (if pc < 37 then (if pc = 34 then xo_icmp .gt 16 34 3 lv st M else none) else (if pc < 38 then (if pc = 37 then xo_iload 1 37 1 lv st M else none) else (if pc = 38 then xo_aload 0 38 1 lv st M else none)))) else (if pc < 43 then (if pc < 42 then (if pc = 39 then xo_getf 8 28 39 3 lv st M else none) else (if pc = 42 then xo_iload 1 42 1 lv st M else none)) else (if pc < 44 then (if pc = 43 then xo_iald 43 1 lv st M else none) else (if pc < 45 then (if pc = 44 then xo_isub 44 1 lv st M else none) else (if pc = 45 then xo_iconst 8 45 2 lv st M else none))))) else (if pc < 56 then (if pc < 51 then (if pc < 50 then (if pc = 47 then xo_icmp .le 10 47 3 lv st M else none) else (if pc = 50 then xo_aload 0 50 1 lv st M else none)) else (if pc < 54 then (if pc = 51 then xo_getf 8 31 51 3 lv st M else none) else (if pc < 55 then (if pc = 54 then xo_iload 1 54 1 lv st M else none) else (if pc = 55 then xo_iald 55 1 lv st M else none)))) else (if pc < 60 then (if pc < 57 then (if pc = 56 then xo_ret 87 st M else none) else (if pc = 57 then xo_iinc 1 1 57 3 lv st M else none)) else (if pc < 63 then (if pc = 60 then xo_goto (-58) 60 lv st M else none) else (if pc < 64 then (if pc = 63 then xo_iconst (-1) 63 1 lv st M else none) else (if pc = 64 then xo_ret 87 st M else none))))))
def cd_88 (pc : Nat) (lv : XL) (st : List XV) (M : XM) : Option XN := if pc < 15 then (if pc < 5 then (if pc < 2 then (if pc < 1 then (if pc = 0 then xo_iconst 0 0 1 lv st M else none) else (if pc = 1 then xo_istore 2 1 1 lv st M else none)) else (if pc < 3 then (if pc = 2 then xo_iconst 0 2 1 lv st M else none) else (if pc < 4 then (if pc = 3 then xo_istore 3 3 1 lv st M else none) else (if pc = 4 then xo_iload 3 4 1 lv st M else none)))) else (if pc < 10 then (if pc < 6 then (if pc = 5 then xo_iload 1 5 1 lv st M else none) else (if pc < 9 then (if pc = 6 then xo_icmp .ge 28 6 3 lv st M else none) else (if pc = 9 then xo_aload 0 9 1 lv st M else none))) else (if pc < 13 then (if pc = 10 then xo_getf 8 32 10 3 lv st M else none) else (if pc < 14 then (if pc = 13 then xo_iload 3 13 1 lv st M else none) else (if pc = 14 then xo_iald 14 1 lv st M else none))))) else (if pc < 26 then (if pc < 21 then (if pc < 17 then (if pc = 15 then xo_iconst 109 15 2 lv st M else none) else (if pc < 20 then (if pc = 17 then xo_icmp .ne 7 17 3 lv st M else none) else (if pc = 20 then xo_iload 2 20 1 lv st M else none))) else (if pc < 24 then (if pc = 21 then xo_goto 6 21 lv st M else none) else (if pc < 25 then (if pc = 24 then xo_iload 2 24 1 lv st M else none) else (if pc = 25 then xo_iconst 1 25 1 lv st M else none)))) else (if pc < 31 then (if pc < 27 then (if pc = 26 then xo_iadd 26 1 lv st M else none) else (if pc < 28 then (if pc = 27 then xo_istore 2 27 1 lv st M else none) else (if pc = 28 then xo_iinc 3 1 28 3 lv st M else none))) else (if pc < 34 then (if pc = 31 then xo_goto (-27) 31 lv st M else none) else (if pc < 35 then (if pc = 34 then xo_iload 2 34 1 lv st M else none) else (if pc = 35 then xo_ret 88 st M else none)))))
def cd_89 (pc : Nat) (lv : XL) (st : List XV) (M : XM) : Option XN := if pc < 94 then (if pc < 43 then (if pc < 19 then (if pc < 8 then (if pc < 3 then (if pc < 1 then (if pc = 0 then xo_iconst 0 0 1 lv st M else none) else (if pc < 2 then (if pc = 1 then xo_istore 1 1 1 lv st M else none) else (if pc = 2 then xo_aload 0 2 1 lv st M else none))) else (if pc < 6 then (if pc = 3 then xo_call true 89 86 st else none) else (if pc < 7 then (if pc = 6 then xo_istore 2 6 1 lv st M else none) else (if pc = 7 then xo_iconst 0 7 1 lv st M else none)))) else (if pc < 11 then (if pc < 9 then (if pc = 8 then xo_istore 3 8 1 lv st M else none) else (if pc < 10 then (if pc = 9 then xo_iload 3 9 1 lv st M else none) else (if pc = 10 then xo_aload 0 10 1 lv st M else none))) else (if pc < 15 then (if pc < 14 then (if pc = 11 then xo_getf 8 9 11 3 lv st M else none) else (if pc = 14 then xo_aload 0 14 1 lv st M else none)) else (if pc < 18 then (if pc = 15 then xo_getf 8 5 15 3 lv st M else none) else (if pc = 18 then xo_iald 18 1 lv st M else none))))) else (if pc < 33 then (if pc < 26 then (if pc < 22 then (if pc = 19 then xo_icmp .ge 92 19 3 lv st M else none) else (if pc < 23 then (if pc = 22 then xo_aload 0 22 1 lv st M else none) else (if pc = 23 then xo_getf 8 8 23 3 lv st M else none))) else (if pc < 29 then (if pc < 28 then (if pc = 26 then xo_iconst 16 26 2 lv st M else none) else (if pc = 28 then xo_aload 0 28 1 lv st M else none)) else (if pc < 32 then (if pc = 29 then xo_getf 8 5 29 3 lv st M else none) else (if pc = 32 then xo_imul 32 1 lv st M else none)))) else (if pc < 36 then (if pc < 34 then (if pc = 33 then xo_iload 3 33 1 lv st M else none) else (if pc < 35 then (if pc = 34 then xo_iadd 34 1 lv st M else none) else (if pc = 35 then xo_iald 35 1 lv st M else none))) else (if pc < 39 then (if pc < 38 then (if pc = 36 then xo_istore 4 36 2 lv st M else none) else (if pc = 38 then xo_aload 0 38 1 lv st M else none)) else (if pc < 42 then (if pc = 39 then xo_getf 8 30 39 3 lv st M else none) else (if pc = 42 then xo_iload 3 42 1 lv st M else none)))))) else (if pc < 69 then (if pc < 57 then (if pc < 49 then (if pc < 44 then (if pc = 43 then xo_iald 43 1 lv st M else none) else (if pc < 47 then (if pc = 44 then xo_if .ge 8 44 3 lv st M else none) else (if pc = 47 then xo_iload 4 47 2 lv st M else none))) else (if pc < 53 then (if pc < 52 then (if pc = 49 then xo_goto 9 49 lv st M else none) else (if pc = 52 then xo_aload 0 52 1 lv st M else none)) else (if pc < 56 then (if pc = 53 then xo_getf 8 30 53 3 lv st M else none) else (if pc = 56 then xo_iload 3 56 1 lv st M else none)))) else (if pc < 61 then (if pc < 58 then (if pc = 57 then xo_iald 57 1 lv st M else none) else (if pc < 60 then (if pc = 58 then xo_istore 5 58 2 lv st M else none) else (if pc = 60 then xo_aload 0 60 1 lv st M else none))) else (if pc < 65 then (if pc < 64 then (if pc = 61 then xo_getf 8 28 61 3 lv st M else none) else (if pc = 64 then xo_iload 3 64 1 lv st M else none)) else (if pc < 66 then (if pc = 65 then xo_iald 65 1 lv st M else none) else (if pc = 66 then xo_if .lt 39 66 3 lv st M else none))))) else (if pc < 83 then (if pc < 74 then (if pc < 70 then (if pc = 69 then xo_iload 2 69 1 lv st M else none) else (if pc < 73 then (if pc = 70 then xo_if .eq 20 70 3 lv st M else none) else (if pc = 73 then xo_iload 1 73 1 lv st M else none))) else (if pc < 79 then (if pc < 76 then (if pc = 74 then xo_iload 4 74 2 lv st M else none) else (if pc = 76 then xo_if .ne 7 76 3 lv st M else none)) else (if pc < 80 then (if pc = 79 then xo_iconst 1 79 1 lv st M else none) else (if pc = 80 then xo_goto 4 80 lv st M else none)))) else (if pc < 86 then (if pc < 84 then (if pc = 83 then xo_iconst 0 83 1 lv st M else none) else (if pc < 85 then (if pc = 84 then xo_iadd 84 1 lv st M else none) else (if pc = 85 then xo_iconst 1 85 1 lv st M else none))) else (if pc < 90 then (if pc < 87 then (if pc = 86 then xo_iadd 86 1 lv st M else none) else (if pc = 87 then xo_goto 17 87 lv st M else none)) else (if pc < 92 then (if pc = 90 then xo_iload 4 90 2 lv st M else none) else (if pc = 92 then xo_iload 5 92 2 lv st M else none))))))) else (if pc < 144 then (if pc < 118 then (if pc < 105 then (if pc < 99 then (if pc < 97 then (if pc = 94 then xo_icmp .eq 9 94 3 lv st M else none) else (if pc < 98 then (if pc = 97 then xo_iload 1 97 1 lv st M else none) else (if pc = 98 then xo_iconst 1 98 1 lv st M else none))) else (if pc < 103 then (if pc < 100 then (if pc = 99 then xo_iadd 99 1 lv st M else none) else (if pc = 100 then xo_goto 4 100 lv st M else none)) else (if pc < 104 then (if pc = 103 then xo_iload 1 103 1 lv st M else none) else (if pc = 104 then xo_istore 1 104 1 lv st M else none)))) else (if pc < 112 then (if pc < 108 then (if pc = 105 then xo_iinc 3 1 105 3 lv st M else none) else (if pc < 111 then (if pc = 108 then xo_goto (-99) 108 lv st M else none) else (if pc = 111 then xo_iconst 0 111 1 lv st M else none))) else (if pc < 114 then (if pc < 113 then (if pc = 112 then xo_istore 3 112 1 lv st M else none) else (if pc = 113 then xo_iload 3 113 1 lv st M else none)) else (if pc < 115 then (if pc = 114 then xo_aload 0 114 1 lv st M else none) else (if pc = 115 then xo_getf 8 9 115 3 lv st M else none))))) else (if pc < 131 then (if pc < 123 then (if pc < 119 then (if pc = 118 then xo_aload 0 118 1 lv st M else none) else (if pc < 122 then (if pc = 119 then xo_getf 8 5 119 3 lv st M else none) else (if pc = 122 then xo_iald 122 1 lv st M else none))) else (if pc < 127 then (if pc < 126 then (if pc = 123 then xo_icmp .ge 66 123 3 lv st M else none) else (if pc = 126 then xo_iload 2 126 1 lv st M else none)) else (if pc < 130 then (if pc = 127 then xo_if .eq 62 127 3 lv st M else none) else (if pc = 130 then xo_aload 0 130 1 lv st M else none)))) else (if pc < 136 then (if pc < 134 then (if pc = 131 then xo_getf 8 28 131 3 lv st M else none) else (if pc < 135 then (if pc = 134 then xo_iload 3 134 1 lv st M else none) else (if pc = 135 then xo_iald 135 1 lv st M else none))) else (if pc < 140 then (if pc < 139 then (if pc = 136 then xo_if .lt 45 136 3 lv st M else none) else (if pc = 139 then xo_aload 0 139 1 lv st M else none)) else (if pc < 143 then (if pc = 140 then xo_getf 8 30 140 3 lv st M else none) else (if pc = 143 then xo_iload 3 143 1 lv st M else none)))))) else (if pc < 169 then (if pc < 158 then (if pc < 149 then (if pc < 145 then (if pc = 144 then xo_iald 144 1 lv st M else none) else (if pc < 148 then (if pc = 145 then xo_if .ge 20 145 3 lv st M else none) else (if pc = 148 then xo_aload 0 148 1 lv st M else none))) else (if pc < 154 then (if pc < 152 then (if pc = 149 then xo_getf 8 8 149 3 lv st M else none) else (if pc = 152 then xo_iconst 16 152 2 lv st M else none)) else (if pc < 155 then (if pc = 154 then xo_aload 0 154 1 lv st M else none) else (if pc = 155 then xo_getf 8 5 155 3 lv st M else none)))) else (if pc < 161 then (if pc < 159 then (if pc = 158 then xo_imul 158 1 lv st M else none) else (if pc < 160 then (if pc = 159 then xo_iload 3 159 1 lv st M else none) else (if pc = 160 then xo_iadd 160 1 lv st M else none))) else (if pc < 165 then (if pc < 162 then (if pc = 161 then xo_iald 161 1 lv st M else none) else (if pc = 162 then xo_goto 9 162 lv st M else none)) else (if pc < 166 then (if pc = 165 then xo_aload 0 165 1 lv st M else none) else (if pc = 166 then xo_getf 8 30 166 3 lv st M else none))))) else (if pc < 178 then (if pc < 172 then (if pc < 170 then (if pc = 169 then xo_iload 3 169 1 lv st M else none) else (if pc < 171 then (if pc = 170 then xo_iald 170 1 lv st M else none) else (if pc = 171 then xo_iconst 1 171 1 lv st M else none))) else (if pc < 176 then (if pc < 175 then (if pc = 172 then xo_icmp .ne 9 172 3 lv st M else none) else (if pc = 175 then xo_iload 1 175 1 lv st M else none)) else (if pc < 177 then (if pc = 176 then xo_iconst 1 176 1 lv st M else none) else (if pc = 177 then xo_iadd 177 1 lv st M else none)))) else (if pc < 183 then (if pc < 181 then (if pc = 178 then xo_goto 4 178 lv st M else none) else (if pc < 182 then (if pc = 181 then xo_iload 1 181 1 lv st M else none) else (if pc = 182 then xo_istore 1 182 1 lv st M else none))) else (if pc < 189 then (if pc < 186 then (if pc = 183 then xo_iinc 3 1 183 3 lv st M else none) else (if pc = 186 then xo_goto (-73) 186 lv st M else none)) else (if pc < 190 then (if pc = 189 then xo_iload 1 189 1 lv st M else none) else (if pc = 190 then xo_ret 89 st M else none)))))))
def cd_90 (pc : Nat) (lv : XL) (st : List XV) (M : XM) : Option XN := if pc < 65 then (if pc < 30 then (if pc < 12 then (if pc < 4 then (if pc < 2 then (if pc < 1 then (if pc = 0 then xo_iconst 0 0 1 lv st M else none) else (if pc = 1 then xo_istore 1 1 1 lv st M else none)) else (if pc < 3 then (if pc = 2 then xo_iconst 0 2 1 lv st M else none) else (if pc = 3 then xo_istore 2 3 1 lv st M else none))) else (if pc < 8 then (if pc < 5 then (if pc = 4 then xo_aload 0 4 1 lv st M else none) else (if pc = 5 then xo_call true 90 86 st else none)) else (if pc < 9 then (if pc = 8 then xo_istore 3 8 1 lv st M else none) else (if pc < 10 then (if pc = 9 then xo_iconst 0 9 1 lv st M else none) else (if pc = 10 then xo_istore 4 10 2 lv st M else none))))) else (if pc < 20 then (if pc < 16 then (if pc < 14 then (if pc = 12 then xo_iload 4 12 2 lv st M else none) else (if pc = 14 then xo_iconst 32 14 2 lv st M else none)) else (if pc < 19 then (if pc = 16 then xo_icmp .ge 99 16 3 lv st M else none) else (if pc = 19 then xo_iload 3 19 1 lv st M else none))) else (if pc < 25 then (if pc < 23 then (if pc = 20 then xo_if .eq 95 20 3 lv st M else none) else (if pc = 23 then xo_iload 4 23 2 lv st M else none)) else (if pc < 27 then (if pc = 25 then xo_iconst 16 25 2 lv st M else none) else (if pc < 28 then (if pc = 27 then xo_irem 27 1 lv st M else none) else (if pc = 28 then xo_istore 5 28 2 lv st M else none)))))) else (if pc < 48 then (if pc < 37 then (if pc < 33 then (if pc < 32 then (if pc = 30 then xo_iload 5 30 2 lv st M else none) else (if pc = 32 then xo_aload 0 32 1 lv st M else none)) else (if pc < 36 then (if pc = 33 then xo_getf 8 9 33 3 lv st M else none) else (if pc = 36 then xo_aload 0 36 1 lv st M else none))) else (if pc < 41 then (if pc < 40 then (if pc = 37 then xo_getf 8 5 37 3 lv st M else none) else (if pc = 40 then xo_iald 40 1 lv st M else none)) else (if pc < 44 then (if pc = 41 then xo_icmp .ge 68 41 3 lv st M else none) else (if pc < 45 then (if pc = 44 then xo_aload 0 44 1 lv st M else none) else (if pc = 45 then xo_getf 8 28 45 3 lv st M else none))))) else (if pc < 55 then (if pc < 51 then (if pc < 50 then (if pc = 48 then xo_iload 5 48 2 lv st M else none) else (if pc = 50 then xo_iald 50 1 lv st M else none)) else (if pc < 54 then (if pc = 51 then xo_if .lt 58 51 3 lv st M else none) else (if pc = 54 then xo_aload 0 54 1 lv st M else none))) else (if pc < 60 then (if pc < 58 then (if pc = 55 then xo_getf 8 29 55 3 lv st M else none) else (if pc = 58 then xo_iload 5 58 2 lv st M else none)) else (if pc < 61 then (if pc = 60 then xo_bald 60 1 lv st M else none) else (if pc < 63 then (if pc = 61 then xo_iload 4 61 2 lv st M else none) else (if pc = 63 then xo_iconst 16 63 2 lv st M else none))))))) else (if pc < 97 then (if pc < 83 then (if pc < 73 then (if pc < 69 then (if pc < 68 then (if pc = 65 then xo_icmp .lt 7 65 3 lv st M else none) else (if pc = 68 then xo_iconst 1 68 1 lv st M else none)) else (if pc < 72 then (if pc = 69 then xo_goto 4 69 lv st M else none) else (if pc = 72 then xo_iconst 0 72 1 lv st M else none))) else (if pc < 77 then (if pc < 76 then (if pc = 73 then xo_icmp .ne 36 73 3 lv st M else none) else (if pc = 76 then xo_aload 0 76 1 lv st M else none)) else (if pc < 80 then (if pc = 77 then xo_getf 8 28 77 3 lv st M else none) else (if pc < 82 then (if pc = 80 then xo_iload 5 80 2 lv st M else none) else (if pc = 82 then xo_iald 82 1 lv st M else none))))) else (if pc < 90 then (if pc < 86 then (if pc < 85 then (if pc = 83 then xo_iload 5 83 2 lv st M else none) else (if pc = 85 then xo_isub 85 1 lv st M else none)) else (if pc < 87 then (if pc = 86 then xo_iload 2 86 1 lv st M else none) else (if pc = 87 then xo_icmp .eq 9 87 3 lv st M else none))) else (if pc < 92 then (if pc < 91 then (if pc = 90 then xo_iload 1 90 1 lv st M else none) else (if pc = 91 then xo_iconst 1 91 1 lv st M else none)) else (if pc < 93 then (if pc = 92 then xo_iadd 92 1 lv st M else none) else (if pc < 96 then (if pc = 93 then xo_goto 4 93 lv st M else none) else (if pc = 96 then xo_iload 1 96 1 lv st M else none)))))) else (if pc < 112 then (if pc < 104 then (if pc < 99 then (if pc < 98 then (if pc = 97 then xo_istore 1 97 1 lv st M else none) else (if pc = 98 then xo_aload 0 98 1 lv st M else none)) else (if pc < 102 then (if pc = 99 then xo_getf 8 28 99 3 lv st M else none) else (if pc = 102 then xo_iload 5 102 2 lv st M else none))) else (if pc < 107 then (if pc < 105 then (if pc = 104 then xo_iald 104 1 lv st M else none) else (if pc = 105 then xo_iload 5 105 2 lv st M else none)) else (if pc < 108 then (if pc = 107 then xo_isub 107 1 lv st M else none) else (if pc < 109 then (if pc = 108 then xo_istore 2 108 1 lv st M else none) else (if pc = 109 then xo_iinc 4 1 109 3 lv st M else none))))) else (if pc < 120 then (if pc < 116 then (if pc < 115 then (if pc = 112 then xo_goto (-100) 112 lv st M else none) else (if pc = 115 then xo_iload 2 115 1 lv st M else none)) else (if pc < 119 then (if pc = 116 then xo_if .eq 9 116 3 lv st M else none) else (if pc = 119 then xo_iload 1 119 1 lv st M else none))) else (if pc < 122 then (if pc < 121 then (if pc = 120 then xo_iconst 1 120 1 lv st M else none) else (if pc = 121 then xo_iadd 121 1 lv st M else none)) else (if pc < 125 then (if pc = 122 then xo_goto 4 122 lv st M else none) else (if pc < 126 then (if pc = 125 then xo_iload 1 125 1 lv st M else none) else (if pc = 126 then xo_ret 90 st M else none)))))))
def cd_91 (pc : Nat) (lv : XL) (st : List XV) (M : XM) : Option XN := if pc < 21 then (if pc < 6 then (if pc < 3 then (if pc < 1 then (if pc = 0 then xo_iconst 0 0 1 lv st M else none) else (if pc < 2 then (if pc = 1 then xo_istore 1 1 1 lv st M else none) else (if pc = 2 then xo_iconst 0 2 1 lv st M else none))) else (if pc < 4 then (if pc = 3 then xo_istore 2 3 1 lv st M else none) else (if pc < 5 then (if pc = 4 then xo_iload 2 4 1 lv st M else none) else (if pc = 5 then xo_aload 0 5 1 lv st M else none)))) else (if pc < 13 then (if pc < 9 then (if pc = 6 then xo_getf 8 9 6 3 lv st M else none) else (if pc < 10 then (if pc = 9 then xo_aload 0 9 1 lv st M else none) else (if pc = 10 then xo_getf 8 5 10 3 lv st M else none))) else (if pc < 17 then (if pc < 14 then (if pc = 13 then xo_iald 13 1 lv st M else none) else (if pc = 14 then xo_icmp .ge 26 14 3 lv st M else none)) else (if pc < 18 then (if pc = 17 then xo_aload 0 17 1 lv st M else none) else (if pc = 18 then xo_getf 8 28 18 3 lv st M else none))))) else (if pc < 29 then (if pc < 26 then (if pc < 22 then (if pc = 21 then xo_iload 2 21 1 lv st M else none) else (if pc < 23 then (if pc = 22 then xo_iald 22 1 lv st M else none) else (if pc = 23 then xo_if .ge 9 23 3 lv st M else none))) else (if pc < 27 then (if pc = 26 then xo_iload 1 26 1 lv st M else none) else (if pc < 28 then (if pc = 27 then xo_iconst 1 27 1 lv st M else none) else (if pc = 28 then xo_iadd 28 1 lv st M else none)))) else (if pc < 34 then (if pc < 32 then (if pc = 29 then xo_goto 4 29 lv st M else none) else (if pc < 33 then (if pc = 32 then xo_iload 1 32 1 lv st M else none) else (if pc = 33 then xo_istore 1 33 1 lv st M else none))) else (if pc < 40 then (if pc < 37 then (if pc = 34 then xo_iinc 2 1 34 3 lv st M else none) else (if pc = 37 then xo_goto (-33) 37 lv st M else none)) else (if pc < 41 then (if pc = 40 then xo_iload 1 40 1 lv st M else none) else (if pc = 41 then xo_ret 91 st M else none)))))
def cd_92 (pc : Nat) (lv : XL) (st : List XV) (M : XM) : Option XN := if pc < 181 then (if pc < 88 then (if pc < 50 then (if pc < 22 then (if pc < 8 then (if pc < 5 then (if pc < 1 then (if pc = 0 then xo_aload 0 0 1 lv st M else none) else (if pc < 4 then (if pc = 1 then xo_getf 8 5 1 3 lv st M else none) else (if pc = 4 then xo_iconst 1 4 1 lv st M else none))) else (if pc < 6 then (if pc = 5 then xo_iadd 5 1 lv st M else none) else (if pc < 7 then (if pc = 6 then xo_istore 3 6 1 lv st M else none) else (if pc = 7 then xo_aload 0 7 1 lv st M else none)))) else (if pc < 13 then (if pc < 11 then (if pc = 8 then xo_getf 8 32 8 3 lv st M else none) else (if pc < 12 then (if pc = 11 then xo_iload 1 11 1 lv st M else none) else (if pc = 12 then xo_iald 12 1 lv st M else none))) else (if pc < 17 then (if pc < 15 then (if pc = 13 then xo_istore 4 13 2 lv st M else none) else (if pc = 15 then xo_iload 4 15 2 lv st M else none)) else (if pc < 19 then (if pc = 17 then xo_iconst 112 17 2 lv st M else none) else (if pc = 19 then xo_icmp .ne 7 19 3 lv st M else none))))) else (if pc < 35 then (if pc < 28 then (if pc < 23 then (if pc = 22 then xo_iconst 1 22 1 lv st M else none) else (if pc < 26 then (if pc = 23 then xo_goto 42 23 lv st M else none) else (if pc = 26 then xo_iload 4 26 2 lv st M else none))) else (if pc < 30 then (if pc = 28 then xo_iconst 116 28 2 lv st M else none) else (if pc < 33 then (if pc = 30 then xo_icmp .eq 10 30 3 lv st M else none) else (if pc = 33 then xo_iload 4 33 2 lv st M else none)))) else (if pc < 41 then (if pc < 37 then (if pc = 35 then xo_iconst 109 35 2 lv st M else none) else (if pc < 40 then (if pc = 37 then xo_icmp .ne 27 37 3 lv st M else none) else (if pc = 40 then xo_aload 0 40 1 lv st M else none))) else (if pc < 46 then (if pc < 44 then (if pc = 41 then xo_getf 8 8 41 3 lv st M else none) else (if pc = 44 then xo_iconst 16 44 2 lv st M else none)) else (if pc < 47 then (if pc = 46 then xo_aload 0 46 1 lv st M else none) else (if pc = 47 then xo_getf 8 5 47 3 lv st M else none)))))) else (if pc < 68 then (if pc < 58 then (if pc < 55 then (if pc < 51 then (if pc = 50 then xo_imul 50 1 lv st M else none) else (if pc < 52 then (if pc = 51 then xo_aload 0 51 1 lv st M else none) else (if pc = 52 then xo_getf 8 34 52 3 lv st M else none))) else (if pc < 56 then (if pc = 55 then xo_iconst 3 55 1 lv st M else none) else (if pc < 57 then (if pc = 56 then xo_iload 1 56 1 lv st M else none) else (if pc = 57 then xo_imul 57 1 lv st M else none)))) else (if pc < 61 then (if pc < 59 then (if pc = 58 then xo_iald 58 1 lv st M else none) else (if pc < 60 then (if pc = 59 then xo_iadd 59 1 lv st M else none) else (if pc = 60 then xo_iald 60 1 lv st M else none))) else (if pc < 65 then (if pc < 64 then (if pc = 61 then xo_goto 4 61 lv st M else none) else (if pc = 64 then xo_iconst 0 64 1 lv st M else none)) else (if pc < 67 then (if pc = 65 then xo_istore 5 65 2 lv st M else none) else (if pc = 67 then xo_iconst 0 67 1 lv st M else none))))) else (if pc < 77 then (if pc < 73 then (if pc < 70 then (if pc = 68 then xo_istore 6 68 2 lv st M else none) else (if pc < 72 then (if pc = 70 then xo_iconst 64 70 2 lv st M else none) else (if pc = 72 then xo_iload 3 72 1 lv st M else none))) else (if pc < 75 then (if pc < 74 then (if pc = 73 then xo_imul 73 1 lv st M else none) else (if pc = 74 then xo_iconst 4 74 1 lv st M else none)) else (if pc < 76 then (if pc = 75 then xo_iload 1 75 1 lv st M else none) else (if pc = 76 then xo_imul 76 1 lv st M else none)))) else (if pc < 81 then (if pc < 78 then (if pc = 77 then xo_iadd 77 1 lv st M else none) else (if pc < 80 then (if pc = 78 then xo_istore 7 78 2 lv st M else none) else (if pc = 80 then xo_aload 0 80 1 lv st M else none))) else (if pc < 85 then (if pc < 84 then (if pc = 81 then xo_getf 8 10 81 3 lv st M else none) else (if pc = 84 then xo_iload 3 84 1 lv st M else none)) else (if pc < 86 then (if pc = 85 then xo_iald 85 1 lv st M else none) else (if pc = 86 then xo_istore 8 86 2 lv st M else none))))))) else (if pc < 133 then (if pc < 109 then (if pc < 98 then (if pc < 93 then (if pc < 89 then (if pc = 88 then xo_iconst 0 88 1 lv st M else none) else (if pc < 91 then (if pc = 89 then xo_istore 9 89 2 lv st M else none) else (if pc = 91 then xo_iload 9 91 2 lv st M else none))) else (if pc < 94 then (if pc = 93 then xo_aload 0 93 1 lv st M else none) else (if pc < 97 then (if pc = 94 then xo_getf 8 33 94 3 lv st M else none) else (if pc = 97 then xo_iload 1 97 1 lv st M else none)))) else (if pc < 103 then (if pc < 99 then (if pc = 98 then xo_iald 98 1 lv st M else none) else (if pc < 102 then (if pc = 99 then xo_icmp .ge 110 99 3 lv st M else none) else (if pc = 102 then xo_aload 0 102 1 lv st M else none))) else (if pc < 107 then (if pc < 106 then (if pc = 103 then xo_getf 8 34 103 3 lv st M else none) else (if pc = 106 then xo_iconst 3 106 1 lv st M else none)) else (if pc < 108 then (if pc = 107 then xo_iload 1 107 1 lv st M else none) else (if pc = 108 then xo_imul 108 1 lv st M else none))))) else (if pc < 118 then (if pc < 113 then (if pc < 111 then (if pc = 109 then xo_iload 9 109 2 lv st M else none) else (if pc < 112 then (if pc = 111 then xo_iadd 111 1 lv st M else none) else (if pc = 112 then xo_iald 112 1 lv st M else none))) else (if pc < 115 then (if pc = 113 then xo_istore 10 113 2 lv st M else none) else (if pc < 116 then (if pc = 115 then xo_iconst 0 115 1 lv st M else none) else (if pc = 116 then xo_istore 11 116 2 lv st M else none)))) else (if pc < 123 then (if pc < 120 then (if pc = 118 then xo_iload 11 118 2 lv st M else none) else (if pc < 121 then (if pc = 120 then xo_aload 0 120 1 lv st M else none) else (if pc = 121 then xo_iload 10 121 2 lv st M else none))) else (if pc < 129 then (if pc < 126 then (if pc = 123 then xo_call true 92 79 st else none) else (if pc = 126 then xo_icmp .ge 77 126 3 lv st M else none)) else (if pc < 130 then (if pc = 129 then xo_aload 0 129 1 lv st M else none) else (if pc = 130 then xo_getf 8 6 130 3 lv st M else none)))))) else (if pc < 153 then (if pc < 143 then (if pc < 139 then (if pc < 135 then (if pc = 133 then xo_iconst 64 133 2 lv st M else none) else (if pc < 136 then (if pc = 135 then xo_aload 0 135 1 lv st M else none) else (if pc = 136 then xo_getf 8 5 136 3 lv st M else none))) else (if pc < 140 then (if pc = 139 then xo_imul 139 1 lv st M else none) else (if pc < 141 then (if pc = 140 then xo_iconst 4 140 1 lv st M else none) else (if pc = 141 then xo_iload 10 141 2 lv st M else none)))) else (if pc < 147 then (if pc < 144 then (if pc = 143 then xo_imul 143 1 lv st M else none) else (if pc < 145 then (if pc = 144 then xo_iadd 144 1 lv st M else none) else (if pc = 145 then xo_iload 11 145 2 lv st M else none))) else (if pc < 149 then (if pc < 148 then (if pc = 147 then xo_iadd 147 1 lv st M else none) else (if pc = 148 then xo_iald 148 1 lv st M else none)) else (if pc < 151 then (if pc = 149 then xo_istore 12 149 2 lv st M else none) else (if pc = 151 then xo_iload 4 151 2 lv st M else none))))) else (if pc < 169 then (if pc < 160 then (if pc < 155 then (if pc = 153 then xo_iconst 116 153 2 lv st M else none) else (if pc < 158 then (if pc = 155 then xo_icmp .eq 10 155 3 lv st M else none) else (if pc = 158 then xo_iload 4 158 2 lv st M else none))) else (if pc < 165 then (if pc < 162 then (if pc = 160 then xo_iconst 109 160 2 lv st M else none) else (if pc = 162 then xo_icmp .ne 18 162 3 lv st M else none)) else (if pc < 166 then (if pc = 165 then xo_aload 0 165 1 lv st M else none) else (if pc = 166 then xo_getf 8 6 166 3 lv st M else none)))) else (if pc < 174 then (if pc < 171 then (if pc = 169 then xo_iload 7 169 2 lv st M else none) else (if pc < 173 then (if pc = 171 then xo_iload 6 171 2 lv st M else none) else (if pc = 173 then xo_iadd 173 1 lv st M else none))) else (if pc < 177 then (if pc < 176 then (if pc = 174 then xo_iload 12 174 2 lv st M else none) else (if pc = 176 then xo_iast 176 1 lv st M else none)) else (if pc < 180 then (if pc = 177 then xo_goto 17 177 lv st M else none) else (if pc = 180 then xo_aload 0 180 1 lv st M else none)))))))) else (if pc < 277 then (if pc < 230 then (if pc < 209 then (if pc < 191 then (if pc < 187 then (if pc < 184 then (if pc = 181 then xo_getf 8 16 181 3 lv st M else none) else (if pc < 185 then (if pc = 184 then xo_iconst 4 184 1 lv st M else none) else (if pc = 185 then xo_iload 8 185 2 lv st M else none))) else (if pc < 188 then (if pc = 187 then xo_imul 187 1 lv st M else none) else (if pc < 190 then (if pc = 188 then xo_iload 6 188 2 lv st M else none) else (if pc = 190 then xo_iadd 190 1 lv st M else none)))) else (if pc < 197 then (if pc < 193 then (if pc = 191 then xo_iload 12 191 2 lv st M else none) else (if pc < 194 then (if pc = 193 then xo_iast 193 1 lv st M else none) else (if pc = 194 then xo_iinc 6 1 194 3 lv st M else none))) else (if pc < 203 then (if pc < 200 then (if pc = 197 then xo_iinc 11 1 197 3 lv st M else none) else (if pc = 200 then xo_goto (-82) 200 lv st M else none)) else (if pc < 206 then (if pc = 203 then xo_iinc 9 1 203 3 lv st M else none) else (if pc = 206 then xo_goto (-115) 206 lv st M else none))))) else (if pc < 218 then (if pc < 215 then (if pc < 210 then (if pc = 209 then xo_aload 0 209 1 lv st M else none) else (if pc < 213 then (if pc = 210 then xo_getf 8 8 210 3 lv st M else none) else (if pc = 213 then xo_iconst 16 213 2 lv st M else none))) else (if pc < 216 then (if pc = 215 then xo_iload 3 215 1 lv st M else none) else (if pc < 217 then (if pc = 216 then xo_imul 216 1 lv st M else none) else (if pc = 217 then xo_iload 1 217 1 lv st M else none)))) else (if pc < 222 then (if pc < 219 then (if pc = 218 then xo_iadd 218 1 lv st M else none) else (if pc < 221 then (if pc = 219 then xo_iload 5 219 2 lv st M else none) else (if pc = 221 then xo_iast 221 1 lv st M else none))) else (if pc < 226 then (if pc < 224 then (if pc = 222 then xo_iload 4 222 2 lv st M else none) else (if pc = 224 then xo_iconst 109 224 2 lv st M else none)) else (if pc < 229 then (if pc = 226 then xo_icmp .ne 17 226 3 lv st M else none) else (if pc = 229 then xo_aload 0 229 1 lv st M else none)))))) else (if pc < 251 then (if pc < 239 then (if pc < 236 then (if pc < 233 then (if pc = 230 then xo_getf 8 7 230 3 lv st M else none) else (if pc < 235 then (if pc = 233 then xo_iconst 16 233 2 lv st M else none) else (if pc = 235 then xo_iload 3 235 1 lv st M else none))) else (if pc < 237 then (if pc = 236 then xo_imul 236 1 lv st M else none) else (if pc < 238 then (if pc = 237 then xo_iload 1 237 1 lv st M else none) else (if pc = 238 then xo_iadd 238 1 lv st M else none)))) else (if pc < 243 then (if pc < 241 then (if pc = 239 then xo_iload 6 239 2 lv st M else none) else (if pc < 242 then (if pc = 241 then xo_iast 241 1 lv st M else none) else (if pc = 242 then xo_ret 92 st M else none))) else (if pc < 247 then (if pc < 244 then (if pc = 243 then xo_aload 0 243 1 lv st M else none) else (if pc = 244 then xo_getf 8 17 244 3 lv st M else none)) else (if pc < 249 then (if pc = 247 then xo_iload 8 247 2 lv st M else none) else (if pc = 249 then xo_iload 4 249 2 lv st M else none))))) else (if pc < 264 then (if pc < 257 then (if pc < 253 then (if pc = 251 then xo_iconst 116 251 2 lv st M else none) else (if pc < 256 then (if pc = 253 then xo_icmp .ne 7 253 3 lv st M else none) else (if pc = 256 then xo_iconst 0 256 1 lv st M else none))) else (if pc < 262 then (if pc < 260 then (if pc = 257 then xo_goto 5 257 lv st M else none) else (if pc = 260 then xo_iload 6 260 2 lv st M else none)) else (if pc < 263 then (if pc = 262 then xo_iast 262 1 lv st M else none) else (if pc = 263 then xo_aload 0 263 1 lv st M else none)))) else (if pc < 270 then (if pc < 267 then (if pc = 264 then xo_getf 8 18 264 3 lv st M else none) else (if pc < 269 then (if pc = 267 then xo_iload 8 267 2 lv st M else none) else (if pc = 269 then xo_iload 3 269 1 lv st M else none))) else (if pc < 272 then (if pc < 271 then (if pc = 270 then xo_iast 270 1 lv st M else none) else (if pc = 271 then xo_aload 0 271 1 lv st M else none)) else (if pc < 275 then (if pc = 272 then xo_getf 8 19 272 3 lv st M else none) else (if pc = 275 then xo_iload 8 275 2 lv st M else none))))))) else (if pc < 318 then (if pc < 297 then (if pc < 287 then (if pc < 280 then (if pc < 278 then (if pc = 277 then xo_iload 1 277 1 lv st M else none) else (if pc < 279 then (if pc = 278 then xo_iast 278 1 lv st M else none) else (if pc = 279 then xo_aload 0 279 1 lv st M else none))) else (if pc < 283 then (if pc = 280 then xo_getf 8 20 280 3 lv st M else none) else (if pc < 285 then (if pc = 283 then xo_iload 8 283 2 lv st M else none) else (if pc = 285 then xo_iload 5 285 2 lv st M else none)))) else (if pc < 292 then (if pc < 288 then (if pc = 287 then xo_iast 287 1 lv st M else none) else (if pc < 289 then (if pc = 288 then xo_aload 0 288 1 lv st M else none) else (if pc = 289 then xo_getf 8 21 289 3 lv st M else none))) else (if pc < 295 then (if pc < 294 then (if pc = 292 then xo_iload 8 292 2 lv st M else none) else (if pc = 294 then xo_iload 2 294 1 lv st M else none)) else (if pc < 296 then (if pc = 295 then xo_iast 295 1 lv st M else none) else (if pc = 296 then xo_aload 0 296 1 lv st M else none))))) else (if pc < 308 then (if pc < 303 then (if pc < 300 then (if pc = 297 then xo_getf 8 22 297 3 lv st M else none) else (if pc < 302 then (if pc = 300 then xo_iload 8 300 2 lv st M else none) else (if pc = 302 then xo_iconst 0 302 1 lv st M else none))) else (if pc < 304 then (if pc = 303 then xo_iast 303 1 lv st M else none) else (if pc < 305 then (if pc = 304 then xo_aload 0 304 1 lv st M else none) else (if pc = 305 then xo_getf 8 7 305 3 lv st M else none)))) else (if pc < 312 then (if pc < 310 then (if pc = 308 then xo_iconst 16 308 2 lv st M else none) else (if pc < 311 then (if pc = 310 then xo_iload 3 310 1 lv st M else none) else (if pc = 311 then xo_imul 311 1 lv st M else none))) else (if pc < 314 then (if pc < 313 then (if pc = 312 then xo_iload 1 312 1 lv st M else none) else (if pc = 313 then xo_iadd 313 1 lv st M else none)) else (if pc < 316 then (if pc = 314 then xo_iload 4 314 2 lv st M else none) else (if pc = 316 then xo_iconst 116 316 2 lv st M else none)))))) else (if pc < 343 then (if pc < 329 then (if pc < 324 then (if pc < 321 then (if pc = 318 then xo_icmp .ne 10 318 3 lv st M else none) else (if pc < 323 then (if pc = 321 then xo_iload 6 321 2 lv st M else none) else (if pc = 323 then xo_iconst 1 323 1 lv st M else none))) else (if pc < 325 then (if pc = 324 then xo_iadd 324 1 lv st M else none) else (if pc < 328 then (if pc = 325 then xo_goto 4 325 lv st M else none) else (if pc = 328 then xo_iconst 1 328 1 lv st M else none)))) else (if pc < 334 then (if pc < 330 then (if pc = 329 then xo_iast 329 1 lv st M else none) else (if pc < 331 then (if pc = 330 then xo_aload 0 330 1 lv st M else none) else (if pc = 331 then xo_getf 8 6 331 3 lv st M else none))) else (if pc < 338 then (if pc < 336 then (if pc = 334 then xo_iload 7 334 2 lv st M else none) else (if pc = 336 then xo_iload 4 336 2 lv st M else none)) else (if pc < 340 then (if pc = 338 then xo_iconst 116 338 2 lv st M else none) else (if pc = 340 then xo_icmp .ne 8 340 3 lv st M else none))))) else (if pc < 354 then (if pc < 349 then (if pc < 345 then (if pc = 343 then xo_iload 6 343 2 lv st M else none) else (if pc < 348 then (if pc = 345 then xo_goto 4 345 lv st M else none) else (if pc = 348 then xo_iconst 0 348 1 lv st M else none))) else (if pc < 352 then (if pc < 350 then (if pc = 349 then xo_iadd 349 1 lv st M else none) else (if pc = 350 then xo_iload 8 350 2 lv st M else none)) else (if pc < 353 then (if pc = 352 then xo_iast 352 1 lv st M else none) else (if pc = 353 then xo_aload 0 353 1 lv st M else none)))) else (if pc < 360 then (if pc < 357 then (if pc = 354 then xo_getf 8 10 354 3 lv st M else none) else (if pc < 358 then (if pc = 357 then xo_iload 3 357 1 lv st M else none) else (if pc = 358 then xo_iload 8 358 2 lv st M else none))) else (if pc < 362 then (if pc < 361 then (if pc = 360 then xo_iconst 1 360 1 lv st M else none) else (if pc = 361 then xo_iadd 361 1 lv st M else none)) else (if pc < 363 then (if pc = 362 then xo_iast 362 1 lv st M else none) else (if pc = 363 then xo_ret 92 st M else none))))))))
def cd_93 (pc : Nat) (lv : XL) (st : List XV) (M : XM) : Option XN := if pc < 46 then (if pc < 22 then (if pc < 9 then (if pc < 5 then (if pc < 1 then (if pc = 0 then xo_aload 0 0 1 lv st M else none) else (if pc < 4 then (if pc = 1 then xo_getf 8 5 1 3 lv st M else none) else (if pc = 4 then xo_iconst 1 4 1 lv st M else none))) else (if pc < 7 then (if pc < 6 then (if pc = 5 then xo_iadd 5 1 lv st M else none) else (if pc = 6 then xo_istore 1 6 1 lv st M else none)) else (if pc < 8 then (if pc = 7 then xo_iconst 0 7 1 lv st M else none) else (if pc = 8 then xo_istore 2 8 1 lv st M else none)))) else (if pc < 14 then (if pc < 10 then (if pc = 9 then xo_iload 2 9 1 lv st M else none) else (if pc < 11 then (if pc = 10 then xo_aload 0 10 1 lv st M else none) else (if pc = 11 then xo_getf 8 9 11 3 lv st M else none))) else (if pc < 18 then (if pc < 15 then (if pc = 14 then xo_aload 0 14 1 lv st M else none) else (if pc = 15 then xo_getf 8 5 15 3 lv st M else none)) else (if pc < 19 then (if pc = 18 then xo_iald 18 1 lv st M else none) else (if pc = 19 then xo_icmp .ge 69 19 3 lv st M else none))))) else (if pc < 33 then (if pc < 25 then (if pc < 23 then (if pc = 22 then xo_iconst 0 22 1 lv st M else none) else (if pc < 24 then (if pc = 23 then xo_istore 3 23 1 lv st M else none) else (if pc = 24 then xo_iload 3 24 1 lv st M else none))) else (if pc < 27 then (if pc < 26 then (if pc = 25 then xo_aload 0 25 1 lv st M else none) else (if pc = 26 then xo_iload 2 26 1 lv st M else none)) else (if pc < 30 then (if pc = 27 then xo_call true 93 79 st else none) else (if pc = 30 then xo_icmp .ge 52 30 3 lv st M else none)))) else (if pc < 38 then (if pc < 34 then (if pc = 33 then xo_aload 0 33 1 lv st M else none) else (if pc < 37 then (if pc = 34 then xo_getf 8 28 34 3 lv st M else none) else (if pc = 37 then xo_iload 2 37 1 lv st M else none))) else (if pc < 42 then (if pc < 39 then (if pc = 38 then xo_iald 38 1 lv st M else none) else (if pc = 39 then xo_if .ge 43 39 3 lv st M else none)) else (if pc < 43 then (if pc = 42 then xo_aload 0 42 1 lv st M else none) else (if pc = 43 then xo_getf 8 22 43 3 lv st M else none)))))) else (if pc < 65 then (if pc < 58 then (if pc < 52 then (if pc < 47 then (if pc = 46 then xo_aload 0 46 1 lv st M else none) else (if pc < 50 then (if pc = 47 then xo_getf 8 6 47 3 lv st M else none) else (if pc = 50 then xo_iconst 64 50 2 lv st M else none))) else (if pc < 56 then (if pc < 53 then (if pc = 52 then xo_aload 0 52 1 lv st M else none) else (if pc = 53 then xo_getf 8 5 53 3 lv st M else none)) else (if pc < 57 then (if pc = 56 then xo_imul 56 1 lv st M else none) else (if pc = 57 then xo_iconst 4 57 1 lv st M else none)))) else (if pc < 61 then (if pc < 59 then (if pc = 58 then xo_iload 2 58 1 lv st M else none) else (if pc < 60 then (if pc = 59 then xo_imul 59 1 lv st M else none) else (if pc = 60 then xo_iadd 60 1 lv st M else none))) else (if pc < 63 then (if pc < 62 then (if pc = 61 then xo_iload 3 61 1 lv st M else none) else (if pc = 62 then xo_iadd 62 1 lv st M else none)) else (if pc < 64 then (if pc = 63 then xo_iald 63 1 lv st M else none) else (if pc = 64 then xo_iload 1 64 1 lv st M else none))))) else (if pc < 74 then (if pc < 70 then (if pc < 66 then (if pc = 65 then xo_iast 65 1 lv st M else none) else (if pc < 67 then (if pc = 66 then xo_aload 0 66 1 lv st M else none) else (if pc = 67 then xo_getf 8 11 67 3 lv st M else none))) else (if pc < 72 then (if pc < 71 then (if pc = 70 then xo_iload 1 70 1 lv st M else none) else (if pc = 71 then xo_dup2 71 1 lv st M else none)) else (if pc < 73 then (if pc = 72 then xo_iald 72 1 lv st M else none) else (if pc = 73 then xo_iconst 1 73 1 lv st M else none)))) else (if pc < 79 then (if pc < 75 then (if pc = 74 then xo_iadd 74 1 lv st M else none) else (if pc < 76 then (if pc = 75 then xo_iast 75 1 lv st M else none) else (if pc = 76 then xo_iinc 3 1 76 3 lv st M else none))) else (if pc < 85 then (if pc < 82 then (if pc = 79 then xo_goto (-55) 79 lv st M else none) else (if pc = 82 then xo_iinc 2 1 82 3 lv st M else none)) else (if pc < 88 then (if pc = 85 then xo_goto (-76) 85 lv st M else none) else (if pc = 88 then xo_ret 93 st M else none))))))
def cd_94 (pc : Nat) (lv : XL) (st : List XV) (M : XM) : Option XN := if pc < 116 then (if pc < 55 then (if pc < 27 then (if pc < 13 then (if pc < 6 then (if pc < 4 then (if pc < 1 then (if pc = 0 then xo_aload 0 0 1 lv st M else none) else (if pc = 1 then xo_getf 8 5 1 3 lv st M else none)) else (if pc < 5 then (if pc = 4 then xo_iconst 1 4 1 lv st M else none) else (if pc = 5 then xo_iadd 5 1 lv st M else none))) else (if pc < 8 then (if pc < 7 then (if pc = 6 then xo_istore 3 6 1 lv st M else none) else (if pc = 7 then xo_aload 0 7 1 lv st M else none)) else (if pc < 11 then (if pc = 8 then xo_getf 8 15 8 3 lv st M else none) else (if pc < 12 then (if pc = 11 then xo_iconst 4 11 1 lv st M else none) else (if pc = 12 then xo_iload 3 12 1 lv st M else none))))) else (if pc < 20 then (if pc < 15 then (if pc < 14 then (if pc = 13 then xo_imul 13 1 lv st M else none) else (if pc = 14 then xo_aload 0 14 1 lv st M else none)) else (if pc < 18 then (if pc = 15 then xo_call true 94 89 st else none) else (if pc < 19 then (if pc = 18 then xo_iast 18 1 lv st M else none) else (if pc = 19 then xo_aload 0 19 1 lv st M else none)))) else (if pc < 24 then (if pc < 23 then (if pc = 20 then xo_getf 8 15 20 3 lv st M else none) else (if pc = 23 then xo_iconst 4 23 1 lv st M else none)) else (if pc < 25 then (if pc = 24 then xo_iload 3 24 1 lv st M else none) else (if pc < 26 then (if pc = 25 then xo_imul 25 1 lv st M else none) else (if pc = 26 then xo_iconst 1 26 1 lv st M else none)))))) else (if pc < 41 then (if pc < 34 then (if pc < 29 then (if pc < 28 then (if pc = 27 then xo_iadd 27 1 lv st M else none) else (if pc = 28 then xo_aload 0 28 1 lv st M else none)) else (if pc < 32 then (if pc = 29 then xo_call true 94 90 st else none) else (if pc < 33 then (if pc = 32 then xo_iast 32 1 lv st M else none) else (if pc = 33 then xo_aload 0 33 1 lv st M else none)))) else (if pc < 38 then (if pc < 37 then (if pc = 34 then xo_getf 8 15 34 3 lv st M else none) else (if pc = 37 then xo_iconst 4 37 1 lv st M else none)) else (if pc < 39 then (if pc = 38 then xo_iload 3 38 1 lv st M else none) else (if pc < 40 then (if pc = 39 then xo_imul 39 1 lv st M else none) else (if pc = 40 then xo_iconst 2 40 1 lv st M else none))))) else (if pc < 48 then (if pc < 43 then (if pc < 42 then (if pc = 41 then xo_iadd 41 1 lv st M else none) else (if pc = 42 then xo_aload 0 42 1 lv st M else none)) else (if pc < 46 then (if pc = 43 then xo_call true 94 91 st else none) else (if pc < 47 then (if pc = 46 then xo_iast 46 1 lv st M else none) else (if pc = 47 then xo_aload 0 47 1 lv st M else none)))) else (if pc < 52 then (if pc < 51 then (if pc = 48 then xo_getf 8 15 48 3 lv st M else none) else (if pc = 51 then xo_iconst 4 51 1 lv st M else none)) else (if pc < 53 then (if pc = 52 then xo_iload 3 52 1 lv st M else none) else (if pc < 54 then (if pc = 53 then xo_imul 53 1 lv st M else none) else (if pc = 54 then xo_iconst 3 54 1 lv st M else none))))))) else (if pc < 84 then (if pc < 68 then (if pc < 61 then (if pc < 57 then (if pc < 56 then (if pc = 55 then xo_iadd 55 1 lv st M else none) else (if pc = 56 then xo_aload 0 56 1 lv st M else none)) else (if pc < 58 then (if pc = 57 then xo_iload 1 57 1 lv st M else none) else (if pc = 58 then xo_call true 94 88 st else none))) else (if pc < 63 then (if pc < 62 then (if pc = 61 then xo_iast 61 1 lv st M else none) else (if pc = 62 then xo_aload 0 62 1 lv st M else none)) else (if pc < 66 then (if pc = 63 then xo_getf 8 9 63 3 lv st M else none) else (if pc < 67 then (if pc = 66 then xo_iload 3 66 1 lv st M else none) else (if pc = 67 then xo_iload 1 67 1 lv st M else none))))) else (if pc < 75 then (if pc < 70 then (if pc < 69 then (if pc = 68 then xo_iast 68 1 lv st M else none) else (if pc = 69 then xo_aload 0 69 1 lv st M else none)) else (if pc < 73 then (if pc = 70 then xo_getf 8 10 70 3 lv st M else none) else (if pc < 74 then (if pc = 73 then xo_iload 3 73 1 lv st M else none) else (if pc = 74 then xo_aload 0 74 1 lv st M else none)))) else (if pc < 79 then (if pc < 78 then (if pc = 75 then xo_getf 8 10 75 3 lv st M else none) else (if pc = 78 then xo_aload 0 78 1 lv st M else none)) else (if pc < 82 then (if pc = 79 then xo_getf 8 5 79 3 lv st M else none) else (if pc < 83 then (if pc = 82 then xo_iald 82 1 lv st M else none) else (if pc = 83 then xo_iast 83 1 lv st M else none)))))) else (if pc < 100 then (if pc < 93 then (if pc < 88 then (if pc < 85 then (if pc = 84 then xo_aload 0 84 1 lv st M else none) else (if pc = 85 then xo_getf 8 11 85 3 lv st M else none)) else (if pc < 89 then (if pc = 88 then xo_iload 3 88 1 lv st M else none) else (if pc < 90 then (if pc = 89 then xo_aload 0 89 1 lv st M else none) else (if pc = 90 then xo_getf 8 11 90 3 lv st M else none)))) else (if pc < 97 then (if pc < 94 then (if pc = 93 then xo_aload 0 93 1 lv st M else none) else (if pc = 94 then xo_getf 8 5 94 3 lv st M else none)) else (if pc < 98 then (if pc = 97 then xo_iald 97 1 lv st M else none) else (if pc < 99 then (if pc = 98 then xo_iast 98 1 lv st M else none) else (if pc = 99 then xo_iconst 0 99 1 lv st M else none))))) else (if pc < 109 then (if pc < 104 then (if pc < 102 then (if pc = 100 then xo_istore 4 100 2 lv st M else none) else (if pc = 102 then xo_iload 4 102 2 lv st M else none)) else (if pc < 105 then (if pc = 104 then xo_iload 1 104 1 lv st M else none) else (if pc < 108 then (if pc = 105 then xo_icmp .ge 32 105 3 lv st M else none) else (if pc = 108 then xo_aload 0 108 1 lv st M else none)))) else (if pc < 111 then (if pc < 110 then (if pc = 109 then xo_iload 3 109 1 lv st M else none) else (if pc = 110 then xo_iconst 2 110 1 lv st M else none)) else (if pc < 112 then (if pc = 111 then xo_irem 111 1 lv st M else none) else (if pc < 113 then (if pc = 112 then xo_iconst 1 112 1 lv st M else none) else (if pc = 113 then xo_icmp .ne 12 113 3 lv st M else none)))))))) else (if pc < 183 then (if pc < 151 then (if pc < 131 then (if pc < 121 then (if pc < 118 then (if pc < 117 then (if pc = 116 then xo_iload 1 116 1 lv st M else none) else (if pc = 117 then xo_iconst 1 117 1 lv st M else none)) else (if pc < 119 then (if pc = 118 then xo_isub 118 1 lv st M else none) else (if pc = 119 then xo_iload 4 119 2 lv st M else none))) else (if pc < 125 then (if pc < 122 then (if pc = 121 then xo_isub 121 1 lv st M else none) else (if pc = 122 then xo_goto 5 122 lv st M else none)) else (if pc < 127 then (if pc = 125 then xo_iload 4 125 2 lv st M else none) else (if pc < 128 then (if pc = 127 then xo_iload 2 127 1 lv st M else none) else (if pc = 128 then xo_call true 94 92 st else none))))) else (if pc < 142 then (if pc < 137 then (if pc < 134 then (if pc = 131 then xo_iinc 4 1 131 3 lv st M else none) else (if pc = 134 then xo_goto (-32) 134 lv st M else none)) else (if pc < 138 then (if pc = 137 then xo_aload 0 137 1 lv st M else none) else (if pc < 141 then (if pc = 138 then xo_call true 94 93 st else none) else (if pc = 141 then xo_iconst 0 141 1 lv st M else none)))) else (if pc < 146 then (if pc < 144 then (if pc = 142 then xo_istore 4 142 2 lv st M else none) else (if pc = 144 then xo_iload 4 144 2 lv st M else none)) else (if pc < 147 then (if pc = 146 then xo_iconst 3 146 1 lv st M else none) else (if pc < 150 then (if pc = 147 then xo_icmp .ge 48 147 3 lv st M else none) else (if pc = 150 then xo_aload 0 150 1 lv st M else none)))))) else (if pc < 167 then (if pc < 159 then (if pc < 155 then (if pc < 154 then (if pc = 151 then xo_getf 8 12 151 3 lv st M else none) else (if pc = 154 then xo_iconst 3 154 1 lv st M else none)) else (if pc < 156 then (if pc = 155 then xo_iload 3 155 1 lv st M else none) else (if pc < 157 then (if pc = 156 then xo_imul 156 1 lv st M else none) else (if pc = 157 then xo_iload 4 157 2 lv st M else none)))) else (if pc < 162 then (if pc < 160 then (if pc = 159 then xo_iadd 159 1 lv st M else none) else (if pc = 160 then xo_iload 4 160 2 lv st M else none)) else (if pc < 163 then (if pc = 162 then xo_iload 2 162 1 lv st M else none) else (if pc < 166 then (if pc = 163 then xo_icmp .ne 11 163 3 lv st M else none) else (if pc = 166 then xo_iconst 1 166 1 lv st M else none))))) else (if pc < 174 then (if pc < 169 then (if pc < 168 then (if pc = 167 then xo_iload 3 167 1 lv st M else none) else (if pc = 168 then xo_iconst 2 168 1 lv st M else none)) else (if pc < 170 then (if pc = 169 then xo_irem 169 1 lv st M else none) else (if pc < 171 then (if pc = 170 then xo_isub 170 1 lv st M else none) else (if pc = 171 then xo_goto 17 171 lv st M else none)))) else (if pc < 178 then (if pc < 175 then (if pc = 174 then xo_aload 0 174 1 lv st M else none) else (if pc = 175 then xo_getf 8 12 175 3 lv st M else none)) else (if pc < 179 then (if pc = 178 then xo_iconst 3 178 1 lv st M else none) else (if pc < 180 then (if pc = 179 then xo_aload 0 179 1 lv st M else none) else (if pc = 180 then xo_getf 8 5 180 3 lv st M else none))))))) else (if pc < 218 then (if pc < 200 then (if pc < 189 then (if pc < 186 then (if pc < 184 then (if pc = 183 then xo_imul 183 1 lv st M else none) else (if pc = 184 then xo_iload 4 184 2 lv st M else none)) else (if pc < 187 then (if pc = 186 then xo_iadd 186 1 lv st M else none) else (if pc < 188 then (if pc = 187 then xo_iald 187 1 lv st M else none) else (if pc = 188 then xo_iast 188 1 lv st M else none)))) else (if pc < 195 then (if pc < 192 then (if pc = 189 then xo_iinc 4 1 189 3 lv st M else none) else (if pc = 192 then xo_goto (-48) 192 lv st M else none)) else (if pc < 196 then (if pc = 195 then xo_aload 0 195 1 lv st M else none) else (if pc < 199 then (if pc = 196 then xo_getf 8 14 196 3 lv st M else none) else (if pc = 199 then xo_iload 3 199 1 lv st M else none))))) else (if pc < 208 then (if pc < 204 then (if pc < 201 then (if pc = 200 then xo_aload 0 200 1 lv st M else none) else (if pc = 201 then xo_getf 8 2 201 3 lv st M else none)) else (if pc < 205 then (if pc = 204 then xo_iast 204 1 lv st M else none) else (if pc < 206 then (if pc = 205 then xo_iconst 0 205 1 lv st M else none) else (if pc = 206 then xo_istore 4 206 2 lv st M else none)))) else (if pc < 211 then (if pc < 210 then (if pc = 208 then xo_iload 4 208 2 lv st M else none) else (if pc = 210 then xo_aload 0 210 1 lv st M else none)) else (if pc < 214 then (if pc = 211 then xo_getf 8 2 211 3 lv st M else none) else (if pc < 217 then (if pc = 214 then xo_icmp .ge 28 214 3 lv st M else none) else (if pc = 217 then xo_aload 0 217 1 lv st M else none)))))) else (if pc < 235 then (if pc < 227 then (if pc < 223 then (if pc < 221 then (if pc = 218 then xo_getf 8 13 218 3 lv st M else none) else (if pc = 221 then xo_iconst 40 221 2 lv st M else none)) else (if pc < 224 then (if pc = 223 then xo_iload 3 223 1 lv st M else none) else (if pc < 225 then (if pc = 224 then xo_imul 224 1 lv st M else none) else (if pc = 225 then xo_iload 4 225 2 lv st M else none)))) else (if pc < 229 then (if pc < 228 then (if pc = 227 then xo_iadd 227 1 lv st M else none) else (if pc = 228 then xo_aload 0 228 1 lv st M else none)) else (if pc < 232 then (if pc = 229 then xo_getf 8 1 229 3 lv st M else none) else (if pc < 234 then (if pc = 232 then xo_iload 4 232 2 lv st M else none) else (if pc = 234 then xo_iald 234 1 lv st M else none))))) else (if pc < 244 then (if pc < 239 then (if pc < 236 then (if pc = 235 then xo_iast 235 1 lv st M else none) else (if pc = 236 then xo_iinc 4 1 236 3 lv st M else none)) else (if pc < 242 then (if pc = 239 then xo_goto (-31) 239 lv st M else none) else (if pc < 243 then (if pc = 242 then xo_aload 0 242 1 lv st M else none) else (if pc = 243 then xo_iload 3 243 1 lv st M else none)))) else (if pc < 248 then (if pc < 247 then (if pc = 244 then xo_puti 8 5 244 3 lv st M else none) else (if pc = 247 then xo_aload 0 247 1 lv st M else none)) else (if pc < 249 then (if pc = 248 then xo_iconst 0 248 1 lv st M else none) else (if pc < 252 then (if pc = 249 then xo_puti 8 2 249 3 lv st M else none) else (if pc = 252 then xo_ret 94 st M else none))))))))
def cd_95 (pc : Nat) (lv : XL) (st : List XV) (M : XM) : Option XN := if pc < 151 then (if pc < 71 then (if pc < 38 then (if pc < 18 then (if pc < 9 then (if pc < 2 then (if pc < 1 then (if pc = 0 then xo_aload 0 0 1 lv st M else none) else (if pc = 1 then xo_aload 0 1 1 lv st M else none)) else (if pc < 5 then (if pc = 2 then xo_getf 8 4 2 3 lv st M else none) else (if pc < 8 then (if pc = 5 then xo_if .ne 7 5 3 lv st M else none) else (if pc = 8 then xo_iconst 1 8 1 lv st M else none)))) else (if pc < 13 then (if pc < 12 then (if pc = 9 then xo_goto 17 9 lv st M else none) else (if pc = 12 then xo_iload 1 12 1 lv st M else none)) else (if pc < 16 then (if pc = 13 then xo_if .lt 8 13 3 lv st M else none) else (if pc < 17 then (if pc = 16 then xo_iload 1 16 1 lv st M else none) else (if pc = 17 then xo_iconst 2 17 1 lv st M else none))))) else (if pc < 29 then (if pc < 22 then (if pc < 21 then (if pc = 18 then xo_icmp .le 7 18 3 lv st M else none) else (if pc = 21 then xo_iconst 2 21 1 lv st M else none)) else (if pc < 25 then (if pc = 22 then xo_goto 4 22 lv st M else none) else (if pc < 26 then (if pc = 25 then xo_iconst 0 25 1 lv st M else none) else (if pc = 26 then xo_puti 8 0 26 3 lv st M else none)))) else (if pc < 33 then (if pc < 30 then (if pc = 29 then xo_aload 0 29 1 lv st M else none) else (if pc = 30 then xo_getf 8 0 30 3 lv st M else none)) else (if pc < 36 then (if pc = 33 then xo_if .le 5 33 3 lv st M else none) else (if pc < 37 then (if pc = 36 then xo_iconst 0 36 1 lv st M else none) else (if pc = 37 then xo_ret 95 st M else none)))))) else (if pc < 56 then (if pc < 45 then (if pc < 40 then (if pc < 39 then (if pc = 38 then xo_aload 0 38 1 lv st M else none) else (if pc = 39 then xo_iconst (-1) 39 1 lv st M else none)) else (if pc < 43 then (if pc = 40 then xo_puti 8 3 40 3 lv st M else none) else (if pc < 44 then (if pc = 43 then xo_aload 0 43 1 lv st M else none) else (if pc = 44 then xo_aload 0 44 1 lv st M else none)))) else (if pc < 49 then (if pc < 48 then (if pc = 45 then xo_getf 8 1 45 3 lv st M else none) else (if pc = 48 then xo_iconst 0 48 1 lv st M else none)) else (if pc < 50 then (if pc = 49 then xo_aload 0 49 1 lv st M else none) else (if pc < 53 then (if pc = 50 then xo_getf 8 2 50 3 lv st M else none) else (if pc = 53 then xo_call true 95 75 st else none))))) else (if pc < 63 then (if pc < 58 then (if pc < 57 then (if pc = 56 then xo_istore 2 56 1 lv st M else none) else (if pc = 57 then xo_iload 2 57 1 lv st M else none)) else (if pc < 61 then (if pc = 58 then xo_if .lt 10 58 3 lv st M else none) else (if pc < 62 then (if pc = 61 then xo_aload 0 61 1 lv st M else none) else (if pc = 62 then xo_iconst 1 62 1 lv st M else none)))) else (if pc < 68 then (if pc < 64 then (if pc = 63 then xo_iload 2 63 1 lv st M else none) else (if pc < 67 then (if pc = 64 then xo_call true 95 78 st else none) else (if pc = 67 then xo_ret 95 st M else none))) else (if pc < 69 then (if pc = 68 then xo_iconst 0 68 1 lv st M else none) else (if pc < 70 then (if pc = 69 then xo_istore 3 69 1 lv st M else none) else (if pc = 70 then xo_iconst 0 70 1 lv st M else none))))))) else (if pc < 111 then (if pc < 89 then (if pc < 79 then (if pc < 74 then (if pc < 73 then (if pc = 71 then xo_istore 4 71 2 lv st M else none) else (if pc = 73 then xo_iconst 0 73 1 lv st M else none)) else (if pc < 76 then (if pc = 74 then xo_istore 5 74 2 lv st M else none) else (if pc < 78 then (if pc = 76 then xo_iload 5 76 2 lv st M else none) else (if pc = 78 then xo_aload 0 78 1 lv st M else none)))) else (if pc < 85 then (if pc < 82 then (if pc = 79 then xo_getf 8 23 79 3 lv st M else none) else (if pc = 82 then xo_icmp .ge 29 82 3 lv st M else none)) else (if pc < 86 then (if pc = 85 then xo_iload 3 85 1 lv st M else none) else (if pc < 87 then (if pc = 86 then xo_aload 0 86 1 lv st M else none) else (if pc = 87 then xo_iload 5 87 2 lv st M else none))))) else (if pc < 97 then (if pc < 93 then (if pc < 92 then (if pc = 89 then xo_call true 95 76 st else none) else (if pc = 92 then xo_iadd 92 1 lv st M else none)) else (if pc < 94 then (if pc = 93 then xo_istore 3 93 1 lv st M else none) else (if pc < 96 then (if pc = 94 then xo_iload 4 94 2 lv st M else none) else (if pc = 96 then xo_aload 0 96 1 lv st M else none)))) else (if pc < 103 then (if pc < 99 then (if pc = 97 then xo_iload 5 97 2 lv st M else none) else (if pc < 102 then (if pc = 99 then xo_call true 95 77 st else none) else (if pc = 102 then xo_iadd 102 1 lv st M else none))) else (if pc < 105 then (if pc = 103 then xo_istore 4 103 2 lv st M else none) else (if pc < 108 then (if pc = 105 then xo_iinc 5 1 105 3 lv st M else none) else (if pc = 108 then xo_goto (-32) 108 lv st M else none)))))) else (if pc < 130 then (if pc < 120 then (if pc < 113 then (if pc < 112 then (if pc = 111 then xo_iload 3 111 1 lv st M else none) else (if pc = 112 then xo_aload 0 112 1 lv st M else none)) else (if pc < 116 then (if pc = 113 then xo_getf 8 9 113 3 lv st M else none) else (if pc < 117 then (if pc = 116 then xo_aload 0 116 1 lv st M else none) else (if pc = 117 then xo_getf 8 5 117 3 lv st M else none)))) else (if pc < 124 then (if pc < 121 then (if pc = 120 then xo_iald 120 1 lv st M else none) else (if pc = 121 then xo_icmp .ne 16 121 3 lv st M else none)) else (if pc < 126 then (if pc = 124 then xo_iload 4 124 2 lv st M else none) else (if pc < 127 then (if pc = 126 then xo_iconst 1 126 1 lv st M else none) else (if pc = 127 then xo_icmp .lt 10 127 3 lv st M else none))))) else (if pc < 139 then (if pc < 134 then (if pc < 132 then (if pc = 130 then xo_iload 4 130 2 lv st M else none) else (if pc = 132 then xo_iconst 16 132 2 lv st M else none)) else (if pc < 137 then (if pc = 134 then xo_icmp .le 27 134 3 lv st M else none) else (if pc < 138 then (if pc = 137 then xo_aload 0 137 1 lv st M else none) else (if pc = 138 then xo_iload 3 138 1 lv st M else none)))) else (if pc < 144 then (if pc < 140 then (if pc = 139 then xo_aload 0 139 1 lv st M else none) else (if pc < 143 then (if pc = 140 then xo_getf 8 9 140 3 lv st M else none) else (if pc = 143 then xo_aload 0 143 1 lv st M else none))) else (if pc < 147 then (if pc = 144 then xo_getf 8 5 144 3 lv st M else none) else (if pc < 148 then (if pc = 147 then xo_iald 147 1 lv st M else none) else (if pc = 148 then xo_icmp .eq 7 148 3 lv st M else none)))))))) else (if pc < 221 then (if pc < 188 then (if pc < 167 then (if pc < 160 then (if pc < 155 then (if pc < 152 then (if pc = 151 then xo_iconst 2 151 1 lv st M else none) else (if pc = 152 then xo_goto 4 152 lv st M else none)) else (if pc < 156 then (if pc = 155 then xo_iconst 3 155 1 lv st M else none) else (if pc < 157 then (if pc = 156 then xo_iconst (-1) 156 1 lv st M else none) else (if pc = 157 then xo_call true 95 78 st else none)))) else (if pc < 162 then (if pc < 161 then (if pc = 160 then xo_ret 95 st M else none) else (if pc = 161 then xo_aload 0 161 1 lv st M else none)) else (if pc < 165 then (if pc = 162 then xo_call true 95 80 st else none) else (if pc < 166 then (if pc = 165 then xo_istore 2 165 1 lv st M else none) else (if pc = 166 then xo_iload 2 166 1 lv st M else none))))) else (if pc < 176 then (if pc < 171 then (if pc < 170 then (if pc = 167 then xo_if .lt 10 167 3 lv st M else none) else (if pc = 170 then xo_aload 0 170 1 lv st M else none)) else (if pc < 172 then (if pc = 171 then xo_iconst 4 171 1 lv st M else none) else (if pc < 173 then (if pc = 172 then xo_iload 2 172 1 lv st M else none) else (if pc = 173 then xo_call true 95 78 st else none)))) else (if pc < 181 then (if pc < 177 then (if pc = 176 then xo_ret 95 st M else none) else (if pc < 178 then (if pc = 177 then xo_aload 0 177 1 lv st M else none) else (if pc = 178 then xo_call true 95 85 st else none))) else (if pc < 182 then (if pc = 181 then xo_aload 0 181 1 lv st M else none) else (if pc < 185 then (if pc = 182 then xo_call true 95 86 st else none) else (if pc = 185 then xo_if .eq 10 185 3 lv st M else none)))))) else (if pc < 204 then (if pc < 197 then (if pc < 192 then (if pc < 189 then (if pc = 188 then xo_aload 0 188 1 lv st M else none) else (if pc = 189 then xo_call true 95 87 st else none)) else (if pc < 195 then (if pc = 192 then xo_goto 4 192 lv st M else none) else (if pc < 196 then (if pc = 195 then xo_iconst (-1) 195 1 lv st M else none) else (if pc = 196 then xo_istore 2 196 1 lv st M else none)))) else (if pc < 201 then (if pc < 198 then (if pc = 197 then xo_iload 2 197 1 lv st M else none) else (if pc = 198 then xo_if .lt 10 198 3 lv st M else none)) else (if pc < 202 then (if pc = 201 then xo_aload 0 201 1 lv st M else none) else (if pc < 203 then (if pc = 202 then xo_iconst 5 202 1 lv st M else none) else (if pc = 203 then xo_iload 2 203 1 lv st M else none))))) else (if pc < 213 then (if pc < 208 then (if pc < 207 then (if pc = 204 then xo_call true 95 78 st else none) else (if pc = 207 then xo_ret 95 st M else none)) else (if pc < 209 then (if pc = 208 then xo_aload 0 208 1 lv st M else none) else (if pc < 212 then (if pc = 209 then xo_getf 8 12 209 3 lv st M else none) else (if pc = 212 then xo_iconst 3 212 1 lv st M else none)))) else (if pc < 218 then (if pc < 214 then (if pc = 213 then xo_aload 0 213 1 lv st M else none) else (if pc < 217 then (if pc = 214 then xo_getf 8 5 214 3 lv st M else none) else (if pc = 217 then xo_imul 217 1 lv st M else none))) else (if pc < 219 then (if pc = 218 then xo_iload 1 218 1 lv st M else none) else (if pc < 220 then (if pc = 219 then xo_iadd 219 1 lv st M else none) else (if pc = 220 then xo_iald 220 1 lv st M else none))))))) else (if pc < 259 then (if pc < 238 then (if pc < 230 then (if pc < 225 then (if pc < 222 then (if pc = 221 then xo_aload 0 221 1 lv st M else none) else (if pc = 222 then xo_getf 8 5 222 3 lv st M else none)) else (if pc < 226 then (if pc = 225 then xo_iconst 2 225 1 lv st M else none) else (if pc < 227 then (if pc = 226 then xo_irem 226 1 lv st M else none) else (if pc = 227 then xo_icmp .ne 11 227 3 lv st M else none)))) else (if pc < 233 then (if pc < 231 then (if pc = 230 then xo_aload 0 230 1 lv st M else none) else (if pc = 231 then xo_iconst 6 231 2 lv st M else none)) else (if pc < 234 then (if pc = 233 then xo_iconst (-1) 233 1 lv st M else none) else (if pc < 237 then (if pc = 234 then xo_call true 95 78 st else none) else (if pc = 237 then xo_ret 95 st M else none))))) else (if pc < 248 then (if pc < 242 then (if pc < 239 then (if pc = 238 then xo_aload 0 238 1 lv st M else none) else (if pc = 239 then xo_getf 8 5 239 3 lv st M else none)) else (if pc < 244 then (if pc = 242 then xo_iconst 20 242 2 lv st M else none) else (if pc < 247 then (if pc = 244 then xo_icmp .eq 25 244 3 lv st M else none) else (if pc = 247 then xo_aload 0 247 1 lv st M else none)))) else (if pc < 255 then (if pc < 251 then (if pc = 248 then xo_getf 8 10 248 3 lv st M else none) else (if pc < 252 then (if pc = 251 then xo_aload 0 251 1 lv st M else none) else (if pc = 252 then xo_getf 8 5 252 3 lv st M else none))) else (if pc < 256 then (if pc = 255 then xo_iald 255 1 lv st M else none) else (if pc < 257 then (if pc = 256 then xo_aload 0 256 1 lv st M else none) else (if pc = 257 then xo_iload 4 257 2 lv st M else none)))))) else (if pc < 281 then (if pc < 270 then (if pc < 263 then (if pc < 262 then (if pc = 259 then xo_call true 95 88 st else none) else (if pc = 262 then xo_iadd 262 1 lv st M else none)) else (if pc < 266 then (if pc = 263 then xo_iconst 300 263 3 lv st M else none) else (if pc < 269 then (if pc = 266 then xo_icmp .le 25 266 3 lv st M else none) else (if pc = 269 then xo_aload 0 269 1 lv st M else none)))) else (if pc < 274 then (if pc < 271 then (if pc = 270 then xo_aload 0 270 1 lv st M else none) else (if pc = 271 then xo_getf 8 5 271 3 lv st M else none)) else (if pc < 276 then (if pc = 274 then xo_iconst 20 274 2 lv st M else none) else (if pc < 279 then (if pc = 276 then xo_icmp .ne 8 276 3 lv st M else none) else (if pc = 279 then xo_iconst 7 279 2 lv st M else none))))) else (if pc < 291 then (if pc < 286 then (if pc < 284 then (if pc = 281 then xo_goto 5 281 lv st M else none) else (if pc = 284 then xo_iconst 8 284 2 lv st M else none)) else (if pc < 287 then (if pc = 286 then xo_iconst (-1) 286 1 lv st M else none) else (if pc < 290 then (if pc = 287 then xo_call true 95 78 st else none) else (if pc = 290 then xo_ret 95 st M else none)))) else (if pc < 295 then (if pc < 292 then (if pc = 291 then xo_aload 0 291 1 lv st M else none) else (if pc < 294 then (if pc = 292 then xo_iload 4 292 2 lv st M else none) else (if pc = 294 then xo_iload 1 294 1 lv st M else none))) else (if pc < 298 then (if pc = 295 then xo_call true 95 94 st else none) else (if pc < 299 then (if pc = 298 then xo_iconst 0 298 1 lv st M else none) else (if pc = 299 then xo_ret 95 st M else none))))))))
def cd_96 (pc : Nat) (lv : XL) (st : List XV) (M : XM) : Option XN := if pc < 5 then (if pc < 1 then (if pc = 0 then xo_aload 0 0 1 lv st M else none) else (if pc < 2 then (if pc = 1 then xo_iconst 0 1 1 lv st M else none) else (if pc = 2 then xo_puti 8 0 2 3 lv st M else none))) else (if pc < 6 then (if pc = 5 then xo_aload 0 5 1 lv st M else none) else (if pc < 9 then (if pc = 6 then xo_getf 8 3 6 3 lv st M else none) else (if pc = 9 then xo_ret 96 st M else none)))
def cd_97 (pc : Nat) (lv : XL) (st : List XV) (M : XM) : Option XN := if pc < 82 then (if pc < 45 then (if pc < 24 then (if pc < 9 then (if pc < 3 then (if pc < 1 then (if pc = 0 then xo_aload 0 0 1 lv st M else none) else (if pc < 2 then (if pc = 1 then xo_iload 1 1 1 lv st M else none) else (if pc = 2 then xo_iconst 1 2 1 lv st M else none))) else (if pc < 6 then (if pc = 3 then xo_icmp .lt 9 3 3 lv st M else none) else (if pc < 7 then (if pc = 6 then xo_iload 1 6 1 lv st M else none) else (if pc = 7 then xo_iconst 16 7 2 lv st M else none)))) else (if pc < 16 then (if pc < 12 then (if pc = 9 then xo_icmp .le 7 9 3 lv st M else none) else (if pc < 13 then (if pc = 12 then xo_iconst 1 12 1 lv st M else none) else (if pc = 13 then xo_goto 4 13 lv st M else none))) else (if pc < 20 then (if pc < 17 then (if pc = 16 then xo_iconst 0 16 1 lv st M else none) else (if pc = 17 then xo_puti 8 0 17 3 lv st M else none)) else (if pc < 21 then (if pc = 20 then xo_aload 0 20 1 lv st M else none) else (if pc = 21 then xo_getf 8 0 21 3 lv st M else none))))) else (if pc < 34 then (if pc < 29 then (if pc < 27 then (if pc = 24 then xo_if .le 4 24 3 lv st M else none) else (if pc < 28 then (if pc = 27 then xo_ret 97 st M else none) else (if pc = 28 then xo_aload 0 28 1 lv st M else none))) else (if pc < 30 then (if pc = 29 then xo_iconst 1 29 1 lv st M else none) else (if pc < 33 then (if pc = 30 then xo_putz 8 4 30 3 lv st M else none) else (if pc = 33 then xo_aload 0 33 1 lv st M else none)))) else (if pc < 39 then (if pc < 35 then (if pc = 34 then xo_iconst 0 34 1 lv st M else none) else (if pc < 38 then (if pc = 35 then xo_puti 8 5 35 3 lv st M else none) else (if pc = 38 then xo_aload 0 38 1 lv st M else none))) else (if pc < 43 then (if pc < 42 then (if pc = 39 then xo_getf 8 9 39 3 lv st M else none) else (if pc = 42 then xo_iconst 0 42 1 lv st M else none)) else (if pc < 44 then (if pc = 43 then xo_iload 1 43 1 lv st M else none) else (if pc = 44 then xo_iast 44 1 lv st M else none)))))) else (if pc < 62 then (if pc < 53 then (if pc < 50 then (if pc < 46 then (if pc = 45 then xo_aload 0 45 1 lv st M else none) else (if pc < 49 then (if pc = 46 then xo_getf 8 10 46 3 lv st M else none) else (if pc = 49 then xo_iconst 0 49 1 lv st M else none))) else (if pc < 51 then (if pc = 50 then xo_iload 1 50 1 lv st M else none) else (if pc < 52 then (if pc = 51 then xo_iast 51 1 lv st M else none) else (if pc = 52 then xo_aload 0 52 1 lv st M else none)))) else (if pc < 58 then (if pc < 56 then (if pc = 53 then xo_getf 8 11 53 3 lv st M else none) else (if pc < 57 then (if pc = 56 then xo_iconst 0 56 1 lv st M else none) else (if pc = 57 then xo_iconst 0 57 1 lv st M else none))) else (if pc < 60 then (if pc < 59 then (if pc = 58 then xo_iast 58 1 lv st M else none) else (if pc = 59 then xo_iconst 0 59 1 lv st M else none)) else (if pc < 61 then (if pc = 60 then xo_istore 2 60 1 lv st M else none) else (if pc = 61 then xo_iload 2 61 1 lv st M else none))))) else (if pc < 73 then (if pc < 67 then (if pc < 63 then (if pc = 62 then xo_iload 1 62 1 lv st M else none) else (if pc < 66 then (if pc = 63 then xo_icmp .ge 74 63 3 lv st M else none) else (if pc = 66 then xo_aload 0 66 1 lv st M else none))) else (if pc < 71 then (if pc < 70 then (if pc = 67 then xo_getf 8 6 67 3 lv st M else none) else (if pc = 70 then xo_iconst 4 70 1 lv st M else none)) else (if pc < 72 then (if pc = 71 then xo_iload 2 71 1 lv st M else none) else (if pc = 72 then xo_imul 72 1 lv st M else none)))) else (if pc < 76 then (if pc < 74 then (if pc = 73 then xo_iload 2 73 1 lv st M else none) else (if pc < 75 then (if pc = 74 then xo_iast 74 1 lv st M else none) else (if pc = 75 then xo_aload 0 75 1 lv st M else none))) else (if pc < 80 then (if pc < 79 then (if pc = 76 then xo_getf 8 7 76 3 lv st M else none) else (if pc = 79 then xo_iload 2 79 1 lv st M else none)) else (if pc < 81 then (if pc = 80 then xo_iconst 1 80 1 lv st M else none) else (if pc = 81 then xo_iast 81 1 lv st M else none))))))) else (if pc < 118 then (if pc < 101 then (if pc < 90 then (if pc < 87 then (if pc < 83 then (if pc = 82 then xo_aload 0 82 1 lv st M else none) else (if pc < 86 then (if pc = 83 then xo_getf 8 8 83 3 lv st M else none) else (if pc = 86 then xo_iload 2 86 1 lv st M else none))) else (if pc < 88 then (if pc = 87 then xo_iconst 0 87 1 lv st M else none) else (if pc < 89 then (if pc = 88 then xo_iast 88 1 lv st M else none) else (if pc = 89 then xo_aload 0 89 1 lv st M else none)))) else (if pc < 95 then (if pc < 93 then (if pc = 90 then xo_getf 8 17 90 3 lv st M else none) else (if pc < 94 then (if pc = 93 then xo_iload 2 93 1 lv st M else none) else (if pc = 94 then xo_iconst 0 94 1 lv st M else none))) else (if pc < 97 then (if pc < 96 then (if pc = 95 then xo_iast 95 1 lv st M else none) else (if pc = 96 then xo_aload 0 96 1 lv st M else none)) else (if pc < 100 then (if pc = 97 then xo_getf 8 18 97 3 lv st M else none) else (if pc = 100 then xo_iload 2 100 1 lv st M else none))))) else (if pc < 109 then (if pc < 104 then (if pc < 102 then (if pc = 101 then xo_iconst 0 101 1 lv st M else none) else (if pc < 103 then (if pc = 102 then xo_iast 102 1 lv st M else none) else (if pc = 103 then xo_aload 0 103 1 lv st M else none))) else (if pc < 107 then (if pc = 104 then xo_getf 8 19 104 3 lv st M else none) else (if pc < 108 then (if pc = 107 then xo_iload 2 107 1 lv st M else none) else (if pc = 108 then xo_iload 2 108 1 lv st M else none)))) else (if pc < 114 then (if pc < 110 then (if pc = 109 then xo_iast 109 1 lv st M else none) else (if pc < 111 then (if pc = 110 then xo_aload 0 110 1 lv st M else none) else (if pc = 111 then xo_getf 8 20 111 3 lv st M else none))) else (if pc < 116 then (if pc < 115 then (if pc = 114 then xo_iload 2 114 1 lv st M else none) else (if pc = 115 then xo_iconst 0 115 1 lv st M else none)) else (if pc < 117 then (if pc = 116 then xo_iast 116 1 lv st M else none) else (if pc = 117 then xo_aload 0 117 1 lv st M else none)))))) else (if pc < 141 then (if pc < 128 then (if pc < 123 then (if pc < 121 then (if pc = 118 then xo_getf 8 21 118 3 lv st M else none) else (if pc < 122 then (if pc = 121 then xo_iload 2 121 1 lv st M else none) else (if pc = 122 then xo_iconst 0 122 1 lv st M else none))) else (if pc < 124 then (if pc = 123 then xo_iast 123 1 lv st M else none) else (if pc < 125 then (if pc = 124 then xo_aload 0 124 1 lv st M else none) else (if pc = 125 then xo_getf 8 22 125 3 lv st M else none)))) else (if pc < 131 then (if pc < 129 then (if pc = 128 then xo_iload 2 128 1 lv st M else none) else (if pc < 130 then (if pc = 129 then xo_iconst 0 129 1 lv st M else none) else (if pc = 130 then xo_iast 130 1 lv st M else none))) else (if pc < 137 then (if pc < 134 then (if pc = 131 then xo_iinc 2 1 131 3 lv st M else none) else (if pc = 134 then xo_goto (-73) 134 lv st M else none)) else (if pc < 138 then (if pc = 137 then xo_aload 0 137 1 lv st M else none) else (if pc = 138 then xo_getf 8 12 138 3 lv st M else none))))) else (if pc < 150 then (if pc < 144 then (if pc < 142 then (if pc = 141 then xo_iconst 0 141 1 lv st M else none) else (if pc < 143 then (if pc = 142 then xo_iconst 1 142 1 lv st M else none) else (if pc = 143 then xo_iast 143 1 lv st M else none))) else (if pc < 148 then (if pc < 145 then (if pc = 144 then xo_aload 0 144 1 lv st M else none) else (if pc = 145 then xo_getf 8 12 145 3 lv st M else none)) else (if pc < 149 then (if pc = 148 then xo_iconst 1 148 1 lv st M else none) else (if pc = 149 then xo_iconst (-1) 149 1 lv st M else none)))) else (if pc < 155 then (if pc < 151 then (if pc = 150 then xo_iast 150 1 lv st M else none) else (if pc < 152 then (if pc = 151 then xo_aload 0 151 1 lv st M else none) else (if pc = 152 then xo_getf 8 12 152 3 lv st M else none))) else (if pc < 157 then (if pc < 156 then (if pc = 155 then xo_iconst 2 155 1 lv st M else none) else (if pc = 156 then xo_iconst (-1) 156 1 lv st M else none)) else (if pc < 158 then (if pc = 157 then xo_iast 157 1 lv st M else none) else (if pc = 158 then xo_ret 97 st M else none)))))))
def cd_98 (pc : Nat) (lv : XL) (st : List XV) (M : XM) : Option XN := if pc < 42 then (if pc < 22 then (if pc < 12 then (if pc < 5 then (if pc < 1 then (if pc = 0 then xo_aload 0 0 1 lv st M else none) else (if pc < 2 then (if pc = 1 then xo_iconst 0 1 1 lv st M else none) else (if pc = 2 then xo_puti 8 0 2 3 lv st M else none))) else (if pc < 6 then (if pc = 5 then xo_aload 0 5 1 lv st M else none) else (if pc < 9 then (if pc = 6 then xo_getf 8 4 6 3 lv st M else none) else (if pc = 9 then xo_if .eq 10 9 3 lv st M else none)))) else (if pc < 19 then (if pc < 13 then (if pc = 12 then xo_aload 0 12 1 lv st M else none) else (if pc < 16 then (if pc = 13 then xo_getf 8 5 13 3 lv st M else none) else (if pc = 16 then xo_if .ne 5 16 3 lv st M else none))) else (if pc < 20 then (if pc = 19 then xo_iconst (-1) 19 1 lv st M else none) else (if pc < 21 then (if pc = 20 then xo_ret 98 st M else none) else (if pc = 21 then xo_iconst 0 21 1 lv st M else none))))) else (if pc < 32 then (if pc < 25 then (if pc < 23 then (if pc = 22 then xo_istore 1 22 1 lv st M else none) else (if pc < 24 then (if pc = 23 then xo_iload 1 23 1 lv st M else none) else (if pc = 24 then xo_aload 0 24 1 lv st M else none))) else (if pc < 28 then (if pc = 25 then xo_getf 8 10 25 3 lv st M else none) else (if pc < 29 then (if pc = 28 then xo_aload 0 28 1 lv st M else none) else (if pc = 29 then xo_getf 8 5 29 3 lv st M else none)))) else (if pc < 37 then (if pc < 33 then (if pc = 32 then xo_iald 32 1 lv st M else none) else (if pc < 36 then (if pc = 33 then xo_icmp .ge 38 33 3 lv st M else none) else (if pc = 36 then xo_aload 0 36 1 lv st M else none))) else (if pc < 40 then (if pc = 37 then xo_getf 8 22 37 3 lv st M else none) else (if pc < 41 then (if pc = 40 then xo_iload 1 40 1 lv st M else none) else (if pc = 41 then xo_aload 0 41 1 lv st M else none)))))) else (if pc < 64 then (if pc < 54 then (if pc < 47 then (if pc < 45 then (if pc = 42 then xo_getf 8 22 42 3 lv st M else none) else (if pc < 46 then (if pc = 45 then xo_iload 1 45 1 lv st M else none) else (if pc = 46 then xo_iald 46 1 lv st M else none))) else (if pc < 48 then (if pc = 47 then xo_aload 0 47 1 lv st M else none) else (if pc < 51 then (if pc = 48 then xo_getf 8 5 48 3 lv st M else none) else (if pc = 51 then xo_icmp .ne 7 51 3 lv st M else none)))) else (if pc < 59 then (if pc < 55 then (if pc = 54 then xo_iconst 0 54 1 lv st M else none) else (if pc < 58 then (if pc = 55 then xo_goto 9 55 lv st M else none) else (if pc = 58 then xo_aload 0 58 1 lv st M else none))) else (if pc < 62 then (if pc = 59 then xo_getf 8 22 59 3 lv st M else none) else (if pc < 63 then (if pc = 62 then xo_iload 1 62 1 lv st M else none) else (if pc = 63 then xo_iald 63 1 lv st M else none))))) else (if pc < 76 then (if pc < 71 then (if pc < 65 then (if pc = 64 then xo_iast 64 1 lv st M else none) else (if pc < 68 then (if pc = 65 then xo_iinc 1 1 65 3 lv st M else none) else (if pc = 68 then xo_goto (-45) 68 lv st M else none))) else (if pc < 72 then (if pc = 71 then xo_aload 0 71 1 lv st M else none) else (if pc < 73 then (if pc = 72 then xo_dup 72 1 lv st M else none) else (if pc = 73 then xo_getf 8 5 73 3 lv st M else none)))) else (if pc < 81 then (if pc < 77 then (if pc = 76 then xo_iconst 1 76 1 lv st M else none) else (if pc < 78 then (if pc = 77 then xo_isub 77 1 lv st M else none) else (if pc = 78 then xo_puti 8 5 78 3 lv st M else none))) else (if pc < 82 then (if pc = 81 then xo_aload 0 81 1 lv st M else none) else (if pc < 85 then (if pc = 82 then xo_getf 8 5 82 3 lv st M else none) else (if pc = 85 then xo_ret 98 st M else none))))))
def cd_99 (pc : Nat) (lv : XL) (st : List XV) (M : XM) : Option XN := if pc < 40 then (if pc < 17 then (if pc < 9 then (if pc < 2 then (if pc < 1 then (if pc = 0 then xo_aload 0 0 1 lv st M else none) else (if pc = 1 then xo_iconst 0 1 1 lv st M else none)) else (if pc < 5 then (if pc = 2 then xo_puti 8 0 2 3 lv st M else none) else (if pc < 6 then (if pc = 5 then xo_iload 1 5 1 lv st M else none) else (if pc = 6 then xo_if .lt 8 6 3 lv st M else none)))) else (if pc < 14 then (if pc < 10 then (if pc = 9 then xo_iload 1 9 1 lv st M else none) else (if pc < 11 then (if pc = 10 then xo_iconst 3 10 1 lv st M else none) else (if pc = 11 then xo_icmp .le 5 11 3 lv st M else none))) else (if pc < 15 then (if pc = 14 then xo_iconst (-1) 14 1 lv st M else none) else (if pc < 16 then (if pc = 15 then xo_ret 99 st M else none) else (if pc = 16 then xo_aload 0 16 1 lv st M else none))))) else (if pc < 28 then (if pc < 23 then (if pc < 20 then (if pc = 17 then xo_getf 8 4 17 3 lv st M else none) else (if pc = 20 then xo_if .ne 7 20 3 lv st M else none)) else (if pc < 24 then (if pc = 23 then xo_iconst 0 23 1 lv st M else none) else (if pc < 27 then (if pc = 24 then xo_goto 57 24 lv st M else none) else (if pc = 27 then xo_iload 1 27 1 lv st M else none)))) else (if pc < 35 then (if pc < 31 then (if pc = 28 then xo_if .ne 10 28 3 lv st M else none) else (if pc < 32 then (if pc = 31 then xo_aload 0 31 1 lv st M else none) else (if pc = 32 then xo_getf 8 5 32 3 lv st M else none))) else (if pc < 38 then (if pc = 35 then xo_goto 46 35 lv st M else none) else (if pc < 39 then (if pc = 38 then xo_iload 1 38 1 lv st M else none) else (if pc = 39 then xo_iconst 1 39 1 lv st M else none)))))) else (if pc < 61 then (if pc < 51 then (if pc < 44 then (if pc < 43 then (if pc = 40 then xo_icmp .ne 15 40 3 lv st M else none) else (if pc = 43 then xo_aload 0 43 1 lv st M else none)) else (if pc < 47 then (if pc = 44 then xo_getf 8 9 44 3 lv st M else none) else (if pc < 48 then (if pc = 47 then xo_aload 0 47 1 lv st M else none) else (if pc = 48 then xo_getf 8 5 48 3 lv st M else none)))) else (if pc < 56 then (if pc < 52 then (if pc = 51 then xo_iald 51 1 lv st M else none) else (if pc < 55 then (if pc = 52 then xo_goto 29 52 lv st M else none) else (if pc = 55 then xo_iload 1 55 1 lv st M else none))) else (if pc < 57 then (if pc = 56 then xo_iconst 2 56 1 lv st M else none) else (if pc < 60 then (if pc = 57 then xo_icmp .ne 15 57 3 lv st M else none) else (if pc = 60 then xo_aload 0 60 1 lv st M else none))))) else (if pc < 72 then (if pc < 65 then (if pc < 64 then (if pc = 61 then xo_getf 8 10 61 3 lv st M else none) else (if pc = 64 then xo_aload 0 64 1 lv st M else none)) else (if pc < 68 then (if pc = 65 then xo_getf 8 5 65 3 lv st M else none) else (if pc < 69 then (if pc = 68 then xo_iald 68 1 lv st M else none) else (if pc = 69 then xo_goto 12 69 lv st M else none)))) else (if pc < 77 then (if pc < 73 then (if pc = 72 then xo_aload 0 72 1 lv st M else none) else (if pc < 76 then (if pc = 73 then xo_getf 8 11 73 3 lv st M else none) else (if pc = 76 then xo_aload 0 76 1 lv st M else none))) else (if pc < 80 then (if pc = 77 then xo_getf 8 5 77 3 lv st M else none) else (if pc < 81 then (if pc = 80 then xo_iald 80 1 lv st M else none) else (if pc = 81 then xo_ret 99 st M else none))))))
def cd_100 (pc : Nat) (lv : XL) (st : List XV) (M : XM) : Option XN := if pc < 13 then (if pc < 7 then (if pc < 1 then (if pc = 0 then xo_aload 0 0 1 lv st M else none) else (if pc < 4 then (if pc = 1 then xo_getf 8 4 1 3 lv st M else none) else (if pc = 4 then xo_if .eq 16 4 3 lv st M else none))) else (if pc < 9 then (if pc < 8 then (if pc = 7 then xo_iload 1 7 1 lv st M else none) else (if pc = 8 then xo_iconst 1 8 1 lv st M else none)) else (if pc < 12 then (if pc = 9 then xo_icmp .lt 11 9 3 lv st M else none) else (if pc = 12 then xo_iload 1 12 1 lv st M else none)))) else (if pc < 20 then (if pc < 14 then (if pc = 13 then xo_aload 0 13 1 lv st M else none) else (if pc < 17 then (if pc = 14 then xo_getf 8 5 14 3 lv st M else none) else (if pc = 17 then xo_icmp .le 7 17 3 lv st M else none))) else (if pc < 24 then (if pc < 21 then (if pc = 20 then xo_iconst 1 20 1 lv st M else none) else (if pc = 21 then xo_goto 4 21 lv st M else none)) else (if pc < 25 then (if pc = 24 then xo_iconst 0 24 1 lv st M else none) else (if pc = 25 then xo_ret 100 st M else none))))
def cd_101 (pc : Nat) (lv : XL) (st : List XV) (M : XM) : Option XN := if pc < 16 then (if pc < 8 then (if pc < 4 then (if pc < 1 then (if pc = 0 then xo_aload 0 0 1 lv st M else none) else (if pc = 1 then xo_getf 8 4 1 3 lv st M else none)) else (if pc < 7 then (if pc = 4 then xo_if .eq 20 4 3 lv st M else none) else (if pc = 7 then xo_iload 1 7 1 lv st M else none))) else (if pc < 12 then (if pc < 11 then (if pc = 8 then xo_if .lt 16 8 3 lv st M else none) else (if pc = 11 then xo_iload 1 11 1 lv st M else none)) else (if pc < 13 then (if pc = 12 then xo_aload 0 12 1 lv st M else none) else (if pc = 13 then xo_getf 8 10 13 3 lv st M else none)))) else (if pc < 24 then (if pc < 20 then (if pc < 17 then (if pc = 16 then xo_aload 0 16 1 lv st M else none) else (if pc = 17 then xo_getf 8 5 17 3 lv st M else none)) else (if pc < 21 then (if pc = 20 then xo_iald 20 1 lv st M else none) else (if pc = 21 then xo_icmp .lt 7 21 3 lv st M else none))) else (if pc < 28 then (if pc < 25 then (if pc = 24 then xo_iconst 1 24 1 lv st M else none) else (if pc = 25 then xo_goto 4 25 lv st M else none)) else (if pc < 29 then (if pc = 28 then xo_iconst 0 28 1 lv st M else none) else (if pc = 29 then xo_ret 101 st M else none))))
def cd_102 (pc : Nat) (lv : XL) (st : List XV) (M : XM) : Option XN := if pc < 146 then (if pc < 74 then (if pc < 31 then (if pc < 15 then (if pc < 8 then (if pc < 2 then (if pc < 1 then (if pc = 0 then xo_aload 0 0 1 lv st M else none) else (if pc = 1 then xo_aload 0 1 1 lv st M else none)) else (if pc < 5 then (if pc = 2 then xo_getf 8 13 2 3 lv st M else none) else (if pc < 7 then (if pc = 5 then xo_iconst 40 5 2 lv st M else none) else (if pc = 7 then xo_iload 1 7 1 lv st M else none)))) else (if pc < 10 then (if pc < 9 then (if pc = 8 then xo_imul 8 1 lv st M else none) else (if pc = 9 then xo_aload 0 9 1 lv st M else none)) else (if pc < 13 then (if pc = 10 then xo_getf 8 14 10 3 lv st M else none) else (if pc < 14 then (if pc = 13 then xo_iload 1 13 1 lv st M else none) else (if pc = 14 then xo_iald 14 1 lv st M else none))))) else (if pc < 22 then (if pc < 19 then (if pc < 18 then (if pc = 15 then xo_call true 102 75 st else none) else (if pc = 18 then xo_istore 3 18 1 lv st M else none)) else (if pc < 20 then (if pc = 19 then xo_iload 1 19 1 lv st M else none) else (if pc < 21 then (if pc = 20 then xo_iconst 1 20 1 lv st M else none) else (if pc = 21 then xo_isub 21 1 lv st M else none)))) else (if pc < 27 then (if pc < 24 then (if pc = 22 then xo_istore 4 22 2 lv st M else none) else (if pc < 25 then (if pc = 24 then xo_iconst 0 24 1 lv st M else none) else (if pc = 25 then xo_istore 5 25 2 lv st M else none))) else (if pc < 28 then (if pc = 27 then xo_iconst 0 27 1 lv st M else none) else (if pc < 30 then (if pc = 28 then xo_istore 6 28 2 lv st M else none) else (if pc = 30 then xo_iconst 0 30 1 lv st M else none)))))) else (if pc < 54 then (if pc < 42 then (if pc < 35 then (if pc < 33 then (if pc = 31 then xo_istore 7 31 2 lv st M else none) else (if pc = 33 then xo_iload 7 33 2 lv st M else none)) else (if pc < 36 then (if pc = 35 then xo_aload 0 35 1 lv st M else none) else (if pc < 39 then (if pc = 36 then xo_getf 8 23 36 3 lv st M else none) else (if pc = 39 then xo_icmp .ge 243 39 3 lv st M else none)))) else (if pc < 48 then (if pc < 43 then (if pc = 42 then xo_aload 0 42 1 lv st M else none) else (if pc < 46 then (if pc = 43 then xo_getf 8 24 43 3 lv st M else none) else (if pc = 46 then xo_iload 7 46 2 lv st M else none))) else (if pc < 49 then (if pc = 48 then xo_iald 48 1 lv st M else none) else (if pc < 51 then (if pc = 49 then xo_iconst 60 49 2 lv st M else none) else (if pc = 51 then xo_icmp .eq 15 51 3 lv st M else none))))) else (if pc < 63 then (if pc < 58 then (if pc < 55 then (if pc = 54 then xo_aload 0 54 1 lv st M else none) else (if pc = 55 then xo_getf 8 24 55 3 lv st M else none)) else (if pc < 60 then (if pc = 58 then xo_iload 7 58 2 lv st M else none) else (if pc < 61 then (if pc = 60 then xo_iald 60 1 lv st M else none) else (if pc = 61 then xo_iconst 62 61 2 lv st M else none)))) else (if pc < 70 then (if pc < 66 then (if pc = 63 then xo_icmp .ne 7 63 3 lv st M else none) else (if pc < 67 then (if pc = 66 then xo_iconst 1 66 1 lv st M else none) else (if pc = 67 then xo_goto 4 67 lv st M else none))) else (if pc < 71 then (if pc = 70 then xo_iconst 0 70 1 lv st M else none) else (if pc < 73 then (if pc = 71 then xo_istore 8 71 2 lv st M else none) else (if pc = 73 then xo_iconst 0 73 1 lv st M else none))))))) else (if pc < 112 then (if pc < 92 then (if pc < 83 then (if pc < 78 then (if pc < 76 then (if pc = 74 then xo_istore 9 74 2 lv st M else none) else (if pc = 76 then xo_iload 9 76 2 lv st M else none)) else (if pc < 79 then (if pc = 78 then xo_iconst 4 78 1 lv st M else none) else (if pc < 80 then (if pc = 79 then xo_aload 0 79 1 lv st M else none) else (if pc = 80 then xo_getf 8 26 80 3 lv st M else none)))) else (if pc < 86 then (if pc < 85 then (if pc = 83 then xo_iload 7 83 2 lv st M else none) else (if pc = 85 then xo_iald 85 1 lv st M else none)) else (if pc < 87 then (if pc = 86 then xo_imul 86 1 lv st M else none) else (if pc < 90 then (if pc = 87 then xo_icmp .ge 178 87 3 lv st M else none) else (if pc = 90 then xo_iload 8 90 2 lv st M else none))))) else (if pc < 101 then (if pc < 96 then (if pc < 95 then (if pc = 92 then xo_if .eq 173 92 3 lv st M else none) else (if pc = 95 then xo_iconst 0 95 1 lv st M else none)) else (if pc < 98 then (if pc = 96 then xo_istore 10 96 2 lv st M else none) else (if pc < 100 then (if pc = 98 then xo_iload 10 98 2 lv st M else none) else (if pc = 100 then xo_iconst 4 100 1 lv st M else none)))) else (if pc < 107 then (if pc < 102 then (if pc = 101 then xo_aload 0 101 1 lv st M else none) else (if pc < 105 then (if pc = 102 then xo_getf 8 27 102 3 lv st M else none) else (if pc = 105 then xo_iload 7 105 2 lv st M else none))) else (if pc < 108 then (if pc = 107 then xo_iald 107 1 lv st M else none) else (if pc < 109 then (if pc = 108 then xo_imul 108 1 lv st M else none) else (if pc = 109 then xo_icmp .ge 150 109 3 lv st M else none)))))) else (if pc < 130 then (if pc < 119 then (if pc < 116 then (if pc < 114 then (if pc = 112 then xo_iload 5 112 2 lv st M else none) else (if pc = 114 then xo_iload 9 114 2 lv st M else none)) else (if pc < 117 then (if pc = 116 then xo_iconst 4 116 1 lv st M else none) else (if pc < 118 then (if pc = 117 then xo_idiv 117 1 lv st M else none) else (if pc = 118 then xo_iadd 118 1 lv st M else none)))) else (if pc < 124 then (if pc < 121 then (if pc = 119 then xo_istore 11 119 2 lv st M else none) else (if pc < 123 then (if pc = 121 then xo_iload 5 121 2 lv st M else none) else (if pc = 123 then xo_aload 0 123 1 lv st M else none))) else (if pc < 127 then (if pc = 124 then xo_getf 8 26 124 3 lv st M else none) else (if pc < 129 then (if pc = 127 then xo_iload 7 127 2 lv st M else none) else (if pc = 129 then xo_iald 129 1 lv st M else none))))) else (if pc < 136 then (if pc < 133 then (if pc < 131 then (if pc = 130 then xo_iadd 130 1 lv st M else none) else (if pc = 131 then xo_iload 10 131 2 lv st M else none)) else (if pc < 134 then (if pc = 133 then xo_iconst 4 133 1 lv st M else none) else (if pc < 135 then (if pc = 134 then xo_idiv 134 1 lv st M else none) else (if pc = 135 then xo_iadd 135 1 lv st M else none)))) else (if pc < 141 then (if pc < 138 then (if pc = 136 then xo_istore 12 136 2 lv st M else none) else (if pc < 140 then (if pc = 138 then xo_iload 9 138 2 lv st M else none) else (if pc = 140 then xo_iconst 4 140 1 lv st M else none))) else (if pc < 142 then (if pc = 141 then xo_irem 141 1 lv st M else none) else (if pc < 143 then (if pc = 142 then xo_aload 0 142 1 lv st M else none) else (if pc = 143 then xo_getf 8 7 143 3 lv st M else none)))))))) else (if pc < 217 then (if pc < 181 then (if pc < 162 then (if pc < 154 then (if pc < 150 then (if pc < 148 then (if pc = 146 then xo_iconst 16 146 2 lv st M else none) else (if pc = 148 then xo_iload 4 148 2 lv st M else none)) else (if pc < 151 then (if pc = 150 then xo_imul 150 1 lv st M else none) else (if pc < 153 then (if pc = 151 then xo_iload 11 151 2 lv st M else none) else (if pc = 153 then xo_iadd 153 1 lv st M else none)))) else (if pc < 158 then (if pc < 155 then (if pc = 154 then xo_iald 154 1 lv st M else none) else (if pc = 155 then xo_icmp .ge 98 155 3 lv st M else none)) else (if pc < 160 then (if pc = 158 then xo_iload 10 158 2 lv st M else none) else (if pc < 161 then (if pc = 160 then xo_iconst 4 160 1 lv st M else none) else (if pc = 161 then xo_irem 161 1 lv st M else none))))) else (if pc < 171 then (if pc < 166 then (if pc < 163 then (if pc = 162 then xo_aload 0 162 1 lv st M else none) else (if pc = 163 then xo_getf 8 7 163 3 lv st M else none)) else (if pc < 168 then (if pc = 166 then xo_iconst 16 166 2 lv st M else none) else (if pc < 170 then (if pc = 168 then xo_iload 4 168 2 lv st M else none) else (if pc = 170 then xo_imul 170 1 lv st M else none)))) else (if pc < 175 then (if pc < 173 then (if pc = 171 then xo_iload 12 171 2 lv st M else none) else (if pc < 174 then (if pc = 173 then xo_iadd 173 1 lv st M else none) else (if pc = 174 then xo_iald 174 1 lv st M else none))) else (if pc < 178 then (if pc = 175 then xo_icmp .ge 78 175 3 lv st M else none) else (if pc < 180 then (if pc = 178 then xo_iload 6 178 2 lv st M else none) else (if pc = 180 then xo_iload 2 180 1 lv st M else none)))))) else (if pc < 201 then (if pc < 193 then (if pc < 187 then (if pc < 184 then (if pc = 181 then xo_icmp .ne 69 181 3 lv st M else none) else (if pc = 184 then xo_iconst 1024 184 3 lv st M else none)) else (if pc < 188 then (if pc = 187 then xo_aload 0 187 1 lv st M else none) else (if pc < 191 then (if pc = 188 then xo_getf 8 6 188 3 lv st M else none) else (if pc = 191 then xo_iconst 64 191 2 lv st M else none)))) else (if pc < 197 then (if pc < 195 then (if pc = 193 then xo_iload 4 193 2 lv st M else none) else (if pc < 196 then (if pc = 195 then xo_imul 195 1 lv st M else none) else (if pc = 196 then xo_iconst 4 196 1 lv st M else none))) else (if pc < 199 then (if pc = 197 then xo_iload 11 197 2 lv st M else none) else (if pc < 200 then (if pc = 199 then xo_imul 199 1 lv st M else none) else (if pc = 200 then xo_iadd 200 1 lv st M else none))))) else (if pc < 207 then (if pc < 204 then (if pc < 203 then (if pc = 201 then xo_iload 9 201 2 lv st M else none) else (if pc = 203 then xo_iconst 4 203 1 lv st M else none)) else (if pc < 205 then (if pc = 204 then xo_irem 204 1 lv st M else none) else (if pc < 206 then (if pc = 205 then xo_iadd 205 1 lv st M else none) else (if pc = 206 then xo_iald 206 1 lv st M else none)))) else (if pc < 210 then (if pc < 208 then (if pc = 207 then xo_imul 207 1 lv st M else none) else (if pc < 209 then (if pc = 208 then xo_iconst 2 208 1 lv st M else none) else (if pc = 209 then xo_aload 0 209 1 lv st M else none))) else (if pc < 213 then (if pc = 210 then xo_getf 8 6 210 3 lv st M else none) else (if pc < 215 then (if pc = 213 then xo_iconst 64 213 2 lv st M else none) else (if pc = 215 then xo_iload 4 215 2 lv st M else none))))))) else (if pc < 248 then (if pc < 229 then (if pc < 223 then (if pc < 219 then (if pc < 218 then (if pc = 217 then xo_imul 217 1 lv st M else none) else (if pc = 218 then xo_iconst 4 218 1 lv st M else none)) else (if pc < 221 then (if pc = 219 then xo_iload 12 219 2 lv st M else none) else (if pc < 222 then (if pc = 221 then xo_imul 221 1 lv st M else none) else (if pc = 222 then xo_iadd 222 1 lv st M else none)))) else (if pc < 226 then (if pc < 225 then (if pc = 223 then xo_iload 10 223 2 lv st M else none) else (if pc = 225 then xo_iconst 4 225 1 lv st M else none)) else (if pc < 227 then (if pc = 226 then xo_irem 226 1 lv st M else none) else (if pc < 228 then (if pc = 227 then xo_iadd 227 1 lv st M else none) else (if pc = 228 then xo_iald 228 1 lv st M else none))))) else (if pc < 237 then (if pc < 231 then (if pc < 230 then (if pc = 229 then xo_imul 229 1 lv st M else none) else (if pc = 230 then xo_iadd 230 1 lv st M else none)) else (if pc < 232 then (if pc = 231 then xo_aload 0 231 1 lv st M else none) else (if pc < 235 then (if pc = 232 then xo_getf 8 24 232 3 lv st M else none) else (if pc = 235 then xo_iload 7 235 2 lv st M else none)))) else (if pc < 243 then (if pc < 238 then (if pc = 237 then xo_iald 237 1 lv st M else none) else (if pc < 240 then (if pc = 238 then xo_iconst 60 238 2 lv st M else none) else (if pc = 240 then xo_icmp .ne 7 240 3 lv st M else none))) else (if pc < 244 then (if pc = 243 then xo_iconst 1 243 1 lv st M else none) else (if pc < 247 then (if pc = 244 then xo_goto 4 244 lv st M else none) else (if pc = 247 then xo_iconst 0 247 1 lv st M else none)))))) else (if pc < 273 then (if pc < 259 then (if pc < 250 then (if pc < 249 then (if pc = 248 then xo_iadd 248 1 lv st M else none) else (if pc = 249 then xo_ret 102 st M else none)) else (if pc < 253 then (if pc = 250 then xo_iinc 6 1 250 3 lv st M else none) else (if pc < 256 then (if pc = 253 then xo_iinc 10 1 253 3 lv st M else none) else (if pc = 256 then xo_goto (-158) 256 lv st M else none)))) else (if pc < 267 then (if pc < 262 then (if pc = 259 then xo_iinc 9 1 259 3 lv st M else none) else (if pc < 265 then (if pc = 262 then xo_goto (-186) 262 lv st M else none) else (if pc = 265 then xo_iload 5 265 2 lv st M else none))) else (if pc < 268 then (if pc = 267 then xo_aload 0 267 1 lv st M else none) else (if pc < 270 then (if pc = 268 then xo_iload 7 268 2 lv st M else none) else (if pc = 270 then xo_call true 102 76 st else none))))) else (if pc < 283 then (if pc < 276 then (if pc < 274 then (if pc = 273 then xo_iadd 273 1 lv st M else none) else (if pc = 274 then xo_istore 5 274 2 lv st M else none)) else (if pc < 279 then (if pc = 276 then xo_iinc 7 1 276 3 lv st M else none) else (if pc < 282 then (if pc = 279 then xo_goto (-246) 279 lv st M else none) else (if pc = 282 then xo_iload 2 282 1 lv st M else none)))) else (if pc < 289 then (if pc < 284 then (if pc = 283 then xo_iconst (-1) 283 1 lv st M else none) else (if pc < 287 then (if pc = 284 then xo_icmp .ne 8 284 3 lv st M else none) else (if pc = 287 then xo_iload 6 287 2 lv st M else none))) else (if pc < 292 then (if pc = 289 then xo_goto 4 289 lv st M else none) else (if pc < 293 then (if pc = 292 then xo_iconst (-1) 292 1 lv st M else none) else (if pc = 293 then xo_ret 102 st M else none))))))))
def cd_103 (pc : Nat) (lv : XL) (st : List XV) (M : XM) : Option XN := if pc < 37 then (if pc < 17 then (if pc < 6 then (if pc < 2 then (if pc < 1 then (if pc = 0 then xo_aload 0 0 1 lv st M else none) else (if pc = 1 then xo_aload 0 1 1 lv st M else none)) else (if pc < 3 then (if pc = 2 then xo_iload 1 2 1 lv st M else none) else (if pc = 3 then xo_call true 103 100 st else none))) else (if pc < 10 then (if pc < 9 then (if pc = 6 then xo_if .eq 7 6 3 lv st M else none) else (if pc = 9 then xo_iconst 1 9 1 lv st M else none)) else (if pc < 13 then (if pc = 10 then xo_goto 17 10 lv st M else none) else (if pc < 14 then (if pc = 13 then xo_iload 2 13 1 lv st M else none) else (if pc = 14 then xo_if .lt 8 14 3 lv st M else none))))) else (if pc < 26 then (if pc < 19 then (if pc < 18 then (if pc = 17 then xo_iload 2 17 1 lv st M else none) else (if pc = 18 then xo_iconst 4 18 1 lv st M else none)) else (if pc < 22 then (if pc = 19 then xo_icmp .le 7 19 3 lv st M else none) else (if pc < 23 then (if pc = 22 then xo_iconst 2 22 1 lv st M else none) else (if pc = 23 then xo_goto 4 23 lv st M else none)))) else (if pc < 30 then (if pc < 27 then (if pc = 26 then xo_iconst 0 26 1 lv st M else none) else (if pc = 27 then xo_puti 8 0 27 3 lv st M else none)) else (if pc < 31 then (if pc = 30 then xo_aload 0 30 1 lv st M else none) else (if pc < 34 then (if pc = 31 then xo_getf 8 0 31 3 lv st M else none) else (if pc = 34 then xo_if .le 7 34 3 lv st M else none)))))) else (if pc < 52 then (if pc < 43 then (if pc < 41 then (if pc < 38 then (if pc = 37 then xo_iconst 0 37 1 lv st M else none) else (if pc = 38 then xo_goto 27 38 lv st M else none)) else (if pc < 42 then (if pc = 41 then xo_iload 2 41 1 lv st M else none) else (if pc = 42 then xo_iconst 4 42 1 lv st M else none))) else (if pc < 47 then (if pc < 46 then (if pc = 43 then xo_icmp .ne 12 43 3 lv st M else none) else (if pc = 46 then xo_aload 0 46 1 lv st M else none)) else (if pc < 48 then (if pc = 47 then xo_iload 1 47 1 lv st M else none) else (if pc < 49 then (if pc = 48 then xo_iconst (-1) 48 1 lv st M else none) else (if pc = 49 then xo_call true 103 102 st else none))))) else (if pc < 61 then (if pc < 56 then (if pc < 55 then (if pc = 52 then xo_goto 13 52 lv st M else none) else (if pc = 55 then xo_aload 0 55 1 lv st M else none)) else (if pc < 59 then (if pc = 56 then xo_getf 8 15 56 3 lv st M else none) else (if pc < 60 then (if pc = 59 then xo_iconst 4 59 1 lv st M else none) else (if pc = 60 then xo_iload 1 60 1 lv st M else none)))) else (if pc < 63 then (if pc < 62 then (if pc = 61 then xo_imul 61 1 lv st M else none) else (if pc = 62 then xo_iload 2 62 1 lv st M else none)) else (if pc < 64 then (if pc = 63 then xo_iadd 63 1 lv st M else none) else (if pc < 65 then (if pc = 64 then xo_iald 64 1 lv st M else none) else (if pc = 65 then xo_ret 103 st M else none))))))
def cd_104 (pc : Nat) (lv : XL) (st : List XV) (M : XM) : Option XN := if pc < 32 then (if pc < 14 then (if pc < 6 then (if pc < 2 then (if pc < 1 then (if pc = 0 then xo_aload 0 0 1 lv st M else none) else (if pc = 1 then xo_aload 0 1 1 lv st M else none)) else (if pc < 3 then (if pc = 2 then xo_iload 1 2 1 lv st M else none) else (if pc = 3 then xo_call true 104 101 st else none))) else (if pc < 10 then (if pc < 9 then (if pc = 6 then xo_if .eq 7 6 3 lv st M else none) else (if pc = 9 then xo_iconst 1 9 1 lv st M else none)) else (if pc < 13 then (if pc = 10 then xo_goto 4 10 lv st M else none) else (if pc = 13 then xo_iconst 0 13 1 lv st M else none)))) else (if pc < 24 then (if pc < 18 then (if pc < 17 then (if pc = 14 then xo_puti 8 0 14 3 lv st M else none) else (if pc = 17 then xo_aload 0 17 1 lv st M else none)) else (if pc < 21 then (if pc = 18 then xo_getf 8 0 18 3 lv st M else none) else (if pc = 21 then xo_if .le 7 21 3 lv st M else none))) else (if pc < 28 then (if pc < 25 then (if pc = 24 then xo_iconst 0 24 1 lv st M else none) else (if pc = 25 then xo_goto 31 25 lv st M else none)) else (if pc < 29 then (if pc = 28 then xo_iload 2 28 1 lv st M else none) else (if pc = 29 then xo_if .lt 13 29 3 lv st M else none))))) else (if pc < 46 then (if pc < 38 then (if pc < 34 then (if pc < 33 then (if pc = 32 then xo_iload 2 32 1 lv st M else none) else (if pc = 33 then xo_aload 0 33 1 lv st M else none)) else (if pc < 37 then (if pc = 34 then xo_getf 8 17 34 3 lv st M else none) else (if pc = 37 then xo_iload 1 37 1 lv st M else none))) else (if pc < 42 then (if pc < 39 then (if pc = 38 then xo_iald 38 1 lv st M else none) else (if pc = 39 then xo_icmp .lt 7 39 3 lv st M else none)) else (if pc < 43 then (if pc = 42 then xo_iconst (-1) 42 1 lv st M else none) else (if pc = 43 then xo_goto 13 43 lv st M else none)))) else (if pc < 52 then (if pc < 50 then (if pc < 47 then (if pc = 46 then xo_aload 0 46 1 lv st M else none) else (if pc = 47 then xo_getf 8 16 47 3 lv st M else none)) else (if pc < 51 then (if pc = 50 then xo_iconst 4 50 1 lv st M else none) else (if pc = 51 then xo_iload 1 51 1 lv st M else none))) else (if pc < 54 then (if pc < 53 then (if pc = 52 then xo_imul 52 1 lv st M else none) else (if pc = 53 then xo_iload 2 53 1 lv st M else none)) else (if pc < 55 then (if pc = 54 then xo_iadd 54 1 lv st M else none) else (if pc < 56 then (if pc = 55 then xo_iald 55 1 lv st M else none) else (if pc = 56 then xo_ret 104 st M else none))))))
def cd_105 (pc : Nat) (lv : XL) (st : List XV) (M : XM) : Option XN := if pc < 38 then (if pc < 17 then (if pc < 7 then (if pc < 2 then (if pc < 1 then (if pc = 0 then xo_iconst 0 0 1 lv st M else none) else (if pc = 1 then xo_istore 2 1 1 lv st M else none)) else (if pc < 3 then (if pc = 2 then xo_iload 2 2 1 lv st M else none) else (if pc < 4 then (if pc = 3 then xo_aload 0 3 1 lv st M else none) else (if pc = 4 then xo_getf 8 9 4 3 lv st M else none)))) else (if pc < 12 then (if pc < 8 then (if pc = 7 then xo_aload 0 7 1 lv st M else none) else (if pc < 11 then (if pc = 8 then xo_getf 8 5 8 3 lv st M else none) else (if pc = 11 then xo_iald 11 1 lv st M else none))) else (if pc < 15 then (if pc = 12 then xo_icmp .ge 50 12 3 lv st M else none) else (if pc < 16 then (if pc = 15 then xo_iconst 0 15 1 lv st M else none) else (if pc = 16 then xo_istore 3 16 1 lv st M else none))))) else (if pc < 27 then (if pc < 20 then (if pc < 18 then (if pc = 17 then xo_iload 3 17 1 lv st M else none) else (if pc < 19 then (if pc = 18 then xo_aload 0 18 1 lv st M else none) else (if pc = 19 then xo_iload 2 19 1 lv st M else none))) else (if pc < 23 then (if pc = 20 then xo_call true 105 79 st else none) else (if pc < 26 then (if pc = 23 then xo_icmp .ge 33 23 3 lv st M else none) else (if pc = 26 then xo_aload 0 26 1 lv st M else none)))) else (if pc < 33 then (if pc < 30 then (if pc = 27 then xo_getf 8 6 27 3 lv st M else none) else (if pc < 32 then (if pc = 30 then xo_iconst 64 30 2 lv st M else none) else (if pc = 32 then xo_aload 0 32 1 lv st M else none))) else (if pc < 36 then (if pc = 33 then xo_getf 8 5 33 3 lv st M else none) else (if pc < 37 then (if pc = 36 then xo_imul 36 1 lv st M else none) else (if pc = 37 then xo_iconst 4 37 1 lv st M else none)))))) else (if pc < 53 then (if pc < 43 then (if pc < 40 then (if pc < 39 then (if pc = 38 then xo_iload 2 38 1 lv st M else none) else (if pc = 39 then xo_imul 39 1 lv st M else none)) else (if pc < 41 then (if pc = 40 then xo_iadd 40 1 lv st M else none) else (if pc < 42 then (if pc = 41 then xo_iload 3 41 1 lv st M else none) else (if pc = 42 then xo_iadd 42 1 lv st M else none)))) else (if pc < 48 then (if pc < 44 then (if pc = 43 then xo_iald 43 1 lv st M else none) else (if pc < 45 then (if pc = 44 then xo_iload 1 44 1 lv st M else none) else (if pc = 45 then xo_icmp .ne 5 45 3 lv st M else none))) else (if pc < 49 then (if pc = 48 then xo_iload 2 48 1 lv st M else none) else (if pc < 50 then (if pc = 49 then xo_ret 105 st M else none) else (if pc = 50 then xo_iinc 3 1 50 3 lv st M else none))))) else (if pc < 67 then (if pc < 62 then (if pc < 56 then (if pc = 53 then xo_goto (-36) 53 lv st M else none) else (if pc < 59 then (if pc = 56 then xo_iinc 2 1 56 3 lv st M else none) else (if pc = 59 then xo_goto (-57) 59 lv st M else none))) else (if pc < 63 then (if pc = 62 then xo_aload 0 62 1 lv st M else none) else (if pc < 66 then (if pc = 63 then xo_getf 8 22 63 3 lv st M else none) else (if pc = 66 then xo_iload 1 66 1 lv st M else none)))) else (if pc < 73 then (if pc < 68 then (if pc = 67 then xo_iald 67 1 lv st M else none) else (if pc < 71 then (if pc = 68 then xo_if .le 8 68 3 lv st M else none) else (if pc = 71 then xo_iconst (-2) 71 2 lv st M else none))) else (if pc < 76 then (if pc = 73 then xo_goto 4 73 lv st M else none) else (if pc < 77 then (if pc = 76 then xo_iconst (-1) 76 1 lv st M else none) else (if pc = 77 then xo_ret 105 st M else none))))))
def cd_106 (pc : Nat) (lv : XL) (st : List XV) (M : XM) : Option XN := if pc < 52 then (if pc < 26 then (if pc < 13 then (if pc < 3 then (if pc < 1 then (if pc = 0 then xo_aload 0 0 1 lv st M else none) else (if pc < 2 then (if pc = 1 then xo_aload 0 1 1 lv st M else none) else (if pc = 2 then xo_iload 1 2 1 lv st M else none))) else (if pc < 9 then (if pc < 6 then (if pc = 3 then xo_call true 106 101 st else none) else (if pc = 6 then xo_if .eq 7 6 3 lv st M else none)) else (if pc < 10 then (if pc = 9 then xo_iconst 1 9 1 lv st M else none) else (if pc = 10 then xo_goto 17 10 lv st M else none)))) else (if pc < 18 then (if pc < 14 then (if pc = 13 then xo_iload 2 13 1 lv st M else none) else (if pc < 17 then (if pc = 14 then xo_if .lt 8 14 3 lv st M else none) else (if pc = 17 then xo_iload 2 17 1 lv st M else none))) else (if pc < 22 then (if pc < 19 then (if pc = 18 then xo_iconst 4 18 1 lv st M else none) else (if pc = 19 then xo_icmp .le 7 19 3 lv st M else none)) else (if pc < 23 then (if pc = 22 then xo_iconst 2 22 1 lv st M else none) else (if pc = 23 then xo_goto 4 23 lv st M else none))))) else (if pc < 39 then (if pc < 31 then (if pc < 27 then (if pc = 26 then xo_iconst 0 26 1 lv st M else none) else (if pc < 30 then (if pc = 27 then xo_puti 8 0 27 3 lv st M else none) else (if pc = 30 then xo_aload 0 30 1 lv st M else none))) else (if pc < 37 then (if pc < 34 then (if pc = 31 then xo_getf 8 0 31 3 lv st M else none) else (if pc = 34 then xo_if .le 5 34 3 lv st M else none)) else (if pc < 38 then (if pc = 37 then xo_iconst 0 37 1 lv st M else none) else (if pc = 38 then xo_ret 106 st M else none)))) else (if pc < 44 then (if pc < 40 then (if pc = 39 then xo_iload 2 39 1 lv st M else none) else (if pc < 43 then (if pc = 40 then xo_if .ne 12 40 3 lv st M else none) else (if pc = 43 then xo_aload 0 43 1 lv st M else none))) else (if pc < 48 then (if pc < 47 then (if pc = 44 then xo_getf 8 18 44 3 lv st M else none) else (if pc = 47 then xo_iload 1 47 1 lv st M else none)) else (if pc < 49 then (if pc = 48 then xo_iald 48 1 lv st M else none) else (if pc = 49 then xo_goto 50 49 lv st M else none)))))) else (if pc < 76 then (if pc < 63 then (if pc < 57 then (if pc < 53 then (if pc = 52 then xo_iload 2 52 1 lv st M else none) else (if pc < 54 then (if pc = 53 then xo_iconst 1 53 1 lv st M else none) else (if pc = 54 then xo_icmp .ne 12 54 3 lv st M else none))) else (if pc < 61 then (if pc < 58 then (if pc = 57 then xo_aload 0 57 1 lv st M else none) else (if pc = 58 then xo_getf 8 19 58 3 lv st M else none)) else (if pc < 62 then (if pc = 61 then xo_iload 1 61 1 lv st M else none) else (if pc = 62 then xo_iald 62 1 lv st M else none)))) else (if pc < 68 then (if pc < 66 then (if pc = 63 then xo_goto 36 63 lv st M else none) else (if pc < 67 then (if pc = 66 then xo_iload 2 66 1 lv st M else none) else (if pc = 67 then xo_iconst 2 67 1 lv st M else none))) else (if pc < 72 then (if pc < 71 then (if pc = 68 then xo_icmp .ne 12 68 3 lv st M else none) else (if pc = 71 then xo_aload 0 71 1 lv st M else none)) else (if pc < 75 then (if pc = 72 then xo_getf 8 20 72 3 lv st M else none) else (if pc = 75 then xo_iload 1 75 1 lv st M else none))))) else (if pc < 89 then (if pc < 81 then (if pc < 77 then (if pc = 76 then xo_iald 76 1 lv st M else none) else (if pc < 80 then (if pc = 77 then xo_goto 22 77 lv st M else none) else (if pc = 80 then xo_iload 2 80 1 lv st M else none))) else (if pc < 85 then (if pc < 82 then (if pc = 81 then xo_iconst 3 81 1 lv st M else none) else (if pc = 82 then xo_icmp .ne 12 82 3 lv st M else none)) else (if pc < 86 then (if pc = 85 then xo_aload 0 85 1 lv st M else none) else (if pc = 86 then xo_getf 8 21 86 3 lv st M else none)))) else (if pc < 94 then (if pc < 90 then (if pc = 89 then xo_iload 1 89 1 lv st M else none) else (if pc < 91 then (if pc = 90 then xo_iald 90 1 lv st M else none) else (if pc = 91 then xo_goto 8 91 lv st M else none))) else (if pc < 96 then (if pc < 95 then (if pc = 94 then xo_aload 0 94 1 lv st M else none) else (if pc = 95 then xo_iload 1 95 1 lv st M else none)) else (if pc < 99 then (if pc = 96 then xo_call true 106 105 st else none) else (if pc = 99 then xo_ret 106 st M else none))))))
def cd_107 (pc : Nat) (lv : XL) (st : List XV) (M : XM) : Option XN := if pc < 21 then (if pc < 9 then (if pc < 2 then (if pc < 1 then (if pc = 0 then xo_aload 0 0 1 lv st M else none) else (if pc = 1 then xo_aload 0 1 1 lv st M else none)) else (if pc < 3 then (if pc = 2 then xo_iload 1 2 1 lv st M else none) else (if pc < 6 then (if pc = 3 then xo_call true 107 100 st else none) else (if pc = 6 then xo_if .eq 7 6 3 lv st M else none)))) else (if pc < 14 then (if pc < 10 then (if pc = 9 then xo_iconst 1 9 1 lv st M else none) else (if pc < 13 then (if pc = 10 then xo_goto 4 10 lv st M else none) else (if pc = 13 then xo_iconst 0 13 1 lv st M else none))) else (if pc < 17 then (if pc = 14 then xo_puti 8 0 14 3 lv st M else none) else (if pc < 18 then (if pc = 17 then xo_aload 0 17 1 lv st M else none) else (if pc = 18 then xo_getf 8 0 18 3 lv st M else none))))) else (if pc < 33 then (if pc < 28 then (if pc < 24 then (if pc = 21 then xo_if .le 7 21 3 lv st M else none) else (if pc < 25 then (if pc = 24 then xo_iconst 0 24 1 lv st M else none) else (if pc = 25 then xo_goto 17 25 lv st M else none))) else (if pc < 29 then (if pc = 28 then xo_iload 2 28 1 lv st M else none) else (if pc < 32 then (if pc = 29 then xo_if .ge 7 29 3 lv st M else none) else (if pc = 32 then xo_iconst (-1) 32 1 lv st M else none)))) else (if pc < 38 then (if pc < 36 then (if pc = 33 then xo_goto 9 33 lv st M else none) else (if pc < 37 then (if pc = 36 then xo_aload 0 36 1 lv st M else none) else (if pc = 37 then xo_iload 1 37 1 lv st M else none))) else (if pc < 39 then (if pc = 38 then xo_iload 2 38 1 lv st M else none) else (if pc < 42 then (if pc = 39 then xo_call true 107 102 st else none) else (if pc = 42 then xo_ret 107 st M else none)))))
def cd_108 (pc : Nat) (lv : XL) (st : List XV) (M : XM) : Option XN := if pc < 40 then (if pc < 21 then (if pc < 9 then (if pc < 2 then (if pc < 1 then (if pc = 0 then xo_aload 0 0 1 lv st M else none) else (if pc = 1 then xo_iconst 0 1 1 lv st M else none)) else (if pc < 5 then (if pc = 2 then xo_puti 8 0 2 3 lv st M else none) else (if pc < 6 then (if pc = 5 then xo_aload 0 5 1 lv st M else none) else (if pc = 6 then xo_getf 8 4 6 3 lv st M else none)))) else (if pc < 16 then (if pc < 12 then (if pc = 9 then xo_if .eq 24 9 3 lv st M else none) else (if pc < 13 then (if pc = 12 then xo_iload 1 12 1 lv st M else none) else (if pc = 13 then xo_if .lt 20 13 3 lv st M else none))) else (if pc < 17 then (if pc = 16 then xo_iload 1 16 1 lv st M else none) else (if pc < 18 then (if pc = 17 then xo_aload 0 17 1 lv st M else none) else (if pc = 18 then xo_getf 8 9 18 3 lv st M else none))))) else (if pc < 30 then (if pc < 25 then (if pc < 22 then (if pc = 21 then xo_aload 0 21 1 lv st M else none) else (if pc = 22 then xo_getf 8 5 22 3 lv st M else none)) else (if pc < 26 then (if pc = 25 then xo_iald 25 1 lv st M else none) else (if pc < 29 then (if pc = 26 then xo_icmp .ge 7 26 3 lv st M else none) else (if pc = 29 then xo_iload 2 29 1 lv st M else none)))) else (if pc < 37 then (if pc < 33 then (if pc = 30 then xo_if .ge 7 30 3 lv st M else none) else (if pc < 34 then (if pc = 33 then xo_iconst 1 33 1 lv st M else none) else (if pc = 34 then xo_goto 4 34 lv st M else none))) else (if pc < 38 then (if pc = 37 then xo_iconst 0 37 1 lv st M else none) else (if pc < 39 then (if pc = 38 then xo_istore 3 38 1 lv st M else none) else (if pc = 39 then xo_iload 3 39 1 lv st M else none)))))) else (if pc < 62 then (if pc < 49 then (if pc < 44 then (if pc < 43 then (if pc = 40 then xo_if .ne 12 40 3 lv st M else none) else (if pc = 43 then xo_iload 2 43 1 lv st M else none)) else (if pc < 45 then (if pc = 44 then xo_aload 0 44 1 lv st M else none) else (if pc < 46 then (if pc = 45 then xo_iload 1 45 1 lv st M else none) else (if pc = 46 then xo_call true 108 79 st else none)))) else (if pc < 56 then (if pc < 52 then (if pc = 49 then xo_icmp .lt 7 49 3 lv st M else none) else (if pc < 53 then (if pc = 52 then xo_iconst (-1) 52 1 lv st M else none) else (if pc = 53 then xo_goto 21 53 lv st M else none))) else (if pc < 57 then (if pc = 56 then xo_aload 0 56 1 lv st M else none) else (if pc < 60 then (if pc = 57 then xo_getf 8 6 57 3 lv st M else none) else (if pc = 60 then xo_iconst 64 60 2 lv st M else none))))) else (if pc < 69 then (if pc < 66 then (if pc < 63 then (if pc = 62 then xo_aload 0 62 1 lv st M else none) else (if pc = 63 then xo_getf 8 5 63 3 lv st M else none)) else (if pc < 67 then (if pc = 66 then xo_imul 66 1 lv st M else none) else (if pc < 68 then (if pc = 67 then xo_iconst 4 67 1 lv st M else none) else (if pc = 68 then xo_iload 1 68 1 lv st M else none)))) else (if pc < 72 then (if pc < 70 then (if pc = 69 then xo_imul 69 1 lv st M else none) else (if pc < 71 then (if pc = 70 then xo_iadd 70 1 lv st M else none) else (if pc = 71 then xo_iload 2 71 1 lv st M else none))) else (if pc < 73 then (if pc = 72 then xo_iadd 72 1 lv st M else none) else (if pc < 74 then (if pc = 73 then xo_iald 73 1 lv st M else none) else (if pc = 74 then xo_ret 108 st M else none))))))
def cd_109 (pc : Nat) (lv : XL) (st : List XV) (M : XM) : Option XN := if pc < 25 then (if pc < 12 then (if pc < 5 then (if pc < 1 then (if pc = 0 then xo_aload 0 0 1 lv st M else none) else (if pc < 2 then (if pc = 1 then xo_iconst 0 1 1 lv st M else none) else (if pc = 2 then xo_puti 8 0 2 3 lv st M else none))) else (if pc < 6 then (if pc = 5 then xo_aload 0 5 1 lv st M else none) else (if pc < 9 then (if pc = 6 then xo_getf 8 4 6 3 lv st M else none) else (if pc = 9 then xo_if .eq 20 9 3 lv st M else none)))) else (if pc < 17 then (if pc < 13 then (if pc = 12 then xo_iload 1 12 1 lv st M else none) else (if pc < 16 then (if pc = 13 then xo_if .lt 16 13 3 lv st M else none) else (if pc = 16 then xo_iload 1 16 1 lv st M else none))) else (if pc < 21 then (if pc < 18 then (if pc = 17 then xo_aload 0 17 1 lv st M else none) else (if pc = 18 then xo_getf 8 9 18 3 lv st M else none)) else (if pc < 22 then (if pc = 21 then xo_aload 0 21 1 lv st M else none) else (if pc = 22 then xo_getf 8 5 22 3 lv st M else none))))) else (if pc < 39 then (if pc < 30 then (if pc < 26 then (if pc = 25 then xo_iald 25 1 lv st M else none) else (if pc < 29 then (if pc = 26 then xo_icmp .lt 7 26 3 lv st M else none) else (if pc = 29 then xo_iconst (-1) 29 1 lv st M else none))) else (if pc < 34 then (if pc < 33 then (if pc = 30 then xo_goto 17 30 lv st M else none) else (if pc = 33 then xo_aload 0 33 1 lv st M else none)) else (if pc < 37 then (if pc = 34 then xo_getf 8 8 34 3 lv st M else none) else (if pc = 37 then xo_iconst 16 37 2 lv st M else none)))) else (if pc < 44 then (if pc < 40 then (if pc = 39 then xo_aload 0 39 1 lv st M else none) else (if pc < 43 then (if pc = 40 then xo_getf 8 5 40 3 lv st M else none) else (if pc = 43 then xo_imul 43 1 lv st M else none))) else (if pc < 46 then (if pc < 45 then (if pc = 44 then xo_iload 1 44 1 lv st M else none) else (if pc = 45 then xo_iadd 45 1 lv st M else none)) else (if pc < 47 then (if pc = 46 then xo_iald 46 1 lv st M else none) else (if pc = 47 then xo_ret 109 st M else none)))))
def cd_110 (pc : Nat) (lv : XL) (st : List XV) (M : XM) : Option XN := if pc < 21 then (if pc < 9 then (if pc < 2 then (if pc < 1 then (if pc = 0 then xo_aload 0 0 1 lv st M else none) else (if pc = 1 then xo_iconst 0 1 1 lv st M else none)) else (if pc < 5 then (if pc = 2 then xo_puti 8 0 2 3 lv st M else none) else (if pc < 6 then (if pc = 5 then xo_aload 0 5 1 lv st M else none) else (if pc = 6 then xo_getf 8 4 6 3 lv st M else none)))) else (if pc < 16 then (if pc < 12 then (if pc = 9 then xo_if .eq 12 9 3 lv st M else none) else (if pc < 13 then (if pc = 12 then xo_iload 1 12 1 lv st M else none) else (if pc = 13 then xo_if .lt 8 13 3 lv st M else none))) else (if pc < 17 then (if pc = 16 then xo_iload 1 16 1 lv st M else none) else (if pc < 18 then (if pc = 17 then xo_iconst 2 17 1 lv st M else none) else (if pc = 18 then xo_icmp .le 7 18 3 lv st M else none))))) else (if pc < 31 then (if pc < 26 then (if pc < 22 then (if pc = 21 then xo_iconst (-1) 21 1 lv st M else none) else (if pc < 25 then (if pc = 22 then xo_goto 16 22 lv st M else none) else (if pc = 25 then xo_aload 0 25 1 lv st M else none))) else (if pc < 29 then (if pc = 26 then xo_getf 8 12 26 3 lv st M else none) else (if pc < 30 then (if pc = 29 then xo_iconst 3 29 1 lv st M else none) else (if pc = 30 then xo_aload 0 30 1 lv st M else none)))) else (if pc < 36 then (if pc < 34 then (if pc = 31 then xo_getf 8 5 31 3 lv st M else none) else (if pc < 35 then (if pc = 34 then xo_imul 34 1 lv st M else none) else (if pc = 35 then xo_iload 1 35 1 lv st M else none))) else (if pc < 37 then (if pc = 36 then xo_iadd 36 1 lv st M else none) else (if pc < 38 then (if pc = 37 then xo_iald 37 1 lv st M else none) else (if pc = 38 then xo_ret 110 st M else none)))))
def cd_111 (pc : Nat) (lv : XL) (st : List XV) (M : XM) : Option XN := if pc < 8 then (if pc < 2 then (if pc < 1 then (if pc = 0 then xo_aload 0 0 1 lv st M else none) else (if pc = 1 then xo_iload 1 1 1 lv st M else none)) else (if pc < 5 then (if pc = 2 then xo_call true 111 3 st else none) else (if pc = 5 then xo_goto 6 5 lv st M else none))) else (if pc < 10 then (if pc < 9 then (if pc = 8 then xo_astore 2 8 1 lv st M else none) else (if pc = 9 then xo_iconst 1 9 1 lv st M else none)) else (if pc < 11 then (if pc = 10 then xo_ret 111 st M else none) else (if pc < 12 then (if pc = 11 then xo_iconst 0 11 1 lv st M else none) else (if pc = 12 then xo_ret 111 st M else none))))
def cd_112 (pc : Nat) (lv : XL) (st : List XV) (M : XM) : Option XN := if pc < 12 then (if pc < 4 then (if pc < 2 then (if pc < 1 then (if pc = 0 then xo_aload 2 0 1 lv st M else none) else (if pc = 1 then xo_iconst 0 1 1 lv st M else none)) else (if pc < 3 then (if pc = 2 then xo_aload 0 2 1 lv st M else none) else (if pc = 3 then xo_iload 1 3 1 lv st M else none))) else (if pc < 8 then (if pc < 7 then (if pc = 4 then xo_call true 112 4 st else none) else (if pc = 7 then xo_i2l 7 1 lv st M else none)) else (if pc < 9 then (if pc = 8 then xo_last 8 1 lv st M else none) else (if pc = 9 then xo_goto 9 9 lv st M else none)))) else (if pc < 16 then (if pc < 14 then (if pc < 13 then (if pc = 12 then xo_astore 3 12 1 lv st M else none) else (if pc = 13 then xo_iconst 1 13 1 lv st M else none)) else (if pc < 15 then (if pc = 14 then xo_ret 112 st M else none) else (if pc = 15 then xo_astore 3 15 1 lv st M else none))) else (if pc < 18 then (if pc < 17 then (if pc = 16 then xo_iconst 2 16 1 lv st M else none) else (if pc = 17 then xo_ret 112 st M else none)) else (if pc < 19 then (if pc = 18 then xo_iconst 0 18 1 lv st M else none) else (if pc = 19 then xo_ret 112 st M else none))))
def cd_113 (pc : Nat) (lv : XL) (st : List XV) (M : XM) : Option XN := if pc < 10 then (if pc < 4 then (if pc < 2 then (if pc < 1 then (if pc = 0 then xo_aload 3 0 1 lv st M else none) else (if pc = 1 then xo_iconst 0 1 1 lv st M else none)) else (if pc < 3 then (if pc = 2 then xo_aload 0 2 1 lv st M else none) else (if pc = 3 then xo_iload 1 3 1 lv st M else none))) else (if pc < 8 then (if pc < 5 then (if pc = 4 then xo_iload 2 4 1 lv st M else none) else (if pc = 5 then xo_call true 113 8 st else none)) else (if pc < 9 then (if pc = 8 then xo_i2l 8 1 lv st M else none) else (if pc = 9 then xo_last 9 1 lv st M else none)))) else (if pc < 17 then (if pc < 15 then (if pc < 13 then (if pc = 10 then xo_goto 11 10 lv st M else none) else (if pc = 13 then xo_astore 4 13 2 lv st M else none)) else (if pc < 16 then (if pc = 15 then xo_iconst 1 15 1 lv st M else none) else (if pc = 16 then xo_ret 113 st M else none))) else (if pc < 20 then (if pc < 19 then (if pc = 17 then xo_astore 4 17 2 lv st M else none) else (if pc = 19 then xo_iconst 2 19 1 lv st M else none)) else (if pc < 21 then (if pc = 20 then xo_ret 113 st M else none) else (if pc < 22 then (if pc = 21 then xo_iconst 0 21 1 lv st M else none) else (if pc = 22 then xo_ret 113 st M else none)))))
def cd_114 (pc : Nat) (lv : XL) (st : List XV) (M : XM) : Option XN := if pc < 9 then (if pc < 3 then (if pc < 1 then (if pc = 0 then xo_aload 3 0 1 lv st M else none) else (if pc < 2 then (if pc = 1 then xo_iconst 0 1 1 lv st M else none) else (if pc = 2 then xo_aload 0 2 1 lv st M else none))) else (if pc < 5 then (if pc < 4 then (if pc = 3 then xo_iload 1 3 1 lv st M else none) else (if pc = 4 then xo_iload 2 4 1 lv st M else none)) else (if pc < 8 then (if pc = 5 then xo_call true 114 9 st else none) else (if pc = 8 then xo_i2l 8 1 lv st M else none)))) else (if pc < 15 then (if pc < 10 then (if pc = 9 then xo_last 9 1 lv st M else none) else (if pc < 13 then (if pc = 10 then xo_goto 7 10 lv st M else none) else (if pc = 13 then xo_astore 4 13 2 lv st M else none))) else (if pc < 17 then (if pc < 16 then (if pc = 15 then xo_iconst 1 15 1 lv st M else none) else (if pc = 16 then xo_ret 114 st M else none)) else (if pc < 18 then (if pc = 17 then xo_iconst 0 17 1 lv st M else none) else (if pc = 18 then xo_ret 114 st M else none))))
def cd_115 (pc : Nat) (lv : XL) (st : List XV) (M : XM) : Option XN := if pc < 10 then (if pc < 4 then (if pc < 2 then (if pc < 1 then (if pc = 0 then xo_aload 3 0 1 lv st M else none) else (if pc = 1 then xo_iconst 0 1 1 lv st M else none)) else (if pc < 3 then (if pc = 2 then xo_aload 0 2 1 lv st M else none) else (if pc = 3 then xo_iload 1 3 1 lv st M else none))) else (if pc < 8 then (if pc < 5 then (if pc = 4 then xo_iload 2 4 1 lv st M else none) else (if pc = 5 then xo_call true 115 10 st else none)) else (if pc < 9 then (if pc = 8 then xo_i2l 8 1 lv st M else none) else (if pc = 9 then xo_last 9 1 lv st M else none)))) else (if pc < 17 then (if pc < 15 then (if pc < 13 then (if pc = 10 then xo_goto 11 10 lv st M else none) else (if pc = 13 then xo_astore 4 13 2 lv st M else none)) else (if pc < 16 then (if pc = 15 then xo_iconst 1 15 1 lv st M else none) else (if pc = 16 then xo_ret 115 st M else none))) else (if pc < 20 then (if pc < 19 then (if pc = 17 then xo_astore 4 17 2 lv st M else none) else (if pc = 19 then xo_iconst 2 19 1 lv st M else none)) else (if pc < 21 then (if pc = 20 then xo_ret 115 st M else none) else (if pc < 22 then (if pc = 21 then xo_iconst 0 21 1 lv st M else none) else (if pc = 22 then xo_ret 115 st M else none)))))
def cd_116 (pc : Nat) (lv : XL) (st : List XV) (M : XM) : Option XN := if pc < 9 then (if pc < 3 then (if pc < 1 then (if pc = 0 then xo_aload 3 0 1 lv st M else none) else (if pc < 2 then (if pc = 1 then xo_iconst 0 1 1 lv st M else none) else (if pc = 2 then xo_aload 0 2 1 lv st M else none))) else (if pc < 5 then (if pc < 4 then (if pc = 3 then xo_iload 1 3 1 lv st M else none) else (if pc = 4 then xo_iload 2 4 1 lv st M else none)) else (if pc < 8 then (if pc = 5 then xo_call true 116 11 st else none) else (if pc = 8 then xo_i2l 8 1 lv st M else none)))) else (if pc < 15 then (if pc < 10 then (if pc = 9 then xo_last 9 1 lv st M else none) else (if pc < 13 then (if pc = 10 then xo_goto 7 10 lv st M else none) else (if pc = 13 then xo_astore 4 13 2 lv st M else none))) else (if pc < 17 then (if pc < 16 then (if pc = 15 then xo_iconst 1 15 1 lv st M else none) else (if pc = 16 then xo_ret 116 st M else none)) else (if pc < 18 then (if pc = 17 then xo_iconst 0 17 1 lv st M else none) else (if pc = 18 then xo_ret 116 st M else none))))
def cd_117 (pc : Nat) (lv : XL) (st : List XV) (M : XM) : Option XN := if pc < 384 then (if pc < 221 then (if pc < 141 then (if pc < 108 then (if pc < 21 then (if pc < 12 then (if pc < 7 then (if pc < 3 then (if pc = 0 then xo_new 1 0 3 lv st M else none) else (if pc < 4 then (if pc = 3 then xo_dup 3 1 lv st M else none) else (if pc = 4 then xo_call true 117 0 st else none))) else (if pc < 8 then (if pc = 7 then xo_astore 1 7 1 lv st M else none) else (if pc < 11 then (if pc = 8 then xo_new 2 8 3 lv st M else none) else (if pc = 11 then xo_dup 11 1 lv st M else none)))) else (if pc < 17 then (if pc < 15 then (if pc = 12 then xo_call true 117 69 st else none) else (if pc < 16 then (if pc = 15 then xo_astore 2 15 1 lv st M else none) else (if pc = 16 then xo_iconst 1 16 1 lv st M else none))) else (if pc < 19 then (if pc = 17 then xo_newa 3 3 17 2 lv st M else none) else (if pc < 20 then (if pc = 19 then xo_astore 3 19 1 lv st M else none) else (if pc = 20 then xo_iconst 0 20 1 lv st M else none))))) else (if pc < 29 then (if pc < 26 then (if pc < 23 then (if pc = 21 then xo_istore 4 21 2 lv st M else none) else (if pc < 25 then (if pc = 23 then xo_iload 4 23 2 lv st M else none) else (if pc = 25 then xo_aload 0 25 1 lv st M else none))) else (if pc < 27 then (if pc = 26 then xo_alen 26 1 lv st M else none) else (if pc < 28 then (if pc = 27 then xo_iconst 3 27 1 lv st M else none) else (if pc = 28 then xo_isub 28 1 lv st M else none)))) else (if pc < 35 then (if pc < 32 then (if pc = 29 then xo_icmp .gt 657 29 3 lv st M else none) else (if pc < 33 then (if pc = 32 then xo_aload 0 32 1 lv st M else none) else (if pc = 33 then xo_iload 4 33 2 lv st M else none))) else (if pc < 38 then (if pc < 36 then (if pc = 35 then xo_iald 35 1 lv st M else none) else (if pc = 36 then xo_iconst 15 36 2 lv st M else none)) else (if pc < 39 then (if pc = 38 then xo_iand 38 1 lv st M else none) else (if pc = 39 then xo_switch 680 [(0, 108), (1, 165), (2, 178), (3, 214), (4, 270), (5, 283), (6, 296), (7, 321), (8, 389), (9, 457), (10, 525), (11, 593), (12, 630), (13, 655)] lv st M else none)))))) else (if pc < 123 then (if pc < 115 then (if pc < 112 then (if pc < 109 then (if pc = 108 then xo_aload 1 108 1 lv st M else none) else (if pc < 110 then (if pc = 109 then xo_aload 0 109 1 lv st M else none) else (if pc = 110 then xo_iload 4 110 2 lv st M else none))) else (if pc < 113 then (if pc = 112 then xo_iconst 1 112 1 lv st M else none) else (if pc < 114 then (if pc = 113 then xo_iadd 113 1 lv st M else none) else (if pc = 114 then xo_iald 114 1 lv st M else none)))) else (if pc < 119 then (if pc < 116 then (if pc = 115 then xo_i2l 115 1 lv st M else none) else (if pc < 118 then (if pc = 116 then xo_iconst 32 116 2 lv st M else none) else (if pc = 118 then xo_lshl 118 1 lv st M else none))) else (if pc < 120 then (if pc = 119 then xo_aload 0 119 1 lv st M else none) else (if pc < 122 then (if pc = 120 then xo_iload 4 120 2 lv st M else none) else (if pc = 122 then xo_iconst 2 122 1 lv st M else none))))) else (if pc < 131 then (if pc < 126 then (if pc < 124 then (if pc = 123 then xo_iadd 123 1 lv st M else none) else (if pc < 125 then (if pc = 124 then xo_iald 124 1 lv st M else none) else (if pc = 125 then xo_i2l 125 1 lv st M else none))) else (if pc < 129 then (if pc = 126 then xo_lconst 4294967295 126 3 lv st M else none) else (if pc < 130 then (if pc = 129 then xo_land 129 1 lv st M else none) else (if pc = 130 then xo_lor 130 1 lv st M else none)))) else (if pc < 136 then (if pc < 134 then (if pc = 131 then xo_call true 117 1 st else none) else (if pc < 135 then (if pc = 134 then xo_aload 2 134 1 lv st M else none) else (if pc = 135 then xo_aload 0 135 1 lv st M else none))) else (if pc < 139 then (if pc < 138 then (if pc = 136 then xo_iload 4 136 2 lv st M else none) else (if pc = 138 then xo_iconst 1 138 1 lv st M else none)) else (if pc < 140 then (if pc = 139 then xo_iadd 139 1 lv st M else none) else (if pc = 140 then xo_iald 140 1 lv st M else none))))))) else (if pc < 180 then (if pc < 157 then (if pc < 149 then (if pc < 145 then (if pc < 142 then (if pc = 141 then xo_i2l 141 1 lv st M else none) else (if pc < 144 then (if pc = 142 then xo_iconst 32 142 2 lv st M else none) else (if pc = 144 then xo_lshl 144 1 lv st M else none))) else (if pc < 146 then (if pc = 145 then xo_aload 0 145 1 lv st M else none) else (if pc < 148 then (if pc = 146 then xo_iload 4 146 2 lv st M else none) else (if pc = 148 then xo_iconst 2 148 1 lv st M else none)))) else (if pc < 152 then (if pc < 150 then (if pc = 149 then xo_iadd 149 1 lv st M else none) else (if pc < 151 then (if pc = 150 then xo_iald 150 1 lv st M else none) else (if pc = 151 then xo_i2l 151 1 lv st M else none))) else (if pc < 155 then (if pc = 152 then xo_lconst 4294967295 152 3 lv st M else none) else (if pc < 156 then (if pc = 155 then xo_land 155 1 lv st M else none) else (if pc = 156 then xo_lor 156 1 lv st M else none))))) else (if pc < 169 then (if pc < 164 then (if pc < 160 then (if pc = 157 then xo_call true 117 71 st else none) else (if pc < 163 then (if pc = 160 then xo_icmp .eq 520 160 3 lv st M else none) else (if pc = 163 then xo_iconst 0 163 1 lv st M else none))) else (if pc < 165 then (if pc = 164 then xo_ret 117 st M else none) else (if pc < 166 then (if pc = 165 then xo_aload 1 165 1 lv st M else none) else (if pc = 166 then xo_call true 117 2 st else none)))) else (if pc < 176 then (if pc < 170 then (if pc = 169 then xo_aload 2 169 1 lv st M else none) else (if pc < 173 then (if pc = 170 then xo_call true 117 72 st else none) else (if pc = 173 then xo_icmp .eq 507 173 3 lv st M else none))) else (if pc < 178 then (if pc < 177 then (if pc = 176 then xo_iconst 0 176 1 lv st M else none) else (if pc = 177 then xo_ret 117 st M else none)) else (if pc < 179 then (if pc = 178 then xo_aload 1 178 1 lv st M else none) else (if pc = 179 then xo_aload 0 179 1 lv st M else none)))))) else (if pc < 200 then (if pc < 190 then (if pc < 184 then (if pc < 182 then (if pc = 180 then xo_iload 4 180 2 lv st M else none) else (if pc < 183 then (if pc = 182 then xo_iconst 1 182 1 lv st M else none) else (if pc = 183 then xo_iadd 183 1 lv st M else none))) else (if pc < 185 then (if pc = 184 then xo_iald 184 1 lv st M else none) else (if pc < 188 then (if pc = 185 then xo_call false 117 111 st else none) else (if pc = 188 then xo_istore 5 188 2 lv st M else none)))) else (if pc < 194 then (if pc < 191 then (if pc = 190 then xo_aload 2 190 1 lv st M else none) else (if pc < 192 then (if pc = 191 then xo_aload 0 191 1 lv st M else none) else (if pc = 192 then xo_iload 4 192 2 lv st M else none))) else (if pc < 196 then (if pc < 195 then (if pc = 194 then xo_iconst 1 194 1 lv st M else none) else (if pc = 195 then xo_iadd 195 1 lv st M else none)) else (if pc < 197 then (if pc = 196 then xo_iald 196 1 lv st M else none) else (if pc = 197 then xo_call true 117 97 st else none))))) else (if pc < 211 then (if pc < 206 then (if pc < 201 then (if pc = 200 then xo_aload 2 200 1 lv st M else none) else (if pc < 204 then (if pc = 201 then xo_call true 117 70 st else none) else (if pc = 204 then xo_iload 5 204 2 lv st M else none))) else (if pc < 209 then (if pc = 206 then xo_icmp .eq 5 206 3 lv st M else none) else (if pc < 210 then (if pc = 209 then xo_iconst 0 209 1 lv st M else none) else (if pc = 210 then xo_ret 117 st M else none)))) else (if pc < 216 then (if pc < 214 then (if pc = 211 then xo_goto 469 211 lv st M else none) else (if pc < 215 then (if pc = 214 then xo_aload 1 214 1 lv st M else none) else (if pc = 215 then xo_aload 0 215 1 lv st M else none))) else (if pc < 219 then (if pc < 218 then (if pc = 216 then xo_iload 4 216 2 lv st M else none) else (if pc = 218 then xo_iconst 1 218 1 lv st M else none)) else (if pc < 220 then (if pc = 219 then xo_iadd 219 1 lv st M else none) else (if pc = 220 then xo_iald 220 1 lv st M else none)))))))) else (if pc < 307 then (if pc < 262 then (if pc < 240 then (if pc < 231 then (if pc < 227 then (if pc < 222 then (if pc = 221 then xo_aload 3 221 1 lv st M else none) else (if pc < 225 then (if pc = 222 then xo_call false 117 112 st else none) else (if pc = 225 then xo_istore 5 225 2 lv st M else none))) else (if pc < 228 then (if pc = 227 then xo_aload 2 227 1 lv st M else none) else (if pc < 229 then (if pc = 228 then xo_aload 0 228 1 lv st M else none) else (if pc = 229 then xo_iload 4 229 2 lv st M else none)))) else (if pc < 234 then (if pc < 232 then (if pc = 231 then xo_iconst 1 231 1 lv st M else none) else (if pc < 233 then (if pc = 232 then xo_iadd 232 1 lv st M else none) else (if pc = 233 then xo_iald 233 1 lv st M else none))) else (if pc < 237 then (if pc = 234 then xo_call true 117 95 st else none) else (if pc < 239 then (if pc = 237 then xo_istore 6 237 2 lv st M else none) else (if pc = 239 then xo_aload 2 239 1 lv st M else none))))) else (if pc < 252 then (if pc < 248 then (if pc < 243 then (if pc = 240 then xo_call true 117 70 st else none) else (if pc < 245 then (if pc = 243 then xo_iload 5 243 2 lv st M else none) else (if pc = 245 then xo_icmp .eq 5 245 3 lv st M else none))) else (if pc < 249 then (if pc = 248 then xo_iconst 0 248 1 lv st M else none) else (if pc < 250 then (if pc = 249 then xo_ret 117 st M else none) else (if pc = 250 then xo_iload 5 250 2 lv st M else none)))) else (if pc < 257 then (if pc < 255 then (if pc = 252 then xo_if .ne 15 252 3 lv st M else none) else (if pc < 256 then (if pc = 255 then xo_aload 3 255 1 lv st M else none) else (if pc = 256 then xo_iconst 0 256 1 lv st M else none))) else (if pc < 260 then (if pc < 258 then (if pc = 257 then xo_lald 257 1 lv st M else none) else (if pc = 258 then xo_iload 6 258 2 lv st M else none)) else (if pc < 261 then (if pc = 260 then xo_i2l 260 1 lv st M else none) else (if pc = 261 then xo_lcmp 261 1 lv st M else none)))))) else (if pc < 287 then (if pc < 274 then (if pc < 267 then (if pc < 265 then (if pc = 262 then xo_if .eq 5 262 3 lv st M else none) else (if pc < 266 then (if pc = 265 then xo_iconst 0 265 1 lv st M else none) else (if pc = 266 then xo_ret 117 st M else none))) else (if pc < 270 then (if pc = 267 then xo_goto 413 267 lv st M else none) else (if pc < 271 then (if pc = 270 then xo_aload 1 270 1 lv st M else none) else (if pc = 271 then xo_call true 117 5 st else none)))) else (if pc < 281 then (if pc < 275 then (if pc = 274 then xo_aload 2 274 1 lv st M else none) else (if pc < 278 then (if pc = 275 then xo_call true 117 96 st else none) else (if pc = 278 then xo_icmp .eq 402 278 3 lv st M else none))) else (if pc < 283 then (if pc < 282 then (if pc = 281 then xo_iconst 0 281 1 lv st M else none) else (if pc = 282 then xo_ret 117 st M else none)) else (if pc < 284 then (if pc = 283 then xo_aload 1 283 1 lv st M else none) else (if pc = 284 then xo_call true 117 6 st else none))))) else (if pc < 297 then (if pc < 294 then (if pc < 288 then (if pc = 287 then xo_aload 2 287 1 lv st M else none) else (if pc < 291 then (if pc = 288 then xo_call true 117 98 st else none) else (if pc = 291 then xo_icmp .eq 389 291 3 lv st M else none))) else (if pc < 295 then (if pc = 294 then xo_iconst 0 294 1 lv st M else none) else (if pc < 296 then (if pc = 295 then xo_ret 117 st M else none) else (if pc = 296 then xo_aload 1 296 1 lv st M else none)))) else (if pc < 301 then (if pc < 298 then (if pc = 297 then xo_aload 0 297 1 lv st M else none) else (if pc < 300 then (if pc = 298 then xo_iload 4 298 2 lv st M else none) else (if pc = 300 then xo_iconst 1 300 1 lv st M else none))) else (if pc < 303 then (if pc < 302 then (if pc = 301 then xo_iadd 301 1 lv st M else none) else (if pc = 302 then xo_iald 302 1 lv st M else none)) else (if pc < 306 then (if pc = 303 then xo_call true 117 7 st else none) else (if pc = 306 then xo_aload 2 306 1 lv st M else none))))))) else (if pc < 342 then (if pc < 325 then (if pc < 316 then (if pc < 311 then (if pc < 308 then (if pc = 307 then xo_aload 0 307 1 lv st M else none) else (if pc < 310 then (if pc = 308 then xo_iload 4 308 2 lv st M else none) else (if pc = 310 then xo_iconst 1 310 1 lv st M else none))) else (if pc < 312 then (if pc = 311 then xo_iadd 311 1 lv st M else none) else (if pc < 313 then (if pc = 312 then xo_iald 312 1 lv st M else none) else (if pc = 313 then xo_call true 117 99 st else none)))) else (if pc < 321 then (if pc < 319 then (if pc = 316 then xo_icmp .eq 364 316 3 lv st M else none) else (if pc < 320 then (if pc = 319 then xo_iconst 0 319 1 lv st M else none) else (if pc = 320 then xo_ret 117 st M else none))) else (if pc < 322 then (if pc = 321 then xo_aload 1 321 1 lv st M else none) else (if pc < 323 then (if pc = 322 then xo_aload 0 322 1 lv st M else none) else (if pc = 323 then xo_iload 4 323 2 lv st M else none))))) else (if pc < 332 then (if pc < 328 then (if pc < 326 then (if pc = 325 then xo_iconst 1 325 1 lv st M else none) else (if pc < 327 then (if pc = 326 then xo_iadd 326 1 lv st M else none) else (if pc = 327 then xo_iald 327 1 lv st M else none))) else (if pc < 329 then (if pc = 328 then xo_aload 0 328 1 lv st M else none) else (if pc < 331 then (if pc = 329 then xo_iload 4 329 2 lv st M else none) else (if pc = 331 then xo_iconst 2 331 1 lv st M else none)))) else (if pc < 335 then (if pc < 333 then (if pc = 332 then xo_iadd 332 1 lv st M else none) else (if pc < 334 then (if pc = 333 then xo_iald 333 1 lv st M else none) else (if pc = 334 then xo_aload 3 334 1 lv st M else none))) else (if pc < 340 then (if pc < 338 then (if pc = 335 then xo_call false 117 113 st else none) else (if pc = 338 then xo_istore 5 338 2 lv st M else none)) else (if pc < 341 then (if pc = 340 then xo_aload 2 340 1 lv st M else none) else (if pc = 341 then xo_aload 0 341 1 lv st M else none)))))) else (if pc < 362 then (if pc < 350 then (if pc < 346 then (if pc < 344 then (if pc = 342 then xo_iload 4 342 2 lv st M else none) else (if pc < 345 then (if pc = 344 then xo_iconst 1 344 1 lv st M else none) else (if pc = 345 then xo_iadd 345 1 lv st M else none))) else (if pc < 347 then (if pc = 346 then xo_iald 346 1 lv st M else none) else (if pc < 348 then (if pc = 347 then xo_aload 0 347 1 lv st M else none) else (if pc = 348 then xo_iload 4 348 2 lv st M else none)))) else (if pc < 353 then (if pc < 351 then (if pc = 350 then xo_iconst 2 350 1 lv st M else none) else (if pc < 352 then (if pc = 351 then xo_iadd 351 1 lv st M else none) else (if pc = 352 then xo_iald 352 1 lv st M else none))) else (if pc < 358 then (if pc < 356 then (if pc = 353 then xo_call true 117 103 st else none) else (if pc = 356 then xo_istore 6 356 2 lv st M else none)) else (if pc < 359 then (if pc = 358 then xo_aload 2 358 1 lv st M else none) else (if pc = 359 then xo_call true 117 70 st else none))))) else (if pc < 374 then (if pc < 368 then (if pc < 364 then (if pc = 362 then xo_iload 5 362 2 lv st M else none) else (if pc < 367 then (if pc = 364 then xo_icmp .eq 5 364 3 lv st M else none) else (if pc = 367 then xo_iconst 0 367 1 lv st M else none))) else (if pc < 369 then (if pc = 368 then xo_ret 117 st M else none) else (if pc < 371 then (if pc = 369 then xo_iload 5 369 2 lv st M else none) else (if pc = 371 then xo_if .ne 15 371 3 lv st M else none)))) else (if pc < 377 then (if pc < 375 then (if pc = 374 then xo_aload 3 374 1 lv st M else none) else (if pc < 376 then (if pc = 375 then xo_iconst 0 375 1 lv st M else none) else (if pc = 376 then xo_lald 376 1 lv st M else none))) else (if pc < 380 then (if pc < 379 then (if pc = 377 then xo_iload 6 377 2 lv st M else none) else (if pc = 379 then xo_i2l 379 1 lv st M else none)) else (if pc < 381 then (if pc = 380 then xo_lcmp 380 1 lv st M else none) else (if pc = 381 then xo_if .eq 5 381 3 lv st M else none))))))))) else (if pc < 535 then (if pc < 459 then (if pc < 418 then (if pc < 400 then (if pc < 393 then (if pc < 389 then (if pc < 385 then (if pc = 384 then xo_iconst 0 384 1 lv st M else none) else (if pc < 386 then (if pc = 385 then xo_ret 117 st M else none) else (if pc = 386 then xo_goto 294 386 lv st M else none))) else (if pc < 390 then (if pc = 389 then xo_aload 1 389 1 lv st M else none) else (if pc < 391 then (if pc = 390 then xo_aload 0 390 1 lv st M else none) else (if pc = 391 then xo_iload 4 391 2 lv st M else none)))) else (if pc < 396 then (if pc < 394 then (if pc = 393 then xo_iconst 1 393 1 lv st M else none) else (if pc < 395 then (if pc = 394 then xo_iadd 394 1 lv st M else none) else (if pc = 395 then xo_iald 395 1 lv st M else none))) else (if pc < 397 then (if pc = 396 then xo_aload 0 396 1 lv st M else none) else (if pc < 399 then (if pc = 397 then xo_iload 4 397 2 lv st M else none) else (if pc = 399 then xo_iconst 2 399 1 lv st M else none))))) else (if pc < 409 then (if pc < 403 then (if pc < 401 then (if pc = 400 then xo_iadd 400 1 lv st M else none) else (if pc < 402 then (if pc = 401 then xo_iald 401 1 lv st M else none) else (if pc = 402 then xo_aload 3 402 1 lv st M else none))) else (if pc < 406 then (if pc = 403 then xo_call false 117 114 st else none) else (if pc < 408 then (if pc = 406 then xo_istore 5 406 2 lv st M else none) else (if pc = 408 then xo_aload 2 408 1 lv st M else none)))) else (if pc < 413 then (if pc < 410 then (if pc = 409 then xo_aload 0 409 1 lv st M else none) else (if pc < 412 then (if pc = 410 then xo_iload 4 410 2 lv st M else none) else (if pc = 412 then xo_iconst 1 412 1 lv st M else none))) else (if pc < 415 then (if pc < 414 then (if pc = 413 then xo_iadd 413 1 lv st M else none) else (if pc = 414 then xo_iald 414 1 lv st M else none)) else (if pc < 416 then (if pc = 415 then xo_aload 0 415 1 lv st M else none) else (if pc = 416 then xo_iload 4 416 2 lv st M else none)))))) else (if pc < 439 then (if pc < 427 then (if pc < 421 then (if pc < 419 then (if pc = 418 then xo_iconst 2 418 1 lv st M else none) else (if pc < 420 then (if pc = 419 then xo_iadd 419 1 lv st M else none) else (if pc = 420 then xo_iald 420 1 lv st M else none))) else (if pc < 424 then (if pc = 421 then xo_call true 117 104 st else none) else (if pc < 426 then (if pc = 424 then xo_istore 6 424 2 lv st M else none) else (if pc = 426 then xo_aload 2 426 1 lv st M else none)))) else (if pc < 435 then (if pc < 430 then (if pc = 427 then xo_call true 117 70 st else none) else (if pc < 432 then (if pc = 430 then xo_iload 5 430 2 lv st M else none) else (if pc = 432 then xo_icmp .eq 5 432 3 lv st M else none))) else (if pc < 436 then (if pc = 435 then xo_iconst 0 435 1 lv st M else none) else (if pc < 437 then (if pc = 436 then xo_ret 117 st M else none) else (if pc = 437 then xo_iload 5 437 2 lv st M else none))))) else (if pc < 448 then (if pc < 444 then (if pc < 442 then (if pc = 439 then xo_if .ne 15 439 3 lv st M else none) else (if pc < 443 then (if pc = 442 then xo_aload 3 442 1 lv st M else none) else (if pc = 443 then xo_iconst 0 443 1 lv st M else none))) else (if pc < 445 then (if pc = 444 then xo_lald 444 1 lv st M else none) else (if pc < 447 then (if pc = 445 then xo_iload 6 445 2 lv st M else none) else (if pc = 447 then xo_i2l 447 1 lv st M else none)))) else (if pc < 453 then (if pc < 449 then (if pc = 448 then xo_lcmp 448 1 lv st M else none) else (if pc < 452 then (if pc = 449 then xo_if .eq 5 449 3 lv st M else none) else (if pc = 452 then xo_iconst 0 452 1 lv st M else none))) else (if pc < 457 then (if pc < 454 then (if pc = 453 then xo_ret 117 st M else none) else (if pc = 454 then xo_goto 226 454 lv st M else none)) else (if pc < 458 then (if pc = 457 then xo_aload 1 457 1 lv st M else none) else (if pc = 458 then xo_aload 0 458 1 lv st M else none))))))) else (if pc < 494 then (if pc < 476 then (if pc < 467 then (if pc < 463 then (if pc < 461 then (if pc = 459 then xo_iload 4 459 2 lv st M else none) else (if pc < 462 then (if pc = 461 then xo_iconst 1 461 1 lv st M else none) else (if pc = 462 then xo_iadd 462 1 lv st M else none))) else (if pc < 464 then (if pc = 463 then xo_iald 463 1 lv st M else none) else (if pc < 465 then (if pc = 464 then xo_aload 0 464 1 lv st M else none) else (if pc = 465 then xo_iload 4 465 2 lv st M else none)))) else (if pc < 470 then (if pc < 468 then (if pc = 467 then xo_iconst 2 467 1 lv st M else none) else (if pc < 469 then (if pc = 468 then xo_iadd 468 1 lv st M else none) else (if pc = 469 then xo_iald 469 1 lv st M else none))) else (if pc < 471 then (if pc = 470 then xo_aload 3 470 1 lv st M else none) else (if pc < 474 then (if pc = 471 then xo_call false 117 115 st else none) else (if pc = 474 then xo_istore 5 474 2 lv st M else none))))) else (if pc < 483 then (if pc < 480 then (if pc < 477 then (if pc = 476 then xo_aload 2 476 1 lv st M else none) else (if pc < 478 then (if pc = 477 then xo_aload 0 477 1 lv st M else none) else (if pc = 478 then xo_iload 4 478 2 lv st M else none))) else (if pc < 481 then (if pc = 480 then xo_iconst 1 480 1 lv st M else none) else (if pc < 482 then (if pc = 481 then xo_iadd 481 1 lv st M else none) else (if pc = 482 then xo_iald 482 1 lv st M else none)))) else (if pc < 487 then (if pc < 484 then (if pc = 483 then xo_aload 0 483 1 lv st M else none) else (if pc < 486 then (if pc = 484 then xo_iload 4 484 2 lv st M else none) else (if pc = 486 then xo_iconst 2 486 1 lv st M else none))) else (if pc < 489 then (if pc < 488 then (if pc = 487 then xo_iadd 487 1 lv st M else none) else (if pc = 488 then xo_iald 488 1 lv st M else none)) else (if pc < 492 then (if pc = 489 then xo_call true 117 106 st else none) else (if pc = 492 then xo_istore 6 492 2 lv st M else none)))))) else (if pc < 516 then (if pc < 505 then (if pc < 500 then (if pc < 495 then (if pc = 494 then xo_aload 2 494 1 lv st M else none) else (if pc < 498 then (if pc = 495 then xo_call true 117 70 st else none) else (if pc = 498 then xo_iload 5 498 2 lv st M else none))) else (if pc < 503 then (if pc = 500 then xo_icmp .eq 5 500 3 lv st M else none) else (if pc < 504 then (if pc = 503 then xo_iconst 0 503 1 lv st M else none) else (if pc = 504 then xo_ret 117 st M else none)))) else (if pc < 511 then (if pc < 507 then (if pc = 505 then xo_iload 5 505 2 lv st M else none) else (if pc < 510 then (if pc = 507 then xo_if .ne 15 507 3 lv st M else none) else (if pc = 510 then xo_aload 3 510 1 lv st M else none))) else (if pc < 513 then (if pc < 512 then (if pc = 511 then xo_iconst 0 511 1 lv st M else none) else (if pc = 512 then xo_lald 512 1 lv st M else none)) else (if pc < 515 then (if pc = 513 then xo_iload 6 513 2 lv st M else none) else (if pc = 515 then xo_i2l 515 1 lv st M else none))))) else (if pc < 526 then (if pc < 521 then (if pc < 517 then (if pc = 516 then xo_lcmp 516 1 lv st M else none) else (if pc < 520 then (if pc = 517 then xo_if .eq 5 517 3 lv st M else none) else (if pc = 520 then xo_iconst 0 520 1 lv st M else none))) else (if pc < 522 then (if pc = 521 then xo_ret 117 st M else none) else (if pc < 525 then (if pc = 522 then xo_goto 158 522 lv st M else none) else (if pc = 525 then xo_aload 1 525 1 lv st M else none)))) else (if pc < 530 then (if pc < 527 then (if pc = 526 then xo_aload 0 526 1 lv st M else none) else (if pc < 529 then (if pc = 527 then xo_iload 4 527 2 lv st M else none) else (if pc = 529 then xo_iconst 1 529 1 lv st M else none))) else (if pc < 532 then (if pc < 531 then (if pc = 530 then xo_iadd 530 1 lv st M else none) else (if pc = 531 then xo_iald 531 1 lv st M else none)) else (if pc < 533 then (if pc = 532 then xo_aload 0 532 1 lv st M else none) else (if pc = 533 then xo_iload 4 533 2 lv st M else none)))))))) else (if pc < 611 then (if pc < 573 then (if pc < 551 then (if pc < 544 then (if pc < 538 then (if pc < 536 then (if pc = 535 then xo_iconst 2 535 1 lv st M else none) else (if pc < 537 then (if pc = 536 then xo_iadd 536 1 lv st M else none) else (if pc = 537 then xo_iald 537 1 lv st M else none))) else (if pc < 539 then (if pc = 538 then xo_aload 3 538 1 lv st M else none) else (if pc < 542 then (if pc = 539 then xo_call false 117 116 st else none) else (if pc = 542 then xo_istore 5 542 2 lv st M else none)))) else (if pc < 548 then (if pc < 545 then (if pc = 544 then xo_aload 2 544 1 lv st M else none) else (if pc < 546 then (if pc = 545 then xo_aload 0 545 1 lv st M else none) else (if pc = 546 then xo_iload 4 546 2 lv st M else none))) else (if pc < 549 then (if pc = 548 then xo_iconst 1 548 1 lv st M else none) else (if pc < 550 then (if pc = 549 then xo_iadd 549 1 lv st M else none) else (if pc = 550 then xo_iald 550 1 lv st M else none))))) else (if pc < 560 then (if pc < 555 then (if pc < 552 then (if pc = 551 then xo_aload 0 551 1 lv st M else none) else (if pc < 554 then (if pc = 552 then xo_iload 4 552 2 lv st M else none) else (if pc = 554 then xo_iconst 2 554 1 lv st M else none))) else (if pc < 556 then (if pc = 555 then xo_iadd 555 1 lv st M else none) else (if pc < 557 then (if pc = 556 then xo_iald 556 1 lv st M else none) else (if pc = 557 then xo_call true 117 107 st else none)))) else (if pc < 566 then (if pc < 562 then (if pc = 560 then xo_istore 6 560 2 lv st M else none) else (if pc < 563 then (if pc = 562 then xo_aload 2 562 1 lv st M else none) else (if pc = 563 then xo_call true 117 70 st else none))) else (if pc < 571 then (if pc < 568 then (if pc = 566 then xo_iload 5 566 2 lv st M else none) else (if pc = 568 then xo_icmp .eq 5 568 3 lv st M else none)) else (if pc < 572 then (if pc = 571 then xo_iconst 0 571 1 lv st M else none) else (if pc = 572 then xo_ret 117 st M else none)))))) else (if pc < 594 then (if pc < 583 then (if pc < 579 then (if pc < 575 then (if pc = 573 then xo_iload 5 573 2 lv st M else none) else (if pc < 578 then (if pc = 575 then xo_if .ne 15 575 3 lv st M else none) else (if pc = 578 then xo_aload 3 578 1 lv st M else none))) else (if pc < 580 then (if pc = 579 then xo_iconst 0 579 1 lv st M else none) else (if pc < 581 then (if pc = 580 then xo_lald 580 1 lv st M else none) else (if pc = 581 then xo_iload 6 581 2 lv st M else none)))) else (if pc < 588 then (if pc < 584 then (if pc = 583 then xo_i2l 583 1 lv st M else none) else (if pc < 585 then (if pc = 584 then xo_lcmp 584 1 lv st M else none) else (if pc = 585 then xo_if .eq 5 585 3 lv st M else none))) else (if pc < 590 then (if pc < 589 then (if pc = 588 then xo_iconst 0 588 1 lv st M else none) else (if pc = 589 then xo_ret 117 st M else none)) else (if pc < 593 then (if pc = 590 then xo_goto 90 590 lv st M else none) else (if pc = 593 then xo_aload 1 593 1 lv st M else none))))) else (if pc < 601 then (if pc < 598 then (if pc < 595 then (if pc = 594 then xo_aload 0 594 1 lv st M else none) else (if pc < 597 then (if pc = 595 then xo_iload 4 595 2 lv st M else none) else (if pc = 597 then xo_iconst 1 597 1 lv st M else none))) else (if pc < 599 then (if pc = 598 then xo_iadd 598 1 lv st M else none) else (if pc < 600 then (if pc = 599 then xo_iald 599 1 lv st M else none) else (if pc = 600 then xo_aload 0 600 1 lv st M else none)))) else (if pc < 605 then (if pc < 603 then (if pc = 601 then xo_iload 4 601 2 lv st M else none) else (if pc < 604 then (if pc = 603 then xo_iconst 2 603 1 lv st M else none) else (if pc = 604 then xo_iadd 604 1 lv st M else none))) else (if pc < 609 then (if pc < 606 then (if pc = 605 then xo_iald 605 1 lv st M else none) else (if pc = 606 then xo_call true 117 12 st else none)) else (if pc < 610 then (if pc = 609 then xo_aload 2 609 1 lv st M else none) else (if pc = 610 then xo_aload 0 610 1 lv st M else none))))))) else (if pc < 646 then (if pc < 629 then (if pc < 619 then (if pc < 615 then (if pc < 613 then (if pc = 611 then xo_iload 4 611 2 lv st M else none) else (if pc < 614 then (if pc = 613 then xo_iconst 1 613 1 lv st M else none) else (if pc = 614 then xo_iadd 614 1 lv st M else none))) else (if pc < 616 then (if pc = 615 then xo_iald 615 1 lv st M else none) else (if pc < 617 then (if pc = 616 then xo_aload 0 616 1 lv st M else none) else (if pc = 617 then xo_iload 4 617 2 lv st M else none)))) else (if pc < 622 then (if pc < 620 then (if pc = 619 then xo_iconst 2 619 1 lv st M else none) else (if pc < 621 then (if pc = 620 then xo_iadd 620 1 lv st M else none) else (if pc = 621 then xo_iald 621 1 lv st M else none))) else (if pc < 625 then (if pc = 622 then xo_call true 117 108 st else none) else (if pc < 628 then (if pc = 625 then xo_icmp .eq 55 625 3 lv st M else none) else (if pc = 628 then xo_iconst 0 628 1 lv st M else none))))) else (if pc < 636 then (if pc < 632 then (if pc < 630 then (if pc = 629 then xo_ret 117 st M else none) else (if pc < 631 then (if pc = 630 then xo_aload 1 630 1 lv st M else none) else (if pc = 631 then xo_aload 0 631 1 lv st M else none))) else (if pc < 634 then (if pc = 632 then xo_iload 4 632 2 lv st M else none) else (if pc < 635 then (if pc = 634 then xo_iconst 1 634 1 lv st M else none) else (if pc = 635 then xo_iadd 635 1 lv st M else none)))) else (if pc < 641 then (if pc < 637 then (if pc = 636 then xo_iald 636 1 lv st M else none) else (if pc < 640 then (if pc = 637 then xo_call true 117 13 st else none) else (if pc = 640 then xo_aload 2 640 1 lv st M else none))) else (if pc < 644 then (if pc < 642 then (if pc = 641 then xo_aload 0 641 1 lv st M else none) else (if pc = 642 then xo_iload 4 642 2 lv st M else none)) else (if pc < 645 then (if pc = 644 then xo_iconst 1 644 1 lv st M else none) else (if pc = 645 then xo_iadd 645 1 lv st M else none)))))) else (if pc < 666 then (if pc < 656 then (if pc < 653 then (if pc < 647 then (if pc = 646 then xo_iald 646 1 lv st M else none) else (if pc < 650 then (if pc = 647 then xo_call true 117 109 st else none) else (if pc = 650 then xo_icmp .eq 30 650 3 lv st M else none))) else (if pc < 654 then (if pc = 653 then xo_iconst 0 653 1 lv st M else none) else (if pc < 655 then (if pc = 654 then xo_ret 117 st M else none) else (if pc = 655 then xo_aload 1 655 1 lv st M else none)))) else (if pc < 660 then (if pc < 657 then (if pc = 656 then xo_aload 0 656 1 lv st M else none) else (if pc < 659 then (if pc = 657 then xo_iload 4 657 2 lv st M else none) else (if pc = 659 then xo_iconst 1 659 1 lv st M else none))) else (if pc < 662 then (if pc < 661 then (if pc = 660 then xo_iadd 660 1 lv st M else none) else (if pc = 661 then xo_iald 661 1 lv st M else none)) else (if pc < 665 then (if pc = 662 then xo_call true 117 14 st else none) else (if pc = 665 then xo_aload 2 665 1 lv st M else none))))) else (if pc < 675 then (if pc < 670 then (if pc < 667 then (if pc = 666 then xo_aload 0 666 1 lv st M else none) else (if pc < 669 then (if pc = 667 then xo_iload 4 667 2 lv st M else none) else (if pc = 669 then xo_iconst 1 669 1 lv st M else none))) else (if pc < 671 then (if pc = 670 then xo_iadd 670 1 lv st M else none) else (if pc < 672 then (if pc = 671 then xo_iald 671 1 lv st M else none) else (if pc = 672 then xo_call true 117 110 st else none)))) else (if pc < 680 then (if pc < 678 then (if pc = 675 then xo_icmp .eq 5 675 3 lv st M else none) else (if pc < 679 then (if pc = 678 then xo_iconst 0 678 1 lv st M else none) else (if pc = 679 then xo_ret 117 st M else none))) else (if pc < 686 then (if pc < 683 then (if pc = 680 then xo_iinc 4 3 680 3 lv st M else none) else (if pc = 683 then xo_goto (-660) 683 lv st M else none)) else (if pc < 687 then (if pc = 686 then xo_iconst 1 686 1 lv st M else none) else (if pc = 687 then xo_ret 117 st M else none)))))))))
def cd (y pc : Nat) (lv : XL) (st : List XV) (M : XM) : Option XN := if y < 59 then (if y < 29 then (if y < 14 then (if y < 7 then (if y < 3 then (if y < 1 then (if y = 0 then cd_0 pc lv st M else none) else (if y < 2 then (if y = 1 then cd_1 pc lv st M else none) else (if y = 2 then cd_2 pc lv st M else none))) else (if y < 5 then (if y < 4 then (if y = 3 then cd_3 pc lv st M else none) else (if y = 4 then cd_4 pc lv st M else none)) else (if y < 6 then (if y = 5 then cd_5 pc lv st M else none) else (if y = 6 then cd_6 pc lv st M else none)))) else (if y < 10 then (if y < 8 then (if y = 7 then cd_7 pc lv st M else none) else (if y < 9 then (if y = 8 then cd_8 pc lv st M else none) else (if y = 9 then cd_9 pc lv st M else none))) else (if y < 12 then (if y < 11 then (if y = 10 then cd_10 pc lv st M else none) else (if y = 11 then cd_11 pc lv st M else none)) else (if y < 13 then (if y = 12 then cd_12 pc lv st M else none) else (if y = 13 then cd_13 pc lv st M else none))))) else (if y < 21 then (if y < 17 then (if y < 15 then (if y = 14 then cd_14 pc lv st M else none) else (if y < 16 then (if y = 15 then cd_15 pc lv st M else none) else (if y = 16 then cd_16 pc lv st M else none))) else (if y < 19 then (if y < 18 then (if y = 17 then cd_17 pc lv st M else none) else (if y = 18 then cd_18 pc lv st M else none)) else (if y < 20 then (if y = 19 then cd_19 pc lv st M else none) else (if y = 20 then cd_20 pc lv st M else none)))) else (if y < 25 then (if y < 23 then (if y < 22 then (if y = 21 then cd_21 pc lv st M else none) else (if y = 22 then cd_22 pc lv st M else none)) else (if y < 24 then (if y = 23 then cd_23 pc lv st M else none) else (if y = 24 then cd_24 pc lv st M else none))) else (if y < 27 then (if y < 26 then (if y = 25 then cd_25 pc lv st M else none) else (if y = 26 then cd_26 pc lv st M else none)) else (if y < 28 then (if y = 27 then cd_27 pc lv st M else none) else (if y = 28 then cd_28 pc lv st M else none)))))) else (if y < 44 then (if y < 36 then (if y < 32 then (if y < 30 then (if y = 29 then cd_29 pc lv st M else none) else (if y < 31 then (if y = 30 then cd_30 pc lv st M else none) else (if y = 31 then cd_31 pc lv st M else none))) else (if y < 34 then (if y < 33 then (if y = 32 then cd_32 pc lv st M else none) else (if y = 33 then cd_33 pc lv st M else none)) else (if y < 35 then (if y = 34 then cd_34 pc lv st M else none) else (if y = 35 then cd_35 pc lv st M else none)))) else (if y < 40 then (if y < 38 then (if y < 37 then (if y = 36 then cd_36 pc lv st M else none) else (if y = 37 then cd_37 pc lv st M else none)) else (if y < 39 then (if y = 38 then cd_38 pc lv st M else none) else (if y = 39 then cd_39 pc lv st M else none))) else (if y < 42 then (if y < 41 then (if y = 40 then cd_40 pc lv st M else none) else (if y = 41 then cd_41 pc lv st M else none)) else (if y < 43 then (if y = 42 then cd_42 pc lv st M else none) else (if y = 43 then cd_43 pc lv st M else none))))) else (if y < 51 then (if y < 47 then (if y < 45 then (if y = 44 then cd_44 pc lv st M else none) else (if y < 46 then (if y = 45 then cd_45 pc lv st M else none) else (if y = 46 then cd_46 pc lv st M else none))) else (if y < 49 then (if y < 48 then (if y = 47 then cd_47 pc lv st M else none) else (if y = 48 then cd_48 pc lv st M else none)) else (if y < 50 then (if y = 49 then cd_49 pc lv st M else none) else (if y = 50 then cd_50 pc lv st M else none)))) else (if y < 55 then (if y < 53 then (if y < 52 then (if y = 51 then cd_51 pc lv st M else none) else (if y = 52 then cd_52 pc lv st M else none)) else (if y < 54 then (if y = 53 then cd_53 pc lv st M else none) else (if y = 54 then cd_54 pc lv st M else none))) else (if y < 57 then (if y < 56 then (if y = 55 then cd_55 pc lv st M else none) else (if y = 56 then cd_56 pc lv st M else none)) else (if y < 58 then (if y = 57 then cd_57 pc lv st M else none) else (if y = 58 then cd_58 pc lv st M else none))))))) else (if y < 88 then (if y < 73 then (if y < 66 then (if y < 62 then (if y < 60 then (if y = 59 then cd_59 pc lv st M else none) else (if y < 61 then (if y = 60 then cd_60 pc lv st M else none) else (if y = 61 then cd_61 pc lv st M else none))) else (if y < 64 then (if y < 63 then (if y = 62 then cd_62 pc lv st M else none) else (if y = 63 then cd_63 pc lv st M else none)) else (if y < 65 then (if y = 64 then cd_64 pc lv st M else none) else (if y = 65 then cd_65 pc lv st M else none)))) else (if y < 69 then (if y < 67 then (if y = 66 then cd_66 pc lv st M else none) else (if y < 68 then (if y = 67 then cd_67 pc lv st M else none) else (if y = 68 then cd_68 pc lv st M else none))) else (if y < 71 then (if y < 70 then (if y = 69 then cd_69 pc lv st M else none) else (if y = 70 then cd_70 pc lv st M else none)) else (if y < 72 then (if y = 71 then cd_71 pc lv st M else none) else (if y = 72 then cd_72 pc lv st M else none))))) else (if y < 80 then (if y < 76 then (if y < 74 then (if y = 73 then cd_73 pc lv st M else none) else (if y < 75 then (if y = 74 then cd_74 pc lv st M else none) else (if y = 75 then cd_75 pc lv st M else none))) else (if y < 78 then (if y < 77 then (if y = 76 then cd_76 pc lv st M else none) else (if y = 77 then cd_77 pc lv st M else none)) else (if y < 79 then (if y = 78 then cd_78 pc lv st M else none) else (if y = 79 then cd_79 pc lv st M else none)))) else (if y < 84 then (if y < 82 then (if y < 81 then (if y = 80 then cd_80 pc lv st M else none) else (if y = 81 then cd_81 pc lv st M else none)) else (if y < 83 then (if y = 82 then cd_82 pc lv st M else none) else (if y = 83 then cd_83 pc lv st M else none))) else (if y < 86 then (if y < 85 then (if y = 84 then cd_84 pc lv st M else none) else (if y = 85 then cd_85 pc lv st M else none)) else (if y < 87 then (if y = 86 then cd_86 pc lv st M else none) else (if y = 87 then cd_87 pc lv st M else none)))))) else (if y < 103 then (if y < 95 then (if y < 91 then (if y < 89 then (if y = 88 then cd_88 pc lv st M else none) else (if y < 90 then (if y = 89 then cd_89 pc lv st M else none) else (if y = 90 then cd_90 pc lv st M else none))) else (if y < 93 then (if y < 92 then (if y = 91 then cd_91 pc lv st M else none) else (if y = 92 then cd_92 pc lv st M else none)) else (if y < 94 then (if y = 93 then cd_93 pc lv st M else none) else (if y = 94 then cd_94 pc lv st M else none)))) else (if y < 99 then (if y < 97 then (if y < 96 then (if y = 95 then cd_95 pc lv st M else none) else (if y = 96 then cd_96 pc lv st M else none)) else (if y < 98 then (if y = 97 then cd_97 pc lv st M else none) else (if y = 98 then cd_98 pc lv st M else none))) else (if y < 101 then (if y < 100 then (if y = 99 then cd_99 pc lv st M else none) else (if y = 100 then cd_100 pc lv st M else none)) else (if y < 102 then (if y = 101 then cd_101 pc lv st M else none) else (if y = 102 then cd_102 pc lv st M else none))))) else (if y < 110 then (if y < 106 then (if y < 104 then (if y = 103 then cd_103 pc lv st M else none) else (if y < 105 then (if y = 104 then cd_104 pc lv st M else none) else (if y = 105 then cd_105 pc lv st M else none))) else (if y < 108 then (if y < 107 then (if y = 106 then cd_106 pc lv st M else none) else (if y = 107 then cd_107 pc lv st M else none)) else (if y < 109 then (if y = 108 then cd_108 pc lv st M else none) else (if y = 109 then cd_109 pc lv st M else none)))) else (if y < 114 then (if y < 112 then (if y < 111 then (if y = 110 then cd_110 pc lv st M else none) else (if y = 111 then cd_111 pc lv st M else none)) else (if y < 113 then (if y = 112 then cd_112 pc lv st M else none) else (if y = 113 then cd_113 pc lv st M else none))) else (if y < 116 then (if y < 115 then (if y = 114 then cd_114 pc lv st M else none) else (if y = 115 then cd_115 pc lv st M else none)) else (if y < 117 then (if y = 116 then cd_116 pc lv st M else none) else (if y = 117 then cd_117 pc lv st M else none)))))))
/-- the heads of loops -/
def xhead (y pc : Nat) : Bool := if y < 51 then (if y < 28 then (if y < 22 then (if y < 3 then (if y < 1 then (if y = 0 then (Nat.beq pc 80) else false) else (if y = 1 then (Nat.beq pc 5 || Nat.beq pc 49) else false)) else (if y < 6 then (if y = 3 then (Nat.beq pc 35) else false) else (if y < 11 then (if y = 6 then (Nat.beq pc 31 || Nat.beq pc 41) else false) else (if y = 11 then (Nat.beq pc 36) else false)))) else (if y < 25 then (if y < 23 then (if y = 22 then (Nat.beq pc 122) else false) else (if y < 24 then (if y = 23 then (Nat.beq pc 15 || Nat.beq pc 67) else false) else (if y = 24 then (Nat.beq pc 3 || Nat.beq pc 50) else false))) else (if y < 26 then (if y = 25 then (Nat.beq pc 15) else false) else (if y < 27 then (if y = 26 then (Nat.beq pc 11) else false) else (if y = 27 then (Nat.beq pc 3) else false))))) else (if y < 43 then (if y < 37 then (if y < 29 then (if y = 28 then (Nat.beq pc 48) else false) else (if y < 32 then (if y = 29 then (Nat.beq pc 22) else false) else (if y = 32 then (Nat.beq pc 2 || Nat.beq pc 36) else false))) else (if y < 38 then (if y = 37 then (Nat.beq pc 5) else false) else (if y < 40 then (if y = 38 then (Nat.beq pc 6) else false) else (if y = 40 then (Nat.beq pc 40) else false)))) else (if y < 46 then (if y < 44 then (if y = 43 then (Nat.beq pc 2) else false) else (if y < 45 then (if y = 44 then (Nat.beq pc 2) else false) else (if y = 45 then (Nat.beq pc 2) else false))) else (if y < 49 then (if y = 46 then (Nat.beq pc 2) else false) else (if y < 50 then (if y = 49 then (Nat.beq pc 53) else false) else (if y = 50 then (Nat.beq pc 10 || Nat.beq pc 28 || Nat.beq pc 89) else false)))))) else (if y < 89 then (if y < 83 then (if y < 71 then (if y < 52 then (if y = 51 then (Nat.beq pc 2) else false) else (if y < 54 then (if y = 52 then (Nat.beq pc 2) else false) else (if y = 54 then (Nat.beq pc 7) else false))) else (if y < 75 then (if y = 71 then (Nat.beq pc 10 || Nat.beq pc 60) else false) else (if y < 80 then (if y = 75 then (Nat.beq pc 8 || Nat.beq pc 75) else false) else (if y = 80 then (Nat.beq pc 4 || Nat.beq pc 83) else false)))) else (if y < 86 then (if y < 84 then (if y = 83 then (Nat.beq pc 11) else false) else (if y < 85 then (if y = 84 then (Nat.beq pc 19) else false) else (if y = 85 then (Nat.beq pc 6) else false))) else (if y < 87 then (if y = 86 then (Nat.beq pc 4) else false) else (if y < 88 then (if y = 87 then (Nat.beq pc 2) else false) else (if y = 88 then (Nat.beq pc 4) else false))))) else (if y < 95 then (if y < 92 then (if y < 90 then (if y = 89 then (Nat.beq pc 9 || Nat.beq pc 113) else false) else (if y < 91 then (if y = 90 then (Nat.beq pc 12) else false) else (if y = 91 then (Nat.beq pc 4) else false))) else (if y < 93 then (if y = 92 then (Nat.beq pc 91 || Nat.beq pc 118) else false) else (if y < 94 then (if y = 93 then (Nat.beq pc 9 || Nat.beq pc 24) else false) else (if y = 94 then (Nat.beq pc 102 || Nat.beq pc 144 || Nat.beq pc 208) else false)))) else (if y < 102 then (if y < 97 then (if y = 95 then (Nat.beq pc 76) else false) else (if y < 98 then (if y = 97 then (Nat.beq pc 61) else false) else (if y = 98 then (Nat.beq pc 23) else false))) else (if y < 105 then (if y = 102 then (Nat.beq pc 33 || Nat.beq pc 76 || Nat.beq pc 98) else false) else (if y < 117 then (if y = 105 then (Nat.beq pc 2 || Nat.beq pc 17) else false) else (if y = 117 then (Nat.beq pc 23) else false))))))
end
section
/-- the run -/
def xrun : Nat → Nat → Nat → XL → List XV → XM → Option (XO × XM)
  | 0, _, _, _, _, _ => none
  | f + 1, y, pc, lv, st, M => xk (xrun f) y pc lv M (cd y pc lv st M)
theorem xk_mono {g g' : Nat → Nat → XL → List XV → XM → Option (XO × XM)} (hg : ∀ y pc lv st M r, g y pc lv st M = some r → g' y pc lv st M = some r) {y pc : Nat} {lv : XL} {M : XM} {x : Option XN} {r : XO × XM} (h : xk g y pc lv M x = some r) : xk g' y pc lv M x = some r := by
  rcases x with _ | (⟨pc', lv', st', M'⟩ | ⟨z, as, rest⟩ | ⟨o, M'⟩)
  · cases h
  · exact hg _ _ _ _ _ _ h
  · unfold xk at h ⊢
    dsimp only at h ⊢
    cases hz : g z 0 (xent (xml z) as) [] M with
    | none => rw [hz] at h; cases h
    | some q =>
      rw [hz] at h
      rw [hg _ _ _ _ _ _ hz]
      obtain ⟨o1, M1⟩ := q
      cases o1 with
      | inl rv => exact hg _ _ _ _ _ _ h
      | inr e =>
        dsimp only at h ⊢
        cases hh : xhd y pc e with
        | none => rw [hh] at h; cases h
        | some w =>
          obtain ⟨h1, k1⟩ := w
          rw [hh] at h
          exact hg _ _ _ _ _ _ h
  · exact h
theorem xrun_succ : ∀ (f y pc : Nat) (lv : XL) (st : List XV) (M : XM) (r : XO × XM), xrun f y pc lv st M = some r → xrun (f + 1) y pc lv st M = some r
  | 0, _, _, _, _, _, _, h => by cases h
  | f + 1, _, _, _, _, _, _, h => xk_mono (fun y pc lv st M r h => xrun_succ f y pc lv st M r h) h
theorem xrun_le {f g y pc : Nat} {lv : XL} {st : List XV} {M : XM} {r : XO × XM} (hfg : f ≤ g) (h : xrun f y pc lv st M = some r) : xrun g y pc lv st M = some r := by
  induction hfg with
  | refl => exact h
  | step _ ih => exact xrun_succ _ _ _ _ _ _ _ ih
def WP (y pc : Nat) (lv : XL) (st : List XV) (M : XM) (Q : XO → XM → Prop) : Prop := ∃ f o M', xrun f y pc lv st M = some (o, M') ∧ Q o M'
def WC (z : Nat) (as : List XV) (M : XM) (Q : XO → XM → Prop) : Prop := WP z 0 (xent (xml z) as) [] M Q
def WK (y pc : Nat) (lv : XL) (rest : List XV) (Q : XO → XM → Prop) : XO → XM → Prop := fun o M1 => match o with
  | .inl rv => WP y (pc + 3) lv (rv.toList ++ rest) M1 Q
  | .inr e => match xhd y pc e with
    | none => False
    | some (h, k) => WP y h (lv.set k none) [] M1 Q
def WX (y pc : Nat) (lv : XL) (M : XM) (Q : XO → XM → Prop) (r : Option XN) : Prop := match r with
  | none => False
  | some (.inl (pc', lv', st', M')) => WP y pc' lv' st' M' Q
  | some (.inr (.inl (z, as, rest))) => WC z as M (WK y pc lv rest Q)
  | some (.inr (.inr (o, M'))) => Q o M'
theorem WP_force {y pc : Nat} {lv : XL} {st : List XV} {M : XM} {Q : XO → XM → Prop} : WP y pc lv st M Q = WX y pc lv M Q (cd y pc lv st M) := by
  apply propext
  constructor
  · rintro ⟨f, o, M', h, hQ⟩
    cases f with
    | zero => cases h
    | succ f =>
      have h : xk (xrun f) y pc lv M (cd y pc lv st M) = some (o, M') := h
      generalize cd y pc lv st M = x at h
      rcases x with _ | (⟨pc', lv', st', M1⟩ | ⟨z, as, rest⟩ | ⟨o1, M1⟩)
      · cases h
      · exact ⟨f, o, M', h, hQ⟩
      · unfold xk at h
        dsimp only at h
        cases hz : xrun f z 0 (xent (xml z) as) [] M with
        | none => rw [hz] at h; cases h
        | some q =>
          rw [hz] at h
          obtain ⟨o1, M1⟩ := q
          refine ⟨f, o1, M1, hz, ?_⟩
          cases o1 with
          | inl rv => exact ⟨f, o, M', h, hQ⟩
          | inr e =>
            dsimp only at h
            show (match xhd y pc e with | none => False | some (h, k) => WP y h (lv.set k none) [] M1 Q)
            cases hh : xhd y pc e with
            | none => rw [hh] at h; cases h
            | some w =>
              obtain ⟨h1, k1⟩ := w
              rw [hh] at h
              exact ⟨f, o, M', h, hQ⟩
      · cases h
        exact hQ
  · intro h
    have key : ∀ x, WX y pc lv M Q x → ∃ f o M', xk (xrun f) y pc lv M x = some (o, M') ∧ Q o M' := by
      intro x hx
      rcases x with _ | (⟨pc', lv', st', M1⟩ | ⟨z, as, rest⟩ | ⟨o1, M1⟩)
      · cases hx
      · exact hx
      · obtain ⟨f1, o1, M1, hz, hk⟩ := hx
        cases o1 with
        | inl rv =>
          obtain ⟨f2, o, M', h2, hQ⟩ := hk
          refine ⟨max f1 f2, o, M', ?_, hQ⟩
          unfold xk
          dsimp only
          rw [xrun_le (Nat.le_max_left f1 f2) hz]
          exact xrun_le (Nat.le_max_right f1 f2) h2
        | inr e =>
          have hk : (match xhd y pc e with | none => False | some (h, k) => WP y h (lv.set k none) [] M1 Q) := hk
          cases hh : xhd y pc e with
          | none => rw [hh] at hk; exact absurd hk id
          | some w =>
            obtain ⟨h1, k1⟩ := w
            rw [hh] at hk
            obtain ⟨f2, o, M', h2, hQ⟩ := hk
            refine ⟨max f1 f2, o, M', ?_, hQ⟩
            unfold xk
            dsimp only
            rw [xrun_le (Nat.le_max_left f1 f2) hz]
            dsimp only
            rw [hh]
            exact xrun_le (Nat.le_max_right f1 f2) h2
      · exact ⟨0, o1, M1, rfl, hx⟩
    obtain ⟨f, o, M', h1, hQ⟩ := key _ h
    exact ⟨f + 1, o, M', h1, hQ⟩
theorem WP_go {y pc : Nat} {lv : XL} {st : List XV} {M : XM} {Q : XO → XM → Prop} (_ : xhead y pc = false) : WP y pc lv st M Q = WX y pc lv M Q (cd y pc lv st M) := WP_force
theorem WX_next {y pc pc' : Nat} {lv lv' : XL} {st' : List XV} {M M' : XM} {Q : XO → XM → Prop} : WX y pc lv M Q (xnx pc' lv' st' M') = WP y pc' lv' st' M' Q := rfl
theorem WX_call {y pc z : Nat} {lv : XL} {as rest : List XV} {M : XM} {Q : XO → XM → Prop} : WX y pc lv M Q (some (.inr (.inl (z, as, rest)))) = WC z as M (WK y pc lv rest Q) := rfl
theorem WX_end {y pc : Nat} {lv : XL} {M M' : XM} {o : XO} {Q : XO → XM → Prop} : WX y pc lv M Q (some (.inr (.inr (o, M')))) = Q o M' := rfl
theorem WX_none {y pc : Nat} {lv : XL} {M : XM} {Q : XO → XM → Prop} : WX y pc lv M Q none = False := rfl
theorem WX_if {c : Prop} {d : Decidable c} {y pc : Nat} {lv : XL} {M : XM} {Q : XO → XM → Prop} {a b : Option XN} : WX y pc lv M Q (@ite _ c d a b) = ((c → WX y pc lv M Q a) ∧ (¬ c → WX y pc lv M Q b)) := by
  by_cases h : c <;> simp [h]
theorem WP_mono {y pc : Nat} {lv : XL} {st : List XV} {M : XM} {Q Q' : XO → XM → Prop} (h : WP y pc lv st M Q) (hq : ∀ o M', Q o M' → Q' o M') : WP y pc lv st M Q' := by
  obtain ⟨f, o, M', h1, h2⟩ := h
  exact ⟨f, o, M', h1, hq _ _ h2⟩
theorem WC_mono {z : Nat} {as : List XV} {M : XM} {Q Q' : XO → XM → Prop} (h : WC z as M Q) (hq : ∀ o M', Q o M' → Q' o M') : WC z as M Q' := WP_mono h hq
theorem WK_ret {y pc : Nat} {lv : XL} {rest : List XV} {rv : Option XV} {M1 : XM} {Q : XO → XM → Prop} : WK y pc lv rest Q (.inl rv) M1 = WP y (pc + 3) lv (rv.toList ++ rest) M1 Q := rfl
end
section
def tv (ad : Nat → Nat → Nat) : XV → Value
  | .inl x => .int x
  | .inr (.inl x) => .long x
  | .inr (.inr none) => .null
  | .inr (.inr (some q)) => .ref (ad q.1 q.2)
def vok (k : Nat → Nat) : XV → Prop
  | .inr (.inr (some q)) => q.2 < k q.1
  | _ => True
def xrf (ad : Nat → Nat → Nat) (r : Option XR) : Option Nat := r.map (fun q => ad q.1 q.2)
def xfv (ad : Nat → Nat → Nat) (M : XM) (t n k : Nat) : Value := if xst (xkc t) k = 1 then va_rf (xrf ad (M.2.2.1 t n k)) else .int (M.1 t n k)
/-- the cell of an object or array -/
def xce (K : Nat → ClassId) (ad : Nat → Nat → Nat) (M : XM) (q : XR) : Nat × va_E := (ad q.1 q.2,
  if xkt q.1 = 0 then .inr (xkc q.1, (List.range (xkn q.1)).map (xfv ad M q.1 q.2))
  else if xkt q.1 = 1 then .inl (K 0, xkn q.1, .inl (M.1 q.1 q.2))
  else if xkt q.1 = 2 then .inl (K 1, xkn q.1, .inl (M.1 q.1 q.2))
  else if xkt q.1 = 3 then .inl (K 2, xkn q.1, .inr (.inl (M.2.1 q.1 q.2)))
  else .inl (K (xka (xkc q.1)), xkn q.1, .inr (.inr (.inr (.inr (fun k => xrf ad (M.2.2.1 q.1 q.2 k)))))))
/-- the heap H holds the memory M, at the addresses ad -/
def XRel (D : va_G) (K : Nat → ClassId) (U : State) (A : Nat → Prop) (ad : Nat → Nat → Nat) (M : XM) (H : Heap) : Prop :=
  (∃ ob : List XR, (∀ q : XR, q ∈ ob ↔ (xkt q.1 ≠ 5 ∧ q.2 < M.2.2.2.1 q.1)) ∧ va_P D xcl (ob.map (xce K ad M)) H ∧ va_D A (ob.map (xce K ad M))) ∧
  (∀ (t n k : Nat) (q : XR), M.2.2.1 t n k = some q → q.2 < M.2.2.2.1 q.1) ∧
  (∀ (t n : Nat), xkt t = 5 → n < M.2.2.2.1 t → va_X (ad t n) M.2.2.2.2.1 (M.1 t n) U H ∧ ¬ A (ad t n))
def XLs (ad : Nat → Nat → Nat) (k : Nat → Nat) (lv : XL) (ls : Array Slot) : Prop := ls.size = lv.length ∧ lv_wf ls ∧ ∀ (i : Nat) (v : XV), lv[i]? = some (some v) → ls[i]? = some (.val (tv ad v)) ∧ vok k v
def XSt (k : Nat → Nat) (st : List XV) : Prop := ∀ v ∈ st, vok k v
/-- what is known of a method's invocation -/
def XC (y : Nat) (p : Program) (l : Launch) (R : Room) (s : State) (m : MethodId) (args : Array Value) (meth : Method) (c : Code) (D : va_G) (K : Nat → ClassId) (A : Nat → Prop) : Prop :=
  p.tables.exec = Jvm.exec ∧ c.code = xby y ∧ c.maxLocals = xml y ∧ meth.sig.returnType = xrty y ∧ (∀ w ∈ xall, w.before args s = true) ∧ s.vm.findClass (xown y) = some m.cls ∧ meth.locks = false ∧ (xini y = true → meth.name = "<init>") ∧
  va_K D xcl (xtys K) s ∧ (∀ w ∈ xnw, va_Nw w s) ∧ xdp y ≤ R.frames ∧ xlo y ≤ R.locals ∧ (∀ q : Nat, s.heap.size ≤ q → A q) ∧ (∀ (q : Nat) (cell : Cell), A q → s.heap[q]? = some cell → cell.vm.isStatics = false)
/-- how a method ends -/
def XQ (D : va_G) (K : Nat → ClassId) (A : Nat → Prop) (ad0 : Nat → Nat → Nat) (k0 : Nat → Nat) (rv : Option XV) (M' : XM) : Array Value → State → Outcome → State → Prop := fun _ st oc t =>
  (∃ ad' : Nat → Nat → Nat, (∀ q : XR, q.2 < k0 q.1 → ad' q.1 q.2 = ad0 q.1 q.2) ∧ (∀ i, k0 i ≤ M'.2.2.2.1 i) ∧ (∀ i, xkt i = 5 → M'.2.2.2.1 i = k0 i) ∧ XRel D K t A ad' M' t.heap ∧ (∀ v, rv = some v → vok M'.2.2.2.1 v) ∧ oc = .returned (rv.map (tv ad'))) ∧ va_F A st t
def XEnd (below : List Frame) (D : va_G) (K : Nat → ClassId) (A : Nat → Prop) (ad0 : Nat → Nat → Nat) (k0 : Nat → Nat) (o : XO) (M' : XM) (args : Array Value) (s : State) (mc ms : Nat) : State → Prop := match o with
  | .inl rv => MQ below (XQ D K A ad0 k0 rv M') args s mc ms A
  | .inr _ => fun _ => True
/-- the invariant of a walk -/
def XB (y : Nat) (p : Program) (l : Launch) (R : Room) (s : State) (m : MethodId) (args : Array Value) (meth : Method) (c : Code) (D : va_G) (K : Nat → ClassId) (A : Nat → Prop) (ad0 : Nat → Nat → Nat) (k0 : Nat → Nat) (c0 w0 : Nat) (M' : XM) (ad : Nat → Nat → Nat) (H : Heap) (locs : List Loc) (ls : Array Slot) (lv : XL) (st : List XV) (M : XM) : Prop :=
  XC y p l R s m args meth c D K A ∧ XRel D K s A ad M H ∧ va_S A s.heap H locs ∧ XLs ad M.2.2.2.1 lv ls ∧ XSt M.2.2.2.1 st ∧ lv.length = xml y ∧ ((∀ q : XR, q.2 < k0 q.1 → ad q.1 q.2 = ad0 q.1 q.2) ∧ (∀ i, k0 i ≤ M.2.2.2.1 i) ∧ (∀ i, xkt i = 5 → M.2.2.2.1 i = k0 i)) ∧ (c0 ≤ M.2.2.2.2.2.1 ∧ w0 ≤ M.2.2.2.2.2.2 ∧ M'.2.2.2.2.2.1 - c0 ≤ R.cells ∧ M'.2.2.2.2.2.2 - w0 ≤ R.slots)
def XW (y pc : Nat) (lv : XL) (st : List XV) (M : XM) (o : XO) (M' : XM) : Prop :=
  ∀ (p : Program) (l : Launch) (e : Env) (R : Room) (s : State) (m : MethodId) (args : Array Value) (below : List Frame) (meth : Method) (c : Code) (D : va_G) (K : Nat → ClassId) (A : Nat → Prop) (ad0 : Nat → Nat → Nat) (k0 : Nat → Nat) (c0 w0 : Nat) (ad : Nat → Nat → Nat) (H : Heap) (locs : List Loc) (ls : Array Slot),
    XB y p l R s m args meth c D K A ad0 k0 c0 w0 M' ad H locs ls lv st M →
    W p l e R s m args below meth c H locs (M.2.2.2.2.2.1 - c0) (M.2.2.2.2.2.2 - w0) (XEnd below D K A ad0 k0 o M' args s (M'.2.2.2.2.2.1 - c0) (M'.2.2.2.2.2.2 - w0)) (F0 m pc ls (st.map (tv ad)))
def XG (y pc : Nat) (lv : XL) (st : List XV) (M : XM) (o : XO) (M' : XM) : Prop := (M.2.2.2.2.2.1 ≤ M'.2.2.2.2.2.1 ∧ M.2.2.2.2.2.2 ≤ M'.2.2.2.2.2.2) ∧ XW y pc lv st M o M'
def XIH (f : Nat) : Prop := ∀ (y pc : Nat) (lv : XL) (st : List XV) (M : XM) (o : XO) (M' : XM), xrun f y pc lv st M = some (o, M') → XG y pc lv st M o M'
def Snd (y pc : Nat) (op : XL → List XV → XM → Option XN) : Prop := ∀ (f : Nat) (lv : XL) (st : List XV) (M : XM) (o : XO) (M' : XM), xk (xrun f) y pc lv M (op lv st M) = some (o, M') → XIH f → XG y pc lv st M o M'
theorem snd_none (y pc : Nat) : Snd y pc (fun _ _ _ => none) := fun f lv st M o M' h _ => by cases h
theorem ok_lt {y a : Nat} {f g : Nat → XL → List XV → XM → Option XN} (h1 : ∀ pc, Snd y pc (f pc)) (h2 : ∀ pc, Snd y pc (g pc)) : ∀ pc, Snd y pc (fun lv st M => if pc < a then f pc lv st M else g pc lv st M) := by
  intro pc
  by_cases h : pc < a
  · simp only [h, if_true]; exact h1 pc
  · simp only [h, if_false]; exact h2 pc
theorem ok_eq {y k : Nat} {op : XL → List XV → XM → Option XN} (h1 : Snd y k op) : ∀ pc, Snd y pc (fun lv st M => if pc = k then op lv st M else none) := by
  intro pc
  by_cases h : pc = k
  · subst h; simp only [if_true]; exact h1
  · simp only [h, if_false]; exact snd_none y pc
theorem xc_cond {α : Type} {b : Bool} {x : Option α} {r : α} (h : (bif b then x else none) = some r) : b = true ∧ x = some r := by
  cases b with
  | false => cases h
  | true => exact ⟨rfl, h⟩
/-- an instruction that changes the stack alone -/
theorem XG.pure {y pc pc' : Nat} {lv : XL} {st st' : List XV} {M : XM} {o : XO} {M' : XM} (hn : XG y pc' lv st' M o M') (hs : XSt M.2.2.2.1 st → XSt M.2.2.2.1 st')
    (hW : ∀ (p : Program) (l : Launch) (e : Env) (R : Room) (s : State) (m : MethodId) (args : Array Value) (below : List Frame) (meth : Method) (c : Code) (D : va_G) (K : Nat → ClassId) (A : Nat → Prop) (ad : Nat → Nat → Nat) (H : Heap) (locs : List Loc) (ls : Array Slot) (cells slots : Nat) (Q : State → Prop), XC y p l R s m args meth c D K A → XRel D K s A ad M H → va_S A s.heap H locs → XLs ad M.2.2.2.1 lv ls → XSt M.2.2.2.1 st → lv.length = xml y → cells ≤ R.cells → slots ≤ R.slots →
      W p l e R s m args below meth c H locs cells slots Q (F0 m pc' ls (st'.map (tv ad))) → W p l e R s m args below meth c H locs cells slots Q (F0 m pc ls (st.map (tv ad)))) : XG y pc lv st M o M' := by
  refine ⟨hn.1, ?_⟩
  intro p l e R s m args below meth c D K A ad0 k0 c0 w0 ad H locs ls B
  obtain ⟨C, X, hS, hL, hst, hlen, hag, hcw⟩ := B
  have h1 := hn.1
  exact hW p l e R s m args below meth c D K A ad H locs ls _ _ _ C X hS hL hst hlen (by omega) (by omega) (hn.2 p l e R s m args below meth c D K A ad0 k0 c0 w0 ad H locs ls ⟨C, X, hS, hL, hs hst, hlen, hag, hcw⟩)
theorem XSt.tail {k : Nat → Nat} {v : XV} {st : List XV} (h : XSt k (v :: st)) : XSt k st := fun u hu => h u (List.mem_cons_of_mem _ hu)
theorem XSt.head {k : Nat → Nat} {v : XV} {st : List XV} (h : XSt k (v :: st)) : vok k v := h v List.mem_cons_self
theorem XSt.cons {k : Nat → Nat} {v : XV} {st : List XV} (hv : vok k v) (h : XSt k st) : XSt k (v :: st) := fun u hu => by
  rcases List.mem_cons.mp hu with rfl | hu
  · exact hv
  · exact h u hu
end
section
theorem sd_iconst {y pc : Nat} {n : Int} {v : Int32} (hd : decode (xby y) pc = .ok (.iconst n, 1)) (hv : Int32.ofInt n = v) : Snd y pc (xo_iconst v pc 1) := by
  intro f lv st M o M' h IH
  exact XG.pure (IH _ _ _ _ _ _ _ h) (fun z => XSt.cons trivial z) (fun p l e R s m args below meth c D K A ad H locs ls cells slots Q C X hS hL hst hlen hc hs k => lv_iconst C.1 C.2.1 hd hv k)
theorem sd_bipush {y pc : Nat} {n : Int} {v : Int32} (hd : decode (xby y) pc = .ok (.bipush n, 2)) (hv : (Int8.ofInt n).toInt32 = v) : Snd y pc (xo_iconst v pc 2) := by
  intro f lv st M o M' h IH
  exact XG.pure (IH _ _ _ _ _ _ _ h) (fun z => XSt.cons trivial z) (fun p l e R s m args below meth c D K A ad H locs ls cells slots Q C X hS hL hst hlen hc hs k => lv_bipush C.1 C.2.1 hd hv k)
theorem sd_sipush {y pc : Nat} {n : Int} {v : Int32} (hd : decode (xby y) pc = .ok (.sipush n, 3)) (hv : (Int16.ofInt n).toInt32 = v) : Snd y pc (xo_iconst v pc 3) := by
  intro f lv st M o M' h IH
  exact XG.pure (IH _ _ _ _ _ _ _ h) (fun z => XSt.cons trivial z) (fun p l e R s m args below meth c D K A ad H locs ls cells slots Q C X hS hL hst hlen hc hs k => lv_sipush C.1 C.2.1 hd hv k)
theorem sd_lconst {y pc : Nat} {n : Fin 2} {v : Int64} (hd : decode (xby y) pc = .ok (.lconst n, 1)) (hv : Int64.ofNat (n : Nat) = v) : Snd y pc (xo_lconst v pc 1) := by
  intro f lv st M o M' h IH
  exact XG.pure (IH _ _ _ _ _ _ _ h) (fun z => XSt.cons trivial z) (fun p l e R s m args below meth c D K A ad H locs ls cells slots Q C X hS hL hst hlen hc hs k => lv_lconst C.1 C.2.1 hd hv k)
theorem sd_ldc2 {y pc : Nat} {index : Nat} {v : Int64} (hd : decode (xby y) pc = .ok (.ldc2_w index, 3)) (hw : Cond.constantLong (xown y) index v ∈ xall) : Snd y pc (xo_lconst v pc 3) := by
  intro f lv st M o M' h IH
  exact XG.pure (IH _ _ _ _ _ _ _ h) (fun z => XSt.cons trivial z) (fun p l e R s m args below meth c D K A ad H locs ls cells slots Q C X hS hL hst hlen hc hs k => lv_ldc2 C.1 C.2.1 C.2.2.2.2.2.1 (C.2.2.2.2.1 _ hw) hd k)
theorem sd_iload_n {y pc : Nat} {k0 : Fin 4} {i : Nat} (hd : decode (xby y) pc = .ok (.iload_n k0, 1)) (hi : (k0 : Nat) = i) : Snd y pc (xo_iload i pc 1) := by
  intro f lv st M o M' h IH
  unfold xo_iload at h
  split at h
  · rename_i x hq
    have hn := IH _ _ _ _ _ _ _ h
    refine ⟨hn.1, ?_⟩
    intro p l e R s m args below meth c D K A ad0 k0 c0 w0 ad H locs ls B
    obtain ⟨C, X, hS, hL, hst, hlen, hag, hcw⟩ := B
    have k := hn.2 p l e R s m args below meth c D K A ad0 k0 c0 w0 ad H locs ls ⟨C, X, hS, hL, XSt.cons (hL.2.2 _ _ hq).2 hst, hlen, hag, hcw⟩
    exact lv_iload_n C.1 C.2.1 hd hi (hL.2.2 _ _ hq).1 k
  · cases h
theorem sd_iload {y pc : Nat} {i : Nat} (hd : decode (xby y) pc = .ok (.iload i, 2)) : Snd y pc (xo_iload i pc 2) := by
  intro f lv st M o M' h IH
  unfold xo_iload at h
  split at h
  · rename_i x hq
    have hn := IH _ _ _ _ _ _ _ h
    refine ⟨hn.1, ?_⟩
    intro p l e R s m args below meth c D K A ad0 k0 c0 w0 ad H locs ls B
    obtain ⟨C, X, hS, hL, hst, hlen, hag, hcw⟩ := B
    have k := hn.2 p l e R s m args below meth c D K A ad0 k0 c0 w0 ad H locs ls ⟨C, X, hS, hL, XSt.cons (hL.2.2 _ _ hq).2 hst, hlen, hag, hcw⟩
    exact lv_iload C.1 C.2.1 hd (hL.2.2 _ _ hq).1 k
  · cases h
theorem sd_lload_n {y pc : Nat} {k0 : Fin 4} {i : Nat} (hd : decode (xby y) pc = .ok (.lload_n k0, 1)) (hi : (k0 : Nat) = i) : Snd y pc (xo_lload i pc 1) := by
  intro f lv st M o M' h IH
  unfold xo_lload at h
  split at h
  · rename_i x hq
    have hn := IH _ _ _ _ _ _ _ h
    refine ⟨hn.1, ?_⟩
    intro p l e R s m args below meth c D K A ad0 k0 c0 w0 ad H locs ls B
    obtain ⟨C, X, hS, hL, hst, hlen, hag, hcw⟩ := B
    have k := hn.2 p l e R s m args below meth c D K A ad0 k0 c0 w0 ad H locs ls ⟨C, X, hS, hL, XSt.cons (hL.2.2 _ _ hq).2 hst, hlen, hag, hcw⟩
    exact lv_lload_n C.1 C.2.1 hd hi (hL.2.2 _ _ hq).1 k
  · cases h
theorem sd_lload {y pc : Nat} {i : Nat} (hd : decode (xby y) pc = .ok (.lload i, 2)) : Snd y pc (xo_lload i pc 2) := by
  intro f lv st M o M' h IH
  unfold xo_lload at h
  split at h
  · rename_i x hq
    have hn := IH _ _ _ _ _ _ _ h
    refine ⟨hn.1, ?_⟩
    intro p l e R s m args below meth c D K A ad0 k0 c0 w0 ad H locs ls B
    obtain ⟨C, X, hS, hL, hst, hlen, hag, hcw⟩ := B
    have k := hn.2 p l e R s m args below meth c D K A ad0 k0 c0 w0 ad H locs ls ⟨C, X, hS, hL, XSt.cons (hL.2.2 _ _ hq).2 hst, hlen, hag, hcw⟩
    exact lv_lload C.1 C.2.1 hd (hL.2.2 _ _ hq).1 k
  · cases h
theorem sd_aload_n {y pc : Nat} {k0 : Fin 4} {i : Nat} (hd : decode (xby y) pc = .ok (.aload_n k0, 1)) (hi : (k0 : Nat) = i) : Snd y pc (xo_aload i pc 1) := by
  intro f lv st M o M' h IH
  unfold xo_aload at h
  split at h
  · rename_i x hq
    have hn := IH _ _ _ _ _ _ _ h
    refine ⟨hn.1, ?_⟩
    intro p l e R s m args below meth c D K A ad0 k0 c0 w0 ad H locs ls B
    obtain ⟨C, X, hS, hL, hst, hlen, hag, hcw⟩ := B
    have k := hn.2 p l e R s m args below meth c D K A ad0 k0 c0 w0 ad H locs ls ⟨C, X, hS, hL, XSt.cons (hL.2.2 _ _ hq).2 hst, hlen, hag, hcw⟩
    exact lv_aload_n C.1 C.2.1 hd hi (hL.2.2 _ _ hq).1 k
  · cases h
theorem sd_aload {y pc : Nat} {i : Nat} (hd : decode (xby y) pc = .ok (.aload i, 2)) : Snd y pc (xo_aload i pc 2) := by
  intro f lv st M o M' h IH
  unfold xo_aload at h
  split at h
  · rename_i x hq
    have hn := IH _ _ _ _ _ _ _ h
    refine ⟨hn.1, ?_⟩
    intro p l e R s m args below meth c D K A ad0 k0 c0 w0 ad H locs ls B
    obtain ⟨C, X, hS, hL, hst, hlen, hag, hcw⟩ := B
    have k := hn.2 p l e R s m args below meth c D K A ad0 k0 c0 w0 ad H locs ls ⟨C, X, hS, hL, XSt.cons (hL.2.2 _ _ hq).2 hst, hlen, hag, hcw⟩
    exact lv_aload C.1 C.2.1 hd (hL.2.2 _ _ hq).1 k
  · cases h
def xlst (ad : Nat → Nat → Nat) (lv : XL) : List (Nat × Value) := (List.range lv.length).filterMap (fun i => match lv[i]? with
  | some (some v) => some (i, tv ad v)
  | _ => none)
theorem xlst_mem {ad : Nat → Nat → Nat} {lv : XL} {i : Nat} {v : XV} (h : lv[i]? = some (some v)) : (i, tv ad v) ∈ xlst ad lv := by
  refine List.mem_filterMap.mpr ⟨i, List.mem_range.mpr (List.getElem?_eq_some_iff.mp h).1, ?_⟩
  rw [h]
theorem xlst_of {ad : Nat → Nat → Nat} {lv : XL} {q : Nat × Value} (h : q ∈ xlst ad lv) : ∃ v, lv[q.1]? = some (some v) ∧ q.2 = tv ad v := by
  obtain ⟨i, -, hi⟩ := List.mem_filterMap.mp h
  split at hi
  · rename_i v hv
    cases hi
    exact ⟨v, hv, rfl⟩
  · cases hi
theorem xlst_has {ad : Nat → Nat → Nat} {k : Nat → Nat} {lv : XL} {ls : Array Slot} (h : XLs ad k lv ls) : lv_has ls lv.length (xlst ad lv) := by
  refine ⟨h.1, h.2.1, fun q hq => ?_⟩
  obtain ⟨v, h1, h2⟩ := xlst_of hq
  rw [h2]
  exact (h.2.2 _ _ h1).1
theorem tv_cat {ad : Nat → Nat → Nat} {v : XV} : (tv ad v).category = xcat v := by
  rcases v with x | x | x
  · rfl
  · rfl
  · cases x <;> rfl
theorem XLs.store {ad : Nat → Nat → Nat} {k : Nat → Nat} {lv : XL} {ls ls' : Array Slot} {i : Nat} {v : XV} (h : XLs ad k lv ls) (hok : xok lv i = true) (hv : vok k v) (hi : i < lv.length)
    (h' : lv_has ls' lv.length ((i, tv ad v) :: (xlst ad lv).filter (fun q => !(q.1 == i) && !(q.1 + 1 == i && q.2.category == 2)))) : XLs ad k (lv.set i (some v)) ls' := by
  refine ⟨by rw [List.length_set]; exact h'.1, h'.2.1, fun j u hj => ?_⟩
  by_cases hji : j = i
  · subst hji
    rw [List.getElem?_set_self hi] at hj
    cases hj
    exact ⟨h'.2.2 (j, tv ad v) List.mem_cons_self, hv⟩
  · rw [List.getElem?_set_ne (Ne.symm hji)] at hj
    refine ⟨h'.2.2 (j, tv ad u) (List.mem_cons_of_mem _ (List.mem_filter.mpr ⟨xlst_mem hj, ?_⟩)), (h.2.2 _ _ hj).2⟩
    have h1 : (j == i) = false := by simp [hji]
    by_cases h2 : j + 1 = i
    · subst h2
      have h3 : (tv ad u).category ≠ 2 := by
        rw [tv_cat]
        intro h4
        unfold xok at hok
        simp only [hj] at hok
        rcases u with x | x | x
        · cases h4
        · cases hok
        · cases h4
      simp [h3]
    · simp [hji, h2]
theorem sd_istore_n {y pc : Nat} {k1 : Fin 4} {i : Nat} (hd : decode (xby y) pc = .ok (.istore_n k1, 1)) (hi : (k1 : Nat) = i) : Snd y pc (xo_istore i pc 1) := by
  intro f lv st M o M' h IH
  unfold xo_istore at h
  split at h
  · rename_i x r
    have h0 : (bif Nat.blt i lv.length && xok lv i then xnx (pc + 1) (lv.set i (some (.inl x))) r M else none) ≠ none := by
      intro hz
      rw [hz] at h
      cases h
    cases hb : (Nat.blt i lv.length && xok lv i) with
    | false => rw [hb] at h0; exact absurd rfl h0
    | true =>
      rw [hb] at h
      have hn := IH _ _ _ _ _ _ _ h
      simp only [Bool.and_eq_true] at hb
      have hb1 : i < lv.length := Nat.le_of_ble_eq_true hb.1
      refine ⟨hn.1, ?_⟩
      intro p l e R s m args below meth c D K A ad0 k0 c0 w0 ad H locs ls B
      obtain ⟨C, X, hS, hL, hst, hlen, hag, hcw⟩ := B
      refine lv_istore_n C.1 C.2.1 hd hi (xlst_has hL) hb1 rfl (fun ls' hls' => ?_)
      exact hn.2 p l e R s m args below meth c D K A ad0 k0 c0 w0 ad H locs ls' ⟨C, X, hS, XLs.store hL hb.2 hst.head hb1 hls', hst.tail, by rw [List.length_set]; exact hlen, hag, hcw⟩
  · cases h
theorem sd_istore {y pc : Nat} {i : Nat} (hd : decode (xby y) pc = .ok (.istore i, 2)) : Snd y pc (xo_istore i pc 2) := by
  intro f lv st M o M' h IH
  unfold xo_istore at h
  split at h
  · rename_i x r
    have h0 : (bif Nat.blt i lv.length && xok lv i then xnx (pc + 2) (lv.set i (some (.inl x))) r M else none) ≠ none := by
      intro hz
      rw [hz] at h
      cases h
    cases hb : (Nat.blt i lv.length && xok lv i) with
    | false => rw [hb] at h0; exact absurd rfl h0
    | true =>
      rw [hb] at h
      have hn := IH _ _ _ _ _ _ _ h
      simp only [Bool.and_eq_true] at hb
      have hb1 : i < lv.length := Nat.le_of_ble_eq_true hb.1
      refine ⟨hn.1, ?_⟩
      intro p l e R s m args below meth c D K A ad0 k0 c0 w0 ad H locs ls B
      obtain ⟨C, X, hS, hL, hst, hlen, hag, hcw⟩ := B
      refine lv_istore C.1 C.2.1 hd (xlst_has hL) hb1 rfl (fun ls' hls' => ?_)
      exact hn.2 p l e R s m args below meth c D K A ad0 k0 c0 w0 ad H locs ls' ⟨C, X, hS, XLs.store hL hb.2 hst.head hb1 hls', hst.tail, by rw [List.length_set]; exact hlen, hag, hcw⟩
  · cases h
theorem sd_astore_n {y pc : Nat} {k1 : Fin 4} {i : Nat} (hd : decode (xby y) pc = .ok (.astore_n k1, 1)) (hi : (k1 : Nat) = i) : Snd y pc (xo_astore i pc 1) := by
  intro f lv st M o M' h IH
  unfold xo_astore at h
  split at h
  · rename_i x r
    have h0 : (bif Nat.blt i lv.length && xok lv i then xnx (pc + 1) (lv.set i (some (.inr (.inr (some x))))) r M else none) ≠ none := by
      intro hz
      rw [hz] at h
      cases h
    cases hb : (Nat.blt i lv.length && xok lv i) with
    | false => rw [hb] at h0; exact absurd rfl h0
    | true =>
      rw [hb] at h
      have hn := IH _ _ _ _ _ _ _ h
      simp only [Bool.and_eq_true] at hb
      have hb1 : i < lv.length := Nat.le_of_ble_eq_true hb.1
      refine ⟨hn.1, ?_⟩
      intro p l e R s m args below meth c D K A ad0 k0 c0 w0 ad H locs ls B
      obtain ⟨C, X, hS, hL, hst, hlen, hag, hcw⟩ := B
      refine lv_astore_n C.1 C.2.1 hd hi (xlst_has hL) hb1 rfl (fun ls' hls' => ?_)
      exact hn.2 p l e R s m args below meth c D K A ad0 k0 c0 w0 ad H locs ls' ⟨C, X, hS, XLs.store hL hb.2 hst.head hb1 hls', hst.tail, by rw [List.length_set]; exact hlen, hag, hcw⟩
  · cases h
theorem sd_astore {y pc : Nat} {i : Nat} (hd : decode (xby y) pc = .ok (.astore i, 2)) : Snd y pc (xo_astore i pc 2) := by
  intro f lv st M o M' h IH
  unfold xo_astore at h
  split at h
  · rename_i x r
    have h0 : (bif Nat.blt i lv.length && xok lv i then xnx (pc + 2) (lv.set i (some (.inr (.inr (some x))))) r M else none) ≠ none := by
      intro hz
      rw [hz] at h
      cases h
    cases hb : (Nat.blt i lv.length && xok lv i) with
    | false => rw [hb] at h0; exact absurd rfl h0
    | true =>
      rw [hb] at h
      have hn := IH _ _ _ _ _ _ _ h
      simp only [Bool.and_eq_true] at hb
      have hb1 : i < lv.length := Nat.le_of_ble_eq_true hb.1
      refine ⟨hn.1, ?_⟩
      intro p l e R s m args below meth c D K A ad0 k0 c0 w0 ad H locs ls B
      obtain ⟨C, X, hS, hL, hst, hlen, hag, hcw⟩ := B
      refine lv_astore C.1 C.2.1 hd (xlst_has hL) hb1 rfl (fun ls' hls' => ?_)
      exact hn.2 p l e R s m args below meth c D K A ad0 k0 c0 w0 ad H locs ls' ⟨C, X, hS, XLs.store hL hb.2 hst.head hb1 hls', hst.tail, by rw [List.length_set]; exact hlen, hag, hcw⟩
  · cases h
theorem sd_iinc {y pc : Nat} {i : Nat} {n : Int} (hd : decode (xby y) pc = .ok (.iinc i n, 3)) : Snd y pc (xo_iinc i n pc 3) := by
  intro f lv st M o M' h IH
  unfold xo_iinc at h
  split at h
  · rename_i x hq
    cases hb : (Nat.blt i lv.length && xok lv i) with
    | false => rw [hb] at h; cases h
    | true =>
      rw [hb] at h
      have hn := IH _ _ _ _ _ _ _ h
      simp only [Bool.and_eq_true] at hb
      have hb1 : i < lv.length := Nat.le_of_ble_eq_true hb.1
      refine ⟨hn.1, ?_⟩
      intro p l e R s m args below meth c D K A ad0 k0 c0 w0 ad H locs ls B
      obtain ⟨C, X, hS, hL, hst, hlen, hag, hcw⟩ := B
      obtain ⟨k9, hk9⟩ := List.getElem?_of_mem (xlst_mem (ad := ad) hq)
      refine lv_iinc C.1 C.2.1 hd (xlst_has hL) hk9 rfl hb1 rfl (fun ls' hls' => ?_)
      exact hn.2 p l e R s m args below meth c D K A ad0 k0 c0 w0 ad H locs ls' ⟨C, X, hS, XLs.store hL hb.2 trivial hb1 hls', hst, by rw [List.length_set]; exact hlen, hag, hcw⟩
  · cases h
theorem sd_iadd {y pc : Nat} (hd : decode (xby y) pc = .ok (.iadd, 1)) : Snd y pc (xo_iadd pc 1) := by
  intro f lv st M o M' h IH
  unfold xo_iadd at h
  split at h
  · exact XG.pure (IH _ _ _ _ _ _ _ h) (fun z => XSt.cons trivial z.tail.tail) (fun p l e R s m args below meth c D K A ad H locs ls cells slots Q C X hS hL hst hlen hc hs k => lv_iadd C.1 C.2.1 hd k)
  · cases h
theorem sd_isub {y pc : Nat} (hd : decode (xby y) pc = .ok (.isub, 1)) : Snd y pc (xo_isub pc 1) := by
  intro f lv st M o M' h IH
  unfold xo_isub at h
  split at h
  · exact XG.pure (IH _ _ _ _ _ _ _ h) (fun z => XSt.cons trivial z.tail.tail) (fun p l e R s m args below meth c D K A ad H locs ls cells slots Q C X hS hL hst hlen hc hs k => lv_isub C.1 C.2.1 hd k)
  · cases h
theorem sd_imul {y pc : Nat} (hd : decode (xby y) pc = .ok (.imul, 1)) : Snd y pc (xo_imul pc 1) := by
  intro f lv st M o M' h IH
  unfold xo_imul at h
  split at h
  · exact XG.pure (IH _ _ _ _ _ _ _ h) (fun z => XSt.cons trivial z.tail.tail) (fun p l e R s m args below meth c D K A ad H locs ls cells slots Q C X hS hL hst hlen hc hs k => lv_imul C.1 C.2.1 hd k)
  · cases h
theorem sd_iand {y pc : Nat} (hd : decode (xby y) pc = .ok (.iand, 1)) : Snd y pc (xo_iand pc 1) := by
  intro f lv st M o M' h IH
  unfold xo_iand at h
  split at h
  · exact XG.pure (IH _ _ _ _ _ _ _ h) (fun z => XSt.cons trivial z.tail.tail) (fun p l e R s m args below meth c D K A ad H locs ls cells slots Q C X hS hL hst hlen hc hs k => lv_iand C.1 C.2.1 hd k)
  · cases h
theorem sd_idiv {y pc : Nat} (hd : decode (xby y) pc = .ok (.idiv, 1)) : Snd y pc (xo_idiv pc 1) := by
  intro f lv st M o M' h IH
  unfold xo_idiv at h
  split at h
  · rename_i y1 x1 r
    by_cases h0 : y1 = 0
    · rw [if_pos h0] at h; cases h
    · rw [if_neg h0] at h
      exact XG.pure (IH _ _ _ _ _ _ _ h) (fun z => XSt.cons trivial z.tail.tail) (fun p l e R s m args below meth c D K A ad H locs ls cells slots Q C X hS hL hst hlen hc hs k => lv_idiv C.1 C.2.1 hd h0 k)
  · cases h
theorem sd_irem {y pc : Nat} (hd : decode (xby y) pc = .ok (.irem, 1)) : Snd y pc (xo_irem pc 1) := by
  intro f lv st M o M' h IH
  unfold xo_irem at h
  split at h
  · rename_i y1 x1 r
    by_cases h0 : y1 = 0
    · rw [if_pos h0] at h; cases h
    · rw [if_neg h0] at h
      exact XG.pure (IH _ _ _ _ _ _ _ h) (fun z => XSt.cons trivial z.tail.tail) (fun p l e R s m args below meth c D K A ad H locs ls cells slots Q C X hS hL hst hlen hc hs k => lv_irem C.1 C.2.1 hd h0 k)
  · cases h
theorem sd_land {y pc : Nat} (hd : decode (xby y) pc = .ok (.land, 1)) : Snd y pc (xo_land pc 1) := by
  intro f lv st M o M' h IH
  unfold xo_land at h
  split at h
  · exact XG.pure (IH _ _ _ _ _ _ _ h) (fun z => XSt.cons trivial z.tail.tail) (fun p l e R s m args below meth c D K A ad H locs ls cells slots Q C X hS hL hst hlen hc hs k => lv_land C.1 C.2.1 hd k)
  · cases h
theorem sd_lor {y pc : Nat} (hd : decode (xby y) pc = .ok (.lor, 1)) : Snd y pc (xo_lor pc 1) := by
  intro f lv st M o M' h IH
  unfold xo_lor at h
  split at h
  · exact XG.pure (IH _ _ _ _ _ _ _ h) (fun z => XSt.cons trivial z.tail.tail) (fun p l e R s m args below meth c D K A ad H locs ls cells slots Q C X hS hL hst hlen hc hs k => lv_lor C.1 C.2.1 hd k)
  · cases h
theorem sd_lshl {y pc : Nat} (hd : decode (xby y) pc = .ok (.lshl, 1)) : Snd y pc (xo_lshl pc 1) := by
  intro f lv st M o M' h IH
  unfold xo_lshl at h
  split at h
  · exact XG.pure (IH _ _ _ _ _ _ _ h) (fun z => XSt.cons trivial z.tail.tail) (fun p l e R s m args below meth c D K A ad H locs ls cells slots Q C X hS hL hst hlen hc hs k => lv_lshl C.1 C.2.1 hd rfl k)
  · cases h
theorem sd_lshr {y pc : Nat} (hd : decode (xby y) pc = .ok (.lshr, 1)) : Snd y pc (xo_lshr pc 1) := by
  intro f lv st M o M' h IH
  unfold xo_lshr at h
  split at h
  · exact XG.pure (IH _ _ _ _ _ _ _ h) (fun z => XSt.cons trivial z.tail.tail) (fun p l e R s m args below meth c D K A ad H locs ls cells slots Q C X hS hL hst hlen hc hs k => lv_lshr C.1 C.2.1 hd rfl k)
  · cases h
theorem sd_lushr {y pc : Nat} (hd : decode (xby y) pc = .ok (.lushr, 1)) : Snd y pc (xo_lushr pc 1) := by
  intro f lv st M o M' h IH
  unfold xo_lushr at h
  split at h
  · exact XG.pure (IH _ _ _ _ _ _ _ h) (fun z => XSt.cons trivial z.tail.tail) (fun p l e R s m args below meth c D K A ad H locs ls cells slots Q C X hS hL hst hlen hc hs k => lv_lushr C.1 C.2.1 hd rfl k)
  · cases h
theorem sd_i2l {y pc : Nat} (hd : decode (xby y) pc = .ok (.i2l, 1)) : Snd y pc (xo_i2l pc 1) := by
  intro f lv st M o M' h IH
  unfold xo_i2l at h
  split at h
  · exact XG.pure (IH _ _ _ _ _ _ _ h) (fun z => XSt.cons trivial z.tail) (fun p l e R s m args below meth c D K A ad H locs ls cells slots Q C X hS hL hst hlen hc hs k => lv_i2l C.1 C.2.1 hd rfl k)
  · cases h
theorem sd_l2i {y pc : Nat} (hd : decode (xby y) pc = .ok (.l2i, 1)) : Snd y pc (xo_l2i pc 1) := by
  intro f lv st M o M' h IH
  unfold xo_l2i at h
  split at h
  · exact XG.pure (IH _ _ _ _ _ _ _ h) (fun z => XSt.cons trivial z.tail) (fun p l e R s m args below meth c D K A ad H locs ls cells slots Q C X hS hL hst hlen hc hs k => lv_l2i C.1 C.2.1 hd rfl k)
  · cases h
theorem sd_lcmp {y pc : Nat} (hd : decode (xby y) pc = .ok (.lcmp, 1)) : Snd y pc (xo_lcmp pc 1) := by
  intro f lv st M o M' h IH
  unfold xo_lcmp at h
  split at h
  · exact XG.pure (IH _ _ _ _ _ _ _ h) (fun z => XSt.cons trivial z.tail.tail) (fun p l e R s m args below meth c D K A ad H locs ls cells slots Q C X hS hL hst hlen hc hs k => W.lcmp C.1 C.2.1 hd k)
  · cases h
theorem sd_dup {y pc : Nat} (hd : decode (xby y) pc = .ok (.dup, 1)) : Snd y pc (xo_dup pc 1) := by
  intro f lv st M o M' h IH
  unfold xo_dup at h
  split at h
  · rename_i v r
    cases hb : Nat.beq (xcat v) 1 with
    | false => rw [hb] at h; cases h
    | true =>
      rw [hb] at h
      have hc1 : xcat v = 1 := Nat.eq_of_beq_eq_true hb
      exact XG.pure (IH _ _ _ _ _ _ _ h) (fun z => XSt.cons z.head z) (fun p l e R s m args below meth c D K A ad H locs ls cells slots Q C X hS hL hst hlen hc hs k => lv_dup C.1 C.2.1 hd (by rw [tv_cat]; exact hc1) k)
  · cases h
theorem sd_dup2 {y pc : Nat} (hd : decode (xby y) pc = .ok (.dup2, 1)) : Snd y pc (xo_dup2 pc 1) := by
  intro f lv st M o M' h IH
  unfold xo_dup2 at h
  split at h
  · rename_i v u r
    cases hb : (Nat.beq (xcat v) 1 && Nat.beq (xcat u) 1) with
    | false => rw [hb] at h; cases h
    | true =>
      rw [hb] at h
      simp only [Bool.and_eq_true] at hb
      have hc1 : xcat v = 1 := Nat.eq_of_beq_eq_true hb.1
      have hc2 : xcat u = 1 := Nat.eq_of_beq_eq_true hb.2
      exact XG.pure (IH _ _ _ _ _ _ _ h) (fun z => XSt.cons z.head (XSt.cons z.tail.head z)) (fun p l e R s m args below meth c D K A ad H locs ls cells slots Q C X hS hL hst hlen hc hs k => lv_dup2_11 C.1 C.2.1 hd (by rw [tv_cat]; exact hc1) (by rw [tv_cat]; exact hc2) k)
  · cases h
theorem sd_pop {y pc : Nat} (hd : decode (xby y) pc = .ok (.pop, 1)) : Snd y pc (xo_pop pc 1) := by
  intro f lv st M o M' h IH
  unfold xo_pop at h
  split at h
  · rename_i v r
    cases hb : Nat.beq (xcat v) 1 with
    | false => rw [hb] at h; cases h
    | true =>
      rw [hb] at h
      have hc1 : xcat v = 1 := Nat.eq_of_beq_eq_true hb
      exact XG.pure (IH _ _ _ _ _ _ _ h) (fun z => z.tail) (fun p l e R s m args below meth c D K A ad H locs ls cells slots Q C X hS hL hst hlen hc hs k => lv_pop C.1 C.2.1 hd (by rw [tv_cat]; exact hc1) k)
  · cases h
theorem xtg_ok {pc : Nat} {off : Int} (h : decide (0 ≤ (pc : Int) + off) = true) : (pc : Int) + off = ((xtg pc off : Nat) : Int) := by
  have h1 : 0 ≤ (pc : Int) + off := of_decide_eq_true h
  unfold xtg
  omega
theorem sd_goto {y pc : Nat} {off : Int} (hd : decode (xby y) pc = .ok (.goto off, 3)) : Snd y pc (xo_goto off pc) := by
  intro f lv st M o M' h IH
  unfold xo_goto at h
  cases hb : decide (0 ≤ (pc : Int) + off) with
  | false => rw [hb] at h; cases h
  | true =>
    rw [hb] at h
    exact XG.pure (IH _ _ _ _ _ _ _ h) (fun z => z) (fun p l e R s m args below meth c D K A ad H locs ls cells slots Q C X hS hL hst hlen hc hs k => lv_goto C.1 C.2.1 hd (xtg_ok hb) k)
theorem sd_icmp_eq {y pc : Nat} {off : Int} (hd : decode (xby y) pc = .ok (.if_icmp .eq off, 3)) : Snd y pc (xo_icmp .eq off pc 3) := by
  intro f lv st M o M' h IH
  unfold xo_icmp at h
  split at h
  · rename_i y1 x1 r
    cases hb : decide (0 ≤ (pc : Int) + off) with
    | false => rw [hb] at h; cases h
    | true =>
      rw [hb] at h
      by_cases hp : x1 = y1
      · have hx : xcmp .eq x1 y1 = true := by simp [xcmp, hp]
        rw [cond_true, if_pos hx] at h
        exact XG.pure (IH _ _ _ _ _ _ _ h) (fun z => z.tail.tail) (fun p l e R s m args below meth c D K A ad H locs ls cells slots Q C X hS hL hst hlen hc hs k => lv_icmp_eq C.1 C.2.1 hd (xtg_ok hb) (fun _ => k) (fun hn => absurd hp hn))
      · have hx : xcmp .eq x1 y1 = false := by simp [xcmp, hp]
        rw [cond_true, if_neg (by rw [hx]; decide)] at h
        exact XG.pure (IH _ _ _ _ _ _ _ h) (fun z => z.tail.tail) (fun p l e R s m args below meth c D K A ad H locs ls cells slots Q C X hS hL hst hlen hc hs k => lv_icmp_eq C.1 C.2.1 hd (xtg_ok hb) (fun hn => absurd hn hp) (fun _ => k))
  · cases h
theorem sd_if_eq {y pc : Nat} {off : Int} (hd : decode (xby y) pc = .ok (.ifCond .eq off, 3)) : Snd y pc (xo_if .eq off pc 3) := by
  intro f lv st M o M' h IH
  unfold xo_if at h
  split at h
  · rename_i x1 r
    cases hb : decide (0 ≤ (pc : Int) + off) with
    | false => rw [hb] at h; cases h
    | true =>
      rw [hb] at h
      by_cases hp : x1 = 0
      · have hx : xcmp .eq x1 0 = true := by simp [xcmp, hp]
        rw [cond_true, if_pos hx] at h
        exact XG.pure (IH _ _ _ _ _ _ _ h) (fun z => z.tail) (fun p l e R s m args below meth c D K A ad H locs ls cells slots Q C X hS hL hst hlen hc hs k => lv_if_eq C.1 C.2.1 hd (xtg_ok hb) (fun _ => k) (fun hn => absurd hp hn))
      · have hx : xcmp .eq x1 0 = false := by simp [xcmp, hp]
        rw [cond_true, if_neg (by rw [hx]; decide)] at h
        exact XG.pure (IH _ _ _ _ _ _ _ h) (fun z => z.tail) (fun p l e R s m args below meth c D K A ad H locs ls cells slots Q C X hS hL hst hlen hc hs k => lv_if_eq C.1 C.2.1 hd (xtg_ok hb) (fun hn => absurd hn hp) (fun _ => k))
  · cases h
theorem sd_icmp_ne {y pc : Nat} {off : Int} (hd : decode (xby y) pc = .ok (.if_icmp .ne off, 3)) : Snd y pc (xo_icmp .ne off pc 3) := by
  intro f lv st M o M' h IH
  unfold xo_icmp at h
  split at h
  · rename_i y1 x1 r
    cases hb : decide (0 ≤ (pc : Int) + off) with
    | false => rw [hb] at h; cases h
    | true =>
      rw [hb] at h
      by_cases hp : x1 = y1
      · have hx : xcmp .ne x1 y1 = false := by simp [xcmp, hp]
        rw [cond_true, if_neg (by rw [hx]; decide)] at h
        exact XG.pure (IH _ _ _ _ _ _ _ h) (fun z => z.tail.tail) (fun p l e R s m args below meth c D K A ad H locs ls cells slots Q C X hS hL hst hlen hc hs k => lv_icmp_ne C.1 C.2.1 hd (xtg_ok hb) (fun hn => absurd hp hn) (fun _ => k))
      · have hx : xcmp .ne x1 y1 = true := by simp [xcmp, hp]
        rw [cond_true, if_pos hx] at h
        exact XG.pure (IH _ _ _ _ _ _ _ h) (fun z => z.tail.tail) (fun p l e R s m args below meth c D K A ad H locs ls cells slots Q C X hS hL hst hlen hc hs k => lv_icmp_ne C.1 C.2.1 hd (xtg_ok hb) (fun _ => k) (fun hn => absurd hn hp))
  · cases h
theorem sd_if_ne {y pc : Nat} {off : Int} (hd : decode (xby y) pc = .ok (.ifCond .ne off, 3)) : Snd y pc (xo_if .ne off pc 3) := by
  intro f lv st M o M' h IH
  unfold xo_if at h
  split at h
  · rename_i x1 r
    cases hb : decide (0 ≤ (pc : Int) + off) with
    | false => rw [hb] at h; cases h
    | true =>
      rw [hb] at h
      by_cases hp : x1 = 0
      · have hx : xcmp .ne x1 0 = false := by simp [xcmp, hp]
        rw [cond_true, if_neg (by rw [hx]; decide)] at h
        exact XG.pure (IH _ _ _ _ _ _ _ h) (fun z => z.tail) (fun p l e R s m args below meth c D K A ad H locs ls cells slots Q C X hS hL hst hlen hc hs k => lv_if_ne C.1 C.2.1 hd (xtg_ok hb) (fun hn => absurd hp hn) (fun _ => k))
      · have hx : xcmp .ne x1 0 = true := by simp [xcmp, hp]
        rw [cond_true, if_pos hx] at h
        exact XG.pure (IH _ _ _ _ _ _ _ h) (fun z => z.tail) (fun p l e R s m args below meth c D K A ad H locs ls cells slots Q C X hS hL hst hlen hc hs k => lv_if_ne C.1 C.2.1 hd (xtg_ok hb) (fun _ => k) (fun hn => absurd hn hp))
  · cases h
theorem sd_icmp_lt {y pc : Nat} {off : Int} (hd : decode (xby y) pc = .ok (.if_icmp .lt off, 3)) : Snd y pc (xo_icmp .lt off pc 3) := by
  intro f lv st M o M' h IH
  unfold xo_icmp at h
  split at h
  · rename_i y1 x1 r
    cases hb : decide (0 ≤ (pc : Int) + off) with
    | false => rw [hb] at h; cases h
    | true =>
      rw [hb] at h
      by_cases hp : x1 < y1
      · have hx : xcmp .lt x1 y1 = true := by simp [xcmp, hp]
        rw [cond_true, if_pos hx] at h
        exact XG.pure (IH _ _ _ _ _ _ _ h) (fun z => z.tail.tail) (fun p l e R s m args below meth c D K A ad H locs ls cells slots Q C X hS hL hst hlen hc hs k => lv_icmp_lt C.1 C.2.1 hd (xtg_ok hb) (fun _ => k) (fun hn => absurd hp hn))
      · have hx : xcmp .lt x1 y1 = false := by simp [xcmp, hp]
        rw [cond_true, if_neg (by rw [hx]; decide)] at h
        exact XG.pure (IH _ _ _ _ _ _ _ h) (fun z => z.tail.tail) (fun p l e R s m args below meth c D K A ad H locs ls cells slots Q C X hS hL hst hlen hc hs k => lv_icmp_lt C.1 C.2.1 hd (xtg_ok hb) (fun hn => absurd hn hp) (fun _ => k))
  · cases h
theorem sd_if_lt {y pc : Nat} {off : Int} (hd : decode (xby y) pc = .ok (.ifCond .lt off, 3)) : Snd y pc (xo_if .lt off pc 3) := by
  intro f lv st M o M' h IH
  unfold xo_if at h
  split at h
  · rename_i x1 r
    cases hb : decide (0 ≤ (pc : Int) + off) with
    | false => rw [hb] at h; cases h
    | true =>
      rw [hb] at h
      by_cases hp : x1 < 0
      · have hx : xcmp .lt x1 0 = true := by simp [xcmp, hp]
        rw [cond_true, if_pos hx] at h
        exact XG.pure (IH _ _ _ _ _ _ _ h) (fun z => z.tail) (fun p l e R s m args below meth c D K A ad H locs ls cells slots Q C X hS hL hst hlen hc hs k => lv_if_lt C.1 C.2.1 hd (xtg_ok hb) (fun _ => k) (fun hn => absurd hp hn))
      · have hx : xcmp .lt x1 0 = false := by simp [xcmp, hp]
        rw [cond_true, if_neg (by rw [hx]; decide)] at h
        exact XG.pure (IH _ _ _ _ _ _ _ h) (fun z => z.tail) (fun p l e R s m args below meth c D K A ad H locs ls cells slots Q C X hS hL hst hlen hc hs k => lv_if_lt C.1 C.2.1 hd (xtg_ok hb) (fun hn => absurd hn hp) (fun _ => k))
  · cases h
theorem sd_icmp_ge {y pc : Nat} {off : Int} (hd : decode (xby y) pc = .ok (.if_icmp .ge off, 3)) : Snd y pc (xo_icmp .ge off pc 3) := by
  intro f lv st M o M' h IH
  unfold xo_icmp at h
  split at h
  · rename_i y1 x1 r
    cases hb : decide (0 ≤ (pc : Int) + off) with
    | false => rw [hb] at h; cases h
    | true =>
      rw [hb] at h
      by_cases hp : y1 ≤ x1
      · have hx : xcmp .ge x1 y1 = true := by simp [xcmp, hp]
        rw [cond_true, if_pos hx] at h
        exact XG.pure (IH _ _ _ _ _ _ _ h) (fun z => z.tail.tail) (fun p l e R s m args below meth c D K A ad H locs ls cells slots Q C X hS hL hst hlen hc hs k => lv_icmp_ge C.1 C.2.1 hd (xtg_ok hb) (fun _ => k) (fun hn => absurd hp hn))
      · have hx : xcmp .ge x1 y1 = false := by simp [xcmp, hp]
        rw [cond_true, if_neg (by rw [hx]; decide)] at h
        exact XG.pure (IH _ _ _ _ _ _ _ h) (fun z => z.tail.tail) (fun p l e R s m args below meth c D K A ad H locs ls cells slots Q C X hS hL hst hlen hc hs k => lv_icmp_ge C.1 C.2.1 hd (xtg_ok hb) (fun hn => absurd hn hp) (fun _ => k))
  · cases h
theorem sd_if_ge {y pc : Nat} {off : Int} (hd : decode (xby y) pc = .ok (.ifCond .ge off, 3)) : Snd y pc (xo_if .ge off pc 3) := by
  intro f lv st M o M' h IH
  unfold xo_if at h
  split at h
  · rename_i x1 r
    cases hb : decide (0 ≤ (pc : Int) + off) with
    | false => rw [hb] at h; cases h
    | true =>
      rw [hb] at h
      by_cases hp : 0 ≤ x1
      · have hx : xcmp .ge x1 0 = true := by simp [xcmp, hp]
        rw [cond_true, if_pos hx] at h
        exact XG.pure (IH _ _ _ _ _ _ _ h) (fun z => z.tail) (fun p l e R s m args below meth c D K A ad H locs ls cells slots Q C X hS hL hst hlen hc hs k => lv_if_ge C.1 C.2.1 hd (xtg_ok hb) (fun _ => k) (fun hn => absurd hp hn))
      · have hx : xcmp .ge x1 0 = false := by simp [xcmp, hp]
        rw [cond_true, if_neg (by rw [hx]; decide)] at h
        exact XG.pure (IH _ _ _ _ _ _ _ h) (fun z => z.tail) (fun p l e R s m args below meth c D K A ad H locs ls cells slots Q C X hS hL hst hlen hc hs k => lv_if_ge C.1 C.2.1 hd (xtg_ok hb) (fun hn => absurd hn hp) (fun _ => k))
  · cases h
theorem sd_icmp_gt {y pc : Nat} {off : Int} (hd : decode (xby y) pc = .ok (.if_icmp .gt off, 3)) : Snd y pc (xo_icmp .gt off pc 3) := by
  intro f lv st M o M' h IH
  unfold xo_icmp at h
  split at h
  · rename_i y1 x1 r
    cases hb : decide (0 ≤ (pc : Int) + off) with
    | false => rw [hb] at h; cases h
    | true =>
      rw [hb] at h
      by_cases hp : y1 < x1
      · have hx : xcmp .gt x1 y1 = true := by simp [xcmp, hp]
        rw [cond_true, if_pos hx] at h
        exact XG.pure (IH _ _ _ _ _ _ _ h) (fun z => z.tail.tail) (fun p l e R s m args below meth c D K A ad H locs ls cells slots Q C X hS hL hst hlen hc hs k => lv_icmp_gt C.1 C.2.1 hd (xtg_ok hb) (fun _ => k) (fun hn => absurd hp hn))
      · have hx : xcmp .gt x1 y1 = false := by simp [xcmp, hp]
        rw [cond_true, if_neg (by rw [hx]; decide)] at h
        exact XG.pure (IH _ _ _ _ _ _ _ h) (fun z => z.tail.tail) (fun p l e R s m args below meth c D K A ad H locs ls cells slots Q C X hS hL hst hlen hc hs k => lv_icmp_gt C.1 C.2.1 hd (xtg_ok hb) (fun hn => absurd hn hp) (fun _ => k))
  · cases h
theorem sd_if_gt {y pc : Nat} {off : Int} (hd : decode (xby y) pc = .ok (.ifCond .gt off, 3)) : Snd y pc (xo_if .gt off pc 3) := by
  intro f lv st M o M' h IH
  unfold xo_if at h
  split at h
  · rename_i x1 r
    cases hb : decide (0 ≤ (pc : Int) + off) with
    | false => rw [hb] at h; cases h
    | true =>
      rw [hb] at h
      by_cases hp : 0 < x1
      · have hx : xcmp .gt x1 0 = true := by simp [xcmp, hp]
        rw [cond_true, if_pos hx] at h
        exact XG.pure (IH _ _ _ _ _ _ _ h) (fun z => z.tail) (fun p l e R s m args below meth c D K A ad H locs ls cells slots Q C X hS hL hst hlen hc hs k => lv_if_gt C.1 C.2.1 hd (xtg_ok hb) (fun _ => k) (fun hn => absurd hp hn))
      · have hx : xcmp .gt x1 0 = false := by simp [xcmp, hp]
        rw [cond_true, if_neg (by rw [hx]; decide)] at h
        exact XG.pure (IH _ _ _ _ _ _ _ h) (fun z => z.tail) (fun p l e R s m args below meth c D K A ad H locs ls cells slots Q C X hS hL hst hlen hc hs k => lv_if_gt C.1 C.2.1 hd (xtg_ok hb) (fun hn => absurd hn hp) (fun _ => k))
  · cases h
theorem sd_icmp_le {y pc : Nat} {off : Int} (hd : decode (xby y) pc = .ok (.if_icmp .le off, 3)) : Snd y pc (xo_icmp .le off pc 3) := by
  intro f lv st M o M' h IH
  unfold xo_icmp at h
  split at h
  · rename_i y1 x1 r
    cases hb : decide (0 ≤ (pc : Int) + off) with
    | false => rw [hb] at h; cases h
    | true =>
      rw [hb] at h
      by_cases hp : x1 ≤ y1
      · have hx : xcmp .le x1 y1 = true := by simp [xcmp, hp]
        rw [cond_true, if_pos hx] at h
        exact XG.pure (IH _ _ _ _ _ _ _ h) (fun z => z.tail.tail) (fun p l e R s m args below meth c D K A ad H locs ls cells slots Q C X hS hL hst hlen hc hs k => lv_icmp_le C.1 C.2.1 hd (xtg_ok hb) (fun _ => k) (fun hn => absurd hp hn))
      · have hx : xcmp .le x1 y1 = false := by simp [xcmp, hp]
        rw [cond_true, if_neg (by rw [hx]; decide)] at h
        exact XG.pure (IH _ _ _ _ _ _ _ h) (fun z => z.tail.tail) (fun p l e R s m args below meth c D K A ad H locs ls cells slots Q C X hS hL hst hlen hc hs k => lv_icmp_le C.1 C.2.1 hd (xtg_ok hb) (fun hn => absurd hn hp) (fun _ => k))
  · cases h
theorem sd_if_le {y pc : Nat} {off : Int} (hd : decode (xby y) pc = .ok (.ifCond .le off, 3)) : Snd y pc (xo_if .le off pc 3) := by
  intro f lv st M o M' h IH
  unfold xo_if at h
  split at h
  · rename_i x1 r
    cases hb : decide (0 ≤ (pc : Int) + off) with
    | false => rw [hb] at h; cases h
    | true =>
      rw [hb] at h
      by_cases hp : x1 ≤ 0
      · have hx : xcmp .le x1 0 = true := by simp [xcmp, hp]
        rw [cond_true, if_pos hx] at h
        exact XG.pure (IH _ _ _ _ _ _ _ h) (fun z => z.tail) (fun p l e R s m args below meth c D K A ad H locs ls cells slots Q C X hS hL hst hlen hc hs k => lv_if_le C.1 C.2.1 hd (xtg_ok hb) (fun _ => k) (fun hn => absurd hp hn))
      · have hx : xcmp .le x1 0 = false := by simp [xcmp, hp]
        rw [cond_true, if_neg (by rw [hx]; decide)] at h
        exact XG.pure (IH _ _ _ _ _ _ _ h) (fun z => z.tail) (fun p l e R s m args below meth c D K A ad H locs ls cells slots Q C X hS hL hst hlen hc hs k => lv_if_le C.1 C.2.1 hd (xtg_ok hb) (fun hn => absurd hn hp) (fun _ => k))
  · cases h
end
section
theorem xkn_of {t ci : Nat} {C : String} {T : u_T} {N : Nat} (h0 : xkt t = 0) (hc : xkc t = ci) (hcl : xcl[ci]? = some (C, T, N)) : xkn t = N := by
  have h1 := xkn_ok t h0
  rw [hc, hcl] at h1
  exact (Option.some.inj h1).symm
theorem XRel.at {D : va_G} {K : Nat → ClassId} {U : State} {A : Nat → Prop} {ad : Nat → Nat → Nat} {M : XM} {H : Heap} (X : XRel D K U A ad M H) {t n : Nat} (ht : xkt t ≠ 5) (hn : n < M.2.2.2.1 t) :
    ∃ (ob : List XR) (k : Nat), (∀ q : XR, q ∈ ob ↔ (xkt q.1 ≠ 5 ∧ q.2 < M.2.2.2.1 q.1)) ∧ va_P D xcl (ob.map (xce K ad M)) H ∧ va_D A (ob.map (xce K ad M)) ∧ ob[k]? = some (t, n) ∧ (ob.map (xce K ad M))[k]? = some (xce K ad M (t, n)) := by
  obtain ⟨⟨ob, h1, h2, h3⟩, -, -⟩ := X
  obtain ⟨k, hk⟩ := List.getElem?_of_mem ((h1 (t, n)).mpr ⟨ht, hn⟩)
  exact ⟨ob, k, h1, h2, h3, hk, by rw [List.getElem?_map, hk]; rfl⟩
theorem xset {ob : List XR} {k : Nat} {q0 : XR} {f g : XR → Nat × va_E} {A : Nat → Prop} {e : Nat × va_E} (hD : va_D A (ob.map f)) (hk : ob[k]? = some q0) (hs : ∀ q, q ≠ q0 → g q = f q) (he : e = g q0) : (ob.map f).set k e = ob.map g := by
  subst he
  have hl : k < ob.length := (List.getElem?_eq_some_iff.mp hk).1
  apply List.ext_getElem?
  intro i
  by_cases hik : i = k
  · subst hik
    rw [List.getElem?_set_self (by simpa using hl), List.getElem?_map, hk]
    rfl
  · rw [List.getElem?_set_ne (Ne.symm hik), List.getElem?_map, List.getElem?_map]
    cases h : ob[i]? with
    | none => rfl
    | some q =>
      have hq : q ≠ q0 := by
        intro hz
        subst hz
        exact hik (hD.1 i k _ _ (by rw [List.getElem?_map, h]; rfl) (by rw [List.getElem?_map, hk]; rfl) rfl)
      simp [hs q hq]
theorem xce_congr {K : Nat → ClassId} {ad : Nat → Nat → Nat} {M M1 : XM} {q : XR} (h1 : M1.1 q.1 q.2 = M.1 q.1 q.2) (h2 : M1.2.1 q.1 q.2 = M.2.1 q.1 q.2) (h3 : M1.2.2.1 q.1 q.2 = M.2.2.1 q.1 q.2) : xce K ad M1 q = xce K ad M q := by
  have h4 : xfv ad M1 q.1 q.2 = xfv ad M q.1 q.2 := by
    funext k
    unfold xfv
    rw [h1, h3]
  unfold xce
  rw [h4, h1, h2, h3]
theorem up3_off {α : Type} {f : Nat → Nat → Nat → α} {t n k : Nat} {v : α} {q : XR} (h : q ≠ (t, n)) : up3 f t n k v q.1 q.2 = f q.1 q.2 := by
  funext k'
  unfold up3
  by_cases h1 : q.1 = t
  · by_cases h2 : q.2 = n
    · exact absurd (Prod.ext h1 h2) h
    · simp [h2]
  · simp [h1]
theorem up3_on {α : Type} {f : Nat → Nat → Nat → α} {t n k : Nat} {v : α} {k' : Nat} : up3 f t n k v t n k' = if k' = k then v else f t n k' := by simp [up3]
theorem XRel.step {D : va_G} {K : Nat → ClassId} {s : State} {A : Nat → Prop} {ad : Nat → Nat → Nat} {M M1 : XM} {H H1 : Heap} {locs locs1 : List Loc} (hA : ∀ q : Nat, s.heap.size ≤ q → A q) (X : XRel D K s A ad M H) (hS : va_S A s.heap H locs) (hS1 : va_S A s.heap H1 locs1) {ob : List XR} (hob : ∀ q : XR, q ∈ ob ↔ (xkt q.1 ≠ 5 ∧ q.2 < M.2.2.2.1 q.1))
    (hP1 : va_P D xcl (ob.map (xce K ad M1)) H1) (hD1 : va_D A (ob.map (xce K ad M1))) (hc : M1.2.2.2.1 = M.2.2.2.1) (hl : M1.2.2.2.2.1 = M.2.2.2.2.1) (hcl : ∀ (t n k : Nat) (q : XR), M1.2.2.1 t n k = some q → q.2 < M.2.2.2.1 q.1) (hsc : ∀ t n, xkt t = 5 → M1.1 t n = M.1 t n) : XRel D K s A ad M1 H1 := by
  refine ⟨⟨ob, by rw [hc]; exact hob, hP1, hD1⟩, by rw [hc]; exact hcl, fun t n h5 hn => ?_⟩
  rw [hc] at hn
  obtain ⟨x1, x3⟩ := X.2.2 t n h5 hn
  have x2 : ad t n < s.heap.size := Nat.lt_of_not_le (fun hz => x3 (hA _ hz))
  rw [hl, hsc t n h5]
  exact ⟨x1.kept ((hS1.2.1 _ x2 x3).trans (hS.2.1 _ x2 x3).symm), x3⟩
theorem xin_ok {i : Int32} {n : Nat} (h : xin i n = true) : vp_in i n := by
  unfold xin at h
  simp only [Bool.and_eq_true, Bool.not_eq_true', decide_eq_false_iff_not] at h
  intro hz
  rcases hz with hz | hz
  · exact h.1 hz
  · have h2 : i.toNatClampNeg < n := Nat.le_of_ble_eq_true h.2
    omega
theorem xfs_set {K : Nat → ClassId} {ad : Nat → Nat → Nat} {M M1 : XM} {t n k N : Nat} {v : Value} (hk : k < N) (hv : xfv ad M1 t n k = v) (ho : ∀ j, j ≠ k → xfv ad M1 t n j = xfv ad M t n j) : ((List.range N).map (xfv ad M t n)).set k v = (List.range N).map (xfv ad M1 t n) := by
  apply List.ext_getElem?
  intro i
  by_cases hik : i = k
  · subst hik
    rw [List.getElem?_set_self (by simpa using hk), List.getElem?_map, List.getElem?_range hk, ← hv]
    rfl
  · rw [List.getElem?_set_ne (Ne.symm hik), List.getElem?_map, List.getElem?_map]
    cases h : (List.range N)[i]? with
    | none => rfl
    | some j =>
      have hj : j = i := by
        have hl : i < N := by simpa using (List.getElem?_eq_some_iff.mp h).1
        rw [List.getElem?_range hl] at h
        exact (Option.some.inj h).symm
      subst hj
      simp [ho j hik]
theorem tv_rf {ad : Nat → Nat → Nat} {r : Option XR} : va_rf (xrf ad r) = tv ad (.inr (.inr r)) := by cases r <;> rfl
theorem sd_getf {y pc index ci k : Nat} {C : String} {T : u_T} {N : Nat} (hd : decode (xby y) pc = .ok (.getfield index, 3)) (hcl : xcl[ci]? = some (C, T, N)) (hin : ∀ w ∈ u_ws C T N, w ∈ xall) (hk : k < N) (hw : Cond.fieldLink (xown y) index C (T k).2.1 (T k).2.2.1 ∈ xall) (hself : (T k).1 = C) : Snd y pc (xo_getf ci k pc 3) := by
  intro f lv st M o M' h IH
  unfold xo_getf at h
  split at h
  · rename_i t n r
    cases hb : (Nat.beq (xkt t) 0 && Nat.beq (xkc t) ci) with
    | false => rw [hb] at h; cases h
    | true =>
      rw [hb, cond_true] at h
      simp only [Bool.and_eq_true] at hb
      have e1 : xkt t = 0 := Nat.eq_of_beq_eq_true hb.1
      have e2 : xkc t = ci := Nat.eq_of_beq_eq_true hb.2
      have e3 : xkn t = N := xkn_of e1 e2 hcl
      have hn : ∃ v : XV, XG y (pc + 3) lv (v :: r) M o M' ∧ ∀ (ad : Nat → Nat → Nat), xfv ad M t n k = tv ad v ∧ ∀ (D : va_G) (K : Nat → ClassId) (U : State) (A : Nat → Prop) (H : Heap), XRel D K U A ad M H → vok M.2.2.2.1 v := by
        cases hb2 : Nat.beq (xst ci k) 1 with
        | true =>
          rw [hb2, cond_true] at h
          refine ⟨_, IH _ _ _ _ _ _ _ h, fun ad => ⟨?_, fun D K U A H X => ?_⟩⟩
          · unfold xfv
            rw [if_pos (by rw [e2]; exact Nat.eq_of_beq_eq_true hb2)]
            exact tv_rf
          · cases hq : M.2.2.1 t n k with
            | none => trivial
            | some q => exact X.2.1 t n k q hq
        | false =>
          rw [hb2, cond_false] at h
          refine ⟨_, IH _ _ _ _ _ _ _ h, fun ad => ⟨?_, fun D K U A H X => trivial⟩⟩
          unfold xfv
          rw [if_neg (by rw [e2]; exact fun hz => by rw [hz] at hb2; cases hb2)]
          rfl
      obtain ⟨v, hn, hv⟩ := hn
      refine ⟨hn.1, ?_⟩
      intro p l e R s m args below meth c D K A ad0 k0 c0 w0 ad H locs ls B
      obtain ⟨C0, X, hS, hL, hst, hlen, hag, hcw⟩ := B
      have kk := hn.2 p l e R s m args below meth c D K A ad0 k0 c0 w0 ad H locs ls ⟨C0, X, hS, hL, XSt.cons ((hv ad).2 D K s A H X) hst.tail, hlen, hag, hcw⟩
      obtain ⟨ob, q0, hob, hP, hD, hq0, hws⟩ := X.at (t := t) (n := n) (by rw [e1]; decide) hst.head
      have hce : xce K ad M (t, n) = (ad t n, .inr (ci, (List.range N).map (xfv ad M t n))) := by
        unfold xce
        simp only [e1, e2, e3, if_true]
      rw [hce] at hws
      exact va_get C0.1 C0.2.1 C0.2.2.2.2.1 hin C0.2.2.2.2.2.1 C0.2.2.2.2.2.2.2.2.1 hP q0 hws hcl k hk (C0.2.2.2.2.1 _ hw) (fun x hx => by rw [hself] at hx; exact hx) (v := tv ad v) (by rw [List.getElem?_map, List.getElem?_range hk, ← (hv ad).1]; rfl) hd kk
  · cases h
theorem sd_putf {y pc index ci k : Nat} {C : String} {T : u_T} {N : Nat} {ty : FieldType} (hd : decode (xby y) pc = .ok (.putfield index, 3)) (hcl : xcl[ci]? = some (C, T, N)) (hin : ∀ w ∈ u_ws C T N, w ∈ xall) (hk : k < N) (hw : Cond.fieldLink (xown y) index C (T k).2.1 (T k).2.2.1 ∈ xall) (hself : (T k).1 = C) (ty0 : Nat → FieldType) (hty : ∀ k, k < N → parseFieldDescriptor (T k).2.2.1 = some (ty0 k)) (hnm : ∀ a, a < N → ∀ b, b < N → a ≠ b → (T a).2.1 ≠ (T b).2.1) (hd0 : parseFieldDescriptor (T k).2.2.1 = some ty) (hfin : (T k).2.2.2 = false) (hni : ∀ x : Int32, narrow ty (.int x) = .int x) (hfi : ∀ x : Int32, fits ty (.int x) = true) : Snd y pc (xo_puti ci k pc 3) := by
  intro f lv st M o M' h IH
  unfold xo_puti at h
  split at h
  · rename_i x t n r
    cases hb : (Nat.beq (xkt t) 0 && Nat.beq (xkc t) ci && Nat.beq (xst ci k) 0) with
    | false => rw [hb] at h; cases h
    | true =>
      rw [hb, cond_true] at h
      simp only [Bool.and_eq_true] at hb
      have e1 : xkt t = 0 := Nat.eq_of_beq_eq_true hb.1.1
      have e2 : xkc t = ci := Nat.eq_of_beq_eq_true hb.1.2
      have e4 := Nat.eq_of_beq_eq_true hb.2
      have e3 : xkn t = N := xkn_of e1 e2 hcl
      have hn := IH _ _ _ _ _ _ _ h
      refine ⟨hn.1, ?_⟩
      intro p l e R s m args below meth c D K A ad0 k0 c0 w0 ad H locs ls B
      obtain ⟨C0, X, hS, hL, hst, hlen, hag, hcw⟩ := B
      obtain ⟨ob, q0, hob, hP, hD, hq0, hws⟩ := X.at (t := t) (n := n) (by rw [e1]; decide) hst.tail.head
      have hce : ∀ M2 : XM, xce K ad M2 (t, n) = (ad t n, .inr (ci, (List.range N).map (xfv ad M2 t n))) := fun M2 => by
        unfold xce
        simp only [e1, e2, e3, if_true]
      rw [hce] at hws
      refine va_put (v := .int x) C0.1 C0.2.1 C0.2.2.2.2.1 hin ty0 hty hnm C0.2.2.2.2.2.1 C0.2.2.2.2.2.2.2.2.1 hP hD hS q0 hws hcl k hk (C0.2.2.2.2.1 _ hw) (fun x hx => by rw [hself] at hx; exact hx) hfin hd0 (hni x) (hfi x) (by rw [List.length_map, List.length_range]; exact hk) hd (fun H1 locs1 hP1 hD1 hS1 => ?_)
      have hs := xset (g := xce K ad (up3 M.1 t n k x, M.2)) (e := (ad t n, .inr (ci, ((List.range N).map (xfv ad M t n)).set k (.int x)))) hD hq0 (fun q hq => xce_congr (up3_off hq) rfl rfl) (by
        rw [hce, xfs_set (K := K) (M1 := (up3 M.1 t n k x, M.2)) hk]
        · unfold xfv
          rw [if_neg (by rw [e2, e4]; decide)]
          simp [up3]
        · intro j hj
          unfold xfv
          simp [up3_on, hj])
      rw [hs] at hP1 hD1
      have X1 := XRel.step (hA := C0.2.2.2.2.2.2.2.2.2.2.2.2.1) X (M1 := (up3 M.1 t n k x, M.2)) hS hS1 hob hP1 hD1 rfl rfl X.2.1 (fun t1 n1 h5 => up3_off (q := (t1, n1)) (fun hz => by cases hz; rw [e1] at h5; cases h5))
      exact hn.2 p l e R s m args below meth c D K A ad0 k0 c0 w0 ad H1 locs1 ls ⟨C0, X1, hS1, hL, hst.tail.tail, hlen, hag, hcw⟩
  · cases h
theorem sd_putfZ {y pc index ci k : Nat} {C : String} {T : u_T} {N : Nat} {ty : FieldType} (hd : decode (xby y) pc = .ok (.putfield index, 3)) (hcl : xcl[ci]? = some (C, T, N)) (hin : ∀ w ∈ u_ws C T N, w ∈ xall) (hk : k < N) (hw : Cond.fieldLink (xown y) index C (T k).2.1 (T k).2.2.1 ∈ xall) (hself : (T k).1 = C) (ty0 : Nat → FieldType) (hty : ∀ k, k < N → parseFieldDescriptor (T k).2.2.1 = some (ty0 k)) (hnm : ∀ a, a < N → ∀ b, b < N → a ≠ b → (T a).2.1 ≠ (T b).2.1) (hd0 : parseFieldDescriptor (T k).2.2.1 = some ty) (hfin : (T k).2.2.2 = false) (hni : ∀ x : Int32, x = 0 ∨ x = 1 → narrow ty (.int x) = .int x) (hfi : ∀ x : Int32, x = 0 ∨ x = 1 → fits ty (.int x) = true) : Snd y pc (xo_putz ci k pc 3) := by
  intro f lv st M o M' h IH
  unfold xo_putz at h
  split at h
  · rename_i x t n r
    cases hb : (Nat.beq (xkt t) 0 && Nat.beq (xkc t) ci && Nat.beq (xst ci k) 2) with
    | false => rw [hb] at h; cases h
    | true =>
      rw [hb, cond_true] at h
      simp only [Bool.and_eq_true] at hb
      by_cases hx01 : x = 0 ∨ x = 1
      case neg => rw [if_neg hx01] at h; cases h
      rw [if_pos hx01] at h
      have e1 : xkt t = 0 := Nat.eq_of_beq_eq_true hb.1.1
      have e2 : xkc t = ci := Nat.eq_of_beq_eq_true hb.1.2
      have e4 := Nat.eq_of_beq_eq_true hb.2
      have e3 : xkn t = N := xkn_of e1 e2 hcl
      have hn := IH _ _ _ _ _ _ _ h
      refine ⟨hn.1, ?_⟩
      intro p l e R s m args below meth c D K A ad0 k0 c0 w0 ad H locs ls B
      obtain ⟨C0, X, hS, hL, hst, hlen, hag, hcw⟩ := B
      obtain ⟨ob, q0, hob, hP, hD, hq0, hws⟩ := X.at (t := t) (n := n) (by rw [e1]; decide) hst.tail.head
      have hce : ∀ M2 : XM, xce K ad M2 (t, n) = (ad t n, .inr (ci, (List.range N).map (xfv ad M2 t n))) := fun M2 => by
        unfold xce
        simp only [e1, e2, e3, if_true]
      rw [hce] at hws
      refine va_put (v := .int x) C0.1 C0.2.1 C0.2.2.2.2.1 hin ty0 hty hnm C0.2.2.2.2.2.1 C0.2.2.2.2.2.2.2.2.1 hP hD hS q0 hws hcl k hk (C0.2.2.2.2.1 _ hw) (fun x hx => by rw [hself] at hx; exact hx) hfin hd0 (hni x hx01) (hfi x hx01) (by rw [List.length_map, List.length_range]; exact hk) hd (fun H1 locs1 hP1 hD1 hS1 => ?_)
      have hs := xset (g := xce K ad (up3 M.1 t n k x, M.2)) (e := (ad t n, .inr (ci, ((List.range N).map (xfv ad M t n)).set k (.int x)))) hD hq0 (fun q hq => xce_congr (up3_off hq) rfl rfl) (by
        rw [hce, xfs_set (K := K) (M1 := (up3 M.1 t n k x, M.2)) hk]
        · unfold xfv
          rw [if_neg (by rw [e2, e4]; decide)]
          simp [up3]
        · intro j hj
          unfold xfv
          simp [up3_on, hj])
      rw [hs] at hP1 hD1
      have X1 := XRel.step (hA := C0.2.2.2.2.2.2.2.2.2.2.2.2.1) X (M1 := (up3 M.1 t n k x, M.2)) hS hS1 hob hP1 hD1 rfl rfl X.2.1 (fun t1 n1 h5 => up3_off (q := (t1, n1)) (fun hz => by cases hz; rw [e1] at h5; cases h5))
      exact hn.2 p l e R s m args below meth c D K A ad0 k0 c0 w0 ad H1 locs1 ls ⟨C0, X1, hS1, hL, hst.tail.tail, hlen, hag, hcw⟩
  · cases h
theorem sd_putfR {y pc index ci k : Nat} {C : String} {T : u_T} {N : Nat} {ty : FieldType} (hd : decode (xby y) pc = .ok (.putfield index, 3)) (hcl : xcl[ci]? = some (C, T, N)) (hin : ∀ w ∈ u_ws C T N, w ∈ xall) (hk : k < N) (hw : Cond.fieldLink (xown y) index C (T k).2.1 (T k).2.2.1 ∈ xall) (hself : (T k).1 = C) (ty0 : Nat → FieldType) (hty : ∀ k, k < N → parseFieldDescriptor (T k).2.2.1 = some (ty0 k)) (hnm : ∀ a, a < N → ∀ b, b < N → a ≠ b → (T a).2.1 ≠ (T b).2.1) (hd0 : parseFieldDescriptor (T k).2.2.1 = some ty) (hfin : (T k).2.2.2 = false) (hni : ∀ a : Nat, narrow ty (.ref a) = .ref a) (hfi : ∀ a : Nat, fits ty (.ref a) = true) : Snd y pc (xo_putr ci k pc 3) := by
  intro f lv st M o M' h IH
  unfold xo_putr at h
  split at h
  · rename_i v t n r
    cases hb : (Nat.beq (xkt t) 0 && Nat.beq (xkc t) ci && Nat.beq (xst ci k) 1) with
    | false => rw [hb] at h; cases h
    | true =>
      rw [hb, cond_true] at h
      simp only [Bool.and_eq_true] at hb
      have e1 : xkt t = 0 := Nat.eq_of_beq_eq_true hb.1.1
      have e2 : xkc t = ci := Nat.eq_of_beq_eq_true hb.1.2
      have e4 := Nat.eq_of_beq_eq_true hb.2
      have e3 : xkn t = N := xkn_of e1 e2 hcl
      have hn := IH _ _ _ _ _ _ _ h
      refine ⟨hn.1, ?_⟩
      intro p l e R s m args below meth c D K A ad0 k0 c0 w0 ad H locs ls B
      obtain ⟨C0, X, hS, hL, hst, hlen, hag, hcw⟩ := B
      obtain ⟨ob, q0, hob, hP, hD, hq0, hws⟩ := X.at (t := t) (n := n) (by rw [e1]; decide) hst.tail.head
      have hce : ∀ M2 : XM, xce K ad M2 (t, n) = (ad t n, .inr (ci, (List.range N).map (xfv ad M2 t n))) := fun M2 => by
        unfold xce
        simp only [e1, e2, e3, if_true]
      rw [hce] at hws
      refine va_put (v := .ref (ad v.1 v.2)) C0.1 C0.2.1 C0.2.2.2.2.1 hin ty0 hty hnm C0.2.2.2.2.2.1 C0.2.2.2.2.2.2.2.2.1 hP hD hS q0 hws hcl k hk (C0.2.2.2.2.1 _ hw) (fun x hx => by rw [hself] at hx; exact hx) hfin hd0 (hni _) (hfi _) (by rw [List.length_map, List.length_range]; exact hk) hd (fun H1 locs1 hP1 hD1 hS1 => ?_)
      have hs := xset (g := xce K ad (M.1, M.2.1, up3 M.2.2.1 t n k (some v), M.2.2.2)) (e := (ad t n, .inr (ci, ((List.range N).map (xfv ad M t n)).set k (.ref (ad v.1 v.2))))) hD hq0 (fun q hq => xce_congr rfl rfl (up3_off hq)) (by
        rw [hce, xfs_set (K := K) (M1 := (M.1, M.2.1, up3 M.2.2.1 t n k (some v), M.2.2.2)) hk]
        · unfold xfv
          rw [if_pos (by rw [e2, e4])]
          simp [up3, xrf, va_rf]
        · intro j hj
          unfold xfv
          simp [up3_on, hj])
      rw [hs] at hP1 hD1
      have X1 := XRel.step (hA := C0.2.2.2.2.2.2.2.2.2.2.2.2.1) X (M1 := (M.1, M.2.1, up3 M.2.2.1 t n k (some v), M.2.2.2)) hS hS1 hob hP1 hD1 rfl rfl (fun t1 n1 k1 q hq => by
        by_cases hz : (t1, n1) = (t, n)
        · cases hz
          simp only [up3_on] at hq
          split at hq
          · cases hq; exact hst.head
          · exact X.2.1 _ _ _ _ hq
        · have h7 := congrFun (up3_off (f := M.2.2.1) (k := k) (v := some v) (q := (t1, n1)) hz) k1
          exact X.2.1 t1 n1 k1 q (h7.symm.trans hq)) (fun t1 n1 h5 => rfl)
      exact hn.2 p l e R s m args below meth c D K A ad0 k0 c0 w0 ad H1 locs1 ls ⟨C0, X1, hS1, hL, hst.tail.tail, hlen, hag, hcw⟩
  · cases h
theorem sd_putfF {y pc index ci k : Nat} {C : String} {T : u_T} {N : Nat} {ty : FieldType} (hd : decode (xby y) pc = .ok (.putfield index, 3)) (hcl : xcl[ci]? = some (C, T, N)) (hin : ∀ w ∈ u_ws C T N, w ∈ xall) (hk : k < N) (hw : Cond.fieldLink (xown y) index C (T k).2.1 (T k).2.2.1 ∈ xall) (hself : (T k).1 = C) (ty0 : Nat → FieldType) (hty : ∀ k, k < N → parseFieldDescriptor (T k).2.2.1 = some (ty0 k)) (hnm : ∀ a, a < N → ∀ b, b < N → a ≠ b → (T a).2.1 ≠ (T b).2.1) (hd0 : parseFieldDescriptor (T k).2.2.1 = some ty) (hfin : (T k).2.2.2 = true) (hini : xini y = true) (hdecl : (T k).1 = xown y) (hni : ∀ x : Int32, narrow ty (.int x) = .int x) (hfi : ∀ x : Int32, fits ty (.int x) = true) : Snd y pc (xo_puti ci k pc 3) := by
  intro f lv st M o M' h IH
  unfold xo_puti at h
  split at h
  · rename_i x t n r
    cases hb : (Nat.beq (xkt t) 0 && Nat.beq (xkc t) ci && Nat.beq (xst ci k) 0) with
    | false => rw [hb] at h; cases h
    | true =>
      rw [hb, cond_true] at h
      simp only [Bool.and_eq_true] at hb
      have e1 : xkt t = 0 := Nat.eq_of_beq_eq_true hb.1.1
      have e2 : xkc t = ci := Nat.eq_of_beq_eq_true hb.1.2
      have e4 := Nat.eq_of_beq_eq_true hb.2
      have e3 : xkn t = N := xkn_of e1 e2 hcl
      have hn := IH _ _ _ _ _ _ _ h
      refine ⟨hn.1, ?_⟩
      intro p l e R s m args below meth c D K A ad0 k0 c0 w0 ad H locs ls B
      obtain ⟨C0, X, hS, hL, hst, hlen, hag, hcw⟩ := B
      obtain ⟨ob, q0, hob, hP, hD, hq0, hws⟩ := X.at (t := t) (n := n) (by rw [e1]; decide) hst.tail.head
      have hce : ∀ M2 : XM, xce K ad M2 (t, n) = (ad t n, .inr (ci, (List.range N).map (xfv ad M2 t n))) := fun M2 => by
        unfold xce
        simp only [e1, e2, e3, if_true]
      rw [hce] at hws
      refine va_putF (v := .int x) C0.1 C0.2.1 C0.2.2.2.2.1 hin ty0 hty hnm C0.2.2.2.2.2.1 C0.2.2.2.2.2.2.2.2.1 hP hD hS q0 hws hcl k hk (C0.2.2.2.2.1 _ hw) (fun x hx => by rw [hself] at hx; exact hx) hfin (C0.2.2.2.2.2.2.2.1 hini) hdecl hd0 (hni x) (hfi x) (by rw [List.length_map, List.length_range]; exact hk) hd (fun H1 locs1 hP1 hD1 hS1 => ?_)
      have hs := xset (g := xce K ad (up3 M.1 t n k x, M.2)) (e := (ad t n, .inr (ci, ((List.range N).map (xfv ad M t n)).set k (.int x)))) hD hq0 (fun q hq => xce_congr (up3_off hq) rfl rfl) (by
        rw [hce, xfs_set (K := K) (M1 := (up3 M.1 t n k x, M.2)) hk]
        · unfold xfv
          rw [if_neg (by rw [e2, e4]; decide)]
          simp [up3]
        · intro j hj
          unfold xfv
          simp [up3_on, hj])
      rw [hs] at hP1 hD1
      have X1 := XRel.step (hA := C0.2.2.2.2.2.2.2.2.2.2.2.2.1) X (M1 := (up3 M.1 t n k x, M.2)) hS hS1 hob hP1 hD1 rfl rfl X.2.1 (fun t1 n1 h5 => up3_off (q := (t1, n1)) (fun hz => by cases hz; rw [e1] at h5; cases h5))
      exact hn.2 p l e R s m args below meth c D K A ad0 k0 c0 w0 ad H1 locs1 ls ⟨C0, X1, hS1, hL, hst.tail.tail, hlen, hag, hcw⟩
  · cases h
theorem sd_putfFZ {y pc index ci k : Nat} {C : String} {T : u_T} {N : Nat} {ty : FieldType} (hd : decode (xby y) pc = .ok (.putfield index, 3)) (hcl : xcl[ci]? = some (C, T, N)) (hin : ∀ w ∈ u_ws C T N, w ∈ xall) (hk : k < N) (hw : Cond.fieldLink (xown y) index C (T k).2.1 (T k).2.2.1 ∈ xall) (hself : (T k).1 = C) (ty0 : Nat → FieldType) (hty : ∀ k, k < N → parseFieldDescriptor (T k).2.2.1 = some (ty0 k)) (hnm : ∀ a, a < N → ∀ b, b < N → a ≠ b → (T a).2.1 ≠ (T b).2.1) (hd0 : parseFieldDescriptor (T k).2.2.1 = some ty) (hfin : (T k).2.2.2 = true) (hini : xini y = true) (hdecl : (T k).1 = xown y) (hni : ∀ x : Int32, x = 0 ∨ x = 1 → narrow ty (.int x) = .int x) (hfi : ∀ x : Int32, x = 0 ∨ x = 1 → fits ty (.int x) = true) : Snd y pc (xo_putz ci k pc 3) := by
  intro f lv st M o M' h IH
  unfold xo_putz at h
  split at h
  · rename_i x t n r
    cases hb : (Nat.beq (xkt t) 0 && Nat.beq (xkc t) ci && Nat.beq (xst ci k) 2) with
    | false => rw [hb] at h; cases h
    | true =>
      rw [hb, cond_true] at h
      simp only [Bool.and_eq_true] at hb
      by_cases hx01 : x = 0 ∨ x = 1
      case neg => rw [if_neg hx01] at h; cases h
      rw [if_pos hx01] at h
      have e1 : xkt t = 0 := Nat.eq_of_beq_eq_true hb.1.1
      have e2 : xkc t = ci := Nat.eq_of_beq_eq_true hb.1.2
      have e4 := Nat.eq_of_beq_eq_true hb.2
      have e3 : xkn t = N := xkn_of e1 e2 hcl
      have hn := IH _ _ _ _ _ _ _ h
      refine ⟨hn.1, ?_⟩
      intro p l e R s m args below meth c D K A ad0 k0 c0 w0 ad H locs ls B
      obtain ⟨C0, X, hS, hL, hst, hlen, hag, hcw⟩ := B
      obtain ⟨ob, q0, hob, hP, hD, hq0, hws⟩ := X.at (t := t) (n := n) (by rw [e1]; decide) hst.tail.head
      have hce : ∀ M2 : XM, xce K ad M2 (t, n) = (ad t n, .inr (ci, (List.range N).map (xfv ad M2 t n))) := fun M2 => by
        unfold xce
        simp only [e1, e2, e3, if_true]
      rw [hce] at hws
      refine va_putF (v := .int x) C0.1 C0.2.1 C0.2.2.2.2.1 hin ty0 hty hnm C0.2.2.2.2.2.1 C0.2.2.2.2.2.2.2.2.1 hP hD hS q0 hws hcl k hk (C0.2.2.2.2.1 _ hw) (fun x hx => by rw [hself] at hx; exact hx) hfin (C0.2.2.2.2.2.2.2.1 hini) hdecl hd0 (hni x hx01) (hfi x hx01) (by rw [List.length_map, List.length_range]; exact hk) hd (fun H1 locs1 hP1 hD1 hS1 => ?_)
      have hs := xset (g := xce K ad (up3 M.1 t n k x, M.2)) (e := (ad t n, .inr (ci, ((List.range N).map (xfv ad M t n)).set k (.int x)))) hD hq0 (fun q hq => xce_congr (up3_off hq) rfl rfl) (by
        rw [hce, xfs_set (K := K) (M1 := (up3 M.1 t n k x, M.2)) hk]
        · unfold xfv
          rw [if_neg (by rw [e2, e4]; decide)]
          simp [up3]
        · intro j hj
          unfold xfv
          simp [up3_on, hj])
      rw [hs] at hP1 hD1
      have X1 := XRel.step (hA := C0.2.2.2.2.2.2.2.2.2.2.2.2.1) X (M1 := (up3 M.1 t n k x, M.2)) hS hS1 hob hP1 hD1 rfl rfl X.2.1 (fun t1 n1 h5 => up3_off (q := (t1, n1)) (fun hz => by cases hz; rw [e1] at h5; cases h5))
      exact hn.2 p l e R s m args below meth c D K A ad0 k0 c0 w0 ad H1 locs1 ls ⟨C0, X1, hS1, hL, hst.tail.tail, hlen, hag, hcw⟩
  · cases h
theorem sd_putfFR {y pc index ci k : Nat} {C : String} {T : u_T} {N : Nat} {ty : FieldType} (hd : decode (xby y) pc = .ok (.putfield index, 3)) (hcl : xcl[ci]? = some (C, T, N)) (hin : ∀ w ∈ u_ws C T N, w ∈ xall) (hk : k < N) (hw : Cond.fieldLink (xown y) index C (T k).2.1 (T k).2.2.1 ∈ xall) (hself : (T k).1 = C) (ty0 : Nat → FieldType) (hty : ∀ k, k < N → parseFieldDescriptor (T k).2.2.1 = some (ty0 k)) (hnm : ∀ a, a < N → ∀ b, b < N → a ≠ b → (T a).2.1 ≠ (T b).2.1) (hd0 : parseFieldDescriptor (T k).2.2.1 = some ty) (hfin : (T k).2.2.2 = true) (hini : xini y = true) (hdecl : (T k).1 = xown y) (hni : ∀ a : Nat, narrow ty (.ref a) = .ref a) (hfi : ∀ a : Nat, fits ty (.ref a) = true) : Snd y pc (xo_putr ci k pc 3) := by
  intro f lv st M o M' h IH
  unfold xo_putr at h
  split at h
  · rename_i v t n r
    cases hb : (Nat.beq (xkt t) 0 && Nat.beq (xkc t) ci && Nat.beq (xst ci k) 1) with
    | false => rw [hb] at h; cases h
    | true =>
      rw [hb, cond_true] at h
      simp only [Bool.and_eq_true] at hb
      have e1 : xkt t = 0 := Nat.eq_of_beq_eq_true hb.1.1
      have e2 : xkc t = ci := Nat.eq_of_beq_eq_true hb.1.2
      have e4 := Nat.eq_of_beq_eq_true hb.2
      have e3 : xkn t = N := xkn_of e1 e2 hcl
      have hn := IH _ _ _ _ _ _ _ h
      refine ⟨hn.1, ?_⟩
      intro p l e R s m args below meth c D K A ad0 k0 c0 w0 ad H locs ls B
      obtain ⟨C0, X, hS, hL, hst, hlen, hag, hcw⟩ := B
      obtain ⟨ob, q0, hob, hP, hD, hq0, hws⟩ := X.at (t := t) (n := n) (by rw [e1]; decide) hst.tail.head
      have hce : ∀ M2 : XM, xce K ad M2 (t, n) = (ad t n, .inr (ci, (List.range N).map (xfv ad M2 t n))) := fun M2 => by
        unfold xce
        simp only [e1, e2, e3, if_true]
      rw [hce] at hws
      refine va_putF (v := .ref (ad v.1 v.2)) C0.1 C0.2.1 C0.2.2.2.2.1 hin ty0 hty hnm C0.2.2.2.2.2.1 C0.2.2.2.2.2.2.2.2.1 hP hD hS q0 hws hcl k hk (C0.2.2.2.2.1 _ hw) (fun x hx => by rw [hself] at hx; exact hx) hfin (C0.2.2.2.2.2.2.2.1 hini) hdecl hd0 (hni _) (hfi _) (by rw [List.length_map, List.length_range]; exact hk) hd (fun H1 locs1 hP1 hD1 hS1 => ?_)
      have hs := xset (g := xce K ad (M.1, M.2.1, up3 M.2.2.1 t n k (some v), M.2.2.2)) (e := (ad t n, .inr (ci, ((List.range N).map (xfv ad M t n)).set k (.ref (ad v.1 v.2))))) hD hq0 (fun q hq => xce_congr rfl rfl (up3_off hq)) (by
        rw [hce, xfs_set (K := K) (M1 := (M.1, M.2.1, up3 M.2.2.1 t n k (some v), M.2.2.2)) hk]
        · unfold xfv
          rw [if_pos (by rw [e2, e4])]
          simp [up3, xrf, va_rf]
        · intro j hj
          unfold xfv
          simp [up3_on, hj])
      rw [hs] at hP1 hD1
      have X1 := XRel.step (hA := C0.2.2.2.2.2.2.2.2.2.2.2.2.1) X (M1 := (M.1, M.2.1, up3 M.2.2.1 t n k (some v), M.2.2.2)) hS hS1 hob hP1 hD1 rfl rfl (fun t1 n1 k1 q hq => by
        by_cases hz : (t1, n1) = (t, n)
        · cases hz
          simp only [up3_on] at hq
          split at hq
          · cases hq; exact hst.head
          · exact X.2.1 _ _ _ _ hq
        · have h7 := congrFun (up3_off (f := M.2.2.1) (k := k) (v := some v) (q := (t1, n1)) hz) k1
          exact X.2.1 t1 n1 k1 q (h7.symm.trans hq)) (fun t1 n1 h5 => rfl)
      exact hn.2 p l e R s m args below meth c D K A ad0 k0 c0 w0 ad H1 locs1 ls ⟨C0, X1, hS1, hL, hst.tail.tail, hlen, hag, hcw⟩
  · cases h
theorem sd_iaload {y pc : Nat} (hd : decode (xby y) pc = .ok (.iaload, 1)) : Snd y pc (xo_iald pc 1) := by
  intro f lv st M o M' h IH
  unfold xo_iald at h
  split at h
  · rename_i i t n r
    cases hb : Nat.beq (xkt t) 1 with
    | true =>
      rw [hb, cond_true] at h
      have e1 : xkt t = 1 := Nat.eq_of_beq_eq_true hb
      by_cases hi : xin i (xkn t) = true
      case neg => rw [if_neg hi] at h; cases h
      rw [if_pos hi] at h
      have hn := IH _ _ _ _ _ _ _ h
      refine ⟨hn.1, ?_⟩
      intro p l e R s m args below meth c D K A ad0 k0 c0 w0 ad H locs ls B
      obtain ⟨C0, X, hS, hL, hst, hlen, hag, hcw⟩ := B
      have kk := hn.2 p l e R s m args below meth c D K A ad0 k0 c0 w0 ad H locs ls ⟨C0, X, hS, hL, XSt.cons trivial hst.tail.tail, hlen, hag, hcw⟩
      obtain ⟨ob, q0, hob, hP, hD, hq0, hws⟩ := X.at (t := t) (n := n) (by rw [e1]; decide) hst.tail.head
      have hce : xce K ad M (t, n) = (ad t n, .inl (K 0, xkn t, .inl (M.1 t n))) := by
        unfold xce
        simp [e1]
      rw [hce] at hws
      exact va_iald C0.1 C0.2.1 C0.2.2.2.2.2.2.2.2.1 hP q0 0 hws rfl (xin_ok hi) hd kk
    | false =>
      rw [hb, cond_false] at h
      cases hb5 : Nat.beq (xkt t) 5 with
      | false => rw [hb5] at h; cases h
      | true =>
        rw [hb5, cond_true] at h
        have e1 : xkt t = 5 := Nat.eq_of_beq_eq_true hb5
        by_cases hi : xin i M.2.2.2.2.1 = true
        case neg => rw [if_neg hi] at h; cases h
        rw [if_pos hi] at h
        have hn := IH _ _ _ _ _ _ _ h
        refine ⟨hn.1, ?_⟩
        intro p l e R s m args below meth c D K A ad0 k0 c0 w0 ad H locs ls B
        obtain ⟨C0, X, hS, hL, hst, hlen, hag, hcw⟩ := B
        have kk := hn.2 p l e R s m args below meth c D K A ad0 k0 c0 w0 ad H locs ls ⟨C0, X, hS, hL, XSt.cons trivial hst.tail.tail, hlen, hag, hcw⟩
        obtain ⟨x1, x3⟩ := X.2.2 t n e1 hst.tail.head
        exact va_sld (A := A) (H0 := H) C0.1 C0.2.1 x1 (Nat.lt_of_lt_of_le (Nat.lt_of_not_le (fun hz => x3 (C0.2.2.2.2.2.2.2.2.2.2.2.2.1 _ hz))) hS.1) x3 ⟨Nat.le_refl _, fun _ _ _ => rfl, hS.2.2⟩ (xin_ok hi) hd kk
  · cases h
theorem sd_baload {y pc : Nat} (hd : decode (xby y) pc = .ok (.baload, 1)) : Snd y pc (xo_bald pc 1) := by
  intro f lv st M o M' h IH
  unfold xo_bald at h
  split at h
  · rename_i i t n r
    cases hb : Nat.beq (xkt t) 2 with
    | false => rw [hb] at h; cases h
    | true =>
      rw [hb, cond_true] at h
      have e1 : xkt t = 2 := Nat.eq_of_beq_eq_true hb
      by_cases hi : xin i (xkn t) = true
      case neg => rw [if_neg hi] at h; cases h
      rw [if_pos hi] at h
      have hn := IH _ _ _ _ _ _ _ h
      refine ⟨hn.1, ?_⟩
      intro p l e R s m args below meth c D K A ad0 k0 c0 w0 ad H locs ls B
      obtain ⟨C0, X, hS, hL, hst, hlen, hag, hcw⟩ := B
      have kk := hn.2 p l e R s m args below meth c D K A ad0 k0 c0 w0 ad H locs ls ⟨C0, X, hS, hL, XSt.cons (trivial) hst.tail.tail, hlen, hag, hcw⟩
      obtain ⟨ob, q0, hob, hP, hD, hq0, hws⟩ := X.at (t := t) (n := n) (by rw [e1]; decide) hst.tail.head
      have hce : xce K ad M (t, n) = (ad t n, .inl (K 1, xkn t, .inl (M.1 t n))) := by
        unfold xce
        simp [e1]
      rw [hce] at hws
      exact va_zald C0.1 C0.2.1 C0.2.2.2.2.2.2.2.2.1 hP q0 1 hws rfl (xin_ok hi) hd kk
  · cases h
theorem sd_laload {y pc : Nat} (hd : decode (xby y) pc = .ok (.laload, 1)) : Snd y pc (xo_lald pc 1) := by
  intro f lv st M o M' h IH
  unfold xo_lald at h
  split at h
  · rename_i i t n r
    cases hb : Nat.beq (xkt t) 3 with
    | false => rw [hb] at h; cases h
    | true =>
      rw [hb, cond_true] at h
      have e1 : xkt t = 3 := Nat.eq_of_beq_eq_true hb
      by_cases hi : xin i (xkn t) = true
      case neg => rw [if_neg hi] at h; cases h
      rw [if_pos hi] at h
      have hn := IH _ _ _ _ _ _ _ h
      refine ⟨hn.1, ?_⟩
      intro p l e R s m args below meth c D K A ad0 k0 c0 w0 ad H locs ls B
      obtain ⟨C0, X, hS, hL, hst, hlen, hag, hcw⟩ := B
      have kk := hn.2 p l e R s m args below meth c D K A ad0 k0 c0 w0 ad H locs ls ⟨C0, X, hS, hL, XSt.cons (trivial) hst.tail.tail, hlen, hag, hcw⟩
      obtain ⟨ob, q0, hob, hP, hD, hq0, hws⟩ := X.at (t := t) (n := n) (by rw [e1]; decide) hst.tail.head
      have hce : xce K ad M (t, n) = (ad t n, .inl (K 2, xkn t, .inr (.inl (M.2.1 t n)))) := by
        unfold xce
        simp [e1]
      rw [hce] at hws
      exact va_lald C0.1 C0.2.1 C0.2.2.2.2.2.2.2.2.1 hP q0 2 hws rfl (xin_ok hi) hd kk
  · cases h
theorem sd_aaload {y pc : Nat} (hd : decode (xby y) pc = .ok (.aaload, 1)) : Snd y pc (xo_aald pc 1) := by
  intro f lv st M o M' h IH
  unfold xo_aald at h
  split at h
  · rename_i i t n r
    cases hb : Nat.beq (xkt t) 4 with
    | false => rw [hb] at h; cases h
    | true =>
      rw [hb, cond_true] at h
      have e1 : xkt t = 4 := Nat.eq_of_beq_eq_true hb
      by_cases hi : xin i (xkn t) = true
      case neg => rw [if_neg hi] at h; cases h
      rw [if_pos hi] at h
      have hn := IH _ _ _ _ _ _ _ h
      refine ⟨hn.1, ?_⟩
      intro p l e R s m args below meth c D K A ad0 k0 c0 w0 ad H locs ls B
      obtain ⟨C0, X, hS, hL, hst, hlen, hag, hcw⟩ := B
      have hvk : vok M.2.2.2.1 (.inr (.inr (M.2.2.1 t n i.toNatClampNeg))) := by
        cases hq : M.2.2.1 t n i.toNatClampNeg with
        | none => trivial
        | some q => exact X.2.1 _ _ _ q hq
      have kk := hn.2 p l e R s m args below meth c D K A ad0 k0 c0 w0 ad H locs ls ⟨C0, X, hS, hL, XSt.cons hvk hst.tail.tail, hlen, hag, hcw⟩
      obtain ⟨ob, q0, hob, hP, hD, hq0, hws⟩ := X.at (t := t) (n := n) (by rw [e1]; decide) hst.tail.head
      have hce : xce K ad M (t, n) = (ad t n, .inl (K (xka (xkc t)), xkn t, .inr (.inr (.inr (.inr (fun k => xrf ad (M.2.2.1 t n k))))))) := by
        unfold xce
        simp [e1]
      rw [hce] at hws
      obtain ⟨C, hC⟩ := xka_ok K (xkc t) (xkc_arr t e1)
      refine va_aldq C0.1 C0.2.1 C0.2.2.2.2.2.2.2.2.1 hP q0 (xka (xkc t)) hws hC (xin_ok hi) hd ?_
      have e9 : va_rf (xrf ad (M.2.2.1 t n i.toNatClampNeg)) = tv ad (.inr (.inr (M.2.2.1 t n i.toNatClampNeg))) := tv_rf
      rw [e9]
      exact kk
  · cases h
theorem sd_iastore {y pc : Nat} (hd : decode (xby y) pc = .ok (.iastore, 1)) : Snd y pc (xo_iast pc 1) := by
  intro f lv st M o M' h IH
  unfold xo_iast at h
  split at h
  · rename_i x i t n r
    cases hb : Nat.beq (xkt t) 1 with
    | false => rw [hb] at h; cases h
    | true =>
      rw [hb, cond_true] at h
      have e1 : xkt t = 1 := Nat.eq_of_beq_eq_true hb
      by_cases hi : xin i (xkn t) = true
      case neg => rw [if_neg hi] at h; cases h
      rw [if_pos hi] at h
      have hn := IH _ _ _ _ _ _ _ h
      refine ⟨hn.1, ?_⟩
      intro p l e R s m args below meth c D K A ad0 k0 c0 w0 ad H locs ls B
      obtain ⟨C0, X, hS, hL, hst, hlen, hag, hcw⟩ := B
      obtain ⟨ob, q0, hob, hP, hD, hq0, hws⟩ := X.at (t := t) (n := n) (by rw [e1]; decide) hst.tail.tail.head
      have hce : ∀ M2 : XM, xce K ad M2 (t, n) = (ad t n, .inl (K 0, xkn t, .inl (M2.1 t n))) := fun M2 => by
        unfold xce
        simp [e1]
      rw [hce] at hws
      refine va_iast C0.1 C0.2.1 C0.2.2.2.2.2.2.2.2.1 hP hD hS q0 0 hws rfl (xin_ok hi) hd (fun H1 locs1 hP1 hD1 hS1 => ?_)
      have hs := xset (g := xce K ad (up3 M.1 t n i.toNatClampNeg x, M.2)) (e := (ad t n, .inl (K 0, xkn t, .inl (upd (M.1 t n) i.toNatClampNeg x)))) hD hq0 (fun q hq => xce_congr (up3_off hq) rfl rfl) (by
        rw [hce]
        have hf : up3 M.1 t n i.toNatClampNeg x t n = upd (M.1 t n) i.toNatClampNeg x := by funext j; rw [up3_on]; rfl
        show _ = ((ad t n, .inl (K 0, xkn t, .inl (up3 M.1 t n i.toNatClampNeg x t n))) : Nat × va_E)
        rw [hf])
      rw [hs] at hP1 hD1
      have X1 := XRel.step (hA := C0.2.2.2.2.2.2.2.2.2.2.2.2.1) X (M1 := (up3 M.1 t n i.toNatClampNeg x, M.2)) hS hS1 hob hP1 hD1 rfl rfl X.2.1 (fun t1 n1 h5 => up3_off (q := (t1, n1)) (fun hz => by cases hz; rw [e1] at h5; cases h5))
      exact hn.2 p l e R s m args below meth c D K A ad0 k0 c0 w0 ad H1 locs1 ls ⟨C0, X1, hS1, hL, hst.tail.tail.tail, hlen, hag, hcw⟩
  · cases h
theorem sd_bastore {y pc : Nat} (hd : decode (xby y) pc = .ok (.bastore, 1)) : Snd y pc (xo_bast pc 1) := by
  intro f lv st M o M' h IH
  unfold xo_bast at h
  split at h
  · rename_i x i t n r
    cases hb : Nat.beq (xkt t) 2 with
    | false => rw [hb] at h; cases h
    | true =>
      rw [hb, cond_true] at h
      have e1 : xkt t = 2 := Nat.eq_of_beq_eq_true hb
      by_cases hi : xin i (xkn t) = true
      case neg => rw [if_neg hi] at h; cases h
      rw [if_pos hi] at h
      have hn := IH _ _ _ _ _ _ _ h
      refine ⟨hn.1, ?_⟩
      intro p l e R s m args below meth c D K A ad0 k0 c0 w0 ad H locs ls B
      obtain ⟨C0, X, hS, hL, hst, hlen, hag, hcw⟩ := B
      obtain ⟨ob, q0, hob, hP, hD, hq0, hws⟩ := X.at (t := t) (n := n) (by rw [e1]; decide) hst.tail.tail.head
      have hce : ∀ M2 : XM, xce K ad M2 (t, n) = (ad t n, .inl (K 1, xkn t, .inl (M2.1 t n))) := fun M2 => by
        unfold xce
        simp [e1]
      rw [hce] at hws
      refine va_zast C0.1 C0.2.1 C0.2.2.2.2.2.2.2.2.1 hP hD hS q0 1 hws rfl (xin_ok hi) hd (fun H1 locs1 hP1 hD1 hS1 => ?_)
      have hs := xset (g := xce K ad (up3 M.1 t n i.toNatClampNeg (vp_nar .boolean x), M.2)) (e := (ad t n, .inl (K 1, xkn t, .inl (upd (M.1 t n) i.toNatClampNeg (vp_nar .boolean x))))) hD hq0 (fun q hq => xce_congr (up3_off hq) rfl rfl) (by
        rw [hce]
        have hf : up3 M.1 t n i.toNatClampNeg (vp_nar .boolean x) t n = upd (M.1 t n) i.toNatClampNeg (vp_nar .boolean x) := by funext j; rw [up3_on]; rfl
        show _ = ((ad t n, .inl (K 1, xkn t, .inl (up3 M.1 t n i.toNatClampNeg (vp_nar .boolean x) t n))) : Nat × va_E)
        rw [hf])
      rw [hs] at hP1 hD1
      have X1 := XRel.step (hA := C0.2.2.2.2.2.2.2.2.2.2.2.2.1) X (M1 := (up3 M.1 t n i.toNatClampNeg (vp_nar .boolean x), M.2)) hS hS1 hob hP1 hD1 rfl rfl X.2.1 (fun t1 n1 h5 => up3_off (q := (t1, n1)) (fun hz => by cases hz; rw [e1] at h5; cases h5))
      exact hn.2 p l e R s m args below meth c D K A ad0 k0 c0 w0 ad H1 locs1 ls ⟨C0, X1, hS1, hL, hst.tail.tail.tail, hlen, hag, hcw⟩
  · cases h
theorem sd_lastore {y pc : Nat} (hd : decode (xby y) pc = .ok (.lastore, 1)) : Snd y pc (xo_last pc 1) := by
  intro f lv st M o M' h IH
  unfold xo_last at h
  split at h
  · rename_i x i t n r
    cases hb : Nat.beq (xkt t) 3 with
    | false => rw [hb] at h; cases h
    | true =>
      rw [hb, cond_true] at h
      have e1 : xkt t = 3 := Nat.eq_of_beq_eq_true hb
      by_cases hi : xin i (xkn t) = true
      case neg => rw [if_neg hi] at h; cases h
      rw [if_pos hi] at h
      have hn := IH _ _ _ _ _ _ _ h
      refine ⟨hn.1, ?_⟩
      intro p l e R s m args below meth c D K A ad0 k0 c0 w0 ad H locs ls B
      obtain ⟨C0, X, hS, hL, hst, hlen, hag, hcw⟩ := B
      obtain ⟨ob, q0, hob, hP, hD, hq0, hws⟩ := X.at (t := t) (n := n) (by rw [e1]; decide) hst.tail.tail.head
      have hce : ∀ M2 : XM, xce K ad M2 (t, n) = (ad t n, .inl (K 2, xkn t, .inr (.inl (M2.2.1 t n)))) := fun M2 => by
        unfold xce
        simp [e1]
      rw [hce] at hws
      refine va_last C0.1 C0.2.1 C0.2.2.2.2.2.2.2.2.1 hP hD hS q0 2 hws rfl (xin_ok hi) hd (fun H1 locs1 hP1 hD1 hS1 => ?_)
      have hs := xset (g := xce K ad (M.1, up3 M.2.1 t n i.toNatClampNeg x, M.2.2)) (e := (ad t n, .inl (K 2, xkn t, .inr (.inl (vp_updL (M.2.1 t n) i.toNatClampNeg x))))) hD hq0 (fun q hq => xce_congr rfl (up3_off hq) rfl) (by
        rw [hce]
        have hf : up3 M.2.1 t n i.toNatClampNeg x t n = vp_updL (M.2.1 t n) i.toNatClampNeg x := by funext j; rw [up3_on]; rfl
        show _ = ((ad t n, .inl (K 2, xkn t, .inr (.inl (up3 M.2.1 t n i.toNatClampNeg x t n)))) : Nat × va_E)
        rw [hf])
      rw [hs] at hP1 hD1
      have X1 := XRel.step (hA := C0.2.2.2.2.2.2.2.2.2.2.2.2.1) X (M1 := (M.1, up3 M.2.1 t n i.toNatClampNeg x, M.2.2)) hS hS1 hob hP1 hD1 rfl rfl X.2.1 (fun t1 n1 h5 => rfl)
      exact hn.2 p l e R s m args below meth c D K A ad0 k0 c0 w0 ad H1 locs1 ls ⟨C0, X1, hS1, hL, hst.tail.tail.tail, hlen, hag, hcw⟩
  · cases h
theorem sd_aastore {y pc : Nat} (hd : decode (xby y) pc = .ok (.aastore, 1)) : Snd y pc (xo_aast pc 1) := by
  intro f lv st M o M' h IH
  unfold xo_aast at h
  split at h
  · rename_i t' n' i t n r
    cases hb : (Nat.beq (xkt t) 4 && Nat.beq (xkt t') 0 && Nat.beq (xkc t') (xkc t)) with
    | false => rw [hb] at h; cases h
    | true =>
      rw [hb, cond_true] at h
      simp only [Bool.and_eq_true] at hb
      have e1 : xkt t = 4 := Nat.eq_of_beq_eq_true hb.1.1
      have e2 : xkt t' = 0 := Nat.eq_of_beq_eq_true hb.1.2
      have e3 : xkc t' = xkc t := Nat.eq_of_beq_eq_true hb.2
      by_cases hi : xin i (xkn t) = true
      case neg => rw [if_neg hi] at h; cases h
      rw [if_pos hi] at h
      have hn := IH _ _ _ _ _ _ _ h
      refine ⟨hn.1, ?_⟩
      intro p l e R s m args below meth c D K A ad0 k0 c0 w0 ad H locs ls B
      obtain ⟨C0, X, hS, hL, hst, hlen, hag, hcw⟩ := B
      obtain ⟨ob, q0, hob, hP, hD, hq0, hws⟩ := X.at (t := t) (n := n) (by rw [e1]; decide) hst.tail.tail.head
      obtain ⟨q1, hq1⟩ := List.getElem?_of_mem ((hob (t', n')).mpr ⟨by rw [e2]; decide, hst.head⟩)
      have hws1 : (ob.map (xce K ad M))[q1]? = some (xce K ad M (t', n')) := by rw [List.getElem?_map, hq1]; rfl
      have hce : ∀ M2 : XM, xce K ad M2 (t, n) = (ad t n, .inl (K (xka (xkc t)), xkn t, .inr (.inr (.inr (.inr (fun k => xrf ad (M2.2.2.1 t n k))))))) := fun M2 => by
        unfold xce
        simp [e1]
      have hce1 : xce K ad M (t', n') = (ad t' n', .inr (xkc t', (List.range (xkn t')).map (xfv ad M t' n'))) := by
        unfold xce
        simp [e2]
      rw [hce] at hws
      rw [hce1] at hws1
      obtain ⟨r0, hr0, hr1⟩ := xka_cl K (xkc t) (xkc_arr t e1)
      refine va_astq C0.1 C0.2.1 C0.2.2.2.2.2.2.2.2.1 hP hD hS q0 (xka (xkc t)) q1 (xkc t') (r := r0) hws hr1 hws1 (by rw [e3]; exact hr0) (xin_ok hi) hd (fun H1 locs1 hP1 hD1 hS1 => ?_)
      have hs := xset (g := xce K ad (M.1, M.2.1, up3 M.2.2.1 t n i.toNatClampNeg (some (t', n')), M.2.2.2)) (e := (ad t n, .inl (K (xka (xkc t)), xkn t, .inr (.inr (.inr (.inr (va_up (fun k => xrf ad (M.2.2.1 t n k)) i.toNatClampNeg (some (ad t' n'))))))))) hD hq0 (fun q hq => xce_congr rfl rfl (up3_off hq)) (by
        rw [hce]
        have hf : (fun k => xrf ad (up3 M.2.2.1 t n i.toNatClampNeg (some (t', n')) t n k)) = va_up (fun k => xrf ad (M.2.2.1 t n k)) i.toNatClampNeg (some (ad t' n')) := by
          funext j
          rw [up3_on]
          unfold va_up
          split <;> rfl
        show _ = ((ad t n, .inl (K (xka (xkc t)), xkn t, .inr (.inr (.inr (.inr (fun k => xrf ad (up3 M.2.2.1 t n i.toNatClampNeg (some (t', n')) t n k))))))) : Nat × va_E)
        rw [hf])
      rw [hs] at hP1 hD1
      have X1 := XRel.step (hA := C0.2.2.2.2.2.2.2.2.2.2.2.2.1) X (M1 := (M.1, M.2.1, up3 M.2.2.1 t n i.toNatClampNeg (some (t', n')), M.2.2.2)) hS hS1 hob hP1 hD1 rfl rfl (fun t1 n1 k1 q hq => by
        by_cases hz : (t1, n1) = (t, n)
        · cases hz
          simp only [up3_on] at hq
          split at hq
          · cases hq; exact hst.head
          · exact X.2.1 _ _ _ _ hq
        · have h7 := congrFun (up3_off (f := M.2.2.1) (k := i.toNatClampNeg) (v := some (t', n')) (q := (t1, n1)) hz) k1
          exact X.2.1 t1 n1 k1 q (h7.symm.trans hq)) (fun t1 n1 h5 => rfl)
      exact hn.2 p l e R s m args below meth c D K A ad0 k0 c0 w0 ad H1 locs1 ls ⟨C0, X1, hS1, hL, hst.tail.tail.tail, hlen, hag, hcw⟩
  · cases h
theorem sd_alen {y pc : Nat} (hd : decode (xby y) pc = .ok (.arraylength, 1)) : Snd y pc (xo_alen pc 1) := by
  intro f lv st M o M' h IH
  unfold xo_alen at h
  split at h
  · rename_i t n r
    cases hb5 : Nat.beq (xkt t) 5 with
    | true =>
      rw [hb5, cond_true] at h
      have e1 : xkt t = 5 := Nat.eq_of_beq_eq_true hb5
      have hn := IH _ _ _ _ _ _ _ h
      refine ⟨hn.1, ?_⟩
      intro p l e R s m args below meth c D K A ad0 k0 c0 w0 ad H locs ls B
      obtain ⟨C0, X, hS, hL, hst, hlen, hag, hcw⟩ := B
      have kk := hn.2 p l e R s m args below meth c D K A ad0 k0 c0 w0 ad H locs ls ⟨C0, X, hS, hL, XSt.cons trivial hst.tail, hlen, hag, hcw⟩
      obtain ⟨x1, x3⟩ := X.2.2 t n e1 hst.head
      exact va_slen (A := A) (H0 := H) C0.1 C0.2.1 x1 (Nat.lt_of_lt_of_le (Nat.lt_of_not_le (fun hz => x3 (C0.2.2.2.2.2.2.2.2.2.2.2.2.1 _ hz))) hS.1) x3 ⟨Nat.le_refl _, fun _ _ _ => rfl, hS.2.2⟩ hd kk
    | false =>
      rw [hb5, cond_false] at h
      cases hb : Nat.beq (xkt t) 4 with
      | false => rw [hb] at h; cases h
      | true =>
        rw [hb, cond_true] at h
        have e1 : xkt t = 4 := Nat.eq_of_beq_eq_true hb
        have hn := IH _ _ _ _ _ _ _ h
        refine ⟨hn.1, ?_⟩
        intro p l e R s m args below meth c D K A ad0 k0 c0 w0 ad H locs ls B
        obtain ⟨C0, X, hS, hL, hst, hlen, hag, hcw⟩ := B
        have kk := hn.2 p l e R s m args below meth c D K A ad0 k0 c0 w0 ad H locs ls ⟨C0, X, hS, hL, XSt.cons trivial hst.tail, hlen, hag, hcw⟩
        obtain ⟨ob, q0, hob, hP, hD, hq0, hws⟩ := X.at (t := t) (n := n) (by rw [e1]; decide) hst.head
        have hce : xce K ad M (t, n) = (ad t n, .inl (K (xka (xkc t)), xkn t, .inr (.inr (.inr (.inr (fun k => xrf ad (M.2.2.1 t n k))))))) := by
          unfold xce
          simp [e1]
        rw [hce] at hws
        obtain ⟨C, hC⟩ := xka_ok K (xkc t) (xkc_arr t e1)
        exact va_alen C0.1 C0.2.1 C0.2.2.2.2.2.2.2.2.1 hP q0 (xka (xkc t)) hws hC rfl hd kk
  · cases h
end
section
theorem XRel.moved {D : va_G} {K : Nat → ClassId} {s t : State} {A : Nat → Prop} {ad : Nat → Nat → Nat} {M : XM} {H : Heap} (X : XRel D K s A ad M H) (hW : s.vm.Alike t.vm) : XRel D K t A ad M H :=
  ⟨X.1, X.2.1, fun t1 n1 h5 hn => ⟨(X.2.2 t1 n1 h5 hn).1.moved hW, (X.2.2 t1 n1 h5 hn).2⟩⟩
theorem sd_ret {y pc : Nat} (hd : decode (xby y) pc = .ok (.return_, 1)) (hr : xrty y = none) : Snd y pc (fun _ st M => xo_ret y st M) := by
  intro f lv st M o M' h IH
  change xk (xrun f) y pc lv M (xo_ret y st M) = some (o, M') at h
  unfold xo_ret at h
  split at h
  · cases hb : Nat.beq (xrt y) 0 with
    | false => rw [hb] at h; cases h
    | true =>
      rw [hb, cond_true] at h
      cases h
      refine ⟨⟨Nat.le_refl _, Nat.le_refl _⟩, ?_⟩
      intro p l e R s m args below meth c D K A ad0 k0 c0 w0 ad H locs ls B
      obtain ⟨C, X, hS, hL, hst, hlen, hag, hcw⟩ := B
      exact W.vret C.1 C.2.1 (C.2.2.2.1.trans hr) (fun t ht hW => ⟨⟨ad, hag.1, hag.2.1, hag.2.2, by rw [ht]; exact X.moved hW.alike, fun v hv => (by cases hv), rfl⟩, hS.F ht⟩) hS.2.2 hd C.2.2.2.2.2.2.1
  · rename_i x
    cases hb : Nat.beq (xrt y) 1 with
    | true => exact absurd (xrt_ok1 y (Nat.eq_of_beq_eq_true hb)) (by rw [hr]; exact fun hz => by cases hz)
    | false =>
      rw [hb, cond_false] at h
      cases hb2 : Nat.beq (xrt y) 2 with
      | true => exact absurd (xrt_ok2 y (Nat.eq_of_beq_eq_true hb2)) (by rw [hr]; exact fun hz => by cases hz)
      | false => rw [hb2] at h; cases h
  · cases h
theorem sd_iret {y pc : Nat} (hd : decode (xby y) pc = .ok (.ireturn, 1)) (hr : xrty y = some .int) : Snd y pc (fun _ st M => xo_ret y st M) := by
  intro f lv st M o M' h IH
  change xk (xrun f) y pc lv M (xo_ret y st M) = some (o, M') at h
  unfold xo_ret at h
  split at h
  · cases hb : Nat.beq (xrt y) 0 with
    | true => exact absurd (xrt_ok0 y (Nat.eq_of_beq_eq_true hb)) (by rw [hr]; exact fun hz => by cases hz)
    | false => rw [hb] at h; cases h
  · rename_i x
    cases hb : Nat.beq (xrt y) 1 with
    | true =>
      rw [hb, cond_true] at h
      cases h
      refine ⟨⟨Nat.le_refl _, Nat.le_refl _⟩, ?_⟩
      intro p l e R s m args below meth c D K A ad0 k0 c0 w0 ad H locs ls B
      obtain ⟨C, X, hS, hL, hst, hlen, hag, hcw⟩ := B
      exact W.iret C.1 C.2.1 (C.2.2.2.1.trans hr) (fun t ht hW => ⟨⟨ad, hag.1, hag.2.1, hag.2.2, by rw [ht]; exact X.moved hW.alike, fun v hv => (by cases hv; trivial), rfl⟩, hS.F ht⟩) hS.2.2 hd C.2.2.2.2.2.2.1
    | false =>
      rw [hb, cond_false] at h
      cases hb2 : Nat.beq (xrt y) 2 with
      | true => exact absurd (xrt_ok2 y (Nat.eq_of_beq_eq_true hb2)) (by rw [hr]; exact fun hz => by cases hz)
      | false => rw [hb2] at h; cases h
  · cases h
theorem sd_zret {y pc : Nat} (hd : decode (xby y) pc = .ok (.ireturn, 1)) (hr : xrty y = some .boolean) : Snd y pc (fun _ st M => xo_ret y st M) := by
  intro f lv st M o M' h IH
  change xk (xrun f) y pc lv M (xo_ret y st M) = some (o, M') at h
  unfold xo_ret at h
  split at h
  · cases hb : Nat.beq (xrt y) 0 with
    | true => exact absurd (xrt_ok0 y (Nat.eq_of_beq_eq_true hb)) (by rw [hr]; exact fun hz => by cases hz)
    | false => rw [hb] at h; cases h
  · rename_i x
    cases hb : Nat.beq (xrt y) 1 with
    | true => exact absurd (xrt_ok1 y (Nat.eq_of_beq_eq_true hb)) (by rw [hr]; exact fun hz => by cases hz)
    | false =>
      rw [hb, cond_false] at h
      cases hb2 : Nat.beq (xrt y) 2 with
      | false => rw [hb2] at h; cases h
      | true =>
        rw [hb2, cond_true] at h
        by_cases hx : x = 0 ∨ x = 1
        case neg => rw [if_neg hx] at h; cases h
        rw [if_pos hx] at h
        cases h
        refine ⟨⟨Nat.le_refl _, Nat.le_refl _⟩, ?_⟩
        intro p l e R s m args below meth c D K A ad0 k0 c0 w0 ad H locs ls B
        obtain ⟨C, X, hS, hL, hst, hlen, hag, hcw⟩ := B
        exact W.zret C.1 C.2.1 (C.2.2.2.1.trans hr) (by rcases hx with rfl | rfl <;> rfl) (fun t ht hW => ⟨⟨ad, hag.1, hag.2.1, hag.2.2, by rw [ht]; exact X.moved hW.alike, fun v hv => (by cases hv; trivial), rfl⟩, hS.F ht⟩) hS.2.2 hd C.2.2.2.2.2.2.1
  · cases h
theorem sd_lookup {y pc : Nat} {dflt : Int} {ps : Array (Int × Int)} {len d : Nat} {qs : List (Int32 × Nat)} (hd : decode (xby y) pc = .ok (.lookupswitch dflt ps, len)) (hp : (ps.toList.zip (ps.toList.drop 1)).all (fun (a, next) => a.1 < next.1) = true) (hm : ∀ x : Int32, (pc : Int) + Op.lookupswitch.offset ps.toList dflt x.toInt = ((xsw x d qs : Nat) : Int)) : Snd y pc (xo_switch d qs) := by
  intro f lv st M o M' h IH
  unfold xo_switch at h
  split at h
  · exact XG.pure (IH _ _ _ _ _ _ _ h) (fun z => z.tail) (fun p l e R s m args below meth c D K A ad H locs ls cells slots Q C X hS hL hst hlen hc hs k => lv_lookup C.1 C.2.1 hd hp rfl (hm _) k)
  · cases h
theorem sd_table {y pc : Nat} {dflt lo hi : Int} {offs : Array Int} {len d : Nat} {qs : List (Int32 × Nat)} (hd : decode (xby y) pc = .ok (.tableswitch dflt lo hi offs, len)) (hm : ∀ x : Int32, (x.toInt < lo ∨ hi < x.toInt → (pc : Int) + dflt = ((xsw x d qs : Nat) : Int)) ∧ (¬ (x.toInt < lo ∨ hi < x.toInt) → ∃ off, offs[(x.toInt - lo).toNat]? = some off ∧ (pc : Int) + off = ((xsw x d qs : Nat) : Int))) : Snd y pc (xo_switch d qs) := by
  intro f lv st M o M' h IH
  unfold xo_switch at h
  split at h
  · rename_i x r
    by_cases hx : x.toInt < lo ∨ hi < x.toInt
    · exact XG.pure (IH _ _ _ _ _ _ _ h) (fun z => z.tail) (fun p l e R s m args below meth c D K A ad H locs ls cells slots Q C X hS hL hst hlen hc hs k => lv_tableOut C.1 C.2.1 hd hx ((hm x).1 hx) k)
    · obtain ⟨off, h1, h2⟩ := (hm x).2 hx
      exact XG.pure (IH _ _ _ _ _ _ _ h) (fun z => z.tail) (fun p l e R s m args below meth c D K A ad H locs ls cells slots Q C X hS hL hst hlen hc hs k => lv_tableIn C.1 C.2.1 hd (fun q => hx (Or.inl q)) (fun q => hx (Or.inr q)) h1 h2 k)
  · cases h
theorem xsum_cat {ad : Nat → Nat → Nat} {r : List XV} : ((r.map (tv ad)).map fun v => v.category).sum = xsum r := by
  induction r with
  | nil => rfl
  | cons v r ih => simp only [List.map_cons, List.sum_cons, xsum, ih, tv_cat]
theorem sd_objinit {y pc idx : Nat} (hd : decode (xby y) pc = .ok (.invokespecial idx, 3)) (h1 : Cond.methodLink (xown y) idx Lib.objectInit ∈ xall) (h2 : Cond.instanceMethod Lib.objectInit ∈ xall) (h3 : Cond.code Lib.objectInit ⟨#[0xb1]⟩ 1 none ∈ xall) (h4 : 1 ≤ xdp y ∧ 21 ≤ xlo y) : Snd y pc (xo_objinit pc 3) := by
  intro f lv st M o M' h IH
  unfold xo_objinit at h
  split at h
  · rename_i q r
    cases hb : Nat.ble (xsum r) 8 with
    | false => rw [hb] at h; cases h
    | true =>
      rw [hb, cond_true] at h
      have hr : xsum r ≤ 8 := Nat.le_of_ble_eq_true hb
      refine XG.pure (IH _ _ _ _ _ _ _ h) (fun z => z.tail) (fun p l e R s m args below meth c D K A ad H locs ls cells slots Q C X hS hL hst hlen hc hs k => ?_)
      have hR1 := C.2.2.2.2.2.2.2.2.2.2.1
      have hR2 := C.2.2.2.2.2.2.2.2.2.2.2.1
      refine W.objInit C.1 C.2.1 C.2.2.2.2.2.1 (C.2.2.2.2.1 _ h1) (C.2.2.2.2.1 _ h2) (C.2.2.2.2.1 _ h3) rfl (by rw [C.2.2.1, ← hlen]; exact hL.1) rfl hd (by omega) ?_ k
      rw [xsum_cat]
      show 2 * 0 + xsum r + 12 ≤ R.locals
      omega
  · cases h
theorem sd_abs {y pc idx : Nat} (hd : decode (xby y) pc = .ok (.invokestatic idx, 3)) (h1 : Cond.methodLink (xown y) idx Lib.Math.abs.name ∈ xall) (h2 : Cond.static Lib.Math.abs.name ∈ xall) (h3 : Cond.initialized "java/lang/Math" ∈ xall) (h4 : Cond.code Lib.Math.abs.name Lib.Math.abs.code 1 (some .int) ∈ xall) (h5 : 1 ≤ xdp y ∧ 21 ≤ xlo y) : Snd y pc (xo_abs pc 3) := by
  intro f lv st M o M' h IH
  unfold xo_abs at h
  split at h
  · rename_i x r
    cases hb : Nat.ble (xsum r) 8 with
    | false => rw [hb] at h; cases h
    | true =>
      rw [hb, cond_true] at h
      have hr : xsum r ≤ 8 := Nat.le_of_ble_eq_true hb
      refine XG.pure (IH _ _ _ _ _ _ _ h) (fun z => XSt.cons trivial z.tail) (fun p l e R s m args below meth c D K A ad H locs ls cells slots Q C X hS hL hst hlen hc hs k => ?_)
      have hR1 := C.2.2.2.2.2.2.2.2.2.2.1
      have hR2 := C.2.2.2.2.2.2.2.2.2.2.2.1
      refine va_mabs C.1 C.2.1 (by rw [C.2.2.1, ← hlen]; exact hL.1.symm) C.2.2.2.2.2.1 (C.2.2.2.2.1 _ h1) (C.2.2.2.2.1 _ h2) (C.2.2.2.2.1 _ h3) (C.2.2.2.2.1 _ h4) (by omega) ?_ hc hs hd k
      rw [xsum_cat]
      omega
  · cases h
theorem sd_max {y pc idx : Nat} (hd : decode (xby y) pc = .ok (.invokestatic idx, 3)) (h1 : Cond.methodLink (xown y) idx Lib.Math.max.name ∈ xall) (h2 : Cond.static Lib.Math.max.name ∈ xall) (h3 : Cond.initialized "java/lang/Math" ∈ xall) (h4 : Cond.code Lib.Math.max.name Lib.Math.max.code 2 (some .int) ∈ xall) (h5 : 1 ≤ xdp y ∧ 21 ≤ xlo y) : Snd y pc (xo_max pc 3) := by
  intro f lv st M o M' h IH
  unfold xo_max at h
  split at h
  · rename_i y1 x1 r
    cases hb : Nat.ble (xsum r) 8 with
    | false => rw [hb] at h; cases h
    | true =>
      rw [hb, cond_true] at h
      have hr : xsum r ≤ 8 := Nat.le_of_ble_eq_true hb
      refine XG.pure (IH _ _ _ _ _ _ _ h) (fun z => XSt.cons trivial z.tail.tail) (fun p l e R s m args below meth c D K A ad H locs ls cells slots Q C X hS hL hst hlen hc hs k => ?_)
      have hR1 := C.2.2.2.2.2.2.2.2.2.2.1
      have hR2 := C.2.2.2.2.2.2.2.2.2.2.2.1
      refine va_mmax C.1 C.2.1 (by rw [C.2.2.1, ← hlen]; exact hL.1.symm) C.2.2.2.2.2.1 (C.2.2.2.2.1 _ h1) (C.2.2.2.2.1 _ h2) (C.2.2.2.2.1 _ h3) (C.2.2.2.2.1 _ h4) (by omega) ?_ hc hs hd k
      rw [xsum_cat]
      omega
  · cases h
/-! making -/
def xad (ad : Nat → Nat → Nat) (t n a : Nat) : Nat → Nat → Nat := fun t' n' => if t' = t then (if n' = n then a else ad t' n') else ad t' n'
theorem xad_on {ad : Nat → Nat → Nat} {t n a : Nat} : xad ad t n a t n = a := by simp [xad]
theorem xad_off {ad : Nat → Nat → Nat} {t n a : Nat} {q : XR} (h : q ≠ (t, n)) : xad ad t n a q.1 q.2 = ad q.1 q.2 := by
  unfold xad
  by_cases h1 : q.1 = t
  · by_cases h2 : q.2 = n
    · exact absurd (Prod.ext h1 h2) h
    · simp [h2]
  · simp [h1]
theorem xad_old {ad : Nat → Nat → Nat} {k : Nat → Nat} {t a : Nat} {q : XR} (h : q.2 < k q.1) : xad ad t (k t) a q.1 q.2 = ad q.1 q.2 := xad_off (fun hz => by subst hz; exact Nat.lt_irrefl _ h)
theorem tv_old {ad : Nat → Nat → Nat} {k : Nat → Nat} {t a : Nat} {v : XV} (h : vok k v) : tv (xad ad t (k t) a) v = tv ad v := by
  rcases v with x | x | x
  · rfl
  · rfl
  · cases x with
    | none => rfl
    | some q => show Value.ref _ = Value.ref _; rw [xad_old (h : q.2 < k q.1)]
theorem vok_up {k : Nat → Nat} {t : Nat} {v : XV} (h : vok k v) : vok (up1 k t) v := by
  rcases v with x | x | x
  · trivial
  · trivial
  · cases x with
    | none => trivial
    | some q =>
      show q.2 < up1 k t q.1
      have h1 : q.2 < k q.1 := h
      unfold up1
      split
      · rename_i h2; rw [h2] at h1; omega
      · exact h1
theorem up2_off {α : Type} {f : Nat → Nat → Nat → α} {t n : Nat} {v : α} {q : XR} (h : q ≠ (t, n)) : up2 f t n v q.1 q.2 = f q.1 q.2 := by
  funext k'
  unfold up2
  by_cases h1 : q.1 = t
  · by_cases h2 : q.2 = n
    · exact absurd (Prod.ext h1 h2) h
    · simp [h2]
  · simp [h1]
theorem up2_on {α : Type} {f : Nat → Nat → Nat → α} {t n : Nat} {v : α} {k' : Nat} : up2 f t n v t n k' = v := by simp [up2]
theorem xce_grow {K : Nat → ClassId} {ad : Nat → Nat → Nat} {M : XM} {t a : Nat} {q : XR} (hq : q.2 < M.2.2.2.1 q.1) (hcl : ∀ (t n k : Nat) (q : XR), M.2.2.1 t n k = some q → q.2 < M.2.2.2.1 q.1) : xce K (xad ad t (M.2.2.2.1 t) a) (xmake t M) q = xce K ad M q := by
  have hne : q ≠ (t, M.2.2.2.1 t) := fun hz => by subst hz; exact Nat.lt_irrefl _ hq
  have h0 : xce K (xad ad t (M.2.2.2.1 t) a) (xmake t M) q = xce K (xad ad t (M.2.2.2.1 t) a) M q := xce_congr (up2_off hne) (up2_off hne) (up2_off hne)
  rw [h0]
  have hr : ∀ k, xrf (xad ad t (M.2.2.2.1 t) a) (M.2.2.1 q.1 q.2 k) = xrf ad (M.2.2.1 q.1 q.2 k) := by
    intro k
    cases hz : M.2.2.1 q.1 q.2 k with
    | none => rfl
    | some r =>
      show some (xad ad t (M.2.2.2.1 t) a r.1 r.2) = some (ad r.1 r.2)
      rw [xad_old (hcl _ _ _ _ hz)]
  have h4 : xfv (xad ad t (M.2.2.2.1 t) a) M q.1 q.2 = xfv ad M q.1 q.2 := by
    funext k
    unfold xfv
    rw [hr]
  have h5 : (fun k => xrf (xad ad t (M.2.2.2.1 t) a) (M.2.2.1 q.1 q.2 k)) = fun k => xrf ad (M.2.2.1 q.1 q.2 k) := funext hr
  unfold xce
  rw [h4, h5, xad_old hq]
theorem XLs.grow {ad : Nat → Nat → Nat} {k : Nat → Nat} {lv : XL} {ls : Array Slot} {t a : Nat} (h : XLs ad k lv ls) : XLs (xad ad t (k t) a) (up1 k t) lv ls :=
  ⟨h.1, h.2.1, fun i v hi => ⟨by rw [tv_old (h.2.2 i v hi).2]; exact (h.2.2 i v hi).1, vok_up (h.2.2 i v hi).2⟩⟩
theorem XSt.grow {k : Nat → Nat} {st : List XV} {t : Nat} (h : XSt k st) : XSt (up1 k t) st := fun v hv => vok_up (h v hv)
theorem map_old {ad : Nat → Nat → Nat} {k : Nat → Nat} {st : List XV} {t a : Nat} (h : XSt k st) : st.map (tv (xad ad t (k t) a)) = st.map (tv ad) := List.map_congr_left (fun v hv => tv_old (h v hv))
theorem up1_on {k : Nat → Nat} {t : Nat} : up1 k t t = k t + 1 := by simp [up1]
theorem up1_le {k : Nat → Nat} {t i : Nat} : k i ≤ up1 k t i := by
  unfold up1
  split
  · rename_i h; subst h; omega
  · exact Nat.le_refl _
theorem XRel.grow {D : va_G} {K : Nat → ClassId} {s : State} {A : Nat → Prop} {ad : Nat → Nat → Nat} {M : XM} {H H1 : Heap} {locs locs1 : List Loc} {t a : Nat} {e : va_E} (hA : ∀ q : Nat, s.heap.size ≤ q → A q) (X : XRel D K s A ad M H) (hS : va_S A s.heap H locs) (hS1 : va_S A s.heap H1 locs1) {ob : List XR} (hob : ∀ q : XR, q ∈ ob ↔ (xkt q.1 ≠ 5 ∧ q.2 < M.2.2.2.1 q.1)) (ht : xkt t ≠ 5)
    (hP1 : va_P D xcl (ob.map (xce K ad M) ++ [(a, e)]) H1) (hD1 : va_D A (ob.map (xce K ad M) ++ [(a, e)])) (he : xce K (xad ad t (M.2.2.2.1 t) a) (xmake t M) (t, M.2.2.2.1 t) = (a, e)) : XRel D K s A (xad ad t (M.2.2.2.1 t) a) (xmake t M) H1 := by
  have hmap : (ob ++ [(t, M.2.2.2.1 t)]).map (xce K (xad ad t (M.2.2.2.1 t) a) (xmake t M)) = ob.map (xce K ad M) ++ [(a, e)] := by
    rw [List.map_append, List.map_cons, he, List.map_nil]
    congr 1
    exact List.map_congr_left (fun q hq => xce_grow ((hob q).mp hq).2 X.2.1)
  refine ⟨⟨ob ++ [(t, M.2.2.2.1 t)], fun q => ?_, by rw [hmap]; exact hP1, by rw [hmap]; exact hD1⟩, fun t1 n1 k1 q hq => ?_, fun t1 n1 h5 hn => ?_⟩
  · rw [List.mem_append, List.mem_singleton, hob q]
    show _ ↔ (xkt q.1 ≠ 5 ∧ q.2 < up1 M.2.2.2.1 t q.1)
    unfold up1
    constructor
    · rintro (⟨h1, h2⟩ | h)
      · refine ⟨h1, ?_⟩
        split
        · rename_i h3; rw [h3] at h2; omega
        · exact h2
      · subst h
        exact ⟨ht, by simp⟩
    · rintro ⟨h1, h2⟩
      split at h2
      · rename_i h3
        by_cases h4 : q.2 = M.2.2.2.1 t
        · exact Or.inr (Prod.ext h3 h4)
        · exact Or.inl ⟨h1, by rw [h3]; omega⟩
      · exact Or.inl ⟨h1, h2⟩
  · have h1 : (xmake t M).2.2.1 t1 n1 k1 = up2 M.2.2.1 t (M.2.2.2.1 t) none t1 n1 k1 := rfl
    rw [h1] at hq
    have h2 : q.2 < M.2.2.2.1 q.1 := by
      by_cases hz : (t1, n1) = (t, M.2.2.2.1 t)
      · cases hz
        rw [up2_on] at hq
        cases hq
      · have h7 := congrFun (up2_off (f := M.2.2.1) (v := none) (q := (t1, n1)) hz) k1
        exact X.2.1 t1 n1 k1 q (h7.symm.trans hq)
    exact Nat.lt_of_lt_of_le h2 up1_le
  · have hne : t1 ≠ t := fun hz => by subst hz; exact ht h5
    have hn' : n1 < M.2.2.2.1 t1 := by
      have : n1 < up1 M.2.2.2.1 t t1 := hn
      unfold up1 at this
      rw [if_neg hne] at this
      exact this
    obtain ⟨x1, x3⟩ := X.2.2 t1 n1 h5 hn'
    have x2 : ad t1 n1 < s.heap.size := Nat.lt_of_not_le (fun hz => x3 (hA _ hz))
    have e1 : xad ad t (M.2.2.2.1 t) a t1 n1 = ad t1 n1 := xad_off (q := (t1, n1)) (fun hz => hne (congrArg Prod.fst hz))
    have e2 : (xmake t M).1 t1 n1 = M.1 t1 n1 := up2_off (q := (t1, n1)) (fun hz => hne (congrArg Prod.fst hz))
    rw [e1, e2]
    exact ⟨x1.kept ((hS1.2.1 _ x2 x3).trans (hS.2.1 _ x2 x3).symm), x3⟩
theorem sd_new {y pc index t ci : Nat} {C : String} {T : u_T} {N : Nat} (hd : decode (xby y) pc = .ok (.new index, 3)) (hci : xkc t = ci) (hcl : xcl[ci]? = some (C, T, N)) (hin : ∀ w ∈ u_ws C T N, w ∈ xall) (ty : Nat → FieldType) (hty : ∀ k, k < N → parseFieldDescriptor (T k).2.2.1 = some (ty k)) (h1 : Cond.classLink (xown y) index C ∈ xall) (h2 : Cond.instantiable C N ∈ xall) (h3 : Cond.initialized C ∈ xall)
    (hdef : ∀ j, j < N → defaultValue (ty j) = if xst ci j = 1 then .null else .int 0) : Snd y pc (xo_new t pc 3) := by
  intro f lv st M o M' h IH
  unfold xo_new at h
  cases hb : Nat.beq (xkt t) 0 with
  | false => rw [hb] at h; cases h
  | true =>
    rw [hb, cond_true] at h
    have e1 : xkt t = 0 := Nat.eq_of_beq_eq_true hb
    have e3 : xkn t = N := xkn_of e1 hci hcl
    have hn := IH _ _ _ _ _ _ _ h
    have hm := hn.1
    have hm1 : M.2.2.2.2.2.1 + 1 ≤ M'.2.2.2.2.2.1 := hm.1
    have hm2 : M.2.2.2.2.2.2 + xkn t ≤ M'.2.2.2.2.2.2 := hm.2
    refine ⟨⟨by omega, by omega⟩, ?_⟩
    intro p l e R s m args below meth c D K A ad0 k0 c0 w0 ad H locs ls B
    obtain ⟨C0, X, hS, hL, hst, hlen, hag, hcw⟩ := B
    have X0 := X
    obtain ⟨⟨ob, hob, hP, hD⟩, -, -⟩ := X0
    refine va_new (ci := ci) (fs := (List.range N).map (fun j => if xst ci j = 1 then Value.null else .int 0)) C0.1 C0.2.1 C0.2.2.2.2.1 hin ty hty C0.2.2.2.2.2.1 (C0.2.2.2.2.1 _ h1) (C0.2.2.2.2.1 _ h2) (C0.2.2.2.2.1 _ h3) C0.2.2.2.2.2.2.2.2.1 hP hD hS C0.2.2.2.2.2.2.2.2.2.2.2.2.1 hcl (fun j hj => by rw [hdef j hj]; simp [vp_V, hj]) (by omega) (by omega) hd (fun q H1 hP1 hD1 hS1 => ?_)
    have hce : xce K (xad ad t (M.2.2.2.1 t) q) (xmake t M) (t, M.2.2.2.1 t) = (q, .inr (ci, (List.range N).map (fun j => if xst ci j = 1 then Value.null else .int 0))) := by
      unfold xce
      simp only [e1, hci, e3, if_true, xad_on]
      congr 3
      apply List.map_congr_left
      intro j hj
      unfold xfv
      rw [hci]
      have g1 : (xmake t M).2.2.1 t (M.2.2.2.1 t) j = none := up2_on
      have g2 : (xmake t M).1 t (M.2.2.2.1 t) j = 0 := by show up2 M.1 t _ 0 t _ j = 0; simp [up2]
      rw [g1, g2]
      rfl
    have X1 := XRel.grow (hA := C0.2.2.2.2.2.2.2.2.2.2.2.2.1) X hS hS1 hob (by rw [e1]; decide) hP1 hD1 hce
    have k := hn.2 p l e R s m args below meth c D K A ad0 k0 c0 w0 (xad ad t (M.2.2.2.1 t) q) H1 locs ls ⟨C0, X1, hS1, hL.grow, XSt.cons (by show M.2.2.2.1 t < up1 M.2.2.2.1 t t; rw [up1_on]; omega) hst.grow, hlen, ⟨fun r hr => by rw [xad_old (Nat.lt_of_lt_of_le hr (hag.2.1 _))]; exact hag.1 r hr, fun i => Nat.le_trans (hag.2.1 i) up1_le, fun i hi => by show up1 M.2.2.2.1 t i = _; unfold up1; rw [if_neg (fun hz => by rw [hz, e1] at hi; cases hi)]; exact hag.2.2 i hi⟩, ⟨by show c0 ≤ M.2.2.2.2.2.1 + 1; omega, by show w0 ≤ M.2.2.2.2.2.2 + xkn t; omega, hcw.2.2.1, hcw.2.2.2⟩⟩
    have eq1 : (xmake t M).2.2.2.2.2.1 - c0 = M.2.2.2.2.2.1 - c0 + 1 := by show M.2.2.2.2.2.1 + 1 - c0 = _; omega
    have eq2 : (xmake t M).2.2.2.2.2.2 - w0 = M.2.2.2.2.2.2 - w0 + N := by show M.2.2.2.2.2.2 + xkn t - w0 = _; omega
    rw [eq1, eq2] at k
    have eq3 : (.inr (.inr (some (t, M.2.2.2.1 t))) :: st : List XV).map (tv (xad ad t (M.2.2.2.1 t) q)) = .ref q :: st.map (tv ad) := by
      rw [List.map_cons, map_old hst]
      show Value.ref (xad ad t _ q t _) :: _ = _
      rw [xad_on]
    rw [eq3] at k
    exact k
theorem xK_arr {D : va_G} {K : Nat → ClassId} {s : State} {cA : ClassId} {ty : FieldType} {j : Nat} (hK : va_K D xcl (xtys K) s) (hj : (xtys K)[j]? = some (K j, ty)) (h1 : va_K D xcl (xtys K ++ [(cA, ty)]) s) (hfc : ∀ c : ClassId, va_RA s c ty → s.vm.findClass ("[" ++ ty.toString) = some c) : cA = K j := by
  have g1 := hfc _ (hK.2 j _ hj).2
  have hl : (xtys K ++ [(cA, ty)])[(xtys K).length]? = some (cA, ty) := by simp
  have g2 := hfc _ (h1.2 _ _ hl).2
  exact Option.some.inj (g2.symm.trans g1)
theorem fc_int {s : State} : ∀ c : ClassId, va_RA s c .int → s.vm.findClass ("[" ++ FieldType.int.toString) = some c := fun _ h => h
theorem fc_bool {s : State} : ∀ c : ClassId, va_RA s c .boolean → s.vm.findClass ("[" ++ FieldType.boolean.toString) = some c := fun _ h => h
theorem fc_long {s : State} : ∀ c : ClassId, va_RA s c .long → s.vm.findClass ("[" ++ FieldType.long.toString) = some c := fun _ h => h
theorem fc_obj {s : State} {C : String} : ∀ c : ClassId, va_RA s c (.object C) → s.vm.findClass ("[" ++ (FieldType.object C).toString) = some c := fun _ h => by
  obtain ⟨kA, comp, -, -, -, h4⟩ := h
  exact h4
theorem sd_newi {y pc t : Nat} (hd : decode (xby y) pc = .ok (.newarray .int, 2)) (hw : Cond.arrayClass .int ∈ xall) (hbig : xkn t < 1000000) : Snd y pc (xo_newa 1 t pc 2) := by
  intro f lv st M o M' h IH
  unfold xo_newa at h
  split at h
  · rename_i x r
    cases hb : (Nat.beq (xkt t) 1 && decide (x = Int32.ofNat (xkn t))) with
    | false => rw [hb] at h; cases h
    | true =>
      rw [hb, cond_true] at h
      simp only [Bool.and_eq_true] at hb
      have e1 : xkt t = 1 := Nat.eq_of_beq_eq_true hb.1
      have e2 : x = nI (xkn t) := of_decide_eq_true hb.2
      have hn := IH _ _ _ _ _ _ _ h
      have hm := hn.1
      have hm1 : M.2.2.2.2.2.1 + 1 ≤ M'.2.2.2.2.2.1 := hm.1
      have hm2 : M.2.2.2.2.2.2 + xkn t ≤ M'.2.2.2.2.2.2 := hm.2
      refine ⟨⟨by omega, by omega⟩, ?_⟩
      intro p l e R s m args below meth c D K A ad0 k0 c0 w0 ad H locs ls B
      obtain ⟨C0, X, hS, hL, hst, hlen, hag, hcw⟩ := B
      have X0 := X
      obtain ⟨⟨ob, hob, hP, hD⟩, -, -⟩ := X0
      have hxn : xkn t < 2 ^ 31 := by omega
      refine va_newa (N' := xkn t) (a0 := (xkn t, .inl (fun _ => 0))) C0.1 C0.2.1 (C0.2.2.2.2.1 _ hw) (atype := .int) (ty := .int) rfl C0.2.2.2.2.2.2.2.2.1 hP hD hS C0.2.2.2.2.2.2.2.2.2.2.2.2.1 (fun cA => rfl) (by rw [e2]; exact nI_pos hxn) (by rw [e2]; exact nI_clamp hxn) (by simp only [componentBytes]; omega) (by omega) (by omega) hd (fun q cA H1 hK1 hP1 hD1 hS1 => ?_)
      have hcA : cA = K 0 := xK_arr C0.2.2.2.2.2.2.2.2.1 (j := 0) rfl hK1 fc_int
      subst hcA
      have hce : xce K (xad ad t (M.2.2.2.1 t) q) (xmake t M) (t, M.2.2.2.1 t) = (q, .inl (K 0, (xkn t, .inl (fun _ => 0)))) := by
        unfold xce
        simp only [e1, xad_on]
        have hf : (xmake t M).1 t (M.2.2.2.1 t) = fun _ => (0 : Int32) := by funext j; exact up2_on
        simp [hf]
      have X1 := XRel.grow (hA := C0.2.2.2.2.2.2.2.2.2.2.2.2.1) X hS hS1 hob (by rw [e1]; decide) hP1 hD1 hce
      have k := hn.2 p l e R s m args below meth c D K A ad0 k0 c0 w0 (xad ad t (M.2.2.2.1 t) q) H1 locs ls ⟨C0, X1, hS1, hL.grow, XSt.cons (by show M.2.2.2.1 t < up1 M.2.2.2.1 t t; rw [up1_on]; omega) hst.tail.grow, hlen, ⟨fun r hr => by rw [xad_old (Nat.lt_of_lt_of_le hr (hag.2.1 _))]; exact hag.1 r hr, fun i => Nat.le_trans (hag.2.1 i) up1_le, fun i hi => by show up1 M.2.2.2.1 t i = _; unfold up1; rw [if_neg (fun hz => by rw [hz, e1] at hi; cases hi)]; exact hag.2.2 i hi⟩, ⟨by show c0 ≤ M.2.2.2.2.2.1 + 1; omega, by show w0 ≤ M.2.2.2.2.2.2 + xkn t; omega, hcw.2.2.1, hcw.2.2.2⟩⟩
      have eq1 : (xmake t M).2.2.2.2.2.1 - c0 = M.2.2.2.2.2.1 - c0 + 1 := by show M.2.2.2.2.2.1 + 1 - c0 = _; omega
      have eq2 : (xmake t M).2.2.2.2.2.2 - w0 = M.2.2.2.2.2.2 - w0 + xkn t := by show M.2.2.2.2.2.2 + xkn t - w0 = _; omega
      rw [eq1, eq2] at k
      have eq3 : (.inr (.inr (some (t, M.2.2.2.1 t))) :: r : List XV).map (tv (xad ad t (M.2.2.2.1 t) q)) = .ref q :: r.map (tv ad) := by
        rw [List.map_cons, map_old hst.tail]
        show Value.ref (xad ad t _ q t _) :: _ = _
        rw [xad_on]
      rw [eq3] at k
      exact k
  · cases h
theorem sd_newz {y pc t : Nat} (hd : decode (xby y) pc = .ok (.newarray .boolean, 2)) (hw : Cond.arrayClass .boolean ∈ xall) (hbig : xkn t < 1000000) : Snd y pc (xo_newa 2 t pc 2) := by
  intro f lv st M o M' h IH
  unfold xo_newa at h
  split at h
  · rename_i x r
    cases hb : (Nat.beq (xkt t) 2 && decide (x = Int32.ofNat (xkn t))) with
    | false => rw [hb] at h; cases h
    | true =>
      rw [hb, cond_true] at h
      simp only [Bool.and_eq_true] at hb
      have e1 : xkt t = 2 := Nat.eq_of_beq_eq_true hb.1
      have e2 : x = nI (xkn t) := of_decide_eq_true hb.2
      have hn := IH _ _ _ _ _ _ _ h
      have hm := hn.1
      have hm1 : M.2.2.2.2.2.1 + 1 ≤ M'.2.2.2.2.2.1 := hm.1
      have hm2 : M.2.2.2.2.2.2 + xkn t ≤ M'.2.2.2.2.2.2 := hm.2
      refine ⟨⟨by omega, by omega⟩, ?_⟩
      intro p l e R s m args below meth c D K A ad0 k0 c0 w0 ad H locs ls B
      obtain ⟨C0, X, hS, hL, hst, hlen, hag, hcw⟩ := B
      have X0 := X
      obtain ⟨⟨ob, hob, hP, hD⟩, -, -⟩ := X0
      have hxn : xkn t < 2 ^ 31 := by omega
      refine va_newa (N' := xkn t) (a0 := (xkn t, .inl (fun _ => 0))) C0.1 C0.2.1 (C0.2.2.2.2.1 _ hw) (atype := .boolean) (ty := .boolean) rfl C0.2.2.2.2.2.2.2.2.1 hP hD hS C0.2.2.2.2.2.2.2.2.2.2.2.2.1 (fun cA => rfl) (by rw [e2]; exact nI_pos hxn) (by rw [e2]; exact nI_clamp hxn) (by simp only [componentBytes]; omega) (by omega) (by omega) hd (fun q cA H1 hK1 hP1 hD1 hS1 => ?_)
      have hcA : cA = K 1 := xK_arr C0.2.2.2.2.2.2.2.2.1 (j := 1) rfl hK1 fc_bool
      subst hcA
      have hce : xce K (xad ad t (M.2.2.2.1 t) q) (xmake t M) (t, M.2.2.2.1 t) = (q, .inl (K 1, (xkn t, .inl (fun _ => 0)))) := by
        unfold xce
        simp only [e1, xad_on]
        have hf : (xmake t M).1 t (M.2.2.2.1 t) = fun _ => (0 : Int32) := by funext j; exact up2_on
        simp [hf]
      have X1 := XRel.grow (hA := C0.2.2.2.2.2.2.2.2.2.2.2.2.1) X hS hS1 hob (by rw [e1]; decide) hP1 hD1 hce
      have k := hn.2 p l e R s m args below meth c D K A ad0 k0 c0 w0 (xad ad t (M.2.2.2.1 t) q) H1 locs ls ⟨C0, X1, hS1, hL.grow, XSt.cons (by show M.2.2.2.1 t < up1 M.2.2.2.1 t t; rw [up1_on]; omega) hst.tail.grow, hlen, ⟨fun r hr => by rw [xad_old (Nat.lt_of_lt_of_le hr (hag.2.1 _))]; exact hag.1 r hr, fun i => Nat.le_trans (hag.2.1 i) up1_le, fun i hi => by show up1 M.2.2.2.1 t i = _; unfold up1; rw [if_neg (fun hz => by rw [hz, e1] at hi; cases hi)]; exact hag.2.2 i hi⟩, ⟨by show c0 ≤ M.2.2.2.2.2.1 + 1; omega, by show w0 ≤ M.2.2.2.2.2.2 + xkn t; omega, hcw.2.2.1, hcw.2.2.2⟩⟩
      have eq1 : (xmake t M).2.2.2.2.2.1 - c0 = M.2.2.2.2.2.1 - c0 + 1 := by show M.2.2.2.2.2.1 + 1 - c0 = _; omega
      have eq2 : (xmake t M).2.2.2.2.2.2 - w0 = M.2.2.2.2.2.2 - w0 + xkn t := by show M.2.2.2.2.2.2 + xkn t - w0 = _; omega
      rw [eq1, eq2] at k
      have eq3 : (.inr (.inr (some (t, M.2.2.2.1 t))) :: r : List XV).map (tv (xad ad t (M.2.2.2.1 t) q)) = .ref q :: r.map (tv ad) := by
        rw [List.map_cons, map_old hst.tail]
        show Value.ref (xad ad t _ q t _) :: _ = _
        rw [xad_on]
      rw [eq3] at k
      exact k
  · cases h
theorem sd_newl {y pc t : Nat} (hd : decode (xby y) pc = .ok (.newarray .long, 2)) (hw : Cond.arrayClass .long ∈ xall) (hbig : xkn t < 1000000) : Snd y pc (xo_newa 3 t pc 2) := by
  intro f lv st M o M' h IH
  unfold xo_newa at h
  split at h
  · rename_i x r
    cases hb : (Nat.beq (xkt t) 3 && decide (x = Int32.ofNat (xkn t))) with
    | false => rw [hb] at h; cases h
    | true =>
      rw [hb, cond_true] at h
      simp only [Bool.and_eq_true] at hb
      have e1 : xkt t = 3 := Nat.eq_of_beq_eq_true hb.1
      have e2 : x = nI (xkn t) := of_decide_eq_true hb.2
      have hn := IH _ _ _ _ _ _ _ h
      have hm := hn.1
      have hm1 : M.2.2.2.2.2.1 + 1 ≤ M'.2.2.2.2.2.1 := hm.1
      have hm2 : M.2.2.2.2.2.2 + xkn t ≤ M'.2.2.2.2.2.2 := hm.2
      refine ⟨⟨by omega, by omega⟩, ?_⟩
      intro p l e R s m args below meth c D K A ad0 k0 c0 w0 ad H locs ls B
      obtain ⟨C0, X, hS, hL, hst, hlen, hag, hcw⟩ := B
      have X0 := X
      obtain ⟨⟨ob, hob, hP, hD⟩, -, -⟩ := X0
      have hxn : xkn t < 2 ^ 31 := by omega
      refine va_newa (N' := xkn t) (a0 := (xkn t, .inr (.inl (fun _ => 0)))) C0.1 C0.2.1 (C0.2.2.2.2.1 _ hw) (atype := .long) (ty := .long) rfl C0.2.2.2.2.2.2.2.2.1 hP hD hS C0.2.2.2.2.2.2.2.2.2.2.2.2.1 (fun cA => rfl) (by rw [e2]; exact nI_pos hxn) (by rw [e2]; exact nI_clamp hxn) (by simp only [componentBytes]; omega) (by omega) (by omega) hd (fun q cA H1 hK1 hP1 hD1 hS1 => ?_)
      have hcA : cA = K 2 := xK_arr C0.2.2.2.2.2.2.2.2.1 (j := 2) rfl hK1 fc_long
      subst hcA
      have hce : xce K (xad ad t (M.2.2.2.1 t) q) (xmake t M) (t, M.2.2.2.1 t) = (q, .inl (K 2, (xkn t, .inr (.inl (fun _ => 0))))) := by
        unfold xce
        simp only [e1, xad_on]
        have hf : (xmake t M).2.1 t (M.2.2.2.1 t) = fun _ => (0 : Int64) := by funext j; exact up2_on
        simp [hf]
      have X1 := XRel.grow (hA := C0.2.2.2.2.2.2.2.2.2.2.2.2.1) X hS hS1 hob (by rw [e1]; decide) hP1 hD1 hce
      have k := hn.2 p l e R s m args below meth c D K A ad0 k0 c0 w0 (xad ad t (M.2.2.2.1 t) q) H1 locs ls ⟨C0, X1, hS1, hL.grow, XSt.cons (by show M.2.2.2.1 t < up1 M.2.2.2.1 t t; rw [up1_on]; omega) hst.tail.grow, hlen, ⟨fun r hr => by rw [xad_old (Nat.lt_of_lt_of_le hr (hag.2.1 _))]; exact hag.1 r hr, fun i => Nat.le_trans (hag.2.1 i) up1_le, fun i hi => by show up1 M.2.2.2.1 t i = _; unfold up1; rw [if_neg (fun hz => by rw [hz, e1] at hi; cases hi)]; exact hag.2.2 i hi⟩, ⟨by show c0 ≤ M.2.2.2.2.2.1 + 1; omega, by show w0 ≤ M.2.2.2.2.2.2 + xkn t; omega, hcw.2.2.1, hcw.2.2.2⟩⟩
      have eq1 : (xmake t M).2.2.2.2.2.1 - c0 = M.2.2.2.2.2.1 - c0 + 1 := by show M.2.2.2.2.2.1 + 1 - c0 = _; omega
      have eq2 : (xmake t M).2.2.2.2.2.2 - w0 = M.2.2.2.2.2.2 - w0 + xkn t := by show M.2.2.2.2.2.2 + xkn t - w0 = _; omega
      rw [eq1, eq2] at k
      have eq3 : (.inr (.inr (some (t, M.2.2.2.1 t))) :: r : List XV).map (tv (xad ad t (M.2.2.2.1 t) q)) = .ref q :: r.map (tv ad) := by
        rw [List.map_cons, map_old hst.tail]
        show Value.ref (xad ad t _ q t _) :: _ = _
        rw [xad_on]
      rw [eq3] at k
      exact k
  · cases h
theorem sd_newq {y pc t index j : Nat} {C : String} (hd : decode (xby y) pc = .ok (.anewarray index, 3)) (hw : Cond.classLink (xown y) index C ∈ xall) (ho : Cond.arrayOver (.object C) ∈ xnw) (hj : xka (xkc t) = j) (hC : ∀ K : Nat → ClassId, (xtys K)[j]? = some (K j, .object C)) (hbig : xkn t < 1000000) : Snd y pc (xo_newa 4 t pc 3) := by
  intro f lv st M o M' h IH
  unfold xo_newa at h
  split at h
  · rename_i x r
    cases hb : (Nat.beq (xkt t) 4 && decide (x = Int32.ofNat (xkn t))) with
    | false => rw [hb] at h; cases h
    | true =>
      rw [hb, cond_true] at h
      simp only [Bool.and_eq_true] at hb
      have e1 : xkt t = 4 := Nat.eq_of_beq_eq_true hb.1
      have e2 : x = nI (xkn t) := of_decide_eq_true hb.2
      have hn := IH _ _ _ _ _ _ _ h
      have hm := hn.1
      have hm1 : M.2.2.2.2.2.1 + 1 ≤ M'.2.2.2.2.2.1 := hm.1
      have hm2 : M.2.2.2.2.2.2 + xkn t ≤ M'.2.2.2.2.2.2 := hm.2
      refine ⟨⟨by omega, by omega⟩, ?_⟩
      intro p l e R s m args below meth c D K A ad0 k0 c0 w0 ad H locs ls B
      obtain ⟨C0, X, hS, hL, hst, hlen, hag, hcw⟩ := B
      have X0 := X
      obtain ⟨⟨ob, hob, hP, hD⟩, -, -⟩ := X0
      have hxn : xkn t < 2 ^ 31 := by omega
      refine va_newq (N' := xkn t) C0.1 C0.2.1 C0.2.2.2.2.2.1 (C0.2.2.2.2.1 _ hw) (C0.2.2.2.2.2.2.2.2.2.1 _ ho) C0.2.2.2.2.2.2.2.2.1 hP hD hS C0.2.2.2.2.2.2.2.2.2.2.2.2.1 (by rw [e2]; exact nI_pos hxn) (by rw [e2]; exact nI_clamp hxn) (by omega) (by omega) (by omega) hd (fun q cA H1 hK1 hP1 hD1 hS1 => ?_)
      have hcA : cA = K j := xK_arr C0.2.2.2.2.2.2.2.2.1 (hC K) hK1 fc_obj
      subst hcA
      have hce : xce K (xad ad t (M.2.2.2.1 t) q) (xmake t M) (t, M.2.2.2.1 t) = (q, .inl (K j, xkn t, .inr (.inr (.inr (.inr (fun _ => none)))))) := by
        unfold xce
        simp only [e1, xad_on, hj]
        have hf : (fun k => xrf (xad ad t (M.2.2.2.1 t) q) ((xmake t M).2.2.1 t (M.2.2.2.1 t) k)) = fun _ => none := by funext j; show xrf _ (up2 M.2.2.1 t (M.2.2.2.1 t) none t (M.2.2.2.1 t) j) = none; rw [up2_on]; rfl
        simp [hf]
      have X1 := XRel.grow (hA := C0.2.2.2.2.2.2.2.2.2.2.2.2.1) X hS hS1 hob (by rw [e1]; decide) hP1 hD1 hce
      have k := hn.2 p l e R s m args below meth c D K A ad0 k0 c0 w0 (xad ad t (M.2.2.2.1 t) q) H1 locs ls ⟨C0, X1, hS1, hL.grow, XSt.cons (by show M.2.2.2.1 t < up1 M.2.2.2.1 t t; rw [up1_on]; omega) hst.tail.grow, hlen, ⟨fun r hr => by rw [xad_old (Nat.lt_of_lt_of_le hr (hag.2.1 _))]; exact hag.1 r hr, fun i => Nat.le_trans (hag.2.1 i) up1_le, fun i hi => by show up1 M.2.2.2.1 t i = _; unfold up1; rw [if_neg (fun hz => by rw [hz, e1] at hi; cases hi)]; exact hag.2.2 i hi⟩, ⟨by show c0 ≤ M.2.2.2.2.2.1 + 1; omega, by show w0 ≤ M.2.2.2.2.2.2 + xkn t; omega, hcw.2.2.1, hcw.2.2.2⟩⟩
      have eq1 : (xmake t M).2.2.2.2.2.1 - c0 = M.2.2.2.2.2.1 - c0 + 1 := by show M.2.2.2.2.2.1 + 1 - c0 = _; omega
      have eq2 : (xmake t M).2.2.2.2.2.2 - w0 = M.2.2.2.2.2.2 - w0 + xkn t := by show M.2.2.2.2.2.2 + xkn t - w0 = _; omega
      rw [eq1, eq2] at k
      have eq3 : (.inr (.inr (some (t, M.2.2.2.1 t))) :: r : List XV).map (tv (xad ad t (M.2.2.2.1 t) q)) = .ref q :: r.map (tv ad) := by
        rw [List.map_cons, map_old hst.tail]
        show Value.ref (xad ad t _ q t _) :: _ = _
        rw [xad_on]
      rw [eq3] at k
      exact k
  · cases h
end
section
theorem xent_len : ∀ (as : List XV) (n : Nat), xsum as ≤ n → (xent n as).length = n
  | [], n, _ => by simp [xent]
  | .inl x :: r, n, h => by
    have h1 : 1 + xsum r ≤ n := h
    show (some (.inl x) :: xent (n - 1) r : XL).length = n
    rw [List.length_cons, xent_len r (n - 1) (by omega)]
    omega
  | .inr (.inl x) :: r, n, h => by
    have h1 : 2 + xsum r ≤ n := h
    show (some (.inr (.inl x)) :: none :: xent (n - 2) r : XL).length = n
    rw [List.length_cons, List.length_cons, xent_len r (n - 2) (by omega)]
    omega
  | .inr (.inr x) :: r, n, h => by
    have h1 : 1 + xsum r ≤ n := h
    show (some (.inr (.inr x)) :: xent (n - 1) r : XL).length = n
    rw [List.length_cons, xent_len r (n - 1) (by omega)]
    omega
theorem xent_get (ad : Nat → Nat → Nat) : ∀ (as : List XV) (n off i : Nat) (v : XV), (xent n as)[i]? = some (some v) → (off + i, tv ad v) ∈ lv_args off (as.map (tv ad)) ∧ v ∈ as
  | [], n, off, i, v, h => by
    unfold xent at h
    rw [List.getElem?_replicate] at h
    split at h <;> cases h
  | .inl x :: r, n, off, 0, v, h => by
    cases h
    exact ⟨List.mem_cons_self, List.mem_cons_self⟩
  | .inl x :: r, n, off, i + 1, v, h => by
    have h1 : (xent (n - 1) r)[i]? = some (some v) := h
    obtain ⟨g1, g2⟩ := xent_get ad r (n - 1) (off + 1) i v h1
    refine ⟨List.mem_cons_of_mem _ ?_, List.mem_cons_of_mem _ g2⟩
    have e : off + (i + 1) = off + 1 + i := by omega
    rw [e]
    exact g1
  | .inr (.inl x) :: r, n, off, 0, v, h => by
    cases h
    exact ⟨List.mem_cons_self, List.mem_cons_self⟩
  | .inr (.inl x) :: r, n, off, 1, v, h => by
    have h1 : (some (none : Option XV)) = some (some v) := h
    cases h1
  | .inr (.inl x) :: r, n, off, i + 2, v, h => by
    have h1 : (xent (n - 2) r)[i]? = some (some v) := h
    obtain ⟨g1, g2⟩ := xent_get ad r (n - 2) (off + 2) i v h1
    refine ⟨List.mem_cons_of_mem _ ?_, List.mem_cons_of_mem _ g2⟩
    have e : off + (i + 2) = off + 2 + i := by omega
    rw [e]
    exact g1
  | .inr (.inr x) :: r, n, off, 0, v, h => by
    cases h
    exact ⟨List.mem_cons_self, List.mem_cons_self⟩
  | .inr (.inr x) :: r, n, off, i + 1, v, h => by
    have h1 : (xent (n - 1) r)[i]? = some (some v) := h
    obtain ⟨g1, g2⟩ := xent_get ad r (n - 1) (off + 1) i v h1
    refine ⟨List.mem_cons_of_mem _ ?_, List.mem_cons_of_mem _ g2⟩
    have e : off + (i + 1) = off + 1 + i := by omega
    have e2 : (tv ad (.inr (.inr x))).category = 1 := by rw [tv_cat]; rfl
    rw [e, e2]
    exact g1
theorem sl_len {ad : Nat → Nat → Nat} : ∀ (as : List XV), (lg_sl (as.map (tv ad))).length = xsum as
  | [] => rfl
  | v :: r => by
    have ih := sl_len (ad := ad) r
    unfold lg_sl at ih ⊢
    rw [List.map_cons, List.flatMap_cons, List.length_append, ih]
    show _ = xcat v + xsum r
    rw [← tv_cat (ad := ad)]
    rcases lv_cat (tv ad v) with h | h
    · simp [h]
    · simp [h]
/-- which cells a call may change: the world's, and those that it makes -/
def XA (ad : Nat → Nat → Nat) (M : XM) (sz : Nat) : Nat → Prop := fun q => (∃ t n, xkt t ≠ 5 ∧ n < M.2.2.2.1 t ∧ q = ad t n) ∨ sz ≤ q
theorem xA_stat {D : va_G} {K : Nat → ClassId} {U : State} {A : Nat → Prop} {ad : Nat → Nat → Nat} {M : XM} {H : Heap} (X : XRel D K U A ad M H) {q : Nat} {cell : Cell} (hq : XA ad M H.size q) (hc : H[q]? = some cell) : cell.vm.isStatics = false := by
  rcases hq with ⟨t, n, h5, hn, rfl⟩ | hq
  · obtain ⟨ob, k, -, hP, -, -, hk⟩ := X.at h5 hn
    have h1 := hP k _ hk
    unfold xce at h1
    split at h1
    · obtain ⟨r, h2, cell', h3, -, h4, -⟩ := h1
      cases Option.some.inj (h3.symm.trans hc)
      rw [h4]
      rfl
    · have key : ∀ (cA : ClassId) (x : vp_A), H[ad t n]? = some (vp_cell cA x) → cell.vm.isStatics = false := by
        intro cA x hx
        cases Option.some.inj (hx.symm.trans hc)
        obtain ⟨n, f | f | f | f | f⟩ := x <;> rfl
      split at h1
      · exact key _ _ h1
      · split at h1
        · exact key _ _ h1
        · split at h1
          · exact key _ _ h1
          · exact key _ _ h1
  · have := (Array.getElem?_eq_some_iff.mp hc).1
    omega
theorem XRel.self {D : va_G} {K : Nat → ClassId} {U : State} {A : Nat → Prop} {ad : Nat → Nat → Nat} {M : XM} {H : Heap} {sz : Nat} (X : XRel D K U A ad M H) (hsz : H.size = sz) (hA : ∀ q : Nat, sz ≤ q → A q) : XRel D K U (XA ad M sz) ad M H := by
  obtain ⟨⟨ob, hob, hP, hD⟩, hc, hs⟩ := X
  refine ⟨⟨ob, hob, hP, hD.1, fun k q hq => ?_⟩, hc, fun t n h5 hn => ⟨(hs t n h5 hn).1, fun hz => ?_⟩⟩
  · rw [List.getElem?_map] at hq
    cases ho : ob[k]? with
    | none => rw [ho] at hq; cases hq
    | some r =>
      rw [ho] at hq
      cases hq
      have h1 := (hob r).mp (List.mem_of_getElem? ho)
      exact Or.inl ⟨r.1, r.2, h1.1, h1.2, rfl⟩
  · rcases hz with ⟨t', n', h5', hn', e⟩ | hz
    · obtain ⟨k, hk⟩ := List.getElem?_of_mem ((hob (t', n')).mpr ⟨h5', hn'⟩)
      have h1 := hD.2 k _ (by rw [List.getElem?_map, hk]; rfl)
      have h2 : A (ad t' n') := h1
      rw [← e] at h2
      exact (hs t n h5 hn).2 h2
    · exact (hs t n h5 hn).2 (hA _ hz)
theorem xA_sub {D : va_G} {K : Nat → ClassId} {U : State} {A : Nat → Prop} {ad : Nat → Nat → Nat} {M : XM} {H : Heap} {sz : Nat} (X : XRel D K U A ad M H) (hA : ∀ q : Nat, sz ≤ q → A q) {q : Nat} (hq : XA ad M sz q) : A q := by
  rcases hq with ⟨t, n, h5, hn, rfl⟩ | hq
  · obtain ⟨ob, k, -, -, hD, -, hk⟩ := X.at h5 hn
    exact hD.2 k _ hk
  · exact hA q hq
/-- what a method called in the memory M needs of the state -/
def XPre (D : va_G) (K : Nat → ClassId) (ad : Nat → Nat → Nat) (M : XM) (sz : Nat) (U : State) : Prop := U.heap.size = sz ∧ XRel D K U (XA ad M sz) ad M U.heap ∧ va_K D xcl (xtys K) U ∧ ∀ w ∈ xnw, va_Nw w U
theorem xmet {z : Nat} {as : List XV} {M M1 : XM} {rv : Option XV} {l : Launch} {D : va_G} {K : Nat → ClassId} {ad : Nat → Nat → Nat} {sz : Nat} (hG : XG z 0 (xent (xml z) as) [] M (.inl rv) M1) (hp : plainName (xyn z).cls = true) (hfit : xsum as ≤ xml z) (hok : XSt M.2.2.2.1 as) :
    Met l (xyn z) (xws z) ({ frames := xdp z, cells := M1.2.2.2.2.2.1 - M.2.2.2.2.2.1, slots := M1.2.2.2.2.2.2 - M.2.2.2.2.2.2, locals := xlo z }) (va_Pc (as.map (tv ad)) (XPre D K ad M sz)) (XQ D K (XA ad M sz) ad M.2.2.2.1 rv M1) (M1.2.2.2.2.2.1 - M.2.2.2.2.2.1) (M1.2.2.2.2.2.2 - M.2.2.2.2.2.2) (XA ad M sz) := by
  refine Met.ofW (cc := xby z) (maxL := xml z) (ret := xrty z) hp rfl ?_
  intro p e s m args below meth c s₁ B hml hv
  obtain ⟨rfl, hsz, X, hK, hN⟩ := hv
  subst hsz
  have hA : ∀ q : Nat, s.heap.size ≤ q → XA ad M s.heap.size q := fun q hq => Or.inr hq
  have hts : ∀ w ∈ xall, w.before (as.map (tv ad)).toArray s = true := fun w hw => atoms_spec (ws := xws z) B.pre w (List.mem_cons_of_mem _ hw)
  have hown : s.vm.findClass (xyn z).cls = some m.cls := findClass_of_methodNamed B.named
  have hin : xini z = true → meth.name = "<init>" := fun hz => ((name_of_methodNamed B.named B.method).1).trans (of_decide_eq_true hz)
  have hl := lv_entry (as.map (tv ad)) (n := xml z) (by rw [sl_len]; exact hfit)
  rw [lg_entry_eq]
  generalize (lg_sl (as.map (tv ad)) ++ List.replicate (xml z - (lg_sl (as.map (tv ad))).length) Slot.unset).toArray = ls at hl ⊢
  have hL : XLs ad M.2.2.2.1 (xent (xml z) as) ls := by
    refine ⟨by rw [xent_len _ _ hfit]; exact hl.1, hl.2.1, fun i v hi => ?_⟩
    obtain ⟨g1, g2⟩ := xent_get ad as (xml z) 0 i v hi
    rw [Nat.zero_add] at g1
    exact ⟨hl.2.2 _ g1, hok v g2⟩
  have k := hG.2 p l e (headSpec (xws z) { frames := xdp z, cells := M1.2.2.2.2.2.1 - M.2.2.2.2.2.1, slots := M1.2.2.2.2.2.2 - M.2.2.2.2.2.2, locals := xlo z }).room s m (as.map (tv ad)).toArray below meth c D K (XA ad M s.heap.size) ad M.2.2.2.1 M.2.2.2.2.2.1 M.2.2.2.2.2.2 ad s.heap [] ls
    ⟨⟨B.exec, B.bytes, hml, B.returns, hts, hown, B.notSynchronized, hin, hK, hN, Nat.le_refl _, Nat.le_refl _, hA, fun q cell h1 h2 => xA_stat X h1 h2⟩, X, va_S.rf, hL, fun v hv => (by cases hv), xent_len _ _ hfit, ⟨fun _ _ => rfl, fun _ => Nat.le_refl _, fun _ _ => rfl⟩, ⟨Nat.le_refl _, Nat.le_refl _, Nat.le_refl _, Nat.le_refl _⟩⟩
  rw [Nat.sub_self, Nat.sub_self] at k
  exact k
theorem tv_ag {ad ad' : Nat → Nat → Nat} {k : Nat → Nat} {v : XV} (h : ∀ q : XR, q.2 < k q.1 → ad' q.1 q.2 = ad q.1 q.2) (hv : vok k v) : tv ad' v = tv ad v := by
  rcases v with x | x | x
  · rfl
  · rfl
  · cases x with
    | none => rfl
    | some q => show Value.ref _ = Value.ref _; rw [h q hv]
theorem vok_mono {k k' : Nat → Nat} {v : XV} (h : ∀ i, k i ≤ k' i) (hv : vok k v) : vok k' v := by
  rcases v with x | x | x
  · trivial
  · trivial
  · cases x with
    | none => trivial
    | some q => exact Nat.lt_of_lt_of_le hv (h _)
section XGO
variable {p : Program} {l : Launch} {e : Env} {R : Room} {s : State} {m : MethodId} {args : Array Value} {below : List Frame} {meth : Method} {c : Code} {H : Heap} {locs : List Loc} {cells slots : Nat} {Q : State → Prop}
theorem x_go {D : va_G} {K : Nat → ClassId} {A : Nat → Prop} {ad : Nat → Nat → Nat} {M : XM} {pc : Nat} {ls : Array Slot} {st0 rest : List Value} {mc ms : Nat} {a : Array Value} {rv : Option XV} {M1 : XM} (hr : va_Run p l e R s m args below meth c H locs cells slots mc ms (F0 m pc ls st0) rest (XQ D K (XA ad M H.size) ad M.2.2.2.1 rv M1 a) (XA ad M H.size)) (hS : va_S A s.heap H locs) (X0 : XRel D K s A ad M H) (hA : ∀ q : Nat, s.heap.size ≤ q → A q)
    (kk : ∀ (ad' : Nat → Nat → Nat) (H1 : Heap) (locs1 : List Loc), (∀ q : XR, q.2 < M.2.2.2.1 q.1 → ad' q.1 q.2 = ad q.1 q.2) → (∀ i, M.2.2.2.1 i ≤ M1.2.2.2.1 i) → (∀ i, xkt i = 5 → M1.2.2.2.1 i = M.2.2.2.1 i) → XRel D K s A ad' M1 H1 → (∀ v, rv = some v → vok M1.2.2.2.1 v) → va_S A s.heap H1 locs1 → W p l e R s m args below meth c H1 locs1 (cells + mc) (slots + ms) Q (F0 m (pc + 3) ls ((rv.map (tv ad')).toList ++ rest))) : W p l e R s m args below meth c H locs cells slots Q (F0 m pc ls st0) := by
  intro T hT X
  obtain ⟨v, st₀, t, T', L, h0, X', hL, e1, e2, ⟨⟨ad', g1, g2, g6, g3, g4, g5⟩, hz, hk⟩, st⟩ := hr T hT X
  cases g5
  rw [h0] at hz hk
  have hal : s.vm.Alike t.vm := by rw [← e2]; exact X'.warmed.alike
  have hsub : ∀ q, XA ad M H.size q → A q := fun q hq => xA_sub X0 (fun q hq => hA q (Nat.le_trans hS.1 hq)) hq
  have g3 := g3.moved hal.symm
  have X1 : XRel D K s A ad' M1 T'.heap := by
    rw [e1]
    obtain ⟨⟨ob, hob, hP, hD⟩, hc, hs⟩ := g3
    refine ⟨⟨ob, hob, hP, hD.weaken (fun k q _ h => hsub _ h)⟩, hc, fun t1 n1 h5 hn => ⟨(hs t1 n1 h5 hn).1, ?_⟩⟩
    have hn' : n1 < M.2.2.2.1 t1 := by rw [g6 t1 h5] at hn; exact hn
    rw [g1 (t1, n1) hn']
    exact (X0.2.2 t1 n1 h5 hn').2
  obtain ⟨t2, a1, b1⟩ := kk ad' T'.heap (locs ++ L) g1 g2 g6 X1 g4
    ⟨Nat.le_trans hS.1 (by rw [e1]; exact hz), fun q h1 h2 => by rw [e1, hk q (Nat.lt_of_lt_of_le h1 hS.1) (fun z => h2 (hsub q z))]; exact hS.2.1 q h1 h2, fun q hq => by
      rcases List.mem_append.mp hq with h | h
      · exact hS.2.2 q h
      · exact hsub _ (hL q h)⟩ T' rfl X'
  exact ⟨t2, st t2 a1, b1⟩
end XGO
theorem xargs_spec : ∀ (n : Nat) (acc st as r : List XV), xargs n acc st = some (as, r) → ∃ pre, st = pre ++ r ∧ as = pre.reverse ++ acc ∧ pre.length = n
  | 0, acc, st, as, r, h => by
    unfold xargs at h
    cases h
    exact ⟨[], rfl, rfl, rfl⟩
  | n + 1, acc, [], as, r, h => by cases h
  | n + 1, acc, v :: st, as, r, h => by
    obtain ⟨pre, h1, h2, h3⟩ := xargs_spec n (v :: acc) st as r h
    refine ⟨v :: pre, by rw [h1]; rfl, ?_, by rw [List.length_cons, h3]⟩
    rw [h2, List.reverse_cons, List.append_assoc]
    rfl
theorem good_in {z : Nat} (hz : Cond.code (xyn z) (xby z) (xml z) (xrty z) ∈ xall) : GoodIn xall (xws z) := by
  intro w hw
  rcases List.mem_cons.mp hw with rfl | hw
  · exact ⟨hz, xall_good _ hz⟩
  · exact ⟨hw, xall_good _ hw⟩
theorem xblind {D : va_G} {K : Nat → ClassId} {ad : Nat → Nat → Nat} {M : XM} {sz : Nat} {av : List Value} : FrameBlind (va_Pc av (XPre D K ad M sz)) := by
  intro a U g mk q
  obtain ⟨q0, q4, q1, q2, q3⟩ := q
  exact ⟨q0, q4, q1.moved (t := U.calling g mk a) (Vm.Alike.refl U.vm), va_K.moved (u := U) (U := U.calling g mk a) (Vm.Alike.refl U.vm) q2, xnw_same (u := U) (U := U.calling g mk a) rfl q3⟩
theorem xpre_at {D : va_G} {K : Nat → ClassId} {A : Nat → Prop} {ad : Nat → Nat → Nat} {M : XM} {s U : State} {H : Heap} {locs : List Loc} (X : XRel D K s A ad M H) (hS : va_S A s.heap H locs) (hK : va_K D xcl (xtys K) s) (hN : ∀ w ∈ xnw, va_Nw w s) (hA : ∀ q : Nat, s.heap.size ≤ q → A q) (hU : U.heap = H) (hW : s.WarmedH U.vm) : XPre D K ad M H.size U :=
  ⟨by rw [hU], by rw [hU]; exact (X.self rfl (fun q hq => hA q (Nat.le_trans hS.1 hq))).moved hW.alike, va_K.moved hW.alike hK, fun w hw => xnw_warm hW w hw (hN w hw)⟩
/-- what is known of the method z -/
def XZ (z : Nat) : Prop := plainName (xyn z).cls = true ∧ Cond.code (xyn z) (xby z) (xml z) (xrty z) ∈ xall ∧ (xyn z).cls ≠ "java/lang/invoke/MethodHandle" ∧ (xyn z).cls ≠ "java/lang/invoke/VarHandle"
theorem xcall_split {f y pc z : Nat} {v : Bool} {lv : XL} {st : List XV} {M : XM} {o : XO} {M' : XM} (h : xk (xrun f) y pc lv M (xo_call v y z st) = some (o, M')) (hnh : ∀ e, xhd y pc e = none) :
    ∃ (as r : List XV) (rv : Option XV) (M1 : XM), xargs (xmn z) [] st = some (as, r) ∧ xdp z < xdp y ∧ 19 + xml z + xlo z ≤ xlo y ∧ xsum r ≤ 8 ∧ xsum as ≤ xml z ∧ (v = true → xrecv z as = true) ∧ xrun f z 0 (xent (xml z) as) [] M = some (.inl rv, M1) ∧ xrun f y (pc + 3) lv (rv.toList ++ r) M1 = some (o, M') := by
  unfold xo_call at h
  cases ha : xargs (xmn z) [] st with
  | none => rw [ha] at h; cases h
  | some q =>
    obtain ⟨as, r⟩ := q
    rw [ha] at h
    dsimp only at h
    cases hb : (Nat.blt (xdp z) (xdp y) && Nat.ble (19 + xml z + xlo z) (xlo y) && Nat.ble (xsum r) 8 && Nat.ble (xsum as) (xml z) && (v.not || xrecv z as)) with
    | false => rw [hb] at h; cases h
    | true =>
      rw [hb, cond_true] at h
      simp only [Bool.and_eq_true] at hb
      obtain ⟨⟨⟨⟨b1, b5⟩, b2⟩, b3⟩, b4⟩ := hb
      have b1 : xdp z < xdp y := Nat.le_of_ble_eq_true b1
      unfold xk at h
      dsimp only at h
      cases hz : xrun f z 0 (xent (xml z) as) [] M with
      | none => rw [hz] at h; cases h
      | some q =>
        obtain ⟨o1, M1⟩ := q
        rw [hz] at h
        cases o1 with
        | inr e => dsimp only at h; rw [hnh e] at h; cases h
        | inl rv => exact ⟨as, r, rv, M1, rfl, b1, Nat.le_of_ble_eq_true b5, Nat.le_of_ble_eq_true b2, Nat.le_of_ble_eq_true b3, fun hv => by subst hv; simpa using b4, hz, h⟩
theorem xstack {ad ad' : Nat → Nat → Nat} {k k' : Nat → Nat} {rv : Option XV} {r : List XV} (h : ∀ q : XR, q.2 < k q.1 → ad' q.1 q.2 = ad q.1 q.2) (hr : XSt k r) : (rv.map (tv ad')).toList ++ r.map (tv ad) = (rv.toList ++ r).map (tv ad') := by
  have e : r.map (tv ad) = r.map (tv ad') := List.map_congr_left (fun v hv => (tv_ag h (hr v hv)).symm)
  rw [e, List.map_append]
  cases rv <;> rfl
/-- behind a call -/
theorem xback {y pc : Nat} {lv : XL} {r : List XV} {rv : Option XV} {M M1 M' : XM} {o : XO} (GN : XG y (pc + 3) lv (rv.toList ++ r) M1 o M') (hm : M.2.2.2.2.2.1 ≤ M1.2.2.2.2.2.1 ∧ M.2.2.2.2.2.2 ≤ M1.2.2.2.2.2.2)
    {p : Program} {l : Launch} {e : Env} {R : Room} {s : State} {m : MethodId} {args : Array Value} {below : List Frame} {meth : Method} {c : Code} {D : va_G} {K : Nat → ClassId} {A : Nat → Prop} {ad0 : Nat → Nat → Nat} {k0 : Nat → Nat} {c0 w0 : Nat} {ad : Nat → Nat → Nat} {H : Heap} {locs : List Loc} {ls : Array Slot} {st : List XV} (B : XB y p l R s m args meth c D K A ad0 k0 c0 w0 M' ad H locs ls lv st M) (hr : XSt M.2.2.2.1 r)
    {ad' : Nat → Nat → Nat} {H1 : Heap} {locs1 : List Loc} (g1 : ∀ q : XR, q.2 < M.2.2.2.1 q.1 → ad' q.1 q.2 = ad q.1 q.2) (g2 : ∀ i, M.2.2.2.1 i ≤ M1.2.2.2.1 i) (g6 : ∀ i, xkt i = 5 → M1.2.2.2.1 i = M.2.2.2.1 i) (X1 : XRel D K s A ad' M1 H1) (g4 : ∀ v, rv = some v → vok M1.2.2.2.1 v) (hS1 : va_S A s.heap H1 locs1) :
    W p l e R s m args below meth c H1 locs1 (M.2.2.2.2.2.1 - c0 + (M1.2.2.2.2.2.1 - M.2.2.2.2.2.1)) (M.2.2.2.2.2.2 - w0 + (M1.2.2.2.2.2.2 - M.2.2.2.2.2.2)) (XEnd below D K A ad0 k0 o M' args s (M'.2.2.2.2.2.1 - c0) (M'.2.2.2.2.2.2 - w0)) (F0 m (pc + 3) ls ((rv.map (tv ad')).toList ++ r.map (tv ad))) := by
  obtain ⟨C, X, hS, hL, hst, hlen, hag, hcw⟩ := B
  have k := GN.2 p l e R s m args below meth c D K A ad0 k0 c0 w0 ad' H1 locs1 ls
    ⟨C, X1, hS1, ⟨hL.1, hL.2.1, fun i v hi => ⟨by rw [tv_ag g1 (hL.2.2 i v hi).2]; exact (hL.2.2 i v hi).1, vok_mono g2 (hL.2.2 i v hi).2⟩⟩, fun v hv => by
      rcases List.mem_append.mp hv with h | h
      · cases rv with
        | none => cases h
        | some u => rw [List.mem_singleton.mp h]; exact g4 u rfl
      · exact vok_mono g2 (hr v h), hlen, ⟨fun q hq => by rw [g1 q (Nat.lt_of_lt_of_le hq (hag.2.1 _))]; exact hag.1 q hq, fun i => Nat.le_trans (hag.2.1 i) (g2 i), fun i hi => (g6 i hi).trans (hag.2.2 i hi)⟩, ⟨by omega, by omega, hcw.2.2.1, hcw.2.2.2⟩⟩
  have eq1 : M.2.2.2.2.2.1 - c0 + (M1.2.2.2.2.2.1 - M.2.2.2.2.2.1) = M1.2.2.2.2.2.1 - c0 := by omega
  have eq2 : M.2.2.2.2.2.2 - w0 + (M1.2.2.2.2.2.2 - M.2.2.2.2.2.2) = M1.2.2.2.2.2.2 - w0 := by omega
  rw [eq1, eq2, xstack (k' := k0) g1 hr]
  exact k
theorem xrecv_spec {z : Nat} {as : List XV} (h : xrecv z as = true) : ∃ (t n : Nat) (As : List XV), as = .inr (.inr (some (t, n))) :: As ∧ xkt t = 0 ∧ xkc t = xmc z := by
  unfold xrecv at h
  split at h
  · rename_i t n As
    simp only [Bool.and_eq_true] at h
    exact ⟨t, n, As, rfl, Nat.eq_of_beq_eq_true h.1, Nat.eq_of_beq_eq_true h.2⟩
  · cases h
theorem sd_callV {y pc index z ci n : Nat} {C : String} {T : u_T} {N : Nat} (hd : decode (xby y) pc = .ok (.invokevirtual index, 3)) (hZ : XZ z) (hl : Cond.methodLink (xown y) index (xyn z) ∈ xall) (hi : Cond.instanceMethod (xyn z) ∈ xall) (hs : Cond.selects C (xyn z) (xyn z) ∈ xall) (hini : Cond.initialized (xyn z).cls ∈ xall) (hci : xmc z = ci) (hcl : xcl[ci]? = some (C, T, N)) (hn : xmn z = n + 1) (hdn : (parseMethodDescriptor (xyn z).desc).map (fun d => d.parameters.length) = some n) (hnh : ∀ e, xhd y pc e = none) : Snd y pc (fun _ st _ => xo_call true y z st) := by
  intro f lv st M o M' h IH
  obtain ⟨as, r, rv, M1, ha, hdp, hlo, hr8, hfit, hrec, hz, hnx⟩ := xcall_split h hnh
  have GZ := IH _ _ _ _ _ _ _ hz
  have GN := IH _ _ _ _ _ _ _ hnx
  have m1 := GZ.1
  have m2 := GN.1
  refine ⟨⟨by omega, by omega⟩, ?_⟩
  intro p l e R s m args below meth c D K A ad0 k0 c0 w0 ad H locs ls B
  have B0 := B
  obtain ⟨C0, X, hS, hL, hst, hlen, hag, hcw⟩ := B0
  obtain ⟨pre, e1, e2, e3⟩ := xargs_spec _ _ _ _ _ ha
  rw [List.append_nil] at e2
  have hok : XSt M.2.2.2.1 as := fun v hv => hst v (by rw [e1]; exact List.mem_append_left _ (by rw [e2] at hv; exact List.mem_reverse.mp hv))
  have hrok : XSt M.2.2.2.1 r := fun v hv => hst v (by rw [e1]; exact List.mem_append_right _ hv)
  have hM := xmet (l := l) (D := D) (K := K) (ad := ad) (sz := H.size) GZ hZ.1 hfit hok
  obtain ⟨t, n0, As, rfl, t0, tc⟩ := xrecv_spec (hrec rfl)
  obtain ⟨ob, q0, hob, hP, hD, hq0, hws⟩ := X.at (t := t) (n := n0) (by rw [t0]; decide) hok.head
  have hce : xce K ad M (t, n0) = (ad t n0, .inr (ci, (List.range (xkn t)).map (xfv ad M t n0))) := by
    unfold xce
    simp only [t0, tc, hci, if_true]
  rw [hce] at hws
  have hts := C0.2.2.2.2.1
  have hR1 := C0.2.2.2.2.2.2.2.2.2.2.1
  have hR2 := C0.2.2.2.2.2.2.2.2.2.2.2.1
  have epre : pre = (.inr (.inr (some (t, n0))) :: As).reverse := by rw [e2, List.reverse_reverse]
  have hlenA : As.length = n := by
    have h3 : pre.length = As.length + 1 := by rw [epre]; simp
    omega
  refine x_go (rest := r.map (tv ad)) (va_runV (C := C) (b := ad t n0) (As := As.map (tv ad)) ⟨C0.1, C0.2.1, C0.2.2.1, C0.2.2.2.2.2.1, hts⟩ hM ⟨callB_of n hts (good_in hZ.2.1) rfl rfl rfl (hts _ hini) (hts _ hl) ⟨hZ.2.2.1, hZ.2.2.2, hdn⟩ ⟨by show xdp z + 1 ≤ R.frames; omega, by show 8 + (xml z + 11) + xlo z ≤ R.locals; omega⟩, hts _ hi, hts _ hs⟩
    ⟨xblind, va_recv C0.2.2.2.2.2.2.2.2.1 hP hcl hws, fun U hU hW => ⟨rfl, xpre_at X hS C0.2.2.2.2.2.2.2.2.1 C0.2.2.2.2.2.2.2.2.2.1 C0.2.2.2.2.2.2.2.2.2.2.2.2.1 hU hW⟩⟩ rfl (by rw [List.length_map]; exact hlenA) (by rw [← hlen]; exact hL.1)
    (by show st.map (tv ad) = _; rw [e1, epre]; simp [tv]) (lv_room (by rw [xsum_cat]; exact hr8)) hd ⟨by omega, by omega⟩) hS X C0.2.2.2.2.2.2.2.2.2.2.2.2.1 (fun ad' H1 locs1 g1 g2 g6 X1 g4 hS1 => ?_)
  exact xback GN GZ.1 B hrok g1 g2 g6 X1 g4 hS1
theorem sd_callS {y pc index z n : Nat} (hd : decode (xby y) pc = .ok (.invokestatic index, 3)) (hZ : XZ z) (hl : Cond.methodLink (xown y) index (xyn z) ∈ xall) (hi : Cond.static (xyn z) ∈ xall) (hini : Cond.initialized (xyn z).cls ∈ xall) (hn : xmn z = n) (hdn : (parseMethodDescriptor (xyn z).desc).map (fun d => d.parameters.length) = some n) (hnh : ∀ e, xhd y pc e = none) : Snd y pc (fun _ st _ => xo_call false y z st) := by
  intro f lv st M o M' h IH
  obtain ⟨as, r, rv, M1, ha, hdp, hlo, hr8, hfit, hrec, hz, hnx⟩ := xcall_split h hnh
  have GZ := IH _ _ _ _ _ _ _ hz
  have GN := IH _ _ _ _ _ _ _ hnx
  have m1 := GZ.1
  have m2 := GN.1
  refine ⟨⟨by omega, by omega⟩, ?_⟩
  intro p l e R s m args below meth c D K A ad0 k0 c0 w0 ad H locs ls B
  have B0 := B
  obtain ⟨C0, X, hS, hL, hst, hlen, hag, hcw⟩ := B0
  obtain ⟨pre, e1, e2, e3⟩ := xargs_spec _ _ _ _ _ ha
  rw [List.append_nil] at e2
  have hok : XSt M.2.2.2.1 as := fun v hv => hst v (by rw [e1]; exact List.mem_append_left _ (by rw [e2] at hv; exact List.mem_reverse.mp hv))
  have hrok : XSt M.2.2.2.1 r := fun v hv => hst v (by rw [e1]; exact List.mem_append_right _ hv)
  have hM := xmet (l := l) (D := D) (K := K) (ad := ad) (sz := H.size) GZ hZ.1 hfit hok
  have hts := C0.2.2.2.2.1
  have hR1 := C0.2.2.2.2.2.2.2.2.2.2.1
  have hR2 := C0.2.2.2.2.2.2.2.2.2.2.2.1
  have epre : pre = as.reverse := by rw [e2, List.reverse_reverse]
  have hlenA : as.length = n := by
    have h3 : pre.length = as.length := by rw [epre]; simp
    omega
  refine x_go (rest := r.map (tv ad)) (va_runS (As := as.map (tv ad)) ⟨C0.1, C0.2.1, C0.2.2.1, C0.2.2.2.2.2.1, hts⟩ hM ⟨callB_of n hts (good_in hZ.2.1) rfl rfl rfl (hts _ hini) (hts _ hl) ⟨hZ.2.2.1, hZ.2.2.2, hdn⟩ ⟨by show xdp z + 1 ≤ R.frames; omega, by show 8 + (xml z + 11) + xlo z ≤ R.locals; omega⟩, hts _ hi⟩
    ⟨xblind, fun U hU hW => ⟨rfl, xpre_at X hS C0.2.2.2.2.2.2.2.2.1 C0.2.2.2.2.2.2.2.2.2.1 C0.2.2.2.2.2.2.2.2.2.2.2.2.1 hU hW⟩⟩ rfl (by rw [List.length_map]; exact hlenA) (by rw [← hlen]; exact hL.1)
    (by show st.map (tv ad) = _; rw [e1, epre]; simp) (lv_room (by rw [xsum_cat]; exact hr8)) hd ⟨by omega, by omega⟩) hS X C0.2.2.2.2.2.2.2.2.2.2.2.2.1 (fun ad' H1 locs1 g1 g2 g6 X1 g4 hS1 => ?_)
  exact xback GN GZ.1 B hrok g1 g2 g6 X1 g4 hS1
theorem sd_callI {y pc index z n : Nat} (hd : decode (xby y) pc = .ok (.invokespecial index, 3)) (hZ : XZ z) (hl : Cond.methodLink (xown y) index (xyn z) ∈ xall) (hi : Cond.instanceMethod (xyn z) ∈ xall) (hini : Cond.initialized (xyn z).cls ∈ xall) (hnm : (xyn z).name = "<init>") (hrt : xrty z = none) (hn : xmn z = n + 1) (hdn : (parseMethodDescriptor (xyn z).desc).map (fun d => d.parameters.length) = some n) (hnh : ∀ e, xhd y pc e = none) : Snd y pc (fun _ st _ => xo_call true y z st) := by
  intro f lv st M o M' h IH
  obtain ⟨as, r, rv, M1, ha, hdp, hlo, hr8, hfit, hrec, hz, hnx⟩ := xcall_split h hnh
  have GZ := IH _ _ _ _ _ _ _ hz
  have GN := IH _ _ _ _ _ _ _ hnx
  have m1 := GZ.1
  have m2 := GN.1
  refine ⟨⟨by omega, by omega⟩, ?_⟩
  intro p l e R s m args below meth c D K A ad0 k0 c0 w0 ad H locs ls B
  have B0 := B
  obtain ⟨C0, X, hS, hL, hst, hlen, hag, hcw⟩ := B0
  obtain ⟨pre, e1, e2, e3⟩ := xargs_spec _ _ _ _ _ ha
  rw [List.append_nil] at e2
  have hok : XSt M.2.2.2.1 as := fun v hv => hst v (by rw [e1]; exact List.mem_append_left _ (by rw [e2] at hv; exact List.mem_reverse.mp hv))
  have hrok : XSt M.2.2.2.1 r := fun v hv => hst v (by rw [e1]; exact List.mem_append_right _ hv)
  have hM := xmet (l := l) (D := D) (K := K) (ad := ad) (sz := H.size) GZ hZ.1 hfit hok
  obtain ⟨t, n0, As, rfl, t0, tc⟩ := xrecv_spec (hrec rfl)
  have hts := C0.2.2.2.2.1
  have hR1 := C0.2.2.2.2.2.2.2.2.2.2.1
  have hR2 := C0.2.2.2.2.2.2.2.2.2.2.2.1
  have epre : pre = (.inr (.inr (some (t, n0))) :: As).reverse := by rw [e2, List.reverse_reverse]
  have hlenA : As.length = n := by
    have h3 : pre.length = As.length + 1 := by rw [epre]; simp
    omega
  have hG := good_in hZ.2.1
  refine x_go (rest := r.map (tv ad)) (va_runI (bytes := xby z) (maxL := xml z) (b := ad t n0) (As := As.map (tv ad)) ⟨C0.1, C0.2.1, C0.2.2.1, C0.2.2.2.2.2.1, hts⟩ hM ⟨callB_of n hts hG (by rw [← hrt]; rfl) rfl rfl (hts _ hini) (hts _ hl) ⟨hZ.2.2.1, hZ.2.2.2, hdn⟩ ⟨by show xdp z + 1 ≤ R.frames; omega, by show 8 + (xml z + 11) + xlo z ≤ R.locals; omega⟩, hnm, hts _ hi⟩
    ⟨xblind, fun U hU hW => ⟨rfl, xpre_at X hS C0.2.2.2.2.2.2.2.2.1 C0.2.2.2.2.2.2.2.2.2.1 C0.2.2.2.2.2.2.2.2.2.2.2.2.1 hU hW⟩⟩ rfl (by rw [List.length_map]; exact hlenA) (by rw [← hlen]; exact hL.1)
    (by show st.map (tv ad) = _; rw [e1, epre]; simp [tv]) (lv_room (by rw [xsum_cat]; exact hr8)) hd ⟨by omega, by omega⟩) hS X C0.2.2.2.2.2.2.2.2.2.2.2.2.1 (fun ad' H1 locs1 g1 g2 g6 X1 g4 hS1 => ?_)
  exact xback GN GZ.1 B hrok g1 g2 g6 X1 g4 hS1
theorem sd_callIN {y pc index z n : Nat} {host : String} (hd : decode (xby y) pc = .ok (.invokespecial index, 3)) (hZ : XZ z) (hl : Cond.methodLinkNest (xown y) index (xyn z) host ∈ xnw) (hi : Cond.instanceMethod (xyn z) ∈ xall) (hini : Cond.initialized (xyn z).cls ∈ xall) (hnm : (xyn z).name = "<init>") (hrt : xrty z = none) (hn : xmn z = n + 1) (hdn : (parseMethodDescriptor (xyn z).desc).map (fun d => d.parameters.length) = some n) (hnh : ∀ e, xhd y pc e = none) : Snd y pc (fun _ st _ => xo_call true y z st) := by
  intro f lv st M o M' h IH
  obtain ⟨as, r, rv, M1, ha, hdp, hlo, hr8, hfit, hrec, hz, hnx⟩ := xcall_split h hnh
  have GZ := IH _ _ _ _ _ _ _ hz
  have GN := IH _ _ _ _ _ _ _ hnx
  have m1 := GZ.1
  have m2 := GN.1
  refine ⟨⟨by omega, by omega⟩, ?_⟩
  intro p l e R s m args below meth c D K A ad0 k0 c0 w0 ad H locs ls B
  have B0 := B
  obtain ⟨C0, X, hS, hL, hst, hlen, hag, hcw⟩ := B0
  obtain ⟨pre, e1, e2, e3⟩ := xargs_spec _ _ _ _ _ ha
  rw [List.append_nil] at e2
  have hok : XSt M.2.2.2.1 as := fun v hv => hst v (by rw [e1]; exact List.mem_append_left _ (by rw [e2] at hv; exact List.mem_reverse.mp hv))
  have hrok : XSt M.2.2.2.1 r := fun v hv => hst v (by rw [e1]; exact List.mem_append_right _ hv)
  have hM := xmet (l := l) (D := D) (K := K) (ad := ad) (sz := H.size) GZ hZ.1 hfit hok
  obtain ⟨t, n0, As, rfl, t0, tc⟩ := xrecv_spec (hrec rfl)
  have hts := C0.2.2.2.2.1
  have hR1 := C0.2.2.2.2.2.2.2.2.2.2.1
  have hR2 := C0.2.2.2.2.2.2.2.2.2.2.2.1
  have epre : pre = (.inr (.inr (some (t, n0))) :: As).reverse := by rw [e2, List.reverse_reverse]
  have hlenA : As.length = n := by
    have h3 : pre.length = As.length + 1 := by rw [epre]; simp
    omega
  have hG := good_in hZ.2.1
  refine x_go (rest := r.map (tv ad)) (va_runIN (host := host) (bytes := xby z) (maxL := xml z) (b := ad t n0) (As := As.map (tv ad)) ⟨C0.1, C0.2.1, C0.2.2.1, C0.2.2.2.2.2.1, hts⟩ hM ⟨va_cnB n hts hG (by rw [← hrt]; rfl) rfl rfl (C0.2.2.2.2.2.2.2.2.2.1 _ hl) (hts _ hini) ⟨hZ.2.2.1, hZ.2.2.2, hdn⟩ ⟨by show xdp z + 1 ≤ R.frames; omega, by show 8 + (xml z + 11) + xlo z ≤ R.locals; omega⟩, hnm, hts _ hi⟩
    ⟨xblind, fun U hU hW => ⟨rfl, xpre_at X hS C0.2.2.2.2.2.2.2.2.1 C0.2.2.2.2.2.2.2.2.2.1 C0.2.2.2.2.2.2.2.2.2.2.2.2.1 hU hW⟩⟩ rfl (by rw [List.length_map]; exact hlenA) (by rw [← hlen]; exact hL.1)
    (by show st.map (tv ad) = _; rw [e1, epre]; simp [tv]) (lv_room (by rw [xsum_cat]; exact hr8)) hd ⟨by omega, by omega⟩) hS X C0.2.2.2.2.2.2.2.2.2.2.2.2.1 (fun ad' H1 locs1 g1 g2 g6 X1 g4 hS1 => ?_)
  exact xback GN GZ.1 B hrok g1 g2 g6 X1 g4 hS1
end
section
/-! words of the tables, by their places -/
theorem m1 : (Jvm.Cond.initialized "ChartKnitter") ∈ xall := mx 1 (by decide +kernel) (by decide +kernel)
theorem m2 : (Jvm.Cond.initialized "ChartKnitter$Chart") ∈ xall := mx 2 (by decide +kernel) (by decide +kernel)
theorem m3 : (Jvm.Cond.initialized "ChartKnitter$Stitch") ∈ xall := mx 3 (by decide +kernel) (by decide +kernel)
theorem m4 : (Jvm.Cond.initialized "ChartKnitter$Plan") ∈ xall := mx 4 (by decide +kernel) (by decide +kernel)
theorem m5 : (Jvm.Cond.initialized "ChartKnitter$Machine") ∈ xall := mx 5 (by decide +kernel) (by decide +kernel)
theorem m6 : (Jvm.Cond.initialized "ChartKnitter$Loops") ∈ xall := mx 6 (by decide +kernel) (by decide +kernel)
theorem m7 : (Jvm.Cond.initialized "ChartKnitter$Crossings") ∈ xall := mx 7 (by decide +kernel) (by decide +kernel)
theorem m8 : (Jvm.Cond.initialized "ChartKnitter$Row") ∈ xall := mx 8 (by decide +kernel) (by decide +kernel)
theorem m9 : (Jvm.Cond.initialized "ChartKnitterModel") ∈ xall := mx 9 (by decide +kernel) (by decide +kernel)
theorem m15 : (Jvm.Cond.initialized "java/lang/Math") ∈ xall := mx 15 (by decide +kernel) (by decide +kernel)
theorem m22 : (Jvm.Cond.methodLink "ChartKnitter" (3 : Nat) ({ cls := "java/lang/Object", name := "<init>", desc := "()V" } : Jvm.MethodName)) ∈ xall := mx 22 (by decide +kernel) (by decide +kernel)
theorem m23 : (Jvm.Cond.instanceMethod ({ cls := "java/lang/Object", name := "<init>", desc := "()V" } : Jvm.MethodName)) ∈ xall := mx 23 (by decide +kernel) (by decide +kernel)
theorem m24 : (Jvm.Cond.code ({ cls := "java/lang/Object", name := "<init>", desc := "()V" } : Jvm.MethodName) object_method_1_code (1 : Nat) (Option.none : Option Jvm.ClassFile.FieldType)) ∈ xall := mx 24 (by decide +kernel) (by decide +kernel)
theorem m25 : (Jvm.Cond.classLink "ChartKnitter" (9 : Nat) "ChartKnitter$Chart") ∈ xall := mx 25 (by decide +kernel) (by decide +kernel)
theorem m26 : (Jvm.Cond.instantiable "ChartKnitter$Chart" (7 : Nat)) ∈ xall := mx 26 (by decide +kernel) (by decide +kernel)
theorem m27 : (Jvm.Cond.methodLink "ChartKnitter" (11 : Nat) ({ cls := "ChartKnitter$Chart", name := "<init>", desc := "()V" } : Jvm.MethodName)) ∈ xall := mx 27 (by decide +kernel) (by decide +kernel)
theorem m28 : (Jvm.Cond.instanceMethod ({ cls := "ChartKnitter$Chart", name := "<init>", desc := "()V" } : Jvm.MethodName)) ∈ xall := mx 28 (by decide +kernel) (by decide +kernel)
theorem m29 : (Jvm.Cond.code ({ cls := "ChartKnitter$Chart", name := "<init>", desc := "()V" } : Jvm.MethodName) prog_2_method_1_code (2 : Nat) (Option.none : Option Jvm.ClassFile.FieldType)) ∈ xall := mx 29 (by decide +kernel) (by decide +kernel)
theorem m30 : (Jvm.Cond.methodLink "ChartKnitter$Chart" (3 : Nat) ({ cls := "java/lang/Object", name := "<init>", desc := "()V" } : Jvm.MethodName)) ∈ xall := mx 30 (by decide +kernel) (by decide +kernel)
theorem m31 : (Jvm.Cond.classLink "ChartKnitter$Chart" (19 : Nat) "ChartKnitter$Stitch") ∈ xall := mx 31 (by decide +kernel) (by decide +kernel)
theorem m33 : (Jvm.Cond.instantiable "ChartKnitter$Stitch" (6 : Nat)) ∈ xall := mx 33 (by decide +kernel) (by decide +kernel)
theorem m35 : (Jvm.Cond.instanceMethod ({ cls := "ChartKnitter$Stitch", name := "<init>", desc := "()V" } : Jvm.MethodName)) ∈ xall := mx 35 (by decide +kernel) (by decide +kernel)
theorem m36 : (Jvm.Cond.code ({ cls := "ChartKnitter$Stitch", name := "<init>", desc := "()V" } : Jvm.MethodName) prog_8_method_1_code (1 : Nat) (Option.none : Option Jvm.ClassFile.FieldType)) ∈ xall := mx 36 (by decide +kernel) (by decide +kernel)
theorem m37 : (Jvm.Cond.methodLink "ChartKnitter$Stitch" (3 : Nat) ({ cls := "java/lang/Object", name := "<init>", desc := "()V" } : Jvm.MethodName)) ∈ xall := mx 37 (by decide +kernel) (by decide +kernel)
theorem m38 : (Jvm.Cond.fieldLink "ChartKnitter$Crossings" (34 : Nat) "ChartKnitter$Stitch" "sign" "I") ∈ xall := mx 38 (by decide +kernel) (by decide +kernel)
theorem m39 : (Jvm.Cond.fieldLink "ChartKnitter$Stitch" (9 : Nat) "ChartKnitter$Stitch" "sign" "I") ∈ xall := mx 39 (by decide +kernel) (by decide +kernel)
theorem m40 : (Jvm.Cond.fieldLink "ChartKnitter$Chart" (53 : Nat) "ChartKnitter$Stitch" "sign" "I") ∈ xall := mx 40 (by decide +kernel) (by decide +kernel)
theorem m41 : (Jvm.Cond.fieldLink "ChartKnitter$Plan" (70 : Nat) "ChartKnitter$Stitch" "at" "I") ∈ xall := mx 41 (by decide +kernel) (by decide +kernel)
theorem m42 : (Jvm.Cond.fieldLink "ChartKnitter$Chart" (56 : Nat) "ChartKnitter$Stitch" "at" "I") ∈ xall := mx 42 (by decide +kernel) (by decide +kernel)
theorem m43 : (Jvm.Cond.fieldLink "ChartKnitter$Crossings" (30 : Nat) "ChartKnitter$Stitch" "left" "I") ∈ xall := mx 43 (by decide +kernel) (by decide +kernel)
theorem m44 : (Jvm.Cond.fieldLink "ChartKnitter$Chart" (59 : Nat) "ChartKnitter$Stitch" "left" "I") ∈ xall := mx 44 (by decide +kernel) (by decide +kernel)
theorem m45 : (Jvm.Cond.fieldLink "ChartKnitter$Stitch" (19 : Nat) "ChartKnitter$Stitch" "left" "I") ∈ xall := mx 45 (by decide +kernel) (by decide +kernel)
theorem m46 : (Jvm.Cond.fieldLink "ChartKnitter$Crossings" (32 : Nat) "ChartKnitter$Stitch" "right" "I") ∈ xall := mx 46 (by decide +kernel) (by decide +kernel)
theorem m47 : (Jvm.Cond.fieldLink "ChartKnitter$Chart" (62 : Nat) "ChartKnitter$Stitch" "right" "I") ∈ xall := mx 47 (by decide +kernel) (by decide +kernel)
theorem m48 : (Jvm.Cond.fieldLink "ChartKnitter$Stitch" (22 : Nat) "ChartKnitter$Stitch" "right" "I") ∈ xall := mx 48 (by decide +kernel) (by decide +kernel)
theorem m49 : (Jvm.Cond.fieldLink "ChartKnitter$Crossings" (24 : Nat) "ChartKnitter$Stitch" "firstTaken" "I") ∈ xall := mx 49 (by decide +kernel) (by decide +kernel)
theorem m50 : (Jvm.Cond.fieldLink "ChartKnitter$Plan" (48 : Nat) "ChartKnitter$Stitch" "firstTaken" "I") ∈ xall := mx 50 (by decide +kernel) (by decide +kernel)
theorem m51 : (Jvm.Cond.fieldLink "ChartKnitter$Chart" (65 : Nat) "ChartKnitter$Stitch" "firstTaken" "I") ∈ xall := mx 51 (by decide +kernel) (by decide +kernel)
theorem m52 : (Jvm.Cond.fieldLink "ChartKnitter$Stitch" (32 : Nat) "ChartKnitter$Stitch" "firstTaken" "I") ∈ xall := mx 52 (by decide +kernel) (by decide +kernel)
theorem m53 : (Jvm.Cond.fieldLink "ChartKnitter$Plan" (62 : Nat) "ChartKnitter$Stitch" "firstGiven" "I") ∈ xall := mx 53 (by decide +kernel) (by decide +kernel)
theorem m54 : (Jvm.Cond.fieldLink "ChartKnitter$Chart" (68 : Nat) "ChartKnitter$Stitch" "firstGiven" "I") ∈ xall := mx 54 (by decide +kernel) (by decide +kernel)
theorem m55 : (Jvm.Cond.fieldLink "ChartKnitter$Stitch" (29 : Nat) "ChartKnitter$Stitch" "firstGiven" "I") ∈ xall := mx 55 (by decide +kernel) (by decide +kernel)
theorem m56 : (Jvm.Cond.lays "ChartKnitter$Stitch" "ChartKnitter$Stitch" "sign" "I") ∈ xall := mx 56 (by decide +kernel) (by decide +kernel)
theorem m58 : (Jvm.Cond.lays "ChartKnitter$Stitch" "ChartKnitter$Stitch" "at" "I") ∈ xall := mx 58 (by decide +kernel) (by decide +kernel)
theorem m60 : (Jvm.Cond.lays "ChartKnitter$Stitch" "ChartKnitter$Stitch" "left" "I") ∈ xall := mx 60 (by decide +kernel) (by decide +kernel)
theorem m62 : (Jvm.Cond.lays "ChartKnitter$Stitch" "ChartKnitter$Stitch" "right" "I") ∈ xall := mx 62 (by decide +kernel) (by decide +kernel)
theorem m64 : (Jvm.Cond.lays "ChartKnitter$Stitch" "ChartKnitter$Stitch" "firstTaken" "I") ∈ xall := mx 64 (by decide +kernel) (by decide +kernel)
theorem m66 : (Jvm.Cond.lays "ChartKnitter$Stitch" "ChartKnitter$Stitch" "firstGiven" "I") ∈ xall := mx 66 (by decide +kernel) (by decide +kernel)
theorem m69 : (Jvm.Cond.arrayClass Jvm.ClassFile.FieldType.int) ∈ xall := mx 69 (by decide +kernel) (by decide +kernel)
theorem m70 : (Jvm.Cond.fieldLink "ChartKnitter$Chart" (9 : Nat) "ChartKnitter$Chart" "text" "[I") ∈ xall := mx 70 (by decide +kernel) (by decide +kernel)
theorem m71 : (Jvm.Cond.fieldLink "ChartKnitter" (65 : Nat) "ChartKnitter$Chart" "text" "[I") ∈ xall := mx 71 (by decide +kernel) (by decide +kernel)
theorem m72 : (Jvm.Cond.fieldLink "ChartKnitter$Chart" (15 : Nat) "ChartKnitter$Chart" "length" "I") ∈ xall := mx 72 (by decide +kernel) (by decide +kernel)
theorem m73 : (Jvm.Cond.fieldLink "ChartKnitter" (62 : Nat) "ChartKnitter$Chart" "length" "I") ∈ xall := mx 73 (by decide +kernel) (by decide +kernel)
theorem m74 : (Jvm.Cond.fieldLink "ChartKnitter$Chart" (21 : Nat) "ChartKnitter$Chart" "stitches" "[LChartKnitter$Stitch;") ∈ xall := mx 74 (by decide +kernel) (by decide +kernel)
theorem m75 : (Jvm.Cond.fieldLink "ChartKnitter$Plan" (41 : Nat) "ChartKnitter$Chart" "stitches" "[LChartKnitter$Stitch;") ∈ xall := mx 75 (by decide +kernel) (by decide +kernel)
theorem m76 : (Jvm.Cond.fieldLink "ChartKnitter" (249 : Nat) "ChartKnitter$Chart" "stitches" "[LChartKnitter$Stitch;") ∈ xall := mx 76 (by decide +kernel) (by decide +kernel)
theorem m77 : (Jvm.Cond.fieldLink "ChartKnitter$Chart" (25 : Nat) "ChartKnitter$Chart" "stitchCount" "I") ∈ xall := mx 77 (by decide +kernel) (by decide +kernel)
theorem m78 : (Jvm.Cond.fieldLink "ChartKnitter$Plan" (38 : Nat) "ChartKnitter$Chart" "stitchCount" "I") ∈ xall := mx 78 (by decide +kernel) (by decide +kernel)
theorem m79 : (Jvm.Cond.fieldLink "ChartKnitter" (246 : Nat) "ChartKnitter$Chart" "stitchCount" "I") ∈ xall := mx 79 (by decide +kernel) (by decide +kernel)
theorem m80 : (Jvm.Cond.fieldLink "ChartKnitter$Chart" (28 : Nat) "ChartKnitter$Chart" "taken" "I") ∈ xall := mx 80 (by decide +kernel) (by decide +kernel)
theorem m81 : (Jvm.Cond.fieldLink "ChartKnitter$Plan" (33 : Nat) "ChartKnitter$Chart" "taken" "I") ∈ xall := mx 81 (by decide +kernel) (by decide +kernel)
theorem m82 : (Jvm.Cond.fieldLink "ChartKnitter" (197 : Nat) "ChartKnitter$Chart" "taken" "I") ∈ xall := mx 82 (by decide +kernel) (by decide +kernel)
theorem m83 : (Jvm.Cond.fieldLink "ChartKnitter$Chart" (31 : Nat) "ChartKnitter$Chart" "given" "I") ∈ xall := mx 83 (by decide +kernel) (by decide +kernel)
theorem m84 : (Jvm.Cond.fieldLink "ChartKnitter" (200 : Nat) "ChartKnitter$Chart" "given" "I") ∈ xall := mx 84 (by decide +kernel) (by decide +kernel)
theorem m85 : (Jvm.Cond.fieldLink "ChartKnitter$Chart" (34 : Nat) "ChartKnitter$Chart" "made" "I") ∈ xall := mx 85 (by decide +kernel) (by decide +kernel)
theorem m86 : (Jvm.Cond.fieldLink "ChartKnitter" (216 : Nat) "ChartKnitter$Chart" "made" "I") ∈ xall := mx 86 (by decide +kernel) (by decide +kernel)
theorem m87 : (Jvm.Cond.laysFinal "ChartKnitter$Chart" "ChartKnitter$Chart" "text" "[I") ∈ xall := mx 87 (by decide +kernel) (by decide +kernel)
theorem m89 : (Jvm.Cond.lays "ChartKnitter$Chart" "ChartKnitter$Chart" "length" "I") ∈ xall := mx 89 (by decide +kernel) (by decide +kernel)
theorem m91 : (Jvm.Cond.laysFinal "ChartKnitter$Chart" "ChartKnitter$Chart" "stitches" "[LChartKnitter$Stitch;") ∈ xall := mx 91 (by decide +kernel) (by decide +kernel)
theorem m93 : (Jvm.Cond.lays "ChartKnitter$Chart" "ChartKnitter$Chart" "stitchCount" "I") ∈ xall := mx 93 (by decide +kernel) (by decide +kernel)
theorem m95 : (Jvm.Cond.lays "ChartKnitter$Chart" "ChartKnitter$Chart" "taken" "I") ∈ xall := mx 95 (by decide +kernel) (by decide +kernel)
theorem m97 : (Jvm.Cond.lays "ChartKnitter$Chart" "ChartKnitter$Chart" "given" "I") ∈ xall := mx 97 (by decide +kernel) (by decide +kernel)
theorem m99 : (Jvm.Cond.lays "ChartKnitter$Chart" "ChartKnitter$Chart" "made" "I") ∈ xall := mx 99 (by decide +kernel) (by decide +kernel)
theorem m102 : (Jvm.Cond.classLink "ChartKnitter" (16 : Nat) "ChartKnitter$Plan") ∈ xall := mx 102 (by decide +kernel) (by decide +kernel)
theorem m103 : (Jvm.Cond.instantiable "ChartKnitter$Plan" (5 : Nat)) ∈ xall := mx 103 (by decide +kernel) (by decide +kernel)
theorem m104 : (Jvm.Cond.methodLink "ChartKnitter" (18 : Nat) ({ cls := "ChartKnitter$Plan", name := "<init>", desc := "()V" } : Jvm.MethodName)) ∈ xall := mx 104 (by decide +kernel) (by decide +kernel)
theorem m105 : (Jvm.Cond.instanceMethod ({ cls := "ChartKnitter$Plan", name := "<init>", desc := "()V" } : Jvm.MethodName)) ∈ xall := mx 105 (by decide +kernel) (by decide +kernel)
theorem m106 : (Jvm.Cond.code ({ cls := "ChartKnitter$Plan", name := "<init>", desc := "()V" } : Jvm.MethodName) prog_6_method_1_code (3 : Nat) (Option.none : Option Jvm.ClassFile.FieldType)) ∈ xall := mx 106 (by decide +kernel) (by decide +kernel)
theorem m107 : (Jvm.Cond.methodLink "ChartKnitter$Plan" (3 : Nat) ({ cls := "java/lang/Object", name := "<init>", desc := "()V" } : Jvm.MethodName)) ∈ xall := mx 107 (by decide +kernel) (by decide +kernel)
theorem m108 : (Jvm.Cond.classLink "ChartKnitter$Plan" (15 : Nat) "ChartKnitter$Stitch") ∈ xall := mx 108 (by decide +kernel) (by decide +kernel)
theorem m110 : (Jvm.Cond.fieldLink "ChartKnitter$Plan" (9 : Nat) "ChartKnitter$Plan" "columns" "I") ∈ xall := mx 110 (by decide +kernel) (by decide +kernel)
theorem m111 : (Jvm.Cond.fieldLink "ChartKnitter$Machine" (45 : Nat) "ChartKnitter$Plan" "columns" "I") ∈ xall := mx 111 (by decide +kernel) (by decide +kernel)
theorem m112 : (Jvm.Cond.fieldLink "ChartKnitter" (238 : Nat) "ChartKnitter$Plan" "columns" "I") ∈ xall := mx 112 (by decide +kernel) (by decide +kernel)
theorem m113 : (Jvm.Cond.fieldLink "ChartKnitter$Plan" (17 : Nat) "ChartKnitter$Plan" "takers" "[LChartKnitter$Stitch;") ∈ xall := mx 113 (by decide +kernel) (by decide +kernel)
theorem m114 : (Jvm.Cond.fieldLink "ChartKnitter$Machine" (64 : Nat) "ChartKnitter$Plan" "takers" "[LChartKnitter$Stitch;") ∈ xall := mx 114 (by decide +kernel) (by decide +kernel)
theorem m115 : (Jvm.Cond.fieldLink "ChartKnitter$Plan" (21 : Nat) "ChartKnitter$Plan" "goals" "[I") ∈ xall := mx 115 (by decide +kernel) (by decide +kernel)
theorem m116 : (Jvm.Cond.fieldLink "ChartKnitter$Machine" (48 : Nat) "ChartKnitter$Plan" "goals" "[I") ∈ xall := mx 116 (by decide +kernel) (by decide +kernel)
theorem m117 : (Jvm.Cond.fieldLink "ChartKnitter" (239 : Nat) "ChartKnitter$Plan" "goals" "[I") ∈ xall := mx 117 (by decide +kernel) (by decide +kernel)
theorem m118 : (Jvm.Cond.fieldLink "ChartKnitter$Plan" (25 : Nat) "ChartKnitter$Plan" "late" "[Z") ∈ xall := mx 118 (by decide +kernel) (by decide +kernel)
theorem m119 : (Jvm.Cond.fieldLink "ChartKnitter$Machine" (60 : Nat) "ChartKnitter$Plan" "late" "[Z") ∈ xall := mx 119 (by decide +kernel) (by decide +kernel)
theorem m120 : (Jvm.Cond.fieldLink "ChartKnitter" (242 : Nat) "ChartKnitter$Plan" "late" "[Z") ∈ xall := mx 120 (by decide +kernel) (by decide +kernel)
theorem m121 : (Jvm.Cond.fieldLink "ChartKnitter$Plan" (29 : Nat) "ChartKnitter$Plan" "givers" "[LChartKnitter$Stitch;") ∈ xall := mx 121 (by decide +kernel) (by decide +kernel)
theorem m122 : (Jvm.Cond.fieldLink "ChartKnitter" (263 : Nat) "ChartKnitter$Plan" "givers" "[LChartKnitter$Stitch;") ∈ xall := mx 122 (by decide +kernel) (by decide +kernel)
theorem m123 : (Jvm.Cond.lays "ChartKnitter$Plan" "ChartKnitter$Plan" "columns" "I") ∈ xall := mx 123 (by decide +kernel) (by decide +kernel)
theorem m125 : (Jvm.Cond.laysFinal "ChartKnitter$Plan" "ChartKnitter$Plan" "takers" "[LChartKnitter$Stitch;") ∈ xall := mx 125 (by decide +kernel) (by decide +kernel)
theorem m127 : (Jvm.Cond.laysFinal "ChartKnitter$Plan" "ChartKnitter$Plan" "goals" "[I") ∈ xall := mx 127 (by decide +kernel) (by decide +kernel)
theorem m129 : (Jvm.Cond.laysFinal "ChartKnitter$Plan" "ChartKnitter$Plan" "late" "[Z") ∈ xall := mx 129 (by decide +kernel) (by decide +kernel)
theorem m131 : (Jvm.Cond.laysFinal "ChartKnitter$Plan" "ChartKnitter$Plan" "givers" "[LChartKnitter$Stitch;") ∈ xall := mx 131 (by decide +kernel) (by decide +kernel)
theorem m134 : (Jvm.Cond.arrayClass Jvm.ClassFile.FieldType.boolean) ∈ xall := mx 134 (by decide +kernel) (by decide +kernel)
theorem m135 : (Jvm.Cond.classLink "ChartKnitter" (23 : Nat) "ChartKnitter$Machine") ∈ xall := mx 135 (by decide +kernel) (by decide +kernel)
theorem m136 : (Jvm.Cond.instantiable "ChartKnitter$Machine" (3 : Nat)) ∈ xall := mx 136 (by decide +kernel) (by decide +kernel)
theorem m138 : (Jvm.Cond.instanceMethod ({ cls := "ChartKnitter$Machine", name := "<init>", desc := "()V" } : Jvm.MethodName)) ∈ xall := mx 138 (by decide +kernel) (by decide +kernel)
theorem m139 : (Jvm.Cond.code ({ cls := "ChartKnitter$Machine", name := "<init>", desc := "()V" } : Jvm.MethodName) prog_5_method_1_code (1 : Nat) (Option.none : Option Jvm.ClassFile.FieldType)) ∈ xall := mx 139 (by decide +kernel) (by decide +kernel)
theorem m140 : (Jvm.Cond.methodLink "ChartKnitter$Machine" (3 : Nat) ({ cls := "java/lang/Object", name := "<init>", desc := "()V" } : Jvm.MethodName)) ∈ xall := mx 140 (by decide +kernel) (by decide +kernel)
theorem m141 : (Jvm.Cond.fieldLink "ChartKnitter$Machine" (9 : Nat) "ChartKnitter$Machine" "rack" "I") ∈ xall := mx 141 (by decide +kernel) (by decide +kernel)
theorem m142 : (Jvm.Cond.fieldLink "ChartKnitter$Machine" (15 : Nat) "ChartKnitter$Machine" "transfers" "I") ∈ xall := mx 142 (by decide +kernel) (by decide +kernel)
theorem m143 : (Jvm.Cond.fieldLink "ChartKnitter" (221 : Nat) "ChartKnitter$Machine" "transfers" "I") ∈ xall := mx 143 (by decide +kernel) (by decide +kernel)
theorem m144 : (Jvm.Cond.fieldLink "ChartKnitter$Machine" (18 : Nat) "ChartKnitter$Machine" "rackings" "I") ∈ xall := mx 144 (by decide +kernel) (by decide +kernel)
theorem m145 : (Jvm.Cond.fieldLink "ChartKnitter" (222 : Nat) "ChartKnitter$Machine" "rackings" "I") ∈ xall := mx 145 (by decide +kernel) (by decide +kernel)
theorem m146 : (Jvm.Cond.lays "ChartKnitter$Machine" "ChartKnitter$Machine" "rack" "I") ∈ xall := mx 146 (by decide +kernel) (by decide +kernel)
theorem m148 : (Jvm.Cond.lays "ChartKnitter$Machine" "ChartKnitter$Machine" "transfers" "I") ∈ xall := mx 148 (by decide +kernel) (by decide +kernel)
theorem m150 : (Jvm.Cond.lays "ChartKnitter$Machine" "ChartKnitter$Machine" "rackings" "I") ∈ xall := mx 150 (by decide +kernel) (by decide +kernel)
theorem m153 : (Jvm.Cond.classLink "ChartKnitter" (30 : Nat) "ChartKnitter$Loops") ∈ xall := mx 153 (by decide +kernel) (by decide +kernel)
theorem m154 : (Jvm.Cond.instantiable "ChartKnitter$Loops" (6 : Nat)) ∈ xall := mx 154 (by decide +kernel) (by decide +kernel)
theorem m156 : (Jvm.Cond.instanceMethod ({ cls := "ChartKnitter$Loops", name := "<init>", desc := "()V" } : Jvm.MethodName)) ∈ xall := mx 156 (by decide +kernel) (by decide +kernel)
theorem m157 : (Jvm.Cond.code ({ cls := "ChartKnitter$Loops", name := "<init>", desc := "()V" } : Jvm.MethodName) prog_4_method_1_code (1 : Nat) (Option.none : Option Jvm.ClassFile.FieldType)) ∈ xall := mx 157 (by decide +kernel) (by decide +kernel)
theorem m158 : (Jvm.Cond.methodLink "ChartKnitter$Loops" (3 : Nat) ({ cls := "java/lang/Object", name := "<init>", desc := "()V" } : Jvm.MethodName)) ∈ xall := mx 158 (by decide +kernel) (by decide +kernel)
theorem m159 : (Jvm.Cond.fieldLink "ChartKnitter$Loops" (9 : Nat) "ChartKnitter$Loops" "row" "[I") ∈ xall := mx 159 (by decide +kernel) (by decide +kernel)
theorem m160 : (Jvm.Cond.fieldLink "ChartKnitter" (169 : Nat) "ChartKnitter$Loops" "row" "[I") ∈ xall := mx 160 (by decide +kernel) (by decide +kernel)
theorem m161 : (Jvm.Cond.fieldLink "ChartKnitter$Loops" (15 : Nat) "ChartKnitter$Loops" "column" "[I") ∈ xall := mx 161 (by decide +kernel) (by decide +kernel)
theorem m162 : (Jvm.Cond.fieldLink "ChartKnitter" (172 : Nat) "ChartKnitter$Loops" "column" "[I") ∈ xall := mx 162 (by decide +kernel) (by decide +kernel)
theorem m163 : (Jvm.Cond.fieldLink "ChartKnitter$Loops" (18 : Nat) "ChartKnitter$Loops" "bed" "[I") ∈ xall := mx 163 (by decide +kernel) (by decide +kernel)
theorem m164 : (Jvm.Cond.fieldLink "ChartKnitter" (175 : Nat) "ChartKnitter$Loops" "bed" "[I") ∈ xall := mx 164 (by decide +kernel) (by decide +kernel)
theorem m165 : (Jvm.Cond.fieldLink "ChartKnitter$Loops" (21 : Nat) "ChartKnitter$Loops" "carrier" "[I") ∈ xall := mx 165 (by decide +kernel) (by decide +kernel)
theorem m166 : (Jvm.Cond.fieldLink "ChartKnitter" (178 : Nat) "ChartKnitter$Loops" "carrier" "[I") ∈ xall := mx 166 (by decide +kernel) (by decide +kernel)
theorem m167 : (Jvm.Cond.fieldLink "ChartKnitter$Loops" (24 : Nat) "ChartKnitter$Loops" "where" "[I") ∈ xall := mx 167 (by decide +kernel) (by decide +kernel)
theorem m168 : (Jvm.Cond.fieldLink "ChartKnitter" (129 : Nat) "ChartKnitter$Loops" "where" "[I") ∈ xall := mx 168 (by decide +kernel) (by decide +kernel)
theorem m169 : (Jvm.Cond.fieldLink "ChartKnitter$Loops" (27 : Nat) "ChartKnitter$Loops" "parents" "[I") ∈ xall := mx 169 (by decide +kernel) (by decide +kernel)
theorem m170 : (Jvm.Cond.fieldLink "ChartKnitter" (166 : Nat) "ChartKnitter$Loops" "parents" "[I") ∈ xall := mx 170 (by decide +kernel) (by decide +kernel)
theorem m171 : (Jvm.Cond.laysFinal "ChartKnitter$Loops" "ChartKnitter$Loops" "row" "[I") ∈ xall := mx 171 (by decide +kernel) (by decide +kernel)
theorem m173 : (Jvm.Cond.laysFinal "ChartKnitter$Loops" "ChartKnitter$Loops" "column" "[I") ∈ xall := mx 173 (by decide +kernel) (by decide +kernel)
theorem m175 : (Jvm.Cond.laysFinal "ChartKnitter$Loops" "ChartKnitter$Loops" "bed" "[I") ∈ xall := mx 175 (by decide +kernel) (by decide +kernel)
theorem m177 : (Jvm.Cond.laysFinal "ChartKnitter$Loops" "ChartKnitter$Loops" "carrier" "[I") ∈ xall := mx 177 (by decide +kernel) (by decide +kernel)
theorem m179 : (Jvm.Cond.laysFinal "ChartKnitter$Loops" "ChartKnitter$Loops" "where" "[I") ∈ xall := mx 179 (by decide +kernel) (by decide +kernel)
theorem m181 : (Jvm.Cond.laysFinal "ChartKnitter$Loops" "ChartKnitter$Loops" "parents" "[I") ∈ xall := mx 181 (by decide +kernel) (by decide +kernel)
theorem m184 : (Jvm.Cond.classLink "ChartKnitter" (37 : Nat) "ChartKnitter$Crossings") ∈ xall := mx 184 (by decide +kernel) (by decide +kernel)
theorem m185 : (Jvm.Cond.instantiable "ChartKnitter$Crossings" (4 : Nat)) ∈ xall := mx 185 (by decide +kernel) (by decide +kernel)
theorem m187 : (Jvm.Cond.instanceMethod ({ cls := "ChartKnitter$Crossings", name := "<init>", desc := "()V" } : Jvm.MethodName)) ∈ xall := mx 187 (by decide +kernel) (by decide +kernel)
theorem m188 : (Jvm.Cond.code ({ cls := "ChartKnitter$Crossings", name := "<init>", desc := "()V" } : Jvm.MethodName) prog_3_method_1_code (1 : Nat) (Option.none : Option Jvm.ClassFile.FieldType)) ∈ xall := mx 188 (by decide +kernel) (by decide +kernel)
theorem m189 : (Jvm.Cond.methodLink "ChartKnitter$Crossings" (3 : Nat) ({ cls := "java/lang/Object", name := "<init>", desc := "()V" } : Jvm.MethodName)) ∈ xall := mx 189 (by decide +kernel) (by decide +kernel)
theorem m190 : (Jvm.Cond.fieldLink "ChartKnitter$Crossings" (9 : Nat) "ChartKnitter$Crossings" "first" "[I") ∈ xall := mx 190 (by decide +kernel) (by decide +kernel)
theorem m191 : (Jvm.Cond.fieldLink "ChartKnitter$Crossings" (15 : Nat) "ChartKnitter$Crossings" "left" "[I") ∈ xall := mx 191 (by decide +kernel) (by decide +kernel)
theorem m192 : (Jvm.Cond.fieldLink "ChartKnitter$Crossings" (18 : Nat) "ChartKnitter$Crossings" "right" "[I") ∈ xall := mx 192 (by decide +kernel) (by decide +kernel)
theorem m193 : (Jvm.Cond.fieldLink "ChartKnitter$Crossings" (21 : Nat) "ChartKnitter$Crossings" "leftInFront" "[I") ∈ xall := mx 193 (by decide +kernel) (by decide +kernel)
theorem m194 : (Jvm.Cond.laysFinal "ChartKnitter$Crossings" "ChartKnitter$Crossings" "first" "[I") ∈ xall := mx 194 (by decide +kernel) (by decide +kernel)
theorem m196 : (Jvm.Cond.laysFinal "ChartKnitter$Crossings" "ChartKnitter$Crossings" "left" "[I") ∈ xall := mx 196 (by decide +kernel) (by decide +kernel)
theorem m198 : (Jvm.Cond.laysFinal "ChartKnitter$Crossings" "ChartKnitter$Crossings" "right" "[I") ∈ xall := mx 198 (by decide +kernel) (by decide +kernel)
theorem m200 : (Jvm.Cond.laysFinal "ChartKnitter$Crossings" "ChartKnitter$Crossings" "leftInFront" "[I") ∈ xall := mx 200 (by decide +kernel) (by decide +kernel)
theorem m203 : (Jvm.Cond.classLink "ChartKnitter" (44 : Nat) "ChartKnitter$Row") ∈ xall := mx 203 (by decide +kernel) (by decide +kernel)
theorem m205 : (Jvm.Cond.instantiable "ChartKnitter$Row" (13 : Nat)) ∈ xall := mx 205 (by decide +kernel) (by decide +kernel)
theorem m207 : (Jvm.Cond.instanceMethod ({ cls := "ChartKnitter$Row", name := "<init>", desc := "()V" } : Jvm.MethodName)) ∈ xall := mx 207 (by decide +kernel) (by decide +kernel)
theorem m208 : (Jvm.Cond.code ({ cls := "ChartKnitter$Row", name := "<init>", desc := "()V" } : Jvm.MethodName) prog_7_method_1_code (1 : Nat) (Option.none : Option Jvm.ClassFile.FieldType)) ∈ xall := mx 208 (by decide +kernel) (by decide +kernel)
theorem m209 : (Jvm.Cond.methodLink "ChartKnitter$Row" (3 : Nat) ({ cls := "java/lang/Object", name := "<init>", desc := "()V" } : Jvm.MethodName)) ∈ xall := mx 209 (by decide +kernel) (by decide +kernel)
theorem m210 : (Jvm.Cond.fieldLink "ChartKnitter$Row" (9 : Nat) "ChartKnitter$Row" "columns" "I") ∈ xall := mx 210 (by decide +kernel) (by decide +kernel)
theorem m211 : (Jvm.Cond.fieldLink "ChartKnitter" (101 : Nat) "ChartKnitter$Row" "columns" "I") ∈ xall := mx 211 (by decide +kernel) (by decide +kernel)
theorem m212 : (Jvm.Cond.fieldLink "ChartKnitter$Row" (15 : Nat) "ChartKnitter$Row" "stacks" "[I") ∈ xall := mx 212 (by decide +kernel) (by decide +kernel)
theorem m213 : (Jvm.Cond.fieldLink "ChartKnitter$Row" (19 : Nat) "ChartKnitter$Row" "sizes" "[I") ∈ xall := mx 213 (by decide +kernel) (by decide +kernel)
theorem m214 : (Jvm.Cond.fieldLink "ChartKnitter$Crossings" (51 : Nat) "ChartKnitter$Row" "sizes" "[I") ∈ xall := mx 214 (by decide +kernel) (by decide +kernel)
theorem m215 : (Jvm.Cond.fieldLink "ChartKnitter$Chart" (82 : Nat) "ChartKnitter$Row" "sizes" "[I") ∈ xall := mx 215 (by decide +kernel) (by decide +kernel)
theorem m216 : (Jvm.Cond.fieldLink "ChartKnitter" (126 : Nat) "ChartKnitter$Row" "sizes" "[I") ∈ xall := mx 216 (by decide +kernel) (by decide +kernel)
theorem m217 : (Jvm.Cond.fieldLink "ChartKnitter$Row" (22 : Nat) "ChartKnitter$Row" "beds" "[I") ∈ xall := mx 217 (by decide +kernel) (by decide +kernel)
theorem m218 : (Jvm.Cond.fieldLink "ChartKnitter$Machine" (52 : Nat) "ChartKnitter$Row" "beds" "[I") ∈ xall := mx 218 (by decide +kernel) (by decide +kernel)
theorem m219 : (Jvm.Cond.fieldLink "ChartKnitter" (84 : Nat) "ChartKnitter$Row" "beds" "[I") ∈ xall := mx 219 (by decide +kernel) (by decide +kernel)
theorem m220 : (Jvm.Cond.fieldLink "ChartKnitter$Stitch" (38 : Nat) "ChartKnitter$Row" "beds" "[I") ∈ xall := mx 220 (by decide +kernel) (by decide +kernel)
theorem m221 : (Jvm.Cond.fieldLink "ChartKnitter$Row" (25 : Nat) "ChartKnitter$Row" "sides" "[I") ∈ xall := mx 221 (by decide +kernel) (by decide +kernel)
theorem m222 : (Jvm.Cond.fieldLink "ChartKnitter" (98 : Nat) "ChartKnitter$Row" "sides" "[I") ∈ xall := mx 222 (by decide +kernel) (by decide +kernel)
theorem m223 : (Jvm.Cond.fieldLink "ChartKnitter$Row" (28 : Nat) "ChartKnitter$Row" "loops" "I") ∈ xall := mx 223 (by decide +kernel) (by decide +kernel)
theorem m224 : (Jvm.Cond.fieldLink "ChartKnitter" (91 : Nat) "ChartKnitter$Row" "loops" "I") ∈ xall := mx 224 (by decide +kernel) (by decide +kernel)
theorem m225 : (Jvm.Cond.fieldLink "ChartKnitter$Row" (31 : Nat) "ChartKnitter$Row" "dropped" "I") ∈ xall := mx 225 (by decide +kernel) (by decide +kernel)
theorem m226 : (Jvm.Cond.fieldLink "ChartKnitter" (93 : Nat) "ChartKnitter$Row" "dropped" "I") ∈ xall := mx 226 (by decide +kernel) (by decide +kernel)
theorem m227 : (Jvm.Cond.fieldLink "ChartKnitter$Row" (34 : Nat) "ChartKnitter$Row" "crossings" "I") ∈ xall := mx 227 (by decide +kernel) (by decide +kernel)
theorem m228 : (Jvm.Cond.fieldLink "ChartKnitter" (96 : Nat) "ChartKnitter$Row" "crossings" "I") ∈ xall := mx 228 (by decide +kernel) (by decide +kernel)
theorem m229 : (Jvm.Cond.fieldLink "ChartKnitter$Row" (37 : Nat) "ChartKnitter$Row" "transfers" "I") ∈ xall := mx 229 (by decide +kernel) (by decide +kernel)
theorem m230 : (Jvm.Cond.fieldLink "ChartKnitter" (144 : Nat) "ChartKnitter$Row" "transfers" "I") ∈ xall := mx 230 (by decide +kernel) (by decide +kernel)
theorem m231 : (Jvm.Cond.fieldLink "ChartKnitter$Row" (40 : Nat) "ChartKnitter$Row" "rackings" "I") ∈ xall := mx 231 (by decide +kernel) (by decide +kernel)
theorem m232 : (Jvm.Cond.fieldLink "ChartKnitter" (147 : Nat) "ChartKnitter$Row" "rackings" "I") ∈ xall := mx 232 (by decide +kernel) (by decide +kernel)
theorem m233 : (Jvm.Cond.fieldLink "ChartKnitter$Row" (43 : Nat) "ChartKnitter$Row" "released" "I") ∈ xall := mx 233 (by decide +kernel) (by decide +kernel)
theorem m234 : (Jvm.Cond.fieldLink "ChartKnitter" (150 : Nat) "ChartKnitter$Row" "released" "I") ∈ xall := mx 234 (by decide +kernel) (by decide +kernel)
theorem m235 : (Jvm.Cond.fieldLink "ChartKnitter$Row" (46 : Nat) "ChartKnitter$Row" "made" "I") ∈ xall := mx 235 (by decide +kernel) (by decide +kernel)
theorem m236 : (Jvm.Cond.fieldLink "ChartKnitter" (153 : Nat) "ChartKnitter$Row" "made" "I") ∈ xall := mx 236 (by decide +kernel) (by decide +kernel)
theorem m237 : (Jvm.Cond.fieldLink "ChartKnitter$Row" (49 : Nat) "ChartKnitter$Row" "crossedPairs" "I") ∈ xall := mx 237 (by decide +kernel) (by decide +kernel)
theorem m238 : (Jvm.Cond.fieldLink "ChartKnitter" (156 : Nat) "ChartKnitter$Row" "crossedPairs" "I") ∈ xall := mx 238 (by decide +kernel) (by decide +kernel)
theorem m239 : (Jvm.Cond.lays "ChartKnitter$Row" "ChartKnitter$Row" "columns" "I") ∈ xall := mx 239 (by decide +kernel) (by decide +kernel)
theorem m241 : (Jvm.Cond.laysFinal "ChartKnitter$Row" "ChartKnitter$Row" "stacks" "[I") ∈ xall := mx 241 (by decide +kernel) (by decide +kernel)
theorem m243 : (Jvm.Cond.laysFinal "ChartKnitter$Row" "ChartKnitter$Row" "sizes" "[I") ∈ xall := mx 243 (by decide +kernel) (by decide +kernel)
theorem m245 : (Jvm.Cond.laysFinal "ChartKnitter$Row" "ChartKnitter$Row" "beds" "[I") ∈ xall := mx 245 (by decide +kernel) (by decide +kernel)
theorem m247 : (Jvm.Cond.laysFinal "ChartKnitter$Row" "ChartKnitter$Row" "sides" "[I") ∈ xall := mx 247 (by decide +kernel) (by decide +kernel)
theorem m249 : (Jvm.Cond.lays "ChartKnitter$Row" "ChartKnitter$Row" "loops" "I") ∈ xall := mx 249 (by decide +kernel) (by decide +kernel)
theorem m251 : (Jvm.Cond.lays "ChartKnitter$Row" "ChartKnitter$Row" "dropped" "I") ∈ xall := mx 251 (by decide +kernel) (by decide +kernel)
theorem m253 : (Jvm.Cond.lays "ChartKnitter$Row" "ChartKnitter$Row" "crossings" "I") ∈ xall := mx 253 (by decide +kernel) (by decide +kernel)
theorem m255 : (Jvm.Cond.lays "ChartKnitter$Row" "ChartKnitter$Row" "transfers" "I") ∈ xall := mx 255 (by decide +kernel) (by decide +kernel)
theorem m257 : (Jvm.Cond.lays "ChartKnitter$Row" "ChartKnitter$Row" "rackings" "I") ∈ xall := mx 257 (by decide +kernel) (by decide +kernel)
theorem m259 : (Jvm.Cond.lays "ChartKnitter$Row" "ChartKnitter$Row" "released" "I") ∈ xall := mx 259 (by decide +kernel) (by decide +kernel)
theorem m261 : (Jvm.Cond.lays "ChartKnitter$Row" "ChartKnitter$Row" "made" "I") ∈ xall := mx 261 (by decide +kernel) (by decide +kernel)
theorem m263 : (Jvm.Cond.lays "ChartKnitter$Row" "ChartKnitter$Row" "crossedPairs" "I") ∈ xall := mx 263 (by decide +kernel) (by decide +kernel)
theorem m266 : (Jvm.Cond.fieldLink "ChartKnitter" (12 : Nat) "ChartKnitter" "chart" "LChartKnitter$Chart;") ∈ xall := mx 266 (by decide +kernel) (by decide +kernel)
theorem m267 : (Jvm.Cond.fieldLink "ChartKnitter" (19 : Nat) "ChartKnitter" "plan" "LChartKnitter$Plan;") ∈ xall := mx 267 (by decide +kernel) (by decide +kernel)
theorem m268 : (Jvm.Cond.fieldLink "ChartKnitter" (26 : Nat) "ChartKnitter" "machine" "LChartKnitter$Machine;") ∈ xall := mx 268 (by decide +kernel) (by decide +kernel)
theorem m269 : (Jvm.Cond.fieldLink "ChartKnitter" (33 : Nat) "ChartKnitter" "loops" "LChartKnitter$Loops;") ∈ xall := mx 269 (by decide +kernel) (by decide +kernel)
theorem m270 : (Jvm.Cond.fieldLink "ChartKnitter" (40 : Nat) "ChartKnitter" "crossings" "LChartKnitter$Crossings;") ∈ xall := mx 270 (by decide +kernel) (by decide +kernel)
theorem m271 : (Jvm.Cond.fieldLink "ChartKnitter" (46 : Nat) "ChartKnitter" "rows" "[LChartKnitter$Row;") ∈ xall := mx 271 (by decide +kernel) (by decide +kernel)
theorem m272 : (Jvm.Cond.fieldLink "ChartKnitter" (50 : Nat) "ChartKnitter" "lastRow" "I") ∈ xall := mx 272 (by decide +kernel) (by decide +kernel)
theorem m273 : (Jvm.Cond.fieldLink "ChartKnitter" (54 : Nat) "ChartKnitter" "faultPlace" "I") ∈ xall := mx 273 (by decide +kernel) (by decide +kernel)
theorem m274 : (Jvm.Cond.laysFinal "ChartKnitter" "ChartKnitter" "chart" "LChartKnitter$Chart;") ∈ xall := mx 274 (by decide +kernel) (by decide +kernel)
theorem m276 : (Jvm.Cond.laysFinal "ChartKnitter" "ChartKnitter" "plan" "LChartKnitter$Plan;") ∈ xall := mx 276 (by decide +kernel) (by decide +kernel)
theorem m278 : (Jvm.Cond.laysFinal "ChartKnitter" "ChartKnitter" "machine" "LChartKnitter$Machine;") ∈ xall := mx 278 (by decide +kernel) (by decide +kernel)
theorem m280 : (Jvm.Cond.laysFinal "ChartKnitter" "ChartKnitter" "loops" "LChartKnitter$Loops;") ∈ xall := mx 280 (by decide +kernel) (by decide +kernel)
theorem m282 : (Jvm.Cond.laysFinal "ChartKnitter" "ChartKnitter" "crossings" "LChartKnitter$Crossings;") ∈ xall := mx 282 (by decide +kernel) (by decide +kernel)
theorem m284 : (Jvm.Cond.laysFinal "ChartKnitter" "ChartKnitter" "rows" "[LChartKnitter$Row;") ∈ xall := mx 284 (by decide +kernel) (by decide +kernel)
theorem m286 : (Jvm.Cond.lays "ChartKnitter" "ChartKnitter" "lastRow" "I") ∈ xall := mx 286 (by decide +kernel) (by decide +kernel)
theorem m288 : (Jvm.Cond.lays "ChartKnitter" "ChartKnitter" "faultPlace" "I") ∈ xall := mx 288 (by decide +kernel) (by decide +kernel)
theorem m295 : (Jvm.Cond.methodLink "ChartKnitter" (58 : Nat) ({ cls := "ChartKnitter", name := "byteOf", desc := "(JI)I" } : Jvm.MethodName)) ∈ xall := mx 295 (by decide +kernel) (by decide +kernel)
theorem m296 : (Jvm.Cond.static ({ cls := "ChartKnitter", name := "byteOf", desc := "(JI)I" } : Jvm.MethodName)) ∈ xall := mx 296 (by decide +kernel) (by decide +kernel)
theorem m297 : (Jvm.Cond.code ({ cls := "ChartKnitter", name := "byteOf", desc := "(JI)I" } : Jvm.MethodName) prog_1_method_19_code (3 : Nat) (Option.some Jvm.ClassFile.FieldType.int)) ∈ xall := mx 297 (by decide +kernel) (by decide +kernel)
theorem m298 : (Jvm.Cond.constantLong "ChartKnitter" (192 : Nat) (255 : Int64)) ∈ xall := mx 298 (by decide +kernel) (by decide +kernel)
theorem m311 : (Jvm.Cond.methodLink "ChartKnitter" (132 : Nat) ({ cls := "ChartKnitter$Row", name := "loopAt", desc := "(II)I" } : Jvm.MethodName)) ∈ xall := mx 311 (by decide +kernel) (by decide +kernel)
theorem m312 : (Jvm.Cond.instanceMethod ({ cls := "ChartKnitter$Row", name := "loopAt", desc := "(II)I" } : Jvm.MethodName)) ∈ xall := mx 312 (by decide +kernel) (by decide +kernel)
theorem m313 : (Jvm.Cond.selects "ChartKnitter$Row" ({ cls := "ChartKnitter$Row", name := "loopAt", desc := "(II)I" } : Jvm.MethodName) ({ cls := "ChartKnitter$Row", name := "loopAt", desc := "(II)I" } : Jvm.MethodName)) ∈ xall := mx 313 (by decide +kernel) (by decide +kernel)
theorem m314 : (Jvm.Cond.code ({ cls := "ChartKnitter$Row", name := "loopAt", desc := "(II)I" } : Jvm.MethodName) prog_7_method_4_code (3 : Nat) (Option.some Jvm.ClassFile.FieldType.int)) ∈ xall := mx 314 (by decide +kernel) (by decide +kernel)
theorem m323 : (Jvm.Cond.methodLink "ChartKnitter" (189 : Nat) ({ cls := "ChartKnitter$Row", name := "hasColumn", desc := "(I)Z" } : Jvm.MethodName)) ∈ xall := mx 323 (by decide +kernel) (by decide +kernel)
theorem m324 : (Jvm.Cond.instanceMethod ({ cls := "ChartKnitter$Row", name := "hasColumn", desc := "(I)Z" } : Jvm.MethodName)) ∈ xall := mx 324 (by decide +kernel) (by decide +kernel)
theorem m325 : (Jvm.Cond.selects "ChartKnitter$Row" ({ cls := "ChartKnitter$Row", name := "hasColumn", desc := "(I)Z" } : Jvm.MethodName) ({ cls := "ChartKnitter$Row", name := "hasColumn", desc := "(I)Z" } : Jvm.MethodName)) ∈ xall := mx 325 (by decide +kernel) (by decide +kernel)
theorem m326 : (Jvm.Cond.code ({ cls := "ChartKnitter$Row", name := "hasColumn", desc := "(I)Z" } : Jvm.MethodName) prog_7_method_3_code (2 : Nat) (Option.some Jvm.ClassFile.FieldType.boolean)) ∈ xall := mx 326 (by decide +kernel) (by decide +kernel)
theorem m335 : (Jvm.Cond.methodLink "ChartKnitter" (109 : Nat) ({ cls := "ChartKnitter", name := "isCarrier", desc := "(I)Z" } : Jvm.MethodName)) ∈ xall := mx 335 (by decide +kernel) (by decide +kernel)
theorem m336 : (Jvm.Cond.static ({ cls := "ChartKnitter", name := "isCarrier", desc := "(I)Z" } : Jvm.MethodName)) ∈ xall := mx 336 (by decide +kernel) (by decide +kernel)
theorem m337 : (Jvm.Cond.code ({ cls := "ChartKnitter", name := "isCarrier", desc := "(I)Z" } : Jvm.MethodName) prog_1_method_18_code (1 : Nat) (Option.some Jvm.ClassFile.FieldType.boolean)) ∈ xall := mx 337 (by decide +kernel) (by decide +kernel)
theorem m414 : (Jvm.Cond.methodLink "ChartKnitter" (76 : Nat) ({ cls := "ChartKnitter$Row", name := "begin", desc := "(I)V" } : Jvm.MethodName)) ∈ xall := mx 414 (by decide +kernel) (by decide +kernel)
theorem m415 : (Jvm.Cond.instanceMethod ({ cls := "ChartKnitter$Row", name := "begin", desc := "(I)V" } : Jvm.MethodName)) ∈ xall := mx 415 (by decide +kernel) (by decide +kernel)
theorem m416 : (Jvm.Cond.selects "ChartKnitter$Row" ({ cls := "ChartKnitter$Row", name := "begin", desc := "(I)V" } : Jvm.MethodName) ({ cls := "ChartKnitter$Row", name := "begin", desc := "(I)V" } : Jvm.MethodName)) ∈ xall := mx 416 (by decide +kernel) (by decide +kernel)
theorem m417 : (Jvm.Cond.code ({ cls := "ChartKnitter$Row", name := "begin", desc := "(I)V" } : Jvm.MethodName) prog_7_method_2_code (3 : Nat) (Option.none : Option Jvm.ClassFile.FieldType)) ∈ xall := mx 417 (by decide +kernel) (by decide +kernel)
theorem m418 : (Jvm.Cond.methodLink "ChartKnitter" (80 : Nat) ({ cls := "ChartKnitter$Loops", name := "make", desc := "(IIIII)V" } : Jvm.MethodName)) ∈ xall := mx 418 (by decide +kernel) (by decide +kernel)
theorem m419 : (Jvm.Cond.instanceMethod ({ cls := "ChartKnitter$Loops", name := "make", desc := "(IIIII)V" } : Jvm.MethodName)) ∈ xall := mx 419 (by decide +kernel) (by decide +kernel)
theorem m420 : (Jvm.Cond.selects "ChartKnitter$Loops" ({ cls := "ChartKnitter$Loops", name := "make", desc := "(IIIII)V" } : Jvm.MethodName) ({ cls := "ChartKnitter$Loops", name := "make", desc := "(IIIII)V" } : Jvm.MethodName)) ∈ xall := mx 420 (by decide +kernel) (by decide +kernel)
theorem m421 : (Jvm.Cond.code ({ cls := "ChartKnitter$Loops", name := "make", desc := "(IIIII)V" } : Jvm.MethodName) prog_4_method_2_code (7 : Nat) (Option.none : Option Jvm.ClassFile.FieldType)) ∈ xall := mx 421 (by decide +kernel) (by decide +kernel)
theorem m422 : (Jvm.Cond.methodLink "ChartKnitter" (87 : Nat) ({ cls := "ChartKnitter$Row", name := "push", desc := "(II)V" } : Jvm.MethodName)) ∈ xall := mx 422 (by decide +kernel) (by decide +kernel)
theorem m423 : (Jvm.Cond.instanceMethod ({ cls := "ChartKnitter$Row", name := "push", desc := "(II)V" } : Jvm.MethodName)) ∈ xall := mx 423 (by decide +kernel) (by decide +kernel)
theorem m424 : (Jvm.Cond.selects "ChartKnitter$Row" ({ cls := "ChartKnitter$Row", name := "push", desc := "(II)V" } : Jvm.MethodName) ({ cls := "ChartKnitter$Row", name := "push", desc := "(II)V" } : Jvm.MethodName)) ∈ xall := mx 424 (by decide +kernel) (by decide +kernel)
theorem m425 : (Jvm.Cond.code ({ cls := "ChartKnitter$Row", name := "push", desc := "(II)V" } : Jvm.MethodName) prog_7_method_5_code (3 : Nat) (Option.none : Option Jvm.ClassFile.FieldType)) ∈ xall := mx 425 (by decide +kernel) (by decide +kernel)
theorem m451 : (Jvm.Cond.methodLink "ChartKnitter" (115 : Nat) ({ cls := "ChartKnitter", name := "faultOfChart", desc := "()I" } : Jvm.MethodName)) ∈ xall := mx 451 (by decide +kernel) (by decide +kernel)
theorem m453 : (Jvm.Cond.instanceMethod ({ cls := "ChartKnitter", name := "faultOfChart", desc := "()I" } : Jvm.MethodName)) ∈ xall := mx 453 (by decide +kernel) (by decide +kernel)
theorem m454 : (Jvm.Cond.code ({ cls := "ChartKnitter", name := "faultOfChart", desc := "()I" } : Jvm.MethodName) prog_1_method_21_code (5 : Nat) (Option.some Jvm.ClassFile.FieldType.int)) ∈ xall := mx 454 (by decide +kernel) (by decide +kernel)
theorem m455 : (Jvm.Cond.methodLink "ChartKnitter" (194 : Nat) ({ cls := "ChartKnitter$Chart", name := "read", desc := "()I" } : Jvm.MethodName)) ∈ xall := mx 455 (by decide +kernel) (by decide +kernel)
theorem m456 : (Jvm.Cond.instanceMethod ({ cls := "ChartKnitter$Chart", name := "read", desc := "()I" } : Jvm.MethodName)) ∈ xall := mx 456 (by decide +kernel) (by decide +kernel)
theorem m457 : (Jvm.Cond.selects "ChartKnitter$Chart" ({ cls := "ChartKnitter$Chart", name := "read", desc := "()I" } : Jvm.MethodName) ({ cls := "ChartKnitter$Chart", name := "read", desc := "()I" } : Jvm.MethodName)) ∈ xall := mx 457 (by decide +kernel) (by decide +kernel)
theorem m458 : (Jvm.Cond.code ({ cls := "ChartKnitter$Chart", name := "read", desc := "()I" } : Jvm.MethodName) prog_2_method_2_code (3 : Nat) (Option.some Jvm.ClassFile.FieldType.int)) ∈ xall := mx 458 (by decide +kernel) (by decide +kernel)
theorem m459 : (Jvm.Cond.methodLink "ChartKnitter$Chart" (38 : Nat) ({ cls := "ChartKnitter$Stitch", name := "isSign", desc := "(I)Z" } : Jvm.MethodName)) ∈ xall := mx 459 (by decide +kernel) (by decide +kernel)
theorem m460 : (Jvm.Cond.static ({ cls := "ChartKnitter$Stitch", name := "isSign", desc := "(I)Z" } : Jvm.MethodName)) ∈ xall := mx 460 (by decide +kernel) (by decide +kernel)
theorem m461 : (Jvm.Cond.code ({ cls := "ChartKnitter$Stitch", name := "isSign", desc := "(I)Z" } : Jvm.MethodName) prog_8_method_2_code (1 : Nat) (Option.some Jvm.ClassFile.FieldType.boolean)) ∈ xall := mx 461 (by decide +kernel) (by decide +kernel)
theorem m462 : (Jvm.Cond.methodLink "ChartKnitter$Chart" (42 : Nat) ({ cls := "ChartKnitter$Stitch", name := "isCrossingSign", desc := "(I)Z" } : Jvm.MethodName)) ∈ xall := mx 462 (by decide +kernel) (by decide +kernel)
theorem m463 : (Jvm.Cond.static ({ cls := "ChartKnitter$Stitch", name := "isCrossingSign", desc := "(I)Z" } : Jvm.MethodName)) ∈ xall := mx 463 (by decide +kernel) (by decide +kernel)
theorem m464 : (Jvm.Cond.code ({ cls := "ChartKnitter$Stitch", name := "isCrossingSign", desc := "(I)Z" } : Jvm.MethodName) prog_8_method_3_code (1 : Nat) (Option.some Jvm.ClassFile.FieldType.boolean)) ∈ xall := mx 464 (by decide +kernel) (by decide +kernel)
theorem m465 : (Jvm.Cond.methodLink "ChartKnitter$Chart" (45 : Nat) ({ cls := "ChartKnitter$Chart", name := "digitAt", desc := "(I)I" } : Jvm.MethodName)) ∈ xall := mx 465 (by decide +kernel) (by decide +kernel)
theorem m467 : (Jvm.Cond.instanceMethod ({ cls := "ChartKnitter$Chart", name := "digitAt", desc := "(I)I" } : Jvm.MethodName)) ∈ xall := mx 467 (by decide +kernel) (by decide +kernel)
theorem m468 : (Jvm.Cond.code ({ cls := "ChartKnitter$Chart", name := "digitAt", desc := "(I)I" } : Jvm.MethodName) prog_2_method_3_code (2 : Nat) (Option.some Jvm.ClassFile.FieldType.int)) ∈ xall := mx 468 (by decide +kernel) (by decide +kernel)
theorem m469 : (Jvm.Cond.methodLink "ChartKnitter$Chart" (49 : Nat) ({ cls := "ChartKnitter$Chart", name := "add", desc := "(IZ)V" } : Jvm.MethodName)) ∈ xall := mx 469 (by decide +kernel) (by decide +kernel)
theorem m471 : (Jvm.Cond.instanceMethod ({ cls := "ChartKnitter$Chart", name := "add", desc := "(IZ)V" } : Jvm.MethodName)) ∈ xall := mx 471 (by decide +kernel) (by decide +kernel)
theorem m472 : (Jvm.Cond.code ({ cls := "ChartKnitter$Chart", name := "add", desc := "(IZ)V" } : Jvm.MethodName) prog_2_method_4_code (4 : Nat) (Option.none : Option Jvm.ClassFile.FieldType)) ∈ xall := mx 472 (by decide +kernel) (by decide +kernel)
theorem m473 : (Jvm.Cond.methodLink "ChartKnitter$Chart" (71 : Nat) ({ cls := "ChartKnitter$Stitch", name := "takes", desc := "()I" } : Jvm.MethodName)) ∈ xall := mx 473 (by decide +kernel) (by decide +kernel)
theorem m474 : (Jvm.Cond.instanceMethod ({ cls := "ChartKnitter$Stitch", name := "takes", desc := "()I" } : Jvm.MethodName)) ∈ xall := mx 474 (by decide +kernel) (by decide +kernel)
theorem m475 : (Jvm.Cond.selects "ChartKnitter$Stitch" ({ cls := "ChartKnitter$Stitch", name := "takes", desc := "()I" } : Jvm.MethodName) ({ cls := "ChartKnitter$Stitch", name := "takes", desc := "()I" } : Jvm.MethodName)) ∈ xall := mx 475 (by decide +kernel) (by decide +kernel)
theorem m476 : (Jvm.Cond.code ({ cls := "ChartKnitter$Stitch", name := "takes", desc := "()I" } : Jvm.MethodName) prog_8_method_5_code (1 : Nat) (Option.some Jvm.ClassFile.FieldType.int)) ∈ xall := mx 476 (by decide +kernel) (by decide +kernel)
theorem m477 : (Jvm.Cond.methodLink "ChartKnitter$Chart" (75 : Nat) ({ cls := "ChartKnitter$Stitch", name := "gives", desc := "()I" } : Jvm.MethodName)) ∈ xall := mx 477 (by decide +kernel) (by decide +kernel)
theorem m478 : (Jvm.Cond.instanceMethod ({ cls := "ChartKnitter$Stitch", name := "gives", desc := "()I" } : Jvm.MethodName)) ∈ xall := mx 478 (by decide +kernel) (by decide +kernel)
theorem m479 : (Jvm.Cond.selects "ChartKnitter$Stitch" ({ cls := "ChartKnitter$Stitch", name := "gives", desc := "()I" } : Jvm.MethodName) ({ cls := "ChartKnitter$Stitch", name := "gives", desc := "()I" } : Jvm.MethodName)) ∈ xall := mx 479 (by decide +kernel) (by decide +kernel)
theorem m480 : (Jvm.Cond.code ({ cls := "ChartKnitter$Stitch", name := "gives", desc := "()I" } : Jvm.MethodName) prog_8_method_6_code (1 : Nat) (Option.some Jvm.ClassFile.FieldType.int)) ∈ xall := mx 480 (by decide +kernel) (by decide +kernel)
theorem m481 : (Jvm.Cond.methodLink "ChartKnitter$Chart" (78 : Nat) ({ cls := "ChartKnitter$Stitch", name := "makesLoop", desc := "()Z" } : Jvm.MethodName)) ∈ xall := mx 481 (by decide +kernel) (by decide +kernel)
theorem m482 : (Jvm.Cond.instanceMethod ({ cls := "ChartKnitter$Stitch", name := "makesLoop", desc := "()Z" } : Jvm.MethodName)) ∈ xall := mx 482 (by decide +kernel) (by decide +kernel)
theorem m483 : (Jvm.Cond.selects "ChartKnitter$Stitch" ({ cls := "ChartKnitter$Stitch", name := "makesLoop", desc := "()Z" } : Jvm.MethodName) ({ cls := "ChartKnitter$Stitch", name := "makesLoop", desc := "()Z" } : Jvm.MethodName)) ∈ xall := mx 483 (by decide +kernel) (by decide +kernel)
theorem m484 : (Jvm.Cond.code ({ cls := "ChartKnitter$Stitch", name := "makesLoop", desc := "()Z" } : Jvm.MethodName) prog_8_method_7_code (1 : Nat) (Option.some Jvm.ClassFile.FieldType.boolean)) ∈ xall := mx 484 (by decide +kernel) (by decide +kernel)
theorem m485 : (Jvm.Cond.methodLink "ChartKnitter" (203 : Nat) ({ cls := "ChartKnitter$Plan", name := "make", desc := "(LChartKnitter$Chart;)V" } : Jvm.MethodName)) ∈ xall := mx 485 (by decide +kernel) (by decide +kernel)
theorem m486 : (Jvm.Cond.instanceMethod ({ cls := "ChartKnitter$Plan", name := "make", desc := "(LChartKnitter$Chart;)V" } : Jvm.MethodName)) ∈ xall := mx 486 (by decide +kernel) (by decide +kernel)
theorem m487 : (Jvm.Cond.selects "ChartKnitter$Plan" ({ cls := "ChartKnitter$Plan", name := "make", desc := "(LChartKnitter$Chart;)V" } : Jvm.MethodName) ({ cls := "ChartKnitter$Plan", name := "make", desc := "(LChartKnitter$Chart;)V" } : Jvm.MethodName)) ∈ xall := mx 487 (by decide +kernel) (by decide +kernel)
theorem m488 : (Jvm.Cond.code ({ cls := "ChartKnitter$Plan", name := "make", desc := "(LChartKnitter$Chart;)V" } : Jvm.MethodName) prog_6_method_2_code (6 : Nat) (Option.none : Option Jvm.ClassFile.FieldType)) ∈ xall := mx 488 (by decide +kernel) (by decide +kernel)
theorem m489 : (Jvm.Cond.methodLink "ChartKnitter$Plan" (44 : Nat) ({ cls := "ChartKnitter$Stitch", name := "takes", desc := "()I" } : Jvm.MethodName)) ∈ xall := mx 489 (by decide +kernel) (by decide +kernel)
theorem m490 : (Jvm.Cond.methodLink "ChartKnitter$Plan" (51 : Nat) ({ cls := "ChartKnitter$Stitch", name := "goalOf", desc := "(I)I" } : Jvm.MethodName)) ∈ xall := mx 490 (by decide +kernel) (by decide +kernel)
theorem m491 : (Jvm.Cond.instanceMethod ({ cls := "ChartKnitter$Stitch", name := "goalOf", desc := "(I)I" } : Jvm.MethodName)) ∈ xall := mx 491 (by decide +kernel) (by decide +kernel)
theorem m492 : (Jvm.Cond.selects "ChartKnitter$Stitch" ({ cls := "ChartKnitter$Stitch", name := "goalOf", desc := "(I)I" } : Jvm.MethodName) ({ cls := "ChartKnitter$Stitch", name := "goalOf", desc := "(I)I" } : Jvm.MethodName)) ∈ xall := mx 492 (by decide +kernel) (by decide +kernel)
theorem m493 : (Jvm.Cond.code ({ cls := "ChartKnitter$Stitch", name := "goalOf", desc := "(I)I" } : Jvm.MethodName) prog_8_method_9_code (3 : Nat) (Option.some Jvm.ClassFile.FieldType.int)) ∈ xall := mx 493 (by decide +kernel) (by decide +kernel)
theorem m494 : (Jvm.Cond.methodLink "ChartKnitter$Stitch" (25 : Nat) ({ cls := "ChartKnitter$Stitch", name := "isCrossing", desc := "()Z" } : Jvm.MethodName)) ∈ xall := mx 494 (by decide +kernel) (by decide +kernel)
theorem m495 : (Jvm.Cond.instanceMethod ({ cls := "ChartKnitter$Stitch", name := "isCrossing", desc := "()Z" } : Jvm.MethodName)) ∈ xall := mx 495 (by decide +kernel) (by decide +kernel)
theorem m496 : (Jvm.Cond.selects "ChartKnitter$Stitch" ({ cls := "ChartKnitter$Stitch", name := "isCrossing", desc := "()Z" } : Jvm.MethodName) ({ cls := "ChartKnitter$Stitch", name := "isCrossing", desc := "()Z" } : Jvm.MethodName)) ∈ xall := mx 496 (by decide +kernel) (by decide +kernel)
theorem m497 : (Jvm.Cond.code ({ cls := "ChartKnitter$Stitch", name := "isCrossing", desc := "()Z" } : Jvm.MethodName) prog_8_method_4_code (1 : Nat) (Option.some Jvm.ClassFile.FieldType.boolean)) ∈ xall := mx 497 (by decide +kernel) (by decide +kernel)
theorem m498 : (Jvm.Cond.methodLink "ChartKnitter$Stitch" (15 : Nat) ({ cls := "ChartKnitter$Stitch", name := "isCrossingSign", desc := "(I)Z" } : Jvm.MethodName)) ∈ xall := mx 498 (by decide +kernel) (by decide +kernel)
theorem m499 : (Jvm.Cond.methodLink "ChartKnitter$Plan" (55 : Nat) ({ cls := "ChartKnitter$Stitch", name := "isLate", desc := "(I)Z" } : Jvm.MethodName)) ∈ xall := mx 499 (by decide +kernel) (by decide +kernel)
theorem m500 : (Jvm.Cond.instanceMethod ({ cls := "ChartKnitter$Stitch", name := "isLate", desc := "(I)Z" } : Jvm.MethodName)) ∈ xall := mx 500 (by decide +kernel) (by decide +kernel)
theorem m501 : (Jvm.Cond.selects "ChartKnitter$Stitch" ({ cls := "ChartKnitter$Stitch", name := "isLate", desc := "(I)Z" } : Jvm.MethodName) ({ cls := "ChartKnitter$Stitch", name := "isLate", desc := "(I)Z" } : Jvm.MethodName)) ∈ xall := mx 501 (by decide +kernel) (by decide +kernel)
theorem m502 : (Jvm.Cond.code ({ cls := "ChartKnitter$Stitch", name := "isLate", desc := "(I)Z" } : Jvm.MethodName) prog_8_method_10_code (3 : Nat) (Option.some Jvm.ClassFile.FieldType.boolean)) ∈ xall := mx 502 (by decide +kernel) (by decide +kernel)
theorem m503 : (Jvm.Cond.methodLink "ChartKnitter$Plan" (59 : Nat) ({ cls := "ChartKnitter$Stitch", name := "gives", desc := "()I" } : Jvm.MethodName)) ∈ xall := mx 503 (by decide +kernel) (by decide +kernel)
theorem m504 : (Jvm.Cond.methodLink "ChartKnitter" (206 : Nat) ({ cls := "ChartKnitter$Chart", name := "placeOfOverfull", desc := "(LChartKnitter$Row;)I" } : Jvm.MethodName)) ∈ xall := mx 504 (by decide +kernel) (by decide +kernel)
theorem m505 : (Jvm.Cond.instanceMethod ({ cls := "ChartKnitter$Chart", name := "placeOfOverfull", desc := "(LChartKnitter$Row;)I" } : Jvm.MethodName)) ∈ xall := mx 505 (by decide +kernel) (by decide +kernel)
theorem m506 : (Jvm.Cond.selects "ChartKnitter$Chart" ({ cls := "ChartKnitter$Chart", name := "placeOfOverfull", desc := "(LChartKnitter$Row;)I" } : Jvm.MethodName) ({ cls := "ChartKnitter$Chart", name := "placeOfOverfull", desc := "(LChartKnitter$Row;)I" } : Jvm.MethodName)) ∈ xall := mx 506 (by decide +kernel) (by decide +kernel)
theorem m507 : (Jvm.Cond.code ({ cls := "ChartKnitter$Chart", name := "placeOfOverfull", desc := "(LChartKnitter$Row;)I" } : Jvm.MethodName) prog_2_method_5_code (6 : Nat) (Option.some Jvm.ClassFile.FieldType.int)) ∈ xall := mx 507 (by decide +kernel) (by decide +kernel)
theorem m508 : (Jvm.Cond.methodLink "ChartKnitter$Chart" (87 : Nat) ({ cls := "ChartKnitter$Stitch", name := "isCrossing", desc := "()Z" } : Jvm.MethodName)) ∈ xall := mx 508 (by decide +kernel) (by decide +kernel)
theorem m509 : (Jvm.Cond.methodLink "ChartKnitter" (210 : Nat) ({ cls := "ChartKnitter$Plan", name := "placeOfTooFar", desc := "()I" } : Jvm.MethodName)) ∈ xall := mx 509 (by decide +kernel) (by decide +kernel)
theorem m510 : (Jvm.Cond.instanceMethod ({ cls := "ChartKnitter$Plan", name := "placeOfTooFar", desc := "()I" } : Jvm.MethodName)) ∈ xall := mx 510 (by decide +kernel) (by decide +kernel)
theorem m511 : (Jvm.Cond.selects "ChartKnitter$Plan" ({ cls := "ChartKnitter$Plan", name := "placeOfTooFar", desc := "()I" } : Jvm.MethodName) ({ cls := "ChartKnitter$Plan", name := "placeOfTooFar", desc := "()I" } : Jvm.MethodName)) ∈ xall := mx 511 (by decide +kernel) (by decide +kernel)
theorem m512 : (Jvm.Cond.code ({ cls := "ChartKnitter$Plan", name := "placeOfTooFar", desc := "()I" } : Jvm.MethodName) prog_6_method_3_code (2 : Nat) (Option.some Jvm.ClassFile.FieldType.int)) ∈ xall := mx 512 (by decide +kernel) (by decide +kernel)
theorem m513 : (Jvm.Cond.methodLink "ChartKnitter$Plan" (65 : Nat) ({ cls := "java/lang/Math", name := "abs", desc := "(I)I" } : Jvm.MethodName)) ∈ xall := mx 513 (by decide +kernel) (by decide +kernel)
theorem m514 : (Jvm.Cond.static ({ cls := "java/lang/Math", name := "abs", desc := "(I)I" } : Jvm.MethodName)) ∈ xall := mx 514 (by decide +kernel) (by decide +kernel)
theorem m515 : (Jvm.Cond.code ({ cls := "java/lang/Math", name := "abs", desc := "(I)I" } : Jvm.MethodName) prog_15_method_59_code (1 : Nat) (Option.some Jvm.ClassFile.FieldType.int)) ∈ xall := mx 515 (by decide +kernel) (by decide +kernel)
theorem m516 : (Jvm.Cond.methodLink "ChartKnitter" (119 : Nat) ({ cls := "ChartKnitter", name := "faultOfRow", desc := "(I)I" } : Jvm.MethodName)) ∈ xall := mx 516 (by decide +kernel) (by decide +kernel)
theorem m518 : (Jvm.Cond.instanceMethod ({ cls := "ChartKnitter", name := "faultOfRow", desc := "(I)I" } : Jvm.MethodName)) ∈ xall := mx 518 (by decide +kernel) (by decide +kernel)
theorem m519 : (Jvm.Cond.code ({ cls := "ChartKnitter", name := "faultOfRow", desc := "(I)I" } : Jvm.MethodName) prog_1_method_22_code (3 : Nat) (Option.some Jvm.ClassFile.FieldType.int)) ∈ xall := mx 519 (by decide +kernel) (by decide +kernel)
theorem m520 : (Jvm.Cond.methodLink "ChartKnitter" (213 : Nat) ({ cls := "ChartKnitter", name := "endOf", desc := "(I)I" } : Jvm.MethodName)) ∈ xall := mx 520 (by decide +kernel) (by decide +kernel)
theorem m521 : (Jvm.Cond.static ({ cls := "ChartKnitter", name := "endOf", desc := "(I)I" } : Jvm.MethodName)) ∈ xall := mx 521 (by decide +kernel) (by decide +kernel)
theorem m522 : (Jvm.Cond.code ({ cls := "ChartKnitter", name := "endOf", desc := "(I)I" } : Jvm.MethodName) prog_1_method_20_code (1 : Nat) (Option.some Jvm.ClassFile.FieldType.int)) ∈ xall := mx 522 (by decide +kernel) (by decide +kernel)
theorem m523 : (Jvm.Cond.methodLink "ChartKnitter" (123 : Nat) ({ cls := "ChartKnitter", name := "knitNextRow", desc := "(I)V" } : Jvm.MethodName)) ∈ xall := mx 523 (by decide +kernel) (by decide +kernel)
theorem m525 : (Jvm.Cond.instanceMethod ({ cls := "ChartKnitter", name := "knitNextRow", desc := "(I)V" } : Jvm.MethodName)) ∈ xall := mx 525 (by decide +kernel) (by decide +kernel)
theorem m526 : (Jvm.Cond.code ({ cls := "ChartKnitter", name := "knitNextRow", desc := "(I)V" } : Jvm.MethodName) prog_1_method_23_code (5 : Nat) (Option.none : Option Jvm.ClassFile.FieldType)) ∈ xall := mx 526 (by decide +kernel) (by decide +kernel)
theorem m527 : (Jvm.Cond.methodLink "ChartKnitter" (217 : Nat) ({ cls := "ChartKnitter$Machine", name := "run", desc := "(LChartKnitter$Plan;LChartKnitter$Row;)V" } : Jvm.MethodName)) ∈ xall := mx 527 (by decide +kernel) (by decide +kernel)
theorem m528 : (Jvm.Cond.instanceMethod ({ cls := "ChartKnitter$Machine", name := "run", desc := "(LChartKnitter$Plan;LChartKnitter$Row;)V" } : Jvm.MethodName)) ∈ xall := mx 528 (by decide +kernel) (by decide +kernel)
theorem m529 : (Jvm.Cond.selects "ChartKnitter$Machine" ({ cls := "ChartKnitter$Machine", name := "run", desc := "(LChartKnitter$Plan;LChartKnitter$Row;)V" } : Jvm.MethodName) ({ cls := "ChartKnitter$Machine", name := "run", desc := "(LChartKnitter$Plan;LChartKnitter$Row;)V" } : Jvm.MethodName)) ∈ xall := mx 529 (by decide +kernel) (by decide +kernel)
theorem m530 : (Jvm.Cond.code ({ cls := "ChartKnitter$Machine", name := "run", desc := "(LChartKnitter$Plan;LChartKnitter$Row;)V" } : Jvm.MethodName) prog_5_method_2_code (3 : Nat) (Option.none : Option Jvm.ClassFile.FieldType)) ∈ xall := mx 530 (by decide +kernel) (by decide +kernel)
theorem m531 : (Jvm.Cond.methodLink "ChartKnitter$Machine" (21 : Nat) ({ cls := "ChartKnitter$Plan", name := "movesColumns", desc := "()Z" } : Jvm.MethodName)) ∈ xall := mx 531 (by decide +kernel) (by decide +kernel)
theorem m532 : (Jvm.Cond.instanceMethod ({ cls := "ChartKnitter$Plan", name := "movesColumns", desc := "()Z" } : Jvm.MethodName)) ∈ xall := mx 532 (by decide +kernel) (by decide +kernel)
theorem m533 : (Jvm.Cond.selects "ChartKnitter$Plan" ({ cls := "ChartKnitter$Plan", name := "movesColumns", desc := "()Z" } : Jvm.MethodName) ({ cls := "ChartKnitter$Plan", name := "movesColumns", desc := "()Z" } : Jvm.MethodName)) ∈ xall := mx 533 (by decide +kernel) (by decide +kernel)
theorem m534 : (Jvm.Cond.code ({ cls := "ChartKnitter$Plan", name := "movesColumns", desc := "()Z" } : Jvm.MethodName) prog_6_method_4_code (2 : Nat) (Option.some Jvm.ClassFile.FieldType.boolean)) ∈ xall := mx 534 (by decide +kernel) (by decide +kernel)
theorem m535 : (Jvm.Cond.methodLink "ChartKnitter$Machine" (27 : Nat) ({ cls := "ChartKnitter$Machine", name := "clearFront", desc := "(LChartKnitter$Plan;LChartKnitter$Row;)V" } : Jvm.MethodName)) ∈ xall := mx 535 (by decide +kernel) (by decide +kernel)
theorem m537 : (Jvm.Cond.instanceMethod ({ cls := "ChartKnitter$Machine", name := "clearFront", desc := "(LChartKnitter$Plan;LChartKnitter$Row;)V" } : Jvm.MethodName)) ∈ xall := mx 537 (by decide +kernel) (by decide +kernel)
theorem m538 : (Jvm.Cond.code ({ cls := "ChartKnitter$Machine", name := "clearFront", desc := "(LChartKnitter$Plan;LChartKnitter$Row;)V" } : Jvm.MethodName) prog_5_method_3_code (4 : Nat) (Option.none : Option Jvm.ClassFile.FieldType)) ∈ xall := mx 538 (by decide +kernel) (by decide +kernel)
theorem m539 : (Jvm.Cond.methodLink "ChartKnitter$Machine" (57 : Nat) ({ cls := "ChartKnitter$Machine", name := "transfer", desc := "(I)V" } : Jvm.MethodName)) ∈ xall := mx 539 (by decide +kernel) (by decide +kernel)
theorem m541 : (Jvm.Cond.instanceMethod ({ cls := "ChartKnitter$Machine", name := "transfer", desc := "(I)V" } : Jvm.MethodName)) ∈ xall := mx 541 (by decide +kernel) (by decide +kernel)
theorem m542 : (Jvm.Cond.code ({ cls := "ChartKnitter$Machine", name := "transfer", desc := "(I)V" } : Jvm.MethodName) prog_5_method_7_code (2 : Nat) (Option.none : Option Jvm.ClassFile.FieldType)) ∈ xall := mx 542 (by decide +kernel) (by decide +kernel)
theorem m543 : (Jvm.Cond.methodLink "ChartKnitter$Machine" (41 : Nat) ({ cls := "ChartKnitter$Machine", name := "rackTo", desc := "(I)V" } : Jvm.MethodName)) ∈ xall := mx 543 (by decide +kernel) (by decide +kernel)
theorem m545 : (Jvm.Cond.instanceMethod ({ cls := "ChartKnitter$Machine", name := "rackTo", desc := "(I)V" } : Jvm.MethodName)) ∈ xall := mx 545 (by decide +kernel) (by decide +kernel)
theorem m546 : (Jvm.Cond.code ({ cls := "ChartKnitter$Machine", name := "rackTo", desc := "(I)V" } : Jvm.MethodName) prog_5_method_8_code (2 : Nat) (Option.none : Option Jvm.ClassFile.FieldType)) ∈ xall := mx 546 (by decide +kernel) (by decide +kernel)
theorem m547 : (Jvm.Cond.methodLink "ChartKnitter$Machine" (31 : Nat) ({ cls := "ChartKnitter$Machine", name := "moveToGoals", desc := "(LChartKnitter$Plan;Z)V" } : Jvm.MethodName)) ∈ xall := mx 547 (by decide +kernel) (by decide +kernel)
theorem m549 : (Jvm.Cond.instanceMethod ({ cls := "ChartKnitter$Machine", name := "moveToGoals", desc := "(LChartKnitter$Plan;Z)V" } : Jvm.MethodName)) ∈ xall := mx 549 (by decide +kernel) (by decide +kernel)
theorem m550 : (Jvm.Cond.code ({ cls := "ChartKnitter$Machine", name := "moveToGoals", desc := "(LChartKnitter$Plan;Z)V" } : Jvm.MethodName) prog_5_method_4_code (4 : Nat) (Option.none : Option Jvm.ClassFile.FieldType)) ∈ xall := mx 550 (by decide +kernel) (by decide +kernel)
theorem m551 : (Jvm.Cond.methodLink "ChartKnitter$Machine" (35 : Nat) ({ cls := "ChartKnitter$Machine", name := "fillBack", desc := "(LChartKnitter$Plan;LChartKnitter$Row;)V" } : Jvm.MethodName)) ∈ xall := mx 551 (by decide +kernel) (by decide +kernel)
theorem m553 : (Jvm.Cond.instanceMethod ({ cls := "ChartKnitter$Machine", name := "fillBack", desc := "(LChartKnitter$Plan;LChartKnitter$Row;)V" } : Jvm.MethodName)) ∈ xall := mx 553 (by decide +kernel) (by decide +kernel)
theorem m554 : (Jvm.Cond.code ({ cls := "ChartKnitter$Machine", name := "fillBack", desc := "(LChartKnitter$Plan;LChartKnitter$Row;)V" } : Jvm.MethodName) prog_5_method_5_code (4 : Nat) (Option.none : Option Jvm.ClassFile.FieldType)) ∈ xall := mx 554 (by decide +kernel) (by decide +kernel)
theorem m555 : (Jvm.Cond.methodLink "ChartKnitter$Machine" (68 : Nat) ({ cls := "ChartKnitter$Stitch", name := "bedNeeded", desc := "(LChartKnitter$Row;)I" } : Jvm.MethodName)) ∈ xall := mx 555 (by decide +kernel) (by decide +kernel)
theorem m556 : (Jvm.Cond.instanceMethod ({ cls := "ChartKnitter$Stitch", name := "bedNeeded", desc := "(LChartKnitter$Row;)I" } : Jvm.MethodName)) ∈ xall := mx 556 (by decide +kernel) (by decide +kernel)
theorem m557 : (Jvm.Cond.selects "ChartKnitter$Stitch" ({ cls := "ChartKnitter$Stitch", name := "bedNeeded", desc := "(LChartKnitter$Row;)I" } : Jvm.MethodName) ({ cls := "ChartKnitter$Stitch", name := "bedNeeded", desc := "(LChartKnitter$Row;)I" } : Jvm.MethodName)) ∈ xall := mx 557 (by decide +kernel) (by decide +kernel)
theorem m558 : (Jvm.Cond.code ({ cls := "ChartKnitter$Stitch", name := "bedNeeded", desc := "(LChartKnitter$Row;)I" } : Jvm.MethodName) prog_8_method_11_code (2 : Nat) (Option.some Jvm.ClassFile.FieldType.int)) ∈ xall := mx 558 (by decide +kernel) (by decide +kernel)
theorem m559 : (Jvm.Cond.methodLink "ChartKnitter$Stitch" (35 : Nat) ({ cls := "ChartKnitter$Stitch", name := "keepsStack", desc := "()Z" } : Jvm.MethodName)) ∈ xall := mx 559 (by decide +kernel) (by decide +kernel)
theorem m560 : (Jvm.Cond.instanceMethod ({ cls := "ChartKnitter$Stitch", name := "keepsStack", desc := "()Z" } : Jvm.MethodName)) ∈ xall := mx 560 (by decide +kernel) (by decide +kernel)
theorem m561 : (Jvm.Cond.selects "ChartKnitter$Stitch" ({ cls := "ChartKnitter$Stitch", name := "keepsStack", desc := "()Z" } : Jvm.MethodName) ({ cls := "ChartKnitter$Stitch", name := "keepsStack", desc := "()Z" } : Jvm.MethodName)) ∈ xall := mx 561 (by decide +kernel) (by decide +kernel)
theorem m562 : (Jvm.Cond.code ({ cls := "ChartKnitter$Stitch", name := "keepsStack", desc := "()Z" } : Jvm.MethodName) prog_8_method_8_code (1 : Nat) (Option.some Jvm.ClassFile.FieldType.boolean)) ∈ xall := mx 562 (by decide +kernel) (by decide +kernel)
theorem m563 : (Jvm.Cond.methodLink "ChartKnitter$Machine" (38 : Nat) ({ cls := "ChartKnitter$Machine", name := "changeBeds", desc := "(LChartKnitter$Plan;LChartKnitter$Row;)V" } : Jvm.MethodName)) ∈ xall := mx 563 (by decide +kernel) (by decide +kernel)
theorem m565 : (Jvm.Cond.instanceMethod ({ cls := "ChartKnitter$Machine", name := "changeBeds", desc := "(LChartKnitter$Plan;LChartKnitter$Row;)V" } : Jvm.MethodName)) ∈ xall := mx 565 (by decide +kernel) (by decide +kernel)
theorem m566 : (Jvm.Cond.code ({ cls := "ChartKnitter$Machine", name := "changeBeds", desc := "(LChartKnitter$Plan;LChartKnitter$Row;)V" } : Jvm.MethodName) prog_5_method_6_code (4 : Nat) (Option.none : Option Jvm.ClassFile.FieldType)) ∈ xall := mx 566 (by decide +kernel) (by decide +kernel)
theorem m567 : (Jvm.Cond.methodLink "ChartKnitter" (223 : Nat) ({ cls := "ChartKnitter", name := "release", desc := "(LChartKnitter$Row;LChartKnitter$Row;)V" } : Jvm.MethodName)) ∈ xall := mx 567 (by decide +kernel) (by decide +kernel)
theorem m569 : (Jvm.Cond.instanceMethod ({ cls := "ChartKnitter", name := "release", desc := "(LChartKnitter$Row;LChartKnitter$Row;)V" } : Jvm.MethodName)) ∈ xall := mx 569 (by decide +kernel) (by decide +kernel)
theorem m570 : (Jvm.Cond.code ({ cls := "ChartKnitter", name := "release", desc := "(LChartKnitter$Row;LChartKnitter$Row;)V" } : Jvm.MethodName) prog_1_method_24_code (5 : Nat) (Option.none : Option Jvm.ClassFile.FieldType)) ∈ xall := mx 570 (by decide +kernel) (by decide +kernel)
theorem m571 : (Jvm.Cond.methodLink "ChartKnitter" (227 : Nat) ({ cls := "ChartKnitter", name := "bringToGoals", desc := "(LChartKnitter$Row;LChartKnitter$Row;Z)V" } : Jvm.MethodName)) ∈ xall := mx 571 (by decide +kernel) (by decide +kernel)
theorem m573 : (Jvm.Cond.instanceMethod ({ cls := "ChartKnitter", name := "bringToGoals", desc := "(LChartKnitter$Row;LChartKnitter$Row;Z)V" } : Jvm.MethodName)) ∈ xall := mx 573 (by decide +kernel) (by decide +kernel)
theorem m574 : (Jvm.Cond.code ({ cls := "ChartKnitter", name := "bringToGoals", desc := "(LChartKnitter$Row;LChartKnitter$Row;Z)V" } : Jvm.MethodName) prog_1_method_25_code (8 : Nat) (Option.none : Option Jvm.ClassFile.FieldType)) ∈ xall := mx 574 (by decide +kernel) (by decide +kernel)
theorem m575 : (Jvm.Cond.methodLink "ChartKnitter" (231 : Nat) ({ cls := "ChartKnitter", name := "noteCrossings", desc := "(LChartKnitter$Row;LChartKnitter$Row;)V" } : Jvm.MethodName)) ∈ xall := mx 575 (by decide +kernel) (by decide +kernel)
theorem m577 : (Jvm.Cond.instanceMethod ({ cls := "ChartKnitter", name := "noteCrossings", desc := "(LChartKnitter$Row;LChartKnitter$Row;)V" } : Jvm.MethodName)) ∈ xall := mx 577 (by decide +kernel) (by decide +kernel)
theorem m578 : (Jvm.Cond.code ({ cls := "ChartKnitter", name := "noteCrossings", desc := "(LChartKnitter$Row;LChartKnitter$Row;)V" } : Jvm.MethodName) prog_1_method_26_code (4 : Nat) (Option.none : Option Jvm.ClassFile.FieldType)) ∈ xall := mx 578 (by decide +kernel) (by decide +kernel)
theorem m579 : (Jvm.Cond.methodLink "ChartKnitter" (253 : Nat) ({ cls := "ChartKnitter$Stitch", name := "isCrossing", desc := "()Z" } : Jvm.MethodName)) ∈ xall := mx 579 (by decide +kernel) (by decide +kernel)
theorem m580 : (Jvm.Cond.methodLink "ChartKnitter" (259 : Nat) ({ cls := "ChartKnitter$Crossings", name := "note", desc := "(ILChartKnitter$Stitch;)V" } : Jvm.MethodName)) ∈ xall := mx 580 (by decide +kernel) (by decide +kernel)
theorem m581 : (Jvm.Cond.instanceMethod ({ cls := "ChartKnitter$Crossings", name := "note", desc := "(ILChartKnitter$Stitch;)V" } : Jvm.MethodName)) ∈ xall := mx 581 (by decide +kernel) (by decide +kernel)
theorem m582 : (Jvm.Cond.selects "ChartKnitter$Crossings" ({ cls := "ChartKnitter$Crossings", name := "note", desc := "(ILChartKnitter$Stitch;)V" } : Jvm.MethodName) ({ cls := "ChartKnitter$Crossings", name := "note", desc := "(ILChartKnitter$Stitch;)V" } : Jvm.MethodName)) ∈ xall := mx 582 (by decide +kernel) (by decide +kernel)
theorem m583 : (Jvm.Cond.code ({ cls := "ChartKnitter$Crossings", name := "note", desc := "(ILChartKnitter$Stitch;)V" } : Jvm.MethodName) prog_3_method_2_code (3 : Nat) (Option.none : Option Jvm.ClassFile.FieldType)) ∈ xall := mx 583 (by decide +kernel) (by decide +kernel)
theorem m584 : (Jvm.Cond.methodLink "ChartKnitter" (181 : Nat) ({ cls := "ChartKnitter$Crossings", name := "pairs", desc := "(ILChartKnitter$Row;)I" } : Jvm.MethodName)) ∈ xall := mx 584 (by decide +kernel) (by decide +kernel)
theorem m585 : (Jvm.Cond.instanceMethod ({ cls := "ChartKnitter$Crossings", name := "pairs", desc := "(ILChartKnitter$Row;)I" } : Jvm.MethodName)) ∈ xall := mx 585 (by decide +kernel) (by decide +kernel)
theorem m586 : (Jvm.Cond.selects "ChartKnitter$Crossings" ({ cls := "ChartKnitter$Crossings", name := "pairs", desc := "(ILChartKnitter$Row;)I" } : Jvm.MethodName) ({ cls := "ChartKnitter$Crossings", name := "pairs", desc := "(ILChartKnitter$Row;)I" } : Jvm.MethodName)) ∈ xall := mx 586 (by decide +kernel) (by decide +kernel)
theorem m587 : (Jvm.Cond.code ({ cls := "ChartKnitter$Crossings", name := "pairs", desc := "(ILChartKnitter$Row;)I" } : Jvm.MethodName) prog_3_method_3_code (3 : Nat) (Option.some Jvm.ClassFile.FieldType.int)) ∈ xall := mx 587 (by decide +kernel) (by decide +kernel)
theorem m588 : (Jvm.Cond.methodLink "ChartKnitter$Crossings" (37 : Nat) ({ cls := "ChartKnitter$Crossings", name := "loopsIn", desc := "(LChartKnitter$Row;II)I" } : Jvm.MethodName)) ∈ xall := mx 588 (by decide +kernel) (by decide +kernel)
theorem m589 : (Jvm.Cond.static ({ cls := "ChartKnitter$Crossings", name := "loopsIn", desc := "(LChartKnitter$Row;II)I" } : Jvm.MethodName)) ∈ xall := mx 589 (by decide +kernel) (by decide +kernel)
theorem m590 : (Jvm.Cond.code ({ cls := "ChartKnitter$Crossings", name := "loopsIn", desc := "(LChartKnitter$Row;II)I" } : Jvm.MethodName) prog_3_method_5_code (5 : Nat) (Option.some Jvm.ClassFile.FieldType.int)) ∈ xall := mx 590 (by decide +kernel) (by decide +kernel)
theorem m591 : (Jvm.Cond.methodLink "ChartKnitter" (234 : Nat) ({ cls := "ChartKnitter", name := "makeLoops", desc := "(LChartKnitter$Row;LChartKnitter$Row;I)V" } : Jvm.MethodName)) ∈ xall := mx 591 (by decide +kernel) (by decide +kernel)
theorem m593 : (Jvm.Cond.instanceMethod ({ cls := "ChartKnitter", name := "makeLoops", desc := "(LChartKnitter$Row;LChartKnitter$Row;I)V" } : Jvm.MethodName)) ∈ xall := mx 593 (by decide +kernel) (by decide +kernel)
theorem m594 : (Jvm.Cond.code ({ cls := "ChartKnitter", name := "makeLoops", desc := "(LChartKnitter$Row;LChartKnitter$Row;I)V" } : Jvm.MethodName) prog_1_method_27_code (8 : Nat) (Option.none : Option Jvm.ClassFile.FieldType)) ∈ xall := mx 594 (by decide +kernel) (by decide +kernel)
theorem m595 : (Jvm.Cond.methodLink "ChartKnitter" (266 : Nat) ({ cls := "ChartKnitter$Stitch", name := "bedNeeded", desc := "(LChartKnitter$Row;)I" } : Jvm.MethodName)) ∈ xall := mx 595 (by decide +kernel) (by decide +kernel)
theorem m596 : (Jvm.Cond.methodLink "ChartKnitter" (269 : Nat) ({ cls := "ChartKnitter$Stitch", name := "makesLoop", desc := "()Z" } : Jvm.MethodName)) ∈ xall := mx 596 (by decide +kernel) (by decide +kernel)
theorem m597 : (Jvm.Cond.methodLink "ChartKnitter" (272 : Nat) ({ cls := "ChartKnitter$Stitch", name := "keepsStack", desc := "()Z" } : Jvm.MethodName)) ∈ xall := mx 597 (by decide +kernel) (by decide +kernel)
theorem m598 : (Jvm.Cond.methodLink "ChartKnitter" (275 : Nat) ({ cls := "ChartKnitter", name := "drawThrough", desc := "(LChartKnitter$Row;II)V" } : Jvm.MethodName)) ∈ xall := mx 598 (by decide +kernel) (by decide +kernel)
theorem m600 : (Jvm.Cond.instanceMethod ({ cls := "ChartKnitter", name := "drawThrough", desc := "(LChartKnitter$Row;II)V" } : Jvm.MethodName)) ∈ xall := mx 600 (by decide +kernel) (by decide +kernel)
theorem m601 : (Jvm.Cond.code ({ cls := "ChartKnitter", name := "drawThrough", desc := "(LChartKnitter$Row;II)V" } : Jvm.MethodName) prog_1_method_28_code (6 : Nat) (Option.none : Option Jvm.ClassFile.FieldType)) ∈ xall := mx 601 (by decide +kernel) (by decide +kernel)
theorem m610 : (Jvm.Cond.methodLink "ChartKnitter" (136 : Nat) ({ cls := "ChartKnitter", name := "isKnitted", desc := "(I)Z" } : Jvm.MethodName)) ∈ xall := mx 610 (by decide +kernel) (by decide +kernel)
theorem m612 : (Jvm.Cond.instanceMethod ({ cls := "ChartKnitter", name := "isKnitted", desc := "(I)Z" } : Jvm.MethodName)) ∈ xall := mx 612 (by decide +kernel) (by decide +kernel)
theorem m613 : (Jvm.Cond.code ({ cls := "ChartKnitter", name := "isKnitted", desc := "(I)Z" } : Jvm.MethodName) prog_1_method_16_code (2 : Nat) (Option.some Jvm.ClassFile.FieldType.boolean)) ∈ xall := mx 613 (by decide +kernel) (by decide +kernel)
theorem m638 : (Jvm.Cond.methodLink "ChartKnitter" (161 : Nat) ({ cls := "ChartKnitter", name := "isLoop", desc := "(I)Z" } : Jvm.MethodName)) ∈ xall := mx 638 (by decide +kernel) (by decide +kernel)
theorem m640 : (Jvm.Cond.instanceMethod ({ cls := "ChartKnitter", name := "isLoop", desc := "(I)Z" } : Jvm.MethodName)) ∈ xall := mx 640 (by decide +kernel) (by decide +kernel)
theorem m641 : (Jvm.Cond.code ({ cls := "ChartKnitter", name := "isLoop", desc := "(I)Z" } : Jvm.MethodName) prog_1_method_17_code (2 : Nat) (Option.some Jvm.ClassFile.FieldType.boolean)) ∈ xall := mx 641 (by decide +kernel) (by decide +kernel)
theorem m657 : (Jvm.Cond.methodLink "ChartKnitter" (185 : Nat) ({ cls := "ChartKnitter$Crossings", name := "pairAt", desc := "(ILChartKnitter$Row;I)I" } : Jvm.MethodName)) ∈ xall := mx 657 (by decide +kernel) (by decide +kernel)
theorem m658 : (Jvm.Cond.instanceMethod ({ cls := "ChartKnitter$Crossings", name := "pairAt", desc := "(ILChartKnitter$Row;I)I" } : Jvm.MethodName)) ∈ xall := mx 658 (by decide +kernel) (by decide +kernel)
theorem m659 : (Jvm.Cond.selects "ChartKnitter$Crossings" ({ cls := "ChartKnitter$Crossings", name := "pairAt", desc := "(ILChartKnitter$Row;I)I" } : Jvm.MethodName) ({ cls := "ChartKnitter$Crossings", name := "pairAt", desc := "(ILChartKnitter$Row;I)I" } : Jvm.MethodName)) ∈ xall := mx 659 (by decide +kernel) (by decide +kernel)
theorem m660 : (Jvm.Cond.code ({ cls := "ChartKnitter$Crossings", name := "pairAt", desc := "(ILChartKnitter$Row;I)I" } : Jvm.MethodName) prog_3_method_4_code (8 : Nat) (Option.some Jvm.ClassFile.FieldType.int)) ∈ xall := mx 660 (by decide +kernel) (by decide +kernel)
theorem m661 : (Jvm.Cond.methodLink "ChartKnitter$Crossings" (41 : Nat) ({ cls := "java/lang/Math", name := "max", desc := "(II)I" } : Jvm.MethodName)) ∈ xall := mx 661 (by decide +kernel) (by decide +kernel)
theorem m662 : (Jvm.Cond.static ({ cls := "java/lang/Math", name := "max", desc := "(II)I" } : Jvm.MethodName)) ∈ xall := mx 662 (by decide +kernel) (by decide +kernel)
theorem m663 : (Jvm.Cond.code ({ cls := "java/lang/Math", name := "max", desc := "(II)I" } : Jvm.MethodName) prog_15_method_65_code (2 : Nat) (Option.some Jvm.ClassFile.FieldType.int)) ∈ xall := mx 663 (by decide +kernel) (by decide +kernel)
theorem m664 : (Jvm.Cond.methodLink "ChartKnitter$Crossings" (47 : Nat) ({ cls := "ChartKnitter$Crossings", name := "loopIn", desc := "(LChartKnitter$Row;III)I" } : Jvm.MethodName)) ∈ xall := mx 664 (by decide +kernel) (by decide +kernel)
theorem m665 : (Jvm.Cond.static ({ cls := "ChartKnitter$Crossings", name := "loopIn", desc := "(LChartKnitter$Row;III)I" } : Jvm.MethodName)) ∈ xall := mx 665 (by decide +kernel) (by decide +kernel)
theorem m666 : (Jvm.Cond.code ({ cls := "ChartKnitter$Crossings", name := "loopIn", desc := "(LChartKnitter$Row;III)I" } : Jvm.MethodName) prog_3_method_6_code (6 : Nat) (Option.some Jvm.ClassFile.FieldType.int)) ∈ xall := mx 666 (by decide +kernel) (by decide +kernel)
theorem m667 : (Jvm.Cond.methodLink "ChartKnitter$Crossings" (56 : Nat) ({ cls := "ChartKnitter$Row", name := "loopAt", desc := "(II)I" } : Jvm.MethodName)) ∈ xall := mx 667 (by decide +kernel) (by decide +kernel)
theorem m673 : (Jvm.Cond.methodLink "ChartKnitterModel" (1 : Nat) ({ cls := "java/lang/Object", name := "<init>", desc := "()V" } : Jvm.MethodName)) ∈ xall := mx 673 (by decide +kernel) (by decide +kernel)
theorem m674 : (Jvm.Cond.fieldLink "ChartKnitterModel" (102 : Nat) "ChartKnitterModel" "thrown" "I") ∈ xall := mx 674 (by decide +kernel) (by decide +kernel)
theorem m675 : (Jvm.Cond.fieldLink "ChartKnitterModel" (7 : Nat) "ChartKnitterModel" "text" "[I") ∈ xall := mx 675 (by decide +kernel) (by decide +kernel)
theorem m676 : (Jvm.Cond.fieldLink "ChartKnitterModel" (107 : Nat) "ChartKnitterModel" "length" "I") ∈ xall := mx 676 (by decide +kernel) (by decide +kernel)
theorem m677 : (Jvm.Cond.fieldLink "ChartKnitterModel" (13 : Nat) "ChartKnitterModel" "told" "I") ∈ xall := mx 677 (by decide +kernel) (by decide +kernel)
theorem m678 : (Jvm.Cond.fieldLink "ChartKnitterModel" (171 : Nat) "ChartKnitterModel" "cast" "Z") ∈ xall := mx 678 (by decide +kernel) (by decide +kernel)
theorem m679 : (Jvm.Cond.fieldLink "ChartKnitterModel" (120 : Nat) "ChartKnitterModel" "rows" "I") ∈ xall := mx 679 (by decide +kernel) (by decide +kernel)
theorem m680 : (Jvm.Cond.fieldLink "ChartKnitterModel" (17 : Nat) "ChartKnitterModel" "stacks" "[I") ∈ xall := mx 680 (by decide +kernel) (by decide +kernel)
theorem m681 : (Jvm.Cond.fieldLink "ChartKnitterModel" (20 : Nat) "ChartKnitterModel" "sizes" "[I") ∈ xall := mx 681 (by decide +kernel) (by decide +kernel)
theorem m682 : (Jvm.Cond.fieldLink "ChartKnitterModel" (23 : Nat) "ChartKnitterModel" "beds" "[I") ∈ xall := mx 682 (by decide +kernel) (by decide +kernel)
theorem m683 : (Jvm.Cond.fieldLink "ChartKnitterModel" (26 : Nat) "ChartKnitterModel" "columns" "[I") ∈ xall := mx 683 (by decide +kernel) (by decide +kernel)
theorem m684 : (Jvm.Cond.fieldLink "ChartKnitterModel" (29 : Nat) "ChartKnitterModel" "loops" "[I") ∈ xall := mx 684 (by decide +kernel) (by decide +kernel)
theorem m685 : (Jvm.Cond.fieldLink "ChartKnitterModel" (32 : Nat) "ChartKnitterModel" "drops" "[I") ∈ xall := mx 685 (by decide +kernel) (by decide +kernel)
theorem m686 : (Jvm.Cond.fieldLink "ChartKnitterModel" (35 : Nat) "ChartKnitterModel" "sides" "[I") ∈ xall := mx 686 (by decide +kernel) (by decide +kernel)
theorem m687 : (Jvm.Cond.fieldLink "ChartKnitterModel" (38 : Nat) "ChartKnitterModel" "texts" "[I") ∈ xall := mx 687 (by decide +kernel) (by decide +kernel)
theorem m688 : (Jvm.Cond.fieldLink "ChartKnitterModel" (41 : Nat) "ChartKnitterModel" "lengths" "[I") ∈ xall := mx 688 (by decide +kernel) (by decide +kernel)
theorem m689 : (Jvm.Cond.fieldLink "ChartKnitterModel" (44 : Nat) "ChartKnitterModel" "programs" "[I") ∈ xall := mx 689 (by decide +kernel) (by decide +kernel)
theorem m690 : (Jvm.Cond.fieldLink "ChartKnitterModel" (47 : Nat) "ChartKnitterModel" "parents" "[I") ∈ xall := mx 690 (by decide +kernel) (by decide +kernel)
theorem m691 : (Jvm.Cond.fieldLink "ChartKnitterModel" (50 : Nat) "ChartKnitterModel" "many" "[I") ∈ xall := mx 691 (by decide +kernel) (by decide +kernel)
theorem m692 : (Jvm.Cond.fieldLink "ChartKnitterModel" (53 : Nat) "ChartKnitterModel" "rowOf" "[I") ∈ xall := mx 692 (by decide +kernel) (by decide +kernel)
theorem m693 : (Jvm.Cond.fieldLink "ChartKnitterModel" (56 : Nat) "ChartKnitterModel" "columnOf" "[I") ∈ xall := mx 693 (by decide +kernel) (by decide +kernel)
theorem m694 : (Jvm.Cond.fieldLink "ChartKnitterModel" (59 : Nat) "ChartKnitterModel" "bedOf" "[I") ∈ xall := mx 694 (by decide +kernel) (by decide +kernel)
theorem m695 : (Jvm.Cond.fieldLink "ChartKnitterModel" (62 : Nat) "ChartKnitterModel" "carrierOf" "[I") ∈ xall := mx 695 (by decide +kernel) (by decide +kernel)
theorem m696 : (Jvm.Cond.fieldLink "ChartKnitterModel" (65 : Nat) "ChartKnitterModel" "droppedIn" "[I") ∈ xall := mx 696 (by decide +kernel) (by decide +kernel)
theorem m697 : (Jvm.Cond.fieldLink "ChartKnitterModel" (110 : Nat) "ChartKnitterModel" "count" "I") ∈ xall := mx 697 (by decide +kernel) (by decide +kernel)
theorem m698 : (Jvm.Cond.fieldLink "ChartKnitterModel" (68 : Nat) "ChartKnitterModel" "kind" "[I") ∈ xall := mx 698 (by decide +kernel) (by decide +kernel)
theorem m699 : (Jvm.Cond.fieldLink "ChartKnitterModel" (71 : Nat) "ChartKnitterModel" "at" "[I") ∈ xall := mx 699 (by decide +kernel) (by decide +kernel)
theorem m700 : (Jvm.Cond.fieldLink "ChartKnitterModel" (74 : Nat) "ChartKnitterModel" "left" "[I") ∈ xall := mx 700 (by decide +kernel) (by decide +kernel)
theorem m701 : (Jvm.Cond.fieldLink "ChartKnitterModel" (77 : Nat) "ChartKnitterModel" "right" "[I") ∈ xall := mx 701 (by decide +kernel) (by decide +kernel)
theorem m702 : (Jvm.Cond.fieldLink "ChartKnitterModel" (80 : Nat) "ChartKnitterModel" "goal" "[I") ∈ xall := mx 702 (by decide +kernel) (by decide +kernel)
theorem m703 : (Jvm.Cond.fieldLink "ChartKnitterModel" (83 : Nat) "ChartKnitterModel" "late" "[Z") ∈ xall := mx 703 (by decide +kernel) (by decide +kernel)
theorem m704 : (Jvm.Cond.fieldLink "ChartKnitterModel" (87 : Nat) "ChartKnitterModel" "must" "[I") ∈ xall := mx 704 (by decide +kernel) (by decide +kernel)
theorem m705 : (Jvm.Cond.fieldLink "ChartKnitterModel" (90 : Nat) "ChartKnitterModel" "charOf" "[I") ∈ xall := mx 705 (by decide +kernel) (by decide +kernel)
theorem m706 : (Jvm.Cond.fieldLink "ChartKnitterModel" (93 : Nat) "ChartKnitterModel" "by" "[I") ∈ xall := mx 706 (by decide +kernel) (by decide +kernel)
theorem m707 : (Jvm.Cond.fieldLink "ChartKnitterModel" (96 : Nat) "ChartKnitterModel" "sources" "[I") ∈ xall := mx 707 (by decide +kernel) (by decide +kernel)
theorem m708 : (Jvm.Cond.fieldLink "ChartKnitterModel" (99 : Nat) "ChartKnitterModel" "source" "[I") ∈ xall := mx 708 (by decide +kernel) (by decide +kernel)
theorem m709 : (Jvm.Cond.lays "ChartKnitterModel" "ChartKnitterModel" "thrown" "I") ∈ xall := mx 709 (by decide +kernel) (by decide +kernel)
theorem m711 : (Jvm.Cond.laysFinal "ChartKnitterModel" "ChartKnitterModel" "text" "[I") ∈ xall := mx 711 (by decide +kernel) (by decide +kernel)
theorem m713 : (Jvm.Cond.lays "ChartKnitterModel" "ChartKnitterModel" "length" "I") ∈ xall := mx 713 (by decide +kernel) (by decide +kernel)
theorem m715 : (Jvm.Cond.lays "ChartKnitterModel" "ChartKnitterModel" "told" "I") ∈ xall := mx 715 (by decide +kernel) (by decide +kernel)
theorem m717 : (Jvm.Cond.lays "ChartKnitterModel" "ChartKnitterModel" "cast" "Z") ∈ xall := mx 717 (by decide +kernel) (by decide +kernel)
theorem m719 : (Jvm.Cond.lays "ChartKnitterModel" "ChartKnitterModel" "rows" "I") ∈ xall := mx 719 (by decide +kernel) (by decide +kernel)
theorem m721 : (Jvm.Cond.laysFinal "ChartKnitterModel" "ChartKnitterModel" "stacks" "[I") ∈ xall := mx 721 (by decide +kernel) (by decide +kernel)
theorem m723 : (Jvm.Cond.laysFinal "ChartKnitterModel" "ChartKnitterModel" "sizes" "[I") ∈ xall := mx 723 (by decide +kernel) (by decide +kernel)
theorem m725 : (Jvm.Cond.laysFinal "ChartKnitterModel" "ChartKnitterModel" "beds" "[I") ∈ xall := mx 725 (by decide +kernel) (by decide +kernel)
theorem m727 : (Jvm.Cond.laysFinal "ChartKnitterModel" "ChartKnitterModel" "columns" "[I") ∈ xall := mx 727 (by decide +kernel) (by decide +kernel)
theorem m729 : (Jvm.Cond.laysFinal "ChartKnitterModel" "ChartKnitterModel" "loops" "[I") ∈ xall := mx 729 (by decide +kernel) (by decide +kernel)
theorem m731 : (Jvm.Cond.laysFinal "ChartKnitterModel" "ChartKnitterModel" "drops" "[I") ∈ xall := mx 731 (by decide +kernel) (by decide +kernel)
theorem m733 : (Jvm.Cond.laysFinal "ChartKnitterModel" "ChartKnitterModel" "sides" "[I") ∈ xall := mx 733 (by decide +kernel) (by decide +kernel)
theorem m735 : (Jvm.Cond.laysFinal "ChartKnitterModel" "ChartKnitterModel" "texts" "[I") ∈ xall := mx 735 (by decide +kernel) (by decide +kernel)
theorem m737 : (Jvm.Cond.laysFinal "ChartKnitterModel" "ChartKnitterModel" "lengths" "[I") ∈ xall := mx 737 (by decide +kernel) (by decide +kernel)
theorem m739 : (Jvm.Cond.laysFinal "ChartKnitterModel" "ChartKnitterModel" "programs" "[I") ∈ xall := mx 739 (by decide +kernel) (by decide +kernel)
theorem m741 : (Jvm.Cond.laysFinal "ChartKnitterModel" "ChartKnitterModel" "parents" "[I") ∈ xall := mx 741 (by decide +kernel) (by decide +kernel)
theorem m743 : (Jvm.Cond.laysFinal "ChartKnitterModel" "ChartKnitterModel" "many" "[I") ∈ xall := mx 743 (by decide +kernel) (by decide +kernel)
theorem m745 : (Jvm.Cond.laysFinal "ChartKnitterModel" "ChartKnitterModel" "rowOf" "[I") ∈ xall := mx 745 (by decide +kernel) (by decide +kernel)
theorem m747 : (Jvm.Cond.laysFinal "ChartKnitterModel" "ChartKnitterModel" "columnOf" "[I") ∈ xall := mx 747 (by decide +kernel) (by decide +kernel)
theorem m749 : (Jvm.Cond.laysFinal "ChartKnitterModel" "ChartKnitterModel" "bedOf" "[I") ∈ xall := mx 749 (by decide +kernel) (by decide +kernel)
theorem m751 : (Jvm.Cond.laysFinal "ChartKnitterModel" "ChartKnitterModel" "carrierOf" "[I") ∈ xall := mx 751 (by decide +kernel) (by decide +kernel)
theorem m753 : (Jvm.Cond.laysFinal "ChartKnitterModel" "ChartKnitterModel" "droppedIn" "[I") ∈ xall := mx 753 (by decide +kernel) (by decide +kernel)
theorem m755 : (Jvm.Cond.lays "ChartKnitterModel" "ChartKnitterModel" "count" "I") ∈ xall := mx 755 (by decide +kernel) (by decide +kernel)
theorem m757 : (Jvm.Cond.laysFinal "ChartKnitterModel" "ChartKnitterModel" "kind" "[I") ∈ xall := mx 757 (by decide +kernel) (by decide +kernel)
theorem m759 : (Jvm.Cond.laysFinal "ChartKnitterModel" "ChartKnitterModel" "at" "[I") ∈ xall := mx 759 (by decide +kernel) (by decide +kernel)
theorem m761 : (Jvm.Cond.laysFinal "ChartKnitterModel" "ChartKnitterModel" "left" "[I") ∈ xall := mx 761 (by decide +kernel) (by decide +kernel)
theorem m763 : (Jvm.Cond.laysFinal "ChartKnitterModel" "ChartKnitterModel" "right" "[I") ∈ xall := mx 763 (by decide +kernel) (by decide +kernel)
theorem m765 : (Jvm.Cond.laysFinal "ChartKnitterModel" "ChartKnitterModel" "goal" "[I") ∈ xall := mx 765 (by decide +kernel) (by decide +kernel)
theorem m767 : (Jvm.Cond.laysFinal "ChartKnitterModel" "ChartKnitterModel" "late" "[Z") ∈ xall := mx 767 (by decide +kernel) (by decide +kernel)
theorem m769 : (Jvm.Cond.laysFinal "ChartKnitterModel" "ChartKnitterModel" "must" "[I") ∈ xall := mx 769 (by decide +kernel) (by decide +kernel)
theorem m771 : (Jvm.Cond.laysFinal "ChartKnitterModel" "ChartKnitterModel" "charOf" "[I") ∈ xall := mx 771 (by decide +kernel) (by decide +kernel)
theorem m773 : (Jvm.Cond.laysFinal "ChartKnitterModel" "ChartKnitterModel" "by" "[I") ∈ xall := mx 773 (by decide +kernel) (by decide +kernel)
theorem m775 : (Jvm.Cond.laysFinal "ChartKnitterModel" "ChartKnitterModel" "sources" "[I") ∈ xall := mx 775 (by decide +kernel) (by decide +kernel)
theorem m777 : (Jvm.Cond.laysFinal "ChartKnitterModel" "ChartKnitterModel" "source" "[I") ∈ xall := mx 777 (by decide +kernel) (by decide +kernel)
theorem m788 : (Jvm.Cond.constantLong "ChartKnitterModel" (105 : Nat) (255 : Int64)) ∈ xall := mx 788 (by decide +kernel) (by decide +kernel)
theorem m797 : (Jvm.Cond.methodLink "ChartKnitterModel" (175 : Nat) ({ cls := "ChartKnitterModel", name := "parse", desc := "([III)I" } : Jvm.MethodName)) ∈ xall := mx 797 (by decide +kernel) (by decide +kernel)
theorem m799 : (Jvm.Cond.instanceMethod ({ cls := "ChartKnitterModel", name := "parse", desc := "([III)I" } : Jvm.MethodName)) ∈ xall := mx 799 (by decide +kernel) (by decide +kernel)
theorem m800 : (Jvm.Cond.code ({ cls := "ChartKnitterModel", name := "parse", desc := "([III)I" } : Jvm.MethodName) prog_10_method_7_code (7 : Nat) (Option.some Jvm.ClassFile.FieldType.int)) ∈ xall := mx 800 (by decide +kernel) (by decide +kernel)
theorem m801 : (Jvm.Cond.methodLink "ChartKnitterModel" (113 : Nat) ({ cls := "ChartKnitterModel", name := "isPlain", desc := "(I)Z" } : Jvm.MethodName)) ∈ xall := mx 801 (by decide +kernel) (by decide +kernel)
theorem m802 : (Jvm.Cond.static ({ cls := "ChartKnitterModel", name := "isPlain", desc := "(I)Z" } : Jvm.MethodName)) ∈ xall := mx 802 (by decide +kernel) (by decide +kernel)
theorem m803 : (Jvm.Cond.code ({ cls := "ChartKnitterModel", name := "isPlain", desc := "(I)Z" } : Jvm.MethodName) prog_10_method_5_code (1 : Nat) (Option.some Jvm.ClassFile.FieldType.boolean)) ∈ xall := mx 803 (by decide +kernel) (by decide +kernel)
theorem m804 : (Jvm.Cond.methodLink "ChartKnitterModel" (117 : Nat) ({ cls := "ChartKnitterModel", name := "isFigure", desc := "(I)Z" } : Jvm.MethodName)) ∈ xall := mx 804 (by decide +kernel) (by decide +kernel)
theorem m805 : (Jvm.Cond.static ({ cls := "ChartKnitterModel", name := "isFigure", desc := "(I)Z" } : Jvm.MethodName)) ∈ xall := mx 805 (by decide +kernel) (by decide +kernel)
theorem m806 : (Jvm.Cond.code ({ cls := "ChartKnitterModel", name := "isFigure", desc := "(I)Z" } : Jvm.MethodName) prog_10_method_6_code (1 : Nat) (Option.some Jvm.ClassFile.FieldType.boolean)) ∈ xall := mx 806 (by decide +kernel) (by decide +kernel)
theorem m807 : (Jvm.Cond.methodLink "ChartKnitterModel" (179 : Nat) ({ cls := "ChartKnitterModel", name := "fault", desc := "(II)I" } : Jvm.MethodName)) ∈ xall := mx 807 (by decide +kernel) (by decide +kernel)
theorem m809 : (Jvm.Cond.instanceMethod ({ cls := "ChartKnitterModel", name := "fault", desc := "(II)I" } : Jvm.MethodName)) ∈ xall := mx 809 (by decide +kernel) (by decide +kernel)
theorem m810 : (Jvm.Cond.code ({ cls := "ChartKnitterModel", name := "fault", desc := "(II)I" } : Jvm.MethodName) prog_10_method_10_code (3 : Nat) (Option.some Jvm.ClassFile.FieldType.int)) ∈ xall := mx 810 (by decide +kernel) (by decide +kernel)
theorem m811 : (Jvm.Cond.methodLink "ChartKnitterModel" (123 : Nat) ({ cls := "ChartKnitterModel", name := "takes", desc := "(I)I" } : Jvm.MethodName)) ∈ xall := mx 811 (by decide +kernel) (by decide +kernel)
theorem m813 : (Jvm.Cond.instanceMethod ({ cls := "ChartKnitterModel", name := "takes", desc := "(I)I" } : Jvm.MethodName)) ∈ xall := mx 813 (by decide +kernel) (by decide +kernel)
theorem m814 : (Jvm.Cond.code ({ cls := "ChartKnitterModel", name := "takes", desc := "(I)I" } : Jvm.MethodName) prog_10_method_8_code (2 : Nat) (Option.some Jvm.ClassFile.FieldType.int)) ∈ xall := mx 814 (by decide +kernel) (by decide +kernel)
theorem m815 : (Jvm.Cond.methodLink "ChartKnitterModel" (144 : Nat) ({ cls := "ChartKnitterModel", name := "gives", desc := "(I)I" } : Jvm.MethodName)) ∈ xall := mx 815 (by decide +kernel) (by decide +kernel)
theorem m817 : (Jvm.Cond.instanceMethod ({ cls := "ChartKnitterModel", name := "gives", desc := "(I)I" } : Jvm.MethodName)) ∈ xall := mx 817 (by decide +kernel) (by decide +kernel)
theorem m818 : (Jvm.Cond.code ({ cls := "ChartKnitterModel", name := "gives", desc := "(I)I" } : Jvm.MethodName) prog_10_method_9_code (2 : Nat) (Option.some Jvm.ClassFile.FieldType.int)) ∈ xall := mx 818 (by decide +kernel) (by decide +kernel)
theorem m819 : (Jvm.Cond.methodLink "ChartKnitterModel" (183 : Nat) ({ cls := "ChartKnitterModel", name := "crowded", desc := "()I" } : Jvm.MethodName)) ∈ xall := mx 819 (by decide +kernel) (by decide +kernel)
theorem m821 : (Jvm.Cond.instanceMethod ({ cls := "ChartKnitterModel", name := "crowded", desc := "()I" } : Jvm.MethodName)) ∈ xall := mx 821 (by decide +kernel) (by decide +kernel)
theorem m822 : (Jvm.Cond.code ({ cls := "ChartKnitterModel", name := "crowded", desc := "()I" } : Jvm.MethodName) prog_10_method_12_code (6 : Nat) (Option.some Jvm.ClassFile.FieldType.int)) ∈ xall := mx 822 (by decide +kernel) (by decide +kernel)
theorem m823 : (Jvm.Cond.methodLink "ChartKnitterModel" (127 : Nat) ({ cls := "ChartKnitterModel", name := "size", desc := "(I)I" } : Jvm.MethodName)) ∈ xall := mx 823 (by decide +kernel) (by decide +kernel)
theorem m825 : (Jvm.Cond.instanceMethod ({ cls := "ChartKnitterModel", name := "size", desc := "(I)I" } : Jvm.MethodName)) ∈ xall := mx 825 (by decide +kernel) (by decide +kernel)
theorem m826 : (Jvm.Cond.code ({ cls := "ChartKnitterModel", name := "size", desc := "(I)I" } : Jvm.MethodName) prog_10_method_11_code (2 : Nat) (Option.some Jvm.ClassFile.FieldType.int)) ∈ xall := mx 826 (by decide +kernel) (by decide +kernel)
theorem m827 : (Jvm.Cond.methodLink "ChartKnitterModel" (186 : Nat) ({ cls := "ChartKnitterModel", name := "plan", desc := "()V" } : Jvm.MethodName)) ∈ xall := mx 827 (by decide +kernel) (by decide +kernel)
theorem m829 : (Jvm.Cond.instanceMethod ({ cls := "ChartKnitterModel", name := "plan", desc := "()V" } : Jvm.MethodName)) ∈ xall := mx 829 (by decide +kernel) (by decide +kernel)
theorem m830 : (Jvm.Cond.code ({ cls := "ChartKnitterModel", name := "plan", desc := "()V" } : Jvm.MethodName) prog_10_method_17_code (5 : Nat) (Option.none : Option Jvm.ClassFile.FieldType)) ∈ xall := mx 830 (by decide +kernel) (by decide +kernel)
theorem m831 : (Jvm.Cond.methodLink "ChartKnitterModel" (138 : Nat) ({ cls := "ChartKnitterModel", name := "cable", desc := "(III)V" } : Jvm.MethodName)) ∈ xall := mx 831 (by decide +kernel) (by decide +kernel)
theorem m833 : (Jvm.Cond.instanceMethod ({ cls := "ChartKnitterModel", name := "cable", desc := "(III)V" } : Jvm.MethodName)) ∈ xall := mx 833 (by decide +kernel) (by decide +kernel)
theorem m834 : (Jvm.Cond.code ({ cls := "ChartKnitterModel", name := "cable", desc := "(III)V" } : Jvm.MethodName) prog_10_method_16_code (8 : Nat) (Option.none : Option Jvm.ClassFile.FieldType)) ∈ xall := mx 834 (by decide +kernel) (by decide +kernel)
theorem m835 : (Jvm.Cond.methodLink "ChartKnitterModel" (130 : Nat) ({ cls := "ChartKnitterModel", name := "take", desc := "(IIIZI)V" } : Jvm.MethodName)) ∈ xall := mx 835 (by decide +kernel) (by decide +kernel)
theorem m837 : (Jvm.Cond.instanceMethod ({ cls := "ChartKnitterModel", name := "take", desc := "(IIIZI)V" } : Jvm.MethodName)) ∈ xall := mx 837 (by decide +kernel) (by decide +kernel)
theorem m838 : (Jvm.Cond.code ({ cls := "ChartKnitterModel", name := "take", desc := "(IIIZI)V" } : Jvm.MethodName) prog_10_method_13_code (6 : Nat) (Option.none : Option Jvm.ClassFile.FieldType)) ∈ xall := mx 838 (by decide +kernel) (by decide +kernel)
theorem m839 : (Jvm.Cond.methodLink "ChartKnitterModel" (134 : Nat) ({ cls := "ChartKnitterModel", name := "give", desc := "(III)V" } : Jvm.MethodName)) ∈ xall := mx 839 (by decide +kernel) (by decide +kernel)
theorem m841 : (Jvm.Cond.instanceMethod ({ cls := "ChartKnitterModel", name := "give", desc := "(III)V" } : Jvm.MethodName)) ∈ xall := mx 841 (by decide +kernel) (by decide +kernel)
theorem m842 : (Jvm.Cond.code ({ cls := "ChartKnitterModel", name := "give", desc := "(III)V" } : Jvm.MethodName) prog_10_method_14_code (4 : Nat) (Option.none : Option Jvm.ClassFile.FieldType)) ∈ xall := mx 842 (by decide +kernel) (by decide +kernel)
theorem m843 : (Jvm.Cond.methodLink "ChartKnitterModel" (141 : Nat) ({ cls := "ChartKnitterModel", name := "join", desc := "(III)V" } : Jvm.MethodName)) ∈ xall := mx 843 (by decide +kernel) (by decide +kernel)
theorem m845 : (Jvm.Cond.instanceMethod ({ cls := "ChartKnitterModel", name := "join", desc := "(III)V" } : Jvm.MethodName)) ∈ xall := mx 845 (by decide +kernel) (by decide +kernel)
theorem m846 : (Jvm.Cond.code ({ cls := "ChartKnitterModel", name := "join", desc := "(III)V" } : Jvm.MethodName) prog_10_method_15_code (6 : Nat) (Option.none : Option Jvm.ClassFile.FieldType)) ∈ xall := mx 846 (by decide +kernel) (by decide +kernel)
theorem m847 : (Jvm.Cond.methodLink "ChartKnitterModel" (147 : Nat) ({ cls := "ChartKnitterModel", name := "areMoved", desc := "()Z" } : Jvm.MethodName)) ∈ xall := mx 847 (by decide +kernel) (by decide +kernel)
theorem m849 : (Jvm.Cond.instanceMethod ({ cls := "ChartKnitterModel", name := "areMoved", desc := "()Z" } : Jvm.MethodName)) ∈ xall := mx 849 (by decide +kernel) (by decide +kernel)
theorem m850 : (Jvm.Cond.code ({ cls := "ChartKnitterModel", name := "areMoved", desc := "()Z" } : Jvm.MethodName) prog_10_method_18_code (3 : Nat) (Option.some Jvm.ClassFile.FieldType.boolean)) ∈ xall := mx 850 (by decide +kernel) (by decide +kernel)
theorem m851 : (Jvm.Cond.methodLink "ChartKnitterModel" (189 : Nat) ({ cls := "ChartKnitterModel", name := "tooFar", desc := "()I" } : Jvm.MethodName)) ∈ xall := mx 851 (by decide +kernel) (by decide +kernel)
theorem m853 : (Jvm.Cond.instanceMethod ({ cls := "ChartKnitterModel", name := "tooFar", desc := "()I" } : Jvm.MethodName)) ∈ xall := mx 853 (by decide +kernel) (by decide +kernel)
theorem m854 : (Jvm.Cond.code ({ cls := "ChartKnitterModel", name := "tooFar", desc := "()I" } : Jvm.MethodName) prog_10_method_19_code (2 : Nat) (Option.some Jvm.ClassFile.FieldType.int)) ∈ xall := mx 854 (by decide +kernel) (by decide +kernel)
theorem m855 : (Jvm.Cond.methodLink "ChartKnitterModel" (161 : Nat) ({ cls := "ChartKnitterModel", name := "makes", desc := "(I)I" } : Jvm.MethodName)) ∈ xall := mx 855 (by decide +kernel) (by decide +kernel)
theorem m857 : (Jvm.Cond.instanceMethod ({ cls := "ChartKnitterModel", name := "makes", desc := "(I)I" } : Jvm.MethodName)) ∈ xall := mx 857 (by decide +kernel) (by decide +kernel)
theorem m858 : (Jvm.Cond.code ({ cls := "ChartKnitterModel", name := "makes", desc := "(I)I" } : Jvm.MethodName) prog_10_method_20_code (4 : Nat) (Option.some Jvm.ClassFile.FieldType.int)) ∈ xall := mx 858 (by decide +kernel) (by decide +kernel)
theorem m859 : (Jvm.Cond.methodLink "ChartKnitterModel" (192 : Nat) ({ cls := "ChartKnitterModel", name := "knitRow", desc := "(II)V" } : Jvm.MethodName)) ∈ xall := mx 859 (by decide +kernel) (by decide +kernel)
theorem m861 : (Jvm.Cond.instanceMethod ({ cls := "ChartKnitterModel", name := "knitRow", desc := "(II)V" } : Jvm.MethodName)) ∈ xall := mx 861 (by decide +kernel) (by decide +kernel)
theorem m862 : (Jvm.Cond.code ({ cls := "ChartKnitterModel", name := "knitRow", desc := "(II)V" } : Jvm.MethodName) prog_10_method_26_code (5 : Nat) (Option.none : Option Jvm.ClassFile.FieldType)) ∈ xall := mx 862 (by decide +kernel) (by decide +kernel)
theorem m863 : (Jvm.Cond.methodLink "ChartKnitterModel" (151 : Nat) ({ cls := "ChartKnitterModel", name := "transfers", desc := "()I" } : Jvm.MethodName)) ∈ xall := mx 863 (by decide +kernel) (by decide +kernel)
theorem m865 : (Jvm.Cond.instanceMethod ({ cls := "ChartKnitterModel", name := "transfers", desc := "()I" } : Jvm.MethodName)) ∈ xall := mx 865 (by decide +kernel) (by decide +kernel)
theorem m866 : (Jvm.Cond.code ({ cls := "ChartKnitterModel", name := "transfers", desc := "()I" } : Jvm.MethodName) prog_10_method_21_code (6 : Nat) (Option.some Jvm.ClassFile.FieldType.int)) ∈ xall := mx 866 (by decide +kernel) (by decide +kernel)
theorem m867 : (Jvm.Cond.methodLink "ChartKnitterModel" (155 : Nat) ({ cls := "ChartKnitterModel", name := "rackings", desc := "()I" } : Jvm.MethodName)) ∈ xall := mx 867 (by decide +kernel) (by decide +kernel)
theorem m869 : (Jvm.Cond.instanceMethod ({ cls := "ChartKnitterModel", name := "rackings", desc := "()I" } : Jvm.MethodName)) ∈ xall := mx 869 (by decide +kernel) (by decide +kernel)
theorem m870 : (Jvm.Cond.code ({ cls := "ChartKnitterModel", name := "rackings", desc := "()I" } : Jvm.MethodName) prog_10_method_22_code (6 : Nat) (Option.some Jvm.ClassFile.FieldType.int)) ∈ xall := mx 870 (by decide +kernel) (by decide +kernel)
theorem m871 : (Jvm.Cond.methodLink "ChartKnitterModel" (158 : Nat) ({ cls := "ChartKnitterModel", name := "released", desc := "()I" } : Jvm.MethodName)) ∈ xall := mx 871 (by decide +kernel) (by decide +kernel)
theorem m873 : (Jvm.Cond.instanceMethod ({ cls := "ChartKnitterModel", name := "released", desc := "()I" } : Jvm.MethodName)) ∈ xall := mx 873 (by decide +kernel) (by decide +kernel)
theorem m874 : (Jvm.Cond.code ({ cls := "ChartKnitterModel", name := "released", desc := "()I" } : Jvm.MethodName) prog_10_method_23_code (3 : Nat) (Option.some Jvm.ClassFile.FieldType.int)) ∈ xall := mx 874 (by decide +kernel) (by decide +kernel)
theorem m875 : (Jvm.Cond.methodLink "ChartKnitterModel" (164 : Nat) ({ cls := "ChartKnitterModel", name := "make", desc := "(II)V" } : Jvm.MethodName)) ∈ xall := mx 875 (by decide +kernel) (by decide +kernel)
theorem m877 : (Jvm.Cond.instanceMethod ({ cls := "ChartKnitterModel", name := "make", desc := "(II)V" } : Jvm.MethodName)) ∈ xall := mx 877 (by decide +kernel) (by decide +kernel)
theorem m878 : (Jvm.Cond.code ({ cls := "ChartKnitterModel", name := "make", desc := "(II)V" } : Jvm.MethodName) prog_10_method_24_code (13 : Nat) (Option.none : Option Jvm.ClassFile.FieldType)) ∈ xall := mx 878 (by decide +kernel) (by decide +kernel)
theorem m879 : (Jvm.Cond.methodLink "ChartKnitterModel" (168 : Nat) ({ cls := "ChartKnitterModel", name := "drop", desc := "()V" } : Jvm.MethodName)) ∈ xall := mx 879 (by decide +kernel) (by decide +kernel)
theorem m881 : (Jvm.Cond.instanceMethod ({ cls := "ChartKnitterModel", name := "drop", desc := "()V" } : Jvm.MethodName)) ∈ xall := mx 881 (by decide +kernel) (by decide +kernel)
theorem m882 : (Jvm.Cond.code ({ cls := "ChartKnitterModel", name := "drop", desc := "()V" } : Jvm.MethodName) prog_10_method_25_code (4 : Nat) (Option.none : Option Jvm.ClassFile.FieldType)) ∈ xall := mx 882 (by decide +kernel) (by decide +kernel)
theorem m903 : (Jvm.Cond.methodLink "ChartKnitterModel" (195 : Nat) ({ cls := "ChartKnitterModel", name := "noRow", desc := "(I)Z" } : Jvm.MethodName)) ∈ xall := mx 903 (by decide +kernel) (by decide +kernel)
theorem m905 : (Jvm.Cond.instanceMethod ({ cls := "ChartKnitterModel", name := "noRow", desc := "(I)Z" } : Jvm.MethodName)) ∈ xall := mx 905 (by decide +kernel) (by decide +kernel)
theorem m906 : (Jvm.Cond.code ({ cls := "ChartKnitterModel", name := "noRow", desc := "(I)Z" } : Jvm.MethodName) prog_10_method_32_code (2 : Nat) (Option.some Jvm.ClassFile.FieldType.boolean)) ∈ xall := mx 906 (by decide +kernel) (by decide +kernel)
theorem m907 : (Jvm.Cond.methodLink "ChartKnitterModel" (198 : Nat) ({ cls := "ChartKnitterModel", name := "pair", desc := "(II)I" } : Jvm.MethodName)) ∈ xall := mx 907 (by decide +kernel) (by decide +kernel)
theorem m909 : (Jvm.Cond.instanceMethod ({ cls := "ChartKnitterModel", name := "pair", desc := "(II)I" } : Jvm.MethodName)) ∈ xall := mx 909 (by decide +kernel) (by decide +kernel)
theorem m910 : (Jvm.Cond.code ({ cls := "ChartKnitterModel", name := "pair", desc := "(II)I" } : Jvm.MethodName) prog_10_method_34_code (13 : Nat) (Option.some Jvm.ClassFile.FieldType.int)) ∈ xall := mx 910 (by decide +kernel) (by decide +kernel)
theorem m915 : (Jvm.Cond.methodLink "ChartKnitterModel" (201 : Nat) ({ cls := "ChartKnitterModel", name := "noLoop", desc := "(I)Z" } : Jvm.MethodName)) ∈ xall := mx 915 (by decide +kernel) (by decide +kernel)
theorem m917 : (Jvm.Cond.instanceMethod ({ cls := "ChartKnitterModel", name := "noLoop", desc := "(I)Z" } : Jvm.MethodName)) ∈ xall := mx 917 (by decide +kernel) (by decide +kernel)
theorem m918 : (Jvm.Cond.code ({ cls := "ChartKnitterModel", name := "noLoop", desc := "(I)Z" } : Jvm.MethodName) prog_10_method_33_code (2 : Nat) (Option.some Jvm.ClassFile.FieldType.boolean)) ∈ xall := mx 918 (by decide +kernel) (by decide +kernel)
theorem m923 : (Jvm.Cond.methodLink "ChartKnitterModel" (204 : Nat) ({ cls := "ChartKnitterModel", name := "whereIs", desc := "(I)I" } : Jvm.MethodName)) ∈ xall := mx 923 (by decide +kernel) (by decide +kernel)
theorem m925 : (Jvm.Cond.instanceMethod ({ cls := "ChartKnitterModel", name := "whereIs", desc := "(I)I" } : Jvm.MethodName)) ∈ xall := mx 925 (by decide +kernel) (by decide +kernel)
theorem m926 : (Jvm.Cond.code ({ cls := "ChartKnitterModel", name := "whereIs", desc := "(I)I" } : Jvm.MethodName) prog_10_method_37_code (4 : Nat) (Option.some Jvm.ClassFile.FieldType.int)) ∈ xall := mx 926 (by decide +kernel) (by decide +kernel)
theorem ms1 : Cond.selects "ChartKnitter" ⟨"ChartKnitter", "faultOfChart", "()I"⟩ ⟨"ChartKnitter", "faultOfChart", "()I"⟩ ∈ xall := mp (q := (⟨"ChartKnitter", "faultOfChart", "()I"⟩, 8)) 1 (by decide +kernel) (by decide +kernel)
theorem ms2 : Cond.selects "ChartKnitter$Chart" ⟨"ChartKnitter$Chart", "digitAt", "(I)I"⟩ ⟨"ChartKnitter$Chart", "digitAt", "(I)I"⟩ ∈ xall := mp (q := (⟨"ChartKnitter$Chart", "digitAt", "(I)I"⟩, 7)) 2 (by decide +kernel) (by decide +kernel)
theorem ms3 : Cond.selects "ChartKnitter$Chart" ⟨"ChartKnitter$Chart", "add", "(IZ)V"⟩ ⟨"ChartKnitter$Chart", "add", "(IZ)V"⟩ ∈ xall := mp (q := (⟨"ChartKnitter$Chart", "add", "(IZ)V"⟩, 7)) 3 (by decide +kernel) (by decide +kernel)
theorem ms4 : Cond.selects "ChartKnitter" ⟨"ChartKnitter", "faultOfRow", "(I)I"⟩ ⟨"ChartKnitter", "faultOfRow", "(I)I"⟩ ∈ xall := mp (q := (⟨"ChartKnitter", "faultOfRow", "(I)I"⟩, 8)) 4 (by decide +kernel) (by decide +kernel)
theorem ms5 : Cond.selects "ChartKnitter" ⟨"ChartKnitter", "knitNextRow", "(I)V"⟩ ⟨"ChartKnitter", "knitNextRow", "(I)V"⟩ ∈ xall := mp (q := (⟨"ChartKnitter", "knitNextRow", "(I)V"⟩, 8)) 5 (by decide +kernel) (by decide +kernel)
theorem ms6 : Cond.selects "ChartKnitter$Machine" ⟨"ChartKnitter$Machine", "clearFront", "(LChartKnitter$Plan;LChartKnitter$Row;)V"⟩ ⟨"ChartKnitter$Machine", "clearFront", "(LChartKnitter$Plan;LChartKnitter$Row;)V"⟩ ∈ xall := mp (q := (⟨"ChartKnitter$Machine", "clearFront", "(LChartKnitter$Plan;LChartKnitter$Row;)V"⟩, 3)) 6 (by decide +kernel) (by decide +kernel)
theorem ms7 : Cond.selects "ChartKnitter$Machine" ⟨"ChartKnitter$Machine", "transfer", "(I)V"⟩ ⟨"ChartKnitter$Machine", "transfer", "(I)V"⟩ ∈ xall := mp (q := (⟨"ChartKnitter$Machine", "transfer", "(I)V"⟩, 3)) 7 (by decide +kernel) (by decide +kernel)
theorem ms8 : Cond.selects "ChartKnitter$Machine" ⟨"ChartKnitter$Machine", "rackTo", "(I)V"⟩ ⟨"ChartKnitter$Machine", "rackTo", "(I)V"⟩ ∈ xall := mp (q := (⟨"ChartKnitter$Machine", "rackTo", "(I)V"⟩, 3)) 8 (by decide +kernel) (by decide +kernel)
theorem ms9 : Cond.selects "ChartKnitter$Machine" ⟨"ChartKnitter$Machine", "moveToGoals", "(LChartKnitter$Plan;Z)V"⟩ ⟨"ChartKnitter$Machine", "moveToGoals", "(LChartKnitter$Plan;Z)V"⟩ ∈ xall := mp (q := (⟨"ChartKnitter$Machine", "moveToGoals", "(LChartKnitter$Plan;Z)V"⟩, 3)) 9 (by decide +kernel) (by decide +kernel)
theorem ms10 : Cond.selects "ChartKnitter$Machine" ⟨"ChartKnitter$Machine", "fillBack", "(LChartKnitter$Plan;LChartKnitter$Row;)V"⟩ ⟨"ChartKnitter$Machine", "fillBack", "(LChartKnitter$Plan;LChartKnitter$Row;)V"⟩ ∈ xall := mp (q := (⟨"ChartKnitter$Machine", "fillBack", "(LChartKnitter$Plan;LChartKnitter$Row;)V"⟩, 3)) 10 (by decide +kernel) (by decide +kernel)
theorem ms11 : Cond.selects "ChartKnitter$Machine" ⟨"ChartKnitter$Machine", "changeBeds", "(LChartKnitter$Plan;LChartKnitter$Row;)V"⟩ ⟨"ChartKnitter$Machine", "changeBeds", "(LChartKnitter$Plan;LChartKnitter$Row;)V"⟩ ∈ xall := mp (q := (⟨"ChartKnitter$Machine", "changeBeds", "(LChartKnitter$Plan;LChartKnitter$Row;)V"⟩, 3)) 11 (by decide +kernel) (by decide +kernel)
theorem ms12 : Cond.selects "ChartKnitter" ⟨"ChartKnitter", "release", "(LChartKnitter$Row;LChartKnitter$Row;)V"⟩ ⟨"ChartKnitter", "release", "(LChartKnitter$Row;LChartKnitter$Row;)V"⟩ ∈ xall := mp (q := (⟨"ChartKnitter", "release", "(LChartKnitter$Row;LChartKnitter$Row;)V"⟩, 8)) 12 (by decide +kernel) (by decide +kernel)
theorem ms13 : Cond.selects "ChartKnitter" ⟨"ChartKnitter", "bringToGoals", "(LChartKnitter$Row;LChartKnitter$Row;Z)V"⟩ ⟨"ChartKnitter", "bringToGoals", "(LChartKnitter$Row;LChartKnitter$Row;Z)V"⟩ ∈ xall := mp (q := (⟨"ChartKnitter", "bringToGoals", "(LChartKnitter$Row;LChartKnitter$Row;Z)V"⟩, 8)) 13 (by decide +kernel) (by decide +kernel)
theorem ms14 : Cond.selects "ChartKnitter" ⟨"ChartKnitter", "noteCrossings", "(LChartKnitter$Row;LChartKnitter$Row;)V"⟩ ⟨"ChartKnitter", "noteCrossings", "(LChartKnitter$Row;LChartKnitter$Row;)V"⟩ ∈ xall := mp (q := (⟨"ChartKnitter", "noteCrossings", "(LChartKnitter$Row;LChartKnitter$Row;)V"⟩, 8)) 14 (by decide +kernel) (by decide +kernel)
theorem ms15 : Cond.selects "ChartKnitter" ⟨"ChartKnitter", "makeLoops", "(LChartKnitter$Row;LChartKnitter$Row;I)V"⟩ ⟨"ChartKnitter", "makeLoops", "(LChartKnitter$Row;LChartKnitter$Row;I)V"⟩ ∈ xall := mp (q := (⟨"ChartKnitter", "makeLoops", "(LChartKnitter$Row;LChartKnitter$Row;I)V"⟩, 8)) 15 (by decide +kernel) (by decide +kernel)
theorem ms16 : Cond.selects "ChartKnitter" ⟨"ChartKnitter", "drawThrough", "(LChartKnitter$Row;II)V"⟩ ⟨"ChartKnitter", "drawThrough", "(LChartKnitter$Row;II)V"⟩ ∈ xall := mp (q := (⟨"ChartKnitter", "drawThrough", "(LChartKnitter$Row;II)V"⟩, 8)) 16 (by decide +kernel) (by decide +kernel)
theorem ms17 : Cond.selects "ChartKnitter" ⟨"ChartKnitter", "isKnitted", "(I)Z"⟩ ⟨"ChartKnitter", "isKnitted", "(I)Z"⟩ ∈ xall := mp (q := (⟨"ChartKnitter", "isKnitted", "(I)Z"⟩, 8)) 17 (by decide +kernel) (by decide +kernel)
theorem ms18 : Cond.selects "ChartKnitter" ⟨"ChartKnitter", "isLoop", "(I)Z"⟩ ⟨"ChartKnitter", "isLoop", "(I)Z"⟩ ∈ xall := mp (q := (⟨"ChartKnitter", "isLoop", "(I)Z"⟩, 8)) 18 (by decide +kernel) (by decide +kernel)
theorem ms19 : Cond.selects "ChartKnitterModel" ⟨"ChartKnitterModel", "parse", "([III)I"⟩ ⟨"ChartKnitterModel", "parse", "([III)I"⟩ ∈ xall := mp (q := (⟨"ChartKnitterModel", "parse", "([III)I"⟩, 35)) 19 (by decide +kernel) (by decide +kernel)
theorem ms20 : Cond.selects "ChartKnitterModel" ⟨"ChartKnitterModel", "fault", "(II)I"⟩ ⟨"ChartKnitterModel", "fault", "(II)I"⟩ ∈ xall := mp (q := (⟨"ChartKnitterModel", "fault", "(II)I"⟩, 35)) 20 (by decide +kernel) (by decide +kernel)
theorem ms21 : Cond.selects "ChartKnitterModel" ⟨"ChartKnitterModel", "takes", "(I)I"⟩ ⟨"ChartKnitterModel", "takes", "(I)I"⟩ ∈ xall := mp (q := (⟨"ChartKnitterModel", "takes", "(I)I"⟩, 35)) 21 (by decide +kernel) (by decide +kernel)
theorem ms22 : Cond.selects "ChartKnitterModel" ⟨"ChartKnitterModel", "gives", "(I)I"⟩ ⟨"ChartKnitterModel", "gives", "(I)I"⟩ ∈ xall := mp (q := (⟨"ChartKnitterModel", "gives", "(I)I"⟩, 35)) 22 (by decide +kernel) (by decide +kernel)
theorem ms23 : Cond.selects "ChartKnitterModel" ⟨"ChartKnitterModel", "crowded", "()I"⟩ ⟨"ChartKnitterModel", "crowded", "()I"⟩ ∈ xall := mp (q := (⟨"ChartKnitterModel", "crowded", "()I"⟩, 35)) 23 (by decide +kernel) (by decide +kernel)
theorem ms24 : Cond.selects "ChartKnitterModel" ⟨"ChartKnitterModel", "size", "(I)I"⟩ ⟨"ChartKnitterModel", "size", "(I)I"⟩ ∈ xall := mp (q := (⟨"ChartKnitterModel", "size", "(I)I"⟩, 35)) 24 (by decide +kernel) (by decide +kernel)
theorem ms25 : Cond.selects "ChartKnitterModel" ⟨"ChartKnitterModel", "plan", "()V"⟩ ⟨"ChartKnitterModel", "plan", "()V"⟩ ∈ xall := mp (q := (⟨"ChartKnitterModel", "plan", "()V"⟩, 35)) 25 (by decide +kernel) (by decide +kernel)
theorem ms26 : Cond.selects "ChartKnitterModel" ⟨"ChartKnitterModel", "cable", "(III)V"⟩ ⟨"ChartKnitterModel", "cable", "(III)V"⟩ ∈ xall := mp (q := (⟨"ChartKnitterModel", "cable", "(III)V"⟩, 35)) 26 (by decide +kernel) (by decide +kernel)
theorem ms27 : Cond.selects "ChartKnitterModel" ⟨"ChartKnitterModel", "take", "(IIIZI)V"⟩ ⟨"ChartKnitterModel", "take", "(IIIZI)V"⟩ ∈ xall := mp (q := (⟨"ChartKnitterModel", "take", "(IIIZI)V"⟩, 35)) 27 (by decide +kernel) (by decide +kernel)
theorem ms28 : Cond.selects "ChartKnitterModel" ⟨"ChartKnitterModel", "give", "(III)V"⟩ ⟨"ChartKnitterModel", "give", "(III)V"⟩ ∈ xall := mp (q := (⟨"ChartKnitterModel", "give", "(III)V"⟩, 35)) 28 (by decide +kernel) (by decide +kernel)
theorem ms29 : Cond.selects "ChartKnitterModel" ⟨"ChartKnitterModel", "join", "(III)V"⟩ ⟨"ChartKnitterModel", "join", "(III)V"⟩ ∈ xall := mp (q := (⟨"ChartKnitterModel", "join", "(III)V"⟩, 35)) 29 (by decide +kernel) (by decide +kernel)
theorem ms30 : Cond.selects "ChartKnitterModel" ⟨"ChartKnitterModel", "areMoved", "()Z"⟩ ⟨"ChartKnitterModel", "areMoved", "()Z"⟩ ∈ xall := mp (q := (⟨"ChartKnitterModel", "areMoved", "()Z"⟩, 35)) 30 (by decide +kernel) (by decide +kernel)
theorem ms31 : Cond.selects "ChartKnitterModel" ⟨"ChartKnitterModel", "tooFar", "()I"⟩ ⟨"ChartKnitterModel", "tooFar", "()I"⟩ ∈ xall := mp (q := (⟨"ChartKnitterModel", "tooFar", "()I"⟩, 35)) 31 (by decide +kernel) (by decide +kernel)
theorem ms32 : Cond.selects "ChartKnitterModel" ⟨"ChartKnitterModel", "makes", "(I)I"⟩ ⟨"ChartKnitterModel", "makes", "(I)I"⟩ ∈ xall := mp (q := (⟨"ChartKnitterModel", "makes", "(I)I"⟩, 35)) 32 (by decide +kernel) (by decide +kernel)
theorem ms33 : Cond.selects "ChartKnitterModel" ⟨"ChartKnitterModel", "knitRow", "(II)V"⟩ ⟨"ChartKnitterModel", "knitRow", "(II)V"⟩ ∈ xall := mp (q := (⟨"ChartKnitterModel", "knitRow", "(II)V"⟩, 35)) 33 (by decide +kernel) (by decide +kernel)
theorem ms34 : Cond.selects "ChartKnitterModel" ⟨"ChartKnitterModel", "transfers", "()I"⟩ ⟨"ChartKnitterModel", "transfers", "()I"⟩ ∈ xall := mp (q := (⟨"ChartKnitterModel", "transfers", "()I"⟩, 35)) 34 (by decide +kernel) (by decide +kernel)
theorem ms35 : Cond.selects "ChartKnitterModel" ⟨"ChartKnitterModel", "rackings", "()I"⟩ ⟨"ChartKnitterModel", "rackings", "()I"⟩ ∈ xall := mp (q := (⟨"ChartKnitterModel", "rackings", "()I"⟩, 35)) 35 (by decide +kernel) (by decide +kernel)
theorem ms36 : Cond.selects "ChartKnitterModel" ⟨"ChartKnitterModel", "released", "()I"⟩ ⟨"ChartKnitterModel", "released", "()I"⟩ ∈ xall := mp (q := (⟨"ChartKnitterModel", "released", "()I"⟩, 35)) 36 (by decide +kernel) (by decide +kernel)
theorem ms37 : Cond.selects "ChartKnitterModel" ⟨"ChartKnitterModel", "make", "(II)V"⟩ ⟨"ChartKnitterModel", "make", "(II)V"⟩ ∈ xall := mp (q := (⟨"ChartKnitterModel", "make", "(II)V"⟩, 35)) 37 (by decide +kernel) (by decide +kernel)
theorem ms38 : Cond.selects "ChartKnitterModel" ⟨"ChartKnitterModel", "drop", "()V"⟩ ⟨"ChartKnitterModel", "drop", "()V"⟩ ∈ xall := mp (q := (⟨"ChartKnitterModel", "drop", "()V"⟩, 35)) 38 (by decide +kernel) (by decide +kernel)
theorem ms39 : Cond.selects "ChartKnitterModel" ⟨"ChartKnitterModel", "noRow", "(I)Z"⟩ ⟨"ChartKnitterModel", "noRow", "(I)Z"⟩ ∈ xall := mp (q := (⟨"ChartKnitterModel", "noRow", "(I)Z"⟩, 35)) 39 (by decide +kernel) (by decide +kernel)
theorem ms40 : Cond.selects "ChartKnitterModel" ⟨"ChartKnitterModel", "pair", "(II)I"⟩ ⟨"ChartKnitterModel", "pair", "(II)I"⟩ ∈ xall := mp (q := (⟨"ChartKnitterModel", "pair", "(II)I"⟩, 35)) 40 (by decide +kernel) (by decide +kernel)
theorem ms41 : Cond.selects "ChartKnitterModel" ⟨"ChartKnitterModel", "noLoop", "(I)Z"⟩ ⟨"ChartKnitterModel", "noLoop", "(I)Z"⟩ ∈ xall := mp (q := (⟨"ChartKnitterModel", "noLoop", "(I)Z"⟩, 35)) 41 (by decide +kernel) (by decide +kernel)
theorem ms42 : Cond.selects "ChartKnitterModel" ⟨"ChartKnitterModel", "whereIs", "(I)I"⟩ ⟨"ChartKnitterModel", "whereIs", "(I)I"⟩ ∈ xall := mp (q := (⟨"ChartKnitterModel", "whereIs", "(I)I"⟩, 35)) 42 (by decide +kernel) (by decide +kernel)
theorem lay0 : ∀ w ∈ u_ws CR0 CF0 8, w ∈ xall := by
  intro w hw
  obtain ⟨k, hk, rfl⟩ := List.mem_map.mp hw
  have hk := List.mem_range.mp hk
  rcases (show k = 0 ∨ k = 1 ∨ k = 2 ∨ k = 3 ∨ k = 4 ∨ k = 5 ∨ k = 6 ∨ k = 7 by omega) with rfl | rfl | rfl | rfl | rfl | rfl | rfl | rfl
  · exact m274
  · exact m276
  · exact m278
  · exact m280
  · exact m282
  · exact m284
  · exact m286
  · exact m288
theorem lay1 : ∀ w ∈ u_ws CR1 CF1 7, w ∈ xall := by
  intro w hw
  obtain ⟨k, hk, rfl⟩ := List.mem_map.mp hw
  have hk := List.mem_range.mp hk
  rcases (show k = 0 ∨ k = 1 ∨ k = 2 ∨ k = 3 ∨ k = 4 ∨ k = 5 ∨ k = 6 by omega) with rfl | rfl | rfl | rfl | rfl | rfl | rfl
  · exact m87
  · exact m89
  · exact m91
  · exact m93
  · exact m95
  · exact m97
  · exact m99
theorem lay2 : ∀ w ∈ u_ws CR2 CF2 4, w ∈ xall := by
  intro w hw
  obtain ⟨k, hk, rfl⟩ := List.mem_map.mp hw
  have hk := List.mem_range.mp hk
  rcases (show k = 0 ∨ k = 1 ∨ k = 2 ∨ k = 3 by omega) with rfl | rfl | rfl | rfl
  · exact m194
  · exact m196
  · exact m198
  · exact m200
theorem lay3 : ∀ w ∈ u_ws CR3 CF3 6, w ∈ xall := by
  intro w hw
  obtain ⟨k, hk, rfl⟩ := List.mem_map.mp hw
  have hk := List.mem_range.mp hk
  rcases (show k = 0 ∨ k = 1 ∨ k = 2 ∨ k = 3 ∨ k = 4 ∨ k = 5 by omega) with rfl | rfl | rfl | rfl | rfl | rfl
  · exact m171
  · exact m173
  · exact m175
  · exact m177
  · exact m179
  · exact m181
theorem lay4 : ∀ w ∈ u_ws CR4 CF4 3, w ∈ xall := by
  intro w hw
  obtain ⟨k, hk, rfl⟩ := List.mem_map.mp hw
  have hk := List.mem_range.mp hk
  rcases (show k = 0 ∨ k = 1 ∨ k = 2 by omega) with rfl | rfl | rfl
  · exact m146
  · exact m148
  · exact m150
theorem lay5 : ∀ w ∈ u_ws CR5 CF5 5, w ∈ xall := by
  intro w hw
  obtain ⟨k, hk, rfl⟩ := List.mem_map.mp hw
  have hk := List.mem_range.mp hk
  rcases (show k = 0 ∨ k = 1 ∨ k = 2 ∨ k = 3 ∨ k = 4 by omega) with rfl | rfl | rfl | rfl | rfl
  · exact m123
  · exact m125
  · exact m127
  · exact m129
  · exact m131
theorem lay6 : ∀ w ∈ u_ws CR6 CF6 13, w ∈ xall := by
  intro w hw
  obtain ⟨k, hk, rfl⟩ := List.mem_map.mp hw
  have hk := List.mem_range.mp hk
  rcases (show k = 0 ∨ k = 1 ∨ k = 2 ∨ k = 3 ∨ k = 4 ∨ k = 5 ∨ k = 6 ∨ k = 7 ∨ k = 8 ∨ k = 9 ∨ k = 10 ∨ k = 11 ∨ k = 12 by omega) with rfl | rfl | rfl | rfl | rfl | rfl | rfl | rfl | rfl | rfl | rfl | rfl | rfl
  · exact m239
  · exact m241
  · exact m243
  · exact m245
  · exact m247
  · exact m249
  · exact m251
  · exact m253
  · exact m255
  · exact m257
  · exact m259
  · exact m261
  · exact m263
theorem lay7 : ∀ w ∈ u_ws CR7 CF7 6, w ∈ xall := by
  intro w hw
  obtain ⟨k, hk, rfl⟩ := List.mem_map.mp hw
  have hk := List.mem_range.mp hk
  rcases (show k = 0 ∨ k = 1 ∨ k = 2 ∨ k = 3 ∨ k = 4 ∨ k = 5 by omega) with rfl | rfl | rfl | rfl | rfl | rfl
  · exact m56
  · exact m58
  · exact m60
  · exact m62
  · exact m64
  · exact m66
theorem lay8 : ∀ w ∈ u_ws CR8 CF8 35, w ∈ xall := by
  intro w hw
  obtain ⟨k, hk, rfl⟩ := List.mem_map.mp hw
  have hk := List.mem_range.mp hk
  rcases (show k = 0 ∨ k = 1 ∨ k = 2 ∨ k = 3 ∨ k = 4 ∨ k = 5 ∨ k = 6 ∨ k = 7 ∨ k = 8 ∨ k = 9 ∨ k = 10 ∨ k = 11 ∨ k = 12 ∨ k = 13 ∨ k = 14 ∨ k = 15 ∨ k = 16 ∨ k = 17 ∨ k = 18 ∨ k = 19 ∨ k = 20 ∨ k = 21 ∨ k = 22 ∨ k = 23 ∨ k = 24 ∨ k = 25 ∨ k = 26 ∨ k = 27 ∨ k = 28 ∨ k = 29 ∨ k = 30 ∨ k = 31 ∨ k = 32 ∨ k = 33 ∨ k = 34 by omega) with rfl | rfl | rfl | rfl | rfl | rfl | rfl | rfl | rfl | rfl | rfl | rfl | rfl | rfl | rfl | rfl | rfl | rfl | rfl | rfl | rfl | rfl | rfl | rfl | rfl | rfl | rfl | rfl | rfl | rfl | rfl | rfl | rfl | rfl | rfl
  · exact m709
  · exact m711
  · exact m713
  · exact m715
  · exact m717
  · exact m719
  · exact m721
  · exact m723
  · exact m725
  · exact m727
  · exact m729
  · exact m731
  · exact m733
  · exact m735
  · exact m737
  · exact m739
  · exact m741
  · exact m743
  · exact m745
  · exact m747
  · exact m749
  · exact m751
  · exact m753
  · exact m755
  · exact m757
  · exact m759
  · exact m761
  · exact m763
  · exact m765
  · exact m767
  · exact m769
  · exact m771
  · exact m773
  · exact m775
  · exact m777
theorem xz15 : XZ 15 := ⟨by decide +kernel, m613, by decide +kernel, by decide +kernel⟩
theorem xz16 : XZ 16 := ⟨by decide +kernel, m641, by decide +kernel, by decide +kernel⟩
theorem xz17 : XZ 17 := ⟨by decide +kernel, m337, by decide +kernel, by decide +kernel⟩
theorem xz18 : XZ 18 := ⟨by decide +kernel, m297, by decide +kernel, by decide +kernel⟩
theorem xz19 : XZ 19 := ⟨by decide +kernel, m522, by decide +kernel, by decide +kernel⟩
theorem xz20 : XZ 20 := ⟨by decide +kernel, m454, by decide +kernel, by decide +kernel⟩
theorem xz21 : XZ 21 := ⟨by decide +kernel, m519, by decide +kernel, by decide +kernel⟩
theorem xz22 : XZ 22 := ⟨by decide +kernel, m526, by decide +kernel, by decide +kernel⟩
theorem xz23 : XZ 23 := ⟨by decide +kernel, m570, by decide +kernel, by decide +kernel⟩
theorem xz24 : XZ 24 := ⟨by decide +kernel, m574, by decide +kernel, by decide +kernel⟩
theorem xz25 : XZ 25 := ⟨by decide +kernel, m578, by decide +kernel, by decide +kernel⟩
theorem xz26 : XZ 26 := ⟨by decide +kernel, m594, by decide +kernel, by decide +kernel⟩
theorem xz27 : XZ 27 := ⟨by decide +kernel, m601, by decide +kernel, by decide +kernel⟩
theorem xz28 : XZ 28 := ⟨by decide +kernel, m29, by decide +kernel, by decide +kernel⟩
theorem xz29 : XZ 29 := ⟨by decide +kernel, m458, by decide +kernel, by decide +kernel⟩
theorem xz30 : XZ 30 := ⟨by decide +kernel, m468, by decide +kernel, by decide +kernel⟩
theorem xz31 : XZ 31 := ⟨by decide +kernel, m472, by decide +kernel, by decide +kernel⟩
theorem xz32 : XZ 32 := ⟨by decide +kernel, m507, by decide +kernel, by decide +kernel⟩
theorem xz33 : XZ 33 := ⟨by decide +kernel, m188, by decide +kernel, by decide +kernel⟩
theorem xz34 : XZ 34 := ⟨by decide +kernel, m583, by decide +kernel, by decide +kernel⟩
theorem xz35 : XZ 35 := ⟨by decide +kernel, m587, by decide +kernel, by decide +kernel⟩
theorem xz36 : XZ 36 := ⟨by decide +kernel, m660, by decide +kernel, by decide +kernel⟩
theorem xz37 : XZ 37 := ⟨by decide +kernel, m590, by decide +kernel, by decide +kernel⟩
theorem xz38 : XZ 38 := ⟨by decide +kernel, m666, by decide +kernel, by decide +kernel⟩
theorem xz39 : XZ 39 := ⟨by decide +kernel, m157, by decide +kernel, by decide +kernel⟩
theorem xz40 : XZ 40 := ⟨by decide +kernel, m421, by decide +kernel, by decide +kernel⟩
theorem xz41 : XZ 41 := ⟨by decide +kernel, m139, by decide +kernel, by decide +kernel⟩
theorem xz42 : XZ 42 := ⟨by decide +kernel, m530, by decide +kernel, by decide +kernel⟩
theorem xz43 : XZ 43 := ⟨by decide +kernel, m538, by decide +kernel, by decide +kernel⟩
theorem xz44 : XZ 44 := ⟨by decide +kernel, m550, by decide +kernel, by decide +kernel⟩
theorem xz45 : XZ 45 := ⟨by decide +kernel, m554, by decide +kernel, by decide +kernel⟩
theorem xz46 : XZ 46 := ⟨by decide +kernel, m566, by decide +kernel, by decide +kernel⟩
theorem xz47 : XZ 47 := ⟨by decide +kernel, m542, by decide +kernel, by decide +kernel⟩
theorem xz48 : XZ 48 := ⟨by decide +kernel, m546, by decide +kernel, by decide +kernel⟩
theorem xz49 : XZ 49 := ⟨by decide +kernel, m106, by decide +kernel, by decide +kernel⟩
theorem xz50 : XZ 50 := ⟨by decide +kernel, m488, by decide +kernel, by decide +kernel⟩
theorem xz51 : XZ 51 := ⟨by decide +kernel, m512, by decide +kernel, by decide +kernel⟩
theorem xz52 : XZ 52 := ⟨by decide +kernel, m534, by decide +kernel, by decide +kernel⟩
theorem xz53 : XZ 53 := ⟨by decide +kernel, m208, by decide +kernel, by decide +kernel⟩
theorem xz54 : XZ 54 := ⟨by decide +kernel, m417, by decide +kernel, by decide +kernel⟩
theorem xz55 : XZ 55 := ⟨by decide +kernel, m326, by decide +kernel, by decide +kernel⟩
theorem xz56 : XZ 56 := ⟨by decide +kernel, m314, by decide +kernel, by decide +kernel⟩
theorem xz57 : XZ 57 := ⟨by decide +kernel, m425, by decide +kernel, by decide +kernel⟩
theorem xz58 : XZ 58 := ⟨by decide +kernel, m36, by decide +kernel, by decide +kernel⟩
theorem xz59 : XZ 59 := ⟨by decide +kernel, m461, by decide +kernel, by decide +kernel⟩
theorem xz60 : XZ 60 := ⟨by decide +kernel, m464, by decide +kernel, by decide +kernel⟩
theorem xz61 : XZ 61 := ⟨by decide +kernel, m497, by decide +kernel, by decide +kernel⟩
theorem xz62 : XZ 62 := ⟨by decide +kernel, m476, by decide +kernel, by decide +kernel⟩
theorem xz63 : XZ 63 := ⟨by decide +kernel, m480, by decide +kernel, by decide +kernel⟩
theorem xz64 : XZ 64 := ⟨by decide +kernel, m484, by decide +kernel, by decide +kernel⟩
theorem xz65 : XZ 65 := ⟨by decide +kernel, m562, by decide +kernel, by decide +kernel⟩
theorem xz66 : XZ 66 := ⟨by decide +kernel, m493, by decide +kernel, by decide +kernel⟩
theorem xz67 : XZ 67 := ⟨by decide +kernel, m502, by decide +kernel, by decide +kernel⟩
theorem xz68 : XZ 68 := ⟨by decide +kernel, m558, by decide +kernel, by decide +kernel⟩
theorem xz73 : XZ 73 := ⟨by decide +kernel, m803, by decide +kernel, by decide +kernel⟩
theorem xz74 : XZ 74 := ⟨by decide +kernel, m806, by decide +kernel, by decide +kernel⟩
theorem xz75 : XZ 75 := ⟨by decide +kernel, m800, by decide +kernel, by decide +kernel⟩
theorem xz76 : XZ 76 := ⟨by decide +kernel, m814, by decide +kernel, by decide +kernel⟩
theorem xz77 : XZ 77 := ⟨by decide +kernel, m818, by decide +kernel, by decide +kernel⟩
theorem xz78 : XZ 78 := ⟨by decide +kernel, m810, by decide +kernel, by decide +kernel⟩
theorem xz79 : XZ 79 := ⟨by decide +kernel, m826, by decide +kernel, by decide +kernel⟩
theorem xz80 : XZ 80 := ⟨by decide +kernel, m822, by decide +kernel, by decide +kernel⟩
theorem xz81 : XZ 81 := ⟨by decide +kernel, m838, by decide +kernel, by decide +kernel⟩
theorem xz82 : XZ 82 := ⟨by decide +kernel, m842, by decide +kernel, by decide +kernel⟩
theorem xz83 : XZ 83 := ⟨by decide +kernel, m846, by decide +kernel, by decide +kernel⟩
theorem xz84 : XZ 84 := ⟨by decide +kernel, m834, by decide +kernel, by decide +kernel⟩
theorem xz85 : XZ 85 := ⟨by decide +kernel, m830, by decide +kernel, by decide +kernel⟩
theorem xz86 : XZ 86 := ⟨by decide +kernel, m850, by decide +kernel, by decide +kernel⟩
theorem xz87 : XZ 87 := ⟨by decide +kernel, m854, by decide +kernel, by decide +kernel⟩
theorem xz88 : XZ 88 := ⟨by decide +kernel, m858, by decide +kernel, by decide +kernel⟩
theorem xz89 : XZ 89 := ⟨by decide +kernel, m866, by decide +kernel, by decide +kernel⟩
theorem xz90 : XZ 90 := ⟨by decide +kernel, m870, by decide +kernel, by decide +kernel⟩
theorem xz91 : XZ 91 := ⟨by decide +kernel, m874, by decide +kernel, by decide +kernel⟩
theorem xz92 : XZ 92 := ⟨by decide +kernel, m878, by decide +kernel, by decide +kernel⟩
theorem xz93 : XZ 93 := ⟨by decide +kernel, m882, by decide +kernel, by decide +kernel⟩
theorem xz94 : XZ 94 := ⟨by decide +kernel, m862, by decide +kernel, by decide +kernel⟩
theorem xz100 : XZ 100 := ⟨by decide +kernel, m906, by decide +kernel, by decide +kernel⟩
theorem xz101 : XZ 101 := ⟨by decide +kernel, m918, by decide +kernel, by decide +kernel⟩
theorem xz102 : XZ 102 := ⟨by decide +kernel, m910, by decide +kernel, by decide +kernel⟩
theorem xz105 : XZ 105 := ⟨by decide +kernel, m926, by decide +kernel, by decide +kernel⟩
def swr (pc : Nat) : List (Int × Int) → List (Int32 × Nat) → Bool
  | [], [] => true
  | (a, o) :: r, (k, t) :: s => decide (k.toInt = a) && decide ((pc : Int) + o = (t : Int)) && swr pc r s
  | _, _ => false
theorem xsw_aux {pc d : Nat} {dflt : Int} (hd : (pc : Int) + dflt = (d : Int)) (x : Int32) : ∀ (ps : List (Int × Int)) (qs : List (Int32 × Nat)), swr pc ps qs = true → (pc : Int) + Op.lookupswitch.offset ps dflt x.toInt = ((xsw x d qs : Nat) : Int)
  | [], [], _ => by simpa [xsw, Op.lookupswitch.offset] using hd
  | (a, o) :: r, (k, t) :: s, h => by
    simp only [swr, Bool.and_eq_true, decide_eq_true_eq] at h
    by_cases hx : x = k
    · subst hx
      rw [Op.lookupswitch.offset_cons, if_pos (by rw [h.1.1])]
      simp [xsw, h.1.2]
    · rw [lv_osw hx h.1.1, xsw_aux hd x r s h.2]
      simp [xsw, hx]
  | [], _ :: _, h => by cases h
  | _ :: _, [], h => by cases h
theorem xsw_ok {pc d : Nat} {dflt : Int} {ps : Array (Int × Int)} {qs : List (Int32 × Nat)} (h : (decide ((pc : Int) + dflt = (d : Int)) && swr pc ps.toList qs) = true) : ∀ x : Int32, (pc : Int) + Op.lookupswitch.offset ps.toList dflt x.toInt = ((xsw x d qs : Nat) : Int) := by
  simp only [Bool.and_eq_true, decide_eq_true_eq] at h
  exact fun x => xsw_aux h.1 x _ _ h.2
theorem sw_7_11 : ∀ x : Int32, (x.toInt < 0 ∨ 3 < x.toInt → ((11 : Nat) : Int) + 49 = ((xsw x 60 [(0, 40), (1, 45), (2, 50), (3, 55)] : Nat) : Int)) ∧ (¬ (x.toInt < 0 ∨ 3 < x.toInt) → ∃ off, (#[29, 34, 39, 44] : Array Int)[(x.toInt - 0).toNat]? = some off ∧ ((11 : Nat) : Int) + off = ((xsw x 60 [(0, 40), (1, 45), (2, 50), (3, 55)] : Nat) : Int)) := by
  intro x
  refine ⟨fun h => ?_, fun h => ?_⟩
  · have h0 : ¬ x = 0 := fun q => by subst q; revert h; decide
    have h1 : ¬ x = 1 := fun q => by subst q; revert h; decide
    have h2 : ¬ x = 2 := fun q => by subst q; revert h; decide
    have h3 : ¬ x = 3 := fun q => by subst q; revert h; decide
    simp [xsw, h0, h1, h2, h3]
  · rcases (show x.toInt = 0 ∨ x.toInt = 1 ∨ x.toInt = 2 ∨ x.toInt = 3 by omega) with h | h | h | h
    · have e : x = 0 := Int32.toInt_inj.mp (by rw [h]; decide)
      subst e
      exact ⟨_, rfl, by decide⟩
    · have e : x = 1 := Int32.toInt_inj.mp (by rw [h]; decide)
      subst e
      exact ⟨_, rfl, by decide⟩
    · have e : x = 2 := Int32.toInt_inj.mp (by rw [h]; decide)
      subst e
      exact ⟨_, rfl, by decide⟩
    · have e : x = 3 := Int32.toInt_inj.mp (by rw [h]; decide)
      subst e
      exact ⟨_, rfl, by decide⟩
theorem sw_8_26 : ∀ x : Int32, (x.toInt < 0 ∨ 4 < x.toInt → ((26 : Nat) : Int) + 59 = ((xsw x 85 [(0, 60), (1, 65), (2, 70), (3, 75), (4, 80)] : Nat) : Int)) ∧ (¬ (x.toInt < 0 ∨ 4 < x.toInt) → ∃ off, (#[34, 39, 44, 49, 54] : Array Int)[(x.toInt - 0).toNat]? = some off ∧ ((26 : Nat) : Int) + off = ((xsw x 85 [(0, 60), (1, 65), (2, 70), (3, 75), (4, 80)] : Nat) : Int)) := by
  intro x
  refine ⟨fun h => ?_, fun h => ?_⟩
  · have h0 : ¬ x = 0 := fun q => by subst q; revert h; decide
    have h1 : ¬ x = 1 := fun q => by subst q; revert h; decide
    have h2 : ¬ x = 2 := fun q => by subst q; revert h; decide
    have h3 : ¬ x = 3 := fun q => by subst q; revert h; decide
    have h4 : ¬ x = 4 := fun q => by subst q; revert h; decide
    simp [xsw, h0, h1, h2, h3, h4]
  · rcases (show x.toInt = 0 ∨ x.toInt = 1 ∨ x.toInt = 2 ∨ x.toInt = 3 ∨ x.toInt = 4 by omega) with h | h | h | h | h
    · have e : x = 0 := Int32.toInt_inj.mp (by rw [h]; decide)
      subst e
      exact ⟨_, rfl, by decide⟩
    · have e : x = 1 := Int32.toInt_inj.mp (by rw [h]; decide)
      subst e
      exact ⟨_, rfl, by decide⟩
    · have e : x = 2 := Int32.toInt_inj.mp (by rw [h]; decide)
      subst e
      exact ⟨_, rfl, by decide⟩
    · have e : x = 3 := Int32.toInt_inj.mp (by rw [h]; decide)
      subst e
      exact ⟨_, rfl, by decide⟩
    · have e : x = 4 := Int32.toInt_inj.mp (by rw [h]; decide)
      subst e
      exact ⟨_, rfl, by decide⟩
theorem sw_10_19 : ∀ x : Int32, (x.toInt < 0 ∨ 4 < x.toInt → ((19 : Nat) : Int) + 83 = ((xsw x 102 [(0, 52), (1, 62), (2, 72), (3, 82), (4, 92)] : Nat) : Int)) ∧ (¬ (x.toInt < 0 ∨ 4 < x.toInt) → ∃ off, (#[33, 43, 53, 63, 73] : Array Int)[(x.toInt - 0).toNat]? = some off ∧ ((19 : Nat) : Int) + off = ((xsw x 102 [(0, 52), (1, 62), (2, 72), (3, 82), (4, 92)] : Nat) : Int)) := by
  intro x
  refine ⟨fun h => ?_, fun h => ?_⟩
  · have h0 : ¬ x = 0 := fun q => by subst q; revert h; decide
    have h1 : ¬ x = 1 := fun q => by subst q; revert h; decide
    have h2 : ¬ x = 2 := fun q => by subst q; revert h; decide
    have h3 : ¬ x = 3 := fun q => by subst q; revert h; decide
    have h4 : ¬ x = 4 := fun q => by subst q; revert h; decide
    simp [xsw, h0, h1, h2, h3, h4]
  · rcases (show x.toInt = 0 ∨ x.toInt = 1 ∨ x.toInt = 2 ∨ x.toInt = 3 ∨ x.toInt = 4 by omega) with h | h | h | h | h
    · have e : x = 0 := Int32.toInt_inj.mp (by rw [h]; decide)
      subst e
      exact ⟨_, rfl, by decide⟩
    · have e : x = 1 := Int32.toInt_inj.mp (by rw [h]; decide)
      subst e
      exact ⟨_, rfl, by decide⟩
    · have e : x = 2 := Int32.toInt_inj.mp (by rw [h]; decide)
      subst e
      exact ⟨_, rfl, by decide⟩
    · have e : x = 3 := Int32.toInt_inj.mp (by rw [h]; decide)
      subst e
      exact ⟨_, rfl, by decide⟩
    · have e : x = 4 := Int32.toInt_inj.mp (by rw [h]; decide)
      subst e
      exact ⟨_, rfl, by decide⟩
theorem sd_throw {y pc e : Nat} : Snd y pc (fun _ _ M => xo_throw e M) := sorry
end
