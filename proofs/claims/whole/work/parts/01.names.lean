/-- a private method of a class that the tables say can be made, by its rows of tables_1 -/
def lw_okq (q : MethodName × Nat) : Prop := (q.1.cls ≠ "java/lang/invoke/MethodHandle" ∧ q.1.cls ≠ "java/lang/invoke/VarHandle") ∧ Cond.instantiable q.1.cls q.2 ∈ tables_1 ∧ Cond.privateMethod q.1 ∈ tables_1 ∧ Cond.instanceMethod q.1 ∈ tables_1
theorem lw_p0 : lw_okq (⟨"CornerCurves", "openForm", "(I)I"⟩, 12) := ⟨⟨by decide +kernel, by decide +kernel⟩, List.mem_of_getElem? (i := 17) (by decide +kernel), List.mem_of_getElem? (i := 329) (by decide +kernel), List.mem_of_getElem? (i := 330) (by decide +kernel)⟩
theorem lw_p1 : lw_okq (⟨"CornerCurves", "exists", "(I)Z"⟩, 12) := ⟨⟨by decide +kernel, by decide +kernel⟩, List.mem_of_getElem? (i := 17) (by decide +kernel), List.mem_of_getElem? (i := 341) (by decide +kernel), List.mem_of_getElem? (i := 342) (by decide +kernel)⟩
theorem lw_p2 : lw_okq (⟨"CornerCurves$Form", "slide", "(II)V"⟩, 6) := ⟨⟨by decide +kernel, by decide +kernel⟩, List.mem_of_getElem? (i := 169) (by decide +kernel), List.mem_of_getElem? (i := 356) (by decide +kernel), List.mem_of_getElem? (i := 357) (by decide +kernel)⟩
theorem lw_p3 : lw_okq (⟨"CornerCurves", "findTerm", "(III)I"⟩, 12) := ⟨⟨by decide +kernel, by decide +kernel⟩, List.mem_of_getElem? (i := 17) (by decide +kernel), List.mem_of_getElem? (i := 367) (by decide +kernel), List.mem_of_getElem? (i := 368) (by decide +kernel)⟩
theorem lw_p4 : lw_okq (⟨"CornerCurves$Draft", "addTerm", "(IILCornerCurves$Form;)Z"⟩, 1) := ⟨⟨by decide +kernel, by decide +kernel⟩, List.mem_of_getElem? (i := 52) (by decide +kernel), List.mem_of_getElem? (i := 406) (by decide +kernel), List.mem_of_getElem? (i := 407) (by decide +kernel)⟩
theorem lw_p5 : lw_okq (⟨"CornerCurves", "openFrom", "(LCornerCurves$Draft;I)I"⟩, 12) := ⟨⟨by decide +kernel, by decide +kernel⟩, List.mem_of_getElem? (i := 17) (by decide +kernel), List.mem_of_getElem? (i := 415) (by decide +kernel), List.mem_of_getElem? (i := 416) (by decide +kernel)⟩
theorem lw_p6 : lw_okq (⟨"CornerCurves", "curveOf", "(I)LCornerCurves$Curve;"⟩, 12) := ⟨⟨by decide +kernel, by decide +kernel⟩, List.mem_of_getElem? (i := 17) (by decide +kernel), List.mem_of_getElem? (i := 456) (by decide +kernel), List.mem_of_getElem? (i := 457) (by decide +kernel)⟩
theorem lw_p7 : lw_okq (⟨"CornerCurves$Curve", "findStretch", "(II)Z"⟩, 13) := ⟨⟨by decide +kernel, by decide +kernel⟩, List.mem_of_getElem? (i := 208) (by decide +kernel), List.mem_of_getElem? (i := 464) (by decide +kernel), List.mem_of_getElem? (i := 465) (by decide +kernel)⟩
theorem lw_p8 : lw_okq (⟨"CornerCurves$Curve", "raiseLow", "(JJ)V"⟩, 13) := ⟨⟨by decide +kernel, by decide +kernel⟩, List.mem_of_getElem? (i := 208) (by decide +kernel), List.mem_of_getElem? (i := 468) (by decide +kernel), List.mem_of_getElem? (i := 469) (by decide +kernel)⟩
theorem lw_p9 : lw_okq (⟨"CornerCurves$Curve", "bringDownHigh", "(JJ)V"⟩, 13) := ⟨⟨by decide +kernel, by decide +kernel⟩, List.mem_of_getElem? (i := 208) (by decide +kernel), List.mem_of_getElem? (i := 472) (by decide +kernel), List.mem_of_getElem? (i := 473) (by decide +kernel)⟩
theorem lw_p10 : lw_okq (⟨"CornerCurves$Curve", "addEdge", "(II)V"⟩, 13) := ⟨⟨by decide +kernel, by decide +kernel⟩, List.mem_of_getElem? (i := 208) (by decide +kernel), List.mem_of_getElem? (i := 476) (by decide +kernel), List.mem_of_getElem? (i := 477) (by decide +kernel)⟩
theorem lw_p11 : lw_okq (⟨"CornerCurves$Curve", "cornerOn", "(IJJ)I"⟩, 13) := ⟨⟨by decide +kernel, by decide +kernel⟩, List.mem_of_getElem? (i := 208) (by decide +kernel), List.mem_of_getElem? (i := 480) (by decide +kernel), List.mem_of_getElem? (i := 481) (by decide +kernel)⟩
theorem lw_p12 : lw_okq (⟨"CornerCurves$Points", "compare", "(ILCornerCurves$Point;)J"⟩, 6) := ⟨⟨by decide +kernel, by decide +kernel⟩, List.mem_of_getElem? (i := 68) (by decide +kernel), List.mem_of_getElem? (i := 508) (by decide +kernel), List.mem_of_getElem? (i := 509) (by decide +kernel)⟩
theorem lw_p13 : lw_okq (⟨"CornerCurves", "areaOf", "(LCornerCurves$Form;)I"⟩, 12) := ⟨⟨by decide +kernel, by decide +kernel⟩, List.mem_of_getElem? (i := 17) (by decide +kernel), List.mem_of_getElem? (i := 521) (by decide +kernel), List.mem_of_getElem? (i := 522) (by decide +kernel)⟩
theorem lw_p14 : lw_okq (⟨"CornerCurves$Ring", "underChain", "(I)I"⟩, 4) := ⟨⟨by decide +kernel, by decide +kernel⟩, List.mem_of_getElem? (i := 31) (by decide +kernel), List.mem_of_getElem? (i := 537) (by decide +kernel), List.mem_of_getElem? (i := 538) (by decide +kernel)⟩
theorem lw_p15 : lw_okq (⟨"CornerCurves$Ring", "turn", "(III)I"⟩, 4) := ⟨⟨by decide +kernel, by decide +kernel⟩, List.mem_of_getElem? (i := 31) (by decide +kernel), List.mem_of_getElem? (i := 541) (by decide +kernel), List.mem_of_getElem? (i := 542) (by decide +kernel)⟩
def lw_privs_1 : List (MethodName × Nat) := [(⟨"CornerCurves", "openForm", "(I)I"⟩, 12), (⟨"CornerCurves", "exists", "(I)Z"⟩, 12), (⟨"CornerCurves$Form", "slide", "(II)V"⟩, 6), (⟨"CornerCurves", "findTerm", "(III)I"⟩, 12), (⟨"CornerCurves$Draft", "addTerm", "(IILCornerCurves$Form;)Z"⟩, 1), (⟨"CornerCurves", "openFrom", "(LCornerCurves$Draft;I)I"⟩, 12), (⟨"CornerCurves", "curveOf", "(I)LCornerCurves$Curve;"⟩, 12), (⟨"CornerCurves$Curve", "findStretch", "(II)Z"⟩, 13), (⟨"CornerCurves$Curve", "raiseLow", "(JJ)V"⟩, 13), (⟨"CornerCurves$Curve", "bringDownHigh", "(JJ)V"⟩, 13), (⟨"CornerCurves$Curve", "addEdge", "(II)V"⟩, 13), (⟨"CornerCurves$Curve", "cornerOn", "(IJJ)I"⟩, 13), (⟨"CornerCurves$Points", "compare", "(ILCornerCurves$Point;)J"⟩, 6), (⟨"CornerCurves", "areaOf", "(LCornerCurves$Form;)I"⟩, 12), (⟨"CornerCurves$Ring", "underChain", "(I)I"⟩, 4), (⟨"CornerCurves$Ring", "turn", "(III)I"⟩, 4)]
theorem lw_r1 : ∀ q ∈ lw_privs_1, lw_okq q := List.forall_mem_cons.mpr ⟨lw_p0, List.forall_mem_cons.mpr ⟨lw_p1, List.forall_mem_cons.mpr ⟨lw_p2, List.forall_mem_cons.mpr ⟨lw_p3, List.forall_mem_cons.mpr ⟨lw_p4, List.forall_mem_cons.mpr ⟨lw_p5, List.forall_mem_cons.mpr ⟨lw_p6, List.forall_mem_cons.mpr ⟨lw_p7, List.forall_mem_cons.mpr ⟨lw_p8, List.forall_mem_cons.mpr ⟨lw_p9, List.forall_mem_cons.mpr ⟨lw_p10, List.forall_mem_cons.mpr ⟨lw_p11, List.forall_mem_cons.mpr ⟨lw_p12, List.forall_mem_cons.mpr ⟨lw_p13, List.forall_mem_cons.mpr ⟨lw_p14, List.forall_mem_cons.mpr ⟨lw_p15, fun _ h => absurd h List.not_mem_nil⟩⟩⟩⟩⟩⟩⟩⟩⟩⟩⟩⟩⟩⟩⟩⟩
theorem lw_p16 : lw_okq (⟨"CornerCurves", "hasTerms", "(I)Z"⟩, 12) := ⟨⟨by decide +kernel, by decide +kernel⟩, List.mem_of_getElem? (i := 17) (by decide +kernel), List.mem_of_getElem? (i := 606) (by decide +kernel), List.mem_of_getElem? (i := 607) (by decide +kernel)⟩
theorem lw_p17 : lw_okq (⟨"CornerCurves", "goTo", "(III)Z"⟩, 12) := ⟨⟨by decide +kernel, by decide +kernel⟩, List.mem_of_getElem? (i := 17) (by decide +kernel), List.mem_of_getElem? (i := 610) (by decide +kernel), List.mem_of_getElem? (i := 611) (by decide +kernel)⟩
theorem lw_p18 : lw_okq (⟨"CornerCurves$Crossing", "touches", "(LCornerCurves$Curve;LCornerCurves$Form;)Z"⟩, 5) := ⟨⟨by decide +kernel, by decide +kernel⟩, List.mem_of_getElem? (i := 62) (by decide +kernel), List.mem_of_getElem? (i := 691) (by decide +kernel), List.mem_of_getElem? (i := 692) (by decide +kernel)⟩
theorem lw_p19 : lw_okq (⟨"CornerCurves$Crossing", "layEdges", "(LCornerCurves$Curve;ILCornerCurves$Curve;I)Z"⟩, 5) := ⟨⟨by decide +kernel, by decide +kernel⟩, List.mem_of_getElem? (i := 62) (by decide +kernel), List.mem_of_getElem? (i := 697) (by decide +kernel), List.mem_of_getElem? (i := 698) (by decide +kernel)⟩
theorem lw_p20 : lw_okq (⟨"CornerCurves$Crossing", "overlap", "(LCornerCurves$Curve;ILCornerCurves$Curve;I)Z"⟩, 5) := ⟨⟨by decide +kernel, by decide +kernel⟩, List.mem_of_getElem? (i := 62) (by decide +kernel), List.mem_of_getElem? (i := 704) (by decide +kernel), List.mem_of_getElem? (i := 705) (by decide +kernel)⟩
theorem lw_p21 : lw_okq (⟨"CornerCurves$Crossing", "beginsBefore", "(LCornerCurves$Curve;ILCornerCurves$Curve;I)Z"⟩, 5) := ⟨⟨by decide +kernel, by decide +kernel⟩, List.mem_of_getElem? (i := 62) (by decide +kernel), List.mem_of_getElem? (i := 708) (by decide +kernel), List.mem_of_getElem? (i := 709) (by decide +kernel)⟩
theorem lw_p22 : lw_okq (⟨"CornerCurves$Crossing", "holds", "(LCornerCurves$Curve;I)Z"⟩, 5) := ⟨⟨by decide +kernel, by decide +kernel⟩, List.mem_of_getElem? (i := 62) (by decide +kernel), List.mem_of_getElem? (i := 725) (by decide +kernel), List.mem_of_getElem? (i := 726) (by decide +kernel)⟩
theorem lw_p23 : lw_okq (⟨"CornerCurves$Crossing", "note", "(I)V"⟩, 5) := ⟨⟨by decide +kernel, by decide +kernel⟩, List.mem_of_getElem? (i := 62) (by decide +kernel), List.mem_of_getElem? (i := 732) (by decide +kernel), List.mem_of_getElem? (i := 733) (by decide +kernel)⟩
theorem lw_p24 : lw_okq (⟨"CornerCurvesModel", "is", "(I)Z"⟩, 55) := ⟨⟨by decide +kernel, by decide +kernel⟩, List.mem_of_getElem? (i := 841) (by decide +kernel), List.mem_of_getElem? (i := 1022) (by decide +kernel), List.mem_of_getElem? (i := 1023) (by decide +kernel)⟩
theorem lw_p25 : lw_okq (⟨"CornerCurvesModel", "in", "(III)Z"⟩, 55) := ⟨⟨by decide +kernel, by decide +kernel⟩, List.mem_of_getElem? (i := 841) (by decide +kernel), List.mem_of_getElem? (i := 1026) (by decide +kernel), List.mem_of_getElem? (i := 1027) (by decide +kernel)⟩
theorem lw_p26 : lw_okq (⟨"CornerCurvesModel", "termAt", "(III)I"⟩, 55) := ⟨⟨by decide +kernel, by decide +kernel⟩, List.mem_of_getElem? (i := 841) (by decide +kernel), List.mem_of_getElem? (i := 1030) (by decide +kernel), List.mem_of_getElem? (i := 1031) (by decide +kernel)⟩
theorem lw_p27 : lw_okq (⟨"CornerCurvesModel", "insert", "(IIII)V"⟩, 55) := ⟨⟨by decide +kernel, by decide +kernel⟩, List.mem_of_getElem? (i := 841) (by decide +kernel), List.mem_of_getElem? (i := 1034) (by decide +kernel), List.mem_of_getElem? (i := 1035) (by decide +kernel)⟩
theorem lw_p28 : lw_okq (⟨"CornerCurvesModel", "spreadOut", "(I)V"⟩, 55) := ⟨⟨by decide +kernel, by decide +kernel⟩, List.mem_of_getElem? (i := 841) (by decide +kernel), List.mem_of_getElem? (i := 1046) (by decide +kernel), List.mem_of_getElem? (i := 1047) (by decide +kernel)⟩
theorem lw_p29 : lw_okq (⟨"CornerCurvesModel", "addForm", "(I)V"⟩, 55) := ⟨⟨by decide +kernel, by decide +kernel⟩, List.mem_of_getElem? (i := 841) (by decide +kernel), List.mem_of_getElem? (i := 1050) (by decide +kernel), List.mem_of_getElem? (i := 1051) (by decide +kernel)⟩
theorem lw_p30 : lw_okq (⟨"CornerCurvesModel", "gather", "(I)I"⟩, 55) := ⟨⟨by decide +kernel, by decide +kernel⟩, List.mem_of_getElem? (i := 841) (by decide +kernel), List.mem_of_getElem? (i := 1054) (by decide +kernel), List.mem_of_getElem? (i := 1055) (by decide +kernel)⟩
theorem lw_p31 : lw_okq (⟨"CornerCurvesModel", "timesIn", "(II)I"⟩, 55) := ⟨⟨by decide +kernel, by decide +kernel⟩, List.mem_of_getElem? (i := 841) (by decide +kernel), List.mem_of_getElem? (i := 1070) (by decide +kernel), List.mem_of_getElem? (i := 1071) (by decide +kernel)⟩
def lw_privs_2 : List (MethodName × Nat) := [(⟨"CornerCurves", "hasTerms", "(I)Z"⟩, 12), (⟨"CornerCurves", "goTo", "(III)Z"⟩, 12), (⟨"CornerCurves$Crossing", "touches", "(LCornerCurves$Curve;LCornerCurves$Form;)Z"⟩, 5), (⟨"CornerCurves$Crossing", "layEdges", "(LCornerCurves$Curve;ILCornerCurves$Curve;I)Z"⟩, 5), (⟨"CornerCurves$Crossing", "overlap", "(LCornerCurves$Curve;ILCornerCurves$Curve;I)Z"⟩, 5), (⟨"CornerCurves$Crossing", "beginsBefore", "(LCornerCurves$Curve;ILCornerCurves$Curve;I)Z"⟩, 5), (⟨"CornerCurves$Crossing", "holds", "(LCornerCurves$Curve;I)Z"⟩, 5), (⟨"CornerCurves$Crossing", "note", "(I)V"⟩, 5), (⟨"CornerCurvesModel", "is", "(I)Z"⟩, 55), (⟨"CornerCurvesModel", "in", "(III)Z"⟩, 55), (⟨"CornerCurvesModel", "termAt", "(III)I"⟩, 55), (⟨"CornerCurvesModel", "insert", "(IIII)V"⟩, 55), (⟨"CornerCurvesModel", "spreadOut", "(I)V"⟩, 55), (⟨"CornerCurvesModel", "addForm", "(I)V"⟩, 55), (⟨"CornerCurvesModel", "gather", "(I)I"⟩, 55), (⟨"CornerCurvesModel", "timesIn", "(II)I"⟩, 55)]
theorem lw_r2 : ∀ q ∈ lw_privs_2, lw_okq q := List.forall_mem_cons.mpr ⟨lw_p16, List.forall_mem_cons.mpr ⟨lw_p17, List.forall_mem_cons.mpr ⟨lw_p18, List.forall_mem_cons.mpr ⟨lw_p19, List.forall_mem_cons.mpr ⟨lw_p20, List.forall_mem_cons.mpr ⟨lw_p21, List.forall_mem_cons.mpr ⟨lw_p22, List.forall_mem_cons.mpr ⟨lw_p23, List.forall_mem_cons.mpr ⟨lw_p24, List.forall_mem_cons.mpr ⟨lw_p25, List.forall_mem_cons.mpr ⟨lw_p26, List.forall_mem_cons.mpr ⟨lw_p27, List.forall_mem_cons.mpr ⟨lw_p28, List.forall_mem_cons.mpr ⟨lw_p29, List.forall_mem_cons.mpr ⟨lw_p30, List.forall_mem_cons.mpr ⟨lw_p31, fun _ h => absurd h List.not_mem_nil⟩⟩⟩⟩⟩⟩⟩⟩⟩⟩⟩⟩⟩⟩⟩⟩
theorem lw_p32 : lw_okq (⟨"CornerCurvesModel", "hasTerms", "(I)Z"⟩, 55) := ⟨⟨by decide +kernel, by decide +kernel⟩, List.mem_of_getElem? (i := 841) (by decide +kernel), List.mem_of_getElem? (i := 1082) (by decide +kernel), List.mem_of_getElem? (i := 1083) (by decide +kernel)⟩
theorem lw_p33 : lw_okq (⟨"CornerCurvesModel", "isPoint", "(III)Z"⟩, 55) := ⟨⟨by decide +kernel, by decide +kernel⟩, List.mem_of_getElem? (i := 841) (by decide +kernel), List.mem_of_getElem? (i := 1086) (by decide +kernel), List.mem_of_getElem? (i := 1087) (by decide +kernel)⟩
theorem lw_p34 : lw_okq (⟨"CornerCurvesModel", "standAt", "(JJJJ)V"⟩, 55) := ⟨⟨by decide +kernel, by decide +kernel⟩, List.mem_of_getElem? (i := 841) (by decide +kernel), List.mem_of_getElem? (i := 1091) (by decide +kernel), List.mem_of_getElem? (i := 1092) (by decide +kernel)⟩
theorem lw_p35 : lw_okq (⟨"CornerCurvesModel", "lowest", "(JJI)J"⟩, 55) := ⟨⟨by decide +kernel, by decide +kernel⟩, List.mem_of_getElem? (i := 841) (by decide +kernel), List.mem_of_getElem? (i := 1095) (by decide +kernel), List.mem_of_getElem? (i := 1096) (by decide +kernel)⟩
theorem lw_p36 : lw_okq (⟨"CornerCurvesModel", "divisor", "(JJ)J"⟩, 55) := ⟨⟨by decide +kernel, by decide +kernel⟩, List.mem_of_getElem? (i := 841) (by decide +kernel), List.mem_of_getElem? (i := 1099) (by decide +kernel), List.mem_of_getElem? (i := 1100) (by decide +kernel)⟩
theorem lw_p37 : lw_okq (⟨"CornerCurvesModel", "leastOf", "(I)J"⟩, 55) := ⟨⟨by decide +kernel, by decide +kernel⟩, List.mem_of_getElem? (i := 841) (by decide +kernel), List.mem_of_getElem? (i := 1103) (by decide +kernel), List.mem_of_getElem? (i := 1104) (by decide +kernel)⟩
theorem lw_p38 : lw_okq (⟨"CornerCurvesModel", "worthOf", "(I)J"⟩, 55) := ⟨⟨by decide +kernel, by decide +kernel⟩, List.mem_of_getElem? (i := 841) (by decide +kernel), List.mem_of_getElem? (i := 1107) (by decide +kernel), List.mem_of_getElem? (i := 1108) (by decide +kernel)⟩
theorem lw_p39 : lw_okq (⟨"CornerCurvesModel", "countLeast", "(I)I"⟩, 55) := ⟨⟨by decide +kernel, by decide +kernel⟩, List.mem_of_getElem? (i := 841) (by decide +kernel), List.mem_of_getElem? (i := 1115) (by decide +kernel), List.mem_of_getElem? (i := 1116) (by decide +kernel)⟩
theorem lw_p40 : lw_okq (⟨"CornerCurvesModel", "areaOf", "(I)I"⟩, 55) := ⟨⟨by decide +kernel, by decide +kernel⟩, List.mem_of_getElem? (i := 841) (by decide +kernel), List.mem_of_getElem? (i := 1123) (by decide +kernel), List.mem_of_getElem? (i := 1124) (by decide +kernel)⟩
theorem lw_p41 : lw_okq (⟨"CornerCurvesModel", "ringAdd", "(II)V"⟩, 55) := ⟨⟨by decide +kernel, by decide +kernel⟩, List.mem_of_getElem? (i := 841) (by decide +kernel), List.mem_of_getElem? (i := 1127) (by decide +kernel), List.mem_of_getElem? (i := 1128) (by decide +kernel)⟩
theorem lw_p42 : lw_okq (⟨"CornerCurvesModel", "ringArea", "()I"⟩, 55) := ⟨⟨by decide +kernel, by decide +kernel⟩, List.mem_of_getElem? (i := 841) (by decide +kernel), List.mem_of_getElem? (i := 1131) (by decide +kernel), List.mem_of_getElem? (i := 1132) (by decide +kernel)⟩
theorem lw_p43 : lw_okq (⟨"CornerCurvesModel", "turnOf", "(III)I"⟩, 55) := ⟨⟨by decide +kernel, by decide +kernel⟩, List.mem_of_getElem? (i := 841) (by decide +kernel), List.mem_of_getElem? (i := 1135) (by decide +kernel), List.mem_of_getElem? (i := 1136) (by decide +kernel)⟩
theorem lw_p44 : lw_okq (⟨"CornerCurvesModel", "isFarther", "(III)Z"⟩, 55) := ⟨⟨by decide +kernel, by decide +kernel⟩, List.mem_of_getElem? (i := 841) (by decide +kernel), List.mem_of_getElem? (i := 1139) (by decide +kernel), List.mem_of_getElem? (i := 1140) (by decide +kernel)⟩
theorem lw_p45 : lw_okq (⟨"CornerCurvesModel", "idles", "(I)I"⟩, 55) := ⟨⟨by decide +kernel, by decide +kernel⟩, List.mem_of_getElem? (i := 841) (by decide +kernel), List.mem_of_getElem? (i := 1143) (by decide +kernel), List.mem_of_getElem? (i := 1144) (by decide +kernel)⟩
theorem lw_p46 : lw_okq (⟨"CornerCurvesModel", "isIdle", "(II)Z"⟩, 55) := ⟨⟨by decide +kernel, by decide +kernel⟩, List.mem_of_getElem? (i := 841) (by decide +kernel), List.mem_of_getElem? (i := 1147) (by decide +kernel), List.mem_of_getElem? (i := 1148) (by decide +kernel)⟩
theorem lw_p47 : lw_okq (⟨"CornerCurvesModel", "isUnderTwo", "(III)Z"⟩, 55) := ⟨⟨by decide +kernel, by decide +kernel⟩, List.mem_of_getElem? (i := 841) (by decide +kernel), List.mem_of_getElem? (i := 1151) (by decide +kernel), List.mem_of_getElem? (i := 1152) (by decide +kernel)⟩
def lw_privs_3 : List (MethodName × Nat) := [(⟨"CornerCurvesModel", "hasTerms", "(I)Z"⟩, 55), (⟨"CornerCurvesModel", "isPoint", "(III)Z"⟩, 55), (⟨"CornerCurvesModel", "standAt", "(JJJJ)V"⟩, 55), (⟨"CornerCurvesModel", "lowest", "(JJI)J"⟩, 55), (⟨"CornerCurvesModel", "divisor", "(JJ)J"⟩, 55), (⟨"CornerCurvesModel", "leastOf", "(I)J"⟩, 55), (⟨"CornerCurvesModel", "worthOf", "(I)J"⟩, 55), (⟨"CornerCurvesModel", "countLeast", "(I)I"⟩, 55), (⟨"CornerCurvesModel", "areaOf", "(I)I"⟩, 55), (⟨"CornerCurvesModel", "ringAdd", "(II)V"⟩, 55), (⟨"CornerCurvesModel", "ringArea", "()I"⟩, 55), (⟨"CornerCurvesModel", "turnOf", "(III)I"⟩, 55), (⟨"CornerCurvesModel", "isFarther", "(III)Z"⟩, 55), (⟨"CornerCurvesModel", "idles", "(I)I"⟩, 55), (⟨"CornerCurvesModel", "isIdle", "(II)Z"⟩, 55), (⟨"CornerCurvesModel", "isUnderTwo", "(III)Z"⟩, 55)]
theorem lw_r3 : ∀ q ∈ lw_privs_3, lw_okq q := List.forall_mem_cons.mpr ⟨lw_p32, List.forall_mem_cons.mpr ⟨lw_p33, List.forall_mem_cons.mpr ⟨lw_p34, List.forall_mem_cons.mpr ⟨lw_p35, List.forall_mem_cons.mpr ⟨lw_p36, List.forall_mem_cons.mpr ⟨lw_p37, List.forall_mem_cons.mpr ⟨lw_p38, List.forall_mem_cons.mpr ⟨lw_p39, List.forall_mem_cons.mpr ⟨lw_p40, List.forall_mem_cons.mpr ⟨lw_p41, List.forall_mem_cons.mpr ⟨lw_p42, List.forall_mem_cons.mpr ⟨lw_p43, List.forall_mem_cons.mpr ⟨lw_p44, List.forall_mem_cons.mpr ⟨lw_p45, List.forall_mem_cons.mpr ⟨lw_p46, List.forall_mem_cons.mpr ⟨lw_p47, fun _ h => absurd h List.not_mem_nil⟩⟩⟩⟩⟩⟩⟩⟩⟩⟩⟩⟩⟩⟩⟩⟩
theorem lw_p48 : lw_okq (⟨"CornerCurvesModel", "across", "(III)J"⟩, 55) := ⟨⟨by decide +kernel, by decide +kernel⟩, List.mem_of_getElem? (i := 841) (by decide +kernel), List.mem_of_getElem? (i := 1155) (by decide +kernel), List.mem_of_getElem? (i := 1156) (by decide +kernel)⟩
theorem lw_p49 : lw_okq (⟨"CornerCurvesModel", "isUnderThree", "(IIII)Z"⟩, 55) := ⟨⟨by decide +kernel, by decide +kernel⟩, List.mem_of_getElem? (i := 841) (by decide +kernel), List.mem_of_getElem? (i := 1159) (by decide +kernel), List.mem_of_getElem? (i := 1160) (by decide +kernel)⟩
theorem lw_p50 : lw_okq (⟨"CornerCurvesModel", "findCorners", "(I)V"⟩, 55) := ⟨⟨by decide +kernel, by decide +kernel⟩, List.mem_of_getElem? (i := 841) (by decide +kernel), List.mem_of_getElem? (i := 1164) (by decide +kernel), List.mem_of_getElem? (i := 1165) (by decide +kernel)⟩
theorem lw_p51 : lw_okq (⟨"CornerCurvesModel", "findEdges", "(I)V"⟩, 55) := ⟨⟨by decide +kernel, by decide +kernel⟩, List.mem_of_getElem? (i := 841) (by decide +kernel), List.mem_of_getElem? (i := 1168) (by decide +kernel), List.mem_of_getElem? (i := 1169) (by decide +kernel)⟩
theorem lw_p52 : lw_okq (⟨"CornerCurvesModel", "bounds", "(IIIII)Z"⟩, 55) := ⟨⟨by decide +kernel, by decide +kernel⟩, List.mem_of_getElem? (i := 841) (by decide +kernel), List.mem_of_getElem? (i := 1172) (by decide +kernel), List.mem_of_getElem? (i := 1173) (by decide +kernel)⟩
theorem lw_p53 : lw_okq (⟨"CornerCurvesModel", "pointOf", "(IIIIIJJ)V"⟩, 55) := ⟨⟨by decide +kernel, by decide +kernel⟩, List.mem_of_getElem? (i := 841) (by decide +kernel), List.mem_of_getElem? (i := 1176) (by decide +kernel), List.mem_of_getElem? (i := 1177) (by decide +kernel)⟩
theorem lw_p54 : lw_okq (⟨"CornerCurvesModel", "keepCorner", "(I)V"⟩, 55) := ⟨⟨by decide +kernel, by decide +kernel⟩, List.mem_of_getElem? (i := 841) (by decide +kernel), List.mem_of_getElem? (i := 1180) (by decide +kernel), List.mem_of_getElem? (i := 1181) (by decide +kernel)⟩
theorem lw_p55 : lw_okq (⟨"CornerCurvesModel", "compare", "([JI[JI)I"⟩, 55) := ⟨⟨by decide +kernel, by decide +kernel⟩, List.mem_of_getElem? (i := 841) (by decide +kernel), List.mem_of_getElem? (i := 1184) (by decide +kernel), List.mem_of_getElem? (i := 1185) (by decide +kernel)⟩
theorem lw_p56 : lw_okq (⟨"CornerCurvesModel", "isSmooth", "(I)Z"⟩, 55) := ⟨⟨by decide +kernel, by decide +kernel⟩, List.mem_of_getElem? (i := 841) (by decide +kernel), List.mem_of_getElem? (i := 1188) (by decide +kernel), List.mem_of_getElem? (i := 1189) (by decide +kernel)⟩
theorem lw_p57 : lw_okq (⟨"CornerCurvesModel", "partArea", "(II)I"⟩, 55) := ⟨⟨by decide +kernel, by decide +kernel⟩, List.mem_of_getElem? (i := 841) (by decide +kernel), List.mem_of_getElem? (i := 1192) (by decide +kernel), List.mem_of_getElem? (i := 1193) (by decide +kernel)⟩
theorem lw_p58 : lw_okq (⟨"CornerCurvesModel", "standAtCorner", "(I)V"⟩, 55) := ⟨⟨by decide +kernel, by decide +kernel⟩, List.mem_of_getElem? (i := 841) (by decide +kernel), List.mem_of_getElem? (i := 1196) (by decide +kernel), List.mem_of_getElem? (i := 1197) (by decide +kernel)⟩
theorem lw_p59 : lw_okq (⟨"CornerCurvesModel", "kindOf", "(I)I"⟩, 55) := ⟨⟨by decide +kernel, by decide +kernel⟩, List.mem_of_getElem? (i := 841) (by decide +kernel), List.mem_of_getElem? (i := 1200) (by decide +kernel), List.mem_of_getElem? (i := 1201) (by decide +kernel)⟩
theorem lw_p60 : lw_okq (⟨"CornerCurvesModel", "isWithin", "(II)Z"⟩, 55) := ⟨⟨by decide +kernel, by decide +kernel⟩, List.mem_of_getElem? (i := 841) (by decide +kernel), List.mem_of_getElem? (i := 1217) (by decide +kernel), List.mem_of_getElem? (i := 1218) (by decide +kernel)⟩
theorem lw_p61 : lw_okq (⟨"CornerCurvesModel", "findMeets", "(II)Z"⟩, 55) := ⟨⟨by decide +kernel, by decide +kernel⟩, List.mem_of_getElem? (i := 841) (by decide +kernel), List.mem_of_getElem? (i := 1241) (by decide +kernel), List.mem_of_getElem? (i := 1242) (by decide +kernel)⟩
theorem lw_p62 : lw_okq (⟨"CornerCurvesModel", "isClear", "(II)Z"⟩, 55) := ⟨⟨by decide +kernel, by decide +kernel⟩, List.mem_of_getElem? (i := 841) (by decide +kernel), List.mem_of_getElem? (i := 1245) (by decide +kernel), List.mem_of_getElem? (i := 1246) (by decide +kernel)⟩
theorem lw_p63 : lw_okq (⟨"CornerCurvesModel", "keepEdges", "(I)V"⟩, 55) := ⟨⟨by decide +kernel, by decide +kernel⟩, List.mem_of_getElem? (i := 841) (by decide +kernel), List.mem_of_getElem? (i := 1249) (by decide +kernel), List.mem_of_getElem? (i := 1250) (by decide +kernel)⟩
def lw_privs_4 : List (MethodName × Nat) := [(⟨"CornerCurvesModel", "across", "(III)J"⟩, 55), (⟨"CornerCurvesModel", "isUnderThree", "(IIII)Z"⟩, 55), (⟨"CornerCurvesModel", "findCorners", "(I)V"⟩, 55), (⟨"CornerCurvesModel", "findEdges", "(I)V"⟩, 55), (⟨"CornerCurvesModel", "bounds", "(IIIII)Z"⟩, 55), (⟨"CornerCurvesModel", "pointOf", "(IIIIIJJ)V"⟩, 55), (⟨"CornerCurvesModel", "keepCorner", "(I)V"⟩, 55), (⟨"CornerCurvesModel", "compare", "([JI[JI)I"⟩, 55), (⟨"CornerCurvesModel", "isSmooth", "(I)Z"⟩, 55), (⟨"CornerCurvesModel", "partArea", "(II)I"⟩, 55), (⟨"CornerCurvesModel", "standAtCorner", "(I)V"⟩, 55), (⟨"CornerCurvesModel", "kindOf", "(I)I"⟩, 55), (⟨"CornerCurvesModel", "isWithin", "(II)Z"⟩, 55), (⟨"CornerCurvesModel", "findMeets", "(II)Z"⟩, 55), (⟨"CornerCurvesModel", "isClear", "(II)Z"⟩, 55), (⟨"CornerCurvesModel", "keepEdges", "(I)V"⟩, 55)]
theorem lw_r4 : ∀ q ∈ lw_privs_4, lw_okq q := List.forall_mem_cons.mpr ⟨lw_p48, List.forall_mem_cons.mpr ⟨lw_p49, List.forall_mem_cons.mpr ⟨lw_p50, List.forall_mem_cons.mpr ⟨lw_p51, List.forall_mem_cons.mpr ⟨lw_p52, List.forall_mem_cons.mpr ⟨lw_p53, List.forall_mem_cons.mpr ⟨lw_p54, List.forall_mem_cons.mpr ⟨lw_p55, List.forall_mem_cons.mpr ⟨lw_p56, List.forall_mem_cons.mpr ⟨lw_p57, List.forall_mem_cons.mpr ⟨lw_p58, List.forall_mem_cons.mpr ⟨lw_p59, List.forall_mem_cons.mpr ⟨lw_p60, List.forall_mem_cons.mpr ⟨lw_p61, List.forall_mem_cons.mpr ⟨lw_p62, List.forall_mem_cons.mpr ⟨lw_p63, fun _ h => absurd h List.not_mem_nil⟩⟩⟩⟩⟩⟩⟩⟩⟩⟩⟩⟩⟩⟩⟩⟩
theorem lw_p64 : lw_okq (⟨"CornerCurvesModel", "isOneLine", "(II)Z"⟩, 55) := ⟨⟨by decide +kernel, by decide +kernel⟩, List.mem_of_getElem? (i := 841) (by decide +kernel), List.mem_of_getElem? (i := 1253) (by decide +kernel), List.mem_of_getElem? (i := 1254) (by decide +kernel)⟩
theorem lw_p65 : lw_okq (⟨"CornerCurvesModel", "standAtBoth", "(II)V"⟩, 55) := ⟨⟨by decide +kernel, by decide +kernel⟩, List.mem_of_getElem? (i := 841) (by decide +kernel), List.mem_of_getElem? (i := 1257) (by decide +kernel), List.mem_of_getElem? (i := 1258) (by decide +kernel)⟩
theorem lw_p66 : lw_okq (⟨"CornerCurvesModel", "keepMeet", "(I)V"⟩, 55) := ⟨⟨by decide +kernel, by decide +kernel⟩, List.mem_of_getElem? (i := 841) (by decide +kernel), List.mem_of_getElem? (i := 1261) (by decide +kernel), List.mem_of_getElem? (i := 1262) (by decide +kernel)⟩
theorem lw_p67 : lw_okq (⟨"CornerCurvesModel", "prove", "(I)I"⟩, 55) := ⟨⟨by decide +kernel, by decide +kernel⟩, List.mem_of_getElem? (i := 841) (by decide +kernel), List.mem_of_getElem? (i := 1277) (by decide +kernel), List.mem_of_getElem? (i := 1278) (by decide +kernel)⟩
theorem lw_p68 : lw_okq (⟨"CornerCurvesModel", "liesOf", "(II)I"⟩, 55) := ⟨⟨by decide +kernel, by decide +kernel⟩, List.mem_of_getElem? (i := 841) (by decide +kernel), List.mem_of_getElem? (i := 1297) (by decide +kernel), List.mem_of_getElem? (i := 1298) (by decide +kernel)⟩
theorem lw_p69 : lw_okq (⟨"CornerCurvesModel", "sumLies", "(II)I"⟩, 55) := ⟨⟨by decide +kernel, by decide +kernel⟩, List.mem_of_getElem? (i := 841) (by decide +kernel), List.mem_of_getElem? (i := 1301) (by decide +kernel), List.mem_of_getElem? (i := 1302) (by decide +kernel)⟩
theorem lw_p70 : lw_okq (⟨"CornerCurvesModel", "body", "(I)V"⟩, 55) := ⟨⟨by decide +kernel, by decide +kernel⟩, List.mem_of_getElem? (i := 841) (by decide +kernel), List.mem_of_getElem? (i := 1305) (by decide +kernel), List.mem_of_getElem? (i := 1306) (by decide +kernel)⟩
theorem lw_p71 : lw_okq (⟨"CornerCurvesModel", "formLies", "(II)I"⟩, 55) := ⟨⟨by decide +kernel, by decide +kernel⟩, List.mem_of_getElem? (i := 841) (by decide +kernel), List.mem_of_getElem? (i := 1309) (by decide +kernel), List.mem_of_getElem? (i := 1310) (by decide +kernel)⟩
theorem lw_p72 : lw_okq (⟨"CornerCurvesModel", "weighsOf", "(II)I"⟩, 55) := ⟨⟨by decide +kernel, by decide +kernel⟩, List.mem_of_getElem? (i := 841) (by decide +kernel), List.mem_of_getElem? (i := 1313) (by decide +kernel), List.mem_of_getElem? (i := 1314) (by decide +kernel)⟩
theorem lw_p73 : lw_okq (⟨"CornerCurvesModel", "formWeighs", "(II)I"⟩, 55) := ⟨⟨by decide +kernel, by decide +kernel⟩, List.mem_of_getElem? (i := 841) (by decide +kernel), List.mem_of_getElem? (i := 1317) (by decide +kernel), List.mem_of_getElem? (i := 1318) (by decide +kernel)⟩
theorem lw_p74 : lw_okq (⟨"CornerCurvesModel", "meetsOf", "(II)I"⟩, 55) := ⟨⟨by decide +kernel, by decide +kernel⟩, List.mem_of_getElem? (i := 841) (by decide +kernel), List.mem_of_getElem? (i := 1321) (by decide +kernel), List.mem_of_getElem? (i := 1322) (by decide +kernel)⟩
theorem lw_p75 : lw_okq (⟨"CornerCurvesModel", "formMeets", "(II)I"⟩, 55) := ⟨⟨by decide +kernel, by decide +kernel⟩, List.mem_of_getElem? (i := 841) (by decide +kernel), List.mem_of_getElem? (i := 1325) (by decide +kernel), List.mem_of_getElem? (i := 1326) (by decide +kernel)⟩
def lw_privs_5 : List (MethodName × Nat) := [(⟨"CornerCurvesModel", "isOneLine", "(II)Z"⟩, 55), (⟨"CornerCurvesModel", "standAtBoth", "(II)V"⟩, 55), (⟨"CornerCurvesModel", "keepMeet", "(I)V"⟩, 55), (⟨"CornerCurvesModel", "prove", "(I)I"⟩, 55), (⟨"CornerCurvesModel", "liesOf", "(II)I"⟩, 55), (⟨"CornerCurvesModel", "sumLies", "(II)I"⟩, 55), (⟨"CornerCurvesModel", "body", "(I)V"⟩, 55), (⟨"CornerCurvesModel", "formLies", "(II)I"⟩, 55), (⟨"CornerCurvesModel", "weighsOf", "(II)I"⟩, 55), (⟨"CornerCurvesModel", "formWeighs", "(II)I"⟩, 55), (⟨"CornerCurvesModel", "meetsOf", "(II)I"⟩, 55), (⟨"CornerCurvesModel", "formMeets", "(II)I"⟩, 55)]
theorem lw_r5 : ∀ q ∈ lw_privs_5, lw_okq q := List.forall_mem_cons.mpr ⟨lw_p64, List.forall_mem_cons.mpr ⟨lw_p65, List.forall_mem_cons.mpr ⟨lw_p66, List.forall_mem_cons.mpr ⟨lw_p67, List.forall_mem_cons.mpr ⟨lw_p68, List.forall_mem_cons.mpr ⟨lw_p69, List.forall_mem_cons.mpr ⟨lw_p70, List.forall_mem_cons.mpr ⟨lw_p71, List.forall_mem_cons.mpr ⟨lw_p72, List.forall_mem_cons.mpr ⟨lw_p73, List.forall_mem_cons.mpr ⟨lw_p74, List.forall_mem_cons.mpr ⟨lw_p75, fun _ h => absurd h List.not_mem_nil⟩⟩⟩⟩⟩⟩⟩⟩⟩⟩⟩⟩
def lw_privs : List (MethodName × Nat) := lw_privs_1 ++ (lw_privs_2 ++ (lw_privs_3 ++ (lw_privs_4 ++ (lw_privs_5))))
def lw_tbl : List Cond := k2_sels lw_privs ++ tables_1
theorem lw_privs_ok : ∀ q ∈ lw_privs, lw_okq q := by
  show ∀ q ∈ lw_privs_1 ++ (lw_privs_2 ++ (lw_privs_3 ++ (lw_privs_4 ++ (lw_privs_5)))), lw_okq q
  exact List.forall_mem_append.mpr ⟨lw_r1, List.forall_mem_append.mpr ⟨lw_r2, List.forall_mem_append.mpr ⟨lw_r3, List.forall_mem_append.mpr ⟨lw_r4, lw_r5⟩⟩⟩⟩
def RX0 : String := "CornerCurves$Crossing"
def TX0 : u_T := fun k => match k with
  | 0 => ("CornerCurves$Crossing", "points", "LCornerCurves$Points;", true)
  | 1 => ("CornerCurves$Crossing", "counts", "[I", true)
  | 2 => ("CornerCurves$Crossing", "point", "LCornerCurves$Point;", true)
  | 3 => ("CornerCurves$Crossing", "firstEnd", "LCornerCurves$Point;", true)
  | _ => ("CornerCurves$Crossing", "secondEnd", "LCornerCurves$Point;", true)
def tyX0 : Nat → FieldType := fun k => match k with
  | 0 => .object "CornerCurves$Points"
  | 1 => .array .int
  | 2 => .object "CornerCurves$Point"
  | 3 => .object "CornerCurves$Point"
  | _ => .object "CornerCurves$Point"
theorem nmX0 : ∀ a, a < 5 → ∀ b, b < 5 → a ≠ b → (TX0 a).2.1 ≠ (TX0 b).2.1 := by decide +kernel
theorem tyX0_ok : ∀ k, k < 5 → parseFieldDescriptor (TX0 k).2.2.1 = some (tyX0 k) := by decide +kernel
def RX1 : String := "CornerCurves$Curve"
def TX1 : u_T := fun k => match k with
  | 0 => ("CornerCurves$Curve", "form", "LCornerCurves$Form;", true)
  | 1 => ("CornerCurves$Curve", "ring", "LCornerCurves$Ring;", true)
  | 2 => ("CornerCurves$Curve", "point", "LCornerCurves$Point;", true)
  | 3 => ("CornerCurves$Curve", "corners", "LCornerCurves$Points;", true)
  | 4 => ("CornerCurves$Curve", "former", "[I", true)
  | 5 => ("CornerCurves$Curve", "latter", "[I", true)
  | 6 => ("CornerCurves$Curve", "first", "[I", true)
  | 7 => ("CornerCurves$Curve", "last", "[I", true)
  | 8 => ("CornerCurves$Curve", "edges", "I", false)
  | 9 => ("CornerCurves$Curve", "lowAbove", "J", false)
  | 10 => ("CornerCurves$Curve", "lowBelow", "J", false)
  | 11 => ("CornerCurves$Curve", "highAbove", "J", false)
  | _ => ("CornerCurves$Curve", "highBelow", "J", false)
def tyX1 : Nat → FieldType := fun k => match k with
  | 0 => .object "CornerCurves$Form"
  | 1 => .object "CornerCurves$Ring"
  | 2 => .object "CornerCurves$Point"
  | 3 => .object "CornerCurves$Points"
  | 4 => .array .int
  | 5 => .array .int
  | 6 => .array .int
  | 7 => .array .int
  | 8 => .int
  | 9 => .long
  | 10 => .long
  | 11 => .long
  | _ => .long
theorem nmX1 : ∀ a, a < 13 → ∀ b, b < 13 → a ≠ b → (TX1 a).2.1 ≠ (TX1 b).2.1 := by decide +kernel
theorem tyX1_ok : ∀ k, k < 13 → parseFieldDescriptor (TX1 k).2.2.1 = some (tyX1 k) := by decide +kernel
def RX2 : String := "CornerCurves$Draft"
def TX2 : u_T := fun k => match k with
  | _ => ("CornerCurves$Draft", "numbers", "[I", true)
def tyX2 : Nat → FieldType := fun k => match k with
  | _ => .array .int
theorem nmX2 : ∀ a, a < 1 → ∀ b, b < 1 → a ≠ b → (TX2 a).2.1 ≠ (TX2 b).2.1 := by decide +kernel
theorem tyX2_ok : ∀ k, k < 1 → parseFieldDescriptor (TX2 k).2.2.1 = some (tyX2 k) := by decide +kernel
def RX3 : String := "CornerCurves$Form"
def TX3 : u_T := fun k => match k with
  | 0 => ("CornerCurves$Form", "i", "[I", true)
  | 1 => ("CornerCurves$Form", "j", "[I", true)
  | 2 => ("CornerCurves$Form", "v", "[I", true)
  | 3 => ("CornerCurves$Form", "kind", "I", false)
  | 4 => ("CornerCurves$Form", "terms", "I", false)
  | _ => ("CornerCurves$Form", "drawn", "Z", false)
def tyX3 : Nat → FieldType := fun k => match k with
  | 0 => .array .int
  | 1 => .array .int
  | 2 => .array .int
  | 3 => .int
  | 4 => .int
  | _ => .boolean
theorem nmX3 : ∀ a, a < 6 → ∀ b, b < 6 → a ≠ b → (TX3 a).2.1 ≠ (TX3 b).2.1 := by decide +kernel
theorem tyX3_ok : ∀ k, k < 6 → parseFieldDescriptor (TX3 k).2.2.1 = some (tyX3 k) := by decide +kernel
def RX4 : String := "CornerCurves$Point"
def TX4 : u_T := fun k => match k with
  | 0 => ("CornerCurves$Point", "xAbove", "J", false)
  | 1 => ("CornerCurves$Point", "xBelow", "J", false)
  | 2 => ("CornerCurves$Point", "yAbove", "J", false)
  | _ => ("CornerCurves$Point", "yBelow", "J", false)
def tyX4 : Nat → FieldType := fun k => match k with
  | 0 => .long
  | 1 => .long
  | 2 => .long
  | _ => .long
theorem nmX4 : ∀ a, a < 4 → ∀ b, b < 4 → a ≠ b → (TX4 a).2.1 ≠ (TX4 b).2.1 := by decide +kernel
theorem tyX4_ok : ∀ k, k < 4 → parseFieldDescriptor (TX4 k).2.2.1 = some (tyX4 k) := by decide +kernel
def RX5 : String := "CornerCurves$Points"
def TX5 : u_T := fun k => match k with
  | 0 => ("CornerCurves$Points", "xAbove", "[J", true)
  | 1 => ("CornerCurves$Points", "xBelow", "[J", true)
  | 2 => ("CornerCurves$Points", "yAbove", "[J", true)
  | 3 => ("CornerCurves$Points", "yBelow", "[J", true)
  | 4 => ("CornerCurves$Points", "most", "I", true)
  | _ => ("CornerCurves$Points", "size", "I", false)
def tyX5 : Nat → FieldType := fun k => match k with
  | 0 => .array .long
  | 1 => .array .long
  | 2 => .array .long
  | 3 => .array .long
  | 4 => .int
  | _ => .int
theorem nmX5 : ∀ a, a < 6 → ∀ b, b < 6 → a ≠ b → (TX5 a).2.1 ≠ (TX5 b).2.1 := by decide +kernel
theorem tyX5_ok : ∀ k, k < 6 → parseFieldDescriptor (TX5 k).2.2.1 = some (tyX5 k) := by decide +kernel
def RX6 : String := "CornerCurves$Ring"
def TX6 : u_T := fun k => match k with
  | 0 => ("CornerCurves$Ring", "i", "[I", true)
  | 1 => ("CornerCurves$Ring", "j", "[I", true)
  | 2 => ("CornerCurves$Ring", "chain", "[I", true)
  | _ => ("CornerCurves$Ring", "size", "I", false)
def tyX6 : Nat → FieldType := fun k => match k with
  | 0 => .array .int
  | 1 => .array .int
  | 2 => .array .int
  | _ => .int
theorem nmX6 : ∀ a, a < 4 → ∀ b, b < 4 → a ≠ b → (TX6 a).2.1 ≠ (TX6 b).2.1 := by decide +kernel
theorem tyX6_ok : ∀ k, k < 4 → parseFieldDescriptor (TX6 k).2.2.1 = some (tyX6 k) := by decide +kernel
def RX7 : String := "CornerCurves$Sheet"
def TX7 : u_T := fun k => match k with
  | 0 => ("CornerCurves$Sheet", "items", "[J", true)
  | 1 => ("CornerCurves$Sheet", "sort", "I", false)
  | _ => ("CornerCurves$Sheet", "size", "I", false)
def tyX7 : Nat → FieldType := fun k => match k with
  | 0 => .array .long
  | 1 => .int
  | _ => .int
theorem nmX7 : ∀ a, a < 3 → ∀ b, b < 3 → a ≠ b → (TX7 a).2.1 ≠ (TX7 b).2.1 := by decide +kernel
theorem tyX7_ok : ∀ k, k < 3 → parseFieldDescriptor (TX7 k).2.2.1 = some (tyX7 k) := by decide +kernel
def RX8 : String := "CornerCurves$Trace"
def TX8 : u_T := fun k => match k with
  | 0 => ("CornerCurves$Trace", "began", "[I", true)
  | 1 => ("CornerCurves$Trace", "ran", "I", false)
  | 2 => ("CornerCurves$Trace", "number", "I", false)
  | 3 => ("CornerCurves$Trace", "kind", "I", false)
  | _ => ("CornerCurves$Trace", "terms", "I", false)
def tyX8 : Nat → FieldType := fun k => match k with
  | 0 => .array .int
  | 1 => .int
  | 2 => .int
  | 3 => .int
  | _ => .int
theorem nmX8 : ∀ a, a < 5 → ∀ b, b < 5 → a ≠ b → (TX8 a).2.1 ≠ (TX8 b).2.1 := by decide +kernel
theorem tyX8_ok : ∀ k, k < 5 → parseFieldDescriptor (TX8 k).2.2.1 = some (tyX8 k) := by decide +kernel
def RX9 : String := "CornerCurves"
def TX9 : u_T := fun k => match k with
  | 0 => ("CornerCurves", "forms", "[LCornerCurves$Form;", true)
  | 1 => ("CornerCurves", "curves", "[LCornerCurves$Curve;", true)
  | 2 => ("CornerCurves", "sheets", "[LCornerCurves$Sheet;", true)
  | 3 => ("CornerCurves", "rows", "[J", true)
  | 4 => ("CornerCurves", "ring", "LCornerCurves$Ring;", true)
  | 5 => ("CornerCurves", "draft", "LCornerCurves$Draft;", true)
  | 6 => ("CornerCurves", "spare", "LCornerCurves$Draft;", true)
  | 7 => ("CornerCurves", "crossing", "LCornerCurves$Crossing;", true)
  | 8 => ("CornerCurves", "point", "LCornerCurves$Point;", true)
  | 9 => ("CornerCurves", "bodies", "LCornerCurves$Trace;", true)
  | 10 => ("CornerCurves", "formCount", "I", false)
  | _ => ("CornerCurves", "rowCount", "I", false)
def tyX9 : Nat → FieldType := fun k => match k with
  | 0 => .array (.object "CornerCurves$Form")
  | 1 => .array (.object "CornerCurves$Curve")
  | 2 => .array (.object "CornerCurves$Sheet")
  | 3 => .array .long
  | 4 => .object "CornerCurves$Ring"
  | 5 => .object "CornerCurves$Draft"
  | 6 => .object "CornerCurves$Draft"
  | 7 => .object "CornerCurves$Crossing"
  | 8 => .object "CornerCurves$Point"
  | 9 => .object "CornerCurves$Trace"
  | 10 => .int
  | _ => .int
theorem nmX9 : ∀ a, a < 12 → ∀ b, b < 12 → a ≠ b → (TX9 a).2.1 ≠ (TX9 b).2.1 := by decide +kernel
theorem tyX9_ok : ∀ k, k < 12 → parseFieldDescriptor (TX9 k).2.2.1 = some (tyX9 k) := by decide +kernel
def RX10 : String := "CornerCurvesModel"
def TX10 : u_T := fun k => match k with
  | 0 => ("CornerCurvesModel", "forms", "I", false)
  | 1 => ("CornerCurvesModel", "kind", "[I", true)
  | 2 => ("CornerCurvesModel", "terms", "[I", true)
  | 3 => ("CornerCurvesModel", "ti", "[I", true)
  | 4 => ("CornerCurvesModel", "tj", "[I", true)
  | 5 => ("CornerCurvesModel", "tn", "[I", true)
  | 6 => ("CornerCurvesModel", "net", "[I", true)
  | 7 => ("CornerCurvesModel", "other", "[I", true)
  | 8 => ("CornerCurvesModel", "isThere", "[Z", true)
  | 9 => ("CornerCurvesModel", "isOther", "[Z", true)
  | 10 => ("CornerCurvesModel", "isBeyond", "Z", false)
  | 11 => ("CornerCurvesModel", "px", "J", false)
  | 12 => ("CornerCurvesModel", "pxd", "J", false)
  | 13 => ("CornerCurvesModel", "py", "J", false)
  | 14 => ("CornerCurvesModel", "pyd", "J", false)
  | 15 => ("CornerCurvesModel", "ringX", "[I", true)
  | 16 => ("CornerCurvesModel", "ringY", "[I", true)
  | 17 => ("CornerCurvesModel", "ringed", "I", false)
  | 18 => ("CornerCurvesModel", "edges", "I", false)
  | 19 => ("CornerCurvesModel", "former", "[I", true)
  | 20 => ("CornerCurvesModel", "latter", "[I", true)
  | 21 => ("CornerCurvesModel", "dx", "[I", true)
  | 22 => ("CornerCurvesModel", "dy", "[I", true)
  | 23 => ("CornerCurvesModel", "weight", "[I", true)
  | 24 => ("CornerCurvesModel", "hasFirst", "[Z", true)
  | 25 => ("CornerCurvesModel", "hasLast", "[Z", true)
  | 26 => ("CornerCurvesModel", "points", "[J", true)
  | 27 => ("CornerCurvesModel", "hasLow", "Z", false)
  | 28 => ("CornerCurvesModel", "hasHigh", "Z", false)
  | 29 => ("CornerCurvesModel", "low", "J", false)
  | 30 => ("CornerCurvesModel", "lowBelow", "J", false)
  | 31 => ("CornerCurvesModel", "high", "J", false)
  | 32 => ("CornerCurvesModel", "highBelow", "J", false)
  | 33 => ("CornerCurvesModel", "corners", "I", false)
  | 34 => ("CornerCurvesModel", "corner", "[J", true)
  | 35 => ("CornerCurvesModel", "had", "[I", true)
  | 36 => ("CornerCurvesModel", "keptEdges", "I", false)
  | 37 => ("CornerCurvesModel", "keptTerm", "[I", true)
  | 38 => ("CornerCurvesModel", "keptLatter", "[I", true)
  | 39 => ("CornerCurvesModel", "keptX", "[I", true)
  | 40 => ("CornerCurvesModel", "keptY", "[I", true)
  | 41 => ("CornerCurvesModel", "keptWeight", "[I", true)
  | 42 => ("CornerCurvesModel", "isLine", "[Z", true)
  | 43 => ("CornerCurvesModel", "meets", "I", false)
  | 44 => ("CornerCurvesModel", "meet", "[J", true)
  | 45 => ("CornerCurvesModel", "counts", "[I", true)
  | 46 => ("CornerCurvesModel", "row", "[J", true)
  | 47 => ("CornerCurvesModel", "proof", "[J", true)
  | 48 => ("CornerCurvesModel", "rows", "I", false)
  | 49 => ("CornerCurvesModel", "traced", "[I", true)
  | 50 => ("CornerCurvesModel", "bodies", "I", false)
  | 51 => ("CornerCurvesModel", "sort", "[I", true)
  | 52 => ("CornerCurvesModel", "items", "[I", true)
  | 53 => ("CornerCurvesModel", "item", "[I", true)
  | _ => ("CornerCurvesModel", "aside", "[I", true)
def tyX10 : Nat → FieldType := fun k => match k with
  | 0 => .int
  | 1 => .array .int
  | 2 => .array .int
  | 3 => .array .int
  | 4 => .array .int
  | 5 => .array .int
  | 6 => .array .int
  | 7 => .array .int
  | 8 => .array .boolean
  | 9 => .array .boolean
  | 10 => .boolean
  | 11 => .long
  | 12 => .long
  | 13 => .long
  | 14 => .long
  | 15 => .array .int
  | 16 => .array .int
  | 17 => .int
  | 18 => .int
  | 19 => .array .int
  | 20 => .array .int
  | 21 => .array .int
  | 22 => .array .int
  | 23 => .array .int
  | 24 => .array .boolean
  | 25 => .array .boolean
  | 26 => .array .long
  | 27 => .boolean
  | 28 => .boolean
  | 29 => .long
  | 30 => .long
  | 31 => .long
  | 32 => .long
  | 33 => .int
  | 34 => .array .long
  | 35 => .array .int
  | 36 => .int
  | 37 => .array .int
  | 38 => .array .int
  | 39 => .array .int
  | 40 => .array .int
  | 41 => .array .int
  | 42 => .array .boolean
  | 43 => .int
  | 44 => .array .long
  | 45 => .array .int
  | 46 => .array .long
  | 47 => .array .long
  | 48 => .int
  | 49 => .array .int
  | 50 => .int
  | 51 => .array .int
  | 52 => .array .int
  | 53 => .array .int
  | _ => .array .int
theorem nmX10 : ∀ a, a < 55 → ∀ b, b < 55 → a ≠ b → (TX10 a).2.1 ≠ (TX10 b).2.1 := by decide +kernel
theorem tyX10_ok : ∀ k, k < 55 → parseFieldDescriptor (TX10 k).2.2.1 = some (tyX10 k) := by decide +kernel
abbrev vwCl : List vw_C := [(RX0, TX0, 5), (RX1, TX1, 13), (RX2, TX2, 1), (RX3, TX3, 6), (RX4, TX4, 4), (RX5, TX5, 6), (RX6, TX6, 4), (RX7, TX7, 3), (RX8, TX8, 5), (RX9, TX9, 12), (RX10, TX10, 55)]
