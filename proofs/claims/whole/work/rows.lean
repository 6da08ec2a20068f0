section
/-- a private method of a class that the tables say can be made, by its rows of tables_1 -/
def lw_okq (q : MethodName × Nat) : Prop := (q.1.cls ≠ "java/lang/invoke/MethodHandle" ∧ q.1.cls ≠ "java/lang/invoke/VarHandle") ∧ Cond.instantiable q.1.cls q.2 ∈ tables_1 ∧ Cond.privateMethod q.1 ∈ tables_1 ∧ Cond.instanceMethod q.1 ∈ tables_1
theorem lw_p0 : lw_okq (⟨"CornerCurves", "openForm", "(I)I"⟩, 12) := ⟨⟨by decide +kernel, by decide +kernel⟩, List.mem_of_getElem? (i := 17) (by decide +kernel), List.mem_of_getElem? (i := 329) (by decide +kernel), List.mem_of_getElem? (i := 330) (by decide +kernel)⟩
theorem lw_p1 : lw_okq (⟨"CornerCurves", "exists", "(I)Z"⟩, 12) := ⟨⟨by decide +kernel, by decide +kernel⟩, List.mem_of_getElem? (i := 17) (by decide +kernel), List.mem_of_getElem? (i := 341) (by decide +kernel), List.mem_of_getElem? (i := 342) (by decide +kernel)⟩
theorem lw_p2 : lw_okq (⟨"CornerCurves$Form", "slide", "(II)V"⟩, 6) := ⟨⟨by decide +kernel, by decide +kernel⟩, List.mem_of_getElem? (i := 169) (by decide +kernel), List.mem_of_getElem? (i := 356) (by decide +kernel), List.mem_of_getElem? (i := 357) (by decide +kernel)⟩
theorem lw_p3 : lw_okq (⟨"CornerCurves", "findTerm", "(III)I"⟩, 12) := ⟨⟨by decide +kernel, by decide +kernel⟩, List.mem_of_getElem? (i := 17) (by decide +kernel), List.mem_of_getElem? (i := 367) (by decide +kernel), List.mem_of_getElem? (i := 368) (by decide +kernel)⟩
theorem lw_p4 : lw_okq (⟨"CornerCurves$Draft", "addTerm", "(IILCornerCurves$Form;)Z"⟩, 1) := ⟨⟨by decide +kernel, by decide +kernel⟩, List.mem_of_getElem? (i := 52) (by decide +kernel), List.mem_of_getElem? (i := 406) (by decide +kernel), List.mem_of_getElem? (i := 407) (by decide +kernel)⟩
theorem lw_p5 : lw_okq (⟨"CornerCurves", "openFrom", "(LCornerCurves$Draft;I)I"⟩, 12) := ⟨⟨by decide +kernel, by decide +kernel⟩, List.mem_of_getElem? (i := 17) (by decide +kernel), List.mem_of_getElem? (i := 415) (by decide +kernel), List.mem_of_getElem? (i := 416) (by decide +kernel)⟩
theorem lw_p6 : lw_okq (⟨"CornerCurves", "curveOf", "(I)LCornerCurves$Curve;"⟩, 12) := ⟨⟨by decide +kernel, by decide +kernel⟩, List.mem_of_getElem? (i := 17) (by decide +kernel), List.mem_of_getElem? (i := 456) (by decide +kernel), List.mem_of_getElem? (i := 457) (by decide +kernel)⟩
theorem lw_p7 : lw_okq (⟨"CornerCurves$Curve", "findStretch", "(II)Z"⟩, 13) := ⟨⟨by decide +kernel, by decide +kernel⟩, List.mem_of_getElem? (i := 208) (by decide +kernel), List.mem_of_getElem? (i := 464) (by decide +kernel), List.mem_of_getElem? (i := 465) (by decide +kernel)⟩
theorem lw_p8 : lw_okq (⟨"CornerCurves$Curve", "raiseLow", "(JJ)V"⟩, 13) := ⟨⟨by decide +kernel, by decide +kernel⟩, List.mem_of_getElem? (i := 208) (by decide +kernel), List.mem_of_getElem? (i := 468) (by decide +kernel), List.mem_of_getElem? (i := 469) (by decide +kernel)⟩
theorem lw_p9 : lw_okq (⟨"CornerCurves$Curve", "bringDownHigh", "(JJ)V"⟩, 13) := ⟨⟨by decide +kernel, by decide +kernel⟩, List.mem_of_getElem? (i := 208) (by decide +kernel), List.mem_of_getElem? (i := 472) (by decide +kernel), List.mem_of_getElem? (i := 473) (by decide +kernel)⟩
theorem lw_p10 : lw_okq (⟨"CornerCurves$Curve", "addEdge", "(II)V"⟩, 13) := ⟨⟨by decide +kernel, by decide +kernel⟩, List.mem_of_getElem? (i := 208) (by decide +kernel), List.mem_of_getElem? (i := 476) (by decide +kernel), List.mem_of_getElem? (i := 477) (by decide +kernel)⟩
theorem lw_p11 : lw_okq (⟨"CornerCurves$Curve", "cornerOn", "(IJJ)I"⟩, 13) := ⟨⟨by decide +kernel, by decide +kernel⟩, List.mem_of_getElem? (i := 208) (by decide +kernel), List.mem_of_getElem? (i := 480) (by decide +kernel), List.mem_of_getElem? (i := 481) (by decide +kernel)⟩
theorem lw_p12 : lw_okq (⟨"CornerCurves$Points", "compare", "(ILCornerCurves$Point;)J"⟩, 6) := ⟨⟨by decide +kernel, by decide +kernel⟩, List.mem_of_getElem? (i := 68) (by decide +kernel), List.mem_of_getElem? (i := 508) (by decide +kernel), List.mem_of_getElem? (i := 509) (by decide +kernel)⟩
theorem lw_p13 : lw_okq (⟨"CornerCurves", "areaOf", "(LCornerCurves$Form;)I"⟩, 12) := ⟨⟨by decide +kernel, by decide +kernel⟩, List.mem_of_getElem? (i := 17) (by decide +kernel), List.mem_of_getElem? (i := 521) (by decide +kernel), List.mem_of_getElem? (i := 522) (by decide +kernel)⟩
theorem lw_p14 : lw_okq (⟨"CornerCurves$Ring", "underChain", "(I)I"⟩, 4) := ⟨⟨by decide +kernel, by decide +kernel⟩, List.mem_of_getElem? (i := 31) (by decide +kernel), List.mem_of_getElem? (i := 537) (by decide +kernel), List.mem_of_getElem? (i := 538) (by decide +kernel)⟩
theorem lw_p15 : lw_okq (⟨"CornerCurves$Ring", "turn", "(III)I"⟩, 4) := ⟨⟨by decide +kernel, by decide +kernel⟩, List.mem_of_getElem? (i := 31) (by decide +kernel), List.mem_of_getElem? (i := 541) (by decide +kernel), List.mem_of_getElem? (i := 542) (by decide +kernel)⟩
def lw_privs_1 : List (MethodName × Nat) := [(⟨"CornerCurves", "openForm", "(I)I"⟩, 12), (⟨"CornerCurves", "exists", "(I)Z"⟩, 12), (⟨"CornerCurves$Form", "slide", "(II)V"⟩, 6), (⟨"CornerCurves", "findTerm", "(III)I"⟩, 12), (⟨"CornerCurves$Draft", "addTerm", "(IILCornerCurves$Form;)Z"⟩, 1), (⟨"CornerCurves", "openFrom", "(LCornerCurves$Draft;I)I"⟩, 12), (⟨"CornerCurves", "curveOf", "(I)LCornerCurves$Curve;"⟩, 12), (⟨"CornerCurves$Curve", "findStretch", "(II)Z"⟩, 13), (⟨"CornerCurves$Curve", "raiseLow", "(JJ)V"⟩, 13), (⟨"CornerCurves$Curve", "bringDownHigh", "(JJ)V"⟩, 13), (⟨"CornerCurves$Curve", "addEdge", "(II)V"⟩, 13), (⟨"CornerCurves$Curve", "cornerOn", "(IJJ)I"⟩, 13), (⟨"CornerCurves$Points", "compare", "(ILCornerCurves$Point;)J"⟩, 6), (⟨"CornerCurves", "areaOf", "(LCornerCurves$Form;)I"⟩, 12), (⟨"CornerCurves$Ring", "underChain", "(I)I"⟩, 4), (⟨"CornerCurves$Ring", "turn", "(III)I"⟩, 4)]
theorem lw_r1 : ∀ q ∈ lw_privs_1, lw_okq q := List.forall_mem_cons.mpr ⟨lw_p0, List.forall_mem_cons.mpr ⟨lw_p1, List.forall_mem_cons.mpr ⟨lw_p2, List.forall_mem_cons.mpr ⟨lw_p3, List.forall_mem_cons.mpr ⟨lw_p4, List.forall_mem_cons.mpr ⟨lw_p5, List.forall_mem_cons.mpr ⟨lw_p6, List.forall_mem_cons.mpr ⟨lw_p7, List.forall_mem_cons.mpr ⟨lw_p8, List.forall_mem_cons.mpr ⟨lw_p9, List.forall_mem_cons.mpr ⟨lw_p10, List.forall_mem_cons.mpr ⟨lw_p11, List.forall_mem_cons.mpr ⟨lw_p12, List.forall_mem_cons.mpr ⟨lw_p13, List.forall_mem_cons.mpr ⟨lw_p14, List.forall_mem_cons.mpr ⟨lw_p15, fun _ h => absurd h List.not_mem_nil⟩⟩⟩⟩⟩⟩⟩⟩⟩⟩⟩⟩⟩⟩⟩⟩
theorem lw_p16 : lw_okq (⟨"CornerCurves", "hasTerms", "(I)Z"⟩, 12) := ⟨⟨by decide +kernel, by decide +kernel⟩, List.mem_of_getElem? (i := 17) (by decide +kernel), List.mem_of_getElem? (i := 606) (by decide +kernel), List.mem_of_getElem? (i := 607) (by decide +kernel)⟩
theorem lw_p17 : lw_okq (⟨"CornerCurves", "goTo", "(III)Z"⟩, 12) := ⟨⟨by decide +kernel, by decide +kernel⟩, List.mem_of_getElem? (i := 17) (by decide +kernel), List.mem_of_getElem? (i := 610) (by decide +kernel), List.mem_of_getElem? (i := 611) (by decide +kernel)⟩
theorem lw_p18 : lw_okq (⟨"CornerCurves$Crossing", "touches", "(LCornerCurves$Curve;LCornerCurves$Form;)Z"⟩, 5) := ⟨⟨by decide +kernel, by decide +kernel⟩, List.mem_of_getElem? (i := 62) (by decide +kernel), List.mem_of_getElem? (i := 691) (by decide +kernel), List.mem_of_getElem? (i := 692) (by decide +kernel)⟩
theorem lw_p19 : lw_okq (⟨"CornerCurves$Crossing", "layEdges", "(LCornerCurves$Curve;ILCornerCurves$Curve;I)Z"⟩, 5) := ⟨⟨by decide +kernel, by decide +kernel⟩, List.mem_of_getElem? (i := 62) (by decide +kernel), List.mem_of_getElem? (i := 697) (by decide +kernel), List.mem_of_getElem? (i := 698) (by decide +kernel)⟩
theorem lw_p20 : lw_okq (⟨"CornerCurves$Crossing", "overlap", "(LCornerCurves$Curve;ILCornerCurves$Curve;I)Z"⟩, 5) := ⟨⟨by decide +kernel, by decide +kernel⟩, List.mem_of_getElem? (i := 62) (by decide +kernel), List.mem_of_getElem? (i := 704) (by decide +kernel), List.mem_of_getElem? (i := 705) (by decide +kernel)⟩
theorem lw_p21 : lw_okq (⟨"CornerCurves$Crossing", "beginsBefore", "(LCornerCurves$Curve;ILCornerCurves$Curve;I)Z"⟩, 5) := ⟨⟨by decide +kernel, by decide +kernel⟩, List.mem_of_getElem? (i := 62) (by decide +kernel), List.mem_of_getElem? (i := 708) (by decide +kernel), List.mem_of_getElem? (i := 709) (by decide +kernel)⟩
theorem lw_p22 : lw_okq (⟨"CornerCurves$Crossing", "holds", "(LCornerCurves$Curve;I)Z"⟩, 5) := ⟨⟨by decide +kernel, by decide +kernel⟩, List.mem_of_getElem? (i := 62) (by decide +kernel), List.mem_of_getElem? (i := 725) (by decide +kernel), List.mem_of_getElem? (i := 726) (by decide +kernel)⟩
theorem lw_p23 : lw_okq (⟨"CornerCurves$Crossing", "note", "(I)V"⟩, 5) := ⟨⟨by decide +kernel, by decide +kernel⟩, List.mem_of_getElem? (i := 62) (by decide +kernel), List.mem_of_getElem? (i := 732) (by decide +kernel), List.mem_of_getElem? (i := 733) (by decide +kernel)⟩
theorem lw_p24 : lw_okq (⟨"CornerCurvesModel", "is", "(I)Z"⟩, 55) := ⟨⟨by decide +kernel, by decide +kernel⟩, List.mem_of_getElem? (i := 841) (by decide +kernel), List.mem_of_getElem? (i := 1022) (by decide +kernel), List.mem_of_getElem? (i := 1023) (by decide +kernel)⟩
theorem lw_p25 : lw_okq (⟨"CornerCurvesModel", "in", "(III)Z"⟩, 55) := ⟨⟨by decide +kernel, by decide +kernel⟩, List.mem_of_getElem? (i := 841) (by decide +kernel), List.mem_of_getElem? (i := 1026) (by decide +kernel), List.mem_of_getElem? (i := 1027) (by decide +kernel)⟩
theorem lw_p26 : lw_okq (⟨"CornerCurvesModel", "termAt", "(III)I"⟩, 55) := ⟨⟨by decide +kernel, by decide +kernel⟩, List.mem_of_getElem? (i := 841) (by decide +kernel), List.mem_of_getElem? (i := 1030) (by decide +kernel), List.mem_of_getElem? (i := 1031) (by decide +kernel)⟩
theorem lw_p27 : lw_okq (⟨"CornerCurvesModel", "insert", "(IIII)V"⟩, 55) := ⟨⟨by decide +kernel, by decide +kernel⟩, List.mem_of_getElem? (i := 841) (by decide +kernel), List.mem_of_getElem? (i := 1034) (by decide +kernel), List.mem_of_getElem? (i := 1035) (by decide +kernel)⟩
theorem lw_p28 : lw_okq (⟨"CornerCurvesModel", "spreadOut", "(I)V"⟩, 55) := ⟨⟨by decide +kernel, by decide +kernel⟩, List.mem_of_getElem? (i := 841) (by decide +kernel), List.mem_of_getElem? (i := 1046) (by decide +kernel), List.mem_of_getElem? (i := 1047) (by decide +kernel)⟩
theorem lw_p29 : lw_okq (⟨"CornerCurvesModel", "addForm", "(I)V"⟩, 55) := ⟨⟨by decide +kernel, by decide +kernel⟩, List.mem_of_getElem? (i := 841) (by decide +kernel), List.mem_of_getElem? (i := 1050) (by decide +kernel), List.mem_of_getElem? (i := 1051) (by decide +kernel)⟩
theorem lw_p30 : lw_okq (⟨"CornerCurvesModel", "gather", "(I)I"⟩, 55) := ⟨⟨by decide +kernel, by decide +kernel⟩, List.mem_of_getElem? (i := 841) (by decide +kernel), List.mem_of_getElem? (i := 1054) (by decide +kernel), List.mem_of_getElem? (i := 1055) (by decide +kernel)⟩
theorem lw_p31 : lw_okq (⟨"CornerCurvesModel", "timesIn", "(II)I"⟩, 55) := ⟨⟨by decide +kernel, by decide +kernel⟩, List.mem_of_getElem? (i := 841) (by decide +kernel), List.mem_of_getElem? (i := 1070) (by decide +kernel), List.mem_of_getElem? (i := 1071) (by decide +kernel)⟩
def lw_privs_2 : List (MethodName × Nat) := [(⟨"CornerCurves", "hasTerms", "(I)Z"⟩, 12), (⟨"CornerCurves", "goTo", "(III)Z"⟩, 12), (⟨"CornerCurves$Crossing", "touches", "(LCornerCurves$Curve;LCornerCurves$Form;)Z"⟩, 5), (⟨"CornerCurves$Crossing", "layEdges", "(LCornerCurves$Curve;ILCornerCurves$Curve;I)Z"⟩, 5), (⟨"CornerCurves$Crossing", "overlap", "(LCornerCurves$Curve;ILCornerCurves$Curve;I)Z"⟩, 5), (⟨"CornerCurves$Crossing", "beginsBefore", "(LCornerCurves$Curve;ILCornerCurves$Curve;I)Z"⟩, 5), (⟨"CornerCurves$Crossing", "holds", "(LCornerCurves$Curve;I)Z"⟩, 5), (⟨"CornerCurves$Crossing", "note", "(I)V"⟩, 5), (⟨"CornerCurvesModel", "is", "(I)Z"⟩, 55), (⟨"CornerCurvesModel", "in", "(III)Z"⟩, 55), (⟨"CornerCurvesModel", "termAt", "(III)I"⟩, 55), (⟨"CornerCurvesModel", "insert", "(IIII)V"⟩, 55), (⟨"CornerCurvesModel", "spreadOut", "(I)V"⟩, 55), (⟨"CornerCurvesModel", "addForm", "(I)V"⟩, 55), (⟨"CornerCurvesModel", "gather", "(I)I"⟩, 55), (⟨"CornerCurvesModel", "timesIn", "(II)I"⟩, 55)]
theorem lw_r2 : ∀ q ∈ lw_privs_2, lw_okq q := List.forall_mem_cons.mpr ⟨lw_p16, List.forall_mem_cons.mpr ⟨lw_p17, List.forall_mem_cons.mpr ⟨lw_p18, List.forall_mem_cons.mpr ⟨lw_p19, List.forall_mem_cons.mpr ⟨lw_p20, List.forall_mem_cons.mpr ⟨lw_p21, List.forall_mem_cons.mpr ⟨lw_p22, List.forall_mem_cons.mpr ⟨lw_p23, List.forall_mem_cons.mpr ⟨lw_p24, List.forall_mem_cons.mpr ⟨lw_p25, List.forall_mem_cons.mpr ⟨lw_p26, List.forall_mem_cons.mpr ⟨lw_p27, List.forall_mem_cons.mpr ⟨lw_p28, List.forall_mem_cons.mpr ⟨lw_p29, List.forall_mem_cons.mpr ⟨lw_p30, List.forall_mem_cons.mpr ⟨lw_p31, fun _ h => absurd h List.not_mem_nil⟩⟩⟩⟩⟩⟩⟩⟩⟩⟩⟩⟩⟩⟩⟩⟩
theorem lw_p32 : lw_okq (⟨"CornerCurvesModel", "hasTerms", "(I)Z"⟩, 55) := ⟨⟨by decide +kernel, by decide +kernel⟩, List.mem_of_getElem? (i := 841) (by decide +kernel), List.mem_of_getElem? (i := 1082) (by decide +kernel), List.mem_of_getElem? (i := 1083) (by decide +kernel)⟩
theorem lw_p33 : lw_okq (⟨"CornerCurvesModel", "isPoint", "(III)Z"⟩, 55) := ⟨⟨by decide +kernel, by decide +kernel⟩, List.mem_of_getElem? (i := 841) (by decide +kernel), List.mem_of_getElem? (i := 1086) (by decide +kernel), List.mem_of_getElem? (i := 1087) (by decide +kernel)⟩
theorem lw_p34 : lw_okq (⟨"CornerCurvesModel", "standAt", "(JJJJ)V"⟩, 55) := ⟨⟨by decide +kernel, by decide +kernel⟩, List.mem_of_getElem? (i := 841) (by decide +kernel), List.mem_of_getElem? (i := 1091) (by decide +kernel), List.mem_of_getElem? (i := 1092) (by decide +kernel)⟩
theorem lw_p35 : lw_okq (⟨"CornerCurvesModel", "lowest", "(JJI)J"⟩, 55) := ⟨⟨by decide +kernel, by decide +kernel⟩, List.mem_of_getElem? (i := 841) (by decide +kernel), List.mem_of_getElem? (i := 1095) (by decide +kernel), List.mem_of_getElem? (i := 1096) (by decide +kernel)⟩
theorem lw_p36 : lw_okq (⟨"CornerCurvesModel", "divisor", "(JJ)J"⟩, 55) := ⟨⟨by decide +kernel, by decide +kernel⟩, List.mem_of_getElem? (i := 841) (by decide +kernel), List.mem_of_getElem? (i := 1099) (by decide +kernel), List.mem_of_getElem? (i := 1100) (by decide +kernel)⟩
theorem lw_p37 : lw_okq (⟨"CornerCurvesModel", "leastOf", "(I)J"⟩, 55) := ⟨⟨by decide +kernel, by decide +kernel⟩, List.mem_of_getElem? (i := 841) (by decide +kernel), List.mem_of_getElem? (i := 1103) (by decide +kernel), List.mem_of_getElem? (i := 1104) (by decide +kernel)⟩
theorem lw_p38 : lw_okq (⟨"CornerCurvesModel", "worthOf", "(I)J"⟩, 55) := ⟨⟨by decide +kernel, by decide +kernel⟩, List.mem_of_getElem? (i := 841) (by decide +kernel), List.mem_of_getElem? (i := 1107) (by decide +kernel), List.mem_of_getElem? (i := 1108) (by decide +kernel)⟩
theorem lw_p39 : lw_okq (⟨"CornerCurvesModel", "countLeast", "(I)I"⟩, 55) := ⟨⟨by decide +kernel, by decide +kernel⟩, List.mem_of_getElem? (i := 841) (by decide +kernel), List.mem_of_getElem? (i := 1115) (by decide +kernel), List.mem_of_getElem? (i := 1116) (by decide +kernel)⟩
theorem lw_p40 : lw_okq (⟨"CornerCurvesModel", "areaOf", "(I)I"⟩, 55) := ⟨⟨by decide +kernel, by decide +kernel⟩, List.mem_of_getElem? (i := 841) (by decide +kernel), List.mem_of_getElem? (i := 1123) (by decide +kernel), List.mem_of_getElem? (i := 1124) (by decide +kernel)⟩
theorem lw_p41 : lw_okq (⟨"CornerCurvesModel", "ringAdd", "(II)V"⟩, 55) := ⟨⟨by decide +kernel, by decide +kernel⟩, List.mem_of_getElem? (i := 841) (by decide +kernel), List.mem_of_getElem? (i := 1127) (by decide +kernel), List.mem_of_getElem? (i := 1128) (by decide +kernel)⟩
theorem lw_p42 : lw_okq (⟨"CornerCurvesModel", "ringArea", "()I"⟩, 55) := ⟨⟨by decide +kernel, by decide +kernel⟩, List.mem_of_getElem? (i := 841) (by decide +kernel), List.mem_of_getElem? (i := 1131) (by decide +kernel), List.mem_of_getElem? (i := 1132) (by decide +kernel)⟩
theorem lw_p43 : lw_okq (⟨"CornerCurvesModel", "turnOf", "(III)I"⟩, 55) := ⟨⟨by decide +kernel, by decide +kernel⟩, List.mem_of_getElem? (i := 841) (by decide +kernel), List.mem_of_getElem? (i := 1135) (by decide +kernel), List.mem_of_getElem? (i := 1136) (by decide +kernel)⟩
theorem lw_p44 : lw_okq (⟨"CornerCurvesModel", "isFarther", "(III)Z"⟩, 55) := ⟨⟨by decide +kernel, by decide +kernel⟩, List.mem_of_getElem? (i := 841) (by decide +kernel), List.mem_of_getElem? (i := 1139) (by decide +kernel), List.mem_of_getElem? (i := 1140) (by decide +kernel)⟩
theorem lw_p45 : lw_okq (⟨"CornerCurvesModel", "idles", "(I)I"⟩, 55) := ⟨⟨by decide +kernel, by decide +kernel⟩, List.mem_of_getElem? (i := 841) (by decide +kernel), List.mem_of_getElem? (i := 1143) (by decide +kernel), List.mem_of_getElem? (i := 1144) (by decide +kernel)⟩
theorem lw_p46 : lw_okq (⟨"CornerCurvesModel", "isIdle", "(II)Z"⟩, 55) := ⟨⟨by decide +kernel, by decide +kernel⟩, List.mem_of_getElem? (i := 841) (by decide +kernel), List.mem_of_getElem? (i := 1147) (by decide +kernel), List.mem_of_getElem? (i := 1148) (by decide +kernel)⟩
theorem lw_p47 : lw_okq (⟨"CornerCurvesModel", "isUnderTwo", "(III)Z"⟩, 55) := ⟨⟨by decide +kernel, by decide +kernel⟩, List.mem_of_getElem? (i := 841) (by decide +kernel), List.mem_of_getElem? (i := 1151) (by decide +kernel), List.mem_of_getElem? (i := 1152) (by decide +kernel)⟩
def lw_privs_3 : List (MethodName × Nat) := [(⟨"CornerCurvesModel", "hasTerms", "(I)Z"⟩, 55), (⟨"CornerCurvesModel", "isPoint", "(III)Z"⟩, 55), (⟨"CornerCurvesModel", "standAt", "(JJJJ)V"⟩, 55), (⟨"CornerCurvesModel", "lowest", "(JJI)J"⟩, 55), (⟨"CornerCurvesModel", "divisor", "(JJ)J"⟩, 55), (⟨"CornerCurvesModel", "leastOf", "(I)J"⟩, 55), (⟨"CornerCurvesModel", "worthOf", "(I)J"⟩, 55), (⟨"CornerCurvesModel", "countLeast", "(I)I"⟩, 55), (⟨"CornerCurvesModel", "areaOf", "(I)I"⟩, 55), (⟨"CornerCurvesModel", "ringAdd", "(II)V"⟩, 55), (⟨"CornerCurvesModel", "ringArea", "()I"⟩, 55), (⟨"CornerCurvesModel", "turnOf", "(III)I"⟩, 55), (⟨"CornerCurvesModel", "isFarther", "(III)Z"⟩, 55), (⟨"CornerCurvesModel", "idles", "(I)I"⟩, 55), (⟨"CornerCurvesModel", "isIdle", "(II)Z"⟩, 55), (⟨"CornerCurvesModel", "isUnderTwo", "(III)Z"⟩, 55)]
theorem lw_r3 : ∀ q ∈ lw_privs_3, lw_okq q := List.forall_mem_cons.mpr ⟨lw_p32, List.forall_mem_cons.mpr ⟨lw_p33, List.forall_mem_cons.mpr ⟨lw_p34, List.forall_mem_cons.mpr ⟨lw_p35, List.forall_mem_cons.mpr ⟨lw_p36, List.forall_mem_cons.mpr ⟨lw_p37, List.forall_mem_cons.mpr ⟨lw_p38, List.forall_mem_cons.mpr ⟨lw_p39, List.forall_mem_cons.mpr ⟨lw_p40, List.forall_mem_cons.mpr ⟨lw_p41, List.forall_mem_cons.mpr ⟨lw_p42, List.forall_mem_cons.mpr ⟨lw_p43, List.forall_mem_cons.mpr ⟨lw_p44, List.forall_mem_cons.mpr ⟨lw_p45, List.forall_mem_cons.mpr ⟨lw_p46, List.forall_mem_cons.mpr ⟨lw_p47, fun _ h => absurd h List.not_mem_nil⟩⟩⟩⟩⟩⟩⟩⟩⟩⟩⟩⟩⟩⟩⟩⟩
theorem lw_p48 : lw_okq (⟨"CornerCurvesModel", "across", "(III)J"⟩, 55) := ⟨⟨by decide +kernel, by decide +kernel⟩, List.mem_of_getElem? (i := 841) (by decide +kernel), List.mem_of_getElem? (i := 1155) (by decide +kernel), List.mem_of_getElem? (i := 1156) (by decide +kernel)⟩
theorem lw_p49 : lw_okq (⟨"CornerCurvesModel", "isUnderThree", "(IIII)Z"⟩, 55) := ⟨⟨by decide +kernel, by decide +kernel⟩, List.mem_of_getElem? (i := 841) (by decide +kernel), List.mem_of_getElem? (i := 1159) (by decide +kernel), List.mem_of_getElem? (i := 1160) (by decide +kernel)⟩
theorem lw_p50 : lw_okq (⟨"CornerCurvesModel", "findCorners", "(I)V"⟩, 55) := ⟨⟨by decide +kernel, by decide +kernel⟩, List.mem_of_getElem? (i := 841) (by decide +kernel), List.mem_of_getElem? (i := 1164) (by decide +kernel), List.mem_of_getElem? (i := 1165) (by decide +kernel)⟩
theorem lw_p51 : lw_okq (⟨"CornerCurvesModel", "findEdges", "(I)V"⟩, 55) := ⟨⟨by decide +kernel, by decide +kernel⟩, List.mem_of_getElem? (i := 841) (by decide +kernel), List.mem_of_getElem? (i := 1168) (by decide +kernel), List.mem_of_getElem? (i := 1169) (by decide +kernel)⟩
theorem lw_p52 : lw_okq (⟨"CornerCurvesModel", "bounds", "(IIIII)Z"⟩, 55) := ⟨⟨by decide +kernel, by decide +kernel⟩, List.mem_of_getElem? (i := 841) (by decide +kernel), List.mem_of_getElem? (i := 1172) (by decide +kernel), List.mem_of_getElem? (i := 1173) (by decide +kernel)⟩
theorem lw_p53 : lw_okq (⟨"CornerCurvesModel", "pointOf", "(IIIIIJJ)V"⟩, 55) := ⟨⟨by decide +kernel, by decide +kernel⟩, List.mem_of_getElem? (i := 841) (by decide +kernel), List.mem_of_getElem? (i := 1176) (by decide +kernel), List.mem_of_getElem? (i := 1177) (by decide +kernel)⟩
theorem lw_p54 : lw_okq (⟨"CornerCurvesModel", "keepCorner", "(I)V"⟩, 55) := ⟨⟨by decide +kernel, by decide +kernel⟩, List.mem_of_getElem? (i := 841) (by decide +kernel), List.mem_of_getElem? (i := 1180) (by decide +kernel), List.mem_of_getElem? (i := 1181) (by decide +kernel)⟩
theorem lw_p55 : lw_okq (⟨"CornerCurvesModel", "compare", "([JI[JI)I"⟩, 55) := ⟨⟨by decide +kernel, by decide +kernel⟩, List.mem_of_getElem? (i := 841) (by decide +kernel), List.mem_of_getElem? (i := 1184) (by decide +kernel), List.mem_of_getElem? (i := 1185) (by decide +kernel)⟩
theorem lw_p56 : lw_okq (⟨"CornerCurvesModel", "isSmooth", "(I)Z"⟩, 55) := ⟨⟨by decide +kernel, by decide +kernel⟩, List.mem_of_getElem? (i := 841) (by decide +kernel), List.mem_of_getElem? (i := 1188) (by decide +kernel), List.mem_of_getElem? (i := 1189) (by decide +kernel)⟩
theorem lw_p57 : lw_okq (⟨"CornerCurvesModel", "partArea", "(II)I"⟩, 55) := ⟨⟨by decide +kernel, by decide +kernel⟩, List.mem_of_getElem? (i := 841) (by decide +kernel), List.mem_of_getElem? (i := 1192) (by decide +kernel), List.mem_of_getElem? (i := 1193) (by decide +kernel)⟩
theorem lw_p58 : lw_okq (⟨"CornerCurvesModel", "standAtCorner", "(I)V"⟩, 55) := ⟨⟨by decide +kernel, by decide +kernel⟩, List.mem_of_getElem? (i := 841) (by decide +kernel), List.mem_of_getElem? (i := 1196) (by decide +kernel), List.mem_of_getElem? (i := 1197) (by decide +kernel)⟩
theorem lw_p59 : lw_okq (⟨"CornerCurvesModel", "kindOf", "(I)I"⟩, 55) := ⟨⟨by decide +kernel, by decide +kernel⟩, List.mem_of_getElem? (i := 841) (by decide +kernel), List.mem_of_getElem? (i := 1200) (by decide +kernel), List.mem_of_getElem? (i := 1201) (by decide +kernel)⟩
theorem lw_p60 : lw_okq (⟨"CornerCurvesModel", "isWithin", "(II)Z"⟩, 55) := ⟨⟨by decide +kernel, by decide +kernel⟩, List.mem_of_getElem? (i := 841) (by decide +kernel), List.mem_of_getElem? (i := 1217) (by decide +kernel), List.mem_of_getElem? (i := 1218) (by decide +kernel)⟩
theorem lw_p61 : lw_okq (⟨"CornerCurvesModel", "findMeets", "(II)Z"⟩, 55) := ⟨⟨by decide +kernel, by decide +kernel⟩, List.mem_of_getElem? (i := 841) (by decide +kernel), List.mem_of_getElem? (i := 1241) (by decide +kernel), List.mem_of_getElem? (i := 1242) (by decide +kernel)⟩
theorem lw_p62 : lw_okq (⟨"CornerCurvesModel", "isClear", "(II)Z"⟩, 55) := ⟨⟨by decide +kernel, by decide +kernel⟩, List.mem_of_getElem? (i := 841) (by decide +kernel), List.mem_of_getElem? (i := 1245) (by decide +kernel), List.mem_of_getElem? (i := 1246) (by decide +kernel)⟩
theorem lw_p63 : lw_okq (⟨"CornerCurvesModel", "keepEdges", "(I)V"⟩, 55) := ⟨⟨by decide +kernel, by decide +kernel⟩, List.mem_of_getElem? (i := 841) (by decide +kernel), List.mem_of_getElem? (i := 1249) (by decide +kernel), List.mem_of_getElem? (i := 1250) (by decide +kernel)⟩
def lw_privs_4 : List (MethodName × Nat) := [(⟨"CornerCurvesModel", "across", "(III)J"⟩, 55), (⟨"CornerCurvesModel", "isUnderThree", "(IIII)Z"⟩, 55), (⟨"CornerCurvesModel", "findCorners", "(I)V"⟩, 55), (⟨"CornerCurvesModel", "findEdges", "(I)V"⟩, 55), (⟨"CornerCurvesModel", "bounds", "(IIIII)Z"⟩, 55), (⟨"CornerCurvesModel", "pointOf", "(IIIIIJJ)V"⟩, 55), (⟨"CornerCurvesModel", "keepCorner", "(I)V"⟩, 55), (⟨"CornerCurvesModel", "compare", "([JI[JI)I"⟩, 55), (⟨"CornerCurvesModel", "isSmooth", "(I)Z"⟩, 55), (⟨"CornerCurvesModel", "partArea", "(II)I"⟩, 55), (⟨"CornerCurvesModel", "standAtCorner", "(I)V"⟩, 55), (⟨"CornerCurvesModel", "kindOf", "(I)I"⟩, 55), (⟨"CornerCurvesModel", "isWithin", "(II)Z"⟩, 55), (⟨"CornerCurvesModel", "findMeets", "(II)Z"⟩, 55), (⟨"CornerCurvesModel", "isClear", "(II)Z"⟩, 55), (⟨"CornerCurvesModel", "keepEdges", "(I)V"⟩, 55)]
theorem lw_r4 : ∀ q ∈ lw_privs_4, lw_okq q := List.forall_mem_cons.mpr ⟨lw_p48, List.forall_mem_cons.mpr ⟨lw_p49, List.forall_mem_cons.mpr ⟨lw_p50, List.forall_mem_cons.mpr ⟨lw_p51, List.forall_mem_cons.mpr ⟨lw_p52, List.forall_mem_cons.mpr ⟨lw_p53, List.forall_mem_cons.mpr ⟨lw_p54, List.forall_mem_cons.mpr ⟨lw_p55, List.forall_mem_cons.mpr ⟨lw_p56, List.forall_mem_cons.mpr ⟨lw_p57, List.forall_mem_cons.mpr ⟨lw_p58, List.forall_mem_cons.mpr ⟨lw_p59, List.forall_mem_cons.mpr ⟨lw_p60, List.forall_mem_cons.mpr ⟨lw_p61, List.forall_mem_cons.mpr ⟨lw_p62, List.forall_mem_cons.mpr ⟨lw_p63, fun _ h => absurd h List.not_mem_nil⟩⟩⟩⟩⟩⟩⟩⟩⟩⟩⟩⟩⟩⟩⟩⟩
theorem lw_p64 : lw_okq (⟨"CornerCurvesModel", "isOneLine", "(II)Z"⟩, 55) := ⟨⟨by decide +kernel, by decide +kernel⟩, List.mem_of_getElem? (i := 841) (by decide +kernel), List.mem_of_getElem? (i := 1253) (by decide +kernel), List.mem_of_getElem? (i := 1254) (by decide +kernel)⟩
theorem lw_p65 : lw_okq (⟨"CornerCurvesModel", "standAtBoth", "(II)V"⟩, 55) := ⟨⟨by decide +kernel, by decide +kernel⟩, List.mem_of_getElem? (i := 841) (by decide +kernel), List.mem_of_getElem? (i := 1257) (by decide +kernel), List.mem_of_getElem? (i := 1258) (by decide +kernel)⟩
theorem lw_p66 : lw_okq (⟨"CornerCurvesModel", "keepMeet", "(I)V"⟩, 55) := ⟨⟨by decide +kernel, by decide +kernel⟩, List.mem_of_getElem? (i := 841) (by decide +kernel), List.mem_of_getElem? (i := 1261) (by decide +kernel), List.mem_of_getElem? (i := 1262) (by decide +kernel)⟩
theorem lw_p67 : lw_okq (⟨"CornerCurvesModel", "prove", "(I)I"⟩, 55) := ⟨⟨by decide +kernel, by decide +kernel⟩, List.mem_of_getElem? (i := 841) (by decide +kernel), List.mem_of_getElem? (i := 1277) (by decide +kernel), List.mem_of_getElem? (i := 1278) (by decide +kernel)⟩
theorem lw_p68 : lw_okq (⟨"CornerCurvesModel", "liesOf", "(II)I"⟩, 55) := ⟨⟨by decide +kernel, by decide +kernel⟩, List.mem_of_getElem? (i := 841) (by decide +kernel), List.mem_of_getElem? (i := 1297) (by decide +kernel), List.mem_of_getElem? (i := 1298) (by decide +kernel)⟩
theorem lw_p69 : lw_okq (⟨"CornerCurvesModel", "sumLies", "(II)I"⟩, 55) := ⟨⟨by decide +kernel, by decide +kernel⟩, List.mem_of_getElem? (i := 841) (by decide +kernel), List.mem_of_getElem? (i := 1301) (by decide +kernel), List.mem_of_getElem? (i := 1302) (by decide +kernel)⟩
theorem lw_p70 : lw_okq (⟨"CornerCurvesModel", "body", "(I)V"⟩, 55) := ⟨⟨by decide +kernel, by decide +kernel⟩, List.mem_of_getElem? (i := 841) (by decide +kernel), List.mem_of_getElem? (i := 1305) (by decide +kernel), List.mem_of_getElem? (i := 1306) (by decide +kernel)⟩
theorem lw_p71 : lw_okq (⟨"CornerCurvesModel", "formLies", "(II)I"⟩, 55) := ⟨⟨by decide +kernel, by decide +kernel⟩, List.mem_of_getElem? (i := 841) (by decide +kernel), List.mem_of_getElem? (i := 1309) (by decide +kernel), List.mem_of_getElem? (i := 1310) (by decide +kernel)⟩
theorem lw_p72 : lw_okq (⟨"CornerCurvesModel", "weighsOf", "(II)I"⟩, 55) := ⟨⟨by decide +kernel, by decide +kernel⟩, List.mem_of_getElem? (i := 841) (by decide +kernel), List.mem_of_getElem? (i := 1313) (by decide +kernel), List.mem_of_getElem? (i := 1314) (by decide +kernel)⟩
theorem lw_p73 : lw_okq (⟨"CornerCurvesModel", "formWeighs", "(II)I"⟩, 55) := ⟨⟨by decide +kernel, by decide +kernel⟩, List.mem_of_getElem? (i := 841) (by decide +kernel), List.mem_of_getElem? (i := 1317) (by decide +kernel), List.mem_of_getElem? (i := 1318) (by decide +kernel)⟩
theorem lw_p74 : lw_okq (⟨"CornerCurvesModel", "meetsOf", "(II)I"⟩, 55) := ⟨⟨by decide +kernel, by decide +kernel⟩, List.mem_of_getElem? (i := 841) (by decide +kernel), List.mem_of_getElem? (i := 1321) (by decide +kernel), List.mem_of_getElem? (i := 1322) (by decide +kernel)⟩
theorem lw_p75 : lw_okq (⟨"CornerCurvesModel", "formMeets", "(II)I"⟩, 55) := ⟨⟨by decide +kernel, by decide +kernel⟩, List.mem_of_getElem? (i := 841) (by decide +kernel), List.mem_of_getElem? (i := 1325) (by decide +kernel), List.mem_of_getElem? (i := 1326) (by decide +kernel)⟩
def lw_privs_5 : List (MethodName × Nat) := [(⟨"CornerCurvesModel", "isOneLine", "(II)Z"⟩, 55), (⟨"CornerCurvesModel", "standAtBoth", "(II)V"⟩, 55), (⟨"CornerCurvesModel", "keepMeet", "(I)V"⟩, 55), (⟨"CornerCurvesModel", "prove", "(I)I"⟩, 55), (⟨"CornerCurvesModel", "liesOf", "(II)I"⟩, 55), (⟨"CornerCurvesModel", "sumLies", "(II)I"⟩, 55), (⟨"CornerCurvesModel", "body", "(I)V"⟩, 55), (⟨"CornerCurvesModel", "formLies", "(II)I"⟩, 55), (⟨"CornerCurvesModel", "weighsOf", "(II)I"⟩, 55), (⟨"CornerCurvesModel", "formWeighs", "(II)I"⟩, 55), (⟨"CornerCurvesModel", "meetsOf", "(II)I"⟩, 55), (⟨"CornerCurvesModel", "formMeets", "(II)I"⟩, 55)]
theorem lw_r5 : ∀ q ∈ lw_privs_5, lw_okq q := List.forall_mem_cons.mpr ⟨lw_p64, List.forall_mem_cons.mpr ⟨lw_p65, List.forall_mem_cons.mpr ⟨lw_p66, List.forall_mem_cons.mpr ⟨lw_p67, List.forall_mem_cons.mpr ⟨lw_p68, List.forall_mem_cons.mpr ⟨lw_p69, List.forall_mem_cons.mpr ⟨lw_p70, List.forall_mem_cons.mpr ⟨lw_p71, List.forall_mem_cons.mpr ⟨lw_p72, List.forall_mem_cons.mpr ⟨lw_p73, List.forall_mem_cons.mpr ⟨lw_p74, List.forall_mem_cons.mpr ⟨lw_p75, fun _ h => absurd h List.not_mem_nil⟩⟩⟩⟩⟩⟩⟩⟩⟩⟩⟩⟩
def lw_privs : List (MethodName × Nat) := lw_privs_1 ++ (lw_privs_2 ++ (lw_privs_3 ++ (lw_privs_4 ++ (lw_privs_5))))
def lw_tbl : List Cond := k2_sels lw_privs ++ tables_1
theorem lw_privs_ok : ∀ q ∈ lw_privs, lw_okq q := by
  show ∀ q ∈ lw_privs_1 ++ (lw_privs_2 ++ (lw_privs_3 ++ (lw_privs_4 ++ (lw_privs_5)))), lw_okq q
  exact List.forall_mem_append.mpr ⟨lw_r1, List.forall_mem_append.mpr ⟨lw_r2, List.forall_mem_append.mpr ⟨lw_r3, List.forall_mem_append.mpr ⟨lw_r4, lw_r5⟩⟩⟩⟩
def RX0 : String := "CornerCurves$Crossing"
def TX0 : u_T := fun k => match k with
  | 0 => ("CornerCurves$Crossing", "points", "LCornerCurves$Points;", true)
  | 1 => ("CornerCurves$Crossing", "counts", "[I", true)
  | 2 => ("CornerCurves$Crossing", "point", "LCornerCurves$Point;", true)
  | 3 => ("CornerCurves$Crossing", "firstEnd", "LCornerCurves$Point;", true)
  | _ => ("CornerCurves$Crossing", "secondEnd", "LCornerCurves$Point;", true)
def tyX0 : Nat → FieldType := fun k => match k with
  | 0 => .object "CornerCurves$Points"
  | 1 => .array .int
  | 2 => .object "CornerCurves$Point"
  | 3 => .object "CornerCurves$Point"
  | _ => .object "CornerCurves$Point"
theorem nmX0 : ∀ a, a < 5 → ∀ b, b < 5 → a ≠ b → (TX0 a).2.1 ≠ (TX0 b).2.1 := by decide +kernel
theorem tyX0_ok : ∀ k, k < 5 → parseFieldDescriptor (TX0 k).2.2.1 = some (tyX0 k) := by decide +kernel
def RX1 : String := "CornerCurves$Curve"
def TX1 : u_T := fun k => match k with
  | 0 => ("CornerCurves$Curve", "form", "LCornerCurves$Form;", true)
  | 1 => ("CornerCurves$Curve", "ring", "LCornerCurves$Ring;", true)
  | 2 => ("CornerCurves$Curve", "point", "LCornerCurves$Point;", true)
  | 3 => ("CornerCurves$Curve", "corners", "LCornerCurves$Points;", true)
  | 4 => ("CornerCurves$Curve", "former", "[I", true)
  | 5 => ("CornerCurves$Curve", "latter", "[I", true)
  | 6 => ("CornerCurves$Curve", "first", "[I", true)
  | 7 => ("CornerCurves$Curve", "last", "[I", true)
  | 8 => ("CornerCurves$Curve", "edges", "I", false)
  | 9 => ("CornerCurves$Curve", "lowAbove", "J", false)
  | 10 => ("CornerCurves$Curve", "lowBelow", "J", false)
  | 11 => ("CornerCurves$Curve", "highAbove", "J", false)
  | _ => ("CornerCurves$Curve", "highBelow", "J", false)
def tyX1 : Nat → FieldType := fun k => match k with
  | 0 => .object "CornerCurves$Form"
  | 1 => .object "CornerCurves$Ring"
  | 2 => .object "CornerCurves$Point"
  | 3 => .object "CornerCurves$Points"
  | 4 => .array .int
  | 5 => .array .int
  | 6 => .array .int
  | 7 => .array .int
  | 8 => .int
  | 9 => .long
  | 10 => .long
  | 11 => .long
  | _ => .long
theorem nmX1 : ∀ a, a < 13 → ∀ b, b < 13 → a ≠ b → (TX1 a).2.1 ≠ (TX1 b).2.1 := by decide +kernel
theorem tyX1_ok : ∀ k, k < 13 → parseFieldDescriptor (TX1 k).2.2.1 = some (tyX1 k) := by decide +kernel
def RX2 : String := "CornerCurves$Draft"
def TX2 : u_T := fun k => match k with
  | _ => ("CornerCurves$Draft", "numbers", "[I", true)
def tyX2 : Nat → FieldType := fun k => match k with
  | _ => .array .int
theorem nmX2 : ∀ a, a < 1 → ∀ b, b < 1 → a ≠ b → (TX2 a).2.1 ≠ (TX2 b).2.1 := by decide +kernel
theorem tyX2_ok : ∀ k, k < 1 → parseFieldDescriptor (TX2 k).2.2.1 = some (tyX2 k) := by decide +kernel
def RX3 : String := "CornerCurves$Form"
def TX3 : u_T := fun k => match k with
  | 0 => ("CornerCurves$Form", "i", "[I", true)
  | 1 => ("CornerCurves$Form", "j", "[I", true)
  | 2 => ("CornerCurves$Form", "v", "[I", true)
  | 3 => ("CornerCurves$Form", "kind", "I", false)
  | 4 => ("CornerCurves$Form", "terms", "I", false)
  | _ => ("CornerCurves$Form", "drawn", "Z", false)
def tyX3 : Nat → FieldType := fun k => match k with
  | 0 => .array .int
  | 1 => .array .int
  | 2 => .array .int
  | 3 => .int
  | 4 => .int
  | _ => .boolean
theorem nmX3 : ∀ a, a < 6 → ∀ b, b < 6 → a ≠ b → (TX3 a).2.1 ≠ (TX3 b).2.1 := by decide +kernel
theorem tyX3_ok : ∀ k, k < 6 → parseFieldDescriptor (TX3 k).2.2.1 = some (tyX3 k) := by decide +kernel
def RX4 : String := "CornerCurves$Point"
def TX4 : u_T := fun k => match k with
  | 0 => ("CornerCurves$Point", "xAbove", "J", false)
  | 1 => ("CornerCurves$Point", "xBelow", "J", false)
  | 2 => ("CornerCurves$Point", "yAbove", "J", false)
  | _ => ("CornerCurves$Point", "yBelow", "J", false)
def tyX4 : Nat → FieldType := fun k => match k with
  | 0 => .long
  | 1 => .long
  | 2 => .long
  | _ => .long
theorem nmX4 : ∀ a, a < 4 → ∀ b, b < 4 → a ≠ b → (TX4 a).2.1 ≠ (TX4 b).2.1 := by decide +kernel
theorem tyX4_ok : ∀ k, k < 4 → parseFieldDescriptor (TX4 k).2.2.1 = some (tyX4 k) := by decide +kernel
def RX5 : String := "CornerCurves$Points"
def TX5 : u_T := fun k => match k with
  | 0 => ("CornerCurves$Points", "xAbove", "[J", true)
  | 1 => ("CornerCurves$Points", "xBelow", "[J", true)
  | 2 => ("CornerCurves$Points", "yAbove", "[J", true)
  | 3 => ("CornerCurves$Points", "yBelow", "[J", true)
  | 4 => ("CornerCurves$Points", "most", "I", true)
  | _ => ("CornerCurves$Points", "size", "I", false)
def tyX5 : Nat → FieldType := fun k => match k with
  | 0 => .array .long
  | 1 => .array .long
  | 2 => .array .long
  | 3 => .array .long
  | 4 => .int
  | _ => .int
theorem nmX5 : ∀ a, a < 6 → ∀ b, b < 6 → a ≠ b → (TX5 a).2.1 ≠ (TX5 b).2.1 := by decide +kernel
theorem tyX5_ok : ∀ k, k < 6 → parseFieldDescriptor (TX5 k).2.2.1 = some (tyX5 k) := by decide +kernel
def RX6 : String := "CornerCurves$Ring"
def TX6 : u_T := fun k => match k with
  | 0 => ("CornerCurves$Ring", "i", "[I", true)
  | 1 => ("CornerCurves$Ring", "j", "[I", true)
  | 2 => ("CornerCurves$Ring", "chain", "[I", true)
  | _ => ("CornerCurves$Ring", "size", "I", false)
def tyX6 : Nat → FieldType := fun k => match k with
  | 0 => .array .int
  | 1 => .array .int
  | 2 => .array .int
  | _ => .int
theorem nmX6 : ∀ a, a < 4 → ∀ b, b < 4 → a ≠ b → (TX6 a).2.1 ≠ (TX6 b).2.1 := by decide +kernel
theorem tyX6_ok : ∀ k, k < 4 → parseFieldDescriptor (TX6 k).2.2.1 = some (tyX6 k) := by decide +kernel
def RX7 : String := "CornerCurves$Sheet"
def TX7 : u_T := fun k => match k with
  | 0 => ("CornerCurves$Sheet", "items", "[J", true)
  | 1 => ("CornerCurves$Sheet", "sort", "I", false)
  | _ => ("CornerCurves$Sheet", "size", "I", false)
def tyX7 : Nat → FieldType := fun k => match k with
  | 0 => .array .long
  | 1 => .int
  | _ => .int
theorem nmX7 : ∀ a, a < 3 → ∀ b, b < 3 → a ≠ b → (TX7 a).2.1 ≠ (TX7 b).2.1 := by decide +kernel
theorem tyX7_ok : ∀ k, k < 3 → parseFieldDescriptor (TX7 k).2.2.1 = some (tyX7 k) := by decide +kernel
def RX8 : String := "CornerCurves$Trace"
def TX8 : u_T := fun k => match k with
  | 0 => ("CornerCurves$Trace", "began", "[I", true)
  | 1 => ("CornerCurves$Trace", "ran", "I", false)
  | 2 => ("CornerCurves$Trace", "number", "I", false)
  | 3 => ("CornerCurves$Trace", "kind", "I", false)
  | _ => ("CornerCurves$Trace", "terms", "I", false)
def tyX8 : Nat → FieldType := fun k => match k with
  | 0 => .array .int
  | 1 => .int
  | 2 => .int
  | 3 => .int
  | _ => .int
theorem nmX8 : ∀ a, a < 5 → ∀ b, b < 5 → a ≠ b → (TX8 a).2.1 ≠ (TX8 b).2.1 := by decide +kernel
theorem tyX8_ok : ∀ k, k < 5 → parseFieldDescriptor (TX8 k).2.2.1 = some (tyX8 k) := by decide +kernel
def RX9 : String := "CornerCurves"
def TX9 : u_T := fun k => match k with
  | 0 => ("CornerCurves", "forms", "[LCornerCurves$Form;", true)
  | 1 => ("CornerCurves", "curves", "[LCornerCurves$Curve;", true)
  | 2 => ("CornerCurves", "sheets", "[LCornerCurves$Sheet;", true)
  | 3 => ("CornerCurves", "rows", "[J", true)
  | 4 => ("CornerCurves", "ring", "LCornerCurves$Ring;", true)
  | 5 => ("CornerCurves", "draft", "LCornerCurves$Draft;", true)
  | 6 => ("CornerCurves", "spare", "LCornerCurves$Draft;", true)
  | 7 => ("CornerCurves", "crossing", "LCornerCurves$Crossing;", true)
  | 8 => ("CornerCurves", "point", "LCornerCurves$Point;", true)
  | 9 => ("CornerCurves", "bodies", "LCornerCurves$Trace;", true)
  | 10 => ("CornerCurves", "formCount", "I", false)
  | _ => ("CornerCurves", "rowCount", "I", false)
def tyX9 : Nat → FieldType := fun k => match k with
  | 0 => .array (.object "CornerCurves$Form")
  | 1 => .array (.object "CornerCurves$Curve")
  | 2 => .array (.object "CornerCurves$Sheet")
  | 3 => .array .long
  | 4 => .object "CornerCurves$Ring"
  | 5 => .object "CornerCurves$Draft"
  | 6 => .object "CornerCurves$Draft"
  | 7 => .object "CornerCurves$Crossing"
  | 8 => .object "CornerCurves$Point"
  | 9 => .object "CornerCurves$Trace"
  | 10 => .int
  | _ => .int
theorem nmX9 : ∀ a, a < 12 → ∀ b, b < 12 → a ≠ b → (TX9 a).2.1 ≠ (TX9 b).2.1 := by decide +kernel
theorem tyX9_ok : ∀ k, k < 12 → parseFieldDescriptor (TX9 k).2.2.1 = some (tyX9 k) := by decide +kernel
def RX10 : String := "CornerCurvesModel"
def TX10 : u_T := fun k => match k with
  | 0 => ("CornerCurvesModel", "forms", "I", false)
  | 1 => ("CornerCurvesModel", "kind", "[I", true)
  | 2 => ("CornerCurvesModel", "terms", "[I", true)
  | 3 => ("CornerCurvesModel", "ti", "[I", true)
  | 4 => ("CornerCurvesModel", "tj", "[I", true)
  | 5 => ("CornerCurvesModel", "tn", "[I", true)
  | 6 => ("CornerCurvesModel", "net", "[I", true)
  | 7 => ("CornerCurvesModel", "other", "[I", true)
  | 8 => ("CornerCurvesModel", "isThere", "[Z", true)
  | 9 => ("CornerCurvesModel", "isOther", "[Z", true)
  | 10 => ("CornerCurvesModel", "isBeyond", "Z", false)
  | 11 => ("CornerCurvesModel", "px", "J", false)
  | 12 => ("CornerCurvesModel", "pxd", "J", false)
  | 13 => ("CornerCurvesModel", "py", "J", false)
  | 14 => ("CornerCurvesModel", "pyd", "J", false)
  | 15 => ("CornerCurvesModel", "ringX", "[I", true)
  | 16 => ("CornerCurvesModel", "ringY", "[I", true)
  | 17 => ("CornerCurvesModel", "ringed", "I", false)
  | 18 => ("CornerCurvesModel", "edges", "I", false)
  | 19 => ("CornerCurvesModel", "former", "[I", true)
  | 20 => ("CornerCurvesModel", "latter", "[I", true)
  | 21 => ("CornerCurvesModel", "dx", "[I", true)
  | 22 => ("CornerCurvesModel", "dy", "[I", true)
  | 23 => ("CornerCurvesModel", "weight", "[I", true)
  | 24 => ("CornerCurvesModel", "hasFirst", "[Z", true)
  | 25 => ("CornerCurvesModel", "hasLast", "[Z", true)
  | 26 => ("CornerCurvesModel", "points", "[J", true)
  | 27 => ("CornerCurvesModel", "hasLow", "Z", false)
  | 28 => ("CornerCurvesModel", "hasHigh", "Z", false)
  | 29 => ("CornerCurvesModel", "low", "J", false)
  | 30 => ("CornerCurvesModel", "lowBelow", "J", false)
  | 31 => ("CornerCurvesModel", "high", "J", false)
  | 32 => ("CornerCurvesModel", "highBelow", "J", false)
  | 33 => ("CornerCurvesModel", "corners", "I", false)
  | 34 => ("CornerCurvesModel", "corner", "[J", true)
  | 35 => ("CornerCurvesModel", "had", "[I", true)
  | 36 => ("CornerCurvesModel", "keptEdges", "I", false)
  | 37 => ("CornerCurvesModel", "keptTerm", "[I", true)
  | 38 => ("CornerCurvesModel", "keptLatter", "[I", true)
  | 39 => ("CornerCurvesModel", "keptX", "[I", true)
  | 40 => ("CornerCurvesModel", "keptY", "[I", true)
  | 41 => ("CornerCurvesModel", "keptWeight", "[I", true)
  | 42 => ("CornerCurvesModel", "isLine", "[Z", true)
  | 43 => ("CornerCurvesModel", "meets", "I", false)
  | 44 => ("CornerCurvesModel", "meet", "[J", true)
  | 45 => ("CornerCurvesModel", "counts", "[I", true)
  | 46 => ("CornerCurvesModel", "row", "[J", true)
  | 47 => ("CornerCurvesModel", "proof", "[J", true)
  | 48 => ("CornerCurvesModel", "rows", "I", false)
  | 49 => ("CornerCurvesModel", "traced", "[I", true)
  | 50 => ("CornerCurvesModel", "bodies", "I", false)
  | 51 => ("CornerCurvesModel", "sort", "[I", true)
  | 52 => ("CornerCurvesModel", "items", "[I", true)
  | 53 => ("CornerCurvesModel", "item", "[I", true)
  | _ => ("CornerCurvesModel", "aside", "[I", true)
def tyX10 : Nat → FieldType := fun k => match k with
  | 0 => .int
  | 1 => .array .int
  | 2 => .array .int
  | 3 => .array .int
  | 4 => .array .int
  | 5 => .array .int
  | 6 => .array .int
  | 7 => .array .int
  | 8 => .array .boolean
  | 9 => .array .boolean
  | 10 => .boolean
  | 11 => .long
  | 12 => .long
  | 13 => .long
  | 14 => .long
  | 15 => .array .int
  | 16 => .array .int
  | 17 => .int
  | 18 => .int
  | 19 => .array .int
  | 20 => .array .int
  | 21 => .array .int
  | 22 => .array .int
  | 23 => .array .int
  | 24 => .array .boolean
  | 25 => .array .boolean
  | 26 => .array .long
  | 27 => .boolean
  | 28 => .boolean
  | 29 => .long
  | 30 => .long
  | 31 => .long
  | 32 => .long
  | 33 => .int
  | 34 => .array .long
  | 35 => .array .int
  | 36 => .int
  | 37 => .array .int
  | 38 => .array .int
  | 39 => .array .int
  | 40 => .array .int
  | 41 => .array .int
  | 42 => .array .boolean
  | 43 => .int
  | 44 => .array .long
  | 45 => .array .int
  | 46 => .array .long
  | 47 => .array .long
  | 48 => .int
  | 49 => .array .int
  | 50 => .int
  | 51 => .array .int
  | 52 => .array .int
  | 53 => .array .int
  | _ => .array .int
theorem nmX10 : ∀ a, a < 55 → ∀ b, b < 55 → a ≠ b → (TX10 a).2.1 ≠ (TX10 b).2.1 := by decide +kernel
theorem tyX10_ok : ∀ k, k < 55 → parseFieldDescriptor (TX10 k).2.2.1 = some (tyX10 k) := by decide +kernel
abbrev vwCl : List vw_C := [(RX0, TX0, 5), (RX1, TX1, 13), (RX2, TX2, 1), (RX3, TX3, 6), (RX4, TX4, 4), (RX5, TX5, 6), (RX6, TX6, 4), (RX7, TX7, 3), (RX8, TX8, 5), (RX9, TX9, 12), (RX10, TX10, 55)]
end
section
/-! THE PURE MACHINE: numbers are whole numbers (what the machine holds is their remainder), cells are numbered as they come, the cells' contents are functions. -/
abbrev PV : Type := Int ⊕ Int ⊕ Option Nat
abbrev pI (a : Int) : PV := .inl a
abbrev pL (a : Int) : PV := .inr (.inl a)
abbrev pR (i : Nat) : PV := .inr (.inr (some i))
/-- an instruction: itself, the place of the next, two numbers, a whole number -/
abbrev PI : Type := Instr × Nat × Nat × Nat × Int
/-- the cells' kinds and sizes; the references in them -/
abbrev SS : Type := List (Nat × Nat) × (Nat → Int → Option Nat)
abbrev ZM : Type := Nat → Int → Int
abbrev PQ : Type := Option PV → SS → ZM → ZM → Prop
abbrev PK : Type := Nat → List (Option PV) → List PV → SS → ZM → ZM → Nat → Nat → Prop
abbrev PC : Type := Nat → List PV → SS → ZM → ZM → PQ → Prop
abbrev PX : Type := Nat → Nat × (Int → Int)
def i3 (a : Int) : Int32 := Int32.ofInt a
def i6 (a : Int) : Int64 := Int64.ofInt a
def popI (st : List PV) (k : Int → List PV → Prop) : Prop := match st with | .inl a :: r => k a r | _ => False
def popV (st : List PV) (k : PV → List PV → Prop) : Prop := match st with | .inl a :: r => k (.inl a) r | .inr (.inr a) :: r => k (.inr (.inr a)) r | _ => False
def popL (st : List PV) (k : Int → List PV → Prop) : Prop := match st with | .inr (.inl a) :: r => k a r | _ => False
def popR (st : List PV) (k : Nat → List PV → Prop) : Prop := match st with | .inr (.inr (some a)) :: r => k a r | _ => False
def ldI (ls : List (Option PV)) (i : Nat) (k : Int → Prop) : Prop := match ls[i]? with | some (some (.inl a)) => k a | _ => False
def ldL (ls : List (Option PV)) (i : Nat) (k : Int → Prop) : Prop := match ls[i]? with | some (some (.inr (.inl a))) => k a | _ => False
def ldR (ls : List (Option PV)) (i : Nat) (k : Nat → Prop) : Prop := match ls[i]? with | some (some (.inr (.inr (some a)))) => k a | _ => False
/-- a long that lies ahead is gone when its second place is written -/
def clr (ls : List (Option PV)) (i : Nat) : List (Option PV) := match i with
  | 0 => ls
  | j + 1 => match ls[j]? with
    | some (some (.inr (.inl _))) => ls.set j none
    | _ => ls
def st1 (ls : List (Option PV)) (i : Nat) (v : PV) : List (Option PV) := (clr ls i).set i (some v)
def st2 (ls : List (Option PV)) (i : Nat) (v : PV) : List (Option PV) := ((clr ls i).set i (some v)).set (i + 1) none
def pcat (v : PV) : Nat := match v with | .inr (.inl _) => 2 | _ => 1
def pcats (st : List PV) : Nat := (st.map pcat).sum
/-- one number written -/
def zput (z : ZM) (c : Nat) (k x : Int) : ZM := fun c' k' => if c' = c ∧ k' = k then x else z c' k'
def zrow (z : ZM) (c : Nat) (f : Int → Int) : ZM := fun c' k' => if c' = c then f k' else z c' k'
def rput (z : Nat → Int → Option Nat) (c : Nat) (k : Int) (x : Option Nat) : Nat → Int → Option Nat := fun c' k' => if c' = c ∧ k' = k then x else z c' k'
def rrow (z : Nat → Int → Option Nat) (c : Nat) : Nat → Int → Option Nat := fun c' k' => if c' = c then none else z c' k'
/-- a stretch of one row over another -/
def cpI (f g : Int → Int) (sp dp n : Int) : Int → Int := fun k => if dp ≤ k ∧ k < dp + n then f (sp + (k - dp)) else g k
def xbase : Nat := 1000000
def cmpI (c : ClassFile.Cond) (x y : Int) : Prop := match c with
  | .eq => i3 x = i3 y
  | .ne => ¬ i3 x = i3 y
  | .lt => i3 x < i3 y
  | .ge => i3 y ≤ i3 x
  | .gt => i3 y < i3 x
  | .le => i3 x ≤ i3 y
def cmpL (x y : Int) : Int := if i6 x < i6 y then -1 else if i6 x = i6 y then 0 else 1
def inI (a : Int) : Prop := -2147483648 ≤ a ∧ a ≤ 2147483647
def inL (a : Int) : Prop := -9223372036854775808 ≤ a ∧ a ≤ 9223372036854775807
def psw (swT : List (List Nat)) (id : Nat) (lo hi x : Int) : Option Nat := match swT[id]? with
  | none => none
  | some ts => if x < lo ∨ hi < x then ts[0]? else ts[(x - lo).toNat + 1]?
def plk : List (Int × Int) → List Nat → Int → Nat → Nat
  | (a, _) :: r, t :: ts, x, d => if x = a then t else plk r ts x d
  | _, _, _, d => d
def plook (swT : List (List Nat)) (id : Nat) (ps : List (Int × Int)) (x : Int) : Option Nat := match swT[id]? with
  | some (d :: ts) => some (plk ps ts x d)
  | _ => none
/-- what a field holds -/
def rdF (S : SS) (zI zL : ZM) (tag h : Nat) (k : Int) : PV := if tag = 1 then .inr (.inl (zL h k)) else if tag = 2 then .inr (.inr (S.2 h k)) else .inl (zI h k)
def elI (S : SS) (X : PX) (zI : ZM) (h : Nat) (i : Int) (k : Int → Prop) : Prop :=
  if h < xbase then (∃ n : Nat, S.1[h]? = some (12, n) ∧ 0 ≤ i ∧ i < n ∧ n ≤ 10000) ∧ k (zI h i) else (h - xbase < 4 ∧ (X (h - xbase)).1 ≤ 100000 ∧ 0 ≤ i ∧ i < (X (h - xbase)).1) ∧ k ((X (h - xbase)).2 i)
def inrow (S : SS) (kd h : Nat) (i : Int) : Prop := ∃ n : Nat, S.1[h]? = some (kd, n) ∧ 0 ≤ i ∧ i < n ∧ n ≤ 10000
def calld (MC MS : Nat → Nat) (call : PC) (Q : PQ) (nxt : PK) (f n : Nat) (nx : Nat) (ls : List (Option PV)) (st : List PV) (S : SS) (zI zL : ZM) (mc ms : Nat) : Prop :=
  n ≤ st.length ∧ pcats (st.drop n) ≤ 8 ∧ MC f ≤ mc ∧ MS f ≤ ms ∧
  call f (st.take n).reverse S zI zL (fun r S' zI' zL' => nxt nx ls (r.toList ++ st.drop n) S' zI' zL' (mc - MC f) (ms - MS f))
/-- the receiver is of the class that the method is of -/
def recv (RC : Nat → Nat) (f n : Nat) (st : List PV) (S : SS) : Prop := match st[n - 1]? with | some (.inr (.inr (some h))) => S.1[h]? = some (RC f, 0) ∧ h < xbase | _ => False
def recvA (n : Nat) (st : List PV) : Prop := match st[n - 1]? with | some (.inr (.inr (some _))) => True | _ => False
def acopy (S : SS) (zI zL : ZM) (src : Nat) (sp : Int) (dst : Nat) (dp n : Int) (k : ZM → ZM → Prop) : Prop :=
  ∃ kd n0 n1 : Nat, S.1[src]? = some (kd, n0) ∧ S.1[dst]? = some (kd, n1) ∧ src < xbase ∧ dst < xbase ∧ n0 ≤ 10000 ∧ n1 ≤ 10000 ∧ 0 ≤ sp ∧ 0 ≤ dp ∧ 0 ≤ n ∧ sp + n ≤ n0 ∧ dp + n ≤ n1 ∧
  ((kd = 12 ∧ k (zrow zI dst (cpI (zI src) (zI dst) sp dp n)) zL) ∨ (kd = 13 ∧ k zI (zrow zL dst (cpI (zL src) (zL dst) sp dp n))))
def acop (st : List PV) (S : SS) (zI zL : ZM) (k : List PV → ZM → ZM → Prop) : Prop :=
  popI st fun n r => popI r fun dp r => popR r fun dst r => popI r fun sp r => popR r fun src r => pcats r ≤ 8 ∧ acopy S zI zL src sp dst dp n (k r)
/-- one instruction -/
def stepP (swT : List (List Nat)) (MC MS RC NF : Nat → Nat) (X : PX) (call : PC) (Q : PQ) (nxt : PK) (ins : PI) (ls : List (Option PV)) (st : List PV) (S : SS) (zI zL : ZM) (mc ms : Nat) : Prop :=
  match ins with
  | (i, nx, a, b, c) => match i with
    | .iconst _ => nxt nx ls (pI c :: st) S zI zL mc ms
    | .bipush _ => nxt nx ls (pI c :: st) S zI zL mc ms
    | .sipush _ => nxt nx ls (pI c :: st) S zI zL mc ms
    | .ldc _ => nxt nx ls (pI c :: st) S zI zL mc ms
    | .ldc_w _ => nxt nx ls (pI c :: st) S zI zL mc ms
    | .lconst _ => nxt nx ls (pL c :: st) S zI zL mc ms
    | .ldc2_w _ => nxt nx ls (pL c :: st) S zI zL mc ms
    | .iload i => ldI ls i fun x => nxt nx ls (pI x :: st) S zI zL mc ms
    | .iload_n i => ldI ls i fun x => nxt nx ls (pI x :: st) S zI zL mc ms
    | .lload i => ldL ls i fun x => nxt nx ls (pL x :: st) S zI zL mc ms
    | .lload_n i => ldL ls i fun x => nxt nx ls (pL x :: st) S zI zL mc ms
    | .aload i => ldR ls i fun x => nxt nx ls (pR x :: st) S zI zL mc ms
    | .aload_n i => ldR ls i fun x => nxt nx ls (pR x :: st) S zI zL mc ms
    | .istore i => popI st fun x r => i < ls.length ∧ nxt nx (st1 ls i (pI x)) r S zI zL mc ms
    | .istore_n i => popI st fun x r => (i : Nat) < ls.length ∧ nxt nx (st1 ls i (pI x)) r S zI zL mc ms
    | .lstore i => popL st fun x r => i + 1 < ls.length ∧ nxt nx (st2 ls i (pL x)) r S zI zL mc ms
    | .lstore_n i => popL st fun x r => (i : Nat) + 1 < ls.length ∧ nxt nx (st2 ls i (pL x)) r S zI zL mc ms
    | .astore i => popR st fun x r => i < ls.length ∧ nxt nx (st1 ls i (pR x)) r S zI zL mc ms
    | .astore_n i => popR st fun x r => (i : Nat) < ls.length ∧ nxt nx (st1 ls i (pR x)) r S zI zL mc ms
    | .iinc i _ => ldI ls i fun x => i < ls.length ∧ nxt nx (st1 ls i (pI (x + c))) st S zI zL mc ms
    | .dup => popV st fun v r => nxt nx ls (v :: v :: r) S zI zL mc ms
    | .dup2 => popV st fun v r => popV r fun u r => nxt nx ls (v :: u :: v :: u :: r) S zI zL mc ms
    | .pop => popV st fun _ r => nxt nx ls r S zI zL mc ms
    | .iadd => popI st fun y r => popI r fun x r => nxt nx ls (pI (x + y) :: r) S zI zL mc ms
    | .isub => popI st fun y r => popI r fun x r => nxt nx ls (pI (x - y) :: r) S zI zL mc ms
    | .imul => popI st fun y r => popI r fun x r => nxt nx ls (pI (x * y) :: r) S zI zL mc ms
    | .idiv => popI st fun y r => popI r fun x r => (inI x ∧ inI y ∧ y ≠ 0) ∧ nxt nx ls (pI (x.tdiv y) :: r) S zI zL mc ms
    | .irem => popI st fun y r => popI r fun x r => (inI x ∧ inI y ∧ y ≠ 0) ∧ nxt nx ls (pI (x.tmod y) :: r) S zI zL mc ms
    | .ineg => popI st fun x r => nxt nx ls (pI (-x) :: r) S zI zL mc ms
    | .ixor => popI st fun y r => popI r fun x r => nxt nx ls (pI (i3 x ^^^ i3 y).toInt :: r) S zI zL mc ms
    | .iand => popI st fun y r => popI r fun x r => nxt nx ls (pI (i3 x &&& i3 y).toInt :: r) S zI zL mc ms
    | .ladd => popL st fun y r => popL r fun x r => nxt nx ls (pL (x + y) :: r) S zI zL mc ms
    | .lsub => popL st fun y r => popL r fun x r => nxt nx ls (pL (x - y) :: r) S zI zL mc ms
    | .lmul => popL st fun y r => popL r fun x r => nxt nx ls (pL (x * y) :: r) S zI zL mc ms
    | .ldiv => popL st fun y r => popL r fun x r => (inL x ∧ inL y ∧ y ≠ 0) ∧ nxt nx ls (pL (x.tdiv y) :: r) S zI zL mc ms
    | .lrem => popL st fun y r => popL r fun x r => (inL x ∧ inL y ∧ y ≠ 0) ∧ nxt nx ls (pL (x.tmod y) :: r) S zI zL mc ms
    | .lneg => popL st fun x r => nxt nx ls (pL (-x) :: r) S zI zL mc ms
    | .lor => popL st fun y r => popL r fun x r => nxt nx ls (pL (i6 x ||| i6 y).toInt :: r) S zI zL mc ms
    | .land => popL st fun y r => popL r fun x r => nxt nx ls (pL (i6 x &&& i6 y).toInt :: r) S zI zL mc ms
    | .lshl => popI st fun y r => popL r fun x r => nxt nx ls (pL (i6 x <<< ((i3 y).toInt64 &&& 63)).toInt :: r) S zI zL mc ms
    | .lcmp => popL st fun y r => popL r fun x r => nxt nx ls (pI (cmpL x y) :: r) S zI zL mc ms
    | .i2l => popI st fun x r => inI x ∧ nxt nx ls (pL x :: r) S zI zL mc ms
    | .l2i => popL st fun x r => nxt nx ls (pI x :: r) S zI zL mc ms
    | .i2b => popI st fun x r => nxt nx ls (pI ((i3 x).toInt8.toInt32).toInt :: r) S zI zL mc ms
    | .goto _ => nxt a ls st S zI zL mc ms
    | .ifCond q _ => popI st fun x r => (cmpI q x 0 → nxt a ls r S zI zL mc ms) ∧ (¬ cmpI q x 0 → nxt nx ls r S zI zL mc ms)
    | .if_icmp q _ => popI st fun y r => popI r fun x r => (cmpI q x y → nxt a ls r S zI zL mc ms) ∧ (¬ cmpI q x y → nxt nx ls r S zI zL mc ms)
    | .tableswitch _ lo hi _ => popI st fun x r => inI x ∧ ∃ t, psw swT a lo hi x = some t ∧ nxt t ls r S zI zL mc ms
    | .lookupswitch _ ps => popI st fun x r => inI x ∧ ∃ t, plook swT a ps.toList x = some t ∧ nxt t ls r S zI zL mc ms
    | .ireturn => popI st fun x r => r = [] ∧ mc = 0 ∧ (a = 1 → x = 0 ∨ x = 1) ∧ Q (some (pI x)) S zI zL
    | .lreturn => popL st fun x r => r = [] ∧ mc = 0 ∧ Q (some (pL x)) S zI zL
    | .areturn => popR st fun x r => r = [] ∧ mc = 0 ∧ Q (some (pR x)) S zI zL
    | .return_ => st = [] ∧ mc = 0 ∧ Q none S zI zL
    | .getfield _ => popR st fun h r => (S.1[h]? = some (a, 0) ∧ h < xbase) ∧ nxt nx ls (rdF S zI zL b h c :: r) S zI zL mc ms
    | .putfield _ => if b = 0 ∨ b = 10 then popI st fun x r => popR r fun h r => (S.1[h]? = some (a, 0) ∧ h < xbase) ∧ nxt nx ls r S (zput zI h c x) zL mc ms
        else if b = 1 ∨ b = 11 then popL st fun x r => popR r fun h r => (S.1[h]? = some (a, 0) ∧ h < xbase) ∧ nxt nx ls r S zI (zput zL h c x) mc ms
        else if b = 3 ∨ b = 13 then popI st fun x r => popR r fun h r => (S.1[h]? = some (a, 0) ∧ h < xbase) ∧ (x = 0 ∨ x = 1) ∧ nxt nx ls r S (zput zI h c x) zL mc ms
        else popR st fun x r => popR r fun h r => (S.1[h]? = some (a, 0) ∧ h < xbase) ∧ nxt nx ls r (S.1, rput S.2 h c (some x)) zI zL mc ms
    | .getstatic _ => nxt nx ls (pR (xbase + a) :: st) S zI zL mc ms
    | .iaload => popI st fun i r => popR r fun h r => elI S X zI h i fun x => nxt nx ls (pI x :: r) S zI zL mc ms
    | .baload => popI st fun i r => popR r fun h r => (inrow S 14 h i ∧ h < xbase) ∧ nxt nx ls (pI (zI h i) :: r) S zI zL mc ms
    | .laload => popI st fun i r => popR r fun h r => (inrow S 13 h i ∧ h < xbase) ∧ nxt nx ls (pL (zL h i) :: r) S zI zL mc ms
    | .aaload => popI st fun i r => popR r fun h r => ((inrow S 15 h i ∨ inrow S 16 h i ∨ inrow S 17 h i) ∧ h < xbase) ∧ nxt nx ls (.inr (.inr (S.2 h i)) :: r) S zI zL mc ms
    | .iastore => popI st fun x r => popI r fun i r => popR r fun h r => (inrow S 12 h i ∧ h < xbase) ∧ nxt nx ls r S (zput zI h i x) zL mc ms
    | .bastore => popI st fun x r => popI r fun i r => popR r fun h r => (inrow S 14 h i ∧ h < xbase) ∧ (x = 0 ∨ x = 1) ∧ nxt nx ls r S (zput zI h i x) zL mc ms
    | .lastore => popL st fun x r => popI r fun i r => popR r fun h r => (inrow S 13 h i ∧ h < xbase) ∧ nxt nx ls r S zI (zput zL h i x) mc ms
    | .aastore => popR st fun x r => popI r fun i r => popR r fun h r => (((inrow S 15 h i ∧ S.1[x]? = some (3, 0)) ∨ (inrow S 16 h i ∧ S.1[x]? = some (1, 0)) ∨ (inrow S 17 h i ∧ S.1[x]? = some (7, 0))) ∧ h < xbase ∧ x < xbase) ∧ nxt nx ls r (S.1, rput S.2 h i (some x)) zI zL mc ms
    | .arraylength => popR st fun h r => if h < xbase then ∃ n kd : Nat, 12 ≤ kd ∧ S.1[h]? = some (kd, n) ∧ nxt nx ls (pI n :: r) S zI zL mc ms else h - xbase < 4 ∧ nxt nx ls (pI (X (h - xbase)).1 :: r) S zI zL mc ms
    | .newarray _ => popI st fun n r => (0 ≤ n ∧ n ≤ 10000 ∧ 1 ≤ mc ∧ n.toNat ≤ ms ∧ S.1.length < 10000) ∧ nxt nx ls (pR S.1.length :: r) (S.1 ++ [(a, n.toNat)], S.2) (zrow zI S.1.length fun _ => 0) (zrow zL S.1.length fun _ => 0) (mc - 1) (ms - n.toNat)
    | .anewarray _ => popI st fun n r => (0 ≤ n ∧ n ≤ 10000 ∧ 1 ≤ mc ∧ n.toNat ≤ ms ∧ S.1.length < 10000) ∧ nxt nx ls (pR S.1.length :: r) (S.1 ++ [(a, n.toNat)], rrow S.2 S.1.length) zI zL (mc - 1) (ms - n.toNat)
    | .new _ => (1 ≤ mc ∧ NF a ≤ ms ∧ S.1.length < 10000) ∧ nxt nx ls (pR S.1.length :: st) (S.1 ++ [(a, 0)], rrow S.2 S.1.length) (zrow zI S.1.length fun _ => 0) (zrow zL S.1.length fun _ => 0) (mc - 1) (ms - NF a)
    | .invokevirtual _ => recv RC a b st S ∧ calld MC MS call Q nxt a b nx ls st S zI zL mc ms
    | .invokestatic _ => if c = 6 then acop st S zI zL fun r zI' zL' => nxt nx ls r S zI' zL' mc ms else calld MC MS call Q nxt a b nx ls st S zI zL mc ms
    | .invokespecial _ => if c = 5 then popR st fun _ r => pcats r ≤ 8 ∧ nxt nx ls r S zI zL mc ms else recvA b st ∧ calld MC MS call Q nxt a b nx ls st S zI zL mc ms
    | _ => False
def stepC (swT : List (List Nat)) (MC MS RC NF : Nat → Nat) (X : PX) (call : PC) (Q : PQ) (C : List PI) (nxt : PK) : PK := fun pc ls st S zI zL mc ms => match C[pc]? with
  | none => False
  | some ins => stepP swT MC MS RC NF X call Q nxt ins ls st S zI zL mc ms
/-- the least predicate that the steps keep: from here the run ends, with Q -/
def runL (swT : List (List Nat)) (MC MS RC NF : Nat → Nat) (X : PX) (call : PC) (Q : PQ) (C : List PI) : PK := fun pc ls st S zI zL mc ms =>
  ∀ P : PK, (∀ pc ls st S zI zL mc ms, stepC swT MC MS RC NF X call Q C P pc ls st S zI zL mc ms → P pc ls st S zI zL mc ms) → P pc ls st S zI zL mc ms
def entryL (n : Nat) (as : List PV) : List (Option PV) := (as.flatMap (fun v => match v with | .inr (.inl _) => [some v, none] | _ => [some v])) ++ List.replicate (n - (as.flatMap (fun v => match v with | .inr (.inl _) => [some v, none] | _ => [some v])).length) none
theorem popI_mono {st : List PV} {k k' : Int → List PV → Prop} (h : ∀ a r, k a r → k' a r) : popI st k → popI st k' := by
  unfold popI; split
  · exact h _ _
  · exact id
theorem popL_mono {st : List PV} {k k' : Int → List PV → Prop} (h : ∀ a r, k a r → k' a r) : popL st k → popL st k' := by
  unfold popL; split
  · exact h _ _
  · exact id
theorem popR_mono {st : List PV} {k k' : Nat → List PV → Prop} (h : ∀ a r, k a r → k' a r) : popR st k → popR st k' := by
  unfold popR; split
  · exact h _ _
  · exact id
theorem popV_mono {st : List PV} {k k' : PV → List PV → Prop} (h : ∀ a r, k a r → k' a r) : popV st k → popV st k' := by
  unfold popV; split
  · exact h _ _
  · exact h _ _
  · exact id
theorem ldI_mono {ls : List (Option PV)} {i : Nat} {k k' : Int → Prop} (h : ∀ a, k a → k' a) : ldI ls i k → ldI ls i k' := by
  unfold ldI; split
  · exact h _
  · exact id
theorem ldL_mono {ls : List (Option PV)} {i : Nat} {k k' : Int → Prop} (h : ∀ a, k a → k' a) : ldL ls i k → ldL ls i k' := by
  unfold ldL; split
  · exact h _
  · exact id
theorem ldR_mono {ls : List (Option PV)} {i : Nat} {k k' : Nat → Prop} (h : ∀ a, k a → k' a) : ldR ls i k → ldR ls i k' := by
  unfold ldR; split
  · exact h _
  · exact id
theorem elI_mono {S : SS} {X : PX} {zI : ZM} {h : Nat} {i : Int} {k k' : Int → Prop} (hk : ∀ a, k a → k' a) : elI S X zI h i k → elI S X zI h i k' := by
  unfold elI; split
  · exact And.imp_right (hk _)
  · exact And.imp_right (hk _)
theorem acopy_mono {S : SS} {zI zL : ZM} {src : Nat} {sp : Int} {dst : Nat} {dp n : Int} {k k' : ZM → ZM → Prop} (h : ∀ a b, k a b → k' a b) : acopy S zI zL src sp dst dp n k → acopy S zI zL src sp dst dp n k' := by
  rintro ⟨kd, n0, n1, h1, h2, h3, h4, h5, h6, h7, h8, h9, h10, h11, h12⟩
  exact ⟨kd, n0, n1, h1, h2, h3, h4, h5, h6, h7, h8, h9, h10, h11, h12.imp (And.imp_right (h _ _)) (And.imp_right (h _ _))⟩
theorem acop_mono {st : List PV} {S : SS} {zI zL : ZM} {k k' : List PV → ZM → ZM → Prop} (h : ∀ r a b, k r a b → k' r a b) : acop st S zI zL k → acop st S zI zL k' :=
  popI_mono fun _ _ => popI_mono fun _ _ => popR_mono fun _ _ => popI_mono fun _ _ => popR_mono fun _ _ => And.imp_right (acopy_mono (h _))
theorem ite_mono {c : Prop} [Decidable c] {A B A' B' : Prop} (h1 : A → A') (h2 : B → B') : (if c then A else B) → (if c then A' else B') := by
  split
  · exact h1
  · exact h2
theorem ex_mono {α : Sort _} {p q : α → Prop} (h : ∀ a, p a → q a) : (∃ a, p a) → ∃ a, q a := fun ⟨a, b⟩ => ⟨a, h a b⟩
theorem br_mono {c A B A' B' : Prop} (h1 : A → A') (h2 : B → B') : ((c → A) ∧ (¬ c → B)) → ((c → A') ∧ (¬ c → B')) := And.imp (fun f z => h1 (f z)) (fun f z => h2 (f z))
def callMono (call : PC) : Prop := ∀ (f : Nat) (as : List PV) (S : SS) (zI zL : ZM) (Q Q' : PQ), (∀ r S zI zL, Q r S zI zL → Q' r S zI zL) → call f as S zI zL Q → call f as S zI zL Q'
theorem calld_mono {MC MS : Nat → Nat} {call : PC} (hc : callMono call) {Q Q' : PQ} {nxt nxt' : PK} (hn : ∀ pc ls st S zI zL mc ms, nxt pc ls st S zI zL mc ms → nxt' pc ls st S zI zL mc ms) {f n nx : Nat} {ls : List (Option PV)} {st : List PV} {S : SS} {zI zL : ZM} {mc ms : Nat} :
    calld MC MS call Q nxt f n nx ls st S zI zL mc ms → calld MC MS call Q' nxt' f n nx ls st S zI zL mc ms :=
  And.imp_right (And.imp_right (And.imp_right (And.imp_right (hc _ _ _ _ _ _ _ (fun _ _ _ _ => hn _ _ _ _ _ _ _ _)))))
set_option maxHeartbeats 4000000 in
theorem stepP_mono {swT : List (List Nat)} {MC MS RC NF : Nat → Nat} {X : PX} {call : PC} {Q Q' : PQ} {nxt nxt' : PK} (hc : callMono call) (hq : ∀ r S zI zL, Q r S zI zL → Q' r S zI zL) (hn : ∀ pc ls st S zI zL mc ms, nxt pc ls st S zI zL mc ms → nxt' pc ls st S zI zL mc ms)
    {ins : PI} {ls : List (Option PV)} {st : List PV} {S : SS} {zI zL : ZM} {mc ms : Nat} : stepP swT MC MS RC NF X call Q nxt ins ls st S zI zL mc ms → stepP swT MC MS RC NF X call Q' nxt' ins ls st S zI zL mc ms := by
  obtain ⟨i, nx, a, b, c⟩ := ins
  cases i <;> dsimp only [stepP] <;> first
    | exact id
    | exact hn _ _ _ _ _ _ _ _
    | (repeat' (first
        | exact hn _ _ _ _ _ _ _ _
        | exact hq _ _ _ _
        | with_reducible refine popI_mono fun _ _ => ?_
        | with_reducible refine popL_mono fun _ _ => ?_
        | with_reducible refine popR_mono fun _ _ => ?_
        | with_reducible refine popV_mono fun _ _ => ?_
        | with_reducible refine ldI_mono fun _ => ?_
        | with_reducible refine ldL_mono fun _ => ?_
        | with_reducible refine ldR_mono fun _ => ?_
        | with_reducible refine elI_mono fun _ => ?_
        | with_reducible refine acop_mono fun _ _ _ => ?_
        | with_reducible refine ite_mono ?_ ?_
        | with_reducible refine calld_mono hc hn
        | with_reducible refine br_mono ?_ ?_
        | with_reducible refine ex_mono fun _ => ?_
        | with_reducible refine And.imp_right ?_))
theorem runL_step {swT : List (List Nat)} {MC MS RC NF : Nat → Nat} {X : PX} {call : PC} {Q : PQ} {C : List PI} (hc : callMono call) {pc : Nat} {ls : List (Option PV)} {st : List PV} {S : SS} {zI zL : ZM} {mc ms : Nat} {ins : PI} (h : C[pc]? = some ins)
    (k : stepP swT MC MS RC NF X call Q (runL swT MC MS RC NF X call Q C) ins ls st S zI zL mc ms) : runL swT MC MS RC NF X call Q C pc ls st S zI zL mc ms := by
  intro P hP
  refine hP _ _ _ _ _ _ _ _ ?_
  unfold stepC
  rw [h]
  exact stepP_mono hc (fun _ _ _ _ => id) (fun _ _ _ _ _ _ _ _ hr => hr P hP) k
theorem runL_mono {swT : List (List Nat)} {MC MS RC NF : Nat → Nat} {X : PX} {call : PC} {Q Q' : PQ} {C : List PI} (hc : callMono call) (hq : ∀ r S zI zL, Q r S zI zL → Q' r S zI zL) {pc : Nat} {ls : List (Option PV)} {st : List PV} {S : SS} {zI zL : ZM} {mc ms : Nat}
    (h : runL swT MC MS RC NF X call Q C pc ls st S zI zL mc ms) : runL swT MC MS RC NF X call Q' C pc ls st S zI zL mc ms := by
  refine h _ fun pc ls st S zI zL mc ms hs => ?_
  unfold stepC at hs
  split at hs
  · exact hs.elim
  · rename_i ins he
    exact runL_step hc he (stepP_mono hc hq (fun _ _ _ _ _ _ _ _ => id) hs)
end
section
def c_Crossing_init : List PI := [(.aload_n 0, 1, 0, 0, 0), (.invokespecial 3, 2, 0, 0, 5), (.aload_n 0, 3, 0, 0, 0), (.new 9, 4, 5, 0, 0), (.dup, 5, 0, 0, 0), (.sipush (128), 6, 0, 0, 128), (.invokespecial 11, 7, 57, 2, 3), (.putfield 14, 8, 0, 12, 0), (.aload_n 0, 9, 0, 0, 0), (.sipush (128), 10, 0, 0, 128), (.newarray .int, 11, 12, 0, 0), (.putfield 20, 12, 0, 12, 1), (.aload_n 0, 13, 0, 0, 0), (.new 24, 14, 4, 0, 0), (.dup, 15, 0, 0, 0), (.invokespecial 26, 16, 52, 1, 4), (.putfield 27, 17, 0, 12, 2), (.aload_n 0, 18, 0, 0, 0), (.new 24, 19, 4, 0, 0), (.dup, 20, 0, 0, 0), (.invokespecial 26, 21, 52, 1, 4), (.putfield 31, 22, 0, 12, 3), (.aload_n 0, 23, 0, 0, 0), (.new 24, 24, 4, 0, 0), (.dup, 25, 0, 0, 0), (.invokespecial 26, 26, 52, 1, 4), (.putfield 34, 27, 0, 12, 4), (.return_, 28, 0, 0, 0)]
def p_Crossing_init : List Nat := [0, 1, 4, 5, 8, 9, 12, 15, 18, 19, 22, 24, 27, 28, 31, 32, 35, 38, 39, 42, 43, 46, 49, 50, 53, 54, 57, 60, 61]
def c_Crossing_lay : List PI := [(.aload_n 0, 1, 0, 0, 0), (.getfield 14, 2, 0, 2, 0), (.iconst (0), 3, 0, 0, 0), (.putfield 37, 4, 5, 0, 5), (.aload_n 0, 5, 0, 0, 0), (.aload_n 1, 6, 0, 0, 0), (.aload_n 2, 7, 0, 0, 0), (.getfield 41, 8, 1, 2, 0), (.invokevirtual 47, 9, 2, 3, 0), (.ifCond .ne (15), 10, 16, 0, 0), (.aload_n 0, 11, 0, 0, 0), (.aload_n 2, 12, 0, 0, 0), (.aload_n 1, 13, 0, 0, 0), (.getfield 41, 14, 1, 2, 0), (.invokevirtual 47, 15, 2, 3, 0), (.ifCond .eq (5), 16, 18, 0, 0), (.iconst (0), 17, 0, 0, 0), (.ireturn, 18, 1, 0, 0), (.iconst (0), 19, 0, 0, 0), (.istore_n 3, 20, 0, 0, 0), (.iload_n 3, 21, 0, 0, 0), (.aload_n 1, 22, 0, 0, 0), (.getfield 51, 23, 1, 0, 8), (.if_icmp .ge (41), 24, 43, 0, 0), (.iconst (0), 25, 0, 0, 0), (.istore 4, 26, 0, 0, 0), (.iload 4, 27, 0, 0, 0), (.aload_n 2, 28, 0, 0, 0), (.getfield 51, 29, 1, 0, 8), (.if_icmp .ge (23), 30, 41, 0, 0), (.aload_n 0, 31, 0, 0, 0), (.aload_n 1, 32, 0, 0, 0), (.iload_n 3, 33, 0, 0, 0), (.aload_n 2, 34, 0, 0, 0), (.iload 4, 35, 0, 0, 0), (.invokevirtual 54, 36, 3, 5, 0), (.ifCond .ne (5), 37, 39, 0, 0), (.iconst (0), 38, 0, 0, 0), (.ireturn, 39, 1, 0, 0), (.iinc 4 (1), 40, 0, 0, 1), (.goto (-26), 41, 26, 0, 0), (.iinc 3 (1), 42, 0, 0, 1), (.goto (-43), 43, 20, 0, 0), (.iconst (1), 44, 0, 0, 1), (.ireturn, 45, 1, 0, 0)]
def p_Crossing_lay : List Nat := [0, 1, 4, 5, 8, 9, 10, 11, 14, 17, 20, 21, 22, 23, 26, 29, 32, 33, 34, 35, 36, 37, 38, 41, 44, 45, 47, 49, 50, 53, 56, 57, 58, 59, 60, 62, 65, 68, 69, 70, 73, 76, 79, 82, 83, 84]
def c_Crossing_touches : List PI := [(.iconst (0), 1, 0, 0, 0), (.istore_n 3, 2, 0, 0, 0), (.iload_n 3, 3, 0, 0, 0), (.aload_n 1, 4, 0, 0, 0), (.getfield 58, 5, 1, 2, 3), (.getfield 37, 6, 5, 0, 5), (.if_icmp .ge (35), 7, 23, 0, 0), (.aload_n 1, 8, 0, 0, 0), (.getfield 58, 9, 1, 2, 3), (.iload_n 3, 10, 0, 0, 0), (.aload_n 0, 11, 0, 0, 0), (.getfield 27, 12, 0, 2, 2), (.invokevirtual 61, 13, 62, 3, 0), (.aload_n 2, 14, 0, 0, 0), (.aload_n 0, 15, 0, 0, 0), (.getfield 27, 16, 0, 2, 2), (.invokevirtual 65, 17, 50, 2, 0), (.iconst (2), 18, 0, 0, 2), (.if_icmp .lt (5), 19, 21, 0, 0), (.iconst (1), 20, 0, 0, 1), (.ireturn, 21, 1, 0, 0), (.iinc 3 (1), 22, 0, 0, 1), (.goto (-40), 23, 2, 0, 0), (.iconst (0), 24, 0, 0, 0), (.ireturn, 25, 1, 0, 0)]
def p_Crossing_touches : List Nat := [0, 1, 2, 3, 4, 7, 10, 13, 14, 17, 18, 19, 22, 25, 26, 27, 30, 33, 34, 37, 38, 39, 42, 45, 46, 47]
def c_Crossing_layEdges : List PI := [(.aload_n 1, 1, 0, 0, 0), (.iload_n 2, 2, 0, 0, 0), (.invokevirtual 71, 3, 15, 2, 0), (.istore 5, 4, 0, 0, 0), (.aload_n 1, 5, 0, 0, 0), (.iload_n 2, 6, 0, 0, 0), (.invokevirtual 75, 7, 16, 2, 0), (.istore 6, 8, 0, 0, 0), (.aload_n 1, 9, 0, 0, 0), (.iload_n 2, 10, 0, 0, 0), (.invokevirtual 78, 11, 17, 2, 0), (.istore 7, 12, 0, 0, 0), (.aload_n 3, 13, 0, 0, 0), (.iload 4, 14, 0, 0, 0), (.invokevirtual 71, 15, 15, 2, 0), (.istore 8, 16, 0, 0, 0), (.aload_n 3, 17, 0, 0, 0), (.iload 4, 18, 0, 0, 0), (.invokevirtual 75, 19, 16, 2, 0), (.istore 9, 20, 0, 0, 0), (.aload_n 3, 21, 0, 0, 0), (.iload 4, 22, 0, 0, 0), (.invokevirtual 78, 23, 17, 2, 0), (.istore 10, 24, 0, 0, 0), (.iload 5, 25, 0, 0, 0), (.iload 9, 26, 0, 0, 0), (.imul, 27, 0, 0, 0), (.iload 6, 28, 0, 0, 0), (.iload 8, 29, 0, 0, 0), (.imul, 30, 0, 0, 0), (.isub, 31, 0, 0, 0), (.istore 11, 32, 0, 0, 0), (.iload 11, 33, 0, 0, 0), (.ifCond .ne (59), 34, 65, 0, 0), (.iload 5, 35, 0, 0, 0), (.iload 10, 36, 0, 0, 0), (.imul, 37, 0, 0, 0), (.iload 8, 38, 0, 0, 0), (.iload 7, 39, 0, 0, 0), (.imul, 40, 0, 0, 0), (.if_icmp .ne (20), 41, 50, 0, 0), (.iload 6, 42, 0, 0, 0), (.iload 10, 43, 0, 0, 0), (.imul, 44, 0, 0, 0), (.iload 9, 45, 0, 0, 0), (.iload 7, 46, 0, 0, 0), (.imul, 47, 0, 0, 0), (.if_icmp .ne (7), 48, 50, 0, 0), (.iconst (1), 49, 0, 0, 1), (.goto (4), 50, 51, 0, 0), (.iconst (0), 51, 0, 0, 0), (.istore 12, 52, 0, 0, 0), (.iload 12, 53, 0, 0, 0), (.ifCond .eq (15), 54, 61, 0, 0), (.aload_n 0, 55, 0, 0, 0), (.aload_n 1, 56, 0, 0, 0), (.iload_n 2, 57, 0, 0, 0), (.aload_n 3, 58, 0, 0, 0), (.iload 4, 59, 0, 0, 0), (.invokevirtual 81, 60, 4, 5, 0), (.ifCond .ne (7), 61, 63, 0, 0), (.iconst (1), 62, 0, 0, 1), (.goto (4), 63, 64, 0, 0), (.iconst (0), 64, 0, 0, 0), (.ireturn, 65, 1, 0, 0), (.aload_n 0, 66, 0, 0, 0), (.getfield 27, 67, 0, 2, 2), (.iload 7, 68, 0, 0, 0), (.iload 9, 69, 0, 0, 0), (.imul, 70, 0, 0, 0), (.iload 10, 71, 0, 0, 0), (.iload 6, 72, 0, 0, 0), (.imul, 73, 0, 0, 0), (.isub, 74, 0, 0, 0), (.i2l, 75, 0, 0, 0), (.iload 5, 76, 0, 0, 0), (.iload 10, 77, 0, 0, 0), (.imul, 78, 0, 0, 0), (.iload 8, 79, 0, 0, 0), (.iload 7, 80, 0, 0, 0), (.imul, 81, 0, 0, 0), (.isub, 82, 0, 0, 0), (.i2l, 83, 0, 0, 0), (.iload 11, 84, 0, 0, 0), (.i2l, 85, 0, 0, 0), (.invokevirtual 84, 86, 53, 4, 0), (.aload_n 0, 87, 0, 0, 0), (.aload_n 1, 88, 0, 0, 0), (.iload_n 2, 89, 0, 0, 0), (.invokevirtual 88, 90, 6, 3, 0), (.ifCond .eq (22), 91, 100, 0, 0), (.aload_n 0, 92, 0, 0, 0), (.aload_n 3, 93, 0, 0, 0), (.iload 4, 94, 0, 0, 0), (.invokevirtual 88, 95, 6, 3, 0), (.ifCond .eq (12), 96, 100, 0, 0), (.aload_n 0, 97, 0, 0, 0), (.iload 11, 98, 0, 0, 0), (.invokestatic 92, 99, 211, 1, 1), (.invokevirtual 97, 100, 7, 2, 0), (.iconst (1), 101, 0, 0, 1), (.ireturn, 102, 1, 0, 0)]
def p_Crossing_layEdges : List Nat := [0, 1, 2, 5, 7, 8, 9, 12, 14, 15, 16, 19, 21, 22, 24, 27, 29, 30, 32, 35, 37, 38, 40, 43, 45, 47, 49, 50, 52, 54, 55, 56, 58, 60, 63, 65, 67, 68, 70, 72, 73, 76, 78, 80, 81, 83, 85, 86, 89, 90, 93, 94, 96, 98, 101, 102, 103, 104, 105, 107, 110, 113, 114, 117, 118, 119, 120, 123, 125, 127, 128, 130, 132, 133, 134, 135, 137, 139, 140, 142, 144, 145, 146, 147, 149, 150, 153, 154, 155, 156, 159, 162, 163, 164, 166, 169, 172, 173, 175, 178, 181, 182, 183]
def c_Crossing_overlap : List PI := [(.aload_n 0, 1, 0, 0, 0), (.aload_n 1, 2, 0, 0, 0), (.iload_n 2, 3, 0, 0, 0), (.aload_n 3, 4, 0, 0, 0), (.iload 4, 5, 0, 0, 0), (.invokevirtual 123, 6, 5, 5, 0), (.ifCond .eq (19), 7, 16, 0, 0), (.aload_n 0, 8, 0, 0, 0), (.aload_n 3, 9, 0, 0, 0), (.iload 4, 10, 0, 0, 0), (.aload_n 1, 11, 0, 0, 0), (.iload_n 2, 12, 0, 0, 0), (.invokevirtual 123, 13, 5, 5, 0), (.ifCond .eq (7), 14, 16, 0, 0), (.iconst (1), 15, 0, 0, 1), (.goto (4), 16, 17, 0, 0), (.iconst (0), 17, 0, 0, 0), (.ireturn, 18, 1, 0, 0)]
def p_Crossing_overlap : List Nat := [0, 1, 2, 3, 4, 6, 9, 12, 13, 14, 16, 17, 18, 21, 24, 25, 28, 29, 30]
def c_Crossing_beginsBefore : List PI := [(.aload_n 1, 1, 0, 0, 0), (.getfield 113, 2, 1, 2, 6), (.iload_n 2, 3, 0, 0, 0), (.iaload, 4, 0, 0, 0), (.iconst (-1), 5, 0, 0, (-1)), (.if_icmp .eq (14), 6, 12, 0, 0), (.aload_n 3, 7, 0, 0, 0), (.getfield 120, 8, 1, 2, 7), (.iload 4, 9, 0, 0, 0), (.iaload, 10, 0, 0, 0), (.iconst (-1), 11, 0, 0, (-1)), (.if_icmp .ne (5), 12, 14, 0, 0), (.iconst (1), 13, 0, 0, 1), (.ireturn, 14, 1, 0, 0), (.aload_n 1, 15, 0, 0, 0), (.getfield 58, 16, 1, 2, 3), (.aload_n 1, 17, 0, 0, 0), (.getfield 113, 18, 1, 2, 6), (.iload_n 2, 19, 0, 0, 0), (.iaload, 20, 0, 0, 0), (.aload_n 0, 21, 0, 0, 0), (.getfield 31, 22, 0, 2, 3), (.invokevirtual 61, 23, 62, 3, 0), (.aload_n 3, 24, 0, 0, 0), (.getfield 58, 25, 1, 2, 3), (.aload_n 3, 26, 0, 0, 0), (.getfield 120, 27, 1, 2, 7), (.iload 4, 28, 0, 0, 0), (.iaload, 29, 0, 0, 0), (.aload_n 0, 30, 0, 0, 0), (.getfield 34, 31, 0, 2, 4), (.invokevirtual 61, 32, 62, 3, 0), (.aload_n 0, 33, 0, 0, 0), (.getfield 31, 34, 0, 2, 3), (.aload_n 0, 35, 0, 0, 0), (.getfield 34, 36, 0, 2, 4), (.aload_n 1, 37, 0, 0, 0), (.iload_n 2, 38, 0, 0, 0), (.invokevirtual 71, 39, 15, 2, 0), (.aload_n 1, 40, 0, 0, 0), (.iload_n 2, 41, 0, 0, 0), (.invokevirtual 75, 42, 16, 2, 0), (.invokevirtual 116, 43, 55, 4, 0), (.ifCond .ge (7), 44, 46, 0, 0), (.iconst (1), 45, 0, 0, 1), (.goto (4), 46, 47, 0, 0), (.iconst (0), 47, 0, 0, 0), (.ireturn, 48, 1, 0, 0)]
def p_Crossing_beginsBefore : List Nat := [0, 1, 4, 5, 6, 7, 10, 11, 14, 16, 17, 18, 21, 22, 23, 24, 27, 28, 31, 32, 33, 34, 37, 40, 41, 44, 45, 48, 50, 51, 52, 55, 58, 59, 62, 63, 66, 67, 68, 71, 72, 73, 76, 79, 82, 83, 86, 87, 88]
def c_Crossing_holds : List PI := [(.aload_n 1, 1, 0, 0, 0), (.iload_n 2, 2, 0, 0, 0), (.invokevirtual 71, 3, 15, 2, 0), (.istore_n 3, 4, 0, 0, 0), (.aload_n 1, 5, 0, 0, 0), (.iload_n 2, 6, 0, 0, 0), (.invokevirtual 75, 7, 16, 2, 0), (.istore 4, 8, 0, 0, 0), (.aload_n 1, 9, 0, 0, 0), (.getfield 113, 10, 1, 2, 6), (.iload_n 2, 11, 0, 0, 0), (.iaload, 12, 0, 0, 0), (.iconst (-1), 13, 0, 0, (-1)), (.if_icmp .eq (39), 14, 33, 0, 0), (.aload_n 1, 15, 0, 0, 0), (.getfield 58, 16, 1, 2, 3), (.aload_n 1, 17, 0, 0, 0), (.getfield 113, 18, 1, 2, 6), (.iload_n 2, 19, 0, 0, 0), (.iaload, 20, 0, 0, 0), (.aload_n 0, 21, 0, 0, 0), (.getfield 31, 22, 0, 2, 3), (.invokevirtual 61, 23, 62, 3, 0), (.aload_n 0, 24, 0, 0, 0), (.getfield 27, 25, 0, 2, 2), (.aload_n 0, 26, 0, 0, 0), (.getfield 31, 27, 0, 2, 3), (.iload_n 3, 28, 0, 0, 0), (.iload 4, 29, 0, 0, 0), (.invokevirtual 116, 30, 55, 4, 0), (.ifCond .ge (5), 31, 33, 0, 0), (.iconst (0), 32, 0, 0, 0), (.ireturn, 33, 1, 0, 0), (.aload_n 1, 34, 0, 0, 0), (.getfield 120, 35, 1, 2, 7), (.iload_n 2, 36, 0, 0, 0), (.iaload, 37, 0, 0, 0), (.iconst (-1), 38, 0, 0, (-1)), (.if_icmp .eq (43), 39, 60, 0, 0), (.aload_n 1, 40, 0, 0, 0), (.getfield 58, 41, 1, 2, 3), (.aload_n 1, 42, 0, 0, 0), (.getfield 120, 43, 1, 2, 7), (.iload_n 2, 44, 0, 0, 0), (.iaload, 45, 0, 0, 0), (.aload_n 0, 46, 0, 0, 0), (.getfield 34, 47, 0, 2, 4), (.invokevirtual 61, 48, 62, 3, 0), (.aload_n 0, 49, 0, 0, 0), (.getfield 27, 50, 0, 2, 2), (.aload_n 0, 51, 0, 0, 0), (.getfield 34, 52, 0, 2, 4), (.iload_n 3, 53, 0, 0, 0), (.iload 4, 54, 0, 0, 0), (.invokevirtual 116, 55, 55, 4, 0), (.ifCond .gt (7), 56, 58, 0, 0), (.iconst (1), 57, 0, 0, 1), (.goto (4), 58, 59, 0, 0), (.iconst (0), 59, 0, 0, 0), (.ireturn, 60, 1, 0, 0), (.iconst (1), 61, 0, 0, 1), (.ireturn, 62, 1, 0, 0)]
def p_Crossing_holds : List Nat := [0, 1, 2, 5, 6, 7, 8, 11, 13, 14, 17, 18, 19, 20, 23, 24, 27, 28, 31, 32, 33, 34, 37, 40, 41, 44, 45, 48, 49, 51, 54, 57, 58, 59, 60, 63, 64, 65, 66, 69, 70, 73, 74, 77, 78, 79, 80, 83, 86, 87, 90, 91, 94, 95, 97, 100, 103, 104, 107, 108, 109, 110, 111]
def c_Crossing_note : List PI := [(.aload_n 0, 1, 0, 0, 0), (.getfield 14, 2, 0, 2, 0), (.aload_n 0, 3, 0, 0, 0), (.getfield 27, 4, 0, 2, 2), (.invokevirtual 100, 5, 58, 2, 0), (.istore_n 2, 6, 0, 0, 0), (.aload_n 0, 7, 0, 0, 0), (.getfield 14, 8, 0, 2, 0), (.getfield 37, 9, 5, 0, 5), (.iload_n 2, 10, 0, 0, 0), (.isub, 11, 0, 0, 0), (.istore_n 3, 12, 0, 0, 0), (.aload_n 0, 13, 0, 0, 0), (.getfield 14, 14, 0, 2, 0), (.iload_n 2, 15, 0, 0, 0), (.aload_n 0, 16, 0, 0, 0), (.getfield 27, 17, 0, 2, 2), (.invokevirtual 103, 18, 61, 3, 0), (.ifCond .eq (26), 19, 34, 0, 0), (.aload_n 0, 20, 0, 0, 0), (.getfield 20, 21, 0, 2, 1), (.iload_n 2, 22, 0, 0, 0), (.aload_n 0, 23, 0, 0, 0), (.getfield 20, 24, 0, 2, 1), (.iload_n 2, 25, 0, 0, 0), (.iconst (1), 26, 0, 0, 1), (.iadd, 27, 0, 0, 0), (.iload_n 3, 28, 0, 0, 0), (.invokestatic 107, 29, 0, 0, 6), (.aload_n 0, 30, 0, 0, 0), (.getfield 20, 31, 0, 2, 1), (.iload_n 2, 32, 0, 0, 0), (.iload_n 1, 33, 0, 0, 0), (.iastore, 34, 0, 0, 0), (.return_, 35, 0, 0, 0)]
def p_Crossing_note : List Nat := [0, 1, 4, 5, 8, 11, 12, 13, 16, 19, 20, 21, 22, 23, 26, 27, 28, 31, 34, 37, 38, 41, 42, 43, 46, 47, 48, 49, 50, 53, 54, 57, 58, 59, 60, 61]
def c_Curve_init : List PI := [(.aload_n 0, 1, 0, 0, 0), (.invokespecial 3, 2, 0, 0, 5), (.aload_n 0, 3, 0, 0, 0), (.new 9, 4, 4, 0, 0), (.dup, 5, 0, 0, 0), (.invokespecial 11, 6, 52, 1, 4), (.putfield 12, 7, 1, 12, 2), (.aload_n 0, 8, 0, 0, 0), (.new 18, 9, 5, 0, 0), (.dup, 10, 0, 0, 0), (.bipush (75), 11, 0, 0, 75), (.invokespecial 20, 12, 57, 2, 3), (.putfield 23, 13, 1, 12, 3), (.aload_n 0, 14, 0, 0, 0), (.bipush (114), 15, 0, 0, 114), (.newarray .int, 16, 12, 0, 0), (.putfield 27, 17, 1, 12, 4), (.aload_n 0, 18, 0, 0, 0), (.bipush (114), 19, 0, 0, 114), (.newarray .int, 20, 12, 0, 0), (.putfield 31, 21, 1, 12, 5), (.aload_n 0, 22, 0, 0, 0), (.bipush (114), 23, 0, 0, 114), (.newarray .int, 24, 12, 0, 0), (.putfield 34, 25, 1, 12, 6), (.aload_n 0, 26, 0, 0, 0), (.bipush (114), 27, 0, 0, 114), (.newarray .int, 28, 12, 0, 0), (.putfield 37, 29, 1, 12, 7), (.aload_n 0, 30, 0, 0, 0), (.aload_n 1, 31, 0, 0, 0), (.putfield 40, 32, 1, 12, 0), (.aload_n 0, 33, 0, 0, 0), (.aload_n 2, 34, 0, 0, 0), (.putfield 44, 35, 1, 12, 1), (.return_, 36, 0, 0, 0)]
def p_Curve_init : List Nat := [0, 1, 4, 5, 8, 9, 12, 15, 16, 19, 20, 22, 25, 28, 29, 31, 33, 36, 37, 39, 41, 44, 45, 47, 49, 52, 53, 55, 57, 60, 61, 62, 65, 66, 67, 70, 71]
def c_Curve_draw : List PI := [(.aload_n 0, 1, 0, 0, 0), (.iconst (0), 2, 0, 0, 0), (.putfield 48, 3, 1, 0, 8), (.aload_n 0, 4, 0, 0, 0), (.getfield 23, 5, 1, 2, 3), (.iconst (0), 6, 0, 0, 0), (.putfield 52, 7, 5, 0, 5), (.iconst (0), 8, 0, 0, 0), (.istore_n 1, 9, 0, 0, 0), (.iload_n 1, 10, 0, 0, 0), (.aload_n 0, 11, 0, 0, 0), (.getfield 40, 12, 1, 2, 0), (.getfield 55, 13, 3, 0, 4), (.if_icmp .ge (54), 14, 40, 0, 0), (.iload_n 1, 15, 0, 0, 0), (.iconst (1), 16, 0, 0, 1), (.iadd, 17, 0, 0, 0), (.istore_n 2, 18, 0, 0, 0), (.iload_n 2, 19, 0, 0, 0), (.aload_n 0, 20, 0, 0, 0), (.getfield 40, 21, 1, 2, 0), (.getfield 55, 22, 3, 0, 4), (.if_icmp .ge (33), 23, 38, 0, 0), (.aload_n 0, 24, 0, 0, 0), (.getfield 48, 25, 1, 0, 8), (.bipush (114), 26, 0, 0, 114), (.if_icmp .ge (18), 27, 36, 0, 0), (.aload_n 0, 28, 0, 0, 0), (.iload_n 1, 29, 0, 0, 0), (.iload_n 2, 30, 0, 0, 0), (.invokevirtual 60, 31, 10, 3, 0), (.ifCond .eq (9), 32, 36, 0, 0), (.aload_n 0, 33, 0, 0, 0), (.iload_n 1, 34, 0, 0, 0), (.iload_n 2, 35, 0, 0, 0), (.invokevirtual 64, 36, 13, 3, 0), (.iinc 2 (1), 37, 0, 0, 1), (.goto (-38), 38, 18, 0, 0), (.iinc 1 (1), 39, 0, 0, 1), (.goto (-59), 40, 9, 0, 0), (.aload_n 0, 41, 0, 0, 0), (.getfield 40, 42, 1, 2, 0), (.iconst (1), 43, 0, 0, 1), (.putfield 68, 44, 3, 3, 5), (.return_, 45, 0, 0, 0)]
def p_Curve_draw : List Nat := [0, 1, 2, 5, 6, 9, 10, 13, 14, 15, 16, 17, 20, 23, 26, 27, 28, 29, 30, 31, 32, 35, 38, 41, 42, 45, 47, 50, 51, 52, 53, 56, 59, 60, 61, 62, 65, 68, 71, 74, 77, 78, 81, 82, 85, 86]
def c_Curve_findStretch : List PI := [(.aload_n 0, 1, 0, 0, 0), (.getfield 40, 2, 1, 2, 0), (.getfield 72, 3, 3, 2, 0), (.iload_n 2, 4, 0, 0, 0), (.iaload, 5, 0, 0, 0), (.aload_n 0, 6, 0, 0, 0), (.getfield 40, 7, 1, 2, 0), (.getfield 72, 8, 3, 2, 0), (.iload_n 1, 9, 0, 0, 0), (.iaload, 10, 0, 0, 0), (.isub, 11, 0, 0, 0), (.istore_n 3, 12, 0, 0, 0), (.aload_n 0, 13, 0, 0, 0), (.getfield 40, 14, 1, 2, 0), (.getfield 75, 15, 3, 2, 1), (.iload_n 2, 16, 0, 0, 0), (.iaload, 17, 0, 0, 0), (.aload_n 0, 18, 0, 0, 0), (.getfield 40, 19, 1, 2, 0), (.getfield 75, 20, 3, 2, 1), (.iload_n 1, 21, 0, 0, 0), (.iaload, 22, 0, 0, 0), (.isub, 23, 0, 0, 0), (.istore 4, 24, 0, 0, 0), (.aload_n 0, 25, 0, 0, 0), (.getfield 40, 26, 1, 2, 0), (.getfield 78, 27, 3, 2, 2), (.iload_n 1, 28, 0, 0, 0), (.iaload, 29, 0, 0, 0), (.aload_n 0, 30, 0, 0, 0), (.getfield 40, 31, 1, 2, 0), (.getfield 78, 32, 3, 2, 2), (.iload_n 2, 33, 0, 0, 0), (.iaload, 34, 0, 0, 0), (.isub, 35, 0, 0, 0), (.istore 5, 36, 0, 0, 0), (.aload_n 0, 37, 0, 0, 0), (.lconst 0, 38, 0, 0, 0), (.putfield 81, 39, 1, 1, 10), (.aload_n 0, 40, 0, 0, 0), (.lconst 0, 41, 0, 0, 0), (.putfield 85, 42, 1, 1, 12), (.iconst (0), 43, 0, 0, 0), (.istore 6, 44, 0, 0, 0), (.iload 6, 45, 0, 0, 0), (.aload_n 0, 46, 0, 0, 0), (.getfield 40, 47, 1, 2, 0), (.getfield 55, 48, 3, 0, 4), (.if_icmp .ge (215), 49, 169, 0, 0), (.aload_n 0, 50, 0, 0, 0), (.getfield 40, 51, 1, 2, 0), (.getfield 72, 52, 3, 2, 0), (.iload 6, 53, 0, 0, 0), (.iaload, 54, 0, 0, 0), (.aload_n 0, 55, 0, 0, 0), (.getfield 40, 56, 1, 2, 0), (.getfield 72, 57, 3, 2, 0), (.iload_n 1, 58, 0, 0, 0), (.iaload, 59, 0, 0, 0), (.isub, 60, 0, 0, 0), (.istore 7, 61, 0, 0, 0), (.aload_n 0, 62, 0, 0, 0), (.getfield 40, 63, 1, 2, 0), (.getfield 75, 64, 3, 2, 1), (.iload 6, 65, 0, 0, 0), (.iaload, 66, 0, 0, 0), (.aload_n 0, 67, 0, 0, 0), (.getfield 40, 68, 1, 2, 0), (.getfield 75, 69, 3, 2, 1), (.iload_n 1, 70, 0, 0, 0), (.iaload, 71, 0, 0, 0), (.isub, 72, 0, 0, 0), (.istore 8, 73, 0, 0, 0), (.iload_n 3, 74, 0, 0, 0), (.iload 8, 75, 0, 0, 0), (.imul, 76, 0, 0, 0), (.iload 4, 77, 0, 0, 0), (.iload 7, 78, 0, 0, 0), (.imul, 79, 0, 0, 0), (.isub, 80, 0, 0, 0), (.istore 9, 81, 0, 0, 0), (.iload 5, 82, 0, 0, 0), (.iload 7, 83, 0, 0, 0), (.iload_n 3, 84, 0, 0, 0), (.imul, 85, 0, 0, 0), (.iload 8, 86, 0, 0, 0), (.iload 4, 87, 0, 0, 0), (.imul, 88, 0, 0, 0), (.iadd, 89, 0, 0, 0), (.imul, 90, 0, 0, 0), (.aload_n 0, 91, 0, 0, 0), (.getfield 40, 92, 1, 2, 0), (.getfield 78, 93, 3, 2, 2), (.iload 6, 94, 0, 0, 0), (.iaload, 95, 0, 0, 0), (.aload_n 0, 96, 0, 0, 0), (.getfield 40, 97, 1, 2, 0), (.getfield 78, 98, 3, 2, 2), (.iload_n 1, 99, 0, 0, 0), (.iaload, 100, 0, 0, 0), (.isub, 101, 0, 0, 0), (.iload_n 3, 102, 0, 0, 0), (.iload_n 3, 103, 0, 0, 0), (.imul, 104, 0, 0, 0), (.iload 4, 105, 0, 0, 0), (.iload 4, 106, 0, 0, 0), (.imul, 107, 0, 0, 0), (.iadd, 108, 0, 0, 0), (.imul, 109, 0, 0, 0), (.iadd, 110, 0, 0, 0), (.istore 10, 111, 0, 0, 0), (.iload 9, 112, 0, 0, 0), (.ifCond .le (17), 113, 121, 0, 0), (.aload_n 0, 114, 0, 0, 0), (.iload 10, 115, 0, 0, 0), (.ineg, 116, 0, 0, 0), (.i2l, 117, 0, 0, 0), (.iload 9, 118, 0, 0, 0), (.i2l, 119, 0, 0, 0), (.invokevirtual 88, 120, 11, 3, 0), (.goto (46), 121, 143, 0, 0), (.iload 9, 122, 0, 0, 0), (.ifCond .ge (17), 123, 131, 0, 0), (.aload_n 0, 124, 0, 0, 0), (.iload 10, 125, 0, 0, 0), (.i2l, 126, 0, 0, 0), (.iload 9, 127, 0, 0, 0), (.ineg, 128, 0, 0, 0), (.i2l, 129, 0, 0, 0), (.invokevirtual 92, 130, 12, 3, 0), (.goto (27), 131, 143, 0, 0), (.iload 10, 132, 0, 0, 0), (.ifCond .lt (20), 133, 141, 0, 0), (.iload 10, 134, 0, 0, 0), (.ifCond .ne (17), 135, 143, 0, 0), (.iload 6, 136, 0, 0, 0), (.iload_n 1, 137, 0, 0, 0), (.if_icmp .lt (9), 138, 141, 0, 0), (.iload 6, 139, 0, 0, 0), (.iload_n 2, 140, 0, 0, 0), (.if_icmp .le (5), 141, 143, 0, 0), (.iconst (0), 142, 0, 0, 0), (.ireturn, 143, 1, 0, 0), (.aload_n 0, 144, 0, 0, 0), (.getfield 81, 145, 1, 1, 10), (.lconst 0, 146, 0, 0, 0), (.lcmp, 147, 0, 0, 0), (.ifCond .eq (36), 148, 167, 0, 0), (.aload_n 0, 149, 0, 0, 0), (.getfield 85, 150, 1, 1, 12), (.lconst 0, 151, 0, 0, 0), (.lcmp, 152, 0, 0, 0), (.ifCond .eq (27), 153, 167, 0, 0), (.aload_n 0, 154, 0, 0, 0), (.getfield 95, 155, 1, 1, 9), (.aload_n 0, 156, 0, 0, 0), (.getfield 85, 157, 1, 1, 12), (.lmul, 158, 0, 0, 0), (.aload_n 0, 159, 0, 0, 0), (.getfield 98, 160, 1, 1, 11), (.aload_n 0, 161, 0, 0, 0), (.getfield 81, 162, 1, 1, 10), (.lmul, 163, 0, 0, 0), (.lcmp, 164, 0, 0, 0), (.ifCond .lt (5), 165, 167, 0, 0), (.iconst (0), 166, 0, 0, 0), (.ireturn, 167, 1, 0, 0), (.iinc 6 (1), 168, 0, 0, 1), (.goto (-221), 169, 44, 0, 0), (.iconst (1), 170, 0, 0, 1), (.ireturn, 171, 1, 0, 0)]
def p_Curve_findStretch : List Nat := [0, 1, 4, 7, 8, 9, 10, 13, 16, 17, 18, 19, 20, 21, 24, 27, 28, 29, 30, 33, 36, 37, 38, 39, 41, 42, 45, 48, 49, 50, 51, 54, 57, 58, 59, 60, 62, 63, 64, 67, 68, 69, 72, 73, 75, 77, 78, 81, 84, 87, 88, 91, 94, 96, 97, 98, 101, 104, 105, 106, 107, 109, 110, 113, 116, 118, 119, 120, 123, 126, 127, 128, 129, 131, 132, 134, 135, 137, 139, 140, 141, 143, 145, 147, 148, 149, 151, 153, 154, 155, 156, 157, 160, 163, 165, 166, 167, 170, 173, 174, 175, 176, 177, 178, 179, 181, 183, 184, 185, 186, 187, 189, 191, 194, 195, 197, 198, 199, 201, 202, 205, 208, 210, 213, 214, 216, 217, 219, 220, 221, 224, 227, 229, 232, 234, 237, 239, 240, 243, 245, 246, 249, 250, 251, 252, 255, 256, 257, 260, 261, 264, 265, 266, 269, 270, 273, 274, 277, 278, 279, 282, 283, 286, 287, 288, 291, 292, 293, 296, 299, 300, 301]
def c_Curve_raiseLow : List PI := [(.aload_n 0, 1, 0, 0, 0), (.getfield 81, 2, 1, 1, 10), (.lconst 0, 3, 0, 0, 0), (.lcmp, 4, 0, 0, 0), (.ifCond .eq (19), 5, 15, 0, 0), (.lload_n 1, 6, 0, 0, 0), (.aload_n 0, 7, 0, 0, 0), (.getfield 81, 8, 1, 1, 10), (.lmul, 9, 0, 0, 0), (.aload_n 0, 10, 0, 0, 0), (.getfield 95, 11, 1, 1, 9), (.lload_n 3, 12, 0, 0, 0), (.lmul, 13, 0, 0, 0), (.lcmp, 14, 0, 0, 0), (.ifCond .le (13), 15, 21, 0, 0), (.aload_n 0, 16, 0, 0, 0), (.lload_n 1, 17, 0, 0, 0), (.putfield 95, 18, 1, 1, 9), (.aload_n 0, 19, 0, 0, 0), (.lload_n 3, 20, 0, 0, 0), (.putfield 81, 21, 1, 1, 10), (.return_, 22, 0, 0, 0)]
def p_Curve_raiseLow : List Nat := [0, 1, 4, 5, 6, 9, 10, 11, 14, 15, 16, 19, 20, 21, 22, 25, 26, 27, 30, 31, 32, 35, 36]
def c_Curve_bringDownHigh : List PI := [(.aload_n 0, 1, 0, 0, 0), (.getfield 85, 2, 1, 1, 12), (.lconst 0, 3, 0, 0, 0), (.lcmp, 4, 0, 0, 0), (.ifCond .eq (19), 5, 15, 0, 0), (.lload_n 1, 6, 0, 0, 0), (.aload_n 0, 7, 0, 0, 0), (.getfield 85, 8, 1, 1, 12), (.lmul, 9, 0, 0, 0), (.aload_n 0, 10, 0, 0, 0), (.getfield 98, 11, 1, 1, 11), (.lload_n 3, 12, 0, 0, 0), (.lmul, 13, 0, 0, 0), (.lcmp, 14, 0, 0, 0), (.ifCond .ge (13), 15, 21, 0, 0), (.aload_n 0, 16, 0, 0, 0), (.lload_n 1, 17, 0, 0, 0), (.putfield 98, 18, 1, 1, 11), (.aload_n 0, 19, 0, 0, 0), (.lload_n 3, 20, 0, 0, 0), (.putfield 85, 21, 1, 1, 12), (.return_, 22, 0, 0, 0)]
def p_Curve_bringDownHigh : List Nat := [0, 1, 4, 5, 6, 9, 10, 11, 14, 15, 16, 19, 20, 21, 22, 25, 26, 27, 30, 31, 32, 35, 36]
def c_Curve_addEdge : List PI := [(.aload_n 0, 1, 0, 0, 0), (.getfield 48, 2, 1, 0, 8), (.istore_n 3, 3, 0, 0, 0), (.aload_n 0, 4, 0, 0, 0), (.getfield 27, 5, 1, 2, 4), (.iload_n 3, 6, 0, 0, 0), (.iload_n 1, 7, 0, 0, 0), (.iastore, 8, 0, 0, 0), (.aload_n 0, 9, 0, 0, 0), (.getfield 31, 10, 1, 2, 5), (.iload_n 3, 11, 0, 0, 0), (.iload_n 2, 12, 0, 0, 0), (.iastore, 13, 0, 0, 0), (.aload_n 0, 14, 0, 0, 0), (.getfield 34, 15, 1, 2, 6), (.iload_n 3, 16, 0, 0, 0), (.iconst (-1), 17, 0, 0, (-1)), (.iastore, 18, 0, 0, 0), (.aload_n 0, 19, 0, 0, 0), (.getfield 37, 20, 1, 2, 7), (.iload_n 3, 21, 0, 0, 0), (.iconst (-1), 22, 0, 0, (-1)), (.iastore, 23, 0, 0, 0), (.aload_n 0, 24, 0, 0, 0), (.dup, 25, 0, 0, 0), (.getfield 48, 26, 1, 0, 8), (.iconst (1), 27, 0, 0, 1), (.iadd, 28, 0, 0, 0), (.putfield 48, 29, 1, 0, 8), (.aload_n 0, 30, 0, 0, 0), (.getfield 81, 31, 1, 1, 10), (.lconst 0, 32, 0, 0, 0), (.lcmp, 33, 0, 0, 0), (.ifCond .eq (22), 34, 45, 0, 0), (.aload_n 0, 35, 0, 0, 0), (.getfield 34, 36, 1, 2, 6), (.iload_n 3, 37, 0, 0, 0), (.aload_n 0, 38, 0, 0, 0), (.iload_n 3, 39, 0, 0, 0), (.aload_n 0, 40, 0, 0, 0), (.getfield 95, 41, 1, 1, 9), (.aload_n 0, 42, 0, 0, 0), (.getfield 81, 43, 1, 1, 10), (.invokevirtual 101, 44, 14, 4, 0), (.iastore, 45, 0, 0, 0), (.aload_n 0, 46, 0, 0, 0), (.getfield 85, 47, 1, 1, 12), (.lconst 0, 48, 0, 0, 0), (.lcmp, 49, 0, 0, 0), (.ifCond .eq (22), 50, 61, 0, 0), (.aload_n 0, 51, 0, 0, 0), (.getfield 37, 52, 1, 2, 7), (.iload_n 3, 53, 0, 0, 0), (.aload_n 0, 54, 0, 0, 0), (.iload_n 3, 55, 0, 0, 0), (.aload_n 0, 56, 0, 0, 0), (.getfield 98, 57, 1, 1, 11), (.aload_n 0, 58, 0, 0, 0), (.getfield 85, 59, 1, 1, 12), (.invokevirtual 101, 60, 14, 4, 0), (.iastore, 61, 0, 0, 0), (.return_, 62, 0, 0, 0)]
def p_Curve_addEdge : List Nat := [0, 1, 4, 5, 6, 9, 10, 11, 12, 13, 16, 17, 18, 19, 20, 23, 24, 25, 26, 27, 30, 31, 32, 33, 34, 35, 38, 39, 40, 43, 44, 47, 48, 49, 52, 53, 56, 57, 58, 59, 60, 63, 64, 67, 70, 71, 72, 75, 76, 77, 80, 81, 84, 85, 86, 87, 88, 91, 92, 95, 98, 99, 100]
def c_Curve_cornerOn : List PI := [(.aload_n 0, 1, 0, 0, 0), (.iload_n 1, 2, 0, 0, 0), (.invokevirtual 105, 3, 15, 2, 0), (.i2l, 4, 0, 0, 0), (.lstore 6, 5, 0, 0, 0), (.aload_n 0, 6, 0, 0, 0), (.iload_n 1, 7, 0, 0, 0), (.invokevirtual 109, 8, 16, 2, 0), (.i2l, 9, 0, 0, 0), (.lstore 8, 10, 0, 0, 0), (.aload_n 0, 11, 0, 0, 0), (.iload_n 1, 12, 0, 0, 0), (.invokevirtual 112, 13, 17, 2, 0), (.i2l, 14, 0, 0, 0), (.lstore 10, 15, 0, 0, 0), (.aload_n 0, 16, 0, 0, 0), (.getfield 12, 17, 1, 2, 2), (.lload 10, 18, 0, 0, 0), (.lload 6, 19, 0, 0, 0), (.lmul, 20, 0, 0, 0), (.lload 4, 21, 0, 0, 0), (.lmul, 22, 0, 0, 0), (.lload 8, 23, 0, 0, 0), (.lload_n 2, 24, 0, 0, 0), (.lmul, 25, 0, 0, 0), (.lsub, 26, 0, 0, 0), (.lload 10, 27, 0, 0, 0), (.lload 8, 28, 0, 0, 0), (.lmul, 29, 0, 0, 0), (.lload 4, 30, 0, 0, 0), (.lmul, 31, 0, 0, 0), (.lload 6, 32, 0, 0, 0), (.lload_n 2, 33, 0, 0, 0), (.lmul, 34, 0, 0, 0), (.ladd, 35, 0, 0, 0), (.lload 6, 36, 0, 0, 0), (.lload 6, 37, 0, 0, 0), (.lmul, 38, 0, 0, 0), (.lload 8, 39, 0, 0, 0), (.lload 8, 40, 0, 0, 0), (.lmul, 41, 0, 0, 0), (.ladd, 42, 0, 0, 0), (.lload 4, 43, 0, 0, 0), (.lmul, 44, 0, 0, 0), (.invokevirtual 115, 45, 53, 4, 0), (.aload_n 0, 46, 0, 0, 0), (.getfield 23, 47, 1, 2, 3), (.aload_n 0, 48, 0, 0, 0), (.getfield 12, 49, 1, 2, 2), (.invokevirtual 119, 50, 58, 2, 0), (.istore 12, 51, 0, 0, 0), (.aload_n 0, 52, 0, 0, 0), (.getfield 23, 53, 1, 2, 3), (.iload 12, 54, 0, 0, 0), (.aload_n 0, 55, 0, 0, 0), (.getfield 12, 56, 1, 2, 2), (.invokevirtual 123, 57, 60, 3, 0), (.ifCond .eq (6), 58, 60, 0, 0), (.iload 12, 59, 0, 0, 0), (.ireturn, 60, 0, 0, 0), (.aload_n 0, 61, 0, 0, 0), (.getfield 23, 62, 1, 2, 3), (.iload 12, 63, 0, 0, 0), (.aload_n 0, 64, 0, 0, 0), (.getfield 12, 65, 1, 2, 2), (.invokevirtual 127, 66, 61, 3, 0), (.ifCond .ne (5), 67, 69, 0, 0), (.iconst (-1), 68, 0, 0, (-1)), (.ireturn, 69, 0, 0, 0), (.iconst (0), 70, 0, 0, 0), (.istore 13, 71, 0, 0, 0), (.iload 13, 72, 0, 0, 0), (.aload_n 0, 73, 0, 0, 0), (.getfield 48, 74, 1, 0, 8), (.if_icmp .ge (55), 75, 105, 0, 0), (.aload_n 0, 76, 0, 0, 0), (.getfield 34, 77, 1, 2, 6), (.iload 13, 78, 0, 0, 0), (.iaload, 79, 0, 0, 0), (.iload 12, 80, 0, 0, 0), (.if_icmp .lt (14), 81, 89, 0, 0), (.aload_n 0, 82, 0, 0, 0), (.getfield 34, 83, 1, 2, 6), (.iload 13, 84, 0, 0, 0), (.dup2, 85, 0, 0, 0), (.iaload, 86, 0, 0, 0), (.iconst (1), 87, 0, 0, 1), (.iadd, 88, 0, 0, 0), (.iastore, 89, 0, 0, 0), (.aload_n 0, 90, 0, 0, 0), (.getfield 37, 91, 1, 2, 7), (.iload 13, 92, 0, 0, 0), (.iaload, 93, 0, 0, 0), (.iload 12, 94, 0, 0, 0), (.if_icmp .lt (14), 95, 103, 0, 0), (.aload_n 0, 96, 0, 0, 0), (.getfield 37, 97, 1, 2, 7), (.iload 13, 98, 0, 0, 0), (.dup2, 99, 0, 0, 0), (.iaload, 100, 0, 0, 0), (.iconst (1), 101, 0, 0, 1), (.iadd, 102, 0, 0, 0), (.iastore, 103, 0, 0, 0), (.iinc 13 (1), 104, 0, 0, 1), (.goto (-58), 105, 71, 0, 0), (.iload 12, 106, 0, 0, 0), (.ireturn, 107, 0, 0, 0)]
def p_Curve_cornerOn : List Nat := [0, 1, 2, 5, 6, 8, 9, 10, 13, 14, 16, 17, 18, 21, 22, 24, 25, 28, 30, 32, 33, 35, 36, 38, 39, 40, 41, 43, 45, 46, 48, 49, 51, 52, 53, 54, 56, 58, 59, 61, 63, 64, 65, 67, 68, 71, 72, 75, 76, 79, 82, 84, 85, 88, 90, 91, 94, 97, 100, 102, 103, 104, 107, 109, 110, 113, 116, 119, 120, 121, 122, 124, 126, 127, 130, 133, 134, 137, 139, 140, 142, 145, 146, 149, 151, 152, 153, 154, 155, 156, 157, 160, 162, 163, 165, 168, 169, 172, 174, 175, 176, 177, 178, 179, 182, 185, 187, 188]
def c_Curve_acrossI : List PI := [(.aload_n 0, 1, 0, 0, 0), (.getfield 40, 2, 1, 2, 0), (.getfield 72, 3, 3, 2, 0), (.aload_n 0, 4, 0, 0, 0), (.getfield 31, 5, 1, 2, 5), (.iload_n 1, 6, 0, 0, 0), (.iaload, 7, 0, 0, 0), (.iaload, 8, 0, 0, 0), (.aload_n 0, 9, 0, 0, 0), (.getfield 40, 10, 1, 2, 0), (.getfield 72, 11, 3, 2, 0), (.aload_n 0, 12, 0, 0, 0), (.getfield 27, 13, 1, 2, 4), (.iload_n 1, 14, 0, 0, 0), (.iaload, 15, 0, 0, 0), (.iaload, 16, 0, 0, 0), (.isub, 17, 0, 0, 0), (.ireturn, 18, 0, 0, 0)]
def p_Curve_acrossI : List Nat := [0, 1, 4, 7, 8, 11, 12, 13, 14, 15, 18, 21, 22, 25, 26, 27, 28, 29, 30]
def c_Curve_acrossJ : List PI := [(.aload_n 0, 1, 0, 0, 0), (.getfield 40, 2, 1, 2, 0), (.getfield 75, 3, 3, 2, 1), (.aload_n 0, 4, 0, 0, 0), (.getfield 31, 5, 1, 2, 5), (.iload_n 1, 6, 0, 0, 0), (.iaload, 7, 0, 0, 0), (.iaload, 8, 0, 0, 0), (.aload_n 0, 9, 0, 0, 0), (.getfield 40, 10, 1, 2, 0), (.getfield 75, 11, 3, 2, 1), (.aload_n 0, 12, 0, 0, 0), (.getfield 27, 13, 1, 2, 4), (.iload_n 1, 14, 0, 0, 0), (.iaload, 15, 0, 0, 0), (.iaload, 16, 0, 0, 0), (.isub, 17, 0, 0, 0), (.ireturn, 18, 0, 0, 0)]
def p_Curve_acrossJ : List Nat := [0, 1, 4, 7, 8, 11, 12, 13, 14, 15, 18, 21, 22, 25, 26, 27, 28, 29, 30]
def c_Curve_level : List PI := [(.aload_n 0, 1, 0, 0, 0), (.getfield 40, 2, 1, 2, 0), (.getfield 78, 3, 3, 2, 2), (.aload_n 0, 4, 0, 0, 0), (.getfield 27, 5, 1, 2, 4), (.iload_n 1, 6, 0, 0, 0), (.iaload, 7, 0, 0, 0), (.iaload, 8, 0, 0, 0), (.aload_n 0, 9, 0, 0, 0), (.getfield 40, 10, 1, 2, 0), (.getfield 78, 11, 3, 2, 2), (.aload_n 0, 12, 0, 0, 0), (.getfield 31, 13, 1, 2, 5), (.iload_n 1, 14, 0, 0, 0), (.iaload, 15, 0, 0, 0), (.iaload, 16, 0, 0, 0), (.isub, 17, 0, 0, 0), (.ireturn, 18, 0, 0, 0)]
def p_Curve_level : List Nat := [0, 1, 4, 7, 8, 11, 12, 13, 14, 15, 18, 21, 22, 25, 26, 27, 28, 29, 30]
def c_Curve_isSmooth : List PI := [(.iconst (0), 1, 0, 0, 0), (.istore_n 1, 2, 0, 0, 0), (.iload_n 1, 3, 0, 0, 0), (.aload_n 0, 4, 0, 0, 0), (.getfield 48, 5, 1, 0, 8), (.if_icmp .ge (20), 6, 15, 0, 0), (.aload_n 0, 7, 0, 0, 0), (.iload_n 1, 8, 0, 0, 0), (.invokevirtual 134, 9, 19, 2, 0), (.iconst (1), 10, 0, 0, 1), (.if_icmp .eq (5), 11, 13, 0, 0), (.iconst (0), 12, 0, 0, 0), (.ireturn, 13, 1, 0, 0), (.iinc 1 (1), 14, 0, 0, 1), (.goto (-22), 15, 2, 0, 0), (.iconst (0), 16, 0, 0, 0), (.istore_n 1, 17, 0, 0, 0), (.iload_n 1, 18, 0, 0, 0), (.aload_n 0, 19, 0, 0, 0), (.getfield 23, 20, 1, 2, 3), (.getfield 52, 21, 5, 0, 5), (.if_icmp .ge (20), 22, 31, 0, 0), (.aload_n 0, 23, 0, 0, 0), (.iload_n 1, 24, 0, 0, 0), (.invokevirtual 167, 25, 20, 2, 0), (.iconst (1), 26, 0, 0, 1), (.if_icmp .eq (5), 27, 29, 0, 0), (.iconst (0), 28, 0, 0, 0), (.ireturn, 29, 1, 0, 0), (.iinc 1 (1), 30, 0, 0, 1), (.goto (-25), 31, 17, 0, 0), (.iconst (1), 32, 0, 0, 1), (.ireturn, 33, 1, 0, 0)]
def p_Curve_isSmooth : List Nat := [0, 1, 2, 3, 4, 7, 10, 11, 12, 15, 16, 19, 20, 21, 24, 27, 28, 29, 30, 31, 34, 37, 40, 41, 42, 45, 46, 49, 50, 51, 54, 57, 58, 59]
def c_Curve_weight : List PI := [(.aload_n 0, 1, 0, 0, 0), (.iload_n 1, 2, 0, 0, 0), (.invokevirtual 105, 3, 15, 2, 0), (.i2l, 4, 0, 0, 0), (.aload_n 0, 5, 0, 0, 0), (.iload_n 1, 6, 0, 0, 0), (.invokevirtual 109, 7, 16, 2, 0), (.i2l, 8, 0, 0, 0), (.invokestatic 130, 9, 94, 2, 2), (.l2i, 10, 0, 0, 0), (.ireturn, 11, 0, 0, 0)]
def p_Curve_weight : List Nat := [0, 1, 2, 5, 6, 7, 8, 11, 12, 15, 16, 17]
def c_Curve_areaAt : List PI := [(.aload_n 0, 1, 0, 0, 0), (.getfield 23, 2, 1, 2, 3), (.iload_n 1, 3, 0, 0, 0), (.aload_n 0, 4, 0, 0, 0), (.getfield 12, 5, 1, 2, 2), (.invokevirtual 140, 6, 62, 3, 0), (.aload_n 0, 7, 0, 0, 0), (.getfield 40, 8, 1, 2, 0), (.aload_n 0, 9, 0, 0, 0), (.getfield 12, 10, 1, 2, 2), (.invokevirtual 147, 11, 48, 2, 0), (.lstore_n 2, 12, 0, 0, 0), (.aload_n 0, 13, 0, 0, 0), (.getfield 44, 14, 1, 2, 1), (.invokevirtual 151, 15, 65, 1, 0), (.iconst (0), 16, 0, 0, 0), (.istore 4, 17, 0, 0, 0), (.iload 4, 18, 0, 0, 0), (.aload_n 0, 19, 0, 0, 0), (.getfield 40, 20, 1, 2, 0), (.getfield 55, 21, 3, 0, 4), (.if_icmp .ge (54), 22, 46, 0, 0), (.aload_n 0, 23, 0, 0, 0), (.getfield 40, 24, 1, 2, 0), (.iload 4, 25, 0, 0, 0), (.aload_n 0, 26, 0, 0, 0), (.getfield 12, 27, 1, 2, 2), (.invokevirtual 156, 28, 49, 3, 0), (.lload_n 2, 29, 0, 0, 0), (.lcmp, 30, 0, 0, 0), (.ifCond .ne (30), 31, 44, 0, 0), (.aload_n 0, 32, 0, 0, 0), (.getfield 44, 33, 1, 2, 1), (.aload_n 0, 34, 0, 0, 0), (.getfield 40, 35, 1, 2, 0), (.getfield 72, 36, 3, 2, 0), (.iload 4, 37, 0, 0, 0), (.iaload, 38, 0, 0, 0), (.aload_n 0, 39, 0, 0, 0), (.getfield 40, 40, 1, 2, 0), (.getfield 75, 41, 3, 2, 1), (.iload 4, 42, 0, 0, 0), (.iaload, 43, 0, 0, 0), (.invokevirtual 160, 44, 66, 3, 0), (.iinc 4 (1), 45, 0, 0, 1), (.goto (-60), 46, 17, 0, 0), (.aload_n 0, 47, 0, 0, 0), (.getfield 44, 48, 1, 2, 1), (.invokevirtual 163, 49, 67, 1, 0), (.ireturn, 50, 0, 0, 0)]
def p_Curve_areaAt : List Nat := [0, 1, 4, 5, 6, 9, 12, 13, 16, 17, 20, 23, 24, 25, 28, 31, 32, 34, 36, 37, 40, 43, 46, 47, 50, 52, 53, 56, 59, 60, 61, 64, 65, 68, 69, 72, 75, 77, 78, 79, 82, 85, 87, 88, 91, 94, 97, 98, 101, 104, 105]
def c_Curve_countIdle : List PI := [(.iconst (0), 1, 0, 0, 0), (.istore_n 1, 2, 0, 0, 0), (.iconst (0), 3, 0, 0, 0), (.istore_n 2, 4, 0, 0, 0), (.iload_n 2, 5, 0, 0, 0), (.aload_n 0, 6, 0, 0, 0), (.getfield 40, 7, 1, 2, 0), (.getfield 55, 8, 3, 0, 4), (.if_icmp .ge (20), 9, 16, 0, 0), (.aload_n 0, 10, 0, 0, 0), (.iload_n 2, 11, 0, 0, 0), (.invokevirtual 170, 12, 22, 2, 0), (.ifCond .eq (6), 13, 14, 0, 0), (.iinc 1 (1), 14, 0, 0, 1), (.iinc 2 (1), 15, 0, 0, 1), (.goto (-25), 16, 4, 0, 0), (.iload_n 1, 17, 0, 0, 0), (.ireturn, 18, 0, 0, 0)]
def p_Curve_countIdle : List Nat := [0, 1, 2, 3, 4, 5, 6, 9, 12, 15, 16, 17, 20, 23, 26, 29, 32, 33, 34]
def c_Curve_isIdle : List PI := [(.aload_n 0, 1, 0, 0, 0), (.getfield 40, 2, 1, 2, 0), (.getfield 55, 3, 3, 0, 4), (.iconst (2), 4, 0, 0, 2), (.if_icmp .ge (5), 5, 7, 0, 0), (.iconst (0), 6, 0, 0, 0), (.ireturn, 7, 1, 0, 0), (.iconst (0), 8, 0, 0, 0), (.istore_n 2, 9, 0, 0, 0), (.iload_n 2, 10, 0, 0, 0), (.aload_n 0, 11, 0, 0, 0), (.getfield 48, 12, 1, 0, 8), (.if_icmp .ge (31), 13, 29, 0, 0), (.aload_n 0, 14, 0, 0, 0), (.getfield 27, 15, 1, 2, 4), (.iload_n 2, 16, 0, 0, 0), (.iaload, 17, 0, 0, 0), (.iload_n 1, 18, 0, 0, 0), (.if_icmp .eq (13), 19, 25, 0, 0), (.aload_n 0, 20, 0, 0, 0), (.getfield 31, 21, 1, 2, 5), (.iload_n 2, 22, 0, 0, 0), (.iaload, 23, 0, 0, 0), (.iload_n 1, 24, 0, 0, 0), (.if_icmp .ne (5), 25, 27, 0, 0), (.iconst (0), 26, 0, 0, 0), (.ireturn, 27, 1, 0, 0), (.iinc 2 (1), 28, 0, 0, 1), (.goto (-33), 29, 9, 0, 0), (.iconst (1), 30, 0, 0, 1), (.ireturn, 31, 1, 0, 0)]
def p_Curve_isIdle : List Nat := [0, 1, 4, 7, 8, 11, 12, 13, 14, 15, 16, 17, 20, 23, 24, 27, 28, 29, 30, 33, 34, 37, 38, 39, 40, 43, 44, 45, 48, 51, 52, 53]
def c_Curve_countKind : List PI := [(.iconst (0), 1, 0, 0, 0), (.istore_n 2, 2, 0, 0, 0), (.iconst (0), 3, 0, 0, 0), (.istore_n 3, 4, 0, 0, 0), (.iload_n 3, 5, 0, 0, 0), (.aload_n 0, 6, 0, 0, 0), (.getfield 48, 7, 1, 0, 8), (.if_icmp .ge (21), 8, 16, 0, 0), (.aload_n 0, 9, 0, 0, 0), (.iload_n 3, 10, 0, 0, 0), (.invokevirtual 137, 11, 24, 2, 0), (.iload_n 1, 12, 0, 0, 0), (.if_icmp .ne (6), 13, 14, 0, 0), (.iinc 2 (1), 14, 0, 0, 1), (.iinc 3 (1), 15, 0, 0, 1), (.goto (-23), 16, 4, 0, 0), (.iload_n 2, 17, 0, 0, 0), (.ireturn, 18, 0, 0, 0)]
def p_Curve_countKind : List Nat := [0, 1, 2, 3, 4, 5, 6, 9, 12, 13, 14, 17, 18, 21, 24, 27, 30, 31, 32]
def c_Curve_kindOf : List PI := [(.aload_n 0, 1, 0, 0, 0), (.getfield 34, 2, 1, 2, 6), (.iload_n 1, 3, 0, 0, 0), (.iaload, 4, 0, 0, 0), (.iconst (-1), 5, 0, 0, (-1)), (.if_icmp .eq (15), 6, 14, 0, 0), (.aload_n 0, 7, 0, 0, 0), (.getfield 37, 8, 1, 2, 7), (.iload_n 1, 9, 0, 0, 0), (.iaload, 10, 0, 0, 0), (.iconst (-1), 11, 0, 0, (-1)), (.if_icmp .eq (5), 12, 14, 0, 0), (.iconst (1), 13, 0, 0, 1), (.ireturn, 14, 0, 0, 0), (.aload_n 0, 15, 0, 0, 0), (.getfield 34, 16, 1, 2, 6), (.iload_n 1, 17, 0, 0, 0), (.iaload, 18, 0, 0, 0), (.iconst (-1), 19, 0, 0, (-1)), (.if_icmp .ne (13), 20, 26, 0, 0), (.aload_n 0, 21, 0, 0, 0), (.getfield 37, 22, 1, 2, 7), (.iload_n 1, 23, 0, 0, 0), (.iaload, 24, 0, 0, 0), (.iconst (-1), 25, 0, 0, (-1)), (.if_icmp .eq (7), 26, 28, 0, 0), (.iconst (2), 27, 0, 0, 2), (.goto (4), 28, 29, 0, 0), (.iconst (3), 29, 0, 0, 3), (.ireturn, 30, 0, 0, 0)]
def p_Curve_kindOf : List Nat := [0, 1, 4, 5, 6, 7, 10, 11, 14, 15, 16, 17, 20, 21, 22, 23, 26, 27, 28, 29, 32, 33, 36, 37, 38, 39, 42, 43, 46, 47, 48]
def c_Curve_standsIn : List PI := [(.iconst (0), 1, 0, 0, 0), (.istore_n 2, 2, 0, 0, 0), (.iload_n 2, 3, 0, 0, 0), (.aload_n 0, 4, 0, 0, 0), (.getfield 40, 5, 1, 2, 0), (.getfield 55, 6, 3, 0, 4), (.if_icmp .ge (79), 7, 47, 0, 0), (.aload_n 0, 8, 0, 0, 0), (.iload_n 2, 9, 0, 0, 0), (.invokevirtual 170, 10, 22, 2, 0), (.ifCond .ne (65), 11, 45, 0, 0), (.aload_n 1, 12, 0, 0, 0), (.getfield 40, 13, 1, 2, 0), (.aload_n 0, 14, 0, 0, 0), (.getfield 40, 15, 1, 2, 0), (.getfield 72, 16, 3, 2, 0), (.iload_n 2, 17, 0, 0, 0), (.iaload, 18, 0, 0, 0), (.aload_n 0, 19, 0, 0, 0), (.getfield 40, 20, 1, 2, 0), (.getfield 75, 21, 3, 2, 1), (.iload_n 2, 22, 0, 0, 0), (.iaload, 23, 0, 0, 0), (.invokevirtual 174, 24, 44, 3, 0), (.istore_n 3, 25, 0, 0, 0), (.iload_n 3, 26, 0, 0, 0), (.iconst (-1), 27, 0, 0, (-1)), (.if_icmp .eq (32), 28, 43, 0, 0), (.aload_n 1, 29, 0, 0, 0), (.getfield 40, 30, 1, 2, 0), (.getfield 78, 31, 3, 2, 2), (.iload_n 3, 32, 0, 0, 0), (.iaload, 33, 0, 0, 0), (.aload_n 0, 34, 0, 0, 0), (.getfield 40, 35, 1, 2, 0), (.getfield 78, 36, 3, 2, 2), (.iload_n 2, 37, 0, 0, 0), (.iaload, 38, 0, 0, 0), (.if_icmp .ne (11), 39, 43, 0, 0), (.aload_n 1, 40, 0, 0, 0), (.iload_n 3, 41, 0, 0, 0), (.invokevirtual 170, 42, 22, 2, 0), (.ifCond .eq (5), 43, 45, 0, 0), (.iconst (0), 44, 0, 0, 0), (.ireturn, 45, 1, 0, 0), (.iinc 2 (1), 46, 0, 0, 1), (.goto (-84), 47, 2, 0, 0), (.iconst (1), 48, 0, 0, 1), (.ireturn, 49, 1, 0, 0)]
def p_Curve_standsIn : List Nat := [0, 1, 2, 3, 4, 7, 10, 13, 14, 15, 18, 21, 22, 25, 26, 29, 32, 33, 34, 35, 38, 41, 42, 43, 46, 47, 48, 49, 52, 53, 56, 59, 60, 61, 62, 65, 68, 69, 70, 73, 74, 75, 78, 81, 82, 83, 86, 89, 90, 91]
def c_Curve_directionX : List PI := [(.aload_n 0, 1, 0, 0, 0), (.iload_n 1, 2, 0, 0, 0), (.invokevirtual 109, 3, 16, 2, 0), (.ineg, 4, 0, 0, 0), (.aload_n 0, 5, 0, 0, 0), (.iload_n 1, 6, 0, 0, 0), (.invokevirtual 134, 7, 19, 2, 0), (.idiv, 8, 0, 0, 0), (.ireturn, 9, 0, 0, 0)]
def p_Curve_directionX : List Nat := [0, 1, 2, 5, 6, 7, 8, 11, 12, 13]
def c_Curve_directionY : List PI := [(.aload_n 0, 1, 0, 0, 0), (.iload_n 1, 2, 0, 0, 0), (.invokevirtual 105, 3, 15, 2, 0), (.aload_n 0, 4, 0, 0, 0), (.iload_n 1, 5, 0, 0, 0), (.invokevirtual 134, 6, 19, 2, 0), (.idiv, 7, 0, 0, 0), (.ireturn, 8, 0, 0, 0)]
def p_Curve_directionY : List Nat := [0, 1, 2, 5, 6, 7, 10, 11, 12]
def c_Curve_countLeastAt : List PI := [(.aload_n 0, 1, 0, 0, 0), (.getfield 23, 2, 1, 2, 3), (.iload_n 1, 3, 0, 0, 0), (.aload_n 0, 4, 0, 0, 0), (.getfield 12, 5, 1, 2, 2), (.invokevirtual 140, 6, 62, 3, 0), (.aload_n 0, 7, 0, 0, 0), (.getfield 40, 8, 1, 2, 0), (.aload_n 0, 9, 0, 0, 0), (.getfield 12, 10, 1, 2, 2), (.invokevirtual 144, 11, 50, 2, 0), (.ireturn, 12, 0, 0, 0)]
def p_Curve_countLeastAt : List Nat := [0, 1, 4, 5, 6, 9, 12, 13, 16, 17, 20, 23, 24]
def c_Curve_countEdgesAt : List PI := [(.iconst (0), 1, 0, 0, 0), (.istore_n 2, 2, 0, 0, 0), (.iconst (0), 3, 0, 0, 0), (.istore_n 3, 4, 0, 0, 0), (.iload_n 3, 5, 0, 0, 0), (.aload_n 0, 6, 0, 0, 0), (.getfield 48, 7, 1, 0, 8), (.if_icmp .ge (32), 8, 23, 0, 0), (.aload_n 0, 9, 0, 0, 0), (.getfield 34, 10, 1, 2, 6), (.iload_n 3, 11, 0, 0, 0), (.iaload, 12, 0, 0, 0), (.iload_n 1, 13, 0, 0, 0), (.if_icmp .eq (13), 14, 20, 0, 0), (.aload_n 0, 15, 0, 0, 0), (.getfield 37, 16, 1, 2, 7), (.iload_n 3, 17, 0, 0, 0), (.iaload, 18, 0, 0, 0), (.iload_n 1, 19, 0, 0, 0), (.if_icmp .ne (6), 20, 21, 0, 0), (.iinc 2 (1), 21, 0, 0, 1), (.iinc 3 (1), 22, 0, 0, 1), (.goto (-34), 23, 4, 0, 0), (.iload_n 2, 24, 0, 0, 0), (.ireturn, 25, 0, 0, 0)]
def p_Curve_countEdgesAt : List Nat := [0, 1, 2, 3, 4, 5, 6, 9, 12, 13, 16, 17, 18, 19, 22, 23, 26, 27, 28, 29, 32, 35, 38, 41, 42, 43]
def c_Curve_countRows : List PI := [(.iconst (4), 1, 0, 0, 4), (.aload_n 0, 2, 0, 0, 0), (.getfield 48, 3, 1, 0, 8), (.aload_n 0, 4, 0, 0, 0), (.getfield 23, 5, 1, 2, 3), (.getfield 52, 6, 5, 0, 5), (.iadd, 7, 0, 0, 0), (.imul, 8, 0, 0, 0), (.ireturn, 9, 0, 0, 0)]
def p_Curve_countRows : List Nat := [0, 1, 2, 5, 6, 9, 12, 13, 14, 15]
def c_Curve_proofNumber : List PI := [(.iload_n 1, 1, 0, 0, 0), (.iconst (4), 2, 0, 0, 4), (.idiv, 3, 0, 0, 0), (.istore_n 2, 4, 0, 0, 0), (.iload_n 2, 5, 0, 0, 0), (.aload_n 0, 6, 0, 0, 0), (.getfield 48, 7, 1, 0, 8), (.if_icmp .lt (20), 8, 19, 0, 0), (.aload_n 0, 9, 0, 0, 0), (.getfield 23, 10, 1, 2, 3), (.iload_n 2, 11, 0, 0, 0), (.aload_n 0, 12, 0, 0, 0), (.getfield 48, 13, 1, 0, 8), (.isub, 14, 0, 0, 0), (.iload_n 1, 15, 0, 0, 0), (.iconst (4), 16, 0, 0, 4), (.irem, 17, 0, 0, 0), (.invokevirtual 178, 18, 63, 3, 0), (.lreturn, 19, 0, 0, 0), (.iload_n 1, 20, 0, 0, 0), (.iconst (4), 21, 0, 0, 4), (.irem, 22, 0, 0, 0), (.tableswitch (49) (0) (2) #[(28), (35), (42)], 23, 0, 0, 0), (.aload_n 0, 24, 0, 0, 0), (.iload_n 2, 25, 0, 0, 0), (.invokevirtual 182, 26, 26, 2, 0), (.i2l, 27, 0, 0, 0), (.lreturn, 28, 0, 0, 0), (.aload_n 0, 29, 0, 0, 0), (.iload_n 2, 30, 0, 0, 0), (.invokevirtual 185, 31, 27, 2, 0), (.i2l, 32, 0, 0, 0), (.lreturn, 33, 0, 0, 0), (.aload_n 0, 34, 0, 0, 0), (.iload_n 2, 35, 0, 0, 0), (.invokevirtual 134, 36, 19, 2, 0), (.i2l, 37, 0, 0, 0), (.lreturn, 38, 0, 0, 0), (.aload_n 0, 39, 0, 0, 0), (.iload_n 2, 40, 0, 0, 0), (.invokevirtual 137, 41, 24, 2, 0), (.i2l, 42, 0, 0, 0), (.lreturn, 43, 0, 0, 0)]
def p_Curve_proofNumber : List Nat := [0, 1, 2, 3, 4, 5, 6, 9, 12, 13, 16, 17, 18, 21, 22, 23, 24, 25, 28, 29, 30, 31, 32, 60, 61, 62, 65, 66, 67, 68, 69, 72, 73, 74, 75, 76, 79, 80, 81, 82, 83, 86, 87, 88]
def c_Draft_init : List PI := [(.aload_n 0, 1, 0, 0, 0), (.invokespecial 3, 2, 0, 0, 5), (.aload_n 0, 3, 0, 0, 0), (.bipush (81), 4, 0, 0, 81), (.newarray .int, 5, 12, 0, 0), (.putfield 9, 6, 2, 12, 0), (.return_, 7, 0, 0, 0)]
def p_Draft_init : List Nat := [0, 1, 4, 5, 7, 9, 12, 13]
def c_Draft_load : List PI := [(.aload_n 0, 1, 0, 0, 0), (.invokevirtual 28, 2, 34, 1, 0), (.iconst (0), 3, 0, 0, 0), (.istore_n 2, 4, 0, 0, 0), (.iload_n 2, 5, 0, 0, 0), (.aload_n 1, 6, 0, 0, 0), (.getfield 31, 7, 3, 0, 4), (.if_icmp .ge (31), 8, 24, 0, 0), (.aload_n 0, 9, 0, 0, 0), (.aload_n 1, 10, 0, 0, 0), (.getfield 37, 11, 3, 2, 0), (.iload_n 2, 12, 0, 0, 0), (.iaload, 13, 0, 0, 0), (.aload_n 1, 14, 0, 0, 0), (.getfield 40, 15, 3, 2, 1), (.iload_n 2, 16, 0, 0, 0), (.iaload, 17, 0, 0, 0), (.aload_n 1, 18, 0, 0, 0), (.getfield 43, 19, 3, 2, 2), (.iload_n 2, 20, 0, 0, 0), (.iaload, 21, 0, 0, 0), (.invokevirtual 46, 22, 35, 4, 0), (.iinc 2 (1), 23, 0, 0, 1), (.goto (-33), 24, 4, 0, 0), (.return_, 25, 0, 0, 0)]
def p_Draft_load : List Nat := [0, 1, 4, 5, 6, 7, 8, 11, 14, 15, 16, 19, 20, 21, 22, 25, 26, 27, 28, 31, 32, 33, 36, 39, 42, 43]
def c_Draft_clear : List PI := [(.aload_n 0, 1, 0, 0, 0), (.getfield 9, 2, 2, 2, 0), (.ldc 15, 3, 0, 0, 1000000), (.invokestatic 16, 4, 212, 2, 1), (.return_, 5, 0, 0, 0)]
def p_Draft_clear : List Nat := [0, 1, 4, 6, 9, 10]
def c_Draft_putLeast : List PI := [(.iload_n 1, 1, 0, 0, 0), (.bipush (9), 2, 0, 0, 9), (.imul, 3, 0, 0, 0), (.iload_n 2, 4, 0, 0, 0), (.iadd, 5, 0, 0, 0), (.istore 4, 6, 0, 0, 0), (.aload_n 0, 7, 0, 0, 0), (.getfield 9, 8, 2, 2, 0), (.iload 4, 9, 0, 0, 0), (.aload_n 0, 10, 0, 0, 0), (.getfield 9, 11, 2, 2, 0), (.iload 4, 12, 0, 0, 0), (.iaload, 13, 0, 0, 0), (.iload_n 3, 14, 0, 0, 0), (.invokestatic 22, 15, 209, 2, 1), (.iastore, 16, 0, 0, 0), (.return_, 17, 0, 0, 0)]
def p_Draft_putLeast : List Nat := [0, 1, 3, 4, 5, 6, 8, 9, 12, 14, 15, 18, 20, 21, 22, 25, 26, 27]
def c_Draft_addUp : List PI := [(.aload_n 0, 1, 0, 0, 0), (.invokevirtual 28, 2, 34, 1, 0), (.iconst (0), 3, 0, 0, 0), (.istore_n 3, 4, 0, 0, 0), (.iload_n 3, 5, 0, 0, 0), (.bipush (81), 6, 0, 0, 81), (.if_icmp .ge (34), 7, 24, 0, 0), (.aload_n 1, 8, 0, 0, 0), (.iload_n 3, 9, 0, 0, 0), (.invokevirtual 50, 10, 37, 2, 0), (.ifCond .eq (20), 11, 22, 0, 0), (.aload_n 0, 12, 0, 0, 0), (.iload_n 3, 13, 0, 0, 0), (.aload_n 1, 14, 0, 0, 0), (.getfield 9, 15, 2, 2, 0), (.iload_n 3, 16, 0, 0, 0), (.iaload, 17, 0, 0, 0), (.aload_n 2, 18, 0, 0, 0), (.invokevirtual 54, 19, 38, 4, 0), (.ifCond .ne (5), 20, 22, 0, 0), (.iconst (0), 21, 0, 0, 0), (.ireturn, 22, 1, 0, 0), (.iinc 3 (1), 23, 0, 0, 1), (.goto (-34), 24, 4, 0, 0), (.iconst (1), 25, 0, 0, 1), (.ireturn, 26, 1, 0, 0)]
def p_Draft_addUp : List Nat := [0, 1, 4, 5, 6, 7, 9, 12, 13, 14, 17, 20, 21, 22, 23, 26, 27, 28, 29, 32, 35, 36, 37, 40, 43, 44, 45]
def c_Draft_has : List PI := [(.aload_n 0, 1, 0, 0, 0), (.getfield 9, 2, 2, 2, 0), (.iload_n 1, 3, 0, 0, 0), (.iaload, 4, 0, 0, 0), (.ldc 15, 5, 0, 0, 1000000), (.if_icmp .eq (7), 6, 8, 0, 0), (.iconst (1), 7, 0, 0, 1), (.goto (4), 8, 9, 0, 0), (.iconst (0), 9, 0, 0, 0), (.ireturn, 10, 1, 0, 0)]
def p_Draft_has : List Nat := [0, 1, 4, 5, 6, 8, 11, 12, 15, 16, 17]
def c_Draft_addTerm : List PI := [(.iconst (0), 1, 0, 0, 0), (.istore 4, 2, 0, 0, 0), (.iload 4, 3, 0, 0, 0), (.aload_n 3, 4, 0, 0, 0), (.getfield 31, 5, 3, 0, 4), (.if_icmp .ge (70), 6, 44, 0, 0), (.iload_n 1, 7, 0, 0, 0), (.bipush (9), 8, 0, 0, 9), (.idiv, 9, 0, 0, 0), (.aload_n 3, 10, 0, 0, 0), (.getfield 37, 11, 3, 2, 0), (.iload 4, 12, 0, 0, 0), (.iaload, 13, 0, 0, 0), (.iadd, 14, 0, 0, 0), (.istore 5, 15, 0, 0, 0), (.iload_n 1, 16, 0, 0, 0), (.bipush (9), 17, 0, 0, 9), (.irem, 18, 0, 0, 0), (.aload_n 3, 19, 0, 0, 0), (.getfield 40, 20, 3, 2, 1), (.iload 4, 21, 0, 0, 0), (.iaload, 22, 0, 0, 0), (.iadd, 23, 0, 0, 0), (.istore 6, 24, 0, 0, 0), (.iload 5, 25, 0, 0, 0), (.bipush (8), 26, 0, 0, 8), (.if_icmp .gt (10), 27, 30, 0, 0), (.iload 6, 28, 0, 0, 0), (.bipush (8), 29, 0, 0, 8), (.if_icmp .le (5), 30, 32, 0, 0), (.iconst (0), 31, 0, 0, 0), (.ireturn, 32, 1, 0, 0), (.aload_n 0, 33, 0, 0, 0), (.iload 5, 34, 0, 0, 0), (.iload 6, 35, 0, 0, 0), (.iload_n 2, 36, 0, 0, 0), (.aload_n 3, 37, 0, 0, 0), (.getfield 43, 38, 3, 2, 2), (.iload 4, 39, 0, 0, 0), (.iaload, 40, 0, 0, 0), (.iadd, 41, 0, 0, 0), (.invokevirtual 46, 42, 35, 4, 0), (.iinc 4 (1), 43, 0, 0, 1), (.goto (-73), 44, 2, 0, 0), (.iconst (1), 45, 0, 0, 1), (.ireturn, 46, 1, 0, 0)]
def p_Draft_addTerm : List Nat := [0, 1, 3, 5, 6, 9, 12, 13, 15, 16, 17, 20, 22, 23, 24, 26, 27, 29, 30, 31, 34, 36, 37, 38, 40, 42, 44, 47, 49, 51, 54, 55, 56, 57, 59, 61, 62, 63, 66, 68, 69, 70, 73, 76, 79, 80, 81]
def c_Draft_fits : List PI := [(.iconst (0), 1, 0, 0, 0), (.istore_n 1, 2, 0, 0, 0), (.iconst (0), 3, 0, 0, 0), (.istore_n 2, 4, 0, 0, 0), (.iload_n 2, 5, 0, 0, 0), (.bipush (81), 6, 0, 0, 81), (.if_icmp .ge (40), 7, 24, 0, 0), (.aload_n 0, 8, 0, 0, 0), (.iload_n 2, 9, 0, 0, 0), (.invokevirtual 50, 10, 37, 2, 0), (.ifCond .eq (26), 11, 22, 0, 0), (.iinc 1 (1), 12, 0, 0, 1), (.aload_n 0, 13, 0, 0, 0), (.getfield 9, 14, 2, 2, 0), (.iload_n 2, 15, 0, 0, 0), (.iaload, 16, 0, 0, 0), (.sipush (-200), 17, 0, 0, (-200)), (.sipush (200), 18, 0, 0, 200), (.invokestatic 58, 19, 81, 3, 2), (.ifCond .ne (5), 20, 22, 0, 0), (.iconst (0), 21, 0, 0, 0), (.ireturn, 22, 1, 0, 0), (.iinc 2 (1), 23, 0, 0, 1), (.goto (-40), 24, 4, 0, 0), (.iload_n 1, 25, 0, 0, 0), (.bipush (40), 26, 0, 0, 40), (.if_icmp .gt (7), 27, 29, 0, 0), (.iconst (1), 28, 0, 0, 1), (.goto (4), 29, 30, 0, 0), (.iconst (0), 30, 0, 0, 0), (.ireturn, 31, 1, 0, 0)]
def p_Draft_fits : List Nat := [0, 1, 2, 3, 4, 5, 7, 10, 11, 12, 15, 18, 21, 22, 25, 26, 27, 30, 33, 36, 39, 40, 41, 44, 47, 48, 50, 53, 54, 57, 58, 59]
def c_Draft_pour : List PI := [(.iconst (0), 1, 0, 0, 0), (.istore_n 2, 2, 0, 0, 0), (.iload_n 2, 3, 0, 0, 0), (.bipush (81), 4, 0, 0, 81), (.if_icmp .ge (35), 5, 23, 0, 0), (.aload_n 0, 6, 0, 0, 0), (.iload_n 2, 7, 0, 0, 0), (.invokevirtual 50, 8, 37, 2, 0), (.ifCond .eq (21), 9, 21, 0, 0), (.aload_n 1, 10, 0, 0, 0), (.iload_n 2, 11, 0, 0, 0), (.bipush (9), 12, 0, 0, 9), (.idiv, 13, 0, 0, 0), (.iload_n 2, 14, 0, 0, 0), (.bipush (9), 15, 0, 0, 9), (.irem, 16, 0, 0, 0), (.aload_n 0, 17, 0, 0, 0), (.getfield 9, 18, 2, 2, 0), (.iload_n 2, 19, 0, 0, 0), (.iaload, 20, 0, 0, 0), (.invokevirtual 62, 21, 45, 4, 0), (.iinc 2 (1), 22, 0, 0, 1), (.goto (-35), 23, 2, 0, 0), (.return_, 24, 0, 0, 0)]
def p_Draft_pour : List Nat := [0, 1, 2, 3, 5, 8, 9, 10, 13, 16, 17, 18, 20, 21, 22, 24, 25, 26, 29, 30, 31, 34, 37, 40, 41]
def c_Draft_shift : List PI := [(.iconst (0), 1, 0, 0, 0), (.istore_n 3, 2, 0, 0, 0), (.iload_n 3, 3, 0, 0, 0), (.bipush (81), 4, 0, 0, 81), (.if_icmp .ge (39), 5, 29, 0, 0), (.aload_n 0, 6, 0, 0, 0), (.iload_n 3, 7, 0, 0, 0), (.invokevirtual 50, 8, 37, 2, 0), (.ifCond .eq (25), 9, 27, 0, 0), (.aload_n 0, 10, 0, 0, 0), (.getfield 9, 11, 2, 2, 0), (.iload_n 3, 12, 0, 0, 0), (.dup2, 13, 0, 0, 0), (.iaload, 14, 0, 0, 0), (.iload_n 3, 15, 0, 0, 0), (.bipush (9), 16, 0, 0, 9), (.idiv, 17, 0, 0, 0), (.iload_n 1, 18, 0, 0, 0), (.imul, 19, 0, 0, 0), (.iload_n 3, 20, 0, 0, 0), (.bipush (9), 21, 0, 0, 9), (.irem, 22, 0, 0, 0), (.iload_n 2, 23, 0, 0, 0), (.imul, 24, 0, 0, 0), (.iadd, 25, 0, 0, 0), (.iadd, 26, 0, 0, 0), (.iastore, 27, 0, 0, 0), (.iinc 3 (1), 28, 0, 0, 1), (.goto (-39), 29, 2, 0, 0), (.return_, 30, 0, 0, 0)]
def p_Draft_shift : List Nat := [0, 1, 2, 3, 5, 8, 9, 10, 13, 16, 17, 20, 21, 22, 23, 24, 26, 27, 28, 29, 30, 32, 33, 34, 35, 36, 37, 38, 41, 44, 45]
def c_Form_init : List PI := [(.aload_n 0, 1, 0, 0, 0), (.invokespecial 3, 2, 0, 0, 5), (.aload_n 0, 3, 0, 0, 0), (.bipush (40), 4, 0, 0, 40), (.newarray .int, 5, 12, 0, 0), (.putfield 9, 6, 3, 12, 0), (.aload_n 0, 7, 0, 0, 0), (.bipush (40), 8, 0, 0, 40), (.newarray .int, 9, 12, 0, 0), (.putfield 15, 10, 3, 12, 1), (.aload_n 0, 11, 0, 0, 0), (.bipush (40), 12, 0, 0, 40), (.newarray .int, 13, 12, 0, 0), (.putfield 18, 14, 3, 12, 2), (.return_, 15, 0, 0, 0)]
def p_Form_init : List Nat := [0, 1, 4, 5, 7, 9, 12, 13, 15, 17, 20, 21, 23, 25, 28, 29]
def c_Form_begin : List PI := [(.aload_n 0, 1, 0, 0, 0), (.iload_n 1, 2, 0, 0, 0), (.putfield 21, 3, 3, 0, 3), (.aload_n 0, 4, 0, 0, 0), (.iconst (0), 5, 0, 0, 0), (.putfield 25, 6, 3, 0, 4), (.aload_n 0, 7, 0, 0, 0), (.iconst (0), 8, 0, 0, 0), (.putfield 28, 9, 3, 3, 5), (.return_, 10, 0, 0, 0)]
def p_Form_begin : List Nat := [0, 1, 2, 5, 6, 7, 10, 11, 12, 15, 16]
def c_Form_find : List PI := [(.iconst (0), 1, 0, 0, 0), (.istore_n 3, 2, 0, 0, 0), (.iload_n 3, 3, 0, 0, 0), (.aload_n 0, 4, 0, 0, 0), (.getfield 25, 5, 3, 0, 4), (.if_icmp .ge (31), 6, 22, 0, 0), (.aload_n 0, 7, 0, 0, 0), (.getfield 9, 8, 3, 2, 0), (.iload_n 3, 9, 0, 0, 0), (.iaload, 10, 0, 0, 0), (.iload_n 1, 11, 0, 0, 0), (.if_icmp .ne (15), 12, 20, 0, 0), (.aload_n 0, 13, 0, 0, 0), (.getfield 15, 14, 3, 2, 1), (.iload_n 3, 15, 0, 0, 0), (.iaload, 16, 0, 0, 0), (.iload_n 2, 17, 0, 0, 0), (.if_icmp .ne (5), 18, 20, 0, 0), (.iload_n 3, 19, 0, 0, 0), (.ireturn, 20, 0, 0, 0), (.iinc 3 (1), 21, 0, 0, 1), (.goto (-33), 22, 2, 0, 0), (.iconst (-1), 23, 0, 0, (-1)), (.ireturn, 24, 0, 0, 0)]
def p_Form_find : List Nat := [0, 1, 2, 3, 4, 7, 10, 11, 14, 15, 16, 17, 20, 21, 24, 25, 26, 27, 30, 31, 32, 35, 38, 39, 40]
def c_Form_put : List PI := [(.iconst (0), 1, 0, 0, 0), (.istore 4, 2, 0, 0, 0), (.iload 4, 3, 0, 0, 0), (.aload_n 0, 4, 0, 0, 0), (.getfield 25, 5, 3, 0, 4), (.if_icmp .ge (42), 6, 26, 0, 0), (.aload_n 0, 7, 0, 0, 0), (.getfield 9, 8, 3, 2, 0), (.iload 4, 9, 0, 0, 0), (.iaload, 10, 0, 0, 0), (.iload_n 1, 11, 0, 0, 0), (.if_icmp .lt (25), 12, 24, 0, 0), (.aload_n 0, 13, 0, 0, 0), (.getfield 9, 14, 3, 2, 0), (.iload 4, 15, 0, 0, 0), (.iaload, 16, 0, 0, 0), (.iload_n 1, 17, 0, 0, 0), (.if_icmp .ne (20), 18, 26, 0, 0), (.aload_n 0, 19, 0, 0, 0), (.getfield 15, 20, 3, 2, 1), (.iload 4, 21, 0, 0, 0), (.iaload, 22, 0, 0, 0), (.iload_n 2, 23, 0, 0, 0), (.if_icmp .ge (9), 24, 26, 0, 0), (.iinc 4 (1), 25, 0, 0, 1), (.goto (-45), 26, 2, 0, 0), (.iload 4, 27, 0, 0, 0), (.aload_n 0, 28, 0, 0, 0), (.getfield 25, 29, 3, 0, 4), (.if_icmp .ge (29), 30, 44, 0, 0), (.aload_n 0, 31, 0, 0, 0), (.getfield 9, 32, 3, 2, 0), (.iload 4, 33, 0, 0, 0), (.iaload, 34, 0, 0, 0), (.iload_n 1, 35, 0, 0, 0), (.if_icmp .ne (18), 36, 44, 0, 0), (.aload_n 0, 37, 0, 0, 0), (.getfield 15, 38, 3, 2, 1), (.iload 4, 39, 0, 0, 0), (.iaload, 40, 0, 0, 0), (.iload_n 2, 41, 0, 0, 0), (.if_icmp .ne (7), 42, 44, 0, 0), (.iconst (1), 43, 0, 0, 1), (.goto (4), 44, 45, 0, 0), (.iconst (0), 45, 0, 0, 0), (.istore 5, 46, 0, 0, 0), (.iload 5, 47, 0, 0, 0), (.ifCond .ne (33), 48, 65, 0, 0), (.aload_n 0, 49, 0, 0, 0), (.getfield 25, 50, 3, 0, 4), (.bipush (40), 51, 0, 0, 40), (.if_icmp .lt (4), 52, 53, 0, 0), (.return_, 53, 0, 0, 0), (.aload_n 0, 54, 0, 0, 0), (.iload 4, 55, 0, 0, 0), (.iload 4, 56, 0, 0, 0), (.iconst (1), 57, 0, 0, 1), (.iadd, 58, 0, 0, 0), (.invokevirtual 32, 59, 46, 3, 0), (.aload_n 0, 60, 0, 0, 0), (.dup, 61, 0, 0, 0), (.getfield 25, 62, 3, 0, 4), (.iconst (1), 63, 0, 0, 1), (.iadd, 64, 0, 0, 0), (.putfield 25, 65, 3, 0, 4), (.aload_n 0, 66, 0, 0, 0), (.getfield 9, 67, 3, 2, 0), (.iload 4, 68, 0, 0, 0), (.iload_n 1, 69, 0, 0, 0), (.iastore, 70, 0, 0, 0), (.aload_n 0, 71, 0, 0, 0), (.getfield 15, 72, 3, 2, 1), (.iload 4, 73, 0, 0, 0), (.iload_n 2, 74, 0, 0, 0), (.iastore, 75, 0, 0, 0), (.aload_n 0, 76, 0, 0, 0), (.getfield 18, 77, 3, 2, 2), (.iload 4, 78, 0, 0, 0), (.iload_n 3, 79, 0, 0, 0), (.iastore, 80, 0, 0, 0), (.aload_n 0, 81, 0, 0, 0), (.iconst (0), 82, 0, 0, 0), (.putfield 28, 83, 3, 3, 5), (.return_, 84, 0, 0, 0)]
def p_Form_put : List Nat := [0, 1, 3, 5, 6, 9, 12, 13, 16, 18, 19, 20, 23, 24, 27, 29, 30, 31, 34, 35, 38, 40, 41, 42, 45, 48, 51, 53, 54, 57, 60, 61, 64, 66, 67, 68, 71, 72, 75, 77, 78, 79, 82, 83, 86, 87, 89, 91, 94, 95, 98, 100, 103, 104, 105, 107, 109, 110, 111, 114, 115, 116, 119, 120, 121, 124, 125, 128, 130, 131, 132, 133, 136, 138, 139, 140, 141, 144, 146, 147, 148, 149, 150, 153, 154]
def c_Form_slide : List PI := [(.aload_n 0, 1, 0, 0, 0), (.getfield 25, 2, 3, 0, 4), (.iload_n 1, 3, 0, 0, 0), (.isub, 4, 0, 0, 0), (.istore_n 3, 5, 0, 0, 0), (.iload_n 3, 6, 0, 0, 0), (.ifCond .le (61), 7, 40, 0, 0), (.iload_n 1, 8, 0, 0, 0), (.ifCond .lt (57), 9, 40, 0, 0), (.iload_n 2, 10, 0, 0, 0), (.ifCond .lt (53), 11, 40, 0, 0), (.iload_n 2, 12, 0, 0, 0), (.iload_n 3, 13, 0, 0, 0), (.iadd, 14, 0, 0, 0), (.bipush (40), 15, 0, 0, 40), (.if_icmp .gt (45), 16, 40, 0, 0), (.aload_n 0, 17, 0, 0, 0), (.getfield 9, 18, 3, 2, 0), (.iload_n 1, 19, 0, 0, 0), (.aload_n 0, 20, 0, 0, 0), (.getfield 9, 21, 3, 2, 0), (.iload_n 2, 22, 0, 0, 0), (.iload_n 3, 23, 0, 0, 0), (.invokestatic 36, 24, 0, 0, 6), (.aload_n 0, 25, 0, 0, 0), (.getfield 15, 26, 3, 2, 1), (.iload_n 1, 27, 0, 0, 0), (.aload_n 0, 28, 0, 0, 0), (.getfield 15, 29, 3, 2, 1), (.iload_n 2, 30, 0, 0, 0), (.iload_n 3, 31, 0, 0, 0), (.invokestatic 36, 32, 0, 0, 6), (.aload_n 0, 33, 0, 0, 0), (.getfield 18, 34, 3, 2, 2), (.iload_n 1, 35, 0, 0, 0), (.aload_n 0, 36, 0, 0, 0), (.getfield 18, 37, 3, 2, 2), (.iload_n 2, 38, 0, 0, 0), (.iload_n 3, 39, 0, 0, 0), (.invokestatic 36, 40, 0, 0, 6), (.return_, 41, 0, 0, 0)]
def p_Form_slide : List Nat := [0, 1, 4, 5, 6, 7, 8, 11, 12, 15, 16, 19, 20, 21, 22, 24, 27, 28, 31, 32, 33, 36, 37, 38, 41, 42, 45, 46, 47, 50, 51, 52, 55, 56, 59, 60, 61, 64, 65, 66, 69, 70]
def c_Form_remove : List PI := [(.aload_n 0, 1, 0, 0, 0), (.iload_n 1, 2, 0, 0, 0), (.iconst (1), 3, 0, 0, 1), (.iadd, 4, 0, 0, 0), (.iload_n 1, 5, 0, 0, 0), (.invokevirtual 32, 6, 46, 3, 0), (.aload_n 0, 7, 0, 0, 0), (.dup, 8, 0, 0, 0), (.getfield 25, 9, 3, 0, 4), (.iconst (1), 10, 0, 0, 1), (.isub, 11, 0, 0, 0), (.putfield 25, 12, 3, 0, 4), (.aload_n 0, 13, 0, 0, 0), (.iconst (0), 14, 0, 0, 0), (.putfield 28, 15, 3, 3, 5), (.return_, 16, 0, 0, 0)]
def p_Form_remove : List Nat := [0, 1, 2, 3, 4, 5, 8, 9, 10, 13, 14, 15, 18, 19, 20, 23, 24]
def c_Form_leastWorth : List PI := [(.aload_n 0, 1, 0, 0, 0), (.getfield 25, 2, 3, 0, 4), (.ifCond .le (12), 3, 8, 0, 0), (.aload_n 0, 4, 0, 0, 0), (.iconst (0), 5, 0, 0, 0), (.aload_n 1, 6, 0, 0, 0), (.invokevirtual 61, 7, 49, 3, 0), (.goto (4), 8, 9, 0, 0), (.lconst 0, 9, 0, 0, 0), (.lstore_n 2, 10, 0, 0, 0), (.iconst (1), 11, 0, 0, 1), (.istore 4, 12, 0, 0, 0), (.iload 4, 13, 0, 0, 0), (.aload_n 0, 14, 0, 0, 0), (.getfield 25, 15, 3, 0, 4), (.if_icmp .ge (21), 16, 25, 0, 0), (.lload_n 2, 17, 0, 0, 0), (.aload_n 0, 18, 0, 0, 0), (.iload 4, 19, 0, 0, 0), (.aload_n 1, 20, 0, 0, 0), (.invokevirtual 61, 21, 49, 3, 0), (.invokestatic 65, 22, 210, 2, 1), (.lstore_n 2, 23, 0, 0, 0), (.iinc 4 (1), 24, 0, 0, 1), (.goto (-24), 25, 12, 0, 0), (.lload_n 2, 26, 0, 0, 0), (.lreturn, 27, 0, 0, 0)]
def p_Form_leastWorth : List Nat := [0, 1, 4, 7, 8, 9, 10, 13, 16, 17, 18, 19, 21, 23, 24, 27, 30, 31, 32, 34, 35, 38, 41, 42, 45, 48, 49, 50]
def c_Form_worthOf : List PI := [(.aload_n 0, 1, 0, 0, 0), (.getfield 9, 2, 3, 2, 0), (.iload_n 1, 3, 0, 0, 0), (.iaload, 4, 0, 0, 0), (.i2l, 5, 0, 0, 0), (.aload_n 2, 6, 0, 0, 0), (.getfield 42, 7, 4, 1, 0), (.lmul, 8, 0, 0, 0), (.aload_n 2, 9, 0, 0, 0), (.getfield 48, 10, 4, 1, 3), (.lmul, 11, 0, 0, 0), (.aload_n 0, 12, 0, 0, 0), (.getfield 15, 13, 3, 2, 1), (.iload_n 1, 14, 0, 0, 0), (.iaload, 15, 0, 0, 0), (.i2l, 16, 0, 0, 0), (.aload_n 2, 17, 0, 0, 0), (.getfield 51, 18, 4, 1, 2), (.lmul, 19, 0, 0, 0), (.aload_n 2, 20, 0, 0, 0), (.getfield 54, 21, 4, 1, 1), (.lmul, 22, 0, 0, 0), (.ladd, 23, 0, 0, 0), (.aload_n 0, 24, 0, 0, 0), (.getfield 18, 25, 3, 2, 2), (.iload_n 1, 26, 0, 0, 0), (.iaload, 27, 0, 0, 0), (.i2l, 28, 0, 0, 0), (.aload_n 2, 29, 0, 0, 0), (.invokevirtual 57, 30, 54, 1, 0), (.lmul, 31, 0, 0, 0), (.ladd, 32, 0, 0, 0), (.lreturn, 33, 0, 0, 0)]
def p_Form_worthOf : List Nat := [0, 1, 4, 5, 6, 7, 8, 11, 12, 13, 16, 17, 18, 21, 22, 23, 24, 25, 28, 29, 30, 33, 34, 35, 36, 39, 40, 41, 42, 43, 46, 47, 48, 49]
def c_Form_countLeast : List PI := [(.aload_n 0, 1, 0, 0, 0), (.aload_n 1, 2, 0, 0, 0), (.invokevirtual 71, 3, 48, 2, 0), (.lstore_n 2, 4, 0, 0, 0), (.iconst (0), 5, 0, 0, 0), (.istore 4, 6, 0, 0, 0), (.iconst (0), 7, 0, 0, 0), (.istore 5, 8, 0, 0, 0), (.iload 5, 9, 0, 0, 0), (.aload_n 0, 10, 0, 0, 0), (.getfield 25, 11, 3, 0, 4), (.if_icmp .ge (24), 12, 22, 0, 0), (.aload_n 0, 13, 0, 0, 0), (.iload 5, 14, 0, 0, 0), (.aload_n 1, 15, 0, 0, 0), (.invokevirtual 61, 16, 49, 3, 0), (.lload_n 2, 17, 0, 0, 0), (.lcmp, 18, 0, 0, 0), (.ifCond .ne (6), 19, 20, 0, 0), (.iinc 4 (1), 20, 0, 0, 1), (.iinc 5 (1), 21, 0, 0, 1), (.goto (-27), 22, 8, 0, 0), (.iload 4, 23, 0, 0, 0), (.ireturn, 24, 0, 0, 0)]
def p_Form_countLeast : List Nat := [0, 1, 2, 5, 6, 7, 9, 10, 12, 14, 15, 18, 21, 22, 24, 25, 28, 29, 30, 33, 36, 39, 42, 44, 45]
def c_Form_isOfOneLetter : List PI := [(.iconst (0), 1, 0, 0, 0), (.istore_n 1, 2, 0, 0, 0), (.iload_n 1, 3, 0, 0, 0), (.aload_n 0, 4, 0, 0, 0), (.getfield 25, 5, 3, 0, 4), (.if_icmp .ge (20), 6, 15, 0, 0), (.aload_n 0, 7, 0, 0, 0), (.getfield 15, 8, 3, 2, 1), (.iload_n 1, 9, 0, 0, 0), (.iaload, 10, 0, 0, 0), (.ifCond .eq (5), 11, 13, 0, 0), (.iconst (0), 12, 0, 0, 0), (.ireturn, 13, 1, 0, 0), (.iinc 1 (1), 14, 0, 0, 1), (.goto (-22), 15, 2, 0, 0), (.iconst (1), 16, 0, 0, 1), (.ireturn, 17, 1, 0, 0)]
def p_Form_isOfOneLetter : List Nat := [0, 1, 2, 3, 4, 7, 10, 11, 14, 15, 16, 19, 20, 21, 24, 27, 28, 29]
def c_Point_init : List PI := [(.aload_n 0, 1, 0, 0, 0), (.invokespecial 1, 2, 0, 0, 5), (.aload_n 0, 3, 0, 0, 0), (.lconst 1, 4, 0, 0, 1), (.putfield 7, 5, 4, 1, 1), (.aload_n 0, 6, 0, 0, 0), (.lconst 1, 7, 0, 0, 1), (.putfield 13, 8, 4, 1, 3), (.return_, 9, 0, 0, 0)]
def p_Point_init : List Nat := [0, 1, 4, 5, 6, 9, 10, 11, 14, 15]
def c_Point_reduce : List PI := [(.lload 5, 1, 0, 0, 0), (.lconst 0, 2, 0, 0, 0), (.lcmp, 3, 0, 0, 0), (.ifCond .ge (9), 4, 6, 0, 0), (.ldc2_w 16, 5, 0, 0, (-1)), (.goto (4), 6, 7, 0, 0), (.lconst 1, 7, 0, 0, 1), (.lstore 7, 8, 0, 0, 0), (.lload 7, 9, 0, 0, 0), (.lload_n 1, 10, 0, 0, 0), (.lload 5, 11, 0, 0, 0), (.invokestatic 18, 12, 94, 2, 2), (.lmul, 13, 0, 0, 0), (.lstore 9, 14, 0, 0, 0), (.lload 7, 15, 0, 0, 0), (.lload_n 3, 16, 0, 0, 0), (.lload 5, 17, 0, 0, 0), (.invokestatic 18, 18, 94, 2, 2), (.lmul, 19, 0, 0, 0), (.lstore 11, 20, 0, 0, 0), (.aload_n 0, 21, 0, 0, 0), (.lload_n 1, 22, 0, 0, 0), (.lload 9, 23, 0, 0, 0), (.ldiv, 24, 0, 0, 0), (.putfield 24, 25, 4, 1, 0), (.aload_n 0, 26, 0, 0, 0), (.lload 5, 27, 0, 0, 0), (.lload 9, 28, 0, 0, 0), (.ldiv, 29, 0, 0, 0), (.putfield 7, 30, 4, 1, 1), (.aload_n 0, 31, 0, 0, 0), (.lload_n 3, 32, 0, 0, 0), (.lload 11, 33, 0, 0, 0), (.ldiv, 34, 0, 0, 0), (.putfield 27, 35, 4, 1, 2), (.aload_n 0, 36, 0, 0, 0), (.lload 5, 37, 0, 0, 0), (.lload 11, 38, 0, 0, 0), (.ldiv, 39, 0, 0, 0), (.putfield 13, 40, 4, 1, 3), (.return_, 41, 0, 0, 0)]
def p_Point_reduce : List Nat := [0, 2, 3, 4, 7, 10, 13, 14, 16, 18, 19, 21, 24, 25, 27, 29, 30, 32, 35, 36, 38, 39, 40, 42, 43, 46, 47, 49, 51, 52, 55, 56, 57, 59, 60, 63, 64, 66, 68, 69, 72, 73]
def c_Point_below : List PI := [(.aload_n 0, 1, 0, 0, 0), (.getfield 7, 2, 4, 1, 1), (.aload_n 0, 3, 0, 0, 0), (.getfield 13, 4, 4, 1, 3), (.lmul, 5, 0, 0, 0), (.lreturn, 6, 0, 0, 0)]
def p_Point_below : List Nat := [0, 1, 4, 5, 8, 9, 10]
def c_Point_compareAlong : List PI := [(.aload_n 0, 1, 0, 0, 0), (.iload_n 2, 2, 0, 0, 0), (.iload_n 3, 3, 0, 0, 0), (.invokevirtual 30, 4, 56, 3, 0), (.aload_n 1, 5, 0, 0, 0), (.invokevirtual 34, 6, 54, 1, 0), (.lmul, 7, 0, 0, 0), (.aload_n 1, 8, 0, 0, 0), (.iload_n 2, 9, 0, 0, 0), (.iload_n 3, 10, 0, 0, 0), (.invokevirtual 30, 11, 56, 3, 0), (.aload_n 0, 12, 0, 0, 0), (.invokevirtual 34, 13, 54, 1, 0), (.lmul, 14, 0, 0, 0), (.invokestatic 38, 15, 208, 2, 1), (.ireturn, 16, 0, 0, 0)]
def p_Point_compareAlong : List Nat := [0, 1, 2, 3, 6, 7, 10, 11, 12, 13, 14, 17, 18, 21, 22, 25, 26]
def c_Point_along : List PI := [(.iload_n 1, 1, 0, 0, 0), (.i2l, 2, 0, 0, 0), (.aload_n 0, 3, 0, 0, 0), (.getfield 27, 4, 4, 1, 2), (.lmul, 5, 0, 0, 0), (.aload_n 0, 6, 0, 0, 0), (.getfield 7, 7, 4, 1, 1), (.lmul, 8, 0, 0, 0), (.iload_n 2, 9, 0, 0, 0), (.i2l, 10, 0, 0, 0), (.aload_n 0, 11, 0, 0, 0), (.getfield 24, 12, 4, 1, 0), (.lmul, 13, 0, 0, 0), (.aload_n 0, 14, 0, 0, 0), (.getfield 13, 15, 4, 1, 3), (.lmul, 16, 0, 0, 0), (.lsub, 17, 0, 0, 0), (.lreturn, 18, 0, 0, 0)]
def p_Point_along : List Nat := [0, 1, 2, 3, 6, 7, 8, 11, 12, 13, 14, 15, 18, 19, 20, 23, 24, 25, 26]
def c_Points_init : List PI := [(.aload_n 0, 1, 0, 0, 0), (.invokespecial 1, 2, 0, 0, 5), (.aload_n 0, 3, 0, 0, 0), (.iload_n 1, 4, 0, 0, 0), (.putfield 7, 5, 5, 10, 4), (.aload_n 0, 6, 0, 0, 0), (.iload_n 1, 7, 0, 0, 0), (.newarray .long, 8, 13, 0, 0), (.putfield 13, 9, 5, 12, 0), (.aload_n 0, 10, 0, 0, 0), (.iload_n 1, 11, 0, 0, 0), (.newarray .long, 12, 13, 0, 0), (.putfield 17, 13, 5, 12, 1), (.aload_n 0, 14, 0, 0, 0), (.iload_n 1, 15, 0, 0, 0), (.newarray .long, 16, 13, 0, 0), (.putfield 20, 17, 5, 12, 2), (.aload_n 0, 18, 0, 0, 0), (.iload_n 1, 19, 0, 0, 0), (.newarray .long, 20, 13, 0, 0), (.putfield 23, 21, 5, 12, 3), (.return_, 22, 0, 0, 0)]
def p_Points_init : List Nat := [0, 1, 4, 5, 6, 9, 10, 11, 13, 16, 17, 18, 20, 23, 24, 25, 27, 30, 31, 32, 34, 37, 38]
def c_Points_seek : List PI := [(.iconst (0), 1, 0, 0, 0), (.istore_n 2, 2, 0, 0, 0), (.iload_n 2, 3, 0, 0, 0), (.aload_n 0, 4, 0, 0, 0), (.getfield 37, 5, 5, 0, 5), (.if_icmp .ge (20), 6, 15, 0, 0), (.aload_n 0, 7, 0, 0, 0), (.iload_n 2, 8, 0, 0, 0), (.aload_n 1, 9, 0, 0, 0), (.invokevirtual 40, 10, 59, 3, 0), (.lconst 0, 11, 0, 0, 0), (.lcmp, 12, 0, 0, 0), (.ifCond .ge (9), 13, 15, 0, 0), (.iinc 2 (1), 14, 0, 0, 1), (.goto (-22), 15, 2, 0, 0), (.iload_n 2, 16, 0, 0, 0), (.ireturn, 17, 0, 0, 0)]
def p_Points_seek : List Nat := [0, 1, 2, 3, 4, 7, 10, 11, 12, 13, 16, 17, 18, 21, 24, 27, 28, 29]
def c_Points_compare : List PI := [(.aload_n 0, 1, 0, 0, 0), (.getfield 13, 2, 5, 2, 0), (.iload_n 1, 3, 0, 0, 0), (.laload, 4, 0, 0, 0), (.aload_n 2, 5, 0, 0, 0), (.getfield 31, 6, 4, 1, 1), (.lmul, 7, 0, 0, 0), (.aload_n 2, 8, 0, 0, 0), (.getfield 26, 9, 4, 1, 0), (.aload_n 0, 10, 0, 0, 0), (.getfield 17, 11, 5, 2, 1), (.iload_n 1, 12, 0, 0, 0), (.laload, 13, 0, 0, 0), (.lmul, 14, 0, 0, 0), (.lsub, 15, 0, 0, 0), (.lstore_n 3, 16, 0, 0, 0), (.lload_n 3, 17, 0, 0, 0), (.lconst 0, 18, 0, 0, 0), (.lcmp, 19, 0, 0, 0), (.ifCond .eq (7), 20, 22, 0, 0), (.lload_n 3, 21, 0, 0, 0), (.goto (26), 22, 37, 0, 0), (.aload_n 0, 23, 0, 0, 0), (.getfield 20, 24, 5, 2, 2), (.iload_n 1, 25, 0, 0, 0), (.laload, 26, 0, 0, 0), (.aload_n 2, 27, 0, 0, 0), (.getfield 35, 28, 4, 1, 3), (.lmul, 29, 0, 0, 0), (.aload_n 2, 30, 0, 0, 0), (.getfield 33, 31, 4, 1, 2), (.aload_n 0, 32, 0, 0, 0), (.getfield 23, 33, 5, 2, 3), (.iload_n 1, 34, 0, 0, 0), (.laload, 35, 0, 0, 0), (.lmul, 36, 0, 0, 0), (.lsub, 37, 0, 0, 0), (.lreturn, 38, 0, 0, 0)]
def p_Points_compare : List Nat := [0, 1, 4, 5, 6, 7, 10, 11, 12, 15, 16, 19, 20, 21, 22, 23, 24, 25, 26, 27, 30, 31, 34, 35, 38, 39, 40, 41, 44, 45, 46, 49, 50, 53, 54, 55, 56, 57, 58]
def c_Points_stands : List PI := [(.iload_n 1, 1, 0, 0, 0), (.aload_n 0, 2, 0, 0, 0), (.getfield 37, 3, 5, 0, 5), (.if_icmp .ge (18), 4, 13, 0, 0), (.aload_n 0, 5, 0, 0, 0), (.iload_n 1, 6, 0, 0, 0), (.aload_n 2, 7, 0, 0, 0), (.invokevirtual 40, 8, 59, 3, 0), (.lconst 0, 9, 0, 0, 0), (.lcmp, 10, 0, 0, 0), (.ifCond .ne (7), 11, 13, 0, 0), (.iconst (1), 12, 0, 0, 1), (.goto (4), 13, 14, 0, 0), (.iconst (0), 14, 0, 0, 0), (.ireturn, 15, 1, 0, 0)]
def p_Points_stands : List Nat := [0, 1, 2, 5, 8, 9, 10, 11, 14, 15, 16, 19, 20, 23, 24, 25]
def c_Points_insert : List PI := [(.aload_n 0, 1, 0, 0, 0), (.getfield 37, 2, 5, 0, 5), (.aload_n 0, 3, 0, 0, 0), (.getfield 7, 4, 5, 0, 4), (.if_icmp .ge (11), 5, 9, 0, 0), (.iload_n 1, 6, 0, 0, 0), (.aload_n 0, 7, 0, 0, 0), (.getfield 37, 8, 5, 0, 5), (.if_icmp .le (5), 9, 11, 0, 0), (.iconst (0), 10, 0, 0, 0), (.ireturn, 11, 1, 0, 0), (.aload_n 0, 12, 0, 0, 0), (.getfield 37, 13, 5, 0, 5), (.iload_n 1, 14, 0, 0, 0), (.isub, 15, 0, 0, 0), (.istore_n 3, 16, 0, 0, 0), (.aload_n 0, 17, 0, 0, 0), (.getfield 13, 18, 5, 2, 0), (.iload_n 1, 19, 0, 0, 0), (.aload_n 0, 20, 0, 0, 0), (.getfield 13, 21, 5, 2, 0), (.iload_n 1, 22, 0, 0, 0), (.iconst (1), 23, 0, 0, 1), (.iadd, 24, 0, 0, 0), (.iload_n 3, 25, 0, 0, 0), (.invokestatic 44, 26, 0, 0, 6), (.aload_n 0, 27, 0, 0, 0), (.getfield 17, 28, 5, 2, 1), (.iload_n 1, 29, 0, 0, 0), (.aload_n 0, 30, 0, 0, 0), (.getfield 17, 31, 5, 2, 1), (.iload_n 1, 32, 0, 0, 0), (.iconst (1), 33, 0, 0, 1), (.iadd, 34, 0, 0, 0), (.iload_n 3, 35, 0, 0, 0), (.invokestatic 44, 36, 0, 0, 6), (.aload_n 0, 37, 0, 0, 0), (.getfield 20, 38, 5, 2, 2), (.iload_n 1, 39, 0, 0, 0), (.aload_n 0, 40, 0, 0, 0), (.getfield 20, 41, 5, 2, 2), (.iload_n 1, 42, 0, 0, 0), (.iconst (1), 43, 0, 0, 1), (.iadd, 44, 0, 0, 0), (.iload_n 3, 45, 0, 0, 0), (.invokestatic 44, 46, 0, 0, 6), (.aload_n 0, 47, 0, 0, 0), (.getfield 23, 48, 5, 2, 3), (.iload_n 1, 49, 0, 0, 0), (.aload_n 0, 50, 0, 0, 0), (.getfield 23, 51, 5, 2, 3), (.iload_n 1, 52, 0, 0, 0), (.iconst (1), 53, 0, 0, 1), (.iadd, 54, 0, 0, 0), (.iload_n 3, 55, 0, 0, 0), (.invokestatic 44, 56, 0, 0, 6), (.aload_n 0, 57, 0, 0, 0), (.getfield 13, 58, 5, 2, 0), (.iload_n 1, 59, 0, 0, 0), (.aload_n 2, 60, 0, 0, 0), (.getfield 26, 61, 4, 1, 0), (.lastore, 62, 0, 0, 0), (.aload_n 0, 63, 0, 0, 0), (.getfield 17, 64, 5, 2, 1), (.iload_n 1, 65, 0, 0, 0), (.aload_n 2, 66, 0, 0, 0), (.getfield 31, 67, 4, 1, 1), (.lastore, 68, 0, 0, 0), (.aload_n 0, 69, 0, 0, 0), (.getfield 20, 70, 5, 2, 2), (.iload_n 1, 71, 0, 0, 0), (.aload_n 2, 72, 0, 0, 0), (.getfield 33, 73, 4, 1, 2), (.lastore, 74, 0, 0, 0), (.aload_n 0, 75, 0, 0, 0), (.getfield 23, 76, 5, 2, 3), (.iload_n 1, 77, 0, 0, 0), (.aload_n 2, 78, 0, 0, 0), (.getfield 35, 79, 4, 1, 3), (.lastore, 80, 0, 0, 0), (.aload_n 0, 81, 0, 0, 0), (.dup, 82, 0, 0, 0), (.getfield 37, 83, 5, 0, 5), (.iconst (1), 84, 0, 0, 1), (.iadd, 85, 0, 0, 0), (.putfield 37, 86, 5, 0, 5), (.iconst (1), 87, 0, 0, 1), (.ireturn, 88, 1, 0, 0)]
def p_Points_insert : List Nat := [0, 1, 4, 5, 8, 11, 12, 13, 16, 19, 20, 21, 22, 25, 26, 27, 28, 29, 32, 33, 34, 37, 38, 39, 40, 41, 44, 45, 48, 49, 50, 53, 54, 55, 56, 57, 60, 61, 64, 65, 66, 69, 70, 71, 72, 73, 76, 77, 80, 81, 82, 85, 86, 87, 88, 89, 92, 93, 96, 97, 98, 101, 102, 103, 106, 107, 108, 111, 112, 113, 116, 117, 118, 121, 122, 123, 126, 127, 128, 131, 132, 133, 134, 137, 138, 139, 142, 143, 144]
def c_Points_fetch : List PI := [(.aload_n 2, 1, 0, 0, 0), (.aload_n 0, 2, 0, 0, 0), (.getfield 13, 3, 5, 2, 0), (.iload_n 1, 4, 0, 0, 0), (.laload, 5, 0, 0, 0), (.putfield 26, 6, 4, 1, 0), (.aload_n 2, 7, 0, 0, 0), (.aload_n 0, 8, 0, 0, 0), (.getfield 17, 9, 5, 2, 1), (.iload_n 1, 10, 0, 0, 0), (.laload, 11, 0, 0, 0), (.putfield 31, 12, 4, 1, 1), (.aload_n 2, 13, 0, 0, 0), (.aload_n 0, 14, 0, 0, 0), (.getfield 20, 15, 5, 2, 2), (.iload_n 1, 16, 0, 0, 0), (.laload, 17, 0, 0, 0), (.putfield 33, 18, 4, 1, 2), (.aload_n 2, 19, 0, 0, 0), (.aload_n 0, 20, 0, 0, 0), (.getfield 23, 21, 5, 2, 3), (.iload_n 1, 22, 0, 0, 0), (.laload, 23, 0, 0, 0), (.putfield 35, 24, 4, 1, 3), (.return_, 25, 0, 0, 0)]
def p_Points_fetch : List Nat := [0, 1, 2, 5, 6, 7, 10, 11, 12, 15, 16, 17, 20, 21, 22, 25, 26, 27, 30, 31, 32, 35, 36, 37, 40, 41]
def c_Points_part : List PI := [(.iload_n 2, 1, 0, 0, 0), (.tableswitch (48) (0) (2) #[(27), (34), (41)], 2, 1, 0, 0), (.aload_n 0, 3, 0, 0, 0), (.getfield 13, 4, 5, 2, 0), (.iload_n 1, 5, 0, 0, 0), (.laload, 6, 0, 0, 0), (.lreturn, 7, 0, 0, 0), (.aload_n 0, 8, 0, 0, 0), (.getfield 17, 9, 5, 2, 1), (.iload_n 1, 10, 0, 0, 0), (.laload, 11, 0, 0, 0), (.lreturn, 12, 0, 0, 0), (.aload_n 0, 13, 0, 0, 0), (.getfield 20, 14, 5, 2, 2), (.iload_n 1, 15, 0, 0, 0), (.laload, 16, 0, 0, 0), (.lreturn, 17, 0, 0, 0), (.aload_n 0, 18, 0, 0, 0), (.getfield 23, 19, 5, 2, 3), (.iload_n 1, 20, 0, 0, 0), (.laload, 21, 0, 0, 0), (.lreturn, 22, 0, 0, 0)]
def p_Points_part : List Nat := [0, 1, 28, 29, 32, 33, 34, 35, 36, 39, 40, 41, 42, 43, 46, 47, 48, 49, 50, 53, 54, 55, 56]
def c_Ring_init : List PI := [(.aload_n 0, 1, 0, 0, 0), (.invokespecial 3, 2, 0, 0, 5), (.aload_n 0, 3, 0, 0, 0), (.bipush (81), 4, 0, 0, 81), (.newarray .int, 5, 12, 0, 0), (.putfield 9, 6, 6, 12, 0), (.aload_n 0, 7, 0, 0, 0), (.bipush (81), 8, 0, 0, 81), (.newarray .int, 9, 12, 0, 0), (.putfield 15, 10, 6, 12, 1), (.aload_n 0, 11, 0, 0, 0), (.bipush (81), 12, 0, 0, 81), (.newarray .int, 13, 12, 0, 0), (.putfield 18, 14, 6, 12, 2), (.return_, 15, 0, 0, 0)]
def p_Ring_init : List Nat := [0, 1, 4, 5, 7, 9, 12, 13, 15, 17, 20, 21, 23, 25, 28, 29]
def c_Ring_clear : List PI := [(.aload_n 0, 1, 0, 0, 0), (.iconst (0), 2, 0, 0, 0), (.putfield 21, 3, 6, 0, 3), (.return_, 4, 0, 0, 0)]
def p_Ring_clear : List Nat := [0, 1, 2, 5, 6]
def c_Ring_add : List PI := [(.aload_n 0, 1, 0, 0, 0), (.getfield 21, 2, 6, 0, 3), (.bipush (81), 3, 0, 0, 81), (.if_icmp .ge (33), 4, 22, 0, 0), (.aload_n 0, 5, 0, 0, 0), (.getfield 9, 6, 6, 2, 0), (.aload_n 0, 7, 0, 0, 0), (.getfield 21, 8, 6, 0, 3), (.iload_n 1, 9, 0, 0, 0), (.iastore, 10, 0, 0, 0), (.aload_n 0, 11, 0, 0, 0), (.getfield 15, 12, 6, 2, 1), (.aload_n 0, 13, 0, 0, 0), (.getfield 21, 14, 6, 0, 3), (.iload_n 2, 15, 0, 0, 0), (.iastore, 16, 0, 0, 0), (.aload_n 0, 17, 0, 0, 0), (.dup, 18, 0, 0, 0), (.getfield 21, 19, 6, 0, 3), (.iconst (1), 20, 0, 0, 1), (.iadd, 21, 0, 0, 0), (.putfield 21, 22, 6, 0, 3), (.return_, 23, 0, 0, 0)]
def p_Ring_add : List Nat := [0, 1, 4, 6, 9, 10, 13, 14, 17, 18, 19, 20, 23, 24, 27, 28, 29, 30, 31, 34, 35, 36, 39, 40]
def c_Ring_area : List PI := [(.aload_n 0, 1, 0, 0, 0), (.iconst (1), 2, 0, 0, 1), (.invokevirtual 25, 3, 68, 2, 0), (.aload_n 0, 4, 0, 0, 0), (.iconst (-1), 5, 0, 0, (-1)), (.invokevirtual 25, 6, 68, 2, 0), (.isub, 7, 0, 0, 0), (.ireturn, 8, 0, 0, 0)]
def p_Ring_area : List Nat := [0, 1, 2, 5, 6, 7, 10, 11, 12]
def c_Ring_underChain : List PI := [(.iconst (0), 1, 0, 0, 0), (.istore_n 2, 2, 0, 0, 0), (.iconst (0), 3, 0, 0, 0), (.istore_n 3, 4, 0, 0, 0), (.iload_n 3, 5, 0, 0, 0), (.aload_n 0, 6, 0, 0, 0), (.getfield 21, 7, 6, 0, 3), (.if_icmp .ge (56), 8, 39, 0, 0), (.iload_n 2, 9, 0, 0, 0), (.iconst (2), 10, 0, 0, 2), (.if_icmp .lt (35), 11, 31, 0, 0), (.iload_n 1, 12, 0, 0, 0), (.aload_n 0, 13, 0, 0, 0), (.aload_n 0, 14, 0, 0, 0), (.getfield 18, 15, 6, 2, 2), (.iload_n 2, 16, 0, 0, 0), (.iconst (2), 17, 0, 0, 2), (.isub, 18, 0, 0, 0), (.iaload, 19, 0, 0, 0), (.aload_n 0, 20, 0, 0, 0), (.getfield 18, 21, 6, 2, 2), (.iload_n 2, 22, 0, 0, 0), (.iconst (1), 23, 0, 0, 1), (.isub, 24, 0, 0, 0), (.iaload, 25, 0, 0, 0), (.iload_n 3, 26, 0, 0, 0), (.invokevirtual 29, 27, 69, 4, 0), (.imul, 28, 0, 0, 0), (.ifCond .gt (9), 29, 31, 0, 0), (.iinc 2 (-1), 30, 0, 0, (-1)), (.goto (-34), 31, 8, 0, 0), (.aload_n 0, 32, 0, 0, 0), (.getfield 18, 33, 6, 2, 2), (.iload_n 2, 34, 0, 0, 0), (.iload_n 3, 35, 0, 0, 0), (.iastore, 36, 0, 0, 0), (.iinc 2 (1), 37, 0, 0, 1), (.iinc 3 (1), 38, 0, 0, 1), (.goto (-58), 39, 4, 0, 0), (.iconst (0), 40, 0, 0, 0), (.istore_n 3, 41, 0, 0, 0), (.iconst (1), 42, 0, 0, 1), (.istore 4, 43, 0, 0, 0), (.iload 4, 44, 0, 0, 0), (.iload_n 2, 45, 0, 0, 0), (.if_icmp .ge (63), 46, 82, 0, 0), (.aload_n 0, 47, 0, 0, 0), (.getfield 18, 48, 6, 2, 2), (.iload 4, 49, 0, 0, 0), (.iconst (1), 50, 0, 0, 1), (.isub, 51, 0, 0, 0), (.iaload, 52, 0, 0, 0), (.istore 5, 53, 0, 0, 0), (.aload_n 0, 54, 0, 0, 0), (.getfield 18, 55, 6, 2, 2), (.iload 4, 56, 0, 0, 0), (.iaload, 57, 0, 0, 0), (.istore 6, 58, 0, 0, 0), (.iload_n 3, 59, 0, 0, 0), (.aload_n 0, 60, 0, 0, 0), (.getfield 9, 61, 6, 2, 0), (.iload 5, 62, 0, 0, 0), (.iaload, 63, 0, 0, 0), (.aload_n 0, 64, 0, 0, 0), (.getfield 15, 65, 6, 2, 1), (.iload 6, 66, 0, 0, 0), (.iaload, 67, 0, 0, 0), (.imul, 68, 0, 0, 0), (.aload_n 0, 69, 0, 0, 0), (.getfield 9, 70, 6, 2, 0), (.iload 6, 71, 0, 0, 0), (.iaload, 72, 0, 0, 0), (.aload_n 0, 73, 0, 0, 0), (.getfield 15, 74, 6, 2, 1), (.iload 5, 75, 0, 0, 0), (.iaload, 76, 0, 0, 0), (.imul, 77, 0, 0, 0), (.isub, 78, 0, 0, 0), (.iadd, 79, 0, 0, 0), (.istore_n 3, 80, 0, 0, 0), (.iinc 4 (1), 81, 0, 0, 1), (.goto (-63), 82, 43, 0, 0), (.iload_n 3, 83, 0, 0, 0), (.ireturn, 84, 0, 0, 0)]
def p_Ring_underChain : List Nat := [0, 1, 2, 3, 4, 5, 6, 9, 12, 13, 14, 17, 18, 19, 20, 23, 24, 25, 26, 27, 28, 31, 32, 33, 34, 35, 36, 39, 40, 43, 46, 49, 50, 53, 54, 55, 56, 59, 62, 65, 66, 67, 68, 70, 72, 73, 76, 77, 80, 82, 83, 84, 85, 87, 88, 91, 93, 94, 96, 97, 98, 101, 103, 104, 105, 108, 110, 111, 112, 113, 116, 118, 119, 120, 123, 125, 126, 127, 128, 129, 130, 133, 136, 137, 138]
def c_Ring_turn : List PI := [(.aload_n 0, 1, 0, 0, 0), (.getfield 9, 2, 6, 2, 0), (.iload_n 2, 3, 0, 0, 0), (.iaload, 4, 0, 0, 0), (.aload_n 0, 5, 0, 0, 0), (.getfield 9, 6, 6, 2, 0), (.iload_n 1, 7, 0, 0, 0), (.iaload, 8, 0, 0, 0), (.isub, 9, 0, 0, 0), (.aload_n 0, 10, 0, 0, 0), (.getfield 15, 11, 6, 2, 1), (.iload_n 3, 12, 0, 0, 0), (.iaload, 13, 0, 0, 0), (.aload_n 0, 14, 0, 0, 0), (.getfield 15, 15, 6, 2, 1), (.iload_n 1, 16, 0, 0, 0), (.iaload, 17, 0, 0, 0), (.isub, 18, 0, 0, 0), (.imul, 19, 0, 0, 0), (.aload_n 0, 20, 0, 0, 0), (.getfield 9, 21, 6, 2, 0), (.iload_n 3, 22, 0, 0, 0), (.iaload, 23, 0, 0, 0), (.aload_n 0, 24, 0, 0, 0), (.getfield 9, 25, 6, 2, 0), (.iload_n 1, 26, 0, 0, 0), (.iaload, 27, 0, 0, 0), (.isub, 28, 0, 0, 0), (.aload_n 0, 29, 0, 0, 0), (.getfield 15, 30, 6, 2, 1), (.iload_n 2, 31, 0, 0, 0), (.iaload, 32, 0, 0, 0), (.aload_n 0, 33, 0, 0, 0), (.getfield 15, 34, 6, 2, 1), (.iload_n 1, 35, 0, 0, 0), (.iaload, 36, 0, 0, 0), (.isub, 37, 0, 0, 0), (.imul, 38, 0, 0, 0), (.isub, 39, 0, 0, 0), (.ireturn, 40, 0, 0, 0)]
def p_Ring_turn : List Nat := [0, 1, 4, 5, 6, 7, 10, 11, 12, 13, 14, 17, 18, 19, 20, 23, 24, 25, 26, 27, 28, 31, 32, 33, 34, 37, 38, 39, 40, 41, 44, 45, 46, 47, 50, 51, 52, 53, 54, 55, 56]
def c_Sheet_init : List PI := [(.aload_n 0, 1, 0, 0, 0), (.invokespecial 3, 2, 0, 0, 5), (.aload_n 0, 3, 0, 0, 0), (.bipush (40), 4, 0, 0, 40), (.newarray .long, 5, 13, 0, 0), (.putfield 9, 6, 7, 12, 0), (.aload_n 0, 7, 0, 0, 0), (.iconst (-1), 8, 0, 0, (-1)), (.putfield 15, 9, 7, 0, 1), (.return_, 10, 0, 0, 0)]
def p_Sheet_init : List Nat := [0, 1, 4, 5, 7, 9, 12, 13, 14, 17, 18]
def c_Sheet_become : List PI := [(.aload_n 0, 1, 0, 0, 0), (.iload_n 1, 2, 0, 0, 0), (.putfield 15, 3, 7, 0, 1), (.aload_n 0, 4, 0, 0, 0), (.iload_n 2, 5, 0, 0, 0), (.putfield 19, 6, 7, 0, 2), (.aload_n 0, 7, 0, 0, 0), (.getfield 9, 8, 7, 2, 0), (.lconst 0, 9, 0, 0, 0), (.invokestatic 22, 10, 213, 2, 1), (.return_, 11, 0, 0, 0)]
def p_Sheet_become : List Nat := [0, 1, 2, 5, 6, 7, 10, 11, 14, 15, 18, 19]
def c_Sheet_holds : List PI := [(.iload_n 2, 1, 0, 0, 0), (.ifCond .lt (29), 2, 16, 0, 0), (.iload_n 1, 3, 0, 0, 0), (.ifCond .lt (25), 4, 16, 0, 0), (.iload_n 1, 5, 0, 0, 0), (.aload_n 0, 6, 0, 0, 0), (.getfield 19, 7, 7, 0, 2), (.if_icmp .gt (17), 8, 16, 0, 0), (.iload_n 2, 9, 0, 0, 0), (.aload_n 0, 10, 0, 0, 0), (.getfield 19, 11, 7, 0, 2), (.iload_n 1, 12, 0, 0, 0), (.isub, 13, 0, 0, 0), (.if_icmp .gt (7), 14, 16, 0, 0), (.iconst (1), 15, 0, 0, 1), (.goto (4), 16, 17, 0, 0), (.iconst (0), 17, 0, 0, 0), (.ireturn, 18, 1, 0, 0)]
def p_Sheet_holds : List Nat := [0, 1, 4, 5, 8, 9, 10, 13, 16, 17, 18, 21, 22, 23, 26, 27, 30, 31, 32]
def c_Trace_init : List PI := [(.aload_n 0, 1, 0, 0, 0), (.invokespecial 3, 2, 0, 0, 5), (.aload_n 0, 3, 0, 0, 0), (.bipush (40), 4, 0, 0, 40), (.newarray .int, 5, 12, 0, 0), (.putfield 9, 6, 8, 12, 0), (.return_, 7, 0, 0, 0)]
def p_Trace_init : List Nat := [0, 1, 4, 5, 7, 9, 12, 13]
def c_Trace_bodyOf : List PI := [(.iload_n 1, 1, 0, 0, 0), (.lookupswitch (45) #[((0), (27)), ((1), (36))], 2, 2, 0, 0), (.getstatic 19, 3, 1, 0, 0), (.aload_n 0, 4, 0, 0, 0), (.getfield 22, 5, 8, 0, 3), (.iaload, 6, 0, 0, 0), (.ireturn, 7, 0, 0, 0), (.getstatic 25, 8, 2, 0, 0), (.aload_n 0, 9, 0, 0, 0), (.getfield 22, 10, 8, 0, 3), (.iaload, 11, 0, 0, 0), (.ireturn, 12, 0, 0, 0), (.getstatic 28, 13, 3, 0, 0), (.aload_n 0, 14, 0, 0, 0), (.getfield 22, 15, 8, 0, 3), (.iaload, 16, 0, 0, 0), (.ireturn, 17, 0, 0, 0)]
def p_Trace_bodyOf : List Nat := [0, 1, 28, 31, 32, 35, 36, 37, 40, 41, 44, 45, 46, 49, 50, 53, 54, 55]
def c_Trace_begins : List PI := [(.aload_n 0, 1, 0, 0, 0), (.getfield 15, 2, 8, 0, 1), (.bipush (40), 3, 0, 0, 40), (.if_icmp .ge (13), 4, 10, 0, 0), (.aload_n 0, 5, 0, 0, 0), (.getfield 9, 6, 8, 2, 0), (.aload_n 0, 7, 0, 0, 0), (.getfield 15, 8, 8, 0, 1), (.iload_n 1, 9, 0, 0, 0), (.iastore, 10, 0, 0, 0), (.aload_n 0, 11, 0, 0, 0), (.dup, 12, 0, 0, 0), (.getfield 15, 13, 8, 0, 1), (.iconst (1), 14, 0, 0, 1), (.iadd, 15, 0, 0, 0), (.putfield 15, 16, 8, 0, 1), (.return_, 17, 0, 0, 0)]
def p_Trace_begins : List Nat := [0, 1, 4, 6, 9, 10, 13, 14, 17, 18, 19, 20, 21, 24, 25, 26, 29, 30]
def c_C_init : List PI := [(.aload_n 0, 1, 0, 0, 0), (.invokespecial 3, 2, 0, 0, 5), (.aload_n 0, 3, 0, 0, 0), (.bipush (10), 4, 0, 0, 10), (.anewarray 9, 5, 15, 0, 0), (.putfield 11, 6, 9, 12, 0), (.aload_n 0, 7, 0, 0, 0), (.bipush (10), 8, 0, 0, 10), (.anewarray 15, 9, 16, 0, 0), (.putfield 17, 10, 9, 12, 1), (.aload_n 0, 11, 0, 0, 0), (.iconst (4), 12, 0, 0, 4), (.anewarray 21, 13, 17, 0, 0), (.putfield 23, 14, 9, 12, 2), (.aload_n 0, 15, 0, 0, 0), (.sipush (756), 16, 0, 0, 756), (.newarray .long, 17, 13, 0, 0), (.putfield 27, 18, 9, 12, 3), (.aload_n 0, 19, 0, 0, 0), (.new 31, 20, 6, 0, 0), (.dup, 21, 0, 0, 0), (.invokespecial 33, 22, 64, 1, 4), (.putfield 34, 23, 9, 12, 4), (.aload_n 0, 24, 0, 0, 0), (.new 38, 25, 2, 0, 0), (.dup, 26, 0, 0, 0), (.invokespecial 40, 27, 32, 1, 4), (.putfield 41, 28, 9, 12, 5), (.aload_n 0, 29, 0, 0, 0), (.new 38, 30, 2, 0, 0), (.dup, 31, 0, 0, 0), (.invokespecial 40, 32, 32, 1, 4), (.putfield 45, 33, 9, 12, 6), (.aload_n 0, 34, 0, 0, 0), (.new 48, 35, 0, 0, 0), (.dup, 36, 0, 0, 0), (.invokespecial 50, 37, 0, 1, 4), (.putfield 51, 38, 9, 12, 7), (.aload_n 0, 39, 0, 0, 0), (.new 55, 40, 4, 0, 0), (.dup, 41, 0, 0, 0), (.invokespecial 57, 42, 52, 1, 4), (.putfield 58, 43, 9, 12, 8), (.aload_n 0, 44, 0, 0, 0), (.new 62, 45, 8, 0, 0), (.dup, 46, 0, 0, 0), (.invokespecial 64, 47, 73, 1, 4), (.putfield 65, 48, 9, 12, 9), (.iconst (0), 49, 0, 0, 0), (.istore_n 1, 50, 0, 0, 0), (.iload_n 1, 51, 0, 0, 0), (.bipush (10), 52, 0, 0, 10), (.if_icmp .ge (45), 53, 75, 0, 0), (.aload_n 0, 54, 0, 0, 0), (.getfield 11, 55, 9, 2, 0), (.iload_n 1, 56, 0, 0, 0), (.new 9, 57, 3, 0, 0), (.dup, 58, 0, 0, 0), (.invokespecial 69, 59, 42, 1, 4), (.aastore, 60, 0, 0, 0), (.aload_n 0, 61, 0, 0, 0), (.getfield 17, 62, 9, 2, 1), (.iload_n 1, 63, 0, 0, 0), (.new 15, 64, 1, 0, 0), (.dup, 65, 0, 0, 0), (.aload_n 0, 66, 0, 0, 0), (.getfield 11, 67, 9, 2, 0), (.iload_n 1, 68, 0, 0, 0), (.aaload, 69, 0, 0, 0), (.aload_n 0, 70, 0, 0, 0), (.getfield 34, 71, 9, 2, 4), (.invokespecial 70, 72, 8, 3, 3), (.aastore, 73, 0, 0, 0), (.iinc 1 (1), 74, 0, 0, 1), (.goto (-45), 75, 50, 0, 0), (.iconst (0), 76, 0, 0, 0), (.istore_n 1, 77, 0, 0, 0), (.iload_n 1, 78, 0, 0, 0), (.iconst (4), 79, 0, 0, 4), (.if_icmp .ge (22), 80, 89, 0, 0), (.aload_n 0, 81, 0, 0, 0), (.getfield 23, 82, 9, 2, 2), (.iload_n 1, 83, 0, 0, 0), (.new 21, 84, 7, 0, 0), (.dup, 85, 0, 0, 0), (.invokespecial 73, 86, 70, 1, 4), (.aastore, 87, 0, 0, 0), (.iinc 1 (1), 88, 0, 0, 1), (.goto (-21), 89, 77, 0, 0), (.return_, 90, 0, 0, 0)]
def p_C_init : List Nat := [0, 1, 4, 5, 7, 10, 13, 14, 16, 19, 22, 23, 24, 27, 30, 31, 34, 36, 39, 40, 43, 44, 47, 50, 51, 54, 55, 58, 61, 62, 65, 66, 69, 72, 73, 76, 77, 80, 83, 84, 87, 88, 91, 94, 95, 98, 99, 102, 105, 106, 107, 108, 110, 113, 114, 117, 118, 121, 122, 125, 126, 127, 130, 131, 134, 135, 136, 139, 140, 141, 142, 145, 148, 149, 152, 155, 156, 157, 158, 159, 162, 163, 166, 167, 170, 171, 174, 175, 178, 181, 182]
def c_C_form : List PI := [(.aload_n 0, 1, 0, 0, 0), (.getfield 74, 2, 9, 0, 10), (.bipush (10), 3, 0, 0, 10), (.if_icmp .lt (8), 4, 6, 0, 0), (.bipush (-4), 5, 0, 0, (-4)), (.goto (8), 6, 9, 0, 0), (.aload_n 0, 7, 0, 0, 0), (.iconst (0), 8, 0, 0, 0), (.invokevirtual 78, 9, 78, 2, 0), (.ireturn, 10, 0, 0, 0)]
def p_C_form : List Nat := [0, 1, 4, 6, 9, 11, 14, 15, 16, 19, 20]
def c_C_openForm : List PI := [(.aload_n 0, 1, 0, 0, 0), (.getfield 74, 2, 9, 0, 10), (.istore_n 2, 3, 0, 0, 0), (.aload_n 0, 4, 0, 0, 0), (.getfield 11, 5, 9, 2, 0), (.iload_n 2, 6, 0, 0, 0), (.aaload, 7, 0, 0, 0), (.iload_n 1, 8, 0, 0, 0), (.invokevirtual 361, 9, 43, 2, 0), (.aload_n 0, 10, 0, 0, 0), (.dup, 11, 0, 0, 0), (.getfield 74, 12, 9, 0, 10), (.iconst (1), 13, 0, 0, 1), (.iadd, 14, 0, 0, 0), (.putfield 74, 15, 9, 0, 10), (.iload_n 2, 16, 0, 0, 0), (.ireturn, 17, 0, 0, 0)]
def p_C_openForm : List Nat := [0, 1, 4, 5, 6, 9, 10, 11, 12, 15, 16, 17, 20, 21, 22, 25, 26, 27]
def c_C_term : List PI := [(.aload_n 0, 1, 0, 0, 0), (.iload_n 1, 2, 0, 0, 0), (.invokevirtual 82, 3, 80, 2, 0), (.ifCond .eq (33), 4, 19, 0, 0), (.iload_n 2, 5, 0, 0, 0), (.iconst (0), 6, 0, 0, 0), (.iconst (4), 7, 0, 0, 4), (.invokestatic 86, 8, 81, 3, 1), (.ifCond .eq (24), 9, 19, 0, 0), (.iload_n 3, 10, 0, 0, 0), (.iconst (0), 11, 0, 0, 0), (.iconst (4), 12, 0, 0, 4), (.invokestatic 86, 13, 81, 3, 1), (.ifCond .eq (15), 14, 19, 0, 0), (.iload 4, 15, 0, 0, 0), (.bipush (-20), 16, 0, 0, (-20)), (.bipush (20), 17, 0, 0, 20), (.invokestatic 86, 18, 81, 3, 1), (.ifCond .ne (6), 19, 21, 0, 0), (.bipush (-2), 20, 0, 0, (-2)), (.ireturn, 21, 0, 0, 0), (.aload_n 0, 22, 0, 0, 0), (.getfield 11, 23, 9, 2, 0), (.iload_n 1, 24, 0, 0, 0), (.aaload, 25, 0, 0, 0), (.astore 5, 26, 0, 0, 0), (.aload 5, 27, 0, 0, 0), (.getfield 90, 28, 3, 0, 3), (.ifCond .eq (6), 29, 31, 0, 0), (.bipush (-3), 30, 0, 0, (-3)), (.ireturn, 31, 0, 0, 0), (.aload 5, 32, 0, 0, 0), (.iload_n 2, 33, 0, 0, 0), (.iload_n 3, 34, 0, 0, 0), (.invokevirtual 93, 35, 44, 3, 0), (.iconst (-1), 36, 0, 0, (-1)), (.if_icmp .ne (16), 37, 43, 0, 0), (.aload 5, 38, 0, 0, 0), (.getfield 97, 39, 3, 0, 4), (.bipush (12), 40, 0, 0, 12), (.if_icmp .lt (6), 41, 43, 0, 0), (.bipush (-4), 42, 0, 0, (-4)), (.ireturn, 43, 0, 0, 0), (.aload 5, 44, 0, 0, 0), (.iload_n 2, 45, 0, 0, 0), (.iload_n 3, 46, 0, 0, 0), (.iload 4, 47, 0, 0, 0), (.invokevirtual 100, 48, 45, 4, 0), (.aload 5, 49, 0, 0, 0), (.getfield 97, 50, 3, 0, 4), (.ireturn, 51, 0, 0, 0)]
def p_C_term : List Nat := [0, 1, 2, 5, 8, 9, 10, 11, 14, 17, 18, 19, 20, 23, 26, 28, 30, 32, 35, 38, 40, 41, 42, 45, 46, 47, 49, 51, 54, 57, 59, 60, 62, 63, 64, 67, 68, 71, 73, 76, 78, 81, 83, 84, 86, 87, 88, 90, 93, 95, 98, 99]
def c_C_exists : List PI := [(.iload_n 1, 1, 0, 0, 0), (.iconst (0), 2, 0, 0, 0), (.aload_n 0, 3, 0, 0, 0), (.getfield 74, 4, 9, 0, 10), (.iconst (1), 5, 0, 0, 1), (.isub, 6, 0, 0, 0), (.invokestatic 86, 7, 81, 3, 1), (.ireturn, 8, 1, 0, 0)]
def p_C_exists : List Nat := [0, 1, 2, 3, 6, 7, 8, 11, 12]
def c_C_within : List PI := [(.iload_n 0, 1, 0, 0, 0), (.iload_n 1, 2, 0, 0, 0), (.if_icmp .lt (12), 3, 8, 0, 0), (.iload_n 0, 4, 0, 0, 0), (.iload_n 2, 5, 0, 0, 0), (.if_icmp .gt (7), 6, 8, 0, 0), (.iconst (1), 7, 0, 0, 1), (.goto (4), 8, 9, 0, 0), (.iconst (0), 9, 0, 0, 0), (.ireturn, 10, 1, 0, 0)]
def p_C_within : List Nat := [0, 1, 2, 5, 6, 7, 10, 11, 14, 15, 16]
def c_C_take : List PI := [(.aload_n 0, 1, 0, 0, 0), (.iload_n 1, 2, 0, 0, 0), (.iload_n 2, 3, 0, 0, 0), (.iload_n 3, 4, 0, 0, 0), (.invokevirtual 104, 5, 83, 4, 0), (.istore 4, 6, 0, 0, 0), (.iload 4, 7, 0, 0, 0), (.iconst (-1), 8, 0, 0, (-1)), (.if_icmp .ne (6), 9, 11, 0, 0), (.bipush (-2), 10, 0, 0, (-2)), (.ireturn, 11, 0, 0, 0), (.aload_n 0, 12, 0, 0, 0), (.getfield 11, 13, 9, 2, 0), (.iload_n 1, 14, 0, 0, 0), (.aaload, 15, 0, 0, 0), (.astore 5, 16, 0, 0, 0), (.aload 5, 17, 0, 0, 0), (.getfield 90, 18, 3, 0, 3), (.ifCond .eq (6), 19, 21, 0, 0), (.bipush (-3), 20, 0, 0, (-3)), (.ireturn, 21, 0, 0, 0), (.aload 5, 22, 0, 0, 0), (.iload 4, 23, 0, 0, 0), (.invokevirtual 108, 24, 47, 2, 0), (.aload 5, 25, 0, 0, 0), (.getfield 97, 26, 3, 0, 4), (.ireturn, 27, 0, 0, 0)]
def p_C_take : List Nat := [0, 1, 2, 3, 4, 7, 9, 11, 12, 15, 17, 18, 19, 22, 23, 24, 26, 28, 31, 34, 36, 37, 39, 41, 44, 46, 49, 50]
def c_C_findTerm : List PI := [(.aload_n 0, 1, 0, 0, 0), (.iload_n 1, 2, 0, 0, 0), (.invokevirtual 82, 3, 80, 2, 0), (.ifCond .eq (17), 4, 12, 0, 0), (.aload_n 0, 5, 0, 0, 0), (.getfield 11, 6, 9, 2, 0), (.iload_n 1, 7, 0, 0, 0), (.aaload, 8, 0, 0, 0), (.iload_n 2, 9, 0, 0, 0), (.iload_n 3, 10, 0, 0, 0), (.invokevirtual 93, 11, 44, 3, 0), (.goto (4), 12, 13, 0, 0), (.iconst (-1), 13, 0, 0, (-1)), (.ireturn, 14, 0, 0, 0)]
def p_C_findTerm : List Nat := [0, 1, 2, 5, 8, 9, 12, 13, 14, 15, 16, 19, 22, 23, 24]
def c_C_sum : List PI := [(.aload_n 0, 1, 0, 0, 0), (.iload_n 1, 2, 0, 0, 0), (.invokevirtual 82, 3, 80, 2, 0), (.ifCond .eq (11), 4, 8, 0, 0), (.aload_n 0, 5, 0, 0, 0), (.iload_n 2, 6, 0, 0, 0), (.invokevirtual 82, 7, 80, 2, 0), (.ifCond .ne (6), 8, 10, 0, 0), (.bipush (-2), 9, 0, 0, (-2)), (.ireturn, 10, 0, 0, 0), (.aload_n 0, 11, 0, 0, 0), (.getfield 41, 12, 9, 2, 5), (.aload_n 0, 13, 0, 0, 0), (.getfield 11, 14, 9, 2, 0), (.iload_n 1, 15, 0, 0, 0), (.aaload, 16, 0, 0, 0), (.invokevirtual 112, 17, 33, 2, 0), (.aload_n 0, 18, 0, 0, 0), (.getfield 74, 19, 9, 0, 10), (.bipush (10), 20, 0, 0, 10), (.if_icmp .ge (33), 21, 35, 0, 0), (.aload_n 0, 22, 0, 0, 0), (.getfield 45, 23, 9, 2, 6), (.aload_n 0, 24, 0, 0, 0), (.getfield 41, 25, 9, 2, 5), (.aload_n 0, 26, 0, 0, 0), (.getfield 11, 27, 9, 2, 0), (.iload_n 2, 28, 0, 0, 0), (.aaload, 29, 0, 0, 0), (.invokevirtual 116, 30, 36, 3, 0), (.ifCond .eq (13), 31, 35, 0, 0), (.aload_n 0, 32, 0, 0, 0), (.getfield 45, 33, 9, 2, 6), (.invokevirtual 120, 34, 39, 1, 0), (.ifCond .ne (6), 35, 37, 0, 0), (.bipush (-4), 36, 0, 0, (-4)), (.ireturn, 37, 0, 0, 0), (.aload_n 0, 38, 0, 0, 0), (.aload_n 0, 39, 0, 0, 0), (.getfield 45, 40, 9, 2, 6), (.iconst (1), 41, 0, 0, 1), (.invokevirtual 124, 42, 85, 3, 0), (.ireturn, 43, 0, 0, 0)]
def p_C_sum : List Nat := [0, 1, 2, 5, 8, 9, 10, 13, 16, 18, 19, 20, 23, 24, 27, 28, 29, 32, 33, 36, 38, 41, 42, 45, 46, 49, 50, 53, 54, 55, 58, 61, 62, 65, 68, 71, 73, 74, 75, 76, 79, 80, 83, 84]
def c_C_openFrom : List PI := [(.aload_n 0, 1, 0, 0, 0), (.iload_n 2, 2, 0, 0, 0), (.invokevirtual 78, 3, 78, 2, 0), (.istore_n 3, 4, 0, 0, 0), (.aload_n 1, 5, 0, 0, 0), (.aload_n 0, 6, 0, 0, 0), (.getfield 11, 7, 9, 2, 0), (.iload_n 3, 8, 0, 0, 0), (.aaload, 9, 0, 0, 0), (.invokevirtual 364, 10, 40, 2, 0), (.iload_n 3, 11, 0, 0, 0), (.ireturn, 12, 0, 0, 0)]
def p_C_openFrom : List Nat := [0, 1, 2, 5, 6, 7, 8, 11, 12, 13, 16, 17, 18]
def c_C_power : List PI := [(.aload_n 0, 1, 0, 0, 0), (.iload_n 1, 2, 0, 0, 0), (.invokevirtual 82, 3, 80, 2, 0), (.ifCond .eq (12), 4, 9, 0, 0), (.iload_n 2, 5, 0, 0, 0), (.iconst (1), 6, 0, 0, 1), (.iconst (4), 7, 0, 0, 4), (.invokestatic 86, 8, 81, 3, 1), (.ifCond .ne (6), 9, 11, 0, 0), (.bipush (-2), 10, 0, 0, (-2)), (.ireturn, 11, 0, 0, 0), (.aload_n 0, 12, 0, 0, 0), (.getfield 74, 13, 9, 0, 10), (.bipush (10), 14, 0, 0, 10), (.if_icmp .lt (6), 15, 17, 0, 0), (.bipush (-4), 16, 0, 0, (-4)), (.ireturn, 17, 0, 0, 0), (.aload_n 0, 18, 0, 0, 0), (.getfield 41, 19, 9, 2, 5), (.astore_n 3, 20, 0, 0, 0), (.aload_n 0, 21, 0, 0, 0), (.getfield 45, 22, 9, 2, 6), (.astore 4, 23, 0, 0, 0), (.aload_n 3, 24, 0, 0, 0), (.aload_n 0, 25, 0, 0, 0), (.getfield 11, 26, 9, 2, 0), (.iload_n 1, 27, 0, 0, 0), (.aaload, 28, 0, 0, 0), (.invokevirtual 112, 29, 33, 2, 0), (.iconst (1), 30, 0, 0, 1), (.istore 5, 31, 0, 0, 0), (.iload 5, 32, 0, 0, 0), (.iload_n 2, 33, 0, 0, 0), (.if_icmp .ge (37), 34, 52, 0, 0), (.aload 4, 35, 0, 0, 0), (.aload_n 3, 36, 0, 0, 0), (.aload_n 0, 37, 0, 0, 0), (.getfield 11, 38, 9, 2, 0), (.iload_n 1, 39, 0, 0, 0), (.aaload, 40, 0, 0, 0), (.invokevirtual 116, 41, 36, 3, 0), (.ifCond .ne (6), 42, 44, 0, 0), (.bipush (-4), 43, 0, 0, (-4)), (.ireturn, 44, 0, 0, 0), (.aload_n 3, 45, 0, 0, 0), (.astore 6, 46, 0, 0, 0), (.aload 4, 47, 0, 0, 0), (.astore_n 3, 48, 0, 0, 0), (.aload 6, 49, 0, 0, 0), (.astore 4, 50, 0, 0, 0), (.iinc 5 (1), 51, 0, 0, 1), (.goto (-37), 52, 31, 0, 0), (.aload_n 3, 53, 0, 0, 0), (.invokevirtual 120, 54, 39, 1, 0), (.ifCond .eq (12), 55, 60, 0, 0), (.aload_n 0, 56, 0, 0, 0), (.aload_n 3, 57, 0, 0, 0), (.iconst (2), 58, 0, 0, 2), (.invokevirtual 124, 59, 85, 3, 0), (.goto (5), 60, 61, 0, 0), (.bipush (-4), 61, 0, 0, (-4)), (.ireturn, 62, 0, 0, 0)]
def p_C_power : List Nat := [0, 1, 2, 5, 8, 9, 10, 11, 14, 17, 19, 20, 21, 24, 26, 29, 31, 32, 33, 36, 37, 38, 41, 43, 44, 45, 48, 49, 50, 53, 54, 56, 58, 59, 62, 64, 65, 66, 69, 70, 71, 74, 77, 79, 80, 81, 83, 85, 86, 88, 90, 93, 96, 97, 100, 103, 104, 105, 106, 109, 112, 114, 115]
def c_C_move : List PI := [(.aload_n 0, 1, 0, 0, 0), (.iload_n 1, 2, 0, 0, 0), (.invokevirtual 82, 3, 80, 2, 0), (.ifCond .eq (25), 4, 14, 0, 0), (.iload_n 2, 5, 0, 0, 0), (.bipush (-10), 6, 0, 0, (-10)), (.bipush (10), 7, 0, 0, 10), (.invokestatic 86, 8, 81, 3, 1), (.ifCond .eq (14), 9, 14, 0, 0), (.iload_n 3, 10, 0, 0, 0), (.bipush (-10), 11, 0, 0, (-10)), (.bipush (10), 12, 0, 0, 10), (.invokestatic 86, 13, 81, 3, 1), (.ifCond .ne (6), 14, 16, 0, 0), (.bipush (-2), 15, 0, 0, (-2)), (.ireturn, 16, 0, 0, 0), (.aload_n 0, 17, 0, 0, 0), (.getfield 41, 18, 9, 2, 5), (.aload_n 0, 19, 0, 0, 0), (.getfield 11, 20, 9, 2, 0), (.iload_n 1, 21, 0, 0, 0), (.aaload, 22, 0, 0, 0), (.invokevirtual 112, 23, 33, 2, 0), (.aload_n 0, 24, 0, 0, 0), (.getfield 41, 25, 9, 2, 5), (.iload_n 2, 26, 0, 0, 0), (.iload_n 3, 27, 0, 0, 0), (.invokevirtual 128, 28, 41, 3, 0), (.aload_n 0, 29, 0, 0, 0), (.getfield 74, 30, 9, 0, 10), (.bipush (10), 31, 0, 0, 10), (.if_icmp .ge (25), 32, 42, 0, 0), (.aload_n 0, 33, 0, 0, 0), (.getfield 41, 34, 9, 2, 5), (.invokevirtual 120, 35, 39, 1, 0), (.ifCond .eq (15), 36, 42, 0, 0), (.aload_n 0, 37, 0, 0, 0), (.aload_n 0, 38, 0, 0, 0), (.getfield 41, 39, 9, 2, 5), (.iconst (1), 40, 0, 0, 1), (.invokevirtual 124, 41, 85, 3, 0), (.goto (5), 42, 43, 0, 0), (.bipush (-4), 43, 0, 0, (-4)), (.ireturn, 44, 0, 0, 0)]
def p_C_move : List Nat := [0, 1, 2, 5, 8, 9, 11, 13, 16, 19, 20, 22, 24, 27, 30, 32, 33, 34, 37, 38, 41, 42, 43, 46, 47, 50, 51, 52, 55, 56, 59, 61, 64, 65, 68, 71, 74, 75, 76, 79, 80, 83, 86, 88, 89]
def c_C_hide : List PI := [(.iload 4, 1, 0, 0, 0), (.invokestatic 132, 2, 89, 1, 1), (.ifCond .eq (21), 3, 13, 0, 0), (.iload_n 1, 4, 0, 0, 0), (.iconst (0), 5, 0, 0, 0), (.iconst (3), 6, 0, 0, 3), (.invokestatic 86, 7, 81, 3, 1), (.ifCond .eq (12), 8, 13, 0, 0), (.iload_n 2, 9, 0, 0, 0), (.iconst (0), 10, 0, 0, 0), (.iconst (2), 11, 0, 0, 2), (.invokestatic 86, 12, 81, 3, 1), (.ifCond .ne (6), 13, 15, 0, 0), (.bipush (-2), 14, 0, 0, (-2)), (.ireturn, 15, 0, 0, 0), (.aload_n 0, 16, 0, 0, 0), (.getfield 23, 17, 9, 2, 2), (.iload_n 1, 18, 0, 0, 0), (.aaload, 19, 0, 0, 0), (.astore 5, 20, 0, 0, 0), (.aload 5, 21, 0, 0, 0), (.getfield 135, 22, 7, 0, 1), (.iconst (-1), 23, 0, 0, (-1)), (.if_icmp .ne (6), 24, 26, 0, 0), (.bipush (-11), 25, 0, 0, (-11)), (.ireturn, 26, 0, 0, 0), (.aload 5, 27, 0, 0, 0), (.getfield 135, 28, 7, 0, 1), (.iload_n 2, 29, 0, 0, 0), (.if_icmp .eq (6), 30, 32, 0, 0), (.bipush (-13), 31, 0, 0, (-13)), (.ireturn, 32, 0, 0, 0), (.iload_n 3, 33, 0, 0, 0), (.ifCond .lt (15), 34, 40, 0, 0), (.iload_n 3, 35, 0, 0, 0), (.aload 5, 36, 0, 0, 0), (.getfield 138, 37, 7, 0, 2), (.bipush (9), 38, 0, 0, 9), (.isub, 39, 0, 0, 0), (.if_icmp .le (6), 40, 42, 0, 0), (.bipush (-12), 41, 0, 0, (-12)), (.ireturn, 42, 0, 0, 0), (.aload_n 0, 43, 0, 0, 0), (.getfield 74, 44, 9, 0, 10), (.bipush (10), 45, 0, 0, 10), (.if_icmp .lt (6), 46, 48, 0, 0), (.bipush (-4), 47, 0, 0, (-4)), (.ireturn, 48, 0, 0, 0), (.aload_n 0, 49, 0, 0, 0), (.getfield 41, 50, 9, 2, 5), (.invokevirtual 141, 51, 34, 1, 0), (.iconst (0), 52, 0, 0, 0), (.istore 6, 53, 0, 0, 0), (.iload 6, 54, 0, 0, 0), (.bipush (9), 55, 0, 0, 9), (.if_icmp .ge (50), 56, 81, 0, 0), (.aload 5, 57, 0, 0, 0), (.getfield 144, 58, 7, 2, 0), (.iload_n 3, 59, 0, 0, 0), (.iload 6, 60, 0, 0, 0), (.iadd, 61, 0, 0, 0), (.laload, 62, 0, 0, 0), (.lstore 7, 63, 0, 0, 0), (.lload 7, 64, 0, 0, 0), (.lconst 0, 65, 0, 0, 0), (.lcmp, 66, 0, 0, 0), (.ifCond .eq (25), 67, 79, 0, 0), (.aload_n 0, 68, 0, 0, 0), (.getfield 41, 69, 9, 2, 5), (.iload 6, 70, 0, 0, 0), (.iconst (3), 71, 0, 0, 3), (.idiv, 72, 0, 0, 0), (.iload 6, 73, 0, 0, 0), (.iconst (3), 74, 0, 0, 3), (.irem, 75, 0, 0, 0), (.lload 7, 76, 0, 0, 0), (.iload 4, 77, 0, 0, 0), (.invokestatic 147, 78, 90, 2, 1), (.invokevirtual 151, 79, 35, 4, 0), (.iinc 6 (1), 80, 0, 0, 1), (.goto (-51), 81, 53, 0, 0), (.aload_n 0, 82, 0, 0, 0), (.aload_n 0, 83, 0, 0, 0), (.getfield 41, 84, 9, 2, 5), (.iconst (3), 85, 0, 0, 3), (.invokevirtual 124, 86, 85, 3, 0), (.ireturn, 87, 0, 0, 0)]
def p_C_hide : List Nat := [0, 2, 5, 8, 9, 10, 11, 14, 17, 18, 19, 20, 23, 26, 28, 29, 30, 33, 34, 35, 37, 39, 42, 43, 46, 48, 49, 51, 54, 55, 58, 60, 61, 62, 65, 66, 68, 71, 73, 74, 77, 79, 80, 81, 84, 86, 89, 91, 92, 93, 96, 99, 100, 102, 104, 106, 109, 111, 114, 115, 117, 118, 119, 121, 123, 124, 125, 128, 129, 132, 134, 135, 136, 138, 139, 140, 142, 144, 147, 150, 153, 156, 157, 158, 161, 162, 165, 166]
def c_C_isPrime : List PI := [(.iload_n 0, 1, 0, 0, 0), (.iconst (2), 2, 0, 0, 2), (.if_icmp .eq (19), 3, 12, 0, 0), (.iload_n 0, 4, 0, 0, 0), (.iconst (3), 5, 0, 0, 3), (.if_icmp .eq (14), 6, 12, 0, 0), (.iload_n 0, 7, 0, 0, 0), (.iconst (5), 8, 0, 0, 5), (.if_icmp .eq (9), 9, 12, 0, 0), (.iload_n 0, 10, 0, 0, 0), (.bipush (7), 11, 0, 0, 7), (.if_icmp .ne (7), 12, 14, 0, 0), (.iconst (1), 13, 0, 0, 1), (.goto (4), 14, 15, 0, 0), (.iconst (0), 15, 0, 0, 0), (.ireturn, 16, 1, 0, 0)]
def p_C_isPrime : List Nat := [0, 1, 2, 5, 6, 7, 10, 11, 12, 15, 16, 18, 21, 22, 25, 26, 27]
def c_C_timesIn : List PI := [(.iconst (0), 1, 0, 0, 0), (.istore_n 3, 2, 0, 0, 0), (.lload_n 0, 3, 0, 0, 0), (.lstore 4, 4, 0, 0, 0), (.iload_n 3, 5, 0, 0, 0), (.bipush (64), 6, 0, 0, 64), (.if_icmp .ge (30), 7, 23, 0, 0), (.iload_n 2, 8, 0, 0, 0), (.ifCond .eq (26), 9, 23, 0, 0), (.lload 4, 10, 0, 0, 0), (.iload_n 2, 11, 0, 0, 0), (.i2l, 12, 0, 0, 0), (.lrem, 13, 0, 0, 0), (.lconst 0, 14, 0, 0, 0), (.lcmp, 15, 0, 0, 0), (.ifCond .ne (16), 16, 23, 0, 0), (.lload 4, 17, 0, 0, 0), (.iload_n 2, 18, 0, 0, 0), (.i2l, 19, 0, 0, 0), (.ldiv, 20, 0, 0, 0), (.lstore 4, 21, 0, 0, 0), (.iinc 3 (1), 22, 0, 0, 1), (.goto (-30), 23, 4, 0, 0), (.iload_n 3, 24, 0, 0, 0), (.ireturn, 25, 0, 0, 0)]
def p_C_timesIn : List Nat := [0, 1, 2, 3, 5, 6, 8, 11, 12, 15, 17, 18, 19, 20, 21, 22, 25, 27, 28, 29, 30, 32, 35, 38, 39, 40]
def c_C_drop : List PI := [(.aload_n 0, 1, 0, 0, 0), (.getfield 74, 2, 9, 0, 10), (.ifCond .ne (6), 3, 5, 0, 0), (.bipush (-3), 4, 0, 0, (-3)), (.ireturn, 5, 0, 0, 0), (.aload_n 0, 6, 0, 0, 0), (.dup, 7, 0, 0, 0), (.getfield 74, 8, 9, 0, 10), (.iconst (1), 9, 0, 0, 1), (.isub, 10, 0, 0, 0), (.putfield 74, 11, 9, 0, 10), (.aload_n 0, 12, 0, 0, 0), (.getfield 74, 13, 9, 0, 10), (.ireturn, 14, 0, 0, 0)]
def p_C_drop : List Nat := [0, 1, 4, 7, 9, 10, 11, 12, 15, 16, 17, 20, 21, 24, 25]
def c_C_told : List PI := [(.aload_n 0, 1, 0, 0, 0), (.iload_n 1, 2, 0, 0, 0), (.invokevirtual 82, 3, 80, 2, 0), (.ifCond .ne (6), 4, 6, 0, 0), (.bipush (-2), 5, 0, 0, (-2)), (.ireturn, 6, 0, 0, 0), (.aload_n 0, 7, 0, 0, 0), (.getfield 11, 8, 9, 2, 0), (.iload_n 1, 9, 0, 0, 0), (.aaload, 10, 0, 0, 0), (.astore_n 3, 11, 0, 0, 0), (.iload_n 2, 12, 0, 0, 0), (.tableswitch (146) (0) (9) #[(53), (58), (63), (72), (84), (90), (107), (116), (126), (136)], 13, 3, 0, 0), (.aload_n 3, 14, 0, 0, 0), (.getfield 90, 15, 3, 0, 3), (.ireturn, 16, 0, 0, 0), (.aload_n 3, 17, 0, 0, 0), (.getfield 97, 18, 3, 0, 4), (.ireturn, 19, 0, 0, 0), (.aload_n 0, 20, 0, 0, 0), (.iload_n 1, 21, 0, 0, 0), (.invokevirtual 154, 22, 93, 2, 0), (.getfield 158, 23, 1, 0, 8), (.ireturn, 24, 0, 0, 0), (.aload_n 0, 25, 0, 0, 0), (.iload_n 1, 26, 0, 0, 0), (.invokevirtual 154, 27, 93, 2, 0), (.getfield 161, 28, 1, 2, 3), (.getfield 165, 29, 5, 0, 5), (.ireturn, 30, 0, 0, 0), (.aload_n 0, 31, 0, 0, 0), (.aload_n 3, 32, 0, 0, 0), (.invokevirtual 168, 33, 95, 2, 0), (.ireturn, 34, 0, 0, 0), (.aload_n 0, 35, 0, 0, 0), (.iload_n 1, 36, 0, 0, 0), (.invokevirtual 154, 37, 93, 2, 0), (.invokevirtual 172, 38, 18, 1, 0), (.ifCond .eq (7), 39, 41, 0, 0), (.iconst (1), 40, 0, 0, 1), (.goto (4), 41, 42, 0, 0), (.iconst (0), 42, 0, 0, 0), (.ireturn, 43, 0, 0, 0), (.aload_n 0, 44, 0, 0, 0), (.iload_n 1, 45, 0, 0, 0), (.invokevirtual 154, 46, 93, 2, 0), (.invokevirtual 175, 47, 21, 1, 0), (.ireturn, 48, 0, 0, 0), (.aload_n 0, 49, 0, 0, 0), (.iload_n 1, 50, 0, 0, 0), (.invokevirtual 154, 51, 93, 2, 0), (.iconst (1), 52, 0, 0, 1), (.invokevirtual 179, 53, 23, 2, 0), (.ireturn, 54, 0, 0, 0), (.aload_n 0, 55, 0, 0, 0), (.iload_n 1, 56, 0, 0, 0), (.invokevirtual 154, 57, 93, 2, 0), (.iconst (2), 58, 0, 0, 2), (.invokevirtual 179, 59, 23, 2, 0), (.ireturn, 60, 0, 0, 0), (.aload_n 0, 61, 0, 0, 0), (.iload_n 1, 62, 0, 0, 0), (.invokevirtual 154, 63, 93, 2, 0), (.iconst (3), 64, 0, 0, 3), (.invokevirtual 179, 65, 23, 2, 0), (.ireturn, 66, 0, 0, 0), (.bipush (-2), 67, 0, 0, (-2)), (.ireturn, 68, 0, 0, 0)]
def p_C_told : List Nat := [0, 1, 2, 5, 8, 10, 11, 12, 15, 16, 17, 18, 19, 72, 73, 76, 77, 78, 81, 82, 83, 84, 87, 90, 91, 92, 93, 96, 99, 102, 103, 104, 105, 108, 109, 110, 111, 114, 117, 120, 121, 124, 125, 126, 127, 128, 131, 134, 135, 136, 137, 140, 141, 144, 145, 146, 147, 150, 151, 154, 155, 156, 157, 160, 161, 164, 165, 167, 168]
def c_C_curveOf : List PI := [(.aload_n 0, 1, 0, 0, 0), (.getfield 17, 2, 9, 2, 1), (.iload_n 1, 3, 0, 0, 0), (.aaload, 4, 0, 0, 0), (.astore_n 2, 5, 0, 0, 0), (.aload_n 2, 6, 0, 0, 0), (.getfield 350, 7, 1, 2, 0), (.getfield 354, 8, 3, 3, 5), (.ifCond .ne (7), 9, 11, 0, 0), (.aload_n 2, 10, 0, 0, 0), (.invokevirtual 358, 11, 9, 1, 0), (.aload_n 2, 12, 0, 0, 0), (.areturn, 13, 0, 0, 0)]
def p_C_curveOf : List Nat := [0, 1, 4, 5, 6, 7, 8, 11, 14, 17, 18, 21, 22, 23]
def c_C_commonDivisor : List PI := [(.lload_n 0, 1, 0, 0, 0), (.lconst 0, 2, 0, 0, 0), (.lcmp, 3, 0, 0, 0), (.ifCond .ge (8), 4, 7, 0, 0), (.lload_n 0, 5, 0, 0, 0), (.lneg, 6, 0, 0, 0), (.goto (4), 7, 8, 0, 0), (.lload_n 0, 8, 0, 0, 0), (.lstore 4, 9, 0, 0, 0), (.lload_n 2, 10, 0, 0, 0), (.lconst 0, 11, 0, 0, 0), (.lcmp, 12, 0, 0, 0), (.ifCond .ge (8), 13, 16, 0, 0), (.lload_n 2, 14, 0, 0, 0), (.lneg, 15, 0, 0, 0), (.goto (4), 16, 17, 0, 0), (.lload_n 2, 17, 0, 0, 0), (.lstore 6, 18, 0, 0, 0), (.iconst (0), 19, 0, 0, 0), (.istore 8, 20, 0, 0, 0), (.iload 8, 21, 0, 0, 0), (.bipush (100), 22, 0, 0, 100), (.if_icmp .ge (31), 23, 37, 0, 0), (.lload 6, 24, 0, 0, 0), (.lconst 0, 25, 0, 0, 0), (.lcmp, 26, 0, 0, 0), (.ifCond .eq (24), 27, 37, 0, 0), (.lload 4, 28, 0, 0, 0), (.lload 6, 29, 0, 0, 0), (.lrem, 30, 0, 0, 0), (.lstore 9, 31, 0, 0, 0), (.lload 6, 32, 0, 0, 0), (.lstore 4, 33, 0, 0, 0), (.lload 9, 34, 0, 0, 0), (.lstore 6, 35, 0, 0, 0), (.iinc 8 (1), 36, 0, 0, 1), (.goto (-32), 37, 20, 0, 0), (.lload 4, 38, 0, 0, 0), (.lconst 0, 39, 0, 0, 0), (.lcmp, 40, 0, 0, 0), (.ifCond .le (8), 41, 43, 0, 0), (.lload 4, 42, 0, 0, 0), (.goto (4), 43, 44, 0, 0), (.lconst 1, 44, 0, 0, 1), (.lreturn, 45, 0, 0, 0)]
def p_C_commonDivisor : List Nat := [0, 1, 2, 3, 6, 7, 8, 11, 12, 14, 15, 16, 17, 20, 21, 22, 25, 26, 28, 29, 31, 33, 35, 38, 40, 41, 42, 45, 47, 49, 50, 52, 54, 56, 58, 60, 63, 66, 68, 69, 70, 73, 75, 78, 79, 80]
def c_C_areaOf : List PI := [(.aload_n 0, 1, 0, 0, 0), (.getfield 34, 2, 9, 2, 4), (.invokevirtual 261, 3, 65, 1, 0), (.iconst (0), 4, 0, 0, 0), (.istore_n 2, 5, 0, 0, 0), (.iload_n 2, 6, 0, 0, 0), (.aload_n 1, 7, 0, 0, 0), (.getfield 97, 8, 3, 0, 4), (.if_icmp .ge (28), 9, 22, 0, 0), (.aload_n 0, 10, 0, 0, 0), (.getfield 34, 11, 9, 2, 4), (.aload_n 1, 12, 0, 0, 0), (.getfield 230, 13, 3, 2, 0), (.iload_n 2, 14, 0, 0, 0), (.iaload, 15, 0, 0, 0), (.aload_n 1, 16, 0, 0, 0), (.getfield 236, 17, 3, 2, 1), (.iload_n 2, 18, 0, 0, 0), (.iaload, 19, 0, 0, 0), (.invokevirtual 265, 20, 66, 3, 0), (.iinc 2 (1), 21, 0, 0, 1), (.goto (-30), 22, 5, 0, 0), (.aload_n 0, 23, 0, 0, 0), (.getfield 34, 24, 9, 2, 4), (.invokevirtual 268, 25, 67, 1, 0), (.ireturn, 26, 0, 0, 0)]
def p_C_areaOf : List Nat := [0, 1, 4, 7, 8, 9, 10, 11, 14, 17, 18, 21, 22, 25, 26, 27, 28, 31, 32, 33, 36, 39, 42, 43, 46, 49, 50]
def c_C_number : List PI := [(.aload_n 0, 1, 0, 0, 0), (.iload_n 1, 2, 0, 0, 0), (.iload_n 2, 3, 0, 0, 0), (.iload_n 3, 4, 0, 0, 0), (.invokevirtual 104, 5, 83, 4, 0), (.istore 4, 6, 0, 0, 0), (.iload 4, 7, 0, 0, 0), (.iconst (-1), 8, 0, 0, (-1)), (.if_icmp .ne (8), 9, 11, 0, 0), (.ldc 182, 10, 0, 0, (-100000)), (.goto (15), 11, 18, 0, 0), (.aload_n 0, 12, 0, 0, 0), (.getfield 11, 13, 9, 2, 0), (.iload_n 1, 14, 0, 0, 0), (.aaload, 15, 0, 0, 0), (.getfield 183, 16, 3, 2, 2), (.iload 4, 17, 0, 0, 0), (.iaload, 18, 0, 0, 0), (.ireturn, 19, 0, 0, 0)]
def p_C_number : List Nat := [0, 1, 2, 3, 4, 7, 9, 11, 12, 15, 17, 20, 21, 24, 25, 26, 29, 31, 32, 33]
def c_C_worth : List PI := [(.aload_n 0, 1, 0, 0, 0), (.iload_n 1, 2, 0, 0, 0), (.invokevirtual 187, 3, 98, 2, 0), (.ifCond .eq (24), 4, 15, 0, 0), (.aload_n 0, 5, 0, 0, 0), (.iload_n 2, 6, 0, 0, 0), (.iload_n 3, 7, 0, 0, 0), (.iload 4, 8, 0, 0, 0), (.invokevirtual 190, 9, 99, 4, 0), (.ifCond .eq (13), 10, 15, 0, 0), (.iload 5, 11, 0, 0, 0), (.iconst (0), 12, 0, 0, 0), (.iconst (1), 13, 0, 0, 1), (.invokestatic 86, 14, 81, 3, 1), (.ifCond .ne (7), 15, 17, 0, 0), (.ldc2_w 193, 16, 0, 0, (-4611686018427387904)), (.lreturn, 17, 0, 0, 0), (.aload_n 0, 18, 0, 0, 0), (.getfield 11, 19, 9, 2, 0), (.iload_n 1, 20, 0, 0, 0), (.aaload, 21, 0, 0, 0), (.aload_n 0, 22, 0, 0, 0), (.getfield 58, 23, 9, 2, 8), (.invokevirtual 195, 24, 48, 2, 0), (.lstore 6, 25, 0, 0, 0), (.aload_n 0, 26, 0, 0, 0), (.getfield 58, 27, 9, 2, 8), (.invokevirtual 199, 28, 54, 1, 0), (.lstore 8, 29, 0, 0, 0), (.lload 6, 30, 0, 0, 0), (.lload 8, 31, 0, 0, 0), (.invokestatic 203, 32, 94, 2, 1), (.lstore 10, 33, 0, 0, 0), (.iload 5, 34, 0, 0, 0), (.ifCond .ne (8), 35, 37, 0, 0), (.lload 6, 36, 0, 0, 0), (.goto (5), 37, 38, 0, 0), (.lload 8, 38, 0, 0, 0), (.lload 10, 39, 0, 0, 0), (.ldiv, 40, 0, 0, 0), (.lreturn, 41, 0, 0, 0)]
def p_C_worth : List Nat := [0, 1, 2, 5, 8, 9, 10, 11, 13, 16, 19, 21, 22, 23, 26, 29, 32, 33, 34, 37, 38, 39, 40, 43, 46, 48, 49, 52, 55, 57, 59, 61, 64, 66, 68, 71, 73, 76, 78, 80, 81, 82]
def c_C_hasTerms : List PI := [(.aload_n 0, 1, 0, 0, 0), (.iload_n 1, 2, 0, 0, 0), (.invokevirtual 82, 3, 80, 2, 0), (.ifCond .eq (19), 4, 12, 0, 0), (.aload_n 0, 5, 0, 0, 0), (.getfield 11, 6, 9, 2, 0), (.iload_n 1, 7, 0, 0, 0), (.aaload, 8, 0, 0, 0), (.getfield 97, 9, 3, 0, 4), (.ifCond .le (7), 10, 12, 0, 0), (.iconst (1), 11, 0, 0, 1), (.goto (4), 12, 13, 0, 0), (.iconst (0), 13, 0, 0, 0), (.ireturn, 14, 1, 0, 0)]
def p_C_hasTerms : List Nat := [0, 1, 2, 5, 8, 9, 12, 13, 14, 17, 20, 21, 24, 25, 26]
def c_C_goTo : List PI := [(.iload_n 1, 1, 0, 0, 0), (.sipush (-1000), 2, 0, 0, (-1000)), (.sipush (1000), 3, 0, 0, 1000), (.invokestatic 86, 4, 81, 3, 1), (.ifCond .eq (26), 5, 15, 0, 0), (.iload_n 2, 6, 0, 0, 0), (.sipush (-1000), 7, 0, 0, (-1000)), (.sipush (1000), 8, 0, 0, 1000), (.invokestatic 86, 9, 81, 3, 1), (.ifCond .eq (13), 10, 15, 0, 0), (.iload_n 3, 11, 0, 0, 0), (.iconst (1), 12, 0, 0, 1), (.bipush (100), 13, 0, 0, 100), (.invokestatic 86, 14, 81, 3, 1), (.ifCond .ne (5), 15, 17, 0, 0), (.iconst (0), 16, 0, 0, 0), (.ireturn, 17, 1, 0, 0), (.aload_n 0, 18, 0, 0, 0), (.getfield 58, 19, 9, 2, 8), (.iload_n 1, 20, 0, 0, 0), (.i2l, 21, 0, 0, 0), (.iload_n 2, 22, 0, 0, 0), (.i2l, 23, 0, 0, 0), (.iload_n 3, 24, 0, 0, 0), (.i2l, 25, 0, 0, 0), (.invokevirtual 290, 26, 53, 4, 0), (.iconst (1), 27, 0, 0, 1), (.ireturn, 28, 1, 0, 0)]
def p_C_goTo : List Nat := [0, 1, 4, 7, 10, 13, 14, 17, 20, 23, 26, 27, 28, 30, 33, 36, 37, 38, 39, 42, 43, 44, 45, 46, 47, 48, 51, 52, 53]
def c_C_leastAt : List PI := [(.aload_n 0, 1, 0, 0, 0), (.iload_n 1, 2, 0, 0, 0), (.invokevirtual 187, 3, 98, 2, 0), (.ifCond .eq (30), 4, 18, 0, 0), (.aload_n 0, 5, 0, 0, 0), (.iload_n 2, 6, 0, 0, 0), (.iload_n 3, 7, 0, 0, 0), (.iload 4, 8, 0, 0, 0), (.invokevirtual 190, 9, 99, 4, 0), (.ifCond .eq (19), 10, 18, 0, 0), (.aload_n 0, 11, 0, 0, 0), (.getfield 11, 12, 9, 2, 0), (.iload_n 1, 13, 0, 0, 0), (.aaload, 14, 0, 0, 0), (.aload_n 0, 15, 0, 0, 0), (.getfield 58, 16, 9, 2, 8), (.invokevirtual 207, 17, 50, 2, 0), (.goto (5), 18, 19, 0, 0), (.bipush (-2), 19, 0, 0, (-2)), (.ireturn, 20, 0, 0, 0)]
def p_C_leastAt : List Nat := [0, 1, 2, 5, 8, 9, 10, 11, 13, 16, 19, 20, 23, 24, 25, 26, 29, 32, 35, 37, 38]
def c_C_idle : List PI := [(.aload_n 0, 1, 0, 0, 0), (.iload_n 1, 2, 0, 0, 0), (.iload_n 2, 3, 0, 0, 0), (.iload_n 3, 4, 0, 0, 0), (.invokevirtual 104, 5, 83, 4, 0), (.istore 4, 6, 0, 0, 0), (.iload 4, 7, 0, 0, 0), (.iconst (-1), 8, 0, 0, (-1)), (.if_icmp .ne (6), 9, 11, 0, 0), (.bipush (-2), 10, 0, 0, (-2)), (.ireturn, 11, 0, 0, 0), (.aload_n 0, 12, 0, 0, 0), (.iload_n 1, 13, 0, 0, 0), (.invokevirtual 154, 14, 93, 2, 0), (.iload 4, 15, 0, 0, 0), (.invokevirtual 211, 16, 22, 2, 0), (.ifCond .eq (7), 17, 19, 0, 0), (.iconst (1), 18, 0, 0, 1), (.goto (4), 19, 20, 0, 0), (.iconst (0), 20, 0, 0, 0), (.ireturn, 21, 0, 0, 0)]
def p_C_idle : List Nat := [0, 1, 2, 3, 4, 7, 9, 11, 12, 15, 17, 18, 19, 20, 23, 25, 28, 31, 32, 35, 36, 37]
def c_C_same : List PI := [(.aload_n 0, 1, 0, 0, 0), (.iload_n 1, 2, 0, 0, 0), (.invokevirtual 82, 3, 80, 2, 0), (.ifCond .eq (11), 4, 8, 0, 0), (.aload_n 0, 5, 0, 0, 0), (.iload_n 2, 6, 0, 0, 0), (.invokevirtual 82, 7, 80, 2, 0), (.ifCond .ne (6), 8, 10, 0, 0), (.bipush (-2), 9, 0, 0, (-2)), (.ireturn, 10, 0, 0, 0), (.aload_n 0, 11, 0, 0, 0), (.iload_n 1, 12, 0, 0, 0), (.invokevirtual 154, 13, 93, 2, 0), (.astore_n 3, 14, 0, 0, 0), (.aload_n 0, 15, 0, 0, 0), (.iload_n 2, 16, 0, 0, 0), (.invokevirtual 154, 17, 93, 2, 0), (.astore 4, 18, 0, 0, 0), (.aload_n 3, 19, 0, 0, 0), (.aload 4, 20, 0, 0, 0), (.invokevirtual 214, 21, 25, 2, 0), (.ifCond .eq (16), 22, 28, 0, 0), (.aload 4, 23, 0, 0, 0), (.aload_n 3, 24, 0, 0, 0), (.invokevirtual 214, 25, 25, 2, 0), (.ifCond .eq (7), 26, 28, 0, 0), (.iconst (1), 27, 0, 0, 1), (.goto (4), 28, 29, 0, 0), (.iconst (0), 29, 0, 0, 0), (.ireturn, 30, 0, 0, 0)]
def p_C_same : List Nat := [0, 1, 2, 5, 8, 9, 10, 13, 16, 18, 19, 20, 21, 24, 25, 26, 27, 30, 32, 33, 35, 38, 41, 43, 44, 47, 50, 51, 54, 55, 56]
def c_C_edge : List PI := [(.aload_n 0, 1, 0, 0, 0), (.iload_n 1, 2, 0, 0, 0), (.invokevirtual 82, 3, 80, 2, 0), (.ifCond .ne (6), 4, 6, 0, 0), (.ldc 182, 5, 0, 0, (-100000)), (.ireturn, 6, 0, 0, 0), (.aload_n 0, 7, 0, 0, 0), (.iload_n 1, 8, 0, 0, 0), (.invokevirtual 154, 9, 93, 2, 0), (.astore 4, 10, 0, 0, 0), (.iload_n 2, 11, 0, 0, 0), (.iconst (0), 12, 0, 0, 0), (.aload 4, 13, 0, 0, 0), (.getfield 158, 14, 1, 0, 8), (.iconst (1), 15, 0, 0, 1), (.isub, 16, 0, 0, 0), (.invokestatic 86, 17, 81, 3, 1), (.ifCond .ne (6), 18, 20, 0, 0), (.ldc 182, 19, 0, 0, (-100000)), (.ireturn, 20, 0, 0, 0), (.iload_n 3, 21, 0, 0, 0), (.tableswitch (147) (0) (7) #[(47), (54), (61), (68), (75), (93), (111), (129)], 22, 4, 0, 0), (.aload 4, 23, 0, 0, 0), (.iload_n 2, 24, 0, 0, 0), (.invokevirtual 218, 25, 26, 2, 0), (.ireturn, 26, 0, 0, 0), (.aload 4, 27, 0, 0, 0), (.iload_n 2, 28, 0, 0, 0), (.invokevirtual 221, 29, 27, 2, 0), (.ireturn, 30, 0, 0, 0), (.aload 4, 31, 0, 0, 0), (.iload_n 2, 32, 0, 0, 0), (.invokevirtual 224, 33, 19, 2, 0), (.ireturn, 34, 0, 0, 0), (.aload 4, 35, 0, 0, 0), (.iload_n 2, 36, 0, 0, 0), (.invokevirtual 227, 37, 24, 2, 0), (.ireturn, 38, 0, 0, 0), (.aload_n 0, 39, 0, 0, 0), (.getfield 11, 40, 9, 2, 0), (.iload_n 1, 41, 0, 0, 0), (.aaload, 42, 0, 0, 0), (.getfield 230, 43, 3, 2, 0), (.aload 4, 44, 0, 0, 0), (.getfield 233, 45, 1, 2, 4), (.iload_n 2, 46, 0, 0, 0), (.iaload, 47, 0, 0, 0), (.iaload, 48, 0, 0, 0), (.ireturn, 49, 0, 0, 0), (.aload_n 0, 50, 0, 0, 0), (.getfield 11, 51, 9, 2, 0), (.iload_n 1, 52, 0, 0, 0), (.aaload, 53, 0, 0, 0), (.getfield 236, 54, 3, 2, 1), (.aload 4, 55, 0, 0, 0), (.getfield 233, 56, 1, 2, 4), (.iload_n 2, 57, 0, 0, 0), (.iaload, 58, 0, 0, 0), (.iaload, 59, 0, 0, 0), (.ireturn, 60, 0, 0, 0), (.aload_n 0, 61, 0, 0, 0), (.getfield 11, 62, 9, 2, 0), (.iload_n 1, 63, 0, 0, 0), (.aaload, 64, 0, 0, 0), (.getfield 230, 65, 3, 2, 0), (.aload 4, 66, 0, 0, 0), (.getfield 239, 67, 1, 2, 5), (.iload_n 2, 68, 0, 0, 0), (.iaload, 69, 0, 0, 0), (.iaload, 70, 0, 0, 0), (.ireturn, 71, 0, 0, 0), (.aload_n 0, 72, 0, 0, 0), (.getfield 11, 73, 9, 2, 0), (.iload_n 1, 74, 0, 0, 0), (.aaload, 75, 0, 0, 0), (.getfield 236, 76, 3, 2, 1), (.aload 4, 77, 0, 0, 0), (.getfield 239, 78, 1, 2, 5), (.iload_n 2, 79, 0, 0, 0), (.iaload, 80, 0, 0, 0), (.iaload, 81, 0, 0, 0), (.ireturn, 82, 0, 0, 0), (.ldc 182, 83, 0, 0, (-100000)), (.ireturn, 84, 0, 0, 0)]
def p_C_edge : List Nat := [0, 1, 2, 5, 8, 10, 11, 12, 13, 16, 18, 19, 20, 22, 25, 26, 27, 30, 33, 35, 36, 37, 84, 86, 87, 90, 91, 93, 94, 97, 98, 100, 101, 104, 105, 107, 108, 111, 112, 113, 116, 117, 118, 121, 123, 126, 127, 128, 129, 130, 131, 134, 135, 136, 139, 141, 144, 145, 146, 147, 148, 149, 152, 153, 154, 157, 159, 162, 163, 164, 165, 166, 167, 170, 171, 172, 175, 177, 180, 181, 182, 183, 184, 186, 187]
def c_C_end : List PI := [(.aload_n 0, 1, 0, 0, 0), (.iload_n 1, 2, 0, 0, 0), (.invokevirtual 82, 3, 80, 2, 0), (.ifCond .eq (22), 4, 14, 0, 0), (.iload_n 3, 5, 0, 0, 0), (.iconst (0), 6, 0, 0, 0), (.iconst (1), 7, 0, 0, 1), (.invokestatic 86, 8, 81, 3, 1), (.ifCond .eq (13), 9, 14, 0, 0), (.iload 4, 10, 0, 0, 0), (.iconst (0), 11, 0, 0, 0), (.iconst (3), 12, 0, 0, 3), (.invokestatic 86, 13, 81, 3, 1), (.ifCond .ne (7), 14, 16, 0, 0), (.ldc2_w 193, 15, 0, 0, (-4611686018427387904)), (.lreturn, 16, 0, 0, 0), (.aload_n 0, 17, 0, 0, 0), (.iload_n 1, 18, 0, 0, 0), (.invokevirtual 154, 19, 93, 2, 0), (.astore 5, 20, 0, 0, 0), (.iload_n 2, 21, 0, 0, 0), (.iconst (0), 22, 0, 0, 0), (.aload 5, 23, 0, 0, 0), (.getfield 158, 24, 1, 0, 8), (.iconst (1), 25, 0, 0, 1), (.isub, 26, 0, 0, 0), (.invokestatic 86, 27, 81, 3, 1), (.ifCond .ne (7), 28, 30, 0, 0), (.ldc2_w 193, 29, 0, 0, (-4611686018427387904)), (.lreturn, 30, 0, 0, 0), (.iload_n 3, 31, 0, 0, 0), (.ifCond .ne (13), 32, 37, 0, 0), (.aload 5, 33, 0, 0, 0), (.getfield 242, 34, 1, 2, 6), (.iload_n 2, 35, 0, 0, 0), (.iaload, 36, 0, 0, 0), (.goto (10), 37, 41, 0, 0), (.aload 5, 38, 0, 0, 0), (.getfield 245, 39, 1, 2, 7), (.iload_n 2, 40, 0, 0, 0), (.iaload, 41, 0, 0, 0), (.istore 6, 42, 0, 0, 0), (.iload 6, 43, 0, 0, 0), (.iconst (-1), 44, 0, 0, (-1)), (.if_icmp .ne (9), 45, 47, 0, 0), (.ldc2_w 193, 46, 0, 0, (-4611686018427387904)), (.goto (15), 47, 52, 0, 0), (.aload 5, 48, 0, 0, 0), (.getfield 161, 49, 1, 2, 3), (.iload 6, 50, 0, 0, 0), (.iload 4, 51, 0, 0, 0), (.invokevirtual 248, 52, 63, 3, 0), (.lreturn, 53, 0, 0, 0)]
def p_C_end : List Nat := [0, 1, 2, 5, 8, 9, 10, 11, 14, 17, 19, 20, 21, 24, 27, 30, 31, 32, 33, 36, 38, 39, 40, 42, 45, 46, 47, 50, 53, 56, 57, 58, 61, 63, 66, 67, 68, 71, 73, 76, 77, 78, 80, 82, 83, 86, 89, 92, 94, 97, 99, 101, 104, 105]
def c_C_corner : List PI := [(.aload_n 0, 1, 0, 0, 0), (.iload_n 1, 2, 0, 0, 0), (.invokevirtual 82, 3, 80, 2, 0), (.ifCond .eq (13), 4, 9, 0, 0), (.iload_n 3, 5, 0, 0, 0), (.iconst (0), 6, 0, 0, 0), (.bipush (6), 7, 0, 0, 6), (.invokestatic 86, 8, 81, 3, 1), (.ifCond .ne (7), 9, 11, 0, 0), (.ldc2_w 193, 10, 0, 0, (-4611686018427387904)), (.lreturn, 11, 0, 0, 0), (.aload_n 0, 12, 0, 0, 0), (.iload_n 1, 13, 0, 0, 0), (.invokevirtual 154, 14, 93, 2, 0), (.astore 4, 15, 0, 0, 0), (.iload_n 2, 16, 0, 0, 0), (.iconst (0), 17, 0, 0, 0), (.aload 4, 18, 0, 0, 0), (.getfield 161, 19, 1, 2, 3), (.getfield 165, 20, 5, 0, 5), (.iconst (1), 21, 0, 0, 1), (.isub, 22, 0, 0, 0), (.invokestatic 86, 23, 81, 3, 1), (.ifCond .ne (7), 24, 26, 0, 0), (.ldc2_w 193, 25, 0, 0, (-4611686018427387904)), (.lreturn, 26, 0, 0, 0), (.iload_n 3, 27, 0, 0, 0), (.tableswitch (52) (4) (6) #[(28), (36), (44)], 28, 5, 0, 0), (.aload 4, 29, 0, 0, 0), (.iload_n 2, 30, 0, 0, 0), (.invokevirtual 252, 31, 28, 2, 0), (.i2l, 32, 0, 0, 0), (.lreturn, 33, 0, 0, 0), (.aload 4, 34, 0, 0, 0), (.iload_n 2, 35, 0, 0, 0), (.invokevirtual 255, 36, 20, 2, 0), (.i2l, 37, 0, 0, 0), (.lreturn, 38, 0, 0, 0), (.aload 4, 39, 0, 0, 0), (.iload_n 2, 40, 0, 0, 0), (.invokevirtual 258, 41, 29, 2, 0), (.i2l, 42, 0, 0, 0), (.lreturn, 43, 0, 0, 0), (.aload 4, 44, 0, 0, 0), (.getfield 161, 45, 1, 2, 3), (.iload_n 2, 46, 0, 0, 0), (.iload_n 3, 47, 0, 0, 0), (.invokevirtual 248, 48, 63, 3, 0), (.lreturn, 49, 0, 0, 0)]
def p_C_corner : List Nat := [0, 1, 2, 5, 8, 9, 10, 12, 15, 18, 21, 22, 23, 24, 27, 29, 30, 31, 33, 36, 39, 40, 41, 44, 47, 50, 51, 52, 80, 82, 83, 86, 87, 88, 90, 91, 94, 95, 96, 98, 99, 102, 103, 104, 106, 109, 110, 111, 114, 115]
def c_C_amount : List PI := [(.aload_n 0, 1, 0, 0, 0), (.iload_n 1, 2, 0, 0, 0), (.invokevirtual 82, 3, 80, 2, 0), (.ifCond .eq (11), 4, 8, 0, 0), (.aload_n 0, 5, 0, 0, 0), (.iload_n 2, 6, 0, 0, 0), (.invokevirtual 82, 7, 80, 2, 0), (.ifCond .ne (6), 8, 10, 0, 0), (.bipush (-2), 9, 0, 0, (-2)), (.ireturn, 10, 0, 0, 0), (.aload_n 0, 11, 0, 0, 0), (.iload_n 1, 12, 0, 0, 0), (.invokevirtual 187, 13, 98, 2, 0), (.ifCond .eq (11), 14, 18, 0, 0), (.aload_n 0, 15, 0, 0, 0), (.iload_n 2, 16, 0, 0, 0), (.invokevirtual 187, 17, 98, 2, 0), (.ifCond .ne (6), 18, 20, 0, 0), (.bipush (-3), 19, 0, 0, (-3)), (.ireturn, 20, 0, 0, 0), (.aload_n 0, 21, 0, 0, 0), (.getfield 41, 22, 9, 2, 5), (.aload_n 0, 23, 0, 0, 0), (.getfield 11, 24, 9, 2, 0), (.iload_n 1, 25, 0, 0, 0), (.aaload, 26, 0, 0, 0), (.invokevirtual 112, 27, 33, 2, 0), (.aload_n 0, 28, 0, 0, 0), (.getfield 45, 29, 9, 2, 6), (.aload_n 0, 30, 0, 0, 0), (.getfield 41, 31, 9, 2, 5), (.aload_n 0, 32, 0, 0, 0), (.getfield 11, 33, 9, 2, 0), (.iload_n 2, 34, 0, 0, 0), (.aaload, 35, 0, 0, 0), (.invokevirtual 116, 36, 36, 3, 0), (.ifCond .ne (6), 37, 39, 0, 0), (.bipush (-3), 38, 0, 0, (-3)), (.ireturn, 39, 0, 0, 0), (.aload_n 0, 40, 0, 0, 0), (.getfield 34, 41, 9, 2, 4), (.invokevirtual 261, 42, 65, 1, 0), (.iconst (0), 43, 0, 0, 0), (.istore_n 3, 44, 0, 0, 0), (.iload_n 3, 45, 0, 0, 0), (.bipush (81), 46, 0, 0, 81), (.if_icmp .ge (35), 47, 63, 0, 0), (.aload_n 0, 48, 0, 0, 0), (.getfield 45, 49, 9, 2, 6), (.iload_n 3, 50, 0, 0, 0), (.invokevirtual 262, 51, 37, 2, 0), (.ifCond .eq (18), 52, 61, 0, 0), (.aload_n 0, 53, 0, 0, 0), (.getfield 34, 54, 9, 2, 4), (.iload_n 3, 55, 0, 0, 0), (.bipush (9), 56, 0, 0, 9), (.idiv, 57, 0, 0, 0), (.iload_n 3, 58, 0, 0, 0), (.bipush (9), 59, 0, 0, 9), (.irem, 60, 0, 0, 0), (.invokevirtual 265, 61, 66, 3, 0), (.iinc 3 (1), 62, 0, 0, 1), (.goto (-35), 63, 44, 0, 0), (.aload_n 0, 64, 0, 0, 0), (.getfield 34, 65, 9, 2, 4), (.invokevirtual 268, 66, 67, 1, 0), (.istore_n 3, 67, 0, 0, 0), (.iload_n 3, 68, 0, 0, 0), (.aload_n 0, 69, 0, 0, 0), (.aload_n 0, 70, 0, 0, 0), (.getfield 11, 71, 9, 2, 0), (.iload_n 1, 72, 0, 0, 0), (.aaload, 73, 0, 0, 0), (.invokevirtual 168, 74, 95, 2, 0), (.isub, 75, 0, 0, 0), (.aload_n 0, 76, 0, 0, 0), (.aload_n 0, 77, 0, 0, 0), (.getfield 11, 78, 9, 2, 0), (.iload_n 2, 79, 0, 0, 0), (.aaload, 80, 0, 0, 0), (.invokevirtual 168, 81, 95, 2, 0), (.isub, 82, 0, 0, 0), (.iconst (2), 83, 0, 0, 2), (.idiv, 84, 0, 0, 0), (.ireturn, 85, 0, 0, 0)]
def p_C_amount : List Nat := [0, 1, 2, 5, 8, 9, 10, 13, 16, 18, 19, 20, 21, 24, 27, 28, 29, 32, 35, 37, 38, 39, 42, 43, 46, 47, 48, 51, 52, 55, 56, 59, 60, 63, 64, 65, 68, 71, 73, 74, 75, 78, 81, 82, 83, 84, 86, 89, 90, 93, 94, 97, 100, 101, 104, 105, 107, 108, 109, 111, 112, 115, 118, 121, 122, 125, 128, 129, 130, 131, 132, 135, 136, 137, 140, 141, 142, 143, 146, 147, 148, 151, 152, 153, 154, 155]
def c_C_meets : List PI := [(.aload_n 0, 1, 0, 0, 0), (.iload_n 1, 2, 0, 0, 0), (.invokevirtual 82, 3, 80, 2, 0), (.ifCond .eq (11), 4, 8, 0, 0), (.aload_n 0, 5, 0, 0, 0), (.iload_n 2, 6, 0, 0, 0), (.invokevirtual 82, 7, 80, 2, 0), (.ifCond .ne (6), 8, 10, 0, 0), (.bipush (-2), 9, 0, 0, (-2)), (.ireturn, 10, 0, 0, 0), (.aload_n 0, 11, 0, 0, 0), (.getfield 51, 12, 9, 2, 7), (.aload_n 0, 13, 0, 0, 0), (.iload_n 1, 14, 0, 0, 0), (.invokevirtual 154, 15, 93, 2, 0), (.aload_n 0, 16, 0, 0, 0), (.iload_n 2, 17, 0, 0, 0), (.invokevirtual 154, 18, 93, 2, 0), (.invokevirtual 271, 19, 1, 3, 0), (.ifCond .eq (16), 20, 25, 0, 0), (.aload_n 0, 21, 0, 0, 0), (.getfield 51, 22, 9, 2, 7), (.getfield 275, 23, 0, 2, 0), (.getfield 165, 24, 5, 0, 5), (.goto (5), 25, 26, 0, 0), (.bipush (-3), 26, 0, 0, (-3)), (.ireturn, 27, 0, 0, 0)]
def p_C_meets : List Nat := [0, 1, 2, 5, 8, 9, 10, 13, 16, 18, 19, 20, 23, 24, 25, 28, 29, 30, 33, 36, 39, 40, 43, 46, 49, 52, 54, 55]
def c_C_meet : List PI := [(.aload_n 0, 1, 0, 0, 0), (.iload_n 1, 2, 0, 0, 0), (.invokevirtual 82, 3, 80, 2, 0), (.ifCond .eq (21), 4, 13, 0, 0), (.aload_n 0, 5, 0, 0, 0), (.iload_n 2, 6, 0, 0, 0), (.invokevirtual 82, 7, 80, 2, 0), (.ifCond .eq (13), 8, 13, 0, 0), (.iload 4, 9, 0, 0, 0), (.iconst (0), 10, 0, 0, 0), (.iconst (4), 11, 0, 0, 4), (.invokestatic 86, 12, 81, 3, 1), (.ifCond .ne (7), 13, 15, 0, 0), (.ldc2_w 193, 14, 0, 0, (-4611686018427387904)), (.lreturn, 15, 0, 0, 0), (.aload_n 0, 16, 0, 0, 0), (.getfield 51, 17, 9, 2, 7), (.aload_n 0, 18, 0, 0, 0), (.iload_n 1, 19, 0, 0, 0), (.invokevirtual 154, 20, 93, 2, 0), (.aload_n 0, 21, 0, 0, 0), (.iload_n 2, 22, 0, 0, 0), (.invokevirtual 154, 23, 93, 2, 0), (.invokevirtual 271, 24, 1, 3, 0), (.ifCond .eq (23), 25, 35, 0, 0), (.iload_n 3, 26, 0, 0, 0), (.iconst (0), 27, 0, 0, 0), (.aload_n 0, 28, 0, 0, 0), (.getfield 51, 29, 9, 2, 7), (.getfield 275, 30, 0, 2, 0), (.getfield 165, 31, 5, 0, 5), (.iconst (1), 32, 0, 0, 1), (.isub, 33, 0, 0, 0), (.invokestatic 86, 34, 81, 3, 1), (.ifCond .ne (7), 35, 37, 0, 0), (.ldc2_w 193, 36, 0, 0, (-4611686018427387904)), (.lreturn, 37, 0, 0, 0), (.iload 4, 38, 0, 0, 0), (.iconst (4), 39, 0, 0, 4), (.if_icmp .ne (16), 40, 47, 0, 0), (.aload_n 0, 41, 0, 0, 0), (.getfield 51, 42, 9, 2, 7), (.getfield 278, 43, 0, 2, 1), (.iload_n 3, 44, 0, 0, 0), (.iaload, 45, 0, 0, 0), (.i2l, 46, 0, 0, 0), (.goto (16), 47, 53, 0, 0), (.aload_n 0, 48, 0, 0, 0), (.getfield 51, 49, 9, 2, 7), (.getfield 275, 50, 0, 2, 0), (.iload_n 3, 51, 0, 0, 0), (.iload 4, 52, 0, 0, 0), (.invokevirtual 248, 53, 63, 3, 0), (.lreturn, 54, 0, 0, 0)]
def p_C_meet : List Nat := [0, 1, 2, 5, 8, 9, 10, 13, 16, 18, 19, 20, 23, 26, 29, 30, 31, 34, 35, 36, 39, 40, 41, 44, 47, 50, 51, 52, 53, 56, 59, 62, 63, 64, 67, 70, 73, 74, 76, 77, 80, 81, 84, 87, 88, 89, 90, 93, 94, 97, 100, 101, 103, 106, 107]
def c_C_root : List PI := [(.aload_n 0, 1, 0, 0, 0), (.iload_n 1, 2, 0, 0, 0), (.invokevirtual 82, 3, 80, 2, 0), (.ifCond .eq (24), 4, 15, 0, 0), (.iload_n 3, 5, 0, 0, 0), (.iconst (0), 6, 0, 0, 0), (.iconst (2), 7, 0, 0, 2), (.invokestatic 86, 8, 81, 3, 1), (.ifCond .eq (15), 9, 15, 0, 0), (.aload_n 0, 10, 0, 0, 0), (.getfield 11, 11, 9, 2, 0), (.iload_n 1, 12, 0, 0, 0), (.aaload, 13, 0, 0, 0), (.invokevirtual 281, 14, 51, 1, 0), (.ifCond .ne (7), 15, 17, 0, 0), (.ldc2_w 193, 16, 0, 0, (-4611686018427387904)), (.lreturn, 17, 0, 0, 0), (.aload_n 0, 18, 0, 0, 0), (.iload_n 1, 19, 0, 0, 0), (.invokevirtual 154, 20, 93, 2, 0), (.astore 4, 21, 0, 0, 0), (.iload_n 2, 22, 0, 0, 0), (.iconst (0), 23, 0, 0, 0), (.aload 4, 24, 0, 0, 0), (.getfield 158, 25, 1, 0, 8), (.iconst (1), 26, 0, 0, 1), (.isub, 27, 0, 0, 0), (.invokestatic 86, 28, 81, 3, 1), (.ifCond .ne (7), 29, 31, 0, 0), (.ldc2_w 193, 30, 0, 0, (-4611686018427387904)), (.lreturn, 31, 0, 0, 0), (.aload 4, 32, 0, 0, 0), (.getfield 158, 33, 1, 0, 8), (.iconst (1), 34, 0, 0, 1), (.isub, 35, 0, 0, 0), (.iload_n 2, 36, 0, 0, 0), (.isub, 37, 0, 0, 0), (.istore 5, 38, 0, 0, 0), (.iload_n 3, 39, 0, 0, 0), (.iconst (2), 40, 0, 0, 2), (.if_icmp .ne (12), 41, 46, 0, 0), (.aload 4, 42, 0, 0, 0), (.iload 5, 43, 0, 0, 0), (.invokevirtual 224, 44, 19, 2, 0), (.i2l, 45, 0, 0, 0), (.lreturn, 46, 0, 0, 0), (.aload_n 0, 47, 0, 0, 0), (.getfield 58, 48, 9, 2, 8), (.aload 4, 49, 0, 0, 0), (.iload 5, 50, 0, 0, 0), (.invokevirtual 284, 51, 17, 2, 0), (.i2l, 52, 0, 0, 0), (.lconst 0, 53, 0, 0, 0), (.aload 4, 54, 0, 0, 0), (.iload 5, 55, 0, 0, 0), (.invokevirtual 287, 56, 15, 2, 0), (.i2l, 57, 0, 0, 0), (.invokevirtual 290, 58, 53, 4, 0), (.iload_n 3, 59, 0, 0, 0), (.ifCond .ne (13), 60, 64, 0, 0), (.aload_n 0, 61, 0, 0, 0), (.getfield 58, 62, 9, 2, 8), (.getfield 294, 63, 4, 1, 0), (.goto (10), 64, 67, 0, 0), (.aload_n 0, 65, 0, 0, 0), (.getfield 58, 66, 9, 2, 8), (.getfield 298, 67, 4, 1, 1), (.lreturn, 68, 0, 0, 0)]
def p_C_root : List Nat := [0, 1, 2, 5, 8, 9, 10, 11, 14, 17, 18, 21, 22, 23, 26, 29, 32, 33, 34, 35, 38, 40, 41, 42, 44, 47, 48, 49, 52, 55, 58, 59, 61, 64, 65, 66, 67, 68, 70, 71, 72, 75, 77, 79, 82, 83, 84, 85, 88, 90, 92, 95, 96, 97, 99, 101, 104, 105, 108, 109, 112, 113, 116, 119, 122, 123, 126, 129, 130]
def c_C_write : List PI := [(.aload_n 0, 1, 0, 0, 0), (.iload_n 1, 2, 0, 0, 0), (.invokevirtual 82, 3, 80, 2, 0), (.ifCond .ne (6), 4, 6, 0, 0), (.bipush (-2), 5, 0, 0, (-2)), (.ireturn, 6, 0, 0, 0), (.aload_n 0, 7, 0, 0, 0), (.iload_n 1, 8, 0, 0, 0), (.invokevirtual 154, 9, 93, 2, 0), (.astore_n 2, 10, 0, 0, 0), (.aload_n 0, 11, 0, 0, 0), (.aload_n 2, 12, 0, 0, 0), (.invokevirtual 301, 13, 30, 1, 0), (.putfield 304, 14, 9, 0, 11), (.iconst (0), 15, 0, 0, 0), (.istore_n 3, 16, 0, 0, 0), (.iload_n 3, 17, 0, 0, 0), (.aload_n 0, 18, 0, 0, 0), (.getfield 304, 19, 9, 0, 11), (.if_icmp .ge (20), 20, 29, 0, 0), (.aload_n 0, 21, 0, 0, 0), (.getfield 27, 22, 9, 2, 3), (.iload_n 3, 23, 0, 0, 0), (.aload_n 2, 24, 0, 0, 0), (.iload_n 3, 25, 0, 0, 0), (.invokevirtual 307, 26, 31, 2, 0), (.lastore, 27, 0, 0, 0), (.iinc 3 (1), 28, 0, 0, 1), (.goto (-22), 29, 16, 0, 0), (.aload_n 0, 30, 0, 0, 0), (.getfield 304, 31, 9, 0, 11), (.ireturn, 32, 0, 0, 0)]
def p_C_write : List Nat := [0, 1, 2, 5, 8, 10, 11, 12, 13, 16, 17, 18, 19, 22, 25, 26, 27, 28, 29, 32, 35, 36, 39, 40, 41, 42, 45, 46, 49, 52, 53, 56, 57]
def c_C_row : List PI := [(.iload_n 1, 1, 0, 0, 0), (.iconst (0), 2, 0, 0, 0), (.aload_n 0, 3, 0, 0, 0), (.getfield 304, 4, 9, 0, 11), (.iconst (1), 5, 0, 0, 1), (.isub, 6, 0, 0, 0), (.invokestatic 86, 7, 81, 3, 1), (.ifCond .eq (12), 8, 13, 0, 0), (.aload_n 0, 9, 0, 0, 0), (.getfield 27, 10, 9, 2, 3), (.iload_n 1, 11, 0, 0, 0), (.laload, 12, 0, 0, 0), (.goto (6), 13, 14, 0, 0), (.ldc2_w 193, 14, 0, 0, (-4611686018427387904)), (.lreturn, 15, 0, 0, 0)]
def p_C_row : List Nat := [0, 1, 2, 3, 6, 7, 8, 11, 14, 15, 18, 19, 20, 23, 26, 27]
def c_C_forge : List PI := [(.iload_n 1, 1, 0, 0, 0), (.iconst (0), 2, 0, 0, 0), (.aload_n 0, 3, 0, 0, 0), (.getfield 304, 4, 9, 0, 11), (.iconst (1), 5, 0, 0, 1), (.isub, 6, 0, 0, 0), (.invokestatic 86, 7, 81, 3, 1), (.ifCond .ne (6), 8, 10, 0, 0), (.bipush (-2), 9, 0, 0, (-2)), (.ireturn, 10, 0, 0, 0), (.aload_n 0, 11, 0, 0, 0), (.getfield 27, 12, 9, 2, 3), (.iload_n 1, 13, 0, 0, 0), (.lload_n 2, 14, 0, 0, 0), (.lastore, 15, 0, 0, 0), (.iconst (1), 16, 0, 0, 1), (.ireturn, 17, 0, 0, 0)]
def p_C_forge : List Nat := [0, 1, 2, 3, 6, 7, 8, 11, 14, 16, 17, 18, 21, 22, 23, 24, 25, 26]
def c_C_check : List PI := [(.aload_n 0, 1, 0, 0, 0), (.iload_n 1, 2, 0, 0, 0), (.invokevirtual 82, 3, 80, 2, 0), (.ifCond .ne (6), 4, 6, 0, 0), (.bipush (-2), 5, 0, 0, (-2)), (.ireturn, 6, 0, 0, 0), (.aload_n 0, 7, 0, 0, 0), (.iload_n 1, 8, 0, 0, 0), (.invokevirtual 154, 9, 93, 2, 0), (.astore_n 2, 10, 0, 0, 0), (.aload_n 2, 11, 0, 0, 0), (.invokevirtual 301, 12, 30, 1, 0), (.istore_n 3, 13, 0, 0, 0), (.iload_n 3, 14, 0, 0, 0), (.aload_n 0, 15, 0, 0, 0), (.getfield 304, 16, 9, 0, 11), (.invokestatic 311, 17, 209, 2, 1), (.istore 4, 18, 0, 0, 0), (.iconst (0), 19, 0, 0, 0), (.istore 5, 20, 0, 0, 0), (.iload 5, 21, 0, 0, 0), (.iload 4, 22, 0, 0, 0), (.if_icmp .ge (29), 23, 36, 0, 0), (.aload_n 0, 24, 0, 0, 0), (.getfield 27, 25, 9, 2, 3), (.iload 5, 26, 0, 0, 0), (.laload, 27, 0, 0, 0), (.aload_n 2, 28, 0, 0, 0), (.iload 5, 29, 0, 0, 0), (.invokevirtual 307, 30, 31, 2, 0), (.lcmp, 31, 0, 0, 0), (.ifCond .eq (6), 32, 34, 0, 0), (.iload 5, 33, 0, 0, 0), (.ireturn, 34, 0, 0, 0), (.iinc 5 (1), 35, 0, 0, 1), (.goto (-30), 36, 20, 0, 0), (.iload_n 3, 37, 0, 0, 0), (.aload_n 0, 38, 0, 0, 0), (.getfield 304, 39, 9, 0, 11), (.if_icmp .ne (7), 40, 42, 0, 0), (.iconst (-1), 41, 0, 0, (-1)), (.goto (5), 42, 43, 0, 0), (.iload 4, 43, 0, 0, 0), (.ireturn, 44, 0, 0, 0)]
def p_C_check : List Nat := [0, 1, 2, 5, 8, 10, 11, 12, 13, 16, 17, 18, 21, 22, 23, 24, 27, 30, 32, 33, 35, 37, 39, 42, 43, 46, 48, 49, 50, 52, 55, 56, 59, 61, 62, 65, 68, 69, 70, 73, 76, 77, 80, 82, 83]
def c_C_act : List PI := [(.aload_n 0, 1, 0, 0, 0), (.getfield 65, 2, 9, 2, 9), (.iconst (0), 3, 0, 0, 0), (.putfield 316, 4, 8, 0, 1), (.aload_n 0, 5, 0, 0, 0), (.iload_n 1, 6, 0, 0, 0), (.invokevirtual 82, 7, 80, 2, 0), (.ifCond .eq (12), 8, 13, 0, 0), (.iload_n 2, 9, 0, 0, 0), (.iconst (0), 10, 0, 0, 0), (.iconst (2), 11, 0, 0, 2), (.invokestatic 86, 12, 81, 3, 1), (.ifCond .ne (5), 13, 15, 0, 0), (.iconst (0), 14, 0, 0, 0), (.ireturn, 15, 0, 0, 0), (.aload_n 0, 16, 0, 0, 0), (.getfield 65, 17, 9, 2, 9), (.iload_n 1, 18, 0, 0, 0), (.putfield 319, 19, 8, 0, 2), (.aload_n 0, 20, 0, 0, 0), (.getfield 65, 21, 9, 2, 9), (.aload_n 0, 22, 0, 0, 0), (.getfield 11, 23, 9, 2, 0), (.iload_n 1, 24, 0, 0, 0), (.aaload, 25, 0, 0, 0), (.getfield 90, 26, 3, 0, 3), (.putfield 322, 27, 8, 0, 3), (.aload_n 0, 28, 0, 0, 0), (.getfield 65, 29, 9, 2, 9), (.aload_n 0, 30, 0, 0, 0), (.getfield 11, 31, 9, 2, 0), (.iload_n 1, 32, 0, 0, 0), (.aaload, 33, 0, 0, 0), (.getfield 97, 34, 3, 0, 4), (.putfield 323, 35, 8, 0, 4), (.aload_n 0, 36, 0, 0, 0), (.getfield 65, 37, 9, 2, 9), (.aload_n 0, 38, 0, 0, 0), (.getfield 65, 39, 9, 2, 9), (.iload_n 2, 40, 0, 0, 0), (.invokevirtual 324, 41, 74, 2, 0), (.iload_n 3, 42, 0, 0, 0), (.iconst (0), 43, 0, 0, 0), (.invokestatic 327, 44, 115, 4, 1), (.ireturn, 45, 0, 0, 0)]
def p_C_act : List Nat := [0, 1, 4, 5, 8, 9, 10, 13, 16, 17, 18, 19, 22, 25, 26, 27, 28, 31, 32, 35, 36, 39, 40, 43, 44, 45, 48, 51, 52, 55, 56, 59, 60, 61, 64, 67, 68, 71, 72, 75, 76, 79, 80, 81, 84, 85]
def c_C_runBody : List PI := [(.iload_n 3, 1, 0, 0, 0), (.bipush (16), 2, 0, 0, 16), (.if_icmp .le (5), 3, 5, 0, 0), (.iconst (0), 4, 0, 0, 0), (.ireturn, 5, 0, 0, 0), (.aload_n 0, 6, 0, 0, 0), (.iload_n 1, 7, 0, 0, 0), (.invokevirtual 367, 8, 75, 2, 0), (.iload_n 3, 9, 0, 0, 0), (.iconst (1), 10, 0, 0, 1), (.iadd, 11, 0, 0, 0), (.istore 4, 12, 0, 0, 0), (.iload_n 1, 13, 0, 0, 0), (.lookupswitch (209) #[((10), (73)), ((11), (80)), ((12), (95)), ((20), (126)), ((21), (139)), ((30), (162)), ((31), (174)), ((40), (186))], 14, 6, 0, 0), (.iload_n 2, 15, 0, 0, 0), (.aload_n 0, 16, 0, 0, 0), (.getfield 323, 17, 8, 0, 4), (.iadd, 18, 0, 0, 0), (.ireturn, 19, 0, 0, 0), (.aload_n 0, 20, 0, 0, 0), (.aload_n 0, 21, 0, 0, 0), (.iconst (0), 22, 0, 0, 0), (.invokevirtual 324, 23, 74, 2, 0), (.iload_n 2, 24, 0, 0, 0), (.iload 4, 25, 0, 0, 0), (.invokestatic 327, 26, 115, 4, 1), (.iconst (3), 27, 0, 0, 3), (.imul, 28, 0, 0, 0), (.ireturn, 29, 0, 0, 0), (.aload_n 0, 30, 0, 0, 0), (.aload_n 0, 31, 0, 0, 0), (.iconst (1), 32, 0, 0, 1), (.invokevirtual 324, 33, 74, 2, 0), (.iload_n 2, 34, 0, 0, 0), (.iload 4, 35, 0, 0, 0), (.invokestatic 327, 36, 115, 4, 1), (.aload_n 0, 37, 0, 0, 0), (.aload_n 0, 38, 0, 0, 0), (.iconst (0), 39, 0, 0, 0), (.invokevirtual 324, 40, 74, 2, 0), (.iload_n 2, 41, 0, 0, 0), (.aload_n 0, 42, 0, 0, 0), (.getfield 319, 43, 8, 0, 2), (.iadd, 44, 0, 0, 0), (.iload 4, 45, 0, 0, 0), (.invokestatic 327, 46, 115, 4, 1), (.isub, 47, 0, 0, 0), (.ireturn, 48, 0, 0, 0), (.aload_n 0, 49, 0, 0, 0), (.bipush (10), 50, 0, 0, 10), (.iload_n 2, 51, 0, 0, 0), (.iload 4, 52, 0, 0, 0), (.invokestatic 327, 53, 115, 4, 1), (.bipush (7), 54, 0, 0, 7), (.ixor, 55, 0, 0, 0), (.ireturn, 56, 0, 0, 0), (.aload_n 0, 57, 0, 0, 0), (.bipush (12), 58, 0, 0, 12), (.iload_n 2, 59, 0, 0, 0), (.iload 4, 60, 0, 0, 0), (.invokestatic 327, 61, 115, 4, 1), (.aload_n 0, 62, 0, 0, 0), (.aload_n 0, 63, 0, 0, 0), (.iconst (0), 64, 0, 0, 0), (.invokevirtual 324, 65, 74, 2, 0), (.iconst (0), 66, 0, 0, 0), (.iload 4, 67, 0, 0, 0), (.invokestatic 327, 68, 115, 4, 1), (.iadd, 69, 0, 0, 0), (.ireturn, 70, 0, 0, 0), (.aload_n 0, 71, 0, 0, 0), (.bipush (11), 72, 0, 0, 11), (.iload_n 2, 73, 0, 0, 0), (.iconst (1), 74, 0, 0, 1), (.isub, 75, 0, 0, 0), (.iload 4, 76, 0, 0, 0), (.invokestatic 327, 77, 115, 4, 1), (.ireturn, 78, 0, 0, 0), (.aload_n 0, 79, 0, 0, 0), (.bipush (20), 80, 0, 0, 20), (.iload_n 2, 81, 0, 0, 0), (.iload 4, 82, 0, 0, 0), (.invokestatic 327, 83, 115, 4, 1), (.iconst (2), 84, 0, 0, 2), (.imul, 85, 0, 0, 0), (.ireturn, 86, 0, 0, 0), (.aload_n 0, 87, 0, 0, 0), (.bipush (12), 88, 0, 0, 12), (.iload_n 2, 89, 0, 0, 0), (.iload 4, 90, 0, 0, 0), (.invokestatic 327, 91, 115, 4, 1), (.aload_n 0, 92, 0, 0, 0), (.aload_n 0, 93, 0, 0, 0), (.iconst (1), 94, 0, 0, 1), (.invokevirtual 324, 95, 74, 2, 0), (.iload_n 2, 96, 0, 0, 0), (.iload 4, 97, 0, 0, 0), (.invokestatic 327, 98, 115, 4, 1), (.ixor, 99, 0, 0, 0), (.ireturn, 100, 0, 0, 0), (.iconst (0), 101, 0, 0, 0), (.ireturn, 102, 0, 0, 0)]
def p_C_runBody : List Nat := [0, 1, 3, 6, 7, 8, 9, 10, 13, 14, 15, 16, 18, 19, 92, 93, 94, 97, 98, 99, 100, 101, 102, 105, 106, 108, 111, 112, 113, 114, 115, 116, 117, 120, 121, 123, 126, 127, 128, 129, 132, 133, 134, 137, 138, 140, 143, 144, 145, 146, 148, 149, 151, 154, 156, 157, 158, 159, 161, 162, 164, 167, 168, 169, 170, 173, 174, 176, 179, 180, 181, 182, 184, 185, 186, 187, 189, 192, 193, 194, 196, 197, 199, 202, 203, 204, 205, 206, 208, 209, 211, 214, 215, 216, 217, 220, 221, 223, 226, 227, 228, 229, 230]
def c_C_trace : List PI := [(.iload_n 1, 1, 0, 0, 0), (.iconst (0), 2, 0, 0, 0), (.aload_n 0, 3, 0, 0, 0), (.getfield 65, 4, 9, 2, 9), (.getfield 316, 5, 8, 0, 1), (.bipush (40), 6, 0, 0, 40), (.invokestatic 311, 7, 209, 2, 1), (.iconst (1), 8, 0, 0, 1), (.isub, 9, 0, 0, 0), (.invokestatic 86, 10, 81, 3, 1), (.ifCond .eq (15), 11, 17, 0, 0), (.aload_n 0, 12, 0, 0, 0), (.getfield 65, 13, 9, 2, 9), (.getfield 331, 14, 8, 2, 0), (.iload_n 1, 15, 0, 0, 0), (.iaload, 16, 0, 0, 0), (.goto (4), 17, 18, 0, 0), (.iconst (-1), 18, 0, 0, (-1)), (.ireturn, 19, 0, 0, 0)]
def p_C_trace : List Nat := [0, 1, 2, 3, 6, 9, 11, 14, 15, 16, 19, 22, 23, 26, 29, 30, 31, 34, 35, 36]
def c_C_count : List PI := [(.iload_n 1, 1, 0, 0, 0), (.tableswitch (45) (0) (2) #[(27), (32), (37)], 2, 7, 0, 0), (.aload_n 0, 3, 0, 0, 0), (.getfield 74, 4, 9, 0, 10), (.ireturn, 5, 0, 0, 0), (.aload_n 0, 6, 0, 0, 0), (.getfield 304, 7, 9, 0, 11), (.ireturn, 8, 0, 0, 0), (.aload_n 0, 9, 0, 0, 0), (.getfield 65, 10, 9, 2, 9), (.getfield 316, 11, 8, 0, 1), (.ireturn, 12, 0, 0, 0), (.bipush (-2), 13, 0, 0, (-2)), (.ireturn, 14, 0, 0, 0)]
def p_C_count : List Nat := [0, 1, 28, 29, 32, 33, 34, 37, 38, 39, 42, 45, 46, 48, 49]
def c_C_sheet : List PI := [(.iload_n 1, 1, 0, 0, 0), (.iconst (0), 2, 0, 0, 0), (.iconst (3), 3, 0, 0, 3), (.invokestatic 86, 4, 81, 3, 1), (.ifCond .eq (12), 5, 10, 0, 0), (.iload_n 2, 6, 0, 0, 0), (.iconst (-1), 7, 0, 0, (-1)), (.iconst (2), 8, 0, 0, 2), (.invokestatic 86, 9, 81, 3, 1), (.ifCond .ne (6), 10, 12, 0, 0), (.bipush (-2), 11, 0, 0, (-2)), (.ireturn, 12, 0, 0, 0), (.iload_n 2, 13, 0, 0, 0), (.iconst (-1), 14, 0, 0, (-1)), (.if_icmp .ne (16), 15, 24, 0, 0), (.aload_n 0, 16, 0, 0, 0), (.getfield 23, 17, 9, 2, 2), (.iload_n 1, 18, 0, 0, 0), (.aaload, 19, 0, 0, 0), (.iconst (-1), 20, 0, 0, (-1)), (.iconst (0), 21, 0, 0, 0), (.invokevirtual 334, 22, 71, 3, 0), (.iconst (1), 23, 0, 0, 1), (.ireturn, 24, 0, 0, 0), (.iload_n 3, 25, 0, 0, 0), (.bipush (40), 26, 0, 0, 40), (.if_icmp .le (6), 27, 29, 0, 0), (.bipush (-2), 28, 0, 0, (-2)), (.ireturn, 29, 0, 0, 0), (.iload_n 3, 30, 0, 0, 0), (.ifCond .ge (6), 31, 33, 0, 0), (.bipush (-14), 32, 0, 0, (-14)), (.ireturn, 33, 0, 0, 0), (.aload_n 0, 34, 0, 0, 0), (.getfield 23, 35, 9, 2, 2), (.iload_n 1, 36, 0, 0, 0), (.aaload, 37, 0, 0, 0), (.iload_n 2, 38, 0, 0, 0), (.iload_n 3, 39, 0, 0, 0), (.invokevirtual 334, 40, 71, 3, 0), (.iconst (1), 41, 0, 0, 1), (.ireturn, 42, 0, 0, 0)]
def p_C_sheet : List Nat := [0, 1, 2, 3, 6, 9, 10, 11, 12, 15, 18, 20, 21, 22, 23, 26, 27, 30, 31, 32, 33, 34, 37, 38, 39, 40, 42, 45, 47, 48, 49, 52, 54, 55, 56, 59, 60, 61, 62, 63, 66, 67, 68]
def c_C_cell : List PI := [(.iload_n 1, 1, 0, 0, 0), (.iconst (0), 2, 0, 0, 0), (.iconst (3), 3, 0, 0, 3), (.invokestatic 86, 4, 81, 3, 1), (.ifCond .ne (6), 5, 7, 0, 0), (.bipush (-2), 6, 0, 0, (-2)), (.ireturn, 7, 0, 0, 0), (.aload_n 0, 8, 0, 0, 0), (.getfield 23, 9, 9, 2, 2), (.iload_n 1, 10, 0, 0, 0), (.aaload, 11, 0, 0, 0), (.astore 4, 12, 0, 0, 0), (.aload 4, 13, 0, 0, 0), (.getfield 135, 14, 7, 0, 1), (.iconst (-1), 15, 0, 0, (-1)), (.if_icmp .ne (6), 16, 18, 0, 0), (.bipush (-11), 17, 0, 0, (-11)), (.ireturn, 18, 0, 0, 0), (.iload_n 2, 19, 0, 0, 0), (.iconst (0), 20, 0, 0, 0), (.aload 4, 21, 0, 0, 0), (.getfield 138, 22, 7, 0, 2), (.iconst (1), 23, 0, 0, 1), (.isub, 24, 0, 0, 0), (.invokestatic 86, 25, 81, 3, 1), (.ifCond .ne (6), 26, 28, 0, 0), (.bipush (-12), 27, 0, 0, (-12)), (.ireturn, 28, 0, 0, 0), (.aload 4, 29, 0, 0, 0), (.getfield 144, 30, 7, 2, 0), (.iload_n 2, 31, 0, 0, 0), (.aload 4, 32, 0, 0, 0), (.getfield 135, 33, 7, 0, 1), (.ifCond .ne (9), 34, 38, 0, 0), (.iload_n 3, 35, 0, 0, 0), (.i2b, 36, 0, 0, 0), (.i2l, 37, 0, 0, 0), (.goto (5), 38, 40, 0, 0), (.iload_n 3, 39, 0, 0, 0), (.i2l, 40, 0, 0, 0), (.lastore, 41, 0, 0, 0), (.iconst (1), 42, 0, 0, 1), (.ireturn, 43, 0, 0, 0)]
def p_C_cell : List Nat := [0, 1, 2, 3, 6, 9, 11, 12, 13, 16, 17, 18, 20, 22, 25, 26, 29, 31, 32, 33, 34, 36, 39, 40, 41, 44, 47, 49, 50, 52, 55, 56, 58, 61, 64, 65, 66, 67, 70, 71, 72, 73, 74, 75]
def c_C_copy : List PI := [(.iload_n 1, 1, 0, 0, 0), (.iconst (0), 2, 0, 0, 0), (.iconst (3), 3, 0, 0, 3), (.invokestatic 86, 4, 81, 3, 1), (.ifCond .eq (12), 5, 10, 0, 0), (.iload_n 3, 6, 0, 0, 0), (.iconst (0), 7, 0, 0, 0), (.iconst (3), 8, 0, 0, 3), (.invokestatic 86, 9, 81, 3, 1), (.ifCond .ne (6), 10, 12, 0, 0), (.bipush (-2), 11, 0, 0, (-2)), (.ireturn, 12, 0, 0, 0), (.aload_n 0, 13, 0, 0, 0), (.getfield 23, 14, 9, 2, 2), (.iload_n 1, 15, 0, 0, 0), (.aaload, 16, 0, 0, 0), (.astore 6, 17, 0, 0, 0), (.aload_n 0, 18, 0, 0, 0), (.getfield 23, 19, 9, 2, 2), (.iload_n 3, 20, 0, 0, 0), (.aaload, 21, 0, 0, 0), (.astore 7, 22, 0, 0, 0), (.aload 6, 23, 0, 0, 0), (.getfield 135, 24, 7, 0, 1), (.iconst (-1), 25, 0, 0, (-1)), (.if_icmp .eq (12), 26, 30, 0, 0), (.aload 7, 27, 0, 0, 0), (.getfield 135, 28, 7, 0, 1), (.iconst (-1), 29, 0, 0, (-1)), (.if_icmp .ne (6), 30, 32, 0, 0), (.bipush (-11), 31, 0, 0, (-11)), (.ireturn, 32, 0, 0, 0), (.aload 6, 33, 0, 0, 0), (.getfield 135, 34, 7, 0, 1), (.aload 7, 35, 0, 0, 0), (.getfield 135, 36, 7, 0, 1), (.if_icmp .eq (6), 37, 39, 0, 0), (.bipush (-13), 38, 0, 0, (-13)), (.ireturn, 39, 0, 0, 0), (.aload 6, 40, 0, 0, 0), (.iload_n 2, 41, 0, 0, 0), (.iload 5, 42, 0, 0, 0), (.invokevirtual 337, 43, 72, 3, 0), (.ifCond .eq (15), 44, 49, 0, 0), (.aload 7, 45, 0, 0, 0), (.iload 4, 46, 0, 0, 0), (.iload 5, 47, 0, 0, 0), (.invokevirtual 337, 48, 72, 3, 0), (.ifCond .ne (6), 49, 51, 0, 0), (.bipush (-12), 50, 0, 0, (-12)), (.ireturn, 51, 0, 0, 0), (.aload 6, 52, 0, 0, 0), (.getfield 144, 53, 7, 2, 0), (.iload_n 2, 54, 0, 0, 0), (.aload 7, 55, 0, 0, 0), (.getfield 144, 56, 7, 2, 0), (.iload 4, 57, 0, 0, 0), (.iload 5, 58, 0, 0, 0), (.invokestatic 341, 59, 0, 0, 6), (.iload 5, 60, 0, 0, 0), (.ireturn, 61, 0, 0, 0)]
def p_C_copy : List Nat := [0, 1, 2, 3, 6, 9, 10, 11, 12, 15, 18, 20, 21, 22, 25, 26, 27, 29, 30, 33, 34, 35, 37, 39, 42, 43, 46, 48, 51, 52, 55, 57, 58, 60, 63, 65, 68, 71, 73, 74, 76, 77, 79, 82, 85, 87, 89, 91, 94, 97, 99, 100, 102, 105, 106, 108, 111, 113, 115, 118, 120, 121]
def c_C_taken : List PI := [(.iload_n 2, 1, 0, 0, 0), (.iconst (0), 2, 0, 0, 0), (.iconst (3), 3, 0, 0, 3), (.invokestatic 86, 4, 81, 3, 1), (.ifCond .ne (6), 5, 7, 0, 0), (.bipush (-2), 6, 0, 0, (-2)), (.ireturn, 7, 0, 0, 0), (.aload_n 0, 8, 0, 0, 0), (.iload_n 1, 9, 0, 0, 0), (.invokevirtual 82, 10, 80, 2, 0), (.ifCond .ne (6), 11, 13, 0, 0), (.bipush (-11), 12, 0, 0, (-11)), (.ireturn, 13, 0, 0, 0), (.aload_n 0, 14, 0, 0, 0), (.getfield 11, 15, 9, 2, 0), (.iload_n 1, 16, 0, 0, 0), (.aaload, 17, 0, 0, 0), (.getfield 90, 18, 3, 0, 3), (.iload_n 2, 19, 0, 0, 0), (.invokestatic 347, 20, 122, 2, 1), (.ifCond .eq (15), 21, 27, 0, 0), (.aload_n 0, 22, 0, 0, 0), (.getfield 11, 23, 9, 2, 0), (.iload_n 1, 24, 0, 0, 0), (.aaload, 25, 0, 0, 0), (.getfield 97, 26, 3, 0, 4), (.goto (5), 27, 28, 0, 0), (.bipush (-13), 28, 0, 0, (-13)), (.ireturn, 29, 0, 0, 0)]
def p_C_taken : List Nat := [0, 1, 2, 3, 6, 9, 11, 12, 13, 14, 17, 20, 22, 23, 24, 27, 28, 29, 32, 33, 36, 39, 40, 43, 44, 45, 48, 51, 53, 54]
def c_C_isUnder : List PI := [(.iload_n 1, 1, 0, 0, 0), (.ifCond .eq (18), 2, 11, 0, 0), (.iload_n 0, 3, 0, 0, 0), (.iload_n 1, 4, 0, 0, 0), (.if_icmp .eq (13), 5, 11, 0, 0), (.iload_n 0, 6, 0, 0, 0), (.iconst (2), 7, 0, 0, 2), (.if_icmp .ne (12), 8, 13, 0, 0), (.iload_n 1, 9, 0, 0, 0), (.iconst (1), 10, 0, 0, 1), (.if_icmp .ne (7), 11, 13, 0, 0), (.iconst (1), 12, 0, 0, 1), (.goto (4), 13, 14, 0, 0), (.iconst (0), 14, 0, 0, 0), (.ireturn, 15, 1, 0, 0)]
def p_C_isUnder : List Nat := [0, 1, 4, 5, 6, 9, 10, 11, 14, 15, 16, 19, 20, 23, 24, 25]
def c_M_init : List PI := [(.aload_n 0, 1, 0, 0, 0), (.invokespecial 1, 2, 0, 0, 5), (.aload_n 0, 3, 0, 0, 0), (.iconst (0), 4, 0, 0, 0), (.putfield 7, 5, 10, 0, 0), (.aload_n 0, 6, 0, 0, 0), (.bipush (11), 7, 0, 0, 11), (.newarray .int, 8, 12, 0, 0), (.putfield 13, 9, 10, 12, 1), (.aload_n 0, 10, 0, 0, 0), (.bipush (11), 11, 0, 0, 11), (.newarray .int, 12, 12, 0, 0), (.putfield 17, 13, 10, 12, 2), (.aload_n 0, 14, 0, 0, 0), (.sipush (440), 15, 0, 0, 440), (.newarray .int, 16, 12, 0, 0), (.putfield 20, 17, 10, 12, 3), (.aload_n 0, 18, 0, 0, 0), (.sipush (440), 19, 0, 0, 440), (.newarray .int, 20, 12, 0, 0), (.putfield 23, 21, 10, 12, 4), (.aload_n 0, 22, 0, 0, 0), (.sipush (440), 23, 0, 0, 440), (.newarray .int, 24, 12, 0, 0), (.putfield 26, 25, 10, 12, 5), (.aload_n 0, 26, 0, 0, 0), (.bipush (81), 27, 0, 0, 81), (.newarray .int, 28, 12, 0, 0), (.putfield 29, 29, 10, 12, 6), (.aload_n 0, 30, 0, 0, 0), (.bipush (81), 31, 0, 0, 81), (.newarray .int, 32, 12, 0, 0), (.putfield 32, 33, 10, 12, 7), (.aload_n 0, 34, 0, 0, 0), (.bipush (81), 35, 0, 0, 81), (.newarray .boolean, 36, 14, 0, 0), (.putfield 35, 37, 10, 12, 8), (.aload_n 0, 38, 0, 0, 0), (.bipush (81), 39, 0, 0, 81), (.newarray .boolean, 40, 14, 0, 0), (.putfield 39, 41, 10, 12, 9), (.aload_n 0, 42, 0, 0, 0), (.iconst (0), 43, 0, 0, 0), (.putfield 42, 44, 10, 3, 10), (.aload_n 0, 45, 0, 0, 0), (.lconst 0, 46, 0, 0, 0), (.putfield 46, 47, 10, 1, 11), (.aload_n 0, 48, 0, 0, 0), (.lconst 1, 49, 0, 0, 1), (.putfield 50, 50, 10, 1, 12), (.aload_n 0, 51, 0, 0, 0), (.lconst 0, 52, 0, 0, 0), (.putfield 53, 53, 10, 1, 13), (.aload_n 0, 54, 0, 0, 0), (.lconst 1, 55, 0, 0, 1), (.putfield 56, 56, 10, 1, 14), (.aload_n 0, 57, 0, 0, 0), (.sipush (1700), 58, 0, 0, 1700), (.newarray .int, 59, 12, 0, 0), (.putfield 59, 60, 10, 12, 15), (.aload_n 0, 61, 0, 0, 0), (.sipush (1700), 62, 0, 0, 1700), (.newarray .int, 63, 12, 0, 0), (.putfield 62, 64, 10, 12, 16), (.aload_n 0, 65, 0, 0, 0), (.iconst (0), 66, 0, 0, 0), (.putfield 65, 67, 10, 0, 17), (.aload_n 0, 68, 0, 0, 0), (.iconst (0), 69, 0, 0, 0), (.putfield 68, 70, 10, 0, 18), (.aload_n 0, 71, 0, 0, 0), (.sipush (780), 72, 0, 0, 780), (.newarray .int, 73, 12, 0, 0), (.putfield 71, 74, 10, 12, 19), (.aload_n 0, 75, 0, 0, 0), (.sipush (780), 76, 0, 0, 780), (.newarray .int, 77, 12, 0, 0), (.putfield 74, 78, 10, 12, 20), (.aload_n 0, 79, 0, 0, 0), (.sipush (780), 80, 0, 0, 780), (.newarray .int, 81, 12, 0, 0), (.putfield 77, 82, 10, 12, 21), (.aload_n 0, 83, 0, 0, 0), (.sipush (780), 84, 0, 0, 780), (.newarray .int, 85, 12, 0, 0), (.putfield 80, 86, 10, 12, 22), (.aload_n 0, 87, 0, 0, 0), (.sipush (780), 88, 0, 0, 780), (.newarray .int, 89, 12, 0, 0), (.putfield 83, 90, 10, 12, 23), (.aload_n 0, 91, 0, 0, 0), (.sipush (780), 92, 0, 0, 780), (.newarray .boolean, 93, 14, 0, 0), (.putfield 86, 94, 10, 12, 24), (.aload_n 0, 95, 0, 0, 0), (.sipush (780), 96, 0, 0, 780), (.newarray .boolean, 97, 14, 0, 0), (.putfield 89, 98, 10, 12, 25), (.aload_n 0, 99, 0, 0, 0), (.sipush (6240), 100, 0, 0, 6240), (.newarray .long, 101, 13, 0, 0), (.putfield 92, 102, 10, 12, 26), (.aload_n 0, 103, 0, 0, 0), (.iconst (0), 104, 0, 0, 0), (.putfield 96, 105, 10, 3, 27), (.aload_n 0, 106, 0, 0, 0), (.iconst (0), 107, 0, 0, 0), (.putfield 99, 108, 10, 3, 28), (.aload_n 0, 109, 0, 0, 0), (.lconst 0, 110, 0, 0, 0), (.putfield 102, 111, 10, 1, 29), (.aload_n 0, 112, 0, 0, 0), (.lconst 1, 113, 0, 0, 1), (.putfield 105, 114, 10, 1, 30), (.aload_n 0, 115, 0, 0, 0), (.lconst 0, 116, 0, 0, 0), (.putfield 108, 117, 10, 1, 31), (.aload_n 0, 118, 0, 0, 0), (.lconst 1, 119, 0, 0, 1), (.putfield 111, 120, 10, 1, 32), (.aload_n 0, 121, 0, 0, 0), (.iconst (0), 122, 0, 0, 0), (.putfield 114, 123, 10, 0, 33), (.aload_n 0, 124, 0, 0, 0), (.sipush (6240), 125, 0, 0, 6240), (.newarray .long, 126, 13, 0, 0), (.putfield 117, 127, 10, 12, 34), (.aload_n 0, 128, 0, 0, 0), (.sipush (1560), 129, 0, 0, 1560), (.newarray .int, 130, 12, 0, 0), (.putfield 120, 131, 10, 12, 35), (.aload_n 0, 132, 0, 0, 0), (.iconst (0), 133, 0, 0, 0), (.putfield 123, 134, 10, 0, 36), (.aload_n 0, 135, 0, 0, 0), (.sipush (780), 136, 0, 0, 780), (.newarray .int, 137, 12, 0, 0), (.putfield 126, 138, 10, 12, 37), (.aload_n 0, 139, 0, 0, 0), (.sipush (780), 140, 0, 0, 780), (.newarray .int, 141, 12, 0, 0), (.putfield 129, 142, 10, 12, 38), (.aload_n 0, 143, 0, 0, 0), (.sipush (780), 144, 0, 0, 780), (.newarray .int, 145, 12, 0, 0), (.putfield 132, 146, 10, 12, 39), (.aload_n 0, 147, 0, 0, 0), (.sipush (780), 148, 0, 0, 780), (.newarray .int, 149, 12, 0, 0), (.putfield 135, 150, 10, 12, 40), (.aload_n 0, 151, 0, 0, 0), (.sipush (780), 152, 0, 0, 780), (.newarray .int, 153, 12, 0, 0), (.putfield 138, 154, 10, 12, 41), (.aload_n 0, 155, 0, 0, 0), (.sipush (780), 156, 0, 0, 780), (.newarray .boolean, 157, 14, 0, 0), (.putfield 141, 158, 10, 12, 42), (.aload_n 0, 159, 0, 0, 0), (.iconst (0), 160, 0, 0, 0), (.putfield 144, 161, 10, 0, 43), (.aload_n 0, 162, 0, 0, 0), (.sipush (3200), 163, 0, 0, 3200), (.newarray .long, 164, 13, 0, 0), (.putfield 147, 165, 10, 12, 44), (.aload_n 0, 166, 0, 0, 0), (.sipush (800), 167, 0, 0, 800), (.newarray .int, 168, 12, 0, 0), (.putfield 150, 169, 10, 12, 45), (.aload_n 0, 170, 0, 0, 0), (.sipush (10000), 171, 0, 0, 10000), (.newarray .long, 172, 13, 0, 0), (.putfield 153, 173, 10, 12, 46), (.aload_n 0, 174, 0, 0, 0), (.sipush (10000), 175, 0, 0, 10000), (.newarray .long, 176, 13, 0, 0), (.putfield 156, 177, 10, 12, 47), (.aload_n 0, 178, 0, 0, 0), (.iconst (0), 179, 0, 0, 0), (.putfield 159, 180, 10, 0, 48), (.aload_n 0, 181, 0, 0, 0), (.bipush (40), 182, 0, 0, 40), (.newarray .int, 183, 12, 0, 0), (.putfield 162, 184, 10, 12, 49), (.aload_n 0, 185, 0, 0, 0), (.iconst (0), 186, 0, 0, 0), (.putfield 165, 187, 10, 0, 50), (.aload_n 0, 188, 0, 0, 0), (.iconst (4), 189, 0, 0, 4), (.newarray .int, 190, 12, 0, 0), (.dup, 191, 0, 0, 0), (.iconst (0), 192, 0, 0, 0), (.iconst (-1), 193, 0, 0, (-1)), (.iastore, 194, 0, 0, 0), (.dup, 195, 0, 0, 0), (.iconst (1), 196, 0, 0, 1), (.iconst (-1), 197, 0, 0, (-1)), (.iastore, 198, 0, 0, 0), (.dup, 199, 0, 0, 0), (.iconst (2), 200, 0, 0, 2), (.iconst (-1), 201, 0, 0, (-1)), (.iastore, 202, 0, 0, 0), (.dup, 203, 0, 0, 0), (.iconst (3), 204, 0, 0, 3), (.iconst (-1), 205, 0, 0, (-1)), (.iastore, 206, 0, 0, 0), (.putfield 168, 207, 10, 12, 51), (.aload_n 0, 208, 0, 0, 0), (.iconst (4), 209, 0, 0, 4), (.newarray .int, 210, 12, 0, 0), (.putfield 171, 211, 10, 12, 52), (.aload_n 0, 212, 0, 0, 0), (.sipush (160), 213, 0, 0, 160), (.newarray .int, 214, 12, 0, 0), (.putfield 174, 215, 10, 12, 53), (.aload_n 0, 216, 0, 0, 0), (.bipush (40), 217, 0, 0, 40), (.newarray .int, 218, 12, 0, 0), (.putfield 177, 219, 10, 12, 54), (.return_, 220, 0, 0, 0)]
def p_M_init : List Nat := [0, 1, 4, 5, 6, 9, 10, 12, 14, 17, 18, 20, 22, 25, 26, 29, 31, 34, 35, 38, 40, 43, 44, 47, 49, 52, 53, 55, 57, 60, 61, 63, 65, 68, 69, 71, 73, 76, 77, 79, 81, 84, 85, 86, 89, 90, 91, 94, 95, 96, 99, 100, 101, 104, 105, 106, 109, 110, 113, 115, 118, 119, 122, 124, 127, 128, 129, 132, 133, 134, 137, 138, 141, 143, 146, 147, 150, 152, 155, 156, 159, 161, 164, 165, 168, 170, 173, 174, 177, 179, 182, 183, 186, 188, 191, 192, 195, 197, 200, 201, 204, 206, 209, 210, 211, 214, 215, 216, 219, 220, 221, 224, 225, 226, 229, 230, 231, 234, 235, 236, 239, 240, 241, 244, 245, 248, 250, 253, 254, 257, 259, 262, 263, 264, 267, 268, 271, 273, 276, 277, 280, 282, 285, 286, 289, 291, 294, 295, 298, 300, 303, 304, 307, 309, 312, 313, 316, 318, 321, 322, 323, 326, 327, 330, 332, 335, 336, 339, 341, 344, 345, 348, 350, 353, 354, 357, 359, 362, 363, 364, 367, 368, 370, 372, 375, 376, 377, 380, 381, 382, 384, 385, 386, 387, 388, 389, 390, 391, 392, 393, 394, 395, 396, 397, 398, 399, 400, 403, 404, 405, 407, 410, 411, 414, 416, 419, 420, 422, 424, 427, 428]
def c_M_form : List PI := [(.aload_n 0, 1, 0, 0, 0), (.getfield 7, 2, 10, 0, 0), (.bipush (10), 3, 0, 0, 10), (.if_icmp .ne (6), 4, 6, 0, 0), (.bipush (-4), 5, 0, 0, (-4)), (.ireturn, 6, 0, 0, 0), (.aload_n 0, 7, 0, 0, 0), (.getfield 13, 8, 10, 2, 1), (.aload_n 0, 9, 0, 0, 0), (.getfield 7, 10, 10, 0, 0), (.iconst (0), 11, 0, 0, 0), (.iastore, 12, 0, 0, 0), (.aload_n 0, 13, 0, 0, 0), (.getfield 17, 14, 10, 2, 2), (.aload_n 0, 15, 0, 0, 0), (.getfield 7, 16, 10, 0, 0), (.iconst (0), 17, 0, 0, 0), (.iastore, 18, 0, 0, 0), (.aload_n 0, 19, 0, 0, 0), (.dup, 20, 0, 0, 0), (.getfield 7, 21, 10, 0, 0), (.iconst (1), 22, 0, 0, 1), (.iadd, 23, 0, 0, 0), (.putfield 7, 24, 10, 0, 0), (.aload_n 0, 25, 0, 0, 0), (.getfield 7, 26, 10, 0, 0), (.iconst (1), 27, 0, 0, 1), (.isub, 28, 0, 0, 0), (.ireturn, 29, 0, 0, 0)]
def p_M_form : List Nat := [0, 1, 4, 6, 9, 11, 12, 13, 16, 17, 20, 21, 22, 23, 26, 27, 30, 31, 32, 33, 34, 37, 38, 39, 42, 43, 46, 47, 48, 49]
def c_M_term : List PI := [(.aload_n 0, 1, 0, 0, 0), (.iload_n 1, 2, 0, 0, 0), (.invokevirtual 184, 3, 126, 2, 0), (.ifCond .eq (36), 4, 22, 0, 0), (.aload_n 0, 5, 0, 0, 0), (.iload_n 2, 6, 0, 0, 0), (.iconst (0), 7, 0, 0, 0), (.iconst (4), 8, 0, 0, 4), (.invokevirtual 180, 9, 127, 4, 0), (.ifCond .eq (26), 10, 22, 0, 0), (.aload_n 0, 11, 0, 0, 0), (.iload_n 3, 12, 0, 0, 0), (.iconst (0), 13, 0, 0, 0), (.iconst (4), 14, 0, 0, 4), (.invokevirtual 180, 15, 127, 4, 0), (.ifCond .eq (16), 16, 22, 0, 0), (.aload_n 0, 17, 0, 0, 0), (.iload 4, 18, 0, 0, 0), (.bipush (-20), 19, 0, 0, (-20)), (.bipush (20), 20, 0, 0, 20), (.invokevirtual 180, 21, 127, 4, 0), (.ifCond .ne (6), 22, 24, 0, 0), (.bipush (-2), 23, 0, 0, (-2)), (.ireturn, 24, 0, 0, 0), (.aload_n 0, 25, 0, 0, 0), (.getfield 13, 26, 10, 2, 1), (.iload_n 1, 27, 0, 0, 0), (.iaload, 28, 0, 0, 0), (.ifCond .eq (6), 29, 31, 0, 0), (.bipush (-3), 30, 0, 0, (-3)), (.ireturn, 31, 0, 0, 0), (.aload_n 0, 32, 0, 0, 0), (.iload_n 1, 33, 0, 0, 0), (.iload_n 2, 34, 0, 0, 0), (.iload_n 3, 35, 0, 0, 0), (.invokevirtual 188, 36, 128, 4, 0), (.istore 5, 37, 0, 0, 0), (.iload 5, 38, 0, 0, 0), (.ifCond .lt (24), 39, 53, 0, 0), (.aload_n 0, 40, 0, 0, 0), (.getfield 26, 41, 10, 2, 5), (.bipush (40), 42, 0, 0, 40), (.iload_n 1, 43, 0, 0, 0), (.imul, 44, 0, 0, 0), (.iload 5, 45, 0, 0, 0), (.iadd, 46, 0, 0, 0), (.iload 4, 47, 0, 0, 0), (.iastore, 48, 0, 0, 0), (.aload_n 0, 49, 0, 0, 0), (.getfield 17, 50, 10, 2, 2), (.iload_n 1, 51, 0, 0, 0), (.iaload, 52, 0, 0, 0), (.ireturn, 53, 0, 0, 0), (.aload_n 0, 54, 0, 0, 0), (.getfield 17, 55, 10, 2, 2), (.iload_n 1, 56, 0, 0, 0), (.iaload, 57, 0, 0, 0), (.bipush (12), 58, 0, 0, 12), (.if_icmp .ne (6), 59, 61, 0, 0), (.bipush (-4), 60, 0, 0, (-4)), (.ireturn, 61, 0, 0, 0), (.aload_n 0, 62, 0, 0, 0), (.iload_n 1, 63, 0, 0, 0), (.iload_n 2, 64, 0, 0, 0), (.iload_n 3, 65, 0, 0, 0), (.iload 4, 66, 0, 0, 0), (.invokevirtual 192, 67, 129, 5, 0), (.aload_n 0, 68, 0, 0, 0), (.getfield 17, 69, 10, 2, 2), (.iload_n 1, 70, 0, 0, 0), (.iaload, 71, 0, 0, 0), (.ireturn, 72, 0, 0, 0)]
def p_M_term : List Nat := [0, 1, 2, 5, 8, 9, 10, 11, 12, 15, 18, 19, 20, 21, 22, 25, 28, 29, 31, 33, 35, 38, 41, 43, 44, 45, 48, 49, 50, 53, 55, 56, 57, 58, 59, 60, 63, 65, 67, 70, 71, 74, 76, 77, 78, 80, 81, 83, 84, 85, 88, 89, 90, 91, 92, 95, 96, 97, 99, 102, 104, 105, 106, 107, 108, 109, 111, 114, 115, 118, 119, 120, 121]
def c_M_is : List PI := [(.aload_n 0, 1, 0, 0, 0), (.iload_n 1, 2, 0, 0, 0), (.iconst (0), 3, 0, 0, 0), (.aload_n 0, 4, 0, 0, 0), (.getfield 7, 5, 10, 0, 0), (.iconst (1), 6, 0, 0, 1), (.isub, 7, 0, 0, 0), (.invokevirtual 180, 8, 127, 4, 0), (.ireturn, 9, 1, 0, 0)]
def p_M_is : List Nat := [0, 1, 2, 3, 4, 7, 8, 9, 12, 13]
def c_M_in : List PI := [(.iload_n 1, 1, 0, 0, 0), (.iload_n 2, 2, 0, 0, 0), (.if_icmp .lt (12), 3, 8, 0, 0), (.iload_n 1, 4, 0, 0, 0), (.iload_n 3, 5, 0, 0, 0), (.if_icmp .gt (7), 6, 8, 0, 0), (.iconst (1), 7, 0, 0, 1), (.goto (4), 8, 9, 0, 0), (.iconst (0), 9, 0, 0, 0), (.ireturn, 10, 1, 0, 0)]
def p_M_in : List Nat := [0, 1, 2, 5, 6, 7, 10, 11, 14, 15, 16]
def c_M_termAt : List PI := [(.iconst (0), 1, 0, 0, 0), (.istore 4, 2, 0, 0, 0), (.iload 4, 3, 0, 0, 0), (.aload_n 0, 4, 0, 0, 0), (.getfield 17, 5, 10, 2, 2), (.iload_n 1, 6, 0, 0, 0), (.iaload, 7, 0, 0, 0), (.if_icmp .ge (44), 8, 32, 0, 0), (.aload_n 0, 9, 0, 0, 0), (.getfield 20, 10, 10, 2, 3), (.bipush (40), 11, 0, 0, 40), (.iload_n 1, 12, 0, 0, 0), (.imul, 13, 0, 0, 0), (.iload 4, 14, 0, 0, 0), (.iadd, 15, 0, 0, 0), (.iaload, 16, 0, 0, 0), (.iload_n 2, 17, 0, 0, 0), (.if_icmp .ne (22), 18, 30, 0, 0), (.aload_n 0, 19, 0, 0, 0), (.getfield 23, 20, 10, 2, 4), (.bipush (40), 21, 0, 0, 40), (.iload_n 1, 22, 0, 0, 0), (.imul, 23, 0, 0, 0), (.iload 4, 24, 0, 0, 0), (.iadd, 25, 0, 0, 0), (.iaload, 26, 0, 0, 0), (.iload_n 3, 27, 0, 0, 0), (.if_icmp .ne (6), 28, 30, 0, 0), (.iload 4, 29, 0, 0, 0), (.ireturn, 30, 0, 0, 0), (.iinc 4 (1), 31, 0, 0, 1), (.goto (-49), 32, 2, 0, 0), (.iconst (-1), 33, 0, 0, (-1)), (.ireturn, 34, 0, 0, 0)]
def p_M_termAt : List Nat := [0, 1, 3, 5, 6, 9, 10, 11, 14, 15, 18, 20, 21, 22, 24, 25, 26, 27, 30, 31, 34, 36, 37, 38, 40, 41, 42, 43, 46, 48, 49, 52, 55, 56, 57]
def c_M_insert : List PI := [(.aload_n 0, 1, 0, 0, 0), (.getfield 17, 2, 10, 2, 2), (.iload_n 1, 3, 0, 0, 0), (.iaload, 4, 0, 0, 0), (.istore 5, 5, 0, 0, 0), (.iload 5, 6, 0, 0, 0), (.ifCond .le (141), 7, 99, 0, 0), (.aload_n 0, 8, 0, 0, 0), (.getfield 20, 9, 10, 2, 3), (.bipush (40), 10, 0, 0, 40), (.iload_n 1, 11, 0, 0, 0), (.imul, 12, 0, 0, 0), (.iload 5, 13, 0, 0, 0), (.iadd, 14, 0, 0, 0), (.iconst (1), 15, 0, 0, 1), (.isub, 16, 0, 0, 0), (.iaload, 17, 0, 0, 0), (.iload_n 2, 18, 0, 0, 0), (.if_icmp .gt (39), 19, 43, 0, 0), (.aload_n 0, 20, 0, 0, 0), (.getfield 20, 21, 10, 2, 3), (.bipush (40), 22, 0, 0, 40), (.iload_n 1, 23, 0, 0, 0), (.imul, 24, 0, 0, 0), (.iload 5, 25, 0, 0, 0), (.iadd, 26, 0, 0, 0), (.iconst (1), 27, 0, 0, 1), (.isub, 28, 0, 0, 0), (.iaload, 29, 0, 0, 0), (.iload_n 2, 30, 0, 0, 0), (.if_icmp .ne (105), 31, 99, 0, 0), (.aload_n 0, 32, 0, 0, 0), (.getfield 23, 33, 10, 2, 4), (.bipush (40), 34, 0, 0, 40), (.iload_n 1, 35, 0, 0, 0), (.imul, 36, 0, 0, 0), (.iload 5, 37, 0, 0, 0), (.iadd, 38, 0, 0, 0), (.iconst (1), 39, 0, 0, 1), (.isub, 40, 0, 0, 0), (.iaload, 41, 0, 0, 0), (.iload_n 3, 42, 0, 0, 0), (.if_icmp .le (87), 43, 99, 0, 0), (.aload_n 0, 44, 0, 0, 0), (.getfield 20, 45, 10, 2, 3), (.bipush (40), 46, 0, 0, 40), (.iload_n 1, 47, 0, 0, 0), (.imul, 48, 0, 0, 0), (.iload 5, 49, 0, 0, 0), (.iadd, 50, 0, 0, 0), (.aload_n 0, 51, 0, 0, 0), (.getfield 20, 52, 10, 2, 3), (.bipush (40), 53, 0, 0, 40), (.iload_n 1, 54, 0, 0, 0), (.imul, 55, 0, 0, 0), (.iload 5, 56, 0, 0, 0), (.iadd, 57, 0, 0, 0), (.iconst (1), 58, 0, 0, 1), (.isub, 59, 0, 0, 0), (.iaload, 60, 0, 0, 0), (.iastore, 61, 0, 0, 0), (.aload_n 0, 62, 0, 0, 0), (.getfield 23, 63, 10, 2, 4), (.bipush (40), 64, 0, 0, 40), (.iload_n 1, 65, 0, 0, 0), (.imul, 66, 0, 0, 0), (.iload 5, 67, 0, 0, 0), (.iadd, 68, 0, 0, 0), (.aload_n 0, 69, 0, 0, 0), (.getfield 23, 70, 10, 2, 4), (.bipush (40), 71, 0, 0, 40), (.iload_n 1, 72, 0, 0, 0), (.imul, 73, 0, 0, 0), (.iload 5, 74, 0, 0, 0), (.iadd, 75, 0, 0, 0), (.iconst (1), 76, 0, 0, 1), (.isub, 77, 0, 0, 0), (.iaload, 78, 0, 0, 0), (.iastore, 79, 0, 0, 0), (.aload_n 0, 80, 0, 0, 0), (.getfield 26, 81, 10, 2, 5), (.bipush (40), 82, 0, 0, 40), (.iload_n 1, 83, 0, 0, 0), (.imul, 84, 0, 0, 0), (.iload 5, 85, 0, 0, 0), (.iadd, 86, 0, 0, 0), (.aload_n 0, 87, 0, 0, 0), (.getfield 26, 88, 10, 2, 5), (.bipush (40), 89, 0, 0, 40), (.iload_n 1, 90, 0, 0, 0), (.imul, 91, 0, 0, 0), (.iload 5, 92, 0, 0, 0), (.iadd, 93, 0, 0, 0), (.iconst (1), 94, 0, 0, 1), (.isub, 95, 0, 0, 0), (.iaload, 96, 0, 0, 0), (.iastore, 97, 0, 0, 0), (.iinc 5 (-1), 98, 0, 0, (-1)), (.goto (-140), 99, 5, 0, 0), (.aload_n 0, 100, 0, 0, 0), (.getfield 20, 101, 10, 2, 3), (.bipush (40), 102, 0, 0, 40), (.iload_n 1, 103, 0, 0, 0), (.imul, 104, 0, 0, 0), (.iload 5, 105, 0, 0, 0), (.iadd, 106, 0, 0, 0), (.iload_n 2, 107, 0, 0, 0), (.iastore, 108, 0, 0, 0), (.aload_n 0, 109, 0, 0, 0), (.getfield 23, 110, 10, 2, 4), (.bipush (40), 111, 0, 0, 40), (.iload_n 1, 112, 0, 0, 0), (.imul, 113, 0, 0, 0), (.iload 5, 114, 0, 0, 0), (.iadd, 115, 0, 0, 0), (.iload_n 3, 116, 0, 0, 0), (.iastore, 117, 0, 0, 0), (.aload_n 0, 118, 0, 0, 0), (.getfield 26, 119, 10, 2, 5), (.bipush (40), 120, 0, 0, 40), (.iload_n 1, 121, 0, 0, 0), (.imul, 122, 0, 0, 0), (.iload 5, 123, 0, 0, 0), (.iadd, 124, 0, 0, 0), (.iload 4, 125, 0, 0, 0), (.iastore, 126, 0, 0, 0), (.aload_n 0, 127, 0, 0, 0), (.getfield 17, 128, 10, 2, 2), (.iload_n 1, 129, 0, 0, 0), (.dup2, 130, 0, 0, 0), (.iaload, 131, 0, 0, 0), (.iconst (1), 132, 0, 0, 1), (.iadd, 133, 0, 0, 0), (.iastore, 134, 0, 0, 0), (.return_, 135, 0, 0, 0)]
def p_M_insert : List Nat := [0, 1, 4, 5, 6, 8, 10, 13, 14, 17, 19, 20, 21, 23, 24, 25, 26, 27, 28, 31, 32, 35, 37, 38, 39, 41, 42, 43, 44, 45, 46, 49, 50, 53, 55, 56, 57, 59, 60, 61, 62, 63, 64, 67, 68, 71, 73, 74, 75, 77, 78, 79, 82, 84, 85, 86, 88, 89, 90, 91, 92, 93, 94, 97, 99, 100, 101, 103, 104, 105, 108, 110, 111, 112, 114, 115, 116, 117, 118, 119, 120, 123, 125, 126, 127, 129, 130, 131, 134, 136, 137, 138, 140, 141, 142, 143, 144, 145, 148, 151, 152, 155, 157, 158, 159, 161, 162, 163, 164, 165, 168, 170, 171, 172, 174, 175, 176, 177, 178, 181, 183, 184, 185, 187, 188, 190, 191, 192, 195, 196, 197, 198, 199, 200, 201, 202]
def c_M_take : List PI := [(.aload_n 0, 1, 0, 0, 0), (.iload_n 1, 2, 0, 0, 0), (.invokevirtual 184, 3, 126, 2, 0), (.ifCond .eq (13), 4, 10, 0, 0), (.aload_n 0, 5, 0, 0, 0), (.iload_n 1, 6, 0, 0, 0), (.iload_n 2, 7, 0, 0, 0), (.iload_n 3, 8, 0, 0, 0), (.invokevirtual 188, 9, 128, 4, 0), (.goto (4), 10, 11, 0, 0), (.iconst (-1), 11, 0, 0, (-1)), (.istore 4, 12, 0, 0, 0), (.iload 4, 13, 0, 0, 0), (.ifCond .ge (6), 14, 16, 0, 0), (.bipush (-2), 15, 0, 0, (-2)), (.ireturn, 16, 0, 0, 0), (.aload_n 0, 17, 0, 0, 0), (.getfield 13, 18, 10, 2, 1), (.iload_n 1, 19, 0, 0, 0), (.iaload, 20, 0, 0, 0), (.ifCond .eq (6), 21, 23, 0, 0), (.bipush (-3), 22, 0, 0, (-3)), (.ireturn, 23, 0, 0, 0), (.aload_n 0, 24, 0, 0, 0), (.getfield 17, 25, 10, 2, 2), (.iload_n 1, 26, 0, 0, 0), (.dup2, 27, 0, 0, 0), (.iaload, 28, 0, 0, 0), (.iconst (1), 29, 0, 0, 1), (.isub, 30, 0, 0, 0), (.iastore, 31, 0, 0, 0), (.bipush (40), 32, 0, 0, 40), (.iload_n 1, 33, 0, 0, 0), (.imul, 34, 0, 0, 0), (.iload 4, 35, 0, 0, 0), (.iadd, 36, 0, 0, 0), (.istore 5, 37, 0, 0, 0), (.iload 5, 38, 0, 0, 0), (.bipush (40), 39, 0, 0, 40), (.iload_n 1, 40, 0, 0, 0), (.imul, 41, 0, 0, 0), (.aload_n 0, 42, 0, 0, 0), (.getfield 17, 43, 10, 2, 2), (.iload_n 1, 44, 0, 0, 0), (.iaload, 45, 0, 0, 0), (.iadd, 46, 0, 0, 0), (.if_icmp .ge (57), 47, 79, 0, 0), (.aload_n 0, 48, 0, 0, 0), (.getfield 20, 49, 10, 2, 3), (.iload 5, 50, 0, 0, 0), (.aload_n 0, 51, 0, 0, 0), (.getfield 20, 52, 10, 2, 3), (.iload 5, 53, 0, 0, 0), (.iconst (1), 54, 0, 0, 1), (.iadd, 55, 0, 0, 0), (.iaload, 56, 0, 0, 0), (.iastore, 57, 0, 0, 0), (.aload_n 0, 58, 0, 0, 0), (.getfield 23, 59, 10, 2, 4), (.iload 5, 60, 0, 0, 0), (.aload_n 0, 61, 0, 0, 0), (.getfield 23, 62, 10, 2, 4), (.iload 5, 63, 0, 0, 0), (.iconst (1), 64, 0, 0, 1), (.iadd, 65, 0, 0, 0), (.iaload, 66, 0, 0, 0), (.iastore, 67, 0, 0, 0), (.aload_n 0, 68, 0, 0, 0), (.getfield 26, 69, 10, 2, 5), (.iload 5, 70, 0, 0, 0), (.aload_n 0, 71, 0, 0, 0), (.getfield 26, 72, 10, 2, 5), (.iload 5, 73, 0, 0, 0), (.iconst (1), 74, 0, 0, 1), (.iadd, 75, 0, 0, 0), (.iaload, 76, 0, 0, 0), (.iastore, 77, 0, 0, 0), (.iinc 5 (1), 78, 0, 0, 1), (.goto (-67), 79, 37, 0, 0), (.aload_n 0, 80, 0, 0, 0), (.getfield 17, 81, 10, 2, 2), (.iload_n 1, 82, 0, 0, 0), (.iaload, 83, 0, 0, 0), (.ireturn, 84, 0, 0, 0)]
def p_M_take : List Nat := [0, 1, 2, 5, 8, 9, 10, 11, 12, 15, 18, 19, 21, 23, 26, 28, 29, 30, 33, 34, 35, 38, 40, 41, 42, 45, 46, 47, 48, 49, 50, 51, 53, 54, 55, 57, 58, 60, 62, 64, 65, 66, 67, 70, 71, 72, 73, 76, 77, 80, 82, 83, 86, 88, 89, 90, 91, 92, 93, 96, 98, 99, 102, 104, 105, 106, 107, 108, 109, 112, 114, 115, 118, 120, 121, 122, 123, 124, 127, 130, 131, 134, 135, 136, 137]
def c_M_sum : List PI := [(.aload_n 0, 1, 0, 0, 0), (.iload_n 1, 2, 0, 0, 0), (.invokevirtual 184, 3, 126, 2, 0), (.ifCond .eq (11), 4, 8, 0, 0), (.aload_n 0, 5, 0, 0, 0), (.iload_n 2, 6, 0, 0, 0), (.invokevirtual 184, 7, 126, 2, 0), (.ifCond .ne (6), 8, 10, 0, 0), (.bipush (-2), 9, 0, 0, (-2)), (.ireturn, 10, 0, 0, 0), (.aload_n 0, 11, 0, 0, 0), (.iload_n 1, 12, 0, 0, 0), (.invokevirtual 196, 13, 132, 2, 0), (.aload_n 0, 14, 0, 0, 0), (.iload_n 2, 15, 0, 0, 0), (.invokevirtual 200, 16, 133, 2, 0), (.aload_n 0, 17, 0, 0, 0), (.iconst (1), 18, 0, 0, 1), (.invokevirtual 203, 19, 134, 2, 0), (.ireturn, 20, 0, 0, 0)]
def p_M_sum : List Nat := [0, 1, 2, 5, 8, 9, 10, 13, 16, 18, 19, 20, 21, 24, 25, 26, 29, 30, 31, 34, 35]
def c_M_spreadOut : List PI := [(.iconst (0), 1, 0, 0, 0), (.istore_n 2, 2, 0, 0, 0), (.iload_n 2, 3, 0, 0, 0), (.bipush (81), 4, 0, 0, 81), (.if_icmp .ge (16), 5, 12, 0, 0), (.aload_n 0, 6, 0, 0, 0), (.getfield 35, 7, 10, 2, 8), (.iload_n 2, 8, 0, 0, 0), (.iconst (0), 9, 0, 0, 0), (.bastore, 10, 0, 0, 0), (.iinc 2 (1), 11, 0, 0, 1), (.goto (-16), 12, 2, 0, 0), (.aload_n 0, 13, 0, 0, 0), (.iconst (0), 14, 0, 0, 0), (.putfield 42, 15, 10, 3, 10), (.bipush (40), 16, 0, 0, 40), (.iload_n 1, 17, 0, 0, 0), (.imul, 18, 0, 0, 0), (.istore_n 2, 19, 0, 0, 0), (.iload_n 2, 20, 0, 0, 0), (.bipush (40), 21, 0, 0, 40), (.iload_n 1, 22, 0, 0, 0), (.imul, 23, 0, 0, 0), (.aload_n 0, 24, 0, 0, 0), (.getfield 17, 25, 10, 2, 2), (.iload_n 1, 26, 0, 0, 0), (.iaload, 27, 0, 0, 0), (.iadd, 28, 0, 0, 0), (.if_icmp .ge (58), 29, 64, 0, 0), (.aload_n 0, 30, 0, 0, 0), (.getfield 35, 31, 10, 2, 8), (.bipush (9), 32, 0, 0, 9), (.aload_n 0, 33, 0, 0, 0), (.getfield 20, 34, 10, 2, 3), (.iload_n 2, 35, 0, 0, 0), (.iaload, 36, 0, 0, 0), (.imul, 37, 0, 0, 0), (.aload_n 0, 38, 0, 0, 0), (.getfield 23, 39, 10, 2, 4), (.iload_n 2, 40, 0, 0, 0), (.iaload, 41, 0, 0, 0), (.iadd, 42, 0, 0, 0), (.iconst (1), 43, 0, 0, 1), (.bastore, 44, 0, 0, 0), (.aload_n 0, 45, 0, 0, 0), (.getfield 29, 46, 10, 2, 6), (.bipush (9), 47, 0, 0, 9), (.aload_n 0, 48, 0, 0, 0), (.getfield 20, 49, 10, 2, 3), (.iload_n 2, 50, 0, 0, 0), (.iaload, 51, 0, 0, 0), (.imul, 52, 0, 0, 0), (.aload_n 0, 53, 0, 0, 0), (.getfield 23, 54, 10, 2, 4), (.iload_n 2, 55, 0, 0, 0), (.iaload, 56, 0, 0, 0), (.iadd, 57, 0, 0, 0), (.aload_n 0, 58, 0, 0, 0), (.getfield 26, 59, 10, 2, 5), (.iload_n 2, 60, 0, 0, 0), (.iaload, 61, 0, 0, 0), (.iastore, 62, 0, 0, 0), (.iinc 2 (1), 63, 0, 0, 1), (.goto (-67), 64, 19, 0, 0), (.return_, 65, 0, 0, 0)]
def p_M_spreadOut : List Nat := [0, 1, 2, 3, 5, 8, 9, 12, 13, 14, 15, 18, 21, 22, 23, 26, 28, 29, 30, 31, 32, 34, 35, 36, 37, 40, 41, 42, 43, 46, 47, 50, 52, 53, 56, 57, 58, 59, 60, 63, 64, 65, 66, 67, 68, 69, 72, 74, 75, 78, 79, 80, 81, 82, 85, 86, 87, 88, 89, 92, 93, 94, 95, 98, 101, 102]
def c_M_addForm : List PI := [(.iconst (0), 1, 0, 0, 0), (.istore_n 2, 2, 0, 0, 0), (.iload_n 2, 3, 0, 0, 0), (.bipush (81), 4, 0, 0, 81), (.if_icmp .ge (40), 5, 28, 0, 0), (.aload_n 0, 6, 0, 0, 0), (.getfield 32, 7, 10, 2, 7), (.iload_n 2, 8, 0, 0, 0), (.aload_n 0, 9, 0, 0, 0), (.getfield 29, 10, 10, 2, 6), (.iload_n 2, 11, 0, 0, 0), (.iaload, 12, 0, 0, 0), (.iastore, 13, 0, 0, 0), (.aload_n 0, 14, 0, 0, 0), (.getfield 39, 15, 10, 2, 9), (.iload_n 2, 16, 0, 0, 0), (.aload_n 0, 17, 0, 0, 0), (.getfield 35, 18, 10, 2, 8), (.iload_n 2, 19, 0, 0, 0), (.baload, 20, 0, 0, 0), (.bastore, 21, 0, 0, 0), (.aload_n 0, 22, 0, 0, 0), (.getfield 35, 23, 10, 2, 8), (.iload_n 2, 24, 0, 0, 0), (.iconst (0), 25, 0, 0, 0), (.bastore, 26, 0, 0, 0), (.iinc 2 (1), 27, 0, 0, 1), (.goto (-40), 28, 2, 0, 0), (.iconst (0), 29, 0, 0, 0), (.istore_n 2, 30, 0, 0, 0), (.iload_n 2, 31, 0, 0, 0), (.bipush (81), 32, 0, 0, 81), (.if_icmp .ge (170), 33, 131, 0, 0), (.bipush (40), 34, 0, 0, 40), (.iload_n 1, 35, 0, 0, 0), (.imul, 36, 0, 0, 0), (.istore_n 3, 37, 0, 0, 0), (.iload_n 3, 38, 0, 0, 0), (.bipush (40), 39, 0, 0, 40), (.iload_n 1, 40, 0, 0, 0), (.imul, 41, 0, 0, 0), (.aload_n 0, 42, 0, 0, 0), (.getfield 17, 43, 10, 2, 2), (.iload_n 1, 44, 0, 0, 0), (.iaload, 45, 0, 0, 0), (.iadd, 46, 0, 0, 0), (.if_icmp .ge (144), 47, 129, 0, 0), (.aload_n 0, 48, 0, 0, 0), (.getfield 39, 49, 10, 2, 9), (.iload_n 2, 50, 0, 0, 0), (.baload, 51, 0, 0, 0), (.ifCond .eq (135), 52, 129, 0, 0), (.iload_n 2, 53, 0, 0, 0), (.bipush (9), 54, 0, 0, 9), (.idiv, 55, 0, 0, 0), (.aload_n 0, 56, 0, 0, 0), (.getfield 20, 57, 10, 2, 3), (.iload_n 3, 58, 0, 0, 0), (.iaload, 59, 0, 0, 0), (.iadd, 60, 0, 0, 0), (.istore 4, 61, 0, 0, 0), (.iload_n 2, 62, 0, 0, 0), (.bipush (9), 63, 0, 0, 9), (.irem, 64, 0, 0, 0), (.aload_n 0, 65, 0, 0, 0), (.getfield 23, 66, 10, 2, 4), (.iload_n 3, 67, 0, 0, 0), (.iaload, 68, 0, 0, 0), (.iadd, 69, 0, 0, 0), (.istore 5, 70, 0, 0, 0), (.iload 4, 71, 0, 0, 0), (.bipush (8), 72, 0, 0, 8), (.if_icmp .gt (10), 73, 76, 0, 0), (.iload 5, 74, 0, 0, 0), (.bipush (8), 75, 0, 0, 8), (.if_icmp .le (11), 76, 80, 0, 0), (.aload_n 0, 77, 0, 0, 0), (.iconst (1), 78, 0, 0, 1), (.putfield 42, 79, 10, 3, 10), (.goto (81), 80, 127, 0, 0), (.aload_n 0, 81, 0, 0, 0), (.getfield 32, 82, 10, 2, 7), (.iload_n 2, 83, 0, 0, 0), (.iaload, 84, 0, 0, 0), (.aload_n 0, 85, 0, 0, 0), (.getfield 26, 86, 10, 2, 5), (.iload_n 3, 87, 0, 0, 0), (.iaload, 88, 0, 0, 0), (.iadd, 89, 0, 0, 0), (.istore 6, 90, 0, 0, 0), (.aload_n 0, 91, 0, 0, 0), (.getfield 35, 92, 10, 2, 8), (.bipush (9), 93, 0, 0, 9), (.iload 4, 94, 0, 0, 0), (.imul, 95, 0, 0, 0), (.iload 5, 96, 0, 0, 0), (.iadd, 97, 0, 0, 0), (.baload, 98, 0, 0, 0), (.ifCond .eq (21), 99, 109, 0, 0), (.iload 6, 100, 0, 0, 0), (.aload_n 0, 101, 0, 0, 0), (.getfield 29, 102, 10, 2, 6), (.bipush (9), 103, 0, 0, 9), (.iload 4, 104, 0, 0, 0), (.imul, 105, 0, 0, 0), (.iload 5, 106, 0, 0, 0), (.iadd, 107, 0, 0, 0), (.iaload, 108, 0, 0, 0), (.if_icmp .ge (18), 109, 118, 0, 0), (.aload_n 0, 110, 0, 0, 0), (.getfield 29, 111, 10, 2, 6), (.bipush (9), 112, 0, 0, 9), (.iload 4, 113, 0, 0, 0), (.imul, 114, 0, 0, 0), (.iload 5, 115, 0, 0, 0), (.iadd, 116, 0, 0, 0), (.iload 6, 117, 0, 0, 0), (.iastore, 118, 0, 0, 0), (.aload_n 0, 119, 0, 0, 0), (.getfield 35, 120, 10, 2, 8), (.bipush (9), 121, 0, 0, 9), (.iload 4, 122, 0, 0, 0), (.imul, 123, 0, 0, 0), (.iload 5, 124, 0, 0, 0), (.iadd, 125, 0, 0, 0), (.iconst (1), 126, 0, 0, 1), (.bastore, 127, 0, 0, 0), (.iinc 3 (1), 128, 0, 0, 1), (.goto (-153), 129, 37, 0, 0), (.iinc 2 (1), 130, 0, 0, 1), (.goto (-170), 131, 30, 0, 0), (.return_, 132, 0, 0, 0)]
def p_M_addForm : List Nat := [0, 1, 2, 3, 5, 8, 9, 12, 13, 14, 17, 18, 19, 20, 21, 24, 25, 26, 29, 30, 31, 32, 33, 36, 37, 38, 39, 42, 45, 46, 47, 48, 50, 53, 55, 56, 57, 58, 59, 61, 62, 63, 64, 67, 68, 69, 70, 73, 74, 77, 78, 79, 82, 83, 85, 86, 87, 90, 91, 92, 93, 95, 96, 98, 99, 100, 103, 104, 105, 106, 108, 110, 112, 115, 117, 119, 122, 123, 124, 127, 130, 131, 134, 135, 136, 137, 140, 141, 142, 143, 145, 146, 149, 151, 153, 154, 156, 157, 158, 161, 163, 164, 167, 169, 171, 172, 174, 175, 176, 179, 180, 183, 185, 187, 188, 190, 191, 193, 194, 195, 198, 200, 202, 203, 205, 206, 207, 208, 211, 214, 217, 220, 221]
def c_M_gather : List PI := [(.iconst (0), 1, 0, 0, 0), (.istore_n 2, 2, 0, 0, 0), (.aload_n 0, 3, 0, 0, 0), (.getfield 42, 4, 10, 3, 10), (.ifCond .ne (16), 5, 11, 0, 0), (.aload_n 0, 6, 0, 0, 0), (.getfield 7, 7, 10, 0, 0), (.bipush (10), 8, 0, 0, 10), (.if_icmp .ge (7), 9, 11, 0, 0), (.iconst (1), 10, 0, 0, 1), (.goto (4), 11, 12, 0, 0), (.iconst (0), 12, 0, 0, 0), (.istore_n 3, 13, 0, 0, 0), (.iconst (0), 14, 0, 0, 0), (.istore 4, 15, 0, 0, 0), (.iload 4, 16, 0, 0, 0), (.bipush (81), 17, 0, 0, 81), (.if_icmp .ge (55), 18, 42, 0, 0), (.aload_n 0, 19, 0, 0, 0), (.getfield 35, 20, 10, 2, 8), (.iload 4, 21, 0, 0, 0), (.baload, 22, 0, 0, 0), (.ifCond .ne (6), 23, 24, 0, 0), (.goto (36), 24, 40, 0, 0), (.iinc 2 (1), 25, 0, 0, 1), (.iload_n 3, 26, 0, 0, 0), (.ifCond .eq (27), 27, 38, 0, 0), (.aload_n 0, 28, 0, 0, 0), (.aload_n 0, 29, 0, 0, 0), (.getfield 29, 30, 10, 2, 6), (.iload 4, 31, 0, 0, 0), (.iaload, 32, 0, 0, 0), (.sipush (-200), 33, 0, 0, (-200)), (.sipush (200), 34, 0, 0, 200), (.invokevirtual 180, 35, 127, 4, 0), (.ifCond .eq (7), 36, 38, 0, 0), (.iconst (1), 37, 0, 0, 1), (.goto (4), 38, 39, 0, 0), (.iconst (0), 39, 0, 0, 0), (.istore_n 3, 40, 0, 0, 0), (.iinc 4 (1), 41, 0, 0, 1), (.goto (-56), 42, 15, 0, 0), (.iload_n 3, 43, 0, 0, 0), (.ifCond .eq (9), 44, 47, 0, 0), (.iload_n 2, 45, 0, 0, 0), (.bipush (40), 46, 0, 0, 40), (.if_icmp .le (6), 47, 49, 0, 0), (.bipush (-4), 48, 0, 0, (-4)), (.ireturn, 49, 0, 0, 0), (.aload_n 0, 50, 0, 0, 0), (.getfield 13, 51, 10, 2, 1), (.aload_n 0, 52, 0, 0, 0), (.getfield 7, 53, 10, 0, 0), (.iload_n 1, 54, 0, 0, 0), (.iastore, 55, 0, 0, 0), (.aload_n 0, 56, 0, 0, 0), (.getfield 17, 57, 10, 2, 2), (.aload_n 0, 58, 0, 0, 0), (.getfield 7, 59, 10, 0, 0), (.iconst (0), 60, 0, 0, 0), (.iastore, 61, 0, 0, 0), (.iconst (0), 62, 0, 0, 0), (.istore 4, 63, 0, 0, 0), (.iload 4, 64, 0, 0, 0), (.bipush (81), 65, 0, 0, 81), (.if_icmp .ge (44), 66, 87, 0, 0), (.aload_n 0, 67, 0, 0, 0), (.getfield 35, 68, 10, 2, 8), (.iload 4, 69, 0, 0, 0), (.baload, 70, 0, 0, 0), (.ifCond .eq (28), 71, 85, 0, 0), (.aload_n 0, 72, 0, 0, 0), (.aload_n 0, 73, 0, 0, 0), (.getfield 7, 74, 10, 0, 0), (.iload 4, 75, 0, 0, 0), (.bipush (9), 76, 0, 0, 9), (.idiv, 77, 0, 0, 0), (.iload 4, 78, 0, 0, 0), (.bipush (9), 79, 0, 0, 9), (.irem, 80, 0, 0, 0), (.aload_n 0, 81, 0, 0, 0), (.getfield 29, 82, 10, 2, 6), (.iload 4, 83, 0, 0, 0), (.iaload, 84, 0, 0, 0), (.invokevirtual 192, 85, 129, 5, 0), (.iinc 4 (1), 86, 0, 0, 1), (.goto (-45), 87, 63, 0, 0), (.aload_n 0, 88, 0, 0, 0), (.dup, 89, 0, 0, 0), (.getfield 7, 90, 10, 0, 0), (.iconst (1), 91, 0, 0, 1), (.iadd, 92, 0, 0, 0), (.putfield 7, 93, 10, 0, 0), (.aload_n 0, 94, 0, 0, 0), (.getfield 7, 95, 10, 0, 0), (.iconst (1), 96, 0, 0, 1), (.isub, 97, 0, 0, 0), (.ireturn, 98, 0, 0, 0)]
def p_M_gather : List Nat := [0, 1, 2, 3, 6, 9, 10, 13, 15, 18, 19, 22, 23, 24, 25, 27, 29, 31, 34, 35, 38, 40, 41, 44, 47, 50, 51, 54, 55, 56, 59, 61, 62, 65, 68, 71, 74, 75, 78, 79, 80, 83, 86, 87, 90, 91, 93, 96, 98, 99, 100, 103, 104, 107, 108, 109, 110, 113, 114, 117, 118, 119, 120, 122, 124, 126, 129, 130, 133, 135, 136, 139, 140, 141, 144, 146, 148, 149, 151, 153, 154, 155, 158, 160, 161, 164, 167, 170, 171, 172, 175, 176, 177, 180, 181, 184, 185, 186, 187]
def c_M_power : List PI := [(.aload_n 0, 1, 0, 0, 0), (.iload_n 1, 2, 0, 0, 0), (.invokevirtual 184, 3, 126, 2, 0), (.ifCond .eq (13), 4, 10, 0, 0), (.aload_n 0, 5, 0, 0, 0), (.iload_n 2, 6, 0, 0, 0), (.iconst (1), 7, 0, 0, 1), (.iconst (4), 8, 0, 0, 4), (.invokevirtual 180, 9, 127, 4, 0), (.ifCond .ne (6), 10, 12, 0, 0), (.bipush (-2), 11, 0, 0, (-2)), (.ireturn, 12, 0, 0, 0), (.aload_n 0, 13, 0, 0, 0), (.iload_n 1, 14, 0, 0, 0), (.invokevirtual 196, 15, 132, 2, 0), (.iconst (1), 16, 0, 0, 1), (.istore_n 3, 17, 0, 0, 0), (.iload_n 3, 18, 0, 0, 0), (.iload_n 2, 19, 0, 0, 0), (.if_icmp .ge (14), 20, 25, 0, 0), (.aload_n 0, 21, 0, 0, 0), (.iload_n 1, 22, 0, 0, 0), (.invokevirtual 200, 23, 133, 2, 0), (.iinc 3 (1), 24, 0, 0, 1), (.goto (-13), 25, 17, 0, 0), (.aload_n 0, 26, 0, 0, 0), (.iconst (2), 27, 0, 0, 2), (.invokevirtual 203, 28, 134, 2, 0), (.ireturn, 29, 0, 0, 0)]
def p_M_power : List Nat := [0, 1, 2, 5, 8, 9, 10, 11, 12, 15, 18, 20, 21, 22, 23, 26, 27, 28, 29, 30, 33, 34, 35, 38, 41, 44, 45, 46, 49, 50]
def c_M_move : List PI := [(.aload_n 0, 1, 0, 0, 0), (.iload_n 1, 2, 0, 0, 0), (.invokevirtual 184, 3, 126, 2, 0), (.ifCond .eq (27), 4, 16, 0, 0), (.aload_n 0, 5, 0, 0, 0), (.iload_n 2, 6, 0, 0, 0), (.bipush (-10), 7, 0, 0, (-10)), (.bipush (10), 8, 0, 0, 10), (.invokevirtual 180, 9, 127, 4, 0), (.ifCond .eq (15), 10, 16, 0, 0), (.aload_n 0, 11, 0, 0, 0), (.iload_n 3, 12, 0, 0, 0), (.bipush (-10), 13, 0, 0, (-10)), (.bipush (10), 14, 0, 0, 10), (.invokevirtual 180, 15, 127, 4, 0), (.ifCond .ne (6), 16, 18, 0, 0), (.bipush (-2), 17, 0, 0, (-2)), (.ireturn, 18, 0, 0, 0), (.aload_n 0, 19, 0, 0, 0), (.iload_n 1, 20, 0, 0, 0), (.invokevirtual 196, 21, 132, 2, 0), (.iconst (0), 22, 0, 0, 0), (.istore 4, 23, 0, 0, 0), (.iload 4, 24, 0, 0, 0), (.bipush (81), 25, 0, 0, 81), (.if_icmp .ge (44), 26, 51, 0, 0), (.aload_n 0, 27, 0, 0, 0), (.getfield 35, 28, 10, 2, 8), (.iload 4, 29, 0, 0, 0), (.baload, 30, 0, 0, 0), (.ifCond .eq (28), 31, 49, 0, 0), (.aload_n 0, 32, 0, 0, 0), (.getfield 29, 33, 10, 2, 6), (.iload 4, 34, 0, 0, 0), (.dup2, 35, 0, 0, 0), (.iaload, 36, 0, 0, 0), (.iload 4, 37, 0, 0, 0), (.bipush (9), 38, 0, 0, 9), (.idiv, 39, 0, 0, 0), (.iload_n 2, 40, 0, 0, 0), (.imul, 41, 0, 0, 0), (.iload 4, 42, 0, 0, 0), (.bipush (9), 43, 0, 0, 9), (.irem, 44, 0, 0, 0), (.iload_n 3, 45, 0, 0, 0), (.imul, 46, 0, 0, 0), (.iadd, 47, 0, 0, 0), (.iadd, 48, 0, 0, 0), (.iastore, 49, 0, 0, 0), (.iinc 4 (1), 50, 0, 0, 1), (.goto (-45), 51, 23, 0, 0), (.aload_n 0, 52, 0, 0, 0), (.iconst (1), 53, 0, 0, 1), (.invokevirtual 203, 54, 134, 2, 0), (.ireturn, 55, 0, 0, 0)]
def p_M_move : List Nat := [0, 1, 2, 5, 8, 9, 10, 12, 14, 17, 20, 21, 22, 24, 26, 29, 32, 34, 35, 36, 37, 40, 41, 43, 45, 47, 50, 51, 54, 56, 57, 60, 61, 64, 66, 67, 68, 70, 72, 73, 74, 75, 77, 79, 80, 81, 82, 83, 84, 85, 88, 91, 92, 93, 96, 97]
def c_M_hide : List PI := [(.iload 4, 1, 0, 0, 0), (.iconst (2), 2, 0, 0, 2), (.if_icmp .eq (22), 3, 12, 0, 0), (.iload 4, 4, 0, 0, 0), (.iconst (3), 5, 0, 0, 3), (.if_icmp .eq (16), 6, 12, 0, 0), (.iload 4, 7, 0, 0, 0), (.iconst (5), 8, 0, 0, 5), (.if_icmp .eq (10), 9, 12, 0, 0), (.iload 4, 10, 0, 0, 0), (.bipush (7), 11, 0, 0, 7), (.if_icmp .ne (7), 12, 14, 0, 0), (.iconst (1), 13, 0, 0, 1), (.goto (4), 14, 15, 0, 0), (.iconst (0), 15, 0, 0, 0), (.istore 5, 16, 0, 0, 0), (.iload 5, 17, 0, 0, 0), (.ifCond .eq (23), 18, 30, 0, 0), (.aload_n 0, 19, 0, 0, 0), (.iload_n 1, 20, 0, 0, 0), (.iconst (0), 21, 0, 0, 0), (.iconst (3), 22, 0, 0, 3), (.invokevirtual 180, 23, 127, 4, 0), (.ifCond .eq (13), 24, 30, 0, 0), (.aload_n 0, 25, 0, 0, 0), (.iload_n 2, 26, 0, 0, 0), (.iconst (0), 27, 0, 0, 0), (.iconst (2), 28, 0, 0, 2), (.invokevirtual 180, 29, 127, 4, 0), (.ifCond .ne (6), 30, 32, 0, 0), (.bipush (-2), 31, 0, 0, (-2)), (.ireturn, 32, 0, 0, 0), (.aload_n 0, 33, 0, 0, 0), (.getfield 168, 34, 10, 2, 51), (.iload_n 1, 35, 0, 0, 0), (.iaload, 36, 0, 0, 0), (.ifCond .lt (16), 37, 45, 0, 0), (.aload_n 0, 38, 0, 0, 0), (.getfield 168, 39, 10, 2, 51), (.iload_n 1, 40, 0, 0, 0), (.iaload, 41, 0, 0, 0), (.iload_n 2, 42, 0, 0, 0), (.if_icmp .eq (6), 43, 45, 0, 0), (.bipush (-13), 44, 0, 0, (-13)), (.ireturn, 45, 0, 0, 0), (.aload_n 0, 46, 0, 0, 0), (.getfield 168, 47, 10, 2, 51), (.iload_n 1, 48, 0, 0, 0), (.iaload, 49, 0, 0, 0), (.ifCond .ge (6), 50, 52, 0, 0), (.bipush (-11), 51, 0, 0, (-11)), (.ireturn, 52, 0, 0, 0), (.iload_n 3, 53, 0, 0, 0), (.ifCond .lt (16), 54, 62, 0, 0), (.iload_n 3, 55, 0, 0, 0), (.aload_n 0, 56, 0, 0, 0), (.getfield 171, 57, 10, 2, 52), (.iload_n 1, 58, 0, 0, 0), (.iaload, 59, 0, 0, 0), (.bipush (9), 60, 0, 0, 9), (.isub, 61, 0, 0, 0), (.if_icmp .le (6), 62, 64, 0, 0), (.bipush (-12), 63, 0, 0, (-12)), (.ireturn, 64, 0, 0, 0), (.aload_n 0, 65, 0, 0, 0), (.getfield 7, 66, 10, 0, 0), (.bipush (10), 67, 0, 0, 10), (.if_icmp .ne (6), 68, 70, 0, 0), (.bipush (-4), 69, 0, 0, (-4)), (.ireturn, 70, 0, 0, 0), (.aload_n 0, 71, 0, 0, 0), (.getfield 13, 72, 10, 2, 1), (.aload_n 0, 73, 0, 0, 0), (.getfield 7, 74, 10, 0, 0), (.iconst (3), 75, 0, 0, 3), (.iastore, 76, 0, 0, 0), (.aload_n 0, 77, 0, 0, 0), (.getfield 17, 78, 10, 2, 2), (.aload_n 0, 79, 0, 0, 0), (.getfield 7, 80, 10, 0, 0), (.iconst (0), 81, 0, 0, 0), (.iastore, 82, 0, 0, 0), (.iconst (0), 83, 0, 0, 0), (.istore 6, 84, 0, 0, 0), (.iload 6, 85, 0, 0, 0), (.bipush (9), 86, 0, 0, 9), (.if_icmp .ge (54), 87, 116, 0, 0), (.aload_n 0, 88, 0, 0, 0), (.getfield 174, 89, 10, 2, 53), (.bipush (40), 90, 0, 0, 40), (.iload_n 1, 91, 0, 0, 0), (.imul, 92, 0, 0, 0), (.iload_n 3, 93, 0, 0, 0), (.iadd, 94, 0, 0, 0), (.iload 6, 95, 0, 0, 0), (.iadd, 96, 0, 0, 0), (.iaload, 97, 0, 0, 0), (.istore 7, 98, 0, 0, 0), (.iload 7, 99, 0, 0, 0), (.ifCond .eq (27), 100, 114, 0, 0), (.aload_n 0, 101, 0, 0, 0), (.aload_n 0, 102, 0, 0, 0), (.getfield 7, 103, 10, 0, 0), (.iload 6, 104, 0, 0, 0), (.iconst (3), 105, 0, 0, 3), (.idiv, 106, 0, 0, 0), (.iload 6, 107, 0, 0, 0), (.iconst (3), 108, 0, 0, 3), (.irem, 109, 0, 0, 0), (.aload_n 0, 110, 0, 0, 0), (.iload 4, 111, 0, 0, 0), (.iload 7, 112, 0, 0, 0), (.invokevirtual 207, 113, 138, 3, 0), (.invokevirtual 192, 114, 129, 5, 0), (.iinc 6 (1), 115, 0, 0, 1), (.goto (-55), 116, 84, 0, 0), (.aload_n 0, 117, 0, 0, 0), (.dup, 118, 0, 0, 0), (.getfield 7, 119, 10, 0, 0), (.iconst (1), 120, 0, 0, 1), (.iadd, 121, 0, 0, 0), (.putfield 7, 122, 10, 0, 0), (.aload_n 0, 123, 0, 0, 0), (.getfield 7, 124, 10, 0, 0), (.iconst (1), 125, 0, 0, 1), (.isub, 126, 0, 0, 0), (.ireturn, 127, 0, 0, 0)]
def p_M_hide : List Nat := [0, 2, 3, 6, 8, 9, 12, 14, 15, 18, 20, 22, 25, 26, 29, 30, 32, 34, 37, 38, 39, 40, 41, 44, 47, 48, 49, 50, 51, 54, 57, 59, 60, 61, 64, 65, 66, 69, 70, 73, 74, 75, 76, 79, 81, 82, 83, 86, 87, 88, 91, 93, 94, 95, 98, 99, 100, 103, 104, 105, 107, 108, 111, 113, 114, 115, 118, 120, 123, 125, 126, 127, 130, 131, 134, 135, 136, 137, 140, 141, 144, 145, 146, 147, 149, 151, 153, 156, 157, 160, 162, 163, 164, 165, 166, 168, 169, 170, 172, 174, 177, 178, 179, 182, 184, 185, 186, 188, 189, 190, 191, 193, 195, 198, 201, 204, 207, 208, 209, 212, 213, 214, 217, 218, 221, 222, 223, 224]
def c_M_timesIn : List PI := [(.iload_n 2, 1, 0, 0, 0), (.i2l, 2, 0, 0, 0), (.lstore_n 3, 3, 0, 0, 0), (.iconst (0), 4, 0, 0, 0), (.istore 5, 5, 0, 0, 0), (.lload_n 3, 6, 0, 0, 0), (.iload_n 1, 7, 0, 0, 0), (.i2l, 8, 0, 0, 0), (.lrem, 9, 0, 0, 0), (.lconst 0, 10, 0, 0, 0), (.lcmp, 11, 0, 0, 0), (.ifCond .ne (14), 12, 19, 0, 0), (.lload_n 3, 13, 0, 0, 0), (.iload_n 1, 14, 0, 0, 0), (.i2l, 15, 0, 0, 0), (.ldiv, 16, 0, 0, 0), (.lstore_n 3, 17, 0, 0, 0), (.iinc 5 (1), 18, 0, 0, 1), (.goto (-17), 19, 5, 0, 0), (.iload 5, 20, 0, 0, 0), (.ireturn, 21, 0, 0, 0)]
def p_M_timesIn : List Nat := [0, 1, 2, 3, 4, 6, 7, 8, 9, 10, 11, 12, 15, 16, 17, 18, 19, 20, 23, 26, 28, 29]
def c_M_drop : List PI := [(.aload_n 0, 1, 0, 0, 0), (.getfield 7, 2, 10, 0, 0), (.ifCond .ne (6), 3, 5, 0, 0), (.bipush (-3), 4, 0, 0, (-3)), (.ireturn, 5, 0, 0, 0), (.aload_n 0, 6, 0, 0, 0), (.dup, 7, 0, 0, 0), (.getfield 7, 8, 10, 0, 0), (.iconst (1), 9, 0, 0, 1), (.isub, 10, 0, 0, 0), (.putfield 7, 11, 10, 0, 0), (.aload_n 0, 12, 0, 0, 0), (.getfield 7, 13, 10, 0, 0), (.ireturn, 14, 0, 0, 0)]
def p_M_drop : List Nat := [0, 1, 4, 7, 9, 10, 11, 12, 15, 16, 17, 20, 21, 24, 25]
def c_M_worth : List PI := [(.aload_n 0, 1, 0, 0, 0), (.iload_n 1, 2, 0, 0, 0), (.invokevirtual 226, 3, 141, 2, 0), (.ifCond .eq (25), 4, 16, 0, 0), (.aload_n 0, 5, 0, 0, 0), (.iload_n 2, 6, 0, 0, 0), (.iload_n 3, 7, 0, 0, 0), (.iload 4, 8, 0, 0, 0), (.invokevirtual 229, 9, 142, 4, 0), (.ifCond .eq (14), 10, 16, 0, 0), (.aload_n 0, 11, 0, 0, 0), (.iload 5, 12, 0, 0, 0), (.iconst (0), 13, 0, 0, 0), (.iconst (1), 14, 0, 0, 1), (.invokevirtual 180, 15, 127, 4, 0), (.ifCond .ne (7), 16, 18, 0, 0), (.ldc2_w 232, 17, 0, 0, (-4611686018427387904)), (.lreturn, 18, 0, 0, 0), (.aload_n 0, 19, 0, 0, 0), (.iload_n 2, 20, 0, 0, 0), (.i2l, 21, 0, 0, 0), (.iload 4, 22, 0, 0, 0), (.i2l, 23, 0, 0, 0), (.iload_n 3, 24, 0, 0, 0), (.i2l, 25, 0, 0, 0), (.iload 4, 26, 0, 0, 0), (.i2l, 27, 0, 0, 0), (.invokevirtual 234, 28, 143, 5, 0), (.aload_n 0, 29, 0, 0, 0), (.aload_n 0, 30, 0, 0, 0), (.iload_n 1, 31, 0, 0, 0), (.invokevirtual 219, 32, 146, 2, 0), (.aload_n 0, 33, 0, 0, 0), (.getfield 50, 34, 10, 1, 12), (.aload_n 0, 35, 0, 0, 0), (.getfield 56, 36, 10, 1, 14), (.lmul, 37, 0, 0, 0), (.iload 5, 38, 0, 0, 0), (.invokevirtual 222, 39, 144, 4, 0), (.lreturn, 40, 0, 0, 0)]
def p_M_worth : List Nat := [0, 1, 2, 5, 8, 9, 10, 11, 13, 16, 19, 20, 22, 23, 24, 27, 30, 33, 34, 35, 36, 37, 39, 40, 41, 42, 44, 45, 48, 49, 50, 51, 54, 55, 58, 59, 62, 63, 65, 68, 69]
def c_M_hasTerms : List PI := [(.aload_n 0, 1, 0, 0, 0), (.iload_n 1, 2, 0, 0, 0), (.invokevirtual 184, 3, 126, 2, 0), (.ifCond .eq (16), 4, 11, 0, 0), (.aload_n 0, 5, 0, 0, 0), (.getfield 17, 6, 10, 2, 2), (.iload_n 1, 7, 0, 0, 0), (.iaload, 8, 0, 0, 0), (.ifCond .le (7), 9, 11, 0, 0), (.iconst (1), 10, 0, 0, 1), (.goto (4), 11, 12, 0, 0), (.iconst (0), 12, 0, 0, 0), (.ireturn, 13, 1, 0, 0)]
def p_M_hasTerms : List Nat := [0, 1, 2, 5, 8, 9, 12, 13, 14, 17, 18, 21, 22, 23]
def c_M_isPoint : List PI := [(.aload_n 0, 1, 0, 0, 0), (.iload_n 1, 2, 0, 0, 0), (.sipush (-1000), 3, 0, 0, (-1000)), (.sipush (1000), 4, 0, 0, 1000), (.invokevirtual 180, 5, 127, 4, 0), (.ifCond .eq (32), 6, 20, 0, 0), (.aload_n 0, 7, 0, 0, 0), (.iload_n 2, 8, 0, 0, 0), (.sipush (-1000), 9, 0, 0, (-1000)), (.sipush (1000), 10, 0, 0, 1000), (.invokevirtual 180, 11, 127, 4, 0), (.ifCond .eq (18), 12, 20, 0, 0), (.aload_n 0, 13, 0, 0, 0), (.iload_n 3, 14, 0, 0, 0), (.iconst (1), 15, 0, 0, 1), (.bipush (100), 16, 0, 0, 100), (.invokevirtual 180, 17, 127, 4, 0), (.ifCond .eq (7), 18, 20, 0, 0), (.iconst (1), 19, 0, 0, 1), (.goto (4), 20, 21, 0, 0), (.iconst (0), 21, 0, 0, 0), (.ireturn, 22, 1, 0, 0)]
def p_M_isPoint : List Nat := [0, 1, 2, 5, 8, 11, 14, 15, 16, 19, 22, 25, 28, 29, 30, 31, 33, 36, 39, 40, 43, 44, 45]
def c_M_standAt : List PI := [(.aload_n 0, 1, 0, 0, 0), (.aload_n 0, 2, 0, 0, 0), (.lload_n 1, 3, 0, 0, 0), (.lload_n 3, 4, 0, 0, 0), (.iconst (0), 5, 0, 0, 0), (.invokevirtual 222, 6, 144, 4, 0), (.putfield 46, 7, 10, 1, 11), (.aload_n 0, 8, 0, 0, 0), (.aload_n 0, 9, 0, 0, 0), (.lload_n 1, 10, 0, 0, 0), (.lload_n 3, 11, 0, 0, 0), (.iconst (1), 12, 0, 0, 1), (.invokevirtual 222, 13, 144, 4, 0), (.putfield 50, 14, 10, 1, 12), (.aload_n 0, 15, 0, 0, 0), (.aload_n 0, 16, 0, 0, 0), (.lload 5, 17, 0, 0, 0), (.lload 7, 18, 0, 0, 0), (.iconst (0), 19, 0, 0, 0), (.invokevirtual 222, 20, 144, 4, 0), (.putfield 53, 21, 10, 1, 13), (.aload_n 0, 22, 0, 0, 0), (.aload_n 0, 23, 0, 0, 0), (.lload 5, 24, 0, 0, 0), (.lload 7, 25, 0, 0, 0), (.iconst (1), 26, 0, 0, 1), (.invokevirtual 222, 27, 144, 4, 0), (.putfield 56, 28, 10, 1, 14), (.return_, 29, 0, 0, 0)]
def p_M_standAt : List Nat := [0, 1, 2, 3, 4, 5, 8, 11, 12, 13, 14, 15, 16, 19, 22, 23, 24, 26, 28, 29, 32, 35, 36, 37, 39, 41, 42, 45, 48, 49]
def c_M_lowest : List PI := [(.lload_n 1, 1, 0, 0, 0), (.lconst 0, 2, 0, 0, 0), (.lcmp, 3, 0, 0, 0), (.ifCond .ne (14), 4, 10, 0, 0), (.iload 5, 5, 0, 0, 0), (.ifCond .ne (7), 6, 8, 0, 0), (.lconst 0, 7, 0, 0, 0), (.goto (4), 8, 9, 0, 0), (.lconst 1, 9, 0, 0, 1), (.lreturn, 10, 0, 0, 0), (.lload_n 3, 11, 0, 0, 0), (.lconst 0, 12, 0, 0, 0), (.lcmp, 13, 0, 0, 0), (.ifCond .ge (13), 14, 20, 0, 0), (.aload_n 0, 15, 0, 0, 0), (.lload_n 1, 16, 0, 0, 0), (.lload_n 3, 17, 0, 0, 0), (.invokevirtual 211, 18, 145, 3, 0), (.lneg, 19, 0, 0, 0), (.goto (9), 20, 24, 0, 0), (.aload_n 0, 21, 0, 0, 0), (.lload_n 1, 22, 0, 0, 0), (.lload_n 3, 23, 0, 0, 0), (.invokevirtual 211, 24, 145, 3, 0), (.lstore 6, 25, 0, 0, 0), (.iload 5, 26, 0, 0, 0), (.ifCond .ne (10), 27, 31, 0, 0), (.lload_n 1, 28, 0, 0, 0), (.lload 6, 29, 0, 0, 0), (.ldiv, 30, 0, 0, 0), (.goto (7), 31, 34, 0, 0), (.lload_n 3, 32, 0, 0, 0), (.lload 6, 33, 0, 0, 0), (.ldiv, 34, 0, 0, 0), (.lreturn, 35, 0, 0, 0)]
def p_M_lowest : List Nat := [0, 1, 2, 3, 6, 8, 11, 12, 15, 16, 17, 18, 19, 20, 23, 24, 25, 26, 29, 30, 33, 34, 35, 36, 39, 41, 43, 46, 47, 49, 50, 53, 54, 56, 57, 58]
def c_M_divisor : List PI := [(.lload_n 1, 1, 0, 0, 0), (.lconst 0, 2, 0, 0, 0), (.lcmp, 3, 0, 0, 0), (.ifCond .ge (8), 4, 7, 0, 0), (.lload_n 1, 5, 0, 0, 0), (.lneg, 6, 0, 0, 0), (.goto (4), 7, 8, 0, 0), (.lload_n 1, 8, 0, 0, 0), (.lstore 5, 9, 0, 0, 0), (.lload_n 3, 10, 0, 0, 0), (.lconst 0, 11, 0, 0, 0), (.lcmp, 12, 0, 0, 0), (.ifCond .ge (8), 13, 16, 0, 0), (.lload_n 3, 14, 0, 0, 0), (.lneg, 15, 0, 0, 0), (.goto (4), 16, 17, 0, 0), (.lload_n 3, 17, 0, 0, 0), (.lstore 7, 18, 0, 0, 0), (.lload 7, 19, 0, 0, 0), (.lconst 0, 20, 0, 0, 0), (.lcmp, 21, 0, 0, 0), (.ifCond .eq (21), 22, 31, 0, 0), (.lload 5, 23, 0, 0, 0), (.lload 7, 24, 0, 0, 0), (.lrem, 25, 0, 0, 0), (.lstore 9, 26, 0, 0, 0), (.lload 7, 27, 0, 0, 0), (.lstore 5, 28, 0, 0, 0), (.lload 9, 29, 0, 0, 0), (.lstore 7, 30, 0, 0, 0), (.goto (-22), 31, 18, 0, 0), (.lload 5, 32, 0, 0, 0), (.lreturn, 33, 0, 0, 0)]
def p_M_divisor : List Nat := [0, 1, 2, 3, 6, 7, 8, 11, 12, 14, 15, 16, 17, 20, 21, 22, 25, 26, 28, 30, 31, 32, 35, 37, 39, 40, 42, 44, 46, 48, 50, 53, 55, 56]
def c_M_leastOf : List PI := [(.aload_n 0, 1, 0, 0, 0), (.bipush (40), 2, 0, 0, 40), (.iload_n 1, 3, 0, 0, 0), (.imul, 4, 0, 0, 0), (.invokevirtual 215, 5, 147, 2, 0), (.lstore_n 2, 6, 0, 0, 0), (.iconst (1), 7, 0, 0, 1), (.istore 4, 8, 0, 0, 0), (.iload 4, 9, 0, 0, 0), (.aload_n 0, 10, 0, 0, 0), (.getfield 17, 11, 10, 2, 2), (.iload_n 1, 12, 0, 0, 0), (.iaload, 13, 0, 0, 0), (.if_icmp .ge (37), 14, 34, 0, 0), (.aload_n 0, 15, 0, 0, 0), (.bipush (40), 16, 0, 0, 40), (.iload_n 1, 17, 0, 0, 0), (.imul, 18, 0, 0, 0), (.iload 4, 19, 0, 0, 0), (.iadd, 20, 0, 0, 0), (.invokevirtual 215, 21, 147, 2, 0), (.lload_n 2, 22, 0, 0, 0), (.lcmp, 23, 0, 0, 0), (.ifCond .ge (15), 24, 32, 0, 0), (.aload_n 0, 25, 0, 0, 0), (.bipush (40), 26, 0, 0, 40), (.iload_n 1, 27, 0, 0, 0), (.imul, 28, 0, 0, 0), (.iload 4, 29, 0, 0, 0), (.iadd, 30, 0, 0, 0), (.invokevirtual 215, 31, 147, 2, 0), (.lstore_n 2, 32, 0, 0, 0), (.iinc 4 (1), 33, 0, 0, 1), (.goto (-42), 34, 8, 0, 0), (.lload_n 2, 35, 0, 0, 0), (.lreturn, 36, 0, 0, 0)]
def p_M_leastOf : List Nat := [0, 1, 3, 4, 5, 8, 9, 10, 12, 14, 15, 18, 19, 20, 23, 24, 26, 27, 28, 30, 31, 34, 35, 36, 39, 40, 42, 43, 44, 46, 47, 50, 51, 54, 57, 58, 59]
def c_M_worthOf : List PI := [(.aload_n 0, 1, 0, 0, 0), (.getfield 26, 2, 10, 2, 5), (.iload_n 1, 3, 0, 0, 0), (.iaload, 4, 0, 0, 0), (.i2l, 5, 0, 0, 0), (.aload_n 0, 6, 0, 0, 0), (.getfield 50, 7, 10, 1, 12), (.lmul, 8, 0, 0, 0), (.aload_n 0, 9, 0, 0, 0), (.getfield 56, 10, 10, 1, 14), (.lmul, 11, 0, 0, 0), (.aload_n 0, 12, 0, 0, 0), (.getfield 20, 13, 10, 2, 3), (.iload_n 1, 14, 0, 0, 0), (.iaload, 15, 0, 0, 0), (.i2l, 16, 0, 0, 0), (.aload_n 0, 17, 0, 0, 0), (.getfield 46, 18, 10, 1, 11), (.lmul, 19, 0, 0, 0), (.aload_n 0, 20, 0, 0, 0), (.getfield 56, 21, 10, 1, 14), (.lmul, 22, 0, 0, 0), (.ladd, 23, 0, 0, 0), (.aload_n 0, 24, 0, 0, 0), (.getfield 23, 25, 10, 2, 4), (.iload_n 1, 26, 0, 0, 0), (.iaload, 27, 0, 0, 0), (.i2l, 28, 0, 0, 0), (.aload_n 0, 29, 0, 0, 0), (.getfield 53, 30, 10, 1, 13), (.lmul, 31, 0, 0, 0), (.aload_n 0, 32, 0, 0, 0), (.getfield 50, 33, 10, 1, 12), (.lmul, 34, 0, 0, 0), (.ladd, 35, 0, 0, 0), (.lreturn, 36, 0, 0, 0)]
def p_M_worthOf : List Nat := [0, 1, 4, 5, 6, 7, 8, 11, 12, 13, 16, 17, 18, 21, 22, 23, 24, 25, 28, 29, 30, 33, 34, 35, 36, 39, 40, 41, 42, 43, 46, 47, 48, 51, 52, 53, 54]
def c_M_leastAt : List PI := [(.aload_n 0, 1, 0, 0, 0), (.iload_n 1, 2, 0, 0, 0), (.invokevirtual 226, 3, 141, 2, 0), (.ifCond .eq (14), 4, 10, 0, 0), (.aload_n 0, 5, 0, 0, 0), (.iload_n 2, 6, 0, 0, 0), (.iload_n 3, 7, 0, 0, 0), (.iload 4, 8, 0, 0, 0), (.invokevirtual 229, 9, 142, 4, 0), (.ifCond .ne (6), 10, 12, 0, 0), (.bipush (-2), 11, 0, 0, (-2)), (.ireturn, 12, 0, 0, 0), (.aload_n 0, 13, 0, 0, 0), (.iload_n 2, 14, 0, 0, 0), (.i2l, 15, 0, 0, 0), (.iload 4, 16, 0, 0, 0), (.i2l, 17, 0, 0, 0), (.iload_n 3, 18, 0, 0, 0), (.i2l, 19, 0, 0, 0), (.iload 4, 20, 0, 0, 0), (.i2l, 21, 0, 0, 0), (.invokevirtual 234, 22, 143, 5, 0), (.aload_n 0, 23, 0, 0, 0), (.iload_n 1, 24, 0, 0, 0), (.invokevirtual 238, 25, 149, 2, 0), (.ireturn, 26, 0, 0, 0)]
def p_M_leastAt : List Nat := [0, 1, 2, 5, 8, 9, 10, 11, 13, 16, 19, 21, 22, 23, 24, 25, 27, 28, 29, 30, 32, 33, 36, 37, 38, 41, 42]
def c_M_countLeast : List PI := [(.aload_n 0, 1, 0, 0, 0), (.iload_n 1, 2, 0, 0, 0), (.invokevirtual 219, 3, 146, 2, 0), (.lstore_n 2, 4, 0, 0, 0), (.iconst (0), 5, 0, 0, 0), (.istore 4, 6, 0, 0, 0), (.iconst (0), 7, 0, 0, 0), (.istore 5, 8, 0, 0, 0), (.iload 5, 9, 0, 0, 0), (.aload_n 0, 10, 0, 0, 0), (.getfield 17, 11, 10, 2, 2), (.iload_n 1, 12, 0, 0, 0), (.iaload, 13, 0, 0, 0), (.if_icmp .ge (35), 14, 32, 0, 0), (.iload 4, 15, 0, 0, 0), (.aload_n 0, 16, 0, 0, 0), (.bipush (40), 17, 0, 0, 40), (.iload_n 1, 18, 0, 0, 0), (.imul, 19, 0, 0, 0), (.iload 5, 20, 0, 0, 0), (.iadd, 21, 0, 0, 0), (.invokevirtual 215, 22, 147, 2, 0), (.lload_n 2, 23, 0, 0, 0), (.lcmp, 24, 0, 0, 0), (.ifCond .ne (7), 25, 27, 0, 0), (.iconst (1), 26, 0, 0, 1), (.goto (4), 27, 28, 0, 0), (.iconst (0), 28, 0, 0, 0), (.iadd, 29, 0, 0, 0), (.istore 4, 30, 0, 0, 0), (.iinc 5 (1), 31, 0, 0, 1), (.goto (-40), 32, 8, 0, 0), (.iload 4, 33, 0, 0, 0), (.ireturn, 34, 0, 0, 0)]
def p_M_countLeast : List Nat := [0, 1, 2, 5, 6, 7, 9, 10, 12, 14, 15, 18, 19, 20, 23, 25, 26, 28, 29, 30, 32, 33, 36, 37, 38, 41, 42, 45, 46, 47, 49, 52, 55, 57, 58]
def c_M_told : List PI := [(.aload_n 0, 1, 0, 0, 0), (.iload_n 1, 2, 0, 0, 0), (.invokevirtual 184, 3, 126, 2, 0), (.ifCond .eq (14), 4, 10, 0, 0), (.aload_n 0, 5, 0, 0, 0), (.iload_n 2, 6, 0, 0, 0), (.iconst (0), 7, 0, 0, 0), (.bipush (9), 8, 0, 0, 9), (.invokevirtual 180, 9, 127, 4, 0), (.ifCond .ne (6), 10, 12, 0, 0), (.bipush (-2), 11, 0, 0, (-2)), (.ireturn, 12, 0, 0, 0), (.iload_n 2, 13, 0, 0, 0), (.tableswitch (67) (0) (6) #[(41), (48), (67), (67), (55), (67), (61)], 14, 8, 0, 0), (.aload_n 0, 15, 0, 0, 0), (.getfield 13, 16, 10, 2, 1), (.iload_n 1, 17, 0, 0, 0), (.iaload, 18, 0, 0, 0), (.ireturn, 19, 0, 0, 0), (.aload_n 0, 20, 0, 0, 0), (.getfield 17, 21, 10, 2, 2), (.iload_n 1, 22, 0, 0, 0), (.iaload, 23, 0, 0, 0), (.ireturn, 24, 0, 0, 0), (.aload_n 0, 25, 0, 0, 0), (.iload_n 1, 26, 0, 0, 0), (.invokevirtual 296, 27, 151, 2, 0), (.ireturn, 28, 0, 0, 0), (.aload_n 0, 29, 0, 0, 0), (.iload_n 1, 30, 0, 0, 0), (.invokevirtual 299, 31, 156, 2, 0), (.ireturn, 32, 0, 0, 0), (.aload_n 0, 33, 0, 0, 0), (.iload_n 1, 34, 0, 0, 0), (.invokevirtual 302, 35, 161, 2, 0), (.iload_n 2, 36, 0, 0, 0), (.iconst (2), 37, 0, 0, 2), (.if_icmp .ne (8), 38, 41, 0, 0), (.aload_n 0, 39, 0, 0, 0), (.getfield 68, 40, 10, 0, 18), (.ireturn, 41, 0, 0, 0), (.iload_n 2, 42, 0, 0, 0), (.iconst (3), 43, 0, 0, 3), (.if_icmp .ne (8), 44, 47, 0, 0), (.aload_n 0, 45, 0, 0, 0), (.getfield 114, 46, 10, 0, 33), (.ireturn, 47, 0, 0, 0), (.iload_n 2, 48, 0, 0, 0), (.iconst (5), 49, 0, 0, 5), (.if_icmp .ne (17), 50, 58, 0, 0), (.aload_n 0, 51, 0, 0, 0), (.iload_n 1, 52, 0, 0, 0), (.invokevirtual 305, 53, 167, 2, 0), (.ifCond .eq (7), 54, 56, 0, 0), (.iconst (1), 55, 0, 0, 1), (.goto (4), 56, 57, 0, 0), (.iconst (0), 57, 0, 0, 0), (.ireturn, 58, 0, 0, 0), (.iconst (0), 59, 0, 0, 0), (.istore_n 3, 60, 0, 0, 0), (.iconst (0), 61, 0, 0, 0), (.istore 4, 62, 0, 0, 0), (.iload 4, 63, 0, 0, 0), (.aload_n 0, 64, 0, 0, 0), (.getfield 68, 65, 10, 0, 18), (.if_icmp .ge (30), 66, 81, 0, 0), (.iload_n 3, 67, 0, 0, 0), (.aload_n 0, 68, 0, 0, 0), (.iload 4, 69, 0, 0, 0), (.invokevirtual 308, 70, 170, 2, 0), (.iload_n 2, 71, 0, 0, 0), (.bipush (6), 72, 0, 0, 6), (.isub, 73, 0, 0, 0), (.if_icmp .ne (7), 74, 76, 0, 0), (.iconst (1), 75, 0, 0, 1), (.goto (4), 76, 77, 0, 0), (.iconst (0), 77, 0, 0, 0), (.iadd, 78, 0, 0, 0), (.istore_n 3, 79, 0, 0, 0), (.iinc 4 (1), 80, 0, 0, 1), (.goto (-33), 81, 62, 0, 0), (.iload_n 3, 82, 0, 0, 0), (.ireturn, 83, 0, 0, 0)]
def p_M_told : List Nat := [0, 1, 2, 5, 8, 9, 10, 11, 13, 16, 19, 21, 22, 23, 64, 65, 68, 69, 70, 71, 72, 75, 76, 77, 78, 79, 80, 83, 84, 85, 86, 89, 90, 91, 92, 95, 96, 97, 100, 101, 104, 105, 106, 107, 110, 111, 114, 115, 116, 117, 120, 121, 122, 125, 128, 129, 132, 133, 134, 135, 136, 137, 139, 141, 142, 145, 148, 149, 150, 152, 155, 156, 158, 159, 162, 163, 166, 167, 168, 169, 172, 175, 176, 177]
def c_M_areaOf : List PI := [(.aload_n 0, 1, 0, 0, 0), (.iconst (0), 2, 0, 0, 0), (.putfield 65, 3, 10, 0, 17), (.bipush (40), 4, 0, 0, 40), (.iload_n 1, 5, 0, 0, 0), (.imul, 6, 0, 0, 0), (.istore_n 2, 7, 0, 0, 0), (.iload_n 2, 8, 0, 0, 0), (.bipush (40), 9, 0, 0, 40), (.iload_n 1, 10, 0, 0, 0), (.imul, 11, 0, 0, 0), (.aload_n 0, 12, 0, 0, 0), (.getfield 17, 13, 10, 2, 2), (.iload_n 1, 14, 0, 0, 0), (.iaload, 15, 0, 0, 0), (.iadd, 16, 0, 0, 0), (.if_icmp .ge (25), 17, 29, 0, 0), (.aload_n 0, 18, 0, 0, 0), (.aload_n 0, 19, 0, 0, 0), (.getfield 20, 20, 10, 2, 3), (.iload_n 2, 21, 0, 0, 0), (.iaload, 22, 0, 0, 0), (.aload_n 0, 23, 0, 0, 0), (.getfield 23, 24, 10, 2, 4), (.iload_n 2, 25, 0, 0, 0), (.iaload, 26, 0, 0, 0), (.invokevirtual 247, 27, 152, 3, 0), (.iinc 2 (1), 28, 0, 0, 1), (.goto (-34), 29, 7, 0, 0), (.aload_n 0, 30, 0, 0, 0), (.invokevirtual 251, 31, 153, 1, 0), (.ireturn, 32, 0, 0, 0)]
def p_M_areaOf : List Nat := [0, 1, 2, 5, 7, 8, 9, 10, 11, 13, 14, 15, 16, 19, 20, 21, 22, 25, 26, 27, 30, 31, 32, 33, 36, 37, 38, 41, 44, 47, 48, 51, 52]
def c_M_ringAdd : List PI := [(.aload_n 0, 1, 0, 0, 0), (.getfield 59, 2, 10, 2, 15), (.aload_n 0, 3, 0, 0, 0), (.getfield 65, 4, 10, 0, 17), (.iload_n 1, 5, 0, 0, 0), (.iastore, 6, 0, 0, 0), (.aload_n 0, 7, 0, 0, 0), (.getfield 62, 8, 10, 2, 16), (.aload_n 0, 9, 0, 0, 0), (.getfield 65, 10, 10, 0, 17), (.iload_n 2, 11, 0, 0, 0), (.iastore, 12, 0, 0, 0), (.aload_n 0, 13, 0, 0, 0), (.dup, 14, 0, 0, 0), (.getfield 65, 15, 10, 0, 17), (.iconst (1), 16, 0, 0, 1), (.iadd, 17, 0, 0, 0), (.putfield 65, 18, 10, 0, 17), (.return_, 19, 0, 0, 0)]
def p_M_ringAdd : List Nat := [0, 1, 4, 5, 8, 9, 10, 11, 14, 15, 18, 19, 20, 21, 22, 25, 26, 27, 30, 31]
def c_M_ringArea : List PI := [(.aload_n 0, 1, 0, 0, 0), (.getfield 65, 2, 10, 0, 17), (.ifCond .ne (5), 3, 5, 0, 0), (.iconst (0), 4, 0, 0, 0), (.ireturn, 5, 0, 0, 0), (.iconst (0), 6, 0, 0, 0), (.istore_n 1, 7, 0, 0, 0), (.iconst (1), 8, 0, 0, 1), (.istore_n 2, 9, 0, 0, 0), (.iload_n 2, 10, 0, 0, 0), (.aload_n 0, 11, 0, 0, 0), (.getfield 65, 12, 10, 0, 17), (.if_icmp .ge (56), 13, 44, 0, 0), (.aload_n 0, 14, 0, 0, 0), (.getfield 59, 15, 10, 2, 15), (.iload_n 2, 16, 0, 0, 0), (.iaload, 17, 0, 0, 0), (.aload_n 0, 18, 0, 0, 0), (.getfield 59, 19, 10, 2, 15), (.iload_n 1, 20, 0, 0, 0), (.iaload, 21, 0, 0, 0), (.if_icmp .lt (33), 22, 40, 0, 0), (.aload_n 0, 23, 0, 0, 0), (.getfield 59, 24, 10, 2, 15), (.iload_n 2, 25, 0, 0, 0), (.iaload, 26, 0, 0, 0), (.aload_n 0, 27, 0, 0, 0), (.getfield 59, 28, 10, 2, 15), (.iload_n 1, 29, 0, 0, 0), (.iaload, 30, 0, 0, 0), (.if_icmp .ne (20), 31, 42, 0, 0), (.aload_n 0, 32, 0, 0, 0), (.getfield 62, 33, 10, 2, 16), (.iload_n 2, 34, 0, 0, 0), (.iaload, 35, 0, 0, 0), (.aload_n 0, 36, 0, 0, 0), (.getfield 62, 37, 10, 2, 16), (.iload_n 1, 38, 0, 0, 0), (.iaload, 39, 0, 0, 0), (.if_icmp .ge (5), 40, 42, 0, 0), (.iload_n 2, 41, 0, 0, 0), (.istore_n 1, 42, 0, 0, 0), (.iinc 2 (1), 43, 0, 0, 1), (.goto (-58), 44, 9, 0, 0), (.iconst (0), 45, 0, 0, 0), (.istore_n 2, 46, 0, 0, 0), (.iload_n 1, 47, 0, 0, 0), (.istore_n 3, 48, 0, 0, 0), (.iconst (1), 49, 0, 0, 1), (.istore 4, 50, 0, 0, 0), (.iload 4, 51, 0, 0, 0), (.ifCond .eq (187), 52, 154, 0, 0), (.iconst (-1), 53, 0, 0, (-1)), (.istore 5, 54, 0, 0, 0), (.iconst (0), 55, 0, 0, 0), (.istore 6, 56, 0, 0, 0), (.iload 6, 57, 0, 0, 0), (.aload_n 0, 58, 0, 0, 0), (.getfield 65, 59, 10, 0, 17), (.if_icmp .ge (90), 60, 103, 0, 0), (.aload_n 0, 61, 0, 0, 0), (.getfield 59, 62, 10, 2, 15), (.iload 6, 63, 0, 0, 0), (.iaload, 64, 0, 0, 0), (.aload_n 0, 65, 0, 0, 0), (.getfield 59, 66, 10, 2, 15), (.iload_n 3, 67, 0, 0, 0), (.iaload, 68, 0, 0, 0), (.if_icmp .ne (22), 69, 79, 0, 0), (.aload_n 0, 70, 0, 0, 0), (.getfield 62, 71, 10, 2, 16), (.iload 6, 72, 0, 0, 0), (.iaload, 73, 0, 0, 0), (.aload_n 0, 74, 0, 0, 0), (.getfield 62, 75, 10, 2, 16), (.iload_n 3, 76, 0, 0, 0), (.iaload, 77, 0, 0, 0), (.if_icmp .ne (6), 78, 79, 0, 0), (.goto (49), 79, 101, 0, 0), (.iload 5, 80, 0, 0, 0), (.ifCond .ge (7), 81, 83, 0, 0), (.iconst (-1), 82, 0, 0, (-1)), (.goto (12), 83, 88, 0, 0), (.aload_n 0, 84, 0, 0, 0), (.iload_n 3, 85, 0, 0, 0), (.iload 5, 86, 0, 0, 0), (.iload 6, 87, 0, 0, 0), (.invokevirtual 241, 88, 154, 4, 0), (.istore 7, 89, 0, 0, 0), (.iload 7, 90, 0, 0, 0), (.ifCond .lt (20), 91, 99, 0, 0), (.iload 7, 92, 0, 0, 0), (.ifCond .ne (19), 93, 101, 0, 0), (.aload_n 0, 94, 0, 0, 0), (.iload_n 3, 95, 0, 0, 0), (.iload 6, 96, 0, 0, 0), (.iload 5, 97, 0, 0, 0), (.invokevirtual 244, 98, 155, 4, 0), (.ifCond .eq (7), 99, 101, 0, 0), (.iload 6, 100, 0, 0, 0), (.istore 5, 101, 0, 0, 0), (.iinc 6 (1), 102, 0, 0, 1), (.goto (-93), 103, 56, 0, 0), (.iload 5, 104, 0, 0, 0), (.ifCond .ge (5), 105, 107, 0, 0), (.iconst (0), 106, 0, 0, 0), (.ireturn, 107, 0, 0, 0), (.iload_n 2, 108, 0, 0, 0), (.aload_n 0, 109, 0, 0, 0), (.getfield 59, 110, 10, 2, 15), (.iload_n 3, 111, 0, 0, 0), (.iaload, 112, 0, 0, 0), (.aload_n 0, 113, 0, 0, 0), (.getfield 62, 114, 10, 2, 16), (.iload 5, 115, 0, 0, 0), (.iaload, 116, 0, 0, 0), (.imul, 117, 0, 0, 0), (.aload_n 0, 118, 0, 0, 0), (.getfield 59, 119, 10, 2, 15), (.iload 5, 120, 0, 0, 0), (.iaload, 121, 0, 0, 0), (.aload_n 0, 122, 0, 0, 0), (.getfield 62, 123, 10, 2, 16), (.iload_n 3, 124, 0, 0, 0), (.iaload, 125, 0, 0, 0), (.imul, 126, 0, 0, 0), (.isub, 127, 0, 0, 0), (.iadd, 128, 0, 0, 0), (.istore_n 2, 129, 0, 0, 0), (.iload 5, 130, 0, 0, 0), (.istore_n 3, 131, 0, 0, 0), (.aload_n 0, 132, 0, 0, 0), (.getfield 59, 133, 10, 2, 15), (.iload_n 3, 134, 0, 0, 0), (.iaload, 135, 0, 0, 0), (.aload_n 0, 136, 0, 0, 0), (.getfield 59, 137, 10, 2, 15), (.iload_n 1, 138, 0, 0, 0), (.iaload, 139, 0, 0, 0), (.if_icmp .ne (18), 140, 149, 0, 0), (.aload_n 0, 141, 0, 0, 0), (.getfield 62, 142, 10, 2, 16), (.iload_n 3, 143, 0, 0, 0), (.iaload, 144, 0, 0, 0), (.aload_n 0, 145, 0, 0, 0), (.getfield 62, 146, 10, 2, 16), (.iload_n 1, 147, 0, 0, 0), (.iaload, 148, 0, 0, 0), (.if_icmp .eq (7), 149, 151, 0, 0), (.iconst (1), 150, 0, 0, 1), (.goto (4), 151, 152, 0, 0), (.iconst (0), 152, 0, 0, 0), (.istore 4, 153, 0, 0, 0), (.goto (-186), 154, 50, 0, 0), (.iload_n 2, 155, 0, 0, 0), (.ireturn, 156, 0, 0, 0)]
def p_M_ringArea : List Nat := [0, 1, 4, 7, 8, 9, 10, 11, 12, 13, 14, 15, 18, 21, 22, 25, 26, 27, 28, 31, 32, 33, 36, 37, 40, 41, 42, 43, 46, 47, 48, 51, 52, 55, 56, 57, 58, 61, 62, 63, 66, 67, 68, 71, 74, 75, 76, 77, 78, 79, 81, 83, 86, 87, 89, 90, 92, 94, 95, 98, 101, 102, 105, 107, 108, 109, 112, 113, 114, 117, 118, 121, 123, 124, 125, 128, 129, 130, 133, 136, 138, 141, 142, 145, 146, 147, 149, 151, 154, 156, 158, 161, 163, 166, 167, 168, 170, 172, 175, 178, 180, 182, 185, 188, 190, 193, 194, 195, 196, 197, 200, 201, 202, 203, 206, 208, 209, 210, 211, 214, 216, 217, 218, 221, 222, 223, 224, 225, 226, 227, 229, 230, 231, 234, 235, 236, 237, 240, 241, 242, 245, 246, 249, 250, 251, 252, 255, 256, 257, 260, 261, 264, 265, 267, 270, 271, 272]
def c_M_turnOf : List PI := [(.aload_n 0, 1, 0, 0, 0), (.getfield 59, 2, 10, 2, 15), (.iload_n 2, 3, 0, 0, 0), (.iaload, 4, 0, 0, 0), (.aload_n 0, 5, 0, 0, 0), (.getfield 59, 6, 10, 2, 15), (.iload_n 1, 7, 0, 0, 0), (.iaload, 8, 0, 0, 0), (.isub, 9, 0, 0, 0), (.aload_n 0, 10, 0, 0, 0), (.getfield 62, 11, 10, 2, 16), (.iload_n 3, 12, 0, 0, 0), (.iaload, 13, 0, 0, 0), (.aload_n 0, 14, 0, 0, 0), (.getfield 62, 15, 10, 2, 16), (.iload_n 1, 16, 0, 0, 0), (.iaload, 17, 0, 0, 0), (.isub, 18, 0, 0, 0), (.imul, 19, 0, 0, 0), (.aload_n 0, 20, 0, 0, 0), (.getfield 62, 21, 10, 2, 16), (.iload_n 2, 22, 0, 0, 0), (.iaload, 23, 0, 0, 0), (.aload_n 0, 24, 0, 0, 0), (.getfield 62, 25, 10, 2, 16), (.iload_n 1, 26, 0, 0, 0), (.iaload, 27, 0, 0, 0), (.isub, 28, 0, 0, 0), (.aload_n 0, 29, 0, 0, 0), (.getfield 59, 30, 10, 2, 15), (.iload_n 3, 31, 0, 0, 0), (.iaload, 32, 0, 0, 0), (.aload_n 0, 33, 0, 0, 0), (.getfield 59, 34, 10, 2, 15), (.iload_n 1, 35, 0, 0, 0), (.iaload, 36, 0, 0, 0), (.isub, 37, 0, 0, 0), (.imul, 38, 0, 0, 0), (.isub, 39, 0, 0, 0), (.ireturn, 40, 0, 0, 0)]
def p_M_turnOf : List Nat := [0, 1, 4, 5, 6, 7, 10, 11, 12, 13, 14, 17, 18, 19, 20, 23, 24, 25, 26, 27, 28, 31, 32, 33, 34, 37, 38, 39, 40, 41, 44, 45, 46, 47, 50, 51, 52, 53, 54, 55, 56]
def c_M_isFarther : List PI := [(.aload_n 0, 1, 0, 0, 0), (.getfield 59, 2, 10, 2, 15), (.iload_n 2, 3, 0, 0, 0), (.iaload, 4, 0, 0, 0), (.aload_n 0, 5, 0, 0, 0), (.getfield 59, 6, 10, 2, 15), (.iload_n 1, 7, 0, 0, 0), (.iaload, 8, 0, 0, 0), (.isub, 9, 0, 0, 0), (.istore 4, 10, 0, 0, 0), (.aload_n 0, 11, 0, 0, 0), (.getfield 62, 12, 10, 2, 16), (.iload_n 2, 13, 0, 0, 0), (.iaload, 14, 0, 0, 0), (.aload_n 0, 15, 0, 0, 0), (.getfield 62, 16, 10, 2, 16), (.iload_n 1, 17, 0, 0, 0), (.iaload, 18, 0, 0, 0), (.isub, 19, 0, 0, 0), (.istore 5, 20, 0, 0, 0), (.aload_n 0, 21, 0, 0, 0), (.getfield 59, 22, 10, 2, 15), (.iload_n 3, 23, 0, 0, 0), (.iaload, 24, 0, 0, 0), (.aload_n 0, 25, 0, 0, 0), (.getfield 59, 26, 10, 2, 15), (.iload_n 1, 27, 0, 0, 0), (.iaload, 28, 0, 0, 0), (.isub, 29, 0, 0, 0), (.istore 6, 30, 0, 0, 0), (.aload_n 0, 31, 0, 0, 0), (.getfield 62, 32, 10, 2, 16), (.iload_n 3, 33, 0, 0, 0), (.iaload, 34, 0, 0, 0), (.aload_n 0, 35, 0, 0, 0), (.getfield 62, 36, 10, 2, 16), (.iload_n 1, 37, 0, 0, 0), (.iaload, 38, 0, 0, 0), (.isub, 39, 0, 0, 0), (.istore 7, 40, 0, 0, 0), (.iload 4, 41, 0, 0, 0), (.iload 4, 42, 0, 0, 0), (.imul, 43, 0, 0, 0), (.iload 5, 44, 0, 0, 0), (.iload 5, 45, 0, 0, 0), (.imul, 46, 0, 0, 0), (.iadd, 47, 0, 0, 0), (.iload 6, 48, 0, 0, 0), (.iload 6, 49, 0, 0, 0), (.imul, 50, 0, 0, 0), (.iload 7, 51, 0, 0, 0), (.iload 7, 52, 0, 0, 0), (.imul, 53, 0, 0, 0), (.iadd, 54, 0, 0, 0), (.if_icmp .le (7), 55, 57, 0, 0), (.iconst (1), 56, 0, 0, 1), (.goto (4), 57, 58, 0, 0), (.iconst (0), 58, 0, 0, 0), (.ireturn, 59, 1, 0, 0)]
def p_M_isFarther : List Nat := [0, 1, 4, 5, 6, 7, 10, 11, 12, 13, 15, 16, 19, 20, 21, 22, 25, 26, 27, 28, 30, 31, 34, 35, 36, 37, 40, 41, 42, 43, 45, 46, 49, 50, 51, 52, 55, 56, 57, 58, 60, 62, 64, 65, 67, 69, 70, 71, 73, 75, 76, 78, 80, 81, 82, 85, 86, 89, 90, 91]
def c_M_idles : List PI := [(.iconst (0), 1, 0, 0, 0), (.istore_n 2, 2, 0, 0, 0), (.iconst (0), 3, 0, 0, 0), (.istore_n 3, 4, 0, 0, 0), (.iload_n 3, 5, 0, 0, 0), (.aload_n 0, 6, 0, 0, 0), (.getfield 17, 7, 10, 2, 2), (.iload_n 1, 8, 0, 0, 0), (.iaload, 9, 0, 0, 0), (.if_icmp .ge (26), 10, 23, 0, 0), (.iload_n 2, 11, 0, 0, 0), (.aload_n 0, 12, 0, 0, 0), (.iload_n 1, 13, 0, 0, 0), (.iload_n 3, 14, 0, 0, 0), (.invokevirtual 292, 15, 157, 3, 0), (.ifCond .eq (7), 16, 18, 0, 0), (.iconst (1), 17, 0, 0, 1), (.goto (4), 18, 19, 0, 0), (.iconst (0), 19, 0, 0, 0), (.iadd, 20, 0, 0, 0), (.istore_n 2, 21, 0, 0, 0), (.iinc 3 (1), 22, 0, 0, 1), (.goto (-30), 23, 4, 0, 0), (.iload_n 2, 24, 0, 0, 0), (.ireturn, 25, 0, 0, 0)]
def p_M_idles : List Nat := [0, 1, 2, 3, 4, 5, 6, 9, 10, 11, 14, 15, 16, 17, 18, 21, 24, 25, 28, 29, 30, 31, 34, 37, 38, 39]
def c_M_isIdle : List PI := [(.bipush (40), 1, 0, 0, 40), (.iload_n 1, 2, 0, 0, 0), (.imul, 3, 0, 0, 0), (.istore_n 3, 4, 0, 0, 0), (.iload_n 3, 5, 0, 0, 0), (.aload_n 0, 6, 0, 0, 0), (.getfield 17, 7, 10, 2, 2), (.iload_n 1, 8, 0, 0, 0), (.iaload, 9, 0, 0, 0), (.iadd, 10, 0, 0, 0), (.istore 4, 11, 0, 0, 0), (.iload_n 3, 12, 0, 0, 0), (.iload_n 2, 13, 0, 0, 0), (.iadd, 14, 0, 0, 0), (.istore 5, 15, 0, 0, 0), (.iload_n 3, 16, 0, 0, 0), (.istore 6, 17, 0, 0, 0), (.iload 6, 18, 0, 0, 0), (.iload 4, 19, 0, 0, 0), (.if_icmp .ge (103), 20, 67, 0, 0), (.iload 6, 21, 0, 0, 0), (.iconst (1), 22, 0, 0, 1), (.iadd, 23, 0, 0, 0), (.istore 7, 24, 0, 0, 0), (.iload 7, 25, 0, 0, 0), (.iload 4, 26, 0, 0, 0), (.if_icmp .ge (84), 27, 65, 0, 0), (.iload 6, 28, 0, 0, 0), (.iload 5, 29, 0, 0, 0), (.if_icmp .eq (77), 30, 65, 0, 0), (.iload 7, 31, 0, 0, 0), (.iload 5, 32, 0, 0, 0), (.if_icmp .ne (6), 33, 34, 0, 0), (.goto (61), 34, 63, 0, 0), (.aload_n 0, 35, 0, 0, 0), (.iload 5, 36, 0, 0, 0), (.iload 6, 37, 0, 0, 0), (.iload 7, 38, 0, 0, 0), (.invokevirtual 285, 39, 158, 4, 0), (.ifCond .eq (5), 40, 42, 0, 0), (.iconst (1), 41, 0, 0, 1), (.ireturn, 42, 1, 0, 0), (.iload 7, 43, 0, 0, 0), (.iconst (1), 44, 0, 0, 1), (.iadd, 45, 0, 0, 0), (.istore 8, 46, 0, 0, 0), (.iload 8, 47, 0, 0, 0), (.iload 4, 48, 0, 0, 0), (.if_icmp .ge (33), 49, 63, 0, 0), (.iload 8, 50, 0, 0, 0), (.iload 5, 51, 0, 0, 0), (.if_icmp .eq (20), 52, 61, 0, 0), (.aload_n 0, 53, 0, 0, 0), (.iload 5, 54, 0, 0, 0), (.iload 6, 55, 0, 0, 0), (.iload 7, 56, 0, 0, 0), (.iload 8, 57, 0, 0, 0), (.invokevirtual 288, 58, 160, 5, 0), (.ifCond .eq (5), 59, 61, 0, 0), (.iconst (1), 60, 0, 0, 1), (.ireturn, 61, 1, 0, 0), (.iinc 8 (1), 62, 0, 0, 1), (.goto (-34), 63, 46, 0, 0), (.iinc 7 (1), 64, 0, 0, 1), (.goto (-85), 65, 24, 0, 0), (.iinc 6 (1), 66, 0, 0, 1), (.goto (-104), 67, 17, 0, 0), (.iconst (0), 68, 0, 0, 0), (.ireturn, 69, 1, 0, 0)]
def p_M_isIdle : List Nat := [0, 2, 3, 4, 5, 6, 7, 10, 11, 12, 13, 15, 16, 17, 18, 20, 21, 23, 25, 27, 30, 32, 33, 34, 36, 38, 40, 43, 45, 47, 50, 52, 54, 57, 60, 61, 63, 65, 67, 70, 73, 74, 75, 77, 78, 79, 81, 83, 85, 88, 90, 92, 95, 96, 98, 100, 102, 104, 107, 110, 111, 112, 115, 118, 121, 124, 127, 130, 131, 132]
def c_M_isUnderTwo : List PI := [(.aload_n 0, 1, 0, 0, 0), (.iload_n 2, 2, 0, 0, 0), (.iload_n 3, 3, 0, 0, 0), (.iload_n 1, 4, 0, 0, 0), (.invokevirtual 279, 5, 159, 4, 0), (.lconst 0, 6, 0, 0, 0), (.lcmp, 7, 0, 0, 0), (.ifCond .eq (5), 8, 10, 0, 0), (.iconst (0), 9, 0, 0, 0), (.ireturn, 10, 1, 0, 0), (.aload_n 0, 11, 0, 0, 0), (.getfield 20, 12, 10, 2, 3), (.iload_n 3, 13, 0, 0, 0), (.iaload, 14, 0, 0, 0), (.aload_n 0, 15, 0, 0, 0), (.getfield 20, 16, 10, 2, 3), (.iload_n 2, 17, 0, 0, 0), (.iaload, 18, 0, 0, 0), (.isub, 19, 0, 0, 0), (.i2l, 20, 0, 0, 0), (.lstore 4, 21, 0, 0, 0), (.aload_n 0, 22, 0, 0, 0), (.getfield 23, 23, 10, 2, 4), (.iload_n 3, 24, 0, 0, 0), (.iaload, 25, 0, 0, 0), (.aload_n 0, 26, 0, 0, 0), (.getfield 23, 27, 10, 2, 4), (.iload_n 2, 28, 0, 0, 0), (.iaload, 29, 0, 0, 0), (.isub, 30, 0, 0, 0), (.i2l, 31, 0, 0, 0), (.lstore 6, 32, 0, 0, 0), (.lload 4, 33, 0, 0, 0), (.aload_n 0, 34, 0, 0, 0), (.getfield 20, 35, 10, 2, 3), (.iload_n 1, 36, 0, 0, 0), (.iaload, 37, 0, 0, 0), (.aload_n 0, 38, 0, 0, 0), (.getfield 20, 39, 10, 2, 3), (.iload_n 2, 40, 0, 0, 0), (.iaload, 41, 0, 0, 0), (.isub, 42, 0, 0, 0), (.i2l, 43, 0, 0, 0), (.lmul, 44, 0, 0, 0), (.lload 6, 45, 0, 0, 0), (.aload_n 0, 46, 0, 0, 0), (.getfield 23, 47, 10, 2, 4), (.iload_n 1, 48, 0, 0, 0), (.iaload, 49, 0, 0, 0), (.aload_n 0, 50, 0, 0, 0), (.getfield 23, 51, 10, 2, 4), (.iload_n 2, 52, 0, 0, 0), (.iaload, 53, 0, 0, 0), (.isub, 54, 0, 0, 0), (.i2l, 55, 0, 0, 0), (.lmul, 56, 0, 0, 0), (.ladd, 57, 0, 0, 0), (.lstore 8, 58, 0, 0, 0), (.lload 4, 59, 0, 0, 0), (.lload 4, 60, 0, 0, 0), (.lmul, 61, 0, 0, 0), (.lload 6, 62, 0, 0, 0), (.lload 6, 63, 0, 0, 0), (.lmul, 64, 0, 0, 0), (.ladd, 65, 0, 0, 0), (.lstore 10, 66, 0, 0, 0), (.lload 8, 67, 0, 0, 0), (.lconst 0, 68, 0, 0, 0), (.lcmp, 69, 0, 0, 0), (.ifCond .lt (53), 70, 102, 0, 0), (.lload 8, 71, 0, 0, 0), (.lload 10, 72, 0, 0, 0), (.lcmp, 73, 0, 0, 0), (.ifCond .gt (45), 74, 102, 0, 0), (.aload_n 0, 75, 0, 0, 0), (.getfield 26, 76, 10, 2, 5), (.iload_n 2, 77, 0, 0, 0), (.iaload, 78, 0, 0, 0), (.i2l, 79, 0, 0, 0), (.lload 10, 80, 0, 0, 0), (.lload 8, 81, 0, 0, 0), (.lsub, 82, 0, 0, 0), (.lmul, 83, 0, 0, 0), (.aload_n 0, 84, 0, 0, 0), (.getfield 26, 85, 10, 2, 5), (.iload_n 3, 86, 0, 0, 0), (.iaload, 87, 0, 0, 0), (.i2l, 88, 0, 0, 0), (.lload 8, 89, 0, 0, 0), (.lmul, 90, 0, 0, 0), (.ladd, 91, 0, 0, 0), (.aload_n 0, 92, 0, 0, 0), (.getfield 26, 93, 10, 2, 5), (.iload_n 1, 94, 0, 0, 0), (.iaload, 95, 0, 0, 0), (.i2l, 96, 0, 0, 0), (.lload 10, 97, 0, 0, 0), (.lmul, 98, 0, 0, 0), (.lcmp, 99, 0, 0, 0), (.ifCond .gt (7), 100, 102, 0, 0), (.iconst (1), 101, 0, 0, 1), (.goto (4), 102, 103, 0, 0), (.iconst (0), 103, 0, 0, 0), (.ireturn, 104, 1, 0, 0)]
def p_M_isUnderTwo : List Nat := [0, 1, 2, 3, 4, 7, 8, 9, 12, 13, 14, 15, 18, 19, 20, 21, 24, 25, 26, 27, 28, 30, 31, 34, 35, 36, 37, 40, 41, 42, 43, 44, 46, 48, 49, 52, 53, 54, 55, 58, 59, 60, 61, 62, 63, 65, 66, 69, 70, 71, 72, 75, 76, 77, 78, 79, 80, 81, 83, 85, 87, 88, 90, 92, 93, 94, 96, 98, 99, 100, 103, 105, 107, 108, 111, 112, 115, 116, 117, 118, 120, 122, 123, 124, 125, 128, 129, 130, 131, 133, 134, 135, 136, 139, 140, 141, 142, 144, 145, 146, 149, 150, 153, 154, 155]
def c_M_across : List PI := [(.aload_n 0, 1, 0, 0, 0), (.getfield 20, 2, 10, 2, 3), (.iload_n 2, 3, 0, 0, 0), (.iaload, 4, 0, 0, 0), (.aload_n 0, 5, 0, 0, 0), (.getfield 20, 6, 10, 2, 3), (.iload_n 1, 7, 0, 0, 0), (.iaload, 8, 0, 0, 0), (.isub, 9, 0, 0, 0), (.i2l, 10, 0, 0, 0), (.aload_n 0, 11, 0, 0, 0), (.getfield 23, 12, 10, 2, 4), (.iload_n 3, 13, 0, 0, 0), (.iaload, 14, 0, 0, 0), (.aload_n 0, 15, 0, 0, 0), (.getfield 23, 16, 10, 2, 4), (.iload_n 1, 17, 0, 0, 0), (.iaload, 18, 0, 0, 0), (.isub, 19, 0, 0, 0), (.i2l, 20, 0, 0, 0), (.lmul, 21, 0, 0, 0), (.aload_n 0, 22, 0, 0, 0), (.getfield 23, 23, 10, 2, 4), (.iload_n 2, 24, 0, 0, 0), (.iaload, 25, 0, 0, 0), (.aload_n 0, 26, 0, 0, 0), (.getfield 23, 27, 10, 2, 4), (.iload_n 1, 28, 0, 0, 0), (.iaload, 29, 0, 0, 0), (.isub, 30, 0, 0, 0), (.i2l, 31, 0, 0, 0), (.aload_n 0, 32, 0, 0, 0), (.getfield 20, 33, 10, 2, 3), (.iload_n 3, 34, 0, 0, 0), (.iaload, 35, 0, 0, 0), (.aload_n 0, 36, 0, 0, 0), (.getfield 20, 37, 10, 2, 3), (.iload_n 1, 38, 0, 0, 0), (.iaload, 39, 0, 0, 0), (.isub, 40, 0, 0, 0), (.i2l, 41, 0, 0, 0), (.lmul, 42, 0, 0, 0), (.lsub, 43, 0, 0, 0), (.lreturn, 44, 0, 0, 0)]
def p_M_across : List Nat := [0, 1, 4, 5, 6, 7, 10, 11, 12, 13, 14, 15, 18, 19, 20, 21, 24, 25, 26, 27, 28, 29, 30, 33, 34, 35, 36, 39, 40, 41, 42, 43, 44, 47, 48, 49, 50, 53, 54, 55, 56, 57, 58, 59, 60]
def c_M_isUnderThree : List PI := [(.aload_n 0, 1, 0, 0, 0), (.iload_n 2, 2, 0, 0, 0), (.iload_n 3, 3, 0, 0, 0), (.iload 4, 4, 0, 0, 0), (.invokevirtual 279, 5, 159, 4, 0), (.lstore 5, 6, 0, 0, 0), (.lload 5, 7, 0, 0, 0), (.lconst 0, 8, 0, 0, 0), (.lcmp, 9, 0, 0, 0), (.ifCond .ne (5), 10, 12, 0, 0), (.iconst (0), 11, 0, 0, 0), (.ireturn, 12, 1, 0, 0), (.lload 5, 13, 0, 0, 0), (.lconst 0, 14, 0, 0, 0), (.lcmp, 15, 0, 0, 0), (.ifCond .ge (9), 16, 18, 0, 0), (.ldc2_w 283, 17, 0, 0, (-1)), (.goto (4), 18, 19, 0, 0), (.lconst 1, 19, 0, 0, 1), (.lstore 7, 20, 0, 0, 0), (.aload_n 0, 21, 0, 0, 0), (.iload_n 1, 22, 0, 0, 0), (.iload_n 3, 23, 0, 0, 0), (.iload 4, 24, 0, 0, 0), (.invokevirtual 279, 25, 159, 4, 0), (.lload 7, 26, 0, 0, 0), (.lmul, 27, 0, 0, 0), (.lstore 9, 28, 0, 0, 0), (.aload_n 0, 29, 0, 0, 0), (.iload_n 2, 30, 0, 0, 0), (.iload_n 1, 31, 0, 0, 0), (.iload 4, 32, 0, 0, 0), (.invokevirtual 279, 33, 159, 4, 0), (.lload 7, 34, 0, 0, 0), (.lmul, 35, 0, 0, 0), (.lstore 11, 36, 0, 0, 0), (.aload_n 0, 37, 0, 0, 0), (.iload_n 2, 38, 0, 0, 0), (.iload_n 3, 39, 0, 0, 0), (.iload_n 1, 40, 0, 0, 0), (.invokevirtual 279, 41, 159, 4, 0), (.lload 7, 42, 0, 0, 0), (.lmul, 43, 0, 0, 0), (.lstore 13, 44, 0, 0, 0), (.lload 9, 45, 0, 0, 0), (.lconst 0, 46, 0, 0, 0), (.lcmp, 47, 0, 0, 0), (.ifCond .lt (71), 48, 92, 0, 0), (.lload 11, 49, 0, 0, 0), (.lconst 0, 50, 0, 0, 0), (.lcmp, 51, 0, 0, 0), (.ifCond .lt (64), 52, 92, 0, 0), (.lload 13, 53, 0, 0, 0), (.lconst 0, 54, 0, 0, 0), (.lcmp, 55, 0, 0, 0), (.ifCond .lt (57), 56, 92, 0, 0), (.lload 9, 57, 0, 0, 0), (.aload_n 0, 58, 0, 0, 0), (.getfield 26, 59, 10, 2, 5), (.iload_n 2, 60, 0, 0, 0), (.iaload, 61, 0, 0, 0), (.i2l, 62, 0, 0, 0), (.lmul, 63, 0, 0, 0), (.lload 11, 64, 0, 0, 0), (.aload_n 0, 65, 0, 0, 0), (.getfield 26, 66, 10, 2, 5), (.iload_n 3, 67, 0, 0, 0), (.iaload, 68, 0, 0, 0), (.i2l, 69, 0, 0, 0), (.lmul, 70, 0, 0, 0), (.ladd, 71, 0, 0, 0), (.lload 13, 72, 0, 0, 0), (.aload_n 0, 73, 0, 0, 0), (.getfield 26, 74, 10, 2, 5), (.iload 4, 75, 0, 0, 0), (.iaload, 76, 0, 0, 0), (.i2l, 77, 0, 0, 0), (.lmul, 78, 0, 0, 0), (.ladd, 79, 0, 0, 0), (.aload_n 0, 80, 0, 0, 0), (.getfield 26, 81, 10, 2, 5), (.iload_n 1, 82, 0, 0, 0), (.iaload, 83, 0, 0, 0), (.i2l, 84, 0, 0, 0), (.lload 5, 85, 0, 0, 0), (.lmul, 86, 0, 0, 0), (.lload 7, 87, 0, 0, 0), (.lmul, 88, 0, 0, 0), (.lcmp, 89, 0, 0, 0), (.ifCond .gt (7), 90, 92, 0, 0), (.iconst (1), 91, 0, 0, 1), (.goto (4), 92, 93, 0, 0), (.iconst (0), 93, 0, 0, 0), (.ireturn, 94, 1, 0, 0)]
def p_M_isUnderThree : List Nat := [0, 1, 2, 3, 5, 8, 10, 12, 13, 14, 17, 18, 19, 21, 22, 23, 26, 29, 32, 33, 35, 36, 37, 38, 40, 43, 45, 46, 48, 49, 50, 51, 53, 56, 58, 59, 61, 62, 63, 64, 65, 68, 70, 71, 73, 75, 76, 77, 80, 82, 83, 84, 87, 89, 90, 91, 94, 96, 97, 100, 101, 102, 103, 104, 106, 107, 110, 111, 112, 113, 114, 115, 117, 118, 121, 123, 124, 125, 126, 127, 128, 131, 132, 133, 134, 136, 137, 139, 140, 141, 144, 145, 148, 149, 150]
def c_M_findCorners : List PI := [(.aload_n 0, 1, 0, 0, 0), (.iload_n 1, 2, 0, 0, 0), (.invokevirtual 267, 3, 162, 2, 0), (.aload_n 0, 4, 0, 0, 0), (.iconst (0), 5, 0, 0, 0), (.putfield 114, 6, 10, 0, 33), (.iconst (0), 7, 0, 0, 0), (.istore_n 2, 8, 0, 0, 0), (.iload_n 2, 9, 0, 0, 0), (.aload_n 0, 10, 0, 0, 0), (.getfield 68, 11, 10, 0, 18), (.if_icmp .ge (45), 12, 36, 0, 0), (.aload_n 0, 13, 0, 0, 0), (.getfield 86, 14, 10, 2, 24), (.iload_n 2, 15, 0, 0, 0), (.baload, 16, 0, 0, 0), (.ifCond .eq (11), 17, 22, 0, 0), (.aload_n 0, 18, 0, 0, 0), (.bipush (8), 19, 0, 0, 8), (.iload_n 2, 20, 0, 0, 0), (.imul, 21, 0, 0, 0), (.invokevirtual 270, 22, 165, 2, 0), (.aload_n 0, 23, 0, 0, 0), (.getfield 89, 24, 10, 2, 25), (.iload_n 2, 25, 0, 0, 0), (.baload, 26, 0, 0, 0), (.ifCond .eq (13), 27, 34, 0, 0), (.aload_n 0, 28, 0, 0, 0), (.bipush (8), 29, 0, 0, 8), (.iload_n 2, 30, 0, 0, 0), (.imul, 31, 0, 0, 0), (.iconst (4), 32, 0, 0, 4), (.iadd, 33, 0, 0, 0), (.invokevirtual 270, 34, 165, 2, 0), (.iinc 2 (1), 35, 0, 0, 1), (.goto (-47), 36, 8, 0, 0), (.return_, 37, 0, 0, 0)]
def p_M_findCorners : List Nat := [0, 1, 2, 5, 6, 7, 10, 11, 12, 13, 14, 17, 20, 21, 24, 25, 26, 29, 30, 32, 33, 34, 37, 38, 41, 42, 43, 46, 47, 49, 50, 51, 52, 53, 56, 59, 62, 63]
def c_M_findEdges : List PI := [(.aload_n 0, 1, 0, 0, 0), (.iconst (0), 2, 0, 0, 0), (.putfield 68, 3, 10, 0, 18), (.bipush (40), 4, 0, 0, 40), (.iload_n 1, 5, 0, 0, 0), (.imul, 6, 0, 0, 0), (.istore_n 2, 7, 0, 0, 0), (.iload_n 2, 8, 0, 0, 0), (.bipush (40), 9, 0, 0, 40), (.iload_n 1, 10, 0, 0, 0), (.imul, 11, 0, 0, 0), (.aload_n 0, 12, 0, 0, 0), (.getfield 17, 13, 10, 2, 2), (.iload_n 1, 14, 0, 0, 0), (.iaload, 15, 0, 0, 0), (.iadd, 16, 0, 0, 0), (.if_icmp .ge (291), 17, 184, 0, 0), (.iload_n 2, 18, 0, 0, 0), (.iconst (1), 19, 0, 0, 1), (.iadd, 20, 0, 0, 0), (.istore_n 3, 21, 0, 0, 0), (.iload_n 3, 22, 0, 0, 0), (.bipush (40), 23, 0, 0, 40), (.iload_n 1, 24, 0, 0, 0), (.imul, 25, 0, 0, 0), (.aload_n 0, 26, 0, 0, 0), (.getfield 17, 27, 10, 2, 2), (.iload_n 1, 28, 0, 0, 0), (.iaload, 29, 0, 0, 0), (.iadd, 30, 0, 0, 0), (.if_icmp .ge (266), 31, 182, 0, 0), (.aload_n 0, 32, 0, 0, 0), (.getfield 20, 33, 10, 2, 3), (.iload_n 3, 34, 0, 0, 0), (.iaload, 35, 0, 0, 0), (.aload_n 0, 36, 0, 0, 0), (.getfield 20, 37, 10, 2, 3), (.iload_n 2, 38, 0, 0, 0), (.iaload, 39, 0, 0, 0), (.isub, 40, 0, 0, 0), (.istore 4, 41, 0, 0, 0), (.aload_n 0, 42, 0, 0, 0), (.getfield 23, 43, 10, 2, 4), (.iload_n 3, 44, 0, 0, 0), (.iaload, 45, 0, 0, 0), (.aload_n 0, 46, 0, 0, 0), (.getfield 23, 47, 10, 2, 4), (.iload_n 2, 48, 0, 0, 0), (.iaload, 49, 0, 0, 0), (.isub, 50, 0, 0, 0), (.istore 5, 51, 0, 0, 0), (.aload_n 0, 52, 0, 0, 0), (.iload 4, 53, 0, 0, 0), (.i2l, 54, 0, 0, 0), (.iload 5, 55, 0, 0, 0), (.i2l, 56, 0, 0, 0), (.invokevirtual 211, 57, 145, 3, 0), (.l2i, 58, 0, 0, 0), (.istore 6, 59, 0, 0, 0), (.aload_n 0, 60, 0, 0, 0), (.iload_n 1, 61, 0, 0, 0), (.iload_n 2, 62, 0, 0, 0), (.iload_n 3, 63, 0, 0, 0), (.iload 5, 64, 0, 0, 0), (.ineg, 65, 0, 0, 0), (.iload 6, 66, 0, 0, 0), (.idiv, 67, 0, 0, 0), (.iload 4, 68, 0, 0, 0), (.iload 6, 69, 0, 0, 0), (.idiv, 70, 0, 0, 0), (.invokevirtual 255, 71, 163, 6, 0), (.ifCond .ne (6), 72, 73, 0, 0), (.goto (193), 73, 180, 0, 0), (.aload_n 0, 74, 0, 0, 0), (.getfield 71, 75, 10, 2, 19), (.aload_n 0, 76, 0, 0, 0), (.getfield 68, 77, 10, 0, 18), (.iload_n 2, 78, 0, 0, 0), (.iastore, 79, 0, 0, 0), (.aload_n 0, 80, 0, 0, 0), (.getfield 74, 81, 10, 2, 20), (.aload_n 0, 82, 0, 0, 0), (.getfield 68, 83, 10, 0, 18), (.iload_n 3, 84, 0, 0, 0), (.iastore, 85, 0, 0, 0), (.aload_n 0, 86, 0, 0, 0), (.getfield 77, 87, 10, 2, 21), (.aload_n 0, 88, 0, 0, 0), (.getfield 68, 89, 10, 0, 18), (.iload 5, 90, 0, 0, 0), (.ineg, 91, 0, 0, 0), (.iload 6, 92, 0, 0, 0), (.idiv, 93, 0, 0, 0), (.iastore, 94, 0, 0, 0), (.aload_n 0, 95, 0, 0, 0), (.getfield 80, 96, 10, 2, 22), (.aload_n 0, 97, 0, 0, 0), (.getfield 68, 98, 10, 0, 18), (.iload 4, 99, 0, 0, 0), (.iload 6, 100, 0, 0, 0), (.idiv, 101, 0, 0, 0), (.iastore, 102, 0, 0, 0), (.aload_n 0, 103, 0, 0, 0), (.getfield 83, 104, 10, 2, 23), (.aload_n 0, 105, 0, 0, 0), (.getfield 68, 106, 10, 0, 18), (.iload 6, 107, 0, 0, 0), (.iastore, 108, 0, 0, 0), (.aload_n 0, 109, 0, 0, 0), (.getfield 86, 110, 10, 2, 24), (.aload_n 0, 111, 0, 0, 0), (.getfield 68, 112, 10, 0, 18), (.aload_n 0, 113, 0, 0, 0), (.getfield 96, 114, 10, 3, 27), (.bastore, 115, 0, 0, 0), (.aload_n 0, 116, 0, 0, 0), (.getfield 89, 117, 10, 2, 25), (.aload_n 0, 118, 0, 0, 0), (.getfield 68, 119, 10, 0, 18), (.aload_n 0, 120, 0, 0, 0), (.getfield 99, 121, 10, 3, 28), (.bastore, 122, 0, 0, 0), (.aload_n 0, 123, 0, 0, 0), (.getfield 96, 124, 10, 3, 27), (.ifCond .eq (42), 125, 147, 0, 0), (.aload_n 0, 126, 0, 0, 0), (.bipush (8), 127, 0, 0, 8), (.aload_n 0, 128, 0, 0, 0), (.getfield 68, 129, 10, 0, 18), (.imul, 130, 0, 0, 0), (.iload_n 2, 131, 0, 0, 0), (.iload_n 3, 132, 0, 0, 0), (.aload_n 0, 133, 0, 0, 0), (.getfield 77, 134, 10, 2, 21), (.aload_n 0, 135, 0, 0, 0), (.getfield 68, 136, 10, 0, 18), (.iaload, 137, 0, 0, 0), (.aload_n 0, 138, 0, 0, 0), (.getfield 80, 139, 10, 2, 22), (.aload_n 0, 140, 0, 0, 0), (.getfield 68, 141, 10, 0, 18), (.iaload, 142, 0, 0, 0), (.aload_n 0, 143, 0, 0, 0), (.getfield 102, 144, 10, 1, 29), (.aload_n 0, 145, 0, 0, 0), (.getfield 105, 146, 10, 1, 30), (.invokevirtual 259, 147, 164, 8, 0), (.aload_n 0, 148, 0, 0, 0), (.getfield 99, 149, 10, 3, 28), (.ifCond .eq (44), 150, 174, 0, 0), (.aload_n 0, 151, 0, 0, 0), (.bipush (8), 152, 0, 0, 8), (.aload_n 0, 153, 0, 0, 0), (.getfield 68, 154, 10, 0, 18), (.imul, 155, 0, 0, 0), (.iconst (4), 156, 0, 0, 4), (.iadd, 157, 0, 0, 0), (.iload_n 2, 158, 0, 0, 0), (.iload_n 3, 159, 0, 0, 0), (.aload_n 0, 160, 0, 0, 0), (.getfield 77, 161, 10, 2, 21), (.aload_n 0, 162, 0, 0, 0), (.getfield 68, 163, 10, 0, 18), (.iaload, 164, 0, 0, 0), (.aload_n 0, 165, 0, 0, 0), (.getfield 80, 166, 10, 2, 22), (.aload_n 0, 167, 0, 0, 0), (.getfield 68, 168, 10, 0, 18), (.iaload, 169, 0, 0, 0), (.aload_n 0, 170, 0, 0, 0), (.getfield 108, 171, 10, 1, 31), (.aload_n 0, 172, 0, 0, 0), (.getfield 111, 173, 10, 1, 32), (.invokevirtual 259, 174, 164, 8, 0), (.aload_n 0, 175, 0, 0, 0), (.dup, 176, 0, 0, 0), (.getfield 68, 177, 10, 0, 18), (.iconst (1), 178, 0, 0, 1), (.iadd, 179, 0, 0, 0), (.putfield 68, 180, 10, 0, 18), (.iinc 3 (1), 181, 0, 0, 1), (.goto (-275), 182, 21, 0, 0), (.iinc 2 (1), 183, 0, 0, 1), (.goto (-300), 184, 7, 0, 0), (.return_, 185, 0, 0, 0)]
def p_M_findEdges : List Nat := [0, 1, 2, 5, 7, 8, 9, 10, 11, 13, 14, 15, 16, 19, 20, 21, 22, 25, 26, 27, 28, 29, 30, 32, 33, 34, 35, 38, 39, 40, 41, 44, 45, 48, 49, 50, 51, 54, 55, 56, 57, 59, 60, 63, 64, 65, 66, 69, 70, 71, 72, 74, 75, 77, 78, 80, 81, 84, 85, 87, 88, 89, 90, 91, 93, 94, 96, 97, 99, 101, 102, 105, 108, 111, 112, 115, 116, 119, 120, 121, 122, 125, 126, 129, 130, 131, 132, 135, 136, 139, 141, 142, 144, 145, 146, 147, 150, 151, 154, 156, 158, 159, 160, 161, 164, 165, 168, 170, 171, 172, 175, 176, 179, 180, 183, 184, 185, 188, 189, 192, 193, 196, 197, 198, 201, 204, 205, 207, 208, 211, 212, 213, 214, 215, 218, 219, 222, 223, 224, 227, 228, 231, 232, 233, 236, 237, 240, 243, 244, 247, 250, 251, 253, 254, 257, 258, 259, 260, 261, 262, 263, 266, 267, 270, 271, 272, 275, 276, 279, 280, 281, 284, 285, 288, 291, 292, 293, 296, 297, 298, 301, 304, 307, 310, 313, 314]
def c_M_bounds : List PI := [(.aload_n 0, 1, 0, 0, 0), (.iconst (0), 2, 0, 0, 0), (.putfield 96, 3, 10, 3, 27), (.aload_n 0, 4, 0, 0, 0), (.iconst (0), 5, 0, 0, 0), (.putfield 99, 6, 10, 3, 28), (.aload_n 0, 7, 0, 0, 0), (.getfield 20, 8, 10, 2, 3), (.iload_n 3, 9, 0, 0, 0), (.iaload, 10, 0, 0, 0), (.aload_n 0, 11, 0, 0, 0), (.getfield 20, 12, 10, 2, 3), (.iload_n 2, 13, 0, 0, 0), (.iaload, 14, 0, 0, 0), (.isub, 15, 0, 0, 0), (.istore 6, 16, 0, 0, 0), (.aload_n 0, 17, 0, 0, 0), (.getfield 23, 18, 10, 2, 4), (.iload_n 3, 19, 0, 0, 0), (.iaload, 20, 0, 0, 0), (.aload_n 0, 21, 0, 0, 0), (.getfield 23, 22, 10, 2, 4), (.iload_n 2, 23, 0, 0, 0), (.iaload, 24, 0, 0, 0), (.isub, 25, 0, 0, 0), (.istore 7, 26, 0, 0, 0), (.iload 6, 27, 0, 0, 0), (.iload 6, 28, 0, 0, 0), (.imul, 29, 0, 0, 0), (.iload 7, 30, 0, 0, 0), (.iload 7, 31, 0, 0, 0), (.imul, 32, 0, 0, 0), (.iadd, 33, 0, 0, 0), (.istore 8, 34, 0, 0, 0), (.aload_n 0, 35, 0, 0, 0), (.getfield 26, 36, 10, 2, 5), (.iload_n 3, 37, 0, 0, 0), (.iaload, 38, 0, 0, 0), (.aload_n 0, 39, 0, 0, 0), (.getfield 26, 40, 10, 2, 5), (.iload_n 2, 41, 0, 0, 0), (.iaload, 42, 0, 0, 0), (.isub, 43, 0, 0, 0), (.istore 9, 44, 0, 0, 0), (.bipush (40), 45, 0, 0, 40), (.iload_n 1, 46, 0, 0, 0), (.imul, 47, 0, 0, 0), (.istore 10, 48, 0, 0, 0), (.iload 10, 49, 0, 0, 0), (.bipush (40), 50, 0, 0, 40), (.iload_n 1, 51, 0, 0, 0), (.imul, 52, 0, 0, 0), (.aload_n 0, 53, 0, 0, 0), (.getfield 17, 54, 10, 2, 2), (.iload_n 1, 55, 0, 0, 0), (.iaload, 56, 0, 0, 0), (.iadd, 57, 0, 0, 0), (.if_icmp .ge (264), 58, 208, 0, 0), (.aload_n 0, 59, 0, 0, 0), (.getfield 20, 60, 10, 2, 3), (.iload 10, 61, 0, 0, 0), (.iaload, 62, 0, 0, 0), (.aload_n 0, 63, 0, 0, 0), (.getfield 20, 64, 10, 2, 3), (.iload_n 2, 65, 0, 0, 0), (.iaload, 66, 0, 0, 0), (.isub, 67, 0, 0, 0), (.istore 11, 68, 0, 0, 0), (.aload_n 0, 69, 0, 0, 0), (.getfield 23, 70, 10, 2, 4), (.iload 10, 71, 0, 0, 0), (.iaload, 72, 0, 0, 0), (.aload_n 0, 73, 0, 0, 0), (.getfield 23, 74, 10, 2, 4), (.iload_n 2, 75, 0, 0, 0), (.iaload, 76, 0, 0, 0), (.isub, 77, 0, 0, 0), (.istore 12, 78, 0, 0, 0), (.aload_n 0, 79, 0, 0, 0), (.getfield 26, 80, 10, 2, 5), (.iload 10, 81, 0, 0, 0), (.iaload, 82, 0, 0, 0), (.aload_n 0, 83, 0, 0, 0), (.getfield 26, 84, 10, 2, 5), (.iload_n 2, 85, 0, 0, 0), (.iaload, 86, 0, 0, 0), (.isub, 87, 0, 0, 0), (.i2l, 88, 0, 0, 0), (.iload 8, 89, 0, 0, 0), (.i2l, 90, 0, 0, 0), (.lmul, 91, 0, 0, 0), (.iload 9, 92, 0, 0, 0), (.i2l, 93, 0, 0, 0), (.iload 11, 94, 0, 0, 0), (.iload 6, 95, 0, 0, 0), (.imul, 96, 0, 0, 0), (.iload 12, 97, 0, 0, 0), (.iload 7, 98, 0, 0, 0), (.imul, 99, 0, 0, 0), (.iadd, 100, 0, 0, 0), (.i2l, 101, 0, 0, 0), (.lmul, 102, 0, 0, 0), (.lsub, 103, 0, 0, 0), (.lstore 13, 104, 0, 0, 0), (.iload 11, 105, 0, 0, 0), (.iload 4, 106, 0, 0, 0), (.imul, 107, 0, 0, 0), (.iload 12, 108, 0, 0, 0), (.iload 5, 109, 0, 0, 0), (.imul, 110, 0, 0, 0), (.iadd, 111, 0, 0, 0), (.i2l, 112, 0, 0, 0), (.lstore 15, 113, 0, 0, 0), (.lload 15, 114, 0, 0, 0), (.lconst 0, 115, 0, 0, 0), (.lcmp, 116, 0, 0, 0), (.ifCond .ne (31), 117, 133, 0, 0), (.lload 13, 118, 0, 0, 0), (.lconst 0, 119, 0, 0, 0), (.lcmp, 120, 0, 0, 0), (.ifCond .lt (22), 121, 131, 0, 0), (.lload 13, 122, 0, 0, 0), (.lconst 0, 123, 0, 0, 0), (.lcmp, 124, 0, 0, 0), (.ifCond .ne (153), 125, 206, 0, 0), (.iload 10, 126, 0, 0, 0), (.iload_n 2, 127, 0, 0, 0), (.if_icmp .lt (9), 128, 131, 0, 0), (.iload 10, 129, 0, 0, 0), (.iload_n 3, 130, 0, 0, 0), (.if_icmp .le (141), 131, 206, 0, 0), (.iconst (0), 132, 0, 0, 0), (.ireturn, 133, 1, 0, 0), (.lload 15, 134, 0, 0, 0), (.lconst 0, 135, 0, 0, 0), (.lcmp, 136, 0, 0, 0), (.ifCond .le (9), 137, 140, 0, 0), (.lload 13, 138, 0, 0, 0), (.lneg, 139, 0, 0, 0), (.goto (5), 140, 141, 0, 0), (.lload 13, 141, 0, 0, 0), (.lstore 17, 142, 0, 0, 0), (.lload 15, 143, 0, 0, 0), (.lconst 0, 144, 0, 0, 0), (.lcmp, 145, 0, 0, 0), (.ifCond .le (12), 146, 151, 0, 0), (.lload 15, 147, 0, 0, 0), (.iload 8, 148, 0, 0, 0), (.i2l, 149, 0, 0, 0), (.lmul, 150, 0, 0, 0), (.goto (10), 151, 156, 0, 0), (.lload 15, 152, 0, 0, 0), (.lneg, 153, 0, 0, 0), (.iload 8, 154, 0, 0, 0), (.i2l, 155, 0, 0, 0), (.lmul, 156, 0, 0, 0), (.lstore 19, 157, 0, 0, 0), (.lload 15, 158, 0, 0, 0), (.lconst 0, 159, 0, 0, 0), (.lcmp, 160, 0, 0, 0), (.ifCond .le (48), 161, 184, 0, 0), (.aload_n 0, 162, 0, 0, 0), (.getfield 96, 163, 10, 3, 27), (.ifCond .eq (21), 164, 174, 0, 0), (.lload 17, 165, 0, 0, 0), (.aload_n 0, 166, 0, 0, 0), (.getfield 105, 167, 10, 1, 30), (.lmul, 168, 0, 0, 0), (.aload_n 0, 169, 0, 0, 0), (.getfield 102, 170, 10, 1, 29), (.lload 19, 171, 0, 0, 0), (.lmul, 172, 0, 0, 0), (.lcmp, 173, 0, 0, 0), (.ifCond .le (15), 174, 180, 0, 0), (.aload_n 0, 175, 0, 0, 0), (.lload 17, 176, 0, 0, 0), (.putfield 102, 177, 10, 1, 29), (.aload_n 0, 178, 0, 0, 0), (.lload 19, 179, 0, 0, 0), (.putfield 105, 180, 10, 1, 30), (.aload_n 0, 181, 0, 0, 0), (.iconst (1), 182, 0, 0, 1), (.putfield 96, 183, 10, 3, 27), (.goto (45), 184, 206, 0, 0), (.aload_n 0, 185, 0, 0, 0), (.getfield 99, 186, 10, 3, 28), (.ifCond .eq (21), 187, 197, 0, 0), (.lload 17, 188, 0, 0, 0), (.aload_n 0, 189, 0, 0, 0), (.getfield 111, 190, 10, 1, 32), (.lmul, 191, 0, 0, 0), (.aload_n 0, 192, 0, 0, 0), (.getfield 108, 193, 10, 1, 31), (.lload 19, 194, 0, 0, 0), (.lmul, 195, 0, 0, 0), (.lcmp, 196, 0, 0, 0), (.ifCond .ge (15), 197, 203, 0, 0), (.aload_n 0, 198, 0, 0, 0), (.lload 17, 199, 0, 0, 0), (.putfield 108, 200, 10, 1, 31), (.aload_n 0, 201, 0, 0, 0), (.lload 19, 202, 0, 0, 0), (.putfield 111, 203, 10, 1, 32), (.aload_n 0, 204, 0, 0, 0), (.iconst (1), 205, 0, 0, 1), (.putfield 99, 206, 10, 3, 28), (.iinc 10 (1), 207, 0, 0, 1), (.goto (-274), 208, 48, 0, 0), (.aload_n 0, 209, 0, 0, 0), (.getfield 96, 210, 10, 3, 27), (.ifCond .eq (32), 211, 226, 0, 0), (.aload_n 0, 212, 0, 0, 0), (.getfield 99, 213, 10, 3, 28), (.ifCond .eq (25), 214, 226, 0, 0), (.aload_n 0, 215, 0, 0, 0), (.getfield 102, 216, 10, 1, 29), (.aload_n 0, 217, 0, 0, 0), (.getfield 111, 218, 10, 1, 32), (.lmul, 219, 0, 0, 0), (.aload_n 0, 220, 0, 0, 0), (.getfield 108, 221, 10, 1, 31), (.aload_n 0, 222, 0, 0, 0), (.getfield 105, 223, 10, 1, 30), (.lmul, 224, 0, 0, 0), (.lcmp, 225, 0, 0, 0), (.ifCond .ge (7), 226, 228, 0, 0), (.iconst (1), 227, 0, 0, 1), (.goto (4), 228, 229, 0, 0), (.iconst (0), 229, 0, 0, 0), (.ireturn, 230, 1, 0, 0)]
def p_M_bounds : List Nat := [0, 1, 2, 5, 6, 7, 10, 11, 14, 15, 16, 17, 20, 21, 22, 23, 25, 26, 29, 30, 31, 32, 35, 36, 37, 38, 40, 42, 44, 45, 47, 49, 50, 51, 53, 54, 57, 58, 59, 60, 63, 64, 65, 66, 68, 70, 71, 72, 74, 76, 78, 79, 80, 81, 84, 85, 86, 87, 90, 91, 94, 96, 97, 98, 101, 102, 103, 104, 106, 107, 110, 112, 113, 114, 117, 118, 119, 120, 122, 123, 126, 128, 129, 130, 133, 134, 135, 136, 137, 139, 140, 141, 143, 144, 146, 148, 149, 151, 153, 154, 155, 156, 157, 158, 160, 162, 164, 165, 167, 169, 170, 171, 172, 174, 176, 177, 178, 181, 183, 184, 185, 188, 190, 191, 192, 195, 197, 198, 201, 203, 204, 207, 208, 209, 211, 212, 213, 216, 218, 219, 222, 224, 226, 228, 229, 230, 233, 235, 237, 238, 239, 242, 244, 245, 247, 248, 249, 251, 253, 254, 255, 258, 259, 262, 265, 267, 268, 271, 272, 273, 276, 278, 279, 280, 283, 284, 286, 289, 290, 292, 295, 296, 297, 300, 303, 304, 307, 310, 312, 313, 316, 317, 318, 321, 323, 324, 325, 328, 329, 331, 334, 335, 337, 340, 341, 342, 345, 348, 351, 352, 355, 358, 359, 362, 365, 366, 369, 370, 373, 374, 375, 378, 379, 382, 383, 384, 387, 388, 391, 392, 393]
def c_M_pointOf : List PI := [(.aload_n 0, 1, 0, 0, 0), (.getfield 20, 2, 10, 2, 3), (.iload_n 3, 3, 0, 0, 0), (.iaload, 4, 0, 0, 0), (.aload_n 0, 5, 0, 0, 0), (.getfield 20, 6, 10, 2, 3), (.iload_n 2, 7, 0, 0, 0), (.iaload, 8, 0, 0, 0), (.isub, 9, 0, 0, 0), (.i2l, 10, 0, 0, 0), (.lstore 10, 11, 0, 0, 0), (.aload_n 0, 12, 0, 0, 0), (.getfield 23, 13, 10, 2, 4), (.iload_n 3, 14, 0, 0, 0), (.iaload, 15, 0, 0, 0), (.aload_n 0, 16, 0, 0, 0), (.getfield 23, 17, 10, 2, 4), (.iload_n 2, 18, 0, 0, 0), (.iaload, 19, 0, 0, 0), (.isub, 20, 0, 0, 0), (.i2l, 21, 0, 0, 0), (.lstore 12, 22, 0, 0, 0), (.lload 10, 23, 0, 0, 0), (.lload 10, 24, 0, 0, 0), (.lmul, 25, 0, 0, 0), (.lload 12, 26, 0, 0, 0), (.lload 12, 27, 0, 0, 0), (.lmul, 28, 0, 0, 0), (.ladd, 29, 0, 0, 0), (.lstore 14, 30, 0, 0, 0), (.aload_n 0, 31, 0, 0, 0), (.getfield 26, 32, 10, 2, 5), (.iload_n 3, 33, 0, 0, 0), (.iaload, 34, 0, 0, 0), (.aload_n 0, 35, 0, 0, 0), (.getfield 26, 36, 10, 2, 5), (.iload_n 2, 37, 0, 0, 0), (.iaload, 38, 0, 0, 0), (.isub, 39, 0, 0, 0), (.i2l, 40, 0, 0, 0), (.lstore 16, 41, 0, 0, 0), (.lload 10, 42, 0, 0, 0), (.lneg, 43, 0, 0, 0), (.lload 16, 44, 0, 0, 0), (.lmul, 45, 0, 0, 0), (.lload 8, 46, 0, 0, 0), (.lmul, 47, 0, 0, 0), (.iload 4, 48, 0, 0, 0), (.i2l, 49, 0, 0, 0), (.lload 6, 50, 0, 0, 0), (.lmul, 51, 0, 0, 0), (.lload 14, 52, 0, 0, 0), (.lmul, 53, 0, 0, 0), (.ladd, 54, 0, 0, 0), (.lstore 18, 55, 0, 0, 0), (.lload 12, 56, 0, 0, 0), (.lneg, 57, 0, 0, 0), (.lload 16, 58, 0, 0, 0), (.lmul, 59, 0, 0, 0), (.lload 8, 60, 0, 0, 0), (.lmul, 61, 0, 0, 0), (.iload 5, 62, 0, 0, 0), (.i2l, 63, 0, 0, 0), (.lload 6, 64, 0, 0, 0), (.lmul, 65, 0, 0, 0), (.lload 14, 66, 0, 0, 0), (.lmul, 67, 0, 0, 0), (.ladd, 68, 0, 0, 0), (.lstore 20, 69, 0, 0, 0), (.aload_n 0, 70, 0, 0, 0), (.getfield 92, 71, 10, 2, 26), (.iload_n 1, 72, 0, 0, 0), (.aload_n 0, 73, 0, 0, 0), (.lload 18, 74, 0, 0, 0), (.lload 14, 75, 0, 0, 0), (.lload 8, 76, 0, 0, 0), (.lmul, 77, 0, 0, 0), (.iconst (0), 78, 0, 0, 0), (.invokevirtual 222, 79, 144, 4, 0), (.lastore, 80, 0, 0, 0), (.aload_n 0, 81, 0, 0, 0), (.getfield 92, 82, 10, 2, 26), (.iload_n 1, 83, 0, 0, 0), (.iconst (1), 84, 0, 0, 1), (.iadd, 85, 0, 0, 0), (.aload_n 0, 86, 0, 0, 0), (.lload 18, 87, 0, 0, 0), (.lload 14, 88, 0, 0, 0), (.lload 8, 89, 0, 0, 0), (.lmul, 90, 0, 0, 0), (.iconst (1), 91, 0, 0, 1), (.invokevirtual 222, 92, 144, 4, 0), (.lastore, 93, 0, 0, 0), (.aload_n 0, 94, 0, 0, 0), (.getfield 92, 95, 10, 2, 26), (.iload_n 1, 96, 0, 0, 0), (.iconst (2), 97, 0, 0, 2), (.iadd, 98, 0, 0, 0), (.aload_n 0, 99, 0, 0, 0), (.lload 20, 100, 0, 0, 0), (.lload 14, 101, 0, 0, 0), (.lload 8, 102, 0, 0, 0), (.lmul, 103, 0, 0, 0), (.iconst (0), 104, 0, 0, 0), (.invokevirtual 222, 105, 144, 4, 0), (.lastore, 106, 0, 0, 0), (.aload_n 0, 107, 0, 0, 0), (.getfield 92, 108, 10, 2, 26), (.iload_n 1, 109, 0, 0, 0), (.iconst (3), 110, 0, 0, 3), (.iadd, 111, 0, 0, 0), (.aload_n 0, 112, 0, 0, 0), (.lload 20, 113, 0, 0, 0), (.lload 14, 114, 0, 0, 0), (.lload 8, 115, 0, 0, 0), (.lmul, 116, 0, 0, 0), (.iconst (1), 117, 0, 0, 1), (.invokevirtual 222, 118, 144, 4, 0), (.lastore, 119, 0, 0, 0), (.return_, 120, 0, 0, 0)]
def p_M_pointOf : List Nat := [0, 1, 4, 5, 6, 7, 10, 11, 12, 13, 14, 16, 17, 20, 21, 22, 23, 26, 27, 28, 29, 30, 32, 34, 36, 37, 39, 41, 42, 43, 45, 46, 49, 50, 51, 52, 55, 56, 57, 58, 59, 61, 63, 64, 66, 67, 69, 70, 72, 73, 75, 76, 78, 79, 80, 82, 84, 85, 87, 88, 90, 91, 93, 94, 96, 97, 99, 100, 101, 103, 104, 107, 108, 109, 111, 113, 115, 116, 117, 120, 121, 122, 125, 126, 127, 128, 129, 131, 133, 135, 136, 137, 140, 141, 142, 145, 146, 147, 148, 149, 151, 153, 155, 156, 157, 160, 161, 162, 165, 166, 167, 168, 169, 171, 173, 175, 176, 177, 180, 181, 182]
def c_M_keepCorner : List PI := [(.iconst (0), 1, 0, 0, 0), (.istore_n 2, 2, 0, 0, 0), (.iload_n 2, 3, 0, 0, 0), (.aload_n 0, 4, 0, 0, 0), (.getfield 114, 5, 10, 0, 33), (.if_icmp .ge (28), 6, 19, 0, 0), (.aload_n 0, 7, 0, 0, 0), (.aload_n 0, 8, 0, 0, 0), (.getfield 92, 9, 10, 2, 26), (.iload_n 1, 10, 0, 0, 0), (.aload_n 0, 11, 0, 0, 0), (.getfield 117, 12, 10, 2, 34), (.iconst (4), 13, 0, 0, 4), (.iload_n 2, 14, 0, 0, 0), (.imul, 15, 0, 0, 0), (.invokevirtual 263, 16, 166, 5, 0), (.ifCond .le (9), 17, 19, 0, 0), (.iinc 2 (1), 18, 0, 0, 1), (.goto (-30), 19, 2, 0, 0), (.iload_n 2, 20, 0, 0, 0), (.aload_n 0, 21, 0, 0, 0), (.getfield 114, 22, 10, 0, 33), (.if_icmp .ge (33), 23, 43, 0, 0), (.aload_n 0, 24, 0, 0, 0), (.aload_n 0, 25, 0, 0, 0), (.getfield 92, 26, 10, 2, 26), (.iload_n 1, 27, 0, 0, 0), (.aload_n 0, 28, 0, 0, 0), (.getfield 117, 29, 10, 2, 34), (.iconst (4), 30, 0, 0, 4), (.iload_n 2, 31, 0, 0, 0), (.imul, 32, 0, 0, 0), (.invokevirtual 263, 33, 166, 5, 0), (.ifCond .ne (14), 34, 43, 0, 0), (.aload_n 0, 35, 0, 0, 0), (.getfield 120, 36, 10, 2, 35), (.iload_n 2, 37, 0, 0, 0), (.dup2, 38, 0, 0, 0), (.iaload, 39, 0, 0, 0), (.iconst (1), 40, 0, 0, 1), (.iadd, 41, 0, 0, 0), (.iastore, 42, 0, 0, 0), (.return_, 43, 0, 0, 0), (.aload_n 0, 44, 0, 0, 0), (.getfield 114, 45, 10, 0, 33), (.istore_n 3, 46, 0, 0, 0), (.iload_n 3, 47, 0, 0, 0), (.iload_n 2, 48, 0, 0, 0), (.if_icmp .le (62), 49, 86, 0, 0), (.iconst (0), 50, 0, 0, 0), (.istore 4, 51, 0, 0, 0), (.iload 4, 52, 0, 0, 0), (.iconst (4), 53, 0, 0, 4), (.if_icmp .ge (33), 54, 74, 0, 0), (.aload_n 0, 55, 0, 0, 0), (.getfield 117, 56, 10, 2, 34), (.iconst (4), 57, 0, 0, 4), (.iload_n 3, 58, 0, 0, 0), (.imul, 59, 0, 0, 0), (.iload 4, 60, 0, 0, 0), (.iadd, 61, 0, 0, 0), (.aload_n 0, 62, 0, 0, 0), (.getfield 117, 63, 10, 2, 34), (.iconst (4), 64, 0, 0, 4), (.iload_n 3, 65, 0, 0, 0), (.imul, 66, 0, 0, 0), (.iconst (4), 67, 0, 0, 4), (.isub, 68, 0, 0, 0), (.iload 4, 69, 0, 0, 0), (.iadd, 70, 0, 0, 0), (.laload, 71, 0, 0, 0), (.lastore, 72, 0, 0, 0), (.iinc 4 (1), 73, 0, 0, 1), (.goto (-33), 74, 51, 0, 0), (.aload_n 0, 75, 0, 0, 0), (.getfield 120, 76, 10, 2, 35), (.iload_n 3, 77, 0, 0, 0), (.aload_n 0, 78, 0, 0, 0), (.getfield 120, 79, 10, 2, 35), (.iload_n 3, 80, 0, 0, 0), (.iconst (1), 81, 0, 0, 1), (.isub, 82, 0, 0, 0), (.iaload, 83, 0, 0, 0), (.iastore, 84, 0, 0, 0), (.iinc 3 (-1), 85, 0, 0, (-1)), (.goto (-61), 86, 46, 0, 0), (.iconst (0), 87, 0, 0, 0), (.istore_n 3, 88, 0, 0, 0), (.iload_n 3, 89, 0, 0, 0), (.iconst (4), 90, 0, 0, 4), (.if_icmp .ge (27), 91, 107, 0, 0), (.aload_n 0, 92, 0, 0, 0), (.getfield 117, 93, 10, 2, 34), (.iconst (4), 94, 0, 0, 4), (.iload_n 2, 95, 0, 0, 0), (.imul, 96, 0, 0, 0), (.iload_n 3, 97, 0, 0, 0), (.iadd, 98, 0, 0, 0), (.aload_n 0, 99, 0, 0, 0), (.getfield 92, 100, 10, 2, 26), (.iload_n 1, 101, 0, 0, 0), (.iload_n 3, 102, 0, 0, 0), (.iadd, 103, 0, 0, 0), (.laload, 104, 0, 0, 0), (.lastore, 105, 0, 0, 0), (.iinc 3 (1), 106, 0, 0, 1), (.goto (-26), 107, 88, 0, 0), (.aload_n 0, 108, 0, 0, 0), (.getfield 120, 109, 10, 2, 35), (.iload_n 2, 110, 0, 0, 0), (.iconst (1), 111, 0, 0, 1), (.iastore, 112, 0, 0, 0), (.aload_n 0, 113, 0, 0, 0), (.dup, 114, 0, 0, 0), (.getfield 114, 115, 10, 0, 33), (.iconst (1), 116, 0, 0, 1), (.iadd, 117, 0, 0, 0), (.putfield 114, 118, 10, 0, 33), (.return_, 119, 0, 0, 0)]
def p_M_keepCorner : List Nat := [0, 1, 2, 3, 4, 7, 10, 11, 12, 15, 16, 17, 20, 21, 22, 23, 26, 29, 32, 35, 36, 37, 40, 43, 44, 45, 48, 49, 50, 53, 54, 55, 56, 59, 62, 63, 66, 67, 68, 69, 70, 71, 72, 73, 74, 77, 78, 79, 80, 83, 84, 86, 88, 89, 92, 93, 96, 97, 98, 99, 101, 102, 103, 106, 107, 108, 109, 110, 111, 113, 114, 115, 116, 119, 122, 123, 126, 127, 128, 131, 132, 133, 134, 135, 136, 139, 142, 143, 144, 145, 146, 149, 150, 153, 154, 155, 156, 157, 158, 159, 162, 163, 164, 165, 166, 167, 170, 173, 174, 177, 178, 179, 180, 181, 182, 185, 186, 187, 190, 191]
def c_M_compare : List PI := [(.aload_n 1, 1, 0, 0, 0), (.iload_n 2, 2, 0, 0, 0), (.laload, 3, 0, 0, 0), (.aload_n 3, 4, 0, 0, 0), (.iload 4, 5, 0, 0, 0), (.iconst (1), 6, 0, 0, 1), (.iadd, 7, 0, 0, 0), (.laload, 8, 0, 0, 0), (.lmul, 9, 0, 0, 0), (.aload_n 3, 10, 0, 0, 0), (.iload 4, 11, 0, 0, 0), (.laload, 12, 0, 0, 0), (.aload_n 1, 13, 0, 0, 0), (.iload_n 2, 14, 0, 0, 0), (.iconst (1), 15, 0, 0, 1), (.iadd, 16, 0, 0, 0), (.laload, 17, 0, 0, 0), (.lmul, 18, 0, 0, 0), (.lsub, 19, 0, 0, 0), (.lstore 5, 20, 0, 0, 0), (.lload 5, 21, 0, 0, 0), (.lconst 0, 22, 0, 0, 0), (.lcmp, 23, 0, 0, 0), (.ifCond .eq (16), 24, 32, 0, 0), (.lload 5, 25, 0, 0, 0), (.lconst 0, 26, 0, 0, 0), (.lcmp, 27, 0, 0, 0), (.ifCond .ge (7), 28, 30, 0, 0), (.iconst (-1), 29, 0, 0, (-1)), (.goto (4), 30, 31, 0, 0), (.iconst (1), 31, 0, 0, 1), (.ireturn, 32, 0, 0, 0), (.aload_n 1, 33, 0, 0, 0), (.iload_n 2, 34, 0, 0, 0), (.iconst (2), 35, 0, 0, 2), (.iadd, 36, 0, 0, 0), (.laload, 37, 0, 0, 0), (.aload_n 3, 38, 0, 0, 0), (.iload 4, 39, 0, 0, 0), (.iconst (3), 40, 0, 0, 3), (.iadd, 41, 0, 0, 0), (.laload, 42, 0, 0, 0), (.lmul, 43, 0, 0, 0), (.aload_n 3, 44, 0, 0, 0), (.iload 4, 45, 0, 0, 0), (.iconst (2), 46, 0, 0, 2), (.iadd, 47, 0, 0, 0), (.laload, 48, 0, 0, 0), (.aload_n 1, 49, 0, 0, 0), (.iload_n 2, 50, 0, 0, 0), (.iconst (3), 51, 0, 0, 3), (.iadd, 52, 0, 0, 0), (.laload, 53, 0, 0, 0), (.lmul, 54, 0, 0, 0), (.lsub, 55, 0, 0, 0), (.lstore 7, 56, 0, 0, 0), (.lload 7, 57, 0, 0, 0), (.lconst 0, 58, 0, 0, 0), (.lcmp, 59, 0, 0, 0), (.ifCond .ge (7), 60, 62, 0, 0), (.iconst (-1), 61, 0, 0, (-1)), (.goto (15), 62, 69, 0, 0), (.lload 7, 63, 0, 0, 0), (.lconst 0, 64, 0, 0, 0), (.lcmp, 65, 0, 0, 0), (.ifCond .le (7), 66, 68, 0, 0), (.iconst (1), 67, 0, 0, 1), (.goto (4), 68, 69, 0, 0), (.iconst (0), 69, 0, 0, 0), (.ireturn, 70, 0, 0, 0)]
def p_M_compare : List Nat := [0, 1, 2, 3, 4, 6, 7, 8, 9, 10, 11, 13, 14, 15, 16, 17, 18, 19, 20, 21, 23, 25, 26, 27, 30, 32, 33, 34, 37, 38, 41, 42, 43, 44, 45, 46, 47, 48, 49, 51, 52, 53, 54, 55, 56, 58, 59, 60, 61, 62, 63, 64, 65, 66, 67, 68, 70, 72, 73, 74, 77, 78, 81, 83, 84, 85, 88, 89, 92, 93, 94]
def c_M_isSmooth : List PI := [(.iconst (1), 1, 0, 0, 1), (.istore_n 2, 2, 0, 0, 0), (.iconst (0), 3, 0, 0, 0), (.istore_n 3, 4, 0, 0, 0), (.iload_n 3, 5, 0, 0, 0), (.aload_n 0, 6, 0, 0, 0), (.getfield 68, 7, 10, 0, 18), (.if_icmp .ge (29), 8, 22, 0, 0), (.iload_n 2, 9, 0, 0, 0), (.ifCond .eq (17), 10, 18, 0, 0), (.aload_n 0, 11, 0, 0, 0), (.getfield 83, 12, 10, 2, 23), (.iload_n 3, 13, 0, 0, 0), (.iaload, 14, 0, 0, 0), (.iconst (1), 15, 0, 0, 1), (.if_icmp .ne (7), 16, 18, 0, 0), (.iconst (1), 17, 0, 0, 1), (.goto (4), 18, 19, 0, 0), (.iconst (0), 19, 0, 0, 0), (.istore_n 2, 20, 0, 0, 0), (.iinc 3 (1), 21, 0, 0, 1), (.goto (-31), 22, 4, 0, 0), (.iconst (0), 23, 0, 0, 0), (.istore_n 3, 24, 0, 0, 0), (.iload_n 3, 25, 0, 0, 0), (.aload_n 0, 26, 0, 0, 0), (.getfield 114, 27, 10, 0, 33), (.if_icmp .ge (29), 28, 42, 0, 0), (.iload_n 2, 29, 0, 0, 0), (.ifCond .eq (17), 30, 38, 0, 0), (.aload_n 0, 31, 0, 0, 0), (.iload_n 1, 32, 0, 0, 0), (.iload_n 3, 33, 0, 0, 0), (.invokevirtual 276, 34, 168, 3, 0), (.iconst (1), 35, 0, 0, 1), (.if_icmp .ne (7), 36, 38, 0, 0), (.iconst (1), 37, 0, 0, 1), (.goto (4), 38, 39, 0, 0), (.iconst (0), 39, 0, 0, 0), (.istore_n 2, 40, 0, 0, 0), (.iinc 3 (1), 41, 0, 0, 1), (.goto (-31), 42, 24, 0, 0), (.iload_n 2, 43, 0, 0, 0), (.ireturn, 44, 1, 0, 0)]
def p_M_isSmooth : List Nat := [0, 1, 2, 3, 4, 5, 6, 9, 12, 13, 16, 17, 20, 21, 22, 23, 26, 27, 30, 31, 32, 35, 38, 39, 40, 41, 42, 45, 48, 49, 52, 53, 54, 55, 58, 59, 62, 63, 66, 67, 68, 71, 74, 75, 76]
def c_M_partArea : List PI := [(.aload_n 0, 1, 0, 0, 0), (.iload_n 2, 2, 0, 0, 0), (.invokevirtual 273, 3, 169, 2, 0), (.aload_n 0, 4, 0, 0, 0), (.iload_n 1, 5, 0, 0, 0), (.invokevirtual 219, 6, 146, 2, 0), (.lstore_n 3, 7, 0, 0, 0), (.aload_n 0, 8, 0, 0, 0), (.iconst (0), 9, 0, 0, 0), (.putfield 65, 10, 10, 0, 17), (.bipush (40), 11, 0, 0, 40), (.iload_n 1, 12, 0, 0, 0), (.imul, 13, 0, 0, 0), (.istore 5, 14, 0, 0, 0), (.iload 5, 15, 0, 0, 0), (.bipush (40), 16, 0, 0, 40), (.iload_n 1, 17, 0, 0, 0), (.imul, 18, 0, 0, 0), (.aload_n 0, 19, 0, 0, 0), (.getfield 17, 20, 10, 2, 2), (.iload_n 1, 21, 0, 0, 0), (.iaload, 22, 0, 0, 0), (.iadd, 23, 0, 0, 0), (.if_icmp .ge (38), 24, 42, 0, 0), (.aload_n 0, 25, 0, 0, 0), (.iload 5, 26, 0, 0, 0), (.invokevirtual 215, 27, 147, 2, 0), (.lload_n 3, 28, 0, 0, 0), (.lcmp, 29, 0, 0, 0), (.ifCond .ne (21), 30, 40, 0, 0), (.aload_n 0, 31, 0, 0, 0), (.aload_n 0, 32, 0, 0, 0), (.getfield 20, 33, 10, 2, 3), (.iload 5, 34, 0, 0, 0), (.iaload, 35, 0, 0, 0), (.aload_n 0, 36, 0, 0, 0), (.getfield 23, 37, 10, 2, 4), (.iload 5, 38, 0, 0, 0), (.iaload, 39, 0, 0, 0), (.invokevirtual 247, 40, 152, 3, 0), (.iinc 5 (1), 41, 0, 0, 1), (.goto (-48), 42, 14, 0, 0), (.aload_n 0, 43, 0, 0, 0), (.invokevirtual 251, 44, 153, 1, 0), (.ireturn, 45, 0, 0, 0)]
def p_M_partArea : List Nat := [0, 1, 2, 5, 6, 7, 10, 11, 12, 13, 16, 18, 19, 20, 22, 24, 26, 27, 28, 29, 32, 33, 34, 35, 38, 39, 41, 44, 45, 46, 49, 50, 51, 54, 56, 57, 58, 61, 63, 64, 67, 70, 73, 74, 77, 78]
def c_M_standAtCorner : List PI := [(.aload_n 0, 1, 0, 0, 0), (.aload_n 0, 2, 0, 0, 0), (.getfield 117, 3, 10, 2, 34), (.iconst (4), 4, 0, 0, 4), (.iload_n 1, 5, 0, 0, 0), (.imul, 6, 0, 0, 0), (.laload, 7, 0, 0, 0), (.putfield 46, 8, 10, 1, 11), (.aload_n 0, 9, 0, 0, 0), (.aload_n 0, 10, 0, 0, 0), (.getfield 117, 11, 10, 2, 34), (.iconst (4), 12, 0, 0, 4), (.iload_n 1, 13, 0, 0, 0), (.imul, 14, 0, 0, 0), (.iconst (1), 15, 0, 0, 1), (.iadd, 16, 0, 0, 0), (.laload, 17, 0, 0, 0), (.putfield 50, 18, 10, 1, 12), (.aload_n 0, 19, 0, 0, 0), (.aload_n 0, 20, 0, 0, 0), (.getfield 117, 21, 10, 2, 34), (.iconst (4), 22, 0, 0, 4), (.iload_n 1, 23, 0, 0, 0), (.imul, 24, 0, 0, 0), (.iconst (2), 25, 0, 0, 2), (.iadd, 26, 0, 0, 0), (.laload, 27, 0, 0, 0), (.putfield 53, 28, 10, 1, 13), (.aload_n 0, 29, 0, 0, 0), (.aload_n 0, 30, 0, 0, 0), (.getfield 117, 31, 10, 2, 34), (.iconst (4), 32, 0, 0, 4), (.iload_n 1, 33, 0, 0, 0), (.imul, 34, 0, 0, 0), (.iconst (3), 35, 0, 0, 3), (.iadd, 36, 0, 0, 0), (.laload, 37, 0, 0, 0), (.putfield 56, 38, 10, 1, 14), (.return_, 39, 0, 0, 0)]
def p_M_standAtCorner : List Nat := [0, 1, 2, 5, 6, 7, 8, 9, 12, 13, 14, 17, 18, 19, 20, 21, 22, 23, 26, 27, 28, 31, 32, 33, 34, 35, 36, 37, 40, 41, 42, 45, 46, 47, 48, 49, 50, 51, 54, 55]
def c_M_kindOf : List PI := [(.aload_n 0, 1, 0, 0, 0), (.getfield 86, 2, 10, 2, 24), (.iload_n 1, 3, 0, 0, 0), (.baload, 4, 0, 0, 0), (.ifCond .eq (16), 5, 12, 0, 0), (.aload_n 0, 6, 0, 0, 0), (.getfield 89, 7, 10, 2, 25), (.iload_n 1, 8, 0, 0, 0), (.baload, 9, 0, 0, 0), (.ifCond .eq (7), 10, 12, 0, 0), (.iconst (1), 11, 0, 0, 1), (.goto (26), 12, 25, 0, 0), (.aload_n 0, 13, 0, 0, 0), (.getfield 86, 14, 10, 2, 24), (.iload_n 1, 15, 0, 0, 0), (.baload, 16, 0, 0, 0), (.ifCond .ne (12), 17, 22, 0, 0), (.aload_n 0, 18, 0, 0, 0), (.getfield 89, 19, 10, 2, 25), (.iload_n 1, 20, 0, 0, 0), (.baload, 21, 0, 0, 0), (.ifCond .eq (7), 22, 24, 0, 0), (.iconst (2), 23, 0, 0, 2), (.goto (4), 24, 25, 0, 0), (.iconst (3), 25, 0, 0, 3), (.ireturn, 26, 0, 0, 0)]
def p_M_kindOf : List Nat := [0, 1, 4, 5, 6, 9, 10, 13, 14, 15, 18, 19, 22, 23, 26, 27, 28, 31, 32, 35, 36, 37, 40, 41, 44, 45, 46]
def c_M_number : List PI := [(.aload_n 0, 1, 0, 0, 0), (.iload_n 1, 2, 0, 0, 0), (.invokevirtual 184, 3, 126, 2, 0), (.ifCond .eq (13), 4, 10, 0, 0), (.aload_n 0, 5, 0, 0, 0), (.iload_n 1, 6, 0, 0, 0), (.iload_n 2, 7, 0, 0, 0), (.iload_n 3, 8, 0, 0, 0), (.invokevirtual 188, 9, 128, 4, 0), (.goto (4), 10, 11, 0, 0), (.iconst (-1), 11, 0, 0, (-1)), (.istore 4, 12, 0, 0, 0), (.iload 4, 13, 0, 0, 0), (.ifCond .ge (9), 14, 16, 0, 0), (.ldc_w 311, 15, 0, 0, (-100000)), (.goto (15), 16, 24, 0, 0), (.aload_n 0, 17, 0, 0, 0), (.getfield 26, 18, 10, 2, 5), (.bipush (40), 19, 0, 0, 40), (.iload_n 1, 20, 0, 0, 0), (.imul, 21, 0, 0, 0), (.iload 4, 22, 0, 0, 0), (.iadd, 23, 0, 0, 0), (.iaload, 24, 0, 0, 0), (.ireturn, 25, 0, 0, 0)]
def p_M_number : List Nat := [0, 1, 2, 5, 8, 9, 10, 11, 12, 15, 18, 19, 21, 23, 26, 29, 32, 33, 36, 38, 39, 40, 42, 43, 44, 45]
def c_M_idle : List PI := [(.aload_n 0, 1, 0, 0, 0), (.iload_n 1, 2, 0, 0, 0), (.invokevirtual 184, 3, 126, 2, 0), (.ifCond .eq (13), 4, 10, 0, 0), (.aload_n 0, 5, 0, 0, 0), (.iload_n 1, 6, 0, 0, 0), (.iload_n 2, 7, 0, 0, 0), (.iload_n 3, 8, 0, 0, 0), (.invokevirtual 188, 9, 128, 4, 0), (.goto (4), 10, 11, 0, 0), (.iconst (-1), 11, 0, 0, (-1)), (.istore 4, 12, 0, 0, 0), (.iload 4, 13, 0, 0, 0), (.ifCond .ge (8), 14, 16, 0, 0), (.bipush (-2), 15, 0, 0, (-2)), (.goto (18), 16, 24, 0, 0), (.aload_n 0, 17, 0, 0, 0), (.iload_n 1, 18, 0, 0, 0), (.iload 4, 19, 0, 0, 0), (.invokevirtual 292, 20, 157, 3, 0), (.ifCond .eq (7), 21, 23, 0, 0), (.iconst (1), 22, 0, 0, 1), (.goto (4), 23, 24, 0, 0), (.iconst (0), 24, 0, 0, 0), (.ireturn, 25, 0, 0, 0)]
def p_M_idle : List Nat := [0, 1, 2, 5, 8, 9, 10, 11, 12, 15, 18, 19, 21, 23, 26, 28, 31, 32, 33, 35, 38, 41, 42, 45, 46, 47]
def c_M_same : List PI := [(.aload_n 0, 1, 0, 0, 0), (.iload_n 1, 2, 0, 0, 0), (.invokevirtual 184, 3, 126, 2, 0), (.ifCond .eq (11), 4, 8, 0, 0), (.aload_n 0, 5, 0, 0, 0), (.iload_n 2, 6, 0, 0, 0), (.invokevirtual 184, 7, 126, 2, 0), (.ifCond .ne (6), 8, 10, 0, 0), (.bipush (-2), 9, 0, 0, (-2)), (.ireturn, 10, 0, 0, 0), (.aload_n 0, 11, 0, 0, 0), (.iload_n 1, 12, 0, 0, 0), (.iload_n 2, 13, 0, 0, 0), (.invokevirtual 312, 14, 174, 3, 0), (.ifCond .eq (16), 15, 22, 0, 0), (.aload_n 0, 16, 0, 0, 0), (.iload_n 2, 17, 0, 0, 0), (.iload_n 1, 18, 0, 0, 0), (.invokevirtual 312, 19, 174, 3, 0), (.ifCond .eq (7), 20, 22, 0, 0), (.iconst (1), 21, 0, 0, 1), (.goto (4), 22, 23, 0, 0), (.iconst (0), 23, 0, 0, 0), (.ireturn, 24, 0, 0, 0)]
def p_M_same : List Nat := [0, 1, 2, 5, 8, 9, 10, 13, 16, 18, 19, 20, 21, 22, 25, 28, 29, 30, 31, 34, 37, 38, 41, 42, 43]
def c_M_isWithin : List PI := [(.iconst (1), 1, 0, 0, 1), (.istore_n 3, 2, 0, 0, 0), (.iconst (0), 3, 0, 0, 0), (.istore 4, 4, 0, 0, 0), (.iload 4, 5, 0, 0, 0), (.aload_n 0, 6, 0, 0, 0), (.getfield 17, 7, 10, 2, 2), (.iload_n 1, 8, 0, 0, 0), (.iaload, 9, 0, 0, 0), (.if_icmp .ge (105), 10, 68, 0, 0), (.iload_n 3, 11, 0, 0, 0), (.ifCond .eq (101), 12, 68, 0, 0), (.aload_n 0, 13, 0, 0, 0), (.iload_n 1, 14, 0, 0, 0), (.iload 4, 15, 0, 0, 0), (.invokevirtual 292, 16, 157, 3, 0), (.ifCond .eq (6), 17, 18, 0, 0), (.goto (82), 18, 66, 0, 0), (.aload_n 0, 19, 0, 0, 0), (.iload_n 2, 20, 0, 0, 0), (.aload_n 0, 21, 0, 0, 0), (.getfield 20, 22, 10, 2, 3), (.bipush (40), 23, 0, 0, 40), (.iload_n 1, 24, 0, 0, 0), (.imul, 25, 0, 0, 0), (.iload 4, 26, 0, 0, 0), (.iadd, 27, 0, 0, 0), (.iaload, 28, 0, 0, 0), (.aload_n 0, 29, 0, 0, 0), (.getfield 23, 30, 10, 2, 4), (.bipush (40), 31, 0, 0, 40), (.iload_n 1, 32, 0, 0, 0), (.imul, 33, 0, 0, 0), (.iload 4, 34, 0, 0, 0), (.iadd, 35, 0, 0, 0), (.iaload, 36, 0, 0, 0), (.invokevirtual 188, 37, 128, 4, 0), (.istore 5, 38, 0, 0, 0), (.iload 5, 39, 0, 0, 0), (.ifCond .lt (44), 40, 64, 0, 0), (.aload_n 0, 41, 0, 0, 0), (.getfield 26, 42, 10, 2, 5), (.bipush (40), 43, 0, 0, 40), (.iload_n 2, 44, 0, 0, 0), (.imul, 45, 0, 0, 0), (.iload 5, 46, 0, 0, 0), (.iadd, 47, 0, 0, 0), (.iaload, 48, 0, 0, 0), (.aload_n 0, 49, 0, 0, 0), (.getfield 26, 50, 10, 2, 5), (.bipush (40), 51, 0, 0, 40), (.iload_n 1, 52, 0, 0, 0), (.imul, 53, 0, 0, 0), (.iload 4, 54, 0, 0, 0), (.iadd, 55, 0, 0, 0), (.iaload, 56, 0, 0, 0), (.if_icmp .ne (17), 57, 64, 0, 0), (.aload_n 0, 58, 0, 0, 0), (.iload_n 2, 59, 0, 0, 0), (.iload 5, 60, 0, 0, 0), (.invokevirtual 292, 61, 157, 3, 0), (.ifCond .ne (7), 62, 64, 0, 0), (.iconst (1), 63, 0, 0, 1), (.goto (4), 64, 65, 0, 0), (.iconst (0), 65, 0, 0, 0), (.istore_n 3, 66, 0, 0, 0), (.iinc 4 (1), 67, 0, 0, 1), (.goto (-110), 68, 4, 0, 0), (.iload_n 3, 69, 0, 0, 0), (.ireturn, 70, 1, 0, 0)]
def p_M_isWithin : List Nat := [0, 1, 2, 3, 5, 7, 8, 11, 12, 13, 16, 17, 20, 21, 22, 24, 27, 30, 33, 34, 35, 36, 39, 41, 42, 43, 45, 46, 47, 48, 51, 53, 54, 55, 57, 58, 59, 62, 64, 66, 69, 70, 73, 75, 76, 77, 79, 80, 81, 82, 85, 87, 88, 89, 91, 92, 93, 96, 97, 98, 100, 103, 106, 107, 110, 111, 112, 115, 118, 119, 120]
def c_M_edge : List PI := [(.aload_n 0, 1, 0, 0, 0), (.iload_n 1, 2, 0, 0, 0), (.invokevirtual 184, 3, 126, 2, 0), (.ifCond .eq (18), 4, 12, 0, 0), (.iload_n 2, 5, 0, 0, 0), (.ifCond .lt (14), 6, 12, 0, 0), (.aload_n 0, 7, 0, 0, 0), (.iload_n 3, 8, 0, 0, 0), (.iconst (0), 9, 0, 0, 0), (.bipush (7), 10, 0, 0, 7), (.invokevirtual 180, 11, 127, 4, 0), (.ifCond .ne (7), 12, 14, 0, 0), (.ldc_w 311, 13, 0, 0, (-100000)), (.ireturn, 14, 0, 0, 0), (.aload_n 0, 15, 0, 0, 0), (.iload_n 1, 16, 0, 0, 0), (.invokevirtual 267, 17, 162, 2, 0), (.iload_n 2, 18, 0, 0, 0), (.aload_n 0, 19, 0, 0, 0), (.getfield 68, 20, 10, 0, 18), (.if_icmp .lt (7), 21, 23, 0, 0), (.ldc_w 311, 22, 0, 0, (-100000)), (.ireturn, 23, 0, 0, 0), (.iload_n 3, 24, 0, 0, 0), (.tableswitch (106) (0) (6) #[(43), (50), (57), (64), (70), (82), (94)], 25, 9, 0, 0), (.aload_n 0, 26, 0, 0, 0), (.getfield 77, 27, 10, 2, 21), (.iload_n 2, 28, 0, 0, 0), (.iaload, 29, 0, 0, 0), (.ireturn, 30, 0, 0, 0), (.aload_n 0, 31, 0, 0, 0), (.getfield 80, 32, 10, 2, 22), (.iload_n 2, 33, 0, 0, 0), (.iaload, 34, 0, 0, 0), (.ireturn, 35, 0, 0, 0), (.aload_n 0, 36, 0, 0, 0), (.getfield 83, 37, 10, 2, 23), (.iload_n 2, 38, 0, 0, 0), (.iaload, 39, 0, 0, 0), (.ireturn, 40, 0, 0, 0), (.aload_n 0, 41, 0, 0, 0), (.iload_n 2, 42, 0, 0, 0), (.invokevirtual 308, 43, 170, 2, 0), (.ireturn, 44, 0, 0, 0), (.aload_n 0, 45, 0, 0, 0), (.getfield 20, 46, 10, 2, 3), (.aload_n 0, 47, 0, 0, 0), (.getfield 71, 48, 10, 2, 19), (.iload_n 2, 49, 0, 0, 0), (.iaload, 50, 0, 0, 0), (.iaload, 51, 0, 0, 0), (.ireturn, 52, 0, 0, 0), (.aload_n 0, 53, 0, 0, 0), (.getfield 23, 54, 10, 2, 4), (.aload_n 0, 55, 0, 0, 0), (.getfield 71, 56, 10, 2, 19), (.iload_n 2, 57, 0, 0, 0), (.iaload, 58, 0, 0, 0), (.iaload, 59, 0, 0, 0), (.ireturn, 60, 0, 0, 0), (.aload_n 0, 61, 0, 0, 0), (.getfield 20, 62, 10, 2, 3), (.aload_n 0, 63, 0, 0, 0), (.getfield 74, 64, 10, 2, 20), (.iload_n 2, 65, 0, 0, 0), (.iaload, 66, 0, 0, 0), (.iaload, 67, 0, 0, 0), (.ireturn, 68, 0, 0, 0), (.aload_n 0, 69, 0, 0, 0), (.getfield 23, 70, 10, 2, 4), (.aload_n 0, 71, 0, 0, 0), (.getfield 74, 72, 10, 2, 20), (.iload_n 2, 73, 0, 0, 0), (.iaload, 74, 0, 0, 0), (.iaload, 75, 0, 0, 0), (.ireturn, 76, 0, 0, 0)]
def p_M_edge : List Nat := [0, 1, 2, 5, 8, 9, 12, 13, 14, 15, 17, 20, 23, 26, 27, 28, 29, 32, 33, 34, 37, 40, 43, 44, 45, 88, 89, 92, 93, 94, 95, 96, 99, 100, 101, 102, 103, 106, 107, 108, 109, 110, 111, 114, 115, 116, 119, 120, 123, 124, 125, 126, 127, 128, 131, 132, 135, 136, 137, 138, 139, 140, 143, 144, 147, 148, 149, 150, 151, 152, 155, 156, 159, 160, 161, 162, 163]
def c_M_end : List PI := [(.aload_n 0, 1, 0, 0, 0), (.iload_n 1, 2, 0, 0, 0), (.invokevirtual 184, 3, 126, 2, 0), (.ifCond .eq (28), 4, 18, 0, 0), (.iload_n 2, 5, 0, 0, 0), (.ifCond .lt (24), 6, 18, 0, 0), (.aload_n 0, 7, 0, 0, 0), (.iload_n 3, 8, 0, 0, 0), (.iconst (0), 9, 0, 0, 0), (.iconst (1), 10, 0, 0, 1), (.invokevirtual 180, 11, 127, 4, 0), (.ifCond .eq (14), 12, 18, 0, 0), (.aload_n 0, 13, 0, 0, 0), (.iload 4, 14, 0, 0, 0), (.iconst (0), 15, 0, 0, 0), (.iconst (3), 16, 0, 0, 3), (.invokevirtual 180, 17, 127, 4, 0), (.ifCond .ne (7), 18, 20, 0, 0), (.ldc2_w 232, 19, 0, 0, (-4611686018427387904)), (.lreturn, 20, 0, 0, 0), (.aload_n 0, 21, 0, 0, 0), (.iload_n 1, 22, 0, 0, 0), (.invokevirtual 267, 23, 162, 2, 0), (.iload_n 2, 24, 0, 0, 0), (.aload_n 0, 25, 0, 0, 0), (.getfield 68, 26, 10, 0, 18), (.if_icmp .ge (28), 27, 40, 0, 0), (.iload_n 3, 28, 0, 0, 0), (.ifCond .ne (15), 29, 35, 0, 0), (.aload_n 0, 30, 0, 0, 0), (.getfield 86, 31, 10, 2, 24), (.iload_n 2, 32, 0, 0, 0), (.baload, 33, 0, 0, 0), (.ifCond .eq (15), 34, 40, 0, 0), (.goto (16), 35, 42, 0, 0), (.aload_n 0, 36, 0, 0, 0), (.getfield 89, 37, 10, 2, 25), (.iload_n 2, 38, 0, 0, 0), (.baload, 39, 0, 0, 0), (.ifCond .ne (7), 40, 42, 0, 0), (.ldc2_w 232, 41, 0, 0, (-4611686018427387904)), (.lreturn, 42, 0, 0, 0), (.aload_n 0, 43, 0, 0, 0), (.getfield 92, 44, 10, 2, 26), (.bipush (8), 45, 0, 0, 8), (.iload_n 2, 46, 0, 0, 0), (.imul, 47, 0, 0, 0), (.iconst (4), 48, 0, 0, 4), (.iload_n 3, 49, 0, 0, 0), (.imul, 50, 0, 0, 0), (.iadd, 51, 0, 0, 0), (.iload 4, 52, 0, 0, 0), (.iadd, 53, 0, 0, 0), (.laload, 54, 0, 0, 0), (.lreturn, 55, 0, 0, 0)]
def p_M_end : List Nat := [0, 1, 2, 5, 8, 9, 12, 13, 14, 15, 16, 19, 22, 23, 25, 26, 27, 30, 33, 36, 37, 38, 39, 42, 43, 44, 47, 50, 51, 54, 55, 58, 59, 60, 63, 66, 67, 70, 71, 72, 75, 78, 79, 80, 83, 85, 86, 87, 88, 89, 90, 91, 93, 94, 95, 96]
def c_M_corner : List PI := [(.aload_n 0, 1, 0, 0, 0), (.iload_n 1, 2, 0, 0, 0), (.invokevirtual 184, 3, 126, 2, 0), (.ifCond .eq (18), 4, 12, 0, 0), (.iload_n 2, 5, 0, 0, 0), (.ifCond .lt (14), 6, 12, 0, 0), (.aload_n 0, 7, 0, 0, 0), (.iload_n 3, 8, 0, 0, 0), (.iconst (0), 9, 0, 0, 0), (.bipush (6), 10, 0, 0, 6), (.invokevirtual 180, 11, 127, 4, 0), (.ifCond .ne (7), 12, 14, 0, 0), (.ldc2_w 232, 13, 0, 0, (-4611686018427387904)), (.lreturn, 14, 0, 0, 0), (.aload_n 0, 15, 0, 0, 0), (.iload_n 1, 16, 0, 0, 0), (.invokevirtual 302, 17, 161, 2, 0), (.iload_n 2, 18, 0, 0, 0), (.aload_n 0, 19, 0, 0, 0), (.getfield 114, 20, 10, 0, 33), (.if_icmp .lt (7), 21, 23, 0, 0), (.ldc2_w 232, 22, 0, 0, (-4611686018427387904)), (.lreturn, 23, 0, 0, 0), (.iload_n 3, 24, 0, 0, 0), (.iconst (4), 25, 0, 0, 4), (.if_icmp .ge (14), 26, 35, 0, 0), (.aload_n 0, 27, 0, 0, 0), (.getfield 117, 28, 10, 2, 34), (.iconst (4), 29, 0, 0, 4), (.iload_n 2, 30, 0, 0, 0), (.imul, 31, 0, 0, 0), (.iload_n 3, 32, 0, 0, 0), (.iadd, 33, 0, 0, 0), (.laload, 34, 0, 0, 0), (.lreturn, 35, 0, 0, 0), (.aload_n 0, 36, 0, 0, 0), (.iload_n 2, 37, 0, 0, 0), (.invokevirtual 273, 38, 169, 2, 0), (.iload_n 3, 39, 0, 0, 0), (.iconst (4), 40, 0, 0, 4), (.if_icmp .ne (12), 41, 46, 0, 0), (.aload_n 0, 42, 0, 0, 0), (.iload_n 1, 43, 0, 0, 0), (.invokevirtual 238, 44, 149, 2, 0), (.i2l, 45, 0, 0, 0), (.goto (25), 46, 60, 0, 0), (.iload_n 3, 47, 0, 0, 0), (.iconst (5), 48, 0, 0, 5), (.if_icmp .ne (13), 49, 55, 0, 0), (.aload_n 0, 50, 0, 0, 0), (.iload_n 1, 51, 0, 0, 0), (.iload_n 2, 52, 0, 0, 0), (.invokevirtual 276, 53, 168, 3, 0), (.i2l, 54, 0, 0, 0), (.goto (10), 55, 60, 0, 0), (.aload_n 0, 56, 0, 0, 0), (.getfield 120, 57, 10, 2, 35), (.iload_n 2, 58, 0, 0, 0), (.iaload, 59, 0, 0, 0), (.i2l, 60, 0, 0, 0), (.lreturn, 61, 0, 0, 0)]
def p_M_corner : List Nat := [0, 1, 2, 5, 8, 9, 12, 13, 14, 15, 17, 20, 23, 26, 27, 28, 29, 32, 33, 34, 37, 40, 43, 44, 45, 46, 49, 50, 53, 54, 55, 56, 57, 58, 59, 60, 61, 62, 65, 66, 67, 70, 71, 72, 75, 76, 79, 80, 81, 84, 85, 86, 87, 90, 91, 94, 95, 98, 99, 100, 101, 102]
def c_M_amount : List PI := [(.aload_n 0, 1, 0, 0, 0), (.iload_n 1, 2, 0, 0, 0), (.invokevirtual 184, 3, 126, 2, 0), (.ifCond .eq (11), 4, 8, 0, 0), (.aload_n 0, 5, 0, 0, 0), (.iload_n 2, 6, 0, 0, 0), (.invokevirtual 184, 7, 126, 2, 0), (.ifCond .ne (6), 8, 10, 0, 0), (.bipush (-2), 9, 0, 0, (-2)), (.ireturn, 10, 0, 0, 0), (.aload_n 0, 11, 0, 0, 0), (.getfield 17, 12, 10, 2, 2), (.iload_n 1, 13, 0, 0, 0), (.iaload, 14, 0, 0, 0), (.ifCond .eq (12), 15, 20, 0, 0), (.aload_n 0, 16, 0, 0, 0), (.getfield 17, 17, 10, 2, 2), (.iload_n 2, 18, 0, 0, 0), (.iaload, 19, 0, 0, 0), (.ifCond .ne (6), 20, 22, 0, 0), (.bipush (-3), 21, 0, 0, (-3)), (.ireturn, 22, 0, 0, 0), (.aload_n 0, 23, 0, 0, 0), (.iconst (0), 24, 0, 0, 0), (.putfield 65, 25, 10, 0, 17), (.iconst (0), 26, 0, 0, 0), (.istore_n 3, 27, 0, 0, 0), (.bipush (40), 28, 0, 0, 40), (.iload_n 1, 29, 0, 0, 0), (.imul, 30, 0, 0, 0), (.istore 4, 31, 0, 0, 0), (.iload 4, 32, 0, 0, 0), (.bipush (40), 33, 0, 0, 40), (.iload_n 1, 34, 0, 0, 0), (.imul, 35, 0, 0, 0), (.aload_n 0, 36, 0, 0, 0), (.getfield 17, 37, 10, 2, 2), (.iload_n 1, 38, 0, 0, 0), (.iaload, 39, 0, 0, 0), (.iadd, 40, 0, 0, 0), (.if_icmp .ge (121), 41, 107, 0, 0), (.bipush (40), 42, 0, 0, 40), (.iload_n 2, 43, 0, 0, 0), (.imul, 44, 0, 0, 0), (.istore 5, 45, 0, 0, 0), (.iload 5, 46, 0, 0, 0), (.bipush (40), 47, 0, 0, 40), (.iload_n 2, 48, 0, 0, 0), (.imul, 49, 0, 0, 0), (.aload_n 0, 50, 0, 0, 0), (.getfield 17, 51, 10, 2, 2), (.iload_n 2, 52, 0, 0, 0), (.iaload, 53, 0, 0, 0), (.iadd, 54, 0, 0, 0), (.if_icmp .ge (93), 55, 105, 0, 0), (.aload_n 0, 56, 0, 0, 0), (.aload_n 0, 57, 0, 0, 0), (.getfield 20, 58, 10, 2, 3), (.iload 4, 59, 0, 0, 0), (.iaload, 60, 0, 0, 0), (.aload_n 0, 61, 0, 0, 0), (.getfield 20, 62, 10, 2, 3), (.iload 5, 63, 0, 0, 0), (.iaload, 64, 0, 0, 0), (.iadd, 65, 0, 0, 0), (.aload_n 0, 66, 0, 0, 0), (.getfield 23, 67, 10, 2, 4), (.iload 4, 68, 0, 0, 0), (.iaload, 69, 0, 0, 0), (.aload_n 0, 70, 0, 0, 0), (.getfield 23, 71, 10, 2, 4), (.iload 5, 72, 0, 0, 0), (.iaload, 73, 0, 0, 0), (.iadd, 74, 0, 0, 0), (.invokevirtual 247, 75, 152, 3, 0), (.iload_n 3, 76, 0, 0, 0), (.ifCond .ne (43), 77, 99, 0, 0), (.aload_n 0, 78, 0, 0, 0), (.getfield 20, 79, 10, 2, 3), (.iload 4, 80, 0, 0, 0), (.iaload, 81, 0, 0, 0), (.aload_n 0, 82, 0, 0, 0), (.getfield 20, 83, 10, 2, 3), (.iload 5, 84, 0, 0, 0), (.iaload, 85, 0, 0, 0), (.iadd, 86, 0, 0, 0), (.bipush (8), 87, 0, 0, 8), (.if_icmp .gt (23), 88, 99, 0, 0), (.aload_n 0, 89, 0, 0, 0), (.getfield 23, 90, 10, 2, 4), (.iload 4, 91, 0, 0, 0), (.iaload, 92, 0, 0, 0), (.aload_n 0, 93, 0, 0, 0), (.getfield 23, 94, 10, 2, 4), (.iload 5, 95, 0, 0, 0), (.iaload, 96, 0, 0, 0), (.iadd, 97, 0, 0, 0), (.bipush (8), 98, 0, 0, 8), (.if_icmp .le (7), 99, 101, 0, 0), (.iconst (1), 100, 0, 0, 1), (.goto (4), 101, 102, 0, 0), (.iconst (0), 102, 0, 0, 0), (.istore_n 3, 103, 0, 0, 0), (.iinc 5 (1), 104, 0, 0, 1), (.goto (-103), 105, 45, 0, 0), (.iinc 4 (1), 106, 0, 0, 1), (.goto (-131), 107, 31, 0, 0), (.iload_n 3, 108, 0, 0, 0), (.ifCond .eq (6), 109, 111, 0, 0), (.bipush (-3), 110, 0, 0, (-3)), (.ireturn, 111, 0, 0, 0), (.aload_n 0, 112, 0, 0, 0), (.invokevirtual 251, 113, 153, 1, 0), (.istore 4, 114, 0, 0, 0), (.iload 4, 115, 0, 0, 0), (.aload_n 0, 116, 0, 0, 0), (.iload_n 1, 117, 0, 0, 0), (.invokevirtual 296, 118, 151, 2, 0), (.isub, 119, 0, 0, 0), (.aload_n 0, 120, 0, 0, 0), (.iload_n 2, 121, 0, 0, 0), (.invokevirtual 296, 122, 151, 2, 0), (.isub, 123, 0, 0, 0), (.iconst (2), 124, 0, 0, 2), (.idiv, 125, 0, 0, 0), (.ireturn, 126, 0, 0, 0)]
def p_M_amount : List Nat := [0, 1, 2, 5, 8, 9, 10, 13, 16, 18, 19, 20, 23, 24, 25, 28, 29, 32, 33, 34, 37, 39, 40, 41, 42, 45, 46, 47, 49, 50, 51, 53, 55, 57, 58, 59, 60, 63, 64, 65, 66, 69, 71, 72, 73, 75, 77, 79, 80, 81, 82, 85, 86, 87, 88, 91, 92, 93, 96, 98, 99, 100, 103, 105, 106, 107, 108, 111, 113, 114, 115, 118, 120, 121, 122, 125, 126, 129, 130, 133, 135, 136, 137, 140, 142, 143, 144, 146, 149, 150, 153, 155, 156, 157, 160, 162, 163, 164, 166, 169, 170, 173, 174, 175, 178, 181, 184, 187, 188, 191, 193, 194, 195, 198, 200, 202, 203, 204, 207, 208, 209, 210, 213, 214, 215, 216, 217]
def c_M_meets : List PI := [(.aload_n 0, 1, 0, 0, 0), (.iload_n 1, 2, 0, 0, 0), (.invokevirtual 184, 3, 126, 2, 0), (.ifCond .eq (11), 4, 8, 0, 0), (.aload_n 0, 5, 0, 0, 0), (.iload_n 2, 6, 0, 0, 0), (.invokevirtual 184, 7, 126, 2, 0), (.ifCond .ne (6), 8, 10, 0, 0), (.bipush (-2), 9, 0, 0, (-2)), (.ireturn, 10, 0, 0, 0), (.aload_n 0, 11, 0, 0, 0), (.iload_n 1, 12, 0, 0, 0), (.iload_n 2, 13, 0, 0, 0), (.invokevirtual 330, 14, 180, 3, 0), (.ifCond .eq (10), 15, 18, 0, 0), (.aload_n 0, 16, 0, 0, 0), (.getfield 144, 17, 10, 0, 43), (.goto (5), 18, 19, 0, 0), (.bipush (-3), 19, 0, 0, (-3)), (.ireturn, 20, 0, 0, 0)]
def p_M_meets : List Nat := [0, 1, 2, 5, 8, 9, 10, 13, 16, 18, 19, 20, 21, 22, 25, 28, 29, 32, 35, 37, 38]
def c_M_findMeets : List PI := [(.aload_n 0, 1, 0, 0, 0), (.iconst (0), 2, 0, 0, 0), (.putfield 144, 3, 10, 0, 43), (.aload_n 0, 4, 0, 0, 0), (.iload_n 1, 5, 0, 0, 0), (.iload_n 2, 6, 0, 0, 0), (.invokevirtual 315, 7, 181, 3, 0), (.ifCond .eq (12), 8, 13, 0, 0), (.aload_n 0, 9, 0, 0, 0), (.iload_n 2, 10, 0, 0, 0), (.iload_n 1, 11, 0, 0, 0), (.invokevirtual 315, 12, 181, 3, 0), (.ifCond .ne (5), 13, 15, 0, 0), (.iconst (0), 14, 0, 0, 0), (.ireturn, 15, 1, 0, 0), (.aload_n 0, 16, 0, 0, 0), (.iload_n 1, 17, 0, 0, 0), (.invokevirtual 318, 18, 182, 2, 0), (.aload_n 0, 19, 0, 0, 0), (.iload_n 2, 20, 0, 0, 0), (.invokevirtual 267, 21, 162, 2, 0), (.iconst (1), 22, 0, 0, 1), (.istore_n 3, 23, 0, 0, 0), (.iconst (0), 24, 0, 0, 0), (.istore 4, 25, 0, 0, 0), (.iload 4, 26, 0, 0, 0), (.aload_n 0, 27, 0, 0, 0), (.getfield 123, 28, 10, 0, 36), (.if_icmp .ge (193), 29, 128, 0, 0), (.iconst (0), 30, 0, 0, 0), (.istore 5, 31, 0, 0, 0), (.iload 5, 32, 0, 0, 0), (.aload_n 0, 33, 0, 0, 0), (.getfield 68, 34, 10, 0, 18), (.if_icmp .ge (175), 35, 126, 0, 0), (.aload_n 0, 36, 0, 0, 0), (.getfield 132, 37, 10, 2, 39), (.iload 4, 38, 0, 0, 0), (.iaload, 39, 0, 0, 0), (.aload_n 0, 40, 0, 0, 0), (.getfield 80, 41, 10, 2, 22), (.iload 5, 42, 0, 0, 0), (.iaload, 43, 0, 0, 0), (.imul, 44, 0, 0, 0), (.aload_n 0, 45, 0, 0, 0), (.getfield 135, 46, 10, 2, 40), (.iload 4, 47, 0, 0, 0), (.iaload, 48, 0, 0, 0), (.aload_n 0, 49, 0, 0, 0), (.getfield 77, 50, 10, 2, 21), (.iload 5, 51, 0, 0, 0), (.iaload, 52, 0, 0, 0), (.imul, 53, 0, 0, 0), (.isub, 54, 0, 0, 0), (.istore 6, 55, 0, 0, 0), (.iload 6, 56, 0, 0, 0), (.ifCond .ne (47), 57, 79, 0, 0), (.iload_n 3, 58, 0, 0, 0), (.ifCond .eq (38), 59, 76, 0, 0), (.aload_n 0, 60, 0, 0, 0), (.getfield 141, 61, 10, 2, 42), (.iload 4, 62, 0, 0, 0), (.baload, 63, 0, 0, 0), (.ifCond .eq (24), 64, 74, 0, 0), (.aload_n 0, 65, 0, 0, 0), (.iload 5, 66, 0, 0, 0), (.invokevirtual 308, 67, 170, 2, 0), (.iconst (3), 68, 0, 0, 3), (.if_icmp .ne (14), 69, 74, 0, 0), (.aload_n 0, 70, 0, 0, 0), (.iload 4, 71, 0, 0, 0), (.iload 5, 72, 0, 0, 0), (.invokevirtual 321, 73, 183, 3, 0), (.ifCond .ne (7), 74, 76, 0, 0), (.iconst (1), 75, 0, 0, 1), (.goto (4), 76, 77, 0, 0), (.iconst (0), 77, 0, 0, 0), (.istore_n 3, 78, 0, 0, 0), (.goto (87), 79, 124, 0, 0), (.aload_n 0, 80, 0, 0, 0), (.iload 4, 81, 0, 0, 0), (.iload 5, 82, 0, 0, 0), (.invokevirtual 324, 83, 184, 3, 0), (.aload_n 0, 84, 0, 0, 0), (.aload_n 0, 85, 0, 0, 0), (.getfield 126, 86, 10, 2, 37), (.iload 4, 87, 0, 0, 0), (.iaload, 88, 0, 0, 0), (.invokevirtual 215, 89, 147, 2, 0), (.aload_n 0, 90, 0, 0, 0), (.iload_n 1, 91, 0, 0, 0), (.invokevirtual 219, 92, 146, 2, 0), (.lcmp, 93, 0, 0, 0), (.ifCond .ne (59), 94, 124, 0, 0), (.aload_n 0, 95, 0, 0, 0), (.aload_n 0, 96, 0, 0, 0), (.getfield 71, 97, 10, 2, 19), (.iload 5, 98, 0, 0, 0), (.iaload, 99, 0, 0, 0), (.invokevirtual 215, 100, 147, 2, 0), (.aload_n 0, 101, 0, 0, 0), (.iload_n 2, 102, 0, 0, 0), (.invokevirtual 219, 103, 146, 2, 0), (.lcmp, 104, 0, 0, 0), (.ifCond .eq (6), 105, 106, 0, 0), (.goto (36), 106, 124, 0, 0), (.aload_n 0, 107, 0, 0, 0), (.iload 6, 108, 0, 0, 0), (.ifCond .ge (9), 109, 112, 0, 0), (.iload 6, 110, 0, 0, 0), (.ineg, 111, 0, 0, 0), (.goto (5), 112, 113, 0, 0), (.iload 6, 113, 0, 0, 0), (.aload_n 0, 114, 0, 0, 0), (.getfield 138, 115, 10, 2, 41), (.iload 4, 116, 0, 0, 0), (.iaload, 117, 0, 0, 0), (.imul, 118, 0, 0, 0), (.aload_n 0, 119, 0, 0, 0), (.getfield 83, 120, 10, 2, 23), (.iload 5, 121, 0, 0, 0), (.iaload, 122, 0, 0, 0), (.imul, 123, 0, 0, 0), (.invokevirtual 327, 124, 185, 2, 0), (.iinc 5 (1), 125, 0, 0, 1), (.goto (-178), 126, 31, 0, 0), (.iinc 4 (1), 127, 0, 0, 1), (.goto (-196), 128, 25, 0, 0), (.iload_n 3, 129, 0, 0, 0), (.ireturn, 130, 1, 0, 0)]
def p_M_findMeets : List Nat := [0, 1, 2, 5, 6, 7, 8, 11, 14, 15, 16, 17, 20, 23, 24, 25, 26, 27, 30, 31, 32, 35, 36, 37, 38, 40, 42, 43, 46, 49, 50, 52, 54, 55, 58, 61, 62, 65, 67, 68, 69, 72, 74, 75, 76, 77, 80, 82, 83, 84, 87, 89, 90, 91, 92, 94, 96, 99, 100, 103, 104, 107, 109, 110, 113, 114, 116, 119, 120, 123, 124, 126, 128, 131, 134, 135, 138, 139, 140, 143, 144, 146, 148, 151, 152, 153, 156, 158, 159, 162, 163, 164, 167, 168, 171, 172, 173, 176, 178, 179, 182, 183, 184, 187, 188, 191, 194, 195, 197, 200, 202, 203, 206, 208, 209, 212, 214, 215, 216, 217, 220, 222, 223, 224, 227, 230, 233, 236, 239, 240, 241]
def c_M_isClear : List PI := [(.aload_n 0, 1, 0, 0, 0), (.getfield 17, 2, 10, 2, 2), (.iload_n 2, 3, 0, 0, 0), (.iaload, 4, 0, 0, 0), (.ifCond .ne (5), 5, 7, 0, 0), (.iconst (1), 6, 0, 0, 1), (.ireturn, 7, 1, 0, 0), (.aload_n 0, 8, 0, 0, 0), (.iload_n 1, 9, 0, 0, 0), (.invokevirtual 302, 10, 161, 2, 0), (.iconst (1), 11, 0, 0, 1), (.istore_n 3, 12, 0, 0, 0), (.iconst (0), 13, 0, 0, 0), (.istore 4, 14, 0, 0, 0), (.iload 4, 15, 0, 0, 0), (.aload_n 0, 16, 0, 0, 0), (.getfield 114, 17, 10, 0, 33), (.if_icmp .ge (34), 18, 34, 0, 0), (.iload_n 3, 19, 0, 0, 0), (.ifCond .eq (30), 20, 34, 0, 0), (.aload_n 0, 21, 0, 0, 0), (.iload 4, 22, 0, 0, 0), (.invokevirtual 273, 23, 169, 2, 0), (.aload_n 0, 24, 0, 0, 0), (.iload_n 2, 25, 0, 0, 0), (.invokevirtual 238, 26, 149, 2, 0), (.iconst (2), 27, 0, 0, 2), (.if_icmp .ge (7), 28, 30, 0, 0), (.iconst (1), 29, 0, 0, 1), (.goto (4), 30, 31, 0, 0), (.iconst (0), 31, 0, 0, 0), (.istore_n 3, 32, 0, 0, 0), (.iinc 4 (1), 33, 0, 0, 1), (.goto (-37), 34, 14, 0, 0), (.iload_n 3, 35, 0, 0, 0), (.ireturn, 36, 1, 0, 0)]
def p_M_isClear : List Nat := [0, 1, 4, 5, 6, 9, 10, 11, 12, 13, 16, 17, 18, 19, 21, 23, 24, 27, 30, 31, 34, 35, 37, 40, 41, 42, 45, 46, 49, 50, 53, 54, 55, 58, 61, 62, 63]
def c_M_keepEdges : List PI := [(.aload_n 0, 1, 0, 0, 0), (.iload_n 1, 2, 0, 0, 0), (.invokevirtual 267, 3, 162, 2, 0), (.aload_n 0, 4, 0, 0, 0), (.aload_n 0, 5, 0, 0, 0), (.getfield 68, 6, 10, 0, 18), (.putfield 123, 7, 10, 0, 36), (.iconst (0), 8, 0, 0, 0), (.istore_n 2, 9, 0, 0, 0), (.iload_n 2, 10, 0, 0, 0), (.aload_n 0, 11, 0, 0, 0), (.getfield 68, 12, 10, 0, 18), (.if_icmp .ge (89), 13, 67, 0, 0), (.aload_n 0, 14, 0, 0, 0), (.getfield 126, 15, 10, 2, 37), (.iload_n 2, 16, 0, 0, 0), (.aload_n 0, 17, 0, 0, 0), (.getfield 71, 18, 10, 2, 19), (.iload_n 2, 19, 0, 0, 0), (.iaload, 20, 0, 0, 0), (.iastore, 21, 0, 0, 0), (.aload_n 0, 22, 0, 0, 0), (.getfield 129, 23, 10, 2, 38), (.iload_n 2, 24, 0, 0, 0), (.aload_n 0, 25, 0, 0, 0), (.getfield 74, 26, 10, 2, 20), (.iload_n 2, 27, 0, 0, 0), (.iaload, 28, 0, 0, 0), (.iastore, 29, 0, 0, 0), (.aload_n 0, 30, 0, 0, 0), (.getfield 132, 31, 10, 2, 39), (.iload_n 2, 32, 0, 0, 0), (.aload_n 0, 33, 0, 0, 0), (.getfield 77, 34, 10, 2, 21), (.iload_n 2, 35, 0, 0, 0), (.iaload, 36, 0, 0, 0), (.iastore, 37, 0, 0, 0), (.aload_n 0, 38, 0, 0, 0), (.getfield 135, 39, 10, 2, 40), (.iload_n 2, 40, 0, 0, 0), (.aload_n 0, 41, 0, 0, 0), (.getfield 80, 42, 10, 2, 22), (.iload_n 2, 43, 0, 0, 0), (.iaload, 44, 0, 0, 0), (.iastore, 45, 0, 0, 0), (.aload_n 0, 46, 0, 0, 0), (.getfield 138, 47, 10, 2, 41), (.iload_n 2, 48, 0, 0, 0), (.aload_n 0, 49, 0, 0, 0), (.getfield 83, 50, 10, 2, 23), (.iload_n 2, 51, 0, 0, 0), (.iaload, 52, 0, 0, 0), (.iastore, 53, 0, 0, 0), (.aload_n 0, 54, 0, 0, 0), (.getfield 141, 55, 10, 2, 42), (.iload_n 2, 56, 0, 0, 0), (.aload_n 0, 57, 0, 0, 0), (.iload_n 2, 58, 0, 0, 0), (.invokevirtual 308, 59, 170, 2, 0), (.iconst (3), 60, 0, 0, 3), (.if_icmp .ne (7), 61, 63, 0, 0), (.iconst (1), 62, 0, 0, 1), (.goto (4), 63, 64, 0, 0), (.iconst (0), 64, 0, 0, 0), (.bastore, 65, 0, 0, 0), (.iinc 2 (1), 66, 0, 0, 1), (.goto (-91), 67, 9, 0, 0), (.return_, 68, 0, 0, 0)]
def p_M_keepEdges : List Nat := [0, 1, 2, 5, 6, 7, 10, 13, 14, 15, 16, 17, 20, 23, 24, 27, 28, 29, 32, 33, 34, 35, 36, 39, 40, 41, 44, 45, 46, 47, 48, 51, 52, 53, 56, 57, 58, 59, 60, 63, 64, 65, 68, 69, 70, 71, 72, 75, 76, 77, 80, 81, 82, 83, 84, 87, 88, 89, 90, 93, 94, 97, 98, 101, 102, 103, 106, 109, 110]
def c_M_isOneLine : List PI := [(.aload_n 0, 1, 0, 0, 0), (.getfield 20, 2, 10, 2, 3), (.aload_n 0, 3, 0, 0, 0), (.getfield 129, 4, 10, 2, 38), (.iload_n 1, 5, 0, 0, 0), (.iaload, 6, 0, 0, 0), (.iaload, 7, 0, 0, 0), (.aload_n 0, 8, 0, 0, 0), (.getfield 20, 9, 10, 2, 3), (.aload_n 0, 10, 0, 0, 0), (.getfield 126, 11, 10, 2, 37), (.iload_n 1, 12, 0, 0, 0), (.iaload, 13, 0, 0, 0), (.iaload, 14, 0, 0, 0), (.isub, 15, 0, 0, 0), (.i2l, 16, 0, 0, 0), (.lstore_n 3, 17, 0, 0, 0), (.aload_n 0, 18, 0, 0, 0), (.getfield 23, 19, 10, 2, 4), (.aload_n 0, 20, 0, 0, 0), (.getfield 129, 21, 10, 2, 38), (.iload_n 1, 22, 0, 0, 0), (.iaload, 23, 0, 0, 0), (.iaload, 24, 0, 0, 0), (.aload_n 0, 25, 0, 0, 0), (.getfield 23, 26, 10, 2, 4), (.aload_n 0, 27, 0, 0, 0), (.getfield 126, 28, 10, 2, 37), (.iload_n 1, 29, 0, 0, 0), (.iaload, 30, 0, 0, 0), (.iaload, 31, 0, 0, 0), (.isub, 32, 0, 0, 0), (.i2l, 33, 0, 0, 0), (.lstore 5, 34, 0, 0, 0), (.aload_n 0, 35, 0, 0, 0), (.getfield 26, 36, 10, 2, 5), (.aload_n 0, 37, 0, 0, 0), (.getfield 129, 38, 10, 2, 38), (.iload_n 1, 39, 0, 0, 0), (.iaload, 40, 0, 0, 0), (.iaload, 41, 0, 0, 0), (.aload_n 0, 42, 0, 0, 0), (.getfield 26, 43, 10, 2, 5), (.aload_n 0, 44, 0, 0, 0), (.getfield 126, 45, 10, 2, 37), (.iload_n 1, 46, 0, 0, 0), (.iaload, 47, 0, 0, 0), (.iaload, 48, 0, 0, 0), (.isub, 49, 0, 0, 0), (.i2l, 50, 0, 0, 0), (.lstore 7, 51, 0, 0, 0), (.aload_n 0, 52, 0, 0, 0), (.getfield 20, 53, 10, 2, 3), (.aload_n 0, 54, 0, 0, 0), (.getfield 74, 55, 10, 2, 20), (.iload_n 2, 56, 0, 0, 0), (.iaload, 57, 0, 0, 0), (.iaload, 58, 0, 0, 0), (.aload_n 0, 59, 0, 0, 0), (.getfield 20, 60, 10, 2, 3), (.aload_n 0, 61, 0, 0, 0), (.getfield 71, 62, 10, 2, 19), (.iload_n 2, 63, 0, 0, 0), (.iaload, 64, 0, 0, 0), (.iaload, 65, 0, 0, 0), (.isub, 66, 0, 0, 0), (.i2l, 67, 0, 0, 0), (.lstore 9, 68, 0, 0, 0), (.aload_n 0, 69, 0, 0, 0), (.getfield 23, 70, 10, 2, 4), (.aload_n 0, 71, 0, 0, 0), (.getfield 74, 72, 10, 2, 20), (.iload_n 2, 73, 0, 0, 0), (.iaload, 74, 0, 0, 0), (.iaload, 75, 0, 0, 0), (.aload_n 0, 76, 0, 0, 0), (.getfield 23, 77, 10, 2, 4), (.aload_n 0, 78, 0, 0, 0), (.getfield 71, 79, 10, 2, 19), (.iload_n 2, 80, 0, 0, 0), (.iaload, 81, 0, 0, 0), (.iaload, 82, 0, 0, 0), (.isub, 83, 0, 0, 0), (.i2l, 84, 0, 0, 0), (.lstore 11, 85, 0, 0, 0), (.aload_n 0, 86, 0, 0, 0), (.getfield 26, 87, 10, 2, 5), (.aload_n 0, 88, 0, 0, 0), (.getfield 74, 89, 10, 2, 20), (.iload_n 2, 90, 0, 0, 0), (.iaload, 91, 0, 0, 0), (.iaload, 92, 0, 0, 0), (.aload_n 0, 93, 0, 0, 0), (.getfield 26, 94, 10, 2, 5), (.aload_n 0, 95, 0, 0, 0), (.getfield 71, 96, 10, 2, 19), (.iload_n 2, 97, 0, 0, 0), (.iaload, 98, 0, 0, 0), (.iaload, 99, 0, 0, 0), (.isub, 100, 0, 0, 0), (.i2l, 101, 0, 0, 0), (.lstore 13, 102, 0, 0, 0), (.lload_n 3, 103, 0, 0, 0), (.lload 13, 104, 0, 0, 0), (.lmul, 105, 0, 0, 0), (.lload 9, 106, 0, 0, 0), (.lload 7, 107, 0, 0, 0), (.lmul, 108, 0, 0, 0), (.lcmp, 109, 0, 0, 0), (.ifCond .ne (21), 110, 120, 0, 0), (.lload 5, 111, 0, 0, 0), (.lload 13, 112, 0, 0, 0), (.lmul, 113, 0, 0, 0), (.lload 11, 114, 0, 0, 0), (.lload 7, 115, 0, 0, 0), (.lmul, 116, 0, 0, 0), (.lcmp, 117, 0, 0, 0), (.ifCond .ne (7), 118, 120, 0, 0), (.iconst (1), 119, 0, 0, 1), (.goto (4), 120, 121, 0, 0), (.iconst (0), 121, 0, 0, 0), (.ireturn, 122, 1, 0, 0)]
def p_M_isOneLine : List Nat := [0, 1, 4, 5, 8, 9, 10, 11, 12, 15, 16, 19, 20, 21, 22, 23, 24, 25, 26, 29, 30, 33, 34, 35, 36, 37, 40, 41, 44, 45, 46, 47, 48, 49, 51, 52, 55, 56, 59, 60, 61, 62, 63, 66, 67, 70, 71, 72, 73, 74, 75, 77, 78, 81, 82, 85, 86, 87, 88, 89, 92, 93, 96, 97, 98, 99, 100, 101, 103, 104, 107, 108, 111, 112, 113, 114, 115, 118, 119, 122, 123, 124, 125, 126, 127, 129, 130, 133, 134, 137, 138, 139, 140, 141, 144, 145, 148, 149, 150, 151, 152, 153, 155, 156, 158, 159, 161, 163, 164, 165, 168, 170, 172, 173, 175, 177, 178, 179, 182, 183, 186, 187, 188]
def c_M_standAtBoth : List PI := [(.aload_n 0, 1, 0, 0, 0), (.getfield 20, 2, 10, 2, 3), (.aload_n 0, 3, 0, 0, 0), (.getfield 129, 4, 10, 2, 38), (.iload_n 1, 5, 0, 0, 0), (.iaload, 6, 0, 0, 0), (.iaload, 7, 0, 0, 0), (.aload_n 0, 8, 0, 0, 0), (.getfield 20, 9, 10, 2, 3), (.aload_n 0, 10, 0, 0, 0), (.getfield 126, 11, 10, 2, 37), (.iload_n 1, 12, 0, 0, 0), (.iaload, 13, 0, 0, 0), (.iaload, 14, 0, 0, 0), (.isub, 15, 0, 0, 0), (.i2l, 16, 0, 0, 0), (.lstore_n 3, 17, 0, 0, 0), (.aload_n 0, 18, 0, 0, 0), (.getfield 23, 19, 10, 2, 4), (.aload_n 0, 20, 0, 0, 0), (.getfield 129, 21, 10, 2, 38), (.iload_n 1, 22, 0, 0, 0), (.iaload, 23, 0, 0, 0), (.iaload, 24, 0, 0, 0), (.aload_n 0, 25, 0, 0, 0), (.getfield 23, 26, 10, 2, 4), (.aload_n 0, 27, 0, 0, 0), (.getfield 126, 28, 10, 2, 37), (.iload_n 1, 29, 0, 0, 0), (.iaload, 30, 0, 0, 0), (.iaload, 31, 0, 0, 0), (.isub, 32, 0, 0, 0), (.i2l, 33, 0, 0, 0), (.lstore 5, 34, 0, 0, 0), (.aload_n 0, 35, 0, 0, 0), (.getfield 26, 36, 10, 2, 5), (.aload_n 0, 37, 0, 0, 0), (.getfield 129, 38, 10, 2, 38), (.iload_n 1, 39, 0, 0, 0), (.iaload, 40, 0, 0, 0), (.iaload, 41, 0, 0, 0), (.aload_n 0, 42, 0, 0, 0), (.getfield 26, 43, 10, 2, 5), (.aload_n 0, 44, 0, 0, 0), (.getfield 126, 45, 10, 2, 37), (.iload_n 1, 46, 0, 0, 0), (.iaload, 47, 0, 0, 0), (.iaload, 48, 0, 0, 0), (.isub, 49, 0, 0, 0), (.i2l, 50, 0, 0, 0), (.lstore 7, 51, 0, 0, 0), (.aload_n 0, 52, 0, 0, 0), (.getfield 20, 53, 10, 2, 3), (.aload_n 0, 54, 0, 0, 0), (.getfield 74, 55, 10, 2, 20), (.iload_n 2, 56, 0, 0, 0), (.iaload, 57, 0, 0, 0), (.iaload, 58, 0, 0, 0), (.aload_n 0, 59, 0, 0, 0), (.getfield 20, 60, 10, 2, 3), (.aload_n 0, 61, 0, 0, 0), (.getfield 71, 62, 10, 2, 19), (.iload_n 2, 63, 0, 0, 0), (.iaload, 64, 0, 0, 0), (.iaload, 65, 0, 0, 0), (.isub, 66, 0, 0, 0), (.i2l, 67, 0, 0, 0), (.lstore 9, 68, 0, 0, 0), (.aload_n 0, 69, 0, 0, 0), (.getfield 23, 70, 10, 2, 4), (.aload_n 0, 71, 0, 0, 0), (.getfield 74, 72, 10, 2, 20), (.iload_n 2, 73, 0, 0, 0), (.iaload, 74, 0, 0, 0), (.iaload, 75, 0, 0, 0), (.aload_n 0, 76, 0, 0, 0), (.getfield 23, 77, 10, 2, 4), (.aload_n 0, 78, 0, 0, 0), (.getfield 71, 79, 10, 2, 19), (.iload_n 2, 80, 0, 0, 0), (.iaload, 81, 0, 0, 0), (.iaload, 82, 0, 0, 0), (.isub, 83, 0, 0, 0), (.i2l, 84, 0, 0, 0), (.lstore 11, 85, 0, 0, 0), (.aload_n 0, 86, 0, 0, 0), (.getfield 26, 87, 10, 2, 5), (.aload_n 0, 88, 0, 0, 0), (.getfield 74, 89, 10, 2, 20), (.iload_n 2, 90, 0, 0, 0), (.iaload, 91, 0, 0, 0), (.iaload, 92, 0, 0, 0), (.aload_n 0, 93, 0, 0, 0), (.getfield 26, 94, 10, 2, 5), (.aload_n 0, 95, 0, 0, 0), (.getfield 71, 96, 10, 2, 19), (.iload_n 2, 97, 0, 0, 0), (.iaload, 98, 0, 0, 0), (.iaload, 99, 0, 0, 0), (.isub, 100, 0, 0, 0), (.i2l, 101, 0, 0, 0), (.lstore 13, 102, 0, 0, 0), (.lload_n 3, 103, 0, 0, 0), (.lload 11, 104, 0, 0, 0), (.lmul, 105, 0, 0, 0), (.lload 5, 106, 0, 0, 0), (.lload 9, 107, 0, 0, 0), (.lmul, 108, 0, 0, 0), (.lsub, 109, 0, 0, 0), (.lstore 15, 110, 0, 0, 0), (.aload_n 0, 111, 0, 0, 0), (.lload 5, 112, 0, 0, 0), (.lload 13, 113, 0, 0, 0), (.lmul, 114, 0, 0, 0), (.lload 7, 115, 0, 0, 0), (.lload 11, 116, 0, 0, 0), (.lmul, 117, 0, 0, 0), (.lsub, 118, 0, 0, 0), (.lload 15, 119, 0, 0, 0), (.lload 7, 120, 0, 0, 0), (.lload 9, 121, 0, 0, 0), (.lmul, 122, 0, 0, 0), (.lload_n 3, 123, 0, 0, 0), (.lload 13, 124, 0, 0, 0), (.lmul, 125, 0, 0, 0), (.lsub, 126, 0, 0, 0), (.lload 15, 127, 0, 0, 0), (.invokevirtual 234, 128, 143, 5, 0), (.return_, 129, 0, 0, 0)]
def p_M_standAtBoth : List Nat := [0, 1, 4, 5, 8, 9, 10, 11, 12, 15, 16, 19, 20, 21, 22, 23, 24, 25, 26, 29, 30, 33, 34, 35, 36, 37, 40, 41, 44, 45, 46, 47, 48, 49, 51, 52, 55, 56, 59, 60, 61, 62, 63, 66, 67, 70, 71, 72, 73, 74, 75, 77, 78, 81, 82, 85, 86, 87, 88, 89, 92, 93, 96, 97, 98, 99, 100, 101, 103, 104, 107, 108, 111, 112, 113, 114, 115, 118, 119, 122, 123, 124, 125, 126, 127, 129, 130, 133, 134, 137, 138, 139, 140, 141, 144, 145, 148, 149, 150, 151, 152, 153, 155, 156, 158, 159, 161, 163, 164, 165, 167, 168, 170, 172, 173, 175, 177, 178, 179, 181, 183, 185, 186, 187, 189, 190, 191, 193, 196, 197]
def c_M_keepMeet : List PI := [(.aload_n 0, 1, 0, 0, 0), (.getfield 92, 2, 10, 2, 26), (.iconst (0), 3, 0, 0, 0), (.aload_n 0, 4, 0, 0, 0), (.getfield 46, 5, 10, 1, 11), (.lastore, 6, 0, 0, 0), (.aload_n 0, 7, 0, 0, 0), (.getfield 92, 8, 10, 2, 26), (.iconst (1), 9, 0, 0, 1), (.aload_n 0, 10, 0, 0, 0), (.getfield 50, 11, 10, 1, 12), (.lastore, 12, 0, 0, 0), (.aload_n 0, 13, 0, 0, 0), (.getfield 92, 14, 10, 2, 26), (.iconst (2), 15, 0, 0, 2), (.aload_n 0, 16, 0, 0, 0), (.getfield 53, 17, 10, 1, 13), (.lastore, 18, 0, 0, 0), (.aload_n 0, 19, 0, 0, 0), (.getfield 92, 20, 10, 2, 26), (.iconst (3), 21, 0, 0, 3), (.aload_n 0, 22, 0, 0, 0), (.getfield 56, 23, 10, 1, 14), (.lastore, 24, 0, 0, 0), (.iconst (0), 25, 0, 0, 0), (.istore_n 2, 26, 0, 0, 0), (.iload_n 2, 27, 0, 0, 0), (.aload_n 0, 28, 0, 0, 0), (.getfield 144, 29, 10, 0, 43), (.if_icmp .ge (28), 30, 43, 0, 0), (.aload_n 0, 31, 0, 0, 0), (.aload_n 0, 32, 0, 0, 0), (.getfield 92, 33, 10, 2, 26), (.iconst (0), 34, 0, 0, 0), (.aload_n 0, 35, 0, 0, 0), (.getfield 147, 36, 10, 2, 44), (.iconst (4), 37, 0, 0, 4), (.iload_n 2, 38, 0, 0, 0), (.imul, 39, 0, 0, 0), (.invokevirtual 263, 40, 166, 5, 0), (.ifCond .le (9), 41, 43, 0, 0), (.iinc 2 (1), 42, 0, 0, 1), (.goto (-30), 43, 26, 0, 0), (.aload_n 0, 44, 0, 0, 0), (.getfield 144, 45, 10, 0, 43), (.istore_n 3, 46, 0, 0, 0), (.iload_n 3, 47, 0, 0, 0), (.iload_n 2, 48, 0, 0, 0), (.if_icmp .le (62), 49, 86, 0, 0), (.iconst (0), 50, 0, 0, 0), (.istore 4, 51, 0, 0, 0), (.iload 4, 52, 0, 0, 0), (.iconst (4), 53, 0, 0, 4), (.if_icmp .ge (33), 54, 74, 0, 0), (.aload_n 0, 55, 0, 0, 0), (.getfield 147, 56, 10, 2, 44), (.iconst (4), 57, 0, 0, 4), (.iload_n 3, 58, 0, 0, 0), (.imul, 59, 0, 0, 0), (.iload 4, 60, 0, 0, 0), (.iadd, 61, 0, 0, 0), (.aload_n 0, 62, 0, 0, 0), (.getfield 147, 63, 10, 2, 44), (.iconst (4), 64, 0, 0, 4), (.iload_n 3, 65, 0, 0, 0), (.imul, 66, 0, 0, 0), (.iconst (4), 67, 0, 0, 4), (.isub, 68, 0, 0, 0), (.iload 4, 69, 0, 0, 0), (.iadd, 70, 0, 0, 0), (.laload, 71, 0, 0, 0), (.lastore, 72, 0, 0, 0), (.iinc 4 (1), 73, 0, 0, 1), (.goto (-33), 74, 51, 0, 0), (.aload_n 0, 75, 0, 0, 0), (.getfield 150, 76, 10, 2, 45), (.iload_n 3, 77, 0, 0, 0), (.aload_n 0, 78, 0, 0, 0), (.getfield 150, 79, 10, 2, 45), (.iload_n 3, 80, 0, 0, 0), (.iconst (1), 81, 0, 0, 1), (.isub, 82, 0, 0, 0), (.iaload, 83, 0, 0, 0), (.iastore, 84, 0, 0, 0), (.iinc 3 (-1), 85, 0, 0, (-1)), (.goto (-61), 86, 46, 0, 0), (.iconst (0), 87, 0, 0, 0), (.istore_n 3, 88, 0, 0, 0), (.iload_n 3, 89, 0, 0, 0), (.iconst (4), 90, 0, 0, 4), (.if_icmp .ge (25), 91, 105, 0, 0), (.aload_n 0, 92, 0, 0, 0), (.getfield 147, 93, 10, 2, 44), (.iconst (4), 94, 0, 0, 4), (.iload_n 2, 95, 0, 0, 0), (.imul, 96, 0, 0, 0), (.iload_n 3, 97, 0, 0, 0), (.iadd, 98, 0, 0, 0), (.aload_n 0, 99, 0, 0, 0), (.getfield 92, 100, 10, 2, 26), (.iload_n 3, 101, 0, 0, 0), (.laload, 102, 0, 0, 0), (.lastore, 103, 0, 0, 0), (.iinc 3 (1), 104, 0, 0, 1), (.goto (-24), 105, 88, 0, 0), (.aload_n 0, 106, 0, 0, 0), (.getfield 150, 107, 10, 2, 45), (.iload_n 2, 108, 0, 0, 0), (.iload_n 1, 109, 0, 0, 0), (.iastore, 110, 0, 0, 0), (.aload_n 0, 111, 0, 0, 0), (.dup, 112, 0, 0, 0), (.getfield 144, 113, 10, 0, 43), (.iconst (1), 114, 0, 0, 1), (.iadd, 115, 0, 0, 0), (.putfield 144, 116, 10, 0, 43), (.return_, 117, 0, 0, 0)]
def p_M_keepMeet : List Nat := [0, 1, 4, 5, 6, 9, 10, 11, 14, 15, 16, 19, 20, 21, 24, 25, 26, 29, 30, 31, 34, 35, 36, 39, 40, 41, 42, 43, 44, 47, 50, 51, 52, 55, 56, 57, 60, 61, 62, 63, 66, 69, 72, 75, 76, 79, 80, 81, 82, 85, 86, 88, 90, 91, 94, 95, 98, 99, 100, 101, 103, 104, 105, 108, 109, 110, 111, 112, 113, 115, 116, 117, 118, 121, 124, 125, 128, 129, 130, 133, 134, 135, 136, 137, 138, 141, 144, 145, 146, 147, 148, 151, 152, 155, 156, 157, 158, 159, 160, 161, 164, 165, 166, 167, 170, 173, 174, 177, 178, 179, 180, 181, 182, 185, 186, 187, 190, 191]
def c_M_meet : List PI := [(.aload_n 0, 1, 0, 0, 0), (.iload_n 1, 2, 0, 0, 0), (.invokevirtual 184, 3, 126, 2, 0), (.ifCond .eq (43), 4, 25, 0, 0), (.aload_n 0, 5, 0, 0, 0), (.iload_n 2, 6, 0, 0, 0), (.invokevirtual 184, 7, 126, 2, 0), (.ifCond .eq (35), 8, 25, 0, 0), (.iload_n 3, 9, 0, 0, 0), (.ifCond .lt (31), 10, 25, 0, 0), (.aload_n 0, 11, 0, 0, 0), (.iload 4, 12, 0, 0, 0), (.iconst (0), 13, 0, 0, 0), (.iconst (4), 14, 0, 0, 4), (.invokevirtual 180, 15, 127, 4, 0), (.ifCond .eq (20), 16, 25, 0, 0), (.aload_n 0, 17, 0, 0, 0), (.iload_n 1, 18, 0, 0, 0), (.iload_n 2, 19, 0, 0, 0), (.invokevirtual 330, 20, 180, 3, 0), (.ifCond .eq (11), 21, 25, 0, 0), (.iload_n 3, 22, 0, 0, 0), (.aload_n 0, 23, 0, 0, 0), (.getfield 144, 24, 10, 0, 43), (.if_icmp .lt (7), 25, 27, 0, 0), (.ldc2_w 232, 26, 0, 0, (-4611686018427387904)), (.lreturn, 27, 0, 0, 0), (.iload 4, 28, 0, 0, 0), (.iconst (4), 29, 0, 0, 4), (.if_icmp .ne (13), 30, 36, 0, 0), (.aload_n 0, 31, 0, 0, 0), (.getfield 150, 32, 10, 2, 45), (.iload_n 3, 33, 0, 0, 0), (.iaload, 34, 0, 0, 0), (.i2l, 35, 0, 0, 0), (.goto (14), 36, 44, 0, 0), (.aload_n 0, 37, 0, 0, 0), (.getfield 147, 38, 10, 2, 44), (.iconst (4), 39, 0, 0, 4), (.iload_n 3, 40, 0, 0, 0), (.imul, 41, 0, 0, 0), (.iload 4, 42, 0, 0, 0), (.iadd, 43, 0, 0, 0), (.laload, 44, 0, 0, 0), (.lreturn, 45, 0, 0, 0)]
def p_M_meet : List Nat := [0, 1, 2, 5, 8, 9, 10, 13, 16, 17, 20, 21, 23, 24, 25, 28, 31, 32, 33, 34, 37, 40, 41, 42, 45, 48, 51, 52, 54, 55, 58, 59, 62, 63, 64, 65, 68, 69, 72, 73, 74, 75, 77, 78, 79, 80]
def c_M_root : List PI := [(.aload_n 0, 1, 0, 0, 0), (.iload_n 1, 2, 0, 0, 0), (.invokevirtual 184, 3, 126, 2, 0), (.ifCond .eq (17), 4, 12, 0, 0), (.iload_n 2, 5, 0, 0, 0), (.ifCond .lt (13), 6, 12, 0, 0), (.aload_n 0, 7, 0, 0, 0), (.iload_n 3, 8, 0, 0, 0), (.iconst (0), 9, 0, 0, 0), (.iconst (2), 10, 0, 0, 2), (.invokevirtual 180, 11, 127, 4, 0), (.ifCond .ne (7), 12, 14, 0, 0), (.ldc2_w 232, 13, 0, 0, (-4611686018427387904)), (.lreturn, 14, 0, 0, 0), (.bipush (40), 15, 0, 0, 40), (.iload_n 1, 16, 0, 0, 0), (.imul, 17, 0, 0, 0), (.istore 4, 18, 0, 0, 0), (.iload 4, 19, 0, 0, 0), (.bipush (40), 20, 0, 0, 40), (.iload_n 1, 21, 0, 0, 0), (.imul, 22, 0, 0, 0), (.aload_n 0, 23, 0, 0, 0), (.getfield 17, 24, 10, 2, 2), (.iload_n 1, 25, 0, 0, 0), (.iaload, 26, 0, 0, 0), (.iadd, 27, 0, 0, 0), (.if_icmp .ge (23), 28, 37, 0, 0), (.aload_n 0, 29, 0, 0, 0), (.getfield 23, 30, 10, 2, 4), (.iload 4, 31, 0, 0, 0), (.iaload, 32, 0, 0, 0), (.ifCond .eq (7), 33, 35, 0, 0), (.ldc2_w 232, 34, 0, 0, (-4611686018427387904)), (.lreturn, 35, 0, 0, 0), (.iinc 4 (1), 36, 0, 0, 1), (.goto (-33), 37, 18, 0, 0), (.aload_n 0, 38, 0, 0, 0), (.iload_n 1, 39, 0, 0, 0), (.invokevirtual 267, 40, 162, 2, 0), (.iload_n 2, 41, 0, 0, 0), (.aload_n 0, 42, 0, 0, 0), (.getfield 68, 43, 10, 0, 18), (.if_icmp .lt (7), 44, 46, 0, 0), (.ldc2_w 232, 45, 0, 0, (-4611686018427387904)), (.lreturn, 46, 0, 0, 0), (.aload_n 0, 47, 0, 0, 0), (.getfield 68, 48, 10, 0, 18), (.iconst (1), 49, 0, 0, 1), (.isub, 50, 0, 0, 0), (.iload_n 2, 51, 0, 0, 0), (.isub, 52, 0, 0, 0), (.istore 4, 53, 0, 0, 0), (.aload_n 0, 54, 0, 0, 0), (.getfield 26, 55, 10, 2, 5), (.aload_n 0, 56, 0, 0, 0), (.getfield 71, 57, 10, 2, 19), (.iload 4, 58, 0, 0, 0), (.iaload, 59, 0, 0, 0), (.iaload, 60, 0, 0, 0), (.aload_n 0, 61, 0, 0, 0), (.getfield 26, 62, 10, 2, 5), (.aload_n 0, 63, 0, 0, 0), (.getfield 74, 64, 10, 2, 20), (.iload 4, 65, 0, 0, 0), (.iaload, 66, 0, 0, 0), (.iaload, 67, 0, 0, 0), (.isub, 68, 0, 0, 0), (.i2l, 69, 0, 0, 0), (.lstore 5, 70, 0, 0, 0), (.aload_n 0, 71, 0, 0, 0), (.getfield 20, 72, 10, 2, 3), (.aload_n 0, 73, 0, 0, 0), (.getfield 74, 74, 10, 2, 20), (.iload 4, 75, 0, 0, 0), (.iaload, 76, 0, 0, 0), (.iaload, 77, 0, 0, 0), (.aload_n 0, 78, 0, 0, 0), (.getfield 20, 79, 10, 2, 3), (.aload_n 0, 80, 0, 0, 0), (.getfield 71, 81, 10, 2, 19), (.iload 4, 82, 0, 0, 0), (.iaload, 83, 0, 0, 0), (.iaload, 84, 0, 0, 0), (.isub, 85, 0, 0, 0), (.i2l, 86, 0, 0, 0), (.lstore 7, 87, 0, 0, 0), (.iload_n 3, 88, 0, 0, 0), (.iconst (2), 89, 0, 0, 2), (.if_icmp .ne (14), 90, 96, 0, 0), (.aload_n 0, 91, 0, 0, 0), (.getfield 83, 92, 10, 2, 23), (.iload 4, 93, 0, 0, 0), (.iaload, 94, 0, 0, 0), (.i2l, 95, 0, 0, 0), (.goto (12), 96, 101, 0, 0), (.aload_n 0, 97, 0, 0, 0), (.lload 5, 98, 0, 0, 0), (.lload 7, 99, 0, 0, 0), (.iload_n 3, 100, 0, 0, 0), (.invokevirtual 222, 101, 144, 4, 0), (.lreturn, 102, 0, 0, 0)]
def p_M_root : List Nat := [0, 1, 2, 5, 8, 9, 12, 13, 14, 15, 16, 19, 22, 25, 26, 28, 29, 30, 32, 34, 36, 37, 38, 39, 42, 43, 44, 45, 48, 49, 52, 54, 55, 58, 61, 62, 65, 68, 69, 70, 73, 74, 75, 78, 81, 84, 85, 86, 89, 90, 91, 92, 93, 95, 96, 99, 100, 103, 105, 106, 107, 108, 111, 112, 115, 117, 118, 119, 120, 121, 123, 124, 127, 128, 131, 133, 134, 135, 136, 139, 140, 143, 145, 146, 147, 148, 149, 151, 152, 153, 156, 157, 160, 162, 163, 164, 167, 168, 170, 172, 173, 176, 177]
def c_M_write : List PI := [(.aload_n 0, 1, 0, 0, 0), (.iload_n 1, 2, 0, 0, 0), (.invokevirtual 184, 3, 126, 2, 0), (.ifCond .ne (6), 4, 6, 0, 0), (.bipush (-2), 5, 0, 0, (-2)), (.ireturn, 6, 0, 0, 0), (.aload_n 0, 7, 0, 0, 0), (.aload_n 0, 8, 0, 0, 0), (.iload_n 1, 9, 0, 0, 0), (.invokevirtual 333, 10, 189, 2, 0), (.putfield 159, 11, 10, 0, 48), (.iconst (0), 12, 0, 0, 0), (.istore_n 2, 13, 0, 0, 0), (.iload_n 2, 14, 0, 0, 0), (.aload_n 0, 15, 0, 0, 0), (.getfield 159, 16, 10, 0, 48), (.if_icmp .ge (21), 17, 27, 0, 0), (.aload_n 0, 18, 0, 0, 0), (.getfield 153, 19, 10, 2, 46), (.iload_n 2, 20, 0, 0, 0), (.aload_n 0, 21, 0, 0, 0), (.getfield 156, 22, 10, 2, 47), (.iload_n 2, 23, 0, 0, 0), (.laload, 24, 0, 0, 0), (.lastore, 25, 0, 0, 0), (.iinc 2 (1), 26, 0, 0, 1), (.goto (-23), 27, 13, 0, 0), (.aload_n 0, 28, 0, 0, 0), (.getfield 159, 29, 10, 0, 48), (.ireturn, 30, 0, 0, 0)]
def p_M_write : List Nat := [0, 1, 2, 5, 8, 10, 11, 12, 13, 14, 17, 20, 21, 22, 23, 24, 27, 30, 31, 34, 35, 36, 39, 40, 41, 42, 45, 48, 49, 52, 53]
def c_M_prove : List PI := [(.aload_n 0, 1, 0, 0, 0), (.iload_n 1, 2, 0, 0, 0), (.invokevirtual 302, 3, 161, 2, 0), (.iconst (0), 4, 0, 0, 0), (.istore_n 2, 5, 0, 0, 0), (.iconst (0), 6, 0, 0, 0), (.istore_n 3, 7, 0, 0, 0), (.iload_n 3, 8, 0, 0, 0), (.aload_n 0, 9, 0, 0, 0), (.getfield 68, 10, 10, 0, 18), (.if_icmp .ge (69), 11, 55, 0, 0), (.aload_n 0, 12, 0, 0, 0), (.getfield 156, 13, 10, 2, 47), (.iload_n 2, 14, 0, 0, 0), (.aload_n 0, 15, 0, 0, 0), (.getfield 77, 16, 10, 2, 21), (.iload_n 3, 17, 0, 0, 0), (.iaload, 18, 0, 0, 0), (.i2l, 19, 0, 0, 0), (.lastore, 20, 0, 0, 0), (.aload_n 0, 21, 0, 0, 0), (.getfield 156, 22, 10, 2, 47), (.iload_n 2, 23, 0, 0, 0), (.iconst (1), 24, 0, 0, 1), (.iadd, 25, 0, 0, 0), (.aload_n 0, 26, 0, 0, 0), (.getfield 80, 27, 10, 2, 22), (.iload_n 3, 28, 0, 0, 0), (.iaload, 29, 0, 0, 0), (.i2l, 30, 0, 0, 0), (.lastore, 31, 0, 0, 0), (.aload_n 0, 32, 0, 0, 0), (.getfield 156, 33, 10, 2, 47), (.iload_n 2, 34, 0, 0, 0), (.iconst (2), 35, 0, 0, 2), (.iadd, 36, 0, 0, 0), (.aload_n 0, 37, 0, 0, 0), (.getfield 83, 38, 10, 2, 23), (.iload_n 3, 39, 0, 0, 0), (.iaload, 40, 0, 0, 0), (.i2l, 41, 0, 0, 0), (.lastore, 42, 0, 0, 0), (.aload_n 0, 43, 0, 0, 0), (.getfield 156, 44, 10, 2, 47), (.iload_n 2, 45, 0, 0, 0), (.iconst (3), 46, 0, 0, 3), (.iadd, 47, 0, 0, 0), (.aload_n 0, 48, 0, 0, 0), (.iload_n 3, 49, 0, 0, 0), (.invokevirtual 308, 50, 170, 2, 0), (.i2l, 51, 0, 0, 0), (.lastore, 52, 0, 0, 0), (.iinc 2 (4), 53, 0, 0, 4), (.iinc 3 (1), 54, 0, 0, 1), (.goto (-71), 55, 7, 0, 0), (.iconst (0), 56, 0, 0, 0), (.istore_n 3, 57, 0, 0, 0), (.iload_n 3, 58, 0, 0, 0), (.iconst (4), 59, 0, 0, 4), (.aload_n 0, 60, 0, 0, 0), (.getfield 114, 61, 10, 0, 33), (.imul, 62, 0, 0, 0), (.if_icmp .ge (24), 63, 74, 0, 0), (.aload_n 0, 64, 0, 0, 0), (.getfield 156, 65, 10, 2, 47), (.iload_n 2, 66, 0, 0, 0), (.aload_n 0, 67, 0, 0, 0), (.getfield 117, 68, 10, 2, 34), (.iload_n 3, 69, 0, 0, 0), (.laload, 70, 0, 0, 0), (.lastore, 71, 0, 0, 0), (.iinc 2 (1), 72, 0, 0, 1), (.iinc 3 (1), 73, 0, 0, 1), (.goto (-28), 74, 57, 0, 0), (.iload_n 2, 75, 0, 0, 0), (.ireturn, 76, 0, 0, 0)]
def p_M_prove : List Nat := [0, 1, 2, 5, 6, 7, 8, 9, 10, 11, 14, 17, 18, 21, 22, 23, 26, 27, 28, 29, 30, 31, 34, 35, 36, 37, 38, 41, 42, 43, 44, 45, 46, 49, 50, 51, 52, 53, 56, 57, 58, 59, 60, 61, 64, 65, 66, 67, 68, 69, 72, 73, 74, 77, 80, 83, 84, 85, 86, 87, 88, 91, 92, 95, 96, 99, 100, 101, 104, 105, 106, 107, 110, 113, 116, 117, 118]
def c_M_row : List PI := [(.aload_n 0, 1, 0, 0, 0), (.iload_n 1, 2, 0, 0, 0), (.iconst (0), 3, 0, 0, 0), (.aload_n 0, 4, 0, 0, 0), (.getfield 159, 5, 10, 0, 48), (.iconst (1), 6, 0, 0, 1), (.isub, 7, 0, 0, 0), (.invokevirtual 180, 8, 127, 4, 0), (.ifCond .eq (12), 9, 14, 0, 0), (.aload_n 0, 10, 0, 0, 0), (.getfield 153, 11, 10, 2, 46), (.iload_n 1, 12, 0, 0, 0), (.laload, 13, 0, 0, 0), (.goto (6), 14, 15, 0, 0), (.ldc2_w 232, 15, 0, 0, (-4611686018427387904)), (.lreturn, 16, 0, 0, 0)]
def p_M_row : List Nat := [0, 1, 2, 3, 4, 7, 8, 9, 12, 15, 16, 19, 20, 21, 24, 27, 28]
def c_M_forge : List PI := [(.aload_n 0, 1, 0, 0, 0), (.iload_n 1, 2, 0, 0, 0), (.iconst (0), 3, 0, 0, 0), (.aload_n 0, 4, 0, 0, 0), (.getfield 159, 5, 10, 0, 48), (.iconst (1), 6, 0, 0, 1), (.isub, 7, 0, 0, 0), (.invokevirtual 180, 8, 127, 4, 0), (.ifCond .ne (6), 9, 11, 0, 0), (.bipush (-2), 10, 0, 0, (-2)), (.ireturn, 11, 0, 0, 0), (.aload_n 0, 12, 0, 0, 0), (.getfield 153, 13, 10, 2, 46), (.iload_n 1, 14, 0, 0, 0), (.lload_n 2, 15, 0, 0, 0), (.lastore, 16, 0, 0, 0), (.iconst (1), 17, 0, 0, 1), (.ireturn, 18, 0, 0, 0)]
def p_M_forge : List Nat := [0, 1, 2, 3, 4, 7, 8, 9, 12, 15, 17, 18, 19, 22, 23, 24, 25, 26, 27]
def c_M_check : List PI := [(.aload_n 0, 1, 0, 0, 0), (.iload_n 1, 2, 0, 0, 0), (.invokevirtual 184, 3, 126, 2, 0), (.ifCond .ne (6), 4, 6, 0, 0), (.bipush (-2), 5, 0, 0, (-2)), (.ireturn, 6, 0, 0, 0), (.aload_n 0, 7, 0, 0, 0), (.iload_n 1, 8, 0, 0, 0), (.invokevirtual 333, 9, 189, 2, 0), (.istore_n 2, 10, 0, 0, 0), (.iconst (0), 11, 0, 0, 0), (.istore_n 3, 12, 0, 0, 0), (.iload_n 3, 13, 0, 0, 0), (.iload_n 2, 14, 0, 0, 0), (.if_icmp .lt (11), 15, 19, 0, 0), (.iload_n 3, 16, 0, 0, 0), (.aload_n 0, 17, 0, 0, 0), (.getfield 159, 18, 10, 0, 48), (.if_icmp .ge (40), 19, 40, 0, 0), (.iload_n 3, 20, 0, 0, 0), (.iload_n 2, 21, 0, 0, 0), (.if_icmp .ge (27), 22, 36, 0, 0), (.iload_n 3, 23, 0, 0, 0), (.aload_n 0, 24, 0, 0, 0), (.getfield 159, 25, 10, 0, 48), (.if_icmp .ge (19), 26, 36, 0, 0), (.aload_n 0, 27, 0, 0, 0), (.getfield 153, 28, 10, 2, 46), (.iload_n 3, 29, 0, 0, 0), (.laload, 30, 0, 0, 0), (.aload_n 0, 31, 0, 0, 0), (.getfield 156, 32, 10, 2, 47), (.iload_n 3, 33, 0, 0, 0), (.laload, 34, 0, 0, 0), (.lcmp, 35, 0, 0, 0), (.ifCond .eq (5), 36, 38, 0, 0), (.iload_n 3, 37, 0, 0, 0), (.ireturn, 38, 0, 0, 0), (.iinc 3 (1), 39, 0, 0, 1), (.goto (-47), 40, 12, 0, 0), (.iconst (-1), 41, 0, 0, (-1)), (.ireturn, 42, 0, 0, 0)]
def p_M_check : List Nat := [0, 1, 2, 5, 8, 10, 11, 12, 13, 16, 17, 18, 19, 20, 21, 24, 25, 26, 29, 32, 33, 34, 37, 38, 39, 42, 45, 46, 49, 50, 51, 52, 55, 56, 57, 58, 61, 62, 63, 66, 69, 70, 71]
def c_M_act : List PI := [(.aload_n 0, 1, 0, 0, 0), (.iconst (0), 2, 0, 0, 0), (.putfield 165, 3, 10, 0, 50), (.aload_n 0, 4, 0, 0, 0), (.iload_n 1, 5, 0, 0, 0), (.invokevirtual 184, 6, 126, 2, 0), (.ifCond .eq (13), 7, 13, 0, 0), (.aload_n 0, 8, 0, 0, 0), (.iload_n 2, 9, 0, 0, 0), (.iconst (0), 10, 0, 0, 0), (.iconst (2), 11, 0, 0, 2), (.invokevirtual 180, 12, 127, 4, 0), (.ifCond .ne (5), 13, 15, 0, 0), (.iconst (0), 14, 0, 0, 0), (.ireturn, 15, 0, 0, 0), (.iload_n 2, 16, 0, 0, 0), (.ifCond .ne (12), 17, 22, 0, 0), (.aload_n 0, 18, 0, 0, 0), (.iload_n 1, 19, 0, 0, 0), (.iload_n 3, 20, 0, 0, 0), (.invokevirtual 345, 21, 194, 3, 0), (.goto (23), 22, 34, 0, 0), (.iload_n 2, 23, 0, 0, 0), (.iconst (1), 24, 0, 0, 1), (.if_icmp .ne (12), 25, 30, 0, 0), (.aload_n 0, 26, 0, 0, 0), (.iload_n 1, 27, 0, 0, 0), (.iload_n 3, 28, 0, 0, 0), (.invokevirtual 351, 29, 198, 3, 0), (.goto (9), 30, 34, 0, 0), (.aload_n 0, 31, 0, 0, 0), (.iload_n 1, 32, 0, 0, 0), (.iload_n 3, 33, 0, 0, 0), (.invokevirtual 357, 34, 200, 3, 0), (.ireturn, 35, 0, 0, 0)]
def p_M_act : List Nat := [0, 1, 2, 5, 6, 7, 10, 13, 14, 15, 16, 17, 20, 23, 24, 25, 26, 29, 30, 31, 32, 35, 38, 39, 40, 43, 44, 45, 46, 49, 52, 53, 54, 55, 58, 59]
def c_M_liesOf : List PI := [(.aload_n 0, 1, 0, 0, 0), (.getfield 13, 2, 10, 2, 1), (.iload_n 1, 3, 0, 0, 0), (.iaload, 4, 0, 0, 0), (.iconst (1), 5, 0, 0, 1), (.if_icmp .ne (10), 6, 11, 0, 0), (.aload_n 0, 7, 0, 0, 0), (.iload_n 1, 8, 0, 0, 0), (.iload_n 2, 9, 0, 0, 0), (.invokevirtual 342, 10, 195, 3, 0), (.ireturn, 11, 0, 0, 0), (.aload_n 0, 12, 0, 0, 0), (.getfield 13, 13, 10, 2, 1), (.iload_n 1, 14, 0, 0, 0), (.iaload, 15, 0, 0, 0), (.iconst (2), 16, 0, 0, 2), (.if_icmp .eq (10), 17, 22, 0, 0), (.aload_n 0, 18, 0, 0, 0), (.iload_n 1, 19, 0, 0, 0), (.iload_n 2, 20, 0, 0, 0), (.invokevirtual 339, 21, 197, 3, 0), (.ireturn, 22, 0, 0, 0), (.aload_n 0, 23, 0, 0, 0), (.bipush (31), 24, 0, 0, 31), (.invokevirtual 336, 25, 196, 2, 0), (.aload_n 0, 26, 0, 0, 0), (.iload_n 1, 27, 0, 0, 0), (.iload_n 2, 28, 0, 0, 0), (.invokevirtual 342, 29, 195, 3, 0), (.iconst (2), 30, 0, 0, 2), (.imul, 31, 0, 0, 0), (.ireturn, 32, 0, 0, 0)]
def p_M_liesOf : List Nat := [0, 1, 4, 5, 6, 7, 10, 11, 12, 13, 16, 17, 18, 21, 22, 23, 24, 27, 28, 29, 30, 33, 34, 35, 37, 40, 41, 42, 43, 46, 47, 48, 49]
def c_M_sumLies : List PI := [(.aload_n 0, 1, 0, 0, 0), (.bipush (20), 2, 0, 0, 20), (.invokevirtual 336, 3, 196, 2, 0), (.aload_n 0, 4, 0, 0, 0), (.iload_n 1, 5, 0, 0, 0), (.iload_n 2, 6, 0, 0, 0), (.invokevirtual 339, 7, 197, 3, 0), (.bipush (7), 8, 0, 0, 7), (.ixor, 9, 0, 0, 0), (.ireturn, 10, 0, 0, 0)]
def p_M_sumLies : List Nat := [0, 1, 3, 6, 7, 8, 9, 12, 14, 15, 16]
def c_M_body : List PI := [(.aload_n 0, 1, 0, 0, 0), (.getfield 165, 2, 10, 0, 50), (.bipush (40), 3, 0, 0, 40), (.if_icmp .ge (13), 4, 10, 0, 0), (.aload_n 0, 5, 0, 0, 0), (.getfield 162, 6, 10, 2, 49), (.aload_n 0, 7, 0, 0, 0), (.getfield 165, 8, 10, 0, 50), (.iload_n 1, 9, 0, 0, 0), (.iastore, 10, 0, 0, 0), (.aload_n 0, 11, 0, 0, 0), (.dup, 12, 0, 0, 0), (.getfield 165, 13, 10, 0, 50), (.iconst (1), 14, 0, 0, 1), (.iadd, 15, 0, 0, 0), (.putfield 165, 16, 10, 0, 50), (.return_, 17, 0, 0, 0)]
def p_M_body : List Nat := [0, 1, 4, 6, 9, 10, 13, 14, 17, 18, 19, 20, 21, 24, 25, 26, 29, 30]
def c_M_formLies : List PI := [(.aload_n 0, 1, 0, 0, 0), (.bipush (10), 2, 0, 0, 10), (.invokevirtual 336, 3, 196, 2, 0), (.iload_n 2, 4, 0, 0, 0), (.aload_n 0, 5, 0, 0, 0), (.getfield 17, 6, 10, 2, 2), (.iload_n 1, 7, 0, 0, 0), (.iaload, 8, 0, 0, 0), (.iadd, 9, 0, 0, 0), (.ireturn, 10, 0, 0, 0)]
def p_M_formLies : List Nat := [0, 1, 3, 6, 7, 8, 11, 12, 13, 14, 15]
def c_M_weighsOf : List PI := [(.aload_n 0, 1, 0, 0, 0), (.getfield 13, 2, 10, 2, 1), (.iload_n 1, 3, 0, 0, 0), (.iaload, 4, 0, 0, 0), (.iconst (2), 5, 0, 0, 2), (.if_icmp .eq (10), 6, 11, 0, 0), (.aload_n 0, 7, 0, 0, 0), (.iload_n 1, 8, 0, 0, 0), (.iload_n 2, 9, 0, 0, 0), (.invokevirtual 348, 10, 199, 3, 0), (.ireturn, 11, 0, 0, 0), (.aload_n 0, 12, 0, 0, 0), (.bipush (30), 13, 0, 0, 30), (.invokevirtual 336, 14, 196, 2, 0), (.aload_n 0, 15, 0, 0, 0), (.iload_n 1, 16, 0, 0, 0), (.iload_n 2, 17, 0, 0, 0), (.iconst (1), 18, 0, 0, 1), (.isub, 19, 0, 0, 0), (.invokevirtual 348, 20, 199, 3, 0), (.ireturn, 21, 0, 0, 0)]
def p_M_weighsOf : List Nat := [0, 1, 4, 5, 6, 7, 10, 11, 12, 13, 16, 17, 18, 20, 23, 24, 25, 26, 27, 28, 31, 32]
def c_M_formWeighs : List PI := [(.aload_n 0, 1, 0, 0, 0), (.bipush (11), 2, 0, 0, 11), (.invokevirtual 336, 3, 196, 2, 0), (.aload_n 0, 4, 0, 0, 0), (.iload_n 1, 5, 0, 0, 0), (.iload_n 2, 6, 0, 0, 0), (.invokevirtual 345, 7, 194, 3, 0), (.iconst (3), 8, 0, 0, 3), (.imul, 9, 0, 0, 0), (.ireturn, 10, 0, 0, 0)]
def p_M_formWeighs : List Nat := [0, 1, 3, 6, 7, 8, 9, 12, 13, 14, 15]
def c_M_meetsOf : List PI := [(.iconst (0), 1, 0, 0, 0), (.istore_n 3, 2, 0, 0, 0), (.aload_n 0, 3, 0, 0, 0), (.getfield 13, 4, 10, 2, 1), (.iload_n 1, 5, 0, 0, 0), (.iaload, 6, 0, 0, 0), (.iconst (1), 7, 0, 0, 1), (.if_icmp .eq (13), 8, 14, 0, 0), (.aload_n 0, 9, 0, 0, 0), (.getfield 13, 10, 10, 2, 1), (.iload_n 1, 11, 0, 0, 0), (.iaload, 12, 0, 0, 0), (.iconst (2), 13, 0, 0, 2), (.if_icmp .ne (25), 14, 29, 0, 0), (.aload_n 0, 15, 0, 0, 0), (.bipush (21), 16, 0, 0, 21), (.invokevirtual 336, 17, 196, 2, 0), (.aload_n 0, 18, 0, 0, 0), (.iload_n 1, 19, 0, 0, 0), (.iload_n 2, 20, 0, 0, 0), (.invokevirtual 354, 21, 201, 3, 0), (.istore_n 3, 22, 0, 0, 0), (.iload_n 3, 23, 0, 0, 0), (.aload_n 0, 24, 0, 0, 0), (.iload_n 1, 25, 0, 0, 0), (.iconst (0), 26, 0, 0, 0), (.invokevirtual 345, 27, 194, 3, 0), (.iadd, 28, 0, 0, 0), (.ireturn, 29, 0, 0, 0), (.aload_n 0, 30, 0, 0, 0), (.getfield 13, 31, 10, 2, 1), (.iload_n 1, 32, 0, 0, 0), (.iaload, 33, 0, 0, 0), (.iconst (3), 34, 0, 0, 3), (.if_icmp .eq (10), 35, 40, 0, 0), (.aload_n 0, 36, 0, 0, 0), (.iload_n 1, 37, 0, 0, 0), (.iload_n 2, 38, 0, 0, 0), (.invokevirtual 354, 39, 201, 3, 0), (.ireturn, 40, 0, 0, 0), (.aload_n 0, 41, 0, 0, 0), (.bipush (40), 42, 0, 0, 40), (.invokevirtual 336, 43, 196, 2, 0), (.aload_n 0, 44, 0, 0, 0), (.iload_n 1, 45, 0, 0, 0), (.iload_n 2, 46, 0, 0, 0), (.invokevirtual 354, 47, 201, 3, 0), (.istore_n 3, 48, 0, 0, 0), (.iload_n 3, 49, 0, 0, 0), (.aload_n 0, 50, 0, 0, 0), (.iload_n 1, 51, 0, 0, 0), (.iload_n 2, 52, 0, 0, 0), (.invokevirtual 351, 53, 198, 3, 0), (.ixor, 54, 0, 0, 0), (.ireturn, 55, 0, 0, 0)]
def p_M_meetsOf : List Nat := [0, 1, 2, 3, 6, 7, 8, 9, 12, 13, 16, 17, 18, 19, 22, 23, 25, 28, 29, 30, 31, 34, 35, 36, 37, 38, 39, 42, 43, 44, 45, 48, 49, 50, 51, 54, 55, 56, 57, 60, 61, 62, 64, 67, 68, 69, 70, 73, 74, 75, 76, 77, 78, 81, 82, 83]
def c_M_formMeets : List PI := [(.aload_n 0, 1, 0, 0, 0), (.bipush (12), 2, 0, 0, 12), (.invokevirtual 336, 3, 196, 2, 0), (.aload_n 0, 4, 0, 0, 0), (.iload_n 1, 5, 0, 0, 0), (.iload_n 2, 6, 0, 0, 0), (.invokevirtual 351, 7, 198, 3, 0), (.istore_n 3, 8, 0, 0, 0), (.iload_n 3, 9, 0, 0, 0), (.aload_n 0, 10, 0, 0, 0), (.iload_n 1, 11, 0, 0, 0), (.iload_n 2, 12, 0, 0, 0), (.iload_n 1, 13, 0, 0, 0), (.iadd, 14, 0, 0, 0), (.invokevirtual 345, 15, 194, 3, 0), (.isub, 16, 0, 0, 0), (.ireturn, 17, 0, 0, 0)]
def p_M_formMeets : List Nat := [0, 1, 3, 6, 7, 8, 9, 12, 13, 14, 15, 16, 17, 18, 19, 22, 23, 24]
def c_M_trace : List PI := [(.iload_n 1, 1, 0, 0, 0), (.ifCond .lt (26), 2, 14, 0, 0), (.iload_n 1, 3, 0, 0, 0), (.aload_n 0, 4, 0, 0, 0), (.getfield 165, 5, 10, 0, 50), (.if_icmp .ge (18), 6, 14, 0, 0), (.iload_n 1, 7, 0, 0, 0), (.bipush (40), 8, 0, 0, 40), (.if_icmp .ge (12), 9, 14, 0, 0), (.aload_n 0, 10, 0, 0, 0), (.getfield 162, 11, 10, 2, 49), (.iload_n 1, 12, 0, 0, 0), (.iaload, 13, 0, 0, 0), (.goto (4), 14, 15, 0, 0), (.iconst (-1), 15, 0, 0, (-1)), (.ireturn, 16, 0, 0, 0)]
def p_M_trace : List Nat := [0, 1, 4, 5, 6, 9, 12, 13, 15, 18, 19, 22, 23, 24, 27, 28, 29]
def c_M_count : List PI := [(.iload_n 1, 1, 0, 0, 0), (.ifCond .ne (10), 2, 5, 0, 0), (.aload_n 0, 3, 0, 0, 0), (.getfield 7, 4, 10, 0, 0), (.goto (29), 5, 18, 0, 0), (.iload_n 1, 6, 0, 0, 0), (.iconst (1), 7, 0, 0, 1), (.if_icmp .ne (10), 8, 11, 0, 0), (.aload_n 0, 9, 0, 0, 0), (.getfield 159, 10, 10, 0, 48), (.goto (17), 11, 18, 0, 0), (.iload_n 1, 12, 0, 0, 0), (.iconst (2), 13, 0, 0, 2), (.if_icmp .ne (10), 14, 17, 0, 0), (.aload_n 0, 15, 0, 0, 0), (.getfield 165, 16, 10, 0, 50), (.goto (5), 17, 18, 0, 0), (.bipush (-2), 18, 0, 0, (-2)), (.ireturn, 19, 0, 0, 0)]
def p_M_count : List Nat := [0, 1, 4, 5, 8, 11, 12, 13, 16, 17, 20, 23, 24, 25, 28, 29, 32, 35, 37, 38]
def c_M_sheet : List PI := [(.aload_n 0, 1, 0, 0, 0), (.iload_n 1, 2, 0, 0, 0), (.iconst (0), 3, 0, 0, 0), (.iconst (3), 4, 0, 0, 3), (.invokevirtual 180, 5, 127, 4, 0), (.ifCond .eq (23), 6, 17, 0, 0), (.aload_n 0, 7, 0, 0, 0), (.iload_n 2, 8, 0, 0, 0), (.iconst (-1), 9, 0, 0, (-1)), (.iconst (2), 10, 0, 0, 2), (.invokevirtual 180, 11, 127, 4, 0), (.ifCond .eq (13), 12, 17, 0, 0), (.iload_n 2, 13, 0, 0, 0), (.ifCond .lt (12), 14, 19, 0, 0), (.iload_n 3, 15, 0, 0, 0), (.bipush (40), 16, 0, 0, 40), (.if_icmp .le (6), 17, 19, 0, 0), (.bipush (-2), 18, 0, 0, (-2)), (.ireturn, 19, 0, 0, 0), (.iload_n 2, 20, 0, 0, 0), (.ifCond .lt (10), 21, 25, 0, 0), (.iload_n 3, 22, 0, 0, 0), (.ifCond .ge (6), 23, 25, 0, 0), (.bipush (-14), 24, 0, 0, (-14)), (.ireturn, 25, 0, 0, 0), (.aload_n 0, 26, 0, 0, 0), (.getfield 168, 27, 10, 2, 51), (.iload_n 1, 28, 0, 0, 0), (.iload_n 2, 29, 0, 0, 0), (.iastore, 30, 0, 0, 0), (.aload_n 0, 31, 0, 0, 0), (.getfield 171, 32, 10, 2, 52), (.iload_n 1, 33, 0, 0, 0), (.iload_n 2, 34, 0, 0, 0), (.ifCond .ge (7), 35, 37, 0, 0), (.iconst (0), 36, 0, 0, 0), (.goto (4), 37, 38, 0, 0), (.iload_n 3, 38, 0, 0, 0), (.iastore, 39, 0, 0, 0), (.iconst (0), 40, 0, 0, 0), (.istore 4, 41, 0, 0, 0), (.iload 4, 42, 0, 0, 0), (.bipush (40), 43, 0, 0, 40), (.if_icmp .ge (22), 44, 55, 0, 0), (.aload_n 0, 45, 0, 0, 0), (.getfield 174, 46, 10, 2, 53), (.bipush (40), 47, 0, 0, 40), (.iload_n 1, 48, 0, 0, 0), (.imul, 49, 0, 0, 0), (.iload 4, 50, 0, 0, 0), (.iadd, 51, 0, 0, 0), (.iconst (0), 52, 0, 0, 0), (.iastore, 53, 0, 0, 0), (.iinc 4 (1), 54, 0, 0, 1), (.goto (-23), 55, 41, 0, 0), (.iconst (1), 56, 0, 0, 1), (.ireturn, 57, 0, 0, 0)]
def p_M_sheet : List Nat := [0, 1, 2, 3, 4, 7, 10, 11, 12, 13, 14, 17, 20, 21, 24, 25, 27, 30, 32, 33, 34, 37, 38, 41, 43, 44, 45, 48, 49, 50, 51, 52, 55, 56, 57, 60, 61, 64, 65, 66, 67, 69, 71, 73, 76, 77, 80, 82, 83, 84, 86, 87, 88, 89, 92, 95, 96, 97]
def c_M_cell : List PI := [(.aload_n 0, 1, 0, 0, 0), (.iload_n 1, 2, 0, 0, 0), (.iconst (0), 3, 0, 0, 0), (.iconst (3), 4, 0, 0, 3), (.invokevirtual 180, 5, 127, 4, 0), (.ifCond .ne (6), 6, 8, 0, 0), (.bipush (-2), 7, 0, 0, (-2)), (.ireturn, 8, 0, 0, 0), (.aload_n 0, 9, 0, 0, 0), (.getfield 168, 10, 10, 2, 51), (.iload_n 1, 11, 0, 0, 0), (.iaload, 12, 0, 0, 0), (.ifCond .ge (6), 13, 15, 0, 0), (.bipush (-11), 14, 0, 0, (-11)), (.ireturn, 15, 0, 0, 0), (.aload_n 0, 16, 0, 0, 0), (.iload_n 2, 17, 0, 0, 0), (.iconst (0), 18, 0, 0, 0), (.aload_n 0, 19, 0, 0, 0), (.getfield 171, 20, 10, 2, 52), (.iload_n 1, 21, 0, 0, 0), (.iaload, 22, 0, 0, 0), (.iconst (1), 23, 0, 0, 1), (.isub, 24, 0, 0, 0), (.invokevirtual 180, 25, 127, 4, 0), (.ifCond .ne (6), 26, 28, 0, 0), (.bipush (-12), 27, 0, 0, (-12)), (.ireturn, 28, 0, 0, 0), (.aload_n 0, 29, 0, 0, 0), (.getfield 174, 30, 10, 2, 53), (.bipush (40), 31, 0, 0, 40), (.iload_n 1, 32, 0, 0, 0), (.imul, 33, 0, 0, 0), (.iload_n 2, 34, 0, 0, 0), (.iadd, 35, 0, 0, 0), (.aload_n 0, 36, 0, 0, 0), (.getfield 168, 37, 10, 2, 51), (.iload_n 1, 38, 0, 0, 0), (.iaload, 39, 0, 0, 0), (.ifCond .ne (8), 40, 43, 0, 0), (.iload_n 3, 41, 0, 0, 0), (.i2b, 42, 0, 0, 0), (.goto (4), 43, 44, 0, 0), (.iload_n 3, 44, 0, 0, 0), (.iastore, 45, 0, 0, 0), (.iconst (1), 46, 0, 0, 1), (.ireturn, 47, 0, 0, 0)]
def p_M_cell : List Nat := [0, 1, 2, 3, 4, 7, 10, 12, 13, 14, 17, 18, 19, 22, 24, 25, 26, 27, 28, 29, 32, 33, 34, 35, 36, 39, 42, 44, 45, 46, 49, 51, 52, 53, 54, 55, 56, 59, 60, 61, 64, 65, 66, 69, 70, 71, 72, 73]
def c_M_copy : List PI := [(.aload_n 0, 1, 0, 0, 0), (.iload_n 1, 2, 0, 0, 0), (.iconst (0), 3, 0, 0, 0), (.iconst (3), 4, 0, 0, 3), (.invokevirtual 180, 5, 127, 4, 0), (.ifCond .eq (13), 6, 12, 0, 0), (.aload_n 0, 7, 0, 0, 0), (.iload_n 3, 8, 0, 0, 0), (.iconst (0), 9, 0, 0, 0), (.iconst (3), 10, 0, 0, 3), (.invokevirtual 180, 11, 127, 4, 0), (.ifCond .ne (6), 12, 14, 0, 0), (.bipush (-2), 13, 0, 0, (-2)), (.ireturn, 14, 0, 0, 0), (.aload_n 0, 15, 0, 0, 0), (.getfield 168, 16, 10, 2, 51), (.iload_n 1, 17, 0, 0, 0), (.iaload, 18, 0, 0, 0), (.ifCond .lt (12), 19, 24, 0, 0), (.aload_n 0, 20, 0, 0, 0), (.getfield 168, 21, 10, 2, 51), (.iload_n 3, 22, 0, 0, 0), (.iaload, 23, 0, 0, 0), (.ifCond .ge (6), 24, 26, 0, 0), (.bipush (-11), 25, 0, 0, (-11)), (.ireturn, 26, 0, 0, 0), (.aload_n 0, 27, 0, 0, 0), (.getfield 168, 28, 10, 2, 51), (.iload_n 1, 29, 0, 0, 0), (.iaload, 30, 0, 0, 0), (.aload_n 0, 31, 0, 0, 0), (.getfield 168, 32, 10, 2, 51), (.iload_n 3, 33, 0, 0, 0), (.iaload, 34, 0, 0, 0), (.if_icmp .eq (6), 35, 37, 0, 0), (.bipush (-13), 36, 0, 0, (-13)), (.ireturn, 37, 0, 0, 0), (.iload 5, 38, 0, 0, 0), (.ifCond .lt (39), 39, 59, 0, 0), (.iload_n 2, 40, 0, 0, 0), (.ifCond .lt (35), 41, 59, 0, 0), (.iload 4, 42, 0, 0, 0), (.ifCond .lt (30), 43, 59, 0, 0), (.iload_n 2, 44, 0, 0, 0), (.aload_n 0, 45, 0, 0, 0), (.getfield 171, 46, 10, 2, 52), (.iload_n 1, 47, 0, 0, 0), (.iaload, 48, 0, 0, 0), (.iload 5, 49, 0, 0, 0), (.isub, 50, 0, 0, 0), (.if_icmp .gt (17), 51, 59, 0, 0), (.iload 4, 52, 0, 0, 0), (.aload_n 0, 53, 0, 0, 0), (.getfield 171, 54, 10, 2, 52), (.iload_n 3, 55, 0, 0, 0), (.iaload, 56, 0, 0, 0), (.iload 5, 57, 0, 0, 0), (.isub, 58, 0, 0, 0), (.if_icmp .le (6), 59, 61, 0, 0), (.bipush (-12), 60, 0, 0, (-12)), (.ireturn, 61, 0, 0, 0), (.iconst (0), 62, 0, 0, 0), (.istore 6, 63, 0, 0, 0), (.iload 6, 64, 0, 0, 0), (.iload 5, 65, 0, 0, 0), (.if_icmp .ge (30), 66, 82, 0, 0), (.aload_n 0, 67, 0, 0, 0), (.getfield 177, 68, 10, 2, 54), (.iload 6, 69, 0, 0, 0), (.aload_n 0, 70, 0, 0, 0), (.getfield 174, 71, 10, 2, 53), (.bipush (40), 72, 0, 0, 40), (.iload_n 1, 73, 0, 0, 0), (.imul, 74, 0, 0, 0), (.iload_n 2, 75, 0, 0, 0), (.iadd, 76, 0, 0, 0), (.iload 6, 77, 0, 0, 0), (.iadd, 78, 0, 0, 0), (.iaload, 79, 0, 0, 0), (.iastore, 80, 0, 0, 0), (.iinc 6 (1), 81, 0, 0, 1), (.goto (-31), 82, 63, 0, 0), (.iconst (0), 83, 0, 0, 0), (.istore 6, 84, 0, 0, 0), (.iload 6, 85, 0, 0, 0), (.iload 5, 86, 0, 0, 0), (.if_icmp .ge (31), 87, 103, 0, 0), (.aload_n 0, 88, 0, 0, 0), (.getfield 174, 89, 10, 2, 53), (.bipush (40), 90, 0, 0, 40), (.iload_n 3, 91, 0, 0, 0), (.imul, 92, 0, 0, 0), (.iload 4, 93, 0, 0, 0), (.iadd, 94, 0, 0, 0), (.iload 6, 95, 0, 0, 0), (.iadd, 96, 0, 0, 0), (.aload_n 0, 97, 0, 0, 0), (.getfield 177, 98, 10, 2, 54), (.iload 6, 99, 0, 0, 0), (.iaload, 100, 0, 0, 0), (.iastore, 101, 0, 0, 0), (.iinc 6 (1), 102, 0, 0, 1), (.goto (-32), 103, 84, 0, 0), (.iload 5, 104, 0, 0, 0), (.ireturn, 105, 0, 0, 0)]
def p_M_copy : List Nat := [0, 1, 2, 3, 4, 7, 10, 11, 12, 13, 14, 17, 20, 22, 23, 24, 27, 28, 29, 32, 33, 36, 37, 38, 41, 43, 44, 45, 48, 49, 50, 51, 54, 55, 56, 59, 61, 62, 64, 67, 68, 71, 73, 76, 77, 78, 81, 82, 83, 85, 86, 89, 91, 92, 95, 96, 97, 99, 100, 103, 105, 106, 107, 109, 111, 113, 116, 117, 120, 122, 123, 126, 128, 129, 130, 131, 132, 134, 135, 136, 137, 140, 143, 144, 146, 148, 150, 153, 154, 157, 159, 160, 161, 163, 164, 166, 167, 168, 171, 173, 174, 175, 178, 181, 183, 184]
def c_M_taken : List PI := [(.aload_n 0, 1, 0, 0, 0), (.iload_n 2, 2, 0, 0, 0), (.iconst (0), 3, 0, 0, 0), (.iconst (3), 4, 0, 0, 3), (.invokevirtual 180, 5, 127, 4, 0), (.ifCond .ne (6), 6, 8, 0, 0), (.bipush (-2), 7, 0, 0, (-2)), (.ireturn, 8, 0, 0, 0), (.aload_n 0, 9, 0, 0, 0), (.iload_n 1, 10, 0, 0, 0), (.invokevirtual 184, 11, 126, 2, 0), (.ifCond .ne (6), 12, 14, 0, 0), (.bipush (-11), 13, 0, 0, (-11)), (.ireturn, 14, 0, 0, 0), (.iload_n 2, 15, 0, 0, 0), (.ifCond .eq (28), 16, 31, 0, 0), (.aload_n 0, 17, 0, 0, 0), (.getfield 13, 18, 10, 2, 1), (.iload_n 1, 19, 0, 0, 0), (.iaload, 20, 0, 0, 0), (.iload_n 2, 21, 0, 0, 0), (.if_icmp .eq (18), 22, 31, 0, 0), (.iload_n 2, 23, 0, 0, 0), (.iconst (1), 24, 0, 0, 1), (.if_icmp .ne (17), 25, 33, 0, 0), (.aload_n 0, 26, 0, 0, 0), (.getfield 13, 27, 10, 2, 1), (.iload_n 1, 28, 0, 0, 0), (.iaload, 29, 0, 0, 0), (.iconst (2), 30, 0, 0, 2), (.if_icmp .ne (7), 31, 33, 0, 0), (.iconst (1), 32, 0, 0, 1), (.goto (4), 33, 34, 0, 0), (.iconst (0), 34, 0, 0, 0), (.istore_n 3, 35, 0, 0, 0), (.iload_n 3, 36, 0, 0, 0), (.ifCond .eq (12), 37, 42, 0, 0), (.aload_n 0, 38, 0, 0, 0), (.getfield 17, 39, 10, 2, 2), (.iload_n 1, 40, 0, 0, 0), (.iaload, 41, 0, 0, 0), (.goto (5), 42, 43, 0, 0), (.bipush (-13), 43, 0, 0, (-13)), (.ireturn, 44, 0, 0, 0)]
def p_M_taken : List Nat := [0, 1, 2, 3, 4, 7, 10, 12, 13, 14, 15, 18, 21, 23, 24, 25, 28, 29, 32, 33, 34, 35, 38, 39, 40, 43, 44, 47, 48, 49, 50, 53, 54, 57, 58, 59, 60, 63, 64, 67, 68, 69, 72, 74, 75]
def c_Long_compare : List PI := [(.lload_n 0, 1, 0, 0, 0), (.lload_n 2, 2, 0, 0, 0), (.lcmp, 3, 0, 0, 0), (.ifCond .ge (7), 4, 6, 0, 0), (.iconst (-1), 5, 0, 0, (-1)), (.goto (14), 6, 13, 0, 0), (.lload_n 0, 7, 0, 0, 0), (.lload_n 2, 8, 0, 0, 0), (.lcmp, 9, 0, 0, 0), (.ifCond .ne (7), 10, 12, 0, 0), (.iconst (0), 11, 0, 0, 0), (.goto (4), 12, 13, 0, 0), (.iconst (1), 13, 0, 0, 1), (.ireturn, 14, 0, 0, 0)]
def p_Long_compare : List Nat := [0, 1, 2, 3, 6, 7, 10, 11, 12, 13, 16, 17, 20, 21, 22]
def c_Math_min_II : List PI := [(.iload_n 0, 1, 0, 0, 0), (.iload_n 1, 2, 0, 0, 0), (.if_icmp .gt (7), 3, 5, 0, 0), (.iload_n 0, 4, 0, 0, 0), (.goto (4), 5, 6, 0, 0), (.iload_n 1, 6, 0, 0, 0), (.ireturn, 7, 0, 0, 0)]
def p_Math_min_II : List Nat := [0, 1, 2, 5, 6, 9, 10, 11]
def c_Math_min_JJ : List PI := [(.lload_n 0, 1, 0, 0, 0), (.lload_n 2, 2, 0, 0, 0), (.lcmp, 3, 0, 0, 0), (.ifCond .gt (7), 4, 6, 0, 0), (.lload_n 0, 5, 0, 0, 0), (.goto (4), 6, 7, 0, 0), (.lload_n 2, 7, 0, 0, 0), (.lreturn, 8, 0, 0, 0)]
def p_Math_min_JJ : List Nat := [0, 1, 2, 3, 6, 7, 10, 11, 12]
def c_Math_abs : List PI := [(.iload_n 0, 1, 0, 0, 0), (.ifCond .ge (8), 2, 5, 0, 0), (.iload_n 0, 3, 0, 0, 0), (.ineg, 4, 0, 0, 0), (.goto (4), 5, 6, 0, 0), (.iload_n 0, 6, 0, 0, 0), (.ireturn, 7, 0, 0, 0)]
def p_Math_abs : List Nat := [0, 1, 4, 5, 6, 9, 10, 11]
def c_Arrays_fill_AII : List PI := [(.iconst (0), 1, 0, 0, 0), (.istore_n 2, 2, 0, 0, 0), (.aload_n 0, 3, 0, 0, 0), (.arraylength, 4, 0, 0, 0), (.istore_n 3, 5, 0, 0, 0), (.iload_n 2, 6, 0, 0, 0), (.iload_n 3, 7, 0, 0, 0), (.if_icmp .ge (13), 8, 14, 0, 0), (.aload_n 0, 9, 0, 0, 0), (.iload_n 2, 10, 0, 0, 0), (.iload_n 1, 11, 0, 0, 0), (.iastore, 12, 0, 0, 0), (.iinc 2 (1), 13, 0, 0, 1), (.goto (-12), 14, 5, 0, 0), (.return_, 15, 0, 0, 0)]
def p_Arrays_fill_AII : List Nat := [0, 1, 2, 3, 4, 5, 6, 7, 10, 11, 12, 13, 14, 17, 20, 21]
def c_Arrays_fill_AJJ : List PI := [(.iconst (0), 1, 0, 0, 0), (.istore_n 3, 2, 0, 0, 0), (.aload_n 0, 3, 0, 0, 0), (.arraylength, 4, 0, 0, 0), (.istore 4, 5, 0, 0, 0), (.iload_n 3, 6, 0, 0, 0), (.iload 4, 7, 0, 0, 0), (.if_icmp .ge (13), 8, 14, 0, 0), (.aload_n 0, 9, 0, 0, 0), (.iload_n 3, 10, 0, 0, 0), (.lload_n 1, 11, 0, 0, 0), (.lastore, 12, 0, 0, 0), (.iinc 3 (1), 13, 0, 0, 1), (.goto (-13), 14, 5, 0, 0), (.return_, 15, 0, 0, 0)]
def p_Arrays_fill_AJJ : List Nat := [0, 1, 2, 3, 4, 6, 7, 9, 12, 13, 14, 15, 16, 19, 22, 23]
def c_Law_law : List PI := [(.new 7, 1, 9, 0, 0), (.dup, 2, 0, 0, 0), (.invokespecial 9, 3, 76, 1, 3), (.astore_n 1, 4, 0, 0, 0), (.new 10, 5, 10, 0, 0), (.dup, 6, 0, 0, 0), (.invokespecial 12, 7, 123, 1, 3), (.astore_n 2, 8, 0, 0, 0), (.iconst (0), 9, 0, 0, 0), (.istore_n 3, 10, 0, 0, 0), (.iload_n 3, 11, 0, 0, 0), (.aload_n 0, 12, 0, 0, 0), (.arraylength, 13, 0, 0, 0), (.bipush (6), 14, 0, 0, 6), (.isub, 15, 0, 0, 0), (.if_icmp .gt (1420), 16, 1088, 0, 0), (.aload_n 0, 17, 0, 0, 0), (.iload_n 3, 18, 0, 0, 0), (.iaload, 19, 0, 0, 0), (.bipush (31), 20, 0, 0, 31), (.iand, 21, 0, 0, 0), (.tableswitch (1405) (0) (31) #[(143), (156), (209), (252), (285), (318), (361), (414), (427), (460), (503), (567), (620), (663), (696), (739), (793), (837), (870), (903), (957), (1001), (1024), (1048), (1111), (1134), (1177), (1200), (1223), (1266), (1309), (1372)], 22, 10, 0, 0), (.aload_n 1, 23, 0, 0, 0), (.invokevirtual 13, 24, 77, 1, 0), (.aload_n 2, 25, 0, 0, 0), (.invokevirtual 17, 26, 124, 1, 0), (.if_icmp .eq (1254), 27, 1086, 0, 0), (.iconst (0), 28, 0, 0, 0), (.ireturn, 29, 1, 0, 0), (.aload_n 1, 30, 0, 0, 0), (.aload_n 0, 31, 0, 0, 0), (.iload_n 3, 32, 0, 0, 0), (.iconst (1), 33, 0, 0, 1), (.iadd, 34, 0, 0, 0), (.iaload, 35, 0, 0, 0), (.aload_n 0, 36, 0, 0, 0), (.iload_n 3, 37, 0, 0, 0), (.iconst (2), 38, 0, 0, 2), (.iadd, 39, 0, 0, 0), (.iaload, 40, 0, 0, 0), (.aload_n 0, 41, 0, 0, 0), (.iload_n 3, 42, 0, 0, 0), (.iconst (3), 43, 0, 0, 3), (.iadd, 44, 0, 0, 0), (.iaload, 45, 0, 0, 0), (.aload_n 0, 46, 0, 0, 0), (.iload_n 3, 47, 0, 0, 0), (.iconst (4), 48, 0, 0, 4), (.iadd, 49, 0, 0, 0), (.iaload, 50, 0, 0, 0), (.invokevirtual 18, 51, 79, 5, 0), (.aload_n 2, 52, 0, 0, 0), (.aload_n 0, 53, 0, 0, 0), (.iload_n 3, 54, 0, 0, 0), (.iconst (1), 55, 0, 0, 1), (.iadd, 56, 0, 0, 0), (.iaload, 57, 0, 0, 0), (.aload_n 0, 58, 0, 0, 0), (.iload_n 3, 59, 0, 0, 0), (.iconst (2), 60, 0, 0, 2), (.iadd, 61, 0, 0, 0), (.iaload, 62, 0, 0, 0), (.aload_n 0, 63, 0, 0, 0), (.iload_n 3, 64, 0, 0, 0), (.iconst (3), 65, 0, 0, 3), (.iadd, 66, 0, 0, 0), (.iaload, 67, 0, 0, 0), (.aload_n 0, 68, 0, 0, 0), (.iload_n 3, 69, 0, 0, 0), (.iconst (4), 70, 0, 0, 4), (.iadd, 71, 0, 0, 0), (.iaload, 72, 0, 0, 0), (.invokevirtual 22, 73, 125, 5, 0), (.if_icmp .eq (1201), 74, 1086, 0, 0), (.iconst (0), 75, 0, 0, 0), (.ireturn, 76, 1, 0, 0), (.aload_n 1, 77, 0, 0, 0), (.aload_n 0, 78, 0, 0, 0), (.iload_n 3, 79, 0, 0, 0), (.iconst (1), 80, 0, 0, 1), (.iadd, 81, 0, 0, 0), (.iaload, 82, 0, 0, 0), (.aload_n 0, 83, 0, 0, 0), (.iload_n 3, 84, 0, 0, 0), (.iconst (2), 85, 0, 0, 2), (.iadd, 86, 0, 0, 0), (.iaload, 87, 0, 0, 0), (.aload_n 0, 88, 0, 0, 0), (.iload_n 3, 89, 0, 0, 0), (.iconst (3), 90, 0, 0, 3), (.iadd, 91, 0, 0, 0), (.iaload, 92, 0, 0, 0), (.invokevirtual 23, 93, 82, 4, 0), (.aload_n 2, 94, 0, 0, 0), (.aload_n 0, 95, 0, 0, 0), (.iload_n 3, 96, 0, 0, 0), (.iconst (1), 97, 0, 0, 1), (.iadd, 98, 0, 0, 0), (.iaload, 99, 0, 0, 0), (.aload_n 0, 100, 0, 0, 0), (.iload_n 3, 101, 0, 0, 0), (.iconst (2), 102, 0, 0, 2), (.iadd, 103, 0, 0, 0), (.iaload, 104, 0, 0, 0), (.aload_n 0, 105, 0, 0, 0), (.iload_n 3, 106, 0, 0, 0), (.iconst (3), 107, 0, 0, 3), (.iadd, 108, 0, 0, 0), (.iaload, 109, 0, 0, 0), (.invokevirtual 27, 110, 130, 4, 0), (.if_icmp .eq (1158), 111, 1086, 0, 0), (.iconst (0), 112, 0, 0, 0), (.ireturn, 113, 1, 0, 0), (.aload_n 1, 114, 0, 0, 0), (.aload_n 0, 115, 0, 0, 0), (.iload_n 3, 116, 0, 0, 0), (.iconst (1), 117, 0, 0, 1), (.iadd, 118, 0, 0, 0), (.iaload, 119, 0, 0, 0), (.aload_n 0, 120, 0, 0, 0), (.iload_n 3, 121, 0, 0, 0), (.iconst (2), 122, 0, 0, 2), (.iadd, 123, 0, 0, 0), (.iaload, 124, 0, 0, 0), (.invokevirtual 28, 125, 84, 3, 0), (.aload_n 2, 126, 0, 0, 0), (.aload_n 0, 127, 0, 0, 0), (.iload_n 3, 128, 0, 0, 0), (.iconst (1), 129, 0, 0, 1), (.iadd, 130, 0, 0, 0), (.iaload, 131, 0, 0, 0), (.aload_n 0, 132, 0, 0, 0), (.iload_n 3, 133, 0, 0, 0), (.iconst (2), 134, 0, 0, 2), (.iadd, 135, 0, 0, 0), (.iaload, 136, 0, 0, 0), (.invokevirtual 32, 137, 131, 3, 0), (.if_icmp .eq (1125), 138, 1086, 0, 0), (.iconst (0), 139, 0, 0, 0), (.ireturn, 140, 1, 0, 0), (.aload_n 1, 141, 0, 0, 0), (.aload_n 0, 142, 0, 0, 0), (.iload_n 3, 143, 0, 0, 0), (.iconst (1), 144, 0, 0, 1), (.iadd, 145, 0, 0, 0), (.iaload, 146, 0, 0, 0), (.aload_n 0, 147, 0, 0, 0), (.iload_n 3, 148, 0, 0, 0), (.iconst (2), 149, 0, 0, 2), (.iadd, 150, 0, 0, 0), (.iaload, 151, 0, 0, 0), (.invokevirtual 33, 152, 86, 3, 0), (.aload_n 2, 153, 0, 0, 0), (.aload_n 0, 154, 0, 0, 0), (.iload_n 3, 155, 0, 0, 0), (.iconst (1), 156, 0, 0, 1), (.iadd, 157, 0, 0, 0), (.iaload, 158, 0, 0, 0), (.aload_n 0, 159, 0, 0, 0), (.iload_n 3, 160, 0, 0, 0), (.iconst (2), 161, 0, 0, 2), (.iadd, 162, 0, 0, 0), (.iaload, 163, 0, 0, 0), (.invokevirtual 36, 164, 135, 3, 0), (.if_icmp .eq (1092), 165, 1086, 0, 0), (.iconst (0), 166, 0, 0, 0), (.ireturn, 167, 1, 0, 0), (.aload_n 1, 168, 0, 0, 0), (.aload_n 0, 169, 0, 0, 0), (.iload_n 3, 170, 0, 0, 0), (.iconst (1), 171, 0, 0, 1), (.iadd, 172, 0, 0, 0), (.iaload, 173, 0, 0, 0), (.aload_n 0, 174, 0, 0, 0), (.iload_n 3, 175, 0, 0, 0), (.iconst (2), 176, 0, 0, 2), (.iadd, 177, 0, 0, 0), (.iaload, 178, 0, 0, 0), (.aload_n 0, 179, 0, 0, 0), (.iload_n 3, 180, 0, 0, 0), (.iconst (3), 181, 0, 0, 3), (.iadd, 182, 0, 0, 0), (.iaload, 183, 0, 0, 0), (.invokevirtual 37, 184, 87, 4, 0), (.aload_n 2, 185, 0, 0, 0), (.aload_n 0, 186, 0, 0, 0), (.iload_n 3, 187, 0, 0, 0), (.iconst (1), 188, 0, 0, 1), (.iadd, 189, 0, 0, 0), (.iaload, 190, 0, 0, 0), (.aload_n 0, 191, 0, 0, 0), (.iload_n 3, 192, 0, 0, 0), (.iconst (2), 193, 0, 0, 2), (.iadd, 194, 0, 0, 0), (.iaload, 195, 0, 0, 0), (.aload_n 0, 196, 0, 0, 0), (.iload_n 3, 197, 0, 0, 0), (.iconst (3), 198, 0, 0, 3), (.iadd, 199, 0, 0, 0), (.iaload, 200, 0, 0, 0), (.invokevirtual 40, 201, 136, 4, 0), (.if_icmp .eq (1049), 202, 1086, 0, 0), (.iconst (0), 203, 0, 0, 0), (.ireturn, 204, 1, 0, 0), (.aload_n 1, 205, 0, 0, 0), (.aload_n 0, 206, 0, 0, 0), (.iload_n 3, 207, 0, 0, 0), (.iconst (1), 208, 0, 0, 1), (.iadd, 209, 0, 0, 0), (.iaload, 210, 0, 0, 0), (.aload_n 0, 211, 0, 0, 0), (.iload_n 3, 212, 0, 0, 0), (.iconst (2), 213, 0, 0, 2), (.iadd, 214, 0, 0, 0), (.iaload, 215, 0, 0, 0), (.aload_n 0, 216, 0, 0, 0), (.iload_n 3, 217, 0, 0, 0), (.iconst (3), 218, 0, 0, 3), (.iadd, 219, 0, 0, 0), (.iaload, 220, 0, 0, 0), (.aload_n 0, 221, 0, 0, 0), (.iload_n 3, 222, 0, 0, 0), (.iconst (4), 223, 0, 0, 4), (.iadd, 224, 0, 0, 0), (.iaload, 225, 0, 0, 0), (.invokevirtual 41, 226, 88, 5, 0), (.aload_n 2, 227, 0, 0, 0), (.aload_n 0, 228, 0, 0, 0), (.iload_n 3, 229, 0, 0, 0), (.iconst (1), 230, 0, 0, 1), (.iadd, 231, 0, 0, 0), (.iaload, 232, 0, 0, 0), (.aload_n 0, 233, 0, 0, 0), (.iload_n 3, 234, 0, 0, 0), (.iconst (2), 235, 0, 0, 2), (.iadd, 236, 0, 0, 0), (.iaload, 237, 0, 0, 0), (.aload_n 0, 238, 0, 0, 0), (.iload_n 3, 239, 0, 0, 0), (.iconst (3), 240, 0, 0, 3), (.iadd, 241, 0, 0, 0), (.iaload, 242, 0, 0, 0), (.aload_n 0, 243, 0, 0, 0), (.iload_n 3, 244, 0, 0, 0), (.iconst (4), 245, 0, 0, 4), (.iadd, 246, 0, 0, 0), (.iaload, 247, 0, 0, 0), (.invokevirtual 44, 248, 137, 5, 0), (.if_icmp .eq (996), 249, 1086, 0, 0), (.iconst (0), 250, 0, 0, 0), (.ireturn, 251, 1, 0, 0), (.aload_n 1, 252, 0, 0, 0), (.invokevirtual 45, 253, 91, 1, 0), (.aload_n 2, 254, 0, 0, 0), (.invokevirtual 48, 255, 139, 1, 0), (.if_icmp .eq (983), 256, 1086, 0, 0), (.iconst (0), 257, 0, 0, 0), (.ireturn, 258, 1, 0, 0), (.aload_n 1, 259, 0, 0, 0), (.aload_n 0, 260, 0, 0, 0), (.iload_n 3, 261, 0, 0, 0), (.iconst (1), 262, 0, 0, 1), (.iadd, 263, 0, 0, 0), (.iaload, 264, 0, 0, 0), (.aload_n 0, 265, 0, 0, 0), (.iload_n 3, 266, 0, 0, 0), (.iconst (2), 267, 0, 0, 2), (.iadd, 268, 0, 0, 0), (.iaload, 269, 0, 0, 0), (.invokevirtual 49, 270, 92, 3, 0), (.aload_n 2, 271, 0, 0, 0), (.aload_n 0, 272, 0, 0, 0), (.iload_n 3, 273, 0, 0, 0), (.iconst (1), 274, 0, 0, 1), (.iadd, 275, 0, 0, 0), (.iaload, 276, 0, 0, 0), (.aload_n 0, 277, 0, 0, 0), (.iload_n 3, 278, 0, 0, 0), (.iconst (2), 279, 0, 0, 2), (.iadd, 280, 0, 0, 0), (.iaload, 281, 0, 0, 0), (.invokevirtual 52, 282, 150, 3, 0), (.if_icmp .eq (950), 283, 1086, 0, 0), (.iconst (0), 284, 0, 0, 0), (.ireturn, 285, 1, 0, 0), (.aload_n 1, 286, 0, 0, 0), (.aload_n 0, 287, 0, 0, 0), (.iload_n 3, 288, 0, 0, 0), (.iconst (1), 289, 0, 0, 1), (.iadd, 290, 0, 0, 0), (.iaload, 291, 0, 0, 0), (.aload_n 0, 292, 0, 0, 0), (.iload_n 3, 293, 0, 0, 0), (.iconst (2), 294, 0, 0, 2), (.iadd, 295, 0, 0, 0), (.iaload, 296, 0, 0, 0), (.aload_n 0, 297, 0, 0, 0), (.iload_n 3, 298, 0, 0, 0), (.iconst (3), 299, 0, 0, 3), (.iadd, 300, 0, 0, 0), (.iaload, 301, 0, 0, 0), (.invokevirtual 53, 302, 96, 4, 0), (.aload_n 2, 303, 0, 0, 0), (.aload_n 0, 304, 0, 0, 0), (.iload_n 3, 305, 0, 0, 0), (.iconst (1), 306, 0, 0, 1), (.iadd, 307, 0, 0, 0), (.iaload, 308, 0, 0, 0), (.aload_n 0, 309, 0, 0, 0), (.iload_n 3, 310, 0, 0, 0), (.iconst (2), 311, 0, 0, 2), (.iadd, 312, 0, 0, 0), (.iaload, 313, 0, 0, 0), (.aload_n 0, 314, 0, 0, 0), (.iload_n 3, 315, 0, 0, 0), (.iconst (3), 316, 0, 0, 3), (.iadd, 317, 0, 0, 0), (.iaload, 318, 0, 0, 0), (.invokevirtual 56, 319, 171, 4, 0), (.if_icmp .eq (907), 320, 1086, 0, 0), (.iconst (0), 321, 0, 0, 0), (.ireturn, 322, 1, 0, 0), (.aload_n 1, 323, 0, 0, 0), (.aload_n 0, 324, 0, 0, 0), (.iload_n 3, 325, 0, 0, 0), (.iconst (1), 326, 0, 0, 1), (.iadd, 327, 0, 0, 0), (.iaload, 328, 0, 0, 0), (.aload_n 0, 329, 0, 0, 0), (.iload_n 3, 330, 0, 0, 0), (.iconst (2), 331, 0, 0, 2), (.iadd, 332, 0, 0, 0), (.iaload, 333, 0, 0, 0), (.aload_n 0, 334, 0, 0, 0), (.iload_n 3, 335, 0, 0, 0), (.iconst (3), 336, 0, 0, 3), (.iadd, 337, 0, 0, 0), (.iaload, 338, 0, 0, 0), (.aload_n 0, 339, 0, 0, 0), (.iload_n 3, 340, 0, 0, 0), (.iconst (4), 341, 0, 0, 4), (.iadd, 342, 0, 0, 0), (.iaload, 343, 0, 0, 0), (.aload_n 0, 344, 0, 0, 0), (.iload_n 3, 345, 0, 0, 0), (.iconst (5), 346, 0, 0, 5), (.iadd, 347, 0, 0, 0), (.iaload, 348, 0, 0, 0), (.invokevirtual 57, 349, 97, 6, 0), (.aload_n 2, 350, 0, 0, 0), (.aload_n 0, 351, 0, 0, 0), (.iload_n 3, 352, 0, 0, 0), (.iconst (1), 353, 0, 0, 1), (.iadd, 354, 0, 0, 0), (.iaload, 355, 0, 0, 0), (.aload_n 0, 356, 0, 0, 0), (.iload_n 3, 357, 0, 0, 0), (.iconst (2), 358, 0, 0, 2), (.iadd, 359, 0, 0, 0), (.iaload, 360, 0, 0, 0), (.aload_n 0, 361, 0, 0, 0), (.iload_n 3, 362, 0, 0, 0), (.iconst (3), 363, 0, 0, 3), (.iadd, 364, 0, 0, 0), (.iaload, 365, 0, 0, 0), (.aload_n 0, 366, 0, 0, 0), (.iload_n 3, 367, 0, 0, 0), (.iconst (4), 368, 0, 0, 4), (.iadd, 369, 0, 0, 0), (.iaload, 370, 0, 0, 0), (.aload_n 0, 371, 0, 0, 0), (.iload_n 3, 372, 0, 0, 0), (.iconst (5), 373, 0, 0, 5), (.iadd, 374, 0, 0, 0), (.iaload, 375, 0, 0, 0), (.invokevirtual 61, 376, 140, 6, 0), (.lcmp, 377, 0, 0, 0), (.ifCond .eq (843), 378, 1086, 0, 0), (.iconst (0), 379, 0, 0, 0), (.ireturn, 380, 1, 0, 0), (.aload_n 1, 381, 0, 0, 0), (.aload_n 0, 382, 0, 0, 0), (.iload_n 3, 383, 0, 0, 0), (.iconst (1), 384, 0, 0, 1), (.iadd, 385, 0, 0, 0), (.iaload, 386, 0, 0, 0), (.aload_n 0, 387, 0, 0, 0), (.iload_n 3, 388, 0, 0, 0), (.iconst (2), 389, 0, 0, 2), (.iadd, 390, 0, 0, 0), (.iaload, 391, 0, 0, 0), (.aload_n 0, 392, 0, 0, 0), (.iload_n 3, 393, 0, 0, 0), (.iconst (3), 394, 0, 0, 3), (.iadd, 395, 0, 0, 0), (.iaload, 396, 0, 0, 0), (.aload_n 0, 397, 0, 0, 0), (.iload_n 3, 398, 0, 0, 0), (.iconst (4), 399, 0, 0, 4), (.iadd, 400, 0, 0, 0), (.iaload, 401, 0, 0, 0), (.invokevirtual 62, 402, 100, 5, 0), (.aload_n 2, 403, 0, 0, 0), (.aload_n 0, 404, 0, 0, 0), (.iload_n 3, 405, 0, 0, 0), (.iconst (1), 406, 0, 0, 1), (.iadd, 407, 0, 0, 0), (.iaload, 408, 0, 0, 0), (.aload_n 0, 409, 0, 0, 0), (.iload_n 3, 410, 0, 0, 0), (.iconst (2), 411, 0, 0, 2), (.iadd, 412, 0, 0, 0), (.iaload, 413, 0, 0, 0), (.aload_n 0, 414, 0, 0, 0), (.iload_n 3, 415, 0, 0, 0), (.iconst (3), 416, 0, 0, 3), (.iadd, 417, 0, 0, 0), (.iaload, 418, 0, 0, 0), (.aload_n 0, 419, 0, 0, 0), (.iload_n 3, 420, 0, 0, 0), (.iconst (4), 421, 0, 0, 4), (.iadd, 422, 0, 0, 0), (.iaload, 423, 0, 0, 0), (.invokevirtual 65, 424, 148, 5, 0), (.if_icmp .eq (790), 425, 1086, 0, 0), (.iconst (0), 426, 0, 0, 0), (.ireturn, 427, 1, 0, 0), (.aload_n 1, 428, 0, 0, 0), (.aload_n 0, 429, 0, 0, 0), (.iload_n 3, 430, 0, 0, 0), (.iconst (1), 431, 0, 0, 1), (.iadd, 432, 0, 0, 0), (.iaload, 433, 0, 0, 0), (.aload_n 0, 434, 0, 0, 0), (.iload_n 3, 435, 0, 0, 0), (.iconst (2), 436, 0, 0, 2), (.iadd, 437, 0, 0, 0), (.iaload, 438, 0, 0, 0), (.aload_n 0, 439, 0, 0, 0), (.iload_n 3, 440, 0, 0, 0), (.iconst (3), 441, 0, 0, 3), (.iadd, 442, 0, 0, 0), (.iaload, 443, 0, 0, 0), (.invokevirtual 66, 444, 101, 4, 0), (.aload_n 2, 445, 0, 0, 0), (.aload_n 0, 446, 0, 0, 0), (.iload_n 3, 447, 0, 0, 0), (.iconst (1), 448, 0, 0, 1), (.iadd, 449, 0, 0, 0), (.iaload, 450, 0, 0, 0), (.aload_n 0, 451, 0, 0, 0), (.iload_n 3, 452, 0, 0, 0), (.iconst (2), 453, 0, 0, 2), (.iadd, 454, 0, 0, 0), (.iaload, 455, 0, 0, 0), (.aload_n 0, 456, 0, 0, 0), (.iload_n 3, 457, 0, 0, 0), (.iconst (3), 458, 0, 0, 3), (.iadd, 459, 0, 0, 0), (.iaload, 460, 0, 0, 0), (.invokevirtual 69, 461, 172, 4, 0), (.if_icmp .eq (747), 462, 1086, 0, 0), (.iconst (0), 463, 0, 0, 0), (.ireturn, 464, 1, 0, 0), (.aload_n 1, 465, 0, 0, 0), (.aload_n 0, 466, 0, 0, 0), (.iload_n 3, 467, 0, 0, 0), (.iconst (1), 468, 0, 0, 1), (.iadd, 469, 0, 0, 0), (.iaload, 470, 0, 0, 0), (.aload_n 0, 471, 0, 0, 0), (.iload_n 3, 472, 0, 0, 0), (.iconst (2), 473, 0, 0, 2), (.iadd, 474, 0, 0, 0), (.iaload, 475, 0, 0, 0), (.invokevirtual 70, 476, 102, 3, 0), (.aload_n 2, 477, 0, 0, 0), (.aload_n 0, 478, 0, 0, 0), (.iload_n 3, 479, 0, 0, 0), (.iconst (1), 480, 0, 0, 1), (.iadd, 481, 0, 0, 0), (.iaload, 482, 0, 0, 0), (.aload_n 0, 483, 0, 0, 0), (.iload_n 3, 484, 0, 0, 0), (.iconst (2), 485, 0, 0, 2), (.iadd, 486, 0, 0, 0), (.iaload, 487, 0, 0, 0), (.invokevirtual 73, 488, 173, 3, 0), (.if_icmp .eq (714), 489, 1086, 0, 0), (.iconst (0), 490, 0, 0, 0), (.ireturn, 491, 1, 0, 0), (.aload_n 1, 492, 0, 0, 0), (.aload_n 0, 493, 0, 0, 0), (.iload_n 3, 494, 0, 0, 0), (.iconst (1), 495, 0, 0, 1), (.iadd, 496, 0, 0, 0), (.iaload, 497, 0, 0, 0), (.aload_n 0, 498, 0, 0, 0), (.iload_n 3, 499, 0, 0, 0), (.iconst (2), 500, 0, 0, 2), (.iadd, 501, 0, 0, 0), (.iaload, 502, 0, 0, 0), (.aload_n 0, 503, 0, 0, 0), (.iload_n 3, 504, 0, 0, 0), (.iconst (3), 505, 0, 0, 3), (.iadd, 506, 0, 0, 0), (.iaload, 507, 0, 0, 0), (.invokevirtual 74, 508, 103, 4, 0), (.aload_n 2, 509, 0, 0, 0), (.aload_n 0, 510, 0, 0, 0), (.iload_n 3, 511, 0, 0, 0), (.iconst (1), 512, 0, 0, 1), (.iadd, 513, 0, 0, 0), (.iaload, 514, 0, 0, 0), (.aload_n 0, 515, 0, 0, 0), (.iload_n 3, 516, 0, 0, 0), (.iconst (2), 517, 0, 0, 2), (.iadd, 518, 0, 0, 0), (.iaload, 519, 0, 0, 0), (.aload_n 0, 520, 0, 0, 0), (.iload_n 3, 521, 0, 0, 0), (.iconst (3), 522, 0, 0, 3), (.iadd, 523, 0, 0, 0), (.iaload, 524, 0, 0, 0), (.invokevirtual 77, 525, 175, 4, 0), (.if_icmp .eq (671), 526, 1086, 0, 0), (.iconst (0), 527, 0, 0, 0), (.ireturn, 528, 1, 0, 0), (.aload_n 1, 529, 0, 0, 0), (.aload_n 0, 530, 0, 0, 0), (.iload_n 3, 531, 0, 0, 0), (.iconst (1), 532, 0, 0, 1), (.iadd, 533, 0, 0, 0), (.iaload, 534, 0, 0, 0), (.aload_n 0, 535, 0, 0, 0), (.iload_n 3, 536, 0, 0, 0), (.iconst (2), 537, 0, 0, 2), (.iadd, 538, 0, 0, 0), (.iaload, 539, 0, 0, 0), (.aload_n 0, 540, 0, 0, 0), (.iload_n 3, 541, 0, 0, 0), (.iconst (3), 542, 0, 0, 3), (.iadd, 543, 0, 0, 0), (.iaload, 544, 0, 0, 0), (.aload_n 0, 545, 0, 0, 0), (.iload_n 3, 546, 0, 0, 0), (.iconst (4), 547, 0, 0, 4), (.iadd, 548, 0, 0, 0), (.iaload, 549, 0, 0, 0), (.invokevirtual 78, 550, 104, 5, 0), (.aload_n 2, 551, 0, 0, 0), (.aload_n 0, 552, 0, 0, 0), (.iload_n 3, 553, 0, 0, 0), (.iconst (1), 554, 0, 0, 1), (.iadd, 555, 0, 0, 0), (.iaload, 556, 0, 0, 0), (.aload_n 0, 557, 0, 0, 0), (.iload_n 3, 558, 0, 0, 0), (.iconst (2), 559, 0, 0, 2), (.iadd, 560, 0, 0, 0), (.iaload, 561, 0, 0, 0), (.aload_n 0, 562, 0, 0, 0), (.iload_n 3, 563, 0, 0, 0), (.iconst (3), 564, 0, 0, 3), (.iadd, 565, 0, 0, 0), (.iaload, 566, 0, 0, 0), (.aload_n 0, 567, 0, 0, 0), (.iload_n 3, 568, 0, 0, 0), (.iconst (4), 569, 0, 0, 4), (.iadd, 570, 0, 0, 0), (.iaload, 571, 0, 0, 0), (.invokevirtual 82, 572, 176, 5, 0), (.lcmp, 573, 0, 0, 0), (.ifCond .eq (617), 574, 1086, 0, 0), (.iconst (0), 575, 0, 0, 0), (.ireturn, 576, 1, 0, 0), (.aload_n 1, 577, 0, 0, 0), (.aload_n 0, 578, 0, 0, 0), (.iload_n 3, 579, 0, 0, 0), (.iconst (1), 580, 0, 0, 1), (.iadd, 581, 0, 0, 0), (.iaload, 582, 0, 0, 0), (.aload_n 0, 583, 0, 0, 0), (.iload_n 3, 584, 0, 0, 0), (.iconst (2), 585, 0, 0, 2), (.iadd, 586, 0, 0, 0), (.iaload, 587, 0, 0, 0), (.aload_n 0, 588, 0, 0, 0), (.iload_n 3, 589, 0, 0, 0), (.iconst (3), 590, 0, 0, 3), (.iadd, 591, 0, 0, 0), (.iaload, 592, 0, 0, 0), (.invokevirtual 83, 593, 105, 4, 0), (.aload_n 2, 594, 0, 0, 0), (.aload_n 0, 595, 0, 0, 0), (.iload_n 3, 596, 0, 0, 0), (.iconst (1), 597, 0, 0, 1), (.iadd, 598, 0, 0, 0), (.iaload, 599, 0, 0, 0), (.aload_n 0, 600, 0, 0, 0), (.iload_n 3, 601, 0, 0, 0), (.iconst (2), 602, 0, 0, 2), (.iadd, 603, 0, 0, 0), (.iaload, 604, 0, 0, 0), (.aload_n 0, 605, 0, 0, 0), (.iload_n 3, 606, 0, 0, 0), (.iconst (3), 607, 0, 0, 3), (.iadd, 608, 0, 0, 0), (.iaload, 609, 0, 0, 0), (.invokevirtual 87, 610, 177, 4, 0), (.lcmp, 611, 0, 0, 0), (.ifCond .eq (573), 612, 1086, 0, 0), (.iconst (0), 613, 0, 0, 0), (.ireturn, 614, 1, 0, 0), (.aload_n 1, 615, 0, 0, 0), (.aload_n 0, 616, 0, 0, 0), (.iload_n 3, 617, 0, 0, 0), (.iconst (1), 618, 0, 0, 1), (.iadd, 619, 0, 0, 0), (.iaload, 620, 0, 0, 0), (.aload_n 0, 621, 0, 0, 0), (.iload_n 3, 622, 0, 0, 0), (.iconst (2), 623, 0, 0, 2), (.iadd, 624, 0, 0, 0), (.iaload, 625, 0, 0, 0), (.invokevirtual 88, 626, 106, 3, 0), (.aload_n 2, 627, 0, 0, 0), (.aload_n 0, 628, 0, 0, 0), (.iload_n 3, 629, 0, 0, 0), (.iconst (1), 630, 0, 0, 1), (.iadd, 631, 0, 0, 0), (.iaload, 632, 0, 0, 0), (.aload_n 0, 633, 0, 0, 0), (.iload_n 3, 634, 0, 0, 0), (.iconst (2), 635, 0, 0, 2), (.iadd, 636, 0, 0, 0), (.iaload, 637, 0, 0, 0), (.invokevirtual 91, 638, 178, 3, 0), (.if_icmp .eq (540), 639, 1086, 0, 0), (.iconst (0), 640, 0, 0, 0), (.ireturn, 641, 1, 0, 0), (.aload_n 1, 642, 0, 0, 0), (.aload_n 0, 643, 0, 0, 0), (.iload_n 3, 644, 0, 0, 0), (.iconst (1), 645, 0, 0, 1), (.iadd, 646, 0, 0, 0), (.iaload, 647, 0, 0, 0), (.aload_n 0, 648, 0, 0, 0), (.iload_n 3, 649, 0, 0, 0), (.iconst (2), 650, 0, 0, 2), (.iadd, 651, 0, 0, 0), (.iaload, 652, 0, 0, 0), (.invokevirtual 92, 653, 107, 3, 0), (.aload_n 2, 654, 0, 0, 0), (.aload_n 0, 655, 0, 0, 0), (.iload_n 3, 656, 0, 0, 0), (.iconst (1), 657, 0, 0, 1), (.iadd, 658, 0, 0, 0), (.iaload, 659, 0, 0, 0), (.aload_n 0, 660, 0, 0, 0), (.iload_n 3, 661, 0, 0, 0), (.iconst (2), 662, 0, 0, 2), (.iadd, 663, 0, 0, 0), (.iaload, 664, 0, 0, 0), (.invokevirtual 95, 665, 179, 3, 0), (.if_icmp .eq (507), 666, 1086, 0, 0), (.iconst (0), 667, 0, 0, 0), (.ireturn, 668, 1, 0, 0), (.aload_n 1, 669, 0, 0, 0), (.aload_n 0, 670, 0, 0, 0), (.iload_n 3, 671, 0, 0, 0), (.iconst (1), 672, 0, 0, 1), (.iadd, 673, 0, 0, 0), (.iaload, 674, 0, 0, 0), (.aload_n 0, 675, 0, 0, 0), (.iload_n 3, 676, 0, 0, 0), (.iconst (2), 677, 0, 0, 2), (.iadd, 678, 0, 0, 0), (.iaload, 679, 0, 0, 0), (.aload_n 0, 680, 0, 0, 0), (.iload_n 3, 681, 0, 0, 0), (.iconst (3), 682, 0, 0, 3), (.iadd, 683, 0, 0, 0), (.iaload, 684, 0, 0, 0), (.aload_n 0, 685, 0, 0, 0), (.iload_n 3, 686, 0, 0, 0), (.iconst (4), 687, 0, 0, 4), (.iadd, 688, 0, 0, 0), (.iaload, 689, 0, 0, 0), (.invokevirtual 96, 690, 108, 5, 0), (.aload_n 2, 691, 0, 0, 0), (.aload_n 0, 692, 0, 0, 0), (.iload_n 3, 693, 0, 0, 0), (.iconst (1), 694, 0, 0, 1), (.iadd, 695, 0, 0, 0), (.iaload, 696, 0, 0, 0), (.aload_n 0, 697, 0, 0, 0), (.iload_n 3, 698, 0, 0, 0), (.iconst (2), 699, 0, 0, 2), (.iadd, 700, 0, 0, 0), (.iaload, 701, 0, 0, 0), (.aload_n 0, 702, 0, 0, 0), (.iload_n 3, 703, 0, 0, 0), (.iconst (3), 704, 0, 0, 3), (.iadd, 705, 0, 0, 0), (.iaload, 706, 0, 0, 0), (.aload_n 0, 707, 0, 0, 0), (.iload_n 3, 708, 0, 0, 0), (.iconst (4), 709, 0, 0, 4), (.iadd, 710, 0, 0, 0), (.iaload, 711, 0, 0, 0), (.invokevirtual 99, 712, 186, 5, 0), (.lcmp, 713, 0, 0, 0), (.ifCond .eq (453), 714, 1086, 0, 0), (.iconst (0), 715, 0, 0, 0), (.ireturn, 716, 1, 0, 0), (.aload_n 1, 717, 0, 0, 0), (.aload_n 0, 718, 0, 0, 0), (.iload_n 3, 719, 0, 0, 0), (.iconst (1), 720, 0, 0, 1), (.iadd, 721, 0, 0, 0), (.iaload, 722, 0, 0, 0), (.aload_n 0, 723, 0, 0, 0), (.iload_n 3, 724, 0, 0, 0), (.iconst (2), 725, 0, 0, 2), (.iadd, 726, 0, 0, 0), (.iaload, 727, 0, 0, 0), (.aload_n 0, 728, 0, 0, 0), (.iload_n 3, 729, 0, 0, 0), (.iconst (3), 730, 0, 0, 3), (.iadd, 731, 0, 0, 0), (.iaload, 732, 0, 0, 0), (.invokevirtual 100, 733, 109, 4, 0), (.aload_n 2, 734, 0, 0, 0), (.aload_n 0, 735, 0, 0, 0), (.iload_n 3, 736, 0, 0, 0), (.iconst (1), 737, 0, 0, 1), (.iadd, 738, 0, 0, 0), (.iaload, 739, 0, 0, 0), (.aload_n 0, 740, 0, 0, 0), (.iload_n 3, 741, 0, 0, 0), (.iconst (2), 742, 0, 0, 2), (.iadd, 743, 0, 0, 0), (.iaload, 744, 0, 0, 0), (.aload_n 0, 745, 0, 0, 0), (.iload_n 3, 746, 0, 0, 0), (.iconst (3), 747, 0, 0, 3), (.iadd, 748, 0, 0, 0), (.iaload, 749, 0, 0, 0), (.invokevirtual 103, 750, 187, 4, 0), (.lcmp, 751, 0, 0, 0), (.ifCond .eq (409), 752, 1086, 0, 0), (.iconst (0), 753, 0, 0, 0), (.ireturn, 754, 1, 0, 0), (.aload_n 1, 755, 0, 0, 0), (.aload_n 0, 756, 0, 0, 0), (.iload_n 3, 757, 0, 0, 0), (.iconst (1), 758, 0, 0, 1), (.iadd, 759, 0, 0, 0), (.iaload, 760, 0, 0, 0), (.invokevirtual 104, 761, 110, 2, 0), (.aload_n 2, 762, 0, 0, 0), (.aload_n 0, 763, 0, 0, 0), (.iload_n 3, 764, 0, 0, 0), (.iconst (1), 765, 0, 0, 1), (.iadd, 766, 0, 0, 0), (.iaload, 767, 0, 0, 0), (.invokevirtual 108, 768, 188, 2, 0), (.if_icmp .eq (386), 769, 1086, 0, 0), (.iconst (0), 770, 0, 0, 0), (.ireturn, 771, 1, 0, 0), (.aload_n 1, 772, 0, 0, 0), (.aload_n 0, 773, 0, 0, 0), (.iload_n 3, 774, 0, 0, 0), (.iconst (1), 775, 0, 0, 1), (.iadd, 776, 0, 0, 0), (.iaload, 777, 0, 0, 0), (.invokevirtual 109, 778, 111, 2, 0), (.aload_n 2, 779, 0, 0, 0), (.aload_n 0, 780, 0, 0, 0), (.iload_n 3, 781, 0, 0, 0), (.iconst (1), 782, 0, 0, 1), (.iadd, 783, 0, 0, 0), (.iaload, 784, 0, 0, 0), (.invokevirtual 113, 785, 190, 2, 0), (.lcmp, 786, 0, 0, 0), (.ifCond .eq (362), 787, 1086, 0, 0), (.iconst (0), 788, 0, 0, 0), (.ireturn, 789, 1, 0, 0), (.aload_n 1, 790, 0, 0, 0), (.aload_n 0, 791, 0, 0, 0), (.iload_n 3, 792, 0, 0, 0), (.iconst (1), 793, 0, 0, 1), (.iadd, 794, 0, 0, 0), (.iaload, 795, 0, 0, 0), (.aload_n 0, 796, 0, 0, 0), (.iload_n 3, 797, 0, 0, 0), (.iconst (2), 798, 0, 0, 2), (.iadd, 799, 0, 0, 0), (.iaload, 800, 0, 0, 0), (.i2l, 801, 0, 0, 0), (.bipush (32), 802, 0, 0, 32), (.lshl, 803, 0, 0, 0), (.aload_n 0, 804, 0, 0, 0), (.iload_n 3, 805, 0, 0, 0), (.iconst (3), 806, 0, 0, 3), (.iadd, 807, 0, 0, 0), (.iaload, 808, 0, 0, 0), (.i2l, 809, 0, 0, 0), (.ldc2_w 114, 810, 0, 0, 4294967295), (.land, 811, 0, 0, 0), (.lor, 812, 0, 0, 0), (.invokevirtual 116, 813, 112, 3, 0), (.aload_n 2, 814, 0, 0, 0), (.aload_n 0, 815, 0, 0, 0), (.iload_n 3, 816, 0, 0, 0), (.iconst (1), 817, 0, 0, 1), (.iadd, 818, 0, 0, 0), (.iaload, 819, 0, 0, 0), (.aload_n 0, 820, 0, 0, 0), (.iload_n 3, 821, 0, 0, 0), (.iconst (2), 822, 0, 0, 2), (.iadd, 823, 0, 0, 0), (.iaload, 824, 0, 0, 0), (.i2l, 825, 0, 0, 0), (.bipush (32), 826, 0, 0, 32), (.lshl, 827, 0, 0, 0), (.aload_n 0, 828, 0, 0, 0), (.iload_n 3, 829, 0, 0, 0), (.iconst (3), 830, 0, 0, 3), (.iadd, 831, 0, 0, 0), (.iaload, 832, 0, 0, 0), (.i2l, 833, 0, 0, 0), (.ldc2_w 114, 834, 0, 0, 4294967295), (.land, 835, 0, 0, 0), (.lor, 836, 0, 0, 0), (.invokevirtual 120, 837, 191, 3, 0), (.if_icmp .eq (299), 838, 1086, 0, 0), (.iconst (0), 839, 0, 0, 0), (.ireturn, 840, 1, 0, 0), (.aload_n 1, 841, 0, 0, 0), (.aload_n 0, 842, 0, 0, 0), (.iload_n 3, 843, 0, 0, 0), (.iconst (1), 844, 0, 0, 1), (.iadd, 845, 0, 0, 0), (.iaload, 846, 0, 0, 0), (.invokevirtual 121, 847, 113, 2, 0), (.aload_n 2, 848, 0, 0, 0), (.aload_n 0, 849, 0, 0, 0), (.iload_n 3, 850, 0, 0, 0), (.iconst (1), 851, 0, 0, 1), (.iadd, 852, 0, 0, 0), (.iaload, 853, 0, 0, 0), (.invokevirtual 124, 854, 192, 2, 0), (.if_icmp .eq (276), 855, 1086, 0, 0), (.iconst (0), 856, 0, 0, 0), (.ireturn, 857, 1, 0, 0), (.aload_n 1, 858, 0, 0, 0), (.aload_n 0, 859, 0, 0, 0), (.iload_n 3, 860, 0, 0, 0), (.iconst (1), 861, 0, 0, 1), (.iadd, 862, 0, 0, 0), (.iaload, 863, 0, 0, 0), (.aload_n 0, 864, 0, 0, 0), (.iload_n 3, 865, 0, 0, 0), (.iconst (2), 866, 0, 0, 2), (.iadd, 867, 0, 0, 0), (.iaload, 868, 0, 0, 0), (.aload_n 0, 869, 0, 0, 0), (.iload_n 3, 870, 0, 0, 0), (.iconst (3), 871, 0, 0, 3), (.iadd, 872, 0, 0, 0), (.iaload, 873, 0, 0, 0), (.invokevirtual 125, 874, 114, 4, 0), (.aload_n 2, 875, 0, 0, 0), (.aload_n 0, 876, 0, 0, 0), (.iload_n 3, 877, 0, 0, 0), (.iconst (1), 878, 0, 0, 1), (.iadd, 879, 0, 0, 0), (.iaload, 880, 0, 0, 0), (.aload_n 0, 881, 0, 0, 0), (.iload_n 3, 882, 0, 0, 0), (.iconst (2), 883, 0, 0, 2), (.iadd, 884, 0, 0, 0), (.iaload, 885, 0, 0, 0), (.aload_n 0, 886, 0, 0, 0), (.iload_n 3, 887, 0, 0, 0), (.iconst (3), 888, 0, 0, 3), (.iadd, 889, 0, 0, 0), (.iaload, 890, 0, 0, 0), (.invokevirtual 128, 891, 193, 4, 0), (.if_icmp .eq (233), 892, 1086, 0, 0), (.iconst (0), 893, 0, 0, 0), (.ireturn, 894, 1, 0, 0), (.aload_n 1, 895, 0, 0, 0), (.aload_n 0, 896, 0, 0, 0), (.iload_n 3, 897, 0, 0, 0), (.iconst (1), 898, 0, 0, 1), (.iadd, 899, 0, 0, 0), (.iaload, 900, 0, 0, 0), (.invokevirtual 129, 901, 116, 2, 0), (.aload_n 2, 902, 0, 0, 0), (.aload_n 0, 903, 0, 0, 0), (.iload_n 3, 904, 0, 0, 0), (.iconst (1), 905, 0, 0, 1), (.iadd, 906, 0, 0, 0), (.iaload, 907, 0, 0, 0), (.invokevirtual 132, 908, 202, 2, 0), (.if_icmp .eq (210), 909, 1086, 0, 0), (.iconst (0), 910, 0, 0, 0), (.ireturn, 911, 1, 0, 0), (.aload_n 1, 912, 0, 0, 0), (.aload_n 0, 913, 0, 0, 0), (.iload_n 3, 914, 0, 0, 0), (.iconst (1), 915, 0, 0, 1), (.iadd, 916, 0, 0, 0), (.iaload, 917, 0, 0, 0), (.invokevirtual 133, 918, 117, 2, 0), (.aload_n 2, 919, 0, 0, 0), (.aload_n 0, 920, 0, 0, 0), (.iload_n 3, 921, 0, 0, 0), (.iconst (1), 922, 0, 0, 1), (.iadd, 923, 0, 0, 0), (.iaload, 924, 0, 0, 0), (.invokevirtual 136, 925, 203, 2, 0), (.if_icmp .eq (187), 926, 1086, 0, 0), (.iconst (0), 927, 0, 0, 0), (.ireturn, 928, 1, 0, 0), (.aload_n 1, 929, 0, 0, 0), (.aload_n 0, 930, 0, 0, 0), (.iload_n 3, 931, 0, 0, 0), (.iconst (1), 932, 0, 0, 1), (.iadd, 933, 0, 0, 0), (.iaload, 934, 0, 0, 0), (.aload_n 0, 935, 0, 0, 0), (.iload_n 3, 936, 0, 0, 0), (.iconst (2), 937, 0, 0, 2), (.iadd, 938, 0, 0, 0), (.iaload, 939, 0, 0, 0), (.aload_n 0, 940, 0, 0, 0), (.iload_n 3, 941, 0, 0, 0), (.iconst (3), 942, 0, 0, 3), (.iadd, 943, 0, 0, 0), (.iaload, 944, 0, 0, 0), (.invokevirtual 137, 945, 118, 4, 0), (.aload_n 2, 946, 0, 0, 0), (.aload_n 0, 947, 0, 0, 0), (.iload_n 3, 948, 0, 0, 0), (.iconst (1), 949, 0, 0, 1), (.iadd, 950, 0, 0, 0), (.iaload, 951, 0, 0, 0), (.aload_n 0, 952, 0, 0, 0), (.iload_n 3, 953, 0, 0, 0), (.iconst (2), 954, 0, 0, 2), (.iadd, 955, 0, 0, 0), (.iaload, 956, 0, 0, 0), (.aload_n 0, 957, 0, 0, 0), (.iload_n 3, 958, 0, 0, 0), (.iconst (3), 959, 0, 0, 3), (.iadd, 960, 0, 0, 0), (.iaload, 961, 0, 0, 0), (.invokevirtual 140, 962, 204, 4, 0), (.if_icmp .eq (144), 963, 1086, 0, 0), (.iconst (0), 964, 0, 0, 0), (.ireturn, 965, 1, 0, 0), (.aload_n 1, 966, 0, 0, 0), (.aload_n 0, 967, 0, 0, 0), (.iload_n 3, 968, 0, 0, 0), (.iconst (1), 969, 0, 0, 1), (.iadd, 970, 0, 0, 0), (.iaload, 971, 0, 0, 0), (.aload_n 0, 972, 0, 0, 0), (.iload_n 3, 973, 0, 0, 0), (.iconst (2), 974, 0, 0, 2), (.iadd, 975, 0, 0, 0), (.iaload, 976, 0, 0, 0), (.aload_n 0, 977, 0, 0, 0), (.iload_n 3, 978, 0, 0, 0), (.iconst (3), 979, 0, 0, 3), (.iadd, 980, 0, 0, 0), (.iaload, 981, 0, 0, 0), (.invokevirtual 141, 982, 119, 4, 0), (.aload_n 2, 983, 0, 0, 0), (.aload_n 0, 984, 0, 0, 0), (.iload_n 3, 985, 0, 0, 0), (.iconst (1), 986, 0, 0, 1), (.iadd, 987, 0, 0, 0), (.iaload, 988, 0, 0, 0), (.aload_n 0, 989, 0, 0, 0), (.iload_n 3, 990, 0, 0, 0), (.iconst (2), 991, 0, 0, 2), (.iadd, 992, 0, 0, 0), (.iaload, 993, 0, 0, 0), (.aload_n 0, 994, 0, 0, 0), (.iload_n 3, 995, 0, 0, 0), (.iconst (3), 996, 0, 0, 3), (.iadd, 997, 0, 0, 0), (.iaload, 998, 0, 0, 0), (.invokevirtual 144, 999, 205, 4, 0), (.if_icmp .eq (101), 1000, 1086, 0, 0), (.iconst (0), 1001, 0, 0, 0), (.ireturn, 1002, 1, 0, 0), (.aload_n 1, 1003, 0, 0, 0), (.aload_n 0, 1004, 0, 0, 0), (.iload_n 3, 1005, 0, 0, 0), (.iconst (1), 1006, 0, 0, 1), (.iadd, 1007, 0, 0, 0), (.iaload, 1008, 0, 0, 0), (.aload_n 0, 1009, 0, 0, 0), (.iload_n 3, 1010, 0, 0, 0), (.iconst (2), 1011, 0, 0, 2), (.iadd, 1012, 0, 0, 0), (.iaload, 1013, 0, 0, 0), (.aload_n 0, 1014, 0, 0, 0), (.iload_n 3, 1015, 0, 0, 0), (.iconst (3), 1016, 0, 0, 3), (.iadd, 1017, 0, 0, 0), (.iaload, 1018, 0, 0, 0), (.aload_n 0, 1019, 0, 0, 0), (.iload_n 3, 1020, 0, 0, 0), (.iconst (4), 1021, 0, 0, 4), (.iadd, 1022, 0, 0, 0), (.iaload, 1023, 0, 0, 0), (.aload_n 0, 1024, 0, 0, 0), (.iload_n 3, 1025, 0, 0, 0), (.iconst (5), 1026, 0, 0, 5), (.iadd, 1027, 0, 0, 0), (.iaload, 1028, 0, 0, 0), (.invokevirtual 145, 1029, 120, 6, 0), (.aload_n 2, 1030, 0, 0, 0), (.aload_n 0, 1031, 0, 0, 0), (.iload_n 3, 1032, 0, 0, 0), (.iconst (1), 1033, 0, 0, 1), (.iadd, 1034, 0, 0, 0), (.iaload, 1035, 0, 0, 0), (.aload_n 0, 1036, 0, 0, 0), (.iload_n 3, 1037, 0, 0, 0), (.iconst (2), 1038, 0, 0, 2), (.iadd, 1039, 0, 0, 0), (.iaload, 1040, 0, 0, 0), (.aload_n 0, 1041, 0, 0, 0), (.iload_n 3, 1042, 0, 0, 0), (.iconst (3), 1043, 0, 0, 3), (.iadd, 1044, 0, 0, 0), (.iaload, 1045, 0, 0, 0), (.aload_n 0, 1046, 0, 0, 0), (.iload_n 3, 1047, 0, 0, 0), (.iconst (4), 1048, 0, 0, 4), (.iadd, 1049, 0, 0, 0), (.iaload, 1050, 0, 0, 0), (.aload_n 0, 1051, 0, 0, 0), (.iload_n 3, 1052, 0, 0, 0), (.iconst (5), 1053, 0, 0, 5), (.iadd, 1054, 0, 0, 0), (.iaload, 1055, 0, 0, 0), (.invokevirtual 149, 1056, 206, 6, 0), (.if_icmp .eq (38), 1057, 1086, 0, 0), (.iconst (0), 1058, 0, 0, 0), (.ireturn, 1059, 1, 0, 0), (.aload_n 1, 1060, 0, 0, 0), (.aload_n 0, 1061, 0, 0, 0), (.iload_n 3, 1062, 0, 0, 0), (.iconst (1), 1063, 0, 0, 1), (.iadd, 1064, 0, 0, 0), (.iaload, 1065, 0, 0, 0), (.aload_n 0, 1066, 0, 0, 0), (.iload_n 3, 1067, 0, 0, 0), (.iconst (2), 1068, 0, 0, 2), (.iadd, 1069, 0, 0, 0), (.iaload, 1070, 0, 0, 0), (.invokevirtual 150, 1071, 121, 3, 0), (.aload_n 2, 1072, 0, 0, 0), (.aload_n 0, 1073, 0, 0, 0), (.iload_n 3, 1074, 0, 0, 0), (.iconst (1), 1075, 0, 0, 1), (.iadd, 1076, 0, 0, 0), (.iaload, 1077, 0, 0, 0), (.aload_n 0, 1078, 0, 0, 0), (.iload_n 3, 1079, 0, 0, 0), (.iconst (2), 1080, 0, 0, 2), (.iadd, 1081, 0, 0, 0), (.iaload, 1082, 0, 0, 0), (.invokevirtual 153, 1083, 207, 3, 0), (.if_icmp .eq (5), 1084, 1086, 0, 0), (.iconst (0), 1085, 0, 0, 0), (.ireturn, 1086, 1, 0, 0), (.iinc 3 (6), 1087, 0, 0, 6), (.goto (-1423), 1088, 10, 0, 0), (.iconst (1), 1089, 0, 0, 1), (.ireturn, 1090, 1, 0, 0)]
def p_Law_law : List Nat := [0, 3, 4, 7, 8, 11, 12, 15, 16, 17, 18, 19, 20, 21, 23, 24, 27, 28, 29, 30, 32, 33, 176, 177, 180, 181, 184, 187, 188, 189, 190, 191, 192, 193, 194, 195, 196, 197, 198, 199, 200, 201, 202, 203, 204, 205, 206, 207, 208, 209, 210, 213, 214, 215, 216, 217, 218, 219, 220, 221, 222, 223, 224, 225, 226, 227, 228, 229, 230, 231, 232, 233, 234, 237, 240, 241, 242, 243, 244, 245, 246, 247, 248, 249, 250, 251, 252, 253, 254, 255, 256, 257, 258, 261, 262, 263, 264, 265, 266, 267, 268, 269, 270, 271, 272, 273, 274, 275, 276, 277, 280, 283, 284, 285, 286, 287, 288, 289, 290, 291, 292, 293, 294, 295, 296, 299, 300, 301, 302, 303, 304, 305, 306, 307, 308, 309, 310, 313, 316, 317, 318, 319, 320, 321, 322, 323, 324, 325, 326, 327, 328, 329, 332, 333, 334, 335, 336, 337, 338, 339, 340, 341, 342, 343, 346, 349, 350, 351, 352, 353, 354, 355, 356, 357, 358, 359, 360, 361, 362, 363, 364, 365, 366, 367, 370, 371, 372, 373, 374, 375, 376, 377, 378, 379, 380, 381, 382, 383, 384, 385, 386, 389, 392, 393, 394, 395, 396, 397, 398, 399, 400, 401, 402, 403, 404, 405, 406, 407, 408, 409, 410, 411, 412, 413, 414, 415, 418, 419, 420, 421, 422, 423, 424, 425, 426, 427, 428, 429, 430, 431, 432, 433, 434, 435, 436, 437, 438, 439, 442, 445, 446, 447, 448, 451, 452, 455, 458, 459, 460, 461, 462, 463, 464, 465, 466, 467, 468, 469, 470, 471, 474, 475, 476, 477, 478, 479, 480, 481, 482, 483, 484, 485, 488, 491, 492, 493, 494, 495, 496, 497, 498, 499, 500, 501, 502, 503, 504, 505, 506, 507, 508, 509, 512, 513, 514, 515, 516, 517, 518, 519, 520, 521, 522, 523, 524, 525, 526, 527, 528, 531, 534, 535, 536, 537, 538, 539, 540, 541, 542, 543, 544, 545, 546, 547, 548, 549, 550, 551, 552, 553, 554, 555, 556, 557, 558, 559, 560, 561, 562, 565, 566, 567, 568, 569, 570, 571, 572, 573, 574, 575, 576, 577, 578, 579, 580, 581, 582, 583, 584, 585, 586, 587, 588, 589, 590, 591, 594, 595, 598, 599, 600, 601, 602, 603, 604, 605, 606, 607, 608, 609, 610, 611, 612, 613, 614, 615, 616, 617, 618, 619, 620, 621, 624, 625, 626, 627, 628, 629, 630, 631, 632, 633, 634, 635, 636, 637, 638, 639, 640, 641, 642, 643, 644, 645, 648, 651, 652, 653, 654, 655, 656, 657, 658, 659, 660, 661, 662, 663, 664, 665, 666, 667, 668, 669, 672, 673, 674, 675, 676, 677, 678, 679, 680, 681, 682, 683, 684, 685, 686, 687, 688, 691, 694, 695, 696, 697, 698, 699, 700, 701, 702, 703, 704, 705, 706, 707, 710, 711, 712, 713, 714, 715, 716, 717, 718, 719, 720, 721, 724, 727, 728, 729, 730, 731, 732, 733, 734, 735, 736, 737, 738, 739, 740, 741, 742, 743, 744, 745, 748, 749, 750, 751, 752, 753, 754, 755, 756, 757, 758, 759, 760, 761, 762, 763, 764, 767, 770, 771, 772, 773, 774, 775, 776, 777, 778, 779, 780, 781, 782, 783, 784, 785, 786, 787, 788, 789, 790, 791, 792, 793, 796, 797, 798, 799, 800, 801, 802, 803, 804, 805, 806, 807, 808, 809, 810, 811, 812, 813, 814, 815, 816, 817, 820, 821, 824, 825, 826, 827, 828, 829, 830, 831, 832, 833, 834, 835, 836, 837, 838, 839, 840, 841, 842, 845, 846, 847, 848, 849, 850, 851, 852, 853, 854, 855, 856, 857, 858, 859, 860, 861, 864, 865, 868, 869, 870, 871, 872, 873, 874, 875, 876, 877, 878, 879, 880, 881, 884, 885, 886, 887, 888, 889, 890, 891, 892, 893, 894, 895, 898, 901, 902, 903, 904, 905, 906, 907, 908, 909, 910, 911, 912, 913, 914, 917, 918, 919, 920, 921, 922, 923, 924, 925, 926, 927, 928, 931, 934, 935, 936, 937, 938, 939, 940, 941, 942, 943, 944, 945, 946, 947, 948, 949, 950, 951, 952, 953, 954, 955, 956, 957, 960, 961, 962, 963, 964, 965, 966, 967, 968, 969, 970, 971, 972, 973, 974, 975, 976, 977, 978, 979, 980, 981, 984, 985, 988, 989, 990, 991, 992, 993, 994, 995, 996, 997, 998, 999, 1000, 1001, 1002, 1003, 1004, 1005, 1006, 1009, 1010, 1011, 1012, 1013, 1014, 1015, 1016, 1017, 1018, 1019, 1020, 1021, 1022, 1023, 1024, 1025, 1028, 1029, 1032, 1033, 1034, 1035, 1036, 1037, 1038, 1039, 1040, 1043, 1044, 1045, 1046, 1047, 1048, 1049, 1052, 1055, 1056, 1057, 1058, 1059, 1060, 1061, 1062, 1063, 1066, 1067, 1068, 1069, 1070, 1071, 1072, 1075, 1076, 1079, 1080, 1081, 1082, 1083, 1084, 1085, 1086, 1087, 1088, 1089, 1090, 1091, 1092, 1093, 1095, 1096, 1097, 1098, 1099, 1100, 1101, 1102, 1105, 1106, 1107, 1110, 1111, 1112, 1113, 1114, 1115, 1116, 1117, 1118, 1119, 1120, 1121, 1122, 1124, 1125, 1126, 1127, 1128, 1129, 1130, 1131, 1134, 1135, 1136, 1139, 1142, 1143, 1144, 1145, 1146, 1147, 1148, 1149, 1150, 1153, 1154, 1155, 1156, 1157, 1158, 1159, 1162, 1165, 1166, 1167, 1168, 1169, 1170, 1171, 1172, 1173, 1174, 1175, 1176, 1177, 1178, 1179, 1180, 1181, 1182, 1183, 1186, 1187, 1188, 1189, 1190, 1191, 1192, 1193, 1194, 1195, 1196, 1197, 1198, 1199, 1200, 1201, 1202, 1205, 1208, 1209, 1210, 1211, 1212, 1213, 1214, 1215, 1216, 1219, 1220, 1221, 1222, 1223, 1224, 1225, 1228, 1231, 1232, 1233, 1234, 1235, 1236, 1237, 1238, 1239, 1242, 1243, 1244, 1245, 1246, 1247, 1248, 1251, 1254, 1255, 1256, 1257, 1258, 1259, 1260, 1261, 1262, 1263, 1264, 1265, 1266, 1267, 1268, 1269, 1270, 1271, 1272, 1275, 1276, 1277, 1278, 1279, 1280, 1281, 1282, 1283, 1284, 1285, 1286, 1287, 1288, 1289, 1290, 1291, 1294, 1297, 1298, 1299, 1300, 1301, 1302, 1303, 1304, 1305, 1306, 1307, 1308, 1309, 1310, 1311, 1312, 1313, 1314, 1315, 1318, 1319, 1320, 1321, 1322, 1323, 1324, 1325, 1326, 1327, 1328, 1329, 1330, 1331, 1332, 1333, 1334, 1337, 1340, 1341, 1342, 1343, 1344, 1345, 1346, 1347, 1348, 1349, 1350, 1351, 1352, 1353, 1354, 1355, 1356, 1357, 1358, 1359, 1360, 1361, 1362, 1363, 1364, 1365, 1366, 1367, 1368, 1371, 1372, 1373, 1374, 1375, 1376, 1377, 1378, 1379, 1380, 1381, 1382, 1383, 1384, 1385, 1386, 1387, 1388, 1389, 1390, 1391, 1392, 1393, 1394, 1395, 1396, 1397, 1400, 1403, 1404, 1405, 1406, 1407, 1408, 1409, 1410, 1411, 1412, 1413, 1414, 1415, 1416, 1419, 1420, 1421, 1422, 1423, 1424, 1425, 1426, 1427, 1428, 1429, 1430, 1433, 1436, 1437, 1438, 1441, 1444, 1445, 1446]
def swT : List (List Nat) := [[38, 23, 28, 33], [17, 2, 7, 12], [12, 2, 7], [66, 13, 16, 19, 24, 30, 34, 43, 48, 54, 60], [82, 22, 26, 30, 34, 38, 49, 60, 71], [43, 28, 33, 38], [100, 14, 19, 29, 48, 56, 70, 78, 86], [12, 2, 5, 8], [32, 14, 19, 32, 32, 24, 32, 28], [68, 25, 30, 35, 40, 44, 52, 60], [1086, 22, 29, 76, 113, 140, 167, 204, 251, 258, 285, 322, 380, 427, 464, 491, 528, 576, 614, 641, 668, 716, 754, 771, 789, 840, 857, 894, 911, 928, 965, 1002, 1059]]
def codes : List (List PI) := [c_Crossing_init, c_Crossing_lay, c_Crossing_touches, c_Crossing_layEdges, c_Crossing_overlap, c_Crossing_beginsBefore, c_Crossing_holds, c_Crossing_note, c_Curve_init, c_Curve_draw, c_Curve_findStretch, c_Curve_raiseLow, c_Curve_bringDownHigh, c_Curve_addEdge, c_Curve_cornerOn, c_Curve_acrossI, c_Curve_acrossJ, c_Curve_level, c_Curve_isSmooth, c_Curve_weight, c_Curve_areaAt, c_Curve_countIdle, c_Curve_isIdle, c_Curve_countKind, c_Curve_kindOf, c_Curve_standsIn, c_Curve_directionX, c_Curve_directionY, c_Curve_countLeastAt, c_Curve_countEdgesAt, c_Curve_countRows, c_Curve_proofNumber, c_Draft_init, c_Draft_load, c_Draft_clear, c_Draft_putLeast, c_Draft_addUp, c_Draft_has, c_Draft_addTerm, c_Draft_fits, c_Draft_pour, c_Draft_shift, c_Form_init, c_Form_begin, c_Form_find, c_Form_put, c_Form_slide, c_Form_remove, c_Form_leastWorth, c_Form_worthOf, c_Form_countLeast, c_Form_isOfOneLetter, c_Point_init, c_Point_reduce, c_Point_below, c_Point_compareAlong, c_Point_along, c_Points_init, c_Points_seek, c_Points_compare, c_Points_stands, c_Points_insert, c_Points_fetch, c_Points_part, c_Ring_init, c_Ring_clear, c_Ring_add, c_Ring_area, c_Ring_underChain, c_Ring_turn, c_Sheet_init, c_Sheet_become, c_Sheet_holds, c_Trace_init, c_Trace_bodyOf, c_Trace_begins, c_C_init, c_C_form, c_C_openForm, c_C_term, c_C_exists, c_C_within, c_C_take, c_C_findTerm, c_C_sum, c_C_openFrom, c_C_power, c_C_move, c_C_hide, c_C_isPrime, c_C_timesIn, c_C_drop, c_C_told, c_C_curveOf, c_C_commonDivisor, c_C_areaOf, c_C_number, c_C_worth, c_C_hasTerms, c_C_goTo, c_C_leastAt, c_C_idle, c_C_same, c_C_edge, c_C_end, c_C_corner, c_C_amount, c_C_meets, c_C_meet, c_C_root, c_C_write, c_C_row, c_C_forge, c_C_check, c_C_act, c_C_runBody, c_C_trace, c_C_count, c_C_sheet, c_C_cell, c_C_copy, c_C_taken, c_C_isUnder, c_M_init, c_M_form, c_M_term, c_M_is, c_M_in, c_M_termAt, c_M_insert, c_M_take, c_M_sum, c_M_spreadOut, c_M_addForm, c_M_gather, c_M_power, c_M_move, c_M_hide, c_M_timesIn, c_M_drop, c_M_worth, c_M_hasTerms, c_M_isPoint, c_M_standAt, c_M_lowest, c_M_divisor, c_M_leastOf, c_M_worthOf, c_M_leastAt, c_M_countLeast, c_M_told, c_M_areaOf, c_M_ringAdd, c_M_ringArea, c_M_turnOf, c_M_isFarther, c_M_idles, c_M_isIdle, c_M_isUnderTwo, c_M_across, c_M_isUnderThree, c_M_findCorners, c_M_findEdges, c_M_bounds, c_M_pointOf, c_M_keepCorner, c_M_compare, c_M_isSmooth, c_M_partArea, c_M_standAtCorner, c_M_kindOf, c_M_number, c_M_idle, c_M_same, c_M_isWithin, c_M_edge, c_M_end, c_M_corner, c_M_amount, c_M_meets, c_M_findMeets, c_M_isClear, c_M_keepEdges, c_M_isOneLine, c_M_standAtBoth, c_M_keepMeet, c_M_meet, c_M_root, c_M_write, c_M_prove, c_M_row, c_M_forge, c_M_check, c_M_act, c_M_liesOf, c_M_sumLies, c_M_body, c_M_formLies, c_M_weighsOf, c_M_formWeighs, c_M_meetsOf, c_M_formMeets, c_M_trace, c_M_count, c_M_sheet, c_M_cell, c_M_copy, c_M_taken, c_Long_compare, c_Math_min_II, c_Math_min_JJ, c_Math_abs, c_Arrays_fill_AII, c_Arrays_fill_AJJ, c_Law_law]
def pcss : List (List Nat) := [p_Crossing_init, p_Crossing_lay, p_Crossing_touches, p_Crossing_layEdges, p_Crossing_overlap, p_Crossing_beginsBefore, p_Crossing_holds, p_Crossing_note, p_Curve_init, p_Curve_draw, p_Curve_findStretch, p_Curve_raiseLow, p_Curve_bringDownHigh, p_Curve_addEdge, p_Curve_cornerOn, p_Curve_acrossI, p_Curve_acrossJ, p_Curve_level, p_Curve_isSmooth, p_Curve_weight, p_Curve_areaAt, p_Curve_countIdle, p_Curve_isIdle, p_Curve_countKind, p_Curve_kindOf, p_Curve_standsIn, p_Curve_directionX, p_Curve_directionY, p_Curve_countLeastAt, p_Curve_countEdgesAt, p_Curve_countRows, p_Curve_proofNumber, p_Draft_init, p_Draft_load, p_Draft_clear, p_Draft_putLeast, p_Draft_addUp, p_Draft_has, p_Draft_addTerm, p_Draft_fits, p_Draft_pour, p_Draft_shift, p_Form_init, p_Form_begin, p_Form_find, p_Form_put, p_Form_slide, p_Form_remove, p_Form_leastWorth, p_Form_worthOf, p_Form_countLeast, p_Form_isOfOneLetter, p_Point_init, p_Point_reduce, p_Point_below, p_Point_compareAlong, p_Point_along, p_Points_init, p_Points_seek, p_Points_compare, p_Points_stands, p_Points_insert, p_Points_fetch, p_Points_part, p_Ring_init, p_Ring_clear, p_Ring_add, p_Ring_area, p_Ring_underChain, p_Ring_turn, p_Sheet_init, p_Sheet_become, p_Sheet_holds, p_Trace_init, p_Trace_bodyOf, p_Trace_begins, p_C_init, p_C_form, p_C_openForm, p_C_term, p_C_exists, p_C_within, p_C_take, p_C_findTerm, p_C_sum, p_C_openFrom, p_C_power, p_C_move, p_C_hide, p_C_isPrime, p_C_timesIn, p_C_drop, p_C_told, p_C_curveOf, p_C_commonDivisor, p_C_areaOf, p_C_number, p_C_worth, p_C_hasTerms, p_C_goTo, p_C_leastAt, p_C_idle, p_C_same, p_C_edge, p_C_end, p_C_corner, p_C_amount, p_C_meets, p_C_meet, p_C_root, p_C_write, p_C_row, p_C_forge, p_C_check, p_C_act, p_C_runBody, p_C_trace, p_C_count, p_C_sheet, p_C_cell, p_C_copy, p_C_taken, p_C_isUnder, p_M_init, p_M_form, p_M_term, p_M_is, p_M_in, p_M_termAt, p_M_insert, p_M_take, p_M_sum, p_M_spreadOut, p_M_addForm, p_M_gather, p_M_power, p_M_move, p_M_hide, p_M_timesIn, p_M_drop, p_M_worth, p_M_hasTerms, p_M_isPoint, p_M_standAt, p_M_lowest, p_M_divisor, p_M_leastOf, p_M_worthOf, p_M_leastAt, p_M_countLeast, p_M_told, p_M_areaOf, p_M_ringAdd, p_M_ringArea, p_M_turnOf, p_M_isFarther, p_M_idles, p_M_isIdle, p_M_isUnderTwo, p_M_across, p_M_isUnderThree, p_M_findCorners, p_M_findEdges, p_M_bounds, p_M_pointOf, p_M_keepCorner, p_M_compare, p_M_isSmooth, p_M_partArea, p_M_standAtCorner, p_M_kindOf, p_M_number, p_M_idle, p_M_same, p_M_isWithin, p_M_edge, p_M_end, p_M_corner, p_M_amount, p_M_meets, p_M_findMeets, p_M_isClear, p_M_keepEdges, p_M_isOneLine, p_M_standAtBoth, p_M_keepMeet, p_M_meet, p_M_root, p_M_write, p_M_prove, p_M_row, p_M_forge, p_M_check, p_M_act, p_M_liesOf, p_M_sumLies, p_M_body, p_M_formLies, p_M_weighsOf, p_M_formWeighs, p_M_meetsOf, p_M_formMeets, p_M_trace, p_M_count, p_M_sheet, p_M_cell, p_M_copy, p_M_taken, p_Long_compare, p_Math_min_II, p_Math_min_JJ, p_Math_abs, p_Arrays_fill_AII, p_Arrays_fill_AJJ, p_Law_law]
def mLs : List Nat := [1, 5, 4, 13, 5, 5, 5, 4, 3, 3, 11, 5, 5, 4, 14, 2, 2, 2, 2, 2, 5, 3, 3, 4, 2, 4, 2, 2, 2, 4, 1, 3, 1, 3, 1, 5, 4, 2, 7, 3, 3, 4, 1, 2, 4, 6, 4, 2, 5, 3, 6, 2, 1, 13, 1, 4, 3, 2, 3, 5, 3, 4, 3, 3, 1, 1, 3, 1, 7, 4, 1, 3, 3, 1, 2, 2, 2, 1, 3, 6, 2, 3, 6, 4, 3, 4, 7, 4, 9, 1, 6, 1, 4, 3, 11, 3, 5, 12, 2, 4, 5, 5, 5, 5, 7, 5, 4, 3, 5, 6, 4, 2, 4, 6, 4, 5, 2, 2, 4, 5, 8, 3, 2, 1, 1, 6, 2, 4, 5, 6, 6, 3, 3, 7, 5, 4, 5, 8, 6, 1, 6, 2, 4, 9, 8, 11, 5, 2, 5, 6, 5, 3, 3, 8, 4, 8, 4, 9, 12, 4, 15, 3, 7, 21, 22, 5, 9, 4, 6, 2, 2, 5, 5, 3, 6, 4, 5, 4, 6, 3, 7, 5, 3, 15, 17, 5, 5, 9, 3, 4, 2, 4, 4, 4, 3, 3, 2, 3, 3, 3, 4, 4, 2, 2, 5, 4, 7, 4, 4, 2, 4, 1, 4, 5, 4]
def mCs : List Nat := [9, 0, 0, 0, 0, 0, 0, 0, 10, 0, 0, 0, 0, 0, 0, 0, 0, 0, 0, 0, 0, 0, 0, 0, 0, 0, 0, 0, 0, 0, 0, 0, 1, 0, 0, 0, 0, 0, 0, 0, 0, 0, 3, 0, 0, 0, 0, 0, 0, 0, 0, 0, 0, 0, 0, 0, 0, 4, 0, 0, 0, 0, 0, 0, 3, 0, 0, 0, 0, 0, 1, 0, 0, 1, 0, 0, 183, 0, 0, 0, 0, 0, 0, 0, 0, 0, 0, 0, 0, 0, 0, 0, 0, 0, 0, 0, 0, 0, 0, 0, 0, 0, 0, 0, 0, 0, 0, 0, 0, 0, 0, 0, 0, 0, 0, 0, 0, 0, 0, 0, 0, 0, 0, 36, 0, 0, 0, 0, 0, 0, 0, 0, 0, 0, 0, 0, 0, 0, 0, 0, 0, 0, 0, 0, 0, 0, 0, 0, 0, 0, 0, 0, 0, 0, 0, 0, 0, 0, 0, 0, 0, 0, 0, 0, 0, 0, 0, 0, 0, 0, 0, 0, 0, 0, 0, 0, 0, 0, 0, 0, 0, 0, 0, 0, 0, 0, 0, 0, 0, 0, 0, 0, 0, 0, 0, 0, 0, 0, 0, 0, 0, 0, 0, 0, 0, 0, 0, 0, 0, 0, 0, 0, 0, 0, 221]
def mSs : List Nat := [700, 0, 0, 0, 0, 0, 0, 0, 1000, 0, 0, 0, 0, 0, 0, 0, 0, 0, 0, 0, 0, 0, 0, 0, 0, 0, 0, 0, 0, 0, 0, 0, 81, 0, 0, 0, 0, 0, 0, 0, 0, 0, 120, 0, 0, 0, 0, 0, 0, 0, 0, 0, 0, 0, 0, 0, 0, 512, 0, 0, 0, 0, 0, 0, 243, 0, 0, 0, 0, 0, 40, 0, 0, 40, 0, 0, 30000, 0, 0, 0, 0, 0, 0, 0, 0, 0, 0, 0, 0, 0, 0, 0, 0, 0, 0, 0, 0, 0, 0, 0, 0, 0, 0, 0, 0, 0, 0, 0, 0, 0, 0, 0, 0, 0, 0, 0, 0, 0, 0, 0, 0, 0, 0, 60000, 0, 0, 0, 0, 0, 0, 0, 0, 0, 0, 0, 0, 0, 0, 0, 0, 0, 0, 0, 0, 0, 0, 0, 0, 0, 0, 0, 0, 0, 0, 0, 0, 0, 0, 0, 0, 0, 0, 0, 0, 0, 0, 0, 0, 0, 0, 0, 0, 0, 0, 0, 0, 0, 0, 0, 0, 0, 0, 0, 0, 0, 0, 0, 0, 0, 0, 0, 0, 0, 0, 0, 0, 0, 0, 0, 0, 0, 0, 0, 0, 0, 0, 0, 0, 0, 0, 0, 0, 0, 0, 7302249]
def rCs : List Nat := [0, 0, 0, 0, 0, 0, 0, 0, 1, 1, 1, 1, 1, 1, 1, 1, 1, 1, 1, 1, 1, 1, 1, 1, 1, 1, 1, 1, 1, 1, 1, 1, 2, 2, 2, 2, 2, 2, 2, 2, 2, 2, 3, 3, 3, 3, 3, 3, 3, 3, 3, 3, 4, 4, 4, 4, 4, 5, 5, 5, 5, 5, 5, 5, 6, 6, 6, 6, 6, 6, 7, 7, 7, 8, 8, 8, 9, 9, 9, 9, 9, 9, 9, 9, 9, 9, 9, 9, 9, 9, 9, 9, 9, 9, 9, 9, 9, 9, 9, 9, 9, 9, 9, 9, 9, 9, 9, 9, 9, 9, 9, 9, 9, 9, 9, 9, 9, 9, 9, 9, 9, 9, 9, 10, 10, 10, 10, 10, 10, 10, 10, 10, 10, 10, 10, 10, 10, 10, 10, 10, 10, 10, 10, 10, 10, 10, 10, 10, 10, 10, 10, 10, 10, 10, 10, 10, 10, 10, 10, 10, 10, 10, 10, 10, 10, 10, 10, 10, 10, 10, 10, 10, 10, 10, 10, 10, 10, 10, 10, 10, 10, 10, 10, 10, 10, 10, 10, 10, 10, 10, 10, 10, 10, 10, 10, 10, 10, 10, 10, 10, 10, 10, 10, 10, 10, 10, 10, 10, 12, 13, 13, 13, 14, 14, 11]
def nFs : List Nat := [5, 13, 1, 6, 4, 6, 4, 3, 5, 12, 55]
end
section
def MCode (f : Nat) : List PI := codes.getD f []
def mL (f : Nat) : Nat := mLs.getD f 0
def MC (f : Nat) : Nat := mCs.getD f 0
def MS (f : Nat) : Nat := mSs.getD f 0
def RC (f : Nat) : Nat := rCs.getD f 0
def NF (f : Nat) : Nat := nFs.getD f 0
end
section
def rNs : List String := ["CornerCurves$Crossing", "CornerCurves$Curve", "CornerCurves$Draft", "CornerCurves$Form", "CornerCurves$Point", "CornerCurves$Points", "CornerCurves$Ring", "CornerCurves$Sheet", "CornerCurves$Trace", "CornerCurves", "CornerCurvesModel", "CornerCurvesLaw", "java/lang/Long", "java/lang/Math", "java/util/Arrays"]
def mYs : List MethodName := [⟨"CornerCurves$Crossing", "<init>", "()V"⟩, ⟨"CornerCurves$Crossing", "lay", "(LCornerCurves$Curve;LCornerCurves$Curve;)Z"⟩, ⟨"CornerCurves$Crossing", "touches", "(LCornerCurves$Curve;LCornerCurves$Form;)Z"⟩, ⟨"CornerCurves$Crossing", "layEdges", "(LCornerCurves$Curve;ILCornerCurves$Curve;I)Z"⟩, ⟨"CornerCurves$Crossing", "overlap", "(LCornerCurves$Curve;ILCornerCurves$Curve;I)Z"⟩, ⟨"CornerCurves$Crossing", "beginsBefore", "(LCornerCurves$Curve;ILCornerCurves$Curve;I)Z"⟩, ⟨"CornerCurves$Crossing", "holds", "(LCornerCurves$Curve;I)Z"⟩, ⟨"CornerCurves$Crossing", "note", "(I)V"⟩, ⟨"CornerCurves$Curve", "<init>", "(LCornerCurves$Form;LCornerCurves$Ring;)V"⟩, ⟨"CornerCurves$Curve", "draw", "()V"⟩, ⟨"CornerCurves$Curve", "findStretch", "(II)Z"⟩, ⟨"CornerCurves$Curve", "raiseLow", "(JJ)V"⟩, ⟨"CornerCurves$Curve", "bringDownHigh", "(JJ)V"⟩, ⟨"CornerCurves$Curve", "addEdge", "(II)V"⟩, ⟨"CornerCurves$Curve", "cornerOn", "(IJJ)I"⟩, ⟨"CornerCurves$Curve", "acrossI", "(I)I"⟩, ⟨"CornerCurves$Curve", "acrossJ", "(I)I"⟩, ⟨"CornerCurves$Curve", "level", "(I)I"⟩, ⟨"CornerCurves$Curve", "isSmooth", "()Z"⟩, ⟨"CornerCurves$Curve", "weight", "(I)I"⟩, ⟨"CornerCurves$Curve", "areaAt", "(I)I"⟩, ⟨"CornerCurves$Curve", "countIdle", "()I"⟩, ⟨"CornerCurves$Curve", "isIdle", "(I)Z"⟩, ⟨"CornerCurves$Curve", "countKind", "(I)I"⟩, ⟨"CornerCurves$Curve", "kindOf", "(I)I"⟩, ⟨"CornerCurves$Curve", "standsIn", "(LCornerCurves$Curve;)Z"⟩, ⟨"CornerCurves$Curve", "directionX", "(I)I"⟩, ⟨"CornerCurves$Curve", "directionY", "(I)I"⟩, ⟨"CornerCurves$Curve", "countLeastAt", "(I)I"⟩, ⟨"CornerCurves$Curve", "countEdgesAt", "(I)I"⟩, ⟨"CornerCurves$Curve", "countRows", "()I"⟩, ⟨"CornerCurves$Curve", "proofNumber", "(I)J"⟩, ⟨"CornerCurves$Draft", "<init>", "()V"⟩, ⟨"CornerCurves$Draft", "load", "(LCornerCurves$Form;)V"⟩, ⟨"CornerCurves$Draft", "clear", "()V"⟩, ⟨"CornerCurves$Draft", "putLeast", "(III)V"⟩, ⟨"CornerCurves$Draft", "addUp", "(LCornerCurves$Draft;LCornerCurves$Form;)Z"⟩, ⟨"CornerCurves$Draft", "has", "(I)Z"⟩, ⟨"CornerCurves$Draft", "addTerm", "(IILCornerCurves$Form;)Z"⟩, ⟨"CornerCurves$Draft", "fits", "()Z"⟩, ⟨"CornerCurves$Draft", "pour", "(LCornerCurves$Form;)V"⟩, ⟨"CornerCurves$Draft", "shift", "(II)V"⟩, ⟨"CornerCurves$Form", "<init>", "()V"⟩, ⟨"CornerCurves$Form", "begin", "(I)V"⟩, ⟨"CornerCurves$Form", "find", "(II)I"⟩, ⟨"CornerCurves$Form", "put", "(III)V"⟩, ⟨"CornerCurves$Form", "slide", "(II)V"⟩, ⟨"CornerCurves$Form", "remove", "(I)V"⟩, ⟨"CornerCurves$Form", "leastWorth", "(LCornerCurves$Point;)J"⟩, ⟨"CornerCurves$Form", "worthOf", "(ILCornerCurves$Point;)J"⟩, ⟨"CornerCurves$Form", "countLeast", "(LCornerCurves$Point;)I"⟩, ⟨"CornerCurves$Form", "isOfOneLetter", "()Z"⟩, ⟨"CornerCurves$Point", "<init>", "()V"⟩, ⟨"CornerCurves$Point", "reduce", "(JJJ)V"⟩, ⟨"CornerCurves$Point", "below", "()J"⟩, ⟨"CornerCurves$Point", "compareAlong", "(LCornerCurves$Point;II)I"⟩, ⟨"CornerCurves$Point", "along", "(II)J"⟩, ⟨"CornerCurves$Points", "<init>", "(I)V"⟩, ⟨"CornerCurves$Points", "seek", "(LCornerCurves$Point;)I"⟩, ⟨"CornerCurves$Points", "compare", "(ILCornerCurves$Point;)J"⟩, ⟨"CornerCurves$Points", "stands", "(ILCornerCurves$Point;)Z"⟩, ⟨"CornerCurves$Points", "insert", "(ILCornerCurves$Point;)Z"⟩, ⟨"CornerCurves$Points", "fetch", "(ILCornerCurves$Point;)V"⟩, ⟨"CornerCurves$Points", "part", "(II)J"⟩, ⟨"CornerCurves$Ring", "<init>", "()V"⟩, ⟨"CornerCurves$Ring", "clear", "()V"⟩, ⟨"CornerCurves$Ring", "add", "(II)V"⟩, ⟨"CornerCurves$Ring", "area", "()I"⟩, ⟨"CornerCurves$Ring", "underChain", "(I)I"⟩, ⟨"CornerCurves$Ring", "turn", "(III)I"⟩, ⟨"CornerCurves$Sheet", "<init>", "()V"⟩, ⟨"CornerCurves$Sheet", "become", "(II)V"⟩, ⟨"CornerCurves$Sheet", "holds", "(II)Z"⟩, ⟨"CornerCurves$Trace", "<init>", "()V"⟩, ⟨"CornerCurves$Trace", "bodyOf", "(I)I"⟩, ⟨"CornerCurves$Trace", "begins", "(I)V"⟩, ⟨"CornerCurves", "<init>", "()V"⟩, ⟨"CornerCurves", "form", "()I"⟩, ⟨"CornerCurves", "openForm", "(I)I"⟩, ⟨"CornerCurves", "term", "(IIII)I"⟩, ⟨"CornerCurves", "exists", "(I)Z"⟩, ⟨"CornerCurves", "within", "(III)Z"⟩, ⟨"CornerCurves", "take", "(III)I"⟩, ⟨"CornerCurves", "findTerm", "(III)I"⟩, ⟨"CornerCurves", "sum", "(II)I"⟩, ⟨"CornerCurves", "openFrom", "(LCornerCurves$Draft;I)I"⟩, ⟨"CornerCurves", "power", "(II)I"⟩, ⟨"CornerCurves", "move", "(III)I"⟩, ⟨"CornerCurves", "hide", "(IIII)I"⟩, ⟨"CornerCurves", "isPrime", "(I)Z"⟩, ⟨"CornerCurves", "timesIn", "(JI)I"⟩, ⟨"CornerCurves", "drop", "()I"⟩, ⟨"CornerCurves", "told", "(II)I"⟩, ⟨"CornerCurves", "curveOf", "(I)LCornerCurves$Curve;"⟩, ⟨"CornerCurves", "commonDivisor", "(JJ)J"⟩, ⟨"CornerCurves", "areaOf", "(LCornerCurves$Form;)I"⟩, ⟨"CornerCurves", "number", "(III)I"⟩, ⟨"CornerCurves", "worth", "(IIIII)J"⟩, ⟨"CornerCurves", "hasTerms", "(I)Z"⟩, ⟨"CornerCurves", "goTo", "(III)Z"⟩, ⟨"CornerCurves", "leastAt", "(IIII)I"⟩, ⟨"CornerCurves", "idle", "(III)I"⟩, ⟨"CornerCurves", "same", "(II)I"⟩, ⟨"CornerCurves", "edge", "(III)I"⟩, ⟨"CornerCurves", "end", "(IIII)J"⟩, ⟨"CornerCurves", "corner", "(III)J"⟩, ⟨"CornerCurves", "amount", "(II)I"⟩, ⟨"CornerCurves", "meets", "(II)I"⟩, ⟨"CornerCurves", "meet", "(IIII)J"⟩, ⟨"CornerCurves", "root", "(III)J"⟩, ⟨"CornerCurves", "write", "(I)I"⟩, ⟨"CornerCurves", "row", "(I)J"⟩, ⟨"CornerCurves", "forge", "(IJ)I"⟩, ⟨"CornerCurves", "check", "(I)I"⟩, ⟨"CornerCurves", "act", "(III)I"⟩, ⟨"CornerCurves", "runBody", "(LCornerCurves$Trace;III)I"⟩, ⟨"CornerCurves", "trace", "(I)I"⟩, ⟨"CornerCurves", "count", "(I)I"⟩, ⟨"CornerCurves", "sheet", "(III)I"⟩, ⟨"CornerCurves", "cell", "(III)I"⟩, ⟨"CornerCurves", "copy", "(IIIII)I"⟩, ⟨"CornerCurves", "taken", "(II)I"⟩, ⟨"CornerCurves", "isUnder", "(II)Z"⟩, ⟨"CornerCurvesModel", "<init>", "()V"⟩, ⟨"CornerCurvesModel", "form", "()I"⟩, ⟨"CornerCurvesModel", "term", "(IIII)I"⟩, ⟨"CornerCurvesModel", "is", "(I)Z"⟩, ⟨"CornerCurvesModel", "in", "(III)Z"⟩, ⟨"CornerCurvesModel", "termAt", "(III)I"⟩, ⟨"CornerCurvesModel", "insert", "(IIII)V"⟩, ⟨"CornerCurvesModel", "take", "(III)I"⟩, ⟨"CornerCurvesModel", "sum", "(II)I"⟩, ⟨"CornerCurvesModel", "spreadOut", "(I)V"⟩, ⟨"CornerCurvesModel", "addForm", "(I)V"⟩, ⟨"CornerCurvesModel", "gather", "(I)I"⟩, ⟨"CornerCurvesModel", "power", "(II)I"⟩, ⟨"CornerCurvesModel", "move", "(III)I"⟩, ⟨"CornerCurvesModel", "hide", "(IIII)I"⟩, ⟨"CornerCurvesModel", "timesIn", "(II)I"⟩, ⟨"CornerCurvesModel", "drop", "()I"⟩, ⟨"CornerCurvesModel", "worth", "(IIIII)J"⟩, ⟨"CornerCurvesModel", "hasTerms", "(I)Z"⟩, ⟨"CornerCurvesModel", "isPoint", "(III)Z"⟩, ⟨"CornerCurvesModel", "standAt", "(JJJJ)V"⟩, ⟨"CornerCurvesModel", "lowest", "(JJI)J"⟩, ⟨"CornerCurvesModel", "divisor", "(JJ)J"⟩, ⟨"CornerCurvesModel", "leastOf", "(I)J"⟩, ⟨"CornerCurvesModel", "worthOf", "(I)J"⟩, ⟨"CornerCurvesModel", "leastAt", "(IIII)I"⟩, ⟨"CornerCurvesModel", "countLeast", "(I)I"⟩, ⟨"CornerCurvesModel", "told", "(II)I"⟩, ⟨"CornerCurvesModel", "areaOf", "(I)I"⟩, ⟨"CornerCurvesModel", "ringAdd", "(II)V"⟩, ⟨"CornerCurvesModel", "ringArea", "()I"⟩, ⟨"CornerCurvesModel", "turnOf", "(III)I"⟩, ⟨"CornerCurvesModel", "isFarther", "(III)Z"⟩, ⟨"CornerCurvesModel", "idles", "(I)I"⟩, ⟨"CornerCurvesModel", "isIdle", "(II)Z"⟩, ⟨"CornerCurvesModel", "isUnderTwo", "(III)Z"⟩, ⟨"CornerCurvesModel", "across", "(III)J"⟩, ⟨"CornerCurvesModel", "isUnderThree", "(IIII)Z"⟩, ⟨"CornerCurvesModel", "findCorners", "(I)V"⟩, ⟨"CornerCurvesModel", "findEdges", "(I)V"⟩, ⟨"CornerCurvesModel", "bounds", "(IIIII)Z"⟩, ⟨"CornerCurvesModel", "pointOf", "(IIIIIJJ)V"⟩, ⟨"CornerCurvesModel", "keepCorner", "(I)V"⟩, ⟨"CornerCurvesModel", "compare", "([JI[JI)I"⟩, ⟨"CornerCurvesModel", "isSmooth", "(I)Z"⟩, ⟨"CornerCurvesModel", "partArea", "(II)I"⟩, ⟨"CornerCurvesModel", "standAtCorner", "(I)V"⟩, ⟨"CornerCurvesModel", "kindOf", "(I)I"⟩, ⟨"CornerCurvesModel", "number", "(III)I"⟩, ⟨"CornerCurvesModel", "idle", "(III)I"⟩, ⟨"CornerCurvesModel", "same", "(II)I"⟩, ⟨"CornerCurvesModel", "isWithin", "(II)Z"⟩, ⟨"CornerCurvesModel", "edge", "(III)I"⟩, ⟨"CornerCurvesModel", "end", "(IIII)J"⟩, ⟨"CornerCurvesModel", "corner", "(III)J"⟩, ⟨"CornerCurvesModel", "amount", "(II)I"⟩, ⟨"CornerCurvesModel", "meets", "(II)I"⟩, ⟨"CornerCurvesModel", "findMeets", "(II)Z"⟩, ⟨"CornerCurvesModel", "isClear", "(II)Z"⟩, ⟨"CornerCurvesModel", "keepEdges", "(I)V"⟩, ⟨"CornerCurvesModel", "isOneLine", "(II)Z"⟩, ⟨"CornerCurvesModel", "standAtBoth", "(II)V"⟩, ⟨"CornerCurvesModel", "keepMeet", "(I)V"⟩, ⟨"CornerCurvesModel", "meet", "(IIII)J"⟩, ⟨"CornerCurvesModel", "root", "(III)J"⟩, ⟨"CornerCurvesModel", "write", "(I)I"⟩, ⟨"CornerCurvesModel", "prove", "(I)I"⟩, ⟨"CornerCurvesModel", "row", "(I)J"⟩, ⟨"CornerCurvesModel", "forge", "(IJ)I"⟩, ⟨"CornerCurvesModel", "check", "(I)I"⟩, ⟨"CornerCurvesModel", "act", "(III)I"⟩, ⟨"CornerCurvesModel", "liesOf", "(II)I"⟩, ⟨"CornerCurvesModel", "sumLies", "(II)I"⟩, ⟨"CornerCurvesModel", "body", "(I)V"⟩, ⟨"CornerCurvesModel", "formLies", "(II)I"⟩, ⟨"CornerCurvesModel", "weighsOf", "(II)I"⟩, ⟨"CornerCurvesModel", "formWeighs", "(II)I"⟩, ⟨"CornerCurvesModel", "meetsOf", "(II)I"⟩, ⟨"CornerCurvesModel", "formMeets", "(II)I"⟩, ⟨"CornerCurvesModel", "trace", "(I)I"⟩, ⟨"CornerCurvesModel", "count", "(I)I"⟩, ⟨"CornerCurvesModel", "sheet", "(III)I"⟩, ⟨"CornerCurvesModel", "cell", "(III)I"⟩, ⟨"CornerCurvesModel", "copy", "(IIIII)I"⟩, ⟨"CornerCurvesModel", "taken", "(II)I"⟩, ⟨"java/lang/Long", "compare", "(JJ)I"⟩, ⟨"java/lang/Math", "min", "(II)I"⟩, ⟨"java/lang/Math", "min", "(JJ)J"⟩, ⟨"java/lang/Math", "abs", "(I)I"⟩, ⟨"java/util/Arrays", "fill", "([II)V"⟩, ⟨"java/util/Arrays", "fill", "([JJ)V"⟩, ⟨"CornerCurvesLaw", "law", "([I)Z"⟩]
def mBs : List ByteArray := [prog_2_method_1_code, prog_2_method_2_code, prog_2_method_3_code, prog_2_method_4_code, prog_2_method_7_code, prog_2_method_8_code, prog_2_method_6_code, prog_2_method_5_code, prog_3_method_1_code, prog_3_method_2_code, prog_3_method_3_code, prog_3_method_4_code, prog_3_method_5_code, prog_3_method_6_code, prog_3_method_7_code, prog_3_method_8_code, prog_3_method_9_code, prog_3_method_10_code, prog_3_method_19_code, prog_3_method_11_code, prog_3_method_17_code, prog_3_method_21_code, prog_3_method_20_code, prog_3_method_15_code, prog_3_method_14_code, prog_3_method_22_code, prog_3_method_12_code, prog_3_method_13_code, prog_3_method_16_code, prog_3_method_18_code, prog_3_method_23_code, prog_3_method_24_code, prog_4_method_1_code, prog_4_method_5_code, prog_4_method_2_code, prog_4_method_4_code, prog_4_method_6_code, prog_4_method_3_code, prog_4_method_7_code, prog_4_method_9_code, prog_4_method_10_code, prog_4_method_8_code, prog_5_method_1_code, prog_5_method_2_code, prog_5_method_3_code, prog_5_method_4_code, prog_5_method_6_code, prog_5_method_5_code, prog_5_method_9_code, prog_5_method_8_code, prog_5_method_10_code, prog_5_method_7_code, prog_6_method_1_code, prog_6_method_2_code, prog_6_method_3_code, prog_6_method_5_code, prog_6_method_4_code, prog_7_method_1_code, prog_7_method_4_code, prog_7_method_6_code, prog_7_method_5_code, prog_7_method_7_code, prog_7_method_3_code, prog_7_method_2_code, prog_8_method_1_code, prog_8_method_2_code, prog_8_method_3_code, prog_8_method_4_code, prog_8_method_5_code, prog_8_method_6_code, prog_9_method_1_code, prog_9_method_2_code, prog_9_method_3_code, prog_10_method_1_code, prog_10_method_3_code, prog_10_method_2_code, prog_1_method_1_code, prog_1_method_2_code, prog_1_method_40_code, prog_1_method_3_code, prog_1_method_34_code, prog_1_method_42_code, prog_1_method_4_code, prog_1_method_36_code, prog_1_method_5_code, prog_1_method_41_code, prog_1_method_6_code, prog_1_method_7_code, prog_1_method_8_code, prog_1_method_43_code, prog_1_method_45_code, prog_1_method_9_code, prog_1_method_10_code, prog_1_method_38_code, prog_1_method_46_code, prog_1_method_39_code, prog_1_method_11_code, prog_1_method_12_code, prog_1_method_35_code, prog_1_method_37_code, prog_1_method_13_code, prog_1_method_14_code, prog_1_method_15_code, prog_1_method_16_code, prog_1_method_17_code, prog_1_method_18_code, prog_1_method_19_code, prog_1_method_20_code, prog_1_method_21_code, prog_1_method_22_code, prog_1_method_23_code, prog_1_method_24_code, prog_1_method_25_code, prog_1_method_26_code, prog_1_method_27_code, prog_1_method_47_code, prog_1_method_28_code, prog_1_method_29_code, prog_1_method_30_code, prog_1_method_31_code, prog_1_method_32_code, prog_1_method_33_code, prog_1_method_44_code, prog_12_method_1_code, prog_12_method_7_code, prog_12_method_8_code, prog_12_method_3_code, prog_12_method_2_code, prog_12_method_5_code, prog_12_method_6_code, prog_12_method_9_code, prog_12_method_13_code, prog_12_method_10_code, prog_12_method_11_code, prog_12_method_12_code, prog_12_method_14_code, prog_12_method_15_code, prog_12_method_17_code, prog_12_method_16_code, prog_12_method_18_code, prog_12_method_26_code, prog_12_method_4_code, prog_12_method_24_code, prog_12_method_25_code, prog_12_method_20_code, prog_12_method_19_code, prog_12_method_22_code, prog_12_method_21_code, prog_12_method_27_code, prog_12_method_23_code, prog_12_method_48_code, prog_12_method_32_code, prog_12_method_28_code, prog_12_method_30_code, prog_12_method_29_code, prog_12_method_31_code, prog_12_method_47_code, prog_12_method_46_code, prog_12_method_44_code, prog_12_method_43_code, prog_12_method_45_code, prog_12_method_39_code, prog_12_method_35_code, prog_12_method_33_code, prog_12_method_34_code, prog_12_method_38_code, prog_12_method_37_code, prog_12_method_42_code, prog_12_method_41_code, prog_12_method_40_code, prog_12_method_36_code, prog_12_method_49_code, prog_12_method_50_code, prog_12_method_52_code, prog_12_method_51_code, prog_12_method_53_code, prog_12_method_54_code, prog_12_method_55_code, prog_12_method_56_code, prog_12_method_63_code, prog_12_method_62_code, prog_12_method_57_code, prog_12_method_58_code, prog_12_method_61_code, prog_12_method_60_code, prog_12_method_59_code, prog_12_method_64_code, prog_12_method_65_code, prog_12_method_67_code, prog_12_method_66_code, prog_12_method_68_code, prog_12_method_69_code, prog_12_method_70_code, prog_12_method_79_code, prog_12_method_74_code, prog_12_method_73_code, prog_12_method_71_code, prog_12_method_72_code, prog_12_method_76_code, prog_12_method_75_code, prog_12_method_78_code, prog_12_method_77_code, prog_12_method_80_code, prog_12_method_81_code, prog_12_method_82_code, prog_12_method_83_code, prog_12_method_84_code, prog_12_method_85_code, prog_13_method_42_code, prog_14_method_69_code, prog_14_method_70_code, prog_14_method_59_code, prog_16_method_103_code, prog_16_method_101_code, code]
def mRs : List (Option FieldType) := [(Option.none : Option Jvm.ClassFile.FieldType), (Option.some Jvm.ClassFile.FieldType.boolean), (Option.some Jvm.ClassFile.FieldType.boolean), (Option.some Jvm.ClassFile.FieldType.boolean), (Option.some Jvm.ClassFile.FieldType.boolean), (Option.some Jvm.ClassFile.FieldType.boolean), (Option.some Jvm.ClassFile.FieldType.boolean), (Option.none : Option Jvm.ClassFile.FieldType), (Option.none : Option Jvm.ClassFile.FieldType), (Option.none : Option Jvm.ClassFile.FieldType), (Option.some Jvm.ClassFile.FieldType.boolean), (Option.none : Option Jvm.ClassFile.FieldType), (Option.none : Option Jvm.ClassFile.FieldType), (Option.none : Option Jvm.ClassFile.FieldType), (Option.some Jvm.ClassFile.FieldType.int), (Option.some Jvm.ClassFile.FieldType.int), (Option.some Jvm.ClassFile.FieldType.int), (Option.some Jvm.ClassFile.FieldType.int), (Option.some Jvm.ClassFile.FieldType.boolean), (Option.some Jvm.ClassFile.FieldType.int), (Option.some Jvm.ClassFile.FieldType.int), (Option.some Jvm.ClassFile.FieldType.int), (Option.some Jvm.ClassFile.FieldType.boolean), (Option.some Jvm.ClassFile.FieldType.int), (Option.some Jvm.ClassFile.FieldType.int), (Option.some Jvm.ClassFile.FieldType.boolean), (Option.some Jvm.ClassFile.FieldType.int), (Option.some Jvm.ClassFile.FieldType.int), (Option.some Jvm.ClassFile.FieldType.int), (Option.some Jvm.ClassFile.FieldType.int), (Option.some Jvm.ClassFile.FieldType.int), (Option.some Jvm.ClassFile.FieldType.long), (Option.none : Option Jvm.ClassFile.FieldType), (Option.none : Option Jvm.ClassFile.FieldType), (Option.none : Option Jvm.ClassFile.FieldType), (Option.none : Option Jvm.ClassFile.FieldType), (Option.some Jvm.ClassFile.FieldType.boolean), (Option.some Jvm.ClassFile.FieldType.boolean), (Option.some Jvm.ClassFile.FieldType.boolean), (Option.some Jvm.ClassFile.FieldType.boolean), (Option.none : Option Jvm.ClassFile.FieldType), (Option.none : Option Jvm.ClassFile.FieldType), (Option.none : Option Jvm.ClassFile.FieldType), (Option.none : Option Jvm.ClassFile.FieldType), (Option.some Jvm.ClassFile.FieldType.int), (Option.none : Option Jvm.ClassFile.FieldType), (Option.none : Option Jvm.ClassFile.FieldType), (Option.none : Option Jvm.ClassFile.FieldType), (Option.some Jvm.ClassFile.FieldType.long), (Option.some Jvm.ClassFile.FieldType.long), (Option.some Jvm.ClassFile.FieldType.int), (Option.some Jvm.ClassFile.FieldType.boolean), (Option.none : Option Jvm.ClassFile.FieldType), (Option.none : Option Jvm.ClassFile.FieldType), (Option.some Jvm.ClassFile.FieldType.long), (Option.some Jvm.ClassFile.FieldType.int), (Option.some Jvm.ClassFile.FieldType.long), (Option.none : Option Jvm.ClassFile.FieldType), (Option.some Jvm.ClassFile.FieldType.int), (Option.some Jvm.ClassFile.FieldType.long), (Option.some Jvm.ClassFile.FieldType.boolean), (Option.some Jvm.ClassFile.FieldType.boolean), (Option.none : Option Jvm.ClassFile.FieldType), (Option.some Jvm.ClassFile.FieldType.long), (Option.none : Option Jvm.ClassFile.FieldType), (Option.none : Option Jvm.ClassFile.FieldType), (Option.none : Option Jvm.ClassFile.FieldType), (Option.some Jvm.ClassFile.FieldType.int), (Option.some Jvm.ClassFile.FieldType.int), (Option.some Jvm.ClassFile.FieldType.int), (Option.none : Option Jvm.ClassFile.FieldType), (Option.none : Option Jvm.ClassFile.FieldType), (Option.some Jvm.ClassFile.FieldType.boolean), (Option.none : Option Jvm.ClassFile.FieldType), (Option.some Jvm.ClassFile.FieldType.int), (Option.none : Option Jvm.ClassFile.FieldType), (Option.none : Option Jvm.ClassFile.FieldType), (Option.some Jvm.ClassFile.FieldType.int), (Option.some Jvm.ClassFile.FieldType.int), (Option.some Jvm.ClassFile.FieldType.int), (Option.some Jvm.ClassFile.FieldType.boolean), (Option.some Jvm.ClassFile.FieldType.boolean), (Option.some Jvm.ClassFile.FieldType.int), (Option.some Jvm.ClassFile.FieldType.int), (Option.some Jvm.ClassFile.FieldType.int), (Option.some Jvm.ClassFile.FieldType.int), (Option.some Jvm.ClassFile.FieldType.int), (Option.some Jvm.ClassFile.FieldType.int), (Option.some Jvm.ClassFile.FieldType.int), (Option.some Jvm.ClassFile.FieldType.boolean), (Option.some Jvm.ClassFile.FieldType.int), (Option.some Jvm.ClassFile.FieldType.int), (Option.some Jvm.ClassFile.FieldType.int), (Option.some (Jvm.ClassFile.FieldType.object "CornerCurves$Curve")), (Option.some Jvm.ClassFile.FieldType.long), (Option.some Jvm.ClassFile.FieldType.int), (Option.some Jvm.ClassFile.FieldType.int), (Option.some Jvm.ClassFile.FieldType.long), (Option.some Jvm.ClassFile.FieldType.boolean), (Option.some Jvm.ClassFile.FieldType.boolean), (Option.some Jvm.ClassFile.FieldType.int), (Option.some Jvm.ClassFile.FieldType.int), (Option.some Jvm.ClassFile.FieldType.int), (Option.some Jvm.ClassFile.FieldType.int), (Option.some Jvm.ClassFile.FieldType.long), (Option.some Jvm.ClassFile.FieldType.long), (Option.some Jvm.ClassFile.FieldType.int), (Option.some Jvm.ClassFile.FieldType.int), (Option.some Jvm.ClassFile.FieldType.long), (Option.some Jvm.ClassFile.FieldType.long), (Option.some Jvm.ClassFile.FieldType.int), (Option.some Jvm.ClassFile.FieldType.long), (Option.some Jvm.ClassFile.FieldType.int), (Option.some Jvm.ClassFile.FieldType.int), (Option.some Jvm.ClassFile.FieldType.int), (Option.some Jvm.ClassFile.FieldType.int), (Option.some Jvm.ClassFile.FieldType.int), (Option.some Jvm.ClassFile.FieldType.int), (Option.some Jvm.ClassFile.FieldType.int), (Option.some Jvm.ClassFile.FieldType.int), (Option.some Jvm.ClassFile.FieldType.int), (Option.some Jvm.ClassFile.FieldType.int), (Option.some Jvm.ClassFile.FieldType.boolean), (Option.none : Option Jvm.ClassFile.FieldType), (Option.some Jvm.ClassFile.FieldType.int), (Option.some Jvm.ClassFile.FieldType.int), (Option.some Jvm.ClassFile.FieldType.boolean), (Option.some Jvm.ClassFile.FieldType.boolean), (Option.some Jvm.ClassFile.FieldType.int), (Option.none : Option Jvm.ClassFile.FieldType), (Option.some Jvm.ClassFile.FieldType.int), (Option.some Jvm.ClassFile.FieldType.int), (Option.none : Option Jvm.ClassFile.FieldType), (Option.none : Option Jvm.ClassFile.FieldType), (Option.some Jvm.ClassFile.FieldType.int), (Option.some Jvm.ClassFile.FieldType.int), (Option.some Jvm.ClassFile.FieldType.int), (Option.some Jvm.ClassFile.FieldType.int), (Option.some Jvm.ClassFile.FieldType.int), (Option.some Jvm.ClassFile.FieldType.int), (Option.some Jvm.ClassFile.FieldType.long), (Option.some Jvm.ClassFile.FieldType.boolean), (Option.some Jvm.ClassFile.FieldType.boolean), (Option.none : Option Jvm.ClassFile.FieldType), (Option.some Jvm.ClassFile.FieldType.long), (Option.some Jvm.ClassFile.FieldType.long), (Option.some Jvm.ClassFile.FieldType.long), (Option.some Jvm.ClassFile.FieldType.long), (Option.some Jvm.ClassFile.FieldType.int), (Option.some Jvm.ClassFile.FieldType.int), (Option.some Jvm.ClassFile.FieldType.int), (Option.some Jvm.ClassFile.FieldType.int), (Option.none : Option Jvm.ClassFile.FieldType), (Option.some Jvm.ClassFile.FieldType.int), (Option.some Jvm.ClassFile.FieldType.int), (Option.some Jvm.ClassFile.FieldType.boolean), (Option.some Jvm.ClassFile.FieldType.int), (Option.some Jvm.ClassFile.FieldType.boolean), (Option.some Jvm.ClassFile.FieldType.boolean), (Option.some Jvm.ClassFile.FieldType.long), (Option.some Jvm.ClassFile.FieldType.boolean), (Option.none : Option Jvm.ClassFile.FieldType), (Option.none : Option Jvm.ClassFile.FieldType), (Option.some Jvm.ClassFile.FieldType.boolean), (Option.none : Option Jvm.ClassFile.FieldType), (Option.none : Option Jvm.ClassFile.FieldType), (Option.some Jvm.ClassFile.FieldType.int), (Option.some Jvm.ClassFile.FieldType.boolean), (Option.some Jvm.ClassFile.FieldType.int), (Option.none : Option Jvm.ClassFile.FieldType), (Option.some Jvm.ClassFile.FieldType.int), (Option.some Jvm.ClassFile.FieldType.int), (Option.some Jvm.ClassFile.FieldType.int), (Option.some Jvm.ClassFile.FieldType.int), (Option.some Jvm.ClassFile.FieldType.boolean), (Option.some Jvm.ClassFile.FieldType.int), (Option.some Jvm.ClassFile.FieldType.long), (Option.some Jvm.ClassFile.FieldType.long), (Option.some Jvm.ClassFile.FieldType.int), (Option.some Jvm.ClassFile.FieldType.int), (Option.some Jvm.ClassFile.FieldType.boolean), (Option.some Jvm.ClassFile.FieldType.boolean), (Option.none : Option Jvm.ClassFile.FieldType), (Option.some Jvm.ClassFile.FieldType.boolean), (Option.none : Option Jvm.ClassFile.FieldType), (Option.none : Option Jvm.ClassFile.FieldType), (Option.some Jvm.ClassFile.FieldType.long), (Option.some Jvm.ClassFile.FieldType.long), (Option.some Jvm.ClassFile.FieldType.int), (Option.some Jvm.ClassFile.FieldType.int), (Option.some Jvm.ClassFile.FieldType.long), (Option.some Jvm.ClassFile.FieldType.int), (Option.some Jvm.ClassFile.FieldType.int), (Option.some Jvm.ClassFile.FieldType.int), (Option.some Jvm.ClassFile.FieldType.int), (Option.some Jvm.ClassFile.FieldType.int), (Option.none : Option Jvm.ClassFile.FieldType), (Option.some Jvm.ClassFile.FieldType.int), (Option.some Jvm.ClassFile.FieldType.int), (Option.some Jvm.ClassFile.FieldType.int), (Option.some Jvm.ClassFile.FieldType.int), (Option.some Jvm.ClassFile.FieldType.int), (Option.some Jvm.ClassFile.FieldType.int), (Option.some Jvm.ClassFile.FieldType.int), (Option.some Jvm.ClassFile.FieldType.int), (Option.some Jvm.ClassFile.FieldType.int), (Option.some Jvm.ClassFile.FieldType.int), (Option.some Jvm.ClassFile.FieldType.int), (Option.some Jvm.ClassFile.FieldType.int), (Option.some Jvm.ClassFile.FieldType.int), (Option.some Jvm.ClassFile.FieldType.long), (Option.some Jvm.ClassFile.FieldType.int), (Option.none : Option Jvm.ClassFile.FieldType), (Option.none : Option Jvm.ClassFile.FieldType), (Option.some Jvm.ClassFile.FieldType.boolean)]
def LWs : List (Nat × Nat × Nat) := [(0, 0, 207), (0, 1, 209), (0, 2, 211), (0, 3, 213), (0, 4, 215), (1, 0, 318), (1, 1, 320), (1, 2, 322), (1, 3, 324), (1, 4, 326), (1, 5, 328), (1, 6, 330), (1, 7, 332), (1, 8, 334), (1, 9, 336), (1, 10, 338), (1, 11, 340), (1, 12, 342), (2, 0, 134), (3, 0, 271), (3, 1, 273), (3, 2, 275), (3, 3, 277), (3, 4, 279), (3, 5, 281), (4, 0, 191), (4, 1, 193), (4, 2, 195), (4, 3, 197), (5, 0, 158), (5, 1, 160), (5, 2, 162), (5, 3, 164), (5, 4, 166), (5, 5, 168), (6, 0, 116), (6, 1, 118), (6, 2, 120), (6, 3, 122), (7, 0, 356), (7, 1, 358), (7, 2, 360), (8, 0, 234), (8, 1, 236), (8, 2, 238), (8, 3, 240), (8, 4, 242), (9, 0, 375), (9, 1, 377), (9, 2, 379), (9, 3, 381), (9, 4, 383), (9, 5, 385), (9, 6, 387), (9, 7, 389), (9, 8, 391), (9, 9, 393), (9, 10, 395), (9, 11, 397), (10, 0, 977), (10, 1, 979), (10, 2, 981), (10, 3, 983), (10, 4, 985), (10, 5, 987), (10, 6, 989), (10, 7, 991), (10, 8, 993), (10, 9, 995), (10, 10, 997), (10, 11, 999), (10, 12, 1001), (10, 13, 1003), (10, 14, 1005), (10, 15, 1007), (10, 16, 1009), (10, 17, 1011), (10, 18, 1013), (10, 19, 1015), (10, 20, 1017), (10, 21, 1019), (10, 22, 1021), (10, 23, 1023), (10, 24, 1025), (10, 25, 1027), (10, 26, 1029), (10, 27, 1031), (10, 28, 1033), (10, 29, 1035), (10, 30, 1037), (10, 31, 1039), (10, 32, 1041), (10, 33, 1043), (10, 34, 1045), (10, 35, 1047), (10, 36, 1049), (10, 37, 1051), (10, 38, 1053), (10, 39, 1055), (10, 40, 1057), (10, 41, 1059), (10, 42, 1061), (10, 43, 1063), (10, 44, 1065), (10, 45, 1067), (10, 46, 1069), (10, 47, 1071), (10, 48, 1073), (10, 49, 1075), (10, 50, 1077), (10, 51, 1079), (10, 52, 1081), (10, 53, 1083), (10, 54, 1085)]
def LFs : List (Nat × Nat × Nat × Nat × Nat) := [(0, 14, 0, 0, 200), (0, 20, 0, 1, 202), (0, 27, 0, 2, 204), (0, 31, 0, 3, 205), (0, 34, 0, 4, 206), (0, 37, 5, 5, 154), (0, 41, 1, 0, 294), (0, 51, 1, 8, 312), (0, 58, 1, 3, 299), (0, 113, 1, 6, 306), (0, 120, 1, 7, 309), (1, 12, 1, 2, 297), (1, 23, 1, 3, 298), (1, 27, 1, 4, 301), (1, 31, 1, 5, 303), (1, 34, 1, 6, 305), (1, 37, 1, 7, 308), (1, 40, 1, 0, 293), (1, 44, 1, 1, 296), (1, 48, 1, 8, 311), (1, 52, 5, 5, 155), (1, 55, 3, 4, 265), (1, 68, 3, 5, 269), (1, 72, 3, 0, 251), (1, 75, 3, 1, 255), (1, 78, 3, 2, 259), (1, 81, 1, 10, 315), (1, 85, 1, 12, 317), (1, 95, 1, 9, 314), (1, 98, 1, 11, 316), (2, 9, 2, 0, 133), (2, 31, 3, 4, 267), (2, 37, 3, 0, 252), (2, 40, 3, 1, 256), (2, 43, 3, 2, 260), (3, 9, 3, 0, 250), (3, 15, 3, 1, 254), (3, 18, 3, 2, 258), (3, 21, 3, 3, 262), (3, 25, 3, 4, 264), (3, 28, 3, 5, 268), (3, 42, 4, 0, 179), (3, 48, 4, 3, 190), (3, 51, 4, 2, 187), (3, 54, 4, 1, 183), (4, 7, 4, 1, 181), (4, 13, 4, 3, 188), (4, 24, 4, 0, 177), (4, 27, 4, 2, 185), (5, 7, 5, 4, 153), (5, 13, 5, 0, 149), (5, 17, 5, 1, 150), (5, 20, 5, 2, 151), (5, 23, 5, 3, 152), (5, 37, 5, 5, 156), (5, 31, 4, 1, 182), (5, 26, 4, 0, 178), (5, 35, 4, 3, 189), (5, 33, 4, 2, 186), (6, 9, 6, 0, 112), (6, 15, 6, 1, 113), (6, 18, 6, 2, 114), (6, 21, 6, 3, 115), (7, 9, 7, 0, 350), (7, 15, 7, 1, 352), (7, 19, 7, 2, 354), (8, 9, 8, 0, 226), (8, 22, 8, 3, 231), (8, 15, 8, 1, 228), (9, 11, 9, 0, 363), (9, 17, 9, 1, 364), (9, 23, 9, 2, 365), (9, 27, 9, 3, 366), (9, 34, 9, 4, 367), (9, 41, 9, 5, 368), (9, 45, 9, 6, 369), (9, 51, 9, 7, 370), (9, 58, 9, 8, 371), (9, 65, 9, 9, 372), (9, 74, 9, 10, 373), (9, 90, 3, 3, 263), (9, 97, 3, 4, 266), (9, 135, 7, 1, 353), (9, 138, 7, 2, 355), (9, 144, 7, 0, 351), (9, 158, 1, 8, 313), (9, 161, 1, 3, 300), (9, 165, 5, 5, 157), (9, 350, 1, 0, 295), (9, 354, 3, 5, 270), (9, 230, 3, 0, 253), (9, 236, 3, 1, 257), (9, 183, 3, 2, 261), (9, 233, 1, 4, 302), (9, 239, 1, 5, 304), (9, 242, 1, 6, 307), (9, 245, 1, 7, 310), (9, 275, 0, 0, 201), (9, 278, 0, 1, 203), (9, 294, 4, 0, 180), (9, 298, 4, 1, 184), (9, 304, 9, 11, 374), (9, 316, 8, 1, 229), (9, 319, 8, 2, 230), (9, 322, 8, 3, 232), (9, 323, 8, 4, 233), (9, 331, 8, 0, 227), (10, 7, 10, 0, 922), (10, 13, 10, 1, 923), (10, 17, 10, 2, 924), (10, 20, 10, 3, 925), (10, 23, 10, 4, 926), (10, 26, 10, 5, 927), (10, 29, 10, 6, 928), (10, 32, 10, 7, 929), (10, 35, 10, 8, 930), (10, 39, 10, 9, 931), (10, 42, 10, 10, 932), (10, 46, 10, 11, 933), (10, 50, 10, 12, 934), (10, 53, 10, 13, 935), (10, 56, 10, 14, 936), (10, 59, 10, 15, 937), (10, 62, 10, 16, 938), (10, 65, 10, 17, 939), (10, 68, 10, 18, 940), (10, 71, 10, 19, 941), (10, 74, 10, 20, 942), (10, 77, 10, 21, 943), (10, 80, 10, 22, 944), (10, 83, 10, 23, 945), (10, 86, 10, 24, 946), (10, 89, 10, 25, 947), (10, 92, 10, 26, 948), (10, 96, 10, 27, 949), (10, 99, 10, 28, 950), (10, 102, 10, 29, 951), (10, 105, 10, 30, 952), (10, 108, 10, 31, 953), (10, 111, 10, 32, 954), (10, 114, 10, 33, 955), (10, 117, 10, 34, 956), (10, 120, 10, 35, 957), (10, 123, 10, 36, 958), (10, 126, 10, 37, 959), (10, 129, 10, 38, 960), (10, 132, 10, 39, 961), (10, 135, 10, 40, 962), (10, 138, 10, 41, 963), (10, 141, 10, 42, 964), (10, 144, 10, 43, 965), (10, 147, 10, 44, 966), (10, 150, 10, 45, 967), (10, 153, 10, 46, 968), (10, 156, 10, 47, 969), (10, 159, 10, 48, 970), (10, 162, 10, 49, 971), (10, 165, 10, 50, 972), (10, 168, 10, 51, 973), (10, 171, 10, 52, 974), (10, 174, 10, 53, 975), (10, 177, 10, 54, 976)]
def LMs : List (Nat × Nat × Nat) := [(0, 141, 80), (1, 765, 80), (2, 769, 80), (3, 775, 80), (4, 782, 80), (5, 786, 80), (6, 803, 80), (7, 810, 80), (8, 287, 85), (9, 538, 85), (10, 542, 85), (11, 546, 85), (12, 550, 85), (13, 554, 85), (14, 558, 85), (15, 562, 85), (16, 566, 85), (17, 570, 85), (18, 623, 85), (19, 627, 85), (20, 632, 85), (21, 659, 85), (22, 663, 85), (23, 667, 85), (24, 671, 85), (25, 715, 85), (26, 724, 85), (27, 728, 85), (28, 746, 85), (29, 752, 85), (30, 835, 85), (31, 839, 85), (32, 131, 79), (33, 457, 79), (34, 461, 79), (35, 469, 79), (36, 476, 79), (37, 480, 79), (38, 484, 79), (39, 488, 79), (40, 497, 79), (41, 510, 79), (42, 248, 84), (43, 411, 84), (44, 426, 84), (45, 430, 84), (46, 434, 84), (47, 449, 84), (48, 640, 84), (49, 644, 84), (50, 701, 84), (51, 825, 84), (52, 175, 82), (53, 574, 82), (54, 648, 82), (55, 790, 82), (56, 794, 82), (57, 147, 81), (58, 582, 81), (59, 586, 81), (60, 590, 81), (61, 594, 81), (62, 636, 81), (63, 738, 81), (64, 110, 78), (65, 603, 78), (66, 607, 78), (67, 611, 78), (68, 615, 78), (69, 619, 78), (70, 348, 86), (71, 892, 86), (72, 907, 86), (73, 224, 83), (74, 863, 83), (75, 876, 83), (76, 96, 77), (77, 403, 77), (78, 407, 77), (79, 415, 77), (80, 419, 77), (81, 422, 77), (82, 441, 77), (83, 445, 77), (84, 453, 77), (85, 493, 77), (86, 502, 77), (87, 506, 77), (88, 514, 77), (89, 517, 77), (90, 521, 77), (91, 526, 77), (92, 530, 77), (93, 534, 77), (94, 578, 77), (95, 599, 77), (96, 675, 77), (97, 680, 77), (98, 684, 77), (99, 688, 77), (100, 697, 77), (101, 706, 77), (102, 711, 77), (103, 720, 77), (104, 734, 77), (105, 742, 77), (106, 756, 77), (107, 761, 77), (108, 817, 77), (109, 821, 77), (110, 831, 77), (111, 846, 77), (112, 850, 77), (113, 854, 77), (114, 859, 77), (115, 872, 77), (116, 880, 77), (117, 884, 77), (118, 888, 77), (119, 899, 77), (120, 903, 77), (121, 912, 77), (122, 915, 77), (123, 920, 87), (124, 1092, 87), (125, 1096, 87), (126, 1100, 87), (127, 1104, 87), (128, 1108, 87), (129, 1112, 87), (130, 1116, 87), (131, 1120, 87), (132, 1124, 87), (133, 1128, 87), (134, 1132, 87), (135, 1136, 87), (136, 1140, 87), (137, 1144, 87), (138, 1148, 87), (139, 1152, 87), (140, 1156, 87), (141, 1160, 87), (142, 1164, 87), (143, 1169, 87), (144, 1173, 87), (145, 1177, 87), (146, 1181, 87), (147, 1185, 87), (148, 1189, 87), (149, 1193, 87), (150, 1197, 87), (151, 1201, 87), (152, 1205, 87), (153, 1209, 87), (154, 1213, 87), (155, 1217, 87), (156, 1221, 87), (157, 1225, 87), (158, 1229, 87), (159, 1233, 87), (160, 1237, 87), (161, 1242, 87), (162, 1246, 87), (163, 1250, 87), (164, 1254, 87), (165, 1258, 87), (166, 1262, 87), (167, 1266, 87), (168, 1270, 87), (169, 1274, 87), (170, 1278, 87), (171, 1282, 87), (172, 1287, 87), (173, 1291, 87), (174, 1295, 87), (175, 1299, 87), (176, 1303, 87), (177, 1307, 87), (178, 1311, 87), (179, 1315, 87), (180, 1319, 87), (181, 1323, 87), (182, 1327, 87), (183, 1331, 87), (184, 1335, 87), (185, 1339, 87), (186, 1343, 87), (187, 1347, 87), (188, 1351, 87), (189, 1355, 87), (190, 1359, 87), (191, 1363, 87), (192, 1367, 87), (193, 1371, 87), (194, 1375, 87), (195, 1379, 87), (196, 1383, 87), (197, 1387, 87), (198, 1391, 87), (199, 1395, 87), (200, 1399, 87), (201, 1403, 87), (202, 1407, 87), (203, 1411, 87), (204, 1415, 87), (205, 1419, 87), (206, 1423, 87), (207, 1427, 87), (208, 798, 91), (209, 472, 90), (210, 651, 90), (211, 806, 90), (212, 465, 89), (213, 895, 89)]
def LKs : List (Nat × Nat × Nat × Nat × Nat × Nat × Nat × Nat) := [(0, 3, 5, 0, 0, 142, 0, 0), (0, 11, 3, 57, 1, 145, 146, 0), (0, 26, 4, 52, 0, 173, 174, 0), (0, 47, 0, 2, 2, 766, 768, 18), (0, 54, 0, 3, 4, 772, 774, 19), (0, 61, 0, 62, 2, 770, 634, 635), (0, 65, 0, 50, 1, 771, 699, 700), (0, 71, 0, 15, 1, 776, 560, 561), (0, 75, 0, 16, 1, 777, 564, 565), (0, 78, 0, 17, 1, 778, 568, 569), (0, 81, 0, 4, 4, 779, 781, 20), (0, 84, 0, 53, 3, 799, 572, 573), (0, 88, 0, 6, 2, 800, 802, 22), (0, 92, 1, 211, 1, 804, 805, 0), (0, 97, 0, 7, 1, 807, 809, 23), (0, 123, 0, 5, 4, 783, 785, 21), (0, 116, 0, 55, 3, 787, 788, 789), (0, 100, 0, 58, 1, 811, 580, 581), (0, 103, 0, 61, 2, 812, 592, 593), (0, 107, 6, 0, 0, 813, 0, 0), (1, 3, 5, 0, 0, 288, 0, 0), (1, 11, 4, 52, 0, 290, 174, 0), (1, 20, 3, 57, 1, 292, 146, 0), (1, 60, 0, 10, 2, 539, 541, 7), (1, 64, 0, 13, 2, 551, 553, 10), (1, 88, 0, 11, 2, 543, 545, 8), (1, 92, 0, 12, 2, 547, 549, 9), (1, 101, 0, 14, 3, 555, 557, 11), (1, 105, 0, 15, 1, 559, 560, 561), (1, 109, 0, 16, 1, 563, 564, 565), (1, 112, 0, 17, 1, 567, 568, 569), (1, 115, 0, 53, 3, 571, 572, 573), (1, 119, 0, 58, 1, 579, 580, 581), (1, 123, 0, 60, 2, 587, 588, 589), (1, 127, 0, 61, 2, 591, 592, 593), (1, 134, 0, 19, 1, 624, 625, 626), (1, 167, 0, 20, 1, 629, 630, 631), (1, 130, 2, 94, 2, 628, 577, 0), (1, 140, 0, 62, 2, 633, 634, 635), (1, 147, 0, 48, 1, 637, 638, 639), (1, 151, 0, 65, 0, 652, 601, 602), (1, 156, 0, 49, 2, 653, 642, 643), (1, 160, 0, 66, 2, 654, 605, 606), (1, 163, 0, 67, 0, 655, 609, 610), (1, 170, 0, 22, 1, 660, 661, 662), (1, 137, 0, 24, 1, 668, 669, 670), (1, 174, 0, 44, 2, 716, 424, 425), (1, 144, 0, 50, 1, 747, 699, 700), (1, 178, 0, 63, 2, 840, 736, 737), (1, 182, 0, 26, 1, 841, 722, 723), (1, 185, 0, 27, 1, 842, 726, 727), (2, 3, 5, 0, 0, 132, 0, 0), (2, 28, 0, 34, 0, 458, 459, 460), (2, 46, 0, 35, 3, 466, 467, 468), (2, 16, 1, 212, 2, 463, 464, 0), (2, 22, 1, 209, 2, 470, 471, 0), (2, 50, 0, 37, 1, 477, 478, 479), (2, 54, 0, 38, 3, 481, 483, 4), (2, 58, 2, 81, 3, 489, 421, 0), (2, 62, 0, 45, 3, 498, 428, 429), (3, 3, 5, 0, 0, 249, 0, 0), (3, 32, 0, 46, 2, 431, 433, 2), (3, 36, 6, 0, 0, 435, 0, 0), (3, 61, 0, 49, 2, 641, 642, 643), (3, 65, 1, 210, 2, 649, 650, 0), (3, 57, 0, 54, 0, 645, 646, 647), (3, 71, 0, 48, 1, 702, 638, 639), (4, 1, 5, 0, 0, 176, 0, 0), (4, 18, 2, 94, 2, 576, 577, 0), (4, 30, 0, 56, 2, 791, 792, 793), (4, 34, 0, 54, 0, 795, 646, 647), (4, 38, 1, 208, 2, 796, 797, 0), (5, 1, 5, 0, 0, 148, 0, 0), (5, 40, 0, 59, 2, 583, 585, 12), (5, 44, 6, 0, 0, 595, 0, 0), (6, 3, 5, 0, 0, 111, 0, 0), (6, 25, 0, 68, 1, 612, 614, 14), (6, 29, 0, 69, 3, 616, 618, 15), (7, 3, 5, 0, 0, 349, 0, 0), (7, 22, 1, 213, 2, 893, 894, 0), (8, 3, 5, 0, 0, 225, 0, 0), (9, 3, 5, 0, 0, 97, 0, 0), (9, 33, 4, 64, 0, 108, 109, 0), (9, 40, 4, 32, 0, 129, 130, 0), (9, 50, 4, 0, 0, 139, 140, 0), (9, 57, 4, 52, 0, 219, 174, 0), (9, 64, 4, 73, 0, 222, 223, 0), (9, 69, 4, 42, 0, 246, 247, 0), (9, 70, 3, 8, 2, 285, 286, 0), (9, 73, 4, 70, 0, 346, 347, 0), (9, 78, 0, 78, 1, 404, 406, 0), (9, 361, 0, 43, 1, 408, 409, 410), (9, 82, 0, 80, 1, 416, 418, 1), (9, 86, 1, 81, 3, 420, 421, 0), (9, 93, 0, 44, 2, 423, 424, 425), (9, 100, 0, 45, 3, 427, 428, 429), (9, 104, 0, 83, 3, 442, 444, 3), (9, 108, 0, 47, 1, 446, 447, 448), (9, 112, 0, 33, 1, 454, 455, 456), (9, 116, 0, 36, 2, 473, 474, 475), (9, 120, 0, 39, 0, 485, 486, 487), (9, 124, 0, 85, 2, 490, 492, 5), (9, 364, 0, 40, 1, 494, 495, 496), (9, 128, 0, 41, 2, 507, 508, 509), (9, 132, 1, 89, 1, 515, 516, 0), (9, 141, 0, 34, 0, 518, 459, 460), (9, 147, 1, 90, 2, 519, 520, 0), (9, 151, 0, 35, 3, 522, 467, 468), (9, 154, 0, 93, 1, 531, 533, 6), (9, 168, 0, 95, 1, 596, 598, 13), (9, 172, 0, 18, 0, 620, 621, 622), (9, 175, 0, 21, 0, 656, 657, 658), (9, 179, 0, 23, 1, 664, 665, 666), (9, 358, 0, 9, 0, 535, 536, 537), (9, 261, 0, 65, 0, 600, 601, 602), (9, 265, 0, 66, 2, 604, 605, 606), (9, 268, 0, 67, 0, 608, 609, 610), (9, 187, 0, 98, 1, 681, 683, 16), (9, 190, 0, 99, 3, 685, 687, 17), (9, 195, 0, 48, 1, 691, 638, 639), (9, 199, 0, 54, 0, 692, 646, 647), (9, 203, 1, 94, 2, 693, 577, 0), (9, 290, 0, 53, 3, 689, 572, 573), (9, 207, 0, 50, 1, 698, 699, 700), (9, 211, 0, 22, 1, 707, 661, 662), (9, 214, 0, 25, 1, 712, 713, 714), (9, 218, 0, 26, 1, 721, 722, 723), (9, 221, 0, 27, 1, 725, 726, 727), (9, 224, 0, 19, 1, 729, 625, 626), (9, 227, 0, 24, 1, 730, 669, 670), (9, 248, 0, 63, 2, 735, 736, 737), (9, 252, 0, 28, 1, 743, 744, 745), (9, 255, 0, 20, 1, 748, 630, 631), (9, 258, 0, 29, 1, 749, 750, 751), (9, 262, 0, 37, 1, 757, 478, 479), (9, 271, 0, 1, 2, 762, 763, 764), (9, 281, 0, 51, 0, 822, 823, 824), (9, 284, 0, 17, 1, 826, 568, 569), (9, 287, 0, 15, 1, 827, 560, 561), (9, 301, 0, 30, 0, 832, 833, 834), (9, 307, 0, 31, 1, 836, 837, 838), (9, 311, 1, 209, 2, 855, 471, 0), (9, 324, 0, 74, 1, 860, 861, 862), (9, 327, 1, 115, 4, 870, 871, 0), (9, 367, 0, 75, 1, 873, 874, 875), (9, 334, 0, 71, 2, 889, 890, 891), (9, 337, 0, 72, 2, 904, 905, 906), (9, 341, 6, 0, 0, 908, 0, 0), (9, 347, 1, 122, 2, 913, 914, 0), (10, 1, 5, 0, 0, 921, 0, 0), (10, 184, 0, 126, 1, 1097, 1099, 24), (10, 180, 0, 127, 3, 1101, 1103, 25), (10, 188, 0, 128, 3, 1105, 1107, 26), (10, 192, 0, 129, 4, 1109, 1111, 27), (10, 196, 0, 132, 1, 1121, 1123, 28), (10, 200, 0, 133, 1, 1125, 1127, 29), (10, 203, 0, 134, 1, 1129, 1131, 30), (10, 207, 0, 138, 2, 1145, 1147, 31), (10, 226, 0, 141, 1, 1157, 1159, 32), (10, 229, 0, 142, 3, 1161, 1163, 33), (10, 234, 0, 143, 4, 1166, 1168, 34), (10, 219, 0, 146, 1, 1178, 1180, 37), (10, 222, 0, 144, 3, 1170, 1172, 35), (10, 211, 0, 145, 2, 1174, 1176, 36), (10, 215, 0, 147, 1, 1182, 1184, 38), (10, 238, 0, 149, 1, 1190, 1192, 39), (10, 296, 0, 151, 1, 1198, 1200, 40), (10, 299, 0, 156, 1, 1218, 1220, 45), (10, 302, 0, 161, 1, 1239, 1241, 50), (10, 305, 0, 167, 1, 1263, 1265, 56), (10, 308, 0, 170, 1, 1275, 1277, 59), (10, 247, 0, 152, 2, 1202, 1204, 41), (10, 251, 0, 153, 0, 1206, 1208, 42), (10, 241, 0, 154, 3, 1210, 1212, 43), (10, 244, 0, 155, 3, 1214, 1216, 44), (10, 292, 0, 157, 2, 1222, 1224, 46), (10, 285, 0, 158, 3, 1226, 1228, 47), (10, 288, 0, 160, 4, 1234, 1236, 49), (10, 279, 0, 159, 3, 1230, 1232, 48), (10, 267, 0, 162, 1, 1243, 1245, 51), (10, 270, 0, 165, 1, 1255, 1257, 54), (10, 255, 0, 163, 5, 1247, 1249, 52), (10, 259, 0, 164, 7, 1251, 1253, 53), (10, 263, 0, 166, 4, 1259, 1261, 55), (10, 276, 0, 168, 2, 1267, 1269, 57), (10, 273, 0, 169, 1, 1271, 1273, 58), (10, 312, 0, 174, 2, 1292, 1294, 60), (10, 330, 0, 180, 2, 1316, 1318, 61), (10, 315, 0, 181, 2, 1320, 1322, 62), (10, 318, 0, 182, 1, 1324, 1326, 63), (10, 321, 0, 183, 2, 1328, 1330, 64), (10, 324, 0, 184, 2, 1332, 1334, 65), (10, 327, 0, 185, 1, 1336, 1338, 66), (10, 333, 0, 189, 1, 1352, 1354, 67), (10, 345, 0, 194, 2, 1372, 1374, 68), (10, 351, 0, 198, 2, 1388, 1390, 72), (10, 357, 0, 200, 2, 1396, 1398, 74), (10, 342, 0, 195, 2, 1376, 1378, 69), (10, 339, 0, 197, 2, 1384, 1386, 71), (10, 336, 0, 196, 1, 1380, 1382, 70), (10, 348, 0, 199, 2, 1392, 1394, 73), (10, 354, 0, 201, 2, 1400, 1402, 75), (11, 9, 3, 76, 0, 94, 95, 0), (11, 12, 3, 123, 0, 918, 919, 0), (11, 13, 0, 77, 0, 400, 401, 402), (11, 17, 0, 124, 0, 1089, 1090, 1091), (11, 18, 0, 79, 4, 412, 413, 414), (11, 22, 0, 125, 4, 1093, 1094, 1095), (11, 23, 0, 82, 3, 438, 439, 440), (11, 27, 0, 130, 3, 1113, 1114, 1115), (11, 28, 0, 84, 2, 450, 451, 452), (11, 32, 0, 131, 2, 1117, 1118, 1119), (11, 33, 0, 86, 2, 499, 500, 501), (11, 36, 0, 135, 2, 1133, 1134, 1135), (11, 37, 0, 87, 3, 503, 504, 505), (11, 40, 0, 136, 3, 1137, 1138, 1139), (11, 41, 0, 88, 4, 511, 512, 513), (11, 44, 0, 137, 4, 1141, 1142, 1143), (11, 45, 0, 91, 0, 523, 524, 525), (11, 48, 0, 139, 0, 1149, 1150, 1151), (11, 49, 0, 92, 2, 527, 528, 529), (11, 52, 0, 150, 2, 1194, 1195, 1196), (11, 53, 0, 96, 3, 672, 673, 674), (11, 56, 0, 171, 3, 1279, 1280, 1281), (11, 57, 0, 97, 5, 677, 678, 679), (11, 61, 0, 140, 5, 1153, 1154, 1155), (11, 62, 0, 100, 4, 694, 695, 696), (11, 65, 0, 148, 4, 1186, 1187, 1188), (11, 66, 0, 101, 3, 703, 704, 705), (11, 69, 0, 172, 3, 1284, 1285, 1286), (11, 70, 0, 102, 2, 708, 709, 710), (11, 73, 0, 173, 2, 1288, 1289, 1290), (11, 74, 0, 103, 3, 717, 718, 719), (11, 77, 0, 175, 3, 1296, 1297, 1298), (11, 78, 0, 104, 4, 731, 732, 733), (11, 82, 0, 176, 4, 1300, 1301, 1302), (11, 83, 0, 105, 3, 739, 740, 741), (11, 87, 0, 177, 3, 1304, 1305, 1306), (11, 88, 0, 106, 2, 753, 754, 755), (11, 91, 0, 178, 2, 1308, 1309, 1310), (11, 92, 0, 107, 2, 758, 759, 760), (11, 95, 0, 179, 2, 1312, 1313, 1314), (11, 96, 0, 108, 4, 814, 815, 816), (11, 99, 0, 186, 4, 1340, 1341, 1342), (11, 100, 0, 109, 3, 818, 819, 820), (11, 103, 0, 187, 3, 1344, 1345, 1346), (11, 104, 0, 110, 1, 828, 829, 830), (11, 108, 0, 188, 1, 1348, 1349, 1350), (11, 109, 0, 111, 1, 843, 844, 845), (11, 113, 0, 190, 1, 1356, 1357, 1358), (11, 116, 0, 112, 2, 847, 848, 849), (11, 120, 0, 191, 2, 1360, 1361, 1362), (11, 121, 0, 113, 1, 851, 852, 853), (11, 124, 0, 192, 1, 1364, 1365, 1366), (11, 125, 0, 114, 3, 856, 857, 858), (11, 128, 0, 193, 3, 1368, 1369, 1370), (11, 129, 0, 116, 1, 877, 878, 879), (11, 132, 0, 202, 1, 1404, 1405, 1406), (11, 133, 0, 117, 1, 881, 882, 883), (11, 136, 0, 203, 1, 1408, 1409, 1410), (11, 137, 0, 118, 3, 885, 886, 887), (11, 140, 0, 204, 3, 1412, 1413, 1414), (11, 141, 0, 119, 3, 896, 897, 898), (11, 144, 0, 205, 3, 1416, 1417, 1418), (11, 145, 0, 120, 5, 900, 901, 902), (11, 149, 0, 206, 5, 1420, 1421, 1422), (11, 150, 0, 121, 2, 909, 910, 911), (11, 153, 0, 207, 2, 1424, 1425, 1426)]
def LCs : List (Nat × Nat × Int × Nat) := [(2, 15, 1000000, 462), (9, 182, (-100000), 676), (10, 311, (-100000), 1283)]
def LLs : List (Nat × Nat × Int × Nat) := [(4, 16, (-1), 575), (9, 193, (-4611686018427387904), 690), (10, 232, (-4611686018427387904), 1165), (10, 283, (-1), 1238), (11, 114, 4294967295, 1428)]
def LNs : List (Nat × Nat × Nat × Nat × Nat × Nat) := [(0, 9, 5, 143, 144, 81), (0, 24, 4, 171, 172, 82), (1, 9, 4, 289, 172, 82), (1, 18, 5, 291, 144, 81), (9, 31, 6, 106, 107, 78), (9, 38, 2, 127, 128, 79), (9, 48, 0, 137, 138, 80), (9, 55, 4, 218, 172, 82), (9, 62, 8, 220, 221, 83), (9, 9, 3, 100, 245, 84), (9, 15, 1, 102, 284, 85), (9, 21, 7, 104, 345, 86), (11, 7, 9, 92, 93, 77), (11, 10, 10, 916, 917, 87)]
def LAs : List (Nat × Nat × Nat × Nat) := [(9, 9, 15, 100), (9, 15, 16, 102), (9, 21, 17, 104)]
def LSs : List (Nat × Nat × Nat × Nat) := [(8, 19, 1, 864), (8, 25, 2, 866), (8, 28, 3, 868)]
def rN (i : Nat) : String := rNs.getD i ""
def mY (f : Nat) : MethodName := mYs.getD f ⟨"", "", ""⟩
def mB (f : Nat) : ByteArray := mBs.getD f ⟨#[]⟩
def mR (f : Nat) : Option FieldType := mRs.getD f none
def TF : Nat → u_T := fun c => match c with
  | 0 => TX0 | 1 => TX1 | 2 => TX2 | 3 => TX3 | 4 => TX4 | 5 => TX5 | 6 => TX6 | 7 => TX7 | 8 => TX8 | 9 => TX9 | _ => TX10
def tyF : Nat → Nat → FieldType := fun c => match c with
  | 0 => tyX0 | 1 => tyX1 | 2 => tyX2 | 3 => tyX3 | 4 => tyX4 | 5 => tyX5 | 6 => tyX6 | 7 => tyX7 | 8 => tyX8 | 9 => tyX9 | _ => tyX10
def BIG : List Cond := lw_tbl.filter goodWord
def isNest : Cond → Bool
  | .methodLinkNest .. => true
  | .fieldLinkNest .. => true
  | _ => false
def nestW : List Cond := lw_tbl.filter isNest
def inT (i : Nat) (w : Cond) : Bool := decide (lw_tbl[i]? = some w) && goodWord w
def inN (i : Nat) (w : Cond) : Bool := decide (lw_tbl[i]? = some w) && isNest w
theorem inT_big {i : Nat} {w : Cond} (h : inT i w = true) : w ∈ BIG := by
  unfold inT at h
  rw [Bool.and_eq_true, decide_eq_true_iff] at h
  exact List.mem_filter.mpr ⟨List.mem_of_getElem? h.1, h.2⟩
theorem inN_nest {i : Nat} {w : Cond} (h : inN i w = true) : w ∈ nestW := by
  unfold inN at h
  rw [Bool.and_eq_true, decide_eq_true_iff] at h
  exact List.mem_filter.mpr ⟨List.mem_of_getElem? h.1, h.2⟩
/-- fields' layouts, fields' links -/
def ckW (e : Nat × Nat × Nat) : Bool := inT e.2.2 (u_lay (rN e.1) (TF e.1) e.2.1)
def ckF (e : Nat × Nat × Nat × Nat × Nat) : Bool := inT e.2.2.2.2 (.fieldLink (rN e.1) e.2.1 (TF e.2.2.1 e.2.2.2.1).1 (TF e.2.2.1 e.2.2.2.1).2.1 (TF e.2.2.1 e.2.2.2.1).2.2.1)
/-- calls: own, index, sort (0 virtual, 1 static, 2 static by the nest, 3 special, 4 special by the nest), method, how many parameters, places -/
def ckK (e : Nat × Nat × Nat × Nat × Nat × Nat × Nat × Nat) : Bool := match e with
  | (oi, ix, so, f, n, p1, p2, p3) => (match so with
    | 0 => inT p1 (.methodLink (rN oi) ix (mY f)) && inT p2 (.instanceMethod (mY f)) && inT p3 (.selects (mY f).cls (mY f) (mY f))
    | 1 => inT p1 (.methodLink (rN oi) ix (mY f)) && inT p2 (.static (mY f))
    | 2 => inN p1 (.methodLinkNest (rN oi) ix (mY f) "CornerCurves") && inT p2 (.static (mY f))
    | 3 => inT p1 (.methodLink (rN oi) ix (mY f)) && inT p2 (.instanceMethod (mY f)) && decide ((mY f).name = "<init>")
    | 4 => inN p1 (.methodLinkNest (rN oi) ix (mY f) "CornerCurves") && inT p2 (.instanceMethod (mY f)) && decide ((mY f).name = "<init>")
    | 5 => inT p1 (.methodLink (rN oi) ix objectInit)
    | _ => inT p1 (.methodLink (rN oi) ix arraycopyName))
def ckC (e : Nat × Nat × Int × Nat) : Bool := inT e.2.2.2 (.constant (rN e.1) e.2.1 (i3 e.2.2.1))
def ckL (e : Nat × Nat × Int × Nat) : Bool := inT e.2.2.2 (.constantLong (rN e.1) e.2.1 (i6 e.2.2.1))
def ckN (e : Nat × Nat × Nat × Nat × Nat × Nat) : Bool := match e with
  | (oi, ix, ci, p1, p2, p3) => inT p1 (.classLink (rN oi) ix (rN ci)) && inT p2 (.instantiable (rN ci) (NF ci)) && inT p3 (.initialized (rN ci)) && decide (ci < 11)
def arN (kd : Nat) : String := if kd = 15 then "CornerCurves$Form" else if kd = 16 then "CornerCurves$Curve" else "CornerCurves$Sheet"
def ckA (e : Nat × Nat × Nat × Nat) : Bool := match e with
  | (oi, ix, kd, p1) => inT p1 (.classLink (rN oi) ix (arN kd)) && decide (kd = 15 ∨ kd = 16 ∨ kd = 17)
def stN (a : Nat) : String := if a = 1 then "LIES_BODY" else if a = 2 then "WEIGHS_BODY" else "MEETS_BODY"
def ckS (e : Nat × Nat × Nat × Nat) : Bool := match e with
  | (oi, ix, a, p1) => inN p1 (.fieldLinkNest (rN oi) ix "CornerCurves" (stN a) "[I" "CornerCurves") && decide (a = 1 ∨ a = 2 ∨ a = 3)
def dk (bytes : ByteArray) (q : Nat) (i : Instr) (n : Nat) : Bool := decide (decode bytes q = .ok (i, n))
def tagOf (t : FieldType) : Nat := match t with | .int => 0 | .long => 1 | .boolean => 3 | _ => 2
def refTy (t : FieldType) : Bool := match t with | .object _ => true | .array _ => true | _ => false
def ascp (ps : List (Int × Int)) : Bool := (ps.zip (ps.drop 1)).all (fun (a, n) => a.1 < n.1)
def swOK (pcs : List Nat) (q : Nat) (ts : List Nat) (offs : List Int) : Bool := ts.length == offs.length && (ts.zip offs).all (fun e => decide ((q : Int) + e.2 = ((pcs.getD e.1 0 : Nat) : Int)))
/-- one row of the tables: the instruction at its place in the bytes, and what it links -/
def chkI (oi : Nat) (bytes : ByteArray) (ret : Option FieldType) (isInit : Bool) (pcs : List Nat) (q : Nat) (ins : PI) : Bool :=
  match ins with
  | (i, nx, a, b, c) =>
    let nq := pcs.getD nx 0
    match i with
    | .iconst n => dk bytes q i 1 && nq == q + 1 && decide (Int32.ofInt n = i3 c)
    | .bipush n => dk bytes q i 2 && nq == q + 2 && decide ((Int8.ofInt n).toInt32 = i3 c)
    | .sipush n => dk bytes q i 3 && nq == q + 3 && decide ((Int16.ofInt n).toInt32 = i3 c)
    | .ldc x => dk bytes q i 2 && nq == q + 2 && LCs.any (fun e => e.1 == oi && e.2.1 == x && e.2.2.1 == c)
    | .ldc_w x => dk bytes q i 3 && nq == q + 3 && LCs.any (fun e => e.1 == oi && e.2.1 == x && e.2.2.1 == c)
    | .lconst n => dk bytes q i 1 && nq == q + 1 && decide (Int64.ofNat (n : Nat) = i6 c)
    | .ldc2_w x => dk bytes q i 3 && nq == q + 3 && LLs.any (fun e => e.1 == oi && e.2.1 == x && e.2.2.1 == c)
    | .iload _ => dk bytes q i 2 && nq == q + 2
    | .lload _ => dk bytes q i 2 && nq == q + 2
    | .aload _ => dk bytes q i 2 && nq == q + 2
    | .istore _ => dk bytes q i 2 && nq == q + 2
    | .lstore _ => dk bytes q i 2 && nq == q + 2
    | .astore _ => dk bytes q i 2 && nq == q + 2
    | .iinc _ n => dk bytes q i 3 && nq == q + 3 && n == c
    | .goto n => dk bytes q i 3 && decide ((q : Int) + n = ((pcs.getD a 0 : Nat) : Int))
    | .ifCond _ n => dk bytes q i 3 && nq == q + 3 && decide ((q : Int) + n = ((pcs.getD a 0 : Nat) : Int))
    | .if_icmp _ n => dk bytes q i 3 && nq == q + 3 && decide ((q : Int) + n = ((pcs.getD a 0 : Nat) : Int))
    | .tableswitch d lo hi offs => (match decode bytes q with | .ok (j, _) => decide (j = i) | _ => false) && decide (lo ≤ hi) && decide (offs.size = (hi - lo).toNat + 1) && (match swT[a]? with | some ts => swOK pcs q ts (d :: offs.toList) | none => false)
    | .lookupswitch d ps => (match decode bytes q with | .ok (j, _) => decide (j = i) | _ => false) && ascp ps.toList && (match swT[a]? with | some ts => swOK pcs q ts (d :: ps.toList.map (fun e => e.2)) | none => false)
    | .ireturn => dk bytes q i 1 && (if a = 1 then decide (ret = some .boolean) else decide (a = 0 ∧ ret = some .int))
    | .lreturn => dk bytes q i 1 && decide (ret = some .long)
    | .areturn => dk bytes q i 1 && (match ret with | some t => refTy t | none => false)
    | .return_ => dk bytes q i 1 && decide (ret = none)
    | .getfield x => dk bytes q i 3 && nq == q + 3 && decide (0 ≤ c) && LFs.any (fun e => e.1 == oi && e.2.1 == x && e.2.2.1 == a && e.2.2.2.1 == c.toNat) && tagOf (tyF a c.toNat) == b && decide (a < 11 ∧ c.toNat < NF a)
    | .putfield x => dk bytes q i 3 && nq == q + 3 && decide (0 ≤ c) && LFs.any (fun e => e.1 == oi && e.2.1 == x && e.2.2.1 == a && e.2.2.2.1 == c.toNat) && decide (a < 11 ∧ c.toNat < NF a) &&
        (if (TF a c.toNat).2.2.2 then b == tagOf (tyF a c.toNat) + 10 && isInit && a == oi else b == tagOf (tyF a c.toNat))
    | .getstatic x => dk bytes q i 3 && nq == q + 3 && LSs.any (fun e => e.1 == oi && e.2.1 == x && e.2.2.1 == a)
    | .newarray t => dk bytes q i 2 && nq == q + 2 && (match t with | .int => a == 12 | .long => a == 13 | .boolean => a == 14 | _ => false)
    | .anewarray x => dk bytes q i 3 && nq == q + 3 && LAs.any (fun e => e.1 == oi && e.2.1 == x && e.2.2.1 == a)
    | .new x => dk bytes q i 3 && nq == q + 3 && LNs.any (fun e => e.1 == oi && e.2.1 == x && e.2.2.1 == a)
    | .invokevirtual x => dk bytes q i 3 && nq == q + 3 && LKs.any (fun e => e.1 == oi && e.2.1 == x && e.2.2.1 == 0 && e.2.2.2.1 == a && e.2.2.2.2.1 + 1 == b) && rN (RC a) == (mY a).cls && decide (RC a < 11)
    | .invokestatic x => dk bytes q i 3 && nq == q + 3 && (if c = 6 then LKs.any (fun e => e.1 == oi && e.2.1 == x && e.2.2.1 == 6) else (c == 1 && LKs.any (fun e => e.1 == oi && e.2.1 == x && e.2.2.1 == 1 && e.2.2.2.1 == a && e.2.2.2.2.1 == b)) || (c == 2 && LKs.any (fun e => e.1 == oi && e.2.1 == x && e.2.2.1 == 2 && e.2.2.2.1 == a && e.2.2.2.2.1 == b)))
    | .invokespecial x => dk bytes q i 3 && nq == q + 3 && (if c = 5 then LKs.any (fun e => e.1 == oi && e.2.1 == x && e.2.2.1 == 5) else (mR a == none) && ((c == 3 && LKs.any (fun e => e.1 == oi && e.2.1 == x && e.2.2.1 == 3 && e.2.2.2.1 == a && e.2.2.2.2.1 + 1 == b)) || (c == 4 && LKs.any (fun e => e.1 == oi && e.2.1 == x && e.2.2.1 == 4 && e.2.2.2.1 == a && e.2.2.2.2.1 + 1 == b))))
    | j => dk bytes q j 1 && nq == q + 1
def chkG (oi : Nat) (bytes : ByteArray) (ret : Option FieldType) (isInit : Bool) (pcs : List Nat) : List PI → List Nat → Bool
  | [], _ => true
  | i :: r, q :: qs => chkI oi bytes ret isInit pcs q i && chkG oi bytes ret isInit pcs r qs
  | _ :: _, [] => false
def chkM (f : Nat) : Bool := chkG (RC f) (mB f) (mR f) ((mY f).name == "<init>") (pcss.getD f []) (MCode f) (pcss.getD f [])
theorem LWs_ok : LWs.all ckW = true := by decide +kernel
theorem LFs_ok : LFs.all ckF = true := by decide +kernel
theorem LCs_ok : LCs.all ckC = true := by decide +kernel
theorem LLs_ok : LLs.all ckL = true := by decide +kernel
theorem LNs_ok : LNs.all ckN = true := by decide +kernel
theorem LAs_ok : LAs.all ckA = true := by decide +kernel
theorem LSs_ok : LSs.all ckS = true := by decide +kernel
theorem LMi : LMs.all (fun e => inT e.2.2 (.initialized (mY e.1).cls)) = true := by decide +kernel
theorem LMn : LMs.all (fun e => plainFor (mY e.1) && decide ((mY e.1).cls ≠ "java/lang/invoke/MethodHandle" ∧ (mY e.1).cls ≠ "java/lang/invoke/VarHandle")) = true := by decide +kernel
end
section
theorem LKs_0 : ((LKs.drop 0).take 60).all ckK = true := by decide +kernel
theorem LKs_60 : ((LKs.drop 60).take 60).all ckK = true := by decide +kernel
theorem LKs_120 : ((LKs.drop 120).take 60).all ckK = true := by decide +kernel
theorem LKs_180 : ((LKs.drop 180).take 60).all ckK = true := by decide +kernel
theorem LKs_240 : ((LKs.drop 240).take 60).all ckK = true := by decide +kernel
theorem LKs_n : LKs.all (fun e => decide (e.2.2.1 ≥ 5) || decide ((parseMethodDescriptor (mY e.2.2.2.1).desc).map (fun d => d.parameters.length) = some e.2.2.2.2.1)) = true := by decide +kernel
theorem all_cut {α : Type} (p : α → Bool) (l : List α) (n : Nat) (h1 : (l.take n).all p = true) (h2 : (l.drop n).all p = true) : l.all p = true := by rw [← List.take_append_drop n l, List.all_append, h1, h2]; rfl
theorem LKs_ok : LKs.all ckK = true := (all_cut ckK LKs 60 LKs_0 (all_cut ckK (LKs.drop 60) 60 LKs_60 (by rw [List.drop_drop]; exact (all_cut ckK (LKs.drop 120) 60 LKs_120 (by rw [List.drop_drop]; exact (all_cut ckK (LKs.drop 180) 60 LKs_180 (by rw [List.drop_drop]; exact (all_cut ckK (LKs.drop 240) 60 LKs_240 (by rw [List.drop_drop]; exact (by rw [show LKs.drop 300 = [] from rfl]; rfl))))))))))
set_option maxRecDepth 100000 in
theorem LMw : LMs.map (fun e => lw_tbl[e.2.1]?) = LMs.map (fun e => some (Cond.code (mY e.1) (mB e.1) (mL e.1) (mR e.1))) := rfl
end
section
theorem chk_0 : (List.range' 0 10).all chkM = true := by decide +kernel
theorem chk_10 : (List.range' 10 10).all chkM = true := by decide +kernel
theorem chk_20 : (List.range' 20 21).all chkM = true := by decide +kernel
theorem chk_41 : (List.range' 41 19).all chkM = true := by decide +kernel
end
section
theorem chk_60 : (List.range' 60 17).all chkM = true := by decide +kernel
theorem chk_77 : (List.range' 77 15).all chkM = true := by decide +kernel
theorem chk_92 : (List.range' 92 13).all chkM = true := by decide +kernel
theorem chk_105 : (List.range' 105 10).all chkM = true := by decide +kernel
end
section
theorem chk_115 : (List.range' 115 8).all chkM = true := by decide +kernel
theorem chk_123 : (List.range' 123 6).all chkM = true := by decide +kernel
theorem chk_129 : (List.range' 129 5).all chkM = true := by decide +kernel
theorem chk_134 : (List.range' 134 11).all chkM = true := by decide +kernel
end
section
theorem chk_145 : (List.range' 145 10).all chkM = true := by decide +kernel
theorem chk_155 : (List.range' 155 7).all chkM = true := by decide +kernel
theorem chk_162 : (List.range' 162 2).all chkM = true := by decide +kernel
theorem chk_164 : (List.range' 164 8).all chkM = true := by decide +kernel
end
section
theorem chk_172 : (List.range' 172 8).all chkM = true := by decide +kernel
theorem chk_180 : (List.range' 180 5).all chkM = true := by decide +kernel
theorem chk_185 : (List.range' 185 9).all chkM = true := by decide +kernel
theorem chk_194 : (List.range' 194 18).all chkM = true := by decide +kernel
theorem chk_212 : (List.range' 212 2).all chkM = true := by decide +kernel
end
section
theorem chkG_cut {oi : Nat} {bytes : ByteArray} {ret : Option FieldType} {ii : Bool} {pcs : List Nat} : ∀ (n : Nat) (C : List PI) (qs : List Nat), chkG oi bytes ret ii pcs (C.take n) qs = true → chkG oi bytes ret ii pcs (C.drop n) (qs.drop n) = true → chkG oi bytes ret ii pcs C qs = true
  | 0, _, _, _, h => h
  | _ + 1, [], _, h, _ => h
  | _ + 1, _ :: _, [], h, _ => h
  | n + 1, i :: r, q :: qs, h1, h2 => by
    rw [List.take_succ_cons] at h1
    unfold chkG at h1 ⊢
    rw [Bool.and_eq_true] at h1 ⊢
    exact ⟨h1.1, chkG_cut n r qs h1.2 h2⟩
theorem chk_law_0 : chkG (RC 214) (mB 214) (mR 214) ((mY 214).name == "<init>") (pcss.getD 214 []) (((MCode 214).drop 0).take 100) ((pcss.getD 214 []).drop 0) = true := by decide +kernel
theorem chk_law_100 : chkG (RC 214) (mB 214) (mR 214) ((mY 214).name == "<init>") (pcss.getD 214 []) (((MCode 214).drop 100).take 100) ((pcss.getD 214 []).drop 100) = true := by decide +kernel
theorem chk_law_200 : chkG (RC 214) (mB 214) (mR 214) ((mY 214).name == "<init>") (pcss.getD 214 []) (((MCode 214).drop 200).take 100) ((pcss.getD 214 []).drop 200) = true := by decide +kernel
theorem chk_law_300 : chkG (RC 214) (mB 214) (mR 214) ((mY 214).name == "<init>") (pcss.getD 214 []) (((MCode 214).drop 300).take 100) ((pcss.getD 214 []).drop 300) = true := by decide +kernel
theorem chk_law_400 : chkG (RC 214) (mB 214) (mR 214) ((mY 214).name == "<init>") (pcss.getD 214 []) (((MCode 214).drop 400).take 100) ((pcss.getD 214 []).drop 400) = true := by decide +kernel
theorem chk_law_500 : chkG (RC 214) (mB 214) (mR 214) ((mY 214).name == "<init>") (pcss.getD 214 []) (((MCode 214).drop 500).take 100) ((pcss.getD 214 []).drop 500) = true := by decide +kernel
theorem chk_law_600 : chkG (RC 214) (mB 214) (mR 214) ((mY 214).name == "<init>") (pcss.getD 214 []) (((MCode 214).drop 600).take 100) ((pcss.getD 214 []).drop 600) = true := by decide +kernel
theorem chk_law_700 : chkG (RC 214) (mB 214) (mR 214) ((mY 214).name == "<init>") (pcss.getD 214 []) (((MCode 214).drop 700).take 100) ((pcss.getD 214 []).drop 700) = true := by decide +kernel
theorem chk_law_800 : chkG (RC 214) (mB 214) (mR 214) ((mY 214).name == "<init>") (pcss.getD 214 []) (((MCode 214).drop 800).take 100) ((pcss.getD 214 []).drop 800) = true := by decide +kernel
theorem chk_law_900 : chkG (RC 214) (mB 214) (mR 214) ((mY 214).name == "<init>") (pcss.getD 214 []) (((MCode 214).drop 900).take 100) ((pcss.getD 214 []).drop 900) = true := by decide +kernel
theorem chk_law_1000 : chkG (RC 214) (mB 214) (mR 214) ((mY 214).name == "<init>") (pcss.getD 214 []) (((MCode 214).drop 1000).take 100) ((pcss.getD 214 []).drop 1000) = true := by decide +kernel
theorem law_end_1100 : chkG (RC 214) (mB 214) (mR 214) ((mY 214).name == "<init>") (pcss.getD 214 []) ((MCode 214).drop 1100) ((pcss.getD 214 []).drop 1100) = true := by
  rw [List.drop_eq_nil_of_le (show (MCode 214).length ≤ 1100 by decide +kernel)]; rfl
theorem law_end_1000 : chkG (RC 214) (mB 214) (mR 214) ((mY 214).name == "<init>") (pcss.getD 214 []) ((MCode 214).drop 1000) ((pcss.getD 214 []).drop 1000) = true := chkG_cut 100 _ _ chk_law_1000 (by rw [List.drop_drop, List.drop_drop]; exact law_end_1100)
theorem law_end_900 : chkG (RC 214) (mB 214) (mR 214) ((mY 214).name == "<init>") (pcss.getD 214 []) ((MCode 214).drop 900) ((pcss.getD 214 []).drop 900) = true := chkG_cut 100 _ _ chk_law_900 (by rw [List.drop_drop, List.drop_drop]; exact law_end_1000)
theorem law_end_800 : chkG (RC 214) (mB 214) (mR 214) ((mY 214).name == "<init>") (pcss.getD 214 []) ((MCode 214).drop 800) ((pcss.getD 214 []).drop 800) = true := chkG_cut 100 _ _ chk_law_800 (by rw [List.drop_drop, List.drop_drop]; exact law_end_900)
theorem law_end_700 : chkG (RC 214) (mB 214) (mR 214) ((mY 214).name == "<init>") (pcss.getD 214 []) ((MCode 214).drop 700) ((pcss.getD 214 []).drop 700) = true := chkG_cut 100 _ _ chk_law_700 (by rw [List.drop_drop, List.drop_drop]; exact law_end_800)
theorem law_end_600 : chkG (RC 214) (mB 214) (mR 214) ((mY 214).name == "<init>") (pcss.getD 214 []) ((MCode 214).drop 600) ((pcss.getD 214 []).drop 600) = true := chkG_cut 100 _ _ chk_law_600 (by rw [List.drop_drop, List.drop_drop]; exact law_end_700)
theorem law_end_500 : chkG (RC 214) (mB 214) (mR 214) ((mY 214).name == "<init>") (pcss.getD 214 []) ((MCode 214).drop 500) ((pcss.getD 214 []).drop 500) = true := chkG_cut 100 _ _ chk_law_500 (by rw [List.drop_drop, List.drop_drop]; exact law_end_600)
theorem law_end_400 : chkG (RC 214) (mB 214) (mR 214) ((mY 214).name == "<init>") (pcss.getD 214 []) ((MCode 214).drop 400) ((pcss.getD 214 []).drop 400) = true := chkG_cut 100 _ _ chk_law_400 (by rw [List.drop_drop, List.drop_drop]; exact law_end_500)
theorem law_end_300 : chkG (RC 214) (mB 214) (mR 214) ((mY 214).name == "<init>") (pcss.getD 214 []) ((MCode 214).drop 300) ((pcss.getD 214 []).drop 300) = true := chkG_cut 100 _ _ chk_law_300 (by rw [List.drop_drop, List.drop_drop]; exact law_end_400)
theorem law_end_200 : chkG (RC 214) (mB 214) (mR 214) ((mY 214).name == "<init>") (pcss.getD 214 []) ((MCode 214).drop 200) ((pcss.getD 214 []).drop 200) = true := chkG_cut 100 _ _ chk_law_200 (by rw [List.drop_drop, List.drop_drop]; exact law_end_300)
theorem law_end_100 : chkG (RC 214) (mB 214) (mR 214) ((mY 214).name == "<init>") (pcss.getD 214 []) ((MCode 214).drop 100) ((pcss.getD 214 []).drop 100) = true := chkG_cut 100 _ _ chk_law_100 (by rw [List.drop_drop, List.drop_drop]; exact law_end_200)
theorem law_end_0 : chkG (RC 214) (mB 214) (mR 214) ((mY 214).name == "<init>") (pcss.getD 214 []) ((MCode 214).drop 0) ((pcss.getD 214 []).drop 0) = true := chkG_cut 100 _ _ chk_law_0 (by rw [List.drop_drop, List.drop_drop]; exact law_end_100)
theorem chk_214 : (List.range' 214 1).all chkM = true := by
  have h : chkM 214 = true := law_end_0
  simp only [List.range', List.all_cons, List.all_nil, h, Bool.and_self]
theorem chk_all (f : Nat) (h : f < 215) : chkM f = true := by
  rcases Nat.lt_or_ge f 10 with q | q
  · exact List.all_eq_true.mp chk_0 f (List.mem_range'_1.mpr (by omega))
  rcases Nat.lt_or_ge f 20 with q | q
  · exact List.all_eq_true.mp chk_10 f (List.mem_range'_1.mpr (by omega))
  rcases Nat.lt_or_ge f 41 with q | q
  · exact List.all_eq_true.mp chk_20 f (List.mem_range'_1.mpr (by omega))
  rcases Nat.lt_or_ge f 60 with q | q
  · exact List.all_eq_true.mp chk_41 f (List.mem_range'_1.mpr (by omega))
  rcases Nat.lt_or_ge f 77 with q | q
  · exact List.all_eq_true.mp chk_60 f (List.mem_range'_1.mpr (by omega))
  rcases Nat.lt_or_ge f 92 with q | q
  · exact List.all_eq_true.mp chk_77 f (List.mem_range'_1.mpr (by omega))
  rcases Nat.lt_or_ge f 105 with q | q
  · exact List.all_eq_true.mp chk_92 f (List.mem_range'_1.mpr (by omega))
  rcases Nat.lt_or_ge f 115 with q | q
  · exact List.all_eq_true.mp chk_105 f (List.mem_range'_1.mpr (by omega))
  rcases Nat.lt_or_ge f 123 with q | q
  · exact List.all_eq_true.mp chk_115 f (List.mem_range'_1.mpr (by omega))
  rcases Nat.lt_or_ge f 129 with q | q
  · exact List.all_eq_true.mp chk_123 f (List.mem_range'_1.mpr (by omega))
  rcases Nat.lt_or_ge f 134 with q | q
  · exact List.all_eq_true.mp chk_129 f (List.mem_range'_1.mpr (by omega))
  rcases Nat.lt_or_ge f 145 with q | q
  · exact List.all_eq_true.mp chk_134 f (List.mem_range'_1.mpr (by omega))
  rcases Nat.lt_or_ge f 155 with q | q
  · exact List.all_eq_true.mp chk_145 f (List.mem_range'_1.mpr (by omega))
  rcases Nat.lt_or_ge f 162 with q | q
  · exact List.all_eq_true.mp chk_155 f (List.mem_range'_1.mpr (by omega))
  rcases Nat.lt_or_ge f 164 with q | q
  · exact List.all_eq_true.mp chk_162 f (List.mem_range'_1.mpr (by omega))
  rcases Nat.lt_or_ge f 172 with q | q
  · exact List.all_eq_true.mp chk_164 f (List.mem_range'_1.mpr (by omega))
  rcases Nat.lt_or_ge f 180 with q | q
  · exact List.all_eq_true.mp chk_172 f (List.mem_range'_1.mpr (by omega))
  rcases Nat.lt_or_ge f 185 with q | q
  · exact List.all_eq_true.mp chk_180 f (List.mem_range'_1.mpr (by omega))
  rcases Nat.lt_or_ge f 194 with q | q
  · exact List.all_eq_true.mp chk_185 f (List.mem_range'_1.mpr (by omega))
  rcases Nat.lt_or_ge f 212 with q | q
  · exact List.all_eq_true.mp chk_194 f (List.mem_range'_1.mpr (by omega))
  rcases Nat.lt_or_ge f 214 with q | q
  · exact List.all_eq_true.mp chk_212 f (List.mem_range'_1.mpr (by omega))
  exact List.all_eq_true.mp chk_214 f (List.mem_range'_1.mpr (by omega))
end
section
def wpM (X : PX) : Nat → PC
  | 0 => fun _ _ _ _ _ _ => False
  | d + 1 => fun f as S zI zL Q => (entryL (mL f) as).length = mL f ∧ runL swT MC MS RC NF X (wpM X d) Q (MCode f) 0 (entryL (mL f) as) [] S zI zL (MC f) (MS f)
theorem wpM_mono (X : PX) : ∀ d, callMono (wpM X d)
  | 0 => fun _ _ _ _ _ _ _ _ h => h
  | d + 1 => fun _ _ _ _ _ _ _ hq h => ⟨h.1, runL_mono (wpM_mono X d) hq h.2⟩
abbrev Run (X : PX) (d : Nat) (C : List PI) (pc : Nat) (ls : List (Option PV)) (st : List PV) (S : SS) (zI zL : ZM) (mc ms : Nat) (Q : PQ) : Prop := runL swT MC MS RC NF X (wpM X d) Q C pc ls st S zI zL mc ms
def ob (S : SS) (h a : Nat) : Prop := S.1[h]? = some (a, 0) ∧ h < xbase
def row (S : SS) (kd h n : Nat) : Prop := S.1[h]? = some (kd, n) ∧ n ≤ 10000 ∧ h < xbase
theorem i3_toInt {a : Int} (h : inI a) : (i3 a).toInt = a := by
  unfold i3
  exact Int32.toInt_ofInt_of_le h.1 (by have := h.2; show a < 2147483648; omega)
theorem i6_toInt {a : Int} (h : inL a) : (i6 a).toInt = a := by
  unfold i6
  exact Int64.toInt_ofInt_of_le h.1 (by have := h.2; show a < 9223372036854775808; omega)
theorem i3_eq {a b : Int} (ha : inI a) (hb : inI b) : i3 a = i3 b ↔ a = b := ⟨fun h => by rw [← i3_toInt ha, ← i3_toInt hb, h], fun h => by rw [h]⟩
theorem i3_lt {a b : Int} (ha : inI a) (hb : inI b) : i3 a < i3 b ↔ a < b := by rw [Int32.lt_iff_toInt_lt, i3_toInt ha, i3_toInt hb]
theorem i3_le {a b : Int} (ha : inI a) (hb : inI b) : i3 a ≤ i3 b ↔ a ≤ b := by rw [Int32.le_iff_toInt_le, i3_toInt ha, i3_toInt hb]
theorem cmpL_eq {a b : Int} (ha : inL a) (hb : inL b) : cmpL a b = if a < b then -1 else if a = b then 0 else 1 := by
  unfold cmpL
  have h1 : i6 a < i6 b ↔ a < b := by rw [Int64.lt_iff_toInt_lt, i6_toInt ha, i6_toInt hb]
  have h2 : i6 a = i6 b ↔ a = b := ⟨fun h => by rw [← i6_toInt ha, ← i6_toInt hb, h], fun h => by rw [h]⟩
  simp only [h1, h2]
theorem cmpL_self (a : Int) : cmpL a a = 0 := by unfold cmpL; simp [Int64.lt_irrefl]
theorem in0 : inI 0 := by unfold inI; omega
section Rows
variable {X : PX} {d : Nat} {C : List PI} {pc : Nat} {ls : List (Option PV)} {st : List PV} {S : SS} {zI zL : ZM} {mc ms : Nat} {Q : PQ} {nx a b : Nat} {c : Int}
theorem r_iconst {n : Int} (h : C[pc]? = some (.iconst n, nx, a, b, c)) (k : Run X d C nx ls (pI c :: st) S zI zL mc ms Q) : Run X d C pc ls st S zI zL mc ms Q := runL_step (wpM_mono X d) h k
theorem r_bipush {n : Int} (h : C[pc]? = some (.bipush n, nx, a, b, c)) (k : Run X d C nx ls (pI c :: st) S zI zL mc ms Q) : Run X d C pc ls st S zI zL mc ms Q := runL_step (wpM_mono X d) h k
theorem r_sipush {n : Int} (h : C[pc]? = some (.sipush n, nx, a, b, c)) (k : Run X d C nx ls (pI c :: st) S zI zL mc ms Q) : Run X d C pc ls st S zI zL mc ms Q := runL_step (wpM_mono X d) h k
theorem r_ldc {n : Nat} (h : C[pc]? = some (.ldc n, nx, a, b, c)) (k : Run X d C nx ls (pI c :: st) S zI zL mc ms Q) : Run X d C pc ls st S zI zL mc ms Q := runL_step (wpM_mono X d) h k
theorem r_ldc_w {n : Nat} (h : C[pc]? = some (.ldc_w n, nx, a, b, c)) (k : Run X d C nx ls (pI c :: st) S zI zL mc ms Q) : Run X d C pc ls st S zI zL mc ms Q := runL_step (wpM_mono X d) h k
theorem r_lconst {n : Fin 2} (h : C[pc]? = some (.lconst n, nx, a, b, c)) (k : Run X d C nx ls (pL c :: st) S zI zL mc ms Q) : Run X d C pc ls st S zI zL mc ms Q := runL_step (wpM_mono X d) h k
theorem r_ldc2_w {n : Nat} (h : C[pc]? = some (.ldc2_w n, nx, a, b, c)) (k : Run X d C nx ls (pL c :: st) S zI zL mc ms Q) : Run X d C pc ls st S zI zL mc ms Q := runL_step (wpM_mono X d) h k
theorem r_iload {n : Nat} {x : Int} (h : C[pc]? = some (.iload n, nx, a, b, c)) (hl : ls[n]? = some (some (pI x))) (k : Run X d C nx ls (pI x :: st) S zI zL mc ms Q) : Run X d C pc ls st S zI zL mc ms Q := runL_step (wpM_mono X d) h (by show ldI _ _ _; unfold ldI; rw [hl]; exact k)
theorem r_iload_n {n : Fin 4} {x : Int} (h : C[pc]? = some (.iload_n n, nx, a, b, c)) (hl : ls[(n : Nat)]? = some (some (pI x))) (k : Run X d C nx ls (pI x :: st) S zI zL mc ms Q) : Run X d C pc ls st S zI zL mc ms Q := runL_step (wpM_mono X d) h (by show ldI _ _ _; unfold ldI; rw [hl]; exact k)
theorem r_lload {n : Nat} {x : Int} (h : C[pc]? = some (.lload n, nx, a, b, c)) (hl : ls[n]? = some (some (pL x))) (k : Run X d C nx ls (pL x :: st) S zI zL mc ms Q) : Run X d C pc ls st S zI zL mc ms Q := runL_step (wpM_mono X d) h (by show ldL _ _ _; unfold ldL; rw [hl]; exact k)
theorem r_lload_n {n : Fin 4} {x : Int} (h : C[pc]? = some (.lload_n n, nx, a, b, c)) (hl : ls[(n : Nat)]? = some (some (pL x))) (k : Run X d C nx ls (pL x :: st) S zI zL mc ms Q) : Run X d C pc ls st S zI zL mc ms Q := runL_step (wpM_mono X d) h (by show ldL _ _ _; unfold ldL; rw [hl]; exact k)
theorem r_aload {n : Nat} {x : Nat} (h : C[pc]? = some (.aload n, nx, a, b, c)) (hl : ls[n]? = some (some (pR x))) (k : Run X d C nx ls (pR x :: st) S zI zL mc ms Q) : Run X d C pc ls st S zI zL mc ms Q := runL_step (wpM_mono X d) h (by show ldR _ _ _; unfold ldR; rw [hl]; exact k)
theorem r_aload_n {n : Fin 4} {x : Nat} (h : C[pc]? = some (.aload_n n, nx, a, b, c)) (hl : ls[(n : Nat)]? = some (some (pR x))) (k : Run X d C nx ls (pR x :: st) S zI zL mc ms Q) : Run X d C pc ls st S zI zL mc ms Q := runL_step (wpM_mono X d) h (by show ldR _ _ _; unfold ldR; rw [hl]; exact k)
theorem r_istore {n : Nat} {x : Int} (h : C[pc]? = some (.istore n, nx, a, b, c)) (hn : n < ls.length) (k : Run X d C nx (st1 ls n (pI x)) st S zI zL mc ms Q) : Run X d C pc ls (pI x :: st) S zI zL mc ms Q := runL_step (wpM_mono X d) h ⟨hn, k⟩
theorem r_istore_n {n : Fin 4} {x : Int} (h : C[pc]? = some (.istore_n n, nx, a, b, c)) (hn : (n : Nat) < ls.length) (k : Run X d C nx (st1 ls n (pI x)) st S zI zL mc ms Q) : Run X d C pc ls (pI x :: st) S zI zL mc ms Q := runL_step (wpM_mono X d) h ⟨hn, k⟩
theorem r_lstore {n : Nat} {x : Int} (h : C[pc]? = some (.lstore n, nx, a, b, c)) (hn : n + 1 < ls.length) (k : Run X d C nx (st2 ls n (pL x)) st S zI zL mc ms Q) : Run X d C pc ls (pL x :: st) S zI zL mc ms Q := runL_step (wpM_mono X d) h ⟨hn, k⟩
theorem r_lstore_n {n : Fin 4} {x : Int} (h : C[pc]? = some (.lstore_n n, nx, a, b, c)) (hn : (n : Nat) + 1 < ls.length) (k : Run X d C nx (st2 ls n (pL x)) st S zI zL mc ms Q) : Run X d C pc ls (pL x :: st) S zI zL mc ms Q := runL_step (wpM_mono X d) h ⟨hn, k⟩
theorem r_astore {n x : Nat} (h : C[pc]? = some (.astore n, nx, a, b, c)) (hn : n < ls.length) (k : Run X d C nx (st1 ls n (pR x)) st S zI zL mc ms Q) : Run X d C pc ls (pR x :: st) S zI zL mc ms Q := runL_step (wpM_mono X d) h ⟨hn, k⟩
theorem r_astore_n {n : Fin 4} {x : Nat} (h : C[pc]? = some (.astore_n n, nx, a, b, c)) (hn : (n : Nat) < ls.length) (k : Run X d C nx (st1 ls n (pR x)) st S zI zL mc ms Q) : Run X d C pc ls (pR x :: st) S zI zL mc ms Q := runL_step (wpM_mono X d) h ⟨hn, k⟩
theorem r_iinc {n : Nat} {z x : Int} (h : C[pc]? = some (.iinc n z, nx, a, b, c)) (hl : ls[n]? = some (some (pI x))) (k : Run X d C nx (st1 ls n (pI (x + c))) st S zI zL mc ms Q) : Run X d C pc ls st S zI zL mc ms Q := runL_step (wpM_mono X d) h (by show ldI _ _ _; unfold ldI; rw [hl]; exact ⟨(List.getElem?_eq_some_iff.mp hl).1, k⟩)
theorem r_dupI {x : Int} (h : C[pc]? = some (.dup, nx, a, b, c)) (k : Run X d C nx ls (pI x :: pI x :: st) S zI zL mc ms Q) : Run X d C pc ls (pI x :: st) S zI zL mc ms Q := runL_step (wpM_mono X d) h k
theorem r_dupR {x : Nat} (h : C[pc]? = some (.dup, nx, a, b, c)) (k : Run X d C nx ls (pR x :: pR x :: st) S zI zL mc ms Q) : Run X d C pc ls (pR x :: st) S zI zL mc ms Q := runL_step (wpM_mono X d) h k
theorem r_dup2 {x : Int} {y : Nat} (h : C[pc]? = some (.dup2, nx, a, b, c)) (k : Run X d C nx ls (pI x :: pR y :: pI x :: pR y :: st) S zI zL mc ms Q) : Run X d C pc ls (pI x :: pR y :: st) S zI zL mc ms Q := runL_step (wpM_mono X d) h k
theorem r_popI {x : Int} (h : C[pc]? = some (.pop, nx, a, b, c)) (k : Run X d C nx ls st S zI zL mc ms Q) : Run X d C pc ls (pI x :: st) S zI zL mc ms Q := runL_step (wpM_mono X d) h k
theorem r_iadd {x y : Int} (h : C[pc]? = some (.iadd, nx, a, b, c)) (k : Run X d C nx ls (pI (x + y) :: st) S zI zL mc ms Q) : Run X d C pc ls (pI y :: pI x :: st) S zI zL mc ms Q := runL_step (wpM_mono X d) h k
theorem r_isub {x y : Int} (h : C[pc]? = some (.isub, nx, a, b, c)) (k : Run X d C nx ls (pI (x - y) :: st) S zI zL mc ms Q) : Run X d C pc ls (pI y :: pI x :: st) S zI zL mc ms Q := runL_step (wpM_mono X d) h k
theorem r_imul {x y : Int} (h : C[pc]? = some (.imul, nx, a, b, c)) (k : Run X d C nx ls (pI (x * y) :: st) S zI zL mc ms Q) : Run X d C pc ls (pI y :: pI x :: st) S zI zL mc ms Q := runL_step (wpM_mono X d) h k
theorem r_idiv {x y : Int} (h : C[pc]? = some (.idiv, nx, a, b, c)) (hx : inI x) (hy : inI y) (h0 : y ≠ 0) (k : Run X d C nx ls (pI (x.tdiv y) :: st) S zI zL mc ms Q) : Run X d C pc ls (pI y :: pI x :: st) S zI zL mc ms Q := runL_step (wpM_mono X d) h ⟨⟨hx, hy, h0⟩, k⟩
theorem r_irem {x y : Int} (h : C[pc]? = some (.irem, nx, a, b, c)) (hx : inI x) (hy : inI y) (h0 : y ≠ 0) (k : Run X d C nx ls (pI (x.tmod y) :: st) S zI zL mc ms Q) : Run X d C pc ls (pI y :: pI x :: st) S zI zL mc ms Q := runL_step (wpM_mono X d) h ⟨⟨hx, hy, h0⟩, k⟩
theorem r_ineg {x : Int} (h : C[pc]? = some (.ineg, nx, a, b, c)) (k : Run X d C nx ls (pI (-x) :: st) S zI zL mc ms Q) : Run X d C pc ls (pI x :: st) S zI zL mc ms Q := runL_step (wpM_mono X d) h k
theorem r_ixor {x y : Int} (h : C[pc]? = some (.ixor, nx, a, b, c)) (k : Run X d C nx ls (pI (i3 x ^^^ i3 y).toInt :: st) S zI zL mc ms Q) : Run X d C pc ls (pI y :: pI x :: st) S zI zL mc ms Q := runL_step (wpM_mono X d) h k
theorem r_iand {x y : Int} (h : C[pc]? = some (.iand, nx, a, b, c)) (k : Run X d C nx ls (pI (i3 x &&& i3 y).toInt :: st) S zI zL mc ms Q) : Run X d C pc ls (pI y :: pI x :: st) S zI zL mc ms Q := runL_step (wpM_mono X d) h k
theorem r_ladd {x y : Int} (h : C[pc]? = some (.ladd, nx, a, b, c)) (k : Run X d C nx ls (pL (x + y) :: st) S zI zL mc ms Q) : Run X d C pc ls (pL y :: pL x :: st) S zI zL mc ms Q := runL_step (wpM_mono X d) h k
theorem r_lsub {x y : Int} (h : C[pc]? = some (.lsub, nx, a, b, c)) (k : Run X d C nx ls (pL (x - y) :: st) S zI zL mc ms Q) : Run X d C pc ls (pL y :: pL x :: st) S zI zL mc ms Q := runL_step (wpM_mono X d) h k
theorem r_lmul {x y : Int} (h : C[pc]? = some (.lmul, nx, a, b, c)) (k : Run X d C nx ls (pL (x * y) :: st) S zI zL mc ms Q) : Run X d C pc ls (pL y :: pL x :: st) S zI zL mc ms Q := runL_step (wpM_mono X d) h k
theorem r_ldiv {x y : Int} (h : C[pc]? = some (.ldiv, nx, a, b, c)) (hx : inL x) (hy : inL y) (h0 : y ≠ 0) (k : Run X d C nx ls (pL (x.tdiv y) :: st) S zI zL mc ms Q) : Run X d C pc ls (pL y :: pL x :: st) S zI zL mc ms Q := runL_step (wpM_mono X d) h ⟨⟨hx, hy, h0⟩, k⟩
theorem r_lrem {x y : Int} (h : C[pc]? = some (.lrem, nx, a, b, c)) (hx : inL x) (hy : inL y) (h0 : y ≠ 0) (k : Run X d C nx ls (pL (x.tmod y) :: st) S zI zL mc ms Q) : Run X d C pc ls (pL y :: pL x :: st) S zI zL mc ms Q := runL_step (wpM_mono X d) h ⟨⟨hx, hy, h0⟩, k⟩
theorem r_lneg {x : Int} (h : C[pc]? = some (.lneg, nx, a, b, c)) (k : Run X d C nx ls (pL (-x) :: st) S zI zL mc ms Q) : Run X d C pc ls (pL x :: st) S zI zL mc ms Q := runL_step (wpM_mono X d) h k
theorem r_lor {x y : Int} (h : C[pc]? = some (.lor, nx, a, b, c)) (k : Run X d C nx ls (pL (i6 x ||| i6 y).toInt :: st) S zI zL mc ms Q) : Run X d C pc ls (pL y :: pL x :: st) S zI zL mc ms Q := runL_step (wpM_mono X d) h k
theorem r_land {x y : Int} (h : C[pc]? = some (.land, nx, a, b, c)) (k : Run X d C nx ls (pL (i6 x &&& i6 y).toInt :: st) S zI zL mc ms Q) : Run X d C pc ls (pL y :: pL x :: st) S zI zL mc ms Q := runL_step (wpM_mono X d) h k
theorem r_lshl {x y : Int} (h : C[pc]? = some (.lshl, nx, a, b, c)) (k : Run X d C nx ls (pL (i6 x <<< ((i3 y).toInt64 &&& 63)).toInt :: st) S zI zL mc ms Q) : Run X d C pc ls (pI y :: pL x :: st) S zI zL mc ms Q := runL_step (wpM_mono X d) h k
theorem r_lcmp0 {x y : Int} (h : C[pc]? = some (.lcmp, nx, a, b, c)) (k : Run X d C nx ls (pI (cmpL x y) :: st) S zI zL mc ms Q) : Run X d C pc ls (pL y :: pL x :: st) S zI zL mc ms Q := runL_step (wpM_mono X d) h k
theorem r_i2l {x : Int} (h : C[pc]? = some (.i2l, nx, a, b, c)) (hx : inI x) (k : Run X d C nx ls (pL x :: st) S zI zL mc ms Q) : Run X d C pc ls (pI x :: st) S zI zL mc ms Q := runL_step (wpM_mono X d) h ⟨hx, k⟩
theorem r_l2i {x : Int} (h : C[pc]? = some (.l2i, nx, a, b, c)) (k : Run X d C nx ls (pI x :: st) S zI zL mc ms Q) : Run X d C pc ls (pL x :: st) S zI zL mc ms Q := runL_step (wpM_mono X d) h k
theorem r_i2b {x : Int} (h : C[pc]? = some (.i2b, nx, a, b, c)) (k : Run X d C nx ls (pI ((i3 x).toInt8.toInt32).toInt :: st) S zI zL mc ms Q) : Run X d C pc ls (pI x :: st) S zI zL mc ms Q := runL_step (wpM_mono X d) h k
theorem r_goto {n : Int} (h : C[pc]? = some (.goto n, nx, a, b, c)) (k : Run X d C a ls st S zI zL mc ms Q) : Run X d C pc ls st S zI zL mc ms Q := runL_step (wpM_mono X d) h k
theorem r_if {q : ClassFile.Cond} {n x : Int} (h : C[pc]? = some (.ifCond q n, nx, a, b, c)) (kt : cmpI q x 0 → Run X d C a ls st S zI zL mc ms Q) (kf : ¬ cmpI q x 0 → Run X d C nx ls st S zI zL mc ms Q) : Run X d C pc ls (pI x :: st) S zI zL mc ms Q := runL_step (wpM_mono X d) h ⟨kt, kf⟩
theorem r_icmp {q : ClassFile.Cond} {n x y : Int} (h : C[pc]? = some (.if_icmp q n, nx, a, b, c)) (kt : cmpI q x y → Run X d C a ls st S zI zL mc ms Q) (kf : ¬ cmpI q x y → Run X d C nx ls st S zI zL mc ms Q) : Run X d C pc ls (pI y :: pI x :: st) S zI zL mc ms Q := runL_step (wpM_mono X d) h ⟨kt, kf⟩
theorem r_if_eq {n x : Int} (h : C[pc]? = some (.ifCond .eq n, nx, a, b, c)) (hx : inI x) (kt : x = 0 → Run X d C a ls st S zI zL mc ms Q) (kf : ¬ x = 0 → Run X d C nx ls st S zI zL mc ms Q) : Run X d C pc ls (pI x :: st) S zI zL mc ms Q := r_if h (fun q => kt ((i3_eq hx in0).mp q)) (fun q => kf (fun e => q ((i3_eq hx in0).mpr e)))
theorem r_if_ne {n x : Int} (h : C[pc]? = some (.ifCond .ne n, nx, a, b, c)) (hx : inI x) (kt : ¬ x = 0 → Run X d C a ls st S zI zL mc ms Q) (kf : x = 0 → Run X d C nx ls st S zI zL mc ms Q) : Run X d C pc ls (pI x :: st) S zI zL mc ms Q := r_if h (fun q => kt (fun e => q ((i3_eq hx in0).mpr e))) (fun q => kf (Decidable.byContradiction fun e => q (fun z => e ((i3_eq hx in0).mp z))))
theorem r_if_lt {n x : Int} (h : C[pc]? = some (.ifCond .lt n, nx, a, b, c)) (hx : inI x) (kt : x < 0 → Run X d C a ls st S zI zL mc ms Q) (kf : 0 ≤ x → Run X d C nx ls st S zI zL mc ms Q) : Run X d C pc ls (pI x :: st) S zI zL mc ms Q := r_if h (fun q => kt ((i3_lt hx in0).mp q)) (fun q => kf (Int.not_lt.mp fun e => q ((i3_lt hx in0).mpr e)))
theorem r_if_ge {n x : Int} (h : C[pc]? = some (.ifCond .ge n, nx, a, b, c)) (hx : inI x) (kt : 0 ≤ x → Run X d C a ls st S zI zL mc ms Q) (kf : x < 0 → Run X d C nx ls st S zI zL mc ms Q) : Run X d C pc ls (pI x :: st) S zI zL mc ms Q := r_if h (fun q => kt ((i3_le in0 hx).mp q)) (fun q => kf (Int.not_le.mp fun e => q ((i3_le in0 hx).mpr e)))
theorem r_if_gt {n x : Int} (h : C[pc]? = some (.ifCond .gt n, nx, a, b, c)) (hx : inI x) (kt : 0 < x → Run X d C a ls st S zI zL mc ms Q) (kf : x ≤ 0 → Run X d C nx ls st S zI zL mc ms Q) : Run X d C pc ls (pI x :: st) S zI zL mc ms Q := r_if h (fun q => kt ((i3_lt in0 hx).mp q)) (fun q => kf (Int.not_lt.mp fun e => q ((i3_lt in0 hx).mpr e)))
theorem r_if_le {n x : Int} (h : C[pc]? = some (.ifCond .le n, nx, a, b, c)) (hx : inI x) (kt : x ≤ 0 → Run X d C a ls st S zI zL mc ms Q) (kf : 0 < x → Run X d C nx ls st S zI zL mc ms Q) : Run X d C pc ls (pI x :: st) S zI zL mc ms Q := r_if h (fun q => kt ((i3_le hx in0).mp q)) (fun q => kf (Int.not_le.mp fun e => q ((i3_le hx in0).mpr e)))
theorem r_icmp_eq {n x y : Int} (h : C[pc]? = some (.if_icmp .eq n, nx, a, b, c)) (hx : inI x) (hy : inI y) (kt : x = y → Run X d C a ls st S zI zL mc ms Q) (kf : ¬ x = y → Run X d C nx ls st S zI zL mc ms Q) : Run X d C pc ls (pI y :: pI x :: st) S zI zL mc ms Q := r_icmp h (fun q => kt ((i3_eq hx hy).mp q)) (fun q => kf (fun e => q ((i3_eq hx hy).mpr e)))
theorem r_icmp_ne {n x y : Int} (h : C[pc]? = some (.if_icmp .ne n, nx, a, b, c)) (hx : inI x) (hy : inI y) (kt : ¬ x = y → Run X d C a ls st S zI zL mc ms Q) (kf : x = y → Run X d C nx ls st S zI zL mc ms Q) : Run X d C pc ls (pI y :: pI x :: st) S zI zL mc ms Q := r_icmp h (fun q => kt (fun e => q ((i3_eq hx hy).mpr e))) (fun q => kf (Decidable.byContradiction fun e => q (fun z => e ((i3_eq hx hy).mp z))))
theorem r_icmp_lt {n x y : Int} (h : C[pc]? = some (.if_icmp .lt n, nx, a, b, c)) (hx : inI x) (hy : inI y) (kt : x < y → Run X d C a ls st S zI zL mc ms Q) (kf : y ≤ x → Run X d C nx ls st S zI zL mc ms Q) : Run X d C pc ls (pI y :: pI x :: st) S zI zL mc ms Q := r_icmp h (fun q => kt ((i3_lt hx hy).mp q)) (fun q => kf (Int.not_lt.mp fun e => q ((i3_lt hx hy).mpr e)))
theorem r_icmp_ge {n x y : Int} (h : C[pc]? = some (.if_icmp .ge n, nx, a, b, c)) (hx : inI x) (hy : inI y) (kt : y ≤ x → Run X d C a ls st S zI zL mc ms Q) (kf : x < y → Run X d C nx ls st S zI zL mc ms Q) : Run X d C pc ls (pI y :: pI x :: st) S zI zL mc ms Q := r_icmp h (fun q => kt ((i3_le hy hx).mp q)) (fun q => kf (Int.not_le.mp fun e => q ((i3_le hy hx).mpr e)))
theorem r_icmp_gt {n x y : Int} (h : C[pc]? = some (.if_icmp .gt n, nx, a, b, c)) (hx : inI x) (hy : inI y) (kt : y < x → Run X d C a ls st S zI zL mc ms Q) (kf : x ≤ y → Run X d C nx ls st S zI zL mc ms Q) : Run X d C pc ls (pI y :: pI x :: st) S zI zL mc ms Q := r_icmp h (fun q => kt ((i3_lt hy hx).mp q)) (fun q => kf (Int.not_lt.mp fun e => q ((i3_lt hy hx).mpr e)))
theorem r_icmp_le {n x y : Int} (h : C[pc]? = some (.if_icmp .le n, nx, a, b, c)) (hx : inI x) (hy : inI y) (kt : x ≤ y → Run X d C a ls st S zI zL mc ms Q) (kf : y < x → Run X d C nx ls st S zI zL mc ms Q) : Run X d C pc ls (pI y :: pI x :: st) S zI zL mc ms Q := r_icmp h (fun q => kt ((i3_le hx hy).mp q)) (fun q => kf (Int.not_le.mp fun e => q ((i3_le hx hy).mpr e)))
/-- two answers that are the same, by the machine's own test -/
theorem r_icmp_same {n x : Int} (h : C[pc]? = some (.if_icmp .eq n, nx, a, b, c)) (k : Run X d C a ls st S zI zL mc ms Q) : Run X d C pc ls (pI x :: pI x :: st) S zI zL mc ms Q := r_icmp h (fun _ => k) (fun q => absurd rfl q)
theorem cmpL_in (x y : Int) : inI (cmpL x y) := by unfold cmpL inI; split <;> (try split) <;> omega
/-- compare two longs, then look at the outcome -/
theorem r_l_eq {n x y : Int} {p1 a0 b0 : Nat} {c0 : Int} (h0 : C[pc]? = some (.lcmp, p1, a0, b0, c0)) (h : C[p1]? = some (.ifCond .eq n, nx, a, b, c)) (hx : inL x) (hy : inL y) (kt : x = y → Run X d C a ls st S zI zL mc ms Q) (kf : ¬ x = y → Run X d C nx ls st S zI zL mc ms Q) : Run X d C pc ls (pL y :: pL x :: st) S zI zL mc ms Q := by
  refine r_lcmp0 h0 (r_if_eq h (cmpL_in _ _) (fun e => kt ?_) (fun e => kf ?_))
  · rw [cmpL_eq hx hy] at e; split at e <;> (try split at e) <;> omega
  · rw [cmpL_eq hx hy] at e; split at e <;> (try split at e) <;> omega
theorem r_l_ne {n x y : Int} {p1 a0 b0 : Nat} {c0 : Int} (h0 : C[pc]? = some (.lcmp, p1, a0, b0, c0)) (h : C[p1]? = some (.ifCond .ne n, nx, a, b, c)) (hx : inL x) (hy : inL y) (kt : ¬ x = y → Run X d C a ls st S zI zL mc ms Q) (kf : x = y → Run X d C nx ls st S zI zL mc ms Q) : Run X d C pc ls (pL y :: pL x :: st) S zI zL mc ms Q := by
  refine r_lcmp0 h0 (r_if_ne h (cmpL_in _ _) (fun e => kt ?_) (fun e => kf ?_))
  · rw [cmpL_eq hx hy] at e; split at e <;> (try split at e) <;> omega
  · rw [cmpL_eq hx hy] at e; split at e <;> (try split at e) <;> omega
theorem r_l_lt {n x y : Int} {p1 a0 b0 : Nat} {c0 : Int} (h0 : C[pc]? = some (.lcmp, p1, a0, b0, c0)) (h : C[p1]? = some (.ifCond .lt n, nx, a, b, c)) (hx : inL x) (hy : inL y) (kt : x < y → Run X d C a ls st S zI zL mc ms Q) (kf : y ≤ x → Run X d C nx ls st S zI zL mc ms Q) : Run X d C pc ls (pL y :: pL x :: st) S zI zL mc ms Q := by
  refine r_lcmp0 h0 (r_if_lt h (cmpL_in _ _) (fun e => kt ?_) (fun e => kf ?_))
  · rw [cmpL_eq hx hy] at e; split at e <;> (try split at e) <;> omega
  · rw [cmpL_eq hx hy] at e; split at e <;> (try split at e) <;> omega
theorem r_l_ge {n x y : Int} {p1 a0 b0 : Nat} {c0 : Int} (h0 : C[pc]? = some (.lcmp, p1, a0, b0, c0)) (h : C[p1]? = some (.ifCond .ge n, nx, a, b, c)) (hx : inL x) (hy : inL y) (kt : y ≤ x → Run X d C a ls st S zI zL mc ms Q) (kf : x < y → Run X d C nx ls st S zI zL mc ms Q) : Run X d C pc ls (pL y :: pL x :: st) S zI zL mc ms Q := by
  refine r_lcmp0 h0 (r_if_ge h (cmpL_in _ _) (fun e => kt ?_) (fun e => kf ?_))
  · rw [cmpL_eq hx hy] at e; split at e <;> (try split at e) <;> omega
  · rw [cmpL_eq hx hy] at e; split at e <;> (try split at e) <;> omega
theorem r_l_gt {n x y : Int} {p1 a0 b0 : Nat} {c0 : Int} (h0 : C[pc]? = some (.lcmp, p1, a0, b0, c0)) (h : C[p1]? = some (.ifCond .gt n, nx, a, b, c)) (hx : inL x) (hy : inL y) (kt : y < x → Run X d C a ls st S zI zL mc ms Q) (kf : x ≤ y → Run X d C nx ls st S zI zL mc ms Q) : Run X d C pc ls (pL y :: pL x :: st) S zI zL mc ms Q := by
  refine r_lcmp0 h0 (r_if_gt h (cmpL_in _ _) (fun e => kt ?_) (fun e => kf ?_))
  · rw [cmpL_eq hx hy] at e; split at e <;> (try split at e) <;> omega
  · rw [cmpL_eq hx hy] at e; split at e <;> (try split at e) <;> omega
theorem r_l_le {n x y : Int} {p1 a0 b0 : Nat} {c0 : Int} (h0 : C[pc]? = some (.lcmp, p1, a0, b0, c0)) (h : C[p1]? = some (.ifCond .le n, nx, a, b, c)) (hx : inL x) (hy : inL y) (kt : x ≤ y → Run X d C a ls st S zI zL mc ms Q) (kf : y < x → Run X d C nx ls st S zI zL mc ms Q) : Run X d C pc ls (pL y :: pL x :: st) S zI zL mc ms Q := by
  refine r_lcmp0 h0 (r_if_le h (cmpL_in _ _) (fun e => kt ?_) (fun e => kf ?_))
  · rw [cmpL_eq hx hy] at e; split at e <;> (try split at e) <;> omega
  · rw [cmpL_eq hx hy] at e; split at e <;> (try split at e) <;> omega
theorem r_l_same {n x : Int} {p1 a0 b0 : Nat} {c0 : Int} (h0 : C[pc]? = some (.lcmp, p1, a0, b0, c0)) (h : C[p1]? = some (.ifCond .eq n, nx, a, b, c)) (k : Run X d C a ls st S zI zL mc ms Q) : Run X d C pc ls (pL x :: pL x :: st) S zI zL mc ms Q := by
  refine r_lcmp0 h0 (r_if_eq h (cmpL_in _ _) (fun _ => k) (fun e => absurd (cmpL_self x) e))
theorem r_tsw {df lo hi x : Int} {os : Array Int} {t : Nat} (h : C[pc]? = some (.tableswitch df lo hi os, nx, a, b, c)) (hx : inI x) (ht : psw swT a lo hi x = some t) (k : Run X d C t ls st S zI zL mc ms Q) : Run X d C pc ls (pI x :: st) S zI zL mc ms Q := runL_step (wpM_mono X d) h ⟨hx, t, ht, k⟩
theorem r_lsw {df x : Int} {ps : Array (Int × Int)} {t : Nat} (h : C[pc]? = some (.lookupswitch df ps, nx, a, b, c)) (hx : inI x) (ht : plook swT a ps.toList x = some t) (k : Run X d C t ls st S zI zL mc ms Q) : Run X d C pc ls (pI x :: st) S zI zL mc ms Q := runL_step (wpM_mono X d) h ⟨hx, t, ht, k⟩
theorem r_iret {x : Int} (h : C[pc]? = some (.ireturn, nx, 0, b, c)) (k : Q (some (pI x)) S zI zL) : Run X d C pc ls [pI x] S zI zL 0 ms Q := runL_step (wpM_mono X d) h ⟨rfl, rfl, (fun h => absurd h (by decide)), k⟩
theorem r_zret {x : Int} (h : C[pc]? = some (.ireturn, nx, 1, b, c)) (hx : x = 0 ∨ x = 1) (k : Q (some (pI x)) S zI zL) : Run X d C pc ls [pI x] S zI zL 0 ms Q := runL_step (wpM_mono X d) h ⟨rfl, rfl, fun _ => hx, k⟩
theorem r_lret {x : Int} (h : C[pc]? = some (.lreturn, nx, a, b, c)) (k : Q (some (pL x)) S zI zL) : Run X d C pc ls [pL x] S zI zL 0 ms Q := runL_step (wpM_mono X d) h ⟨rfl, rfl, k⟩
theorem r_aret {x : Nat} (h : C[pc]? = some (.areturn, nx, a, b, c)) (k : Q (some (pR x)) S zI zL) : Run X d C pc ls [pR x] S zI zL 0 ms Q := runL_step (wpM_mono X d) h ⟨rfl, rfl, k⟩
theorem r_ret (h : C[pc]? = some (.return_, nx, a, b, c)) (k : Q none S zI zL) : Run X d C pc ls [] S zI zL 0 ms Q := runL_step (wpM_mono X d) h ⟨rfl, rfl, k⟩
theorem r_getI {n o : Nat} (h : C[pc]? = some (.getfield n, nx, a, 0, c)) (ho : ob S o a) (k : Run X d C nx ls (pI (zI o c) :: st) S zI zL mc ms Q) : Run X d C pc ls (pR o :: st) S zI zL mc ms Q := runL_step (wpM_mono X d) h ⟨ho, k⟩
theorem r_getZ {n o : Nat} (h : C[pc]? = some (.getfield n, nx, a, 3, c)) (ho : ob S o a) (k : Run X d C nx ls (pI (zI o c) :: st) S zI zL mc ms Q) : Run X d C pc ls (pR o :: st) S zI zL mc ms Q := runL_step (wpM_mono X d) h ⟨ho, k⟩
theorem r_getL {n o : Nat} (h : C[pc]? = some (.getfield n, nx, a, 1, c)) (ho : ob S o a) (k : Run X d C nx ls (pL (zL o c) :: st) S zI zL mc ms Q) : Run X d C pc ls (pR o :: st) S zI zL mc ms Q := runL_step (wpM_mono X d) h ⟨ho, k⟩
theorem r_getR {n o v : Nat} (h : C[pc]? = some (.getfield n, nx, a, 2, c)) (ho : ob S o a) (hv : S.2 o c = some v) (k : Run X d C nx ls (pR v :: st) S zI zL mc ms Q) : Run X d C pc ls (pR o :: st) S zI zL mc ms Q := runL_step (wpM_mono X d) h ⟨ho, by rw [show rdF S zI zL 2 o c = pR v by show Sum.inr (Sum.inr (S.2 o c)) = _; rw [hv]]; exact k⟩
theorem r_putI {n o : Nat} {x : Int} (h : C[pc]? = some (.putfield n, nx, a, 0, c)) (ho : ob S o a) (k : Run X d C nx ls st S (zput zI o c x) zL mc ms Q) : Run X d C pc ls (pI x :: pR o :: st) S zI zL mc ms Q := runL_step (wpM_mono X d) h ⟨ho, k⟩
theorem r_putIf {n o : Nat} {x : Int} (h : C[pc]? = some (.putfield n, nx, a, 10, c)) (ho : ob S o a) (k : Run X d C nx ls st S (zput zI o c x) zL mc ms Q) : Run X d C pc ls (pI x :: pR o :: st) S zI zL mc ms Q := runL_step (wpM_mono X d) h ⟨ho, k⟩
theorem r_putL {n o : Nat} {x : Int} (h : C[pc]? = some (.putfield n, nx, a, 1, c)) (ho : ob S o a) (k : Run X d C nx ls st S zI (zput zL o c x) mc ms Q) : Run X d C pc ls (pL x :: pR o :: st) S zI zL mc ms Q := runL_step (wpM_mono X d) h ⟨ho, k⟩
theorem r_putZ {n o : Nat} {x : Int} (h : C[pc]? = some (.putfield n, nx, a, 3, c)) (ho : ob S o a) (hx : x = 0 ∨ x = 1) (k : Run X d C nx ls st S (zput zI o c x) zL mc ms Q) : Run X d C pc ls (pI x :: pR o :: st) S zI zL mc ms Q := runL_step (wpM_mono X d) h ⟨ho, hx, k⟩
theorem r_putR {n o v : Nat} (h : C[pc]? = some (.putfield n, nx, a, 12, c)) (ho : ob S o a) (k : Run X d C nx ls st (S.1, rput S.2 o c (some v)) zI zL mc ms Q) : Run X d C pc ls (pR v :: pR o :: st) S zI zL mc ms Q := runL_step (wpM_mono X d) h ⟨ho, k⟩
theorem r_gets {n : Nat} (h : C[pc]? = some (.getstatic n, nx, a, b, c)) (k : Run X d C nx ls (pR (xbase + a) :: st) S zI zL mc ms Q) : Run X d C pc ls st S zI zL mc ms Q := runL_step (wpM_mono X d) h k
theorem r_iald {o n : Nat} {i : Int} (h : C[pc]? = some (.iaload, nx, a, b, c)) (ho : row S 12 o n) (h0 : 0 ≤ i) (h1 : i < n) (k : Run X d C nx ls (pI (zI o i) :: st) S zI zL mc ms Q) : Run X d C pc ls (pI i :: pR o :: st) S zI zL mc ms Q := runL_step (wpM_mono X d) h (by show elI S X zI o i (fun x => Run X d C nx ls (pI x :: st) S zI zL mc ms Q); unfold elI; rw [if_pos ho.2.2]; exact ⟨⟨n, ho.1, h0, h1, ho.2.1⟩, k⟩)
theorem r_ixld {e : Nat} {i : Int} (h : C[pc]? = some (.iaload, nx, a, b, c)) (he : e < 4) (hs : (X e).1 ≤ 100000) (h0 : 0 ≤ i) (h1 : i < (X e).1) (k : Run X d C nx ls (pI ((X e).2 i) :: st) S zI zL mc ms Q) : Run X d C pc ls (pI i :: pR (xbase + e) :: st) S zI zL mc ms Q := runL_step (wpM_mono X d) h (by show elI S X zI (xbase + e) i (fun x => Run X d C nx ls (pI x :: st) S zI zL mc ms Q); unfold elI; rw [if_neg (by omega), Nat.add_sub_cancel_left]; exact ⟨⟨he, hs, h0, h1⟩, k⟩)
theorem r_bald {o n : Nat} {i : Int} (h : C[pc]? = some (.baload, nx, a, b, c)) (ho : row S 14 o n) (h0 : 0 ≤ i) (h1 : i < n) (k : Run X d C nx ls (pI (zI o i) :: st) S zI zL mc ms Q) : Run X d C pc ls (pI i :: pR o :: st) S zI zL mc ms Q := runL_step (wpM_mono X d) h ⟨⟨⟨n, ho.1, h0, h1, ho.2.1⟩, ho.2.2⟩, k⟩
theorem r_lald {o n : Nat} {i : Int} (h : C[pc]? = some (.laload, nx, a, b, c)) (ho : row S 13 o n) (h0 : 0 ≤ i) (h1 : i < n) (k : Run X d C nx ls (pL (zL o i) :: st) S zI zL mc ms Q) : Run X d C pc ls (pI i :: pR o :: st) S zI zL mc ms Q := runL_step (wpM_mono X d) h ⟨⟨⟨n, ho.1, h0, h1, ho.2.1⟩, ho.2.2⟩, k⟩
theorem r_aald {kd o n v : Nat} {i : Int} (h : C[pc]? = some (.aaload, nx, a, b, c)) (ho : row S kd o n) (hk : kd = 15 ∨ kd = 16 ∨ kd = 17) (h0 : 0 ≤ i) (h1 : i < n) (hv : S.2 o i = some v) (k : Run X d C nx ls (pR v :: st) S zI zL mc ms Q) : Run X d C pc ls (pI i :: pR o :: st) S zI zL mc ms Q := runL_step (wpM_mono X d) h ⟨⟨by
  rcases hk with rfl | rfl | rfl
  · exact Or.inl ⟨n, ho.1, h0, h1, ho.2.1⟩
  · exact Or.inr (Or.inl ⟨n, ho.1, h0, h1, ho.2.1⟩)
  · exact Or.inr (Or.inr ⟨n, ho.1, h0, h1, ho.2.1⟩), ho.2.2⟩, by rw [hv]; exact k⟩
theorem r_iast {o n : Nat} {i x : Int} (h : C[pc]? = some (.iastore, nx, a, b, c)) (ho : row S 12 o n) (h0 : 0 ≤ i) (h1 : i < n) (k : Run X d C nx ls st S (zput zI o i x) zL mc ms Q) : Run X d C pc ls (pI x :: pI i :: pR o :: st) S zI zL mc ms Q := runL_step (wpM_mono X d) h ⟨⟨⟨n, ho.1, h0, h1, ho.2.1⟩, ho.2.2⟩, k⟩
theorem r_bast {o n : Nat} {i x : Int} (h : C[pc]? = some (.bastore, nx, a, b, c)) (ho : row S 14 o n) (h0 : 0 ≤ i) (h1 : i < n) (hx : x = 0 ∨ x = 1) (k : Run X d C nx ls st S (zput zI o i x) zL mc ms Q) : Run X d C pc ls (pI x :: pI i :: pR o :: st) S zI zL mc ms Q := runL_step (wpM_mono X d) h ⟨⟨⟨n, ho.1, h0, h1, ho.2.1⟩, ho.2.2⟩, hx, k⟩
theorem r_last {o n : Nat} {i x : Int} (h : C[pc]? = some (.lastore, nx, a, b, c)) (ho : row S 13 o n) (h0 : 0 ≤ i) (h1 : i < n) (k : Run X d C nx ls st S zI (zput zL o i x) mc ms Q) : Run X d C pc ls (pL x :: pI i :: pR o :: st) S zI zL mc ms Q := runL_step (wpM_mono X d) h ⟨⟨⟨n, ho.1, h0, h1, ho.2.1⟩, ho.2.2⟩, k⟩
theorem r_aast {kd q o n v : Nat} {i : Int} (h : C[pc]? = some (.aastore, nx, a, b, c)) (ho : row S kd o n) (hk : (kd = 15 ∧ q = 3) ∨ (kd = 16 ∧ q = 1) ∨ (kd = 17 ∧ q = 7)) (hv : ob S v q) (h0 : 0 ≤ i) (h1 : i < n) (k : Run X d C nx ls st (S.1, rput S.2 o i (some v)) zI zL mc ms Q) : Run X d C pc ls (pR v :: pI i :: pR o :: st) S zI zL mc ms Q := runL_step (wpM_mono X d) h ⟨⟨by
  rcases hk with ⟨rfl, rfl⟩ | ⟨rfl, rfl⟩ | ⟨rfl, rfl⟩
  · exact Or.inl ⟨⟨n, ho.1, h0, h1, ho.2.1⟩, hv.1⟩
  · exact Or.inr (Or.inl ⟨⟨n, ho.1, h0, h1, ho.2.1⟩, hv.1⟩)
  · exact Or.inr (Or.inr ⟨⟨n, ho.1, h0, h1, ho.2.1⟩, hv.1⟩), ho.2.2, hv.2⟩, k⟩
theorem r_alen {kd o n : Nat} (h : C[pc]? = some (.arraylength, nx, a, b, c)) (ho : row S kd o n) (hk : 12 ≤ kd) (k : Run X d C nx ls (pI n :: st) S zI zL mc ms Q) : Run X d C pc ls (pR o :: st) S zI zL mc ms Q := runL_step (wpM_mono X d) h (by
  show (if o < xbase then _ else _)
  rw [if_pos ho.2.2]; exact ⟨n, kd, hk, ho.1, k⟩)
theorem r_xlen {e : Nat} (h : C[pc]? = some (.arraylength, nx, a, b, c)) (he : e < 4) (k : Run X d C nx ls (pI (X e).1 :: st) S zI zL mc ms Q) : Run X d C pc ls (pR (xbase + e) :: st) S zI zL mc ms Q := runL_step (wpM_mono X d) h (by
  show (if _ < xbase then _ else _)
  rw [if_neg (by omega), Nat.add_sub_cancel_left]; exact ⟨he, k⟩)
theorem r_newa {t : ArrayType} {n : Int} {m : Nat} (h : C[pc]? = some (.newarray t, nx, a, b, c)) (hn : n = m) (h1 : m ≤ 10000) (h2 : 1 ≤ mc) (h3 : m ≤ ms) (h4 : S.1.length < 10000) (k : Run X d C nx ls (pR S.1.length :: st) (S.1 ++ [(a, m)], S.2) (zrow zI S.1.length fun _ => 0) (zrow zL S.1.length fun _ => 0) (mc - 1) (ms - m) Q) : Run X d C pc ls (pI n :: st) S zI zL mc ms Q := by
  subst hn
  exact runL_step (wpM_mono X d) h ⟨⟨by omega, by omega, h2, by rw [Int.toNat_natCast]; exact h3, h4⟩, by rw [Int.toNat_natCast]; exact k⟩
theorem r_newq {t : Nat} {n : Int} {m : Nat} (h : C[pc]? = some (.anewarray t, nx, a, b, c)) (hn : n = m) (h1 : m ≤ 10000) (h2 : 1 ≤ mc) (h3 : m ≤ ms) (h4 : S.1.length < 10000) (k : Run X d C nx ls (pR S.1.length :: st) (S.1 ++ [(a, m)], rrow S.2 S.1.length) zI zL (mc - 1) (ms - m) Q) : Run X d C pc ls (pI n :: st) S zI zL mc ms Q := by
  subst hn
  exact runL_step (wpM_mono X d) h ⟨⟨by omega, by omega, h2, by rw [Int.toNat_natCast]; exact h3, h4⟩, by rw [Int.toNat_natCast]; exact k⟩
theorem r_new {t : Nat} (h : C[pc]? = some (.new t, nx, a, b, c)) (h2 : 1 ≤ mc) (h3 : NF a ≤ ms) (h4 : S.1.length < 10000) (k : Run X d C nx ls (pR S.1.length :: st) (S.1 ++ [(a, 0)], rrow S.2 S.1.length) (zrow zI S.1.length fun _ => 0) (zrow zL S.1.length fun _ => 0) (mc - 1) (ms - NF a) Q) : Run X d C pc ls st S zI zL mc ms Q := runL_step (wpM_mono X d) h ⟨⟨h2, h3, h4⟩, k⟩
theorem r_obj {t o : Nat} (h : C[pc]? = some (.invokespecial t, nx, a, b, 5)) (hp : pcats st ≤ 8) (k : Run X d C nx ls st S zI zL mc ms Q) : Run X d C pc ls (pR o :: st) S zI zL mc ms Q := runL_step (wpM_mono X d) h ⟨hp, k⟩
/-- a call: 'as' the arguments, the receiver first, 'st' what lies below -/
theorem r_callV {t o : Nat} {as : List PV} {st0 : List PV} (h : C[pc]? = some (.invokevirtual t, nx, a, b, c)) (hs : st0 = as.reverse ++ st) (hb : as.length = b) (ho : as[0]? = some (pR o)) (hr : ob S o (RC a)) (hp : pcats st ≤ 8) (h1 : MC a ≤ mc) (h2 : MS a ≤ ms)
    (k : wpM X d a as S zI zL (fun r S' zI' zL' => Run X d C nx ls (r.toList ++ st) S' zI' zL' (mc - MC a) (ms - MS a) Q)) : Run X d C pc ls st0 S zI zL mc ms Q := by
  have hb' : as.reverse.length = b := by rw [List.length_reverse, hb]
  refine runL_step (wpM_mono X d) h ⟨?_, ?_, ?_, h1, h2, ?_⟩
  · unfold recv
    have e : st0[b - 1]? = some (.inr (.inr (some o))) := by
      have hpos : 0 < as.length := (List.getElem?_eq_some_iff.mp ho).1
      rw [hs, List.getElem?_append_left (by omega), List.getElem?_reverse (by omega)]
      rw [show as.length - 1 - (b - 1) = 0 by omega]; exact ho
    rw [e]; exact hr
  · rw [hs, List.length_append, hb']; omega
  · rw [hs, List.drop_left' hb']; exact hp
  · rw [hs, List.drop_left' hb', List.take_left' hb', List.reverse_reverse]; exact k
theorem r_callS {t : Nat} {as : List PV} {st0 : List PV} (h : C[pc]? = some (.invokestatic t, nx, a, b, c)) (hc : c ≠ 6) (hs : st0 = as.reverse ++ st) (hb : as.length = b) (hp : pcats st ≤ 8) (h1 : MC a ≤ mc) (h2 : MS a ≤ ms)
    (k : wpM X d a as S zI zL (fun r S' zI' zL' => Run X d C nx ls (r.toList ++ st) S' zI' zL' (mc - MC a) (ms - MS a) Q)) : Run X d C pc ls st0 S zI zL mc ms Q := by
  have hb' : as.reverse.length = b := by rw [List.length_reverse, hb]
  refine runL_step (wpM_mono X d) h ?_
  show (if c = 6 then _ else _)
  rw [if_neg hc]
  refine ⟨?_, ?_, h1, h2, ?_⟩
  · rw [hs, List.length_append, hb']; omega
  · rw [hs, List.drop_left' hb']; exact hp
  · rw [hs, List.drop_left' hb', List.take_left' hb', List.reverse_reverse]; exact k
theorem r_callI {t o : Nat} {as : List PV} {st0 : List PV} (h : C[pc]? = some (.invokespecial t, nx, a, b, c)) (hc : c ≠ 5) (hs : st0 = as.reverse ++ st) (hb : as.length = b) (ho : as[0]? = some (pR o)) (hp : pcats st ≤ 8) (h1 : MC a ≤ mc) (h2 : MS a ≤ ms)
    (k : wpM X d a as S zI zL (fun r S' zI' zL' => Run X d C nx ls (r.toList ++ st) S' zI' zL' (mc - MC a) (ms - MS a) Q)) : Run X d C pc ls st0 S zI zL mc ms Q := by
  have hb' : as.reverse.length = b := by rw [List.length_reverse, hb]
  refine runL_step (wpM_mono X d) h ?_
  show (if c = 5 then _ else _)
  rw [if_neg hc]
  refine ⟨?_, ?_, ?_, h1, h2, ?_⟩
  · unfold recvA
    have e : st0[b - 1]? = some (.inr (.inr (some o))) := by
      have hpos : 0 < as.length := (List.getElem?_eq_some_iff.mp ho).1
      rw [hs, List.getElem?_append_left (by omega), List.getElem?_reverse (by omega)]
      rw [show as.length - 1 - (b - 1) = 0 by omega]; exact ho
    rw [e]; trivial
  · rw [hs, List.length_append, hb']; omega
  · rw [hs, List.drop_left' hb']; exact hp
  · rw [hs, List.drop_left' hb', List.take_left' hb', List.reverse_reverse]; exact k
theorem r_acopyI {t src dst n0 n1 : Nat} {sp dp n : Int} (h : C[pc]? = some (.invokestatic t, nx, a, b, 6)) (h0 : row S 12 src n0) (h1 : row S 12 dst n1) (hp : pcats st ≤ 8) (a0 : 0 ≤ sp) (a1 : 0 ≤ dp) (a2 : 0 ≤ n) (a3 : sp + n ≤ n0) (a4 : dp + n ≤ n1)
    (k : Run X d C nx ls st S (zrow zI dst (cpI (zI src) (zI dst) sp dp n)) zL mc ms Q) : Run X d C pc ls (pI n :: pI dp :: pR dst :: pI sp :: pR src :: st) S zI zL mc ms Q :=
  runL_step (wpM_mono X d) h ⟨hp, 12, n0, n1, h0.1, h1.1, h0.2.2, h1.2.2, h0.2.1, h1.2.1, a0, a1, a2, a3, a4, Or.inl ⟨rfl, k⟩⟩
theorem r_acopyL {t src dst n0 n1 : Nat} {sp dp n : Int} (h : C[pc]? = some (.invokestatic t, nx, a, b, 6)) (h0 : row S 13 src n0) (h1 : row S 13 dst n1) (hp : pcats st ≤ 8) (a0 : 0 ≤ sp) (a1 : 0 ≤ dp) (a2 : 0 ≤ n) (a3 : sp + n ≤ n0) (a4 : dp + n ≤ n1)
    (k : Run X d C nx ls st S zI (zrow zL dst (cpI (zL src) (zL dst) sp dp n)) mc ms Q) : Run X d C pc ls (pI n :: pI dp :: pR dst :: pI sp :: pR src :: st) S zI zL mc ms Q :=
  runL_step (wpM_mono X d) h ⟨hp, 13, n0, n1, h0.1, h1.1, h0.2.2, h1.2.2, h0.2.1, h1.2.1, a0, a1, a2, a3, a4, Or.inr ⟨rfl, k⟩⟩
/-- a method's start -/
theorem wp_in {f : Nat} {as : List PV} (hC : MCode f = C) (hl : entryL (mL f) as = ls) (hn : ls.length = mL f) (h1 : MC f = mc) (h2 : MS f = ms) (k : Run X d C 0 ls [] S zI zL mc ms Q) : wpM X (d + 1) f as S zI zL Q := by
  subst hC; subst hl; subst h1; subst h2; exact ⟨hn, k⟩
theorem wp_imp {f : Nat} {as : List PV} {Q' : PQ} (h : wpM X d f as S zI zL Q') (hq : ∀ r S zI zL, Q' r S zI zL → Q r S zI zL) : wpM X d f as S zI zL Q := wpM_mono X d _ _ _ _ _ _ _ hq h
end Rows
end
section
/-! SOUNDNESS, first half: pictures of the pure machine's cells in the heap -/
def ad (bs : Nat) (ex : Nat → Nat) (j : Nat) : Nat := if j < xbase then bs + j else ex (j - xbase)
def tv (bs : Nat) (ex : Nat → Nat) : PV → Value
  | .inl a => .int (i3 a)
  | .inr (.inl a) => .long (i6 a)
  | .inr (.inr r) => va_rf (r.map (ad bs ex))
def fvO (bs : Nat) (ex : Nat → Nat) (S : SS) (zI zL : ZM) (ty : FieldType) (i : Nat) (k : Int) : Value := match ty with
  | .long => .long (i6 (zL i k))
  | .int => .int (i3 (zI i k))
  | .boolean => .int (i3 (zI i k))
  | _ => va_rf ((S.2 i k).map (ad bs ex))
def arO (bs : Nat) (ex : Nat → Nat) (S : SS) (zI zL : ZM) (kd i : Nat) : (Nat → Int32) ⊕ (Nat → Int64) ⊕ (Nat → UInt32) ⊕ (Nat → UInt64) ⊕ (Nat → Option Nat) :=
  if kd = 13 then .inr (.inl fun j => i6 (zL i (j : Int))) else if kd = 12 ∨ kd = 14 then .inl fun j => i3 (zI i (j : Int)) else .inr (.inr (.inr (.inr fun j => (S.2 i (j : Int)).map (ad bs ex))))
def fsO (bs : Nat) (ex : Nat → Nat) (S : SS) (zI zL : ZM) (a i : Nat) : List Value := (List.range (NF a)).map fun k => fvO bs ex S zI zL (tyF a k) i (k : Int)
def entO (bs : Nat) (ex : Nat → Nat) (cA : Nat → ClassId) (S : SS) (zI zL : ZM) (i : Nat) (m : Nat × Nat) : va_E := if m.1 < 12 then .inr (m.1, fsO bs ex S zI zL m.1 i) else .inl (cA i, m.2, arO bs ex S zI zL m.1 i)
def wlO (bs : Nat) (ex : Nat → Nat) (cA : Nat → ClassId) (S : SS) (zI zL : ZM) : va_W := S.1.zipIdx.map fun q => (bs + q.2, entO bs ex cA S zI zL q.2 q.1)
def elT (kd : Nat) : FieldType := if kd = 12 then .int else if kd = 13 then .long else if kd = 14 then .boolean else .object (arN kd)
def ARO (cA : Nat → ClassId) (S : SS) (s : State) : Prop := ∀ i kd n : Nat, S.1[i]? = some (kd, n) → 12 ≤ kd → ArrOfT s (cA i) (elT kd) ∧ va_RA s (cA i) (elT kd)
def LRO (bs : Nat) (ex : Nat → Nat) (ls : List (Option PV)) (lv : List (Nat × Value)) : Prop := ∀ (i : Nat) (v : PV), ls[i]? = some (some v) → (i, tv bs ex v) ∈ lv
theorem wlO_get (bs : Nat) (ex : Nat → Nat) (cA : Nat → ClassId) (S : SS) (zI zL : ZM) (i : Nat) : (wlO bs ex cA S zI zL)[i]? = (S.1[i]?).map fun m => (bs + i, entO bs ex cA S zI zL i m) := by
  unfold wlO
  rw [List.getElem?_map, List.getElem?_zipIdx, Option.map_map, Nat.zero_add]
  rfl
theorem wlO_at {bs : Nat} {ex : Nat → Nat} {cA : Nat → ClassId} {S : SS} {zI zL : ZM} {i : Nat} {m : Nat × Nat} (h : S.1[i]? = some m) : (wlO bs ex cA S zI zL)[i]? = some (bs + i, entO bs ex cA S zI zL i m) := by
  rw [wlO_get, h]; rfl
theorem wlO_obj {bs : Nat} {ex : Nat → Nat} {cA : Nat → ClassId} {S : SS} {zI zL : ZM} {i a : Nat} (h : S.1[i]? = some (a, 0)) (ha : a < 11) : (wlO bs ex cA S zI zL)[i]? = some (bs + i, .inr (a, fsO bs ex S zI zL a i)) := by
  rw [wlO_at h]; unfold entO; rw [if_pos (show a < 12 by omega)]
theorem wlO_arr {bs : Nat} {ex : Nat → Nat} {cA : Nat → ClassId} {S : SS} {zI zL : ZM} {i kd n : Nat} (h : S.1[i]? = some (kd, n)) (ha : 12 ≤ kd) : (wlO bs ex cA S zI zL)[i]? = some (bs + i, .inl (cA i, n, arO bs ex S zI zL kd i)) := by
  rw [wlO_at h]; unfold entO; rw [if_neg (show ¬ kd < 12 by omega)]
theorem entO_congr {bs : Nat} {ex : Nat → Nat} {cA cA' : Nat → ClassId} {S S' : SS} {zI zL zI' zL' : ZM} {i : Nat} (h1 : zI' i = zI i) (h2 : zL' i = zL i) (h3 : S'.2 i = S.2 i) (h4 : cA' i = cA i) (m : Nat × Nat) : entO bs ex cA' S' zI' zL' i m = entO bs ex cA S zI zL i m := by
  have e1 : ∀ ty k, fvO bs ex S' zI' zL' ty i k = fvO bs ex S zI zL ty i k := fun ty k => by unfold fvO; rw [h1, h2, h3]
  have e2 : ∀ a, fsO bs ex S' zI' zL' a i = fsO bs ex S zI zL a i := fun a => by unfold fsO; exact List.map_congr_left fun k _ => e1 _ _
  have e3 : ∀ a, arO bs ex S' zI' zL' a i = arO bs ex S zI zL a i := fun a => by unfold arO; rw [h1, h2, h3]
  unfold entO; rw [e2, e3, h4]
/-- one cell has changed -/
theorem wlO_set {bs : Nat} {ex : Nat → Nat} {cA : Nat → ClassId} {S S' : SS} {zI zL zI' zL' : ZM} {h : Nat} {m : Nat × Nat} {e : va_E} (hm : S.1[h]? = some m) (hS : S'.1 = S.1) (h1 : ∀ i, i ≠ h → zI' i = zI i) (h2 : ∀ i, i ≠ h → zL' i = zL i) (h3 : ∀ i, i ≠ h → S'.2 i = S.2 i) (he : entO bs ex cA S' zI' zL' h m = e) :
    (wlO bs ex cA S zI zL).set h (bs + h, e) = wlO bs ex cA S' zI' zL' := by
  apply List.ext_getElem?
  intro i
  rw [wlO_get, List.getElem?_set, wlO_get, hS]
  by_cases hi : h = i
  · subst hi
    have hlt : h < (wlO bs ex cA S zI zL).length := (List.getElem?_eq_some_iff.mp (wlO_at hm)).1
    rw [if_pos rfl, if_pos hlt, hm, ← he]; rfl
  · rw [if_neg hi]
    cases hc : S.1[i]? with
    | none => rfl
    | some q => simp only [Option.map_some]; rw [entO_congr (h1 i (fun z => hi z.symm)) (h2 i (fun z => hi z.symm)) (h3 i (fun z => hi z.symm)) rfl]
theorem wlO_push {bs : Nat} {ex : Nat → Nat} {cA cA' : Nat → ClassId} {S S' : SS} {zI zL zI' zL' : ZM} {m : Nat × Nat} {e : va_E} (hS : S'.1 = S.1 ++ [m]) (h1 : ∀ i, i < S.1.length → zI' i = zI i) (h2 : ∀ i, i < S.1.length → zL' i = zL i) (h3 : ∀ i, i < S.1.length → S'.2 i = S.2 i) (h4 : ∀ i, i < S.1.length → cA' i = cA i) (he : entO bs ex cA' S' zI' zL' S.1.length m = e) :
    wlO bs ex cA S zI zL ++ [(bs + S.1.length, e)] = wlO bs ex cA' S' zI' zL' := by
  have hl : (wlO bs ex cA S zI zL).length = S.1.length := by unfold wlO; rw [List.length_map, List.length_zipIdx]
  apply List.ext_getElem?
  intro i
  rw [wlO_get, hS]
  rcases Nat.lt_trichotomy i S.1.length with hi | hi | hi
  · rw [List.getElem?_append_left (by rw [hl]; exact hi), wlO_get, List.getElem?_append_left hi]
    cases hc : S.1[i]? with
    | none => rfl
    | some q => simp only [Option.map_some]; rw [entO_congr (h1 i hi) (h2 i hi) (h3 i hi) (h4 i hi)]
  · subst hi
    rw [List.getElem?_append_right (by omega), hl, Nat.sub_self, List.getElem?_append_right (Nat.le_refl _), Nat.sub_self, ← he]; rfl
  · rw [List.getElem?_eq_none (by rw [List.length_append, hl]; exact hi), List.getElem?_eq_none (by rw [List.length_append]; exact hi)]; rfl
theorem wlO_D (bs : Nat) (ex : Nat → Nat) (cA : Nat → ClassId) (S : SS) (zI zL : ZM) : va_D (fun q => bs ≤ q) (wlO bs ex cA S zI zL) := by
  have key : ∀ (k : Nat) (q : Nat × va_E), (wlO bs ex cA S zI zL)[k]? = some q → q.1 = bs + k := by
    intro k q h
    rw [wlO_get] at h
    cases hc : S.1[k]? with
    | none => rw [hc] at h; cases h
    | some m => rw [hc] at h; cases h; rfl
  refine ⟨fun i j p q h1 h2 h => ?_, fun k q h => ?_⟩
  · have a := key i p h1; have b := key j q h2; omega
  · rw [key k q h]; exact Nat.le_add_right _ _
theorem fsO_get {bs : Nat} {ex : Nat → Nat} {S : SS} {zI zL : ZM} {a i k : Nat} (hk : k < NF a) : (fsO bs ex S zI zL a i)[k]? = some (fvO bs ex S zI zL (tyF a k) i (k : Int)) := by
  unfold fsO; rw [List.getElem?_map, List.getElem?_range hk]; rfl
theorem fsO_len {bs : Nat} {ex : Nat → Nat} {S : SS} {zI zL : ZM} {a i : Nat} : (fsO bs ex S zI zL a i).length = NF a := by unfold fsO; rw [List.length_map, List.length_range]
theorem fsO_set {bs : Nat} {ex : Nat → Nat} {S S' : SS} {zI zL zI' zL' : ZM} {a i k : Nat} {v : Value} (hk : k < NF a) (hv : fvO bs ex S' zI' zL' (tyF a k) i (k : Int) = v) (h1 : ∀ j : Nat, j ≠ k → zI' i (j : Int) = zI i (j : Int)) (h2 : ∀ j : Nat, j ≠ k → zL' i (j : Int) = zL i (j : Int)) (h3 : ∀ j : Nat, j ≠ k → S'.2 i (j : Int) = S.2 i (j : Int)) :
    (fsO bs ex S zI zL a i).set k v = fsO bs ex S' zI' zL' a i := by
  apply List.ext_getElem?
  intro j
  rw [List.getElem?_set, fsO_len]
  by_cases hj : k = j
  · subst hj
    rw [if_pos rfl, if_pos hk, fsO_get hk, hv]
  · rw [if_neg hj]
    by_cases hl : j < NF a
    · rw [fsO_get hl, fsO_get hl]
      unfold fvO
      rw [h1 j (fun z => hj z.symm), h2 j (fun z => hj z.symm), h3 j (fun z => hj z.symm)]
    · rw [List.getElem?_eq_none (by rw [fsO_len]; omega), List.getElem?_eq_none (by rw [fsO_len]; omega)]
theorem tv_cat (bs : Nat) (ex : Nat → Nat) (v : PV) : (tv bs ex v).category = pcat v := by
  rcases v with a | a | (_ | a) <;> rfl
theorem tv_cats (bs : Nat) (ex : Nat → Nat) (st : List PV) : ((st.map (tv bs ex)).map fun v => v.category).sum = pcats st := by
  unfold pcats
  rw [List.map_map]
  congr 1
  exact List.map_congr_left fun v _ => tv_cat bs ex v
theorem clr_len (ls : List (Option PV)) (i : Nat) : (clr ls i).length = ls.length := by
  unfold clr; split
  · rfl
  · split
    · exact List.length_set
    · rfl
theorem clr_at {ls : List (Option PV)} {i j : Nat} {u : PV} (h : (clr ls i)[j]? = some (some u)) : ls[j]? = some (some u) ∧ ¬ (j + 1 = i ∧ pcat u = 2) := by
  unfold clr at h
  split at h
  · exact ⟨h, fun z => by omega⟩
  · rename_i k
    split at h
    · rename_i x hx
      rw [List.getElem?_set] at h
      by_cases hj : k = j
      · rw [if_pos hj] at h; split at h <;> simp at h
      · rw [if_neg hj] at h; exact ⟨h, fun z => hj (by omega)⟩
    · rename_i hx
      refine ⟨h, fun z => ?_⟩
      obtain ⟨z1, z2⟩ := z
      have hk : k = j := by omega
      subst hk
      rcases u with a | a | a
      · cases z2
      · exact hx _ h
      · cases z2
theorem LRO_st1 {bs : Nat} {ex : Nat → Nat} {ls : List (Option PV)} {lv : List (Nat × Value)} (h : LRO bs ex ls lv) (i : Nat) (v : PV) : LRO bs ex (st1 ls i v) ((i, tv bs ex v) :: lv.filter (fun q => !(q.1 == i) && !(q.1 + 1 == i && q.2.category == 2))) := by
  intro j u hu
  unfold st1 at hu
  rw [List.getElem?_set] at hu
  by_cases hj : i = j
  · subst hj
    rw [if_pos rfl] at hu
    split at hu
    · cases hu; exact List.mem_cons_self
    · cases hu
  · rw [if_neg hj] at hu
    obtain ⟨h1, h2⟩ := clr_at hu
    refine List.mem_cons_of_mem _ (List.mem_filter.mpr ⟨h j u h1, ?_⟩)
    rw [tv_cat]
    simp only [Bool.and_eq_true, Bool.not_eq_true', beq_eq_false_iff_ne, Bool.and_eq_false_iff, ne_eq]
    refine ⟨fun z => hj z.symm, ?_⟩
    by_cases z : j + 1 = i
    · exact Or.inr fun z2 => h2 ⟨z, z2⟩
    · exact Or.inl z
theorem LRO_st2 {bs : Nat} {ex : Nat → Nat} {ls : List (Option PV)} {lv : List (Nat × Value)} (h : LRO bs ex ls lv) (i : Nat) (v : PV) : LRO bs ex (st2 ls i v) ((i, tv bs ex v) :: lv.filter (fun q => !(q.1 == i) && (!(q.1 == i + 1) && !(q.1 + 1 == i && q.2.category == 2)))) := by
  intro j u hu
  unfold st2 at hu
  rw [List.getElem?_set] at hu
  by_cases hj1 : i + 1 = j
  · rw [if_pos hj1] at hu; split at hu <;> simp at hu
  rw [if_neg hj1, List.getElem?_set] at hu
  by_cases hj : i = j
  · subst hj
    rw [if_pos rfl] at hu
    split at hu
    · cases hu; exact List.mem_cons_self
    · cases hu
  · rw [if_neg hj] at hu
    obtain ⟨h1, h2⟩ := clr_at hu
    refine List.mem_cons_of_mem _ (List.mem_filter.mpr ⟨h j u h1, ?_⟩)
    rw [tv_cat]
    simp only [Bool.and_eq_true, Bool.not_eq_true', beq_eq_false_iff_ne, Bool.and_eq_false_iff, ne_eq]
    refine ⟨fun z => hj z.symm, fun z => hj1 z.symm, ?_⟩
    by_cases z : j + 1 = i
    · exact Or.inr fun z2 => h2 ⟨z, z2⟩
    · exact Or.inl z
theorem st1_len (ls : List (Option PV)) (i : Nat) (v : PV) : (st1 ls i v).length = ls.length := by unfold st1; rw [List.length_set, clr_len]
theorem st2_len (ls : List (Option PV)) (i : Nat) (v : PV) : (st2 ls i v).length = ls.length := by unfold st2; rw [List.length_set, List.length_set, clr_len]
theorem tv_rdF {bs : Nat} {ex : Nat → Nat} {S : SS} {zI zL : ZM} {ty : FieldType} {h : Nat} {c : Int} : tv bs ex (rdF S zI zL (tagOf ty) h c) = fvO bs ex S zI zL ty h c := by
  cases ty <;> rfl
theorem vwCl_at : ∀ a, a < 11 → vwCl[a]? = some (rN a, TF a, NF a)
  | 0, _ => rfl | 1, _ => rfl | 2, _ => rfl | 3, _ => rfl | 4, _ => rfl | 5, _ => rfl | 6, _ => rfl | 7, _ => rfl | 8, _ => rfl | 9, _ => rfl | 10, _ => rfl
  | n + 11, h => absurd h (by omega)
theorem tyF_ok : ∀ a, a < 11 → ∀ k, k < NF a → parseFieldDescriptor (TF a k).2.2.1 = some (tyF a k)
  | 0, _ => tyX0_ok | 1, _ => tyX1_ok | 2, _ => tyX2_ok | 3, _ => tyX3_ok | 4, _ => tyX4_ok | 5, _ => tyX5_ok | 6, _ => tyX6_ok | 7, _ => tyX7_ok | 8, _ => tyX8_ok | 9, _ => tyX9_ok | 10, _ => tyX10_ok
  | n + 11, h => absurd h (by omega)
theorem nmF_ok : ∀ a, a < 11 → ∀ i, i < NF a → ∀ j, j < NF a → i ≠ j → (TF a i).2.1 ≠ (TF a j).2.1
  | 0, _ => nmX0 | 1, _ => nmX1 | 2, _ => nmX2 | 3, _ => nmX3 | 4, _ => nmX4 | 5, _ => nmX5 | 6, _ => nmX6 | 7, _ => nmX7 | 8, _ => nmX8 | 9, _ => nmX9 | 10, _ => nmX10
  | n + 11, h => absurd h (by omega)
theorem decl_ok : ∀ a, a < 11 → ∀ k, k < NF a → (TF a k).1 = rN a := by decide +kernel
theorem lay_ok (a : Nat) (ha : a < 11) : ∀ w ∈ u_ws (rN a) (TF a) (NF a), w ∈ BIG := by
  intro w hw
  obtain ⟨k, hk, rfl⟩ := List.mem_map.mp hw
  have hk := List.mem_range.mp hk
  have key : ∀ a, a < 11 → ∀ k, k < NF a → LWs.any (fun e => e.1 == a && e.2.1 == k) = true := by decide +kernel
  obtain ⟨e, he, hq⟩ := List.any_eq_true.mp (key a ha k hk)
  simp only [Bool.and_eq_true, beq_iff_eq] at hq
  have := List.all_eq_true.mp LWs_ok e he
  unfold ckW at this
  rw [hq.1, hq.2] at this
  exact inT_big this
theorem LF_in {oi x a k : Nat} (h : LFs.any (fun e => e.1 == oi && e.2.1 == x && e.2.2.1 == a && e.2.2.2.1 == k) = true) : Cond.fieldLink (rN oi) x (TF a k).1 (TF a k).2.1 (TF a k).2.2.1 ∈ BIG := by
  obtain ⟨e, he, hq⟩ := List.any_eq_true.mp h
  simp only [Bool.and_eq_true, beq_iff_eq] at hq
  obtain ⟨⟨⟨q1, q2⟩, q3⟩, q4⟩ := hq
  have := List.all_eq_true.mp LFs_ok e he
  unfold ckF at this
  rw [q1, q2, q3, q4] at this
  exact inT_big this
theorem LC_in {oi x : Nat} {c : Int} (h : LCs.any (fun e => e.1 == oi && e.2.1 == x && e.2.2.1 == c) = true) : Cond.constant (rN oi) x (i3 c) ∈ BIG := by
  obtain ⟨e, he, hq⟩ := List.any_eq_true.mp h
  simp only [Bool.and_eq_true, beq_iff_eq] at hq
  obtain ⟨⟨q1, q2⟩, q3⟩ := hq
  have := List.all_eq_true.mp LCs_ok e he
  unfold ckC at this
  rw [q1, q2, q3] at this
  exact inT_big this
theorem LL_in {oi x : Nat} {c : Int} (h : LLs.any (fun e => e.1 == oi && e.2.1 == x && e.2.2.1 == c) = true) : Cond.constantLong (rN oi) x (i6 c) ∈ BIG := by
  obtain ⟨e, he, hq⟩ := List.any_eq_true.mp h
  simp only [Bool.and_eq_true, beq_iff_eq] at hq
  obtain ⟨⟨q1, q2⟩, q3⟩ := hq
  have := List.all_eq_true.mp LLs_ok e he
  unfold ckL at this
  rw [q1, q2, q3] at this
  exact inT_big this
theorem LN_in {oi x a : Nat} (h : LNs.any (fun e => e.1 == oi && e.2.1 == x && e.2.2.1 == a) = true) : a < 11 ∧ Cond.classLink (rN oi) x (rN a) ∈ BIG ∧ Cond.instantiable (rN a) (NF a) ∈ BIG ∧ Cond.initialized (rN a) ∈ BIG := by
  obtain ⟨⟨e1, e2, e3, e4, e5, e6⟩, he, hq⟩ := List.any_eq_true.mp h
  simp only [Bool.and_eq_true, beq_iff_eq] at hq
  obtain ⟨⟨q1, q2⟩, q3⟩ := hq
  have := List.all_eq_true.mp LNs_ok _ he
  unfold ckN at this
  subst q1; subst q2; subst q3
  simp only [Bool.and_eq_true, decide_eq_true_eq] at this
  exact ⟨this.2, inT_big this.1.1.1, inT_big this.1.1.2, inT_big this.1.2⟩
theorem LA_in {oi x a : Nat} (h : LAs.any (fun e => e.1 == oi && e.2.1 == x && e.2.2.1 == a) = true) : (a = 15 ∨ a = 16 ∨ a = 17) ∧ Cond.classLink (rN oi) x (arN a) ∈ BIG := by
  obtain ⟨⟨e1, e2, e3, e4⟩, he, hq⟩ := List.any_eq_true.mp h
  simp only [Bool.and_eq_true, beq_iff_eq] at hq
  obtain ⟨⟨q1, q2⟩, q3⟩ := hq
  have := List.all_eq_true.mp LAs_ok _ he
  unfold ckA at this
  subst q1; subst q2; subst q3
  simp only [Bool.and_eq_true, decide_eq_true_eq] at this
  exact ⟨this.2, inT_big this.1⟩
theorem LS_in {oi x a : Nat} (h : LSs.any (fun e => e.1 == oi && e.2.1 == x && e.2.2.1 == a) = true) : (a = 1 ∨ a = 2 ∨ a = 3) ∧ Cond.fieldLinkNest (rN oi) x "CornerCurves" (stN a) "[I" "CornerCurves" ∈ nestW := by
  obtain ⟨⟨e1, e2, e3, e4⟩, he, hq⟩ := List.any_eq_true.mp h
  simp only [Bool.and_eq_true, beq_iff_eq] at hq
  obtain ⟨⟨q1, q2⟩, q3⟩ := hq
  have := List.all_eq_true.mp LSs_ok _ he
  unfold ckS at this
  subst q1; subst q2; subst q3
  simp only [Bool.and_eq_true, decide_eq_true_eq] at this
  exact ⟨this.2, inN_nest this.1⟩
theorem i3_nat (n : Nat) : i3 (n : Int) = nI n := rfl
theorem i3_clamp {i : Int} {n : Nat} (h0 : 0 ≤ i) (h1 : i < n) (hn : n ≤ 100000) : (i3 i).toNatClampNeg = i.toNat ∧ vp_in (i3 i) n := by
  obtain ⟨k, rfl⟩ := Int.eq_ofNat_of_zero_le h0
  have hk : k < n := by omega
  refine ⟨?_, ?_⟩
  · show (nI k).toNatClampNeg = _
    rw [nI_clamp (by omega)]; rfl
  · exact vp_in_nI hk (by omega)
end
section
/-! SOUNDNESS, second half: the contracts, and every instruction -/
def KNO (D : va_G) (ex : Nat → Nat) (X : PX) (bs : Nat) (s : State) : Prop :=
  va_K D vwCl [] s ∧ (∀ e, e < 4 → va_T .int (ex e) (X e).1 (fun j => .int (i3 ((X e).2 (j : Int)))) (fun q => bs ≤ q) s s.heap) ∧ (∀ a, a = 1 ∨ a = 2 ∨ a = 3 → va_Z "CornerCurves" (stN a) "[I" (.ref (ex a)) (fun q => bs ≤ q) s s.heap) ∧ (∀ w ∈ nestW, va_Nw w s) ∧ ∀ kd, kd = 15 ∨ kd = 16 ∨ kd = 17 → va_AO (arN kd) s
theorem nest_onT : ∀ w ∈ nestW, w.onTables = true := by
  intro w hw
  have h := (List.mem_filter.mp hw).2
  cases w <;> first | rfl | cases h
theorem nest_warm {s U : State} (hW : s.WarmedH U.vm) (h : ∀ w ∈ nestW, va_Nw w s) : ∀ w ∈ nestW, va_Nw w U := by
  intro w hw
  have h1 := (List.mem_filter.mp hw).2
  have h2 := h w hw
  cases w <;> first | cases h1; done | exact va_Nw.warmF hW h2 | exact va_Nw.warmM hW h2
theorem KNO_warm {D : va_G} {ex : Nat → Nat} {X : PX} {bs : Nat} {s U : State} {locs : List Loc} (hW : s.WarmedH U.vm) (hS : va_S (fun q => bs ≤ q) s.heap U.heap locs) (h : KNO D ex X bs s) : KNO D ex X bs U := by
  obtain ⟨h1, h2, h3, h4, h5⟩ := h
  have ha := hW.alike
  exact ⟨va_K.moved ha h1, fun e he => ((h2 e he).moved ha).kept hS.2.1, fun a q => ((h3 a q).moved ha).kept hS.2.1, nest_warm hW h4, fun kd q => (h5 kd q).moved ha⟩
def PcO (D : va_G) (bs : Nat) (ex : Nat → Nat) (X : PX) (as : List PV) (S : SS) (zI zL : ZM) : Array Value → State → Prop :=
  va_Pc (as.map (tv bs ex)) fun U => KNO D ex X bs U ∧ bs ≤ U.heap.size ∧ ∃ cA, va_P D vwCl (wlO bs ex cA S zI zL) U.heap ∧ U.heap.size = bs + S.1.length ∧ ARO cA S U
def QcO (D : va_G) (bs : Nat) (ex : Nat → Nat) (n : Nat) (Q : PQ) : Array Value → State → Outcome → State → Prop := fun _ st oc t =>
  (∃ (r : Option PV) (S' : SS) (zI' zL' : ZM), oc = .returned (r.map (tv bs ex)) ∧ Q r S' zI' zL' ∧ ∃ cA, va_P D vwCl (wlO bs ex cA S' zI' zL') t.heap ∧ t.heap.size = bs + S'.1.length ∧ ARO cA S' t) ∧ t.heap.size = st.heap.size + n ∧ va_F (fun q => bs ≤ q) st t
def wsO (f : Nat) : List Cond := .code (mY f) (mB f) (mL f) (mR f) :: BIG
def rmO (d f : Nat) : Room := { frames := d, cells := MC f, slots := MS f, locals := 60 * d }
theorem ARO.moved {cA : Nat → ClassId} {S : SS} {u U : State} (hvm : u.vm.Alike U.vm) (h : ARO cA S u) : ARO cA S U := fun i kd n hi hk => ⟨arrOfT_moved hvm (h i kd n hi hk).1, (h i kd n hi hk).2.moved hvm⟩
theorem PcO_blind (D : va_G) (bs : Nat) (ex : Nat → Nat) (X : PX) (as : List PV) (S : SS) (zI zL : ZM) : FrameBlind (PcO D bs ex X as S zI zL) := by
  intro a U g mk h
  obtain ⟨h0, ⟨h1, h2, h3, h4, h5⟩, hb, cA, g1, g2, g3⟩ := h
  have ha : U.vm.Alike (U.calling g mk a).vm := Vm.Alike.refl U.vm
  exact ⟨h0, ⟨va_K.moved ha h1, fun e he => (h2 e he).moved (U := U.calling g mk a) ha, fun q z => (h3 q z).moved (U := U.calling g mk a) ha, fun w hw => va_Nw.same (u := U) (nest_onT w hw) rfl (h4 w hw), fun kd z => (h5 kd z).moved ha⟩, hb, cA, g1, g2, g3.moved ha⟩
theorem mL_le : ∀ f, f < 215 → mL f ≤ 41 := by decide +kernel
theorem popI_el {st : List PV} {k : Int → List PV → Prop} (h : popI st k) : ∃ a r, st = pI a :: r ∧ k a r := by
  unfold popI at h; split at h
  · exact ⟨_, _, rfl, h⟩
  · exact h.elim
theorem popL_el {st : List PV} {k : Int → List PV → Prop} (h : popL st k) : ∃ a r, st = pL a :: r ∧ k a r := by
  unfold popL at h; split at h
  · exact ⟨_, _, rfl, h⟩
  · exact h.elim
theorem popR_el {st : List PV} {k : Nat → List PV → Prop} (h : popR st k) : ∃ a r, st = pR a :: r ∧ k a r := by
  unfold popR at h; split at h
  · exact ⟨_, _, rfl, h⟩
  · exact h.elim
theorem popV_el {st : List PV} {k : PV → List PV → Prop} (h : popV st k) : ∃ a r, st = a :: r ∧ pcat a = 1 ∧ k a r := by
  unfold popV at h; split at h
  · exact ⟨_, _, rfl, rfl, h⟩
  · exact ⟨_, _, rfl, rfl, h⟩
  · exact h.elim
theorem ldI_el {ls : List (Option PV)} {i : Nat} {k : Int → Prop} (h : ldI ls i k) : ∃ a, ls[i]? = some (some (pI a)) ∧ k a := by
  unfold ldI at h; split at h
  · rename_i a e; exact ⟨a, e, h⟩
  · exact h.elim
theorem ldL_el {ls : List (Option PV)} {i : Nat} {k : Int → Prop} (h : ldL ls i k) : ∃ a, ls[i]? = some (some (pL a)) ∧ k a := by
  unfold ldL at h; split at h
  · rename_i a e; exact ⟨a, e, h⟩
  · exact h.elim
theorem ldR_el {ls : List (Option PV)} {i : Nat} {k : Nat → Prop} (h : ldR ls i k) : ∃ a, ls[i]? = some (some (pR a)) ∧ k a := by
  unfold ldR at h; split at h
  · rename_i a e; exact ⟨a, e, h⟩
  · exact h.elim
theorem ad_lt {bs : Nat} {ex : Nat → Nat} {h : Nat} (hx : h < xbase) : ad bs ex h = bs + h := by unfold ad; rw [if_pos hx]
theorem ad_ge {bs : Nat} {ex : Nat → Nat} {h : Nat} (hx : ¬ h < xbase) : ad bs ex h = ex (h - xbase) := by unfold ad; rw [if_neg hx]
theorem tvR {bs : Nat} {ex : Nat → Nat} {h : Nat} (hx : h < xbase) : tv bs ex (pR h) = .ref (bs + h) := by show Value.ref (ad bs ex h) = _; rw [ad_lt hx]
theorem ck1 {bytes : ByteArray} {q n nq : Nat} {i : Instr} (h : (dk bytes q i n && nq == q + n) = true) : decode bytes q = .ok (i, n) ∧ nq = q + n := by
  unfold dk at h
  simp only [Bool.and_eq_true, decide_eq_true_eq, beq_iff_eq] at h
  exact h
theorem chkG_at {oi : Nat} {bytes : ByteArray} {ret : Option FieldType} {ii : Bool} {pcs : List Nat} : ∀ (C : List PI) (qs : List Nat), chkG oi bytes ret ii pcs C qs = true → ∀ (pc : Nat) (ins : PI), C[pc]? = some ins → chkI oi bytes ret ii pcs (qs.getD pc 0) ins = true
  | [], _, _, _, _, h => by simp at h
  | _ :: _, [], hc, _, _, _ => by cases hc
  | i :: r, q :: qs, hc, pc, ins, h => by
    unfold chkG at hc
    rw [Bool.and_eq_true] at hc
    cases pc with
    | zero => cases h; exact hc.1
    | succ n => exact chkG_at r qs hc.2 n ins (by simpa using h)
theorem i3_add (x y : Int) : i3 (x + y) = i3 x + i3 y := Int32.ofInt_add x y
theorem i3_sub (x y : Int) : i3 (x - y) = i3 x - i3 y := Int32.ofInt_sub x y
theorem i3_mul (x y : Int) : i3 (x * y) = i3 x * i3 y := Int32.ofInt_mul x y
theorem i3_neg (x : Int) : i3 (-x) = -i3 x := Int32.ofInt_neg x
theorem i6_add (x y : Int) : i6 (x + y) = i6 x + i6 y := Int64.ofInt_add x y
theorem i6_sub (x y : Int) : i6 (x - y) = i6 x - i6 y := Int64.ofInt_sub x y
theorem i6_mul (x y : Int) : i6 (x * y) = i6 x * i6 y := Int64.ofInt_mul x y
theorem i6_neg (x : Int) : i6 (-x) = -i6 x := Int64.ofInt_neg x
theorem i3_toI (x : Int32) : i3 x.toInt = x := Int32.ofInt_toInt x
theorem i6_toI (x : Int64) : i6 x.toInt = x := Int64.ofInt_toInt x
theorem i3_div {x y : Int} (hx : inI x) (hy : inI y) : i3 (x.tdiv y) = i3 x / i3 y := Int32.ofInt_tdiv hx.1 (show x ≤ 2147483647 from hx.2) hy.1 (show y ≤ 2147483647 from hy.2)
theorem i6_div {x y : Int} (hx : inL x) (hy : inL y) : i6 (x.tdiv y) = i6 x / i6 y := Int64.ofInt_tdiv hx.1 (show x ≤ 9223372036854775807 from hx.2) hy.1 (show y ≤ 9223372036854775807 from hy.2)
theorem i3_mod {x y : Int} (hx : inI x) (hy : inI y) : i3 (x.tmod y) = i3 x - i3 x / i3 y * i3 y := by rw [← i3_div hx hy, ← i3_mul, ← i3_sub, Int.tmod_def, Int.mul_comm]
theorem i6_mod {x y : Int} (hx : inL x) (hy : inL y) : i6 (x.tmod y) = i6 x - i6 x / i6 y * i6 y := by rw [← i6_div hx hy, ← i6_mul, ← i6_sub, Int.tmod_def, Int.mul_comm]
theorem i3_ne0 {y : Int} (hy : inI y) (h : y ≠ 0) : ¬ i3 y = 0 := fun e => h ((i3_eq hy in0).mp e)
theorem i6_ne0 {y : Int} (hy : inL y) (h : y ≠ 0) : ¬ i6 y = 0 := by
  intro e
  apply h
  have h1 : (i6 y).toInt = 0 := by rw [e]; rfl
  rwa [i6_toInt hy] at h1
theorem i6_of3 {x : Int} (h : inI x) : (i3 x).toInt64 = i6 x := by rw [← Int64.toInt_inj, Int32.toInt_toInt64, i3_toInt h, i6_toInt (by unfold inL; unfold inI at h; omega)]
theorem i3_of6 (x : Int) : (i6 x).toInt32 = i3 x := Int64.toInt32_ofInt
theorem cmpL_lg (x y : Int) : i3 (cmpL x y) = lg_cmp (i6 x) (i6 y) := by
  unfold cmpL lg_cmp
  rcases Int.lt_trichotomy (i6 x).toInt (i6 y).toInt with h | h | h
  · rw [if_pos (Int64.lt_iff_toInt_lt.mpr h), if_neg (fun q => by have := Int64.lt_iff_toInt_lt.mp q; omega), if_neg (fun q => by rw [q] at h; omega)]; rfl
  · have e : i6 x = i6 y := Int64.toInt_inj.mp h
    rw [e]; simp [Int64.lt_irrefl]; rfl
  · rw [if_neg (fun q => by have := Int64.lt_iff_toInt_lt.mp q; omega), if_neg (fun q => by rw [q] at h; omega), if_pos (Int64.lt_iff_toInt_lt.mpr h)]; rfl

theorem KNA {D : va_G} {s : State} {cA : ClassId} {ty : FieldType} (h : va_K D vwCl [] s) (h2 : ArrOfT s cA ty ∧ va_RA s cA ty) : va_K D vwCl [(cA, ty)] s := ⟨h.1, fun k q hk => by
  have hz : k < 1 := (List.getElem?_eq_some_iff.mp hk).1
  rw [show k = 0 by omega] at hk
  cases hk
  exact h2⟩
theorem tag_int {t : FieldType} (h : tagOf t = 0) : t = .int := by unfold tagOf at h; split at h <;> first | rfl | omega
theorem tag_long {t : FieldType} (h : tagOf t = 1) : t = .long := by unfold tagOf at h; split at h <;> first | rfl | omega
theorem tag_bool {t : FieldType} (h : tagOf t = 3) : t = .boolean := by unfold tagOf at h; split at h <;> first | rfl | omega
theorem tag_ref : ∀ a, a < 11 → ∀ k, k < NF a → tagOf (tyF a k) = 2 → refTy (tyF a k) = true := by decide +kernel
theorem fvO_ref {bs : Nat} {ex : Nat → Nat} {S : SS} {zI zL : ZM} {t : FieldType} {i : Nat} {k : Int} (h : refTy t = true) : fvO bs ex S zI zL t i k = va_rf ((S.2 i k).map (ad bs ex)) := by cases t <;> first | rfl | cases h
theorem narrow_ref {t : FieldType} {x : Nat} (h : refTy t = true) : narrow t (.ref x) = .ref x := by cases t <;> first | rfl | cases h
theorem fits_ref {t : FieldType} {x : Nat} (h : refTy t = true) : fits t (.ref x) = true := by cases t <;> first | rfl | cases h
theorem zput_row {z : ZM} {h i : Nat} {k x : Int} (hi : i ≠ h) : zput z h k x i = z i := by funext j; unfold zput; rw [if_neg (fun q => hi q.1)]
theorem zput_off {z : ZM} {h : Nat} {j k x : Int} (hj : j ≠ k) : zput z h k x h j = z h j := by unfold zput; rw [if_neg (fun q => hj q.2)]
theorem zput_at {z : ZM} {h : Nat} {k x : Int} : zput z h k x h k = x := by unfold zput; rw [if_pos ⟨rfl, rfl⟩]
theorem rput_row {z : Nat → Int → Option Nat} {h i : Nat} {k : Int} {x : Option Nat} (hi : i ≠ h) : rput z h k x i = z i := by funext j; unfold rput; rw [if_neg (fun q => hi q.1)]
theorem rput_off {z : Nat → Int → Option Nat} {h : Nat} {j k : Int} {x : Option Nat} (hj : j ≠ k) : rput z h k x h j = z h j := by unfold rput; rw [if_neg (fun q => hj q.2)]
theorem rput_at {z : Nat → Int → Option Nat} {h : Nat} {k : Int} {x : Option Nat} : rput z h k x h k = x := by unfold rput; rw [if_pos ⟨rfl, rfl⟩]
theorem upd_z {z : ZM} {h : Nat} {i : Int} (h0 : 0 ≤ i) (x : Int) : upd (fun j : Nat => i3 (z h (j : Int))) i.toNat (i3 x) = fun j : Nat => i3 (zput z h i x h (j : Int)) := by
  funext j
  unfold upd
  by_cases hj : j = i.toNat
  · rw [if_pos hj, show (j : Int) = i by omega, zput_at]
  · rw [if_neg hj, zput_off (by omega)]
theorem updL_z {z : ZM} {h : Nat} {i : Int} (h0 : 0 ≤ i) (x : Int) : vp_updL (fun j : Nat => i6 (z h (j : Int))) i.toNat (i6 x) = fun j : Nat => i6 (zput z h i x h (j : Int)) := by
  funext j
  unfold vp_updL
  by_cases hj : j = i.toNat
  · rw [if_pos hj, show (j : Int) = i by omega, zput_at]
  · rw [if_neg hj, zput_off (by omega)]
theorem nar_b {x : Int} (h : x = 0 ∨ x = 1) : vp_nar .boolean (i3 x) = i3 x := by rcases h with rfl | rfl <;> rfl
theorem up_r {bs : Nat} {ex : Nat → Nat} {z : Nat → Int → Option Nat} {h x : Nat} {i : Int} (h0 : 0 ≤ i) (hx : x < xbase) (j : Nat) : va_up (fun j : Nat => (z h (j : Int)).map (ad bs ex)) i.toNat (some (bs + x)) j = (rput z h i (some x) h (j : Int)).map (ad bs ex) := by
  unfold va_up
  by_cases hj : j = i.toNat
  · rw [if_pos hj, show (j : Int) = i by omega, rput_at, Option.map_some, ad_lt hx]
  · rw [if_neg hj, rput_off (by omega)]
theorem lsw_key (q : Nat) (pcs : List Nat) (d0 : Nat) (df x : Int) : ∀ (ps : List (Int × Int)) (ts : List Nat), ts.length = ps.length → (∀ (j : Nat) (t : Nat) (o : Int), ts[j]? = some t → (ps.map (fun e => e.2))[j]? = some o → (q : Int) + o = ((pcs.getD t 0 : Nat) : Int)) → (q : Int) + df = ((pcs.getD d0 0 : Nat) : Int) →
    (q : Int) + Op.lookupswitch.offset ps df x = ((pcs.getD (plk ps ts x d0) 0 : Nat) : Int)
  | [], ts, _, _, hd => by
    unfold Op.lookupswitch.offset
    rw [show plk [] ts x d0 = d0 by cases ts <;> rfl]; exact hd
  | (a, o) :: r, [], hl, _, _ => by simp at hl
  | (a, o) :: r, t :: ts, hl, hk, hd => by
    unfold Op.lookupswitch.offset plk
    by_cases h : x = a
    · rw [if_pos h.symm, if_pos h]; exact hk 0 t o rfl rfl
    · rw [if_neg (fun z => h z.symm), if_neg h]
      exact lsw_key q pcs d0 df x r ts (by simpa using hl) (fun j t o h1 h2 => hk (j + 1) t o (by simpa using h1) (by simpa using h2)) hd

abbrev SPO (l : Launch) (D : va_G) (bs : Nat) (ex : Nat → Nat) (f : Nat) (p : Program) (e : Env) (R : Room) (s : State) (m : MethodId) (args : Array Value) (below : List Frame) (meth : Method) (c : Code) (CC : Nat) (QQ : State → Prop) : PK := fun pc ls st S zI zL mc ms =>
  ∀ (H : Heap) (locs : List Loc) (cells slots : Nat) (jl : Array Slot) (cA : Nat → ClassId) (lv : List (Nat × Value)), va_P D vwCl (wlO bs ex cA S zI zL) H → bs + S.1.length = s.heap.size + cells → ARO cA S s → va_S (fun q => bs ≤ q) s.heap H locs → lv_has jl (mL f) lv → LRO bs ex ls lv → ls.length = mL f → cells + mc = CC → slots + ms ≤ R.slots →
    W p l e R s m args below meth c H locs cells slots QQ (F0 m ((pcss.getD f []).getD pc 0) jl (st.map (tv bs ex)))
def retI (f : Nat) (i : Instr) (r : Option PV) : Prop := match i, r with
  | .ireturn, some (.inl x) => mR f = some .int ∨ (mR f = some .boolean ∧ (x = 0 ∨ x = 1))
  | .lreturn, some (.inr (.inl _)) => mR f = some .long
  | .areturn, some (.inr (.inr (some _))) => ∃ t, mR f = some t ∧ refTy t = true
  | .return_, none => mR f = none
  | _, _ => False
theorem W_sz {p : Program} {l : Launch} {e : Env} {R : Room} {s : State} {m : MethodId} {args : Array Value} {below : List Frame} {meth : Method} {c : Code} {H : Heap} {locs : List Loc} {cells slots : Nat} {Q : State → Prop} {g : JFrame} (k : H.size ≤ s.heap.size + cells → W p l e R s m args below meth c H locs cells slots Q g) : W p l e R s m args below meth c H locs cells slots Q g := by
  intro T hT X
  have h := X.same.2.2.1
  exact k (by rw [← hT]; exact h) T hT X
theorem low_sz {D : va_G} {bs : Nat} {ex : Nat → Nat} {cA : Nat → ClassId} {S : SS} {zI zL : ZM} {H : Heap} (hP : va_P D vwCl (wlO bs ex cA S zI zL) H) (h0 : bs ≤ H.size) : bs + S.1.length ≤ H.size := by
  rcases Nat.eq_zero_or_pos S.1.length with h | h
  · rw [h]; exact h0
  · have hm : S.1[S.1.length - 1]? = some S.1[S.1.length - 1] := List.getElem?_eq_getElem (by omega)
    have := (hP _ _ (wlO_at (bs := bs) (ex := ex) (cA := cA) (zI := zI) (zL := zL) hm)).lt
    dsimp only at this
    omega
theorem push_P {D : va_G} {bs : Nat} {ex : Nat → Nat} {cA cA' : Nat → ClassId} {S S' : SS} {zI zL zI' zL' : ZM} {H H1 : Heap} {e : va_E} (hP : va_P D vwCl (wlO bs ex cA S zI zL) H) (o1 : ∀ q, q < H.size → H1[q]? = H[q]?) (hp : wlO bs ex cA S zI zL ++ [(bs + S.1.length, e)] = wlO bs ex cA' S' zI' zL') (he : va_at D vwCl (bs + S.1.length, e) H1) :
    va_P D vwCl (wlO bs ex cA' S' zI' zL') H1 := by
  rw [← hp]
  refine (hP.kept fun k q h => o1 _ (hP k q h).lt).app fun k q h => ?_
  have hz : k < 1 := (List.getElem?_eq_some_iff.mp h).1
  rw [show k = 0 by omega] at h
  cases h
  exact he
theorem zrow_other {z : ZM} {c i : Nat} {f : Int → Int} (h : i < c) : zrow z c f i = z i := by funext j; unfold zrow; rw [if_neg (Nat.ne_of_lt h)]
theorem rrow_other {z : Nat → Int → Option Nat} {c i : Nat} (h : i < c) : rrow z c i = z i := by funext j; unfold rrow; rw [if_neg (Nat.ne_of_lt h)]
theorem zrow_at {z : ZM} {c : Nat} {f : Int → Int} (k : Int) : zrow z c f c k = f k := by unfold zrow; rw [if_pos rfl]
theorem rrow_at {z : Nat → Int → Option Nat} {c : Nat} (k : Int) : rrow z c c k = none := by unfold rrow; rw [if_pos rfl]
theorem ARO_push {cA : Nat → ClassId} {S : SS} {s : State} {kd n : Nat} {r : Nat → Int → Option Nat} {c1 : ClassId} (h : ARO cA S s) (hn : 12 ≤ kd → ArrOfT s c1 (elT kd) ∧ va_RA s c1 (elT kd)) : ARO (fun i => if i = S.1.length then c1 else cA i) (S.1 ++ [(kd, n)], r) s := by
  intro i kd' n' hi hk
  dsimp only at hi ⊢
  rcases Nat.lt_trichotomy i S.1.length with q | q | q
  · rw [List.getElem?_append_left q] at hi
    rw [if_neg (by omega)]
    exact h i kd' n' hi hk
  · subst q
    rw [List.getElem?_append_right (Nat.le_refl _), Nat.sub_self] at hi
    cases hi
    rw [if_pos rfl]
    exact hn hk
  · rw [List.getElem?_eq_none (by rw [List.length_append]; exact q)] at hi
    cases hi
theorem va_S_grow {A : Nat → Prop} {H0 H H1 : Heap} {locs : List Loc} (h : va_S A H0 H locs) (hz : H.size ≤ H1.size) (o1 : ∀ q, q < H.size → H1[q]? = H[q]?) : va_S A H0 H1 locs :=
  ⟨Nat.le_trans h.1 hz, fun q h1 h2 => (o1 q (Nat.lt_of_lt_of_le h1 h.1)).trans (h.2.1 q h1 h2), h.2.2⟩
theorem big_good {w : Cond} (h : w ∈ BIG) : w ∈ BIG ∧ ((w.onTables && w.keeps) = true ∨ ∃ ty, w = .arrayClass ty) := ⟨h, good_of_word (List.mem_filter.mp h).2⟩
theorem arrW (i : Nat) (t : FieldType) (h : inT i (.arrayClass t) = true) : Cond.arrayClass t ∈ BIG := inT_big h
theorem LM_any : ∀ f, f < 214 → LMs.any (fun e => e.1 == f) = true := by decide +kernel
theorem LM_in {f : Nat} (hf : f < 214) : Cond.code (mY f) (mB f) (mL f) (mR f) ∈ BIG ∧ Cond.initialized (mY f).cls ∈ BIG ∧ plainFor (mY f) = true ∧ (mY f).cls ≠ "java/lang/invoke/MethodHandle" ∧ (mY f).cls ≠ "java/lang/invoke/VarHandle" := by
  obtain ⟨e, he, hq⟩ := List.any_eq_true.mp (LM_any f hf)
  rw [beq_iff_eq] at hq
  have h2 := List.all_eq_true.mp LMi e he
  have h3 := List.all_eq_true.mp LMn e he
  have h1 : lw_tbl[e.2.1]? = some (Cond.code (mY e.1) (mB e.1) (mL e.1) (mR e.1)) := List.map_inj_left.mp LMw e he
  rw [hq] at h1 h2 h3
  rw [Bool.and_eq_true, decide_eq_true_eq] at h3
  exact ⟨List.mem_filter.mpr ⟨List.mem_of_getElem? h1, rfl⟩, inT_big h2, h3.1, h3.2⟩
theorem LK_in {oi x so f n : Nat} (h : LKs.any (fun e => e.1 == oi && e.2.1 == x && e.2.2.1 == so && e.2.2.2.1 == f && e.2.2.2.2.1 == n) = true) : ∃ p1 p2 p3, ckK (oi, x, so, f, n, p1, p2, p3) = true ∧ (so < 5 → (parseMethodDescriptor (mY f).desc).map (fun d => d.parameters.length) = some n) := by
  obtain ⟨⟨e1, e2, e3, e4, e5, e6, e7, e8⟩, he, hq⟩ := List.any_eq_true.mp h
  simp only [Bool.and_eq_true, beq_iff_eq] at hq
  obtain ⟨⟨⟨⟨rfl, rfl⟩, rfl⟩, rfl⟩, rfl⟩ := hq
  refine ⟨e6, e7, e8, List.all_eq_true.mp LKs_ok _ he, fun hs => ?_⟩
  have h2 := List.all_eq_true.mp LKs_n _ he
  dsimp only at h2
  rw [Bool.or_eq_true, decide_eq_true_eq, decide_eq_true_eq] at h2
  rcases h2 with h2 | h2
  · omega
  · exact h2
theorem any_s {P : Nat × Nat × Nat × Nat × Nat × Nat × Nat × Nat → Bool} {l : List (Nat × Nat × Nat × Nat × Nat × Nat × Nat × Nat)} {b : Nat} (h : l.any (fun e => P e && e.2.2.2.2.1 + 1 == b) = true) : ∃ n, b = n + 1 ∧ l.any (fun e => P e && e.2.2.2.2.1 == n) = true := by
  obtain ⟨e, he, hq⟩ := List.any_eq_true.mp h
  rw [Bool.and_eq_true, beq_iff_eq] at hq
  exact ⟨e.2.2.2.2.1, hq.2.symm, List.any_eq_true.mpr ⟨e, he, by rw [Bool.and_eq_true, beq_iff_eq]; exact ⟨hq.1, rfl⟩⟩⟩
theorem LK_o {oi x so : Nat} (h : LKs.any (fun e => e.1 == oi && e.2.1 == x && e.2.2.1 == so) = true) : ∃ f n p1 p2 p3, ckK (oi, x, so, f, n, p1, p2, p3) = true := by
  obtain ⟨⟨e1, e2, e3, e4, e5, e6, e7, e8⟩, he, hq⟩ := List.any_eq_true.mp h
  simp only [Bool.and_eq_true, beq_iff_eq] at hq
  obtain ⟨⟨rfl, rfl⟩, rfl⟩ := hq
  exact ⟨e4, e5, e6, e7, e8, List.all_eq_true.mp LKs_ok _ he⟩
/-- behind a call -/
theorem callG {D : va_G} {bs : Nat} {ex : Nat → Nat} {p : Program} {l : Launch} {e : Env} {R : Room} {s : State} {m : MethodId} {args : Array Value} {below : List Frame} {meth : Method} {c : Code} {H : Heap} {locs : List Loc} {cells slots mc ms q : Nat} {QQ : State → Prop} {jl : Array Slot} {st0 rest : List Value} {Q : PQ} {a0 : Array Value}
    (hr : va_Run p l e R s m args below meth c H locs cells slots mc ms (F0 m q jl st0) rest (QcO D bs ex mc Q a0) (fun q => bs ≤ q)) (hS : va_S (fun q => bs ≤ q) s.heap H locs)
    (kk : ∀ (r : Option PV) (S' : SS) (zI' zL' : ZM) (H1 : Heap) (locs1 : List Loc) (cA' : Nat → ClassId), Q r S' zI' zL' → va_P D vwCl (wlO bs ex cA' S' zI' zL') H1 → bs + S'.1.length = H.size + mc → ARO cA' S' s → va_S (fun q => bs ≤ q) s.heap H1 locs1 →
      W p l e R s m args below meth c H1 locs1 (cells + mc) (slots + ms) QQ (F0 m (q + 3) jl ((r.map (tv bs ex)).toList ++ rest))) : W p l e R s m args below meth c H locs cells slots QQ (F0 m q jl st0) := by
  intro T hT X
  obtain ⟨v, st₀, t, T', L, h0, X', hL, e1, e2, ⟨⟨r, S', zI', zL', hv, hq, cA', hP', hz', hA'⟩, hzz, hF⟩, st⟩ := hr T hT X
  cases hv
  have ha : t.vm.Alike s.vm := by rw [← e2]; exact X'.warmed.alike.symm
  have hF1 : H.size ≤ t.heap.size := by rw [← h0]; exact hF.1
  have hF2 : ∀ q, q < H.size → ¬ bs ≤ q → t.heap[q]? = H[q]? := fun q h1 h2 => by rw [hF.2 q (by rw [h0]; exact h1) h2, h0]
  obtain ⟨t2, a1, b1⟩ := kk r S' zI' zL' T'.heap (locs ++ L) cA' hq (by rw [e1]; exact hP') (by rw [← hz', hzz, h0]) (hA'.moved ha)
    ⟨by rw [e1]; exact Nat.le_trans hS.1 hF1, fun q h1 h2 => by rw [e1, hF2 q (Nat.lt_of_lt_of_le h1 hS.1) h2]; exact hS.2.1 q h1 h2, fun q hq => by
      rcases List.mem_append.mp hq with h | h
      · exact hS.2.2 q h
      · exact hL q h⟩ T' rfl X'
  exact ⟨t2, st t2 a1, b1⟩
theorem PcO_of {D : va_G} {bs : Nat} {ex : Nat → Nat} {X : PX} {as : List PV} {S : SS} {zI zL : ZM} {cA : Nat → ClassId} {s U : State} {H : Heap} {locs : List Loc} (hKN : KNO D ex X bs s) (hbs : bs ≤ s.heap.size) (hP : va_P D vwCl (wlO bs ex cA S zI zL) H) (hz : H.size = bs + S.1.length) (hA : ARO cA S s) (hS : va_S (fun q => bs ≤ q) s.heap H locs) (hU : U.heap = H) (hW : s.WarmedH U.vm) :
    PcO D bs ex X as S zI zL (as.map (tv bs ex)).toArray U := by
  subst hU
  exact ⟨rfl, KNO_warm hW hS hKN, Nat.le_trans hbs hS.1, cA, hP, hz, hA.moved hW.alike⟩
def callLt (ins : PI) : Bool := match ins with
  | (.invokevirtual _, _, a, _, _) => decide (a < 214)
  | (.invokestatic _, _, a, _, _) => decide (a < 214)
  | (.invokespecial _, _, a, _, _) => decide (a < 214)
  | _ => true
theorem call_lt : (List.range 215).all (fun f => (MCode f).all callLt) = true := by decide +kernel
theorem call_lt_at (f : Nat) (hf : f < 215) (pc : Nat) (ins : PI) (h : (MCode f)[pc]? = some ins) : callLt ins = true :=
  List.all_eq_true.mp (List.all_eq_true.mp call_lt f (List.mem_range.mpr hf)) ins (List.mem_of_getElem? h)
theorem KNA2 {D : va_G} {s : State} {cA cB : ClassId} {ty : FieldType} (h : va_K D vwCl [] s) (h2 : ArrOfT s cA ty ∧ va_RA s cA ty) (h3 : ArrOfT s cB ty ∧ va_RA s cB ty) : va_K D vwCl [(cA, ty), (cB, ty)] s := ⟨h.1, fun k q hk => by
  match k, hk with
  | 0, hk => cases hk; exact h2
  | 1, hk => cases hk; exact h3
  | k + 2, hk => simp at hk⟩
theorem zrow_ne {z : ZM} {c i : Nat} {f : Int → Int} (h : i ≠ c) : zrow z c f i = z i := by funext j; unfold zrow; rw [if_neg h]
theorem cpy_i3 {z : ZM} {src dst : Nat} {sp dp n : Int} (a0 : 0 ≤ sp) (a1 : 0 ≤ dp) (a2 : 0 ≤ n) (j : Nat) : va_cpy (fun j : Nat => i3 (z src (j : Int))) (fun j : Nat => i3 (z dst (j : Int))) sp.toNat dp.toNat n.toNat j = i3 (zrow z dst (cpI (z src) (z dst) sp dp n) dst (j : Int)) := by
  rw [zrow_at]
  unfold va_cpy cpI
  by_cases h : dp.toNat ≤ j ∧ j < dp.toNat + n.toNat
  · rw [if_pos h, if_pos (by omega)]
    dsimp only
    rw [show ((sp.toNat + (j - dp.toNat) : Nat) : Int) = sp + ((j : Int) - dp) by omega]
  · rw [if_neg h, if_neg (by omega)]
theorem cpy_i6 {z : ZM} {src dst : Nat} {sp dp n : Int} (a0 : 0 ≤ sp) (a1 : 0 ≤ dp) (a2 : 0 ≤ n) (j : Nat) : va_cpy (fun j : Nat => i6 (z src (j : Int))) (fun j : Nat => i6 (z dst (j : Int))) sp.toNat dp.toNat n.toNat j = i6 (zrow z dst (cpI (z src) (z dst) sp dp n) dst (j : Int)) := by
  rw [zrow_at]
  unfold va_cpy cpI
  by_cases h : dp.toNat ≤ j ∧ j < dp.toNat + n.toNat
  · rw [if_pos h, if_pos (by omega)]
    dsimp only
    rw [show ((sp.toNat + (j - dp.toNat) : Nat) : Int) = sp + ((j : Int) - dp) by omega]
  · rw [if_neg h, if_neg (by omega)]
theorem tyF_in : ∀ a, a < 11 → ∀ k, k < NF a → (match tyF a k with | .int => true | .long => true | .boolean => true | .object _ => true | .array _ => true | _ => false) = true := by decide +kernel
set_option maxHeartbeats 40000000 in
set_option maxRecDepth 100000 in
theorem sound_step {l : Launch} {D : va_G} {bs : Nat} {ex : Nat → Nat} {X : PX} {d f : Nat}
    (IH : ∀ (f' : Nat) (as : List PV) (S : SS) (zI zL : ZM) (Q : PQ), f' < 214 → wpM X d f' as S zI zL Q → Met l (mY f') (wsO f') (rmO d f') (PcO D bs ex X as S zI zL) (QcO D bs ex (MC f') Q) (MC f') (MS f') (fun q => bs ≤ q))
    {p : Program} {e : Env} {R : Room} {s : State} {m : MethodId} {args : Array Value} {below : List Frame} {meth : Method} {c : Code} {CC : Nat} {QQ : State → Prop} {Q : PQ}
    (hf : f < 215) (hx : p.tables.exec = Jvm.exec) (hb : c.code = mB f) (hml : c.maxLocals = mL f) (hown : s.vm.findClass (rN (RC f)) = some m.cls) (hts : ∀ w ∈ BIG, w.before args s = true) (hin : (mY f).name = "<init>" → meth.name = "<init>") (hKN : KNO D ex X bs s) (hbs : bs ≤ s.heap.size)
    (hCC : CC ≤ R.cells) (hRf : d + 1 ≤ R.frames) (hRl : 60 * d + 60 ≤ R.locals)
    (hfin : ∀ (r : Option PV) (S : SS) (zI zL : ZM) (H : Heap) (locs : List Loc) (cells slots : Nat) (jl : Array Slot) (q : Nat) (i : Instr), Q r S zI zL → (∃ cA, va_P D vwCl (wlO bs ex cA S zI zL) H ∧ bs + S.1.length = s.heap.size + cells ∧ ARO cA S s) → va_S (fun q => bs ≤ q) s.heap H locs → cells = CC → slots ≤ R.slots → decode (mB f) q = .ok (i, 1) → retI f i r →
      W p l e R s m args below meth c H locs cells slots QQ (F0 m q jl (r.toList.map (tv bs ex))))
    (pc : Nat) (ls : List (Option PV)) (st : List PV) (S : SS) (zI zL : ZM) (mc ms : Nat) (hs : stepC swT MC MS RC NF X (wpM X d) Q (MCode f) (SPO l D bs ex f p e R s m args below meth c CC QQ) pc ls st S zI zL mc ms) :
    SPO l D bs ex f p e R s m args below meth c CC QQ pc ls st S zI zL mc ms := by
  unfold stepC at hs
  split at hs
  · exact hs.elim
  rename_i ins hC
  have hk : chkI (RC f) (mB f) (mR f) ((mY f).name == "<init>") (pcss.getD f []) ((pcss.getD f []).getD pc 0) ins = true := chkG_at _ _ (chk_all f hf) pc ins hC
  have hD : ∀ cA S zI zL, va_D (fun q => bs ≤ q) (wlO bs ex cA S zI zL) := fun cA S zI zL => wlO_D bs ex cA S zI zL
  have hA0 : ∀ q, s.heap.size ≤ q → (fun q => bs ≤ q) q := fun q h => Nat.le_trans hbs h
  have hmL : mL f ≤ 41 := mL_le f hf
  have hca := call_lt_at f hf pc ins hC
  clear hC
  unfold SPO at hs ⊢
  generalize hq : (pcss.getD f []).getD pc 0 = q at hk ⊢
  obtain ⟨i, nx, a, b, cc⟩ := ins
  cases i
  all_goals try exact False.elim hs
  all_goals dsimp only [stepP] at hs
  case iconst n =>
    dsimp only [chkI] at hk
    rw [Bool.and_eq_true, decide_eq_true_eq] at hk
    obtain ⟨hk, hv⟩ := hk
    obtain ⟨k1, k2⟩ := ck1 hk
    intro H locs cells slots jl cA lv hP hz hA hS hl hL hn hc1 hc2
    have hw := hs H locs cells slots jl cA lv hP hz hA hS hl hL hn hc1 hc2
    rw [k2] at hw
    exact lv_iconst hx hb k1 hv hw
  case bipush n =>
    dsimp only [chkI] at hk
    rw [Bool.and_eq_true, decide_eq_true_eq] at hk
    obtain ⟨hk, hv⟩ := hk
    obtain ⟨k1, k2⟩ := ck1 hk
    intro H locs cells slots jl cA lv hP hz hA hS hl hL hn hc1 hc2
    have hw := hs H locs cells slots jl cA lv hP hz hA hS hl hL hn hc1 hc2
    rw [k2] at hw
    exact lv_bipush hx hb k1 hv hw
  case sipush n =>
    dsimp only [chkI] at hk
    rw [Bool.and_eq_true, decide_eq_true_eq] at hk
    obtain ⟨hk, hv⟩ := hk
    obtain ⟨k1, k2⟩ := ck1 hk
    intro H locs cells slots jl cA lv hP hz hA hS hl hL hn hc1 hc2
    have hw := hs H locs cells slots jl cA lv hP hz hA hS hl hL hn hc1 hc2
    rw [k2] at hw
    exact lv_sipush hx hb k1 hv hw
  case lconst n =>
    dsimp only [chkI] at hk
    rw [Bool.and_eq_true, decide_eq_true_eq] at hk
    obtain ⟨hk, hv⟩ := hk
    obtain ⟨k1, k2⟩ := ck1 hk
    intro H locs cells slots jl cA lv hP hz hA hS hl hL hn hc1 hc2
    have hw := hs H locs cells slots jl cA lv hP hz hA hS hl hL hn hc1 hc2
    rw [k2] at hw
    exact lv_lconst hx hb k1 hv hw
  case ldc x =>
    dsimp only [chkI] at hk
    rw [Bool.and_eq_true] at hk
    obtain ⟨hk, hv⟩ := hk
    obtain ⟨k1, k2⟩ := ck1 hk
    intro H locs cells slots jl cA lv hP hz hA hS hl hL hn hc1 hc2
    have hw := hs H locs cells slots jl cA lv hP hz hA hS hl hL hn hc1 hc2
    rw [k2] at hw
    exact lv_ldc hx hb hown (hts _ (LC_in hv)) k1 hw
  case ldc_w x =>
    dsimp only [chkI] at hk
    rw [Bool.and_eq_true] at hk
    obtain ⟨hk, hv⟩ := hk
    obtain ⟨k1, k2⟩ := ck1 hk
    intro H locs cells slots jl cA lv hP hz hA hS hl hL hn hc1 hc2
    have hw := hs H locs cells slots jl cA lv hP hz hA hS hl hL hn hc1 hc2
    rw [k2] at hw
    exact lv_ldcw hx hb hown (hts _ (LC_in hv)) k1 hw
  case ldc2_w x =>
    dsimp only [chkI] at hk
    rw [Bool.and_eq_true] at hk
    obtain ⟨hk, hv⟩ := hk
    obtain ⟨k1, k2⟩ := ck1 hk
    intro H locs cells slots jl cA lv hP hz hA hS hl hL hn hc1 hc2
    have hw := hs H locs cells slots jl cA lv hP hz hA hS hl hL hn hc1 hc2
    rw [k2] at hw
    exact lv_ldc2 hx hb hown (hts _ (LL_in hv)) k1 hw
  case iload i =>
    replace hs := ldI_el hs
    obtain ⟨x, hl0, hs⟩ := hs
    obtain ⟨k1, k2⟩ := ck1 hk
    intro H locs cells slots jl cA lv hP hz hA hS hl hL hn hc1 hc2
    have hw := hs H locs cells slots jl cA lv hP hz hA hS hl hL hn hc1 hc2
    rw [k2] at hw
    exact lv_iload hx hb k1 (hl.2.2 _ (hL _ _ hl0)) hw
  case iload_n i =>
    replace hs := ldI_el hs
    obtain ⟨x, hl0, hs⟩ := hs
    obtain ⟨k1, k2⟩ := ck1 hk
    intro H locs cells slots jl cA lv hP hz hA hS hl hL hn hc1 hc2
    have hw := hs H locs cells slots jl cA lv hP hz hA hS hl hL hn hc1 hc2
    rw [k2] at hw
    exact lv_iload_n hx hb k1 rfl (hl.2.2 _ (hL _ _ hl0)) hw
  case lload i =>
    replace hs := ldL_el hs
    obtain ⟨x, hl0, hs⟩ := hs
    obtain ⟨k1, k2⟩ := ck1 hk
    intro H locs cells slots jl cA lv hP hz hA hS hl hL hn hc1 hc2
    have hw := hs H locs cells slots jl cA lv hP hz hA hS hl hL hn hc1 hc2
    rw [k2] at hw
    exact lv_lload hx hb k1 (hl.2.2 _ (hL _ _ hl0)) hw
  case lload_n i =>
    replace hs := ldL_el hs
    obtain ⟨x, hl0, hs⟩ := hs
    obtain ⟨k1, k2⟩ := ck1 hk
    intro H locs cells slots jl cA lv hP hz hA hS hl hL hn hc1 hc2
    have hw := hs H locs cells slots jl cA lv hP hz hA hS hl hL hn hc1 hc2
    rw [k2] at hw
    exact lv_lload_n hx hb k1 rfl (hl.2.2 _ (hL _ _ hl0)) hw
  case aload i =>
    replace hs := ldR_el hs
    obtain ⟨x, hl0, hs⟩ := hs
    obtain ⟨k1, k2⟩ := ck1 hk
    intro H locs cells slots jl cA lv hP hz hA hS hl hL hn hc1 hc2
    have hw := hs H locs cells slots jl cA lv hP hz hA hS hl hL hn hc1 hc2
    rw [k2] at hw
    exact lv_aload hx hb k1 (hl.2.2 _ (hL _ _ hl0)) hw
  case aload_n i =>
    replace hs := ldR_el hs
    obtain ⟨x, hl0, hs⟩ := hs
    obtain ⟨k1, k2⟩ := ck1 hk
    intro H locs cells slots jl cA lv hP hz hA hS hl hL hn hc1 hc2
    have hw := hs H locs cells slots jl cA lv hP hz hA hS hl hL hn hc1 hc2
    rw [k2] at hw
    exact lv_aload_n hx hb k1 rfl (hl.2.2 _ (hL _ _ hl0)) hw
  case istore i =>
    replace hs := popI_el hs
    obtain ⟨x, r, rfl, hi, hs⟩ := hs
    obtain ⟨k1, k2⟩ := ck1 hk
    intro H locs cells slots jl cA lv hP hz hA hS hl hL hn hc1 hc2
    refine lv_istore hx hb k1 hl (by rw [← hn]; exact hi) rfl fun ls' hl' => ?_
    have hw := hs H locs cells slots ls' cA _ hP hz hA hS hl' (LRO_st1 hL _ _) (by rw [st1_len]; exact hn) hc1 hc2
    rw [k2] at hw
    exact hw
  case istore_n i =>
    replace hs := popI_el hs
    obtain ⟨x, r, rfl, hi, hs⟩ := hs
    obtain ⟨k1, k2⟩ := ck1 hk
    intro H locs cells slots jl cA lv hP hz hA hS hl hL hn hc1 hc2
    refine lv_istore_n hx hb k1 rfl hl (by rw [← hn]; exact hi) rfl fun ls' hl' => ?_
    have hw := hs H locs cells slots ls' cA _ hP hz hA hS hl' (LRO_st1 hL _ _) (by rw [st1_len]; exact hn) hc1 hc2
    rw [k2] at hw
    exact hw
  case lstore i =>
    replace hs := popL_el hs
    obtain ⟨x, r, rfl, hi, hs⟩ := hs
    obtain ⟨k1, k2⟩ := ck1 hk
    intro H locs cells slots jl cA lv hP hz hA hS hl hL hn hc1 hc2
    refine lv_lstore hx hb k1 hl (by rw [← hn]; exact hi) rfl fun ls' hl' => ?_
    have hw := hs H locs cells slots ls' cA _ hP hz hA hS hl' (LRO_st2 hL _ _) (by rw [st2_len]; exact hn) hc1 hc2
    rw [k2] at hw
    exact hw
  case lstore_n i =>
    replace hs := popL_el hs
    obtain ⟨x, r, rfl, hi, hs⟩ := hs
    obtain ⟨k1, k2⟩ := ck1 hk
    intro H locs cells slots jl cA lv hP hz hA hS hl hL hn hc1 hc2
    refine lv_lstore_n hx hb k1 rfl hl (by rw [← hn]; exact hi) rfl fun ls' hl' => ?_
    have hw := hs H locs cells slots ls' cA _ hP hz hA hS hl' (LRO_st2 hL _ _) (by rw [st2_len]; exact hn) hc1 hc2
    rw [k2] at hw
    exact hw
  case astore i =>
    replace hs := popR_el hs
    obtain ⟨x, r, rfl, hi, hs⟩ := hs
    obtain ⟨k1, k2⟩ := ck1 hk
    intro H locs cells slots jl cA lv hP hz hA hS hl hL hn hc1 hc2
    refine lv_astore hx hb k1 hl (by rw [← hn]; exact hi) rfl fun ls' hl' => ?_
    have hw := hs H locs cells slots ls' cA _ hP hz hA hS hl' (LRO_st1 hL _ _) (by rw [st1_len]; exact hn) hc1 hc2
    rw [k2] at hw
    exact hw
  case astore_n i =>
    replace hs := popR_el hs
    obtain ⟨x, r, rfl, hi, hs⟩ := hs
    obtain ⟨k1, k2⟩ := ck1 hk
    intro H locs cells slots jl cA lv hP hz hA hS hl hL hn hc1 hc2
    refine lv_astore_n hx hb k1 rfl hl (by rw [← hn]; exact hi) rfl fun ls' hl' => ?_
    have hw := hs H locs cells slots ls' cA _ hP hz hA hS hl' (LRO_st1 hL _ _) (by rw [st1_len]; exact hn) hc1 hc2
    rw [k2] at hw
    exact hw
  case iinc i n =>
    replace hs := ldI_el hs
    obtain ⟨x, hl0, hi, hs⟩ := hs
    dsimp only [chkI] at hk
    rw [Bool.and_eq_true, beq_iff_eq] at hk
    obtain ⟨hk, rfl⟩ := hk
    obtain ⟨k1, k2⟩ := ck1 hk
    intro H locs cells slots jl cA lv hP hz hA hS hl hL hn hc1 hc2
    obtain ⟨k0, hk0⟩ := List.getElem?_of_mem (hL _ _ hl0)
    refine lv_iinc (v := i3 (x + n)) hx hb k1 hl hk0 (by rw [i3_add]; rfl) (by rw [← hn]; exact hi) rfl fun ls' hl' => ?_
    have hw := hs H locs cells slots ls' cA _ hP hz hA hS hl' (LRO_st1 hL _ _) (by rw [st1_len]; exact hn) hc1 hc2
    rw [k2] at hw
    exact hw
  case dup =>
    replace hs := popV_el hs
    obtain ⟨v, r, rfl, hv, hs⟩ := hs
    obtain ⟨k1, k2⟩ := ck1 hk
    intro H locs cells slots jl cA lv hP hz hA hS hl hL hn hc1 hc2
    have hw := hs H locs cells slots jl cA lv hP hz hA hS hl hL hn hc1 hc2
    rw [k2] at hw
    exact lv_dup hx hb k1 (by rw [tv_cat]; exact hv) hw
  case pop =>
    replace hs := popV_el hs
    obtain ⟨v, r, rfl, hv, hs⟩ := hs
    obtain ⟨k1, k2⟩ := ck1 hk
    intro H locs cells slots jl cA lv hP hz hA hS hl hL hn hc1 hc2
    have hw := hs H locs cells slots jl cA lv hP hz hA hS hl hL hn hc1 hc2
    rw [k2] at hw
    exact lv_pop hx hb k1 (by rw [tv_cat]; exact hv) hw
  case dup2 =>
    replace hs := popV_el hs
    obtain ⟨v, r, rfl, hv, hs⟩ := hs
    replace hs := popV_el hs
    obtain ⟨u, r, rfl, hu, hs⟩ := hs
    obtain ⟨k1, k2⟩ := ck1 hk
    intro H locs cells slots jl cA lv hP hz hA hS hl hL hn hc1 hc2
    have hw := hs H locs cells slots jl cA lv hP hz hA hS hl hL hn hc1 hc2
    rw [k2] at hw
    exact lv_dup2_11 hx hb k1 (by rw [tv_cat]; exact hv) (by rw [tv_cat]; exact hu) hw
  case iadd =>
    replace hs := popI_el hs
    obtain ⟨y, r, rfl, hs⟩ := hs
    replace hs := popI_el hs
    obtain ⟨x, r, rfl, hs⟩ := hs
    obtain ⟨k1, k2⟩ := ck1 hk
    intro H locs cells slots jl cA lv hP hz hA hS hl hL hn hc1 hc2
    have hw := hs H locs cells slots jl cA lv hP hz hA hS hl hL hn hc1 hc2
    rw [k2] at hw
    refine lv_iadd hx hb k1 ?_
    simp only [List.map_cons, tv, i3_add] at hw
    exact hw
  case isub =>
    replace hs := popI_el hs
    obtain ⟨y, r, rfl, hs⟩ := hs
    replace hs := popI_el hs
    obtain ⟨x, r, rfl, hs⟩ := hs
    obtain ⟨k1, k2⟩ := ck1 hk
    intro H locs cells slots jl cA lv hP hz hA hS hl hL hn hc1 hc2
    have hw := hs H locs cells slots jl cA lv hP hz hA hS hl hL hn hc1 hc2
    rw [k2] at hw
    refine lv_isub hx hb k1 ?_
    simp only [List.map_cons, tv, i3_sub] at hw
    exact hw
  case imul =>
    replace hs := popI_el hs
    obtain ⟨y, r, rfl, hs⟩ := hs
    replace hs := popI_el hs
    obtain ⟨x, r, rfl, hs⟩ := hs
    obtain ⟨k1, k2⟩ := ck1 hk
    intro H locs cells slots jl cA lv hP hz hA hS hl hL hn hc1 hc2
    have hw := hs H locs cells slots jl cA lv hP hz hA hS hl hL hn hc1 hc2
    rw [k2] at hw
    refine lv_imul hx hb k1 ?_
    simp only [List.map_cons, tv, i3_mul] at hw
    exact hw
  case ladd =>
    replace hs := popL_el hs
    obtain ⟨y, r, rfl, hs⟩ := hs
    replace hs := popL_el hs
    obtain ⟨x, r, rfl, hs⟩ := hs
    obtain ⟨k1, k2⟩ := ck1 hk
    intro H locs cells slots jl cA lv hP hz hA hS hl hL hn hc1 hc2
    have hw := hs H locs cells slots jl cA lv hP hz hA hS hl hL hn hc1 hc2
    rw [k2] at hw
    refine lv_ladd hx hb k1 ?_
    simp only [List.map_cons, tv, i6_add] at hw
    exact hw
  case lsub =>
    replace hs := popL_el hs
    obtain ⟨y, r, rfl, hs⟩ := hs
    replace hs := popL_el hs
    obtain ⟨x, r, rfl, hs⟩ := hs
    obtain ⟨k1, k2⟩ := ck1 hk
    intro H locs cells slots jl cA lv hP hz hA hS hl hL hn hc1 hc2
    have hw := hs H locs cells slots jl cA lv hP hz hA hS hl hL hn hc1 hc2
    rw [k2] at hw
    refine lv_lsub hx hb k1 ?_
    simp only [List.map_cons, tv, i6_sub] at hw
    exact hw
  case lmul =>
    replace hs := popL_el hs
    obtain ⟨y, r, rfl, hs⟩ := hs
    replace hs := popL_el hs
    obtain ⟨x, r, rfl, hs⟩ := hs
    obtain ⟨k1, k2⟩ := ck1 hk
    intro H locs cells slots jl cA lv hP hz hA hS hl hL hn hc1 hc2
    have hw := hs H locs cells slots jl cA lv hP hz hA hS hl hL hn hc1 hc2
    rw [k2] at hw
    refine lv_lmul hx hb k1 ?_
    simp only [List.map_cons, tv, i6_mul] at hw
    exact hw
  case ixor =>
    replace hs := popI_el hs
    obtain ⟨y, r, rfl, hs⟩ := hs
    replace hs := popI_el hs
    obtain ⟨x, r, rfl, hs⟩ := hs
    obtain ⟨k1, k2⟩ := ck1 hk
    intro H locs cells slots jl cA lv hP hz hA hS hl hL hn hc1 hc2
    have hw := hs H locs cells slots jl cA lv hP hz hA hS hl hL hn hc1 hc2
    rw [k2] at hw
    refine lv_ixor hx hb k1 ?_
    simp only [List.map_cons, tv, i3_toI] at hw
    exact hw
  case iand =>
    replace hs := popI_el hs
    obtain ⟨y, r, rfl, hs⟩ := hs
    replace hs := popI_el hs
    obtain ⟨x, r, rfl, hs⟩ := hs
    obtain ⟨k1, k2⟩ := ck1 hk
    intro H locs cells slots jl cA lv hP hz hA hS hl hL hn hc1 hc2
    have hw := hs H locs cells slots jl cA lv hP hz hA hS hl hL hn hc1 hc2
    rw [k2] at hw
    refine lv_iand hx hb k1 ?_
    simp only [List.map_cons, tv, i3_toI] at hw
    exact hw
  case lor =>
    replace hs := popL_el hs
    obtain ⟨y, r, rfl, hs⟩ := hs
    replace hs := popL_el hs
    obtain ⟨x, r, rfl, hs⟩ := hs
    obtain ⟨k1, k2⟩ := ck1 hk
    intro H locs cells slots jl cA lv hP hz hA hS hl hL hn hc1 hc2
    have hw := hs H locs cells slots jl cA lv hP hz hA hS hl hL hn hc1 hc2
    rw [k2] at hw
    refine lv_lor hx hb k1 ?_
    simp only [List.map_cons, tv, i6_toI] at hw
    exact hw
  case land =>
    replace hs := popL_el hs
    obtain ⟨y, r, rfl, hs⟩ := hs
    replace hs := popL_el hs
    obtain ⟨x, r, rfl, hs⟩ := hs
    obtain ⟨k1, k2⟩ := ck1 hk
    intro H locs cells slots jl cA lv hP hz hA hS hl hL hn hc1 hc2
    have hw := hs H locs cells slots jl cA lv hP hz hA hS hl hL hn hc1 hc2
    rw [k2] at hw
    refine lv_land hx hb k1 ?_
    simp only [List.map_cons, tv, i6_toI] at hw
    exact hw
  case lshl =>
    replace hs := popI_el hs
    obtain ⟨y, r, rfl, hs⟩ := hs
    replace hs := popL_el hs
    obtain ⟨x, r, rfl, hs⟩ := hs
    obtain ⟨k1, k2⟩ := ck1 hk
    intro H locs cells slots jl cA lv hP hz hA hS hl hL hn hc1 hc2
    have hw := hs H locs cells slots jl cA lv hP hz hA hS hl hL hn hc1 hc2
    rw [k2] at hw
    refine lv_lshl hx hb k1 rfl ?_
    simp only [List.map_cons, tv, i6_toI] at hw
    exact hw
  case idiv =>
    replace hs := popI_el hs
    obtain ⟨y, r, rfl, hs⟩ := hs
    replace hs := popI_el hs
    obtain ⟨x, r, rfl, ⟨g1, g2, g3⟩, hs⟩ := hs
    obtain ⟨k1, k2⟩ := ck1 hk
    intro H locs cells slots jl cA lv hP hz hA hS hl hL hn hc1 hc2
    have hw := hs H locs cells slots jl cA lv hP hz hA hS hl hL hn hc1 hc2
    rw [k2] at hw
    refine lv_idiv hx hb k1 (i3_ne0 g2 g3) ?_
    simp only [List.map_cons, tv, i3_div g1 g2] at hw
    exact hw
  case irem =>
    replace hs := popI_el hs
    obtain ⟨y, r, rfl, hs⟩ := hs
    replace hs := popI_el hs
    obtain ⟨x, r, rfl, ⟨g1, g2, g3⟩, hs⟩ := hs
    obtain ⟨k1, k2⟩ := ck1 hk
    intro H locs cells slots jl cA lv hP hz hA hS hl hL hn hc1 hc2
    have hw := hs H locs cells slots jl cA lv hP hz hA hS hl hL hn hc1 hc2
    rw [k2] at hw
    refine lv_irem hx hb k1 (i3_ne0 g2 g3) ?_
    simp only [List.map_cons, tv, i3_mod g1 g2] at hw
    exact hw
  case ldiv =>
    replace hs := popL_el hs
    obtain ⟨y, r, rfl, hs⟩ := hs
    replace hs := popL_el hs
    obtain ⟨x, r, rfl, ⟨g1, g2, g3⟩, hs⟩ := hs
    obtain ⟨k1, k2⟩ := ck1 hk
    intro H locs cells slots jl cA lv hP hz hA hS hl hL hn hc1 hc2
    have hw := hs H locs cells slots jl cA lv hP hz hA hS hl hL hn hc1 hc2
    rw [k2] at hw
    refine lv_ldiv hx hb k1 (i6_ne0 g2 g3) ?_
    simp only [List.map_cons, tv, i6_div g1 g2] at hw
    exact hw
  case lrem =>
    replace hs := popL_el hs
    obtain ⟨y, r, rfl, hs⟩ := hs
    replace hs := popL_el hs
    obtain ⟨x, r, rfl, ⟨g1, g2, g3⟩, hs⟩ := hs
    obtain ⟨k1, k2⟩ := ck1 hk
    intro H locs cells slots jl cA lv hP hz hA hS hl hL hn hc1 hc2
    have hw := hs H locs cells slots jl cA lv hP hz hA hS hl hL hn hc1 hc2
    rw [k2] at hw
    refine lv_lrem hx hb k1 (i6_ne0 g2 g3) ?_
    simp only [List.map_cons, tv, i6_mod g1 g2] at hw
    exact hw
  case ineg =>
    replace hs := popI_el hs
    obtain ⟨x, r, rfl, hs⟩ := hs
    obtain ⟨k1, k2⟩ := ck1 hk
    intro H locs cells slots jl cA lv hP hz hA hS hl hL hn hc1 hc2
    have hw := hs H locs cells slots jl cA lv hP hz hA hS hl hL hn hc1 hc2
    rw [k2] at hw
    refine lv_ineg hx hb k1 ?_
    simp only [List.map_cons, tv, i3_neg] at hw
    exact hw
  case lneg =>
    replace hs := popL_el hs
    obtain ⟨x, r, rfl, hs⟩ := hs
    obtain ⟨k1, k2⟩ := ck1 hk
    intro H locs cells slots jl cA lv hP hz hA hS hl hL hn hc1 hc2
    have hw := hs H locs cells slots jl cA lv hP hz hA hS hl hL hn hc1 hc2
    rw [k2] at hw
    refine lv_lneg hx hb k1 ?_
    simp only [List.map_cons, tv, i6_neg] at hw
    exact hw
  case lcmp =>
    replace hs := popL_el hs
    obtain ⟨y, r, rfl, hs⟩ := hs
    replace hs := popL_el hs
    obtain ⟨x, r, rfl, hs⟩ := hs
    obtain ⟨k1, k2⟩ := ck1 hk
    intro H locs cells slots jl cA lv hP hz hA hS hl hL hn hc1 hc2
    have hw := hs H locs cells slots jl cA lv hP hz hA hS hl hL hn hc1 hc2
    rw [k2] at hw
    refine W.lcmp hx hb k1 ?_
    simp only [List.map_cons, tv, cmpL_lg] at hw
    exact hw
  case i2l =>
    replace hs := popI_el hs
    obtain ⟨x, r, rfl, g, hs⟩ := hs
    obtain ⟨k1, k2⟩ := ck1 hk
    intro H locs cells slots jl cA lv hP hz hA hS hl hL hn hc1 hc2
    have hw := hs H locs cells slots jl cA lv hP hz hA hS hl hL hn hc1 hc2
    rw [k2] at hw
    exact lv_i2l hx hb k1 (i6_of3 g) hw
  case l2i =>
    replace hs := popL_el hs
    obtain ⟨x, r, rfl, hs⟩ := hs
    obtain ⟨k1, k2⟩ := ck1 hk
    intro H locs cells slots jl cA lv hP hz hA hS hl hL hn hc1 hc2
    have hw := hs H locs cells slots jl cA lv hP hz hA hS hl hL hn hc1 hc2
    rw [k2] at hw
    exact lv_l2i hx hb k1 (i3_of6 x) hw
  case i2b =>
    replace hs := popI_el hs
    obtain ⟨x, r, rfl, hs⟩ := hs
    obtain ⟨k1, k2⟩ := ck1 hk
    intro H locs cells slots jl cA lv hP hz hA hS hl hL hn hc1 hc2
    have hw := hs H locs cells slots jl cA lv hP hz hA hS hl hL hn hc1 hc2
    rw [k2] at hw
    exact lv_i2b hx hb k1 (i3_toI _).symm hw
  case goto n =>
    dsimp only [chkI, dk] at hk
    simp only [Bool.and_eq_true, decide_eq_true_eq] at hk
    intro H locs cells slots jl cA lv hP hz hA hS hl hL hn hc1 hc2
    have hw := hs H locs cells slots jl cA lv hP hz hA hS hl hL hn hc1 hc2
    exact lv_goto hx hb hk.1 hk.2 hw
  case ifCond g n =>
    replace hs := popI_el hs
    obtain ⟨x, r, rfl, hs⟩ := hs
    dsimp only [chkI] at hk
    rw [Bool.and_eq_true, decide_eq_true_eq] at hk
    obtain ⟨hk, hj⟩ := hk
    obtain ⟨k1, k2⟩ := ck1 hk
    obtain ⟨ht, hf0⟩ := hs
    intro H locs cells slots jl cA lv hP hz hA hS hl hL hn hc1 hc2
    have hw2 := fun z => hf0 z H locs cells slots jl cA lv hP hz hA hS hl hL hn hc1 hc2
    rw [k2] at hw2
    have hw1 := fun z => ht z H locs cells slots jl cA lv hP hz hA hS hl hL hn hc1 hc2
    cases g
    case eq => exact lv_if_eq hx hb k1 hj (fun z => hw1 z) (fun z => hw2 z)
    case ne => exact lv_if_ne hx hb k1 hj (fun z => hw1 z) (fun z => hw2 (fun h => h z))
    case lt => exact lv_if_lt hx hb k1 hj (fun z => hw1 z) (fun z => hw2 z)
    case ge => exact lv_if_ge hx hb k1 hj (fun z => hw1 z) (fun z => hw2 z)
    case gt => exact lv_if_gt hx hb k1 hj (fun z => hw1 z) (fun z => hw2 z)
    case le => exact lv_if_le hx hb k1 hj (fun z => hw1 z) (fun z => hw2 z)
  case if_icmp g n =>
    replace hs := popI_el hs
    obtain ⟨y, r, rfl, hs⟩ := hs
    replace hs := popI_el hs
    obtain ⟨x, r, rfl, hs⟩ := hs
    dsimp only [chkI] at hk
    rw [Bool.and_eq_true, decide_eq_true_eq] at hk
    obtain ⟨hk, hj⟩ := hk
    obtain ⟨k1, k2⟩ := ck1 hk
    obtain ⟨ht, hf0⟩ := hs
    intro H locs cells slots jl cA lv hP hz hA hS hl hL hn hc1 hc2
    have hw2 := fun z => hf0 z H locs cells slots jl cA lv hP hz hA hS hl hL hn hc1 hc2
    rw [k2] at hw2
    have hw1 := fun z => ht z H locs cells slots jl cA lv hP hz hA hS hl hL hn hc1 hc2
    cases g
    case eq => exact lv_icmp_eq hx hb k1 hj (fun z => hw1 z) (fun z => hw2 z)
    case ne => exact lv_icmp_ne hx hb k1 hj (fun z => hw1 z) (fun z => hw2 (fun h => h z))
    case lt => exact lv_icmp_lt hx hb k1 hj (fun z => hw1 z) (fun z => hw2 z)
    case ge => exact lv_icmp_ge hx hb k1 hj (fun z => hw1 z) (fun z => hw2 z)
    case gt => exact lv_icmp_gt hx hb k1 hj (fun z => hw1 z) (fun z => hw2 z)
    case le => exact lv_icmp_le hx hb k1 hj (fun z => hw1 z) (fun z => hw2 z)
  case tableswitch df lo hi os =>
    replace hs := popI_el hs
    obtain ⟨x, r, rfl, g, t, ht, hs⟩ := hs
    dsimp only [chkI] at hk
    simp only [Bool.and_eq_true, decide_eq_true_eq] at hk
    obtain ⟨⟨⟨hk1, hlo⟩, hsz⟩, hk2⟩ := hk
    intro H locs cells slots jl cA lv hP hz hA hS hl hL hn hc1 hc2
    have hw := hs H locs cells slots jl cA lv hP hz hA hS hl hL hn hc1 hc2
    have hdec : ∃ n, decode (mB f) q = .ok (.tableswitch df lo hi os, n) := by
      split at hk1
      · rename_i j n hj; simp only [decide_eq_true_eq] at hk1; exact ⟨n, by rw [hj, hk1]⟩
      · cases hk1
    obtain ⟨n, hdec⟩ := hdec
    unfold psw at ht
    split at hk2
    case h_2 => cases hk2
    rename_i ts hts0
    rw [hts0] at ht
    dsimp only at ht
    unfold swOK at hk2
    rw [Bool.and_eq_true, beq_iff_eq] at hk2
    have key : ∀ (j : Nat) (t : Nat) (o : Int), ts[j]? = some t → (df :: os.toList)[j]? = some o → (q : Int) + o = (((pcss.getD f []).getD t 0 : Nat) : Int) := fun j t o h1 h2 => by
      have := List.all_eq_true.mp hk2.2 (t, o) (List.mem_iff_getElem?.mpr ⟨j, by rw [List.getElem?_zip_eq_some]; exact ⟨h1, h2⟩⟩)
      simpa using this
    split at ht
    · rename_i hout
      exact lv_tableOut hx hb hdec (by rw [i3_toInt g]; exact hout) (key 0 t df ht rfl) hw
    · rename_i hout
      have hlen : (x - lo).toNat < os.size := by omega
      have ho : os[(x - lo).toNat]? = some os[(x - lo).toNat] := Array.getElem?_eq_getElem hlen
      refine lv_tableIn hx hb hdec (by rw [i3_toInt g]; omega) (by rw [i3_toInt g]; omega) (off := os[(x - lo).toNat]) (by rw [i3_toInt g]; exact ho) (key _ t _ ht ?_) hw
      rw [List.getElem?_cons_succ, Array.getElem?_toList]; exact ho
  case lookupswitch df ps =>
    replace hs := popI_el hs
    obtain ⟨x, r, rfl, g, t, ht, hs⟩ := hs
    dsimp only [chkI] at hk
    simp only [Bool.and_eq_true] at hk
    obtain ⟨⟨hk1, hasc⟩, hk2⟩ := hk
    intro H locs cells slots jl cA lv hP hz hA hS hl hL hn hc1 hc2
    have hw := hs H locs cells slots jl cA lv hP hz hA hS hl hL hn hc1 hc2
    have hdec : ∃ n, decode (mB f) q = .ok (.lookupswitch df ps, n) := by
      split at hk1
      · rename_i j n hj; simp only [decide_eq_true_eq] at hk1; exact ⟨n, by rw [hj, hk1]⟩
      · cases hk1
    obtain ⟨n, hdec⟩ := hdec
    unfold plook at ht
    split at hk2
    case h_2 => cases hk2
    rename_i ts hts0
    rw [hts0] at ht
    unfold swOK at hk2
    rw [Bool.and_eq_true, beq_iff_eq] at hk2
    cases ts with
    | nil => cases ht
    | cons d0 ts =>
      dsimp only at ht
      cases ht
      have key : ∀ (j : Nat) (t : Nat) (o : Int), (d0 :: ts)[j]? = some t → (df :: ps.toList.map (fun e => e.2))[j]? = some o → (q : Int) + o = (((pcss.getD f []).getD t 0 : Nat) : Int) := fun j t o h1 h2 => by
        have := List.all_eq_true.mp hk2.2 (t, o) (List.mem_iff_getElem?.mpr ⟨j, by rw [List.getElem?_zip_eq_some]; exact ⟨h1, h2⟩⟩)
        simpa using this
      refine lv_lookup hx hb hdec hasc (by rw [i3_toInt g]) (lsw_key _ _ _ _ _ _ _ (by simpa using hk2.1) (fun j t o h1 h2 => key (j + 1) t o h1 h2) (key 0 _ _ rfl rfl)) hw
  case ireturn =>
    replace hs := popI_el hs
    obtain ⟨x, r, rfl, rfl, rfl, g, hq0⟩ := hs
    dsimp only [chkI, dk] at hk
    rw [Bool.and_eq_true, decide_eq_true_eq] at hk
    intro H locs cells slots jl cA lv hP hz hA hS hl hL hn hc1 hc2
    exact hfin (some (pI x)) S zI zL H locs cells slots jl q _ hq0 ⟨cA, hP, hz, hA⟩ hS (by omega) (by omega) hk.1 (by
      have h2 := hk.2
      split at h2
      · rename_i ha; rw [decide_eq_true_eq] at h2; exact Or.inr ⟨h2, g ha⟩
      · rw [decide_eq_true_eq] at h2; exact Or.inl h2.2)
  case lreturn =>
    replace hs := popL_el hs
    obtain ⟨x, r, rfl, rfl, rfl, hq0⟩ := hs
    dsimp only [chkI, dk] at hk
    simp only [Bool.and_eq_true, decide_eq_true_eq] at hk
    intro H locs cells slots jl cA lv hP hz hA hS hl hL hn hc1 hc2
    exact hfin (some (pL x)) S zI zL H locs cells slots jl q _ hq0 ⟨cA, hP, hz, hA⟩ hS (by omega) (by omega) hk.1 hk.2
  case areturn =>
    replace hs := popR_el hs
    obtain ⟨x, r, rfl, rfl, rfl, hq0⟩ := hs
    dsimp only [chkI, dk] at hk
    rw [Bool.and_eq_true, decide_eq_true_eq] at hk
    intro H locs cells slots jl cA lv hP hz hA hS hl hL hn hc1 hc2
    exact hfin (some (pR x)) S zI zL H locs cells slots jl q _ hq0 ⟨cA, hP, hz, hA⟩ hS (by omega) (by omega) hk.1 (by
      have h2 := hk.2
      split at h2
      · rename_i t ht; exact ⟨t, ht, h2⟩
      · cases h2)
  case return_ =>
    obtain ⟨rfl, rfl, hq0⟩ := hs
    dsimp only [chkI, dk] at hk
    simp only [Bool.and_eq_true, decide_eq_true_eq] at hk
    intro H locs cells slots jl cA lv hP hz hA hS hl hL hn hc1 hc2
    exact hfin none S zI zL H locs cells slots jl q _ hq0 ⟨cA, hP, hz, hA⟩ hS (by omega) (by omega) hk.1 hk.2
  case getfield x =>
    replace hs := popR_el hs
    obtain ⟨h, r, rfl, ⟨ho, hlt⟩, hs⟩ := hs
    dsimp only [chkI] at hk
    simp only [Bool.and_eq_true, decide_eq_true_eq] at hk
    obtain ⟨⟨⟨⟨⟨hk1, hk2⟩, hc0⟩, hlf⟩, htag⟩, ha, hkN⟩ := hk
    obtain ⟨k1, k2⟩ := ck1 (by rw [Bool.and_eq_true]; exact ⟨hk1, hk2⟩)
    rw [beq_iff_eq] at htag
    subst htag
    intro H locs cells slots jl cA lv hP hz hA hS hl hL hn hc1 hc2
    have hw := hs H locs cells slots jl cA lv hP hz hA hS hl hL hn hc1 hc2
    rw [k2] at hw
    rw [List.map_cons, tvR hlt]
    refine va_get hx hb hts (lay_ok a ha) hown hKN.1 hP h (wlO_obj ho ha) (vwCl_at a ha) cc.toNat hkN (hts _ (LF_in hlf)) (fun _ z => z) (fsO_get hkN) k1 ?_
    rw [List.map_cons, tv_rdF] at hw
    rw [Int.toNat_of_nonneg hc0]
    exact hw
  case putfield x =>
    dsimp only [chkI] at hk
    simp only [Bool.and_eq_true, decide_eq_true_eq] at hk
    obtain ⟨⟨⟨⟨⟨hk1, hk2⟩, hc0⟩, hlf⟩, ha, hkN⟩, hfi⟩ := hk
    obtain ⟨k1, k2⟩ := ck1 (by rw [Bool.and_eq_true]; exact ⟨hk1, hk2⟩)
    have hcc : ((cc.toNat : Nat) : Int) = cc := Int.toNat_of_nonneg hc0
    have hput : ∀ (h : Nat) (v : PV) (r : List PV) (S' : SS) (zI' zL' : ZM), S.1[h]? = some (a, 0) → h < xbase → S'.1 = S.1 → (∀ i, i ≠ h → zI' i = zI i) → (∀ i, i ≠ h → zL' i = zL i) → (∀ i, i ≠ h → S'.2 i = S.2 i) →
        (∀ j : Nat, j ≠ cc.toNat → zI' h (j : Int) = zI h (j : Int)) → (∀ j : Nat, j ≠ cc.toNat → zL' h (j : Int) = zL h (j : Int)) → (∀ j : Nat, j ≠ cc.toNat → S'.2 h (j : Int) = S.2 h (j : Int)) →
        fvO bs ex S' zI' zL' (tyF a cc.toNat) h cc = tv bs ex v → narrow (tyF a cc.toNat) (tv bs ex v) = tv bs ex v → fits (tyF a cc.toNat) (tv bs ex v) = true →
        (SPO l D bs ex f p e R s m args below meth c CC QQ nx ls r S' zI' zL' mc ms) → ∀ (H : Heap) (locs : List Loc) (cells slots : Nat) (jl : Array Slot) (cA : Nat → ClassId) (lv : List (Nat × Value)), va_P D vwCl (wlO bs ex cA S zI zL) H → bs + S.1.length = s.heap.size + cells → ARO cA S s → va_S (fun q => bs ≤ q) s.heap H locs → lv_has jl (mL f) lv → LRO bs ex ls lv → ls.length = mL f → cells + mc = CC → slots + ms ≤ R.slots →
        W p l e R s m args below meth c H locs cells slots QQ (F0 m q jl (tv bs ex v :: .ref (bs + h) :: r.map (tv bs ex))) := by
      intro h v r S' zI' zL' ho hlt e1 e2 e3 e4 f1 f2 f3 hv hnw hft hs H locs cells slots jl cA lv hP hz hA hS hl hL hn hc1 hc2
      have hset : (wlO bs ex cA S zI zL).set h (bs + h, .inr (a, (fsO bs ex S zI zL a h).set cc.toNat (tv bs ex v))) = wlO bs ex cA S' zI' zL' := by
        refine wlO_set ho e1 e2 e3 e4 ?_
        unfold entO
        rw [if_pos (show a < 12 by omega), fsO_set (S' := S') (zI' := zI') (zL' := zL') hkN (by rw [hcc]; exact hv) f1 f2 f3]
      have hsz : ∀ H1 : Heap, ∀ locs1, va_P D vwCl (wlO bs ex cA S' zI' zL') H1 → va_S (fun q => bs ≤ q) s.heap H1 locs1 → W p l e R s m args below meth c H1 locs1 cells slots QQ (F0 m (q + 3) jl (r.map (tv bs ex))) := by
        intro H1 locs1 hP1 hS1
        have hw := hs H1 locs1 cells slots jl cA lv hP1 (by rw [e1]; exact hz) (fun i kd n hi hk => hA i kd n (by rw [← e1]; exact hi) hk) hS1 hl hL hn hc1 hc2
        rw [k2] at hw
        exact hw
      split at hfi
      · rename_i hfl
        simp only [Bool.and_eq_true, beq_iff_eq] at hfi
        obtain ⟨⟨-, hi1⟩, hi2⟩ := hfi
        refine va_putF hx hb hts (lay_ok a ha) (tyF a) (tyF_ok a ha) (nmF_ok a ha) hown hKN.1 hP (hD cA S zI zL) hS h (wlO_obj ho ha) (vwCl_at a ha) cc.toNat hkN (hts _ (LF_in hlf)) (fun _ z => z) hfl (hin hi1) (by rw [decl_ok a ha _ hkN, hi2]) (tyF_ok a ha _ hkN) hnw hft (by rw [fsO_len]; exact hkN) k1 fun H1 locs1 g1 g2 g3 => ?_
        rw [hset] at g1
        exact hsz H1 locs1 g1 g3
      · rename_i hfl
        refine va_put hx hb hts (lay_ok a ha) (tyF a) (tyF_ok a ha) (nmF_ok a ha) hown hKN.1 hP (hD cA S zI zL) hS h (wlO_obj ho ha) (vwCl_at a ha) cc.toNat hkN (hts _ (LF_in hlf)) (fun _ z => z) (by simpa using hfl) (tyF_ok a ha _ hkN) hnw hft (by rw [fsO_len]; exact hkN) k1 fun H1 locs1 g1 g2 g3 => ?_
        rw [hset] at g1
        exact hsz H1 locs1 g1 g3
    have htag : b = tagOf (tyF a cc.toNat) ∨ b = tagOf (tyF a cc.toNat) + 10 := by
      split at hfi
      · simp only [Bool.and_eq_true, beq_iff_eq] at hfi; exact Or.inr hfi.1.1
      · rw [beq_iff_eq] at hfi; exact Or.inl hfi
    have tg4 : tagOf (tyF a cc.toNat) ≤ 3 := by unfold tagOf; split <;> omega
    split at hs
    · rename_i hbt
      have ht : tyF a cc.toNat = .int := tag_int (by omega)
      replace hs := popI_el hs
      obtain ⟨x, r, rfl, hs⟩ := hs
      replace hs := popR_el hs
      obtain ⟨h, r, rfl, ⟨ho, hlt⟩, hs⟩ := hs
      rw [List.map_cons, List.map_cons, tvR hlt]
      refine hput h (pI x) r S (zput zI h cc x) zL ho hlt rfl (fun i hi => zput_row hi) (fun _ _ => rfl) (fun _ _ => rfl) (fun j hj => zput_off (by omega)) (fun _ _ => rfl) (fun _ _ => rfl) ?_ ?_ ?_ hs
      · rw [ht]; show Value.int (i3 (zput zI h cc x h cc)) = _; rw [zput_at]; rfl
      · rw [ht]; rfl
      · rw [ht]; rfl
    split at hs
    · rename_i hbt
      have ht : tyF a cc.toNat = .long := tag_long (by omega)
      replace hs := popL_el hs
      obtain ⟨x, r, rfl, hs⟩ := hs
      replace hs := popR_el hs
      obtain ⟨h, r, rfl, ⟨ho, hlt⟩, hs⟩ := hs
      rw [List.map_cons, List.map_cons, tvR hlt]
      refine hput h (pL x) r S zI (zput zL h cc x) ho hlt rfl (fun _ _ => rfl) (fun i hi => zput_row hi) (fun _ _ => rfl) (fun _ _ => rfl) (fun j hj => zput_off (by omega)) (fun _ _ => rfl) ?_ ?_ ?_ hs
      · rw [ht]; show Value.long (i6 (zput zL h cc x h cc)) = _; rw [zput_at]; rfl
      · rw [ht]; rfl
      · rw [ht]; rfl
    split at hs
    · rename_i hbt
      have ht : tyF a cc.toNat = .boolean := tag_bool (by omega)
      replace hs := popI_el hs
      obtain ⟨x, r, rfl, hs⟩ := hs
      replace hs := popR_el hs
      obtain ⟨h, r, rfl, ⟨ho, hlt⟩, hx01, hs⟩ := hs
      rw [List.map_cons, List.map_cons, tvR hlt]
      refine hput h (pI x) r S (zput zI h cc x) zL ho hlt rfl (fun i hi => zput_row hi) (fun _ _ => rfl) (fun _ _ => rfl) (fun j hj => zput_off (by omega)) (fun _ _ => rfl) (fun _ _ => rfl) ?_ ?_ ?_ hs
      · rw [ht]; show Value.int (i3 (zput zI h cc x h cc)) = _; rw [zput_at]; rfl
      · rw [ht]; rcases hx01 with rfl | rfl <;> rfl
      · rw [ht]; rcases hx01 with rfl | rfl <;> rfl
    · rename_i hb1 hb2 hb3
      have ht : refTy (tyF a cc.toNat) = true ∧ tagOf (tyF a cc.toNat) = 2 := ⟨tag_ref a ha _ hkN (by omega), by omega⟩
      replace hs := popR_el hs
      obtain ⟨x, r, rfl, hs⟩ := hs
      replace hs := popR_el hs
      obtain ⟨h, r, rfl, ⟨ho, hlt⟩, hs⟩ := hs
      rw [List.map_cons, List.map_cons, tvR hlt]
      refine hput h (pR x) r (S.1, rput S.2 h cc (some x)) zI zL ho hlt rfl (fun _ _ => rfl) (fun _ _ => rfl) (fun i hi => rput_row hi) (fun _ _ => rfl) (fun _ _ => rfl) (fun j hj => rput_off (by omega)) ?_ ?_ ?_ hs
      · rw [fvO_ref ht.1]; show va_rf ((rput S.2 h cc (some x) h cc).map _) = _; rw [rput_at]; rfl
      · exact narrow_ref ht.1
      · exact fits_ref ht.1
  case getstatic x =>
    dsimp only [chkI] at hk
    simp only [Bool.and_eq_true] at hk
    obtain ⟨hk1, hls⟩ := hk
    obtain ⟨k1, k2⟩ := ck1 (by rw [Bool.and_eq_true]; exact hk1)
    obtain ⟨ha, hw0⟩ := LS_in hls
    intro H locs cells slots jl cA lv hP hz hA hS hl hL hn hc1 hc2
    have hw := hs H locs cells slots jl cA lv hP hz hA hS hl hL hn hc1 hc2
    rw [k2] at hw
    refine va_getsN hx hb (hKN.2.2.1 a ha) hS hown (va_Nw.use rfl (hKN.2.2.2.1 _ hw0)) (fun _ z => z) k1 ?_
    have e1 : tv bs ex (pR (xbase + a)) = .ref (ex a) := by show Value.ref (ad bs ex (xbase + a)) = _; rw [ad_ge (by omega), Nat.add_sub_cancel_left]
    rw [List.map_cons, e1] at hw
    exact hw
  case iaload =>
    replace hs := popI_el hs
    obtain ⟨i, r, rfl, hs⟩ := hs
    replace hs := popR_el hs
    obtain ⟨h, r, rfl, hs⟩ := hs
    obtain ⟨k1, k2⟩ := ck1 hk
    intro H locs cells slots jl cA lv hP hz hA hS hl hL hn hc1 hc2
    unfold elI at hs
    split at hs
    · rename_i hlt
      obtain ⟨⟨n, hr, h0, h1, hn1⟩, hs⟩ := hs
      obtain ⟨e1, e2⟩ := i3_clamp h0 h1 (Nat.le_trans hn1 (by omega))
      have hw := hs H locs cells slots jl cA lv hP hz hA hS hl hL hn hc1 hc2
      rw [k2] at hw
      rw [List.map_cons, List.map_cons, tvR hlt]
      refine va_iald hx hb (tys := [(cA h, .int)]) (KNA hKN.1 (hA h 12 n hr (by omega))) hP h 0 (wlO_arr hr (by omega)) rfl e2 k1 ?_
      rw [e1, Int.toNat_of_nonneg h0]; exact hw
    · rename_i hlt
      obtain ⟨⟨he, hX, h0, h1⟩, hs⟩ := hs
      obtain ⟨e1, e2⟩ := i3_clamp h0 h1 hX
      have hw := hs H locs cells slots jl cA lv hP hz hA hS hl hL hn hc1 hc2
      rw [k2] at hw
      have e3 : tv bs ex (pR h) = .ref (ex (h - xbase)) := by show Value.ref (ad bs ex h) = _; rw [ad_ge hlt]
      rw [List.map_cons, List.map_cons, e3]
      refine va_ti hx hb (hKN.2.1 _ he) hS e2 rfl k1 ?_
      rw [e1, Int.toNat_of_nonneg h0]; exact hw
  case baload =>
    replace hs := popI_el hs
    obtain ⟨i, r, rfl, hs⟩ := hs
    replace hs := popR_el hs
    obtain ⟨h, r, rfl, ⟨⟨n, hr, h0, h1, hn1⟩, hlt⟩, hs⟩ := hs
    obtain ⟨k1, k2⟩ := ck1 hk
    obtain ⟨e1, e2⟩ := i3_clamp h0 h1 (Nat.le_trans hn1 (by omega))
    intro H locs cells slots jl cA lv hP hz hA hS hl hL hn hc1 hc2
    have hw := hs H locs cells slots jl cA lv hP hz hA hS hl hL hn hc1 hc2
    rw [k2] at hw
    rw [List.map_cons, List.map_cons, tvR hlt]
    refine va_zald hx hb (tys := [(cA h, .boolean)]) (KNA hKN.1 (hA h 14 n hr (by omega))) hP h 0 (wlO_arr hr (by omega)) rfl e2 k1 ?_
    rw [e1, Int.toNat_of_nonneg h0]; exact hw
  case laload =>
    replace hs := popI_el hs
    obtain ⟨i, r, rfl, hs⟩ := hs
    replace hs := popR_el hs
    obtain ⟨h, r, rfl, ⟨⟨n, hr, h0, h1, hn1⟩, hlt⟩, hs⟩ := hs
    obtain ⟨k1, k2⟩ := ck1 hk
    obtain ⟨e1, e2⟩ := i3_clamp h0 h1 (Nat.le_trans hn1 (by omega))
    intro H locs cells slots jl cA lv hP hz hA hS hl hL hn hc1 hc2
    have hw := hs H locs cells slots jl cA lv hP hz hA hS hl hL hn hc1 hc2
    rw [k2] at hw
    rw [List.map_cons, List.map_cons, tvR hlt]
    refine va_lald hx hb (tys := [(cA h, .long)]) (KNA hKN.1 (hA h 13 n hr (by omega))) hP h 0 (wlO_arr hr (by omega)) rfl e2 k1 ?_
    rw [e1, Int.toNat_of_nonneg h0]; exact hw
  case aaload =>
    replace hs := popI_el hs
    obtain ⟨i, r, rfl, hs⟩ := hs
    replace hs := popR_el hs
    obtain ⟨h, r, rfl, ⟨hor, hlt⟩, hs⟩ := hs
    obtain ⟨k1, k2⟩ := ck1 hk
    have hor : ∃ kd : Nat, (kd = 15 ∨ kd = 16 ∨ kd = 17) ∧ inrow S kd h i := by
      rcases hor with z | z | z
      · exact ⟨15, by omega, z⟩
      · exact ⟨16, by omega, z⟩
      · exact ⟨17, by omega, z⟩
    obtain ⟨kd, hkd, n, hr, h0, h1, hn1⟩ := hor
    obtain ⟨e1, e2⟩ := i3_clamp h0 h1 (Nat.le_trans hn1 (by omega))
    intro H locs cells slots jl cA lv hP hz hA hS hl hL hn hc1 hc2
    have hw := hs H locs cells slots jl cA lv hP hz hA hS hl hL hn hc1 hc2
    rw [k2] at hw
    rw [List.map_cons, List.map_cons, tvR hlt]
    have hA1 := hA h kd n hr (by omega)
    rw [show elT kd = .object (arN kd) by unfold elT; rw [if_neg (by omega), if_neg (by omega), if_neg (by omega)]] at hA1
    have hwl := wlO_arr (bs := bs) (ex := ex) (cA := cA) (zI := zI) (zL := zL) hr (by omega)
    rw [show arO bs ex S zI zL kd h = .inr (.inr (.inr (.inr fun j => (S.2 h (j : Int)).map (ad bs ex)))) by unfold arO; rw [if_neg (by omega), if_neg (by omega)]] at hwl
    refine va_aldq hx hb (tys := [(cA h, .object (arN kd))]) (KNA hKN.1 hA1) hP h 0 hwl rfl e2 k1 ?_
    rw [e1, Int.toNat_of_nonneg h0]; exact hw
  case iastore =>
    replace hs := popI_el hs
    obtain ⟨x, r, rfl, hs⟩ := hs
    replace hs := popI_el hs
    obtain ⟨i, r, rfl, hs⟩ := hs
    replace hs := popR_el hs
    obtain ⟨h, r, rfl, ⟨⟨n, hr, h0, h1, hn1⟩, hlt⟩, hs⟩ := hs
    obtain ⟨k1, k2⟩ := ck1 hk
    obtain ⟨e1, e2⟩ := i3_clamp h0 h1 (Nat.le_trans hn1 (by omega))
    intro H locs cells slots jl cA lv hP hz hA hS hl hL hn hc1 hc2
    rw [List.map_cons, List.map_cons, List.map_cons, tvR hlt]
    have hset : (wlO bs ex cA S zI zL).set h (bs + h, .inl (cA h, n, .inl (upd (fun j : Nat => i3 (zI h (j : Int))) (i3 i).toNatClampNeg (i3 x)))) = wlO bs ex cA S (zput zI h i x) zL := by
      refine wlO_set hr rfl (fun i hi => zput_row hi) (fun i hi => rfl) (fun _ _ => rfl) ?_
      rw [e1, upd_z (z := zI) (h := h) h0 x]
      rfl
    refine va_iast hx hb (tys := [(cA h, .int)]) (KNA hKN.1 (hA h 12 n hr (by omega))) hP (hD cA S zI zL) hS h 0 (wlO_arr hr (by omega)) rfl e2 k1 fun H1 locs1 g1 g2 g3 => ?_
    have g1 : va_P D vwCl ((wlO bs ex cA S zI zL).set h (bs + h, .inl (cA h, n, .inl (upd (fun j : Nat => i3 (zI h (j : Int))) (i3 i).toNatClampNeg (i3 x))))) H1 := g1
    rw [hset] at g1
    have hw := hs H1 locs1 cells slots jl cA lv g1 hz hA g3 hl hL hn hc1 hc2
    rw [k2] at hw
    exact hw
  case bastore =>
    replace hs := popI_el hs
    obtain ⟨x, r, rfl, hs⟩ := hs
    replace hs := popI_el hs
    obtain ⟨i, r, rfl, hs⟩ := hs
    replace hs := popR_el hs
    obtain ⟨h, r, rfl, ⟨⟨n, hr, h0, h1, hn1⟩, hlt⟩, hx01, hs⟩ := hs
    obtain ⟨k1, k2⟩ := ck1 hk
    obtain ⟨e1, e2⟩ := i3_clamp h0 h1 (Nat.le_trans hn1 (by omega))
    intro H locs cells slots jl cA lv hP hz hA hS hl hL hn hc1 hc2
    rw [List.map_cons, List.map_cons, List.map_cons, tvR hlt]
    have hset : (wlO bs ex cA S zI zL).set h (bs + h, .inl (cA h, n, .inl (upd (fun j : Nat => i3 (zI h (j : Int))) (i3 i).toNatClampNeg (vp_nar .boolean (i3 x))))) = wlO bs ex cA S (zput zI h i x) zL := by
      refine wlO_set hr rfl (fun i hi => zput_row hi) (fun i hi => rfl) (fun _ _ => rfl) ?_
      rw [e1, nar_b hx01, upd_z (z := zI) (h := h) h0 x]
      rfl
    refine va_zast hx hb (tys := [(cA h, .boolean)]) (KNA hKN.1 (hA h 14 n hr (by omega))) hP (hD cA S zI zL) hS h 0 (wlO_arr hr (by omega)) rfl e2 k1 fun H1 locs1 g1 g2 g3 => ?_
    have g1 : va_P D vwCl ((wlO bs ex cA S zI zL).set h (bs + h, .inl (cA h, n, .inl (upd (fun j : Nat => i3 (zI h (j : Int))) (i3 i).toNatClampNeg (vp_nar .boolean (i3 x)))))) H1 := g1
    rw [hset] at g1
    have hw := hs H1 locs1 cells slots jl cA lv g1 hz hA g3 hl hL hn hc1 hc2
    rw [k2] at hw
    exact hw
  case lastore =>
    replace hs := popL_el hs
    obtain ⟨x, r, rfl, hs⟩ := hs
    replace hs := popI_el hs
    obtain ⟨i, r, rfl, hs⟩ := hs
    replace hs := popR_el hs
    obtain ⟨h, r, rfl, ⟨⟨n, hr, h0, h1, hn1⟩, hlt⟩, hs⟩ := hs
    obtain ⟨k1, k2⟩ := ck1 hk
    obtain ⟨e1, e2⟩ := i3_clamp h0 h1 (Nat.le_trans hn1 (by omega))
    intro H locs cells slots jl cA lv hP hz hA hS hl hL hn hc1 hc2
    rw [List.map_cons, List.map_cons, List.map_cons, tvR hlt]
    have hset : (wlO bs ex cA S zI zL).set h (bs + h, .inl (cA h, n, .inr (.inl (vp_updL (fun j : Nat => i6 (zL h (j : Int))) (i3 i).toNatClampNeg (i6 x))))) = wlO bs ex cA S zI (zput zL h i x) := by
      refine wlO_set hr rfl (fun i hi => rfl) (fun i hi => zput_row hi) (fun _ _ => rfl) ?_
      rw [e1, updL_z (z := zL) (h := h) h0 x]
      rfl
    refine va_last hx hb (tys := [(cA h, .long)]) (KNA hKN.1 (hA h 13 n hr (by omega))) hP (hD cA S zI zL) hS h 0 (wlO_arr hr (by omega)) rfl e2 k1 fun H1 locs1 g1 g2 g3 => ?_
    have g1 : va_P D vwCl ((wlO bs ex cA S zI zL).set h (bs + h, .inl (cA h, n, .inr (.inl (vp_updL (fun j : Nat => i6 (zL h (j : Int))) (i3 i).toNatClampNeg (i6 x)))))) H1 := g1
    rw [hset] at g1
    have hw := hs H1 locs1 cells slots jl cA lv g1 hz hA g3 hl hL hn hc1 hc2
    rw [k2] at hw
    exact hw
  case aastore =>
    replace hs := popR_el hs
    obtain ⟨x, r, rfl, hs⟩ := hs
    replace hs := popI_el hs
    obtain ⟨i, r, rfl, hs⟩ := hs
    replace hs := popR_el hs
    obtain ⟨h, r, rfl, ⟨hor, hlt, hlx⟩, hs⟩ := hs
    obtain ⟨k1, k2⟩ := ck1 hk
    have hor : ∃ kd ci : Nat, (kd = 15 ∨ kd = 16 ∨ kd = 17) ∧ ci < 11 ∧ rN ci = arN kd ∧ inrow S kd h i ∧ S.1[x]? = some (ci, 0) := by
      rcases hor with z | z | z
      · exact ⟨15, 3, by omega, by omega, rfl, z⟩
      · exact ⟨16, 1, by omega, by omega, rfl, z⟩
      · exact ⟨17, 7, by omega, by omega, rfl, z⟩
    obtain ⟨kd, ci, hkd, hci, hrn, ⟨n, hr, h0, h1, hn1⟩, hxo⟩ := hor
    obtain ⟨e1, e2⟩ := i3_clamp h0 h1 (Nat.le_trans hn1 (by omega))
    intro H locs cells slots jl cA lv hP hz hA hS hl hL hn hc1 hc2
    rw [List.map_cons, List.map_cons, List.map_cons, tvR hlt, tvR hlx]
    have hA1 := hA h kd n hr (by omega)
    rw [show elT kd = .object (arN kd) by unfold elT; rw [if_neg (by omega), if_neg (by omega), if_neg (by omega)]] at hA1
    have hwl := wlO_arr (bs := bs) (ex := ex) (cA := cA) (zI := zI) (zL := zL) hr (by omega)
    rw [show arO bs ex S zI zL kd h = .inr (.inr (.inr (.inr fun j => (S.2 h (j : Int)).map (ad bs ex)))) by unfold arO; rw [if_neg (by omega), if_neg (by omega)]] at hwl
    have hset : (wlO bs ex cA S zI zL).set h (bs + h, .inl (cA h, n, .inr (.inr (.inr (.inr (va_up (fun j : Nat => (S.2 h (j : Int)).map (ad bs ex)) (i3 i).toNatClampNeg (some (bs + x)))))))) = wlO bs ex cA (S.1, rput S.2 h i (some x)) zI zL := by
      refine wlO_set hr rfl (fun _ _ => rfl) (fun _ _ => rfl) (fun i hi => rput_row hi) ?_
      have e5 : arO bs ex (S.1, rput S.2 h i (some x)) zI zL kd h = .inr (.inr (.inr (.inr (va_up (fun j : Nat => (S.2 h (j : Int)).map (ad bs ex)) i.toNat (some (bs + x)))))) := by
        unfold arO
        rw [if_neg (by omega), if_neg (by omega)]
        congr 4
        funext j
        exact (up_r h0 hlx j).symm
      unfold entO
      rw [if_neg (show ¬ kd < 12 by omega)]
      dsimp only
      rw [e5, e1]
    refine va_astq hx hb (tys := [(cA h, .object (arN kd))]) (KNA hKN.1 hA1) hP (hD cA S zI zL) hS h 0 x ci hwl (by rw [← hrn]; rfl) (wlO_obj hxo hci) (vwCl_at ci hci) e2 k1 fun H1 locs1 g1 g2 g3 => ?_
    rw [hset] at g1
    have hw := hs H1 locs1 cells slots jl cA lv g1 hz hA g3 hl hL hn hc1 hc2
    rw [k2] at hw
    exact hw
  case arraylength =>
    replace hs := popR_el hs
    obtain ⟨h, r, rfl, hs⟩ := hs
    obtain ⟨k1, k2⟩ := ck1 hk
    intro H locs cells slots jl cA lv hP hz hA hS hl hL hn hc1 hc2
    split at hs
    · rename_i hlt
      obtain ⟨n, kd, hkd, hr, hs⟩ := hs
      have hw := hs H locs cells slots jl cA lv hP hz hA hS hl hL hn hc1 hc2
      rw [k2] at hw
      rw [List.map_cons, tvR hlt]
      exact va_alen hx hb (tys := [(cA h, elT kd)]) (KNA hKN.1 (hA h kd n hr hkd)) hP h 0 (wlO_arr hr hkd) rfl (v := i3 (n : Int)) rfl k1 hw
    · rename_i hlt
      obtain ⟨he, hs⟩ := hs
      have hw := hs H locs cells slots jl cA lv hP hz hA hS hl hL hn hc1 hc2
      rw [k2] at hw
      have e3 : tv bs ex (pR h) = .ref (ex (h - xbase)) := by show Value.ref (ad bs ex h) = _; rw [ad_ge hlt]
      rw [List.map_cons, e3]
      exact va_tlen hx hb (hKN.2.1 _ he) hS (v := i3 ((X (h - xbase)).1 : Int)) rfl k1 hw
  case newarray t =>
    replace hs := popI_el hs
    obtain ⟨n, r, rfl, ⟨h0, h1, h2, h3, h4⟩, hs⟩ := hs
    dsimp only [chkI] at hk
    rw [Bool.and_eq_true] at hk
    obtain ⟨hk, hkd⟩ := hk
    obtain ⟨k1, k2⟩ := ck1 hk
    have hty : Cond.arrayClass (newarray.typeOf t) ∈ BIG ∧ newarray.typeOf t = elT a ∧ (a = 12 ∨ a = 13 ∨ a = 14) := by
      cases t <;> simp only [beq_iff_eq] at hkd <;> first | cases hkd; done | (subst hkd; exact ⟨arrW 126 _ (by decide +kernel), rfl, by omega⟩) | (subst hkd; exact ⟨arrW 125 _ (by decide +kernel), rfl, by omega⟩) | (subst hkd; exact ⟨arrW 1088 _ (by decide +kernel), rfl, by omega⟩)
    obtain ⟨hw0, hty, ha⟩ := hty
    obtain ⟨k, rfl⟩ := Int.eq_ofNat_of_zero_le h0
    rw [Int.toNat_natCast] at h3 hs
    have hkk : k ≤ 10000 := by omega
    intro H locs cells slots jl cA lv hP hz hA hS hl hL hn hc1 hc2
    refine W_sz fun hsz => ?_
    have hlow := low_sz hP (Nat.le_trans hbs hS.1)
    have hHs : H.size = bs + S.1.length := by omega
    obtain ⟨hcb, hdf⟩ : componentBytes (newarray.typeOf t) ≤ 8 ∧ True := ⟨by rw [hty]; rcases ha with rfl | rfl | rfl <;> decide, trivial⟩
    refine va_newaK (N := k) hx hb (hts _ hw0) rfl k1 rfl (nI_pos (by omega)) (nI_clamp (by omega)) (Nat.le_trans (Nat.mul_le_mul hkk hcb) (by decide)) (by omega) (by omega) hHs fun H1 cA1 e1 z1 o1 hAr hNm => ?_
    have o1 : ∀ q, q < H.size → H1[q]? = H[q]? := fun q hq => o1 q (by omega)
    have hP1 : va_P D vwCl (wlO bs ex (fun i => if i = S.1.length then cA1 else cA i) (S.1 ++ [(a, k)], S.2) (zrow zI S.1.length fun _ => 0) (zrow zL S.1.length fun _ => 0)) H1 := by
      refine push_P hP o1 (wlO_push rfl (fun i hi => zrow_other hi) (fun i hi => zrow_other hi) (fun _ _ => rfl) (fun i hi => if_neg (Nat.ne_of_lt hi)) rfl) ?_
      unfold entO
      rw [if_neg (show ¬ (a, k).1 < 12 by dsimp only; omega)]
      dsimp only
      rw [if_pos rfl]
      show H1[bs + S.1.length]? = some (vp_cell cA1 (k, _))
      rw [e1]
      congr 1
      unfold arO
      rcases ha with rfl | rfl | rfl
      · rw [if_neg (by decide), if_pos (by decide), hty, vp_cell_i]
        congr 1; funext j; show _ = Value.int (i3 (zrow _ _ _ _ _)); rw [zrow_at]; rfl
      · rw [if_pos rfl, hty, vp_cell_l]
        congr 1; funext j; show _ = Value.long (i6 (zrow _ _ _ _ _)); rw [zrow_at]; rfl
      · rw [if_neg (by decide), if_pos (by decide), hty, vp_cell_i]
        congr 1; funext j; show _ = Value.int (i3 (zrow _ _ _ _ _)); rw [zrow_at]; rfl
    have hA1 : ARO (fun i => if i = S.1.length then cA1 else cA i) (S.1 ++ [(a, k)], S.2) s := ARO_push hA fun _ => ⟨by rw [← hty]; exact hAr, by rw [← hty]; rw [hty] at hNm ⊢; rcases ha with rfl | rfl | rfl <;> exact hNm⟩
    have hw := hs H1 locs (cells + 1) (slots + k) jl _ lv hP1 (by rw [List.length_append]; simp only [List.length_singleton]; omega) hA1 (va_S_grow hS (by omega) o1) hl hL hn (by omega) (by omega)
    rw [k2, List.map_cons, tvR (by unfold xbase; omega)] at hw
    exact hw
  case anewarray x =>
    replace hs := popI_el hs
    obtain ⟨n, r, rfl, ⟨h0, h1, h2, h3, h4⟩, hs⟩ := hs
    dsimp only [chkI] at hk
    rw [Bool.and_eq_true] at hk
    obtain ⟨hk, hla⟩ := hk
    obtain ⟨k1, k2⟩ := ck1 hk
    obtain ⟨ha, hw0⟩ := LA_in hla
    obtain ⟨k, rfl⟩ := Int.eq_ofNat_of_zero_le h0
    rw [Int.toNat_natCast] at h3 hs
    have hkk : k ≤ 10000 := by omega
    intro H locs cells slots jl cA lv hP hz hA hS hl hL hn hc1 hc2
    refine W_sz fun hsz => ?_
    have hlow := low_sz hP (Nat.le_trans hbs hS.1)
    have hHs : H.size = bs + S.1.length := by omega
    have hcl : (i3 (k : Int)).toNatClampNeg = k := nI_clamp (by omega)
    refine W.anew hx hb hown (hts _ hw0) (va_AO.use (hKN.2.2.2.2 a ha)) rfl k1 rfl (nI_pos (by omega)) (by rw [hcl]; omega) (by omega) (by rw [hcl]; omega) fun cA1 kA comp f1 f2 f3 f4 => ?_
    rw [hcl]
    generalize hH1 : H.push ({ cls := cA1, slots := Array.replicate k .null, vm := .none } : Cell) = H1
    have z1 : H1.size = H.size + 1 := by rw [← hH1, Array.size_push]
    have e1 : H1[bs + S.1.length]? = some (arrV cA1 k (fun _ => .null)) := by rw [← hH1, ← hHs, Array.getElem?_push_size, ← arrV_new]
    have o1 : ∀ q : Nat, q < H.size → H1[q]? = H[q]? := fun q hq => by rw [← hH1, Array.getElem?_push, if_neg (Nat.ne_of_lt hq)]
    have hel : elT a = .object (arN a) := by unfold elT; rw [if_neg (by omega), if_neg (by omega), if_neg (by omega)]
    have hP1 : va_P D vwCl (wlO bs ex (fun i => if i = S.1.length then cA1 else cA i) (S.1 ++ [(a, k)], rrow S.2 S.1.length) zI zL) H1 := by
      refine push_P hP o1 (wlO_push rfl (fun _ _ => rfl) (fun _ _ => rfl) (fun i hi => rrow_other hi) (fun i hi => if_neg (Nat.ne_of_lt hi)) rfl) ?_
      unfold entO
      rw [if_neg (show ¬ (a, k).1 < 12 by dsimp only; omega)]
      dsimp only
      rw [if_pos rfl]
      show H1[bs + S.1.length]? = some (vp_cell cA1 (k, _))
      rw [e1]
      congr 1
      unfold arO
      dsimp only
      rw [if_neg (by omega), if_neg (by omega), vp_cell_q]
      congr 1; funext j; rw [rrow_at]; rfl
    have hA1 : ARO (fun i => if i = S.1.length then cA1 else cA i) (S.1 ++ [(a, k)], rrow S.2 S.1.length) s := ARO_push hA fun _ => by
      rw [hel]
      exact ⟨fun N z => ⟨(fun k h => by cases h), kA, f2, comp, f3⟩, kA, comp, f2, f3, f4, f1⟩
    have hw := hs H1 locs (cells + 1) (slots + k) jl _ lv hP1 (by rw [List.length_append]; simp only [List.length_singleton]; omega) hA1 (va_S_grow hS (by omega) o1) hl hL hn (by omega) (by omega)
    rw [k2, List.map_cons, tvR (by unfold xbase; omega), ← hHs] at hw
    exact hw
  case new x =>
    obtain ⟨⟨h2, h3, h4⟩, hs⟩ := hs
    dsimp only [chkI] at hk
    rw [Bool.and_eq_true] at hk
    obtain ⟨hk, hln⟩ := hk
    obtain ⟨k1, k2⟩ := ck1 hk
    obtain ⟨ha, w1, w2, w3⟩ := LN_in hln
    intro H locs cells slots jl cA lv hP hz hA hS hl hL hn hc1 hc2
    refine W_sz fun hsz => ?_
    have hlow := low_sz hP (Nat.le_trans hbs hS.1)
    have hHs : H.size = bs + S.1.length := by omega
    have hKn := hKN.1.1 a _ (vwCl_at a ha)
    refine W.newcK hx hb hown (hts _ w1) (hts _ w2) (hts _ w3) rfl k1 (by omega) (by omega) hKn.2.1 hHs fun H1 kC hkC e1 z1 o1 => ?_
    have o1 : ∀ q, q < H.size → H1[q]? = H[q]? := fun q hq => o1 q (by omega)
    have hP1 : va_P D vwCl (wlO bs ex cA (S.1 ++ [(a, 0)], rrow S.2 S.1.length) (zrow zI S.1.length fun _ => 0) (zrow zL S.1.length fun _ => 0)) H1 := by
      refine push_P hP o1 (wlO_push rfl (fun i hi => zrow_other hi) (fun i hi => zrow_other hi) (fun i hi => rrow_other hi) (fun _ _ => rfl) rfl) ?_
      unfold entO
      rw [if_pos (show (a, 0).1 < 12 by dsimp only; omega)]
      refine ⟨_, vwCl_at a ha, (u_born (tyF a) hts (lay_ok a ha) hKn hkC e1 (tyF_ok a ha)).to fun j hj => ?_⟩
      show _ = vp_V (fsO bs ex _ _ _ a S.1.length) j
      unfold vp_V
      rw [List.getD_eq_getElem?_getD, fsO_get hj]
      show _ = fvO bs ex _ _ _ (tyF a j) S.1.length (j : Int)
      cases htt : tyF a j <;> first
        | (show _ = Value.int (i3 (zrow _ _ _ _ _)); rw [zrow_at]; rfl)
        | (show _ = Value.long (i6 (zrow _ _ _ _ _)); rw [zrow_at]; rfl)
        | (show _ = va_rf ((rrow _ _ _ _).map _); rw [rrow_at]; first | rfl | exact absurd (tyF_in a ha j hj) (by rw [htt]; decide))
    have hA1 : ARO cA (S.1 ++ [(a, 0)], rrow S.2 S.1.length) s := by
      have h := ARO_push (kd := a) (n := 0) (r := rrow S.2 S.1.length) (c1 := cA S.1.length) hA (fun q => by omega)
      have e : (fun i => if i = S.1.length then cA S.1.length else cA i) = cA := by funext i; by_cases q : i = S.1.length <;> simp [q]
      rw [e] at h
      exact h
    have hw := hs H1 locs (cells + 1) (slots + NF a) jl cA lv hP1 (by rw [List.length_append]; simp only [List.length_singleton]; omega) hA1 (va_S_grow hS (by omega) o1) hl hL hn (by omega) (by omega)
    rw [k2, List.map_cons, tvR (by unfold xbase; omega)] at hw
    exact hw
  case invokevirtual x =>
    obtain ⟨hrecv, hn1, hcat, hmc, hms, hcall⟩ := hs
    dsimp only [chkI] at hk
    simp only [Bool.and_eq_true, decide_eq_true_eq, beq_iff_eq] at hk
    obtain ⟨⟨⟨⟨hk1, hk2⟩, hlk⟩, hrn⟩, hra⟩ := hk
    have ha : a < 214 := by simpa [callLt] using hca
    obtain ⟨k1, k2⟩ := ck1 (by rw [Bool.and_eq_true, beq_iff_eq]; exact ⟨hk1, hk2⟩)
    replace hlk := any_s (P := fun e => e.1 == RC f && e.2.1 == x && e.2.2.1 == 0 && e.2.2.2.1 == a) hlk
    obtain ⟨n, rfl, hlk⟩ := hlk
    obtain ⟨p1, p2, p3, hck, hpn⟩ := LK_in hlk
    have hpn := hpn (by omega)
    unfold ckK at hck
    simp only [Bool.and_eq_true] at hck
    obtain ⟨⟨w1, w2⟩, w3⟩ := hck
    have w1 := inT_big w1
    have w2 := inT_big w2
    have w3 := inT_big w3
    obtain ⟨m1, m2, m3, m4, m5⟩ := LM_in ha
    have hM := IH a _ S zI zL _ ha hcall
    unfold recv at hrecv
    rw [Nat.add_sub_cancel] at hrecv
    split at hrecv
    case h_2 => exact hrecv.elim
    rename_i h hst
    obtain ⟨ho, hlt⟩ := hrecv
    intro H locs cells slots jl cA lv hP hz hA hS hl hL hn hc1 hc2
    refine W_sz fun hsz => ?_
    have hlow := low_sz hP (Nat.le_trans hbs hS.1)
    have hHs : H.size = bs + S.1.length := by omega
    have hst1 : st = st.take n ++ pR h :: st.drop (n + 1) := by
      rw [← List.take_append_drop n st, List.take_append_of_le_length (by rw [List.length_take]; omega), List.take_take, Nat.min_self]
      congr 1
      rw [List.take_append_drop]
      have := List.drop_eq_getElem_cons (show n < st.length by omega)
      rw [this]
      congr 1
      exact Option.some.inj ((List.getElem?_eq_getElem (show n < st.length by omega)).symm.trans hst)
    have has : (st.take (n + 1)).reverse = pR h :: (st.take n).reverse := by
      rw [List.take_add_one, hst]; simp
    rw [has] at hM
    have hlen : (st.take n).length = n := by rw [List.length_take]; omega
    refine callG (va_runV (As := (st.take n).reverse.map (tv bs ex)) (rest := (st.drop (n + 1)).map (tv bs ex)) (b := bs + h) ⟨hx, hb, hml, hown, hts⟩ hM (cwV n hts (fun w hw => ?_) rfl rfl rfl ⟨rfl, m4, m5, hpn⟩ ⟨by show d + 1 ≤ R.frames; exact hRf, by show 8 + (mL a + 11) + 60 * d ≤ R.locals; have := mL_le a (by omega); omega⟩) ⟨PcO_blind _ _ _ _ _ _ _ _, ?_, fun U hU hW => ?_⟩ rfl (by rw [List.length_map, List.length_reverse, hlen]) hl.1 ?_ (lv_room (by rw [tv_cats]; exact hcat)) k1 ⟨by show cells + MC a ≤ R.cells; omega, by show slots + MS a ≤ R.slots; omega⟩) hS fun r0 S' zI' zL' H1 locs1 cA' hq0 g1 g2 g3 g4 => ?_
    · unfold wsV at hw
      rcases List.mem_append.mp hw with q | q
      · simp only [List.mem_cons, List.not_mem_nil, or_false] at q
        rcases q with rfl | rfl | rfl | rfl
        · exact big_good w1
        · exact big_good w2
        · exact big_good w3
        · exact big_good m2
      · rcases List.mem_cons.mp q with rfl | q
        · exact big_good m1
        · exact big_good q
    · have := va_recv hKN.1 hP (vwCl_at _ hra) (wlO_obj ho hra)
      rw [← hrn]; exact this
    · have := PcO_of (as := pR h :: (st.take n).reverse) hKN hbs hP hHs hA hS hU hW
      rw [List.map_cons, tvR hlt] at this
      exact this
    · show st.map (tv bs ex) = _
      conv => lhs; rw [hst1]
      rw [List.map_append, List.map_cons, tvR hlt, List.map_reverse, List.reverse_reverse]
    · have hw := hq0 H1 locs1 (cells + MC a) (slots + MS a) jl cA' lv g1 (by omega) g3 g4 hl hL hn (by omega) (by omega)
      rw [k2, List.map_append] at hw
      cases r0 <;> exact hw
  case invokestatic x =>
    dsimp only [chkI] at hk
    rw [Bool.and_eq_true] at hk
    obtain ⟨hk, hlk⟩ := hk
    obtain ⟨k1, k2⟩ := ck1 hk
    split at hs
    · rename_i hc6
      rw [if_pos hc6] at hlk
      obtain ⟨f1, n1, p1, p2, p3, hck⟩ := LK_o hlk
      have hck := inT_big (show inT p1 (.methodLink (rN (RC f)) x arraycopyName) = true from hck)
      replace hs := popI_el hs
      obtain ⟨n, r, rfl, hs⟩ := hs
      replace hs := popI_el hs
      obtain ⟨dp, r, rfl, hs⟩ := hs
      replace hs := popR_el hs
      obtain ⟨dst, r, rfl, hs⟩ := hs
      replace hs := popI_el hs
      obtain ⟨sp, r, rfl, hs⟩ := hs
      replace hs := popR_el hs
      obtain ⟨src, r, rfl, hcat, kd, n0, n1, hr0, hr1, hlt0, hlt1, hn0, hn1, a0, a1, a2, a3, a4, hs⟩ := hs
      intro H locs cells slots jl cA lv hP hz hA hS hl hL hn hc1 hc2
      have cl : ∀ z : Int, 0 ≤ z → z ≤ 10000 → (i3 z).toNatClampNeg = z.toNat ∧ ¬ i3 z < 0 := fun z h1 h2 => by
        obtain ⟨k, rfl⟩ := Int.eq_ofNat_of_zero_le h1
        exact ⟨nI_clamp (by omega), nI_pos (by omega)⟩
      obtain ⟨c1, c2⟩ := cl sp a0 (by omega)
      obtain ⟨c3, c4⟩ := cl dp a1 (by omega)
      obtain ⟨c5, c6⟩ := cl n a2 (by omega)
      have e1 : dp.toNat + n.toNat ≤ n1 := by omega
      rw [List.map_cons, List.map_cons, List.map_cons, List.map_cons, List.map_cons, tvR hlt0, tvR hlt1]
      have hnf : (((r.map (tv bs ex)).map fun v => v.category).sum + (nativeFrameWords "java/lang/System" "arraycopy" 5 + 11) ≤ R.locals) := by
        rw [tv_cats]
        have : nativeFrameWords "java/lang/System" "arraycopy" 5 ≤ 7 := by decide
        omega
      have wn : Cond.native arraycopyName ∈ BIG := inT_big (i := 437) (by decide +kernel)
      have wst : Cond.static arraycopyName ∈ BIG := inT_big (i := 436) (by decide +kernel)
      have win : Cond.initialized "java/lang/System" ∈ BIG := inT_big (i := 88) (by decide +kernel)
      rcases hs with ⟨rfl, hs⟩ | ⟨rfl, hs⟩
      · refine va_copyi hx hb (by rw [hml]; exact hl.1.symm) hown (hts _ hck) (hts _ wn) (hts _ wst) (hts _ win) (tys := [(cA src, .int), (cA dst, .int)]) (KNA2 hKN.1 (hA src 12 n0 hr0 (by omega)) (hA dst 12 n1 hr1 (by omega))) hP (hD cA S zI zL) hS src dst 0 1 (wlO_arr hr0 (by omega)) (wlO_arr hr1 (by omega)) rfl rfl rfl c2 c4 c6 (by rw [c1, c5]; omega) (by rw [c3, c5]; exact e1) (fun i hi => rfl) (by omega) hnf k1 fun H1 locs1 g1 g2 g3 => ?_
        rw [c1, c3, c5] at g1
        rw [wlO_set (S' := S) (zI' := zrow zI dst (cpI (zI src) (zI dst) sp dp n)) (zL' := zL) hr1 rfl (fun i hi => zrow_ne hi) (fun _ _ => rfl) (fun _ _ => rfl) (e := .inl (cA dst, n1, .inl (va_cpy (fun j : Nat => i3 (zI src (j : Int))) (fun j : Nat => i3 (zI dst (j : Int))) sp.toNat dp.toNat n.toNat))) (by
          rw [show va_cpy (fun j : Nat => i3 (zI src (j : Int))) (fun j : Nat => i3 (zI dst (j : Int))) sp.toNat dp.toNat n.toNat = fun j : Nat => i3 (zrow zI dst (cpI (zI src) (zI dst) sp dp n) dst (j : Int)) from funext (cpy_i3 a0 a1 a2)]
          rfl)] at g1
        have hw := hs H1 locs1 cells slots jl cA lv g1 hz hA g3 hl hL hn hc1 hc2
        rw [k2] at hw
        exact hw
      · refine va_copyl hx hb (by rw [hml]; exact hl.1.symm) hown (hts _ hck) (hts _ wn) (hts _ wst) (hts _ win) (tys := [(cA src, .long), (cA dst, .long)]) (KNA2 hKN.1 (hA src 13 n0 hr0 (by omega)) (hA dst 13 n1 hr1 (by omega))) hP (hD cA S zI zL) hS src dst 0 1 (wlO_arr hr0 (by omega)) (wlO_arr hr1 (by omega)) rfl rfl rfl c2 c4 c6 (by rw [c1, c5]; omega) (by rw [c3, c5]; exact e1) (fun i hi => rfl) (by omega) hnf k1 fun H1 locs1 g1 g2 g3 => ?_
        rw [c1, c3, c5] at g1
        rw [wlO_set (S' := S) (zI' := zI) (zL' := zrow zL dst (cpI (zL src) (zL dst) sp dp n)) hr1 rfl (fun _ _ => rfl) (fun i hi => zrow_ne hi) (fun _ _ => rfl) (e := .inl (cA dst, n1, .inr (.inl (va_cpy (fun j : Nat => i6 (zL src (j : Int))) (fun j : Nat => i6 (zL dst (j : Int))) sp.toNat dp.toNat n.toNat)))) (by
          rw [show va_cpy (fun j : Nat => i6 (zL src (j : Int))) (fun j : Nat => i6 (zL dst (j : Int))) sp.toNat dp.toNat n.toNat = fun j : Nat => i6 (zrow zL dst (cpI (zL src) (zL dst) sp dp n) dst (j : Int)) from funext (cpy_i6 a0 a1 a2)]
          rfl)] at g1
        have hw := hs H1 locs1 cells slots jl cA lv g1 hz hA g3 hl hL hn hc1 hc2
        rw [k2] at hw
        exact hw
    · rename_i hc6
      rw [if_neg hc6] at hlk
      obtain ⟨hn1, hcat, hmc, hms, hcall⟩ := hs
      have ha : a < 214 := by simpa [callLt] using hca
      obtain ⟨m1, m2, m3, m4, m5⟩ := LM_in ha
      have hM := IH a _ S zI zL _ ha hcall
      have hlen : ((st.take b).reverse.map (tv bs ex)).length = b := by rw [List.length_map, List.length_reverse, List.length_take]; omega
      have hstk : st.map (tv bs ex) = ((st.take b).reverse.map (tv bs ex)).reverse ++ (st.drop b).map (tv bs ex) := by
        rw [List.map_reverse, List.reverse_reverse, ← List.map_append, List.take_append_drop]
      intro H locs cells slots jl cA lv hP hz hA hS hl hL hn hc1 hc2
      refine W_sz fun hsz => ?_
      have hlow := low_sz hP (Nat.le_trans hbs hS.1)
      have hHs : H.size = bs + S.1.length := by omega
      rw [Bool.or_eq_true, Bool.and_eq_true, Bool.and_eq_true] at hlk
      rcases hlk with ⟨-, hlk⟩ | ⟨-, hlk⟩
      · obtain ⟨p1, p2, p3, hck, hpn⟩ := LK_in hlk
        have hpn := hpn (by omega)
        unfold ckK at hck
        simp only [Bool.and_eq_true] at hck
        have w1 := inT_big hck.1
        have w2 := inT_big hck.2
        refine callG (va_runS (As := (st.take b).reverse.map (tv bs ex)) (rest := (st.drop b).map (tv bs ex)) ⟨hx, hb, hml, hown, hts⟩ hM (va_cwS b hts (fun w hw => ?_) rfl rfl rfl ⟨m4, m5, hpn⟩ ⟨by show d + 1 ≤ R.frames; exact hRf, by show 8 + (mL a + 11) + 60 * d ≤ R.locals; have := mL_le a (by omega); omega⟩) ⟨PcO_blind _ _ _ _ _ _ _ _, fun U hU hW => PcO_of hKN hbs hP hHs hA hS hU hW⟩ rfl hlen hl.1 hstk (lv_room (by rw [tv_cats]; exact hcat)) k1 ⟨by show cells + MC a ≤ R.cells; omega, by show slots + MS a ≤ R.slots; omega⟩) hS fun r0 S' zI' zL' H1 locs1 cA' hq0 g1 g2 g3 g4 => ?_
        · unfold va_wsS at hw
          rcases List.mem_append.mp hw with q | q
          · simp only [List.mem_cons, List.not_mem_nil, or_false] at q
            rcases q with rfl | rfl | rfl
            · exact big_good w1
            · exact big_good w2
            · exact big_good m2
          · rcases List.mem_cons.mp q with rfl | q
            · exact big_good m1
            · exact big_good q
        · have hw := hq0 H1 locs1 (cells + MC a) (slots + MS a) jl cA' lv g1 (by omega) g3 g4 hl hL hn (by omega) (by omega)
          rw [k2, List.map_append] at hw
          cases r0 <;> exact hw
      · obtain ⟨p1, p2, p3, hck, hpn⟩ := LK_in hlk
        have hpn := hpn (by omega)
        unfold ckK at hck
        simp only [Bool.and_eq_true] at hck
        have w1 := inN_nest hck.1
        have w2 := inT_big hck.2
        refine callG (va_runSN (host := "CornerCurves") (As := (st.take b).reverse.map (tv bs ex)) (rest := (st.drop b).map (tv bs ex)) ⟨hx, hb, hml, hown, hts⟩ hM ⟨va_cnB b hts (fun w hw => ?_) rfl rfl rfl (hKN.2.2.2.1 _ w1) (hts _ m2) ⟨m4, m5, hpn⟩ ⟨by show d + 1 ≤ R.frames; exact hRf, by show 8 + (mL a + 11) + 60 * d ≤ R.locals; have := mL_le a (by omega); omega⟩, hts _ w2, trivial⟩ ⟨PcO_blind _ _ _ _ _ _ _ _, fun U hU hW => PcO_of hKN hbs hP hHs hA hS hU hW⟩ rfl hlen hl.1 hstk (lv_room (by rw [tv_cats]; exact hcat)) k1 ⟨by show cells + MC a ≤ R.cells; omega, by show slots + MS a ≤ R.slots; omega⟩) hS fun r0 S' zI' zL' H1 locs1 cA' hq0 g1 g2 g3 g4 => ?_
        · rcases List.mem_cons.mp hw with rfl | q
          · exact big_good m1
          · exact big_good q
        · have hw := hq0 H1 locs1 (cells + MC a) (slots + MS a) jl cA' lv g1 (by omega) g3 g4 hl hL hn (by omega) (by omega)
          rw [k2, List.map_append] at hw
          cases r0 <;> exact hw
  case invokespecial x =>
    dsimp only [chkI] at hk
    rw [Bool.and_eq_true] at hk
    obtain ⟨hk, hlk⟩ := hk
    obtain ⟨k1, k2⟩ := ck1 hk
    split at hs
    · rename_i hc5
      rw [if_pos hc5] at hlk
      obtain ⟨f1, n1, p1, p2, p3, hck⟩ := LK_o hlk
      have hck := inT_big (show inT p1 (.methodLink (rN (RC f)) x objectInit) = true from hck)
      replace hs := popR_el hs
      obtain ⟨h, r, rfl, hcat, hs⟩ := hs
      intro H locs cells slots jl cA lv hP hz hA hS hl hL hn hc1 hc2
      have hw := hs H locs cells slots jl cA lv hP hz hA hS hl hL hn hc1 hc2
      rw [k2] at hw
      have wi : Cond.instanceMethod objectInit ∈ BIG := inT_big (i := 98) (by decide +kernel)
      have wc : Cond.code objectInit ⟨#[0xb1]⟩ 1 none ∈ BIG := inT_big (i := 99) (by decide +kernel)
      exact W.objInit hx hb hown (hts _ hck) (hts _ wi) (hts _ wc) rfl (by rw [hml]; exact hl.1) rfl k1 (by omega) (by have := tv_cats bs ex r; show 2 * 0 + _ + 12 ≤ _; omega) hw
    · rename_i hc5
      rw [if_neg hc5] at hlk
      obtain ⟨hrecv, hn1, hcat, hmc, hms, hcall⟩ := hs
      rw [Bool.and_eq_true, beq_iff_eq] at hlk
      obtain ⟨hret, hlk⟩ := hlk
      have ha : a < 214 := by simpa [callLt] using hca
      obtain ⟨m1, m2, m3, m4, m5⟩ := LM_in ha
      have hM := IH a _ S zI zL _ ha hcall
      have hlk2 : ∃ n so, b = n + 1 ∧ ((so = 3 ∧ LKs.any (fun e => e.1 == RC f && e.2.1 == x && e.2.2.1 == 3 && e.2.2.2.1 == a && e.2.2.2.2.1 == n) = true) ∨ (so = 4 ∧ LKs.any (fun e => e.1 == RC f && e.2.1 == x && e.2.2.1 == 4 && e.2.2.2.1 == a && e.2.2.2.2.1 == n) = true)) := by
        rw [Bool.or_eq_true, Bool.and_eq_true, Bool.and_eq_true] at hlk
        rcases hlk with ⟨-, hlk⟩ | ⟨-, hlk⟩
        · obtain ⟨n, hb', hlk⟩ := any_s (P := fun e => e.1 == RC f && e.2.1 == x && e.2.2.1 == 3 && e.2.2.2.1 == a) hlk
          exact ⟨n, 3, hb', Or.inl ⟨rfl, hlk⟩⟩
        · obtain ⟨n, hb', hlk⟩ := any_s (P := fun e => e.1 == RC f && e.2.1 == x && e.2.2.1 == 4 && e.2.2.2.1 == a) hlk
          exact ⟨n, 4, hb', Or.inr ⟨rfl, hlk⟩⟩
      clear hlk
      obtain ⟨n, so, rfl, hlk⟩ := hlk2
      unfold recvA at hrecv
      rw [Nat.add_sub_cancel] at hrecv
      split at hrecv
      case h_2 => exact hrecv.elim
      rename_i h hst
      intro H locs cells slots jl cA lv hP hz hA hS hl hL hn hc1 hc2
      refine W_sz fun hsz => ?_
      have hlow := low_sz hP (Nat.le_trans hbs hS.1)
      have hHs : H.size = bs + S.1.length := by omega
      have hst1 : st = st.take n ++ pR h :: st.drop (n + 1) := by
        rw [← List.take_append_drop n st, List.take_append_of_le_length (by rw [List.length_take]; omega), List.take_take, Nat.min_self]
        congr 1
        rw [List.take_append_drop]
        have := List.drop_eq_getElem_cons (show n < st.length by omega)
        rw [this]
        congr 1
        exact Option.some.inj ((List.getElem?_eq_getElem (show n < st.length by omega)).symm.trans hst)
      have has : (st.take (n + 1)).reverse = pR h :: (st.take n).reverse := by
        rw [List.take_add_one, hst]; simp
      rw [has] at hM
      have hlen : ((st.take n).reverse.map (tv bs ex)).length = n := by rw [List.length_map, List.length_reverse, List.length_take]; omega
      have hstk : st.map (tv bs ex) = ((st.take n).reverse.map (tv bs ex)).reverse ++ .ref (ad bs ex h) :: (st.drop (n + 1)).map (tv bs ex) := by
        conv => lhs; rw [hst1]
        rw [List.map_append, List.map_cons, List.map_reverse, List.reverse_reverse]; rfl
      have hgood : GoodIn BIG (wsO a) := fun w hw => by
        rcases List.mem_cons.mp hw with rfl | q
        · exact big_good m1
        · exact big_good q
      have hwo : wsO a = Cond.code (mY a) (mB a) (mL a) none :: BIG := by unfold wsO; rw [hret]
      rcases hlk with ⟨rfl, hlk⟩ | ⟨rfl, hlk⟩
      · obtain ⟨p1, p2, p3, hck, hpn⟩ := LK_in hlk
        have hpn := hpn (by omega)
        unfold ckK at hck
        simp only [Bool.and_eq_true, decide_eq_true_eq] at hck
        obtain ⟨⟨w1, w2⟩, w3⟩ := hck
        refine callG (va_runI (b := ad bs ex h) (As := (st.take n).reverse.map (tv bs ex)) (rest := (st.drop (n + 1)).map (tv bs ex)) ⟨hx, hb, hml, hown, hts⟩ hM (cwI n hts hgood hwo rfl rfl (hts _ m2) (hts _ (inT_big w1)) (hts _ (inT_big w2)) w3 ⟨m4, m5, hpn⟩ ⟨by show d + 1 ≤ R.frames; exact hRf, by show 8 + (mL a + 11) + 60 * d ≤ R.locals; have := mL_le a (by omega); omega⟩) ⟨PcO_blind _ _ _ _ _ _ _ _, fun U hU hW => PcO_of (as := pR h :: (st.take n).reverse) hKN hbs hP hHs hA hS hU hW⟩ rfl hlen hl.1 hstk (lv_room (by rw [tv_cats]; exact hcat)) k1 ⟨by show cells + MC a ≤ R.cells; omega, by show slots + MS a ≤ R.slots; omega⟩) hS fun r0 S' zI' zL' H1 locs1 cA' hq0 g1 g2 g3 g4 => ?_
        have hw := hq0 H1 locs1 (cells + MC a) (slots + MS a) jl cA' lv g1 (by omega) g3 g4 hl hL hn (by omega) (by omega)
        rw [k2, List.map_append] at hw
        cases r0 <;> exact hw
      · obtain ⟨p1, p2, p3, hck, hpn⟩ := LK_in hlk
        have hpn := hpn (by omega)
        unfold ckK at hck
        simp only [Bool.and_eq_true, decide_eq_true_eq] at hck
        obtain ⟨⟨w1, w2⟩, w3⟩ := hck
        refine callG (va_runIN (host := "CornerCurves") (b := ad bs ex h) (As := (st.take n).reverse.map (tv bs ex)) (rest := (st.drop (n + 1)).map (tv bs ex)) ⟨hx, hb, hml, hown, hts⟩ hM ⟨va_cnB n hts hgood hwo rfl rfl (hKN.2.2.2.1 _ (inN_nest w1)) (hts _ m2) ⟨m4, m5, hpn⟩ ⟨by show d + 1 ≤ R.frames; exact hRf, by show 8 + (mL a + 11) + 60 * d ≤ R.locals; have := mL_le a (by omega); omega⟩, w3, hts _ (inT_big w2)⟩ ⟨PcO_blind _ _ _ _ _ _ _ _, fun U hU hW => PcO_of (as := pR h :: (st.take n).reverse) hKN hbs hP hHs hA hS hU hW⟩ rfl hlen hl.1 hstk (lv_room (by rw [tv_cats]; exact hcat)) k1 ⟨by show cells + MC a ≤ R.cells; omega, by show slots + MS a ≤ R.slots; omega⟩) hS fun r0 S' zI' zL' H1 locs1 cA' hq0 g1 g2 g3 g4 => ?_
        have hw := hq0 H1 locs1 (cells + MC a) (slots + MS a) jl cA' lv g1 (by omega) g3 g4 hl hL hn (by omega) (by omega)
        rw [k2, List.map_append] at hw
        cases r0 <;> exact hw
end
section
/-! SOUNDNESS, the end: every method by its depth; the law's entry -/
def flatA (as : List PV) : List (Option PV) := as.flatMap (fun v => match v with | .inr (.inl _) => [some v, none] | _ => [some v])
theorem flat_len (bs : Nat) (ex : Nat → Nat) : ∀ as : List PV, (lg_sl (as.map (tv bs ex))).length = (flatA as).length
  | [] => rfl
  | v :: r => by
    have ih := flat_len bs ex r
    unfold lg_sl flatA at ih ⊢
    rw [List.map_cons, List.flatMap_cons, List.flatMap_cons, List.length_append, List.length_append, ih, tv_cat]
    congr 1
    rcases v with a | a | a <;> rfl
theorem flat_args (bs : Nat) (ex : Nat → Nat) : ∀ (as : List PV) (k i : Nat) (v : PV), (flatA as)[i]? = some (some v) → (k + i, tv bs ex v) ∈ lv_args k (as.map (tv bs ex))
  | [], _, _, _, h => by simp [flatA] at h
  | u :: r, k, i, v, h => by
    unfold flatA at h
    rw [List.flatMap_cons] at h
    rw [List.map_cons]
    unfold lv_args
    rw [tv_cat]
    have key : ∀ (w : Nat), (if pcat u = 2 then k + 2 else k + 1) = k + w → ∀ j, i = w + j → (flatA r)[j]? = some (some v) → (k + i, tv bs ex v) ∈ (k, tv bs ex u) :: lv_args (if pcat u = 2 then k + 2 else k + 1) (r.map (tv bs ex)) := fun w hw j hj hr => by
      refine List.mem_cons_of_mem _ ?_
      have := flat_args bs ex r (k + w) j v hr
      rw [hw, hj, ← Nat.add_assoc]; exact this
    rcases u with a | a | a
    · cases i with
      | zero => cases h; exact List.mem_cons_self
      | succ i => exact key 1 rfl i (by omega) h
    · cases i with
      | zero => cases h; exact List.mem_cons_self
      | succ i =>
        cases i with
        | zero => cases h
        | succ i => exact key 2 rfl i (by omega) h
    · cases i with
      | zero => cases h; exact List.mem_cons_self
      | succ i => exact key 1 rfl i (by omega) h
theorem entryL_eq (n : Nat) (as : List PV) : entryL n as = flatA as ++ List.replicate (n - (flatA as).length) none := rfl
theorem entry_LR (bs : Nat) (ex : Nat → Nat) (n : Nat) (as : List PV) : LRO bs ex (entryL n as) (lv_args 0 (as.map (tv bs ex))) := by
  intro i v h
  rw [entryL_eq] at h
  rcases Nat.lt_or_ge i (flatA as).length with q | q
  · rw [List.getElem?_append_left q] at h
    have := flat_args bs ex as 0 i v h
    rwa [Nat.zero_add] at this
  · rw [List.getElem?_append_right q, List.getElem?_replicate] at h
    split at h <;> simp at h
theorem entry_fit {n : Nat} {as : List PV} (h : (entryL n as).length = n) : (flatA as).length ≤ n := by
  rw [entryL_eq, List.length_append, List.length_replicate] at h
  omega
theorem pc_zero : ∀ f, f < 215 → (pcss.getD f []).getD 0 0 = 0 := by decide +kernel
theorem own_ok : ∀ f, f < 215 → f ≠ 214 → rN (RC f) = (mY f).cls := by decide +kernel
set_option maxHeartbeats 4000000 in
theorem sound_all {l : Launch} {D : va_G} {bs : Nat} {ex : Nat → Nat} {X : PX} : ∀ (d f : Nat) (as : List PV) (S : SS) (zI zL : ZM) (Q : PQ), f < 214 → wpM X d f as S zI zL Q → Met l (mY f) (wsO f) (rmO d f) (PcO D bs ex X as S zI zL) (QcO D bs ex (MC f) Q) (MC f) (MS f) (fun q => bs ≤ q)
  | 0, _, _, _, _, _, _, _, h => h.elim
  | d + 1, f, as, S, zI, zL, Q, hf, h => by
    obtain ⟨m1, m2, m3, m4, m5⟩ := LM_in hf
    refine va_MetF (cc := mB f) (maxL := mL f) (ret := mR f) m3 rfl ?_
    intro p e s m args below meth c s₁ B hml hv
    obtain ⟨rfl, hKN, hbs, cA, hP, hz, hA⟩ := hv
    have hx := B.exec
    have hb := B.bytes
    have hr := B.returns
    have hts0 := atoms_spec (ws := wsO f) B.pre
    have hts : ∀ w ∈ BIG, w.before (as.map (tv bs ex)).toArray s = true := fun w hw => hts0 w (List.mem_cons_of_mem _ hw)
    have hown : s.vm.findClass (rN (RC f)) = some m.cls := by rw [own_ok f (by omega) (by omega)]; exact findClass_of_methodNamed B.named
    have hlocks := B.notSynchronized
    have hin : (mY f).name = "<init>" → meth.name = "<init>" := fun q => (name_of_methodNamed B.named B.method).1.trans q
    have hlv := lv_entry (as.map (tv bs ex)) (n := mL f) (by rw [flat_len]; exact entry_fit h.1)
    rw [lg_entry_eq]
    generalize (lg_sl (as.map (tv bs ex)) ++ List.replicate (mL f - (lg_sl (as.map (tv bs ex))).length) Slot.unset).toArray = jl at hlv ⊢
    have hpc : (pcss.getD f []).getD 0 0 = 0 := pc_zero f (by omega)
    have key := h.2 (SPO l D bs ex f p e (rmO (d + 1) f) s m (as.map (tv bs ex)).toArray below meth c (MC f) (MQ below (QcO D bs ex (MC f) Q) (as.map (tv bs ex)).toArray s (MC f) (MS f) (fun q => bs ≤ q)))
      (sound_step (sound_all d) (by omega) hx hb hml hown hts hin hKN hbs (Nat.le_refl _) (Nat.le_refl _) (by show 60 * d + 60 ≤ 60 * (d + 1); omega) ?_) s.heap [] 0 0 jl cA _ hP (by omega) hA va_S.rf hlv (entry_LR bs ex (mL f) as) h.1 (Nat.zero_add _) (by show 0 + MS f ≤ MS f; omega)
    · rw [hpc] at key; exact key
    · intro r S zI zL H locs cells slots jl q i hq hW hS hc hs hdec hret
      obtain ⟨cA, hP, hz, hA⟩ := hW
      subst hc
      refine W_sz fun hsz => ?_
      have hlow := low_sz hP (Nat.le_trans hbs hS.1)
      have hH : H.size = bs + S.1.length := by omega
      refine W.widen (k := MC f) (n := MS f) (Nat.le_refl _) hs ?_
      have hfin : ∀ (v : Option Value), v = r.map (tv bs ex) → ∀ t : State, t.heap = H → s.WarmedH t.vm → QcO D bs ex (MC f) Q (as.map (tv bs ex)).toArray s (.returned v) t := fun v hv t ht hw => ⟨⟨r, S, zI, zL, by rw [hv], hq, cA, by rw [ht]; exact hP, by rw [ht]; exact hH, hA.moved hw.alike⟩, by rw [ht]; omega, hS.F ht⟩
      unfold retI at hret
      split at hret
      · rename_i x
        rcases hret with h1 | ⟨h1, h2⟩
        · exact W.iret hx hb (by rw [hr, h1]) (hfin _ rfl) hS.2.2 hdec
        · exact W.zret hx hb (by rw [hr, h1]) (by rcases h2 with rfl | rfl <;> rfl) (hfin _ rfl) hS.2.2 hdec
      · exact W.lret hx hb (by rw [hr, hret]) (hfin _ rfl) hS.2.2 hdec
      · rename_i x
        obtain ⟨t, h1, h2⟩ := hret
        refine W.aret hx hb (by rw [hr, h1]) ?_ (Or.inr ⟨_, rfl⟩) (hfin _ rfl) hS.2.2 hdec
        cases t <;> first | exact Or.inl ⟨_, rfl⟩ | exact Or.inr ⟨_, rfl⟩ | cases h2
      · exact W.vret hx hb (by rw [hr, hret]) (hfin _ rfl) hS.2.2 hdec
      · exact hret.elim
end
section
/-! THE CLAIM OUT OF ONE WALK OF THE LAW'S BODY. Your part is whole_start (and what it stands on); all else here is the same for every law, but numbers. -/
def R_law : String := "CornerCurvesLaw"
def lw_P (b : Addr) (xs : List Int32) (args : Array Value) (s : State) : Prop := args = #[.ref b] ∧ s.IntsAt b xs ∧ xs.length ≤ 3072 ∧ (Jvm.Cond.and given_1 narrow_1).before args s = true
def lw_Q (_ : Array Value) (s : State) (o : Outcome) (t : State) : Prop := o = .returned (some (.int 1)) ∧ Framed s o t [] 600000 7302249
def lw_Z (below : List Frame) (a : Array Value) (s : State) : State → Prop := fun t => ∃ o, t.status = .running ∧ Ended t below o ∧ lw_Q a s o t
/-- the law's own end, with 1 on the stack, nothing written that was there before, its room as the claim has it -/
theorem lw_ret {p : Program} {l : Launch} {e : Env} {s : State} {m : MethodId} {below : List Frame} {meth : Method} {c : Code} {b : Nat} (hx : p.tables.exec = Jvm.exec) (hb : c.code = code) (hr : meth.sig.returnType = ret) (hlocks : meth.locks = false) {pc : Nat} {H : Heap} {ls : Array Slot} (hdg : decode code pc = .ok (.ireturn, 1)) : W p l e room_1 s m #[Value.ref b] below meth c H [] 600000 7302249 (lw_Z below #[Value.ref b] s) (F0 m pc ls [.int 1]) := by
  intro T hT X
  obtain ⟨fs, hret, hrun, hended, hW, hframe⟩ := X.leave (v := some (.int 1)) (hlocks := hlocks) (fun h => by rw [hr] at h; cases h)
  have hmeth' : T.vm.method? m = some meth := X.method'
  refine ⟨T.setFrames fs, ?_, .returned (some (.int 1)), hrun, hended, rfl, ⟨_, rfl⟩, hW, hframe⟩
  jvm_step X.here [X.here.top, hx, hb, hdg, hmeth', hr, ret, narrow_b1]
  (try refine ⟨rfl, ?_⟩); (try refine ⟨rfl, ?_⟩)
  first | (intro acts; rw [hret _ acts rfl rfl rfl]) | rw [hret _ _ rfl rfl rfl]
  exact Steps.refl _
/-- what holds at the law's entry: the machine, the code, the tables' words (any of lw_tbl by 'hts w (by decide +kernel)'), the script of L ints xs at the cell b, what the Statement gives of the start (any of its parts by flat_of_before) -/
def lw_At (p : Program) (s : State) (m : MethodId) (meth : Method) (c : Code) (b L : Nat) (xs : Nat → Int32) : Prop :=
  p.tables.exec = Jvm.exec ∧ c.code = code ∧ meth.sig.returnType = ret ∧ c.maxLocals = 4 ∧ s.vm.findClass R_law = some m.cls ∧ (∀ w ∈ lw_tbl, w.before #[Value.ref b] s = true) ∧ va_X b L xs s s.heap ∧ b < s.heap.size ∧ meth.locks = false ∧ (Jvm.Cond.and given_1 narrow_1).before #[Value.ref b] s = true
/-! THE LAW'S ENTRY: from the pure machine's run to the walk that the claim wants -/
def xLies (i : Int) : Int := if i = 0 then 10 else if i = 1 then 20 else if i = 2 then 31 else 10
def xWeighs (i : Int) : Int := if i = 2 then 30 else 11
def xMeets (i : Int) : Int := if i = 0 then 12 else if i = 1 then 21 else if i = 2 then 21 else 40
def xOf (L : Nat) (xs : Nat → Int32) : PX := fun e => if e = 0 then (L, fun i => (xs i.toNat).toInt) else if e = 1 then (4, xLies) else if e = 2 then (4, xWeighs) else (4, xMeets)
def S00 : SS := ([], fun _ _ => none)
def lawQ : PQ := fun r _ _ _ => r = some (pI 1)
theorem inst_any : ∀ a, a < 11 → LNs.any (fun e => e.2.2.1 == a) = true := by decide +kernel
theorem inst_ok (a : Nat) (ha : a < 11) : Cond.instantiable (rN a) (NF a) ∈ BIG := by
  obtain ⟨⟨e1, e2, e3, e4, e5, e6⟩, he, hq⟩ := List.any_eq_true.mp (inst_any a ha)
  rw [beq_iff_eq] at hq
  have := List.all_eq_true.mp LNs_ok _ he
  unfold ckN at this
  dsimp only at hq
  subst hq
  simp only [Bool.and_eq_true, decide_eq_true_eq] at this
  exact inT_big this.1.1.2
theorem nest_in {w : Cond} (h : w ∈ nestW) : w ∈ lw_tbl := (List.mem_filter.mp h).1
theorem big_in {w : Cond} (h : w ∈ BIG) : w ∈ lw_tbl := (List.mem_filter.mp h).1
theorem over_in : ∀ kd, kd = 15 ∨ kd = 16 ∨ kd = 17 → Cond.arrayOver (.object (arN kd)) ∈ lw_tbl := by
  rintro kd (rfl | rfl | rfl)
  · exact List.mem_of_getElem? (i := 101) (by decide +kernel)
  · exact List.mem_of_getElem? (i := 103) (by decide +kernel)
  · exact List.mem_of_getElem? (i := 105) (by decide +kernel)
theorem static_T {s : State} {b : Nat} (hgv : (Jvm.Cond.and given_1 narrow_1).before #[Value.ref b] s = true) (hts : ∀ w ∈ lw_tbl, w.before #[Value.ref b] s = true) (n : String) (f : Int → Int) (v0 v1 v2 v3 : Int32)
    (h0 : (Cond.eq (.elem (.static "CornerCurves" n "[I") (.int 0)) (.int v0)).before #[Value.ref b] s = true) (h1 : (Cond.eq (.elem (.static "CornerCurves" n "[I") (.int 1)) (.int v1)).before #[Value.ref b] s = true)
    (h2 : (Cond.eq (.elem (.static "CornerCurves" n "[I") (.int 2)) (.int v2)).before #[Value.ref b] s = true) (h3 : (Cond.eq (.elem (.static "CornerCurves" n "[I") (.int 3)) (.int v3)).before #[Value.ref b] s = true)
    (hl : (Cond.eq (.length (.static "CornerCurves" n "[I")) (.int 4)).before #[Value.ref b] s = true) (ha : (Cond.arrayOf (.static "CornerCurves" n "[I") .int).before #[Value.ref b] s = true) (hs : Cond.laysStatic "CornerCurves" n "[I" ∈ lw_tbl)
    (g0 : i3 (f 0) = v0) (g1 : i3 (f 1) = v1) (g2 : i3 (f 2) = v2) (g3 : i3 (f 3) = v3) :
    ∃ t : Nat, va_T .int t 4 (fun j => .int (i3 (f (j : Int)))) (fun q => s.heap.size ≤ q) s s.heap ∧ va_Z "CornerCurves" n "[I" (.ref t) (fun q => s.heap.size ≤ q) s s.heap := by
  have hA : ∀ a : Nat, a < s.heap.size → ¬ (fun q => s.heap.size ≤ q) a := fun a h => Nat.not_le.mpr h
  obtain ⟨t, e, hT⟩ := va_Tof (N := 4) (f := fun j => .int (i3 (f (j : Int)))) (A := fun q => s.heap.size ≤ q) (by decide) ha (va_eqt hl) (fun j hj => by
    match j, hj with
    | 0, _ => exact (va_eqt h0).trans (by rw [← g0]; rfl)
    | 1, _ => exact (va_eqt h1).trans (by rw [← g1]; rfl)
    | 2, _ => exact (va_eqt h2).trans (by rw [← g2]; rfl)
    | 3, _ => exact (va_eqt h3).trans (by rw [← g3]; rfl)
    | n + 4, h => exact absurd h (by omega)) hA
  exact ⟨t, hT, va_Zref (hts _ hs) (hts _ (big_in (LM_in (f := 77) (by decide)).2.1)) e hA⟩
set_option maxHeartbeats 8000000 in
set_option maxRecDepth 100000 in
theorem start_of_pure {p : Program} {e : Env} {s : State} {m : MethodId} {below : List Frame} {meth : Method} {c : Code} (l : Launch) {b L : Nat} {xs : Nat → Int32} (hL : L ≤ 3072) (C0 : lw_At p s m meth c b L xs)
    (hpure : Run (xOf L xs) 40 (MCode 214) 0 (entryL 4 [pR xbase]) [] S00 (fun _ _ => 0) (fun _ _ => 0) 221 7302249 lawQ) :
    W p l e room_1 s m #[Value.ref b] below meth c s.heap [] 0 0 (lw_Z below #[Value.ref b] s) (entryFrame m ([Value.ref b] : List Value).toArray 4) := by
  obtain ⟨hx, hb, hr, hml, hown, hts, hX, hbl, hlocks, hgv⟩ := id C0
  have htsB : ∀ w ∈ BIG, w.before #[Value.ref b] s = true := fun w hw => hts w (big_in hw)
  have hs := flat_of_before _ hgv
  have hA : ∀ a : Nat, a < s.heap.size → ¬ (fun q => s.heap.size ≤ q) a := fun a h => Nat.not_le.mpr h
  have hcls : ∀ k, ∃ q : ClassId × (Nat → Nat), k < 11 → u_Kn s (rN k) (TF k) (NF k) q.1 q.2 := fun k => by
    by_cases hk : k < 11
    · obtain ⟨cC, iS, h⟩ := u_known (ws := BIG) (C := rN k) (T := TF k) (N := NF k) (n := NF k) htsB (lay_ok k hk) (htsB _ (inst_ok k hk))
      exact ⟨(cC, iS), fun _ => h⟩
    · exact ⟨(default, fun _ => 0), fun z => absurd z hk⟩
  obtain ⟨D2, hD2⟩ := Classical.skolem.mp hcls
  obtain ⟨t1, hT1, hZ1⟩ := static_T hgv hts "LIES_BODY" xLies 10 20 31 10 (hs _ (by decide +kernel)) (hs _ (by decide +kernel)) (hs _ (by decide +kernel)) (hs _ (by decide +kernel)) (hs _ (by decide +kernel)) (hs _ (by decide +kernel)) (List.mem_of_getElem? (i := 865) (by decide +kernel)) rfl rfl rfl rfl
  obtain ⟨t2, hT2, hZ2⟩ := static_T hgv hts "WEIGHS_BODY" xWeighs 11 11 30 11 (hs _ (by decide +kernel)) (hs _ (by decide +kernel)) (hs _ (by decide +kernel)) (hs _ (by decide +kernel)) (hs _ (by decide +kernel)) (hs _ (by decide +kernel)) (List.mem_of_getElem? (i := 867) (by decide +kernel)) rfl rfl rfl rfl
  obtain ⟨t3, hT3, hZ3⟩ := static_T hgv hts "MEETS_BODY" xMeets 12 21 21 40 (hs _ (by decide +kernel)) (hs _ (by decide +kernel)) (hs _ (by decide +kernel)) (hs _ (by decide +kernel)) (hs _ (by decide +kernel)) (hs _ (by decide +kernel)) (List.mem_of_getElem? (i := 869) (by decide +kernel)) rfl rfl rfl rfl
  have hex : ∃ ex : Nat → Nat, ex 0 = b ∧ ex 1 = t1 ∧ ex 2 = t2 ∧ ex 3 = t3 := ⟨fun n => if n = 0 then b else if n = 1 then t1 else if n = 2 then t2 else t3, rfl, rfl, rfl, rfl⟩
  obtain ⟨ex, x0, x1, x2, x3⟩ := hex
  have hKN : KNO (fun k => (D2 k).1, fun k => (D2 k).2) ex (xOf L xs) s.heap.size s := by
    refine ⟨⟨fun k q hk => ?_, fun k q h => by simp at h⟩, fun e he => ?_, ?_, fun w hw => va_Nw.of (nest_onT w hw) (hts w (nest_in hw)), fun kd hk => va_AO.of (hts _ (over_in kd hk))⟩
    · have hlt : k < 11 := (List.getElem?_eq_some_iff.mp hk).1
      rw [vwCl_at k hlt] at hk
      cases hk
      exact hD2 k hlt
    · match e, he with
      | 0, _ =>
        rw [x0]
        obtain ⟨scr, q1, q2, q3, q4, q5⟩ := hX
        refine ⟨scr, q1, q2, q3, Nat.le_of_eq q4.symm, by rw [q4]; rfl, fun j hj => ?_, hA b hbl⟩
        rw [q5 j hj]
        show _ = some (Value.int (i3 ((xs (j : Int).toNat).toInt)))
        rw [i3_toI]; rfl
      | 1, _ => rw [x1]; exact hT1
      | 2, _ => rw [x2]; exact hT2
      | 3, _ => rw [x3]; exact hT3
      | n + 4, h => exact absurd h (by omega)
    · rintro a (rfl | rfl | rfl)
      · rw [x1]; exact hZ1
      · rw [x2]; exact hZ2
      · rw [x3]; exact hZ3
  have hlv := lv_entry ([.ref b]) (n := 4) (Nat.le_of_ble_eq_true rfl)
  rw [lg_entry_eq]
  generalize (lg_sl ([.ref b]) ++ List.replicate (4 - (lg_sl ([.ref b])).length) Slot.unset).toArray = jl at hlv ⊢
  have etv : [pR xbase].map (tv s.heap.size ex) = [Value.ref b] := by
    show [Value.ref (ad s.heap.size ex xbase)] = _
    rw [ad_ge (Nat.lt_irrefl _), Nat.sub_self, x0]
  have hLR := entry_LR s.heap.size ex 4 [pR xbase]
  rw [etv] at hLR
  have hP0 : va_P (fun k => (D2 k).1, fun k => (D2 k).2) vwCl (wlO s.heap.size ex (fun _ => default) S00 (fun _ _ => 0) (fun _ _ => 0)) s.heap := fun k q h => by
    rw [wlO_get] at h; simp [S00] at h
  have key := hpure (SPO l (fun k => (D2 k).1, fun k => (D2 k).2) s.heap.size ex 214 p e room_1 s m #[Value.ref b] below meth c 221 (lw_Z below #[Value.ref b] s))
    (sound_step (fun f' as S zI zL Q hf h => sound_all 40 f' as S zI zL Q hf h) (by decide) hx (hb.trans rfl) (hml.trans rfl) hown htsB (fun q => absurd q (by decide)) hKN (Nat.le_refl _) (by decide) (by decide) (by decide) ?_)
    s.heap [] 0 0 jl (fun _ => default) _ hP0 rfl (fun i kd n h => by simp [S00] at h) va_S.rf hlv hLR rfl (by decide) (by decide)
  · have hpc : (pcss.getD 214 []).getD 0 0 = 0 := pc_zero 214 (by decide)
    rw [hpc] at key
    exact key
  · intro r S zI zL H locs cells slots jl q i hq hW hS hc hsl hdec hret
    have hq : r = some (pI 1) := hq
    subst hq
    refine va_forget hS.2.2 (W.widen (k := 600000) (n := 7302249) (by subst hc; decide) hsl ?_)
    unfold retI at hret
    split at hret
    · rename_i x hxx
      cases hxx
      exact lw_ret hx hb hr hlocks hdec
    · rename_i hxx; cases hxx
    · rename_i hxx; cases hxx
    · rename_i hxx; cases hxx
    · exact hret.elim
end
section
section Rows2
variable {X : PX} {d : Nat} {C : List PI} {pc : Nat} {ls : List (Option PV)} {st : List PV} {S : SS} {zI zL : ZM} {mc ms : Nat} {Q : PQ} {nx a b : Nat} {c : Int}
theorem r_cV1 {t o : Nat} (h : C[pc]? = some (.invokevirtual t, nx, a, 1, c)) (hr : ob S o (RC a)) (hp : pcats st ≤ 8) (h1 : MC a = 0) (h2 : MS a = 0) (k : wpM X d a [pR o] S zI zL (fun r S' zI' zL' => Run X d C nx ls (r.toList ++ st) S' zI' zL' mc ms Q)) : Run X d C pc ls (pR o :: st) S zI zL mc ms Q := r_callV (as := [pR o]) (o := o) h rfl rfl rfl hr hp (by omega) (by omega) (by rw [h1, h2]; exact k)
theorem r_cS1 {t : Nat} {v1 : PV} (h : C[pc]? = some (.invokestatic t, nx, a, 1, c)) (hc : c ≠ 6) (hp : pcats st ≤ 8) (h1 : MC a = 0) (h2 : MS a = 0) (k : wpM X d a [v1] S zI zL (fun r S' zI' zL' => Run X d C nx ls (r.toList ++ st) S' zI' zL' mc ms Q)) : Run X d C pc ls (v1 :: st) S zI zL mc ms Q := r_callS (as := [v1]) h hc rfl rfl hp (by omega) (by omega) (by rw [h1, h2]; exact k)
theorem r_cV2 {t o : Nat} {v1 : PV} (h : C[pc]? = some (.invokevirtual t, nx, a, 2, c)) (hr : ob S o (RC a)) (hp : pcats st ≤ 8) (h1 : MC a = 0) (h2 : MS a = 0) (k : wpM X d a [pR o, v1] S zI zL (fun r S' zI' zL' => Run X d C nx ls (r.toList ++ st) S' zI' zL' mc ms Q)) : Run X d C pc ls (v1 :: pR o :: st) S zI zL mc ms Q := r_callV (as := [pR o, v1]) (o := o) h rfl rfl rfl hr hp (by omega) (by omega) (by rw [h1, h2]; exact k)
theorem r_cS2 {t : Nat} {v1 v2 : PV} (h : C[pc]? = some (.invokestatic t, nx, a, 2, c)) (hc : c ≠ 6) (hp : pcats st ≤ 8) (h1 : MC a = 0) (h2 : MS a = 0) (k : wpM X d a [v1, v2] S zI zL (fun r S' zI' zL' => Run X d C nx ls (r.toList ++ st) S' zI' zL' mc ms Q)) : Run X d C pc ls (v2 :: v1 :: st) S zI zL mc ms Q := r_callS (as := [v1, v2]) h hc rfl rfl hp (by omega) (by omega) (by rw [h1, h2]; exact k)
theorem r_cV3 {t o : Nat} {v1 v2 : PV} (h : C[pc]? = some (.invokevirtual t, nx, a, 3, c)) (hr : ob S o (RC a)) (hp : pcats st ≤ 8) (h1 : MC a = 0) (h2 : MS a = 0) (k : wpM X d a [pR o, v1, v2] S zI zL (fun r S' zI' zL' => Run X d C nx ls (r.toList ++ st) S' zI' zL' mc ms Q)) : Run X d C pc ls (v2 :: v1 :: pR o :: st) S zI zL mc ms Q := r_callV (as := [pR o, v1, v2]) (o := o) h rfl rfl rfl hr hp (by omega) (by omega) (by rw [h1, h2]; exact k)
theorem r_cS3 {t : Nat} {v1 v2 v3 : PV} (h : C[pc]? = some (.invokestatic t, nx, a, 3, c)) (hc : c ≠ 6) (hp : pcats st ≤ 8) (h1 : MC a = 0) (h2 : MS a = 0) (k : wpM X d a [v1, v2, v3] S zI zL (fun r S' zI' zL' => Run X d C nx ls (r.toList ++ st) S' zI' zL' mc ms Q)) : Run X d C pc ls (v3 :: v2 :: v1 :: st) S zI zL mc ms Q := r_callS (as := [v1, v2, v3]) h hc rfl rfl hp (by omega) (by omega) (by rw [h1, h2]; exact k)
theorem r_cV4 {t o : Nat} {v1 v2 v3 : PV} (h : C[pc]? = some (.invokevirtual t, nx, a, 4, c)) (hr : ob S o (RC a)) (hp : pcats st ≤ 8) (h1 : MC a = 0) (h2 : MS a = 0) (k : wpM X d a [pR o, v1, v2, v3] S zI zL (fun r S' zI' zL' => Run X d C nx ls (r.toList ++ st) S' zI' zL' mc ms Q)) : Run X d C pc ls (v3 :: v2 :: v1 :: pR o :: st) S zI zL mc ms Q := r_callV (as := [pR o, v1, v2, v3]) (o := o) h rfl rfl rfl hr hp (by omega) (by omega) (by rw [h1, h2]; exact k)
theorem r_cS4 {t : Nat} {v1 v2 v3 v4 : PV} (h : C[pc]? = some (.invokestatic t, nx, a, 4, c)) (hc : c ≠ 6) (hp : pcats st ≤ 8) (h1 : MC a = 0) (h2 : MS a = 0) (k : wpM X d a [v1, v2, v3, v4] S zI zL (fun r S' zI' zL' => Run X d C nx ls (r.toList ++ st) S' zI' zL' mc ms Q)) : Run X d C pc ls (v4 :: v3 :: v2 :: v1 :: st) S zI zL mc ms Q := r_callS (as := [v1, v2, v3, v4]) h hc rfl rfl hp (by omega) (by omega) (by rw [h1, h2]; exact k)
theorem r_cV5 {t o : Nat} {v1 v2 v3 v4 : PV} (h : C[pc]? = some (.invokevirtual t, nx, a, 5, c)) (hr : ob S o (RC a)) (hp : pcats st ≤ 8) (h1 : MC a = 0) (h2 : MS a = 0) (k : wpM X d a [pR o, v1, v2, v3, v4] S zI zL (fun r S' zI' zL' => Run X d C nx ls (r.toList ++ st) S' zI' zL' mc ms Q)) : Run X d C pc ls (v4 :: v3 :: v2 :: v1 :: pR o :: st) S zI zL mc ms Q := r_callV (as := [pR o, v1, v2, v3, v4]) (o := o) h rfl rfl rfl hr hp (by omega) (by omega) (by rw [h1, h2]; exact k)
theorem r_cS5 {t : Nat} {v1 v2 v3 v4 v5 : PV} (h : C[pc]? = some (.invokestatic t, nx, a, 5, c)) (hc : c ≠ 6) (hp : pcats st ≤ 8) (h1 : MC a = 0) (h2 : MS a = 0) (k : wpM X d a [v1, v2, v3, v4, v5] S zI zL (fun r S' zI' zL' => Run X d C nx ls (r.toList ++ st) S' zI' zL' mc ms Q)) : Run X d C pc ls (v5 :: v4 :: v3 :: v2 :: v1 :: st) S zI zL mc ms Q := r_callS (as := [v1, v2, v3, v4, v5]) h hc rfl rfl hp (by omega) (by omega) (by rw [h1, h2]; exact k)
theorem r_cV6 {t o : Nat} {v1 v2 v3 v4 v5 : PV} (h : C[pc]? = some (.invokevirtual t, nx, a, 6, c)) (hr : ob S o (RC a)) (hp : pcats st ≤ 8) (h1 : MC a = 0) (h2 : MS a = 0) (k : wpM X d a [pR o, v1, v2, v3, v4, v5] S zI zL (fun r S' zI' zL' => Run X d C nx ls (r.toList ++ st) S' zI' zL' mc ms Q)) : Run X d C pc ls (v5 :: v4 :: v3 :: v2 :: v1 :: pR o :: st) S zI zL mc ms Q := r_callV (as := [pR o, v1, v2, v3, v4, v5]) (o := o) h rfl rfl rfl hr hp (by omega) (by omega) (by rw [h1, h2]; exact k)
theorem r_cS6 {t : Nat} {v1 v2 v3 v4 v5 v6 : PV} (h : C[pc]? = some (.invokestatic t, nx, a, 6, c)) (hc : c ≠ 6) (hp : pcats st ≤ 8) (h1 : MC a = 0) (h2 : MS a = 0) (k : wpM X d a [v1, v2, v3, v4, v5, v6] S zI zL (fun r S' zI' zL' => Run X d C nx ls (r.toList ++ st) S' zI' zL' mc ms Q)) : Run X d C pc ls (v6 :: v5 :: v4 :: v3 :: v2 :: v1 :: st) S zI zL mc ms Q := r_callS (as := [v1, v2, v3, v4, v5, v6]) h hc rfl rfl hp (by omega) (by omega) (by rw [h1, h2]; exact k)
theorem r_cV7 {t o : Nat} {v1 v2 v3 v4 v5 v6 : PV} (h : C[pc]? = some (.invokevirtual t, nx, a, 7, c)) (hr : ob S o (RC a)) (hp : pcats st ≤ 8) (h1 : MC a = 0) (h2 : MS a = 0) (k : wpM X d a [pR o, v1, v2, v3, v4, v5, v6] S zI zL (fun r S' zI' zL' => Run X d C nx ls (r.toList ++ st) S' zI' zL' mc ms Q)) : Run X d C pc ls (v6 :: v5 :: v4 :: v3 :: v2 :: v1 :: pR o :: st) S zI zL mc ms Q := r_callV (as := [pR o, v1, v2, v3, v4, v5, v6]) (o := o) h rfl rfl rfl hr hp (by omega) (by omega) (by rw [h1, h2]; exact k)
theorem r_cS7 {t : Nat} {v1 v2 v3 v4 v5 v6 v7 : PV} (h : C[pc]? = some (.invokestatic t, nx, a, 7, c)) (hc : c ≠ 6) (hp : pcats st ≤ 8) (h1 : MC a = 0) (h2 : MS a = 0) (k : wpM X d a [v1, v2, v3, v4, v5, v6, v7] S zI zL (fun r S' zI' zL' => Run X d C nx ls (r.toList ++ st) S' zI' zL' mc ms Q)) : Run X d C pc ls (v7 :: v6 :: v5 :: v4 :: v3 :: v2 :: v1 :: st) S zI zL mc ms Q := r_callS (as := [v1, v2, v3, v4, v5, v6, v7]) h hc rfl rfl hp (by omega) (by omega) (by rw [h1, h2]; exact k)
end Rows2
end
section
abbrev fCrossing_init : Nat := 0
abbrev fCrossing_lay : Nat := 1
abbrev fCrossing_touches : Nat := 2
abbrev fCrossing_layEdges : Nat := 3
abbrev fCrossing_overlap : Nat := 4
abbrev fCrossing_beginsBefore : Nat := 5
abbrev fCrossing_holds : Nat := 6
abbrev fCrossing_note : Nat := 7
abbrev fCurve_init : Nat := 8
abbrev fCurve_draw : Nat := 9
abbrev fCurve_findStretch : Nat := 10
abbrev fCurve_raiseLow : Nat := 11
abbrev fCurve_bringDownHigh : Nat := 12
abbrev fCurve_addEdge : Nat := 13
abbrev fCurve_cornerOn : Nat := 14
abbrev fCurve_acrossI : Nat := 15
abbrev fCurve_acrossJ : Nat := 16
abbrev fCurve_level : Nat := 17
abbrev fCurve_isSmooth : Nat := 18
abbrev fCurve_weight : Nat := 19
abbrev fCurve_areaAt : Nat := 20
abbrev fCurve_countIdle : Nat := 21
abbrev fCurve_isIdle : Nat := 22
abbrev fCurve_countKind : Nat := 23
abbrev fCurve_kindOf : Nat := 24
abbrev fCurve_standsIn : Nat := 25
abbrev fCurve_directionX : Nat := 26
abbrev fCurve_directionY : Nat := 27
abbrev fCurve_countLeastAt : Nat := 28
abbrev fCurve_countEdgesAt : Nat := 29
abbrev fCurve_countRows : Nat := 30
abbrev fCurve_proofNumber : Nat := 31
abbrev fDraft_init : Nat := 32
abbrev fDraft_load : Nat := 33
abbrev fDraft_clear : Nat := 34
abbrev fDraft_putLeast : Nat := 35
abbrev fDraft_addUp : Nat := 36
abbrev fDraft_has : Nat := 37
abbrev fDraft_addTerm : Nat := 38
abbrev fDraft_fits : Nat := 39
abbrev fDraft_pour : Nat := 40
abbrev fDraft_shift : Nat := 41
abbrev fForm_init : Nat := 42
abbrev fForm_begin : Nat := 43
abbrev fForm_find : Nat := 44
abbrev fForm_put : Nat := 45
abbrev fForm_slide : Nat := 46
abbrev fForm_remove : Nat := 47
abbrev fForm_leastWorth : Nat := 48
abbrev fForm_worthOf : Nat := 49
abbrev fForm_countLeast : Nat := 50
abbrev fForm_isOfOneLetter : Nat := 51
abbrev fPoint_init : Nat := 52
abbrev fPoint_reduce : Nat := 53
abbrev fPoint_below : Nat := 54
abbrev fPoint_compareAlong : Nat := 55
abbrev fPoint_along : Nat := 56
abbrev fPoints_init : Nat := 57
abbrev fPoints_seek : Nat := 58
abbrev fPoints_compare : Nat := 59
abbrev fPoints_stands : Nat := 60
abbrev fPoints_insert : Nat := 61
abbrev fPoints_fetch : Nat := 62
abbrev fPoints_part : Nat := 63
abbrev fRing_init : Nat := 64
abbrev fRing_clear : Nat := 65
abbrev fRing_add : Nat := 66
abbrev fRing_area : Nat := 67
abbrev fRing_underChain : Nat := 68
abbrev fRing_turn : Nat := 69
abbrev fSheet_init : Nat := 70
abbrev fSheet_become : Nat := 71
abbrev fSheet_holds : Nat := 72
abbrev fTrace_init : Nat := 73
abbrev fTrace_bodyOf : Nat := 74
abbrev fTrace_begins : Nat := 75
abbrev fC_init : Nat := 76
abbrev fC_form : Nat := 77
abbrev fC_openForm : Nat := 78
abbrev fC_term : Nat := 79
abbrev fC_exists : Nat := 80
abbrev fC_within : Nat := 81
abbrev fC_take : Nat := 82
abbrev fC_findTerm : Nat := 83
abbrev fC_sum : Nat := 84
abbrev fC_openFrom : Nat := 85
abbrev fC_power : Nat := 86
abbrev fC_move : Nat := 87
abbrev fC_hide : Nat := 88
abbrev fC_isPrime : Nat := 89
abbrev fC_timesIn : Nat := 90
abbrev fC_drop : Nat := 91
abbrev fC_told : Nat := 92
abbrev fC_curveOf : Nat := 93
abbrev fC_commonDivisor : Nat := 94
abbrev fC_areaOf : Nat := 95
abbrev fC_number : Nat := 96
abbrev fC_worth : Nat := 97
abbrev fC_hasTerms : Nat := 98
abbrev fC_goTo : Nat := 99
abbrev fC_leastAt : Nat := 100
abbrev fC_idle : Nat := 101
abbrev fC_same : Nat := 102
abbrev fC_edge : Nat := 103
abbrev fC_end : Nat := 104
abbrev fC_corner : Nat := 105
abbrev fC_amount : Nat := 106
abbrev fC_meets : Nat := 107
abbrev fC_meet : Nat := 108
abbrev fC_root : Nat := 109
abbrev fC_write : Nat := 110
abbrev fC_row : Nat := 111
abbrev fC_forge : Nat := 112
abbrev fC_check : Nat := 113
abbrev fC_act : Nat := 114
abbrev fC_runBody : Nat := 115
abbrev fC_trace : Nat := 116
abbrev fC_count : Nat := 117
abbrev fC_sheet : Nat := 118
abbrev fC_cell : Nat := 119
abbrev fC_copy : Nat := 120
abbrev fC_taken : Nat := 121
abbrev fC_isUnder : Nat := 122
abbrev fM_init : Nat := 123
abbrev fM_form : Nat := 124
abbrev fM_term : Nat := 125
abbrev fM_is : Nat := 126
abbrev fM_in : Nat := 127
abbrev fM_termAt : Nat := 128
abbrev fM_insert : Nat := 129
abbrev fM_take : Nat := 130
abbrev fM_sum : Nat := 131
abbrev fM_spreadOut : Nat := 132
abbrev fM_addForm : Nat := 133
abbrev fM_gather : Nat := 134
abbrev fM_power : Nat := 135
abbrev fM_move : Nat := 136
abbrev fM_hide : Nat := 137
abbrev fM_timesIn : Nat := 138
abbrev fM_drop : Nat := 139
abbrev fM_worth : Nat := 140
abbrev fM_hasTerms : Nat := 141
abbrev fM_isPoint : Nat := 142
abbrev fM_standAt : Nat := 143
abbrev fM_lowest : Nat := 144
abbrev fM_divisor : Nat := 145
abbrev fM_leastOf : Nat := 146
abbrev fM_worthOf : Nat := 147
abbrev fM_leastAt : Nat := 148
abbrev fM_countLeast : Nat := 149
abbrev fM_told : Nat := 150
abbrev fM_areaOf : Nat := 151
abbrev fM_ringAdd : Nat := 152
abbrev fM_ringArea : Nat := 153
abbrev fM_turnOf : Nat := 154
abbrev fM_isFarther : Nat := 155
abbrev fM_idles : Nat := 156
abbrev fM_isIdle : Nat := 157
abbrev fM_isUnderTwo : Nat := 158
abbrev fM_across : Nat := 159
abbrev fM_isUnderThree : Nat := 160
abbrev fM_findCorners : Nat := 161
abbrev fM_findEdges : Nat := 162
abbrev fM_bounds : Nat := 163
abbrev fM_pointOf : Nat := 164
abbrev fM_keepCorner : Nat := 165
abbrev fM_compare : Nat := 166
abbrev fM_isSmooth : Nat := 167
abbrev fM_partArea : Nat := 168
abbrev fM_standAtCorner : Nat := 169
abbrev fM_kindOf : Nat := 170
abbrev fM_number : Nat := 171
abbrev fM_idle : Nat := 172
abbrev fM_same : Nat := 173
abbrev fM_isWithin : Nat := 174
abbrev fM_edge : Nat := 175
abbrev fM_end : Nat := 176
abbrev fM_corner : Nat := 177
abbrev fM_amount : Nat := 178
abbrev fM_meets : Nat := 179
abbrev fM_findMeets : Nat := 180
abbrev fM_isClear : Nat := 181
abbrev fM_keepEdges : Nat := 182
abbrev fM_isOneLine : Nat := 183
abbrev fM_standAtBoth : Nat := 184
abbrev fM_keepMeet : Nat := 185
abbrev fM_meet : Nat := 186
abbrev fM_root : Nat := 187
abbrev fM_write : Nat := 188
abbrev fM_prove : Nat := 189
abbrev fM_row : Nat := 190
abbrev fM_forge : Nat := 191
abbrev fM_check : Nat := 192
abbrev fM_act : Nat := 193
abbrev fM_liesOf : Nat := 194
abbrev fM_sumLies : Nat := 195
abbrev fM_body : Nat := 196
abbrev fM_formLies : Nat := 197
abbrev fM_weighsOf : Nat := 198
abbrev fM_formWeighs : Nat := 199
abbrev fM_meetsOf : Nat := 200
abbrev fM_formMeets : Nat := 201
abbrev fM_trace : Nat := 202
abbrev fM_count : Nat := 203
abbrev fM_sheet : Nat := 204
abbrev fM_cell : Nat := 205
abbrev fM_copy : Nat := 206
abbrev fM_taken : Nat := 207
abbrev fLong_compare : Nat := 208
abbrev fMath_min_II : Nat := 209
abbrev fMath_min_JJ : Nat := 210
abbrev fMath_abs : Nat := 211
abbrev fArrays_fill_AII : Nat := 212
abbrev fArrays_fill_AJJ : Nat := 213
abbrev fLaw_law : Nat := 214
theorem loop_up (P : Int → Prop) (n : Int) (step : ∀ k : Int, k ≤ n → (k < n → P (k + 1)) → P k) : ∀ k : Int, k ≤ n → P k := by
  have key : ∀ (m : Nat) (k : Int), k + m = n → P k := by
    intro m
    induction m with
    | zero => intro k hk; exact step k (by omega) (fun h => absurd h (by omega))
    | succ m ih => intro k hk; exact step k (by omega) (fun _ => ih (k + 1) (by omega))
  intro k hk
  exact key (n - k).toNat k (by omega)
theorem loop_dn (P : Int → Prop) (n : Int) (step : ∀ k : Int, n ≤ k → (n < k → P (k - 1)) → P k) : ∀ k : Int, n ≤ k → P k := by
  have key : ∀ (m : Nat) (k : Int), n + m = k → P k := by
    intro m
    induction m with
    | zero => intro k hk; exact step k (by omega) (fun h => absurd h (by omega))
    | succ m ih => intro k hk; exact step k (by omega) (fun _ => ih (k - 1) (by omega))
  intro k hk
  exact key (k - n).toNat k (by omega)
theorem w_within {X : PX} {d : Nat} {S : SS} {zI zL : ZM} {Q : PQ} {x a b : Int} (hx : inI x) (ha : inI a) (hb : inI b) (hQ : Q (some (pI (if a ≤ x ∧ x ≤ b then 1 else 0))) S zI zL) : wpM X (d + 1) fC_within [pI x, pI a, pI b] S zI zL Q := by
  refine wp_in (C := c_C_within) rfl rfl rfl rfl rfl ?_
  refine r_iload_n rfl rfl ?_
  refine r_iload_n rfl rfl ?_
  refine r_icmp_lt rfl hx ha (fun h2 => ?_) (fun h2 => ?_)
  · skip
    refine r_iconst rfl ?_
    refine r_zret rfl (by first | exact Or.inl rfl | exact Or.inr rfl) ?_
    rw [if_neg (by omega)] at hQ; exact hQ
  · skip
    refine r_iload_n rfl rfl ?_
    refine r_iload_n rfl rfl ?_
    refine r_icmp_gt rfl hx hb (fun h5 => ?_) (fun h5 => ?_)
    · skip
      refine r_iconst rfl ?_
      refine r_zret rfl (by first | exact Or.inl rfl | exact Or.inr rfl) ?_
      rw [if_neg (by omega)] at hQ; exact hQ
    · skip
      refine r_iconst rfl ?_
      refine r_goto rfl ?_
      refine r_zret rfl (by first | exact Or.inl rfl | exact Or.inr rfl) ?_
      rw [if_pos (by omega)] at hQ; exact hQ
theorem w_min {X : PX} {d : Nat} {S : SS} {zI zL : ZM} {Q : PQ} {a b : Int} (ha : inI a) (hb : inI b) (hQ : Q (some (pI (min a b))) S zI zL) : wpM X (d + 1) fMath_min_II [pI a, pI b] S zI zL Q := by
  refine wp_in (C := c_Math_min_II) rfl rfl rfl rfl rfl ?_
  refine r_iload_n rfl rfl ?_
  refine r_iload_n rfl rfl ?_
  refine r_icmp_gt rfl ha hb (fun h2 => ?_) (fun h2 => ?_)
  · skip
    refine r_iload_n rfl rfl ?_
    refine r_iret rfl ?_
    rw [show min a b = b by omega] at hQ; exact hQ
  · skip
    refine r_iload_n rfl rfl ?_
    refine r_goto rfl ?_
    refine r_iret rfl ?_
    rw [show min a b = a by omega] at hQ; exact hQ
theorem w_minL {X : PX} {d : Nat} {S : SS} {zI zL : ZM} {Q : PQ} {a b : Int} (ha : inL a) (hb : inL b) (hQ : Q (some (pL (min a b))) S zI zL) : wpM X (d + 1) fMath_min_JJ [pL a, pL b] S zI zL Q := by
  refine wp_in (C := c_Math_min_JJ) rfl rfl rfl rfl rfl ?_
  refine r_lload_n rfl rfl ?_
  refine r_lload_n rfl rfl ?_
  refine r_l_gt rfl rfl ha hb (fun h3 => ?_) (fun h3 => ?_)
  · skip
    refine r_lload_n rfl rfl ?_
    refine r_lret rfl ?_
    rw [show min a b = b by omega] at hQ; exact hQ
  · skip
    refine r_lload_n rfl rfl ?_
    refine r_goto rfl ?_
    refine r_lret rfl ?_
    rw [show min a b = a by omega] at hQ; exact hQ
theorem w_abs {X : PX} {d : Nat} {S : SS} {zI zL : ZM} {Q : PQ} {a : Int} (ha : inI a) (hQ : Q (some (pI (if 0 ≤ a then a else -a))) S zI zL) : wpM X (d + 1) fMath_abs [pI a] S zI zL Q := by
  refine wp_in (C := c_Math_abs) rfl rfl rfl rfl rfl ?_
  refine r_iload_n rfl rfl ?_
  refine r_if_ge rfl ha (fun h1 => ?_) (fun h1 => ?_)
  · skip
    refine r_iload_n rfl rfl ?_
    refine r_iret rfl ?_
    rw [if_pos (by omega)] at hQ; exact hQ
  · skip
    refine r_iload_n rfl rfl ?_
    refine r_ineg rfl ?_
    refine r_goto rfl ?_
    refine r_iret rfl ?_
    rw [if_neg (by omega)] at hQ; exact hQ
theorem w_lcompare {X : PX} {d : Nat} {S : SS} {zI zL : ZM} {Q : PQ} {a b : Int} (ha : inL a) (hb : inL b) (hQ : Q (some (pI (if a < b then -1 else if a = b then 0 else 1))) S zI zL) : wpM X (d + 1) fLong_compare [pL a, pL b] S zI zL Q := by
  refine wp_in (C := c_Long_compare) rfl rfl rfl rfl rfl ?_
  refine r_lload_n rfl rfl ?_
  refine r_lload_n rfl rfl ?_
  refine r_l_ge rfl rfl ha hb (fun h3 => ?_) (fun h3 => ?_)
  · skip
    refine r_lload_n rfl rfl ?_
    refine r_lload_n rfl rfl ?_
    refine r_l_ne rfl rfl ha hb (fun h9 => ?_) (fun h9 => ?_)
    · skip
      refine r_iconst rfl ?_
      refine r_iret rfl ?_
      rw [if_neg (by omega), if_neg (by omega)] at hQ; exact hQ
    · skip
      refine r_iconst rfl ?_
      refine r_goto rfl ?_
      refine r_iret rfl ?_
      rw [if_neg (by omega), if_pos (by omega)] at hQ; exact hQ
  · skip
    refine r_iconst rfl ?_
    refine r_goto rfl ?_
    refine r_iret rfl ?_
    rw [if_pos (by omega)] at hQ; exact hQ
/-- the first n places of a row all v -/
def zfill (z : ZM) (h : Nat) (n v : Int) : ZM := fun c k => if c = h ∧ 0 ≤ k ∧ k < n then v else z c k
theorem zfill_0 (z : ZM) (h : Nat) (v : Int) : zfill z h 0 v = z := by funext c k; unfold zfill; rw [if_neg (by omega)]
theorem zfill_s (z : ZM) (h : Nat) {n : Int} (v : Int) (hn : 0 ≤ n) : zput (zfill z h n v) h n v = zfill z h (n + 1) v := by
  funext c k
  unfold zput zfill
  by_cases h1 : c = h ∧ k = n
  · rw [if_pos h1, if_pos (by omega)]
  · rw [if_neg h1]
    by_cases h2 : c = h ∧ 0 ≤ k ∧ k < n
    · rw [if_pos h2, if_pos (by omega)]
    · rw [if_neg h2, if_neg (by omega)]
theorem w_fillI {X : PX} {d : Nat} {S : SS} {zI zL : ZM} {Q : PQ} {h n : Nat} {v : Int} (hr : row S 12 h n) (hQ : Q none S (zfill zI h n v) zL) : wpM X (d + 1) fArrays_fill_AII [pR h, pI v] S zI zL Q := by
  have hn : n ≤ 10000 := hr.2.1
  have key : ∀ k : Int, k ≤ n → 0 ≤ k → Run X d c_Arrays_fill_AII 5 [some (pR h), some (pI v), some (pI k), some (pI n)] [] S (zfill zI h k v) zL 0 0 Q := by
    refine loop_up _ n (fun k hk ih h0 => ?_)
    refine r_iload_n rfl rfl ?_
    refine r_iload_n rfl rfl ?_
    refine r_icmp_ge rfl (by unfold inI; omega) (by unfold inI; omega) (fun h7 => ?_) (fun h7 => ?_)
    · skip
      refine r_ret rfl ?_
      rw [show k = (n : Int) by omega]; exact hQ
    · skip
      refine r_aload_n rfl rfl ?_
      refine r_iload_n rfl rfl ?_
      refine r_iload_n rfl rfl ?_
      refine r_iast rfl hr (by omega) (by omega) ?_
      refine r_iinc rfl rfl ?_
      refine r_goto rfl ?_
      have := ih (by omega) (by omega)
      rw [← zfill_s _ h v h0] at this
      exact this
  refine wp_in (C := c_Arrays_fill_AII) rfl rfl rfl rfl rfl ?_
  refine r_iconst rfl ?_
  refine r_istore_n rfl (Nat.le_of_ble_eq_true rfl) ?_
  refine r_aload_n rfl rfl ?_
  refine r_alen rfl hr (by decide) ?_
  refine r_istore_n rfl (Nat.le_of_ble_eq_true rfl) ?_
  have := key 0 (by omega) (by omega)
  rw [zfill_0] at this
  exact this
theorem w_fillJ {X : PX} {d : Nat} {S : SS} {zI zL : ZM} {Q : PQ} {h n : Nat} {v : Int} (hr : row S 13 h n) (hQ : Q none S zI (zfill zL h n v)) : wpM X (d + 1) fArrays_fill_AJJ [pR h, pL v] S zI zL Q := by
  have hn : n ≤ 10000 := hr.2.1
  have key : ∀ k : Int, k ≤ n → 0 ≤ k → Run X d c_Arrays_fill_AJJ 5 [some (pR h), some (pL v), none, some (pI k), some (pI n)] [] S zI (zfill zL h k v) 0 0 Q := by
    refine loop_up _ n (fun k hk ih h0 => ?_)
    refine r_iload_n rfl rfl ?_
    refine r_iload rfl rfl ?_
    refine r_icmp_ge rfl (by unfold inI; omega) (by unfold inI; omega) (fun h7 => ?_) (fun h7 => ?_)
    · skip
      refine r_ret rfl ?_
      rw [show k = (n : Int) by omega]; exact hQ
    · skip
      refine r_aload_n rfl rfl ?_
      refine r_iload_n rfl rfl ?_
      refine r_lload_n rfl rfl ?_
      refine r_last rfl hr (by omega) (by omega) ?_
      refine r_iinc rfl rfl ?_
      refine r_goto rfl ?_
      have := ih (by omega) (by omega)
      rw [← zfill_s _ h v h0] at this
      exact this
  refine wp_in (C := c_Arrays_fill_AJJ) rfl rfl rfl rfl rfl ?_
  refine r_iconst rfl ?_
  refine r_istore_n rfl (Nat.le_of_ble_eq_true rfl) ?_
  refine r_aload_n rfl rfl ?_
  refine r_alen rfl hr (by decide) ?_
  refine r_istore rfl (Nat.le_of_ble_eq_true rfl) ?_
  have := key 0 (by omega) (by omega)
  rw [zfill_0] at this
  exact this
end
section
/-! WHAT THE CONSTRUCTORS LEAVE: which cell is what (cell 0 the object, 184 the reference), and who refers to whom -/
def M0 : List (Nat × Nat) := [(9, 0), (15, 10), (16, 10), (17, 4), (13, 756), (6, 0), (12, 81), (12, 81), (12, 81), (2, 0), (12, 81), (2, 0), (12, 81), (0, 0), (5, 0), (13, 128), (13, 128), (13, 128), (13, 128), (12, 128), (4, 0), (4, 0), (4, 0), (4, 0), (8, 0), (12, 40), (3, 0), (12, 40), (12, 40), (12, 40), (1, 0), (4, 0), (5, 0), (13, 75), (13, 75), (13, 75), (13, 75), (12, 114), (12, 114), (12, 114), (12, 114), (3, 0), (12, 40), (12, 40), (12, 40), (1, 0), (4, 0), (5, 0), (13, 75), (13, 75), (13, 75), (13, 75), (12, 114), (12, 114), (12, 114), (12, 114), (3, 0), (12, 40), (12, 40), (12, 40), (1, 0), (4, 0), (5, 0), (13, 75), (13, 75), (13, 75), (13, 75), (12, 114), (12, 114), (12, 114), (12, 114), (3, 0), (12, 40), (12, 40), (12, 40), (1, 0), (4, 0), (5, 0), (13, 75), (13, 75), (13, 75), (13, 75), (12, 114), (12, 114), (12, 114), (12, 114), (3, 0), (12, 40), (12, 40), (12, 40), (1, 0), (4, 0), (5, 0), (13, 75), (13, 75), (13, 75), (13, 75), (12, 114), (12, 114), (12, 114), (12, 114), (3, 0), (12, 40), (12, 40), (12, 40), (1, 0), (4, 0), (5, 0), (13, 75), (13, 75), (13, 75), (13, 75), (12, 114), (12, 114), (12, 114), (12, 114), (3, 0), (12, 40), (12, 40), (12, 40), (1, 0), (4, 0), (5, 0), (13, 75), (13, 75), (13, 75), (13, 75), (12, 114), (12, 114), (12, 114), (12, 114), (3, 0), (12, 40), (12, 40), (12, 40), (1, 0), (4, 0), (5, 0), (13, 75), (13, 75), (13, 75), (13, 75), (12, 114), (12, 114), (12, 114), (12, 114), (3, 0), (12, 40), (12, 40), (12, 40), (1, 0), (4, 0), (5, 0), (13, 75), (13, 75), (13, 75), (13, 75), (12, 114), (12, 114), (12, 114), (12, 114), (3, 0), (12, 40), (12, 40), (12, 40), (1, 0), (4, 0), (5, 0), (13, 75), (13, 75), (13, 75), (13, 75), (12, 114), (12, 114), (12, 114), (12, 114), (7, 0), (13, 40), (7, 0), (13, 40), (7, 0), (13, 40), (7, 0), (13, 40), (10, 0), (12, 11), (12, 11), (12, 440), (12, 440), (12, 440), (12, 81), (12, 81), (14, 81), (14, 81), (12, 1700), (12, 1700), (12, 780), (12, 780), (12, 780), (12, 780), (12, 780), (14, 780), (14, 780), (13, 6240), (13, 6240), (12, 1560), (12, 780), (12, 780), (12, 780), (12, 780), (12, 780), (14, 780), (13, 3200), (12, 800), (13, 10000), (13, 10000), (12, 40), (12, 4), (12, 4), (12, 160), (12, 40)]
def RT : List (Nat × Int × Nat) := [(0, 0, 1), (0, 1, 2), (0, 2, 3), (0, 3, 4), (0, 4, 5), (0, 5, 9), (0, 6, 11), (0, 7, 13), (0, 8, 23), (0, 9, 24), (1, 0, 26), (1, 1, 41), (1, 2, 56), (1, 3, 71), (1, 4, 86), (1, 5, 101), (1, 6, 116), (1, 7, 131), (1, 8, 146), (1, 9, 161), (2, 0, 30), (2, 1, 45), (2, 2, 60), (2, 3, 75), (2, 4, 90), (2, 5, 105), (2, 6, 120), (2, 7, 135), (2, 8, 150), (2, 9, 165), (3, 0, 176), (3, 1, 178), (3, 2, 180), (3, 3, 182), (5, 0, 6), (5, 1, 7), (5, 2, 8), (9, 0, 10), (11, 0, 12), (13, 0, 14), (13, 1, 19), (13, 2, 20), (13, 3, 21), (13, 4, 22), (14, 0, 15), (14, 1, 16), (14, 2, 17), (14, 3, 18), (24, 0, 25), (26, 0, 27), (26, 1, 28), (26, 2, 29), (30, 0, 26), (30, 1, 5), (30, 2, 31), (30, 3, 32), (30, 4, 37), (30, 5, 38), (30, 6, 39), (30, 7, 40), (32, 0, 33), (32, 1, 34), (32, 2, 35), (32, 3, 36), (41, 0, 42), (41, 1, 43), (41, 2, 44), (45, 0, 41), (45, 1, 5), (45, 2, 46), (45, 3, 47), (45, 4, 52), (45, 5, 53), (45, 6, 54), (45, 7, 55), (47, 0, 48), (47, 1, 49), (47, 2, 50), (47, 3, 51), (56, 0, 57), (56, 1, 58), (56, 2, 59), (60, 0, 56), (60, 1, 5), (60, 2, 61), (60, 3, 62), (60, 4, 67), (60, 5, 68), (60, 6, 69), (60, 7, 70), (62, 0, 63), (62, 1, 64), (62, 2, 65), (62, 3, 66), (71, 0, 72), (71, 1, 73), (71, 2, 74), (75, 0, 71), (75, 1, 5), (75, 2, 76), (75, 3, 77), (75, 4, 82), (75, 5, 83), (75, 6, 84), (75, 7, 85), (77, 0, 78), (77, 1, 79), (77, 2, 80), (77, 3, 81), (86, 0, 87), (86, 1, 88), (86, 2, 89), (90, 0, 86), (90, 1, 5), (90, 2, 91), (90, 3, 92), (90, 4, 97), (90, 5, 98), (90, 6, 99), (90, 7, 100), (92, 0, 93), (92, 1, 94), (92, 2, 95), (92, 3, 96), (101, 0, 102), (101, 1, 103), (101, 2, 104), (105, 0, 101), (105, 1, 5), (105, 2, 106), (105, 3, 107), (105, 4, 112), (105, 5, 113), (105, 6, 114), (105, 7, 115), (107, 0, 108), (107, 1, 109), (107, 2, 110), (107, 3, 111), (116, 0, 117), (116, 1, 118), (116, 2, 119), (120, 0, 116), (120, 1, 5), (120, 2, 121), (120, 3, 122), (120, 4, 127), (120, 5, 128), (120, 6, 129), (120, 7, 130), (122, 0, 123), (122, 1, 124), (122, 2, 125), (122, 3, 126), (131, 0, 132), (131, 1, 133), (131, 2, 134), (135, 0, 131), (135, 1, 5), (135, 2, 136), (135, 3, 137), (135, 4, 142), (135, 5, 143), (135, 6, 144), (135, 7, 145), (137, 0, 138), (137, 1, 139), (137, 2, 140), (137, 3, 141), (146, 0, 147), (146, 1, 148), (146, 2, 149), (150, 0, 146), (150, 1, 5), (150, 2, 151), (150, 3, 152), (150, 4, 157), (150, 5, 158), (150, 6, 159), (150, 7, 160), (152, 0, 153), (152, 1, 154), (152, 2, 155), (152, 3, 156), (161, 0, 162), (161, 1, 163), (161, 2, 164), (165, 0, 161), (165, 1, 5), (165, 2, 166), (165, 3, 167), (165, 4, 172), (165, 5, 173), (165, 6, 174), (165, 7, 175), (167, 0, 168), (167, 1, 169), (167, 2, 170), (167, 3, 171), (176, 0, 177), (178, 0, 179), (180, 0, 181), (182, 0, 183), (184, 1, 185), (184, 2, 186), (184, 3, 187), (184, 4, 188), (184, 5, 189), (184, 6, 190), (184, 7, 191), (184, 8, 192), (184, 9, 193), (184, 15, 194), (184, 16, 195), (184, 19, 196), (184, 20, 197), (184, 21, 198), (184, 22, 199), (184, 23, 200), (184, 24, 201), (184, 25, 202), (184, 26, 203), (184, 34, 204), (184, 35, 205), (184, 37, 206), (184, 38, 207), (184, 39, 208), (184, 40, 209), (184, 41, 210), (184, 42, 211), (184, 44, 212), (184, 45, 213), (184, 46, 214), (184, 47, 215), (184, 49, 216), (184, 51, 217), (184, 52, 218), (184, 53, 219), (184, 54, 220)]
def Sk (S : SS) : Prop := S.1 = M0 ∧ ∀ e ∈ RT, S.2 e.1 e.2.1 = some e.2.2
theorem M0_lt {c : Nat} {m : Nat × Nat} (h : M0[c]? = some m) : c < xbase := by
  have h1 := (List.getElem?_eq_some_iff.mp h).1
  have h2 : M0.length = 221 := by decide +kernel
  unfold xbase; omega
theorem M0_all : ∀ m ∈ M0, m.2 ≤ 10000 := by decide +kernel
theorem sk_ob {S : SS} (h : Sk S) {c a : Nat} (hc : M0[c]? = some (a, 0)) : ob S c a := ⟨by rw [h.1]; exact hc, M0_lt hc⟩
theorem sk_row {S : SS} (h : Sk S) {c kd n : Nat} (hc : M0[c]? = some (kd, n)) : row S kd c n := ⟨by rw [h.1]; exact hc, M0_all _ (List.mem_of_getElem? hc), M0_lt hc⟩
theorem sk_ref {S : SS} (h : Sk S) {c v : Nat} {k : Int} (i : Nat) (hi : RT[i]? = some (c, k, v)) : S.2 c k = some v := h.2 _ (List.mem_of_getElem? hi)
/-- a form's cells: it at h, its three rows behind it -/
def isForm (S : SS) (h : Nat) : Prop := ob S h 3 ∧ (row S 12 (h + 1) 40 ∧ row S 12 (h + 2) 40 ∧ row S 12 (h + 3) 40) ∧ S.2 h 0 = some (h + 1) ∧ S.2 h 1 = some (h + 2) ∧ S.2 h 2 = some (h + 3)
def isPoint (S : SS) (h : Nat) : Prop := ob S h 4
def isPoints (S : SS) (h n : Nat) : Prop := ob S h 5 ∧ (row S 13 (h + 1) n ∧ row S 13 (h + 2) n ∧ row S 13 (h + 3) n ∧ row S 13 (h + 4) n) ∧ S.2 h 0 = some (h + 1) ∧ S.2 h 1 = some (h + 2) ∧ S.2 h 2 = some (h + 3) ∧ S.2 h 3 = some (h + 4)
/-- a curve's cells: its form four ahead, the ring at 5 -/
def isCurve (S : SS) (h : Nat) : Prop := ob S (h + 4) 1 ∧ isForm S h ∧ isPoint S (h + 5) ∧ isPoints S (h + 6) 75 ∧ (row S 12 (h + 11) 114 ∧ row S 12 (h + 12) 114 ∧ row S 12 (h + 13) 114 ∧ row S 12 (h + 14) 114) ∧
  (S.2 (h + 4) 0 = some h ∧ S.2 (h + 4) 1 = some 5 ∧ S.2 (h + 4) 2 = some (h + 5) ∧ S.2 (h + 4) 3 = some (h + 6)) ∧ S.2 (h + 4) 4 = some (h + 11) ∧ S.2 (h + 4) 5 = some (h + 12) ∧ S.2 (h + 4) 6 = some (h + 13) ∧ S.2 (h + 4) 7 = some (h + 14)
def isSheet (S : SS) (h : Nat) : Prop := ob S h 7 ∧ row S 13 (h + 1) 40 ∧ S.2 h 0 = some (h + 1)
/-- the cell of form k -/
def fO (k : Nat) : Nat := 26 + 15 * k
theorem sk_refm {S : SS} (h : Sk S) {c v : Nat} {k : Int} (hi : (c, k, v) ∈ RT) : S.2 c k = some v := h.2 _ hi
theorem tb_form_0 : ∀ k : Nat, k < 10 → M0[26 + 15 * k]? = some (3, 0) := by decide +kernel
theorem tb_form_1 : ∀ k : Nat, k < 10 → M0[26 + 15 * k + 1]? = some (12, 40) := by decide +kernel
theorem tb_form_2 : ∀ k : Nat, k < 10 → M0[26 + 15 * k + 2]? = some (12, 40) := by decide +kernel
theorem tb_form_3 : ∀ k : Nat, k < 10 → M0[26 + 15 * k + 3]? = some (12, 40) := by decide +kernel
theorem tb_form_4 : ∀ k : Nat, k < 10 → ((26 + 15 * k, (0 : Int), 26 + 15 * k + 1) : Nat × Int × Nat) ∈ RT := by decide +kernel
theorem tb_form_5 : ∀ k : Nat, k < 10 → ((26 + 15 * k, (1 : Int), 26 + 15 * k + 2) : Nat × Int × Nat) ∈ RT := by decide +kernel
theorem tb_form_6 : ∀ k : Nat, k < 10 → ((26 + 15 * k, (2 : Int), 26 + 15 * k + 3) : Nat × Int × Nat) ∈ RT := by decide +kernel
theorem tb_form : ∀ k : Nat, k < 10 → (M0[26 + 15 * k]? = some (3, 0) ∧ M0[26 + 15 * k + 1]? = some (12, 40) ∧ M0[26 + 15 * k + 2]? = some (12, 40) ∧ M0[26 + 15 * k + 3]? = some (12, 40) ∧ ((26 + 15 * k, (0 : Int), 26 + 15 * k + 1) : Nat × Int × Nat) ∈ RT ∧ ((26 + 15 * k, (1 : Int), 26 + 15 * k + 2) : Nat × Int × Nat) ∈ RT ∧ ((26 + 15 * k, (2 : Int), 26 + 15 * k + 3) : Nat × Int × Nat) ∈ RT) := fun k h => ⟨tb_form_0 k h, tb_form_1 k h, tb_form_2 k h, tb_form_3 k h, tb_form_4 k h, tb_form_5 k h, tb_form_6 k h⟩
theorem tb_curve_0 : ∀ k : Nat, k < 10 → M0[26 + 15 * k + 4]? = some (1, 0) := by decide +kernel
theorem tb_curve_1 : ∀ k : Nat, k < 10 → M0[26 + 15 * k + 5]? = some (4, 0) := by decide +kernel
theorem tb_curve_2 : ∀ k : Nat, k < 10 → M0[26 + 15 * k + 6]? = some (5, 0) := by decide +kernel
theorem tb_curve_3 : ∀ k : Nat, k < 10 → M0[26 + 15 * k + 7]? = some (13, 75) := by decide +kernel
theorem tb_curve_4 : ∀ k : Nat, k < 10 → M0[26 + 15 * k + 8]? = some (13, 75) := by decide +kernel
theorem tb_curve_5 : ∀ k : Nat, k < 10 → M0[26 + 15 * k + 9]? = some (13, 75) := by decide +kernel
theorem tb_curve_6 : ∀ k : Nat, k < 10 → M0[26 + 15 * k + 10]? = some (13, 75) := by decide +kernel
theorem tb_curve_7 : ∀ k : Nat, k < 10 → M0[26 + 15 * k + 11]? = some (12, 114) := by decide +kernel
theorem tb_curve_8 : ∀ k : Nat, k < 10 → M0[26 + 15 * k + 12]? = some (12, 114) := by decide +kernel
theorem tb_curve_9 : ∀ k : Nat, k < 10 → M0[26 + 15 * k + 13]? = some (12, 114) := by decide +kernel
theorem tb_curve_10 : ∀ k : Nat, k < 10 → M0[26 + 15 * k + 14]? = some (12, 114) := by decide +kernel
theorem tb_curve : ∀ k : Nat, k < 10 → (M0[26 + 15 * k + 4]? = some (1, 0) ∧ M0[26 + 15 * k + 5]? = some (4, 0) ∧ M0[26 + 15 * k + 6]? = some (5, 0) ∧ M0[26 + 15 * k + 7]? = some (13, 75) ∧ M0[26 + 15 * k + 8]? = some (13, 75) ∧ M0[26 + 15 * k + 9]? = some (13, 75) ∧ M0[26 + 15 * k + 10]? = some (13, 75) ∧ M0[26 + 15 * k + 11]? = some (12, 114) ∧ M0[26 + 15 * k + 12]? = some (12, 114) ∧ M0[26 + 15 * k + 13]? = some (12, 114) ∧ M0[26 + 15 * k + 14]? = some (12, 114)) := fun k h => ⟨tb_curve_0 k h, tb_curve_1 k h, tb_curve_2 k h, tb_curve_3 k h, tb_curve_4 k h, tb_curve_5 k h, tb_curve_6 k h, tb_curve_7 k h, tb_curve_8 k h, tb_curve_9 k h, tb_curve_10 k h⟩
theorem tb_curve2_0 : ∀ k : Nat, k < 10 → ((26 + 15 * k + 4, (0 : Int), 26 + 15 * k) : Nat × Int × Nat) ∈ RT := by decide +kernel
theorem tb_curve2_1 : ∀ k : Nat, k < 10 → ((26 + 15 * k + 4, (1 : Int), 5) : Nat × Int × Nat) ∈ RT := by decide +kernel
theorem tb_curve2_2 : ∀ k : Nat, k < 10 → ((26 + 15 * k + 4, (2 : Int), 26 + 15 * k + 5) : Nat × Int × Nat) ∈ RT := by decide +kernel
theorem tb_curve2_3 : ∀ k : Nat, k < 10 → ((26 + 15 * k + 4, (3 : Int), 26 + 15 * k + 6) : Nat × Int × Nat) ∈ RT := by decide +kernel
theorem tb_curve2_4 : ∀ k : Nat, k < 10 → ((26 + 15 * k + 4, (4 : Int), 26 + 15 * k + 11) : Nat × Int × Nat) ∈ RT := by decide +kernel
theorem tb_curve2_5 : ∀ k : Nat, k < 10 → ((26 + 15 * k + 4, (5 : Int), 26 + 15 * k + 12) : Nat × Int × Nat) ∈ RT := by decide +kernel
theorem tb_curve2_6 : ∀ k : Nat, k < 10 → ((26 + 15 * k + 4, (6 : Int), 26 + 15 * k + 13) : Nat × Int × Nat) ∈ RT := by decide +kernel
theorem tb_curve2_7 : ∀ k : Nat, k < 10 → ((26 + 15 * k + 4, (7 : Int), 26 + 15 * k + 14) : Nat × Int × Nat) ∈ RT := by decide +kernel
theorem tb_curve2_8 : ∀ k : Nat, k < 10 → ((26 + 15 * k + 6, (0 : Int), 26 + 15 * k + 7) : Nat × Int × Nat) ∈ RT := by decide +kernel
theorem tb_curve2_9 : ∀ k : Nat, k < 10 → ((26 + 15 * k + 6, (1 : Int), 26 + 15 * k + 8) : Nat × Int × Nat) ∈ RT := by decide +kernel
theorem tb_curve2_10 : ∀ k : Nat, k < 10 → ((26 + 15 * k + 6, (2 : Int), 26 + 15 * k + 9) : Nat × Int × Nat) ∈ RT := by decide +kernel
theorem tb_curve2_11 : ∀ k : Nat, k < 10 → ((26 + 15 * k + 6, (3 : Int), 26 + 15 * k + 10) : Nat × Int × Nat) ∈ RT := by decide +kernel
theorem tb_curve2 : ∀ k : Nat, k < 10 → (((26 + 15 * k + 4, (0 : Int), 26 + 15 * k) : Nat × Int × Nat) ∈ RT ∧ ((26 + 15 * k + 4, (1 : Int), 5) : Nat × Int × Nat) ∈ RT ∧ ((26 + 15 * k + 4, (2 : Int), 26 + 15 * k + 5) : Nat × Int × Nat) ∈ RT ∧ ((26 + 15 * k + 4, (3 : Int), 26 + 15 * k + 6) : Nat × Int × Nat) ∈ RT ∧ ((26 + 15 * k + 4, (4 : Int), 26 + 15 * k + 11) : Nat × Int × Nat) ∈ RT ∧ ((26 + 15 * k + 4, (5 : Int), 26 + 15 * k + 12) : Nat × Int × Nat) ∈ RT ∧ ((26 + 15 * k + 4, (6 : Int), 26 + 15 * k + 13) : Nat × Int × Nat) ∈ RT ∧ ((26 + 15 * k + 4, (7 : Int), 26 + 15 * k + 14) : Nat × Int × Nat) ∈ RT ∧ ((26 + 15 * k + 6, (0 : Int), 26 + 15 * k + 7) : Nat × Int × Nat) ∈ RT ∧ ((26 + 15 * k + 6, (1 : Int), 26 + 15 * k + 8) : Nat × Int × Nat) ∈ RT ∧ ((26 + 15 * k + 6, (2 : Int), 26 + 15 * k + 9) : Nat × Int × Nat) ∈ RT ∧ ((26 + 15 * k + 6, (3 : Int), 26 + 15 * k + 10) : Nat × Int × Nat) ∈ RT) := fun k h => ⟨tb_curve2_0 k h, tb_curve2_1 k h, tb_curve2_2 k h, tb_curve2_3 k h, tb_curve2_4 k h, tb_curve2_5 k h, tb_curve2_6 k h, tb_curve2_7 k h, tb_curve2_8 k h, tb_curve2_9 k h, tb_curve2_10 k h, tb_curve2_11 k h⟩
theorem tb_top_0 : ∀ k : Nat, k < 10 → ((1, (k : Int), 26 + 15 * k) : Nat × Int × Nat) ∈ RT := by decide +kernel
theorem tb_top_1 : ∀ k : Nat, k < 10 → ((2, (k : Int), 26 + 15 * k + 4) : Nat × Int × Nat) ∈ RT := by decide +kernel
theorem tb_top : ∀ k : Nat, k < 10 → (((1, (k : Int), 26 + 15 * k) : Nat × Int × Nat) ∈ RT ∧ ((2, (k : Int), 26 + 15 * k + 4) : Nat × Int × Nat) ∈ RT) := fun k h => ⟨tb_top_0 k h, tb_top_1 k h⟩
theorem tb_sheet_0 : ∀ k : Nat, k < 4 → M0[176 + 2 * k]? = some (7, 0) := by decide +kernel
theorem tb_sheet_1 : ∀ k : Nat, k < 4 → M0[176 + 2 * k + 1]? = some (13, 40) := by decide +kernel
theorem tb_sheet_2 : ∀ k : Nat, k < 4 → ((176 + 2 * k, (0 : Int), 176 + 2 * k + 1) : Nat × Int × Nat) ∈ RT := by decide +kernel
theorem tb_sheet_3 : ∀ k : Nat, k < 4 → ((3, (k : Int), 176 + 2 * k) : Nat × Int × Nat) ∈ RT := by decide +kernel
theorem tb_sheet : ∀ k : Nat, k < 4 → (M0[176 + 2 * k]? = some (7, 0) ∧ M0[176 + 2 * k + 1]? = some (13, 40) ∧ ((176 + 2 * k, (0 : Int), 176 + 2 * k + 1) : Nat × Int × Nat) ∈ RT ∧ ((3, (k : Int), 176 + 2 * k) : Nat × Int × Nat) ∈ RT) := fun k h => ⟨tb_sheet_0 k h, tb_sheet_1 k h, tb_sheet_2 k h, tb_sheet_3 k h⟩
theorem sk_form {S : SS} (h : Sk S) {k : Nat} (hk : k < 10) : isForm S (fO k) := by
  obtain ⟨h1, h2, h3, h4, h5, h6, h7⟩ := tb_form k hk
  exact ⟨sk_ob h h1, ⟨sk_row h h2, sk_row h h3, sk_row h h4⟩, sk_refm h h5, sk_refm h h6, sk_refm h h7⟩
theorem sk_curve {S : SS} (h : Sk S) {k : Nat} (hk : k < 10) : isCurve S (fO k) := by
  obtain ⟨h1, h2, h3, h4, h5, h6, h7, h8, h9, h10, h11⟩ := tb_curve k hk
  obtain ⟨g1, g2, g3, g4, g5, g6, g7, g8, g9, g10, g11, g12⟩ := tb_curve2 k hk
  exact ⟨sk_ob h h1, sk_form h hk, sk_ob h h2, ⟨sk_ob h h3, ⟨sk_row h h4, sk_row h h5, sk_row h h6, sk_row h h7⟩, sk_refm h g9, sk_refm h g10, sk_refm h g11, sk_refm h g12⟩, ⟨sk_row h h8, sk_row h h9, sk_row h h10, sk_row h h11⟩, ⟨sk_refm h g1, sk_refm h g2, sk_refm h g3, sk_refm h g4⟩, sk_refm h g5, sk_refm h g6, sk_refm h g7, sk_refm h g8⟩
theorem sk_forms {S : SS} (h : Sk S) {k : Nat} (hk : k < 10) : S.2 1 (k : Int) = some (fO k) ∧ S.2 2 (k : Int) = some (fO k + 4) := ⟨sk_refm h (tb_top k hk).1, sk_refm h (tb_top k hk).2⟩
theorem sk_sheet {S : SS} (h : Sk S) {k : Nat} (hk : k < 4) : isSheet S (176 + 2 * k) ∧ S.2 3 (k : Int) = some (176 + 2 * k) := by
  obtain ⟨h1, h2, h3, h4⟩ := tb_sheet k hk
  exact ⟨⟨sk_ob h h1, sk_row h h2, sk_refm h h3⟩, sk_refm h h4⟩
end
section
/-! FORMS: what their cells hold; their methods -/
theorem mb {a b A B : Int} (h1 : -A ≤ a) (h2 : a ≤ A) (h3 : -B ≤ b) (h4 : b ≤ B) : -(A * B) ≤ a * b ∧ a * b ≤ A * B := by
  have hA : a.natAbs ≤ A.toNat := by omega
  have hB : b.natAbs ≤ B.toNat := by omega
  have h := Nat.mul_le_mul hA hB
  rw [← Int.natAbs_mul] at h
  have e : ((A.toNat * B.toNat : Nat) : Int) = A * B := by rw [Int.natCast_mul, Int.toNat_of_nonneg (by omega), Int.toNat_of_nonneg (by omega)]
  omega
def srch (p : Int → Bool) : Nat → Int → Int
  | 0, _ => -1
  | m + 1, k => if p k then k else srch p m (k + 1)
theorem srch_end {p : Int → Bool} {n k : Int} (h : n ≤ k) : srch p (n - k).toNat k = -1 := by rw [show (n - k).toNat = 0 by omega]; rfl
theorem srch_hit {p : Int → Bool} {n k : Int} (h : k < n) (hp : p k = true) : srch p (n - k).toNat k = k := by
  rw [show (n - k).toNat = (n - (k + 1)).toNat + 1 by omega]; unfold srch; rw [hp]; rfl
theorem srch_miss {p : Int → Bool} {n k : Int} (h : k < n) (hp : p k = false) : srch p (n - k).toNat k = srch p (n - (k + 1)).toNat (k + 1) := by
  rw [show (n - k).toNat = (n - (k + 1)).toNat + 1 by omega]
  conv => lhs; unfold srch
  rw [hp]; rfl
theorem srch_in (p : Int → Bool) : ∀ (m : Nat) (k : Int), srch p m k = -1 ∨ (k ≤ srch p m k ∧ srch p m k < k + m ∧ p (srch p m k) = true)
  | 0, _ => Or.inl rfl
  | m + 1, k => by
    unfold srch
    by_cases h : p k = true
    · rw [if_pos h]; exact Or.inr ⟨Int.le_refl _, by omega, h⟩
    · rw [if_neg h]
      rcases srch_in p m (k + 1) with q | ⟨q1, q2, q3⟩
      · exact Or.inl q
      · exact Or.inr ⟨by omega, by omega, q3⟩
theorem srch_no (p : Int → Bool) : ∀ (m : Nat) (k : Int), srch p m k = -1 → 0 ≤ k → ∀ t, k ≤ t → t < k + m → p t = false
  | 0, _, _, _ => fun t h1 h2 => by omega
  | m + 1, k, h, h0 => fun t h1 h2 => by
    unfold srch at h
    by_cases hp : p k = true
    · rw [if_pos hp] at h; omega
    · rw [if_neg hp] at h
      by_cases e : t = k
      · rw [e]; exact Bool.eq_false_iff.mpr hp
      · exact srch_no p m (k + 1) h (by omega) t (by omega) (by omega)
/-- which TERM is at a place; -1: none -/
def fnd (n : Int) (I J : Int → Int) (a b : Int) : Int := srch (fun t => decide (I t = a ∧ J t = b)) n.toNat 0
def FH (z : ZM) (h : Nat) (n : Int) (I J V : Int → Int) : Prop := z h 4 = n ∧ ∀ t, 0 ≤ t → t < n → z (h + 1) t = I t ∧ z (h + 2) t = J t ∧ z (h + 3) t = V t
def FR (n : Int) (I J V : Int → Int) : Prop := 0 ≤ n ∧ n ≤ 40 ∧ ∀ t, 0 ≤ t → t < n → 0 ≤ I t ∧ I t ≤ 8 ∧ 0 ≤ J t ∧ J t ≤ 8 ∧ -200 ≤ V t ∧ V t ≤ 200
/-- one place before another -/
def lexlt (a b c e : Int) : Prop := a < c ∨ (a = c ∧ b < e)
def FS (n : Int) (I J : Int → Int) : Prop := ∀ s t, 0 ≤ s → s < t → t < n → lexlt (I s) (J s) (I t) (J t)
/-- a point's numbers -/
def PB (x xd y yd : Int) : Prop := (-6400 ≤ x ∧ x ≤ 6400 ∧ 1 ≤ xd ∧ xd ≤ 128) ∧ (-6400 ≤ y ∧ y ≤ 6400 ∧ 1 ≤ yd ∧ yd ≤ 128)
def PH (z : ZM) (p : Nat) (x xd y yd : Int) : Prop := (z p 0 = x ∧ z p 1 = xd) ∧ (z p 2 = y ∧ z p 3 = yd)
def wv (i j v x xd y yd : Int) : Int := i * x * yd + j * y * xd + v * (xd * yd)
theorem wv_b {i j v x xd y yd : Int} (hi : 0 ≤ i ∧ i ≤ 8) (hj : 0 ≤ j ∧ j ≤ 8) (hv : -200 ≤ v ∧ v ≤ 200) (hp : PB x xd y yd) : -17000000 ≤ wv i j v x xd y yd ∧ wv i j v x xd y yd ≤ 17000000 := by
  obtain ⟨⟨p1, p2, p3, p4⟩, p5, p6, p7, p8⟩ := hp
  have a1 := mb (A := 8) (B := 6400) (by omega) hi.2 p1 p2
  have a2 := mb (A := 51200) (B := 128) (by omega) (by omega) (show -128 ≤ yd by omega) p8 (a := i * x)
  have b1 := mb (A := 8) (B := 6400) (by omega) hj.2 p5 p6
  have b2 := mb (A := 51200) (B := 128) (by omega) (by omega) (show -128 ≤ xd by omega) p4 (a := j * y)
  have c1 := mb (A := 128) (B := 128) (show -128 ≤ xd by omega) p4 (show -128 ≤ yd by omega) p8
  have c2 := mb (A := 200) (B := 16384) hv.1 hv.2 (by omega) (by omega) (b := xd * yd)
  unfold wv
  omega
/-- the least of f over k, k+1 .. -/
def mns (f : Int → Int) : Nat → Int → Int → Int
  | 0, _, m => m
  | c + 1, k, m => mns f c (k + 1) (min m (f k))
theorem mns_s {f : Int → Int} {n k m : Int} (h : k < n) : mns f (n - k).toNat k m = mns f (n - (k + 1)).toNat (k + 1) (min m (f k)) := by
  rw [show (n - k).toNat = (n - (k + 1)).toNat + 1 by omega]; rfl
theorem mns_e {f : Int → Int} {n k m : Int} (h : n ≤ k) : mns f (n - k).toNat k m = m := by rw [show (n - k).toNat = 0 by omega]; rfl
def lst (n : Int) (f : Int → Int) : Int := if 0 < n then mns f (n - 1).toNat 1 (f 0) else 0
def cnt (p : Int → Bool) : Nat → Int → Int
  | 0, _ => 0
  | m + 1, k => (if p k then 1 else 0) + cnt p m (k + 1)
theorem cnt_s {p : Int → Bool} {n k : Int} (h : k < n) : cnt p (n - k).toNat k = (if p k then 1 else 0) + cnt p (n - (k + 1)).toNat (k + 1) := by
  rw [show (n - k).toNat = (n - (k + 1)).toNat + 1 by omega]; rfl
theorem cnt_e {p : Int → Bool} {n k : Int} (h : n ≤ k) : cnt p (n - k).toNat k = 0 := by rw [show (n - k).toNat = 0 by omega]; rfl
theorem cnt_b (p : Int → Bool) : ∀ (m : Nat) (k : Int), 0 ≤ cnt p m k ∧ cnt p m k ≤ m
  | 0, _ => ⟨Int.le_refl _, Int.le_refl _⟩
  | m + 1, k => by
    have := cnt_b p m (k + 1)
    unfold cnt
    split <;> omega
theorem mns_b {f : Int → Int} {B : Int} : ∀ (c : Nat) (k m : Int), -B ≤ m → m ≤ B → (∀ t, k ≤ t → t < k + c → -B ≤ f t ∧ f t ≤ B) → -B ≤ mns f c k m ∧ mns f c k m ≤ B
  | 0, _, _, h1, h2, _ => ⟨h1, h2⟩
  | c + 1, k, m, h1, h2, h => by
    have := h k (Int.le_refl _) (by omega)
    exact mns_b c (k + 1) (min m (f k)) (by omega) (by omega) (fun t q1 q2 => h t (by omega) (by omega))
def leastS (n : Int) (I J V : Int → Int) (x xd y yd : Int) : Int := lst n (fun t => wv (I t) (J t) (V t) x xd y yd)
def countS (n : Int) (I J V : Int → Int) (x xd y yd : Int) : Int := cnt (fun t => decide (wv (I t) (J t) (V t) x xd y yd = leastS n I J V x xd y yd)) n.toNat 0
theorem leastS_b {n : Int} {I J V : Int → Int} {x xd y yd : Int} (hR : FR n I J V) (hp : PB x xd y yd) : -17000000 ≤ leastS n I J V x xd y yd ∧ leastS n I J V x xd y yd ≤ 17000000 := by
  unfold leastS lst
  split
  · have h0 := hR.2.2 0 (by omega) (by omega)
    have b0 := wv_b ⟨h0.1, h0.2.1⟩ ⟨h0.2.2.1, h0.2.2.2.1⟩ h0.2.2.2.2 hp
    refine mns_b _ _ _ b0.1 b0.2 (fun t q1 q2 => ?_)
    have h1 := hR.2.2 t (by omega) (by omega)
    exact wv_b ⟨h1.1, h1.2.1⟩ ⟨h1.2.2.1, h1.2.2.2.1⟩ h1.2.2.2.2 hp
  · omega
theorem w_find {X : PX} {d : Nat} {S : SS} {zI zL : ZM} {Q : PQ} {h : Nat} {n : Int} {I J V : Int → Int} (hF : isForm S h) (hT : FH zI h n I J V) (hR : FR n I J V) {a b : Int} (ha : inI a) (hb : inI b) (hQ : Q (some (pI (fnd n I J a b))) S zI zL) : wpM X (d + 1) fForm_find [pR h, pI a, pI b] S zI zL Q := by
  obtain ⟨hob, ⟨hr1, hr2, hr3⟩, hf1, hf2, hf3⟩ := hF
  obtain ⟨e4, hel⟩ := hT
  obtain ⟨hn0, hn40, hrg⟩ := hR
  have key : ∀ k : Int, k ≤ n → 0 ≤ k → srch (fun t => decide (I t = a ∧ J t = b)) (n - k).toNat k = fnd n I J a b → Run X d c_Form_find 2 [some (pR h), some (pI a), some (pI b), some (pI k)] [] S zI zL 0 0 Q := by
    refine loop_up _ n (fun k hk ih h0 hs => ?_)
    refine r_iload_n rfl rfl ?_
    refine r_aload_n rfl rfl ?_
    refine r_getI rfl (by assumption) ?_
    refine r_icmp_ge rfl (by unfold inI; omega) (by unfold inI; omega) (fun h5 => ?_) (fun h5 => ?_)
    · skip
      refine r_iconst rfl ?_
      refine r_iret rfl ?_
      rw [srch_end (by omega)] at hs; rw [hs]; exact hQ
    · skip
      have ht := hel k h0 (by omega)
      have hg := hrg k h0 (by omega)
      refine r_aload_n rfl rfl ?_
      refine r_getR rfl (by assumption) (by assumption) ?_
      refine r_iload_n rfl rfl ?_
      refine r_iald rfl (by assumption) (by omega) (by omega) ?_
      refine r_iload_n rfl rfl ?_
      refine r_icmp_ne rfl (by unfold inI; omega) ha (fun h11 => ?_) (fun h11 => ?_)
      · skip
        refine r_iinc rfl rfl ?_
        refine r_goto rfl ?_
        exact ih (by omega) (by omega) (by rw [← srch_miss (by omega) (by simp only [decide_eq_false_iff_not]; omega)]; exact hs)
      · skip
        refine r_aload_n rfl rfl ?_
        refine r_getR rfl (by assumption) (by assumption) ?_
        refine r_iload_n rfl rfl ?_
        refine r_iald rfl (by assumption) (by omega) (by omega) ?_
        refine r_iload_n rfl rfl ?_
        refine r_icmp_ne rfl (by unfold inI; omega) hb (fun h17 => ?_) (fun h17 => ?_)
        · skip
          refine r_iinc rfl rfl ?_
          refine r_goto rfl ?_
          exact ih (by omega) (by omega) (by rw [← srch_miss (by omega) (by simp only [decide_eq_false_iff_not]; omega)]; exact hs)
        · skip
          refine r_iload_n rfl rfl ?_
          refine r_iret rfl ?_
          rw [srch_hit (by omega) (by simp only [decide_eq_true_eq]; omega)] at hs; rw [hs]; exact hQ
  refine wp_in (C := c_Form_find) (ls := [some (pR h), some (pI a), some (pI b), none]) rfl rfl rfl rfl rfl ?_
  refine r_iconst rfl ?_
  refine r_istore_n rfl (Nat.le_of_ble_eq_true rfl) ?_
  exact key 0 hn0 (Int.le_refl _) (by rw [Int.sub_zero]; rfl)
theorem fnd_in (n : Int) (I J : Int → Int) (a b : Int) (hn : 0 ≤ n) : fnd n I J a b = -1 ∨ (0 ≤ fnd n I J a b ∧ fnd n I J a b < n ∧ I (fnd n I J a b) = a ∧ J (fnd n I J a b) = b) := by
  rcases srch_in (fun t => decide (I t = a ∧ J t = b)) n.toNat 0 with h | ⟨h1, h2, h3⟩
  · exact Or.inl h
  · rw [decide_eq_true_eq] at h3
    exact Or.inr ⟨h1, by unfold fnd; omega, h3⟩
def oneL (n : Int) (J : Int → Int) : Int := if srch (fun t => decide (J t ≠ 0)) n.toNat 0 = -1 then 1 else 0
theorem w_oneL {X : PX} {d : Nat} {S : SS} {zI zL : ZM} {Q : PQ} {h : Nat} {n : Int} {I J V : Int → Int} (hF : isForm S h) (hT : FH zI h n I J V) (hR : FR n I J V) (hQ : Q (some (pI (oneL n J))) S zI zL) : wpM X (d + 1) fForm_isOfOneLetter [pR h] S zI zL Q := by
  obtain ⟨hob, ⟨hr1, hr2, hr3⟩, hf1, hf2, hf3⟩ := hF
  obtain ⟨e4, hel⟩ := hT
  obtain ⟨hn0, hn40, hrg⟩ := hR
  have key : ∀ k : Int, k ≤ n → 0 ≤ k → srch (fun t => decide (J t ≠ 0)) (n - k).toNat k = srch (fun t => decide (J t ≠ 0)) n.toNat 0 → Run X d c_Form_isOfOneLetter 2 [some (pR h), some (pI k)] [] S zI zL 0 0 Q := by
    refine loop_up _ n (fun k hk ih h0 hs => ?_)
    refine r_iload_n rfl rfl ?_
    refine r_aload_n rfl rfl ?_
    refine r_getI rfl (by assumption) ?_
    refine r_icmp_ge rfl (by unfold inI; omega) (by unfold inI; omega) (fun h5 => ?_) (fun h5 => ?_)
    · skip
      refine r_iconst rfl ?_
      refine r_zret rfl (by first | exact Or.inl rfl | exact Or.inr rfl) ?_
      rw [srch_end (by omega)] at hs; unfold oneL at hQ; rw [← hs, if_pos rfl] at hQ; exact hQ
    · skip
      have ht := hel k h0 (by omega)
      have hg := hrg k h0 (by omega)
      refine r_aload_n rfl rfl ?_
      refine r_getR rfl (by assumption) (by assumption) ?_
      refine r_iload_n rfl rfl ?_
      refine r_iald rfl (by assumption) (by omega) (by omega) ?_
      refine r_if_eq rfl (by unfold inI; omega) (fun h10 => ?_) (fun h10 => ?_)
      · skip
        refine r_iinc rfl rfl ?_
        refine r_goto rfl ?_
        exact ih (by omega) (by omega) (by rw [← srch_miss (by omega) (by simp only [decide_eq_false_iff_not]; omega)]; exact hs)
      · skip
        refine r_iconst rfl ?_
        refine r_zret rfl (by first | exact Or.inl rfl | exact Or.inr rfl) ?_
        rw [srch_hit (by omega) (by simp only [decide_eq_true_eq]; omega)] at hs; unfold oneL at hQ; rw [← hs, if_neg (by omega)] at hQ; exact hQ
  refine wp_in (C := c_Form_isOfOneLetter) (ls := [some (pR h), none]) rfl rfl rfl rfl rfl ?_
  refine r_iconst rfl ?_
  refine r_istore_n rfl (Nat.le_of_ble_eq_true rfl) ?_
  exact key 0 hn0 (Int.le_refl _) (by rw [Int.sub_zero])
theorem w_below {X : PX} {d : Nat} {S : SS} {zI zL : ZM} {Q : PQ} {p : Nat} {x xd y yd : Int} (hp : isPoint S p) (hP : PH zL p x xd y yd) (hQ : Q (some (pL (xd * yd))) S zI zL) : wpM X (d + 1) fPoint_below [pR p] S zI zL Q := by
  unfold isPoint at hp
  obtain ⟨⟨e0, e1⟩, e2, e3⟩ := hP
  subst e1 e3
  refine wp_in (C := c_Point_below) (ls := [some (pR p)]) rfl rfl rfl rfl rfl ?_
  refine r_aload_n rfl rfl ?_
  refine r_getL rfl (by assumption) ?_
  refine r_aload_n rfl rfl ?_
  refine r_getL rfl (by assumption) ?_
  refine r_lmul rfl ?_
  refine r_lret rfl ?_
  exact hQ
theorem w_worthOf {X : PX} {d : Nat} {S : SS} {zI zL : ZM} {Q : PQ} {h : Nat} {n : Int} {I J V : Int → Int} (hF : isForm S h) (hT : FH zI h n I J V) (hR : FR n I J V) {p : Nat} {x xd y yd : Int} (hp : isPoint S p) (hP : PH zL p x xd y yd) {t : Int} (h0 : 0 ≤ t) (h1 : t < n) (hQ : Q (some (pL (wv (I t) (J t) (V t) x xd y yd))) S zI zL) : wpM X (d + 2) fForm_worthOf [pR h, pI t, pR p] S zI zL Q := by
  obtain ⟨hob, ⟨hr1, hr2, hr3⟩, hf1, hf2, hf3⟩ := hF
  obtain ⟨e4, hel⟩ := hT
  obtain ⟨hn0, hn40, hrg⟩ := hR
  obtain ⟨g1, g2, g3⟩ := hel t h0 h1
  have hg := hrg t h0 h1
  have hpo : ob S p 4 := hp
  have hP0 := hP
  obtain ⟨⟨e0, e1⟩, e2, e3⟩ := hP
  refine wp_in (C := c_Form_worthOf) (ls := [some (pR h), some (pI t), some (pR p)]) rfl rfl rfl rfl rfl ?_
  refine r_aload_n rfl rfl ?_
  refine r_getR rfl (by assumption) (by assumption) ?_
  refine r_iload_n rfl rfl ?_
  refine r_iald rfl (by assumption) (by omega) (by omega) ?_
  refine r_i2l rfl (by unfold inI; omega) ?_
  refine r_aload_n rfl rfl ?_
  refine r_getL rfl (by assumption) ?_
  refine r_lmul rfl ?_
  refine r_aload_n rfl rfl ?_
  refine r_getL rfl (by assumption) ?_
  refine r_lmul rfl ?_
  refine r_aload_n rfl rfl ?_
  refine r_getR rfl (by assumption) (by assumption) ?_
  refine r_iload_n rfl rfl ?_
  refine r_iald rfl (by assumption) (by omega) (by omega) ?_
  refine r_i2l rfl (by unfold inI; omega) ?_
  refine r_aload_n rfl rfl ?_
  refine r_getL rfl (by assumption) ?_
  refine r_lmul rfl ?_
  refine r_aload_n rfl rfl ?_
  refine r_getL rfl (by assumption) ?_
  refine r_lmul rfl ?_
  refine r_ladd rfl ?_
  refine r_aload_n rfl rfl ?_
  refine r_getR rfl (by assumption) (by assumption) ?_
  refine r_iload_n rfl rfl ?_
  refine r_iald rfl (by assumption) (by omega) (by omega) ?_
  refine r_i2l rfl (by unfold inI; omega) ?_
  refine r_aload_n rfl rfl ?_
  refine r_cV1 rfl hpo (Nat.le_of_ble_eq_true rfl) rfl rfl (w_below hp hP0 ?_)
  refine r_lmul rfl ?_
  refine r_ladd rfl ?_
  refine r_lret rfl ?_
  rw [g1, g2, g3, e0, e1, e2, e3]; exact hQ
theorem w_leastWorth {X : PX} {d : Nat} {S : SS} {zI zL : ZM} {Q : PQ} {h : Nat} {n : Int} {I J V : Int → Int} (hF : isForm S h) (hT : FH zI h n I J V) (hR : FR n I J V) {p : Nat} {x xd y yd : Int} (hp : isPoint S p) (hP : PH zL p x xd y yd) (hB : PB x xd y yd) (hQ : Q (some (pL (leastS n I J V x xd y yd))) S zI zL) : wpM X (d + 3) fForm_leastWorth [pR h, pR p] S zI zL Q := by
  have hF0 := hF
  have hT0 := hT
  have hR0 := hR
  obtain ⟨hob, ⟨hr1, hr2, hr3⟩, hf1, hf2, hf3⟩ := hF
  obtain ⟨e4, hel⟩ := hT
  obtain ⟨hn0, hn40, hrg⟩ := hR
  have hw : ∀ t, 0 ≤ t → t < n → inL (wv (I t) (J t) (V t) x xd y yd) ∧ (-17000000 ≤ wv (I t) (J t) (V t) x xd y yd ∧ wv (I t) (J t) (V t) x xd y yd ≤ 17000000) := fun t h0 h1 => by
    have hg := hrg t h0 h1
    have := wv_b ⟨hg.1, hg.2.1⟩ ⟨hg.2.2.1, hg.2.2.2.1⟩ hg.2.2.2.2 hB
    exact ⟨by unfold inL; omega, this⟩
  have key : ∀ k : Int, k ≤ max n 1 → 1 ≤ k → ∀ m : Int, -17000000 ≤ m → m ≤ 17000000 → mns (fun t => wv (I t) (J t) (V t) x xd y yd) (n - k).toNat k m = leastS n I J V x xd y yd → Run X (d + 2) c_Form_leastWorth 12 [some (pR h), some (pR p), some (pL m), none, some (pI k)] [] S zI zL 0 0 Q := by
    refine loop_up _ (max n 1) (fun k hk ih h0 m hm1 hm2 hs => ?_)
    refine r_iload rfl rfl ?_
    refine r_aload_n rfl rfl ?_
    refine r_getI rfl (by assumption) ?_
    refine r_icmp_ge rfl (by unfold inI; omega) (by unfold inI; omega) (fun h15 => ?_) (fun h15 => ?_)
    · skip
      refine r_lload_n rfl rfl ?_
      refine r_lret rfl ?_
      rw [mns_e (by omega)] at hs; rw [hs]; exact hQ
    · skip
      have hwk := hw k (by omega) (by omega)
      refine r_lload_n rfl rfl ?_
      refine r_aload_n rfl rfl ?_
      refine r_iload rfl rfl ?_
      refine r_aload_n rfl rfl ?_
      refine r_cV3 rfl (by assumption) (Nat.le_of_ble_eq_true rfl) rfl rfl (w_worthOf hF0 hT0 hR0 hp hP (by omega) (by omega) ?_)
      refine r_cS2 rfl (by decide) (Nat.le_of_ble_eq_true rfl) rfl rfl (w_minL (by unfold inL; omega) hwk.1 ?_)
      refine r_lstore_n rfl (Nat.le_of_ble_eq_true rfl) ?_
      refine r_iinc rfl rfl ?_
      refine r_goto rfl ?_
      exact ih (by omega) (by omega) _ (by omega) (by omega) (by rw [← mns_s (by omega)]; exact hs)
  refine wp_in (C := c_Form_leastWorth) (ls := [some (pR h), some (pR p), none, none, none]) rfl rfl rfl rfl rfl ?_
  refine r_aload_n rfl rfl ?_
  refine r_getI rfl (by assumption) ?_
  refine r_if_le rfl (by unfold inI; omega) (fun h2 => ?_) (fun h2 => ?_)
  · skip
    refine r_lconst rfl ?_
    refine r_lstore_n rfl (Nat.le_of_ble_eq_true rfl) ?_
    refine r_iconst rfl ?_
    refine r_istore rfl (Nat.le_of_ble_eq_true rfl) ?_
    exact key 1 (by omega) (Int.le_refl _) 0 (by omega) (by omega) (by rw [mns_e (by omega)]; unfold leastS lst; rw [if_neg (by omega)])
  · skip
    refine r_aload_n rfl rfl ?_
    refine r_iconst rfl ?_
    refine r_aload_n rfl rfl ?_
    refine r_cV3 rfl (by assumption) (Nat.le_of_ble_eq_true rfl) rfl rfl (w_worthOf hF0 hT0 hR0 hp hP (by omega) (by omega) ?_)
    refine r_goto rfl ?_
    refine r_lstore_n rfl (Nat.le_of_ble_eq_true rfl) ?_
    refine r_iconst rfl ?_
    refine r_istore rfl (Nat.le_of_ble_eq_true rfl) ?_
    exact key 1 (by omega) (Int.le_refl _) _ (hw 0 (by omega) (by omega)).2.1 (hw 0 (by omega) (by omega)).2.2 (by unfold leastS lst; rw [if_pos (by omega)])
theorem w_countLeast {X : PX} {d : Nat} {S : SS} {zI zL : ZM} {Q : PQ} {h : Nat} {n : Int} {I J V : Int → Int} (hF : isForm S h) (hT : FH zI h n I J V) (hR : FR n I J V) {p : Nat} {x xd y yd : Int} (hp : isPoint S p) (hP : PH zL p x xd y yd) (hB : PB x xd y yd) (hQ : Q (some (pI (countS n I J V x xd y yd))) S zI zL) : wpM X (d + 4) fForm_countLeast [pR h, pR p] S zI zL Q := by
  have hF0 := hF
  have hT0 := hT
  have hR0 := hR
  obtain ⟨hob, ⟨hr1, hr2, hr3⟩, hf1, hf2, hf3⟩ := hF
  obtain ⟨e4, hel⟩ := hT
  obtain ⟨hn0, hn40, hrg⟩ := hR
  have hlb := leastS_b hR0 hB
  have key : ∀ k : Int, k ≤ n → 0 ≤ k → ∀ c : Int, 0 ≤ c → c ≤ k → c + cnt (fun t => decide (wv (I t) (J t) (V t) x xd y yd = leastS n I J V x xd y yd)) (n - k).toNat k = countS n I J V x xd y yd → Run X (d + 3) c_Form_countLeast 8 [some (pR h), some (pR p), some (pL (leastS n I J V x xd y yd)), none, some (pI c), some (pI k)] [] S zI zL 0 0 Q := by
    refine loop_up _ n (fun k hk ih h0 c hc0 hck hs => ?_)
    refine r_iload rfl rfl ?_
    refine r_aload_n rfl rfl ?_
    refine r_getI rfl (by assumption) ?_
    refine r_icmp_ge rfl (by unfold inI; omega) (by unfold inI; omega) (fun h11 => ?_) (fun h11 => ?_)
    · skip
      refine r_iload rfl rfl ?_
      refine r_iret rfl ?_
      rw [cnt_e (by omega)] at hs; rw [show c = countS n I J V x xd y yd by omega]; exact hQ
    · skip
      have hg := hrg k h0 (by omega)
      have hwk := wv_b ⟨hg.1, hg.2.1⟩ ⟨hg.2.2.1, hg.2.2.2.1⟩ hg.2.2.2.2 hB
      refine r_aload_n rfl rfl ?_
      refine r_iload rfl rfl ?_
      refine r_aload_n rfl rfl ?_
      refine r_cV3 rfl (by assumption) (Nat.le_of_ble_eq_true rfl) rfl rfl (w_worthOf hF0 hT0 hR0 hp hP (by omega) (by omega) ?_)
      refine r_lload_n rfl rfl ?_
      refine r_l_ne rfl rfl (by unfold inL; omega) (by unfold inL; omega) (fun h18 => ?_) (fun h18 => ?_)
      · skip
        refine r_iinc rfl rfl ?_
        refine r_goto rfl ?_
        exact ih (by omega) (by omega) _ (by omega) (by omega) (by rw [cnt_s (by omega), if_neg (by simp only [decide_eq_true_eq]; exact h18)] at hs; omega)
      · skip
        refine r_iinc rfl rfl ?_
        refine r_iinc rfl rfl ?_
        refine r_goto rfl ?_
        exact ih (by omega) (by omega) _ (by omega) (by omega) (by rw [cnt_s (by omega), if_pos (by simp only [decide_eq_true_eq]; exact h18)] at hs; omega)
  refine wp_in (C := c_Form_countLeast) (ls := [some (pR h), some (pR p), none, none, none, none]) rfl rfl rfl rfl rfl ?_
  refine r_aload_n rfl rfl ?_
  refine r_aload_n rfl rfl ?_
  refine r_cV2 rfl (by assumption) (Nat.le_of_ble_eq_true rfl) rfl rfl (w_leastWorth hF0 hT0 hR0 hp hP hB ?_)
  refine r_lstore_n rfl (Nat.le_of_ble_eq_true rfl) ?_
  refine r_iconst rfl ?_
  refine r_istore rfl (Nat.le_of_ble_eq_true rfl) ?_
  refine r_iconst rfl ?_
  refine r_istore rfl (Nat.le_of_ble_eq_true rfl) ?_
  exact key 0 hn0 (Int.le_refl _) 0 (Int.le_refl _) (Int.le_refl _) (by rw [Int.sub_zero, Int.zero_add]; rfl)
end
section
/-! FORMS: what is written -/
theorem w_begin {X : PX} {d : Nat} {S : SS} {zI zL : ZM} {Q : PQ} {h : Nat} {kd : Int} (hF : isForm S h) (hQ : Q none S (zput (zput (zput zI h 3 kd) h 4 0) h 5 0) zL) : wpM X (d + 1) fForm_begin [pR h, pI kd] S zI zL Q := by
  obtain ⟨hob, -⟩ := hF
  refine wp_in (C := c_Form_begin) (ls := [some (pR h), some (pI kd)]) rfl rfl rfl rfl rfl ?_
  refine r_aload_n rfl rfl ?_
  refine r_iload_n rfl rfl ?_
  refine r_putI rfl (by assumption) ?_
  refine r_aload_n rfl rfl ?_
  refine r_iconst rfl ?_
  refine r_putI rfl (by assumption) ?_
  refine r_aload_n rfl rfl ?_
  refine r_iconst rfl ?_
  refine r_putZ rfl (by assumption) (by first | exact Or.inl rfl | exact Or.inr rfl) ?_
  refine r_ret rfl ?_
  exact hQ
/-- the rows behind a form: a stretch brought to another place -/
def slZ (z : ZM) (h : Nat) (sp dp n : Int) : ZM := fun c k => if (c = h + 1 ∨ c = h + 2 ∨ c = h + 3) ∧ dp ≤ k ∧ k < dp + n then z c (sp + (k - dp)) else z c k
theorem slZ_0 (z : ZM) (h : Nat) (sp dp n : Int) (hn : n ≤ 0) : slZ z h sp dp n = z := by funext c k; unfold slZ; rw [if_neg (by omega)]
theorem slZ_3 (z : ZM) (h : Nat) (sp dp n : Int) : zrow (zrow (zrow z (h + 1) (cpI (z (h + 1)) (z (h + 1)) sp dp n)) (h + 2) (cpI (zrow z (h + 1) (cpI (z (h + 1)) (z (h + 1)) sp dp n) (h + 2)) (zrow z (h + 1) (cpI (z (h + 1)) (z (h + 1)) sp dp n) (h + 2)) sp dp n)) (h + 3)
    (cpI (zrow (zrow z (h + 1) (cpI (z (h + 1)) (z (h + 1)) sp dp n)) (h + 2) (cpI (zrow z (h + 1) (cpI (z (h + 1)) (z (h + 1)) sp dp n) (h + 2)) (zrow z (h + 1) (cpI (z (h + 1)) (z (h + 1)) sp dp n) (h + 2)) sp dp n) (h + 3)) (zrow (zrow z (h + 1) (cpI (z (h + 1)) (z (h + 1)) sp dp n)) (h + 2) (cpI (zrow z (h + 1) (cpI (z (h + 1)) (z (h + 1)) sp dp n) (h + 2)) (zrow z (h + 1) (cpI (z (h + 1)) (z (h + 1)) sp dp n) (h + 2)) sp dp n) (h + 3)) sp dp n) = slZ z h sp dp n := by
  funext c k
  unfold zrow slZ cpI
  by_cases h3 : c = h + 3
  · subst h3
    by_cases hk : dp ≤ k ∧ k < dp + n <;> simp (disch := omega) only [if_pos, if_neg, ↓reduceIte, true_and, and_true, true_or, or_true, and_self]
  · by_cases h2 : c = h + 2
    · subst h2
      by_cases hk : dp ≤ k ∧ k < dp + n <;> simp (disch := omega) only [if_pos, if_neg, ↓reduceIte, true_and, and_true, true_or, or_true, and_self]
    · by_cases h1 : c = h + 1
      · subst h1
        by_cases hk : dp ≤ k ∧ k < dp + n <;> simp (disch := omega) only [if_pos, if_neg, ↓reduceIte, true_and, and_true, true_or, or_true, and_self]
      · simp (disch := omega) only [if_pos, if_neg, ↓reduceIte, true_and, and_true, true_or, or_true, and_self]
theorem w_slide {X : PX} {d : Nat} {S : SS} {zI zL : ZM} {Q : PQ} {h : Nat} {n sp dp : Int} (hF : isForm S h) (e4 : zI h 4 = n) (h0 : 0 ≤ sp) (h1 : 0 ≤ dp) (h2 : sp ≤ 40) (h3 : dp ≤ 40) (h4 : n ≤ 40) (h40 : 0 ≤ n) (h5 : dp + (n - sp) ≤ 40) (hQ : Q none S (slZ zI h sp dp (n - sp)) zL) : wpM X (d + 1) fForm_slide [pR h, pI sp, pI dp] S zI zL Q := by
  obtain ⟨hob, ⟨hr1, hr2, hr3⟩, hf1, hf2, hf3⟩ := hF
  refine wp_in (C := c_Form_slide) (ls := [some (pR h), some (pI sp), some (pI dp), none]) rfl rfl rfl rfl rfl ?_
  refine r_aload_n rfl rfl ?_
  refine r_getI rfl (by assumption) ?_
  refine r_iload_n rfl rfl ?_
  refine r_isub rfl ?_
  refine r_istore_n rfl (Nat.le_of_ble_eq_true rfl) ?_
  refine r_iload_n rfl rfl ?_
  refine r_if_le rfl (by unfold inI; omega) (fun h6 => ?_) (fun h6 => ?_)
  · skip
    refine r_ret rfl ?_
    rw [slZ_0 _ _ _ _ _ (by omega)] at hQ; exact hQ
  · skip
    refine r_iload_n rfl rfl ?_
    refine r_if_lt rfl (by unfold inI; omega) (fun h8 => ?_) (fun h8 => ?_)
    · skip
      refine r_ret rfl ?_
      exact absurd h8 (by omega)
    · skip
      refine r_iload_n rfl rfl ?_
      refine r_if_lt rfl (by unfold inI; omega) (fun h10 => ?_) (fun h10 => ?_)
      · skip
        refine r_ret rfl ?_
        exact absurd h10 (by omega)
      · skip
        refine r_iload_n rfl rfl ?_
        refine r_iload_n rfl rfl ?_
        refine r_iadd rfl ?_
        refine r_bipush rfl ?_
        refine r_icmp_gt rfl (by unfold inI; omega) (by unfold inI; omega) (fun h15 => ?_) (fun h15 => ?_)
        · skip
          refine r_ret rfl ?_
          exact absurd h15 (by omega)
        · skip
          refine r_aload_n rfl rfl ?_
          refine r_getR rfl (by assumption) (by assumption) ?_
          refine r_iload_n rfl rfl ?_
          refine r_aload_n rfl rfl ?_
          refine r_getR rfl (by assumption) (by assumption) ?_
          refine r_iload_n rfl rfl ?_
          refine r_iload_n rfl rfl ?_
          refine r_acopyI rfl hr1 hr1 (Nat.le_of_ble_eq_true rfl) (by omega) (by omega) (by omega) (by omega) (by omega) ?_
          refine r_aload_n rfl rfl ?_
          refine r_getR rfl (by assumption) (by assumption) ?_
          refine r_iload_n rfl rfl ?_
          refine r_aload_n rfl rfl ?_
          refine r_getR rfl (by assumption) (by assumption) ?_
          refine r_iload_n rfl rfl ?_
          refine r_iload_n rfl rfl ?_
          refine r_acopyI rfl hr2 hr2 (Nat.le_of_ble_eq_true rfl) (by omega) (by omega) (by omega) (by omega) (by omega) ?_
          refine r_aload_n rfl rfl ?_
          refine r_getR rfl (by assumption) (by assumption) ?_
          refine r_iload_n rfl rfl ?_
          refine r_aload_n rfl rfl ?_
          refine r_getR rfl (by assumption) (by assumption) ?_
          refine r_iload_n rfl rfl ?_
          refine r_iload_n rfl rfl ?_
          refine r_acopyI rfl hr3 hr3 (Nat.le_of_ble_eq_true rfl) (by omega) (by omega) (by omega) (by omega) (by omega) ?_
          refine r_ret rfl ?_
          rw [slZ_3, e4]; exact hQ
/-- the first place from k on where p holds, at most m further -/
def fstN (p : Int → Bool) : Nat → Int → Int
  | 0, k => k
  | m + 1, k => if p k then k else fstN p m (k + 1)
theorem fstN_e {p : Int → Bool} {n k : Int} (h : n ≤ k) : fstN p (n - k).toNat k = k := by rw [show (n - k).toNat = 0 by omega]; rfl
theorem fstN_hit {p : Int → Bool} {n k : Int} (h : k < n) (hp : p k = true) : fstN p (n - k).toNat k = k := by
  rw [show (n - k).toNat = (n - (k + 1)).toNat + 1 by omega]; unfold fstN; rw [hp]; rfl
theorem fstN_miss {p : Int → Bool} {n k : Int} (h : k < n) (hp : p k = false) : fstN p (n - k).toNat k = fstN p (n - (k + 1)).toNat (k + 1) := by
  rw [show (n - k).toNat = (n - (k + 1)).toNat + 1 by omega]
  conv => lhs; unfold fstN
  rw [hp]; rfl
theorem fstN_spec (p : Int → Bool) : ∀ (m : Nat) (k : Int), k ≤ fstN p m k ∧ fstN p m k ≤ k + m ∧ (fstN p m k < k + m → p (fstN p m k) = true) ∧ ∀ t, k ≤ t → t < fstN p m k → p t = false
  | 0, k => ⟨Int.le_refl _, by show k ≤ _; omega, fun h => absurd h (by show ¬ k < _; omega), fun t h1 h2 => absurd h2 (by show ¬ t < k; omega)⟩
  | m + 1, k => by
    unfold fstN
    by_cases h : p k = true
    · rw [if_pos h]; exact ⟨Int.le_refl _, by omega, fun _ => h, fun t h1 h2 => by omega⟩
    · rw [if_neg h]
      obtain ⟨q1, q2, q3, q4⟩ := fstN_spec p m (k + 1)
      refine ⟨by omega, by omega, fun q => q3 (by omega), fun t h1 h2 => ?_⟩
      by_cases e : t = k
      · rw [e]; exact Bool.eq_false_iff.mpr h
      · exact q4 t (by omega) h2
/-- where a place stands, or would stand -/
def lexb (a b c e : Int) : Bool := decide (a < c) || (decide (a = c) && decide (b < e))
theorem lexb_t {a b c e : Int} : lexb a b c e = true ↔ lexlt a b c e := by unfold lexb lexlt; simp
theorem lexb_f {a b c e : Int} : lexb a b c e = false ↔ ¬ lexlt a b c e := by rw [← lexb_t]; simp
theorem nlex_f {a b c e : Int} : (!lexb a b c e) = true ↔ ¬ lexlt a b c e := by rw [← lexb_f]; cases lexb a b c e <;> simp
theorem nlex_t {a b c e : Int} : (!lexb a b c e) = false ↔ lexlt a b c e := by rw [← lexb_t]; cases lexb a b c e <;> simp
def psn (n : Int) (I J : Int → Int) (a b : Int) : Int := fstN (fun t => !lexb (I t) (J t) a b) n.toNat 0
def thr (n : Int) (I J : Int → Int) (a b : Int) : Prop := psn n I J a b < n ∧ I (psn n I J a b) = a ∧ J (psn n I J a b) = b
def insF (f : Int → Int) (k x : Int) : Int → Int := fun t => if t < k then f t else if t = k then x else f (t - 1)
def updF (f : Int → Int) (k x : Int) : Int → Int := fun t => if t = k then x else f t
def putP (z z' : ZM) (h : Nat) (n : Int) (I J V : Int → Int) (a b v : Int) : Prop := (∀ c, c ≠ h → c ≠ h + 1 → c ≠ h + 2 → c ≠ h + 3 → z' c = z c) ∧ z' h 3 = z h 3 ∧ z' h 5 = 0 ∧
  (thr n I J a b → FH z' h n I J (updF V (psn n I J a b) v)) ∧ (¬ thr n I J a b → FH z' h (n + 1) (insF I (psn n I J a b) a) (insF J (psn n I J a b) b) (insF V (psn n I J a b) v))
set_option maxHeartbeats 2000000 in
theorem put_post1 {z : ZM} {h : Nat} {n : Int} {I J V : Int → Int} {a b v : Int} (hT : FH z h n I J V) (h1 : thr n I J a b) : putP z (zput (zput (zput (zput z (h + 1) (psn n I J a b) a) (h + 2) (psn n I J a b) b) (h + 3) (psn n I J a b) v) h 5 0) h n I J V a b v := by
  obtain ⟨e4, hel⟩ := hT
  refine ⟨fun c c0 c1 c2 c3 => ?_, ?_, ?_, fun _ => ⟨?_, fun t t0 t1 => ?_⟩, fun q => absurd h1 q⟩
  · funext k; unfold zput; simp (disch := omega) only [if_pos, if_neg, ↓reduceIte, true_and, and_true, true_or, or_true, and_self]
  · unfold zput; simp (disch := omega) only [if_pos, if_neg, ↓reduceIte, true_and, and_true, true_or, or_true, and_self]
  · unfold zput; simp (disch := omega) only [if_pos, if_neg, ↓reduceIte, true_and, and_true, true_or, or_true, and_self]
  · unfold zput; simp (disch := omega) only [if_pos, if_neg, ↓reduceIte, true_and, and_true, true_or, or_true, and_self]; exact e4
  · obtain ⟨g1, g2, g3⟩ := hel t t0 t1
    obtain ⟨-, i1, i2⟩ := h1
    generalize psn n I J a b = q at i1 i2 ⊢
    unfold zput updF
    by_cases e : t = q
    · subst e
      simp (disch := omega) only [if_pos, if_neg, ↓reduceIte, true_and, and_true, true_or, or_true, and_self]
      exact ⟨i1.symm, i2.symm⟩
    · simp (disch := omega) only [if_pos, if_neg, ↓reduceIte, true_and, and_true, true_or, or_true, and_self]
      exact ⟨g1, g2, g3⟩
set_option maxHeartbeats 2000000 in
theorem put_post2 {z : ZM} {h : Nat} {n : Int} {I J V : Int → Int} {a b v : Int} (hn : 0 ≤ n) (hT : FH z h n I J V) (h1 : ¬ thr n I J a b) :
    putP z (zput (zput (zput (zput (zput (slZ z h (psn n I J a b) (psn n I J a b + 1) (n - psn n I J a b)) h 4 (n + 1)) (h + 1) (psn n I J a b) a) (h + 2) (psn n I J a b) b) (h + 3) (psn n I J a b) v) h 5 0) h n I J V a b v := by
  obtain ⟨e4, hel⟩ := hT
  have hp := fstN_spec (fun t => !lexb (I t) (J t) a b) n.toNat 0
  refine ⟨fun c c0 c1 c2 c3 => ?_, ?_, ?_, fun q => absurd q h1, fun _ => ⟨?_, fun t t0 t1 => ?_⟩⟩
  · funext k; unfold zput slZ; simp (disch := omega) only [if_pos, if_neg, ↓reduceIte, true_and, and_true, true_or, or_true, and_self]
  · unfold zput slZ; simp (disch := omega) only [if_pos, if_neg, ↓reduceIte, true_and, and_true, true_or, or_true, and_self]
  · unfold zput; simp (disch := omega) only [if_pos, if_neg, ↓reduceIte, true_and, and_true, true_or, or_true, and_self]
  · unfold zput slZ; simp (disch := omega) only [if_pos, if_neg, ↓reduceIte, true_and, and_true, true_or, or_true, and_self]
  · have hq : 0 ≤ psn n I J a b ∧ psn n I J a b ≤ n := by unfold psn; omega
    generalize psn n I J a b = q at hq ⊢
    unfold zput slZ insF
    rcases Int.lt_trichotomy t q with e | e | e
    · obtain ⟨g1, g2, g3⟩ := hel t t0 (by omega)
      simp (disch := omega) only [if_pos, if_neg, ↓reduceIte, true_and, and_true, true_or, or_true, and_self]
      exact ⟨g1, g2, g3⟩
    · subst e
      simp (disch := omega) only [if_pos, if_neg, ↓reduceIte, true_and, and_true, true_or, or_true, and_self]
    · obtain ⟨g1, g2, g3⟩ := hel (t - 1) (by omega) (by omega)
      simp (disch := omega) only [if_pos, if_neg, ↓reduceIte, true_and, and_true, true_or, or_true, and_self]
      rw [show q + (t - (q + 1)) = t - 1 by omega]
      exact ⟨g1, g2, g3⟩
theorem w_put {X : PX} {d : Nat} {S : SS} {zI zL : ZM} {Q : PQ} {h : Nat} {n : Int} {I J V : Int → Int} (hF : isForm S h) (hT : FH zI h n I J V) (hR : FR n I J V) {a b v : Int} (ha : 0 ≤ a ∧ a ≤ 8) (hb : 0 ≤ b ∧ b ≤ 8) (h12 : thr n I J a b ∨ n < 40) (hQ : ∀ z, putP zI z h n I J V a b v → Q none S z zL) : wpM X (d + 2) fForm_put [pR h, pI a, pI b, pI v] S zI zL Q := by
  have hF0 := hF
  have hT0 := hT
  obtain ⟨hob, ⟨hr1, hr2, hr3⟩, hf1, hf2, hf3⟩ := hF
  obtain ⟨e4, hel⟩ := hT
  obtain ⟨hn0, hn40, hrg⟩ := hR
  have hp := fstN_spec (fun t => !lexb (I t) (J t) a b) n.toNat 0
  have hq : 0 ≤ psn n I J a b ∧ psn n I J a b ≤ n := by unfold psn; omega
  have i1 : inI 1 := by unfold inI; omega
  have e41 : slZ zI h (psn n I J a b) (psn n I J a b + 1) (n - psn n I J a b) h 4 = n := by unfold slZ; simp (disch := omega) only [if_pos, if_neg, ↓reduceIte, true_and, and_true, true_or, or_true, and_self]; exact e4
  have tT : thr n I J a b → Run X (d + 1) c_Form_put 65 [some (pR h), some (pI a), some (pI b), some (pI v), some (pI (psn n I J a b)), some (pI 1)] [] S zI zL 0 0 Q := by
    intro h1
    have h2 := h1.1
    refine r_aload_n rfl rfl ?_
    refine r_getR rfl (by assumption) (by assumption) ?_
    refine r_iload rfl rfl ?_
    refine r_iload_n rfl rfl ?_
    refine r_iast rfl (by assumption) (by omega) (by omega) ?_
    refine r_aload_n rfl rfl ?_
    refine r_getR rfl (by assumption) (by assumption) ?_
    refine r_iload rfl rfl ?_
    refine r_iload_n rfl rfl ?_
    refine r_iast rfl (by assumption) (by omega) (by omega) ?_
    refine r_aload_n rfl rfl ?_
    refine r_getR rfl (by assumption) (by assumption) ?_
    refine r_iload rfl rfl ?_
    refine r_iload_n rfl rfl ?_
    refine r_iast rfl (by assumption) (by omega) (by omega) ?_
    refine r_aload_n rfl rfl ?_
    refine r_iconst rfl ?_
    refine r_putZ rfl (by assumption) (by first | exact Or.inl rfl | exact Or.inr rfl) ?_
    refine r_ret rfl ?_
    exact hQ _ (put_post1 hT0 h1)
  have tF : ¬ thr n I J a b → Run X (d + 1) c_Form_put 48 [some (pR h), some (pI a), some (pI b), some (pI v), some (pI (psn n I J a b)), some (pI 0)] [] S zI zL 0 0 Q := by
    intro h1
    have h2 : n < 40 := h12.resolve_left h1
    refine r_aload_n rfl rfl ?_
    refine r_getI rfl (by assumption) ?_
    refine r_bipush rfl ?_
    refine r_icmp_lt rfl (by unfold inI; omega) (by unfold inI; omega) (fun h51 => ?_) (fun h51 => ?_)
    · skip
      refine r_aload_n rfl rfl ?_
      refine r_iload rfl rfl ?_
      refine r_iload rfl rfl ?_
      refine r_iconst rfl ?_
      refine r_iadd rfl ?_
      refine r_cV3 rfl (by assumption) (Nat.le_of_ble_eq_true rfl) rfl rfl (w_slide hF0 e4 hq.1 (by omega) (by omega) (by omega) hn40 hn0 (by omega) ?_)
      refine r_aload_n rfl rfl ?_
      refine r_dupR rfl ?_
      refine r_getI rfl (by assumption) ?_
      refine r_iconst rfl ?_
      refine r_iadd rfl ?_
      refine r_putI rfl (by assumption) ?_
      refine r_aload_n rfl rfl ?_
      refine r_getR rfl (by assumption) (by assumption) ?_
      refine r_iload rfl rfl ?_
      refine r_iload_n rfl rfl ?_
      refine r_iast rfl (by assumption) (by omega) (by omega) ?_
      refine r_aload_n rfl rfl ?_
      refine r_getR rfl (by assumption) (by assumption) ?_
      refine r_iload rfl rfl ?_
      refine r_iload_n rfl rfl ?_
      refine r_iast rfl (by assumption) (by omega) (by omega) ?_
      refine r_aload_n rfl rfl ?_
      refine r_getR rfl (by assumption) (by assumption) ?_
      refine r_iload rfl rfl ?_
      refine r_iload_n rfl rfl ?_
      refine r_iast rfl (by assumption) (by omega) (by omega) ?_
      refine r_aload_n rfl rfl ?_
      refine r_iconst rfl ?_
      refine r_putZ rfl (by assumption) (by first | exact Or.inl rfl | exact Or.inr rfl) ?_
      refine r_ret rfl ?_
      rw [e41]; exact hQ _ (put_post2 hn0 hT0 h1)
    · skip
      exact absurd h51 (by omega)
  have tail : Run X (d + 1) c_Form_put 26 [some (pR h), some (pI a), some (pI b), some (pI v), some (pI (psn n I J a b)), none] [] S zI zL 0 0 Q := by
    have hthr : thr n I J a b ↔ (psn n I J a b < n ∧ I (psn n I J a b) = a ∧ J (psn n I J a b) = b) := Iff.rfl
    refine r_iload rfl rfl ?_
    refine r_aload_n rfl rfl ?_
    refine r_getI rfl (by assumption) ?_
    refine r_icmp_ge rfl (by unfold inI; omega) (by unfold inI; omega) (fun h29 => ?_) (fun h29 => ?_)
    · skip
      refine r_iconst rfl ?_
      refine r_istore rfl (Nat.le_of_ble_eq_true rfl) ?_
      refine r_iload rfl rfl ?_
      exact r_if_ne rfl in0 (fun h => absurd rfl h) (fun _ => tF (fun z => by have := hthr.mp z; omega))
    · skip
      have ht := hel (psn n I J a b) hq.1 (by omega)
      have hg := hrg (psn n I J a b) hq.1 (by omega)
      refine r_aload_n rfl rfl ?_
      refine r_getR rfl (by assumption) (by assumption) ?_
      refine r_iload rfl rfl ?_
      refine r_iald rfl (by assumption) (by omega) (by omega) ?_
      refine r_iload_n rfl rfl ?_
      refine r_icmp_ne rfl (by unfold inI; omega) (by unfold inI; omega) (fun h35 => ?_) (fun h35 => ?_)
      · skip
        refine r_iconst rfl ?_
        refine r_istore rfl (Nat.le_of_ble_eq_true rfl) ?_
        refine r_iload rfl rfl ?_
        exact r_if_ne rfl in0 (fun h => absurd rfl h) (fun _ => tF (fun z => by have := hthr.mp z; omega))
      · skip
        refine r_aload_n rfl rfl ?_
        refine r_getR rfl (by assumption) (by assumption) ?_
        refine r_iload rfl rfl ?_
        refine r_iald rfl (by assumption) (by omega) (by omega) ?_
        refine r_iload_n rfl rfl ?_
        refine r_icmp_ne rfl (by unfold inI; omega) (by unfold inI; omega) (fun h41 => ?_) (fun h41 => ?_)
        · skip
          refine r_iconst rfl ?_
          refine r_istore rfl (Nat.le_of_ble_eq_true rfl) ?_
          refine r_iload rfl rfl ?_
          exact r_if_ne rfl in0 (fun h => absurd rfl h) (fun _ => tF (fun z => by have := hthr.mp z; omega))
        · skip
          refine r_iconst rfl ?_
          refine r_goto rfl ?_
          refine r_istore rfl (Nat.le_of_ble_eq_true rfl) ?_
          refine r_iload rfl rfl ?_
          exact r_if_ne rfl i1 (fun _ => tT (hthr.mpr (by omega))) (fun h => absurd h (by decide))
  have key : ∀ k : Int, k ≤ n → 0 ≤ k → fstN (fun t => !lexb (I t) (J t) a b) (n - k).toNat k = psn n I J a b → Run X (d + 1) c_Form_put 2 [some (pR h), some (pI a), some (pI b), some (pI v), some (pI k), none] [] S zI zL 0 0 Q := by
    refine loop_up _ n (fun k hk ih h0 hs => ?_)
    refine r_iload rfl rfl ?_
    refine r_aload_n rfl rfl ?_
    refine r_getI rfl (by assumption) ?_
    refine r_icmp_ge rfl (by unfold inI; omega) (by unfold inI; omega) (fun h5 => ?_) (fun h5 => ?_)
    · skip
      rw [fstN_e (by omega)] at hs
      rw [hs]; exact tail
    · skip
      have ht := hel k h0 (by omega)
      have hg := hrg k h0 (by omega)
      refine r_aload_n rfl rfl ?_
      refine r_getR rfl (by assumption) (by assumption) ?_
      refine r_iload rfl rfl ?_
      refine r_iald rfl (by assumption) (by omega) (by omega) ?_
      refine r_iload_n rfl rfl ?_
      refine r_icmp_lt rfl (by unfold inI; omega) (by unfold inI; omega) (fun h11 => ?_) (fun h11 => ?_)
      · skip
        refine r_iinc rfl rfl ?_
        refine r_goto rfl ?_
        exact ih (by omega) (by omega) (by rw [← fstN_miss (by omega) (by rw [nlex_t]; unfold lexlt; omega)]; exact hs)
      · skip
        refine r_aload_n rfl rfl ?_
        refine r_getR rfl (by assumption) (by assumption) ?_
        refine r_iload rfl rfl ?_
        refine r_iald rfl (by assumption) (by omega) (by omega) ?_
        refine r_iload_n rfl rfl ?_
        refine r_icmp_ne rfl (by unfold inI; omega) (by unfold inI; omega) (fun h17 => ?_) (fun h17 => ?_)
        · skip
          rw [fstN_hit (by omega) (by rw [nlex_f]; unfold lexlt; omega)] at hs
          rw [hs]; exact tail
        · skip
          refine r_aload_n rfl rfl ?_
          refine r_getR rfl (by assumption) (by assumption) ?_
          refine r_iload rfl rfl ?_
          refine r_iald rfl (by assumption) (by omega) (by omega) ?_
          refine r_iload_n rfl rfl ?_
          refine r_icmp_ge rfl (by unfold inI; omega) (by unfold inI; omega) (fun h23 => ?_) (fun h23 => ?_)
          · skip
            rw [fstN_hit (by omega) (by rw [nlex_f]; unfold lexlt; omega)] at hs
            rw [hs]; exact tail
          · skip
            refine r_iinc rfl rfl ?_
            refine r_goto rfl ?_
            exact ih (by omega) (by omega) (by rw [← fstN_miss (by omega) (by rw [nlex_t]; unfold lexlt; omega)]; exact hs)
  refine wp_in (C := c_Form_put) (ls := [some (pR h), some (pI a), some (pI b), some (pI v), none, none]) rfl rfl rfl rfl rfl ?_
  refine r_iconst rfl ?_
  refine r_istore rfl (Nat.le_of_ble_eq_true rfl) ?_
  exact key 0 hn0 (Int.le_refl _) (by rw [Int.sub_zero]; rfl)
end
section
def delF (f : Int → Int) (k : Int) : Int → Int := fun t => if t < k then f t else f (t + 1)
/-- a TERM gone -/
def remP (z z' : ZM) (h : Nat) (n : Int) (I J V : Int → Int) (k : Int) : Prop := (∀ c, c ≠ h → c ≠ h + 1 → c ≠ h + 2 → c ≠ h + 3 → z' c = z c) ∧ z' h 3 = z h 3 ∧ z' h 5 = 0 ∧ FH z' h (n - 1) (delF I k) (delF J k) (delF V k)
theorem w_remove {X : PX} {d : Nat} {S : SS} {zI zL : ZM} {Q : PQ} {h : Nat} {n : Int} {I J V : Int → Int} (hF : isForm S h) (hT : FH zI h n I J V) (hR : FR n I J V) {k : Int} (h0 : 0 ≤ k) (h1 : k < n) (hQ : ∀ z, remP zI z h n I J V k → Q none S z zL) : wpM X (d + 2) fForm_remove [pR h, pI k] S zI zL Q := by
  have hF0 := hF
  have hT0 := hT
  obtain ⟨hob, ⟨hr1, hr2, hr3⟩, hf1, hf2, hf3⟩ := hF
  obtain ⟨e4, hel⟩ := hT
  obtain ⟨hn0, hn40, hrg⟩ := hR
  have e41 : slZ zI h (k + 1) k (n - (k + 1)) h 4 = n := by unfold slZ; simp (disch := omega) only [if_pos, if_neg, ↓reduceIte, true_and, and_true, true_or, or_true, and_self]; exact e4
  have fin : remP zI (zput (zput (slZ zI h (k + 1) k (n - (k + 1))) h 4 (n - 1)) h 5 0) h n I J V k := by
    refine ⟨fun c c0 c1 c2 c3 => ?_, ?_, ?_, ?_, fun t t0 t1 => ?_⟩
    · funext k; unfold zput slZ; simp (disch := omega) only [if_pos, if_neg, ↓reduceIte, true_and, and_true, true_or, or_true, and_self]
    · unfold zput slZ; simp (disch := omega) only [if_pos, if_neg, ↓reduceIte, true_and, and_true, true_or, or_true, and_self]
    · unfold zput; simp (disch := omega) only [if_pos, if_neg, ↓reduceIte, true_and, and_true, true_or, or_true, and_self]
    · unfold zput slZ; simp (disch := omega) only [if_pos, if_neg, ↓reduceIte, true_and, and_true, true_or, or_true, and_self]
    · unfold zput slZ delF
      by_cases e : t < k
      · obtain ⟨g1, g2, g3⟩ := hel t t0 (by omega)
        simp (disch := omega) only [if_pos, if_neg, ↓reduceIte, true_and, and_true, true_or, or_true, and_self]
        exact ⟨g1, g2, g3⟩
      · obtain ⟨g1, g2, g3⟩ := hel (t + 1) (by omega) (by omega)
        simp (disch := omega) only [if_pos, if_neg, ↓reduceIte, true_and, and_true, true_or, or_true, and_self]
        rw [show k + 1 + (t - k) = t + 1 by omega]
        exact ⟨g1, g2, g3⟩
  refine wp_in (C := c_Form_remove) (ls := [some (pR h), some (pI k)]) rfl rfl rfl rfl rfl ?_
  refine r_aload_n rfl rfl ?_
  refine r_iload_n rfl rfl ?_
  refine r_iconst rfl ?_
  refine r_iadd rfl ?_
  refine r_iload_n rfl rfl ?_
  refine r_cV3 rfl (by assumption) (Nat.le_of_ble_eq_true rfl) rfl rfl (w_slide hF0 e4 (by omega) h0 (by omega) (by omega) hn40 hn0 (by omega) ?_)
  refine r_aload_n rfl rfl ?_
  refine r_dupR rfl ?_
  refine r_getI rfl (by assumption) ?_
  refine r_iconst rfl ?_
  refine r_isub rfl ?_
  refine r_putI rfl (by assumption) ?_
  refine r_aload_n rfl rfl ?_
  refine r_iconst rfl ?_
  refine r_putZ rfl (by assumption) (by first | exact Or.inl rfl | exact Or.inr rfl) ?_
  refine r_ret rfl ?_
  rw [e41]; exact hQ _ fin
/-! DRAFTS: a table of places -/
def isDraft (S : SS) (q : Nat) : Prop := ob S q 2 ∧ row S 12 (q + 1) 81 ∧ S.2 q 0 = some (q + 1)
def DH (z : ZM) (q : Nat) (G : Int → Option Int) : Prop := ∀ p, 0 ≤ p → p < 81 → z (q + 1) p = (G p).getD 1000000
def DR (G : Int → Option Int) (B : Int) : Prop := ∀ p v, G p = some v → -B ≤ v ∧ v ≤ B
def gl (G : Int → Option Int) (p v : Int) : Int → Option Int := fun k => if k = p then some (match G p with | none => v | some u => min u v) else G k
theorem DR_gl {G : Int → Option Int} {B p v : Int} (h : DR G B) (hv : -B ≤ v ∧ v ≤ B) : DR (gl G p v) B := by
  intro k u hu
  unfold gl at hu
  split at hu
  · cases hG : G p with
    | none => rw [hG] at hu; cases hu; exact hv
    | some y => rw [hG] at hu; cases hu; have := h p y hG; dsimp only; omega
  · exact h k u hu
theorem DH_b {z : ZM} {q : Nat} {G : Int → Option Int} {B : Int} (h : DH z q G) (hB : DR G B) (h1 : B ≤ 1000000) {p : Int} (h0 : 0 ≤ p) (h81 : p < 81) : -1000000 ≤ z (q + 1) p ∧ z (q + 1) p ≤ 1000000 := by
  rw [h p h0 h81]
  cases hG : G p with
  | none => exact ⟨by decide, by decide⟩
  | some v => have := hB p v hG; show -1000000 ≤ v ∧ v ≤ 1000000; omega
theorem DH_put {z : ZM} {q : Nat} {G : Int → Option Int} {B p v : Int} (h : DH z q G) (hB : DR G B) (h1 : B < 1000000) (h0 : 0 ≤ p) (h81 : p < 81) (hv : v ≤ B) : DH (zput z (q + 1) p (min (z (q + 1) p) v)) q (gl G p v) := by
  intro k k0 k1
  unfold zput gl
  by_cases e : k = p
  · subst e
    rw [if_pos ⟨rfl, rfl⟩, if_pos rfl, h k h0 h81]
    cases hG : G k with
    | none => show min 1000000 v = v; omega
    | some y => rfl
  · rw [if_neg (fun z => e z.2), if_neg e]; exact h k k0 k1
theorem w_clear {X : PX} {d : Nat} {S : SS} {zI zL : ZM} {Q : PQ} {q : Nat} (hD : isDraft S q) (hQ : Q none S (zfill zI (q + 1) 81 1000000) zL) : wpM X (d + 2) fDraft_clear [pR q] S zI zL Q := by
  obtain ⟨hob, hr, hf⟩ := hD
  refine wp_in (C := c_Draft_clear) (ls := [some (pR q)]) rfl rfl rfl rfl rfl ?_
  refine r_aload_n rfl rfl ?_
  refine r_getR rfl (by assumption) (by assumption) ?_
  refine r_ldc rfl ?_
  refine r_cS2 rfl (by decide) (Nat.le_of_ble_eq_true rfl) rfl rfl (w_fillI hr ?_)
  refine r_ret rfl ?_
  exact hQ
theorem DH_clear (z : ZM) (q : Nat) : DH (zfill z (q + 1) 81 1000000) q (fun _ => none) := by
  intro p h0 h1
  unfold zfill
  rw [if_pos ⟨rfl, h0, h1⟩]; rfl
theorem zfill_o {z : ZM} {h c : Nat} {n v : Int} (hc : c ≠ h) : zfill z h n v c = z c := by funext k; unfold zfill; rw [if_neg (fun q => hc q.1)]
theorem w_has {X : PX} {d : Nat} {S : SS} {zI zL : ZM} {Q : PQ} {q : Nat} {G : Int → Option Int} {B p : Int} (hD : isDraft S q) (hG : DH zI q G) (hB : DR G B) (h1 : B < 1000000) (h0 : 0 ≤ p) (h81 : p < 81) (hQ : Q (some (pI (if (G p).isSome then 1 else 0))) S zI zL) : wpM X (d + 1) fDraft_has [pR q, pI p] S zI zL Q := by
  obtain ⟨hob, hr, hf⟩ := hD
  have hb := DH_b hG hB (by omega) h0 h81
  have he := hG p h0 h81
  have hsome : zI (q + 1) p = 1000000 ↔ G p = none := by
    rw [he]
    cases hx : G p with
    | none => simp
    | some v => have := hB p v hx; simp; omega
  refine wp_in (C := c_Draft_has) (ls := [some (pR q), some (pI p)]) rfl rfl rfl rfl rfl ?_
  refine r_aload_n rfl rfl ?_
  refine r_getR rfl (by assumption) (by assumption) ?_
  refine r_iload_n rfl rfl ?_
  refine r_iald rfl (by assumption) (by omega) (by omega) ?_
  refine r_ldc rfl ?_
  refine r_icmp_eq rfl (by unfold inI; omega) (by unfold inI; omega) (fun h5 => ?_) (fun h5 => ?_)
  · skip
    refine r_iconst rfl ?_
    refine r_zret rfl (by first | exact Or.inl rfl | exact Or.inr rfl) ?_
    rw [hsome.mp h5] at hQ; exact hQ
  · skip
    refine r_iconst rfl ?_
    refine r_goto rfl ?_
    refine r_zret rfl (by first | exact Or.inl rfl | exact Or.inr rfl) ?_
    rw [if_pos (by cases hx : G p with
      | none => exact absurd (hsome.mpr hx) h5
      | some v => rfl)] at hQ; exact hQ
theorem w_putLeast {X : PX} {d : Nat} {S : SS} {zI zL : ZM} {Q : PQ} {q : Nat} {i j v : Int} (hD : isDraft S q) (hi : 0 ≤ i ∧ i ≤ 8) (hj : 0 ≤ j ∧ j ≤ 8) (hb : inI (zI (q + 1) (i * 9 + j))) (hv : inI v) (hQ : Q none S (zput zI (q + 1) (i * 9 + j) (min (zI (q + 1) (i * 9 + j)) v)) zL) : wpM X (d + 2) fDraft_putLeast [pR q, pI i, pI j, pI v] S zI zL Q := by
  obtain ⟨hob, hr, hf⟩ := hD
  refine wp_in (C := c_Draft_putLeast) (ls := [some (pR q), some (pI i), some (pI j), some (pI v), none]) rfl rfl rfl rfl rfl ?_
  refine r_iload_n rfl rfl ?_
  refine r_bipush rfl ?_
  refine r_imul rfl ?_
  refine r_iload_n rfl rfl ?_
  refine r_iadd rfl ?_
  refine r_istore rfl (Nat.le_of_ble_eq_true rfl) ?_
  refine r_aload_n rfl rfl ?_
  refine r_getR rfl (by assumption) (by assumption) ?_
  refine r_iload rfl rfl ?_
  refine r_aload_n rfl rfl ?_
  refine r_getR rfl (by assumption) (by assumption) ?_
  refine r_iload rfl rfl ?_
  refine r_iald rfl (by assumption) (by omega) (by omega) ?_
  refine r_iload_n rfl rfl ?_
  refine r_cS2 rfl (by decide) (Nat.le_of_ble_eq_true rfl) rfl rfl (w_min hb hv ?_)
  refine r_iast rfl (by assumption) (by omega) (by omega) ?_
  refine r_ret rfl ?_
  exact hQ
def loadT (I J V : Int → Int) : Nat → Int → (Int → Option Int) → (Int → Option Int)
  | 0, _, G => G
  | m + 1, k, G => loadT I J V m (k + 1) (gl G (I k * 9 + J k) (V k))
theorem loadT_s {I J V : Int → Int} {n k : Int} {G : Int → Option Int} (h : k < n) : loadT I J V (n - k).toNat k G = loadT I J V (n - (k + 1)).toNat (k + 1) (gl G (I k * 9 + J k) (V k)) := by
  rw [show (n - k).toNat = (n - (k + 1)).toNat + 1 by omega]; rfl
theorem loadT_e {I J V : Int → Int} {n k : Int} {G : Int → Option Int} (h : n ≤ k) : loadT I J V (n - k).toNat k G = G := by rw [show (n - k).toNat = 0 by omega]; rfl
def loadG (n : Int) (I J V : Int → Int) : Int → Option Int := loadT I J V n.toNat 0 (fun _ => none)
theorem FH_frame {z z' : ZM} {h q : Nat} {n : Int} {I J V : Int → Int} (hz : ∀ c, c ≠ q → z' c = z c) (hq : q < h) (hT : FH z h n I J V) : FH z' h n I J V := by
  obtain ⟨e, he⟩ := hT
  unfold FH
  rw [hz h (by omega), hz (h + 1) (by omega), hz (h + 2) (by omega), hz (h + 3) (by omega)]
  exact ⟨e, he⟩
theorem DR_load {I J V : Int → Int} {B : Int} : ∀ (m : Nat) (k : Int) (G : Int → Option Int), DR G B → (∀ t, k ≤ t → t < k + m → -B ≤ V t ∧ V t ≤ B) → DR (loadT I J V m k G) B
  | 0, _, _, h, _ => h
  | m + 1, k, G, h, hv => DR_load m (k + 1) _ (DR_gl h (hv k (Int.le_refl _) (by omega))) (fun t q1 q2 => hv t (by omega) (by omega))
def dP (z z' : ZM) (q : Nat) (G : Int → Option Int) : Prop := (∀ c, c ≠ q + 1 → z' c = z c) ∧ DH z' q G
theorem w_load {X : PX} {d : Nat} {S : SS} {zI zL : ZM} {Q : PQ} {h : Nat} {n : Int} {I J V : Int → Int} (hF : isForm S h) (hT : FH zI h n I J V) (hR : FR n I J V) {q : Nat} (hD : isDraft S q) (hqh : q + 1 < h) (hQ : ∀ z, dP zI z q (loadG n I J V) → Q none S z zL) : wpM X (d + 3) fDraft_load [pR q, pR h] S zI zL Q := by
  have hT0 := hT
  obtain ⟨hob, ⟨hr1, hr2, hr3⟩, hf1, hf2, hf3⟩ := hF
  obtain ⟨e4, hel⟩ := hT
  obtain ⟨hn0, hn40, hrg⟩ := hR
  have key : ∀ k : Int, k ≤ n → 0 ≤ k → ∀ (z : ZM) (G : Int → Option Int), (∀ c, c ≠ q + 1 → z c = zI c) → DH z q G → DR G 200 → loadT I J V (n - k).toNat k G = loadG n I J V → Run X (d + 2) c_Draft_load 4 [some (pR q), some (pR h), some (pI k)] [] S z zL 0 0 Q := by
    refine loop_up _ n (fun k hk ih h0 z G hz hG hB hs => ?_)
    obtain ⟨e4, hel⟩ := FH_frame hz hqh hT0
    refine r_iload_n rfl rfl ?_
    refine r_aload_n rfl rfl ?_
    refine r_getI rfl (by assumption) ?_
    refine r_icmp_ge rfl (by unfold inI; omega) (by unfold inI; omega) (fun h7 => ?_) (fun h7 => ?_)
    · skip
      refine r_ret rfl ?_
      rw [loadT_e (by omega)] at hs; subst hs; exact hQ _ ⟨hz, hG⟩
    · skip
      obtain ⟨g1, g2, g3⟩ := hel k h0 (by omega)
      have hg := hrg k h0 (by omega)
      have hb := DH_b hG hB (by omega) (p := I k * 9 + J k) (by omega) (by omega)
      refine r_aload_n rfl rfl ?_
      refine r_aload_n rfl rfl ?_
      refine r_getR rfl (by assumption) (by assumption) ?_
      refine r_iload_n rfl rfl ?_
      refine r_iald rfl (by assumption) (by omega) (by omega) ?_
      refine r_aload_n rfl rfl ?_
      refine r_getR rfl (by assumption) (by assumption) ?_
      refine r_iload_n rfl rfl ?_
      refine r_iald rfl (by assumption) (by omega) (by omega) ?_
      refine r_aload_n rfl rfl ?_
      refine r_getR rfl (by assumption) (by assumption) ?_
      refine r_iload_n rfl rfl ?_
      refine r_iald rfl (by assumption) (by omega) (by omega) ?_
      rw [g1, g2, g3]
      refine r_cV4 rfl hD.1 (Nat.le_of_ble_eq_true rfl) rfl rfl (w_putLeast hD (by omega) (by omega) (by unfold inI; omega) (by unfold inI; omega) ?_)
      refine r_iinc rfl rfl ?_
      refine r_goto rfl ?_
      exact ih (by omega) (by omega) _ _ (fun c hc => by rw [← hz c hc]; exact zput_row hc) (DH_put hG hB (by omega) (by omega) (by omega) (by omega)) (DR_gl hB (by omega)) (by rw [← loadT_s (by omega)]; exact hs)
  refine wp_in (C := c_Draft_load) (ls := [some (pR q), some (pR h), none]) rfl rfl rfl rfl rfl ?_
  refine r_aload_n rfl rfl ?_
  refine r_cV1 rfl hD.1 (Nat.le_of_ble_eq_true rfl) rfl rfl (w_clear hD ?_)
  refine r_iconst rfl ?_
  refine r_istore_n rfl (Nat.le_of_ble_eq_true rfl) ?_
  exact key 0 hn0 (Int.le_refl _) _ _ (fun c hc => zfill_o hc) (DH_clear _ _) (fun p v h => by cases h) (by rw [Int.sub_zero]; rfl)
end
section
/-! DRAFTS: sums, shifts, what fits, pouring -/
theorem td9 {p : Int} (h : 0 ≤ p) : p.tdiv 9 = p / 9 := Int.tdiv_eq_ediv_of_nonneg h
theorem tm9 {p : Int} (h : 0 ≤ p) : p.tmod 9 = p % 9 := Int.tmod_eq_emod_of_nonneg h
def bey1 (p i j : Int) : Bool := decide (8 < p / 9 + i) || decide (8 < p % 9 + j)
theorem bey1_t {p i j : Int} : bey1 p i j = true ↔ (8 < p / 9 + i ∨ 8 < p % 9 + j) := by unfold bey1; simp
theorem bey1_f {p i j : Int} : bey1 p i j = false ↔ (p / 9 + i ≤ 8 ∧ p % 9 + j ≤ 8) := by
  have := bey1_t (p := p) (i := i) (j := j)
  cases h : bey1 p i j
  · simp; rw [h] at this; simp at this; omega
  · simp; rw [h] at this; simp at this; omega
def addT (p u : Int) (I J V : Int → Int) : Nat → Int → (Int → Option Int) → (Int → Option Int)
  | 0, _, G => G
  | m + 1, k, G => addT p u I J V m (k + 1) (if bey1 p (I k) (J k) then G else gl G ((p / 9 + I k) * 9 + (p % 9 + J k)) (u + V k))
def beyT (p : Int) (I J : Int → Int) : Nat → Int → Bool
  | 0, _ => false
  | m + 1, k => bey1 p (I k) (J k) || beyT p I J m (k + 1)
theorem addT_s {p u : Int} {I J V : Int → Int} {n k : Int} {G : Int → Option Int} (h : k < n) (hb : bey1 p (I k) (J k) = false) : addT p u I J V (n - k).toNat k G = addT p u I J V (n - (k + 1)).toNat (k + 1) (gl G ((p / 9 + I k) * 9 + (p % 9 + J k)) (u + V k)) := by
  rw [show (n - k).toNat = (n - (k + 1)).toNat + 1 by omega]
  show addT p u I J V _ (k + 1) (if bey1 p (I k) (J k) then G else _) = _
  rw [hb]; rfl
theorem addT_e {p u : Int} {I J V : Int → Int} {n k : Int} {G : Int → Option Int} (h : n ≤ k) : addT p u I J V (n - k).toNat k G = G := by rw [show (n - k).toNat = 0 by omega]; rfl
theorem beyT_s {p : Int} {I J : Int → Int} {n k : Int} (h : k < n) : beyT p I J (n - k).toNat k = (bey1 p (I k) (J k) || beyT p I J (n - (k + 1)).toNat (k + 1)) := by
  rw [show (n - k).toNat = (n - (k + 1)).toNat + 1 by omega]; rfl
theorem beyT_e {p : Int} {I J : Int → Int} {n k : Int} (h : n ≤ k) : beyT p I J (n - k).toNat k = false := by rw [show (n - k).toNat = 0 by omega]; rfl
theorem DR_addT {p u : Int} {I J V : Int → Int} {B : Int} : ∀ (m : Nat) (k : Int) (G : Int → Option Int), DR G B → (∀ t, k ≤ t → t < k + m → -B ≤ u + V t ∧ u + V t ≤ B) → DR (addT p u I J V m k G) B
  | 0, _, _, h, _ => h
  | m + 1, k, G, h, hv => by
    unfold addT
    refine DR_addT m (k + 1) _ ?_ (fun t q1 q2 => hv t (by omega) (by omega))
    split
    · exact h
    · exact DR_gl h (hv k (Int.le_refl _) (by omega))
set_option maxHeartbeats 2000000 in
theorem w_addTerm {X : PX} {d : Nat} {S : SS} {zI zL : ZM} {Q : PQ} {h : Nat} {n : Int} {I J V : Int → Int} (hF : isForm S h) (hT : FH zI h n I J V) (hR : FR n I J V) {q : Nat} {G : Int → Option Int} {B p u : Int} (hD : isDraft S q) (hqh : q + 1 < h) (hG : DH zI q G) (hB : DR G B) (h1 : B < 1000000) (hp : 0 ≤ p ∧ p < 81) (hu : -(B - 200) ≤ u ∧ u ≤ B - 200)
    (hQ0 : beyT p I J n.toNat 0 = true → ∀ z, (∀ c, c ≠ q + 1 → z c = zI c) → Q (some (pI 0)) S z zL) (hQ1 : beyT p I J n.toNat 0 = false → ∀ z, dP zI z q (addT p u I J V n.toNat 0 G) → Q (some (pI 1)) S z zL) : wpM X (d + 3) fDraft_addTerm [pR q, pI p, pI u, pR h] S zI zL Q := by
  have hT0 := hT
  obtain ⟨hob, ⟨hr1, hr2, hr3⟩, hf1, hf2, hf3⟩ := hF
  obtain ⟨e4, hel⟩ := hT
  obtain ⟨hn0, hn40, hrg⟩ := hR
  have ed := td9 hp.1
  have em := tm9 hp.1
  have i9 : inI 9 := by unfold inI; omega
  have hin : inI p := by unfold inI; omega
  have key : ∀ k : Int, k ≤ n → 0 ≤ k → ∀ (z : ZM) (G' : Int → Option Int) (x y : Option PV), (∀ c, c ≠ q + 1 → z c = zI c) → DH z q G' → DR G' B → addT p u I J V (n - k).toNat k G' = addT p u I J V n.toNat 0 G → beyT p I J (n - k).toNat k = beyT p I J n.toNat 0 → (∀ w, x ≠ some (pL w)) → Run X (d + 2) c_Draft_addTerm 2 [some (pR q), some (pI p), some (pI u), some (pR h), some (pI k), x, y] [] S z zL 0 0 Q := by
    refine loop_up _ n (fun k hk ih h0 z G' x y hz hG' hB' hs hb hx => ?_)
    obtain ⟨e4, hel⟩ := FH_frame hz hqh hT0
    refine r_iload rfl rfl ?_
    refine r_aload_n rfl rfl ?_
    refine r_getI rfl (by assumption) ?_
    refine r_icmp_ge rfl (by unfold inI; omega) (by unfold inI; omega) (fun h5 => ?_) (fun h5 => ?_)
    · skip
      refine r_iconst rfl ?_
      refine r_zret rfl (by first | exact Or.inl rfl | exact Or.inr rfl) ?_
      rw [addT_e (by omega)] at hs; rw [beyT_e (by omega)] at hb; exact hQ1 hb.symm _ ⟨hz, by rw [← hs]; exact hG'⟩
    · skip
      obtain ⟨g1, g2, g3⟩ := hel k h0 (by omega)
      have hg := hrg k h0 (by omega)
      refine r_iload_n rfl rfl ?_
      refine r_bipush rfl ?_
      refine r_idiv rfl hin i9 (by decide) ?_
      rw [ed]
      refine r_aload_n rfl rfl ?_
      refine r_getR rfl (by assumption) (by assumption) ?_
      refine r_iload rfl rfl ?_
      refine r_iald rfl (by assumption) (by omega) (by omega) ?_
      rw [g1]
      refine r_iadd rfl ?_
      refine r_istore rfl (Nat.le_of_ble_eq_true rfl) ?_
      refine r_iload_n rfl rfl ?_
      refine r_bipush rfl ?_
      refine r_irem rfl hin i9 (by decide) ?_
      rw [em]
      refine r_aload_n rfl rfl ?_
      refine r_getR rfl (by assumption) (by assumption) ?_
      refine r_iload rfl rfl ?_
      refine r_iald rfl (by assumption) (by omega) (by omega) ?_
      rw [g2]
      refine r_iadd rfl ?_
      refine r_istore rfl (Nat.le_of_ble_eq_true rfl) ?_
      refine r_iload rfl rfl ?_
      refine r_bipush rfl ?_
      refine r_icmp_gt rfl (by unfold inI; omega) (by unfold inI; omega) (fun h26 => ?_) (fun h26 => ?_)
      · skip
        refine r_iconst rfl ?_
        refine r_zret rfl (by first | exact Or.inl rfl | exact Or.inr rfl) ?_
        rw [beyT_s (by omega), bey1_t.mpr (by omega)] at hb; exact hQ0 hb.symm _ hz
      · skip
        refine r_iload rfl rfl ?_
        refine r_bipush rfl ?_
        refine r_icmp_le rfl (by unfold inI; omega) (by unfold inI; omega) (fun h29 => ?_) (fun h29 => ?_)
        · skip
          have hbf : bey1 p (I k) (J k) = false := bey1_f.mpr (by omega)
          have hpl : 0 ≤ (p / 9 + I k) * 9 + (p % 9 + J k) ∧ (p / 9 + I k) * 9 + (p % 9 + J k) < 81 := by omega
          have hbb := DH_b hG' hB' (by omega) hpl.1 hpl.2
          refine r_aload_n rfl rfl ?_
          refine r_iload rfl rfl ?_
          refine r_iload rfl rfl ?_
          refine r_iload_n rfl rfl ?_
          refine r_aload_n rfl rfl ?_
          refine r_getR rfl (by assumption) (by assumption) ?_
          refine r_iload rfl rfl ?_
          refine r_iald rfl (by assumption) (by omega) (by omega) ?_
          rw [g3]
          refine r_iadd rfl ?_
          refine r_cV4 rfl hD.1 (Nat.le_of_ble_eq_true rfl) rfl rfl (w_putLeast hD (by omega) (by omega) (by unfold inI; omega) (by unfold inI; omega) ?_)
          refine r_iinc rfl rfl ?_
          refine r_goto rfl ?_
          exact ih (by omega) (by omega) _ _ _ _ (fun c hc => by rw [← hz c hc]; exact zput_row hc) (DH_put hG' hB' h1 hpl.1 hpl.2 (by omega)) (DR_gl hB' (by omega)) (by rw [← addT_s (by omega) hbf]; exact hs) (by rw [beyT_s (by omega), hbf] at hb; exact hb) (fun w h => by cases h)
        · skip
          refine r_iconst rfl ?_
          refine r_zret rfl (by first | exact Or.inl rfl | exact Or.inr rfl) ?_
          rw [beyT_s (by omega), bey1_t.mpr (by omega)] at hb; exact hQ0 hb.symm _ hz
  refine wp_in (C := c_Draft_addTerm) (ls := [some (pR q), some (pI p), some (pI u), some (pR h), none, none, none]) rfl rfl rfl rfl rfl ?_
  refine r_iconst rfl ?_
  refine r_istore rfl (Nat.le_of_ble_eq_true rfl) ?_
  exact key 0 hn0 (Int.le_refl _) _ G none none (fun _ _ => rfl) hG hB (by rw [Int.sub_zero]) (by rw [Int.sub_zero]) (fun w h => by cases h)
def addO (G1 : Int → Option Int) (n : Int) (I J V : Int → Int) : Nat → Int → (Int → Option Int) → (Int → Option Int)
  | 0, _, G => G
  | m + 1, p, G => addO G1 n I J V m (p + 1) (match G1 p with | none => G | some u => addT p u I J V n.toNat 0 G)
def beyO (G1 : Int → Option Int) (n : Int) (I J : Int → Int) : Nat → Int → Bool
  | 0, _ => false
  | m + 1, p => (match G1 p with | none => false | some _ => beyT p I J n.toNat 0) || beyO G1 n I J m (p + 1)
theorem addO_s {G1 : Int → Option Int} {n : Int} {I J V : Int → Int} {N p : Int} {G : Int → Option Int} (h : p < N) : addO G1 n I J V (N - p).toNat p G = addO G1 n I J V (N - (p + 1)).toNat (p + 1) (match G1 p with | none => G | some u => addT p u I J V n.toNat 0 G) := by
  rw [show (N - p).toNat = (N - (p + 1)).toNat + 1 by omega]; rfl
theorem addO_e {G1 : Int → Option Int} {n : Int} {I J V : Int → Int} {N p : Int} {G : Int → Option Int} (h : N ≤ p) : addO G1 n I J V (N - p).toNat p G = G := by rw [show (N - p).toNat = 0 by omega]; rfl
theorem beyO_s {G1 : Int → Option Int} {n : Int} {I J : Int → Int} {N p : Int} (h : p < N) : beyO G1 n I J (N - p).toNat p = ((match G1 p with | none => false | some _ => beyT p I J n.toNat 0) || beyO G1 n I J (N - (p + 1)).toNat (p + 1)) := by
  rw [show (N - p).toNat = (N - (p + 1)).toNat + 1 by omega]; rfl
theorem beyO_e {G1 : Int → Option Int} {n : Int} {I J : Int → Int} {N p : Int} (h : N ≤ p) : beyO G1 n I J (N - p).toNat p = false := by rw [show (N - p).toNat = 0 by omega]; rfl
def sumG (G1 : Int → Option Int) (n : Int) (I J V : Int → Int) : Int → Option Int := addO G1 n I J V 81 0 (fun _ => none)
def sumB (G1 : Int → Option Int) (n : Int) (I J : Int → Int) : Bool := beyO G1 n I J 81 0
theorem DH_frame {z z' : ZM} {q q1 : Nat} {G : Int → Option Int} (hz : ∀ c, c ≠ q + 1 → z' c = z c) (hq : q1 ≠ q) (h : DH z q1 G) : DH z' q1 G := fun p h0 h1 => by rw [hz (q1 + 1) (by omega)]; exact h p h0 h1
theorem DR_mono {G : Int → Option Int} {B B' : Int} (h : DR G B) (hb : B ≤ B') : DR G B' := fun p v hv => by have := h p v hv; omega
theorem DR_addO {G1 : Int → Option Int} {n : Int} {I J V : Int → Int} {B : Int} (hR : FR n I J V) (hB1 : DR G1 (B - 200)) : ∀ (m : Nat) (p : Int) (G : Int → Option Int), DR G B → DR (addO G1 n I J V m p G) B
  | 0, _, _, h => h
  | m + 1, p, G, h => by
    unfold addO
    refine DR_addO hR hB1 m (p + 1) _ ?_
    cases hu : G1 p with
    | none => exact h
    | some u =>
      refine DR_addT _ _ _ h (fun t q1 q2 => ?_)
      have h1 := hB1 p u hu
      have h2 := hR.2.2 t q1 (by have := hR.1; omega)
      omega
set_option maxHeartbeats 2000000 in
theorem w_addUp {X : PX} {d : Nat} {S : SS} {zI zL : ZM} {Q : PQ} {h : Nat} {n : Int} {I J V : Int → Int} (hF : isForm S h) (hT : FH zI h n I J V) (hR : FR n I J V) {q q1 : Nat} {G1 : Int → Option Int} {B : Int} (hD : isDraft S q) (hD1 : isDraft S q1) (hqq : q1 ≠ q) (hqh : q + 1 < h) (hG1 : DH zI q1 G1) (hB1 : DR G1 (B - 200)) (hB2 : 200 ≤ B) (h1 : B < 1000000)
    (hQ0 : sumB G1 n I J = true → ∀ z, (∀ c, c ≠ q + 1 → z c = zI c) → Q (some (pI 0)) S z zL) (hQ1 : sumB G1 n I J = false → ∀ z, dP zI z q (sumG G1 n I J V) → Q (some (pI 1)) S z zL) : wpM X (d + 4) fDraft_addUp [pR q, pR q1, pR h] S zI zL Q := by
  have hF0 := hF
  have hT0 := hT
  have hR0 := hR
  have hob1 := hD1.1
  have hrq1 := hD1.2.1
  have hfq1 := hD1.2.2
  have i01 : inI 1 := by unfold inI; omega
  have key : ∀ p : Int, p ≤ 81 → 0 ≤ p → ∀ (z : ZM) (G' : Int → Option Int), (∀ c, c ≠ q + 1 → z c = zI c) → DH z q G' → DR G' B → addO G1 n I J V (81 - p).toNat p G' = sumG G1 n I J V → beyO G1 n I J (81 - p).toNat p = sumB G1 n I J → Run X (d + 3) c_Draft_addUp 4 [some (pR q), some (pR q1), some (pR h), some (pI p)] [] S z zL 0 0 Q := by
    refine loop_up _ 81 (fun p hk ih h0 z G' hz hG' hB' hs hb => ?_)
    have hG1' := DH_frame hz hqq hG1
    refine r_iload_n rfl rfl ?_
    refine r_bipush rfl ?_
    refine r_icmp_ge rfl (by unfold inI; omega) (by unfold inI; omega) (fun h6 => ?_) (fun h6 => ?_)
    · skip
      refine r_iconst rfl ?_
      refine r_zret rfl (by first | exact Or.inl rfl | exact Or.inr rfl) ?_
      rw [addO_e (by omega)] at hs; rw [beyO_e (by omega)] at hb; exact hQ1 hb.symm _ ⟨hz, by rw [← hs]; exact hG'⟩
    · skip
      refine r_aload_n rfl rfl ?_
      refine r_iload_n rfl rfl ?_
      refine r_cV2 rfl hD1.1 (Nat.le_of_ble_eq_true rfl) rfl rfl (w_has hD1 hG1' hB1 (by omega) h0 (by omega) ?_)
      cases hu : G1 p with
      | none =>
        refine r_if_eq rfl in0 (fun _ => ?_) (fun h => absurd rfl h)
        refine r_iinc rfl rfl ?_
        refine r_goto rfl ?_
        exact ih (by omega) (by omega) z G' hz hG' hB' (by rw [addO_s (by omega), hu] at hs; exact hs) (by rw [beyO_s (by omega), hu] at hb; exact hb)
      | some u =>
        have hu1 := hB1 p u hu
        have eu : z (q1 + 1) p = u := by rw [hG1' p h0 (by omega), hu]; rfl
        refine r_if_eq rfl i01 (fun h => absurd (show (1 : Int) = 0 from h) (by decide)) (fun _ => ?_)
        refine r_aload_n rfl rfl ?_
        refine r_iload_n rfl rfl ?_
        refine r_aload_n rfl rfl ?_
        refine r_getR rfl (by assumption) (by assumption) ?_
        refine r_iload_n rfl rfl ?_
        refine r_iald rfl (by assumption) (by omega) (by omega) ?_
        rw [eu]
        refine r_aload_n rfl rfl ?_
        refine r_cV4 rfl hD.1 (Nat.le_of_ble_eq_true rfl) rfl rfl (w_addTerm hF0 (FH_frame hz hqh hT0) hR0 hD hqh hG' hB' h1 ⟨h0, by omega⟩ (by omega) (fun hb1 z2 hz2 => ?_) (fun hb1 z2 hz2 => ?_))
        · refine r_if_ne rfl in0 (fun h => absurd rfl h) (fun _ => ?_)
          refine r_iconst rfl ?_
          refine r_zret rfl (Or.inl rfl) ?_
          rw [beyO_s (by omega), hu] at hb
          exact hQ0 (by rw [← hb]; dsimp only; rw [hb1]; rfl) _ (fun c hc => (hz2 c hc).trans (hz c hc))
        · refine r_if_ne rfl i01 (fun _ => ?_) (fun h => absurd h (by decide))
          refine r_iinc rfl rfl ?_
          refine r_goto rfl ?_
          refine ih (by omega) (by omega) z2 _ (fun c hc => (hz2.1 c hc).trans (hz c hc)) hz2.2 (DR_addT _ _ _ hB' (fun t q1 q2 => ?_)) (by rw [addO_s (by omega), hu] at hs; exact hs) (by rw [beyO_s (by omega), hu] at hb; dsimp only at hb; rw [hb1] at hb; exact hb)
          have h2 := hR0.2.2 t q1 (by have := hR0.1; omega)
          omega
  refine wp_in (C := c_Draft_addUp) (ls := [some (pR q), some (pR q1), some (pR h), none]) rfl rfl rfl rfl rfl ?_
  refine r_aload_n rfl rfl ?_
  refine r_cV1 rfl hD.1 (Nat.le_of_ble_eq_true rfl) rfl rfl (w_clear hD ?_)
  refine r_iconst rfl ?_
  refine r_istore_n rfl (Nat.le_of_ble_eq_true rfl) ?_
  exact key 0 (by omega) (Int.le_refl _) _ _ (fun c hc => zfill_o hc) (DH_clear _ _) (fun p v h => by cases h) rfl rfl
end
section
def shG (G : Int → Option Int) (u v N : Int) : Int → Option Int := fun p => if 0 ≤ p ∧ p < N then (G p).map (fun x => x + (p / 9 * u + p % 9 * v)) else G p
theorem shG_0 (G : Int → Option Int) (u v : Int) : shG G u v 0 = G := by funext p; unfold shG; rw [if_neg (by omega)]
theorem shG_no {G : Int → Option Int} {u v N : Int} (h : G N = none) : shG G u v (N + 1) = shG G u v N := by
  funext p; unfold shG
  by_cases e : p = N
  · subst e; rw [h]; simp
  · by_cases h1 : 0 ≤ p ∧ p < N
    · rw [if_pos h1, if_pos (by omega)]
    · rw [if_neg h1, if_neg (by omega)]
theorem DH_sh {z : ZM} {q : Nat} {G : Int → Option Int} {u v N x : Int} (h : DH z q (shG G u v N)) (h0 : 0 ≤ N) (hx : G N = some x) : DH (zput z (q + 1) N (x + (N / 9 * u + N % 9 * v))) q (shG G u v (N + 1)) := by
  intro p p0 p1
  unfold zput shG
  by_cases e : p = N
  · subst e; rw [if_pos ⟨rfl, rfl⟩, if_pos (by omega), hx]; rfl
  · rw [if_neg (fun z => e z.2), h p p0 p1]
    unfold shG
    by_cases h1 : 0 ≤ p ∧ p < N
    · rw [if_pos h1, if_pos (by omega)]
    · rw [if_neg h1, if_neg (by omega)]
theorem DR_sh {G : Int → Option Int} {u v N B : Int} (h : DR G B) (hu : -10 ≤ u ∧ u ≤ 10) (hv : -10 ≤ v ∧ v ≤ 10) (hN : N ≤ 81) : DR (shG G u v N) (B + 160) := by
  intro p y hy
  unfold shG at hy
  by_cases h1 : 0 ≤ p ∧ p < N
  · rw [if_pos h1] at hy
    cases hG : G p with
    | none => rw [hG] at hy; cases hy
    | some x =>
      rw [hG] at hy
      have hx := h p x hG
      have a1 := mb (a := p / 9) (A := 8) (B := 10) (by omega) (by omega) hu.1 hu.2
      have a2 := mb (a := p % 9) (A := 8) (B := 10) (by omega) (by omega) hv.1 hv.2
      have hy : x + (p / 9 * u + p % 9 * v) = y := Option.some.inj hy
      omega
  · rw [if_neg h1] at hy
    have := h p y hy; omega
set_option maxHeartbeats 2000000 in
theorem w_shift {X : PX} {d : Nat} {S : SS} {zI zL : ZM} {Q : PQ} {q : Nat} {G : Int → Option Int} {B u v : Int} (hD : isDraft S q) (hG : DH zI q G) (hB : DR G B) (h1 : B + 160 < 1000000) (hu : -10 ≤ u ∧ u ≤ 10) (hv : -10 ≤ v ∧ v ≤ 10) (hQ : ∀ z, dP zI z q (shG G u v 81) → Q none S z zL) : wpM X (d + 2) fDraft_shift [pR q, pI u, pI v] S zI zL Q := by
  have hob := hD.1
  have hr := hD.2.1
  have hf := hD.2.2
  have i01 : inI 1 := by unfold inI; omega
  have i9 : inI 9 := by unfold inI; omega
  have key : ∀ p : Int, p ≤ 81 → 0 ≤ p → ∀ (z : ZM), (∀ c, c ≠ q + 1 → z c = zI c) → DH z q (shG G u v p) → Run X (d + 1) c_Draft_shift 2 [some (pR q), some (pI u), some (pI v), some (pI p)] [] S z zL 0 0 Q := by
    refine loop_up _ 81 (fun p hk ih h0 z hz hG' => ?_)
    have hB' := DR_sh (N := p) hB hu hv hk
    have ed := td9 h0
    have em := tm9 h0
    have hin : inI p := by unfold inI; omega
    refine r_iload_n rfl rfl ?_
    refine r_bipush rfl ?_
    refine r_icmp_ge rfl (by unfold inI; omega) (by unfold inI; omega) (fun h4 => ?_) (fun h4 => ?_)
    · skip
      refine r_ret rfl ?_
      rw [show p = 81 by omega] at hG'; exact hQ _ ⟨hz, hG'⟩
    · skip
      refine r_aload_n rfl rfl ?_
      refine r_iload_n rfl rfl ?_
      refine r_cV2 rfl (by assumption) (Nat.le_of_ble_eq_true rfl) rfl rfl (w_has hD hG' hB' (by omega) h0 (by omega) ?_)
      cases hu1 : G p with
      | none =>
        have e : shG G u v p p = none := by unfold shG; rw [if_neg (by omega)]; exact hu1
        rw [e]
        refine r_if_eq rfl in0 (fun _ => ?_) (fun h => absurd rfl h)
        refine r_iinc rfl rfl ?_
        refine r_goto rfl ?_
        exact ih (by omega) (by omega) z hz (by rw [shG_no hu1]; exact hG')
      | some x =>
        have e : shG G u v p p = some x := by unfold shG; rw [if_neg (by omega)]; exact hu1
        have ex : z (q + 1) p = x := by rw [hG' p h0 (by omega), e]; rfl
        rw [e]
        refine r_if_eq rfl i01 (fun h => absurd (show (1 : Int) = 0 from h) (by decide)) (fun _ => ?_)
        refine r_aload_n rfl rfl ?_
        refine r_getR rfl (by assumption) (by assumption) ?_
        refine r_iload_n rfl rfl ?_
        refine r_dup2 rfl ?_
        refine r_iald rfl (by assumption) (by omega) (by omega) ?_
        rw [ex]
        refine r_iload_n rfl rfl ?_
        refine r_bipush rfl ?_
        refine r_idiv rfl hin i9 (by decide) ?_
        rw [ed]
        refine r_iload_n rfl rfl ?_
        refine r_imul rfl ?_
        refine r_iload_n rfl rfl ?_
        refine r_bipush rfl ?_
        refine r_irem rfl hin i9 (by decide) ?_
        rw [em]
        refine r_iload_n rfl rfl ?_
        refine r_imul rfl ?_
        refine r_iadd rfl ?_
        refine r_iadd rfl ?_
        refine r_iast rfl (by assumption) (by omega) (by omega) ?_
        refine r_iinc rfl rfl ?_
        refine r_goto rfl ?_
        exact ih (by omega) (by omega) _ (fun c hc => by rw [← hz c hc]; exact zput_row hc) (DH_sh hG' h0 hu1)
  refine wp_in (C := c_Draft_shift) (ls := [some (pR q), some (pI u), some (pI v), none]) rfl rfl rfl rfl rfl ?_
  refine r_iconst rfl ?_
  refine r_istore_n rfl (Nat.le_of_ble_eq_true rfl) ?_
  exact key 0 (by omega) (Int.le_refl _) _ (fun _ _ => rfl) (by rw [shG_0]; exact hG)
def fitT (G : Int → Option Int) : Nat → Int → Int → Bool
  | 0, _, n => decide (n ≤ 40)
  | m + 1, p, n => match G p with
    | none => fitT G m (p + 1) n
    | some v => if -200 ≤ v ∧ v ≤ 200 then fitT G m (p + 1) (n + 1) else false
theorem fitT_n {G : Int → Option Int} {N p n : Int} (h : p < N) (hG : G p = none) : fitT G (N - p).toNat p n = fitT G (N - (p + 1)).toNat (p + 1) n := by
  rw [show (N - p).toNat = (N - (p + 1)).toNat + 1 by omega]
  show (match G p with | none => _ | some v => _) = _
  rw [hG]
theorem fitT_s {G : Int → Option Int} {N p n v : Int} (h : p < N) (hG : G p = some v) : fitT G (N - p).toNat p n = if -200 ≤ v ∧ v ≤ 200 then fitT G (N - (p + 1)).toNat (p + 1) (n + 1) else false := by
  rw [show (N - p).toNat = (N - (p + 1)).toNat + 1 by omega]
  show (match G p with | none => _ | some v => _) = _
  rw [hG]
theorem fitT_e {G : Int → Option Int} {N p n : Int} (h : N ≤ p) : fitT G (N - p).toNat p n = decide (n ≤ 40) := by rw [show (N - p).toNat = 0 by omega]; rfl
def fitG (G : Int → Option Int) : Bool := fitT G 81 0 0
theorem w_fits {X : PX} {d : Nat} {S : SS} {zI zL : ZM} {Q : PQ} {q : Nat} {G : Int → Option Int} {B : Int} (hD : isDraft S q) (hG : DH zI q G) (hB : DR G B) (h1 : B < 1000000) (hQ : Q (some (pI (if fitG G then 1 else 0))) S zI zL) : wpM X (d + 2) fDraft_fits [pR q] S zI zL Q := by
  have hob := hD.1
  have hr := hD.2.1
  have hf := hD.2.2
  have i01 : inI 1 := by unfold inI; omega
  have key : ∀ p : Int, p ≤ 81 → 0 ≤ p → ∀ n : Int, 0 ≤ n → n ≤ p → fitT G (81 - p).toNat p n = fitG G → Run X (d + 1) c_Draft_fits 4 [some (pR q), some (pI n), some (pI p)] [] S zI zL 0 0 Q := by
    refine loop_up _ 81 (fun p hk ih h0 n hn0 hnp hs => ?_)
    have hin : inI p := by unfold inI; omega
    refine r_iload_n rfl rfl ?_
    refine r_bipush rfl ?_
    refine r_icmp_ge rfl (by unfold inI; omega) (by unfold inI; omega) (fun h6 => ?_) (fun h6 => ?_)
    · skip
      refine r_iload_n rfl rfl ?_
      refine r_bipush rfl ?_
      refine r_icmp_gt rfl (by unfold inI; omega) (by unfold inI; omega) (fun h26 => ?_) (fun h26 => ?_)
      · skip
        refine r_iconst rfl ?_
        refine r_zret rfl (by first | exact Or.inl rfl | exact Or.inr rfl) ?_
        rw [fitT_e (by omega), decide_eq_false (by omega)] at hs; rw [← hs] at hQ; exact hQ
      · skip
        refine r_iconst rfl ?_
        refine r_goto rfl ?_
        refine r_zret rfl (by first | exact Or.inl rfl | exact Or.inr rfl) ?_
        rw [fitT_e (by omega), decide_eq_true (by omega)] at hs; rw [← hs] at hQ; exact hQ
    · skip
      refine r_aload_n rfl rfl ?_
      refine r_iload_n rfl rfl ?_
      refine r_cV2 rfl (by assumption) (Nat.le_of_ble_eq_true rfl) rfl rfl (w_has hD hG hB (by omega) h0 (by omega) ?_)
      cases hu1 : G p with
      | none =>
        refine r_if_eq rfl in0 (fun _ => ?_) (fun h => absurd rfl h)
        refine r_iinc rfl rfl ?_
        refine r_goto rfl ?_
        exact ih (by omega) (by omega) n hn0 (by omega) (by rw [fitT_n (by omega) hu1] at hs; exact hs)
      | some x =>
        have ex : zI (q + 1) p = x := by rw [hG p h0 (by omega), hu1]; rfl
        have hx := hB p x hu1
        rw [fitT_s (by omega) hu1] at hs
        refine r_if_eq rfl i01 (fun h => absurd (show (1 : Int) = 0 from h) (by decide)) (fun _ => ?_)
        refine r_iinc rfl rfl ?_
        refine r_aload_n rfl rfl ?_
        refine r_getR rfl (by assumption) (by assumption) ?_
        refine r_iload_n rfl rfl ?_
        refine r_iald rfl (by assumption) (by omega) (by omega) ?_
        rw [ex]
        refine r_sipush rfl ?_
        refine r_sipush rfl ?_
        refine r_cS3 rfl (by decide) (Nat.le_of_ble_eq_true rfl) rfl rfl (w_within (by unfold inI; omega) (by unfold inI; omega) (by unfold inI; omega) ?_)
        by_cases hw : -200 ≤ x ∧ x ≤ 200
        · rw [if_pos hw] at hs ⊢
          refine r_if_ne rfl i01 (fun _ => ?_) (fun h => absurd h (by decide))
          refine r_iinc rfl rfl ?_
          refine r_goto rfl ?_
          exact ih (by omega) (by omega) (n + 1) (by omega) (by omega) hs
        · rw [if_neg hw] at hs ⊢
          refine r_if_ne rfl in0 (fun h => absurd rfl h) (fun _ => ?_)
          refine r_iconst rfl ?_
          refine r_zret rfl (Or.inl rfl) ?_
          rw [← hs] at hQ; exact hQ
  refine wp_in (C := c_Draft_fits) (ls := [some (pR q), none, none]) rfl rfl rfl rfl rfl ?_
  refine r_iconst rfl ?_
  refine r_istore_n rfl (Nat.le_of_ble_eq_true rfl) ?_
  refine r_iconst rfl ?_
  refine r_istore_n rfl (Nat.le_of_ble_eq_true rfl) ?_
  exact key 0 (by omega) (Int.le_refl _) 0 (Int.le_refl _) (Int.le_refl _) rfl
/-! pouring a table into a form without TERMS -/
abbrev FV : Type := Int × (Int → Int) × (Int → Int) × (Int → Int)
def apV (F : FV) (a b v : Int) : FV := (F.1 + 1, updF F.2.1 F.1 a, updF F.2.2.1 F.1 b, updF F.2.2.2 F.1 v)
def pourT (G : Int → Option Int) : Nat → Int → FV → FV
  | 0, _, F => F
  | m + 1, p, F => pourT G m (p + 1) (match G p with | none => F | some v => apV F (p / 9) (p % 9) v)
def F0V : FV := (0, fun _ => 0, fun _ => 0, fun _ => 0)
def pourV (G : Int → Option Int) : FV := pourT G 81 0 F0V
theorem pourT_s {G : Int → Option Int} {N p : Int} {F : FV} (h : p < N) : pourT G (N - p).toNat p F = pourT G (N - (p + 1)).toNat (p + 1) (match G p with | none => F | some v => apV F (p / 9) (p % 9) v) := by
  rw [show (N - p).toNat = (N - (p + 1)).toNat + 1 by omega]; rfl
theorem pourT_e {G : Int → Option Int} {N p : Int} {F : FV} (h : N ≤ p) : pourT G (N - p).toNat p F = F := by rw [show (N - p).toNat = 0 by omega]; rfl
def FHv (z : ZM) (h : Nat) (F : FV) : Prop := FH z h F.1 F.2.1 F.2.2.1 F.2.2.2
def FRv (F : FV) : Prop := FR F.1 F.2.1 F.2.2.1 F.2.2.2
def FSv (F : FV) : Prop := FS F.1 F.2.1 F.2.2.1
/-- all places of a form lie ahead of place p -/
def FBv (F : FV) (p : Int) : Prop := ∀ t, 0 ≤ t → t < F.1 → lexlt (F.2.1 t) (F.2.2.1 t) (p / 9) (p % 9)
theorem lex_next {a b p : Int} (hb : b ≤ 8) (h : lexlt a b (p / 9) (p % 9)) : lexlt a b ((p + 1) / 9) ((p + 1) % 9) := by unfold lexlt at h ⊢; omega
theorem ap_psn {F : FV} {p : Int} (hn : 0 ≤ F.1) (hb : FBv F p) : psn F.1 F.2.1 F.2.2.1 (p / 9) (p % 9) = F.1 := by
  obtain ⟨q1, q2, q3, q4⟩ := fstN_spec (fun t => !lexb (F.2.1 t) (F.2.2.1 t) (p / 9) (p % 9)) F.1.toNat 0
  unfold psn
  by_cases e : fstN (fun t => !lexb (F.2.1 t) (F.2.2.1 t) (p / 9) (p % 9)) F.1.toNat 0 < 0 + (F.1.toNat : Int)
  · have := q3 e
    have h2 := hb _ q1 (by omega)
    exact absurd h2 (nlex_f.mp this)
  · omega
theorem ap_FR {F : FV} {p v : Int} (h : FRv F) (hn : F.1 < 40) (hp : 0 ≤ p ∧ p < 81) (hv : -200 ≤ v ∧ v ≤ 200) : FRv (apV F (p / 9) (p % 9) v) := by
  obtain ⟨h0, h1, h2⟩ := h
  refine ⟨by show 0 ≤ F.1 + 1; omega, by show F.1 + 1 ≤ 40; omega, fun t t0 t1 => ?_⟩
  have t1 : t < F.1 + 1 := t1
  show 0 ≤ updF F.2.1 F.1 (p / 9) t ∧ updF F.2.1 F.1 (p / 9) t ≤ 8 ∧ 0 ≤ updF F.2.2.1 F.1 (p % 9) t ∧ updF F.2.2.1 F.1 (p % 9) t ≤ 8 ∧ -200 ≤ updF F.2.2.2 F.1 v t ∧ updF F.2.2.2 F.1 v t ≤ 200
  unfold updF
  by_cases e : t = F.1
  · rw [if_pos e, if_pos e, if_pos e]; omega
  · rw [if_neg e, if_neg e, if_neg e]; exact h2 t t0 (by omega)
theorem ap_FB {F : FV} {p v : Int} (h : FRv F) (hb : FBv F p) : FBv (apV F (p / 9) (p % 9) v) (p + 1) := by
  intro t t0 t1
  have t1 : t < F.1 + 1 := t1
  show lexlt (updF F.2.1 F.1 (p / 9) t) (updF F.2.2.1 F.1 (p % 9) t) _ _
  unfold updF
  by_cases e : t = F.1
  · rw [if_pos e, if_pos e]; unfold lexlt; omega
  · rw [if_neg e, if_neg e]
    have hr := h.2.2 t t0 (by omega)
    exact lex_next hr.2.2.2.1 (hb t t0 (by omega))
theorem ap_FS {F : FV} {p v : Int} (h : FSv F) (hb : FBv F p) : FSv (apV F (p / 9) (p % 9) v) := by
  intro s t s0 st t1
  have t1 : t < F.1 + 1 := t1
  show lexlt (updF F.2.1 F.1 (p / 9) s) (updF F.2.2.1 F.1 (p % 9) s) (updF F.2.1 F.1 (p / 9) t) (updF F.2.2.1 F.1 (p % 9) t)
  unfold updF
  rw [if_neg (by omega), if_neg (by omega)]
  by_cases e : t = F.1
  · rw [if_pos e, if_pos e]; exact hb s s0 (by omega)
  · rw [if_neg e, if_neg e]; exact h s t s0 st (by omega)
theorem FB_next {F : FV} {p : Int} (h : FRv F) (hb : FBv F p) : FBv F (p + 1) := fun t t0 t1 => lex_next (h.2.2 t t0 t1).2.2.2.1 (hb t t0 t1)
theorem ap_FH {z z' : ZM} {h : Nat} {F : FV} {p v : Int} (hn : 0 ≤ F.1) (hb : FBv F p) (hp : putP z z' h F.1 F.2.1 F.2.2.1 F.2.2.2 (p / 9) (p % 9) v) : FHv z' h (apV F (p / 9) (p % 9) v) := by
  have e := ap_psn hn hb
  obtain ⟨-, -, -, -, h2⟩ := hp
  have h3 := h2 (fun q => by have := q.1; omega)
  rw [e] at h3
  obtain ⟨g1, g2⟩ := h3
  refine ⟨g1, fun t t0 t1 => ?_⟩
  have t1 : t < F.1 + 1 := t1
  obtain ⟨k1, k2, k3⟩ := g2 t t0 t1
  rw [k1, k2, k3]
  show insF F.2.1 F.1 (p / 9) t = updF F.2.1 F.1 (p / 9) t ∧ insF F.2.2.1 F.1 (p % 9) t = updF F.2.2.1 F.1 (p % 9) t ∧ insF F.2.2.2 F.1 v t = updF F.2.2.2 F.1 v t
  unfold insF updF
  by_cases e : t = F.1
  · subst e; simp (disch := omega) only [if_pos, if_neg, ↓reduceIte, true_and, and_true, true_or, or_true, and_self]
  · simp (disch := omega) only [if_pos, if_neg, ↓reduceIte, true_and, and_true, true_or, or_true, and_self]
def oneFrame (z z' : ZM) (h : Nat) : Prop := (∀ c, c ≠ h → c ≠ h + 1 → c ≠ h + 2 → c ≠ h + 3 → z' c = z c) ∧ z' h 3 = z h 3
theorem fit_le {G : Int → Option Int} : ∀ (m : Nat) (p n : Int), fitT G m p n = true → n ≤ 40
  | 0, _, _, h => of_decide_eq_true h
  | m + 1, p, n, h => by
    unfold fitT at h
    cases hG : G p with
    | none => rw [hG] at h; exact fit_le m (p + 1) n h
    | some v =>
      rw [hG] at h
      dsimp only at h
      split at h
      · have := fit_le m (p + 1) (n + 1) h; omega
      · cases h
set_option maxHeartbeats 2000000 in
theorem w_pour {X : PX} {d : Nat} {S : SS} {zI zL : ZM} {Q : PQ} {q h : Nat} {G : Int → Option Int} (hD : isDraft S q) (hF : isForm S h) (hqh : q + 1 < h) (hG : DH zI q G) (hfit : fitG G = true) (hB : DR G 500000) (hn : zI h 4 = 0) (h5 : zI h 5 = 0)
    (hQ : ∀ z, oneFrame zI z h → z h 5 = 0 → FHv z h (pourV G) → FRv (pourV G) → FSv (pourV G) → Q none S z zL) : wpM X (d + 3) fDraft_pour [pR q, pR h] S zI zL Q := by
  have hob := hD.1
  have hr := hD.2.1
  have hf := hD.2.2
  have hobF := hF.1
  have i01 : inI 1 := by unfold inI; omega
  have i9 : inI 9 := by unfold inI; omega
  have key : ∀ p : Int, p ≤ 81 → 0 ≤ p → ∀ (z : ZM) (F : FV), oneFrame zI z h → z h 5 = 0 → FHv z h F → FRv F → FSv F → FBv F p → fitT G (81 - p).toNat p F.1 = true → pourT G (81 - p).toNat p F = pourV G → Run X (d + 2) c_Draft_pour 2 [some (pR q), some (pR h), some (pI p)] [] S z zL 0 0 Q := by
    refine loop_up _ 81 (fun p hk ih h0 z F hz hz5 hH hR hS hb hft hs => ?_)
    have hin : inI p := by unfold inI; omega
    have ed := td9 h0
    have em := tm9 h0
    have hG' : DH z q G := fun k k0 k1 => by rw [hz.1 (q + 1) (by omega) (by omega) (by omega) (by omega)]; exact hG k k0 k1
    refine r_iload_n rfl rfl ?_
    refine r_bipush rfl ?_
    refine r_icmp_ge rfl (by unfold inI; omega) (by unfold inI; omega) (fun h4 => ?_) (fun h4 => ?_)
    · skip
      refine r_ret rfl ?_
      rw [pourT_e (by omega)] at hs; subst hs; exact hQ _ hz hz5 hH hR hS
    · skip
      refine r_aload_n rfl rfl ?_
      refine r_iload_n rfl rfl ?_
      refine r_cV2 rfl hob (Nat.le_of_ble_eq_true rfl) rfl rfl (w_has hD hG' hB (by omega) h0 (by omega) ?_)
      cases hu1 : G p with
      | none =>
        refine r_if_eq rfl in0 (fun _ => ?_) (fun h => absurd rfl h)
        refine r_iinc rfl rfl ?_
        refine r_goto rfl ?_
        exact ih (by omega) (by omega) z F hz hz5 hH hR hS (FB_next hR hb) (by rw [fitT_n (by omega) hu1] at hft; exact hft) (by rw [pourT_s (by omega), hu1] at hs; exact hs)
      | some x =>
        have ex : z (q + 1) p = x := by rw [hG' p h0 (by omega), hu1]; rfl
        rw [fitT_s (by omega) hu1] at hft
        by_cases hw : -200 ≤ x ∧ x ≤ 200
        case neg => rw [if_neg hw] at hft; cases hft
        rw [if_pos hw] at hft
        have hn40 : F.1 < 40 := by have := fit_le _ _ _ hft; omega
        refine r_if_eq rfl i01 (fun h => absurd (show (1 : Int) = 0 from h) (by decide)) (fun _ => ?_)
        refine r_aload_n rfl rfl ?_
        refine r_iload_n rfl rfl ?_
        refine r_bipush rfl ?_
        refine r_idiv rfl hin i9 (by decide) ?_
        rw [ed]
        refine r_iload_n rfl rfl ?_
        refine r_bipush rfl ?_
        refine r_irem rfl hin i9 (by decide) ?_
        rw [em]
        refine r_aload_n rfl rfl ?_
        refine r_getR rfl (by assumption) (by assumption) ?_
        refine r_iload_n rfl rfl ?_
        refine r_iald rfl (by assumption) (by omega) (by omega) ?_
        rw [ex]
        refine r_cV4 rfl hobF (Nat.le_of_ble_eq_true rfl) rfl rfl (w_put hF hH hR (by omega) (by omega) (Or.inr hn40) (fun z2 hp2 => ?_))
        refine r_iinc rfl rfl ?_
        refine r_goto rfl ?_
        exact ih (by omega) (by omega) z2 (apV F (p / 9) (p % 9) x) ⟨fun c c0 c1 c2 c3 => (hp2.1 c c0 c1 c2 c3).trans (hz.1 c c0 c1 c2 c3), hp2.2.1.trans hz.2⟩ hp2.2.2.1 (ap_FH hR.1 hb hp2) (ap_FR hR hn40 ⟨h0, by omega⟩ hw) (ap_FS hS hb) (ap_FB hR hb) hft (by rw [pourT_s (by omega), hu1] at hs; exact hs)
  refine wp_in (C := c_Draft_pour) (ls := [some (pR q), some (pR h), none]) rfl rfl rfl rfl rfl ?_
  refine r_iconst rfl ?_
  refine r_istore_n rfl (Nat.le_of_ble_eq_true rfl) ?_
  exact key 0 (by omega) (Int.le_refl _) _ F0V ⟨fun _ _ _ _ _ => rfl, rfl⟩ h5 ⟨hn, fun t t0 t1 => absurd t1 (by show ¬ t < 0; omega)⟩ ⟨Int.le_refl _, by show (0 : Int) ≤ 40; omega, fun t t0 t1 => absurd t1 (by show ¬ t < 0; omega)⟩ (fun s t s0 st t1 => absurd t1 (by show ¬ t < 0; omega)) (fun t t0 t1 => absurd t1 (by show ¬ t < 0; omega)) hfit rfl
end
section
/-! NUMBERS: the greatest common divisor, lowest terms; POINTS -/
def gc (a b : Int) : Int := if Nat.gcd a.natAbs b.natAbs = 0 then 1 else (Nat.gcd a.natAbs b.natAbs : Nat)
theorem two_mod {x y : Nat} (h0 : 0 < y) (h : y ≤ x) : 2 * (x % y) < x := by
  have h1 := Nat.mod_lt x h0
  have h2 := Nat.div_add_mod x y
  have h3 : 1 ≤ x / y := (Nat.one_le_div_iff h0).mpr h
  have h4 : y * 1 ≤ y * (x / y) := Nat.mul_le_mul_left y h3
  omega
theorem gc_b {a b B : Int} (ha : -B ≤ a ∧ a ≤ B) (hb : -B ≤ b ∧ b ≤ B) (h1 : 1 ≤ B) : 1 ≤ gc a b ∧ gc a b ≤ B := by
  unfold gc
  split
  · omega
  · rename_i h
    refine ⟨by omega, ?_⟩
    rcases Nat.eq_zero_or_pos a.natAbs with h0 | h0
    · rw [h0, Nat.gcd_zero_left]; omega
    · have := Nat.gcd_le_left b.natAbs h0; omega
set_option maxHeartbeats 2000000 in
theorem w_gcd {X : PX} {d : Nat} {S : SS} {zI zL : ZM} {Q : PQ} {a b : Int} (ha : -500000000000000 ≤ a ∧ a ≤ 500000000000000) (hb : -500000000000000 ≤ b ∧ b ≤ 500000000000000) (hQ : Q (some (pL (gc a b))) S zI zL) : wpM X (d + 1) fC_commonDivisor [pL a, pL b] S zI zL Q := by
  have l0 : inL 0 := by unfold inL; omega
  have key : ∀ s : Int, s ≤ 100 → 0 ≤ s → ∀ (x y k : Nat) (w : Option PV), ((y < 2 ^ k ∧ s + 2 * k ≤ 100) ∨ (x < 2 ^ k ∧ y < x ∧ s + 2 * k ≤ 101)) → x ≤ 500000000000000 → y ≤ 500000000000000 → Nat.gcd x y = Nat.gcd a.natAbs b.natAbs → (∀ v, w ≠ some (pI v)) →
      Run X d c_C_commonDivisor 20 [some (pL a), none, some (pL b), none, some (pL x), none, some (pL y), none, some (pI s), w, none] [] S zI zL 0 0 Q := by
    refine loop_up _ 100 (fun s hk ih h0 x y k w hm hxb hyb hg hwp => ?_)
    have lx : inL (x : Int) := by unfold inL; omega
    have ly : inL (y : Int) := by unfold inL; omega
    have fin : y = 0 → Run X d c_C_commonDivisor 37 [some (pL a), none, some (pL b), none, some (pL x), none, some (pL y), none, some (pI s), w, none] [] S zI zL 0 0 Q := by
      intro hy
      rw [hy, Nat.gcd_zero_right] at hg
      unfold gc at hQ
      rw [← hg] at hQ
      refine r_lload rfl rfl ?_
      refine r_lconst rfl ?_
      refine r_l_le rfl rfl lx l0 (fun h40 => ?_) (fun h40 => ?_)
      · skip
        refine r_lconst rfl ?_
        refine r_lret rfl ?_
        rw [if_pos (by omega)] at hQ; exact hQ
      · skip
        refine r_lload rfl rfl ?_
        refine r_goto rfl ?_
        refine r_lret rfl ?_
        rw [if_neg (by omega)] at hQ; exact hQ
    have emod : (x : Int).tmod (y : Int) = ((x % y : Nat) : Int) := by rw [Int.tmod_eq_emod_of_nonneg (by omega), Int.natCast_emod]
    refine r_iload rfl rfl ?_
    refine r_bipush rfl ?_
    refine r_icmp_ge rfl (by unfold inI; omega) (by unfold inI; omega) (fun h22 => ?_) (fun h22 => ?_)
    · skip
      refine fin ?_
      have h100 : s = 100 := by omega
      rcases hm with ⟨q1, q2⟩ | ⟨q1, q2, q3⟩
      · have hk0 : k = 0 := by omega
        rw [hk0] at q1; omega
      · have hk0 : k = 0 := by omega
        rw [hk0] at q1; omega
    · skip
      refine r_lload rfl rfl ?_
      refine r_lconst rfl ?_
      refine r_l_eq rfl rfl ly l0 (fun h26 => ?_) (fun h26 => ?_)
      · skip
        exact fin (by omega)
      · skip
        refine r_lload rfl rfl ?_
        refine r_lload rfl rfl ?_
        refine r_lrem rfl lx ly (by omega) ?_
        rw [emod]
        refine r_lstore rfl (Nat.le_of_ble_eq_true rfl) ?_
        refine r_lload rfl rfl ?_
        refine r_lstore rfl (Nat.le_of_ble_eq_true rfl) ?_
        refine r_lload rfl rfl ?_
        refine r_lstore rfl (Nat.le_of_ble_eq_true rfl) ?_
        refine r_iinc rfl rfl ?_
        refine r_goto rfl ?_
        have hy0 : 0 < y := by omega
        have hml := Nat.mod_lt x hy0
        have hgr : Nat.gcd y (x % y) = Nat.gcd a.natAbs b.natAbs := by rw [← hg, Nat.gcd_comm x y, Nat.gcd_rec y x, Nat.gcd_comm]
        refine ih (by omega) (by omega) y (x % y) (if y < 2 ^ k ∧ s + 2 * k ≤ 100 then k else k - 1) _ ?_ hyb (by omega) hgr (fun v h => by cases h)
        by_cases hA : y < 2 ^ k ∧ s + 2 * k ≤ 100
        · rw [if_pos hA]; exact Or.inr ⟨hA.1, hml, by omega⟩
        · rw [if_neg hA]
          obtain ⟨q1, q2, q3⟩ := hm.resolve_left hA
          refine Or.inl ⟨?_, ?_⟩
          · have h2 := two_mod hy0 (Nat.le_of_lt q2)
            cases k with
            | zero => omega
            | succ k => rw [Nat.pow_succ] at q1; rw [Nat.add_sub_cancel]; omega
          · cases k with
            | zero => omega
            | succ k => omega
  have hx : ∀ x0 : Int, x0 = (if a < 0 then -a else a) → ∀ y0 : Int, y0 = (if b < 0 then -b else b) → Run X d c_C_commonDivisor 18 [some (pL a), none, some (pL b), none, some (pL x0), none, some (pL y0), none, none, none, none] [] S zI zL 0 0 Q := by
    intro x0 e1 y0 e2
    have e1 : x0 = (a.natAbs : Int) := by rw [e1]; split <;> omega
    have e2 : y0 = (b.natAbs : Int) := by rw [e2]; split <;> omega
    subst e1; subst e2
    refine r_iconst rfl ?_
    refine r_istore rfl (Nat.le_of_ble_eq_true rfl) ?_
    exact key 0 (by omega) (Int.le_refl _) a.natAbs b.natAbs 49 none (Or.inl ⟨by rw [show (2 : Nat) ^ 49 = 562949953421312 from rfl]; omega, by omega⟩) (by omega) (by omega) rfl (fun v h => by cases h)
  have la : inL a := by unfold inL; omega
  have lb : inL b := by unfold inL; omega
  refine wp_in (C := c_C_commonDivisor) (ls := [some (pL a), none, some (pL b), none, none, none, none, none, none, none, none]) rfl rfl rfl rfl rfl ?_
  refine r_lload_n rfl rfl ?_
  refine r_lconst rfl ?_
  refine r_l_ge rfl rfl la l0 (fun h3 => ?_) (fun h3 => ?_)
  · skip
    refine r_lload_n rfl rfl ?_
    refine r_lstore rfl (Nat.le_of_ble_eq_true rfl) ?_
    refine r_lload_n rfl rfl ?_
    refine r_lconst rfl ?_
    refine r_l_ge rfl rfl lb l0 (fun h12 => ?_) (fun h12 => ?_)
    · skip
      refine r_lload_n rfl rfl ?_
      refine r_lstore rfl (Nat.le_of_ble_eq_true rfl) ?_
      exact hx _ (by rw [if_neg (by omega)]) _ (by rw [if_neg (by omega)])
    · skip
      refine r_lload_n rfl rfl ?_
      refine r_lneg rfl ?_
      refine r_goto rfl ?_
      refine r_lstore rfl (Nat.le_of_ble_eq_true rfl) ?_
      exact hx _ (by rw [if_neg (by omega)]) _ (by rw [if_pos (by omega)])
  · skip
    refine r_lload_n rfl rfl ?_
    refine r_lneg rfl ?_
    refine r_goto rfl ?_
    refine r_lstore rfl (Nat.le_of_ble_eq_true rfl) ?_
    refine r_lload_n rfl rfl ?_
    refine r_lconst rfl ?_
    refine r_l_ge rfl rfl lb l0 (fun h12 => ?_) (fun h12 => ?_)
    · skip
      refine r_lload_n rfl rfl ?_
      refine r_lstore rfl (Nat.le_of_ble_eq_true rfl) ?_
      exact hx _ (by rw [if_pos (by omega)]) _ (by rw [if_neg (by omega)])
    · skip
      refine r_lload_n rfl rfl ?_
      refine r_lneg rfl ?_
      refine r_goto rfl ?_
      refine r_lstore rfl (Nat.le_of_ble_eq_true rfl) ?_
      exact hx _ (by rw [if_pos (by omega)]) _ (by rw [if_pos (by omega)])
def sg (b : Int) : Int := if b < 0 then -1 else 1
/-- lowest terms: above, below the line -/
def rdA (x b : Int) : Int := x.tdiv (sg b * gc x b)
def rdB (x b : Int) : Int := b.tdiv (sg b * gc x b)
theorem sg_gc {x b B : Int} (hx : -B ≤ x ∧ x ≤ B) (hb : -B ≤ b ∧ b ≤ B) (h1 : 1 ≤ B) : (-B ≤ sg b * gc x b ∧ sg b * gc x b ≤ B) ∧ sg b * gc x b ≠ 0 := by
  have := gc_b hx hb h1
  unfold sg
  split <;> omega
set_option maxHeartbeats 2000000 in
theorem w_reduce {X : PX} {d : Nat} {S : SS} {zI zL : ZM} {Q : PQ} {p : Nat} {x y b : Int} (hp : isPoint S p) (hx : -500000000000000 ≤ x ∧ x ≤ 500000000000000) (hy : -500000000000000 ≤ y ∧ y ≤ 500000000000000) (hb : -500000000000000 ≤ b ∧ b ≤ 500000000000000) (hQ : Q none S zI (zput (zput (zput (zput zL p 0 (rdA x b)) p 1 (rdB x b)) p 2 (rdA y b)) p 3 (rdB y b))) : wpM X (d + 2) fPoint_reduce [pR p, pL x, pL y, pL b] S zI zL Q := by
  unfold isPoint at hp
  have l0 : inL 0 := by unfold inL; omega
  have lx : inL x := by unfold inL; omega
  have ly : inL y := by unfold inL; omega
  have lb : inL b := by unfold inL; omega
  have gx := sg_gc hx hb (by omega)
  have gy := sg_gc hy hb (by omega)
  have lgx : inL (sg b * gc x b) := by unfold inL; omega
  have lgy : inL (sg b * gc y b) := by unfold inL; omega
  have rest : ∀ s : Int, s = sg b → Run X (d + 1) c_Point_reduce 8 [some (pR p), some (pL x), none, some (pL y), none, some (pL b), none, some (pL s), none, none, none, none, none] [] S zI zL 0 0 Q := by
    intro s hs
    subst hs
    refine r_lload rfl rfl ?_
    refine r_lload_n rfl rfl ?_
    refine r_lload rfl rfl ?_
    refine r_cS2 rfl (by decide) (Nat.le_of_ble_eq_true rfl) rfl rfl (w_gcd hx hb ?_)
    refine r_lmul rfl ?_
    refine r_lstore rfl (Nat.le_of_ble_eq_true rfl) ?_
    refine r_lload rfl rfl ?_
    refine r_lload_n rfl rfl ?_
    refine r_lload rfl rfl ?_
    refine r_cS2 rfl (by decide) (Nat.le_of_ble_eq_true rfl) rfl rfl (w_gcd hy hb ?_)
    refine r_lmul rfl ?_
    refine r_lstore rfl (Nat.le_of_ble_eq_true rfl) ?_
    refine r_aload_n rfl rfl ?_
    refine r_lload_n rfl rfl ?_
    refine r_lload rfl rfl ?_
    refine r_ldiv rfl lx lgx gx.2 ?_
    refine r_putL rfl (by assumption) ?_
    refine r_aload_n rfl rfl ?_
    refine r_lload rfl rfl ?_
    refine r_lload rfl rfl ?_
    refine r_ldiv rfl lb lgx gx.2 ?_
    refine r_putL rfl (by assumption) ?_
    refine r_aload_n rfl rfl ?_
    refine r_lload_n rfl rfl ?_
    refine r_lload rfl rfl ?_
    refine r_ldiv rfl ly lgy gy.2 ?_
    refine r_putL rfl (by assumption) ?_
    refine r_aload_n rfl rfl ?_
    refine r_lload rfl rfl ?_
    refine r_lload rfl rfl ?_
    refine r_ldiv rfl lb lgy gy.2 ?_
    refine r_putL rfl (by assumption) ?_
    refine r_ret rfl ?_
    exact hQ
  refine wp_in (C := c_Point_reduce) (ls := [some (pR p), some (pL x), none, some (pL y), none, some (pL b), none, none, none, none, none, none, none]) rfl rfl rfl rfl rfl ?_
  refine r_lload rfl rfl ?_
  refine r_lconst rfl ?_
  refine r_l_ge rfl rfl lb l0 (fun h3 => ?_) (fun h3 => ?_)
  · skip
    refine r_lconst rfl ?_
    refine r_lstore rfl (Nat.le_of_ble_eq_true rfl) ?_
    exact rest 1 (by unfold sg; rw [if_neg (by omega)])
  · skip
    refine r_ldc2_w rfl ?_
    refine r_goto rfl ?_
    refine r_lstore rfl (Nat.le_of_ble_eq_true rfl) ?_
    exact rest (-1) (by unfold sg; rw [if_pos (by omega)])
def alg (p q x xd y yd : Int) : Int := p * y * xd - q * x * yd
theorem alg_b {p q x xd y yd : Int} (hp : -8 ≤ p ∧ p ≤ 8) (hq : -8 ≤ q ∧ q ≤ 8) (hB : PB x xd y yd) : -14000000 ≤ alg p q x xd y yd ∧ alg p q x xd y yd ≤ 14000000 := by
  obtain ⟨⟨p1, p2, p3, p4⟩, p5, p6, p7, p8⟩ := hB
  have a1 := mb (A := 8) (B := 6400) hp.1 hp.2 p5 p6
  have a2 := mb (A := 51200) (B := 128) (a := p * y) (by omega) (by omega) (show -128 ≤ xd by omega) p4
  have b1 := mb (A := 8) (B := 6400) hq.1 hq.2 p1 p2
  have b2 := mb (A := 51200) (B := 128) (a := q * x) (by omega) (by omega) (show -128 ≤ yd by omega) p8
  unfold alg; omega
theorem w_along {X : PX} {d : Nat} {S : SS} {zI zL : ZM} {Q : PQ} {h : Nat} {x xd y yd p q : Int} (hp : isPoint S h) (hP : PH zL h x xd y yd) (h1 : inI p) (h2 : inI q) (hQ : Q (some (pL (alg p q x xd y yd))) S zI zL) : wpM X (d + 1) fPoint_along [pR h, pI p, pI q] S zI zL Q := by
  unfold isPoint at hp
  obtain ⟨⟨e0, e1⟩, e2, e3⟩ := hP
  refine wp_in (C := c_Point_along) (ls := [some (pR h), some (pI p), some (pI q)]) rfl rfl rfl rfl rfl ?_
  refine r_iload_n rfl rfl ?_
  refine r_i2l rfl h1 ?_
  refine r_aload_n rfl rfl ?_
  refine r_getL rfl (by assumption) ?_
  refine r_lmul rfl ?_
  refine r_aload_n rfl rfl ?_
  refine r_getL rfl (by assumption) ?_
  refine r_lmul rfl ?_
  refine r_iload_n rfl rfl ?_
  refine r_i2l rfl h2 ?_
  refine r_aload_n rfl rfl ?_
  refine r_getL rfl (by assumption) ?_
  refine r_lmul rfl ?_
  refine r_aload_n rfl rfl ?_
  refine r_getL rfl (by assumption) ?_
  refine r_lmul rfl ?_
  refine r_lsub rfl ?_
  refine r_lret rfl ?_
  rw [e0, e1, e2, e3]; exact hQ
/-- before (-1), with (0) or after (1) another point by a way -/
def cmpA (p q x xd y yd x' xd' y' yd' : Int) : Int := if alg p q x xd y yd * (xd' * yd') < alg p q x' xd' y' yd' * (xd * yd) then -1 else if alg p q x xd y yd * (xd' * yd') = alg p q x' xd' y' yd' * (xd * yd) then 0 else 1
theorem below_b {x xd y yd : Int} (hB : PB x xd y yd) : 1 ≤ xd * yd ∧ xd * yd ≤ 16384 := by
  obtain ⟨⟨p1, p2, p3, p4⟩, p5, p6, p7, p8⟩ := hB
  have a1 := mb (A := 128) (B := 128) (show -128 ≤ xd by omega) p4 (show -128 ≤ yd by omega) p8
  have := Int.mul_pos (show 0 < xd by omega) (show 0 < yd by omega)
  omega
theorem w_cmpAlong {X : PX} {d : Nat} {S : SS} {zI zL : ZM} {Q : PQ} {h h' : Nat} {x xd y yd x' xd' y' yd' p q : Int} (hp : isPoint S h) (hP : PH zL h x xd y yd) (hp' : isPoint S h') (hP' : PH zL h' x' xd' y' yd') (hB : PB x xd y yd) (hB' : PB x' xd' y' yd') (h1 : -8 ≤ p ∧ p ≤ 8) (h2 : -8 ≤ q ∧ q ≤ 8) (hQ : Q (some (pI (cmpA p q x xd y yd x' xd' y' yd'))) S zI zL) : wpM X (d + 2) fPoint_compareAlong [pR h, pR h', pI p, pI q] S zI zL Q := by
  have hob : ob S h 4 := hp
  have hob' : ob S h' 4 := hp'
  have i1 : inI p := by unfold inI; omega
  have i2 : inI q := by unfold inI; omega
  have b1 := below_b hB
  have b2 := below_b hB'
  have a1 := alg_b h1 h2 hB
  have a2 := alg_b h1 h2 hB'
  have m1 := mb (A := 14000000) (B := 16384) a1.1 a1.2 (by omega) b2.2 (b := xd' * yd')
  have m2 := mb (A := 14000000) (B := 16384) a2.1 a2.2 (by omega) b1.2 (b := xd * yd)
  refine wp_in (C := c_Point_compareAlong) (ls := [some (pR h), some (pR h'), some (pI p), some (pI q)]) rfl rfl rfl rfl rfl ?_
  refine r_aload_n rfl rfl ?_
  refine r_iload_n rfl rfl ?_
  refine r_iload_n rfl rfl ?_
  refine r_cV3 rfl hob (Nat.le_of_ble_eq_true rfl) rfl rfl (w_along hp hP i1 i2 ?_)
  refine r_aload_n rfl rfl ?_
  refine r_cV1 rfl hob' (Nat.le_of_ble_eq_true rfl) rfl rfl (w_below hp' hP' ?_)
  refine r_lmul rfl ?_
  refine r_aload_n rfl rfl ?_
  refine r_iload_n rfl rfl ?_
  refine r_iload_n rfl rfl ?_
  refine r_cV3 rfl hob' (Nat.le_of_ble_eq_true rfl) rfl rfl (w_along hp' hP' i1 i2 ?_)
  refine r_aload_n rfl rfl ?_
  refine r_cV1 rfl hob (Nat.le_of_ble_eq_true rfl) rfl rfl (w_below hp hP ?_)
  refine r_lmul rfl ?_
  refine r_cS2 rfl (by decide) (Nat.le_of_ble_eq_true rfl) rfl rfl (w_lcompare (by unfold inL; omega) (by unfold inL; omega) ?_)
  refine r_iret rfl ?_
  exact hQ
end
section
/-! POINTS in a row -/
def PsH (zI zL : ZM) (h : Nat) (m : Int) (X XD Y YD : Int → Int) : Prop := zI h 5 = m ∧ ∀ t, 0 ≤ t → t < m → zL (h + 1) t = X t ∧ zL (h + 2) t = XD t ∧ zL (h + 3) t = Y t ∧ zL (h + 4) t = YD t
def PsR (m : Int) (X XD Y YD : Int → Int) : Prop := 0 ≤ m ∧ ∀ t, 0 ≤ t → t < m → PB (X t) (XD t) (Y t) (YD t)
def cmpP (X XD Y YD x xd y yd : Int) : Int := if X * xd - x * XD = 0 then Y * yd - y * YD else X * xd - x * XD
theorem cmpP_b {X XD Y YD x xd y yd : Int} (hA : PB X XD Y YD) (hB : PB x xd y yd) : (-2000000 ≤ X * xd - x * XD ∧ X * xd - x * XD ≤ 2000000) ∧ (-2000000 ≤ Y * yd - y * YD ∧ Y * yd - y * YD ≤ 2000000) := by
  obtain ⟨⟨p1, p2, p3, p4⟩, p5, p6, p7, p8⟩ := hA
  obtain ⟨⟨q1, q2, q3, q4⟩, q5, q6, q7, q8⟩ := hB
  have a1 := mb (A := 6400) (B := 128) p1 p2 (show -128 ≤ xd by omega) q4
  have a2 := mb (A := 6400) (B := 128) q1 q2 (show -128 ≤ XD by omega) p4
  have a3 := mb (A := 6400) (B := 128) p5 p6 (show -128 ≤ yd by omega) q8
  have a4 := mb (A := 6400) (B := 128) q5 q6 (show -128 ≤ YD by omega) p8
  omega
theorem w_fetch {X : PX} {d : Nat} {S : SS} {zI zL : ZM} {Q : PQ} {h N : Nat} {m : Int} {X0 XD Y YD : Int → Int} (hF : isPoints S h N) (hT : PsH zI zL h m X0 XD Y YD) (hR : PsR m X0 XD Y YD) (hm : m ≤ N) {p : Nat} {t : Int} (hp : isPoint S p) (hph : p < h + 1 ∨ h + 4 < p) (h0 : 0 ≤ t) (h1 : t < m) (hQ : Q none S zI (zput (zput (zput (zput zL p 0 (X0 t)) p 1 (XD t)) p 2 (Y t)) p 3 (YD t))) : wpM X (d + 1) fPoints_fetch [pR h, pI t, pR p] S zI zL Q := by
  obtain ⟨hob, ⟨hr1, hr2, hr3, hr4⟩, hf1, hf2, hf3, hf4⟩ := hF
  obtain ⟨e5, hel⟩ := hT
  obtain ⟨hm0, hrg⟩ := hR
  unfold isPoint at hp
  obtain ⟨g1, g2, g3, g4⟩ := hel t h0 h1
  refine wp_in (C := c_Points_fetch) (ls := [some (pR h), some (pI t), some (pR p)]) rfl rfl rfl rfl rfl ?_
  refine r_aload_n rfl rfl ?_
  refine r_aload_n rfl rfl ?_
  refine r_getR rfl (by assumption) (by assumption) ?_
  refine r_iload_n rfl rfl ?_
  refine r_lald rfl (by assumption) (by omega) (by omega) ?_
  rw [g1]
  refine r_putL rfl (by assumption) ?_
  refine r_aload_n rfl rfl ?_
  refine r_aload_n rfl rfl ?_
  refine r_getR rfl (by assumption) (by assumption) ?_
  refine r_iload_n rfl rfl ?_
  refine r_lald rfl (by assumption) (by omega) (by omega) ?_
  rw [zput_row (by omega), g2]
  refine r_putL rfl (by assumption) ?_
  refine r_aload_n rfl rfl ?_
  refine r_aload_n rfl rfl ?_
  refine r_getR rfl (by assumption) (by assumption) ?_
  refine r_iload_n rfl rfl ?_
  refine r_lald rfl (by assumption) (by omega) (by omega) ?_
  rw [zput_row (by omega), zput_row (by omega), g3]
  refine r_putL rfl (by assumption) ?_
  refine r_aload_n rfl rfl ?_
  refine r_aload_n rfl rfl ?_
  refine r_getR rfl (by assumption) (by assumption) ?_
  refine r_iload_n rfl rfl ?_
  refine r_lald rfl (by assumption) (by omega) (by omega) ?_
  rw [zput_row (by omega), zput_row (by omega), zput_row (by omega), g4]
  refine r_putL rfl (by assumption) ?_
  refine r_ret rfl ?_
  exact hQ
def prt (X XD Y YD w : Int) : Int := if w = 0 then X else if w = 1 then XD else if w = 2 then Y else YD
theorem w_part {X : PX} {d : Nat} {S : SS} {zI zL : ZM} {Q : PQ} {h N : Nat} {m : Int} {X0 XD Y YD : Int → Int} (hF : isPoints S h N) (hT : PsH zI zL h m X0 XD Y YD) (hR : PsR m X0 XD Y YD) (hm : m ≤ N) {t u : Int} (hu : inI u) (h0 : 0 ≤ t) (h1 : t < m) (hQ : Q (some (pL (prt (X0 t) (XD t) (Y t) (YD t) u))) S zI zL) : wpM X (d + 1) fPoints_part [pR h, pI t, pI u] S zI zL Q := by
  obtain ⟨hob, ⟨hr1, hr2, hr3, hr4⟩, hf1, hf2, hf3, hf4⟩ := hF
  obtain ⟨e5, hel⟩ := hT
  obtain ⟨hm0, hrg⟩ := hR
  obtain ⟨g1, g2, g3, g4⟩ := hel t h0 h1
  refine wp_in (C := c_Points_part) (ls := [some (pR h), some (pI t), some (pI u)]) rfl rfl rfl rfl rfl ?_
  refine r_iload_n rfl rfl ?_
  by_cases u0 : u = 0
  · subst u0
    unfold prt at hQ; rw [if_pos rfl, ← g1] at hQ
    refine r_tsw rfl hu rfl ?_
    refine r_aload_n rfl rfl ?_
    refine r_getR rfl (by assumption) (by assumption) ?_
    refine r_iload_n rfl rfl ?_
    refine r_lald rfl (by assumption) (by omega) (by omega) ?_
    refine r_lret rfl ?_
    exact hQ
  · by_cases u1 : u = 1
    · subst u1
      unfold prt at hQ; rw [if_neg (by decide), if_pos rfl, ← g2] at hQ
      refine r_tsw rfl hu rfl ?_
      refine r_aload_n rfl rfl ?_
      refine r_getR rfl (by assumption) (by assumption) ?_
      refine r_iload_n rfl rfl ?_
      refine r_lald rfl (by assumption) (by omega) (by omega) ?_
      refine r_lret rfl ?_
      exact hQ
    · by_cases u2 : u = 2
      · subst u2
        unfold prt at hQ; rw [if_neg (by decide), if_neg (by decide), if_pos rfl, ← g3] at hQ
        refine r_tsw rfl hu rfl ?_
        refine r_aload_n rfl rfl ?_
        refine r_getR rfl (by assumption) (by assumption) ?_
        refine r_iload_n rfl rfl ?_
        refine r_lald rfl (by assumption) (by omega) (by omega) ?_
        refine r_lret rfl ?_
        exact hQ
      · unfold prt at hQ; rw [if_neg u0, if_neg u1, if_neg u2, ← g4] at hQ
        refine r_tsw (t := 17) rfl hu ?_ ?_
        · unfold psw
          have e : (u < 0 ∨ 2 < u) := by omega
          exact if_pos e
        refine r_aload_n rfl rfl ?_
        refine r_getR rfl (by assumption) (by assumption) ?_
        refine r_iload_n rfl rfl ?_
        refine r_lald rfl (by assumption) (by omega) (by omega) ?_
        refine r_lret rfl ?_
        exact hQ
theorem w_compare {X : PX} {d : Nat} {S : SS} {zI zL : ZM} {Q : PQ} {h N : Nat} {m : Int} {X0 XD Y YD : Int → Int} (hF : isPoints S h N) (hT : PsH zI zL h m X0 XD Y YD) (hR : PsR m X0 XD Y YD) (hm : m ≤ N) {p : Nat} {x xd y yd : Int} (hp : isPoint S p) (hP : PH zL p x xd y yd) (hB : PB x xd y yd) {t : Int} (h0 : 0 ≤ t) (h1 : t < m) (hQ : Q (some (pL (cmpP (X0 t) (XD t) (Y t) (YD t) x xd y yd))) S zI zL) : wpM X (d + 1) fPoints_compare [pR h, pI t, pR p] S zI zL Q := by
  obtain ⟨hob, ⟨hr1, hr2, hr3, hr4⟩, hf1, hf2, hf3, hf4⟩ := hF
  obtain ⟨e5, hel⟩ := hT
  obtain ⟨hm0, hrg⟩ := hR
  have hpo : ob S p 4 := hp
  have l0 : inL 0 := by unfold inL; omega
  obtain ⟨⟨k0, k1⟩, k2, k3⟩ := hP
  obtain ⟨g1, g2, g3, g4⟩ := hel t h0 h1
  have hb := cmpP_b (hrg t h0 h1) hB
  refine wp_in (C := c_Points_compare) (ls := [some (pR h), some (pI t), some (pR p), none, none]) rfl rfl rfl rfl rfl ?_
  refine r_aload_n rfl rfl ?_
  refine r_getR rfl (by assumption) (by assumption) ?_
  refine r_iload_n rfl rfl ?_
  refine r_lald rfl (by assumption) (by omega) (by omega) ?_
  refine r_aload_n rfl rfl ?_
  refine r_getL rfl (by assumption) ?_
  refine r_lmul rfl ?_
  refine r_aload_n rfl rfl ?_
  refine r_getL rfl (by assumption) ?_
  refine r_aload_n rfl rfl ?_
  refine r_getR rfl (by assumption) (by assumption) ?_
  refine r_iload_n rfl rfl ?_
  refine r_lald rfl (by assumption) (by omega) (by omega) ?_
  refine r_lmul rfl ?_
  refine r_lsub rfl ?_
  rw [g1, g2, k0, k1]
  refine r_lstore_n rfl (Nat.le_of_ble_eq_true rfl) ?_
  refine r_lload_n rfl rfl ?_
  refine r_lconst rfl ?_
  refine r_l_eq rfl rfl (by unfold inL; omega) l0 (fun h19 => ?_) (fun h19 => ?_)
  · skip
    refine r_aload_n rfl rfl ?_
    refine r_getR rfl (by assumption) (by assumption) ?_
    refine r_iload_n rfl rfl ?_
    refine r_lald rfl (by assumption) (by omega) (by omega) ?_
    refine r_aload_n rfl rfl ?_
    refine r_getL rfl (by assumption) ?_
    refine r_lmul rfl ?_
    refine r_aload_n rfl rfl ?_
    refine r_getL rfl (by assumption) ?_
    refine r_aload_n rfl rfl ?_
    refine r_getR rfl (by assumption) (by assumption) ?_
    refine r_iload_n rfl rfl ?_
    refine r_lald rfl (by assumption) (by omega) (by omega) ?_
    refine r_lmul rfl ?_
    refine r_lsub rfl ?_
    refine r_lret rfl ?_
    unfold cmpP at hQ; rw [if_pos h19] at hQ; rw [g3, g4, k2, k3]; exact hQ
  · skip
    refine r_lload_n rfl rfl ?_
    refine r_goto rfl ?_
    refine r_lret rfl ?_
    unfold cmpP at hQ; rw [if_neg h19] at hQ; exact hQ
def skS (m : Int) (X XD Y YD : Int → Int) (x xd y yd : Int) : Int := fstN (fun t => decide (0 ≤ cmpP (X t) (XD t) (Y t) (YD t) x xd y yd)) m.toNat 0
theorem cmpP_in {X XD Y YD x xd y yd : Int} (hA : PB X XD Y YD) (hB : PB x xd y yd) : -2000000 ≤ cmpP X XD Y YD x xd y yd ∧ cmpP X XD Y YD x xd y yd ≤ 2000000 := by
  have := cmpP_b hA hB
  unfold cmpP; split <;> omega
theorem w_seek {X : PX} {d : Nat} {S : SS} {zI zL : ZM} {Q : PQ} {h N : Nat} {m : Int} {X0 XD Y YD : Int → Int} (hF : isPoints S h N) (hT : PsH zI zL h m X0 XD Y YD) (hR : PsR m X0 XD Y YD) (hm : m ≤ N) {p : Nat} {x xd y yd : Int} (hp : isPoint S p) (hP : PH zL p x xd y yd) (hB : PB x xd y yd) (hN : N ≤ 10000) (hQ : Q (some (pI (skS m X0 XD Y YD x xd y yd))) S zI zL) : wpM X (d + 2) fPoints_seek [pR h, pR p] S zI zL Q := by
  have hF0 := hF
  have hT0 := hT
  have hR0 := hR
  obtain ⟨hob, ⟨hr1, hr2, hr3, hr4⟩, hf1, hf2, hf3, hf4⟩ := hF
  obtain ⟨e5, hel⟩ := hT
  obtain ⟨hm0, hrg⟩ := hR
  have l0 : inL 0 := by unfold inL; omega
  have key : ∀ k : Int, k ≤ m → 0 ≤ k → fstN (fun t => decide (0 ≤ cmpP (X0 t) (XD t) (Y t) (YD t) x xd y yd)) (m - k).toNat k = skS m X0 XD Y YD x xd y yd → Run X (d + 1) c_Points_seek 2 [some (pR h), some (pR p), some (pI k)] [] S zI zL 0 0 Q := by
    refine loop_up _ m (fun k hk ih h0 hs => ?_)
    refine r_iload_n rfl rfl ?_
    refine r_aload_n rfl rfl ?_
    refine r_getI rfl (by assumption) ?_
    refine r_icmp_ge rfl (by unfold inI; omega) (by unfold inI; omega) (fun h5 => ?_) (fun h5 => ?_)
    · skip
      refine r_iload_n rfl rfl ?_
      refine r_iret rfl ?_
      rw [fstN_e (by omega)] at hs; rw [hs]; exact hQ
    · skip
      have hc := cmpP_in (hrg k h0 (by omega)) hB
      refine r_aload_n rfl rfl ?_
      refine r_iload_n rfl rfl ?_
      refine r_aload_n rfl rfl ?_
      refine r_cV3 rfl (by assumption) (Nat.le_of_ble_eq_true rfl) rfl rfl (w_compare hF0 hT0 hR0 hm hp hP hB h0 (by omega) ?_)
      refine r_lconst rfl ?_
      refine r_l_ge rfl rfl (by unfold inL; omega) l0 (fun h12 => ?_) (fun h12 => ?_)
      · skip
        refine r_iload_n rfl rfl ?_
        refine r_iret rfl ?_
        rw [fstN_hit (by omega) (by simp only [decide_eq_true_eq]; exact h12)] at hs; rw [hs]; exact hQ
      · skip
        refine r_iinc rfl rfl ?_
        refine r_goto rfl ?_
        exact ih (by omega) (by omega) (by rw [← fstN_miss (by omega) (by simp only [decide_eq_false_iff_not]; omega)]; exact hs)
  refine wp_in (C := c_Points_seek) (ls := [some (pR h), some (pR p), none]) rfl rfl rfl rfl rfl ?_
  refine r_iconst rfl ?_
  refine r_istore_n rfl (Nat.le_of_ble_eq_true rfl) ?_
  exact key 0 hm0 (Int.le_refl _) (by rw [Int.sub_zero]; rfl)
theorem w_stands {X : PX} {d : Nat} {S : SS} {zI zL : ZM} {Q : PQ} {h N : Nat} {m : Int} {X0 XD Y YD : Int → Int} (hF : isPoints S h N) (hT : PsH zI zL h m X0 XD Y YD) (hR : PsR m X0 XD Y YD) (hm : m ≤ N) {p : Nat} {x xd y yd : Int} (hp : isPoint S p) (hP : PH zL p x xd y yd) (hB : PB x xd y yd) {t : Int} (hN : N ≤ 10000) (h0 : 0 ≤ t) (h1 : t ≤ m) (hQ : Q (some (pI (if t < m ∧ cmpP (X0 t) (XD t) (Y t) (YD t) x xd y yd = 0 then 1 else 0))) S zI zL) : wpM X (d + 2) fPoints_stands [pR h, pI t, pR p] S zI zL Q := by
  have hF0 := hF
  have hT0 := hT
  have hR0 := hR
  obtain ⟨hob, ⟨hr1, hr2, hr3, hr4⟩, hf1, hf2, hf3, hf4⟩ := hF
  obtain ⟨e5, hel⟩ := hT
  obtain ⟨hm0, hrg⟩ := hR
  have l0 : inL 0 := by unfold inL; omega
  refine wp_in (C := c_Points_stands) (ls := [some (pR h), some (pI t), some (pR p)]) rfl rfl rfl rfl rfl ?_
  refine r_iload_n rfl rfl ?_
  refine r_aload_n rfl rfl ?_
  refine r_getI rfl (by assumption) ?_
  refine r_icmp_ge rfl (by unfold inI; omega) (by unfold inI; omega) (fun h3 => ?_) (fun h3 => ?_)
  · skip
    refine r_iconst rfl ?_
    refine r_zret rfl (by first | exact Or.inl rfl | exact Or.inr rfl) ?_
    rw [if_neg (by omega)] at hQ; exact hQ
  · skip
    have hc := cmpP_in (hrg t h0 (by omega)) hB
    refine r_aload_n rfl rfl ?_
    refine r_iload_n rfl rfl ?_
    refine r_aload_n rfl rfl ?_
    refine r_cV3 rfl (by assumption) (Nat.le_of_ble_eq_true rfl) rfl rfl (w_compare hF0 hT0 hR0 hm hp hP hB h0 (by omega) ?_)
    refine r_lconst rfl ?_
    refine r_l_ne rfl rfl (by unfold inL; omega) l0 (fun h10 => ?_) (fun h10 => ?_)
    · skip
      refine r_iconst rfl ?_
      refine r_zret rfl (by first | exact Or.inl rfl | exact Or.inr rfl) ?_
      rw [if_neg (fun q => h10 q.2)] at hQ; exact hQ
    · skip
      refine r_iconst rfl ?_
      refine r_goto rfl ?_
      refine r_zret rfl (by first | exact Or.inl rfl | exact Or.inr rfl) ?_
      rw [if_pos ⟨by omega, h10⟩] at hQ; exact hQ
/-- a point let in -/
def insP (zL zL' : ZM) (h : Nat) (m : Int) (X XD Y YD : Int → Int) (t x xd y yd : Int) : Prop := (∀ c, c ≠ h + 1 → c ≠ h + 2 → c ≠ h + 3 → c ≠ h + 4 → zL' c = zL c) ∧
  ∀ k, 0 ≤ k → k < m + 1 → zL' (h + 1) k = insF X t x k ∧ zL' (h + 2) k = insF XD t xd k ∧ zL' (h + 3) k = insF Y t y k ∧ zL' (h + 4) k = insF YD t yd k
def slL (z : ZM) (h : Nat) (t n : Int) : ZM := fun c k => if (c = h + 1 ∨ c = h + 2 ∨ c = h + 3 ∨ c = h + 4) ∧ t + 1 ≤ k ∧ k < t + 1 + n then z c (t + (k - (t + 1))) else z c k
theorem cp_row {z : ZM} {h c : Nat} {sp dp n : Int} : zrow z h (cpI (z h) (z h) sp dp n) c = if c = h then cpI (z h) (z h) sp dp n else z c := by
  funext k; unfold zrow; split <;> rfl
set_option maxHeartbeats 4000000 in
theorem ins_post {z : ZM} {h : Nat} {m t x xd y yd : Int} {X XD Y YD : Int → Int} (hel : ∀ k, 0 ≤ k → k < m → z (h + 1) k = X k ∧ z (h + 2) k = XD k ∧ z (h + 3) k = Y k ∧ z (h + 4) k = YD k) (h0 : 0 ≤ t) (h1 : t ≤ m) :
    insP z (zput (zput (zput (zput (slL z h t (m - t)) (h + 1) t x) (h + 2) t xd) (h + 3) t y) (h + 4) t yd) h m X XD Y YD t x xd y yd := by
  refine ⟨fun c c1 c2 c3 c4 => ?_, fun k k0 k1 => ?_⟩
  · funext k; unfold zput slL; simp (disch := omega) only [if_pos, if_neg, ↓reduceIte, true_and, and_true, true_or, or_true, and_self]
  · unfold zput slL insF
    rcases Int.lt_trichotomy k t with e | e | e
    · obtain ⟨g1, g2, g3, g4⟩ := hel k k0 (by omega)
      simp (disch := omega) only [if_pos, if_neg, ↓reduceIte, true_and, and_true, true_or, or_true, and_self]
      exact ⟨g1, g2, g3, g4⟩
    · subst e
      simp (disch := omega) only [if_pos, if_neg, ↓reduceIte, true_and, and_true, true_or, or_true, and_self]
    · obtain ⟨g1, g2, g3, g4⟩ := hel (k - 1) (by omega) (by omega)
      simp (disch := omega) only [if_pos, if_neg, ↓reduceIte, true_and, and_true, true_or, or_true, and_self]
      rw [show t + (k - (t + 1)) = k - 1 by omega]
      exact ⟨g1, g2, g3, g4⟩
/-- the same stretch of one row moved up by one -/
def sl1 (z : ZM) (a : Nat) (t n : Int) : ZM := zrow z a (cpI (z a) (z a) t (t + 1) n)
set_option maxHeartbeats 4000000 in
theorem sl1_4 (z : ZM) (h : Nat) (t n : Int) : sl1 (sl1 (sl1 (sl1 z (h + 1) t n) (h + 2) t n) (h + 3) t n) (h + 4) t n = slL z h t n := by
  funext c k
  unfold sl1 zrow slL cpI
  by_cases h4 : c = h + 4
  · subst h4
    by_cases hk : t + 1 ≤ k ∧ k < t + 1 + n <;> simp (disch := omega) only [if_pos, if_neg, ↓reduceIte, true_and, and_true, true_or, or_true, and_self]
  · by_cases h3 : c = h + 3
    · subst h3
      by_cases hk : t + 1 ≤ k ∧ k < t + 1 + n <;> simp (disch := omega) only [if_pos, if_neg, ↓reduceIte, true_and, and_true, true_or, or_true, and_self]
    · by_cases h2 : c = h + 2
      · subst h2
        by_cases hk : t + 1 ≤ k ∧ k < t + 1 + n <;> simp (disch := omega) only [if_pos, if_neg, ↓reduceIte, true_and, and_true, true_or, or_true, and_self]
      · by_cases h1 : c = h + 1
        · subst h1
          by_cases hk : t + 1 ≤ k ∧ k < t + 1 + n <;> simp (disch := omega) only [if_pos, if_neg, ↓reduceIte, true_and, and_true, true_or, or_true, and_self]
        · simp (disch := omega) only [if_pos, if_neg, ↓reduceIte, true_and, and_true, true_or, or_true, and_self]
theorem w_insert {X : PX} {d : Nat} {S : SS} {zI zL : ZM} {Q : PQ} {h N : Nat} {m : Int} {X0 XD Y YD : Int → Int} (hF : isPoints S h N) (hT : PsH zI zL h m X0 XD Y YD) (hR : PsR m X0 XD Y YD) (hm : m ≤ N) {p : Nat} {x xd y yd : Int} (hp : isPoint S p) (hP : PH zL p x xd y yd) (hph : p < h + 1 ∨ h + 4 < p) (hN : N ≤ 10000) (hmost : zI h 4 = N) {t : Int} (h0 : 0 ≤ t) (h1 : t ≤ m) (hQ0 : m = N → Q (some (pI 0)) S zI zL) (hQ1 : m < N → ∀ z, insP zL z h m X0 XD Y YD t x xd y yd → Q (some (pI 1)) S (zput zI h 5 (m + 1)) z) : wpM X (d + 1) fPoints_insert [pR h, pI t, pR p] S zI zL Q := by
  obtain ⟨hob, ⟨hr1, hr2, hr3, hr4⟩, hf1, hf2, hf3, hf4⟩ := hF
  obtain ⟨e5, hel⟩ := hT
  obtain ⟨hm0, hrg⟩ := hR
  have hpo : ob S p 4 := hp
  obtain ⟨⟨k0, k1⟩, k2, k3⟩ := hP
  have epo : ∀ z : ZM, (∀ c, c ≠ h + 1 → c ≠ h + 2 → c ≠ h + 3 → c ≠ h + 4 → z c = zL c) → z p = zL p := fun z hz => hz p (by omega) (by omega) (by omega) (by omega)
  have f4 : ∀ c, c ≠ h + 1 → c ≠ h + 2 → c ≠ h + 3 → c ≠ h + 4 → slL zL h t (m - t) c = zL c := fun c c1 c2 c3 c4 => by funext k; unfold slL; simp (disch := omega) only [if_pos, if_neg, ↓reduceIte, true_and, and_true, true_or, or_true, and_self]
  refine wp_in (C := c_Points_insert) (ls := [some (pR h), some (pI t), some (pR p), none]) rfl rfl rfl rfl rfl ?_
  refine r_aload_n rfl rfl ?_
  refine r_getI rfl (by assumption) ?_
  refine r_aload_n rfl rfl ?_
  refine r_getI rfl (by assumption) ?_
  refine r_icmp_ge rfl (by unfold inI; omega) (by unfold inI; omega) (fun h4 => ?_) (fun h4 => ?_)
  · skip
    refine r_iconst rfl ?_
    refine r_zret rfl (by first | exact Or.inl rfl | exact Or.inr rfl) ?_
    exact hQ0 (by omega)
  · skip
    refine r_iload_n rfl rfl ?_
    refine r_aload_n rfl rfl ?_
    refine r_getI rfl (by assumption) ?_
    refine r_icmp_le rfl (by unfold inI; omega) (by unfold inI; omega) (fun h8 => ?_) (fun h8 => ?_)
    · skip
      refine r_aload_n rfl rfl ?_
      refine r_getI rfl (by assumption) ?_
      refine r_iload_n rfl rfl ?_
      refine r_isub rfl ?_
      refine r_istore_n rfl (Nat.le_of_ble_eq_true rfl) ?_
      refine r_aload_n rfl rfl ?_
      refine r_getR rfl (by assumption) (by assumption) ?_
      refine r_iload_n rfl rfl ?_
      refine r_aload_n rfl rfl ?_
      refine r_getR rfl (by assumption) (by assumption) ?_
      refine r_iload_n rfl rfl ?_
      refine r_iconst rfl ?_
      refine r_iadd rfl ?_
      refine r_iload_n rfl rfl ?_
      refine r_acopyL rfl hr1 hr1 (Nat.le_of_ble_eq_true rfl) (by omega) (by omega) (by omega) (by omega) (by omega) ?_
      refine r_aload_n rfl rfl ?_
      refine r_getR rfl (by assumption) (by assumption) ?_
      refine r_iload_n rfl rfl ?_
      refine r_aload_n rfl rfl ?_
      refine r_getR rfl (by assumption) (by assumption) ?_
      refine r_iload_n rfl rfl ?_
      refine r_iconst rfl ?_
      refine r_iadd rfl ?_
      refine r_iload_n rfl rfl ?_
      refine r_acopyL rfl hr2 hr2 (Nat.le_of_ble_eq_true rfl) (by omega) (by omega) (by omega) (by omega) (by omega) ?_
      refine r_aload_n rfl rfl ?_
      refine r_getR rfl (by assumption) (by assumption) ?_
      refine r_iload_n rfl rfl ?_
      refine r_aload_n rfl rfl ?_
      refine r_getR rfl (by assumption) (by assumption) ?_
      refine r_iload_n rfl rfl ?_
      refine r_iconst rfl ?_
      refine r_iadd rfl ?_
      refine r_iload_n rfl rfl ?_
      refine r_acopyL rfl hr3 hr3 (Nat.le_of_ble_eq_true rfl) (by omega) (by omega) (by omega) (by omega) (by omega) ?_
      refine r_aload_n rfl rfl ?_
      refine r_getR rfl (by assumption) (by assumption) ?_
      refine r_iload_n rfl rfl ?_
      refine r_aload_n rfl rfl ?_
      refine r_getR rfl (by assumption) (by assumption) ?_
      refine r_iload_n rfl rfl ?_
      refine r_iconst rfl ?_
      refine r_iadd rfl ?_
      refine r_iload_n rfl rfl ?_
      refine r_acopyL rfl hr4 hr4 (Nat.le_of_ble_eq_true rfl) (by omega) (by omega) (by omega) (by omega) (by omega) ?_
      have e4 := sl1_4 zL h t (m - t)
      unfold sl1 at e4
      rw [e5, e4]
      refine r_aload_n rfl rfl ?_
      refine r_getR rfl (by assumption) (by assumption) ?_
      refine r_iload_n rfl rfl ?_
      refine r_aload_n rfl rfl ?_
      refine r_getL rfl (by assumption) ?_
      rw [epo _ f4, k0]
      refine r_last rfl (by assumption) (by omega) (by omega) ?_
      refine r_aload_n rfl rfl ?_
      refine r_getR rfl (by assumption) (by assumption) ?_
      refine r_iload_n rfl rfl ?_
      refine r_aload_n rfl rfl ?_
      refine r_getL rfl (by assumption) ?_
      rw [zput_row (by omega), epo _ f4, k1]
      refine r_last rfl (by assumption) (by omega) (by omega) ?_
      refine r_aload_n rfl rfl ?_
      refine r_getR rfl (by assumption) (by assumption) ?_
      refine r_iload_n rfl rfl ?_
      refine r_aload_n rfl rfl ?_
      refine r_getL rfl (by assumption) ?_
      rw [zput_row (by omega), zput_row (by omega), epo _ f4, k2]
      refine r_last rfl (by assumption) (by omega) (by omega) ?_
      refine r_aload_n rfl rfl ?_
      refine r_getR rfl (by assumption) (by assumption) ?_
      refine r_iload_n rfl rfl ?_
      refine r_aload_n rfl rfl ?_
      refine r_getL rfl (by assumption) ?_
      rw [zput_row (by omega), zput_row (by omega), zput_row (by omega), epo _ f4, k3]
      refine r_last rfl (by assumption) (by omega) (by omega) ?_
      refine r_aload_n rfl rfl ?_
      refine r_dupR rfl ?_
      refine r_getI rfl (by assumption) ?_
      refine r_iconst rfl ?_
      refine r_iadd rfl ?_
      refine r_putI rfl (by assumption) ?_
      refine r_iconst rfl ?_
      refine r_zret rfl (by first | exact Or.inl rfl | exact Or.inr rfl) ?_
      rw [e5]; exact hQ1 (by omega) _ (ins_post hel h0 h1)
    · skip
      refine r_iconst rfl ?_
      refine r_zret rfl (by first | exact Or.inl rfl | exact Or.inr rfl) ?_
      exact absurd h8 (by omega)
end
section
/-! THE RING: the least ring about places, by its lower and its upper chain -/
def isRing (S : SS) (r : Nat) : Prop := ob S r 6 ∧ (row S 12 (r + 1) 81 ∧ row S 12 (r + 2) 81 ∧ row S 12 (r + 3) 81) ∧ S.2 r 0 = some (r + 1) ∧ S.2 r 1 = some (r + 2) ∧ S.2 r 2 = some (r + 3)
def RGH (z : ZM) (r : Nat) (m : Int) (I J : Int → Int) : Prop := z r 3 = m ∧ ∀ t, 0 ≤ t → t < m → z (r + 1) t = I t ∧ z (r + 2) t = J t
def RGR (m : Int) (I J : Int → Int) : Prop := 0 ≤ m ∧ m ≤ 81 ∧ ∀ t, 0 ≤ t → t < m → 0 ≤ I t ∧ I t ≤ 8 ∧ 0 ≤ J t ∧ J t ≤ 8
def trn (I J : Int → Int) (a b c : Int) : Int := (I b - I a) * (J c - J a) - (I c - I a) * (J b - J a)
theorem w_rclear {X : PX} {d : Nat} {S : SS} {zI zL : ZM} {Q : PQ} {r : Nat} (hF : isRing S r) (hQ : Q none S (zput zI r 3 0) zL) : wpM X (d + 1) fRing_clear [pR r] S zI zL Q := by
  obtain ⟨hob, -⟩ := hF
  refine wp_in (C := c_Ring_clear) (ls := [some (pR r)]) rfl rfl rfl rfl rfl ?_
  refine r_aload_n rfl rfl ?_
  refine r_iconst rfl ?_
  refine r_putI rfl (by assumption) ?_
  refine r_ret rfl ?_
  exact hQ
def radP (z z' : ZM) (r : Nat) (m : Int) (I J : Int → Int) (a b : Int) : Prop := (∀ c, c ≠ r → c ≠ r + 1 → c ≠ r + 2 → z' c = z c) ∧ RGH z' r (m + 1) (updF I m a) (updF J m b)
theorem w_radd {X : PX} {d : Nat} {S : SS} {zI zL : ZM} {Q : PQ} {r : Nat} {m a b : Int} {I J : Int → Int} (hF : isRing S r) (hT : RGH zI r m I J) (h0 : 0 ≤ m) (h1 : m < 81) (hQ : ∀ z, radP zI z r m I J a b → Q none S z zL) : wpM X (d + 1) fRing_add [pR r, pI a, pI b] S zI zL Q := by
  obtain ⟨hob, ⟨hr1, hr2, hr3⟩, hf1, hf2, hf3⟩ := hF
  obtain ⟨e3, hel⟩ := hT
  have fin : radP zI (zput (zput (zput zI (r + 1) m a) (r + 2) m b) r 3 (m + 1)) r m I J a b := by
    refine ⟨fun c c0 c1 c2 => ?_, ?_, fun t t0 t1 => ?_⟩
    · funext k; unfold zput; simp (disch := omega) only [if_pos, if_neg, ↓reduceIte, true_and, and_true, true_or, or_true, and_self]
    · unfold zput; simp (disch := omega) only [if_pos, if_neg, ↓reduceIte, true_and, and_true, true_or, or_true, and_self]
    · unfold zput updF
      by_cases e : t = m
      · subst e; simp (disch := omega) only [if_pos, if_neg, ↓reduceIte, true_and, and_true, true_or, or_true, and_self]
      · obtain ⟨g1, g2⟩ := hel t t0 (by omega)
        simp (disch := omega) only [if_pos, if_neg, ↓reduceIte, true_and, and_true, true_or, or_true, and_self]
        exact ⟨g1, g2⟩
  have e31 : zput zI (r + 1) m a r 3 = m := by unfold zput; simp (disch := omega) only [if_pos, if_neg, ↓reduceIte, true_and, and_true, true_or, or_true, and_self]; exact e3
  have e32 : zput (zput zI (r + 1) m a) (r + 2) m b r 3 = m := by unfold zput; simp (disch := omega) only [if_pos, if_neg, ↓reduceIte, true_and, and_true, true_or, or_true, and_self]; exact e3
  refine wp_in (C := c_Ring_add) (ls := [some (pR r), some (pI a), some (pI b)]) rfl rfl rfl rfl rfl ?_
  refine r_aload_n rfl rfl ?_
  refine r_getI rfl (by assumption) ?_
  refine r_bipush rfl ?_
  refine r_icmp_ge rfl (by unfold inI; omega) (by unfold inI; omega) (fun h3 => ?_) (fun h3 => ?_)
  · skip
    refine r_ret rfl ?_
    exact absurd h3 (by omega)
  · skip
    refine r_aload_n rfl rfl ?_
    refine r_getR rfl (by assumption) (by assumption) ?_
    refine r_aload_n rfl rfl ?_
    refine r_getI rfl (by assumption) ?_
    rw [e3]
    refine r_iload_n rfl rfl ?_
    refine r_iast rfl (by assumption) (by omega) (by omega) ?_
    refine r_aload_n rfl rfl ?_
    refine r_getR rfl (by assumption) (by assumption) ?_
    refine r_aload_n rfl rfl ?_
    refine r_getI rfl (by assumption) ?_
    rw [e31]
    refine r_iload_n rfl rfl ?_
    refine r_iast rfl (by assumption) (by omega) (by omega) ?_
    refine r_aload_n rfl rfl ?_
    refine r_dupR rfl ?_
    refine r_getI rfl (by assumption) ?_
    rw [e32]
    refine r_iconst rfl ?_
    refine r_iadd rfl ?_
    refine r_putI rfl (by assumption) ?_
    refine r_ret rfl ?_
    exact hQ _ fin
theorem w_turn {X : PX} {d : Nat} {S : SS} {zI zL : ZM} {Q : PQ} {r : Nat} {m a b c : Int} {I J : Int → Int} (hF : isRing S r) (hT : RGH zI r m I J) (hR : RGR m I J) (ha : 0 ≤ a ∧ a < m) (hb : 0 ≤ b ∧ b < m) (hc : 0 ≤ c ∧ c < m) (hQ : Q (some (pI (trn I J a b c))) S zI zL) : wpM X (d + 1) fRing_turn [pR r, pI a, pI b, pI c] S zI zL Q := by
  obtain ⟨hob, ⟨hr1, hr2, hr3⟩, hf1, hf2, hf3⟩ := hF
  obtain ⟨e3, hel⟩ := hT
  obtain ⟨hm0, hm1, -⟩ := hR
  obtain ⟨a1, a2⟩ := hel a ha.1 ha.2
  obtain ⟨b1, b2⟩ := hel b hb.1 hb.2
  obtain ⟨c1, c2⟩ := hel c hc.1 hc.2
  refine wp_in (C := c_Ring_turn) (ls := [some (pR r), some (pI a), some (pI b), some (pI c)]) rfl rfl rfl rfl rfl ?_
  refine r_aload_n rfl rfl ?_
  refine r_getR rfl (by assumption) (by assumption) ?_
  refine r_iload_n rfl rfl ?_
  refine r_iald rfl (by assumption) (by omega) (by omega) ?_
  refine r_aload_n rfl rfl ?_
  refine r_getR rfl (by assumption) (by assumption) ?_
  refine r_iload_n rfl rfl ?_
  refine r_iald rfl (by assumption) (by omega) (by omega) ?_
  refine r_isub rfl ?_
  refine r_aload_n rfl rfl ?_
  refine r_getR rfl (by assumption) (by assumption) ?_
  refine r_iload_n rfl rfl ?_
  refine r_iald rfl (by assumption) (by omega) (by omega) ?_
  refine r_aload_n rfl rfl ?_
  refine r_getR rfl (by assumption) (by assumption) ?_
  refine r_iload_n rfl rfl ?_
  refine r_iald rfl (by assumption) (by omega) (by omega) ?_
  refine r_isub rfl ?_
  refine r_imul rfl ?_
  refine r_aload_n rfl rfl ?_
  refine r_getR rfl (by assumption) (by assumption) ?_
  refine r_iload_n rfl rfl ?_
  refine r_iald rfl (by assumption) (by omega) (by omega) ?_
  refine r_aload_n rfl rfl ?_
  refine r_getR rfl (by assumption) (by assumption) ?_
  refine r_iload_n rfl rfl ?_
  refine r_iald rfl (by assumption) (by omega) (by omega) ?_
  refine r_isub rfl ?_
  refine r_aload_n rfl rfl ?_
  refine r_getR rfl (by assumption) (by assumption) ?_
  refine r_iload_n rfl rfl ?_
  refine r_iald rfl (by assumption) (by omega) (by omega) ?_
  refine r_aload_n rfl rfl ?_
  refine r_getR rfl (by assumption) (by assumption) ?_
  refine r_iload_n rfl rfl ?_
  refine r_iald rfl (by assumption) (by omega) (by omega) ?_
  refine r_isub rfl ?_
  refine r_imul rfl ?_
  refine r_isub rfl ?_
  refine r_iret rfl ?_
  rw [a1, a2, b1, b2, c1, c2]; exact hQ
theorem trn_b {m a b c : Int} {I J : Int → Int} (hR : RGR m I J) (ha : 0 ≤ a ∧ a < m) (hb : 0 ≤ b ∧ b < m) (hc : 0 ≤ c ∧ c < m) : -128 ≤ trn I J a b c ∧ trn I J a b c ≤ 128 := by
  have h1 := hR.2.2 a ha.1 ha.2
  have h2 := hR.2.2 b hb.1 hb.2
  have h3 := hR.2.2 c hc.1 hc.2
  have a1 := mb (a := I b - I a) (b := J c - J a) (A := 8) (B := 8) (by omega) (by omega) (by omega) (by omega)
  have a2 := mb (a := I c - I a) (b := J b - J a) (A := 8) (B := 8) (by omega) (by omega) (by omega) (by omega)
  unfold trn; omega
/-- a chain, its last place first -/
def popW (s : Int) (I J : Int → Int) (k : Int) : List Int → List Int
  | b :: a :: r => if s * trn I J a b k ≤ 0 then popW s I J k (a :: r) else b :: a :: r
  | l => l
def chW (s : Int) (I J : Int → Int) : Nat → Int → List Int → List Int
  | 0, _, l => l
  | m + 1, k, l => chW s I J m (k + 1) (k :: popW s I J k l)
def chn (s m : Int) (I J : Int → Int) : List Int := chW s I J m.toNat 0 []
def arS (I J : Int → Int) : List Int → Int
  | b :: a :: r => arS I J (a :: r) + (I a * J b - I b * J a)
  | _ => 0
def areaR (m : Int) (I J : Int → Int) : Int := arS I J (chn 1 m I J) - arS I J (chn (-1) m I J)
def chH (z : ZM) (a : Nat) : List Int → Prop
  | [] => True
  | x :: l => z a (l.length : Int) = x ∧ chH z a l
theorem chH_put {z : ZM} {a : Nat} {k x : Int} : ∀ {l : List Int}, (l.length : Int) ≤ k → chH z a l → chH (zput z a k x) a l
  | [], _, _ => trivial
  | y :: l, h, hl => by
    have h' : (l.length : Int) + 1 ≤ k := by simpa using h
    exact ⟨by rw [zput_off (by omega)]; exact hl.1, chH_put (by omega) hl.2⟩
theorem chH_app {z : ZM} {a : Nat} : ∀ {p r : List Int}, chH z a (p ++ r) → chH z a r
  | [], _, h => h
  | _ :: p, _, h => chH_app (p := p) h.2
theorem popW_in {s : Int} {I J : Int → Int} {k : Int} : ∀ {l : List Int} {x : Int}, x ∈ popW s I J k l → x ∈ l
  | [], _, h => h
  | [_], _, h => h
  | b :: a :: r, x, h => by
    unfold popW at h
    split at h
    · exact List.mem_cons_of_mem _ (popW_in h)
    · exact h
theorem popW_len {s : Int} {I J : Int → Int} {k : Int} : ∀ {l : List Int}, (popW s I J k l).length ≤ l.length
  | [] => Nat.le_refl _
  | [_] => Nat.le_refl _
  | b :: a :: r => by
    unfold popW
    split
    · have := popW_len (s := s) (I := I) (J := J) (k := k) (l := a :: r); simp only [List.length_cons] at this ⊢; omega
    · exact Nat.le_refl _
theorem chW_s {s : Int} {I J : Int → Int} {m k : Int} {l : List Int} (h : k < m) : chW s I J (m - k).toNat k l = chW s I J (m - (k + 1)).toNat (k + 1) (k :: popW s I J k l) := by
  rw [show (m - k).toNat = (m - (k + 1)).toNat + 1 by omega]; rfl
theorem chW_e {s : Int} {I J : Int → Int} {m k : Int} {l : List Int} (h : m ≤ k) : chW s I J (m - k).toNat k l = l := by rw [show (m - k).toNat = 0 by omega]; rfl
theorem arS_b {m : Int} {I J : Int → Int} (hR : RGR m I J) : ∀ l : List Int, (∀ x ∈ l, 0 ≤ x ∧ x < m) → -(64 * (l.length : Int)) ≤ arS I J l ∧ arS I J l ≤ 64 * (l.length : Int)
  | [], _ => by unfold arS; simp
  | [_], _ => by unfold arS; simp
  | b :: a :: r, h => by
    have ih := arS_b hR (a :: r) (fun x hx => h x (List.mem_cons_of_mem _ hx))
    have ha := h a (by simp)
    have hb := h b (by simp)
    have g1 := hR.2.2 a ha.1 ha.2
    have g2 := hR.2.2 b hb.1 hb.2
    have a1 := mb (a := I a) (b := J b) (A := 8) (B := 8) (by omega) (by omega) (by omega) (by omega)
    have a2 := mb (a := I b) (b := J a) (A := 8) (B := 8) (by omega) (by omega) (by omega) (by omega)
    have n1 := Int.mul_nonneg g1.1 g2.2.2.1
    have n2 := Int.mul_nonneg g2.1 g1.2.2.1
    unfold arS
    simp only [List.length_cons] at ih ⊢
    omega
set_option maxHeartbeats 4000000 in
theorem w_chain {X : PX} {d : Nat} {S : SS} {zI zL : ZM} {Q : PQ} {r : Nat} {m s : Int} {I J : Int → Int} (hF : isRing S r) (hT : RGH zI r m I J) (hR : RGR m I J) (hs : s = 1 ∨ s = -1) (hQ : ∀ z, (∀ c, c ≠ r + 3 → z c = zI c) → Q (some (pI (arS I J (chn s m I J)))) S z zL) : wpM X (d + 2) fRing_underChain [pR r, pI s] S zI zL Q := by
  have hF0 := hF
  obtain ⟨hob, ⟨hr1, hr2, hr3⟩, hf1, hf2, hf3⟩ := hF
  obtain ⟨hm0, hm1, hrg⟩ := hR
  have hR0 : RGR m I J := ⟨hm0, hm1, hrg⟩
  have hfr : ∀ z : ZM, (∀ c, c ≠ r + 3 → z c = zI c) → RGH z r m I J := fun z hz => by
    unfold RGH
    rw [hz r (by omega), hz (r + 1) (by omega), hz (r + 2) (by omega)]
    exact hT
  have sum : ∀ (z : ZM) (L : List Int), (∀ c, c ≠ r + 3 → z c = zI c) → chH z (r + 3) L → (∀ x ∈ L, 0 ≤ x ∧ x < m) → (L.length : Int) ≤ m → L = chn s m I J → ∀ (q p : List Int), L = q.reverse ++ p → p ≠ [] → ∀ x y : Option PV, (∀ v, x ≠ some (pL v)) → (∀ v, y ≠ some (pL v)) →
      Run X (d + 1) c_Ring_underChain 43 [some (pR r), some (pI s), some (pI (L.length : Int)), some (pI (arS I J p)), some (pI (p.length : Int)), x, y] [] S z zL 0 0 Q := by
    intro z L hz hc hx hlen hL q
    obtain ⟨e3, hel⟩ := hfr z hz
    induction q with
    | nil =>
      intro p hp hp0 x y hx1 hy1
      have hp : L = p := hp
      have hpl : (p.length : Int) = L.length := by rw [hp]
      have hab := arS_b hR0 L hx
      refine r_iload rfl rfl ?_
      refine r_iload_n rfl rfl ?_
      refine r_icmp_ge rfl (by unfold inI; omega) (by unfold inI; omega) (fun h45 => ?_) (fun h45 => ?_)
      · skip
        refine r_iload_n rfl rfl ?_
        refine r_iret rfl ?_
        rw [← hp, hL]; exact hQ _ hz
      · skip
        exact absurd h45 (by rw [hp]; omega)
    | cons b q ih =>
      intro p hp hp0 x y hx1 hy1
      have hp : L = q.reverse ++ (b :: p) := by rw [hp]; simp
      cases p with
      | nil => exact absurd rfl hp0
      | cons a p =>
        have hc2 : chH z (r + 3) (b :: a :: p) := chH_app (p := q.reverse) (by rw [← hp]; exact hc)
        obtain ⟨cb, ca, -⟩ := hc2
        have hb := hx b (by rw [hp]; simp)
        have ha := hx a (by rw [hp]; simp)
        obtain ⟨a1, a2⟩ := hel a ha.1 ha.2
        obtain ⟨b1, b2⟩ := hel b hb.1 hb.2
        have hll : (L.length : Int) = q.length + 1 + (p.length + 1) := by rw [hp]; simp; omega
        have hpl : ((a :: p).length : Int) = p.length + 1 := by simp
        have ca' : z (r + 3) ((p.length : Int) + 1 - 1) = a := by rw [show (p.length : Int) + 1 - 1 = p.length by omega]; exact ca
        have cb' : z (r + 3) ((p.length : Int) + 1) = b := by rw [← hpl]; exact cb
        rw [hpl]
        refine r_iload rfl rfl ?_
        refine r_iload_n rfl rfl ?_
        refine r_icmp_ge rfl (by unfold inI; omega) (by unfold inI; omega) (fun h45 => ?_) (fun h45 => ?_)
        · skip
          exact absurd h45 (by omega)
        · skip
          refine r_aload_n rfl rfl ?_
          refine r_getR rfl (by assumption) (by assumption) ?_
          refine r_iload rfl rfl ?_
          refine r_iconst rfl ?_
          refine r_isub rfl ?_
          refine r_iald rfl (by assumption) (by omega) (by omega) ?_
          rw [ca']
          refine r_istore rfl (Nat.le_of_ble_eq_true rfl) ?_
          refine r_aload_n rfl rfl ?_
          refine r_getR rfl (by assumption) (by assumption) ?_
          refine r_iload rfl rfl ?_
          refine r_iald rfl (by assumption) (by omega) (by omega) ?_
          rw [cb']
          refine r_istore rfl (Nat.le_of_ble_eq_true rfl) ?_
          refine r_iload_n rfl rfl ?_
          refine r_aload_n rfl rfl ?_
          refine r_getR rfl (by assumption) (by assumption) ?_
          refine r_iload rfl rfl ?_
          refine r_iald rfl (by assumption) (by omega) (by omega) ?_
          rw [a1]
          refine r_aload_n rfl rfl ?_
          refine r_getR rfl (by assumption) (by assumption) ?_
          refine r_iload rfl rfl ?_
          refine r_iald rfl (by assumption) (by omega) (by omega) ?_
          rw [b2]
          refine r_imul rfl ?_
          refine r_aload_n rfl rfl ?_
          refine r_getR rfl (by assumption) (by assumption) ?_
          refine r_iload rfl rfl ?_
          refine r_iald rfl (by assumption) (by omega) (by omega) ?_
          rw [b1]
          refine r_aload_n rfl rfl ?_
          refine r_getR rfl (by assumption) (by assumption) ?_
          refine r_iload rfl rfl ?_
          refine r_iald rfl (by assumption) (by omega) (by omega) ?_
          rw [a2]
          refine r_imul rfl ?_
          refine r_isub rfl ?_
          refine r_iadd rfl ?_
          refine r_istore_n rfl (Nat.le_of_ble_eq_true rfl) ?_
          refine r_iinc rfl rfl ?_
          refine r_goto rfl ?_
          have := ih (b :: a :: p) hp (by simp) (some (pI a)) (some (pI b)) (fun v h => by cases h) (fun v h => by cases h)
          rw [show ((b :: a :: p).length : Int) = (p.length : Int) + 1 + 1 by simp] at this
          exact this
  have key : ∀ k : Int, k ≤ m → 0 ≤ k → ∀ (z : ZM) (L : List Int), (∀ c, c ≠ r + 3 → z c = zI c) → chH z (r + 3) L → (∀ x ∈ L, 0 ≤ x ∧ x < k) → (L.length : Int) ≤ k → (k > 0 → L ≠ []) → chW s I J (m - k).toNat k L = chn s m I J → Run X (d + 1) c_Ring_underChain 4 [some (pR r), some (pI s), some (pI (L.length : Int)), some (pI k), none, none, none] [] S z zL 0 0 Q := by
    refine loop_up _ m (fun k hk ih h0 z L hz hc hx hlen hne hch => ?_)
    have hRH := hfr z hz
    obtain ⟨e3, hel⟩ := hfr z hz
    have inner : k < m → ∀ l : List Int, chH z (r + 3) l → (∀ x ∈ l, 0 ≤ x ∧ x < k) → (l.length : Int) ≤ k → popW s I J k l = popW s I J k L → Run X (d + 1) c_Ring_underChain 8 [some (pR r), some (pI s), some (pI (l.length : Int)), some (pI k), none, none, none] [] S z zL 0 0 Q := by
      intro hkm l
      have push : ∀ l : List Int, chH z (r + 3) l → (∀ x ∈ l, 0 ≤ x ∧ x < k) → (l.length : Int) ≤ k → l = popW s I J k L → Run X (d + 1) c_Ring_underChain 31 [some (pR r), some (pI s), some (pI (l.length : Int)), some (pI k), none, none, none] [] S z zL 0 0 Q := by
        intro l hl hlx hll hpe
        refine r_aload_n rfl rfl ?_
        refine r_getR rfl (by assumption) (by assumption) ?_
        refine r_iload_n rfl rfl ?_
        refine r_iload_n rfl rfl ?_
        refine r_iast rfl (by assumption) (by omega) (by omega) ?_
        refine r_iinc rfl rfl ?_
        refine r_iinc rfl rfl ?_
        refine r_goto rfl ?_
        have := ih hkm (by omega) (zput z (r + 3) (l.length : Int) k) (k :: l) (fun c hc => by rw [← hz c hc]; exact zput_row hc) ⟨zput_at, chH_put (Int.le_refl _) hl⟩ (fun x hx => by
          rcases List.mem_cons.mp hx with e | e
          · omega
          · have := hlx x e; omega) (by simp only [List.length_cons]; omega) (fun _ => by simp) (by rw [chW_s hkm] at hch; rw [hpe]; exact hch)
        rw [show ((k :: l).length : Int) = (l.length : Int) + 1 by simp] at this
        exact this
      induction l with
      | nil =>
        intro hl hlx hll hpe
        refine r_iload_n rfl rfl ?_
        refine r_iconst rfl ?_
        refine r_icmp_lt rfl (by unfold inI; omega) (by unfold inI; omega) (fun h10 => ?_) (fun h10 => ?_)
        · skip
          exact push [] hl hlx hll hpe
        · skip
          exact absurd h10 (by simp)
      | cons b l ihl =>
        intro hl hlx hll hpe
        cases l with
        | nil =>
          refine r_iload_n rfl rfl ?_
          refine r_iconst rfl ?_
          refine r_icmp_lt rfl (by unfold inI; omega) (by unfold inI; omega) (fun h10 => ?_) (fun h10 => ?_)
          · skip
            exact push [b] hl hlx hll hpe
          · skip
            exact absurd h10 (by simp)
        | cons a l =>
          obtain ⟨cb, ca, hl2⟩ := id hl
          have hb := hlx b (by simp)
          have ha := hlx a (by simp)
          have hpl : ((b :: a :: l).length : Int) = l.length + 1 + 1 := by simp
          have hpl2 : ((a :: l).length : Int) = l.length + 1 := by simp
          have hll2 : (l.length : Int) + 1 + 1 ≤ k := by rw [← hpl]; exact hll
          have ca' : z (r + 3) ((l.length : Int) + 1 + 1 - 2) = a := by rw [show (l.length : Int) + 1 + 1 - 2 = l.length by omega]; exact ca
          have cb' : z (r + 3) ((l.length : Int) + 1 + 1 - 1) = b := by rw [show (l.length : Int) + 1 + 1 - 1 = l.length + 1 by omega, ← hpl2]; exact cb
          have htb := trn_b hR0 (a := a) (b := b) (c := k) (by omega) (by omega) (by omega)
          have hpop : popW s I J k (b :: a :: l) = if s * trn I J a b k ≤ 0 then popW s I J k (a :: l) else b :: a :: l := rfl
          have hsm : -128 ≤ s * trn I J a b k ∧ s * trn I J a b k ≤ 128 := by rcases hs with rfl | rfl <;> omega
          have hpush := push (b :: a :: l) hl hlx hll
          rw [hpl] at hpush ⊢
          rw [hpop] at hpe
          refine r_iload_n rfl rfl ?_
          refine r_iconst rfl ?_
          refine r_icmp_lt rfl (by unfold inI; omega) (by unfold inI; omega) (fun h10 => ?_) (fun h10 => ?_)
          · skip
            exact absurd h10 (by omega)
          · skip
            refine r_iload_n rfl rfl ?_
            refine r_aload_n rfl rfl ?_
            refine r_aload_n rfl rfl ?_
            refine r_getR rfl (by assumption) (by assumption) ?_
            refine r_iload_n rfl rfl ?_
            refine r_iconst rfl ?_
            refine r_isub rfl ?_
            refine r_iald rfl (by assumption) (by omega) (by omega) ?_
            rw [ca']
            refine r_aload_n rfl rfl ?_
            refine r_getR rfl (by assumption) (by assumption) ?_
            refine r_iload_n rfl rfl ?_
            refine r_iconst rfl ?_
            refine r_isub rfl ?_
            refine r_iald rfl (by assumption) (by omega) (by omega) ?_
            rw [cb']
            refine r_iload_n rfl rfl ?_
            refine r_cV4 rfl hob (Nat.le_of_ble_eq_true rfl) rfl rfl (w_turn hF0 hRH hR0 (by omega) (by omega) (by omega) ?_)
            refine r_imul rfl ?_
            refine r_if_gt rfl (by unfold inI; omega) (fun h28 => ?_) (fun h28 => ?_)
            · skip
              exact hpush (by rw [if_neg (by omega)] at hpe; exact hpe)
            · skip
              refine r_iinc rfl rfl ?_
              refine r_goto rfl ?_
              have := ihl ⟨ca, hl2⟩ (fun x hx => hlx x (List.mem_cons_of_mem _ hx)) (by rw [hpl2]; omega) (by rw [if_pos (by omega)] at hpe; exact hpe)
              rw [hpl2] at this
              rw [show (l.length : Int) + 1 + 1 + -1 = l.length + 1 by omega]
              exact this
    refine r_iload_n rfl rfl ?_
    refine r_aload_n rfl rfl ?_
    refine r_getI rfl (by assumption) ?_
    refine r_icmp_ge rfl (by unfold inI; omega) (by unfold inI; omega) (fun h7 => ?_) (fun h7 => ?_)
    · skip
      refine r_iconst rfl ?_
      refine r_istore_n rfl (Nat.le_of_ble_eq_true rfl) ?_
      refine r_iconst rfl ?_
      refine r_istore rfl (Nat.le_of_ble_eq_true rfl) ?_
      rw [chW_e (by omega)] at hch
      rcases List.eq_nil_or_concat L with e | ⟨l2, a, e⟩
      · subst e
        have h00 := sum z [] hz hc (fun x hx => by cases hx) (by simp; omega) hch
        refine r_iload rfl rfl ?_
        refine r_iload_n rfl rfl ?_
        refine r_icmp_ge rfl (by unfold inI; omega) (by unfold inI; simp) (fun h45 => ?_) (fun h45 => absurd h45 (by simp))
        refine r_iload_n rfl rfl ?_
        refine r_iret rfl ?_
        rw [← hch] at hQ
        exact hQ _ hz
      · have := sum z L hz hc (fun x hx' => by have := hx x hx'; omega) (by omega) hch l2.reverse [a] (by rw [List.reverse_reverse, e, List.concat_eq_append]) (by simp) none none (fun v h => by cases h) (fun v h => by cases h)
        exact this
    · skip
      exact inner (by omega) L hc hx hlen rfl
  refine wp_in (C := c_Ring_underChain) (ls := [some (pR r), some (pI s), none, none, none, none, none]) rfl rfl rfl rfl rfl ?_
  refine r_iconst rfl ?_
  refine r_istore_n rfl (Nat.le_of_ble_eq_true rfl) ?_
  refine r_iconst rfl ?_
  refine r_istore_n rfl (Nat.le_of_ble_eq_true rfl) ?_
  exact key 0 hm0 (Int.le_refl _) zI [] (fun _ _ => rfl) trivial (fun x hx => by cases hx) (Int.le_refl _) (fun h => absurd h (by omega)) (by rw [Int.sub_zero]; rfl)
theorem w_rarea {X : PX} {d : Nat} {S : SS} {zI zL : ZM} {Q : PQ} {r : Nat} {m : Int} {I J : Int → Int} (hF : isRing S r) (hT : RGH zI r m I J) (hR : RGR m I J) (hQ : ∀ z, (∀ c, c ≠ r + 3 → z c = zI c) → Q (some (pI (areaR m I J))) S z zL) : wpM X (d + 3) fRing_area [pR r] S zI zL Q := by
  have hob := hF.1
  refine wp_in (C := c_Ring_area) (ls := [some (pR r)]) rfl rfl rfl rfl rfl ?_
  refine r_aload_n rfl rfl ?_
  refine r_iconst rfl ?_
  refine r_cV2 rfl (by assumption) (Nat.le_of_ble_eq_true rfl) rfl rfl (w_chain hF hT hR (Or.inl rfl) (fun z hz => ?_))
  refine r_aload_n rfl rfl ?_
  refine r_iconst rfl ?_
  refine r_cV2 rfl (by assumption) (Nat.le_of_ble_eq_true rfl) rfl rfl (w_chain hF (by unfold RGH; rw [hz r (by omega), hz (r + 1) (by omega), hz (r + 2) (by omega)]; exact hT) hR (Or.inr rfl) (fun z2 hz2 => ?_))
  refine r_isub rfl ?_
  refine r_iret rfl ?_
  exact hQ _ (fun c hc => (hz2 c hc).trans (hz c hc))
end
section
/-! CURVES: what is read -/
def CvH (S : SS) (zI zL : ZM) (h : Nat) (n : Int) (I J V : Int → Int) (ne : Int) (fo la fi ls : Int → Int) (m : Int) (X XD Y YD : Int → Int) : Prop :=
  isCurve S h ∧ FH zI h n I J V ∧ FR n I J V ∧ (zI (h + 4) 8 = ne ∧ (0 ≤ ne ∧ ne ≤ 114) ∧ ∀ e, 0 ≤ e → e < ne → (zI (h + 11) e = fo e ∧ zI (h + 12) e = la e ∧ zI (h + 13) e = fi e ∧ zI (h + 14) e = ls e) ∧ 0 ≤ fo e ∧ fo e < n ∧ 0 ≤ la e ∧ la e < n ∧ -1 ≤ fi e ∧ fi e < m ∧ -1 ≤ ls e ∧ ls e < m) ∧
  PsH zI zL (h + 6) m X XD Y YD ∧ PsR m X XD Y YD ∧ m ≤ 75
theorem w_acrossI {X : PX} {d : Nat} {S : SS} {zI zL : ZM} {Q : PQ} {h : Nat} {n : Int} {I J V : Int → Int} {ne : Int} {fo la fi ls : Int → Int} {m : Int} {X0 XD Y YD : Int → Int} (hC : CvH S zI zL h n I J V ne fo la fi ls m X0 XD Y YD) {e : Int} (h0 : 0 ≤ e) (h1 : e < ne) (hQ : Q (some (pI (I (la e) - I (fo e)))) S zI zL) : wpM X (d + 1) fCurve_acrossI [pR (h + 4), pI e] S zI zL Q := by
  have hC0 := hC
  obtain ⟨hcv, hT, hR, ⟨e8, ⟨hne0, hne1⟩, hed⟩, hP, hPR, hm75⟩ := hC
  obtain ⟨hobc, hform, hpt, hpts, ⟨hr11, hr12, hr13, hr14⟩, ⟨c0, c1, c2, c3⟩, c4, c5, c6, c7⟩ := hcv
  have hform0 := hform
  have hT0 := hT
  have hR0 := hR
  obtain ⟨hob, ⟨hr1, hr2, hr3⟩, hf1, hf2, hf3⟩ := hform
  obtain ⟨e4, hel⟩ := hT
  obtain ⟨hn0, hn40, hrg⟩ := hR
  obtain ⟨⟨q1, q2, q3, q4⟩, q5, q6, q7, q8, q9, q10, q11, q12⟩ := hed e h0 h1
  obtain ⟨a1, a2, a3⟩ := hel (fo e) q5 q6
  obtain ⟨b1, b2, b3⟩ := hel (la e) q7 q8
  have ra := hrg (fo e) q5 q6
  have rb := hrg (la e) q7 q8
  refine wp_in (C := c_Curve_acrossI) (ls := [some (pR (h + 4)), some (pI e)]) rfl rfl rfl rfl rfl ?_
  refine r_aload_n rfl rfl ?_
  refine r_getR rfl (by assumption) (by assumption) ?_
  refine r_getR rfl (by assumption) (by assumption) ?_
  refine r_aload_n rfl rfl ?_
  refine r_getR rfl (by assumption) (by assumption) ?_
  refine r_iload_n rfl rfl ?_
  refine r_iald rfl (by assumption) (by omega) (by omega) ?_
  rw [q2]
  refine r_iald rfl (by assumption) (by omega) (by omega) ?_
  rw [b1]
  refine r_aload_n rfl rfl ?_
  refine r_getR rfl (by assumption) (by assumption) ?_
  refine r_getR rfl (by assumption) (by assumption) ?_
  refine r_aload_n rfl rfl ?_
  refine r_getR rfl (by assumption) (by assumption) ?_
  refine r_iload_n rfl rfl ?_
  refine r_iald rfl (by assumption) (by omega) (by omega) ?_
  rw [q1]
  refine r_iald rfl (by assumption) (by omega) (by omega) ?_
  rw [a1]
  refine r_isub rfl ?_
  refine r_iret rfl ?_
  exact hQ
theorem w_acrossJ {X : PX} {d : Nat} {S : SS} {zI zL : ZM} {Q : PQ} {h : Nat} {n : Int} {I J V : Int → Int} {ne : Int} {fo la fi ls : Int → Int} {m : Int} {X0 XD Y YD : Int → Int} (hC : CvH S zI zL h n I J V ne fo la fi ls m X0 XD Y YD) {e : Int} (h0 : 0 ≤ e) (h1 : e < ne) (hQ : Q (some (pI (J (la e) - J (fo e)))) S zI zL) : wpM X (d + 1) fCurve_acrossJ [pR (h + 4), pI e] S zI zL Q := by
  have hC0 := hC
  obtain ⟨hcv, hT, hR, ⟨e8, ⟨hne0, hne1⟩, hed⟩, hP, hPR, hm75⟩ := hC
  obtain ⟨hobc, hform, hpt, hpts, ⟨hr11, hr12, hr13, hr14⟩, ⟨c0, c1, c2, c3⟩, c4, c5, c6, c7⟩ := hcv
  have hform0 := hform
  have hT0 := hT
  have hR0 := hR
  obtain ⟨hob, ⟨hr1, hr2, hr3⟩, hf1, hf2, hf3⟩ := hform
  obtain ⟨e4, hel⟩ := hT
  obtain ⟨hn0, hn40, hrg⟩ := hR
  obtain ⟨⟨q1, q2, q3, q4⟩, q5, q6, q7, q8, q9, q10, q11, q12⟩ := hed e h0 h1
  obtain ⟨a1, a2, a3⟩ := hel (fo e) q5 q6
  obtain ⟨b1, b2, b3⟩ := hel (la e) q7 q8
  have ra := hrg (fo e) q5 q6
  have rb := hrg (la e) q7 q8
  refine wp_in (C := c_Curve_acrossJ) (ls := [some (pR (h + 4)), some (pI e)]) rfl rfl rfl rfl rfl ?_
  refine r_aload_n rfl rfl ?_
  refine r_getR rfl (by assumption) (by assumption) ?_
  refine r_getR rfl (by assumption) (by assumption) ?_
  refine r_aload_n rfl rfl ?_
  refine r_getR rfl (by assumption) (by assumption) ?_
  refine r_iload_n rfl rfl ?_
  refine r_iald rfl (by assumption) (by omega) (by omega) ?_
  rw [q2]
  refine r_iald rfl (by assumption) (by omega) (by omega) ?_
  rw [b2]
  refine r_aload_n rfl rfl ?_
  refine r_getR rfl (by assumption) (by assumption) ?_
  refine r_getR rfl (by assumption) (by assumption) ?_
  refine r_aload_n rfl rfl ?_
  refine r_getR rfl (by assumption) (by assumption) ?_
  refine r_iload_n rfl rfl ?_
  refine r_iald rfl (by assumption) (by omega) (by omega) ?_
  rw [q1]
  refine r_iald rfl (by assumption) (by omega) (by omega) ?_
  rw [a2]
  refine r_isub rfl ?_
  refine r_iret rfl ?_
  exact hQ
theorem w_level {X : PX} {d : Nat} {S : SS} {zI zL : ZM} {Q : PQ} {h : Nat} {n : Int} {I J V : Int → Int} {ne : Int} {fo la fi ls : Int → Int} {m : Int} {X0 XD Y YD : Int → Int} (hC : CvH S zI zL h n I J V ne fo la fi ls m X0 XD Y YD) {e : Int} (h0 : 0 ≤ e) (h1 : e < ne) (hQ : Q (some (pI (V (fo e) - V (la e)))) S zI zL) : wpM X (d + 1) fCurve_level [pR (h + 4), pI e] S zI zL Q := by
  have hC0 := hC
  obtain ⟨hcv, hT, hR, ⟨e8, ⟨hne0, hne1⟩, hed⟩, hP, hPR, hm75⟩ := hC
  obtain ⟨hobc, hform, hpt, hpts, ⟨hr11, hr12, hr13, hr14⟩, ⟨c0, c1, c2, c3⟩, c4, c5, c6, c7⟩ := hcv
  have hform0 := hform
  have hT0 := hT
  have hR0 := hR
  obtain ⟨hob, ⟨hr1, hr2, hr3⟩, hf1, hf2, hf3⟩ := hform
  obtain ⟨e4, hel⟩ := hT
  obtain ⟨hn0, hn40, hrg⟩ := hR
  obtain ⟨⟨q1, q2, q3, q4⟩, q5, q6, q7, q8, q9, q10, q11, q12⟩ := hed e h0 h1
  obtain ⟨a1, a2, a3⟩ := hel (fo e) q5 q6
  obtain ⟨b1, b2, b3⟩ := hel (la e) q7 q8
  have ra := hrg (fo e) q5 q6
  have rb := hrg (la e) q7 q8
  refine wp_in (C := c_Curve_level) (ls := [some (pR (h + 4)), some (pI e)]) rfl rfl rfl rfl rfl ?_
  refine r_aload_n rfl rfl ?_
  refine r_getR rfl (by assumption) (by assumption) ?_
  refine r_getR rfl (by assumption) (by assumption) ?_
  refine r_aload_n rfl rfl ?_
  refine r_getR rfl (by assumption) (by assumption) ?_
  refine r_iload_n rfl rfl ?_
  refine r_iald rfl (by assumption) (by omega) (by omega) ?_
  rw [q1]
  refine r_iald rfl (by assumption) (by omega) (by omega) ?_
  rw [a3]
  refine r_aload_n rfl rfl ?_
  refine r_getR rfl (by assumption) (by assumption) ?_
  refine r_getR rfl (by assumption) (by assumption) ?_
  refine r_aload_n rfl rfl ?_
  refine r_getR rfl (by assumption) (by assumption) ?_
  refine r_iload_n rfl rfl ?_
  refine r_iald rfl (by assumption) (by omega) (by omega) ?_
  rw [q2]
  refine r_iald rfl (by assumption) (by omega) (by omega) ?_
  rw [b3]
  refine r_isub rfl ?_
  refine r_iret rfl ?_
  exact hQ
theorem w_weight {X : PX} {d : Nat} {S : SS} {zI zL : ZM} {Q : PQ} {h : Nat} {n : Int} {I J V : Int → Int} {ne : Int} {fo la fi ls : Int → Int} {m : Int} {X0 XD Y YD : Int → Int} (hC : CvH S zI zL h n I J V ne fo la fi ls m X0 XD Y YD) {e : Int} (h0 : 0 ≤ e) (h1 : e < ne) (hQ : Q (some (pI (gc (I (la e) - I (fo e)) (J (la e) - J (fo e))))) S zI zL) : wpM X (d + 2) fCurve_weight [pR (h + 4), pI e] S zI zL Q := by
  have hC0 := hC
  obtain ⟨hcv, hT, hR, ⟨e8, ⟨hne0, hne1⟩, hed⟩, hP, hPR, hm75⟩ := hC
  obtain ⟨hobc, hform, hpt, hpts, ⟨hr11, hr12, hr13, hr14⟩, ⟨c0, c1, c2, c3⟩, c4, c5, c6, c7⟩ := hcv
  have hform0 := hform
  have hT0 := hT
  have hR0 := hR
  obtain ⟨hob, ⟨hr1, hr2, hr3⟩, hf1, hf2, hf3⟩ := hform
  obtain ⟨e4, hel⟩ := hT
  obtain ⟨hn0, hn40, hrg⟩ := hR
  obtain ⟨⟨q1, q2, q3, q4⟩, q5, q6, q7, q8, q9, q10, q11, q12⟩ := hed e h0 h1
  obtain ⟨a1, a2, a3⟩ := hel (fo e) q5 q6
  obtain ⟨b1, b2, b3⟩ := hel (la e) q7 q8
  have ra := hrg (fo e) q5 q6
  have rb := hrg (la e) q7 q8
  refine wp_in (C := c_Curve_weight) (ls := [some (pR (h + 4)), some (pI e)]) rfl rfl rfl rfl rfl ?_
  refine r_aload_n rfl rfl ?_
  refine r_iload_n rfl rfl ?_
  refine r_cV2 rfl hobc (Nat.le_of_ble_eq_true rfl) rfl rfl (w_acrossI hC0 h0 h1 ?_)
  refine r_i2l rfl (by unfold inI; omega) ?_
  refine r_aload_n rfl rfl ?_
  refine r_iload_n rfl rfl ?_
  refine r_cV2 rfl hobc (Nat.le_of_ble_eq_true rfl) rfl rfl (w_acrossJ hC0 h0 h1 ?_)
  refine r_i2l rfl (by unfold inI; omega) ?_
  refine r_cS2 rfl (by decide) (Nat.le_of_ble_eq_true rfl) rfl rfl (w_gcd (by omega) (by omega) ?_)
  refine r_l2i rfl ?_
  refine r_iret rfl ?_
  exact hQ
theorem w_b8 {n e : Int} {I J V : Int → Int} (hR : FR n I J V) {a b : Int} (h0 : 0 ≤ a ∧ a < n) (h1 : 0 ≤ b ∧ b < n) : (1 ≤ gc (I b - I a) (J b - J a) ∧ gc (I b - I a) (J b - J a) ≤ 8) ∧ (-8 ≤ I b - I a ∧ I b - I a ≤ 8) ∧ (-8 ≤ J b - J a ∧ J b - J a ≤ 8) := by
  have h2 := hR.2.2 a h0.1 h0.2
  have h3 := hR.2.2 b h1.1 h1.2
  exact ⟨gc_b (by omega) (by omega) (by omega), by omega, by omega⟩
theorem w_directionX {X : PX} {d : Nat} {S : SS} {zI zL : ZM} {Q : PQ} {h : Nat} {n : Int} {I J V : Int → Int} {ne : Int} {fo la fi ls : Int → Int} {m : Int} {X0 XD Y YD : Int → Int} (hC : CvH S zI zL h n I J V ne fo la fi ls m X0 XD Y YD) {e : Int} (h0 : 0 ≤ e) (h1 : e < ne) (hQ : Q (some (pI ((-(J (la e) - J (fo e))).tdiv (gc (I (la e) - I (fo e)) (J (la e) - J (fo e)))))) S zI zL) : wpM X (d + 3) fCurve_directionX [pR (h + 4), pI e] S zI zL Q := by
  have hC0 := hC
  obtain ⟨hcv, hT, hR, ⟨e8, ⟨hne0, hne1⟩, hed⟩, hP, hPR, hm75⟩ := hC
  obtain ⟨hobc, hform, hpt, hpts, ⟨hr11, hr12, hr13, hr14⟩, ⟨c0, c1, c2, c3⟩, c4, c5, c6, c7⟩ := hcv
  have hform0 := hform
  have hT0 := hT
  have hR0 := hR
  obtain ⟨hob, ⟨hr1, hr2, hr3⟩, hf1, hf2, hf3⟩ := hform
  obtain ⟨e4, hel⟩ := hT
  obtain ⟨hn0, hn40, hrg⟩ := hR
  obtain ⟨⟨q1, q2, q3, q4⟩, q5, q6, q7, q8, q9, q10, q11, q12⟩ := hed e h0 h1
  obtain ⟨a1, a2, a3⟩ := hel (fo e) q5 q6
  obtain ⟨b1, b2, b3⟩ := hel (la e) q7 q8
  have ra := hrg (fo e) q5 q6
  have rb := hrg (la e) q7 q8
  have hw := w_b8 (e := e) hR0 ⟨q5, q6⟩ ⟨q7, q8⟩
  refine wp_in (C := c_Curve_directionX) (ls := [some (pR (h + 4)), some (pI e)]) rfl rfl rfl rfl rfl ?_
  refine r_aload_n rfl rfl ?_
  refine r_iload_n rfl rfl ?_
  refine r_cV2 rfl hobc (Nat.le_of_ble_eq_true rfl) rfl rfl (w_acrossJ hC0 h0 h1 ?_)
  refine r_ineg rfl ?_
  refine r_aload_n rfl rfl ?_
  refine r_iload_n rfl rfl ?_
  refine r_cV2 rfl hobc (Nat.le_of_ble_eq_true rfl) rfl rfl (w_weight hC0 h0 h1 ?_)
  refine r_idiv rfl (by unfold inI; omega) (by unfold inI; omega) (by omega) ?_
  refine r_iret rfl ?_
  exact hQ
theorem w_directionY {X : PX} {d : Nat} {S : SS} {zI zL : ZM} {Q : PQ} {h : Nat} {n : Int} {I J V : Int → Int} {ne : Int} {fo la fi ls : Int → Int} {m : Int} {X0 XD Y YD : Int → Int} (hC : CvH S zI zL h n I J V ne fo la fi ls m X0 XD Y YD) {e : Int} (h0 : 0 ≤ e) (h1 : e < ne) (hQ : Q (some (pI (((I (la e) - I (fo e))).tdiv (gc (I (la e) - I (fo e)) (J (la e) - J (fo e)))))) S zI zL) : wpM X (d + 3) fCurve_directionY [pR (h + 4), pI e] S zI zL Q := by
  have hC0 := hC
  obtain ⟨hcv, hT, hR, ⟨e8, ⟨hne0, hne1⟩, hed⟩, hP, hPR, hm75⟩ := hC
  obtain ⟨hobc, hform, hpt, hpts, ⟨hr11, hr12, hr13, hr14⟩, ⟨c0, c1, c2, c3⟩, c4, c5, c6, c7⟩ := hcv
  have hform0 := hform
  have hT0 := hT
  have hR0 := hR
  obtain ⟨hob, ⟨hr1, hr2, hr3⟩, hf1, hf2, hf3⟩ := hform
  obtain ⟨e4, hel⟩ := hT
  obtain ⟨hn0, hn40, hrg⟩ := hR
  obtain ⟨⟨q1, q2, q3, q4⟩, q5, q6, q7, q8, q9, q10, q11, q12⟩ := hed e h0 h1
  obtain ⟨a1, a2, a3⟩ := hel (fo e) q5 q6
  obtain ⟨b1, b2, b3⟩ := hel (la e) q7 q8
  have ra := hrg (fo e) q5 q6
  have rb := hrg (la e) q7 q8
  have hw := w_b8 (e := e) hR0 ⟨q5, q6⟩ ⟨q7, q8⟩
  refine wp_in (C := c_Curve_directionY) (ls := [some (pR (h + 4)), some (pI e)]) rfl rfl rfl rfl rfl ?_
  refine r_aload_n rfl rfl ?_
  refine r_iload_n rfl rfl ?_
  refine r_cV2 rfl hobc (Nat.le_of_ble_eq_true rfl) rfl rfl (w_acrossI hC0 h0 h1 ?_)
  refine r_aload_n rfl rfl ?_
  refine r_iload_n rfl rfl ?_
  refine r_cV2 rfl hobc (Nat.le_of_ble_eq_true rfl) rfl rfl (w_weight hC0 h0 h1 ?_)
  refine r_idiv rfl (by unfold inI; omega) (by unfold inI; omega) (by omega) ?_
  refine r_iret rfl ?_
  exact hQ
def knd (f l : Int) : Int := if f ≠ -1 ∧ l ≠ -1 then 1 else if f ≠ -1 ∨ l ≠ -1 then 2 else 3
theorem w_kindOf {X : PX} {d : Nat} {S : SS} {zI zL : ZM} {Q : PQ} {h : Nat} {n : Int} {I J V : Int → Int} {ne : Int} {fo la fi ls : Int → Int} {m : Int} {X0 XD Y YD : Int → Int} (hC : CvH S zI zL h n I J V ne fo la fi ls m X0 XD Y YD) {e : Int} (h0 : 0 ≤ e) (h1 : e < ne) (hQ : Q (some (pI (knd (fi e) (ls e)))) S zI zL) : wpM X (d + 1) fCurve_kindOf [pR (h + 4), pI e] S zI zL Q := by
  have hC0 := hC
  obtain ⟨hcv, hT, hR, ⟨e8, ⟨hne0, hne1⟩, hed⟩, hP, hPR, hm75⟩ := hC
  obtain ⟨hobc, hform, hpt, hpts, ⟨hr11, hr12, hr13, hr14⟩, ⟨c0, c1, c2, c3⟩, c4, c5, c6, c7⟩ := hcv
  have hform0 := hform
  have hT0 := hT
  have hR0 := hR
  obtain ⟨hob, ⟨hr1, hr2, hr3⟩, hf1, hf2, hf3⟩ := hform
  obtain ⟨e4, hel⟩ := hT
  obtain ⟨hn0, hn40, hrg⟩ := hR
  obtain ⟨⟨q1, q2, q3, q4⟩, q5, q6, q7, q8, q9, q10, q11, q12⟩ := hed e h0 h1
  obtain ⟨a1, a2, a3⟩ := hel (fo e) q5 q6
  obtain ⟨b1, b2, b3⟩ := hel (la e) q7 q8
  have ra := hrg (fo e) q5 q6
  have rb := hrg (la e) q7 q8
  refine wp_in (C := c_Curve_kindOf) (ls := [some (pR (h + 4)), some (pI e)]) rfl rfl rfl rfl rfl ?_
  refine r_aload_n rfl rfl ?_
  refine r_getR rfl (by assumption) (by assumption) ?_
  refine r_iload_n rfl rfl ?_
  refine r_iald rfl (by assumption) (by omega) (by omega) ?_
  rw [q3]
  refine r_iconst rfl ?_
  refine r_icmp_eq rfl (by unfold inI; omega) (by unfold inI; omega) (fun h5 => ?_) (fun h5 => ?_)
  · skip
    refine r_aload_n rfl rfl ?_
    refine r_getR rfl (by assumption) (by assumption) ?_
    refine r_iload_n rfl rfl ?_
    refine r_iald rfl (by assumption) (by omega) (by omega) ?_
    rw [q3]
    refine r_iconst rfl ?_
    refine r_icmp_ne rfl (by unfold inI; omega) (by unfold inI; omega) (fun h19 => ?_) (fun h19 => ?_)
    · skip
      refine r_iconst rfl ?_
      refine r_goto rfl ?_
      refine r_iret rfl ?_
      rw [show knd (fi e) (ls e) = _ by unfold knd; first | rw [if_pos (by omega)] | rw [if_neg (by omega), if_pos (by omega)] | rw [if_neg (by omega), if_neg (by omega)]] at hQ
      first | exact hQ | (exfalso; omega)
    · skip
      refine r_aload_n rfl rfl ?_
      refine r_getR rfl (by assumption) (by assumption) ?_
      refine r_iload_n rfl rfl ?_
      refine r_iald rfl (by assumption) (by omega) (by omega) ?_
      rw [q4]
      refine r_iconst rfl ?_
      refine r_icmp_eq rfl (by unfold inI; omega) (by unfold inI; omega) (fun h25 => ?_) (fun h25 => ?_)
      · skip
        refine r_iconst rfl ?_
        refine r_iret rfl ?_
        rw [show knd (fi e) (ls e) = _ by unfold knd; first | rw [if_pos (by omega)] | rw [if_neg (by omega), if_pos (by omega)] | rw [if_neg (by omega), if_neg (by omega)]] at hQ
        first | exact hQ | (exfalso; omega)
      · skip
        refine r_iconst rfl ?_
        refine r_goto rfl ?_
        refine r_iret rfl ?_
        rw [show knd (fi e) (ls e) = _ by unfold knd; first | rw [if_pos (by omega)] | rw [if_neg (by omega), if_pos (by omega)] | rw [if_neg (by omega), if_neg (by omega)]] at hQ
        first | exact hQ | (exfalso; omega)
  · skip
    refine r_aload_n rfl rfl ?_
    refine r_getR rfl (by assumption) (by assumption) ?_
    refine r_iload_n rfl rfl ?_
    refine r_iald rfl (by assumption) (by omega) (by omega) ?_
    rw [q4]
    refine r_iconst rfl ?_
    refine r_icmp_eq rfl (by unfold inI; omega) (by unfold inI; omega) (fun h11 => ?_) (fun h11 => ?_)
    · skip
      refine r_aload_n rfl rfl ?_
      refine r_getR rfl (by assumption) (by assumption) ?_
      refine r_iload_n rfl rfl ?_
      refine r_iald rfl (by assumption) (by omega) (by omega) ?_
      rw [q3]
      refine r_iconst rfl ?_
      refine r_icmp_ne rfl (by unfold inI; omega) (by unfold inI; omega) (fun h19 => ?_) (fun h19 => ?_)
      · skip
        refine r_iconst rfl ?_
        refine r_goto rfl ?_
        refine r_iret rfl ?_
        rw [show knd (fi e) (ls e) = _ by unfold knd; first | rw [if_pos (by omega)] | rw [if_neg (by omega), if_pos (by omega)] | rw [if_neg (by omega), if_neg (by omega)]] at hQ
        first | exact hQ | (exfalso; omega)
      · skip
        refine r_aload_n rfl rfl ?_
        refine r_getR rfl (by assumption) (by assumption) ?_
        refine r_iload_n rfl rfl ?_
        refine r_iald rfl (by assumption) (by omega) (by omega) ?_
        rw [q4]
        refine r_iconst rfl ?_
        refine r_icmp_eq rfl (by unfold inI; omega) (by unfold inI; omega) (fun h25 => ?_) (fun h25 => ?_)
        · skip
          refine r_iconst rfl ?_
          refine r_iret rfl ?_
          rw [show knd (fi e) (ls e) = _ by unfold knd; first | rw [if_pos (by omega)] | rw [if_neg (by omega), if_pos (by omega)] | rw [if_neg (by omega), if_neg (by omega)]] at hQ
          first | exact hQ | (exfalso; omega)
        · skip
          refine r_iconst rfl ?_
          refine r_goto rfl ?_
          refine r_iret rfl ?_
          rw [show knd (fi e) (ls e) = _ by unfold knd; first | rw [if_pos (by omega)] | rw [if_neg (by omega), if_pos (by omega)] | rw [if_neg (by omega), if_neg (by omega)]] at hQ
          first | exact hQ | (exfalso; omega)
    · skip
      refine r_iconst rfl ?_
      refine r_iret rfl ?_
      rw [show knd (fi e) (ls e) = _ by unfold knd; first | rw [if_pos (by omega)] | rw [if_neg (by omega), if_pos (by omega)] | rw [if_neg (by omega), if_neg (by omega)]] at hQ
      first | exact hQ | (exfalso; omega)
theorem knd_b (f l : Int) : 1 ≤ knd f l ∧ knd f l ≤ 3 := by unfold knd; split <;> (try split) <;> omega
theorem w_countKind {X : PX} {d : Nat} {S : SS} {zI zL : ZM} {Q : PQ} {h : Nat} {n : Int} {I J V : Int → Int} {ne : Int} {fo la fi ls : Int → Int} {m : Int} {X0 XD Y YD : Int → Int} (hC : CvH S zI zL h n I J V ne fo la fi ls m X0 XD Y YD) {k : Int} (hk : inI k) (hQ : Q (some (pI (cnt (fun e => decide (knd (fi e) (ls e) = k)) ne.toNat 0))) S zI zL) : wpM X (d + 2) fCurve_countKind [pR (h + 4), pI k] S zI zL Q := by
  have hC0 := hC
  obtain ⟨hcv, hT, hR, ⟨e8, ⟨hne0, hne1⟩, hed⟩, hP, hPR, hm75⟩ := hC
  obtain ⟨hobc, hform, hpt, hpts, ⟨hr11, hr12, hr13, hr14⟩, ⟨c0, c1, c2, c3⟩, c4, c5, c6, c7⟩ := hcv
  have hform0 := hform
  have hT0 := hT
  have hR0 := hR
  obtain ⟨hob, ⟨hr1, hr2, hr3⟩, hf1, hf2, hf3⟩ := hform
  obtain ⟨e4, hel⟩ := hT
  obtain ⟨hn0, hn40, hrg⟩ := hR
  have key : ∀ e : Int, e ≤ ne → 0 ≤ e → ∀ c : Int, 0 ≤ c → c ≤ e → c + cnt (fun e => decide (knd (fi e) (ls e) = k)) (ne - e).toNat e = cnt (fun e => decide (knd (fi e) (ls e) = k)) ne.toNat 0 → Run X (d + 1) c_Curve_countKind 4 [some (pR (h + 4)), some (pI k), some (pI c), some (pI e)] [] S zI zL 0 0 Q := by
    refine loop_up _ ne (fun e he ih h0 c hc0 hce hs => ?_)
    have hkb := knd_b (fi e) (ls e)
    refine r_iload_n rfl rfl ?_
    refine r_aload_n rfl rfl ?_
    refine r_getI rfl (by assumption) ?_
    refine r_icmp_ge rfl (by unfold inI; omega) (by unfold inI; omega) (fun h7 => ?_) (fun h7 => ?_)
    · skip
      refine r_iload_n rfl rfl ?_
      refine r_iret rfl ?_
      rw [cnt_e (by omega), Int.add_zero] at hs; rw [hs]; exact hQ
    · skip
      refine r_aload_n rfl rfl ?_
      refine r_iload_n rfl rfl ?_
      refine r_cV2 rfl hobc (Nat.le_of_ble_eq_true rfl) rfl rfl (w_kindOf hC0 h0 (by omega) ?_)
      refine r_iload_n rfl rfl ?_
      refine r_icmp_ne rfl (by unfold inI; omega) hk (fun h12 => ?_) (fun h12 => ?_)
      · skip
        refine r_iinc rfl rfl ?_
        refine r_goto rfl ?_
        exact ih (by omega) (by omega) _ (by omega) (by omega) (by rw [cnt_s (by omega), if_neg (by simp only [decide_eq_true_eq]; exact h12)] at hs; omega)
      · skip
        refine r_iinc rfl rfl ?_
        refine r_iinc rfl rfl ?_
        refine r_goto rfl ?_
        exact ih (by omega) (by omega) _ (by omega) (by omega) (by rw [cnt_s (by omega), if_pos (by simp only [decide_eq_true_eq]; exact h12)] at hs; omega)
  refine wp_in (C := c_Curve_countKind) (ls := [some (pR (h + 4)), some (pI k), none, none]) rfl rfl rfl rfl rfl ?_
  refine r_iconst rfl ?_
  refine r_istore_n rfl (Nat.le_of_ble_eq_true rfl) ?_
  refine r_iconst rfl ?_
  refine r_istore_n rfl (Nat.le_of_ble_eq_true rfl) ?_
  exact key 0 hne0 (Int.le_refl _) 0 (Int.le_refl _) (Int.le_refl _) (by rw [Int.sub_zero, Int.zero_add])
theorem w_countEdgesAt {X : PX} {d : Nat} {S : SS} {zI zL : ZM} {Q : PQ} {h : Nat} {n : Int} {I J V : Int → Int} {ne : Int} {fo la fi ls : Int → Int} {m : Int} {X0 XD Y YD : Int → Int} (hC : CvH S zI zL h n I J V ne fo la fi ls m X0 XD Y YD) {k : Int} (hk : 0 ≤ k ∧ k ≤ 1000) (hQ : Q (some (pI (cnt (fun e => decide (fi e = k) || decide (ls e = k)) ne.toNat 0))) S zI zL) : wpM X (d + 1) fCurve_countEdgesAt [pR (h + 4), pI k] S zI zL Q := by
  have hC0 := hC
  obtain ⟨hcv, hT, hR, ⟨e8, ⟨hne0, hne1⟩, hed⟩, hP, hPR, hm75⟩ := hC
  obtain ⟨hobc, hform, hpt, hpts, ⟨hr11, hr12, hr13, hr14⟩, ⟨c0, c1, c2, c3⟩, c4, c5, c6, c7⟩ := hcv
  have hform0 := hform
  have hT0 := hT
  have hR0 := hR
  obtain ⟨hob, ⟨hr1, hr2, hr3⟩, hf1, hf2, hf3⟩ := hform
  obtain ⟨e4, hel⟩ := hT
  obtain ⟨hn0, hn40, hrg⟩ := hR
  have key : ∀ e : Int, e ≤ ne → 0 ≤ e → ∀ c : Int, 0 ≤ c → c ≤ e → c + cnt (fun e => decide (fi e = k) || decide (ls e = k)) (ne - e).toNat e = cnt (fun e => decide (fi e = k) || decide (ls e = k)) ne.toNat 0 → Run X d c_Curve_countEdgesAt 4 [some (pR (h + 4)), some (pI k), some (pI c), some (pI e)] [] S zI zL 0 0 Q := by
    refine loop_up _ ne (fun e he ih h0 c hc0 hce hs => ?_)
    refine r_iload_n rfl rfl ?_
    refine r_aload_n rfl rfl ?_
    refine r_getI rfl (by assumption) ?_
    refine r_icmp_ge rfl (by unfold inI; omega) (by unfold inI; omega) (fun h7 => ?_) (fun h7 => ?_)
    · skip
      refine r_iload_n rfl rfl ?_
      refine r_iret rfl ?_
      rw [cnt_e (by omega), Int.add_zero] at hs; rw [hs]; exact hQ
    · skip
      obtain ⟨⟨q1, q2, q3, q4⟩, q5, q6, q7, q8, q9, q10, q11, q12⟩ := hed e h0 (by omega)
      refine r_aload_n rfl rfl ?_
      refine r_getR rfl (by assumption) (by assumption) ?_
      refine r_iload_n rfl rfl ?_
      refine r_iald rfl (by assumption) (by omega) (by omega) ?_
      rw [q3]
      refine r_iload_n rfl rfl ?_
      refine r_icmp_eq rfl (by unfold inI; omega) (by unfold inI; omega) (fun h13 => ?_) (fun h13 => ?_)
      · skip
        refine r_iinc rfl rfl ?_
        refine r_iinc rfl rfl ?_
        refine r_goto rfl ?_
        exact ih (by omega) (by omega) _ (by omega) (by omega) (by rw [cnt_s (by omega), if_pos (by simp only [Bool.or_eq_true, decide_eq_true_eq]; omega)] at hs; omega)
      · skip
        refine r_aload_n rfl rfl ?_
        refine r_getR rfl (by assumption) (by assumption) ?_
        refine r_iload_n rfl rfl ?_
        refine r_iald rfl (by assumption) (by omega) (by omega) ?_
        rw [q4]
        refine r_iload_n rfl rfl ?_
        refine r_icmp_ne rfl (by unfold inI; omega) (by unfold inI; omega) (fun h19 => ?_) (fun h19 => ?_)
        · skip
          refine r_iinc rfl rfl ?_
          refine r_goto rfl ?_
          exact ih (by omega) (by omega) _ (by omega) (by omega) (by rw [cnt_s (by omega), if_neg (by simp only [Bool.or_eq_true, decide_eq_true_eq]; omega)] at hs; omega)
        · skip
          refine r_iinc rfl rfl ?_
          refine r_iinc rfl rfl ?_
          refine r_goto rfl ?_
          exact ih (by omega) (by omega) _ (by omega) (by omega) (by rw [cnt_s (by omega), if_pos (by simp only [Bool.or_eq_true, decide_eq_true_eq]; omega)] at hs; omega)
  refine wp_in (C := c_Curve_countEdgesAt) (ls := [some (pR (h + 4)), some (pI k), none, none]) rfl rfl rfl rfl rfl ?_
  refine r_iconst rfl ?_
  refine r_istore_n rfl (Nat.le_of_ble_eq_true rfl) ?_
  refine r_iconst rfl ?_
  refine r_istore_n rfl (Nat.le_of_ble_eq_true rfl) ?_
  exact key 0 hne0 (Int.le_refl _) 0 (Int.le_refl _) (Int.le_refl _) (by rw [Int.sub_zero, Int.zero_add])
theorem w_countRows {X : PX} {d : Nat} {S : SS} {zI zL : ZM} {Q : PQ} {h : Nat} {n : Int} {I J V : Int → Int} {ne : Int} {fo la fi ls : Int → Int} {m : Int} {X0 XD Y YD : Int → Int} (hC : CvH S zI zL h n I J V ne fo la fi ls m X0 XD Y YD) (hQ : Q (some (pI (4 * (ne + m)))) S zI zL) : wpM X (d + 1) fCurve_countRows [pR (h + 4)] S zI zL Q := by
  have hC0 := hC
  obtain ⟨hcv, hT, hR, ⟨e8, ⟨hne0, hne1⟩, hed⟩, hP, hPR, hm75⟩ := hC
  obtain ⟨hobc, hform, hpt, hpts, ⟨hr11, hr12, hr13, hr14⟩, ⟨c0, c1, c2, c3⟩, c4, c5, c6, c7⟩ := hcv
  have hform0 := hform
  have hT0 := hT
  have hR0 := hR
  obtain ⟨hob, ⟨hr1, hr2, hr3⟩, hf1, hf2, hf3⟩ := hform
  obtain ⟨e4, hel⟩ := hT
  obtain ⟨hn0, hn40, hrg⟩ := hR
  have hob6 := hpts.1
  have e5 := hP.1
  refine wp_in (C := c_Curve_countRows) (ls := [some (pR (h + 4))]) rfl rfl rfl rfl rfl ?_
  refine r_iconst rfl ?_
  refine r_aload_n rfl rfl ?_
  refine r_getI rfl (by assumption) ?_
  rw [e8]
  refine r_aload_n rfl rfl ?_
  refine r_getR rfl (by assumption) (by assumption) ?_
  refine r_getI rfl (by assumption) ?_
  rw [e5]
  refine r_iadd rfl ?_
  refine r_imul rfl ?_
  refine r_iret rfl ?_
  exact hQ
/-- a TERM that ends no EDGE, among two TERMS or more -/
def idlC (n ne : Int) (fo la : Int → Int) (t : Int) : Int := if 2 ≤ n ∧ srch (fun e => decide (fo e = t) || decide (la e = t)) ne.toNat 0 = -1 then 1 else 0
theorem w_isIdle {X : PX} {d : Nat} {S : SS} {zI zL : ZM} {Q : PQ} {h : Nat} {n : Int} {I J V : Int → Int} {ne : Int} {fo la fi ls : Int → Int} {m : Int} {X0 XD Y YD : Int → Int} (hC : CvH S zI zL h n I J V ne fo la fi ls m X0 XD Y YD) {t : Int} (ht : 0 ≤ t ∧ t < n) (hQ : Q (some (pI (idlC n ne fo la t))) S zI zL) : wpM X (d + 1) fCurve_isIdle [pR (h + 4), pI t] S zI zL Q := by
  have hC0 := hC
  obtain ⟨hcv, hT, hR, ⟨e8, ⟨hne0, hne1⟩, hed⟩, hP, hPR, hm75⟩ := hC
  obtain ⟨hobc, hform, hpt, hpts, ⟨hr11, hr12, hr13, hr14⟩, ⟨c0, c1, c2, c3⟩, c4, c5, c6, c7⟩ := hcv
  have hform0 := hform
  have hT0 := hT
  have hR0 := hR
  obtain ⟨hob, ⟨hr1, hr2, hr3⟩, hf1, hf2, hf3⟩ := hform
  obtain ⟨e4, hel⟩ := hT
  obtain ⟨hn0, hn40, hrg⟩ := hR
  have key : 2 ≤ n → ∀ e : Int, e ≤ ne → 0 ≤ e → srch (fun e => decide (fo e = t) || decide (la e = t)) (ne - e).toNat e = srch (fun e => decide (fo e = t) || decide (la e = t)) ne.toNat 0 → Run X d c_Curve_isIdle 9 [some (pR (h + 4)), some (pI t), some (pI e)] [] S zI zL 0 0 Q := by
    intro hn2
    refine loop_up _ ne (fun e he ih h0 hs => ?_)
    refine r_iload_n rfl rfl ?_
    refine r_aload_n rfl rfl ?_
    refine r_getI rfl (by assumption) ?_
    refine r_icmp_ge rfl (by unfold inI; omega) (by unfold inI; omega) (fun h12 => ?_) (fun h12 => ?_)
    · skip
      refine r_iconst rfl ?_
      refine r_zret rfl (by first | exact Or.inl rfl | exact Or.inr rfl) ?_
      rw [srch_end (by omega)] at hs; unfold idlC at hQ; rw [if_pos ⟨hn2, hs.symm⟩] at hQ; exact hQ
    · skip
      obtain ⟨⟨q1, q2, q3, q4⟩, q5, q6, q7, q8, q9, q10, q11, q12⟩ := hed e h0 (by omega)
      refine r_aload_n rfl rfl ?_
      refine r_getR rfl (by assumption) (by assumption) ?_
      refine r_iload_n rfl rfl ?_
      refine r_iald rfl (by assumption) (by omega) (by omega) ?_
      rw [q1]
      refine r_iload_n rfl rfl ?_
      refine r_icmp_eq rfl (by unfold inI; omega) (by unfold inI; omega) (fun h18 => ?_) (fun h18 => ?_)
      · skip
        refine r_iconst rfl ?_
        refine r_zret rfl (by first | exact Or.inl rfl | exact Or.inr rfl) ?_
        rw [srch_hit (by omega) (by simp only [Bool.or_eq_true, decide_eq_true_eq]; omega)] at hs; unfold idlC at hQ; rw [if_neg (fun q => by have := q.2; omega)] at hQ; exact hQ
      · skip
        refine r_aload_n rfl rfl ?_
        refine r_getR rfl (by assumption) (by assumption) ?_
        refine r_iload_n rfl rfl ?_
        refine r_iald rfl (by assumption) (by omega) (by omega) ?_
        rw [q2]
        refine r_iload_n rfl rfl ?_
        refine r_icmp_ne rfl (by unfold inI; omega) (by unfold inI; omega) (fun h24 => ?_) (fun h24 => ?_)
        · skip
          refine r_iinc rfl rfl ?_
          refine r_goto rfl ?_
          exact ih (by omega) (by omega) (by rw [← srch_miss (by omega) (by simp only [Bool.or_eq_false_iff, decide_eq_false_iff_not]; omega)]; exact hs)
        · skip
          refine r_iconst rfl ?_
          refine r_zret rfl (by first | exact Or.inl rfl | exact Or.inr rfl) ?_
          rw [srch_hit (by omega) (by simp only [Bool.or_eq_true, decide_eq_true_eq]; omega)] at hs; unfold idlC at hQ; rw [if_neg (fun q => by have := q.2; omega)] at hQ; exact hQ
  refine wp_in (C := c_Curve_isIdle) (ls := [some (pR (h + 4)), some (pI t), none]) rfl rfl rfl rfl rfl ?_
  refine r_aload_n rfl rfl ?_
  refine r_getR rfl (by assumption) (by assumption) ?_
  refine r_getI rfl (by assumption) ?_
  refine r_iconst rfl ?_
  refine r_icmp_ge rfl (by unfold inI; omega) (by unfold inI; omega) (fun h4 => ?_) (fun h4 => ?_)
  · skip
    refine r_iconst rfl ?_
    refine r_istore_n rfl (Nat.le_of_ble_eq_true rfl) ?_
    exact key (by omega) 0 hne0 (Int.le_refl _) (by rw [Int.sub_zero])
  · skip
    refine r_iconst rfl ?_
    refine r_zret rfl (by first | exact Or.inl rfl | exact Or.inr rfl) ?_
    unfold idlC at hQ; rw [if_neg (fun q => by have := q.1; omega)] at hQ; exact hQ
theorem idlC_b (n ne : Int) (fo la : Int → Int) (t : Int) : idlC n ne fo la t = 0 ∨ idlC n ne fo la t = 1 := by unfold idlC; split; exact Or.inr rfl; exact Or.inl rfl
theorem w_countIdle {X : PX} {d : Nat} {S : SS} {zI zL : ZM} {Q : PQ} {h : Nat} {n : Int} {I J V : Int → Int} {ne : Int} {fo la fi ls : Int → Int} {m : Int} {X0 XD Y YD : Int → Int} (hC : CvH S zI zL h n I J V ne fo la fi ls m X0 XD Y YD) (hQ : Q (some (pI (cnt (fun t => decide (idlC n ne fo la t ≠ 0)) n.toNat 0))) S zI zL) : wpM X (d + 2) fCurve_countIdle [pR (h + 4)] S zI zL Q := by
  have hC0 := hC
  obtain ⟨hcv, hT, hR, ⟨e8, ⟨hne0, hne1⟩, hed⟩, hP, hPR, hm75⟩ := hC
  obtain ⟨hobc, hform, hpt, hpts, ⟨hr11, hr12, hr13, hr14⟩, ⟨c0, c1, c2, c3⟩, c4, c5, c6, c7⟩ := hcv
  have hform0 := hform
  have hT0 := hT
  have hR0 := hR
  obtain ⟨hob, ⟨hr1, hr2, hr3⟩, hf1, hf2, hf3⟩ := hform
  obtain ⟨e4, hel⟩ := hT
  obtain ⟨hn0, hn40, hrg⟩ := hR
  have key : ∀ t : Int, t ≤ n → 0 ≤ t → ∀ c : Int, 0 ≤ c → c ≤ t → c + cnt (fun t => decide (idlC n ne fo la t ≠ 0)) (n - t).toNat t = cnt (fun t => decide (idlC n ne fo la t ≠ 0)) n.toNat 0 → Run X (d + 1) c_Curve_countIdle 4 [some (pR (h + 4)), some (pI c), some (pI t)] [] S zI zL 0 0 Q := by
    refine loop_up _ n (fun t ht ih h0 c hc0 hce hs => ?_)
    have hib := idlC_b n ne fo la t
    refine r_iload_n rfl rfl ?_
    refine r_aload_n rfl rfl ?_
    refine r_getR rfl (by assumption) (by assumption) ?_
    refine r_getI rfl (by assumption) ?_
    refine r_icmp_ge rfl (by unfold inI; omega) (by unfold inI; omega) (fun h8 => ?_) (fun h8 => ?_)
    · skip
      refine r_iload_n rfl rfl ?_
      refine r_iret rfl ?_
      rw [cnt_e (by omega), Int.add_zero] at hs; rw [hs]; exact hQ
    · skip
      refine r_aload_n rfl rfl ?_
      refine r_iload_n rfl rfl ?_
      refine r_cV2 rfl hobc (Nat.le_of_ble_eq_true rfl) rfl rfl (w_isIdle hC0 ⟨h0, by omega⟩ ?_)
      refine r_if_eq rfl (by unfold inI; omega) (fun h12 => ?_) (fun h12 => ?_)
      · skip
        refine r_iinc rfl rfl ?_
        refine r_goto rfl ?_
        exact ih (by omega) (by omega) _ (by omega) (by omega) (by rw [cnt_s (by omega), if_neg (by simp only [decide_eq_true_eq]; omega)] at hs; omega)
      · skip
        refine r_iinc rfl rfl ?_
        refine r_iinc rfl rfl ?_
        refine r_goto rfl ?_
        exact ih (by omega) (by omega) _ (by omega) (by omega) (by rw [cnt_s (by omega), if_pos (by simp only [decide_eq_true_eq]; omega)] at hs; omega)
  refine wp_in (C := c_Curve_countIdle) (ls := [some (pR (h + 4)), none, none]) rfl rfl rfl rfl rfl ?_
  refine r_iconst rfl ?_
  refine r_istore_n rfl (Nat.le_of_ble_eq_true rfl) ?_
  refine r_iconst rfl ?_
  refine r_istore_n rfl (Nat.le_of_ble_eq_true rfl) ?_
  exact key 0 hn0 (Int.le_refl _) 0 (Int.le_refl _) (Int.le_refl _) (by rw [Int.sub_zero, Int.zero_add])
end
section
/-! CURVES: the areas, what is told, what stands in another -/
theorem CvH_fr {S : SS} {zI zL zI' zL' : ZM} {h : Nat} {n : Int} {I J V : Int → Int} {ne : Int} {fo la fi ls : Int → Int} {m : Int} {X0 XD Y YD : Int → Int} (hC : CvH S zI zL h n I J V ne fo la fi ls m X0 XD Y YD) (hI : ∀ c, h ≤ c → c ≤ h + 14 → zI' c = zI c) (hL : ∀ c, h + 7 ≤ c → c ≤ h + 10 → zL' c = zL c) : CvH S zI' zL' h n I J V ne fo la fi ls m X0 XD Y YD := by
  unfold CvH FH PsH at *
  rw [hI h (by omega) (by omega), hI (h + 1) (by omega) (by omega), hI (h + 2) (by omega) (by omega), hI (h + 3) (by omega) (by omega), hI (h + 4) (by omega) (by omega), hI (h + 6) (by omega) (by omega), hI (h + 11) (by omega) (by omega), hI (h + 12) (by omega) (by omega), hI (h + 13) (by omega) (by omega), hI (h + 14) (by omega) (by omega), hL (h + 6 + 1) (by omega) (by omega), hL (h + 6 + 2) (by omega) (by omega), hL (h + 6 + 3) (by omega) (by omega), hL (h + 6 + 4) (by omega) (by omega)]
  exact hC
theorem FH_fr {zI zI' : ZM} {h : Nat} {n : Int} {I J V : Int → Int} (hT : FH zI h n I J V) (hI : ∀ c, h ≤ c → c ≤ h + 3 → zI' c = zI c) : FH zI' h n I J V := by
  unfold FH at *
  rw [hI h (by omega) (by omega), hI (h + 1) (by omega) (by omega), hI (h + 2) (by omega) (by omega), hI (h + 3) (by omega) (by omega)]
  exact hT
/-- the places that are taken, and their ring -/
def selW (p : Int → Bool) (I J : Int → Int) : Nat → Int → Int × (Int → Int) × (Int → Int) → Int × (Int → Int) × (Int → Int)
  | 0, _, s => s
  | k + 1, t, s => selW p I J k (t + 1) (if p t = true then (s.1 + 1, updF s.2.1 s.1 (I t), updF s.2.2 s.1 (J t)) else s)
def selS (p : Int → Bool) (n : Int) (I J : Int → Int) : Int × (Int → Int) × (Int → Int) := selW p I J n.toNat 0 (0, fun _ => 0, fun _ => 0)
def areaS (p : Int → Bool) (n : Int) (I J : Int → Int) : Int := areaR (selS p n I J).1 (selS p n I J).2.1 (selS p n I J).2.2
theorem selW_s {p : Int → Bool} {I J : Int → Int} {n t : Int} {s : Int × (Int → Int) × (Int → Int)} (h : t < n) : selW p I J (n - t).toNat t s = selW p I J (n - (t + 1)).toNat (t + 1) (if p t = true then (s.1 + 1, updF s.2.1 s.1 (I t), updF s.2.2 s.1 (J t)) else s) := by
  rw [show (n - t).toNat = (n - (t + 1)).toNat + 1 by omega]; rfl
theorem selW_e {p : Int → Bool} {I J : Int → Int} {n t : Int} {s : Int × (Int → Int) × (Int → Int)} (h : n ≤ t) : selW p I J (n - t).toNat t s = s := by rw [show (n - t).toNat = 0 by omega]; rfl
def rgI (m : Int) (A B : Int → Int) : Prop := ∀ t, 0 ≤ t → t < m → 0 ≤ A t ∧ A t ≤ 8 ∧ 0 ≤ B t ∧ B t ≤ 8
theorem rgI_up {m a b : Int} {A B : Int → Int} (h : rgI m A B) (ha : 0 ≤ a ∧ a ≤ 8) (hb : 0 ≤ b ∧ b ≤ 8) : rgI (m + 1) (updF A m a) (updF B m b) := by
  intro t t0 t1
  unfold updF
  by_cases e : t = m
  · rw [if_pos e, if_pos e]; omega
  · rw [if_neg e, if_neg e]; exact h t t0 (by omega)
theorem w_countLeastAt {X : PX} {d : Nat} {S : SS} {zI zL : ZM} {Q : PQ} {h : Nat} {n : Int} {I J V : Int → Int} {ne : Int} {fo la fi ls : Int → Int} {m : Int} {X0 XD Y YD : Int → Int} (hC : CvH S zI zL h n I J V ne fo la fi ls m X0 XD Y YD) {k : Int} (hk : 0 ≤ k ∧ k < m) (hQ : ∀ z, (∀ c, c ≠ h + 5 → z c = zL c) → Q (some (pI (countS n I J V (X0 k) (XD k) (Y k) (YD k)))) S zI z) : wpM X (d + 5) fCurve_countLeastAt [pR (h + 4), pI k] S zI zL Q := by
  have hC0 := hC
  obtain ⟨hcv, hT, hR, ⟨e8, ⟨hne0, hne1⟩, hed⟩, hP, hPR, hm75⟩ := hC
  obtain ⟨hobc, hform, hpt, hpts, ⟨hr11, hr12, hr13, hr14⟩, ⟨c0, c1, c2, c3⟩, c4, c5, c6, c7⟩ := hcv
  have hform0 := hform
  have hT0 := hT
  have hR0 := hR
  obtain ⟨hob, ⟨hr1, hr2, hr3⟩, hf1, hf2, hf3⟩ := hform
  obtain ⟨e4, hel⟩ := hT
  obtain ⟨hn0, hn40, hrg⟩ := hR
  have hPk := hPR.2 k hk.1 hk.2
  have hph : ∀ z : ZM, PH (zput (zput (zput (zput z (h + 5) 0 (X0 k)) (h + 5) 1 (XD k)) (h + 5) 2 (Y k)) (h + 5) 3 (YD k)) (h + 5) (X0 k) (XD k) (Y k) (YD k) := fun z => by
    unfold PH zput; simp (disch := omega) only [if_pos, if_neg, ↓reduceIte, true_and, and_true, true_or, or_true, and_self]
  refine wp_in (C := c_Curve_countLeastAt) (ls := [some (pR (h + 4)), some (pI k)]) rfl rfl rfl rfl rfl ?_
  refine r_aload_n rfl rfl ?_
  refine r_getR rfl (by assumption) (by assumption) ?_
  refine r_iload_n rfl rfl ?_
  refine r_aload_n rfl rfl ?_
  refine r_getR rfl (by assumption) (by assumption) ?_
  refine r_cV3 rfl hpts.1 (Nat.le_of_ble_eq_true rfl) rfl rfl (w_fetch hpts hP hPR hm75 hpt (Or.inl (by omega)) hk.1 hk.2 ?_)
  refine r_aload_n rfl rfl ?_
  refine r_getR rfl (by assumption) (by assumption) ?_
  refine r_aload_n rfl rfl ?_
  refine r_getR rfl (by assumption) (by assumption) ?_
  refine r_cV2 rfl hob (Nat.le_of_ble_eq_true rfl) rfl rfl (w_countLeast hform0 hT0 hR0 hpt (hph zL) hPk ?_)
  refine r_iret rfl ?_
  exact hQ _ (fun c hc => by simp only [zput_row hc])
set_option maxHeartbeats 4000000 in
theorem w_areaAt {X : PX} {d : Nat} {S : SS} {zI zL : ZM} {Q : PQ} {h : Nat} {n : Int} {I J V : Int → Int} {ne : Int} {fo la fi ls : Int → Int} {m : Int} {X0 XD Y YD : Int → Int} (hC : CvH S zI zL h n I J V ne fo la fi ls m X0 XD Y YD) (h26 : 26 ≤ h) (hrg5 : isRing S 5) {k : Int} (hk : 0 ≤ k ∧ k < m) (hQ : ∀ z z2, (∀ c, c ≠ 5 → c ≠ 6 → c ≠ 7 → c ≠ 8 → z c = zI c) → (∀ c, c ≠ h + 5 → z2 c = zL c) → Q (some (pI (areaS (fun t => decide (wv (I t) (J t) (V t) (X0 k) (XD k) (Y k) (YD k) = leastS n I J V (X0 k) (XD k) (Y k) (YD k))) n I J))) S z z2) : wpM X (d + 4) fCurve_areaAt [pR (h + 4), pI k] S zI zL Q := by
  have hC0 := hC
  obtain ⟨hcv, hT, hR, ⟨e8, ⟨hne0, hne1⟩, hed⟩, hP, hPR, hm75⟩ := hC
  obtain ⟨hobc, hform, hpt, hpts, ⟨hr11, hr12, hr13, hr14⟩, ⟨c0, c1, c2, c3⟩, c4, c5, c6, c7⟩ := hcv
  have hform0 := hform
  have hT0 := hT
  have hR0 := hR
  obtain ⟨hob, ⟨hr1, hr2, hr3⟩, hf1, hf2, hf3⟩ := hform
  obtain ⟨e4, hel⟩ := hT
  obtain ⟨hn0, hn40, hrg⟩ := hR
  have hPk := hPR.2 k hk.1 hk.2
  have hlb := leastS_b (I := I) (J := J) (V := V) hR0 hPk
  have hring := hrg5.1
  have hrn : ∃ zn : ZM, zn = zput (zput (zput (zput zL (h + 5) 0 (X0 k)) (h + 5) 1 (XD k)) (h + 5) 2 (Y k)) (h + 5) 3 (YD k) := ⟨_, rfl⟩
  obtain ⟨zn, hzn⟩ := hrn
  have hph : PH zn (h + 5) (X0 k) (XD k) (Y k) (YD k) := by
    rw [hzn]; unfold PH zput; simp (disch := omega) only [if_pos, if_neg, ↓reduceIte, true_and, and_true, true_or, or_true, and_self]
  have hznr : ∀ c, c ≠ h + 5 → zn c = zL c := fun c hc => by rw [hzn]; simp only [zput_row hc]
  have key : ∀ t : Int, t ≤ n → 0 ≤ t → ∀ (z : ZM) (s : Int × (Int → Int) × (Int → Int)), (∀ c, c ≠ 5 → c ≠ 6 → c ≠ 7 → c ≠ 8 → z c = zI c) → RGH z 5 s.1 s.2.1 s.2.2 → 0 ≤ s.1 → s.1 ≤ t → rgI s.1 s.2.1 s.2.2 → selW (fun t => decide (wv (I t) (J t) (V t) (X0 k) (XD k) (Y k) (YD k) = leastS n I J V (X0 k) (XD k) (Y k) (YD k))) I J (n - t).toNat t s = selS (fun t => decide (wv (I t) (J t) (V t) (X0 k) (XD k) (Y k) (YD k) = leastS n I J V (X0 k) (XD k) (Y k) (YD k))) n I J → Run X (d + 3) c_Curve_areaAt 17 [some (pR (h + 4)), some (pI k), some (pL (leastS n I J V (X0 k) (XD k) (Y k) (YD k))), none, some (pI t)] [] S z zn 0 0 Q := by
    refine loop_up _ n (fun t ht ih h0 z s hz hrh hs0 hst hsr hs => ?_)
    obtain ⟨s1, sA, sB⟩ := s
    have hzT : FH z h n I J V := FH_fr hT0 (fun c c0 c1 => hz c (by omega) (by omega) (by omega) (by omega))
    have hzT0 := hzT
    obtain ⟨g4, hgl⟩ := hzT
    have hrw := hrh
    refine r_iload rfl rfl ?_
    refine r_aload_n rfl rfl ?_
    refine r_getR rfl (by assumption) (by assumption) ?_
    refine r_getI rfl (by assumption) ?_
    rw [g4]
    refine r_icmp_ge rfl (by unfold inI; omega) (by unfold inI; omega) (fun h21 => ?_) (fun h21 => ?_)
    · skip
      refine r_aload_n rfl rfl ?_
      refine r_getR rfl (by assumption) (by assumption) ?_
      refine r_cV1 rfl hring (Nat.le_of_ble_eq_true rfl) rfl rfl (w_rarea hrg5 hrh ⟨hs0, by have : s1 ≤ t := hst; omega, hsr⟩ (fun z3 hz3 => ?_))
      refine r_iret rfl ?_
      rw [selW_e (by omega)] at hs
      unfold areaS at hQ
      rw [← hs] at hQ
      exact hQ _ _ (fun c c5 c6 c7 c8 => (hz3 c c8).trans (hz c c5 c6 c7 c8)) hznr
    · skip
      refine r_aload_n rfl rfl ?_
      refine r_getR rfl (by assumption) (by assumption) ?_
      refine r_iload rfl rfl ?_
      refine r_aload_n rfl rfl ?_
      refine r_getR rfl (by assumption) (by assumption) ?_
      refine r_cV3 rfl hob (Nat.le_of_ble_eq_true rfl) rfl rfl (w_worthOf hform0 hzT0 hR0 hpt hph h0 (by omega) ?_)
      refine r_lload_n rfl rfl ?_
      have gt := hgl t h0 (by omega)
      have rt := hrg t h0 (by omega)
      have hwb := wv_b (i := I t) (j := J t) (v := V t) ⟨rt.1, rt.2.1⟩ ⟨rt.2.2.1, rt.2.2.2.1⟩ ⟨rt.2.2.2.2.1, rt.2.2.2.2.2⟩ hPk
      refine r_l_ne rfl rfl (by unfold inL; omega) (by unfold inL; omega) (fun h30 => ?_) (fun h30 => ?_)
      · skip
        refine r_iinc rfl rfl ?_
        refine r_goto rfl ?_
        exact ih (by omega) (by omega) z (s1, sA, sB) hz hrh hs0 (by have : s1 ≤ t := hst; show s1 ≤ t + 1; omega) hsr (by rw [selW_s (by omega), if_neg (by simp only [decide_eq_true_eq]; exact h30)] at hs; exact hs)
      · skip
        refine r_aload_n rfl rfl ?_
        refine r_getR rfl (by assumption) (by assumption) ?_
        refine r_aload_n rfl rfl ?_
        refine r_getR rfl (by assumption) (by assumption) ?_
        refine r_getR rfl (by assumption) (by assumption) ?_
        refine r_iload rfl rfl ?_
        refine r_iald rfl (by assumption) (by omega) (by omega) ?_
        rw [gt.1]
        refine r_aload_n rfl rfl ?_
        refine r_getR rfl (by assumption) (by assumption) ?_
        refine r_getR rfl (by assumption) (by assumption) ?_
        refine r_iload rfl rfl ?_
        refine r_iald rfl (by assumption) (by omega) (by omega) ?_
        rw [gt.2.1]
        refine r_cV3 rfl hring (Nat.le_of_ble_eq_true rfl) rfl rfl (w_radd hrg5 hrh hs0 (by have : s1 ≤ t := hst; omega) (fun z3 hz3 => ?_))
        refine r_iinc rfl rfl ?_
        refine r_goto rfl ?_
        exact ih (by omega) (by omega) z3 (s1 + 1, updF sA s1 (I t), updF sB s1 (J t)) (fun c c5 c6 c7 c8 => (hz3.1 c c5 c6 c7).trans (hz c c5 c6 c7 c8)) hz3.2 (by have : 0 ≤ s1 := hs0; show 0 ≤ s1 + 1; omega) (by have : s1 ≤ t := hst; show s1 + 1 ≤ t + 1; omega) (rgI_up hsr (by omega) (by omega)) (by rw [selW_s (by omega), if_pos (by simp only [decide_eq_true_eq]; exact h30)] at hs; exact hs)
  refine wp_in (C := c_Curve_areaAt) (ls := [some (pR (h + 4)), some (pI k), none, none, none]) rfl rfl rfl rfl rfl ?_
  refine r_aload_n rfl rfl ?_
  refine r_getR rfl (by assumption) (by assumption) ?_
  refine r_iload_n rfl rfl ?_
  refine r_aload_n rfl rfl ?_
  refine r_getR rfl (by assumption) (by assumption) ?_
  refine r_cV3 rfl hpts.1 (Nat.le_of_ble_eq_true rfl) rfl rfl (w_fetch hpts hP hPR hm75 hpt (Or.inl (by omega)) hk.1 hk.2 ?_)
  rw [← hzn]
  refine r_aload_n rfl rfl ?_
  refine r_getR rfl (by assumption) (by assumption) ?_
  refine r_aload_n rfl rfl ?_
  refine r_getR rfl (by assumption) (by assumption) ?_
  refine r_cV2 rfl hob (Nat.le_of_ble_eq_true rfl) rfl rfl (w_leastWorth hform0 hT0 hR0 hpt hph hPk ?_)
  refine r_lstore_n rfl (Nat.le_of_ble_eq_true rfl) ?_
  refine r_aload_n rfl rfl ?_
  refine r_getR rfl (by assumption) (by assumption) ?_
  refine r_cV1 rfl hring (Nat.le_of_ble_eq_true rfl) rfl rfl (w_rclear hrg5 ?_)
  refine r_iconst rfl ?_
  refine r_istore rfl (Nat.le_of_ble_eq_true rfl) ?_
  exact key 0 hn0 (Int.le_refl _) _ (0, fun _ => 0, fun _ => 0) (fun c c5 c6 c7 c8 => zput_row c5) ⟨zput_at, fun t t0 t1 => absurd t1 (by omega)⟩ (Int.le_refl _) (Int.le_refl _) (fun t t0 t1 => absurd t1 (by show ¬ t < 0; omega)) (by rw [Int.sub_zero]; rfl)
end
section
/-! CURVES: smoothness, the proof's numbers, standing in another -/
theorem chW_in {s : Int} {I J : Int → Int} : ∀ (f : Nat) (k : Int) (l : List Int), 0 ≤ k → (∀ x ∈ l, 0 ≤ x ∧ x < k) → (l.length : Int) ≤ k → (∀ x ∈ chW s I J f k l, 0 ≤ x ∧ x < k + f) ∧ ((chW s I J f k l).length : Int) ≤ k + f
  | 0, k, l, _, h, hl => ⟨fun x hx => by have := h x hx; omega, by show (l.length : Int) ≤ _; omega⟩
  | f + 1, k, l, hk, h, hl => by
    have ih := chW_in (s := s) (I := I) (J := J) f (k + 1) (k :: popW s I J k l) (by omega) (fun x hx => by
      rcases List.mem_cons.mp hx with e | e
      · omega
      · have := h x (popW_in e); omega) (by have := popW_len (s := s) (I := I) (J := J) (k := k) (l := l); simp only [List.length_cons]; omega)
    refine ⟨fun x hx => ?_, ?_⟩
    · have := ih.1 x hx; omega
    · have := ih.2; show ((chW s I J f (k + 1) (k :: popW s I J k l)).length : Int) ≤ _; omega
theorem areaR_b {m : Int} {I J : Int → Int} (hR : RGR m I J) : -20000 ≤ areaR m I J ∧ areaR m I J ≤ 20000 := by
  obtain ⟨a1, a2⟩ := chW_in (s := 1) (I := I) (J := J) m.toNat 0 [] (Int.le_refl _) (fun x hx => by cases hx) (Int.le_refl _)
  obtain ⟨b1, b2⟩ := chW_in (s := -1) (I := I) (J := J) m.toNat 0 [] (Int.le_refl _) (fun x hx => by cases hx) (Int.le_refl _)
  have hm0 := hR.1
  have hm1 := hR.2.1
  have c1 := arS_b hR (chn 1 m I J) (fun x hx => by have := a1 x hx; omega)
  have c2 := arS_b hR (chn (-1) m I J) (fun x hx => by have := b1 x hx; omega)
  unfold chn at c1 c2
  unfold areaR chn
  omega
theorem selW_in {p : Int → Bool} {n : Int} {I J : Int → Int} (hr : rgI n I J) : ∀ (f : Nat) (t : Int) (s : Int × (Int → Int) × (Int → Int)), 0 ≤ t → t + f ≤ n → 0 ≤ s.1 → s.1 ≤ t → rgI s.1 s.2.1 s.2.2 → (0 ≤ (selW p I J f t s).1 ∧ (selW p I J f t s).1 ≤ t + f) ∧ rgI (selW p I J f t s).1 (selW p I J f t s).2.1 (selW p I J f t s).2.2
  | 0, t, s, _, _, h0, h1, h => ⟨⟨h0, by show s.1 ≤ _; omega⟩, h⟩
  | f + 1, t, s, ht, htn, h0, h1, h => by
    have hrt := hr t ht (by omega)
    unfold selW
    split
    · have ih := selW_in (p := p) hr f (t + 1) (s.1 + 1, updF s.2.1 s.1 (I t), updF s.2.2 s.1 (J t)) (by omega) (by omega) (by show 0 ≤ s.1 + 1; omega) (by show s.1 + 1 ≤ t + 1; omega) (rgI_up h (by omega) (by omega))
      exact ⟨⟨ih.1.1, by have := ih.1.2; omega⟩, ih.2⟩
    · have ih := selW_in (p := p) hr f (t + 1) s (by omega) (by omega) h0 (by omega) h
      exact ⟨⟨ih.1.1, by have := ih.1.2; omega⟩, ih.2⟩
theorem areaS_b {p : Int → Bool} {n : Int} {I J V : Int → Int} (hR : FR n I J V) : -20000 ≤ areaS p n I J ∧ areaS p n I J ≤ 20000 := by
  obtain ⟨hn0, hn40, hrg⟩ := hR
  obtain ⟨⟨a0, a1⟩, a2⟩ := selW_in (p := p) (n := n) (I := I) (J := J) (fun t t0 t1 => by have := hrg t t0 t1; omega) n.toNat 0 (0, fun _ => 0, fun _ => 0) (Int.le_refl _) (by omega) (Int.le_refl _) (Int.le_refl _) (fun t t0 t1 => absurd t1 (by show ¬ t < 0; omega))
  exact areaR_b ⟨a0, by unfold selS; omega, a2⟩
def areaC (n : Int) (I J V : Int → Int) (x xd y yd : Int) : Int := areaS (fun t => decide (wv (I t) (J t) (V t) x xd y yd = leastS n I J V x xd y yd)) n I J
def wgt (I J fo la : Int → Int) (e : Int) : Int := gc (I (la e) - I (fo e)) (J (la e) - J (fo e))
def smoS (n : Int) (I J V : Int → Int) (ne : Int) (fo la : Int → Int) (m : Int) (X XD Y YD : Int → Int) : Int := if srch (fun e => decide (wgt I J fo la e ≠ 1)) ne.toNat 0 = -1 ∧ srch (fun k => decide (areaC n I J V (X k) (XD k) (Y k) (YD k) ≠ 1)) m.toNat 0 = -1 then 1 else 0
set_option maxHeartbeats 4000000 in
theorem w_isSmooth {X : PX} {d : Nat} {S : SS} {zI zL : ZM} {Q : PQ} {h : Nat} {n : Int} {I J V : Int → Int} {ne : Int} {fo la fi ls : Int → Int} {m : Int} {X0 XD Y YD : Int → Int} (hC : CvH S zI zL h n I J V ne fo la fi ls m X0 XD Y YD) (h26 : 26 ≤ h) (hrg5 : isRing S 5) (hQ : ∀ z z2, (∀ c, c ≠ 5 → c ≠ 6 → c ≠ 7 → c ≠ 8 → z c = zI c) → (∀ c, c ≠ h + 5 → z2 c = zL c) → Q (some (pI (smoS n I J V ne fo la m X0 XD Y YD))) S z z2) : wpM X (d + 5) fCurve_isSmooth [pR (h + 4)] S zI zL Q := by
  have hC0 := hC
  obtain ⟨hcv, hT, hR, ⟨e8, ⟨hne0, hne1⟩, hed⟩, hP, hPR, hm75⟩ := hC
  obtain ⟨hobc, hform, hpt, hpts, ⟨hr11, hr12, hr13, hr14⟩, ⟨c0, c1, c2, c3⟩, c4, c5, c6, c7⟩ := hcv
  have hform0 := hform
  have hT0 := hT
  have hR0 := hR
  obtain ⟨hob, ⟨hr1, hr2, hr3⟩, hf1, hf2, hf3⟩ := hform
  obtain ⟨e4, hel⟩ := hT
  obtain ⟨hn0, hn40, hrg⟩ := hR
  have hob6 := hpts.1
  have hm0 := hPR.1
  have loop2 : srch (fun e => decide (wgt I J fo la e ≠ 1)) ne.toNat 0 = -1 → ∀ k : Int, k ≤ m → 0 ≤ k → ∀ z z2 : ZM, (∀ c, c ≠ 5 → c ≠ 6 → c ≠ 7 → c ≠ 8 → z c = zI c) → (∀ c, c ≠ h + 5 → z2 c = zL c) → srch (fun k => decide (areaC n I J V (X0 k) (XD k) (Y k) (YD k) ≠ 1)) (m - k).toNat k = srch (fun k => decide (areaC n I J V (X0 k) (XD k) (Y k) (YD k) ≠ 1)) m.toNat 0 → Run X (d + 4) c_Curve_isSmooth 17 [some (pR (h + 4)), some (pI k)] [] S z z2 0 0 Q := by
    intro hws
    refine loop_up _ m (fun k hk ih h0 z z2 hz hz2 hs => ?_)
    have hC2 := CvH_fr hC0 (zI' := z) (zL' := z2) (fun c c0 c1 => hz c (by omega) (by omega) (by omega) (by omega)) (fun c c0 c1 => hz2 c (by omega))
    have e5 : z (h + 6) 5 = m := hC2.2.2.2.2.1.1
    have hab : -20000 ≤ areaC n I J V (X0 k) (XD k) (Y k) (YD k) ∧ areaC n I J V (X0 k) (XD k) (Y k) (YD k) ≤ 20000 := areaS_b hR0
    refine r_iload_n rfl rfl ?_
    refine r_aload_n rfl rfl ?_
    refine r_getR rfl (by assumption) (by assumption) ?_
    refine r_getI rfl hob6 ?_
    rw [e5]
    refine r_icmp_ge rfl (by unfold inI; omega) (by unfold inI; omega) (fun h21 => ?_) (fun h21 => ?_)
    · skip
      refine r_iconst rfl ?_
      refine r_zret rfl (by first | exact Or.inl rfl | exact Or.inr rfl) ?_
      rw [srch_end (by omega)] at hs; unfold smoS at hQ; rw [if_pos ⟨hws, hs.symm⟩] at hQ; exact hQ _ _ hz hz2
    · skip
      refine r_aload_n rfl rfl ?_
      refine r_iload_n rfl rfl ?_
      refine r_cV2 rfl hobc (Nat.le_of_ble_eq_true rfl) rfl rfl (w_areaAt hC2 h26 hrg5 ⟨h0, by omega⟩ (fun z3 z4 hz3 hz4 => ?_))
      refine r_iconst rfl ?_
      refine r_icmp_eq rfl (by show inI (areaC n I J V (X0 k) (XD k) (Y k) (YD k)); unfold inI; omega) (by unfold inI; omega) (fun h26a => ?_) (fun h26a => ?_)
      · skip
        refine r_iinc rfl rfl ?_
        refine r_goto rfl ?_
        exact ih (by omega) (by omega) z3 z4 (fun c c5 c6 c7 c8 => (hz3 c c5 c6 c7 c8).trans (hz c c5 c6 c7 c8)) (fun c c5 => (hz4 c c5).trans (hz2 c c5)) (by rw [← srch_miss (by omega) (decide_eq_false (fun q => q h26a))]; exact hs)
      · skip
        refine r_iconst rfl ?_
        refine r_zret rfl (by first | exact Or.inl rfl | exact Or.inr rfl) ?_
        rw [srch_hit (by omega) (by simp only [decide_eq_true_eq]; exact h26a)] at hs; unfold smoS at hQ; rw [if_neg (fun q => by have := q.2; omega)] at hQ; exact hQ _ _ (fun c c5 c6 c7 c8 => (hz3 c c5 c6 c7 c8).trans (hz c c5 c6 c7 c8)) (fun c c5 => (hz4 c c5).trans (hz2 c c5))
  have loop1 : ∀ e : Int, e ≤ ne → 0 ≤ e → srch (fun e => decide (wgt I J fo la e ≠ 1)) (ne - e).toNat e = srch (fun e => decide (wgt I J fo la e ≠ 1)) ne.toNat 0 → Run X (d + 4) c_Curve_isSmooth 2 [some (pR (h + 4)), some (pI e)] [] S zI zL 0 0 Q := by
    refine loop_up _ ne (fun e he ih h0 hs => ?_)
    refine r_iload_n rfl rfl ?_
    refine r_aload_n rfl rfl ?_
    refine r_getI rfl (by assumption) ?_
    rw [e8]
    refine r_icmp_ge rfl (by unfold inI; omega) (by unfold inI; omega) (fun h5 => ?_) (fun h5 => ?_)
    · skip
      refine r_iconst rfl ?_
      refine r_istore_n rfl (Nat.le_of_ble_eq_true rfl) ?_
      rw [srch_end (by omega)] at hs; exact loop2 hs.symm 0 hm0 (Int.le_refl _) zI zL (fun c _ _ _ _ => rfl) (fun c _ => rfl) (by rw [Int.sub_zero])
    · skip
      obtain ⟨⟨q1, q2, q3, q4⟩, q5, q6, q7, q8, q9, q10, q11, q12⟩ := hed e h0 (by omega)
      have hwb := (w_b8 (e := e) hR0 ⟨q5, q6⟩ ⟨q7, q8⟩).1
      have hwb2 : 1 ≤ wgt I J fo la e ∧ wgt I J fo la e ≤ 8 := hwb
      refine r_aload_n rfl rfl ?_
      refine r_iload_n rfl rfl ?_
      refine r_cV2 rfl hobc (Nat.le_of_ble_eq_true rfl) rfl rfl (w_weight hC0 h0 (by omega) ?_)
      refine r_iconst rfl ?_
      refine r_icmp_eq rfl (by show inI (wgt I J fo la e); unfold inI; omega) (by unfold inI; omega) (fun h10 => ?_) (fun h10 => ?_)
      · skip
        refine r_iinc rfl rfl ?_
        refine r_goto rfl ?_
        exact ih (by omega) (by omega) (by rw [← srch_miss (by omega) (by exact decide_eq_false (fun q => q h10))]; exact hs)
      · skip
        refine r_iconst rfl ?_
        refine r_zret rfl (by first | exact Or.inl rfl | exact Or.inr rfl) ?_
        rw [srch_hit (by omega) (by simp only [decide_eq_true_eq]; exact h10)] at hs; unfold smoS at hQ; rw [if_neg (fun q => by have := q.1; omega)] at hQ; exact hQ _ _ (fun c _ _ _ _ => rfl) (fun c _ => rfl)
  refine wp_in (C := c_Curve_isSmooth) (ls := [some (pR (h + 4)), none]) rfl rfl rfl rfl rfl ?_
  refine r_iconst rfl ?_
  refine r_istore_n rfl (Nat.le_of_ble_eq_true rfl) ?_
  exact loop1 0 hne0 (Int.le_refl _) (by rw [Int.sub_zero])
/-- number k of the proof -/
def prfS (I J : Int → Int) (ne : Int) (fo la fi ls : Int → Int) (X XD Y YD : Int → Int) (k : Int) : Int :=
  if ne ≤ k / 4 then prt (X (k / 4 - ne)) (XD (k / 4 - ne)) (Y (k / 4 - ne)) (YD (k / 4 - ne)) (k % 4)
  else if k % 4 = 0 then (-(J (la (k / 4)) - J (fo (k / 4)))).tdiv (wgt I J fo la (k / 4))
  else if k % 4 = 1 then (I (la (k / 4)) - I (fo (k / 4))).tdiv (wgt I J fo la (k / 4))
  else if k % 4 = 2 then wgt I J fo la (k / 4)
  else knd (fi (k / 4)) (ls (k / 4))
theorem td4 {p : Int} (h : 0 ≤ p) : p.tdiv 4 = p / 4 := Int.tdiv_eq_ediv_of_nonneg h
theorem tm4 {p : Int} (h : 0 ≤ p) : p.tmod 4 = p % 4 := Int.tmod_eq_emod_of_nonneg h
theorem tdiv_b {a b : Int} (ha : -8 ≤ a ∧ a ≤ 8) (hb : 1 ≤ b) : -8 ≤ a.tdiv b ∧ a.tdiv b ≤ 8 := by
  have h1 : (a.tdiv b).natAbs ≤ a.natAbs := by rw [Int.natAbs_tdiv]; exact Nat.div_le_self _ _
  omega
theorem w_proofNumber {X : PX} {d : Nat} {S : SS} {zI zL : ZM} {Q : PQ} {h : Nat} {n : Int} {I J V : Int → Int} {ne : Int} {fo la fi ls : Int → Int} {m : Int} {X0 XD Y YD : Int → Int} (hC : CvH S zI zL h n I J V ne fo la fi ls m X0 XD Y YD) {k : Int} (hk : 0 ≤ k ∧ k < 4 * (ne + m)) (hQ : Q (some (pL (prfS I J ne fo la fi ls X0 XD Y YD k))) S zI zL) : wpM X (d + 4) fCurve_proofNumber [pR (h + 4), pI k] S zI zL Q := by
  have hC0 := hC
  obtain ⟨hcv, hT, hR, ⟨e8, ⟨hne0, hne1⟩, hed⟩, hP, hPR, hm75⟩ := hC
  obtain ⟨hobc, hform, hpt, hpts, ⟨hr11, hr12, hr13, hr14⟩, ⟨c0, c1, c2, c3⟩, c4, c5, c6, c7⟩ := hcv
  have hform0 := hform
  have hT0 := hT
  have hR0 := hR
  obtain ⟨hob, ⟨hr1, hr2, hr3⟩, hf1, hf2, hf3⟩ := hform
  obtain ⟨e4, hel⟩ := hT
  obtain ⟨hn0, hn40, hrg⟩ := hR
  have hob6 := hpts.1
  have hm0 := hPR.1
  have hdm : k = 4 * (k / 4) + k % 4 := by omega
  have hm4 : 0 ≤ k % 4 ∧ k % 4 < 4 := by omega
  have l4 : inI 4 := by unfold inI; omega
  refine wp_in (C := c_Curve_proofNumber) (ls := [some (pR (h + 4)), some (pI k), none]) rfl rfl rfl rfl rfl ?_
  refine r_iload_n rfl rfl ?_
  refine r_iconst rfl ?_
  refine r_idiv rfl (by unfold inI; omega) (by unfold inI; omega) (by omega) ?_
  rw [td4 hk.1]
  refine r_istore_n rfl (Nat.le_of_ble_eq_true rfl) ?_
  refine r_iload_n rfl rfl ?_
  refine r_aload_n rfl rfl ?_
  refine r_getI rfl (by assumption) ?_
  rw [e8]
  refine r_icmp_lt rfl (by unfold inI; omega) (by unfold inI; omega) (fun h7 => ?_) (fun h7 => ?_)
  · skip
    refine r_iload_n rfl rfl ?_
    refine r_iconst rfl ?_
    refine r_irem rfl (by unfold inI; omega) (by unfold inI; omega) (by omega) ?_
    rw [tm4 hk.1]
    obtain ⟨⟨q1, q2, q3, q4⟩, q5, q6, q7, q8, q9, q10, q11, q12⟩ := hed (k / 4) (by omega) (by omega)
    have hwb := w_b8 (e := k / 4) hR0 ⟨q5, q6⟩ ⟨q7, q8⟩
    have hx := tdiv_b (a := -(J (la (k / 4)) - J (fo (k / 4)))) (b := wgt I J fo la (k / 4)) (by omega) hwb.1.1
    have hy := tdiv_b (a := (I (la (k / 4)) - I (fo (k / 4)))) (b := wgt I J fo la (k / 4)) (by omega) hwb.1.1
    have hkn := knd_b (fi (k / 4)) (ls (k / 4))
    unfold wgt at hx hy
    unfold prfS wgt at hQ
    rw [if_neg (by omega)] at hQ
    by_cases u0 : k % 4 = 0
    · rw [if_pos u0] at hQ
      refine r_tsw rfl (by unfold inI; omega) (t := 23) (by rw [u0]; rfl) ?_
      refine r_aload_n rfl rfl ?_
      refine r_iload_n rfl rfl ?_
      refine r_cV2 rfl hobc (Nat.le_of_ble_eq_true rfl) rfl rfl (w_directionX hC0 (by omega) (by omega) ?_)
      refine r_i2l rfl (by unfold inI; omega) ?_
      refine r_lret rfl ?_
      exact hQ
    · rw [if_neg u0] at hQ
      by_cases u1 : k % 4 = 1
      · rw [if_pos u1] at hQ
        refine r_tsw rfl (by unfold inI; omega) (t := 28) (by rw [u1]; rfl) ?_
        refine r_aload_n rfl rfl ?_
        refine r_iload_n rfl rfl ?_
        refine r_cV2 rfl hobc (Nat.le_of_ble_eq_true rfl) rfl rfl (w_directionY hC0 (by omega) (by omega) ?_)
        refine r_i2l rfl (by unfold inI; omega) ?_
        refine r_lret rfl ?_
        exact hQ
      · rw [if_neg u1] at hQ
        by_cases u2 : k % 4 = 2
        · rw [if_pos u2] at hQ
          refine r_tsw rfl (by unfold inI; omega) (t := 33) (by rw [u2]; rfl) ?_
          refine r_aload_n rfl rfl ?_
          refine r_iload_n rfl rfl ?_
          refine r_cV2 rfl hobc (Nat.le_of_ble_eq_true rfl) rfl rfl (w_weight hC0 (by omega) (by omega) ?_)
          refine r_i2l rfl (by unfold inI; omega) ?_
          refine r_lret rfl ?_
          exact hQ
        · rw [if_neg u2] at hQ
          refine r_tsw rfl (by unfold inI; omega) (t := 38) (by rw [show k % 4 = 3 by omega]; rfl) ?_
          refine r_aload_n rfl rfl ?_
          refine r_iload_n rfl rfl ?_
          refine r_cV2 rfl hobc (Nat.le_of_ble_eq_true rfl) rfl rfl (w_kindOf hC0 (by omega) (by omega) ?_)
          refine r_i2l rfl (by unfold inI; omega) ?_
          refine r_lret rfl ?_
          exact hQ
  · skip
    refine r_aload_n rfl rfl ?_
    refine r_getR rfl (by assumption) (by assumption) ?_
    refine r_iload_n rfl rfl ?_
    refine r_aload_n rfl rfl ?_
    refine r_getI rfl (by assumption) ?_
    rw [e8]
    refine r_isub rfl ?_
    refine r_iload_n rfl rfl ?_
    refine r_iconst rfl ?_
    refine r_irem rfl (by unfold inI; omega) (by unfold inI; omega) (by omega) ?_
    rw [tm4 hk.1]
    refine r_cV3 rfl hob6 (Nat.le_of_ble_eq_true rfl) rfl rfl (w_part hpts hP hPR hm75 (by unfold inI; omega) (by omega) (by omega) ?_)
    refine r_lret rfl ?_
    unfold prfS at hQ; rw [if_pos (by omega)] at hQ; exact hQ
end
section
/-! CURVES: standing in another; the stretch of two TERMS -/
abbrev stdB (n ne : Int) (I J V fo la : Int → Int) (n2 ne2 : Int) (I2 J2 V2 fo2 la2 : Int → Int) (t : Int) : Prop := idlC n ne fo la t = 0 ∧ ¬ (fnd n2 I2 J2 (I t) (J t) ≠ -1 ∧ V2 (fnd n2 I2 J2 (I t) (J t)) = V t ∧ idlC n2 ne2 fo2 la2 (fnd n2 I2 J2 (I t) (J t)) = 0)
def stdS (n ne : Int) (I J V fo la : Int → Int) (n2 ne2 : Int) (I2 J2 V2 fo2 la2 : Int → Int) : Int := if srch (fun t => decide (stdB n ne I J V fo la n2 ne2 I2 J2 V2 fo2 la2 t)) n.toNat 0 = -1 then 1 else 0
theorem fnd_b (n : Int) (I J : Int → Int) (a b : Int) (hn : 0 ≤ n) : fnd n I J a b = -1 ∨ (0 ≤ fnd n I J a b ∧ fnd n I J a b < n) := by
  rcases srch_in (fun t => decide (I t = a ∧ J t = b)) n.toNat 0 with h | h
  · exact Or.inl h
  · exact Or.inr ⟨h.1, by have := h.2.1; unfold fnd; omega⟩
set_option maxHeartbeats 4000000 in
theorem w_standsIn {X : PX} {d : Nat} {S : SS} {zI zL : ZM} {Q : PQ} {h : Nat} {n : Int} {I J V : Int → Int} {ne : Int} {fo la fi ls : Int → Int} {m : Int} {X0 XD Y YD : Int → Int} (hC : CvH S zI zL h n I J V ne fo la fi ls m X0 XD Y YD) {h2 : Nat} {n2 : Int} {I2 J2 V2 : Int → Int} {ne2 : Int} {fo2 la2 fi2 ls2 : Int → Int} {m2 : Int} {X2 XD2 Y2 YD2 : Int → Int} (hD : CvH S zI zL h2 n2 I2 J2 V2 ne2 fo2 la2 fi2 ls2 m2 X2 XD2 Y2 YD2) (hQ : Q (some (pI (stdS n ne I J V fo la n2 ne2 I2 J2 V2 fo2 la2))) S zI zL) : wpM X (d + 2) fCurve_standsIn [pR (h + 4), pR (h2 + 4)] S zI zL Q := by
  have hC0 := hC
  obtain ⟨hcv, hT, hR, ⟨e8, ⟨hne0, hne1⟩, hed⟩, hP, hPR, hm75⟩ := hC
  obtain ⟨hobc, hform, hpt, hpts, ⟨hr11, hr12, hr13, hr14⟩, ⟨c0, c1, c2, c3⟩, c4, c5, c6, c7⟩ := hcv
  have hform0 := hform
  have hT0 := hT
  have hR0 := hR
  obtain ⟨hob, ⟨hr1, hr2, hr3⟩, hf1, hf2, hf3⟩ := hform
  obtain ⟨e4, hel⟩ := hT
  obtain ⟨hn0, hn40, hrg⟩ := hR
  have hD0 := hD
  obtain ⟨hcv2, hT2, hR2, -, -, -, -⟩ := hD
  obtain ⟨hobc2, hform2, -, -, -, ⟨d0, -, -, -⟩, -, -, -, -⟩ := hcv2
  have hform20 := hform2
  obtain ⟨hob2, ⟨-, -, gr3⟩, -, -, gf3⟩ := hform2
  have hT20 := hT2
  obtain ⟨-, hel2⟩ := hT2
  have hR20 := hR2
  obtain ⟨hn20, hn240, hrg2⟩ := hR2
  have key : ∀ t : Int, t ≤ n → 0 ≤ t → ∀ x : Option PV, (∀ v, x ≠ some (pL v)) → srch (fun t => decide (stdB n ne I J V fo la n2 ne2 I2 J2 V2 fo2 la2 t)) (n - t).toNat t = srch (fun t => decide (stdB n ne I J V fo la n2 ne2 I2 J2 V2 fo2 la2 t)) n.toNat 0 → Run X (d + 1) c_Curve_standsIn 2 [some (pR (h + 4)), some (pR (h2 + 4)), some (pI t), x] [] S zI zL 0 0 Q := by
    refine loop_up _ n (fun t ht ih h0 x hx hs => ?_)
    have hib := idlC_b n ne fo la t
    have hfb := fnd_b n2 I2 J2 (I t) (J t) hn20
    have hib2 := idlC_b n2 ne2 fo2 la2 (fnd n2 I2 J2 (I t) (J t))
    refine r_iload_n rfl rfl ?_
    refine r_aload_n rfl rfl ?_
    refine r_getR rfl (by assumption) (by assumption) ?_
    refine r_getI rfl (by assumption) ?_
    rw [e4]
    refine r_icmp_ge rfl (by unfold inI; omega) (by unfold inI; omega) (fun h6 => ?_) (fun h6 => ?_)
    · skip
      refine r_iconst rfl ?_
      refine r_zret rfl (by first | exact Or.inl rfl | exact Or.inr rfl) ?_
      rw [srch_end (by omega)] at hs; unfold stdS at hQ; rw [if_pos hs.symm] at hQ; exact hQ
    · skip
      have gt := hel t h0 (by omega)
      have rt := hrg t h0 (by omega)
      refine r_aload_n rfl rfl ?_
      refine r_iload_n rfl rfl ?_
      refine r_cV2 rfl hobc (Nat.le_of_ble_eq_true rfl) rfl rfl (w_isIdle hC0 ⟨h0, by omega⟩ ?_)
      refine r_if_ne rfl (by unfold inI; omega) (fun h10 => ?_) (fun h10 => ?_)
      · skip
        refine r_iinc rfl rfl ?_
        refine r_goto rfl ?_
        exact ih (by omega) (by omega) _ hx (by rw [← srch_miss (by omega) (decide_eq_false (by exact fun q => by omega))]; exact hs)
      · skip
        refine r_aload_n rfl rfl ?_
        refine r_getR rfl (by assumption) (by assumption) ?_
        refine r_aload_n rfl rfl ?_
        refine r_getR rfl (by assumption) (by assumption) ?_
        refine r_getR rfl (by assumption) (by assumption) ?_
        refine r_iload_n rfl rfl ?_
        refine r_iald rfl (by assumption) (by omega) (by omega) ?_
        rw [gt.1]
        refine r_aload_n rfl rfl ?_
        refine r_getR rfl (by assumption) (by assumption) ?_
        refine r_getR rfl (by assumption) (by assumption) ?_
        refine r_iload_n rfl rfl ?_
        refine r_iald rfl (by assumption) (by omega) (by omega) ?_
        rw [gt.2.1]
        refine r_cV3 rfl hob2 (Nat.le_of_ble_eq_true rfl) rfl rfl (w_find hform20 hT20 hR20 (by unfold inI; omega) (by unfold inI; omega) ?_)
        refine r_istore_n rfl (Nat.le_of_ble_eq_true rfl) ?_
        refine r_iload_n rfl rfl ?_
        refine r_iconst rfl ?_
        refine r_icmp_eq rfl (by unfold inI; omega) (by unfold inI; omega) (fun h27 => ?_) (fun h27 => ?_)
        · skip
          refine r_iconst rfl ?_
          refine r_zret rfl (by first | exact Or.inl rfl | exact Or.inr rfl) ?_
          rw [srch_hit (by omega) (decide_eq_true (by exact ⟨by omega, fun q => by omega⟩))] at hs; unfold stdS at hQ; rw [if_neg (by omega)] at hQ; exact hQ
        · skip
          have gt2 := hel2 (fnd n2 I2 J2 (I t) (J t)) (by omega) (by omega)
          have rt2 := hrg2 (fnd n2 I2 J2 (I t) (J t)) (by omega) (by omega)
          refine r_aload_n rfl rfl ?_
          refine r_getR rfl (by assumption) (by assumption) ?_
          refine r_getR rfl (by assumption) (by assumption) ?_
          refine r_iload_n rfl rfl ?_
          refine r_iald rfl (by assumption) (by omega) (by omega) ?_
          rw [gt2.2.2]
          refine r_aload_n rfl rfl ?_
          refine r_getR rfl (by assumption) (by assumption) ?_
          refine r_getR rfl (by assumption) (by assumption) ?_
          refine r_iload_n rfl rfl ?_
          refine r_iald rfl (by assumption) (by omega) (by omega) ?_
          rw [gt.2.2]
          refine r_icmp_ne rfl (by unfold inI; omega) (by unfold inI; omega) (fun h38 => ?_) (fun h38 => ?_)
          · skip
            refine r_iconst rfl ?_
            refine r_zret rfl (by first | exact Or.inl rfl | exact Or.inr rfl) ?_
            rw [srch_hit (by omega) (decide_eq_true (by exact ⟨by omega, fun q => by omega⟩))] at hs; unfold stdS at hQ; rw [if_neg (by omega)] at hQ; exact hQ
          · skip
            refine r_aload_n rfl rfl ?_
            refine r_iload_n rfl rfl ?_
            refine r_cV2 rfl hobc2 (Nat.le_of_ble_eq_true rfl) rfl rfl (w_isIdle hD0 ⟨by omega, by omega⟩ ?_)
            refine r_if_eq rfl (by unfold inI; omega) (fun h42 => ?_) (fun h42 => ?_)
            · skip
              refine r_iinc rfl rfl ?_
              refine r_goto rfl ?_
              exact ih (by omega) (by omega) _ (fun v q => by cases q) (by rw [← srch_miss (by omega) (decide_eq_false (by exact fun q => q.2 ⟨by omega, by omega, by omega⟩))]; exact hs)
            · skip
              refine r_iconst rfl ?_
              refine r_zret rfl (by first | exact Or.inl rfl | exact Or.inr rfl) ?_
              rw [srch_hit (by omega) (decide_eq_true (by exact ⟨by omega, fun q => by omega⟩))] at hs; unfold stdS at hQ; rw [if_neg (by omega)] at hQ; exact hQ
  refine wp_in (C := c_Curve_standsIn) (ls := [some (pR (h + 4)), some (pR (h2 + 4)), none, none]) rfl rfl rfl rfl rfl ?_
  refine r_iconst rfl ?_
  refine r_istore_n rfl (Nat.le_of_ble_eq_true rfl) ?_
  exact key 0 hn0 (Int.le_refl _) none (fun v q => by cases q) (by rw [Int.sub_zero])
theorem w_raiseLow {X : PX} {d : Nat} {S : SS} {zI zL : ZM} {Q : PQ} {h : Nat} (hcv : isCurve S h) {u v : Int} (hu : -200000 ≤ u ∧ u ≤ 200000) (hv : 1 ≤ v ∧ v ≤ 128) (hb : (-200000 ≤ zL (h + 4) 9 ∧ zL (h + 4) 9 ≤ 200000) ∧ (1 ≤ zL (h + 4) 10 ∧ zL (h + 4) 10 ≤ 128) ∨ zL (h + 4) 10 = 0) (hQ1 : zL (h + 4) 10 = 0 ∨ zL (h + 4) 9 * v < u * zL (h + 4) 10 → Q none S zI (zput (zput zL (h + 4) 9 u) (h + 4) 10 v)) (hQ0 : zL (h + 4) 10 ≠ 0 → ¬ zL (h + 4) 9 * v < u * zL (h + 4) 10 → Q none S zI zL) : wpM X (d + 1) fCurve_raiseLow [pR (h + 4), pL u, pL v] S zI zL Q := by
  obtain ⟨hobc, -⟩ := hcv
  have l0 : inL 0 := by unfold inL; omega
  refine wp_in (C := c_Curve_raiseLow) (ls := [some (pR (h + 4)), some (pL u), none, some (pL v), none]) rfl rfl rfl rfl rfl ?_
  refine r_aload_n rfl rfl ?_
  refine r_getL rfl (by assumption) ?_
  refine r_lconst rfl ?_
  refine r_l_eq rfl rfl (by unfold inL; omega) l0 (fun h4 => ?_) (fun h4 => ?_)
  · skip
    refine r_aload_n rfl rfl ?_
    refine r_lload_n rfl rfl ?_
    refine r_putL rfl (by assumption) ?_
    refine r_aload_n rfl rfl ?_
    refine r_lload_n rfl rfl ?_
    refine r_putL rfl (by assumption) ?_
    refine r_ret rfl ?_
    exact hQ1 (Or.inl h4)
  · skip
    have m1 := mb (a := u) (b := zL (h + 4) 10) (A := 200000) (B := 128) hu.1 hu.2 (by omega) (by omega)
    have m2 := mb (a := zL (h + 4) 9) (b := v) (A := 200000) (B := 128) (by omega) (by omega) (by omega) hv.2
    refine r_lload_n rfl rfl ?_
    refine r_aload_n rfl rfl ?_
    refine r_getL rfl (by assumption) ?_
    refine r_lmul rfl ?_
    refine r_aload_n rfl rfl ?_
    refine r_getL rfl (by assumption) ?_
    refine r_lload_n rfl rfl ?_
    refine r_lmul rfl ?_
    refine r_l_le rfl rfl (by unfold inL; omega) (by unfold inL; omega) (fun h14 => ?_) (fun h14 => ?_)
    · skip
      refine r_ret rfl ?_
      exact hQ0 h4 (by omega)
    · skip
      refine r_aload_n rfl rfl ?_
      refine r_lload_n rfl rfl ?_
      refine r_putL rfl (by assumption) ?_
      refine r_aload_n rfl rfl ?_
      refine r_lload_n rfl rfl ?_
      refine r_putL rfl (by assumption) ?_
      refine r_ret rfl ?_
      exact hQ1 (Or.inr (by omega))
theorem w_bringDownHigh {X : PX} {d : Nat} {S : SS} {zI zL : ZM} {Q : PQ} {h : Nat} (hcv : isCurve S h) {u v : Int} (hu : -200000 ≤ u ∧ u ≤ 200000) (hv : 1 ≤ v ∧ v ≤ 128) (hb : (-200000 ≤ zL (h + 4) 11 ∧ zL (h + 4) 11 ≤ 200000) ∧ (1 ≤ zL (h + 4) 12 ∧ zL (h + 4) 12 ≤ 128) ∨ zL (h + 4) 12 = 0) (hQ1 : zL (h + 4) 12 = 0 ∨ u * zL (h + 4) 12 < zL (h + 4) 11 * v → Q none S zI (zput (zput zL (h + 4) 11 u) (h + 4) 12 v)) (hQ0 : zL (h + 4) 12 ≠ 0 → ¬ u * zL (h + 4) 12 < zL (h + 4) 11 * v → Q none S zI zL) : wpM X (d + 1) fCurve_bringDownHigh [pR (h + 4), pL u, pL v] S zI zL Q := by
  obtain ⟨hobc, -⟩ := hcv
  have l0 : inL 0 := by unfold inL; omega
  refine wp_in (C := c_Curve_bringDownHigh) (ls := [some (pR (h + 4)), some (pL u), none, some (pL v), none]) rfl rfl rfl rfl rfl ?_
  refine r_aload_n rfl rfl ?_
  refine r_getL rfl (by assumption) ?_
  refine r_lconst rfl ?_
  refine r_l_eq rfl rfl (by unfold inL; omega) l0 (fun h4 => ?_) (fun h4 => ?_)
  · skip
    refine r_aload_n rfl rfl ?_
    refine r_lload_n rfl rfl ?_
    refine r_putL rfl (by assumption) ?_
    refine r_aload_n rfl rfl ?_
    refine r_lload_n rfl rfl ?_
    refine r_putL rfl (by assumption) ?_
    refine r_ret rfl ?_
    exact hQ1 (Or.inl h4)
  · skip
    have m1 := mb (a := u) (b := zL (h + 4) 12) (A := 200000) (B := 128) hu.1 hu.2 (by omega) (by omega)
    have m2 := mb (a := zL (h + 4) 11) (b := v) (A := 200000) (B := 128) (by omega) (by omega) (by omega) hv.2
    refine r_lload_n rfl rfl ?_
    refine r_aload_n rfl rfl ?_
    refine r_getL rfl (by assumption) ?_
    refine r_lmul rfl ?_
    refine r_aload_n rfl rfl ?_
    refine r_getL rfl (by assumption) ?_
    refine r_lload_n rfl rfl ?_
    refine r_lmul rfl ?_
    refine r_l_ge rfl rfl (by unfold inL; omega) (by unfold inL; omega) (fun h14 => ?_) (fun h14 => ?_)
    · skip
      refine r_ret rfl ?_
      exact hQ0 h4 (by omega)
    · skip
      refine r_aload_n rfl rfl ?_
      refine r_lload_n rfl rfl ?_
      refine r_putL rfl (by assumption) ?_
      refine r_aload_n rfl rfl ?_
      refine r_lload_n rfl rfl ?_
      refine r_putL rfl (by assumption) ?_
      refine r_ret rfl ?_
      exact hQ1 (Or.inr (by omega))
end
section
/-! CURVES: the stretch where two TERMS are least -/
/-- on which side of the line of a and b a term is -/
def trE (I J : Int → Int) (a b k : Int) : Int := (I b - I a) * (J k - J a) - (J b - J a) * (I k - I a)
/-- how far it is above them -/
def rsE (I J V : Int → Int) (a b k : Int) : Int := (V a - V b) * ((I k - I a) * (I b - I a) + (J k - J a) * (J b - J a)) + (V k - V a) * ((I b - I a) * (I b - I a) + (J b - J a) * (J b - J a))
def lwU (I J V : Int → Int) (a b l k : Int) : Int := if l = -1 ∨ -(rsE I J V a b l) * trE I J a b k < -(rsE I J V a b k) * trE I J a b l then k else l
def hgU (I J V : Int → Int) (a b g k : Int) : Int := if g = -1 ∨ rsE I J V a b k * -(trE I J a b g) < rsE I J V a b g * -(trE I J a b k) then k else g
abbrev emE (I J V : Int → Int) (a b l g : Int) : Prop := l ≠ -1 ∧ g ≠ -1 ∧ rsE I J V a b g * trE I J a b l ≤ -(rsE I J V a b l) * -(trE I J a b g)
abbrev bdE (I J V : Int → Int) (a b k : Int) : Prop := trE I J a b k = 0 ∧ (rsE I J V a b k < 0 ∨ (rsE I J V a b k = 0 ∧ (k < a ∨ b < k)))
def stL (I J V : Int → Int) (a b l k : Int) : Int := if 0 < trE I J a b k then lwU I J V a b l k else l
def stG (I J V : Int → Int) (a b g k : Int) : Int := if trE I J a b k < 0 then hgU I J V a b g k else g
def stW (I J V : Int → Int) (a b : Int) : Nat → Int → Int → Int → Option (Int × Int)
  | 0, _, l, g => some (l, g)
  | f + 1, k, l, g => if bdE I J V a b k then none else if emE I J V a b (stL I J V a b l k) (stG I J V a b g k) then none else stW I J V a b f (k + 1) (stL I J V a b l k) (stG I J V a b g k)
/-- the terms that bound the stretch of a and b; none: there is no stretch -/
def stF (n : Int) (I J V : Int → Int) (a b : Int) : Option (Int × Int) := stW I J V a b n.toNat 0 (-1) (-1)
theorem stW_s {I J V : Int → Int} {a b n k l g : Int} (h : k < n) : stW I J V a b (n - k).toNat k l g = if bdE I J V a b k then none else if emE I J V a b (stL I J V a b l k) (stG I J V a b g k) then none else stW I J V a b (n - (k + 1)).toNat (k + 1) (stL I J V a b l k) (stG I J V a b g k) := by
  rw [show (n - k).toNat = (n - (k + 1)).toNat + 1 by omega]; rfl
theorem stW_e {I J V : Int → Int} {a b n k l g : Int} (h : n ≤ k) : stW I J V a b (n - k).toNat k l g = some (l, g) := by rw [show (n - k).toNat = 0 by omega]; rfl
theorem sq_b {x : Int} (h : -8 ≤ x ∧ x ≤ 8) : 0 ≤ x * x ∧ x * x ≤ 64 := by
  have h1 := mb (a := x) (b := x) (A := 8) (B := 8) h.1 h.2 h.1 h.2
  have h2 : x * x = ((x.natAbs * x.natAbs : Nat) : Int) := (Int.natAbs_mul_self' x).symm ▸ (by simp)
  omega
theorem trE_b {n : Int} {I J V : Int → Int} (hR : FR n I J V) {a b k : Int} (ha : 0 ≤ a ∧ a < n) (hb : 0 ≤ b ∧ b < n) (hk : 0 ≤ k ∧ k < n) : -128 ≤ trE I J a b k ∧ trE I J a b k ≤ 128 := by
  have h1 := hR.2.2 a ha.1 ha.2
  have h2 := hR.2.2 b hb.1 hb.2
  have h3 := hR.2.2 k hk.1 hk.2
  have a1 := mb (a := I b - I a) (b := J k - J a) (A := 8) (B := 8) (by omega) (by omega) (by omega) (by omega)
  have a2 := mb (a := J b - J a) (b := I k - I a) (A := 8) (B := 8) (by omega) (by omega) (by omega) (by omega)
  unfold trE; omega
theorem rsE_b {n : Int} {I J V : Int → Int} (hR : FR n I J V) {a b k : Int} (ha : 0 ≤ a ∧ a < n) (hb : 0 ≤ b ∧ b < n) (hk : 0 ≤ k ∧ k < n) : -102400 ≤ rsE I J V a b k ∧ rsE I J V a b k ≤ 102400 := by
  have h1 := hR.2.2 a ha.1 ha.2
  have h2 := hR.2.2 b hb.1 hb.2
  have h3 := hR.2.2 k hk.1 hk.2
  have a1 := mb (a := I k - I a) (b := I b - I a) (A := 8) (B := 8) (by omega) (by omega) (by omega) (by omega)
  have a2 := mb (a := J k - J a) (b := J b - J a) (A := 8) (B := 8) (by omega) (by omega) (by omega) (by omega)
  have a3 := sq_b (x := I b - I a) (by omega)
  have a4 := sq_b (x := J b - J a) (by omega)
  have a5 := mb (a := V a - V b) (b := (I k - I a) * (I b - I a) + (J k - J a) * (J b - J a)) (A := 400) (B := 128) (by omega) (by omega) (by omega) (by omega)
  have a6 := mb (a := V k - V a) (b := (I b - I a) * (I b - I a) + (J b - J a) * (J b - J a)) (A := 400) (B := 128) (by omega) (by omega) (by omega) (by omega)
  unfold rsE; omega
/-- what the curve's cell says of the bounds -/
def BH (z : ZM) (c : Nat) (n : Int) (I J V : Int → Int) (a b l g : Int) : Prop :=
  ((l = -1 ∧ z c 10 = 0) ∨ (0 ≤ l ∧ l < n ∧ 0 < trE I J a b l ∧ z c 9 = -(rsE I J V a b l) ∧ z c 10 = trE I J a b l)) ∧
  ((g = -1 ∧ z c 12 = 0) ∨ (0 ≤ g ∧ g < n ∧ trE I J a b g < 0 ∧ z c 11 = rsE I J V a b g ∧ z c 12 = -(trE I J a b g)))
theorem BH_low {z z2 : ZM} {c : Nat} {n : Int} {I J V : Int → Int} {a b l g k : Int} (h : BH z c n I J V a b l g) (hk : 0 ≤ k ∧ k < n) (ht : 0 < trE I J a b k)
    (h9 : z2 c 9 = if z c 10 = 0 ∨ z c 9 * trE I J a b k < -(rsE I J V a b k) * z c 10 then -(rsE I J V a b k) else z c 9)
    (h10 : z2 c 10 = if z c 10 = 0 ∨ z c 9 * trE I J a b k < -(rsE I J V a b k) * z c 10 then trE I J a b k else z c 10) (h11 : z2 c 11 = z c 11) (h12 : z2 c 12 = z c 12) :
    BH z2 c n I J V a b (stL I J V a b l k) (stG I J V a b g k) := by
  obtain ⟨h1, h2⟩ := h
  unfold BH stL stG
  rw [if_pos ht, if_neg (by omega), h11, h12]
  refine ⟨?_, h2⟩
  unfold lwU
  rcases h1 with ⟨e1, e2⟩ | ⟨e1, e2, e3, e4, e5⟩
  · rw [if_pos (Or.inl e2)] at h9 h10
    rw [if_pos (Or.inl e1)]
    exact Or.inr ⟨hk.1, hk.2, ht, h9, h10⟩
  · rw [e4, e5] at h9 h10
    by_cases q : -(rsE I J V a b l) * trE I J a b k < -(rsE I J V a b k) * trE I J a b l
    · rw [if_pos (Or.inr q)] at h9 h10
      rw [if_pos (Or.inr q)]
      exact Or.inr ⟨hk.1, hk.2, ht, h9, h10⟩
    · have q2 : ¬ (trE I J a b l = 0 ∨ -(rsE I J V a b l) * trE I J a b k < -(rsE I J V a b k) * trE I J a b l) := fun w => w.elim (fun w => by omega) q
      rw [if_neg q2] at h9 h10
      rw [if_neg (fun w => w.elim (fun w => by omega) q)]
      exact Or.inr ⟨e1, e2, e3, h9, h10⟩
theorem BH_high {z z2 : ZM} {c : Nat} {n : Int} {I J V : Int → Int} {a b l g k : Int} (h : BH z c n I J V a b l g) (hk : 0 ≤ k ∧ k < n) (ht : trE I J a b k < 0)
    (h11 : z2 c 11 = if z c 12 = 0 ∨ rsE I J V a b k * z c 12 < z c 11 * -(trE I J a b k) then rsE I J V a b k else z c 11)
    (h12 : z2 c 12 = if z c 12 = 0 ∨ rsE I J V a b k * z c 12 < z c 11 * -(trE I J a b k) then -(trE I J a b k) else z c 12) (h9 : z2 c 9 = z c 9) (h10 : z2 c 10 = z c 10) :
    BH z2 c n I J V a b (stL I J V a b l k) (stG I J V a b g k) := by
  obtain ⟨h1, h2⟩ := h
  unfold BH stL stG
  rw [if_neg (by omega), if_pos ht, h9, h10]
  refine ⟨h1, ?_⟩
  unfold hgU
  rcases h2 with ⟨e1, e2⟩ | ⟨e1, e2, e3, e4, e5⟩
  · rw [if_pos (Or.inl e2)] at h11 h12
    rw [if_pos (Or.inl e1)]
    exact Or.inr ⟨hk.1, hk.2, ht, h11, h12⟩
  · rw [e4, e5] at h11 h12
    by_cases q : rsE I J V a b k * -(trE I J a b g) < rsE I J V a b g * -(trE I J a b k)
    · rw [if_pos (Or.inr q)] at h11 h12
      rw [if_pos (Or.inr q)]
      exact Or.inr ⟨hk.1, hk.2, ht, h11, h12⟩
    · have q2 : ¬ (-(trE I J a b g) = 0 ∨ rsE I J V a b k * -(trE I J a b g) < rsE I J V a b g * -(trE I J a b k)) := fun w => w.elim (fun w => by omega) q
      rw [if_neg q2] at h11 h12
      rw [if_neg (fun w => w.elim (fun w => by omega) q)]
      exact Or.inr ⟨e1, e2, e3, h11, h12⟩
theorem BH_flat {z : ZM} {c : Nat} {n : Int} {I J V : Int → Int} {a b l g k : Int} (h : BH z c n I J V a b l g) (ht : trE I J a b k = 0) : BH z c n I J V a b (stL I J V a b l k) (stG I J V a b g k) := by
  unfold stL stG
  rw [if_neg (by omega), if_neg (by omega)]
  exact h
theorem v_raiseLow {X : PX} {d : Nat} {S : SS} {zI zL : ZM} {Q : PQ} {h : Nat} (hcv : isCurve S h) {u v : Int} (hu : -200000 ≤ u ∧ u ≤ 200000) (hv : 1 ≤ v ∧ v ≤ 128) (hb : (-200000 ≤ zL (h + 4) 9 ∧ zL (h + 4) 9 ≤ 200000) ∧ (1 ≤ zL (h + 4) 10 ∧ zL (h + 4) 10 ≤ 128) ∨ zL (h + 4) 10 = 0) (hQ : ∀ z, (∀ c, c ≠ h + 4 → z c = zL c) → z (h + 4) 9 = (if zL (h + 4) 10 = 0 ∨ zL (h + 4) 9 * v < u * zL (h + 4) 10 then u else zL (h + 4) 9) → z (h + 4) 10 = (if zL (h + 4) 10 = 0 ∨ zL (h + 4) 9 * v < u * zL (h + 4) 10 then v else zL (h + 4) 10) → z (h + 4) 11 = zL (h + 4) 11 → z (h + 4) 12 = zL (h + 4) 12 → Q none S zI z) : wpM X (d + 1) fCurve_raiseLow [pR (h + 4), pL u, pL v] S zI zL Q := by
  refine w_raiseLow hcv hu hv hb (fun hc => ?_) (fun h1 h2 => ?_)
  · refine hQ _ (fun c hc => by simp only [zput_row hc]) ?_ ?_ ?_ ?_
    · rw [if_pos hc]; unfold zput; simp (disch := omega) only [if_pos, if_neg, ↓reduceIte, true_and, and_true, true_or, or_true, and_self]
    · rw [if_pos hc]; unfold zput; simp (disch := omega) only [if_pos, if_neg, ↓reduceIte, true_and, and_true, true_or, or_true, and_self]
    · unfold zput; simp (disch := omega) only [if_pos, if_neg, ↓reduceIte, true_and, and_true, true_or, or_true, and_self]
    · unfold zput; simp (disch := omega) only [if_pos, if_neg, ↓reduceIte, true_and, and_true, true_or, or_true, and_self]
  · have hn : ¬ (zL (h + 4) 10 = 0 ∨ zL (h + 4) 9 * v < u * zL (h + 4) 10) := fun q => q.elim h1 h2
    exact hQ _ (fun c hc => rfl) (by rw [if_neg hn]) (by rw [if_neg hn]) rfl rfl
theorem v_bringDownHigh {X : PX} {d : Nat} {S : SS} {zI zL : ZM} {Q : PQ} {h : Nat} (hcv : isCurve S h) {u v : Int} (hu : -200000 ≤ u ∧ u ≤ 200000) (hv : 1 ≤ v ∧ v ≤ 128) (hb : (-200000 ≤ zL (h + 4) 11 ∧ zL (h + 4) 11 ≤ 200000) ∧ (1 ≤ zL (h + 4) 12 ∧ zL (h + 4) 12 ≤ 128) ∨ zL (h + 4) 12 = 0) (hQ : ∀ z, (∀ c, c ≠ h + 4 → z c = zL c) → z (h + 4) 11 = (if zL (h + 4) 12 = 0 ∨ u * zL (h + 4) 12 < zL (h + 4) 11 * v then u else zL (h + 4) 11) → z (h + 4) 12 = (if zL (h + 4) 12 = 0 ∨ u * zL (h + 4) 12 < zL (h + 4) 11 * v then v else zL (h + 4) 12) → z (h + 4) 9 = zL (h + 4) 9 → z (h + 4) 10 = zL (h + 4) 10 → Q none S zI z) : wpM X (d + 1) fCurve_bringDownHigh [pR (h + 4), pL u, pL v] S zI zL Q := by
  refine w_bringDownHigh hcv hu hv hb (fun hc => ?_) (fun h1 h2 => ?_)
  · refine hQ _ (fun c hc => by simp only [zput_row hc]) ?_ ?_ ?_ ?_
    · rw [if_pos hc]; unfold zput; simp (disch := omega) only [if_pos, if_neg, ↓reduceIte, true_and, and_true, true_or, or_true, and_self]
    · rw [if_pos hc]; unfold zput; simp (disch := omega) only [if_pos, if_neg, ↓reduceIte, true_and, and_true, true_or, or_true, and_self]
    · unfold zput; simp (disch := omega) only [if_pos, if_neg, ↓reduceIte, true_and, and_true, true_or, or_true, and_self]
    · unfold zput; simp (disch := omega) only [if_pos, if_neg, ↓reduceIte, true_and, and_true, true_or, or_true, and_self]
  · have hn : ¬ (zL (h + 4) 12 = 0 ∨ u * zL (h + 4) 12 < zL (h + 4) 11 * v) := fun q => q.elim h1 h2
    exact hQ _ (fun c hc => rfl) (by rw [if_neg hn]) (by rw [if_neg hn]) rfl rfl
set_option maxHeartbeats 4000000 in
theorem w_findStretch {X : PX} {d : Nat} {S : SS} {zI zL : ZM} {Q : PQ} {h : Nat} {n : Int} {I J V : Int → Int} (hcv : isCurve S h) (hT : FH zI h n I J V) (hR : FR n I J V) {a b : Int} (ha : 0 ≤ a ∧ a < n) (hb : 0 ≤ b ∧ b < n) (hQ0 : stF n I J V a b = none → ∀ z, (∀ c, c ≠ h + 4 → z c = zL c) → Q (some (pI 0)) S zI z) (hQ1 : ∀ l g, stF n I J V a b = some (l, g) → ∀ z, (∀ c, c ≠ h + 4 → z c = zL c) → BH z (h + 4) n I J V a b l g → Q (some (pI 1)) S zI z) : wpM X (d + 2) fCurve_findStretch [pR (h + 4), pI a, pI b] S zI zL Q := by
  have hcv0 := hcv
  obtain ⟨hobc, hform, hpt, hpts, ⟨hr11, hr12, hr13, hr14⟩, ⟨c0, c1, c2, c3⟩, c4, c5, c6, c7⟩ := hcv
  have hR0 := hR
  obtain ⟨hob, ⟨hr1, hr2, hr3⟩, hf1, hf2, hf3⟩ := hform
  obtain ⟨e4, hel⟩ := hT
  obtain ⟨hn0, hn40, hrg⟩ := hR
  have l0 : inL 0 := by unfold inL; omega
  obtain ⟨ga1, ga2, ga3⟩ := hel a ha.1 ha.2
  obtain ⟨gb1, gb2, gb3⟩ := hel b hb.1 hb.2
  have ra := hrg a ha.1 ha.2
  have rb := hrg b hb.1 hb.2
  have key : ∀ k : Int, k ≤ n → 0 ≤ k → ∀ (z : ZM) (l g : Int) (x7 x8 x9 x10 : Option PV), (∀ c, c ≠ h + 4 → z c = zL c) → BH z (h + 4) n I J V a b l g → stW I J V a b (n - k).toNat k l g = stF n I J V a b → Run X (d + 1) c_Curve_findStretch 44 [some (pR (h + 4)), some (pI a), some (pI b), some (pI (I b - I a)), some (pI (J b - J a)), some (pI (V a - V b)), some (pI k), x7, x8, x9, x10] [] S zI z 0 0 Q := by
    refine loop_up _ n (fun k hk ih h0 z l g x7 x8 x9 x10 hz hB hs => ?_)
    have join : k < n → ∀ (z : ZM) (l g x9 x10 : Int), (∀ c, c ≠ h + 4 → z c = zL c) → BH z (h + 4) n I J V a b l g → (if emE I J V a b l g then none else stW I J V a b (n - (k + 1)).toNat (k + 1) l g) = stF n I J V a b → Run X (d + 1) c_Curve_findStretch 143 [some (pR (h + 4)), some (pI a), some (pI b), some (pI (I b - I a)), some (pI (J b - J a)), some (pI (V a - V b)), some (pI k), some (pI (I k - I a)), some (pI (J k - J a)), some (pI x9), some (pI x10)] [] S zI z 0 0 Q := by
      intro hkn z l g x9 x10 hz hB hs
      have hBB := hB
      obtain ⟨hb1, hb2⟩ := hB
      have bl : l ≠ -1 → (-128 ≤ trE I J a b l ∧ trE I J a b l ≤ 128) ∧ -102400 ≤ rsE I J V a b l ∧ rsE I J V a b l ≤ 102400 := fun q => ⟨trE_b hR0 ha hb (by omega), rsE_b hR0 ha hb (by omega)⟩
      have bg : g ≠ -1 → (-128 ≤ trE I J a b g ∧ trE I J a b g ≤ 128) ∧ -102400 ≤ rsE I J V a b g ∧ rsE I J V a b g ≤ 102400 := fun q => ⟨trE_b hR0 ha hb (by omega), rsE_b hR0 ha hb (by omega)⟩
      have bz10 : inL (z (h + 4) 10) := by unfold inL; omega
      have bz12 : inL (z (h + 4) 12) := by unfold inL; omega
      refine r_aload_n rfl rfl ?_
      refine r_getL rfl (by assumption) ?_
      refine r_lconst rfl ?_
      refine r_l_eq rfl rfl bz10 l0 (fun h147 => ?_) (fun h147 => ?_)
      · skip
        refine r_iinc rfl rfl ?_
        refine r_goto rfl ?_
        exact ih hkn (by omega) z l g _ _ _ _ hz hBB (by rw [if_neg (fun q => by have := q.1; omega)] at hs; exact hs)
      · skip
        refine r_aload_n rfl rfl ?_
        refine r_getL rfl (by assumption) ?_
        refine r_lconst rfl ?_
        refine r_l_eq rfl rfl bz12 l0 (fun h152 => ?_) (fun h152 => ?_)
        · skip
          refine r_iinc rfl rfl ?_
          refine r_goto rfl ?_
          exact ih hkn (by omega) z l g _ _ _ _ hz hBB (by rw [if_neg (fun q => by have := q.2.1; omega)] at hs; exact hs)
        · skip
          have nl : l ≠ -1 := by omega
          have ng : g ≠ -1 := by omega
          have e9 : z (h + 4) 9 = -(rsE I J V a b l) := by omega
          have e10 : z (h + 4) 10 = trE I J a b l := by omega
          have e11 : z (h + 4) 11 = rsE I J V a b g := by omega
          have e12 : z (h + 4) 12 = -(trE I J a b g) := by omega
          have bl := bl nl
          have bg := bg ng
          have m1 := mb (a := -(rsE I J V a b l)) (b := -(trE I J a b g)) (A := 102400) (B := 128) (by omega) (by omega) (by omega) (by omega)
          have m2 := mb (a := rsE I J V a b g) (b := trE I J a b l) (A := 102400) (B := 128) (by omega) (by omega) (by omega) (by omega)
          refine r_aload_n rfl rfl ?_
          refine r_getL rfl (by assumption) ?_
          refine r_aload_n rfl rfl ?_
          refine r_getL rfl (by assumption) ?_
          refine r_lmul rfl ?_
          refine r_aload_n rfl rfl ?_
          refine r_getL rfl (by assumption) ?_
          refine r_aload_n rfl rfl ?_
          refine r_getL rfl (by assumption) ?_
          refine r_lmul rfl ?_
          rw [e9, e10, e11, e12]
          refine r_l_lt rfl rfl (by unfold inL; omega) (by unfold inL; omega) (fun h164 => ?_) (fun h164 => ?_)
          · skip
            refine r_iinc rfl rfl ?_
            refine r_goto rfl ?_
            exact ih hkn (by omega) z l g _ _ _ _ hz hBB (by rw [if_neg (fun q => by have := q.2.2; omega)] at hs; exact hs)
          · skip
            refine r_iconst rfl ?_
            refine r_zret rfl (by first | exact Or.inl rfl | exact Or.inr rfl) ?_
            rw [if_pos ⟨nl, ng, by omega⟩] at hs; exact hQ0 hs.symm _ hz
    have hBB := hB
    obtain ⟨hb1, hb2⟩ := hB
    refine r_iload rfl rfl ?_
    refine r_aload_n rfl rfl ?_
    refine r_getR rfl (by assumption) (by assumption) ?_
    refine r_getI rfl (by assumption) ?_
    refine r_icmp_ge rfl (by unfold inI; omega) (by unfold inI; omega) (fun h48 => ?_) (fun h48 => ?_)
    · skip
      refine r_iconst rfl ?_
      refine r_zret rfl (by first | exact Or.inl rfl | exact Or.inr rfl) ?_
      rw [stW_e (by omega)] at hs; exact hQ1 l g hs.symm _ hz hBB
    · skip
      have hkn : k < n := by omega
      obtain ⟨gk1, gk2, gk3⟩ := hel k h0 hkn
      have rk := hrg k h0 hkn
      have bt := trE_b hR0 ha hb ⟨h0, hkn⟩
      have br := rsE_b hR0 ha hb ⟨h0, hkn⟩
      rw [stW_s hkn] at hs
      refine r_aload_n rfl rfl ?_
      refine r_getR rfl (by assumption) (by assumption) ?_
      refine r_getR rfl (by assumption) (by assumption) ?_
      refine r_iload rfl rfl ?_
      refine r_iald rfl (by assumption) (by omega) (by omega) ?_
      rw [gk1]
      refine r_aload_n rfl rfl ?_
      refine r_getR rfl (by assumption) (by assumption) ?_
      refine r_getR rfl (by assumption) (by assumption) ?_
      refine r_iload_n rfl rfl ?_
      refine r_iald rfl (by assumption) (by omega) (by omega) ?_
      rw [ga1]
      refine r_isub rfl ?_
      refine r_istore rfl (Nat.le_of_ble_eq_true rfl) ?_
      refine r_aload_n rfl rfl ?_
      refine r_getR rfl (by assumption) (by assumption) ?_
      refine r_getR rfl (by assumption) (by assumption) ?_
      refine r_iload rfl rfl ?_
      refine r_iald rfl (by assumption) (by omega) (by omega) ?_
      rw [gk2]
      refine r_aload_n rfl rfl ?_
      refine r_getR rfl (by assumption) (by assumption) ?_
      refine r_getR rfl (by assumption) (by assumption) ?_
      refine r_iload_n rfl rfl ?_
      refine r_iald rfl (by assumption) (by omega) (by omega) ?_
      rw [ga2]
      refine r_isub rfl ?_
      refine r_istore rfl (Nat.le_of_ble_eq_true rfl) ?_
      refine r_iload_n rfl rfl ?_
      refine r_iload rfl rfl ?_
      refine r_imul rfl ?_
      refine r_iload rfl rfl ?_
      refine r_iload rfl rfl ?_
      refine r_imul rfl ?_
      refine r_isub rfl ?_
      rw [show (I b - I a) * (J k - J a) - (J b - J a) * (I k - I a) = trE I J a b k from rfl]
      refine r_istore rfl (Nat.le_of_ble_eq_true rfl) ?_
      refine r_iload rfl rfl ?_
      refine r_iload rfl rfl ?_
      refine r_iload_n rfl rfl ?_
      refine r_imul rfl ?_
      refine r_iload rfl rfl ?_
      refine r_iload rfl rfl ?_
      refine r_imul rfl ?_
      refine r_iadd rfl ?_
      refine r_imul rfl ?_
      refine r_aload_n rfl rfl ?_
      refine r_getR rfl (by assumption) (by assumption) ?_
      refine r_getR rfl (by assumption) (by assumption) ?_
      refine r_iload rfl rfl ?_
      refine r_iald rfl (by assumption) (by omega) (by omega) ?_
      rw [gk3]
      refine r_aload_n rfl rfl ?_
      refine r_getR rfl (by assumption) (by assumption) ?_
      refine r_getR rfl (by assumption) (by assumption) ?_
      refine r_iload_n rfl rfl ?_
      refine r_iald rfl (by assumption) (by omega) (by omega) ?_
      rw [ga3]
      refine r_isub rfl ?_
      refine r_iload_n rfl rfl ?_
      refine r_iload_n rfl rfl ?_
      refine r_imul rfl ?_
      refine r_iload rfl rfl ?_
      refine r_iload rfl rfl ?_
      refine r_imul rfl ?_
      refine r_iadd rfl ?_
      refine r_imul rfl ?_
      refine r_iadd rfl ?_
      rw [show (V a - V b) * ((I k - I a) * (I b - I a) + (J k - J a) * (J b - J a)) + (V k - V a) * ((I b - I a) * (I b - I a) + (J b - J a) * (J b - J a)) = rsE I J V a b k from rfl]
      refine r_istore rfl (Nat.le_of_ble_eq_true rfl) ?_
      refine r_iload rfl rfl ?_
      refine r_if_le rfl (by unfold inI; omega) (fun h112 => ?_) (fun h112 => ?_)
      · skip
        refine r_iload rfl rfl ?_
        refine r_if_ge rfl (by unfold inI; omega) (fun h122 => ?_) (fun h122 => ?_)
        · skip
          refine r_iload rfl rfl ?_
          refine r_if_lt rfl (by unfold inI; omega) (fun h132 => ?_) (fun h132 => ?_)
          · skip
            refine r_iconst rfl ?_
            refine r_zret rfl (by first | exact Or.inl rfl | exact Or.inr rfl) ?_
            rw [if_pos ⟨by omega, by omega⟩] at hs; exact hQ0 hs.symm _ hz
          · skip
            refine r_iload rfl rfl ?_
            refine r_if_ne rfl (by unfold inI; omega) (fun h134 => ?_) (fun h134 => ?_)
            · skip
              exact join hkn z _ _ _ _ hz (BH_flat (k := k) hBB (by omega)) (by rw [if_neg (fun q => by have := q.2; omega)] at hs; exact hs)
            · skip
              refine r_iload rfl rfl ?_
              refine r_iload_n rfl rfl ?_
              refine r_icmp_lt rfl (by unfold inI; omega) (by unfold inI; omega) (fun h137 => ?_) (fun h137 => ?_)
              · skip
                refine r_iconst rfl ?_
                refine r_zret rfl (by first | exact Or.inl rfl | exact Or.inr rfl) ?_
                rw [if_pos ⟨by omega, by omega⟩] at hs; exact hQ0 hs.symm _ hz
              · skip
                refine r_iload rfl rfl ?_
                refine r_iload_n rfl rfl ?_
                refine r_icmp_le rfl (by unfold inI; omega) (by unfold inI; omega) (fun h140 => ?_) (fun h140 => ?_)
                · skip
                  exact join hkn z _ _ _ _ hz (BH_flat (k := k) hBB (by omega)) (by rw [if_neg (fun q => by have := q.2; omega)] at hs; exact hs)
                · skip
                  refine r_iconst rfl ?_
                  refine r_zret rfl (by first | exact Or.inl rfl | exact Or.inr rfl) ?_
                  rw [if_pos ⟨by omega, by omega⟩] at hs; exact hQ0 hs.symm _ hz
        · skip
          refine r_aload_n rfl rfl ?_
          refine r_iload rfl rfl ?_
          refine r_i2l rfl (by unfold inI; omega) ?_
          refine r_iload rfl rfl ?_
          refine r_ineg rfl ?_
          refine r_i2l rfl (by unfold inI; omega) ?_
          refine r_cV3 rfl hobc (Nat.le_of_ble_eq_true rfl) rfl rfl (v_bringDownHigh hcv0 (by omega) (by omega) (by have q := fun nl : g ≠ -1 => trE_b hR0 (k := g) ha hb (by omega); have q2 := fun nl : g ≠ -1 => rsE_b hR0 (k := g) ha hb (by omega); omega) (fun z2 f2 q11 q12 q9 q10 => ?_))
          refine r_goto rfl ?_
          exact join hkn z2 _ _ _ _ (fun c hc => (f2 c hc).trans (hz c hc)) (BH_high hBB ⟨h0, hkn⟩ (by omega) q11 q12 q9 q10) (by rw [if_neg (fun q => by have := q.1; omega)] at hs; exact hs)
      · skip
        refine r_aload_n rfl rfl ?_
        refine r_iload rfl rfl ?_
        refine r_ineg rfl ?_
        refine r_i2l rfl (by unfold inI; omega) ?_
        refine r_iload rfl rfl ?_
        refine r_i2l rfl (by unfold inI; omega) ?_
        refine r_cV3 rfl hobc (Nat.le_of_ble_eq_true rfl) rfl rfl (v_raiseLow hcv0 (by omega) (by omega) (by have q := fun nl : l ≠ -1 => trE_b hR0 (k := l) ha hb (by omega); have q2 := fun nl : l ≠ -1 => rsE_b hR0 (k := l) ha hb (by omega); omega) (fun z2 f2 q9 q10 q11 q12 => ?_))
        refine r_goto rfl ?_
        exact join hkn z2 _ _ _ _ (fun c hc => (f2 c hc).trans (hz c hc)) (BH_low hBB ⟨h0, hkn⟩ (by omega) q9 q10 q11 q12) (by rw [if_neg (fun q => by have := q.1; omega)] at hs; exact hs)
  refine wp_in (C := c_Curve_findStretch) (ls := [some (pR (h + 4)), some (pI a), some (pI b), none, none, none, none, none, none, none, none]) rfl rfl rfl rfl rfl ?_
  refine r_aload_n rfl rfl ?_
  refine r_getR rfl (by assumption) (by assumption) ?_
  refine r_getR rfl (by assumption) (by assumption) ?_
  refine r_iload_n rfl rfl ?_
  refine r_iald rfl (by assumption) (by omega) (by omega) ?_
  rw [gb1]
  refine r_aload_n rfl rfl ?_
  refine r_getR rfl (by assumption) (by assumption) ?_
  refine r_getR rfl (by assumption) (by assumption) ?_
  refine r_iload_n rfl rfl ?_
  refine r_iald rfl (by assumption) (by omega) (by omega) ?_
  rw [ga1]
  refine r_isub rfl ?_
  refine r_istore_n rfl (Nat.le_of_ble_eq_true rfl) ?_
  refine r_aload_n rfl rfl ?_
  refine r_getR rfl (by assumption) (by assumption) ?_
  refine r_getR rfl (by assumption) (by assumption) ?_
  refine r_iload_n rfl rfl ?_
  refine r_iald rfl (by assumption) (by omega) (by omega) ?_
  rw [gb2]
  refine r_aload_n rfl rfl ?_
  refine r_getR rfl (by assumption) (by assumption) ?_
  refine r_getR rfl (by assumption) (by assumption) ?_
  refine r_iload_n rfl rfl ?_
  refine r_iald rfl (by assumption) (by omega) (by omega) ?_
  rw [ga2]
  refine r_isub rfl ?_
  refine r_istore rfl (Nat.le_of_ble_eq_true rfl) ?_
  refine r_aload_n rfl rfl ?_
  refine r_getR rfl (by assumption) (by assumption) ?_
  refine r_getR rfl (by assumption) (by assumption) ?_
  refine r_iload_n rfl rfl ?_
  refine r_iald rfl (by assumption) (by omega) (by omega) ?_
  rw [ga3]
  refine r_aload_n rfl rfl ?_
  refine r_getR rfl (by assumption) (by assumption) ?_
  refine r_getR rfl (by assumption) (by assumption) ?_
  refine r_iload_n rfl rfl ?_
  refine r_iald rfl (by assumption) (by omega) (by omega) ?_
  rw [gb3]
  refine r_isub rfl ?_
  refine r_istore rfl (Nat.le_of_ble_eq_true rfl) ?_
  refine r_aload_n rfl rfl ?_
  refine r_lconst rfl ?_
  refine r_putL rfl (by assumption) ?_
  refine r_aload_n rfl rfl ?_
  refine r_lconst rfl ?_
  refine r_putL rfl (by assumption) ?_
  refine r_iconst rfl ?_
  refine r_istore rfl (Nat.le_of_ble_eq_true rfl) ?_
  exact key 0 hn0 (Int.le_refl _) _ (-1) (-1) _ _ _ _ (fun c hc => by simp only [zput_row hc]) ⟨Or.inl ⟨rfl, by unfold zput; simp (disch := omega) only [if_pos, if_neg, ↓reduceIte, true_and, and_true, true_or, or_true, and_self]⟩, Or.inl ⟨rfl, by unfold zput; simp (disch := omega) only [if_pos, if_neg, ↓reduceIte, true_and, and_true, true_or, or_true, and_self]⟩⟩ (by rw [Int.sub_zero]; rfl)
end
section
/-! CURVES: corners -/
theorem cq1 (c p q i j w : Int) : c * p * (p * j - q * i) - q * -(c * (i * p + j * q) + w * (p * p + q * q)) = (p * p + q * q) * (c * j + q * w) := by grind
theorem cq2 (c p q i j w : Int) : c * q * (p * j - q * i) + p * -(c * (i * p + j * q) + w * (p * p + q * q)) = (p * p + q * q) * -(c * i + p * w) := by grind
theorem sq_nn (x : Int) : 0 ≤ x * x := by rcases Int.le_total 0 x with h | h; exact Int.mul_nonneg h h; exact Int.mul_nonneg_of_nonpos_of_nonpos h h
theorem sq_pp {x : Int} (h : x ≠ 0) : 0 < x * x := by
  rcases Int.lt_or_le 0 x with q | q
  · exact Int.mul_pos q q
  · exact Int.mul_pos_of_neg_of_neg (by omega) (by omega)
theorem gc_pos (a b : Int) : 1 ≤ gc a b := by unfold gc; split <;> omega
theorem gc_dvd {a b : Int} (hb : b ≠ 0) : gc a b ∣ a ∧ gc a b ∣ b := by
  unfold gc
  have h : Nat.gcd a.natAbs b.natAbs ≠ 0 := fun q => by have := Nat.eq_zero_of_gcd_eq_zero_right q; omega
  rw [if_neg h]
  exact ⟨Int.natAbs_dvd_natAbs.mp (by simpa using Nat.gcd_dvd_left _ _), Int.natAbs_dvd_natAbs.mp (by simpa using Nat.gcd_dvd_right _ _)⟩
theorem gc_mul {m a b : Int} (hm : 0 < m) (hb : b ≠ 0) : gc (m * a) (m * b) = m * gc a b := by
  unfold gc
  have h : Nat.gcd a.natAbs b.natAbs ≠ 0 := fun q => by have := Nat.eq_zero_of_gcd_eq_zero_right q; omega
  have e : Nat.gcd (m * a).natAbs (m * b).natAbs = m.natAbs * Nat.gcd a.natAbs b.natAbs := by rw [Int.natAbs_mul, Int.natAbs_mul, Nat.gcd_mul_left]
  have h2 : m.natAbs * Nat.gcd a.natAbs b.natAbs ≠ 0 := Nat.mul_ne_zero (by omega) h
  rw [e, if_neg h, if_neg h2, Int.natCast_mul, Int.natAbs_of_nonneg (by omega)]
theorem gc_neg (a b : Int) : gc (-a) (-b) = gc a b := by unfold gc; rw [Int.natAbs_neg, Int.natAbs_neg]
theorem sg_mul {m b : Int} (hm : 0 < m) : sg (m * b) = sg b := by
  unfold sg
  by_cases h : b < 0
  · rw [if_pos h, if_pos (Int.mul_neg_of_pos_of_neg hm h)]
  · rw [if_neg h, if_neg (by have := Int.mul_nonneg (Int.le_of_lt hm) (Int.not_lt.mp h); omega)]
theorem sg_neg {b : Int} (hb : b ≠ 0) : sg (-b) = -sg b := by unfold sg; split <;> split <;> omega
theorem rd_mul {m x b : Int} (hm : 0 < m) (hb : b ≠ 0) : rdA (m * x) (m * b) = rdA x b ∧ rdB (m * x) (m * b) = rdB x b := by
  unfold rdA rdB
  rw [gc_mul hm hb, sg_mul hm, Int.mul_left_comm]
  exact ⟨Int.mul_tdiv_mul_of_pos _ _ hm, Int.mul_tdiv_mul_of_pos _ _ hm⟩
theorem rd_neg {x b : Int} (hb : b ≠ 0) : rdA (-x) (-b) = rdA x b ∧ rdB (-x) (-b) = rdB x b := by
  unfold rdA rdB
  rw [gc_neg, sg_neg hb, Int.neg_mul, Int.tdiv_neg, Int.neg_tdiv, Int.neg_neg, Int.tdiv_neg, Int.neg_tdiv, Int.neg_neg]
  exact ⟨rfl, rfl⟩
/-- in lowest terms a number keeps its bounds -/
theorem rd_b {x b A B : Int} (hx : -A ≤ x ∧ x ≤ A) (hb : -B ≤ b ∧ b ≤ B) (h0 : b ≠ 0) : (-A ≤ rdA x b ∧ rdA x b ≤ A) ∧ (1 ≤ rdB x b ∧ rdB x b ≤ B) := by
  have hg := gc_pos x b
  obtain ⟨t, ht⟩ := (gc_dvd (a := x) h0).2
  have h1 : (rdA x b).natAbs ≤ x.natAbs := by unfold rdA; rw [Int.natAbs_tdiv]; exact Nat.div_le_self _ _
  have h2 : (rdB x b).natAbs ≤ b.natAbs := by unfold rdB; rw [Int.natAbs_tdiv]; exact Nat.div_le_self _ _
  have h3 : 1 ≤ rdB x b := by
    unfold rdB
    have e : b.tdiv (sg b * gc x b) = sg b * t := by
      conv => lhs; arg 1; rw [ht]
      unfold sg
      split
      · rw [Int.neg_mul, Int.one_mul, Int.tdiv_neg, Int.mul_tdiv_cancel_left _ (by omega), Int.neg_mul, Int.one_mul]
      · rw [Int.one_mul, Int.mul_tdiv_cancel_left _ (by omega), Int.one_mul]
    rw [e]
    unfold sg
    split
    · rename_i q
      have : t < 0 := by
        rcases Int.lt_or_le t 0 with w | w
        · exact w
        · have := Int.mul_nonneg (show 0 ≤ gc x b by omega) w; omega
      omega
    · rename_i q
      have : 0 < t := by
        rcases Int.lt_or_le 0 t with w | w
        · exact w
        · have := Int.mul_nonneg (show 0 ≤ gc x b by omega) (show 0 ≤ -t by omega); rw [Int.mul_neg] at this; omega
      omega
  omega
/-- where a, b and k are worth the same, in lowest terms -/
def cnX (I J V : Int → Int) (a b k : Int) : Int := (V a - V b) * (J k - J a) + (J b - J a) * (V k - V a)
def cnY (I J V : Int → Int) (a b k : Int) : Int := -((V a - V b) * (I k - I a) + (I b - I a) * (V k - V a))
abbrev cpX (I J V : Int → Int) (a b k : Int) : Int := rdA (cnX I J V a b k) (trE I J a b k)
abbrev cpXD (I J V : Int → Int) (a b k : Int) : Int := rdB (cnX I J V a b k) (trE I J a b k)
abbrev cpY (I J V : Int → Int) (a b k : Int) : Int := rdA (cnY I J V a b k) (trE I J a b k)
abbrev cpYD (I J V : Int → Int) (a b k : Int) : Int := rdB (cnY I J V a b k) (trE I J a b k)
theorem cn_b {n : Int} {I J V : Int → Int} (hR : FR n I J V) {a b k : Int} (ha : 0 ≤ a ∧ a < n) (hb : 0 ≤ b ∧ b < n) (hk : 0 ≤ k ∧ k < n) : (-6400 ≤ cnX I J V a b k ∧ cnX I J V a b k ≤ 6400) ∧ -6400 ≤ cnY I J V a b k ∧ cnY I J V a b k ≤ 6400 := by
  have h1 := hR.2.2 a ha.1 ha.2
  have h2 := hR.2.2 b hb.1 hb.2
  have h3 := hR.2.2 k hk.1 hk.2
  have a1 := mb (a := V a - V b) (b := J k - J a) (A := 400) (B := 8) (by omega) (by omega) (by omega) (by omega)
  have a2 := mb (a := J b - J a) (b := V k - V a) (A := 8) (B := 400) (by omega) (by omega) (by omega) (by omega)
  have a3 := mb (a := V a - V b) (b := I k - I a) (A := 400) (B := 8) (by omega) (by omega) (by omega) (by omega)
  have a4 := mb (a := I b - I a) (b := V k - V a) (A := 8) (B := 400) (by omega) (by omega) (by omega) (by omega)
  unfold cnX cnY; omega
theorem cp_b {n : Int} {I J V : Int → Int} (hR : FR n I J V) {a b k : Int} (ha : 0 ≤ a ∧ a < n) (hb : 0 ≤ b ∧ b < n) (hk : 0 ≤ k ∧ k < n) (ht : trE I J a b k ≠ 0) : PB (cpX I J V a b k) (cpXD I J V a b k) (cpY I J V a b k) (cpYD I J V a b k) := by
  have h1 := cn_b hR ha hb hk
  have h2 := trE_b hR ha hb hk
  have h3 := rd_b h1.1 h2 ht
  have h4 := rd_b h1.2 h2 ht
  exact ⟨⟨h3.1.1, h3.1.2, h3.2.1, h3.2.2⟩, h4.1.1, h4.1.2, h4.2.1, h4.2.2⟩
/-- the corner as it is reckoned: u / v along the line of a and b -/
theorem cp_eq {I J V : Int → Int} {a b k u v : Int} (hab : I b ≠ I a ∨ J b ≠ J a) (ht : trE I J a b k ≠ 0) (huv : (u = -(rsE I J V a b k) ∧ v = trE I J a b k) ∨ (u = rsE I J V a b k ∧ v = -(trE I J a b k))) :
    rdA ((V a - V b) * (I b - I a) * v - (J b - J a) * u) (((I b - I a) * (I b - I a) + (J b - J a) * (J b - J a)) * v) = cpX I J V a b k ∧
    rdB ((V a - V b) * (I b - I a) * v - (J b - J a) * u) (((I b - I a) * (I b - I a) + (J b - J a) * (J b - J a)) * v) = cpXD I J V a b k ∧
    rdA ((V a - V b) * (J b - J a) * v + (I b - I a) * u) (((I b - I a) * (I b - I a) + (J b - J a) * (J b - J a)) * v) = cpY I J V a b k ∧
    rdB ((V a - V b) * (J b - J a) * v + (I b - I a) * u) (((I b - I a) * (I b - I a) + (J b - J a) * (J b - J a)) * v) = cpYD I J V a b k := by
  have hm : 0 < (I b - I a) * (I b - I a) + (J b - J a) * (J b - J a) := by
    rcases hab with h | h
    · have h1 := sq_nn (J b - J a)
      have h2 := sq_pp (show I b - I a ≠ 0 by omega)
      omega
    · have h1 := sq_nn (I b - I a)
      have h2 := sq_pp (show J b - J a ≠ 0 by omega)
      omega
  have e1 := cq1 (V a - V b) (I b - I a) (J b - J a) (I k - I a) (J k - J a) (V k - V a)
  have e2 := cq2 (V a - V b) (I b - I a) (J b - J a) (I k - I a) (J k - J a) (V k - V a)
  rcases huv with ⟨h1, h2⟩ | ⟨h1, h2⟩
  · have g1 : (V a - V b) * (I b - I a) * v - (J b - J a) * u = ((I b - I a) * (I b - I a) + (J b - J a) * (J b - J a)) * cnX I J V a b k := by rw [h1, h2]; exact e1
    have g2 : (V a - V b) * (J b - J a) * v + (I b - I a) * u = ((I b - I a) * (I b - I a) + (J b - J a) * (J b - J a)) * cnY I J V a b k := by rw [h1, h2]; exact e2
    rw [g1, g2, h2]
    have r1 := rd_mul (x := cnX I J V a b k) hm ht
    have r2 := rd_mul (x := cnY I J V a b k) hm ht
    exact ⟨r1.1, r1.2, r2.1, r2.2⟩
  · have g1 : (V a - V b) * (I b - I a) * v - (J b - J a) * u = ((I b - I a) * (I b - I a) + (J b - J a) * (J b - J a)) * -(cnX I J V a b k) := by
      rw [h1, h2, Int.mul_neg, Int.mul_neg, ← show (V a - V b) * (I b - I a) * trE I J a b k - (J b - J a) * -(rsE I J V a b k) = ((I b - I a) * (I b - I a) + (J b - J a) * (J b - J a)) * cnX I J V a b k from e1, Int.mul_neg]; omega
    have g2 : (V a - V b) * (J b - J a) * v + (I b - I a) * u = ((I b - I a) * (I b - I a) + (J b - J a) * (J b - J a)) * -(cnY I J V a b k) := by
      rw [h1, h2, Int.mul_neg, Int.mul_neg, ← show (V a - V b) * (J b - J a) * trE I J a b k + (I b - I a) * -(rsE I J V a b k) = ((I b - I a) * (I b - I a) + (J b - J a) * (J b - J a)) * cnY I J V a b k from e2, Int.mul_neg]; omega
    rw [g1, g2, h2]
    have nt : -(trE I J a b k) ≠ 0 := by omega
    have r1 := rd_mul (x := -(cnX I J V a b k)) hm nt
    have r2 := rd_mul (x := -(cnY I J V a b k)) hm nt
    have s1 := rd_neg (x := cnX I J V a b k) ht
    have s2 := rd_neg (x := cnY I J V a b k) ht
    exact ⟨r1.1.trans s1.1, r1.2.trans s1.2, r2.1.trans s2.1, r2.2.trans s2.2⟩
end
section
/-! CURVES: a corner is numbered in -/
def bmp (t : Int) (f : Int → Int) : Int → Int := fun e => if t ≤ f e then f e + 1 else f e
theorem PsR_ins {m : Int} {X XD Y YD : Int → Int} (hR : PsR m X XD Y YD) {t x xd y yd : Int} (h0 : 0 ≤ t) (h1 : t ≤ m) (hB : PB x xd y yd) : PsR (m + 1) (insF X t x) (insF XD t xd) (insF Y t y) (insF YD t yd) := by
  refine ⟨by have := hR.1; omega, fun k k0 k1 => ?_⟩
  unfold insF
  rcases Int.lt_trichotomy k t with e | e | e
  · rw [if_pos e, if_pos e, if_pos e, if_pos e]; exact hR.2 k k0 (by omega)
  · rw [if_neg (by omega), if_pos e, if_neg (by omega), if_pos e, if_neg (by omega), if_pos e, if_neg (by omega), if_pos e]; exact hB
  · rw [if_neg (by omega), if_neg (by omega), if_neg (by omega), if_neg (by omega), if_neg (by omega), if_neg (by omega), if_neg (by omega), if_neg (by omega)]; exact hR.2 (k - 1) (by omega) (by omega)
theorem PsH_fr {zI zL zI' zL' : ZM} {h : Nat} {m : Int} {X XD Y YD : Int → Int} (hT : PsH zI zL h m X XD Y YD) (hI : zI' h = zI h) (hL : ∀ c, h + 1 ≤ c → c ≤ h + 4 → zL' c = zL c) : PsH zI' zL' h m X XD Y YD := by
  unfold PsH at *
  rw [hI, hL (h + 1) (by omega) (by omega), hL (h + 2) (by omega) (by omega), hL (h + 3) (by omega) (by omega), hL (h + 4) (by omega) (by omega)]
  exact hT
theorem skS_b (m : Int) (X XD Y YD : Int → Int) (x xd y yd : Int) (hm : 0 ≤ m) : 0 ≤ skS m X XD Y YD x xd y yd ∧ skS m X XD Y YD x xd y yd ≤ m := by
  have h1 := (fstN_spec (fun t => decide (0 ≤ cmpP (X t) (XD t) (Y t) (YD t) x xd y yd)) m.toNat 0).1
  have h2 := (fstN_spec (fun t => decide (0 ≤ cmpP (X t) (XD t) (Y t) (YD t) x xd y yd)) m.toNat 0).2.1
  unfold skS
  omega
set_option maxHeartbeats 8000000 in
theorem w_cornerOn {X : PX} {d : Nat} {S : SS} {zI zL : ZM} {Q : PQ} {h : Nat} {n : Int} {I J V : Int → Int} {ne : Int} {fo la fi ls : Int → Int} {m : Int} {X0 XD Y YD : Int → Int} (hC : CvH S zI zL h n I J V ne fo la fi ls m X0 XD Y YD) {e : Int} (h0 : 0 ≤ e) (h1 : e < ne) {k u v : Int} (hk : 0 ≤ k ∧ k < n) (hab : I (la e) ≠ I (fo e) ∨ J (la e) ≠ J (fo e)) (ht : trE I J (fo e) (la e) k ≠ 0) (huv : (u = -(rsE I J V (fo e) (la e) k) ∧ v = trE I J (fo e) (la e) k) ∨ (u = rsE I J V (fo e) (la e) k ∧ v = -(trE I J (fo e) (la e) k))) (hQC : ¬ (skS m X0 XD Y YD (cpX I J V (fo e) (la e) k) (cpXD I J V (fo e) (la e) k) (cpY I J V (fo e) (la e) k) (cpYD I J V (fo e) (la e) k) < m ∧ cmpP (X0 (skS m X0 XD Y YD (cpX I J V (fo e) (la e) k) (cpXD I J V (fo e) (la e) k) (cpY I J V (fo e) (la e) k) (cpYD I J V (fo e) (la e) k))) (XD (skS m X0 XD Y YD (cpX I J V (fo e) (la e) k) (cpXD I J V (fo e) (la e) k) (cpY I J V (fo e) (la e) k) (cpYD I J V (fo e) (la e) k))) (Y (skS m X0 XD Y YD (cpX I J V (fo e) (la e) k) (cpXD I J V (fo e) (la e) k) (cpY I J V (fo e) (la e) k) (cpYD I J V (fo e) (la e) k))) (YD (skS m X0 XD Y YD (cpX I J V (fo e) (la e) k) (cpXD I J V (fo e) (la e) k) (cpY I J V (fo e) (la e) k) (cpYD I J V (fo e) (la e) k))) (cpX I J V (fo e) (la e) k) (cpXD I J V (fo e) (la e) k) (cpY I J V (fo e) (la e) k) (cpYD I J V (fo e) (la e) k) = 0) → m = 75 → ∀ z2, (∀ c, c ≠ h + 5 → z2 c = zL c) → Q (some (pI (-1))) S zI z2) (hQA : (skS m X0 XD Y YD (cpX I J V (fo e) (la e) k) (cpXD I J V (fo e) (la e) k) (cpY I J V (fo e) (la e) k) (cpYD I J V (fo e) (la e) k) < m ∧ cmpP (X0 (skS m X0 XD Y YD (cpX I J V (fo e) (la e) k) (cpXD I J V (fo e) (la e) k) (cpY I J V (fo e) (la e) k) (cpYD I J V (fo e) (la e) k))) (XD (skS m X0 XD Y YD (cpX I J V (fo e) (la e) k) (cpXD I J V (fo e) (la e) k) (cpY I J V (fo e) (la e) k) (cpYD I J V (fo e) (la e) k))) (Y (skS m X0 XD Y YD (cpX I J V (fo e) (la e) k) (cpXD I J V (fo e) (la e) k) (cpY I J V (fo e) (la e) k) (cpYD I J V (fo e) (la e) k))) (YD (skS m X0 XD Y YD (cpX I J V (fo e) (la e) k) (cpXD I J V (fo e) (la e) k) (cpY I J V (fo e) (la e) k) (cpYD I J V (fo e) (la e) k))) (cpX I J V (fo e) (la e) k) (cpXD I J V (fo e) (la e) k) (cpY I J V (fo e) (la e) k) (cpYD I J V (fo e) (la e) k) = 0) → ∀ z2, (∀ c, c ≠ h + 5 → z2 c = zL c) → Q (some (pI (skS m X0 XD Y YD (cpX I J V (fo e) (la e) k) (cpXD I J V (fo e) (la e) k) (cpY I J V (fo e) (la e) k) (cpYD I J V (fo e) (la e) k)))) S zI z2) (hQB : ¬ (skS m X0 XD Y YD (cpX I J V (fo e) (la e) k) (cpXD I J V (fo e) (la e) k) (cpY I J V (fo e) (la e) k) (cpYD I J V (fo e) (la e) k) < m ∧ cmpP (X0 (skS m X0 XD Y YD (cpX I J V (fo e) (la e) k) (cpXD I J V (fo e) (la e) k) (cpY I J V (fo e) (la e) k) (cpYD I J V (fo e) (la e) k))) (XD (skS m X0 XD Y YD (cpX I J V (fo e) (la e) k) (cpXD I J V (fo e) (la e) k) (cpY I J V (fo e) (la e) k) (cpYD I J V (fo e) (la e) k))) (Y (skS m X0 XD Y YD (cpX I J V (fo e) (la e) k) (cpXD I J V (fo e) (la e) k) (cpY I J V (fo e) (la e) k) (cpYD I J V (fo e) (la e) k))) (YD (skS m X0 XD Y YD (cpX I J V (fo e) (la e) k) (cpXD I J V (fo e) (la e) k) (cpY I J V (fo e) (la e) k) (cpYD I J V (fo e) (la e) k))) (cpX I J V (fo e) (la e) k) (cpXD I J V (fo e) (la e) k) (cpY I J V (fo e) (la e) k) (cpYD I J V (fo e) (la e) k) = 0) → m < 75 → ∀ z z2, z (h + 6) 4 = 75 → (∀ c, c ≠ h + 6 → c ≠ h + 13 → c ≠ h + 14 → z c = zI c) → (∀ c, (c < h + 5 ∨ c = h + 6 ∨ h + 10 < c) → z2 c = zL c) → CvH S z z2 h n I J V ne fo la (bmp (skS m X0 XD Y YD (cpX I J V (fo e) (la e) k) (cpXD I J V (fo e) (la e) k) (cpY I J V (fo e) (la e) k) (cpYD I J V (fo e) (la e) k)) fi) (bmp (skS m X0 XD Y YD (cpX I J V (fo e) (la e) k) (cpXD I J V (fo e) (la e) k) (cpY I J V (fo e) (la e) k) (cpYD I J V (fo e) (la e) k)) ls) (m + 1) (insF X0 (skS m X0 XD Y YD (cpX I J V (fo e) (la e) k) (cpXD I J V (fo e) (la e) k) (cpY I J V (fo e) (la e) k) (cpYD I J V (fo e) (la e) k)) (cpX I J V (fo e) (la e) k)) (insF XD (skS m X0 XD Y YD (cpX I J V (fo e) (la e) k) (cpXD I J V (fo e) (la e) k) (cpY I J V (fo e) (la e) k) (cpYD I J V (fo e) (la e) k)) (cpXD I J V (fo e) (la e) k)) (insF Y (skS m X0 XD Y YD (cpX I J V (fo e) (la e) k) (cpXD I J V (fo e) (la e) k) (cpY I J V (fo e) (la e) k) (cpYD I J V (fo e) (la e) k)) (cpY I J V (fo e) (la e) k)) (insF YD (skS m X0 XD Y YD (cpX I J V (fo e) (la e) k) (cpXD I J V (fo e) (la e) k) (cpY I J V (fo e) (la e) k) (cpYD I J V (fo e) (la e) k)) (cpYD I J V (fo e) (la e) k)) → Q (some (pI (skS m X0 XD Y YD (cpX I J V (fo e) (la e) k) (cpXD I J V (fo e) (la e) k) (cpY I J V (fo e) (la e) k) (cpYD I J V (fo e) (la e) k)))) S z z2) (hmost : zI (h + 6) 4 = 75) : wpM X (d + 3) fCurve_cornerOn [pR (h + 4), pI e, pL u, pL v] S zI zL Q := by
  have hC0 := hC
  obtain ⟨hcv, hT, hR, ⟨e8, ⟨hne0, hne1⟩, hed⟩, hP, hPR, hm75⟩ := hC
  obtain ⟨hobc, hform, hpt, hpts, ⟨hr11, hr12, hr13, hr14⟩, ⟨c0, c1, c2, c3⟩, c4, c5, c6, c7⟩ := hcv
  have hform0 := hform
  have hT0 := hT
  have hR0 := hR
  obtain ⟨hob, ⟨hr1, hr2, hr3⟩, hf1, hf2, hf3⟩ := hform
  obtain ⟨e4, hel⟩ := hT
  obtain ⟨hn0, hn40, hrg⟩ := hR
  obtain ⟨⟨q1, q2, q3, q4⟩, q5, q6, q7, q8, q9, q10, q11, q12⟩ := hed e h0 h1
  obtain ⟨a1, a2, a3⟩ := hel (fo e) q5 q6
  obtain ⟨b1, b2, b3⟩ := hel (la e) q7 q8
  have ra := hrg (fo e) q5 q6
  have rb := hrg (la e) q7 q8
  have hob6 := hpts.1
  have hm0 := hPR.1
  have bt := trE_b hR0 (a := fo e) (b := la e) (k := k) ⟨q5, q6⟩ ⟨q7, q8⟩ hk
  have br := rsE_b hR0 (a := fo e) (b := la e) (k := k) ⟨q5, q6⟩ ⟨q7, q8⟩ hk
  have hPB := cp_b hR0 (a := fo e) (b := la e) (k := k) ⟨q5, q6⟩ ⟨q7, q8⟩ hk ht
  obtain ⟨g1, g2, g3, g4⟩ := cp_eq hab ht huv
  have bu : -102400 ≤ u ∧ u ≤ 102400 := by omega
  have bv : -128 ≤ v ∧ v ≤ 128 := by omega
  have bp : -8 ≤ I (la e) - I (fo e) ∧ I (la e) - I (fo e) ≤ 8 := by omega
  have bq : -8 ≤ J (la e) - J (fo e) ∧ J (la e) - J (fo e) ≤ 8 := by omega
  have bc : -400 ≤ V (fo e) - V (la e) ∧ V (fo e) - V (la e) ≤ 400 := by omega
  have c1 := mb bc.1 bc.2 bp.1 bp.2
  have c2 := mb (A := 400 * 8) c1.1 c1.2 bv.1 bv.2
  have c3 := mb bq.1 bq.2 bu.1 bu.2
  have c4 := mb bc.1 bc.2 bq.1 bq.2
  have c5 := mb (A := 400 * 8) c4.1 c4.2 bv.1 bv.2
  have c6 := mb bp.1 bp.2 bu.1 bu.2
  have s1 := sq_b bp
  have s2 := sq_b bq
  have c7 := mb (a := (I (la e) - I (fo e)) * (I (la e) - I (fo e)) + (J (la e) - J (fo e)) * (J (la e) - J (fo e))) (A := 128) (by omega) (by omega) bv.1 bv.2
  have hzn : ∃ zn : ZM, zn = zput (zput (zput (zput zL (h + 5) 0 (cpX I J V (fo e) (la e) k)) (h + 5) 1 (cpXD I J V (fo e) (la e) k)) (h + 5) 2 (cpY I J V (fo e) (la e) k)) (h + 5) 3 (cpYD I J V (fo e) (la e) k) := ⟨_, rfl⟩
  obtain ⟨zn, hzn⟩ := hzn
  have hph : PH zn (h + 5) (cpX I J V (fo e) (la e) k) (cpXD I J V (fo e) (la e) k) (cpY I J V (fo e) (la e) k) (cpYD I J V (fo e) (la e) k) := by
    rw [hzn]; unfold PH zput; simp (disch := omega) only [if_pos, if_neg, ↓reduceIte, true_and, and_true, true_or, or_true, and_self]
  have hznr : ∀ c, c ≠ h + 5 → zn c = zL c := fun c hc => by rw [hzn]; simp only [zput_row hc]
  have hP2 : PsH zI zn (h + 6) m X0 XD Y YD := PsH_fr hP rfl (fun c k0 k1 => hznr c (by omega))
  have htb := skS_b m X0 XD Y YD (cpX I J V (fo e) (la e) k) (cpXD I J V (fo e) (la e) k) (cpY I J V (fo e) (la e) k) (cpYD I J V (fo e) (la e) k) hm0
  obtain ⟨t, htd⟩ : ∃ t : Int, t = skS m X0 XD Y YD (cpX I J V (fo e) (la e) k) (cpXD I J V (fo e) (la e) k) (cpY I J V (fo e) (la e) k) (cpYD I J V (fo e) (la e) k) := ⟨_, rfl⟩
  rw [← htd] at htb hQC hQA hQB
  have hfull : m = 75 → ¬ (t < m ∧ cmpP (X0 t) (XD t) (Y t) (YD t) (cpX I J V (fo e) (la e) k) (cpXD I J V (fo e) (la e) k) (cpY I J V (fo e) (la e) k) (cpYD I J V (fo e) (la e) k) = 0) → Run X (d + 2) c_Curve_cornerOn 66 [some (pR (h + 4)), some (pI e), some (pL u), none, some (pL v), none, some (pL (I (la e) - I (fo e))), none, some (pL (J (la e) - J (fo e))), none, some (pL (V (fo e) - V (la e))), none, some (pI t), none] [pI 0] S zI zn 0 0 Q := by
    intro q1 q2
    clear c1 c2 c3 c4 c5 c6 c7 s1 s2 bu bv bp bq bc bt br g1 g2 g3 g4
    refine r_if_ne rfl (by unfold inI; omega) (fun h66 => absurd rfl h66) (fun _ => ?_)
    refine r_iconst rfl ?_
    refine r_iret rfl ?_
    exact hQC q2 q1 zn hznr
  have loop : m < 75 → ∀ k2 : Int, k2 ≤ ne → 0 ≤ k2 → ∀ z z2 : ZM, (∀ c, c ≠ h + 13 → c ≠ h + 14 → z c = zput zI (h + 6) 5 (m + 1) c) → (∀ c, (c < h + 5 ∨ c = h + 6 ∨ h + 10 < c) → z2 c = zL c) → (∀ j, 0 ≤ j → j < m + 1 → z2 (h + 7) j = insF X0 t (cpX I J V (fo e) (la e) k) j ∧ z2 (h + 8) j = insF XD t (cpXD I J V (fo e) (la e) k) j ∧ z2 (h + 9) j = insF Y t (cpY I J V (fo e) (la e) k) j ∧ z2 (h + 10) j = insF YD t (cpYD I J V (fo e) (la e) k) j) → (∀ e2, 0 ≤ e2 → e2 < ne → z (h + 13) e2 = (if e2 < k2 then bmp t fi e2 else fi e2) ∧ z (h + 14) e2 = (if e2 < k2 then bmp t ls e2 else ls e2)) → ¬ (t < m ∧ cmpP (X0 t) (XD t) (Y t) (YD t) (cpX I J V (fo e) (la e) k) (cpXD I J V (fo e) (la e) k) (cpY I J V (fo e) (la e) k) (cpYD I J V (fo e) (la e) k) = 0) → Run X (d + 2) c_Curve_cornerOn 71 [some (pR (h + 4)), some (pI e), some (pL u), none, some (pL v), none, some (pL (I (la e) - I (fo e))), none, some (pL (J (la e) - J (fo e))), none, some (pL (V (fo e) - V (la e))), none, some (pI t), some (pI k2)] [] S z z2 0 0 Q := by
    clear c1 c2 c3 c4 c5 c6 c7 s1 s2 bu bv bp bq bc bt br g1 g2 g3 g4 a1 a2 a3 b1 b2 b3 ra rb
    intro hm75b
    refine loop_up _ ne (fun k2 hk2 ih h0k z z2 hz hz2 hpt2 hel2 hns => ?_)
    have e8z : z (h + 4) 8 = ne := by rw [hz (h + 4) (by omega) (by omega), zput_row (by omega)]; exact e8
    refine r_iload rfl rfl ?_
    refine r_aload_n rfl rfl ?_
    refine r_getI rfl (by assumption) ?_
    rw [e8z]
    refine r_icmp_ge rfl (by unfold inI; omega) (by unfold inI; omega) (fun h74 => ?_) (fun h74 => ?_)
    · skip
      refine r_iload rfl rfl ?_
      refine r_iret rfl ?_
      refine hQB hns hm75b z z2 (by rw [hz (h + 6) (by omega) (by omega), zput_off (by decide)]; exact hmost) (fun c v1 v2 v3 => by rw [hz c v2 v3, zput_row v1]) hz2 ?_
      refine ⟨hC0.1, ?_, hR0, ⟨e8z, ⟨hne0, hne1⟩, fun e2 p0 p1 => ?_⟩, ⟨?_, fun j p0 p1 => hpt2 j p0 p1⟩, PsR_ins hPR htb.1 htb.2 hPB, by omega⟩
      · refine FH_fr hT0 (fun c v1 v2 => by rw [hz c (by omega) (by omega), zput_row (by omega)])
      · obtain ⟨⟨x1, x2, x3, x4⟩, x5, x6, x7, x8, x9, x10, x11, x12⟩ := hed e2 p0 p1
        obtain ⟨y1, y2⟩ := hel2 e2 p0 p1
        rw [if_pos (by omega)] at y1 y2
        refine ⟨⟨?_, ?_, y1, y2⟩, x5, x6, x7, x8, ?_, ?_, ?_, ?_⟩
        · rw [hz (h + 11) (by omega) (by omega), zput_row (by omega)]; exact x1
        · rw [hz (h + 12) (by omega) (by omega), zput_row (by omega)]; exact x2
        · unfold bmp; split <;> omega
        · unfold bmp; split <;> omega
        · unfold bmp; split <;> omega
        · unfold bmp; split <;> omega
      · rw [hz (h + 6) (by omega) (by omega)]; exact zput_at
    · skip
      obtain ⟨y1, y2⟩ := hel2 k2 h0k (by omega)
      rw [if_neg (by omega)] at y1 y2
      obtain ⟨-, -, -, -, -, w9, w10, w11, w12⟩ := hed k2 h0k (by omega)
      have nx : ∀ z3 : ZM, (∀ c, c ≠ h + 13 → c ≠ h + 14 → z3 c = z c) → (∀ j, j ≠ k2 → z3 (h + 13) j = z (h + 13) j ∧ z3 (h + 14) j = z (h + 14) j) → z3 (h + 13) k2 = bmp t fi k2 → z3 (h + 14) k2 = bmp t ls k2 → (∀ c, c ≠ h + 13 → c ≠ h + 14 → z3 c = zput zI (h + 6) 5 (m + 1) c) ∧ ∀ e2, 0 ≤ e2 → e2 < ne → z3 (h + 13) e2 = (if e2 < k2 + 1 then bmp t fi e2 else fi e2) ∧ z3 (h + 14) e2 = (if e2 < k2 + 1 then bmp t ls e2 else ls e2) := fun z3 v1 v2 v3 v4 => ⟨fun c c1 c2 => (v1 c c1 c2).trans (hz c c1 c2), fun e2 p0 p1 => by
        by_cases ee : e2 = k2
        · subst ee; rw [if_pos (by omega), if_pos (by omega)]; exact ⟨v3, v4⟩
        · rw [(v2 e2 ee).1, (v2 e2 ee).2, (hel2 e2 p0 p1).1, (hel2 e2 p0 p1).2]
          by_cases e3 : e2 < k2
          · rw [if_pos e3, if_pos e3, if_pos (by omega), if_pos (by omega)]; exact ⟨rfl, rfl⟩
          · rw [if_neg e3, if_neg e3, if_neg (by omega), if_neg (by omega)]; exact ⟨rfl, rfl⟩⟩
      refine r_aload_n rfl rfl ?_
      refine r_getR rfl (by assumption) (by assumption) ?_
      refine r_iload rfl rfl ?_
      refine r_iald rfl (by assumption) (by omega) (by omega) ?_
      rw [y1]
      refine r_iload rfl rfl ?_
      refine r_icmp_lt rfl (by unfold inI; omega) (by unfold inI; omega) (fun h80 => ?_) (fun h80 => ?_)
      · skip
        refine r_aload_n rfl rfl ?_
        refine r_getR rfl (by assumption) (by assumption) ?_
        refine r_iload rfl rfl ?_
        refine r_iald rfl (by assumption) (by omega) (by omega) ?_
        rw [y2]
        refine r_iload rfl rfl ?_
        refine r_icmp_lt rfl (by unfold inI; omega) (by unfold inI; omega) (fun h94 => ?_) (fun h94 => ?_)
        · skip
          refine r_iinc rfl rfl ?_
          refine r_goto rfl ?_
          obtain ⟨nx1, nx2⟩ := nx (z) (fun c c1 c2 => by simp only [zput_row c1, zput_row c2]) (fun j hj => by first | exact ⟨rfl, rfl⟩ | (unfold zput; simp (disch := omega) only [if_pos, if_neg, ↓reduceIte, true_and, and_true, true_or, or_true, and_self]; try exact ⟨rfl, rfl⟩)) (by (try unfold zput); unfold bmp; (try simp (disch := omega) only [if_pos, if_neg, ↓reduceIte, true_and, and_true, true_or, or_true, and_self]); try exact y1) (by (try unfold zput); unfold bmp; (try simp (disch := omega) only [if_pos, if_neg, ↓reduceIte, true_and, and_true, true_or, or_true, and_self]); try exact y2)
          exact ih (by omega) (by omega) _ _ nx1 hz2 hpt2 nx2 hns
        · skip
          refine r_aload_n rfl rfl ?_
          refine r_getR rfl (by assumption) (by assumption) ?_
          refine r_iload rfl rfl ?_
          refine r_dup2 rfl ?_
          refine r_iald rfl (by assumption) (by omega) (by omega) ?_
          rw [y2]
          refine r_iconst rfl ?_
          refine r_iadd rfl ?_
          refine r_iast rfl (by assumption) (by omega) (by omega) ?_
          refine r_iinc rfl rfl ?_
          refine r_goto rfl ?_
          obtain ⟨nx1, nx2⟩ := nx (zput z (h + 14) k2 (ls k2 + 1)) (fun c c1 c2 => by simp only [zput_row c1, zput_row c2]) (fun j hj => by first | exact ⟨rfl, rfl⟩ | (unfold zput; simp (disch := omega) only [if_pos, if_neg, ↓reduceIte, true_and, and_true, true_or, or_true, and_self]; try exact ⟨rfl, rfl⟩)) (by (try unfold zput); unfold bmp; (try simp (disch := omega) only [if_pos, if_neg, ↓reduceIte, true_and, and_true, true_or, or_true, and_self]); try exact y1) (by (try unfold zput); unfold bmp; (try simp (disch := omega) only [if_pos, if_neg, ↓reduceIte, true_and, and_true, true_or, or_true, and_self]); try exact y2)
          exact ih (by omega) (by omega) _ _ nx1 hz2 hpt2 nx2 hns
      · skip
        refine r_aload_n rfl rfl ?_
        refine r_getR rfl (by assumption) (by assumption) ?_
        refine r_iload rfl rfl ?_
        refine r_dup2 rfl ?_
        refine r_iald rfl (by assumption) (by omega) (by omega) ?_
        rw [y1]
        refine r_iconst rfl ?_
        refine r_iadd rfl ?_
        refine r_iast rfl (by assumption) (by omega) (by omega) ?_
        refine r_aload_n rfl rfl ?_
        refine r_getR rfl (by assumption) (by assumption) ?_
        refine r_iload rfl rfl ?_
        refine r_iald rfl (by assumption) (by omega) (by omega) ?_
        rw [show zput z (h + 13) k2 (fi k2 + 1) (h + 14) k2 = ls k2 by rw [zput_row (by omega)]; exact y2]
        refine r_iload rfl rfl ?_
        refine r_icmp_lt rfl (by unfold inI; omega) (by unfold inI; omega) (fun h94 => ?_) (fun h94 => ?_)
        · skip
          refine r_iinc rfl rfl ?_
          refine r_goto rfl ?_
          obtain ⟨nx1, nx2⟩ := nx (zput z (h + 13) k2 (fi k2 + 1)) (fun c c1 c2 => by simp only [zput_row c1, zput_row c2]) (fun j hj => by first | exact ⟨rfl, rfl⟩ | (unfold zput; simp (disch := omega) only [if_pos, if_neg, ↓reduceIte, true_and, and_true, true_or, or_true, and_self]; try exact ⟨rfl, rfl⟩)) (by (try unfold zput); unfold bmp; (try simp (disch := omega) only [if_pos, if_neg, ↓reduceIte, true_and, and_true, true_or, or_true, and_self]); try exact y1) (by (try unfold zput); unfold bmp; (try simp (disch := omega) only [if_pos, if_neg, ↓reduceIte, true_and, and_true, true_or, or_true, and_self]); try exact y2)
          exact ih (by omega) (by omega) _ _ nx1 hz2 hpt2 nx2 hns
        · skip
          refine r_aload_n rfl rfl ?_
          refine r_getR rfl (by assumption) (by assumption) ?_
          refine r_iload rfl rfl ?_
          refine r_dup2 rfl ?_
          refine r_iald rfl (by assumption) (by omega) (by omega) ?_
          rw [show zput z (h + 13) k2 (fi k2 + 1) (h + 14) k2 = ls k2 by rw [zput_row (by omega)]; exact y2]
          refine r_iconst rfl ?_
          refine r_iadd rfl ?_
          refine r_iast rfl (by assumption) (by omega) (by omega) ?_
          refine r_iinc rfl rfl ?_
          refine r_goto rfl ?_
          obtain ⟨nx1, nx2⟩ := nx (zput (zput z (h + 13) k2 (fi k2 + 1)) (h + 14) k2 (ls k2 + 1)) (fun c c1 c2 => by simp only [zput_row c1, zput_row c2]) (fun j hj => by first | exact ⟨rfl, rfl⟩ | (unfold zput; simp (disch := omega) only [if_pos, if_neg, ↓reduceIte, true_and, and_true, true_or, or_true, and_self]; try exact ⟨rfl, rfl⟩)) (by (try unfold zput); unfold bmp; (try simp (disch := omega) only [if_pos, if_neg, ↓reduceIte, true_and, and_true, true_or, or_true, and_self]); try exact y1) (by (try unfold zput); unfold bmp; (try simp (disch := omega) only [if_pos, if_neg, ↓reduceIte, true_and, and_true, true_or, or_true, and_self]); try exact y2)
          exact ih (by omega) (by omega) _ _ nx1 hz2 hpt2 nx2 hns
  refine wp_in (C := c_Curve_cornerOn) (ls := [some (pR (h + 4)), some (pI e), some (pL u), none, some (pL v), none, none, none, none, none, none, none, none, none]) rfl rfl rfl rfl rfl ?_
  refine r_aload_n rfl rfl ?_
  refine r_iload_n rfl rfl ?_
  refine r_cV2 rfl hobc (Nat.le_of_ble_eq_true rfl) rfl rfl (w_acrossI hC0 h0 h1 ?_)
  refine r_i2l rfl (by unfold inI; omega) ?_
  refine r_lstore rfl (Nat.le_of_ble_eq_true rfl) ?_
  refine r_aload_n rfl rfl ?_
  refine r_iload_n rfl rfl ?_
  refine r_cV2 rfl hobc (Nat.le_of_ble_eq_true rfl) rfl rfl (w_acrossJ hC0 h0 h1 ?_)
  refine r_i2l rfl (by unfold inI; omega) ?_
  refine r_lstore rfl (Nat.le_of_ble_eq_true rfl) ?_
  refine r_aload_n rfl rfl ?_
  refine r_iload_n rfl rfl ?_
  refine r_cV2 rfl hobc (Nat.le_of_ble_eq_true rfl) rfl rfl (w_level hC0 h0 h1 ?_)
  refine r_i2l rfl (by unfold inI; omega) ?_
  refine r_lstore rfl (Nat.le_of_ble_eq_true rfl) ?_
  refine r_aload_n rfl rfl ?_
  refine r_getR rfl (by assumption) (by assumption) ?_
  refine r_lload rfl rfl ?_
  refine r_lload rfl rfl ?_
  refine r_lmul rfl ?_
  refine r_lload rfl rfl ?_
  refine r_lmul rfl ?_
  refine r_lload rfl rfl ?_
  refine r_lload_n rfl rfl ?_
  refine r_lmul rfl ?_
  refine r_lsub rfl ?_
  refine r_lload rfl rfl ?_
  refine r_lload rfl rfl ?_
  refine r_lmul rfl ?_
  refine r_lload rfl rfl ?_
  refine r_lmul rfl ?_
  refine r_lload rfl rfl ?_
  refine r_lload_n rfl rfl ?_
  refine r_lmul rfl ?_
  refine r_ladd rfl ?_
  refine r_lload rfl rfl ?_
  refine r_lload rfl rfl ?_
  refine r_lmul rfl ?_
  refine r_lload rfl rfl ?_
  refine r_lload rfl rfl ?_
  refine r_lmul rfl ?_
  refine r_ladd rfl ?_
  refine r_lload rfl rfl ?_
  refine r_lmul rfl ?_
  refine r_cV4 rfl hpt (Nat.le_of_ble_eq_true rfl) rfl rfl (w_reduce hpt (by omega) (by omega) (by omega) ?_)
  rw [g1, g2, g3, g4, ← hzn]
  refine r_aload_n rfl rfl ?_
  refine r_getR rfl (by assumption) (by assumption) ?_
  refine r_aload_n rfl rfl ?_
  refine r_getR rfl (by assumption) (by assumption) ?_
  refine r_cV2 rfl hob6 (Nat.le_of_ble_eq_true rfl) rfl rfl (w_seek hpts hP2 hPR hm75 hpt hph hPB (by omega) ?_)
  rw [← htd]
  refine r_istore rfl (Nat.le_of_ble_eq_true rfl) ?_
  refine r_aload_n rfl rfl ?_
  refine r_getR rfl (by assumption) (by assumption) ?_
  refine r_iload rfl rfl ?_
  refine r_aload_n rfl rfl ?_
  refine r_getR rfl (by assumption) (by assumption) ?_
  refine r_cV3 rfl hob6 (Nat.le_of_ble_eq_true rfl) rfl rfl (w_stands hpts hP2 hPR hm75 hpt hph hPB (by omega) htb.1 htb.2 ?_)
  by_cases hst : (t < m ∧ cmpP (X0 t) (XD t) (Y t) (YD t) (cpX I J V (fo e) (la e) k) (cpXD I J V (fo e) (la e) k) (cpY I J V (fo e) (la e) k) (cpYD I J V (fo e) (la e) k) = 0)
  · rw [if_pos hst]
    refine r_if_eq rfl (by unfold inI; omega) (fun h57 => absurd h57 (by decide)) (fun h57 => ?_)
    refine r_iload rfl rfl ?_
    refine r_iret rfl ?_
    exact hQA hst zn hznr
  rw [if_neg hst]
  refine r_if_eq rfl (by unfold inI; omega) (fun h57 => ?_) (fun h57 => ?_)
  · skip
    refine r_aload_n rfl rfl ?_
    refine r_getR rfl (by assumption) (by assumption) ?_
    refine r_iload rfl rfl ?_
    refine r_aload_n rfl rfl ?_
    refine r_getR rfl (by assumption) (by assumption) ?_
    refine r_cV3 rfl hob6 (Nat.le_of_ble_eq_true rfl) rfl rfl (w_insert hpts hP2 hPR hm75 hpt hph (by omega) (by omega) hmost htb.1 htb.2 (fun q => hfull q hst) (fun q z3 hz3 => ?_))
    refine r_if_ne rfl (by unfold inI; omega) (fun h66 => ?_) (fun h66 => ?_)
    · skip
      refine r_iconst rfl ?_
      refine r_istore rfl (Nat.le_of_ble_eq_true rfl) ?_
      refine loop q 0 hne0 (Int.le_refl _) _ z3 (fun c _ _ => rfl) (fun c hc => (hz3.1 c (by omega) (by omega) (by omega) (by omega)).trans (hznr c (by omega))) (fun j p0 p1 => hz3.2 j p0 p1) (fun e2 p0 p1 => ?_) hst
      obtain ⟨⟨x1, x2, x3, x4⟩, -⟩ := hed e2 p0 p1
      rw [if_neg (by omega), if_neg (by omega), zput_row (by omega), zput_row (by omega)]
      exact ⟨x3, x4⟩
    · skip
      refine r_iconst rfl ?_
      refine r_iret rfl ?_
      exact absurd h66 (by decide)
  · skip
    refine r_iload rfl rfl ?_
    refine r_iret rfl ?_
    exact absurd rfl h57
end
section
/-! CURVES: the drawing as a function -/
abbrev CS : Type := Int × (Int → Int) × (Int → Int) × (Int → Int) × (Int → Int) × Int × (Int → Int) × (Int → Int) × (Int → Int) × (Int → Int)
def mkC (ne : Int) (fo la fi ls : Int → Int) (m : Int) (X XD Y YD : Int → Int) : CS := (ne, fo, la, fi, ls, m, X, XD, Y, YD)
def cNE (s : CS) : Int := s.1
def cFO (s : CS) : Int → Int := s.2.1
def cLA (s : CS) : Int → Int := s.2.2.1
def cFI (s : CS) : Int → Int := s.2.2.2.1
def cLS (s : CS) : Int → Int := s.2.2.2.2.1
def cM (s : CS) : Int := s.2.2.2.2.2.1
def cX (s : CS) : Int → Int := s.2.2.2.2.2.2.1
def cXD (s : CS) : Int → Int := s.2.2.2.2.2.2.2.1
def cY (s : CS) : Int → Int := s.2.2.2.2.2.2.2.2.1
def cYD (s : CS) : Int → Int := s.2.2.2.2.2.2.2.2.2
def CvT (S : SS) (zI zL : ZM) (h : Nat) (n : Int) (I J V : Int → Int) (s : CS) : Prop := CvH S zI zL h n I J V (cNE s) (cFO s) (cLA s) (cFI s) (cLS s) (cM s) (cX s) (cXD s) (cY s) (cYD s)
/-- where the corner of a, b and k stands or would stand -/
def corP (I J V : Int → Int) (s : CS) (a b k : Int) : Int := skS (cM s) (cX s) (cXD s) (cY s) (cYD s) (cpX I J V a b k) (cpXD I J V a b k) (cpY I J V a b k) (cpYD I J V a b k)
abbrev corH (I J V : Int → Int) (s : CS) (a b k : Int) : Prop := corP I J V s a b k < cM s ∧ cmpP (cX s (corP I J V s a b k)) (cXD s (corP I J V s a b k)) (cY s (corP I J V s a b k)) (cYD s (corP I J V s a b k)) (cpX I J V a b k) (cpXD I J V a b k) (cpY I J V a b k) (cpYD I J V a b k) = 0
def corA (I J V : Int → Int) (s : CS) (a b k : Int) : Int := if corH I J V s a b k then corP I J V s a b k else if cM s < 75 then corP I J V s a b k else -1
def corI (I J V : Int → Int) (s : CS) (a b k : Int) : CS := mkC (cNE s) (cFO s) (cLA s) (bmp (corP I J V s a b k) (cFI s)) (bmp (corP I J V s a b k) (cLS s)) (cM s + 1) (insF (cX s) (corP I J V s a b k) (cpX I J V a b k)) (insF (cXD s) (corP I J V s a b k) (cpXD I J V a b k)) (insF (cY s) (corP I J V s a b k) (cpY I J V a b k)) (insF (cYD s) (corP I J V s a b k) (cpYD I J V a b k))
def corT (I J V : Int → Int) (s : CS) (a b k : Int) : CS := if corH I J V s a b k then s else if cM s < 75 then corI I J V s a b k else s
def sFI (s : CS) (e v : Int) : CS := mkC (cNE s) (cFO s) (cLA s) (updF (cFI s) e v) (cLS s) (cM s) (cX s) (cXD s) (cY s) (cYD s)
def sLS (s : CS) (e v : Int) : CS := mkC (cNE s) (cFO s) (cLA s) (cFI s) (updF (cLS s) e v) (cM s) (cX s) (cXD s) (cY s) (cYD s)
def ad1 (s : CS) (a b : Int) : CS := mkC (cNE s + 1) (updF (cFO s) (cNE s) a) (updF (cLA s) (cNE s) b) (updF (cFI s) (cNE s) (-1)) (updF (cLS s) (cNE s) (-1)) (cM s) (cX s) (cXD s) (cY s) (cYD s)
def adF (I J V : Int → Int) (s : CS) (e a b l : Int) : CS := if l = -1 then s else sFI (corT I J V s a b l) e (corA I J V s a b l)
def adG (I J V : Int → Int) (s : CS) (e a b g : Int) : CS := if g = -1 then s else sLS (corT I J V s a b g) e (corA I J V s a b g)
/-- an edge more -/
def addS (I J V : Int → Int) (s : CS) (a b l g : Int) : CS := adG I J V (adF I J V (ad1 s a b) (cNE s) a b l) (cNE s) a b g
/-- the cells of the curve of the form at h that a drawing writes, or the scratch point -/
def frI (h : Nat) (z zI : ZM) : Prop := ∀ c, c ≠ h + 4 → c ≠ h + 6 → c ≠ h + 11 → c ≠ h + 12 → c ≠ h + 13 → c ≠ h + 14 → z c = zI c
def frL (h : Nat) (z zL : ZM) : Prop := ∀ c, (c < h + 5 ∨ c = h + 6 ∨ h + 10 < c) → z c = zL c
theorem corP_b {I J V : Int → Int} {s : CS} {a b k : Int} (h : 0 ≤ cM s) : 0 ≤ corP I J V s a b k ∧ corP I J V s a b k ≤ cM s := skS_b _ _ _ _ _ _ _ _ _ h
theorem corA_b {I J V : Int → Int} {s : CS} {a b k : Int} (h : 0 ≤ cM s) : -1 ≤ corA I J V s a b k ∧ corA I J V s a b k < cM (corT I J V s a b k) := by
  have hb := corP_b (I := I) (J := J) (V := V) (s := s) (a := a) (b := b) (k := k) h
  unfold corA corT
  split
  · rename_i q; exact ⟨by omega, q.1⟩
  · split
    · exact ⟨by omega, by show _ < cM s + 1; omega⟩
    · omega
theorem w_cornerT {X : PX} {d : Nat} {S : SS} {zI zL : ZM} {Q : PQ} {h : Nat} {n : Int} {I J V : Int → Int} {s : CS} (hC : CvT S zI zL h n I J V s) {e k u v : Int} (h0 : 0 ≤ e) (h1 : e < cNE s) (hk : 0 ≤ k ∧ k < n) (hab : I (cLA s e) ≠ I (cFO s e) ∨ J (cLA s e) ≠ J (cFO s e)) (ht : trE I J (cFO s e) (cLA s e) k ≠ 0) (huv : (u = -(rsE I J V (cFO s e) (cLA s e) k) ∧ v = trE I J (cFO s e) (cLA s e) k) ∨ (u = rsE I J V (cFO s e) (cLA s e) k ∧ v = -(trE I J (cFO s e) (cLA s e) k)))
    (hmost : zI (h + 6) 4 = 75) (hQ : ∀ z z2, frI h z zI → z (h + 4) = zI (h + 4) → frL h z2 zL → z (h + 6) 4 = 75 → CvT S z z2 h n I J V (corT I J V s (cFO s e) (cLA s e) k) → Q (some (pI (corA I J V s (cFO s e) (cLA s e) k))) S z z2) : wpM X (d + 3) fCurve_cornerOn [pR (h + 4), pI e, pL u, pL v] S zI zL Q := by
  refine w_cornerOn hC h0 h1 hk hab ht huv (fun hs hm z2 hz2 => ?_) (fun hs z2 hz2 => ?_) (fun hs hm z z2 h4 hz hz2 hC2 => ?_) hmost
  · have hs2 : ¬ corH I J V s (cFO s e) (cLA s e) k := hs
    have hm2 : ¬ cM s < 75 := by omega
    have hm := hQ zI z2 (fun c _ _ _ _ _ _ => rfl) rfl (fun c hc => hz2 c (by omega)) hmost
    unfold corT corA at hm
    rw [if_neg hs2, if_neg hm2, if_neg hs2, if_neg hm2] at hm
    exact hm (CvH_fr hC (fun c _ _ => rfl) (fun c c0 c1 => hz2 c (by omega)))
  · have hs2 : corH I J V s (cFO s e) (cLA s e) k := hs
    have hm := hQ zI z2 (fun c _ _ _ _ _ _ => rfl) rfl (fun c hc => hz2 c (by omega)) hmost
    unfold corT corA at hm
    rw [if_pos hs2, if_pos hs2] at hm
    exact hm (CvH_fr hC (fun c _ _ => rfl) (fun c c0 c1 => hz2 c (by omega)))
  · have hs2 : ¬ corH I J V s (cFO s e) (cLA s e) k := hs
    have hm2 : cM s < 75 := hm
    have hm := hQ z z2 (fun c c0 c1 c2 c3 c4 c5 => hz c c1 c4 c5) (hz (h + 4) (by omega) (by omega) (by omega)) hz2 h4
    unfold corT corA at hm
    rw [if_neg hs2, if_pos hm2, if_neg hs2, if_pos hm2] at hm
    exact hm hC2
theorem CvT_FI {S : SS} {zI zL : ZM} {h : Nat} {n : Int} {I J V : Int → Int} {s : CS} (hC : CvT S zI zL h n I J V s) {e v : Int} (h0 : 0 ≤ e) (h1 : e < cNE s) (hv : -1 ≤ v ∧ v < cM s) : CvT S (zput zI (h + 13) e v) zL h n I J V (sFI s e v) := by
  unfold CvT at hC
  obtain ⟨hcv, hT, hR, ⟨e8, hne, hed⟩, hP, hPR, hm75⟩ := hC
  refine ⟨hcv, FH_fr hT (fun c _ _ => zput_row (by omega)), hR, ⟨by rw [zput_row (by omega)]; exact e8, hne, fun e2 p0 p1 => ?_⟩, PsH_fr hP (zput_row (by omega)) (fun c _ _ => rfl), hPR, hm75⟩
  obtain ⟨⟨x1, x2, x3, x4⟩, x5, x6, x7, x8, x9, x10, x11, x12⟩ := hed e2 p0 p1
  refine ⟨⟨by rw [zput_row (by omega)]; exact x1, by rw [zput_row (by omega)]; exact x2, ?_, by rw [zput_row (by omega)]; exact x4⟩, x5, x6, x7, x8, ?_, ?_, x11, x12⟩
  · show zput zI (h + 13) e v (h + 13) e2 = updF (cFI s) e v e2
    unfold updF
    by_cases q : e2 = e
    · subst q; rw [if_pos rfl]; exact zput_at
    · rw [if_neg q, zput_off q]; exact x3
  · show -1 ≤ updF (cFI s) e v e2
    unfold updF; split <;> omega
  · show updF (cFI s) e v e2 < cM s
    unfold updF; split <;> omega
theorem CvT_LS {S : SS} {zI zL : ZM} {h : Nat} {n : Int} {I J V : Int → Int} {s : CS} (hC : CvT S zI zL h n I J V s) {e v : Int} (h0 : 0 ≤ e) (h1 : e < cNE s) (hv : -1 ≤ v ∧ v < cM s) : CvT S (zput zI (h + 14) e v) zL h n I J V (sLS s e v) := by
  unfold CvT at hC
  obtain ⟨hcv, hT, hR, ⟨e8, hne, hed⟩, hP, hPR, hm75⟩ := hC
  refine ⟨hcv, FH_fr hT (fun c _ _ => zput_row (by omega)), hR, ⟨by rw [zput_row (by omega)]; exact e8, hne, fun e2 p0 p1 => ?_⟩, PsH_fr hP (zput_row (by omega)) (fun c _ _ => rfl), hPR, hm75⟩
  obtain ⟨⟨x1, x2, x3, x4⟩, x5, x6, x7, x8, x9, x10, x11, x12⟩ := hed e2 p0 p1
  refine ⟨⟨by rw [zput_row (by omega)]; exact x1, by rw [zput_row (by omega)]; exact x2, by rw [zput_row (by omega)]; exact x3, ?_⟩, x5, x6, x7, x8, x9, x10, ?_, ?_⟩
  · show zput zI (h + 14) e v (h + 14) e2 = updF (cLS s) e v e2
    unfold updF
    by_cases q : e2 = e
    · subst q; rw [if_pos rfl]; exact zput_at
    · rw [if_neg q, zput_off q]; exact x4
  · show -1 ≤ updF (cLS s) e v e2
    unfold updF; split <;> omega
  · show updF (cLS s) e v e2 < cM s
    unfold updF; split <;> omega
theorem CvT_ad1 {S : SS} {zI zL : ZM} {h : Nat} {n : Int} {I J V : Int → Int} {s : CS} (hC : CvT S zI zL h n I J V s) {a b : Int} (ha : 0 ≤ a ∧ a < n) (hb : 0 ≤ b ∧ b < n) (hn : cNE s < 114) : CvT S (zput (zput (zput (zput (zput zI (h + 11) (cNE s) a) (h + 12) (cNE s) b) (h + 13) (cNE s) (-1)) (h + 14) (cNE s) (-1)) (h + 4) 8 (cNE s + 1)) zL h n I J V (ad1 s a b) := by
  unfold CvT at hC
  obtain ⟨hcv, hT, hR, ⟨e8, hne, hed⟩, hP, hPR, hm75⟩ := hC
  refine ⟨hcv, FH_fr hT (fun c _ _ => by rw [zput_row (by omega), zput_row (by omega), zput_row (by omega), zput_row (by omega), zput_row (by omega)]), hR, ⟨zput_at, ⟨by show 0 ≤ cNE s + 1; omega, by show cNE s + 1 ≤ 114; omega⟩, fun e2 p0 p1 => ?_⟩, PsH_fr hP (by rw [zput_row (by omega), zput_row (by omega), zput_row (by omega), zput_row (by omega), zput_row (by omega)]) (fun c _ _ => rfl), hPR, hm75⟩
  have p1' : e2 < cNE s + 1 := p1
  have hm0 : 0 ≤ cM s := hPR.1
  by_cases q : e2 = cNE s
  · subst q
    refine ⟨⟨?_, ?_, ?_, ?_⟩, ?_⟩
    · show _ = updF (cFO s) (cNE s) a (cNE s); unfold updF; rw [if_pos rfl, zput_row (by omega), zput_row (by omega), zput_row (by omega), zput_row (by omega)]; exact zput_at
    · show _ = updF (cLA s) (cNE s) b (cNE s); unfold updF; rw [if_pos rfl, zput_row (by omega), zput_row (by omega), zput_row (by omega)]; exact zput_at
    · show _ = updF (cFI s) (cNE s) (-1) (cNE s); unfold updF; rw [if_pos rfl, zput_row (by omega), zput_row (by omega)]; exact zput_at
    · show _ = updF (cLS s) (cNE s) (-1) (cNE s); unfold updF; rw [if_pos rfl, zput_row (by omega)]; exact zput_at
    · show 0 ≤ updF (cFO s) (cNE s) a (cNE s) ∧ updF (cFO s) (cNE s) a (cNE s) < n ∧ 0 ≤ updF (cLA s) (cNE s) b (cNE s) ∧ updF (cLA s) (cNE s) b (cNE s) < n ∧ -1 ≤ updF (cFI s) (cNE s) (-1) (cNE s) ∧ updF (cFI s) (cNE s) (-1) (cNE s) < cM s ∧ -1 ≤ updF (cLS s) (cNE s) (-1) (cNE s) ∧ updF (cLS s) (cNE s) (-1) (cNE s) < cM s
      unfold updF; rw [if_pos rfl, if_pos rfl, if_pos rfl]; omega
  · obtain ⟨⟨x1, x2, x3, x4⟩, x5, x6, x7, x8, x9, x10, x11, x12⟩ := hed e2 p0 (by omega)
    refine ⟨⟨?_, ?_, ?_, ?_⟩, ?_⟩
    · show _ = updF (cFO s) (cNE s) a e2; unfold updF; rw [if_neg q, zput_row (by omega), zput_row (by omega), zput_row (by omega), zput_row (by omega), zput_off q]; exact x1
    · show _ = updF (cLA s) (cNE s) b e2; unfold updF; rw [if_neg q, zput_row (by omega), zput_row (by omega), zput_row (by omega), zput_off q, zput_row (by omega)]; exact x2
    · show _ = updF (cFI s) (cNE s) (-1) e2; unfold updF; rw [if_neg q, zput_row (by omega), zput_row (by omega), zput_off q, zput_row (by omega), zput_row (by omega)]; exact x3
    · show _ = updF (cLS s) (cNE s) (-1) e2; unfold updF; rw [if_neg q, zput_row (by omega), zput_off q, zput_row (by omega), zput_row (by omega), zput_row (by omega)]; exact x4
    · show 0 ≤ updF (cFO s) (cNE s) a e2 ∧ updF (cFO s) (cNE s) a e2 < n ∧ 0 ≤ updF (cLA s) (cNE s) b e2 ∧ updF (cLA s) (cNE s) b e2 < n ∧ -1 ≤ updF (cFI s) (cNE s) (-1) e2 ∧ updF (cFI s) (cNE s) (-1) e2 < cM s ∧ -1 ≤ updF (cLS s) (cNE s) (-1) e2 ∧ updF (cLS s) (cNE s) (-1) e2 < cM s
      unfold updF; rw [if_neg q, if_neg q, if_neg q, if_neg q]; exact ⟨x5, x6, x7, x8, x9, x10, x11, x12⟩
end
section
/-! CURVES: an edge more; the drawing -/
theorem cor_k {I J V : Int → Int} {s : CS} {a b k : Int} : cNE (corT I J V s a b k) = cNE s ∧ cFO (corT I J V s a b k) = cFO s ∧ cLA (corT I J V s a b k) = cLA s := by
  unfold corT
  split
  · exact ⟨rfl, rfl, rfl⟩
  · split
    · exact ⟨rfl, rfl, rfl⟩
    · exact ⟨rfl, rfl, rfl⟩
theorem ad1_k {s : CS} {a b : Int} : cNE (ad1 s a b) = cNE s + 1 ∧ cFO (ad1 s a b) (cNE s) = a ∧ cLA (ad1 s a b) (cNE s) = b := by
  refine ⟨rfl, ?_, ?_⟩
  · show updF (cFO s) (cNE s) a (cNE s) = a; unfold updF; rw [if_pos rfl]
  · show updF (cLA s) (cNE s) b (cNE s) = b; unfold updF; rw [if_pos rfl]
theorem frI_t {h : Nat} {z z2 z3 : ZM} (h1 : frI h z2 z) (h2 : frI h z3 z2) : frI h z3 z := fun c c0 c1 c2 c3 c4 c5 => (h2 c c0 c1 c2 c3 c4 c5).trans (h1 c c0 c1 c2 c3 c4 c5)
theorem frL_t {h : Nat} {z z2 z3 : ZM} (h1 : frL h z2 z) (h2 : frL h z3 z2) : frL h z3 z := fun c hc => (h2 c hc).trans (h1 c hc)
set_option maxHeartbeats 4000000 in
theorem w_addEdge {X : PX} {d : Nat} {S : SS} {zI zL : ZM} {Q : PQ} {h : Nat} {n : Int} {I J V : Int → Int} {s : CS} (hC : CvT S zI zL h n I J V s) {a b l g : Int} (ha : 0 ≤ a ∧ a < n) (hb : 0 ≤ b ∧ b < n) (hab : I b ≠ I a ∨ J b ≠ J a) (hn : cNE s < 114) (hB : BH zL (h + 4) n I J V a b l g) (hmost : zI (h + 6) 4 = 75) (hQ : ∀ z z2, frI h z zI → frL h z2 zL → z (h + 6) 4 = 75 → CvT S z z2 h n I J V (addS I J V s a b l g) → Q none S z z2) : wpM X (d + 4) fCurve_addEdge [pR (h + 4), pI a, pI b] S zI zL Q := by
  have hCA := CvT_ad1 hC ha hb hn
  have hR0 : FR n I J V := hC.2.2.1
  obtain ⟨hcv, hT, hR, ⟨e8, hne, hed⟩, hP, hPR, hm75⟩ := hC
  obtain ⟨hobc, hform, hpt, hpts, ⟨hr11, hr12, hr13, hr14⟩, ⟨c0, c1, c2, c3⟩, c4, c5, c6, c7⟩ := hcv
  have l0 : inL 0 := by unfold inL; omega
  obtain ⟨hb1, hb2⟩ := hB
  have bl : l ≠ -1 → (-128 ≤ trE I J a b l ∧ trE I J a b l ≤ 128) ∧ -102400 ≤ rsE I J V a b l ∧ rsE I J V a b l ≤ 102400 := fun q => ⟨trE_b hR0 ha hb (by omega), rsE_b hR0 ha hb (by omega)⟩
  have bg : g ≠ -1 → (-128 ≤ trE I J a b g ∧ trE I J a b g ≤ 128) ∧ -102400 ≤ rsE I J V a b g ∧ rsE I J V a b g ≤ 102400 := fun q => ⟨trE_b hR0 ha hb (by omega), rsE_b hR0 ha hb (by omega)⟩
  have bz10 : inL (zL (h + 4) 10) := by unfold inL; omega
  have bz12 : inL (zL (h + 4) 12) := by unfold inL; omega
  have half : ∀ (z z2 : ZM) (s2 : CS), frI h z zI → frL h z2 zL → z (h + 6) 4 = 75 → CvT S z z2 h n I J V s2 → cNE s2 = cNE s + 1 → cFO s2 (cNE s) = a → cLA s2 (cNE s) = b → adG I J V s2 (cNE s) a b g = addS I J V s a b l g → Run X (d + 3) c_Curve_addEdge 45 [some (pR (h + 4)), some (pI a), some (pI b), some (pI (cNE s))] [] S z z2 0 0 Q := by
    intro z z2 s2 hz hz2 h4 hC2 hne2 hfo hla hs
    have el := hz2 (h + 4) (Or.inl (by omega))
    refine r_aload_n rfl rfl ?_
    refine r_getL rfl (by assumption) ?_
    rw [el]
    refine r_lconst rfl ?_
    refine r_l_eq rfl rfl bz12 l0 (fun h49 => ?_) (fun h49 => ?_)
    · skip
      refine r_ret rfl ?_
      unfold adG at hs; rw [if_pos (by omega)] at hs; exact hQ z z2 hz hz2 h4 (hs ▸ hC2)
    · skip
      refine r_aload_n rfl rfl ?_
      refine r_getR rfl (by assumption) (by assumption) ?_
      refine r_iload_n rfl rfl ?_
      refine r_aload_n rfl rfl ?_
      refine r_iload_n rfl rfl ?_
      refine r_aload_n rfl rfl ?_
      refine r_getL rfl (by assumption) ?_
      rw [el]
      refine r_aload_n rfl rfl ?_
      refine r_getL rfl (by assumption) ?_
      rw [el]
      have ng : g ≠ -1 := by omega
      have bg := bg ng
      have e11 : zL (h + 4) 11 = rsE I J V a b g := by omega
      have e12 : zL (h + 4) 12 = -(trE I J a b g) := by omega
      refine r_cV4 rfl hobc (Nat.le_of_ble_eq_true rfl) rfl rfl (w_cornerT hC2 hne.1 (by omega) (k := g) (by omega) (by rw [hfo, hla]; exact hab) (by rw [hfo, hla]; omega) (by rw [hfo, hla]; exact Or.inr ⟨e11, e12⟩) h4 (fun z3 z4 f1 f2 f3 f4 hC3 => ?_))
      rw [hfo, hla] at hC3 ⊢
      have hcb := corA_b (I := I) (J := J) (V := V) (s := s2) (a := a) (b := b) (k := g) hC2.2.2.2.2.2.1.1
      have hck := cor_k (I := I) (J := J) (V := V) (s := s2) (a := a) (b := b) (k := g)
      refine r_iast rfl (by assumption) (by omega) (by omega) ?_
      refine r_ret rfl ?_
      unfold adG at hs; rw [if_neg ng] at hs; exact hQ _ z4 (frI_t (frI_t hz f1) (fun c k0 k1 k2 k3 k4 k5 => zput_row (by omega))) (frL_t hz2 f3) (by rw [zput_row (by omega)]; exact f4) (hs ▸ CvT_LS hC3 hne.1 (by rw [hck.1]; omega) hcb)
  refine wp_in (C := c_Curve_addEdge) (ls := [some (pR (h + 4)), some (pI a), some (pI b), none]) rfl rfl rfl rfl rfl ?_
  refine r_aload_n rfl rfl ?_
  refine r_getI rfl (by assumption) ?_
  refine r_istore_n rfl (Nat.le_of_ble_eq_true rfl) ?_
  rw [e8]
  refine r_aload_n rfl rfl ?_
  refine r_getR rfl (by assumption) (by assumption) ?_
  refine r_iload_n rfl rfl ?_
  refine r_iload_n rfl rfl ?_
  refine r_iast rfl (by assumption) (by omega) (by omega) ?_
  refine r_aload_n rfl rfl ?_
  refine r_getR rfl (by assumption) (by assumption) ?_
  refine r_iload_n rfl rfl ?_
  refine r_iload_n rfl rfl ?_
  refine r_iast rfl (by assumption) (by omega) (by omega) ?_
  refine r_aload_n rfl rfl ?_
  refine r_getR rfl (by assumption) (by assumption) ?_
  refine r_iload_n rfl rfl ?_
  refine r_iconst rfl ?_
  refine r_iast rfl (by assumption) (by omega) (by omega) ?_
  refine r_aload_n rfl rfl ?_
  refine r_getR rfl (by assumption) (by assumption) ?_
  refine r_iload_n rfl rfl ?_
  refine r_iconst rfl ?_
  refine r_iast rfl (by assumption) (by omega) (by omega) ?_
  refine r_aload_n rfl rfl ?_
  refine r_dupR rfl ?_
  refine r_getI rfl (by assumption) ?_
  rw [show zput (zput (zput (zput zI (h + 11) (cNE s) a) (h + 12) (cNE s) b) (h + 13) (cNE s) (-1)) (h + 14) (cNE s) (-1) (h + 4) 8 = cNE s by rw [zput_row (by omega), zput_row (by omega), zput_row (by omega), zput_row (by omega)]; exact e8]
  refine r_iconst rfl ?_
  refine r_iadd rfl ?_
  refine r_putI rfl (by assumption) ?_
  obtain ⟨k1, k2, k3⟩ := ad1_k (s := s) (a := a) (b := b)
  have fA : frI h (zput (zput (zput (zput (zput zI (h + 11) (cNE s) a) (h + 12) (cNE s) b) (h + 13) (cNE s) (-1)) (h + 14) (cNE s) (-1)) (h + 4) 8 (cNE s + 1)) zI := fun c k0 k1 k2 k3 k4 k5 => by rw [zput_row k0, zput_row k5, zput_row k4, zput_row k3, zput_row k2]
  have h4A : zput (zput (zput (zput (zput zI (h + 11) (cNE s) a) (h + 12) (cNE s) b) (h + 13) (cNE s) (-1)) (h + 14) (cNE s) (-1)) (h + 4) 8 (cNE s + 1) (h + 6) 4 = 75 := by rw [zput_row (by omega), zput_row (by omega), zput_row (by omega), zput_row (by omega), zput_row (by omega)]; exact hmost
  have h4A4 := h4A
  refine r_aload_n rfl rfl ?_
  refine r_getL rfl (by assumption) ?_
  refine r_lconst rfl ?_
  refine r_l_eq rfl rfl bz10 l0 (fun h33 => ?_) (fun h33 => ?_)
  · skip
    exact half _ zL (ad1 s a b) fA (fun c hc => rfl) h4A hCA k1 k2 k3 (by unfold addS adF; rw [if_pos (by omega)])
  · skip
    refine r_aload_n rfl rfl ?_
    refine r_getR rfl (by assumption) (by assumption) ?_
    refine r_iload_n rfl rfl ?_
    refine r_aload_n rfl rfl ?_
    refine r_iload_n rfl rfl ?_
    refine r_aload_n rfl rfl ?_
    refine r_getL rfl (by assumption) ?_
    refine r_aload_n rfl rfl ?_
    refine r_getL rfl (by assumption) ?_
    have nl : l ≠ -1 := by omega
    have bl := bl nl
    have e9 : zL (h + 4) 9 = -(rsE I J V a b l) := by omega
    have e10 : zL (h + 4) 10 = trE I J a b l := by omega
    refine r_cV4 rfl hobc (Nat.le_of_ble_eq_true rfl) rfl rfl (w_cornerT hCA hne.1 (by rw [k1]; omega) (k := l) (by omega) (by rw [k2, k3]; exact hab) (by rw [k2, k3]; omega) (by rw [k2, k3]; exact Or.inl ⟨e9, e10⟩) h4A (fun z3 z4 f1 f2 f3 f4 hC3 => ?_))
    rw [k2, k3] at hC3 ⊢
    have hcb := corA_b (I := I) (J := J) (V := V) (s := ad1 s a b) (a := a) (b := b) (k := l) hPR.1
    have hck := cor_k (I := I) (J := J) (V := V) (s := ad1 s a b) (a := a) (b := b) (k := l)
    refine r_iast rfl (by assumption) (by omega) (by omega) ?_
    exact half _ z4 (sFI (corT I J V (ad1 s a b) a b l) (cNE s) (corA I J V (ad1 s a b) a b l)) (frI_t (frI_t fA f1) (fun c k0 k1 k2 k3 k4 k5 => zput_row (by omega))) f3 (by rw [zput_row (by omega)]; exact f4) (CvT_FI hC3 hne.1 (by rw [hck.1, k1]; omega) hcb) (hck.1.trans k1) (by show cFO (corT I J V (ad1 s a b) a b l) (cNE s) = a; rw [hck.2.1]; exact k2) (by show cLA (corT I J V (ad1 s a b) a b l) (cNE s) = b; rw [hck.2.2]; exact k3) (by unfold addS adF; rw [if_neg nl])
end
section
/-! CURVES: the drawing -/
def c00 : CS := mkC 0 (fun _ => 0) (fun _ => 0) (fun _ => 0) (fun _ => 0) 0 (fun _ => 0) (fun _ => 0) (fun _ => 0) (fun _ => 0)
def drwE (n : Int) (I J V : Int → Int) (s : CS) (a b : Int) : CS := if cNE s < 114 then (match stF n I J V a b with | none => s | some (l, g) => addS I J V s a b l g) else s
def drwJ (n : Int) (I J V : Int → Int) (a : Int) : Nat → Int → CS → CS
  | 0, _, s => s
  | f + 1, b, s => drwJ n I J V a f (b + 1) (drwE n I J V s a b)
def drwI (n : Int) (I J V : Int → Int) : Nat → Int → CS → CS
  | 0, _, s => s
  | f + 1, a, s => drwI n I J V f (a + 1) (drwJ n I J V a (n - (a + 1)).toNat (a + 1) s)
/-- THE CURVE of a form's terms -/
def drwS (n : Int) (I J V : Int → Int) : CS := drwI n I J V n.toNat 0 c00
theorem drwJ_s {n a b : Int} {I J V : Int → Int} {s : CS} (h : b < n) : drwJ n I J V a (n - b).toNat b s = drwJ n I J V a (n - (b + 1)).toNat (b + 1) (drwE n I J V s a b) := by rw [show (n - b).toNat = (n - (b + 1)).toNat + 1 by omega]; rfl
theorem drwJ_e {n a b : Int} {I J V : Int → Int} {s : CS} (h : n ≤ b) : drwJ n I J V a (n - b).toNat b s = s := by rw [show (n - b).toNat = 0 by omega]; rfl
theorem drwI_s {n a : Int} {I J V : Int → Int} {s : CS} (h : a < n) : drwI n I J V (n - a).toNat a s = drwI n I J V (n - (a + 1)).toNat (a + 1) (drwJ n I J V a (n - (a + 1)).toNat (a + 1) s) := by
  conv => lhs; rw [show (n - a).toNat = (n - (a + 1)).toNat + 1 by omega]
  rfl
theorem drwI_e {n a : Int} {I J V : Int → Int} {s : CS} (h : n ≤ a) : drwI n I J V (n - a).toNat a s = s := by rw [show (n - a).toNat = 0 by omega]; rfl
def frD (h : Nat) (z zL : ZM) : Prop := ∀ c, (c < h + 4 ∨ c = h + 6 ∨ h + 10 < c) → z c = zL c
theorem frD_t {h : Nat} {z z2 z3 : ZM} (h1 : frD h z2 z) (h2 : frD h z3 z2) : frD h z3 z := fun c hc => (h2 c hc).trans (h1 c hc)
theorem CvT_cell {S : SS} {zI zL zL' : ZM} {h : Nat} {n : Int} {I J V : Int → Int} {s : CS} (hC : CvT S zI zL h n I J V s) (hz : ∀ c, c ≠ h + 4 → zL' c = zL c) : CvT S zI zL' h n I J V s := CvH_fr hC (fun c _ _ => rfl) (fun c c0 c1 => hz c (by omega))
theorem loop_from (P : Int → Prop) (n lo : Int) (step : ∀ k, k ≤ n → (k < n → lo ≤ k + 1 → P (k + 1)) → lo ≤ k → P k) : ∀ k, k ≤ n → lo ≤ k → P k := by
  intro k hk hl
  obtain ⟨m, hm⟩ : ∃ m : Nat, n - k = m := ⟨(n - k).toNat, by omega⟩
  induction m generalizing k with
  | zero => exact step k hk (fun q => by omega) hl
  | succ m ih => exact step k hk (fun q q2 => ih (k + 1) (by omega) q2 (by omega)) hl
theorem CvH_z5 {S : SS} {zI zL : ZM} {h : Nat} {n : Int} {I J V : Int → Int} {s : CS} (hC : CvT S zI zL h n I J V s) : CvT S (zput zI h 5 1) zL h n I J V s := by
  unfold CvT CvH FH PsH at *
  rw [show zput zI h 5 1 h 4 = zI h 4 from zput_off (by decide), zput_row (show h + 1 ≠ h by omega), zput_row (show h + 2 ≠ h by omega), zput_row (show h + 3 ≠ h by omega), zput_row (show h + 4 ≠ h by omega), zput_row (show h + 6 ≠ h by omega), zput_row (show h + 11 ≠ h by omega), zput_row (show h + 12 ≠ h by omega), zput_row (show h + 13 ≠ h by omega), zput_row (show h + 14 ≠ h by omega)]
  exact hC
set_option maxHeartbeats 4000000 in
theorem w_draw {X : PX} {d : Nat} {S : SS} {zI zL : ZM} {Q : PQ} {h : Nat} {n : Int} {I J V : Int → Int} (hcv : isCurve S h) (hT : FH zI h n I J V) (hR : FR n I J V) (hS : FS n I J) (hmost : zI (h + 6) 4 = 75) (hQ : ∀ z z2, frI h z zI → frD h z2 zL → z (h + 6) 4 = 75 → CvT S (zput z h 5 1) z2 h n I J V (drwS n I J V) → Q none S (zput z h 5 1) z2) : wpM X (d + 5) fCurve_draw [pR (h + 4)] S zI zL Q := by
  have hcv0 := hcv
  obtain ⟨hobc, hform, hpt, hpts, ⟨hr11, hr12, hr13, hr14⟩, ⟨c0, c1, c2, c3⟩, c4, c5, c6, c7⟩ := hcv
  have hob6 := hpts.1
  have hR0 := hR
  have hT0 := hT
  obtain ⟨hob, ⟨hr1, hr2, hr3⟩, hf1, hf2, hf3⟩ := hform
  obtain ⟨hn0, hn40, hrg⟩ := hR
  have outer : ∀ a : Int, a ≤ n → 0 ≤ a → ∀ (z z2 : ZM) (s : CS), frI h z zI → frD h z2 zL → z (h + 6) 4 = 75 → CvT S z z2 h n I J V s → ∀ y : Option PV, drwI n I J V (n - a).toNat a s = drwS n I J V → Run X (d + 4) c_Curve_draw 9 [some (pR (h + 4)), some (pI a), y] [] S z z2 0 0 Q := by
    refine loop_up _ n (fun a hka ih h0 z z2 s hz hz2 h4 hC y hs => ?_)
    have e4 : z h 4 = n := hC.2.1.1
    have inner : ∀ b : Int, b ≤ n → a + 1 ≤ b → ∀ (z z2 : ZM) (s : CS), frI h z zI → frD h z2 zL → z (h + 6) 4 = 75 → CvT S z z2 h n I J V s → drwI n I J V (n - (a + 1)).toNat (a + 1) (drwJ n I J V a (n - b).toNat b s) = drwS n I J V → a < n → Run X (d + 4) c_Curve_draw 18 [some (pR (h + 4)), some (pI a), some (pI b)] [] S z z2 0 0 Q := by
      refine loop_from _ n (a + 1) (fun b hkb ihb h0b z z2 s hz hz2 h4 hC hs han => ?_)
      have e4 : z h 4 = n := hC.2.1.1
      have hTz : FH z h n I J V := hC.2.1
      have e8 : z (h + 4) 8 = cNE s := hC.2.2.2.1.1
      have hne := hC.2.2.2.1.2.1
      have nx : b < n → ∀ (z z2 : ZM), frI h z zI → frD h z2 zL → z (h + 6) 4 = 75 → CvT S z z2 h n I J V (drwE n I J V s a b) → Run X (d + 4) c_Curve_draw 36 [some (pR (h + 4)), some (pI a), some (pI b)] [] S z z2 0 0 Q := by
        intro hbn z z2 hz hz2 h4 hC
        rw [drwJ_s hbn] at hs
        refine r_iinc rfl rfl ?_
        refine r_goto rfl ?_
        exact ihb hbn (by omega) z z2 _ hz hz2 h4 hC hs han
      refine r_iload_n rfl rfl ?_
      refine r_aload_n rfl rfl ?_
      refine r_getR rfl (by assumption) (by assumption) ?_
      refine r_getI rfl (by assumption) ?_
      rw [e4]
      refine r_icmp_ge rfl (by unfold inI; omega) (by unfold inI; omega) (fun h22 => ?_) (fun h22 => ?_)
      · skip
        rw [drwJ_e (by omega)] at hs
        refine r_iinc rfl rfl ?_
        refine r_goto rfl ?_
        exact ih han (by omega) z z2 s hz hz2 h4 hC _ hs
      · skip
        refine r_aload_n rfl rfl ?_
        refine r_getI rfl (by assumption) ?_
        rw [e8]
        refine r_bipush rfl ?_
        refine r_icmp_ge rfl (by unfold inI; omega) (by unfold inI; omega) (fun h26 => ?_) (fun h26 => ?_)
        · skip
          exact nx (by omega) z z2 hz hz2 h4 (by unfold drwE; rw [if_neg (by omega)]; exact hC)
        · skip
          refine r_aload_n rfl rfl ?_
          refine r_iload_n rfl rfl ?_
          refine r_iload_n rfl rfl ?_
          have hbn : b < n := by omega
          have hlt := hS a b (by omega) (by omega) hbn
          have hab : I b ≠ I a ∨ J b ≠ J a := by unfold lexlt at hlt; omega
          refine r_cV3 rfl hobc (Nat.le_of_ble_eq_true rfl) rfl rfl (w_findStretch (d := d + 2) hcv0 hTz hR0 (a := a) (b := b) ⟨by omega, han⟩ ⟨by omega, hbn⟩ (fun hno z3 f3 => by
            refine r_if_eq rfl (by unfold inI; omega) (fun _ => ?_) (fun q => absurd rfl q)
            exact nx hbn z z3 hz (frD_t hz2 (fun c hc => f3 c (by omega))) h4 (by unfold drwE; rw [if_pos (by omega), hno]; exact CvT_cell hC f3)) (fun l g hsome z3 f3 hBH => ?_))
          refine r_if_eq rfl (by unfold inI; omega) (fun h31 => ?_) (fun h31 => ?_)
          · skip
            exact absurd h31 (by decide)
          · skip
            refine r_aload_n rfl rfl ?_
            refine r_iload_n rfl rfl ?_
            refine r_iload_n rfl rfl ?_
            refine r_cV3 rfl hobc (Nat.le_of_ble_eq_true rfl) rfl rfl (w_addEdge (d := d) (CvT_cell hC f3) (a := a) (b := b) (l := l) (g := g) ⟨by omega, han⟩ ⟨by omega, hbn⟩ hab (by omega) hBH h4 (fun z4 z5 f4 f5 f6 hC2 => ?_))
            exact nx hbn z4 z5 (frI_t hz f4) (frD_t hz2 (frD_t (fun c hc => f3 c (by omega)) (fun c hc => f5 c (by omega)))) f6 (by unfold drwE; rw [if_pos (by omega), hsome]; exact hC2)
    refine r_iload_n rfl rfl ?_
    refine r_aload_n rfl rfl ?_
    refine r_getR rfl (by assumption) (by assumption) ?_
    refine r_getI rfl (by assumption) ?_
    rw [e4]
    refine r_icmp_ge rfl (by unfold inI; omega) (by unfold inI; omega) (fun h13 => ?_) (fun h13 => ?_)
    · skip
      refine r_aload_n rfl rfl ?_
      refine r_getR rfl (by assumption) (by assumption) ?_
      refine r_iconst rfl ?_
      refine r_putZ rfl (by assumption) (by first | exact Or.inl rfl | exact Or.inr rfl) ?_
      refine r_ret rfl ?_
      rw [drwI_e (by omega)] at hs; exact hQ z z2 hz hz2 h4 (by rw [← hs]; exact CvH_z5 hC)
    · skip
      refine r_iload_n rfl rfl ?_
      refine r_iconst rfl ?_
      refine r_iadd rfl ?_
      refine r_istore_n rfl (Nat.le_of_ble_eq_true rfl) ?_
      rw [drwI_s (by omega)] at hs
      exact inner (a + 1) (by omega) (Int.le_refl _) z z2 s hz hz2 h4 hC hs (by omega)
  refine wp_in (C := c_Curve_draw) (ls := [some (pR (h + 4)), none, none]) rfl rfl rfl rfl rfl ?_
  refine r_aload_n rfl rfl ?_
  refine r_iconst rfl ?_
  refine r_putI rfl (by assumption) ?_
  refine r_aload_n rfl rfl ?_
  refine r_getR rfl (by assumption) (by assumption) ?_
  refine r_iconst rfl ?_
  refine r_putI rfl (by assumption) ?_
  refine r_iconst rfl ?_
  refine r_istore_n rfl (Nat.le_of_ble_eq_true rfl) ?_
  refine outer 0 hn0 (Int.le_refl _) _ zL c00 (fun c k0 k1 k2 k3 k4 k5 => by rw [zput_row k1, zput_row k0]) (fun c hc => rfl) ?_ ?_ none (by rw [Int.sub_zero]; rfl)
  · rw [zput_off (by decide), zput_row (by omega)]; exact hmost
  · refine ⟨hcv0, FH_fr hT0 (fun c k0 k1 => by rw [zput_row (by omega), zput_row (by omega)]), hR0, ⟨by rw [zput_row (by omega)]; exact zput_at, ⟨Int.le_refl _, by decide⟩, fun e p0 p1 => absurd p1 (by show ¬ e < 0; omega)⟩, ⟨zput_at, fun t p0 p1 => absurd p1 (by show ¬ t < 0; omega)⟩, ⟨Int.le_refl _, fun t p0 p1 => absurd p1 (by show ¬ t < 0; omega)⟩, by decide⟩
end
section
/-! CROSSINGS -/
def isCr (S : SS) : Prop := ob S 13 0 ∧ isPoints S 14 128 ∧ row S 12 19 128 ∧ (isPoint S 20 ∧ isPoint S 21 ∧ isPoint S 22) ∧ S.2 13 0 = some 14 ∧ S.2 13 1 = some 19 ∧ S.2 13 2 = some 20 ∧ S.2 13 3 = some 21 ∧ S.2 13 4 = some 22
theorem cmpA_b (p q x xd y yd x' xd' y' yd' : Int) : -1 ≤ cmpA p q x xd y yd x' xd' y' yd' ∧ cmpA p q x xd y yd x' xd' y' yd' ≤ 1 := by unfold cmpA; split <;> (try split) <;> omega
/-- whether a corner has two least terms of another form -/
def tchS (n2 : Int) (I2 J2 V2 : Int → Int) (m : Int) (X XD Y YD : Int → Int) : Int := if srch (fun k => decide (2 ≤ countS n2 I2 J2 V2 (X k) (XD k) (Y k) (YD k))) m.toNat 0 = -1 then 0 else 1
def bgnS (p q a b : Int) (X XD Y YD X2 XD2 Y2 YD2 : Int → Int) : Int := if a = -1 ∨ b = -1 then 1 else if cmpA p q (X a) (XD a) (Y a) (YD a) (X2 b) (XD2 b) (Y2 b) (YD2 b) < 0 then 1 else 0
def hldS (p q x xd y yd a b : Int) (X XD Y YD : Int → Int) : Int := if a ≠ -1 ∧ cmpA p q x xd y yd (X a) (XD a) (Y a) (YD a) < 0 then 0 else if b ≠ -1 ∧ 0 < cmpA p q x xd y yd (X b) (XD b) (Y b) (YD b) then 0 else 1
theorem hldS_b (p q x xd y yd a b : Int) (X XD Y YD : Int → Int) : hldS p q x xd y yd a b X XD Y YD = 0 ∨ hldS p q x xd y yd a b X XD Y YD = 1 := by unfold hldS; split; exact Or.inl rfl; split; exact Or.inl rfl; exact Or.inr rfl
theorem bgnS_b (p q a b : Int) (X XD Y YD X2 XD2 Y2 YD2 : Int → Int) : bgnS p q a b X XD Y YD X2 XD2 Y2 YD2 = 0 ∨ bgnS p q a b X XD Y YD X2 XD2 Y2 YD2 = 1 := by unfold bgnS; split; exact Or.inr rfl; split; exact Or.inr rfl; exact Or.inl rfl
theorem ph_put {z : ZM} {p : Nat} {x xd y yd : Int} : PH (zput (zput (zput (zput z p 0 x) p 1 xd) p 2 y) p 3 yd) p x xd y yd := by
  unfold PH zput; simp (disch := omega) only [if_pos, if_neg, ↓reduceIte, true_and, and_true, true_or, or_true, and_self]
theorem w_touches {X : PX} {d : Nat} {S : SS} {zI zL : ZM} {Q : PQ} (hX : isCr S) {h : Nat} {n : Int} {I J V : Int → Int} {ne : Int} {fo la fi ls : Int → Int} {m : Int} {X0 XD Y YD : Int → Int} (hC : CvH S zI zL h n I J V ne fo la fi ls m X0 XD Y YD) {h2 : Nat} {n2 : Int} {I2 J2 V2 : Int → Int} (hF2 : isForm S h2) (hT2 : FH zI h2 n2 I2 J2 V2) (hR2 : FR n2 I2 J2 V2) (h26 : 26 ≤ h) (hQ : ∀ z2, (∀ c, c ≠ 20 → z2 c = zL c) → Q (some (pI (tchS n2 I2 J2 V2 m X0 XD Y YD))) S zI z2) : wpM X (d + 5) fCrossing_touches [pR 13, pR (h + 4), pR h2] S zI zL Q := by
  obtain ⟨xob, xps, xr19, ⟨xp0, xp1, xp2⟩, x0, x1, x2, x3, x4⟩ := hX
  have hC0 := hC
  obtain ⟨hcv, hT, hR, ⟨e8, ⟨hne0, hne1⟩, hed⟩, hP, hPR, hm75⟩ := hC
  obtain ⟨hobc, hform, hpt, hpts, ⟨hr11, hr12, hr13, hr14⟩, ⟨c0, c1, c2, c3⟩, c4, c5, c6, c7⟩ := hcv
  have hform0 := hform
  have hT0 := hT
  have hR0 := hR
  obtain ⟨hob, ⟨hr1, hr2, hr3⟩, hf1, hf2, hf3⟩ := hform
  obtain ⟨e4, hel⟩ := hT
  obtain ⟨hn0, hn40, hrg⟩ := hR
  have hob6 := hpts.1
  have hob2 := hF2.1
  have hm0 := hPR.1
  have e5 := hP.1
  have key : ∀ k : Int, k ≤ m → 0 ≤ k → ∀ z2 : ZM, (∀ c, c ≠ 20 → z2 c = zL c) → srch (fun k => decide (2 ≤ countS n2 I2 J2 V2 (X0 k) (XD k) (Y k) (YD k))) (m - k).toNat k = srch (fun k => decide (2 ≤ countS n2 I2 J2 V2 (X0 k) (XD k) (Y k) (YD k))) m.toNat 0 → Run X (d + 4) c_Crossing_touches 2 [some (pR 13), some (pR (h + 4)), some (pR h2), some (pI k)] [] S zI z2 0 0 Q := by
    refine loop_up _ m (fun k hk ih h0 z2 hz2 hs => ?_)
    have hP2 : PsH zI z2 (h + 6) m X0 XD Y YD := PsH_fr hP rfl (fun c k0 k1 => hz2 c (by omega))
    have hcb := cnt_b (fun t => decide (wv (I2 t) (J2 t) (V2 t) (X0 k) (XD k) (Y k) (YD k) = leastS n2 I2 J2 V2 (X0 k) (XD k) (Y k) (YD k))) n2.toNat 0
    have hn2 := hR2.2.1
    have hcb2 : 0 ≤ countS n2 I2 J2 V2 (X0 k) (XD k) (Y k) (YD k) ∧ countS n2 I2 J2 V2 (X0 k) (XD k) (Y k) (YD k) ≤ 40 := by unfold countS; omega
    refine r_iload_n rfl rfl ?_
    refine r_aload_n rfl rfl ?_
    refine r_getR rfl (by assumption) (by assumption) ?_
    refine r_getI rfl hob6 ?_
    rw [e5]
    refine r_icmp_ge rfl (by unfold inI; omega) (by unfold inI; omega) (fun h6 => ?_) (fun h6 => ?_)
    · skip
      refine r_iconst rfl ?_
      refine r_zret rfl (by first | exact Or.inl rfl | exact Or.inr rfl) ?_
      rw [srch_end (by omega)] at hs; unfold tchS at hQ; rw [if_pos hs.symm] at hQ; exact hQ _ hz2
    · skip
      refine r_aload_n rfl rfl ?_
      refine r_getR rfl (by assumption) (by assumption) ?_
      refine r_iload_n rfl rfl ?_
      refine r_aload_n rfl rfl ?_
      refine r_getR rfl (by assumption) (by assumption) ?_
      refine r_cV3 rfl hob6 (Nat.le_of_ble_eq_true rfl) rfl rfl (w_fetch hpts hP2 hPR hm75 xp0 (Or.inl (by omega)) h0 (by omega) ?_)
      refine r_aload_n rfl rfl ?_
      refine r_aload_n rfl rfl ?_
      refine r_getR rfl (by assumption) (by assumption) ?_
      refine r_cV2 rfl hob2 (Nat.le_of_ble_eq_true rfl) rfl rfl (w_countLeast hF2 hT2 hR2 xp0 ph_put (hPR.2 k h0 (by omega)) ?_)
      refine r_iconst rfl ?_
      refine r_icmp_lt rfl (by unfold inI; omega) (by unfold inI; omega) (fun h18 => ?_) (fun h18 => ?_)
      · skip
        refine r_iinc rfl rfl ?_
        refine r_goto rfl ?_
        exact ih (by omega) (by omega) _ (fun c hc => by rw [zput_row hc, zput_row hc, zput_row hc, zput_row hc]; exact hz2 c hc) (by rw [← srch_miss (by omega) (decide_eq_false (by omega))]; exact hs)
      · skip
        refine r_iconst rfl ?_
        refine r_zret rfl (by first | exact Or.inl rfl | exact Or.inr rfl) ?_
        rw [srch_hit (by omega) (decide_eq_true (by omega))] at hs; unfold tchS at hQ; rw [if_neg (by omega)] at hQ; exact hQ _ (fun c hc => by rw [zput_row hc, zput_row hc, zput_row hc, zput_row hc]; exact hz2 c hc)
  refine wp_in (C := c_Crossing_touches) (ls := [some (pR 13), some (pR (h + 4)), some (pR h2), none]) rfl rfl rfl rfl rfl ?_
  refine r_iconst rfl ?_
  refine r_istore_n rfl (Nat.le_of_ble_eq_true rfl) ?_
  exact key 0 hm0 (Int.le_refl _) zL (fun c _ => rfl) (by rw [Int.sub_zero])
theorem w_beginsBefore {X : PX} {d : Nat} {S : SS} {zI zL : ZM} {Q : PQ} (hX : isCr S) {h : Nat} {n : Int} {I J V : Int → Int} {ne : Int} {fo la fi ls : Int → Int} {m : Int} {X0 XD Y YD : Int → Int} (hC : CvH S zI zL h n I J V ne fo la fi ls m X0 XD Y YD) {h2 : Nat} {n2 : Int} {I2 J2 V2 : Int → Int} {ne2 : Int} {fo2 la2 fi2 ls2 : Int → Int} {m2 : Int} {X2 XD2 Y2 YD2 : Int → Int} (hD : CvH S zI zL h2 n2 I2 J2 V2 ne2 fo2 la2 fi2 ls2 m2 X2 XD2 Y2 YD2) {e : Int} (h0 : 0 ≤ e) (h1 : e < ne) {f : Int} (f0 : 0 ≤ f) (f1 : f < ne2) (h26 : 26 ≤ h) (h262 : 26 ≤ h2) (hQ : ∀ z2, (∀ c, c ≠ 21 → c ≠ 22 → z2 c = zL c) → Q (some (pI (bgnS (I (la e) - I (fo e)) (J (la e) - J (fo e)) (fi e) (ls2 f) X0 XD Y YD X2 XD2 Y2 YD2))) S zI z2) : wpM X (d + 3) fCrossing_beginsBefore [pR 13, pR (h + 4), pI e, pR (h2 + 4), pI f] S zI zL Q := by
  obtain ⟨xob, xps, xr19, ⟨xp0, xp1, xp2⟩, x0, x1, x2, x3, x4⟩ := hX
  have hC0 := hC
  obtain ⟨hcv, hT, hR, ⟨e8, ⟨hne0, hne1⟩, hed⟩, hP, hPR, hm75⟩ := hC
  obtain ⟨hobc, hform, hpt, hpts, ⟨hr11, hr12, hr13, hr14⟩, ⟨c0, c1, c2, c3⟩, c4, c5, c6, c7⟩ := hcv
  have hform0 := hform
  have hT0 := hT
  have hR0 := hR
  obtain ⟨hob, ⟨hr1, hr2, hr3⟩, hf1, hf2, hf3⟩ := hform
  obtain ⟨e4, hel⟩ := hT
  obtain ⟨hn0, hn40, hrg⟩ := hR
  obtain ⟨⟨q1, q2, q3, q4⟩, q5, q6, q7, q8, q9, q10, q11, q12⟩ := hed e h0 h1
  obtain ⟨a1, a2, a3⟩ := hel (fo e) q5 q6
  obtain ⟨b1, b2, b3⟩ := hel (la e) q7 q8
  have ra := hrg (fo e) q5 q6
  have rb := hrg (la e) q7 q8
  obtain ⟨hcv2, hT2, hR2, ⟨-, ⟨-, hne2⟩, hed2⟩, hP2, hPR2, hm752⟩ := hD
  obtain ⟨hobc2, -, -, hpts2, ⟨-, -, -, gr14⟩, ⟨d0, -, -, d3⟩, -, -, -, d7⟩ := hcv2
  obtain ⟨⟨-, -, -, y4⟩, -, -, -, -, -, -, y11, y12⟩ := hed2 f f0 f1
  have hob6 := hpts.1
  have hob62 := hpts2.1
  have hcb := cmpA_b (I (la e) - I (fo e)) (J (la e) - J (fo e)) (X0 (fi e)) (XD (fi e)) (Y (fi e)) (YD (fi e)) (X2 (ls2 f)) (XD2 (ls2 f)) (Y2 (ls2 f)) (YD2 (ls2 f))
  have hPf : ∀ z : ZM, (∀ c, c ≠ 21 → z c = zL c) → PsH zI z (h2 + 6) m2 X2 XD2 Y2 YD2 := fun z hz => PsH_fr hP2 rfl (fun c k0 k1 => hz c (by omega))
  have hCf : ∀ z : ZM, (∀ c, c ≠ 21 → c ≠ 22 → z c = zL c) → CvH S zI z h n I J V ne fo la fi ls m X0 XD Y YD := fun z hz => CvH_fr hC0 (fun c _ _ => rfl) (fun c k0 k1 => hz c (by omega) (by omega))
  refine wp_in (C := c_Crossing_beginsBefore) (ls := [some (pR 13), some (pR (h + 4)), some (pI e), some (pR (h2 + 4)), some (pI f)]) rfl rfl rfl rfl rfl ?_
  refine r_aload_n rfl rfl ?_
  refine r_getR rfl hobc (by assumption) ?_
  refine r_iload_n rfl rfl ?_
  refine r_iald rfl hr13 (by omega) (by omega) ?_
  rw [q3]
  refine r_iconst rfl ?_
  refine r_icmp_eq rfl (by unfold inI; omega) (by unfold inI; omega) (fun h5 => ?_) (fun h5 => ?_)
  · skip
    refine r_iconst rfl ?_
    refine r_zret rfl (by first | exact Or.inl rfl | exact Or.inr rfl) ?_
    unfold bgnS at hQ; rw [if_pos (Or.inl (by omega))] at hQ; exact hQ _ (fun c _ _ => rfl)
  · skip
    refine r_aload_n rfl rfl ?_
    refine r_getR rfl hobc2 (by assumption) ?_
    refine r_iload rfl rfl ?_
    refine r_iald rfl gr14 (by omega) (by omega) ?_
    rw [y4]
    refine r_iconst rfl ?_
    refine r_icmp_ne rfl (by unfold inI; omega) (by unfold inI; omega) (fun h11 => ?_) (fun h11 => ?_)
    · skip
      refine r_aload_n rfl rfl ?_
      refine r_getR rfl hobc (by assumption) ?_
      refine r_aload_n rfl rfl ?_
      refine r_getR rfl hobc (by assumption) ?_
      refine r_iload_n rfl rfl ?_
      refine r_iald rfl hr13 (by omega) (by omega) ?_
      rw [q3]
      refine r_aload_n rfl rfl ?_
      refine r_getR rfl (by assumption) (by assumption) ?_
      refine r_cV3 rfl hob6 (Nat.le_of_ble_eq_true rfl) rfl rfl (w_fetch hpts hP hPR hm75 xp1 (Or.inl (by omega)) (by omega) q10 ?_)
      have fr1 : ∀ c, c ≠ 21 → zput (zput (zput (zput zL 21 0 (X0 (fi e))) 21 1 (XD (fi e))) 21 2 (Y (fi e))) 21 3 (YD (fi e)) c = zL c := fun c hc => by rw [zput_row hc, zput_row hc, zput_row hc, zput_row hc]
      refine r_aload_n rfl rfl ?_
      refine r_getR rfl hobc2 (by assumption) ?_
      refine r_aload_n rfl rfl ?_
      refine r_getR rfl hobc2 (by assumption) ?_
      refine r_iload rfl rfl ?_
      refine r_iald rfl gr14 (by omega) (by omega) ?_
      rw [y4]
      refine r_aload_n rfl rfl ?_
      refine r_getR rfl (by assumption) (by assumption) ?_
      refine r_cV3 rfl hob62 (Nat.le_of_ble_eq_true rfl) rfl rfl (w_fetch hpts2 (hPf _ fr1) hPR2 hm752 xp2 (Or.inl (by omega)) (by omega) y12 ?_)
      have fr2 : ∀ c, c ≠ 21 → c ≠ 22 → zput (zput (zput (zput (zput (zput (zput (zput zL 21 0 (X0 (fi e))) 21 1 (XD (fi e))) 21 2 (Y (fi e))) 21 3 (YD (fi e))) 22 0 (X2 (ls2 f))) 22 1 (XD2 (ls2 f))) 22 2 (Y2 (ls2 f))) 22 3 (YD2 (ls2 f)) c = zL c := fun c hc hc2 => by rw [zput_row hc2, zput_row hc2, zput_row hc2, zput_row hc2]; exact fr1 c hc
      refine r_aload_n rfl rfl ?_
      refine r_getR rfl (by assumption) (by assumption) ?_
      refine r_aload_n rfl rfl ?_
      refine r_getR rfl (by assumption) (by assumption) ?_
      refine r_aload_n rfl rfl ?_
      refine r_iload_n rfl rfl ?_
      refine r_cV2 rfl hobc (Nat.le_of_ble_eq_true rfl) rfl rfl (w_acrossI (hCf _ fr2) h0 h1 ?_)
      refine r_aload_n rfl rfl ?_
      refine r_iload_n rfl rfl ?_
      refine r_cV2 rfl hobc (Nat.le_of_ble_eq_true rfl) rfl rfl (w_acrossJ (hCf _ fr2) h0 h1 ?_)
      refine r_cV4 rfl xp1 (Nat.le_of_ble_eq_true rfl) rfl rfl (w_cmpAlong xp1 (by unfold PH; rw [zput_row (by decide), zput_row (by decide), zput_row (by decide), zput_row (by decide)]; exact ph_put) xp2 ph_put (hPR.2 _ (by omega) q10) (hPR2.2 _ (by omega) y12) (by omega) (by omega) ?_)
      refine r_if_ge rfl (by unfold inI; omega) (fun h43 => ?_) (fun h43 => ?_)
      · skip
        refine r_iconst rfl ?_
        refine r_zret rfl (by first | exact Or.inl rfl | exact Or.inr rfl) ?_
        unfold bgnS at hQ; rw [if_neg (by omega), if_neg (by omega)] at hQ; exact hQ _ fr2
      · skip
        refine r_iconst rfl ?_
        refine r_goto rfl ?_
        refine r_zret rfl (by first | exact Or.inl rfl | exact Or.inr rfl) ?_
        unfold bgnS at hQ; rw [if_neg (by omega), if_pos (by omega)] at hQ; exact hQ _ fr2
    · skip
      refine r_iconst rfl ?_
      refine r_zret rfl (by first | exact Or.inl rfl | exact Or.inr rfl) ?_
      unfold bgnS at hQ; rw [if_pos (Or.inr (by omega))] at hQ; exact hQ _ (fun c _ _ => rfl)
theorem w_overlap {X : PX} {d : Nat} {S : SS} {zI zL : ZM} {Q : PQ} (hX : isCr S) {h : Nat} {n : Int} {I J V : Int → Int} {ne : Int} {fo la fi ls : Int → Int} {m : Int} {X0 XD Y YD : Int → Int} (hC : CvH S zI zL h n I J V ne fo la fi ls m X0 XD Y YD) {h2 : Nat} {n2 : Int} {I2 J2 V2 : Int → Int} {ne2 : Int} {fo2 la2 fi2 ls2 : Int → Int} {m2 : Int} {X2 XD2 Y2 YD2 : Int → Int} (hD : CvH S zI zL h2 n2 I2 J2 V2 ne2 fo2 la2 fi2 ls2 m2 X2 XD2 Y2 YD2) {e : Int} (h0 : 0 ≤ e) (h1 : e < ne) {f : Int} (f0 : 0 ≤ f) (f1 : f < ne2) (h26 : 26 ≤ h) (h262 : 26 ≤ h2) (hQ : ∀ z2, (∀ c, c ≠ 21 → c ≠ 22 → z2 c = zL c) → Q (some (pI (if bgnS (I (la e) - I (fo e)) (J (la e) - J (fo e)) (fi e) (ls2 f) X0 XD Y YD X2 XD2 Y2 YD2 = 1 ∧ bgnS (I2 (la2 f) - I2 (fo2 f)) (J2 (la2 f) - J2 (fo2 f)) (fi2 f) (ls e) X2 XD2 Y2 YD2 X0 XD Y YD = 1 then 1 else 0))) S zI z2) : wpM X (d + 4) fCrossing_overlap [pR 13, pR (h + 4), pI e, pR (h2 + 4), pI f] S zI zL Q := by
  have xob := hX.1
  have b1 := bgnS_b (I (la e) - I (fo e)) (J (la e) - J (fo e)) (fi e) (ls2 f) X0 XD Y YD X2 XD2 Y2 YD2
  have b2 := bgnS_b (I2 (la2 f) - I2 (fo2 f)) (J2 (la2 f) - J2 (fo2 f)) (fi2 f) (ls e) X2 XD2 Y2 YD2 X0 XD Y YD
  refine wp_in (C := c_Crossing_overlap) (ls := [some (pR 13), some (pR (h + 4)), some (pI e), some (pR (h2 + 4)), some (pI f)]) rfl rfl rfl rfl rfl ?_
  refine r_aload_n rfl rfl ?_
  refine r_aload_n rfl rfl ?_
  refine r_iload_n rfl rfl ?_
  refine r_aload_n rfl rfl ?_
  refine r_iload rfl rfl ?_
  refine r_cV5 rfl xob (Nat.le_of_ble_eq_true rfl) rfl rfl (w_beginsBefore hX hC hD h0 h1 f0 f1 h26 h262 (fun z3 f3 => ?_))
  refine r_if_eq rfl (by unfold inI; omega) (fun h6 => ?_) (fun h6 => ?_)
  · skip
    refine r_iconst rfl ?_
    refine r_zret rfl (by first | exact Or.inl rfl | exact Or.inr rfl) ?_
    rw [if_neg (fun q => by have := q.1; omega)] at hQ; exact hQ _ f3
  · skip
    refine r_aload_n rfl rfl ?_
    refine r_aload_n rfl rfl ?_
    refine r_iload rfl rfl ?_
    refine r_aload_n rfl rfl ?_
    refine r_iload_n rfl rfl ?_
    refine r_cV5 rfl xob (Nat.le_of_ble_eq_true rfl) rfl rfl (w_beginsBefore hX (CvH_fr hD (fun c _ _ => rfl) (fun c k0 k1 => f3 c (by omega) (by omega))) (CvH_fr hC (fun c _ _ => rfl) (fun c k0 k1 => f3 c (by omega) (by omega))) f0 f1 h0 h1 h262 h26 (fun z4 f4 => ?_))
    refine r_if_eq rfl (by unfold inI; omega) (fun h13 => ?_) (fun h13 => ?_)
    · skip
      refine r_iconst rfl ?_
      refine r_zret rfl (by first | exact Or.inl rfl | exact Or.inr rfl) ?_
      rw [if_neg (fun q => by have := q.2; omega)] at hQ; exact hQ _ (fun c k0 k1 => (f4 c k0 k1).trans (f3 c k0 k1))
    · skip
      refine r_iconst rfl ?_
      refine r_goto rfl ?_
      refine r_zret rfl (by first | exact Or.inl rfl | exact Or.inr rfl) ?_
      rw [if_pos ⟨by omega, by omega⟩] at hQ; exact hQ _ (fun c k0 k1 => (f4 c k0 k1).trans (f3 c k0 k1))
end
