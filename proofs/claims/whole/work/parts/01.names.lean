-- ===== PART A: goes FIRST, ahead of the names: the tables' words, and 'selects' of the private methods out of them =====
/-- a private method of a class that the tables say can be made, by its rows of tables_1 -/
def lw_okq (q : MethodName × Nat) : Prop := (q.1.cls ≠ "java/lang/invoke/MethodHandle" ∧ q.1.cls ≠ "java/lang/invoke/VarHandle") ∧ Cond.instantiable q.1.cls q.2 ∈ tables_1 ∧ Cond.privateMethod q.1 ∈ tables_1 ∧ Cond.instanceMethod q.1 ∈ tables_1
theorem lw_p0 : lw_okq (⟨"CubeClosures$Clauses", "doClause", "()Z"⟩, 4) := ⟨⟨by decide +kernel, by decide +kernel⟩, List.mem_of_getElem? (i := 28) (by decide +kernel), List.mem_of_getElem? (i := 296) (by decide +kernel), List.mem_of_getElem? (i := 297) (by decide +kernel)⟩
theorem lw_p1 : lw_okq (⟨"CubeClosures$Clauses", "doTable", "()Z"⟩, 4) := ⟨⟨by decide +kernel, by decide +kernel⟩, List.mem_of_getElem? (i := 28) (by decide +kernel), List.mem_of_getElem? (i := 353) (by decide +kernel), List.mem_of_getElem? (i := 354) (by decide +kernel)⟩
theorem lw_p2 : lw_okq (⟨"CubeClosures$Clauses", "doSupport", "()Z"⟩, 4) := ⟨⟨by decide +kernel, by decide +kernel⟩, List.mem_of_getElem? (i := 28) (by decide +kernel), List.mem_of_getElem? (i := 370) (by decide +kernel), List.mem_of_getElem? (i := 371) (by decide +kernel)⟩
theorem lw_p3 : lw_okq (⟨"CubeClosures$Clauses", "doRow", "()Z"⟩, 4) := ⟨⟨by decide +kernel, by decide +kernel⟩, List.mem_of_getElem? (i := 28) (by decide +kernel), List.mem_of_getElem? (i := 375) (by decide +kernel), List.mem_of_getElem? (i := 376) (by decide +kernel)⟩
theorem lw_p4 : lw_okq (⟨"CubeClosures$Table", "hasFigures", "(II)Z"⟩, 6) := ⟨⟨by decide +kernel, by decide +kernel⟩, List.mem_of_getElem? (i := 56) (by decide +kernel), List.mem_of_getElem? (i := 399) (by decide +kernel), List.mem_of_getElem? (i := 400) (by decide +kernel)⟩
theorem lw_p5 : lw_okq (⟨"CubeClosures", "freshCells", "()LCubeClosures$Cells;"⟩, 10) := ⟨⟨by decide +kernel, by decide +kernel⟩, List.mem_of_getElem? (i := 20) (by decide +kernel), List.mem_of_getElem? (i := 458) (by decide +kernel), List.mem_of_getElem? (i := 459) (by decide +kernel)⟩
theorem lw_p6 : lw_okq (⟨"CubeClosures$Cells", "findHaving", "()V"⟩, 12) := ⟨⟨by decide +kernel, by decide +kernel⟩, List.mem_of_getElem? (i := 113) (by decide +kernel), List.mem_of_getElem? (i := 466) (by decide +kernel), List.mem_of_getElem? (i := 467) (by decide +kernel)⟩
theorem lw_p7 : lw_okq (⟨"CubeClosures$Cells", "spreadBy", "(I)V"⟩, 12) := ⟨⟨by decide +kernel, by decide +kernel⟩, List.mem_of_getElem? (i := 113) (by decide +kernel), List.mem_of_getElem? (i := 470) (by decide +kernel), List.mem_of_getElem? (i := 471) (by decide +kernel)⟩
theorem lw_p8 : lw_okq (⟨"CubeClosures$Cells", "havingFigure", "(II)J"⟩, 12) := ⟨⟨by decide +kernel, by decide +kernel⟩, List.mem_of_getElem? (i := 113) (by decide +kernel), List.mem_of_getElem? (i := 474) (by decide +kernel), List.mem_of_getElem? (i := 475) (by decide +kernel)⟩
theorem lw_p9 : lw_okq (⟨"CubeClosures$Cells", "tally", "()V"⟩, 12) := ⟨⟨by decide +kernel, by decide +kernel⟩, List.mem_of_getElem? (i := 113) (by decide +kernel), List.mem_of_getElem? (i := 478) (by decide +kernel), List.mem_of_getElem? (i := 479) (by decide +kernel)⟩
theorem lw_p10 : lw_okq (⟨"CubeClosures$Cells", "sharedWith", "(IJ)I"⟩, 12) := ⟨⟨by decide +kernel, by decide +kernel⟩, List.mem_of_getElem? (i := 113) (by decide +kernel), List.mem_of_getElem? (i := 494) (by decide +kernel), List.mem_of_getElem? (i := 495) (by decide +kernel)⟩
theorem lw_p11 : lw_okq (⟨"CubeClosures$Cells", "dimensionsOf", "(I)I"⟩, 12) := ⟨⟨by decide +kernel, by decide +kernel⟩, List.mem_of_getElem? (i := 113) (by decide +kernel), List.mem_of_getElem? (i := 499) (by decide +kernel), List.mem_of_getElem? (i := 500) (by decide +kernel)⟩
theorem lw_p12 : lw_okq (⟨"CubeClosures$Cells", "within", "(II)I"⟩, 12) := ⟨⟨by decide +kernel, by decide +kernel⟩, List.mem_of_getElem? (i := 113) (by decide +kernel), List.mem_of_getElem? (i := 595) (by decide +kernel), List.mem_of_getElem? (i := 596) (by decide +kernel)⟩
theorem lw_p13 : lw_okq (⟨"CubeClosures$Cells", "isInCube", "(IJ)Z"⟩, 12) := ⟨⟨by decide +kernel, by decide +kernel⟩, List.mem_of_getElem? (i := 113) (by decide +kernel), List.mem_of_getElem? (i := 600) (by decide +kernel), List.mem_of_getElem? (i := 601) (by decide +kernel)⟩
theorem lw_p14 : lw_okq (⟨"CubeClosuresModel", "reads", "(Z)Z"⟩, 30) := ⟨⟨by decide +kernel, by decide +kernel⟩, List.mem_of_getElem? (i := 731) (by decide +kernel), List.mem_of_getElem? (i := 844) (by decide +kernel), List.mem_of_getElem? (i := 845) (by decide +kernel)⟩
theorem lw_p15 : lw_okq (⟨"CubeClosuresModel", "nextToken", "()V"⟩, 30) := ⟨⟨by decide +kernel, by decide +kernel⟩, List.mem_of_getElem? (i := 731) (by decide +kernel), List.mem_of_getElem? (i := 848) (by decide +kernel), List.mem_of_getElem? (i := 849) (by decide +kernel)⟩
def lw_privs_1 : List (MethodName × Nat) := [(⟨"CubeClosures$Clauses", "doClause", "()Z"⟩, 4), (⟨"CubeClosures$Clauses", "doTable", "()Z"⟩, 4), (⟨"CubeClosures$Clauses", "doSupport", "()Z"⟩, 4), (⟨"CubeClosures$Clauses", "doRow", "()Z"⟩, 4), (⟨"CubeClosures$Table", "hasFigures", "(II)Z"⟩, 6), (⟨"CubeClosures", "freshCells", "()LCubeClosures$Cells;"⟩, 10), (⟨"CubeClosures$Cells", "findHaving", "()V"⟩, 12), (⟨"CubeClosures$Cells", "spreadBy", "(I)V"⟩, 12), (⟨"CubeClosures$Cells", "havingFigure", "(II)J"⟩, 12), (⟨"CubeClosures$Cells", "tally", "()V"⟩, 12), (⟨"CubeClosures$Cells", "sharedWith", "(IJ)I"⟩, 12), (⟨"CubeClosures$Cells", "dimensionsOf", "(I)I"⟩, 12), (⟨"CubeClosures$Cells", "within", "(II)I"⟩, 12), (⟨"CubeClosures$Cells", "isInCube", "(IJ)Z"⟩, 12), (⟨"CubeClosuresModel", "reads", "(Z)Z"⟩, 30), (⟨"CubeClosuresModel", "nextToken", "()V"⟩, 30)]
theorem lw_r1 : ∀ q ∈ lw_privs_1, lw_okq q := List.forall_mem_cons.mpr ⟨lw_p0, List.forall_mem_cons.mpr ⟨lw_p1, List.forall_mem_cons.mpr ⟨lw_p2, List.forall_mem_cons.mpr ⟨lw_p3, List.forall_mem_cons.mpr ⟨lw_p4, List.forall_mem_cons.mpr ⟨lw_p5, List.forall_mem_cons.mpr ⟨lw_p6, List.forall_mem_cons.mpr ⟨lw_p7, List.forall_mem_cons.mpr ⟨lw_p8, List.forall_mem_cons.mpr ⟨lw_p9, List.forall_mem_cons.mpr ⟨lw_p10, List.forall_mem_cons.mpr ⟨lw_p11, List.forall_mem_cons.mpr ⟨lw_p12, List.forall_mem_cons.mpr ⟨lw_p13, List.forall_mem_cons.mpr ⟨lw_p14, List.forall_mem_cons.mpr ⟨lw_p15, fun _ h => absurd h List.not_mem_nil⟩⟩⟩⟩⟩⟩⟩⟩⟩⟩⟩⟩⟩⟩⟩⟩
theorem lw_p16 : lw_okq (⟨"CubeClosuresModel", "readsClause", "()Z"⟩, 30) := ⟨⟨by decide +kernel, by decide +kernel⟩, List.mem_of_getElem? (i := 731) (by decide +kernel), List.mem_of_getElem? (i := 862) (by decide +kernel), List.mem_of_getElem? (i := 863) (by decide +kernel)⟩
theorem lw_p17 : lw_okq (⟨"CubeClosuresModel", "wordHere", "()I"⟩, 30) := ⟨⟨by decide +kernel, by decide +kernel⟩, List.mem_of_getElem? (i := 731) (by decide +kernel), List.mem_of_getElem? (i := 866) (by decide +kernel), List.mem_of_getElem? (i := 867) (by decide +kernel)⟩
theorem lw_p18 : lw_okq (⟨"CubeClosuresModel", "isWord", "([I)Z"⟩, 30) := ⟨⟨by decide +kernel, by decide +kernel⟩, List.mem_of_getElem? (i := 731) (by decide +kernel), List.mem_of_getElem? (i := 870) (by decide +kernel), List.mem_of_getElem? (i := 871) (by decide +kernel)⟩
theorem lw_p19 : lw_okq (⟨"CubeClosuresModel", "readsTable", "()Z"⟩, 30) := ⟨⟨by decide +kernel, by decide +kernel⟩, List.mem_of_getElem? (i := 731) (by decide +kernel), List.mem_of_getElem? (i := 874) (by decide +kernel), List.mem_of_getElem? (i := 875) (by decide +kernel)⟩
theorem lw_p20 : lw_okq (⟨"CubeClosuresModel", "isEnd", "()Z"⟩, 30) := ⟨⟨by decide +kernel, by decide +kernel⟩, List.mem_of_getElem? (i := 731) (by decide +kernel), List.mem_of_getElem? (i := 878) (by decide +kernel), List.mem_of_getElem? (i := 879) (by decide +kernel)⟩
theorem lw_p21 : lw_okq (⟨"CubeClosuresModel", "readsNumber", "(II)Z"⟩, 30) := ⟨⟨by decide +kernel, by decide +kernel⟩, List.mem_of_getElem? (i := 731) (by decide +kernel), List.mem_of_getElem? (i := 882) (by decide +kernel), List.mem_of_getElem? (i := 883) (by decide +kernel)⟩
theorem lw_p22 : lw_okq (⟨"CubeClosuresModel", "readsSupport", "()Z"⟩, 30) := ⟨⟨by decide +kernel, by decide +kernel⟩, List.mem_of_getElem? (i := 731) (by decide +kernel), List.mem_of_getElem? (i := 886) (by decide +kernel), List.mem_of_getElem? (i := 887) (by decide +kernel)⟩
theorem lw_p23 : lw_okq (⟨"CubeClosuresModel", "readsRow", "()Z"⟩, 30) := ⟨⟨by decide +kernel, by decide +kernel⟩, List.mem_of_getElem? (i := 731) (by decide +kernel), List.mem_of_getElem? (i := 890) (by decide +kernel), List.mem_of_getElem? (i := 891) (by decide +kernel)⟩
theorem lw_p24 : lw_okq (⟨"CubeClosuresModel", "put", "(III)V"⟩, 30) := ⟨⟨by decide +kernel, by decide +kernel⟩, List.mem_of_getElem? (i := 731) (by decide +kernel), List.mem_of_getElem? (i := 894) (by decide +kernel), List.mem_of_getElem? (i := 895) (by decide +kernel)⟩
theorem lw_p25 : lw_okq (⟨"CubeClosuresModel", "isWhole", "(I)Z"⟩, 30) := ⟨⟨by decide +kernel, by decide +kernel⟩, List.mem_of_getElem? (i := 731) (by decide +kernel), List.mem_of_getElem? (i := 906) (by decide +kernel), List.mem_of_getElem? (i := 907) (by decide +kernel)⟩
theorem lw_p26 : lw_okq (⟨"CubeClosuresModel", "isCell", "(I)Z"⟩, 30) := ⟨⟨by decide +kernel, by decide +kernel⟩, List.mem_of_getElem? (i := 731) (by decide +kernel), List.mem_of_getElem? (i := 910) (by decide +kernel), List.mem_of_getElem? (i := 911) (by decide +kernel)⟩
theorem lw_p27 : lw_okq (⟨"CubeClosuresModel", "codes", "()I"⟩, 30) := ⟨⟨by decide +kernel, by decide +kernel⟩, List.mem_of_getElem? (i := 731) (by decide +kernel), List.mem_of_getElem? (i := 914) (by decide +kernel), List.mem_of_getElem? (i := 915) (by decide +kernel)⟩
theorem lw_p28 : lw_okq (⟨"CubeClosuresModel", "figure", "(II)I"⟩, 30) := ⟨⟨by decide +kernel, by decide +kernel⟩, List.mem_of_getElem? (i := 731) (by decide +kernel), List.mem_of_getElem? (i := 918) (by decide +kernel), List.mem_of_getElem? (i := 919) (by decide +kernel)⟩
theorem lw_p29 : lw_okq (⟨"CubeClosuresModel", "keepPast", "()V"⟩, 30) := ⟨⟨by decide +kernel, by decide +kernel⟩, List.mem_of_getElem? (i := 731) (by decide +kernel), List.mem_of_getElem? (i := 924) (by decide +kernel), List.mem_of_getElem? (i := 925) (by decide +kernel)⟩
theorem lw_p30 : lw_okq (⟨"CubeClosuresModel", "copyRow", "(II)V"⟩, 30) := ⟨⟨by decide +kernel, by decide +kernel⟩, List.mem_of_getElem? (i := 731) (by decide +kernel), List.mem_of_getElem? (i := 928) (by decide +kernel), List.mem_of_getElem? (i := 929) (by decide +kernel)⟩
theorem lw_p31 : lw_okq (⟨"CubeClosuresModel", "isEntry", "(I)Z"⟩, 30) := ⟨⟨by decide +kernel, by decide +kernel⟩, List.mem_of_getElem? (i := 731) (by decide +kernel), List.mem_of_getElem? (i := 936) (by decide +kernel), List.mem_of_getElem? (i := 937) (by decide +kernel)⟩
def lw_privs_2 : List (MethodName × Nat) := [(⟨"CubeClosuresModel", "readsClause", "()Z"⟩, 30), (⟨"CubeClosuresModel", "wordHere", "()I"⟩, 30), (⟨"CubeClosuresModel", "isWord", "([I)Z"⟩, 30), (⟨"CubeClosuresModel", "readsTable", "()Z"⟩, 30), (⟨"CubeClosuresModel", "isEnd", "()Z"⟩, 30), (⟨"CubeClosuresModel", "readsNumber", "(II)Z"⟩, 30), (⟨"CubeClosuresModel", "readsSupport", "()Z"⟩, 30), (⟨"CubeClosuresModel", "readsRow", "()Z"⟩, 30), (⟨"CubeClosuresModel", "put", "(III)V"⟩, 30), (⟨"CubeClosuresModel", "isWhole", "(I)Z"⟩, 30), (⟨"CubeClosuresModel", "isCell", "(I)Z"⟩, 30), (⟨"CubeClosuresModel", "codes", "()I"⟩, 30), (⟨"CubeClosuresModel", "figure", "(II)I"⟩, 30), (⟨"CubeClosuresModel", "keepPast", "()V"⟩, 30), (⟨"CubeClosuresModel", "copyRow", "(II)V"⟩, 30), (⟨"CubeClosuresModel", "isEntry", "(I)Z"⟩, 30)]
theorem lw_r2 : ∀ q ∈ lw_privs_2, lw_okq q := List.forall_mem_cons.mpr ⟨lw_p16, List.forall_mem_cons.mpr ⟨lw_p17, List.forall_mem_cons.mpr ⟨lw_p18, List.forall_mem_cons.mpr ⟨lw_p19, List.forall_mem_cons.mpr ⟨lw_p20, List.forall_mem_cons.mpr ⟨lw_p21, List.forall_mem_cons.mpr ⟨lw_p22, List.forall_mem_cons.mpr ⟨lw_p23, List.forall_mem_cons.mpr ⟨lw_p24, List.forall_mem_cons.mpr ⟨lw_p25, List.forall_mem_cons.mpr ⟨lw_p26, List.forall_mem_cons.mpr ⟨lw_p27, List.forall_mem_cons.mpr ⟨lw_p28, List.forall_mem_cons.mpr ⟨lw_p29, List.forall_mem_cons.mpr ⟨lw_p30, List.forall_mem_cons.mpr ⟨lw_p31, fun _ h => absurd h List.not_mem_nil⟩⟩⟩⟩⟩⟩⟩⟩⟩⟩⟩⟩⟩⟩⟩⟩
theorem lw_p32 : lw_okq (⟨"CubeClosuresModel", "takeOut", "(II)V"⟩, 30) := ⟨⟨by decide +kernel, by decide +kernel⟩, List.mem_of_getElem? (i := 731) (by decide +kernel), List.mem_of_getElem? (i := 940) (by decide +kernel), List.mem_of_getElem? (i := 941) (by decide +kernel)⟩
theorem lw_p33 : lw_okq (⟨"CubeClosuresModel", "gather", "(II)V"⟩, 30) := ⟨⟨by decide +kernel, by decide +kernel⟩, List.mem_of_getElem? (i := 731) (by decide +kernel), List.mem_of_getElem? (i := 970) (by decide +kernel), List.mem_of_getElem? (i := 971) (by decide +kernel)⟩
theorem lw_p34 : lw_okq (⟨"CubeClosuresModel", "covers", "(II)Z"⟩, 30) := ⟨⟨by decide +kernel, by decide +kernel⟩, List.mem_of_getElem? (i := 731) (by decide +kernel), List.mem_of_getElem? (i := 976) (by decide +kernel), List.mem_of_getElem? (i := 977) (by decide +kernel)⟩
theorem lw_p35 : lw_okq (⟨"CubeClosuresModel", "common", "(II)I"⟩, 30) := ⟨⟨by decide +kernel, by decide +kernel⟩, List.mem_of_getElem? (i := 731) (by decide +kernel), List.mem_of_getElem? (i := 980) (by decide +kernel), List.mem_of_getElem? (i := 981) (by decide +kernel)⟩
theorem lw_p36 : lw_okq (⟨"CubeClosuresModel", "isIn", "(II)Z"⟩, 30) := ⟨⟨by decide +kernel, by decide +kernel⟩, List.mem_of_getElem? (i := 731) (by decide +kernel), List.mem_of_getElem? (i := 992) (by decide +kernel), List.mem_of_getElem? (i := 993) (by decide +kernel)⟩
theorem lw_p37 : lw_okq (⟨"CubeClosuresModel", "isOrder", "(I)Z"⟩, 30) := ⟨⟨by decide +kernel, by decide +kernel⟩, List.mem_of_getElem? (i := 731) (by decide +kernel), List.mem_of_getElem? (i := 1004) (by decide +kernel), List.mem_of_getElem? (i := 1005) (by decide +kernel)⟩
theorem lw_p38 : lw_okq (⟨"CubeClosuresModel", "placeIn", "(II)I"⟩, 30) := ⟨⟨by decide +kernel, by decide +kernel⟩, List.mem_of_getElem? (i := 731) (by decide +kernel), List.mem_of_getElem? (i := 1008) (by decide +kernel), List.mem_of_getElem? (i := 1009) (by decide +kernel)⟩
theorem lw_p39 : lw_okq (⟨"CubeClosuresModel", "layCounts", "()V"⟩, 30) := ⟨⟨by decide +kernel, by decide +kernel⟩, List.mem_of_getElem? (i := 731) (by decide +kernel), List.mem_of_getElem? (i := 1012) (by decide +kernel), List.mem_of_getElem? (i := 1013) (by decide +kernel)⟩
theorem lw_p40 : lw_okq (⟨"CubeClosuresModel", "workBy", "(I)I"⟩, 30) := ⟨⟨by decide +kernel, by decide +kernel⟩, List.mem_of_getElem? (i := 731) (by decide +kernel), List.mem_of_getElem? (i := 1016) (by decide +kernel), List.mem_of_getElem? (i := 1017) (by decide +kernel)⟩
theorem lw_p41 : lw_okq (⟨"CubeClosuresModel", "cubeOf", "(I)I"⟩, 30) := ⟨⟨by decide +kernel, by decide +kernel⟩, List.mem_of_getElem? (i := 731) (by decide +kernel), List.mem_of_getElem? (i := 1028) (by decide +kernel), List.mem_of_getElem? (i := 1029) (by decide +kernel)⟩
theorem lw_p42 : lw_okq (⟨"CubeClosuresModel", "only", "(II)I"⟩, 30) := ⟨⟨by decide +kernel, by decide +kernel⟩, List.mem_of_getElem? (i := 731) (by decide +kernel), List.mem_of_getElem? (i := 1032) (by decide +kernel), List.mem_of_getElem? (i := 1033) (by decide +kernel)⟩
theorem lw_p43 : lw_okq (⟨"CubeClosuresModel", "isKey", "(I)Z"⟩, 30) := ⟨⟨by decide +kernel, by decide +kernel⟩, List.mem_of_getElem? (i := 731) (by decide +kernel), List.mem_of_getElem? (i := 1049) (by decide +kernel), List.mem_of_getElem? (i := 1050) (by decide +kernel)⟩
theorem lw_p44 : lw_okq (⟨"CubeClosuresModel", "areAlike", "(III)Z"⟩, 30) := ⟨⟨by decide +kernel, by decide +kernel⟩, List.mem_of_getElem? (i := 731) (by decide +kernel), List.mem_of_getElem? (i := 1053) (by decide +kernel), List.mem_of_getElem? (i := 1054) (by decide +kernel)⟩
theorem lw_p45 : lw_okq (⟨"CubeClosuresModel", "noPlace", "(II)I"⟩, 30) := ⟨⟨by decide +kernel, by decide +kernel⟩, List.mem_of_getElem? (i := 731) (by decide +kernel), List.mem_of_getElem? (i := 1079) (by decide +kernel), List.mem_of_getElem? (i := 1080) (by decide +kernel)⟩
theorem lw_p46 : lw_okq (⟨"CubeClosuresModel", "times", "(JJ)J"⟩, 30) := ⟨⟨by decide +kernel, by decide +kernel⟩, List.mem_of_getElem? (i := 731) (by decide +kernel), List.mem_of_getElem? (i := 1087) (by decide +kernel), List.mem_of_getElem? (i := 1088) (by decide +kernel)⟩
theorem lw_p47 : lw_okq (⟨"CubeClosuresModel", "plus", "(JJ)J"⟩, 30) := ⟨⟨by decide +kernel, by decide +kernel⟩, List.mem_of_getElem? (i := 731) (by decide +kernel), List.mem_of_getElem? (i := 1091) (by decide +kernel), List.mem_of_getElem? (i := 1092) (by decide +kernel)⟩
def lw_privs_3 : List (MethodName × Nat) := [(⟨"CubeClosuresModel", "takeOut", "(II)V"⟩, 30), (⟨"CubeClosuresModel", "gather", "(II)V"⟩, 30), (⟨"CubeClosuresModel", "covers", "(II)Z"⟩, 30), (⟨"CubeClosuresModel", "common", "(II)I"⟩, 30), (⟨"CubeClosuresModel", "isIn", "(II)Z"⟩, 30), (⟨"CubeClosuresModel", "isOrder", "(I)Z"⟩, 30), (⟨"CubeClosuresModel", "placeIn", "(II)I"⟩, 30), (⟨"CubeClosuresModel", "layCounts", "()V"⟩, 30), (⟨"CubeClosuresModel", "workBy", "(I)I"⟩, 30), (⟨"CubeClosuresModel", "cubeOf", "(I)I"⟩, 30), (⟨"CubeClosuresModel", "only", "(II)I"⟩, 30), (⟨"CubeClosuresModel", "isKey", "(I)Z"⟩, 30), (⟨"CubeClosuresModel", "areAlike", "(III)Z"⟩, 30), (⟨"CubeClosuresModel", "noPlace", "(II)I"⟩, 30), (⟨"CubeClosuresModel", "times", "(JJ)J"⟩, 30), (⟨"CubeClosuresModel", "plus", "(JJ)J"⟩, 30)]
theorem lw_r3 : ∀ q ∈ lw_privs_3, lw_okq q := List.forall_mem_cons.mpr ⟨lw_p32, List.forall_mem_cons.mpr ⟨lw_p33, List.forall_mem_cons.mpr ⟨lw_p34, List.forall_mem_cons.mpr ⟨lw_p35, List.forall_mem_cons.mpr ⟨lw_p36, List.forall_mem_cons.mpr ⟨lw_p37, List.forall_mem_cons.mpr ⟨lw_p38, List.forall_mem_cons.mpr ⟨lw_p39, List.forall_mem_cons.mpr ⟨lw_p40, List.forall_mem_cons.mpr ⟨lw_p41, List.forall_mem_cons.mpr ⟨lw_p42, List.forall_mem_cons.mpr ⟨lw_p43, List.forall_mem_cons.mpr ⟨lw_p44, List.forall_mem_cons.mpr ⟨lw_p45, List.forall_mem_cons.mpr ⟨lw_p46, List.forall_mem_cons.mpr ⟨lw_p47, fun _ h => absurd h List.not_mem_nil⟩⟩⟩⟩⟩⟩⟩⟩⟩⟩⟩⟩⟩⟩⟩⟩
theorem lw_p48 : lw_okq (⟨"CubeClosuresModel", "supported", "()I"⟩, 30) := ⟨⟨by decide +kernel, by decide +kernel⟩, List.mem_of_getElem? (i := 731) (by decide +kernel), List.mem_of_getElem? (i := 1119) (by decide +kernel), List.mem_of_getElem? (i := 1120) (by decide +kernel)⟩
theorem lw_p49 : lw_okq (⟨"CubeClosuresModel", "valuesTold", "()I"⟩, 30) := ⟨⟨by decide +kernel, by decide +kernel⟩, List.mem_of_getElem? (i := 731) (by decide +kernel), List.mem_of_getElem? (i := 1123) (by decide +kernel), List.mem_of_getElem? (i := 1124) (by decide +kernel)⟩
theorem lw_p50 : lw_okq (⟨"CubeClosuresModel", "allPlaces", "()I"⟩, 30) := ⟨⟨by decide +kernel, by decide +kernel⟩, List.mem_of_getElem? (i := 731) (by decide +kernel), List.mem_of_getElem? (i := 1127) (by decide +kernel), List.mem_of_getElem? (i := 1128) (by decide +kernel)⟩
def lw_privs_4 : List (MethodName × Nat) := [(⟨"CubeClosuresModel", "supported", "()I"⟩, 30), (⟨"CubeClosuresModel", "valuesTold", "()I"⟩, 30), (⟨"CubeClosuresModel", "allPlaces", "()I"⟩, 30)]
theorem lw_r4 : ∀ q ∈ lw_privs_4, lw_okq q := List.forall_mem_cons.mpr ⟨lw_p48, List.forall_mem_cons.mpr ⟨lw_p49, List.forall_mem_cons.mpr ⟨lw_p50, fun _ h => absurd h List.not_mem_nil⟩⟩⟩
def lw_privs : List (MethodName × Nat) := lw_privs_1 ++ (lw_privs_2 ++ (lw_privs_3 ++ (lw_privs_4)))
def lw_tbl : List Cond := k2_sels lw_privs ++ tables_1
theorem lw_privs_ok : ∀ q ∈ lw_privs, lw_okq q := by
  show ∀ q ∈ lw_privs_1 ++ (lw_privs_2 ++ (lw_privs_3 ++ (lw_privs_4))), lw_okq q
  exact List.forall_mem_append.mpr ⟨lw_r1, List.forall_mem_append.mpr ⟨lw_r2, List.forall_mem_append.mpr ⟨lw_r3, lw_r4⟩⟩⟩
-- names, of the claim
def RX0 : String := "CubeClosures$Cells"
def TX0 : u_T := fun k => match k with
  | 0 => ("CubeClosures$Cells", "table", "LCubeClosures$Table;", true)
  | 1 => ("CubeClosures$Cells", "parting", "LCubeClosures$Parting;", true)
  | 2 => ("CubeClosures$Cells", "having", "[J", true)
  | 3 => ("CubeClosures$Cells", "size", "I", false)
  | 4 => ("CubeClosures$Cells", "codes", "[I", false)
  | 5 => ("CubeClosures$Cells", "covers", "[J", false)
  | 6 => ("CubeClosures$Cells", "otherCodes", "[I", false)
  | 7 => ("CubeClosures$Cells", "otherCovers", "[J", false)
  | 8 => ("CubeClosures$Cells", "isClosed", "[Z", true)
  | 9 => ("CubeClosures$Cells", "allOfSize", "[I", true)
  | 10 => ("CubeClosures$Cells", "closedOfSize", "[I", true)
  | _ => ("CubeClosures$Cells", "cellsOn", "[I", true)
def tyX0 : Nat → FieldType := fun k => match k with
  | 0 => .object "CubeClosures$Table"
  | 1 => .object "CubeClosures$Parting"
  | 2 => .array .long
  | 3 => .int
  | 4 => .array .int
  | 5 => .array .long
  | 6 => .array .int
  | 7 => .array .long
  | 8 => .array .boolean
  | 9 => .array .int
  | 10 => .array .int
  | _ => .array .int
abbrev wsX00 : List Cond := u_ws RX0 TX0 12
theorem nmX0 : ∀ a, a < 12 → ∀ b, b < 12 → a ≠ b → (TX0 a).2.1 ≠ (TX0 b).2.1 := by decide +kernel
theorem tyX0_ok : ∀ k, k < 12 → parseFieldDescriptor (TX0 k).2.2.1 = some (tyX0 k) := by decide +kernel
abbrev cX0_init : ByteArray := prog_2_method_1_code
def yX0_init : MethodName := ⟨RX0, "<init>", "()V"⟩
abbrev cX0_list : ByteArray := prog_2_method_2_code
def yX0_list : MethodName := ⟨RX0, "list", "()V"⟩
abbrev cX0_findHaving : ByteArray := prog_2_method_3_code
def yX0_findHaving : MethodName := ⟨RX0, "findHaving", "()V"⟩
abbrev cX0_spreadBy : ByteArray := prog_2_method_4_code
def yX0_spreadBy : MethodName := ⟨RX0, "spreadBy", "(I)V"⟩
abbrev cX0_tally : ByteArray := prog_2_method_5_code
def yX0_tally : MethodName := ⟨RX0, "tally", "()V"⟩
abbrev cX0_havingFigure : ByteArray := prog_2_method_6_code
def yX0_havingFigure : MethodName := ⟨RX0, "havingFigure", "(II)J"⟩
abbrev cX0_coverOf : ByteArray := prog_2_method_7_code
def yX0_coverOf : MethodName := ⟨RX0, "coverOf", "(I)J"⟩
abbrev cX0_closureOf : ByteArray := prog_2_method_8_code
def yX0_closureOf : MethodName := ⟨RX0, "closureOf", "(J)I"⟩
abbrev cX0_sharedWith : ByteArray := prog_2_method_9_code
def yX0_sharedWith : MethodName := ⟨RX0, "sharedWith", "(IJ)I"⟩
abbrev cX0_dimensionsOf : ByteArray := prog_2_method_10_code
def yX0_dimensionsOf : MethodName := ⟨RX0, "dimensionsOf", "(I)I"⟩
abbrev cX0_within : ByteArray := prog_2_method_11_code
def yX0_within : MethodName := ⟨RX0, "within", "(II)I"⟩
abbrev cX0_codeInCube : ByteArray := prog_2_method_12_code
def yX0_codeInCube : MethodName := ⟨RX0, "codeInCube", "(I)I"⟩
abbrev cX0_cubeSize : ByteArray := prog_2_method_13_code
def yX0_cubeSize : MethodName := ⟨RX0, "cubeSize", "(I)I"⟩
abbrev cX0_cellsWith : ByteArray := prog_2_method_14_code
def yX0_cellsWith : MethodName := ⟨RX0, "cellsWith", "(I)I"⟩
abbrev cX0_ofSizeOrMore : ByteArray := prog_2_method_15_code
def yX0_ofSizeOrMore : MethodName := ⟨RX0, "ofSizeOrMore", "([II)I"⟩
abbrev cX0_leastSupportFor : ByteArray := prog_2_method_16_code
def yX0_leastSupportFor : MethodName := ⟨RX0, "leastSupportFor", "(I)I"⟩
abbrev cX0_isInCube : ByteArray := prog_2_method_17_code
def yX0_isInCube : MethodName := ⟨RX0, "isInCube", "(IJ)Z"⟩
abbrev cX0_gainedWith : ByteArray := prog_2_method_18_code
def yX0_gainedWith : MethodName := ⟨RX0, "gainedWith", "(I)I"⟩
abbrev cX0_lostWithout : ByteArray := prog_2_method_19_code
def yX0_lostWithout : MethodName := ⟨RX0, "lostWithout", "(I)I"⟩
abbrev cX0_leastKey : ByteArray := prog_2_method_20_code
def yX0_leastKey : MethodName := ⟨RX0, "leastKey", "()I"⟩
abbrev cX0_settles : ByteArray := prog_2_method_21_code
def yX0_settles : MethodName := ⟨RX0, "settles", "(II)Z"⟩
abbrev cX0_parted : ByteArray := prog_2_method_22_code
def yX0_parted : MethodName := ⟨RX0, "parted", "()LCubeClosures$Parting;"⟩
def RX1 : String := "CubeClosures$Clauses"
def TX1 : u_T := fun k => match k with
  | 0 => ("CubeClosures$Clauses", "text", "LCubeClosures$Text;", true)
  | 1 => ("CubeClosures$Clauses", "draft", "LCubeClosures$Table;", true)
  | 2 => ("CubeClosures$Clauses", "done", "I", false)
  | _ => ("CubeClosures$Clauses", "newValues", "[I", true)
def tyX1 : Nat → FieldType := fun k => match k with
  | 0 => .object "CubeClosures$Text"
  | 1 => .object "CubeClosures$Table"
  | 2 => .int
  | _ => .array .int
abbrev wsX10 : List Cond := u_ws RX1 TX1 4
theorem nmX1 : ∀ a, a < 4 → ∀ b, b < 4 → a ≠ b → (TX1 a).2.1 ≠ (TX1 b).2.1 := by decide +kernel
theorem tyX1_ok : ∀ k, k < 4 → parseFieldDescriptor (TX1 k).2.2.1 = some (tyX1 k) := by decide +kernel
abbrev cX1_init : ByteArray := prog_3_method_1_code
def yX1_init : MethodName := ⟨RX1, "<init>", "()V"⟩
abbrev cX1_draftUpon : ByteArray := prog_3_method_2_code
def yX1_draftUpon : MethodName := ⟨RX1, "draftUpon", "(LCubeClosures$Table;)I"⟩
abbrev cX1_doClause : ByteArray := prog_3_method_3_code
def yX1_doClause : MethodName := ⟨RX1, "doClause", "()Z"⟩
abbrev cX1_doTable : ByteArray := prog_3_method_4_code
def yX1_doTable : MethodName := ⟨RX1, "doTable", "()Z"⟩
abbrev cX1_doSupport : ByteArray := prog_3_method_5_code
def yX1_doSupport : MethodName := ⟨RX1, "doSupport", "()Z"⟩
abbrev cX1_doRow : ByteArray := prog_3_method_6_code
def yX1_doRow : MethodName := ⟨RX1, "doRow", "()Z"⟩
def RX2 : String := "CubeClosures$Exact"
def TX2 : u_T := fun k => match k with
  | _ => ("", "", "", false)
def tyX2 : Nat → FieldType := fun k => match k with
  | _ => .int
abbrev wsX20 : List Cond := u_ws RX2 TX2 0
theorem nmX2 : ∀ a, a < 0 → ∀ b, b < 0 → a ≠ b → (TX2 a).2.1 ≠ (TX2 b).2.1 := by decide +kernel
theorem tyX2_ok : ∀ k, k < 0 → parseFieldDescriptor (TX2 k).2.2.1 = some (tyX2 k) := by decide +kernel
abbrev cX2_result : ByteArray := prog_4_method_2_code
def yX2_result : MethodName := ⟨RX2, "result", "(JIJ)J"⟩
abbrev cX2_isOver : ByteArray := prog_4_method_3_code
def yX2_isOver : MethodName := ⟨RX2, "isOver", "(JIJ)Z"⟩
def RX3 : String := "CubeClosures$LongRows"
def TX3 : u_T := fun k => match k with
  | 0 => ("CubeClosures$LongRows", "lengths", "[I", true)
  | _ => ("CubeClosures$LongRows", "places", "[[J", true)
def tyX3 : Nat → FieldType := fun k => match k with
  | 0 => .array .int
  | _ => .array (.array .long)
abbrev wsX30 : List Cond := u_ws RX3 TX3 2
theorem nmX3 : ∀ a, a < 2 → ∀ b, b < 2 → a ≠ b → (TX3 a).2.1 ≠ (TX3 b).2.1 := by decide +kernel
theorem tyX3_ok : ∀ k, k < 2 → parseFieldDescriptor (TX3 k).2.2.1 = some (tyX3 k) := by decide +kernel
abbrev cX3_init : ByteArray := prog_5_method_1_code
def yX3_init : MethodName := ⟨RX3, "<init>", "()V"⟩
abbrev cX3_isRow : ByteArray := prog_5_method_2_code
def yX3_isRow : MethodName := ⟨RX3, "isRow", "(I)Z"⟩
abbrev cX3_isMissing : ByteArray := prog_5_method_3_code
def yX3_isMissing : MethodName := ⟨RX3, "isMissing", "(I)Z"⟩
abbrev cX3_renew : ByteArray := prog_5_method_4_code
def yX3_renew : MethodName := ⟨RX3, "renew", "(II)V"⟩
abbrev cX3_finds : ByteArray := prog_5_method_5_code
def yX3_finds : MethodName := ⟨RX3, "finds", "(II)I"⟩
abbrev cX3_put : ByteArray := prog_5_method_6_code
def yX3_put : MethodName := ⟨RX3, "put", "(IIJ)I"⟩
abbrev cX3_placesInAll : ByteArray := prog_5_method_7_code
def yX3_placesInAll : MethodName := ⟨RX3, "placesInAll", "()I"⟩
def RX4 : String := "CubeClosures$Parting"
def TX4 : u_T := fun k => match k with
  | 0 => ("CubeClosures$Parting", "dimensions", "I", false)
  | 1 => ("CubeClosures$Parting", "visits", "I", false)
  | _ => ("CubeClosures$Parting", "entriesOn", "[I", true)
def tyX4 : Nat → FieldType := fun k => match k with
  | 0 => .int
  | 1 => .int
  | _ => .array .int
abbrev wsX40 : List Cond := u_ws RX4 TX4 3
theorem nmX4 : ∀ a, a < 3 → ∀ b, b < 3 → a ≠ b → (TX4 a).2.1 ≠ (TX4 b).2.1 := by decide +kernel
theorem tyX4_ok : ∀ k, k < 3 → parseFieldDescriptor (TX4 k).2.2.1 = some (tyX4 k) := by decide +kernel
abbrev cX4_init : ByteArray := prog_6_method_1_code
def yX4_init : MethodName := ⟨RX4, "<init>", "()V"⟩
abbrev cX4_isOrder : ByteArray := prog_6_method_2_code
def yX4_isOrder : MethodName := ⟨RX4, "isOrder", "(II)Z"⟩
abbrev cX4_startWith : ByteArray := prog_6_method_3_code
def yX4_startWith : MethodName := ⟨RX4, "startWith", "(II)V"⟩
abbrev cX4_goInto : ByteArray := prog_6_method_4_code
def yX4_goInto : MethodName := ⟨RX4, "goInto", "(II)V"⟩
abbrev cX4_workBy : ByteArray := prog_6_method_5_code
def yX4_workBy : MethodName := ⟨RX4, "workBy", "(I)I"⟩
abbrev cX4_bestOrder : ByteArray := prog_6_method_6_code
def yX4_bestOrder : MethodName := ⟨RX4, "bestOrder", "()I"⟩
abbrev cX4_ordersOf : ByteArray := prog_6_method_7_code
def yX4_ordersOf : MethodName := ⟨RX4, "ordersOf", "(I)[I"⟩
def RX5 : String := "CubeClosures$Past"
def TX5 : u_T := fun k => match k with
  | 0 => ("CubeClosures$Past", "size", "I", false)
  | 1 => ("CubeClosures$Past", "next", "I", false)
  | 2 => ("CubeClosures$Past", "kinds", "[I", true)
  | 3 => ("CubeClosures$Past", "numbers", "[I", true)
  | 4 => ("CubeClosures$Past", "codes", "[I", true)
  | _ => ("CubeClosures$Past", "measures", "[I", true)
def tyX5 : Nat → FieldType := fun k => match k with
  | 0 => .int
  | 1 => .int
  | 2 => .array .int
  | 3 => .array .int
  | 4 => .array .int
  | _ => .array .int
abbrev wsX50 : List Cond := u_ws RX5 TX5 6
theorem nmX5 : ∀ a, a < 6 → ∀ b, b < 6 → a ≠ b → (TX5 a).2.1 ≠ (TX5 b).2.1 := by decide +kernel
theorem tyX5_ok : ∀ k, k < 6 → parseFieldDescriptor (TX5 k).2.2.1 = some (tyX5 k) := by decide +kernel
abbrev cX5_init : ByteArray := prog_7_method_1_code
def yX5_init : MethodName := ⟨RX5, "<init>", "()V"⟩
abbrev cX5_record : ByteArray := prog_7_method_2_code
def yX5_record : MethodName := ⟨RX5, "record", "(IIII)V"⟩
abbrev cX5_undoLatest : ByteArray := prog_7_method_3_code
def yX5_undoLatest : MethodName := ⟨RX5, "undoLatest", "(LCubeClosures$Table;)V"⟩
def RX6 : String := "CubeClosures$Table"
def TX6 : u_T := fun k => match k with
  | 0 => ("CubeClosures$Table", "dimensions", "I", false)
  | 1 => ("CubeClosures$Table", "values", "[I", true)
  | 2 => ("CubeClosures$Table", "size", "I", false)
  | 3 => ("CubeClosures$Table", "codes", "[I", true)
  | 4 => ("CubeClosures$Table", "measures", "[I", true)
  | _ => ("CubeClosures$Table", "enough", "I", false)
def tyX6 : Nat → FieldType := fun k => match k with
  | 0 => .int
  | 1 => .array .int
  | 2 => .int
  | 3 => .array .int
  | 4 => .array .int
  | _ => .int
abbrev wsX60 : List Cond := u_ws RX6 TX6 6
theorem nmX6 : ∀ a, a < 6 → ∀ b, b < 6 → a ≠ b → (TX6 a).2.1 ≠ (TX6 b).2.1 := by decide +kernel
theorem tyX6_ok : ∀ k, k < 6 → parseFieldDescriptor (TX6 k).2.2.1 = some (tyX6 k) := by decide +kernel
abbrev cX6_init : ByteArray := prog_8_method_1_code
def yX6_init : MethodName := ⟨RX6, "<init>", "()V"⟩
abbrev cX6_startWith : ByteArray := prog_8_method_2_code
def yX6_startWith : MethodName := ⟨RX6, "startWith", "(I[I)V"⟩
abbrev cX6_copyFrom : ByteArray := prog_8_method_3_code
def yX6_copyFrom : MethodName := ⟨RX6, "copyFrom", "(LCubeClosures$Table;)V"⟩
abbrev cX6_hasEntry : ByteArray := prog_8_method_4_code
def yX6_hasEntry : MethodName := ⟨RX6, "hasEntry", "(I)Z"⟩
abbrev cX6_insert : ByteArray := prog_8_method_5_code
def yX6_insert : MethodName := ⟨RX6, "insert", "(III)V"⟩
abbrev cX6_takeOut : ByteArray := prog_8_method_6_code
def yX6_takeOut : MethodName := ⟨RX6, "takeOut", "(I)V"⟩
abbrev cX6_isCellCode : ByteArray := prog_8_method_7_code
def yX6_isCellCode : MethodName := ⟨RX6, "isCellCode", "(I)Z"⟩
abbrev cX6_isEntryCode : ByteArray := prog_8_method_8_code
def yX6_isEntryCode : MethodName := ⟨RX6, "isEntryCode", "(I)Z"⟩
abbrev cX6_hasFigures : ByteArray := prog_8_method_9_code
def yX6_hasFigures : MethodName := ⟨RX6, "hasFigures", "(II)Z"⟩
abbrev cX6_valueFigures : ByteArray := prog_8_method_10_code
def yX6_valueFigures : MethodName := ⟨RX6, "valueFigures", "()I"⟩
abbrev cX6_sumOf : ByteArray := prog_8_method_11_code
def yX6_sumOf : MethodName := ⟨RX6, "sumOf", "(J)I"⟩
abbrev cX6_leastOf : ByteArray := prog_8_method_12_code
def yX6_leastOf : MethodName := ⟨RX6, "leastOf", "(J)I"⟩
abbrev cX6_greatestOf : ByteArray := prog_8_method_13_code
def yX6_greatestOf : MethodName := ⟨RX6, "greatestOf", "(J)I"⟩
abbrev cX6_isIn : ByteArray := prog_8_method_14_code
def yX6_isIn : MethodName := ⟨RX6, "isIn", "(IJ)Z"⟩
def RX7 : String := "CubeClosures$Text"
def TX7 : u_T := fun k => match k with
  | 0 => ("CubeClosures$Text", "letters", "[C", true)
  | 1 => ("CubeClosures$Text", "length", "I", false)
  | 2 => ("CubeClosures$Text", "start", "I", false)
  | _ => ("CubeClosures$Text", "end", "I", false)
def tyX7 : Nat → FieldType := fun k => match k with
  | 0 => .array .char
  | 1 => .int
  | 2 => .int
  | _ => .int
abbrev wsX70 : List Cond := u_ws RX7 TX7 4
theorem nmX7 : ∀ a, a < 4 → ∀ b, b < 4 → a ≠ b → (TX7 a).2.1 ≠ (TX7 b).2.1 := by decide +kernel
theorem tyX7_ok : ∀ k, k < 4 → parseFieldDescriptor (TX7 k).2.2.1 = some (tyX7 k) := by decide +kernel
abbrev cX7_init : ByteArray := prog_9_method_1_code
def yX7_init : MethodName := ⟨RX7, "<init>", "()V"⟩
abbrev cX7_append : ByteArray := prog_9_method_2_code
def yX7_append : MethodName := ⟨RX7, "append", "(C)Z"⟩
abbrev cX7_rewind : ByteArray := prog_9_method_3_code
def yX7_rewind : MethodName := ⟨RX7, "rewind", "()V"⟩
abbrev cX7_toNextToken : ByteArray := prog_9_method_4_code
def yX7_toNextToken : MethodName := ⟨RX7, "toNextToken", "()V"⟩
abbrev cX7_isAtEnd : ByteArray := prog_9_method_5_code
def yX7_isAtEnd : MethodName := ⟨RX7, "isAtEnd", "()Z"⟩
abbrev cX7_isToken : ByteArray := prog_9_method_6_code
def yX7_isToken : MethodName := ⟨RX7, "isToken", "(Ljava/lang/String;)Z"⟩
abbrev cX7_numberWithin : ByteArray := prog_9_method_7_code
def yX7_numberWithin : MethodName := ⟨RX7, "numberWithin", "(II)I"⟩
abbrev cX7_isSmall : ByteArray := prog_9_method_8_code
def yX7_isSmall : MethodName := ⟨RX7, "isSmall", "(C)Z"⟩
abbrev cX7_isDigit : ByteArray := prog_9_method_9_code
def yX7_isDigit : MethodName := ⟨RX7, "isDigit", "(C)Z"⟩
def RX8 : String := "CubeClosures"
def TX8 : u_T := fun k => match k with
  | 0 => ("CubeClosures", "clauses", "LCubeClosures$Clauses;", true)
  | 1 => ("CubeClosures", "text", "LCubeClosures$Text;", true)
  | 2 => ("CubeClosures", "cells", "LCubeClosures$Cells;", true)
  | 3 => ("CubeClosures", "table", "LCubeClosures$Table;", true)
  | 4 => ("CubeClosures", "past", "LCubeClosures$Past;", true)
  | 5 => ("CubeClosures", "keeps", "[LCubeClosures$Table;", true)
  | 6 => ("CubeClosures", "isKept", "[Z", true)
  | 7 => ("CubeClosures", "rows", "LCubeClosures$LongRows;", true)
  | 8 => ("CubeClosures", "cellsAreOld", "Z", false)
  | _ => ("CubeClosures", "told", "J", false)
def tyX8 : Nat → FieldType := fun k => match k with
  | 0 => .object "CubeClosures$Clauses"
  | 1 => .object "CubeClosures$Text"
  | 2 => .object "CubeClosures$Cells"
  | 3 => .object "CubeClosures$Table"
  | 4 => .object "CubeClosures$Past"
  | 5 => .array (.object "CubeClosures$Table")
  | 6 => .array .boolean
  | 7 => .object "CubeClosures$LongRows"
  | 8 => .boolean
  | _ => .long
abbrev wsX80 : List Cond := u_ws RX8 TX8 10
theorem nmX8 : ∀ a, a < 10 → ∀ b, b < 10 → a ≠ b → (TX8 a).2.1 ≠ (TX8 b).2.1 := by decide +kernel
theorem tyX8_ok : ∀ k, k < 10 → parseFieldDescriptor (TX8 k).2.2.1 = some (tyX8 k) := by decide +kernel
abbrev cX8_init : ByteArray := prog_1_method_1_code
def yX8_init : MethodName := ⟨RX8, "<init>", "()V"⟩
abbrev cX8_write : ByteArray := prog_1_method_2_code
def yX8_write : MethodName := ⟨RX8, "write", "(I)I"⟩
abbrev cX8_erase : ByteArray := prog_1_method_3_code
def yX8_erase : MethodName := ⟨RX8, "erase", "()I"⟩
abbrev cX8_fault : ByteArray := prog_1_method_4_code
def yX8_fault : MethodName := ⟨RX8, "fault", "()I"⟩
abbrev cX8_read : ByteArray := prog_1_method_5_code
def yX8_read : MethodName := ⟨RX8, "read", "()I"⟩
abbrev cX8_add : ByteArray := prog_1_method_6_code
def yX8_add : MethodName := ⟨RX8, "add", "(II)I"⟩
abbrev cX8_remove : ByteArray := prog_1_method_7_code
def yX8_remove : MethodName := ⟨RX8, "remove", "(I)I"⟩
abbrev cX8_support : ByteArray := prog_1_method_8_code
def yX8_support : MethodName := ⟨RX8, "support", "(I)I"⟩
abbrev cX8_undo : ByteArray := prog_1_method_9_code
def yX8_undo : MethodName := ⟨RX8, "undo", "()I"⟩
abbrev cX8_keep : ByteArray := prog_1_method_10_code
def yX8_keep : MethodName := ⟨RX8, "keep", "(I)I"⟩
abbrev cX8_back : ByteArray := prog_1_method_11_code
def yX8_back : MethodName := ⟨RX8, "back", "(I)I"⟩
abbrev cX8_entry : ByteArray := prog_1_method_12_code
def yX8_entry : MethodName := ⟨RX8, "entry", "(II)I"⟩
abbrev cX8_cell : ByteArray := prog_1_method_13_code
def yX8_cell : MethodName := ⟨RX8, "cell", "(II)I"⟩
abbrev cX8_closure : ByteArray := prog_1_method_14_code
def yX8_closure : MethodName := ⟨RX8, "closure", "(I)I"⟩
abbrev cX8_kept : ByteArray := prog_1_method_15_code
def yX8_kept : MethodName := ⟨RX8, "kept", "(I)I"⟩
abbrev cX8_ask : ByteArray := prog_1_method_16_code
def yX8_ask : MethodName := ⟨RX8, "ask", "(II)I"⟩
abbrev cX8_part : ByteArray := prog_1_method_17_code
def yX8_part : MethodName := ⟨RX8, "part", "(II)I"⟩
abbrev cX8_best : ByteArray := prog_1_method_18_code
def yX8_best : MethodName := ⟨RX8, "best", "(I)I"⟩
abbrev cX8_more : ByteArray := prog_1_method_19_code
def yX8_more : MethodName := ⟨RX8, "more", "(II)I"⟩
abbrev cX8_less : ByteArray := prog_1_method_20_code
def yX8_less : MethodName := ⟨RX8, "less", "(II)I"⟩
abbrev cX8_cap : ByteArray := prog_1_method_21_code
def yX8_cap : MethodName := ⟨RX8, "cap", "(I)I"⟩
abbrev cX8_key : ByteArray := prog_1_method_22_code
def yX8_key : MethodName := ⟨RX8, "key", "()I"⟩
abbrev cX8_rule : ByteArray := prog_1_method_23_code
def yX8_rule : MethodName := ⟨RX8, "rule", "(II)I"⟩
abbrev cX8_row : ByteArray := prog_1_method_24_code
def yX8_row : MethodName := ⟨RX8, "row", "(II)I"⟩
abbrev cX8_set : ByteArray := prog_1_method_25_code
def yX8_set : MethodName := ⟨RX8, "set", "(III)I"⟩
abbrev cX8_work : ByteArray := prog_1_method_26_code
def yX8_work : MethodName := ⟨RX8, "work", "(IIII)I"⟩
abbrev cX8_bits : ByteArray := prog_1_method_27_code
def yX8_bits : MethodName := ⟨RX8, "bits", "(II)I"⟩
abbrev cX8_sum : ByteArray := prog_1_method_28_code
def yX8_sum : MethodName := ⟨RX8, "sum", "(I)I"⟩
abbrev cX8_load : ByteArray := prog_1_method_29_code
def yX8_load : MethodName := ⟨RX8, "load", "(III)I"⟩
abbrev cX8_drop : ByteArray := prog_1_method_30_code
def yX8_drop : MethodName := ⟨RX8, "drop", "(I)I"⟩
abbrev cX8_asked : ByteArray := prog_1_method_31_code
def yX8_asked : MethodName := ⟨RX8, "asked", "()J"⟩
abbrev cX8_count : ByteArray := prog_1_method_32_code
def yX8_count : MethodName := ⟨RX8, "count", "(I)I"⟩
abbrev cX8_freshCells : ByteArray := prog_1_method_33_code
def yX8_freshCells : MethodName := ⟨RX8, "freshCells", "()LCubeClosures$Cells;"⟩
def RX9 : String := "CubeClosuresModel"
def TX9 : u_T := fun k => match k with
  | 0 => ("CubeClosuresModel", "row", "[I", true)
  | 1 => ("CubeClosuresModel", "dimensions", "I", false)
  | 2 => ("CubeClosuresModel", "values", "[I", true)
  | 3 => ("CubeClosuresModel", "undos", "I", false)
  | 4 => ("CubeClosuresModel", "isKept", "[Z", true)
  | 5 => ("CubeClosuresModel", "text", "[I", true)
  | 6 => ("CubeClosuresModel", "length", "I", false)
  | 7 => ("CubeClosuresModel", "sizes", "[I", true)
  | 8 => ("CubeClosuresModel", "items", "[J", true)
  | 9 => ("CubeClosuresModel", "asked", "J", false)
  | 10 => ("CubeClosuresModel", "first", "I", false)
  | 11 => ("CubeClosuresModel", "behind", "I", false)
  | 12 => ("CubeClosuresModel", "readDimensions", "I", false)
  | 13 => ("CubeClosuresModel", "readValues", "[I", true)
  | 14 => ("CubeClosuresModel", "readMany", "I", false)
  | 15 => ("CubeClosuresModel", "clauses", "I", false)
  | 16 => ("CubeClosuresModel", "doing", "Z", false)
  | 17 => ("CubeClosuresModel", "number", "I", false)
  | 18 => ("CubeClosuresModel", "tableWord", "[I", true)
  | 19 => ("CubeClosuresModel", "supportWord", "[I", true)
  | 20 => ("CubeClosuresModel", "rowWord", "[I", true)
  | 21 => ("CubeClosuresModel", "many", "I", false)
  | 22 => ("CubeClosuresModel", "sum", "I", false)
  | 23 => ("CubeClosuresModel", "least", "I", false)
  | 24 => ("CubeClosuresModel", "greatest", "I", false)
  | 25 => ("CubeClosuresModel", "closed", "I", false)
  | 26 => ("CubeClosuresModel", "visits", "I", false)
  | 27 => ("CubeClosuresModel", "counts", "[I", true)
  | 28 => ("CubeClosuresModel", "byMany", "[I", true)
  | _ => ("CubeClosuresModel", "isOver", "Z", false)
def tyX9 : Nat → FieldType := fun k => match k with
  | 0 => .array .int
  | 1 => .int
  | 2 => .array .int
  | 3 => .int
  | 4 => .array .boolean
  | 5 => .array .int
  | 6 => .int
  | 7 => .array .int
  | 8 => .array .long
  | 9 => .long
  | 10 => .int
  | 11 => .int
  | 12 => .int
  | 13 => .array .int
  | 14 => .int
  | 15 => .int
  | 16 => .boolean
  | 17 => .int
  | 18 => .array .int
  | 19 => .array .int
  | 20 => .array .int
  | 21 => .int
  | 22 => .int
  | 23 => .int
  | 24 => .int
  | 25 => .int
  | 26 => .int
  | 27 => .array .int
  | 28 => .array .int
  | _ => .boolean
abbrev wsX90 : List Cond := u_ws RX9 TX9 30
theorem nmX9 : ∀ a, a < 30 → ∀ b, b < 30 → a ≠ b → (TX9 a).2.1 ≠ (TX9 b).2.1 := by decide +kernel
theorem tyX9_ok : ∀ k, k < 30 → parseFieldDescriptor (TX9 k).2.2.1 = some (tyX9 k) := by decide +kernel
abbrev cX9_init : ByteArray := prog_11_method_1_code
def yX9_init : MethodName := ⟨RX9, "<init>", "()V"⟩
abbrev cX9_in : ByteArray := prog_11_method_2_code
def yX9_in : MethodName := ⟨RX9, "in", "(JJJ)Z"⟩
abbrev cX9_has : ByteArray := prog_11_method_3_code
def yX9_has : MethodName := ⟨RX9, "has", "(II)Z"⟩
abbrev cX9_copyRow : ByteArray := prog_11_method_4_code
def yX9_copyRow : MethodName := ⟨RX9, "copyRow", "(II)V"⟩
abbrev cX9_write : ByteArray := prog_11_method_5_code
def yX9_write : MethodName := ⟨RX9, "write", "(I)I"⟩
abbrev cX9_erase : ByteArray := prog_11_method_6_code
def yX9_erase : MethodName := ⟨RX9, "erase", "()I"⟩
abbrev cX9_isLetter : ByteArray := prog_11_method_7_code
def yX9_isLetter : MethodName := ⟨RX9, "isLetter", "(I)Z"⟩
abbrev cX9_isDigit : ByteArray := prog_11_method_8_code
def yX9_isDigit : MethodName := ⟨RX9, "isDigit", "(I)Z"⟩
abbrev cX9_nextToken : ByteArray := prog_11_method_9_code
def yX9_nextToken : MethodName := ⟨RX9, "nextToken", "()V"⟩
abbrev cX9_isWord : ByteArray := prog_11_method_10_code
def yX9_isWord : MethodName := ⟨RX9, "isWord", "([I)Z"⟩
abbrev cX9_readsNumber : ByteArray := prog_11_method_11_code
def yX9_readsNumber : MethodName := ⟨RX9, "readsNumber", "(II)Z"⟩
abbrev cX9_isEnd : ByteArray := prog_11_method_12_code
def yX9_isEnd : MethodName := ⟨RX9, "isEnd", "()Z"⟩
abbrev cX9_readsTable : ByteArray := prog_11_method_13_code
def yX9_readsTable : MethodName := ⟨RX9, "readsTable", "()Z"⟩
abbrev cX9_readsSupport : ByteArray := prog_11_method_14_code
def yX9_readsSupport : MethodName := ⟨RX9, "readsSupport", "()Z"⟩
abbrev cX9_readsRow : ByteArray := prog_11_method_15_code
def yX9_readsRow : MethodName := ⟨RX9, "readsRow", "()Z"⟩
abbrev cX9_wordHere : ByteArray := prog_11_method_16_code
def yX9_wordHere : MethodName := ⟨RX9, "wordHere", "()I"⟩
abbrev cX9_readsClause : ByteArray := prog_11_method_17_code
def yX9_readsClause : MethodName := ⟨RX9, "readsClause", "()Z"⟩
abbrev cX9_reads : ByteArray := prog_11_method_18_code
def yX9_reads : MethodName := ⟨RX9, "reads", "(Z)Z"⟩
abbrev cX9_fault : ByteArray := prog_11_method_19_code
def yX9_fault : MethodName := ⟨RX9, "fault", "()I"⟩
abbrev cX9_read : ByteArray := prog_11_method_20_code
def yX9_read : MethodName := ⟨RX9, "read", "()I"⟩
abbrev cX9_put : ByteArray := prog_11_method_21_code
def yX9_put : MethodName := ⟨RX9, "put", "(III)V"⟩
abbrev cX9_takeOut : ByteArray := prog_11_method_22_code
def yX9_takeOut : MethodName := ⟨RX9, "takeOut", "(II)V"⟩
abbrev cX9_figure : ByteArray := prog_11_method_23_code
def yX9_figure : MethodName := ⟨RX9, "figure", "(II)I"⟩
abbrev cX9_codes : ByteArray := prog_11_method_24_code
def yX9_codes : MethodName := ⟨RX9, "codes", "()I"⟩
abbrev cX9_isCell : ByteArray := prog_11_method_25_code
def yX9_isCell : MethodName := ⟨RX9, "isCell", "(I)Z"⟩
abbrev cX9_isWhole : ByteArray := prog_11_method_26_code
def yX9_isWhole : MethodName := ⟨RX9, "isWhole", "(I)Z"⟩
abbrev cX9_isEntry : ByteArray := prog_11_method_27_code
def yX9_isEntry : MethodName := ⟨RX9, "isEntry", "(I)Z"⟩
abbrev cX9_keepPast : ByteArray := prog_11_method_28_code
def yX9_keepPast : MethodName := ⟨RX9, "keepPast", "()V"⟩
abbrev cX9_add : ByteArray := prog_11_method_29_code
def yX9_add : MethodName := ⟨RX9, "add", "(II)I"⟩
abbrev cX9_remove : ByteArray := prog_11_method_30_code
def yX9_remove : MethodName := ⟨RX9, "remove", "(I)I"⟩
abbrev cX9_support : ByteArray := prog_11_method_31_code
def yX9_support : MethodName := ⟨RX9, "support", "(I)I"⟩
abbrev cX9_undo : ByteArray := prog_11_method_32_code
def yX9_undo : MethodName := ⟨RX9, "undo", "()I"⟩
abbrev cX9_keep : ByteArray := prog_11_method_33_code
def yX9_keep : MethodName := ⟨RX9, "keep", "(I)I"⟩
abbrev cX9_back : ByteArray := prog_11_method_34_code
def yX9_back : MethodName := ⟨RX9, "back", "(I)I"⟩
abbrev cX9_entry : ByteArray := prog_11_method_35_code
def yX9_entry : MethodName := ⟨RX9, "entry", "(II)I"⟩
abbrev cX9_covers : ByteArray := prog_11_method_36_code
def yX9_covers : MethodName := ⟨RX9, "covers", "(II)Z"⟩
abbrev cX9_common : ByteArray := prog_11_method_37_code
def yX9_common : MethodName := ⟨RX9, "common", "(II)I"⟩
abbrev cX9_gather : ByteArray := prog_11_method_38_code
def yX9_gather : MethodName := ⟨RX9, "gather", "(II)V"⟩
abbrev cX9_cell : ByteArray := prog_11_method_39_code
def yX9_cell : MethodName := ⟨RX9, "cell", "(II)I"⟩
abbrev cX9_closure : ByteArray := prog_11_method_40_code
def yX9_closure : MethodName := ⟨RX9, "closure", "(I)I"⟩
abbrev cX9_isIn : ByteArray := prog_11_method_41_code
def yX9_isIn : MethodName := ⟨RX9, "isIn", "(II)Z"⟩
abbrev cX9_cubeOf : ByteArray := prog_11_method_42_code
def yX9_cubeOf : MethodName := ⟨RX9, "cubeOf", "(I)I"⟩
abbrev cX9_kept : ByteArray := prog_11_method_43_code
def yX9_kept : MethodName := ⟨RX9, "kept", "(I)I"⟩
abbrev cX9_ask : ByteArray := prog_11_method_44_code
def yX9_ask : MethodName := ⟨RX9, "ask", "(II)I"⟩
abbrev cX9_placeIn : ByteArray := prog_11_method_45_code
def yX9_placeIn : MethodName := ⟨RX9, "placeIn", "(II)I"⟩
abbrev cX9_isOrder : ByteArray := prog_11_method_46_code
def yX9_isOrder : MethodName := ⟨RX9, "isOrder", "(I)Z"⟩
abbrev cX9_layCounts : ByteArray := prog_11_method_47_code
def yX9_layCounts : MethodName := ⟨RX9, "layCounts", "()V"⟩
abbrev cX9_workBy : ByteArray := prog_11_method_48_code
def yX9_workBy : MethodName := ⟨RX9, "workBy", "(I)I"⟩
abbrev cX9_part : ByteArray := prog_11_method_49_code
def yX9_part : MethodName := ⟨RX9, "part", "(II)I"⟩
abbrev cX9_best : ByteArray := prog_11_method_50_code
def yX9_best : MethodName := ⟨RX9, "best", "(I)I"⟩
abbrev cX9_only : ByteArray := prog_11_method_51_code
def yX9_only : MethodName := ⟨RX9, "only", "(II)I"⟩
abbrev cX9_more : ByteArray := prog_11_method_52_code
def yX9_more : MethodName := ⟨RX9, "more", "(II)I"⟩
abbrev cX9_less : ByteArray := prog_11_method_53_code
def yX9_less : MethodName := ⟨RX9, "less", "(II)I"⟩
abbrev cX9_cap : ByteArray := prog_11_method_54_code
def yX9_cap : MethodName := ⟨RX9, "cap", "(I)I"⟩
abbrev cX9_areAlike : ByteArray := prog_11_method_55_code
def yX9_areAlike : MethodName := ⟨RX9, "areAlike", "(III)Z"⟩
abbrev cX9_isKey : ByteArray := prog_11_method_56_code
def yX9_isKey : MethodName := ⟨RX9, "isKey", "(I)Z"⟩
abbrev cX9_bits4 : ByteArray := prog_11_method_57_code
def yX9_bits4 : MethodName := ⟨RX9, "bits4", "(I)I"⟩
abbrev cX9_key : ByteArray := prog_11_method_58_code
def yX9_key : MethodName := ⟨RX9, "key", "()I"⟩
abbrev cX9_rule : ByteArray := prog_11_method_59_code
def yX9_rule : MethodName := ⟨RX9, "rule", "(II)I"⟩
abbrev cX9_isRow : ByteArray := prog_11_method_60_code
def yX9_isRow : MethodName := ⟨RX9, "isRow", "(I)Z"⟩
abbrev cX9_row : ByteArray := prog_11_method_61_code
def yX9_row : MethodName := ⟨RX9, "row", "(II)I"⟩
abbrev cX9_noPlace : ByteArray := prog_11_method_62_code
def yX9_noPlace : MethodName := ⟨RX9, "noPlace", "(II)I"⟩
abbrev cX9_set : ByteArray := prog_11_method_63_code
def yX9_set : MethodName := ⟨RX9, "set", "(III)I"⟩
abbrev cX9_plus : ByteArray := prog_11_method_64_code
def yX9_plus : MethodName := ⟨RX9, "plus", "(JJ)J"⟩
abbrev cX9_times : ByteArray := prog_11_method_65_code
def yX9_times : MethodName := ⟨RX9, "times", "(JJ)J"⟩
abbrev cX9_work : ByteArray := prog_11_method_66_code
def yX9_work : MethodName := ⟨RX9, "work", "(IIII)I"⟩
abbrev cX9_bits : ByteArray := prog_11_method_67_code
def yX9_bits : MethodName := ⟨RX9, "bits", "(II)I"⟩
abbrev cX9_sum : ByteArray := prog_11_method_68_code
def yX9_sum : MethodName := ⟨RX9, "sum", "(I)I"⟩
abbrev cX9_load : ByteArray := prog_11_method_69_code
def yX9_load : MethodName := ⟨RX9, "load", "(III)I"⟩
abbrev cX9_drop : ByteArray := prog_11_method_70_code
def yX9_drop : MethodName := ⟨RX9, "drop", "(I)I"⟩
abbrev cX9_asked : ByteArray := prog_11_method_71_code
def yX9_asked : MethodName := ⟨RX9, "asked", "()J"⟩
abbrev cX9_supported : ByteArray := prog_11_method_72_code
def yX9_supported : MethodName := ⟨RX9, "supported", "()I"⟩
abbrev cX9_valuesTold : ByteArray := prog_11_method_73_code
def yX9_valuesTold : MethodName := ⟨RX9, "valuesTold", "()I"⟩
abbrev cX9_allPlaces : ByteArray := prog_11_method_74_code
def yX9_allPlaces : MethodName := ⟨RX9, "allPlaces", "()I"⟩
abbrev cX9_count : ByteArray := prog_11_method_75_code
def yX9_count : MethodName := ⟨RX9, "count", "(I)I"⟩
def RJ6 : String := "java/lang/Integer"
abbrev cJ6_bitCount_0f7a4 : ByteArray := prog_12_method_49_code
def yJ6_bitCount_0f7a4 : MethodName := ⟨RJ6, "bitCount", "(I)I"⟩
def RJ13 : String := "java/lang/Long"
abbrev cJ13_bitCount_95d88 : ByteArray := prog_13_method_50_code
def yJ13_bitCount_95d88 : MethodName := ⟨RJ13, "bitCount", "(J)I"⟩
def RJ9 : String := "java/lang/Math"
abbrev cJ9_max_7cf53 : ByteArray := prog_14_method_65_code
def yJ9_max_7cf53 : MethodName := ⟨RJ9, "max", "(II)I"⟩
abbrev cJ9_min_7cf53 : ByteArray := prog_14_method_69_code
def yJ9_min_7cf53 : MethodName := ⟨RJ9, "min", "(II)I"⟩
def RJ0 : String := "java/lang/String"
abbrev cJ0_length_8abf5 : ByteArray := prog_15_method_54_code
def yJ0_length_8abf5 : MethodName := ⟨RJ0, "length", "()I"⟩
abbrev cJ0_charAt_5068e : ByteArray := prog_15_method_56_code
def yJ0_charAt_5068e : MethodName := ⟨RJ0, "charAt", "(I)C"⟩
abbrev cJ0_coder_7d493 : ByteArray := prog_15_method_152_code
def yJ0_coder_7d493 : MethodName := ⟨RJ0, "coder", "()B"⟩
abbrev cJ0_isLatin1_aae02 : ByteArray := prog_15_method_154_code
def yJ0_isLatin1_aae02 : MethodName := ⟨RJ0, "isLatin1", "()Z"⟩
abbrev cJ0_checkIndex_df160 : ByteArray := prog_15_method_155_code
def yJ0_checkIndex_df160 : MethodName := ⟨RJ0, "checkIndex", "(II)V"⟩
def RJ1 : String := "java/lang/StringLatin1"
abbrev cJ1_charAt_3b067 : ByteArray := prog_16_method_2_code
def yJ1_charAt_3b067 : MethodName := ⟨RJ1, "charAt", "([BI)C"⟩
def RJ2 : String := "java/lang/StringUTF16"
abbrev cJ2_getChar_3b067 : ByteArray := prog_17_method_5_code
def yJ2_getChar_3b067 : MethodName := ⟨RJ2, "getChar", "([BI)C"⟩
abbrev cJ2_length_9d52b : ByteArray := prog_17_method_6_code
def yJ2_length_9d52b : MethodName := ⟨RJ2, "length", "([B)I"⟩
abbrev cJ2_charAt_3b067 : ByteArray := prog_17_method_83_code
def yJ2_charAt_3b067 : MethodName := ⟨RJ2, "charAt", "([BI)C"⟩
abbrev cJ2_checkIndex_2214a : ByteArray := prog_17_method_91_code
def yJ2_checkIndex_2214a : MethodName := ⟨RJ2, "checkIndex", "(I[B)V"⟩
def RJ10 : String := "java/lang/System"
def RJ3 : String := "jdk/internal/util/Preconditions"
abbrev cJ3_checkIndex_8e157 : ByteArray := prog_19_method_11_code
def yJ3_checkIndex_8e157 : MethodName := ⟨RJ3, "checkIndex", "(IILjava/util/function/BiFunction;)I"⟩
def RL : String := "CubeClosuresLaw"
abbrev cL_law : ByteArray := code
def yL_law : MethodName := ⟨RL, "law", "([I)Z"⟩
abbrev vwCl : List vw_C := [(RX0, TX0, 12), (RX1, TX1, 4), (RX3, TX3, 2), (RX4, TX4, 3), (RX5, TX5, 6), (RX6, TX6, 6), (RX7, TX7, 4), (RX8, TX8, 10), (RX9, TX9, 30)]
