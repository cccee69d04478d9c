section
-- ===== PART A: goes FIRST, ahead of the names: the tables' words, and 'selects' of the private methods out of them =====
/-- a private method of a class that the tables say can be made, by its rows of tables_1 -/
def lw_okq (q : MethodName × Nat) : Prop := (q.1.cls ≠ "java/lang/invoke/MethodHandle" ∧ q.1.cls ≠ "java/lang/invoke/VarHandle") ∧ Cond.instantiable q.1.cls q.2 ∈ tables_1 ∧ Cond.privateMethod q.1 ∈ tables_1 ∧ Cond.instanceMethod q.1 ∈ tables_1
theorem lw_p0 : lw_okq (⟨"CubeClosures$Clauses", "doClause", "()Z"⟩, 4) := ⟨⟨by decide +kernel, by decide +kernel⟩, List.mem_of_getElem? (i := 28) (by decide +kernel), List.mem_of_getElem? (i := 296) (by decide +kernel), List.mem_of_getElem? (i := 297) (by decide +kernel)⟩
theorem lw_p1 : lw_okq (⟨"CubeClosures$Clauses", "doTable", "()Z"⟩, 4) := ⟨⟨by decide +kernel, by decide +kernel⟩, List.mem_of_getElem? (i := 28) (by decide +kernel), List.mem_of_getElem? (i := 353) (by decide +kernel), List.mem_of_getElem? (i := 354) (by decide +kernel)⟩
theorem lw_p2 : lw_okq (⟨"CubeClosures$Clauses", "doSupport", "()Z"⟩, 4) := ⟨⟨by decide +kernel, by decide +kernel⟩, List.mem_of_getElem? (i := 28) (by decide +kernel), List.mem_of_getElem? (i := 370) (by decide +kernel), List.mem_of_getElem? (i := 371) (by decide +kernel)⟩
theorem lw_p3 : lw_okq (⟨"CubeClosures$Clauses", "doRow", "()Z"⟩, 4) := ⟨⟨by decide +kernel, by decide +kernel⟩, List.mem_of_getElem? (i := 28) (by decide +kernel), List.mem_of_getElem? (i := 375) (by decide +kernel), List.mem_of_getElem? (i := 376) (by decide +kernel)⟩
theorem lw_p4 : lw_okq (⟨"CubeClosures$Table", "hasFigures", "(II)Z"⟩, 6) := ⟨⟨by decide +kernel, by decide +kernel⟩, List.mem_of_getElem? (i := 56) (by decide +kernel), List.mem_of_getElem? (i := 399) (by decide +kernel), List.mem_of_getElem? (i := 400) (by decide +kernel)⟩
theorem lw_p5 : lw_okq (⟨"CubeClosures", "freshCells", "()LCubeClosures$Cells;"⟩, 10) := ⟨⟨by decide +kernel, by decide +kernel⟩, List.mem_of_getElem? (i := 20) (by decide +kernel), List.mem_of_getElem? (i := 458) (by decide +kernel), List.mem_of_getElem? (i := 459) (by decide +kernel)⟩
theorem lw_p6 : lw_okq (⟨"CubeClosures$Cells", "findHaving", "()V"⟩, 12) := ⟨⟨by decide +kernel, by decide +kernel⟩, List.mem_of_getElem? (i := 113) (by decide +kernel), List.mem_of_getElem? (i := 466) (by decide +kernel), List.mem_of_getElem? (i := 467) (by decide +kernel)⟩
theorem lw_p7 : lw_okq (⟨"CubeClosures$Cells", "spreadBy", "(I)V"⟩, 12) := ⟨⟨by decide +kernel, by decide +kernel⟩, List.mem_of_getElem? (i := 113) (by decide +kernel), List.mem_of_getElem? (i := 470) (by decide +kernel), List.mem_of_getElem? (i := 471) (by decide +kernel)⟩
theorem lw_p8 : lw_okq (⟨"CubeClosures$Cells", "havingFigure", "(II)J"⟩, 12) := ⟨⟨by decide +kernel, by decide +kernel⟩, List.mem_of_getElem? (i := 113) (by decide +kernel), List.mem_of_getElem? (i := 474) (by decide +kernel), List.mem_of_getElem? (i := 475) (by decide +kernel)⟩
theorem lw_p9 : lw_okq (⟨"CubeClosures$Cells", "tally", "()V"⟩, 12) := ⟨⟨by decide +kernel, by decide +kernel⟩, List.mem_of_getElem? (i := 113) (by decide +kernel), List.mem_of_getElem? (i := 478) (by decide +kernel), List.mem_of_getElem? (i := 479) (by decide +kernel)⟩
theorem lw_p10 : lw_okq (⟨"CubeClosures$Cells", "sharedWith", "(IJ)I"⟩, 12) := ⟨⟨by decide +kernel, by decide +kernel⟩, List.mem_of_getElem? (i := 113) (by decide +kernel), List.mem_of_getElem? (i := 494) (by decide +kernel), List.mem_of_getElem? (i := 495) (by decide +kernel)⟩
theorem lw_p11 : lw_okq (⟨"CubeClosures$Cells", "dimensionsOf", "(I)I"⟩, 12) := ⟨⟨by decide +kernel, by decide +kernel⟩, List.mem_of_getElem? (i := 113) (by decide +kernel), List.mem_of_getElem? (i := 499) (by decide +kernel), List.mem_of_getElem? (i := 500) (by decide +kernel)⟩
theorem lw_p12 : lw_okq (⟨"CubeClosures$Cells", "within", "(II)I"⟩, 12) := ⟨⟨by decide +kernel, by decide +kernel⟩, List.mem_of_getElem? (i := 113) (by decide +kernel), List.mem_of_getElem? (i := 596) (by decide +kernel), List.mem_of_getElem? (i := 597) (by decide +kernel)⟩
theorem lw_p13 : lw_okq (⟨"CubeClosures$Cells", "isInCube", "(IJ)Z"⟩, 12) := ⟨⟨by decide +kernel, by decide +kernel⟩, List.mem_of_getElem? (i := 113) (by decide +kernel), List.mem_of_getElem? (i := 601) (by decide +kernel), List.mem_of_getElem? (i := 602) (by decide +kernel)⟩
theorem lw_p14 : lw_okq (⟨"CubeClosuresModel", "reads", "(Z)Z"⟩, 30) := ⟨⟨by decide +kernel, by decide +kernel⟩, List.mem_of_getElem? (i := 732) (by decide +kernel), List.mem_of_getElem? (i := 845) (by decide +kernel), List.mem_of_getElem? (i := 846) (by decide +kernel)⟩
theorem lw_p15 : lw_okq (⟨"CubeClosuresModel", "nextToken", "()V"⟩, 30) := ⟨⟨by decide +kernel, by decide +kernel⟩, List.mem_of_getElem? (i := 732) (by decide +kernel), List.mem_of_getElem? (i := 849) (by decide +kernel), List.mem_of_getElem? (i := 850) (by decide +kernel)⟩
def lw_privs_1 : List (MethodName × Nat) := [(⟨"CubeClosures$Clauses", "doClause", "()Z"⟩, 4), (⟨"CubeClosures$Clauses", "doTable", "()Z"⟩, 4), (⟨"CubeClosures$Clauses", "doSupport", "()Z"⟩, 4), (⟨"CubeClosures$Clauses", "doRow", "()Z"⟩, 4), (⟨"CubeClosures$Table", "hasFigures", "(II)Z"⟩, 6), (⟨"CubeClosures", "freshCells", "()LCubeClosures$Cells;"⟩, 10), (⟨"CubeClosures$Cells", "findHaving", "()V"⟩, 12), (⟨"CubeClosures$Cells", "spreadBy", "(I)V"⟩, 12), (⟨"CubeClosures$Cells", "havingFigure", "(II)J"⟩, 12), (⟨"CubeClosures$Cells", "tally", "()V"⟩, 12), (⟨"CubeClosures$Cells", "sharedWith", "(IJ)I"⟩, 12), (⟨"CubeClosures$Cells", "dimensionsOf", "(I)I"⟩, 12), (⟨"CubeClosures$Cells", "within", "(II)I"⟩, 12), (⟨"CubeClosures$Cells", "isInCube", "(IJ)Z"⟩, 12), (⟨"CubeClosuresModel", "reads", "(Z)Z"⟩, 30), (⟨"CubeClosuresModel", "nextToken", "()V"⟩, 30)]
theorem lw_r1 : ∀ q ∈ lw_privs_1, lw_okq q := List.forall_mem_cons.mpr ⟨lw_p0, List.forall_mem_cons.mpr ⟨lw_p1, List.forall_mem_cons.mpr ⟨lw_p2, List.forall_mem_cons.mpr ⟨lw_p3, List.forall_mem_cons.mpr ⟨lw_p4, List.forall_mem_cons.mpr ⟨lw_p5, List.forall_mem_cons.mpr ⟨lw_p6, List.forall_mem_cons.mpr ⟨lw_p7, List.forall_mem_cons.mpr ⟨lw_p8, List.forall_mem_cons.mpr ⟨lw_p9, List.forall_mem_cons.mpr ⟨lw_p10, List.forall_mem_cons.mpr ⟨lw_p11, List.forall_mem_cons.mpr ⟨lw_p12, List.forall_mem_cons.mpr ⟨lw_p13, List.forall_mem_cons.mpr ⟨lw_p14, List.forall_mem_cons.mpr ⟨lw_p15, fun _ h => absurd h List.not_mem_nil⟩⟩⟩⟩⟩⟩⟩⟩⟩⟩⟩⟩⟩⟩⟩⟩
theorem lw_p16 : lw_okq (⟨"CubeClosuresModel", "readsClause", "()Z"⟩, 30) := ⟨⟨by decide +kernel, by decide +kernel⟩, List.mem_of_getElem? (i := 732) (by decide +kernel), List.mem_of_getElem? (i := 863) (by decide +kernel), List.mem_of_getElem? (i := 864) (by decide +kernel)⟩
theorem lw_p17 : lw_okq (⟨"CubeClosuresModel", "wordHere", "()I"⟩, 30) := ⟨⟨by decide +kernel, by decide +kernel⟩, List.mem_of_getElem? (i := 732) (by decide +kernel), List.mem_of_getElem? (i := 867) (by decide +kernel), List.mem_of_getElem? (i := 868) (by decide +kernel)⟩
theorem lw_p18 : lw_okq (⟨"CubeClosuresModel", "isWord", "([I)Z"⟩, 30) := ⟨⟨by decide +kernel, by decide +kernel⟩, List.mem_of_getElem? (i := 732) (by decide +kernel), List.mem_of_getElem? (i := 871) (by decide +kernel), List.mem_of_getElem? (i := 872) (by decide +kernel)⟩
theorem lw_p19 : lw_okq (⟨"CubeClosuresModel", "readsTable", "()Z"⟩, 30) := ⟨⟨by decide +kernel, by decide +kernel⟩, List.mem_of_getElem? (i := 732) (by decide +kernel), List.mem_of_getElem? (i := 875) (by decide +kernel), List.mem_of_getElem? (i := 876) (by decide +kernel)⟩
theorem lw_p20 : lw_okq (⟨"CubeClosuresModel", "isEnd", "()Z"⟩, 30) := ⟨⟨by decide +kernel, by decide +kernel⟩, List.mem_of_getElem? (i := 732) (by decide +kernel), List.mem_of_getElem? (i := 879) (by decide +kernel), List.mem_of_getElem? (i := 880) (by decide +kernel)⟩
theorem lw_p21 : lw_okq (⟨"CubeClosuresModel", "readsNumber", "(II)Z"⟩, 30) := ⟨⟨by decide +kernel, by decide +kernel⟩, List.mem_of_getElem? (i := 732) (by decide +kernel), List.mem_of_getElem? (i := 883) (by decide +kernel), List.mem_of_getElem? (i := 884) (by decide +kernel)⟩
theorem lw_p22 : lw_okq (⟨"CubeClosuresModel", "readsSupport", "()Z"⟩, 30) := ⟨⟨by decide +kernel, by decide +kernel⟩, List.mem_of_getElem? (i := 732) (by decide +kernel), List.mem_of_getElem? (i := 887) (by decide +kernel), List.mem_of_getElem? (i := 888) (by decide +kernel)⟩
theorem lw_p23 : lw_okq (⟨"CubeClosuresModel", "readsRow", "()Z"⟩, 30) := ⟨⟨by decide +kernel, by decide +kernel⟩, List.mem_of_getElem? (i := 732) (by decide +kernel), List.mem_of_getElem? (i := 891) (by decide +kernel), List.mem_of_getElem? (i := 892) (by decide +kernel)⟩
theorem lw_p24 : lw_okq (⟨"CubeClosuresModel", "put", "(III)V"⟩, 30) := ⟨⟨by decide +kernel, by decide +kernel⟩, List.mem_of_getElem? (i := 732) (by decide +kernel), List.mem_of_getElem? (i := 895) (by decide +kernel), List.mem_of_getElem? (i := 896) (by decide +kernel)⟩
theorem lw_p25 : lw_okq (⟨"CubeClosuresModel", "isWhole", "(I)Z"⟩, 30) := ⟨⟨by decide +kernel, by decide +kernel⟩, List.mem_of_getElem? (i := 732) (by decide +kernel), List.mem_of_getElem? (i := 907) (by decide +kernel), List.mem_of_getElem? (i := 908) (by decide +kernel)⟩
theorem lw_p26 : lw_okq (⟨"CubeClosuresModel", "isCell", "(I)Z"⟩, 30) := ⟨⟨by decide +kernel, by decide +kernel⟩, List.mem_of_getElem? (i := 732) (by decide +kernel), List.mem_of_getElem? (i := 911) (by decide +kernel), List.mem_of_getElem? (i := 912) (by decide +kernel)⟩
theorem lw_p27 : lw_okq (⟨"CubeClosuresModel", "codes", "()I"⟩, 30) := ⟨⟨by decide +kernel, by decide +kernel⟩, List.mem_of_getElem? (i := 732) (by decide +kernel), List.mem_of_getElem? (i := 915) (by decide +kernel), List.mem_of_getElem? (i := 916) (by decide +kernel)⟩
theorem lw_p28 : lw_okq (⟨"CubeClosuresModel", "figure", "(II)I"⟩, 30) := ⟨⟨by decide +kernel, by decide +kernel⟩, List.mem_of_getElem? (i := 732) (by decide +kernel), List.mem_of_getElem? (i := 919) (by decide +kernel), List.mem_of_getElem? (i := 920) (by decide +kernel)⟩
theorem lw_p29 : lw_okq (⟨"CubeClosuresModel", "keepPast", "()V"⟩, 30) := ⟨⟨by decide +kernel, by decide +kernel⟩, List.mem_of_getElem? (i := 732) (by decide +kernel), List.mem_of_getElem? (i := 925) (by decide +kernel), List.mem_of_getElem? (i := 926) (by decide +kernel)⟩
theorem lw_p30 : lw_okq (⟨"CubeClosuresModel", "copyRow", "(II)V"⟩, 30) := ⟨⟨by decide +kernel, by decide +kernel⟩, List.mem_of_getElem? (i := 732) (by decide +kernel), List.mem_of_getElem? (i := 929) (by decide +kernel), List.mem_of_getElem? (i := 930) (by decide +kernel)⟩
theorem lw_p31 : lw_okq (⟨"CubeClosuresModel", "isEntry", "(I)Z"⟩, 30) := ⟨⟨by decide +kernel, by decide +kernel⟩, List.mem_of_getElem? (i := 732) (by decide +kernel), List.mem_of_getElem? (i := 937) (by decide +kernel), List.mem_of_getElem? (i := 938) (by decide +kernel)⟩
def lw_privs_2 : List (MethodName × Nat) := [(⟨"CubeClosuresModel", "readsClause", "()Z"⟩, 30), (⟨"CubeClosuresModel", "wordHere", "()I"⟩, 30), (⟨"CubeClosuresModel", "isWord", "([I)Z"⟩, 30), (⟨"CubeClosuresModel", "readsTable", "()Z"⟩, 30), (⟨"CubeClosuresModel", "isEnd", "()Z"⟩, 30), (⟨"CubeClosuresModel", "readsNumber", "(II)Z"⟩, 30), (⟨"CubeClosuresModel", "readsSupport", "()Z"⟩, 30), (⟨"CubeClosuresModel", "readsRow", "()Z"⟩, 30), (⟨"CubeClosuresModel", "put", "(III)V"⟩, 30), (⟨"CubeClosuresModel", "isWhole", "(I)Z"⟩, 30), (⟨"CubeClosuresModel", "isCell", "(I)Z"⟩, 30), (⟨"CubeClosuresModel", "codes", "()I"⟩, 30), (⟨"CubeClosuresModel", "figure", "(II)I"⟩, 30), (⟨"CubeClosuresModel", "keepPast", "()V"⟩, 30), (⟨"CubeClosuresModel", "copyRow", "(II)V"⟩, 30), (⟨"CubeClosuresModel", "isEntry", "(I)Z"⟩, 30)]
theorem lw_r2 : ∀ q ∈ lw_privs_2, lw_okq q := List.forall_mem_cons.mpr ⟨lw_p16, List.forall_mem_cons.mpr ⟨lw_p17, List.forall_mem_cons.mpr ⟨lw_p18, List.forall_mem_cons.mpr ⟨lw_p19, List.forall_mem_cons.mpr ⟨lw_p20, List.forall_mem_cons.mpr ⟨lw_p21, List.forall_mem_cons.mpr ⟨lw_p22, List.forall_mem_cons.mpr ⟨lw_p23, List.forall_mem_cons.mpr ⟨lw_p24, List.forall_mem_cons.mpr ⟨lw_p25, List.forall_mem_cons.mpr ⟨lw_p26, List.forall_mem_cons.mpr ⟨lw_p27, List.forall_mem_cons.mpr ⟨lw_p28, List.forall_mem_cons.mpr ⟨lw_p29, List.forall_mem_cons.mpr ⟨lw_p30, List.forall_mem_cons.mpr ⟨lw_p31, fun _ h => absurd h List.not_mem_nil⟩⟩⟩⟩⟩⟩⟩⟩⟩⟩⟩⟩⟩⟩⟩⟩
theorem lw_p32 : lw_okq (⟨"CubeClosuresModel", "takeOut", "(II)V"⟩, 30) := ⟨⟨by decide +kernel, by decide +kernel⟩, List.mem_of_getElem? (i := 732) (by decide +kernel), List.mem_of_getElem? (i := 941) (by decide +kernel), List.mem_of_getElem? (i := 942) (by decide +kernel)⟩
theorem lw_p33 : lw_okq (⟨"CubeClosuresModel", "gather", "(II)V"⟩, 30) := ⟨⟨by decide +kernel, by decide +kernel⟩, List.mem_of_getElem? (i := 732) (by decide +kernel), List.mem_of_getElem? (i := 971) (by decide +kernel), List.mem_of_getElem? (i := 972) (by decide +kernel)⟩
theorem lw_p34 : lw_okq (⟨"CubeClosuresModel", "covers", "(II)Z"⟩, 30) := ⟨⟨by decide +kernel, by decide +kernel⟩, List.mem_of_getElem? (i := 732) (by decide +kernel), List.mem_of_getElem? (i := 977) (by decide +kernel), List.mem_of_getElem? (i := 978) (by decide +kernel)⟩
theorem lw_p35 : lw_okq (⟨"CubeClosuresModel", "common", "(II)I"⟩, 30) := ⟨⟨by decide +kernel, by decide +kernel⟩, List.mem_of_getElem? (i := 732) (by decide +kernel), List.mem_of_getElem? (i := 981) (by decide +kernel), List.mem_of_getElem? (i := 982) (by decide +kernel)⟩
theorem lw_p36 : lw_okq (⟨"CubeClosuresModel", "isIn", "(II)Z"⟩, 30) := ⟨⟨by decide +kernel, by decide +kernel⟩, List.mem_of_getElem? (i := 732) (by decide +kernel), List.mem_of_getElem? (i := 993) (by decide +kernel), List.mem_of_getElem? (i := 994) (by decide +kernel)⟩
theorem lw_p37 : lw_okq (⟨"CubeClosuresModel", "isOrder", "(I)Z"⟩, 30) := ⟨⟨by decide +kernel, by decide +kernel⟩, List.mem_of_getElem? (i := 732) (by decide +kernel), List.mem_of_getElem? (i := 1005) (by decide +kernel), List.mem_of_getElem? (i := 1006) (by decide +kernel)⟩
theorem lw_p38 : lw_okq (⟨"CubeClosuresModel", "placeIn", "(II)I"⟩, 30) := ⟨⟨by decide +kernel, by decide +kernel⟩, List.mem_of_getElem? (i := 732) (by decide +kernel), List.mem_of_getElem? (i := 1009) (by decide +kernel), List.mem_of_getElem? (i := 1010) (by decide +kernel)⟩
theorem lw_p39 : lw_okq (⟨"CubeClosuresModel", "layCounts", "()V"⟩, 30) := ⟨⟨by decide +kernel, by decide +kernel⟩, List.mem_of_getElem? (i := 732) (by decide +kernel), List.mem_of_getElem? (i := 1013) (by decide +kernel), List.mem_of_getElem? (i := 1014) (by decide +kernel)⟩
theorem lw_p40 : lw_okq (⟨"CubeClosuresModel", "workBy", "(I)I"⟩, 30) := ⟨⟨by decide +kernel, by decide +kernel⟩, List.mem_of_getElem? (i := 732) (by decide +kernel), List.mem_of_getElem? (i := 1017) (by decide +kernel), List.mem_of_getElem? (i := 1018) (by decide +kernel)⟩
theorem lw_p41 : lw_okq (⟨"CubeClosuresModel", "cubeOf", "(I)I"⟩, 30) := ⟨⟨by decide +kernel, by decide +kernel⟩, List.mem_of_getElem? (i := 732) (by decide +kernel), List.mem_of_getElem? (i := 1029) (by decide +kernel), List.mem_of_getElem? (i := 1030) (by decide +kernel)⟩
theorem lw_p42 : lw_okq (⟨"CubeClosuresModel", "only", "(II)I"⟩, 30) := ⟨⟨by decide +kernel, by decide +kernel⟩, List.mem_of_getElem? (i := 732) (by decide +kernel), List.mem_of_getElem? (i := 1033) (by decide +kernel), List.mem_of_getElem? (i := 1034) (by decide +kernel)⟩
theorem lw_p43 : lw_okq (⟨"CubeClosuresModel", "isKey", "(I)Z"⟩, 30) := ⟨⟨by decide +kernel, by decide +kernel⟩, List.mem_of_getElem? (i := 732) (by decide +kernel), List.mem_of_getElem? (i := 1050) (by decide +kernel), List.mem_of_getElem? (i := 1051) (by decide +kernel)⟩
theorem lw_p44 : lw_okq (⟨"CubeClosuresModel", "areAlike", "(III)Z"⟩, 30) := ⟨⟨by decide +kernel, by decide +kernel⟩, List.mem_of_getElem? (i := 732) (by decide +kernel), List.mem_of_getElem? (i := 1054) (by decide +kernel), List.mem_of_getElem? (i := 1055) (by decide +kernel)⟩
theorem lw_p45 : lw_okq (⟨"CubeClosuresModel", "noPlace", "(II)I"⟩, 30) := ⟨⟨by decide +kernel, by decide +kernel⟩, List.mem_of_getElem? (i := 732) (by decide +kernel), List.mem_of_getElem? (i := 1080) (by decide +kernel), List.mem_of_getElem? (i := 1081) (by decide +kernel)⟩
theorem lw_p46 : lw_okq (⟨"CubeClosuresModel", "times", "(JJ)J"⟩, 30) := ⟨⟨by decide +kernel, by decide +kernel⟩, List.mem_of_getElem? (i := 732) (by decide +kernel), List.mem_of_getElem? (i := 1088) (by decide +kernel), List.mem_of_getElem? (i := 1089) (by decide +kernel)⟩
theorem lw_p47 : lw_okq (⟨"CubeClosuresModel", "plus", "(JJ)J"⟩, 30) := ⟨⟨by decide +kernel, by decide +kernel⟩, List.mem_of_getElem? (i := 732) (by decide +kernel), List.mem_of_getElem? (i := 1092) (by decide +kernel), List.mem_of_getElem? (i := 1093) (by decide +kernel)⟩
def lw_privs_3 : List (MethodName × Nat) := [(⟨"CubeClosuresModel", "takeOut", "(II)V"⟩, 30), (⟨"CubeClosuresModel", "gather", "(II)V"⟩, 30), (⟨"CubeClosuresModel", "covers", "(II)Z"⟩, 30), (⟨"CubeClosuresModel", "common", "(II)I"⟩, 30), (⟨"CubeClosuresModel", "isIn", "(II)Z"⟩, 30), (⟨"CubeClosuresModel", "isOrder", "(I)Z"⟩, 30), (⟨"CubeClosuresModel", "placeIn", "(II)I"⟩, 30), (⟨"CubeClosuresModel", "layCounts", "()V"⟩, 30), (⟨"CubeClosuresModel", "workBy", "(I)I"⟩, 30), (⟨"CubeClosuresModel", "cubeOf", "(I)I"⟩, 30), (⟨"CubeClosuresModel", "only", "(II)I"⟩, 30), (⟨"CubeClosuresModel", "isKey", "(I)Z"⟩, 30), (⟨"CubeClosuresModel", "areAlike", "(III)Z"⟩, 30), (⟨"CubeClosuresModel", "noPlace", "(II)I"⟩, 30), (⟨"CubeClosuresModel", "times", "(JJ)J"⟩, 30), (⟨"CubeClosuresModel", "plus", "(JJ)J"⟩, 30)]
theorem lw_r3 : ∀ q ∈ lw_privs_3, lw_okq q := List.forall_mem_cons.mpr ⟨lw_p32, List.forall_mem_cons.mpr ⟨lw_p33, List.forall_mem_cons.mpr ⟨lw_p34, List.forall_mem_cons.mpr ⟨lw_p35, List.forall_mem_cons.mpr ⟨lw_p36, List.forall_mem_cons.mpr ⟨lw_p37, List.forall_mem_cons.mpr ⟨lw_p38, List.forall_mem_cons.mpr ⟨lw_p39, List.forall_mem_cons.mpr ⟨lw_p40, List.forall_mem_cons.mpr ⟨lw_p41, List.forall_mem_cons.mpr ⟨lw_p42, List.forall_mem_cons.mpr ⟨lw_p43, List.forall_mem_cons.mpr ⟨lw_p44, List.forall_mem_cons.mpr ⟨lw_p45, List.forall_mem_cons.mpr ⟨lw_p46, List.forall_mem_cons.mpr ⟨lw_p47, fun _ h => absurd h List.not_mem_nil⟩⟩⟩⟩⟩⟩⟩⟩⟩⟩⟩⟩⟩⟩⟩⟩
theorem lw_p48 : lw_okq (⟨"CubeClosuresModel", "supported", "()I"⟩, 30) := ⟨⟨by decide +kernel, by decide +kernel⟩, List.mem_of_getElem? (i := 732) (by decide +kernel), List.mem_of_getElem? (i := 1120) (by decide +kernel), List.mem_of_getElem? (i := 1121) (by decide +kernel)⟩
theorem lw_p49 : lw_okq (⟨"CubeClosuresModel", "valuesTold", "()I"⟩, 30) := ⟨⟨by decide +kernel, by decide +kernel⟩, List.mem_of_getElem? (i := 732) (by decide +kernel), List.mem_of_getElem? (i := 1124) (by decide +kernel), List.mem_of_getElem? (i := 1125) (by decide +kernel)⟩
theorem lw_p50 : lw_okq (⟨"CubeClosuresModel", "allPlaces", "()I"⟩, 30) := ⟨⟨by decide +kernel, by decide +kernel⟩, List.mem_of_getElem? (i := 732) (by decide +kernel), List.mem_of_getElem? (i := 1128) (by decide +kernel), List.mem_of_getElem? (i := 1129) (by decide +kernel)⟩
def lw_privs_4 : List (MethodName × Nat) := [(⟨"CubeClosuresModel", "supported", "()I"⟩, 30), (⟨"CubeClosuresModel", "valuesTold", "()I"⟩, 30), (⟨"CubeClosuresModel", "allPlaces", "()I"⟩, 30)]
theorem lw_r4 : ∀ q ∈ lw_privs_4, lw_okq q := List.forall_mem_cons.mpr ⟨lw_p48, List.forall_mem_cons.mpr ⟨lw_p49, List.forall_mem_cons.mpr ⟨lw_p50, fun _ h => absurd h List.not_mem_nil⟩⟩⟩
def lw_privs : List (MethodName × Nat) := lw_privs_1 ++ (lw_privs_2 ++ (lw_privs_3 ++ (lw_privs_4)))
def lw_tbl : List Cond := k2_sels lw_privs ++ tables_1
theorem lw_privs_ok : ∀ q ∈ lw_privs, lw_okq q := by
  show ∀ q ∈ lw_privs_1 ++ (lw_privs_2 ++ (lw_privs_3 ++ (lw_privs_4))), lw_okq q
  exact List.forall_mem_append.mpr ⟨lw_r1, List.forall_mem_append.mpr ⟨lw_r2, List.forall_mem_append.mpr ⟨lw_r3, lw_r4⟩⟩⟩
-- names, of the claim
def RX0 : String := "CubeClosures$Cells"
def TX0 : u_T := fun k => match k with
  | 0 => ("CubeClosures$Cells", "table", "LCubeClosures$Table;", true)
  | 1 => ("CubeClosures$Cells", "parting", "LCubeClosures$Parting;", true)
  | 2 => ("CubeClosures$Cells", "having", "[J", true)
  | 3 => ("CubeClosures$Cells", "size", "I", false)
  | 4 => ("CubeClosures$Cells", "codes", "[I", false)
  | 5 => ("CubeClosures$Cells", "covers", "[J", false)
  | 6 => ("CubeClosures$Cells", "otherCodes", "[I", false)
  | 7 => ("CubeClosures$Cells", "otherCovers", "[J", false)
  | 8 => ("CubeClosures$Cells", "isClosed", "[Z", true)
  | 9 => ("CubeClosures$Cells", "allOfSize", "[I", true)
  | 10 => ("CubeClosures$Cells", "closedOfSize", "[I", true)
  | _ => ("CubeClosures$Cells", "cellsOn", "[I", true)
def tyX0 : Nat → FieldType := fun k => match k with
  | 0 => .object "CubeClosures$Table"
  | 1 => .object "CubeClosures$Parting"
  | 2 => .array .long
  | 3 => .int
  | 4 => .array .int
  | 5 => .array .long
  | 6 => .array .int
  | 7 => .array .long
  | 8 => .array .boolean
  | 9 => .array .int
  | 10 => .array .int
  | _ => .array .int
abbrev wsX00 : List Cond := u_ws RX0 TX0 12
theorem nmX0 : ∀ a, a < 12 → ∀ b, b < 12 → a ≠ b → (TX0 a).2.1 ≠ (TX0 b).2.1 := by decide +kernel
theorem tyX0_ok : ∀ k, k < 12 → parseFieldDescriptor (TX0 k).2.2.1 = some (tyX0 k) := by decide +kernel
abbrev cX0_init : ByteArray := prog_2_method_1_code
def yX0_init : MethodName := ⟨RX0, "<init>", "()V"⟩
abbrev cX0_list : ByteArray := prog_2_method_2_code
def yX0_list : MethodName := ⟨RX0, "list", "()V"⟩
abbrev cX0_findHaving : ByteArray := prog_2_method_3_code
def yX0_findHaving : MethodName := ⟨RX0, "findHaving", "()V"⟩
abbrev cX0_spreadBy : ByteArray := prog_2_method_4_code
def yX0_spreadBy : MethodName := ⟨RX0, "spreadBy", "(I)V"⟩
abbrev cX0_tally : ByteArray := prog_2_method_5_code
def yX0_tally : MethodName := ⟨RX0, "tally", "()V"⟩
abbrev cX0_havingFigure : ByteArray := prog_2_method_6_code
def yX0_havingFigure : MethodName := ⟨RX0, "havingFigure", "(II)J"⟩
abbrev cX0_coverOf : ByteArray := prog_2_method_7_code
def yX0_coverOf : MethodName := ⟨RX0, "coverOf", "(I)J"⟩
abbrev cX0_closureOf : ByteArray := prog_2_method_8_code
def yX0_closureOf : MethodName := ⟨RX0, "closureOf", "(J)I"⟩
abbrev cX0_sharedWith : ByteArray := prog_2_method_9_code
def yX0_sharedWith : MethodName := ⟨RX0, "sharedWith", "(IJ)I"⟩
abbrev cX0_dimensionsOf : ByteArray := prog_2_method_10_code
def yX0_dimensionsOf : MethodName := ⟨RX0, "dimensionsOf", "(I)I"⟩
abbrev cX0_within : ByteArray := prog_2_method_11_code
def yX0_within : MethodName := ⟨RX0, "within", "(II)I"⟩
abbrev cX0_codeInCube : ByteArray := prog_2_method_12_code
def yX0_codeInCube : MethodName := ⟨RX0, "codeInCube", "(I)I"⟩
abbrev cX0_cubeSize : ByteArray := prog_2_method_13_code
def yX0_cubeSize : MethodName := ⟨RX0, "cubeSize", "(I)I"⟩
abbrev cX0_cellsWith : ByteArray := prog_2_method_14_code
def yX0_cellsWith : MethodName := ⟨RX0, "cellsWith", "(I)I"⟩
abbrev cX0_ofSizeOrMore : ByteArray := prog_2_method_15_code
def yX0_ofSizeOrMore : MethodName := ⟨RX0, "ofSizeOrMore", "([II)I"⟩
abbrev cX0_leastSupportFor : ByteArray := prog_2_method_16_code
def yX0_leastSupportFor : MethodName := ⟨RX0, "leastSupportFor", "(I)I"⟩
abbrev cX0_isInCube : ByteArray := prog_2_method_17_code
def yX0_isInCube : MethodName := ⟨RX0, "isInCube", "(IJ)Z"⟩
abbrev cX0_gainedWith : ByteArray := prog_2_method_18_code
def yX0_gainedWith : MethodName := ⟨RX0, "gainedWith", "(I)I"⟩
abbrev cX0_lostWithout : ByteArray := prog_2_method_19_code
def yX0_lostWithout : MethodName := ⟨RX0, "lostWithout", "(I)I"⟩
abbrev cX0_leastKey : ByteArray := prog_2_method_20_code
def yX0_leastKey : MethodName := ⟨RX0, "leastKey", "()I"⟩
abbrev cX0_settles : ByteArray := prog_2_method_21_code
def yX0_settles : MethodName := ⟨RX0, "settles", "(II)Z"⟩
abbrev cX0_parted : ByteArray := prog_2_method_22_code
def yX0_parted : MethodName := ⟨RX0, "parted", "()LCubeClosures$Parting;"⟩
def RX1 : String := "CubeClosures$Clauses"
def TX1 : u_T := fun k => match k with
  | 0 => ("CubeClosures$Clauses", "text", "LCubeClosures$Text;", true)
  | 1 => ("CubeClosures$Clauses", "draft", "LCubeClosures$Table;", true)
  | 2 => ("CubeClosures$Clauses", "done", "I", false)
  | _ => ("CubeClosures$Clauses", "newValues", "[I", true)
def tyX1 : Nat → FieldType := fun k => match k with
  | 0 => .object "CubeClosures$Text"
  | 1 => .object "CubeClosures$Table"
  | 2 => .int
  | _ => .array .int
abbrev wsX10 : List Cond := u_ws RX1 TX1 4
theorem nmX1 : ∀ a, a < 4 → ∀ b, b < 4 → a ≠ b → (TX1 a).2.1 ≠ (TX1 b).2.1 := by decide +kernel
theorem tyX1_ok : ∀ k, k < 4 → parseFieldDescriptor (TX1 k).2.2.1 = some (tyX1 k) := by decide +kernel
abbrev cX1_init : ByteArray := prog_3_method_1_code
def yX1_init : MethodName := ⟨RX1, "<init>", "()V"⟩
abbrev cX1_draftUpon : ByteArray := prog_3_method_2_code
def yX1_draftUpon : MethodName := ⟨RX1, "draftUpon", "(LCubeClosures$Table;)I"⟩
abbrev cX1_doClause : ByteArray := prog_3_method_3_code
def yX1_doClause : MethodName := ⟨RX1, "doClause", "()Z"⟩
abbrev cX1_doTable : ByteArray := prog_3_method_4_code
def yX1_doTable : MethodName := ⟨RX1, "doTable", "()Z"⟩
abbrev cX1_doSupport : ByteArray := prog_3_method_5_code
def yX1_doSupport : MethodName := ⟨RX1, "doSupport", "()Z"⟩
abbrev cX1_doRow : ByteArray := prog_3_method_6_code
def yX1_doRow : MethodName := ⟨RX1, "doRow", "()Z"⟩
def RX2 : String := "CubeClosures$Exact"
def TX2 : u_T := fun k => match k with
  | _ => ("", "", "", false)
def tyX2 : Nat → FieldType := fun k => match k with
  | _ => .int
abbrev wsX20 : List Cond := u_ws RX2 TX2 0
theorem nmX2 : ∀ a, a < 0 → ∀ b, b < 0 → a ≠ b → (TX2 a).2.1 ≠ (TX2 b).2.1 := by decide +kernel
theorem tyX2_ok : ∀ k, k < 0 → parseFieldDescriptor (TX2 k).2.2.1 = some (tyX2 k) := by decide +kernel
abbrev cX2_result : ByteArray := prog_4_method_2_code
def yX2_result : MethodName := ⟨RX2, "result", "(JIJ)J"⟩
abbrev cX2_isOver : ByteArray := prog_4_method_3_code
def yX2_isOver : MethodName := ⟨RX2, "isOver", "(JIJ)Z"⟩
def RX3 : String := "CubeClosures$LongRows"
def TX3 : u_T := fun k => match k with
  | 0 => ("CubeClosures$LongRows", "lengths", "[I", true)
  | _ => ("CubeClosures$LongRows", "places", "[[J", true)
def tyX3 : Nat → FieldType := fun k => match k with
  | 0 => .array .int
  | _ => .array (.array .long)
abbrev wsX30 : List Cond := u_ws RX3 TX3 2
theorem nmX3 : ∀ a, a < 2 → ∀ b, b < 2 → a ≠ b → (TX3 a).2.1 ≠ (TX3 b).2.1 := by decide +kernel
theorem tyX3_ok : ∀ k, k < 2 → parseFieldDescriptor (TX3 k).2.2.1 = some (tyX3 k) := by decide +kernel
abbrev cX3_init : ByteArray := prog_5_method_1_code
def yX3_init : MethodName := ⟨RX3, "<init>", "()V"⟩
abbrev cX3_isRow : ByteArray := prog_5_method_2_code
def yX3_isRow : MethodName := ⟨RX3, "isRow", "(I)Z"⟩
abbrev cX3_isMissing : ByteArray := prog_5_method_3_code
def yX3_isMissing : MethodName := ⟨RX3, "isMissing", "(I)Z"⟩
abbrev cX3_renew : ByteArray := prog_5_method_4_code
def yX3_renew : MethodName := ⟨RX3, "renew", "(II)V"⟩
abbrev cX3_finds : ByteArray := prog_5_method_5_code
def yX3_finds : MethodName := ⟨RX3, "finds", "(II)I"⟩
abbrev cX3_put : ByteArray := prog_5_method_6_code
def yX3_put : MethodName := ⟨RX3, "put", "(IIJ)I"⟩
abbrev cX3_placesInAll : ByteArray := prog_5_method_7_code
def yX3_placesInAll : MethodName := ⟨RX3, "placesInAll", "()I"⟩
def RX4 : String := "CubeClosures$Parting"
def TX4 : u_T := fun k => match k with
  | 0 => ("CubeClosures$Parting", "dimensions", "I", false)
  | 1 => ("CubeClosures$Parting", "visits", "I", false)
  | _ => ("CubeClosures$Parting", "entriesOn", "[I", true)
def tyX4 : Nat → FieldType := fun k => match k with
  | 0 => .int
  | 1 => .int
  | _ => .array .int
abbrev wsX40 : List Cond := u_ws RX4 TX4 3
theorem nmX4 : ∀ a, a < 3 → ∀ b, b < 3 → a ≠ b → (TX4 a).2.1 ≠ (TX4 b).2.1 := by decide +kernel
theorem tyX4_ok : ∀ k, k < 3 → parseFieldDescriptor (TX4 k).2.2.1 = some (tyX4 k) := by decide +kernel
abbrev cX4_init : ByteArray := prog_6_method_1_code
def yX4_init : MethodName := ⟨RX4, "<init>", "()V"⟩
abbrev cX4_isOrder : ByteArray := prog_6_method_2_code
def yX4_isOrder : MethodName := ⟨RX4, "isOrder", "(II)Z"⟩
abbrev cX4_startWith : ByteArray := prog_6_method_3_code
def yX4_startWith : MethodName := ⟨RX4, "startWith", "(II)V"⟩
abbrev cX4_goInto : ByteArray := prog_6_method_4_code
def yX4_goInto : MethodName := ⟨RX4, "goInto", "(II)V"⟩
abbrev cX4_workBy : ByteArray := prog_6_method_5_code
def yX4_workBy : MethodName := ⟨RX4, "workBy", "(I)I"⟩
abbrev cX4_bestOrder : ByteArray := prog_6_method_6_code
def yX4_bestOrder : MethodName := ⟨RX4, "bestOrder", "()I"⟩
abbrev cX4_ordersOf : ByteArray := prog_6_method_7_code
def yX4_ordersOf : MethodName := ⟨RX4, "ordersOf", "(I)[I"⟩
def RX5 : String := "CubeClosures$Past"
def TX5 : u_T := fun k => match k with
  | 0 => ("CubeClosures$Past", "size", "I", false)
  | 1 => ("CubeClosures$Past", "next", "I", false)
  | 2 => ("CubeClosures$Past", "kinds", "[I", true)
  | 3 => ("CubeClosures$Past", "numbers", "[I", true)
  | 4 => ("CubeClosures$Past", "codes", "[I", true)
  | _ => ("CubeClosures$Past", "measures", "[I", true)
def tyX5 : Nat → FieldType := fun k => match k with
  | 0 => .int
  | 1 => .int
  | 2 => .array .int
  | 3 => .array .int
  | 4 => .array .int
  | _ => .array .int
abbrev wsX50 : List Cond := u_ws RX5 TX5 6
theorem nmX5 : ∀ a, a < 6 → ∀ b, b < 6 → a ≠ b → (TX5 a).2.1 ≠ (TX5 b).2.1 := by decide +kernel
theorem tyX5_ok : ∀ k, k < 6 → parseFieldDescriptor (TX5 k).2.2.1 = some (tyX5 k) := by decide +kernel
abbrev cX5_init : ByteArray := prog_7_method_1_code
def yX5_init : MethodName := ⟨RX5, "<init>", "()V"⟩
abbrev cX5_record : ByteArray := prog_7_method_2_code
def yX5_record : MethodName := ⟨RX5, "record", "(IIII)V"⟩
abbrev cX5_undoLatest : ByteArray := prog_7_method_3_code
def yX5_undoLatest : MethodName := ⟨RX5, "undoLatest", "(LCubeClosures$Table;)V"⟩
def RX6 : String := "CubeClosures$Table"
def TX6 : u_T := fun k => match k with
  | 0 => ("CubeClosures$Table", "dimensions", "I", false)
  | 1 => ("CubeClosures$Table", "values", "[I", true)
  | 2 => ("CubeClosures$Table", "size", "I", false)
  | 3 => ("CubeClosures$Table", "codes", "[I", true)
  | 4 => ("CubeClosures$Table", "measures", "[I", true)
  | _ => ("CubeClosures$Table", "enough", "I", false)
def tyX6 : Nat → FieldType := fun k => match k with
  | 0 => .int
  | 1 => .array .int
  | 2 => .int
  | 3 => .array .int
  | 4 => .array .int
  | _ => .int
abbrev wsX60 : List Cond := u_ws RX6 TX6 6
theorem nmX6 : ∀ a, a < 6 → ∀ b, b < 6 → a ≠ b → (TX6 a).2.1 ≠ (TX6 b).2.1 := by decide +kernel
theorem tyX6_ok : ∀ k, k < 6 → parseFieldDescriptor (TX6 k).2.2.1 = some (tyX6 k) := by decide +kernel
abbrev cX6_init : ByteArray := prog_8_method_1_code
def yX6_init : MethodName := ⟨RX6, "<init>", "()V"⟩
abbrev cX6_startWith : ByteArray := prog_8_method_2_code
def yX6_startWith : MethodName := ⟨RX6, "startWith", "(I[I)V"⟩
abbrev cX6_copyFrom : ByteArray := prog_8_method_3_code
def yX6_copyFrom : MethodName := ⟨RX6, "copyFrom", "(LCubeClosures$Table;)V"⟩
abbrev cX6_hasEntry : ByteArray := prog_8_method_4_code
def yX6_hasEntry : MethodName := ⟨RX6, "hasEntry", "(I)Z"⟩
abbrev cX6_insert : ByteArray := prog_8_method_5_code
def yX6_insert : MethodName := ⟨RX6, "insert", "(III)V"⟩
abbrev cX6_takeOut : ByteArray := prog_8_method_6_code
def yX6_takeOut : MethodName := ⟨RX6, "takeOut", "(I)V"⟩
abbrev cX6_isCellCode : ByteArray := prog_8_method_7_code
def yX6_isCellCode : MethodName := ⟨RX6, "isCellCode", "(I)Z"⟩
abbrev cX6_isEntryCode : ByteArray := prog_8_method_8_code
def yX6_isEntryCode : MethodName := ⟨RX6, "isEntryCode", "(I)Z"⟩
abbrev cX6_hasFigures : ByteArray := prog_8_method_9_code
def yX6_hasFigures : MethodName := ⟨RX6, "hasFigures", "(II)Z"⟩
abbrev cX6_valueFigures : ByteArray := prog_8_method_10_code
def yX6_valueFigures : MethodName := ⟨RX6, "valueFigures", "()I"⟩
abbrev cX6_sumOf : ByteArray := prog_8_method_11_code
def yX6_sumOf : MethodName := ⟨RX6, "sumOf", "(J)I"⟩
abbrev cX6_leastOf : ByteArray := prog_8_method_12_code
def yX6_leastOf : MethodName := ⟨RX6, "leastOf", "(J)I"⟩
abbrev cX6_greatestOf : ByteArray := prog_8_method_13_code
def yX6_greatestOf : MethodName := ⟨RX6, "greatestOf", "(J)I"⟩
abbrev cX6_isIn : ByteArray := prog_8_method_14_code
def yX6_isIn : MethodName := ⟨RX6, "isIn", "(IJ)Z"⟩
def RX7 : String := "CubeClosures$Text"
def TX7 : u_T := fun k => match k with
  | 0 => ("CubeClosures$Text", "letters", "[C", true)
  | 1 => ("CubeClosures$Text", "length", "I", false)
  | 2 => ("CubeClosures$Text", "start", "I", false)
  | _ => ("CubeClosures$Text", "end", "I", false)
def tyX7 : Nat → FieldType := fun k => match k with
  | 0 => .array .char
  | 1 => .int
  | 2 => .int
  | _ => .int
abbrev wsX70 : List Cond := u_ws RX7 TX7 4
theorem nmX7 : ∀ a, a < 4 → ∀ b, b < 4 → a ≠ b → (TX7 a).2.1 ≠ (TX7 b).2.1 := by decide +kernel
theorem tyX7_ok : ∀ k, k < 4 → parseFieldDescriptor (TX7 k).2.2.1 = some (tyX7 k) := by decide +kernel
abbrev cX7_init : ByteArray := prog_9_method_1_code
def yX7_init : MethodName := ⟨RX7, "<init>", "()V"⟩
abbrev cX7_append : ByteArray := prog_9_method_2_code
def yX7_append : MethodName := ⟨RX7, "append", "(C)Z"⟩
abbrev cX7_rewind : ByteArray := prog_9_method_3_code
def yX7_rewind : MethodName := ⟨RX7, "rewind", "()V"⟩
abbrev cX7_toNextToken : ByteArray := prog_9_method_4_code
def yX7_toNextToken : MethodName := ⟨RX7, "toNextToken", "()V"⟩
abbrev cX7_isAtEnd : ByteArray := prog_9_method_5_code
def yX7_isAtEnd : MethodName := ⟨RX7, "isAtEnd", "()Z"⟩
abbrev cX7_isToken : ByteArray := prog_9_method_6_code
def yX7_isToken : MethodName := ⟨RX7, "isToken", "(Ljava/lang/String;)Z"⟩
abbrev cX7_numberWithin : ByteArray := prog_9_method_7_code
def yX7_numberWithin : MethodName := ⟨RX7, "numberWithin", "(II)I"⟩
abbrev cX7_isSmall : ByteArray := prog_9_method_8_code
def yX7_isSmall : MethodName := ⟨RX7, "isSmall", "(C)Z"⟩
abbrev cX7_isDigit : ByteArray := prog_9_method_9_code
def yX7_isDigit : MethodName := ⟨RX7, "isDigit", "(C)Z"⟩
def RX8 : String := "CubeClosures"
def TX8 : u_T := fun k => match k with
  | 0 => ("CubeClosures", "clauses", "LCubeClosures$Clauses;", true)
  | 1 => ("CubeClosures", "text", "LCubeClosures$Text;", true)
  | 2 => ("CubeClosures", "cells", "LCubeClosures$Cells;", true)
  | 3 => ("CubeClosures", "table", "LCubeClosures$Table;", true)
  | 4 => ("CubeClosures", "past", "LCubeClosures$Past;", true)
  | 5 => ("CubeClosures", "keeps", "[LCubeClosures$Table;", true)
  | 6 => ("CubeClosures", "isKept", "[Z", true)
  | 7 => ("CubeClosures", "rows", "LCubeClosures$LongRows;", true)
  | 8 => ("CubeClosures", "cellsAreOld", "Z", false)
  | _ => ("CubeClosures", "told", "J", false)
def tyX8 : Nat → FieldType := fun k => match k with
  | 0 => .object "CubeClosures$Clauses"
  | 1 => .object "CubeClosures$Text"
  | 2 => .object "CubeClosures$Cells"
  | 3 => .object "CubeClosures$Table"
  | 4 => .object "CubeClosures$Past"
  | 5 => .array (.object "CubeClosures$Table")
  | 6 => .array .boolean
  | 7 => .object "CubeClosures$LongRows"
  | 8 => .boolean
  | _ => .long
abbrev wsX80 : List Cond := u_ws RX8 TX8 10
theorem nmX8 : ∀ a, a < 10 → ∀ b, b < 10 → a ≠ b → (TX8 a).2.1 ≠ (TX8 b).2.1 := by decide +kernel
theorem tyX8_ok : ∀ k, k < 10 → parseFieldDescriptor (TX8 k).2.2.1 = some (tyX8 k) := by decide +kernel
abbrev cX8_init : ByteArray := prog_1_method_1_code
def yX8_init : MethodName := ⟨RX8, "<init>", "()V"⟩
abbrev cX8_write : ByteArray := prog_1_method_2_code
def yX8_write : MethodName := ⟨RX8, "write", "(I)I"⟩
abbrev cX8_erase : ByteArray := prog_1_method_3_code
def yX8_erase : MethodName := ⟨RX8, "erase", "()I"⟩
abbrev cX8_fault : ByteArray := prog_1_method_4_code
def yX8_fault : MethodName := ⟨RX8, "fault", "()I"⟩
abbrev cX8_read : ByteArray := prog_1_method_5_code
def yX8_read : MethodName := ⟨RX8, "read", "()I"⟩
abbrev cX8_add : ByteArray := prog_1_method_6_code
def yX8_add : MethodName := ⟨RX8, "add", "(II)I"⟩
abbrev cX8_remove : ByteArray := prog_1_method_7_code
def yX8_remove : MethodName := ⟨RX8, "remove", "(I)I"⟩
abbrev cX8_support : ByteArray := prog_1_method_8_code
def yX8_support : MethodName := ⟨RX8, "support", "(I)I"⟩
abbrev cX8_undo : ByteArray := prog_1_method_9_code
def yX8_undo : MethodName := ⟨RX8, "undo", "()I"⟩
abbrev cX8_keep : ByteArray := prog_1_method_10_code
def yX8_keep : MethodName := ⟨RX8, "keep", "(I)I"⟩
abbrev cX8_back : ByteArray := prog_1_method_11_code
def yX8_back : MethodName := ⟨RX8, "back", "(I)I"⟩
abbrev cX8_entry : ByteArray := prog_1_method_12_code
def yX8_entry : MethodName := ⟨RX8, "entry", "(II)I"⟩
abbrev cX8_cell : ByteArray := prog_1_method_13_code
def yX8_cell : MethodName := ⟨RX8, "cell", "(II)I"⟩
abbrev cX8_closure : ByteArray := prog_1_method_14_code
def yX8_closure : MethodName := ⟨RX8, "closure", "(I)I"⟩
abbrev cX8_kept : ByteArray := prog_1_method_15_code
def yX8_kept : MethodName := ⟨RX8, "kept", "(I)I"⟩
abbrev cX8_ask : ByteArray := prog_1_method_16_code
def yX8_ask : MethodName := ⟨RX8, "ask", "(II)I"⟩
abbrev cX8_part : ByteArray := prog_1_method_17_code
def yX8_part : MethodName := ⟨RX8, "part", "(II)I"⟩
abbrev cX8_best : ByteArray := prog_1_method_18_code
def yX8_best : MethodName := ⟨RX8, "best", "(I)I"⟩
abbrev cX8_more : ByteArray := prog_1_method_19_code
def yX8_more : MethodName := ⟨RX8, "more", "(II)I"⟩
abbrev cX8_less : ByteArray := prog_1_method_20_code
def yX8_less : MethodName := ⟨RX8, "less", "(II)I"⟩
abbrev cX8_cap : ByteArray := prog_1_method_21_code
def yX8_cap : MethodName := ⟨RX8, "cap", "(I)I"⟩
abbrev cX8_key : ByteArray := prog_1_method_22_code
def yX8_key : MethodName := ⟨RX8, "key", "()I"⟩
abbrev cX8_rule : ByteArray := prog_1_method_23_code
def yX8_rule : MethodName := ⟨RX8, "rule", "(II)I"⟩
abbrev cX8_row : ByteArray := prog_1_method_24_code
def yX8_row : MethodName := ⟨RX8, "row", "(II)I"⟩
abbrev cX8_set : ByteArray := prog_1_method_25_code
def yX8_set : MethodName := ⟨RX8, "set", "(III)I"⟩
abbrev cX8_work : ByteArray := prog_1_method_26_code
def yX8_work : MethodName := ⟨RX8, "work", "(IIII)I"⟩
abbrev cX8_bits : ByteArray := prog_1_method_27_code
def yX8_bits : MethodName := ⟨RX8, "bits", "(II)I"⟩
abbrev cX8_sum : ByteArray := prog_1_method_28_code
def yX8_sum : MethodName := ⟨RX8, "sum", "(I)I"⟩
abbrev cX8_load : ByteArray := prog_1_method_29_code
def yX8_load : MethodName := ⟨RX8, "load", "(III)I"⟩
abbrev cX8_drop : ByteArray := prog_1_method_30_code
def yX8_drop : MethodName := ⟨RX8, "drop", "(I)I"⟩
abbrev cX8_asked : ByteArray := prog_1_method_31_code
def yX8_asked : MethodName := ⟨RX8, "asked", "()J"⟩
abbrev cX8_count : ByteArray := prog_1_method_32_code
def yX8_count : MethodName := ⟨RX8, "count", "(I)I"⟩
abbrev cX8_freshCells : ByteArray := prog_1_method_33_code
def yX8_freshCells : MethodName := ⟨RX8, "freshCells", "()LCubeClosures$Cells;"⟩
def RX9 : String := "CubeClosuresModel"
def TX9 : u_T := fun k => match k with
  | 0 => ("CubeClosuresModel", "row", "[I", true)
  | 1 => ("CubeClosuresModel", "dimensions", "I", false)
  | 2 => ("CubeClosuresModel", "values", "[I", true)
  | 3 => ("CubeClosuresModel", "undos", "I", false)
  | 4 => ("CubeClosuresModel", "isKept", "[Z", true)
  | 5 => ("CubeClosuresModel", "text", "[I", true)
  | 6 => ("CubeClosuresModel", "length", "I", false)
  | 7 => ("CubeClosuresModel", "sizes", "[I", true)
  | 8 => ("CubeClosuresModel", "items", "[J", true)
  | 9 => ("CubeClosuresModel", "asked", "J", false)
  | 10 => ("CubeClosuresModel", "first", "I", false)
  | 11 => ("CubeClosuresModel", "behind", "I", false)
  | 12 => ("CubeClosuresModel", "readDimensions", "I", false)
  | 13 => ("CubeClosuresModel", "readValues", "[I", true)
  | 14 => ("CubeClosuresModel", "readMany", "I", false)
  | 15 => ("CubeClosuresModel", "clauses", "I", false)
  | 16 => ("CubeClosuresModel", "doing", "Z", false)
  | 17 => ("CubeClosuresModel", "number", "I", false)
  | 18 => ("CubeClosuresModel", "tableWord", "[I", true)
  | 19 => ("CubeClosuresModel", "supportWord", "[I", true)
  | 20 => ("CubeClosuresModel", "rowWord", "[I", true)
  | 21 => ("CubeClosuresModel", "many", "I", false)
  | 22 => ("CubeClosuresModel", "sum", "I", false)
  | 23 => ("CubeClosuresModel", "least", "I", false)
  | 24 => ("CubeClosuresModel", "greatest", "I", false)
  | 25 => ("CubeClosuresModel", "closed", "I", false)
  | 26 => ("CubeClosuresModel", "visits", "I", false)
  | 27 => ("CubeClosuresModel", "counts", "[I", true)
  | 28 => ("CubeClosuresModel", "byMany", "[I", true)
  | _ => ("CubeClosuresModel", "isOver", "Z", false)
def tyX9 : Nat → FieldType := fun k => match k with
  | 0 => .array .int
  | 1 => .int
  | 2 => .array .int
  | 3 => .int
  | 4 => .array .boolean
  | 5 => .array .int
  | 6 => .int
  | 7 => .array .int
  | 8 => .array .long
  | 9 => .long
  | 10 => .int
  | 11 => .int
  | 12 => .int
  | 13 => .array .int
  | 14 => .int
  | 15 => .int
  | 16 => .boolean
  | 17 => .int
  | 18 => .array .int
  | 19 => .array .int
  | 20 => .array .int
  | 21 => .int
  | 22 => .int
  | 23 => .int
  | 24 => .int
  | 25 => .int
  | 26 => .int
  | 27 => .array .int
  | 28 => .array .int
  | _ => .boolean
abbrev wsX90 : List Cond := u_ws RX9 TX9 30
theorem nmX9 : ∀ a, a < 30 → ∀ b, b < 30 → a ≠ b → (TX9 a).2.1 ≠ (TX9 b).2.1 := by decide +kernel
theorem tyX9_ok : ∀ k, k < 30 → parseFieldDescriptor (TX9 k).2.2.1 = some (tyX9 k) := by decide +kernel
abbrev cX9_init : ByteArray := prog_11_method_1_code
def yX9_init : MethodName := ⟨RX9, "<init>", "()V"⟩
abbrev cX9_in : ByteArray := prog_11_method_2_code
def yX9_in : MethodName := ⟨RX9, "in", "(JJJ)Z"⟩
abbrev cX9_has : ByteArray := prog_11_method_3_code
def yX9_has : MethodName := ⟨RX9, "has", "(II)Z"⟩
abbrev cX9_copyRow : ByteArray := prog_11_method_4_code
def yX9_copyRow : MethodName := ⟨RX9, "copyRow", "(II)V"⟩
abbrev cX9_write : ByteArray := prog_11_method_5_code
def yX9_write : MethodName := ⟨RX9, "write", "(I)I"⟩
abbrev cX9_erase : ByteArray := prog_11_method_6_code
def yX9_erase : MethodName := ⟨RX9, "erase", "()I"⟩
abbrev cX9_isLetter : ByteArray := prog_11_method_7_code
def yX9_isLetter : MethodName := ⟨RX9, "isLetter", "(I)Z"⟩
abbrev cX9_isDigit : ByteArray := prog_11_method_8_code
def yX9_isDigit : MethodName := ⟨RX9, "isDigit", "(I)Z"⟩
abbrev cX9_nextToken : ByteArray := prog_11_method_9_code
def yX9_nextToken : MethodName := ⟨RX9, "nextToken", "()V"⟩
abbrev cX9_isWord : ByteArray := prog_11_method_10_code
def yX9_isWord : MethodName := ⟨RX9, "isWord", "([I)Z"⟩
abbrev cX9_readsNumber : ByteArray := prog_11_method_11_code
def yX9_readsNumber : MethodName := ⟨RX9, "readsNumber", "(II)Z"⟩
abbrev cX9_isEnd : ByteArray := prog_11_method_12_code
def yX9_isEnd : MethodName := ⟨RX9, "isEnd", "()Z"⟩
abbrev cX9_readsTable : ByteArray := prog_11_method_13_code
def yX9_readsTable : MethodName := ⟨RX9, "readsTable", "()Z"⟩
abbrev cX9_readsSupport : ByteArray := prog_11_method_14_code
def yX9_readsSupport : MethodName := ⟨RX9, "readsSupport", "()Z"⟩
abbrev cX9_readsRow : ByteArray := prog_11_method_15_code
def yX9_readsRow : MethodName := ⟨RX9, "readsRow", "()Z"⟩
abbrev cX9_wordHere : ByteArray := prog_11_method_16_code
def yX9_wordHere : MethodName := ⟨RX9, "wordHere", "()I"⟩
abbrev cX9_readsClause : ByteArray := prog_11_method_17_code
def yX9_readsClause : MethodName := ⟨RX9, "readsClause", "()Z"⟩
abbrev cX9_reads : ByteArray := prog_11_method_18_code
def yX9_reads : MethodName := ⟨RX9, "reads", "(Z)Z"⟩
abbrev cX9_fault : ByteArray := prog_11_method_19_code
def yX9_fault : MethodName := ⟨RX9, "fault", "()I"⟩
abbrev cX9_read : ByteArray := prog_11_method_20_code
def yX9_read : MethodName := ⟨RX9, "read", "()I"⟩
abbrev cX9_put : ByteArray := prog_11_method_21_code
def yX9_put : MethodName := ⟨RX9, "put", "(III)V"⟩
abbrev cX9_takeOut : ByteArray := prog_11_method_22_code
def yX9_takeOut : MethodName := ⟨RX9, "takeOut", "(II)V"⟩
abbrev cX9_figure : ByteArray := prog_11_method_23_code
def yX9_figure : MethodName := ⟨RX9, "figure", "(II)I"⟩
abbrev cX9_codes : ByteArray := prog_11_method_24_code
def yX9_codes : MethodName := ⟨RX9, "codes", "()I"⟩
abbrev cX9_isCell : ByteArray := prog_11_method_25_code
def yX9_isCell : MethodName := ⟨RX9, "isCell", "(I)Z"⟩
abbrev cX9_isWhole : ByteArray := prog_11_method_26_code
def yX9_isWhole : MethodName := ⟨RX9, "isWhole", "(I)Z"⟩
abbrev cX9_isEntry : ByteArray := prog_11_method_27_code
def yX9_isEntry : MethodName := ⟨RX9, "isEntry", "(I)Z"⟩
abbrev cX9_keepPast : ByteArray := prog_11_method_28_code
def yX9_keepPast : MethodName := ⟨RX9, "keepPast", "()V"⟩
abbrev cX9_add : ByteArray := prog_11_method_29_code
def yX9_add : MethodName := ⟨RX9, "add", "(II)I"⟩
abbrev cX9_remove : ByteArray := prog_11_method_30_code
def yX9_remove : MethodName := ⟨RX9, "remove", "(I)I"⟩
abbrev cX9_support : ByteArray := prog_11_method_31_code
def yX9_support : MethodName := ⟨RX9, "support", "(I)I"⟩
abbrev cX9_undo : ByteArray := prog_11_method_32_code
def yX9_undo : MethodName := ⟨RX9, "undo", "()I"⟩
abbrev cX9_keep : ByteArray := prog_11_method_33_code
def yX9_keep : MethodName := ⟨RX9, "keep", "(I)I"⟩
abbrev cX9_back : ByteArray := prog_11_method_34_code
def yX9_back : MethodName := ⟨RX9, "back", "(I)I"⟩
abbrev cX9_entry : ByteArray := prog_11_method_35_code
def yX9_entry : MethodName := ⟨RX9, "entry", "(II)I"⟩
abbrev cX9_covers : ByteArray := prog_11_method_36_code
def yX9_covers : MethodName := ⟨RX9, "covers", "(II)Z"⟩
abbrev cX9_common : ByteArray := prog_11_method_37_code
def yX9_common : MethodName := ⟨RX9, "common", "(II)I"⟩
abbrev cX9_gather : ByteArray := prog_11_method_38_code
def yX9_gather : MethodName := ⟨RX9, "gather", "(II)V"⟩
abbrev cX9_cell : ByteArray := prog_11_method_39_code
def yX9_cell : MethodName := ⟨RX9, "cell", "(II)I"⟩
abbrev cX9_closure : ByteArray := prog_11_method_40_code
def yX9_closure : MethodName := ⟨RX9, "closure", "(I)I"⟩
abbrev cX9_isIn : ByteArray := prog_11_method_41_code
def yX9_isIn : MethodName := ⟨RX9, "isIn", "(II)Z"⟩
abbrev cX9_cubeOf : ByteArray := prog_11_method_42_code
def yX9_cubeOf : MethodName := ⟨RX9, "cubeOf", "(I)I"⟩
abbrev cX9_kept : ByteArray := prog_11_method_43_code
def yX9_kept : MethodName := ⟨RX9, "kept", "(I)I"⟩
abbrev cX9_ask : ByteArray := prog_11_method_44_code
def yX9_ask : MethodName := ⟨RX9, "ask", "(II)I"⟩
abbrev cX9_placeIn : ByteArray := prog_11_method_45_code
def yX9_placeIn : MethodName := ⟨RX9, "placeIn", "(II)I"⟩
abbrev cX9_isOrder : ByteArray := prog_11_method_46_code
def yX9_isOrder : MethodName := ⟨RX9, "isOrder", "(I)Z"⟩
abbrev cX9_layCounts : ByteArray := prog_11_method_47_code
def yX9_layCounts : MethodName := ⟨RX9, "layCounts", "()V"⟩
abbrev cX9_workBy : ByteArray := prog_11_method_48_code
def yX9_workBy : MethodName := ⟨RX9, "workBy", "(I)I"⟩
abbrev cX9_part : ByteArray := prog_11_method_49_code
def yX9_part : MethodName := ⟨RX9, "part", "(II)I"⟩
abbrev cX9_best : ByteArray := prog_11_method_50_code
def yX9_best : MethodName := ⟨RX9, "best", "(I)I"⟩
abbrev cX9_only : ByteArray := prog_11_method_51_code
def yX9_only : MethodName := ⟨RX9, "only", "(II)I"⟩
abbrev cX9_more : ByteArray := prog_11_method_52_code
def yX9_more : MethodName := ⟨RX9, "more", "(II)I"⟩
abbrev cX9_less : ByteArray := prog_11_method_53_code
def yX9_less : MethodName := ⟨RX9, "less", "(II)I"⟩
abbrev cX9_cap : ByteArray := prog_11_method_54_code
def yX9_cap : MethodName := ⟨RX9, "cap", "(I)I"⟩
abbrev cX9_areAlike : ByteArray := prog_11_method_55_code
def yX9_areAlike : MethodName := ⟨RX9, "areAlike", "(III)Z"⟩
abbrev cX9_isKey : ByteArray := prog_11_method_56_code
def yX9_isKey : MethodName := ⟨RX9, "isKey", "(I)Z"⟩
abbrev cX9_bits4 : ByteArray := prog_11_method_57_code
def yX9_bits4 : MethodName := ⟨RX9, "bits4", "(I)I"⟩
abbrev cX9_key : ByteArray := prog_11_method_58_code
def yX9_key : MethodName := ⟨RX9, "key", "()I"⟩
abbrev cX9_rule : ByteArray := prog_11_method_59_code
def yX9_rule : MethodName := ⟨RX9, "rule", "(II)I"⟩
abbrev cX9_isRow : ByteArray := prog_11_method_60_code
def yX9_isRow : MethodName := ⟨RX9, "isRow", "(I)Z"⟩
abbrev cX9_row : ByteArray := prog_11_method_61_code
def yX9_row : MethodName := ⟨RX9, "row", "(II)I"⟩
abbrev cX9_noPlace : ByteArray := prog_11_method_62_code
def yX9_noPlace : MethodName := ⟨RX9, "noPlace", "(II)I"⟩
abbrev cX9_set : ByteArray := prog_11_method_63_code
def yX9_set : MethodName := ⟨RX9, "set", "(III)I"⟩
abbrev cX9_plus : ByteArray := prog_11_method_64_code
def yX9_plus : MethodName := ⟨RX9, "plus", "(JJ)J"⟩
abbrev cX9_times : ByteArray := prog_11_method_65_code
def yX9_times : MethodName := ⟨RX9, "times", "(JJ)J"⟩
abbrev cX9_work : ByteArray := prog_11_method_66_code
def yX9_work : MethodName := ⟨RX9, "work", "(IIII)I"⟩
abbrev cX9_bits : ByteArray := prog_11_method_67_code
def yX9_bits : MethodName := ⟨RX9, "bits", "(II)I"⟩
abbrev cX9_sum : ByteArray := prog_11_method_68_code
def yX9_sum : MethodName := ⟨RX9, "sum", "(I)I"⟩
abbrev cX9_load : ByteArray := prog_11_method_69_code
def yX9_load : MethodName := ⟨RX9, "load", "(III)I"⟩
abbrev cX9_drop : ByteArray := prog_11_method_70_code
def yX9_drop : MethodName := ⟨RX9, "drop", "(I)I"⟩
abbrev cX9_asked : ByteArray := prog_11_method_71_code
def yX9_asked : MethodName := ⟨RX9, "asked", "()J"⟩
abbrev cX9_supported : ByteArray := prog_11_method_72_code
def yX9_supported : MethodName := ⟨RX9, "supported", "()I"⟩
abbrev cX9_valuesTold : ByteArray := prog_11_method_73_code
def yX9_valuesTold : MethodName := ⟨RX9, "valuesTold", "()I"⟩
abbrev cX9_allPlaces : ByteArray := prog_11_method_74_code
def yX9_allPlaces : MethodName := ⟨RX9, "allPlaces", "()I"⟩
abbrev cX9_count : ByteArray := prog_11_method_75_code
def yX9_count : MethodName := ⟨RX9, "count", "(I)I"⟩
def RJ6 : String := "java/lang/Integer"
abbrev cJ6_bitCount_0f7a4 : ByteArray := prog_12_method_49_code
def yJ6_bitCount_0f7a4 : MethodName := ⟨RJ6, "bitCount", "(I)I"⟩
def RJ13 : String := "java/lang/Long"
abbrev cJ13_bitCount_95d88 : ByteArray := prog_13_method_50_code
def yJ13_bitCount_95d88 : MethodName := ⟨RJ13, "bitCount", "(J)I"⟩
def RJ9 : String := "java/lang/Math"
abbrev cJ9_max_7cf53 : ByteArray := prog_14_method_65_code
def yJ9_max_7cf53 : MethodName := ⟨RJ9, "max", "(II)I"⟩
abbrev cJ9_min_7cf53 : ByteArray := prog_14_method_69_code
def yJ9_min_7cf53 : MethodName := ⟨RJ9, "min", "(II)I"⟩
def RJ0 : String := "java/lang/String"
abbrev cJ0_length_8abf5 : ByteArray := prog_15_method_54_code
def yJ0_length_8abf5 : MethodName := ⟨RJ0, "length", "()I"⟩
abbrev cJ0_charAt_5068e : ByteArray := prog_15_method_56_code
def yJ0_charAt_5068e : MethodName := ⟨RJ0, "charAt", "(I)C"⟩
abbrev cJ0_coder_7d493 : ByteArray := prog_15_method_152_code
def yJ0_coder_7d493 : MethodName := ⟨RJ0, "coder", "()B"⟩
abbrev cJ0_isLatin1_aae02 : ByteArray := prog_15_method_154_code
def yJ0_isLatin1_aae02 : MethodName := ⟨RJ0, "isLatin1", "()Z"⟩
abbrev cJ0_checkIndex_df160 : ByteArray := prog_15_method_155_code
def yJ0_checkIndex_df160 : MethodName := ⟨RJ0, "checkIndex", "(II)V"⟩
def RJ1 : String := "java/lang/StringLatin1"
abbrev cJ1_charAt_3b067 : ByteArray := prog_16_method_2_code
def yJ1_charAt_3b067 : MethodName := ⟨RJ1, "charAt", "([BI)C"⟩
def RJ2 : String := "java/lang/StringUTF16"
abbrev cJ2_getChar_3b067 : ByteArray := prog_17_method_5_code
def yJ2_getChar_3b067 : MethodName := ⟨RJ2, "getChar", "([BI)C"⟩
abbrev cJ2_length_9d52b : ByteArray := prog_17_method_6_code
def yJ2_length_9d52b : MethodName := ⟨RJ2, "length", "([B)I"⟩
abbrev cJ2_charAt_3b067 : ByteArray := prog_17_method_83_code
def yJ2_charAt_3b067 : MethodName := ⟨RJ2, "charAt", "([BI)C"⟩
abbrev cJ2_checkIndex_2214a : ByteArray := prog_17_method_91_code
def yJ2_checkIndex_2214a : MethodName := ⟨RJ2, "checkIndex", "(I[B)V"⟩
def RJ10 : String := "java/lang/System"
def RJ3 : String := "jdk/internal/util/Preconditions"
abbrev cJ3_checkIndex_8e157 : ByteArray := prog_19_method_11_code
def yJ3_checkIndex_8e157 : MethodName := ⟨RJ3, "checkIndex", "(IILjava/util/function/BiFunction;)I"⟩
def RL : String := "CubeClosuresLaw"
abbrev cL_law : ByteArray := code
def yL_law : MethodName := ⟨RL, "law", "([I)Z"⟩
abbrev vwCl : List vw_C := [(RX0, TX0, 12), (RX1, TX1, 4), (RX3, TX3, 2), (RX4, TX4, 3), (RX5, TX5, 6), (RX6, TX6, 6), (RX7, TX7, 4), (RX8, TX8, 10), (RX9, TX9, 30)]
end
section
/-! TINY WORLDS: a world is a list of cells by their places; a reference in it is a place; 'ad' says the address of a place.
A method's run is told over such lists alone: 'tg_G' is the judgement; the machine's own cares (heaps, frames, tables) are inside. -/
def tg_T : List Cond := lw_tbl.filter goodWord
theorem tg_mem {w : Cond} (i : Nat) (h : lw_tbl[i]? = some w) (hg : goodWord w = true) : w ∈ tg_T := List.mem_filter.mpr ⟨List.mem_of_getElem? h, hg⟩
theorem tg_goodT : GoodIn tg_T tg_T := fun _ h => ⟨h, good_of_word (List.mem_filter.mp h).2⟩
/-- a method: name, bytes, locals, return type, room -/
abbrev tg_M : Type := MethodName × ByteArray × Nat × Option FieldType × Room
def tg_ws (M : tg_M) : List Cond := .code M.1 M.2.1 M.2.2.1 M.2.2.2.1 :: tg_T
def tg_ok (M : tg_M) : Prop := Cond.code M.1 M.2.1 M.2.2.1 M.2.2.2.1 ∈ tg_T ∧ Cond.initialized M.1.cls ∈ tg_T ∧ plainName M.1.cls = true ∧ M.1.cls ≠ "java/lang/invoke/MethodHandle" ∧ M.1.cls ≠ "java/lang/invoke/VarHandle"
theorem tg_goodM {M : tg_M} (h : tg_ok M) : GoodIn tg_T (tg_ws M) := fun w hw => by
  rcases List.mem_cons.mp hw with rfl | hw
  · exact tg_goodT _ h.1
  · exact tg_goodT _ hw
/-! values, cells, worlds -/
def tg_v (ad : Nat → Nat) : Value → Value
  | .ref k => .ref (ad k)
  | .int x => .int x
  | .long x => .long x
  | .float x => .float x
  | .double x => .double x
  | .null => .null
  | .retAddr x => .retAddr x
def tg_e (cA : Nat → ClassId) (ad : Nat → Nat) : va_E → va_E
  | .inl (t, n, .inl f) => .inl (cA t, n, .inl f)
  | .inl (t, n, .inr (.inl f)) => .inl (cA t, n, .inr (.inl f))
  | .inl (t, n, .inr (.inr (.inl f))) => .inl (cA t, n, .inr (.inr (.inl f)))
  | .inl (t, n, .inr (.inr (.inr (.inl f)))) => .inl (cA t, n, .inr (.inr (.inr (.inl f))))
  | .inl (t, n, .inr (.inr (.inr (.inr f)))) => .inl (cA t, n, .inr (.inr (.inr (.inr (fun j => (f j).map ad)))))
  | .inr (ci, fs) => .inr (ci, fs.map (tg_v ad))
def tg_w (cA : Nat → ClassId) (ad : Nat → Nat) : Nat → List va_E → va_W
  | _, [] => []
  | k, c :: cs => (ad k, tg_e cA ad c) :: tg_w cA ad (k + 1) cs
theorem tg_w_get (cA : Nat → ClassId) (ad : Nat → Nat) : ∀ (w : List va_E) (k i : Nat), (tg_w cA ad k w)[i]? = (w[i]?).map (fun c => (ad (k + i), tg_e cA ad c))
  | [], k, i => by simp [tg_w]
  | c :: cs, k, 0 => by simp [tg_w]
  | c :: cs, k, i + 1 => by
    have h := tg_w_get cA ad cs (k + 1) i
    simp only [tg_w, List.getElem?_cons_succ, h]
    rw [show k + 1 + i = k + (i + 1) by omega]
theorem tg_w_at {cA : Nat → ClassId} {ad : Nat → Nat} {w : List va_E} {i : Nat} {c : va_E} (h : w[i]? = some c) : (tg_w cA ad 0 w)[i]? = some (ad i, tg_e cA ad c) := by
  rw [tg_w_get, h]
  simp
theorem tg_w_set (cA : Nat → ClassId) (ad : Nat → Nat) : ∀ (w : List va_E) (k i : Nat) (c : va_E), tg_w cA ad k (w.set i c) = (tg_w cA ad k w).set i (ad (k + i), tg_e cA ad c)
  | [], k, i, c => by simp [tg_w]
  | x :: cs, k, 0, c => by simp [tg_w]
  | x :: cs, k, i + 1, c => by
    simp only [List.set_cons_succ, tg_w, tg_w_set cA ad cs (k + 1) i c]
    rw [show k + 1 + i = k + (i + 1) by omega]
theorem tg_w_set0 {cA : Nat → ClassId} {ad : Nat → Nat} {w : List va_E} {i : Nat} {c : va_E} : tg_w cA ad 0 (w.set i c) = (tg_w cA ad 0 w).set i (ad i, tg_e cA ad c) := by
  rw [tg_w_set]
  simp
theorem tg_w_app (cA : Nat → ClassId) (ad : Nat → Nat) : ∀ (w1 w2 : List va_E) (k : Nat), tg_w cA ad k (w1 ++ w2) = tg_w cA ad k w1 ++ tg_w cA ad (k + w1.length) w2
  | [], w2, k => by simp [tg_w]
  | c :: cs, w2, k => by
    simp only [List.cons_append, tg_w, List.length_cons]
    rw [tg_w_app cA ad cs w2 (k + 1), show k + 1 + cs.length = k + (cs.length + 1) by omega]
theorem tg_w_len (cA : Nat → ClassId) (ad : Nat → Nat) : ∀ (w : List va_E) (k : Nat), (tg_w cA ad k w).length = w.length
  | [], k => rfl
  | c :: cs, k => by simp [tg_w, tg_w_len cA ad cs (k + 1)]
theorem tg_v_cat (ad : Nat → Nat) (v : Value) : (tg_v ad v).category = v.category := by cases v <;> rfl
theorem tg_v_null (ad : Nat → Nat) (v : Value) : tg_v ad v = .null ↔ v = .null := by cases v <;> simp [tg_v]
/-! locals: by their places; null: nothing is known of it -/
def tg_prs (ad : Nat → Nat) : Nat → List Value → List (Nat × Value)
  | _, [] => []
  | k, v :: vs => match v with
    | .null => tg_prs ad (k + 1) vs
    | v => (k, tg_v ad v) :: tg_prs ad (k + 1) vs
theorem tg_prs_mem (ad : Nat → Nat) : ∀ (lv : List Value) (k : Nat) (q : Nat × Value), q ∈ tg_prs ad k lv ↔ ∃ (i : Nat) (v : Value), lv[i]? = some v ∧ v ≠ .null ∧ q = (k + i, tg_v ad v)
  | [], k, q => by simp [tg_prs]
  | x :: vs, k, q => by
    have ih := tg_prs_mem ad vs (k + 1) q
    have key : (∃ (i : Nat) (v : Value), (x :: vs)[i]? = some v ∧ v ≠ .null ∧ q = (k + i, tg_v ad v)) ↔ (x ≠ .null ∧ q = (k, tg_v ad x)) ∨ q ∈ tg_prs ad (k + 1) vs := by
      rw [ih]
      constructor
      · rintro ⟨i, v, h1, h2, h3⟩
        cases i with
        | zero =>
          rw [List.getElem?_cons_zero] at h1
          cases h1
          exact Or.inl ⟨h2, h3⟩
        | succ i =>
          rw [List.getElem?_cons_succ] at h1
          exact Or.inr ⟨i, v, h1, h2, by rw [h3]; congr 1; omega⟩
      · rintro (⟨h1, h2⟩ | ⟨i, v, h1, h2, h3⟩)
        · exact ⟨0, x, rfl, h1, h2⟩
        · exact ⟨i + 1, v, by rw [List.getElem?_cons_succ]; exact h1, h2, by rw [h3]; congr 1; omega⟩
    rw [key]
    cases x <;> simp [tg_prs]
def tg_L (ad : Nat → Nat) (ls : Array Slot) (nL : Nat) (lv : List Value) : Prop := lv_has ls nL (tg_prs ad 0 lv)
theorem tg_L_at {ad : Nat → Nat} {ls : Array Slot} {nL : Nat} {lv : List Value} (h : tg_L ad ls nL lv) {i : Nat} {v : Value} (hi : lv[i]? = some v) (hv : v ≠ .null) : ls[i]? = some (.val (tg_v ad v)) :=
  h.2.2 (i, tg_v ad v) ((tg_prs_mem ad lv 0 _).mpr ⟨i, v, hi, hv, by simp⟩)
/-- the place ahead loses a value of two places -/
def tg_cl (lv : List Value) : Nat → List Value
  | 0 => lv
  | j + 1 => match lv[j]? with
    | some (.long _) => lv.set j .null
    | some (.double _) => lv.set j .null
    | _ => lv
def tg_s1 (lv : List Value) (i : Nat) (v : Value) : List Value := (tg_cl lv i).set i v
def tg_s2 (lv : List Value) (i : Nat) (v : Value) : List Value := ((tg_cl lv i).set i v).set (i + 1) .null
theorem tg_cl_at {lv : List Value} {i j : Nat} {v : Value} (h : (tg_cl lv i)[j]? = some v) (hv : v ≠ .null) : lv[j]? = some v ∧ ¬ (j + 1 = i ∧ v.category = 2) := by
  cases i with
  | zero => exact ⟨h, fun q => by omega⟩
  | succ k =>
    have key : ∀ u : Value, lv[k]? = some u → (lv.set k .null)[j]? = some v → lv[j]? = some v ∧ ¬ (j + 1 = k + 1 ∧ v.category = 2) := by
      intro u hu h2
      by_cases e : k = j
      · subst e
        rw [List.getElem?_set_self (List.getElem?_eq_some_iff.mp hu).1] at h2
        cases h2
        exact absurd rfl hv
      · rw [List.getElem?_set_ne e] at h2
        exact ⟨h2, fun q => by omega⟩
    simp only [tg_cl] at h
    split at h
    · exact key _ (by assumption) h
    · exact key _ (by assumption) h
    · rename_i n1 n2
      refine ⟨h, fun q => ?_⟩
      have e : j = k := by omega
      subst e
      cases v <;> simp [Value.category] at q
      · exact n1 _ h
      · exact n2 _ h
theorem tg_set_at {lv : List Value} {i j : Nat} {v u : Value} (h : (lv.set i v)[j]? = some u) : (j = i ∧ u = v) ∨ (j ≠ i ∧ lv[j]? = some u) := by
  by_cases e : i = j
  · subst e
    have hl : i < lv.length := by
      have := (List.getElem?_eq_some_iff.mp h).1
      simpa using this
    rw [List.getElem?_set_self hl] at h
    cases h
    exact Or.inl ⟨rfl, rfl⟩
  · rw [List.getElem?_set_ne e] at h
    exact Or.inr ⟨fun q => e q.symm, h⟩
theorem tg_L_s1 {ad : Nat → Nat} {ls : Array Slot} {nL : Nat} {lv : List Value} {i : Nat} {v : Value} (h : lv_has ls nL ((i, tg_v ad v) :: (tg_prs ad 0 lv).filter (fun q => !(q.1 == i) && !(q.1 + 1 == i && q.2.category == 2)))) : tg_L ad ls nL (tg_s1 lv i v) := by
  refine ⟨h.1, h.2.1, fun q hq => ?_⟩
  obtain ⟨j, u, h1, h2, rfl⟩ := (tg_prs_mem ad _ 0 q).mp hq
  refine h.2.2 _ ?_
  rw [Nat.zero_add]
  rcases tg_set_at h1 with ⟨rfl, rfl⟩ | ⟨hne, h3⟩
  · exact List.mem_cons_self
  · obtain ⟨h4, h5⟩ := tg_cl_at h3 h2
    refine List.mem_cons_of_mem _ (List.mem_filter.mpr ⟨(tg_prs_mem ad lv 0 _).mpr ⟨j, u, h4, h2, by simp⟩, ?_⟩)
    have b : (j + 1 == i && u.category == 2) = false := by
      by_cases e : j + 1 = i
      · have z : ¬ u.category = 2 := fun z => h5 ⟨e, z⟩
        simp [z]
      · simp [e]
    simp only [tg_v_cat, b]
    simp [hne]
theorem tg_L_s2 {ad : Nat → Nat} {ls : Array Slot} {nL : Nat} {lv : List Value} {i : Nat} {v : Value} (h : lv_has ls nL ((i, tg_v ad v) :: (tg_prs ad 0 lv).filter (fun q => !(q.1 == i) && (!(q.1 == i + 1) && !(q.1 + 1 == i && q.2.category == 2))))) : tg_L ad ls nL (tg_s2 lv i v) := by
  refine ⟨h.1, h.2.1, fun q hq => ?_⟩
  obtain ⟨j, u, h1, h2, rfl⟩ := (tg_prs_mem ad _ 0 q).mp hq
  refine h.2.2 _ ?_
  rw [Nat.zero_add]
  rcases tg_set_at h1 with ⟨rfl, rfl⟩ | ⟨hne1, h1⟩
  · exact absurd rfl h2
  rcases tg_set_at h1 with ⟨rfl, rfl⟩ | ⟨hne, h3⟩
  · exact List.mem_cons_self
  · obtain ⟨h4, h5⟩ := tg_cl_at h3 h2
    refine List.mem_cons_of_mem _ (List.mem_filter.mpr ⟨(tg_prs_mem ad lv 0 _).mpr ⟨j, u, h4, h2, by simp⟩, ?_⟩)
    have b : (j + 1 == i && u.category == 2) = false := by
      by_cases e : j + 1 = i
      · have z : ¬ u.category = 2 := fun z => h5 ⟨e, z⟩
        simp [z]
      · simp [e]
    simp only [tg_v_cat, b]
    simp [hne, hne1]
/-- a method's locals at its start -/
def tg_la : List Value → List Value
  | [] => []
  | .long x :: vs => .long x :: .null :: tg_la vs
  | .double x :: vs => .double x :: .null :: tg_la vs
  | v :: vs => v :: tg_la vs
def tg_lv (n : Nat) (vs : List Value) : List Value := tg_la vs ++ List.replicate (n - (tg_la vs).length) .null
theorem tg_la_args (ad : Nat → Nat) : ∀ (vs : List Value) (k : Nat) (n : Nat) (q : Nat × Value), q ∈ tg_prs ad k (tg_la vs ++ List.replicate n .null) → q ∈ lv_args k (vs.map (tg_v ad))
  | [], k, n, q, h => by
    obtain ⟨i, v, h1, h2, -⟩ := (tg_prs_mem ad _ k q).mp h
    simp only [tg_la, List.nil_append, List.getElem?_replicate] at h1
    split at h1
    · cases h1; exact absurd rfl h2
    · cases h1
  | v :: vs, k, n, q, h => by
    cases v <;> simp only [tg_la, List.cons_append, tg_prs, List.mem_cons, List.map_cons, tg_v, lv_args, Value.category] at h ⊢ <;> try simp only [if_true, if_neg (show ¬ (1 = 2) by decide)] at h ⊢
    all_goals first
      | exact h.elim Or.inl (fun h => Or.inr (tg_la_args ad vs _ n q h))
      | exact Or.inr (tg_la_args ad vs _ n q h)
theorem tg_L_entry (ad : Nat → Nat) (vs : List Value) {n : Nat} (h : (lg_sl (vs.map (tg_v ad))).length ≤ n) : tg_L ad ((lg_sl (vs.map (tg_v ad)) ++ List.replicate (n - (lg_sl (vs.map (tg_v ad))).length) Slot.unset).toArray) n (tg_lv n vs) := by
  have hl := lv_entry (vs.map (tg_v ad)) (n := n) h
  exact ⟨hl.1, hl.2.1, fun q hq => hl.2.2 q (tg_la_args ad vs 0 _ q hq)⟩
theorem tg_sl_len (ad : Nat → Nat) : ∀ vs : List Value, (lg_sl (vs.map (tg_v ad))).length = (tg_la vs).length
  | [] => rfl
  | v :: vs => by
    have ih := tg_sl_len ad vs
    have e : lg_sl ((v :: vs).map (tg_v ad)) = (if (tg_v ad v).category = 2 then [Slot.val (tg_v ad v), Slot.second] else [Slot.val (tg_v ad v)]) ++ lg_sl (vs.map (tg_v ad)) := by simp [lg_sl]
    rw [e, List.length_append, ih, tg_v_cat]
    cases v <;> simp [tg_la, Value.category] <;> omega
end
section
/-! what stands outside of the worlds and is only read: places from 1000 on -/
def tg_on (i : Nat) : String := match i with
  | 0 => "ORDERS_OF_1"
  | 1 => "ORDERS_OF_2"
  | 2 => "ORDERS_OF_3"
  | _ => "ORDERS_OF_4"
def tg_ol (i : Nat) : List Int32 := match i with
  | 0 => [0]
  | 1 => [1, 10]
  | 2 => [12, 21, 102, 120, 201, 210]
  | _ => [123, 132, 213, 231, 312, 321, 1023, 1032, 1203, 1230, 1302, 1320, 2013, 2031, 2103, 2130, 2301, 2310, 3012, 3021, 3102, 3120, 3201, 3210]
def tg_sk (i : Nat) : Nat := match i with
  | 0 => 59
  | 1 => 64
  | 2 => 69
  | _ => 53
def tg_sx (i : Nat) : String := match i with
  | 0 => "table"
  | 1 => "support"
  | 2 => "row"
  | _ => ";"
def tg_sb : List (List Int32) := [[116, 97, 98, 108, 101], [115, 117, 112, 112, 111, 114, 116], [114, 111, 119], [59]]
def tg_sl : List Nat := [5, 7, 3, 1]
def tg_nest : List (String × Nat × MethodName) := [(RX8, 11, yX1_init), (RX1, 11, yX7_init), (RX8, 23, yX0_init), (RX0, 20, yX4_init), (RX8, 35, yX5_init)]
def tg_AOL (U : State) : Prop := (Cond.arrayOver (.array .long)).before #[] U = true
def tg_ZS (ad : Nat → Nat) (A : Nat → Prop) (s : State) : Prop := ∀ i, i < 4 → va_Z RX4 (tg_on i) "[I" (.ref (ad (1000 + i))) A s s.heap ∧ va_T .int (ad (1000 + i)) (tg_ol i).length (fun j => .int ((tg_ol i).getD j 0)) A s s.heap
def tg_SS (ad : Nat → Nat) (A : Nat → Prop) (s : State) : Prop := vk_S 4 tg_sl tg_sb (fun i => ad (1010 + i)) (fun i => ad (1020 + i)) A s s.heap ∧ ∀ i, i < 4 → vk_R RX1 (tg_sk i) (tg_sx i) (ad (1010 + i)) s
def tg_JS (ad : Nat → Nat) (A : Nat → Prop) (s : State) : Prop := va_Z "java/lang/String" "COMPACT_STRINGS" "Z" (.int 1) A s s.heap ∧ (va_Z "jdk/internal/util/Preconditions" "SIOOBE_FORMATTER" "Ljava/util/function/BiFunction;" .null A s s.heap ∨ va_Z "jdk/internal/util/Preconditions" "SIOOBE_FORMATTER" "Ljava/util/function/BiFunction;" (.ref (ad 1030)) A s s.heap)
/-- the launch, and the law's script: its length and what it holds -/
abbrev tg_Ln : Type := Launch × Nat × (Nat → Int32)
def tg_XS (L : tg_Ln) (ad : Nat → Nat) (A : Nat → Prop) (s : State) : Prop := va_X (ad 1040) L.2.1 L.2.2 s s.heap ∧ ad 1040 < s.heap.size ∧ ¬ A (ad 1040)
def tg_E (L : tg_Ln) (ad : Nat → Nat) (A : Nat → Prop) (s : State) : Prop := tg_XS L ad A s ∧ tg_ZS ad A s ∧ tg_SS ad A s ∧ tg_JS ad A s ∧ (∀ q ∈ tg_nest, va_Nw (.methodLinkNest q.1 q.2.1 q.2.2 RX8) s) ∧ va_AO "CubeClosures$Table" s
theorem tg_E.go {L : tg_Ln} {ad ad' : Nat → Nat} {A B : Nat → Prop} {s U : State} (h : tg_E L ad A s) (hW : s.WarmedH U.vm) (hH : ∀ q : Nat, q < s.heap.size → ¬ A q → U.heap[q]? = s.heap[q]?) (hz : s.heap.size ≤ U.heap.size) (hAB : ∀ q, B q → A q) (had : ∀ k, 1000 ≤ k → ad' k = ad k) : tg_E L ad' B U := by
  obtain ⟨⟨h8, h9, h10⟩, h1, ⟨h2, h3⟩, ⟨h4, h5⟩, h6, h7⟩ := h
  have hv := hW.alike
  refine ⟨⟨?_, ?_, ?_⟩, fun i hi => ?_, ⟨?_, fun i hi => ?_⟩, ⟨?_, ?_⟩, fun q hq => ?_, ?_⟩
  · rw [had _ (by omega)]
    exact (h8.moved hv).kept (hH _ h9 h10)
  · rw [had _ (by omega)]
    omega
  · rw [had _ (by omega)]
    exact fun q => h10 (hAB _ q)
  · rw [had _ (by omega)]
    exact ⟨(((h1 i hi).1.moved hv).kept hH).narrow hAB, (((h1 i hi).2.moved hv).kept hH).narrow hAB⟩
  · have e1 : (fun i => ad' (1010 + i)) = fun i => ad (1010 + i) := funext fun i => had _ (by omega)
    have e2 : (fun i => ad' (1020 + i)) = fun i => ad (1020 + i) := funext fun i => had _ (by omega)
    rw [e1, e2]
    exact ((h2.moved hv).kept hH).narrow hAB
  · rw [had _ (by omega)]
    exact (h3 i hi).warm hW
  · exact ((h4.moved hv).kept hH).narrow hAB
  · rw [had _ (by omega)]
    exact h5.elim (fun h => Or.inl (((h.moved hv).kept hH).narrow hAB)) (fun h => Or.inr (((h.moved hv).kept hH).narrow hAB))
  · exact (h6 q hq).warmM hW
  · exact h7.moved hv
theorem tg_E.blind {L : tg_Ln} {ad : Nat → Nat} {A : Nat → Prop} {U U' : State} (h : tg_E L ad A U) (hv : U'.vm = U.vm) (hh : U'.heap = U.heap) : tg_E L ad A U' := by
  obtain ⟨⟨h8, h9, h10⟩, h1, ⟨h2, h3⟩, ⟨h4, h5⟩, h6, h7⟩ := h
  have al : U.vm.Alike U'.vm := by rw [hv]; exact Vm.Alike.refl _
  refine ⟨⟨by rw [hh]; exact h8.moved al, by rw [hh]; exact h9, h10⟩, fun i hi => ?_, ⟨?_, fun i hi => ?_⟩, ⟨?_, ?_⟩, fun q hq => ?_, ?_⟩
  · rw [hh]; exact ⟨(h1 i hi).1.moved al, (h1 i hi).2.moved al⟩
  · rw [hh]; exact h2.moved al
  · exact (h3 i hi).same hv
  · rw [hh]; exact h4.moved al
  · rw [hh]; exact h5.elim (fun h => Or.inl (h.moved al)) (fun h => Or.inr (h.moved al))
  · exact (h6 q hq).same rfl hv.symm
  · exact h7.moved al
/-- what is known of the machine within a method -/
def tg_C (M : tg_M) (p : Program) (s : State) (m : MethodId) (args : Array Value) (meth : Method) (c : Code) : Prop :=
  p.tables.exec = Jvm.exec ∧ c.code = M.2.1 ∧ meth.sig.returnType = M.2.2.2.1 ∧ c.maxLocals = M.2.2.1 ∧ s.vm.findClass M.1.cls = some m.cls ∧ (∀ w ∈ tg_T, w.before args s = true) ∧ meth.locks = false ∧ meth.name = M.1.name
def tg_tys (cA : Nat → ClassId) : List (ClassId × FieldType) := [(cA 0, .int), (cA 1, .boolean), (cA 2, .char), (cA 3, .long), (cA 4, .object "CubeClosures$Table"), (cA 5, .array .long)]
/-- THE JUDGEMENT: from place pc of the method M, with these locals, this stack, this world, kc cells and ks slots made so far, the method comes to its end, with an answer and a world as K says; n0: the places whose addresses stay (1000: all) -/
def tg_G (l : tg_Ln) (M : tg_M) (n0 : Nat) (K : Option Value → List va_E → Prop) (kc ks pc : Nat) (lv st : List Value) (w : List va_E) : Prop :=
  ∀ (p : Program) (e : Env) (s : State) (m : MethodId) (args : Array Value) (below : List Frame) (meth : Method) (c : Code) (D : va_G) (cA : Nat → ClassId) (A : Nat → Prop) (ad : Nat → Nat) (H : Heap) (locs : List Loc) (ls : Array Slot) (Qc : Array Value → State → Outcome → State → Prop),
    tg_C M p s m args meth c → kc ≤ M.2.2.2.2.cells → ks ≤ M.2.2.2.2.slots → va_K D vwCl (tg_tys cA) s → (∀ q : Nat, s.heap.size ≤ q → A q) → tg_E l ad A s →
    (∀ (r : Option Value) (w' : List va_E) (ad' : Nat → Nat) (t : State), K r w' → (∀ k, k < n0 ∨ 1000 ≤ k → ad' k = ad k) → va_P D vwCl (tg_w cA ad' 0 w') t.heap → va_D A (tg_w cA ad' 0 w') → s.WarmedH t.vm → va_F A s t → Qc args s (.returned (r.map (tg_v ad'))) t) →
    va_P D vwCl (tg_w cA ad 0 w) H → va_D A (tg_w cA ad 0 w) → va_S A s.heap H locs → tg_L ad ls M.2.2.1 lv →
    W p l.1 e M.2.2.2.2 s m args below meth c H locs kc ks (MQ below Qc args s M.2.2.2.2.cells M.2.2.2.2.slots A) (F0 m pc ls (st.map (tg_v ad)))
theorem tg_G.mono {l : tg_Ln} {M : tg_M} {n0 : Nat} {K K' : Option Value → List va_E → Prop} {kc ks pc : Nat} {lv st : List Value} {w : List va_E} (h : tg_G l M n0 K kc ks pc lv st w) (hK : ∀ r w', K r w' → K' r w') : tg_G l M n0 K' kc ks pc lv st w := by
  intro p e s m args below meth c D cA A ad H locs ls Qc h1 a1 a2 h2 h3 h4 h5
  exact h p e s m args below meth c D cA A ad H locs ls Qc h1 a1 a2 h2 h3 h4 (fun r w' ad' t k => h5 r w' ad' t (hK r w' k))
/-- a method's contract: the judgement at its start -/
def tg_Ct (l : tg_Ln) (M : tg_M) (n0 : Nat) (args : List Value) (w : List va_E) (K : Option Value → List va_E → Prop) : Prop := tg_G l M n0 K 0 0 0 (tg_lv M.2.2.1 args) [] w
abbrev tg_Pc (l : tg_Ln) (D : va_G) (cA : Nat → ClassId) (ad : Nat → Nat) (sz : Nat) (args : List Value) (w : List va_E) : Array Value → State → Prop := va_Pc (args.map (tg_v ad)) (fun U => U.heap.size = sz ∧ va_P D vwCl (tg_w cA ad 0 w) U.heap ∧ va_K D vwCl (tg_tys cA) U ∧ va_D (fun _ => True) (tg_w cA ad 0 w) ∧ tg_E l ad (va_A (tg_w cA ad 0 w) sz) U)
abbrev tg_Qc (D : va_G) (cA : Nat → ClassId) (ad : Nat → Nat) (sz n0 : Nat) (w : List va_E) (K : Option Value → List va_E → Prop) : Array Value → State → Outcome → State → Prop := fun _ st oc t =>
  ∃ (r : Option Value) (w' : List va_E) (ad' : Nat → Nat), oc = .returned (r.map (tg_v ad')) ∧ K r w' ∧ (∀ k, k < n0 ∨ 1000 ≤ k → ad' k = ad k) ∧ va_P D vwCl (tg_w cA ad' 0 w') t.heap ∧ va_D (va_A (tg_w cA ad 0 w) sz) (tg_w cA ad' 0 w') ∧ va_F (va_A (tg_w cA ad 0 w) sz) st t
set_option maxHeartbeats 1000000 in
theorem tg_met {l : tg_Ln} {M : tg_M} {n0 : Nat} {args : List Value} {w : List va_E} {K : Option Value → List va_E → Prop} (hok : tg_ok M) (hla : (tg_la args).length ≤ M.2.2.1) (h : tg_Ct l M n0 args w K) (D : va_G) (cA : Nat → ClassId) (ad : Nat → Nat) (sz : Nat) :
    Met l.1 M.1 (tg_ws M) M.2.2.2.2 (tg_Pc l D cA ad sz args w) (tg_Qc D cA ad sz n0 w K) M.2.2.2.2.cells M.2.2.2.2.slots (va_A (tg_w cA ad 0 w) sz) := by
  refine Met.ofW (cc := M.2.1) (maxL := M.2.2.1) (ret := M.2.2.2.1) hok.2.2.1 rfl ?_
  intro p e s m args0 below meth c s₁ B hml hv
  obtain ⟨rfl, hsz, hP, hK, hD0, hE⟩ := hv
  have hts := atoms_spec (ws := tg_ws M) B.pre
  have hown : s.vm.findClass M.1.cls = some m.cls := findClass_of_methodNamed B.named
  subst hsz
  rw [lg_entry_eq]
  exact h p e s m _ below meth c D cA (va_A (tg_w cA ad 0 w) s.heap.size) ad s.heap [] _ _
    ⟨B.exec, B.bytes, B.returns, hml, hown, fun w hw => hts w (List.mem_cons_of_mem _ hw), B.notSynchronized, (name_of_methodNamed B.named B.method).1⟩ (Nat.zero_le _) (Nat.zero_le _)
    hK (fun q hq => Or.inr hq) hE (fun r w' ad' t k1 k2 k3 k4 k5 k6 => ⟨r, w', ad', rfl, k1, k2, k3, k4, k6⟩) hP hD0.self va_S.rf (tg_L_entry ad args (by rw [tg_sl_len]; exact hla))
end
section
/-! calls: a callee's world is a part of the caller's, its places are renamed by 'is' -/
def tg_rn (is : List Nat) (k : Nat) : Nat := is.getD k k
theorem tg_v_ref (ad : Nat → Nat) (k : Nat) : tg_v ad (.ref k) = .ref (ad k) := rfl
theorem tg_v_v (f g : Nat → Nat) (v : Value) : tg_v f (tg_v g v) = tg_v (fun k => f (g k)) v := by cases v <;> rfl
theorem tg_e_e (cA : Nat → ClassId) (f g : Nat → Nat) (c : va_E) : tg_e cA f (tg_e (fun t => t) g c) = tg_e cA (fun k => f (g k)) c := by
  rcases c with ⟨t, n, a⟩ | ⟨ci, fs⟩
  · rcases a with a | a | a | a | a <;> simp [tg_e, Function.comp_def]
  · simp [tg_e, tg_v_v]
def tg_put (g : Nat → Nat) : List va_E → List Nat → List va_E → List va_E
  | w, i :: is, c :: cs => tg_put g (w.set i (tg_e (fun t => t) g c)) is cs
  | w, _, _ => w
theorem tg_put_get (g : Nat → Nat) : ∀ (is : List Nat) (cs w : List va_E) (j : Nat) (x : va_E), (tg_put g w is cs)[j]? = some x → cs.length = is.length →
    (∃ (k : Nat) (c : va_E), is[k]? = some j ∧ cs[k]? = some c ∧ x = tg_e (fun t => t) g c) ∨ (j ∉ is ∧ w[j]? = some x)
  | [], cs, w, j, x, h, _ => by
    have h : w[j]? = some x := by cases cs <;> exact h
    exact Or.inr ⟨by simp, h⟩
  | i :: is, [], w, j, x, h, hl => by simp at hl
  | i :: is, c :: cs, w, j, x, h, hl => by
    simp only [List.length_cons, Nat.add_right_cancel_iff] at hl
    rcases tg_put_get g is cs (w.set i (tg_e (fun t => t) g c)) j x h hl with ⟨k, d, h1, h2, h3⟩ | ⟨h1, h2⟩
    · exact Or.inl ⟨k + 1, d, by simpa using h1, by simpa using h2, h3⟩
    · by_cases e : i = j
      · subst e
        have hl2 : i < w.length := by
          have := (List.getElem?_eq_some_iff.mp h2).1
          simpa using this
        rw [List.getElem?_set_self hl2] at h2
        cases h2
        exact Or.inl ⟨0, c, rfl, rfl, rfl⟩
      · rw [List.getElem?_set_ne e] at h2
        exact Or.inr ⟨by simp only [List.mem_cons, not_or]; exact ⟨fun q => e q.symm, h1⟩, h2⟩
theorem tg_put_len (g : Nat → Nat) : ∀ (is : List Nat) (cs w : List va_E), (tg_put g w is cs).length = w.length
  | [], cs, w => by cases cs <;> rfl
  | i :: is, [], w => rfl
  | i :: is, c :: cs, w => by
    show (tg_put g (w.set i _) is cs).length = w.length
    rw [tg_put_len g is cs]
    simp
/-- the callee's world as a part of the caller's -/
theorem tg_part {cA : Nat → ClassId} {ad : Nat → Nat} {w wc : List va_E} {is : List Nat} (hfr : is.map (fun i => w[i]?) = wc.map (fun c => some (tg_e (fun t => t) (tg_rn is) c))) :
    is.map (fun i => (tg_w cA ad 0 w)[i]?) = (tg_w cA (fun k => ad (tg_rn is k)) 0 wc).map some := by
  apply List.ext_getElem?
  intro k
  have h1 : (is.map (fun i => w[i]?))[k]? = (wc.map (fun c => some (tg_e (fun t => t) (tg_rn is) c)))[k]? := by rw [hfr]
  simp only [List.getElem?_map] at h1 ⊢
  rw [tg_w_get]
  cases hi : is[k]? with
  | none =>
    rw [hi] at h1
    cases hc : wc[k]? with
    | none => rfl
    | some c => rw [hc] at h1; cases h1
  | some i =>
    rw [hi] at h1
    cases hc : wc[k]? with
    | none => rw [hc] at h1; cases h1
    | some c =>
      rw [hc] at h1
      simp only [Option.map_some, Option.some.injEq] at h1
      simp only [Option.map_some, Nat.zero_add]
      rw [tg_w_at h1, tg_e_e]
      have : tg_rn is k = i := by simp [tg_rn, List.getD, hi]
      rw [this]
theorem tg_fr_len {w wc : List va_E} {is : List Nat} {g : va_E → va_E} (hfr : is.map (fun i => w[i]?) = wc.map (fun c => some (g c))) : is.length = wc.length := by
  have := congrArg List.length hfr
  simpa using this
section TGC
variable {p : Program} {l : Launch} {e : Env} {R : Room} {s : State} {m : MethodId} {args : Array Value} {below : List Frame} {meth : Method} {c : Code} {H : Heap} {locs : List Loc} {cells slots : Nat} {Q : State → Prop}
/-- behind a call that makes no cell: the caller's world, with the callee's part as it came back -/
theorem tgw_ret {D : va_G} {cA : Nat → ClassId} {A : Nat → Prop} {ad : Nat → Nat} {w wc : List va_E} {is : List Nat} {K' : Option Value → List va_E → Prop} {pc mc ms : Nat} {ls : Array Slot} {st0 rest : List Value} {a : Array Value}
    (hr : va_Run p l e R s m args below meth c H locs cells slots mc ms (F0 m pc ls st0) rest (tg_Qc D cA (fun k => ad (tg_rn is k)) H.size 1000 wc K' a) (va_A (tg_w cA (fun k => ad (tg_rn is k)) 0 wc) H.size))
    (hP : va_P D vwCl (tg_w cA ad 0 w) H) (hD : va_D A (tg_w cA ad 0 w)) (hS : va_S A s.heap H locs) (hA : ∀ q : Nat, s.heap.size ≤ q → A q)
    (hfr : is.map (fun i => w[i]?) = wc.map (fun c => some (tg_e (fun t => t) (tg_rn is) c))) (hlen : ∀ r wc', K' r wc' → wc'.length = wc.length)
    (kk : ∀ (r : Option Value) (wc' : List va_E) (H1 : Heap) (locs1 : List Loc), K' r wc' → va_P D vwCl (tg_w cA ad 0 (tg_put (tg_rn is) w is wc')) H1 → va_D A (tg_w cA ad 0 (tg_put (tg_rn is) w is wc')) → va_S A s.heap H1 locs1 → W p l e R s m args below meth c H1 locs1 (cells + mc) (slots + ms) Q (F0 m (pc + 3) ls ((r.map (tg_v (fun k => ad (tg_rn is k)))).toList ++ rest))) :
    W p l e R s m args below meth c H locs cells slots Q (F0 m pc ls st0) := by
  intro T hT X
  obtain ⟨v, st₀, t, T', L, h0, X', hL, e1, e2, ⟨r, wc', ad', hv, hK, had, hP1, hD1, hz, hk⟩, stp⟩ := hr T hT X
  have hadE : ad' = fun k => ad (tg_rn is k) := funext fun k => had k (by omega)
  subst hadE
  cases hv
  rw [h0] at hz hk
  have hpart := tg_part (cA := cA) (ad := ad) hfr
  have hF := va_free (A0 := A) hD hS hA is hpart
  have hlw := tg_fr_len hfr
  have hl1 := hlen r wc' hK
  have hP' : va_P D vwCl (tg_w cA ad 0 (tg_put (tg_rn is) w is wc')) t.heap := by
    intro j q hq
    rw [tg_w_get] at hq
    cases hx : (tg_put (tg_rn is) w is wc')[j]? with
    | none => rw [hx] at hq; cases hq
    | some x =>
      rw [hx] at hq
      simp only [Option.map_some, Option.some.injEq, Nat.zero_add] at hq
      subst hq
      rcases tg_put_get _ is wc' w j x hx (by omega) with ⟨k, d, g1, g2, g3⟩ | ⟨g1, g2⟩
      · subst g3
        rw [tg_e_e]
        have g4 := hP1 k _ (tg_w_at g2)
        have : tg_rn is k = j := by simp [tg_rn, List.getD, g1]
        rw [this] at g4
        exact g4
      · have g3 := hP j _ (tg_w_at g2)
        refine g3.kept (hk _ g3.lt (fun z => ?_))
        rcases z with ⟨k, x', z⟩ | z
        · have z1 : (is.map (fun i => (tg_w cA ad 0 w)[i]?))[k]? = some (some (ad j, x')) := by rw [hpart, List.getElem?_map, z]; rfl
          rw [List.getElem?_map] at z1
          cases hi : is[k]? with
          | none => rw [hi] at z1; cases z1
          | some i =>
            rw [hi] at z1
            have z2 := hD.1 i j _ _ (Option.some.inj z1) (tg_w_at g2) rfl
            subst z2
            exact g1 (List.mem_of_getElem? hi)
        · exact absurd g3.lt (Nat.not_lt.mpr z)
  have hD' : va_D A (tg_w cA ad 0 (tg_put (tg_rn is) w is wc')) := by
    have key : ∀ (j : Nat) (q : Nat × va_E), (tg_w cA ad 0 (tg_put (tg_rn is) w is wc'))[j]? = some q → ∃ q0, (tg_w cA ad 0 w)[j]? = some q0 ∧ q0.1 = q.1 := by
      intro j q hq
      have hj : j < w.length := by
        have := (List.getElem?_eq_some_iff.mp hq).1
        rwa [tg_w_len, tg_put_len] at this
      rw [tg_w_get] at hq
      cases hx : (tg_put (tg_rn is) w is wc')[j]? with
      | none => rw [hx] at hq; cases hq
      | some x =>
        rw [hx] at hq
        simp only [Option.map_some, Option.some.injEq] at hq
        subst hq
        exact ⟨_, tg_w_at (List.getElem?_eq_getElem hj), by simp⟩
    refine ⟨fun i j x y hi hj hxy => ?_, fun k q hk => ?_⟩
    · obtain ⟨x0, a1, a2⟩ := key i x hi
      obtain ⟨y0, b1, b2⟩ := key j y hj
      exact hD.1 i j x0 y0 a1 b1 (a2.trans (hxy.trans b2.symm))
    · obtain ⟨q0, a1, a2⟩ := key k q hk
      rw [← a2]
      exact hD.2 k q0 a1
  obtain ⟨t2, a1, b1⟩ := kk r wc' T'.heap (locs ++ L) hK (by rw [e1]; exact hP') hD'
    ⟨Nat.le_trans hS.1 (by rw [e1]; exact hz), fun q h1 h2 => by rw [e1, hk q (Nat.lt_of_lt_of_le h1 hS.1) (fun z => h2 (hF q z))]; exact hS.2.1 q h1 h2, fun q hq => by
      rcases List.mem_append.mp hq with h | h
      · exact hS.2.2 q h
      · exact hF _ (hL q h)⟩ T' rfl X'
  exact ⟨t2, stp t2 a1, b1⟩
end TGC
/-- what a call's place says: a virtual one, of a method whose class is its receiver's -/
def tg_VS (M : tg_M) (pc : Nat) (M' : tg_M) (n : Nat) : Prop := tg_ok M' ∧ (∃ idx, decode M.2.1 pc = .ok (.invokevirtual idx, 3) ∧ Cond.methodLink M.1.cls idx M'.1 ∈ tg_T) ∧ Cond.instanceMethod M'.1 ∈ tg_T ∧ Cond.selects M'.1.cls M'.1 M'.1 ∈ tg_T ∧ (parseMethodDescriptor M'.1.desc).map (fun d => d.parameters.length) = some n ∧ M'.2.2.2.2.cells = 0 ∧ M'.2.2.2.2.slots = 0 ∧ M'.2.2.2.2.frames + 1 ≤ M.2.2.2.2.frames ∧ 8 + (M'.2.2.1 + 11) + M'.2.2.2.2.locals ≤ M.2.2.2.2.locals
def tg_SS0 (M : tg_M) (pc : Nat) (M' : tg_M) (n : Nat) : Prop := tg_ok M' ∧ (∃ idx, decode M.2.1 pc = .ok (.invokestatic idx, 3) ∧ Cond.methodLink M.1.cls idx M'.1 ∈ tg_T) ∧ Cond.static M'.1 ∈ tg_T ∧ (parseMethodDescriptor M'.1.desc).map (fun d => d.parameters.length) = some n ∧ M'.2.2.2.2.cells = 0 ∧ M'.2.2.2.2.slots = 0 ∧ M'.2.2.2.2.frames + 1 ≤ M.2.2.2.2.frames ∧ 8 + (M'.2.2.1 + 11) + M'.2.2.2.2.locals ≤ M.2.2.2.2.locals
theorem tg_blind (l : tg_Ln) (D : va_G) (cA : Nat → ClassId) (ad : Nat → Nat) (sz : Nat) (args : List Value) (w : List va_E) : FrameBlind (tg_Pc l D cA ad sz args w) := by
  intro a U g mk q
  obtain ⟨q0, q1, q2, q3, q4, q5⟩ := q
  exact ⟨q0, q1, q2, va_K.moved (u := U) (U := U.calling g mk a) (Vm.Alike.refl U.vm) q3, q4, q5.blind rfl rfl⟩
set_option maxHeartbeats 1000000 in
theorem tg_callV {l : tg_Ln} {M M' : tg_M} {n0 n pc kc ks : Nat} {K K' : Option Value → List va_E → Prop} {lv : List Value} {w : List va_E} (hs : tg_VS M pc M' n) (is : List Nat) {b ci : Nat} {As rest fs : List Value} {wc : List va_E} (hc : tg_Ct l M' 1000 (.ref b :: As) wc K')
    (hfr : is.map (fun i => w[i]?) = wc.map (fun c => some (tg_e (fun t => t) (tg_rn is) c))) (hnd : va_nd is = true) (his : is.length ≤ 1000) (hrb : wc[b]? = some (.inr (ci, fs))) (hcl : (vwCl[ci]?).map (fun q => q.1) = some M'.1.cls) (hn : As.length = n) (hla : (tg_la (.ref b :: As)).length ≤ M'.2.2.1) (hW : (rest.map fun v => v.category).sum ≤ 8)
    (hlen : ∀ r wc', K' r wc' → wc'.length = wc.length)
    (kk : ∀ r wc', K' r wc' → tg_G l M n0 K kc ks (pc + 3) lv ((r.map (tg_v (tg_rn is))).toList ++ rest) (tg_put (tg_rn is) w is wc')) :
    tg_G l M n0 K kc ks pc lv ((As.map (tg_v (tg_rn is))).reverse ++ .ref (tg_rn is b) :: rest) w := by
  obtain ⟨hok, ⟨idx, hdg, hlk⟩, hin, hse, hpd, hc0, hs0, hfrm, hloc⟩ := hs
  intro p e s m args below meth c D cA A ad H locs ls Qc C hkc hks hK hA hE hQ hP hD hS hL
  obtain ⟨hx, hb, hr, hml, hown, hts, hlk2, hnm⟩ := id C
  have hpart := tg_part (cA := cA) (ad := ad) hfr
  have hPc : va_P D vwCl (tg_w cA (fun k => ad (tg_rn is k)) 0 wc) H := hP.sub is (by rw [show is.filterMap (fun i => (tg_w cA ad 0 w)[i]?) = (is.map (fun i => (tg_w cA ad 0 w)[i]?)).filterMap id by simp [List.filterMap_map, Function.comp_def], hpart]; simp [List.filterMap_map, Function.comp_def])
  have hDc := hD.sub is hnd hpart
  have hF := va_free (A0 := A) hD hS hA is hpart
  obtain ⟨qc, hq1, hq2⟩ : ∃ qc, vwCl[ci]? = some qc ∧ qc.1 = M'.1.cls := by
    cases hh : vwCl[ci]? with
    | none => rw [hh] at hcl; cases hcl
    | some qc => rw [hh] at hcl; exact ⟨qc, rfl, Option.some.inj hcl⟩
  have hrun := va_runV (p := p) (l := l.1) (e := e) (R := M.2.2.2.2) (below := below) (meth := meth) (locs := locs) (cells := kc) (slots := ks) (As := As.map (tg_v (fun k => ad (tg_rn is k)))) (rest := rest.map (tg_v ad)) (g := F0 m pc ls (((As.map (tg_v (tg_rn is))).reverse ++ .ref (tg_rn is b) :: rest).map (tg_v ad))) (b := ad (tg_rn is b)) (Ts := tg_T) (n := n) ⟨hx, hb, hml, hown, hts⟩
    (tg_met hok hla hc D cA (fun k => ad (tg_rn is k)) H.size)
    (cwV (C := M'.1.cls) n hts (fun z hz => by
      rcases List.mem_append.mp hz with hz | hz
      · simp only [List.mem_cons, List.not_mem_nil, or_false] at hz
        rcases hz with rfl | rfl | rfl | rfl
        · exact tg_goodT _ hlk
        · exact tg_goodT _ hin
        · exact tg_goodT _ hse
        · exact tg_goodT _ hok.2.1
      · exact tg_goodM hok z hz) rfl rfl rfl ⟨rfl, hok.2.2.2.1, hok.2.2.2.2, hpd⟩ ⟨hfrm, hloc⟩)
    ⟨tg_blind _ _ _ _ _ _ _, by rw [← hq2]; exact va_recv hK hPc (q0 := b) hq1 (tg_w_at hrb), fun U hU hW => ⟨by simp [tg_v_ref], by rw [hU], by rw [hU]; exact hPc, va_K.moved hW.alike hK, hDc.weaken (fun _ _ _ _ => trivial), hE.go hW (fun q h1 h2 => by rw [hU]; exact hS.2.1 q h1 h2) (by rw [hU]; exact hS.1) hF (fun k hk => by
      have : tg_rn is k = k := by simp [tg_rn, List.getD, List.getElem?_eq_none (show is.length ≤ k by omega)]
      rw [this])⟩⟩
    rfl (by simp [hn]) hL.1 (by simp [tg_v_v, tg_v_ref, List.map_reverse, Function.comp_def]) (lv_room (by simpa [tg_v_cat, Function.comp_def] using hW)) hdg ⟨by omega, by omega⟩
  refine tgw_ret hrun hP hD hS hA hfr hlen (fun r wc' H1 locs1 hK' hP1 hD1 hS1 => ?_)
  have key := kk r wc' hK' p e s m args below meth c D cA A ad H1 locs1 ls Qc C hkc hks hK hA hE hQ hP1 hD1 hS1 hL
  rw [hc0, hs0]
  have e1 : (((r.map (tg_v (tg_rn is))).toList ++ rest).map (tg_v ad)) = (r.map (tg_v (fun k => ad (tg_rn is k)))).toList ++ rest.map (tg_v ad) := by
    cases r <;> simp [tg_v_v]
  rw [e1] at key
  exact key
set_option maxHeartbeats 1000000 in
theorem tg_callS {l : tg_Ln} {M M' : tg_M} {n0 n pc kc ks : Nat} {K K' : Option Value → List va_E → Prop} {lv : List Value} {w : List va_E} (hs : tg_SS0 M pc M' n) (is : List Nat) {As rest : List Value} {wc : List va_E} (hc : tg_Ct l M' 1000 As wc K')
    (hfr : is.map (fun i => w[i]?) = wc.map (fun c => some (tg_e (fun t => t) (tg_rn is) c))) (hnd : va_nd is = true) (his : is.length ≤ 1000) (hn : As.length = n) (hla : (tg_la As).length ≤ M'.2.2.1) (hW : (rest.map fun v => v.category).sum ≤ 8)
    (hlen : ∀ r wc', K' r wc' → wc'.length = wc.length)
    (kk : ∀ r wc', K' r wc' → tg_G l M n0 K kc ks (pc + 3) lv ((r.map (tg_v (tg_rn is))).toList ++ rest) (tg_put (tg_rn is) w is wc')) :
    tg_G l M n0 K kc ks pc lv ((As.map (tg_v (tg_rn is))).reverse ++ rest) w := by
  obtain ⟨hok, ⟨idx, hdg, hlk⟩, hst, hpd, hc0, hs0, hfrm, hloc⟩ := hs
  intro p e s m args below meth c D cA A ad H locs ls Qc C hkc hks hK hA hE hQ hP hD hS hL
  obtain ⟨hx, hb, hr, hml, hown, hts, hlk2, hnm⟩ := id C
  have hpart := tg_part (cA := cA) (ad := ad) hfr
  have hPc : va_P D vwCl (tg_w cA (fun k => ad (tg_rn is k)) 0 wc) H := hP.sub is (by rw [show is.filterMap (fun i => (tg_w cA ad 0 w)[i]?) = (is.map (fun i => (tg_w cA ad 0 w)[i]?)).filterMap id by simp [List.filterMap_map, Function.comp_def], hpart]; simp [List.filterMap_map, Function.comp_def])
  have hDc := hD.sub is hnd hpart
  have hF := va_free (A0 := A) hD hS hA is hpart
  have hrun := va_runS (p := p) (l := l.1) (e := e) (R := M.2.2.2.2) (below := below) (meth := meth) (locs := locs) (cells := kc) (slots := ks) (As := As.map (tg_v (fun k => ad (tg_rn is k)))) (rest := rest.map (tg_v ad)) (g := F0 m pc ls (((As.map (tg_v (tg_rn is))).reverse ++ rest).map (tg_v ad))) (Ts := tg_T) (n := n) ⟨hx, hb, hml, hown, hts⟩
    (tg_met hok hla hc D cA (fun k => ad (tg_rn is k)) H.size)
    (va_cwS n hts (fun z hz => by
      rcases List.mem_append.mp hz with hz | hz
      · simp only [List.mem_cons, List.not_mem_nil, or_false] at hz
        rcases hz with rfl | rfl | rfl
        · exact tg_goodT _ hlk
        · exact tg_goodT _ hst
        · exact tg_goodT _ hok.2.1
      · exact tg_goodM hok z hz) rfl rfl rfl ⟨hok.2.2.2.1, hok.2.2.2.2, hpd⟩ ⟨hfrm, hloc⟩)
    ⟨tg_blind _ _ _ _ _ _ _, fun U hU hW => ⟨rfl, by rw [hU], by rw [hU]; exact hPc, va_K.moved hW.alike hK, hDc.weaken (fun _ _ _ _ => trivial), hE.go hW (fun q h1 h2 => by rw [hU]; exact hS.2.1 q h1 h2) (by rw [hU]; exact hS.1) hF (fun k hk => by
      have : tg_rn is k = k := by simp [tg_rn, List.getD, List.getElem?_eq_none (show is.length ≤ k by omega)]
      rw [this])⟩⟩
    rfl (by simp [hn]) hL.1 (by simp [tg_v_v, tg_v_ref, List.map_reverse, Function.comp_def]) (lv_room (by simpa [tg_v_cat, Function.comp_def] using hW)) hdg ⟨by omega, by omega⟩
  refine tgw_ret hrun hP hD hS hA hfr hlen (fun r wc' H1 locs1 hK' hP1 hD1 hS1 => ?_)
  have key := kk r wc' hK' p e s m args below meth c D cA A ad H1 locs1 ls Qc C hkc hks hK hA hE hQ hP1 hD1 hS1 hL
  rw [hc0, hs0]
  have e1 : (((r.map (tg_v (tg_rn is))).toList ++ rest).map (tg_v ad)) = (r.map (tg_v (fun k => ad (tg_rn is k)))).toList ++ rest.map (tg_v ad) := by
    cases r <;> simp [tg_v_v]
  rw [e1] at key
  exact key
end
section
/-! INSTRUCTIONS as transformers of what is to hold behind them; 's_..': each is sound where the method's bytes have it -/
abbrev tg_K : Type := List Value → List Value → List va_E → Prop
def tg_Snd (M : tg_M) (pc : Nat) (T : tg_K → tg_K) (pc' : Nat) : Prop := ∀ (l : tg_Ln) (n0 : Nat) (K : Option Value → List va_E → Prop) (kc ks : Nat) (k : tg_K), (∀ lv st w, k lv st w → tg_G l M n0 K kc ks pc' lv st w) → ∀ lv st w, T k lv st w → tg_G l M n0 K kc ks pc lv st w
theorem tg_seq {M : tg_M} {a b c : Nat} {T U : tg_K → tg_K} (h1 : tg_Snd M a T b) (h2 : tg_Snd M b U c) : tg_Snd M a (fun k => T (U k)) c := fun l n0 K kc ks k hk lv st w h => h1 l n0 K kc ks (U k) (fun lv st w h => h2 l n0 K kc ks k hk lv st w h) lv st w h
theorem tg_go {M : tg_M} {a b : Nat} {T : tg_K → tg_K} (h : tg_Snd M a T b) {l : tg_Ln} {n0 : Nat} {K : Option Value → List va_E → Prop} {kc ks : Nat} {lv st : List Value} {w : List va_E} (hk : T (fun lv st w => tg_G l M n0 K kc ks b lv st w) lv st w) : tg_G l M n0 K kc ks a lv st w := h l n0 K kc ks _ (fun _ _ _ h => h) lv st w hk
theorem tg_pure {M : tg_M} {pc pc' : Nat} {T : tg_K → tg_K} (h : ∀ (k : tg_K) (lv st : List Value) (w : List va_E), T k lv st w → ∃ st' : List Value, k lv st' w ∧ ∀ (p : Program) (l : Launch) (e : Env) (R : Room) (s : State) (m : MethodId) (args : Array Value) (below : List Frame) (meth : Method) (c : Code) (H : Heap) (locs : List Loc) (cells slots : Nat) (Q : State → Prop) (ls : Array Slot) (ad : Nat → Nat), p.tables.exec = Jvm.exec → c.code = M.2.1 → s.vm.findClass M.1.cls = some m.cls → (∀ w ∈ tg_T, w.before args s = true) → W p l e R s m args below meth c H locs cells slots Q (F0 m pc' ls (st'.map (tg_v ad))) → W p l e R s m args below meth c H locs cells slots Q (F0 m pc ls (st.map (tg_v ad)))) : tg_Snd M pc T pc' := by
  intro l n0 K kc ks k hk lv st w ht
  obtain ⟨st', h1, h2⟩ := h k lv st w ht
  intro p e s m args below meth c D cA A ad H locs ls Qc C a1 a2 hK hA hE hQ hP hD hS hL
  exact h2 p l.1 e _ s m args below meth c H locs kc ks _ ls ad C.1 C.2.1 C.2.2.2.2.1 C.2.2.2.2.2.1 (hk _ _ _ h1 p e s m args below meth c D cA A ad H locs ls Qc C a1 a2 hK hA hE hQ hP hD hS hL)
def ti_push (v : Value) : tg_K → tg_K := fun k lv st w => k lv (v :: st) w
theorem si_iconst {M : tg_M} {pc : Nat} {n : Int} {v : Int32} (hd : decode M.2.1 pc = .ok (.iconst n, 1)) (hv : Int32.ofInt n = v) : tg_Snd M pc (ti_push (.int v)) (pc + 1) := tg_pure fun k lv st w h => ⟨_, h, fun p l e R s m args below meth c H locs cells slots Q ls ad hx hb ho ht kk => lv_iconst hx hb hd hv kk⟩
theorem si_bipush {M : tg_M} {pc : Nat} {n : Int} {v : Int32} (hd : decode M.2.1 pc = .ok (.bipush n, 2)) (hv : (Int8.ofInt n).toInt32 = v) : tg_Snd M pc (ti_push (.int v)) (pc + 2) := tg_pure fun k lv st w h => ⟨_, h, fun p l e R s m args below meth c H locs cells slots Q ls ad hx hb ho ht kk => lv_bipush hx hb hd hv kk⟩
theorem si_sipush {M : tg_M} {pc : Nat} {n : Int} {v : Int32} (hd : decode M.2.1 pc = .ok (.sipush n, 3)) (hv : (Int16.ofInt n).toInt32 = v) : tg_Snd M pc (ti_push (.int v)) (pc + 3) := tg_pure fun k lv st w h => ⟨_, h, fun p l e R s m args below meth c H locs cells slots Q ls ad hx hb ho ht kk => lv_sipush hx hb hd hv kk⟩
theorem si_lconst {M : tg_M} {pc : Nat} {n : Fin 2} {v : Int64} (hd : decode M.2.1 pc = .ok (.lconst n, 1)) (hv : Int64.ofNat (n : Nat) = v) : tg_Snd M pc (ti_push (.long v)) (pc + 1) := tg_pure fun k lv st w h => ⟨_, h, fun p l e R s m args below meth c H locs cells slots Q ls ad hx hb ho ht kk => lv_lconst hx hb hd hv kk⟩
theorem si_ldc {M : tg_M} {pc i : Nat} {v : Int32} (hd : decode M.2.1 pc = .ok (.ldc i, 2)) (hm : Cond.constant M.1.cls i v ∈ tg_T) : tg_Snd M pc (ti_push (.int v)) (pc + 2) := tg_pure fun k lv st w h => ⟨_, h, fun p l e R s m args below meth c H locs cells slots Q ls ad hx hb ho ht kk => lv_ldc hx hb ho (ht _ hm) hd kk⟩
theorem si_ldc2 {M : tg_M} {pc i : Nat} {v : Int64} (hd : decode M.2.1 pc = .ok (.ldc2_w i, 3)) (hm : Cond.constantLong M.1.cls i v ∈ tg_T) : tg_Snd M pc (ti_push (.long v)) (pc + 3) := tg_pure fun k lv st w h => ⟨_, h, fun p l e R s m args below meth c H locs cells slots Q ls ad hx hb ho ht kk => lv_ldc2 hx hb ho (ht _ hm) hd kk⟩
def tg_rem (x y : Int32) : Int32 := x - x / y * y
def ti_iadd : tg_K → tg_K := fun k lv st w => match st with
  | .int y :: .int x :: st => k lv (.int (x + y) :: st) w
  | _ => False
theorem si_iadd {M : tg_M} {pc : Nat} (hd : decode M.2.1 pc = .ok (.iadd, 1)) : tg_Snd M pc ti_iadd (pc + 1) := tg_pure fun k lv st w h => by
  unfold ti_iadd at h
  split at h
  · exact ⟨_, h, fun p l e R s m args below meth c H locs cells slots Q ls ad hx hb ho ht kk => lv_iadd hx hb hd kk⟩
  · exact h.elim
def ti_isub : tg_K → tg_K := fun k lv st w => match st with
  | .int y :: .int x :: st => k lv (.int (x - y) :: st) w
  | _ => False
theorem si_isub {M : tg_M} {pc : Nat} (hd : decode M.2.1 pc = .ok (.isub, 1)) : tg_Snd M pc ti_isub (pc + 1) := tg_pure fun k lv st w h => by
  unfold ti_isub at h
  split at h
  · exact ⟨_, h, fun p l e R s m args below meth c H locs cells slots Q ls ad hx hb ho ht kk => lv_isub hx hb hd kk⟩
  · exact h.elim
def ti_imul : tg_K → tg_K := fun k lv st w => match st with
  | .int y :: .int x :: st => k lv (.int (x * y) :: st) w
  | _ => False
theorem si_imul {M : tg_M} {pc : Nat} (hd : decode M.2.1 pc = .ok (.imul, 1)) : tg_Snd M pc ti_imul (pc + 1) := tg_pure fun k lv st w h => by
  unfold ti_imul at h
  split at h
  · exact ⟨_, h, fun p l e R s m args below meth c H locs cells slots Q ls ad hx hb ho ht kk => lv_imul hx hb hd kk⟩
  · exact h.elim
def ti_iand : tg_K → tg_K := fun k lv st w => match st with
  | .int y :: .int x :: st => k lv (.int (x &&& y) :: st) w
  | _ => False
theorem si_iand {M : tg_M} {pc : Nat} (hd : decode M.2.1 pc = .ok (.iand, 1)) : tg_Snd M pc ti_iand (pc + 1) := tg_pure fun k lv st w h => by
  unfold ti_iand at h
  split at h
  · exact ⟨_, h, fun p l e R s m args below meth c H locs cells slots Q ls ad hx hb ho ht kk => lv_iand hx hb hd kk⟩
  · exact h.elim
def ti_ior : tg_K → tg_K := fun k lv st w => match st with
  | .int y :: .int x :: st => k lv (.int (x ||| y) :: st) w
  | _ => False
theorem si_ior {M : tg_M} {pc : Nat} (hd : decode M.2.1 pc = .ok (.ior, 1)) : tg_Snd M pc ti_ior (pc + 1) := tg_pure fun k lv st w h => by
  unfold ti_ior at h
  split at h
  · exact ⟨_, h, fun p l e R s m args below meth c H locs cells slots Q ls ad hx hb ho ht kk => lv_ior hx hb hd kk⟩
  · exact h.elim
def ti_ixor : tg_K → tg_K := fun k lv st w => match st with
  | .int y :: .int x :: st => k lv (.int (x ^^^ y) :: st) w
  | _ => False
theorem si_ixor {M : tg_M} {pc : Nat} (hd : decode M.2.1 pc = .ok (.ixor, 1)) : tg_Snd M pc ti_ixor (pc + 1) := tg_pure fun k lv st w h => by
  unfold ti_ixor at h
  split at h
  · exact ⟨_, h, fun p l e R s m args below meth c H locs cells slots Q ls ad hx hb ho ht kk => lv_ixor hx hb hd kk⟩
  · exact h.elim
def ti_ishl : tg_K → tg_K := fun k lv st w => match st with
  | .int y :: .int x :: st => k lv (.int (x <<< (y &&& 31)) :: st) w
  | _ => False
theorem si_ishl {M : tg_M} {pc : Nat} (hd : decode M.2.1 pc = .ok (.ishl, 1)) : tg_Snd M pc ti_ishl (pc + 1) := tg_pure fun k lv st w h => by
  unfold ti_ishl at h
  split at h
  · exact ⟨_, h, fun p l e R s m args below meth c H locs cells slots Q ls ad hx hb ho ht kk => lv_ishl hx hb hd kk⟩
  · exact h.elim
def ti_ishr : tg_K → tg_K := fun k lv st w => match st with
  | .int y :: .int x :: st => k lv (.int (x >>> (y &&& 31)) :: st) w
  | _ => False
theorem si_ishr {M : tg_M} {pc : Nat} (hd : decode M.2.1 pc = .ok (.ishr, 1)) : tg_Snd M pc ti_ishr (pc + 1) := tg_pure fun k lv st w h => by
  unfold ti_ishr at h
  split at h
  · exact ⟨_, h, fun p l e R s m args below meth c H locs cells slots Q ls ad hx hb ho ht kk => lv_ishr hx hb hd kk⟩
  · exact h.elim
def ti_idiv : tg_K → tg_K := fun k lv st w => match st with
  | .int y :: .int x :: st => ¬ y = 0 ∧ k lv (.int (x / y) :: st) w
  | _ => False
theorem si_idiv {M : tg_M} {pc : Nat} (hd : decode M.2.1 pc = .ok (.idiv, 1)) : tg_Snd M pc ti_idiv (pc + 1) := tg_pure fun k lv st w h => by
  unfold ti_idiv at h
  split at h
  · exact ⟨_, h.2, fun p l e R s m args below meth c H locs cells slots Q ls ad hx hb ho ht kk => lv_idiv hx hb hd h.1 kk⟩
  · exact h.elim
def ti_irem : tg_K → tg_K := fun k lv st w => match st with
  | .int y :: .int x :: st => ¬ y = 0 ∧ k lv (.int (tg_rem x y) :: st) w
  | _ => False
theorem si_irem {M : tg_M} {pc : Nat} (hd : decode M.2.1 pc = .ok (.irem, 1)) : tg_Snd M pc ti_irem (pc + 1) := tg_pure fun k lv st w h => by
  unfold ti_irem at h
  split at h
  · exact ⟨_, h.2, fun p l e R s m args below meth c H locs cells slots Q ls ad hx hb ho ht kk => lv_irem hx hb hd h.1 kk⟩
  · exact h.elim
def ti_ineg : tg_K → tg_K := fun k lv st w => match st with
  | .int x :: st => k lv (.int (-x) :: st) w
  | _ => False
theorem si_ineg {M : tg_M} {pc : Nat} (hd : decode M.2.1 pc = .ok (.ineg, 1)) : tg_Snd M pc ti_ineg (pc + 1) := tg_pure fun k lv st w h => by
  unfold ti_ineg at h
  split at h
  · exact ⟨_, h, fun p l e R s m args below meth c H locs cells slots Q ls ad hx hb ho ht kk => lv_ineg hx hb hd kk⟩
  · exact h.elim
def ti_ladd : tg_K → tg_K := fun k lv st w => match st with
  | .long y :: .long x :: st => k lv (.long (x + y) :: st) w
  | _ => False
theorem si_ladd {M : tg_M} {pc : Nat} (hd : decode M.2.1 pc = .ok (.ladd, 1)) : tg_Snd M pc ti_ladd (pc + 1) := tg_pure fun k lv st w h => by
  unfold ti_ladd at h
  split at h
  · exact ⟨_, h, fun p l e R s m args below meth c H locs cells slots Q ls ad hx hb ho ht kk => lv_ladd hx hb hd kk⟩
  · exact h.elim
def ti_lsub : tg_K → tg_K := fun k lv st w => match st with
  | .long y :: .long x :: st => k lv (.long (x - y) :: st) w
  | _ => False
theorem si_lsub {M : tg_M} {pc : Nat} (hd : decode M.2.1 pc = .ok (.lsub, 1)) : tg_Snd M pc ti_lsub (pc + 1) := tg_pure fun k lv st w h => by
  unfold ti_lsub at h
  split at h
  · exact ⟨_, h, fun p l e R s m args below meth c H locs cells slots Q ls ad hx hb ho ht kk => lv_lsub hx hb hd kk⟩
  · exact h.elim
def ti_lmul : tg_K → tg_K := fun k lv st w => match st with
  | .long y :: .long x :: st => k lv (.long (x * y) :: st) w
  | _ => False
theorem si_lmul {M : tg_M} {pc : Nat} (hd : decode M.2.1 pc = .ok (.lmul, 1)) : tg_Snd M pc ti_lmul (pc + 1) := tg_pure fun k lv st w h => by
  unfold ti_lmul at h
  split at h
  · exact ⟨_, h, fun p l e R s m args below meth c H locs cells slots Q ls ad hx hb ho ht kk => lv_lmul hx hb hd kk⟩
  · exact h.elim
def ti_land : tg_K → tg_K := fun k lv st w => match st with
  | .long y :: .long x :: st => k lv (.long (x &&& y) :: st) w
  | _ => False
theorem si_land {M : tg_M} {pc : Nat} (hd : decode M.2.1 pc = .ok (.land, 1)) : tg_Snd M pc ti_land (pc + 1) := tg_pure fun k lv st w h => by
  unfold ti_land at h
  split at h
  · exact ⟨_, h, fun p l e R s m args below meth c H locs cells slots Q ls ad hx hb ho ht kk => lv_land hx hb hd kk⟩
  · exact h.elim
def ti_lor : tg_K → tg_K := fun k lv st w => match st with
  | .long y :: .long x :: st => k lv (.long (x ||| y) :: st) w
  | _ => False
theorem si_lor {M : tg_M} {pc : Nat} (hd : decode M.2.1 pc = .ok (.lor, 1)) : tg_Snd M pc ti_lor (pc + 1) := tg_pure fun k lv st w h => by
  unfold ti_lor at h
  split at h
  · exact ⟨_, h, fun p l e R s m args below meth c H locs cells slots Q ls ad hx hb ho ht kk => lv_lor hx hb hd kk⟩
  · exact h.elim
def ti_lxor : tg_K → tg_K := fun k lv st w => match st with
  | .long y :: .long x :: st => k lv (.long (x ^^^ y) :: st) w
  | _ => False
theorem si_lxor {M : tg_M} {pc : Nat} (hd : decode M.2.1 pc = .ok (.lxor, 1)) : tg_Snd M pc ti_lxor (pc + 1) := tg_pure fun k lv st w h => by
  unfold ti_lxor at h
  split at h
  · exact ⟨_, h, fun p l e R s m args below meth c H locs cells slots Q ls ad hx hb ho ht kk => lv_lxor hx hb hd kk⟩
  · exact h.elim
def ti_ldiv : tg_K → tg_K := fun k lv st w => match st with
  | .long y :: .long x :: st => ¬ y = 0 ∧ k lv (.long (x / y) :: st) w
  | _ => False
theorem si_ldiv {M : tg_M} {pc : Nat} (hd : decode M.2.1 pc = .ok (.ldiv, 1)) : tg_Snd M pc ti_ldiv (pc + 1) := tg_pure fun k lv st w h => by
  unfold ti_ldiv at h
  split at h
  · exact ⟨_, h.2, fun p l e R s m args below meth c H locs cells slots Q ls ad hx hb ho ht kk => lv_ldiv hx hb hd h.1 kk⟩
  · exact h.elim
def ti_lneg : tg_K → tg_K := fun k lv st w => match st with
  | .long x :: st => k lv (.long (-x) :: st) w
  | _ => False
theorem si_lneg {M : tg_M} {pc : Nat} (hd : decode M.2.1 pc = .ok (.lneg, 1)) : tg_Snd M pc ti_lneg (pc + 1) := tg_pure fun k lv st w h => by
  unfold ti_lneg at h
  split at h
  · exact ⟨_, h, fun p l e R s m args below meth c H locs cells slots Q ls ad hx hb ho ht kk => lv_lneg hx hb hd kk⟩
  · exact h.elim
def ti_lshl : tg_K → tg_K := fun k lv st w => match st with
  | .int y :: .long x :: st => k lv (.long (x <<< (y.toInt64 &&& 63)) :: st) w
  | _ => False
theorem si_lshl {M : tg_M} {pc : Nat} (hd : decode M.2.1 pc = .ok (.lshl, 1)) : tg_Snd M pc ti_lshl (pc + 1) := tg_pure fun k lv st w h => by
  unfold ti_lshl at h
  split at h
  · exact ⟨_, h, fun p l e R s m args below meth c H locs cells slots Q ls ad hx hb ho ht kk => lv_lshl hx hb hd rfl kk⟩
  · exact h.elim
def ti_lshr : tg_K → tg_K := fun k lv st w => match st with
  | .int y :: .long x :: st => k lv (.long (x >>> (y.toInt64 &&& 63)) :: st) w
  | _ => False
theorem si_lshr {M : tg_M} {pc : Nat} (hd : decode M.2.1 pc = .ok (.lshr, 1)) : tg_Snd M pc ti_lshr (pc + 1) := tg_pure fun k lv st w h => by
  unfold ti_lshr at h
  split at h
  · exact ⟨_, h, fun p l e R s m args below meth c H locs cells slots Q ls ad hx hb ho ht kk => lv_lshr hx hb hd rfl kk⟩
  · exact h.elim
def ti_lushr : tg_K → tg_K := fun k lv st w => match st with
  | .int y :: .long x :: st => k lv (.long ((x.toUInt64 >>> (y.toInt64.toUInt64 &&& Int64.toUInt64 63)).toInt64) :: st) w
  | _ => False
theorem si_lushr {M : tg_M} {pc : Nat} (hd : decode M.2.1 pc = .ok (.lushr, 1)) : tg_Snd M pc ti_lushr (pc + 1) := tg_pure fun k lv st w h => by
  unfold ti_lushr at h
  split at h
  · exact ⟨_, h, fun p l e R s m args below meth c H locs cells slots Q ls ad hx hb ho ht kk => lv_lushr hx hb hd rfl kk⟩
  · exact h.elim
def ti_iushr : tg_K → tg_K := fun k lv st w => match st with
  | .int y :: .int x :: st => k lv (.int ((x.toUInt32 >>> (y.toUInt32 &&& Int32.toUInt32 31)).toInt32) :: st) w
  | _ => False
theorem si_iushr {M : tg_M} {pc : Nat} (hd : decode M.2.1 pc = .ok (.iushr, 1)) : tg_Snd M pc ti_iushr (pc + 1) := tg_pure fun k lv st w h => by
  unfold ti_iushr at h
  split at h
  · exact ⟨_, h, fun p l e R s m args below meth c H locs cells slots Q ls ad hx hb ho ht kk => lv_iushr hx hb hd rfl kk⟩
  · exact h.elim
def ti_i2l : tg_K → tg_K := fun k lv st w => match st with
  | .int x :: st => k lv (.long x.toInt64 :: st) w
  | _ => False
theorem si_i2l {M : tg_M} {pc : Nat} (hd : decode M.2.1 pc = .ok (.i2l, 1)) : tg_Snd M pc ti_i2l (pc + 1) := tg_pure fun k lv st w h => by
  unfold ti_i2l at h
  split at h
  · exact ⟨_, h, fun p l e R s m args below meth c H locs cells slots Q ls ad hx hb ho ht kk => lv_i2l hx hb hd rfl kk⟩
  · exact h.elim
def ti_l2i : tg_K → tg_K := fun k lv st w => match st with
  | .long x :: st => k lv (.int x.toInt32 :: st) w
  | _ => False
theorem si_l2i {M : tg_M} {pc : Nat} (hd : decode M.2.1 pc = .ok (.l2i, 1)) : tg_Snd M pc ti_l2i (pc + 1) := tg_pure fun k lv st w h => by
  unfold ti_l2i at h
  split at h
  · exact ⟨_, h, fun p l e R s m args below meth c H locs cells slots Q ls ad hx hb ho ht kk => lv_l2i hx hb hd rfl kk⟩
  · exact h.elim
def ti_i2c : tg_K → tg_K := fun k lv st w => match st with
  | .int x :: st => k lv (.int (x.toUInt32 % 65536).toInt32 :: st) w
  | _ => False
theorem si_i2c {M : tg_M} {pc : Nat} (hd : decode M.2.1 pc = .ok (.i2c, 1)) : tg_Snd M pc ti_i2c (pc + 1) := tg_pure fun k lv st w h => by
  unfold ti_i2c at h
  split at h
  · exact ⟨_, h, fun p l e R s m args below meth c H locs cells slots Q ls ad hx hb ho ht kk => lv_i2c hx hb hd rfl kk⟩
  · exact h.elim
def ti_lcmp : tg_K → tg_K := fun k lv st w => match st with
  | .long y :: .long x :: st => k lv (.int (lg_cmp x y) :: st) w
  | _ => False
theorem si_lcmp {M : tg_M} {pc : Nat} (hd : decode M.2.1 pc = .ok (.lcmp, 1)) : tg_Snd M pc ti_lcmp (pc + 1) := tg_pure fun k lv st w h => by
  unfold ti_lcmp at h
  split at h
  · exact ⟨_, h, fun p l e R s m args below meth c H locs cells slots Q ls ad hx hb ho ht kk => W.lcmp hx hb hd kk⟩
  · exact h.elim
def ti_dup : tg_K → tg_K := fun k lv st w => match st with
  | v :: st => v.category = 1 ∧ k lv (v :: v :: st) w
  | _ => False
theorem si_dup {M : tg_M} {pc : Nat} (hd : decode M.2.1 pc = .ok (.dup, 1)) : tg_Snd M pc ti_dup (pc + 1) := tg_pure fun k lv st w h => by
  unfold ti_dup at h
  split at h
  · exact ⟨_, h.2, fun p l e R s m args below meth c H locs cells slots Q ls ad hx hb ho ht kk => lv_dup hx hb hd (by rw [tg_v_cat]; exact h.1) kk⟩
  · exact h.elim
def ti_pop : tg_K → tg_K := fun k lv st w => match st with
  | v :: st => v.category = 1 ∧ k lv st w
  | _ => False
theorem si_pop {M : tg_M} {pc : Nat} (hd : decode M.2.1 pc = .ok (.pop, 1)) : tg_Snd M pc ti_pop (pc + 1) := tg_pure fun k lv st w h => by
  unfold ti_pop at h
  split at h
  · exact ⟨_, h.2, fun p l e R s m args below meth c H locs cells slots Q ls ad hx hb ho ht kk => lv_pop hx hb hd (by rw [tg_v_cat]; exact h.1) kk⟩
  · exact h.elim
def ti_dup_x1 : tg_K → tg_K := fun k lv st w => match st with
  | v :: u :: st => (v.category = 1 ∧ u.category = 1) ∧ k lv (v :: u :: v :: st) w
  | _ => False
theorem si_dup_x1 {M : tg_M} {pc : Nat} (hd : decode M.2.1 pc = .ok (.dup_x1, 1)) : tg_Snd M pc ti_dup_x1 (pc + 1) := tg_pure fun k lv st w h => by
  unfold ti_dup_x1 at h
  split at h
  · exact ⟨_, h.2, fun p l e R s m args below meth c H locs cells slots Q ls ad hx hb ho ht kk => lv_dup_x1 hx hb hd (by rw [tg_v_cat]; exact h.1.1) (by rw [tg_v_cat]; exact h.1.2) kk⟩
  · exact h.elim
def ti_dup2 : tg_K → tg_K := fun k lv st w => match st with
  | v :: u :: st => (v.category = 1 ∧ u.category = 1) ∧ k lv (v :: u :: v :: u :: st) w
  | _ => False
theorem si_dup2 {M : tg_M} {pc : Nat} (hd : decode M.2.1 pc = .ok (.dup2, 1)) : tg_Snd M pc ti_dup2 (pc + 1) := tg_pure fun k lv st w h => by
  unfold ti_dup2 at h
  split at h
  · exact ⟨_, h.2, fun p l e R s m args below meth c H locs cells slots Q ls ad hx hb ho ht kk => lv_dup2_11 hx hb hd (by rw [tg_v_cat]; exact h.1.1) (by rw [tg_v_cat]; exact h.1.2) kk⟩
  · exact h.elim
def ti_iload (i : Nat) : tg_K → tg_K := fun k lv st w => match lv[i]? with
  | some (.int x) => k lv (.int x :: st) w
  | _ => False
theorem si_iload {M : tg_M} {pc i : Nat} (hd : decode M.2.1 pc = .ok (.iload i, 2)) : tg_Snd M pc (ti_iload i) (pc + 2) := by
  intro l n0 K kc ks k hk lv st w h
  unfold ti_iload at h
  split at h
  · rename_i x hx
    intro p e s m args below meth c D cA A ad H locs ls Qc C a1 a2 hK hA hE hQ hP hD hS hL
    exact lv_iload C.1 C.2.1 hd (tg_L_at hL hx (by simp)) (hk _ _ _ h p e s m args below meth c D cA A ad H locs ls Qc C a1 a2 hK hA hE hQ hP hD hS hL)
  · exact h.elim
theorem si_iload_n {M : tg_M} {pc i : Nat} {j : Fin 4} (hd : decode M.2.1 pc = .ok (.iload_n j, 1)) (hi : (j : Nat) = i) : tg_Snd M pc (ti_iload i) (pc + 1) := by
  intro l n0 K kc ks k hk lv st w h
  unfold ti_iload at h
  split at h
  · rename_i x hx
    intro p e s m args below meth c D cA A ad H locs ls Qc C a1 a2 hK hA hE hQ hP hD hS hL
    exact lv_iload_n C.1 C.2.1 hd hi (tg_L_at hL hx (by simp)) (hk _ _ _ h p e s m args below meth c D cA A ad H locs ls Qc C a1 a2 hK hA hE hQ hP hD hS hL)
  · exact h.elim
def ti_lload (i : Nat) : tg_K → tg_K := fun k lv st w => match lv[i]? with
  | some (.long x) => k lv (.long x :: st) w
  | _ => False
theorem si_lload {M : tg_M} {pc i : Nat} (hd : decode M.2.1 pc = .ok (.lload i, 2)) : tg_Snd M pc (ti_lload i) (pc + 2) := by
  intro l n0 K kc ks k hk lv st w h
  unfold ti_lload at h
  split at h
  · rename_i x hx
    intro p e s m args below meth c D cA A ad H locs ls Qc C a1 a2 hK hA hE hQ hP hD hS hL
    exact lv_lload C.1 C.2.1 hd (tg_L_at hL hx (by simp)) (hk _ _ _ h p e s m args below meth c D cA A ad H locs ls Qc C a1 a2 hK hA hE hQ hP hD hS hL)
  · exact h.elim
theorem si_lload_n {M : tg_M} {pc i : Nat} {j : Fin 4} (hd : decode M.2.1 pc = .ok (.lload_n j, 1)) (hi : (j : Nat) = i) : tg_Snd M pc (ti_lload i) (pc + 1) := by
  intro l n0 K kc ks k hk lv st w h
  unfold ti_lload at h
  split at h
  · rename_i x hx
    intro p e s m args below meth c D cA A ad H locs ls Qc C a1 a2 hK hA hE hQ hP hD hS hL
    exact lv_lload_n C.1 C.2.1 hd hi (tg_L_at hL hx (by simp)) (hk _ _ _ h p e s m args below meth c D cA A ad H locs ls Qc C a1 a2 hK hA hE hQ hP hD hS hL)
  · exact h.elim
def ti_aload (i : Nat) : tg_K → tg_K := fun k lv st w => match lv[i]? with
  | some (.ref x) => k lv (.ref x :: st) w
  | _ => False
theorem si_aload {M : tg_M} {pc i : Nat} (hd : decode M.2.1 pc = .ok (.aload i, 2)) : tg_Snd M pc (ti_aload i) (pc + 2) := by
  intro l n0 K kc ks k hk lv st w h
  unfold ti_aload at h
  split at h
  · rename_i x hx
    intro p e s m args below meth c D cA A ad H locs ls Qc C a1 a2 hK hA hE hQ hP hD hS hL
    exact lv_aload C.1 C.2.1 hd (tg_L_at hL hx (by simp)) (hk _ _ _ h p e s m args below meth c D cA A ad H locs ls Qc C a1 a2 hK hA hE hQ hP hD hS hL)
  · exact h.elim
theorem si_aload_n {M : tg_M} {pc i : Nat} {j : Fin 4} (hd : decode M.2.1 pc = .ok (.aload_n j, 1)) (hi : (j : Nat) = i) : tg_Snd M pc (ti_aload i) (pc + 1) := by
  intro l n0 K kc ks k hk lv st w h
  unfold ti_aload at h
  split at h
  · rename_i x hx
    intro p e s m args below meth c D cA A ad H locs ls Qc C a1 a2 hK hA hE hQ hP hD hS hL
    exact lv_aload_n C.1 C.2.1 hd hi (tg_L_at hL hx (by simp)) (hk _ _ _ h p e s m args below meth c D cA A ad H locs ls Qc C a1 a2 hK hA hE hQ hP hD hS hL)
  · exact h.elim
def ti_istore (i : Nat) : tg_K → tg_K := fun k lv st w => match st with
  | .int x :: st => k (tg_s1 lv i (.int x)) st w
  | _ => False
theorem si_istore {M : tg_M} {pc i : Nat} (hd : decode M.2.1 pc = .ok (.istore i, 2)) (hn : i < M.2.2.1) : tg_Snd M pc (ti_istore i) (pc + 2) := by
  intro l n0 K kc ks k hk lv st w h
  unfold ti_istore at h
  split at h
  · intro p e s m args below meth c D cA A ad H locs ls Qc C a1 a2 hK hA hE hQ hP hD hS hL
    exact lv_istore C.1 C.2.1 hd hL hn rfl (fun ls' hL' => hk _ _ _ h p e s m args below meth c D cA A ad H locs ls' Qc C a1 a2 hK hA hE hQ hP hD hS (tg_L_s1 hL'))
  · exact h.elim
theorem si_istore_n {M : tg_M} {pc i : Nat} {j : Fin 4} (hd : decode M.2.1 pc = .ok (.istore_n j, 1)) (hi : (j : Nat) = i) (hn : i < M.2.2.1) : tg_Snd M pc (ti_istore i) (pc + 1) := by
  intro l n0 K kc ks k hk lv st w h
  unfold ti_istore at h
  split at h
  · intro p e s m args below meth c D cA A ad H locs ls Qc C a1 a2 hK hA hE hQ hP hD hS hL
    exact lv_istore_n C.1 C.2.1 hd hi hL hn rfl (fun ls' hL' => hk _ _ _ h p e s m args below meth c D cA A ad H locs ls' Qc C a1 a2 hK hA hE hQ hP hD hS (tg_L_s1 hL'))
  · exact h.elim
def ti_lstore (i : Nat) : tg_K → tg_K := fun k lv st w => match st with
  | .long x :: st => k (tg_s2 lv i (.long x)) st w
  | _ => False
theorem si_lstore {M : tg_M} {pc i : Nat} (hd : decode M.2.1 pc = .ok (.lstore i, 2)) (hn : i + 1 < M.2.2.1) : tg_Snd M pc (ti_lstore i) (pc + 2) := by
  intro l n0 K kc ks k hk lv st w h
  unfold ti_lstore at h
  split at h
  · intro p e s m args below meth c D cA A ad H locs ls Qc C a1 a2 hK hA hE hQ hP hD hS hL
    exact lv_lstore C.1 C.2.1 hd hL hn rfl (fun ls' hL' => hk _ _ _ h p e s m args below meth c D cA A ad H locs ls' Qc C a1 a2 hK hA hE hQ hP hD hS (tg_L_s2 hL'))
  · exact h.elim
theorem si_lstore_n {M : tg_M} {pc i : Nat} {j : Fin 4} (hd : decode M.2.1 pc = .ok (.lstore_n j, 1)) (hi : (j : Nat) = i) (hn : i + 1 < M.2.2.1) : tg_Snd M pc (ti_lstore i) (pc + 1) := by
  intro l n0 K kc ks k hk lv st w h
  unfold ti_lstore at h
  split at h
  · intro p e s m args below meth c D cA A ad H locs ls Qc C a1 a2 hK hA hE hQ hP hD hS hL
    exact lv_lstore_n C.1 C.2.1 hd hi hL hn rfl (fun ls' hL' => hk _ _ _ h p e s m args below meth c D cA A ad H locs ls' Qc C a1 a2 hK hA hE hQ hP hD hS (tg_L_s2 hL'))
  · exact h.elim
def ti_astore (i : Nat) : tg_K → tg_K := fun k lv st w => match st with
  | .ref x :: st => k (tg_s1 lv i (.ref x)) st w
  | _ => False
theorem si_astore {M : tg_M} {pc i : Nat} (hd : decode M.2.1 pc = .ok (.astore i, 2)) (hn : i < M.2.2.1) : tg_Snd M pc (ti_astore i) (pc + 2) := by
  intro l n0 K kc ks k hk lv st w h
  unfold ti_astore at h
  split at h
  · intro p e s m args below meth c D cA A ad H locs ls Qc C a1 a2 hK hA hE hQ hP hD hS hL
    exact lv_astore C.1 C.2.1 hd hL hn rfl (fun ls' hL' => hk _ _ _ h p e s m args below meth c D cA A ad H locs ls' Qc C a1 a2 hK hA hE hQ hP hD hS (tg_L_s1 hL'))
  · exact h.elim
theorem si_astore_n {M : tg_M} {pc i : Nat} {j : Fin 4} (hd : decode M.2.1 pc = .ok (.astore_n j, 1)) (hi : (j : Nat) = i) (hn : i < M.2.2.1) : tg_Snd M pc (ti_astore i) (pc + 1) := by
  intro l n0 K kc ks k hk lv st w h
  unfold ti_astore at h
  split at h
  · intro p e s m args below meth c D cA A ad H locs ls Qc C a1 a2 hK hA hE hQ hP hD hS hL
    exact lv_astore_n C.1 C.2.1 hd hi hL hn rfl (fun ls' hL' => hk _ _ _ h p e s m args below meth c D cA A ad H locs ls' Qc C a1 a2 hK hA hE hQ hP hD hS (tg_L_s1 hL'))
  · exact h.elim
def ti_iinc (i : Nat) (v : Int32) : tg_K → tg_K := fun k lv st w => match lv[i]? with
  | some (.int x) => k (tg_s1 lv i (.int (x + v))) st w
  | _ => False
theorem si_iinc {M : tg_M} {pc i : Nat} {n : Int} {v : Int32} (hd : decode M.2.1 pc = .ok (.iinc i n, 3)) (hv : Int32.ofInt n = v) (hn : i < M.2.2.1) : tg_Snd M pc (ti_iinc i v) (pc + 3) := by
  intro l n0 K kc ks k hk lv st w h
  unfold ti_iinc at h
  split at h
  · rename_i x hx
    intro p e s m args below meth c D cA A ad H locs ls Qc C a1 a2 hK hA hE hQ hP hD hS hL
    obtain ⟨q, hq⟩ := List.getElem?_of_mem ((tg_prs_mem ad lv 0 (i, tg_v ad (.int x))).mpr ⟨i, _, hx, by simp, by simp⟩)
    exact lv_iinc C.1 C.2.1 hd hL (k := q) hq rfl hn rfl (fun ls' hL' => hk _ _ _ h p e s m args below meth c D cA A ad H locs ls' Qc C a1 a2 hK hA hE hQ hP hD hS (by subst hv; exact tg_L_s1 hL'))
  · exact h.elim
/-- a class's words among the tables -/
def tg_cls (ci : Nat) (C : String) (T : u_T) (N : Nat) : Prop := vwCl[ci]? = some (C, T, N) ∧ (∀ w ∈ u_ws C T N, w ∈ tg_T)
def ti_getf (ci f : Nat) : tg_K → tg_K := fun k lv st w => match st with
  | .ref a :: st => match w[a]? with
    | some (.inr (cj, fs)) => match fs[f]? with
      | some v => cj = ci ∧ k lv (v :: st) w
      | none => False
    | _ => False
  | _ => False
theorem si_getf {M : tg_M} {pc ci f idx N : Nat} {C nm ds : String} {T : u_T} (hc : tg_cls ci C T N) (hf : f < N) (hT : T f = (C, nm, ds, (T f).2.2.2)) (hl : Cond.fieldLink M.1.cls idx C nm ds ∈ tg_T) (hd : decode M.2.1 pc = .ok (.getfield idx, 3)) : tg_Snd M pc (ti_getf ci f) (pc + 3) := by
  intro l n0 K kc ks k hk lv st w h
  unfold ti_getf at h
  split at h
  · rename_i a st
    split at h
    · rename_i cj fs hw
      split at h
      · rename_i v hv
        obtain ⟨rfl, h⟩ := h
        intro p e s m args below meth c D cA A ad H locs ls Qc C0 a1 a2 hK hA hE hQ hP hD hS hL
        refine va_get (D := D) (C := C) (T := T) (N := N) (ref := C) C0.1 C0.2.1 C0.2.2.2.2.2.1 hc.2 C0.2.2.2.2.1 hK hP a (tg_w_at hw) hc.1 f hf ?_ ?_ (v := tg_v ad v) ?_ hd (hk _ _ _ h p e s m args below meth c D cA A ad H locs ls Qc C0 a1 a2 hK hA hE hQ hP hD hS hL)
        · rw [hT]; exact C0.2.2.2.2.2.1 _ hl
        · rw [hT]; exact fun _ h => h
        · rw [List.getElem?_map, hv]; rfl
      · exact h.elim
    · exact h.elim
  · exact h.elim
def ti_putfI (ci f : Nat) : tg_K → tg_K := fun k lv st w => match st with
  | .int x :: .ref a :: st => match w[a]? with
    | some (.inr (cj, fs)) => match fs[f]? with
      | some _ => cj = ci ∧ k lv st (w.set a (.inr (cj, fs.set f (.int x))))
      | none => False
    | _ => False
  | _ => False
theorem si_putfI {M : tg_M} {pc ci f idx N : Nat} {C nm ds : String} {T : u_T} {ty0 : Nat → FieldType} {ty : FieldType} (hc : tg_cls ci C T N) (hty : ∀ k, k < N → parseFieldDescriptor (T k).2.2.1 = some (ty0 k)) (hnm : ∀ a, a < N → ∀ b, b < N → a ≠ b → (T a).2.1 ≠ (T b).2.1) (hf : f < N) (hT : T f = (C, nm, ds, false)) (hpd : parseFieldDescriptor ds = some ty) (hn : ∀ (x : Int32) (ad : Nat → Nat), narrow ty (tg_v ad (.int x)) = tg_v ad (.int x) ∧ fits ty (tg_v ad (.int x)) = true) (hl : Cond.fieldLink M.1.cls idx C nm ds ∈ tg_T) (hd : decode M.2.1 pc = .ok (.putfield idx, 3)) : tg_Snd M pc (ti_putfI ci f) (pc + 3) := by
  intro l n0 K kc ks k hk lv st w h
  unfold ti_putfI at h
  split at h
  · rename_i x a st
    split at h
    · rename_i cj fs hw
      split at h
      · rename_i v hv
        obtain ⟨rfl, h⟩ := h
        intro p e s m args below meth c D cA A ad H locs ls Qc C0 a1 a2 hK hA hE hQ hP hD hS hL
        refine va_put (D := D) (C := C) (T := T) (N := N) (ref := C) (ty := ty) (v := tg_v ad (.int x)) C0.1 C0.2.1 C0.2.2.2.2.2.1 hc.2 ty0 hty hnm C0.2.2.2.2.1 hK hP hD hS a (tg_w_at hw) hc.1 f hf ?_ ?_ ?_ ?_ ?_ ?_ ?_ hd (fun H1 locs1 hP1 hD1 hS1 => hk _ _ _ h p e s m args below meth c D cA A ad H1 locs1 ls Qc C0 a1 a2 hK hA hE hQ (?_) (?_) hS1 hL)
        · rw [hT]; exact C0.2.2.2.2.2.1 _ hl
        · rw [hT]; exact fun _ h => h
        · rw [hT]
        · rw [hT]; exact hpd
        · exact (hn x ad).1
        · exact (hn x ad).2
        · rw [List.length_map]; exact (List.getElem?_eq_some_iff.mp hv).1
        all_goals (rw [tg_w_set0]; simp only [tg_e, List.map_set]; assumption)
      · exact h.elim
    · exact h.elim
  · exact h.elim
theorem si_putfIF {M : tg_M} {pc ci f idx N : Nat} {C nm ds : String} {T : u_T} {ty0 : Nat → FieldType} {ty : FieldType} (hc : tg_cls ci C T N) (hty : ∀ k, k < N → parseFieldDescriptor (T k).2.2.1 = some (ty0 k)) (hnm : ∀ a, a < N → ∀ b, b < N → a ≠ b → (T a).2.1 ≠ (T b).2.1) (hf : f < N) (hT : T f = (C, nm, ds, true)) (hin : M.1.name = "<init>") (hdc : C = M.1.cls) (hpd : parseFieldDescriptor ds = some ty) (hn : ∀ (x : Int32) (ad : Nat → Nat), narrow ty (tg_v ad (.int x)) = tg_v ad (.int x) ∧ fits ty (tg_v ad (.int x)) = true) (hl : Cond.fieldLink M.1.cls idx C nm ds ∈ tg_T) (hd : decode M.2.1 pc = .ok (.putfield idx, 3)) : tg_Snd M pc (ti_putfI ci f) (pc + 3) := by
  intro l n0 K kc ks k hk lv st w h
  unfold ti_putfI at h
  split at h
  · rename_i x a st
    split at h
    · rename_i cj fs hw
      split at h
      · rename_i v hv
        obtain ⟨rfl, h⟩ := h
        intro p e s m args below meth c D cA A ad H locs ls Qc C0 a1 a2 hK hA hE hQ hP hD hS hL
        refine va_putF (D := D) (C := C) (T := T) (N := N) (ref := C) (ty := ty) (v := tg_v ad (.int x)) C0.1 C0.2.1 C0.2.2.2.2.2.1 hc.2 ty0 hty hnm C0.2.2.2.2.1 hK hP hD hS a (tg_w_at hw) hc.1 f hf ?_ ?_ ?_ (C0.2.2.2.2.2.2.2.trans hin) ?_ ?_ ?_ ?_ ?_ hd (fun H1 locs1 hP1 hD1 hS1 => hk _ _ _ h p e s m args below meth c D cA A ad H1 locs1 ls Qc C0 a1 a2 hK hA hE hQ (?_) (?_) hS1 hL)
        · rw [hT]; exact C0.2.2.2.2.2.1 _ hl
        · rw [hT]; exact fun _ h => h
        · rw [hT]
        · rw [hT]; exact hdc
        · rw [hT]; exact hpd
        · exact (hn x ad).1
        · exact (hn x ad).2
        · rw [List.length_map]; exact (List.getElem?_eq_some_iff.mp hv).1
        all_goals (rw [tg_w_set0]; simp only [tg_e, List.map_set]; assumption)
      · exact h.elim
    · exact h.elim
  · exact h.elim
def ti_putfJ (ci f : Nat) : tg_K → tg_K := fun k lv st w => match st with
  | .long x :: .ref a :: st => match w[a]? with
    | some (.inr (cj, fs)) => match fs[f]? with
      | some _ => cj = ci ∧ k lv st (w.set a (.inr (cj, fs.set f (.long x))))
      | none => False
    | _ => False
  | _ => False
theorem si_putfJ {M : tg_M} {pc ci f idx N : Nat} {C nm ds : String} {T : u_T} {ty0 : Nat → FieldType} {ty : FieldType} (hc : tg_cls ci C T N) (hty : ∀ k, k < N → parseFieldDescriptor (T k).2.2.1 = some (ty0 k)) (hnm : ∀ a, a < N → ∀ b, b < N → a ≠ b → (T a).2.1 ≠ (T b).2.1) (hf : f < N) (hT : T f = (C, nm, ds, false)) (hpd : parseFieldDescriptor ds = some ty) (hn : ∀ (x : Int64) (ad : Nat → Nat), narrow ty (tg_v ad (.long x)) = tg_v ad (.long x) ∧ fits ty (tg_v ad (.long x)) = true) (hl : Cond.fieldLink M.1.cls idx C nm ds ∈ tg_T) (hd : decode M.2.1 pc = .ok (.putfield idx, 3)) : tg_Snd M pc (ti_putfJ ci f) (pc + 3) := by
  intro l n0 K kc ks k hk lv st w h
  unfold ti_putfJ at h
  split at h
  · rename_i x a st
    split at h
    · rename_i cj fs hw
      split at h
      · rename_i v hv
        obtain ⟨rfl, h⟩ := h
        intro p e s m args below meth c D cA A ad H locs ls Qc C0 a1 a2 hK hA hE hQ hP hD hS hL
        refine va_put (D := D) (C := C) (T := T) (N := N) (ref := C) (ty := ty) (v := tg_v ad (.long x)) C0.1 C0.2.1 C0.2.2.2.2.2.1 hc.2 ty0 hty hnm C0.2.2.2.2.1 hK hP hD hS a (tg_w_at hw) hc.1 f hf ?_ ?_ ?_ ?_ ?_ ?_ ?_ hd (fun H1 locs1 hP1 hD1 hS1 => hk _ _ _ h p e s m args below meth c D cA A ad H1 locs1 ls Qc C0 a1 a2 hK hA hE hQ (?_) (?_) hS1 hL)
        · rw [hT]; exact C0.2.2.2.2.2.1 _ hl
        · rw [hT]; exact fun _ h => h
        · rw [hT]
        · rw [hT]; exact hpd
        · exact (hn x ad).1
        · exact (hn x ad).2
        · rw [List.length_map]; exact (List.getElem?_eq_some_iff.mp hv).1
        all_goals (rw [tg_w_set0]; simp only [tg_e, List.map_set]; assumption)
      · exact h.elim
    · exact h.elim
  · exact h.elim
theorem si_putfJF {M : tg_M} {pc ci f idx N : Nat} {C nm ds : String} {T : u_T} {ty0 : Nat → FieldType} {ty : FieldType} (hc : tg_cls ci C T N) (hty : ∀ k, k < N → parseFieldDescriptor (T k).2.2.1 = some (ty0 k)) (hnm : ∀ a, a < N → ∀ b, b < N → a ≠ b → (T a).2.1 ≠ (T b).2.1) (hf : f < N) (hT : T f = (C, nm, ds, true)) (hin : M.1.name = "<init>") (hdc : C = M.1.cls) (hpd : parseFieldDescriptor ds = some ty) (hn : ∀ (x : Int64) (ad : Nat → Nat), narrow ty (tg_v ad (.long x)) = tg_v ad (.long x) ∧ fits ty (tg_v ad (.long x)) = true) (hl : Cond.fieldLink M.1.cls idx C nm ds ∈ tg_T) (hd : decode M.2.1 pc = .ok (.putfield idx, 3)) : tg_Snd M pc (ti_putfJ ci f) (pc + 3) := by
  intro l n0 K kc ks k hk lv st w h
  unfold ti_putfJ at h
  split at h
  · rename_i x a st
    split at h
    · rename_i cj fs hw
      split at h
      · rename_i v hv
        obtain ⟨rfl, h⟩ := h
        intro p e s m args below meth c D cA A ad H locs ls Qc C0 a1 a2 hK hA hE hQ hP hD hS hL
        refine va_putF (D := D) (C := C) (T := T) (N := N) (ref := C) (ty := ty) (v := tg_v ad (.long x)) C0.1 C0.2.1 C0.2.2.2.2.2.1 hc.2 ty0 hty hnm C0.2.2.2.2.1 hK hP hD hS a (tg_w_at hw) hc.1 f hf ?_ ?_ ?_ (C0.2.2.2.2.2.2.2.trans hin) ?_ ?_ ?_ ?_ ?_ hd (fun H1 locs1 hP1 hD1 hS1 => hk _ _ _ h p e s m args below meth c D cA A ad H1 locs1 ls Qc C0 a1 a2 hK hA hE hQ (?_) (?_) hS1 hL)
        · rw [hT]; exact C0.2.2.2.2.2.1 _ hl
        · rw [hT]; exact fun _ h => h
        · rw [hT]
        · rw [hT]; exact hdc
        · rw [hT]; exact hpd
        · exact (hn x ad).1
        · exact (hn x ad).2
        · rw [List.length_map]; exact (List.getElem?_eq_some_iff.mp hv).1
        all_goals (rw [tg_w_set0]; simp only [tg_e, List.map_set]; assumption)
      · exact h.elim
    · exact h.elim
  · exact h.elim
def ti_putfR (ci f : Nat) : tg_K → tg_K := fun k lv st w => match st with
  | .ref x :: .ref a :: st => match w[a]? with
    | some (.inr (cj, fs)) => match fs[f]? with
      | some _ => cj = ci ∧ k lv st (w.set a (.inr (cj, fs.set f (.ref x))))
      | none => False
    | _ => False
  | _ => False
theorem si_putfR {M : tg_M} {pc ci f idx N : Nat} {C nm ds : String} {T : u_T} {ty0 : Nat → FieldType} {ty : FieldType} (hc : tg_cls ci C T N) (hty : ∀ k, k < N → parseFieldDescriptor (T k).2.2.1 = some (ty0 k)) (hnm : ∀ a, a < N → ∀ b, b < N → a ≠ b → (T a).2.1 ≠ (T b).2.1) (hf : f < N) (hT : T f = (C, nm, ds, false)) (hpd : parseFieldDescriptor ds = some ty) (hn : ∀ (x : Nat) (ad : Nat → Nat), narrow ty (tg_v ad (.ref x)) = tg_v ad (.ref x) ∧ fits ty (tg_v ad (.ref x)) = true) (hl : Cond.fieldLink M.1.cls idx C nm ds ∈ tg_T) (hd : decode M.2.1 pc = .ok (.putfield idx, 3)) : tg_Snd M pc (ti_putfR ci f) (pc + 3) := by
  intro l n0 K kc ks k hk lv st w h
  unfold ti_putfR at h
  split at h
  · rename_i x a st
    split at h
    · rename_i cj fs hw
      split at h
      · rename_i v hv
        obtain ⟨rfl, h⟩ := h
        intro p e s m args below meth c D cA A ad H locs ls Qc C0 a1 a2 hK hA hE hQ hP hD hS hL
        refine va_put (D := D) (C := C) (T := T) (N := N) (ref := C) (ty := ty) (v := tg_v ad (.ref x)) C0.1 C0.2.1 C0.2.2.2.2.2.1 hc.2 ty0 hty hnm C0.2.2.2.2.1 hK hP hD hS a (tg_w_at hw) hc.1 f hf ?_ ?_ ?_ ?_ ?_ ?_ ?_ hd (fun H1 locs1 hP1 hD1 hS1 => hk _ _ _ h p e s m args below meth c D cA A ad H1 locs1 ls Qc C0 a1 a2 hK hA hE hQ (?_) (?_) hS1 hL)
        · rw [hT]; exact C0.2.2.2.2.2.1 _ hl
        · rw [hT]; exact fun _ h => h
        · rw [hT]
        · rw [hT]; exact hpd
        · exact (hn x ad).1
        · exact (hn x ad).2
        · rw [List.length_map]; exact (List.getElem?_eq_some_iff.mp hv).1
        all_goals (rw [tg_w_set0]; simp only [tg_e, List.map_set]; assumption)
      · exact h.elim
    · exact h.elim
  · exact h.elim
theorem si_putfRF {M : tg_M} {pc ci f idx N : Nat} {C nm ds : String} {T : u_T} {ty0 : Nat → FieldType} {ty : FieldType} (hc : tg_cls ci C T N) (hty : ∀ k, k < N → parseFieldDescriptor (T k).2.2.1 = some (ty0 k)) (hnm : ∀ a, a < N → ∀ b, b < N → a ≠ b → (T a).2.1 ≠ (T b).2.1) (hf : f < N) (hT : T f = (C, nm, ds, true)) (hin : M.1.name = "<init>") (hdc : C = M.1.cls) (hpd : parseFieldDescriptor ds = some ty) (hn : ∀ (x : Nat) (ad : Nat → Nat), narrow ty (tg_v ad (.ref x)) = tg_v ad (.ref x) ∧ fits ty (tg_v ad (.ref x)) = true) (hl : Cond.fieldLink M.1.cls idx C nm ds ∈ tg_T) (hd : decode M.2.1 pc = .ok (.putfield idx, 3)) : tg_Snd M pc (ti_putfR ci f) (pc + 3) := by
  intro l n0 K kc ks k hk lv st w h
  unfold ti_putfR at h
  split at h
  · rename_i x a st
    split at h
    · rename_i cj fs hw
      split at h
      · rename_i v hv
        obtain ⟨rfl, h⟩ := h
        intro p e s m args below meth c D cA A ad H locs ls Qc C0 a1 a2 hK hA hE hQ hP hD hS hL
        refine va_putF (D := D) (C := C) (T := T) (N := N) (ref := C) (ty := ty) (v := tg_v ad (.ref x)) C0.1 C0.2.1 C0.2.2.2.2.2.1 hc.2 ty0 hty hnm C0.2.2.2.2.1 hK hP hD hS a (tg_w_at hw) hc.1 f hf ?_ ?_ ?_ (C0.2.2.2.2.2.2.2.trans hin) ?_ ?_ ?_ ?_ ?_ hd (fun H1 locs1 hP1 hD1 hS1 => hk _ _ _ h p e s m args below meth c D cA A ad H1 locs1 ls Qc C0 a1 a2 hK hA hE hQ (?_) (?_) hS1 hL)
        · rw [hT]; exact C0.2.2.2.2.2.1 _ hl
        · rw [hT]; exact fun _ h => h
        · rw [hT]
        · rw [hT]; exact hdc
        · rw [hT]; exact hpd
        · exact (hn x ad).1
        · exact (hn x ad).2
        · rw [List.length_map]; exact (List.getElem?_eq_some_iff.mp hv).1
        all_goals (rw [tg_w_set0]; simp only [tg_e, List.map_set]; assumption)
      · exact h.elim
    · exact h.elim
  · exact h.elim
def ti_putfZ (ci f : Nat) : tg_K → tg_K := fun k lv st w => match st with
  | .int x :: .ref a :: st => match w[a]? with
    | some (.inr (cj, fs)) => match fs[f]? with
      | some _ => cj = ci ∧ (x = 0 ∨ x = 1) ∧ k lv st (w.set a (.inr (cj, fs.set f (.int x))))
      | none => False
    | _ => False
  | _ => False
theorem si_putfZ {M : tg_M} {pc ci f idx N : Nat} {C nm ds : String} {T : u_T} {ty0 : Nat → FieldType} {ty : FieldType} (hc : tg_cls ci C T N) (hty : ∀ k, k < N → parseFieldDescriptor (T k).2.2.1 = some (ty0 k)) (hnm : ∀ a, a < N → ∀ b, b < N → a ≠ b → (T a).2.1 ≠ (T b).2.1) (hf : f < N) (hT : T f = (C, nm, ds, false)) (hpd : parseFieldDescriptor ds = some ty) (hn : ∀ (x : Int32) (ad : Nat → Nat), (x = 0 ∨ x = 1) → narrow ty (tg_v ad (.int x)) = tg_v ad (.int x) ∧ fits ty (tg_v ad (.int x)) = true) (hl : Cond.fieldLink M.1.cls idx C nm ds ∈ tg_T) (hd : decode M.2.1 pc = .ok (.putfield idx, 3)) : tg_Snd M pc (ti_putfZ ci f) (pc + 3) := by
  intro l n0 K kc ks k hk lv st w h
  unfold ti_putfZ at h
  split at h
  · rename_i x a st
    split at h
    · rename_i cj fs hw
      split at h
      · rename_i v hv
        obtain ⟨rfl, h⟩ := h
        intro p e s m args below meth c D cA A ad H locs ls Qc C0 a1 a2 hK hA hE hQ hP hD hS hL
        refine va_put (D := D) (C := C) (T := T) (N := N) (ref := C) (ty := ty) (v := tg_v ad (.int x)) C0.1 C0.2.1 C0.2.2.2.2.2.1 hc.2 ty0 hty hnm C0.2.2.2.2.1 hK hP hD hS a (tg_w_at hw) hc.1 f hf ?_ ?_ ?_ ?_ ?_ ?_ ?_ hd (fun H1 locs1 hP1 hD1 hS1 => hk _ _ _ h.2 p e s m args below meth c D cA A ad H1 locs1 ls Qc C0 a1 a2 hK hA hE hQ (?_) (?_) hS1 hL)
        · rw [hT]; exact C0.2.2.2.2.2.1 _ hl
        · rw [hT]; exact fun _ h => h
        · rw [hT]
        · rw [hT]; exact hpd
        · exact (hn x ad h.1).1
        · exact (hn x ad h.1).2
        · rw [List.length_map]; exact (List.getElem?_eq_some_iff.mp hv).1
        all_goals (rw [tg_w_set0]; simp only [tg_e, List.map_set]; assumption)
      · exact h.elim
    · exact h.elim
  · exact h.elim
theorem si_putfZF {M : tg_M} {pc ci f idx N : Nat} {C nm ds : String} {T : u_T} {ty0 : Nat → FieldType} {ty : FieldType} (hc : tg_cls ci C T N) (hty : ∀ k, k < N → parseFieldDescriptor (T k).2.2.1 = some (ty0 k)) (hnm : ∀ a, a < N → ∀ b, b < N → a ≠ b → (T a).2.1 ≠ (T b).2.1) (hf : f < N) (hT : T f = (C, nm, ds, true)) (hin : M.1.name = "<init>") (hdc : C = M.1.cls) (hpd : parseFieldDescriptor ds = some ty) (hn : ∀ (x : Int32) (ad : Nat → Nat), (x = 0 ∨ x = 1) → narrow ty (tg_v ad (.int x)) = tg_v ad (.int x) ∧ fits ty (tg_v ad (.int x)) = true) (hl : Cond.fieldLink M.1.cls idx C nm ds ∈ tg_T) (hd : decode M.2.1 pc = .ok (.putfield idx, 3)) : tg_Snd M pc (ti_putfZ ci f) (pc + 3) := by
  intro l n0 K kc ks k hk lv st w h
  unfold ti_putfZ at h
  split at h
  · rename_i x a st
    split at h
    · rename_i cj fs hw
      split at h
      · rename_i v hv
        obtain ⟨rfl, h⟩ := h
        intro p e s m args below meth c D cA A ad H locs ls Qc C0 a1 a2 hK hA hE hQ hP hD hS hL
        refine va_putF (D := D) (C := C) (T := T) (N := N) (ref := C) (ty := ty) (v := tg_v ad (.int x)) C0.1 C0.2.1 C0.2.2.2.2.2.1 hc.2 ty0 hty hnm C0.2.2.2.2.1 hK hP hD hS a (tg_w_at hw) hc.1 f hf ?_ ?_ ?_ (C0.2.2.2.2.2.2.2.trans hin) ?_ ?_ ?_ ?_ ?_ hd (fun H1 locs1 hP1 hD1 hS1 => hk _ _ _ h.2 p e s m args below meth c D cA A ad H1 locs1 ls Qc C0 a1 a2 hK hA hE hQ (?_) (?_) hS1 hL)
        · rw [hT]; exact C0.2.2.2.2.2.1 _ hl
        · rw [hT]; exact fun _ h => h
        · rw [hT]
        · rw [hT]; exact hdc
        · rw [hT]; exact hpd
        · exact (hn x ad h.1).1
        · exact (hn x ad h.1).2
        · rw [List.length_map]; exact (List.getElem?_eq_some_iff.mp hv).1
        all_goals (rw [tg_w_set0]; simp only [tg_e, List.map_set]; assumption)
      · exact h.elim
    · exact h.elim
  · exact h.elim
def ti_iald : tg_K → tg_K := fun k lv st w => match st with
  | .int i :: .ref a :: st => match w[a]? with
    | some (.inl (t, n, .inl f)) => t = 0 ∧ vp_in i n ∧ k lv (.int (f i.toNatClampNeg) :: st) w
    | _ => False
  | _ => False
theorem si_iald {M : tg_M} {pc : Nat} (hd : decode M.2.1 pc = .ok (.iaload, 1)) : tg_Snd M pc ti_iald (pc + 1) := by
  intro l n0 K kc ks k hk lv st w h
  unfold ti_iald at h
  split at h
  · rename_i i a st
    split at h
    · rename_i t n f hw
      obtain ⟨rfl, hin, h⟩ := h
      intro p e s m args below meth c D cA A ad H locs ls Qc C a1 a2 hK hA hE hQ hP hD hS hL
      exact va_iald C.1 C.2.1 hK hP a 0 (tg_w_at hw) rfl hin hd (hk _ _ _ h p e s m args below meth c D cA A ad H locs ls Qc C a1 a2 hK hA hE hQ hP hD hS hL)
    · exact h.elim
  · exact h.elim
def ti_zald : tg_K → tg_K := fun k lv st w => match st with
  | .int i :: .ref a :: st => match w[a]? with
    | some (.inl (t, n, .inl f)) => t = 1 ∧ vp_in i n ∧ k lv (.int (f i.toNatClampNeg) :: st) w
    | _ => False
  | _ => False
theorem si_zald {M : tg_M} {pc : Nat} (hd : decode M.2.1 pc = .ok (.baload, 1)) : tg_Snd M pc ti_zald (pc + 1) := by
  intro l n0 K kc ks k hk lv st w h
  unfold ti_zald at h
  split at h
  · rename_i i a st
    split at h
    · rename_i t n f hw
      obtain ⟨rfl, hin, h⟩ := h
      intro p e s m args below meth c D cA A ad H locs ls Qc C a1 a2 hK hA hE hQ hP hD hS hL
      exact va_zald C.1 C.2.1 hK hP a 1 (tg_w_at hw) rfl hin hd (hk _ _ _ h p e s m args below meth c D cA A ad H locs ls Qc C a1 a2 hK hA hE hQ hP hD hS hL)
    · exact h.elim
  · exact h.elim
def ti_cald : tg_K → tg_K := fun k lv st w => match st with
  | .int i :: .ref a :: st => match w[a]? with
    | some (.inl (t, n, .inl f)) => t = 2 ∧ vp_in i n ∧ k lv (.int (f i.toNatClampNeg) :: st) w
    | _ => False
  | _ => False
theorem si_cald {M : tg_M} {pc : Nat} (hd : decode M.2.1 pc = .ok (.caload, 1)) : tg_Snd M pc ti_cald (pc + 1) := by
  intro l n0 K kc ks k hk lv st w h
  unfold ti_cald at h
  split at h
  · rename_i i a st
    split at h
    · rename_i t n f hw
      obtain ⟨rfl, hin, h⟩ := h
      intro p e s m args below meth c D cA A ad H locs ls Qc C a1 a2 hK hA hE hQ hP hD hS hL
      exact va_cald C.1 C.2.1 hK hP a 2 (tg_w_at hw) rfl hin hd (hk _ _ _ h p e s m args below meth c D cA A ad H locs ls Qc C a1 a2 hK hA hE hQ hP hD hS hL)
    · exact h.elim
  · exact h.elim
def ti_lald : tg_K → tg_K := fun k lv st w => match st with
  | .int i :: .ref a :: st => match w[a]? with
    | some (.inl (t, n, .inr (.inl f))) => t = 3 ∧ vp_in i n ∧ k lv (.long (f i.toNatClampNeg) :: st) w
    | _ => False
  | _ => False
theorem si_lald {M : tg_M} {pc : Nat} (hd : decode M.2.1 pc = .ok (.laload, 1)) : tg_Snd M pc ti_lald (pc + 1) := by
  intro l n0 K kc ks k hk lv st w h
  unfold ti_lald at h
  split at h
  · rename_i i a st
    split at h
    · rename_i t n f hw
      obtain ⟨rfl, hin, h⟩ := h
      intro p e s m args below meth c D cA A ad H locs ls Qc C a1 a2 hK hA hE hQ hP hD hS hL
      exact va_lald C.1 C.2.1 hK hP a 3 (tg_w_at hw) rfl hin hd (hk _ _ _ h p e s m args below meth c D cA A ad H locs ls Qc C a1 a2 hK hA hE hQ hP hD hS hL)
    · exact h.elim
  · exact h.elim
def ti_iast : tg_K → tg_K := fun k lv st w => match st with
  | .int x :: .int i :: .ref a :: st => match w[a]? with
    | some (.inl (t, n, .inl f)) => t = 0 ∧ vp_in i n ∧ k lv st (w.set a (.inl (t, n, .inl (upd f i.toNatClampNeg x))))
    | _ => False
  | _ => False
theorem si_iast {M : tg_M} {pc : Nat} (hd : decode M.2.1 pc = .ok (.iastore, 1)) : tg_Snd M pc ti_iast (pc + 1) := by
  intro l n0 K kc ks k hk lv st w h
  unfold ti_iast at h
  split at h
  · rename_i x i a st
    split at h
    · rename_i t n f hw
      obtain ⟨rfl, hin, h⟩ := h
      intro p e s m args below meth c D cA A ad H locs ls Qc C a1 a2 hK hA hE hQ hP hD hS hL
      refine va_iast C.1 C.2.1 hK hP hD hS a 0 (tg_w_at hw) rfl hin hd (fun H1 locs1 hP1 hD1 hS1 => hk _ _ _ h p e s m args below meth c D cA A ad H1 locs1 ls Qc C a1 a2 hK hA hE hQ (?_) (?_) hS1 hL)
      all_goals (rw [tg_w_set0]; simp only [tg_e]; assumption)
    · exact h.elim
  · exact h.elim
def ti_zast : tg_K → tg_K := fun k lv st w => match st with
  | .int x :: .int i :: .ref a :: st => match w[a]? with
    | some (.inl (t, n, .inl f)) => t = 1 ∧ vp_in i n ∧ vp_nar .boolean x = x ∧ k lv st (w.set a (.inl (t, n, .inl (upd f i.toNatClampNeg x))))
    | _ => False
  | _ => False
theorem si_zast {M : tg_M} {pc : Nat} (hd : decode M.2.1 pc = .ok (.bastore, 1)) : tg_Snd M pc ti_zast (pc + 1) := by
  intro l n0 K kc ks k hk lv st w h
  unfold ti_zast at h
  split at h
  · rename_i x i a st
    split at h
    · rename_i t n f hw
      obtain ⟨rfl, hin, h⟩ := h
      intro p e s m args below meth c D cA A ad H locs ls Qc C a1 a2 hK hA hE hQ hP hD hS hL
      refine va_zast C.1 C.2.1 hK hP hD hS a 1 (tg_w_at hw) rfl hin hd (fun H1 locs1 hP1 hD1 hS1 => hk _ _ _ h.2 p e s m args below meth c D cA A ad H1 locs1 ls Qc C a1 a2 hK hA hE hQ (?_) (?_) hS1 hL)
      all_goals (rw [tg_w_set0]; simp only [tg_e]; rw [h.1] at hP1 hD1; assumption)
    · exact h.elim
  · exact h.elim
def ti_cast : tg_K → tg_K := fun k lv st w => match st with
  | .int x :: .int i :: .ref a :: st => match w[a]? with
    | some (.inl (t, n, .inl f)) => t = 2 ∧ vp_in i n ∧ vp_nar .char x = x ∧ k lv st (w.set a (.inl (t, n, .inl (upd f i.toNatClampNeg x))))
    | _ => False
  | _ => False
theorem si_cast {M : tg_M} {pc : Nat} (hd : decode M.2.1 pc = .ok (.castore, 1)) : tg_Snd M pc ti_cast (pc + 1) := by
  intro l n0 K kc ks k hk lv st w h
  unfold ti_cast at h
  split at h
  · rename_i x i a st
    split at h
    · rename_i t n f hw
      obtain ⟨rfl, hin, h⟩ := h
      intro p e s m args below meth c D cA A ad H locs ls Qc C a1 a2 hK hA hE hQ hP hD hS hL
      refine va_cast C.1 C.2.1 hK hP hD hS a 2 (tg_w_at hw) rfl hin hd (fun H1 locs1 hP1 hD1 hS1 => hk _ _ _ h.2 p e s m args below meth c D cA A ad H1 locs1 ls Qc C a1 a2 hK hA hE hQ (?_) (?_) hS1 hL)
      all_goals (rw [tg_w_set0]; simp only [tg_e]; rw [h.1] at hP1 hD1; assumption)
    · exact h.elim
  · exact h.elim
def ti_last : tg_K → tg_K := fun k lv st w => match st with
  | .long x :: .int i :: .ref a :: st => match w[a]? with
    | some (.inl (t, n, .inr (.inl f))) => t = 3 ∧ vp_in i n ∧ k lv st (w.set a (.inl (t, n, .inr (.inl (vp_updL f i.toNatClampNeg x)))))
    | _ => False
  | _ => False
theorem si_last {M : tg_M} {pc : Nat} (hd : decode M.2.1 pc = .ok (.lastore, 1)) : tg_Snd M pc ti_last (pc + 1) := by
  intro l n0 K kc ks k hk lv st w h
  unfold ti_last at h
  split at h
  · rename_i x i a st
    split at h
    · rename_i t n f hw
      obtain ⟨rfl, hin, h⟩ := h
      intro p e s m args below meth c D cA A ad H locs ls Qc C a1 a2 hK hA hE hQ hP hD hS hL
      refine va_last C.1 C.2.1 hK hP hD hS a 3 (tg_w_at hw) rfl hin hd (fun H1 locs1 hP1 hD1 hS1 => hk _ _ _ h p e s m args below meth c D cA A ad H1 locs1 ls Qc C a1 a2 hK hA hE hQ (?_) (?_) hS1 hL)
      all_goals (rw [tg_w_set0]; simp only [tg_e]; assumption)
    · exact h.elim
  · exact h.elim
def ti_alen : tg_K → tg_K := fun k lv st w => match st with
  | .ref a :: st => match w[a]? with
    | some (.inl (t, x)) => t < 6 ∧ k lv (.int (Int32.ofNat x.1) :: st) w
    | _ => False
  | _ => False
theorem tg_e_arr (cA : Nat → ClassId) (ad : Nat → Nat) (t : Nat) (x : vp_A) : ∃ y : vp_A, tg_e cA ad (.inl (t, x)) = .inl (cA t, y) ∧ y.1 = x.1 := by
  obtain ⟨n, a⟩ := x
  rcases a with a | a | a | a | a <;> exact ⟨_, rfl, rfl⟩
theorem tg_tys_at (cA : Nat → ClassId) {t : Nat} (h : t < 6) : ∃ ty, (tg_tys cA)[t]? = some (cA t, ty) := by
  rcases (show t = 0 ∨ t = 1 ∨ t = 2 ∨ t = 3 ∨ t = 4 ∨ t = 5 by omega) with rfl | rfl | rfl | rfl | rfl | rfl <;> exact ⟨_, rfl⟩
theorem si_alen {M : tg_M} {pc : Nat} (hd : decode M.2.1 pc = .ok (.arraylength, 1)) : tg_Snd M pc ti_alen (pc + 1) := by
  intro l n0 K kc ks k hk lv st w h
  unfold ti_alen at h
  split at h
  · rename_i a st
    split at h
    · rename_i t x hw
      obtain ⟨ht, h⟩ := h
      intro p e s m args below meth c D cA A ad H locs ls Qc C a1 a2 hK hA hE hQ hP hD hS hL
      obtain ⟨y, hy1, hy2⟩ := tg_e_arr cA ad t x
      obtain ⟨ty, hty⟩ := tg_tys_at cA ht
      have hw' := tg_w_at (cA := cA) (ad := ad) hw
      rw [hy1] at hw'
      exact va_alen C.1 C.2.1 hK hP a t hw' hty (by rw [hy2]) hd (hk _ _ _ h p e s m args below meth c D cA A ad H locs ls Qc C a1 a2 hK hA hE hQ hP hD hS hL)
    · exact h.elim
  · exact h.elim
end
section
/-! branches, switches, returns, and what else there is -/
theorem g_if_eq {l : tg_Ln} {M : tg_M} {n0 : Nat} {K : Option Value → List va_E → Prop} {kc ks pc : Nat} {lv st : List Value} {w : List va_E} {x : Int32} {off : Int} {tgt : Nat} (hd : decode M.2.1 pc = .ok (.ifCond .eq off, 3)) (ht : (pc : Int) + off = (tgt : Int)) (kt : x = 0 → tg_G l M n0 K kc ks tgt lv st w) (kf : ¬ x = 0 → tg_G l M n0 K kc ks (pc + 3) lv st w) : tg_G l M n0 K kc ks pc lv (.int x :: st) w := by
  intro p e s m args below meth c D cA A ad H locs ls Qc C a1 a2 hK hA hE hQ hP hD hS hL
  exact lv_if_eq C.1 C.2.1 hd ht (fun h => kt h p e s m args below meth c D cA A ad H locs ls Qc C a1 a2 hK hA hE hQ hP hD hS hL) (fun h => kf h p e s m args below meth c D cA A ad H locs ls Qc C a1 a2 hK hA hE hQ hP hD hS hL)
theorem g_icmp_eq {l : tg_Ln} {M : tg_M} {n0 : Nat} {K : Option Value → List va_E → Prop} {kc ks pc : Nat} {lv st : List Value} {w : List va_E} {x y : Int32} {off : Int} {tgt : Nat} (hd : decode M.2.1 pc = .ok (.if_icmp .eq off, 3)) (ht : (pc : Int) + off = (tgt : Int)) (kt : x = y → tg_G l M n0 K kc ks tgt lv st w) (kf : ¬ x = y → tg_G l M n0 K kc ks (pc + 3) lv st w) : tg_G l M n0 K kc ks pc lv (.int y :: .int x :: st) w := by
  intro p e s m args below meth c D cA A ad H locs ls Qc C a1 a2 hK hA hE hQ hP hD hS hL
  exact lv_icmp_eq C.1 C.2.1 hd ht (fun h => kt h p e s m args below meth c D cA A ad H locs ls Qc C a1 a2 hK hA hE hQ hP hD hS hL) (fun h => kf h p e s m args below meth c D cA A ad H locs ls Qc C a1 a2 hK hA hE hQ hP hD hS hL)
theorem g_if_ne {l : tg_Ln} {M : tg_M} {n0 : Nat} {K : Option Value → List va_E → Prop} {kc ks pc : Nat} {lv st : List Value} {w : List va_E} {x : Int32} {off : Int} {tgt : Nat} (hd : decode M.2.1 pc = .ok (.ifCond .ne off, 3)) (ht : (pc : Int) + off = (tgt : Int)) (kt : ¬ x = 0 → tg_G l M n0 K kc ks tgt lv st w) (kf : x = 0 → tg_G l M n0 K kc ks (pc + 3) lv st w) : tg_G l M n0 K kc ks pc lv (.int x :: st) w := by
  intro p e s m args below meth c D cA A ad H locs ls Qc C a1 a2 hK hA hE hQ hP hD hS hL
  exact lv_if_ne C.1 C.2.1 hd ht (fun h => kt h p e s m args below meth c D cA A ad H locs ls Qc C a1 a2 hK hA hE hQ hP hD hS hL) (fun h => kf h p e s m args below meth c D cA A ad H locs ls Qc C a1 a2 hK hA hE hQ hP hD hS hL)
theorem g_icmp_ne {l : tg_Ln} {M : tg_M} {n0 : Nat} {K : Option Value → List va_E → Prop} {kc ks pc : Nat} {lv st : List Value} {w : List va_E} {x y : Int32} {off : Int} {tgt : Nat} (hd : decode M.2.1 pc = .ok (.if_icmp .ne off, 3)) (ht : (pc : Int) + off = (tgt : Int)) (kt : ¬ x = y → tg_G l M n0 K kc ks tgt lv st w) (kf : x = y → tg_G l M n0 K kc ks (pc + 3) lv st w) : tg_G l M n0 K kc ks pc lv (.int y :: .int x :: st) w := by
  intro p e s m args below meth c D cA A ad H locs ls Qc C a1 a2 hK hA hE hQ hP hD hS hL
  exact lv_icmp_ne C.1 C.2.1 hd ht (fun h => kt h p e s m args below meth c D cA A ad H locs ls Qc C a1 a2 hK hA hE hQ hP hD hS hL) (fun h => kf h p e s m args below meth c D cA A ad H locs ls Qc C a1 a2 hK hA hE hQ hP hD hS hL)
theorem g_if_lt {l : tg_Ln} {M : tg_M} {n0 : Nat} {K : Option Value → List va_E → Prop} {kc ks pc : Nat} {lv st : List Value} {w : List va_E} {x : Int32} {off : Int} {tgt : Nat} (hd : decode M.2.1 pc = .ok (.ifCond .lt off, 3)) (ht : (pc : Int) + off = (tgt : Int)) (kt : x < 0 → tg_G l M n0 K kc ks tgt lv st w) (kf : ¬ x < 0 → tg_G l M n0 K kc ks (pc + 3) lv st w) : tg_G l M n0 K kc ks pc lv (.int x :: st) w := by
  intro p e s m args below meth c D cA A ad H locs ls Qc C a1 a2 hK hA hE hQ hP hD hS hL
  exact lv_if_lt C.1 C.2.1 hd ht (fun h => kt h p e s m args below meth c D cA A ad H locs ls Qc C a1 a2 hK hA hE hQ hP hD hS hL) (fun h => kf h p e s m args below meth c D cA A ad H locs ls Qc C a1 a2 hK hA hE hQ hP hD hS hL)
theorem g_icmp_lt {l : tg_Ln} {M : tg_M} {n0 : Nat} {K : Option Value → List va_E → Prop} {kc ks pc : Nat} {lv st : List Value} {w : List va_E} {x y : Int32} {off : Int} {tgt : Nat} (hd : decode M.2.1 pc = .ok (.if_icmp .lt off, 3)) (ht : (pc : Int) + off = (tgt : Int)) (kt : x < y → tg_G l M n0 K kc ks tgt lv st w) (kf : ¬ x < y → tg_G l M n0 K kc ks (pc + 3) lv st w) : tg_G l M n0 K kc ks pc lv (.int y :: .int x :: st) w := by
  intro p e s m args below meth c D cA A ad H locs ls Qc C a1 a2 hK hA hE hQ hP hD hS hL
  exact lv_icmp_lt C.1 C.2.1 hd ht (fun h => kt h p e s m args below meth c D cA A ad H locs ls Qc C a1 a2 hK hA hE hQ hP hD hS hL) (fun h => kf h p e s m args below meth c D cA A ad H locs ls Qc C a1 a2 hK hA hE hQ hP hD hS hL)
theorem g_if_ge {l : tg_Ln} {M : tg_M} {n0 : Nat} {K : Option Value → List va_E → Prop} {kc ks pc : Nat} {lv st : List Value} {w : List va_E} {x : Int32} {off : Int} {tgt : Nat} (hd : decode M.2.1 pc = .ok (.ifCond .ge off, 3)) (ht : (pc : Int) + off = (tgt : Int)) (kt : 0 ≤ x → tg_G l M n0 K kc ks tgt lv st w) (kf : ¬ 0 ≤ x → tg_G l M n0 K kc ks (pc + 3) lv st w) : tg_G l M n0 K kc ks pc lv (.int x :: st) w := by
  intro p e s m args below meth c D cA A ad H locs ls Qc C a1 a2 hK hA hE hQ hP hD hS hL
  exact lv_if_ge C.1 C.2.1 hd ht (fun h => kt h p e s m args below meth c D cA A ad H locs ls Qc C a1 a2 hK hA hE hQ hP hD hS hL) (fun h => kf h p e s m args below meth c D cA A ad H locs ls Qc C a1 a2 hK hA hE hQ hP hD hS hL)
theorem g_icmp_ge {l : tg_Ln} {M : tg_M} {n0 : Nat} {K : Option Value → List va_E → Prop} {kc ks pc : Nat} {lv st : List Value} {w : List va_E} {x y : Int32} {off : Int} {tgt : Nat} (hd : decode M.2.1 pc = .ok (.if_icmp .ge off, 3)) (ht : (pc : Int) + off = (tgt : Int)) (kt : y ≤ x → tg_G l M n0 K kc ks tgt lv st w) (kf : ¬ y ≤ x → tg_G l M n0 K kc ks (pc + 3) lv st w) : tg_G l M n0 K kc ks pc lv (.int y :: .int x :: st) w := by
  intro p e s m args below meth c D cA A ad H locs ls Qc C a1 a2 hK hA hE hQ hP hD hS hL
  exact lv_icmp_ge C.1 C.2.1 hd ht (fun h => kt h p e s m args below meth c D cA A ad H locs ls Qc C a1 a2 hK hA hE hQ hP hD hS hL) (fun h => kf h p e s m args below meth c D cA A ad H locs ls Qc C a1 a2 hK hA hE hQ hP hD hS hL)
theorem g_if_gt {l : tg_Ln} {M : tg_M} {n0 : Nat} {K : Option Value → List va_E → Prop} {kc ks pc : Nat} {lv st : List Value} {w : List va_E} {x : Int32} {off : Int} {tgt : Nat} (hd : decode M.2.1 pc = .ok (.ifCond .gt off, 3)) (ht : (pc : Int) + off = (tgt : Int)) (kt : 0 < x → tg_G l M n0 K kc ks tgt lv st w) (kf : ¬ 0 < x → tg_G l M n0 K kc ks (pc + 3) lv st w) : tg_G l M n0 K kc ks pc lv (.int x :: st) w := by
  intro p e s m args below meth c D cA A ad H locs ls Qc C a1 a2 hK hA hE hQ hP hD hS hL
  exact lv_if_gt C.1 C.2.1 hd ht (fun h => kt h p e s m args below meth c D cA A ad H locs ls Qc C a1 a2 hK hA hE hQ hP hD hS hL) (fun h => kf h p e s m args below meth c D cA A ad H locs ls Qc C a1 a2 hK hA hE hQ hP hD hS hL)
theorem g_icmp_gt {l : tg_Ln} {M : tg_M} {n0 : Nat} {K : Option Value → List va_E → Prop} {kc ks pc : Nat} {lv st : List Value} {w : List va_E} {x y : Int32} {off : Int} {tgt : Nat} (hd : decode M.2.1 pc = .ok (.if_icmp .gt off, 3)) (ht : (pc : Int) + off = (tgt : Int)) (kt : y < x → tg_G l M n0 K kc ks tgt lv st w) (kf : ¬ y < x → tg_G l M n0 K kc ks (pc + 3) lv st w) : tg_G l M n0 K kc ks pc lv (.int y :: .int x :: st) w := by
  intro p e s m args below meth c D cA A ad H locs ls Qc C a1 a2 hK hA hE hQ hP hD hS hL
  exact lv_icmp_gt C.1 C.2.1 hd ht (fun h => kt h p e s m args below meth c D cA A ad H locs ls Qc C a1 a2 hK hA hE hQ hP hD hS hL) (fun h => kf h p e s m args below meth c D cA A ad H locs ls Qc C a1 a2 hK hA hE hQ hP hD hS hL)
theorem g_if_le {l : tg_Ln} {M : tg_M} {n0 : Nat} {K : Option Value → List va_E → Prop} {kc ks pc : Nat} {lv st : List Value} {w : List va_E} {x : Int32} {off : Int} {tgt : Nat} (hd : decode M.2.1 pc = .ok (.ifCond .le off, 3)) (ht : (pc : Int) + off = (tgt : Int)) (kt : x ≤ 0 → tg_G l M n0 K kc ks tgt lv st w) (kf : ¬ x ≤ 0 → tg_G l M n0 K kc ks (pc + 3) lv st w) : tg_G l M n0 K kc ks pc lv (.int x :: st) w := by
  intro p e s m args below meth c D cA A ad H locs ls Qc C a1 a2 hK hA hE hQ hP hD hS hL
  exact lv_if_le C.1 C.2.1 hd ht (fun h => kt h p e s m args below meth c D cA A ad H locs ls Qc C a1 a2 hK hA hE hQ hP hD hS hL) (fun h => kf h p e s m args below meth c D cA A ad H locs ls Qc C a1 a2 hK hA hE hQ hP hD hS hL)
theorem g_icmp_le {l : tg_Ln} {M : tg_M} {n0 : Nat} {K : Option Value → List va_E → Prop} {kc ks pc : Nat} {lv st : List Value} {w : List va_E} {x y : Int32} {off : Int} {tgt : Nat} (hd : decode M.2.1 pc = .ok (.if_icmp .le off, 3)) (ht : (pc : Int) + off = (tgt : Int)) (kt : x ≤ y → tg_G l M n0 K kc ks tgt lv st w) (kf : ¬ x ≤ y → tg_G l M n0 K kc ks (pc + 3) lv st w) : tg_G l M n0 K kc ks pc lv (.int y :: .int x :: st) w := by
  intro p e s m args below meth c D cA A ad H locs ls Qc C a1 a2 hK hA hE hQ hP hD hS hL
  exact lv_icmp_le C.1 C.2.1 hd ht (fun h => kt h p e s m args below meth c D cA A ad H locs ls Qc C a1 a2 hK hA hE hQ hP hD hS hL) (fun h => kf h p e s m args below meth c D cA A ad H locs ls Qc C a1 a2 hK hA hE hQ hP hD hS hL)
theorem g_goto {l : tg_Ln} {M : tg_M} {n0 : Nat} {K : Option Value → List va_E → Prop} {kc ks pc : Nat} {lv st : List Value} {w : List va_E} {off : Int} {tgt : Nat} (hd : decode M.2.1 pc = .ok (.goto off, 3)) (ht : (pc : Int) + off = (tgt : Int)) (k : tg_G l M n0 K kc ks tgt lv st w) : tg_G l M n0 K kc ks pc lv st w := by
  intro p e s m args below meth c D cA A ad H locs ls Qc C a1 a2 hK hA hE hQ hP hD hS hL
  exact lv_goto C.1 C.2.1 hd ht (k p e s m args below meth c D cA A ad H locs ls Qc C a1 a2 hK hA hE hQ hP hD hS hL)
theorem g_tblOut {l : tg_Ln} {M : tg_M} {n0 : Nat} {K : Option Value → List va_E → Prop} {kc ks pc : Nat} {lv st : List Value} {w : List va_E} {dflt lo hi : Int} {offs : Array Int} {len : Nat} {x : Int32} {tgt : Nat} (hd : decode M.2.1 pc = .ok (.tableswitch dflt lo hi offs, len)) (h : x.toInt < lo ∨ hi < x.toInt) (ht : (pc : Int) + dflt = (tgt : Int)) (k : tg_G l M n0 K kc ks tgt lv st w) : tg_G l M n0 K kc ks pc lv (.int x :: st) w := by
  intro p e s m args below meth c D cA A ad H locs ls Qc C a1 a2 hK hA hE hQ hP hD hS hL
  exact lv_tableOut C.1 C.2.1 hd h ht (k p e s m args below meth c D cA A ad H locs ls Qc C a1 a2 hK hA hE hQ hP hD hS hL)
theorem g_tblIn {l : tg_Ln} {M : tg_M} {n0 : Nat} {K : Option Value → List va_E → Prop} {kc ks pc : Nat} {lv st : List Value} {w : List va_E} {dflt lo hi : Int} {offs : Array Int} {len : Nat} {x : Int32} {off : Int} {tgt : Nat} (hd : decode M.2.1 pc = .ok (.tableswitch dflt lo hi offs, len)) (h1 : ¬ x.toInt < lo) (h2 : ¬ hi < x.toInt) (ho : offs[(x.toInt - lo).toNat]? = some off) (ht : (pc : Int) + off = (tgt : Int)) (k : tg_G l M n0 K kc ks tgt lv st w) : tg_G l M n0 K kc ks pc lv (.int x :: st) w := by
  intro p e s m args below meth c D cA A ad H locs ls Qc C a1 a2 hK hA hE hQ hP hD hS hL
  exact lv_tableIn C.1 C.2.1 hd h1 h2 ho ht (k p e s m args below meth c D cA A ad H locs ls Qc C a1 a2 hK hA hE hQ hP hD hS hL)
theorem g_lookup {l : tg_Ln} {M : tg_M} {n0 : Nat} {K : Option Value → List va_E → Prop} {kc ks pc : Nat} {lv st : List Value} {w : List va_E} {dflt : Int} {ps : Array (Int × Int)} {len : Nat} {x : Int32} {off : Int} {tgt : Nat} (hd : decode M.2.1 pc = .ok (.lookupswitch dflt ps, len)) (hp : (ps.toList.zip (ps.toList.drop 1)).all (fun (a, next) => a.1 < next.1) = true) (ho : Op.lookupswitch.offset ps.toList dflt x.toInt = off) (ht : (pc : Int) + off = (tgt : Int)) (k : tg_G l M n0 K kc ks tgt lv st w) : tg_G l M n0 K kc ks pc lv (.int x :: st) w := by
  intro p e s m args below meth c D cA A ad H locs ls Qc C a1 a2 hK hA hE hQ hP hD hS hL
  exact lv_lookup C.1 C.2.1 hd hp ho ht (k p e s m args below meth c D cA A ad H locs ls Qc C a1 a2 hK hA hE hQ hP hD hS hL)
theorem g_iret {l : tg_Ln} {M : tg_M} {n0 : Nat} {K : Option Value → List va_E → Prop} {kc ks pc : Nat} {lv : List Value} {w : List va_E} {x : Int32} (hd : decode M.2.1 pc = .ok (.ireturn, 1)) (hr : M.2.2.2.1 = some .int) (hk : K (some (.int x)) w) : tg_G l M n0 K kc ks pc lv [.int x] w := by
  intro p e s m args below meth c D cA A ad H locs ls Qc C a1 a2 hK hA hE hQ hP hD hS hL
  exact W.widen a1 a2 (W.iret (v := x) C.1 C.2.1 (C.2.2.1.trans hr) (fun t ht hW => hQ (some (.int x)) w ad t hk (fun _ _ => rfl) (by rw [ht]; exact hP) hD hW (hS.F ht)) hS.2.2 hd C.2.2.2.2.2.2.1)
theorem g_zret {l : tg_Ln} {M : tg_M} {n0 : Nat} {K : Option Value → List va_E → Prop} {kc ks pc : Nat} {lv : List Value} {w : List va_E} {x : Int32} (hd : decode M.2.1 pc = .ok (.ireturn, 1)) (hr : M.2.2.2.1 = some .boolean) (hn : x = 0 ∨ x = 1) (hk : K (some (.int x)) w) : tg_G l M n0 K kc ks pc lv [.int x] w := by
  intro p e s m args below meth c D cA A ad H locs ls Qc C a1 a2 hK hA hE hQ hP hD hS hL
  exact W.widen a1 a2 (W.zret (v := x) (ty := .boolean) C.1 C.2.1 (C.2.2.1.trans hr) (by rcases hn with rfl | rfl <;> rfl) (fun t ht hW => hQ (some (.int x)) w ad t hk (fun _ _ => rfl) (by rw [ht]; exact hP) hD hW (hS.F ht)) hS.2.2 hd C.2.2.2.2.2.2.1)
theorem g_nret {l : tg_Ln} {M : tg_M} {n0 : Nat} {K : Option Value → List va_E → Prop} {kc ks pc : Nat} {lv : List Value} {w : List va_E} {x : Int32} {ty : FieldType} (hd : decode M.2.1 pc = .ok (.ireturn, 1)) (hr : M.2.2.2.1 = some ty) (hn : narrow ty (.int x) = .int x) (hk : K (some (.int x)) w) : tg_G l M n0 K kc ks pc lv [.int x] w := by
  intro p e s m args below meth c D cA A ad H locs ls Qc C a1 a2 hK hA hE hQ hP hD hS hL
  exact W.widen a1 a2 (W.zret (v := x) (ty := ty) C.1 C.2.1 (C.2.2.1.trans hr) hn (fun t ht hW => hQ (some (.int x)) w ad t hk (fun _ _ => rfl) (by rw [ht]; exact hP) hD hW (hS.F ht)) hS.2.2 hd C.2.2.2.2.2.2.1)
theorem g_lret {l : tg_Ln} {M : tg_M} {n0 : Nat} {K : Option Value → List va_E → Prop} {kc ks pc : Nat} {lv : List Value} {w : List va_E} {x : Int64} (hd : decode M.2.1 pc = .ok (.lreturn, 1)) (hr : M.2.2.2.1 = some .long) (hk : K (some (.long x)) w) : tg_G l M n0 K kc ks pc lv [.long x] w := by
  intro p e s m args below meth c D cA A ad H locs ls Qc C a1 a2 hK hA hE hQ hP hD hS hL
  exact W.widen a1 a2 (W.lret (v := x) C.1 C.2.1 (C.2.2.1.trans hr) (fun t ht hW => hQ (some (.long x)) w ad t hk (fun _ _ => rfl) (by rw [ht]; exact hP) hD hW (hS.F ht)) hS.2.2 hd C.2.2.2.2.2.2.1)
theorem g_aret {l : tg_Ln} {M : tg_M} {n0 : Nat} {K : Option Value → List va_E → Prop} {kc ks pc : Nat} {lv : List Value} {w : List va_E} {x : Nat} {rt : FieldType} (hd : decode M.2.1 pc = .ok (.areturn, 1)) (hr : M.2.2.2.1 = some rt) (hrt : (∃ n, rt = .object n) ∨ ∃ t, rt = .array t) (hk : K (some (.ref x)) w) : tg_G l M n0 K kc ks pc lv [.ref x] w := by
  intro p e s m args below meth c D cA A ad H locs ls Qc C a1 a2 hK hA hE hQ hP hD hS hL
  exact W.widen a1 a2 (W.aret (v := .ref (ad x)) C.1 C.2.1 (C.2.2.1.trans hr) hrt (Or.inr ⟨_, rfl⟩) (fun t ht hW => hQ (some (.ref x)) w ad t hk (fun _ _ => rfl) (by rw [ht]; exact hP) hD hW (hS.F ht)) hS.2.2 hd C.2.2.2.2.2.2.1)
theorem g_vret {l : tg_Ln} {M : tg_M} {n0 : Nat} {K : Option Value → List va_E → Prop} {kc ks pc : Nat} {lv : List Value} {w : List va_E} (hd : decode M.2.1 pc = .ok (.return_, 1)) (hr : M.2.2.2.1 = none) (hk : K none w) : tg_G l M n0 K kc ks pc lv [] w := by
  intro p e s m args below meth c D cA A ad H locs ls Qc C a1 a2 hK hA hE hQ hP hD hS hL
  exact W.widen a1 a2 (W.vret C.1 C.2.1 (C.2.2.1.trans hr) (fun t ht hW => hQ none w ad t hk (fun _ _ => rfl) (by rw [ht]; exact hP) hD hW (hS.F ht)) hS.2.2 hd C.2.2.2.2.2.2.1)
def ti_mmax : tg_K → tg_K := fun k lv st w => match st with
  | .int y :: .int x :: st => (st.map fun v => v.category).sum ≤ 8 ∧ k lv (.int (if x < y then y else x) :: st) w
  | _ => False
theorem si_mmax {M : tg_M} {pc idx : Nat} (hd : decode M.2.1 pc = .ok (.invokestatic idx, 3)) (h1 : Cond.methodLink M.1.cls idx Lib.Math.max.name ∈ tg_T) (h2 : Cond.static Lib.Math.max.name ∈ tg_T) (h3 : Cond.initialized "java/lang/Math" ∈ tg_T) (h4 : Cond.code Lib.Math.max.name Lib.Math.max.code 2 (some .int) ∈ tg_T) (hf : 1 ≤ M.2.2.2.2.frames) (hl : 21 ≤ M.2.2.2.2.locals) : tg_Snd M pc ti_mmax (pc + 3) := by
  intro l n0 K kc ks k hk lv st w h
  unfold ti_mmax at h
  split at h
  · rename_i y x st
    intro p e s m args below meth c D cA A ad H locs ls Qc C a1 a2 hK hA hE hQ hP hD hS hL
    have ht := C.2.2.2.2.2.1
    exact va_mmax C.1 C.2.1 (C.2.2.2.1.trans hL.1.symm) C.2.2.2.2.1 (ht _ h1) (ht _ h2) (ht _ h3) (ht _ h4) hf (by have := h.1; simp only [List.map_map, Function.comp_def, tg_v_cat]; omega) a1 a2 hd (hk _ _ _ h.2 p e s m args below meth c D cA A ad H locs ls Qc C a1 a2 hK hA hE hQ hP hD hS hL)
  · exact h.elim
def ti_mmin : tg_K → tg_K := fun k lv st w => match st with
  | .int y :: .int x :: st => (st.map fun v => v.category).sum ≤ 8 ∧ k lv (.int (if y < x then y else x) :: st) w
  | _ => False
theorem si_mmin {M : tg_M} {pc idx : Nat} (hd : decode M.2.1 pc = .ok (.invokestatic idx, 3)) (h1 : Cond.methodLink M.1.cls idx Lib.Math.min.name ∈ tg_T) (h2 : Cond.static Lib.Math.min.name ∈ tg_T) (h3 : Cond.initialized "java/lang/Math" ∈ tg_T) (h4 : Cond.code Lib.Math.min.name Lib.Math.min.code 2 (some .int) ∈ tg_T) (hf : 1 ≤ M.2.2.2.2.frames) (hl : 21 ≤ M.2.2.2.2.locals) : tg_Snd M pc ti_mmin (pc + 3) := by
  intro l n0 K kc ks k hk lv st w h
  unfold ti_mmin at h
  split at h
  · rename_i y x st
    intro p e s m args below meth c D cA A ad H locs ls Qc C a1 a2 hK hA hE hQ hP hD hS hL
    have ht := C.2.2.2.2.2.1
    exact va_mmin C.1 C.2.1 (C.2.2.2.1.trans hL.1.symm) C.2.2.2.2.1 (ht _ h1) (ht _ h2) (ht _ h3) (ht _ h4) hf (by have := h.1; simp only [List.map_map, Function.comp_def, tg_v_cat]; omega) a1 a2 hd (hk _ _ _ h.2 p e s m args below meth c D cA A ad H locs ls Qc C a1 a2 hK hA hE hQ hP hD hS hL)
  · exact h.elim
def ti_acopy : tg_K → tg_K := fun k lv st w => match st with
  | .int n :: .int dp :: .ref b :: .int sp :: .ref a :: st => match w[a]?, w[b]? with
    | some (.inl (t, n0, .inl f)), some (.inl (u, n1, .inl g)) => (t = 0 ∧ u = 0 ∧ (st.map fun v => v.category).sum ≤ 8) ∧ (¬ sp < 0 ∧ ¬ dp < 0 ∧ ¬ n < 0 ∧ sp.toNatClampNeg + n.toNatClampNeg ≤ n0 ∧ dp.toNatClampNeg + n.toNatClampNeg ≤ n1) ∧ k lv st (w.set b (.inl (u, n1, .inl (va_cpy f g sp.toNatClampNeg dp.toNatClampNeg n.toNatClampNeg))))
    | _, _ => False
  | _ => False
theorem si_acopy {M : tg_M} {pc idx : Nat} (hd : decode M.2.1 pc = .ok (.invokestatic idx, 3)) (h1 : Cond.methodLink M.1.cls idx arraycopyName ∈ tg_T) (h2 : Cond.native arraycopyName ∈ tg_T) (h3 : Cond.static arraycopyName ∈ tg_T) (h4 : Cond.initialized "java/lang/System" ∈ tg_T) (hf : 1 ≤ M.2.2.2.2.frames) (hl : 8 + (nativeFrameWords "java/lang/System" "arraycopy" 5 + 11) ≤ M.2.2.2.2.locals) : tg_Snd M pc ti_acopy (pc + 3) := by
  intro l n0 K kc ks k hk lv st w h
  unfold ti_acopy at h
  split at h
  · rename_i n dp b sp a st
    split at h
    · rename_i t n0' f u n1 g hwa hwb
      obtain ⟨⟨rfl, rfl, hst⟩, ⟨g1, g2, g3, g4, g5⟩, h⟩ := h
      intro p e s m args below meth c D cA A ad H locs ls Qc C a1 a2 hK hA hE hQ hP hD hS hL
      have ht := C.2.2.2.2.2.1
      refine va_copyi (ty := .int) C.1 C.2.1 (C.2.2.2.1.trans hL.1.symm) C.2.2.2.2.1 (ht _ h1) (ht _ h2) (ht _ h3) (ht _ h4) hK hP hD hS a b 0 0 (tg_w_at hwa) (tg_w_at hwb) rfl rfl rfl g1 g2 g3 g4 g5 (fun _ _ => rfl) hf (by simp only [List.map_map, Function.comp_def, tg_v_cat]; omega) hd (fun H1 locs1 hP1 hD1 hS1 => hk _ _ _ h p e s m args below meth c D cA A ad H1 locs1 ls Qc C a1 a2 hK hA hE hQ (?_) (?_) hS1 hL)
      all_goals (rw [tg_w_set0]; simp only [tg_e]; assumption)
    · exact h.elim
  · exact h.elim
/-- the orders' arrays: getstatic, a place, the length -/
def ti_ord (i : Nat) : tg_K → tg_K := fun k lv st w => k lv (.ref (1000 + i) :: st) w
theorem si_ord {M : tg_M} {pc idx i : Nat} (hi : i < 4) (hd : decode M.2.1 pc = .ok (.getstatic idx, 3)) (hl : Cond.fieldLink M.1.cls idx RX4 (tg_on i) "[I" ∈ tg_T) : tg_Snd M pc (ti_ord i) (pc + 3) := by
  intro l n0 K kc ks k hk lv st w h
  unfold ti_ord at h
  intro p e s m args below meth c D cA A ad H locs ls Qc C a1 a2 hK hA hE hQ hP hD hS hL
  exact va_gets C.1 C.2.1 (hE.2.1 i hi).1 hS C.2.2.2.2.1 (C.2.2.2.2.2.1 _ hl) (fun _ h => h) hd (hk _ _ _ h p e s m args below meth c D cA A ad H locs ls Qc C a1 a2 hK hA hE hQ hP hD hS hL)
def ti_oald : tg_K → tg_K := fun k lv st w => match st with
  | .int i :: .ref a :: st => (1000 ≤ a ∧ a < 1004) ∧ vp_in i (tg_ol (a - 1000)).length ∧ k lv (.int ((tg_ol (a - 1000)).getD i.toNatClampNeg 0) :: st) w
  | _ => False
theorem si_oald {M : tg_M} {pc : Nat} (hd : decode M.2.1 pc = .ok (.iaload, 1)) : tg_Snd M pc ti_oald (pc + 1) := by
  intro l n0 K kc ks k hk lv st w h
  unfold ti_oald at h
  split at h
  · rename_i i a st
    obtain ⟨ha, hin, h⟩ := h
    intro p e s m args below meth c D cA A ad H locs ls Qc C a1 a2 hK hA hE hQ hP hD hS hL
    have ha1 : Nat.le 1000 a := ha.1
    have ha2 : Nat.lt a 1004 := ha.2
    have hz := (hE.2.1 (a - 1000) (Nat.sub_lt_left_of_lt_add ha1 ha2)).2
    rw [show 1000 + (a - 1000) = a from Nat.add_sub_of_le ha1] at hz
    exact va_ti C.1 C.2.1 hz hS hin rfl hd (hk _ _ _ h p e s m args below meth c D cA A ad H locs ls Qc C a1 a2 hK hA hE hQ hP hD hS hL)
  · exact h.elim
def ti_olen : tg_K → tg_K := fun k lv st w => match st with
  | .ref a :: st => (1000 ≤ a ∧ a < 1004) ∧ k lv (.int (Int32.ofNat (tg_ol (a - 1000)).length) :: st) w
  | _ => False
theorem si_olen {M : tg_M} {pc : Nat} (hd : decode M.2.1 pc = .ok (.arraylength, 1)) : tg_Snd M pc ti_olen (pc + 1) := by
  intro l n0 K kc ks k hk lv st w h
  unfold ti_olen at h
  split at h
  · rename_i a st
    obtain ⟨ha, h⟩ := h
    intro p e s m args below meth c D cA A ad H locs ls Qc C a1 a2 hK hA hE hQ hP hD hS hL
    have ha1 : Nat.le 1000 a := ha.1
    have ha2 : Nat.lt a 1004 := ha.2
    have hz := (hE.2.1 (a - 1000) (Nat.sub_lt_left_of_lt_add ha1 ha2)).2
    rw [show 1000 + (a - 1000) = a from Nat.add_sub_of_le ha1] at hz
    exact va_tlen C.1 C.2.1 hz hS rfl hd (hk _ _ _ h p e s m args below meth c D cA A ad H locs ls Qc C a1 a2 hK hA hE hQ hP hD hS hL)
  · exact h.elim
/-- the script: a place, the length -/
theorem g_xald {l : tg_Ln} {M : tg_M} {n0 : Nat} {K : Option Value → List va_E → Prop} {kc ks pc : Nat} {lv st : List Value} {w : List va_E} {i : Int32} (hd : decode M.2.1 pc = .ok (.iaload, 1)) (hin : vp_in i l.2.1) (k : tg_G l M n0 K kc ks (pc + 1) lv (.int (l.2.2 i.toNatClampNeg) :: st) w) : tg_G l M n0 K kc ks pc lv (.int i :: .ref 1040 :: st) w := by
  intro p e s m args below meth c D cA A ad H locs ls Qc C a1 a2 hK hA hE hQ hP hD hS hL
  exact va_sld C.1 C.2.1 hE.1.1 hE.1.2.1 hE.1.2.2 hS hin hd (k p e s m args below meth c D cA A ad H locs ls Qc C a1 a2 hK hA hE hQ hP hD hS hL)
theorem g_xlen {l : tg_Ln} {M : tg_M} {n0 : Nat} {K : Option Value → List va_E → Prop} {kc ks pc : Nat} {lv st : List Value} {w : List va_E} (hd : decode M.2.1 pc = .ok (.arraylength, 1)) (k : tg_G l M n0 K kc ks (pc + 1) lv (.int (Int32.ofNat l.2.1) :: st) w) : tg_G l M n0 K kc ks pc lv (.ref 1040 :: st) w := by
  intro p e s m args below meth c D cA A ad H locs ls Qc C a1 a2 hK hA hE hQ hP hD hS hL
  exact va_slen C.1 C.2.1 hE.1.1 hE.1.2.1 hE.1.2.2 hS hd (k p e s m args below meth c D cA A ad H locs ls Qc C a1 a2 hK hA hE hQ hP hD hS hL)
def ti_aald : tg_K → tg_K := fun k lv st w => match st with
  | .int i :: .ref a :: st => match w[a]? with
    | some (.inl (t, n, .inr (.inr (.inr (.inr f))))) => (t = 4 ∨ t = 5) ∧ vp_in i n ∧ (match f i.toNatClampNeg with
      | some q => k lv (.ref q :: st) w
      | none => False)
    | _ => False
  | _ => False
theorem si_aald {M : tg_M} {pc : Nat} (hd : decode M.2.1 pc = .ok (.aaload, 1)) : tg_Snd M pc ti_aald (pc + 1) := by
  intro l n0 K kc ks k hk lv st w h
  unfold ti_aald at h
  split at h
  · rename_i i a st
    split at h
    · rename_i t n f hw
      obtain ⟨ht, hin, h⟩ := h
      split at h
      · rename_i q hq
        intro p e s m args below meth c D cA A ad H locs ls Qc C a1 a2 hK hA hE hQ hP hD hS hL
        have hlt : i.toNatClampNeg < n := Nat.not_le.mp fun q => hin (Or.inr q)
        obtain ⟨ty, hty, hrk⟩ : ∃ ty, (tg_tys cA)[t]? = some (cA t, ty) ∧ ((∃ C, ty = .object C) ∨ ∃ u, ty = .array u) := by
          rcases ht with rfl | rfl
          · exact ⟨_, rfl, Or.inl ⟨_, rfl⟩⟩
          · exact ⟨_, rfl, Or.inr ⟨_, rfl⟩⟩
        have hw' : (tg_w cA ad 0 w)[a]? = some (ad a, .inl (cA t, n, .inr (.inr (.inr (.inr (fun j => (f j).map ad)))))) := tg_w_at hw
        refine W.aald (v := va_rf ((f i.toNatClampNeg).map ad)) (ty := ty) C.1 C.2.1 (hP a _ hw') ((hK.2 t _ hty).1 n (fun j => va_rf ((f j).map ad))) (by rcases hrk with ⟨_, rfl⟩ | ⟨_, rfl⟩ <;> rfl) (fun q => by cases q) (by show ¬ (i < 0 ∨ (arrV _ _ _).slots.size ≤ _); rw [arrV_size]; exact hin) (by show (arrV _ _ _).slots[_]? = _; rw [arrV_read _ _ hlt]) rfl rfl hd ?_
        rw [hq]
        exact hk _ _ _ h p e s m args below meth c D cA A ad H locs ls Qc C a1 a2 hK hA hE hQ hP hD hS hL
      · exact h.elim
    · exact h.elim
  · exact h.elim
def ti_str (i : Nat) : tg_K → tg_K := fun k lv st w => k lv (.ref (1010 + i) :: st) w
theorem si_str {M : tg_M} {pc idx i : Nat} (hi : i < 4) (hM : M.1.cls = RX1) (hx : idx = tg_sk i) (hd : decode M.2.1 pc = .ok (.ldc idx, 2)) : tg_Snd M pc (ti_str i) (pc + 2) := by
  intro l n0 K kc ks k hk lv st w h
  unfold ti_str at h
  intro p e s m args below meth c D cA A ad H locs ls Qc C a1 a2 hK hA hE hQ hP hD hS hL
  subst hx
  exact va_ldcS (own := RX1) C.1 C.2.1 (by rw [← hM]; exact C.2.2.2.2.1) (hE.2.2.1.2 i hi) hd (hk _ _ _ h p e s m args below meth c D cA A ad H locs ls Qc C a1 a2 hK hA hE hQ hP hD hS hL)
end
