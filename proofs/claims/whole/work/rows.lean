section
-- ===== PART A: goes FIRST, ahead of the names: the tables' words, and 'selects' of the private methods out of them =====
/-- a private method of a class that the tables say can be made, by its rows of tables_1 -/
def lw_okq (q : MethodName × Nat) : Prop := (q.1.cls ≠ "java/lang/invoke/MethodHandle" ∧ q.1.cls ≠ "java/lang/invoke/VarHandle") ∧ Cond.instantiable q.1.cls q.2 ∈ tables_1 ∧ Cond.privateMethod q.1 ∈ tables_1 ∧ Cond.instanceMethod q.1 ∈ tables_1
theorem lw_p0 : lw_okq (⟨"CubeClosures$Clauses", "doClause", "()Z"⟩, 4) := ⟨⟨by decide +kernel, by decide +kernel⟩, List.mem_of_getElem? (i := 28) (by decide +kernel), List.mem_of_getElem? (i := 296) (by decide +kernel), List.mem_of_getElem? (i := 297) (by decide +kernel)⟩
theorem lw_p1 : lw_okq (⟨"CubeClosures$Clauses", "doTable", "()Z"⟩, 4) := ⟨⟨by decide +kernel, by decide +kernel⟩, List.mem_of_getElem? (i := 28) (by decide +kernel), List.mem_of_getElem? (i := 353) (by decide +kernel), List.mem_of_getElem? (i := 354) (by decide +kernel)⟩
theorem lw_p2 : lw_okq (⟨"CubeClosures$Clauses", "doSupport", "()Z"⟩, 4) := ⟨⟨by decide +kernel, by decide +kernel⟩, List.mem_of_getElem? (i := 28) (by decide +kernel), List.mem_of_getElem? (i := 370) (by decide +kernel), List.mem_of_getElem? (i := 371) (by decide +kernel)⟩
theorem lw_p3 : lw_okq (⟨"CubeClosures$Clauses", "doRow", "()Z"⟩, 4) := ⟨⟨by decide +kernel, by decide +kernel⟩, List.mem_of_getElem? (i := 28) (by decide +kernel), List.mem_of_getElem? (i := 375) (by decide +kernel), List.mem_of_getElem? (i := 376) (by decide +kernel)⟩
theorem lw_p4 : lw_okq (⟨"CubeClosures$Table", "hasFigures", "(II)Z"⟩, 6) := ⟨⟨by decide +kernel, by decide +kernel⟩, List.mem_of_getElem? (i := 56) (by decide +kernel), List.mem_of_getElem? (i := 399) (by decide +kernel), List.mem_of_getElem? (i := 400) (by decide +kernel)⟩
theorem lw_p5 : lw_okq (⟨"CubeClosures", "freshCells", "()LCubeClosures$Cells;"⟩, 10) := ⟨⟨by decide +kernel, by decide +kernel⟩, List.mem_of_getElem? (i := 20) (by decide +kernel), List.mem_of_getElem? (i := 458) (by decide +kernel), List.mem_of_getElem? (i := 459) (by decide +kernel)⟩
theorem lw_p6 : lw_okq (⟨"CubeClosures$Cells", "findHaving", "()V"⟩, 12) := ⟨⟨by decide +kernel, by decide +kernel⟩, List.mem_of_getElem? (i := 113) (by decide +kernel), List.mem_of_getElem? (i := 466) (by decide +kernel), List.mem_of_getElem? (i := 467) (by decide +kernel)⟩
theorem lw_p7 : lw_okq (⟨"CubeClosures$Cells", "spreadBy", "(I)V"⟩, 12) := ⟨⟨by decide +kernel, by decide +kernel⟩, List.mem_of_getElem? (i := 113) (by decide +kernel), List.mem_of_getElem? (i := 470) (by decide +kernel), List.mem_of_getElem? (i := 471) (by decide +kernel)⟩
theorem lw_p8 : lw_okq (⟨"CubeClosures$Cells", "havingFigure", "(II)J"⟩, 12) := ⟨⟨by decide +kernel, by decide +kernel⟩, List.mem_of_getElem? (i := 113) (by decide +kernel), List.mem_of_getElem? (i := 474) (by decide +kernel), List.mem_of_getElem? (i := 475) (by decide +kernel)⟩
theorem lw_p9 : lw_okq (⟨"CubeClosures$Cells", "tally", "()V"⟩, 12) := ⟨⟨by decide +kernel, by decide +kernel⟩, List.mem_of_getElem? (i := 113) (by decide +kernel), List.mem_of_getElem? (i := 478) (by decide +kernel), List.mem_of_getElem? (i := 479) (by decide +kernel)⟩
theorem lw_p10 : lw_okq (⟨"CubeClosures$Cells", "sharedWith", "(IJ)I"⟩, 12) := ⟨⟨by decide +kernel, by decide +kernel⟩, List.mem_of_getElem? (i := 113) (by decide +kernel), List.mem_of_getElem? (i := 494) (by decide +kernel), List.mem_of_getElem? (i := 495) (by decide +kernel)⟩
theorem lw_p11 : lw_okq (⟨"CubeClosures$Cells", "dimensionsOf", "(I)I"⟩, 12) := ⟨⟨by decide +kernel, by decide +kernel⟩, List.mem_of_getElem? (i := 113) (by decide +kernel), List.mem_of_getElem? (i := 499) (by decide +kernel), List.mem_of_getElem? (i := 500) (by decide +kernel)⟩
theorem lw_p12 : lw_okq (⟨"CubeClosures$Cells", "within", "(II)I"⟩, 12) := ⟨⟨by decide +kernel, by decide +kernel⟩, List.mem_of_getElem? (i := 113) (by decide +kernel), List.mem_of_getElem? (i := 596) (by decide +kernel), List.mem_of_getElem? (i := 597) (by decide +kernel)⟩
theorem lw_p13 : lw_okq (⟨"CubeClosures$Cells", "isInCube", "(IJ)Z"⟩, 12) := ⟨⟨by decide +kernel, by decide +kernel⟩, List.mem_of_getElem? (i := 113) (by decide +kernel), List.mem_of_getElem? (i := 601) (by decide +kernel), List.mem_of_getElem? (i := 602) (by decide +kernel)⟩
theorem lw_p14 : lw_okq (⟨"CubeClosuresModel", "reads", "(Z)Z"⟩, 30) := ⟨⟨by decide +kernel, by decide +kernel⟩, List.mem_of_getElem? (i := 732) (by decide +kernel), List.mem_of_getElem? (i := 845) (by decide +kernel), List.mem_of_getElem? (i := 846) (by decide +kernel)⟩
theorem lw_p15 : lw_okq (⟨"CubeClosuresModel", "nextToken", "()V"⟩, 30) := ⟨⟨by decide +kernel, by decide +kernel⟩, List.mem_of_getElem? (i := 732) (by decide +kernel), List.mem_of_getElem? (i := 849) (by decide +kernel), List.mem_of_getElem? (i := 850) (by decide +kernel)⟩
def lw_privs_1 : List (MethodName × Nat) := [(⟨"CubeClosures$Clauses", "doClause", "()Z"⟩, 4), (⟨"CubeClosures$Clauses", "doTable", "()Z"⟩, 4), (⟨"CubeClosures$Clauses", "doSupport", "()Z"⟩, 4), (⟨"CubeClosures$Clauses", "doRow", "()Z"⟩, 4), (⟨"CubeClosures$Table", "hasFigures", "(II)Z"⟩, 6), (⟨"CubeClosures", "freshCells", "()LCubeClosures$Cells;"⟩, 10), (⟨"CubeClosures$Cells", "findHaving", "()V"⟩, 12), (⟨"CubeClosures$Cells", "spreadBy", "(I)V"⟩, 12), (⟨"CubeClosures$Cells", "havingFigure", "(II)J"⟩, 12), (⟨"CubeClosures$Cells", "tally", "()V"⟩, 12), (⟨"CubeClosures$Cells", "sharedWith", "(IJ)I"⟩, 12), (⟨"CubeClosures$Cells", "dimensionsOf", "(I)I"⟩, 12), (⟨"CubeClosures$Cells", "within", "(II)I"⟩, 12), (⟨"CubeClosures$Cells", "isInCube", "(IJ)Z"⟩, 12), (⟨"CubeClosuresModel", "reads", "(Z)Z"⟩, 30), (⟨"CubeClosuresModel", "nextToken", "()V"⟩, 30)]
theorem lw_r1 : ∀ q ∈ lw_privs_1, lw_okq q := List.forall_mem_cons.mpr ⟨lw_p0, List.forall_mem_cons.mpr ⟨lw_p1, List.forall_mem_cons.mpr ⟨lw_p2, List.forall_mem_cons.mpr ⟨lw_p3, List.forall_mem_cons.mpr ⟨lw_p4, List.forall_mem_cons.mpr ⟨lw_p5, List.forall_mem_cons.mpr ⟨lw_p6, List.forall_mem_cons.mpr ⟨lw_p7, List.forall_mem_cons.mpr ⟨lw_p8, List.forall_mem_cons.mpr ⟨lw_p9, List.forall_mem_cons.mpr ⟨lw_p10, List.forall_mem_cons.mpr ⟨lw_p11, List.forall_mem_cons.mpr ⟨lw_p12, List.forall_mem_cons.mpr ⟨lw_p13, List.forall_mem_cons.mpr ⟨lw_p14, List.forall_mem_cons.mpr ⟨lw_p15, fun _ h => absurd h List.not_mem_nil⟩⟩⟩⟩⟩⟩⟩⟩⟩⟩⟩⟩⟩⟩⟩⟩
theorem lw_p16 : lw_okq (⟨"CubeClosuresModel", "readsClause", "()Z"⟩, 30) := ⟨⟨by decide +kernel, by decide +kernel⟩, List.mem_of_getElem? (i := 732) (by decide +kernel), List.mem_of_getElem? (i := 863) (by decide +kernel), List.mem_of_getElem? (i := 864) (by decide +kernel)⟩
theorem lw_p17 : lw_okq (⟨"CubeClosuresModel", "wordHere", "()I"⟩, 30) := ⟨⟨by decide +kernel, by decide +kernel⟩, List.mem_of_getElem? (i := 732) (by decide +kernel), List.mem_of_getElem? (i := 867) (by decide +kernel), List.mem_of_getElem? (i := 868) (by decide +kernel)⟩
theorem lw_p18 : lw_okq (⟨"CubeClosuresModel", "isWord", "([I)Z"⟩, 30) := ⟨⟨by decide +kernel, by decide +kernel⟩, List.mem_of_getElem? (i := 732) (by decide +kernel), List.mem_of_getElem? (i := 871) (by decide +kernel), List.mem_of_getElem? (i := 872) (by decide +kernel)⟩
theorem lw_p19 : lw_okq (⟨"CubeClosuresModel", "readsTable", "()Z"⟩, 30) := ⟨⟨by decide +kernel, by decide +kernel⟩, List.mem_of_getElem? (i := 732) (by decide +kernel), List.mem_of_getElem? (i := 875) (by decide +kernel), List.mem_of_getElem? (i := 876) (by decide +kernel)⟩
theorem lw_p20 : lw_okq (⟨"CubeClosuresModel", "isEnd", "()Z"⟩, 30) := ⟨⟨by decide +kernel, by decide +kernel⟩, List.mem_of_getElem? (i := 732) (by decide +kernel), List.mem_of_getElem? (i := 879) (by decide +kernel), List.mem_of_getElem? (i := 880) (by decide +kernel)⟩
theorem lw_p21 : lw_okq (⟨"CubeClosuresModel", "readsNumber", "(II)Z"⟩, 30) := ⟨⟨by decide +kernel, by decide +kernel⟩, List.mem_of_getElem? (i := 732) (by decide +kernel), List.mem_of_getElem? (i := 883) (by decide +kernel), List.mem_of_getElem? (i := 884) (by decide +kernel)⟩
theorem lw_p22 : lw_okq (⟨"CubeClosuresModel", "readsSupport", "()Z"⟩, 30) := ⟨⟨by decide +kernel, by decide +kernel⟩, List.mem_of_getElem? (i := 732) (by decide +kernel), List.mem_of_getElem? (i := 887) (by decide +kernel), List.mem_of_getElem? (i := 888) (by decide +kernel)⟩
theorem lw_p23 : lw_okq (⟨"CubeClosuresModel", "readsRow", "()Z"⟩, 30) := ⟨⟨by decide +kernel, by decide +kernel⟩, List.mem_of_getElem? (i := 732) (by decide +kernel), List.mem_of_getElem? (i := 891) (by decide +kernel), List.mem_of_getElem? (i := 892) (by decide +kernel)⟩
theorem lw_p24 : lw_okq (⟨"CubeClosuresModel", "put", "(III)V"⟩, 30) := ⟨⟨by decide +kernel, by decide +kernel⟩, List.mem_of_getElem? (i := 732) (by decide +kernel), List.mem_of_getElem? (i := 895) (by decide +kernel), List.mem_of_getElem? (i := 896) (by decide +kernel)⟩
theorem lw_p25 : lw_okq (⟨"CubeClosuresModel", "isWhole", "(I)Z"⟩, 30) := ⟨⟨by decide +kernel, by decide +kernel⟩, List.mem_of_getElem? (i := 732) (by decide +kernel), List.mem_of_getElem? (i := 907) (by decide +kernel), List.mem_of_getElem? (i := 908) (by decide +kernel)⟩
theorem lw_p26 : lw_okq (⟨"CubeClosuresModel", "isCell", "(I)Z"⟩, 30) := ⟨⟨by decide +kernel, by decide +kernel⟩, List.mem_of_getElem? (i := 732) (by decide +kernel), List.mem_of_getElem? (i := 911) (by decide +kernel), List.mem_of_getElem? (i := 912) (by decide +kernel)⟩
theorem lw_p27 : lw_okq (⟨"CubeClosuresModel", "codes", "()I"⟩, 30) := ⟨⟨by decide +kernel, by decide +kernel⟩, List.mem_of_getElem? (i := 732) (by decide +kernel), List.mem_of_getElem? (i := 915) (by decide +kernel), List.mem_of_getElem? (i := 916) (by decide +kernel)⟩
theorem lw_p28 : lw_okq (⟨"CubeClosuresModel", "figure", "(II)I"⟩, 30) := ⟨⟨by decide +kernel, by decide +kernel⟩, List.mem_of_getElem? (i := 732) (by decide +kernel), List.mem_of_getElem? (i := 919) (by decide +kernel), List.mem_of_getElem? (i := 920) (by decide +kernel)⟩
theorem lw_p29 : lw_okq (⟨"CubeClosuresModel", "keepPast", "()V"⟩, 30) := ⟨⟨by decide +kernel, by decide +kernel⟩, List.mem_of_getElem? (i := 732) (by decide +kernel), List.mem_of_getElem? (i := 925) (by decide +kernel), List.mem_of_getElem? (i := 926) (by decide +kernel)⟩
theorem lw_p30 : lw_okq (⟨"CubeClosuresModel", "copyRow", "(II)V"⟩, 30) := ⟨⟨by decide +kernel, by decide +kernel⟩, List.mem_of_getElem? (i := 732) (by decide +kernel), List.mem_of_getElem? (i := 929) (by decide +kernel), List.mem_of_getElem? (i := 930) (by decide +kernel)⟩
theorem lw_p31 : lw_okq (⟨"CubeClosuresModel", "isEntry", "(I)Z"⟩, 30) := ⟨⟨by decide +kernel, by decide +kernel⟩, List.mem_of_getElem? (i := 732) (by decide +kernel), List.mem_of_getElem? (i := 937) (by decide +kernel), List.mem_of_getElem? (i := 938) (by decide +kernel)⟩
def lw_privs_2 : List (MethodName × Nat) := [(⟨"CubeClosuresModel", "readsClause", "()Z"⟩, 30), (⟨"CubeClosuresModel", "wordHere", "()I"⟩, 30), (⟨"CubeClosuresModel", "isWord", "([I)Z"⟩, 30), (⟨"CubeClosuresModel", "readsTable", "()Z"⟩, 30), (⟨"CubeClosuresModel", "isEnd", "()Z"⟩, 30), (⟨"CubeClosuresModel", "readsNumber", "(II)Z"⟩, 30), (⟨"CubeClosuresModel", "readsSupport", "()Z"⟩, 30), (⟨"CubeClosuresModel", "readsRow", "()Z"⟩, 30), (⟨"CubeClosuresModel", "put", "(III)V"⟩, 30), (⟨"CubeClosuresModel", "isWhole", "(I)Z"⟩, 30), (⟨"CubeClosuresModel", "isCell", "(I)Z"⟩, 30), (⟨"CubeClosuresModel", "codes", "()I"⟩, 30), (⟨"CubeClosuresModel", "figure", "(II)I"⟩, 30), (⟨"CubeClosuresModel", "keepPast", "()V"⟩, 30), (⟨"CubeClosuresModel", "copyRow", "(II)V"⟩, 30), (⟨"CubeClosuresModel", "isEntry", "(I)Z"⟩, 30)]
theorem lw_r2 : ∀ q ∈ lw_privs_2, lw_okq q := List.forall_mem_cons.mpr ⟨lw_p16, List.forall_mem_cons.mpr ⟨lw_p17, List.forall_mem_cons.mpr ⟨lw_p18, List.forall_mem_cons.mpr ⟨lw_p19, List.forall_mem_cons.mpr ⟨lw_p20, List.forall_mem_cons.mpr ⟨lw_p21, List.forall_mem_cons.mpr ⟨lw_p22, List.forall_mem_cons.mpr ⟨lw_p23, List.forall_mem_cons.mpr ⟨lw_p24, List.forall_mem_cons.mpr ⟨lw_p25, List.forall_mem_cons.mpr ⟨lw_p26, List.forall_mem_cons.mpr ⟨lw_p27, List.forall_mem_cons.mpr ⟨lw_p28, List.forall_mem_cons.mpr ⟨lw_p29, List.forall_mem_cons.mpr ⟨lw_p30, List.forall_mem_cons.mpr ⟨lw_p31, fun _ h => absurd h List.not_mem_nil⟩⟩⟩⟩⟩⟩⟩⟩⟩⟩⟩⟩⟩⟩⟩⟩
theorem lw_p32 : lw_okq (⟨"CubeClosuresModel", "takeOut", "(II)V"⟩, 30) := ⟨⟨by decide +kernel, by decide +kernel⟩, List.mem_of_getElem? (i := 732) (by decide +kernel), List.mem_of_getElem? (i := 941) (by decide +kernel), List.mem_of_getElem? (i := 942) (by decide +kernel)⟩
theorem lw_p33 : lw_okq (⟨"CubeClosuresModel", "gather", "(II)V"⟩, 30) := ⟨⟨by decide +kernel, by decide +kernel⟩, List.mem_of_getElem? (i := 732) (by decide +kernel), List.mem_of_getElem? (i := 971) (by decide +kernel), List.mem_of_getElem? (i := 972) (by decide +kernel)⟩
theorem lw_p34 : lw_okq (⟨"CubeClosuresModel", "covers", "(II)Z"⟩, 30) := ⟨⟨by decide +kernel, by decide +kernel⟩, List.mem_of_getElem? (i := 732) (by decide +kernel), List.mem_of_getElem? (i := 977) (by decide +kernel), List.mem_of_getElem? (i := 978) (by decide +kernel)⟩
theorem lw_p35 : lw_okq (⟨"CubeClosuresModel", "common", "(II)I"⟩, 30) := ⟨⟨by decide +kernel, by decide +kernel⟩, List.mem_of_getElem? (i := 732) (by decide +kernel), List.mem_of_getElem? (i := 981) (by decide +kernel), List.mem_of_getElem? (i := 982) (by decide +kernel)⟩
theorem lw_p36 : lw_okq (⟨"CubeClosuresModel", "isIn", "(II)Z"⟩, 30) := ⟨⟨by decide +kernel, by decide +kernel⟩, List.mem_of_getElem? (i := 732) (by decide +kernel), List.mem_of_getElem? (i := 993) (by decide +kernel), List.mem_of_getElem? (i := 994) (by decide +kernel)⟩
theorem lw_p37 : lw_okq (⟨"CubeClosuresModel", "isOrder", "(I)Z"⟩, 30) := ⟨⟨by decide +kernel, by decide +kernel⟩, List.mem_of_getElem? (i := 732) (by decide +kernel), List.mem_of_getElem? (i := 1005) (by decide +kernel), List.mem_of_getElem? (i := 1006) (by decide +kernel)⟩
theorem lw_p38 : lw_okq (⟨"CubeClosuresModel", "placeIn", "(II)I"⟩, 30) := ⟨⟨by decide +kernel, by decide +kernel⟩, List.mem_of_getElem? (i := 732) (by decide +kernel), List.mem_of_getElem? (i := 1009) (by decide +kernel), List.mem_of_getElem? (i := 1010) (by decide +kernel)⟩
theorem lw_p39 : lw_okq (⟨"CubeClosuresModel", "layCounts", "()V"⟩, 30) := ⟨⟨by decide +kernel, by decide +kernel⟩, List.mem_of_getElem? (i := 732) (by decide +kernel), List.mem_of_getElem? (i := 1013) (by decide +kernel), List.mem_of_getElem? (i := 1014) (by decide +kernel)⟩
theorem lw_p40 : lw_okq (⟨"CubeClosuresModel", "workBy", "(I)I"⟩, 30) := ⟨⟨by decide +kernel, by decide +kernel⟩, List.mem_of_getElem? (i := 732) (by decide +kernel), List.mem_of_getElem? (i := 1017) (by decide +kernel), List.mem_of_getElem? (i := 1018) (by decide +kernel)⟩
theorem lw_p41 : lw_okq (⟨"CubeClosuresModel", "cubeOf", "(I)I"⟩, 30) := ⟨⟨by decide +kernel, by decide +kernel⟩, List.mem_of_getElem? (i := 732) (by decide +kernel), List.mem_of_getElem? (i := 1029) (by decide +kernel), List.mem_of_getElem? (i := 1030) (by decide +kernel)⟩
theorem lw_p42 : lw_okq (⟨"CubeClosuresModel", "only", "(II)I"⟩, 30) := ⟨⟨by decide +kernel, by decide +kernel⟩, List.mem_of_getElem? (i := 732) (by decide +kernel), List.mem_of_getElem? (i := 1033) (by decide +kernel), List.mem_of_getElem? (i := 1034) (by decide +kernel)⟩
theorem lw_p43 : lw_okq (⟨"CubeClosuresModel", "isKey", "(I)Z"⟩, 30) := ⟨⟨by decide +kernel, by decide +kernel⟩, List.mem_of_getElem? (i := 732) (by decide +kernel), List.mem_of_getElem? (i := 1050) (by decide +kernel), List.mem_of_getElem? (i := 1051) (by decide +kernel)⟩
theorem lw_p44 : lw_okq (⟨"CubeClosuresModel", "areAlike", "(III)Z"⟩, 30) := ⟨⟨by decide +kernel, by decide +kernel⟩, List.mem_of_getElem? (i := 732) (by decide +kernel), List.mem_of_getElem? (i := 1054) (by decide +kernel), List.mem_of_getElem? (i := 1055) (by decide +kernel)⟩
theorem lw_p45 : lw_okq (⟨"CubeClosuresModel", "noPlace", "(II)I"⟩, 30) := ⟨⟨by decide +kernel, by decide +kernel⟩, List.mem_of_getElem? (i := 732) (by decide +kernel), List.mem_of_getElem? (i := 1080) (by decide +kernel), List.mem_of_getElem? (i := 1081) (by decide +kernel)⟩
theorem lw_p46 : lw_okq (⟨"CubeClosuresModel", "times", "(JJ)J"⟩, 30) := ⟨⟨by decide +kernel, by decide +kernel⟩, List.mem_of_getElem? (i := 732) (by decide +kernel), List.mem_of_getElem? (i := 1088) (by decide +kernel), List.mem_of_getElem? (i := 1089) (by decide +kernel)⟩
theorem lw_p47 : lw_okq (⟨"CubeClosuresModel", "plus", "(JJ)J"⟩, 30) := ⟨⟨by decide +kernel, by decide +kernel⟩, List.mem_of_getElem? (i := 732) (by decide +kernel), List.mem_of_getElem? (i := 1092) (by decide +kernel), List.mem_of_getElem? (i := 1093) (by decide +kernel)⟩
def lw_privs_3 : List (MethodName × Nat) := [(⟨"CubeClosuresModel", "takeOut", "(II)V"⟩, 30), (⟨"CubeClosuresModel", "gather", "(II)V"⟩, 30), (⟨"CubeClosuresModel", "covers", "(II)Z"⟩, 30), (⟨"CubeClosuresModel", "common", "(II)I"⟩, 30), (⟨"CubeClosuresModel", "isIn", "(II)Z"⟩, 30), (⟨"CubeClosuresModel", "isOrder", "(I)Z"⟩, 30), (⟨"CubeClosuresModel", "placeIn", "(II)I"⟩, 30), (⟨"CubeClosuresModel", "layCounts", "()V"⟩, 30), (⟨"CubeClosuresModel", "workBy", "(I)I"⟩, 30), (⟨"CubeClosuresModel", "cubeOf", "(I)I"⟩, 30), (⟨"CubeClosuresModel", "only", "(II)I"⟩, 30), (⟨"CubeClosuresModel", "isKey", "(I)Z"⟩, 30), (⟨"CubeClosuresModel", "areAlike", "(III)Z"⟩, 30), (⟨"CubeClosuresModel", "noPlace", "(II)I"⟩, 30), (⟨"CubeClosuresModel", "times", "(JJ)J"⟩, 30), (⟨"CubeClosuresModel", "plus", "(JJ)J"⟩, 30)]
theorem lw_r3 : ∀ q ∈ lw_privs_3, lw_okq q := List.forall_mem_cons.mpr ⟨lw_p32, List.forall_mem_cons.mpr ⟨lw_p33, List.forall_mem_cons.mpr ⟨lw_p34, List.forall_mem_cons.mpr ⟨lw_p35, List.forall_mem_cons.mpr ⟨lw_p36, List.forall_mem_cons.mpr ⟨lw_p37, List.forall_mem_cons.mpr ⟨lw_p38, List.forall_mem_cons.mpr ⟨lw_p39, List.forall_mem_cons.mpr ⟨lw_p40, List.forall_mem_cons.mpr ⟨lw_p41, List.forall_mem_cons.mpr ⟨lw_p42, List.forall_mem_cons.mpr ⟨lw_p43, List.forall_mem_cons.mpr ⟨lw_p44, List.forall_mem_cons.mpr ⟨lw_p45, List.forall_mem_cons.mpr ⟨lw_p46, List.forall_mem_cons.mpr ⟨lw_p47, fun _ h => absurd h List.not_mem_nil⟩⟩⟩⟩⟩⟩⟩⟩⟩⟩⟩⟩⟩⟩⟩⟩
theorem lw_p48 : lw_okq (⟨"CubeClosuresModel", "supported", "()I"⟩, 30) := ⟨⟨by decide +kernel, by decide +kernel⟩, List.mem_of_getElem? (i := 732) (by decide +kernel), List.mem_of_getElem? (i := 1120) (by decide +kernel), List.mem_of_getElem? (i := 1121) (by decide +kernel)⟩
theorem lw_p49 : lw_okq (⟨"CubeClosuresModel", "valuesTold", "()I"⟩, 30) := ⟨⟨by decide +kernel, by decide +kernel⟩, List.mem_of_getElem? (i := 732) (by decide +kernel), List.mem_of_getElem? (i := 1124) (by decide +kernel), List.mem_of_getElem? (i := 1125) (by decide +kernel)⟩
theorem lw_p50 : lw_okq (⟨"CubeClosuresModel", "allPlaces", "()I"⟩, 30) := ⟨⟨by decide +kernel, by decide +kernel⟩, List.mem_of_getElem? (i := 732) (by decide +kernel), List.mem_of_getElem? (i := 1128) (by decide +kernel), List.mem_of_getElem? (i := 1129) (by decide +kernel)⟩
def lw_privs_4 : List (MethodName × Nat) := [(⟨"CubeClosuresModel", "supported", "()I"⟩, 30), (⟨"CubeClosuresModel", "valuesTold", "()I"⟩, 30), (⟨"CubeClosuresModel", "allPlaces", "()I"⟩, 30)]
theorem lw_r4 : ∀ q ∈ lw_privs_4, lw_okq q := List.forall_mem_cons.mpr ⟨lw_p48, List.forall_mem_cons.mpr ⟨lw_p49, List.forall_mem_cons.mpr ⟨lw_p50, fun _ h => absurd h List.not_mem_nil⟩⟩⟩
def lw_privs : List (MethodName × Nat) := lw_privs_1 ++ (lw_privs_2 ++ (lw_privs_3 ++ (lw_privs_4)))
def lw_tbl : List Cond := k2_sels lw_privs ++ tables_1
theorem lw_privs_ok : ∀ q ∈ lw_privs, lw_okq q := by
  show ∀ q ∈ lw_privs_1 ++ (lw_privs_2 ++ (lw_privs_3 ++ (lw_privs_4))), lw_okq q
  exact List.forall_mem_append.mpr ⟨lw_r1, List.forall_mem_append.mpr ⟨lw_r2, List.forall_mem_append.mpr ⟨lw_r3, lw_r4⟩⟩⟩
-- names, of the claim
def RX0 : String := "CubeClosures$Cells"
def TX0 : u_T := fun k => match k with
  | 0 => ("CubeClosures$Cells", "table", "LCubeClosures$Table;", true)
  | 1 => ("CubeClosures$Cells", "parting", "LCubeClosures$Parting;", true)
  | 2 => ("CubeClosures$Cells", "having", "[J", true)
  | 3 => ("CubeClosures$Cells", "size", "I", false)
  | 4 => ("CubeClosures$Cells", "codes", "[I", false)
  | 5 => ("CubeClosures$Cells", "covers", "[J", false)
  | 6 => ("CubeClosures$Cells", "otherCodes", "[I", false)
  | 7 => ("CubeClosures$Cells", "otherCovers", "[J", false)
  | 8 => ("CubeClosures$Cells", "isClosed", "[Z", true)
  | 9 => ("CubeClosures$Cells", "allOfSize", "[I", true)
  | 10 => ("CubeClosures$Cells", "closedOfSize", "[I", true)
  | _ => ("CubeClosures$Cells", "cellsOn", "[I", true)
def tyX0 : Nat → FieldType := fun k => match k with
  | 0 => .object "CubeClosures$Table"
  | 1 => .object "CubeClosures$Parting"
  | 2 => .array .long
  | 3 => .int
  | 4 => .array .int
  | 5 => .array .long
  | 6 => .array .int
  | 7 => .array .long
  | 8 => .array .boolean
  | 9 => .array .int
  | 10 => .array .int
  | _ => .array .int
abbrev wsX00 : List Cond := u_ws RX0 TX0 12
theorem nmX0 : ∀ a, a < 12 → ∀ b, b < 12 → a ≠ b → (TX0 a).2.1 ≠ (TX0 b).2.1 := by decide +kernel
theorem tyX0_ok : ∀ k, k < 12 → parseFieldDescriptor (TX0 k).2.2.1 = some (tyX0 k) := by decide +kernel
abbrev cX0_init : ByteArray := prog_2_method_1_code
def yX0_init : MethodName := ⟨RX0, "<init>", "()V"⟩
abbrev cX0_list : ByteArray := prog_2_method_2_code
def yX0_list : MethodName := ⟨RX0, "list", "()V"⟩
abbrev cX0_findHaving : ByteArray := prog_2_method_3_code
def yX0_findHaving : MethodName := ⟨RX0, "findHaving", "()V"⟩
abbrev cX0_spreadBy : ByteArray := prog_2_method_4_code
def yX0_spreadBy : MethodName := ⟨RX0, "spreadBy", "(I)V"⟩
abbrev cX0_tally : ByteArray := prog_2_method_5_code
def yX0_tally : MethodName := ⟨RX0, "tally", "()V"⟩
abbrev cX0_havingFigure : ByteArray := prog_2_method_6_code
def yX0_havingFigure : MethodName := ⟨RX0, "havingFigure", "(II)J"⟩
abbrev cX0_coverOf : ByteArray := prog_2_method_7_code
def yX0_coverOf : MethodName := ⟨RX0, "coverOf", "(I)J"⟩
abbrev cX0_closureOf : ByteArray := prog_2_method_8_code
def yX0_closureOf : MethodName := ⟨RX0, "closureOf", "(J)I"⟩
abbrev cX0_sharedWith : ByteArray := prog_2_method_9_code
def yX0_sharedWith : MethodName := ⟨RX0, "sharedWith", "(IJ)I"⟩
abbrev cX0_dimensionsOf : ByteArray := prog_2_method_10_code
def yX0_dimensionsOf : MethodName := ⟨RX0, "dimensionsOf", "(I)I"⟩
abbrev cX0_within : ByteArray := prog_2_method_11_code
def yX0_within : MethodName := ⟨RX0, "within", "(II)I"⟩
abbrev cX0_codeInCube : ByteArray := prog_2_method_12_code
def yX0_codeInCube : MethodName := ⟨RX0, "codeInCube", "(I)I"⟩
abbrev cX0_cubeSize : ByteArray := prog_2_method_13_code
def yX0_cubeSize : MethodName := ⟨RX0, "cubeSize", "(I)I"⟩
abbrev cX0_cellsWith : ByteArray := prog_2_method_14_code
def yX0_cellsWith : MethodName := ⟨RX0, "cellsWith", "(I)I"⟩
abbrev cX0_ofSizeOrMore : ByteArray := prog_2_method_15_code
def yX0_ofSizeOrMore : MethodName := ⟨RX0, "ofSizeOrMore", "([II)I"⟩
abbrev cX0_leastSupportFor : ByteArray := prog_2_method_16_code
def yX0_leastSupportFor : MethodName := ⟨RX0, "leastSupportFor", "(I)I"⟩
abbrev cX0_isInCube : ByteArray := prog_2_method_17_code
def yX0_isInCube : MethodName := ⟨RX0, "isInCube", "(IJ)Z"⟩
abbrev cX0_gainedWith : ByteArray := prog_2_method_18_code
def yX0_gainedWith : MethodName := ⟨RX0, "gainedWith", "(I)I"⟩
abbrev cX0_lostWithout : ByteArray := prog_2_method_19_code
def yX0_lostWithout : MethodName := ⟨RX0, "lostWithout", "(I)I"⟩
abbrev cX0_leastKey : ByteArray := prog_2_method_20_code
def yX0_leastKey : MethodName := ⟨RX0, "leastKey", "()I"⟩
abbrev cX0_settles : ByteArray := prog_2_method_21_code
def yX0_settles : MethodName := ⟨RX0, "settles", "(II)Z"⟩
abbrev cX0_parted : ByteArray := prog_2_method_22_code
def yX0_parted : MethodName := ⟨RX0, "parted", "()LCubeClosures$Parting;"⟩
def RX1 : String := "CubeClosures$Clauses"
def TX1 : u_T := fun k => match k with
  | 0 => ("CubeClosures$Clauses", "text", "LCubeClosures$Text;", true)
  | 1 => ("CubeClosures$Clauses", "draft", "LCubeClosures$Table;", true)
  | 2 => ("CubeClosures$Clauses", "done", "I", false)
  | _ => ("CubeClosures$Clauses", "newValues", "[I", true)
def tyX1 : Nat → FieldType := fun k => match k with
  | 0 => .object "CubeClosures$Text"
  | 1 => .object "CubeClosures$Table"
  | 2 => .int
  | _ => .array .int
abbrev wsX10 : List Cond := u_ws RX1 TX1 4
theorem nmX1 : ∀ a, a < 4 → ∀ b, b < 4 → a ≠ b → (TX1 a).2.1 ≠ (TX1 b).2.1 := by decide +kernel
theorem tyX1_ok : ∀ k, k < 4 → parseFieldDescriptor (TX1 k).2.2.1 = some (tyX1 k) := by decide +kernel
abbrev cX1_init : ByteArray := prog_3_method_1_code
def yX1_init : MethodName := ⟨RX1, "<init>", "()V"⟩
abbrev cX1_draftUpon : ByteArray := prog_3_method_2_code
def yX1_draftUpon : MethodName := ⟨RX1, "draftUpon", "(LCubeClosures$Table;)I"⟩
abbrev cX1_doClause : ByteArray := prog_3_method_3_code
def yX1_doClause : MethodName := ⟨RX1, "doClause", "()Z"⟩
abbrev cX1_doTable : ByteArray := prog_3_method_4_code
def yX1_doTable : MethodName := ⟨RX1, "doTable", "()Z"⟩
abbrev cX1_doSupport : ByteArray := prog_3_method_5_code
def yX1_doSupport : MethodName := ⟨RX1, "doSupport", "()Z"⟩
abbrev cX1_doRow : ByteArray := prog_3_method_6_code
def yX1_doRow : MethodName := ⟨RX1, "doRow", "()Z"⟩
def RX2 : String := "CubeClosures$Exact"
def TX2 : u_T := fun k => match k with
  | _ => ("", "", "", false)
def tyX2 : Nat → FieldType := fun k => match k with
  | _ => .int
abbrev wsX20 : List Cond := u_ws RX2 TX2 0
theorem nmX2 : ∀ a, a < 0 → ∀ b, b < 0 → a ≠ b → (TX2 a).2.1 ≠ (TX2 b).2.1 := by decide +kernel
theorem tyX2_ok : ∀ k, k < 0 → parseFieldDescriptor (TX2 k).2.2.1 = some (tyX2 k) := by decide +kernel
abbrev cX2_result : ByteArray := prog_4_method_2_code
def yX2_result : MethodName := ⟨RX2, "result", "(JIJ)J"⟩
abbrev cX2_isOver : ByteArray := prog_4_method_3_code
def yX2_isOver : MethodName := ⟨RX2, "isOver", "(JIJ)Z"⟩
def RX3 : String := "CubeClosures$LongRows"
def TX3 : u_T := fun k => match k with
  | 0 => ("CubeClosures$LongRows", "lengths", "[I", true)
  | _ => ("CubeClosures$LongRows", "places", "[[J", true)
def tyX3 : Nat → FieldType := fun k => match k with
  | 0 => .array .int
  | _ => .array (.array .long)
abbrev wsX30 : List Cond := u_ws RX3 TX3 2
theorem nmX3 : ∀ a, a < 2 → ∀ b, b < 2 → a ≠ b → (TX3 a).2.1 ≠ (TX3 b).2.1 := by decide +kernel
theorem tyX3_ok : ∀ k, k < 2 → parseFieldDescriptor (TX3 k).2.2.1 = some (tyX3 k) := by decide +kernel
abbrev cX3_init : ByteArray := prog_5_method_1_code
def yX3_init : MethodName := ⟨RX3, "<init>", "()V"⟩
abbrev cX3_isRow : ByteArray := prog_5_method_2_code
def yX3_isRow : MethodName := ⟨RX3, "isRow", "(I)Z"⟩
abbrev cX3_isMissing : ByteArray := prog_5_method_3_code
def yX3_isMissing : MethodName := ⟨RX3, "isMissing", "(I)Z"⟩
abbrev cX3_renew : ByteArray := prog_5_method_4_code
def yX3_renew : MethodName := ⟨RX3, "renew", "(II)V"⟩
abbrev cX3_finds : ByteArray := prog_5_method_5_code
def yX3_finds : MethodName := ⟨RX3, "finds", "(II)I"⟩
abbrev cX3_put : ByteArray := prog_5_method_6_code
def yX3_put : MethodName := ⟨RX3, "put", "(IIJ)I"⟩
abbrev cX3_placesInAll : ByteArray := prog_5_method_7_code
def yX3_placesInAll : MethodName := ⟨RX3, "placesInAll", "()I"⟩
def RX4 : String := "CubeClosures$Parting"
def TX4 : u_T := fun k => match k with
  | 0 => ("CubeClosures$Parting", "dimensions", "I", false)
  | 1 => ("CubeClosures$Parting", "visits", "I", false)
  | _ => ("CubeClosures$Parting", "entriesOn", "[I", true)
def tyX4 : Nat → FieldType := fun k => match k with
  | 0 => .int
  | 1 => .int
  | _ => .array .int
abbrev wsX40 : List Cond := u_ws RX4 TX4 3
theorem nmX4 : ∀ a, a < 3 → ∀ b, b < 3 → a ≠ b → (TX4 a).2.1 ≠ (TX4 b).2.1 := by decide +kernel
theorem tyX4_ok : ∀ k, k < 3 → parseFieldDescriptor (TX4 k).2.2.1 = some (tyX4 k) := by decide +kernel
abbrev cX4_init : ByteArray := prog_6_method_1_code
def yX4_init : MethodName := ⟨RX4, "<init>", "()V"⟩
abbrev cX4_isOrder : ByteArray := prog_6_method_2_code
def yX4_isOrder : MethodName := ⟨RX4, "isOrder", "(II)Z"⟩
abbrev cX4_startWith : ByteArray := prog_6_method_3_code
def yX4_startWith : MethodName := ⟨RX4, "startWith", "(II)V"⟩
abbrev cX4_goInto : ByteArray := prog_6_method_4_code
def yX4_goInto : MethodName := ⟨RX4, "goInto", "(II)V"⟩
abbrev cX4_workBy : ByteArray := prog_6_method_5_code
def yX4_workBy : MethodName := ⟨RX4, "workBy", "(I)I"⟩
abbrev cX4_bestOrder : ByteArray := prog_6_method_6_code
def yX4_bestOrder : MethodName := ⟨RX4, "bestOrder", "()I"⟩
abbrev cX4_ordersOf : ByteArray := prog_6_method_7_code
def yX4_ordersOf : MethodName := ⟨RX4, "ordersOf", "(I)[I"⟩
def RX5 : String := "CubeClosures$Past"
def TX5 : u_T := fun k => match k with
  | 0 => ("CubeClosures$Past", "size", "I", false)
  | 1 => ("CubeClosures$Past", "next", "I", false)
  | 2 => ("CubeClosures$Past", "kinds", "[I", true)
  | 3 => ("CubeClosures$Past", "numbers", "[I", true)
  | 4 => ("CubeClosures$Past", "codes", "[I", true)
  | _ => ("CubeClosures$Past", "measures", "[I", true)
def tyX5 : Nat → FieldType := fun k => match k with
  | 0 => .int
  | 1 => .int
  | 2 => .array .int
  | 3 => .array .int
  | 4 => .array .int
  | _ => .array .int
abbrev wsX50 : List Cond := u_ws RX5 TX5 6
theorem nmX5 : ∀ a, a < 6 → ∀ b, b < 6 → a ≠ b → (TX5 a).2.1 ≠ (TX5 b).2.1 := by decide +kernel
theorem tyX5_ok : ∀ k, k < 6 → parseFieldDescriptor (TX5 k).2.2.1 = some (tyX5 k) := by decide +kernel
abbrev cX5_init : ByteArray := prog_7_method_1_code
def yX5_init : MethodName := ⟨RX5, "<init>", "()V"⟩
abbrev cX5_record : ByteArray := prog_7_method_2_code
def yX5_record : MethodName := ⟨RX5, "record", "(IIII)V"⟩
abbrev cX5_undoLatest : ByteArray := prog_7_method_3_code
def yX5_undoLatest : MethodName := ⟨RX5, "undoLatest", "(LCubeClosures$Table;)V"⟩
def RX6 : String := "CubeClosures$Table"
def TX6 : u_T := fun k => match k with
  | 0 => ("CubeClosures$Table", "dimensions", "I", false)
  | 1 => ("CubeClosures$Table", "values", "[I", true)
  | 2 => ("CubeClosures$Table", "size", "I", false)
  | 3 => ("CubeClosures$Table", "codes", "[I", true)
  | 4 => ("CubeClosures$Table", "measures", "[I", true)
  | _ => ("CubeClosures$Table", "enough", "I", false)
def tyX6 : Nat → FieldType := fun k => match k with
  | 0 => .int
  | 1 => .array .int
  | 2 => .int
  | 3 => .array .int
  | 4 => .array .int
  | _ => .int
abbrev wsX60 : List Cond := u_ws RX6 TX6 6
theorem nmX6 : ∀ a, a < 6 → ∀ b, b < 6 → a ≠ b → (TX6 a).2.1 ≠ (TX6 b).2.1 := by decide +kernel
theorem tyX6_ok : ∀ k, k < 6 → parseFieldDescriptor (TX6 k).2.2.1 = some (tyX6 k) := by decide +kernel
abbrev cX6_init : ByteArray := prog_8_method_1_code
def yX6_init : MethodName := ⟨RX6, "<init>", "()V"⟩
abbrev cX6_startWith : ByteArray := prog_8_method_2_code
def yX6_startWith : MethodName := ⟨RX6, "startWith", "(I[I)V"⟩
abbrev cX6_copyFrom : ByteArray := prog_8_method_3_code
def yX6_copyFrom : MethodName := ⟨RX6, "copyFrom", "(LCubeClosures$Table;)V"⟩
abbrev cX6_hasEntry : ByteArray := prog_8_method_4_code
def yX6_hasEntry : MethodName := ⟨RX6, "hasEntry", "(I)Z"⟩
abbrev cX6_insert : ByteArray := prog_8_method_5_code
def yX6_insert : MethodName := ⟨RX6, "insert", "(III)V"⟩
abbrev cX6_takeOut : ByteArray := prog_8_method_6_code
def yX6_takeOut : MethodName := ⟨RX6, "takeOut", "(I)V"⟩
abbrev cX6_isCellCode : ByteArray := prog_8_method_7_code
def yX6_isCellCode : MethodName := ⟨RX6, "isCellCode", "(I)Z"⟩
abbrev cX6_isEntryCode : ByteArray := prog_8_method_8_code
def yX6_isEntryCode : MethodName := ⟨RX6, "isEntryCode", "(I)Z"⟩
abbrev cX6_hasFigures : ByteArray := prog_8_method_9_code
def yX6_hasFigures : MethodName := ⟨RX6, "hasFigures", "(II)Z"⟩
abbrev cX6_valueFigures : ByteArray := prog_8_method_10_code
def yX6_valueFigures : MethodName := ⟨RX6, "valueFigures", "()I"⟩
abbrev cX6_sumOf : ByteArray := prog_8_method_11_code
def yX6_sumOf : MethodName := ⟨RX6, "sumOf", "(J)I"⟩
abbrev cX6_leastOf : ByteArray := prog_8_method_12_code
def yX6_leastOf : MethodName := ⟨RX6, "leastOf", "(J)I"⟩
abbrev cX6_greatestOf : ByteArray := prog_8_method_13_code
def yX6_greatestOf : MethodName := ⟨RX6, "greatestOf", "(J)I"⟩
abbrev cX6_isIn : ByteArray := prog_8_method_14_code
def yX6_isIn : MethodName := ⟨RX6, "isIn", "(IJ)Z"⟩
def RX7 : String := "CubeClosures$Text"
def TX7 : u_T := fun k => match k with
  | 0 => ("CubeClosures$Text", "letters", "[C", true)
  | 1 => ("CubeClosures$Text", "length", "I", false)
  | 2 => ("CubeClosures$Text", "start", "I", false)
  | _ => ("CubeClosures$Text", "end", "I", false)
def tyX7 : Nat → FieldType := fun k => match k with
  | 0 => .array .char
  | 1 => .int
  | 2 => .int
  | _ => .int
abbrev wsX70 : List Cond := u_ws RX7 TX7 4
theorem nmX7 : ∀ a, a < 4 → ∀ b, b < 4 → a ≠ b → (TX7 a).2.1 ≠ (TX7 b).2.1 := by decide +kernel
theorem tyX7_ok : ∀ k, k < 4 → parseFieldDescriptor (TX7 k).2.2.1 = some (tyX7 k) := by decide +kernel
abbrev cX7_init : ByteArray := prog_9_method_1_code
def yX7_init : MethodName := ⟨RX7, "<init>", "()V"⟩
abbrev cX7_append : ByteArray := prog_9_method_2_code
def yX7_append : MethodName := ⟨RX7, "append", "(C)Z"⟩
abbrev cX7_rewind : ByteArray := prog_9_method_3_code
def yX7_rewind : MethodName := ⟨RX7, "rewind", "()V"⟩
abbrev cX7_toNextToken : ByteArray := prog_9_method_4_code
def yX7_toNextToken : MethodName := ⟨RX7, "toNextToken", "()V"⟩
abbrev cX7_isAtEnd : ByteArray := prog_9_method_5_code
def yX7_isAtEnd : MethodName := ⟨RX7, "isAtEnd", "()Z"⟩
abbrev cX7_isToken : ByteArray := prog_9_method_6_code
def yX7_isToken : MethodName := ⟨RX7, "isToken", "(Ljava/lang/String;)Z"⟩
abbrev cX7_numberWithin : ByteArray := prog_9_method_7_code
def yX7_numberWithin : MethodName := ⟨RX7, "numberWithin", "(II)I"⟩
abbrev cX7_isSmall : ByteArray := prog_9_method_8_code
def yX7_isSmall : MethodName := ⟨RX7, "isSmall", "(C)Z"⟩
abbrev cX7_isDigit : ByteArray := prog_9_method_9_code
def yX7_isDigit : MethodName := ⟨RX7, "isDigit", "(C)Z"⟩
def RX8 : String := "CubeClosures"
def TX8 : u_T := fun k => match k with
  | 0 => ("CubeClosures", "clauses", "LCubeClosures$Clauses;", true)
  | 1 => ("CubeClosures", "text", "LCubeClosures$Text;", true)
  | 2 => ("CubeClosures", "cells", "LCubeClosures$Cells;", true)
  | 3 => ("CubeClosures", "table", "LCubeClosures$Table;", true)
  | 4 => ("CubeClosures", "past", "LCubeClosures$Past;", true)
  | 5 => ("CubeClosures", "keeps", "[LCubeClosures$Table;", true)
  | 6 => ("CubeClosures", "isKept", "[Z", true)
  | 7 => ("CubeClosures", "rows", "LCubeClosures$LongRows;", true)
  | 8 => ("CubeClosures", "cellsAreOld", "Z", false)
  | _ => ("CubeClosures", "told", "J", false)
def tyX8 : Nat → FieldType := fun k => match k with
  | 0 => .object "CubeClosures$Clauses"
  | 1 => .object "CubeClosures$Text"
  | 2 => .object "CubeClosures$Cells"
  | 3 => .object "CubeClosures$Table"
  | 4 => .object "CubeClosures$Past"
  | 5 => .array (.object "CubeClosures$Table")
  | 6 => .array .boolean
  | 7 => .object "CubeClosures$LongRows"
  | 8 => .boolean
  | _ => .long
abbrev wsX80 : List Cond := u_ws RX8 TX8 10
theorem nmX8 : ∀ a, a < 10 → ∀ b, b < 10 → a ≠ b → (TX8 a).2.1 ≠ (TX8 b).2.1 := by decide +kernel
theorem tyX8_ok : ∀ k, k < 10 → parseFieldDescriptor (TX8 k).2.2.1 = some (tyX8 k) := by decide +kernel
abbrev cX8_init : ByteArray := prog_1_method_1_code
def yX8_init : MethodName := ⟨RX8, "<init>", "()V"⟩
abbrev cX8_write : ByteArray := prog_1_method_2_code
def yX8_write : MethodName := ⟨RX8, "write", "(I)I"⟩
abbrev cX8_erase : ByteArray := prog_1_method_3_code
def yX8_erase : MethodName := ⟨RX8, "erase", "()I"⟩
abbrev cX8_fault : ByteArray := prog_1_method_4_code
def yX8_fault : MethodName := ⟨RX8, "fault", "()I"⟩
abbrev cX8_read : ByteArray := prog_1_method_5_code
def yX8_read : MethodName := ⟨RX8, "read", "()I"⟩
abbrev cX8_add : ByteArray := prog_1_method_6_code
def yX8_add : MethodName := ⟨RX8, "add", "(II)I"⟩
abbrev cX8_remove : ByteArray := prog_1_method_7_code
def yX8_remove : MethodName := ⟨RX8, "remove", "(I)I"⟩
abbrev cX8_support : ByteArray := prog_1_method_8_code
def yX8_support : MethodName := ⟨RX8, "support", "(I)I"⟩
abbrev cX8_undo : ByteArray := prog_1_method_9_code
def yX8_undo : MethodName := ⟨RX8, "undo", "()I"⟩
abbrev cX8_keep : ByteArray := prog_1_method_10_code
def yX8_keep : MethodName := ⟨RX8, "keep", "(I)I"⟩
abbrev cX8_back : ByteArray := prog_1_method_11_code
def yX8_back : MethodName := ⟨RX8, "back", "(I)I"⟩
abbrev cX8_entry : ByteArray := prog_1_method_12_code
def yX8_entry : MethodName := ⟨RX8, "entry", "(II)I"⟩
abbrev cX8_cell : ByteArray := prog_1_method_13_code
def yX8_cell : MethodName := ⟨RX8, "cell", "(II)I"⟩
abbrev cX8_closure : ByteArray := prog_1_method_14_code
def yX8_closure : MethodName := ⟨RX8, "closure", "(I)I"⟩
abbrev cX8_kept : ByteArray := prog_1_method_15_code
def yX8_kept : MethodName := ⟨RX8, "kept", "(I)I"⟩
abbrev cX8_ask : ByteArray := prog_1_method_16_code
def yX8_ask : MethodName := ⟨RX8, "ask", "(II)I"⟩
abbrev cX8_part : ByteArray := prog_1_method_17_code
def yX8_part : MethodName := ⟨RX8, "part", "(II)I"⟩
abbrev cX8_best : ByteArray := prog_1_method_18_code
def yX8_best : MethodName := ⟨RX8, "best", "(I)I"⟩
abbrev cX8_more : ByteArray := prog_1_method_19_code
def yX8_more : MethodName := ⟨RX8, "more", "(II)I"⟩
abbrev cX8_less : ByteArray := prog_1_method_20_code
def yX8_less : MethodName := ⟨RX8, "less", "(II)I"⟩
abbrev cX8_cap : ByteArray := prog_1_method_21_code
def yX8_cap : MethodName := ⟨RX8, "cap", "(I)I"⟩
abbrev cX8_key : ByteArray := prog_1_method_22_code
def yX8_key : MethodName := ⟨RX8, "key", "()I"⟩
abbrev cX8_rule : ByteArray := prog_1_method_23_code
def yX8_rule : MethodName := ⟨RX8, "rule", "(II)I"⟩
abbrev cX8_row : ByteArray := prog_1_method_24_code
def yX8_row : MethodName := ⟨RX8, "row", "(II)I"⟩
abbrev cX8_set : ByteArray := prog_1_method_25_code
def yX8_set : MethodName := ⟨RX8, "set", "(III)I"⟩
abbrev cX8_work : ByteArray := prog_1_method_26_code
def yX8_work : MethodName := ⟨RX8, "work", "(IIII)I"⟩
abbrev cX8_bits : ByteArray := prog_1_method_27_code
def yX8_bits : MethodName := ⟨RX8, "bits", "(II)I"⟩
abbrev cX8_sum : ByteArray := prog_1_method_28_code
def yX8_sum : MethodName := ⟨RX8, "sum", "(I)I"⟩
abbrev cX8_load : ByteArray := prog_1_method_29_code
def yX8_load : MethodName := ⟨RX8, "load", "(III)I"⟩
abbrev cX8_drop : ByteArray := prog_1_method_30_code
def yX8_drop : MethodName := ⟨RX8, "drop", "(I)I"⟩
abbrev cX8_asked : ByteArray := prog_1_method_31_code
def yX8_asked : MethodName := ⟨RX8, "asked", "()J"⟩
abbrev cX8_count : ByteArray := prog_1_method_32_code
def yX8_count : MethodName := ⟨RX8, "count", "(I)I"⟩
abbrev cX8_freshCells : ByteArray := prog_1_method_33_code
def yX8_freshCells : MethodName := ⟨RX8, "freshCells", "()LCubeClosures$Cells;"⟩
def RX9 : String := "CubeClosuresModel"
def TX9 : u_T := fun k => match k with
  | 0 => ("CubeClosuresModel", "row", "[I", true)
  | 1 => ("CubeClosuresModel", "dimensions", "I", false)
  | 2 => ("CubeClosuresModel", "values", "[I", true)
  | 3 => ("CubeClosuresModel", "undos", "I", false)
  | 4 => ("CubeClosuresModel", "isKept", "[Z", true)
  | 5 => ("CubeClosuresModel", "text", "[I", true)
  | 6 => ("CubeClosuresModel", "length", "I", false)
  | 7 => ("CubeClosuresModel", "sizes", "[I", true)
  | 8 => ("CubeClosuresModel", "items", "[J", true)
  | 9 => ("CubeClosuresModel", "asked", "J", false)
  | 10 => ("CubeClosuresModel", "first", "I", false)
  | 11 => ("CubeClosuresModel", "behind", "I", false)
  | 12 => ("CubeClosuresModel", "readDimensions", "I", false)
  | 13 => ("CubeClosuresModel", "readValues", "[I", true)
  | 14 => ("CubeClosuresModel", "readMany", "I", false)
  | 15 => ("CubeClosuresModel", "clauses", "I", false)
  | 16 => ("CubeClosuresModel", "doing", "Z", false)
  | 17 => ("CubeClosuresModel", "number", "I", false)
  | 18 => ("CubeClosuresModel", "tableWord", "[I", true)
  | 19 => ("CubeClosuresModel", "supportWord", "[I", true)
  | 20 => ("CubeClosuresModel", "rowWord", "[I", true)
  | 21 => ("CubeClosuresModel", "many", "I", false)
  | 22 => ("CubeClosuresModel", "sum", "I", false)
  | 23 => ("CubeClosuresModel", "least", "I", false)
  | 24 => ("CubeClosuresModel", "greatest", "I", false)
  | 25 => ("CubeClosuresModel", "closed", "I", false)
  | 26 => ("CubeClosuresModel", "visits", "I", false)
  | 27 => ("CubeClosuresModel", "counts", "[I", true)
  | 28 => ("CubeClosuresModel", "byMany", "[I", true)
  | _ => ("CubeClosuresModel", "isOver", "Z", false)
def tyX9 : Nat → FieldType := fun k => match k with
  | 0 => .array .int
  | 1 => .int
  | 2 => .array .int
  | 3 => .int
  | 4 => .array .boolean
  | 5 => .array .int
  | 6 => .int
  | 7 => .array .int
  | 8 => .array .long
  | 9 => .long
  | 10 => .int
  | 11 => .int
  | 12 => .int
  | 13 => .array .int
  | 14 => .int
  | 15 => .int
  | 16 => .boolean
  | 17 => .int
  | 18 => .array .int
  | 19 => .array .int
  | 20 => .array .int
  | 21 => .int
  | 22 => .int
  | 23 => .int
  | 24 => .int
  | 25 => .int
  | 26 => .int
  | 27 => .array .int
  | 28 => .array .int
  | _ => .boolean
abbrev wsX90 : List Cond := u_ws RX9 TX9 30
theorem nmX9 : ∀ a, a < 30 → ∀ b, b < 30 → a ≠ b → (TX9 a).2.1 ≠ (TX9 b).2.1 := by decide +kernel
theorem tyX9_ok : ∀ k, k < 30 → parseFieldDescriptor (TX9 k).2.2.1 = some (tyX9 k) := by decide +kernel
abbrev cX9_init : ByteArray := prog_11_method_1_code
def yX9_init : MethodName := ⟨RX9, "<init>", "()V"⟩
abbrev cX9_in : ByteArray := prog_11_method_2_code
def yX9_in : MethodName := ⟨RX9, "in", "(JJJ)Z"⟩
abbrev cX9_has : ByteArray := prog_11_method_3_code
def yX9_has : MethodName := ⟨RX9, "has", "(II)Z"⟩
abbrev cX9_copyRow : ByteArray := prog_11_method_4_code
def yX9_copyRow : MethodName := ⟨RX9, "copyRow", "(II)V"⟩
abbrev cX9_write : ByteArray := prog_11_method_5_code
def yX9_write : MethodName := ⟨RX9, "write", "(I)I"⟩
abbrev cX9_erase : ByteArray := prog_11_method_6_code
def yX9_erase : MethodName := ⟨RX9, "erase", "()I"⟩
abbrev cX9_isLetter : ByteArray := prog_11_method_7_code
def yX9_isLetter : MethodName := ⟨RX9, "isLetter", "(I)Z"⟩
abbrev cX9_isDigit : ByteArray := prog_11_method_8_code
def yX9_isDigit : MethodName := ⟨RX9, "isDigit", "(I)Z"⟩
abbrev cX9_nextToken : ByteArray := prog_11_method_9_code
def yX9_nextToken : MethodName := ⟨RX9, "nextToken", "()V"⟩
abbrev cX9_isWord : ByteArray := prog_11_method_10_code
def yX9_isWord : MethodName := ⟨RX9, "isWord", "([I)Z"⟩
abbrev cX9_readsNumber : ByteArray := prog_11_method_11_code
def yX9_readsNumber : MethodName := ⟨RX9, "readsNumber", "(II)Z"⟩
abbrev cX9_isEnd : ByteArray := prog_11_method_12_code
def yX9_isEnd : MethodName := ⟨RX9, "isEnd", "()Z"⟩
abbrev cX9_readsTable : ByteArray := prog_11_method_13_code
def yX9_readsTable : MethodName := ⟨RX9, "readsTable", "()Z"⟩
abbrev cX9_readsSupport : ByteArray := prog_11_method_14_code
def yX9_readsSupport : MethodName := ⟨RX9, "readsSupport", "()Z"⟩
abbrev cX9_readsRow : ByteArray := prog_11_method_15_code
def yX9_readsRow : MethodName := ⟨RX9, "readsRow", "()Z"⟩
abbrev cX9_wordHere : ByteArray := prog_11_method_16_code
def yX9_wordHere : MethodName := ⟨RX9, "wordHere", "()I"⟩
abbrev cX9_readsClause : ByteArray := prog_11_method_17_code
def yX9_readsClause : MethodName := ⟨RX9, "readsClause", "()Z"⟩
abbrev cX9_reads : ByteArray := prog_11_method_18_code
def yX9_reads : MethodName := ⟨RX9, "reads", "(Z)Z"⟩
abbrev cX9_fault : ByteArray := prog_11_method_19_code
def yX9_fault : MethodName := ⟨RX9, "fault", "()I"⟩
abbrev cX9_read : ByteArray := prog_11_method_20_code
def yX9_read : MethodName := ⟨RX9, "read", "()I"⟩
abbrev cX9_put : ByteArray := prog_11_method_21_code
def yX9_put : MethodName := ⟨RX9, "put", "(III)V"⟩
abbrev cX9_takeOut : ByteArray := prog_11_method_22_code
def yX9_takeOut : MethodName := ⟨RX9, "takeOut", "(II)V"⟩
abbrev cX9_figure : ByteArray := prog_11_method_23_code
def yX9_figure : MethodName := ⟨RX9, "figure", "(II)I"⟩
abbrev cX9_codes : ByteArray := prog_11_method_24_code
def yX9_codes : MethodName := ⟨RX9, "codes", "()I"⟩
abbrev cX9_isCell : ByteArray := prog_11_method_25_code
def yX9_isCell : MethodName := ⟨RX9, "isCell", "(I)Z"⟩
abbrev cX9_isWhole : ByteArray := prog_11_method_26_code
def yX9_isWhole : MethodName := ⟨RX9, "isWhole", "(I)Z"⟩
abbrev cX9_isEntry : ByteArray := prog_11_method_27_code
def yX9_isEntry : MethodName := ⟨RX9, "isEntry", "(I)Z"⟩
abbrev cX9_keepPast : ByteArray := prog_11_method_28_code
def yX9_keepPast : MethodName := ⟨RX9, "keepPast", "()V"⟩
abbrev cX9_add : ByteArray := prog_11_method_29_code
def yX9_add : MethodName := ⟨RX9, "add", "(II)I"⟩
abbrev cX9_remove : ByteArray := prog_11_method_30_code
def yX9_remove : MethodName := ⟨RX9, "remove", "(I)I"⟩
abbrev cX9_support : ByteArray := prog_11_method_31_code
def yX9_support : MethodName := ⟨RX9, "support", "(I)I"⟩
abbrev cX9_undo : ByteArray := prog_11_method_32_code
def yX9_undo : MethodName := ⟨RX9, "undo", "()I"⟩
abbrev cX9_keep : ByteArray := prog_11_method_33_code
def yX9_keep : MethodName := ⟨RX9, "keep", "(I)I"⟩
abbrev cX9_back : ByteArray := prog_11_method_34_code
def yX9_back : MethodName := ⟨RX9, "back", "(I)I"⟩
abbrev cX9_entry : ByteArray := prog_11_method_35_code
def yX9_entry : MethodName := ⟨RX9, "entry", "(II)I"⟩
abbrev cX9_covers : ByteArray := prog_11_method_36_code
def yX9_covers : MethodName := ⟨RX9, "covers", "(II)Z"⟩
abbrev cX9_common : ByteArray := prog_11_method_37_code
def yX9_common : MethodName := ⟨RX9, "common", "(II)I"⟩
abbrev cX9_gather : ByteArray := prog_11_method_38_code
def yX9_gather : MethodName := ⟨RX9, "gather", "(II)V"⟩
abbrev cX9_cell : ByteArray := prog_11_method_39_code
def yX9_cell : MethodName := ⟨RX9, "cell", "(II)I"⟩
abbrev cX9_closure : ByteArray := prog_11_method_40_code
def yX9_closure : MethodName := ⟨RX9, "closure", "(I)I"⟩
abbrev cX9_isIn : ByteArray := prog_11_method_41_code
def yX9_isIn : MethodName := ⟨RX9, "isIn", "(II)Z"⟩
abbrev cX9_cubeOf : ByteArray := prog_11_method_42_code
def yX9_cubeOf : MethodName := ⟨RX9, "cubeOf", "(I)I"⟩
abbrev cX9_kept : ByteArray := prog_11_method_43_code
def yX9_kept : MethodName := ⟨RX9, "kept", "(I)I"⟩
abbrev cX9_ask : ByteArray := prog_11_method_44_code
def yX9_ask : MethodName := ⟨RX9, "ask", "(II)I"⟩
abbrev cX9_placeIn : ByteArray := prog_11_method_45_code
def yX9_placeIn : MethodName := ⟨RX9, "placeIn", "(II)I"⟩
abbrev cX9_isOrder : ByteArray := prog_11_method_46_code
def yX9_isOrder : MethodName := ⟨RX9, "isOrder", "(I)Z"⟩
abbrev cX9_layCounts : ByteArray := prog_11_method_47_code
def yX9_layCounts : MethodName := ⟨RX9, "layCounts", "()V"⟩
abbrev cX9_workBy : ByteArray := prog_11_method_48_code
def yX9_workBy : MethodName := ⟨RX9, "workBy", "(I)I"⟩
abbrev cX9_part : ByteArray := prog_11_method_49_code
def yX9_part : MethodName := ⟨RX9, "part", "(II)I"⟩
abbrev cX9_best : ByteArray := prog_11_method_50_code
def yX9_best : MethodName := ⟨RX9, "best", "(I)I"⟩
abbrev cX9_only : ByteArray := prog_11_method_51_code
def yX9_only : MethodName := ⟨RX9, "only", "(II)I"⟩
abbrev cX9_more : ByteArray := prog_11_method_52_code
def yX9_more : MethodName := ⟨RX9, "more", "(II)I"⟩
abbrev cX9_less : ByteArray := prog_11_method_53_code
def yX9_less : MethodName := ⟨RX9, "less", "(II)I"⟩
abbrev cX9_cap : ByteArray := prog_11_method_54_code
def yX9_cap : MethodName := ⟨RX9, "cap", "(I)I"⟩
abbrev cX9_areAlike : ByteArray := prog_11_method_55_code
def yX9_areAlike : MethodName := ⟨RX9, "areAlike", "(III)Z"⟩
abbrev cX9_isKey : ByteArray := prog_11_method_56_code
def yX9_isKey : MethodName := ⟨RX9, "isKey", "(I)Z"⟩
abbrev cX9_bits4 : ByteArray := prog_11_method_57_code
def yX9_bits4 : MethodName := ⟨RX9, "bits4", "(I)I"⟩
abbrev cX9_key : ByteArray := prog_11_method_58_code
def yX9_key : MethodName := ⟨RX9, "key", "()I"⟩
abbrev cX9_rule : ByteArray := prog_11_method_59_code
def yX9_rule : MethodName := ⟨RX9, "rule", "(II)I"⟩
abbrev cX9_isRow : ByteArray := prog_11_method_60_code
def yX9_isRow : MethodName := ⟨RX9, "isRow", "(I)Z"⟩
abbrev cX9_row : ByteArray := prog_11_method_61_code
def yX9_row : MethodName := ⟨RX9, "row", "(II)I"⟩
abbrev cX9_noPlace : ByteArray := prog_11_method_62_code
def yX9_noPlace : MethodName := ⟨RX9, "noPlace", "(II)I"⟩
abbrev cX9_set : ByteArray := prog_11_method_63_code
def yX9_set : MethodName := ⟨RX9, "set", "(III)I"⟩
abbrev cX9_plus : ByteArray := prog_11_method_64_code
def yX9_plus : MethodName := ⟨RX9, "plus", "(JJ)J"⟩
abbrev cX9_times : ByteArray := prog_11_method_65_code
def yX9_times : MethodName := ⟨RX9, "times", "(JJ)J"⟩
abbrev cX9_work : ByteArray := prog_11_method_66_code
def yX9_work : MethodName := ⟨RX9, "work", "(IIII)I"⟩
abbrev cX9_bits : ByteArray := prog_11_method_67_code
def yX9_bits : MethodName := ⟨RX9, "bits", "(II)I"⟩
abbrev cX9_sum : ByteArray := prog_11_method_68_code
def yX9_sum : MethodName := ⟨RX9, "sum", "(I)I"⟩
abbrev cX9_load : ByteArray := prog_11_method_69_code
def yX9_load : MethodName := ⟨RX9, "load", "(III)I"⟩
abbrev cX9_drop : ByteArray := prog_11_method_70_code
def yX9_drop : MethodName := ⟨RX9, "drop", "(I)I"⟩
abbrev cX9_asked : ByteArray := prog_11_method_71_code
def yX9_asked : MethodName := ⟨RX9, "asked", "()J"⟩
abbrev cX9_supported : ByteArray := prog_11_method_72_code
def yX9_supported : MethodName := ⟨RX9, "supported", "()I"⟩
abbrev cX9_valuesTold : ByteArray := prog_11_method_73_code
def yX9_valuesTold : MethodName := ⟨RX9, "valuesTold", "()I"⟩
abbrev cX9_allPlaces : ByteArray := prog_11_method_74_code
def yX9_allPlaces : MethodName := ⟨RX9, "allPlaces", "()I"⟩
abbrev cX9_count : ByteArray := prog_11_method_75_code
def yX9_count : MethodName := ⟨RX9, "count", "(I)I"⟩
def RJ6 : String := "java/lang/Integer"
abbrev cJ6_bitCount_0f7a4 : ByteArray := prog_12_method_49_code
def yJ6_bitCount_0f7a4 : MethodName := ⟨RJ6, "bitCount", "(I)I"⟩
def RJ13 : String := "java/lang/Long"
abbrev cJ13_bitCount_95d88 : ByteArray := prog_13_method_50_code
def yJ13_bitCount_95d88 : MethodName := ⟨RJ13, "bitCount", "(J)I"⟩
def RJ9 : String := "java/lang/Math"
abbrev cJ9_max_7cf53 : ByteArray := prog_14_method_65_code
def yJ9_max_7cf53 : MethodName := ⟨RJ9, "max", "(II)I"⟩
abbrev cJ9_min_7cf53 : ByteArray := prog_14_method_69_code
def yJ9_min_7cf53 : MethodName := ⟨RJ9, "min", "(II)I"⟩
def RJ0 : String := "java/lang/String"
abbrev cJ0_length_8abf5 : ByteArray := prog_15_method_54_code
def yJ0_length_8abf5 : MethodName := ⟨RJ0, "length", "()I"⟩
abbrev cJ0_charAt_5068e : ByteArray := prog_15_method_56_code
def yJ0_charAt_5068e : MethodName := ⟨RJ0, "charAt", "(I)C"⟩
abbrev cJ0_coder_7d493 : ByteArray := prog_15_method_152_code
def yJ0_coder_7d493 : MethodName := ⟨RJ0, "coder", "()B"⟩
abbrev cJ0_isLatin1_aae02 : ByteArray := prog_15_method_154_code
def yJ0_isLatin1_aae02 : MethodName := ⟨RJ0, "isLatin1", "()Z"⟩
abbrev cJ0_checkIndex_df160 : ByteArray := prog_15_method_155_code
def yJ0_checkIndex_df160 : MethodName := ⟨RJ0, "checkIndex", "(II)V"⟩
def RJ1 : String := "java/lang/StringLatin1"
abbrev cJ1_charAt_3b067 : ByteArray := prog_16_method_2_code
def yJ1_charAt_3b067 : MethodName := ⟨RJ1, "charAt", "([BI)C"⟩
def RJ2 : String := "java/lang/StringUTF16"
abbrev cJ2_getChar_3b067 : ByteArray := prog_17_method_5_code
def yJ2_getChar_3b067 : MethodName := ⟨RJ2, "getChar", "([BI)C"⟩
abbrev cJ2_length_9d52b : ByteArray := prog_17_method_6_code
def yJ2_length_9d52b : MethodName := ⟨RJ2, "length", "([B)I"⟩
abbrev cJ2_charAt_3b067 : ByteArray := prog_17_method_83_code
def yJ2_charAt_3b067 : MethodName := ⟨RJ2, "charAt", "([BI)C"⟩
abbrev cJ2_checkIndex_2214a : ByteArray := prog_17_method_91_code
def yJ2_checkIndex_2214a : MethodName := ⟨RJ2, "checkIndex", "(I[B)V"⟩
def RJ10 : String := "java/lang/System"
def RJ3 : String := "jdk/internal/util/Preconditions"
abbrev cJ3_checkIndex_8e157 : ByteArray := prog_19_method_11_code
def yJ3_checkIndex_8e157 : MethodName := ⟨RJ3, "checkIndex", "(IILjava/util/function/BiFunction;)I"⟩
def RL : String := "CubeClosuresLaw"
abbrev cL_law : ByteArray := code
def yL_law : MethodName := ⟨RL, "law", "([I)Z"⟩
abbrev vwCl : List vw_C := [(RX0, TX0, 12), (RX1, TX1, 4), (RX3, TX3, 2), (RX4, TX4, 3), (RX5, TX5, 6), (RX6, TX6, 6), (RX7, TX7, 4), (RX8, TX8, 10), (RX9, TX9, 30)]
end
section
/-! TINY WORLDS: a world is a list of cells by their places; a reference in it is a place; 'ad' says the address of a place.
A method's run is told over such lists alone: 'tg_G' is the judgement; the machine's own cares (heaps, frames, tables) are inside. -/
def tg_T : List Cond := lw_tbl.filter goodWord
theorem tg_mem {w : Cond} (i : Nat) (h : lw_tbl[i]? = some w) (hg : goodWord w = true) : w ∈ tg_T := List.mem_filter.mpr ⟨List.mem_of_getElem? h, hg⟩
theorem tg_goodT : GoodIn tg_T tg_T := fun _ h => ⟨h, good_of_word (List.mem_filter.mp h).2⟩
/-- a method: name, bytes, locals, return type, room -/
abbrev tg_M : Type := MethodName × ByteArray × Nat × Option FieldType × Room
def tg_ws (M : tg_M) : List Cond := .code M.1 M.2.1 M.2.2.1 M.2.2.2.1 :: tg_T
def tg_ok (M : tg_M) : Prop := Cond.code M.1 M.2.1 M.2.2.1 M.2.2.2.1 ∈ tg_T ∧ Cond.initialized M.1.cls ∈ tg_T ∧ plainName M.1.cls = true ∧ M.1.cls ≠ "java/lang/invoke/MethodHandle" ∧ M.1.cls ≠ "java/lang/invoke/VarHandle"
theorem tg_goodM {M : tg_M} (h : tg_ok M) : GoodIn tg_T (tg_ws M) := fun w hw => by
  rcases List.mem_cons.mp hw with rfl | hw
  · exact tg_goodT _ h.1
  · exact tg_goodT _ hw
/-! values, cells, worlds -/
def tg_v (ad : Nat → Nat) : Value → Value
  | .ref k => .ref (ad k)
  | .int x => .int x
  | .long x => .long x
  | .float x => .float x
  | .double x => .double x
  | .null => .null
  | .retAddr x => .retAddr x
def tg_e (cA : Nat → ClassId) (ad : Nat → Nat) : va_E → va_E
  | .inl (t, n, .inl f) => .inl (cA t, n, .inl f)
  | .inl (t, n, .inr (.inl f)) => .inl (cA t, n, .inr (.inl f))
  | .inl (t, n, .inr (.inr (.inl f))) => .inl (cA t, n, .inr (.inr (.inl f)))
  | .inl (t, n, .inr (.inr (.inr (.inl f)))) => .inl (cA t, n, .inr (.inr (.inr (.inl f))))
  | .inl (t, n, .inr (.inr (.inr (.inr f)))) => .inl (cA t, n, .inr (.inr (.inr (.inr (fun j => (f j).map ad)))))
  | .inr (ci, fs) => .inr (ci, fs.map (tg_v ad))
def tg_w (cA : Nat → ClassId) (ad : Nat → Nat) : Nat → List va_E → va_W
  | _, [] => []
  | k, c :: cs => (ad k, tg_e cA ad c) :: tg_w cA ad (k + 1) cs
theorem tg_w_get (cA : Nat → ClassId) (ad : Nat → Nat) : ∀ (w : List va_E) (k i : Nat), (tg_w cA ad k w)[i]? = (w[i]?).map (fun c => (ad (k + i), tg_e cA ad c))
  | [], k, i => by simp [tg_w]
  | c :: cs, k, 0 => by simp [tg_w]
  | c :: cs, k, i + 1 => by
    have h := tg_w_get cA ad cs (k + 1) i
    simp only [tg_w, List.getElem?_cons_succ, h]
    rw [show k + 1 + i = k + (i + 1) by omega]
theorem tg_w_at {cA : Nat → ClassId} {ad : Nat → Nat} {w : List va_E} {i : Nat} {c : va_E} (h : w[i]? = some c) : (tg_w cA ad 0 w)[i]? = some (ad i, tg_e cA ad c) := by
  rw [tg_w_get, h]
  simp
theorem tg_w_set (cA : Nat → ClassId) (ad : Nat → Nat) : ∀ (w : List va_E) (k i : Nat) (c : va_E), tg_w cA ad k (w.set i c) = (tg_w cA ad k w).set i (ad (k + i), tg_e cA ad c)
  | [], k, i, c => by simp [tg_w]
  | x :: cs, k, 0, c => by simp [tg_w]
  | x :: cs, k, i + 1, c => by
    simp only [List.set_cons_succ, tg_w, tg_w_set cA ad cs (k + 1) i c]
    rw [show k + 1 + i = k + (i + 1) by omega]
theorem tg_w_set0 {cA : Nat → ClassId} {ad : Nat → Nat} {w : List va_E} {i : Nat} {c : va_E} : tg_w cA ad 0 (w.set i c) = (tg_w cA ad 0 w).set i (ad i, tg_e cA ad c) := by
  rw [tg_w_set]
  simp
theorem tg_w_app (cA : Nat → ClassId) (ad : Nat → Nat) : ∀ (w1 w2 : List va_E) (k : Nat), tg_w cA ad k (w1 ++ w2) = tg_w cA ad k w1 ++ tg_w cA ad (k + w1.length) w2
  | [], w2, k => by simp [tg_w]
  | c :: cs, w2, k => by
    simp only [List.cons_append, tg_w, List.length_cons]
    rw [tg_w_app cA ad cs w2 (k + 1), show k + 1 + cs.length = k + (cs.length + 1) by omega]
theorem tg_w_len (cA : Nat → ClassId) (ad : Nat → Nat) : ∀ (w : List va_E) (k : Nat), (tg_w cA ad k w).length = w.length
  | [], k => rfl
  | c :: cs, k => by simp [tg_w, tg_w_len cA ad cs (k + 1)]
theorem tg_v_cat (ad : Nat → Nat) (v : Value) : (tg_v ad v).category = v.category := by cases v <;> rfl
theorem tg_v_null (ad : Nat → Nat) (v : Value) : tg_v ad v = .null ↔ v = .null := by cases v <;> simp [tg_v]
/-! locals: by their places; null: nothing is known of it -/
def tg_prs (ad : Nat → Nat) : Nat → List Value → List (Nat × Value)
  | _, [] => []
  | k, v :: vs => match v with
    | .null => tg_prs ad (k + 1) vs
    | v => (k, tg_v ad v) :: tg_prs ad (k + 1) vs
theorem tg_prs_mem (ad : Nat → Nat) : ∀ (lv : List Value) (k : Nat) (q : Nat × Value), q ∈ tg_prs ad k lv ↔ ∃ (i : Nat) (v : Value), lv[i]? = some v ∧ v ≠ .null ∧ q = (k + i, tg_v ad v)
  | [], k, q => by simp [tg_prs]
  | x :: vs, k, q => by
    have ih := tg_prs_mem ad vs (k + 1) q
    have key : (∃ (i : Nat) (v : Value), (x :: vs)[i]? = some v ∧ v ≠ .null ∧ q = (k + i, tg_v ad v)) ↔ (x ≠ .null ∧ q = (k, tg_v ad x)) ∨ q ∈ tg_prs ad (k + 1) vs := by
      rw [ih]
      constructor
      · rintro ⟨i, v, h1, h2, h3⟩
        cases i with
        | zero =>
          rw [List.getElem?_cons_zero] at h1
          cases h1
          exact Or.inl ⟨h2, h3⟩
        | succ i =>
          rw [List.getElem?_cons_succ] at h1
          exact Or.inr ⟨i, v, h1, h2, by rw [h3]; congr 1; omega⟩
      · rintro (⟨h1, h2⟩ | ⟨i, v, h1, h2, h3⟩)
        · exact ⟨0, x, rfl, h1, h2⟩
        · exact ⟨i + 1, v, by rw [List.getElem?_cons_succ]; exact h1, h2, by rw [h3]; congr 1; omega⟩
    rw [key]
    cases x <;> simp [tg_prs]
def tg_L (ad : Nat → Nat) (ls : Array Slot) (nL : Nat) (lv : List Value) : Prop := lv_has ls nL (tg_prs ad 0 lv)
theorem tg_L_at {ad : Nat → Nat} {ls : Array Slot} {nL : Nat} {lv : List Value} (h : tg_L ad ls nL lv) {i : Nat} {v : Value} (hi : lv[i]? = some v) (hv : v ≠ .null) : ls[i]? = some (.val (tg_v ad v)) :=
  h.2.2 (i, tg_v ad v) ((tg_prs_mem ad lv 0 _).mpr ⟨i, v, hi, hv, by simp⟩)
/-- the place ahead loses a value of two places -/
def tg_cl (lv : List Value) : Nat → List Value
  | 0 => lv
  | j + 1 => match lv[j]? with
    | some (.long _) => lv.set j .null
    | some (.double _) => lv.set j .null
    | _ => lv
def tg_s1 (lv : List Value) (i : Nat) (v : Value) : List Value := (tg_cl lv i).set i v
def tg_s2 (lv : List Value) (i : Nat) (v : Value) : List Value := ((tg_cl lv i).set i v).set (i + 1) .null
theorem tg_cl_at {lv : List Value} {i j : Nat} {v : Value} (h : (tg_cl lv i)[j]? = some v) (hv : v ≠ .null) : lv[j]? = some v ∧ ¬ (j + 1 = i ∧ v.category = 2) := by
  cases i with
  | zero => exact ⟨h, fun q => by omega⟩
  | succ k =>
    have key : ∀ u : Value, lv[k]? = some u → (lv.set k .null)[j]? = some v → lv[j]? = some v ∧ ¬ (j + 1 = k + 1 ∧ v.category = 2) := by
      intro u hu h2
      by_cases e : k = j
      · subst e
        rw [List.getElem?_set_self (List.getElem?_eq_some_iff.mp hu).1] at h2
        cases h2
        exact absurd rfl hv
      · rw [List.getElem?_set_ne e] at h2
        exact ⟨h2, fun q => by omega⟩
    simp only [tg_cl] at h
    split at h
    · exact key _ (by assumption) h
    · exact key _ (by assumption) h
    · rename_i n1 n2
      refine ⟨h, fun q => ?_⟩
      have e : j = k := by omega
      subst e
      cases v <;> simp [Value.category] at q
      · exact n1 _ h
      · exact n2 _ h
theorem tg_set_at {lv : List Value} {i j : Nat} {v u : Value} (h : (lv.set i v)[j]? = some u) : (j = i ∧ u = v) ∨ (j ≠ i ∧ lv[j]? = some u) := by
  by_cases e : i = j
  · subst e
    have hl : i < lv.length := by
      have := (List.getElem?_eq_some_iff.mp h).1
      simpa using this
    rw [List.getElem?_set_self hl] at h
    cases h
    exact Or.inl ⟨rfl, rfl⟩
  · rw [List.getElem?_set_ne e] at h
    exact Or.inr ⟨fun q => e q.symm, h⟩
theorem tg_L_s1 {ad : Nat → Nat} {ls : Array Slot} {nL : Nat} {lv : List Value} {i : Nat} {v : Value} (h : lv_has ls nL ((i, tg_v ad v) :: (tg_prs ad 0 lv).filter (fun q => !(q.1 == i) && !(q.1 + 1 == i && q.2.category == 2)))) : tg_L ad ls nL (tg_s1 lv i v) := by
  refine ⟨h.1, h.2.1, fun q hq => ?_⟩
  obtain ⟨j, u, h1, h2, rfl⟩ := (tg_prs_mem ad _ 0 q).mp hq
  refine h.2.2 _ ?_
  rw [Nat.zero_add]
  rcases tg_set_at h1 with ⟨rfl, rfl⟩ | ⟨hne, h3⟩
  · exact List.mem_cons_self
  · obtain ⟨h4, h5⟩ := tg_cl_at h3 h2
    refine List.mem_cons_of_mem _ (List.mem_filter.mpr ⟨(tg_prs_mem ad lv 0 _).mpr ⟨j, u, h4, h2, by simp⟩, ?_⟩)
    have b : (j + 1 == i && u.category == 2) = false := by
      by_cases e : j + 1 = i
      · have z : ¬ u.category = 2 := fun z => h5 ⟨e, z⟩
        simp [z]
      · simp [e]
    simp only [tg_v_cat, b]
    simp [hne]
theorem tg_L_s2 {ad : Nat → Nat} {ls : Array Slot} {nL : Nat} {lv : List Value} {i : Nat} {v : Value} (h : lv_has ls nL ((i, tg_v ad v) :: (tg_prs ad 0 lv).filter (fun q => !(q.1 == i) && (!(q.1 == i + 1) && !(q.1 + 1 == i && q.2.category == 2))))) : tg_L ad ls nL (tg_s2 lv i v) := by
  refine ⟨h.1, h.2.1, fun q hq => ?_⟩
  obtain ⟨j, u, h1, h2, rfl⟩ := (tg_prs_mem ad _ 0 q).mp hq
  refine h.2.2 _ ?_
  rw [Nat.zero_add]
  rcases tg_set_at h1 with ⟨rfl, rfl⟩ | ⟨hne1, h1⟩
  · exact absurd rfl h2
  rcases tg_set_at h1 with ⟨rfl, rfl⟩ | ⟨hne, h3⟩
  · exact List.mem_cons_self
  · obtain ⟨h4, h5⟩ := tg_cl_at h3 h2
    refine List.mem_cons_of_mem _ (List.mem_filter.mpr ⟨(tg_prs_mem ad lv 0 _).mpr ⟨j, u, h4, h2, by simp⟩, ?_⟩)
    have b : (j + 1 == i && u.category == 2) = false := by
      by_cases e : j + 1 = i
      · have z : ¬ u.category = 2 := fun z => h5 ⟨e, z⟩
        simp [z]
      · simp [e]
    simp only [tg_v_cat, b]
    simp [hne, hne1]
/-- a method's locals at its start -/
def tg_la : List Value → List Value
  | [] => []
  | .long x :: vs => .long x :: .null :: tg_la vs
  | .double x :: vs => .double x :: .null :: tg_la vs
  | v :: vs => v :: tg_la vs
def tg_lv (n : Nat) (vs : List Value) : List Value := tg_la vs ++ List.replicate (n - (tg_la vs).length) .null
theorem tg_la_args (ad : Nat → Nat) : ∀ (vs : List Value) (k : Nat) (n : Nat) (q : Nat × Value), q ∈ tg_prs ad k (tg_la vs ++ List.replicate n .null) → q ∈ lv_args k (vs.map (tg_v ad))
  | [], k, n, q, h => by
    obtain ⟨i, v, h1, h2, -⟩ := (tg_prs_mem ad _ k q).mp h
    simp only [tg_la, List.nil_append, List.getElem?_replicate] at h1
    split at h1
    · cases h1; exact absurd rfl h2
    · cases h1
  | v :: vs, k, n, q, h => by
    cases v <;> simp only [tg_la, List.cons_append, tg_prs, List.mem_cons, List.map_cons, tg_v, lv_args, Value.category] at h ⊢ <;> try simp only [if_true, if_neg (show ¬ (1 = 2) by decide)] at h ⊢
    all_goals first
      | exact h.elim Or.inl (fun h => Or.inr (tg_la_args ad vs _ n q h))
      | exact Or.inr (tg_la_args ad vs _ n q h)
theorem tg_L_entry (ad : Nat → Nat) (vs : List Value) {n : Nat} (h : (lg_sl (vs.map (tg_v ad))).length ≤ n) : tg_L ad ((lg_sl (vs.map (tg_v ad)) ++ List.replicate (n - (lg_sl (vs.map (tg_v ad))).length) Slot.unset).toArray) n (tg_lv n vs) := by
  have hl := lv_entry (vs.map (tg_v ad)) (n := n) h
  exact ⟨hl.1, hl.2.1, fun q hq => hl.2.2 q (tg_la_args ad vs 0 _ q hq)⟩
theorem tg_sl_len (ad : Nat → Nat) : ∀ vs : List Value, (lg_sl (vs.map (tg_v ad))).length = (tg_la vs).length
  | [] => rfl
  | v :: vs => by
    have ih := tg_sl_len ad vs
    have e : lg_sl ((v :: vs).map (tg_v ad)) = (if (tg_v ad v).category = 2 then [Slot.val (tg_v ad v), Slot.second] else [Slot.val (tg_v ad v)]) ++ lg_sl (vs.map (tg_v ad)) := by simp [lg_sl]
    rw [e, List.length_append, ih, tg_v_cat]
    cases v <;> simp [tg_la, Value.category] <;> omega
end
section
/-! what stands outside of the worlds and is only read: places from 1000 on -/
def tg_on (i : Nat) : String := match i with
  | 0 => "ORDERS_OF_1"
  | 1 => "ORDERS_OF_2"
  | 2 => "ORDERS_OF_3"
  | _ => "ORDERS_OF_4"
def tg_ol (i : Nat) : List Int32 := match i with
  | 0 => [0]
  | 1 => [1, 10]
  | 2 => [12, 21, 102, 120, 201, 210]
  | _ => [123, 132, 213, 231, 312, 321, 1023, 1032, 1203, 1230, 1302, 1320, 2013, 2031, 2103, 2130, 2301, 2310, 3012, 3021, 3102, 3120, 3201, 3210]
def tg_sk (i : Nat) : Nat := match i with
  | 0 => 59
  | 1 => 64
  | 2 => 69
  | _ => 53
def tg_sx (i : Nat) : String := match i with
  | 0 => "table"
  | 1 => "support"
  | 2 => "row"
  | _ => ";"
def tg_sb : List (List Int32) := [[116, 97, 98, 108, 101], [115, 117, 112, 112, 111, 114, 116], [114, 111, 119], [59]]
def tg_sl : List Nat := [5, 7, 3, 1]
def tg_nest : List (String × Nat × MethodName) := [(RX8, 11, yX1_init), (RX1, 11, yX7_init), (RX8, 23, yX0_init), (RX0, 20, yX4_init), (RX8, 35, yX5_init)]
def tg_AOL (U : State) : Prop := (Cond.arrayOver (.array .long)).before #[] U = true
def tg_ZS (ad : Nat → Nat) (A : Nat → Prop) (s : State) : Prop := ∀ i, i < 4 → va_Z RX4 (tg_on i) "[I" (.ref (ad (1000 + i))) A s s.heap ∧ va_T .int (ad (1000 + i)) (tg_ol i).length (fun j => .int ((tg_ol i).getD j 0)) A s s.heap
def tg_SS (ad : Nat → Nat) (A : Nat → Prop) (s : State) : Prop := vk_S 4 tg_sl tg_sb (fun i => ad (1010 + i)) (fun i => ad (1020 + i)) A s s.heap ∧ ∀ i, i < 4 → vk_R RX1 (tg_sk i) (tg_sx i) (ad (1010 + i)) s
def tg_JS (ad : Nat → Nat) (A : Nat → Prop) (s : State) : Prop := va_Z "java/lang/String" "COMPACT_STRINGS" "Z" (.int 1) A s s.heap ∧ (va_Z "jdk/internal/util/Preconditions" "SIOOBE_FORMATTER" "Ljava/util/function/BiFunction;" .null A s s.heap ∨ va_Z "jdk/internal/util/Preconditions" "SIOOBE_FORMATTER" "Ljava/util/function/BiFunction;" (.ref (ad 1030)) A s s.heap)
/-- the launch, and the law's script: its length and what it holds -/
abbrev tg_Ln : Type := Launch × Nat × (Nat → Int32)
def tg_XS (L : tg_Ln) (ad : Nat → Nat) (A : Nat → Prop) (s : State) : Prop := va_X (ad 1040) L.2.1 L.2.2 s s.heap ∧ ad 1040 < s.heap.size ∧ ¬ A (ad 1040)
def tg_E (L : tg_Ln) (ad : Nat → Nat) (A : Nat → Prop) (s : State) : Prop := tg_XS L ad A s ∧ tg_ZS ad A s ∧ tg_SS ad A s ∧ tg_JS ad A s ∧ (∀ q ∈ tg_nest, va_Nw (.methodLinkNest q.1 q.2.1 q.2.2 RX8) s) ∧ va_AO "CubeClosures$Table" s
theorem tg_E.go {L : tg_Ln} {ad ad' : Nat → Nat} {A B : Nat → Prop} {s U : State} (h : tg_E L ad A s) (hW : s.WarmedH U.vm) (hH : ∀ q : Nat, q < s.heap.size → ¬ A q → U.heap[q]? = s.heap[q]?) (hz : s.heap.size ≤ U.heap.size) (hAB : ∀ q, B q → A q) (had : ∀ k, 1000 ≤ k → ad' k = ad k) : tg_E L ad' B U := by
  obtain ⟨⟨h8, h9, h10⟩, h1, ⟨h2, h3⟩, ⟨h4, h5⟩, h6, h7⟩ := h
  have hv := hW.alike
  refine ⟨⟨?_, ?_, ?_⟩, fun i hi => ?_, ⟨?_, fun i hi => ?_⟩, ⟨?_, ?_⟩, fun q hq => ?_, ?_⟩
  · rw [had _ (by omega)]
    exact (h8.moved hv).kept (hH _ h9 h10)
  · rw [had _ (by omega)]
    omega
  · rw [had _ (by omega)]
    exact fun q => h10 (hAB _ q)
  · rw [had _ (by omega)]
    exact ⟨(((h1 i hi).1.moved hv).kept hH).narrow hAB, (((h1 i hi).2.moved hv).kept hH).narrow hAB⟩
  · have e1 : (fun i => ad' (1010 + i)) = fun i => ad (1010 + i) := funext fun i => had _ (by omega)
    have e2 : (fun i => ad' (1020 + i)) = fun i => ad (1020 + i) := funext fun i => had _ (by omega)
    rw [e1, e2]
    exact ((h2.moved hv).kept hH).narrow hAB
  · rw [had _ (by omega)]
    exact (h3 i hi).warm hW
  · exact ((h4.moved hv).kept hH).narrow hAB
  · rw [had _ (by omega)]
    exact h5.elim (fun h => Or.inl (((h.moved hv).kept hH).narrow hAB)) (fun h => Or.inr (((h.moved hv).kept hH).narrow hAB))
  · exact (h6 q hq).warmM hW
  · exact h7.moved hv
theorem tg_E.blind {L : tg_Ln} {ad : Nat → Nat} {A : Nat → Prop} {U U' : State} (h : tg_E L ad A U) (hv : U'.vm = U.vm) (hh : U'.heap = U.heap) : tg_E L ad A U' := by
  obtain ⟨⟨h8, h9, h10⟩, h1, ⟨h2, h3⟩, ⟨h4, h5⟩, h6, h7⟩ := h
  have al : U.vm.Alike U'.vm := by rw [hv]; exact Vm.Alike.refl _
  refine ⟨⟨by rw [hh]; exact h8.moved al, by rw [hh]; exact h9, h10⟩, fun i hi => ?_, ⟨?_, fun i hi => ?_⟩, ⟨?_, ?_⟩, fun q hq => ?_, ?_⟩
  · rw [hh]; exact ⟨(h1 i hi).1.moved al, (h1 i hi).2.moved al⟩
  · rw [hh]; exact h2.moved al
  · exact (h3 i hi).same hv
  · rw [hh]; exact h4.moved al
  · rw [hh]; exact h5.elim (fun h => Or.inl (h.moved al)) (fun h => Or.inr (h.moved al))
  · exact (h6 q hq).same rfl hv.symm
  · exact h7.moved al
/-- what is known of the machine within a method -/
def tg_C (M : tg_M) (p : Program) (s : State) (m : MethodId) (args : Array Value) (meth : Method) (c : Code) : Prop :=
  p.tables.exec = Jvm.exec ∧ c.code = M.2.1 ∧ meth.sig.returnType = M.2.2.2.1 ∧ c.maxLocals = M.2.2.1 ∧ s.vm.findClass M.1.cls = some m.cls ∧ (∀ w ∈ tg_T, w.before args s = true) ∧ meth.locks = false ∧ meth.name = M.1.name
def tg_tys (cA : Nat → ClassId) : List (ClassId × FieldType) := [(cA 0, .int), (cA 1, .boolean), (cA 2, .char), (cA 3, .long), (cA 4, .object "CubeClosures$Table"), (cA 5, .array .long)]
/-- THE JUDGEMENT: from place pc of the method M, with these locals, this stack, this world, kc cells and ks slots made so far, the method comes to its end, with an answer and a world as K says; n0: the places whose addresses stay (1000: all) -/
def tg_G (l : tg_Ln) (M : tg_M) (n0 : Nat) (K : Option Value → List va_E → Prop) (kc ks pc : Nat) (lv st : List Value) (w : List va_E) : Prop :=
  ∀ (p : Program) (e : Env) (s : State) (m : MethodId) (args : Array Value) (below : List Frame) (meth : Method) (c : Code) (D : va_G) (cA : Nat → ClassId) (A : Nat → Prop) (ad : Nat → Nat) (H : Heap) (locs : List Loc) (ls : Array Slot) (Qc : Array Value → State → Outcome → State → Prop),
    tg_C M p s m args meth c → kc ≤ M.2.2.2.2.cells → ks ≤ M.2.2.2.2.slots → va_K D vwCl (tg_tys cA) s → (∀ q : Nat, s.heap.size ≤ q → A q) → tg_E l ad A s →
    (∀ (r : Option Value) (w' : List va_E) (ad' : Nat → Nat) (t : State), K r w' → (∀ k, k < n0 ∨ 1000 ≤ k → ad' k = ad k) → va_P D vwCl (tg_w cA ad' 0 w') t.heap → va_D A (tg_w cA ad' 0 w') → s.WarmedH t.vm → va_F A s t → Qc args s (.returned (r.map (tg_v ad'))) t) →
    va_P D vwCl (tg_w cA ad 0 w) H → va_D A (tg_w cA ad 0 w) → va_S A s.heap H locs → tg_L ad ls M.2.2.1 lv →
    W p l.1 e M.2.2.2.2 s m args below meth c H locs kc ks (MQ below Qc args s M.2.2.2.2.cells M.2.2.2.2.slots A) (F0 m pc ls (st.map (tg_v ad)))
theorem tg_G.mono {l : tg_Ln} {M : tg_M} {n0 : Nat} {K K' : Option Value → List va_E → Prop} {kc ks pc : Nat} {lv st : List Value} {w : List va_E} (h : tg_G l M n0 K kc ks pc lv st w) (hK : ∀ r w', K r w' → K' r w') : tg_G l M n0 K' kc ks pc lv st w := by
  intro p e s m args below meth c D cA A ad H locs ls Qc h1 a1 a2 h2 h3 h4 h5
  exact h p e s m args below meth c D cA A ad H locs ls Qc h1 a1 a2 h2 h3 h4 (fun r w' ad' t k => h5 r w' ad' t (hK r w' k))
/-- a method's contract: the judgement at its start -/
def tg_Ct (l : tg_Ln) (M : tg_M) (n0 : Nat) (args : List Value) (w : List va_E) (K : Option Value → List va_E → Prop) : Prop := tg_G l M n0 K 0 0 0 (tg_lv M.2.2.1 args) [] w
abbrev tg_Pc (l : tg_Ln) (D : va_G) (cA : Nat → ClassId) (ad : Nat → Nat) (sz : Nat) (args : List Value) (w : List va_E) : Array Value → State → Prop := va_Pc (args.map (tg_v ad)) (fun U => U.heap.size = sz ∧ va_P D vwCl (tg_w cA ad 0 w) U.heap ∧ va_K D vwCl (tg_tys cA) U ∧ va_D (fun _ => True) (tg_w cA ad 0 w) ∧ tg_E l ad (va_A (tg_w cA ad 0 w) sz) U)
abbrev tg_Qc (D : va_G) (cA : Nat → ClassId) (ad : Nat → Nat) (sz n0 : Nat) (w : List va_E) (K : Option Value → List va_E → Prop) : Array Value → State → Outcome → State → Prop := fun _ st oc t =>
  ∃ (r : Option Value) (w' : List va_E) (ad' : Nat → Nat), oc = .returned (r.map (tg_v ad')) ∧ K r w' ∧ (∀ k, k < n0 ∨ 1000 ≤ k → ad' k = ad k) ∧ va_P D vwCl (tg_w cA ad' 0 w') t.heap ∧ va_D (va_A (tg_w cA ad 0 w) sz) (tg_w cA ad' 0 w') ∧ va_F (va_A (tg_w cA ad 0 w) sz) st t
set_option maxHeartbeats 1000000 in
theorem tg_met {l : tg_Ln} {M : tg_M} {n0 : Nat} {args : List Value} {w : List va_E} {K : Option Value → List va_E → Prop} (hok : tg_ok M) (hla : (tg_la args).length ≤ M.2.2.1) (h : tg_Ct l M n0 args w K) (D : va_G) (cA : Nat → ClassId) (ad : Nat → Nat) (sz : Nat) :
    Met l.1 M.1 (tg_ws M) M.2.2.2.2 (tg_Pc l D cA ad sz args w) (tg_Qc D cA ad sz n0 w K) M.2.2.2.2.cells M.2.2.2.2.slots (va_A (tg_w cA ad 0 w) sz) := by
  refine Met.ofW (cc := M.2.1) (maxL := M.2.2.1) (ret := M.2.2.2.1) hok.2.2.1 rfl ?_
  intro p e s m args0 below meth c s₁ B hml hv
  obtain ⟨rfl, hsz, hP, hK, hD0, hE⟩ := hv
  have hts := atoms_spec (ws := tg_ws M) B.pre
  have hown : s.vm.findClass M.1.cls = some m.cls := findClass_of_methodNamed B.named
  subst hsz
  rw [lg_entry_eq]
  exact h p e s m _ below meth c D cA (va_A (tg_w cA ad 0 w) s.heap.size) ad s.heap [] _ _
    ⟨B.exec, B.bytes, B.returns, hml, hown, fun w hw => hts w (List.mem_cons_of_mem _ hw), B.notSynchronized, (name_of_methodNamed B.named B.method).1⟩ (Nat.zero_le _) (Nat.zero_le _)
    hK (fun q hq => Or.inr hq) hE (fun r w' ad' t k1 k2 k3 k4 k5 k6 => ⟨r, w', ad', rfl, k1, k2, k3, k4, k6⟩) hP hD0.self va_S.rf (tg_L_entry ad args (by rw [tg_sl_len]; exact hla))
end
section
/-! calls: a callee's world is a part of the caller's, its places are renamed by 'is' -/
def tg_rn (is : List Nat) (k : Nat) : Nat := is.getD k k
theorem tg_v_ref (ad : Nat → Nat) (k : Nat) : tg_v ad (.ref k) = .ref (ad k) := rfl
theorem tg_v_v (f g : Nat → Nat) (v : Value) : tg_v f (tg_v g v) = tg_v (fun k => f (g k)) v := by cases v <;> rfl
theorem tg_e_e (cA : Nat → ClassId) (f g : Nat → Nat) (c : va_E) : tg_e cA f (tg_e (fun t => t) g c) = tg_e cA (fun k => f (g k)) c := by
  rcases c with ⟨t, n, a⟩ | ⟨ci, fs⟩
  · rcases a with a | a | a | a | a <;> simp [tg_e, Function.comp_def]
  · simp [tg_e, tg_v_v]
def tg_put (g : Nat → Nat) : List va_E → List Nat → List va_E → List va_E
  | w, i :: is, c :: cs => tg_put g (w.set i (tg_e (fun t => t) g c)) is cs
  | w, _, _ => w
theorem tg_put_get (g : Nat → Nat) : ∀ (is : List Nat) (cs w : List va_E) (j : Nat) (x : va_E), (tg_put g w is cs)[j]? = some x → cs.length = is.length →
    (∃ (k : Nat) (c : va_E), is[k]? = some j ∧ cs[k]? = some c ∧ x = tg_e (fun t => t) g c) ∨ (j ∉ is ∧ w[j]? = some x)
  | [], cs, w, j, x, h, _ => by
    have h : w[j]? = some x := by cases cs <;> exact h
    exact Or.inr ⟨by simp, h⟩
  | i :: is, [], w, j, x, h, hl => by simp at hl
  | i :: is, c :: cs, w, j, x, h, hl => by
    simp only [List.length_cons, Nat.add_right_cancel_iff] at hl
    rcases tg_put_get g is cs (w.set i (tg_e (fun t => t) g c)) j x h hl with ⟨k, d, h1, h2, h3⟩ | ⟨h1, h2⟩
    · exact Or.inl ⟨k + 1, d, by simpa using h1, by simpa using h2, h3⟩
    · by_cases e : i = j
      · subst e
        have hl2 : i < w.length := by
          have := (List.getElem?_eq_some_iff.mp h2).1
          simpa using this
        rw [List.getElem?_set_self hl2] at h2
        cases h2
        exact Or.inl ⟨0, c, rfl, rfl, rfl⟩
      · rw [List.getElem?_set_ne e] at h2
        exact Or.inr ⟨by simp only [List.mem_cons, not_or]; exact ⟨fun q => e q.symm, h1⟩, h2⟩
theorem tg_put_len (g : Nat → Nat) : ∀ (is : List Nat) (cs w : List va_E), (tg_put g w is cs).length = w.length
  | [], cs, w => by cases cs <;> rfl
  | i :: is, [], w => rfl
  | i :: is, c :: cs, w => by
    show (tg_put g (w.set i _) is cs).length = w.length
    rw [tg_put_len g is cs]
    simp
/-- the callee's world as a part of the caller's -/
theorem tg_part {cA : Nat → ClassId} {ad : Nat → Nat} {w wc : List va_E} {is : List Nat} (hfr : is.map (fun i => w[i]?) = wc.map (fun c => some (tg_e (fun t => t) (tg_rn is) c))) :
    is.map (fun i => (tg_w cA ad 0 w)[i]?) = (tg_w cA (fun k => ad (tg_rn is k)) 0 wc).map some := by
  apply List.ext_getElem?
  intro k
  have h1 : (is.map (fun i => w[i]?))[k]? = (wc.map (fun c => some (tg_e (fun t => t) (tg_rn is) c)))[k]? := by rw [hfr]
  simp only [List.getElem?_map] at h1 ⊢
  rw [tg_w_get]
  cases hi : is[k]? with
  | none =>
    rw [hi] at h1
    cases hc : wc[k]? with
    | none => rfl
    | some c => rw [hc] at h1; cases h1
  | some i =>
    rw [hi] at h1
    cases hc : wc[k]? with
    | none => rw [hc] at h1; cases h1
    | some c =>
      rw [hc] at h1
      simp only [Option.map_some, Option.some.injEq] at h1
      simp only [Option.map_some, Nat.zero_add]
      rw [tg_w_at h1, tg_e_e]
      have : tg_rn is k = i := by simp [tg_rn, List.getD, hi]
      rw [this]
theorem tg_fr_len {w wc : List va_E} {is : List Nat} {g : va_E → va_E} (hfr : is.map (fun i => w[i]?) = wc.map (fun c => some (g c))) : is.length = wc.length := by
  have := congrArg List.length hfr
  simpa using this
section TGC
variable {p : Program} {l : Launch} {e : Env} {R : Room} {s : State} {m : MethodId} {args : Array Value} {below : List Frame} {meth : Method} {c : Code} {H : Heap} {locs : List Loc} {cells slots : Nat} {Q : State → Prop}
/-- behind a call that makes no cell: the caller's world, with the callee's part as it came back -/
theorem tgw_ret {D : va_G} {cA : Nat → ClassId} {A : Nat → Prop} {ad : Nat → Nat} {w wc : List va_E} {is : List Nat} {K' : Option Value → List va_E → Prop} {pc mc ms : Nat} {ls : Array Slot} {st0 rest : List Value} {a : Array Value}
    (hr : va_Run p l e R s m args below meth c H locs cells slots mc ms (F0 m pc ls st0) rest (tg_Qc D cA (fun k => ad (tg_rn is k)) H.size 1000 wc K' a) (va_A (tg_w cA (fun k => ad (tg_rn is k)) 0 wc) H.size))
    (hP : va_P D vwCl (tg_w cA ad 0 w) H) (hD : va_D A (tg_w cA ad 0 w)) (hS : va_S A s.heap H locs) (hA : ∀ q : Nat, s.heap.size ≤ q → A q)
    (hfr : is.map (fun i => w[i]?) = wc.map (fun c => some (tg_e (fun t => t) (tg_rn is) c))) (hlen : ∀ r wc', K' r wc' → wc'.length = wc.length)
    (kk : ∀ (r : Option Value) (wc' : List va_E) (H1 : Heap) (locs1 : List Loc), K' r wc' → va_P D vwCl (tg_w cA ad 0 (tg_put (tg_rn is) w is wc')) H1 → va_D A (tg_w cA ad 0 (tg_put (tg_rn is) w is wc')) → va_S A s.heap H1 locs1 → W p l e R s m args below meth c H1 locs1 (cells + mc) (slots + ms) Q (F0 m (pc + 3) ls ((r.map (tg_v (fun k => ad (tg_rn is k)))).toList ++ rest))) :
    W p l e R s m args below meth c H locs cells slots Q (F0 m pc ls st0) := by
  intro T hT X
  obtain ⟨v, st₀, t, T', L, h0, X', hL, e1, e2, ⟨r, wc', ad', hv, hK, had, hP1, hD1, hz, hk⟩, stp⟩ := hr T hT X
  have hadE : ad' = fun k => ad (tg_rn is k) := funext fun k => had k (by omega)
  subst hadE
  cases hv
  rw [h0] at hz hk
  have hpart := tg_part (cA := cA) (ad := ad) hfr
  have hF := va_free (A0 := A) hD hS hA is hpart
  have hlw := tg_fr_len hfr
  have hl1 := hlen r wc' hK
  have hP' : va_P D vwCl (tg_w cA ad 0 (tg_put (tg_rn is) w is wc')) t.heap := by
    intro j q hq
    rw [tg_w_get] at hq
    cases hx : (tg_put (tg_rn is) w is wc')[j]? with
    | none => rw [hx] at hq; cases hq
    | some x =>
      rw [hx] at hq
      simp only [Option.map_some, Option.some.injEq, Nat.zero_add] at hq
      subst hq
      rcases tg_put_get _ is wc' w j x hx (by omega) with ⟨k, d, g1, g2, g3⟩ | ⟨g1, g2⟩
      · subst g3
        rw [tg_e_e]
        have g4 := hP1 k _ (tg_w_at g2)
        have : tg_rn is k = j := by simp [tg_rn, List.getD, g1]
        rw [this] at g4
        exact g4
      · have g3 := hP j _ (tg_w_at g2)
        refine g3.kept (hk _ g3.lt (fun z => ?_))
        rcases z with ⟨k, x', z⟩ | z
        · have z1 : (is.map (fun i => (tg_w cA ad 0 w)[i]?))[k]? = some (some (ad j, x')) := by rw [hpart, List.getElem?_map, z]; rfl
          rw [List.getElem?_map] at z1
          cases hi : is[k]? with
          | none => rw [hi] at z1; cases z1
          | some i =>
            rw [hi] at z1
            have z2 := hD.1 i j _ _ (Option.some.inj z1) (tg_w_at g2) rfl
            subst z2
            exact g1 (List.mem_of_getElem? hi)
        · exact absurd g3.lt (Nat.not_lt.mpr z)
  have hD' : va_D A (tg_w cA ad 0 (tg_put (tg_rn is) w is wc')) := by
    have key : ∀ (j : Nat) (q : Nat × va_E), (tg_w cA ad 0 (tg_put (tg_rn is) w is wc'))[j]? = some q → ∃ q0, (tg_w cA ad 0 w)[j]? = some q0 ∧ q0.1 = q.1 := by
      intro j q hq
      have hj : j < w.length := by
        have := (List.getElem?_eq_some_iff.mp hq).1
        rwa [tg_w_len, tg_put_len] at this
      rw [tg_w_get] at hq
      cases hx : (tg_put (tg_rn is) w is wc')[j]? with
      | none => rw [hx] at hq; cases hq
      | some x =>
        rw [hx] at hq
        simp only [Option.map_some, Option.some.injEq] at hq
        subst hq
        exact ⟨_, tg_w_at (List.getElem?_eq_getElem hj), by simp⟩
    refine ⟨fun i j x y hi hj hxy => ?_, fun k q hk => ?_⟩
    · obtain ⟨x0, a1, a2⟩ := key i x hi
      obtain ⟨y0, b1, b2⟩ := key j y hj
      exact hD.1 i j x0 y0 a1 b1 (a2.trans (hxy.trans b2.symm))
    · obtain ⟨q0, a1, a2⟩ := key k q hk
      rw [← a2]
      exact hD.2 k q0 a1
  obtain ⟨t2, a1, b1⟩ := kk r wc' T'.heap (locs ++ L) hK (by rw [e1]; exact hP') hD'
    ⟨Nat.le_trans hS.1 (by rw [e1]; exact hz), fun q h1 h2 => by rw [e1, hk q (Nat.lt_of_lt_of_le h1 hS.1) (fun z => h2 (hF q z))]; exact hS.2.1 q h1 h2, fun q hq => by
      rcases List.mem_append.mp hq with h | h
      · exact hS.2.2 q h
      · exact hF _ (hL q h)⟩ T' rfl X'
  exact ⟨t2, stp t2 a1, b1⟩
end TGC
/-- what a call's place says: a virtual one, of a method whose class is its receiver's -/
def tg_VS (M : tg_M) (pc : Nat) (M' : tg_M) (n : Nat) : Prop := tg_ok M' ∧ (∃ idx, decode M.2.1 pc = .ok (.invokevirtual idx, 3) ∧ Cond.methodLink M.1.cls idx M'.1 ∈ tg_T) ∧ Cond.instanceMethod M'.1 ∈ tg_T ∧ Cond.selects M'.1.cls M'.1 M'.1 ∈ tg_T ∧ (parseMethodDescriptor M'.1.desc).map (fun d => d.parameters.length) = some n ∧ M'.2.2.2.2.cells = 0 ∧ M'.2.2.2.2.slots = 0 ∧ M'.2.2.2.2.frames + 1 ≤ M.2.2.2.2.frames ∧ 8 + (M'.2.2.1 + 11) + M'.2.2.2.2.locals ≤ M.2.2.2.2.locals
def tg_SS0 (M : tg_M) (pc : Nat) (M' : tg_M) (n : Nat) : Prop := tg_ok M' ∧ (∃ idx, decode M.2.1 pc = .ok (.invokestatic idx, 3) ∧ Cond.methodLink M.1.cls idx M'.1 ∈ tg_T) ∧ Cond.static M'.1 ∈ tg_T ∧ (parseMethodDescriptor M'.1.desc).map (fun d => d.parameters.length) = some n ∧ M'.2.2.2.2.cells = 0 ∧ M'.2.2.2.2.slots = 0 ∧ M'.2.2.2.2.frames + 1 ≤ M.2.2.2.2.frames ∧ 8 + (M'.2.2.1 + 11) + M'.2.2.2.2.locals ≤ M.2.2.2.2.locals
theorem tg_blind (l : tg_Ln) (D : va_G) (cA : Nat → ClassId) (ad : Nat → Nat) (sz : Nat) (args : List Value) (w : List va_E) : FrameBlind (tg_Pc l D cA ad sz args w) := by
  intro a U g mk q
  obtain ⟨q0, q1, q2, q3, q4, q5⟩ := q
  exact ⟨q0, q1, q2, va_K.moved (u := U) (U := U.calling g mk a) (Vm.Alike.refl U.vm) q3, q4, q5.blind rfl rfl⟩
set_option maxHeartbeats 1000000 in
theorem tg_callV {l : tg_Ln} {M M' : tg_M} {n0 n pc kc ks : Nat} {K K' : Option Value → List va_E → Prop} {lv : List Value} {w : List va_E} (hs : tg_VS M pc M' n) (is : List Nat) {b ci : Nat} {As rest fs : List Value} {wc : List va_E} (hc : tg_Ct l M' 1000 (.ref b :: As) wc K')
    (hfr : is.map (fun i => w[i]?) = wc.map (fun c => some (tg_e (fun t => t) (tg_rn is) c))) (hnd : va_nd is = true) (his : is.length ≤ 1000) (hrb : wc[b]? = some (.inr (ci, fs))) (hcl : (vwCl[ci]?).map (fun q => q.1) = some M'.1.cls) (hn : As.length = n) (hla : (tg_la (.ref b :: As)).length ≤ M'.2.2.1) (hW : (rest.map fun v => v.category).sum ≤ 8)
    (hlen : ∀ r wc', K' r wc' → wc'.length = wc.length)
    (kk : ∀ r wc', K' r wc' → tg_G l M n0 K kc ks (pc + 3) lv ((r.map (tg_v (tg_rn is))).toList ++ rest) (tg_put (tg_rn is) w is wc')) :
    tg_G l M n0 K kc ks pc lv ((As.map (tg_v (tg_rn is))).reverse ++ .ref (tg_rn is b) :: rest) w := by
  obtain ⟨hok, ⟨idx, hdg, hlk⟩, hin, hse, hpd, hc0, hs0, hfrm, hloc⟩ := hs
  intro p e s m args below meth c D cA A ad H locs ls Qc C hkc hks hK hA hE hQ hP hD hS hL
  obtain ⟨hx, hb, hr, hml, hown, hts, hlk2, hnm⟩ := id C
  have hpart := tg_part (cA := cA) (ad := ad) hfr
  have hPc : va_P D vwCl (tg_w cA (fun k => ad (tg_rn is k)) 0 wc) H := hP.sub is (by rw [show is.filterMap (fun i => (tg_w cA ad 0 w)[i]?) = (is.map (fun i => (tg_w cA ad 0 w)[i]?)).filterMap id by simp [List.filterMap_map, Function.comp_def], hpart]; simp [List.filterMap_map, Function.comp_def])
  have hDc := hD.sub is hnd hpart
  have hF := va_free (A0 := A) hD hS hA is hpart
  obtain ⟨qc, hq1, hq2⟩ : ∃ qc, vwCl[ci]? = some qc ∧ qc.1 = M'.1.cls := by
    cases hh : vwCl[ci]? with
    | none => rw [hh] at hcl; cases hcl
    | some qc => rw [hh] at hcl; exact ⟨qc, rfl, Option.some.inj hcl⟩
  have hrun := va_runV (p := p) (l := l.1) (e := e) (R := M.2.2.2.2) (below := below) (meth := meth) (locs := locs) (cells := kc) (slots := ks) (As := As.map (tg_v (fun k => ad (tg_rn is k)))) (rest := rest.map (tg_v ad)) (g := F0 m pc ls (((As.map (tg_v (tg_rn is))).reverse ++ .ref (tg_rn is b) :: rest).map (tg_v ad))) (b := ad (tg_rn is b)) (Ts := tg_T) (n := n) ⟨hx, hb, hml, hown, hts⟩
    (tg_met hok hla hc D cA (fun k => ad (tg_rn is k)) H.size)
    (cwV (C := M'.1.cls) n hts (fun z hz => by
      rcases List.mem_append.mp hz with hz | hz
      · simp only [List.mem_cons, List.not_mem_nil, or_false] at hz
        rcases hz with rfl | rfl | rfl | rfl
        · exact tg_goodT _ hlk
        · exact tg_goodT _ hin
        · exact tg_goodT _ hse
        · exact tg_goodT _ hok.2.1
      · exact tg_goodM hok z hz) rfl rfl rfl ⟨rfl, hok.2.2.2.1, hok.2.2.2.2, hpd⟩ ⟨hfrm, hloc⟩)
    ⟨tg_blind _ _ _ _ _ _ _, by rw [← hq2]; exact va_recv hK hPc (q0 := b) hq1 (tg_w_at hrb), fun U hU hW => ⟨by simp [tg_v_ref], by rw [hU], by rw [hU]; exact hPc, va_K.moved hW.alike hK, hDc.weaken (fun _ _ _ _ => trivial), hE.go hW (fun q h1 h2 => by rw [hU]; exact hS.2.1 q h1 h2) (by rw [hU]; exact hS.1) hF (fun k hk => by
      have : tg_rn is k = k := by simp [tg_rn, List.getD, List.getElem?_eq_none (show is.length ≤ k by omega)]
      rw [this])⟩⟩
    rfl (by simp [hn]) hL.1 (by simp [tg_v_v, tg_v_ref, List.map_reverse, Function.comp_def]) (lv_room (by simpa [tg_v_cat, Function.comp_def] using hW)) hdg ⟨by omega, by omega⟩
  refine tgw_ret hrun hP hD hS hA hfr hlen (fun r wc' H1 locs1 hK' hP1 hD1 hS1 => ?_)
  have key := kk r wc' hK' p e s m args below meth c D cA A ad H1 locs1 ls Qc C hkc hks hK hA hE hQ hP1 hD1 hS1 hL
  rw [hc0, hs0]
  have e1 : (((r.map (tg_v (tg_rn is))).toList ++ rest).map (tg_v ad)) = (r.map (tg_v (fun k => ad (tg_rn is k)))).toList ++ rest.map (tg_v ad) := by
    cases r <;> simp [tg_v_v]
  rw [e1] at key
  exact key
set_option maxHeartbeats 1000000 in
theorem tg_callS {l : tg_Ln} {M M' : tg_M} {n0 n pc kc ks : Nat} {K K' : Option Value → List va_E → Prop} {lv : List Value} {w : List va_E} (hs : tg_SS0 M pc M' n) (is : List Nat) {As rest : List Value} {wc : List va_E} (hc : tg_Ct l M' 1000 As wc K')
    (hfr : is.map (fun i => w[i]?) = wc.map (fun c => some (tg_e (fun t => t) (tg_rn is) c))) (hnd : va_nd is = true) (his : is.length ≤ 1000) (hn : As.length = n) (hla : (tg_la As).length ≤ M'.2.2.1) (hW : (rest.map fun v => v.category).sum ≤ 8)
    (hlen : ∀ r wc', K' r wc' → wc'.length = wc.length)
    (kk : ∀ r wc', K' r wc' → tg_G l M n0 K kc ks (pc + 3) lv ((r.map (tg_v (tg_rn is))).toList ++ rest) (tg_put (tg_rn is) w is wc')) :
    tg_G l M n0 K kc ks pc lv ((As.map (tg_v (tg_rn is))).reverse ++ rest) w := by
  obtain ⟨hok, ⟨idx, hdg, hlk⟩, hst, hpd, hc0, hs0, hfrm, hloc⟩ := hs
  intro p e s m args below meth c D cA A ad H locs ls Qc C hkc hks hK hA hE hQ hP hD hS hL
  obtain ⟨hx, hb, hr, hml, hown, hts, hlk2, hnm⟩ := id C
  have hpart := tg_part (cA := cA) (ad := ad) hfr
  have hPc : va_P D vwCl (tg_w cA (fun k => ad (tg_rn is k)) 0 wc) H := hP.sub is (by rw [show is.filterMap (fun i => (tg_w cA ad 0 w)[i]?) = (is.map (fun i => (tg_w cA ad 0 w)[i]?)).filterMap id by simp [List.filterMap_map, Function.comp_def], hpart]; simp [List.filterMap_map, Function.comp_def])
  have hDc := hD.sub is hnd hpart
  have hF := va_free (A0 := A) hD hS hA is hpart
  have hrun := va_runS (p := p) (l := l.1) (e := e) (R := M.2.2.2.2) (below := below) (meth := meth) (locs := locs) (cells := kc) (slots := ks) (As := As.map (tg_v (fun k => ad (tg_rn is k)))) (rest := rest.map (tg_v ad)) (g := F0 m pc ls (((As.map (tg_v (tg_rn is))).reverse ++ rest).map (tg_v ad))) (Ts := tg_T) (n := n) ⟨hx, hb, hml, hown, hts⟩
    (tg_met hok hla hc D cA (fun k => ad (tg_rn is k)) H.size)
    (va_cwS n hts (fun z hz => by
      rcases List.mem_append.mp hz with hz | hz
      · simp only [List.mem_cons, List.not_mem_nil, or_false] at hz
        rcases hz with rfl | rfl | rfl
        · exact tg_goodT _ hlk
        · exact tg_goodT _ hst
        · exact tg_goodT _ hok.2.1
      · exact tg_goodM hok z hz) rfl rfl rfl ⟨hok.2.2.2.1, hok.2.2.2.2, hpd⟩ ⟨hfrm, hloc⟩)
    ⟨tg_blind _ _ _ _ _ _ _, fun U hU hW => ⟨rfl, by rw [hU], by rw [hU]; exact hPc, va_K.moved hW.alike hK, hDc.weaken (fun _ _ _ _ => trivial), hE.go hW (fun q h1 h2 => by rw [hU]; exact hS.2.1 q h1 h2) (by rw [hU]; exact hS.1) hF (fun k hk => by
      have : tg_rn is k = k := by simp [tg_rn, List.getD, List.getElem?_eq_none (show is.length ≤ k by omega)]
      rw [this])⟩⟩
    rfl (by simp [hn]) hL.1 (by simp [tg_v_v, tg_v_ref, List.map_reverse, Function.comp_def]) (lv_room (by simpa [tg_v_cat, Function.comp_def] using hW)) hdg ⟨by omega, by omega⟩
  refine tgw_ret hrun hP hD hS hA hfr hlen (fun r wc' H1 locs1 hK' hP1 hD1 hS1 => ?_)
  have key := kk r wc' hK' p e s m args below meth c D cA A ad H1 locs1 ls Qc C hkc hks hK hA hE hQ hP1 hD1 hS1 hL
  rw [hc0, hs0]
  have e1 : (((r.map (tg_v (tg_rn is))).toList ++ rest).map (tg_v ad)) = (r.map (tg_v (fun k => ad (tg_rn is k)))).toList ++ rest.map (tg_v ad) := by
    cases r <;> simp [tg_v_v]
  rw [e1] at key
  exact key
end
section
/-! INSTRUCTIONS as transformers of what is to hold behind them; 's_..': each is sound where the method's bytes have it -/
abbrev tg_K : Type := List Value → List Value → List va_E → Prop
def tg_Snd (M : tg_M) (pc : Nat) (T : tg_K → tg_K) (pc' : Nat) : Prop := ∀ (l : tg_Ln) (n0 : Nat) (K : Option Value → List va_E → Prop) (kc ks : Nat) (k : tg_K), (∀ lv st w, k lv st w → tg_G l M n0 K kc ks pc' lv st w) → ∀ lv st w, T k lv st w → tg_G l M n0 K kc ks pc lv st w
theorem tg_seq {M : tg_M} {a b c : Nat} {T U : tg_K → tg_K} (h1 : tg_Snd M a T b) (h2 : tg_Snd M b U c) : tg_Snd M a (fun k => T (U k)) c := fun l n0 K kc ks k hk lv st w h => h1 l n0 K kc ks (U k) (fun lv st w h => h2 l n0 K kc ks k hk lv st w h) lv st w h
theorem tg_go {M : tg_M} {a b : Nat} {T : tg_K → tg_K} (h : tg_Snd M a T b) {l : tg_Ln} {n0 : Nat} {K : Option Value → List va_E → Prop} {kc ks : Nat} {lv st : List Value} {w : List va_E} (hk : T (fun lv st w => tg_G l M n0 K kc ks b lv st w) lv st w) : tg_G l M n0 K kc ks a lv st w := h l n0 K kc ks _ (fun _ _ _ h => h) lv st w hk
theorem tg_pure {M : tg_M} {pc pc' : Nat} {T : tg_K → tg_K} (h : ∀ (k : tg_K) (lv st : List Value) (w : List va_E), T k lv st w → ∃ st' : List Value, k lv st' w ∧ ∀ (p : Program) (l : Launch) (e : Env) (R : Room) (s : State) (m : MethodId) (args : Array Value) (below : List Frame) (meth : Method) (c : Code) (H : Heap) (locs : List Loc) (cells slots : Nat) (Q : State → Prop) (ls : Array Slot) (ad : Nat → Nat), p.tables.exec = Jvm.exec → c.code = M.2.1 → s.vm.findClass M.1.cls = some m.cls → (∀ w ∈ tg_T, w.before args s = true) → W p l e R s m args below meth c H locs cells slots Q (F0 m pc' ls (st'.map (tg_v ad))) → W p l e R s m args below meth c H locs cells slots Q (F0 m pc ls (st.map (tg_v ad)))) : tg_Snd M pc T pc' := by
  intro l n0 K kc ks k hk lv st w ht
  obtain ⟨st', h1, h2⟩ := h k lv st w ht
  intro p e s m args below meth c D cA A ad H locs ls Qc C a1 a2 hK hA hE hQ hP hD hS hL
  exact h2 p l.1 e _ s m args below meth c H locs kc ks _ ls ad C.1 C.2.1 C.2.2.2.2.1 C.2.2.2.2.2.1 (hk _ _ _ h1 p e s m args below meth c D cA A ad H locs ls Qc C a1 a2 hK hA hE hQ hP hD hS hL)
def ti_push (v : Value) : tg_K → tg_K := fun k lv st w => k lv (v :: st) w
theorem si_iconst {M : tg_M} {pc : Nat} {n : Int} {v : Int32} (hd : decode M.2.1 pc = .ok (.iconst n, 1)) (hv : Int32.ofInt n = v) : tg_Snd M pc (ti_push (.int v)) (pc + 1) := tg_pure fun k lv st w h => ⟨_, h, fun p l e R s m args below meth c H locs cells slots Q ls ad hx hb ho ht kk => lv_iconst hx hb hd hv kk⟩
theorem si_bipush {M : tg_M} {pc : Nat} {n : Int} {v : Int32} (hd : decode M.2.1 pc = .ok (.bipush n, 2)) (hv : (Int8.ofInt n).toInt32 = v) : tg_Snd M pc (ti_push (.int v)) (pc + 2) := tg_pure fun k lv st w h => ⟨_, h, fun p l e R s m args below meth c H locs cells slots Q ls ad hx hb ho ht kk => lv_bipush hx hb hd hv kk⟩
theorem si_sipush {M : tg_M} {pc : Nat} {n : Int} {v : Int32} (hd : decode M.2.1 pc = .ok (.sipush n, 3)) (hv : (Int16.ofInt n).toInt32 = v) : tg_Snd M pc (ti_push (.int v)) (pc + 3) := tg_pure fun k lv st w h => ⟨_, h, fun p l e R s m args below meth c H locs cells slots Q ls ad hx hb ho ht kk => lv_sipush hx hb hd hv kk⟩
theorem si_lconst {M : tg_M} {pc : Nat} {n : Fin 2} {v : Int64} (hd : decode M.2.1 pc = .ok (.lconst n, 1)) (hv : Int64.ofNat (n : Nat) = v) : tg_Snd M pc (ti_push (.long v)) (pc + 1) := tg_pure fun k lv st w h => ⟨_, h, fun p l e R s m args below meth c H locs cells slots Q ls ad hx hb ho ht kk => lv_lconst hx hb hd hv kk⟩
theorem si_ldc {M : tg_M} {pc i : Nat} {v : Int32} (hd : decode M.2.1 pc = .ok (.ldc i, 2)) (hm : Cond.constant M.1.cls i v ∈ tg_T) : tg_Snd M pc (ti_push (.int v)) (pc + 2) := tg_pure fun k lv st w h => ⟨_, h, fun p l e R s m args below meth c H locs cells slots Q ls ad hx hb ho ht kk => lv_ldc hx hb ho (ht _ hm) hd kk⟩
theorem si_ldc2 {M : tg_M} {pc i : Nat} {v : Int64} (hd : decode M.2.1 pc = .ok (.ldc2_w i, 3)) (hm : Cond.constantLong M.1.cls i v ∈ tg_T) : tg_Snd M pc (ti_push (.long v)) (pc + 3) := tg_pure fun k lv st w h => ⟨_, h, fun p l e R s m args below meth c H locs cells slots Q ls ad hx hb ho ht kk => lv_ldc2 hx hb ho (ht _ hm) hd kk⟩
def tg_rem (x y : Int32) : Int32 := x - x / y * y
def ti_iadd : tg_K → tg_K := fun k lv st w => match st with
  | .int y :: .int x :: st => k lv (.int (x + y) :: st) w
  | _ => False
theorem si_iadd {M : tg_M} {pc : Nat} (hd : decode M.2.1 pc = .ok (.iadd, 1)) : tg_Snd M pc ti_iadd (pc + 1) := tg_pure fun k lv st w h => by
  unfold ti_iadd at h
  split at h
  · exact ⟨_, h, fun p l e R s m args below meth c H locs cells slots Q ls ad hx hb ho ht kk => lv_iadd hx hb hd kk⟩
  · exact h.elim
def ti_isub : tg_K → tg_K := fun k lv st w => match st with
  | .int y :: .int x :: st => k lv (.int (x - y) :: st) w
  | _ => False
theorem si_isub {M : tg_M} {pc : Nat} (hd : decode M.2.1 pc = .ok (.isub, 1)) : tg_Snd M pc ti_isub (pc + 1) := tg_pure fun k lv st w h => by
  unfold ti_isub at h
  split at h
  · exact ⟨_, h, fun p l e R s m args below meth c H locs cells slots Q ls ad hx hb ho ht kk => lv_isub hx hb hd kk⟩
  · exact h.elim
def ti_imul : tg_K → tg_K := fun k lv st w => match st with
  | .int y :: .int x :: st => k lv (.int (x * y) :: st) w
  | _ => False
theorem si_imul {M : tg_M} {pc : Nat} (hd : decode M.2.1 pc = .ok (.imul, 1)) : tg_Snd M pc ti_imul (pc + 1) := tg_pure fun k lv st w h => by
  unfold ti_imul at h
  split at h
  · exact ⟨_, h, fun p l e R s m args below meth c H locs cells slots Q ls ad hx hb ho ht kk => lv_imul hx hb hd kk⟩
  · exact h.elim
def ti_iand : tg_K → tg_K := fun k lv st w => match st with
  | .int y :: .int x :: st => k lv (.int (x &&& y) :: st) w
  | _ => False
theorem si_iand {M : tg_M} {pc : Nat} (hd : decode M.2.1 pc = .ok (.iand, 1)) : tg_Snd M pc ti_iand (pc + 1) := tg_pure fun k lv st w h => by
  unfold ti_iand at h
  split at h
  · exact ⟨_, h, fun p l e R s m args below meth c H locs cells slots Q ls ad hx hb ho ht kk => lv_iand hx hb hd kk⟩
  · exact h.elim
def ti_ior : tg_K → tg_K := fun k lv st w => match st with
  | .int y :: .int x :: st => k lv (.int (x ||| y) :: st) w
  | _ => False
theorem si_ior {M : tg_M} {pc : Nat} (hd : decode M.2.1 pc = .ok (.ior, 1)) : tg_Snd M pc ti_ior (pc + 1) := tg_pure fun k lv st w h => by
  unfold ti_ior at h
  split at h
  · exact ⟨_, h, fun p l e R s m args below meth c H locs cells slots Q ls ad hx hb ho ht kk => lv_ior hx hb hd kk⟩
  · exact h.elim
def ti_ixor : tg_K → tg_K := fun k lv st w => match st with
  | .int y :: .int x :: st => k lv (.int (x ^^^ y) :: st) w
  | _ => False
theorem si_ixor {M : tg_M} {pc : Nat} (hd : decode M.2.1 pc = .ok (.ixor, 1)) : tg_Snd M pc ti_ixor (pc + 1) := tg_pure fun k lv st w h => by
  unfold ti_ixor at h
  split at h
  · exact ⟨_, h, fun p l e R s m args below meth c H locs cells slots Q ls ad hx hb ho ht kk => lv_ixor hx hb hd kk⟩
  · exact h.elim
def ti_ishl : tg_K → tg_K := fun k lv st w => match st with
  | .int y :: .int x :: st => k lv (.int (x <<< (y &&& 31)) :: st) w
  | _ => False
theorem si_ishl {M : tg_M} {pc : Nat} (hd : decode M.2.1 pc = .ok (.ishl, 1)) : tg_Snd M pc ti_ishl (pc + 1) := tg_pure fun k lv st w h => by
  unfold ti_ishl at h
  split at h
  · exact ⟨_, h, fun p l e R s m args below meth c H locs cells slots Q ls ad hx hb ho ht kk => lv_ishl hx hb hd kk⟩
  · exact h.elim
def ti_ishr : tg_K → tg_K := fun k lv st w => match st with
  | .int y :: .int x :: st => k lv (.int (x >>> (y &&& 31)) :: st) w
  | _ => False
theorem si_ishr {M : tg_M} {pc : Nat} (hd : decode M.2.1 pc = .ok (.ishr, 1)) : tg_Snd M pc ti_ishr (pc + 1) := tg_pure fun k lv st w h => by
  unfold ti_ishr at h
  split at h
  · exact ⟨_, h, fun p l e R s m args below meth c H locs cells slots Q ls ad hx hb ho ht kk => lv_ishr hx hb hd kk⟩
  · exact h.elim
def ti_idiv : tg_K → tg_K := fun k lv st w => match st with
  | .int y :: .int x :: st => ¬ y = 0 ∧ k lv (.int (x / y) :: st) w
  | _ => False
theorem si_idiv {M : tg_M} {pc : Nat} (hd : decode M.2.1 pc = .ok (.idiv, 1)) : tg_Snd M pc ti_idiv (pc + 1) := tg_pure fun k lv st w h => by
  unfold ti_idiv at h
  split at h
  · exact ⟨_, h.2, fun p l e R s m args below meth c H locs cells slots Q ls ad hx hb ho ht kk => lv_idiv hx hb hd h.1 kk⟩
  · exact h.elim
def ti_irem : tg_K → tg_K := fun k lv st w => match st with
  | .int y :: .int x :: st => ¬ y = 0 ∧ k lv (.int (tg_rem x y) :: st) w
  | _ => False
theorem si_irem {M : tg_M} {pc : Nat} (hd : decode M.2.1 pc = .ok (.irem, 1)) : tg_Snd M pc ti_irem (pc + 1) := tg_pure fun k lv st w h => by
  unfold ti_irem at h
  split at h
  · exact ⟨_, h.2, fun p l e R s m args below meth c H locs cells slots Q ls ad hx hb ho ht kk => lv_irem hx hb hd h.1 kk⟩
  · exact h.elim
def ti_ineg : tg_K → tg_K := fun k lv st w => match st with
  | .int x :: st => k lv (.int (-x) :: st) w
  | _ => False
theorem si_ineg {M : tg_M} {pc : Nat} (hd : decode M.2.1 pc = .ok (.ineg, 1)) : tg_Snd M pc ti_ineg (pc + 1) := tg_pure fun k lv st w h => by
  unfold ti_ineg at h
  split at h
  · exact ⟨_, h, fun p l e R s m args below meth c H locs cells slots Q ls ad hx hb ho ht kk => lv_ineg hx hb hd kk⟩
  · exact h.elim
def ti_ladd : tg_K → tg_K := fun k lv st w => match st with
  | .long y :: .long x :: st => k lv (.long (x + y) :: st) w
  | _ => False
theorem si_ladd {M : tg_M} {pc : Nat} (hd : decode M.2.1 pc = .ok (.ladd, 1)) : tg_Snd M pc ti_ladd (pc + 1) := tg_pure fun k lv st w h => by
  unfold ti_ladd at h
  split at h
  · exact ⟨_, h, fun p l e R s m args below meth c H locs cells slots Q ls ad hx hb ho ht kk => lv_ladd hx hb hd kk⟩
  · exact h.elim
def ti_lsub : tg_K → tg_K := fun k lv st w => match st with
  | .long y :: .long x :: st => k lv (.long (x - y) :: st) w
  | _ => False
theorem si_lsub {M : tg_M} {pc : Nat} (hd : decode M.2.1 pc = .ok (.lsub, 1)) : tg_Snd M pc ti_lsub (pc + 1) := tg_pure fun k lv st w h => by
  unfold ti_lsub at h
  split at h
  · exact ⟨_, h, fun p l e R s m args below meth c H locs cells slots Q ls ad hx hb ho ht kk => lv_lsub hx hb hd kk⟩
  · exact h.elim
def ti_lmul : tg_K → tg_K := fun k lv st w => match st with
  | .long y :: .long x :: st => k lv (.long (x * y) :: st) w
  | _ => False
theorem si_lmul {M : tg_M} {pc : Nat} (hd : decode M.2.1 pc = .ok (.lmul, 1)) : tg_Snd M pc ti_lmul (pc + 1) := tg_pure fun k lv st w h => by
  unfold ti_lmul at h
  split at h
  · exact ⟨_, h, fun p l e R s m args below meth c H locs cells slots Q ls ad hx hb ho ht kk => lv_lmul hx hb hd kk⟩
  · exact h.elim
def ti_land : tg_K → tg_K := fun k lv st w => match st with
  | .long y :: .long x :: st => k lv (.long (x &&& y) :: st) w
  | _ => False
theorem si_land {M : tg_M} {pc : Nat} (hd : decode M.2.1 pc = .ok (.land, 1)) : tg_Snd M pc ti_land (pc + 1) := tg_pure fun k lv st w h => by
  unfold ti_land at h
  split at h
  · exact ⟨_, h, fun p l e R s m args below meth c H locs cells slots Q ls ad hx hb ho ht kk => lv_land hx hb hd kk⟩
  · exact h.elim
def ti_lor : tg_K → tg_K := fun k lv st w => match st with
  | .long y :: .long x :: st => k lv (.long (x ||| y) :: st) w
  | _ => False
theorem si_lor {M : tg_M} {pc : Nat} (hd : decode M.2.1 pc = .ok (.lor, 1)) : tg_Snd M pc ti_lor (pc + 1) := tg_pure fun k lv st w h => by
  unfold ti_lor at h
  split at h
  · exact ⟨_, h, fun p l e R s m args below meth c H locs cells slots Q ls ad hx hb ho ht kk => lv_lor hx hb hd kk⟩
  · exact h.elim
def ti_lxor : tg_K → tg_K := fun k lv st w => match st with
  | .long y :: .long x :: st => k lv (.long (x ^^^ y) :: st) w
  | _ => False
theorem si_lxor {M : tg_M} {pc : Nat} (hd : decode M.2.1 pc = .ok (.lxor, 1)) : tg_Snd M pc ti_lxor (pc + 1) := tg_pure fun k lv st w h => by
  unfold ti_lxor at h
  split at h
  · exact ⟨_, h, fun p l e R s m args below meth c H locs cells slots Q ls ad hx hb ho ht kk => lv_lxor hx hb hd kk⟩
  · exact h.elim
def ti_ldiv : tg_K → tg_K := fun k lv st w => match st with
  | .long y :: .long x :: st => ¬ y = 0 ∧ k lv (.long (x / y) :: st) w
  | _ => False
theorem si_ldiv {M : tg_M} {pc : Nat} (hd : decode M.2.1 pc = .ok (.ldiv, 1)) : tg_Snd M pc ti_ldiv (pc + 1) := tg_pure fun k lv st w h => by
  unfold ti_ldiv at h
  split at h
  · exact ⟨_, h.2, fun p l e R s m args below meth c H locs cells slots Q ls ad hx hb ho ht kk => lv_ldiv hx hb hd h.1 kk⟩
  · exact h.elim
def ti_lneg : tg_K → tg_K := fun k lv st w => match st with
  | .long x :: st => k lv (.long (-x) :: st) w
  | _ => False
theorem si_lneg {M : tg_M} {pc : Nat} (hd : decode M.2.1 pc = .ok (.lneg, 1)) : tg_Snd M pc ti_lneg (pc + 1) := tg_pure fun k lv st w h => by
  unfold ti_lneg at h
  split at h
  · exact ⟨_, h, fun p l e R s m args below meth c H locs cells slots Q ls ad hx hb ho ht kk => lv_lneg hx hb hd kk⟩
  · exact h.elim
def ti_lshl : tg_K → tg_K := fun k lv st w => match st with
  | .int y :: .long x :: st => k lv (.long (x <<< (y.toInt64 &&& 63)) :: st) w
  | _ => False
theorem si_lshl {M : tg_M} {pc : Nat} (hd : decode M.2.1 pc = .ok (.lshl, 1)) : tg_Snd M pc ti_lshl (pc + 1) := tg_pure fun k lv st w h => by
  unfold ti_lshl at h
  split at h
  · exact ⟨_, h, fun p l e R s m args below meth c H locs cells slots Q ls ad hx hb ho ht kk => lv_lshl hx hb hd rfl kk⟩
  · exact h.elim
def ti_lshr : tg_K → tg_K := fun k lv st w => match st with
  | .int y :: .long x :: st => k lv (.long (x >>> (y.toInt64 &&& 63)) :: st) w
  | _ => False
theorem si_lshr {M : tg_M} {pc : Nat} (hd : decode M.2.1 pc = .ok (.lshr, 1)) : tg_Snd M pc ti_lshr (pc + 1) := tg_pure fun k lv st w h => by
  unfold ti_lshr at h
  split at h
  · exact ⟨_, h, fun p l e R s m args below meth c H locs cells slots Q ls ad hx hb ho ht kk => lv_lshr hx hb hd rfl kk⟩
  · exact h.elim
def ti_lushr : tg_K → tg_K := fun k lv st w => match st with
  | .int y :: .long x :: st => k lv (.long ((x.toUInt64 >>> (y.toInt64.toUInt64 &&& Int64.toUInt64 63)).toInt64) :: st) w
  | _ => False
theorem si_lushr {M : tg_M} {pc : Nat} (hd : decode M.2.1 pc = .ok (.lushr, 1)) : tg_Snd M pc ti_lushr (pc + 1) := tg_pure fun k lv st w h => by
  unfold ti_lushr at h
  split at h
  · exact ⟨_, h, fun p l e R s m args below meth c H locs cells slots Q ls ad hx hb ho ht kk => lv_lushr hx hb hd rfl kk⟩
  · exact h.elim
def ti_iushr : tg_K → tg_K := fun k lv st w => match st with
  | .int y :: .int x :: st => k lv (.int ((x.toUInt32 >>> (y.toUInt32 &&& Int32.toUInt32 31)).toInt32) :: st) w
  | _ => False
theorem si_iushr {M : tg_M} {pc : Nat} (hd : decode M.2.1 pc = .ok (.iushr, 1)) : tg_Snd M pc ti_iushr (pc + 1) := tg_pure fun k lv st w h => by
  unfold ti_iushr at h
  split at h
  · exact ⟨_, h, fun p l e R s m args below meth c H locs cells slots Q ls ad hx hb ho ht kk => lv_iushr hx hb hd rfl kk⟩
  · exact h.elim
def ti_i2l : tg_K → tg_K := fun k lv st w => match st with
  | .int x :: st => k lv (.long x.toInt64 :: st) w
  | _ => False
theorem si_i2l {M : tg_M} {pc : Nat} (hd : decode M.2.1 pc = .ok (.i2l, 1)) : tg_Snd M pc ti_i2l (pc + 1) := tg_pure fun k lv st w h => by
  unfold ti_i2l at h
  split at h
  · exact ⟨_, h, fun p l e R s m args below meth c H locs cells slots Q ls ad hx hb ho ht kk => lv_i2l hx hb hd rfl kk⟩
  · exact h.elim
def ti_l2i : tg_K → tg_K := fun k lv st w => match st with
  | .long x :: st => k lv (.int x.toInt32 :: st) w
  | _ => False
theorem si_l2i {M : tg_M} {pc : Nat} (hd : decode M.2.1 pc = .ok (.l2i, 1)) : tg_Snd M pc ti_l2i (pc + 1) := tg_pure fun k lv st w h => by
  unfold ti_l2i at h
  split at h
  · exact ⟨_, h, fun p l e R s m args below meth c H locs cells slots Q ls ad hx hb ho ht kk => lv_l2i hx hb hd rfl kk⟩
  · exact h.elim
def ti_i2c : tg_K → tg_K := fun k lv st w => match st with
  | .int x :: st => k lv (.int (x.toUInt32 % 65536).toInt32 :: st) w
  | _ => False
theorem si_i2c {M : tg_M} {pc : Nat} (hd : decode M.2.1 pc = .ok (.i2c, 1)) : tg_Snd M pc ti_i2c (pc + 1) := tg_pure fun k lv st w h => by
  unfold ti_i2c at h
  split at h
  · exact ⟨_, h, fun p l e R s m args below meth c H locs cells slots Q ls ad hx hb ho ht kk => lv_i2c hx hb hd rfl kk⟩
  · exact h.elim
def ti_lcmp : tg_K → tg_K := fun k lv st w => match st with
  | .long y :: .long x :: st => k lv (.int (lg_cmp x y) :: st) w
  | _ => False
theorem si_lcmp {M : tg_M} {pc : Nat} (hd : decode M.2.1 pc = .ok (.lcmp, 1)) : tg_Snd M pc ti_lcmp (pc + 1) := tg_pure fun k lv st w h => by
  unfold ti_lcmp at h
  split at h
  · exact ⟨_, h, fun p l e R s m args below meth c H locs cells slots Q ls ad hx hb ho ht kk => W.lcmp hx hb hd kk⟩
  · exact h.elim
def ti_dup : tg_K → tg_K := fun k lv st w => match st with
  | v :: st => v.category = 1 ∧ k lv (v :: v :: st) w
  | _ => False
theorem si_dup {M : tg_M} {pc : Nat} (hd : decode M.2.1 pc = .ok (.dup, 1)) : tg_Snd M pc ti_dup (pc + 1) := tg_pure fun k lv st w h => by
  unfold ti_dup at h
  split at h
  · exact ⟨_, h.2, fun p l e R s m args below meth c H locs cells slots Q ls ad hx hb ho ht kk => lv_dup hx hb hd (by rw [tg_v_cat]; exact h.1) kk⟩
  · exact h.elim
def ti_pop : tg_K → tg_K := fun k lv st w => match st with
  | v :: st => v.category = 1 ∧ k lv st w
  | _ => False
theorem si_pop {M : tg_M} {pc : Nat} (hd : decode M.2.1 pc = .ok (.pop, 1)) : tg_Snd M pc ti_pop (pc + 1) := tg_pure fun k lv st w h => by
  unfold ti_pop at h
  split at h
  · exact ⟨_, h.2, fun p l e R s m args below meth c H locs cells slots Q ls ad hx hb ho ht kk => lv_pop hx hb hd (by rw [tg_v_cat]; exact h.1) kk⟩
  · exact h.elim
def ti_dup_x1 : tg_K → tg_K := fun k lv st w => match st with
  | v :: u :: st => (v.category = 1 ∧ u.category = 1) ∧ k lv (v :: u :: v :: st) w
  | _ => False
theorem si_dup_x1 {M : tg_M} {pc : Nat} (hd : decode M.2.1 pc = .ok (.dup_x1, 1)) : tg_Snd M pc ti_dup_x1 (pc + 1) := tg_pure fun k lv st w h => by
  unfold ti_dup_x1 at h
  split at h
  · exact ⟨_, h.2, fun p l e R s m args below meth c H locs cells slots Q ls ad hx hb ho ht kk => lv_dup_x1 hx hb hd (by rw [tg_v_cat]; exact h.1.1) (by rw [tg_v_cat]; exact h.1.2) kk⟩
  · exact h.elim
def ti_dup2 : tg_K → tg_K := fun k lv st w => match st with
  | v :: u :: st => (v.category = 1 ∧ u.category = 1) ∧ k lv (v :: u :: v :: u :: st) w
  | _ => False
theorem si_dup2 {M : tg_M} {pc : Nat} (hd : decode M.2.1 pc = .ok (.dup2, 1)) : tg_Snd M pc ti_dup2 (pc + 1) := tg_pure fun k lv st w h => by
  unfold ti_dup2 at h
  split at h
  · exact ⟨_, h.2, fun p l e R s m args below meth c H locs cells slots Q ls ad hx hb ho ht kk => lv_dup2_11 hx hb hd (by rw [tg_v_cat]; exact h.1.1) (by rw [tg_v_cat]; exact h.1.2) kk⟩
  · exact h.elim
def ti_iload (i : Nat) : tg_K → tg_K := fun k lv st w => match lv[i]? with
  | some (.int x) => k lv (.int x :: st) w
  | _ => False
theorem si_iload {M : tg_M} {pc i : Nat} (hd : decode M.2.1 pc = .ok (.iload i, 2)) : tg_Snd M pc (ti_iload i) (pc + 2) := by
  intro l n0 K kc ks k hk lv st w h
  unfold ti_iload at h
  split at h
  · rename_i x hx
    intro p e s m args below meth c D cA A ad H locs ls Qc C a1 a2 hK hA hE hQ hP hD hS hL
    exact lv_iload C.1 C.2.1 hd (tg_L_at hL hx (by simp)) (hk _ _ _ h p e s m args below meth c D cA A ad H locs ls Qc C a1 a2 hK hA hE hQ hP hD hS hL)
  · exact h.elim
theorem si_iload_n {M : tg_M} {pc i : Nat} {j : Fin 4} (hd : decode M.2.1 pc = .ok (.iload_n j, 1)) (hi : (j : Nat) = i) : tg_Snd M pc (ti_iload i) (pc + 1) := by
  intro l n0 K kc ks k hk lv st w h
  unfold ti_iload at h
  split at h
  · rename_i x hx
    intro p e s m args below meth c D cA A ad H locs ls Qc C a1 a2 hK hA hE hQ hP hD hS hL
    exact lv_iload_n C.1 C.2.1 hd hi (tg_L_at hL hx (by simp)) (hk _ _ _ h p e s m args below meth c D cA A ad H locs ls Qc C a1 a2 hK hA hE hQ hP hD hS hL)
  · exact h.elim
def ti_lload (i : Nat) : tg_K → tg_K := fun k lv st w => match lv[i]? with
  | some (.long x) => k lv (.long x :: st) w
  | _ => False
theorem si_lload {M : tg_M} {pc i : Nat} (hd : decode M.2.1 pc = .ok (.lload i, 2)) : tg_Snd M pc (ti_lload i) (pc + 2) := by
  intro l n0 K kc ks k hk lv st w h
  unfold ti_lload at h
  split at h
  · rename_i x hx
    intro p e s m args below meth c D cA A ad H locs ls Qc C a1 a2 hK hA hE hQ hP hD hS hL
    exact lv_lload C.1 C.2.1 hd (tg_L_at hL hx (by simp)) (hk _ _ _ h p e s m args below meth c D cA A ad H locs ls Qc C a1 a2 hK hA hE hQ hP hD hS hL)
  · exact h.elim
theorem si_lload_n {M : tg_M} {pc i : Nat} {j : Fin 4} (hd : decode M.2.1 pc = .ok (.lload_n j, 1)) (hi : (j : Nat) = i) : tg_Snd M pc (ti_lload i) (pc + 1) := by
  intro l n0 K kc ks k hk lv st w h
  unfold ti_lload at h
  split at h
  · rename_i x hx
    intro p e s m args below meth c D cA A ad H locs ls Qc C a1 a2 hK hA hE hQ hP hD hS hL
    exact lv_lload_n C.1 C.2.1 hd hi (tg_L_at hL hx (by simp)) (hk _ _ _ h p e s m args below meth c D cA A ad H locs ls Qc C a1 a2 hK hA hE hQ hP hD hS hL)
  · exact h.elim
def ti_aload (i : Nat) : tg_K → tg_K := fun k lv st w => match lv[i]? with
  | some (.ref x) => k lv (.ref x :: st) w
  | _ => False
theorem si_aload {M : tg_M} {pc i : Nat} (hd : decode M.2.1 pc = .ok (.aload i, 2)) : tg_Snd M pc (ti_aload i) (pc + 2) := by
  intro l n0 K kc ks k hk lv st w h
  unfold ti_aload at h
  split at h
  · rename_i x hx
    intro p e s m args below meth c D cA A ad H locs ls Qc C a1 a2 hK hA hE hQ hP hD hS hL
    exact lv_aload C.1 C.2.1 hd (tg_L_at hL hx (by simp)) (hk _ _ _ h p e s m args below meth c D cA A ad H locs ls Qc C a1 a2 hK hA hE hQ hP hD hS hL)
  · exact h.elim
theorem si_aload_n {M : tg_M} {pc i : Nat} {j : Fin 4} (hd : decode M.2.1 pc = .ok (.aload_n j, 1)) (hi : (j : Nat) = i) : tg_Snd M pc (ti_aload i) (pc + 1) := by
  intro l n0 K kc ks k hk lv st w h
  unfold ti_aload at h
  split at h
  · rename_i x hx
    intro p e s m args below meth c D cA A ad H locs ls Qc C a1 a2 hK hA hE hQ hP hD hS hL
    exact lv_aload_n C.1 C.2.1 hd hi (tg_L_at hL hx (by simp)) (hk _ _ _ h p e s m args below meth c D cA A ad H locs ls Qc C a1 a2 hK hA hE hQ hP hD hS hL)
  · exact h.elim
def ti_istore (i : Nat) : tg_K → tg_K := fun k lv st w => match st with
  | .int x :: st => k (tg_s1 lv i (.int x)) st w
  | _ => False
theorem si_istore {M : tg_M} {pc i : Nat} (hd : decode M.2.1 pc = .ok (.istore i, 2)) (hn : i < M.2.2.1) : tg_Snd M pc (ti_istore i) (pc + 2) := by
  intro l n0 K kc ks k hk lv st w h
  unfold ti_istore at h
  split at h
  · intro p e s m args below meth c D cA A ad H locs ls Qc C a1 a2 hK hA hE hQ hP hD hS hL
    exact lv_istore C.1 C.2.1 hd hL hn rfl (fun ls' hL' => hk _ _ _ h p e s m args below meth c D cA A ad H locs ls' Qc C a1 a2 hK hA hE hQ hP hD hS (tg_L_s1 hL'))
  · exact h.elim
theorem si_istore_n {M : tg_M} {pc i : Nat} {j : Fin 4} (hd : decode M.2.1 pc = .ok (.istore_n j, 1)) (hi : (j : Nat) = i) (hn : i < M.2.2.1) : tg_Snd M pc (ti_istore i) (pc + 1) := by
  intro l n0 K kc ks k hk lv st w h
  unfold ti_istore at h
  split at h
  · intro p e s m args below meth c D cA A ad H locs ls Qc C a1 a2 hK hA hE hQ hP hD hS hL
    exact lv_istore_n C.1 C.2.1 hd hi hL hn rfl (fun ls' hL' => hk _ _ _ h p e s m args below meth c D cA A ad H locs ls' Qc C a1 a2 hK hA hE hQ hP hD hS (tg_L_s1 hL'))
  · exact h.elim
def ti_lstore (i : Nat) : tg_K → tg_K := fun k lv st w => match st with
  | .long x :: st => k (tg_s2 lv i (.long x)) st w
  | _ => False
theorem si_lstore {M : tg_M} {pc i : Nat} (hd : decode M.2.1 pc = .ok (.lstore i, 2)) (hn : i + 1 < M.2.2.1) : tg_Snd M pc (ti_lstore i) (pc + 2) := by
  intro l n0 K kc ks k hk lv st w h
  unfold ti_lstore at h
  split at h
  · intro p e s m args below meth c D cA A ad H locs ls Qc C a1 a2 hK hA hE hQ hP hD hS hL
    exact lv_lstore C.1 C.2.1 hd hL hn rfl (fun ls' hL' => hk _ _ _ h p e s m args below meth c D cA A ad H locs ls' Qc C a1 a2 hK hA hE hQ hP hD hS (tg_L_s2 hL'))
  · exact h.elim
theorem si_lstore_n {M : tg_M} {pc i : Nat} {j : Fin 4} (hd : decode M.2.1 pc = .ok (.lstore_n j, 1)) (hi : (j : Nat) = i) (hn : i + 1 < M.2.2.1) : tg_Snd M pc (ti_lstore i) (pc + 1) := by
  intro l n0 K kc ks k hk lv st w h
  unfold ti_lstore at h
  split at h
  · intro p e s m args below meth c D cA A ad H locs ls Qc C a1 a2 hK hA hE hQ hP hD hS hL
    exact lv_lstore_n C.1 C.2.1 hd hi hL hn rfl (fun ls' hL' => hk _ _ _ h p e s m args below meth c D cA A ad H locs ls' Qc C a1 a2 hK hA hE hQ hP hD hS (tg_L_s2 hL'))
  · exact h.elim
def ti_astore (i : Nat) : tg_K → tg_K := fun k lv st w => match st with
  | .ref x :: st => k (tg_s1 lv i (.ref x)) st w
  | _ => False
theorem si_astore {M : tg_M} {pc i : Nat} (hd : decode M.2.1 pc = .ok (.astore i, 2)) (hn : i < M.2.2.1) : tg_Snd M pc (ti_astore i) (pc + 2) := by
  intro l n0 K kc ks k hk lv st w h
  unfold ti_astore at h
  split at h
  · intro p e s m args below meth c D cA A ad H locs ls Qc C a1 a2 hK hA hE hQ hP hD hS hL
    exact lv_astore C.1 C.2.1 hd hL hn rfl (fun ls' hL' => hk _ _ _ h p e s m args below meth c D cA A ad H locs ls' Qc C a1 a2 hK hA hE hQ hP hD hS (tg_L_s1 hL'))
  · exact h.elim
theorem si_astore_n {M : tg_M} {pc i : Nat} {j : Fin 4} (hd : decode M.2.1 pc = .ok (.astore_n j, 1)) (hi : (j : Nat) = i) (hn : i < M.2.2.1) : tg_Snd M pc (ti_astore i) (pc + 1) := by
  intro l n0 K kc ks k hk lv st w h
  unfold ti_astore at h
  split at h
  · intro p e s m args below meth c D cA A ad H locs ls Qc C a1 a2 hK hA hE hQ hP hD hS hL
    exact lv_astore_n C.1 C.2.1 hd hi hL hn rfl (fun ls' hL' => hk _ _ _ h p e s m args below meth c D cA A ad H locs ls' Qc C a1 a2 hK hA hE hQ hP hD hS (tg_L_s1 hL'))
  · exact h.elim
def ti_iinc (i : Nat) (v : Int32) : tg_K → tg_K := fun k lv st w => match lv[i]? with
  | some (.int x) => k (tg_s1 lv i (.int (x + v))) st w
  | _ => False
theorem si_iinc {M : tg_M} {pc i : Nat} {n : Int} {v : Int32} (hd : decode M.2.1 pc = .ok (.iinc i n, 3)) (hv : Int32.ofInt n = v) (hn : i < M.2.2.1) : tg_Snd M pc (ti_iinc i v) (pc + 3) := by
  intro l n0 K kc ks k hk lv st w h
  unfold ti_iinc at h
  split at h
  · rename_i x hx
    intro p e s m args below meth c D cA A ad H locs ls Qc C a1 a2 hK hA hE hQ hP hD hS hL
    obtain ⟨q, hq⟩ := List.getElem?_of_mem ((tg_prs_mem ad lv 0 (i, tg_v ad (.int x))).mpr ⟨i, _, hx, by simp, by simp⟩)
    exact lv_iinc C.1 C.2.1 hd hL (k := q) hq rfl hn rfl (fun ls' hL' => hk _ _ _ h p e s m args below meth c D cA A ad H locs ls' Qc C a1 a2 hK hA hE hQ hP hD hS (by subst hv; exact tg_L_s1 hL'))
  · exact h.elim
/-- a class's words among the tables -/
def tg_cls (ci : Nat) (C : String) (T : u_T) (N : Nat) : Prop := vwCl[ci]? = some (C, T, N) ∧ (∀ w ∈ u_ws C T N, w ∈ tg_T)
def ti_getf (ci f : Nat) : tg_K → tg_K := fun k lv st w => match st with
  | .ref a :: st => match w[a]? with
    | some (.inr (cj, fs)) => match fs[f]? with
      | some v => cj = ci ∧ k lv (v :: st) w
      | none => False
    | _ => False
  | _ => False
theorem si_getf {M : tg_M} {pc ci f idx N : Nat} {C nm ds : String} {T : u_T} (hc : tg_cls ci C T N) (hf : f < N) (hT : T f = (C, nm, ds, (T f).2.2.2)) (hl : Cond.fieldLink M.1.cls idx C nm ds ∈ tg_T) (hd : decode M.2.1 pc = .ok (.getfield idx, 3)) : tg_Snd M pc (ti_getf ci f) (pc + 3) := by
  intro l n0 K kc ks k hk lv st w h
  unfold ti_getf at h
  split at h
  · rename_i a st
    split at h
    · rename_i cj fs hw
      split at h
      · rename_i v hv
        obtain ⟨rfl, h⟩ := h
        intro p e s m args below meth c D cA A ad H locs ls Qc C0 a1 a2 hK hA hE hQ hP hD hS hL
        refine va_get (D := D) (C := C) (T := T) (N := N) (ref := C) C0.1 C0.2.1 C0.2.2.2.2.2.1 hc.2 C0.2.2.2.2.1 hK hP a (tg_w_at hw) hc.1 f hf ?_ ?_ (v := tg_v ad v) ?_ hd (hk _ _ _ h p e s m args below meth c D cA A ad H locs ls Qc C0 a1 a2 hK hA hE hQ hP hD hS hL)
        · rw [hT]; exact C0.2.2.2.2.2.1 _ hl
        · rw [hT]; exact fun _ h => h
        · rw [List.getElem?_map, hv]; rfl
      · exact h.elim
    · exact h.elim
  · exact h.elim
def ti_putfI (ci f : Nat) : tg_K → tg_K := fun k lv st w => match st with
  | .int x :: .ref a :: st => match w[a]? with
    | some (.inr (cj, fs)) => match fs[f]? with
      | some _ => cj = ci ∧ k lv st (w.set a (.inr (cj, fs.set f (.int x))))
      | none => False
    | _ => False
  | _ => False
theorem si_putfI {M : tg_M} {pc ci f idx N : Nat} {C nm ds : String} {T : u_T} {ty0 : Nat → FieldType} {ty : FieldType} (hc : tg_cls ci C T N) (hty : ∀ k, k < N → parseFieldDescriptor (T k).2.2.1 = some (ty0 k)) (hnm : ∀ a, a < N → ∀ b, b < N → a ≠ b → (T a).2.1 ≠ (T b).2.1) (hf : f < N) (hT : T f = (C, nm, ds, false)) (hpd : parseFieldDescriptor ds = some ty) (hn : ∀ (x : Int32) (ad : Nat → Nat), narrow ty (tg_v ad (.int x)) = tg_v ad (.int x) ∧ fits ty (tg_v ad (.int x)) = true) (hl : Cond.fieldLink M.1.cls idx C nm ds ∈ tg_T) (hd : decode M.2.1 pc = .ok (.putfield idx, 3)) : tg_Snd M pc (ti_putfI ci f) (pc + 3) := by
  intro l n0 K kc ks k hk lv st w h
  unfold ti_putfI at h
  split at h
  · rename_i x a st
    split at h
    · rename_i cj fs hw
      split at h
      · rename_i v hv
        obtain ⟨rfl, h⟩ := h
        intro p e s m args below meth c D cA A ad H locs ls Qc C0 a1 a2 hK hA hE hQ hP hD hS hL
        refine va_put (D := D) (C := C) (T := T) (N := N) (ref := C) (ty := ty) (v := tg_v ad (.int x)) C0.1 C0.2.1 C0.2.2.2.2.2.1 hc.2 ty0 hty hnm C0.2.2.2.2.1 hK hP hD hS a (tg_w_at hw) hc.1 f hf ?_ ?_ ?_ ?_ ?_ ?_ ?_ hd (fun H1 locs1 hP1 hD1 hS1 => hk _ _ _ h p e s m args below meth c D cA A ad H1 locs1 ls Qc C0 a1 a2 hK hA hE hQ (?_) (?_) hS1 hL)
        · rw [hT]; exact C0.2.2.2.2.2.1 _ hl
        · rw [hT]; exact fun _ h => h
        · rw [hT]
        · rw [hT]; exact hpd
        · exact (hn x ad).1
        · exact (hn x ad).2
        · rw [List.length_map]; exact (List.getElem?_eq_some_iff.mp hv).1
        all_goals (rw [tg_w_set0]; simp only [tg_e, List.map_set]; assumption)
      · exact h.elim
    · exact h.elim
  · exact h.elim
theorem si_putfIF {M : tg_M} {pc ci f idx N : Nat} {C nm ds : String} {T : u_T} {ty0 : Nat → FieldType} {ty : FieldType} (hc : tg_cls ci C T N) (hty : ∀ k, k < N → parseFieldDescriptor (T k).2.2.1 = some (ty0 k)) (hnm : ∀ a, a < N → ∀ b, b < N → a ≠ b → (T a).2.1 ≠ (T b).2.1) (hf : f < N) (hT : T f = (C, nm, ds, true)) (hin : M.1.name = "<init>") (hdc : C = M.1.cls) (hpd : parseFieldDescriptor ds = some ty) (hn : ∀ (x : Int32) (ad : Nat → Nat), narrow ty (tg_v ad (.int x)) = tg_v ad (.int x) ∧ fits ty (tg_v ad (.int x)) = true) (hl : Cond.fieldLink M.1.cls idx C nm ds ∈ tg_T) (hd : decode M.2.1 pc = .ok (.putfield idx, 3)) : tg_Snd M pc (ti_putfI ci f) (pc + 3) := by
  intro l n0 K kc ks k hk lv st w h
  unfold ti_putfI at h
  split at h
  · rename_i x a st
    split at h
    · rename_i cj fs hw
      split at h
      · rename_i v hv
        obtain ⟨rfl, h⟩ := h
        intro p e s m args below meth c D cA A ad H locs ls Qc C0 a1 a2 hK hA hE hQ hP hD hS hL
        refine va_putF (D := D) (C := C) (T := T) (N := N) (ref := C) (ty := ty) (v := tg_v ad (.int x)) C0.1 C0.2.1 C0.2.2.2.2.2.1 hc.2 ty0 hty hnm C0.2.2.2.2.1 hK hP hD hS a (tg_w_at hw) hc.1 f hf ?_ ?_ ?_ (C0.2.2.2.2.2.2.2.trans hin) ?_ ?_ ?_ ?_ ?_ hd (fun H1 locs1 hP1 hD1 hS1 => hk _ _ _ h p e s m args below meth c D cA A ad H1 locs1 ls Qc C0 a1 a2 hK hA hE hQ (?_) (?_) hS1 hL)
        · rw [hT]; exact C0.2.2.2.2.2.1 _ hl
        · rw [hT]; exact fun _ h => h
        · rw [hT]
        · rw [hT]; exact hdc
        · rw [hT]; exact hpd
        · exact (hn x ad).1
        · exact (hn x ad).2
        · rw [List.length_map]; exact (List.getElem?_eq_some_iff.mp hv).1
        all_goals (rw [tg_w_set0]; simp only [tg_e, List.map_set]; assumption)
      · exact h.elim
    · exact h.elim
  · exact h.elim
def ti_putfJ (ci f : Nat) : tg_K → tg_K := fun k lv st w => match st with
  | .long x :: .ref a :: st => match w[a]? with
    | some (.inr (cj, fs)) => match fs[f]? with
      | some _ => cj = ci ∧ k lv st (w.set a (.inr (cj, fs.set f (.long x))))
      | none => False
    | _ => False
  | _ => False
theorem si_putfJ {M : tg_M} {pc ci f idx N : Nat} {C nm ds : String} {T : u_T} {ty0 : Nat → FieldType} {ty : FieldType} (hc : tg_cls ci C T N) (hty : ∀ k, k < N → parseFieldDescriptor (T k).2.2.1 = some (ty0 k)) (hnm : ∀ a, a < N → ∀ b, b < N → a ≠ b → (T a).2.1 ≠ (T b).2.1) (hf : f < N) (hT : T f = (C, nm, ds, false)) (hpd : parseFieldDescriptor ds = some ty) (hn : ∀ (x : Int64) (ad : Nat → Nat), narrow ty (tg_v ad (.long x)) = tg_v ad (.long x) ∧ fits ty (tg_v ad (.long x)) = true) (hl : Cond.fieldLink M.1.cls idx C nm ds ∈ tg_T) (hd : decode M.2.1 pc = .ok (.putfield idx, 3)) : tg_Snd M pc (ti_putfJ ci f) (pc + 3) := by
  intro l n0 K kc ks k hk lv st w h
  unfold ti_putfJ at h
  split at h
  · rename_i x a st
    split at h
    · rename_i cj fs hw
      split at h
      · rename_i v hv
        obtain ⟨rfl, h⟩ := h
        intro p e s m args below meth c D cA A ad H locs ls Qc C0 a1 a2 hK hA hE hQ hP hD hS hL
        refine va_put (D := D) (C := C) (T := T) (N := N) (ref := C) (ty := ty) (v := tg_v ad (.long x)) C0.1 C0.2.1 C0.2.2.2.2.2.1 hc.2 ty0 hty hnm C0.2.2.2.2.1 hK hP hD hS a (tg_w_at hw) hc.1 f hf ?_ ?_ ?_ ?_ ?_ ?_ ?_ hd (fun H1 locs1 hP1 hD1 hS1 => hk _ _ _ h p e s m args below meth c D cA A ad H1 locs1 ls Qc C0 a1 a2 hK hA hE hQ (?_) (?_) hS1 hL)
        · rw [hT]; exact C0.2.2.2.2.2.1 _ hl
        · rw [hT]; exact fun _ h => h
        · rw [hT]
        · rw [hT]; exact hpd
        · exact (hn x ad).1
        · exact (hn x ad).2
        · rw [List.length_map]; exact (List.getElem?_eq_some_iff.mp hv).1
        all_goals (rw [tg_w_set0]; simp only [tg_e, List.map_set]; assumption)
      · exact h.elim
    · exact h.elim
  · exact h.elim
theorem si_putfJF {M : tg_M} {pc ci f idx N : Nat} {C nm ds : String} {T : u_T} {ty0 : Nat → FieldType} {ty : FieldType} (hc : tg_cls ci C T N) (hty : ∀ k, k < N → parseFieldDescriptor (T k).2.2.1 = some (ty0 k)) (hnm : ∀ a, a < N → ∀ b, b < N → a ≠ b → (T a).2.1 ≠ (T b).2.1) (hf : f < N) (hT : T f = (C, nm, ds, true)) (hin : M.1.name = "<init>") (hdc : C = M.1.cls) (hpd : parseFieldDescriptor ds = some ty) (hn : ∀ (x : Int64) (ad : Nat → Nat), narrow ty (tg_v ad (.long x)) = tg_v ad (.long x) ∧ fits ty (tg_v ad (.long x)) = true) (hl : Cond.fieldLink M.1.cls idx C nm ds ∈ tg_T) (hd : decode M.2.1 pc = .ok (.putfield idx, 3)) : tg_Snd M pc (ti_putfJ ci f) (pc + 3) := by
  intro l n0 K kc ks k hk lv st w h
  unfold ti_putfJ at h
  split at h
  · rename_i x a st
    split at h
    · rename_i cj fs hw
      split at h
      · rename_i v hv
        obtain ⟨rfl, h⟩ := h
        intro p e s m args below meth c D cA A ad H locs ls Qc C0 a1 a2 hK hA hE hQ hP hD hS hL
        refine va_putF (D := D) (C := C) (T := T) (N := N) (ref := C) (ty := ty) (v := tg_v ad (.long x)) C0.1 C0.2.1 C0.2.2.2.2.2.1 hc.2 ty0 hty hnm C0.2.2.2.2.1 hK hP hD hS a (tg_w_at hw) hc.1 f hf ?_ ?_ ?_ (C0.2.2.2.2.2.2.2.trans hin) ?_ ?_ ?_ ?_ ?_ hd (fun H1 locs1 hP1 hD1 hS1 => hk _ _ _ h p e s m args below meth c D cA A ad H1 locs1 ls Qc C0 a1 a2 hK hA hE hQ (?_) (?_) hS1 hL)
        · rw [hT]; exact C0.2.2.2.2.2.1 _ hl
        · rw [hT]; exact fun _ h => h
        · rw [hT]
        · rw [hT]; exact hdc
        · rw [hT]; exact hpd
        · exact (hn x ad).1
        · exact (hn x ad).2
        · rw [List.length_map]; exact (List.getElem?_eq_some_iff.mp hv).1
        all_goals (rw [tg_w_set0]; simp only [tg_e, List.map_set]; assumption)
      · exact h.elim
    · exact h.elim
  · exact h.elim
def ti_putfR (ci f : Nat) : tg_K → tg_K := fun k lv st w => match st with
  | .ref x :: .ref a :: st => match w[a]? with
    | some (.inr (cj, fs)) => match fs[f]? with
      | some _ => cj = ci ∧ k lv st (w.set a (.inr (cj, fs.set f (.ref x))))
      | none => False
    | _ => False
  | _ => False
theorem si_putfR {M : tg_M} {pc ci f idx N : Nat} {C nm ds : String} {T : u_T} {ty0 : Nat → FieldType} {ty : FieldType} (hc : tg_cls ci C T N) (hty : ∀ k, k < N → parseFieldDescriptor (T k).2.2.1 = some (ty0 k)) (hnm : ∀ a, a < N → ∀ b, b < N → a ≠ b → (T a).2.1 ≠ (T b).2.1) (hf : f < N) (hT : T f = (C, nm, ds, false)) (hpd : parseFieldDescriptor ds = some ty) (hn : ∀ (x : Nat) (ad : Nat → Nat), narrow ty (tg_v ad (.ref x)) = tg_v ad (.ref x) ∧ fits ty (tg_v ad (.ref x)) = true) (hl : Cond.fieldLink M.1.cls idx C nm ds ∈ tg_T) (hd : decode M.2.1 pc = .ok (.putfield idx, 3)) : tg_Snd M pc (ti_putfR ci f) (pc + 3) := by
  intro l n0 K kc ks k hk lv st w h
  unfold ti_putfR at h
  split at h
  · rename_i x a st
    split at h
    · rename_i cj fs hw
      split at h
      · rename_i v hv
        obtain ⟨rfl, h⟩ := h
        intro p e s m args below meth c D cA A ad H locs ls Qc C0 a1 a2 hK hA hE hQ hP hD hS hL
        refine va_put (D := D) (C := C) (T := T) (N := N) (ref := C) (ty := ty) (v := tg_v ad (.ref x)) C0.1 C0.2.1 C0.2.2.2.2.2.1 hc.2 ty0 hty hnm C0.2.2.2.2.1 hK hP hD hS a (tg_w_at hw) hc.1 f hf ?_ ?_ ?_ ?_ ?_ ?_ ?_ hd (fun H1 locs1 hP1 hD1 hS1 => hk _ _ _ h p e s m args below meth c D cA A ad H1 locs1 ls Qc C0 a1 a2 hK hA hE hQ (?_) (?_) hS1 hL)
        · rw [hT]; exact C0.2.2.2.2.2.1 _ hl
        · rw [hT]; exact fun _ h => h
        · rw [hT]
        · rw [hT]; exact hpd
        · exact (hn x ad).1
        · exact (hn x ad).2
        · rw [List.length_map]; exact (List.getElem?_eq_some_iff.mp hv).1
        all_goals (rw [tg_w_set0]; simp only [tg_e, List.map_set]; assumption)
      · exact h.elim
    · exact h.elim
  · exact h.elim
theorem si_putfRF {M : tg_M} {pc ci f idx N : Nat} {C nm ds : String} {T : u_T} {ty0 : Nat → FieldType} {ty : FieldType} (hc : tg_cls ci C T N) (hty : ∀ k, k < N → parseFieldDescriptor (T k).2.2.1 = some (ty0 k)) (hnm : ∀ a, a < N → ∀ b, b < N → a ≠ b → (T a).2.1 ≠ (T b).2.1) (hf : f < N) (hT : T f = (C, nm, ds, true)) (hin : M.1.name = "<init>") (hdc : C = M.1.cls) (hpd : parseFieldDescriptor ds = some ty) (hn : ∀ (x : Nat) (ad : Nat → Nat), narrow ty (tg_v ad (.ref x)) = tg_v ad (.ref x) ∧ fits ty (tg_v ad (.ref x)) = true) (hl : Cond.fieldLink M.1.cls idx C nm ds ∈ tg_T) (hd : decode M.2.1 pc = .ok (.putfield idx, 3)) : tg_Snd M pc (ti_putfR ci f) (pc + 3) := by
  intro l n0 K kc ks k hk lv st w h
  unfold ti_putfR at h
  split at h
  · rename_i x a st
    split at h
    · rename_i cj fs hw
      split at h
      · rename_i v hv
        obtain ⟨rfl, h⟩ := h
        intro p e s m args below meth c D cA A ad H locs ls Qc C0 a1 a2 hK hA hE hQ hP hD hS hL
        refine va_putF (D := D) (C := C) (T := T) (N := N) (ref := C) (ty := ty) (v := tg_v ad (.ref x)) C0.1 C0.2.1 C0.2.2.2.2.2.1 hc.2 ty0 hty hnm C0.2.2.2.2.1 hK hP hD hS a (tg_w_at hw) hc.1 f hf ?_ ?_ ?_ (C0.2.2.2.2.2.2.2.trans hin) ?_ ?_ ?_ ?_ ?_ hd (fun H1 locs1 hP1 hD1 hS1 => hk _ _ _ h p e s m args below meth c D cA A ad H1 locs1 ls Qc C0 a1 a2 hK hA hE hQ (?_) (?_) hS1 hL)
        · rw [hT]; exact C0.2.2.2.2.2.1 _ hl
        · rw [hT]; exact fun _ h => h
        · rw [hT]
        · rw [hT]; exact hdc
        · rw [hT]; exact hpd
        · exact (hn x ad).1
        · exact (hn x ad).2
        · rw [List.length_map]; exact (List.getElem?_eq_some_iff.mp hv).1
        all_goals (rw [tg_w_set0]; simp only [tg_e, List.map_set]; assumption)
      · exact h.elim
    · exact h.elim
  · exact h.elim
def ti_putfZ (ci f : Nat) : tg_K → tg_K := fun k lv st w => match st with
  | .int x :: .ref a :: st => match w[a]? with
    | some (.inr (cj, fs)) => match fs[f]? with
      | some _ => cj = ci ∧ (x = 0 ∨ x = 1) ∧ k lv st (w.set a (.inr (cj, fs.set f (.int x))))
      | none => False
    | _ => False
  | _ => False
theorem si_putfZ {M : tg_M} {pc ci f idx N : Nat} {C nm ds : String} {T : u_T} {ty0 : Nat → FieldType} {ty : FieldType} (hc : tg_cls ci C T N) (hty : ∀ k, k < N → parseFieldDescriptor (T k).2.2.1 = some (ty0 k)) (hnm : ∀ a, a < N → ∀ b, b < N → a ≠ b → (T a).2.1 ≠ (T b).2.1) (hf : f < N) (hT : T f = (C, nm, ds, false)) (hpd : parseFieldDescriptor ds = some ty) (hn : ∀ (x : Int32) (ad : Nat → Nat), (x = 0 ∨ x = 1) → narrow ty (tg_v ad (.int x)) = tg_v ad (.int x) ∧ fits ty (tg_v ad (.int x)) = true) (hl : Cond.fieldLink M.1.cls idx C nm ds ∈ tg_T) (hd : decode M.2.1 pc = .ok (.putfield idx, 3)) : tg_Snd M pc (ti_putfZ ci f) (pc + 3) := by
  intro l n0 K kc ks k hk lv st w h
  unfold ti_putfZ at h
  split at h
  · rename_i x a st
    split at h
    · rename_i cj fs hw
      split at h
      · rename_i v hv
        obtain ⟨rfl, h⟩ := h
        intro p e s m args below meth c D cA A ad H locs ls Qc C0 a1 a2 hK hA hE hQ hP hD hS hL
        refine va_put (D := D) (C := C) (T := T) (N := N) (ref := C) (ty := ty) (v := tg_v ad (.int x)) C0.1 C0.2.1 C0.2.2.2.2.2.1 hc.2 ty0 hty hnm C0.2.2.2.2.1 hK hP hD hS a (tg_w_at hw) hc.1 f hf ?_ ?_ ?_ ?_ ?_ ?_ ?_ hd (fun H1 locs1 hP1 hD1 hS1 => hk _ _ _ h.2 p e s m args below meth c D cA A ad H1 locs1 ls Qc C0 a1 a2 hK hA hE hQ (?_) (?_) hS1 hL)
        · rw [hT]; exact C0.2.2.2.2.2.1 _ hl
        · rw [hT]; exact fun _ h => h
        · rw [hT]
        · rw [hT]; exact hpd
        · exact (hn x ad h.1).1
        · exact (hn x ad h.1).2
        · rw [List.length_map]; exact (List.getElem?_eq_some_iff.mp hv).1
        all_goals (rw [tg_w_set0]; simp only [tg_e, List.map_set]; assumption)
      · exact h.elim
    · exact h.elim
  · exact h.elim
theorem si_putfZF {M : tg_M} {pc ci f idx N : Nat} {C nm ds : String} {T : u_T} {ty0 : Nat → FieldType} {ty : FieldType} (hc : tg_cls ci C T N) (hty : ∀ k, k < N → parseFieldDescriptor (T k).2.2.1 = some (ty0 k)) (hnm : ∀ a, a < N → ∀ b, b < N → a ≠ b → (T a).2.1 ≠ (T b).2.1) (hf : f < N) (hT : T f = (C, nm, ds, true)) (hin : M.1.name = "<init>") (hdc : C = M.1.cls) (hpd : parseFieldDescriptor ds = some ty) (hn : ∀ (x : Int32) (ad : Nat → Nat), (x = 0 ∨ x = 1) → narrow ty (tg_v ad (.int x)) = tg_v ad (.int x) ∧ fits ty (tg_v ad (.int x)) = true) (hl : Cond.fieldLink M.1.cls idx C nm ds ∈ tg_T) (hd : decode M.2.1 pc = .ok (.putfield idx, 3)) : tg_Snd M pc (ti_putfZ ci f) (pc + 3) := by
  intro l n0 K kc ks k hk lv st w h
  unfold ti_putfZ at h
  split at h
  · rename_i x a st
    split at h
    · rename_i cj fs hw
      split at h
      · rename_i v hv
        obtain ⟨rfl, h⟩ := h
        intro p e s m args below meth c D cA A ad H locs ls Qc C0 a1 a2 hK hA hE hQ hP hD hS hL
        refine va_putF (D := D) (C := C) (T := T) (N := N) (ref := C) (ty := ty) (v := tg_v ad (.int x)) C0.1 C0.2.1 C0.2.2.2.2.2.1 hc.2 ty0 hty hnm C0.2.2.2.2.1 hK hP hD hS a (tg_w_at hw) hc.1 f hf ?_ ?_ ?_ (C0.2.2.2.2.2.2.2.trans hin) ?_ ?_ ?_ ?_ ?_ hd (fun H1 locs1 hP1 hD1 hS1 => hk _ _ _ h.2 p e s m args below meth c D cA A ad H1 locs1 ls Qc C0 a1 a2 hK hA hE hQ (?_) (?_) hS1 hL)
        · rw [hT]; exact C0.2.2.2.2.2.1 _ hl
        · rw [hT]; exact fun _ h => h
        · rw [hT]
        · rw [hT]; exact hdc
        · rw [hT]; exact hpd
        · exact (hn x ad h.1).1
        · exact (hn x ad h.1).2
        · rw [List.length_map]; exact (List.getElem?_eq_some_iff.mp hv).1
        all_goals (rw [tg_w_set0]; simp only [tg_e, List.map_set]; assumption)
      · exact h.elim
    · exact h.elim
  · exact h.elim
def ti_iald : tg_K → tg_K := fun k lv st w => match st with
  | .int i :: .ref a :: st => match w[a]? with
    | some (.inl (t, n, .inl f)) => t = 0 ∧ vp_in i n ∧ k lv (.int (f i.toNatClampNeg) :: st) w
    | _ => False
  | _ => False
theorem si_iald {M : tg_M} {pc : Nat} (hd : decode M.2.1 pc = .ok (.iaload, 1)) : tg_Snd M pc ti_iald (pc + 1) := by
  intro l n0 K kc ks k hk lv st w h
  unfold ti_iald at h
  split at h
  · rename_i i a st
    split at h
    · rename_i t n f hw
      obtain ⟨rfl, hin, h⟩ := h
      intro p e s m args below meth c D cA A ad H locs ls Qc C a1 a2 hK hA hE hQ hP hD hS hL
      exact va_iald C.1 C.2.1 hK hP a 0 (tg_w_at hw) rfl hin hd (hk _ _ _ h p e s m args below meth c D cA A ad H locs ls Qc C a1 a2 hK hA hE hQ hP hD hS hL)
    · exact h.elim
  · exact h.elim
def ti_zald : tg_K → tg_K := fun k lv st w => match st with
  | .int i :: .ref a :: st => match w[a]? with
    | some (.inl (t, n, .inl f)) => t = 1 ∧ vp_in i n ∧ k lv (.int (f i.toNatClampNeg) :: st) w
    | _ => False
  | _ => False
theorem si_zald {M : tg_M} {pc : Nat} (hd : decode M.2.1 pc = .ok (.baload, 1)) : tg_Snd M pc ti_zald (pc + 1) := by
  intro l n0 K kc ks k hk lv st w h
  unfold ti_zald at h
  split at h
  · rename_i i a st
    split at h
    · rename_i t n f hw
      obtain ⟨rfl, hin, h⟩ := h
      intro p e s m args below meth c D cA A ad H locs ls Qc C a1 a2 hK hA hE hQ hP hD hS hL
      exact va_zald C.1 C.2.1 hK hP a 1 (tg_w_at hw) rfl hin hd (hk _ _ _ h p e s m args below meth c D cA A ad H locs ls Qc C a1 a2 hK hA hE hQ hP hD hS hL)
    · exact h.elim
  · exact h.elim
def ti_cald : tg_K → tg_K := fun k lv st w => match st with
  | .int i :: .ref a :: st => match w[a]? with
    | some (.inl (t, n, .inl f)) => t = 2 ∧ vp_in i n ∧ k lv (.int (f i.toNatClampNeg) :: st) w
    | _ => False
  | _ => False
theorem si_cald {M : tg_M} {pc : Nat} (hd : decode M.2.1 pc = .ok (.caload, 1)) : tg_Snd M pc ti_cald (pc + 1) := by
  intro l n0 K kc ks k hk lv st w h
  unfold ti_cald at h
  split at h
  · rename_i i a st
    split at h
    · rename_i t n f hw
      obtain ⟨rfl, hin, h⟩ := h
      intro p e s m args below meth c D cA A ad H locs ls Qc C a1 a2 hK hA hE hQ hP hD hS hL
      exact va_cald C.1 C.2.1 hK hP a 2 (tg_w_at hw) rfl hin hd (hk _ _ _ h p e s m args below meth c D cA A ad H locs ls Qc C a1 a2 hK hA hE hQ hP hD hS hL)
    · exact h.elim
  · exact h.elim
def ti_lald : tg_K → tg_K := fun k lv st w => match st with
  | .int i :: .ref a :: st => match w[a]? with
    | some (.inl (t, n, .inr (.inl f))) => t = 3 ∧ vp_in i n ∧ k lv (.long (f i.toNatClampNeg) :: st) w
    | _ => False
  | _ => False
theorem si_lald {M : tg_M} {pc : Nat} (hd : decode M.2.1 pc = .ok (.laload, 1)) : tg_Snd M pc ti_lald (pc + 1) := by
  intro l n0 K kc ks k hk lv st w h
  unfold ti_lald at h
  split at h
  · rename_i i a st
    split at h
    · rename_i t n f hw
      obtain ⟨rfl, hin, h⟩ := h
      intro p e s m args below meth c D cA A ad H locs ls Qc C a1 a2 hK hA hE hQ hP hD hS hL
      exact va_lald C.1 C.2.1 hK hP a 3 (tg_w_at hw) rfl hin hd (hk _ _ _ h p e s m args below meth c D cA A ad H locs ls Qc C a1 a2 hK hA hE hQ hP hD hS hL)
    · exact h.elim
  · exact h.elim
def ti_iast : tg_K → tg_K := fun k lv st w => match st with
  | .int x :: .int i :: .ref a :: st => match w[a]? with
    | some (.inl (t, n, .inl f)) => t = 0 ∧ vp_in i n ∧ k lv st (w.set a (.inl (t, n, .inl (upd f i.toNatClampNeg x))))
    | _ => False
  | _ => False
theorem si_iast {M : tg_M} {pc : Nat} (hd : decode M.2.1 pc = .ok (.iastore, 1)) : tg_Snd M pc ti_iast (pc + 1) := by
  intro l n0 K kc ks k hk lv st w h
  unfold ti_iast at h
  split at h
  · rename_i x i a st
    split at h
    · rename_i t n f hw
      obtain ⟨rfl, hin, h⟩ := h
      intro p e s m args below meth c D cA A ad H locs ls Qc C a1 a2 hK hA hE hQ hP hD hS hL
      refine va_iast C.1 C.2.1 hK hP hD hS a 0 (tg_w_at hw) rfl hin hd (fun H1 locs1 hP1 hD1 hS1 => hk _ _ _ h p e s m args below meth c D cA A ad H1 locs1 ls Qc C a1 a2 hK hA hE hQ (?_) (?_) hS1 hL)
      all_goals (rw [tg_w_set0]; simp only [tg_e]; assumption)
    · exact h.elim
  · exact h.elim
def ti_zast : tg_K → tg_K := fun k lv st w => match st with
  | .int x :: .int i :: .ref a :: st => match w[a]? with
    | some (.inl (t, n, .inl f)) => t = 1 ∧ vp_in i n ∧ vp_nar .boolean x = x ∧ k lv st (w.set a (.inl (t, n, .inl (upd f i.toNatClampNeg x))))
    | _ => False
  | _ => False
theorem si_zast {M : tg_M} {pc : Nat} (hd : decode M.2.1 pc = .ok (.bastore, 1)) : tg_Snd M pc ti_zast (pc + 1) := by
  intro l n0 K kc ks k hk lv st w h
  unfold ti_zast at h
  split at h
  · rename_i x i a st
    split at h
    · rename_i t n f hw
      obtain ⟨rfl, hin, h⟩ := h
      intro p e s m args below meth c D cA A ad H locs ls Qc C a1 a2 hK hA hE hQ hP hD hS hL
      refine va_zast C.1 C.2.1 hK hP hD hS a 1 (tg_w_at hw) rfl hin hd (fun H1 locs1 hP1 hD1 hS1 => hk _ _ _ h.2 p e s m args below meth c D cA A ad H1 locs1 ls Qc C a1 a2 hK hA hE hQ (?_) (?_) hS1 hL)
      all_goals (rw [tg_w_set0]; simp only [tg_e]; rw [h.1] at hP1 hD1; assumption)
    · exact h.elim
  · exact h.elim
def ti_cast : tg_K → tg_K := fun k lv st w => match st with
  | .int x :: .int i :: .ref a :: st => match w[a]? with
    | some (.inl (t, n, .inl f)) => t = 2 ∧ vp_in i n ∧ vp_nar .char x = x ∧ k lv st (w.set a (.inl (t, n, .inl (upd f i.toNatClampNeg x))))
    | _ => False
  | _ => False
theorem si_cast {M : tg_M} {pc : Nat} (hd : decode M.2.1 pc = .ok (.castore, 1)) : tg_Snd M pc ti_cast (pc + 1) := by
  intro l n0 K kc ks k hk lv st w h
  unfold ti_cast at h
  split at h
  · rename_i x i a st
    split at h
    · rename_i t n f hw
      obtain ⟨rfl, hin, h⟩ := h
      intro p e s m args below meth c D cA A ad H locs ls Qc C a1 a2 hK hA hE hQ hP hD hS hL
      refine va_cast C.1 C.2.1 hK hP hD hS a 2 (tg_w_at hw) rfl hin hd (fun H1 locs1 hP1 hD1 hS1 => hk _ _ _ h.2 p e s m args below meth c D cA A ad H1 locs1 ls Qc C a1 a2 hK hA hE hQ (?_) (?_) hS1 hL)
      all_goals (rw [tg_w_set0]; simp only [tg_e]; rw [h.1] at hP1 hD1; assumption)
    · exact h.elim
  · exact h.elim
def ti_last : tg_K → tg_K := fun k lv st w => match st with
  | .long x :: .int i :: .ref a :: st => match w[a]? with
    | some (.inl (t, n, .inr (.inl f))) => t = 3 ∧ vp_in i n ∧ k lv st (w.set a (.inl (t, n, .inr (.inl (vp_updL f i.toNatClampNeg x)))))
    | _ => False
  | _ => False
theorem si_last {M : tg_M} {pc : Nat} (hd : decode M.2.1 pc = .ok (.lastore, 1)) : tg_Snd M pc ti_last (pc + 1) := by
  intro l n0 K kc ks k hk lv st w h
  unfold ti_last at h
  split at h
  · rename_i x i a st
    split at h
    · rename_i t n f hw
      obtain ⟨rfl, hin, h⟩ := h
      intro p e s m args below meth c D cA A ad H locs ls Qc C a1 a2 hK hA hE hQ hP hD hS hL
      refine va_last C.1 C.2.1 hK hP hD hS a 3 (tg_w_at hw) rfl hin hd (fun H1 locs1 hP1 hD1 hS1 => hk _ _ _ h p e s m args below meth c D cA A ad H1 locs1 ls Qc C a1 a2 hK hA hE hQ (?_) (?_) hS1 hL)
      all_goals (rw [tg_w_set0]; simp only [tg_e]; assumption)
    · exact h.elim
  · exact h.elim
def ti_alen : tg_K → tg_K := fun k lv st w => match st with
  | .ref a :: st => match w[a]? with
    | some (.inl (t, x)) => t < 6 ∧ k lv (.int (Int32.ofNat x.1) :: st) w
    | _ => False
  | _ => False
theorem tg_e_arr (cA : Nat → ClassId) (ad : Nat → Nat) (t : Nat) (x : vp_A) : ∃ y : vp_A, tg_e cA ad (.inl (t, x)) = .inl (cA t, y) ∧ y.1 = x.1 := by
  obtain ⟨n, a⟩ := x
  rcases a with a | a | a | a | a <;> exact ⟨_, rfl, rfl⟩
theorem tg_tys_at (cA : Nat → ClassId) {t : Nat} (h : t < 6) : ∃ ty, (tg_tys cA)[t]? = some (cA t, ty) := by
  rcases (show t = 0 ∨ t = 1 ∨ t = 2 ∨ t = 3 ∨ t = 4 ∨ t = 5 by omega) with rfl | rfl | rfl | rfl | rfl | rfl <;> exact ⟨_, rfl⟩
theorem si_alen {M : tg_M} {pc : Nat} (hd : decode M.2.1 pc = .ok (.arraylength, 1)) : tg_Snd M pc ti_alen (pc + 1) := by
  intro l n0 K kc ks k hk lv st w h
  unfold ti_alen at h
  split at h
  · rename_i a st
    split at h
    · rename_i t x hw
      obtain ⟨ht, h⟩ := h
      intro p e s m args below meth c D cA A ad H locs ls Qc C a1 a2 hK hA hE hQ hP hD hS hL
      obtain ⟨y, hy1, hy2⟩ := tg_e_arr cA ad t x
      obtain ⟨ty, hty⟩ := tg_tys_at cA ht
      have hw' := tg_w_at (cA := cA) (ad := ad) hw
      rw [hy1] at hw'
      exact va_alen C.1 C.2.1 hK hP a t hw' hty (by rw [hy2]) hd (hk _ _ _ h p e s m args below meth c D cA A ad H locs ls Qc C a1 a2 hK hA hE hQ hP hD hS hL)
    · exact h.elim
  · exact h.elim
end
section
/-! branches, switches, returns, and what else there is -/
theorem g_if_eq {l : tg_Ln} {M : tg_M} {n0 : Nat} {K : Option Value → List va_E → Prop} {kc ks pc : Nat} {lv st : List Value} {w : List va_E} {x : Int32} {off : Int} {tgt : Nat} (hd : decode M.2.1 pc = .ok (.ifCond .eq off, 3)) (ht : (pc : Int) + off = (tgt : Int)) (kt : x = 0 → tg_G l M n0 K kc ks tgt lv st w) (kf : ¬ x = 0 → tg_G l M n0 K kc ks (pc + 3) lv st w) : tg_G l M n0 K kc ks pc lv (.int x :: st) w := by
  intro p e s m args below meth c D cA A ad H locs ls Qc C a1 a2 hK hA hE hQ hP hD hS hL
  exact lv_if_eq C.1 C.2.1 hd ht (fun h => kt h p e s m args below meth c D cA A ad H locs ls Qc C a1 a2 hK hA hE hQ hP hD hS hL) (fun h => kf h p e s m args below meth c D cA A ad H locs ls Qc C a1 a2 hK hA hE hQ hP hD hS hL)
theorem g_icmp_eq {l : tg_Ln} {M : tg_M} {n0 : Nat} {K : Option Value → List va_E → Prop} {kc ks pc : Nat} {lv st : List Value} {w : List va_E} {x y : Int32} {off : Int} {tgt : Nat} (hd : decode M.2.1 pc = .ok (.if_icmp .eq off, 3)) (ht : (pc : Int) + off = (tgt : Int)) (kt : x = y → tg_G l M n0 K kc ks tgt lv st w) (kf : ¬ x = y → tg_G l M n0 K kc ks (pc + 3) lv st w) : tg_G l M n0 K kc ks pc lv (.int y :: .int x :: st) w := by
  intro p e s m args below meth c D cA A ad H locs ls Qc C a1 a2 hK hA hE hQ hP hD hS hL
  exact lv_icmp_eq C.1 C.2.1 hd ht (fun h => kt h p e s m args below meth c D cA A ad H locs ls Qc C a1 a2 hK hA hE hQ hP hD hS hL) (fun h => kf h p e s m args below meth c D cA A ad H locs ls Qc C a1 a2 hK hA hE hQ hP hD hS hL)
theorem g_if_ne {l : tg_Ln} {M : tg_M} {n0 : Nat} {K : Option Value → List va_E → Prop} {kc ks pc : Nat} {lv st : List Value} {w : List va_E} {x : Int32} {off : Int} {tgt : Nat} (hd : decode M.2.1 pc = .ok (.ifCond .ne off, 3)) (ht : (pc : Int) + off = (tgt : Int)) (kt : ¬ x = 0 → tg_G l M n0 K kc ks tgt lv st w) (kf : x = 0 → tg_G l M n0 K kc ks (pc + 3) lv st w) : tg_G l M n0 K kc ks pc lv (.int x :: st) w := by
  intro p e s m args below meth c D cA A ad H locs ls Qc C a1 a2 hK hA hE hQ hP hD hS hL
  exact lv_if_ne C.1 C.2.1 hd ht (fun h => kt h p e s m args below meth c D cA A ad H locs ls Qc C a1 a2 hK hA hE hQ hP hD hS hL) (fun h => kf h p e s m args below meth c D cA A ad H locs ls Qc C a1 a2 hK hA hE hQ hP hD hS hL)
theorem g_icmp_ne {l : tg_Ln} {M : tg_M} {n0 : Nat} {K : Option Value → List va_E → Prop} {kc ks pc : Nat} {lv st : List Value} {w : List va_E} {x y : Int32} {off : Int} {tgt : Nat} (hd : decode M.2.1 pc = .ok (.if_icmp .ne off, 3)) (ht : (pc : Int) + off = (tgt : Int)) (kt : ¬ x = y → tg_G l M n0 K kc ks tgt lv st w) (kf : x = y → tg_G l M n0 K kc ks (pc + 3) lv st w) : tg_G l M n0 K kc ks pc lv (.int y :: .int x :: st) w := by
  intro p e s m args below meth c D cA A ad H locs ls Qc C a1 a2 hK hA hE hQ hP hD hS hL
  exact lv_icmp_ne C.1 C.2.1 hd ht (fun h => kt h p e s m args below meth c D cA A ad H locs ls Qc C a1 a2 hK hA hE hQ hP hD hS hL) (fun h => kf h p e s m args below meth c D cA A ad H locs ls Qc C a1 a2 hK hA hE hQ hP hD hS hL)
theorem g_if_lt {l : tg_Ln} {M : tg_M} {n0 : Nat} {K : Option Value → List va_E → Prop} {kc ks pc : Nat} {lv st : List Value} {w : List va_E} {x : Int32} {off : Int} {tgt : Nat} (hd : decode M.2.1 pc = .ok (.ifCond .lt off, 3)) (ht : (pc : Int) + off = (tgt : Int)) (kt : x < 0 → tg_G l M n0 K kc ks tgt lv st w) (kf : ¬ x < 0 → tg_G l M n0 K kc ks (pc + 3) lv st w) : tg_G l M n0 K kc ks pc lv (.int x :: st) w := by
  intro p e s m args below meth c D cA A ad H locs ls Qc C a1 a2 hK hA hE hQ hP hD hS hL
  exact lv_if_lt C.1 C.2.1 hd ht (fun h => kt h p e s m args below meth c D cA A ad H locs ls Qc C a1 a2 hK hA hE hQ hP hD hS hL) (fun h => kf h p e s m args below meth c D cA A ad H locs ls Qc C a1 a2 hK hA hE hQ hP hD hS hL)
theorem g_icmp_lt {l : tg_Ln} {M : tg_M} {n0 : Nat} {K : Option Value → List va_E → Prop} {kc ks pc : Nat} {lv st : List Value} {w : List va_E} {x y : Int32} {off : Int} {tgt : Nat} (hd : decode M.2.1 pc = .ok (.if_icmp .lt off, 3)) (ht : (pc : Int) + off = (tgt : Int)) (kt : x < y → tg_G l M n0 K kc ks tgt lv st w) (kf : ¬ x < y → tg_G l M n0 K kc ks (pc + 3) lv st w) : tg_G l M n0 K kc ks pc lv (.int y :: .int x :: st) w := by
  intro p e s m args below meth c D cA A ad H locs ls Qc C a1 a2 hK hA hE hQ hP hD hS hL
  exact lv_icmp_lt C.1 C.2.1 hd ht (fun h => kt h p e s m args below meth c D cA A ad H locs ls Qc C a1 a2 hK hA hE hQ hP hD hS hL) (fun h => kf h p e s m args below meth c D cA A ad H locs ls Qc C a1 a2 hK hA hE hQ hP hD hS hL)
theorem g_if_ge {l : tg_Ln} {M : tg_M} {n0 : Nat} {K : Option Value → List va_E → Prop} {kc ks pc : Nat} {lv st : List Value} {w : List va_E} {x : Int32} {off : Int} {tgt : Nat} (hd : decode M.2.1 pc = .ok (.ifCond .ge off, 3)) (ht : (pc : Int) + off = (tgt : Int)) (kt : 0 ≤ x → tg_G l M n0 K kc ks tgt lv st w) (kf : ¬ 0 ≤ x → tg_G l M n0 K kc ks (pc + 3) lv st w) : tg_G l M n0 K kc ks pc lv (.int x :: st) w := by
  intro p e s m args below meth c D cA A ad H locs ls Qc C a1 a2 hK hA hE hQ hP hD hS hL
  exact lv_if_ge C.1 C.2.1 hd ht (fun h => kt h p e s m args below meth c D cA A ad H locs ls Qc C a1 a2 hK hA hE hQ hP hD hS hL) (fun h => kf h p e s m args below meth c D cA A ad H locs ls Qc C a1 a2 hK hA hE hQ hP hD hS hL)
theorem g_icmp_ge {l : tg_Ln} {M : tg_M} {n0 : Nat} {K : Option Value → List va_E → Prop} {kc ks pc : Nat} {lv st : List Value} {w : List va_E} {x y : Int32} {off : Int} {tgt : Nat} (hd : decode M.2.1 pc = .ok (.if_icmp .ge off, 3)) (ht : (pc : Int) + off = (tgt : Int)) (kt : y ≤ x → tg_G l M n0 K kc ks tgt lv st w) (kf : ¬ y ≤ x → tg_G l M n0 K kc ks (pc + 3) lv st w) : tg_G l M n0 K kc ks pc lv (.int y :: .int x :: st) w := by
  intro p e s m args below meth c D cA A ad H locs ls Qc C a1 a2 hK hA hE hQ hP hD hS hL
  exact lv_icmp_ge C.1 C.2.1 hd ht (fun h => kt h p e s m args below meth c D cA A ad H locs ls Qc C a1 a2 hK hA hE hQ hP hD hS hL) (fun h => kf h p e s m args below meth c D cA A ad H locs ls Qc C a1 a2 hK hA hE hQ hP hD hS hL)
theorem g_if_gt {l : tg_Ln} {M : tg_M} {n0 : Nat} {K : Option Value → List va_E → Prop} {kc ks pc : Nat} {lv st : List Value} {w : List va_E} {x : Int32} {off : Int} {tgt : Nat} (hd : decode M.2.1 pc = .ok (.ifCond .gt off, 3)) (ht : (pc : Int) + off = (tgt : Int)) (kt : 0 < x → tg_G l M n0 K kc ks tgt lv st w) (kf : ¬ 0 < x → tg_G l M n0 K kc ks (pc + 3) lv st w) : tg_G l M n0 K kc ks pc lv (.int x :: st) w := by
  intro p e s m args below meth c D cA A ad H locs ls Qc C a1 a2 hK hA hE hQ hP hD hS hL
  exact lv_if_gt C.1 C.2.1 hd ht (fun h => kt h p e s m args below meth c D cA A ad H locs ls Qc C a1 a2 hK hA hE hQ hP hD hS hL) (fun h => kf h p e s m args below meth c D cA A ad H locs ls Qc C a1 a2 hK hA hE hQ hP hD hS hL)
theorem g_icmp_gt {l : tg_Ln} {M : tg_M} {n0 : Nat} {K : Option Value → List va_E → Prop} {kc ks pc : Nat} {lv st : List Value} {w : List va_E} {x y : Int32} {off : Int} {tgt : Nat} (hd : decode M.2.1 pc = .ok (.if_icmp .gt off, 3)) (ht : (pc : Int) + off = (tgt : Int)) (kt : y < x → tg_G l M n0 K kc ks tgt lv st w) (kf : ¬ y < x → tg_G l M n0 K kc ks (pc + 3) lv st w) : tg_G l M n0 K kc ks pc lv (.int y :: .int x :: st) w := by
  intro p e s m args below meth c D cA A ad H locs ls Qc C a1 a2 hK hA hE hQ hP hD hS hL
  exact lv_icmp_gt C.1 C.2.1 hd ht (fun h => kt h p e s m args below meth c D cA A ad H locs ls Qc C a1 a2 hK hA hE hQ hP hD hS hL) (fun h => kf h p e s m args below meth c D cA A ad H locs ls Qc C a1 a2 hK hA hE hQ hP hD hS hL)
theorem g_if_le {l : tg_Ln} {M : tg_M} {n0 : Nat} {K : Option Value → List va_E → Prop} {kc ks pc : Nat} {lv st : List Value} {w : List va_E} {x : Int32} {off : Int} {tgt : Nat} (hd : decode M.2.1 pc = .ok (.ifCond .le off, 3)) (ht : (pc : Int) + off = (tgt : Int)) (kt : x ≤ 0 → tg_G l M n0 K kc ks tgt lv st w) (kf : ¬ x ≤ 0 → tg_G l M n0 K kc ks (pc + 3) lv st w) : tg_G l M n0 K kc ks pc lv (.int x :: st) w := by
  intro p e s m args below meth c D cA A ad H locs ls Qc C a1 a2 hK hA hE hQ hP hD hS hL
  exact lv_if_le C.1 C.2.1 hd ht (fun h => kt h p e s m args below meth c D cA A ad H locs ls Qc C a1 a2 hK hA hE hQ hP hD hS hL) (fun h => kf h p e s m args below meth c D cA A ad H locs ls Qc C a1 a2 hK hA hE hQ hP hD hS hL)
theorem g_icmp_le {l : tg_Ln} {M : tg_M} {n0 : Nat} {K : Option Value → List va_E → Prop} {kc ks pc : Nat} {lv st : List Value} {w : List va_E} {x y : Int32} {off : Int} {tgt : Nat} (hd : decode M.2.1 pc = .ok (.if_icmp .le off, 3)) (ht : (pc : Int) + off = (tgt : Int)) (kt : x ≤ y → tg_G l M n0 K kc ks tgt lv st w) (kf : ¬ x ≤ y → tg_G l M n0 K kc ks (pc + 3) lv st w) : tg_G l M n0 K kc ks pc lv (.int y :: .int x :: st) w := by
  intro p e s m args below meth c D cA A ad H locs ls Qc C a1 a2 hK hA hE hQ hP hD hS hL
  exact lv_icmp_le C.1 C.2.1 hd ht (fun h => kt h p e s m args below meth c D cA A ad H locs ls Qc C a1 a2 hK hA hE hQ hP hD hS hL) (fun h => kf h p e s m args below meth c D cA A ad H locs ls Qc C a1 a2 hK hA hE hQ hP hD hS hL)
theorem g_goto {l : tg_Ln} {M : tg_M} {n0 : Nat} {K : Option Value → List va_E → Prop} {kc ks pc : Nat} {lv st : List Value} {w : List va_E} {off : Int} {tgt : Nat} (hd : decode M.2.1 pc = .ok (.goto off, 3)) (ht : (pc : Int) + off = (tgt : Int)) (k : tg_G l M n0 K kc ks tgt lv st w) : tg_G l M n0 K kc ks pc lv st w := by
  intro p e s m args below meth c D cA A ad H locs ls Qc C a1 a2 hK hA hE hQ hP hD hS hL
  exact lv_goto C.1 C.2.1 hd ht (k p e s m args below meth c D cA A ad H locs ls Qc C a1 a2 hK hA hE hQ hP hD hS hL)
theorem g_tblOut {l : tg_Ln} {M : tg_M} {n0 : Nat} {K : Option Value → List va_E → Prop} {kc ks pc : Nat} {lv st : List Value} {w : List va_E} {dflt lo hi : Int} {offs : Array Int} {len : Nat} {x : Int32} {tgt : Nat} (hd : decode M.2.1 pc = .ok (.tableswitch dflt lo hi offs, len)) (h : x.toInt < lo ∨ hi < x.toInt) (ht : (pc : Int) + dflt = (tgt : Int)) (k : tg_G l M n0 K kc ks tgt lv st w) : tg_G l M n0 K kc ks pc lv (.int x :: st) w := by
  intro p e s m args below meth c D cA A ad H locs ls Qc C a1 a2 hK hA hE hQ hP hD hS hL
  exact lv_tableOut C.1 C.2.1 hd h ht (k p e s m args below meth c D cA A ad H locs ls Qc C a1 a2 hK hA hE hQ hP hD hS hL)
theorem g_tblIn {l : tg_Ln} {M : tg_M} {n0 : Nat} {K : Option Value → List va_E → Prop} {kc ks pc : Nat} {lv st : List Value} {w : List va_E} {dflt lo hi : Int} {offs : Array Int} {len : Nat} {x : Int32} {off : Int} {tgt : Nat} (hd : decode M.2.1 pc = .ok (.tableswitch dflt lo hi offs, len)) (h1 : ¬ x.toInt < lo) (h2 : ¬ hi < x.toInt) (ho : offs[(x.toInt - lo).toNat]? = some off) (ht : (pc : Int) + off = (tgt : Int)) (k : tg_G l M n0 K kc ks tgt lv st w) : tg_G l M n0 K kc ks pc lv (.int x :: st) w := by
  intro p e s m args below meth c D cA A ad H locs ls Qc C a1 a2 hK hA hE hQ hP hD hS hL
  exact lv_tableIn C.1 C.2.1 hd h1 h2 ho ht (k p e s m args below meth c D cA A ad H locs ls Qc C a1 a2 hK hA hE hQ hP hD hS hL)
theorem g_lookup {l : tg_Ln} {M : tg_M} {n0 : Nat} {K : Option Value → List va_E → Prop} {kc ks pc : Nat} {lv st : List Value} {w : List va_E} {dflt : Int} {ps : Array (Int × Int)} {len : Nat} {x : Int32} {off : Int} {tgt : Nat} (hd : decode M.2.1 pc = .ok (.lookupswitch dflt ps, len)) (hp : (ps.toList.zip (ps.toList.drop 1)).all (fun (a, next) => a.1 < next.1) = true) (ho : Op.lookupswitch.offset ps.toList dflt x.toInt = off) (ht : (pc : Int) + off = (tgt : Int)) (k : tg_G l M n0 K kc ks tgt lv st w) : tg_G l M n0 K kc ks pc lv (.int x :: st) w := by
  intro p e s m args below meth c D cA A ad H locs ls Qc C a1 a2 hK hA hE hQ hP hD hS hL
  exact lv_lookup C.1 C.2.1 hd hp ho ht (k p e s m args below meth c D cA A ad H locs ls Qc C a1 a2 hK hA hE hQ hP hD hS hL)
theorem g_iret {l : tg_Ln} {M : tg_M} {n0 : Nat} {K : Option Value → List va_E → Prop} {kc ks pc : Nat} {lv : List Value} {w : List va_E} {x : Int32} (hd : decode M.2.1 pc = .ok (.ireturn, 1)) (hr : M.2.2.2.1 = some .int) (hk : K (some (.int x)) w) : tg_G l M n0 K kc ks pc lv [.int x] w := by
  intro p e s m args below meth c D cA A ad H locs ls Qc C a1 a2 hK hA hE hQ hP hD hS hL
  exact W.widen a1 a2 (W.iret (v := x) C.1 C.2.1 (C.2.2.1.trans hr) (fun t ht hW => hQ (some (.int x)) w ad t hk (fun _ _ => rfl) (by rw [ht]; exact hP) hD hW (hS.F ht)) hS.2.2 hd C.2.2.2.2.2.2.1)
theorem g_zret {l : tg_Ln} {M : tg_M} {n0 : Nat} {K : Option Value → List va_E → Prop} {kc ks pc : Nat} {lv : List Value} {w : List va_E} {x : Int32} (hd : decode M.2.1 pc = .ok (.ireturn, 1)) (hr : M.2.2.2.1 = some .boolean) (hn : x = 0 ∨ x = 1) (hk : K (some (.int x)) w) : tg_G l M n0 K kc ks pc lv [.int x] w := by
  intro p e s m args below meth c D cA A ad H locs ls Qc C a1 a2 hK hA hE hQ hP hD hS hL
  exact W.widen a1 a2 (W.zret (v := x) (ty := .boolean) C.1 C.2.1 (C.2.2.1.trans hr) (by rcases hn with rfl | rfl <;> rfl) (fun t ht hW => hQ (some (.int x)) w ad t hk (fun _ _ => rfl) (by rw [ht]; exact hP) hD hW (hS.F ht)) hS.2.2 hd C.2.2.2.2.2.2.1)
theorem g_nret {l : tg_Ln} {M : tg_M} {n0 : Nat} {K : Option Value → List va_E → Prop} {kc ks pc : Nat} {lv : List Value} {w : List va_E} {x : Int32} {ty : FieldType} (hd : decode M.2.1 pc = .ok (.ireturn, 1)) (hr : M.2.2.2.1 = some ty) (hn : narrow ty (.int x) = .int x) (hk : K (some (.int x)) w) : tg_G l M n0 K kc ks pc lv [.int x] w := by
  intro p e s m args below meth c D cA A ad H locs ls Qc C a1 a2 hK hA hE hQ hP hD hS hL
  exact W.widen a1 a2 (W.zret (v := x) (ty := ty) C.1 C.2.1 (C.2.2.1.trans hr) hn (fun t ht hW => hQ (some (.int x)) w ad t hk (fun _ _ => rfl) (by rw [ht]; exact hP) hD hW (hS.F ht)) hS.2.2 hd C.2.2.2.2.2.2.1)
theorem g_lret {l : tg_Ln} {M : tg_M} {n0 : Nat} {K : Option Value → List va_E → Prop} {kc ks pc : Nat} {lv : List Value} {w : List va_E} {x : Int64} (hd : decode M.2.1 pc = .ok (.lreturn, 1)) (hr : M.2.2.2.1 = some .long) (hk : K (some (.long x)) w) : tg_G l M n0 K kc ks pc lv [.long x] w := by
  intro p e s m args below meth c D cA A ad H locs ls Qc C a1 a2 hK hA hE hQ hP hD hS hL
  exact W.widen a1 a2 (W.lret (v := x) C.1 C.2.1 (C.2.2.1.trans hr) (fun t ht hW => hQ (some (.long x)) w ad t hk (fun _ _ => rfl) (by rw [ht]; exact hP) hD hW (hS.F ht)) hS.2.2 hd C.2.2.2.2.2.2.1)
theorem g_aret {l : tg_Ln} {M : tg_M} {n0 : Nat} {K : Option Value → List va_E → Prop} {kc ks pc : Nat} {lv : List Value} {w : List va_E} {x : Nat} {rt : FieldType} (hd : decode M.2.1 pc = .ok (.areturn, 1)) (hr : M.2.2.2.1 = some rt) (hrt : (∃ n, rt = .object n) ∨ ∃ t, rt = .array t) (hk : K (some (.ref x)) w) : tg_G l M n0 K kc ks pc lv [.ref x] w := by
  intro p e s m args below meth c D cA A ad H locs ls Qc C a1 a2 hK hA hE hQ hP hD hS hL
  exact W.widen a1 a2 (W.aret (v := .ref (ad x)) C.1 C.2.1 (C.2.2.1.trans hr) hrt (Or.inr ⟨_, rfl⟩) (fun t ht hW => hQ (some (.ref x)) w ad t hk (fun _ _ => rfl) (by rw [ht]; exact hP) hD hW (hS.F ht)) hS.2.2 hd C.2.2.2.2.2.2.1)
theorem g_vret {l : tg_Ln} {M : tg_M} {n0 : Nat} {K : Option Value → List va_E → Prop} {kc ks pc : Nat} {lv : List Value} {w : List va_E} (hd : decode M.2.1 pc = .ok (.return_, 1)) (hr : M.2.2.2.1 = none) (hk : K none w) : tg_G l M n0 K kc ks pc lv [] w := by
  intro p e s m args below meth c D cA A ad H locs ls Qc C a1 a2 hK hA hE hQ hP hD hS hL
  exact W.widen a1 a2 (W.vret C.1 C.2.1 (C.2.2.1.trans hr) (fun t ht hW => hQ none w ad t hk (fun _ _ => rfl) (by rw [ht]; exact hP) hD hW (hS.F ht)) hS.2.2 hd C.2.2.2.2.2.2.1)
def ti_mmax : tg_K → tg_K := fun k lv st w => match st with
  | .int y :: .int x :: st => (st.map fun v => v.category).sum ≤ 8 ∧ k lv (.int (if x < y then y else x) :: st) w
  | _ => False
theorem si_mmax {M : tg_M} {pc idx : Nat} (hd : decode M.2.1 pc = .ok (.invokestatic idx, 3)) (h1 : Cond.methodLink M.1.cls idx Lib.Math.max.name ∈ tg_T) (h2 : Cond.static Lib.Math.max.name ∈ tg_T) (h3 : Cond.initialized "java/lang/Math" ∈ tg_T) (h4 : Cond.code Lib.Math.max.name Lib.Math.max.code 2 (some .int) ∈ tg_T) (hf : 1 ≤ M.2.2.2.2.frames) (hl : 21 ≤ M.2.2.2.2.locals) : tg_Snd M pc ti_mmax (pc + 3) := by
  intro l n0 K kc ks k hk lv st w h
  unfold ti_mmax at h
  split at h
  · rename_i y x st
    intro p e s m args below meth c D cA A ad H locs ls Qc C a1 a2 hK hA hE hQ hP hD hS hL
    have ht := C.2.2.2.2.2.1
    exact va_mmax C.1 C.2.1 (C.2.2.2.1.trans hL.1.symm) C.2.2.2.2.1 (ht _ h1) (ht _ h2) (ht _ h3) (ht _ h4) hf (by have := h.1; simp only [List.map_map, Function.comp_def, tg_v_cat]; omega) a1 a2 hd (hk _ _ _ h.2 p e s m args below meth c D cA A ad H locs ls Qc C a1 a2 hK hA hE hQ hP hD hS hL)
  · exact h.elim
def ti_mmin : tg_K → tg_K := fun k lv st w => match st with
  | .int y :: .int x :: st => (st.map fun v => v.category).sum ≤ 8 ∧ k lv (.int (if y < x then y else x) :: st) w
  | _ => False
theorem si_mmin {M : tg_M} {pc idx : Nat} (hd : decode M.2.1 pc = .ok (.invokestatic idx, 3)) (h1 : Cond.methodLink M.1.cls idx Lib.Math.min.name ∈ tg_T) (h2 : Cond.static Lib.Math.min.name ∈ tg_T) (h3 : Cond.initialized "java/lang/Math" ∈ tg_T) (h4 : Cond.code Lib.Math.min.name Lib.Math.min.code 2 (some .int) ∈ tg_T) (hf : 1 ≤ M.2.2.2.2.frames) (hl : 21 ≤ M.2.2.2.2.locals) : tg_Snd M pc ti_mmin (pc + 3) := by
  intro l n0 K kc ks k hk lv st w h
  unfold ti_mmin at h
  split at h
  · rename_i y x st
    intro p e s m args below meth c D cA A ad H locs ls Qc C a1 a2 hK hA hE hQ hP hD hS hL
    have ht := C.2.2.2.2.2.1
    exact va_mmin C.1 C.2.1 (C.2.2.2.1.trans hL.1.symm) C.2.2.2.2.1 (ht _ h1) (ht _ h2) (ht _ h3) (ht _ h4) hf (by have := h.1; simp only [List.map_map, Function.comp_def, tg_v_cat]; omega) a1 a2 hd (hk _ _ _ h.2 p e s m args below meth c D cA A ad H locs ls Qc C a1 a2 hK hA hE hQ hP hD hS hL)
  · exact h.elim
def ti_acopy : tg_K → tg_K := fun k lv st w => match st with
  | .int n :: .int dp :: .ref b :: .int sp :: .ref a :: st => match w[a]?, w[b]? with
    | some (.inl (t, n0, .inl f)), some (.inl (u, n1, .inl g)) => (t = 0 ∧ u = 0 ∧ (st.map fun v => v.category).sum ≤ 8) ∧ (¬ sp < 0 ∧ ¬ dp < 0 ∧ ¬ n < 0 ∧ sp.toNatClampNeg + n.toNatClampNeg ≤ n0 ∧ dp.toNatClampNeg + n.toNatClampNeg ≤ n1) ∧ k lv st (w.set b (.inl (u, n1, .inl (va_cpy f g sp.toNatClampNeg dp.toNatClampNeg n.toNatClampNeg))))
    | _, _ => False
  | _ => False
theorem si_acopy {M : tg_M} {pc idx : Nat} (hd : decode M.2.1 pc = .ok (.invokestatic idx, 3)) (h1 : Cond.methodLink M.1.cls idx arraycopyName ∈ tg_T) (h2 : Cond.native arraycopyName ∈ tg_T) (h3 : Cond.static arraycopyName ∈ tg_T) (h4 : Cond.initialized "java/lang/System" ∈ tg_T) (hf : 1 ≤ M.2.2.2.2.frames) (hl : 8 + (nativeFrameWords "java/lang/System" "arraycopy" 5 + 11) ≤ M.2.2.2.2.locals) : tg_Snd M pc ti_acopy (pc + 3) := by
  intro l n0 K kc ks k hk lv st w h
  unfold ti_acopy at h
  split at h
  · rename_i n dp b sp a st
    split at h
    · rename_i t n0' f u n1 g hwa hwb
      obtain ⟨⟨rfl, rfl, hst⟩, ⟨g1, g2, g3, g4, g5⟩, h⟩ := h
      intro p e s m args below meth c D cA A ad H locs ls Qc C a1 a2 hK hA hE hQ hP hD hS hL
      have ht := C.2.2.2.2.2.1
      refine va_copyi (ty := .int) C.1 C.2.1 (C.2.2.2.1.trans hL.1.symm) C.2.2.2.2.1 (ht _ h1) (ht _ h2) (ht _ h3) (ht _ h4) hK hP hD hS a b 0 0 (tg_w_at hwa) (tg_w_at hwb) rfl rfl rfl g1 g2 g3 g4 g5 (fun _ _ => rfl) hf (by simp only [List.map_map, Function.comp_def, tg_v_cat]; omega) hd (fun H1 locs1 hP1 hD1 hS1 => hk _ _ _ h p e s m args below meth c D cA A ad H1 locs1 ls Qc C a1 a2 hK hA hE hQ (?_) (?_) hS1 hL)
      all_goals (rw [tg_w_set0]; simp only [tg_e]; assumption)
    · exact h.elim
  · exact h.elim
/-- the orders' arrays: getstatic, a place, the length -/
def ti_ord (i : Nat) : tg_K → tg_K := fun k lv st w => k lv (.ref (1000 + i) :: st) w
theorem si_ord {M : tg_M} {pc idx i : Nat} (hi : i < 4) (hd : decode M.2.1 pc = .ok (.getstatic idx, 3)) (hl : Cond.fieldLink M.1.cls idx RX4 (tg_on i) "[I" ∈ tg_T) : tg_Snd M pc (ti_ord i) (pc + 3) := by
  intro l n0 K kc ks k hk lv st w h
  unfold ti_ord at h
  intro p e s m args below meth c D cA A ad H locs ls Qc C a1 a2 hK hA hE hQ hP hD hS hL
  exact va_gets C.1 C.2.1 (hE.2.1 i hi).1 hS C.2.2.2.2.1 (C.2.2.2.2.2.1 _ hl) (fun _ h => h) hd (hk _ _ _ h p e s m args below meth c D cA A ad H locs ls Qc C a1 a2 hK hA hE hQ hP hD hS hL)
def ti_oald : tg_K → tg_K := fun k lv st w => match st with
  | .int i :: .ref a :: st => (1000 ≤ a ∧ a < 1004) ∧ vp_in i (tg_ol (a - 1000)).length ∧ k lv (.int ((tg_ol (a - 1000)).getD i.toNatClampNeg 0) :: st) w
  | _ => False
theorem si_oald {M : tg_M} {pc : Nat} (hd : decode M.2.1 pc = .ok (.iaload, 1)) : tg_Snd M pc ti_oald (pc + 1) := by
  intro l n0 K kc ks k hk lv st w h
  unfold ti_oald at h
  split at h
  · rename_i i a st
    obtain ⟨ha, hin, h⟩ := h
    intro p e s m args below meth c D cA A ad H locs ls Qc C a1 a2 hK hA hE hQ hP hD hS hL
    have ha1 : Nat.le 1000 a := ha.1
    have ha2 : Nat.lt a 1004 := ha.2
    have hz := (hE.2.1 (a - 1000) (Nat.sub_lt_left_of_lt_add ha1 ha2)).2
    rw [show 1000 + (a - 1000) = a from Nat.add_sub_of_le ha1] at hz
    exact va_ti C.1 C.2.1 hz hS hin rfl hd (hk _ _ _ h p e s m args below meth c D cA A ad H locs ls Qc C a1 a2 hK hA hE hQ hP hD hS hL)
  · exact h.elim
def ti_olen : tg_K → tg_K := fun k lv st w => match st with
  | .ref a :: st => (1000 ≤ a ∧ a < 1004) ∧ k lv (.int (Int32.ofNat (tg_ol (a - 1000)).length) :: st) w
  | _ => False
theorem si_olen {M : tg_M} {pc : Nat} (hd : decode M.2.1 pc = .ok (.arraylength, 1)) : tg_Snd M pc ti_olen (pc + 1) := by
  intro l n0 K kc ks k hk lv st w h
  unfold ti_olen at h
  split at h
  · rename_i a st
    obtain ⟨ha, h⟩ := h
    intro p e s m args below meth c D cA A ad H locs ls Qc C a1 a2 hK hA hE hQ hP hD hS hL
    have ha1 : Nat.le 1000 a := ha.1
    have ha2 : Nat.lt a 1004 := ha.2
    have hz := (hE.2.1 (a - 1000) (Nat.sub_lt_left_of_lt_add ha1 ha2)).2
    rw [show 1000 + (a - 1000) = a from Nat.add_sub_of_le ha1] at hz
    exact va_tlen C.1 C.2.1 hz hS rfl hd (hk _ _ _ h p e s m args below meth c D cA A ad H locs ls Qc C a1 a2 hK hA hE hQ hP hD hS hL)
  · exact h.elim
/-- the script: a place, the length -/
theorem g_xald {l : tg_Ln} {M : tg_M} {n0 : Nat} {K : Option Value → List va_E → Prop} {kc ks pc : Nat} {lv st : List Value} {w : List va_E} {i : Int32} (hd : decode M.2.1 pc = .ok (.iaload, 1)) (hin : vp_in i l.2.1) (k : tg_G l M n0 K kc ks (pc + 1) lv (.int (l.2.2 i.toNatClampNeg) :: st) w) : tg_G l M n0 K kc ks pc lv (.int i :: .ref 1040 :: st) w := by
  intro p e s m args below meth c D cA A ad H locs ls Qc C a1 a2 hK hA hE hQ hP hD hS hL
  exact va_sld C.1 C.2.1 hE.1.1 hE.1.2.1 hE.1.2.2 hS hin hd (k p e s m args below meth c D cA A ad H locs ls Qc C a1 a2 hK hA hE hQ hP hD hS hL)
theorem g_xlen {l : tg_Ln} {M : tg_M} {n0 : Nat} {K : Option Value → List va_E → Prop} {kc ks pc : Nat} {lv st : List Value} {w : List va_E} (hd : decode M.2.1 pc = .ok (.arraylength, 1)) (k : tg_G l M n0 K kc ks (pc + 1) lv (.int (Int32.ofNat l.2.1) :: st) w) : tg_G l M n0 K kc ks pc lv (.ref 1040 :: st) w := by
  intro p e s m args below meth c D cA A ad H locs ls Qc C a1 a2 hK hA hE hQ hP hD hS hL
  exact va_slen C.1 C.2.1 hE.1.1 hE.1.2.1 hE.1.2.2 hS hd (k p e s m args below meth c D cA A ad H locs ls Qc C a1 a2 hK hA hE hQ hP hD hS hL)
def ti_aald : tg_K → tg_K := fun k lv st w => match st with
  | .int i :: .ref a :: st => match w[a]? with
    | some (.inl (t, n, .inr (.inr (.inr (.inr f))))) => (t = 4 ∨ t = 5) ∧ vp_in i n ∧ (match f i.toNatClampNeg with
      | some q => k lv (.ref q :: st) w
      | none => False)
    | _ => False
  | _ => False
theorem si_aald {M : tg_M} {pc : Nat} (hd : decode M.2.1 pc = .ok (.aaload, 1)) : tg_Snd M pc ti_aald (pc + 1) := by
  intro l n0 K kc ks k hk lv st w h
  unfold ti_aald at h
  split at h
  · rename_i i a st
    split at h
    · rename_i t n f hw
      obtain ⟨ht, hin, h⟩ := h
      split at h
      · rename_i q hq
        intro p e s m args below meth c D cA A ad H locs ls Qc C a1 a2 hK hA hE hQ hP hD hS hL
        have hlt : i.toNatClampNeg < n := Nat.not_le.mp fun q => hin (Or.inr q)
        obtain ⟨ty, hty, hrk⟩ : ∃ ty, (tg_tys cA)[t]? = some (cA t, ty) ∧ ((∃ C, ty = .object C) ∨ ∃ u, ty = .array u) := by
          rcases ht with rfl | rfl
          · exact ⟨_, rfl, Or.inl ⟨_, rfl⟩⟩
          · exact ⟨_, rfl, Or.inr ⟨_, rfl⟩⟩
        have hw' : (tg_w cA ad 0 w)[a]? = some (ad a, .inl (cA t, n, .inr (.inr (.inr (.inr (fun j => (f j).map ad)))))) := tg_w_at hw
        refine W.aald (v := va_rf ((f i.toNatClampNeg).map ad)) (ty := ty) C.1 C.2.1 (hP a _ hw') ((hK.2 t _ hty).1 n (fun j => va_rf ((f j).map ad))) (by rcases hrk with ⟨_, rfl⟩ | ⟨_, rfl⟩ <;> rfl) (fun q => by cases q) (by show ¬ (i < 0 ∨ (arrV _ _ _).slots.size ≤ _); rw [arrV_size]; exact hin) (by show (arrV _ _ _).slots[_]? = _; rw [arrV_read _ _ hlt]) rfl rfl hd ?_
        rw [hq]
        exact hk _ _ _ h p e s m args below meth c D cA A ad H locs ls Qc C a1 a2 hK hA hE hQ hP hD hS hL
      · exact h.elim
    · exact h.elim
  · exact h.elim
def ti_str (i : Nat) : tg_K → tg_K := fun k lv st w => k lv (.ref (1010 + i) :: st) w
theorem si_str {M : tg_M} {pc idx i : Nat} (hi : i < 4) (hM : M.1.cls = RX1) (hx : idx = tg_sk i) (hd : decode M.2.1 pc = .ok (.ldc idx, 2)) : tg_Snd M pc (ti_str i) (pc + 2) := by
  intro l n0 K kc ks k hk lv st w h
  unfold ti_str at h
  intro p e s m args below meth c D cA A ad H locs ls Qc C a1 a2 hK hA hE hQ hP hD hS hL
  subst hx
  exact va_ldcS (own := RX1) C.1 C.2.1 (by rw [← hM]; exact C.2.2.2.2.1) (hE.2.2.1.2 i hi) hd (hk _ _ _ h p e s m args below meth c D cA A ad H locs ls Qc C a1 a2 hK hA hE hQ hP hD hS hL)
end
section
/-! the methods: names, bytes, locals, return types, rooms; and what the tables say of them -/
theorem iniX0 : Cond.initialized RX0 ∈ tg_T := tg_mem 56 (by decide +kernel) rfl
theorem iniX1 : Cond.initialized RX1 ∈ tg_T := tg_mem 53 (by decide +kernel) rfl
theorem iniX2 : Cond.initialized RX2 ∈ tg_T := tg_mem 69 (by decide +kernel) rfl
theorem iniX3 : Cond.initialized RX3 ∈ tg_T := tg_mem 59 (by decide +kernel) rfl
theorem iniX4 : Cond.initialized RX4 ∈ tg_T := tg_mem 57 (by decide +kernel) rfl
theorem iniX5 : Cond.initialized RX5 ∈ tg_T := tg_mem 58 (by decide +kernel) rfl
theorem iniX6 : Cond.initialized RX6 ∈ tg_T := tg_mem 55 (by decide +kernel) rfl
theorem iniX7 : Cond.initialized RX7 ∈ tg_T := tg_mem 54 (by decide +kernel) rfl
theorem iniX8 : Cond.initialized RX8 ∈ tg_T := tg_mem 52 (by decide +kernel) rfl
theorem iniX9 : Cond.initialized RX9 ∈ tg_T := tg_mem 60 (by decide +kernel) rfl
theorem iniJ6 : Cond.initialized RJ6 ∈ tg_T := tg_mem 68 (by decide +kernel) rfl
theorem iniJ13 : Cond.initialized RJ13 ∈ tg_T := tg_mem 67 (by decide +kernel) rfl
theorem iniMath : Cond.initialized "java/lang/Math" ∈ tg_T := tg_mem 66 (by decide +kernel) rfl
theorem iniSys : Cond.initialized "java/lang/System" ∈ tg_T := tg_mem 61 (by decide +kernel) rfl
def mX0_init : tg_M := (yX0_init, cX0_init, 1, none, { frames := 2, cells := 15, slots := 3431, locals := 41 })
theorem okX0_init : tg_ok mX0_init := ⟨tg_mem 167 (by decide +kernel) rfl, iniX0, by decide, by decide, by decide⟩
theorem insX0_init : Cond.instanceMethod yX0_init ∈ tg_T := tg_mem 166 (by decide +kernel) rfl
theorem parX0_init : (parseMethodDescriptor mX0_init.1.desc).map (fun d => d.parameters.length) = some 0 := by decide +kernel
def mX0_list : tg_M := (yX0_list, cX0_list, 2, none, { frames := 4, cells := 0, slots := 0, locals := 96 })
theorem okX0_list : tg_ok mX0_list := ⟨tg_mem 515 (by decide +kernel) rfl, iniX0, by decide, by decide, by decide⟩
theorem insX0_list : Cond.instanceMethod yX0_list ∈ tg_T := tg_mem 513 (by decide +kernel) rfl
theorem selX0_list : Cond.selects RX0 yX0_list yX0_list ∈ tg_T := tg_mem 514 (by decide +kernel) rfl
theorem parX0_list : (parseMethodDescriptor mX0_list.1.desc).map (fun d => d.parameters.length) = some 0 := by decide +kernel
def mX0_findHaving : tg_M := (yX0_findHaving, cX0_findHaving, 5, none, { frames := 0, cells := 0, slots := 0, locals := 0 })
theorem okX0_findHaving : tg_ok mX0_findHaving := ⟨tg_mem 519 (by decide +kernel) rfl, iniX0, by decide, by decide, by decide⟩
theorem insX0_findHaving : Cond.instanceMethod yX0_findHaving ∈ tg_T := tg_mem 518 (by decide +kernel) rfl
theorem selX0_findHaving : Cond.selects RX0 yX0_findHaving yX0_findHaving ∈ tg_T := tg_mem 6 (by decide +kernel) rfl
theorem parX0_findHaving : (parseMethodDescriptor mX0_findHaving.1.desc).map (fun d => d.parameters.length) = some 0 := by decide +kernel
def mX0_spreadBy : tg_M := (yX0_spreadBy, cX0_spreadBy, 7, none, { frames := 1, cells := 0, slots := 0, locals := 23 })
theorem okX0_spreadBy : tg_ok mX0_spreadBy := ⟨tg_mem 523 (by decide +kernel) rfl, iniX0, by decide, by decide, by decide⟩
theorem insX0_spreadBy : Cond.instanceMethod yX0_spreadBy ∈ tg_T := tg_mem 522 (by decide +kernel) rfl
theorem selX0_spreadBy : Cond.selects RX0 yX0_spreadBy yX0_spreadBy ∈ tg_T := tg_mem 7 (by decide +kernel) rfl
theorem parX0_spreadBy : (parseMethodDescriptor mX0_spreadBy.1.desc).map (fun d => d.parameters.length) = some 1 := by decide +kernel
def mX0_tally : tg_M := (yX0_tally, cX0_tally, 3, none, { frames := 3, cells := 0, slots := 0, locals := 74 })
theorem okX0_tally : tg_ok mX0_tally := ⟨tg_mem 531 (by decide +kernel) rfl, iniX0, by decide, by decide, by decide⟩
theorem insX0_tally : Cond.instanceMethod yX0_tally ∈ tg_T := tg_mem 530 (by decide +kernel) rfl
theorem selX0_tally : Cond.selects RX0 yX0_tally yX0_tally ∈ tg_T := tg_mem 9 (by decide +kernel) rfl
theorem parX0_tally : (parseMethodDescriptor mX0_tally.1.desc).map (fun d => d.parameters.length) = some 0 := by decide +kernel
def mX0_havingFigure : tg_M := (yX0_havingFigure, cX0_havingFigure, 4, (some .long), { frames := 0, cells := 0, slots := 0, locals := 0 })
theorem okX0_havingFigure : tg_ok mX0_havingFigure := ⟨tg_mem 527 (by decide +kernel) rfl, iniX0, by decide, by decide, by decide⟩
theorem insX0_havingFigure : Cond.instanceMethod yX0_havingFigure ∈ tg_T := tg_mem 526 (by decide +kernel) rfl
theorem selX0_havingFigure : Cond.selects RX0 yX0_havingFigure yX0_havingFigure ∈ tg_T := tg_mem 8 (by decide +kernel) rfl
theorem parX0_havingFigure : (parseMethodDescriptor mX0_havingFigure.1.desc).map (fun d => d.parameters.length) = some 2 := by decide +kernel
def mX0_coverOf : tg_M := (yX0_coverOf, cX0_coverOf, 7, (some .long), { frames := 1, cells := 0, slots := 0, locals := 23 })
theorem okX0_coverOf : tg_ok mX0_coverOf := ⟨tg_mem 556 (by decide +kernel) rfl, iniX0, by decide, by decide, by decide⟩
theorem insX0_coverOf : Cond.instanceMethod yX0_coverOf ∈ tg_T := tg_mem 554 (by decide +kernel) rfl
theorem selX0_coverOf : Cond.selects RX0 yX0_coverOf yX0_coverOf ∈ tg_T := tg_mem 555 (by decide +kernel) rfl
theorem parX0_coverOf : (parseMethodDescriptor mX0_coverOf.1.desc).map (fun d => d.parameters.length) = some 1 := by decide +kernel
def mX0_closureOf : tg_M := (yX0_closureOf, cX0_closureOf, 4, (some .int), { frames := 2, cells := 0, slots := 0, locals := 51 })
theorem okX0_closureOf : tg_ok mX0_closureOf := ⟨tg_mem 542 (by decide +kernel) rfl, iniX0, by decide, by decide, by decide⟩
theorem insX0_closureOf : Cond.instanceMethod yX0_closureOf ∈ tg_T := tg_mem 540 (by decide +kernel) rfl
theorem selX0_closureOf : Cond.selects RX0 yX0_closureOf yX0_closureOf ∈ tg_T := tg_mem 541 (by decide +kernel) rfl
theorem parX0_closureOf : (parseMethodDescriptor mX0_closureOf.1.desc).map (fun d => d.parameters.length) = some 1 := by decide +kernel
def mX0_sharedWith : tg_M := (yX0_sharedWith, cX0_sharedWith, 9, (some .int), { frames := 1, cells := 0, slots := 0, locals := 23 })
theorem okX0_sharedWith : tg_ok mX0_sharedWith := ⟨tg_mem 547 (by decide +kernel) rfl, iniX0, by decide, by decide, by decide⟩
theorem insX0_sharedWith : Cond.instanceMethod yX0_sharedWith ∈ tg_T := tg_mem 546 (by decide +kernel) rfl
theorem selX0_sharedWith : Cond.selects RX0 yX0_sharedWith yX0_sharedWith ∈ tg_T := tg_mem 10 (by decide +kernel) rfl
theorem parX0_sharedWith : (parseMethodDescriptor mX0_sharedWith.1.desc).map (fun d => d.parameters.length) = some 2 := by decide +kernel
def mX0_dimensionsOf : tg_M := (yX0_dimensionsOf, cX0_dimensionsOf, 5, (some .int), { frames := 0, cells := 0, slots := 0, locals := 0 })
theorem okX0_dimensionsOf : tg_ok mX0_dimensionsOf := ⟨tg_mem 552 (by decide +kernel) rfl, iniX0, by decide, by decide, by decide⟩
theorem insX0_dimensionsOf : Cond.instanceMethod yX0_dimensionsOf ∈ tg_T := tg_mem 551 (by decide +kernel) rfl
theorem selX0_dimensionsOf : Cond.selects RX0 yX0_dimensionsOf yX0_dimensionsOf ∈ tg_T := tg_mem 11 (by decide +kernel) rfl
theorem parX0_dimensionsOf : (parseMethodDescriptor mX0_dimensionsOf.1.desc).map (fun d => d.parameters.length) = some 1 := by decide +kernel
def mX0_within : tg_M := (yX0_within, cX0_within, 7, (some .int), { frames := 0, cells := 0, slots := 0, locals := 0 })
theorem okX0_within : tg_ok mX0_within := ⟨tg_mem 649 (by decide +kernel) rfl, iniX0, by decide, by decide, by decide⟩
theorem insX0_within : Cond.instanceMethod yX0_within ∈ tg_T := tg_mem 648 (by decide +kernel) rfl
theorem selX0_within : Cond.selects RX0 yX0_within yX0_within ∈ tg_T := tg_mem 12 (by decide +kernel) rfl
theorem parX0_within : (parseMethodDescriptor mX0_within.1.desc).map (fun d => d.parameters.length) = some 2 := by decide +kernel
def mX0_codeInCube : tg_M := (yX0_codeInCube, cX0_codeInCube, 4, (some .int), { frames := 1, cells := 0, slots := 0, locals := 21 })
theorem okX0_codeInCube : tg_ok mX0_codeInCube := ⟨tg_mem 589 (by decide +kernel) rfl, iniX0, by decide, by decide, by decide⟩
theorem insX0_codeInCube : Cond.instanceMethod yX0_codeInCube ∈ tg_T := tg_mem 587 (by decide +kernel) rfl
theorem selX0_codeInCube : Cond.selects RX0 yX0_codeInCube yX0_codeInCube ∈ tg_T := tg_mem 588 (by decide +kernel) rfl
theorem parX0_codeInCube : (parseMethodDescriptor mX0_codeInCube.1.desc).map (fun d => d.parameters.length) = some 1 := by decide +kernel
def mX0_cubeSize : tg_M := (yX0_cubeSize, cX0_cubeSize, 2, (some .int), { frames := 2, cells := 0, slots := 0, locals := 44 })
theorem okX0_cubeSize : tg_ok mX0_cubeSize := ⟨tg_mem 658 (by decide +kernel) rfl, iniX0, by decide, by decide, by decide⟩
theorem insX0_cubeSize : Cond.instanceMethod yX0_cubeSize ∈ tg_T := tg_mem 656 (by decide +kernel) rfl
theorem selX0_cubeSize : Cond.selects RX0 yX0_cubeSize yX0_cubeSize ∈ tg_T := tg_mem 657 (by decide +kernel) rfl
theorem parX0_cubeSize : (parseMethodDescriptor mX0_cubeSize.1.desc).map (fun d => d.parameters.length) = some 1 := by decide +kernel
def mX0_cellsWith : tg_M := (yX0_cellsWith, cX0_cellsWith, 2, (some .int), { frames := 2, cells := 0, slots := 0, locals := 44 })
theorem okX0_cellsWith : tg_ok mX0_cellsWith := ⟨tg_mem 772 (by decide +kernel) rfl, iniX0, by decide, by decide, by decide⟩
theorem insX0_cellsWith : Cond.instanceMethod yX0_cellsWith ∈ tg_T := tg_mem 770 (by decide +kernel) rfl
theorem selX0_cellsWith : Cond.selects RX0 yX0_cellsWith yX0_cellsWith ∈ tg_T := tg_mem 771 (by decide +kernel) rfl
theorem parX0_cellsWith : (parseMethodDescriptor mX0_cellsWith.1.desc).map (fun d => d.parameters.length) = some 1 := by decide +kernel
def mX0_ofSizeOrMore : tg_M := (yX0_ofSizeOrMore, cX0_ofSizeOrMore, 4, (some .int), { frames := 1, cells := 0, slots := 0, locals := 21 })
theorem okX0_ofSizeOrMore : tg_ok mX0_ofSizeOrMore := ⟨tg_mem 661 (by decide +kernel) rfl, iniX0, by decide, by decide, by decide⟩
theorem staX0_ofSizeOrMore : Cond.static yX0_ofSizeOrMore ∈ tg_T := tg_mem 660 (by decide +kernel) rfl
theorem parX0_ofSizeOrMore : (parseMethodDescriptor mX0_ofSizeOrMore.1.desc).map (fun d => d.parameters.length) = some 2 := by decide +kernel
def mX0_leastSupportFor : tg_M := (yX0_leastSupportFor, cX0_leastSupportFor, 3, (some .int), { frames := 3, cells := 0, slots := 0, locals := 65 })
theorem okX0_leastSupportFor : tg_ok mX0_leastSupportFor := ⟨tg_mem 678 (by decide +kernel) rfl, iniX0, by decide, by decide, by decide⟩
theorem insX0_leastSupportFor : Cond.instanceMethod yX0_leastSupportFor ∈ tg_T := tg_mem 676 (by decide +kernel) rfl
theorem selX0_leastSupportFor : Cond.selects RX0 yX0_leastSupportFor yX0_leastSupportFor ∈ tg_T := tg_mem 677 (by decide +kernel) rfl
theorem parX0_leastSupportFor : (parseMethodDescriptor mX0_leastSupportFor.1.desc).map (fun d => d.parameters.length) = some 1 := by decide +kernel
def mX0_isInCube : tg_M := (yX0_isInCube, cX0_isInCube, 4, (some .boolean), { frames := 3, cells := 0, slots := 0, locals := 74 })
theorem okX0_isInCube : tg_ok mX0_isInCube := ⟨tg_mem 654 (by decide +kernel) rfl, iniX0, by decide, by decide, by decide⟩
theorem insX0_isInCube : Cond.instanceMethod yX0_isInCube ∈ tg_T := tg_mem 653 (by decide +kernel) rfl
theorem selX0_isInCube : Cond.selects RX0 yX0_isInCube yX0_isInCube ∈ tg_T := tg_mem 13 (by decide +kernel) rfl
theorem parX0_isInCube : (parseMethodDescriptor mX0_isInCube.1.desc).map (fun d => d.parameters.length) = some 2 := by decide +kernel
def mX0_gainedWith : tg_M := (yX0_gainedWith, cX0_gainedWith, 8, (some .int), { frames := 4, cells := 0, slots := 0, locals := 97 })
theorem okX0_gainedWith : tg_ok mX0_gainedWith := ⟨tg_mem 645 (by decide +kernel) rfl, iniX0, by decide, by decide, by decide⟩
theorem insX0_gainedWith : Cond.instanceMethod yX0_gainedWith ∈ tg_T := tg_mem 643 (by decide +kernel) rfl
theorem selX0_gainedWith : Cond.selects RX0 yX0_gainedWith yX0_gainedWith ∈ tg_T := tg_mem 644 (by decide +kernel) rfl
theorem parX0_gainedWith : (parseMethodDescriptor mX0_gainedWith.1.desc).map (fun d => d.parameters.length) = some 1 := by decide +kernel
def mX0_lostWithout : tg_M := (yX0_lostWithout, cX0_lostWithout, 7, (some .int), { frames := 4, cells := 0, slots := 0, locals := 97 })
theorem okX0_lostWithout : tg_ok mX0_lostWithout := ⟨tg_mem 670 (by decide +kernel) rfl, iniX0, by decide, by decide, by decide⟩
theorem insX0_lostWithout : Cond.instanceMethod yX0_lostWithout ∈ tg_T := tg_mem 668 (by decide +kernel) rfl
theorem selX0_lostWithout : Cond.selects RX0 yX0_lostWithout yX0_lostWithout ∈ tg_T := tg_mem 669 (by decide +kernel) rfl
theorem parX0_lostWithout : (parseMethodDescriptor mX0_lostWithout.1.desc).map (fun d => d.parameters.length) = some 1 := by decide +kernel
def mX0_leastKey : tg_M := (yX0_leastKey, cX0_leastKey, 4, (some .int), { frames := 1, cells := 0, slots := 0, locals := 20 })
theorem okX0_leastKey : tg_ok mX0_leastKey := ⟨tg_mem 687 (by decide +kernel) rfl, iniX0, by decide, by decide, by decide⟩
theorem insX0_leastKey : Cond.instanceMethod yX0_leastKey ∈ tg_T := tg_mem 685 (by decide +kernel) rfl
theorem selX0_leastKey : Cond.selects RX0 yX0_leastKey yX0_leastKey ∈ tg_T := tg_mem 686 (by decide +kernel) rfl
theorem parX0_leastKey : (parseMethodDescriptor mX0_leastKey.1.desc).map (fun d => d.parameters.length) = some 0 := by decide +kernel
def mX0_settles : tg_M := (yX0_settles, cX0_settles, 4, (some .boolean), { frames := 0, cells := 0, slots := 0, locals := 0 })
theorem okX0_settles : tg_ok mX0_settles := ⟨tg_mem 701 (by decide +kernel) rfl, iniX0, by decide, by decide, by decide⟩
theorem insX0_settles : Cond.instanceMethod yX0_settles ∈ tg_T := tg_mem 699 (by decide +kernel) rfl
theorem selX0_settles : Cond.selects RX0 yX0_settles yX0_settles ∈ tg_T := tg_mem 700 (by decide +kernel) rfl
theorem parX0_settles : (parseMethodDescriptor mX0_settles.1.desc).map (fun d => d.parameters.length) = some 2 := by decide +kernel
def mX0_parted : tg_M := (yX0_parted, cX0_parted, 3, (some (.object "CubeClosures$Parting")), { frames := 1, cells := 0, slots := 0, locals := 24 })
theorem okX0_parted : tg_ok mX0_parted := ⟨tg_mem 604 (by decide +kernel) rfl, iniX0, by decide, by decide, by decide⟩
theorem insX0_parted : Cond.instanceMethod yX0_parted ∈ tg_T := tg_mem 602 (by decide +kernel) rfl
theorem selX0_parted : Cond.selects RX0 yX0_parted yX0_parted ∈ tg_T := tg_mem 603 (by decide +kernel) rfl
theorem parX0_parted : (parseMethodDescriptor mX0_parted.1.desc).map (fun d => d.parameters.length) = some 0 := by decide +kernel
def mX1_init : tg_M := (yX1_init, cX1_init, 1, none, { frames := 2, cells := 7, slots := 298, locals := 41 })
theorem okX1_init : tg_ok mX1_init := ⟨tg_mem 82 (by decide +kernel) rfl, iniX1, by decide, by decide, by decide⟩
theorem insX1_init : Cond.instanceMethod yX1_init ∈ tg_T := tg_mem 81 (by decide +kernel) rfl
theorem parX1_init : (parseMethodDescriptor mX1_init.1.desc).map (fun d => d.parameters.length) = some 0 := by decide +kernel
def mX1_draftUpon : tg_M := (yX1_draftUpon, cX1_draftUpon, 2, (some .int), { frames := 7, cells := 0, slots := 0, locals := 148 })
theorem okX1_draftUpon : tg_ok mX1_draftUpon := ⟨tg_mem 324 (by decide +kernel) rfl, iniX1, by decide, by decide, by decide⟩
theorem insX1_draftUpon : Cond.instanceMethod yX1_draftUpon ∈ tg_T := tg_mem 322 (by decide +kernel) rfl
theorem selX1_draftUpon : Cond.selects RX1 yX1_draftUpon yX1_draftUpon ∈ tg_T := tg_mem 323 (by decide +kernel) rfl
theorem parX1_draftUpon : (parseMethodDescriptor mX1_draftUpon.1.desc).map (fun d => d.parameters.length) = some 1 := by decide +kernel
def mX1_doClause : tg_M := (yX1_doClause, cX1_doClause, 1, (some .boolean), { frames := 6, cells := 0, slots := 0, locals := 128 })
theorem okX1_doClause : tg_ok mX1_doClause := ⟨tg_mem 349 (by decide +kernel) rfl, iniX1, by decide, by decide, by decide⟩
theorem insX1_doClause : Cond.instanceMethod yX1_doClause ∈ tg_T := tg_mem 348 (by decide +kernel) rfl
theorem selX1_doClause : Cond.selects RX1 yX1_doClause yX1_doClause ∈ tg_T := tg_mem 0 (by decide +kernel) rfl
theorem parX1_doClause : (parseMethodDescriptor mX1_doClause.1.desc).map (fun d => d.parameters.length) = some 0 := by decide +kernel
def mX1_doTable : tg_M := (yX1_doTable, cX1_doTable, 3, (some .boolean), { frames := 2, cells := 0, slots := 0, locals := 48 })
theorem okX1_doTable : tg_ok mX1_doTable := ⟨tg_mem 406 (by decide +kernel) rfl, iniX1, by decide, by decide, by decide⟩
theorem insX1_doTable : Cond.instanceMethod yX1_doTable ∈ tg_T := tg_mem 405 (by decide +kernel) rfl
theorem selX1_doTable : Cond.selects RX1 yX1_doTable yX1_doTable ∈ tg_T := tg_mem 1 (by decide +kernel) rfl
theorem parX1_doTable : (parseMethodDescriptor mX1_doTable.1.desc).map (fun d => d.parameters.length) = some 0 := by decide +kernel
def mX1_doSupport : tg_M := (yX1_doSupport, cX1_doSupport, 2, (some .boolean), { frames := 2, cells := 0, slots := 0, locals := 44 })
theorem okX1_doSupport : tg_ok mX1_doSupport := ⟨tg_mem 423 (by decide +kernel) rfl, iniX1, by decide, by decide, by decide⟩
theorem insX1_doSupport : Cond.instanceMethod yX1_doSupport ∈ tg_T := tg_mem 422 (by decide +kernel) rfl
theorem selX1_doSupport : Cond.selects RX1 yX1_doSupport yX1_doSupport ∈ tg_T := tg_mem 2 (by decide +kernel) rfl
theorem parX1_doSupport : (parseMethodDescriptor mX1_doSupport.1.desc).map (fun d => d.parameters.length) = some 0 := by decide +kernel
def mX1_doRow : tg_M := (yX1_doRow, cX1_doRow, 4, (some .boolean), { frames := 2, cells := 0, slots := 0, locals := 49 })
theorem okX1_doRow : tg_ok mX1_doRow := ⟨tg_mem 428 (by decide +kernel) rfl, iniX1, by decide, by decide, by decide⟩
theorem insX1_doRow : Cond.instanceMethod yX1_doRow ∈ tg_T := tg_mem 427 (by decide +kernel) rfl
theorem selX1_doRow : Cond.selects RX1 yX1_doRow yX1_doRow ∈ tg_T := tg_mem 3 (by decide +kernel) rfl
theorem parX1_doRow : (parseMethodDescriptor mX1_doRow.1.desc).map (fun d => d.parameters.length) = some 0 := by decide +kernel
def mX2_result : tg_M := (yX2_result, cX2_result, 5, (some .long), { frames := 0, cells := 0, slots := 0, locals := 0 })
theorem okX2_result : tg_ok mX2_result := ⟨tg_mem 740 (by decide +kernel) rfl, iniX2, by decide, by decide, by decide⟩
theorem staX2_result : Cond.static yX2_result ∈ tg_T := tg_mem 739 (by decide +kernel) rfl
theorem parX2_result : (parseMethodDescriptor mX2_result.1.desc).map (fun d => d.parameters.length) = some 3 := by decide +kernel
def mX2_isOver : tg_M := (yX2_isOver, cX2_isOver, 7, (some .boolean), { frames := 1, cells := 0, slots := 0, locals := 24 })
theorem okX2_isOver : tg_ok mX2_isOver := ⟨tg_mem 737 (by decide +kernel) rfl, iniX2, by decide, by decide, by decide⟩
theorem staX2_isOver : Cond.static yX2_isOver ∈ tg_T := tg_mem 736 (by decide +kernel) rfl
theorem parX2_isOver : (parseMethodDescriptor mX2_isOver.1.desc).map (fun d => d.parameters.length) = some 3 := by decide +kernel
def mX3_init : tg_M := (yX3_init, cX3_init, 2, none, { frames := 1, cells := 5, slots := 42, locals := 20 })
theorem okX3_init : tg_ok mX3_init := ⟨tg_mem 261 (by decide +kernel) rfl, iniX3, by decide, by decide, by decide⟩
theorem insX3_init : Cond.instanceMethod yX3_init ∈ tg_T := tg_mem 260 (by decide +kernel) rfl
theorem parX3_init : (parseMethodDescriptor mX3_init.1.desc).map (fun d => d.parameters.length) = some 0 := by decide +kernel
def mX3_isRow : tg_M := (yX3_isRow, cX3_isRow, 1, (some .boolean), { frames := 0, cells := 0, slots := 0, locals := 0 })
theorem okX3_isRow : tg_ok mX3_isRow := ⟨tg_mem 708 (by decide +kernel) rfl, iniX3, by decide, by decide, by decide⟩
theorem staX3_isRow : Cond.static yX3_isRow ∈ tg_T := tg_mem 707 (by decide +kernel) rfl
theorem parX3_isRow : (parseMethodDescriptor mX3_isRow.1.desc).map (fun d => d.parameters.length) = some 1 := by decide +kernel
def mX3_isMissing : tg_M := (yX3_isMissing, cX3_isMissing, 2, (some .boolean), { frames := 1, cells := 0, slots := 0, locals := 20 })
theorem okX3_isMissing : tg_ok mX3_isMissing := ⟨tg_mem 729 (by decide +kernel) rfl, iniX3, by decide, by decide, by decide⟩
theorem insX3_isMissing : Cond.instanceMethod yX3_isMissing ∈ tg_T := tg_mem 727 (by decide +kernel) rfl
theorem selX3_isMissing : Cond.selects RX3 yX3_isMissing yX3_isMissing ∈ tg_T := tg_mem 728 (by decide +kernel) rfl
theorem parX3_isMissing : (parseMethodDescriptor mX3_isMissing.1.desc).map (fun d => d.parameters.length) = some 1 := by decide +kernel
def mX3_renew : tg_M := (yX3_renew, cX3_renew, 4, none, { frames := 1, cells := 0, slots := 0, locals := 20 })
theorem okX3_renew : tg_ok mX3_renew := ⟨tg_mem 712 (by decide +kernel) rfl, iniX3, by decide, by decide, by decide⟩
theorem insX3_renew : Cond.instanceMethod yX3_renew ∈ tg_T := tg_mem 710 (by decide +kernel) rfl
theorem selX3_renew : Cond.selects RX3 yX3_renew yX3_renew ∈ tg_T := tg_mem 711 (by decide +kernel) rfl
theorem parX3_renew : (parseMethodDescriptor mX3_renew.1.desc).map (fun d => d.parameters.length) = some 2 := by decide +kernel
def mX3_finds : tg_M := (yX3_finds, cX3_finds, 3, (some .int), { frames := 2, cells := 0, slots := 0, locals := 41 })
theorem okX3_finds : tg_ok mX3_finds := ⟨tg_mem 725 (by decide +kernel) rfl, iniX3, by decide, by decide, by decide⟩
theorem insX3_finds : Cond.instanceMethod yX3_finds ∈ tg_T := tg_mem 723 (by decide +kernel) rfl
theorem selX3_finds : Cond.selects RX3 yX3_finds yX3_finds ∈ tg_T := tg_mem 724 (by decide +kernel) rfl
theorem parX3_finds : (parseMethodDescriptor mX3_finds.1.desc).map (fun d => d.parameters.length) = some 2 := by decide +kernel
def mX3_put : tg_M := (yX3_put, cX3_put, 6, (some .int), { frames := 3, cells := 0, slots := 0, locals := 63 })
theorem okX3_put : tg_ok mX3_put := ⟨tg_mem 721 (by decide +kernel) rfl, iniX3, by decide, by decide, by decide⟩
theorem insX3_put : Cond.instanceMethod yX3_put ∈ tg_T := tg_mem 719 (by decide +kernel) rfl
theorem selX3_put : Cond.selects RX3 yX3_put yX3_put ∈ tg_T := tg_mem 720 (by decide +kernel) rfl
theorem parX3_put : (parseMethodDescriptor mX3_put.1.desc).map (fun d => d.parameters.length) = some 3 := by decide +kernel
def mX3_placesInAll : tg_M := (yX3_placesInAll, cX3_placesInAll, 3, (some .int), { frames := 1, cells := 0, slots := 0, locals := 21 })
theorem okX3_placesInAll : tg_ok mX3_placesInAll := ⟨tg_mem 780 (by decide +kernel) rfl, iniX3, by decide, by decide, by decide⟩
theorem insX3_placesInAll : Cond.instanceMethod yX3_placesInAll ∈ tg_T := tg_mem 778 (by decide +kernel) rfl
theorem selX3_placesInAll : Cond.selects RX3 yX3_placesInAll yX3_placesInAll ∈ tg_T := tg_mem 779 (by decide +kernel) rfl
theorem parX3_placesInAll : (parseMethodDescriptor mX3_placesInAll.1.desc).map (fun d => d.parameters.length) = some 0 := by decide +kernel
def mX4_init : tg_M := (yX4_init, cX4_init, 1, none, { frames := 1, cells := 1, slots := 16, locals := 20 })
theorem okX4_init : tg_ok mX4_init := ⟨tg_mem 175 (by decide +kernel) rfl, iniX4, by decide, by decide, by decide⟩
theorem insX4_init : Cond.instanceMethod yX4_init ∈ tg_T := tg_mem 174 (by decide +kernel) rfl
theorem parX4_init : (parseMethodDescriptor mX4_init.1.desc).map (fun d => d.parameters.length) = some 0 := by decide +kernel
def mX4_isOrder : tg_M := (yX4_isOrder, cX4_isOrder, 6, (some .boolean), { frames := 0, cells := 0, slots := 0, locals := 0 })
theorem okX4_isOrder : tg_ok mX4_isOrder := ⟨tg_mem 600 (by decide +kernel) rfl, iniX4, by decide, by decide, by decide⟩
theorem staX4_isOrder : Cond.static yX4_isOrder ∈ tg_T := tg_mem 599 (by decide +kernel) rfl
theorem parX4_isOrder : (parseMethodDescriptor mX4_isOrder.1.desc).map (fun d => d.parameters.length) = some 2 := by decide +kernel
def mX4_startWith : tg_M := (yX4_startWith, cX4_startWith, 4, none, { frames := 0, cells := 0, slots := 0, locals := 0 })
theorem okX4_startWith : tg_ok mX4_startWith := ⟨tg_mem 608 (by decide +kernel) rfl, iniX4, by decide, by decide, by decide⟩
theorem insX4_startWith : Cond.instanceMethod yX4_startWith ∈ tg_T := tg_mem 606 (by decide +kernel) rfl
theorem selX4_startWith : Cond.selects RX4 yX4_startWith yX4_startWith ∈ tg_T := tg_mem 607 (by decide +kernel) rfl
theorem parX4_startWith : (parseMethodDescriptor mX4_startWith.1.desc).map (fun d => d.parameters.length) = some 2 := by decide +kernel
def mX4_goInto : tg_M := (yX4_goInto, cX4_goInto, 3, none, { frames := 0, cells := 0, slots := 0, locals := 0 })
theorem okX4_goInto : tg_ok mX4_goInto := ⟨tg_mem 612 (by decide +kernel) rfl, iniX4, by decide, by decide, by decide⟩
theorem insX4_goInto : Cond.instanceMethod yX4_goInto ∈ tg_T := tg_mem 610 (by decide +kernel) rfl
theorem selX4_goInto : Cond.selects RX4 yX4_goInto yX4_goInto ∈ tg_T := tg_mem 611 (by decide +kernel) rfl
theorem parX4_goInto : (parseMethodDescriptor mX4_goInto.1.desc).map (fun d => d.parameters.length) = some 2 := by decide +kernel
def mX4_workBy : tg_M := (yX4_workBy, cX4_workBy, 7, (some .int), { frames := 0, cells := 0, slots := 0, locals := 0 })
theorem okX4_workBy : tg_ok mX4_workBy := ⟨tg_mem 616 (by decide +kernel) rfl, iniX4, by decide, by decide, by decide⟩
theorem insX4_workBy : Cond.instanceMethod yX4_workBy ∈ tg_T := tg_mem 614 (by decide +kernel) rfl
theorem selX4_workBy : Cond.selects RX4 yX4_workBy yX4_workBy ∈ tg_T := tg_mem 615 (by decide +kernel) rfl
theorem parX4_workBy : (parseMethodDescriptor mX4_workBy.1.desc).map (fun d => d.parameters.length) = some 1 := by decide +kernel
def mX4_bestOrder : tg_M := (yX4_bestOrder, cX4_bestOrder, 6, (some .int), { frames := 1, cells := 0, slots := 0, locals := 26 })
theorem okX4_bestOrder : tg_ok mX4_bestOrder := ⟨tg_mem 624 (by decide +kernel) rfl, iniX4, by decide, by decide, by decide⟩
theorem insX4_bestOrder : Cond.instanceMethod yX4_bestOrder ∈ tg_T := tg_mem 622 (by decide +kernel) rfl
theorem selX4_bestOrder : Cond.selects RX4 yX4_bestOrder yX4_bestOrder ∈ tg_T := tg_mem 623 (by decide +kernel) rfl
theorem parX4_bestOrder : (parseMethodDescriptor mX4_bestOrder.1.desc).map (fun d => d.parameters.length) = some 0 := by decide +kernel
def mX4_ordersOf : tg_M := (yX4_ordersOf, cX4_ordersOf, 1, (some (.array .int)), { frames := 0, cells := 0, slots := 0, locals := 0 })
theorem okX4_ordersOf : tg_ok mX4_ordersOf := ⟨tg_mem 627 (by decide +kernel) rfl, iniX4, by decide, by decide, by decide⟩
theorem staX4_ordersOf : Cond.static yX4_ordersOf ∈ tg_T := tg_mem 626 (by decide +kernel) rfl
theorem parX4_ordersOf : (parseMethodDescriptor mX4_ordersOf.1.desc).map (fun d => d.parameters.length) = some 1 := by decide +kernel
def mX5_init : tg_M := (yX5_init, cX5_init, 1, none, { frames := 1, cells := 4, slots := 32, locals := 20 })
theorem okX5_init : tg_ok mX5_init := ⟨tg_mem 232 (by decide +kernel) rfl, iniX5, by decide, by decide, by decide⟩
theorem insX5_init : Cond.instanceMethod yX5_init ∈ tg_T := tg_mem 231 (by decide +kernel) rfl
theorem parX5_init : (parseMethodDescriptor mX5_init.1.desc).map (fun d => d.parameters.length) = some 0 := by decide +kernel
def mX5_record : tg_M := (yX5_record, cX5_record, 5, none, { frames := 1, cells := 0, slots := 0, locals := 21 })
theorem okX5_record : tg_ok mX5_record := ⟨tg_mem 456 (by decide +kernel) rfl, iniX5, by decide, by decide, by decide⟩
theorem insX5_record : Cond.instanceMethod yX5_record ∈ tg_T := tg_mem 454 (by decide +kernel) rfl
theorem selX5_record : Cond.selects RX5 yX5_record yX5_record ∈ tg_T := tg_mem 455 (by decide +kernel) rfl
theorem parX5_record : (parseMethodDescriptor mX5_record.1.desc).map (fun d => d.parameters.length) = some 4 := by decide +kernel
def mX5_undoLatest : tg_M := (yX5_undoLatest, cX5_undoLatest, 2, none, { frames := 2, cells := 0, slots := 0, locals := 49 })
theorem okX5_undoLatest : tg_ok mX5_undoLatest := ⟨tg_mem 485 (by decide +kernel) rfl, iniX5, by decide, by decide, by decide⟩
theorem insX5_undoLatest : Cond.instanceMethod yX5_undoLatest ∈ tg_T := tg_mem 483 (by decide +kernel) rfl
theorem selX5_undoLatest : Cond.selects RX5 yX5_undoLatest yX5_undoLatest ∈ tg_T := tg_mem 484 (by decide +kernel) rfl
theorem parX5_undoLatest : (parseMethodDescriptor mX5_undoLatest.1.desc).map (fun d => d.parameters.length) = some 1 := by decide +kernel
def mX6_init : tg_M := (yX6_init, cX6_init, 2, none, { frames := 1, cells := 3, slots := 84, locals := 20 })
theorem okX6_init : tg_ok mX6_init := ⟨tg_mem 110 (by decide +kernel) rfl, iniX6, by decide, by decide, by decide⟩
theorem insX6_init : Cond.instanceMethod yX6_init ∈ tg_T := tg_mem 109 (by decide +kernel) rfl
theorem parX6_init : (parseMethodDescriptor mX6_init.1.desc).map (fun d => d.parameters.length) = some 0 := by decide +kernel
def mX6_startWith : tg_M := (yX6_startWith, cX6_startWith, 3, none, { frames := 1, cells := 0, slots := 0, locals := 26 })
theorem okX6_startWith : tg_ok mX6_startWith := ⟨tg_mem 418 (by decide +kernel) rfl, iniX6, by decide, by decide, by decide⟩
theorem insX6_startWith : Cond.instanceMethod yX6_startWith ∈ tg_T := tg_mem 416 (by decide +kernel) rfl
theorem selX6_startWith : Cond.selects RX6 yX6_startWith yX6_startWith ∈ tg_T := tg_mem 417 (by decide +kernel) rfl
theorem parX6_startWith : (parseMethodDescriptor mX6_startWith.1.desc).map (fun d => d.parameters.length) = some 2 := by decide +kernel
def mX6_copyFrom : tg_M := (yX6_copyFrom, cX6_copyFrom, 2, none, { frames := 1, cells := 0, slots := 0, locals := 26 })
theorem okX6_copyFrom : tg_ok mX6_copyFrom := ⟨tg_mem 328 (by decide +kernel) rfl, iniX6, by decide, by decide, by decide⟩
theorem insX6_copyFrom : Cond.instanceMethod yX6_copyFrom ∈ tg_T := tg_mem 326 (by decide +kernel) rfl
theorem selX6_copyFrom : Cond.selects RX6 yX6_copyFrom yX6_copyFrom ∈ tg_T := tg_mem 327 (by decide +kernel) rfl
theorem parX6_copyFrom : (parseMethodDescriptor mX6_copyFrom.1.desc).map (fun d => d.parameters.length) = some 1 := by decide +kernel
def mX6_hasEntry : tg_M := (yX6_hasEntry, cX6_hasEntry, 2, (some .boolean), { frames := 0, cells := 0, slots := 0, locals := 0 })
theorem okX6_hasEntry : tg_ok mX6_hasEntry := ⟨tg_mem 468 (by decide +kernel) rfl, iniX6, by decide, by decide, by decide⟩
theorem insX6_hasEntry : Cond.instanceMethod yX6_hasEntry ∈ tg_T := tg_mem 466 (by decide +kernel) rfl
theorem selX6_hasEntry : Cond.selects RX6 yX6_hasEntry yX6_hasEntry ∈ tg_T := tg_mem 467 (by decide +kernel) rfl
theorem parX6_hasEntry : (parseMethodDescriptor mX6_hasEntry.1.desc).map (fun d => d.parameters.length) = some 1 := by decide +kernel
def mX6_insert : tg_M := (yX6_insert, cX6_insert, 4, none, { frames := 1, cells := 0, slots := 0, locals := 26 })
theorem okX6_insert : tg_ok mX6_insert := ⟨tg_mem 432 (by decide +kernel) rfl, iniX6, by decide, by decide, by decide⟩
theorem insX6_insert : Cond.instanceMethod yX6_insert ∈ tg_T := tg_mem 430 (by decide +kernel) rfl
theorem selX6_insert : Cond.selects RX6 yX6_insert yX6_insert ∈ tg_T := tg_mem 431 (by decide +kernel) rfl
theorem parX6_insert : (parseMethodDescriptor mX6_insert.1.desc).map (fun d => d.parameters.length) = some 3 := by decide +kernel
def mX6_takeOut : tg_M := (yX6_takeOut, cX6_takeOut, 2, none, { frames := 1, cells := 0, slots := 0, locals := 26 })
theorem okX6_takeOut : tg_ok mX6_takeOut := ⟨tg_mem 472 (by decide +kernel) rfl, iniX6, by decide, by decide, by decide⟩
theorem insX6_takeOut : Cond.instanceMethod yX6_takeOut ∈ tg_T := tg_mem 470 (by decide +kernel) rfl
theorem selX6_takeOut : Cond.selects RX6 yX6_takeOut yX6_takeOut ∈ tg_T := tg_mem 471 (by decide +kernel) rfl
theorem parX6_takeOut : (parseMethodDescriptor mX6_takeOut.1.desc).map (fun d => d.parameters.length) = some 1 := by decide +kernel
def mX6_isCellCode : tg_M := (yX6_isCellCode, cX6_isCellCode, 2, (some .boolean), { frames := 1, cells := 0, slots := 0, locals := 25 })
theorem okX6_isCellCode : tg_ok mX6_isCellCode := ⟨tg_mem 507 (by decide +kernel) rfl, iniX6, by decide, by decide, by decide⟩
theorem insX6_isCellCode : Cond.instanceMethod yX6_isCellCode ∈ tg_T := tg_mem 505 (by decide +kernel) rfl
theorem selX6_isCellCode : Cond.selects RX6 yX6_isCellCode yX6_isCellCode ∈ tg_T := tg_mem 506 (by decide +kernel) rfl
theorem parX6_isCellCode : (parseMethodDescriptor mX6_isCellCode.1.desc).map (fun d => d.parameters.length) = some 1 := by decide +kernel
def mX6_isEntryCode : tg_M := (yX6_isEntryCode, cX6_isEntryCode, 2, (some .boolean), { frames := 1, cells := 0, slots := 0, locals := 25 })
theorem okX6_isEntryCode : tg_ok mX6_isEntryCode := ⟨tg_mem 448 (by decide +kernel) rfl, iniX6, by decide, by decide, by decide⟩
theorem insX6_isEntryCode : Cond.instanceMethod yX6_isEntryCode ∈ tg_T := tg_mem 446 (by decide +kernel) rfl
theorem selX6_isEntryCode : Cond.selects RX6 yX6_isEntryCode yX6_isEntryCode ∈ tg_T := tg_mem 447 (by decide +kernel) rfl
theorem parX6_isEntryCode : (parseMethodDescriptor mX6_isEntryCode.1.desc).map (fun d => d.parameters.length) = some 1 := by decide +kernel
def mX6_hasFigures : tg_M := (yX6_hasFigures, cX6_hasFigures, 6, (some .boolean), { frames := 0, cells := 0, slots := 0, locals := 0 })
theorem okX6_hasFigures : tg_ok mX6_hasFigures := ⟨tg_mem 452 (by decide +kernel) rfl, iniX6, by decide, by decide, by decide⟩
theorem insX6_hasFigures : Cond.instanceMethod yX6_hasFigures ∈ tg_T := tg_mem 451 (by decide +kernel) rfl
theorem selX6_hasFigures : Cond.selects RX6 yX6_hasFigures yX6_hasFigures ∈ tg_T := tg_mem 4 (by decide +kernel) rfl
theorem parX6_hasFigures : (parseMethodDescriptor mX6_hasFigures.1.desc).map (fun d => d.parameters.length) = some 2 := by decide +kernel
def mX6_valueFigures : tg_M := (yX6_valueFigures, cX6_valueFigures, 3, (some .int), { frames := 0, cells := 0, slots := 0, locals := 0 })
theorem okX6_valueFigures : tg_ok mX6_valueFigures := ⟨tg_mem 776 (by decide +kernel) rfl, iniX6, by decide, by decide, by decide⟩
theorem insX6_valueFigures : Cond.instanceMethod yX6_valueFigures ∈ tg_T := tg_mem 774 (by decide +kernel) rfl
theorem selX6_valueFigures : Cond.selects RX6 yX6_valueFigures yX6_valueFigures ∈ tg_T := tg_mem 775 (by decide +kernel) rfl
theorem parX6_valueFigures : (parseMethodDescriptor mX6_valueFigures.1.desc).map (fun d => d.parameters.length) = some 0 := by decide +kernel
def mX6_sumOf : tg_M := (yX6_sumOf, cX6_sumOf, 5, (some .int), { frames := 1, cells := 0, slots := 0, locals := 22 })
theorem okX6_sumOf : tg_ok mX6_sumOf := ⟨tg_mem 561 (by decide +kernel) rfl, iniX6, by decide, by decide, by decide⟩
theorem insX6_sumOf : Cond.instanceMethod yX6_sumOf ∈ tg_T := tg_mem 559 (by decide +kernel) rfl
theorem selX6_sumOf : Cond.selects RX6 yX6_sumOf yX6_sumOf ∈ tg_T := tg_mem 560 (by decide +kernel) rfl
theorem parX6_sumOf : (parseMethodDescriptor mX6_sumOf.1.desc).map (fun d => d.parameters.length) = some 1 := by decide +kernel
def mX6_leastOf : tg_M := (yX6_leastOf, cX6_leastOf, 5, (some .int), { frames := 1, cells := 0, slots := 0, locals := 22 })
theorem okX6_leastOf : tg_ok mX6_leastOf := ⟨tg_mem 568 (by decide +kernel) rfl, iniX6, by decide, by decide, by decide⟩
theorem insX6_leastOf : Cond.instanceMethod yX6_leastOf ∈ tg_T := tg_mem 566 (by decide +kernel) rfl
theorem selX6_leastOf : Cond.selects RX6 yX6_leastOf yX6_leastOf ∈ tg_T := tg_mem 567 (by decide +kernel) rfl
theorem parX6_leastOf : (parseMethodDescriptor mX6_leastOf.1.desc).map (fun d => d.parameters.length) = some 1 := by decide +kernel
def mX6_greatestOf : tg_M := (yX6_greatestOf, cX6_greatestOf, 5, (some .int), { frames := 1, cells := 0, slots := 0, locals := 22 })
theorem okX6_greatestOf : tg_ok mX6_greatestOf := ⟨tg_mem 573 (by decide +kernel) rfl, iniX6, by decide, by decide, by decide⟩
theorem insX6_greatestOf : Cond.instanceMethod yX6_greatestOf ∈ tg_T := tg_mem 571 (by decide +kernel) rfl
theorem selX6_greatestOf : Cond.selects RX6 yX6_greatestOf yX6_greatestOf ∈ tg_T := tg_mem 572 (by decide +kernel) rfl
theorem parX6_greatestOf : (parseMethodDescriptor mX6_greatestOf.1.desc).map (fun d => d.parameters.length) = some 1 := by decide +kernel
def mX6_isIn : tg_M := (yX6_isIn, cX6_isIn, 3, (some .boolean), { frames := 0, cells := 0, slots := 0, locals := 0 })
theorem okX6_isIn : tg_ok mX6_isIn := ⟨tg_mem 564 (by decide +kernel) rfl, iniX6, by decide, by decide, by decide⟩
theorem staX6_isIn : Cond.static yX6_isIn ∈ tg_T := tg_mem 563 (by decide +kernel) rfl
theorem parX6_isIn : (parseMethodDescriptor mX6_isIn.1.desc).map (fun d => d.parameters.length) = some 2 := by decide +kernel
def mX7_init : tg_M := (yX7_init, cX7_init, 1, none, { frames := 1, cells := 1, slots := 200, locals := 20 })
theorem okX7_init : tg_ok mX7_init := ⟨tg_mem 88 (by decide +kernel) rfl, iniX7, by decide, by decide, by decide⟩
theorem insX7_init : Cond.instanceMethod yX7_init ∈ tg_T := tg_mem 87 (by decide +kernel) rfl
theorem parX7_init : (parseMethodDescriptor mX7_init.1.desc).map (fun d => d.parameters.length) = some 0 := by decide +kernel
def mX7_append : tg_M := (yX7_append, cX7_append, 2, (some .boolean), { frames := 0, cells := 0, slots := 0, locals := 0 })
theorem okX7_append : tg_ok mX7_append := ⟨tg_mem 312 (by decide +kernel) rfl, iniX7, by decide, by decide, by decide⟩
theorem insX7_append : Cond.instanceMethod yX7_append ∈ tg_T := tg_mem 310 (by decide +kernel) rfl
theorem selX7_append : Cond.selects RX7 yX7_append yX7_append ∈ tg_T := tg_mem 311 (by decide +kernel) rfl
theorem parX7_append : (parseMethodDescriptor mX7_append.1.desc).map (fun d => d.parameters.length) = some 1 := by decide +kernel
def mX7_rewind : tg_M := (yX7_rewind, cX7_rewind, 1, none, { frames := 0, cells := 0, slots := 0, locals := 0 })
theorem okX7_rewind : tg_ok mX7_rewind := ⟨tg_mem 335 (by decide +kernel) rfl, iniX7, by decide, by decide, by decide⟩
theorem insX7_rewind : Cond.instanceMethod yX7_rewind ∈ tg_T := tg_mem 333 (by decide +kernel) rfl
theorem selX7_rewind : Cond.selects RX7 yX7_rewind yX7_rewind ∈ tg_T := tg_mem 334 (by decide +kernel) rfl
theorem parX7_rewind : (parseMethodDescriptor mX7_rewind.1.desc).map (fun d => d.parameters.length) = some 0 := by decide +kernel
def mX7_toNextToken : tg_M := (yX7_toNextToken, cX7_toNextToken, 1, none, { frames := 1, cells := 0, slots := 0, locals := 20 })
theorem okX7_toNextToken : tg_ok mX7_toNextToken := ⟨tg_mem 339 (by decide +kernel) rfl, iniX7, by decide, by decide, by decide⟩
theorem insX7_toNextToken : Cond.instanceMethod yX7_toNextToken ∈ tg_T := tg_mem 337 (by decide +kernel) rfl
theorem selX7_toNextToken : Cond.selects RX7 yX7_toNextToken yX7_toNextToken ∈ tg_T := tg_mem 338 (by decide +kernel) rfl
theorem parX7_toNextToken : (parseMethodDescriptor mX7_toNextToken.1.desc).map (fun d => d.parameters.length) = some 0 := by decide +kernel
def mX7_isAtEnd : tg_M := (yX7_isAtEnd, cX7_isAtEnd, 1, (some .boolean), { frames := 0, cells := 0, slots := 0, locals := 0 })
theorem okX7_isAtEnd : tg_ok mX7_isAtEnd := ⟨tg_mem 414 (by decide +kernel) rfl, iniX7, by decide, by decide, by decide⟩
theorem insX7_isAtEnd : Cond.instanceMethod yX7_isAtEnd ∈ tg_T := tg_mem 412 (by decide +kernel) rfl
theorem selX7_isAtEnd : Cond.selects RX7 yX7_isAtEnd yX7_isAtEnd ∈ tg_T := tg_mem 413 (by decide +kernel) rfl
theorem parX7_isAtEnd : (parseMethodDescriptor mX7_isAtEnd.1.desc).map (fun d => d.parameters.length) = some 0 := by decide +kernel
def mX7_isToken : tg_M := (yX7_isToken, cX7_isToken, 3, (some .boolean), { frames := 5, cells := 0, slots := 0, locals := 106 })
theorem okX7_isToken : tg_ok mX7_isToken := ⟨tg_mem 354 (by decide +kernel) rfl, iniX7, by decide, by decide, by decide⟩
theorem insX7_isToken : Cond.instanceMethod yX7_isToken ∈ tg_T := tg_mem 352 (by decide +kernel) rfl
theorem selX7_isToken : Cond.selects RX7 yX7_isToken yX7_isToken ∈ tg_T := tg_mem 353 (by decide +kernel) rfl
theorem parX7_isToken : (parseMethodDescriptor mX7_isToken.1.desc).map (fun d => d.parameters.length) = some 1 := by decide +kernel
def mX7_numberWithin : tg_M := (yX7_numberWithin, cX7_numberWithin, 5, (some .int), { frames := 1, cells := 0, slots := 0, locals := 20 })
theorem okX7_numberWithin : tg_ok mX7_numberWithin := ⟨tg_mem 410 (by decide +kernel) rfl, iniX7, by decide, by decide, by decide⟩
theorem insX7_numberWithin : Cond.instanceMethod yX7_numberWithin ∈ tg_T := tg_mem 408 (by decide +kernel) rfl
theorem selX7_numberWithin : Cond.selects RX7 yX7_numberWithin yX7_numberWithin ∈ tg_T := tg_mem 409 (by decide +kernel) rfl
theorem parX7_numberWithin : (parseMethodDescriptor mX7_numberWithin.1.desc).map (fun d => d.parameters.length) = some 2 := by decide +kernel
def mX7_isSmall : tg_M := (yX7_isSmall, cX7_isSmall, 1, (some .boolean), { frames := 0, cells := 0, slots := 0, locals := 0 })
theorem okX7_isSmall : tg_ok mX7_isSmall := ⟨tg_mem 342 (by decide +kernel) rfl, iniX7, by decide, by decide, by decide⟩
theorem staX7_isSmall : Cond.static yX7_isSmall ∈ tg_T := tg_mem 341 (by decide +kernel) rfl
theorem parX7_isSmall : (parseMethodDescriptor mX7_isSmall.1.desc).map (fun d => d.parameters.length) = some 1 := by decide +kernel
def mX7_isDigit : tg_M := (yX7_isDigit, cX7_isDigit, 1, (some .boolean), { frames := 0, cells := 0, slots := 0, locals := 0 })
theorem okX7_isDigit : tg_ok mX7_isDigit := ⟨tg_mem 345 (by decide +kernel) rfl, iniX7, by decide, by decide, by decide⟩
theorem staX7_isDigit : Cond.static yX7_isDigit ∈ tg_T := tg_mem 344 (by decide +kernel) rfl
theorem parX7_isDigit : (parseMethodDescriptor mX7_isDigit.1.desc).map (fun d => d.parameters.length) = some 1 := by decide +kernel
def mX8_init : tg_M := (yX8_init, cX8_init, 2, none, { frames := 3, cells := 45, slots := 4011, locals := 61 })
theorem okX8_init : tg_ok mX8_init := ⟨tg_mem 74 (by decide +kernel) rfl, iniX8, by decide, by decide, by decide⟩
theorem insX8_init : Cond.instanceMethod yX8_init ∈ tg_T := tg_mem 73 (by decide +kernel) rfl
theorem parX8_init : (parseMethodDescriptor mX8_init.1.desc).map (fun d => d.parameters.length) = some 0 := by decide +kernel
def mX8_write : tg_M := (yX8_write, cX8_write, 2, (some .int), { frames := 1, cells := 0, slots := 0, locals := 21 })
theorem okX8_write : tg_ok mX8_write := ⟨tg_mem 308 (by decide +kernel) rfl, iniX8, by decide, by decide, by decide⟩
theorem insX8_write : Cond.instanceMethod yX8_write ∈ tg_T := tg_mem 306 (by decide +kernel) rfl
theorem selX8_write : Cond.selects RX8 yX8_write yX8_write ∈ tg_T := tg_mem 307 (by decide +kernel) rfl
theorem parX8_write : (parseMethodDescriptor mX8_write.1.desc).map (fun d => d.parameters.length) = some 1 := by decide +kernel
def mX8_erase : tg_M := (yX8_erase, cX8_erase, 2, (some .int), { frames := 0, cells := 0, slots := 0, locals := 0 })
theorem okX8_erase : tg_ok mX8_erase := ⟨tg_mem 316 (by decide +kernel) rfl, iniX8, by decide, by decide, by decide⟩
theorem insX8_erase : Cond.instanceMethod yX8_erase ∈ tg_T := tg_mem 314 (by decide +kernel) rfl
theorem selX8_erase : Cond.selects RX8 yX8_erase yX8_erase ∈ tg_T := tg_mem 315 (by decide +kernel) rfl
theorem parX8_erase : (parseMethodDescriptor mX8_erase.1.desc).map (fun d => d.parameters.length) = some 0 := by decide +kernel
def mX8_fault : tg_M := (yX8_fault, cX8_fault, 1, (some .int), { frames := 8, cells := 0, slots := 0, locals := 169 })
theorem okX8_fault : tg_ok mX8_fault := ⟨tg_mem 320 (by decide +kernel) rfl, iniX8, by decide, by decide, by decide⟩
theorem insX8_fault : Cond.instanceMethod yX8_fault ∈ tg_T := tg_mem 318 (by decide +kernel) rfl
theorem selX8_fault : Cond.selects RX8 yX8_fault yX8_fault ∈ tg_T := tg_mem 319 (by decide +kernel) rfl
theorem parX8_fault : (parseMethodDescriptor mX8_fault.1.desc).map (fun d => d.parameters.length) = some 0 := by decide +kernel
def mX8_read : tg_M := (yX8_read, cX8_read, 2, (some .int), { frames := 8, cells := 0, slots := 0, locals := 169 })
theorem okX8_read : tg_ok mX8_read := ⟨tg_mem 439 (by decide +kernel) rfl, iniX8, by decide, by decide, by decide⟩
theorem insX8_read : Cond.instanceMethod yX8_read ∈ tg_T := tg_mem 437 (by decide +kernel) rfl
theorem selX8_read : Cond.selects RX8 yX8_read yX8_read ∈ tg_T := tg_mem 438 (by decide +kernel) rfl
theorem parX8_read : (parseMethodDescriptor mX8_read.1.desc).map (fun d => d.parameters.length) = some 0 := by decide +kernel
def mX8_add : tg_M := (yX8_add, cX8_add, 3, (some .int), { frames := 2, cells := 0, slots := 0, locals := 49 })
theorem okX8_add : tg_ok mX8_add := ⟨tg_mem 444 (by decide +kernel) rfl, iniX8, by decide, by decide, by decide⟩
theorem insX8_add : Cond.instanceMethod yX8_add ∈ tg_T := tg_mem 442 (by decide +kernel) rfl
theorem selX8_add : Cond.selects RX8 yX8_add yX8_add ∈ tg_T := tg_mem 443 (by decide +kernel) rfl
theorem parX8_add : (parseMethodDescriptor mX8_add.1.desc).map (fun d => d.parameters.length) = some 2 := by decide +kernel
def mX8_remove : tg_M := (yX8_remove, cX8_remove, 2, (some .int), { frames := 2, cells := 0, slots := 0, locals := 47 })
theorem okX8_remove : tg_ok mX8_remove := ⟨tg_mem 464 (by decide +kernel) rfl, iniX8, by decide, by decide, by decide⟩
theorem insX8_remove : Cond.instanceMethod yX8_remove ∈ tg_T := tg_mem 462 (by decide +kernel) rfl
theorem selX8_remove : Cond.selects RX8 yX8_remove yX8_remove ∈ tg_T := tg_mem 463 (by decide +kernel) rfl
theorem parX8_remove : (parseMethodDescriptor mX8_remove.1.desc).map (fun d => d.parameters.length) = some 1 := by decide +kernel
def mX8_support : tg_M := (yX8_support, cX8_support, 3, (some .int), { frames := 2, cells := 0, slots := 0, locals := 45 })
theorem okX8_support : tg_ok mX8_support := ⟨tg_mem 477 (by decide +kernel) rfl, iniX8, by decide, by decide, by decide⟩
theorem insX8_support : Cond.instanceMethod yX8_support ∈ tg_T := tg_mem 475 (by decide +kernel) rfl
theorem selX8_support : Cond.selects RX8 yX8_support yX8_support ∈ tg_T := tg_mem 476 (by decide +kernel) rfl
theorem parX8_support : (parseMethodDescriptor mX8_support.1.desc).map (fun d => d.parameters.length) = some 1 := by decide +kernel
def mX8_undo : tg_M := (yX8_undo, cX8_undo, 1, (some .int), { frames := 3, cells := 0, slots := 0, locals := 70 })
theorem okX8_undo : tg_ok mX8_undo := ⟨tg_mem 481 (by decide +kernel) rfl, iniX8, by decide, by decide, by decide⟩
theorem insX8_undo : Cond.instanceMethod yX8_undo ∈ tg_T := tg_mem 479 (by decide +kernel) rfl
theorem selX8_undo : Cond.selects RX8 yX8_undo yX8_undo ∈ tg_T := tg_mem 480 (by decide +kernel) rfl
theorem parX8_undo : (parseMethodDescriptor mX8_undo.1.desc).map (fun d => d.parameters.length) = some 0 := by decide +kernel
def mX8_keep : tg_M := (yX8_keep, cX8_keep, 2, (some .int), { frames := 2, cells := 0, slots := 0, locals := 47 })
theorem okX8_keep : tg_ok mX8_keep := ⟨tg_mem 491 (by decide +kernel) rfl, iniX8, by decide, by decide, by decide⟩
theorem insX8_keep : Cond.instanceMethod yX8_keep ∈ tg_T := tg_mem 489 (by decide +kernel) rfl
theorem selX8_keep : Cond.selects RX8 yX8_keep yX8_keep ∈ tg_T := tg_mem 490 (by decide +kernel) rfl
theorem parX8_keep : (parseMethodDescriptor mX8_keep.1.desc).map (fun d => d.parameters.length) = some 1 := by decide +kernel
def mX8_back : tg_M := (yX8_back, cX8_back, 2, (some .int), { frames := 2, cells := 0, slots := 0, locals := 47 })
theorem okX8_back : tg_ok mX8_back := ⟨tg_mem 495 (by decide +kernel) rfl, iniX8, by decide, by decide, by decide⟩
theorem insX8_back : Cond.instanceMethod yX8_back ∈ tg_T := tg_mem 493 (by decide +kernel) rfl
theorem selX8_back : Cond.selects RX8 yX8_back yX8_back ∈ tg_T := tg_mem 494 (by decide +kernel) rfl
theorem parX8_back : (parseMethodDescriptor mX8_back.1.desc).map (fun d => d.parameters.length) = some 1 := by decide +kernel
def mX8_entry : tg_M := (yX8_entry, cX8_entry, 3, (some .int), { frames := 1, cells := 0, slots := 0, locals := 21 })
theorem okX8_entry : tg_ok mX8_entry := ⟨tg_mem 499 (by decide +kernel) rfl, iniX8, by decide, by decide, by decide⟩
theorem insX8_entry : Cond.instanceMethod yX8_entry ∈ tg_T := tg_mem 497 (by decide +kernel) rfl
theorem selX8_entry : Cond.selects RX8 yX8_entry yX8_entry ∈ tg_T := tg_mem 498 (by decide +kernel) rfl
theorem parX8_entry : (parseMethodDescriptor mX8_entry.1.desc).map (fun d => d.parameters.length) = some 2 := by decide +kernel
def mX8_cell : tg_M := (yX8_cell, cX8_cell, 5, (some .int), { frames := 6, cells := 0, slots := 0, locals := 137 })
theorem okX8_cell : tg_ok mX8_cell := ⟨tg_mem 503 (by decide +kernel) rfl, iniX8, by decide, by decide, by decide⟩
theorem insX8_cell : Cond.instanceMethod yX8_cell ∈ tg_T := tg_mem 501 (by decide +kernel) rfl
theorem selX8_cell : Cond.selects RX8 yX8_cell yX8_cell ∈ tg_T := tg_mem 502 (by decide +kernel) rfl
theorem parX8_cell : (parseMethodDescriptor mX8_cell.1.desc).map (fun d => d.parameters.length) = some 2 := by decide +kernel
def mX8_closure : tg_M := (yX8_closure, cX8_closure, 3, (some .int), { frames := 6, cells := 0, slots := 0, locals := 137 })
theorem okX8_closure : tg_ok mX8_closure := ⟨tg_mem 580 (by decide +kernel) rfl, iniX8, by decide, by decide, by decide⟩
theorem insX8_closure : Cond.instanceMethod yX8_closure ∈ tg_T := tg_mem 578 (by decide +kernel) rfl
theorem selX8_closure : Cond.selects RX8 yX8_closure yX8_closure ∈ tg_T := tg_mem 579 (by decide +kernel) rfl
theorem parX8_closure : (parseMethodDescriptor mX8_closure.1.desc).map (fun d => d.parameters.length) = some 1 := by decide +kernel
def mX8_kept : tg_M := (yX8_kept, cX8_kept, 2, (some .int), { frames := 6, cells := 0, slots := 0, locals := 137 })
theorem okX8_kept : tg_ok mX8_kept := ⟨tg_mem 585 (by decide +kernel) rfl, iniX8, by decide, by decide, by decide⟩
theorem insX8_kept : Cond.instanceMethod yX8_kept ∈ tg_T := tg_mem 583 (by decide +kernel) rfl
theorem selX8_kept : Cond.selects RX8 yX8_kept yX8_kept ∈ tg_T := tg_mem 584 (by decide +kernel) rfl
theorem parX8_kept : (parseMethodDescriptor mX8_kept.1.desc).map (fun d => d.parameters.length) = some 1 := by decide +kernel
def mX8_ask : tg_M := (yX8_ask, cX8_ask, 6, (some .int), { frames := 6, cells := 0, slots := 0, locals := 137 })
theorem okX8_ask : tg_ok mX8_ask := ⟨tg_mem 593 (by decide +kernel) rfl, iniX8, by decide, by decide, by decide⟩
theorem insX8_ask : Cond.instanceMethod yX8_ask ∈ tg_T := tg_mem 591 (by decide +kernel) rfl
theorem selX8_ask : Cond.selects RX8 yX8_ask yX8_ask ∈ tg_T := tg_mem 592 (by decide +kernel) rfl
theorem parX8_ask : (parseMethodDescriptor mX8_ask.1.desc).map (fun d => d.parameters.length) = some 2 := by decide +kernel
def mX8_part : tg_M := (yX8_part, cX8_part, 4, (some .int), { frames := 6, cells := 0, slots := 0, locals := 137 })
theorem okX8_part : tg_ok mX8_part := ⟨tg_mem 597 (by decide +kernel) rfl, iniX8, by decide, by decide, by decide⟩
theorem insX8_part : Cond.instanceMethod yX8_part ∈ tg_T := tg_mem 595 (by decide +kernel) rfl
theorem selX8_part : Cond.selects RX8 yX8_part yX8_part ∈ tg_T := tg_mem 596 (by decide +kernel) rfl
theorem parX8_part : (parseMethodDescriptor mX8_part.1.desc).map (fun d => d.parameters.length) = some 2 := by decide +kernel
def mX8_best : tg_M := (yX8_best, cX8_best, 4, (some .int), { frames := 6, cells := 0, slots := 0, locals := 137 })
theorem okX8_best : tg_ok mX8_best := ⟨tg_mem 620 (by decide +kernel) rfl, iniX8, by decide, by decide, by decide⟩
theorem insX8_best : Cond.instanceMethod yX8_best ∈ tg_T := tg_mem 618 (by decide +kernel) rfl
theorem selX8_best : Cond.selects RX8 yX8_best yX8_best ∈ tg_T := tg_mem 619 (by decide +kernel) rfl
theorem parX8_best : (parseMethodDescriptor mX8_best.1.desc).map (fun d => d.parameters.length) = some 1 := by decide +kernel
def mX8_more : tg_M := (yX8_more, cX8_more, 5, (some .int), { frames := 6, cells := 0, slots := 0, locals := 137 })
theorem okX8_more : tg_ok mX8_more := ⟨tg_mem 641 (by decide +kernel) rfl, iniX8, by decide, by decide, by decide⟩
theorem insX8_more : Cond.instanceMethod yX8_more ∈ tg_T := tg_mem 639 (by decide +kernel) rfl
theorem selX8_more : Cond.selects RX8 yX8_more yX8_more ∈ tg_T := tg_mem 640 (by decide +kernel) rfl
theorem parX8_more : (parseMethodDescriptor mX8_more.1.desc).map (fun d => d.parameters.length) = some 2 := by decide +kernel
def mX8_less : tg_M := (yX8_less, cX8_less, 5, (some .int), { frames := 6, cells := 0, slots := 0, locals := 137 })
theorem okX8_less : tg_ok mX8_less := ⟨tg_mem 666 (by decide +kernel) rfl, iniX8, by decide, by decide, by decide⟩
theorem insX8_less : Cond.instanceMethod yX8_less ∈ tg_T := tg_mem 664 (by decide +kernel) rfl
theorem selX8_less : Cond.selects RX8 yX8_less yX8_less ∈ tg_T := tg_mem 665 (by decide +kernel) rfl
theorem parX8_less : (parseMethodDescriptor mX8_less.1.desc).map (fun d => d.parameters.length) = some 2 := by decide +kernel
def mX8_cap : tg_M := (yX8_cap, cX8_cap, 2, (some .int), { frames := 6, cells := 0, slots := 0, locals := 137 })
theorem okX8_cap : tg_ok mX8_cap := ⟨tg_mem 674 (by decide +kernel) rfl, iniX8, by decide, by decide, by decide⟩
theorem insX8_cap : Cond.instanceMethod yX8_cap ∈ tg_T := tg_mem 672 (by decide +kernel) rfl
theorem selX8_cap : Cond.selects RX8 yX8_cap yX8_cap ∈ tg_T := tg_mem 673 (by decide +kernel) rfl
theorem parX8_cap : (parseMethodDescriptor mX8_cap.1.desc).map (fun d => d.parameters.length) = some 1 := by decide +kernel
def mX8_key : tg_M := (yX8_key, cX8_key, 1, (some .int), { frames := 6, cells := 0, slots := 0, locals := 137 })
theorem okX8_key : tg_ok mX8_key := ⟨tg_mem 683 (by decide +kernel) rfl, iniX8, by decide, by decide, by decide⟩
theorem insX8_key : Cond.instanceMethod yX8_key ∈ tg_T := tg_mem 681 (by decide +kernel) rfl
theorem selX8_key : Cond.selects RX8 yX8_key yX8_key ∈ tg_T := tg_mem 682 (by decide +kernel) rfl
theorem parX8_key : (parseMethodDescriptor mX8_key.1.desc).map (fun d => d.parameters.length) = some 0 := by decide +kernel
def mX8_rule : tg_M := (yX8_rule, cX8_rule, 3, (some .int), { frames := 6, cells := 0, slots := 0, locals := 137 })
theorem okX8_rule : tg_ok mX8_rule := ⟨tg_mem 697 (by decide +kernel) rfl, iniX8, by decide, by decide, by decide⟩
theorem insX8_rule : Cond.instanceMethod yX8_rule ∈ tg_T := tg_mem 695 (by decide +kernel) rfl
theorem selX8_rule : Cond.selects RX8 yX8_rule yX8_rule ∈ tg_T := tg_mem 696 (by decide +kernel) rfl
theorem parX8_rule : (parseMethodDescriptor mX8_rule.1.desc).map (fun d => d.parameters.length) = some 2 := by decide +kernel
def mX8_row : tg_M := (yX8_row, cX8_row, 3, (some .int), { frames := 2, cells := 0, slots := 0, locals := 43 })
theorem okX8_row : tg_ok mX8_row := ⟨tg_mem 705 (by decide +kernel) rfl, iniX8, by decide, by decide, by decide⟩
theorem insX8_row : Cond.instanceMethod yX8_row ∈ tg_T := tg_mem 703 (by decide +kernel) rfl
theorem selX8_row : Cond.selects RX8 yX8_row yX8_row ∈ tg_T := tg_mem 704 (by decide +kernel) rfl
theorem parX8_row : (parseMethodDescriptor mX8_row.1.desc).map (fun d => d.parameters.length) = some 2 := by decide +kernel
def mX8_set : tg_M := (yX8_set, cX8_set, 4, (some .int), { frames := 4, cells := 0, slots := 0, locals := 88 })
theorem okX8_set : tg_ok mX8_set := ⟨tg_mem 717 (by decide +kernel) rfl, iniX8, by decide, by decide, by decide⟩
theorem insX8_set : Cond.instanceMethod yX8_set ∈ tg_T := tg_mem 715 (by decide +kernel) rfl
theorem selX8_set : Cond.selects RX8 yX8_set yX8_set ∈ tg_T := tg_mem 716 (by decide +kernel) rfl
theorem parX8_set : (parseMethodDescriptor mX8_set.1.desc).map (fun d => d.parameters.length) = some 3 := by decide +kernel
def mX8_work : tg_M := (yX8_work, cX8_work, 8, (some .int), { frames := 3, cells := 0, slots := 0, locals := 63 })
theorem okX8_work : tg_ok mX8_work := ⟨tg_mem 733 (by decide +kernel) rfl, iniX8, by decide, by decide, by decide⟩
theorem insX8_work : Cond.instanceMethod yX8_work ∈ tg_T := tg_mem 731 (by decide +kernel) rfl
theorem selX8_work : Cond.selects RX8 yX8_work yX8_work ∈ tg_T := tg_mem 732 (by decide +kernel) rfl
theorem parX8_work : (parseMethodDescriptor mX8_work.1.desc).map (fun d => d.parameters.length) = some 4 := by decide +kernel
def mX8_bits : tg_M := (yX8_bits, cX8_bits, 4, (some .int), { frames := 3, cells := 0, slots := 0, locals := 63 })
theorem okX8_bits : tg_ok mX8_bits := ⟨tg_mem 747 (by decide +kernel) rfl, iniX8, by decide, by decide, by decide⟩
theorem insX8_bits : Cond.instanceMethod yX8_bits ∈ tg_T := tg_mem 745 (by decide +kernel) rfl
theorem selX8_bits : Cond.selects RX8 yX8_bits yX8_bits ∈ tg_T := tg_mem 746 (by decide +kernel) rfl
theorem parX8_bits : (parseMethodDescriptor mX8_bits.1.desc).map (fun d => d.parameters.length) = some 2 := by decide +kernel
def mX8_sum : tg_M := (yX8_sum, cX8_sum, 7, (some .int), { frames := 2, cells := 0, slots := 0, locals := 50 })
theorem okX8_sum : tg_ok mX8_sum := ⟨tg_mem 751 (by decide +kernel) rfl, iniX8, by decide, by decide, by decide⟩
theorem insX8_sum : Cond.instanceMethod yX8_sum ∈ tg_T := tg_mem 749 (by decide +kernel) rfl
theorem selX8_sum : Cond.selects RX8 yX8_sum yX8_sum ∈ tg_T := tg_mem 750 (by decide +kernel) rfl
theorem parX8_sum : (parseMethodDescriptor mX8_sum.1.desc).map (fun d => d.parameters.length) = some 1 := by decide +kernel
def mX8_load : tg_M := (yX8_load, cX8_load, 4, (some .int), { frames := 6, cells := 0, slots := 0, locals := 137 })
theorem okX8_load : tg_ok mX8_load := ⟨tg_mem 756 (by decide +kernel) rfl, iniX8, by decide, by decide, by decide⟩
theorem insX8_load : Cond.instanceMethod yX8_load ∈ tg_T := tg_mem 754 (by decide +kernel) rfl
theorem selX8_load : Cond.selects RX8 yX8_load yX8_load ∈ tg_T := tg_mem 755 (by decide +kernel) rfl
theorem parX8_load : (parseMethodDescriptor mX8_load.1.desc).map (fun d => d.parameters.length) = some 3 := by decide +kernel
def mX8_drop : tg_M := (yX8_drop, cX8_drop, 3, (some .int), { frames := 2, cells := 0, slots := 0, locals := 41 })
theorem okX8_drop : tg_ok mX8_drop := ⟨tg_mem 760 (by decide +kernel) rfl, iniX8, by decide, by decide, by decide⟩
theorem insX8_drop : Cond.instanceMethod yX8_drop ∈ tg_T := tg_mem 758 (by decide +kernel) rfl
theorem selX8_drop : Cond.selects RX8 yX8_drop yX8_drop ∈ tg_T := tg_mem 759 (by decide +kernel) rfl
theorem parX8_drop : (parseMethodDescriptor mX8_drop.1.desc).map (fun d => d.parameters.length) = some 1 := by decide +kernel
def mX8_asked : tg_M := (yX8_asked, cX8_asked, 1, (some .long), { frames := 0, cells := 0, slots := 0, locals := 0 })
theorem okX8_asked : tg_ok mX8_asked := ⟨tg_mem 764 (by decide +kernel) rfl, iniX8, by decide, by decide, by decide⟩
theorem insX8_asked : Cond.instanceMethod yX8_asked ∈ tg_T := tg_mem 762 (by decide +kernel) rfl
theorem selX8_asked : Cond.selects RX8 yX8_asked yX8_asked ∈ tg_T := tg_mem 763 (by decide +kernel) rfl
theorem parX8_asked : (parseMethodDescriptor mX8_asked.1.desc).map (fun d => d.parameters.length) = some 0 := by decide +kernel
def mX8_count : tg_M := (yX8_count, cX8_count, 2, (some .int), { frames := 6, cells := 0, slots := 0, locals := 137 })
theorem okX8_count : tg_ok mX8_count := ⟨tg_mem 768 (by decide +kernel) rfl, iniX8, by decide, by decide, by decide⟩
theorem insX8_count : Cond.instanceMethod yX8_count ∈ tg_T := tg_mem 766 (by decide +kernel) rfl
theorem selX8_count : Cond.selects RX8 yX8_count yX8_count ∈ tg_T := tg_mem 767 (by decide +kernel) rfl
theorem parX8_count : (parseMethodDescriptor mX8_count.1.desc).map (fun d => d.parameters.length) = some 1 := by decide +kernel
def mX8_freshCells : tg_M := (yX8_freshCells, cX8_freshCells, 1, (some (.object "CubeClosures$Cells")), { frames := 5, cells := 0, slots := 0, locals := 117 })
theorem okX8_freshCells : tg_ok mX8_freshCells := ⟨tg_mem 511 (by decide +kernel) rfl, iniX8, by decide, by decide, by decide⟩
theorem insX8_freshCells : Cond.instanceMethod yX8_freshCells ∈ tg_T := tg_mem 510 (by decide +kernel) rfl
theorem selX8_freshCells : Cond.selects RX8 yX8_freshCells yX8_freshCells ∈ tg_T := tg_mem 5 (by decide +kernel) rfl
theorem parX8_freshCells : (parseMethodDescriptor mX8_freshCells.1.desc).map (fun d => d.parameters.length) = some 0 := by decide +kernel
def mX9_init : tg_M := (yX9_init, cX9_init, 1, none, { frames := 1, cells := 12, slots := 3691, locals := 20 })
theorem okX9_init : tg_ok mX9_init := ⟨tg_mem 786 (by decide +kernel) rfl, iniX9, by decide, by decide, by decide⟩
theorem insX9_init : Cond.instanceMethod yX9_init ∈ tg_T := tg_mem 785 (by decide +kernel) rfl
theorem parX9_init : (parseMethodDescriptor mX9_init.1.desc).map (fun d => d.parameters.length) = some 0 := by decide +kernel
def mX9_in : tg_M := (yX9_in, cX9_in, 6, (some .boolean), { frames := 0, cells := 0, slots := 0, locals := 0 })
theorem okX9_in : tg_ok mX9_in := ⟨tg_mem 886 (by decide +kernel) rfl, iniX9, by decide, by decide, by decide⟩
theorem staX9_in : Cond.static yX9_in ∈ tg_T := tg_mem 885 (by decide +kernel) rfl
theorem parX9_in : (parseMethodDescriptor mX9_in.1.desc).map (fun d => d.parameters.length) = some 3 := by decide +kernel
def mX9_has : tg_M := (yX9_has, cX9_has, 2, (some .boolean), { frames := 0, cells := 0, slots := 0, locals := 0 })
theorem okX9_has : tg_ok mX9_has := ⟨tg_mem 1110 (by decide +kernel) rfl, iniX9, by decide, by decide, by decide⟩
theorem staX9_has : Cond.static yX9_has ∈ tg_T := tg_mem 1109 (by decide +kernel) rfl
theorem parX9_has : (parseMethodDescriptor mX9_has.1.desc).map (fun d => d.parameters.length) = some 2 := by decide +kernel
def mX9_copyRow : tg_M := (yX9_copyRow, cX9_copyRow, 4, none, { frames := 0, cells := 0, slots := 0, locals := 0 })
theorem okX9_copyRow : tg_ok mX9_copyRow := ⟨tg_mem 982 (by decide +kernel) rfl, iniX9, by decide, by decide, by decide⟩
theorem insX9_copyRow : Cond.instanceMethod yX9_copyRow ∈ tg_T := tg_mem 981 (by decide +kernel) rfl
theorem selX9_copyRow : Cond.selects RX9 yX9_copyRow yX9_copyRow ∈ tg_T := tg_mem 30 (by decide +kernel) rfl
theorem parX9_copyRow : (parseMethodDescriptor mX9_copyRow.1.desc).map (fun d => d.parameters.length) = some 2 := by decide +kernel
def mX9_write : tg_M := (yX9_write, cX9_write, 2, (some .int), { frames := 1, cells := 0, slots := 0, locals := 25 })
theorem okX9_write : tg_ok mX9_write := ⟨tg_mem 882 (by decide +kernel) rfl, iniX9, by decide, by decide, by decide⟩
theorem insX9_write : Cond.instanceMethod yX9_write ∈ tg_T := tg_mem 880 (by decide +kernel) rfl
theorem selX9_write : Cond.selects RX9 yX9_write yX9_write ∈ tg_T := tg_mem 881 (by decide +kernel) rfl
theorem parX9_write : (parseMethodDescriptor mX9_write.1.desc).map (fun d => d.parameters.length) = some 1 := by decide +kernel
def mX9_erase : tg_M := (yX9_erase, cX9_erase, 2, (some .int), { frames := 0, cells := 0, slots := 0, locals := 0 })
theorem okX9_erase : tg_ok mX9_erase := ⟨tg_mem 890 (by decide +kernel) rfl, iniX9, by decide, by decide, by decide⟩
theorem insX9_erase : Cond.instanceMethod yX9_erase ∈ tg_T := tg_mem 888 (by decide +kernel) rfl
theorem selX9_erase : Cond.selects RX9 yX9_erase yX9_erase ∈ tg_T := tg_mem 889 (by decide +kernel) rfl
theorem parX9_erase : (parseMethodDescriptor mX9_erase.1.desc).map (fun d => d.parameters.length) = some 0 := by decide +kernel
def mX9_isLetter : tg_M := (yX9_isLetter, cX9_isLetter, 1, (some .boolean), { frames := 1, cells := 0, slots := 0, locals := 25 })
theorem okX9_isLetter : tg_ok mX9_isLetter := ⟨tg_mem 905 (by decide +kernel) rfl, iniX9, by decide, by decide, by decide⟩
theorem staX9_isLetter : Cond.static yX9_isLetter ∈ tg_T := tg_mem 904 (by decide +kernel) rfl
theorem parX9_isLetter : (parseMethodDescriptor mX9_isLetter.1.desc).map (fun d => d.parameters.length) = some 1 := by decide +kernel
def mX9_isDigit : tg_M := (yX9_isDigit, cX9_isDigit, 1, (some .boolean), { frames := 1, cells := 0, slots := 0, locals := 25 })
theorem okX9_isDigit : tg_ok mX9_isDigit := ⟨tg_mem 910 (by decide +kernel) rfl, iniX9, by decide, by decide, by decide⟩
theorem staX9_isDigit : Cond.static yX9_isDigit ∈ tg_T := tg_mem 909 (by decide +kernel) rfl
theorem parX9_isDigit : (parseMethodDescriptor mX9_isDigit.1.desc).map (fun d => d.parameters.length) = some 1 := by decide +kernel
def mX9_nextToken : tg_M := (yX9_nextToken, cX9_nextToken, 1, none, { frames := 2, cells := 0, slots := 0, locals := 45 })
theorem okX9_nextToken : tg_ok mX9_nextToken := ⟨tg_mem 902 (by decide +kernel) rfl, iniX9, by decide, by decide, by decide⟩
theorem insX9_nextToken : Cond.instanceMethod yX9_nextToken ∈ tg_T := tg_mem 901 (by decide +kernel) rfl
theorem selX9_nextToken : Cond.selects RX9 yX9_nextToken yX9_nextToken ∈ tg_T := tg_mem 15 (by decide +kernel) rfl
theorem parX9_nextToken : (parseMethodDescriptor mX9_nextToken.1.desc).map (fun d => d.parameters.length) = some 0 := by decide +kernel
def mX9_isWord : tg_M := (yX9_isWord, cX9_isWord, 4, (some .boolean), { frames := 0, cells := 0, slots := 0, locals := 0 })
theorem okX9_isWord : tg_ok mX9_isWord := ⟨tg_mem 924 (by decide +kernel) rfl, iniX9, by decide, by decide, by decide⟩
theorem insX9_isWord : Cond.instanceMethod yX9_isWord ∈ tg_T := tg_mem 923 (by decide +kernel) rfl
theorem selX9_isWord : Cond.selects RX9 yX9_isWord yX9_isWord ∈ tg_T := tg_mem 18 (by decide +kernel) rfl
theorem parX9_isWord : (parseMethodDescriptor mX9_isWord.1.desc).map (fun d => d.parameters.length) = some 1 := by decide +kernel
def mX9_readsNumber : tg_M := (yX9_readsNumber, cX9_readsNumber, 5, (some .boolean), { frames := 3, cells := 0, slots := 0, locals := 65 })
theorem okX9_readsNumber : tg_ok mX9_readsNumber := ⟨tg_mem 936 (by decide +kernel) rfl, iniX9, by decide, by decide, by decide⟩
theorem insX9_readsNumber : Cond.instanceMethod yX9_readsNumber ∈ tg_T := tg_mem 935 (by decide +kernel) rfl
theorem selX9_readsNumber : Cond.selects RX9 yX9_readsNumber yX9_readsNumber ∈ tg_T := tg_mem 21 (by decide +kernel) rfl
theorem parX9_readsNumber : (parseMethodDescriptor mX9_readsNumber.1.desc).map (fun d => d.parameters.length) = some 2 := by decide +kernel
def mX9_isEnd : tg_M := (yX9_isEnd, cX9_isEnd, 1, (some .boolean), { frames := 0, cells := 0, slots := 0, locals := 0 })
theorem okX9_isEnd : tg_ok mX9_isEnd := ⟨tg_mem 932 (by decide +kernel) rfl, iniX9, by decide, by decide, by decide⟩
theorem insX9_isEnd : Cond.instanceMethod yX9_isEnd ∈ tg_T := tg_mem 931 (by decide +kernel) rfl
theorem selX9_isEnd : Cond.selects RX9 yX9_isEnd yX9_isEnd ∈ tg_T := tg_mem 20 (by decide +kernel) rfl
theorem parX9_isEnd : (parseMethodDescriptor mX9_isEnd.1.desc).map (fun d => d.parameters.length) = some 0 := by decide +kernel
def mX9_readsTable : tg_M := (yX9_readsTable, cX9_readsTable, 4, (some .boolean), { frames := 4, cells := 0, slots := 0, locals := 89 })
theorem okX9_readsTable : tg_ok mX9_readsTable := ⟨tg_mem 928 (by decide +kernel) rfl, iniX9, by decide, by decide, by decide⟩
theorem insX9_readsTable : Cond.instanceMethod yX9_readsTable ∈ tg_T := tg_mem 927 (by decide +kernel) rfl
theorem selX9_readsTable : Cond.selects RX9 yX9_readsTable yX9_readsTable ∈ tg_T := tg_mem 19 (by decide +kernel) rfl
theorem parX9_readsTable : (parseMethodDescriptor mX9_readsTable.1.desc).map (fun d => d.parameters.length) = some 0 := by decide +kernel
def mX9_readsSupport : tg_M := (yX9_readsSupport, cX9_readsSupport, 2, (some .boolean), { frames := 4, cells := 0, slots := 0, locals := 89 })
theorem okX9_readsSupport : tg_ok mX9_readsSupport := ⟨tg_mem 940 (by decide +kernel) rfl, iniX9, by decide, by decide, by decide⟩
theorem insX9_readsSupport : Cond.instanceMethod yX9_readsSupport ∈ tg_T := tg_mem 939 (by decide +kernel) rfl
theorem selX9_readsSupport : Cond.selects RX9 yX9_readsSupport yX9_readsSupport ∈ tg_T := tg_mem 22 (by decide +kernel) rfl
theorem parX9_readsSupport : (parseMethodDescriptor mX9_readsSupport.1.desc).map (fun d => d.parameters.length) = some 0 := by decide +kernel
def mX9_readsRow : tg_M := (yX9_readsRow, cX9_readsRow, 3, (some .boolean), { frames := 4, cells := 0, slots := 0, locals := 89 })
theorem okX9_readsRow : tg_ok mX9_readsRow := ⟨tg_mem 944 (by decide +kernel) rfl, iniX9, by decide, by decide, by decide⟩
theorem insX9_readsRow : Cond.instanceMethod yX9_readsRow ∈ tg_T := tg_mem 943 (by decide +kernel) rfl
theorem selX9_readsRow : Cond.selects RX9 yX9_readsRow yX9_readsRow ∈ tg_T := tg_mem 23 (by decide +kernel) rfl
theorem parX9_readsRow : (parseMethodDescriptor mX9_readsRow.1.desc).map (fun d => d.parameters.length) = some 0 := by decide +kernel
def mX9_wordHere : tg_M := (yX9_wordHere, cX9_wordHere, 1, (some .int), { frames := 1, cells := 0, slots := 0, locals := 23 })
theorem okX9_wordHere : tg_ok mX9_wordHere := ⟨tg_mem 920 (by decide +kernel) rfl, iniX9, by decide, by decide, by decide⟩
theorem insX9_wordHere : Cond.instanceMethod yX9_wordHere ∈ tg_T := tg_mem 919 (by decide +kernel) rfl
theorem selX9_wordHere : Cond.selects RX9 yX9_wordHere yX9_wordHere ∈ tg_T := tg_mem 17 (by decide +kernel) rfl
theorem parX9_wordHere : (parseMethodDescriptor mX9_wordHere.1.desc).map (fun d => d.parameters.length) = some 0 := by decide +kernel
def mX9_readsClause : tg_M := (yX9_readsClause, cX9_readsClause, 2, (some .boolean), { frames := 5, cells := 0, slots := 0, locals := 112 })
theorem okX9_readsClause : tg_ok mX9_readsClause := ⟨tg_mem 916 (by decide +kernel) rfl, iniX9, by decide, by decide, by decide⟩
theorem insX9_readsClause : Cond.instanceMethod yX9_readsClause ∈ tg_T := tg_mem 915 (by decide +kernel) rfl
theorem selX9_readsClause : Cond.selects RX9 yX9_readsClause yX9_readsClause ∈ tg_T := tg_mem 16 (by decide +kernel) rfl
theorem parX9_readsClause : (parseMethodDescriptor mX9_readsClause.1.desc).map (fun d => d.parameters.length) = some 0 := by decide +kernel
def mX9_reads : tg_M := (yX9_reads, cX9_reads, 3, (some .boolean), { frames := 6, cells := 0, slots := 0, locals := 133 })
theorem okX9_reads : tg_ok mX9_reads := ⟨tg_mem 898 (by decide +kernel) rfl, iniX9, by decide, by decide, by decide⟩
theorem insX9_reads : Cond.instanceMethod yX9_reads ∈ tg_T := tg_mem 897 (by decide +kernel) rfl
theorem selX9_reads : Cond.selects RX9 yX9_reads yX9_reads ∈ tg_T := tg_mem 14 (by decide +kernel) rfl
theorem parX9_reads : (parseMethodDescriptor mX9_reads.1.desc).map (fun d => d.parameters.length) = some 1 := by decide +kernel
def mX9_fault : tg_M := (yX9_fault, cX9_fault, 1, (some .int), { frames := 7, cells := 0, slots := 0, locals := 155 })
theorem okX9_fault : tg_ok mX9_fault := ⟨tg_mem 894 (by decide +kernel) rfl, iniX9, by decide, by decide, by decide⟩
theorem insX9_fault : Cond.instanceMethod yX9_fault ∈ tg_T := tg_mem 892 (by decide +kernel) rfl
theorem selX9_fault : Cond.selects RX9 yX9_fault yX9_fault ∈ tg_T := tg_mem 893 (by decide +kernel) rfl
theorem parX9_fault : (parseMethodDescriptor mX9_fault.1.desc).map (fun d => d.parameters.length) = some 0 := by decide +kernel
def mX9_read : tg_M := (yX9_read, cX9_read, 1, (some .int), { frames := 7, cells := 0, slots := 0, locals := 155 })
theorem okX9_read : tg_ok mX9_read := ⟨tg_mem 952 (by decide +kernel) rfl, iniX9, by decide, by decide, by decide⟩
theorem insX9_read : Cond.instanceMethod yX9_read ∈ tg_T := tg_mem 950 (by decide +kernel) rfl
theorem selX9_read : Cond.selects RX9 yX9_read yX9_read ∈ tg_T := tg_mem 951 (by decide +kernel) rfl
theorem parX9_read : (parseMethodDescriptor mX9_read.1.desc).map (fun d => d.parameters.length) = some 0 := by decide +kernel
def mX9_put : tg_M := (yX9_put, cX9_put, 5, none, { frames := 0, cells := 0, slots := 0, locals := 0 })
theorem okX9_put : tg_ok mX9_put := ⟨tg_mem 948 (by decide +kernel) rfl, iniX9, by decide, by decide, by decide⟩
theorem insX9_put : Cond.instanceMethod yX9_put ∈ tg_T := tg_mem 947 (by decide +kernel) rfl
theorem selX9_put : Cond.selects RX9 yX9_put yX9_put ∈ tg_T := tg_mem 24 (by decide +kernel) rfl
theorem parX9_put : (parseMethodDescriptor mX9_put.1.desc).map (fun d => d.parameters.length) = some 3 := by decide +kernel
def mX9_takeOut : tg_M := (yX9_takeOut, cX9_takeOut, 4, none, { frames := 0, cells := 0, slots := 0, locals := 0 })
theorem okX9_takeOut : tg_ok mX9_takeOut := ⟨tg_mem 994 (by decide +kernel) rfl, iniX9, by decide, by decide, by decide⟩
theorem insX9_takeOut : Cond.instanceMethod yX9_takeOut ∈ tg_T := tg_mem 993 (by decide +kernel) rfl
theorem selX9_takeOut : Cond.selects RX9 yX9_takeOut yX9_takeOut ∈ tg_T := tg_mem 32 (by decide +kernel) rfl
theorem parX9_takeOut : (parseMethodDescriptor mX9_takeOut.1.desc).map (fun d => d.parameters.length) = some 2 := by decide +kernel
def mX9_figure : tg_M := (yX9_figure, cX9_figure, 5, (some .int), { frames := 0, cells := 0, slots := 0, locals := 0 })
theorem okX9_figure : tg_ok mX9_figure := ⟨tg_mem 972 (by decide +kernel) rfl, iniX9, by decide, by decide, by decide⟩
theorem insX9_figure : Cond.instanceMethod yX9_figure ∈ tg_T := tg_mem 971 (by decide +kernel) rfl
theorem selX9_figure : Cond.selects RX9 yX9_figure yX9_figure ∈ tg_T := tg_mem 28 (by decide +kernel) rfl
theorem parX9_figure : (parseMethodDescriptor mX9_figure.1.desc).map (fun d => d.parameters.length) = some 2 := by decide +kernel
def mX9_codes : tg_M := (yX9_codes, cX9_codes, 3, (some .int), { frames := 0, cells := 0, slots := 0, locals := 0 })
theorem okX9_codes : tg_ok mX9_codes := ⟨tg_mem 968 (by decide +kernel) rfl, iniX9, by decide, by decide, by decide⟩
theorem insX9_codes : Cond.instanceMethod yX9_codes ∈ tg_T := tg_mem 967 (by decide +kernel) rfl
theorem selX9_codes : Cond.selects RX9 yX9_codes yX9_codes ∈ tg_T := tg_mem 27 (by decide +kernel) rfl
theorem parX9_codes : (parseMethodDescriptor mX9_codes.1.desc).map (fun d => d.parameters.length) = some 0 := by decide +kernel
def mX9_isCell : tg_M := (yX9_isCell, cX9_isCell, 4, (some .boolean), { frames := 1, cells := 0, slots := 0, locals := 25 })
theorem okX9_isCell : tg_ok mX9_isCell := ⟨tg_mem 964 (by decide +kernel) rfl, iniX9, by decide, by decide, by decide⟩
theorem insX9_isCell : Cond.instanceMethod yX9_isCell ∈ tg_T := tg_mem 963 (by decide +kernel) rfl
theorem selX9_isCell : Cond.selects RX9 yX9_isCell yX9_isCell ∈ tg_T := tg_mem 26 (by decide +kernel) rfl
theorem parX9_isCell : (parseMethodDescriptor mX9_isCell.1.desc).map (fun d => d.parameters.length) = some 1 := by decide +kernel
def mX9_isWhole : tg_M := (yX9_isWhole, cX9_isWhole, 4, (some .boolean), { frames := 2, cells := 0, slots := 0, locals := 48 })
theorem okX9_isWhole : tg_ok mX9_isWhole := ⟨tg_mem 960 (by decide +kernel) rfl, iniX9, by decide, by decide, by decide⟩
theorem insX9_isWhole : Cond.instanceMethod yX9_isWhole ∈ tg_T := tg_mem 959 (by decide +kernel) rfl
theorem selX9_isWhole : Cond.selects RX9 yX9_isWhole yX9_isWhole ∈ tg_T := tg_mem 25 (by decide +kernel) rfl
theorem parX9_isWhole : (parseMethodDescriptor mX9_isWhole.1.desc).map (fun d => d.parameters.length) = some 1 := by decide +kernel
def mX9_isEntry : tg_M := (yX9_isEntry, cX9_isEntry, 2, (some .boolean), { frames := 1, cells := 0, slots := 0, locals := 25 })
theorem okX9_isEntry : tg_ok mX9_isEntry := ⟨tg_mem 990 (by decide +kernel) rfl, iniX9, by decide, by decide, by decide⟩
theorem insX9_isEntry : Cond.instanceMethod yX9_isEntry ∈ tg_T := tg_mem 989 (by decide +kernel) rfl
theorem selX9_isEntry : Cond.selects RX9 yX9_isEntry yX9_isEntry ∈ tg_T := tg_mem 31 (by decide +kernel) rfl
theorem parX9_isEntry : (parseMethodDescriptor mX9_isEntry.1.desc).map (fun d => d.parameters.length) = some 1 := by decide +kernel
def mX9_keepPast : tg_M := (yX9_keepPast, cX9_keepPast, 2, none, { frames := 1, cells := 0, slots := 0, locals := 23 })
theorem okX9_keepPast : tg_ok mX9_keepPast := ⟨tg_mem 978 (by decide +kernel) rfl, iniX9, by decide, by decide, by decide⟩
theorem insX9_keepPast : Cond.instanceMethod yX9_keepPast ∈ tg_T := tg_mem 977 (by decide +kernel) rfl
theorem selX9_keepPast : Cond.selects RX9 yX9_keepPast yX9_keepPast ∈ tg_T := tg_mem 29 (by decide +kernel) rfl
theorem parX9_keepPast : (parseMethodDescriptor mX9_keepPast.1.desc).map (fun d => d.parameters.length) = some 0 := by decide +kernel
def mX9_add : tg_M := (yX9_add, cX9_add, 3, (some .int), { frames := 3, cells := 0, slots := 0, locals := 71 })
theorem okX9_add : tg_ok mX9_add := ⟨tg_mem 956 (by decide +kernel) rfl, iniX9, by decide, by decide, by decide⟩
theorem insX9_add : Cond.instanceMethod yX9_add ∈ tg_T := tg_mem 954 (by decide +kernel) rfl
theorem selX9_add : Cond.selects RX9 yX9_add yX9_add ∈ tg_T := tg_mem 955 (by decide +kernel) rfl
theorem parX9_add : (parseMethodDescriptor mX9_add.1.desc).map (fun d => d.parameters.length) = some 2 := by decide +kernel
def mX9_remove : tg_M := (yX9_remove, cX9_remove, 2, (some .int), { frames := 2, cells := 0, slots := 0, locals := 46 })
theorem okX9_remove : tg_ok mX9_remove := ⟨tg_mem 986 (by decide +kernel) rfl, iniX9, by decide, by decide, by decide⟩
theorem insX9_remove : Cond.instanceMethod yX9_remove ∈ tg_T := tg_mem 984 (by decide +kernel) rfl
theorem selX9_remove : Cond.selects RX9 yX9_remove yX9_remove ∈ tg_T := tg_mem 985 (by decide +kernel) rfl
theorem parX9_remove : (parseMethodDescriptor mX9_remove.1.desc).map (fun d => d.parameters.length) = some 1 := by decide +kernel
def mX9_support : tg_M := (yX9_support, cX9_support, 3, (some .int), { frames := 2, cells := 0, slots := 0, locals := 44 })
theorem okX9_support : tg_ok mX9_support := ⟨tg_mem 998 (by decide +kernel) rfl, iniX9, by decide, by decide, by decide⟩
theorem insX9_support : Cond.instanceMethod yX9_support ∈ tg_T := tg_mem 996 (by decide +kernel) rfl
theorem selX9_support : Cond.selects RX9 yX9_support yX9_support ∈ tg_T := tg_mem 997 (by decide +kernel) rfl
theorem parX9_support : (parseMethodDescriptor mX9_support.1.desc).map (fun d => d.parameters.length) = some 1 := by decide +kernel
def mX9_undo : tg_M := (yX9_undo, cX9_undo, 1, (some .int), { frames := 1, cells := 0, slots := 0, locals := 23 })
theorem okX9_undo : tg_ok mX9_undo := ⟨tg_mem 1003 (by decide +kernel) rfl, iniX9, by decide, by decide, by decide⟩
theorem insX9_undo : Cond.instanceMethod yX9_undo ∈ tg_T := tg_mem 1001 (by decide +kernel) rfl
theorem selX9_undo : Cond.selects RX9 yX9_undo yX9_undo ∈ tg_T := tg_mem 1002 (by decide +kernel) rfl
theorem parX9_undo : (parseMethodDescriptor mX9_undo.1.desc).map (fun d => d.parameters.length) = some 0 := by decide +kernel
def mX9_keep : tg_M := (yX9_keep, cX9_keep, 2, (some .int), { frames := 1, cells := 0, slots := 0, locals := 25 })
theorem okX9_keep : tg_ok mX9_keep := ⟨tg_mem 1007 (by decide +kernel) rfl, iniX9, by decide, by decide, by decide⟩
theorem insX9_keep : Cond.instanceMethod yX9_keep ∈ tg_T := tg_mem 1005 (by decide +kernel) rfl
theorem selX9_keep : Cond.selects RX9 yX9_keep yX9_keep ∈ tg_T := tg_mem 1006 (by decide +kernel) rfl
theorem parX9_keep : (parseMethodDescriptor mX9_keep.1.desc).map (fun d => d.parameters.length) = some 1 := by decide +kernel
def mX9_back : tg_M := (yX9_back, cX9_back, 2, (some .int), { frames := 1, cells := 0, slots := 0, locals := 25 })
theorem okX9_back : tg_ok mX9_back := ⟨tg_mem 1011 (by decide +kernel) rfl, iniX9, by decide, by decide, by decide⟩
theorem insX9_back : Cond.instanceMethod yX9_back ∈ tg_T := tg_mem 1009 (by decide +kernel) rfl
theorem selX9_back : Cond.selects RX9 yX9_back yX9_back ∈ tg_T := tg_mem 1010 (by decide +kernel) rfl
theorem parX9_back : (parseMethodDescriptor mX9_back.1.desc).map (fun d => d.parameters.length) = some 1 := by decide +kernel
def mX9_entry : tg_M := (yX9_entry, cX9_entry, 3, (some .int), { frames := 2, cells := 0, slots := 0, locals := 46 })
theorem okX9_entry : tg_ok mX9_entry := ⟨tg_mem 1015 (by decide +kernel) rfl, iniX9, by decide, by decide, by decide⟩
theorem insX9_entry : Cond.instanceMethod yX9_entry ∈ tg_T := tg_mem 1013 (by decide +kernel) rfl
theorem selX9_entry : Cond.selects RX9 yX9_entry yX9_entry ∈ tg_T := tg_mem 1014 (by decide +kernel) rfl
theorem parX9_entry : (parseMethodDescriptor mX9_entry.1.desc).map (fun d => d.parameters.length) = some 2 := by decide +kernel
def mX9_covers : tg_M := (yX9_covers, cX9_covers, 7, (some .boolean), { frames := 0, cells := 0, slots := 0, locals := 0 })
theorem okX9_covers : tg_ok mX9_covers := ⟨tg_mem 1030 (by decide +kernel) rfl, iniX9, by decide, by decide, by decide⟩
theorem insX9_covers : Cond.instanceMethod yX9_covers ∈ tg_T := tg_mem 1029 (by decide +kernel) rfl
theorem selX9_covers : Cond.selects RX9 yX9_covers yX9_covers ∈ tg_T := tg_mem 34 (by decide +kernel) rfl
theorem parX9_covers : (parseMethodDescriptor mX9_covers.1.desc).map (fun d => d.parameters.length) = some 2 := by decide +kernel
def mX9_common : tg_M := (yX9_common, cX9_common, 8, (some .int), { frames := 0, cells := 0, slots := 0, locals := 0 })
theorem okX9_common : tg_ok mX9_common := ⟨tg_mem 1034 (by decide +kernel) rfl, iniX9, by decide, by decide, by decide⟩
theorem insX9_common : Cond.instanceMethod yX9_common ∈ tg_T := tg_mem 1033 (by decide +kernel) rfl
theorem selX9_common : Cond.selects RX9 yX9_common yX9_common ∈ tg_T := tg_mem 35 (by decide +kernel) rfl
theorem parX9_common : (parseMethodDescriptor mX9_common.1.desc).map (fun d => d.parameters.length) = some 2 := by decide +kernel
def mX9_gather : tg_M := (yX9_gather, cX9_gather, 6, none, { frames := 1, cells := 0, slots := 0, locals := 27 })
theorem okX9_gather : tg_ok mX9_gather := ⟨tg_mem 1024 (by decide +kernel) rfl, iniX9, by decide, by decide, by decide⟩
theorem insX9_gather : Cond.instanceMethod yX9_gather ∈ tg_T := tg_mem 1023 (by decide +kernel) rfl
theorem selX9_gather : Cond.selects RX9 yX9_gather yX9_gather ∈ tg_T := tg_mem 33 (by decide +kernel) rfl
theorem parX9_gather : (parseMethodDescriptor mX9_gather.1.desc).map (fun d => d.parameters.length) = some 2 := by decide +kernel
def mX9_cell : tg_M := (yX9_cell, cX9_cell, 3, (some .int), { frames := 2, cells := 0, slots := 0, locals := 52 })
theorem okX9_cell : tg_ok mX9_cell := ⟨tg_mem 1019 (by decide +kernel) rfl, iniX9, by decide, by decide, by decide⟩
theorem insX9_cell : Cond.instanceMethod yX9_cell ∈ tg_T := tg_mem 1017 (by decide +kernel) rfl
theorem selX9_cell : Cond.selects RX9 yX9_cell yX9_cell ∈ tg_T := tg_mem 1018 (by decide +kernel) rfl
theorem parX9_cell : (parseMethodDescriptor mX9_cell.1.desc).map (fun d => d.parameters.length) = some 2 := by decide +kernel
def mX9_closure : tg_M := (yX9_closure, cX9_closure, 2, (some .int), { frames := 2, cells := 0, slots := 0, locals := 52 })
theorem okX9_closure : tg_ok mX9_closure := ⟨tg_mem 1038 (by decide +kernel) rfl, iniX9, by decide, by decide, by decide⟩
theorem insX9_closure : Cond.instanceMethod yX9_closure ∈ tg_T := tg_mem 1036 (by decide +kernel) rfl
theorem selX9_closure : Cond.selects RX9 yX9_closure yX9_closure ∈ tg_T := tg_mem 1037 (by decide +kernel) rfl
theorem parX9_closure : (parseMethodDescriptor mX9_closure.1.desc).map (fun d => d.parameters.length) = some 1 := by decide +kernel
def mX9_isIn : tg_M := (yX9_isIn, cX9_isIn, 3, (some .boolean), { frames := 2, cells := 0, slots := 0, locals := 52 })
theorem okX9_isIn : tg_ok mX9_isIn := ⟨tg_mem 1046 (by decide +kernel) rfl, iniX9, by decide, by decide, by decide⟩
theorem insX9_isIn : Cond.instanceMethod yX9_isIn ∈ tg_T := tg_mem 1045 (by decide +kernel) rfl
theorem selX9_isIn : Cond.selects RX9 yX9_isIn yX9_isIn ∈ tg_T := tg_mem 36 (by decide +kernel) rfl
theorem parX9_isIn : (parseMethodDescriptor mX9_isIn.1.desc).map (fun d => d.parameters.length) = some 2 := by decide +kernel
def mX9_cubeOf : tg_M := (yX9_cubeOf, cX9_cubeOf, 5, (some .int), { frames := 3, cells := 0, slots := 0, locals := 74 })
theorem okX9_cubeOf : tg_ok mX9_cubeOf := ⟨tg_mem 1082 (by decide +kernel) rfl, iniX9, by decide, by decide, by decide⟩
theorem insX9_cubeOf : Cond.instanceMethod yX9_cubeOf ∈ tg_T := tg_mem 1081 (by decide +kernel) rfl
theorem selX9_cubeOf : Cond.selects RX9 yX9_cubeOf yX9_cubeOf ∈ tg_T := tg_mem 41 (by decide +kernel) rfl
theorem parX9_cubeOf : (parseMethodDescriptor mX9_cubeOf.1.desc).map (fun d => d.parameters.length) = some 1 := by decide +kernel
def mX9_kept : tg_M := (yX9_kept, cX9_kept, 5, (some .int), { frames := 3, cells := 0, slots := 0, locals := 74 })
theorem okX9_kept : tg_ok mX9_kept := ⟨tg_mem 1042 (by decide +kernel) rfl, iniX9, by decide, by decide, by decide⟩
theorem insX9_kept : Cond.instanceMethod yX9_kept ∈ tg_T := tg_mem 1040 (by decide +kernel) rfl
theorem selX9_kept : Cond.selects RX9 yX9_kept yX9_kept ∈ tg_T := tg_mem 1041 (by decide +kernel) rfl
theorem parX9_kept : (parseMethodDescriptor mX9_kept.1.desc).map (fun d => d.parameters.length) = some 1 := by decide +kernel
def mX9_ask : tg_M := (yX9_ask, cX9_ask, 3, (some .int), { frames := 2, cells := 0, slots := 0, locals := 52 })
theorem okX9_ask : tg_ok mX9_ask := ⟨tg_mem 1050 (by decide +kernel) rfl, iniX9, by decide, by decide, by decide⟩
theorem insX9_ask : Cond.instanceMethod yX9_ask ∈ tg_T := tg_mem 1048 (by decide +kernel) rfl
theorem selX9_ask : Cond.selects RX9 yX9_ask yX9_ask ∈ tg_T := tg_mem 1049 (by decide +kernel) rfl
theorem parX9_ask : (parseMethodDescriptor mX9_ask.1.desc).map (fun d => d.parameters.length) = some 2 := by decide +kernel
def mX9_placeIn : tg_M := (yX9_placeIn, cX9_placeIn, 6, (some .int), { frames := 0, cells := 0, slots := 0, locals := 0 })
theorem okX9_placeIn : tg_ok mX9_placeIn := ⟨tg_mem 1062 (by decide +kernel) rfl, iniX9, by decide, by decide, by decide⟩
theorem insX9_placeIn : Cond.instanceMethod yX9_placeIn ∈ tg_T := tg_mem 1061 (by decide +kernel) rfl
theorem selX9_placeIn : Cond.selects RX9 yX9_placeIn yX9_placeIn ∈ tg_T := tg_mem 38 (by decide +kernel) rfl
theorem parX9_placeIn : (parseMethodDescriptor mX9_placeIn.1.desc).map (fun d => d.parameters.length) = some 2 := by decide +kernel
def mX9_isOrder : tg_M := (yX9_isOrder, cX9_isOrder, 5, (some .boolean), { frames := 1, cells := 0, slots := 0, locals := 25 })
theorem okX9_isOrder : tg_ok mX9_isOrder := ⟨tg_mem 1058 (by decide +kernel) rfl, iniX9, by decide, by decide, by decide⟩
theorem insX9_isOrder : Cond.instanceMethod yX9_isOrder ∈ tg_T := tg_mem 1057 (by decide +kernel) rfl
theorem selX9_isOrder : Cond.selects RX9 yX9_isOrder yX9_isOrder ∈ tg_T := tg_mem 37 (by decide +kernel) rfl
theorem parX9_isOrder : (parseMethodDescriptor mX9_isOrder.1.desc).map (fun d => d.parameters.length) = some 1 := by decide +kernel
def mX9_layCounts : tg_M := (yX9_layCounts, cX9_layCounts, 3, none, { frames := 2, cells := 0, slots := 0, locals := 52 })
theorem okX9_layCounts : tg_ok mX9_layCounts := ⟨tg_mem 1066 (by decide +kernel) rfl, iniX9, by decide, by decide, by decide⟩
theorem insX9_layCounts : Cond.instanceMethod yX9_layCounts ∈ tg_T := tg_mem 1065 (by decide +kernel) rfl
theorem selX9_layCounts : Cond.selects RX9 yX9_layCounts yX9_layCounts ∈ tg_T := tg_mem 39 (by decide +kernel) rfl
theorem parX9_layCounts : (parseMethodDescriptor mX9_layCounts.1.desc).map (fun d => d.parameters.length) = some 0 := by decide +kernel
def mX9_workBy : tg_M := (yX9_workBy, cX9_workBy, 8, (some .int), { frames := 1, cells := 0, slots := 0, locals := 25 })
theorem okX9_workBy : tg_ok mX9_workBy := ⟨tg_mem 1070 (by decide +kernel) rfl, iniX9, by decide, by decide, by decide⟩
theorem insX9_workBy : Cond.instanceMethod yX9_workBy ∈ tg_T := tg_mem 1069 (by decide +kernel) rfl
theorem selX9_workBy : Cond.selects RX9 yX9_workBy yX9_workBy ∈ tg_T := tg_mem 40 (by decide +kernel) rfl
theorem parX9_workBy : (parseMethodDescriptor mX9_workBy.1.desc).map (fun d => d.parameters.length) = some 1 := by decide +kernel
def mX9_part : tg_M := (yX9_part, cX9_part, 4, (some .int), { frames := 3, cells := 0, slots := 0, locals := 74 })
theorem okX9_part : tg_ok mX9_part := ⟨tg_mem 1054 (by decide +kernel) rfl, iniX9, by decide, by decide, by decide⟩
theorem insX9_part : Cond.instanceMethod yX9_part ∈ tg_T := tg_mem 1052 (by decide +kernel) rfl
theorem selX9_part : Cond.selects RX9 yX9_part yX9_part ∈ tg_T := tg_mem 1053 (by decide +kernel) rfl
theorem parX9_part : (parseMethodDescriptor mX9_part.1.desc).map (fun d => d.parameters.length) = some 2 := by decide +kernel
def mX9_best : tg_M := (yX9_best, cX9_best, 6, (some .int), { frames := 3, cells := 0, slots := 0, locals := 74 })
theorem okX9_best : tg_ok mX9_best := ⟨tg_mem 1074 (by decide +kernel) rfl, iniX9, by decide, by decide, by decide⟩
theorem insX9_best : Cond.instanceMethod yX9_best ∈ tg_T := tg_mem 1072 (by decide +kernel) rfl
theorem selX9_best : Cond.selects RX9 yX9_best yX9_best ∈ tg_T := tg_mem 1073 (by decide +kernel) rfl
theorem parX9_best : (parseMethodDescriptor mX9_best.1.desc).map (fun d => d.parameters.length) = some 1 := by decide +kernel
def mX9_only : tg_M := (yX9_only, cX9_only, 6, (some .int), { frames := 3, cells := 0, slots := 0, locals := 74 })
theorem okX9_only : tg_ok mX9_only := ⟨tg_mem 1086 (by decide +kernel) rfl, iniX9, by decide, by decide, by decide⟩
theorem insX9_only : Cond.instanceMethod yX9_only ∈ tg_T := tg_mem 1085 (by decide +kernel) rfl
theorem selX9_only : Cond.selects RX9 yX9_only yX9_only ∈ tg_T := tg_mem 42 (by decide +kernel) rfl
theorem parX9_only : (parseMethodDescriptor mX9_only.1.desc).map (fun d => d.parameters.length) = some 2 := by decide +kernel
def mX9_more : tg_M := (yX9_more, cX9_more, 3, (some .int), { frames := 4, cells := 0, slots := 0, locals := 99 })
theorem okX9_more : tg_ok mX9_more := ⟨tg_mem 1078 (by decide +kernel) rfl, iniX9, by decide, by decide, by decide⟩
theorem insX9_more : Cond.instanceMethod yX9_more ∈ tg_T := tg_mem 1076 (by decide +kernel) rfl
theorem selX9_more : Cond.selects RX9 yX9_more yX9_more ∈ tg_T := tg_mem 1077 (by decide +kernel) rfl
theorem parX9_more : (parseMethodDescriptor mX9_more.1.desc).map (fun d => d.parameters.length) = some 2 := by decide +kernel
def mX9_less : tg_M := (yX9_less, cX9_less, 3, (some .int), { frames := 4, cells := 0, slots := 0, locals := 99 })
theorem okX9_less : tg_ok mX9_less := ⟨tg_mem 1090 (by decide +kernel) rfl, iniX9, by decide, by decide, by decide⟩
theorem insX9_less : Cond.instanceMethod yX9_less ∈ tg_T := tg_mem 1088 (by decide +kernel) rfl
theorem selX9_less : Cond.selects RX9 yX9_less yX9_less ∈ tg_T := tg_mem 1089 (by decide +kernel) rfl
theorem parX9_less : (parseMethodDescriptor mX9_less.1.desc).map (fun d => d.parameters.length) = some 2 := by decide +kernel
def mX9_cap : tg_M := (yX9_cap, cX9_cap, 5, (some .int), { frames := 2, cells := 0, slots := 0, locals := 52 })
theorem okX9_cap : tg_ok mX9_cap := ⟨tg_mem 1094 (by decide +kernel) rfl, iniX9, by decide, by decide, by decide⟩
theorem insX9_cap : Cond.instanceMethod yX9_cap ∈ tg_T := tg_mem 1092 (by decide +kernel) rfl
theorem selX9_cap : Cond.selects RX9 yX9_cap yX9_cap ∈ tg_T := tg_mem 1093 (by decide +kernel) rfl
theorem parX9_cap : (parseMethodDescriptor mX9_cap.1.desc).map (fun d => d.parameters.length) = some 1 := by decide +kernel
def mX9_areAlike : tg_M := (yX9_areAlike, cX9_areAlike, 6, (some .boolean), { frames := 1, cells := 0, slots := 0, locals := 24 })
theorem okX9_areAlike : tg_ok mX9_areAlike := ⟨tg_mem 1107 (by decide +kernel) rfl, iniX9, by decide, by decide, by decide⟩
theorem insX9_areAlike : Cond.instanceMethod yX9_areAlike ∈ tg_T := tg_mem 1106 (by decide +kernel) rfl
theorem selX9_areAlike : Cond.selects RX9 yX9_areAlike yX9_areAlike ∈ tg_T := tg_mem 44 (by decide +kernel) rfl
theorem parX9_areAlike : (parseMethodDescriptor mX9_areAlike.1.desc).map (fun d => d.parameters.length) = some 3 := by decide +kernel
def mX9_isKey : tg_M := (yX9_isKey, cX9_isKey, 5, (some .boolean), { frames := 2, cells := 0, slots := 0, locals := 49 })
theorem okX9_isKey : tg_ok mX9_isKey := ⟨tg_mem 1103 (by decide +kernel) rfl, iniX9, by decide, by decide, by decide⟩
theorem insX9_isKey : Cond.instanceMethod yX9_isKey ∈ tg_T := tg_mem 1102 (by decide +kernel) rfl
theorem selX9_isKey : Cond.selects RX9 yX9_isKey yX9_isKey ∈ tg_T := tg_mem 43 (by decide +kernel) rfl
theorem parX9_isKey : (parseMethodDescriptor mX9_isKey.1.desc).map (fun d => d.parameters.length) = some 1 := by decide +kernel
def mX9_bits4 : tg_M := (yX9_bits4, cX9_bits4, 1, (some .int), { frames := 0, cells := 0, slots := 0, locals := 0 })
theorem okX9_bits4 : tg_ok mX9_bits4 := ⟨tg_mem 1113 (by decide +kernel) rfl, iniX9, by decide, by decide, by decide⟩
theorem staX9_bits4 : Cond.static yX9_bits4 ∈ tg_T := tg_mem 1112 (by decide +kernel) rfl
theorem parX9_bits4 : (parseMethodDescriptor mX9_bits4.1.desc).map (fun d => d.parameters.length) = some 1 := by decide +kernel
def mX9_key : tg_M := (yX9_key, cX9_key, 3, (some .int), { frames := 3, cells := 0, slots := 0, locals := 73 })
theorem okX9_key : tg_ok mX9_key := ⟨tg_mem 1099 (by decide +kernel) rfl, iniX9, by decide, by decide, by decide⟩
theorem insX9_key : Cond.instanceMethod yX9_key ∈ tg_T := tg_mem 1097 (by decide +kernel) rfl
theorem selX9_key : Cond.selects RX9 yX9_key yX9_key ∈ tg_T := tg_mem 1098 (by decide +kernel) rfl
theorem parX9_key : (parseMethodDescriptor mX9_key.1.desc).map (fun d => d.parameters.length) = some 0 := by decide +kernel
def mX9_rule : tg_M := (yX9_rule, cX9_rule, 6, (some .int), { frames := 2, cells := 0, slots := 0, locals := 49 })
theorem okX9_rule : tg_ok mX9_rule := ⟨tg_mem 1117 (by decide +kernel) rfl, iniX9, by decide, by decide, by decide⟩
theorem insX9_rule : Cond.instanceMethod yX9_rule ∈ tg_T := tg_mem 1115 (by decide +kernel) rfl
theorem selX9_rule : Cond.selects RX9 yX9_rule yX9_rule ∈ tg_T := tg_mem 1116 (by decide +kernel) rfl
theorem parX9_rule : (parseMethodDescriptor mX9_rule.1.desc).map (fun d => d.parameters.length) = some 2 := by decide +kernel
def mX9_isRow : tg_M := (yX9_isRow, cX9_isRow, 1, (some .boolean), { frames := 1, cells := 0, slots := 0, locals := 25 })
theorem okX9_isRow : tg_ok mX9_isRow := ⟨tg_mem 1124 (by decide +kernel) rfl, iniX9, by decide, by decide, by decide⟩
theorem staX9_isRow : Cond.static yX9_isRow ∈ tg_T := tg_mem 1123 (by decide +kernel) rfl
theorem parX9_isRow : (parseMethodDescriptor mX9_isRow.1.desc).map (fun d => d.parameters.length) = some 1 := by decide +kernel
def mX9_row : tg_M := (yX9_row, cX9_row, 4, (some .int), { frames := 2, cells := 0, slots := 0, locals := 45 })
theorem okX9_row : tg_ok mX9_row := ⟨tg_mem 1121 (by decide +kernel) rfl, iniX9, by decide, by decide, by decide⟩
theorem insX9_row : Cond.instanceMethod yX9_row ∈ tg_T := tg_mem 1119 (by decide +kernel) rfl
theorem selX9_row : Cond.selects RX9 yX9_row yX9_row ∈ tg_T := tg_mem 1120 (by decide +kernel) rfl
theorem parX9_row : (parseMethodDescriptor mX9_row.1.desc).map (fun d => d.parameters.length) = some 2 := by decide +kernel
def mX9_noPlace : tg_M := (yX9_noPlace, cX9_noPlace, 3, (some .int), { frames := 2, cells := 0, slots := 0, locals := 45 })
theorem okX9_noPlace : tg_ok mX9_noPlace := ⟨tg_mem 1133 (by decide +kernel) rfl, iniX9, by decide, by decide, by decide⟩
theorem insX9_noPlace : Cond.instanceMethod yX9_noPlace ∈ tg_T := tg_mem 1132 (by decide +kernel) rfl
theorem selX9_noPlace : Cond.selects RX9 yX9_noPlace yX9_noPlace ∈ tg_T := tg_mem 45 (by decide +kernel) rfl
theorem parX9_noPlace : (parseMethodDescriptor mX9_noPlace.1.desc).map (fun d => d.parameters.length) = some 2 := by decide +kernel
def mX9_set : tg_M := (yX9_set, cX9_set, 5, (some .int), { frames := 3, cells := 0, slots := 0, locals := 67 })
theorem okX9_set : tg_ok mX9_set := ⟨tg_mem 1129 (by decide +kernel) rfl, iniX9, by decide, by decide, by decide⟩
theorem insX9_set : Cond.instanceMethod yX9_set ∈ tg_T := tg_mem 1127 (by decide +kernel) rfl
theorem selX9_set : Cond.selects RX9 yX9_set yX9_set ∈ tg_T := tg_mem 1128 (by decide +kernel) rfl
theorem parX9_set : (parseMethodDescriptor mX9_set.1.desc).map (fun d => d.parameters.length) = some 3 := by decide +kernel
def mX9_plus : tg_M := (yX9_plus, cX9_plus, 7, (some .long), { frames := 0, cells := 0, slots := 0, locals := 0 })
theorem okX9_plus : tg_ok mX9_plus := ⟨tg_mem 1145 (by decide +kernel) rfl, iniX9, by decide, by decide, by decide⟩
theorem insX9_plus : Cond.instanceMethod yX9_plus ∈ tg_T := tg_mem 1144 (by decide +kernel) rfl
theorem selX9_plus : Cond.selects RX9 yX9_plus yX9_plus ∈ tg_T := tg_mem 47 (by decide +kernel) rfl
theorem parX9_plus : (parseMethodDescriptor mX9_plus.1.desc).map (fun d => d.parameters.length) = some 2 := by decide +kernel
def mX9_times : tg_M := (yX9_times, cX9_times, 7, (some .long), { frames := 0, cells := 0, slots := 0, locals := 0 })
theorem okX9_times : tg_ok mX9_times := ⟨tg_mem 1141 (by decide +kernel) rfl, iniX9, by decide, by decide, by decide⟩
theorem insX9_times : Cond.instanceMethod yX9_times ∈ tg_T := tg_mem 1140 (by decide +kernel) rfl
theorem selX9_times : Cond.selects RX9 yX9_times yX9_times ∈ tg_T := tg_mem 46 (by decide +kernel) rfl
theorem parX9_times : (parseMethodDescriptor mX9_times.1.desc).map (fun d => d.parameters.length) = some 2 := by decide +kernel
def mX9_work : tg_M := (yX9_work, cX9_work, 10, (some .int), { frames := 3, cells := 0, slots := 0, locals := 67 })
theorem okX9_work : tg_ok mX9_work := ⟨tg_mem 1137 (by decide +kernel) rfl, iniX9, by decide, by decide, by decide⟩
theorem insX9_work : Cond.instanceMethod yX9_work ∈ tg_T := tg_mem 1135 (by decide +kernel) rfl
theorem selX9_work : Cond.selects RX9 yX9_work yX9_work ∈ tg_T := tg_mem 1136 (by decide +kernel) rfl
theorem parX9_work : (parseMethodDescriptor mX9_work.1.desc).map (fun d => d.parameters.length) = some 4 := by decide +kernel
def mX9_bits : tg_M := (yX9_bits, cX9_bits, 5, (some .int), { frames := 3, cells := 0, slots := 0, locals := 67 })
theorem okX9_bits : tg_ok mX9_bits := ⟨tg_mem 1149 (by decide +kernel) rfl, iniX9, by decide, by decide, by decide⟩
theorem insX9_bits : Cond.instanceMethod yX9_bits ∈ tg_T := tg_mem 1147 (by decide +kernel) rfl
theorem selX9_bits : Cond.selects RX9 yX9_bits yX9_bits ∈ tg_T := tg_mem 1148 (by decide +kernel) rfl
theorem parX9_bits : (parseMethodDescriptor mX9_bits.1.desc).map (fun d => d.parameters.length) = some 2 := by decide +kernel
def mX9_sum : tg_M := (yX9_sum, cX9_sum, 5, (some .int), { frames := 2, cells := 0, slots := 0, locals := 45 })
theorem okX9_sum : tg_ok mX9_sum := ⟨tg_mem 1153 (by decide +kernel) rfl, iniX9, by decide, by decide, by decide⟩
theorem insX9_sum : Cond.instanceMethod yX9_sum ∈ tg_T := tg_mem 1151 (by decide +kernel) rfl
theorem selX9_sum : Cond.selects RX9 yX9_sum yX9_sum ∈ tg_T := tg_mem 1152 (by decide +kernel) rfl
theorem parX9_sum : (parseMethodDescriptor mX9_sum.1.desc).map (fun d => d.parameters.length) = some 1 := by decide +kernel
def mX9_load : tg_M := (yX9_load, cX9_load, 5, (some .int), { frames := 3, cells := 0, slots := 0, locals := 67 })
theorem okX9_load : tg_ok mX9_load := ⟨tg_mem 1157 (by decide +kernel) rfl, iniX9, by decide, by decide, by decide⟩
theorem insX9_load : Cond.instanceMethod yX9_load ∈ tg_T := tg_mem 1155 (by decide +kernel) rfl
theorem selX9_load : Cond.selects RX9 yX9_load yX9_load ∈ tg_T := tg_mem 1156 (by decide +kernel) rfl
theorem parX9_load : (parseMethodDescriptor mX9_load.1.desc).map (fun d => d.parameters.length) = some 3 := by decide +kernel
def mX9_drop : tg_M := (yX9_drop, cX9_drop, 3, (some .int), { frames := 2, cells := 0, slots := 0, locals := 45 })
theorem okX9_drop : tg_ok mX9_drop := ⟨tg_mem 1161 (by decide +kernel) rfl, iniX9, by decide, by decide, by decide⟩
theorem insX9_drop : Cond.instanceMethod yX9_drop ∈ tg_T := tg_mem 1159 (by decide +kernel) rfl
theorem selX9_drop : Cond.selects RX9 yX9_drop yX9_drop ∈ tg_T := tg_mem 1160 (by decide +kernel) rfl
theorem parX9_drop : (parseMethodDescriptor mX9_drop.1.desc).map (fun d => d.parameters.length) = some 1 := by decide +kernel
def mX9_asked : tg_M := (yX9_asked, cX9_asked, 1, (some .long), { frames := 0, cells := 0, slots := 0, locals := 0 })
theorem okX9_asked : tg_ok mX9_asked := ⟨tg_mem 1165 (by decide +kernel) rfl, iniX9, by decide, by decide, by decide⟩
theorem insX9_asked : Cond.instanceMethod yX9_asked ∈ tg_T := tg_mem 1163 (by decide +kernel) rfl
theorem selX9_asked : Cond.selects RX9 yX9_asked yX9_asked ∈ tg_T := tg_mem 1164 (by decide +kernel) rfl
theorem parX9_asked : (parseMethodDescriptor mX9_asked.1.desc).map (fun d => d.parameters.length) = some 0 := by decide +kernel
def mX9_supported : tg_M := (yX9_supported, cX9_supported, 4, (some .int), { frames := 2, cells := 0, slots := 0, locals := 52 })
theorem okX9_supported : tg_ok mX9_supported := ⟨tg_mem 1173 (by decide +kernel) rfl, iniX9, by decide, by decide, by decide⟩
theorem insX9_supported : Cond.instanceMethod yX9_supported ∈ tg_T := tg_mem 1172 (by decide +kernel) rfl
theorem selX9_supported : Cond.selects RX9 yX9_supported yX9_supported ∈ tg_T := tg_mem 48 (by decide +kernel) rfl
theorem parX9_supported : (parseMethodDescriptor mX9_supported.1.desc).map (fun d => d.parameters.length) = some 0 := by decide +kernel
def mX9_valuesTold : tg_M := (yX9_valuesTold, cX9_valuesTold, 3, (some .int), { frames := 0, cells := 0, slots := 0, locals := 0 })
theorem okX9_valuesTold : tg_ok mX9_valuesTold := ⟨tg_mem 1177 (by decide +kernel) rfl, iniX9, by decide, by decide, by decide⟩
theorem insX9_valuesTold : Cond.instanceMethod yX9_valuesTold ∈ tg_T := tg_mem 1176 (by decide +kernel) rfl
theorem selX9_valuesTold : Cond.selects RX9 yX9_valuesTold yX9_valuesTold ∈ tg_T := tg_mem 49 (by decide +kernel) rfl
theorem parX9_valuesTold : (parseMethodDescriptor mX9_valuesTold.1.desc).map (fun d => d.parameters.length) = some 0 := by decide +kernel
def mX9_allPlaces : tg_M := (yX9_allPlaces, cX9_allPlaces, 3, (some .int), { frames := 0, cells := 0, slots := 0, locals := 0 })
theorem okX9_allPlaces : tg_ok mX9_allPlaces := ⟨tg_mem 1181 (by decide +kernel) rfl, iniX9, by decide, by decide, by decide⟩
theorem insX9_allPlaces : Cond.instanceMethod yX9_allPlaces ∈ tg_T := tg_mem 1180 (by decide +kernel) rfl
theorem selX9_allPlaces : Cond.selects RX9 yX9_allPlaces yX9_allPlaces ∈ tg_T := tg_mem 50 (by decide +kernel) rfl
theorem parX9_allPlaces : (parseMethodDescriptor mX9_allPlaces.1.desc).map (fun d => d.parameters.length) = some 0 := by decide +kernel
def mX9_count : tg_M := (yX9_count, cX9_count, 2, (some .int), { frames := 4, cells := 0, slots := 0, locals := 98 })
theorem okX9_count : tg_ok mX9_count := ⟨tg_mem 1169 (by decide +kernel) rfl, iniX9, by decide, by decide, by decide⟩
theorem insX9_count : Cond.instanceMethod yX9_count ∈ tg_T := tg_mem 1167 (by decide +kernel) rfl
theorem selX9_count : Cond.selects RX9 yX9_count yX9_count ∈ tg_T := tg_mem 1168 (by decide +kernel) rfl
theorem parX9_count : (parseMethodDescriptor mX9_count.1.desc).map (fun d => d.parameters.length) = some 1 := by decide +kernel
def mJ6_bitCount_0f7a4 : tg_M := (yJ6_bitCount_0f7a4, cJ6_bitCount_0f7a4, 1, (some .int), { frames := 0, cells := 0, slots := 0, locals := 0 })
theorem okJ6_bitCount_0f7a4 : tg_ok mJ6_bitCount_0f7a4 := ⟨tg_mem 690 (by decide +kernel) rfl, iniJ6, by decide, by decide, by decide⟩
theorem staJ6_bitCount_0f7a4 : Cond.static yJ6_bitCount_0f7a4 ∈ tg_T := tg_mem 689 (by decide +kernel) rfl
theorem parJ6_bitCount_0f7a4 : (parseMethodDescriptor mJ6_bitCount_0f7a4.1.desc).map (fun d => d.parameters.length) = some 1 := by decide +kernel
def mJ13_bitCount_95d88 : tg_M := (yJ13_bitCount_95d88, cJ13_bitCount_95d88, 2, (some .int), { frames := 0, cells := 0, slots := 0, locals := 0 })
theorem okJ13_bitCount_95d88 : tg_ok mJ13_bitCount_95d88 := ⟨tg_mem 534 (by decide +kernel) rfl, iniJ13, by decide, by decide, by decide⟩
theorem staJ13_bitCount_95d88 : Cond.static yJ13_bitCount_95d88 ∈ tg_T := tg_mem 533 (by decide +kernel) rfl
theorem parJ13_bitCount_95d88 : (parseMethodDescriptor mJ13_bitCount_95d88.1.desc).map (fun d => d.parameters.length) = some 1 := by decide +kernel
theorem staMax : Cond.static Lib.Math.max.name ∈ tg_T := tg_mem 575 (by decide +kernel) rfl
theorem staMin : Cond.static Lib.Math.min.name ∈ tg_T := tg_mem 458 (by decide +kernel) rfl
theorem codMax : Cond.code Lib.Math.max.name Lib.Math.max.code 2 (some .int) ∈ tg_T := tg_mem 576 (by decide +kernel) rfl
theorem codMin : Cond.code Lib.Math.min.name Lib.Math.min.code 2 (some .int) ∈ tg_T := tg_mem 459 (by decide +kernel) rfl
theorem natCpy : Cond.native arraycopyName ∈ tg_T := tg_mem 331 (by decide +kernel) rfl
theorem staCpy : Cond.static arraycopyName ∈ tg_T := tg_mem 330 (by decide +kernel) rfl
theorem mlL_9 : Cond.methodLink RL 9 yX8_init ∈ tg_T := tg_mem 72 (by decide +kernel) rfl
theorem mlX8_3 : Cond.methodLink RX8 3 objectInit ∈ tg_T := tg_mem 75 (by decide +kernel) rfl
theorem mlX1_3 : Cond.methodLink RX1 3 objectInit ∈ tg_T := tg_mem 83 (by decide +kernel) rfl
theorem mlX7_3 : Cond.methodLink RX7 3 objectInit ∈ tg_T := tg_mem 89 (by decide +kernel) rfl
theorem mlX1_20 : Cond.methodLink RX1 20 yX6_init ∈ tg_T := tg_mem 108 (by decide +kernel) rfl
theorem mlX6_3 : Cond.methodLink RX6 3 objectInit ∈ tg_T := tg_mem 111 (by decide +kernel) rfl
theorem mlX0_3 : Cond.methodLink RX0 3 objectInit ∈ tg_T := tg_mem 168 (by decide +kernel) rfl
theorem mlX0_11 : Cond.methodLink RX0 11 yX6_init ∈ tg_T := tg_mem 170 (by decide +kernel) rfl
theorem mlX4_3 : Cond.methodLink RX4 3 objectInit ∈ tg_T := tg_mem 176 (by decide +kernel) rfl
theorem mlX5_3 : Cond.methodLink RX5 3 objectInit ∈ tg_T := tg_mem 233 (by decide +kernel) rfl
theorem mlX8_46 : Cond.methodLink RX8 46 yX6_init ∈ tg_T := tg_mem 256 (by decide +kernel) rfl
theorem mlX8_53 : Cond.methodLink RX8 53 yX3_init ∈ tg_T := tg_mem 259 (by decide +kernel) rfl
theorem mlX3_3 : Cond.methodLink RX3 3 objectInit ∈ tg_T := tg_mem 262 (by decide +kernel) rfl
theorem mlL_13 : Cond.methodLink RL 13 yX8_write ∈ tg_T := tg_mem 305 (by decide +kernel) rfl
theorem mlX8_66 : Cond.methodLink RX8 66 yX7_append ∈ tg_T := tg_mem 309 (by decide +kernel) rfl
theorem mlL_18 : Cond.methodLink RL 18 yX8_erase ∈ tg_T := tg_mem 313 (by decide +kernel) rfl
theorem mlL_23 : Cond.methodLink RL 23 yX8_fault ∈ tg_T := tg_mem 317 (by decide +kernel) rfl
theorem mlX8_76 : Cond.methodLink RX8 76 yX1_draftUpon ∈ tg_T := tg_mem 321 (by decide +kernel) rfl
theorem mlX1_33 : Cond.methodLink RX1 33 yX6_copyFrom ∈ tg_T := tg_mem 325 (by decide +kernel) rfl
theorem mlX6_31 : Cond.methodLink RX6 31 arraycopyName ∈ tg_T := tg_mem 329 (by decide +kernel) rfl
theorem mlX1_37 : Cond.methodLink RX1 37 yX7_rewind ∈ tg_T := tg_mem 332 (by decide +kernel) rfl
theorem mlX1_40 : Cond.methodLink RX1 40 yX7_toNextToken ∈ tg_T := tg_mem 336 (by decide +kernel) rfl
theorem mlX7_25 : Cond.methodLink RX7 25 yX7_isSmall ∈ tg_T := tg_mem 340 (by decide +kernel) rfl
theorem mlX7_29 : Cond.methodLink RX7 29 yX7_isDigit ∈ tg_T := tg_mem 343 (by decide +kernel) rfl
theorem mlX1_43 : Cond.methodLink RX1 43 yX1_doClause ∈ tg_T := tg_mem 346 (by decide +kernel) rfl
theorem mlX1_55 : Cond.methodLink RX1 55 yX7_isToken ∈ tg_T := tg_mem 351 (by decide +kernel) rfl
theorem mlX7_32 : Cond.methodLink RX7 32 yJ0_length_8abf5 ∈ tg_T := tg_mem 355 (by decide +kernel) rfl
theorem mlX7_37 : Cond.methodLink RX7 37 yJ0_charAt_5068e ∈ tg_T := tg_mem 365 (by decide +kernel) rfl
theorem mlX1_61 : Cond.methodLink RX1 61 yX1_doTable ∈ tg_T := tg_mem 403 (by decide +kernel) rfl
theorem mlX1_77 : Cond.methodLink RX1 77 yX7_numberWithin ∈ tg_T := tg_mem 407 (by decide +kernel) rfl
theorem mlX7_41 : Cond.methodLink RX7 41 yX7_isAtEnd ∈ tg_T := tg_mem 411 (by decide +kernel) rfl
theorem mlX1_81 : Cond.methodLink RX1 81 yX6_startWith ∈ tg_T := tg_mem 415 (by decide +kernel) rfl
theorem mlX1_66 : Cond.methodLink RX1 66 yX1_doSupport ∈ tg_T := tg_mem 420 (by decide +kernel) rfl
theorem mlX1_74 : Cond.methodLink RX1 74 yX1_doRow ∈ tg_T := tg_mem 425 (by decide +kernel) rfl
theorem mlX1_94 : Cond.methodLink RX1 94 yX6_insert ∈ tg_T := tg_mem 429 (by decide +kernel) rfl
theorem mlX1_50 : Cond.methodLink RX1 50 yX7_isAtEnd ∈ tg_T := tg_mem 433 (by decide +kernel) rfl
theorem mlL_27 : Cond.methodLink RL 27 yX8_read ∈ tg_T := tg_mem 436 (by decide +kernel) rfl
theorem mlX8_83 : Cond.methodLink RX8 83 yX6_copyFrom ∈ tg_T := tg_mem 440 (by decide +kernel) rfl
theorem mlL_31 : Cond.methodLink RL 31 yX8_add ∈ tg_T := tg_mem 441 (by decide +kernel) rfl
theorem mlX8_93 : Cond.methodLink RX8 93 yX6_isEntryCode ∈ tg_T := tg_mem 445 (by decide +kernel) rfl
theorem mlX6_41 : Cond.methodLink RX6 41 yX6_hasFigures ∈ tg_T := tg_mem 449 (by decide +kernel) rfl
theorem mlX8_98 : Cond.methodLink RX8 98 yX5_record ∈ tg_T := tg_mem 453 (by decide +kernel) rfl
theorem mlX5_31 : Cond.methodLink RX5 31 Lib.Math.min.name ∈ tg_T := tg_mem 457 (by decide +kernel) rfl
theorem mlX8_102 : Cond.methodLink RX8 102 yX6_insert ∈ tg_T := tg_mem 460 (by decide +kernel) rfl
theorem mlL_36 : Cond.methodLink RL 36 yX8_remove ∈ tg_T := tg_mem 461 (by decide +kernel) rfl
theorem mlX8_106 : Cond.methodLink RX8 106 yX6_hasEntry ∈ tg_T := tg_mem 465 (by decide +kernel) rfl
theorem mlX8_116 : Cond.methodLink RX8 116 yX6_takeOut ∈ tg_T := tg_mem 469 (by decide +kernel) rfl
theorem mlX6_37 : Cond.methodLink RX6 37 yX6_hasEntry ∈ tg_T := tg_mem 473 (by decide +kernel) rfl
theorem mlL_40 : Cond.methodLink RL 40 yX8_support ∈ tg_T := tg_mem 474 (by decide +kernel) rfl
theorem mlL_44 : Cond.methodLink RL 44 yX8_undo ∈ tg_T := tg_mem 478 (by decide +kernel) rfl
theorem mlX8_123 : Cond.methodLink RX8 123 yX5_undoLatest ∈ tg_T := tg_mem 482 (by decide +kernel) rfl
theorem mlX5_37 : Cond.methodLink RX5 37 yX6_takeOut ∈ tg_T := tg_mem 486 (by decide +kernel) rfl
theorem mlX5_43 : Cond.methodLink RX5 43 yX6_insert ∈ tg_T := tg_mem 487 (by decide +kernel) rfl
theorem mlL_48 : Cond.methodLink RL 48 yX8_keep ∈ tg_T := tg_mem 488 (by decide +kernel) rfl
theorem mlL_52 : Cond.methodLink RL 52 yX8_back ∈ tg_T := tg_mem 492 (by decide +kernel) rfl
theorem mlL_56 : Cond.methodLink RL 56 yX8_entry ∈ tg_T := tg_mem 496 (by decide +kernel) rfl
theorem mlL_60 : Cond.methodLink RL 60 yX8_cell ∈ tg_T := tg_mem 500 (by decide +kernel) rfl
theorem mlX8_126 : Cond.methodLink RX8 126 yX6_isCellCode ∈ tg_T := tg_mem 504 (by decide +kernel) rfl
theorem mlX8_129 : Cond.methodLink RX8 129 yX8_freshCells ∈ tg_T := tg_mem 508 (by decide +kernel) rfl
theorem mlX8_244 : Cond.methodLink RX8 244 yX0_list ∈ tg_T := tg_mem 512 (by decide +kernel) rfl
theorem mlX0_55 : Cond.methodLink RX0 55 yX0_findHaving ∈ tg_T := tg_mem 516 (by decide +kernel) rfl
theorem mlX0_66 : Cond.methodLink RX0 66 yX0_spreadBy ∈ tg_T := tg_mem 520 (by decide +kernel) rfl
theorem mlX0_77 : Cond.methodLink RX0 77 yX0_havingFigure ∈ tg_T := tg_mem 524 (by decide +kernel) rfl
theorem mlX0_70 : Cond.methodLink RX0 70 yX0_tally ∈ tg_T := tg_mem 528 (by decide +kernel) rfl
theorem mlX0_81 : Cond.methodLink RX0 81 yJ13_bitCount_95d88 ∈ tg_T := tg_mem 532 (by decide +kernel) rfl
theorem mlX0_87 : Cond.methodLink RX0 87 Lib.Math.min.name ∈ tg_T := tg_mem 538 (by decide +kernel) rfl
theorem mlX0_93 : Cond.methodLink RX0 93 yX0_closureOf ∈ tg_T := tg_mem 539 (by decide +kernel) rfl
theorem mlX0_100 : Cond.methodLink RX0 100 yX6_hasEntry ∈ tg_T := tg_mem 543 (by decide +kernel) rfl
theorem mlX0_104 : Cond.methodLink RX0 104 yX0_sharedWith ∈ tg_T := tg_mem 544 (by decide +kernel) rfl
theorem mlX0_96 : Cond.methodLink RX0 96 yX0_dimensionsOf ∈ tg_T := tg_mem 549 (by decide +kernel) rfl
theorem mlX8_133 : Cond.methodLink RX8 133 yX0_coverOf ∈ tg_T := tg_mem 553 (by decide +kernel) rfl
theorem mlX8_137 : Cond.methodLink RX8 137 yJ13_bitCount_95d88 ∈ tg_T := tg_mem 557 (by decide +kernel) rfl
theorem mlX8_143 : Cond.methodLink RX8 143 yX6_sumOf ∈ tg_T := tg_mem 558 (by decide +kernel) rfl
theorem mlX6_45 : Cond.methodLink RX6 45 yX6_isIn ∈ tg_T := tg_mem 562 (by decide +kernel) rfl
theorem mlX8_146 : Cond.methodLink RX8 146 yX6_leastOf ∈ tg_T := tg_mem 565 (by decide +kernel) rfl
theorem mlX6_49 : Cond.methodLink RX6 49 Lib.Math.min.name ∈ tg_T := tg_mem 569 (by decide +kernel) rfl
theorem mlX8_149 : Cond.methodLink RX8 149 yX6_greatestOf ∈ tg_T := tg_mem 570 (by decide +kernel) rfl
theorem mlX6_55 : Cond.methodLink RX6 55 Lib.Math.max.name ∈ tg_T := tg_mem 574 (by decide +kernel) rfl
theorem mlL_64 : Cond.methodLink RL 64 yX8_closure ∈ tg_T := tg_mem 577 (by decide +kernel) rfl
theorem mlX8_152 : Cond.methodLink RX8 152 yX0_closureOf ∈ tg_T := tg_mem 581 (by decide +kernel) rfl
theorem mlL_68 : Cond.methodLink RL 68 yX8_kept ∈ tg_T := tg_mem 582 (by decide +kernel) rfl
theorem mlX8_155 : Cond.methodLink RX8 155 yX0_codeInCube ∈ tg_T := tg_mem 586 (by decide +kernel) rfl
theorem mlL_72 : Cond.methodLink RL 72 yX8_ask ∈ tg_T := tg_mem 590 (by decide +kernel) rfl
theorem mlL_76 : Cond.methodLink RL 76 yX8_part ∈ tg_T := tg_mem 594 (by decide +kernel) rfl
theorem mlX8_162 : Cond.methodLink RX8 162 yX4_isOrder ∈ tg_T := tg_mem 598 (by decide +kernel) rfl
theorem mlX8_168 : Cond.methodLink RX8 168 yX0_parted ∈ tg_T := tg_mem 601 (by decide +kernel) rfl
theorem mlX0_138 : Cond.methodLink RX0 138 yX4_startWith ∈ tg_T := tg_mem 605 (by decide +kernel) rfl
theorem mlX0_142 : Cond.methodLink RX0 142 yX4_goInto ∈ tg_T := tg_mem 609 (by decide +kernel) rfl
theorem mlX8_172 : Cond.methodLink RX8 172 yX4_workBy ∈ tg_T := tg_mem 613 (by decide +kernel) rfl
theorem mlL_80 : Cond.methodLink RL 80 yX8_best ∈ tg_T := tg_mem 617 (by decide +kernel) rfl
theorem mlX8_178 : Cond.methodLink RX8 178 yX4_bestOrder ∈ tg_T := tg_mem 621 (by decide +kernel) rfl
theorem mlX4_22 : Cond.methodLink RX4 22 yX4_ordersOf ∈ tg_T := tg_mem 625 (by decide +kernel) rfl
theorem mlX4_29 : Cond.methodLink RX4 29 yX4_workBy ∈ tg_T := tg_mem 637 (by decide +kernel) rfl
theorem mlL_84 : Cond.methodLink RL 84 yX8_more ∈ tg_T := tg_mem 638 (by decide +kernel) rfl
theorem mlX8_182 : Cond.methodLink RX8 182 yX0_gainedWith ∈ tg_T := tg_mem 642 (by decide +kernel) rfl
theorem mlX0_123 : Cond.methodLink RX0 123 yX0_within ∈ tg_T := tg_mem 646 (by decide +kernel) rfl
theorem mlX0_126 : Cond.methodLink RX0 126 yX0_coverOf ∈ tg_T := tg_mem 650 (by decide +kernel) rfl
theorem mlX0_130 : Cond.methodLink RX0 130 yX0_isInCube ∈ tg_T := tg_mem 651 (by decide +kernel) rfl
theorem mlX8_185 : Cond.methodLink RX8 185 yX0_cubeSize ∈ tg_T := tg_mem 655 (by decide +kernel) rfl
theorem mlX0_113 : Cond.methodLink RX0 113 yX0_ofSizeOrMore ∈ tg_T := tg_mem 659 (by decide +kernel) rfl
theorem mlX0_117 : Cond.methodLink RX0 117 Lib.Math.max.name ∈ tg_T := tg_mem 662 (by decide +kernel) rfl
theorem mlL_88 : Cond.methodLink RL 88 yX8_less ∈ tg_T := tg_mem 663 (by decide +kernel) rfl
theorem mlX8_188 : Cond.methodLink RX8 188 yX0_lostWithout ∈ tg_T := tg_mem 667 (by decide +kernel) rfl
theorem mlL_92 : Cond.methodLink RL 92 yX8_cap ∈ tg_T := tg_mem 671 (by decide +kernel) rfl
theorem mlX8_191 : Cond.methodLink RX8 191 yX0_leastSupportFor ∈ tg_T := tg_mem 675 (by decide +kernel) rfl
theorem mlX0_120 : Cond.methodLink RX0 120 yX0_cubeSize ∈ tg_T := tg_mem 679 (by decide +kernel) rfl
theorem mlL_96 : Cond.methodLink RL 96 yX8_key ∈ tg_T := tg_mem 680 (by decide +kernel) rfl
theorem mlX8_194 : Cond.methodLink RX8 194 yX0_leastKey ∈ tg_T := tg_mem 684 (by decide +kernel) rfl
theorem mlX0_134 : Cond.methodLink RX0 134 yJ6_bitCount_0f7a4 ∈ tg_T := tg_mem 688 (by decide +kernel) rfl
theorem mlL_100 : Cond.methodLink RL 100 yX8_rule ∈ tg_T := tg_mem 694 (by decide +kernel) rfl
theorem mlX8_197 : Cond.methodLink RX8 197 yX0_settles ∈ tg_T := tg_mem 698 (by decide +kernel) rfl
theorem mlL_104 : Cond.methodLink RL 104 yX8_row ∈ tg_T := tg_mem 702 (by decide +kernel) rfl
theorem mlX8_200 : Cond.methodLink RX8 200 yX3_isRow ∈ tg_T := tg_mem 706 (by decide +kernel) rfl
theorem mlX8_203 : Cond.methodLink RX8 203 yX3_renew ∈ tg_T := tg_mem 709 (by decide +kernel) rfl
theorem mlX3_20 : Cond.methodLink RX3 20 yX3_isRow ∈ tg_T := tg_mem 713 (by decide +kernel) rfl
theorem mlL_108 : Cond.methodLink RL 108 yX8_set ∈ tg_T := tg_mem 714 (by decide +kernel) rfl
theorem mlX8_207 : Cond.methodLink RX8 207 yX3_put ∈ tg_T := tg_mem 718 (by decide +kernel) rfl
theorem mlX3_27 : Cond.methodLink RX3 27 yX3_finds ∈ tg_T := tg_mem 722 (by decide +kernel) rfl
theorem mlX3_24 : Cond.methodLink RX3 24 yX3_isMissing ∈ tg_T := tg_mem 726 (by decide +kernel) rfl
theorem mlL_113 : Cond.methodLink RL 113 yX8_work ∈ tg_T := tg_mem 730 (by decide +kernel) rfl
theorem mlX8_211 : Cond.methodLink RX8 211 yX3_finds ∈ tg_T := tg_mem 734 (by decide +kernel) rfl
theorem mlX8_219 : Cond.methodLink RX8 219 yX2_isOver ∈ tg_T := tg_mem 735 (by decide +kernel) rfl
theorem mlX2_7 : Cond.methodLink RX2 7 yX2_result ∈ tg_T := tg_mem 738 (by decide +kernel) rfl
theorem mlX8_225 : Cond.methodLink RX8 225 yX2_result ∈ tg_T := tg_mem 743 (by decide +kernel) rfl
theorem mlL_118 : Cond.methodLink RL 118 yX8_bits ∈ tg_T := tg_mem 744 (by decide +kernel) rfl
theorem mlL_122 : Cond.methodLink RL 122 yX8_sum ∈ tg_T := tg_mem 748 (by decide +kernel) rfl
theorem mlX8_229 : Cond.methodLink RX8 229 yX3_isMissing ∈ tg_T := tg_mem 752 (by decide +kernel) rfl
theorem mlL_126 : Cond.methodLink RL 126 yX8_load ∈ tg_T := tg_mem 753 (by decide +kernel) rfl
theorem mlL_130 : Cond.methodLink RL 130 yX8_drop ∈ tg_T := tg_mem 757 (by decide +kernel) rfl
theorem mlL_134 : Cond.methodLink RL 134 yX8_asked ∈ tg_T := tg_mem 761 (by decide +kernel) rfl
theorem mlL_139 : Cond.methodLink RL 139 yX8_count ∈ tg_T := tg_mem 765 (by decide +kernel) rfl
theorem mlX8_235 : Cond.methodLink RX8 235 yX0_cellsWith ∈ tg_T := tg_mem 769 (by decide +kernel) rfl
theorem mlX8_238 : Cond.methodLink RX8 238 yX6_valueFigures ∈ tg_T := tg_mem 773 (by decide +kernel) rfl
theorem mlX8_241 : Cond.methodLink RX8 241 yX3_placesInAll ∈ tg_T := tg_mem 777 (by decide +kernel) rfl
theorem mlX3_31 : Cond.methodLink RX3 31 Lib.Math.max.name ∈ tg_T := tg_mem 781 (by decide +kernel) rfl
theorem mlL_12 : Cond.methodLink RL 12 yX9_init ∈ tg_T := tg_mem 784 (by decide +kernel) rfl
theorem mlX9_1 : Cond.methodLink RX9 1 objectInit ∈ tg_T := tg_mem 787 (by decide +kernel) rfl
theorem mlL_17 : Cond.methodLink RL 17 yX9_write ∈ tg_T := tg_mem 879 (by decide +kernel) rfl
theorem mlX9_54 : Cond.methodLink RX9 54 yX9_in ∈ tg_T := tg_mem 884 (by decide +kernel) rfl
theorem mlL_22 : Cond.methodLink RL 22 yX9_erase ∈ tg_T := tg_mem 887 (by decide +kernel) rfl
theorem mlL_26 : Cond.methodLink RL 26 yX9_fault ∈ tg_T := tg_mem 891 (by decide +kernel) rfl
theorem mlX9_133 : Cond.methodLink RX9 133 yX9_reads ∈ tg_T := tg_mem 895 (by decide +kernel) rfl
theorem mlX9_85 : Cond.methodLink RX9 85 yX9_nextToken ∈ tg_T := tg_mem 899 (by decide +kernel) rfl
theorem mlX9_75 : Cond.methodLink RX9 75 yX9_isLetter ∈ tg_T := tg_mem 903 (by decide +kernel) rfl
theorem mlX9_79 : Cond.methodLink RX9 79 yX9_isDigit ∈ tg_T := tg_mem 908 (by decide +kernel) rfl
theorem mlX9_130 : Cond.methodLink RX9 130 yX9_readsClause ∈ tg_T := tg_mem 913 (by decide +kernel) rfl
theorem mlX9_114 : Cond.methodLink RX9 114 yX9_wordHere ∈ tg_T := tg_mem 917 (by decide +kernel) rfl
theorem mlX9_110 : Cond.methodLink RX9 110 yX9_isWord ∈ tg_T := tg_mem 921 (by decide +kernel) rfl
theorem mlX9_118 : Cond.methodLink RX9 118 yX9_readsTable ∈ tg_T := tg_mem 925 (by decide +kernel) rfl
theorem mlX9_88 : Cond.methodLink RX9 88 yX9_isEnd ∈ tg_T := tg_mem 929 (by decide +kernel) rfl
theorem mlX9_92 : Cond.methodLink RX9 92 yX9_readsNumber ∈ tg_T := tg_mem 933 (by decide +kernel) rfl
theorem mlX9_121 : Cond.methodLink RX9 121 yX9_readsSupport ∈ tg_T := tg_mem 937 (by decide +kernel) rfl
theorem mlX9_124 : Cond.methodLink RX9 124 yX9_readsRow ∈ tg_T := tg_mem 941 (by decide +kernel) rfl
theorem mlX9_106 : Cond.methodLink RX9 106 yX9_put ∈ tg_T := tg_mem 945 (by decide +kernel) rfl
theorem mlL_30 : Cond.methodLink RL 30 yX9_read ∈ tg_T := tg_mem 949 (by decide +kernel) rfl
theorem mlL_35 : Cond.methodLink RL 35 yX9_add ∈ tg_T := tg_mem 953 (by decide +kernel) rfl
theorem mlX9_154 : Cond.methodLink RX9 154 yX9_isWhole ∈ tg_T := tg_mem 957 (by decide +kernel) rfl
theorem mlX9_147 : Cond.methodLink RX9 147 yX9_isCell ∈ tg_T := tg_mem 961 (by decide +kernel) rfl
theorem mlX9_140 : Cond.methodLink RX9 140 yX9_codes ∈ tg_T := tg_mem 965 (by decide +kernel) rfl
theorem mlX9_143 : Cond.methodLink RX9 143 yX9_figure ∈ tg_T := tg_mem 969 (by decide +kernel) rfl
theorem mlX9_161 : Cond.methodLink RX9 161 yX9_keepPast ∈ tg_T := tg_mem 975 (by decide +kernel) rfl
theorem mlX9_150 : Cond.methodLink RX9 150 yX9_copyRow ∈ tg_T := tg_mem 979 (by decide +kernel) rfl
theorem mlL_39 : Cond.methodLink RL 39 yX9_remove ∈ tg_T := tg_mem 983 (by decide +kernel) rfl
theorem mlX9_164 : Cond.methodLink RX9 164 yX9_isEntry ∈ tg_T := tg_mem 987 (by decide +kernel) rfl
theorem mlX9_167 : Cond.methodLink RX9 167 yX9_takeOut ∈ tg_T := tg_mem 991 (by decide +kernel) rfl
theorem mlL_43 : Cond.methodLink RL 43 yX9_support ∈ tg_T := tg_mem 995 (by decide +kernel) rfl
theorem mlL_47 : Cond.methodLink RL 47 yX9_undo ∈ tg_T := tg_mem 1000 (by decide +kernel) rfl
theorem mlL_51 : Cond.methodLink RL 51 yX9_keep ∈ tg_T := tg_mem 1004 (by decide +kernel) rfl
theorem mlL_55 : Cond.methodLink RL 55 yX9_back ∈ tg_T := tg_mem 1008 (by decide +kernel) rfl
theorem mlL_59 : Cond.methodLink RL 59 yX9_entry ∈ tg_T := tg_mem 1012 (by decide +kernel) rfl
theorem mlL_63 : Cond.methodLink RL 63 yX9_cell ∈ tg_T := tg_mem 1016 (by decide +kernel) rfl
theorem mlX9_197 : Cond.methodLink RX9 197 yX9_gather ∈ tg_T := tg_mem 1021 (by decide +kernel) rfl
theorem mlX9_189 : Cond.methodLink RX9 189 yX9_covers ∈ tg_T := tg_mem 1027 (by decide +kernel) rfl
theorem mlX9_192 : Cond.methodLink RX9 192 yX9_common ∈ tg_T := tg_mem 1031 (by decide +kernel) rfl
theorem mlL_67 : Cond.methodLink RL 67 yX9_closure ∈ tg_T := tg_mem 1035 (by decide +kernel) rfl
theorem mlL_71 : Cond.methodLink RL 71 yX9_kept ∈ tg_T := tg_mem 1039 (by decide +kernel) rfl
theorem mlX9_200 : Cond.methodLink RX9 200 yX9_isIn ∈ tg_T := tg_mem 1043 (by decide +kernel) rfl
theorem mlL_75 : Cond.methodLink RL 75 yX9_ask ∈ tg_T := tg_mem 1047 (by decide +kernel) rfl
theorem mlL_79 : Cond.methodLink RL 79 yX9_part ∈ tg_T := tg_mem 1051 (by decide +kernel) rfl
theorem mlX9_209 : Cond.methodLink RX9 209 yX9_isOrder ∈ tg_T := tg_mem 1055 (by decide +kernel) rfl
theorem mlX9_203 : Cond.methodLink RX9 203 yX9_placeIn ∈ tg_T := tg_mem 1059 (by decide +kernel) rfl
theorem mlX9_212 : Cond.methodLink RX9 212 yX9_layCounts ∈ tg_T := tg_mem 1063 (by decide +kernel) rfl
theorem mlX9_215 : Cond.methodLink RX9 215 yX9_workBy ∈ tg_T := tg_mem 1067 (by decide +kernel) rfl
theorem mlL_83 : Cond.methodLink RL 83 yX9_best ∈ tg_T := tg_mem 1071 (by decide +kernel) rfl
theorem mlL_87 : Cond.methodLink RL 87 yX9_more ∈ tg_T := tg_mem 1075 (by decide +kernel) rfl
theorem mlX9_219 : Cond.methodLink RX9 219 yX9_cubeOf ∈ tg_T := tg_mem 1079 (by decide +kernel) rfl
theorem mlX9_222 : Cond.methodLink RX9 222 yX9_only ∈ tg_T := tg_mem 1083 (by decide +kernel) rfl
theorem mlL_91 : Cond.methodLink RL 91 yX9_less ∈ tg_T := tg_mem 1087 (by decide +kernel) rfl
theorem mlL_95 : Cond.methodLink RL 95 yX9_cap ∈ tg_T := tg_mem 1091 (by decide +kernel) rfl
theorem mlL_99 : Cond.methodLink RL 99 yX9_key ∈ tg_T := tg_mem 1096 (by decide +kernel) rfl
theorem mlX9_234 : Cond.methodLink RX9 234 yX9_isKey ∈ tg_T := tg_mem 1100 (by decide +kernel) rfl
theorem mlX9_230 : Cond.methodLink RX9 230 yX9_areAlike ∈ tg_T := tg_mem 1104 (by decide +kernel) rfl
theorem mlX9_227 : Cond.methodLink RX9 227 yX9_has ∈ tg_T := tg_mem 1108 (by decide +kernel) rfl
theorem mlX9_237 : Cond.methodLink RX9 237 yX9_bits4 ∈ tg_T := tg_mem 1111 (by decide +kernel) rfl
theorem mlL_103 : Cond.methodLink RL 103 yX9_rule ∈ tg_T := tg_mem 1114 (by decide +kernel) rfl
theorem mlL_107 : Cond.methodLink RL 107 yX9_row ∈ tg_T := tg_mem 1118 (by decide +kernel) rfl
theorem mlX9_242 : Cond.methodLink RX9 242 yX9_isRow ∈ tg_T := tg_mem 1122 (by decide +kernel) rfl
theorem mlL_112 : Cond.methodLink RL 112 yX9_set ∈ tg_T := tg_mem 1126 (by decide +kernel) rfl
theorem mlX9_245 : Cond.methodLink RX9 245 yX9_noPlace ∈ tg_T := tg_mem 1130 (by decide +kernel) rfl
theorem mlL_117 : Cond.methodLink RL 117 yX9_work ∈ tg_T := tg_mem 1134 (by decide +kernel) rfl
theorem mlX9_251 : Cond.methodLink RX9 251 yX9_times ∈ tg_T := tg_mem 1138 (by decide +kernel) rfl
theorem mlX9_255 : Cond.methodLink RX9 255 yX9_plus ∈ tg_T := tg_mem 1142 (by decide +kernel) rfl
theorem mlL_121 : Cond.methodLink RL 121 yX9_bits ∈ tg_T := tg_mem 1146 (by decide +kernel) rfl
theorem mlL_125 : Cond.methodLink RL 125 yX9_sum ∈ tg_T := tg_mem 1150 (by decide +kernel) rfl
theorem mlL_129 : Cond.methodLink RL 129 yX9_load ∈ tg_T := tg_mem 1154 (by decide +kernel) rfl
theorem mlL_133 : Cond.methodLink RL 133 yX9_drop ∈ tg_T := tg_mem 1158 (by decide +kernel) rfl
theorem mlL_138 : Cond.methodLink RL 138 yX9_asked ∈ tg_T := tg_mem 1162 (by decide +kernel) rfl
theorem mlL_142 : Cond.methodLink RL 142 yX9_count ∈ tg_T := tg_mem 1166 (by decide +kernel) rfl
theorem mlX9_262 : Cond.methodLink RX9 262 yX9_supported ∈ tg_T := tg_mem 1170 (by decide +kernel) rfl
theorem mlX9_265 : Cond.methodLink RX9 265 yX9_valuesTold ∈ tg_T := tg_mem 1174 (by decide +kernel) rfl
theorem mlX9_268 : Cond.methodLink RX9 268 yX9_allPlaces ∈ tg_T := tg_mem 1178 (by decide +kernel) rfl
theorem flX7_9 : Cond.fieldLink RX7 9 RX7 "letters" "[C" ∈ tg_T := tg_mem 90 (by decide +kernel) rfl
theorem flX7_15 : Cond.fieldLink RX7 15 RX7 "length" "I" ∈ tg_T := tg_mem 91 (by decide +kernel) rfl
theorem flX8_72 : Cond.fieldLink RX8 72 RX7 "length" "I" ∈ tg_T := tg_mem 92 (by decide +kernel) rfl
theorem flX7_19 : Cond.fieldLink RX7 19 RX7 "start" "I" ∈ tg_T := tg_mem 93 (by decide +kernel) rfl
theorem flX1_47 : Cond.fieldLink RX1 47 RX7 "start" "I" ∈ tg_T := tg_mem 94 (by decide +kernel) rfl
theorem flX7_22 : Cond.fieldLink RX7 22 RX7 "end" "I" ∈ tg_T := tg_mem 95 (by decide +kernel) rfl
theorem flX6_21 : Cond.fieldLink RX6 21 RX6 "dimensions" "I" ∈ tg_T := tg_mem 112 (by decide +kernel) rfl
theorem flX0_63 : Cond.fieldLink RX0 63 RX6 "dimensions" "I" ∈ tg_T := tg_mem 113 (by decide +kernel) rfl
theorem flX1_88 : Cond.fieldLink RX1 88 RX6 "dimensions" "I" ∈ tg_T := tg_mem 114 (by decide +kernel) rfl
theorem flX8_159 : Cond.fieldLink RX8 159 RX6 "dimensions" "I" ∈ tg_T := tg_mem 115 (by decide +kernel) rfl
theorem flX6_9 : Cond.fieldLink RX6 9 RX6 "values" "[I" ∈ tg_T := tg_mem 116 (by decide +kernel) rfl
theorem flX0_74 : Cond.fieldLink RX0 74 RX6 "values" "[I" ∈ tg_T := tg_mem 117 (by decide +kernel) rfl
theorem flX1_91 : Cond.fieldLink RX1 91 RX6 "values" "[I" ∈ tg_T := tg_mem 118 (by decide +kernel) rfl
theorem flX6_25 : Cond.fieldLink RX6 25 RX6 "size" "I" ∈ tg_T := tg_mem 119 (by decide +kernel) rfl
theorem flX0_62 : Cond.fieldLink RX0 62 RX6 "size" "I" ∈ tg_T := tg_mem 120 (by decide +kernel) rfl
theorem flX1_71 : Cond.fieldLink RX1 71 RX6 "size" "I" ∈ tg_T := tg_mem 121 (by decide +kernel) rfl
theorem flX8_97 : Cond.fieldLink RX8 97 RX6 "size" "I" ∈ tg_T := tg_mem 122 (by decide +kernel) rfl
theorem flX6_15 : Cond.fieldLink RX6 15 RX6 "codes" "[I" ∈ tg_T := tg_mem 123 (by decide +kernel) rfl
theorem flX0_73 : Cond.fieldLink RX0 73 RX6 "codes" "[I" ∈ tg_T := tg_mem 124 (by decide +kernel) rfl
theorem flX8_109 : Cond.fieldLink RX8 109 RX6 "codes" "[I" ∈ tg_T := tg_mem 125 (by decide +kernel) rfl
theorem flX6_18 : Cond.fieldLink RX6 18 RX6 "measures" "[I" ∈ tg_T := tg_mem 126 (by decide +kernel) rfl
theorem flX8_113 : Cond.fieldLink RX8 113 RX6 "measures" "[I" ∈ tg_T := tg_mem 127 (by decide +kernel) rfl
theorem flX6_28 : Cond.fieldLink RX6 28 RX6 "enough" "I" ∈ tg_T := tg_mem 128 (by decide +kernel) rfl
theorem flX5_47 : Cond.fieldLink RX5 47 RX6 "enough" "I" ∈ tg_T := tg_mem 129 (by decide +kernel) rfl
theorem flX1_85 : Cond.fieldLink RX1 85 RX6 "enough" "I" ∈ tg_T := tg_mem 130 (by decide +kernel) rfl
theorem flX8_120 : Cond.fieldLink RX8 120 RX6 "enough" "I" ∈ tg_T := tg_mem 131 (by decide +kernel) rfl
theorem flX0_110 : Cond.fieldLink RX0 110 RX6 "enough" "I" ∈ tg_T := tg_mem 132 (by decide +kernel) rfl
theorem flX1_12 : Cond.fieldLink RX1 12 RX1 "text" "LCubeClosures$Text;" ∈ tg_T := tg_mem 147 (by decide +kernel) rfl
theorem flX8_16 : Cond.fieldLink RX8 16 RX1 "text" "LCubeClosures$Text;" ∈ tg_T := tg_mem 148 (by decide +kernel) rfl
theorem flX1_21 : Cond.fieldLink RX1 21 RX1 "draft" "LCubeClosures$Table;" ∈ tg_T := tg_mem 149 (by decide +kernel) rfl
theorem flX8_80 : Cond.fieldLink RX8 80 RX1 "draft" "LCubeClosures$Table;" ∈ tg_T := tg_mem 150 (by decide +kernel) rfl
theorem flX1_25 : Cond.fieldLink RX1 25 RX1 "done" "I" ∈ tg_T := tg_mem 151 (by decide +kernel) rfl
theorem flX8_90 : Cond.fieldLink RX8 90 RX1 "done" "I" ∈ tg_T := tg_mem 152 (by decide +kernel) rfl
theorem flX1_29 : Cond.fieldLink RX1 29 RX1 "newValues" "[I" ∈ tg_T := tg_mem 153 (by decide +kernel) rfl
theorem flX4_15 : Cond.fieldLink RX4 15 RX4 "dimensions" "I" ∈ tg_T := tg_mem 177 (by decide +kernel) rfl
theorem flX4_19 : Cond.fieldLink RX4 19 RX4 "visits" "I" ∈ tg_T := tg_mem 178 (by decide +kernel) rfl
theorem flX8_175 : Cond.fieldLink RX8 175 RX4 "visits" "I" ∈ tg_T := tg_mem 179 (by decide +kernel) rfl
theorem flX4_9 : Cond.fieldLink RX4 9 RX4 "entriesOn" "[I" ∈ tg_T := tg_mem 180 (by decide +kernel) rfl
theorem flX0_12 : Cond.fieldLink RX0 12 RX0 "table" "LCubeClosures$Table;" ∈ tg_T := tg_mem 188 (by decide +kernel) rfl
theorem flX8_28 : Cond.fieldLink RX8 28 RX0 "table" "LCubeClosures$Table;" ∈ tg_T := tg_mem 189 (by decide +kernel) rfl
theorem flX0_21 : Cond.fieldLink RX0 21 RX0 "parting" "LCubeClosures$Parting;" ∈ tg_T := tg_mem 190 (by decide +kernel) rfl
theorem flX0_25 : Cond.fieldLink RX0 25 RX0 "having" "[J" ∈ tg_T := tg_mem 191 (by decide +kernel) rfl
theorem flX0_58 : Cond.fieldLink RX0 58 RX0 "size" "I" ∈ tg_T := tg_mem 192 (by decide +kernel) rfl
theorem flX0_29 : Cond.fieldLink RX0 29 RX0 "codes" "[I" ∈ tg_T := tg_mem 193 (by decide +kernel) rfl
theorem flX0_33 : Cond.fieldLink RX0 33 RX0 "covers" "[J" ∈ tg_T := tg_mem 194 (by decide +kernel) rfl
theorem flX0_36 : Cond.fieldLink RX0 36 RX0 "otherCodes" "[I" ∈ tg_T := tg_mem 195 (by decide +kernel) rfl
theorem flX0_39 : Cond.fieldLink RX0 39 RX0 "otherCovers" "[J" ∈ tg_T := tg_mem 196 (by decide +kernel) rfl
theorem flX0_42 : Cond.fieldLink RX0 42 RX0 "isClosed" "[Z" ∈ tg_T := tg_mem 197 (by decide +kernel) rfl
theorem flX0_46 : Cond.fieldLink RX0 46 RX0 "allOfSize" "[I" ∈ tg_T := tg_mem 198 (by decide +kernel) rfl
theorem flX0_49 : Cond.fieldLink RX0 49 RX0 "closedOfSize" "[I" ∈ tg_T := tg_mem 199 (by decide +kernel) rfl
theorem flX0_52 : Cond.fieldLink RX0 52 RX0 "cellsOn" "[I" ∈ tg_T := tg_mem 200 (by decide +kernel) rfl
theorem flX5_9 : Cond.fieldLink RX5 9 RX5 "size" "I" ∈ tg_T := tg_mem 234 (by decide +kernel) rfl
theorem flX8_87 : Cond.fieldLink RX8 87 RX5 "size" "I" ∈ tg_T := tg_mem 235 (by decide +kernel) rfl
theorem flX5_15 : Cond.fieldLink RX5 15 RX5 "next" "I" ∈ tg_T := tg_mem 236 (by decide +kernel) rfl
theorem flX5_18 : Cond.fieldLink RX5 18 RX5 "kinds" "[I" ∈ tg_T := tg_mem 237 (by decide +kernel) rfl
theorem flX5_22 : Cond.fieldLink RX5 22 RX5 "numbers" "[I" ∈ tg_T := tg_mem 238 (by decide +kernel) rfl
theorem flX5_25 : Cond.fieldLink RX5 25 RX5 "codes" "[I" ∈ tg_T := tg_mem 239 (by decide +kernel) rfl
theorem flX5_28 : Cond.fieldLink RX5 28 RX5 "measures" "[I" ∈ tg_T := tg_mem 240 (by decide +kernel) rfl
theorem flX3_9 : Cond.fieldLink RX3 9 RX3 "lengths" "[I" ∈ tg_T := tg_mem 265 (by decide +kernel) rfl
theorem flX8_232 : Cond.fieldLink RX8 232 RX3 "lengths" "[I" ∈ tg_T := tg_mem 266 (by decide +kernel) rfl
theorem flX3_17 : Cond.fieldLink RX3 17 RX3 "places" "[[J" ∈ tg_T := tg_mem 267 (by decide +kernel) rfl
theorem flX8_215 : Cond.fieldLink RX8 215 RX3 "places" "[[J" ∈ tg_T := tg_mem 268 (by decide +kernel) rfl
theorem flX8_12 : Cond.fieldLink RX8 12 RX8 "clauses" "LCubeClosures$Clauses;" ∈ tg_T := tg_mem 274 (by decide +kernel) rfl
theorem flX8_20 : Cond.fieldLink RX8 20 RX8 "text" "LCubeClosures$Text;" ∈ tg_T := tg_mem 275 (by decide +kernel) rfl
theorem flX8_24 : Cond.fieldLink RX8 24 RX8 "cells" "LCubeClosures$Cells;" ∈ tg_T := tg_mem 276 (by decide +kernel) rfl
theorem flX8_32 : Cond.fieldLink RX8 32 RX8 "table" "LCubeClosures$Table;" ∈ tg_T := tg_mem 277 (by decide +kernel) rfl
theorem flX8_36 : Cond.fieldLink RX8 36 RX8 "past" "LCubeClosures$Past;" ∈ tg_T := tg_mem 278 (by decide +kernel) rfl
theorem flX8_42 : Cond.fieldLink RX8 42 RX8 "keeps" "[LCubeClosures$Table;" ∈ tg_T := tg_mem 279 (by decide +kernel) rfl
theorem flX8_47 : Cond.fieldLink RX8 47 RX8 "isKept" "[Z" ∈ tg_T := tg_mem 280 (by decide +kernel) rfl
theorem flX8_54 : Cond.fieldLink RX8 54 RX8 "rows" "LCubeClosures$LongRows;" ∈ tg_T := tg_mem 281 (by decide +kernel) rfl
theorem flX8_58 : Cond.fieldLink RX8 58 RX8 "cellsAreOld" "Z" ∈ tg_T := tg_mem 282 (by decide +kernel) rfl
theorem flX8_62 : Cond.fieldLink RX8 62 RX8 "told" "J" ∈ tg_T := tg_mem 283 (by decide +kernel) rfl
theorem flX4_33 : Cond.fieldLink RX4 33 RX4 "ORDERS_OF_1" "[I" ∈ tg_T := tg_mem 628 (by decide +kernel) rfl
theorem flX4_36 : Cond.fieldLink RX4 36 RX4 "ORDERS_OF_2" "[I" ∈ tg_T := tg_mem 630 (by decide +kernel) rfl
theorem flX4_39 : Cond.fieldLink RX4 39 RX4 "ORDERS_OF_3" "[I" ∈ tg_T := tg_mem 632 (by decide +kernel) rfl
theorem flX4_42 : Cond.fieldLink RX4 42 RX4 "ORDERS_OF_4" "[I" ∈ tg_T := tg_mem 634 (by decide +kernel) rfl
theorem flX9_7 : Cond.fieldLink RX9 7 RX9 "row" "[I" ∈ tg_T := tg_mem 788 (by decide +kernel) rfl
theorem flX9_13 : Cond.fieldLink RX9 13 RX9 "dimensions" "I" ∈ tg_T := tg_mem 789 (by decide +kernel) rfl
theorem flX9_17 : Cond.fieldLink RX9 17 RX9 "values" "[I" ∈ tg_T := tg_mem 790 (by decide +kernel) rfl
theorem flX9_137 : Cond.fieldLink RX9 137 RX9 "undos" "I" ∈ tg_T := tg_mem 791 (by decide +kernel) rfl
theorem flX9_20 : Cond.fieldLink RX9 20 RX9 "isKept" "[Z" ∈ tg_T := tg_mem 792 (by decide +kernel) rfl
theorem flX9_24 : Cond.fieldLink RX9 24 RX9 "text" "[I" ∈ tg_T := tg_mem 793 (by decide +kernel) rfl
theorem flX9_58 : Cond.fieldLink RX9 58 RX9 "length" "I" ∈ tg_T := tg_mem 794 (by decide +kernel) rfl
theorem flX9_27 : Cond.fieldLink RX9 27 RX9 "sizes" "[I" ∈ tg_T := tg_mem 795 (by decide +kernel) rfl
theorem flX9_30 : Cond.fieldLink RX9 30 RX9 "items" "[J" ∈ tg_T := tg_mem 796 (by decide +kernel) rfl
theorem flX9_258 : Cond.fieldLink RX9 258 RX9 "asked" "J" ∈ tg_T := tg_mem 797 (by decide +kernel) rfl
theorem flX9_72 : Cond.fieldLink RX9 72 RX9 "first" "I" ∈ tg_T := tg_mem 798 (by decide +kernel) rfl
theorem flX9_69 : Cond.fieldLink RX9 69 RX9 "behind" "I" ∈ tg_T := tg_mem 799 (by decide +kernel) rfl
theorem flX9_96 : Cond.fieldLink RX9 96 RX9 "readDimensions" "I" ∈ tg_T := tg_mem 800 (by decide +kernel) rfl
theorem flX9_34 : Cond.fieldLink RX9 34 RX9 "readValues" "[I" ∈ tg_T := tg_mem 801 (by decide +kernel) rfl
theorem flX9_99 : Cond.fieldLink RX9 99 RX9 "readMany" "I" ∈ tg_T := tg_mem 802 (by decide +kernel) rfl
theorem flX9_127 : Cond.fieldLink RX9 127 RX9 "clauses" "I" ∈ tg_T := tg_mem 803 (by decide +kernel) rfl
theorem flX9_102 : Cond.fieldLink RX9 102 RX9 "doing" "Z" ∈ tg_T := tg_mem 804 (by decide +kernel) rfl
theorem flX9_82 : Cond.fieldLink RX9 82 RX9 "number" "I" ∈ tg_T := tg_mem 805 (by decide +kernel) rfl
theorem flX9_37 : Cond.fieldLink RX9 37 RX9 "tableWord" "[I" ∈ tg_T := tg_mem 806 (by decide +kernel) rfl
theorem flX9_40 : Cond.fieldLink RX9 40 RX9 "supportWord" "[I" ∈ tg_T := tg_mem 807 (by decide +kernel) rfl
theorem flX9_43 : Cond.fieldLink RX9 43 RX9 "rowWord" "[I" ∈ tg_T := tg_mem 808 (by decide +kernel) rfl
theorem flX9_172 : Cond.fieldLink RX9 172 RX9 "many" "I" ∈ tg_T := tg_mem 809 (by decide +kernel) rfl
theorem flX9_175 : Cond.fieldLink RX9 175 RX9 "sum" "I" ∈ tg_T := tg_mem 810 (by decide +kernel) rfl
theorem flX9_179 : Cond.fieldLink RX9 179 RX9 "least" "I" ∈ tg_T := tg_mem 811 (by decide +kernel) rfl
theorem flX9_183 : Cond.fieldLink RX9 183 RX9 "greatest" "I" ∈ tg_T := tg_mem 812 (by decide +kernel) rfl
theorem flX9_186 : Cond.fieldLink RX9 186 RX9 "closed" "I" ∈ tg_T := tg_mem 813 (by decide +kernel) rfl
theorem flX9_206 : Cond.fieldLink RX9 206 RX9 "visits" "I" ∈ tg_T := tg_mem 814 (by decide +kernel) rfl
theorem flX9_46 : Cond.fieldLink RX9 46 RX9 "counts" "[I" ∈ tg_T := tg_mem 815 (by decide +kernel) rfl
theorem flX9_49 : Cond.fieldLink RX9 49 RX9 "byMany" "[I" ∈ tg_T := tg_mem 816 (by decide +kernel) rfl
theorem flX9_248 : Cond.fieldLink RX9 248 RX9 "isOver" "Z" ∈ tg_T := tg_mem 817 (by decide +kernel) rfl
theorem kcX4_28 : Cond.constant RX4 28 (2147483647) ∈ tg_T := tg_mem 636 (by decide +kernel) rfl
theorem kcJ6_265 : Cond.constant RJ6 265 (1431655765) ∈ tg_T := tg_mem 691 (by decide +kernel) rfl
theorem kcJ6_266 : Cond.constant RJ6 266 (858993459) ∈ tg_T := tg_mem 692 (by decide +kernel) rfl
theorem kcJ6_267 : Cond.constant RJ6 267 (252645135) ∈ tg_T := tg_mem 693 (by decide +kernel) rfl
theorem kcX9_178 : Cond.constant RX9 178 (999999) ∈ tg_T := tg_mem 1025 (by decide +kernel) rfl
theorem kcX9_182 : Cond.constant RX9 182 (-999999) ∈ tg_T := tg_mem 1026 (by decide +kernel) rfl
theorem klJ13_314 : Cond.constantLong RJ13 314 (6148914691236517205) ∈ tg_T := tg_mem 535 (by decide +kernel) rfl
theorem klJ13_316 : Cond.constantLong RJ13 316 (3689348814741910323) ∈ tg_T := tg_mem 536 (by decide +kernel) rfl
theorem klJ13_318 : Cond.constantLong RJ13 318 (1085102592571150095) ∈ tg_T := tg_mem 537 (by decide +kernel) rfl
theorem klX0_108 : Cond.constantLong RX0 108 (-1) ∈ tg_T := tg_mem 548 (by decide +kernel) rfl
theorem klX2_13 : Cond.constantLong RX2 13 (-1) ∈ tg_T := tg_mem 741 (by decide +kernel) rfl
theorem klX2_17 : Cond.constantLong RX2 17 (-9223372036854775808) ∈ tg_T := tg_mem 742 (by decide +kernel) rfl
theorem klX9_52 : Cond.constantLong RX9 52 (255) ∈ tg_T := tg_mem 883 (by decide +kernel) rfl
theorem klX9_61 : Cond.constantLong RX9 61 (97) ∈ tg_T := tg_mem 906 (by decide +kernel) rfl
theorem klX9_63 : Cond.constantLong RX9 63 (122) ∈ tg_T := tg_mem 907 (by decide +kernel) rfl
theorem klX9_65 : Cond.constantLong RX9 65 (48) ∈ tg_T := tg_mem 911 (by decide +kernel) rfl
theorem klX9_67 : Cond.constantLong RX9 67 (57) ∈ tg_T := tg_mem 912 (by decide +kernel) rfl
theorem klX9_157 : Cond.constantLong RX9 157 (-99) ∈ tg_T := tg_mem 973 (by decide +kernel) rfl
theorem klX9_159 : Cond.constantLong RX9 159 (99) ∈ tg_T := tg_mem 974 (by decide +kernel) rfl
theorem klX9_170 : Cond.constantLong RX9 170 (9) ∈ tg_T := tg_mem 999 (by decide +kernel) rfl
theorem klX9_195 : Cond.constantLong RX9 195 (3) ∈ tg_T := tg_mem 1020 (by decide +kernel) rfl
theorem klX9_225 : Cond.constantLong RX9 225 (2400) ∈ tg_T := tg_mem 1095 (by decide +kernel) rfl
theorem klX9_240 : Cond.constantLong RX9 240 (2) ∈ tg_T := tg_mem 1125 (by decide +kernel) rfl
theorem lyX0_0 : u_lay RX0 TX0 0 ∈ tg_T := tg_mem 201 (by decide +kernel) rfl
theorem lyX0_1 : u_lay RX0 TX0 1 ∈ tg_T := tg_mem 203 (by decide +kernel) rfl
theorem lyX0_2 : u_lay RX0 TX0 2 ∈ tg_T := tg_mem 205 (by decide +kernel) rfl
theorem lyX0_3 : u_lay RX0 TX0 3 ∈ tg_T := tg_mem 207 (by decide +kernel) rfl
theorem lyX0_4 : u_lay RX0 TX0 4 ∈ tg_T := tg_mem 209 (by decide +kernel) rfl
theorem lyX0_5 : u_lay RX0 TX0 5 ∈ tg_T := tg_mem 211 (by decide +kernel) rfl
theorem lyX0_6 : u_lay RX0 TX0 6 ∈ tg_T := tg_mem 213 (by decide +kernel) rfl
theorem lyX0_7 : u_lay RX0 TX0 7 ∈ tg_T := tg_mem 215 (by decide +kernel) rfl
theorem lyX0_8 : u_lay RX0 TX0 8 ∈ tg_T := tg_mem 217 (by decide +kernel) rfl
theorem lyX0_9 : u_lay RX0 TX0 9 ∈ tg_T := tg_mem 219 (by decide +kernel) rfl
theorem lyX0_10 : u_lay RX0 TX0 10 ∈ tg_T := tg_mem 221 (by decide +kernel) rfl
theorem lyX0_11 : u_lay RX0 TX0 11 ∈ tg_T := tg_mem 223 (by decide +kernel) rfl
theorem clX0 : tg_cls 0 RX0 TX0 12 := ⟨rfl, fun w hw => by
  obtain ⟨k, hk, rfl⟩ := List.mem_map.mp hw
  have hk := List.mem_range.mp hk
  rcases (show k = 0 ∨ k = 1 ∨ k = 2 ∨ k = 3 ∨ k = 4 ∨ k = 5 ∨ k = 6 ∨ k = 7 ∨ k = 8 ∨ k = 9 ∨ k = 10 ∨ k = 11 by omega) with rfl | rfl | rfl | rfl | rfl | rfl | rfl | rfl | rfl | rfl | rfl | rfl
  · exact lyX0_0
  · exact lyX0_1
  · exact lyX0_2
  · exact lyX0_3
  · exact lyX0_4
  · exact lyX0_5
  · exact lyX0_6
  · exact lyX0_7
  · exact lyX0_8
  · exact lyX0_9
  · exact lyX0_10
  · exact lyX0_11⟩
theorem lyX1_0 : u_lay RX1 TX1 0 ∈ tg_T := tg_mem 154 (by decide +kernel) rfl
theorem lyX1_1 : u_lay RX1 TX1 1 ∈ tg_T := tg_mem 156 (by decide +kernel) rfl
theorem lyX1_2 : u_lay RX1 TX1 2 ∈ tg_T := tg_mem 158 (by decide +kernel) rfl
theorem lyX1_3 : u_lay RX1 TX1 3 ∈ tg_T := tg_mem 160 (by decide +kernel) rfl
theorem clX1 : tg_cls 1 RX1 TX1 4 := ⟨rfl, fun w hw => by
  obtain ⟨k, hk, rfl⟩ := List.mem_map.mp hw
  have hk := List.mem_range.mp hk
  rcases (show k = 0 ∨ k = 1 ∨ k = 2 ∨ k = 3 by omega) with rfl | rfl | rfl | rfl
  · exact lyX1_0
  · exact lyX1_1
  · exact lyX1_2
  · exact lyX1_3⟩
theorem lyX3_0 : u_lay RX3 TX3 0 ∈ tg_T := tg_mem 269 (by decide +kernel) rfl
theorem lyX3_1 : u_lay RX3 TX3 1 ∈ tg_T := tg_mem 271 (by decide +kernel) rfl
theorem clX3 : tg_cls 2 RX3 TX3 2 := ⟨rfl, fun w hw => by
  obtain ⟨k, hk, rfl⟩ := List.mem_map.mp hw
  have hk := List.mem_range.mp hk
  rcases (show k = 0 ∨ k = 1 by omega) with rfl | rfl
  · exact lyX3_0
  · exact lyX3_1⟩
theorem lyX4_0 : u_lay RX4 TX4 0 ∈ tg_T := tg_mem 181 (by decide +kernel) rfl
theorem lyX4_1 : u_lay RX4 TX4 1 ∈ tg_T := tg_mem 183 (by decide +kernel) rfl
theorem lyX4_2 : u_lay RX4 TX4 2 ∈ tg_T := tg_mem 185 (by decide +kernel) rfl
theorem clX4 : tg_cls 3 RX4 TX4 3 := ⟨rfl, fun w hw => by
  obtain ⟨k, hk, rfl⟩ := List.mem_map.mp hw
  have hk := List.mem_range.mp hk
  rcases (show k = 0 ∨ k = 1 ∨ k = 2 by omega) with rfl | rfl | rfl
  · exact lyX4_0
  · exact lyX4_1
  · exact lyX4_2⟩
theorem lyX5_0 : u_lay RX5 TX5 0 ∈ tg_T := tg_mem 241 (by decide +kernel) rfl
theorem lyX5_1 : u_lay RX5 TX5 1 ∈ tg_T := tg_mem 243 (by decide +kernel) rfl
theorem lyX5_2 : u_lay RX5 TX5 2 ∈ tg_T := tg_mem 245 (by decide +kernel) rfl
theorem lyX5_3 : u_lay RX5 TX5 3 ∈ tg_T := tg_mem 247 (by decide +kernel) rfl
theorem lyX5_4 : u_lay RX5 TX5 4 ∈ tg_T := tg_mem 249 (by decide +kernel) rfl
theorem lyX5_5 : u_lay RX5 TX5 5 ∈ tg_T := tg_mem 251 (by decide +kernel) rfl
theorem clX5 : tg_cls 4 RX5 TX5 6 := ⟨rfl, fun w hw => by
  obtain ⟨k, hk, rfl⟩ := List.mem_map.mp hw
  have hk := List.mem_range.mp hk
  rcases (show k = 0 ∨ k = 1 ∨ k = 2 ∨ k = 3 ∨ k = 4 ∨ k = 5 by omega) with rfl | rfl | rfl | rfl | rfl | rfl
  · exact lyX5_0
  · exact lyX5_1
  · exact lyX5_2
  · exact lyX5_3
  · exact lyX5_4
  · exact lyX5_5⟩
theorem lyX6_0 : u_lay RX6 TX6 0 ∈ tg_T := tg_mem 133 (by decide +kernel) rfl
theorem lyX6_1 : u_lay RX6 TX6 1 ∈ tg_T := tg_mem 135 (by decide +kernel) rfl
theorem lyX6_2 : u_lay RX6 TX6 2 ∈ tg_T := tg_mem 137 (by decide +kernel) rfl
theorem lyX6_3 : u_lay RX6 TX6 3 ∈ tg_T := tg_mem 139 (by decide +kernel) rfl
theorem lyX6_4 : u_lay RX6 TX6 4 ∈ tg_T := tg_mem 141 (by decide +kernel) rfl
theorem lyX6_5 : u_lay RX6 TX6 5 ∈ tg_T := tg_mem 143 (by decide +kernel) rfl
theorem clX6 : tg_cls 5 RX6 TX6 6 := ⟨rfl, fun w hw => by
  obtain ⟨k, hk, rfl⟩ := List.mem_map.mp hw
  have hk := List.mem_range.mp hk
  rcases (show k = 0 ∨ k = 1 ∨ k = 2 ∨ k = 3 ∨ k = 4 ∨ k = 5 by omega) with rfl | rfl | rfl | rfl | rfl | rfl
  · exact lyX6_0
  · exact lyX6_1
  · exact lyX6_2
  · exact lyX6_3
  · exact lyX6_4
  · exact lyX6_5⟩
theorem lyX7_0 : u_lay RX7 TX7 0 ∈ tg_T := tg_mem 96 (by decide +kernel) rfl
theorem lyX7_1 : u_lay RX7 TX7 1 ∈ tg_T := tg_mem 98 (by decide +kernel) rfl
theorem lyX7_2 : u_lay RX7 TX7 2 ∈ tg_T := tg_mem 100 (by decide +kernel) rfl
theorem lyX7_3 : u_lay RX7 TX7 3 ∈ tg_T := tg_mem 102 (by decide +kernel) rfl
theorem clX7 : tg_cls 6 RX7 TX7 4 := ⟨rfl, fun w hw => by
  obtain ⟨k, hk, rfl⟩ := List.mem_map.mp hw
  have hk := List.mem_range.mp hk
  rcases (show k = 0 ∨ k = 1 ∨ k = 2 ∨ k = 3 by omega) with rfl | rfl | rfl | rfl
  · exact lyX7_0
  · exact lyX7_1
  · exact lyX7_2
  · exact lyX7_3⟩
theorem lyX8_0 : u_lay RX8 TX8 0 ∈ tg_T := tg_mem 284 (by decide +kernel) rfl
theorem lyX8_1 : u_lay RX8 TX8 1 ∈ tg_T := tg_mem 286 (by decide +kernel) rfl
theorem lyX8_2 : u_lay RX8 TX8 2 ∈ tg_T := tg_mem 288 (by decide +kernel) rfl
theorem lyX8_3 : u_lay RX8 TX8 3 ∈ tg_T := tg_mem 290 (by decide +kernel) rfl
theorem lyX8_4 : u_lay RX8 TX8 4 ∈ tg_T := tg_mem 292 (by decide +kernel) rfl
theorem lyX8_5 : u_lay RX8 TX8 5 ∈ tg_T := tg_mem 294 (by decide +kernel) rfl
theorem lyX8_6 : u_lay RX8 TX8 6 ∈ tg_T := tg_mem 296 (by decide +kernel) rfl
theorem lyX8_7 : u_lay RX8 TX8 7 ∈ tg_T := tg_mem 298 (by decide +kernel) rfl
theorem lyX8_8 : u_lay RX8 TX8 8 ∈ tg_T := tg_mem 300 (by decide +kernel) rfl
theorem lyX8_9 : u_lay RX8 TX8 9 ∈ tg_T := tg_mem 302 (by decide +kernel) rfl
theorem clX8 : tg_cls 7 RX8 TX8 10 := ⟨rfl, fun w hw => by
  obtain ⟨k, hk, rfl⟩ := List.mem_map.mp hw
  have hk := List.mem_range.mp hk
  rcases (show k = 0 ∨ k = 1 ∨ k = 2 ∨ k = 3 ∨ k = 4 ∨ k = 5 ∨ k = 6 ∨ k = 7 ∨ k = 8 ∨ k = 9 by omega) with rfl | rfl | rfl | rfl | rfl | rfl | rfl | rfl | rfl | rfl
  · exact lyX8_0
  · exact lyX8_1
  · exact lyX8_2
  · exact lyX8_3
  · exact lyX8_4
  · exact lyX8_5
  · exact lyX8_6
  · exact lyX8_7
  · exact lyX8_8
  · exact lyX8_9⟩
theorem lyX9_0 : u_lay RX9 TX9 0 ∈ tg_T := tg_mem 818 (by decide +kernel) rfl
theorem lyX9_1 : u_lay RX9 TX9 1 ∈ tg_T := tg_mem 820 (by decide +kernel) rfl
theorem lyX9_2 : u_lay RX9 TX9 2 ∈ tg_T := tg_mem 822 (by decide +kernel) rfl
theorem lyX9_3 : u_lay RX9 TX9 3 ∈ tg_T := tg_mem 824 (by decide +kernel) rfl
theorem lyX9_4 : u_lay RX9 TX9 4 ∈ tg_T := tg_mem 826 (by decide +kernel) rfl
theorem lyX9_5 : u_lay RX9 TX9 5 ∈ tg_T := tg_mem 828 (by decide +kernel) rfl
theorem lyX9_6 : u_lay RX9 TX9 6 ∈ tg_T := tg_mem 830 (by decide +kernel) rfl
theorem lyX9_7 : u_lay RX9 TX9 7 ∈ tg_T := tg_mem 832 (by decide +kernel) rfl
theorem lyX9_8 : u_lay RX9 TX9 8 ∈ tg_T := tg_mem 834 (by decide +kernel) rfl
theorem lyX9_9 : u_lay RX9 TX9 9 ∈ tg_T := tg_mem 836 (by decide +kernel) rfl
theorem lyX9_10 : u_lay RX9 TX9 10 ∈ tg_T := tg_mem 838 (by decide +kernel) rfl
theorem lyX9_11 : u_lay RX9 TX9 11 ∈ tg_T := tg_mem 840 (by decide +kernel) rfl
theorem lyX9_12 : u_lay RX9 TX9 12 ∈ tg_T := tg_mem 842 (by decide +kernel) rfl
theorem lyX9_13 : u_lay RX9 TX9 13 ∈ tg_T := tg_mem 844 (by decide +kernel) rfl
theorem lyX9_14 : u_lay RX9 TX9 14 ∈ tg_T := tg_mem 846 (by decide +kernel) rfl
theorem lyX9_15 : u_lay RX9 TX9 15 ∈ tg_T := tg_mem 848 (by decide +kernel) rfl
theorem lyX9_16 : u_lay RX9 TX9 16 ∈ tg_T := tg_mem 850 (by decide +kernel) rfl
theorem lyX9_17 : u_lay RX9 TX9 17 ∈ tg_T := tg_mem 852 (by decide +kernel) rfl
theorem lyX9_18 : u_lay RX9 TX9 18 ∈ tg_T := tg_mem 854 (by decide +kernel) rfl
theorem lyX9_19 : u_lay RX9 TX9 19 ∈ tg_T := tg_mem 856 (by decide +kernel) rfl
theorem lyX9_20 : u_lay RX9 TX9 20 ∈ tg_T := tg_mem 858 (by decide +kernel) rfl
theorem lyX9_21 : u_lay RX9 TX9 21 ∈ tg_T := tg_mem 860 (by decide +kernel) rfl
theorem lyX9_22 : u_lay RX9 TX9 22 ∈ tg_T := tg_mem 862 (by decide +kernel) rfl
theorem lyX9_23 : u_lay RX9 TX9 23 ∈ tg_T := tg_mem 864 (by decide +kernel) rfl
theorem lyX9_24 : u_lay RX9 TX9 24 ∈ tg_T := tg_mem 866 (by decide +kernel) rfl
theorem lyX9_25 : u_lay RX9 TX9 25 ∈ tg_T := tg_mem 868 (by decide +kernel) rfl
theorem lyX9_26 : u_lay RX9 TX9 26 ∈ tg_T := tg_mem 870 (by decide +kernel) rfl
theorem lyX9_27 : u_lay RX9 TX9 27 ∈ tg_T := tg_mem 872 (by decide +kernel) rfl
theorem lyX9_28 : u_lay RX9 TX9 28 ∈ tg_T := tg_mem 874 (by decide +kernel) rfl
theorem lyX9_29 : u_lay RX9 TX9 29 ∈ tg_T := tg_mem 876 (by decide +kernel) rfl
theorem clX9 : tg_cls 8 RX9 TX9 30 := ⟨rfl, fun w hw => by
  obtain ⟨k, hk, rfl⟩ := List.mem_map.mp hw
  have hk := List.mem_range.mp hk
  rcases (show k = 0 ∨ k = 1 ∨ k = 2 ∨ k = 3 ∨ k = 4 ∨ k = 5 ∨ k = 6 ∨ k = 7 ∨ k = 8 ∨ k = 9 ∨ k = 10 ∨ k = 11 ∨ k = 12 ∨ k = 13 ∨ k = 14 ∨ k = 15 ∨ k = 16 ∨ k = 17 ∨ k = 18 ∨ k = 19 ∨ k = 20 ∨ k = 21 ∨ k = 22 ∨ k = 23 ∨ k = 24 ∨ k = 25 ∨ k = 26 ∨ k = 27 ∨ k = 28 ∨ k = 29 by omega) with rfl | rfl | rfl | rfl | rfl | rfl | rfl | rfl | rfl | rfl | rfl | rfl | rfl | rfl | rfl | rfl | rfl | rfl | rfl | rfl | rfl | rfl | rfl | rfl | rfl | rfl | rfl | rfl | rfl | rfl
  · exact lyX9_0
  · exact lyX9_1
  · exact lyX9_2
  · exact lyX9_3
  · exact lyX9_4
  · exact lyX9_5
  · exact lyX9_6
  · exact lyX9_7
  · exact lyX9_8
  · exact lyX9_9
  · exact lyX9_10
  · exact lyX9_11
  · exact lyX9_12
  · exact lyX9_13
  · exact lyX9_14
  · exact lyX9_15
  · exact lyX9_16
  · exact lyX9_17
  · exact lyX9_18
  · exact lyX9_19
  · exact lyX9_20
  · exact lyX9_21
  · exact lyX9_22
  · exact lyX9_23
  · exact lyX9_24
  · exact lyX9_25
  · exact lyX9_26
  · exact lyX9_27
  · exact lyX9_28
  · exact lyX9_29⟩
end
section
/-! calls in the same world, and of static methods without one -/
theorem tg_v_id (v : Value) : tg_v (fun k => k) v = v := by cases v <;> rfl
theorem tg_v_ids (vs : List Value) : vs.map (tg_v (fun k => k)) = vs := by
  have : (tg_v fun k => k) = id := funext tg_v_id
  rw [this, List.map_id]
theorem tg_e_id (c : va_E) : tg_e (fun t => t) (fun k => k) c = c := by
  rcases c with ⟨t, n, a⟩ | ⟨ci, fs⟩
  · rcases a with a | a | a | a | a <;> simp [tg_e]
  · simp [tg_e, tg_v_ids]
theorem tg_rn_range (n : Nat) : tg_rn (List.range n) = fun k => k := by
  funext k
  simp only [tg_rn, List.getD, List.getElem?_range]
  by_cases h : k < n <;> simp [h]
theorem tg_rn_nil : tg_rn [] = fun k => k := by
  funext k
  simp [tg_rn]
theorem tg_put_all {w w' : List va_E} (h : w'.length = w.length) : tg_put (fun k => k) w (List.range w.length) w' = w' := by
  apply List.ext_getElem?
  intro j
  by_cases hj : j < w.length
  · have hl : j < (tg_put (fun k => k) w (List.range w.length) w').length := by rw [tg_put_len]; exact hj
    have hx := List.getElem?_eq_getElem hl
    rcases tg_put_get _ _ _ _ _ _ hx (by simp [h]) with ⟨k, c, g1, g2, g3⟩ | ⟨g1, g2⟩
    · rw [hx, g3, tg_e_id]
      have hk := (List.getElem?_eq_some_iff.mp g1)
      obtain ⟨hk1, hk2⟩ := hk
      have : k = j := by simpa using hk2
      rw [← this]
      exact g2.symm
    · exact absurd (List.mem_range.mpr hj) g1
  · rw [List.getElem?_eq_none (by rw [tg_put_len]; omega), List.getElem?_eq_none (by omega)]
theorem va_nd_range : ∀ (n s : Nat), va_nd (List.range' s n) = true
  | 0, s => rfl
  | n + 1, s => by
    rw [List.range'_succ, va_nd]
    simp only [Bool.and_eq_true, decide_eq_true_eq]
    refine ⟨fun h => ?_, va_nd_range n (s + 1)⟩
    have := List.mem_range'_1.mp h
    omega
theorem tg_fr_all (w : List va_E) : (List.range w.length).map (fun i => w[i]?) = w.map (fun c => some (tg_e (fun t => t) (tg_rn (List.range w.length)) c)) := by
  rw [tg_rn_range]
  apply List.ext_getElem?
  intro j
  simp only [List.getElem?_map]
  by_cases hj : j < w.length
  · rw [List.getElem?_range hj, List.getElem?_eq_getElem hj]
    simp [tg_e_id, hj]
  · rw [List.getElem?_eq_none (by simp; omega), List.getElem?_eq_none (show w.length ≤ j by omega)]
    rfl
section TGR
variable {l : tg_Ln} {M M' : tg_M} {n0 n pc kc ks : Nat} {K K' : Option Value → List va_E → Prop} {lv : List Value} {w : List va_E}
/-- an instance method, the same world -/
theorem tg_callW (hs : tg_VS M pc M' n) {b ci : Nat} {As rest fs : List Value} (hc : tg_Ct l M' 1000 (.ref b :: As) w K') (hw : w.length ≤ 1000) (hrb : w[b]? = some (.inr (ci, fs))) (hcl : (vwCl[ci]?).map (fun q => q.1) = some M'.1.cls) (hn : As.length = n) (hla : (tg_la (.ref b :: As)).length ≤ M'.2.2.1) (hW : (rest.map fun v => v.category).sum ≤ 8)
    (hlen : ∀ r w', K' r w' → w'.length = w.length) (kk : ∀ r w', K' r w' → tg_G l M n0 K kc ks (pc + 3) lv (r.toList ++ rest) w') :
    tg_G l M n0 K kc ks pc lv (As.reverse ++ .ref b :: rest) w := by
  have h := tg_callV (n0 := n0) (K := K) (kc := kc) (ks := ks) (lv := lv) (rest := rest) hs (List.range w.length) hc (tg_fr_all w) (by rw [List.range_eq_range']; exact va_nd_range _ _) (by simpa using hw) hrb hcl hn hla hW hlen (fun r w' hk => by
    rw [tg_rn_range, tg_put_all (hlen r w' hk)]
    have e : (r.map (tg_v fun k => k)) = r := by cases r <;> simp [tg_v_id]
    rw [e]
    exact kk r w' hk)
  rw [tg_rn_range, tg_v_ids] at h
  exact h
/-- a static method that needs no world -/
theorem tg_callP (hs : tg_SS0 M pc M' n) {P : Option Value → Prop} {As rest : List Value} (hc : tg_Ct l M' 1000 As [] (fun r w => P r ∧ w = [])) (hn : As.length = n) (hla : (tg_la As).length ≤ M'.2.2.1) (hW : (rest.map fun v => v.category).sum ≤ 8)
    (kk : ∀ r, P r → tg_G l M n0 K kc ks (pc + 3) lv (r.toList ++ rest) w) : tg_G l M n0 K kc ks pc lv (As.reverse ++ rest) w := by
  have h := tg_callS (n0 := n0) (K := K) (kc := kc) (ks := ks) (lv := lv) (rest := rest) (w := w) hs [] hc rfl rfl (by simp) hn hla hW (fun r w' h => by rw [h.2]) (fun r w' hk => by
    rw [tg_rn_nil]
    have e : (r.map (tg_v fun k => k)) = r := by cases r <;> simp [tg_v_id]
    rw [e, hk.2]
    exact kk r hk.1)
  rw [tg_rn_nil, tg_v_ids] at h
  exact h
/-- a static method, the same world -/
theorem tg_callSW (hs : tg_SS0 M pc M' n) {As rest : List Value} (hc : tg_Ct l M' 1000 As w K') (hw : w.length ≤ 1000) (hn : As.length = n) (hla : (tg_la As).length ≤ M'.2.2.1) (hW : (rest.map fun v => v.category).sum ≤ 8)
    (hlen : ∀ r w', K' r w' → w'.length = w.length) (kk : ∀ r w', K' r w' → tg_G l M n0 K kc ks (pc + 3) lv (r.toList ++ rest) w') :
    tg_G l M n0 K kc ks pc lv (As.reverse ++ rest) w := by
  have h := tg_callS (n0 := n0) (K := K) (kc := kc) (ks := ks) (lv := lv) (rest := rest) hs (List.range w.length) hc (tg_fr_all w) (by rw [List.range_eq_range']; exact va_nd_range _ _) (by simpa using hw) hn hla hW hlen (fun r w' hk => by
    rw [tg_rn_range, tg_put_all (hlen r w' hk)]
    have e : (r.map (tg_v fun k => k)) = r := by cases r <;> simp [tg_v_id]
    rw [e]
    exact kk r w' hk)
  rw [tg_rn_range, tg_v_ids] at h
  exact h
end TGR
end
