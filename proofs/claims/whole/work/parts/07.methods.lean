/-! the methods: names, bytes, locals, return types, rooms; and what the tables say of them -/
theorem iniX0 : Cond.initialized RX0 ∈ tg_T := tg_mem 56 (by decide +kernel) rfl
theorem iniX1 : Cond.initialized RX1 ∈ tg_T := tg_mem 53 (by decide +kernel) rfl
theorem iniX2 : Cond.initialized RX2 ∈ tg_T := tg_mem 69 (by decide +kernel) rfl
theorem iniX3 : Cond.initialized RX3 ∈ tg_T := tg_mem 59 (by decide +kernel) rfl
theorem iniX4 : Cond.initialized RX4 ∈ tg_T := tg_mem 57 (by decide +kernel) rfl
theorem iniX5 : Cond.initialized RX5 ∈ tg_T := tg_mem 58 (by decide +kernel) rfl
theorem iniX6 : Cond.initialized RX6 ∈ tg_T := tg_mem 55 (by decide +kernel) rfl
theorem iniX7 : Cond.initialized RX7 ∈ tg_T := tg_mem 54 (by decide +kernel) rfl
theorem iniX8 : Cond.initialized RX8 ∈ tg_T := tg_mem 52 (by decide +kernel) rfl
theorem iniX9 : Cond.initialized RX9 ∈ tg_T := tg_mem 60 (by decide +kernel) rfl
theorem iniJ6 : Cond.initialized RJ6 ∈ tg_T := tg_mem 68 (by decide +kernel) rfl
theorem iniJ13 : Cond.initialized RJ13 ∈ tg_T := tg_mem 67 (by decide +kernel) rfl
theorem iniMath : Cond.initialized "java/lang/Math" ∈ tg_T := tg_mem 66 (by decide +kernel) rfl
theorem iniSys : Cond.initialized "java/lang/System" ∈ tg_T := tg_mem 61 (by decide +kernel) rfl
def mX0_init : tg_M := (yX0_init, cX0_init, 1, none, { frames := 2, cells := 15, slots := 3431, locals := 41 })
theorem okX0_init : tg_ok mX0_init := ⟨tg_mem 167 (by decide +kernel) rfl, iniX0, by decide, by decide, by decide⟩
theorem insX0_init : Cond.instanceMethod yX0_init ∈ tg_T := tg_mem 166 (by decide +kernel) rfl
theorem parX0_init : (parseMethodDescriptor mX0_init.1.desc).map (fun d => d.parameters.length) = some 0 := by decide +kernel
def mX0_list : tg_M := (yX0_list, cX0_list, 2, none, { frames := 4, cells := 0, slots := 0, locals := 96 })
theorem okX0_list : tg_ok mX0_list := ⟨tg_mem 515 (by decide +kernel) rfl, iniX0, by decide, by decide, by decide⟩
theorem insX0_list : Cond.instanceMethod yX0_list ∈ tg_T := tg_mem 513 (by decide +kernel) rfl
theorem selX0_list : Cond.selects RX0 yX0_list yX0_list ∈ tg_T := tg_mem 514 (by decide +kernel) rfl
theorem parX0_list : (parseMethodDescriptor mX0_list.1.desc).map (fun d => d.parameters.length) = some 0 := by decide +kernel
def mX0_findHaving : tg_M := (yX0_findHaving, cX0_findHaving, 5, none, { frames := 0, cells := 0, slots := 0, locals := 0 })
theorem okX0_findHaving : tg_ok mX0_findHaving := ⟨tg_mem 519 (by decide +kernel) rfl, iniX0, by decide, by decide, by decide⟩
theorem insX0_findHaving : Cond.instanceMethod yX0_findHaving ∈ tg_T := tg_mem 518 (by decide +kernel) rfl
theorem selX0_findHaving : Cond.selects RX0 yX0_findHaving yX0_findHaving ∈ tg_T := tg_mem 6 (by decide +kernel) rfl
theorem parX0_findHaving : (parseMethodDescriptor mX0_findHaving.1.desc).map (fun d => d.parameters.length) = some 0 := by decide +kernel
def mX0_spreadBy : tg_M := (yX0_spreadBy, cX0_spreadBy, 7, none, { frames := 1, cells := 0, slots := 0, locals := 23 })
theorem okX0_spreadBy : tg_ok mX0_spreadBy := ⟨tg_mem 523 (by decide +kernel) rfl, iniX0, by decide, by decide, by decide⟩
theorem insX0_spreadBy : Cond.instanceMethod yX0_spreadBy ∈ tg_T := tg_mem 522 (by decide +kernel) rfl
theorem selX0_spreadBy : Cond.selects RX0 yX0_spreadBy yX0_spreadBy ∈ tg_T := tg_mem 7 (by decide +kernel) rfl
theorem parX0_spreadBy : (parseMethodDescriptor mX0_spreadBy.1.desc).map (fun d => d.parameters.length) = some 1 := by decide +kernel
def mX0_tally : tg_M := (yX0_tally, cX0_tally, 3, none, { frames := 3, cells := 0, slots := 0, locals := 74 })
theorem okX0_tally : tg_ok mX0_tally := ⟨tg_mem 531 (by decide +kernel) rfl, iniX0, by decide, by decide, by decide⟩
theorem insX0_tally : Cond.instanceMethod yX0_tally ∈ tg_T := tg_mem 530 (by decide +kernel) rfl
theorem selX0_tally : Cond.selects RX0 yX0_tally yX0_tally ∈ tg_T := tg_mem 9 (by decide +kernel) rfl
theorem parX0_tally : (parseMethodDescriptor mX0_tally.1.desc).map (fun d => d.parameters.length) = some 0 := by decide +kernel
def mX0_havingFigure : tg_M := (yX0_havingFigure, cX0_havingFigure, 4, (some .long), { frames := 0, cells := 0, slots := 0, locals := 0 })
theorem okX0_havingFigure : tg_ok mX0_havingFigure := ⟨tg_mem 527 (by decide +kernel) rfl, iniX0, by decide, by decide, by decide⟩
theorem insX0_havingFigure : Cond.instanceMethod yX0_havingFigure ∈ tg_T := tg_mem 526 (by decide +kernel) rfl
theorem selX0_havingFigure : Cond.selects RX0 yX0_havingFigure yX0_havingFigure ∈ tg_T := tg_mem 8 (by decide +kernel) rfl
theorem parX0_havingFigure : (parseMethodDescriptor mX0_havingFigure.1.desc).map (fun d => d.parameters.length) = some 2 := by decide +kernel
def mX0_coverOf : tg_M := (yX0_coverOf, cX0_coverOf, 7, (some .long), { frames := 1, cells := 0, slots := 0, locals := 23 })
theorem okX0_coverOf : tg_ok mX0_coverOf := ⟨tg_mem 556 (by decide +kernel) rfl, iniX0, by decide, by decide, by decide⟩
theorem insX0_coverOf : Cond.instanceMethod yX0_coverOf ∈ tg_T := tg_mem 554 (by decide +kernel) rfl
theorem selX0_coverOf : Cond.selects RX0 yX0_coverOf yX0_coverOf ∈ tg_T := tg_mem 555 (by decide +kernel) rfl
theorem parX0_coverOf : (parseMethodDescriptor mX0_coverOf.1.desc).map (fun d => d.parameters.length) = some 1 := by decide +kernel
def mX0_closureOf : tg_M := (yX0_closureOf, cX0_closureOf, 4, (some .int), { frames := 2, cells := 0, slots := 0, locals := 51 })
theorem okX0_closureOf : tg_ok mX0_closureOf := ⟨tg_mem 542 (by decide +kernel) rfl, iniX0, by decide, by decide, by decide⟩
theorem insX0_closureOf : Cond.instanceMethod yX0_closureOf ∈ tg_T := tg_mem 540 (by decide +kernel) rfl
theorem selX0_closureOf : Cond.selects RX0 yX0_closureOf yX0_closureOf ∈ tg_T := tg_mem 541 (by decide +kernel) rfl
theorem parX0_closureOf : (parseMethodDescriptor mX0_closureOf.1.desc).map (fun d => d.parameters.length) = some 1 := by decide +kernel
def mX0_sharedWith : tg_M := (yX0_sharedWith, cX0_sharedWith, 9, (some .int), { frames := 1, cells := 0, slots := 0, locals := 23 })
theorem okX0_sharedWith : tg_ok mX0_sharedWith := ⟨tg_mem 547 (by decide +kernel) rfl, iniX0, by decide, by decide, by decide⟩
theorem insX0_sharedWith : Cond.instanceMethod yX0_sharedWith ∈ tg_T := tg_mem 546 (by decide +kernel) rfl
theorem selX0_sharedWith : Cond.selects RX0 yX0_sharedWith yX0_sharedWith ∈ tg_T := tg_mem 10 (by decide +kernel) rfl
theorem parX0_sharedWith : (parseMethodDescriptor mX0_sharedWith.1.desc).map (fun d => d.parameters.length) = some 2 := by decide +kernel
def mX0_dimensionsOf : tg_M := (yX0_dimensionsOf, cX0_dimensionsOf, 5, (some .int), { frames := 0, cells := 0, slots := 0, locals := 0 })
theorem okX0_dimensionsOf : tg_ok mX0_dimensionsOf := ⟨tg_mem 552 (by decide +kernel) rfl, iniX0, by decide, by decide, by decide⟩
theorem insX0_dimensionsOf : Cond.instanceMethod yX0_dimensionsOf ∈ tg_T := tg_mem 551 (by decide +kernel) rfl
theorem selX0_dimensionsOf : Cond.selects RX0 yX0_dimensionsOf yX0_dimensionsOf ∈ tg_T := tg_mem 11 (by decide +kernel) rfl
theorem parX0_dimensionsOf : (parseMethodDescriptor mX0_dimensionsOf.1.desc).map (fun d => d.parameters.length) = some 1 := by decide +kernel
def mX0_within : tg_M := (yX0_within, cX0_within, 7, (some .int), { frames := 0, cells := 0, slots := 0, locals := 0 })
theorem okX0_within : tg_ok mX0_within := ⟨tg_mem 648 (by decide +kernel) rfl, iniX0, by decide, by decide, by decide⟩
theorem insX0_within : Cond.instanceMethod yX0_within ∈ tg_T := tg_mem 647 (by decide +kernel) rfl
theorem selX0_within : Cond.selects RX0 yX0_within yX0_within ∈ tg_T := tg_mem 12 (by decide +kernel) rfl
theorem parX0_within : (parseMethodDescriptor mX0_within.1.desc).map (fun d => d.parameters.length) = some 2 := by decide +kernel
def mX0_codeInCube : tg_M := (yX0_codeInCube, cX0_codeInCube, 4, (some .int), { frames := 1, cells := 0, slots := 0, locals := 21 })
theorem okX0_codeInCube : tg_ok mX0_codeInCube := ⟨tg_mem 589 (by decide +kernel) rfl, iniX0, by decide, by decide, by decide⟩
theorem insX0_codeInCube : Cond.instanceMethod yX0_codeInCube ∈ tg_T := tg_mem 587 (by decide +kernel) rfl
theorem selX0_codeInCube : Cond.selects RX0 yX0_codeInCube yX0_codeInCube ∈ tg_T := tg_mem 588 (by decide +kernel) rfl
theorem parX0_codeInCube : (parseMethodDescriptor mX0_codeInCube.1.desc).map (fun d => d.parameters.length) = some 1 := by decide +kernel
def mX0_cubeSize : tg_M := (yX0_cubeSize, cX0_cubeSize, 2, (some .int), { frames := 2, cells := 0, slots := 0, locals := 44 })
theorem okX0_cubeSize : tg_ok mX0_cubeSize := ⟨tg_mem 657 (by decide +kernel) rfl, iniX0, by decide, by decide, by decide⟩
theorem insX0_cubeSize : Cond.instanceMethod yX0_cubeSize ∈ tg_T := tg_mem 655 (by decide +kernel) rfl
theorem selX0_cubeSize : Cond.selects RX0 yX0_cubeSize yX0_cubeSize ∈ tg_T := tg_mem 656 (by decide +kernel) rfl
theorem parX0_cubeSize : (parseMethodDescriptor mX0_cubeSize.1.desc).map (fun d => d.parameters.length) = some 1 := by decide +kernel
def mX0_cellsWith : tg_M := (yX0_cellsWith, cX0_cellsWith, 2, (some .int), { frames := 2, cells := 0, slots := 0, locals := 44 })
theorem okX0_cellsWith : tg_ok mX0_cellsWith := ⟨tg_mem 771 (by decide +kernel) rfl, iniX0, by decide, by decide, by decide⟩
theorem insX0_cellsWith : Cond.instanceMethod yX0_cellsWith ∈ tg_T := tg_mem 769 (by decide +kernel) rfl
theorem selX0_cellsWith : Cond.selects RX0 yX0_cellsWith yX0_cellsWith ∈ tg_T := tg_mem 770 (by decide +kernel) rfl
theorem parX0_cellsWith : (parseMethodDescriptor mX0_cellsWith.1.desc).map (fun d => d.parameters.length) = some 1 := by decide +kernel
def mX0_ofSizeOrMore : tg_M := (yX0_ofSizeOrMore, cX0_ofSizeOrMore, 4, (some .int), { frames := 1, cells := 0, slots := 0, locals := 21 })
theorem okX0_ofSizeOrMore : tg_ok mX0_ofSizeOrMore := ⟨tg_mem 660 (by decide +kernel) rfl, iniX0, by decide, by decide, by decide⟩
theorem staX0_ofSizeOrMore : Cond.static yX0_ofSizeOrMore ∈ tg_T := tg_mem 659 (by decide +kernel) rfl
theorem parX0_ofSizeOrMore : (parseMethodDescriptor mX0_ofSizeOrMore.1.desc).map (fun d => d.parameters.length) = some 2 := by decide +kernel
def mX0_leastSupportFor : tg_M := (yX0_leastSupportFor, cX0_leastSupportFor, 3, (some .int), { frames := 3, cells := 0, slots := 0, locals := 65 })
theorem okX0_leastSupportFor : tg_ok mX0_leastSupportFor := ⟨tg_mem 677 (by decide +kernel) rfl, iniX0, by decide, by decide, by decide⟩
theorem insX0_leastSupportFor : Cond.instanceMethod yX0_leastSupportFor ∈ tg_T := tg_mem 675 (by decide +kernel) rfl
theorem selX0_leastSupportFor : Cond.selects RX0 yX0_leastSupportFor yX0_leastSupportFor ∈ tg_T := tg_mem 676 (by decide +kernel) rfl
theorem parX0_leastSupportFor : (parseMethodDescriptor mX0_leastSupportFor.1.desc).map (fun d => d.parameters.length) = some 1 := by decide +kernel
def mX0_isInCube : tg_M := (yX0_isInCube, cX0_isInCube, 4, (some .boolean), { frames := 3, cells := 0, slots := 0, locals := 74 })
theorem okX0_isInCube : tg_ok mX0_isInCube := ⟨tg_mem 653 (by decide +kernel) rfl, iniX0, by decide, by decide, by decide⟩
theorem insX0_isInCube : Cond.instanceMethod yX0_isInCube ∈ tg_T := tg_mem 652 (by decide +kernel) rfl
theorem selX0_isInCube : Cond.selects RX0 yX0_isInCube yX0_isInCube ∈ tg_T := tg_mem 13 (by decide +kernel) rfl
theorem parX0_isInCube : (parseMethodDescriptor mX0_isInCube.1.desc).map (fun d => d.parameters.length) = some 2 := by decide +kernel
def mX0_gainedWith : tg_M := (yX0_gainedWith, cX0_gainedWith, 8, (some .int), { frames := 4, cells := 0, slots := 0, locals := 97 })
theorem okX0_gainedWith : tg_ok mX0_gainedWith := ⟨tg_mem 644 (by decide +kernel) rfl, iniX0, by decide, by decide, by decide⟩
theorem insX0_gainedWith : Cond.instanceMethod yX0_gainedWith ∈ tg_T := tg_mem 642 (by decide +kernel) rfl
theorem selX0_gainedWith : Cond.selects RX0 yX0_gainedWith yX0_gainedWith ∈ tg_T := tg_mem 643 (by decide +kernel) rfl
theorem parX0_gainedWith : (parseMethodDescriptor mX0_gainedWith.1.desc).map (fun d => d.parameters.length) = some 1 := by decide +kernel
def mX0_lostWithout : tg_M := (yX0_lostWithout, cX0_lostWithout, 7, (some .int), { frames := 4, cells := 0, slots := 0, locals := 97 })
theorem okX0_lostWithout : tg_ok mX0_lostWithout := ⟨tg_mem 669 (by decide +kernel) rfl, iniX0, by decide, by decide, by decide⟩
theorem insX0_lostWithout : Cond.instanceMethod yX0_lostWithout ∈ tg_T := tg_mem 667 (by decide +kernel) rfl
theorem selX0_lostWithout : Cond.selects RX0 yX0_lostWithout yX0_lostWithout ∈ tg_T := tg_mem 668 (by decide +kernel) rfl
theorem parX0_lostWithout : (parseMethodDescriptor mX0_lostWithout.1.desc).map (fun d => d.parameters.length) = some 1 := by decide +kernel
def mX0_leastKey : tg_M := (yX0_leastKey, cX0_leastKey, 4, (some .int), { frames := 1, cells := 0, slots := 0, locals := 20 })
theorem okX0_leastKey : tg_ok mX0_leastKey := ⟨tg_mem 686 (by decide +kernel) rfl, iniX0, by decide, by decide, by decide⟩
theorem insX0_leastKey : Cond.instanceMethod yX0_leastKey ∈ tg_T := tg_mem 684 (by decide +kernel) rfl
theorem selX0_leastKey : Cond.selects RX0 yX0_leastKey yX0_leastKey ∈ tg_T := tg_mem 685 (by decide +kernel) rfl
theorem parX0_leastKey : (parseMethodDescriptor mX0_leastKey.1.desc).map (fun d => d.parameters.length) = some 0 := by decide +kernel
def mX0_settles : tg_M := (yX0_settles, cX0_settles, 4, (some .boolean), { frames := 0, cells := 0, slots := 0, locals := 0 })
theorem okX0_settles : tg_ok mX0_settles := ⟨tg_mem 700 (by decide +kernel) rfl, iniX0, by decide, by decide, by decide⟩
theorem insX0_settles : Cond.instanceMethod yX0_settles ∈ tg_T := tg_mem 698 (by decide +kernel) rfl
theorem selX0_settles : Cond.selects RX0 yX0_settles yX0_settles ∈ tg_T := tg_mem 699 (by decide +kernel) rfl
theorem parX0_settles : (parseMethodDescriptor mX0_settles.1.desc).map (fun d => d.parameters.length) = some 2 := by decide +kernel
def mX0_parted : tg_M := (yX0_parted, cX0_parted, 3, (some (.object "CubeClosures$Parting")), { frames := 1, cells := 0, slots := 0, locals := 24 })
theorem okX0_parted : tg_ok mX0_parted := ⟨tg_mem 604 (by decide +kernel) rfl, iniX0, by decide, by decide, by decide⟩
theorem insX0_parted : Cond.instanceMethod yX0_parted ∈ tg_T := tg_mem 602 (by decide +kernel) rfl
theorem selX0_parted : Cond.selects RX0 yX0_parted yX0_parted ∈ tg_T := tg_mem 603 (by decide +kernel) rfl
theorem parX0_parted : (parseMethodDescriptor mX0_parted.1.desc).map (fun d => d.parameters.length) = some 0 := by decide +kernel
def mX1_init : tg_M := (yX1_init, cX1_init, 1, none, { frames := 2, cells := 7, slots := 298, locals := 41 })
theorem okX1_init : tg_ok mX1_init := ⟨tg_mem 82 (by decide +kernel) rfl, iniX1, by decide, by decide, by decide⟩
theorem insX1_init : Cond.instanceMethod yX1_init ∈ tg_T := tg_mem 81 (by decide +kernel) rfl
theorem parX1_init : (parseMethodDescriptor mX1_init.1.desc).map (fun d => d.parameters.length) = some 0 := by decide +kernel
def mX1_draftUpon : tg_M := (yX1_draftUpon, cX1_draftUpon, 2, (some .int), { frames := 7, cells := 0, slots := 0, locals := 148 })
theorem okX1_draftUpon : tg_ok mX1_draftUpon := ⟨tg_mem 324 (by decide +kernel) rfl, iniX1, by decide, by decide, by decide⟩
theorem insX1_draftUpon : Cond.instanceMethod yX1_draftUpon ∈ tg_T := tg_mem 322 (by decide +kernel) rfl
theorem selX1_draftUpon : Cond.selects RX1 yX1_draftUpon yX1_draftUpon ∈ tg_T := tg_mem 323 (by decide +kernel) rfl
theorem parX1_draftUpon : (parseMethodDescriptor mX1_draftUpon.1.desc).map (fun d => d.parameters.length) = some 1 := by decide +kernel
def mX1_doClause : tg_M := (yX1_doClause, cX1_doClause, 1, (some .boolean), { frames := 6, cells := 0, slots := 0, locals := 128 })
theorem okX1_doClause : tg_ok mX1_doClause := ⟨tg_mem 349 (by decide +kernel) rfl, iniX1, by decide, by decide, by decide⟩
theorem insX1_doClause : Cond.instanceMethod yX1_doClause ∈ tg_T := tg_mem 348 (by decide +kernel) rfl
theorem selX1_doClause : Cond.selects RX1 yX1_doClause yX1_doClause ∈ tg_T := tg_mem 0 (by decide +kernel) rfl
theorem parX1_doClause : (parseMethodDescriptor mX1_doClause.1.desc).map (fun d => d.parameters.length) = some 0 := by decide +kernel
def mX1_doTable : tg_M := (yX1_doTable, cX1_doTable, 3, (some .boolean), { frames := 2, cells := 0, slots := 0, locals := 48 })
theorem okX1_doTable : tg_ok mX1_doTable := ⟨tg_mem 406 (by decide +kernel) rfl, iniX1, by decide, by decide, by decide⟩
theorem insX1_doTable : Cond.instanceMethod yX1_doTable ∈ tg_T := tg_mem 405 (by decide +kernel) rfl
theorem selX1_doTable : Cond.selects RX1 yX1_doTable yX1_doTable ∈ tg_T := tg_mem 1 (by decide +kernel) rfl
theorem parX1_doTable : (parseMethodDescriptor mX1_doTable.1.desc).map (fun d => d.parameters.length) = some 0 := by decide +kernel
def mX1_doSupport : tg_M := (yX1_doSupport, cX1_doSupport, 2, (some .boolean), { frames := 2, cells := 0, slots := 0, locals := 44 })
theorem okX1_doSupport : tg_ok mX1_doSupport := ⟨tg_mem 423 (by decide +kernel) rfl, iniX1, by decide, by decide, by decide⟩
theorem insX1_doSupport : Cond.instanceMethod yX1_doSupport ∈ tg_T := tg_mem 422 (by decide +kernel) rfl
theorem selX1_doSupport : Cond.selects RX1 yX1_doSupport yX1_doSupport ∈ tg_T := tg_mem 2 (by decide +kernel) rfl
theorem parX1_doSupport : (parseMethodDescriptor mX1_doSupport.1.desc).map (fun d => d.parameters.length) = some 0 := by decide +kernel
def mX1_doRow : tg_M := (yX1_doRow, cX1_doRow, 4, (some .boolean), { frames := 2, cells := 0, slots := 0, locals := 49 })
theorem okX1_doRow : tg_ok mX1_doRow := ⟨tg_mem 428 (by decide +kernel) rfl, iniX1, by decide, by decide, by decide⟩
theorem insX1_doRow : Cond.instanceMethod yX1_doRow ∈ tg_T := tg_mem 427 (by decide +kernel) rfl
theorem selX1_doRow : Cond.selects RX1 yX1_doRow yX1_doRow ∈ tg_T := tg_mem 3 (by decide +kernel) rfl
theorem parX1_doRow : (parseMethodDescriptor mX1_doRow.1.desc).map (fun d => d.parameters.length) = some 0 := by decide +kernel
def mX2_result : tg_M := (yX2_result, cX2_result, 5, (some .long), { frames := 0, cells := 0, slots := 0, locals := 0 })
theorem okX2_result : tg_ok mX2_result := ⟨tg_mem 739 (by decide +kernel) rfl, iniX2, by decide, by decide, by decide⟩
theorem staX2_result : Cond.static yX2_result ∈ tg_T := tg_mem 738 (by decide +kernel) rfl
theorem parX2_result : (parseMethodDescriptor mX2_result.1.desc).map (fun d => d.parameters.length) = some 3 := by decide +kernel
def mX2_isOver : tg_M := (yX2_isOver, cX2_isOver, 7, (some .boolean), { frames := 1, cells := 0, slots := 0, locals := 24 })
theorem okX2_isOver : tg_ok mX2_isOver := ⟨tg_mem 736 (by decide +kernel) rfl, iniX2, by decide, by decide, by decide⟩
theorem staX2_isOver : Cond.static yX2_isOver ∈ tg_T := tg_mem 735 (by decide +kernel) rfl
theorem parX2_isOver : (parseMethodDescriptor mX2_isOver.1.desc).map (fun d => d.parameters.length) = some 3 := by decide +kernel
def mX3_init : tg_M := (yX3_init, cX3_init, 2, none, { frames := 1, cells := 5, slots := 42, locals := 20 })
theorem okX3_init : tg_ok mX3_init := ⟨tg_mem 261 (by decide +kernel) rfl, iniX3, by decide, by decide, by decide⟩
theorem insX3_init : Cond.instanceMethod yX3_init ∈ tg_T := tg_mem 260 (by decide +kernel) rfl
theorem parX3_init : (parseMethodDescriptor mX3_init.1.desc).map (fun d => d.parameters.length) = some 0 := by decide +kernel
def mX3_isRow : tg_M := (yX3_isRow, cX3_isRow, 1, (some .boolean), { frames := 0, cells := 0, slots := 0, locals := 0 })
theorem okX3_isRow : tg_ok mX3_isRow := ⟨tg_mem 707 (by decide +kernel) rfl, iniX3, by decide, by decide, by decide⟩
theorem staX3_isRow : Cond.static yX3_isRow ∈ tg_T := tg_mem 706 (by decide +kernel) rfl
theorem parX3_isRow : (parseMethodDescriptor mX3_isRow.1.desc).map (fun d => d.parameters.length) = some 1 := by decide +kernel
def mX3_isMissing : tg_M := (yX3_isMissing, cX3_isMissing, 2, (some .boolean), { frames := 1, cells := 0, slots := 0, locals := 20 })
theorem okX3_isMissing : tg_ok mX3_isMissing := ⟨tg_mem 728 (by decide +kernel) rfl, iniX3, by decide, by decide, by decide⟩
theorem insX3_isMissing : Cond.instanceMethod yX3_isMissing ∈ tg_T := tg_mem 726 (by decide +kernel) rfl
theorem selX3_isMissing : Cond.selects RX3 yX3_isMissing yX3_isMissing ∈ tg_T := tg_mem 727 (by decide +kernel) rfl
theorem parX3_isMissing : (parseMethodDescriptor mX3_isMissing.1.desc).map (fun d => d.parameters.length) = some 1 := by decide +kernel
def mX3_renew : tg_M := (yX3_renew, cX3_renew, 4, none, { frames := 1, cells := 0, slots := 0, locals := 20 })
theorem okX3_renew : tg_ok mX3_renew := ⟨tg_mem 711 (by decide +kernel) rfl, iniX3, by decide, by decide, by decide⟩
theorem insX3_renew : Cond.instanceMethod yX3_renew ∈ tg_T := tg_mem 709 (by decide +kernel) rfl
theorem selX3_renew : Cond.selects RX3 yX3_renew yX3_renew ∈ tg_T := tg_mem 710 (by decide +kernel) rfl
theorem parX3_renew : (parseMethodDescriptor mX3_renew.1.desc).map (fun d => d.parameters.length) = some 2 := by decide +kernel
def mX3_finds : tg_M := (yX3_finds, cX3_finds, 3, (some .int), { frames := 2, cells := 0, slots := 0, locals := 41 })
theorem okX3_finds : tg_ok mX3_finds := ⟨tg_mem 724 (by decide +kernel) rfl, iniX3, by decide, by decide, by decide⟩
theorem insX3_finds : Cond.instanceMethod yX3_finds ∈ tg_T := tg_mem 722 (by decide +kernel) rfl
theorem selX3_finds : Cond.selects RX3 yX3_finds yX3_finds ∈ tg_T := tg_mem 723 (by decide +kernel) rfl
theorem parX3_finds : (parseMethodDescriptor mX3_finds.1.desc).map (fun d => d.parameters.length) = some 2 := by decide +kernel
def mX3_put : tg_M := (yX3_put, cX3_put, 6, (some .int), { frames := 3, cells := 0, slots := 0, locals := 63 })
theorem okX3_put : tg_ok mX3_put := ⟨tg_mem 720 (by decide +kernel) rfl, iniX3, by decide, by decide, by decide⟩
theorem insX3_put : Cond.instanceMethod yX3_put ∈ tg_T := tg_mem 718 (by decide +kernel) rfl
theorem selX3_put : Cond.selects RX3 yX3_put yX3_put ∈ tg_T := tg_mem 719 (by decide +kernel) rfl
theorem parX3_put : (parseMethodDescriptor mX3_put.1.desc).map (fun d => d.parameters.length) = some 3 := by decide +kernel
def mX3_placesInAll : tg_M := (yX3_placesInAll, cX3_placesInAll, 3, (some .int), { frames := 1, cells := 0, slots := 0, locals := 21 })
theorem okX3_placesInAll : tg_ok mX3_placesInAll := ⟨tg_mem 779 (by decide +kernel) rfl, iniX3, by decide, by decide, by decide⟩
theorem insX3_placesInAll : Cond.instanceMethod yX3_placesInAll ∈ tg_T := tg_mem 777 (by decide +kernel) rfl
theorem selX3_placesInAll : Cond.selects RX3 yX3_placesInAll yX3_placesInAll ∈ tg_T := tg_mem 778 (by decide +kernel) rfl
theorem parX3_placesInAll : (parseMethodDescriptor mX3_placesInAll.1.desc).map (fun d => d.parameters.length) = some 0 := by decide +kernel
def mX4_init : tg_M := (yX4_init, cX4_init, 1, none, { frames := 1, cells := 1, slots := 16, locals := 20 })
theorem okX4_init : tg_ok mX4_init := ⟨tg_mem 175 (by decide +kernel) rfl, iniX4, by decide, by decide, by decide⟩
theorem insX4_init : Cond.instanceMethod yX4_init ∈ tg_T := tg_mem 174 (by decide +kernel) rfl
theorem parX4_init : (parseMethodDescriptor mX4_init.1.desc).map (fun d => d.parameters.length) = some 0 := by decide +kernel
def mX4_isOrder : tg_M := (yX4_isOrder, cX4_isOrder, 6, (some .boolean), { frames := 0, cells := 0, slots := 0, locals := 0 })
theorem okX4_isOrder : tg_ok mX4_isOrder := ⟨tg_mem 600 (by decide +kernel) rfl, iniX4, by decide, by decide, by decide⟩
theorem staX4_isOrder : Cond.static yX4_isOrder ∈ tg_T := tg_mem 599 (by decide +kernel) rfl
theorem parX4_isOrder : (parseMethodDescriptor mX4_isOrder.1.desc).map (fun d => d.parameters.length) = some 2 := by decide +kernel
def mX4_startWith : tg_M := (yX4_startWith, cX4_startWith, 4, none, { frames := 0, cells := 0, slots := 0, locals := 0 })
theorem okX4_startWith : tg_ok mX4_startWith := ⟨tg_mem 608 (by decide +kernel) rfl, iniX4, by decide, by decide, by decide⟩
theorem insX4_startWith : Cond.instanceMethod yX4_startWith ∈ tg_T := tg_mem 606 (by decide +kernel) rfl
theorem selX4_startWith : Cond.selects RX4 yX4_startWith yX4_startWith ∈ tg_T := tg_mem 607 (by decide +kernel) rfl
theorem parX4_startWith : (parseMethodDescriptor mX4_startWith.1.desc).map (fun d => d.parameters.length) = some 2 := by decide +kernel
def mX4_goInto : tg_M := (yX4_goInto, cX4_goInto, 3, none, { frames := 0, cells := 0, slots := 0, locals := 0 })
theorem okX4_goInto : tg_ok mX4_goInto := ⟨tg_mem 612 (by decide +kernel) rfl, iniX4, by decide, by decide, by decide⟩
theorem insX4_goInto : Cond.instanceMethod yX4_goInto ∈ tg_T := tg_mem 610 (by decide +kernel) rfl
theorem selX4_goInto : Cond.selects RX4 yX4_goInto yX4_goInto ∈ tg_T := tg_mem 611 (by decide +kernel) rfl
theorem parX4_goInto : (parseMethodDescriptor mX4_goInto.1.desc).map (fun d => d.parameters.length) = some 2 := by decide +kernel
def mX4_workBy : tg_M := (yX4_workBy, cX4_workBy, 7, (some .int), { frames := 0, cells := 0, slots := 0, locals := 0 })
theorem okX4_workBy : tg_ok mX4_workBy := ⟨tg_mem 616 (by decide +kernel) rfl, iniX4, by decide, by decide, by decide⟩
theorem insX4_workBy : Cond.instanceMethod yX4_workBy ∈ tg_T := tg_mem 614 (by decide +kernel) rfl
theorem selX4_workBy : Cond.selects RX4 yX4_workBy yX4_workBy ∈ tg_T := tg_mem 615 (by decide +kernel) rfl
theorem parX4_workBy : (parseMethodDescriptor mX4_workBy.1.desc).map (fun d => d.parameters.length) = some 1 := by decide +kernel
def mX4_bestOrder : tg_M := (yX4_bestOrder, cX4_bestOrder, 6, (some .int), { frames := 1, cells := 0, slots := 0, locals := 26 })
theorem okX4_bestOrder : tg_ok mX4_bestOrder := ⟨tg_mem 624 (by decide +kernel) rfl, iniX4, by decide, by decide, by decide⟩
theorem insX4_bestOrder : Cond.instanceMethod yX4_bestOrder ∈ tg_T := tg_mem 622 (by decide +kernel) rfl
theorem selX4_bestOrder : Cond.selects RX4 yX4_bestOrder yX4_bestOrder ∈ tg_T := tg_mem 623 (by decide +kernel) rfl
theorem parX4_bestOrder : (parseMethodDescriptor mX4_bestOrder.1.desc).map (fun d => d.parameters.length) = some 0 := by decide +kernel
def mX4_ordersOf : tg_M := (yX4_ordersOf, cX4_ordersOf, 1, (some (.array .int)), { frames := 0, cells := 0, slots := 0, locals := 0 })
theorem okX4_ordersOf : tg_ok mX4_ordersOf := ⟨tg_mem 627 (by decide +kernel) rfl, iniX4, by decide, by decide, by decide⟩
theorem staX4_ordersOf : Cond.static yX4_ordersOf ∈ tg_T := tg_mem 626 (by decide +kernel) rfl
theorem parX4_ordersOf : (parseMethodDescriptor mX4_ordersOf.1.desc).map (fun d => d.parameters.length) = some 1 := by decide +kernel
def mX5_init : tg_M := (yX5_init, cX5_init, 1, none, { frames := 1, cells := 4, slots := 32, locals := 20 })
theorem okX5_init : tg_ok mX5_init := ⟨tg_mem 232 (by decide +kernel) rfl, iniX5, by decide, by decide, by decide⟩
theorem insX5_init : Cond.instanceMethod yX5_init ∈ tg_T := tg_mem 231 (by decide +kernel) rfl
theorem parX5_init : (parseMethodDescriptor mX5_init.1.desc).map (fun d => d.parameters.length) = some 0 := by decide +kernel
def mX5_record : tg_M := (yX5_record, cX5_record, 5, none, { frames := 1, cells := 0, slots := 0, locals := 21 })
theorem okX5_record : tg_ok mX5_record := ⟨tg_mem 456 (by decide +kernel) rfl, iniX5, by decide, by decide, by decide⟩
theorem insX5_record : Cond.instanceMethod yX5_record ∈ tg_T := tg_mem 454 (by decide +kernel) rfl
theorem selX5_record : Cond.selects RX5 yX5_record yX5_record ∈ tg_T := tg_mem 455 (by decide +kernel) rfl
theorem parX5_record : (parseMethodDescriptor mX5_record.1.desc).map (fun d => d.parameters.length) = some 4 := by decide +kernel
def mX5_undoLatest : tg_M := (yX5_undoLatest, cX5_undoLatest, 2, none, { frames := 2, cells := 0, slots := 0, locals := 49 })
theorem okX5_undoLatest : tg_ok mX5_undoLatest := ⟨tg_mem 485 (by decide +kernel) rfl, iniX5, by decide, by decide, by decide⟩
theorem insX5_undoLatest : Cond.instanceMethod yX5_undoLatest ∈ tg_T := tg_mem 483 (by decide +kernel) rfl
theorem selX5_undoLatest : Cond.selects RX5 yX5_undoLatest yX5_undoLatest ∈ tg_T := tg_mem 484 (by decide +kernel) rfl
theorem parX5_undoLatest : (parseMethodDescriptor mX5_undoLatest.1.desc).map (fun d => d.parameters.length) = some 1 := by decide +kernel
def mX6_init : tg_M := (yX6_init, cX6_init, 2, none, { frames := 1, cells := 3, slots := 84, locals := 20 })
theorem okX6_init : tg_ok mX6_init := ⟨tg_mem 110 (by decide +kernel) rfl, iniX6, by decide, by decide, by decide⟩
theorem insX6_init : Cond.instanceMethod yX6_init ∈ tg_T := tg_mem 109 (by decide +kernel) rfl
theorem parX6_init : (parseMethodDescriptor mX6_init.1.desc).map (fun d => d.parameters.length) = some 0 := by decide +kernel
def mX6_startWith : tg_M := (yX6_startWith, cX6_startWith, 3, none, { frames := 1, cells := 0, slots := 0, locals := 26 })
theorem okX6_startWith : tg_ok mX6_startWith := ⟨tg_mem 418 (by decide +kernel) rfl, iniX6, by decide, by decide, by decide⟩
theorem insX6_startWith : Cond.instanceMethod yX6_startWith ∈ tg_T := tg_mem 416 (by decide +kernel) rfl
theorem selX6_startWith : Cond.selects RX6 yX6_startWith yX6_startWith ∈ tg_T := tg_mem 417 (by decide +kernel) rfl
theorem parX6_startWith : (parseMethodDescriptor mX6_startWith.1.desc).map (fun d => d.parameters.length) = some 2 := by decide +kernel
def mX6_copyFrom : tg_M := (yX6_copyFrom, cX6_copyFrom, 2, none, { frames := 1, cells := 0, slots := 0, locals := 26 })
theorem okX6_copyFrom : tg_ok mX6_copyFrom := ⟨tg_mem 328 (by decide +kernel) rfl, iniX6, by decide, by decide, by decide⟩
theorem insX6_copyFrom : Cond.instanceMethod yX6_copyFrom ∈ tg_T := tg_mem 326 (by decide +kernel) rfl
theorem selX6_copyFrom : Cond.selects RX6 yX6_copyFrom yX6_copyFrom ∈ tg_T := tg_mem 327 (by decide +kernel) rfl
theorem parX6_copyFrom : (parseMethodDescriptor mX6_copyFrom.1.desc).map (fun d => d.parameters.length) = some 1 := by decide +kernel
def mX6_hasEntry : tg_M := (yX6_hasEntry, cX6_hasEntry, 2, (some .boolean), { frames := 0, cells := 0, slots := 0, locals := 0 })
theorem okX6_hasEntry : tg_ok mX6_hasEntry := ⟨tg_mem 468 (by decide +kernel) rfl, iniX6, by decide, by decide, by decide⟩
theorem insX6_hasEntry : Cond.instanceMethod yX6_hasEntry ∈ tg_T := tg_mem 466 (by decide +kernel) rfl
theorem selX6_hasEntry : Cond.selects RX6 yX6_hasEntry yX6_hasEntry ∈ tg_T := tg_mem 467 (by decide +kernel) rfl
theorem parX6_hasEntry : (parseMethodDescriptor mX6_hasEntry.1.desc).map (fun d => d.parameters.length) = some 1 := by decide +kernel
def mX6_insert : tg_M := (yX6_insert, cX6_insert, 4, none, { frames := 1, cells := 0, slots := 0, locals := 26 })
theorem okX6_insert : tg_ok mX6_insert := ⟨tg_mem 432 (by decide +kernel) rfl, iniX6, by decide, by decide, by decide⟩
theorem insX6_insert : Cond.instanceMethod yX6_insert ∈ tg_T := tg_mem 430 (by decide +kernel) rfl
theorem selX6_insert : Cond.selects RX6 yX6_insert yX6_insert ∈ tg_T := tg_mem 431 (by decide +kernel) rfl
theorem parX6_insert : (parseMethodDescriptor mX6_insert.1.desc).map (fun d => d.parameters.length) = some 3 := by decide +kernel
def mX6_takeOut : tg_M := (yX6_takeOut, cX6_takeOut, 2, none, { frames := 1, cells := 0, slots := 0, locals := 26 })
theorem okX6_takeOut : tg_ok mX6_takeOut := ⟨tg_mem 472 (by decide +kernel) rfl, iniX6, by decide, by decide, by decide⟩
theorem insX6_takeOut : Cond.instanceMethod yX6_takeOut ∈ tg_T := tg_mem 470 (by decide +kernel) rfl
theorem selX6_takeOut : Cond.selects RX6 yX6_takeOut yX6_takeOut ∈ tg_T := tg_mem 471 (by decide +kernel) rfl
theorem parX6_takeOut : (parseMethodDescriptor mX6_takeOut.1.desc).map (fun d => d.parameters.length) = some 1 := by decide +kernel
def mX6_isCellCode : tg_M := (yX6_isCellCode, cX6_isCellCode, 2, (some .boolean), { frames := 1, cells := 0, slots := 0, locals := 25 })
theorem okX6_isCellCode : tg_ok mX6_isCellCode := ⟨tg_mem 507 (by decide +kernel) rfl, iniX6, by decide, by decide, by decide⟩
theorem insX6_isCellCode : Cond.instanceMethod yX6_isCellCode ∈ tg_T := tg_mem 505 (by decide +kernel) rfl
theorem selX6_isCellCode : Cond.selects RX6 yX6_isCellCode yX6_isCellCode ∈ tg_T := tg_mem 506 (by decide +kernel) rfl
theorem parX6_isCellCode : (parseMethodDescriptor mX6_isCellCode.1.desc).map (fun d => d.parameters.length) = some 1 := by decide +kernel
def mX6_isEntryCode : tg_M := (yX6_isEntryCode, cX6_isEntryCode, 2, (some .boolean), { frames := 1, cells := 0, slots := 0, locals := 25 })
theorem okX6_isEntryCode : tg_ok mX6_isEntryCode := ⟨tg_mem 448 (by decide +kernel) rfl, iniX6, by decide, by decide, by decide⟩
theorem insX6_isEntryCode : Cond.instanceMethod yX6_isEntryCode ∈ tg_T := tg_mem 446 (by decide +kernel) rfl
theorem selX6_isEntryCode : Cond.selects RX6 yX6_isEntryCode yX6_isEntryCode ∈ tg_T := tg_mem 447 (by decide +kernel) rfl
theorem parX6_isEntryCode : (parseMethodDescriptor mX6_isEntryCode.1.desc).map (fun d => d.parameters.length) = some 1 := by decide +kernel
def mX6_hasFigures : tg_M := (yX6_hasFigures, cX6_hasFigures, 6, (some .boolean), { frames := 0, cells := 0, slots := 0, locals := 0 })
theorem okX6_hasFigures : tg_ok mX6_hasFigures := ⟨tg_mem 452 (by decide +kernel) rfl, iniX6, by decide, by decide, by decide⟩
theorem insX6_hasFigures : Cond.instanceMethod yX6_hasFigures ∈ tg_T := tg_mem 451 (by decide +kernel) rfl
theorem selX6_hasFigures : Cond.selects RX6 yX6_hasFigures yX6_hasFigures ∈ tg_T := tg_mem 4 (by decide +kernel) rfl
theorem parX6_hasFigures : (parseMethodDescriptor mX6_hasFigures.1.desc).map (fun d => d.parameters.length) = some 2 := by decide +kernel
def mX6_valueFigures : tg_M := (yX6_valueFigures, cX6_valueFigures, 3, (some .int), { frames := 0, cells := 0, slots := 0, locals := 0 })
theorem okX6_valueFigures : tg_ok mX6_valueFigures := ⟨tg_mem 775 (by decide +kernel) rfl, iniX6, by decide, by decide, by decide⟩
theorem insX6_valueFigures : Cond.instanceMethod yX6_valueFigures ∈ tg_T := tg_mem 773 (by decide +kernel) rfl
theorem selX6_valueFigures : Cond.selects RX6 yX6_valueFigures yX6_valueFigures ∈ tg_T := tg_mem 774 (by decide +kernel) rfl
theorem parX6_valueFigures : (parseMethodDescriptor mX6_valueFigures.1.desc).map (fun d => d.parameters.length) = some 0 := by decide +kernel
def mX6_sumOf : tg_M := (yX6_sumOf, cX6_sumOf, 5, (some .int), { frames := 1, cells := 0, slots := 0, locals := 22 })
theorem okX6_sumOf : tg_ok mX6_sumOf := ⟨tg_mem 561 (by decide +kernel) rfl, iniX6, by decide, by decide, by decide⟩
theorem insX6_sumOf : Cond.instanceMethod yX6_sumOf ∈ tg_T := tg_mem 559 (by decide +kernel) rfl
theorem selX6_sumOf : Cond.selects RX6 yX6_sumOf yX6_sumOf ∈ tg_T := tg_mem 560 (by decide +kernel) rfl
theorem parX6_sumOf : (parseMethodDescriptor mX6_sumOf.1.desc).map (fun d => d.parameters.length) = some 1 := by decide +kernel
def mX6_leastOf : tg_M := (yX6_leastOf, cX6_leastOf, 5, (some .int), { frames := 1, cells := 0, slots := 0, locals := 22 })
theorem okX6_leastOf : tg_ok mX6_leastOf := ⟨tg_mem 568 (by decide +kernel) rfl, iniX6, by decide, by decide, by decide⟩
theorem insX6_leastOf : Cond.instanceMethod yX6_leastOf ∈ tg_T := tg_mem 566 (by decide +kernel) rfl
theorem selX6_leastOf : Cond.selects RX6 yX6_leastOf yX6_leastOf ∈ tg_T := tg_mem 567 (by decide +kernel) rfl
theorem parX6_leastOf : (parseMethodDescriptor mX6_leastOf.1.desc).map (fun d => d.parameters.length) = some 1 := by decide +kernel
def mX6_greatestOf : tg_M := (yX6_greatestOf, cX6_greatestOf, 5, (some .int), { frames := 1, cells := 0, slots := 0, locals := 22 })
theorem okX6_greatestOf : tg_ok mX6_greatestOf := ⟨tg_mem 573 (by decide +kernel) rfl, iniX6, by decide, by decide, by decide⟩
theorem insX6_greatestOf : Cond.instanceMethod yX6_greatestOf ∈ tg_T := tg_mem 571 (by decide +kernel) rfl
theorem selX6_greatestOf : Cond.selects RX6 yX6_greatestOf yX6_greatestOf ∈ tg_T := tg_mem 572 (by decide +kernel) rfl
theorem parX6_greatestOf : (parseMethodDescriptor mX6_greatestOf.1.desc).map (fun d => d.parameters.length) = some 1 := by decide +kernel
def mX6_isIn : tg_M := (yX6_isIn, cX6_isIn, 3, (some .boolean), { frames := 0, cells := 0, slots := 0, locals := 0 })
theorem okX6_isIn : tg_ok mX6_isIn := ⟨tg_mem 564 (by decide +kernel) rfl, iniX6, by decide, by decide, by decide⟩
theorem staX6_isIn : Cond.static yX6_isIn ∈ tg_T := tg_mem 563 (by decide +kernel) rfl
theorem parX6_isIn : (parseMethodDescriptor mX6_isIn.1.desc).map (fun d => d.parameters.length) = some 2 := by decide +kernel
def mX7_init : tg_M := (yX7_init, cX7_init, 1, none, { frames := 1, cells := 1, slots := 200, locals := 20 })
theorem okX7_init : tg_ok mX7_init := ⟨tg_mem 88 (by decide +kernel) rfl, iniX7, by decide, by decide, by decide⟩
theorem insX7_init : Cond.instanceMethod yX7_init ∈ tg_T := tg_mem 87 (by decide +kernel) rfl
theorem parX7_init : (parseMethodDescriptor mX7_init.1.desc).map (fun d => d.parameters.length) = some 0 := by decide +kernel
def mX7_append : tg_M := (yX7_append, cX7_append, 2, (some .boolean), { frames := 0, cells := 0, slots := 0, locals := 0 })
theorem okX7_append : tg_ok mX7_append := ⟨tg_mem 312 (by decide +kernel) rfl, iniX7, by decide, by decide, by decide⟩
theorem insX7_append : Cond.instanceMethod yX7_append ∈ tg_T := tg_mem 310 (by decide +kernel) rfl
theorem selX7_append : Cond.selects RX7 yX7_append yX7_append ∈ tg_T := tg_mem 311 (by decide +kernel) rfl
theorem parX7_append : (parseMethodDescriptor mX7_append.1.desc).map (fun d => d.parameters.length) = some 1 := by decide +kernel
def mX7_rewind : tg_M := (yX7_rewind, cX7_rewind, 1, none, { frames := 0, cells := 0, slots := 0, locals := 0 })
theorem okX7_rewind : tg_ok mX7_rewind := ⟨tg_mem 335 (by decide +kernel) rfl, iniX7, by decide, by decide, by decide⟩
theorem insX7_rewind : Cond.instanceMethod yX7_rewind ∈ tg_T := tg_mem 333 (by decide +kernel) rfl
theorem selX7_rewind : Cond.selects RX7 yX7_rewind yX7_rewind ∈ tg_T := tg_mem 334 (by decide +kernel) rfl
theorem parX7_rewind : (parseMethodDescriptor mX7_rewind.1.desc).map (fun d => d.parameters.length) = some 0 := by decide +kernel
def mX7_toNextToken : tg_M := (yX7_toNextToken, cX7_toNextToken, 1, none, { frames := 1, cells := 0, slots := 0, locals := 20 })
theorem okX7_toNextToken : tg_ok mX7_toNextToken := ⟨tg_mem 339 (by decide +kernel) rfl, iniX7, by decide, by decide, by decide⟩
theorem insX7_toNextToken : Cond.instanceMethod yX7_toNextToken ∈ tg_T := tg_mem 337 (by decide +kernel) rfl
theorem selX7_toNextToken : Cond.selects RX7 yX7_toNextToken yX7_toNextToken ∈ tg_T := tg_mem 338 (by decide +kernel) rfl
theorem parX7_toNextToken : (parseMethodDescriptor mX7_toNextToken.1.desc).map (fun d => d.parameters.length) = some 0 := by decide +kernel
def mX7_isAtEnd : tg_M := (yX7_isAtEnd, cX7_isAtEnd, 1, (some .boolean), { frames := 0, cells := 0, slots := 0, locals := 0 })
theorem okX7_isAtEnd : tg_ok mX7_isAtEnd := ⟨tg_mem 414 (by decide +kernel) rfl, iniX7, by decide, by decide, by decide⟩
theorem insX7_isAtEnd : Cond.instanceMethod yX7_isAtEnd ∈ tg_T := tg_mem 412 (by decide +kernel) rfl
theorem selX7_isAtEnd : Cond.selects RX7 yX7_isAtEnd yX7_isAtEnd ∈ tg_T := tg_mem 413 (by decide +kernel) rfl
theorem parX7_isAtEnd : (parseMethodDescriptor mX7_isAtEnd.1.desc).map (fun d => d.parameters.length) = some 0 := by decide +kernel
def mX7_isToken : tg_M := (yX7_isToken, cX7_isToken, 3, (some .boolean), { frames := 5, cells := 0, slots := 0, locals := 106 })
theorem okX7_isToken : tg_ok mX7_isToken := ⟨tg_mem 354 (by decide +kernel) rfl, iniX7, by decide, by decide, by decide⟩
theorem insX7_isToken : Cond.instanceMethod yX7_isToken ∈ tg_T := tg_mem 352 (by decide +kernel) rfl
theorem selX7_isToken : Cond.selects RX7 yX7_isToken yX7_isToken ∈ tg_T := tg_mem 353 (by decide +kernel) rfl
theorem parX7_isToken : (parseMethodDescriptor mX7_isToken.1.desc).map (fun d => d.parameters.length) = some 1 := by decide +kernel
def mX7_numberWithin : tg_M := (yX7_numberWithin, cX7_numberWithin, 5, (some .int), { frames := 1, cells := 0, slots := 0, locals := 20 })
theorem okX7_numberWithin : tg_ok mX7_numberWithin := ⟨tg_mem 410 (by decide +kernel) rfl, iniX7, by decide, by decide, by decide⟩
theorem insX7_numberWithin : Cond.instanceMethod yX7_numberWithin ∈ tg_T := tg_mem 408 (by decide +kernel) rfl
theorem selX7_numberWithin : Cond.selects RX7 yX7_numberWithin yX7_numberWithin ∈ tg_T := tg_mem 409 (by decide +kernel) rfl
theorem parX7_numberWithin : (parseMethodDescriptor mX7_numberWithin.1.desc).map (fun d => d.parameters.length) = some 2 := by decide +kernel
def mX7_isSmall : tg_M := (yX7_isSmall, cX7_isSmall, 1, (some .boolean), { frames := 0, cells := 0, slots := 0, locals := 0 })
theorem okX7_isSmall : tg_ok mX7_isSmall := ⟨tg_mem 342 (by decide +kernel) rfl, iniX7, by decide, by decide, by decide⟩
theorem staX7_isSmall : Cond.static yX7_isSmall ∈ tg_T := tg_mem 341 (by decide +kernel) rfl
theorem parX7_isSmall : (parseMethodDescriptor mX7_isSmall.1.desc).map (fun d => d.parameters.length) = some 1 := by decide +kernel
def mX7_isDigit : tg_M := (yX7_isDigit, cX7_isDigit, 1, (some .boolean), { frames := 0, cells := 0, slots := 0, locals := 0 })
theorem okX7_isDigit : tg_ok mX7_isDigit := ⟨tg_mem 345 (by decide +kernel) rfl, iniX7, by decide, by decide, by decide⟩
theorem staX7_isDigit : Cond.static yX7_isDigit ∈ tg_T := tg_mem 344 (by decide +kernel) rfl
theorem parX7_isDigit : (parseMethodDescriptor mX7_isDigit.1.desc).map (fun d => d.parameters.length) = some 1 := by decide +kernel
def mX8_init : tg_M := (yX8_init, cX8_init, 2, none, { frames := 3, cells := 45, slots := 4011, locals := 61 })
theorem okX8_init : tg_ok mX8_init := ⟨tg_mem 74 (by decide +kernel) rfl, iniX8, by decide, by decide, by decide⟩
theorem insX8_init : Cond.instanceMethod yX8_init ∈ tg_T := tg_mem 73 (by decide +kernel) rfl
theorem parX8_init : (parseMethodDescriptor mX8_init.1.desc).map (fun d => d.parameters.length) = some 0 := by decide +kernel
def mX8_write : tg_M := (yX8_write, cX8_write, 2, (some .int), { frames := 1, cells := 0, slots := 0, locals := 21 })
theorem okX8_write : tg_ok mX8_write := ⟨tg_mem 308 (by decide +kernel) rfl, iniX8, by decide, by decide, by decide⟩
theorem insX8_write : Cond.instanceMethod yX8_write ∈ tg_T := tg_mem 306 (by decide +kernel) rfl
theorem selX8_write : Cond.selects RX8 yX8_write yX8_write ∈ tg_T := tg_mem 307 (by decide +kernel) rfl
theorem parX8_write : (parseMethodDescriptor mX8_write.1.desc).map (fun d => d.parameters.length) = some 1 := by decide +kernel
def mX8_erase : tg_M := (yX8_erase, cX8_erase, 2, (some .int), { frames := 0, cells := 0, slots := 0, locals := 0 })
theorem okX8_erase : tg_ok mX8_erase := ⟨tg_mem 316 (by decide +kernel) rfl, iniX8, by decide, by decide, by decide⟩
theorem insX8_erase : Cond.instanceMethod yX8_erase ∈ tg_T := tg_mem 314 (by decide +kernel) rfl
theorem selX8_erase : Cond.selects RX8 yX8_erase yX8_erase ∈ tg_T := tg_mem 315 (by decide +kernel) rfl
theorem parX8_erase : (parseMethodDescriptor mX8_erase.1.desc).map (fun d => d.parameters.length) = some 0 := by decide +kernel
def mX8_fault : tg_M := (yX8_fault, cX8_fault, 1, (some .int), { frames := 8, cells := 0, slots := 0, locals := 169 })
theorem okX8_fault : tg_ok mX8_fault := ⟨tg_mem 320 (by decide +kernel) rfl, iniX8, by decide, by decide, by decide⟩
theorem insX8_fault : Cond.instanceMethod yX8_fault ∈ tg_T := tg_mem 318 (by decide +kernel) rfl
theorem selX8_fault : Cond.selects RX8 yX8_fault yX8_fault ∈ tg_T := tg_mem 319 (by decide +kernel) rfl
theorem parX8_fault : (parseMethodDescriptor mX8_fault.1.desc).map (fun d => d.parameters.length) = some 0 := by decide +kernel
def mX8_read : tg_M := (yX8_read, cX8_read, 2, (some .int), { frames := 8, cells := 0, slots := 0, locals := 169 })
theorem okX8_read : tg_ok mX8_read := ⟨tg_mem 439 (by decide +kernel) rfl, iniX8, by decide, by decide, by decide⟩
theorem insX8_read : Cond.instanceMethod yX8_read ∈ tg_T := tg_mem 437 (by decide +kernel) rfl
theorem selX8_read : Cond.selects RX8 yX8_read yX8_read ∈ tg_T := tg_mem 438 (by decide +kernel) rfl
theorem parX8_read : (parseMethodDescriptor mX8_read.1.desc).map (fun d => d.parameters.length) = some 0 := by decide +kernel
def mX8_add : tg_M := (yX8_add, cX8_add, 3, (some .int), { frames := 2, cells := 0, slots := 0, locals := 49 })
theorem okX8_add : tg_ok mX8_add := ⟨tg_mem 444 (by decide +kernel) rfl, iniX8, by decide, by decide, by decide⟩
theorem insX8_add : Cond.instanceMethod yX8_add ∈ tg_T := tg_mem 442 (by decide +kernel) rfl
theorem selX8_add : Cond.selects RX8 yX8_add yX8_add ∈ tg_T := tg_mem 443 (by decide +kernel) rfl
theorem parX8_add : (parseMethodDescriptor mX8_add.1.desc).map (fun d => d.parameters.length) = some 2 := by decide +kernel
def mX8_remove : tg_M := (yX8_remove, cX8_remove, 2, (some .int), { frames := 2, cells := 0, slots := 0, locals := 47 })
theorem okX8_remove : tg_ok mX8_remove := ⟨tg_mem 464 (by decide +kernel) rfl, iniX8, by decide, by decide, by decide⟩
theorem insX8_remove : Cond.instanceMethod yX8_remove ∈ tg_T := tg_mem 462 (by decide +kernel) rfl
theorem selX8_remove : Cond.selects RX8 yX8_remove yX8_remove ∈ tg_T := tg_mem 463 (by decide +kernel) rfl
theorem parX8_remove : (parseMethodDescriptor mX8_remove.1.desc).map (fun d => d.parameters.length) = some 1 := by decide +kernel
def mX8_support : tg_M := (yX8_support, cX8_support, 3, (some .int), { frames := 2, cells := 0, slots := 0, locals := 45 })
theorem okX8_support : tg_ok mX8_support := ⟨tg_mem 477 (by decide +kernel) rfl, iniX8, by decide, by decide, by decide⟩
theorem insX8_support : Cond.instanceMethod yX8_support ∈ tg_T := tg_mem 475 (by decide +kernel) rfl
theorem selX8_support : Cond.selects RX8 yX8_support yX8_support ∈ tg_T := tg_mem 476 (by decide +kernel) rfl
theorem parX8_support : (parseMethodDescriptor mX8_support.1.desc).map (fun d => d.parameters.length) = some 1 := by decide +kernel
def mX8_undo : tg_M := (yX8_undo, cX8_undo, 1, (some .int), { frames := 3, cells := 0, slots := 0, locals := 70 })
theorem okX8_undo : tg_ok mX8_undo := ⟨tg_mem 481 (by decide +kernel) rfl, iniX8, by decide, by decide, by decide⟩
theorem insX8_undo : Cond.instanceMethod yX8_undo ∈ tg_T := tg_mem 479 (by decide +kernel) rfl
theorem selX8_undo : Cond.selects RX8 yX8_undo yX8_undo ∈ tg_T := tg_mem 480 (by decide +kernel) rfl
theorem parX8_undo : (parseMethodDescriptor mX8_undo.1.desc).map (fun d => d.parameters.length) = some 0 := by decide +kernel
def mX8_keep : tg_M := (yX8_keep, cX8_keep, 2, (some .int), { frames := 2, cells := 0, slots := 0, locals := 47 })
theorem okX8_keep : tg_ok mX8_keep := ⟨tg_mem 491 (by decide +kernel) rfl, iniX8, by decide, by decide, by decide⟩
theorem insX8_keep : Cond.instanceMethod yX8_keep ∈ tg_T := tg_mem 489 (by decide +kernel) rfl
theorem selX8_keep : Cond.selects RX8 yX8_keep yX8_keep ∈ tg_T := tg_mem 490 (by decide +kernel) rfl
theorem parX8_keep : (parseMethodDescriptor mX8_keep.1.desc).map (fun d => d.parameters.length) = some 1 := by decide +kernel
def mX8_back : tg_M := (yX8_back, cX8_back, 2, (some .int), { frames := 2, cells := 0, slots := 0, locals := 47 })
theorem okX8_back : tg_ok mX8_back := ⟨tg_mem 495 (by decide +kernel) rfl, iniX8, by decide, by decide, by decide⟩
theorem insX8_back : Cond.instanceMethod yX8_back ∈ tg_T := tg_mem 493 (by decide +kernel) rfl
theorem selX8_back : Cond.selects RX8 yX8_back yX8_back ∈ tg_T := tg_mem 494 (by decide +kernel) rfl
theorem parX8_back : (parseMethodDescriptor mX8_back.1.desc).map (fun d => d.parameters.length) = some 1 := by decide +kernel
def mX8_entry : tg_M := (yX8_entry, cX8_entry, 3, (some .int), { frames := 1, cells := 0, slots := 0, locals := 21 })
theorem okX8_entry : tg_ok mX8_entry := ⟨tg_mem 499 (by decide +kernel) rfl, iniX8, by decide, by decide, by decide⟩
theorem insX8_entry : Cond.instanceMethod yX8_entry ∈ tg_T := tg_mem 497 (by decide +kernel) rfl
theorem selX8_entry : Cond.selects RX8 yX8_entry yX8_entry ∈ tg_T := tg_mem 498 (by decide +kernel) rfl
theorem parX8_entry : (parseMethodDescriptor mX8_entry.1.desc).map (fun d => d.parameters.length) = some 2 := by decide +kernel
def mX8_cell : tg_M := (yX8_cell, cX8_cell, 5, (some .int), { frames := 6, cells := 0, slots := 0, locals := 137 })
theorem okX8_cell : tg_ok mX8_cell := ⟨tg_mem 503 (by decide +kernel) rfl, iniX8, by decide, by decide, by decide⟩
theorem insX8_cell : Cond.instanceMethod yX8_cell ∈ tg_T := tg_mem 501 (by decide +kernel) rfl
theorem selX8_cell : Cond.selects RX8 yX8_cell yX8_cell ∈ tg_T := tg_mem 502 (by decide +kernel) rfl
theorem parX8_cell : (parseMethodDescriptor mX8_cell.1.desc).map (fun d => d.parameters.length) = some 2 := by decide +kernel
def mX8_closure : tg_M := (yX8_closure, cX8_closure, 3, (some .int), { frames := 6, cells := 0, slots := 0, locals := 137 })
theorem okX8_closure : tg_ok mX8_closure := ⟨tg_mem 580 (by decide +kernel) rfl, iniX8, by decide, by decide, by decide⟩
theorem insX8_closure : Cond.instanceMethod yX8_closure ∈ tg_T := tg_mem 578 (by decide +kernel) rfl
theorem selX8_closure : Cond.selects RX8 yX8_closure yX8_closure ∈ tg_T := tg_mem 579 (by decide +kernel) rfl
theorem parX8_closure : (parseMethodDescriptor mX8_closure.1.desc).map (fun d => d.parameters.length) = some 1 := by decide +kernel
def mX8_kept : tg_M := (yX8_kept, cX8_kept, 2, (some .int), { frames := 6, cells := 0, slots := 0, locals := 137 })
theorem okX8_kept : tg_ok mX8_kept := ⟨tg_mem 585 (by decide +kernel) rfl, iniX8, by decide, by decide, by decide⟩
theorem insX8_kept : Cond.instanceMethod yX8_kept ∈ tg_T := tg_mem 583 (by decide +kernel) rfl
theorem selX8_kept : Cond.selects RX8 yX8_kept yX8_kept ∈ tg_T := tg_mem 584 (by decide +kernel) rfl
theorem parX8_kept : (parseMethodDescriptor mX8_kept.1.desc).map (fun d => d.parameters.length) = some 1 := by decide +kernel
def mX8_ask : tg_M := (yX8_ask, cX8_ask, 6, (some .int), { frames := 6, cells := 0, slots := 0, locals := 137 })
theorem okX8_ask : tg_ok mX8_ask := ⟨tg_mem 593 (by decide +kernel) rfl, iniX8, by decide, by decide, by decide⟩
theorem insX8_ask : Cond.instanceMethod yX8_ask ∈ tg_T := tg_mem 591 (by decide +kernel) rfl
theorem selX8_ask : Cond.selects RX8 yX8_ask yX8_ask ∈ tg_T := tg_mem 592 (by decide +kernel) rfl
theorem parX8_ask : (parseMethodDescriptor mX8_ask.1.desc).map (fun d => d.parameters.length) = some 2 := by decide +kernel
def mX8_part : tg_M := (yX8_part, cX8_part, 4, (some .int), { frames := 6, cells := 0, slots := 0, locals := 137 })
theorem okX8_part : tg_ok mX8_part := ⟨tg_mem 597 (by decide +kernel) rfl, iniX8, by decide, by decide, by decide⟩
theorem insX8_part : Cond.instanceMethod yX8_part ∈ tg_T := tg_mem 595 (by decide +kernel) rfl
theorem selX8_part : Cond.selects RX8 yX8_part yX8_part ∈ tg_T := tg_mem 596 (by decide +kernel) rfl
theorem parX8_part : (parseMethodDescriptor mX8_part.1.desc).map (fun d => d.parameters.length) = some 2 := by decide +kernel
def mX8_best : tg_M := (yX8_best, cX8_best, 4, (some .int), { frames := 6, cells := 0, slots := 0, locals := 137 })
theorem okX8_best : tg_ok mX8_best := ⟨tg_mem 620 (by decide +kernel) rfl, iniX8, by decide, by decide, by decide⟩
theorem insX8_best : Cond.instanceMethod yX8_best ∈ tg_T := tg_mem 618 (by decide +kernel) rfl
theorem selX8_best : Cond.selects RX8 yX8_best yX8_best ∈ tg_T := tg_mem 619 (by decide +kernel) rfl
theorem parX8_best : (parseMethodDescriptor mX8_best.1.desc).map (fun d => d.parameters.length) = some 1 := by decide +kernel
def mX8_more : tg_M := (yX8_more, cX8_more, 5, (some .int), { frames := 6, cells := 0, slots := 0, locals := 137 })
theorem okX8_more : tg_ok mX8_more := ⟨tg_mem 640 (by decide +kernel) rfl, iniX8, by decide, by decide, by decide⟩
theorem insX8_more : Cond.instanceMethod yX8_more ∈ tg_T := tg_mem 638 (by decide +kernel) rfl
theorem selX8_more : Cond.selects RX8 yX8_more yX8_more ∈ tg_T := tg_mem 639 (by decide +kernel) rfl
theorem parX8_more : (parseMethodDescriptor mX8_more.1.desc).map (fun d => d.parameters.length) = some 2 := by decide +kernel
def mX8_less : tg_M := (yX8_less, cX8_less, 5, (some .int), { frames := 6, cells := 0, slots := 0, locals := 137 })
theorem okX8_less : tg_ok mX8_less := ⟨tg_mem 665 (by decide +kernel) rfl, iniX8, by decide, by decide, by decide⟩
theorem insX8_less : Cond.instanceMethod yX8_less ∈ tg_T := tg_mem 663 (by decide +kernel) rfl
theorem selX8_less : Cond.selects RX8 yX8_less yX8_less ∈ tg_T := tg_mem 664 (by decide +kernel) rfl
theorem parX8_less : (parseMethodDescriptor mX8_less.1.desc).map (fun d => d.parameters.length) = some 2 := by decide +kernel
def mX8_cap : tg_M := (yX8_cap, cX8_cap, 2, (some .int), { frames := 6, cells := 0, slots := 0, locals := 137 })
theorem okX8_cap : tg_ok mX8_cap := ⟨tg_mem 673 (by decide +kernel) rfl, iniX8, by decide, by decide, by decide⟩
theorem insX8_cap : Cond.instanceMethod yX8_cap ∈ tg_T := tg_mem 671 (by decide +kernel) rfl
theorem selX8_cap : Cond.selects RX8 yX8_cap yX8_cap ∈ tg_T := tg_mem 672 (by decide +kernel) rfl
theorem parX8_cap : (parseMethodDescriptor mX8_cap.1.desc).map (fun d => d.parameters.length) = some 1 := by decide +kernel
def mX8_key : tg_M := (yX8_key, cX8_key, 1, (some .int), { frames := 6, cells := 0, slots := 0, locals := 137 })
theorem okX8_key : tg_ok mX8_key := ⟨tg_mem 682 (by decide +kernel) rfl, iniX8, by decide, by decide, by decide⟩
theorem insX8_key : Cond.instanceMethod yX8_key ∈ tg_T := tg_mem 680 (by decide +kernel) rfl
theorem selX8_key : Cond.selects RX8 yX8_key yX8_key ∈ tg_T := tg_mem 681 (by decide +kernel) rfl
theorem parX8_key : (parseMethodDescriptor mX8_key.1.desc).map (fun d => d.parameters.length) = some 0 := by decide +kernel
def mX8_rule : tg_M := (yX8_rule, cX8_rule, 3, (some .int), { frames := 6, cells := 0, slots := 0, locals := 137 })
theorem okX8_rule : tg_ok mX8_rule := ⟨tg_mem 696 (by decide +kernel) rfl, iniX8, by decide, by decide, by decide⟩
theorem insX8_rule : Cond.instanceMethod yX8_rule ∈ tg_T := tg_mem 694 (by decide +kernel) rfl
theorem selX8_rule : Cond.selects RX8 yX8_rule yX8_rule ∈ tg_T := tg_mem 695 (by decide +kernel) rfl
theorem parX8_rule : (parseMethodDescriptor mX8_rule.1.desc).map (fun d => d.parameters.length) = some 2 := by decide +kernel
def mX8_row : tg_M := (yX8_row, cX8_row, 3, (some .int), { frames := 2, cells := 0, slots := 0, locals := 43 })
theorem okX8_row : tg_ok mX8_row := ⟨tg_mem 704 (by decide +kernel) rfl, iniX8, by decide, by decide, by decide⟩
theorem insX8_row : Cond.instanceMethod yX8_row ∈ tg_T := tg_mem 702 (by decide +kernel) rfl
theorem selX8_row : Cond.selects RX8 yX8_row yX8_row ∈ tg_T := tg_mem 703 (by decide +kernel) rfl
theorem parX8_row : (parseMethodDescriptor mX8_row.1.desc).map (fun d => d.parameters.length) = some 2 := by decide +kernel
def mX8_set : tg_M := (yX8_set, cX8_set, 4, (some .int), { frames := 4, cells := 0, slots := 0, locals := 88 })
theorem okX8_set : tg_ok mX8_set := ⟨tg_mem 716 (by decide +kernel) rfl, iniX8, by decide, by decide, by decide⟩
theorem insX8_set : Cond.instanceMethod yX8_set ∈ tg_T := tg_mem 714 (by decide +kernel) rfl
theorem selX8_set : Cond.selects RX8 yX8_set yX8_set ∈ tg_T := tg_mem 715 (by decide +kernel) rfl
theorem parX8_set : (parseMethodDescriptor mX8_set.1.desc).map (fun d => d.parameters.length) = some 3 := by decide +kernel
def mX8_work : tg_M := (yX8_work, cX8_work, 8, (some .int), { frames := 3, cells := 0, slots := 0, locals := 63 })
theorem okX8_work : tg_ok mX8_work := ⟨tg_mem 732 (by decide +kernel) rfl, iniX8, by decide, by decide, by decide⟩
theorem insX8_work : Cond.instanceMethod yX8_work ∈ tg_T := tg_mem 730 (by decide +kernel) rfl
theorem selX8_work : Cond.selects RX8 yX8_work yX8_work ∈ tg_T := tg_mem 731 (by decide +kernel) rfl
theorem parX8_work : (parseMethodDescriptor mX8_work.1.desc).map (fun d => d.parameters.length) = some 4 := by decide +kernel
def mX8_bits : tg_M := (yX8_bits, cX8_bits, 4, (some .int), { frames := 3, cells := 0, slots := 0, locals := 63 })
theorem okX8_bits : tg_ok mX8_bits := ⟨tg_mem 746 (by decide +kernel) rfl, iniX8, by decide, by decide, by decide⟩
theorem insX8_bits : Cond.instanceMethod yX8_bits ∈ tg_T := tg_mem 744 (by decide +kernel) rfl
theorem selX8_bits : Cond.selects RX8 yX8_bits yX8_bits ∈ tg_T := tg_mem 745 (by decide +kernel) rfl
theorem parX8_bits : (parseMethodDescriptor mX8_bits.1.desc).map (fun d => d.parameters.length) = some 2 := by decide +kernel
def mX8_sum : tg_M := (yX8_sum, cX8_sum, 7, (some .int), { frames := 2, cells := 0, slots := 0, locals := 50 })
theorem okX8_sum : tg_ok mX8_sum := ⟨tg_mem 750 (by decide +kernel) rfl, iniX8, by decide, by decide, by decide⟩
theorem insX8_sum : Cond.instanceMethod yX8_sum ∈ tg_T := tg_mem 748 (by decide +kernel) rfl
theorem selX8_sum : Cond.selects RX8 yX8_sum yX8_sum ∈ tg_T := tg_mem 749 (by decide +kernel) rfl
theorem parX8_sum : (parseMethodDescriptor mX8_sum.1.desc).map (fun d => d.parameters.length) = some 1 := by decide +kernel
def mX8_load : tg_M := (yX8_load, cX8_load, 4, (some .int), { frames := 6, cells := 0, slots := 0, locals := 137 })
theorem okX8_load : tg_ok mX8_load := ⟨tg_mem 755 (by decide +kernel) rfl, iniX8, by decide, by decide, by decide⟩
theorem insX8_load : Cond.instanceMethod yX8_load ∈ tg_T := tg_mem 753 (by decide +kernel) rfl
theorem selX8_load : Cond.selects RX8 yX8_load yX8_load ∈ tg_T := tg_mem 754 (by decide +kernel) rfl
theorem parX8_load : (parseMethodDescriptor mX8_load.1.desc).map (fun d => d.parameters.length) = some 3 := by decide +kernel
def mX8_drop : tg_M := (yX8_drop, cX8_drop, 3, (some .int), { frames := 2, cells := 0, slots := 0, locals := 41 })
theorem okX8_drop : tg_ok mX8_drop := ⟨tg_mem 759 (by decide +kernel) rfl, iniX8, by decide, by decide, by decide⟩
theorem insX8_drop : Cond.instanceMethod yX8_drop ∈ tg_T := tg_mem 757 (by decide +kernel) rfl
theorem selX8_drop : Cond.selects RX8 yX8_drop yX8_drop ∈ tg_T := tg_mem 758 (by decide +kernel) rfl
theorem parX8_drop : (parseMethodDescriptor mX8_drop.1.desc).map (fun d => d.parameters.length) = some 1 := by decide +kernel
def mX8_asked : tg_M := (yX8_asked, cX8_asked, 1, (some .long), { frames := 0, cells := 0, slots := 0, locals := 0 })
theorem okX8_asked : tg_ok mX8_asked := ⟨tg_mem 763 (by decide +kernel) rfl, iniX8, by decide, by decide, by decide⟩
theorem insX8_asked : Cond.instanceMethod yX8_asked ∈ tg_T := tg_mem 761 (by decide +kernel) rfl
theorem selX8_asked : Cond.selects RX8 yX8_asked yX8_asked ∈ tg_T := tg_mem 762 (by decide +kernel) rfl
theorem parX8_asked : (parseMethodDescriptor mX8_asked.1.desc).map (fun d => d.parameters.length) = some 0 := by decide +kernel
def mX8_count : tg_M := (yX8_count, cX8_count, 2, (some .int), { frames := 6, cells := 0, slots := 0, locals := 137 })
theorem okX8_count : tg_ok mX8_count := ⟨tg_mem 767 (by decide +kernel) rfl, iniX8, by decide, by decide, by decide⟩
theorem insX8_count : Cond.instanceMethod yX8_count ∈ tg_T := tg_mem 765 (by decide +kernel) rfl
theorem selX8_count : Cond.selects RX8 yX8_count yX8_count ∈ tg_T := tg_mem 766 (by decide +kernel) rfl
theorem parX8_count : (parseMethodDescriptor mX8_count.1.desc).map (fun d => d.parameters.length) = some 1 := by decide +kernel
def mX8_freshCells : tg_M := (yX8_freshCells, cX8_freshCells, 1, (some (.object "CubeClosures$Cells")), { frames := 5, cells := 0, slots := 0, locals := 117 })
theorem okX8_freshCells : tg_ok mX8_freshCells := ⟨tg_mem 511 (by decide +kernel) rfl, iniX8, by decide, by decide, by decide⟩
theorem insX8_freshCells : Cond.instanceMethod yX8_freshCells ∈ tg_T := tg_mem 510 (by decide +kernel) rfl
theorem selX8_freshCells : Cond.selects RX8 yX8_freshCells yX8_freshCells ∈ tg_T := tg_mem 5 (by decide +kernel) rfl
theorem parX8_freshCells : (parseMethodDescriptor mX8_freshCells.1.desc).map (fun d => d.parameters.length) = some 0 := by decide +kernel
def mX9_init : tg_M := (yX9_init, cX9_init, 1, none, { frames := 1, cells := 12, slots := 3691, locals := 20 })
theorem okX9_init : tg_ok mX9_init := ⟨tg_mem 785 (by decide +kernel) rfl, iniX9, by decide, by decide, by decide⟩
theorem insX9_init : Cond.instanceMethod yX9_init ∈ tg_T := tg_mem 784 (by decide +kernel) rfl
theorem parX9_init : (parseMethodDescriptor mX9_init.1.desc).map (fun d => d.parameters.length) = some 0 := by decide +kernel
def mX9_in : tg_M := (yX9_in, cX9_in, 6, (some .boolean), { frames := 0, cells := 0, slots := 0, locals := 0 })
theorem okX9_in : tg_ok mX9_in := ⟨tg_mem 885 (by decide +kernel) rfl, iniX9, by decide, by decide, by decide⟩
theorem staX9_in : Cond.static yX9_in ∈ tg_T := tg_mem 884 (by decide +kernel) rfl
theorem parX9_in : (parseMethodDescriptor mX9_in.1.desc).map (fun d => d.parameters.length) = some 3 := by decide +kernel
def mX9_has : tg_M := (yX9_has, cX9_has, 2, (some .boolean), { frames := 0, cells := 0, slots := 0, locals := 0 })
theorem okX9_has : tg_ok mX9_has := ⟨tg_mem 1109 (by decide +kernel) rfl, iniX9, by decide, by decide, by decide⟩
theorem staX9_has : Cond.static yX9_has ∈ tg_T := tg_mem 1108 (by decide +kernel) rfl
theorem parX9_has : (parseMethodDescriptor mX9_has.1.desc).map (fun d => d.parameters.length) = some 2 := by decide +kernel
def mX9_copyRow : tg_M := (yX9_copyRow, cX9_copyRow, 4, none, { frames := 0, cells := 0, slots := 0, locals := 0 })
theorem okX9_copyRow : tg_ok mX9_copyRow := ⟨tg_mem 981 (by decide +kernel) rfl, iniX9, by decide, by decide, by decide⟩
theorem insX9_copyRow : Cond.instanceMethod yX9_copyRow ∈ tg_T := tg_mem 980 (by decide +kernel) rfl
theorem selX9_copyRow : Cond.selects RX9 yX9_copyRow yX9_copyRow ∈ tg_T := tg_mem 30 (by decide +kernel) rfl
theorem parX9_copyRow : (parseMethodDescriptor mX9_copyRow.1.desc).map (fun d => d.parameters.length) = some 2 := by decide +kernel
def mX9_write : tg_M := (yX9_write, cX9_write, 2, (some .int), { frames := 1, cells := 0, slots := 0, locals := 25 })
theorem okX9_write : tg_ok mX9_write := ⟨tg_mem 881 (by decide +kernel) rfl, iniX9, by decide, by decide, by decide⟩
theorem insX9_write : Cond.instanceMethod yX9_write ∈ tg_T := tg_mem 879 (by decide +kernel) rfl
theorem selX9_write : Cond.selects RX9 yX9_write yX9_write ∈ tg_T := tg_mem 880 (by decide +kernel) rfl
theorem parX9_write : (parseMethodDescriptor mX9_write.1.desc).map (fun d => d.parameters.length) = some 1 := by decide +kernel
def mX9_erase : tg_M := (yX9_erase, cX9_erase, 2, (some .int), { frames := 0, cells := 0, slots := 0, locals := 0 })
theorem okX9_erase : tg_ok mX9_erase := ⟨tg_mem 889 (by decide +kernel) rfl, iniX9, by decide, by decide, by decide⟩
theorem insX9_erase : Cond.instanceMethod yX9_erase ∈ tg_T := tg_mem 887 (by decide +kernel) rfl
theorem selX9_erase : Cond.selects RX9 yX9_erase yX9_erase ∈ tg_T := tg_mem 888 (by decide +kernel) rfl
theorem parX9_erase : (parseMethodDescriptor mX9_erase.1.desc).map (fun d => d.parameters.length) = some 0 := by decide +kernel
def mX9_isLetter : tg_M := (yX9_isLetter, cX9_isLetter, 1, (some .boolean), { frames := 1, cells := 0, slots := 0, locals := 25 })
theorem okX9_isLetter : tg_ok mX9_isLetter := ⟨tg_mem 904 (by decide +kernel) rfl, iniX9, by decide, by decide, by decide⟩
theorem staX9_isLetter : Cond.static yX9_isLetter ∈ tg_T := tg_mem 903 (by decide +kernel) rfl
theorem parX9_isLetter : (parseMethodDescriptor mX9_isLetter.1.desc).map (fun d => d.parameters.length) = some 1 := by decide +kernel
def mX9_isDigit : tg_M := (yX9_isDigit, cX9_isDigit, 1, (some .boolean), { frames := 1, cells := 0, slots := 0, locals := 25 })
theorem okX9_isDigit : tg_ok mX9_isDigit := ⟨tg_mem 909 (by decide +kernel) rfl, iniX9, by decide, by decide, by decide⟩
theorem staX9_isDigit : Cond.static yX9_isDigit ∈ tg_T := tg_mem 908 (by decide +kernel) rfl
theorem parX9_isDigit : (parseMethodDescriptor mX9_isDigit.1.desc).map (fun d => d.parameters.length) = some 1 := by decide +kernel
def mX9_nextToken : tg_M := (yX9_nextToken, cX9_nextToken, 1, none, { frames := 2, cells := 0, slots := 0, locals := 45 })
theorem okX9_nextToken : tg_ok mX9_nextToken := ⟨tg_mem 901 (by decide +kernel) rfl, iniX9, by decide, by decide, by decide⟩
theorem insX9_nextToken : Cond.instanceMethod yX9_nextToken ∈ tg_T := tg_mem 900 (by decide +kernel) rfl
theorem selX9_nextToken : Cond.selects RX9 yX9_nextToken yX9_nextToken ∈ tg_T := tg_mem 15 (by decide +kernel) rfl
theorem parX9_nextToken : (parseMethodDescriptor mX9_nextToken.1.desc).map (fun d => d.parameters.length) = some 0 := by decide +kernel
def mX9_isWord : tg_M := (yX9_isWord, cX9_isWord, 4, (some .boolean), { frames := 0, cells := 0, slots := 0, locals := 0 })
theorem okX9_isWord : tg_ok mX9_isWord := ⟨tg_mem 923 (by decide +kernel) rfl, iniX9, by decide, by decide, by decide⟩
theorem insX9_isWord : Cond.instanceMethod yX9_isWord ∈ tg_T := tg_mem 922 (by decide +kernel) rfl
theorem selX9_isWord : Cond.selects RX9 yX9_isWord yX9_isWord ∈ tg_T := tg_mem 18 (by decide +kernel) rfl
theorem parX9_isWord : (parseMethodDescriptor mX9_isWord.1.desc).map (fun d => d.parameters.length) = some 1 := by decide +kernel
def mX9_readsNumber : tg_M := (yX9_readsNumber, cX9_readsNumber, 5, (some .boolean), { frames := 3, cells := 0, slots := 0, locals := 65 })
theorem okX9_readsNumber : tg_ok mX9_readsNumber := ⟨tg_mem 935 (by decide +kernel) rfl, iniX9, by decide, by decide, by decide⟩
theorem insX9_readsNumber : Cond.instanceMethod yX9_readsNumber ∈ tg_T := tg_mem 934 (by decide +kernel) rfl
theorem selX9_readsNumber : Cond.selects RX9 yX9_readsNumber yX9_readsNumber ∈ tg_T := tg_mem 21 (by decide +kernel) rfl
theorem parX9_readsNumber : (parseMethodDescriptor mX9_readsNumber.1.desc).map (fun d => d.parameters.length) = some 2 := by decide +kernel
def mX9_isEnd : tg_M := (yX9_isEnd, cX9_isEnd, 1, (some .boolean), { frames := 0, cells := 0, slots := 0, locals := 0 })
theorem okX9_isEnd : tg_ok mX9_isEnd := ⟨tg_mem 931 (by decide +kernel) rfl, iniX9, by decide, by decide, by decide⟩
theorem insX9_isEnd : Cond.instanceMethod yX9_isEnd ∈ tg_T := tg_mem 930 (by decide +kernel) rfl
theorem selX9_isEnd : Cond.selects RX9 yX9_isEnd yX9_isEnd ∈ tg_T := tg_mem 20 (by decide +kernel) rfl
theorem parX9_isEnd : (parseMethodDescriptor mX9_isEnd.1.desc).map (fun d => d.parameters.length) = some 0 := by decide +kernel
def mX9_readsTable : tg_M := (yX9_readsTable, cX9_readsTable, 4, (some .boolean), { frames := 4, cells := 0, slots := 0, locals := 89 })
theorem okX9_readsTable : tg_ok mX9_readsTable := ⟨tg_mem 927 (by decide +kernel) rfl, iniX9, by decide, by decide, by decide⟩
theorem insX9_readsTable : Cond.instanceMethod yX9_readsTable ∈ tg_T := tg_mem 926 (by decide +kernel) rfl
theorem selX9_readsTable : Cond.selects RX9 yX9_readsTable yX9_readsTable ∈ tg_T := tg_mem 19 (by decide +kernel) rfl
theorem parX9_readsTable : (parseMethodDescriptor mX9_readsTable.1.desc).map (fun d => d.parameters.length) = some 0 := by decide +kernel
def mX9_readsSupport : tg_M := (yX9_readsSupport, cX9_readsSupport, 2, (some .boolean), { frames := 4, cells := 0, slots := 0, locals := 89 })
theorem okX9_readsSupport : tg_ok mX9_readsSupport := ⟨tg_mem 939 (by decide +kernel) rfl, iniX9, by decide, by decide, by decide⟩
theorem insX9_readsSupport : Cond.instanceMethod yX9_readsSupport ∈ tg_T := tg_mem 938 (by decide +kernel) rfl
theorem selX9_readsSupport : Cond.selects RX9 yX9_readsSupport yX9_readsSupport ∈ tg_T := tg_mem 22 (by decide +kernel) rfl
theorem parX9_readsSupport : (parseMethodDescriptor mX9_readsSupport.1.desc).map (fun d => d.parameters.length) = some 0 := by decide +kernel
def mX9_readsRow : tg_M := (yX9_readsRow, cX9_readsRow, 3, (some .boolean), { frames := 4, cells := 0, slots := 0, locals := 89 })
theorem okX9_readsRow : tg_ok mX9_readsRow := ⟨tg_mem 943 (by decide +kernel) rfl, iniX9, by decide, by decide, by decide⟩
theorem insX9_readsRow : Cond.instanceMethod yX9_readsRow ∈ tg_T := tg_mem 942 (by decide +kernel) rfl
theorem selX9_readsRow : Cond.selects RX9 yX9_readsRow yX9_readsRow ∈ tg_T := tg_mem 23 (by decide +kernel) rfl
theorem parX9_readsRow : (parseMethodDescriptor mX9_readsRow.1.desc).map (fun d => d.parameters.length) = some 0 := by decide +kernel
def mX9_wordHere : tg_M := (yX9_wordHere, cX9_wordHere, 1, (some .int), { frames := 1, cells := 0, slots := 0, locals := 23 })
theorem okX9_wordHere : tg_ok mX9_wordHere := ⟨tg_mem 919 (by decide +kernel) rfl, iniX9, by decide, by decide, by decide⟩
theorem insX9_wordHere : Cond.instanceMethod yX9_wordHere ∈ tg_T := tg_mem 918 (by decide +kernel) rfl
theorem selX9_wordHere : Cond.selects RX9 yX9_wordHere yX9_wordHere ∈ tg_T := tg_mem 17 (by decide +kernel) rfl
theorem parX9_wordHere : (parseMethodDescriptor mX9_wordHere.1.desc).map (fun d => d.parameters.length) = some 0 := by decide +kernel
def mX9_readsClause : tg_M := (yX9_readsClause, cX9_readsClause, 2, (some .boolean), { frames := 5, cells := 0, slots := 0, locals := 112 })
theorem okX9_readsClause : tg_ok mX9_readsClause := ⟨tg_mem 915 (by decide +kernel) rfl, iniX9, by decide, by decide, by decide⟩
theorem insX9_readsClause : Cond.instanceMethod yX9_readsClause ∈ tg_T := tg_mem 914 (by decide +kernel) rfl
theorem selX9_readsClause : Cond.selects RX9 yX9_readsClause yX9_readsClause ∈ tg_T := tg_mem 16 (by decide +kernel) rfl
theorem parX9_readsClause : (parseMethodDescriptor mX9_readsClause.1.desc).map (fun d => d.parameters.length) = some 0 := by decide +kernel
def mX9_reads : tg_M := (yX9_reads, cX9_reads, 3, (some .boolean), { frames := 6, cells := 0, slots := 0, locals := 133 })
theorem okX9_reads : tg_ok mX9_reads := ⟨tg_mem 897 (by decide +kernel) rfl, iniX9, by decide, by decide, by decide⟩
theorem insX9_reads : Cond.instanceMethod yX9_reads ∈ tg_T := tg_mem 896 (by decide +kernel) rfl
theorem selX9_reads : Cond.selects RX9 yX9_reads yX9_reads ∈ tg_T := tg_mem 14 (by decide +kernel) rfl
theorem parX9_reads : (parseMethodDescriptor mX9_reads.1.desc).map (fun d => d.parameters.length) = some 1 := by decide +kernel
def mX9_fault : tg_M := (yX9_fault, cX9_fault, 1, (some .int), { frames := 7, cells := 0, slots := 0, locals := 155 })
theorem okX9_fault : tg_ok mX9_fault := ⟨tg_mem 893 (by decide +kernel) rfl, iniX9, by decide, by decide, by decide⟩
theorem insX9_fault : Cond.instanceMethod yX9_fault ∈ tg_T := tg_mem 891 (by decide +kernel) rfl
theorem selX9_fault : Cond.selects RX9 yX9_fault yX9_fault ∈ tg_T := tg_mem 892 (by decide +kernel) rfl
theorem parX9_fault : (parseMethodDescriptor mX9_fault.1.desc).map (fun d => d.parameters.length) = some 0 := by decide +kernel
def mX9_read : tg_M := (yX9_read, cX9_read, 1, (some .int), { frames := 7, cells := 0, slots := 0, locals := 155 })
theorem okX9_read : tg_ok mX9_read := ⟨tg_mem 951 (by decide +kernel) rfl, iniX9, by decide, by decide, by decide⟩
theorem insX9_read : Cond.instanceMethod yX9_read ∈ tg_T := tg_mem 949 (by decide +kernel) rfl
theorem selX9_read : Cond.selects RX9 yX9_read yX9_read ∈ tg_T := tg_mem 950 (by decide +kernel) rfl
theorem parX9_read : (parseMethodDescriptor mX9_read.1.desc).map (fun d => d.parameters.length) = some 0 := by decide +kernel
def mX9_put : tg_M := (yX9_put, cX9_put, 5, none, { frames := 0, cells := 0, slots := 0, locals := 0 })
theorem okX9_put : tg_ok mX9_put := ⟨tg_mem 947 (by decide +kernel) rfl, iniX9, by decide, by decide, by decide⟩
theorem insX9_put : Cond.instanceMethod yX9_put ∈ tg_T := tg_mem 946 (by decide +kernel) rfl
theorem selX9_put : Cond.selects RX9 yX9_put yX9_put ∈ tg_T := tg_mem 24 (by decide +kernel) rfl
theorem parX9_put : (parseMethodDescriptor mX9_put.1.desc).map (fun d => d.parameters.length) = some 3 := by decide +kernel
def mX9_takeOut : tg_M := (yX9_takeOut, cX9_takeOut, 4, none, { frames := 0, cells := 0, slots := 0, locals := 0 })
theorem okX9_takeOut : tg_ok mX9_takeOut := ⟨tg_mem 993 (by decide +kernel) rfl, iniX9, by decide, by decide, by decide⟩
theorem insX9_takeOut : Cond.instanceMethod yX9_takeOut ∈ tg_T := tg_mem 992 (by decide +kernel) rfl
theorem selX9_takeOut : Cond.selects RX9 yX9_takeOut yX9_takeOut ∈ tg_T := tg_mem 32 (by decide +kernel) rfl
theorem parX9_takeOut : (parseMethodDescriptor mX9_takeOut.1.desc).map (fun d => d.parameters.length) = some 2 := by decide +kernel
def mX9_figure : tg_M := (yX9_figure, cX9_figure, 5, (some .int), { frames := 0, cells := 0, slots := 0, locals := 0 })
theorem okX9_figure : tg_ok mX9_figure := ⟨tg_mem 971 (by decide +kernel) rfl, iniX9, by decide, by decide, by decide⟩
theorem insX9_figure : Cond.instanceMethod yX9_figure ∈ tg_T := tg_mem 970 (by decide +kernel) rfl
theorem selX9_figure : Cond.selects RX9 yX9_figure yX9_figure ∈ tg_T := tg_mem 28 (by decide +kernel) rfl
theorem parX9_figure : (parseMethodDescriptor mX9_figure.1.desc).map (fun d => d.parameters.length) = some 2 := by decide +kernel
def mX9_codes : tg_M := (yX9_codes, cX9_codes, 3, (some .int), { frames := 0, cells := 0, slots := 0, locals := 0 })
theorem okX9_codes : tg_ok mX9_codes := ⟨tg_mem 967 (by decide +kernel) rfl, iniX9, by decide, by decide, by decide⟩
theorem insX9_codes : Cond.instanceMethod yX9_codes ∈ tg_T := tg_mem 966 (by decide +kernel) rfl
theorem selX9_codes : Cond.selects RX9 yX9_codes yX9_codes ∈ tg_T := tg_mem 27 (by decide +kernel) rfl
theorem parX9_codes : (parseMethodDescriptor mX9_codes.1.desc).map (fun d => d.parameters.length) = some 0 := by decide +kernel
def mX9_isCell : tg_M := (yX9_isCell, cX9_isCell, 4, (some .boolean), { frames := 1, cells := 0, slots := 0, locals := 25 })
theorem okX9_isCell : tg_ok mX9_isCell := ⟨tg_mem 963 (by decide +kernel) rfl, iniX9, by decide, by decide, by decide⟩
theorem insX9_isCell : Cond.instanceMethod yX9_isCell ∈ tg_T := tg_mem 962 (by decide +kernel) rfl
theorem selX9_isCell : Cond.selects RX9 yX9_isCell yX9_isCell ∈ tg_T := tg_mem 26 (by decide +kernel) rfl
theorem parX9_isCell : (parseMethodDescriptor mX9_isCell.1.desc).map (fun d => d.parameters.length) = some 1 := by decide +kernel
def mX9_isWhole : tg_M := (yX9_isWhole, cX9_isWhole, 4, (some .boolean), { frames := 2, cells := 0, slots := 0, locals := 48 })
theorem okX9_isWhole : tg_ok mX9_isWhole := ⟨tg_mem 959 (by decide +kernel) rfl, iniX9, by decide, by decide, by decide⟩
theorem insX9_isWhole : Cond.instanceMethod yX9_isWhole ∈ tg_T := tg_mem 958 (by decide +kernel) rfl
theorem selX9_isWhole : Cond.selects RX9 yX9_isWhole yX9_isWhole ∈ tg_T := tg_mem 25 (by decide +kernel) rfl
theorem parX9_isWhole : (parseMethodDescriptor mX9_isWhole.1.desc).map (fun d => d.parameters.length) = some 1 := by decide +kernel
def mX9_isEntry : tg_M := (yX9_isEntry, cX9_isEntry, 2, (some .boolean), { frames := 1, cells := 0, slots := 0, locals := 25 })
theorem okX9_isEntry : tg_ok mX9_isEntry := ⟨tg_mem 989 (by decide +kernel) rfl, iniX9, by decide, by decide, by decide⟩
theorem insX9_isEntry : Cond.instanceMethod yX9_isEntry ∈ tg_T := tg_mem 988 (by decide +kernel) rfl
theorem selX9_isEntry : Cond.selects RX9 yX9_isEntry yX9_isEntry ∈ tg_T := tg_mem 31 (by decide +kernel) rfl
theorem parX9_isEntry : (parseMethodDescriptor mX9_isEntry.1.desc).map (fun d => d.parameters.length) = some 1 := by decide +kernel
def mX9_keepPast : tg_M := (yX9_keepPast, cX9_keepPast, 2, none, { frames := 1, cells := 0, slots := 0, locals := 23 })
theorem okX9_keepPast : tg_ok mX9_keepPast := ⟨tg_mem 977 (by decide +kernel) rfl, iniX9, by decide, by decide, by decide⟩
theorem insX9_keepPast : Cond.instanceMethod yX9_keepPast ∈ tg_T := tg_mem 976 (by decide +kernel) rfl
theorem selX9_keepPast : Cond.selects RX9 yX9_keepPast yX9_keepPast ∈ tg_T := tg_mem 29 (by decide +kernel) rfl
theorem parX9_keepPast : (parseMethodDescriptor mX9_keepPast.1.desc).map (fun d => d.parameters.length) = some 0 := by decide +kernel
def mX9_add : tg_M := (yX9_add, cX9_add, 3, (some .int), { frames := 3, cells := 0, slots := 0, locals := 71 })
theorem okX9_add : tg_ok mX9_add := ⟨tg_mem 955 (by decide +kernel) rfl, iniX9, by decide, by decide, by decide⟩
theorem insX9_add : Cond.instanceMethod yX9_add ∈ tg_T := tg_mem 953 (by decide +kernel) rfl
theorem selX9_add : Cond.selects RX9 yX9_add yX9_add ∈ tg_T := tg_mem 954 (by decide +kernel) rfl
theorem parX9_add : (parseMethodDescriptor mX9_add.1.desc).map (fun d => d.parameters.length) = some 2 := by decide +kernel
def mX9_remove : tg_M := (yX9_remove, cX9_remove, 2, (some .int), { frames := 2, cells := 0, slots := 0, locals := 46 })
theorem okX9_remove : tg_ok mX9_remove := ⟨tg_mem 985 (by decide +kernel) rfl, iniX9, by decide, by decide, by decide⟩
theorem insX9_remove : Cond.instanceMethod yX9_remove ∈ tg_T := tg_mem 983 (by decide +kernel) rfl
theorem selX9_remove : Cond.selects RX9 yX9_remove yX9_remove ∈ tg_T := tg_mem 984 (by decide +kernel) rfl
theorem parX9_remove : (parseMethodDescriptor mX9_remove.1.desc).map (fun d => d.parameters.length) = some 1 := by decide +kernel
def mX9_support : tg_M := (yX9_support, cX9_support, 3, (some .int), { frames := 2, cells := 0, slots := 0, locals := 44 })
theorem okX9_support : tg_ok mX9_support := ⟨tg_mem 997 (by decide +kernel) rfl, iniX9, by decide, by decide, by decide⟩
theorem insX9_support : Cond.instanceMethod yX9_support ∈ tg_T := tg_mem 995 (by decide +kernel) rfl
theorem selX9_support : Cond.selects RX9 yX9_support yX9_support ∈ tg_T := tg_mem 996 (by decide +kernel) rfl
theorem parX9_support : (parseMethodDescriptor mX9_support.1.desc).map (fun d => d.parameters.length) = some 1 := by decide +kernel
def mX9_undo : tg_M := (yX9_undo, cX9_undo, 1, (some .int), { frames := 1, cells := 0, slots := 0, locals := 23 })
theorem okX9_undo : tg_ok mX9_undo := ⟨tg_mem 1002 (by decide +kernel) rfl, iniX9, by decide, by decide, by decide⟩
theorem insX9_undo : Cond.instanceMethod yX9_undo ∈ tg_T := tg_mem 1000 (by decide +kernel) rfl
theorem selX9_undo : Cond.selects RX9 yX9_undo yX9_undo ∈ tg_T := tg_mem 1001 (by decide +kernel) rfl
theorem parX9_undo : (parseMethodDescriptor mX9_undo.1.desc).map (fun d => d.parameters.length) = some 0 := by decide +kernel
def mX9_keep : tg_M := (yX9_keep, cX9_keep, 2, (some .int), { frames := 1, cells := 0, slots := 0, locals := 25 })
theorem okX9_keep : tg_ok mX9_keep := ⟨tg_mem 1006 (by decide +kernel) rfl, iniX9, by decide, by decide, by decide⟩
theorem insX9_keep : Cond.instanceMethod yX9_keep ∈ tg_T := tg_mem 1004 (by decide +kernel) rfl
theorem selX9_keep : Cond.selects RX9 yX9_keep yX9_keep ∈ tg_T := tg_mem 1005 (by decide +kernel) rfl
theorem parX9_keep : (parseMethodDescriptor mX9_keep.1.desc).map (fun d => d.parameters.length) = some 1 := by decide +kernel
def mX9_back : tg_M := (yX9_back, cX9_back, 2, (some .int), { frames := 1, cells := 0, slots := 0, locals := 25 })
theorem okX9_back : tg_ok mX9_back := ⟨tg_mem 1010 (by decide +kernel) rfl, iniX9, by decide, by decide, by decide⟩
theorem insX9_back : Cond.instanceMethod yX9_back ∈ tg_T := tg_mem 1008 (by decide +kernel) rfl
theorem selX9_back : Cond.selects RX9 yX9_back yX9_back ∈ tg_T := tg_mem 1009 (by decide +kernel) rfl
theorem parX9_back : (parseMethodDescriptor mX9_back.1.desc).map (fun d => d.parameters.length) = some 1 := by decide +kernel
def mX9_entry : tg_M := (yX9_entry, cX9_entry, 3, (some .int), { frames := 2, cells := 0, slots := 0, locals := 46 })
theorem okX9_entry : tg_ok mX9_entry := ⟨tg_mem 1014 (by decide +kernel) rfl, iniX9, by decide, by decide, by decide⟩
theorem insX9_entry : Cond.instanceMethod yX9_entry ∈ tg_T := tg_mem 1012 (by decide +kernel) rfl
theorem selX9_entry : Cond.selects RX9 yX9_entry yX9_entry ∈ tg_T := tg_mem 1013 (by decide +kernel) rfl
theorem parX9_entry : (parseMethodDescriptor mX9_entry.1.desc).map (fun d => d.parameters.length) = some 2 := by decide +kernel
def mX9_covers : tg_M := (yX9_covers, cX9_covers, 7, (some .boolean), { frames := 0, cells := 0, slots := 0, locals := 0 })
theorem okX9_covers : tg_ok mX9_covers := ⟨tg_mem 1029 (by decide +kernel) rfl, iniX9, by decide, by decide, by decide⟩
theorem insX9_covers : Cond.instanceMethod yX9_covers ∈ tg_T := tg_mem 1028 (by decide +kernel) rfl
theorem selX9_covers : Cond.selects RX9 yX9_covers yX9_covers ∈ tg_T := tg_mem 34 (by decide +kernel) rfl
theorem parX9_covers : (parseMethodDescriptor mX9_covers.1.desc).map (fun d => d.parameters.length) = some 2 := by decide +kernel
def mX9_common : tg_M := (yX9_common, cX9_common, 8, (some .int), { frames := 0, cells := 0, slots := 0, locals := 0 })
theorem okX9_common : tg_ok mX9_common := ⟨tg_mem 1033 (by decide +kernel) rfl, iniX9, by decide, by decide, by decide⟩
theorem insX9_common : Cond.instanceMethod yX9_common ∈ tg_T := tg_mem 1032 (by decide +kernel) rfl
theorem selX9_common : Cond.selects RX9 yX9_common yX9_common ∈ tg_T := tg_mem 35 (by decide +kernel) rfl
theorem parX9_common : (parseMethodDescriptor mX9_common.1.desc).map (fun d => d.parameters.length) = some 2 := by decide +kernel
def mX9_gather : tg_M := (yX9_gather, cX9_gather, 6, none, { frames := 1, cells := 0, slots := 0, locals := 27 })
theorem okX9_gather : tg_ok mX9_gather := ⟨tg_mem 1023 (by decide +kernel) rfl, iniX9, by decide, by decide, by decide⟩
theorem insX9_gather : Cond.instanceMethod yX9_gather ∈ tg_T := tg_mem 1022 (by decide +kernel) rfl
theorem selX9_gather : Cond.selects RX9 yX9_gather yX9_gather ∈ tg_T := tg_mem 33 (by decide +kernel) rfl
theorem parX9_gather : (parseMethodDescriptor mX9_gather.1.desc).map (fun d => d.parameters.length) = some 2 := by decide +kernel
def mX9_cell : tg_M := (yX9_cell, cX9_cell, 3, (some .int), { frames := 2, cells := 0, slots := 0, locals := 52 })
theorem okX9_cell : tg_ok mX9_cell := ⟨tg_mem 1018 (by decide +kernel) rfl, iniX9, by decide, by decide, by decide⟩
theorem insX9_cell : Cond.instanceMethod yX9_cell ∈ tg_T := tg_mem 1016 (by decide +kernel) rfl
theorem selX9_cell : Cond.selects RX9 yX9_cell yX9_cell ∈ tg_T := tg_mem 1017 (by decide +kernel) rfl
theorem parX9_cell : (parseMethodDescriptor mX9_cell.1.desc).map (fun d => d.parameters.length) = some 2 := by decide +kernel
def mX9_closure : tg_M := (yX9_closure, cX9_closure, 2, (some .int), { frames := 2, cells := 0, slots := 0, locals := 52 })
theorem okX9_closure : tg_ok mX9_closure := ⟨tg_mem 1037 (by decide +kernel) rfl, iniX9, by decide, by decide, by decide⟩
theorem insX9_closure : Cond.instanceMethod yX9_closure ∈ tg_T := tg_mem 1035 (by decide +kernel) rfl
theorem selX9_closure : Cond.selects RX9 yX9_closure yX9_closure ∈ tg_T := tg_mem 1036 (by decide +kernel) rfl
theorem parX9_closure : (parseMethodDescriptor mX9_closure.1.desc).map (fun d => d.parameters.length) = some 1 := by decide +kernel
def mX9_isIn : tg_M := (yX9_isIn, cX9_isIn, 3, (some .boolean), { frames := 2, cells := 0, slots := 0, locals := 52 })
theorem okX9_isIn : tg_ok mX9_isIn := ⟨tg_mem 1045 (by decide +kernel) rfl, iniX9, by decide, by decide, by decide⟩
theorem insX9_isIn : Cond.instanceMethod yX9_isIn ∈ tg_T := tg_mem 1044 (by decide +kernel) rfl
theorem selX9_isIn : Cond.selects RX9 yX9_isIn yX9_isIn ∈ tg_T := tg_mem 36 (by decide +kernel) rfl
theorem parX9_isIn : (parseMethodDescriptor mX9_isIn.1.desc).map (fun d => d.parameters.length) = some 2 := by decide +kernel
def mX9_cubeOf : tg_M := (yX9_cubeOf, cX9_cubeOf, 5, (some .int), { frames := 3, cells := 0, slots := 0, locals := 74 })
theorem okX9_cubeOf : tg_ok mX9_cubeOf := ⟨tg_mem 1081 (by decide +kernel) rfl, iniX9, by decide, by decide, by decide⟩
theorem insX9_cubeOf : Cond.instanceMethod yX9_cubeOf ∈ tg_T := tg_mem 1080 (by decide +kernel) rfl
theorem selX9_cubeOf : Cond.selects RX9 yX9_cubeOf yX9_cubeOf ∈ tg_T := tg_mem 41 (by decide +kernel) rfl
theorem parX9_cubeOf : (parseMethodDescriptor mX9_cubeOf.1.desc).map (fun d => d.parameters.length) = some 1 := by decide +kernel
def mX9_kept : tg_M := (yX9_kept, cX9_kept, 5, (some .int), { frames := 3, cells := 0, slots := 0, locals := 74 })
theorem okX9_kept : tg_ok mX9_kept := ⟨tg_mem 1041 (by decide +kernel) rfl, iniX9, by decide, by decide, by decide⟩
theorem insX9_kept : Cond.instanceMethod yX9_kept ∈ tg_T := tg_mem 1039 (by decide +kernel) rfl
theorem selX9_kept : Cond.selects RX9 yX9_kept yX9_kept ∈ tg_T := tg_mem 1040 (by decide +kernel) rfl
theorem parX9_kept : (parseMethodDescriptor mX9_kept.1.desc).map (fun d => d.parameters.length) = some 1 := by decide +kernel
def mX9_ask : tg_M := (yX9_ask, cX9_ask, 3, (some .int), { frames := 2, cells := 0, slots := 0, locals := 52 })
theorem okX9_ask : tg_ok mX9_ask := ⟨tg_mem 1049 (by decide +kernel) rfl, iniX9, by decide, by decide, by decide⟩
theorem insX9_ask : Cond.instanceMethod yX9_ask ∈ tg_T := tg_mem 1047 (by decide +kernel) rfl
theorem selX9_ask : Cond.selects RX9 yX9_ask yX9_ask ∈ tg_T := tg_mem 1048 (by decide +kernel) rfl
theorem parX9_ask : (parseMethodDescriptor mX9_ask.1.desc).map (fun d => d.parameters.length) = some 2 := by decide +kernel
def mX9_placeIn : tg_M := (yX9_placeIn, cX9_placeIn, 6, (some .int), { frames := 0, cells := 0, slots := 0, locals := 0 })
theorem okX9_placeIn : tg_ok mX9_placeIn := ⟨tg_mem 1061 (by decide +kernel) rfl, iniX9, by decide, by decide, by decide⟩
theorem insX9_placeIn : Cond.instanceMethod yX9_placeIn ∈ tg_T := tg_mem 1060 (by decide +kernel) rfl
theorem selX9_placeIn : Cond.selects RX9 yX9_placeIn yX9_placeIn ∈ tg_T := tg_mem 38 (by decide +kernel) rfl
theorem parX9_placeIn : (parseMethodDescriptor mX9_placeIn.1.desc).map (fun d => d.parameters.length) = some 2 := by decide +kernel
def mX9_isOrder : tg_M := (yX9_isOrder, cX9_isOrder, 5, (some .boolean), { frames := 1, cells := 0, slots := 0, locals := 25 })
theorem okX9_isOrder : tg_ok mX9_isOrder := ⟨tg_mem 1057 (by decide +kernel) rfl, iniX9, by decide, by decide, by decide⟩
theorem insX9_isOrder : Cond.instanceMethod yX9_isOrder ∈ tg_T := tg_mem 1056 (by decide +kernel) rfl
theorem selX9_isOrder : Cond.selects RX9 yX9_isOrder yX9_isOrder ∈ tg_T := tg_mem 37 (by decide +kernel) rfl
theorem parX9_isOrder : (parseMethodDescriptor mX9_isOrder.1.desc).map (fun d => d.parameters.length) = some 1 := by decide +kernel
def mX9_layCounts : tg_M := (yX9_layCounts, cX9_layCounts, 3, none, { frames := 2, cells := 0, slots := 0, locals := 52 })
theorem okX9_layCounts : tg_ok mX9_layCounts := ⟨tg_mem 1065 (by decide +kernel) rfl, iniX9, by decide, by decide, by decide⟩
theorem insX9_layCounts : Cond.instanceMethod yX9_layCounts ∈ tg_T := tg_mem 1064 (by decide +kernel) rfl
theorem selX9_layCounts : Cond.selects RX9 yX9_layCounts yX9_layCounts ∈ tg_T := tg_mem 39 (by decide +kernel) rfl
theorem parX9_layCounts : (parseMethodDescriptor mX9_layCounts.1.desc).map (fun d => d.parameters.length) = some 0 := by decide +kernel
def mX9_workBy : tg_M := (yX9_workBy, cX9_workBy, 8, (some .int), { frames := 1, cells := 0, slots := 0, locals := 25 })
theorem okX9_workBy : tg_ok mX9_workBy := ⟨tg_mem 1069 (by decide +kernel) rfl, iniX9, by decide, by decide, by decide⟩
theorem insX9_workBy : Cond.instanceMethod yX9_workBy ∈ tg_T := tg_mem 1068 (by decide +kernel) rfl
theorem selX9_workBy : Cond.selects RX9 yX9_workBy yX9_workBy ∈ tg_T := tg_mem 40 (by decide +kernel) rfl
theorem parX9_workBy : (parseMethodDescriptor mX9_workBy.1.desc).map (fun d => d.parameters.length) = some 1 := by decide +kernel
def mX9_part : tg_M := (yX9_part, cX9_part, 4, (some .int), { frames := 3, cells := 0, slots := 0, locals := 74 })
theorem okX9_part : tg_ok mX9_part := ⟨tg_mem 1053 (by decide +kernel) rfl, iniX9, by decide, by decide, by decide⟩
theorem insX9_part : Cond.instanceMethod yX9_part ∈ tg_T := tg_mem 1051 (by decide +kernel) rfl
theorem selX9_part : Cond.selects RX9 yX9_part yX9_part ∈ tg_T := tg_mem 1052 (by decide +kernel) rfl
theorem parX9_part : (parseMethodDescriptor mX9_part.1.desc).map (fun d => d.parameters.length) = some 2 := by decide +kernel
def mX9_best : tg_M := (yX9_best, cX9_best, 6, (some .int), { frames := 3, cells := 0, slots := 0, locals := 74 })
theorem okX9_best : tg_ok mX9_best := ⟨tg_mem 1073 (by decide +kernel) rfl, iniX9, by decide, by decide, by decide⟩
theorem insX9_best : Cond.instanceMethod yX9_best ∈ tg_T := tg_mem 1071 (by decide +kernel) rfl
theorem selX9_best : Cond.selects RX9 yX9_best yX9_best ∈ tg_T := tg_mem 1072 (by decide +kernel) rfl
theorem parX9_best : (parseMethodDescriptor mX9_best.1.desc).map (fun d => d.parameters.length) = some 1 := by decide +kernel
def mX9_only : tg_M := (yX9_only, cX9_only, 6, (some .int), { frames := 3, cells := 0, slots := 0, locals := 74 })
theorem okX9_only : tg_ok mX9_only := ⟨tg_mem 1085 (by decide +kernel) rfl, iniX9, by decide, by decide, by decide⟩
theorem insX9_only : Cond.instanceMethod yX9_only ∈ tg_T := tg_mem 1084 (by decide +kernel) rfl
theorem selX9_only : Cond.selects RX9 yX9_only yX9_only ∈ tg_T := tg_mem 42 (by decide +kernel) rfl
theorem parX9_only : (parseMethodDescriptor mX9_only.1.desc).map (fun d => d.parameters.length) = some 2 := by decide +kernel
def mX9_more : tg_M := (yX9_more, cX9_more, 3, (some .int), { frames := 4, cells := 0, slots := 0, locals := 99 })
theorem okX9_more : tg_ok mX9_more := ⟨tg_mem 1077 (by decide +kernel) rfl, iniX9, by decide, by decide, by decide⟩
theorem insX9_more : Cond.instanceMethod yX9_more ∈ tg_T := tg_mem 1075 (by decide +kernel) rfl
theorem selX9_more : Cond.selects RX9 yX9_more yX9_more ∈ tg_T := tg_mem 1076 (by decide +kernel) rfl
theorem parX9_more : (parseMethodDescriptor mX9_more.1.desc).map (fun d => d.parameters.length) = some 2 := by decide +kernel
def mX9_less : tg_M := (yX9_less, cX9_less, 3, (some .int), { frames := 4, cells := 0, slots := 0, locals := 99 })
theorem okX9_less : tg_ok mX9_less := ⟨tg_mem 1089 (by decide +kernel) rfl, iniX9, by decide, by decide, by decide⟩
theorem insX9_less : Cond.instanceMethod yX9_less ∈ tg_T := tg_mem 1087 (by decide +kernel) rfl
theorem selX9_less : Cond.selects RX9 yX9_less yX9_less ∈ tg_T := tg_mem 1088 (by decide +kernel) rfl
theorem parX9_less : (parseMethodDescriptor mX9_less.1.desc).map (fun d => d.parameters.length) = some 2 := by decide +kernel
def mX9_cap : tg_M := (yX9_cap, cX9_cap, 5, (some .int), { frames := 2, cells := 0, slots := 0, locals := 52 })
theorem okX9_cap : tg_ok mX9_cap := ⟨tg_mem 1093 (by decide +kernel) rfl, iniX9, by decide, by decide, by decide⟩
theorem insX9_cap : Cond.instanceMethod yX9_cap ∈ tg_T := tg_mem 1091 (by decide +kernel) rfl
theorem selX9_cap : Cond.selects RX9 yX9_cap yX9_cap ∈ tg_T := tg_mem 1092 (by decide +kernel) rfl
theorem parX9_cap : (parseMethodDescriptor mX9_cap.1.desc).map (fun d => d.parameters.length) = some 1 := by decide +kernel
def mX9_areAlike : tg_M := (yX9_areAlike, cX9_areAlike, 6, (some .boolean), { frames := 1, cells := 0, slots := 0, locals := 24 })
theorem okX9_areAlike : tg_ok mX9_areAlike := ⟨tg_mem 1106 (by decide +kernel) rfl, iniX9, by decide, by decide, by decide⟩
theorem insX9_areAlike : Cond.instanceMethod yX9_areAlike ∈ tg_T := tg_mem 1105 (by decide +kernel) rfl
theorem selX9_areAlike : Cond.selects RX9 yX9_areAlike yX9_areAlike ∈ tg_T := tg_mem 44 (by decide +kernel) rfl
theorem parX9_areAlike : (parseMethodDescriptor mX9_areAlike.1.desc).map (fun d => d.parameters.length) = some 3 := by decide +kernel
def mX9_isKey : tg_M := (yX9_isKey, cX9_isKey, 5, (some .boolean), { frames := 2, cells := 0, slots := 0, locals := 49 })
theorem okX9_isKey : tg_ok mX9_isKey := ⟨tg_mem 1102 (by decide +kernel) rfl, iniX9, by decide, by decide, by decide⟩
theorem insX9_isKey : Cond.instanceMethod yX9_isKey ∈ tg_T := tg_mem 1101 (by decide +kernel) rfl
theorem selX9_isKey : Cond.selects RX9 yX9_isKey yX9_isKey ∈ tg_T := tg_mem 43 (by decide +kernel) rfl
theorem parX9_isKey : (parseMethodDescriptor mX9_isKey.1.desc).map (fun d => d.parameters.length) = some 1 := by decide +kernel
def mX9_bits4 : tg_M := (yX9_bits4, cX9_bits4, 1, (some .int), { frames := 0, cells := 0, slots := 0, locals := 0 })
theorem okX9_bits4 : tg_ok mX9_bits4 := ⟨tg_mem 1112 (by decide +kernel) rfl, iniX9, by decide, by decide, by decide⟩
theorem staX9_bits4 : Cond.static yX9_bits4 ∈ tg_T := tg_mem 1111 (by decide +kernel) rfl
theorem parX9_bits4 : (parseMethodDescriptor mX9_bits4.1.desc).map (fun d => d.parameters.length) = some 1 := by decide +kernel
def mX9_key : tg_M := (yX9_key, cX9_key, 3, (some .int), { frames := 3, cells := 0, slots := 0, locals := 73 })
theorem okX9_key : tg_ok mX9_key := ⟨tg_mem 1098 (by decide +kernel) rfl, iniX9, by decide, by decide, by decide⟩
theorem insX9_key : Cond.instanceMethod yX9_key ∈ tg_T := tg_mem 1096 (by decide +kernel) rfl
theorem selX9_key : Cond.selects RX9 yX9_key yX9_key ∈ tg_T := tg_mem 1097 (by decide +kernel) rfl
theorem parX9_key : (parseMethodDescriptor mX9_key.1.desc).map (fun d => d.parameters.length) = some 0 := by decide +kernel
def mX9_rule : tg_M := (yX9_rule, cX9_rule, 6, (some .int), { frames := 2, cells := 0, slots := 0, locals := 49 })
theorem okX9_rule : tg_ok mX9_rule := ⟨tg_mem 1116 (by decide +kernel) rfl, iniX9, by decide, by decide, by decide⟩
theorem insX9_rule : Cond.instanceMethod yX9_rule ∈ tg_T := tg_mem 1114 (by decide +kernel) rfl
theorem selX9_rule : Cond.selects RX9 yX9_rule yX9_rule ∈ tg_T := tg_mem 1115 (by decide +kernel) rfl
theorem parX9_rule : (parseMethodDescriptor mX9_rule.1.desc).map (fun d => d.parameters.length) = some 2 := by decide +kernel
def mX9_isRow : tg_M := (yX9_isRow, cX9_isRow, 1, (some .boolean), { frames := 1, cells := 0, slots := 0, locals := 25 })
theorem okX9_isRow : tg_ok mX9_isRow := ⟨tg_mem 1123 (by decide +kernel) rfl, iniX9, by decide, by decide, by decide⟩
theorem staX9_isRow : Cond.static yX9_isRow ∈ tg_T := tg_mem 1122 (by decide +kernel) rfl
theorem parX9_isRow : (parseMethodDescriptor mX9_isRow.1.desc).map (fun d => d.parameters.length) = some 1 := by decide +kernel
def mX9_row : tg_M := (yX9_row, cX9_row, 4, (some .int), { frames := 2, cells := 0, slots := 0, locals := 45 })
theorem okX9_row : tg_ok mX9_row := ⟨tg_mem 1120 (by decide +kernel) rfl, iniX9, by decide, by decide, by decide⟩
theorem insX9_row : Cond.instanceMethod yX9_row ∈ tg_T := tg_mem 1118 (by decide +kernel) rfl
theorem selX9_row : Cond.selects RX9 yX9_row yX9_row ∈ tg_T := tg_mem 1119 (by decide +kernel) rfl
theorem parX9_row : (parseMethodDescriptor mX9_row.1.desc).map (fun d => d.parameters.length) = some 2 := by decide +kernel
def mX9_noPlace : tg_M := (yX9_noPlace, cX9_noPlace, 3, (some .int), { frames := 2, cells := 0, slots := 0, locals := 45 })
theorem okX9_noPlace : tg_ok mX9_noPlace := ⟨tg_mem 1132 (by decide +kernel) rfl, iniX9, by decide, by decide, by decide⟩
theorem insX9_noPlace : Cond.instanceMethod yX9_noPlace ∈ tg_T := tg_mem 1131 (by decide +kernel) rfl
theorem selX9_noPlace : Cond.selects RX9 yX9_noPlace yX9_noPlace ∈ tg_T := tg_mem 45 (by decide +kernel) rfl
theorem parX9_noPlace : (parseMethodDescriptor mX9_noPlace.1.desc).map (fun d => d.parameters.length) = some 2 := by decide +kernel
def mX9_set : tg_M := (yX9_set, cX9_set, 5, (some .int), { frames := 3, cells := 0, slots := 0, locals := 67 })
theorem okX9_set : tg_ok mX9_set := ⟨tg_mem 1128 (by decide +kernel) rfl, iniX9, by decide, by decide, by decide⟩
theorem insX9_set : Cond.instanceMethod yX9_set ∈ tg_T := tg_mem 1126 (by decide +kernel) rfl
theorem selX9_set : Cond.selects RX9 yX9_set yX9_set ∈ tg_T := tg_mem 1127 (by decide +kernel) rfl
theorem parX9_set : (parseMethodDescriptor mX9_set.1.desc).map (fun d => d.parameters.length) = some 3 := by decide +kernel
def mX9_plus : tg_M := (yX9_plus, cX9_plus, 7, (some .long), { frames := 0, cells := 0, slots := 0, locals := 0 })
theorem okX9_plus : tg_ok mX9_plus := ⟨tg_mem 1144 (by decide +kernel) rfl, iniX9, by decide, by decide, by decide⟩
theorem insX9_plus : Cond.instanceMethod yX9_plus ∈ tg_T := tg_mem 1143 (by decide +kernel) rfl
theorem selX9_plus : Cond.selects RX9 yX9_plus yX9_plus ∈ tg_T := tg_mem 47 (by decide +kernel) rfl
theorem parX9_plus : (parseMethodDescriptor mX9_plus.1.desc).map (fun d => d.parameters.length) = some 2 := by decide +kernel
def mX9_times : tg_M := (yX9_times, cX9_times, 7, (some .long), { frames := 0, cells := 0, slots := 0, locals := 0 })
theorem okX9_times : tg_ok mX9_times := ⟨tg_mem 1140 (by decide +kernel) rfl, iniX9, by decide, by decide, by decide⟩
theorem insX9_times : Cond.instanceMethod yX9_times ∈ tg_T := tg_mem 1139 (by decide +kernel) rfl
theorem selX9_times : Cond.selects RX9 yX9_times yX9_times ∈ tg_T := tg_mem 46 (by decide +kernel) rfl
theorem parX9_times : (parseMethodDescriptor mX9_times.1.desc).map (fun d => d.parameters.length) = some 2 := by decide +kernel
def mX9_work : tg_M := (yX9_work, cX9_work, 10, (some .int), { frames := 3, cells := 0, slots := 0, locals := 67 })
theorem okX9_work : tg_ok mX9_work := ⟨tg_mem 1136 (by decide +kernel) rfl, iniX9, by decide, by decide, by decide⟩
theorem insX9_work : Cond.instanceMethod yX9_work ∈ tg_T := tg_mem 1134 (by decide +kernel) rfl
theorem selX9_work : Cond.selects RX9 yX9_work yX9_work ∈ tg_T := tg_mem 1135 (by decide +kernel) rfl
theorem parX9_work : (parseMethodDescriptor mX9_work.1.desc).map (fun d => d.parameters.length) = some 4 := by decide +kernel
def mX9_bits : tg_M := (yX9_bits, cX9_bits, 5, (some .int), { frames := 3, cells := 0, slots := 0, locals := 67 })
theorem okX9_bits : tg_ok mX9_bits := ⟨tg_mem 1148 (by decide +kernel) rfl, iniX9, by decide, by decide, by decide⟩
theorem insX9_bits : Cond.instanceMethod yX9_bits ∈ tg_T := tg_mem 1146 (by decide +kernel) rfl
theorem selX9_bits : Cond.selects RX9 yX9_bits yX9_bits ∈ tg_T := tg_mem 1147 (by decide +kernel) rfl
theorem parX9_bits : (parseMethodDescriptor mX9_bits.1.desc).map (fun d => d.parameters.length) = some 2 := by decide +kernel
def mX9_sum : tg_M := (yX9_sum, cX9_sum, 5, (some .int), { frames := 2, cells := 0, slots := 0, locals := 45 })
theorem okX9_sum : tg_ok mX9_sum := ⟨tg_mem 1152 (by decide +kernel) rfl, iniX9, by decide, by decide, by decide⟩
theorem insX9_sum : Cond.instanceMethod yX9_sum ∈ tg_T := tg_mem 1150 (by decide +kernel) rfl
theorem selX9_sum : Cond.selects RX9 yX9_sum yX9_sum ∈ tg_T := tg_mem 1151 (by decide +kernel) rfl
theorem parX9_sum : (parseMethodDescriptor mX9_sum.1.desc).map (fun d => d.parameters.length) = some 1 := by decide +kernel
def mX9_load : tg_M := (yX9_load, cX9_load, 5, (some .int), { frames := 3, cells := 0, slots := 0, locals := 67 })
theorem okX9_load : tg_ok mX9_load := ⟨tg_mem 1156 (by decide +kernel) rfl, iniX9, by decide, by decide, by decide⟩
theorem insX9_load : Cond.instanceMethod yX9_load ∈ tg_T := tg_mem 1154 (by decide +kernel) rfl
theorem selX9_load : Cond.selects RX9 yX9_load yX9_load ∈ tg_T := tg_mem 1155 (by decide +kernel) rfl
theorem parX9_load : (parseMethodDescriptor mX9_load.1.desc).map (fun d => d.parameters.length) = some 3 := by decide +kernel
def mX9_drop : tg_M := (yX9_drop, cX9_drop, 3, (some .int), { frames := 2, cells := 0, slots := 0, locals := 45 })
theorem okX9_drop : tg_ok mX9_drop := ⟨tg_mem 1160 (by decide +kernel) rfl, iniX9, by decide, by decide, by decide⟩
theorem insX9_drop : Cond.instanceMethod yX9_drop ∈ tg_T := tg_mem 1158 (by decide +kernel) rfl
theorem selX9_drop : Cond.selects RX9 yX9_drop yX9_drop ∈ tg_T := tg_mem 1159 (by decide +kernel) rfl
theorem parX9_drop : (parseMethodDescriptor mX9_drop.1.desc).map (fun d => d.parameters.length) = some 1 := by decide +kernel
def mX9_asked : tg_M := (yX9_asked, cX9_asked, 1, (some .long), { frames := 0, cells := 0, slots := 0, locals := 0 })
theorem okX9_asked : tg_ok mX9_asked := ⟨tg_mem 1164 (by decide +kernel) rfl, iniX9, by decide, by decide, by decide⟩
theorem insX9_asked : Cond.instanceMethod yX9_asked ∈ tg_T := tg_mem 1162 (by decide +kernel) rfl
theorem selX9_asked : Cond.selects RX9 yX9_asked yX9_asked ∈ tg_T := tg_mem 1163 (by decide +kernel) rfl
theorem parX9_asked : (parseMethodDescriptor mX9_asked.1.desc).map (fun d => d.parameters.length) = some 0 := by decide +kernel
def mX9_supported : tg_M := (yX9_supported, cX9_supported, 4, (some .int), { frames := 2, cells := 0, slots := 0, locals := 52 })
theorem okX9_supported : tg_ok mX9_supported := ⟨tg_mem 1172 (by decide +kernel) rfl, iniX9, by decide, by decide, by decide⟩
theorem insX9_supported : Cond.instanceMethod yX9_supported ∈ tg_T := tg_mem 1171 (by decide +kernel) rfl
theorem selX9_supported : Cond.selects RX9 yX9_supported yX9_supported ∈ tg_T := tg_mem 48 (by decide +kernel) rfl
theorem parX9_supported : (parseMethodDescriptor mX9_supported.1.desc).map (fun d => d.parameters.length) = some 0 := by decide +kernel
def mX9_valuesTold : tg_M := (yX9_valuesTold, cX9_valuesTold, 3, (some .int), { frames := 0, cells := 0, slots := 0, locals := 0 })
theorem okX9_valuesTold : tg_ok mX9_valuesTold := ⟨tg_mem 1176 (by decide +kernel) rfl, iniX9, by decide, by decide, by decide⟩
theorem insX9_valuesTold : Cond.instanceMethod yX9_valuesTold ∈ tg_T := tg_mem 1175 (by decide +kernel) rfl
theorem selX9_valuesTold : Cond.selects RX9 yX9_valuesTold yX9_valuesTold ∈ tg_T := tg_mem 49 (by decide +kernel) rfl
theorem parX9_valuesTold : (parseMethodDescriptor mX9_valuesTold.1.desc).map (fun d => d.parameters.length) = some 0 := by decide +kernel
def mX9_allPlaces : tg_M := (yX9_allPlaces, cX9_allPlaces, 3, (some .int), { frames := 0, cells := 0, slots := 0, locals := 0 })
theorem okX9_allPlaces : tg_ok mX9_allPlaces := ⟨tg_mem 1180 (by decide +kernel) rfl, iniX9, by decide, by decide, by decide⟩
theorem insX9_allPlaces : Cond.instanceMethod yX9_allPlaces ∈ tg_T := tg_mem 1179 (by decide +kernel) rfl
theorem selX9_allPlaces : Cond.selects RX9 yX9_allPlaces yX9_allPlaces ∈ tg_T := tg_mem 50 (by decide +kernel) rfl
theorem parX9_allPlaces : (parseMethodDescriptor mX9_allPlaces.1.desc).map (fun d => d.parameters.length) = some 0 := by decide +kernel
def mX9_count : tg_M := (yX9_count, cX9_count, 2, (some .int), { frames := 4, cells := 0, slots := 0, locals := 98 })
theorem okX9_count : tg_ok mX9_count := ⟨tg_mem 1168 (by decide +kernel) rfl, iniX9, by decide, by decide, by decide⟩
theorem insX9_count : Cond.instanceMethod yX9_count ∈ tg_T := tg_mem 1166 (by decide +kernel) rfl
theorem selX9_count : Cond.selects RX9 yX9_count yX9_count ∈ tg_T := tg_mem 1167 (by decide +kernel) rfl
theorem parX9_count : (parseMethodDescriptor mX9_count.1.desc).map (fun d => d.parameters.length) = some 1 := by decide +kernel
def mJ6_bitCount_0f7a4 : tg_M := (yJ6_bitCount_0f7a4, cJ6_bitCount_0f7a4, 1, (some .int), { frames := 0, cells := 0, slots := 0, locals := 0 })
theorem okJ6_bitCount_0f7a4 : tg_ok mJ6_bitCount_0f7a4 := ⟨tg_mem 689 (by decide +kernel) rfl, iniJ6, by decide, by decide, by decide⟩
theorem staJ6_bitCount_0f7a4 : Cond.static yJ6_bitCount_0f7a4 ∈ tg_T := tg_mem 688 (by decide +kernel) rfl
theorem parJ6_bitCount_0f7a4 : (parseMethodDescriptor mJ6_bitCount_0f7a4.1.desc).map (fun d => d.parameters.length) = some 1 := by decide +kernel
def mJ13_bitCount_95d88 : tg_M := (yJ13_bitCount_95d88, cJ13_bitCount_95d88, 2, (some .int), { frames := 0, cells := 0, slots := 0, locals := 0 })
theorem okJ13_bitCount_95d88 : tg_ok mJ13_bitCount_95d88 := ⟨tg_mem 534 (by decide +kernel) rfl, iniJ13, by decide, by decide, by decide⟩
theorem staJ13_bitCount_95d88 : Cond.static yJ13_bitCount_95d88 ∈ tg_T := tg_mem 533 (by decide +kernel) rfl
theorem parJ13_bitCount_95d88 : (parseMethodDescriptor mJ13_bitCount_95d88.1.desc).map (fun d => d.parameters.length) = some 1 := by decide +kernel
theorem staMax : Cond.static Lib.Math.max.name ∈ tg_T := tg_mem 575 (by decide +kernel) rfl
theorem staMin : Cond.static Lib.Math.min.name ∈ tg_T := tg_mem 458 (by decide +kernel) rfl
theorem codMax : Cond.code Lib.Math.max.name Lib.Math.max.code 2 (some .int) ∈ tg_T := tg_mem 576 (by decide +kernel) rfl
theorem codMin : Cond.code Lib.Math.min.name Lib.Math.min.code 2 (some .int) ∈ tg_T := tg_mem 459 (by decide +kernel) rfl
theorem natCpy : Cond.native arraycopyName ∈ tg_T := tg_mem 331 (by decide +kernel) rfl
theorem staCpy : Cond.static arraycopyName ∈ tg_T := tg_mem 330 (by decide +kernel) rfl
theorem mlL_9 : Cond.methodLink RL 9 yX8_init ∈ tg_T := tg_mem 72 (by decide +kernel) rfl
theorem mlX8_3 : Cond.methodLink RX8 3 objectInit ∈ tg_T := tg_mem 75 (by decide +kernel) rfl
theorem mlX1_3 : Cond.methodLink RX1 3 objectInit ∈ tg_T := tg_mem 83 (by decide +kernel) rfl
theorem mlX7_3 : Cond.methodLink RX7 3 objectInit ∈ tg_T := tg_mem 89 (by decide +kernel) rfl
theorem mlX1_20 : Cond.methodLink RX1 20 yX6_init ∈ tg_T := tg_mem 108 (by decide +kernel) rfl
theorem mlX6_3 : Cond.methodLink RX6 3 objectInit ∈ tg_T := tg_mem 111 (by decide +kernel) rfl
theorem mlX0_3 : Cond.methodLink RX0 3 objectInit ∈ tg_T := tg_mem 168 (by decide +kernel) rfl
theorem mlX0_11 : Cond.methodLink RX0 11 yX6_init ∈ tg_T := tg_mem 170 (by decide +kernel) rfl
theorem mlX4_3 : Cond.methodLink RX4 3 objectInit ∈ tg_T := tg_mem 176 (by decide +kernel) rfl
theorem mlX5_3 : Cond.methodLink RX5 3 objectInit ∈ tg_T := tg_mem 233 (by decide +kernel) rfl
theorem mlX8_46 : Cond.methodLink RX8 46 yX6_init ∈ tg_T := tg_mem 256 (by decide +kernel) rfl
theorem mlX8_53 : Cond.methodLink RX8 53 yX3_init ∈ tg_T := tg_mem 259 (by decide +kernel) rfl
theorem mlX3_3 : Cond.methodLink RX3 3 objectInit ∈ tg_T := tg_mem 262 (by decide +kernel) rfl
theorem mlL_13 : Cond.methodLink RL 13 yX8_write ∈ tg_T := tg_mem 305 (by decide +kernel) rfl
theorem mlX8_66 : Cond.methodLink RX8 66 yX7_append ∈ tg_T := tg_mem 309 (by decide +kernel) rfl
theorem mlL_18 : Cond.methodLink RL 18 yX8_erase ∈ tg_T := tg_mem 313 (by decide +kernel) rfl
theorem mlL_23 : Cond.methodLink RL 23 yX8_fault ∈ tg_T := tg_mem 317 (by decide +kernel) rfl
theorem mlX8_76 : Cond.methodLink RX8 76 yX1_draftUpon ∈ tg_T := tg_mem 321 (by decide +kernel) rfl
theorem mlX1_33 : Cond.methodLink RX1 33 yX6_copyFrom ∈ tg_T := tg_mem 325 (by decide +kernel) rfl
theorem mlX6_31 : Cond.methodLink RX6 31 arraycopyName ∈ tg_T := tg_mem 329 (by decide +kernel) rfl
theorem mlX1_37 : Cond.methodLink RX1 37 yX7_rewind ∈ tg_T := tg_mem 332 (by decide +kernel) rfl
theorem mlX1_40 : Cond.methodLink RX1 40 yX7_toNextToken ∈ tg_T := tg_mem 336 (by decide +kernel) rfl
theorem mlX7_25 : Cond.methodLink RX7 25 yX7_isSmall ∈ tg_T := tg_mem 340 (by decide +kernel) rfl
theorem mlX7_29 : Cond.methodLink RX7 29 yX7_isDigit ∈ tg_T := tg_mem 343 (by decide +kernel) rfl
theorem mlX1_43 : Cond.methodLink RX1 43 yX1_doClause ∈ tg_T := tg_mem 346 (by decide +kernel) rfl
theorem mlX1_55 : Cond.methodLink RX1 55 yX7_isToken ∈ tg_T := tg_mem 351 (by decide +kernel) rfl
theorem mlX7_32 : Cond.methodLink RX7 32 yJ0_length_8abf5 ∈ tg_T := tg_mem 355 (by decide +kernel) rfl
theorem mlX7_37 : Cond.methodLink RX7 37 yJ0_charAt_5068e ∈ tg_T := tg_mem 365 (by decide +kernel) rfl
theorem mlX1_61 : Cond.methodLink RX1 61 yX1_doTable ∈ tg_T := tg_mem 403 (by decide +kernel) rfl
theorem mlX1_77 : Cond.methodLink RX1 77 yX7_numberWithin ∈ tg_T := tg_mem 407 (by decide +kernel) rfl
theorem mlX7_41 : Cond.methodLink RX7 41 yX7_isAtEnd ∈ tg_T := tg_mem 411 (by decide +kernel) rfl
theorem mlX1_81 : Cond.methodLink RX1 81 yX6_startWith ∈ tg_T := tg_mem 415 (by decide +kernel) rfl
theorem mlX1_66 : Cond.methodLink RX1 66 yX1_doSupport ∈ tg_T := tg_mem 420 (by decide +kernel) rfl
theorem mlX1_74 : Cond.methodLink RX1 74 yX1_doRow ∈ tg_T := tg_mem 425 (by decide +kernel) rfl
theorem mlX1_94 : Cond.methodLink RX1 94 yX6_insert ∈ tg_T := tg_mem 429 (by decide +kernel) rfl
theorem mlX1_50 : Cond.methodLink RX1 50 yX7_isAtEnd ∈ tg_T := tg_mem 433 (by decide +kernel) rfl
theorem mlL_27 : Cond.methodLink RL 27 yX8_read ∈ tg_T := tg_mem 436 (by decide +kernel) rfl
theorem mlX8_83 : Cond.methodLink RX8 83 yX6_copyFrom ∈ tg_T := tg_mem 440 (by decide +kernel) rfl
theorem mlL_31 : Cond.methodLink RL 31 yX8_add ∈ tg_T := tg_mem 441 (by decide +kernel) rfl
theorem mlX8_93 : Cond.methodLink RX8 93 yX6_isEntryCode ∈ tg_T := tg_mem 445 (by decide +kernel) rfl
theorem mlX6_41 : Cond.methodLink RX6 41 yX6_hasFigures ∈ tg_T := tg_mem 449 (by decide +kernel) rfl
theorem mlX8_98 : Cond.methodLink RX8 98 yX5_record ∈ tg_T := tg_mem 453 (by decide +kernel) rfl
theorem mlX5_31 : Cond.methodLink RX5 31 Lib.Math.min.name ∈ tg_T := tg_mem 457 (by decide +kernel) rfl
theorem mlX8_102 : Cond.methodLink RX8 102 yX6_insert ∈ tg_T := tg_mem 460 (by decide +kernel) rfl
theorem mlL_36 : Cond.methodLink RL 36 yX8_remove ∈ tg_T := tg_mem 461 (by decide +kernel) rfl
theorem mlX8_106 : Cond.methodLink RX8 106 yX6_hasEntry ∈ tg_T := tg_mem 465 (by decide +kernel) rfl
theorem mlX8_116 : Cond.methodLink RX8 116 yX6_takeOut ∈ tg_T := tg_mem 469 (by decide +kernel) rfl
theorem mlX6_37 : Cond.methodLink RX6 37 yX6_hasEntry ∈ tg_T := tg_mem 473 (by decide +kernel) rfl
theorem mlL_40 : Cond.methodLink RL 40 yX8_support ∈ tg_T := tg_mem 474 (by decide +kernel) rfl
theorem mlL_44 : Cond.methodLink RL 44 yX8_undo ∈ tg_T := tg_mem 478 (by decide +kernel) rfl
theorem mlX8_123 : Cond.methodLink RX8 123 yX5_undoLatest ∈ tg_T := tg_mem 482 (by decide +kernel) rfl
theorem mlX5_37 : Cond.methodLink RX5 37 yX6_takeOut ∈ tg_T := tg_mem 486 (by decide +kernel) rfl
theorem mlX5_43 : Cond.methodLink RX5 43 yX6_insert ∈ tg_T := tg_mem 487 (by decide +kernel) rfl
theorem mlL_48 : Cond.methodLink RL 48 yX8_keep ∈ tg_T := tg_mem 488 (by decide +kernel) rfl
theorem mlL_52 : Cond.methodLink RL 52 yX8_back ∈ tg_T := tg_mem 492 (by decide +kernel) rfl
theorem mlL_56 : Cond.methodLink RL 56 yX8_entry ∈ tg_T := tg_mem 496 (by decide +kernel) rfl
theorem mlL_60 : Cond.methodLink RL 60 yX8_cell ∈ tg_T := tg_mem 500 (by decide +kernel) rfl
theorem mlX8_126 : Cond.methodLink RX8 126 yX6_isCellCode ∈ tg_T := tg_mem 504 (by decide +kernel) rfl
theorem mlX8_129 : Cond.methodLink RX8 129 yX8_freshCells ∈ tg_T := tg_mem 508 (by decide +kernel) rfl
theorem mlX8_244 : Cond.methodLink RX8 244 yX0_list ∈ tg_T := tg_mem 512 (by decide +kernel) rfl
theorem mlX0_55 : Cond.methodLink RX0 55 yX0_findHaving ∈ tg_T := tg_mem 516 (by decide +kernel) rfl
theorem mlX0_66 : Cond.methodLink RX0 66 yX0_spreadBy ∈ tg_T := tg_mem 520 (by decide +kernel) rfl
theorem mlX0_77 : Cond.methodLink RX0 77 yX0_havingFigure ∈ tg_T := tg_mem 524 (by decide +kernel) rfl
theorem mlX0_70 : Cond.methodLink RX0 70 yX0_tally ∈ tg_T := tg_mem 528 (by decide +kernel) rfl
theorem mlX0_81 : Cond.methodLink RX0 81 yJ13_bitCount_95d88 ∈ tg_T := tg_mem 532 (by decide +kernel) rfl
theorem mlX0_87 : Cond.methodLink RX0 87 Lib.Math.min.name ∈ tg_T := tg_mem 538 (by decide +kernel) rfl
theorem mlX0_93 : Cond.methodLink RX0 93 yX0_closureOf ∈ tg_T := tg_mem 539 (by decide +kernel) rfl
theorem mlX0_100 : Cond.methodLink RX0 100 yX6_hasEntry ∈ tg_T := tg_mem 543 (by decide +kernel) rfl
theorem mlX0_104 : Cond.methodLink RX0 104 yX0_sharedWith ∈ tg_T := tg_mem 544 (by decide +kernel) rfl
theorem mlX0_96 : Cond.methodLink RX0 96 yX0_dimensionsOf ∈ tg_T := tg_mem 549 (by decide +kernel) rfl
theorem mlX8_133 : Cond.methodLink RX8 133 yX0_coverOf ∈ tg_T := tg_mem 553 (by decide +kernel) rfl
theorem mlX8_137 : Cond.methodLink RX8 137 yJ13_bitCount_95d88 ∈ tg_T := tg_mem 557 (by decide +kernel) rfl
theorem mlX8_143 : Cond.methodLink RX8 143 yX6_sumOf ∈ tg_T := tg_mem 558 (by decide +kernel) rfl
theorem mlX6_45 : Cond.methodLink RX6 45 yX6_isIn ∈ tg_T := tg_mem 562 (by decide +kernel) rfl
theorem mlX8_146 : Cond.methodLink RX8 146 yX6_leastOf ∈ tg_T := tg_mem 565 (by decide +kernel) rfl
theorem mlX6_49 : Cond.methodLink RX6 49 Lib.Math.min.name ∈ tg_T := tg_mem 569 (by decide +kernel) rfl
theorem mlX8_149 : Cond.methodLink RX8 149 yX6_greatestOf ∈ tg_T := tg_mem 570 (by decide +kernel) rfl
theorem mlX6_55 : Cond.methodLink RX6 55 Lib.Math.max.name ∈ tg_T := tg_mem 574 (by decide +kernel) rfl
theorem mlL_64 : Cond.methodLink RL 64 yX8_closure ∈ tg_T := tg_mem 577 (by decide +kernel) rfl
theorem mlX8_152 : Cond.methodLink RX8 152 yX0_closureOf ∈ tg_T := tg_mem 581 (by decide +kernel) rfl
theorem mlL_68 : Cond.methodLink RL 68 yX8_kept ∈ tg_T := tg_mem 582 (by decide +kernel) rfl
theorem mlX8_155 : Cond.methodLink RX8 155 yX0_codeInCube ∈ tg_T := tg_mem 586 (by decide +kernel) rfl
theorem mlL_72 : Cond.methodLink RL 72 yX8_ask ∈ tg_T := tg_mem 590 (by decide +kernel) rfl
theorem mlL_76 : Cond.methodLink RL 76 yX8_part ∈ tg_T := tg_mem 594 (by decide +kernel) rfl
theorem mlX8_162 : Cond.methodLink RX8 162 yX4_isOrder ∈ tg_T := tg_mem 598 (by decide +kernel) rfl
theorem mlX8_168 : Cond.methodLink RX8 168 yX0_parted ∈ tg_T := tg_mem 601 (by decide +kernel) rfl
theorem mlX0_138 : Cond.methodLink RX0 138 yX4_startWith ∈ tg_T := tg_mem 605 (by decide +kernel) rfl
theorem mlX0_142 : Cond.methodLink RX0 142 yX4_goInto ∈ tg_T := tg_mem 609 (by decide +kernel) rfl
theorem mlX8_172 : Cond.methodLink RX8 172 yX4_workBy ∈ tg_T := tg_mem 613 (by decide +kernel) rfl
theorem mlL_80 : Cond.methodLink RL 80 yX8_best ∈ tg_T := tg_mem 617 (by decide +kernel) rfl
theorem mlX8_178 : Cond.methodLink RX8 178 yX4_bestOrder ∈ tg_T := tg_mem 621 (by decide +kernel) rfl
theorem mlX4_22 : Cond.methodLink RX4 22 yX4_ordersOf ∈ tg_T := tg_mem 625 (by decide +kernel) rfl
theorem mlX4_26 : Cond.methodLink RX4 26 yX4_workBy ∈ tg_T := tg_mem 636 (by decide +kernel) rfl
theorem mlL_84 : Cond.methodLink RL 84 yX8_more ∈ tg_T := tg_mem 637 (by decide +kernel) rfl
theorem mlX8_182 : Cond.methodLink RX8 182 yX0_gainedWith ∈ tg_T := tg_mem 641 (by decide +kernel) rfl
theorem mlX0_123 : Cond.methodLink RX0 123 yX0_within ∈ tg_T := tg_mem 645 (by decide +kernel) rfl
theorem mlX0_126 : Cond.methodLink RX0 126 yX0_coverOf ∈ tg_T := tg_mem 649 (by decide +kernel) rfl
theorem mlX0_130 : Cond.methodLink RX0 130 yX0_isInCube ∈ tg_T := tg_mem 650 (by decide +kernel) rfl
theorem mlX8_185 : Cond.methodLink RX8 185 yX0_cubeSize ∈ tg_T := tg_mem 654 (by decide +kernel) rfl
theorem mlX0_113 : Cond.methodLink RX0 113 yX0_ofSizeOrMore ∈ tg_T := tg_mem 658 (by decide +kernel) rfl
theorem mlX0_117 : Cond.methodLink RX0 117 Lib.Math.max.name ∈ tg_T := tg_mem 661 (by decide +kernel) rfl
theorem mlL_88 : Cond.methodLink RL 88 yX8_less ∈ tg_T := tg_mem 662 (by decide +kernel) rfl
theorem mlX8_188 : Cond.methodLink RX8 188 yX0_lostWithout ∈ tg_T := tg_mem 666 (by decide +kernel) rfl
theorem mlL_92 : Cond.methodLink RL 92 yX8_cap ∈ tg_T := tg_mem 670 (by decide +kernel) rfl
theorem mlX8_191 : Cond.methodLink RX8 191 yX0_leastSupportFor ∈ tg_T := tg_mem 674 (by decide +kernel) rfl
theorem mlX0_120 : Cond.methodLink RX0 120 yX0_cubeSize ∈ tg_T := tg_mem 678 (by decide +kernel) rfl
theorem mlL_96 : Cond.methodLink RL 96 yX8_key ∈ tg_T := tg_mem 679 (by decide +kernel) rfl
theorem mlX8_194 : Cond.methodLink RX8 194 yX0_leastKey ∈ tg_T := tg_mem 683 (by decide +kernel) rfl
theorem mlX0_134 : Cond.methodLink RX0 134 yJ6_bitCount_0f7a4 ∈ tg_T := tg_mem 687 (by decide +kernel) rfl
theorem mlL_100 : Cond.methodLink RL 100 yX8_rule ∈ tg_T := tg_mem 693 (by decide +kernel) rfl
theorem mlX8_197 : Cond.methodLink RX8 197 yX0_settles ∈ tg_T := tg_mem 697 (by decide +kernel) rfl
theorem mlL_104 : Cond.methodLink RL 104 yX8_row ∈ tg_T := tg_mem 701 (by decide +kernel) rfl
theorem mlX8_200 : Cond.methodLink RX8 200 yX3_isRow ∈ tg_T := tg_mem 705 (by decide +kernel) rfl
theorem mlX8_203 : Cond.methodLink RX8 203 yX3_renew ∈ tg_T := tg_mem 708 (by decide +kernel) rfl
theorem mlX3_20 : Cond.methodLink RX3 20 yX3_isRow ∈ tg_T := tg_mem 712 (by decide +kernel) rfl
theorem mlL_108 : Cond.methodLink RL 108 yX8_set ∈ tg_T := tg_mem 713 (by decide +kernel) rfl
theorem mlX8_207 : Cond.methodLink RX8 207 yX3_put ∈ tg_T := tg_mem 717 (by decide +kernel) rfl
theorem mlX3_27 : Cond.methodLink RX3 27 yX3_finds ∈ tg_T := tg_mem 721 (by decide +kernel) rfl
theorem mlX3_24 : Cond.methodLink RX3 24 yX3_isMissing ∈ tg_T := tg_mem 725 (by decide +kernel) rfl
theorem mlL_113 : Cond.methodLink RL 113 yX8_work ∈ tg_T := tg_mem 729 (by decide +kernel) rfl
theorem mlX8_211 : Cond.methodLink RX8 211 yX3_finds ∈ tg_T := tg_mem 733 (by decide +kernel) rfl
theorem mlX8_219 : Cond.methodLink RX8 219 yX2_isOver ∈ tg_T := tg_mem 734 (by decide +kernel) rfl
theorem mlX2_7 : Cond.methodLink RX2 7 yX2_result ∈ tg_T := tg_mem 737 (by decide +kernel) rfl
theorem mlX8_225 : Cond.methodLink RX8 225 yX2_result ∈ tg_T := tg_mem 742 (by decide +kernel) rfl
theorem mlL_118 : Cond.methodLink RL 118 yX8_bits ∈ tg_T := tg_mem 743 (by decide +kernel) rfl
theorem mlL_122 : Cond.methodLink RL 122 yX8_sum ∈ tg_T := tg_mem 747 (by decide +kernel) rfl
theorem mlX8_229 : Cond.methodLink RX8 229 yX3_isMissing ∈ tg_T := tg_mem 751 (by decide +kernel) rfl
theorem mlL_126 : Cond.methodLink RL 126 yX8_load ∈ tg_T := tg_mem 752 (by decide +kernel) rfl
theorem mlL_130 : Cond.methodLink RL 130 yX8_drop ∈ tg_T := tg_mem 756 (by decide +kernel) rfl
theorem mlL_134 : Cond.methodLink RL 134 yX8_asked ∈ tg_T := tg_mem 760 (by decide +kernel) rfl
theorem mlL_139 : Cond.methodLink RL 139 yX8_count ∈ tg_T := tg_mem 764 (by decide +kernel) rfl
theorem mlX8_235 : Cond.methodLink RX8 235 yX0_cellsWith ∈ tg_T := tg_mem 768 (by decide +kernel) rfl
theorem mlX8_238 : Cond.methodLink RX8 238 yX6_valueFigures ∈ tg_T := tg_mem 772 (by decide +kernel) rfl
theorem mlX8_241 : Cond.methodLink RX8 241 yX3_placesInAll ∈ tg_T := tg_mem 776 (by decide +kernel) rfl
theorem mlX3_31 : Cond.methodLink RX3 31 Lib.Math.max.name ∈ tg_T := tg_mem 780 (by decide +kernel) rfl
theorem mlL_12 : Cond.methodLink RL 12 yX9_init ∈ tg_T := tg_mem 783 (by decide +kernel) rfl
theorem mlX9_1 : Cond.methodLink RX9 1 objectInit ∈ tg_T := tg_mem 786 (by decide +kernel) rfl
theorem mlL_17 : Cond.methodLink RL 17 yX9_write ∈ tg_T := tg_mem 878 (by decide +kernel) rfl
theorem mlX9_54 : Cond.methodLink RX9 54 yX9_in ∈ tg_T := tg_mem 883 (by decide +kernel) rfl
theorem mlL_22 : Cond.methodLink RL 22 yX9_erase ∈ tg_T := tg_mem 886 (by decide +kernel) rfl
theorem mlL_26 : Cond.methodLink RL 26 yX9_fault ∈ tg_T := tg_mem 890 (by decide +kernel) rfl
theorem mlX9_133 : Cond.methodLink RX9 133 yX9_reads ∈ tg_T := tg_mem 894 (by decide +kernel) rfl
theorem mlX9_85 : Cond.methodLink RX9 85 yX9_nextToken ∈ tg_T := tg_mem 898 (by decide +kernel) rfl
theorem mlX9_75 : Cond.methodLink RX9 75 yX9_isLetter ∈ tg_T := tg_mem 902 (by decide +kernel) rfl
theorem mlX9_79 : Cond.methodLink RX9 79 yX9_isDigit ∈ tg_T := tg_mem 907 (by decide +kernel) rfl
theorem mlX9_130 : Cond.methodLink RX9 130 yX9_readsClause ∈ tg_T := tg_mem 912 (by decide +kernel) rfl
theorem mlX9_114 : Cond.methodLink RX9 114 yX9_wordHere ∈ tg_T := tg_mem 916 (by decide +kernel) rfl
theorem mlX9_110 : Cond.methodLink RX9 110 yX9_isWord ∈ tg_T := tg_mem 920 (by decide +kernel) rfl
theorem mlX9_118 : Cond.methodLink RX9 118 yX9_readsTable ∈ tg_T := tg_mem 924 (by decide +kernel) rfl
theorem mlX9_88 : Cond.methodLink RX9 88 yX9_isEnd ∈ tg_T := tg_mem 928 (by decide +kernel) rfl
theorem mlX9_92 : Cond.methodLink RX9 92 yX9_readsNumber ∈ tg_T := tg_mem 932 (by decide +kernel) rfl
theorem mlX9_121 : Cond.methodLink RX9 121 yX9_readsSupport ∈ tg_T := tg_mem 936 (by decide +kernel) rfl
theorem mlX9_124 : Cond.methodLink RX9 124 yX9_readsRow ∈ tg_T := tg_mem 940 (by decide +kernel) rfl
theorem mlX9_106 : Cond.methodLink RX9 106 yX9_put ∈ tg_T := tg_mem 944 (by decide +kernel) rfl
theorem mlL_30 : Cond.methodLink RL 30 yX9_read ∈ tg_T := tg_mem 948 (by decide +kernel) rfl
theorem mlL_35 : Cond.methodLink RL 35 yX9_add ∈ tg_T := tg_mem 952 (by decide +kernel) rfl
theorem mlX9_154 : Cond.methodLink RX9 154 yX9_isWhole ∈ tg_T := tg_mem 956 (by decide +kernel) rfl
theorem mlX9_147 : Cond.methodLink RX9 147 yX9_isCell ∈ tg_T := tg_mem 960 (by decide +kernel) rfl
theorem mlX9_140 : Cond.methodLink RX9 140 yX9_codes ∈ tg_T := tg_mem 964 (by decide +kernel) rfl
theorem mlX9_143 : Cond.methodLink RX9 143 yX9_figure ∈ tg_T := tg_mem 968 (by decide +kernel) rfl
theorem mlX9_161 : Cond.methodLink RX9 161 yX9_keepPast ∈ tg_T := tg_mem 974 (by decide +kernel) rfl
theorem mlX9_150 : Cond.methodLink RX9 150 yX9_copyRow ∈ tg_T := tg_mem 978 (by decide +kernel) rfl
theorem mlL_39 : Cond.methodLink RL 39 yX9_remove ∈ tg_T := tg_mem 982 (by decide +kernel) rfl
theorem mlX9_164 : Cond.methodLink RX9 164 yX9_isEntry ∈ tg_T := tg_mem 986 (by decide +kernel) rfl
theorem mlX9_167 : Cond.methodLink RX9 167 yX9_takeOut ∈ tg_T := tg_mem 990 (by decide +kernel) rfl
theorem mlL_43 : Cond.methodLink RL 43 yX9_support ∈ tg_T := tg_mem 994 (by decide +kernel) rfl
theorem mlL_47 : Cond.methodLink RL 47 yX9_undo ∈ tg_T := tg_mem 999 (by decide +kernel) rfl
theorem mlL_51 : Cond.methodLink RL 51 yX9_keep ∈ tg_T := tg_mem 1003 (by decide +kernel) rfl
theorem mlL_55 : Cond.methodLink RL 55 yX9_back ∈ tg_T := tg_mem 1007 (by decide +kernel) rfl
theorem mlL_59 : Cond.methodLink RL 59 yX9_entry ∈ tg_T := tg_mem 1011 (by decide +kernel) rfl
theorem mlL_63 : Cond.methodLink RL 63 yX9_cell ∈ tg_T := tg_mem 1015 (by decide +kernel) rfl
theorem mlX9_197 : Cond.methodLink RX9 197 yX9_gather ∈ tg_T := tg_mem 1020 (by decide +kernel) rfl
theorem mlX9_189 : Cond.methodLink RX9 189 yX9_covers ∈ tg_T := tg_mem 1026 (by decide +kernel) rfl
theorem mlX9_192 : Cond.methodLink RX9 192 yX9_common ∈ tg_T := tg_mem 1030 (by decide +kernel) rfl
theorem mlL_67 : Cond.methodLink RL 67 yX9_closure ∈ tg_T := tg_mem 1034 (by decide +kernel) rfl
theorem mlL_71 : Cond.methodLink RL 71 yX9_kept ∈ tg_T := tg_mem 1038 (by decide +kernel) rfl
theorem mlX9_200 : Cond.methodLink RX9 200 yX9_isIn ∈ tg_T := tg_mem 1042 (by decide +kernel) rfl
theorem mlL_75 : Cond.methodLink RL 75 yX9_ask ∈ tg_T := tg_mem 1046 (by decide +kernel) rfl
theorem mlL_79 : Cond.methodLink RL 79 yX9_part ∈ tg_T := tg_mem 1050 (by decide +kernel) rfl
theorem mlX9_209 : Cond.methodLink RX9 209 yX9_isOrder ∈ tg_T := tg_mem 1054 (by decide +kernel) rfl
theorem mlX9_203 : Cond.methodLink RX9 203 yX9_placeIn ∈ tg_T := tg_mem 1058 (by decide +kernel) rfl
theorem mlX9_212 : Cond.methodLink RX9 212 yX9_layCounts ∈ tg_T := tg_mem 1062 (by decide +kernel) rfl
theorem mlX9_215 : Cond.methodLink RX9 215 yX9_workBy ∈ tg_T := tg_mem 1066 (by decide +kernel) rfl
theorem mlL_83 : Cond.methodLink RL 83 yX9_best ∈ tg_T := tg_mem 1070 (by decide +kernel) rfl
theorem mlL_87 : Cond.methodLink RL 87 yX9_more ∈ tg_T := tg_mem 1074 (by decide +kernel) rfl
theorem mlX9_219 : Cond.methodLink RX9 219 yX9_cubeOf ∈ tg_T := tg_mem 1078 (by decide +kernel) rfl
theorem mlX9_222 : Cond.methodLink RX9 222 yX9_only ∈ tg_T := tg_mem 1082 (by decide +kernel) rfl
theorem mlL_91 : Cond.methodLink RL 91 yX9_less ∈ tg_T := tg_mem 1086 (by decide +kernel) rfl
theorem mlL_95 : Cond.methodLink RL 95 yX9_cap ∈ tg_T := tg_mem 1090 (by decide +kernel) rfl
theorem mlL_99 : Cond.methodLink RL 99 yX9_key ∈ tg_T := tg_mem 1095 (by decide +kernel) rfl
theorem mlX9_234 : Cond.methodLink RX9 234 yX9_isKey ∈ tg_T := tg_mem 1099 (by decide +kernel) rfl
theorem mlX9_230 : Cond.methodLink RX9 230 yX9_areAlike ∈ tg_T := tg_mem 1103 (by decide +kernel) rfl
theorem mlX9_227 : Cond.methodLink RX9 227 yX9_has ∈ tg_T := tg_mem 1107 (by decide +kernel) rfl
theorem mlX9_237 : Cond.methodLink RX9 237 yX9_bits4 ∈ tg_T := tg_mem 1110 (by decide +kernel) rfl
theorem mlL_103 : Cond.methodLink RL 103 yX9_rule ∈ tg_T := tg_mem 1113 (by decide +kernel) rfl
theorem mlL_107 : Cond.methodLink RL 107 yX9_row ∈ tg_T := tg_mem 1117 (by decide +kernel) rfl
theorem mlX9_242 : Cond.methodLink RX9 242 yX9_isRow ∈ tg_T := tg_mem 1121 (by decide +kernel) rfl
theorem mlL_112 : Cond.methodLink RL 112 yX9_set ∈ tg_T := tg_mem 1125 (by decide +kernel) rfl
theorem mlX9_245 : Cond.methodLink RX9 245 yX9_noPlace ∈ tg_T := tg_mem 1129 (by decide +kernel) rfl
theorem mlL_117 : Cond.methodLink RL 117 yX9_work ∈ tg_T := tg_mem 1133 (by decide +kernel) rfl
theorem mlX9_251 : Cond.methodLink RX9 251 yX9_times ∈ tg_T := tg_mem 1137 (by decide +kernel) rfl
theorem mlX9_255 : Cond.methodLink RX9 255 yX9_plus ∈ tg_T := tg_mem 1141 (by decide +kernel) rfl
theorem mlL_121 : Cond.methodLink RL 121 yX9_bits ∈ tg_T := tg_mem 1145 (by decide +kernel) rfl
theorem mlL_125 : Cond.methodLink RL 125 yX9_sum ∈ tg_T := tg_mem 1149 (by decide +kernel) rfl
theorem mlL_129 : Cond.methodLink RL 129 yX9_load ∈ tg_T := tg_mem 1153 (by decide +kernel) rfl
theorem mlL_133 : Cond.methodLink RL 133 yX9_drop ∈ tg_T := tg_mem 1157 (by decide +kernel) rfl
theorem mlL_138 : Cond.methodLink RL 138 yX9_asked ∈ tg_T := tg_mem 1161 (by decide +kernel) rfl
theorem mlL_142 : Cond.methodLink RL 142 yX9_count ∈ tg_T := tg_mem 1165 (by decide +kernel) rfl
theorem mlX9_262 : Cond.methodLink RX9 262 yX9_supported ∈ tg_T := tg_mem 1169 (by decide +kernel) rfl
theorem mlX9_265 : Cond.methodLink RX9 265 yX9_valuesTold ∈ tg_T := tg_mem 1173 (by decide +kernel) rfl
theorem mlX9_268 : Cond.methodLink RX9 268 yX9_allPlaces ∈ tg_T := tg_mem 1177 (by decide +kernel) rfl
theorem flX7_9 : Cond.fieldLink RX7 9 RX7 "letters" "[C" ∈ tg_T := tg_mem 90 (by decide +kernel) rfl
theorem flX7_15 : Cond.fieldLink RX7 15 RX7 "length" "I" ∈ tg_T := tg_mem 91 (by decide +kernel) rfl
theorem flX8_72 : Cond.fieldLink RX8 72 RX7 "length" "I" ∈ tg_T := tg_mem 92 (by decide +kernel) rfl
theorem flX7_19 : Cond.fieldLink RX7 19 RX7 "start" "I" ∈ tg_T := tg_mem 93 (by decide +kernel) rfl
theorem flX1_47 : Cond.fieldLink RX1 47 RX7 "start" "I" ∈ tg_T := tg_mem 94 (by decide +kernel) rfl
theorem flX7_22 : Cond.fieldLink RX7 22 RX7 "end" "I" ∈ tg_T := tg_mem 95 (by decide +kernel) rfl
theorem flX6_21 : Cond.fieldLink RX6 21 RX6 "dimensions" "I" ∈ tg_T := tg_mem 112 (by decide +kernel) rfl
theorem flX0_63 : Cond.fieldLink RX0 63 RX6 "dimensions" "I" ∈ tg_T := tg_mem 113 (by decide +kernel) rfl
theorem flX1_88 : Cond.fieldLink RX1 88 RX6 "dimensions" "I" ∈ tg_T := tg_mem 114 (by decide +kernel) rfl
theorem flX8_159 : Cond.fieldLink RX8 159 RX6 "dimensions" "I" ∈ tg_T := tg_mem 115 (by decide +kernel) rfl
theorem flX6_9 : Cond.fieldLink RX6 9 RX6 "values" "[I" ∈ tg_T := tg_mem 116 (by decide +kernel) rfl
theorem flX0_74 : Cond.fieldLink RX0 74 RX6 "values" "[I" ∈ tg_T := tg_mem 117 (by decide +kernel) rfl
theorem flX1_91 : Cond.fieldLink RX1 91 RX6 "values" "[I" ∈ tg_T := tg_mem 118 (by decide +kernel) rfl
theorem flX6_25 : Cond.fieldLink RX6 25 RX6 "size" "I" ∈ tg_T := tg_mem 119 (by decide +kernel) rfl
theorem flX0_62 : Cond.fieldLink RX0 62 RX6 "size" "I" ∈ tg_T := tg_mem 120 (by decide +kernel) rfl
theorem flX1_71 : Cond.fieldLink RX1 71 RX6 "size" "I" ∈ tg_T := tg_mem 121 (by decide +kernel) rfl
theorem flX8_97 : Cond.fieldLink RX8 97 RX6 "size" "I" ∈ tg_T := tg_mem 122 (by decide +kernel) rfl
theorem flX6_15 : Cond.fieldLink RX6 15 RX6 "codes" "[I" ∈ tg_T := tg_mem 123 (by decide +kernel) rfl
theorem flX0_73 : Cond.fieldLink RX0 73 RX6 "codes" "[I" ∈ tg_T := tg_mem 124 (by decide +kernel) rfl
theorem flX8_109 : Cond.fieldLink RX8 109 RX6 "codes" "[I" ∈ tg_T := tg_mem 125 (by decide +kernel) rfl
theorem flX6_18 : Cond.fieldLink RX6 18 RX6 "measures" "[I" ∈ tg_T := tg_mem 126 (by decide +kernel) rfl
theorem flX8_113 : Cond.fieldLink RX8 113 RX6 "measures" "[I" ∈ tg_T := tg_mem 127 (by decide +kernel) rfl
theorem flX6_28 : Cond.fieldLink RX6 28 RX6 "enough" "I" ∈ tg_T := tg_mem 128 (by decide +kernel) rfl
theorem flX5_47 : Cond.fieldLink RX5 47 RX6 "enough" "I" ∈ tg_T := tg_mem 129 (by decide +kernel) rfl
theorem flX1_85 : Cond.fieldLink RX1 85 RX6 "enough" "I" ∈ tg_T := tg_mem 130 (by decide +kernel) rfl
theorem flX8_120 : Cond.fieldLink RX8 120 RX6 "enough" "I" ∈ tg_T := tg_mem 131 (by decide +kernel) rfl
theorem flX0_110 : Cond.fieldLink RX0 110 RX6 "enough" "I" ∈ tg_T := tg_mem 132 (by decide +kernel) rfl
theorem flX1_12 : Cond.fieldLink RX1 12 RX1 "text" "LCubeClosures$Text;" ∈ tg_T := tg_mem 147 (by decide +kernel) rfl
theorem flX8_16 : Cond.fieldLink RX8 16 RX1 "text" "LCubeClosures$Text;" ∈ tg_T := tg_mem 148 (by decide +kernel) rfl
theorem flX1_21 : Cond.fieldLink RX1 21 RX1 "draft" "LCubeClosures$Table;" ∈ tg_T := tg_mem 149 (by decide +kernel) rfl
theorem flX8_80 : Cond.fieldLink RX8 80 RX1 "draft" "LCubeClosures$Table;" ∈ tg_T := tg_mem 150 (by decide +kernel) rfl
theorem flX1_25 : Cond.fieldLink RX1 25 RX1 "done" "I" ∈ tg_T := tg_mem 151 (by decide +kernel) rfl
theorem flX8_90 : Cond.fieldLink RX8 90 RX1 "done" "I" ∈ tg_T := tg_mem 152 (by decide +kernel) rfl
theorem flX1_29 : Cond.fieldLink RX1 29 RX1 "newValues" "[I" ∈ tg_T := tg_mem 153 (by decide +kernel) rfl
theorem flX4_15 : Cond.fieldLink RX4 15 RX4 "dimensions" "I" ∈ tg_T := tg_mem 177 (by decide +kernel) rfl
theorem flX4_19 : Cond.fieldLink RX4 19 RX4 "visits" "I" ∈ tg_T := tg_mem 178 (by decide +kernel) rfl
theorem flX8_175 : Cond.fieldLink RX8 175 RX4 "visits" "I" ∈ tg_T := tg_mem 179 (by decide +kernel) rfl
theorem flX4_9 : Cond.fieldLink RX4 9 RX4 "entriesOn" "[I" ∈ tg_T := tg_mem 180 (by decide +kernel) rfl
theorem flX0_12 : Cond.fieldLink RX0 12 RX0 "table" "LCubeClosures$Table;" ∈ tg_T := tg_mem 188 (by decide +kernel) rfl
theorem flX8_28 : Cond.fieldLink RX8 28 RX0 "table" "LCubeClosures$Table;" ∈ tg_T := tg_mem 189 (by decide +kernel) rfl
theorem flX0_21 : Cond.fieldLink RX0 21 RX0 "parting" "LCubeClosures$Parting;" ∈ tg_T := tg_mem 190 (by decide +kernel) rfl
theorem flX0_25 : Cond.fieldLink RX0 25 RX0 "having" "[J" ∈ tg_T := tg_mem 191 (by decide +kernel) rfl
theorem flX0_58 : Cond.fieldLink RX0 58 RX0 "size" "I" ∈ tg_T := tg_mem 192 (by decide +kernel) rfl
theorem flX0_29 : Cond.fieldLink RX0 29 RX0 "codes" "[I" ∈ tg_T := tg_mem 193 (by decide +kernel) rfl
theorem flX0_33 : Cond.fieldLink RX0 33 RX0 "covers" "[J" ∈ tg_T := tg_mem 194 (by decide +kernel) rfl
theorem flX0_36 : Cond.fieldLink RX0 36 RX0 "otherCodes" "[I" ∈ tg_T := tg_mem 195 (by decide +kernel) rfl
theorem flX0_39 : Cond.fieldLink RX0 39 RX0 "otherCovers" "[J" ∈ tg_T := tg_mem 196 (by decide +kernel) rfl
theorem flX0_42 : Cond.fieldLink RX0 42 RX0 "isClosed" "[Z" ∈ tg_T := tg_mem 197 (by decide +kernel) rfl
theorem flX0_46 : Cond.fieldLink RX0 46 RX0 "allOfSize" "[I" ∈ tg_T := tg_mem 198 (by decide +kernel) rfl
theorem flX0_49 : Cond.fieldLink RX0 49 RX0 "closedOfSize" "[I" ∈ tg_T := tg_mem 199 (by decide +kernel) rfl
theorem flX0_52 : Cond.fieldLink RX0 52 RX0 "cellsOn" "[I" ∈ tg_T := tg_mem 200 (by decide +kernel) rfl
theorem flX5_9 : Cond.fieldLink RX5 9 RX5 "size" "I" ∈ tg_T := tg_mem 234 (by decide +kernel) rfl
theorem flX8_87 : Cond.fieldLink RX8 87 RX5 "size" "I" ∈ tg_T := tg_mem 235 (by decide +kernel) rfl
theorem flX5_15 : Cond.fieldLink RX5 15 RX5 "next" "I" ∈ tg_T := tg_mem 236 (by decide +kernel) rfl
theorem flX5_18 : Cond.fieldLink RX5 18 RX5 "kinds" "[I" ∈ tg_T := tg_mem 237 (by decide +kernel) rfl
theorem flX5_22 : Cond.fieldLink RX5 22 RX5 "numbers" "[I" ∈ tg_T := tg_mem 238 (by decide +kernel) rfl
theorem flX5_25 : Cond.fieldLink RX5 25 RX5 "codes" "[I" ∈ tg_T := tg_mem 239 (by decide +kernel) rfl
theorem flX5_28 : Cond.fieldLink RX5 28 RX5 "measures" "[I" ∈ tg_T := tg_mem 240 (by decide +kernel) rfl
theorem flX3_9 : Cond.fieldLink RX3 9 RX3 "lengths" "[I" ∈ tg_T := tg_mem 265 (by decide +kernel) rfl
theorem flX8_232 : Cond.fieldLink RX8 232 RX3 "lengths" "[I" ∈ tg_T := tg_mem 266 (by decide +kernel) rfl
theorem flX3_17 : Cond.fieldLink RX3 17 RX3 "places" "[[J" ∈ tg_T := tg_mem 267 (by decide +kernel) rfl
theorem flX8_215 : Cond.fieldLink RX8 215 RX3 "places" "[[J" ∈ tg_T := tg_mem 268 (by decide +kernel) rfl
theorem flX8_12 : Cond.fieldLink RX8 12 RX8 "clauses" "LCubeClosures$Clauses;" ∈ tg_T := tg_mem 274 (by decide +kernel) rfl
theorem flX8_20 : Cond.fieldLink RX8 20 RX8 "text" "LCubeClosures$Text;" ∈ tg_T := tg_mem 275 (by decide +kernel) rfl
theorem flX8_24 : Cond.fieldLink RX8 24 RX8 "cells" "LCubeClosures$Cells;" ∈ tg_T := tg_mem 276 (by decide +kernel) rfl
theorem flX8_32 : Cond.fieldLink RX8 32 RX8 "table" "LCubeClosures$Table;" ∈ tg_T := tg_mem 277 (by decide +kernel) rfl
theorem flX8_36 : Cond.fieldLink RX8 36 RX8 "past" "LCubeClosures$Past;" ∈ tg_T := tg_mem 278 (by decide +kernel) rfl
theorem flX8_42 : Cond.fieldLink RX8 42 RX8 "keeps" "[LCubeClosures$Table;" ∈ tg_T := tg_mem 279 (by decide +kernel) rfl
theorem flX8_47 : Cond.fieldLink RX8 47 RX8 "isKept" "[Z" ∈ tg_T := tg_mem 280 (by decide +kernel) rfl
theorem flX8_54 : Cond.fieldLink RX8 54 RX8 "rows" "LCubeClosures$LongRows;" ∈ tg_T := tg_mem 281 (by decide +kernel) rfl
theorem flX8_58 : Cond.fieldLink RX8 58 RX8 "cellsAreOld" "Z" ∈ tg_T := tg_mem 282 (by decide +kernel) rfl
theorem flX8_62 : Cond.fieldLink RX8 62 RX8 "told" "J" ∈ tg_T := tg_mem 283 (by decide +kernel) rfl
theorem flX4_30 : Cond.fieldLink RX4 30 RX4 "ORDERS_OF_1" "[I" ∈ tg_T := tg_mem 628 (by decide +kernel) rfl
theorem flX4_33 : Cond.fieldLink RX4 33 RX4 "ORDERS_OF_2" "[I" ∈ tg_T := tg_mem 630 (by decide +kernel) rfl
theorem flX4_36 : Cond.fieldLink RX4 36 RX4 "ORDERS_OF_3" "[I" ∈ tg_T := tg_mem 632 (by decide +kernel) rfl
theorem flX4_39 : Cond.fieldLink RX4 39 RX4 "ORDERS_OF_4" "[I" ∈ tg_T := tg_mem 634 (by decide +kernel) rfl
theorem flX9_7 : Cond.fieldLink RX9 7 RX9 "row" "[I" ∈ tg_T := tg_mem 787 (by decide +kernel) rfl
theorem flX9_13 : Cond.fieldLink RX9 13 RX9 "dimensions" "I" ∈ tg_T := tg_mem 788 (by decide +kernel) rfl
theorem flX9_17 : Cond.fieldLink RX9 17 RX9 "values" "[I" ∈ tg_T := tg_mem 789 (by decide +kernel) rfl
theorem flX9_137 : Cond.fieldLink RX9 137 RX9 "undos" "I" ∈ tg_T := tg_mem 790 (by decide +kernel) rfl
theorem flX9_20 : Cond.fieldLink RX9 20 RX9 "isKept" "[Z" ∈ tg_T := tg_mem 791 (by decide +kernel) rfl
theorem flX9_24 : Cond.fieldLink RX9 24 RX9 "text" "[I" ∈ tg_T := tg_mem 792 (by decide +kernel) rfl
theorem flX9_58 : Cond.fieldLink RX9 58 RX9 "length" "I" ∈ tg_T := tg_mem 793 (by decide +kernel) rfl
theorem flX9_27 : Cond.fieldLink RX9 27 RX9 "sizes" "[I" ∈ tg_T := tg_mem 794 (by decide +kernel) rfl
theorem flX9_30 : Cond.fieldLink RX9 30 RX9 "items" "[J" ∈ tg_T := tg_mem 795 (by decide +kernel) rfl
theorem flX9_258 : Cond.fieldLink RX9 258 RX9 "asked" "J" ∈ tg_T := tg_mem 796 (by decide +kernel) rfl
theorem flX9_72 : Cond.fieldLink RX9 72 RX9 "first" "I" ∈ tg_T := tg_mem 797 (by decide +kernel) rfl
theorem flX9_69 : Cond.fieldLink RX9 69 RX9 "behind" "I" ∈ tg_T := tg_mem 798 (by decide +kernel) rfl
theorem flX9_96 : Cond.fieldLink RX9 96 RX9 "readDimensions" "I" ∈ tg_T := tg_mem 799 (by decide +kernel) rfl
theorem flX9_34 : Cond.fieldLink RX9 34 RX9 "readValues" "[I" ∈ tg_T := tg_mem 800 (by decide +kernel) rfl
theorem flX9_99 : Cond.fieldLink RX9 99 RX9 "readMany" "I" ∈ tg_T := tg_mem 801 (by decide +kernel) rfl
theorem flX9_127 : Cond.fieldLink RX9 127 RX9 "clauses" "I" ∈ tg_T := tg_mem 802 (by decide +kernel) rfl
theorem flX9_102 : Cond.fieldLink RX9 102 RX9 "doing" "Z" ∈ tg_T := tg_mem 803 (by decide +kernel) rfl
theorem flX9_82 : Cond.fieldLink RX9 82 RX9 "number" "I" ∈ tg_T := tg_mem 804 (by decide +kernel) rfl
theorem flX9_37 : Cond.fieldLink RX9 37 RX9 "tableWord" "[I" ∈ tg_T := tg_mem 805 (by decide +kernel) rfl
theorem flX9_40 : Cond.fieldLink RX9 40 RX9 "supportWord" "[I" ∈ tg_T := tg_mem 806 (by decide +kernel) rfl
theorem flX9_43 : Cond.fieldLink RX9 43 RX9 "rowWord" "[I" ∈ tg_T := tg_mem 807 (by decide +kernel) rfl
theorem flX9_172 : Cond.fieldLink RX9 172 RX9 "many" "I" ∈ tg_T := tg_mem 808 (by decide +kernel) rfl
theorem flX9_175 : Cond.fieldLink RX9 175 RX9 "sum" "I" ∈ tg_T := tg_mem 809 (by decide +kernel) rfl
theorem flX9_179 : Cond.fieldLink RX9 179 RX9 "least" "I" ∈ tg_T := tg_mem 810 (by decide +kernel) rfl
theorem flX9_183 : Cond.fieldLink RX9 183 RX9 "greatest" "I" ∈ tg_T := tg_mem 811 (by decide +kernel) rfl
theorem flX9_186 : Cond.fieldLink RX9 186 RX9 "closed" "I" ∈ tg_T := tg_mem 812 (by decide +kernel) rfl
theorem flX9_206 : Cond.fieldLink RX9 206 RX9 "visits" "I" ∈ tg_T := tg_mem 813 (by decide +kernel) rfl
theorem flX9_46 : Cond.fieldLink RX9 46 RX9 "counts" "[I" ∈ tg_T := tg_mem 814 (by decide +kernel) rfl
theorem flX9_49 : Cond.fieldLink RX9 49 RX9 "byMany" "[I" ∈ tg_T := tg_mem 815 (by decide +kernel) rfl
theorem flX9_248 : Cond.fieldLink RX9 248 RX9 "isOver" "Z" ∈ tg_T := tg_mem 816 (by decide +kernel) rfl
theorem kcJ6_265 : Cond.constant RJ6 265 (1431655765) ∈ tg_T := tg_mem 690 (by decide +kernel) rfl
theorem kcJ6_266 : Cond.constant RJ6 266 (858993459) ∈ tg_T := tg_mem 691 (by decide +kernel) rfl
theorem kcJ6_267 : Cond.constant RJ6 267 (252645135) ∈ tg_T := tg_mem 692 (by decide +kernel) rfl
theorem kcX9_178 : Cond.constant RX9 178 (999999) ∈ tg_T := tg_mem 1024 (by decide +kernel) rfl
theorem kcX9_182 : Cond.constant RX9 182 (-999999) ∈ tg_T := tg_mem 1025 (by decide +kernel) rfl
theorem klJ13_314 : Cond.constantLong RJ13 314 (6148914691236517205) ∈ tg_T := tg_mem 535 (by decide +kernel) rfl
theorem klJ13_316 : Cond.constantLong RJ13 316 (3689348814741910323) ∈ tg_T := tg_mem 536 (by decide +kernel) rfl
theorem klJ13_318 : Cond.constantLong RJ13 318 (1085102592571150095) ∈ tg_T := tg_mem 537 (by decide +kernel) rfl
theorem klX0_108 : Cond.constantLong RX0 108 (-1) ∈ tg_T := tg_mem 548 (by decide +kernel) rfl
theorem klX2_13 : Cond.constantLong RX2 13 (-1) ∈ tg_T := tg_mem 740 (by decide +kernel) rfl
theorem klX2_15 : Cond.constantLong RX2 15 (-9223372036854775808) ∈ tg_T := tg_mem 741 (by decide +kernel) rfl
theorem klX9_52 : Cond.constantLong RX9 52 (255) ∈ tg_T := tg_mem 882 (by decide +kernel) rfl
theorem klX9_61 : Cond.constantLong RX9 61 (97) ∈ tg_T := tg_mem 905 (by decide +kernel) rfl
theorem klX9_63 : Cond.constantLong RX9 63 (122) ∈ tg_T := tg_mem 906 (by decide +kernel) rfl
theorem klX9_65 : Cond.constantLong RX9 65 (48) ∈ tg_T := tg_mem 910 (by decide +kernel) rfl
theorem klX9_67 : Cond.constantLong RX9 67 (57) ∈ tg_T := tg_mem 911 (by decide +kernel) rfl
theorem klX9_157 : Cond.constantLong RX9 157 (-99) ∈ tg_T := tg_mem 972 (by decide +kernel) rfl
theorem klX9_159 : Cond.constantLong RX9 159 (99) ∈ tg_T := tg_mem 973 (by decide +kernel) rfl
theorem klX9_170 : Cond.constantLong RX9 170 (9) ∈ tg_T := tg_mem 998 (by decide +kernel) rfl
theorem klX9_195 : Cond.constantLong RX9 195 (3) ∈ tg_T := tg_mem 1019 (by decide +kernel) rfl
theorem klX9_225 : Cond.constantLong RX9 225 (2400) ∈ tg_T := tg_mem 1094 (by decide +kernel) rfl
theorem klX9_240 : Cond.constantLong RX9 240 (2) ∈ tg_T := tg_mem 1124 (by decide +kernel) rfl
theorem lyX0_0 : u_lay RX0 TX0 0 ∈ tg_T := tg_mem 201 (by decide +kernel) rfl
theorem lyX0_1 : u_lay RX0 TX0 1 ∈ tg_T := tg_mem 203 (by decide +kernel) rfl
theorem lyX0_2 : u_lay RX0 TX0 2 ∈ tg_T := tg_mem 205 (by decide +kernel) rfl
theorem lyX0_3 : u_lay RX0 TX0 3 ∈ tg_T := tg_mem 207 (by decide +kernel) rfl
theorem lyX0_4 : u_lay RX0 TX0 4 ∈ tg_T := tg_mem 209 (by decide +kernel) rfl
theorem lyX0_5 : u_lay RX0 TX0 5 ∈ tg_T := tg_mem 211 (by decide +kernel) rfl
theorem lyX0_6 : u_lay RX0 TX0 6 ∈ tg_T := tg_mem 213 (by decide +kernel) rfl
theorem lyX0_7 : u_lay RX0 TX0 7 ∈ tg_T := tg_mem 215 (by decide +kernel) rfl
theorem lyX0_8 : u_lay RX0 TX0 8 ∈ tg_T := tg_mem 217 (by decide +kernel) rfl
theorem lyX0_9 : u_lay RX0 TX0 9 ∈ tg_T := tg_mem 219 (by decide +kernel) rfl
theorem lyX0_10 : u_lay RX0 TX0 10 ∈ tg_T := tg_mem 221 (by decide +kernel) rfl
theorem lyX0_11 : u_lay RX0 TX0 11 ∈ tg_T := tg_mem 223 (by decide +kernel) rfl
theorem clX0 : tg_cls 0 RX0 TX0 12 := ⟨rfl, fun w hw => by
  obtain ⟨k, hk, rfl⟩ := List.mem_map.mp hw
  have hk := List.mem_range.mp hk
  rcases (show k = 0 ∨ k = 1 ∨ k = 2 ∨ k = 3 ∨ k = 4 ∨ k = 5 ∨ k = 6 ∨ k = 7 ∨ k = 8 ∨ k = 9 ∨ k = 10 ∨ k = 11 by omega) with rfl | rfl | rfl | rfl | rfl | rfl | rfl | rfl | rfl | rfl | rfl | rfl
  · exact lyX0_0
  · exact lyX0_1
  · exact lyX0_2
  · exact lyX0_3
  · exact lyX0_4
  · exact lyX0_5
  · exact lyX0_6
  · exact lyX0_7
  · exact lyX0_8
  · exact lyX0_9
  · exact lyX0_10
  · exact lyX0_11⟩
theorem lyX1_0 : u_lay RX1 TX1 0 ∈ tg_T := tg_mem 154 (by decide +kernel) rfl
theorem lyX1_1 : u_lay RX1 TX1 1 ∈ tg_T := tg_mem 156 (by decide +kernel) rfl
theorem lyX1_2 : u_lay RX1 TX1 2 ∈ tg_T := tg_mem 158 (by decide +kernel) rfl
theorem lyX1_3 : u_lay RX1 TX1 3 ∈ tg_T := tg_mem 160 (by decide +kernel) rfl
theorem clX1 : tg_cls 1 RX1 TX1 4 := ⟨rfl, fun w hw => by
  obtain ⟨k, hk, rfl⟩ := List.mem_map.mp hw
  have hk := List.mem_range.mp hk
  rcases (show k = 0 ∨ k = 1 ∨ k = 2 ∨ k = 3 by omega) with rfl | rfl | rfl | rfl
  · exact lyX1_0
  · exact lyX1_1
  · exact lyX1_2
  · exact lyX1_3⟩
theorem lyX3_0 : u_lay RX3 TX3 0 ∈ tg_T := tg_mem 269 (by decide +kernel) rfl
theorem lyX3_1 : u_lay RX3 TX3 1 ∈ tg_T := tg_mem 271 (by decide +kernel) rfl
theorem clX3 : tg_cls 2 RX3 TX3 2 := ⟨rfl, fun w hw => by
  obtain ⟨k, hk, rfl⟩ := List.mem_map.mp hw
  have hk := List.mem_range.mp hk
  rcases (show k = 0 ∨ k = 1 by omega) with rfl | rfl
  · exact lyX3_0
  · exact lyX3_1⟩
theorem lyX4_0 : u_lay RX4 TX4 0 ∈ tg_T := tg_mem 181 (by decide +kernel) rfl
theorem lyX4_1 : u_lay RX4 TX4 1 ∈ tg_T := tg_mem 183 (by decide +kernel) rfl
theorem lyX4_2 : u_lay RX4 TX4 2 ∈ tg_T := tg_mem 185 (by decide +kernel) rfl
theorem clX4 : tg_cls 3 RX4 TX4 3 := ⟨rfl, fun w hw => by
  obtain ⟨k, hk, rfl⟩ := List.mem_map.mp hw
  have hk := List.mem_range.mp hk
  rcases (show k = 0 ∨ k = 1 ∨ k = 2 by omega) with rfl | rfl | rfl
  · exact lyX4_0
  · exact lyX4_1
  · exact lyX4_2⟩
theorem lyX5_0 : u_lay RX5 TX5 0 ∈ tg_T := tg_mem 241 (by decide +kernel) rfl
theorem lyX5_1 : u_lay RX5 TX5 1 ∈ tg_T := tg_mem 243 (by decide +kernel) rfl
theorem lyX5_2 : u_lay RX5 TX5 2 ∈ tg_T := tg_mem 245 (by decide +kernel) rfl
theorem lyX5_3 : u_lay RX5 TX5 3 ∈ tg_T := tg_mem 247 (by decide +kernel) rfl
theorem lyX5_4 : u_lay RX5 TX5 4 ∈ tg_T := tg_mem 249 (by decide +kernel) rfl
theorem lyX5_5 : u_lay RX5 TX5 5 ∈ tg_T := tg_mem 251 (by decide +kernel) rfl
theorem clX5 : tg_cls 4 RX5 TX5 6 := ⟨rfl, fun w hw => by
  obtain ⟨k, hk, rfl⟩ := List.mem_map.mp hw
  have hk := List.mem_range.mp hk
  rcases (show k = 0 ∨ k = 1 ∨ k = 2 ∨ k = 3 ∨ k = 4 ∨ k = 5 by omega) with rfl | rfl | rfl | rfl | rfl | rfl
  · exact lyX5_0
  · exact lyX5_1
  · exact lyX5_2
  · exact lyX5_3
  · exact lyX5_4
  · exact lyX5_5⟩
theorem lyX6_0 : u_lay RX6 TX6 0 ∈ tg_T := tg_mem 133 (by decide +kernel) rfl
theorem lyX6_1 : u_lay RX6 TX6 1 ∈ tg_T := tg_mem 135 (by decide +kernel) rfl
theorem lyX6_2 : u_lay RX6 TX6 2 ∈ tg_T := tg_mem 137 (by decide +kernel) rfl
theorem lyX6_3 : u_lay RX6 TX6 3 ∈ tg_T := tg_mem 139 (by decide +kernel) rfl
theorem lyX6_4 : u_lay RX6 TX6 4 ∈ tg_T := tg_mem 141 (by decide +kernel) rfl
theorem lyX6_5 : u_lay RX6 TX6 5 ∈ tg_T := tg_mem 143 (by decide +kernel) rfl
theorem clX6 : tg_cls 5 RX6 TX6 6 := ⟨rfl, fun w hw => by
  obtain ⟨k, hk, rfl⟩ := List.mem_map.mp hw
  have hk := List.mem_range.mp hk
  rcases (show k = 0 ∨ k = 1 ∨ k = 2 ∨ k = 3 ∨ k = 4 ∨ k = 5 by omega) with rfl | rfl | rfl | rfl | rfl | rfl
  · exact lyX6_0
  · exact lyX6_1
  · exact lyX6_2
  · exact lyX6_3
  · exact lyX6_4
  · exact lyX6_5⟩
theorem lyX7_0 : u_lay RX7 TX7 0 ∈ tg_T := tg_mem 96 (by decide +kernel) rfl
theorem lyX7_1 : u_lay RX7 TX7 1 ∈ tg_T := tg_mem 98 (by decide +kernel) rfl
theorem lyX7_2 : u_lay RX7 TX7 2 ∈ tg_T := tg_mem 100 (by decide +kernel) rfl
theorem lyX7_3 : u_lay RX7 TX7 3 ∈ tg_T := tg_mem 102 (by decide +kernel) rfl
theorem clX7 : tg_cls 6 RX7 TX7 4 := ⟨rfl, fun w hw => by
  obtain ⟨k, hk, rfl⟩ := List.mem_map.mp hw
  have hk := List.mem_range.mp hk
  rcases (show k = 0 ∨ k = 1 ∨ k = 2 ∨ k = 3 by omega) with rfl | rfl | rfl | rfl
  · exact lyX7_0
  · exact lyX7_1
  · exact lyX7_2
  · exact lyX7_3⟩
theorem lyX8_0 : u_lay RX8 TX8 0 ∈ tg_T := tg_mem 284 (by decide +kernel) rfl
theorem lyX8_1 : u_lay RX8 TX8 1 ∈ tg_T := tg_mem 286 (by decide +kernel) rfl
theorem lyX8_2 : u_lay RX8 TX8 2 ∈ tg_T := tg_mem 288 (by decide +kernel) rfl
theorem lyX8_3 : u_lay RX8 TX8 3 ∈ tg_T := tg_mem 290 (by decide +kernel) rfl
theorem lyX8_4 : u_lay RX8 TX8 4 ∈ tg_T := tg_mem 292 (by decide +kernel) rfl
theorem lyX8_5 : u_lay RX8 TX8 5 ∈ tg_T := tg_mem 294 (by decide +kernel) rfl
theorem lyX8_6 : u_lay RX8 TX8 6 ∈ tg_T := tg_mem 296 (by decide +kernel) rfl
theorem lyX8_7 : u_lay RX8 TX8 7 ∈ tg_T := tg_mem 298 (by decide +kernel) rfl
theorem lyX8_8 : u_lay RX8 TX8 8 ∈ tg_T := tg_mem 300 (by decide +kernel) rfl
theorem lyX8_9 : u_lay RX8 TX8 9 ∈ tg_T := tg_mem 302 (by decide +kernel) rfl
theorem clX8 : tg_cls 7 RX8 TX8 10 := ⟨rfl, fun w hw => by
  obtain ⟨k, hk, rfl⟩ := List.mem_map.mp hw
  have hk := List.mem_range.mp hk
  rcases (show k = 0 ∨ k = 1 ∨ k = 2 ∨ k = 3 ∨ k = 4 ∨ k = 5 ∨ k = 6 ∨ k = 7 ∨ k = 8 ∨ k = 9 by omega) with rfl | rfl | rfl | rfl | rfl | rfl | rfl | rfl | rfl | rfl
  · exact lyX8_0
  · exact lyX8_1
  · exact lyX8_2
  · exact lyX8_3
  · exact lyX8_4
  · exact lyX8_5
  · exact lyX8_6
  · exact lyX8_7
  · exact lyX8_8
  · exact lyX8_9⟩
theorem lyX9_0 : u_lay RX9 TX9 0 ∈ tg_T := tg_mem 817 (by decide +kernel) rfl
theorem lyX9_1 : u_lay RX9 TX9 1 ∈ tg_T := tg_mem 819 (by decide +kernel) rfl
theorem lyX9_2 : u_lay RX9 TX9 2 ∈ tg_T := tg_mem 821 (by decide +kernel) rfl
theorem lyX9_3 : u_lay RX9 TX9 3 ∈ tg_T := tg_mem 823 (by decide +kernel) rfl
theorem lyX9_4 : u_lay RX9 TX9 4 ∈ tg_T := tg_mem 825 (by decide +kernel) rfl
theorem lyX9_5 : u_lay RX9 TX9 5 ∈ tg_T := tg_mem 827 (by decide +kernel) rfl
theorem lyX9_6 : u_lay RX9 TX9 6 ∈ tg_T := tg_mem 829 (by decide +kernel) rfl
theorem lyX9_7 : u_lay RX9 TX9 7 ∈ tg_T := tg_mem 831 (by decide +kernel) rfl
theorem lyX9_8 : u_lay RX9 TX9 8 ∈ tg_T := tg_mem 833 (by decide +kernel) rfl
theorem lyX9_9 : u_lay RX9 TX9 9 ∈ tg_T := tg_mem 835 (by decide +kernel) rfl
theorem lyX9_10 : u_lay RX9 TX9 10 ∈ tg_T := tg_mem 837 (by decide +kernel) rfl
theorem lyX9_11 : u_lay RX9 TX9 11 ∈ tg_T := tg_mem 839 (by decide +kernel) rfl
theorem lyX9_12 : u_lay RX9 TX9 12 ∈ tg_T := tg_mem 841 (by decide +kernel) rfl
theorem lyX9_13 : u_lay RX9 TX9 13 ∈ tg_T := tg_mem 843 (by decide +kernel) rfl
theorem lyX9_14 : u_lay RX9 TX9 14 ∈ tg_T := tg_mem 845 (by decide +kernel) rfl
theorem lyX9_15 : u_lay RX9 TX9 15 ∈ tg_T := tg_mem 847 (by decide +kernel) rfl
theorem lyX9_16 : u_lay RX9 TX9 16 ∈ tg_T := tg_mem 849 (by decide +kernel) rfl
theorem lyX9_17 : u_lay RX9 TX9 17 ∈ tg_T := tg_mem 851 (by decide +kernel) rfl
theorem lyX9_18 : u_lay RX9 TX9 18 ∈ tg_T := tg_mem 853 (by decide +kernel) rfl
theorem lyX9_19 : u_lay RX9 TX9 19 ∈ tg_T := tg_mem 855 (by decide +kernel) rfl
theorem lyX9_20 : u_lay RX9 TX9 20 ∈ tg_T := tg_mem 857 (by decide +kernel) rfl
theorem lyX9_21 : u_lay RX9 TX9 21 ∈ tg_T := tg_mem 859 (by decide +kernel) rfl
theorem lyX9_22 : u_lay RX9 TX9 22 ∈ tg_T := tg_mem 861 (by decide +kernel) rfl
theorem lyX9_23 : u_lay RX9 TX9 23 ∈ tg_T := tg_mem 863 (by decide +kernel) rfl
theorem lyX9_24 : u_lay RX9 TX9 24 ∈ tg_T := tg_mem 865 (by decide +kernel) rfl
theorem lyX9_25 : u_lay RX9 TX9 25 ∈ tg_T := tg_mem 867 (by decide +kernel) rfl
theorem lyX9_26 : u_lay RX9 TX9 26 ∈ tg_T := tg_mem 869 (by decide +kernel) rfl
theorem lyX9_27 : u_lay RX9 TX9 27 ∈ tg_T := tg_mem 871 (by decide +kernel) rfl
theorem lyX9_28 : u_lay RX9 TX9 28 ∈ tg_T := tg_mem 873 (by decide +kernel) rfl
theorem lyX9_29 : u_lay RX9 TX9 29 ∈ tg_T := tg_mem 875 (by decide +kernel) rfl
theorem clX9 : tg_cls 8 RX9 TX9 30 := ⟨rfl, fun w hw => by
  obtain ⟨k, hk, rfl⟩ := List.mem_map.mp hw
  have hk := List.mem_range.mp hk
  rcases (show k = 0 ∨ k = 1 ∨ k = 2 ∨ k = 3 ∨ k = 4 ∨ k = 5 ∨ k = 6 ∨ k = 7 ∨ k = 8 ∨ k = 9 ∨ k = 10 ∨ k = 11 ∨ k = 12 ∨ k = 13 ∨ k = 14 ∨ k = 15 ∨ k = 16 ∨ k = 17 ∨ k = 18 ∨ k = 19 ∨ k = 20 ∨ k = 21 ∨ k = 22 ∨ k = 23 ∨ k = 24 ∨ k = 25 ∨ k = 26 ∨ k = 27 ∨ k = 28 ∨ k = 29 by omega) with rfl | rfl | rfl | rfl | rfl | rfl | rfl | rfl | rfl | rfl | rfl | rfl | rfl | rfl | rfl | rfl | rfl | rfl | rfl | rfl | rfl | rfl | rfl | rfl | rfl | rfl | rfl | rfl | rfl | rfl
  · exact lyX9_0
  · exact lyX9_1
  · exact lyX9_2
  · exact lyX9_3
  · exact lyX9_4
  · exact lyX9_5
  · exact lyX9_6
  · exact lyX9_7
  · exact lyX9_8
  · exact lyX9_9
  · exact lyX9_10
  · exact lyX9_11
  · exact lyX9_12
  · exact lyX9_13
  · exact lyX9_14
  · exact lyX9_15
  · exact lyX9_16
  · exact lyX9_17
  · exact lyX9_18
  · exact lyX9_19
  · exact lyX9_20
  · exact lyX9_21
  · exact lyX9_22
  · exact lyX9_23
  · exact lyX9_24
  · exact lyX9_25
  · exact lyX9_26
  · exact lyX9_27
  · exact lyX9_28
  · exact lyX9_29⟩
