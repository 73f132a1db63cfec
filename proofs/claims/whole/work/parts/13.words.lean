def gfOK (M : nM) (idx ci k : Nat) : Prop := ci < 8 ∧ k < (cTab ci).2.2 ∧ lkF M idx ((cTab ci).2.1 k).1 ((cTab ci).2.1 k).2.1 ((cTab ci).2.1 k).2.2.1
abbrev mX4_init : nM := (RX4, cX4_init, 1, none, 1, 20, yX4_init)
set_option maxRecDepth 100000 in
theorem cb_X4_init : cxB mX4_init 0 := ⟨wOK_1 87 (by decide +kernel) (by decide +kernel), wOK_1 119 (by decide +kernel) (by decide +kernel), by decide +kernel, by decide +kernel⟩
abbrev mX0_init : nM := (RX0, cX0_init, 2, none, 2, 40, yX0_init)
set_option maxRecDepth 100000 in
theorem cb_X0_init : cxB mX0_init 0 := ⟨wOK_1 86 (by decide +kernel) (by decide +kernel), wOK_1 112 (by decide +kernel) (by decide +kernel), by decide +kernel, by decide +kernel⟩
abbrev mX0_has : nM := (RX0, cX0_has, 2, some .boolean, 0, 0, yX0_has)
set_option maxRecDepth 100000 in
theorem cb_X0_has : cxB mX0_has 1 := ⟨wOK_1 86 (by decide +kernel) (by decide +kernel), wOK_1 393 (by decide +kernel) (by decide +kernel), by decide +kernel, by decide +kernel⟩
abbrev mX0_usedOf : nM := (RX0, cX0_usedOf, 2, some .int, 1, 21, yX0_usedOf)
set_option maxRecDepth 100000 in
theorem cb_X0_usedOf : cxB mX0_usedOf 1 := ⟨wOK_1 86 (by decide +kernel) (by decide +kernel), wOK_1 409 (by decide +kernel) (by decide +kernel), by decide +kernel, by decide +kernel⟩
abbrev mX0_countOf : nM := (RX0, cX0_countOf, 2, some .int, 1, 21, yX0_countOf)
set_option maxRecDepth 100000 in
theorem cb_X0_countOf : cxB mX0_countOf 1 := ⟨wOK_1 86 (by decide +kernel) (by decide +kernel), wOK_1 389 (by decide +kernel) (by decide +kernel), by decide +kernel, by decide +kernel⟩
abbrev mX0_erasuresOf : nM := (RX0, cX0_erasuresOf, 2, some .int, 1, 21, yX0_erasuresOf)
set_option maxRecDepth 100000 in
theorem cb_X0_erasuresOf : cxB mX0_erasuresOf 1 := ⟨wOK_1 86 (by decide +kernel) (by decide +kernel), wOK_1 1047 (by decide +kernel) (by decide +kernel), by decide +kernel, by decide +kernel⟩
abbrev mX0_row : nM := (RX0, cX0_row, 3, some (.object "Nodewash$Node"), 0, 0, yX0_row)
set_option maxRecDepth 100000 in
theorem cb_X0_row : cxB mX0_row 1 := ⟨wOK_1 86 (by decide +kernel) (by decide +kernel), wOK_1 401 (by decide +kernel) (by decide +kernel), by decide +kernel, by decide +kernel⟩
abbrev mX0_at : nM := (RX0, cX0_at, 3, some (.object "Nodewash$Node"), 1, 22, yX0_at)
set_option maxRecDepth 100000 in
theorem cb_X0_at : cxB mX0_at 2 := ⟨wOK_1 86 (by decide +kernel) (by decide +kernel), wOK_1 397 (by decide +kernel) (by decide +kernel), by decide +kernel, by decide +kernel⟩
abbrev mX4_tells : nM := (RX4, cX4_tells, 3, some .boolean, 0, 0, yX4_tells)
set_option maxRecDepth 100000 in
theorem cb_X4_tells : cxB mX4_tells 2 := ⟨wOK_1 87 (by decide +kernel) (by decide +kernel), wOK_1 450 (by decide +kernel) (by decide +kernel), by decide +kernel, by decide +kernel⟩
abbrev mX4_settles : nM := (RX4, cX4_settles, 2, some .boolean, 0, 0, yX4_settles)
set_option maxRecDepth 100000 in
theorem cb_X4_settles : cxB mX4_settles 1 := ⟨wOK_1 87 (by decide +kernel) (by decide +kernel), wOK_1 460 (by decide +kernel) (by decide +kernel), by decide +kernel, by decide +kernel⟩
abbrev mX0_newest : nM := (RX0, cX0_newest, 8, some (.object "Nodewash$Node"), 1, 22, yX0_newest)
set_option maxRecDepth 100000 in
theorem cb_X0_newest : cxB mX0_newest 4 := ⟨wOK_1 86 (by decide +kernel) (by decide +kernel), wOK_1 455 (by decide +kernel) (by decide +kernel), by decide +kernel, by decide +kernel⟩
abbrev mX0_nextData : nM := (RX0, cX0_nextData, 6, some (.object "Nodewash$Node"), 1, 22, yX0_nextData)
set_option maxRecDepth 100000 in
theorem cb_X0_nextData : cxB mX0_nextData 2 := ⟨wOK_1 86 (by decide +kernel) (by decide +kernel), wOK_1 488 (by decide +kernel) (by decide +kernel), by decide +kernel, by decide +kernel⟩
abbrev mX4_settledPlaces : nM := (RX4, cX4_settledPlaces, 1, some .long, 0, 0, yX4_settledPlaces)
set_option maxRecDepth 100000 in
theorem cb_X4_settledPlaces : cxB mX4_settledPlaces 0 := ⟨wOK_1 87 (by decide +kernel) (by decide +kernel), wOK_1 849 (by decide +kernel) (by decide +kernel), by decide +kernel, by decide +kernel⟩
abbrev mX0_settledByNewer : nM := (RX0, cX0_settledByNewer, 6, some .long, 1, 22, yX0_settledByNewer)
set_option maxRecDepth 100000 in
theorem cb_X0_settledByNewer : cxB mX0_settledByNewer 1 := ⟨wOK_1 86 (by decide +kernel) (by decide +kernel), wOK_1 845 (by decide +kernel) (by decide +kernel), by decide +kernel, by decide +kernel⟩
abbrev mX4_isCopyOf : nM := (RX4, cX4_isCopyOf, 2, some .boolean, 1, 22, yX4_isCopyOf)
set_option maxRecDepth 100000 in
theorem cb_X4_isCopyOf : cxB mX4_isCopyOf 1 := ⟨wOK_1 87 (by decide +kernel) (by decide +kernel), wOK_1 840 (by decide +kernel) (by decide +kernel), by decide +kernel, by decide +kernel⟩
abbrev mX0_firstCopy : nM := (RX0, cX0_firstCopy, 4, some (.object "Nodewash$Node"), 2, 43, yX0_firstCopy)
set_option maxRecDepth 100000 in
theorem cb_X0_firstCopy : cxB mX0_firstCopy 1 := ⟨wOK_1 86 (by decide +kernel) (by decide +kernel), wOK_1 836 (by decide +kernel) (by decide +kernel), by decide +kernel, by decide +kernel⟩
abbrev mX0_spend : nM := (RX0, cX0_spend, 1, some .boolean, 0, 0, yX0_spend)
set_option maxRecDepth 100000 in
theorem cb_X0_spend : cxB mX0_spend 0 := ⟨wOK_1 86 (by decide +kernel) (by decide +kernel), wOK_1 515 (by decide +kernel) (by decide +kernel), by decide +kernel, by decide +kernel⟩
abbrev mX4_copyFrom : nM := (RX4, cX4_copyFrom, 2, none, 0, 0, yX4_copyFrom)
set_option maxRecDepth 100000 in
theorem cb_X4_copyFrom : cxB mX4_copyFrom 1 := ⟨wOK_1 87 (by decide +kernel) (by decide +kernel), wOK_1 700 (by decide +kernel) (by decide +kernel), by decide +kernel, by decide +kernel⟩
abbrev mX0_begin : nM := (RX0, cX0_begin, 5, some (.object "Nodewash$Node"), 2, 40, yX0_begin)
set_option maxRecDepth 100000 in
theorem cb_X0_begin : cxB mX0_begin 2 := ⟨wOK_1 86 (by decide +kernel) (by decide +kernel), wOK_1 696 (by decide +kernel) (by decide +kernel), by decide +kernel, by decide +kernel⟩
abbrev mX0_append : nM := (RX0, cX0_append, 5, some .boolean, 3, 64, yX0_append)
set_option maxRecDepth 100000 in
theorem cb_X0_append : cxB mX0_append 2 := ⟨wOK_1 86 (by decide +kernel) (by decide +kernel), wOK_1 692 (by decide +kernel) (by decide +kernel), by decide +kernel, by decide +kernel⟩
abbrev mX4_clear : nM := (RX4, cX4_clear, 1, none, 0, 0, yX4_clear)
set_option maxRecDepth 100000 in
theorem cb_X4_clear : cxB mX4_clear 0 := ⟨wOK_1 87 (by decide +kernel) (by decide +kernel), wOK_1 520 (by decide +kernel) (by decide +kernel), by decide +kernel, by decide +kernel⟩
abbrev mX0_erase : nM := (RX0, cX0_erase, 3, some .boolean, 2, 44, yX0_erase)
set_option maxRecDepth 100000 in
theorem cb_X0_erase : cxB mX0_erase 1 := ⟨wOK_1 86 (by decide +kernel) (by decide +kernel), wOK_1 511 (by decide +kernel) (by decide +kernel), by decide +kernel, by decide +kernel⟩
abbrev mX1_init : nM := (RX1, cX1_init, 1, none, 1, 20, yX1_init)
set_option maxRecDepth 100000 in
theorem cb_X1_init : cxB mX1_init 0 := ⟨wOK_1 90 (by decide +kernel) (by decide +kernel), wOK_1 277 (by decide +kernel) (by decide +kernel), by decide +kernel, by decide +kernel⟩
abbrev mX1_begin : nM := (RX1, cX1_begin, 4, none, 0, 0, yX1_begin)
set_option maxRecDepth 100000 in
theorem cb_X1_begin : cxB mX1_begin 2 := ⟨wOK_1 90 (by decide +kernel) (by decide +kernel), wOK_1 318 (by decide +kernel) (by decide +kernel), by decide +kernel, by decide +kernel⟩
abbrev mX1_cell : nM := (RX1, cX1_cell, 2, some .int, 0, 0, yX1_cell)
set_option maxRecDepth 100000 in
theorem cb_X1_cell : cxB mX1_cell 1 := ⟨wOK_1 90 (by decide +kernel) (by decide +kernel), wOK_1 472 (by decide +kernel) (by decide +kernel), by decide +kernel, by decide +kernel⟩
abbrev mX1_setCell : nM := (RX1, cX1_setCell, 3, none, 0, 0, yX1_setCell)
set_option maxRecDepth 100000 in
theorem cb_X1_setCell : cxB mX1_setCell 2 := ⟨wOK_1 90 (by decide +kernel) (by decide +kernel), wOK_1 476 (by decide +kernel) (by decide +kernel), by decide +kernel, by decide +kernel⟩
abbrev mX4_laysAt : nM := (RX4, cX4_laysAt, 2, some .boolean, 0, 0, yX4_laysAt)
set_option maxRecDepth 100000 in
theorem cb_X4_laysAt : cxB mX4_laysAt 1 := ⟨wOK_1 87 (by decide +kernel) (by decide +kernel), wOK_1 501 (by decide +kernel) (by decide +kernel), by decide +kernel, by decide +kernel⟩
abbrev mX4_byteFor : nM := (RX4, cX4_byteFor, 2, some .int, 1, 21, yX4_byteFor)
set_option maxRecDepth 100000 in
theorem cb_X4_byteFor : cxB mX4_byteFor 1 := ⟨wOK_1 87 (by decide +kernel) (by decide +kernel), wOK_1 497 (by decide +kernel) (by decide +kernel), by decide +kernel, by decide +kernel⟩
abbrev mX1_lay : nM := (RX1, cX1_lay, 3, none, 2, 42, yX1_lay)
set_option maxRecDepth 100000 in
theorem cb_X1_lay : cxB mX1_lay 1 := ⟨wOK_1 90 (by decide +kernel) (by decide +kernel), wOK_1 492 (by decide +kernel) (by decide +kernel), by decide +kernel, by decide +kernel⟩
abbrev mX1_nameBehind : nM := (RX1, cX1_nameBehind, 4, some .int, 1, 21, yX1_nameBehind)
set_option maxRecDepth 100000 in
theorem cb_X1_nameBehind : cxB mX1_nameBehind 1 := ⟨wOK_1 90 (by decide +kernel) (by decide +kernel), wOK_1 932 (by decide +kernel) (by decide +kernel), by decide +kernel, by decide +kernel⟩
abbrev mX2_init : nM := (RX2, cX2_init, 3, none, 2, 40, yX2_init)
set_option maxRecDepth 100000 in
theorem cb_X2_init : cxB mX2_init 2 := ⟨wOK_1 92 (by decide +kernel) (by decide +kernel), wOK_1 340 (by decide +kernel) (by decide +kernel), by decide +kernel, by decide +kernel⟩
abbrev mX5_item : nM := (RX5, cX5_item, 2, some (.object "Nodewash$Item"), 0, 0, yX5_item)
set_option maxRecDepth 100000 in
theorem cb_X5_item : cxB mX5_item 1 := ⟨wOK_1 89 (by decide +kernel) (by decide +kernel), wOK_1 441 (by decide +kernel) (by decide +kernel), by decide +kernel, by decide +kernel⟩
abbrev mX5_find : nM := (RX5, cX5_find, 4, some (.object "Nodewash$Item"), 1, 21, yX5_find)
set_option maxRecDepth 100000 in
theorem cb_X5_find : cxB mX5_find 1 := ⟨wOK_1 89 (by decide +kernel) (by decide +kernel), wOK_1 464 (by decide +kernel) (by decide +kernel), by decide +kernel, by decide +kernel⟩
abbrev mX5_holds : nM := (RX5, cX5_holds, 4, some .boolean, 2, 44, yX5_holds)
set_option maxRecDepth 100000 in
theorem cb_X5_holds : cxB mX5_holds 2 := ⟨wOK_1 89 (by decide +kernel) (by decide +kernel), wOK_1 830 (by decide +kernel) (by decide +kernel), by decide +kernel, by decide +kernel⟩
abbrev mX2_isLive : nM := (RX2, cX2_isLive, 2, some .boolean, 3, 67, yX2_isLive)
set_option maxRecDepth 100000 in
theorem cb_X2_isLive : cxB mX2_isLive 1 := ⟨wOK_1 92 (by decide +kernel) (by decide +kernel), wOK_1 826 (by decide +kernel) (by decide +kernel), by decide +kernel, by decide +kernel⟩
abbrev mX4_isWhole : nM := (RX4, cX4_isWhole, 1, some .boolean, 0, 0, yX4_isWhole)
set_option maxRecDepth 100000 in
theorem cb_X4_isWhole : cxB mX4_isWhole 0 := ⟨wOK_1 87 (by decide +kernel) (by decide +kernel), wOK_1 405 (by decide +kernel) (by decide +kernel), by decide +kernel, by decide +kernel⟩
abbrev mX2_isDead : nM := (RX2, cX2_isDead, 2, some .boolean, 4, 88, yX2_isDead)
set_option maxRecDepth 100000 in
theorem cb_X2_isDead : cxB mX2_isDead 1 := ⟨wOK_1 92 (by decide +kernel) (by decide +kernel), wOK_1 822 (by decide +kernel) (by decide +kernel), by decide +kernel, by decide +kernel⟩
abbrev mX2_deadUnits : nM := (RX2, cX2_deadUnits, 5, some .int, 5, 109, yX2_deadUnits)
set_option maxRecDepth 100000 in
theorem cb_X2_deadUnits : cxB mX2_deadUnits 1 := ⟨wOK_1 92 (by decide +kernel) (by decide +kernel), wOK_1 1003 (by decide +kernel) (by decide +kernel), by decide +kernel, by decide +kernel⟩
abbrev mX2_dirtOf : nM := (RX2, cX2_dirtOf, 6, some .int, 5, 109, yX2_dirtOf)
set_option maxRecDepth 100000 in
theorem cb_X2_dirtOf : cxB mX2_dirtOf 1 := ⟨wOK_1 92 (by decide +kernel) (by decide +kernel), wOK_1 815 (by decide +kernel) (by decide +kernel), by decide +kernel, by decide +kernel⟩
abbrev mX2_chosenAt : nM := (RX2, cX2_chosenAt, 3, some (.object "Nodewash$Node"), 0, 0, yX2_chosenAt)
set_option maxRecDepth 100000 in
theorem cb_X2_chosenAt : cxB mX2_chosenAt 1 := ⟨wOK_1 92 (by decide +kernel) (by decide +kernel), wOK_1 889 (by decide +kernel) (by decide +kernel), by decide +kernel, by decide +kernel⟩
abbrev mX2_targetOf : nM := (RX2, cX2_targetOf, 2, some .int, 0, 0, yX2_targetOf)
set_option maxRecDepth 100000 in
theorem cb_X2_targetOf : cxB mX2_targetOf 1 := ⟨wOK_1 92 (by decide +kernel) (by decide +kernel), wOK_1 875 (by decide +kernel) (by decide +kernel), by decide +kernel, by decide +kernel⟩
abbrev mX2_isMissedAsName : nM := (RX2, cX2_isMissedAsName, 4, some .boolean, 2, 49, yX2_isMissedAsName)
set_option maxRecDepth 100000 in
theorem cb_X2_isMissedAsName : cxB mX2_isMissedAsName 1 := ⟨wOK_1 92 (by decide +kernel) (by decide +kernel), wOK_1 871 (by decide +kernel) (by decide +kernel), by decide +kernel, by decide +kernel⟩
abbrev mX2_isMissedAsData : nM := (RX2, cX2_isMissedAsData, 8, some .boolean, 3, 66, yX2_isMissedAsData)
set_option maxRecDepth 100000 in
theorem cb_X2_isMissedAsData : cxB mX2_isMissedAsData 1 := ⟨wOK_1 92 (by decide +kernel) (by decide +kernel), wOK_1 879 (by decide +kernel) (by decide +kernel), by decide +kernel, by decide +kernel⟩
abbrev mX2_isMissed : nM := (RX2, cX2_isMissed, 2, some .boolean, 4, 93, yX2_isMissed)
set_option maxRecDepth 100000 in
theorem cb_X2_isMissed : cxB mX2_isMissed 1 := ⟨wOK_1 92 (by decide +kernel) (by decide +kernel), wOK_1 867 (by decide +kernel) (by decide +kernel), by decide +kernel, by decide +kernel⟩
abbrev mX2_lookAt : nM := (RX2, cX2_lookAt, 2, none, 5, 114, yX2_lookAt)
set_option maxRecDepth 100000 in
theorem cb_X2_lookAt : cxB mX2_lookAt 1 := ⟨wOK_1 92 (by decide +kernel) (by decide +kernel), wOK_1 863 (by decide +kernel) (by decide +kernel), by decide +kernel, by decide +kernel⟩
abbrev mX2_choose : nM := (RX2, cX2_choose, 5, some .int, 6, 135, yX2_choose)
set_option maxRecDepth 100000 in
theorem cb_X2_choose : cxB mX2_choose 1 := ⟨wOK_1 92 (by decide +kernel) (by decide +kernel), wOK_1 859 (by decide +kernel) (by decide +kernel), by decide +kernel, by decide +kernel⟩
abbrev mX3_init : nM := (RX3, cX3_init, 3, none, 2, 40, yX3_init)
set_option maxRecDepth 100000 in
theorem cb_X3_init : cxB mX3_init 1 := ⟨wOK_1 88 (by decide +kernel) (by decide +kernel), wOK_1 220 (by decide +kernel) (by decide +kernel), by decide +kernel, by decide +kernel⟩
abbrev mX3_isFree : nM := (RX3, cX3_isFree, 3, some .boolean, 0, 0, yX3_isFree)
set_option maxRecDepth 100000 in
theorem cb_X3_isFree : cxB mX3_isFree 1 := ⟨wOK_1 88 (by decide +kernel) (by decide +kernel), wOK_1 992 (by decide +kernel) (by decide +kernel), by decide +kernel, by decide +kernel⟩
abbrev mX3_closedAt : nM := (RX3, cX3_closedAt, 2, some .int, 0, 0, yX3_closedAt)
set_option maxRecDepth 100000 in
theorem cb_X3_closedAt : cxB mX3_closedAt 1 := ⟨wOK_1 88 (by decide +kernel) (by decide +kernel), wOK_1 811 (by decide +kernel) (by decide +kernel), by decide +kernel, by decide +kernel⟩
abbrev mX3_addFree : nM := (RX3, cX3_addFree, 2, none, 0, 0, yX3_addFree)
set_option maxRecDepth 100000 in
theorem cb_X3_addFree : cxB mX3_addFree 1 := ⟨wOK_1 88 (by decide +kernel) (by decide +kernel), wOK_1 429 (by decide +kernel) (by decide +kernel), by decide +kernel, by decide +kernel⟩
abbrev mX3_addClosed : nM := (RX3, cX3_addClosed, 2, none, 0, 0, yX3_addClosed)
set_option maxRecDepth 100000 in
theorem cb_X3_addClosed : cxB mX3_addClosed 1 := ⟨wOK_1 88 (by decide +kernel) (by decide +kernel), wOK_1 433 (by decide +kernel) (by decide +kernel), by decide +kernel, by decide +kernel⟩
abbrev mX3_takeFree : nM := (RX3, cX3_takeFree, 3, some .int, 0, 0, yX3_takeFree)
set_option maxRecDepth 100000 in
theorem cb_X3_takeFree : cxB mX3_takeFree 0 := ⟨wOK_1 88 (by decide +kernel) (by decide +kernel), wOK_1 704 (by decide +kernel) (by decide +kernel), by decide +kernel, by decide +kernel⟩
abbrev mX3_dropClosed : nM := (RX3, cX3_dropClosed, 4, none, 0, 0, yX3_dropClosed)
set_option maxRecDepth 100000 in
theorem cb_X3_dropClosed : cxB mX3_dropClosed 1 := ⟨wOK_1 88 (by decide +kernel) (by decide +kernel), wOK_1 898 (by decide +kernel) (by decide +kernel), by decide +kernel, by decide +kernel⟩
abbrev mX3_fits : nM := (RX3, cX3_fits, 4, some .boolean, 0, 0, yX3_fits)
set_option maxRecDepth 100000 in
theorem cb_X3_fits : cxB mX3_fits 3 := ⟨wOK_1 88 (by decide +kernel) (by decide +kernel), wOK_1 425 (by decide +kernel) (by decide +kernel), by decide +kernel, by decide +kernel⟩
abbrev mX3_beginTrial : nM := (RX3, cX3_beginTrial, 2, none, 2, 42, yX3_beginTrial)
set_option maxRecDepth 100000 in
theorem cb_X3_beginTrial : cxB mX3_beginTrial 1 := ⟨wOK_1 88 (by decide +kernel) (by decide +kernel), wOK_1 666 (by decide +kernel) (by decide +kernel), by decide +kernel, by decide +kernel⟩
abbrev mX3_takesInTrial : nM := (RX3, cX3_takesInTrial, 2, some .boolean, 1, 23, yX3_takesInTrial)
set_option maxRecDepth 100000 in
theorem cb_X3_takesInTrial : cxB mX3_takesInTrial 1 := ⟨wOK_1 88 (by decide +kernel) (by decide +kernel), wOK_1 670 (by decide +kernel) (by decide +kernel), by decide +kernel, by decide +kernel⟩
abbrev mX4_becomeSummary : nM := (RX4, cX4_becomeSummary, 2, none, 1, 20, yX4_becomeSummary)
set_option maxRecDepth 100000 in
theorem cb_X4_becomeSummary : cxB mX4_becomeSummary 1 := ⟨wOK_1 87 (by decide +kernel) (by decide +kernel), wOK_1 688 (by decide +kernel) (by decide +kernel), by decide +kernel, by decide +kernel⟩
abbrev mX3_goOn : nM := (RX3, cX3_goOn, 1, some .boolean, 4, 88, yX3_goOn)
set_option maxRecDepth 100000 in
theorem cb_X3_goOn : cxB mX3_goOn 0 := ⟨wOK_1 88 (by decide +kernel) (by decide +kernel), wOK_1 684 (by decide +kernel) (by decide +kernel), by decide +kernel, by decide +kernel⟩
abbrev mX3_put : nM := (RX3, cX3_put, 3, some .boolean, 5, 108, yX3_put)
set_option maxRecDepth 100000 in
theorem cb_X3_put : cxB mX3_put 1 := ⟨wOK_1 88 (by decide +kernel) (by decide +kernel), wOK_1 680 (by decide +kernel) (by decide +kernel), by decide +kernel, by decide +kernel⟩
abbrev mX3_freeClosed : nM := (RX3, cX3_freeClosed, 2, some .boolean, 3, 66, yX3_freeClosed)
set_option maxRecDepth 100000 in
theorem cb_X3_freeClosed : cxB mX3_freeClosed 1 := ⟨wOK_1 88 (by decide +kernel) (by decide +kernel), wOK_1 894 (by decide +kernel) (by decide +kernel), by decide +kernel, by decide +kernel⟩
abbrev mX3_canGoOn : nM := (RX3, cX3_canGoOn, 5, some .boolean, 2, 44, yX3_canGoOn)
set_option maxRecDepth 100000 in
theorem cb_X3_canGoOn : cxB mX3_canGoOn 1 := ⟨wOK_1 88 (by decide +kernel) (by decide +kernel), wOK_1 418 (by decide +kernel) (by decide +kernel), by decide +kernel, by decide +kernel⟩
abbrev mX3_restart : nM := (RX3, cX3_restart, 3, none, 3, 68, yX3_restart)
set_option maxRecDepth 100000 in
theorem cb_X3_restart : cxB mX3_restart 0 := ⟨wOK_1 88 (by decide +kernel) (by decide +kernel), wOK_1 413 (by decide +kernel) (by decide +kernel), by decide +kernel, by decide +kernel⟩
abbrev mX3_eraseBroken : nM := (RX3, cX3_eraseBroken, 2, some .boolean, 3, 66, yX3_eraseBroken)
set_option maxRecDepth 100000 in
theorem cb_X3_eraseBroken : cxB mX3_eraseBroken 0 := ⟨wOK_1 88 (by decide +kernel) (by decide +kernel), wOK_1 507 (by decide +kernel) (by decide +kernel), by decide +kernel, by decide +kernel⟩
abbrev mX4_becomeData : nM := (RX4, cX4_becomeData, 5, none, 1, 20, yX4_becomeData)
set_option maxRecDepth 100000 in
theorem cb_X4_becomeData : cxB mX4_becomeData 4 := ⟨wOK_1 87 (by decide +kernel) (by decide +kernel), wOK_1 675 (by decide +kernel) (by decide +kernel), by decide +kernel, by decide +kernel⟩
abbrev mX4_giveBytes : nM := (RX4, cX4_giveBytes, 4, none, 0, 0, yX4_giveBytes)
set_option maxRecDepth 100000 in
theorem cb_X4_giveBytes : cxB mX4_giveBytes 2 := ⟨wOK_1 87 (by decide +kernel) (by decide +kernel), wOK_1 782 (by decide +kernel) (by decide +kernel), by decide +kernel, by decide +kernel⟩
abbrev mX4_becomeName : nM := (RX4, cX4_becomeName, 6, none, 1, 20, yX4_becomeName)
set_option maxRecDepth 100000 in
theorem cb_X4_becomeName : cxB mX4_becomeName 5 := ⟨wOK_1 87 (by decide +kernel) (by decide +kernel), wOK_1 712 (by decide +kernel) (by decide +kernel), by decide +kernel, by decide +kernel⟩
abbrev mJ9_max : nM := (RJ9, cJ9_max, 2, some .int, 0, 0, yJ9_max)
set_option maxRecDepth 100000 in
theorem cb_J9_max : cxB mJ9_max 2 := ⟨wOK_1 91 (by decide +kernel) (by decide +kernel), wOK_1 321 (by decide +kernel) (by decide +kernel), by decide +kernel, by decide +kernel⟩
abbrev mX5_add : nM := (RX5, cX5_add, 4, some (.object "Nodewash$Item"), 2, 40, yX5_add)
set_option maxRecDepth 100000 in
theorem cb_X5_add : cxB mX5_add 2 := ⟨wOK_1 89 (by decide +kernel) (by decide +kernel), wOK_1 273 (by decide +kernel) (by decide +kernel), by decide +kernel, by decide +kernel⟩
abbrev mX5_empty : nM := (RX5, cX5_empty, 1, none, 3, 63, yX5_empty)
set_option maxRecDepth 100000 in
theorem cb_X5_empty : cxB mX5_empty 0 := ⟨wOK_1 89 (by decide +kernel) (by decide +kernel), wOK_1 269 (by decide +kernel) (by decide +kernel), by decide +kernel, by decide +kernel⟩
abbrev mX5_init : nM := (RX5, cX5_init, 1, none, 4, 83, yX5_init)
set_option maxRecDepth 100000 in
theorem cb_X5_init : cxB mX5_init 0 := ⟨wOK_1 89 (by decide +kernel) (by decide +kernel), wOK_1 262 (by decide +kernel) (by decide +kernel), by decide +kernel, by decide +kernel⟩
abbrev mX5_drop : nM := (RX5, cX5_drop, 4, none, 1, 21, yX5_drop)
set_option maxRecDepth 100000 in
theorem cb_X5_drop : cxB mX5_drop 1 := ⟨wOK_1 89 (by decide +kernel) (by decide +kernel), wOK_1 480 (by decide +kernel) (by decide +kernel), by decide +kernel, by decide +kernel⟩
abbrev mX5_assign : nM := (RX5, cX5_assign, 5, none, 2, 44, yX5_assign)
set_option maxRecDepth 100000 in
theorem cb_X5_assign : cxB mX5_assign 3 := ⟨wOK_1 89 (by decide +kernel) (by decide +kernel), wOK_1 468 (by decide +kernel) (by decide +kernel), by decide +kernel, by decide +kernel⟩
abbrev mX5_reach : nM := (RX5, cX5_reach, 3, some .int, 0, 0, yX5_reach)
set_option maxRecDepth 100000 in
theorem cb_X5_reach : cxB mX5_reach 2 := ⟨wOK_1 89 (by decide +kernel) (by decide +kernel), wOK_1 767 (by decide +kernel) (by decide +kernel), by decide +kernel, by decide +kernel⟩
abbrev mX5_leadsTo : nM := (RX5, cX5_leadsTo, 7, some .boolean, 2, 44, yX5_leadsTo)
set_option maxRecDepth 100000 in
theorem cb_X5_leadsTo : cxB mX5_leadsTo 2 := ⟨wOK_1 89 (by decide +kernel) (by decide +kernel), wOK_1 763 (by decide +kernel) (by decide +kernel), by decide +kernel, by decide +kernel⟩
abbrev mX5_readNames : nM := (RX5, cX5_readNames, 6, none, 3, 68, yX5_readNames)
set_option maxRecDepth 100000 in
theorem cb_X5_readNames : cxB mX5_readNames 2 := ⟨wOK_1 89 (by decide +kernel) (by decide +kernel), wOK_1 445 (by decide +kernel) (by decide +kernel), by decide +kernel, by decide +kernel⟩
abbrev mX5_readContent : nM := (RX5, cX5_readContent, 6, none, 3, 64, yX5_readContent)
set_option maxRecDepth 100000 in
theorem cb_X5_readContent : cxB mX5_readContent 2 := ⟨wOK_1 89 (by decide +kernel) (by decide +kernel), wOK_1 484 (by decide +kernel) (by decide +kernel), by decide +kernel, by decide +kernel⟩
abbrev mX5_restart : nM := (RX5, cX5_restart, 4, none, 4, 93, yX5_restart)
set_option maxRecDepth 100000 in
theorem cb_X5_restart : cxB mX5_restart 1 := ⟨wOK_1 89 (by decide +kernel) (by decide +kernel), wOK_1 437 (by decide +kernel) (by decide +kernel), by decide +kernel, by decide +kernel⟩
abbrev mX6_init : nM := (RX6, cX6_init, 1, none, 5, 103, yX6_init)
set_option maxRecDepth 100000 in
theorem cb_X6_init : cxB mX6_init 0 := ⟨wOK_1 85 (by decide +kernel) (by decide +kernel), wOK_1 104 (by decide +kernel) (by decide +kernel), by decide +kernel, by decide +kernel⟩
abbrev mX6_refuseInDark : nM := (RX6, cX6_refuseInDark, 1, none, 6, 90, yX6_refuseInDark)
set_option maxRecDepth 100000 in
theorem cb_X6_refuseInDark : cxB mX6_refuseInDark 0 := ⟨wOK_1 85 (by decide +kernel) (by decide +kernel), wOK_1 546 (by decide +kernel) (by decide +kernel), by decide +kernel, by decide +kernel⟩
abbrev mX6_itemThere : nM := (RX6, cX6_itemThere, 3, some (.object "Nodewash$Item"), 7, 110, yX6_itemThere)
set_option maxRecDepth 100000 in
theorem cb_X6_itemThere : cxB mX6_itemThere 1 := ⟨wOK_1 85 (by decide +kernel) (by decide +kernel), wOK_1 542 (by decide +kernel) (by decide +kernel), by decide +kernel, by decide +kernel⟩
abbrev mX6_directoryThere : nM := (RX6, cX6_directoryThere, 3, some (.object "Nodewash$Item"), 8, 132, yX6_directoryThere)
set_option maxRecDepth 100000 in
theorem cb_X6_directoryThere : cxB mX6_directoryThere 1 := ⟨wOK_1 85 (by decide +kernel) (by decide +kernel), wOK_1 538 (by decide +kernel) (by decide +kernel), by decide +kernel, by decide +kernel⟩
abbrev mX6_refuseWrongName : nM := (RX6, cX6_refuseWrongName, 2, none, 6, 90, yX6_refuseWrongName)
set_option maxRecDepth 100000 in
theorem cb_X6_refuseWrongName : cxB mX6_refuseWrongName 1 := ⟨wOK_1 85 (by decide +kernel) (by decide +kernel), wOK_1 636 (by decide +kernel) (by decide +kernel), by decide +kernel, by decide +kernel⟩
abbrev mX6_refuseTakenName : nM := (RX6, cX6_refuseTakenName, 3, none, 6, 90, yX6_refuseTakenName)
set_option maxRecDepth 100000 in
theorem cb_X6_refuseTakenName : cxB mX6_refuseTakenName 2 := ⟨wOK_1 85 (by decide +kernel) (by decide +kernel), wOK_1 656 (by decide +kernel) (by decide +kernel), by decide +kernel, by decide +kernel⟩
abbrev mX6_refuseWithoutRoom : nM := (RX6, cX6_refuseWithoutRoom, 3, none, 6, 90, yX6_refuseWithoutRoom)
set_option maxRecDepth 100000 in
theorem cb_X6_refuseWithoutRoom : cxB mX6_refuseWithoutRoom 2 := ⟨wOK_1 85 (by decide +kernel) (by decide +kernel), wOK_1 662 (by decide +kernel) (by decide +kernel), by decide +kernel, by decide +kernel⟩
abbrev mX6_putName : nM := (RX6, cX6_putName, 5, some .boolean, 6, 130, yX6_putName)
set_option maxRecDepth 100000 in
theorem cb_X6_putName : cxB mX6_putName 4 := ⟨wOK_1 85 (by decide +kernel) (by decide +kernel), wOK_1 708 (by decide +kernel) (by decide +kernel), by decide +kernel, by decide +kernel⟩
abbrev mX6_create : nM := (RX6, cX6_create, 6, some .int, 9, 154, yX6_create)
set_option maxRecDepth 100000 in
theorem cb_X6_create : cxB mX6_create 2 := ⟨wOK_1 85 (by decide +kernel) (by decide +kernel), wOK_1 534 (by decide +kernel) (by decide +kernel), by decide +kernel, by decide +kernel⟩
abbrev mX6_makeDirectory : nM := (RX6, cX6_makeDirectory, 5, some .int, 9, 154, yX6_makeDirectory)
set_option maxRecDepth 100000 in
theorem cb_X6_makeDirectory : cxB mX6_makeDirectory 2 := ⟨wOK_1 85 (by decide +kernel) (by decide +kernel), wOK_1 721 (by decide +kernel) (by decide +kernel), by decide +kernel, by decide +kernel⟩
abbrev mX6_fileThere : nM := (RX6, cX6_fileThere, 3, some (.object "Nodewash$Item"), 8, 132, yX6_fileThere)
set_option maxRecDepth 100000 in
theorem cb_X6_fileThere : cxB mX6_fileThere 1 := ⟨wOK_1 85 (by decide +kernel) (by decide +kernel), wOK_1 732 (by decide +kernel) (by decide +kernel), by decide +kernel, by decide +kernel⟩
abbrev mX6_link : nM := (RX6, cX6_link, 6, some .int, 9, 154, yX6_link)
set_option maxRecDepth 100000 in
theorem cb_X6_link : cxB mX6_link 3 := ⟨wOK_1 85 (by decide +kernel) (by decide +kernel), wOK_1 728 (by decide +kernel) (by decide +kernel), by decide +kernel, by decide +kernel⟩
abbrev mX6_itemNamed : nM := (RX6, cX6_itemNamed, 4, some (.object "Nodewash$Item"), 6, 90, yX6_itemNamed)
set_option maxRecDepth 100000 in
theorem cb_X6_itemNamed : cxB mX6_itemNamed 2 := ⟨wOK_1 85 (by decide +kernel) (by decide +kernel), wOK_1 744 (by decide +kernel) (by decide +kernel), by decide +kernel, by decide +kernel⟩
abbrev mX6_unlink : nM := (RX6, cX6_unlink, 6, some .int, 9, 154, yX6_unlink)
set_option maxRecDepth 100000 in
theorem cb_X6_unlink : cxB mX6_unlink 2 := ⟨wOK_1 85 (by decide +kernel) (by decide +kernel), wOK_1 740 (by decide +kernel) (by decide +kernel), by decide +kernel, by decide +kernel⟩
abbrev mX6_refuseWrongMove : nM := (RX6, cX6_refuseWrongMove, 4, none, 6, 90, yX6_refuseWrongMove)
set_option maxRecDepth 100000 in
theorem cb_X6_refuseWrongMove : cxB mX6_refuseWrongMove 3 := ⟨wOK_1 85 (by decide +kernel) (by decide +kernel), wOK_1 757 (by decide +kernel) (by decide +kernel), by decide +kernel, by decide +kernel⟩
abbrev mX6_rename : nM := (RX6, cX6_rename, 9, some .int, 9, 154, yX6_rename)
set_option maxRecDepth 100000 in
theorem cb_X6_rename : cxB mX6_rename 4 := ⟨wOK_1 85 (by decide +kernel) (by decide +kernel), wOK_1 753 (by decide +kernel) (by decide +kernel), by decide +kernel, by decide +kernel⟩
abbrev mX6_putContent : nM := (RX6, cX6_putContent, 2, some .boolean, 6, 130, yX6_putContent)
set_option maxRecDepth 100000 in
theorem cb_X6_putContent : cxB mX6_putContent 1 := ⟨wOK_1 85 (by decide +kernel) (by decide +kernel), wOK_1 786 (by decide +kernel) (by decide +kernel), by decide +kernel, by decide +kernel⟩
abbrev mX6_write : nM := (RX6, cX6_write, 7, some .int, 9, 154, yX6_write)
set_option maxRecDepth 100000 in
theorem cb_X6_write : cxB mX6_write 4 := ⟨wOK_1 85 (by decide +kernel) (by decide +kernel), wOK_1 775 (by decide +kernel) (by decide +kernel), by decide +kernel, by decide +kernel⟩
abbrev mX6_truncate : nM := (RX6, cX6_truncate, 5, some .int, 9, 154, yX6_truncate)
set_option maxRecDepth 100000 in
theorem cb_X6_truncate : cxB mX6_truncate 2 := ⟨wOK_1 85 (by decide +kernel) (by decide +kernel), wOK_1 794 (by decide +kernel) (by decide +kernel), by decide +kernel, by decide +kernel⟩
abbrev mJ9_floorMod : nM := (RJ9, cJ9_floorMod, 3, some .int, 0, 0, yJ9_floorMod)
set_option maxRecDepth 100000 in
theorem cb_J9_floorMod : cxB mJ9_floorMod 2 := ⟨wOK_1 91 (by decide +kernel) (by decide +kernel), wOK_1 854 (by decide +kernel) (by decide +kernel), by decide +kernel, by decide +kernel⟩
abbrev mX6_victim : nM := (RX6, cX6_victim, 8, some .int, 6, 134, yX6_victim)
set_option maxRecDepth 100000 in
theorem cb_X6_victim : cxB mX6_victim 1 := ⟨wOK_1 85 (by decide +kernel) (by decide +kernel), wOK_1 807 (by decide +kernel) (by decide +kernel), by decide +kernel, by decide +kernel⟩
abbrev mX6_refuseWithoutRoomFor : nM := (RX6, cX6_refuseWithoutRoomFor, 3, none, 6, 90, yX6_refuseWithoutRoomFor)
set_option maxRecDepth 100000 in
theorem cb_X6_refuseWithoutRoomFor : cxB mX6_refuseWithoutRoomFor 1 := ⟨wOK_1 85 (by decide +kernel) (by decide +kernel), wOK_1 885 (by decide +kernel) (by decide +kernel), by decide +kernel, by decide +kernel⟩
abbrev mX6_collect : nM := (RX6, cX6_collect, 5, some .int, 7, 161, yX6_collect)
set_option maxRecDepth 100000 in
theorem cb_X6_collect : cxB mX6_collect 1 := ⟨wOK_1 85 (by decide +kernel) (by decide +kernel), wOK_1 802 (by decide +kernel) (by decide +kernel), by decide +kernel, by decide +kernel⟩
abbrev mX6_cut : nM := (RX6, cX6_cut, 3, some .int, 6, 90, yX6_cut)
set_option maxRecDepth 100000 in
theorem cb_X6_cut : cxB mX6_cut 1 := ⟨wOK_1 85 (by decide +kernel) (by decide +kernel), wOK_1 905 (by decide +kernel) (by decide +kernel), by decide +kernel, by decide +kernel⟩
abbrev mX6_unitsToRead : nM := (RX6, cX6_unitsToRead, 5, some .int, 2, 44, yX6_unitsToRead)
set_option maxRecDepth 100000 in
theorem cb_X6_unitsToRead : cxB mX6_unitsToRead 2 := ⟨wOK_1 85 (by decide +kernel) (by decide +kernel), wOK_1 385 (by decide +kernel) (by decide +kernel), by decide +kernel, by decide +kernel⟩
abbrev mX6_mount : nM := (RX6, cX6_mount, 4, some .int, 5, 116, yX6_mount)
set_option maxRecDepth 100000 in
theorem cb_X6_mount : cxB mX6_mount 1 := ⟨wOK_1 85 (by decide +kernel) (by decide +kernel), wOK_1 381 (by decide +kernel) (by decide +kernel), by decide +kernel, by decide +kernel⟩
abbrev mX6_isDark : nM := (RX6, cX6_isDark, 1, some .boolean, 0, 0, yX6_isDark)
set_option maxRecDepth 100000 in
theorem cb_X6_isDark : cxB mX6_isDark 0 := ⟨wOK_1 85 (by decide +kernel) (by decide +kernel), wOK_1 524 (by decide +kernel) (by decide +kernel), by decide +kernel, by decide +kernel⟩
abbrev mX6_lookUp : nM := (RX6, cX6_lookUp, 5, some .int, 9, 154, yX6_lookUp)
set_option maxRecDepth 100000 in
theorem cb_X6_lookUp : cxB mX6_lookUp 2 := ⟨wOK_1 85 (by decide +kernel) (by decide +kernel), wOK_1 913 (by decide +kernel) (by decide +kernel), by decide +kernel, by decide +kernel⟩
abbrev mX6_names : nM := (RX6, cX6_names, 2, some .int, 9, 154, yX6_names)
set_option maxRecDepth 100000 in
theorem cb_X6_names : cxB mX6_names 1 := ⟨wOK_1 85 (by decide +kernel) (by decide +kernel), wOK_1 920 (by decide +kernel) (by decide +kernel), by decide +kernel, by decide +kernel⟩
abbrev mX6_nameAt : nM := (RX6, cX6_nameAt, 4, some .int, 9, 154, yX6_nameAt)
set_option maxRecDepth 100000 in
theorem cb_X6_nameAt : cxB mX6_nameAt 2 := ⟨wOK_1 85 (by decide +kernel) (by decide +kernel), wOK_1 927 (by decide +kernel) (by decide +kernel), by decide +kernel, by decide +kernel⟩
abbrev mX6_isDirectory : nM := (RX6, cX6_isDirectory, 2, some .boolean, 8, 132, yX6_isDirectory)
set_option maxRecDepth 100000 in
theorem cb_X6_isDirectory : cxB mX6_isDirectory 1 := ⟨wOK_1 85 (by decide +kernel) (by decide +kernel), wOK_1 940 (by decide +kernel) (by decide +kernel), by decide +kernel, by decide +kernel⟩
abbrev mX6_links : nM := (RX6, cX6_links, 2, some .int, 8, 132, yX6_links)
set_option maxRecDepth 100000 in
theorem cb_X6_links : cxB mX6_links 1 := ⟨wOK_1 85 (by decide +kernel) (by decide +kernel), wOK_1 947 (by decide +kernel) (by decide +kernel), by decide +kernel, by decide +kernel⟩
abbrev mX6_length : nM := (RX6, cX6_length, 2, some .int, 9, 154, yX6_length)
set_option maxRecDepth 100000 in
theorem cb_X6_length : cxB mX6_length 1 := ⟨wOK_1 85 (by decide +kernel) (by decide +kernel), wOK_1 954 (by decide +kernel) (by decide +kernel), by decide +kernel, by decide +kernel⟩
abbrev mX6_refuseWrongPlace : nM := (RX6, cX6_refuseWrongPlace, 3, none, 6, 90, yX6_refuseWrongPlace)
set_option maxRecDepth 100000 in
theorem cb_X6_refuseWrongPlace : cxB mX6_refuseWrongPlace 2 := ⟨wOK_1 85 (by decide +kernel) (by decide +kernel), wOK_1 965 (by decide +kernel) (by decide +kernel), by decide +kernel, by decide +kernel⟩
abbrev mX6_byteAt : nM := (RX6, cX6_byteAt, 4, some .int, 9, 154, yX6_byteAt)
set_option maxRecDepth 100000 in
theorem cb_X6_byteAt : cxB mX6_byteAt 2 := ⟨wOK_1 85 (by decide +kernel) (by decide +kernel), wOK_1 961 (by decide +kernel) (by decide +kernel), by decide +kernel, by decide +kernel⟩
abbrev mX6_byteByNodes : nM := (RX6, cX6_byteByNodes, 4, some .int, 9, 154, yX6_byteByNodes)
set_option maxRecDepth 100000 in
theorem cb_X6_byteByNodes : cxB mX6_byteByNodes 2 := ⟨wOK_1 85 (by decide +kernel) (by decide +kernel), wOK_1 973 (by decide +kernel) (by decide +kernel), by decide +kernel, by decide +kernel⟩
abbrev mX6_refuseWrongBlock : nM := (RX6, cX6_refuseWrongBlock, 2, none, 6, 90, yX6_refuseWrongBlock)
set_option maxRecDepth 100000 in
theorem cb_X6_refuseWrongBlock : cxB mX6_refuseWrongBlock 1 := ⟨wOK_1 85 (by decide +kernel) (by decide +kernel), wOK_1 987 (by decide +kernel) (by decide +kernel), by decide +kernel, by decide +kernel⟩
abbrev mX6_state : nM := (RX6, cX6_state, 2, some .int, 7, 134, yX6_state)
set_option maxRecDepth 100000 in
theorem cb_X6_state : cxB mX6_state 1 := ⟨wOK_1 85 (by decide +kernel) (by decide +kernel), wOK_1 983 (by decide +kernel) (by decide +kernel), by decide +kernel, by decide +kernel⟩
abbrev mX6_dead : nM := (RX6, cX6_dead, 2, some .int, 7, 133, yX6_dead)
set_option maxRecDepth 100000 in
theorem cb_X6_dead : cxB mX6_dead 1 := ⟨wOK_1 85 (by decide +kernel) (by decide +kernel), wOK_1 999 (by decide +kernel) (by decide +kernel), by decide +kernel, by decide +kernel⟩
abbrev mX6_toCopy : nM := (RX6, cX6_toCopy, 2, some .int, 7, 159, yX6_toCopy)
set_option maxRecDepth 100000 in
theorem cb_X6_toCopy : cxB mX6_toCopy 1 := ⟨wOK_1 85 (by decide +kernel) (by decide +kernel), wOK_1 1010 (by decide +kernel) (by decide +kernel), by decide +kernel, by decide +kernel⟩
abbrev mX6_written : nM := (RX6, cX6_written, 2, some .int, 7, 111, yX6_written)
set_option maxRecDepth 100000 in
theorem cb_X6_written : cxB mX6_written 1 := ⟨wOK_1 85 (by decide +kernel) (by decide +kernel), wOK_1 1017 (by decide +kernel) (by decide +kernel), by decide +kernel, by decide +kernel⟩
abbrev mX6_nodes : nM := (RX6, cX6_nodes, 2, some .int, 7, 111, yX6_nodes)
set_option maxRecDepth 100000 in
theorem cb_X6_nodes : cxB mX6_nodes 1 := ⟨wOK_1 85 (by decide +kernel) (by decide +kernel), wOK_1 1024 (by decide +kernel) (by decide +kernel), by decide +kernel, by decide +kernel⟩
abbrev mX6_node : nM := (RX6, cX6_node, 4, some .long, 7, 111, yX6_node)
set_option maxRecDepth 100000 in
theorem cb_X6_node : cxB mX6_node 2 := ⟨wOK_1 85 (by decide +kernel) (by decide +kernel), wOK_1 1031 (by decide +kernel) (by decide +kernel), by decide +kernel, by decide +kernel⟩
abbrev mX6_erased : nM := (RX6, cX6_erased, 2, some .int, 7, 111, yX6_erased)
set_option maxRecDepth 100000 in
theorem cb_X6_erased : cxB mX6_erased 1 := ⟨wOK_1 85 (by decide +kernel) (by decide +kernel), wOK_1 1043 (by decide +kernel) (by decide +kernel), by decide +kernel, by decide +kernel⟩
abbrev mX7_init : nM := (RX7, cX7_init, 2, none, 1, 20, yX7_init)
set_option maxRecDepth 100000 in
theorem cb_X7_init : cxB mX7_init 0 := ⟨wOK_1 93 (by decide +kernel) (by decide +kernel), wOK_1 1052 (by decide +kernel) (by decide +kernel), by decide +kernel, by decide +kernel⟩
abbrev mX7_thrown : nM := (RX7, cX7_thrown, 1, some .int, 0, 0, yX7_thrown)
set_option maxRecDepth 100000 in
theorem cb_X7_thrown : cxB mX7_thrown 0 := ⟨wOK_1 93 (by decide +kernel) (by decide +kernel), wOK_1 1186 (by decide +kernel) (by decide +kernel), by decide +kernel, by decide +kernel⟩
abbrev mX7_in : nM := (RX7, cX7_in, 3, some .boolean, 0, 0, yX7_in)
set_option maxRecDepth 100000 in
theorem cb_X7_in : cxB mX7_in 3 := ⟨wOK_1 93 (by decide +kernel) (by decide +kernel), wOK_1 1245 (by decide +kernel) (by decide +kernel), by decide +kernel, by decide +kernel⟩
abbrev mX7_isWhole : nM := (RX7, cX7_isWhole, 2, some .boolean, 0, 0, yX7_isWhole)
set_option maxRecDepth 100000 in
theorem cb_X7_isWhole : cxB mX7_isWhole 1 := ⟨wOK_1 93 (by decide +kernel) (by decide +kernel), wOK_1 1210 (by decide +kernel) (by decide +kernel), by decide +kernel, by decide +kernel⟩
abbrev mX7_areCopies : nM := (RX7, cX7_areCopies, 3, some .boolean, 0, 0, yX7_areCopies)
set_option maxRecDepth 100000 in
theorem cb_X7_areCopies : cxB mX7_areCopies 2 := ⟨wOK_1 93 (by decide +kernel) (by decide +kernel), wOK_1 1360 (by decide +kernel) (by decide +kernel), by decide +kernel, by decide +kernel⟩
abbrev mX7_counts : nM := (RX7, cX7_counts, 4, some .boolean, 0, 0, yX7_counts)
set_option maxRecDepth 100000 in
theorem cb_X7_counts : cxB mX7_counts 1 := ⟨wOK_1 93 (by decide +kernel) (by decide +kernel), wOK_1 1222 (by decide +kernel) (by decide +kernel), by decide +kernel, by decide +kernel⟩
abbrev mX7_layThere : nM := (RX7, cX7_layThere, 3, none, 1, 23, yX7_layThere)
set_option maxRecDepth 100000 in
theorem cb_X7_layThere : cxB mX7_layThere 0 := ⟨wOK_1 93 (by decide +kernel) (by decide +kernel), wOK_1 1218 (by decide +kernel) (by decide +kernel), by decide +kernel, by decide +kernel⟩
abbrev mX7_addEntry : nM := (RX7, cX7_addEntry, 5, none, 0, 0, yX7_addEntry)
set_option maxRecDepth 100000 in
theorem cb_X7_addEntry : cxB mX7_addEntry 3 := ⟨wOK_1 93 (by decide +kernel) (by decide +kernel), wOK_1 1226 (by decide +kernel) (by decide +kernel), by decide +kernel, by decide +kernel⟩
abbrev mX7_addFile : nM := (RX7, cX7_addFile, 5, none, 0, 0, yX7_addFile)
set_option maxRecDepth 100000 in
theorem cb_X7_addFile : cxB mX7_addFile 2 := ⟨wOK_1 93 (by decide +kernel) (by decide +kernel), wOK_1 1230 (by decide +kernel) (by decide +kernel), by decide +kernel, by decide +kernel⟩
abbrev mX7_nextData : nM := (RX7, cX7_nextData, 6, some .int, 0, 0, yX7_nextData)
set_option maxRecDepth 100000 in
theorem cb_X7_nextData : cxB mX7_nextData 2 := ⟨wOK_1 93 (by decide +kernel) (by decide +kernel), wOK_1 1238 (by decide +kernel) (by decide +kernel), by decide +kernel, by decide +kernel⟩
abbrev mX7_layContent : nM := (RX7, cX7_layContent, 6, none, 1, 25, yX7_layContent)
set_option maxRecDepth 100000 in
theorem cb_X7_layContent : cxB mX7_layContent 1 := ⟨wOK_1 93 (by decide +kernel) (by decide +kernel), wOK_1 1234 (by decide +kernel) (by decide +kernel), by decide +kernel, by decide +kernel⟩
abbrev mX7_lay : nM := (RX7, cX7_lay, 3, none, 2, 50, yX7_lay)
set_option maxRecDepth 100000 in
theorem cb_X7_lay : cxB mX7_lay 1 := ⟨wOK_1 93 (by decide +kernel) (by decide +kernel), wOK_1 1214 (by decide +kernel) (by decide +kernel), by decide +kernel, by decide +kernel⟩
abbrev mX7_areSame : nM := (RX7, cX7_areSame, 4, some .boolean, 0, 0, yX7_areSame)
set_option maxRecDepth 100000 in
theorem cb_X7_areSame : cxB mX7_areSame 0 := ⟨wOK_1 93 (by decide +kernel) (by decide +kernel), wOK_1 1372 (by decide +kernel) (by decide +kernel), by decide +kernel, by decide +kernel⟩
abbrev mX7_layPresent : nM := (RX7, cX7_layPresent, 2, none, 1, 21, yX7_layPresent)
set_option maxRecDepth 100000 in
theorem cb_X7_layPresent : cxB mX7_layPresent 0 := ⟨wOK_1 93 (by decide +kernel) (by decide +kernel), wOK_1 1206 (by decide +kernel) (by decide +kernel), by decide +kernel, by decide +kernel⟩
abbrev mX7_layNow : nM := (RX7, cX7_layNow, 1, none, 3, 72, yX7_layNow)
set_option maxRecDepth 100000 in
theorem cb_X7_layNow : cxB mX7_layNow 0 := ⟨wOK_1 93 (by decide +kernel) (by decide +kernel), wOK_1 1202 (by decide +kernel) (by decide +kernel), by decide +kernel, by decide +kernel⟩
abbrev mX7_entry : nM := (RX7, cX7_entry, 4, some .int, 4, 92, yX7_entry)
set_option maxRecDepth 100000 in
theorem cb_X7_entry : cxB mX7_entry 2 := ⟨wOK_1 93 (by decide +kernel) (by decide +kernel), wOK_1 1249 (by decide +kernel) (by decide +kernel), by decide +kernel, by decide +kernel⟩
abbrev mX7_targetOf : nM := (RX7, cX7_targetOf, 4, some .int, 5, 115, yX7_targetOf)
set_option maxRecDepth 100000 in
theorem cb_X7_targetOf : cxB mX7_targetOf 2 := ⟨wOK_1 93 (by decide +kernel) (by decide +kernel), wOK_1 1412 (by decide +kernel) (by decide +kernel), by decide +kernel, by decide +kernel⟩
abbrev mX7_hasDirectory : nM := (RX7, cX7_hasDirectory, 4, some .boolean, 4, 92, yX7_hasDirectory)
set_option maxRecDepth 100000 in
theorem cb_X7_hasDirectory : cxB mX7_hasDirectory 1 := ⟨wOK_1 93 (by decide +kernel) (by decide +kernel), wOK_1 1198 (by decide +kernel) (by decide +kernel), by decide +kernel, by decide +kernel⟩
abbrev mX7_fileAt : nM := (RX7, cX7_fileAt, 3, some .int, 4, 92, yX7_fileAt)
set_option maxRecDepth 100000 in
theorem cb_X7_fileAt : cxB mX7_fileAt 1 := ⟨wOK_1 93 (by decide +kernel) (by decide +kernel), wOK_1 1304 (by decide +kernel) (by decide +kernel), by decide +kernel, by decide +kernel⟩
abbrev mX7_namesIn : nM := (RX7, cX7_namesIn, 4, some .int, 4, 92, yX7_namesIn)
set_option maxRecDepth 100000 in
theorem cb_X7_namesIn : cxB mX7_namesIn 1 := ⟨wOK_1 93 (by decide +kernel) (by decide +kernel), wOK_1 1316 (by decide +kernel) (by decide +kernel), by decide +kernel, by decide +kernel⟩
abbrev mX7_linksOf : nM := (RX7, cX7_linksOf, 4, some .int, 4, 92, yX7_linksOf)
set_option maxRecDepth 100000 in
theorem cb_X7_linksOf : cxB mX7_linksOf 1 := ⟨wOK_1 93 (by decide +kernel) (by decide +kernel), wOK_1 1308 (by decide +kernel) (by decide +kernel), by decide +kernel, by decide +kernel⟩
abbrev mX7_spends : nM := (RX7, cX7_spends, 1, some .boolean, 0, 0, yX7_spends)
set_option maxRecDepth 100000 in
theorem cb_X7_spends : cxB mX7_spends 0 := ⟨wOK_1 93 (by decide +kernel) (by decide +kernel), wOK_1 1284 (by decide +kernel) (by decide +kernel), by decide +kernel, by decide +kernel⟩
abbrev mX7_writeOut : nM := (RX7, cX7_writeOut, 4, some .boolean, 1, 20, yX7_writeOut)
set_option maxRecDepth 100000 in
theorem cb_X7_writeOut : cxB mX7_writeOut 1 := ⟨wOK_1 93 (by decide +kernel) (by decide +kernel), wOK_1 1280 (by decide +kernel) (by decide +kernel), by decide +kernel, by decide +kernel⟩
abbrev mX7_freshNode : nM := (RX7, cX7_freshNode, 1, some .int, 0, 0, yX7_freshNode)
set_option maxRecDepth 100000 in
theorem cb_X7_freshNode : cxB mX7_freshNode 0 := ⟨wOK_1 93 (by decide +kernel) (by decide +kernel), wOK_1 1276 (by decide +kernel) (by decide +kernel), by decide +kernel, by decide +kernel⟩
abbrev mX7_fits : nM := (RX7, cX7_fits, 3, some .boolean, 0, 0, yX7_fits)
set_option maxRecDepth 100000 in
theorem cb_X7_fits : cxB mX7_fits 3 := ⟨wOK_1 93 (by decide +kernel) (by decide +kernel), wOK_1 1260 (by decide +kernel) (by decide +kernel), by decide +kernel, by decide +kernel⟩
abbrev mX7_makesRoom : nM := (RX7, cX7_makesRoom, 3, some .boolean, 2, 43, yX7_makesRoom)
set_option maxRecDepth 100000 in
theorem cb_X7_makesRoom : cxB mX7_makesRoom 1 := ⟨wOK_1 93 (by decide +kernel) (by decide +kernel), wOK_1 1272 (by decide +kernel) (by decide +kernel), by decide +kernel, by decide +kernel⟩
abbrev mX7_putData : nM := (RX7, cX7_putData, 9, some .boolean, 3, 65, yX7_putData)
set_option maxRecDepth 100000 in
theorem cb_X7_putData : cxB mX7_putData 6 := ⟨wOK_1 93 (by decide +kernel) (by decide +kernel), wOK_1 1268 (by decide +kernel) (by decide +kernel), by decide +kernel, by decide +kernel⟩
abbrev mX7_putName : nM := (RX7, cX7_putName, 7, some .boolean, 3, 65, yX7_putName)
set_option maxRecDepth 100000 in
theorem cb_X7_putName : cxB mX7_putName 5 := ⟨wOK_1 93 (by decide +kernel) (by decide +kernel), wOK_1 1292 (by decide +kernel) (by decide +kernel), by decide +kernel, by decide +kernel⟩
abbrev mX7_writeData : nM := (RX7, cX7_writeData, 7, some .boolean, 4, 93, yX7_writeData)
set_option maxRecDepth 100000 in
theorem cb_X7_writeData : cxB mX7_writeData 5 := ⟨wOK_1 93 (by decide +kernel) (by decide +kernel), wOK_1 1264 (by decide +kernel) (by decide +kernel), by decide +kernel, by decide +kernel⟩
abbrev mX7_writeName : nM := (RX7, cX7_writeName, 5, some .boolean, 4, 91, yX7_writeName)
set_option maxRecDepth 100000 in
theorem cb_X7_writeName : cxB mX7_writeName 4 := ⟨wOK_1 93 (by decide +kernel) (by decide +kernel), wOK_1 1288 (by decide +kernel) (by decide +kernel), by decide +kernel, by decide +kernel⟩
abbrev mX7_hasRoom : nM := (RX7, cX7_hasRoom, 7, some .boolean, 1, 22, yX7_hasRoom)
set_option maxRecDepth 100000 in
theorem cb_X7_hasRoom : cxB mX7_hasRoom 2 := ⟨wOK_1 93 (by decide +kernel) (by decide +kernel), wOK_1 1257 (by decide +kernel) (by decide +kernel), by decide +kernel, by decide +kernel⟩
abbrev mX7_canWrite : nM := (RX7, cX7_canWrite, 3, some .boolean, 2, 48, yX7_canWrite)
set_option maxRecDepth 100000 in
theorem cb_X7_canWrite : cxB mX7_canWrite 2 := ⟨wOK_1 93 (by decide +kernel) (by decide +kernel), wOK_1 1253 (by decide +kernel) (by decide +kernel), by decide +kernel, by decide +kernel⟩
abbrev mX7_isName : nM := (RX7, cX7_isName, 1, some .boolean, 1, 22, yX7_isName)
set_option maxRecDepth 100000 in
theorem cb_X7_isName : cxB mX7_isName 1 := ⟨wOK_1 93 (by decide +kernel) (by decide +kernel), wOK_1 1242 (by decide +kernel) (by decide +kernel), by decide +kernel, by decide +kernel⟩
abbrev mX7_canName : nM := (RX7, cX7_canName, 3, some .boolean, 5, 115, yX7_canName)
set_option maxRecDepth 100000 in
theorem cb_X7_canName : cxB mX7_canName 2 := ⟨wOK_1 93 (by decide +kernel) (by decide +kernel), wOK_1 1194 (by decide +kernel) (by decide +kernel), by decide +kernel, by decide +kernel⟩
abbrev mX7_create : nM := (RX7, cX7_create, 5, some .int, 6, 137, yX7_create)
set_option maxRecDepth 100000 in
theorem cb_X7_create : cxB mX7_create 2 := ⟨wOK_1 93 (by decide +kernel) (by decide +kernel), wOK_1 1190 (by decide +kernel) (by decide +kernel), by decide +kernel, by decide +kernel⟩
abbrev mX7_makeDirectory : nM := (RX7, cX7_makeDirectory, 4, some .int, 6, 137, yX7_makeDirectory)
set_option maxRecDepth 100000 in
theorem cb_X7_makeDirectory : cxB mX7_makeDirectory 2 := ⟨wOK_1 93 (by decide +kernel) (by decide +kernel), wOK_1 1296 (by decide +kernel) (by decide +kernel), by decide +kernel, by decide +kernel⟩
abbrev mX7_link : nM := (RX7, cX7_link, 4, some .int, 5, 115, yX7_link)
set_option maxRecDepth 100000 in
theorem cb_X7_link : cxB mX7_link 3 := ⟨wOK_1 93 (by decide +kernel) (by decide +kernel), wOK_1 1300 (by decide +kernel) (by decide +kernel), by decide +kernel, by decide +kernel⟩
abbrev mX7_unlink : nM := (RX7, cX7_unlink, 4, some .int, 6, 137, yX7_unlink)
set_option maxRecDepth 100000 in
theorem cb_X7_unlink : cxB mX7_unlink 2 := ⟨wOK_1 93 (by decide +kernel) (by decide +kernel), wOK_1 1312 (by decide +kernel) (by decide +kernel), by decide +kernel, by decide +kernel⟩
abbrev mX7_isInside : nM := (RX7, cX7_isInside, 5, some .boolean, 4, 92, yX7_isInside)
set_option maxRecDepth 100000 in
theorem cb_X7_isInside : cxB mX7_isInside 2 := ⟨wOK_1 93 (by decide +kernel) (by decide +kernel), wOK_1 1324 (by decide +kernel) (by decide +kernel), by decide +kernel, by decide +kernel⟩
abbrev mX7_rename : nM := (RX7, cX7_rename, 8, some .int, 5, 116, yX7_rename)
set_option maxRecDepth 100000 in
theorem cb_X7_rename : cxB mX7_rename 4 := ⟨wOK_1 93 (by decide +kernel) (by decide +kernel), wOK_1 1320 (by decide +kernel) (by decide +kernel), by decide +kernel, by decide +kernel⟩
abbrev mX7_write : nM := (RX7, cX7_write, 8, some .int, 5, 119, yX7_write)
set_option maxRecDepth 100000 in
theorem cb_X7_write : cxB mX7_write 4 := ⟨wOK_1 93 (by decide +kernel) (by decide +kernel), wOK_1 1328 (by decide +kernel) (by decide +kernel), by decide +kernel, by decide +kernel⟩
abbrev mX7_truncate : nM := (RX7, cX7_truncate, 4, some .int, 5, 119, yX7_truncate)
set_option maxRecDepth 100000 in
theorem cb_X7_truncate : cxB mX7_truncate 2 := ⟨wOK_1 93 (by decide +kernel) (by decide +kernel), wOK_1 1332 (by decide +kernel) (by decide +kernel), by decide +kernel, by decide +kernel⟩
abbrev mX7_isCounting : nM := (RX7, cX7_isCounting, 5, some .boolean, 0, 0, yX7_isCounting)
set_option maxRecDepth 100000 in
theorem cb_X7_isCounting : cxB mX7_isCounting 1 := ⟨wOK_1 93 (by decide +kernel) (by decide +kernel), wOK_1 1364 (by decide +kernel) (by decide +kernel), by decide +kernel, by decide +kernel⟩
abbrev mX7_isLive : nM := (RX7, cX7_isLive, 5, some .boolean, 5, 115, yX7_isLive)
set_option maxRecDepth 100000 in
theorem cb_X7_isLive : cxB mX7_isLive 1 := ⟨wOK_1 93 (by decide +kernel) (by decide +kernel), wOK_1 1356 (by decide +kernel) (by decide +kernel), by decide +kernel, by decide +kernel⟩
abbrev mX7_isDead : nM := (RX7, cX7_isDead, 2, some .boolean, 6, 139, yX7_isDead)
set_option maxRecDepth 100000 in
theorem cb_X7_isDead : cxB mX7_isDead 1 := ⟨wOK_1 93 (by decide +kernel) (by decide +kernel), wOK_1 1352 (by decide +kernel) (by decide +kernel), by decide +kernel, by decide +kernel⟩
abbrev mX7_deadOf : nM := (RX7, cX7_deadOf, 4, some .int, 7, 160, yX7_deadOf)
set_option maxRecDepth 100000 in
theorem cb_X7_deadOf : cxB mX7_deadOf 1 := ⟨wOK_1 93 (by decide +kernel) (by decide +kernel), wOK_1 1348 (by decide +kernel) (by decide +kernel), by decide +kernel, by decide +kernel⟩
abbrev mX7_stateOf : nM := (RX7, cX7_stateOf, 4, some .int, 8, 183, yX7_stateOf)
set_option maxRecDepth 100000 in
theorem cb_X7_stateOf : cxB mX7_stateOf 1 := ⟨wOK_1 93 (by decide +kernel) (by decide +kernel), wOK_1 1344 (by decide +kernel) (by decide +kernel), by decide +kernel, by decide +kernel⟩
abbrev mX7_layCopies : nM := (RX7, cX7_layCopies, 6, some .int, 7, 160, yX7_layCopies)
set_option maxRecDepth 100000 in
theorem cb_X7_layCopies : cxB mX7_layCopies 1 := ⟨wOK_1 93 (by decide +kernel) (by decide +kernel), wOK_1 1368 (by decide +kernel) (by decide +kernel), by decide +kernel, by decide +kernel⟩
abbrev mX7_chosen : nM := (RX7, cX7_chosen, 6, some .int, 9, 206, yX7_chosen)
set_option maxRecDepth 100000 in
theorem cb_X7_chosen : cxB mX7_chosen 1 := ⟨wOK_1 93 (by decide +kernel) (by decide +kernel), wOK_1 1340 (by decide +kernel) (by decide +kernel), by decide +kernel, by decide +kernel⟩
abbrev mX7_erases : nM := (RX7, cX7_erases, 2, some .boolean, 1, 20, yX7_erases)
set_option maxRecDepth 100000 in
theorem cb_X7_erases : cxB mX7_erases 1 := ⟨wOK_1 93 (by decide +kernel) (by decide +kernel), wOK_1 1376 (by decide +kernel) (by decide +kernel), by decide +kernel, by decide +kernel⟩
abbrev mX7_collect : nM := (RX7, cX7_collect, 7, some .int, 10, 231, yX7_collect)
set_option maxRecDepth 100000 in
theorem cb_X7_collect : cxB mX7_collect 1 := ⟨wOK_1 93 (by decide +kernel) (by decide +kernel), wOK_1 1336 (by decide +kernel) (by decide +kernel), by decide +kernel, by decide +kernel⟩
abbrev mX7_cut : nM := (RX7, cX7_cut, 3, some .int, 1, 22, yX7_cut)
set_option maxRecDepth 100000 in
theorem cb_X7_cut : cxB mX7_cut 1 := ⟨wOK_1 93 (by decide +kernel) (by decide +kernel), wOK_1 1380 (by decide +kernel) (by decide +kernel), by decide +kernel, by decide +kernel⟩
abbrev mX7_hasSummary : nM := (RX7, cX7_hasSummary, 4, some .boolean, 0, 0, yX7_hasSummary)
set_option maxRecDepth 100000 in
theorem cb_X7_hasSummary : cxB mX7_hasSummary 1 := ⟨wOK_1 93 (by decide +kernel) (by decide +kernel), wOK_1 1392 (by decide +kernel) (by decide +kernel), by decide +kernel, by decide +kernel⟩
abbrev mX7_hasTorn : nM := (RX7, cX7_hasTorn, 4, some .boolean, 1, 21, yX7_hasTorn)
set_option maxRecDepth 100000 in
theorem cb_X7_hasTorn : cxB mX7_hasTorn 1 := ⟨wOK_1 93 (by decide +kernel) (by decide +kernel), wOK_1 1396 (by decide +kernel) (by decide +kernel), by decide +kernel, by decide +kernel⟩
abbrev mX7_layVersions : nM := (RX7, cX7_layVersions, 4, none, 1, 21, yX7_layVersions)
set_option maxRecDepth 100000 in
theorem cb_X7_layVersions : cxB mX7_layVersions 0 := ⟨wOK_1 93 (by decide +kernel) (by decide +kernel), wOK_1 1400 (by decide +kernel) (by decide +kernel), by decide +kernel, by decide +kernel⟩
abbrev mX7_readOf : nM := (RX7, cX7_readOf, 3, some .int, 2, 44, yX7_readOf)
set_option maxRecDepth 100000 in
theorem cb_X7_readOf : cxB mX7_readOf 2 := ⟨wOK_1 93 (by decide +kernel) (by decide +kernel), wOK_1 1388 (by decide +kernel) (by decide +kernel), by decide +kernel, by decide +kernel⟩
abbrev mX7_mount : nM := (RX7, cX7_mount, 5, some .int, 3, 66, yX7_mount)
set_option maxRecDepth 100000 in
theorem cb_X7_mount : cxB mX7_mount 1 := ⟨wOK_1 93 (by decide +kernel) (by decide +kernel), wOK_1 1384 (by decide +kernel) (by decide +kernel), by decide +kernel, by decide +kernel⟩
abbrev mX7_isDark : nM := (RX7, cX7_isDark, 1, some .boolean, 0, 0, yX7_isDark)
set_option maxRecDepth 100000 in
theorem cb_X7_isDark : cxB mX7_isDark 0 := ⟨wOK_1 93 (by decide +kernel) (by decide +kernel), wOK_1 1404 (by decide +kernel) (by decide +kernel), by decide +kernel, by decide +kernel⟩
abbrev mX7_lookUp : nM := (RX7, cX7_lookUp, 3, some .int, 6, 138, yX7_lookUp)
set_option maxRecDepth 100000 in
theorem cb_X7_lookUp : cxB mX7_lookUp 2 := ⟨wOK_1 93 (by decide +kernel) (by decide +kernel), wOK_1 1408 (by decide +kernel) (by decide +kernel), by decide +kernel, by decide +kernel⟩
abbrev mX7_hasIt : nM := (RX7, cX7_hasIt, 2, some .boolean, 5, 115, yX7_hasIt)
set_option maxRecDepth 100000 in
theorem cb_X7_hasIt : cxB mX7_hasIt 1 := ⟨wOK_1 93 (by decide +kernel) (by decide +kernel), wOK_1 1420 (by decide +kernel) (by decide +kernel), by decide +kernel, by decide +kernel⟩
abbrev mX7_names : nM := (RX7, cX7_names, 2, some .int, 6, 136, yX7_names)
set_option maxRecDepth 100000 in
theorem cb_X7_names : cxB mX7_names 1 := ⟨wOK_1 93 (by decide +kernel) (by decide +kernel), wOK_1 1416 (by decide +kernel) (by decide +kernel), by decide +kernel, by decide +kernel⟩
abbrev mX7_nameAt : nM := (RX7, cX7_nameAt, 5, some .int, 6, 136, yX7_nameAt)
set_option maxRecDepth 100000 in
theorem cb_X7_nameAt : cxB mX7_nameAt 2 := ⟨wOK_1 93 (by decide +kernel) (by decide +kernel), wOK_1 1424 (by decide +kernel) (by decide +kernel), by decide +kernel, by decide +kernel⟩
abbrev mX7_hasNumber : nM := (RX7, cX7_hasNumber, 2, some .boolean, 5, 115, yX7_hasNumber)
set_option maxRecDepth 100000 in
theorem cb_X7_hasNumber : cxB mX7_hasNumber 1 := ⟨wOK_1 93 (by decide +kernel) (by decide +kernel), wOK_1 1432 (by decide +kernel) (by decide +kernel), by decide +kernel, by decide +kernel⟩
abbrev mX7_isDirectory : nM := (RX7, cX7_isDirectory, 2, some .boolean, 6, 136, yX7_isDirectory)
set_option maxRecDepth 100000 in
theorem cb_X7_isDirectory : cxB mX7_isDirectory 1 := ⟨wOK_1 93 (by decide +kernel) (by decide +kernel), wOK_1 1428 (by decide +kernel) (by decide +kernel), by decide +kernel, by decide +kernel⟩
abbrev mX7_links : nM := (RX7, cX7_links, 2, some .int, 6, 136, yX7_links)
set_option maxRecDepth 100000 in
theorem cb_X7_links : cxB mX7_links 1 := ⟨wOK_1 93 (by decide +kernel) (by decide +kernel), wOK_1 1436 (by decide +kernel) (by decide +kernel), by decide +kernel, by decide +kernel⟩
abbrev mX7_length : nM := (RX7, cX7_length, 2, some .int, 5, 114, yX7_length)
set_option maxRecDepth 100000 in
theorem cb_X7_length : cxB mX7_length 1 := ⟨wOK_1 93 (by decide +kernel) (by decide +kernel), wOK_1 1440 (by decide +kernel) (by decide +kernel), by decide +kernel, by decide +kernel⟩
abbrev mX7_byteAt : nM := (RX7, cX7_byteAt, 4, some .int, 6, 135, yX7_byteAt)
set_option maxRecDepth 100000 in
theorem cb_X7_byteAt : cxB mX7_byteAt 2 := ⟨wOK_1 93 (by decide +kernel) (by decide +kernel), wOK_1 1444 (by decide +kernel) (by decide +kernel), by decide +kernel, by decide +kernel⟩
abbrev mX7_byteByNodes : nM := (RX7, cX7_byteByNodes, 3, some .int, 7, 158, yX7_byteByNodes)
set_option maxRecDepth 100000 in
theorem cb_X7_byteByNodes : cxB mX7_byteByNodes 2 := ⟨wOK_1 93 (by decide +kernel) (by decide +kernel), wOK_1 1449 (by decide +kernel) (by decide +kernel), by decide +kernel, by decide +kernel⟩
abbrev mX7_asksFor : nM := (RX7, cX7_asksFor, 2, some .boolean, 1, 22, yX7_asksFor)
set_option maxRecDepth 100000 in
theorem cb_X7_asksFor : cxB mX7_asksFor 1 := ⟨wOK_1 93 (by decide +kernel) (by decide +kernel), wOK_1 1458 (by decide +kernel) (by decide +kernel), by decide +kernel, by decide +kernel⟩
abbrev mX7_state : nM := (RX7, cX7_state, 2, some .int, 9, 206, yX7_state)
set_option maxRecDepth 100000 in
theorem cb_X7_state : cxB mX7_state 1 := ⟨wOK_1 93 (by decide +kernel) (by decide +kernel), wOK_1 1454 (by decide +kernel) (by decide +kernel), by decide +kernel, by decide +kernel⟩
abbrev mX7_dead : nM := (RX7, cX7_dead, 2, some .int, 8, 183, yX7_dead)
set_option maxRecDepth 100000 in
theorem cb_X7_dead : cxB mX7_dead 1 := ⟨wOK_1 93 (by decide +kernel) (by decide +kernel), wOK_1 1462 (by decide +kernel) (by decide +kernel), by decide +kernel, by decide +kernel⟩
abbrev mX7_toCopy : nM := (RX7, cX7_toCopy, 2, some .int, 8, 185, yX7_toCopy)
set_option maxRecDepth 100000 in
theorem cb_X7_toCopy : cxB mX7_toCopy 1 := ⟨wOK_1 93 (by decide +kernel) (by decide +kernel), wOK_1 1466 (by decide +kernel) (by decide +kernel), by decide +kernel, by decide +kernel⟩
abbrev mX7_isBlock : nM := (RX7, cX7_isBlock, 2, some .boolean, 1, 22, yX7_isBlock)
set_option maxRecDepth 100000 in
theorem cb_X7_isBlock : cxB mX7_isBlock 1 := ⟨wOK_1 93 (by decide +kernel) (by decide +kernel), wOK_1 1474 (by decide +kernel) (by decide +kernel), by decide +kernel, by decide +kernel⟩
abbrev mX7_written : nM := (RX7, cX7_written, 2, some .int, 2, 43, yX7_written)
set_option maxRecDepth 100000 in
theorem cb_X7_written : cxB mX7_written 1 := ⟨wOK_1 93 (by decide +kernel) (by decide +kernel), wOK_1 1470 (by decide +kernel) (by decide +kernel), by decide +kernel, by decide +kernel⟩
abbrev mX7_nodes : nM := (RX7, cX7_nodes, 2, some .int, 2, 43, yX7_nodes)
set_option maxRecDepth 100000 in
theorem cb_X7_nodes : cxB mX7_nodes 1 := ⟨wOK_1 93 (by decide +kernel) (by decide +kernel), wOK_1 1478 (by decide +kernel) (by decide +kernel), by decide +kernel, by decide +kernel⟩
abbrev mX7_node : nM := (RX7, cX7_node, 4, some .long, 1, 22, yX7_node)
set_option maxRecDepth 100000 in
theorem cb_X7_node : cxB mX7_node 2 := ⟨wOK_1 93 (by decide +kernel) (by decide +kernel), wOK_1 1482 (by decide +kernel) (by decide +kernel), by decide +kernel, by decide +kernel⟩
abbrev mX7_erased : nM := (RX7, cX7_erased, 2, some .int, 2, 43, yX7_erased)
set_option maxRecDepth 100000 in
theorem cb_X7_erased : cxB mX7_erased 1 := ⟨wOK_1 93 (by decide +kernel) (by decide +kernel), wOK_1 1489 (by decide +kernel) (by decide +kernel), by decide +kernel, by decide +kernel⟩
set_option maxRecDepth 100000 in
theorem gf_X6_10 (M : nM) (h : mOwn M = RX6) : gfOK M 10 6 0 := ⟨by decide, by decide, Or.inl (by rw [h]; exact wOK_1 362 (by decide +kernel) (by decide +kernel))⟩
set_option maxRecDepth 100000 in
theorem gf_X6_21 (M : nM) (h : mOwn M = RX6) : gfOK M 21 6 1 := ⟨by decide, by decide, Or.inl (by rw [h]; exact wOK_1 363 (by decide +kernel) (by decide +kernel))⟩
set_option maxRecDepth 100000 in
theorem gf_X6_28 (M : nM) (h : mOwn M = RX6) : gfOK M 28 6 2 := ⟨by decide, by decide, Or.inl (by rw [h]; exact wOK_1 364 (by decide +kernel) (by decide +kernel))⟩
set_option maxRecDepth 100000 in
theorem gf_X6_37 (M : nM) (h : mOwn M = RX6) : gfOK M 37 6 3 := ⟨by decide, by decide, Or.inl (by rw [h]; exact wOK_1 365 (by decide +kernel) (by decide +kernel))⟩
set_option maxRecDepth 100000 in
theorem gf_X6_44 (M : nM) (h : mOwn M = RX6) : gfOK M 44 6 4 := ⟨by decide, by decide, Or.inl (by rw [h]; exact wOK_1 366 (by decide +kernel) (by decide +kernel))⟩
set_option maxRecDepth 100000 in
theorem gf_X6_64 (M : nM) (h : mOwn M = RX6) : gfOK M 64 5 3 := ⟨by decide, by decide, Or.inr ⟨"Nodewash", by rw [h]; exact List.mem_of_getElem? (i := 326) (by decide +kernel)⟩⟩
set_option maxRecDepth 100000 in
theorem gf_X6_84 (M : nM) (h : mOwn M = RX6) : gfOK M 84 1 3 := ⟨by decide, by decide, Or.inr ⟨"Nodewash", by rw [h]; exact List.mem_of_getElem? (i := 287) (by decide +kernel)⟩⟩
set_option maxRecDepth 100000 in
theorem gf_X6_96 (M : nM) (h : mOwn M = RX6) : gfOK M 96 1 4 := ⟨by decide, by decide, Or.inr ⟨"Nodewash", by rw [h]; exact List.mem_of_getElem? (i := 290) (by decide +kernel)⟩⟩
set_option maxRecDepth 100000 in
theorem gf_X6_103 (M : nM) (h : mOwn M = RX6) : gfOK M 103 1 5 := ⟨by decide, by decide, Or.inr ⟨"Nodewash", by rw [h]; exact List.mem_of_getElem? (i := 293) (by decide +kernel)⟩⟩
set_option maxRecDepth 100000 in
theorem gf_X6_113 (M : nM) (h : mOwn M = RX6) : gfOK M 113 1 1 := ⟨by decide, by decide, Or.inr ⟨"Nodewash", by rw [h]; exact List.mem_of_getElem? (i := 282) (by decide +kernel)⟩⟩
set_option maxRecDepth 100000 in
theorem gf_X6_127 (M : nM) (h : mOwn M = RX6) : gfOK M 127 1 2 := ⟨by decide, by decide, Or.inr ⟨"Nodewash", by rw [h]; exact List.mem_of_getElem? (i := 285) (by decide +kernel)⟩⟩
set_option maxRecDepth 100000 in
theorem gf_X6_138 (M : nM) (h : mOwn M = RX6) : gfOK M 138 1 6 := ⟨by decide, by decide, Or.inr ⟨"Nodewash", by rw [h]; exact List.mem_of_getElem? (i := 296) (by decide +kernel)⟩⟩
set_option maxRecDepth 100000 in
theorem gf_X6_183 (M : nM) (h : mOwn M = RX6) : gfOK M 183 0 5 := ⟨by decide, by decide, Or.inr ⟨"Nodewash", by rw [h]; exact List.mem_of_getElem? (i := 198) (by decide +kernel)⟩⟩
set_option maxRecDepth 100000 in
theorem gf_X6_190 (M : nM) (h : mOwn M = RX6) : gfOK M 190 0 6 := ⟨by decide, by decide, Or.inr ⟨"Nodewash", by rw [h]; exact List.mem_of_getElem? (i := 199) (by decide +kernel)⟩⟩
set_option maxRecDepth 100000 in
theorem gf_X6_230 (M : nM) (h : mOwn M = RX6) : gfOK M 230 3 4 := ⟨by decide, by decide, Or.inr ⟨"Nodewash", by rw [h]; exact List.mem_of_getElem? (i := 229) (by decide +kernel)⟩⟩
set_option maxRecDepth 100000 in
theorem gf_X6_258 (M : nM) (h : mOwn M = RX6) : gfOK M 258 4 2 := ⟨by decide, by decide, Or.inr ⟨"Nodewash", by rw [h]; exact List.mem_of_getElem? (i := 132) (by decide +kernel)⟩⟩
set_option maxRecDepth 100000 in
theorem gf_X6_261 (M : nM) (h : mOwn M = RX6) : gfOK M 261 4 0 := ⟨by decide, by decide, Or.inr ⟨"Nodewash", by rw [h]; exact List.mem_of_getElem? (i := 124) (by decide +kernel)⟩⟩
set_option maxRecDepth 100000 in
theorem gf_X6_266 (M : nM) (h : mOwn M = RX6) : gfOK M 266 4 3 := ⟨by decide, by decide, Or.inr ⟨"Nodewash", by rw [h]; exact List.mem_of_getElem? (i := 137) (by decide +kernel)⟩⟩
set_option maxRecDepth 100000 in
theorem gf_X6_269 (M : nM) (h : mOwn M = RX6) : gfOK M 269 4 4 := ⟨by decide, by decide, Or.inr ⟨"Nodewash", by rw [h]; exact List.mem_of_getElem? (i := 143) (by decide +kernel)⟩⟩
set_option maxRecDepth 100000 in
theorem gf_X6_301 (M : nM) (h : mOwn M = RX6) : gfOK M 301 3 5 := ⟨by decide, by decide, Or.inr ⟨"Nodewash", by rw [h]; exact List.mem_of_getElem? (i := 231) (by decide +kernel)⟩⟩
set_option maxRecDepth 100000 in
theorem gf_X6_312 (M : nM) (h : mOwn M = RX6) : gfOK M 312 4 1 := ⟨by decide, by decide, Or.inr ⟨"Nodewash", by rw [h]; exact List.mem_of_getElem? (i := 128) (by decide +kernel)⟩⟩
set_option maxRecDepth 100000 in
theorem gf_X6_325 (M : nM) (h : mOwn M = RX6) : gfOK M 325 3 6 := ⟨by decide, by decide, Or.inr ⟨"Nodewash", by rw [h]; exact List.mem_of_getElem? (i := 233) (by decide +kernel)⟩⟩
set_option maxRecDepth 100000 in
theorem gf_X0_11 (M : nM) (h : mOwn M = RX0) : gfOK M 11 0 0 := ⟨by decide, by decide, Or.inl (by rw [h]; exact wOK_1 192 (by decide +kernel) (by decide +kernel))⟩
set_option maxRecDepth 100000 in
theorem gf_X0_17 (M : nM) (h : mOwn M = RX0) : gfOK M 17 0 1 := ⟨by decide, by decide, Or.inl (by rw [h]; exact wOK_1 193 (by decide +kernel) (by decide +kernel))⟩
set_option maxRecDepth 100000 in
theorem gf_X0_21 (M : nM) (h : mOwn M = RX0) : gfOK M 21 0 2 := ⟨by decide, by decide, Or.inl (by rw [h]; exact wOK_1 194 (by decide +kernel) (by decide +kernel))⟩
set_option maxRecDepth 100000 in
theorem gf_X0_24 (M : nM) (h : mOwn M = RX0) : gfOK M 24 0 3 := ⟨by decide, by decide, Or.inl (by rw [h]; exact wOK_1 195 (by decide +kernel) (by decide +kernel))⟩
set_option maxRecDepth 100000 in
theorem gf_X0_28 (M : nM) (h : mOwn M = RX0) : gfOK M 28 0 4 := ⟨by decide, by decide, Or.inl (by rw [h]; exact wOK_1 196 (by decide +kernel) (by decide +kernel))⟩
set_option maxRecDepth 100000 in
theorem gf_X0_32 (M : nM) (h : mOwn M = RX0) : gfOK M 32 0 5 := ⟨by decide, by decide, Or.inl (by rw [h]; exact wOK_1 197 (by decide +kernel) (by decide +kernel))⟩
set_option maxRecDepth 100000 in
theorem gf_X0_48 (M : nM) (h : mOwn M = RX0) : gfOK M 48 4 4 := ⟨by decide, by decide, Or.inr ⟨"Nodewash", by rw [h]; exact List.mem_of_getElem? (i := 140) (by decide +kernel)⟩⟩
set_option maxRecDepth 100000 in
theorem gf_X0_54 (M : nM) (h : mOwn M = RX0) : gfOK M 54 4 3 := ⟨by decide, by decide, Or.inr ⟨"Nodewash", by rw [h]; exact List.mem_of_getElem? (i := 135) (by decide +kernel)⟩⟩
set_option maxRecDepth 100000 in
theorem gf_X0_65 (M : nM) (h : mOwn M = RX0) : gfOK M 65 0 6 := ⟨by decide, by decide, Or.inl (by rw [h]; exact wOK_1 200 (by decide +kernel) (by decide +kernel))⟩
set_option maxRecDepth 100000 in
theorem gf_X0_69 (M : nM) (h : mOwn M = RX0) : gfOK M 69 4 1 := ⟨by decide, by decide, Or.inr ⟨"Nodewash", by rw [h]; exact List.mem_of_getElem? (i := 127) (by decide +kernel)⟩⟩
set_option maxRecDepth 100000 in
theorem gf_X0_80 (M : nM) (h : mOwn M = RX0) : gfOK M 80 4 2 := ⟨by decide, by decide, Or.inr ⟨"Nodewash", by rw [h]; exact List.mem_of_getElem? (i := 131) (by decide +kernel)⟩⟩
set_option maxRecDepth 100000 in
theorem gf_X1_9 (M : nM) (h : mOwn M = RX1) : gfOK M 9 1 0 := ⟨by decide, by decide, Or.inl (by rw [h]; exact wOK_1 279 (by decide +kernel) (by decide +kernel))⟩
set_option maxRecDepth 100000 in
theorem gf_X1_15 (M : nM) (h : mOwn M = RX1) : gfOK M 15 1 1 := ⟨by decide, by decide, Or.inl (by rw [h]; exact wOK_1 280 (by decide +kernel) (by decide +kernel))⟩
set_option maxRecDepth 100000 in
theorem gf_X1_19 (M : nM) (h : mOwn M = RX1) : gfOK M 19 1 2 := ⟨by decide, by decide, Or.inl (by rw [h]; exact wOK_1 283 (by decide +kernel) (by decide +kernel))⟩
set_option maxRecDepth 100000 in
theorem gf_X1_23 (M : nM) (h : mOwn M = RX1) : gfOK M 23 1 3 := ⟨by decide, by decide, Or.inl (by rw [h]; exact wOK_1 286 (by decide +kernel) (by decide +kernel))⟩
set_option maxRecDepth 100000 in
theorem gf_X1_26 (M : nM) (h : mOwn M = RX1) : gfOK M 26 1 4 := ⟨by decide, by decide, Or.inl (by rw [h]; exact wOK_1 289 (by decide +kernel) (by decide +kernel))⟩
set_option maxRecDepth 100000 in
theorem gf_X1_29 (M : nM) (h : mOwn M = RX1) : gfOK M 29 1 5 := ⟨by decide, by decide, Or.inl (by rw [h]; exact wOK_1 292 (by decide +kernel) (by decide +kernel))⟩
set_option maxRecDepth 100000 in
theorem gf_X1_32 (M : nM) (h : mOwn M = RX1) : gfOK M 32 1 6 := ⟨by decide, by decide, Or.inl (by rw [h]; exact wOK_1 295 (by decide +kernel) (by decide +kernel))⟩
set_option maxRecDepth 100000 in
theorem gf_X1_35 (M : nM) (h : mOwn M = RX1) : gfOK M 35 4 9 := ⟨by decide, by decide, Or.inr ⟨"Nodewash", by rw [h]; exact List.mem_of_getElem? (i := 152) (by decide +kernel)⟩⟩
set_option maxRecDepth 100000 in
theorem gf_X1_50 (M : nM) (h : mOwn M = RX1) : gfOK M 50 4 4 := ⟨by decide, by decide, Or.inr ⟨"Nodewash", by rw [h]; exact List.mem_of_getElem? (i := 139) (by decide +kernel)⟩⟩
set_option maxRecDepth 100000 in
theorem gf_X2_11 (M : nM) (h : mOwn M = RX2) : gfOK M 11 2 2 := ⟨by decide, by decide, Or.inl (by rw [h]; exact wOK_1 346 (by decide +kernel) (by decide +kernel))⟩
set_option maxRecDepth 100000 in
theorem gf_X2_18 (M : nM) (h : mOwn M = RX2) : gfOK M 18 2 3 := ⟨by decide, by decide, Or.inl (by rw [h]; exact wOK_1 347 (by decide +kernel) (by decide +kernel))⟩
set_option maxRecDepth 100000 in
theorem gf_X2_22 (M : nM) (h : mOwn M = RX2) : gfOK M 22 2 0 := ⟨by decide, by decide, Or.inl (by rw [h]; exact wOK_1 344 (by decide +kernel) (by decide +kernel))⟩
set_option maxRecDepth 100000 in
theorem gf_X2_26 (M : nM) (h : mOwn M = RX2) : gfOK M 26 2 1 := ⟨by decide, by decide, Or.inl (by rw [h]; exact wOK_1 345 (by decide +kernel) (by decide +kernel))⟩
set_option maxRecDepth 100000 in
theorem gf_X2_30 (M : nM) (h : mOwn M = RX2) : gfOK M 30 4 3 := ⟨by decide, by decide, Or.inr ⟨"Nodewash", by rw [h]; exact List.mem_of_getElem? (i := 133) (by decide +kernel)⟩⟩
set_option maxRecDepth 100000 in
theorem gf_X2_34 (M : nM) (h : mOwn M = RX2) : gfOK M 34 4 0 := ⟨by decide, by decide, Or.inr ⟨"Nodewash", by rw [h]; exact List.mem_of_getElem? (i := 122) (by decide +kernel)⟩⟩
set_option maxRecDepth 100000 in
theorem gf_X2_43 (M : nM) (h : mOwn M = RX2) : gfOK M 43 4 10 := ⟨by decide, by decide, Or.inr ⟨"Nodewash", by rw [h]; exact List.mem_of_getElem? (i := 153) (by decide +kernel)⟩⟩
set_option maxRecDepth 100000 in
theorem gf_X2_46 (M : nM) (h : mOwn M = RX2) : gfOK M 46 4 5 := ⟨by decide, by decide, Or.inr ⟨"Nodewash", by rw [h]; exact List.mem_of_getElem? (i := 145) (by decide +kernel)⟩⟩
set_option maxRecDepth 100000 in
theorem gf_X2_60 (M : nM) (h : mOwn M = RX2) : gfOK M 60 4 8 := ⟨by decide, by decide, Or.inr ⟨"Nodewash", by rw [h]; exact List.mem_of_getElem? (i := 150) (by decide +kernel)⟩⟩
set_option maxRecDepth 100000 in
theorem gf_X2_89 (M : nM) (h : mOwn M = RX2) : gfOK M 89 4 2 := ⟨by decide, by decide, Or.inr ⟨"Nodewash", by rw [h]; exact List.mem_of_getElem? (i := 130) (by decide +kernel)⟩⟩
set_option maxRecDepth 100000 in
theorem gf_X2_92 (M : nM) (h : mOwn M = RX2) : gfOK M 92 2 4 := ⟨by decide, by decide, Or.inl (by rw [h]; exact wOK_1 348 (by decide +kernel) (by decide +kernel))⟩
set_option maxRecDepth 100000 in
theorem gf_X2_95 (M : nM) (h : mOwn M = RX2) : gfOK M 95 4 12 := ⟨by decide, by decide, Or.inr ⟨"Nodewash", by rw [h]; exact List.mem_of_getElem? (i := 159) (by decide +kernel)⟩⟩
set_option maxRecDepth 100000 in
theorem gf_X2_103 (M : nM) (h : mOwn M = RX2) : gfOK M 103 4 13 := ⟨by decide, by decide, Or.inr ⟨"Nodewash", by rw [h]; exact List.mem_of_getElem? (i := 161) (by decide +kernel)⟩⟩
set_option maxRecDepth 100000 in
theorem gf_X2_123 (M : nM) (h : mOwn M = RX2) : gfOK M 123 4 4 := ⟨by decide, by decide, Or.inr ⟨"Nodewash", by rw [h]; exact List.mem_of_getElem? (i := 142) (by decide +kernel)⟩⟩
set_option maxRecDepth 100000 in
theorem gf_X3_12 (M : nM) (h : mOwn M = RX3) : gfOK M 12 3 1 := ⟨by decide, by decide, Or.inl (by rw [h]; exact wOK_1 225 (by decide +kernel) (by decide +kernel))⟩
set_option maxRecDepth 100000 in
theorem gf_X3_18 (M : nM) (h : mOwn M = RX3) : gfOK M 18 3 2 := ⟨by decide, by decide, Or.inl (by rw [h]; exact wOK_1 226 (by decide +kernel) (by decide +kernel))⟩
set_option maxRecDepth 100000 in
theorem gf_X3_22 (M : nM) (h : mOwn M = RX3) : gfOK M 22 3 3 := ⟨by decide, by decide, Or.inl (by rw [h]; exact wOK_1 227 (by decide +kernel) (by decide +kernel))⟩
set_option maxRecDepth 100000 in
theorem gf_X3_25 (M : nM) (h : mOwn M = RX3) : gfOK M 25 3 4 := ⟨by decide, by decide, Or.inl (by rw [h]; exact wOK_1 228 (by decide +kernel) (by decide +kernel))⟩
set_option maxRecDepth 100000 in
theorem gf_X3_29 (M : nM) (h : mOwn M = RX3) : gfOK M 29 3 0 := ⟨by decide, by decide, Or.inl (by rw [h]; exact wOK_1 224 (by decide +kernel) (by decide +kernel))⟩
set_option maxRecDepth 100000 in
theorem gf_X3_33 (M : nM) (h : mOwn M = RX3) : gfOK M 33 3 5 := ⟨by decide, by decide, Or.inl (by rw [h]; exact wOK_1 230 (by decide +kernel) (by decide +kernel))⟩
set_option maxRecDepth 100000 in
theorem gf_X3_36 (M : nM) (h : mOwn M = RX3) : gfOK M 36 3 6 := ⟨by decide, by decide, Or.inl (by rw [h]; exact wOK_1 232 (by decide +kernel) (by decide +kernel))⟩
set_option maxRecDepth 100000 in
theorem gf_X3_45 (M : nM) (h : mOwn M = RX3) : gfOK M 45 3 7 := ⟨by decide, by decide, Or.inl (by rw [h]; exact wOK_1 234 (by decide +kernel) (by decide +kernel))⟩
set_option maxRecDepth 100000 in
theorem gf_X3_51 (M : nM) (h : mOwn M = RX3) : gfOK M 51 3 8 := ⟨by decide, by decide, Or.inl (by rw [h]; exact wOK_1 235 (by decide +kernel) (by decide +kernel))⟩
set_option maxRecDepth 100000 in
theorem gf_X3_54 (M : nM) (h : mOwn M = RX3) : gfOK M 54 3 9 := ⟨by decide, by decide, Or.inl (by rw [h]; exact wOK_1 236 (by decide +kernel) (by decide +kernel))⟩
set_option maxRecDepth 100000 in
theorem gf_X3_61 (M : nM) (h : mOwn M = RX3) : gfOK M 61 4 1 := ⟨by decide, by decide, Or.inr ⟨"Nodewash", by rw [h]; exact List.mem_of_getElem? (i := 126) (by decide +kernel)⟩⟩
set_option maxRecDepth 100000 in
theorem gf_X3_100 (M : nM) (h : mOwn M = RX3) : gfOK M 100 4 0 := ⟨by decide, by decide, Or.inr ⟨"Nodewash", by rw [h]; exact List.mem_of_getElem? (i := 123) (by decide +kernel)⟩⟩
set_option maxRecDepth 100000 in
theorem gf_X4_9 (M : nM) (h : mOwn M = RX4) : gfOK M 9 4 0 := ⟨by decide, by decide, Or.inl (by rw [h]; exact wOK_1 121 (by decide +kernel) (by decide +kernel))⟩
set_option maxRecDepth 100000 in
theorem gf_X4_15 (M : nM) (h : mOwn M = RX4) : gfOK M 15 4 1 := ⟨by decide, by decide, Or.inl (by rw [h]; exact wOK_1 125 (by decide +kernel) (by decide +kernel))⟩
set_option maxRecDepth 100000 in
theorem gf_X4_18 (M : nM) (h : mOwn M = RX4) : gfOK M 18 4 2 := ⟨by decide, by decide, Or.inl (by rw [h]; exact wOK_1 129 (by decide +kernel) (by decide +kernel))⟩
set_option maxRecDepth 100000 in
theorem gf_X4_21 (M : nM) (h : mOwn M = RX4) : gfOK M 21 4 3 := ⟨by decide, by decide, Or.inl (by rw [h]; exact wOK_1 134 (by decide +kernel) (by decide +kernel))⟩
set_option maxRecDepth 100000 in
theorem gf_X4_24 (M : nM) (h : mOwn M = RX4) : gfOK M 24 4 4 := ⟨by decide, by decide, Or.inl (by rw [h]; exact wOK_1 138 (by decide +kernel) (by decide +kernel))⟩
set_option maxRecDepth 100000 in
theorem gf_X4_27 (M : nM) (h : mOwn M = RX4) : gfOK M 27 4 5 := ⟨by decide, by decide, Or.inl (by rw [h]; exact wOK_1 144 (by decide +kernel) (by decide +kernel))⟩
set_option maxRecDepth 100000 in
theorem gf_X4_30 (M : nM) (h : mOwn M = RX4) : gfOK M 30 4 6 := ⟨by decide, by decide, Or.inl (by rw [h]; exact wOK_1 147 (by decide +kernel) (by decide +kernel))⟩
set_option maxRecDepth 100000 in
theorem gf_X4_33 (M : nM) (h : mOwn M = RX4) : gfOK M 33 4 7 := ⟨by decide, by decide, Or.inl (by rw [h]; exact wOK_1 148 (by decide +kernel) (by decide +kernel))⟩
set_option maxRecDepth 100000 in
theorem gf_X4_37 (M : nM) (h : mOwn M = RX4) : gfOK M 37 4 8 := ⟨by decide, by decide, Or.inl (by rw [h]; exact wOK_1 149 (by decide +kernel) (by decide +kernel))⟩
set_option maxRecDepth 100000 in
theorem gf_X4_40 (M : nM) (h : mOwn M = RX4) : gfOK M 40 4 9 := ⟨by decide, by decide, Or.inl (by rw [h]; exact wOK_1 151 (by decide +kernel) (by decide +kernel))⟩
set_option maxRecDepth 100000 in
theorem gf_X4_43 (M : nM) (h : mOwn M = RX4) : gfOK M 43 4 10 := ⟨by decide, by decide, Or.inl (by rw [h]; exact wOK_1 154 (by decide +kernel) (by decide +kernel))⟩
set_option maxRecDepth 100000 in
theorem gf_X4_46 (M : nM) (h : mOwn M = RX4) : gfOK M 46 4 11 := ⟨by decide, by decide, Or.inl (by rw [h]; exact wOK_1 156 (by decide +kernel) (by decide +kernel))⟩
set_option maxRecDepth 100000 in
theorem gf_X4_50 (M : nM) (h : mOwn M = RX4) : gfOK M 50 4 12 := ⟨by decide, by decide, Or.inl (by rw [h]; exact wOK_1 158 (by decide +kernel) (by decide +kernel))⟩
set_option maxRecDepth 100000 in
theorem gf_X4_53 (M : nM) (h : mOwn M = RX4) : gfOK M 53 4 13 := ⟨by decide, by decide, Or.inl (by rw [h]; exact wOK_1 160 (by decide +kernel) (by decide +kernel))⟩
set_option maxRecDepth 100000 in
theorem gf_X5_13 (M : nM) (h : mOwn M = RX5) : gfOK M 13 5 0 := ⟨by decide, by decide, Or.inl (by rw [h]; exact wOK_1 322 (by decide +kernel) (by decide +kernel))⟩
set_option maxRecDepth 100000 in
theorem gf_X5_17 (M : nM) (h : mOwn M = RX5) : gfOK M 17 5 1 := ⟨by decide, by decide, Or.inl (by rw [h]; exact wOK_1 323 (by decide +kernel) (by decide +kernel))⟩
set_option maxRecDepth 100000 in
theorem gf_X5_23 (M : nM) (h : mOwn M = RX5) : gfOK M 23 5 2 := ⟨by decide, by decide, Or.inl (by rw [h]; exact wOK_1 324 (by decide +kernel) (by decide +kernel))⟩
set_option maxRecDepth 100000 in
theorem gf_X5_27 (M : nM) (h : mOwn M = RX5) : gfOK M 27 5 3 := ⟨by decide, by decide, Or.inl (by rw [h]; exact wOK_1 325 (by decide +kernel) (by decide +kernel))⟩
set_option maxRecDepth 100000 in
theorem gf_X5_38 (M : nM) (h : mOwn M = RX5) : gfOK M 38 1 1 := ⟨by decide, by decide, Or.inr ⟨"Nodewash", by rw [h]; exact List.mem_of_getElem? (i := 281) (by decide +kernel)⟩⟩
set_option maxRecDepth 100000 in
theorem gf_X5_44 (M : nM) (h : mOwn M = RX5) : gfOK M 44 1 2 := ⟨by decide, by decide, Or.inr ⟨"Nodewash", by rw [h]; exact List.mem_of_getElem? (i := 284) (by decide +kernel)⟩⟩
set_option maxRecDepth 100000 in
theorem gf_X5_67 (M : nM) (h : mOwn M = RX5) : gfOK M 67 1 4 := ⟨by decide, by decide, Or.inr ⟨"Nodewash", by rw [h]; exact List.mem_of_getElem? (i := 291) (by decide +kernel)⟩⟩
set_option maxRecDepth 100000 in
theorem gf_X5_70 (M : nM) (h : mOwn M = RX5) : gfOK M 70 1 5 := ⟨by decide, by decide, Or.inr ⟨"Nodewash", by rw [h]; exact List.mem_of_getElem? (i := 294) (by decide +kernel)⟩⟩
set_option maxRecDepth 100000 in
theorem gf_X5_77 (M : nM) (h : mOwn M = RX5) : gfOK M 77 1 7 := ⟨by decide, by decide, Or.inr ⟨"Nodewash", by rw [h]; exact List.mem_of_getElem? (i := 297) (by decide +kernel)⟩⟩
set_option maxRecDepth 100000 in
theorem gf_X5_103 (M : nM) (h : mOwn M = RX5) : gfOK M 103 4 3 := ⟨by decide, by decide, Or.inr ⟨"Nodewash", by rw [h]; exact List.mem_of_getElem? (i := 136) (by decide +kernel)⟩⟩
set_option maxRecDepth 100000 in
theorem gf_X5_104 (M : nM) (h : mOwn M = RX5) : gfOK M 104 4 10 := ⟨by decide, by decide, Or.inr ⟨"Nodewash", by rw [h]; exact List.mem_of_getElem? (i := 155) (by decide +kernel)⟩⟩
set_option maxRecDepth 100000 in
theorem gf_X5_111 (M : nM) (h : mOwn M = RX5) : gfOK M 111 1 3 := ⟨by decide, by decide, Or.inr ⟨"Nodewash", by rw [h]; exact List.mem_of_getElem? (i := 288) (by decide +kernel)⟩⟩
set_option maxRecDepth 100000 in
theorem gf_X5_114 (M : nM) (h : mOwn M = RX5) : gfOK M 114 4 4 := ⟨by decide, by decide, Or.inr ⟨"Nodewash", by rw [h]; exact List.mem_of_getElem? (i := 141) (by decide +kernel)⟩⟩
set_option maxRecDepth 100000 in
theorem gf_X5_115 (M : nM) (h : mOwn M = RX5) : gfOK M 115 4 5 := ⟨by decide, by decide, Or.inr ⟨"Nodewash", by rw [h]; exact List.mem_of_getElem? (i := 146) (by decide +kernel)⟩⟩
set_option maxRecDepth 100000 in
theorem gf_X5_123 (M : nM) (h : mOwn M = RX5) : gfOK M 123 4 11 := ⟨by decide, by decide, Or.inr ⟨"Nodewash", by rw [h]; exact List.mem_of_getElem? (i := 157) (by decide +kernel)⟩⟩
set_option maxRecDepth 100000 in
theorem gf_X7_7 (M : nM) (h : mOwn M = RX7) : gfOK M 7 7 0 := ⟨by decide, by decide, Or.inl (by rw [h]; exact wOK_1 1054 (by decide +kernel) (by decide +kernel))⟩
set_option maxRecDepth 100000 in
theorem gf_X7_13 (M : nM) (h : mOwn M = RX7) : gfOK M 13 7 1 := ⟨by decide, by decide, Or.inl (by rw [h]; exact wOK_1 1055 (by decide +kernel) (by decide +kernel))⟩
set_option maxRecDepth 100000 in
theorem gf_X7_16 (M : nM) (h : mOwn M = RX7) : gfOK M 16 7 2 := ⟨by decide, by decide, Or.inl (by rw [h]; exact wOK_1 1056 (by decide +kernel) (by decide +kernel))⟩
set_option maxRecDepth 100000 in
theorem gf_X7_19 (M : nM) (h : mOwn M = RX7) : gfOK M 19 7 3 := ⟨by decide, by decide, Or.inl (by rw [h]; exact wOK_1 1057 (by decide +kernel) (by decide +kernel))⟩
set_option maxRecDepth 100000 in
theorem gf_X7_22 (M : nM) (h : mOwn M = RX7) : gfOK M 22 7 4 := ⟨by decide, by decide, Or.inl (by rw [h]; exact wOK_1 1058 (by decide +kernel) (by decide +kernel))⟩
set_option maxRecDepth 100000 in
theorem gf_X7_25 (M : nM) (h : mOwn M = RX7) : gfOK M 25 7 5 := ⟨by decide, by decide, Or.inl (by rw [h]; exact wOK_1 1059 (by decide +kernel) (by decide +kernel))⟩
set_option maxRecDepth 100000 in
theorem gf_X7_29 (M : nM) (h : mOwn M = RX7) : gfOK M 29 7 6 := ⟨by decide, by decide, Or.inl (by rw [h]; exact wOK_1 1060 (by decide +kernel) (by decide +kernel))⟩
set_option maxRecDepth 100000 in
theorem gf_X7_32 (M : nM) (h : mOwn M = RX7) : gfOK M 32 7 7 := ⟨by decide, by decide, Or.inl (by rw [h]; exact wOK_1 1061 (by decide +kernel) (by decide +kernel))⟩
set_option maxRecDepth 100000 in
theorem gf_X7_35 (M : nM) (h : mOwn M = RX7) : gfOK M 35 7 8 := ⟨by decide, by decide, Or.inl (by rw [h]; exact wOK_1 1062 (by decide +kernel) (by decide +kernel))⟩
set_option maxRecDepth 100000 in
theorem gf_X7_38 (M : nM) (h : mOwn M = RX7) : gfOK M 38 7 9 := ⟨by decide, by decide, Or.inl (by rw [h]; exact wOK_1 1063 (by decide +kernel) (by decide +kernel))⟩
set_option maxRecDepth 100000 in
theorem gf_X7_42 (M : nM) (h : mOwn M = RX7) : gfOK M 42 7 10 := ⟨by decide, by decide, Or.inl (by rw [h]; exact wOK_1 1064 (by decide +kernel) (by decide +kernel))⟩
set_option maxRecDepth 100000 in
theorem gf_X7_45 (M : nM) (h : mOwn M = RX7) : gfOK M 45 7 11 := ⟨by decide, by decide, Or.inl (by rw [h]; exact wOK_1 1065 (by decide +kernel) (by decide +kernel))⟩
set_option maxRecDepth 100000 in
theorem gf_X7_48 (M : nM) (h : mOwn M = RX7) : gfOK M 48 7 12 := ⟨by decide, by decide, Or.inl (by rw [h]; exact wOK_1 1066 (by decide +kernel) (by decide +kernel))⟩
set_option maxRecDepth 100000 in
theorem gf_X7_51 (M : nM) (h : mOwn M = RX7) : gfOK M 51 7 13 := ⟨by decide, by decide, Or.inl (by rw [h]; exact wOK_1 1067 (by decide +kernel) (by decide +kernel))⟩
set_option maxRecDepth 100000 in
theorem gf_X7_54 (M : nM) (h : mOwn M = RX7) : gfOK M 54 7 14 := ⟨by decide, by decide, Or.inl (by rw [h]; exact wOK_1 1068 (by decide +kernel) (by decide +kernel))⟩
set_option maxRecDepth 100000 in
theorem gf_X7_57 (M : nM) (h : mOwn M = RX7) : gfOK M 57 7 15 := ⟨by decide, by decide, Or.inl (by rw [h]; exact wOK_1 1069 (by decide +kernel) (by decide +kernel))⟩
set_option maxRecDepth 100000 in
theorem gf_X7_60 (M : nM) (h : mOwn M = RX7) : gfOK M 60 7 18 := ⟨by decide, by decide, Or.inl (by rw [h]; exact wOK_1 1072 (by decide +kernel) (by decide +kernel))⟩
set_option maxRecDepth 100000 in
theorem gf_X7_63 (M : nM) (h : mOwn M = RX7) : gfOK M 63 7 23 := ⟨by decide, by decide, Or.inl (by rw [h]; exact wOK_1 1077 (by decide +kernel) (by decide +kernel))⟩
set_option maxRecDepth 100000 in
theorem gf_X7_66 (M : nM) (h : mOwn M = RX7) : gfOK M 66 7 24 := ⟨by decide, by decide, Or.inl (by rw [h]; exact wOK_1 1078 (by decide +kernel) (by decide +kernel))⟩
set_option maxRecDepth 100000 in
theorem gf_X7_69 (M : nM) (h : mOwn M = RX7) : gfOK M 69 7 26 := ⟨by decide, by decide, Or.inl (by rw [h]; exact wOK_1 1080 (by decide +kernel) (by decide +kernel))⟩
set_option maxRecDepth 100000 in
theorem gf_X7_72 (M : nM) (h : mOwn M = RX7) : gfOK M 72 7 28 := ⟨by decide, by decide, Or.inl (by rw [h]; exact wOK_1 1082 (by decide +kernel) (by decide +kernel))⟩
set_option maxRecDepth 100000 in
theorem gf_X7_75 (M : nM) (h : mOwn M = RX7) : gfOK M 75 7 29 := ⟨by decide, by decide, Or.inl (by rw [h]; exact wOK_1 1083 (by decide +kernel) (by decide +kernel))⟩
set_option maxRecDepth 100000 in
theorem gf_X7_78 (M : nM) (h : mOwn M = RX7) : gfOK M 78 7 30 := ⟨by decide, by decide, Or.inl (by rw [h]; exact wOK_1 1084 (by decide +kernel) (by decide +kernel))⟩
set_option maxRecDepth 100000 in
theorem gf_X7_81 (M : nM) (h : mOwn M = RX7) : gfOK M 81 7 31 := ⟨by decide, by decide, Or.inl (by rw [h]; exact wOK_1 1085 (by decide +kernel) (by decide +kernel))⟩
set_option maxRecDepth 100000 in
theorem gf_X7_84 (M : nM) (h : mOwn M = RX7) : gfOK M 84 7 32 := ⟨by decide, by decide, Or.inl (by rw [h]; exact wOK_1 1086 (by decide +kernel) (by decide +kernel))⟩
set_option maxRecDepth 100000 in
theorem gf_X7_87 (M : nM) (h : mOwn M = RX7) : gfOK M 87 7 33 := ⟨by decide, by decide, Or.inl (by rw [h]; exact wOK_1 1087 (by decide +kernel) (by decide +kernel))⟩
set_option maxRecDepth 100000 in
theorem gf_X7_90 (M : nM) (h : mOwn M = RX7) : gfOK M 90 7 34 := ⟨by decide, by decide, Or.inl (by rw [h]; exact wOK_1 1088 (by decide +kernel) (by decide +kernel))⟩
set_option maxRecDepth 100000 in
theorem gf_X7_93 (M : nM) (h : mOwn M = RX7) : gfOK M 93 7 35 := ⟨by decide, by decide, Or.inl (by rw [h]; exact wOK_1 1089 (by decide +kernel) (by decide +kernel))⟩
set_option maxRecDepth 100000 in
theorem gf_X7_96 (M : nM) (h : mOwn M = RX7) : gfOK M 96 7 36 := ⟨by decide, by decide, Or.inl (by rw [h]; exact wOK_1 1090 (by decide +kernel) (by decide +kernel))⟩
set_option maxRecDepth 100000 in
theorem gf_X7_99 (M : nM) (h : mOwn M = RX7) : gfOK M 99 7 37 := ⟨by decide, by decide, Or.inl (by rw [h]; exact wOK_1 1091 (by decide +kernel) (by decide +kernel))⟩
set_option maxRecDepth 100000 in
theorem gf_X7_102 (M : nM) (h : mOwn M = RX7) : gfOK M 102 7 38 := ⟨by decide, by decide, Or.inl (by rw [h]; exact wOK_1 1092 (by decide +kernel) (by decide +kernel))⟩
set_option maxRecDepth 100000 in
theorem gf_X7_105 (M : nM) (h : mOwn M = RX7) : gfOK M 105 7 39 := ⟨by decide, by decide, Or.inl (by rw [h]; exact wOK_1 1093 (by decide +kernel) (by decide +kernel))⟩
set_option maxRecDepth 100000 in
theorem gf_X7_108 (M : nM) (h : mOwn M = RX7) : gfOK M 108 7 40 := ⟨by decide, by decide, Or.inl (by rw [h]; exact wOK_1 1094 (by decide +kernel) (by decide +kernel))⟩
set_option maxRecDepth 100000 in
theorem gf_X7_111 (M : nM) (h : mOwn M = RX7) : gfOK M 111 7 41 := ⟨by decide, by decide, Or.inl (by rw [h]; exact wOK_1 1095 (by decide +kernel) (by decide +kernel))⟩
set_option maxRecDepth 100000 in
theorem gf_X7_114 (M : nM) (h : mOwn M = RX7) : gfOK M 114 7 16 := ⟨by decide, by decide, Or.inl (by rw [h]; exact wOK_1 1070 (by decide +kernel) (by decide +kernel))⟩
set_option maxRecDepth 100000 in
theorem gf_X7_118 (M : nM) (h : mOwn M = RX7) : gfOK M 118 7 17 := ⟨by decide, by decide, Or.inl (by rw [h]; exact wOK_1 1071 (by decide +kernel) (by decide +kernel))⟩
set_option maxRecDepth 100000 in
theorem gf_X7_121 (M : nM) (h : mOwn M = RX7) : gfOK M 121 7 20 := ⟨by decide, by decide, Or.inl (by rw [h]; exact wOK_1 1074 (by decide +kernel) (by decide +kernel))⟩
set_option maxRecDepth 100000 in
theorem gf_X7_124 (M : nM) (h : mOwn M = RX7) : gfOK M 124 7 22 := ⟨by decide, by decide, Or.inl (by rw [h]; exact wOK_1 1076 (by decide +kernel) (by decide +kernel))⟩
set_option maxRecDepth 100000 in
theorem gf_X7_127 (M : nM) (h : mOwn M = RX7) : gfOK M 127 7 25 := ⟨by decide, by decide, Or.inl (by rw [h]; exact wOK_1 1079 (by decide +kernel) (by decide +kernel))⟩
set_option maxRecDepth 100000 in
theorem gf_X7_158 (M : nM) (h : mOwn M = RX7) : gfOK M 158 7 27 := ⟨by decide, by decide, Or.inl (by rw [h]; exact wOK_1 1081 (by decide +kernel) (by decide +kernel))⟩
set_option maxRecDepth 100000 in
theorem gf_X7_174 (M : nM) (h : mOwn M = RX7) : gfOK M 174 7 21 := ⟨by decide, by decide, Or.inl (by rw [h]; exact wOK_1 1075 (by decide +kernel) (by decide +kernel))⟩
set_option maxRecDepth 100000 in
theorem gf_X7_192 (M : nM) (h : mOwn M = RX7) : gfOK M 192 7 19 := ⟨by decide, by decide, Or.inl (by rw [h]; exact wOK_1 1073 (by decide +kernel) (by decide +kernel))⟩
set_option maxRecDepth 100000 in
theorem co_X6_1 (M : nM) (h : mOwn M = RX6) : wOK (.methodLink (mOwn M) 1 Lib.objectInit) ∧ wOK (.instanceMethod Lib.objectInit) ∧ wOK (.code Lib.objectInit ⟨#[0xb1]⟩ 1 none) := ⟨by rw [h]; exact wOK_1 105 (by decide +kernel) (by decide +kernel), wOK_1 106 (by decide +kernel) (by decide +kernel), wOK_1 107 (by decide +kernel) (by decide +kernel)⟩
set_option maxRecDepth 100000 in
theorem cw_X6_9 (M : nM) (h : mOwn M = RX6) : cxI M 9 mX0_init 0 := ⟨Or.inl (by rw [h]; exact wOK_1 110 (by decide +kernel) (by decide +kernel)), wOK_1 111 (by decide +kernel) (by decide +kernel), rfl, rfl, cb_X0_init⟩
set_option maxRecDepth 100000 in
theorem cw_X6_18 (M : nM) (h : mOwn M = RX6) : cxI M 18 mX3_init 1 := ⟨Or.inl (by rw [h]; exact wOK_1 218 (by decide +kernel) (by decide +kernel)), wOK_1 219 (by decide +kernel) (by decide +kernel), rfl, rfl, cb_X3_init⟩
set_option maxRecDepth 100000 in
theorem cw_X6_27 (M : nM) (h : mOwn M = RX6) : cxI M 27 mX5_init 0 := ⟨Or.inl (by rw [h]; exact wOK_1 260 (by decide +kernel) (by decide +kernel)), wOK_1 261 (by decide +kernel) (by decide +kernel), rfl, rfl, cb_X5_init⟩
set_option maxRecDepth 100000 in
theorem cw_X6_34 (M : nM) (h : mOwn M = RX6) : cxI M 34 mX2_init 2 := ⟨Or.inl (by rw [h]; exact wOK_1 338 (by decide +kernel) (by decide +kernel)), wOK_1 339 (by decide +kernel) (by decide +kernel), rfl, rfl, cb_X2_init⟩
set_option maxRecDepth 100000 in
theorem cw_X6_43 (M : nM) (h : mOwn M = RX6) : cxI M 43 mX4_init 0 := ⟨Or.inr ⟨"Nodewash", by rw [h]; exact List.mem_of_getElem? (i := 361) (by decide +kernel)⟩, wOK_1 118 (by decide +kernel) (by decide +kernel), rfl, rfl, cb_X4_init⟩
set_option maxRecDepth 100000 in
theorem cw_X6_48 (M : nM) (h : mOwn M = RX6) : cxV M 48 mX6_directoryThere (cTab 6).1 1 := ⟨by rw [h]; exact wOK_1 535 (by decide +kernel) (by decide +kernel), wOK_1 537 (by decide +kernel) (by decide +kernel), wOK_1 10 (by decide +kernel) (by decide +kernel), cb_X6_directoryThere⟩
set_option maxRecDepth 100000 in
theorem cw_X6_52 (M : nM) (h : mOwn M = RX6) : cxV M 52 mX6_refuseWrongName (cTab 6).1 1 := ⟨by rw [h]; exact wOK_1 633 (by decide +kernel) (by decide +kernel), wOK_1 635 (by decide +kernel) (by decide +kernel), wOK_1 14 (by decide +kernel) (by decide +kernel), cb_X6_refuseWrongName⟩
set_option maxRecDepth 100000 in
theorem cw_X6_56 (M : nM) (h : mOwn M = RX6) : cxV M 56 mX6_refuseTakenName (cTab 6).1 2 := ⟨by rw [h]; exact wOK_1 653 (by decide +kernel) (by decide +kernel), wOK_1 655 (by decide +kernel) (by decide +kernel), wOK_1 15 (by decide +kernel) (by decide +kernel), cb_X6_refuseTakenName⟩
set_option maxRecDepth 100000 in
theorem cw_X6_60 (M : nM) (h : mOwn M = RX6) : cxV M 60 mX6_refuseWithoutRoom (cTab 6).1 2 := ⟨by rw [h]; exact wOK_1 659 (by decide +kernel) (by decide +kernel), wOK_1 661 (by decide +kernel) (by decide +kernel), wOK_1 16 (by decide +kernel) (by decide +kernel), cb_X6_refuseWithoutRoom⟩
set_option maxRecDepth 100000 in
theorem cw_X6_68 (M : nM) (h : mOwn M = RX6) : cxV M 68 mX4_becomeData (cTab 4).1 4 := ⟨by rw [h]; exact wOK_1 672 (by decide +kernel) (by decide +kernel), wOK_1 673 (by decide +kernel) (by decide +kernel), wOK_1 674 (by decide +kernel) (by decide +kernel), cb_X4_becomeData⟩
set_option maxRecDepth 100000 in
theorem cw_X6_72 (M : nM) (h : mOwn M = RX6) : cxV M 72 mX3_put (cTab 3).1 1 := ⟨by rw [h]; exact wOK_1 677 (by decide +kernel) (by decide +kernel), wOK_1 678 (by decide +kernel) (by decide +kernel), wOK_1 679 (by decide +kernel) (by decide +kernel), cb_X3_put⟩
set_option maxRecDepth 100000 in
theorem cw_X6_76 (M : nM) (h : mOwn M = RX6) : cxV M 76 mX6_putName (cTab 6).1 4 := ⟨by rw [h]; exact wOK_1 705 (by decide +kernel) (by decide +kernel), wOK_1 707 (by decide +kernel) (by decide +kernel), wOK_1 20 (by decide +kernel) (by decide +kernel), cb_X6_putName⟩
set_option maxRecDepth 100000 in
theorem cw_X6_80 (M : nM) (h : mOwn M = RX6) : cxV M 80 mX5_add (cTab 5).1 2 := ⟨by rw [h]; exact wOK_1 713 (by decide +kernel) (by decide +kernel), wOK_1 271 (by decide +kernel) (by decide +kernel), wOK_1 272 (by decide +kernel) (by decide +kernel), cb_X5_add⟩
set_option maxRecDepth 100000 in
theorem cw_X6_89 (M : nM) (h : mOwn M = RX6) : cxV M 89 mX5_assign (cTab 5).1 3 := ⟨by rw [h]; exact wOK_1 714 (by decide +kernel) (by decide +kernel), wOK_1 466 (by decide +kernel) (by decide +kernel), wOK_1 467 (by decide +kernel) (by decide +kernel), cb_X5_assign⟩
set_option maxRecDepth 100000 in
theorem cw_X6_93 (M : nM) (h : mOwn M = RX6) : cxV M 93 mX6_fileThere (cTab 6).1 1 := ⟨by rw [h]; exact wOK_1 729 (by decide +kernel) (by decide +kernel), wOK_1 731 (by decide +kernel) (by decide +kernel), wOK_1 21 (by decide +kernel) (by decide +kernel), cb_X6_fileThere⟩
set_option maxRecDepth 100000 in
theorem cw_X6_99 (M : nM) (h : mOwn M = RX6) : cxV M 99 mX6_itemNamed (cTab 6).1 2 := ⟨by rw [h]; exact wOK_1 741 (by decide +kernel) (by decide +kernel), wOK_1 743 (by decide +kernel) (by decide +kernel), wOK_1 22 (by decide +kernel) (by decide +kernel), cb_X6_itemNamed⟩
set_option maxRecDepth 100000 in
theorem cw_X6_116 (M : nM) (h : mOwn M = RX6) : cxV M 116 mX1_cell (cTab 1).1 1 := ⟨by rw [h]; exact wOK_1 657 (by decide +kernel) (by decide +kernel), wOK_1 470 (by decide +kernel) (by decide +kernel), wOK_1 471 (by decide +kernel) (by decide +kernel), cb_X1_cell⟩
set_option maxRecDepth 100000 in
theorem cw_X6_120 (M : nM) (h : mOwn M = RX6) : cxV M 120 mX5_find (cTab 5).1 1 := ⟨by rw [h]; exact wOK_1 615 (by decide +kernel) (by decide +kernel), wOK_1 462 (by decide +kernel) (by decide +kernel), wOK_1 463 (by decide +kernel) (by decide +kernel), cb_X5_find⟩
set_option maxRecDepth 100000 in
theorem cw_X6_123 (M : nM) (h : mOwn M = RX6) : cxV M 123 mX6_refuseWrongMove (cTab 6).1 3 := ⟨by rw [h]; exact wOK_1 754 (by decide +kernel) (by decide +kernel), wOK_1 756 (by decide +kernel) (by decide +kernel), wOK_1 23 (by decide +kernel) (by decide +kernel), cb_X6_refuseWrongMove⟩
set_option maxRecDepth 100000 in
theorem cw_X6_141 (M : nM) (h : mOwn M = RX6) : cxS M 141 mJ9_max 2 := ⟨by rw [h]; exact wOK_1 778 (by decide +kernel) (by decide +kernel), wOK_1 320 (by decide +kernel) (by decide +kernel), cb_J9_max⟩
set_option maxRecDepth 100000 in
theorem cw_X6_147 (M : nM) (h : mOwn M = RX6) : cxV M 147 mX4_giveBytes (cTab 4).1 2 := ⟨by rw [h]; exact wOK_1 779 (by decide +kernel) (by decide +kernel), wOK_1 780 (by decide +kernel) (by decide +kernel), wOK_1 781 (by decide +kernel) (by decide +kernel), cb_X4_giveBytes⟩
set_option maxRecDepth 100000 in
theorem cw_X6_151 (M : nM) (h : mOwn M = RX6) : cxV M 151 mX6_putContent (cTab 6).1 1 := ⟨by rw [h]; exact wOK_1 783 (by decide +kernel) (by decide +kernel), wOK_1 785 (by decide +kernel) (by decide +kernel), wOK_1 25 (by decide +kernel) (by decide +kernel), cb_X6_putContent⟩
set_option maxRecDepth 100000 in
theorem cw_X6_157 (M : nM) (h : mOwn M = RX6) : cxV M 157 mX6_refuseInDark (cTab 6).1 0 := ⟨by rw [h]; exact wOK_1 543 (by decide +kernel) (by decide +kernel), wOK_1 545 (by decide +kernel) (by decide +kernel), wOK_1 12 (by decide +kernel) (by decide +kernel), cb_X6_refuseInDark⟩
set_option maxRecDepth 100000 in
theorem cw_X6_162 (M : nM) (h : mOwn M = RX6) : cxV M 162 mX6_victim (cTab 6).1 1 := ⟨by rw [h]; exact wOK_1 804 (by decide +kernel) (by decide +kernel), wOK_1 806 (by decide +kernel) (by decide +kernel), wOK_1 26 (by decide +kernel) (by decide +kernel), cb_X6_victim⟩
set_option maxRecDepth 100000 in
theorem cw_X6_167 (M : nM) (h : mOwn M = RX6) : cxV M 167 mX2_choose (cTab 2).1 1 := ⟨by rw [h]; exact wOK_1 856 (by decide +kernel) (by decide +kernel), wOK_1 857 (by decide +kernel) (by decide +kernel), wOK_1 858 (by decide +kernel) (by decide +kernel), cb_X2_choose⟩
set_option maxRecDepth 100000 in
theorem cw_X6_170 (M : nM) (h : mOwn M = RX6) : cxV M 170 mX6_refuseWithoutRoomFor (cTab 6).1 1 := ⟨by rw [h]; exact wOK_1 882 (by decide +kernel) (by decide +kernel), wOK_1 884 (by decide +kernel) (by decide +kernel), wOK_1 34 (by decide +kernel) (by decide +kernel), cb_X6_refuseWithoutRoomFor⟩
set_option maxRecDepth 100000 in
theorem cw_X6_173 (M : nM) (h : mOwn M = RX6) : cxV M 173 mX2_chosenAt (cTab 2).1 1 := ⟨by rw [h]; exact wOK_1 886 (by decide +kernel) (by decide +kernel), wOK_1 887 (by decide +kernel) (by decide +kernel), wOK_1 888 (by decide +kernel) (by decide +kernel), cb_X2_chosenAt⟩
set_option maxRecDepth 100000 in
theorem cw_X6_177 (M : nM) (h : mOwn M = RX6) : cxV M 177 mX3_freeClosed (cTab 3).1 1 := ⟨by rw [h]; exact wOK_1 891 (by decide +kernel) (by decide +kernel), wOK_1 892 (by decide +kernel) (by decide +kernel), wOK_1 893 (by decide +kernel) (by decide +kernel), cb_X3_freeClosed⟩
set_option maxRecDepth 100000 in
theorem cw_X6_186 (M : nM) (h : mOwn M = RX6) : cxV M 186 mX6_unitsToRead (cTab 6).1 2 := ⟨by rw [h]; exact wOK_1 382 (by decide +kernel) (by decide +kernel), wOK_1 384 (by decide +kernel) (by decide +kernel), wOK_1 1 (by decide +kernel) (by decide +kernel), cb_X6_unitsToRead⟩
set_option maxRecDepth 100000 in
theorem cw_X6_193 (M : nM) (h : mOwn M = RX6) : cxV M 193 mX3_restart (cTab 3).1 0 := ⟨by rw [h]; exact wOK_1 410 (by decide +kernel) (by decide +kernel), wOK_1 411 (by decide +kernel) (by decide +kernel), wOK_1 412 (by decide +kernel) (by decide +kernel), cb_X3_restart⟩
set_option maxRecDepth 100000 in
theorem cw_X6_196 (M : nM) (h : mOwn M = RX6) : cxV M 196 mX5_restart (cTab 5).1 1 := ⟨by rw [h]; exact wOK_1 434 (by decide +kernel) (by decide +kernel), wOK_1 435 (by decide +kernel) (by decide +kernel), wOK_1 436 (by decide +kernel) (by decide +kernel), cb_X5_restart⟩
set_option maxRecDepth 100000 in
theorem cw_X6_198 (M : nM) (h : mOwn M = RX6) : cxV M 198 mX3_eraseBroken (cTab 3).1 0 := ⟨by rw [h]; exact wOK_1 504 (by decide +kernel) (by decide +kernel), wOK_1 505 (by decide +kernel) (by decide +kernel), wOK_1 506 (by decide +kernel) (by decide +kernel), cb_X3_eraseBroken⟩
set_option maxRecDepth 100000 in
theorem cw_X6_207 (M : nM) (h : mOwn M = RX6) : cxV M 207 mX1_nameBehind (cTab 1).1 1 := ⟨by rw [h]; exact wOK_1 929 (by decide +kernel) (by decide +kernel), wOK_1 930 (by decide +kernel) (by decide +kernel), wOK_1 931 (by decide +kernel) (by decide +kernel), cb_X1_nameBehind⟩
set_option maxRecDepth 100000 in
theorem cw_X6_210 (M : nM) (h : mOwn M = RX6) : cxV M 210 mX6_itemThere (cTab 6).1 1 := ⟨by rw [h]; exact wOK_1 539 (by decide +kernel) (by decide +kernel), wOK_1 541 (by decide +kernel) (by decide +kernel), wOK_1 11 (by decide +kernel) (by decide +kernel), cb_X6_itemThere⟩
set_option maxRecDepth 100000 in
theorem cw_X6_213 (M : nM) (h : mOwn M = RX6) : cxV M 213 mX6_refuseWrongPlace (cTab 6).1 2 := ⟨by rw [h]; exact wOK_1 962 (by decide +kernel) (by decide +kernel), wOK_1 964 (by decide +kernel) (by decide +kernel), wOK_1 36 (by decide +kernel) (by decide +kernel), cb_X6_refuseWrongPlace⟩
set_option maxRecDepth 100000 in
theorem cw_X6_217 (M : nM) (h : mOwn M = RX6) : cxV M 217 mX0_newest (cTab 0).1 4 := ⟨by rw [h]; exact wOK_1 975 (by decide +kernel) (by decide +kernel), wOK_1 453 (by decide +kernel) (by decide +kernel), wOK_1 454 (by decide +kernel) (by decide +kernel), cb_X0_newest⟩
set_option maxRecDepth 100000 in
theorem cw_X6_221 (M : nM) (h : mOwn M = RX6) : cxV M 221 mX4_byteFor (cTab 4).1 1 := ⟨by rw [h]; exact wOK_1 976 (by decide +kernel) (by decide +kernel), wOK_1 495 (by decide +kernel) (by decide +kernel), wOK_1 496 (by decide +kernel) (by decide +kernel), cb_X4_byteFor⟩
set_option maxRecDepth 100000 in
theorem cw_X6_224 (M : nM) (h : mOwn M = RX6) : cxV M 224 mX6_refuseWrongBlock (cTab 6).1 1 := ⟨by rw [h]; exact wOK_1 984 (by decide +kernel) (by decide +kernel), wOK_1 986 (by decide +kernel) (by decide +kernel), wOK_1 37 (by decide +kernel) (by decide +kernel), cb_X6_refuseWrongBlock⟩
set_option maxRecDepth 100000 in
theorem cw_X6_227 (M : nM) (h : mOwn M = RX6) : cxV M 227 mX3_isFree (cTab 3).1 1 := ⟨by rw [h]; exact wOK_1 989 (by decide +kernel) (by decide +kernel), wOK_1 990 (by decide +kernel) (by decide +kernel), wOK_1 991 (by decide +kernel) (by decide +kernel), cb_X3_isFree⟩
set_option maxRecDepth 100000 in
theorem cw_X6_233 (M : nM) (h : mOwn M = RX6) : cxV M 233 mX2_dirtOf (cTab 2).1 1 := ⟨by rw [h]; exact wOK_1 812 (by decide +kernel) (by decide +kernel), wOK_1 813 (by decide +kernel) (by decide +kernel), wOK_1 814 (by decide +kernel) (by decide +kernel), cb_X2_dirtOf⟩
set_option maxRecDepth 100000 in
theorem cw_X6_236 (M : nM) (h : mOwn M = RX6) : cxV M 236 mX2_deadUnits (cTab 2).1 1 := ⟨by rw [h]; exact wOK_1 1000 (by decide +kernel) (by decide +kernel), wOK_1 1001 (by decide +kernel) (by decide +kernel), wOK_1 1002 (by decide +kernel) (by decide +kernel), cb_X2_deadUnits⟩
set_option maxRecDepth 100000 in
theorem cw_X6_239 (M : nM) (h : mOwn M = RX6) : cxV M 239 mX0_usedOf (cTab 0).1 1 := ⟨by rw [h]; exact wOK_1 406 (by decide +kernel) (by decide +kernel), wOK_1 407 (by decide +kernel) (by decide +kernel), wOK_1 408 (by decide +kernel) (by decide +kernel), cb_X0_usedOf⟩
set_option maxRecDepth 100000 in
theorem cw_X6_242 (M : nM) (h : mOwn M = RX6) : cxV M 242 mX0_countOf (cTab 0).1 1 := ⟨by rw [h]; exact wOK_1 386 (by decide +kernel) (by decide +kernel), wOK_1 387 (by decide +kernel) (by decide +kernel), wOK_1 388 (by decide +kernel) (by decide +kernel), cb_X0_countOf⟩
set_option maxRecDepth 100000 in
theorem cw_X6_247 (M : nM) (h : mOwn M = RX6) : cxV M 247 mX0_at (cTab 0).1 2 := ⟨by rw [h]; exact wOK_1 394 (by decide +kernel) (by decide +kernel), wOK_1 395 (by decide +kernel) (by decide +kernel), wOK_1 396 (by decide +kernel) (by decide +kernel), cb_X0_at⟩
set_option maxRecDepth 100000 in
theorem cw_X6_251 (M : nM) (h : mOwn M = RX6) : cxV M 251 mX4_isWhole (cTab 4).1 0 := ⟨by rw [h]; exact wOK_1 402 (by decide +kernel) (by decide +kernel), wOK_1 403 (by decide +kernel) (by decide +kernel), wOK_1 404 (by decide +kernel) (by decide +kernel), cb_X4_isWhole⟩
set_option maxRecDepth 100000 in
theorem cw_X6_270 (M : nM) (h : mOwn M = RX6) : cxV M 270 mX0_erasuresOf (cTab 0).1 1 := ⟨by rw [h]; exact wOK_1 1044 (by decide +kernel) (by decide +kernel), wOK_1 1045 (by decide +kernel) (by decide +kernel), wOK_1 1046 (by decide +kernel) (by decide +kernel), cb_X0_erasuresOf⟩
set_option maxRecDepth 100000 in
theorem cw_X6_291 (M : nM) (h : mOwn M = RX6) : cxV M 291 mX5_leadsTo (cTab 5).1 2 := ⟨by rw [h]; exact wOK_1 760 (by decide +kernel) (by decide +kernel), wOK_1 761 (by decide +kernel) (by decide +kernel), wOK_1 762 (by decide +kernel) (by decide +kernel), cb_X5_leadsTo⟩
set_option maxRecDepth 100000 in
theorem cw_X6_304 (M : nM) (h : mOwn M = RX6) : cxV M 304 mX3_beginTrial (cTab 3).1 1 := ⟨by rw [h]; exact wOK_1 663 (by decide +kernel) (by decide +kernel), wOK_1 664 (by decide +kernel) (by decide +kernel), wOK_1 665 (by decide +kernel) (by decide +kernel), cb_X3_beginTrial⟩
set_option maxRecDepth 100000 in
theorem cw_X6_307 (M : nM) (h : mOwn M = RX6) : cxV M 307 mX3_takesInTrial (cTab 3).1 1 := ⟨by rw [h]; exact wOK_1 667 (by decide +kernel) (by decide +kernel), wOK_1 668 (by decide +kernel) (by decide +kernel), wOK_1 669 (by decide +kernel) (by decide +kernel), cb_X3_takesInTrial⟩
set_option maxRecDepth 100000 in
theorem cw_X6_317 (M : nM) (h : mOwn M = RX6) : cxV M 317 mX4_becomeName (cTab 4).1 5 := ⟨by rw [h]; exact wOK_1 709 (by decide +kernel) (by decide +kernel), wOK_1 710 (by decide +kernel) (by decide +kernel), wOK_1 711 (by decide +kernel) (by decide +kernel), cb_X4_becomeName⟩
set_option maxRecDepth 100000 in
theorem cw_X6_321 (M : nM) (h : mOwn M = RX6) : cxV M 321 mX1_lay (cTab 1).1 1 := ⟨by rw [h]; exact wOK_1 787 (by decide +kernel) (by decide +kernel), wOK_1 490 (by decide +kernel) (by decide +kernel), wOK_1 491 (by decide +kernel) (by decide +kernel), cb_X1_lay⟩
set_option maxRecDepth 100000 in
theorem cw_X6_328 (M : nM) (h : mOwn M = RX6) : cxV M 328 mX3_closedAt (cTab 3).1 1 := ⟨by rw [h]; exact wOK_1 808 (by decide +kernel) (by decide +kernel), wOK_1 809 (by decide +kernel) (by decide +kernel), wOK_1 810 (by decide +kernel) (by decide +kernel), cb_X3_closedAt⟩
set_option maxRecDepth 100000 in
theorem cw_X6_331 (M : nM) (h : mOwn M = RX6) : cxS M 331 mJ9_floorMod 2 := ⟨by rw [h]; exact wOK_1 852 (by decide +kernel) (by decide +kernel), wOK_1 853 (by decide +kernel) (by decide +kernel), cb_J9_floorMod⟩
set_option maxRecDepth 100000 in
theorem co_X0_3 (M : nM) (h : mOwn M = RX0) : wOK (.methodLink (mOwn M) 3 Lib.objectInit) ∧ wOK (.instanceMethod Lib.objectInit) ∧ wOK (.code Lib.objectInit ⟨#[0xb1]⟩ 1 none) := ⟨by rw [h]; exact wOK_1 113 (by decide +kernel) (by decide +kernel), wOK_1 106 (by decide +kernel) (by decide +kernel), wOK_1 107 (by decide +kernel) (by decide +kernel)⟩
set_option maxRecDepth 100000 in
theorem cw_X0_27 (M : nM) (h : mOwn M = RX0) : cxI M 27 mX4_init 0 := ⟨Or.inr ⟨"Nodewash", by rw [h]; exact List.mem_of_getElem? (i := 117) (by decide +kernel)⟩, wOK_1 118 (by decide +kernel) (by decide +kernel), rfl, rfl, cb_X4_init⟩
set_option maxRecDepth 100000 in
theorem cw_X0_36 (M : nM) (h : mOwn M = RX0) : cxV M 36 mX0_has (cTab 0).1 1 := ⟨by rw [h]; exact wOK_1 390 (by decide +kernel) (by decide +kernel), wOK_1 391 (by decide +kernel) (by decide +kernel), wOK_1 392 (by decide +kernel) (by decide +kernel), cb_X0_has⟩
set_option maxRecDepth 100000 in
theorem cw_X0_40 (M : nM) (h : mOwn M = RX0) : cxV M 40 mX0_row (cTab 0).1 1 := ⟨by rw [h]; exact wOK_1 398 (by decide +kernel) (by decide +kernel), wOK_1 399 (by decide +kernel) (by decide +kernel), wOK_1 400 (by decide +kernel) (by decide +kernel), cb_X0_row⟩
set_option maxRecDepth 100000 in
theorem cw_X0_44 (M : nM) (h : mOwn M = RX0) : cxV M 44 mX4_tells (cTab 4).1 2 := ⟨by rw [h]; exact wOK_1 456 (by decide +kernel) (by decide +kernel), wOK_1 448 (by decide +kernel) (by decide +kernel), wOK_1 449 (by decide +kernel) (by decide +kernel), cb_X4_tells⟩
set_option maxRecDepth 100000 in
theorem cw_X0_51 (M : nM) (h : mOwn M = RX0) : cxV M 51 mX4_settles (cTab 4).1 1 := ⟨by rw [h]; exact wOK_1 457 (by decide +kernel) (by decide +kernel), wOK_1 458 (by decide +kernel) (by decide +kernel), wOK_1 459 (by decide +kernel) (by decide +kernel), cb_X4_settles⟩
set_option maxRecDepth 100000 in
theorem cw_X0_57 (M : nM) (h : mOwn M = RX0) : cxV M 57 mX4_settledPlaces (cTab 4).1 0 := ⟨by rw [h]; exact wOK_1 846 (by decide +kernel) (by decide +kernel), wOK_1 847 (by decide +kernel) (by decide +kernel), wOK_1 848 (by decide +kernel) (by decide +kernel), cb_X4_settledPlaces⟩
set_option maxRecDepth 100000 in
theorem cw_X0_61 (M : nM) (h : mOwn M = RX0) : cxV M 61 mX4_isCopyOf (cTab 4).1 1 := ⟨by rw [h]; exact wOK_1 837 (by decide +kernel) (by decide +kernel), wOK_1 838 (by decide +kernel) (by decide +kernel), wOK_1 839 (by decide +kernel) (by decide +kernel), cb_X4_isCopyOf⟩
set_option maxRecDepth 100000 in
theorem cw_X0_72 (M : nM) (h : mOwn M = RX0) : cxV M 72 mX0_spend (cTab 0).1 0 := ⟨by rw [h]; exact wOK_1 512 (by decide +kernel) (by decide +kernel), wOK_1 513 (by decide +kernel) (by decide +kernel), wOK_1 514 (by decide +kernel) (by decide +kernel), cb_X0_spend⟩
set_option maxRecDepth 100000 in
theorem cw_X0_76 (M : nM) (h : mOwn M = RX0) : cxV M 76 mX0_begin (cTab 0).1 2 := ⟨by rw [h]; exact wOK_1 693 (by decide +kernel) (by decide +kernel), wOK_1 695 (by decide +kernel) (by decide +kernel), wOK_1 18 (by decide +kernel) (by decide +kernel), cb_X0_begin⟩
set_option maxRecDepth 100000 in
theorem cw_X0_83 (M : nM) (h : mOwn M = RX0) : cxV M 83 mX4_copyFrom (cTab 4).1 1 := ⟨by rw [h]; exact wOK_1 697 (by decide +kernel) (by decide +kernel), wOK_1 698 (by decide +kernel) (by decide +kernel), wOK_1 699 (by decide +kernel) (by decide +kernel), cb_X4_copyFrom⟩
set_option maxRecDepth 100000 in
theorem cw_X0_87 (M : nM) (h : mOwn M = RX0) : cxV M 87 mX0_at (cTab 0).1 2 := ⟨by rw [h]; exact wOK_1 516 (by decide +kernel) (by decide +kernel), wOK_1 395 (by decide +kernel) (by decide +kernel), wOK_1 396 (by decide +kernel) (by decide +kernel), cb_X0_at⟩
set_option maxRecDepth 100000 in
theorem cw_X0_91 (M : nM) (h : mOwn M = RX0) : cxV M 91 mX4_clear (cTab 4).1 0 := ⟨by rw [h]; exact wOK_1 517 (by decide +kernel) (by decide +kernel), wOK_1 518 (by decide +kernel) (by decide +kernel), wOK_1 519 (by decide +kernel) (by decide +kernel), cb_X4_clear⟩
set_option maxRecDepth 100000 in
theorem co_X1_3 (M : nM) (h : mOwn M = RX1) : wOK (.methodLink (mOwn M) 3 Lib.objectInit) ∧ wOK (.instanceMethod Lib.objectInit) ∧ wOK (.code Lib.objectInit ⟨#[0xb1]⟩ 1 none) := ⟨by rw [h]; exact wOK_1 278 (by decide +kernel) (by decide +kernel), wOK_1 106 (by decide +kernel) (by decide +kernel), wOK_1 107 (by decide +kernel) (by decide +kernel)⟩
set_option maxRecDepth 100000 in
theorem cw_X1_38 (M : nM) (h : mOwn M = RX1) : cxV M 38 mX4_settles (cTab 4).1 1 := ⟨by rw [h]; exact wOK_1 493 (by decide +kernel) (by decide +kernel), wOK_1 458 (by decide +kernel) (by decide +kernel), wOK_1 459 (by decide +kernel) (by decide +kernel), cb_X4_settles⟩
set_option maxRecDepth 100000 in
theorem cw_X1_42 (M : nM) (h : mOwn M = RX1) : cxV M 42 mX4_byteFor (cTab 4).1 1 := ⟨by rw [h]; exact wOK_1 494 (by decide +kernel) (by decide +kernel), wOK_1 495 (by decide +kernel) (by decide +kernel), wOK_1 496 (by decide +kernel) (by decide +kernel), cb_X4_byteFor⟩
set_option maxRecDepth 100000 in
theorem cw_X1_46 (M : nM) (h : mOwn M = RX1) : cxV M 46 mX1_setCell (cTab 1).1 2 := ⟨by rw [h]; exact wOK_1 502 (by decide +kernel) (by decide +kernel), wOK_1 474 (by decide +kernel) (by decide +kernel), wOK_1 475 (by decide +kernel) (by decide +kernel), cb_X1_setCell⟩
set_option maxRecDepth 100000 in
theorem cw_X1_51 (M : nM) (h : mOwn M = RX1) : cxV M 51 mX1_cell (cTab 1).1 1 := ⟨by rw [h]; exact wOK_1 933 (by decide +kernel) (by decide +kernel), wOK_1 470 (by decide +kernel) (by decide +kernel), wOK_1 471 (by decide +kernel) (by decide +kernel), cb_X1_cell⟩
set_option maxRecDepth 100000 in
theorem co_X2_3 (M : nM) (h : mOwn M = RX2) : wOK (.methodLink (mOwn M) 3 Lib.objectInit) ∧ wOK (.instanceMethod Lib.objectInit) ∧ wOK (.code Lib.objectInit ⟨#[0xb1]⟩ 1 none) := ⟨by rw [h]; exact wOK_1 341 (by decide +kernel) (by decide +kernel), wOK_1 106 (by decide +kernel) (by decide +kernel), wOK_1 107 (by decide +kernel) (by decide +kernel)⟩
set_option maxRecDepth 100000 in
theorem cw_X2_17 (M : nM) (h : mOwn M = RX2) : cxI M 17 mX4_init 0 := ⟨Or.inr ⟨"Nodewash", by rw [h]; exact List.mem_of_getElem? (i := 343) (by decide +kernel)⟩, wOK_1 118 (by decide +kernel) (by decide +kernel), rfl, rfl, cb_X4_init⟩
set_option maxRecDepth 100000 in
theorem cw_X2_37 (M : nM) (h : mOwn M = RX2) : cxV M 37 mX5_holds (cTab 5).1 2 := ⟨by rw [h]; exact wOK_1 827 (by decide +kernel) (by decide +kernel), wOK_1 828 (by decide +kernel) (by decide +kernel), wOK_1 829 (by decide +kernel) (by decide +kernel), cb_X5_holds⟩
set_option maxRecDepth 100000 in
theorem cw_X2_50 (M : nM) (h : mOwn M = RX2) : cxV M 50 mX0_newest (cTab 0).1 4 := ⟨by rw [h]; exact wOK_1 832 (by decide +kernel) (by decide +kernel), wOK_1 453 (by decide +kernel) (by decide +kernel), wOK_1 454 (by decide +kernel) (by decide +kernel), cb_X0_newest⟩
set_option maxRecDepth 100000 in
theorem cw_X2_56 (M : nM) (h : mOwn M = RX2) : cxV M 56 mX0_firstCopy (cTab 0).1 1 := ⟨by rw [h]; exact wOK_1 833 (by decide +kernel) (by decide +kernel), wOK_1 834 (by decide +kernel) (by decide +kernel), wOK_1 835 (by decide +kernel) (by decide +kernel), cb_X0_firstCopy⟩
set_option maxRecDepth 100000 in
theorem cw_X2_64 (M : nM) (h : mOwn M = RX2) : cxV M 64 mX0_settledByNewer (cTab 0).1 1 := ⟨by rw [h]; exact wOK_1 842 (by decide +kernel) (by decide +kernel), wOK_1 843 (by decide +kernel) (by decide +kernel), wOK_1 844 (by decide +kernel) (by decide +kernel), cb_X0_settledByNewer⟩
set_option maxRecDepth 100000 in
theorem cw_X2_70 (M : nM) (h : mOwn M = RX2) : cxV M 70 mX4_isWhole (cTab 4).1 0 := ⟨by rw [h]; exact wOK_1 818 (by decide +kernel) (by decide +kernel), wOK_1 403 (by decide +kernel) (by decide +kernel), wOK_1 404 (by decide +kernel) (by decide +kernel), cb_X4_isWhole⟩
set_option maxRecDepth 100000 in
theorem cw_X2_74 (M : nM) (h : mOwn M = RX2) : cxV M 74 mX2_isLive (cTab 2).1 1 := ⟨by rw [h]; exact wOK_1 823 (by decide +kernel) (by decide +kernel), wOK_1 825 (by decide +kernel) (by decide +kernel), wOK_1 28 (by decide +kernel) (by decide +kernel), cb_X2_isLive⟩
set_option maxRecDepth 100000 in
theorem cw_X2_78 (M : nM) (h : mOwn M = RX2) : cxV M 78 mX0_countOf (cTab 0).1 1 := ⟨by rw [h]; exact wOK_1 816 (by decide +kernel) (by decide +kernel), wOK_1 387 (by decide +kernel) (by decide +kernel), wOK_1 388 (by decide +kernel) (by decide +kernel), cb_X0_countOf⟩
set_option maxRecDepth 100000 in
theorem cw_X2_82 (M : nM) (h : mOwn M = RX2) : cxV M 82 mX0_at (cTab 0).1 2 := ⟨by rw [h]; exact wOK_1 817 (by decide +kernel) (by decide +kernel), wOK_1 395 (by decide +kernel) (by decide +kernel), wOK_1 396 (by decide +kernel) (by decide +kernel), cb_X0_at⟩
set_option maxRecDepth 100000 in
theorem cw_X2_86 (M : nM) (h : mOwn M = RX2) : cxV M 86 mX2_isDead (cTab 2).1 1 := ⟨by rw [h]; exact wOK_1 819 (by decide +kernel) (by decide +kernel), wOK_1 821 (by decide +kernel) (by decide +kernel), wOK_1 27 (by decide +kernel) (by decide +kernel), cb_X2_isDead⟩
set_option maxRecDepth 100000 in
theorem cw_X2_99 (M : nM) (h : mOwn M = RX2) : cxV M 99 mX2_lookAt (cTab 2).1 1 := ⟨by rw [h]; exact wOK_1 860 (by decide +kernel) (by decide +kernel), wOK_1 862 (by decide +kernel) (by decide +kernel), wOK_1 29 (by decide +kernel) (by decide +kernel), cb_X2_lookAt⟩
set_option maxRecDepth 100000 in
theorem cw_X2_106 (M : nM) (h : mOwn M = RX2) : cxV M 106 mX2_isMissed (cTab 2).1 1 := ⟨by rw [h]; exact wOK_1 864 (by decide +kernel) (by decide +kernel), wOK_1 866 (by decide +kernel) (by decide +kernel), wOK_1 30 (by decide +kernel) (by decide +kernel), cb_X2_isMissed⟩
set_option maxRecDepth 100000 in
theorem cw_X2_109 (M : nM) (h : mOwn M = RX2) : cxV M 109 mX2_isMissedAsName (cTab 2).1 1 := ⟨by rw [h]; exact wOK_1 868 (by decide +kernel) (by decide +kernel), wOK_1 870 (by decide +kernel) (by decide +kernel), wOK_1 31 (by decide +kernel) (by decide +kernel), cb_X2_isMissedAsName⟩
set_option maxRecDepth 100000 in
theorem cw_X2_112 (M : nM) (h : mOwn M = RX2) : cxV M 112 mX2_isMissedAsData (cTab 2).1 1 := ⟨by rw [h]; exact wOK_1 876 (by decide +kernel) (by decide +kernel), wOK_1 878 (by decide +kernel) (by decide +kernel), wOK_1 33 (by decide +kernel) (by decide +kernel), cb_X2_isMissedAsData⟩
set_option maxRecDepth 100000 in
theorem cw_X2_115 (M : nM) (h : mOwn M = RX2) : cxV M 115 mX2_targetOf (cTab 2).1 1 := ⟨by rw [h]; exact wOK_1 872 (by decide +kernel) (by decide +kernel), wOK_1 874 (by decide +kernel) (by decide +kernel), wOK_1 32 (by decide +kernel) (by decide +kernel), cb_X2_targetOf⟩
set_option maxRecDepth 100000 in
theorem cw_X2_119 (M : nM) (h : mOwn M = RX2) : cxV M 119 mX4_settledPlaces (cTab 4).1 0 := ⟨by rw [h]; exact wOK_1 880 (by decide +kernel) (by decide +kernel), wOK_1 847 (by decide +kernel) (by decide +kernel), wOK_1 848 (by decide +kernel) (by decide +kernel), cb_X4_settledPlaces⟩
set_option maxRecDepth 100000 in
theorem cw_X2_126 (M : nM) (h : mOwn M = RX2) : cxV M 126 mX4_byteFor (cTab 4).1 1 := ⟨by rw [h]; exact wOK_1 881 (by decide +kernel) (by decide +kernel), wOK_1 495 (by decide +kernel) (by decide +kernel), wOK_1 496 (by decide +kernel) (by decide +kernel), cb_X4_byteFor⟩
set_option maxRecDepth 100000 in
theorem co_X3_3 (M : nM) (h : mOwn M = RX3) : wOK (.methodLink (mOwn M) 3 Lib.objectInit) ∧ wOK (.instanceMethod Lib.objectInit) ∧ wOK (.code Lib.objectInit ⟨#[0xb1]⟩ 1 none) := ⟨by rw [h]; exact wOK_1 221 (by decide +kernel) (by decide +kernel), wOK_1 106 (by decide +kernel) (by decide +kernel), wOK_1 107 (by decide +kernel) (by decide +kernel)⟩
set_option maxRecDepth 100000 in
theorem cw_X3_11 (M : nM) (h : mOwn M = RX3) : cxI M 11 mX4_init 0 := ⟨Or.inr ⟨"Nodewash", by rw [h]; exact List.mem_of_getElem? (i := 223) (by decide +kernel)⟩, wOK_1 118 (by decide +kernel) (by decide +kernel), rfl, rfl, cb_X4_init⟩
set_option maxRecDepth 100000 in
theorem cw_X3_39 (M : nM) (h : mOwn M = RX3) : cxV M 39 mX0_usedOf (cTab 0).1 1 := ⟨by rw [h]; exact wOK_1 414 (by decide +kernel) (by decide +kernel), wOK_1 407 (by decide +kernel) (by decide +kernel), wOK_1 408 (by decide +kernel) (by decide +kernel), cb_X0_usedOf⟩
set_option maxRecDepth 100000 in
theorem cw_X3_48 (M : nM) (h : mOwn M = RX3) : cxV M 48 mX0_countOf (cTab 0).1 1 := ⟨by rw [h]; exact wOK_1 419 (by decide +kernel) (by decide +kernel), wOK_1 387 (by decide +kernel) (by decide +kernel), wOK_1 388 (by decide +kernel) (by decide +kernel), cb_X0_countOf⟩
set_option maxRecDepth 100000 in
theorem cw_X3_57 (M : nM) (h : mOwn M = RX3) : cxV M 57 mX3_fits (cTab 3).1 3 := ⟨by rw [h]; exact wOK_1 422 (by decide +kernel) (by decide +kernel), wOK_1 424 (by decide +kernel) (by decide +kernel), wOK_1 3 (by decide +kernel) (by decide +kernel), cb_X3_fits⟩
set_option maxRecDepth 100000 in
theorem cw_X3_64 (M : nM) (h : mOwn M = RX3) : cxV M 64 mX3_goOn (cTab 3).1 0 := ⟨by rw [h]; exact wOK_1 681 (by decide +kernel) (by decide +kernel), wOK_1 683 (by decide +kernel) (by decide +kernel), wOK_1 17 (by decide +kernel) (by decide +kernel), cb_X3_goOn⟩
set_option maxRecDepth 100000 in
theorem cw_X3_68 (M : nM) (h : mOwn M = RX3) : cxV M 68 mX0_append (cTab 0).1 2 := ⟨by rw [h]; exact wOK_1 689 (by decide +kernel) (by decide +kernel), wOK_1 690 (by decide +kernel) (by decide +kernel), wOK_1 691 (by decide +kernel) (by decide +kernel), cb_X0_append⟩
set_option maxRecDepth 100000 in
theorem cw_X3_72 (M : nM) (h : mOwn M = RX3) : cxV M 72 mX4_becomeSummary (cTab 4).1 1 := ⟨by rw [h]; exact wOK_1 685 (by decide +kernel) (by decide +kernel), wOK_1 686 (by decide +kernel) (by decide +kernel), wOK_1 687 (by decide +kernel) (by decide +kernel), cb_X4_becomeSummary⟩
set_option maxRecDepth 100000 in
theorem cw_X3_76 (M : nM) (h : mOwn M = RX3) : cxV M 76 mX3_addClosed (cTab 3).1 1 := ⟨by rw [h]; exact wOK_1 430 (by decide +kernel) (by decide +kernel), wOK_1 432 (by decide +kernel) (by decide +kernel), wOK_1 5 (by decide +kernel) (by decide +kernel), cb_X3_addClosed⟩
set_option maxRecDepth 100000 in
theorem cw_X3_79 (M : nM) (h : mOwn M = RX3) : cxV M 79 mX3_takeFree (cTab 3).1 0 := ⟨by rw [h]; exact wOK_1 701 (by decide +kernel) (by decide +kernel), wOK_1 703 (by decide +kernel) (by decide +kernel), wOK_1 19 (by decide +kernel) (by decide +kernel), cb_X3_takeFree⟩
set_option maxRecDepth 100000 in
theorem cw_X3_83 (M : nM) (h : mOwn M = RX3) : cxV M 83 mX0_erase (cTab 0).1 1 := ⟨by rw [h]; exact wOK_1 508 (by decide +kernel) (by decide +kernel), wOK_1 509 (by decide +kernel) (by decide +kernel), wOK_1 510 (by decide +kernel) (by decide +kernel), cb_X0_erase⟩
set_option maxRecDepth 100000 in
theorem cw_X3_87 (M : nM) (h : mOwn M = RX3) : cxV M 87 mX3_dropClosed (cTab 3).1 1 := ⟨by rw [h]; exact wOK_1 895 (by decide +kernel) (by decide +kernel), wOK_1 897 (by decide +kernel) (by decide +kernel), wOK_1 35 (by decide +kernel) (by decide +kernel), cb_X3_dropClosed⟩
set_option maxRecDepth 100000 in
theorem cw_X3_90 (M : nM) (h : mOwn M = RX3) : cxV M 90 mX3_addFree (cTab 3).1 1 := ⟨by rw [h]; exact wOK_1 426 (by decide +kernel) (by decide +kernel), wOK_1 428 (by decide +kernel) (by decide +kernel), wOK_1 4 (by decide +kernel) (by decide +kernel), cb_X3_addFree⟩
set_option maxRecDepth 100000 in
theorem cw_X3_93 (M : nM) (h : mOwn M = RX3) : cxV M 93 mX3_canGoOn (cTab 3).1 1 := ⟨by rw [h]; exact wOK_1 415 (by decide +kernel) (by decide +kernel), wOK_1 417 (by decide +kernel) (by decide +kernel), wOK_1 2 (by decide +kernel) (by decide +kernel), cb_X3_canGoOn⟩
set_option maxRecDepth 100000 in
theorem cw_X3_96 (M : nM) (h : mOwn M = RX3) : cxV M 96 mX0_at (cTab 0).1 2 := ⟨by rw [h]; exact wOK_1 420 (by decide +kernel) (by decide +kernel), wOK_1 395 (by decide +kernel) (by decide +kernel), wOK_1 396 (by decide +kernel) (by decide +kernel), cb_X0_at⟩
set_option maxRecDepth 100000 in
theorem cw_X3_103 (M : nM) (h : mOwn M = RX3) : cxV M 103 mX4_isWhole (cTab 4).1 0 := ⟨by rw [h]; exact wOK_1 421 (by decide +kernel) (by decide +kernel), wOK_1 403 (by decide +kernel) (by decide +kernel), wOK_1 404 (by decide +kernel) (by decide +kernel), cb_X4_isWhole⟩
set_option maxRecDepth 100000 in
theorem co_X4_3 (M : nM) (h : mOwn M = RX4) : wOK (.methodLink (mOwn M) 3 Lib.objectInit) ∧ wOK (.instanceMethod Lib.objectInit) ∧ wOK (.code Lib.objectInit ⟨#[0xb1]⟩ 1 none) := ⟨by rw [h]; exact wOK_1 120 (by decide +kernel) (by decide +kernel), wOK_1 106 (by decide +kernel) (by decide +kernel), wOK_1 107 (by decide +kernel) (by decide +kernel)⟩
set_option maxRecDepth 100000 in
theorem cw_X4_56 (M : nM) (h : mOwn M = RX4) : cxV M 56 mX4_clear (cTab 4).1 0 := ⟨by rw [h]; exact wOK_1 676 (by decide +kernel) (by decide +kernel), wOK_1 518 (by decide +kernel) (by decide +kernel), wOK_1 519 (by decide +kernel) (by decide +kernel), cb_X4_clear⟩
set_option maxRecDepth 100000 in
theorem cw_X4_59 (M : nM) (h : mOwn M = RX4) : cxV M 59 mX4_tells (cTab 4).1 2 := ⟨by rw [h]; exact wOK_1 841 (by decide +kernel) (by decide +kernel), wOK_1 448 (by decide +kernel) (by decide +kernel), wOK_1 449 (by decide +kernel) (by decide +kernel), cb_X4_tells⟩
set_option maxRecDepth 100000 in
theorem cw_X4_63 (M : nM) (h : mOwn M = RX4) : cxV M 63 mX4_laysAt (cTab 4).1 1 := ⟨by rw [h]; exact wOK_1 498 (by decide +kernel) (by decide +kernel), wOK_1 499 (by decide +kernel) (by decide +kernel), wOK_1 500 (by decide +kernel) (by decide +kernel), cb_X4_laysAt⟩
set_option maxRecDepth 100000 in
theorem co_X5_3 (M : nM) (h : mOwn M = RX5) : wOK (.methodLink (mOwn M) 3 Lib.objectInit) ∧ wOK (.instanceMethod Lib.objectInit) ∧ wOK (.code Lib.objectInit ⟨#[0xb1]⟩ 1 none) := ⟨by rw [h]; exact wOK_1 263 (by decide +kernel) (by decide +kernel), wOK_1 106 (by decide +kernel) (by decide +kernel), wOK_1 107 (by decide +kernel) (by decide +kernel)⟩
set_option maxRecDepth 100000 in
theorem cw_X5_20 (M : nM) (h : mOwn M = RX5) : cxV M 20 mX5_empty (cTab 5).1 0 := ⟨by rw [h]; exact wOK_1 266 (by decide +kernel) (by decide +kernel), wOK_1 268 (by decide +kernel) (by decide +kernel), wOK_1 0 (by decide +kernel) (by decide +kernel), cb_X5_empty⟩
set_option maxRecDepth 100000 in
theorem cw_X5_30 (M : nM) (h : mOwn M = RX5) : cxV M 30 mX5_add (cTab 5).1 2 := ⟨by rw [h]; exact wOK_1 270 (by decide +kernel) (by decide +kernel), wOK_1 271 (by decide +kernel) (by decide +kernel), wOK_1 272 (by decide +kernel) (by decide +kernel), cb_X5_add⟩
set_option maxRecDepth 100000 in
theorem cw_X5_34 (M : nM) (h : mOwn M = RX5) : cxV M 34 mX5_item (cTab 5).1 1 := ⟨by rw [h]; exact wOK_1 438 (by decide +kernel) (by decide +kernel), wOK_1 440 (by decide +kernel) (by decide +kernel), wOK_1 6 (by decide +kernel) (by decide +kernel), cb_X5_item⟩
set_option maxRecDepth 100000 in
theorem cw_X5_41 (M : nM) (h : mOwn M = RX5) : cxV M 41 mX5_find (cTab 5).1 1 := ⟨by rw [h]; exact wOK_1 461 (by decide +kernel) (by decide +kernel), wOK_1 462 (by decide +kernel) (by decide +kernel), wOK_1 463 (by decide +kernel) (by decide +kernel), cb_X5_find⟩
set_option maxRecDepth 100000 in
theorem cw_X5_48 (M : nM) (h : mOwn M = RX5) : cxI M 48 mX1_init 0 := ⟨Or.inr ⟨"Nodewash", by rw [h]; exact List.mem_of_getElem? (i := 275) (by decide +kernel)⟩, wOK_1 276 (by decide +kernel) (by decide +kernel), rfl, rfl, cb_X1_init⟩
set_option maxRecDepth 100000 in
theorem cw_X5_49 (M : nM) (h : mOwn M = RX5) : cxV M 49 mX1_begin (cTab 1).1 2 := ⟨by rw [h]; exact wOK_1 315 (by decide +kernel) (by decide +kernel), wOK_1 316 (by decide +kernel) (by decide +kernel), wOK_1 317 (by decide +kernel) (by decide +kernel), cb_X1_begin⟩
set_option maxRecDepth 100000 in
theorem cw_X5_53 (M : nM) (h : mOwn M = RX5) : cxS M 53 mJ9_max 2 := ⟨by rw [h]; exact wOK_1 319 (by decide +kernel) (by decide +kernel), wOK_1 320 (by decide +kernel) (by decide +kernel), cb_J9_max⟩
set_option maxRecDepth 100000 in
theorem cw_X5_59 (M : nM) (h : mOwn M = RX5) : cxV M 59 mX1_cell (cTab 1).1 1 := ⟨by rw [h]; exact wOK_1 469 (by decide +kernel) (by decide +kernel), wOK_1 470 (by decide +kernel) (by decide +kernel), wOK_1 471 (by decide +kernel) (by decide +kernel), cb_X1_cell⟩
set_option maxRecDepth 100000 in
theorem cw_X5_63 (M : nM) (h : mOwn M = RX5) : cxV M 63 mX1_setCell (cTab 1).1 2 := ⟨by rw [h]; exact wOK_1 473 (by decide +kernel) (by decide +kernel), wOK_1 474 (by decide +kernel) (by decide +kernel), wOK_1 475 (by decide +kernel) (by decide +kernel), cb_X1_setCell⟩
set_option maxRecDepth 100000 in
theorem cw_X5_73 (M : nM) (h : mOwn M = RX5) : cxV M 73 mX5_drop (cTab 5).1 1 := ⟨by rw [h]; exact wOK_1 477 (by decide +kernel) (by decide +kernel), wOK_1 479 (by decide +kernel) (by decide +kernel), wOK_1 8 (by decide +kernel) (by decide +kernel), cb_X5_drop⟩
set_option maxRecDepth 100000 in
theorem cw_X5_80 (M : nM) (h : mOwn M = RX5) : cxV M 80 mX5_reach (cTab 5).1 2 := ⟨by rw [h]; exact wOK_1 764 (by decide +kernel) (by decide +kernel), wOK_1 766 (by decide +kernel) (by decide +kernel), wOK_1 24 (by decide +kernel) (by decide +kernel), cb_X5_reach⟩
set_option maxRecDepth 100000 in
theorem cw_X5_84 (M : nM) (h : mOwn M = RX5) : cxV M 84 mX5_readNames (cTab 5).1 2 := ⟨by rw [h]; exact wOK_1 442 (by decide +kernel) (by decide +kernel), wOK_1 444 (by decide +kernel) (by decide +kernel), wOK_1 7 (by decide +kernel) (by decide +kernel), cb_X5_readNames⟩
set_option maxRecDepth 100000 in
theorem cw_X5_88 (M : nM) (h : mOwn M = RX5) : cxV M 88 mX5_readContent (cTab 5).1 2 := ⟨by rw [h]; exact wOK_1 481 (by decide +kernel) (by decide +kernel), wOK_1 483 (by decide +kernel) (by decide +kernel), wOK_1 9 (by decide +kernel) (by decide +kernel), cb_X5_readContent⟩
set_option maxRecDepth 100000 in
theorem cw_X5_91 (M : nM) (h : mOwn M = RX5) : cxV M 91 mX0_row (cTab 0).1 1 := ⟨by rw [h]; exact wOK_1 446 (by decide +kernel) (by decide +kernel), wOK_1 399 (by decide +kernel) (by decide +kernel), wOK_1 400 (by decide +kernel) (by decide +kernel), cb_X0_row⟩
set_option maxRecDepth 100000 in
theorem cw_X5_97 (M : nM) (h : mOwn M = RX5) : cxV M 97 mX4_isWhole (cTab 4).1 0 := ⟨by rw [h]; exact wOK_1 503 (by decide +kernel) (by decide +kernel), wOK_1 403 (by decide +kernel) (by decide +kernel), wOK_1 404 (by decide +kernel) (by decide +kernel), cb_X4_isWhole⟩
set_option maxRecDepth 100000 in
theorem cw_X5_107 (M : nM) (h : mOwn M = RX5) : cxV M 107 mX4_tells (cTab 4).1 2 := ⟨by rw [h]; exact wOK_1 447 (by decide +kernel) (by decide +kernel), wOK_1 448 (by decide +kernel) (by decide +kernel), wOK_1 449 (by decide +kernel) (by decide +kernel), cb_X4_tells⟩
set_option maxRecDepth 100000 in
theorem cw_X5_119 (M : nM) (h : mOwn M = RX5) : cxV M 119 mX0_newest (cTab 0).1 4 := ⟨by rw [h]; exact wOK_1 452 (by decide +kernel) (by decide +kernel), wOK_1 453 (by decide +kernel) (by decide +kernel), wOK_1 454 (by decide +kernel) (by decide +kernel), cb_X0_newest⟩
set_option maxRecDepth 100000 in
theorem cw_X5_126 (M : nM) (h : mOwn M = RX5) : cxV M 126 mX5_assign (cTab 5).1 3 := ⟨by rw [h]; exact wOK_1 465 (by decide +kernel) (by decide +kernel), wOK_1 466 (by decide +kernel) (by decide +kernel), wOK_1 467 (by decide +kernel) (by decide +kernel), cb_X5_assign⟩
set_option maxRecDepth 100000 in
theorem cw_X5_130 (M : nM) (h : mOwn M = RX5) : cxV M 130 mX0_nextData (cTab 0).1 2 := ⟨by rw [h]; exact wOK_1 485 (by decide +kernel) (by decide +kernel), wOK_1 486 (by decide +kernel) (by decide +kernel), wOK_1 487 (by decide +kernel) (by decide +kernel), cb_X0_nextData⟩
set_option maxRecDepth 100000 in
theorem cw_X5_134 (M : nM) (h : mOwn M = RX5) : cxV M 134 mX1_lay (cTab 1).1 1 := ⟨by rw [h]; exact wOK_1 489 (by decide +kernel) (by decide +kernel), wOK_1 490 (by decide +kernel) (by decide +kernel), wOK_1 491 (by decide +kernel) (by decide +kernel), cb_X1_lay⟩
set_option maxRecDepth 100000 in
theorem cw_L_7 (M : nM) (h : mOwn M = RL) : cxV M 7 mX6_create (cTab 6).1 2 := ⟨by rw [h]; exact wOK_1 531 (by decide +kernel) (by decide +kernel), wOK_1 532 (by decide +kernel) (by decide +kernel), wOK_1 533 (by decide +kernel) (by decide +kernel), cb_X6_create⟩
set_option maxRecDepth 100000 in
theorem cw_L_19 (M : nM) (h : mOwn M = RL) : cxV M 19 mX6_makeDirectory (cTab 6).1 2 := ⟨by rw [h]; exact wOK_1 718 (by decide +kernel) (by decide +kernel), wOK_1 719 (by decide +kernel) (by decide +kernel), wOK_1 720 (by decide +kernel) (by decide +kernel), cb_X6_makeDirectory⟩
set_option maxRecDepth 100000 in
theorem cw_L_22 (M : nM) (h : mOwn M = RL) : cxV M 22 mX6_link (cTab 6).1 3 := ⟨by rw [h]; exact wOK_1 725 (by decide +kernel) (by decide +kernel), wOK_1 726 (by decide +kernel) (by decide +kernel), wOK_1 727 (by decide +kernel) (by decide +kernel), cb_X6_link⟩
set_option maxRecDepth 100000 in
theorem cw_L_26 (M : nM) (h : mOwn M = RL) : cxV M 26 mX6_unlink (cTab 6).1 2 := ⟨by rw [h]; exact wOK_1 737 (by decide +kernel) (by decide +kernel), wOK_1 738 (by decide +kernel) (by decide +kernel), wOK_1 739 (by decide +kernel) (by decide +kernel), cb_X6_unlink⟩
set_option maxRecDepth 100000 in
theorem cw_L_29 (M : nM) (h : mOwn M = RL) : cxV M 29 mX6_rename (cTab 6).1 4 := ⟨by rw [h]; exact wOK_1 750 (by decide +kernel) (by decide +kernel), wOK_1 751 (by decide +kernel) (by decide +kernel), wOK_1 752 (by decide +kernel) (by decide +kernel), cb_X6_rename⟩
set_option maxRecDepth 100000 in
theorem cw_L_33 (M : nM) (h : mOwn M = RL) : cxV M 33 mX6_write (cTab 6).1 4 := ⟨by rw [h]; exact wOK_1 772 (by decide +kernel) (by decide +kernel), wOK_1 773 (by decide +kernel) (by decide +kernel), wOK_1 774 (by decide +kernel) (by decide +kernel), cb_X6_write⟩
set_option maxRecDepth 100000 in
theorem cw_L_37 (M : nM) (h : mOwn M = RL) : cxV M 37 mX6_truncate (cTab 6).1 2 := ⟨by rw [h]; exact wOK_1 791 (by decide +kernel) (by decide +kernel), wOK_1 792 (by decide +kernel) (by decide +kernel), wOK_1 793 (by decide +kernel) (by decide +kernel), cb_X6_truncate⟩
set_option maxRecDepth 100000 in
theorem cw_L_40 (M : nM) (h : mOwn M = RL) : cxV M 40 mX6_collect (cTab 6).1 1 := ⟨by rw [h]; exact wOK_1 799 (by decide +kernel) (by decide +kernel), wOK_1 800 (by decide +kernel) (by decide +kernel), wOK_1 801 (by decide +kernel) (by decide +kernel), cb_X6_collect⟩
set_option maxRecDepth 100000 in
theorem cw_L_44 (M : nM) (h : mOwn M = RL) : cxV M 44 mX6_cut (cTab 6).1 1 := ⟨by rw [h]; exact wOK_1 902 (by decide +kernel) (by decide +kernel), wOK_1 903 (by decide +kernel) (by decide +kernel), wOK_1 904 (by decide +kernel) (by decide +kernel), cb_X6_cut⟩
set_option maxRecDepth 100000 in
theorem cw_L_47 (M : nM) (h : mOwn M = RL) : cxV M 47 mX6_lookUp (cTab 6).1 2 := ⟨by rw [h]; exact wOK_1 910 (by decide +kernel) (by decide +kernel), wOK_1 911 (by decide +kernel) (by decide +kernel), wOK_1 912 (by decide +kernel) (by decide +kernel), cb_X6_lookUp⟩
set_option maxRecDepth 100000 in
theorem cw_L_50 (M : nM) (h : mOwn M = RL) : cxV M 50 mX6_names (cTab 6).1 1 := ⟨by rw [h]; exact wOK_1 917 (by decide +kernel) (by decide +kernel), wOK_1 918 (by decide +kernel) (by decide +kernel), wOK_1 919 (by decide +kernel) (by decide +kernel), cb_X6_names⟩
set_option maxRecDepth 100000 in
theorem cw_L_53 (M : nM) (h : mOwn M = RL) : cxV M 53 mX6_nameAt (cTab 6).1 2 := ⟨by rw [h]; exact wOK_1 924 (by decide +kernel) (by decide +kernel), wOK_1 925 (by decide +kernel) (by decide +kernel), wOK_1 926 (by decide +kernel) (by decide +kernel), cb_X6_nameAt⟩
set_option maxRecDepth 100000 in
theorem cw_L_56 (M : nM) (h : mOwn M = RL) : cxV M 56 mX6_isDirectory (cTab 6).1 1 := ⟨by rw [h]; exact wOK_1 937 (by decide +kernel) (by decide +kernel), wOK_1 938 (by decide +kernel) (by decide +kernel), wOK_1 939 (by decide +kernel) (by decide +kernel), cb_X6_isDirectory⟩
set_option maxRecDepth 100000 in
theorem cw_L_60 (M : nM) (h : mOwn M = RL) : cxV M 60 mX6_links (cTab 6).1 1 := ⟨by rw [h]; exact wOK_1 944 (by decide +kernel) (by decide +kernel), wOK_1 945 (by decide +kernel) (by decide +kernel), wOK_1 946 (by decide +kernel) (by decide +kernel), cb_X6_links⟩
set_option maxRecDepth 100000 in
theorem cw_L_63 (M : nM) (h : mOwn M = RL) : cxV M 63 mX6_length (cTab 6).1 1 := ⟨by rw [h]; exact wOK_1 951 (by decide +kernel) (by decide +kernel), wOK_1 952 (by decide +kernel) (by decide +kernel), wOK_1 953 (by decide +kernel) (by decide +kernel), cb_X6_length⟩
set_option maxRecDepth 100000 in
theorem cw_L_66 (M : nM) (h : mOwn M = RL) : cxV M 66 mX6_byteAt (cTab 6).1 2 := ⟨by rw [h]; exact wOK_1 958 (by decide +kernel) (by decide +kernel), wOK_1 959 (by decide +kernel) (by decide +kernel), wOK_1 960 (by decide +kernel) (by decide +kernel), cb_X6_byteAt⟩
set_option maxRecDepth 100000 in
theorem cw_L_69 (M : nM) (h : mOwn M = RL) : cxV M 69 mX6_byteByNodes (cTab 6).1 2 := ⟨by rw [h]; exact wOK_1 970 (by decide +kernel) (by decide +kernel), wOK_1 971 (by decide +kernel) (by decide +kernel), wOK_1 972 (by decide +kernel) (by decide +kernel), cb_X6_byteByNodes⟩
set_option maxRecDepth 100000 in
theorem cw_L_72 (M : nM) (h : mOwn M = RL) : cxV M 72 mX6_state (cTab 6).1 1 := ⟨by rw [h]; exact wOK_1 980 (by decide +kernel) (by decide +kernel), wOK_1 981 (by decide +kernel) (by decide +kernel), wOK_1 982 (by decide +kernel) (by decide +kernel), cb_X6_state⟩
set_option maxRecDepth 100000 in
theorem cw_L_75 (M : nM) (h : mOwn M = RL) : cxV M 75 mX6_dead (cTab 6).1 1 := ⟨by rw [h]; exact wOK_1 996 (by decide +kernel) (by decide +kernel), wOK_1 997 (by decide +kernel) (by decide +kernel), wOK_1 998 (by decide +kernel) (by decide +kernel), cb_X6_dead⟩
set_option maxRecDepth 100000 in
theorem cw_L_78 (M : nM) (h : mOwn M = RL) : cxV M 78 mX6_toCopy (cTab 6).1 1 := ⟨by rw [h]; exact wOK_1 1007 (by decide +kernel) (by decide +kernel), wOK_1 1008 (by decide +kernel) (by decide +kernel), wOK_1 1009 (by decide +kernel) (by decide +kernel), cb_X6_toCopy⟩
set_option maxRecDepth 100000 in
theorem cw_L_81 (M : nM) (h : mOwn M = RL) : cxV M 81 mX6_written (cTab 6).1 1 := ⟨by rw [h]; exact wOK_1 1014 (by decide +kernel) (by decide +kernel), wOK_1 1015 (by decide +kernel) (by decide +kernel), wOK_1 1016 (by decide +kernel) (by decide +kernel), cb_X6_written⟩
set_option maxRecDepth 100000 in
theorem cw_L_84 (M : nM) (h : mOwn M = RL) : cxV M 84 mX6_nodes (cTab 6).1 1 := ⟨by rw [h]; exact wOK_1 1021 (by decide +kernel) (by decide +kernel), wOK_1 1022 (by decide +kernel) (by decide +kernel), wOK_1 1023 (by decide +kernel) (by decide +kernel), cb_X6_nodes⟩
set_option maxRecDepth 100000 in
theorem cw_L_87 (M : nM) (h : mOwn M = RL) : cxV M 87 mX6_node (cTab 6).1 2 := ⟨by rw [h]; exact wOK_1 1028 (by decide +kernel) (by decide +kernel), wOK_1 1029 (by decide +kernel) (by decide +kernel), wOK_1 1030 (by decide +kernel) (by decide +kernel), cb_X6_node⟩
set_option maxRecDepth 100000 in
theorem cw_L_91 (M : nM) (h : mOwn M = RL) : cxV M 91 mX6_erased (cTab 6).1 1 := ⟨by rw [h]; exact wOK_1 1040 (by decide +kernel) (by decide +kernel), wOK_1 1041 (by decide +kernel) (by decide +kernel), wOK_1 1042 (by decide +kernel) (by decide +kernel), cb_X6_erased⟩
set_option maxRecDepth 100000 in
theorem cw_L_94 (M : nM) (h : mOwn M = RL) : cxI M 94 mX6_init 0 := ⟨Or.inl (by rw [h]; exact wOK_1 102 (by decide +kernel) (by decide +kernel)), wOK_1 103 (by decide +kernel) (by decide +kernel), rfl, rfl, cb_X6_init⟩
set_option maxRecDepth 100000 in
theorem cw_L_97 (M : nM) (h : mOwn M = RL) : cxI M 97 mX7_init 0 := ⟨Or.inl (by rw [h]; exact wOK_1 1050 (by decide +kernel) (by decide +kernel)), wOK_1 1051 (by decide +kernel) (by decide +kernel), rfl, rfl, cb_X7_init⟩
set_option maxRecDepth 100000 in
theorem cw_L_103 (M : nM) (h : mOwn M = RL) : cxV M 103 mX7_create (cTab 7).1 2 := ⟨by rw [h]; exact wOK_1 1187 (by decide +kernel) (by decide +kernel), wOK_1 1188 (by decide +kernel) (by decide +kernel), wOK_1 1189 (by decide +kernel) (by decide +kernel), cb_X7_create⟩
set_option maxRecDepth 100000 in
theorem cw_L_104 (M : nM) (h : mOwn M = RL) : cxV M 104 mX7_thrown (cTab 7).1 0 := ⟨by rw [h]; exact wOK_1 1183 (by decide +kernel) (by decide +kernel), wOK_1 1184 (by decide +kernel) (by decide +kernel), wOK_1 1185 (by decide +kernel) (by decide +kernel), cb_X7_thrown⟩
set_option maxRecDepth 100000 in
theorem cw_L_110 (M : nM) (h : mOwn M = RL) : cxV M 110 mX7_makeDirectory (cTab 7).1 2 := ⟨by rw [h]; exact wOK_1 1293 (by decide +kernel) (by decide +kernel), wOK_1 1294 (by decide +kernel) (by decide +kernel), wOK_1 1295 (by decide +kernel) (by decide +kernel), cb_X7_makeDirectory⟩
set_option maxRecDepth 100000 in
theorem cw_L_114 (M : nM) (h : mOwn M = RL) : cxV M 114 mX7_link (cTab 7).1 3 := ⟨by rw [h]; exact wOK_1 1297 (by decide +kernel) (by decide +kernel), wOK_1 1298 (by decide +kernel) (by decide +kernel), wOK_1 1299 (by decide +kernel) (by decide +kernel), cb_X7_link⟩
set_option maxRecDepth 100000 in
theorem cw_L_117 (M : nM) (h : mOwn M = RL) : cxV M 117 mX7_unlink (cTab 7).1 2 := ⟨by rw [h]; exact wOK_1 1309 (by decide +kernel) (by decide +kernel), wOK_1 1310 (by decide +kernel) (by decide +kernel), wOK_1 1311 (by decide +kernel) (by decide +kernel), cb_X7_unlink⟩
set_option maxRecDepth 100000 in
theorem cw_L_121 (M : nM) (h : mOwn M = RL) : cxV M 121 mX7_rename (cTab 7).1 4 := ⟨by rw [h]; exact wOK_1 1317 (by decide +kernel) (by decide +kernel), wOK_1 1318 (by decide +kernel) (by decide +kernel), wOK_1 1319 (by decide +kernel) (by decide +kernel), cb_X7_rename⟩
set_option maxRecDepth 100000 in
theorem cw_L_127 (M : nM) (h : mOwn M = RL) : cxV M 127 mX7_write (cTab 7).1 4 := ⟨by rw [h]; exact wOK_1 1325 (by decide +kernel) (by decide +kernel), wOK_1 1326 (by decide +kernel) (by decide +kernel), wOK_1 1327 (by decide +kernel) (by decide +kernel), cb_X7_write⟩
set_option maxRecDepth 100000 in
theorem cw_L_130 (M : nM) (h : mOwn M = RL) : cxV M 130 mX7_truncate (cTab 7).1 2 := ⟨by rw [h]; exact wOK_1 1329 (by decide +kernel) (by decide +kernel), wOK_1 1330 (by decide +kernel) (by decide +kernel), wOK_1 1331 (by decide +kernel) (by decide +kernel), cb_X7_truncate⟩
set_option maxRecDepth 100000 in
theorem cw_L_134 (M : nM) (h : mOwn M = RL) : cxV M 134 mX7_collect (cTab 7).1 1 := ⟨by rw [h]; exact wOK_1 1333 (by decide +kernel) (by decide +kernel), wOK_1 1334 (by decide +kernel) (by decide +kernel), wOK_1 1335 (by decide +kernel) (by decide +kernel), cb_X7_collect⟩
set_option maxRecDepth 100000 in
theorem cw_L_137 (M : nM) (h : mOwn M = RL) : cxV M 137 mX7_cut (cTab 7).1 1 := ⟨by rw [h]; exact wOK_1 1377 (by decide +kernel) (by decide +kernel), wOK_1 1378 (by decide +kernel) (by decide +kernel), wOK_1 1379 (by decide +kernel) (by decide +kernel), cb_X7_cut⟩
set_option maxRecDepth 100000 in
theorem cw_L_138 (M : nM) (h : mOwn M = RL) : cxV M 138 mX6_mount (cTab 6).1 1 := ⟨by rw [h]; exact wOK_1 378 (by decide +kernel) (by decide +kernel), wOK_1 379 (by decide +kernel) (by decide +kernel), wOK_1 380 (by decide +kernel) (by decide +kernel), cb_X6_mount⟩
set_option maxRecDepth 100000 in
theorem cw_L_142 (M : nM) (h : mOwn M = RL) : cxV M 142 mX7_mount (cTab 7).1 1 := ⟨by rw [h]; exact wOK_1 1381 (by decide +kernel) (by decide +kernel), wOK_1 1382 (by decide +kernel) (by decide +kernel), wOK_1 1383 (by decide +kernel) (by decide +kernel), cb_X7_mount⟩
set_option maxRecDepth 100000 in
theorem cw_L_143 (M : nM) (h : mOwn M = RL) : cxV M 143 mX6_isDark (cTab 6).1 0 := ⟨by rw [h]; exact wOK_1 521 (by decide +kernel) (by decide +kernel), wOK_1 522 (by decide +kernel) (by decide +kernel), wOK_1 523 (by decide +kernel) (by decide +kernel), cb_X6_isDark⟩
set_option maxRecDepth 100000 in
theorem cw_L_147 (M : nM) (h : mOwn M = RL) : cxV M 147 mX7_isDark (cTab 7).1 0 := ⟨by rw [h]; exact wOK_1 1401 (by decide +kernel) (by decide +kernel), wOK_1 1402 (by decide +kernel) (by decide +kernel), wOK_1 1403 (by decide +kernel) (by decide +kernel), cb_X7_isDark⟩
set_option maxRecDepth 100000 in
theorem cw_L_150 (M : nM) (h : mOwn M = RL) : cxV M 150 mX7_lookUp (cTab 7).1 2 := ⟨by rw [h]; exact wOK_1 1405 (by decide +kernel) (by decide +kernel), wOK_1 1406 (by decide +kernel) (by decide +kernel), wOK_1 1407 (by decide +kernel) (by decide +kernel), cb_X7_lookUp⟩
set_option maxRecDepth 100000 in
theorem cw_L_153 (M : nM) (h : mOwn M = RL) : cxV M 153 mX7_names (cTab 7).1 1 := ⟨by rw [h]; exact wOK_1 1413 (by decide +kernel) (by decide +kernel), wOK_1 1414 (by decide +kernel) (by decide +kernel), wOK_1 1415 (by decide +kernel) (by decide +kernel), cb_X7_names⟩
set_option maxRecDepth 100000 in
theorem cw_L_156 (M : nM) (h : mOwn M = RL) : cxV M 156 mX7_nameAt (cTab 7).1 2 := ⟨by rw [h]; exact wOK_1 1421 (by decide +kernel) (by decide +kernel), wOK_1 1422 (by decide +kernel) (by decide +kernel), wOK_1 1423 (by decide +kernel) (by decide +kernel), cb_X7_nameAt⟩
set_option maxRecDepth 100000 in
theorem cw_L_159 (M : nM) (h : mOwn M = RL) : cxV M 159 mX7_isDirectory (cTab 7).1 1 := ⟨by rw [h]; exact wOK_1 1425 (by decide +kernel) (by decide +kernel), wOK_1 1426 (by decide +kernel) (by decide +kernel), wOK_1 1427 (by decide +kernel) (by decide +kernel), cb_X7_isDirectory⟩
set_option maxRecDepth 100000 in
theorem cw_L_162 (M : nM) (h : mOwn M = RL) : cxV M 162 mX7_links (cTab 7).1 1 := ⟨by rw [h]; exact wOK_1 1433 (by decide +kernel) (by decide +kernel), wOK_1 1434 (by decide +kernel) (by decide +kernel), wOK_1 1435 (by decide +kernel) (by decide +kernel), cb_X7_links⟩
set_option maxRecDepth 100000 in
theorem cw_L_165 (M : nM) (h : mOwn M = RL) : cxV M 165 mX7_length (cTab 7).1 1 := ⟨by rw [h]; exact wOK_1 1437 (by decide +kernel) (by decide +kernel), wOK_1 1438 (by decide +kernel) (by decide +kernel), wOK_1 1439 (by decide +kernel) (by decide +kernel), cb_X7_length⟩
set_option maxRecDepth 100000 in
theorem cw_L_168 (M : nM) (h : mOwn M = RL) : cxV M 168 mX7_byteAt (cTab 7).1 2 := ⟨by rw [h]; exact wOK_1 1441 (by decide +kernel) (by decide +kernel), wOK_1 1442 (by decide +kernel) (by decide +kernel), wOK_1 1443 (by decide +kernel) (by decide +kernel), cb_X7_byteAt⟩
set_option maxRecDepth 100000 in
theorem cw_L_171 (M : nM) (h : mOwn M = RL) : cxV M 171 mX7_byteByNodes (cTab 7).1 2 := ⟨by rw [h]; exact wOK_1 1446 (by decide +kernel) (by decide +kernel), wOK_1 1447 (by decide +kernel) (by decide +kernel), wOK_1 1448 (by decide +kernel) (by decide +kernel), cb_X7_byteByNodes⟩
set_option maxRecDepth 100000 in
theorem cw_L_174 (M : nM) (h : mOwn M = RL) : cxV M 174 mX7_state (cTab 7).1 1 := ⟨by rw [h]; exact wOK_1 1451 (by decide +kernel) (by decide +kernel), wOK_1 1452 (by decide +kernel) (by decide +kernel), wOK_1 1453 (by decide +kernel) (by decide +kernel), cb_X7_state⟩
set_option maxRecDepth 100000 in
theorem cw_L_177 (M : nM) (h : mOwn M = RL) : cxV M 177 mX7_dead (cTab 7).1 1 := ⟨by rw [h]; exact wOK_1 1459 (by decide +kernel) (by decide +kernel), wOK_1 1460 (by decide +kernel) (by decide +kernel), wOK_1 1461 (by decide +kernel) (by decide +kernel), cb_X7_dead⟩
set_option maxRecDepth 100000 in
theorem cw_L_180 (M : nM) (h : mOwn M = RL) : cxV M 180 mX7_toCopy (cTab 7).1 1 := ⟨by rw [h]; exact wOK_1 1463 (by decide +kernel) (by decide +kernel), wOK_1 1464 (by decide +kernel) (by decide +kernel), wOK_1 1465 (by decide +kernel) (by decide +kernel), cb_X7_toCopy⟩
set_option maxRecDepth 100000 in
theorem cw_L_183 (M : nM) (h : mOwn M = RL) : cxV M 183 mX7_written (cTab 7).1 1 := ⟨by rw [h]; exact wOK_1 1467 (by decide +kernel) (by decide +kernel), wOK_1 1468 (by decide +kernel) (by decide +kernel), wOK_1 1469 (by decide +kernel) (by decide +kernel), cb_X7_written⟩
set_option maxRecDepth 100000 in
theorem cw_L_186 (M : nM) (h : mOwn M = RL) : cxV M 186 mX7_nodes (cTab 7).1 1 := ⟨by rw [h]; exact wOK_1 1475 (by decide +kernel) (by decide +kernel), wOK_1 1476 (by decide +kernel) (by decide +kernel), wOK_1 1477 (by decide +kernel) (by decide +kernel), cb_X7_nodes⟩
set_option maxRecDepth 100000 in
theorem cw_L_189 (M : nM) (h : mOwn M = RL) : cxV M 189 mX7_node (cTab 7).1 2 := ⟨by rw [h]; exact wOK_1 1479 (by decide +kernel) (by decide +kernel), wOK_1 1480 (by decide +kernel) (by decide +kernel), wOK_1 1481 (by decide +kernel) (by decide +kernel), cb_X7_node⟩
set_option maxRecDepth 100000 in
theorem cw_L_192 (M : nM) (h : mOwn M = RL) : cxV M 192 mX7_erased (cTab 7).1 1 := ⟨by rw [h]; exact wOK_1 1486 (by decide +kernel) (by decide +kernel), wOK_1 1487 (by decide +kernel) (by decide +kernel), wOK_1 1488 (by decide +kernel) (by decide +kernel), cb_X7_erased⟩
set_option maxRecDepth 100000 in
theorem co_X7_1 (M : nM) (h : mOwn M = RX7) : wOK (.methodLink (mOwn M) 1 Lib.objectInit) ∧ wOK (.instanceMethod Lib.objectInit) ∧ wOK (.code Lib.objectInit ⟨#[0xb1]⟩ 1 none) := ⟨by rw [h]; exact wOK_1 1053 (by decide +kernel) (by decide +kernel), wOK_1 106 (by decide +kernel) (by decide +kernel), wOK_1 107 (by decide +kernel) (by decide +kernel)⟩
set_option maxRecDepth 100000 in
theorem cw_X7_130 (M : nM) (h : mOwn M = RX7) : cxV M 130 mX7_counts (cTab 7).1 1 := ⟨by rw [h]; exact wOK_1 1219 (by decide +kernel) (by decide +kernel), wOK_1 1221 (by decide +kernel) (by decide +kernel), wOK_1 45 (by decide +kernel) (by decide +kernel), cb_X7_counts⟩
set_option maxRecDepth 100000 in
theorem cw_X7_134 (M : nM) (h : mOwn M = RX7) : cxV M 134 mX7_nextData (cTab 7).1 2 := ⟨by rw [h]; exact wOK_1 1235 (by decide +kernel) (by decide +kernel), wOK_1 1237 (by decide +kernel) (by decide +kernel), wOK_1 49 (by decide +kernel) (by decide +kernel), cb_X7_nextData⟩
set_option maxRecDepth 100000 in
theorem cw_X7_140 (M : nM) (h : mOwn M = RX7) : cxV M 140 mX7_layThere (cTab 7).1 0 := ⟨by rw [h]; exact wOK_1 1215 (by decide +kernel) (by decide +kernel), wOK_1 1217 (by decide +kernel) (by decide +kernel), wOK_1 44 (by decide +kernel) (by decide +kernel), cb_X7_layThere⟩
set_option maxRecDepth 100000 in
theorem cw_X7_143 (M : nM) (h : mOwn M = RX7) : cxV M 143 mX7_addEntry (cTab 7).1 3 := ⟨by rw [h]; exact wOK_1 1223 (by decide +kernel) (by decide +kernel), wOK_1 1225 (by decide +kernel) (by decide +kernel), wOK_1 46 (by decide +kernel) (by decide +kernel), cb_X7_addEntry⟩
set_option maxRecDepth 100000 in
theorem cw_X7_147 (M : nM) (h : mOwn M = RX7) : cxV M 147 mX7_addFile (cTab 7).1 2 := ⟨by rw [h]; exact wOK_1 1227 (by decide +kernel) (by decide +kernel), wOK_1 1229 (by decide +kernel) (by decide +kernel), wOK_1 47 (by decide +kernel) (by decide +kernel), cb_X7_addFile⟩
set_option maxRecDepth 100000 in
theorem cw_X7_151 (M : nM) (h : mOwn M = RX7) : cxV M 151 mX7_layContent (cTab 7).1 1 := ⟨by rw [h]; exact wOK_1 1231 (by decide +kernel) (by decide +kernel), wOK_1 1233 (by decide +kernel) (by decide +kernel), wOK_1 48 (by decide +kernel) (by decide +kernel), cb_X7_layContent⟩
set_option maxRecDepth 100000 in
theorem cw_X7_155 (M : nM) (h : mOwn M = RX7) : cxV M 155 mX7_isWhole (cTab 7).1 1 := ⟨by rw [h]; exact wOK_1 1207 (by decide +kernel) (by decide +kernel), wOK_1 1209 (by decide +kernel) (by decide +kernel), wOK_1 42 (by decide +kernel) (by decide +kernel), cb_X7_isWhole⟩
set_option maxRecDepth 100000 in
theorem cw_X7_162 (M : nM) (h : mOwn M = RX7) : cxV M 162 mX7_layPresent (cTab 7).1 0 := ⟨by rw [h]; exact wOK_1 1203 (by decide +kernel) (by decide +kernel), wOK_1 1205 (by decide +kernel) (by decide +kernel), wOK_1 41 (by decide +kernel) (by decide +kernel), cb_X7_layPresent⟩
set_option maxRecDepth 100000 in
theorem cw_X7_165 (M : nM) (h : mOwn M = RX7) : cxV M 165 mX7_lay (cTab 7).1 1 := ⟨by rw [h]; exact wOK_1 1211 (by decide +kernel) (by decide +kernel), wOK_1 1213 (by decide +kernel) (by decide +kernel), wOK_1 43 (by decide +kernel) (by decide +kernel), cb_X7_lay⟩
set_option maxRecDepth 100000 in
theorem cw_X7_168 (M : nM) (h : mOwn M = RX7) : cxV M 168 mX7_layNow (cTab 7).1 0 := ⟨by rw [h]; exact wOK_1 1199 (by decide +kernel) (by decide +kernel), wOK_1 1201 (by decide +kernel) (by decide +kernel), wOK_1 40 (by decide +kernel) (by decide +kernel), cb_X7_layNow⟩
set_option maxRecDepth 100000 in
theorem cw_X7_171 (M : nM) (h : mOwn M = RX7) : cxV M 171 mX7_entry (cTab 7).1 2 := ⟨by rw [h]; exact wOK_1 1246 (by decide +kernel) (by decide +kernel), wOK_1 1248 (by decide +kernel) (by decide +kernel), wOK_1 50 (by decide +kernel) (by decide +kernel), cb_X7_entry⟩
set_option maxRecDepth 100000 in
theorem cw_X7_177 (M : nM) (h : mOwn M = RX7) : cxV M 177 mX7_spends (cTab 7).1 0 := ⟨by rw [h]; exact wOK_1 1281 (by decide +kernel) (by decide +kernel), wOK_1 1283 (by decide +kernel) (by decide +kernel), wOK_1 58 (by decide +kernel) (by decide +kernel), cb_X7_spends⟩
set_option maxRecDepth 100000 in
theorem cw_X7_181 (M : nM) (h : mOwn M = RX7) : cxS M 181 mX7_fits 3 := ⟨by rw [h]; exact wOK_1 1258 (by decide +kernel) (by decide +kernel), wOK_1 1259 (by decide +kernel) (by decide +kernel), cb_X7_fits⟩
set_option maxRecDepth 100000 in
theorem cw_X7_185 (M : nM) (h : mOwn M = RX7) : cxV M 185 mX7_freshNode (cTab 7).1 0 := ⟨by rw [h]; exact wOK_1 1273 (by decide +kernel) (by decide +kernel), wOK_1 1275 (by decide +kernel) (by decide +kernel), wOK_1 56 (by decide +kernel) (by decide +kernel), cb_X7_freshNode⟩
set_option maxRecDepth 100000 in
theorem cw_X7_189 (M : nM) (h : mOwn M = RX7) : cxV M 189 mX7_writeOut (cTab 7).1 1 := ⟨by rw [h]; exact wOK_1 1277 (by decide +kernel) (by decide +kernel), wOK_1 1279 (by decide +kernel) (by decide +kernel), wOK_1 57 (by decide +kernel) (by decide +kernel), cb_X7_writeOut⟩
set_option maxRecDepth 100000 in
theorem cw_X7_195 (M : nM) (h : mOwn M = RX7) : cxV M 195 mX7_makesRoom (cTab 7).1 1 := ⟨by rw [h]; exact wOK_1 1269 (by decide +kernel) (by decide +kernel), wOK_1 1271 (by decide +kernel) (by decide +kernel), wOK_1 55 (by decide +kernel) (by decide +kernel), cb_X7_makesRoom⟩
set_option maxRecDepth 100000 in
theorem cw_X7_198 (M : nM) (h : mOwn M = RX7) : cxV M 198 mX7_putData (cTab 7).1 6 := ⟨by rw [h]; exact wOK_1 1265 (by decide +kernel) (by decide +kernel), wOK_1 1267 (by decide +kernel) (by decide +kernel), wOK_1 54 (by decide +kernel) (by decide +kernel), cb_X7_putData⟩
set_option maxRecDepth 100000 in
theorem cw_X7_202 (M : nM) (h : mOwn M = RX7) : cxV M 202 mX7_putName (cTab 7).1 5 := ⟨by rw [h]; exact wOK_1 1289 (by decide +kernel) (by decide +kernel), wOK_1 1291 (by decide +kernel) (by decide +kernel), wOK_1 60 (by decide +kernel) (by decide +kernel), cb_X7_putName⟩
set_option maxRecDepth 100000 in
theorem cw_X7_206 (M : nM) (h : mOwn M = RX7) : cxV M 206 mX7_hasRoom (cTab 7).1 2 := ⟨by rw [h]; exact wOK_1 1254 (by decide +kernel) (by decide +kernel), wOK_1 1256 (by decide +kernel) (by decide +kernel), wOK_1 52 (by decide +kernel) (by decide +kernel), cb_X7_hasRoom⟩
set_option maxRecDepth 100000 in
theorem cw_X7_210 (M : nM) (h : mOwn M = RX7) : cxS M 210 mX7_in 3 := ⟨by rw [h]; exact wOK_1 1243 (by decide +kernel) (by decide +kernel), wOK_1 1244 (by decide +kernel) (by decide +kernel), cb_X7_in⟩
set_option maxRecDepth 100000 in
theorem cw_X7_213 (M : nM) (h : mOwn M = RX7) : cxV M 213 mX7_hasDirectory (cTab 7).1 1 := ⟨by rw [h]; exact wOK_1 1195 (by decide +kernel) (by decide +kernel), wOK_1 1197 (by decide +kernel) (by decide +kernel), wOK_1 39 (by decide +kernel) (by decide +kernel), cb_X7_hasDirectory⟩
set_option maxRecDepth 100000 in
theorem cw_X7_216 (M : nM) (h : mOwn M = RX7) : cxS M 216 mX7_isName 1 := ⟨by rw [h]; exact wOK_1 1240 (by decide +kernel) (by decide +kernel), wOK_1 1241 (by decide +kernel) (by decide +kernel), cb_X7_isName⟩
set_option maxRecDepth 100000 in
theorem cw_X7_219 (M : nM) (h : mOwn M = RX7) : cxV M 219 mX7_canName (cTab 7).1 2 := ⟨by rw [h]; exact wOK_1 1191 (by decide +kernel) (by decide +kernel), wOK_1 1193 (by decide +kernel) (by decide +kernel), wOK_1 38 (by decide +kernel) (by decide +kernel), cb_X7_canName⟩
set_option maxRecDepth 100000 in
theorem cw_X7_222 (M : nM) (h : mOwn M = RX7) : cxV M 222 mX7_canWrite (cTab 7).1 2 := ⟨by rw [h]; exact wOK_1 1250 (by decide +kernel) (by decide +kernel), wOK_1 1252 (by decide +kernel) (by decide +kernel), wOK_1 51 (by decide +kernel) (by decide +kernel), cb_X7_canWrite⟩
set_option maxRecDepth 100000 in
theorem cw_X7_225 (M : nM) (h : mOwn M = RX7) : cxV M 225 mX7_writeData (cTab 7).1 5 := ⟨by rw [h]; exact wOK_1 1261 (by decide +kernel) (by decide +kernel), wOK_1 1263 (by decide +kernel) (by decide +kernel), wOK_1 53 (by decide +kernel) (by decide +kernel), cb_X7_writeData⟩
set_option maxRecDepth 100000 in
theorem cw_X7_229 (M : nM) (h : mOwn M = RX7) : cxV M 229 mX7_writeName (cTab 7).1 4 := ⟨by rw [h]; exact wOK_1 1285 (by decide +kernel) (by decide +kernel), wOK_1 1287 (by decide +kernel) (by decide +kernel), wOK_1 59 (by decide +kernel) (by decide +kernel), cb_X7_writeName⟩
set_option maxRecDepth 100000 in
theorem cw_X7_233 (M : nM) (h : mOwn M = RX7) : cxV M 233 mX7_fileAt (cTab 7).1 1 := ⟨by rw [h]; exact wOK_1 1301 (by decide +kernel) (by decide +kernel), wOK_1 1303 (by decide +kernel) (by decide +kernel), wOK_1 61 (by decide +kernel) (by decide +kernel), cb_X7_fileAt⟩
set_option maxRecDepth 100000 in
theorem cw_X7_237 (M : nM) (h : mOwn M = RX7) : cxV M 237 mX7_linksOf (cTab 7).1 1 := ⟨by rw [h]; exact wOK_1 1305 (by decide +kernel) (by decide +kernel), wOK_1 1307 (by decide +kernel) (by decide +kernel), wOK_1 62 (by decide +kernel) (by decide +kernel), cb_X7_linksOf⟩
set_option maxRecDepth 100000 in
theorem cw_X7_240 (M : nM) (h : mOwn M = RX7) : cxV M 240 mX7_namesIn (cTab 7).1 1 := ⟨by rw [h]; exact wOK_1 1313 (by decide +kernel) (by decide +kernel), wOK_1 1315 (by decide +kernel) (by decide +kernel), wOK_1 63 (by decide +kernel) (by decide +kernel), cb_X7_namesIn⟩
set_option maxRecDepth 100000 in
theorem cw_X7_243 (M : nM) (h : mOwn M = RX7) : cxV M 243 mX7_isInside (cTab 7).1 2 := ⟨by rw [h]; exact wOK_1 1321 (by decide +kernel) (by decide +kernel), wOK_1 1323 (by decide +kernel) (by decide +kernel), wOK_1 64 (by decide +kernel) (by decide +kernel), cb_X7_isInside⟩
set_option maxRecDepth 100000 in
theorem cw_X7_246 (M : nM) (h : mOwn M = RX7) : cxV M 246 mX7_areCopies (cTab 7).1 2 := ⟨by rw [h]; exact wOK_1 1357 (by decide +kernel) (by decide +kernel), wOK_1 1359 (by decide +kernel) (by decide +kernel), wOK_1 70 (by decide +kernel) (by decide +kernel), cb_X7_areCopies⟩
set_option maxRecDepth 100000 in
theorem cw_X7_249 (M : nM) (h : mOwn M = RX7) : cxV M 249 mX7_isCounting (cTab 7).1 1 := ⟨by rw [h]; exact wOK_1 1361 (by decide +kernel) (by decide +kernel), wOK_1 1363 (by decide +kernel) (by decide +kernel), wOK_1 71 (by decide +kernel) (by decide +kernel), cb_X7_isCounting⟩
set_option maxRecDepth 100000 in
theorem cw_X7_252 (M : nM) (h : mOwn M = RX7) : cxV M 252 mX7_isLive (cTab 7).1 1 := ⟨by rw [h]; exact wOK_1 1353 (by decide +kernel) (by decide +kernel), wOK_1 1355 (by decide +kernel) (by decide +kernel), wOK_1 69 (by decide +kernel) (by decide +kernel), cb_X7_isLive⟩
set_option maxRecDepth 100000 in
theorem cw_X7_255 (M : nM) (h : mOwn M = RX7) : cxV M 255 mX7_isDead (cTab 7).1 1 := ⟨by rw [h]; exact wOK_1 1349 (by decide +kernel) (by decide +kernel), wOK_1 1351 (by decide +kernel) (by decide +kernel), wOK_1 68 (by decide +kernel) (by decide +kernel), cb_X7_isDead⟩
set_option maxRecDepth 100000 in
theorem cw_X7_258 (M : nM) (h : mOwn M = RX7) : cxV M 258 mX7_deadOf (cTab 7).1 1 := ⟨by rw [h]; exact wOK_1 1345 (by decide +kernel) (by decide +kernel), wOK_1 1347 (by decide +kernel) (by decide +kernel), wOK_1 67 (by decide +kernel) (by decide +kernel), cb_X7_deadOf⟩
set_option maxRecDepth 100000 in
theorem cw_X7_261 (M : nM) (h : mOwn M = RX7) : cxV M 261 mX7_areSame (cTab 7).1 0 := ⟨by rw [h]; exact wOK_1 1369 (by decide +kernel) (by decide +kernel), wOK_1 1371 (by decide +kernel) (by decide +kernel), wOK_1 73 (by decide +kernel) (by decide +kernel), cb_X7_areSame⟩
set_option maxRecDepth 100000 in
theorem cw_X7_264 (M : nM) (h : mOwn M = RX7) : cxV M 264 mX7_stateOf (cTab 7).1 1 := ⟨by rw [h]; exact wOK_1 1341 (by decide +kernel) (by decide +kernel), wOK_1 1343 (by decide +kernel) (by decide +kernel), wOK_1 66 (by decide +kernel) (by decide +kernel), cb_X7_stateOf⟩
set_option maxRecDepth 100000 in
theorem cw_X7_267 (M : nM) (h : mOwn M = RX7) : cxV M 267 mX7_chosen (cTab 7).1 1 := ⟨by rw [h]; exact wOK_1 1337 (by decide +kernel) (by decide +kernel), wOK_1 1339 (by decide +kernel) (by decide +kernel), wOK_1 65 (by decide +kernel) (by decide +kernel), cb_X7_chosen⟩
set_option maxRecDepth 100000 in
theorem cw_X7_270 (M : nM) (h : mOwn M = RX7) : cxV M 270 mX7_layCopies (cTab 7).1 1 := ⟨by rw [h]; exact wOK_1 1365 (by decide +kernel) (by decide +kernel), wOK_1 1367 (by decide +kernel) (by decide +kernel), wOK_1 72 (by decide +kernel) (by decide +kernel), cb_X7_layCopies⟩
set_option maxRecDepth 100000 in
theorem cw_X7_273 (M : nM) (h : mOwn M = RX7) : cxV M 273 mX7_erases (cTab 7).1 1 := ⟨by rw [h]; exact wOK_1 1373 (by decide +kernel) (by decide +kernel), wOK_1 1375 (by decide +kernel) (by decide +kernel), wOK_1 74 (by decide +kernel) (by decide +kernel), cb_X7_erases⟩
set_option maxRecDepth 100000 in
theorem cw_X7_276 (M : nM) (h : mOwn M = RX7) : cxV M 276 mX7_hasSummary (cTab 7).1 1 := ⟨by rw [h]; exact wOK_1 1389 (by decide +kernel) (by decide +kernel), wOK_1 1391 (by decide +kernel) (by decide +kernel), wOK_1 76 (by decide +kernel) (by decide +kernel), cb_X7_hasSummary⟩
set_option maxRecDepth 100000 in
theorem cw_X7_279 (M : nM) (h : mOwn M = RX7) : cxV M 279 mX7_hasTorn (cTab 7).1 1 := ⟨by rw [h]; exact wOK_1 1393 (by decide +kernel) (by decide +kernel), wOK_1 1395 (by decide +kernel) (by decide +kernel), wOK_1 77 (by decide +kernel) (by decide +kernel), cb_X7_hasTorn⟩
set_option maxRecDepth 100000 in
theorem cw_X7_282 (M : nM) (h : mOwn M = RX7) : cxV M 282 mX7_readOf (cTab 7).1 2 := ⟨by rw [h]; exact wOK_1 1385 (by decide +kernel) (by decide +kernel), wOK_1 1387 (by decide +kernel) (by decide +kernel), wOK_1 75 (by decide +kernel) (by decide +kernel), cb_X7_readOf⟩
set_option maxRecDepth 100000 in
theorem cw_X7_286 (M : nM) (h : mOwn M = RX7) : cxV M 286 mX7_layVersions (cTab 7).1 0 := ⟨by rw [h]; exact wOK_1 1397 (by decide +kernel) (by decide +kernel), wOK_1 1399 (by decide +kernel) (by decide +kernel), wOK_1 78 (by decide +kernel) (by decide +kernel), cb_X7_layVersions⟩
set_option maxRecDepth 100000 in
theorem cw_X7_289 (M : nM) (h : mOwn M = RX7) : cxV M 289 mX7_targetOf (cTab 7).1 2 := ⟨by rw [h]; exact wOK_1 1409 (by decide +kernel) (by decide +kernel), wOK_1 1411 (by decide +kernel) (by decide +kernel), wOK_1 79 (by decide +kernel) (by decide +kernel), cb_X7_targetOf⟩
set_option maxRecDepth 100000 in
theorem cw_X7_292 (M : nM) (h : mOwn M = RX7) : cxV M 292 mX7_hasIt (cTab 7).1 1 := ⟨by rw [h]; exact wOK_1 1417 (by decide +kernel) (by decide +kernel), wOK_1 1419 (by decide +kernel) (by decide +kernel), wOK_1 80 (by decide +kernel) (by decide +kernel), cb_X7_hasIt⟩
set_option maxRecDepth 100000 in
theorem cw_X7_295 (M : nM) (h : mOwn M = RX7) : cxV M 295 mX7_hasNumber (cTab 7).1 1 := ⟨by rw [h]; exact wOK_1 1429 (by decide +kernel) (by decide +kernel), wOK_1 1431 (by decide +kernel) (by decide +kernel), wOK_1 81 (by decide +kernel) (by decide +kernel), cb_X7_hasNumber⟩
set_option maxRecDepth 100000 in
theorem cw_X7_298 (M : nM) (h : mOwn M = RX7) : cxV M 298 mX7_length (cTab 7).1 1 := ⟨by rw [h]; exact wOK_1 1445 (by decide +kernel) (by decide +kernel), wOK_1 1438 (by decide +kernel) (by decide +kernel), wOK_1 1439 (by decide +kernel) (by decide +kernel), cb_X7_length⟩
set_option maxRecDepth 100000 in
theorem cw_X7_301 (M : nM) (h : mOwn M = RX7) : cxV M 301 mX7_byteAt (cTab 7).1 2 := ⟨by rw [h]; exact wOK_1 1450 (by decide +kernel) (by decide +kernel), wOK_1 1442 (by decide +kernel) (by decide +kernel), wOK_1 1443 (by decide +kernel) (by decide +kernel), cb_X7_byteAt⟩
set_option maxRecDepth 100000 in
theorem cw_X7_304 (M : nM) (h : mOwn M = RX7) : cxV M 304 mX7_asksFor (cTab 7).1 1 := ⟨by rw [h]; exact wOK_1 1455 (by decide +kernel) (by decide +kernel), wOK_1 1457 (by decide +kernel) (by decide +kernel), wOK_1 82 (by decide +kernel) (by decide +kernel), cb_X7_asksFor⟩
set_option maxRecDepth 100000 in
theorem cw_X7_307 (M : nM) (h : mOwn M = RX7) : cxV M 307 mX7_isBlock (cTab 7).1 1 := ⟨by rw [h]; exact wOK_1 1471 (by decide +kernel) (by decide +kernel), wOK_1 1473 (by decide +kernel) (by decide +kernel), wOK_1 83 (by decide +kernel) (by decide +kernel), cb_X7_isBlock⟩
set_option maxRecDepth 100000 in
theorem kc_X6_216 (M : nM) (h : mOwn M = RX6) : wOK (.constant (mOwn M) 216 (Int32.ofInt (2147483647))) := by rw [h]; exact wOK_1 974 (by decide +kernel) (by decide +kernel)
set_option maxRecDepth 100000 in
theorem kc_X6_254 (M : nM) (h : mOwn M = RX6) : wOK (.constantLong (mOwn M) 254 (Int64.ofInt (4))) := by rw [h]; exact wOK_1 1033 (by decide +kernel) (by decide +kernel)
set_option maxRecDepth 100000 in
theorem kc_X6_256 (M : nM) (h : mOwn M = RX6) : wOK (.constantLong (mOwn M) 256 (Int64.ofInt (10))) := by rw [h]; exact wOK_1 1034 (by decide +kernel) (by decide +kernel)
set_option maxRecDepth 100000 in
theorem kc_X6_264 (M : nM) (h : mOwn M = RX6) : wOK (.constantLong (mOwn M) 264 (Int64.ofInt (1000))) := by rw [h]; exact wOK_1 1035 (by decide +kernel) (by decide +kernel)
set_option maxRecDepth 100000 in
theorem kc_X6_267 (M : nM) (h : mOwn M = RX6) : wOK (.constantLong (mOwn M) 267 (Int64.ofInt (1000000))) := by rw [h]; exact wOK_1 1036 (by decide +kernel) (by decide +kernel)
set_option maxRecDepth 100000 in
theorem kc_X2_49 (M : nM) (h : mOwn M = RX2) : wOK (.constant (mOwn M) 49 (Int32.ofInt (2147483647))) := by rw [h]; exact wOK_1 831 (by decide +kernel) (by decide +kernel)
set_option maxRecDepth 100000 in
theorem kc_X2_68 (M : nM) (h : mOwn M = RX2) : wOK (.constantLong (mOwn M) 68 (Int64.ofInt (-1))) := by rw [h]; exact wOK_1 851 (by decide +kernel) (by decide +kernel)
set_option maxRecDepth 100000 in
theorem kc_X4_67 (M : nM) (h : mOwn M = RX4) : wOK (.constantLong (mOwn M) 67 (Int64.ofInt (-1))) := by rw [h]; exact wOK_1 850 (by decide +kernel) (by decide +kernel)
set_option maxRecDepth 100000 in
theorem kc_X5_118 (M : nM) (h : mOwn M = RX5) : wOK (.constant (mOwn M) 118 (Int32.ofInt (2147483647))) := by rw [h]; exact wOK_1 451 (by decide +kernel) (by decide +kernel)
set_option maxRecDepth 100000 in
theorem kc_L_122 (M : nM) (h : mOwn M = RL) : wOK (.constantLong (mOwn M) 122 (Int64.ofInt (4294967295))) := by rw [h]; exact wOK_1 1490 (by decide +kernel) (by decide +kernel)
set_option maxRecDepth 100000 in
theorem kc_X7_138 (M : nM) (h : mOwn M = RX7) : wOK (.constantLong (mOwn M) 138 (Int64.ofInt (255))) := by rw [h]; exact wOK_1 1239 (by decide +kernel) (by decide +kernel)
set_option maxRecDepth 100000 in
theorem kc_X7_310 (M : nM) (h : mOwn M = RX7) : wOK (.constantLong (mOwn M) 310 (Int64.ofInt (10))) := by rw [h]; exact wOK_1 1483 (by decide +kernel) (by decide +kernel)
set_option maxRecDepth 100000 in
theorem kc_X7_312 (M : nM) (h : mOwn M = RX7) : wOK (.constantLong (mOwn M) 312 (Int64.ofInt (1000))) := by rw [h]; exact wOK_1 1484 (by decide +kernel) (by decide +kernel)
set_option maxRecDepth 100000 in
theorem kc_X7_314 (M : nM) (h : mOwn M = RX7) : wOK (.constantLong (mOwn M) 314 (Int64.ofInt (1000000))) := by rw [h]; exact wOK_1 1485 (by decide +kernel) (by decide +kernel)
set_option maxRecDepth 100000 in
theorem kl_X6_7 (M : nM) (h : mOwn M = RX6) : wOK (.classLink (mOwn M) 7 (cTab 0).1) := by rw [h]; exact wOK_1 108 (by decide +kernel) (by decide +kernel)
set_option maxRecDepth 100000 in
theorem kl_X6_16 (M : nM) (h : mOwn M = RX6) : wOK (.classLink (mOwn M) 16 (cTab 3).1) := by rw [h]; exact wOK_1 216 (by decide +kernel) (by decide +kernel)
set_option maxRecDepth 100000 in
theorem kl_X6_25 (M : nM) (h : mOwn M = RX6) : wOK (.classLink (mOwn M) 25 (cTab 5).1) := by rw [h]; exact wOK_1 258 (by decide +kernel) (by decide +kernel)
set_option maxRecDepth 100000 in
theorem kl_X6_32 (M : nM) (h : mOwn M = RX6) : wOK (.classLink (mOwn M) 32 (cTab 2).1) := by rw [h]; exact wOK_1 336 (by decide +kernel) (by decide +kernel)
set_option maxRecDepth 100000 in
theorem kl_X6_41 (M : nM) (h : mOwn M = RX6) : wOK (.classLink (mOwn M) 41 (cTab 4).1) := by rw [h]; exact wOK_1 360 (by decide +kernel) (by decide +kernel)
set_option maxRecDepth 100000 in
theorem kl_X0_9 (M : nM) (h : mOwn M = RX0) : wOK (.classLink (mOwn M) 9 (cTab 4).1) := by rw [h]; exact wOK_1 114 (by decide +kernel) (by decide +kernel)
set_option maxRecDepth 100000 in
theorem kl_X2_9 (M : nM) (h : mOwn M = RX2) : wOK (.classLink (mOwn M) 9 (cTab 4).1) := by rw [h]; exact wOK_1 342 (by decide +kernel) (by decide +kernel)
set_option maxRecDepth 100000 in
theorem kl_X3_9 (M : nM) (h : mOwn M = RX3) : wOK (.classLink (mOwn M) 9 (cTab 4).1) := by rw [h]; exact wOK_1 222 (by decide +kernel) (by decide +kernel)
set_option maxRecDepth 100000 in
theorem kl_X5_11 (M : nM) (h : mOwn M = RX5) : wOK (.classLink (mOwn M) 11 (cTab 1).1) := by rw [h]; exact wOK_1 264 (by decide +kernel) (by decide +kernel)
set_option maxRecDepth 100000 in
theorem kl_L_8 (M : nM) (h : mOwn M = RL) : wOK (.classLink (mOwn M) 8 (cTab 6).1) := by rw [h]; exact wOK_1 100 (by decide +kernel) (by decide +kernel)
set_option maxRecDepth 100000 in
theorem kl_L_95 (M : nM) (h : mOwn M = RL) : wOK (.classLink (mOwn M) 95 (cTab 7).1) := by rw [h]; exact wOK_1 1048 (by decide +kernel) (by decide +kernel)
set_option maxRecDepth 100000 in
theorem ki_0 : wOK (.instantiable (cTab 0).1 (cTab 0).2.2) ∧ wOK (.initialized (cTab 0).1) := ⟨wOK_1 109 (by decide +kernel) (by decide +kernel), wOK_1 86 (by decide +kernel) (by decide +kernel)⟩
set_option maxRecDepth 100000 in
theorem ki_1 : wOK (.instantiable (cTab 1).1 (cTab 1).2.2) ∧ wOK (.initialized (cTab 1).1) := ⟨wOK_1 274 (by decide +kernel) (by decide +kernel), wOK_1 90 (by decide +kernel) (by decide +kernel)⟩
set_option maxRecDepth 100000 in
theorem ki_2 : wOK (.instantiable (cTab 2).1 (cTab 2).2.2) ∧ wOK (.initialized (cTab 2).1) := ⟨wOK_1 337 (by decide +kernel) (by decide +kernel), wOK_1 92 (by decide +kernel) (by decide +kernel)⟩
set_option maxRecDepth 100000 in
theorem ki_3 : wOK (.instantiable (cTab 3).1 (cTab 3).2.2) ∧ wOK (.initialized (cTab 3).1) := ⟨wOK_1 217 (by decide +kernel) (by decide +kernel), wOK_1 88 (by decide +kernel) (by decide +kernel)⟩
set_option maxRecDepth 100000 in
theorem ki_4 : wOK (.instantiable (cTab 4).1 (cTab 4).2.2) ∧ wOK (.initialized (cTab 4).1) := ⟨wOK_1 116 (by decide +kernel) (by decide +kernel), wOK_1 87 (by decide +kernel) (by decide +kernel)⟩
set_option maxRecDepth 100000 in
theorem ki_5 : wOK (.instantiable (cTab 5).1 (cTab 5).2.2) ∧ wOK (.initialized (cTab 5).1) := ⟨wOK_1 259 (by decide +kernel) (by decide +kernel), wOK_1 89 (by decide +kernel) (by decide +kernel)⟩
set_option maxRecDepth 100000 in
theorem ki_6 : wOK (.instantiable (cTab 6).1 (cTab 6).2.2) ∧ wOK (.initialized (cTab 6).1) := ⟨wOK_1 101 (by decide +kernel) (by decide +kernel), wOK_1 85 (by decide +kernel) (by decide +kernel)⟩
set_option maxRecDepth 100000 in
theorem ki_7 : wOK (.instantiable (cTab 7).1 (cTab 7).2.2) ∧ wOK (.initialized (cTab 7).1) := ⟨wOK_1 1049 (by decide +kernel) (by decide +kernel), wOK_1 93 (by decide +kernel) (by decide +kernel)⟩
theorem ks_X6_108 : (RX6, 108, "the directory has names in it") ∈ nStrs := List.mem_of_getElem? (i := 0) rfl
theorem ks_X6_133 : (RX6, 133, "the offset is not 0 to 63") ∈ nStrs := List.mem_of_getElem? (i := 1) rfl
theorem ks_X6_136 : (RX6, 136, "n is out of range") ∈ nStrs := List.mem_of_getElem? (i := 2) rfl
theorem ks_X6_155 : (RX6, 155, "the length is not 0 to 64") ∈ nStrs := List.mem_of_getElem? (i := 3) rfl
theorem ks_X6_160 : (RX6, 160, "the draw is not 0 to 127") ∈ nStrs := List.mem_of_getElem? (i := 4) rfl
theorem ks_X6_165 : (RX6, 165, "no block is closed") ∈ nStrs := List.mem_of_getElem? (i := 5) rfl
theorem ks_X6_181 : (RX6, 181, "the units are not 0 to 1000, nor NONE") ∈ nStrs := List.mem_of_getElem? (i := 6) rfl
theorem ks_X6_204 : (RX6, 204, "the directory has not so many names") ∈ nStrs := List.mem_of_getElem? (i := 7) rfl
theorem ks_X6_245 : (RX6, 245, "the block has no such node") ∈ nStrs := List.mem_of_getElem? (i := 8) rfl
theorem ks_X6_273 : (RX6, 273, "it is dark") ∈ nStrs := List.mem_of_getElem? (i := 9) rfl
theorem ks_X6_275 : (RX6, 275, "there is nothing with this number") ∈ nStrs := List.mem_of_getElem? (i := 10) rfl
theorem ks_X6_277 : (RX6, 277, "this number is that of a file") ∈ nStrs := List.mem_of_getElem? (i := 11) rfl
theorem ks_X6_279 : (RX6, 279, "this number is that of a directory") ∈ nStrs := List.mem_of_getElem? (i := 12) rfl
theorem ks_X6_281 : (RX6, 281, "nothing has this name") ∈ nStrs := List.mem_of_getElem? (i := 13) rfl
theorem ks_X6_283 : (RX6, 283, "the name is not 1 to 99") ∈ nStrs := List.mem_of_getElem? (i := 14) rfl
theorem ks_X6_285 : (RX6, 285, "the name is taken") ∈ nStrs := List.mem_of_getElem? (i := 15) rfl
theorem ks_X6_287 : (RX6, 287, "both names are those of the same number") ∈ nStrs := List.mem_of_getElem? (i := 16) rfl
theorem ks_X6_289 : (RX6, 289, "the new name is taken") ∈ nStrs := List.mem_of_getElem? (i := 17) rfl
theorem ks_X6_295 : (RX6, 295, "a directory would come into itself, or below itself") ∈ nStrs := List.mem_of_getElem? (i := 18) rfl
theorem ks_X6_297 : (RX6, 297, "the file has no such byte") ∈ nStrs := List.mem_of_getElem? (i := 19) rfl
theorem ks_X6_299 : (RX6, 299, "there is no such block") ∈ nStrs := List.mem_of_getElem? (i := 20) rfl
theorem ks_X6_310 : (RX6, 310, "there is no room") ∈ nStrs := List.mem_of_getElem? (i := 21) rfl
theorem ks_X6_315 : (RX6, 315, "there is no room for the copies") ∈ nStrs := List.mem_of_getElem? (i := 22) rfl
set_option maxRecDepth 100000 in
theorem ka_int : wOK (.arrayClass .int) := wOK_1 191 (by decide +kernel) (by decide +kernel)
set_option maxRecDepth 100000 in
theorem ka_long : wOK (.arrayClass .long) := wOK_1 1181 (by decide +kernel) (by decide +kernel)
set_option maxRecDepth 100000 in
theorem ka_boolean : wOK (.arrayClass .boolean) := wOK_1 1182 (by decide +kernel) (by decide +kernel)
set_option maxRecDepth 100000 in
theorem kv_1 : Cond.arrayOver (.object RX1) ∈ lw_tbl := List.mem_of_getElem? (i := 265) (by decide +kernel)
set_option maxRecDepth 100000 in
theorem kv_4 : Cond.arrayOver (.object RX4) ∈ lw_tbl := List.mem_of_getElem? (i := 115) (by decide +kernel)
