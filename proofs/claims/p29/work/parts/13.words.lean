def gfOK (M : nM) (idx ci k : Nat) : Prop := ci < 7 ∧ k < (cTab ci).2.2 ∧ lkF M idx ((cTab ci).2.1 k).1 ((cTab ci).2.1 k).2.1 ((cTab ci).2.1 k).2.2.1
abbrev mX4_init : nM := (RX4, cX4_init, 1, none, 1, 20, yX4_init)
set_option maxRecDepth 100000 in
theorem cb_X4_init : cxB mX4_init 0 := ⟨wOK_1 41 (by decide +kernel) (by decide +kernel), wOK_1 72 (by decide +kernel) (by decide +kernel), by decide +kernel, by decide +kernel⟩
abbrev mX0_init : nM := (RX0, cX0_init, 2, none, 2, 40, yX0_init)
set_option maxRecDepth 100000 in
theorem cb_X0_init : cxB mX0_init 0 := ⟨wOK_1 40 (by decide +kernel) (by decide +kernel), wOK_1 65 (by decide +kernel) (by decide +kernel), by decide +kernel, by decide +kernel⟩
abbrev mX0_has : nM := (RX0, cX0_has, 2, some .boolean, 0, 0, yX0_has)
set_option maxRecDepth 100000 in
theorem cb_X0_has : cxB mX0_has 1 := ⟨wOK_1 40 (by decide +kernel) (by decide +kernel), wOK_1 415 (by decide +kernel) (by decide +kernel), by decide +kernel, by decide +kernel⟩
abbrev mX0_usedOf : nM := (RX0, cX0_usedOf, 2, some .int, 1, 21, yX0_usedOf)
set_option maxRecDepth 100000 in
theorem cb_X0_usedOf : cxB mX0_usedOf 1 := ⟨wOK_1 40 (by decide +kernel) (by decide +kernel), wOK_1 431 (by decide +kernel) (by decide +kernel), by decide +kernel, by decide +kernel⟩
abbrev mX0_countOf : nM := (RX0, cX0_countOf, 2, some .int, 1, 21, yX0_countOf)
set_option maxRecDepth 100000 in
theorem cb_X0_countOf : cxB mX0_countOf 1 := ⟨wOK_1 40 (by decide +kernel) (by decide +kernel), wOK_1 411 (by decide +kernel) (by decide +kernel), by decide +kernel, by decide +kernel⟩
abbrev mX0_row : nM := (RX0, cX0_row, 3, some (.object "Nodewash$Node"), 0, 0, yX0_row)
set_option maxRecDepth 100000 in
theorem cb_X0_row : cxB mX0_row 1 := ⟨wOK_1 40 (by decide +kernel) (by decide +kernel), wOK_1 423 (by decide +kernel) (by decide +kernel), by decide +kernel, by decide +kernel⟩
abbrev mX0_at : nM := (RX0, cX0_at, 3, some (.object "Nodewash$Node"), 1, 22, yX0_at)
set_option maxRecDepth 100000 in
theorem cb_X0_at : cxB mX0_at 2 := ⟨wOK_1 40 (by decide +kernel) (by decide +kernel), wOK_1 419 (by decide +kernel) (by decide +kernel), by decide +kernel, by decide +kernel⟩
abbrev mX4_tells : nM := (RX4, cX4_tells, 3, some .boolean, 0, 0, yX4_tells)
set_option maxRecDepth 100000 in
theorem cb_X4_tells : cxB mX4_tells 2 := ⟨wOK_1 41 (by decide +kernel) (by decide +kernel), wOK_1 472 (by decide +kernel) (by decide +kernel), by decide +kernel, by decide +kernel⟩
abbrev mX4_settles : nM := (RX4, cX4_settles, 2, some .boolean, 0, 0, yX4_settles)
set_option maxRecDepth 100000 in
theorem cb_X4_settles : cxB mX4_settles 1 := ⟨wOK_1 41 (by decide +kernel) (by decide +kernel), wOK_1 482 (by decide +kernel) (by decide +kernel), by decide +kernel, by decide +kernel⟩
abbrev mX0_newest : nM := (RX0, cX0_newest, 8, some (.object "Nodewash$Node"), 1, 22, yX0_newest)
set_option maxRecDepth 100000 in
theorem cb_X0_newest : cxB mX0_newest 4 := ⟨wOK_1 40 (by decide +kernel) (by decide +kernel), wOK_1 477 (by decide +kernel) (by decide +kernel), by decide +kernel, by decide +kernel⟩
abbrev mX0_nextData : nM := (RX0, cX0_nextData, 6, some (.object "Nodewash$Node"), 1, 22, yX0_nextData)
set_option maxRecDepth 100000 in
theorem cb_X0_nextData : cxB mX0_nextData 2 := ⟨wOK_1 40 (by decide +kernel) (by decide +kernel), wOK_1 510 (by decide +kernel) (by decide +kernel), by decide +kernel, by decide +kernel⟩
abbrev mX4_settledPlaces : nM := (RX4, cX4_settledPlaces, 1, some .long, 0, 0, yX4_settledPlaces)
set_option maxRecDepth 100000 in
theorem cb_X4_settledPlaces : cxB mX4_settledPlaces 0 := ⟨wOK_1 41 (by decide +kernel) (by decide +kernel), wOK_1 653 (by decide +kernel) (by decide +kernel), by decide +kernel, by decide +kernel⟩
abbrev mX0_settledByNewer : nM := (RX0, cX0_settledByNewer, 6, some .long, 1, 22, yX0_settledByNewer)
set_option maxRecDepth 100000 in
theorem cb_X0_settledByNewer : cxB mX0_settledByNewer 1 := ⟨wOK_1 40 (by decide +kernel) (by decide +kernel), wOK_1 649 (by decide +kernel) (by decide +kernel), by decide +kernel, by decide +kernel⟩
abbrev mX4_isCopyOf : nM := (RX4, cX4_isCopyOf, 2, some .boolean, 1, 22, yX4_isCopyOf)
set_option maxRecDepth 100000 in
theorem cb_X4_isCopyOf : cxB mX4_isCopyOf 1 := ⟨wOK_1 41 (by decide +kernel) (by decide +kernel), wOK_1 644 (by decide +kernel) (by decide +kernel), by decide +kernel, by decide +kernel⟩
abbrev mX0_firstCopy : nM := (RX0, cX0_firstCopy, 4, some (.object "Nodewash$Node"), 2, 43, yX0_firstCopy)
set_option maxRecDepth 100000 in
theorem cb_X0_firstCopy : cxB mX0_firstCopy 1 := ⟨wOK_1 40 (by decide +kernel) (by decide +kernel), wOK_1 640 (by decide +kernel) (by decide +kernel), by decide +kernel, by decide +kernel⟩
abbrev mX0_spend : nM := (RX0, cX0_spend, 1, some .boolean, 0, 0, yX0_spend)
set_option maxRecDepth 100000 in
theorem cb_X0_spend : cxB mX0_spend 0 := ⟨wOK_1 40 (by decide +kernel) (by decide +kernel), wOK_1 537 (by decide +kernel) (by decide +kernel), by decide +kernel, by decide +kernel⟩
abbrev mX4_copyFrom : nM := (RX4, cX4_copyFrom, 2, none, 0, 0, yX4_copyFrom)
set_option maxRecDepth 100000 in
theorem cb_X4_copyFrom : cxB mX4_copyFrom 1 := ⟨wOK_1 41 (by decide +kernel) (by decide +kernel), wOK_1 744 (by decide +kernel) (by decide +kernel), by decide +kernel, by decide +kernel⟩
abbrev mX0_begin : nM := (RX0, cX0_begin, 5, some (.object "Nodewash$Node"), 2, 40, yX0_begin)
set_option maxRecDepth 100000 in
theorem cb_X0_begin : cxB mX0_begin 2 := ⟨wOK_1 40 (by decide +kernel) (by decide +kernel), wOK_1 740 (by decide +kernel) (by decide +kernel), by decide +kernel, by decide +kernel⟩
abbrev mX0_append : nM := (RX0, cX0_append, 5, some .boolean, 3, 64, yX0_append)
set_option maxRecDepth 100000 in
theorem cb_X0_append : cxB mX0_append 2 := ⟨wOK_1 40 (by decide +kernel) (by decide +kernel), wOK_1 736 (by decide +kernel) (by decide +kernel), by decide +kernel, by decide +kernel⟩
abbrev mX4_clear : nM := (RX4, cX4_clear, 1, none, 0, 0, yX4_clear)
set_option maxRecDepth 100000 in
theorem cb_X4_clear : cxB mX4_clear 0 := ⟨wOK_1 41 (by decide +kernel) (by decide +kernel), wOK_1 542 (by decide +kernel) (by decide +kernel), by decide +kernel, by decide +kernel⟩
abbrev mX0_erase : nM := (RX0, cX0_erase, 3, some .boolean, 2, 44, yX0_erase)
set_option maxRecDepth 100000 in
theorem cb_X0_erase : cxB mX0_erase 1 := ⟨wOK_1 40 (by decide +kernel) (by decide +kernel), wOK_1 533 (by decide +kernel) (by decide +kernel), by decide +kernel, by decide +kernel⟩
abbrev mX1_init : nM := (RX1, cX1_init, 1, none, 1, 20, yX1_init)
set_option maxRecDepth 100000 in
theorem cb_X1_init : cxB mX1_init 0 := ⟨wOK_1 44 (by decide +kernel) (by decide +kernel), wOK_1 227 (by decide +kernel) (by decide +kernel), by decide +kernel, by decide +kernel⟩
abbrev mX1_begin : nM := (RX1, cX1_begin, 4, none, 0, 0, yX1_begin)
set_option maxRecDepth 100000 in
theorem cb_X1_begin : cxB mX1_begin 2 := ⟨wOK_1 44 (by decide +kernel) (by decide +kernel), wOK_1 268 (by decide +kernel) (by decide +kernel), by decide +kernel, by decide +kernel⟩
abbrev mX1_cell : nM := (RX1, cX1_cell, 2, some .int, 0, 0, yX1_cell)
set_option maxRecDepth 100000 in
theorem cb_X1_cell : cxB mX1_cell 1 := ⟨wOK_1 44 (by decide +kernel) (by decide +kernel), wOK_1 494 (by decide +kernel) (by decide +kernel), by decide +kernel, by decide +kernel⟩
abbrev mX1_setCell : nM := (RX1, cX1_setCell, 3, none, 0, 0, yX1_setCell)
set_option maxRecDepth 100000 in
theorem cb_X1_setCell : cxB mX1_setCell 2 := ⟨wOK_1 44 (by decide +kernel) (by decide +kernel), wOK_1 498 (by decide +kernel) (by decide +kernel), by decide +kernel, by decide +kernel⟩
abbrev mX4_laysAt : nM := (RX4, cX4_laysAt, 2, some .boolean, 0, 0, yX4_laysAt)
set_option maxRecDepth 100000 in
theorem cb_X4_laysAt : cxB mX4_laysAt 1 := ⟨wOK_1 41 (by decide +kernel) (by decide +kernel), wOK_1 523 (by decide +kernel) (by decide +kernel), by decide +kernel, by decide +kernel⟩
abbrev mX4_byteFor : nM := (RX4, cX4_byteFor, 2, some .int, 1, 21, yX4_byteFor)
set_option maxRecDepth 100000 in
theorem cb_X4_byteFor : cxB mX4_byteFor 1 := ⟨wOK_1 41 (by decide +kernel) (by decide +kernel), wOK_1 519 (by decide +kernel) (by decide +kernel), by decide +kernel, by decide +kernel⟩
abbrev mX1_lay : nM := (RX1, cX1_lay, 3, none, 2, 42, yX1_lay)
set_option maxRecDepth 100000 in
theorem cb_X1_lay : cxB mX1_lay 1 := ⟨wOK_1 44 (by decide +kernel) (by decide +kernel), wOK_1 514 (by decide +kernel) (by decide +kernel), by decide +kernel, by decide +kernel⟩
abbrev mX1_nameBehind : nM := (RX1, cX1_nameBehind, 4, some .int, 1, 21, yX1_nameBehind)
set_option maxRecDepth 100000 in
theorem cb_X1_nameBehind : cxB mX1_nameBehind 1 := ⟨wOK_1 44 (by decide +kernel) (by decide +kernel), wOK_1 864 (by decide +kernel) (by decide +kernel), by decide +kernel, by decide +kernel⟩
abbrev mX2_init : nM := (RX2, cX2_init, 3, none, 2, 40, yX2_init)
set_option maxRecDepth 100000 in
theorem cb_X2_init : cxB mX2_init 2 := ⟨wOK_1 46 (by decide +kernel) (by decide +kernel), wOK_1 290 (by decide +kernel) (by decide +kernel), by decide +kernel, by decide +kernel⟩
abbrev mX5_item : nM := (RX5, cX5_item, 2, some (.object "Nodewash$Item"), 0, 0, yX5_item)
set_option maxRecDepth 100000 in
theorem cb_X5_item : cxB mX5_item 1 := ⟨wOK_1 43 (by decide +kernel) (by decide +kernel), wOK_1 463 (by decide +kernel) (by decide +kernel), by decide +kernel, by decide +kernel⟩
abbrev mX5_find : nM := (RX5, cX5_find, 4, some (.object "Nodewash$Item"), 1, 21, yX5_find)
set_option maxRecDepth 100000 in
theorem cb_X5_find : cxB mX5_find 1 := ⟨wOK_1 43 (by decide +kernel) (by decide +kernel), wOK_1 486 (by decide +kernel) (by decide +kernel), by decide +kernel, by decide +kernel⟩
abbrev mX5_holds : nM := (RX5, cX5_holds, 4, some .boolean, 2, 44, yX5_holds)
set_option maxRecDepth 100000 in
theorem cb_X5_holds : cxB mX5_holds 2 := ⟨wOK_1 43 (by decide +kernel) (by decide +kernel), wOK_1 634 (by decide +kernel) (by decide +kernel), by decide +kernel, by decide +kernel⟩
abbrev mX2_isLive : nM := (RX2, cX2_isLive, 2, some .boolean, 3, 67, yX2_isLive)
set_option maxRecDepth 100000 in
theorem cb_X2_isLive : cxB mX2_isLive 1 := ⟨wOK_1 46 (by decide +kernel) (by decide +kernel), wOK_1 630 (by decide +kernel) (by decide +kernel), by decide +kernel, by decide +kernel⟩
abbrev mX4_isWhole : nM := (RX4, cX4_isWhole, 1, some .boolean, 0, 0, yX4_isWhole)
set_option maxRecDepth 100000 in
theorem cb_X4_isWhole : cxB mX4_isWhole 0 := ⟨wOK_1 41 (by decide +kernel) (by decide +kernel), wOK_1 427 (by decide +kernel) (by decide +kernel), by decide +kernel, by decide +kernel⟩
abbrev mX2_isDead : nM := (RX2, cX2_isDead, 2, some .boolean, 4, 88, yX2_isDead)
set_option maxRecDepth 100000 in
theorem cb_X2_isDead : cxB mX2_isDead 1 := ⟨wOK_1 46 (by decide +kernel) (by decide +kernel), wOK_1 626 (by decide +kernel) (by decide +kernel), by decide +kernel, by decide +kernel⟩
abbrev mX2_dirtOf : nM := (RX2, cX2_dirtOf, 6, some .int, 5, 109, yX2_dirtOf)
set_option maxRecDepth 100000 in
theorem cb_X2_dirtOf : cxB mX2_dirtOf 1 := ⟨wOK_1 46 (by decide +kernel) (by decide +kernel), wOK_1 619 (by decide +kernel) (by decide +kernel), by decide +kernel, by decide +kernel⟩
abbrev mX2_chosenAt : nM := (RX2, cX2_chosenAt, 3, some (.object "Nodewash$Node"), 0, 0, yX2_chosenAt)
set_option maxRecDepth 100000 in
theorem cb_X2_chosenAt : cxB mX2_chosenAt 1 := ⟨wOK_1 46 (by decide +kernel) (by decide +kernel), wOK_1 842 (by decide +kernel) (by decide +kernel), by decide +kernel, by decide +kernel⟩
abbrev mX2_targetOf : nM := (RX2, cX2_targetOf, 2, some .int, 0, 0, yX2_targetOf)
set_option maxRecDepth 100000 in
theorem cb_X2_targetOf : cxB mX2_targetOf 1 := ⟨wOK_1 46 (by decide +kernel) (by decide +kernel), wOK_1 828 (by decide +kernel) (by decide +kernel), by decide +kernel, by decide +kernel⟩
abbrev mX2_isMissedAsName : nM := (RX2, cX2_isMissedAsName, 4, some .boolean, 2, 49, yX2_isMissedAsName)
set_option maxRecDepth 100000 in
theorem cb_X2_isMissedAsName : cxB mX2_isMissedAsName 1 := ⟨wOK_1 46 (by decide +kernel) (by decide +kernel), wOK_1 824 (by decide +kernel) (by decide +kernel), by decide +kernel, by decide +kernel⟩
abbrev mX2_isMissedAsData : nM := (RX2, cX2_isMissedAsData, 8, some .boolean, 3, 66, yX2_isMissedAsData)
set_option maxRecDepth 100000 in
theorem cb_X2_isMissedAsData : cxB mX2_isMissedAsData 1 := ⟨wOK_1 46 (by decide +kernel) (by decide +kernel), wOK_1 832 (by decide +kernel) (by decide +kernel), by decide +kernel, by decide +kernel⟩
abbrev mX2_isMissed : nM := (RX2, cX2_isMissed, 2, some .boolean, 4, 93, yX2_isMissed)
set_option maxRecDepth 100000 in
theorem cb_X2_isMissed : cxB mX2_isMissed 1 := ⟨wOK_1 46 (by decide +kernel) (by decide +kernel), wOK_1 820 (by decide +kernel) (by decide +kernel), by decide +kernel, by decide +kernel⟩
abbrev mX2_lookAt : nM := (RX2, cX2_lookAt, 2, none, 5, 114, yX2_lookAt)
set_option maxRecDepth 100000 in
theorem cb_X2_lookAt : cxB mX2_lookAt 1 := ⟨wOK_1 46 (by decide +kernel) (by decide +kernel), wOK_1 816 (by decide +kernel) (by decide +kernel), by decide +kernel, by decide +kernel⟩
abbrev mX2_choose : nM := (RX2, cX2_choose, 5, some .int, 6, 135, yX2_choose)
set_option maxRecDepth 100000 in
theorem cb_X2_choose : cxB mX2_choose 1 := ⟨wOK_1 46 (by decide +kernel) (by decide +kernel), wOK_1 812 (by decide +kernel) (by decide +kernel), by decide +kernel, by decide +kernel⟩
abbrev mX3_init : nM := (RX3, cX3_init, 3, none, 2, 40, yX3_init)
set_option maxRecDepth 100000 in
theorem cb_X3_init : cxB mX3_init 1 := ⟨wOK_1 42 (by decide +kernel) (by decide +kernel), wOK_1 170 (by decide +kernel) (by decide +kernel), by decide +kernel, by decide +kernel⟩
abbrev mX3_isFree : nM := (RX3, cX3_isFree, 3, some .boolean, 0, 0, yX3_isFree)
set_option maxRecDepth 100000 in
theorem cb_X3_isFree : cxB mX3_isFree 1 := ⟨wOK_1 42 (by decide +kernel) (by decide +kernel), wOK_1 615 (by decide +kernel) (by decide +kernel), by decide +kernel, by decide +kernel⟩
abbrev mX3_closedAt : nM := (RX3, cX3_closedAt, 2, some .int, 0, 0, yX3_closedAt)
set_option maxRecDepth 100000 in
theorem cb_X3_closedAt : cxB mX3_closedAt 1 := ⟨wOK_1 42 (by decide +kernel) (by decide +kernel), wOK_1 804 (by decide +kernel) (by decide +kernel), by decide +kernel, by decide +kernel⟩
abbrev mX3_addFree : nM := (RX3, cX3_addFree, 2, none, 0, 0, yX3_addFree)
set_option maxRecDepth 100000 in
theorem cb_X3_addFree : cxB mX3_addFree 1 := ⟨wOK_1 42 (by decide +kernel) (by decide +kernel), wOK_1 451 (by decide +kernel) (by decide +kernel), by decide +kernel, by decide +kernel⟩
abbrev mX3_addClosed : nM := (RX3, cX3_addClosed, 2, none, 0, 0, yX3_addClosed)
set_option maxRecDepth 100000 in
theorem cb_X3_addClosed : cxB mX3_addClosed 1 := ⟨wOK_1 42 (by decide +kernel) (by decide +kernel), wOK_1 455 (by decide +kernel) (by decide +kernel), by decide +kernel, by decide +kernel⟩
abbrev mX3_takeFree : nM := (RX3, cX3_takeFree, 3, some .int, 0, 0, yX3_takeFree)
set_option maxRecDepth 100000 in
theorem cb_X3_takeFree : cxB mX3_takeFree 0 := ⟨wOK_1 42 (by decide +kernel) (by decide +kernel), wOK_1 748 (by decide +kernel) (by decide +kernel), by decide +kernel, by decide +kernel⟩
abbrev mX3_dropClosed : nM := (RX3, cX3_dropClosed, 4, none, 0, 0, yX3_dropClosed)
set_option maxRecDepth 100000 in
theorem cb_X3_dropClosed : cxB mX3_dropClosed 1 := ⟨wOK_1 42 (by decide +kernel) (by decide +kernel), wOK_1 851 (by decide +kernel) (by decide +kernel), by decide +kernel, by decide +kernel⟩
abbrev mX3_fits : nM := (RX3, cX3_fits, 4, some .boolean, 0, 0, yX3_fits)
set_option maxRecDepth 100000 in
theorem cb_X3_fits : cxB mX3_fits 3 := ⟨wOK_1 42 (by decide +kernel) (by decide +kernel), wOK_1 447 (by decide +kernel) (by decide +kernel), by decide +kernel, by decide +kernel⟩
abbrev mX3_beginTrial : nM := (RX3, cX3_beginTrial, 2, none, 2, 42, yX3_beginTrial)
set_option maxRecDepth 100000 in
theorem cb_X3_beginTrial : cxB mX3_beginTrial 1 := ⟨wOK_1 42 (by decide +kernel) (by decide +kernel), wOK_1 710 (by decide +kernel) (by decide +kernel), by decide +kernel, by decide +kernel⟩
abbrev mX3_takesInTrial : nM := (RX3, cX3_takesInTrial, 2, some .boolean, 1, 23, yX3_takesInTrial)
set_option maxRecDepth 100000 in
theorem cb_X3_takesInTrial : cxB mX3_takesInTrial 1 := ⟨wOK_1 42 (by decide +kernel) (by decide +kernel), wOK_1 714 (by decide +kernel) (by decide +kernel), by decide +kernel, by decide +kernel⟩
abbrev mX4_becomeSummary : nM := (RX4, cX4_becomeSummary, 2, none, 1, 20, yX4_becomeSummary)
set_option maxRecDepth 100000 in
theorem cb_X4_becomeSummary : cxB mX4_becomeSummary 1 := ⟨wOK_1 41 (by decide +kernel) (by decide +kernel), wOK_1 732 (by decide +kernel) (by decide +kernel), by decide +kernel, by decide +kernel⟩
abbrev mX3_goOn : nM := (RX3, cX3_goOn, 1, some .boolean, 4, 88, yX3_goOn)
set_option maxRecDepth 100000 in
theorem cb_X3_goOn : cxB mX3_goOn 0 := ⟨wOK_1 42 (by decide +kernel) (by decide +kernel), wOK_1 728 (by decide +kernel) (by decide +kernel), by decide +kernel, by decide +kernel⟩
abbrev mX3_put : nM := (RX3, cX3_put, 3, some .boolean, 5, 108, yX3_put)
set_option maxRecDepth 100000 in
theorem cb_X3_put : cxB mX3_put 1 := ⟨wOK_1 42 (by decide +kernel) (by decide +kernel), wOK_1 724 (by decide +kernel) (by decide +kernel), by decide +kernel, by decide +kernel⟩
abbrev mX3_freeClosed : nM := (RX3, cX3_freeClosed, 2, some .boolean, 3, 66, yX3_freeClosed)
set_option maxRecDepth 100000 in
theorem cb_X3_freeClosed : cxB mX3_freeClosed 1 := ⟨wOK_1 42 (by decide +kernel) (by decide +kernel), wOK_1 847 (by decide +kernel) (by decide +kernel), by decide +kernel, by decide +kernel⟩
abbrev mX3_canGoOn : nM := (RX3, cX3_canGoOn, 5, some .boolean, 2, 44, yX3_canGoOn)
set_option maxRecDepth 100000 in
theorem cb_X3_canGoOn : cxB mX3_canGoOn 1 := ⟨wOK_1 42 (by decide +kernel) (by decide +kernel), wOK_1 440 (by decide +kernel) (by decide +kernel), by decide +kernel, by decide +kernel⟩
abbrev mX3_restart : nM := (RX3, cX3_restart, 3, none, 3, 68, yX3_restart)
set_option maxRecDepth 100000 in
theorem cb_X3_restart : cxB mX3_restart 0 := ⟨wOK_1 42 (by decide +kernel) (by decide +kernel), wOK_1 435 (by decide +kernel) (by decide +kernel), by decide +kernel, by decide +kernel⟩
abbrev mX3_eraseBroken : nM := (RX3, cX3_eraseBroken, 2, some .boolean, 3, 66, yX3_eraseBroken)
set_option maxRecDepth 100000 in
theorem cb_X3_eraseBroken : cxB mX3_eraseBroken 0 := ⟨wOK_1 42 (by decide +kernel) (by decide +kernel), wOK_1 529 (by decide +kernel) (by decide +kernel), by decide +kernel, by decide +kernel⟩
abbrev mX4_becomeData : nM := (RX4, cX4_becomeData, 5, none, 1, 20, yX4_becomeData)
set_option maxRecDepth 100000 in
theorem cb_X4_becomeData : cxB mX4_becomeData 4 := ⟨wOK_1 41 (by decide +kernel) (by decide +kernel), wOK_1 719 (by decide +kernel) (by decide +kernel), by decide +kernel, by decide +kernel⟩
abbrev mX4_giveBytes : nM := (RX4, cX4_giveBytes, 4, none, 0, 0, yX4_giveBytes)
set_option maxRecDepth 100000 in
theorem cb_X4_giveBytes : cxB mX4_giveBytes 2 := ⟨wOK_1 41 (by decide +kernel) (by decide +kernel), wOK_1 905 (by decide +kernel) (by decide +kernel), by decide +kernel, by decide +kernel⟩
abbrev mX4_becomeName : nM := (RX4, cX4_becomeName, 6, none, 1, 20, yX4_becomeName)
set_option maxRecDepth 100000 in
theorem cb_X4_becomeName : cxB mX4_becomeName 5 := ⟨wOK_1 41 (by decide +kernel) (by decide +kernel), wOK_1 756 (by decide +kernel) (by decide +kernel), by decide +kernel, by decide +kernel⟩
abbrev mJ9_max : nM := (RJ9, cJ9_max, 2, some .int, 0, 0, yJ9_max)
set_option maxRecDepth 100000 in
theorem cb_J9_max : cxB mJ9_max 2 := ⟨wOK_1 45 (by decide +kernel) (by decide +kernel), wOK_1 271 (by decide +kernel) (by decide +kernel), by decide +kernel, by decide +kernel⟩
abbrev mX5_add : nM := (RX5, cX5_add, 4, some (.object "Nodewash$Item"), 2, 40, yX5_add)
set_option maxRecDepth 100000 in
theorem cb_X5_add : cxB mX5_add 2 := ⟨wOK_1 43 (by decide +kernel) (by decide +kernel), wOK_1 223 (by decide +kernel) (by decide +kernel), by decide +kernel, by decide +kernel⟩
abbrev mX5_empty : nM := (RX5, cX5_empty, 1, none, 3, 63, yX5_empty)
set_option maxRecDepth 100000 in
theorem cb_X5_empty : cxB mX5_empty 0 := ⟨wOK_1 43 (by decide +kernel) (by decide +kernel), wOK_1 219 (by decide +kernel) (by decide +kernel), by decide +kernel, by decide +kernel⟩
abbrev mX5_init : nM := (RX5, cX5_init, 1, none, 4, 83, yX5_init)
set_option maxRecDepth 100000 in
theorem cb_X5_init : cxB mX5_init 0 := ⟨wOK_1 43 (by decide +kernel) (by decide +kernel), wOK_1 212 (by decide +kernel) (by decide +kernel), by decide +kernel, by decide +kernel⟩
abbrev mX5_drop : nM := (RX5, cX5_drop, 4, none, 1, 21, yX5_drop)
set_option maxRecDepth 100000 in
theorem cb_X5_drop : cxB mX5_drop 1 := ⟨wOK_1 43 (by decide +kernel) (by decide +kernel), wOK_1 502 (by decide +kernel) (by decide +kernel), by decide +kernel, by decide +kernel⟩
abbrev mX5_assign : nM := (RX5, cX5_assign, 5, none, 2, 44, yX5_assign)
set_option maxRecDepth 100000 in
theorem cb_X5_assign : cxB mX5_assign 3 := ⟨wOK_1 43 (by decide +kernel) (by decide +kernel), wOK_1 490 (by decide +kernel) (by decide +kernel), by decide +kernel, by decide +kernel⟩
abbrev mX5_reach : nM := (RX5, cX5_reach, 3, some .int, 0, 0, yX5_reach)
set_option maxRecDepth 100000 in
theorem cb_X5_reach : cxB mX5_reach 2 := ⟨wOK_1 43 (by decide +kernel) (by decide +kernel), wOK_1 890 (by decide +kernel) (by decide +kernel), by decide +kernel, by decide +kernel⟩
abbrev mX5_leadsTo : nM := (RX5, cX5_leadsTo, 7, some .boolean, 2, 44, yX5_leadsTo)
set_option maxRecDepth 100000 in
theorem cb_X5_leadsTo : cxB mX5_leadsTo 2 := ⟨wOK_1 43 (by decide +kernel) (by decide +kernel), wOK_1 886 (by decide +kernel) (by decide +kernel), by decide +kernel, by decide +kernel⟩
abbrev mX5_readNames : nM := (RX5, cX5_readNames, 6, none, 3, 68, yX5_readNames)
set_option maxRecDepth 100000 in
theorem cb_X5_readNames : cxB mX5_readNames 2 := ⟨wOK_1 43 (by decide +kernel) (by decide +kernel), wOK_1 467 (by decide +kernel) (by decide +kernel), by decide +kernel, by decide +kernel⟩
abbrev mX5_readContent : nM := (RX5, cX5_readContent, 6, none, 3, 64, yX5_readContent)
set_option maxRecDepth 100000 in
theorem cb_X5_readContent : cxB mX5_readContent 2 := ⟨wOK_1 43 (by decide +kernel) (by decide +kernel), wOK_1 506 (by decide +kernel) (by decide +kernel), by decide +kernel, by decide +kernel⟩
abbrev mX5_restart : nM := (RX5, cX5_restart, 4, none, 4, 93, yX5_restart)
set_option maxRecDepth 100000 in
theorem cb_X5_restart : cxB mX5_restart 1 := ⟨wOK_1 43 (by decide +kernel) (by decide +kernel), wOK_1 459 (by decide +kernel) (by decide +kernel), by decide +kernel, by decide +kernel⟩
abbrev mX6_init : nM := (RX6, cX6_init, 1, none, 5, 103, yX6_init)
set_option maxRecDepth 100000 in
theorem cb_X6_init : cxB mX6_init 0 := ⟨wOK_1 39 (by decide +kernel) (by decide +kernel), wOK_1 57 (by decide +kernel) (by decide +kernel), by decide +kernel, by decide +kernel⟩
abbrev mX6_refuseInDark : nM := (RX6, cX6_refuseInDark, 1, none, 6, 90, yX6_refuseInDark)
set_option maxRecDepth 100000 in
theorem cb_X6_refuseInDark : cxB mX6_refuseInDark 0 := ⟨wOK_1 39 (by decide +kernel) (by decide +kernel), wOK_1 562 (by decide +kernel) (by decide +kernel), by decide +kernel, by decide +kernel⟩
abbrev mX6_itemThere : nM := (RX6, cX6_itemThere, 3, some (.object "Nodewash$Item"), 7, 110, yX6_itemThere)
set_option maxRecDepth 100000 in
theorem cb_X6_itemThere : cxB mX6_itemThere 1 := ⟨wOK_1 39 (by decide +kernel) (by decide +kernel), wOK_1 558 (by decide +kernel) (by decide +kernel), by decide +kernel, by decide +kernel⟩
abbrev mX6_directoryThere : nM := (RX6, cX6_directoryThere, 3, some (.object "Nodewash$Item"), 8, 132, yX6_directoryThere)
set_option maxRecDepth 100000 in
theorem cb_X6_directoryThere : cxB mX6_directoryThere 1 := ⟨wOK_1 39 (by decide +kernel) (by decide +kernel), wOK_1 554 (by decide +kernel) (by decide +kernel), by decide +kernel, by decide +kernel⟩
abbrev mX6_refuseWrongName : nM := (RX6, cX6_refuseWrongName, 2, none, 6, 90, yX6_refuseWrongName)
set_option maxRecDepth 100000 in
theorem cb_X6_refuseWrongName : cxB mX6_refuseWrongName 1 := ⟨wOK_1 39 (by decide +kernel) (by decide +kernel), wOK_1 600 (by decide +kernel) (by decide +kernel), by decide +kernel, by decide +kernel⟩
abbrev mX6_refuseTakenName : nM := (RX6, cX6_refuseTakenName, 3, none, 6, 90, yX6_refuseTakenName)
set_option maxRecDepth 100000 in
theorem cb_X6_refuseTakenName : cxB mX6_refuseTakenName 2 := ⟨wOK_1 39 (by decide +kernel) (by decide +kernel), wOK_1 701 (by decide +kernel) (by decide +kernel), by decide +kernel, by decide +kernel⟩
abbrev mX6_refuseWithoutRoom : nM := (RX6, cX6_refuseWithoutRoom, 3, none, 6, 90, yX6_refuseWithoutRoom)
set_option maxRecDepth 100000 in
theorem cb_X6_refuseWithoutRoom : cxB mX6_refuseWithoutRoom 2 := ⟨wOK_1 39 (by decide +kernel) (by decide +kernel), wOK_1 706 (by decide +kernel) (by decide +kernel), by decide +kernel, by decide +kernel⟩
abbrev mX6_putName : nM := (RX6, cX6_putName, 5, some .boolean, 6, 130, yX6_putName)
set_option maxRecDepth 100000 in
theorem cb_X6_putName : cxB mX6_putName 4 := ⟨wOK_1 39 (by decide +kernel) (by decide +kernel), wOK_1 752 (by decide +kernel) (by decide +kernel), by decide +kernel, by decide +kernel⟩
abbrev mX6_create : nM := (RX6, cX6_create, 6, some .int, 9, 154, yX6_create)
set_option maxRecDepth 100000 in
theorem cb_X6_create : cxB mX6_create 2 := ⟨wOK_1 39 (by decide +kernel) (by decide +kernel), wOK_1 697 (by decide +kernel) (by decide +kernel), by decide +kernel, by decide +kernel⟩
abbrev mX6_makeDirectory : nM := (RX6, cX6_makeDirectory, 5, some .int, 9, 154, yX6_makeDirectory)
set_option maxRecDepth 100000 in
theorem cb_X6_makeDirectory : cxB mX6_makeDirectory 2 := ⟨wOK_1 39 (by decide +kernel) (by decide +kernel), wOK_1 762 (by decide +kernel) (by decide +kernel), by decide +kernel, by decide +kernel⟩
abbrev mX6_fileThere : nM := (RX6, cX6_fileThere, 3, some (.object "Nodewash$Item"), 8, 132, yX6_fileThere)
set_option maxRecDepth 100000 in
theorem cb_X6_fileThere : cxB mX6_fileThere 1 := ⟨wOK_1 39 (by decide +kernel) (by decide +kernel), wOK_1 770 (by decide +kernel) (by decide +kernel), by decide +kernel, by decide +kernel⟩
abbrev mX6_link : nM := (RX6, cX6_link, 6, some .int, 9, 154, yX6_link)
set_option maxRecDepth 100000 in
theorem cb_X6_link : cxB mX6_link 3 := ⟨wOK_1 39 (by decide +kernel) (by decide +kernel), wOK_1 766 (by decide +kernel) (by decide +kernel), by decide +kernel, by decide +kernel⟩
abbrev mX6_itemNamed : nM := (RX6, cX6_itemNamed, 4, some (.object "Nodewash$Item"), 6, 90, yX6_itemNamed)
set_option maxRecDepth 100000 in
theorem cb_X6_itemNamed : cxB mX6_itemNamed 2 := ⟨wOK_1 39 (by decide +kernel) (by decide +kernel), wOK_1 779 (by decide +kernel) (by decide +kernel), by decide +kernel, by decide +kernel⟩
abbrev mX6_unlink : nM := (RX6, cX6_unlink, 6, some .int, 9, 154, yX6_unlink)
set_option maxRecDepth 100000 in
theorem cb_X6_unlink : cxB mX6_unlink 2 := ⟨wOK_1 39 (by decide +kernel) (by decide +kernel), wOK_1 775 (by decide +kernel) (by decide +kernel), by decide +kernel, by decide +kernel⟩
abbrev mX6_refuseWrongMove : nM := (RX6, cX6_refuseWrongMove, 4, none, 6, 90, yX6_refuseWrongMove)
set_option maxRecDepth 100000 in
theorem cb_X6_refuseWrongMove : cxB mX6_refuseWrongMove 3 := ⟨wOK_1 39 (by decide +kernel) (by decide +kernel), wOK_1 880 (by decide +kernel) (by decide +kernel), by decide +kernel, by decide +kernel⟩
abbrev mX6_rename : nM := (RX6, cX6_rename, 9, some .int, 9, 154, yX6_rename)
set_option maxRecDepth 100000 in
theorem cb_X6_rename : cxB mX6_rename 4 := ⟨wOK_1 39 (by decide +kernel) (by decide +kernel), wOK_1 876 (by decide +kernel) (by decide +kernel), by decide +kernel, by decide +kernel⟩
abbrev mX6_putContent : nM := (RX6, cX6_putContent, 2, some .boolean, 6, 130, yX6_putContent)
set_option maxRecDepth 100000 in
theorem cb_X6_putContent : cxB mX6_putContent 1 := ⟨wOK_1 39 (by decide +kernel) (by decide +kernel), wOK_1 790 (by decide +kernel) (by decide +kernel), by decide +kernel, by decide +kernel⟩
abbrev mX6_write : nM := (RX6, cX6_write, 7, some .int, 9, 154, yX6_write)
set_option maxRecDepth 100000 in
theorem cb_X6_write : cxB mX6_write 4 := ⟨wOK_1 39 (by decide +kernel) (by decide +kernel), wOK_1 898 (by decide +kernel) (by decide +kernel), by decide +kernel, by decide +kernel⟩
abbrev mX6_truncate : nM := (RX6, cX6_truncate, 5, some .int, 9, 154, yX6_truncate)
set_option maxRecDepth 100000 in
theorem cb_X6_truncate : cxB mX6_truncate 2 := ⟨wOK_1 39 (by decide +kernel) (by decide +kernel), wOK_1 785 (by decide +kernel) (by decide +kernel), by decide +kernel, by decide +kernel⟩
abbrev mJ9_floorMod : nM := (RJ9, cJ9_floorMod, 3, some .int, 0, 0, yJ9_floorMod)
set_option maxRecDepth 100000 in
theorem cb_J9_floorMod : cxB mJ9_floorMod 2 := ⟨wOK_1 45 (by decide +kernel) (by decide +kernel), wOK_1 807 (by decide +kernel) (by decide +kernel), by decide +kernel, by decide +kernel⟩
abbrev mX6_victim : nM := (RX6, cX6_victim, 8, some .int, 6, 134, yX6_victim)
set_option maxRecDepth 100000 in
theorem cb_X6_victim : cxB mX6_victim 1 := ⟨wOK_1 39 (by decide +kernel) (by decide +kernel), wOK_1 800 (by decide +kernel) (by decide +kernel), by decide +kernel, by decide +kernel⟩
abbrev mX6_refuseWithoutRoomFor : nM := (RX6, cX6_refuseWithoutRoomFor, 3, none, 6, 90, yX6_refuseWithoutRoomFor)
set_option maxRecDepth 100000 in
theorem cb_X6_refuseWithoutRoomFor : cxB mX6_refuseWithoutRoomFor 1 := ⟨wOK_1 39 (by decide +kernel) (by decide +kernel), wOK_1 838 (by decide +kernel) (by decide +kernel), by decide +kernel, by decide +kernel⟩
abbrev mX6_collect : nM := (RX6, cX6_collect, 5, some .int, 7, 161, yX6_collect)
set_option maxRecDepth 100000 in
theorem cb_X6_collect : cxB mX6_collect 1 := ⟨wOK_1 39 (by decide +kernel) (by decide +kernel), wOK_1 795 (by decide +kernel) (by decide +kernel), by decide +kernel, by decide +kernel⟩
abbrev mX6_cut : nM := (RX6, cX6_cut, 3, some .int, 6, 90, yX6_cut)
set_option maxRecDepth 100000 in
theorem cb_X6_cut : cxB mX6_cut 1 := ⟨wOK_1 39 (by decide +kernel) (by decide +kernel), wOK_1 331 (by decide +kernel) (by decide +kernel), by decide +kernel, by decide +kernel⟩
abbrev mX6_unitsToRead : nM := (RX6, cX6_unitsToRead, 5, some .int, 2, 44, yX6_unitsToRead)
set_option maxRecDepth 100000 in
theorem cb_X6_unitsToRead : cxB mX6_unitsToRead 2 := ⟨wOK_1 39 (by decide +kernel) (by decide +kernel), wOK_1 407 (by decide +kernel) (by decide +kernel), by decide +kernel, by decide +kernel⟩
abbrev mX6_mount : nM := (RX6, cX6_mount, 4, some .int, 5, 116, yX6_mount)
set_option maxRecDepth 100000 in
theorem cb_X6_mount : cxB mX6_mount 1 := ⟨wOK_1 39 (by decide +kernel) (by decide +kernel), wOK_1 403 (by decide +kernel) (by decide +kernel), by decide +kernel, by decide +kernel⟩
abbrev mX6_isDark : nM := (RX6, cX6_isDark, 1, some .boolean, 0, 0, yX6_isDark)
set_option maxRecDepth 100000 in
theorem cb_X6_isDark : cxB mX6_isDark 0 := ⟨wOK_1 39 (by decide +kernel) (by decide +kernel), wOK_1 546 (by decide +kernel) (by decide +kernel), by decide +kernel, by decide +kernel⟩
abbrev mX6_lookUp : nM := (RX6, cX6_lookUp, 5, some .int, 9, 154, yX6_lookUp)
set_option maxRecDepth 100000 in
theorem cb_X6_lookUp : cxB mX6_lookUp 2 := ⟨wOK_1 39 (by decide +kernel) (by decide +kernel), wOK_1 550 (by decide +kernel) (by decide +kernel), by decide +kernel, by decide +kernel⟩
abbrev mX6_names : nM := (RX6, cX6_names, 2, some .int, 9, 154, yX6_names)
set_option maxRecDepth 100000 in
theorem cb_X6_names : cxB mX6_names 1 := ⟨wOK_1 39 (by decide +kernel) (by decide +kernel), wOK_1 855 (by decide +kernel) (by decide +kernel), by decide +kernel, by decide +kernel⟩
abbrev mX6_nameAt : nM := (RX6, cX6_nameAt, 4, some .int, 9, 154, yX6_nameAt)
set_option maxRecDepth 100000 in
theorem cb_X6_nameAt : cxB mX6_nameAt 2 := ⟨wOK_1 39 (by decide +kernel) (by decide +kernel), wOK_1 859 (by decide +kernel) (by decide +kernel), by decide +kernel, by decide +kernel⟩
abbrev mX6_isDirectory : nM := (RX6, cX6_isDirectory, 2, some .boolean, 8, 132, yX6_isDirectory)
set_option maxRecDepth 100000 in
theorem cb_X6_isDirectory : cxB mX6_isDirectory 1 := ⟨wOK_1 39 (by decide +kernel) (by decide +kernel), wOK_1 919 (by decide +kernel) (by decide +kernel), by decide +kernel, by decide +kernel⟩
abbrev mX6_links : nM := (RX6, cX6_links, 2, some .int, 8, 132, yX6_links)
set_option maxRecDepth 100000 in
theorem cb_X6_links : cxB mX6_links 1 := ⟨wOK_1 39 (by decide +kernel) (by decide +kernel), wOK_1 915 (by decide +kernel) (by decide +kernel), by decide +kernel, by decide +kernel⟩
abbrev mX6_length : nM := (RX6, cX6_length, 2, some .int, 9, 154, yX6_length)
set_option maxRecDepth 100000 in
theorem cb_X6_length : cxB mX6_length 1 := ⟨wOK_1 39 (by decide +kernel) (by decide +kernel), wOK_1 869 (by decide +kernel) (by decide +kernel), by decide +kernel, by decide +kernel⟩
abbrev mX6_refuseWrongPlace : nM := (RX6, cX6_refuseWrongPlace, 3, none, 6, 90, yX6_refuseWrongPlace)
set_option maxRecDepth 100000 in
theorem cb_X6_refuseWrongPlace : cxB mX6_refuseWrongPlace 2 := ⟨wOK_1 39 (by decide +kernel) (by decide +kernel), wOK_1 927 (by decide +kernel) (by decide +kernel), by decide +kernel, by decide +kernel⟩
abbrev mX6_byteAt : nM := (RX6, cX6_byteAt, 4, some .int, 9, 154, yX6_byteAt)
set_option maxRecDepth 100000 in
theorem cb_X6_byteAt : cxB mX6_byteAt 2 := ⟨wOK_1 39 (by decide +kernel) (by decide +kernel), wOK_1 923 (by decide +kernel) (by decide +kernel), by decide +kernel, by decide +kernel⟩
abbrev mX6_byteByNodes : nM := (RX6, cX6_byteByNodes, 4, some .int, 9, 154, yX6_byteByNodes)
set_option maxRecDepth 100000 in
theorem cb_X6_byteByNodes : cxB mX6_byteByNodes 2 := ⟨wOK_1 39 (by decide +kernel) (by decide +kernel), wOK_1 935 (by decide +kernel) (by decide +kernel), by decide +kernel, by decide +kernel⟩
abbrev mX6_refuseWrongBlock : nM := (RX6, cX6_refuseWrongBlock, 2, none, 6, 90, yX6_refuseWrongBlock)
set_option maxRecDepth 100000 in
theorem cb_X6_refuseWrongBlock : cxB mX6_refuseWrongBlock 1 := ⟨wOK_1 39 (by decide +kernel) (by decide +kernel), wOK_1 610 (by decide +kernel) (by decide +kernel), by decide +kernel, by decide +kernel⟩
abbrev mX6_state : nM := (RX6, cX6_state, 2, some .int, 7, 134, yX6_state)
set_option maxRecDepth 100000 in
theorem cb_X6_state : cxB mX6_state 1 := ⟨wOK_1 39 (by decide +kernel) (by decide +kernel), wOK_1 606 (by decide +kernel) (by decide +kernel), by decide +kernel, by decide +kernel⟩
abbrev mL_find : nM := (RL, cL_find, 6, some .int, 0, 0, yL_find)
set_option maxRecDepth 100000 in
theorem cb_L_find : cxB mL_find 4 := ⟨wOK_1 38 (by decide +kernel) (by decide +kernel), wOK_1 658 (by decide +kernel) (by decide +kernel), by decide +kernel, by decide +kernel⟩
abbrev mL_isDirectory : nM := (RL, cL_isDirectory, 5, some .boolean, 0, 0, yL_isDirectory)
set_option maxRecDepth 100000 in
theorem cb_L_isDirectory : cxB mL_isDirectory 3 := ⟨wOK_1 38 (by decide +kernel) (by decide +kernel), wOK_1 661 (by decide +kernel) (by decide +kernel), by decide +kernel, by decide +kernel⟩
abbrev mL_links : nM := (RL, cL_links, 5, some .int, 0, 0, yL_links)
set_option maxRecDepth 100000 in
theorem cb_L_links : cxB mL_links 3 := ⟨wOK_1 38 (by decide +kernel) (by decide +kernel), wOK_1 664 (by decide +kernel) (by decide +kernel), by decide +kernel, by decide +kernel⟩
abbrev mL_namesIn : nM := (RL, cL_namesIn, 5, some .int, 0, 0, yL_namesIn)
set_option maxRecDepth 100000 in
theorem cb_L_namesIn : cxB mL_namesIn 3 := ⟨wOK_1 38 (by decide +kernel) (by decide +kernel), wOK_1 667 (by decide +kernel) (by decide +kernel), by decide +kernel, by decide +kernel⟩
abbrev mL_slot : nM := (RL, cL_slot, 5, some .int, 0, 0, yL_slot)
set_option maxRecDepth 100000 in
theorem cb_L_slot : cxB mL_slot 3 := ⟨wOK_1 38 (by decide +kernel) (by decide +kernel), wOK_1 670 (by decide +kernel) (by decide +kernel), by decide +kernel, by decide +kernel⟩
abbrev mL_adds : nM := (RL, cL_adds, 6, none, 0, 0, yL_adds)
set_option maxRecDepth 100000 in
theorem cb_L_adds : cxB mL_adds 6 := ⟨wOK_1 38 (by decide +kernel) (by decide +kernel), wOK_1 673 (by decide +kernel) (by decide +kernel), by decide +kernel, by decide +kernel⟩
abbrev mL_takes : nM := (RL, cL_takes, 10, none, 1, 24, yL_takes)
set_option maxRecDepth 100000 in
theorem cb_L_takes : cxB mL_takes 6 := ⟨wOK_1 38 (by decide +kernel) (by decide +kernel), wOK_1 676 (by decide +kernel) (by decide +kernel), by decide +kernel, by decide +kernel⟩
abbrev mL_opens : nM := (RL, cL_opens, 6, none, 0, 0, yL_opens)
set_option maxRecDepth 100000 in
theorem cb_L_opens : cxB mL_opens 5 := ⟨wOK_1 38 (by decide +kernel) (by decide +kernel), wOK_1 679 (by decide +kernel) (by decide +kernel), by decide +kernel, by decide +kernel⟩
abbrev mL_lays : nM := (RL, cL_lays, 7, none, 0, 0, yL_lays)
set_option maxRecDepth 100000 in
theorem cb_L_lays : cxB mL_lays 4 := ⟨wOK_1 38 (by decide +kernel) (by decide +kernel), wOK_1 682 (by decide +kernel) (by decide +kernel), by decide +kernel, by decide +kernel⟩
abbrev mL_byteAt : nM := (RL, cL_byteAt, 3, some .int, 0, 0, yL_byteAt)
set_option maxRecDepth 100000 in
theorem cb_L_byteAt : cxB mL_byteAt 3 := ⟨wOK_1 38 (by decide +kernel) (by decide +kernel), wOK_1 931 (by decide +kernel) (by decide +kernel), by decide +kernel, by decide +kernel⟩
abbrev mL_isInside : nM := (RL, cL_isInside, 11, some .boolean, 0, 0, yL_isInside)
set_option maxRecDepth 100000 in
theorem cb_L_isInside : cxB mL_isInside 4 := ⟨wOK_1 38 (by decide +kernel) (by decide +kernel), wOK_1 687 (by decide +kernel) (by decide +kernel), by decide +kernel, by decide +kernel⟩
abbrev mL_frees : nM := (RL, cL_frees, 3, some .int, 8, 155, yL_frees)
set_option maxRecDepth 100000 in
theorem cb_L_frees : cxB mL_frees 1 := ⟨wOK_1 38 (by decide +kernel) (by decide +kernel), wOK_1 908 (by decide +kernel) (by decide +kernel), by decide +kernel, by decide +kernel⟩
abbrev mL_isSystem : nM := (RL, cL_isSystem, 13, some .boolean, 11, 210, yL_isSystem)
set_option maxRecDepth 100000 in
theorem cb_L_isSystem : cxB mL_isSystem 7 := ⟨wOK_1 38 (by decide +kernel) (by decide +kernel), wOK_1 911 (by decide +kernel) (by decide +kernel), by decide +kernel, by decide +kernel⟩
abbrev mL_isMounted : nM := (RL, cL_isMounted, 5, some .boolean, 11, 210, yL_isMounted)
set_option maxRecDepth 100000 in
theorem cb_L_isMounted : cxB mL_isMounted 2 := ⟨wOK_1 38 (by decide +kernel) (by decide +kernel), wOK_1 941 (by decide +kernel) (by decide +kernel), by decide +kernel, by decide +kernel⟩
set_option maxRecDepth 100000 in
theorem gf_X6_10 (M : nM) (h : mOwn M = RX6) : gfOK M 10 6 0 := ⟨by decide, by decide, Or.inl (by rw [h]; exact wOK_1 312 (by decide +kernel) (by decide +kernel))⟩
set_option maxRecDepth 100000 in
theorem gf_X6_21 (M : nM) (h : mOwn M = RX6) : gfOK M 21 6 1 := ⟨by decide, by decide, Or.inl (by rw [h]; exact wOK_1 313 (by decide +kernel) (by decide +kernel))⟩
set_option maxRecDepth 100000 in
theorem gf_X6_28 (M : nM) (h : mOwn M = RX6) : gfOK M 28 6 2 := ⟨by decide, by decide, Or.inl (by rw [h]; exact wOK_1 314 (by decide +kernel) (by decide +kernel))⟩
set_option maxRecDepth 100000 in
theorem gf_X6_37 (M : nM) (h : mOwn M = RX6) : gfOK M 37 6 3 := ⟨by decide, by decide, Or.inl (by rw [h]; exact wOK_1 315 (by decide +kernel) (by decide +kernel))⟩
set_option maxRecDepth 100000 in
theorem gf_X6_44 (M : nM) (h : mOwn M = RX6) : gfOK M 44 6 4 := ⟨by decide, by decide, Or.inl (by rw [h]; exact wOK_1 316 (by decide +kernel) (by decide +kernel))⟩
set_option maxRecDepth 100000 in
theorem gf_X6_64 (M : nM) (h : mOwn M = RX6) : gfOK M 64 5 3 := ⟨by decide, by decide, Or.inr ⟨"Nodewash", by rw [h]; exact List.mem_of_getElem? (i := 276) (by decide +kernel)⟩⟩
set_option maxRecDepth 100000 in
theorem gf_X6_84 (M : nM) (h : mOwn M = RX6) : gfOK M 84 1 3 := ⟨by decide, by decide, Or.inr ⟨"Nodewash", by rw [h]; exact List.mem_of_getElem? (i := 237) (by decide +kernel)⟩⟩
set_option maxRecDepth 100000 in
theorem gf_X6_96 (M : nM) (h : mOwn M = RX6) : gfOK M 96 1 4 := ⟨by decide, by decide, Or.inr ⟨"Nodewash", by rw [h]; exact List.mem_of_getElem? (i := 240) (by decide +kernel)⟩⟩
set_option maxRecDepth 100000 in
theorem gf_X6_103 (M : nM) (h : mOwn M = RX6) : gfOK M 103 1 5 := ⟨by decide, by decide, Or.inr ⟨"Nodewash", by rw [h]; exact List.mem_of_getElem? (i := 243) (by decide +kernel)⟩⟩
set_option maxRecDepth 100000 in
theorem gf_X6_113 (M : nM) (h : mOwn M = RX6) : gfOK M 113 1 1 := ⟨by decide, by decide, Or.inr ⟨"Nodewash", by rw [h]; exact List.mem_of_getElem? (i := 232) (by decide +kernel)⟩⟩
set_option maxRecDepth 100000 in
theorem gf_X6_127 (M : nM) (h : mOwn M = RX6) : gfOK M 127 1 2 := ⟨by decide, by decide, Or.inr ⟨"Nodewash", by rw [h]; exact List.mem_of_getElem? (i := 235) (by decide +kernel)⟩⟩
set_option maxRecDepth 100000 in
theorem gf_X6_138 (M : nM) (h : mOwn M = RX6) : gfOK M 138 1 6 := ⟨by decide, by decide, Or.inr ⟨"Nodewash", by rw [h]; exact List.mem_of_getElem? (i := 246) (by decide +kernel)⟩⟩
set_option maxRecDepth 100000 in
theorem gf_X6_183 (M : nM) (h : mOwn M = RX6) : gfOK M 183 0 5 := ⟨by decide, by decide, Or.inr ⟨"Nodewash", by rw [h]; exact List.mem_of_getElem? (i := 148) (by decide +kernel)⟩⟩
set_option maxRecDepth 100000 in
theorem gf_X6_190 (M : nM) (h : mOwn M = RX6) : gfOK M 190 0 6 := ⟨by decide, by decide, Or.inr ⟨"Nodewash", by rw [h]; exact List.mem_of_getElem? (i := 149) (by decide +kernel)⟩⟩
set_option maxRecDepth 100000 in
theorem gf_X6_230 (M : nM) (h : mOwn M = RX6) : gfOK M 230 3 4 := ⟨by decide, by decide, Or.inr ⟨"Nodewash", by rw [h]; exact List.mem_of_getElem? (i := 179) (by decide +kernel)⟩⟩
set_option maxRecDepth 100000 in
theorem gf_X6_261 (M : nM) (h : mOwn M = RX6) : gfOK M 261 4 0 := ⟨by decide, by decide, Or.inr ⟨"Nodewash", by rw [h]; exact List.mem_of_getElem? (i := 77) (by decide +kernel)⟩⟩
set_option maxRecDepth 100000 in
theorem gf_X6_301 (M : nM) (h : mOwn M = RX6) : gfOK M 301 3 5 := ⟨by decide, by decide, Or.inr ⟨"Nodewash", by rw [h]; exact List.mem_of_getElem? (i := 181) (by decide +kernel)⟩⟩
set_option maxRecDepth 100000 in
theorem gf_X6_312 (M : nM) (h : mOwn M = RX6) : gfOK M 312 4 1 := ⟨by decide, by decide, Or.inr ⟨"Nodewash", by rw [h]; exact List.mem_of_getElem? (i := 81) (by decide +kernel)⟩⟩
set_option maxRecDepth 100000 in
theorem gf_X6_325 (M : nM) (h : mOwn M = RX6) : gfOK M 325 3 6 := ⟨by decide, by decide, Or.inr ⟨"Nodewash", by rw [h]; exact List.mem_of_getElem? (i := 183) (by decide +kernel)⟩⟩
set_option maxRecDepth 100000 in
theorem gf_X0_11 (M : nM) (h : mOwn M = RX0) : gfOK M 11 0 0 := ⟨by decide, by decide, Or.inl (by rw [h]; exact wOK_1 142 (by decide +kernel) (by decide +kernel))⟩
set_option maxRecDepth 100000 in
theorem gf_X0_17 (M : nM) (h : mOwn M = RX0) : gfOK M 17 0 1 := ⟨by decide, by decide, Or.inl (by rw [h]; exact wOK_1 143 (by decide +kernel) (by decide +kernel))⟩
set_option maxRecDepth 100000 in
theorem gf_X0_21 (M : nM) (h : mOwn M = RX0) : gfOK M 21 0 2 := ⟨by decide, by decide, Or.inl (by rw [h]; exact wOK_1 144 (by decide +kernel) (by decide +kernel))⟩
set_option maxRecDepth 100000 in
theorem gf_X0_24 (M : nM) (h : mOwn M = RX0) : gfOK M 24 0 3 := ⟨by decide, by decide, Or.inl (by rw [h]; exact wOK_1 145 (by decide +kernel) (by decide +kernel))⟩
set_option maxRecDepth 100000 in
theorem gf_X0_28 (M : nM) (h : mOwn M = RX0) : gfOK M 28 0 4 := ⟨by decide, by decide, Or.inl (by rw [h]; exact wOK_1 146 (by decide +kernel) (by decide +kernel))⟩
set_option maxRecDepth 100000 in
theorem gf_X0_32 (M : nM) (h : mOwn M = RX0) : gfOK M 32 0 5 := ⟨by decide, by decide, Or.inl (by rw [h]; exact wOK_1 147 (by decide +kernel) (by decide +kernel))⟩
set_option maxRecDepth 100000 in
theorem gf_X0_48 (M : nM) (h : mOwn M = RX0) : gfOK M 48 4 4 := ⟨by decide, by decide, Or.inr ⟨"Nodewash", by rw [h]; exact List.mem_of_getElem? (i := 91) (by decide +kernel)⟩⟩
set_option maxRecDepth 100000 in
theorem gf_X0_54 (M : nM) (h : mOwn M = RX0) : gfOK M 54 4 3 := ⟨by decide, by decide, Or.inr ⟨"Nodewash", by rw [h]; exact List.mem_of_getElem? (i := 87) (by decide +kernel)⟩⟩
set_option maxRecDepth 100000 in
theorem gf_X0_65 (M : nM) (h : mOwn M = RX0) : gfOK M 65 0 6 := ⟨by decide, by decide, Or.inl (by rw [h]; exact wOK_1 150 (by decide +kernel) (by decide +kernel))⟩
set_option maxRecDepth 100000 in
theorem gf_X0_69 (M : nM) (h : mOwn M = RX0) : gfOK M 69 4 1 := ⟨by decide, by decide, Or.inr ⟨"Nodewash", by rw [h]; exact List.mem_of_getElem? (i := 80) (by decide +kernel)⟩⟩
set_option maxRecDepth 100000 in
theorem gf_X0_80 (M : nM) (h : mOwn M = RX0) : gfOK M 80 4 2 := ⟨by decide, by decide, Or.inr ⟨"Nodewash", by rw [h]; exact List.mem_of_getElem? (i := 84) (by decide +kernel)⟩⟩
set_option maxRecDepth 100000 in
theorem gf_X1_9 (M : nM) (h : mOwn M = RX1) : gfOK M 9 1 0 := ⟨by decide, by decide, Or.inl (by rw [h]; exact wOK_1 229 (by decide +kernel) (by decide +kernel))⟩
set_option maxRecDepth 100000 in
theorem gf_X1_15 (M : nM) (h : mOwn M = RX1) : gfOK M 15 1 1 := ⟨by decide, by decide, Or.inl (by rw [h]; exact wOK_1 230 (by decide +kernel) (by decide +kernel))⟩
set_option maxRecDepth 100000 in
theorem gf_X1_19 (M : nM) (h : mOwn M = RX1) : gfOK M 19 1 2 := ⟨by decide, by decide, Or.inl (by rw [h]; exact wOK_1 233 (by decide +kernel) (by decide +kernel))⟩
set_option maxRecDepth 100000 in
theorem gf_X1_23 (M : nM) (h : mOwn M = RX1) : gfOK M 23 1 3 := ⟨by decide, by decide, Or.inl (by rw [h]; exact wOK_1 236 (by decide +kernel) (by decide +kernel))⟩
set_option maxRecDepth 100000 in
theorem gf_X1_26 (M : nM) (h : mOwn M = RX1) : gfOK M 26 1 4 := ⟨by decide, by decide, Or.inl (by rw [h]; exact wOK_1 239 (by decide +kernel) (by decide +kernel))⟩
set_option maxRecDepth 100000 in
theorem gf_X1_29 (M : nM) (h : mOwn M = RX1) : gfOK M 29 1 5 := ⟨by decide, by decide, Or.inl (by rw [h]; exact wOK_1 242 (by decide +kernel) (by decide +kernel))⟩
set_option maxRecDepth 100000 in
theorem gf_X1_32 (M : nM) (h : mOwn M = RX1) : gfOK M 32 1 6 := ⟨by decide, by decide, Or.inl (by rw [h]; exact wOK_1 245 (by decide +kernel) (by decide +kernel))⟩
set_option maxRecDepth 100000 in
theorem gf_X1_35 (M : nM) (h : mOwn M = RX1) : gfOK M 35 4 9 := ⟨by decide, by decide, Or.inr ⟨"Nodewash", by rw [h]; exact List.mem_of_getElem? (i := 102) (by decide +kernel)⟩⟩
set_option maxRecDepth 100000 in
theorem gf_X1_50 (M : nM) (h : mOwn M = RX1) : gfOK M 50 4 4 := ⟨by decide, by decide, Or.inr ⟨"Nodewash", by rw [h]; exact List.mem_of_getElem? (i := 90) (by decide +kernel)⟩⟩
set_option maxRecDepth 100000 in
theorem gf_X2_11 (M : nM) (h : mOwn M = RX2) : gfOK M 11 2 2 := ⟨by decide, by decide, Or.inl (by rw [h]; exact wOK_1 296 (by decide +kernel) (by decide +kernel))⟩
set_option maxRecDepth 100000 in
theorem gf_X2_18 (M : nM) (h : mOwn M = RX2) : gfOK M 18 2 3 := ⟨by decide, by decide, Or.inl (by rw [h]; exact wOK_1 297 (by decide +kernel) (by decide +kernel))⟩
set_option maxRecDepth 100000 in
theorem gf_X2_22 (M : nM) (h : mOwn M = RX2) : gfOK M 22 2 0 := ⟨by decide, by decide, Or.inl (by rw [h]; exact wOK_1 294 (by decide +kernel) (by decide +kernel))⟩
set_option maxRecDepth 100000 in
theorem gf_X2_26 (M : nM) (h : mOwn M = RX2) : gfOK M 26 2 1 := ⟨by decide, by decide, Or.inl (by rw [h]; exact wOK_1 295 (by decide +kernel) (by decide +kernel))⟩
set_option maxRecDepth 100000 in
theorem gf_X2_30 (M : nM) (h : mOwn M = RX2) : gfOK M 30 4 3 := ⟨by decide, by decide, Or.inr ⟨"Nodewash", by rw [h]; exact List.mem_of_getElem? (i := 85) (by decide +kernel)⟩⟩
set_option maxRecDepth 100000 in
theorem gf_X2_34 (M : nM) (h : mOwn M = RX2) : gfOK M 34 4 0 := ⟨by decide, by decide, Or.inr ⟨"Nodewash", by rw [h]; exact List.mem_of_getElem? (i := 75) (by decide +kernel)⟩⟩
set_option maxRecDepth 100000 in
theorem gf_X2_43 (M : nM) (h : mOwn M = RX2) : gfOK M 43 4 10 := ⟨by decide, by decide, Or.inr ⟨"Nodewash", by rw [h]; exact List.mem_of_getElem? (i := 103) (by decide +kernel)⟩⟩
set_option maxRecDepth 100000 in
theorem gf_X2_46 (M : nM) (h : mOwn M = RX2) : gfOK M 46 4 5 := ⟨by decide, by decide, Or.inr ⟨"Nodewash", by rw [h]; exact List.mem_of_getElem? (i := 95) (by decide +kernel)⟩⟩
set_option maxRecDepth 100000 in
theorem gf_X2_60 (M : nM) (h : mOwn M = RX2) : gfOK M 60 4 8 := ⟨by decide, by decide, Or.inr ⟨"Nodewash", by rw [h]; exact List.mem_of_getElem? (i := 100) (by decide +kernel)⟩⟩
set_option maxRecDepth 100000 in
theorem gf_X2_89 (M : nM) (h : mOwn M = RX2) : gfOK M 89 4 2 := ⟨by decide, by decide, Or.inr ⟨"Nodewash", by rw [h]; exact List.mem_of_getElem? (i := 83) (by decide +kernel)⟩⟩
set_option maxRecDepth 100000 in
theorem gf_X2_92 (M : nM) (h : mOwn M = RX2) : gfOK M 92 2 4 := ⟨by decide, by decide, Or.inl (by rw [h]; exact wOK_1 298 (by decide +kernel) (by decide +kernel))⟩
set_option maxRecDepth 100000 in
theorem gf_X2_95 (M : nM) (h : mOwn M = RX2) : gfOK M 95 4 12 := ⟨by decide, by decide, Or.inr ⟨"Nodewash", by rw [h]; exact List.mem_of_getElem? (i := 109) (by decide +kernel)⟩⟩
set_option maxRecDepth 100000 in
theorem gf_X2_103 (M : nM) (h : mOwn M = RX2) : gfOK M 103 4 13 := ⟨by decide, by decide, Or.inr ⟨"Nodewash", by rw [h]; exact List.mem_of_getElem? (i := 111) (by decide +kernel)⟩⟩
set_option maxRecDepth 100000 in
theorem gf_X2_123 (M : nM) (h : mOwn M = RX2) : gfOK M 123 4 4 := ⟨by decide, by decide, Or.inr ⟨"Nodewash", by rw [h]; exact List.mem_of_getElem? (i := 93) (by decide +kernel)⟩⟩
set_option maxRecDepth 100000 in
theorem gf_X3_12 (M : nM) (h : mOwn M = RX3) : gfOK M 12 3 1 := ⟨by decide, by decide, Or.inl (by rw [h]; exact wOK_1 175 (by decide +kernel) (by decide +kernel))⟩
set_option maxRecDepth 100000 in
theorem gf_X3_18 (M : nM) (h : mOwn M = RX3) : gfOK M 18 3 2 := ⟨by decide, by decide, Or.inl (by rw [h]; exact wOK_1 176 (by decide +kernel) (by decide +kernel))⟩
set_option maxRecDepth 100000 in
theorem gf_X3_22 (M : nM) (h : mOwn M = RX3) : gfOK M 22 3 3 := ⟨by decide, by decide, Or.inl (by rw [h]; exact wOK_1 177 (by decide +kernel) (by decide +kernel))⟩
set_option maxRecDepth 100000 in
theorem gf_X3_25 (M : nM) (h : mOwn M = RX3) : gfOK M 25 3 4 := ⟨by decide, by decide, Or.inl (by rw [h]; exact wOK_1 178 (by decide +kernel) (by decide +kernel))⟩
set_option maxRecDepth 100000 in
theorem gf_X3_29 (M : nM) (h : mOwn M = RX3) : gfOK M 29 3 0 := ⟨by decide, by decide, Or.inl (by rw [h]; exact wOK_1 174 (by decide +kernel) (by decide +kernel))⟩
set_option maxRecDepth 100000 in
theorem gf_X3_33 (M : nM) (h : mOwn M = RX3) : gfOK M 33 3 5 := ⟨by decide, by decide, Or.inl (by rw [h]; exact wOK_1 180 (by decide +kernel) (by decide +kernel))⟩
set_option maxRecDepth 100000 in
theorem gf_X3_36 (M : nM) (h : mOwn M = RX3) : gfOK M 36 3 6 := ⟨by decide, by decide, Or.inl (by rw [h]; exact wOK_1 182 (by decide +kernel) (by decide +kernel))⟩
set_option maxRecDepth 100000 in
theorem gf_X3_45 (M : nM) (h : mOwn M = RX3) : gfOK M 45 3 7 := ⟨by decide, by decide, Or.inl (by rw [h]; exact wOK_1 184 (by decide +kernel) (by decide +kernel))⟩
set_option maxRecDepth 100000 in
theorem gf_X3_51 (M : nM) (h : mOwn M = RX3) : gfOK M 51 3 8 := ⟨by decide, by decide, Or.inl (by rw [h]; exact wOK_1 185 (by decide +kernel) (by decide +kernel))⟩
set_option maxRecDepth 100000 in
theorem gf_X3_54 (M : nM) (h : mOwn M = RX3) : gfOK M 54 3 9 := ⟨by decide, by decide, Or.inl (by rw [h]; exact wOK_1 186 (by decide +kernel) (by decide +kernel))⟩
set_option maxRecDepth 100000 in
theorem gf_X3_61 (M : nM) (h : mOwn M = RX3) : gfOK M 61 4 1 := ⟨by decide, by decide, Or.inr ⟨"Nodewash", by rw [h]; exact List.mem_of_getElem? (i := 79) (by decide +kernel)⟩⟩
set_option maxRecDepth 100000 in
theorem gf_X3_100 (M : nM) (h : mOwn M = RX3) : gfOK M 100 4 0 := ⟨by decide, by decide, Or.inr ⟨"Nodewash", by rw [h]; exact List.mem_of_getElem? (i := 76) (by decide +kernel)⟩⟩
set_option maxRecDepth 100000 in
theorem gf_X4_9 (M : nM) (h : mOwn M = RX4) : gfOK M 9 4 0 := ⟨by decide, by decide, Or.inl (by rw [h]; exact wOK_1 74 (by decide +kernel) (by decide +kernel))⟩
set_option maxRecDepth 100000 in
theorem gf_X4_15 (M : nM) (h : mOwn M = RX4) : gfOK M 15 4 1 := ⟨by decide, by decide, Or.inl (by rw [h]; exact wOK_1 78 (by decide +kernel) (by decide +kernel))⟩
set_option maxRecDepth 100000 in
theorem gf_X4_18 (M : nM) (h : mOwn M = RX4) : gfOK M 18 4 2 := ⟨by decide, by decide, Or.inl (by rw [h]; exact wOK_1 82 (by decide +kernel) (by decide +kernel))⟩
set_option maxRecDepth 100000 in
theorem gf_X4_21 (M : nM) (h : mOwn M = RX4) : gfOK M 21 4 3 := ⟨by decide, by decide, Or.inl (by rw [h]; exact wOK_1 86 (by decide +kernel) (by decide +kernel))⟩
set_option maxRecDepth 100000 in
theorem gf_X4_24 (M : nM) (h : mOwn M = RX4) : gfOK M 24 4 4 := ⟨by decide, by decide, Or.inl (by rw [h]; exact wOK_1 89 (by decide +kernel) (by decide +kernel))⟩
set_option maxRecDepth 100000 in
theorem gf_X4_27 (M : nM) (h : mOwn M = RX4) : gfOK M 27 4 5 := ⟨by decide, by decide, Or.inl (by rw [h]; exact wOK_1 94 (by decide +kernel) (by decide +kernel))⟩
set_option maxRecDepth 100000 in
theorem gf_X4_30 (M : nM) (h : mOwn M = RX4) : gfOK M 30 4 6 := ⟨by decide, by decide, Or.inl (by rw [h]; exact wOK_1 97 (by decide +kernel) (by decide +kernel))⟩
set_option maxRecDepth 100000 in
theorem gf_X4_33 (M : nM) (h : mOwn M = RX4) : gfOK M 33 4 7 := ⟨by decide, by decide, Or.inl (by rw [h]; exact wOK_1 98 (by decide +kernel) (by decide +kernel))⟩
set_option maxRecDepth 100000 in
theorem gf_X4_37 (M : nM) (h : mOwn M = RX4) : gfOK M 37 4 8 := ⟨by decide, by decide, Or.inl (by rw [h]; exact wOK_1 99 (by decide +kernel) (by decide +kernel))⟩
set_option maxRecDepth 100000 in
theorem gf_X4_40 (M : nM) (h : mOwn M = RX4) : gfOK M 40 4 9 := ⟨by decide, by decide, Or.inl (by rw [h]; exact wOK_1 101 (by decide +kernel) (by decide +kernel))⟩
set_option maxRecDepth 100000 in
theorem gf_X4_43 (M : nM) (h : mOwn M = RX4) : gfOK M 43 4 10 := ⟨by decide, by decide, Or.inl (by rw [h]; exact wOK_1 104 (by decide +kernel) (by decide +kernel))⟩
set_option maxRecDepth 100000 in
theorem gf_X4_46 (M : nM) (h : mOwn M = RX4) : gfOK M 46 4 11 := ⟨by decide, by decide, Or.inl (by rw [h]; exact wOK_1 106 (by decide +kernel) (by decide +kernel))⟩
set_option maxRecDepth 100000 in
theorem gf_X4_50 (M : nM) (h : mOwn M = RX4) : gfOK M 50 4 12 := ⟨by decide, by decide, Or.inl (by rw [h]; exact wOK_1 108 (by decide +kernel) (by decide +kernel))⟩
set_option maxRecDepth 100000 in
theorem gf_X4_53 (M : nM) (h : mOwn M = RX4) : gfOK M 53 4 13 := ⟨by decide, by decide, Or.inl (by rw [h]; exact wOK_1 110 (by decide +kernel) (by decide +kernel))⟩
set_option maxRecDepth 100000 in
theorem gf_X5_13 (M : nM) (h : mOwn M = RX5) : gfOK M 13 5 0 := ⟨by decide, by decide, Or.inl (by rw [h]; exact wOK_1 272 (by decide +kernel) (by decide +kernel))⟩
set_option maxRecDepth 100000 in
theorem gf_X5_17 (M : nM) (h : mOwn M = RX5) : gfOK M 17 5 1 := ⟨by decide, by decide, Or.inl (by rw [h]; exact wOK_1 273 (by decide +kernel) (by decide +kernel))⟩
set_option maxRecDepth 100000 in
theorem gf_X5_23 (M : nM) (h : mOwn M = RX5) : gfOK M 23 5 2 := ⟨by decide, by decide, Or.inl (by rw [h]; exact wOK_1 274 (by decide +kernel) (by decide +kernel))⟩
set_option maxRecDepth 100000 in
theorem gf_X5_27 (M : nM) (h : mOwn M = RX5) : gfOK M 27 5 3 := ⟨by decide, by decide, Or.inl (by rw [h]; exact wOK_1 275 (by decide +kernel) (by decide +kernel))⟩
set_option maxRecDepth 100000 in
theorem gf_X5_38 (M : nM) (h : mOwn M = RX5) : gfOK M 38 1 1 := ⟨by decide, by decide, Or.inr ⟨"Nodewash", by rw [h]; exact List.mem_of_getElem? (i := 231) (by decide +kernel)⟩⟩
set_option maxRecDepth 100000 in
theorem gf_X5_44 (M : nM) (h : mOwn M = RX5) : gfOK M 44 1 2 := ⟨by decide, by decide, Or.inr ⟨"Nodewash", by rw [h]; exact List.mem_of_getElem? (i := 234) (by decide +kernel)⟩⟩
set_option maxRecDepth 100000 in
theorem gf_X5_67 (M : nM) (h : mOwn M = RX5) : gfOK M 67 1 4 := ⟨by decide, by decide, Or.inr ⟨"Nodewash", by rw [h]; exact List.mem_of_getElem? (i := 241) (by decide +kernel)⟩⟩
set_option maxRecDepth 100000 in
theorem gf_X5_70 (M : nM) (h : mOwn M = RX5) : gfOK M 70 1 5 := ⟨by decide, by decide, Or.inr ⟨"Nodewash", by rw [h]; exact List.mem_of_getElem? (i := 244) (by decide +kernel)⟩⟩
set_option maxRecDepth 100000 in
theorem gf_X5_77 (M : nM) (h : mOwn M = RX5) : gfOK M 77 1 7 := ⟨by decide, by decide, Or.inr ⟨"Nodewash", by rw [h]; exact List.mem_of_getElem? (i := 247) (by decide +kernel)⟩⟩
set_option maxRecDepth 100000 in
theorem gf_X5_103 (M : nM) (h : mOwn M = RX5) : gfOK M 103 4 3 := ⟨by decide, by decide, Or.inr ⟨"Nodewash", by rw [h]; exact List.mem_of_getElem? (i := 88) (by decide +kernel)⟩⟩
set_option maxRecDepth 100000 in
theorem gf_X5_104 (M : nM) (h : mOwn M = RX5) : gfOK M 104 4 10 := ⟨by decide, by decide, Or.inr ⟨"Nodewash", by rw [h]; exact List.mem_of_getElem? (i := 105) (by decide +kernel)⟩⟩
set_option maxRecDepth 100000 in
theorem gf_X5_111 (M : nM) (h : mOwn M = RX5) : gfOK M 111 1 3 := ⟨by decide, by decide, Or.inr ⟨"Nodewash", by rw [h]; exact List.mem_of_getElem? (i := 238) (by decide +kernel)⟩⟩
set_option maxRecDepth 100000 in
theorem gf_X5_114 (M : nM) (h : mOwn M = RX5) : gfOK M 114 4 4 := ⟨by decide, by decide, Or.inr ⟨"Nodewash", by rw [h]; exact List.mem_of_getElem? (i := 92) (by decide +kernel)⟩⟩
set_option maxRecDepth 100000 in
theorem gf_X5_115 (M : nM) (h : mOwn M = RX5) : gfOK M 115 4 5 := ⟨by decide, by decide, Or.inr ⟨"Nodewash", by rw [h]; exact List.mem_of_getElem? (i := 96) (by decide +kernel)⟩⟩
set_option maxRecDepth 100000 in
theorem gf_X5_123 (M : nM) (h : mOwn M = RX5) : gfOK M 123 4 11 := ⟨by decide, by decide, Or.inr ⟨"Nodewash", by rw [h]; exact List.mem_of_getElem? (i := 107) (by decide +kernel)⟩⟩
set_option maxRecDepth 100000 in
theorem co_X6_1 (M : nM) (h : mOwn M = RX6) : wOK (.methodLink (mOwn M) 1 Lib.objectInit) ∧ wOK (.instanceMethod Lib.objectInit) ∧ wOK (.code Lib.objectInit ⟨#[0xb1]⟩ 1 none) := ⟨by rw [h]; exact wOK_1 58 (by decide +kernel) (by decide +kernel), wOK_1 59 (by decide +kernel) (by decide +kernel), wOK_1 60 (by decide +kernel) (by decide +kernel)⟩
set_option maxRecDepth 100000 in
theorem cw_X6_9 (M : nM) (h : mOwn M = RX6) : cxI M 9 mX0_init 0 := ⟨Or.inl (by rw [h]; exact wOK_1 63 (by decide +kernel) (by decide +kernel)), wOK_1 64 (by decide +kernel) (by decide +kernel), rfl, rfl, cb_X0_init⟩
set_option maxRecDepth 100000 in
theorem cw_X6_18 (M : nM) (h : mOwn M = RX6) : cxI M 18 mX3_init 1 := ⟨Or.inl (by rw [h]; exact wOK_1 168 (by decide +kernel) (by decide +kernel)), wOK_1 169 (by decide +kernel) (by decide +kernel), rfl, rfl, cb_X3_init⟩
set_option maxRecDepth 100000 in
theorem cw_X6_27 (M : nM) (h : mOwn M = RX6) : cxI M 27 mX5_init 0 := ⟨Or.inl (by rw [h]; exact wOK_1 210 (by decide +kernel) (by decide +kernel)), wOK_1 211 (by decide +kernel) (by decide +kernel), rfl, rfl, cb_X5_init⟩
set_option maxRecDepth 100000 in
theorem cw_X6_34 (M : nM) (h : mOwn M = RX6) : cxI M 34 mX2_init 2 := ⟨Or.inl (by rw [h]; exact wOK_1 288 (by decide +kernel) (by decide +kernel)), wOK_1 289 (by decide +kernel) (by decide +kernel), rfl, rfl, cb_X2_init⟩
set_option maxRecDepth 100000 in
theorem cw_X6_43 (M : nM) (h : mOwn M = RX6) : cxI M 43 mX4_init 0 := ⟨Or.inr ⟨"Nodewash", by rw [h]; exact List.mem_of_getElem? (i := 311) (by decide +kernel)⟩, wOK_1 71 (by decide +kernel) (by decide +kernel), rfl, rfl, cb_X4_init⟩
set_option maxRecDepth 100000 in
theorem cw_X6_48 (M : nM) (h : mOwn M = RX6) : cxV M 48 mX6_directoryThere (cTab 6).1 1 := ⟨by rw [h]; exact wOK_1 551 (by decide +kernel) (by decide +kernel), wOK_1 553 (by decide +kernel) (by decide +kernel), wOK_1 11 (by decide +kernel) (by decide +kernel), cb_X6_directoryThere⟩
set_option maxRecDepth 100000 in
theorem cw_X6_52 (M : nM) (h : mOwn M = RX6) : cxV M 52 mX6_refuseWrongName (cTab 6).1 1 := ⟨by rw [h]; exact wOK_1 597 (by decide +kernel) (by decide +kernel), wOK_1 599 (by decide +kernel) (by decide +kernel), wOK_1 14 (by decide +kernel) (by decide +kernel), cb_X6_refuseWrongName⟩
set_option maxRecDepth 100000 in
theorem cw_X6_56 (M : nM) (h : mOwn M = RX6) : cxV M 56 mX6_refuseTakenName (cTab 6).1 2 := ⟨by rw [h]; exact wOK_1 698 (by decide +kernel) (by decide +kernel), wOK_1 700 (by decide +kernel) (by decide +kernel), wOK_1 18 (by decide +kernel) (by decide +kernel), cb_X6_refuseTakenName⟩
set_option maxRecDepth 100000 in
theorem cw_X6_60 (M : nM) (h : mOwn M = RX6) : cxV M 60 mX6_refuseWithoutRoom (cTab 6).1 2 := ⟨by rw [h]; exact wOK_1 703 (by decide +kernel) (by decide +kernel), wOK_1 705 (by decide +kernel) (by decide +kernel), wOK_1 19 (by decide +kernel) (by decide +kernel), cb_X6_refuseWithoutRoom⟩
set_option maxRecDepth 100000 in
theorem cw_X6_68 (M : nM) (h : mOwn M = RX6) : cxV M 68 mX4_becomeData (cTab 4).1 4 := ⟨by rw [h]; exact wOK_1 716 (by decide +kernel) (by decide +kernel), wOK_1 717 (by decide +kernel) (by decide +kernel), wOK_1 718 (by decide +kernel) (by decide +kernel), cb_X4_becomeData⟩
set_option maxRecDepth 100000 in
theorem cw_X6_72 (M : nM) (h : mOwn M = RX6) : cxV M 72 mX3_put (cTab 3).1 1 := ⟨by rw [h]; exact wOK_1 721 (by decide +kernel) (by decide +kernel), wOK_1 722 (by decide +kernel) (by decide +kernel), wOK_1 723 (by decide +kernel) (by decide +kernel), cb_X3_put⟩
set_option maxRecDepth 100000 in
theorem cw_X6_76 (M : nM) (h : mOwn M = RX6) : cxV M 76 mX6_putName (cTab 6).1 4 := ⟨by rw [h]; exact wOK_1 749 (by decide +kernel) (by decide +kernel), wOK_1 751 (by decide +kernel) (by decide +kernel), wOK_1 23 (by decide +kernel) (by decide +kernel), cb_X6_putName⟩
set_option maxRecDepth 100000 in
theorem cw_X6_80 (M : nM) (h : mOwn M = RX6) : cxV M 80 mX5_add (cTab 5).1 2 := ⟨by rw [h]; exact wOK_1 757 (by decide +kernel) (by decide +kernel), wOK_1 221 (by decide +kernel) (by decide +kernel), wOK_1 222 (by decide +kernel) (by decide +kernel), cb_X5_add⟩
set_option maxRecDepth 100000 in
theorem cw_X6_89 (M : nM) (h : mOwn M = RX6) : cxV M 89 mX5_assign (cTab 5).1 3 := ⟨by rw [h]; exact wOK_1 758 (by decide +kernel) (by decide +kernel), wOK_1 488 (by decide +kernel) (by decide +kernel), wOK_1 489 (by decide +kernel) (by decide +kernel), cb_X5_assign⟩
set_option maxRecDepth 100000 in
theorem cw_X6_93 (M : nM) (h : mOwn M = RX6) : cxV M 93 mX6_fileThere (cTab 6).1 1 := ⟨by rw [h]; exact wOK_1 767 (by decide +kernel) (by decide +kernel), wOK_1 769 (by decide +kernel) (by decide +kernel), wOK_1 24 (by decide +kernel) (by decide +kernel), cb_X6_fileThere⟩
set_option maxRecDepth 100000 in
theorem cw_X6_99 (M : nM) (h : mOwn M = RX6) : cxV M 99 mX6_itemNamed (cTab 6).1 2 := ⟨by rw [h]; exact wOK_1 776 (by decide +kernel) (by decide +kernel), wOK_1 778 (by decide +kernel) (by decide +kernel), wOK_1 25 (by decide +kernel) (by decide +kernel), cb_X6_itemNamed⟩
set_option maxRecDepth 100000 in
theorem cw_X6_116 (M : nM) (h : mOwn M = RX6) : cxV M 116 mX1_cell (cTab 1).1 1 := ⟨by rw [h]; exact wOK_1 602 (by decide +kernel) (by decide +kernel), wOK_1 492 (by decide +kernel) (by decide +kernel), wOK_1 493 (by decide +kernel) (by decide +kernel), cb_X1_cell⟩
set_option maxRecDepth 100000 in
theorem cw_X6_120 (M : nM) (h : mOwn M = RX6) : cxV M 120 mX5_find (cTab 5).1 1 := ⟨by rw [h]; exact wOK_1 579 (by decide +kernel) (by decide +kernel), wOK_1 484 (by decide +kernel) (by decide +kernel), wOK_1 485 (by decide +kernel) (by decide +kernel), cb_X5_find⟩
set_option maxRecDepth 100000 in
theorem cw_X6_123 (M : nM) (h : mOwn M = RX6) : cxV M 123 mX6_refuseWrongMove (cTab 6).1 3 := ⟨by rw [h]; exact wOK_1 877 (by decide +kernel) (by decide +kernel), wOK_1 879 (by decide +kernel) (by decide +kernel), wOK_1 35 (by decide +kernel) (by decide +kernel), cb_X6_refuseWrongMove⟩
set_option maxRecDepth 100000 in
theorem cw_X6_141 (M : nM) (h : mOwn M = RX6) : cxS M 141 mJ9_max 2 := ⟨by rw [h]; exact wOK_1 901 (by decide +kernel) (by decide +kernel), wOK_1 270 (by decide +kernel) (by decide +kernel), cb_J9_max⟩
set_option maxRecDepth 100000 in
theorem cw_X6_147 (M : nM) (h : mOwn M = RX6) : cxV M 147 mX4_giveBytes (cTab 4).1 2 := ⟨by rw [h]; exact wOK_1 902 (by decide +kernel) (by decide +kernel), wOK_1 903 (by decide +kernel) (by decide +kernel), wOK_1 904 (by decide +kernel) (by decide +kernel), cb_X4_giveBytes⟩
set_option maxRecDepth 100000 in
theorem cw_X6_151 (M : nM) (h : mOwn M = RX6) : cxV M 151 mX6_putContent (cTab 6).1 1 := ⟨by rw [h]; exact wOK_1 787 (by decide +kernel) (by decide +kernel), wOK_1 789 (by decide +kernel) (by decide +kernel), wOK_1 26 (by decide +kernel) (by decide +kernel), cb_X6_putContent⟩
set_option maxRecDepth 100000 in
theorem cw_X6_157 (M : nM) (h : mOwn M = RX6) : cxV M 157 mX6_refuseInDark (cTab 6).1 0 := ⟨by rw [h]; exact wOK_1 559 (by decide +kernel) (by decide +kernel), wOK_1 561 (by decide +kernel) (by decide +kernel), wOK_1 13 (by decide +kernel) (by decide +kernel), cb_X6_refuseInDark⟩
set_option maxRecDepth 100000 in
theorem cw_X6_162 (M : nM) (h : mOwn M = RX6) : cxV M 162 mX6_victim (cTab 6).1 1 := ⟨by rw [h]; exact wOK_1 797 (by decide +kernel) (by decide +kernel), wOK_1 799 (by decide +kernel) (by decide +kernel), wOK_1 27 (by decide +kernel) (by decide +kernel), cb_X6_victim⟩
set_option maxRecDepth 100000 in
theorem cw_X6_167 (M : nM) (h : mOwn M = RX6) : cxV M 167 mX2_choose (cTab 2).1 1 := ⟨by rw [h]; exact wOK_1 809 (by decide +kernel) (by decide +kernel), wOK_1 810 (by decide +kernel) (by decide +kernel), wOK_1 811 (by decide +kernel) (by decide +kernel), cb_X2_choose⟩
set_option maxRecDepth 100000 in
theorem cw_X6_170 (M : nM) (h : mOwn M = RX6) : cxV M 170 mX6_refuseWithoutRoomFor (cTab 6).1 1 := ⟨by rw [h]; exact wOK_1 835 (by decide +kernel) (by decide +kernel), wOK_1 837 (by decide +kernel) (by decide +kernel), wOK_1 33 (by decide +kernel) (by decide +kernel), cb_X6_refuseWithoutRoomFor⟩
set_option maxRecDepth 100000 in
theorem cw_X6_173 (M : nM) (h : mOwn M = RX6) : cxV M 173 mX2_chosenAt (cTab 2).1 1 := ⟨by rw [h]; exact wOK_1 839 (by decide +kernel) (by decide +kernel), wOK_1 840 (by decide +kernel) (by decide +kernel), wOK_1 841 (by decide +kernel) (by decide +kernel), cb_X2_chosenAt⟩
set_option maxRecDepth 100000 in
theorem cw_X6_177 (M : nM) (h : mOwn M = RX6) : cxV M 177 mX3_freeClosed (cTab 3).1 1 := ⟨by rw [h]; exact wOK_1 844 (by decide +kernel) (by decide +kernel), wOK_1 845 (by decide +kernel) (by decide +kernel), wOK_1 846 (by decide +kernel) (by decide +kernel), cb_X3_freeClosed⟩
set_option maxRecDepth 100000 in
theorem cw_X6_186 (M : nM) (h : mOwn M = RX6) : cxV M 186 mX6_unitsToRead (cTab 6).1 2 := ⟨by rw [h]; exact wOK_1 404 (by decide +kernel) (by decide +kernel), wOK_1 406 (by decide +kernel) (by decide +kernel), wOK_1 2 (by decide +kernel) (by decide +kernel), cb_X6_unitsToRead⟩
set_option maxRecDepth 100000 in
theorem cw_X6_193 (M : nM) (h : mOwn M = RX6) : cxV M 193 mX3_restart (cTab 3).1 0 := ⟨by rw [h]; exact wOK_1 432 (by decide +kernel) (by decide +kernel), wOK_1 433 (by decide +kernel) (by decide +kernel), wOK_1 434 (by decide +kernel) (by decide +kernel), cb_X3_restart⟩
set_option maxRecDepth 100000 in
theorem cw_X6_196 (M : nM) (h : mOwn M = RX6) : cxV M 196 mX5_restart (cTab 5).1 1 := ⟨by rw [h]; exact wOK_1 456 (by decide +kernel) (by decide +kernel), wOK_1 457 (by decide +kernel) (by decide +kernel), wOK_1 458 (by decide +kernel) (by decide +kernel), cb_X5_restart⟩
set_option maxRecDepth 100000 in
theorem cw_X6_198 (M : nM) (h : mOwn M = RX6) : cxV M 198 mX3_eraseBroken (cTab 3).1 0 := ⟨by rw [h]; exact wOK_1 526 (by decide +kernel) (by decide +kernel), wOK_1 527 (by decide +kernel) (by decide +kernel), wOK_1 528 (by decide +kernel) (by decide +kernel), cb_X3_eraseBroken⟩
set_option maxRecDepth 100000 in
theorem cw_X6_207 (M : nM) (h : mOwn M = RX6) : cxV M 207 mX1_nameBehind (cTab 1).1 1 := ⟨by rw [h]; exact wOK_1 861 (by decide +kernel) (by decide +kernel), wOK_1 862 (by decide +kernel) (by decide +kernel), wOK_1 863 (by decide +kernel) (by decide +kernel), cb_X1_nameBehind⟩
set_option maxRecDepth 100000 in
theorem cw_X6_210 (M : nM) (h : mOwn M = RX6) : cxV M 210 mX6_itemThere (cTab 6).1 1 := ⟨by rw [h]; exact wOK_1 555 (by decide +kernel) (by decide +kernel), wOK_1 557 (by decide +kernel) (by decide +kernel), wOK_1 12 (by decide +kernel) (by decide +kernel), cb_X6_itemThere⟩
set_option maxRecDepth 100000 in
theorem cw_X6_213 (M : nM) (h : mOwn M = RX6) : cxV M 213 mX6_refuseWrongPlace (cTab 6).1 2 := ⟨by rw [h]; exact wOK_1 924 (by decide +kernel) (by decide +kernel), wOK_1 926 (by decide +kernel) (by decide +kernel), wOK_1 37 (by decide +kernel) (by decide +kernel), cb_X6_refuseWrongPlace⟩
set_option maxRecDepth 100000 in
theorem cw_X6_217 (M : nM) (h : mOwn M = RX6) : cxV M 217 mX0_newest (cTab 0).1 4 := ⟨by rw [h]; exact wOK_1 937 (by decide +kernel) (by decide +kernel), wOK_1 475 (by decide +kernel) (by decide +kernel), wOK_1 476 (by decide +kernel) (by decide +kernel), cb_X0_newest⟩
set_option maxRecDepth 100000 in
theorem cw_X6_221 (M : nM) (h : mOwn M = RX6) : cxV M 221 mX4_byteFor (cTab 4).1 1 := ⟨by rw [h]; exact wOK_1 938 (by decide +kernel) (by decide +kernel), wOK_1 517 (by decide +kernel) (by decide +kernel), wOK_1 518 (by decide +kernel) (by decide +kernel), cb_X4_byteFor⟩
set_option maxRecDepth 100000 in
theorem cw_X6_224 (M : nM) (h : mOwn M = RX6) : cxV M 224 mX6_refuseWrongBlock (cTab 6).1 1 := ⟨by rw [h]; exact wOK_1 607 (by decide +kernel) (by decide +kernel), wOK_1 609 (by decide +kernel) (by decide +kernel), wOK_1 15 (by decide +kernel) (by decide +kernel), cb_X6_refuseWrongBlock⟩
set_option maxRecDepth 100000 in
theorem cw_X6_227 (M : nM) (h : mOwn M = RX6) : cxV M 227 mX3_isFree (cTab 3).1 1 := ⟨by rw [h]; exact wOK_1 612 (by decide +kernel) (by decide +kernel), wOK_1 613 (by decide +kernel) (by decide +kernel), wOK_1 614 (by decide +kernel) (by decide +kernel), cb_X3_isFree⟩
set_option maxRecDepth 100000 in
theorem cw_X6_233 (M : nM) (h : mOwn M = RX6) : cxV M 233 mX2_dirtOf (cTab 2).1 1 := ⟨by rw [h]; exact wOK_1 616 (by decide +kernel) (by decide +kernel), wOK_1 617 (by decide +kernel) (by decide +kernel), wOK_1 618 (by decide +kernel) (by decide +kernel), cb_X2_dirtOf⟩
set_option maxRecDepth 100000 in
theorem cw_X6_239 (M : nM) (h : mOwn M = RX6) : cxV M 239 mX0_usedOf (cTab 0).1 1 := ⟨by rw [h]; exact wOK_1 428 (by decide +kernel) (by decide +kernel), wOK_1 429 (by decide +kernel) (by decide +kernel), wOK_1 430 (by decide +kernel) (by decide +kernel), cb_X0_usedOf⟩
set_option maxRecDepth 100000 in
theorem cw_X6_242 (M : nM) (h : mOwn M = RX6) : cxV M 242 mX0_countOf (cTab 0).1 1 := ⟨by rw [h]; exact wOK_1 408 (by decide +kernel) (by decide +kernel), wOK_1 409 (by decide +kernel) (by decide +kernel), wOK_1 410 (by decide +kernel) (by decide +kernel), cb_X0_countOf⟩
set_option maxRecDepth 100000 in
theorem cw_X6_247 (M : nM) (h : mOwn M = RX6) : cxV M 247 mX0_at (cTab 0).1 2 := ⟨by rw [h]; exact wOK_1 416 (by decide +kernel) (by decide +kernel), wOK_1 417 (by decide +kernel) (by decide +kernel), wOK_1 418 (by decide +kernel) (by decide +kernel), cb_X0_at⟩
set_option maxRecDepth 100000 in
theorem cw_X6_251 (M : nM) (h : mOwn M = RX6) : cxV M 251 mX4_isWhole (cTab 4).1 0 := ⟨by rw [h]; exact wOK_1 424 (by decide +kernel) (by decide +kernel), wOK_1 425 (by decide +kernel) (by decide +kernel), wOK_1 426 (by decide +kernel) (by decide +kernel), cb_X4_isWhole⟩
set_option maxRecDepth 100000 in
theorem cw_X6_291 (M : nM) (h : mOwn M = RX6) : cxV M 291 mX5_leadsTo (cTab 5).1 2 := ⟨by rw [h]; exact wOK_1 883 (by decide +kernel) (by decide +kernel), wOK_1 884 (by decide +kernel) (by decide +kernel), wOK_1 885 (by decide +kernel) (by decide +kernel), cb_X5_leadsTo⟩
set_option maxRecDepth 100000 in
theorem cw_X6_304 (M : nM) (h : mOwn M = RX6) : cxV M 304 mX3_beginTrial (cTab 3).1 1 := ⟨by rw [h]; exact wOK_1 707 (by decide +kernel) (by decide +kernel), wOK_1 708 (by decide +kernel) (by decide +kernel), wOK_1 709 (by decide +kernel) (by decide +kernel), cb_X3_beginTrial⟩
set_option maxRecDepth 100000 in
theorem cw_X6_307 (M : nM) (h : mOwn M = RX6) : cxV M 307 mX3_takesInTrial (cTab 3).1 1 := ⟨by rw [h]; exact wOK_1 711 (by decide +kernel) (by decide +kernel), wOK_1 712 (by decide +kernel) (by decide +kernel), wOK_1 713 (by decide +kernel) (by decide +kernel), cb_X3_takesInTrial⟩
set_option maxRecDepth 100000 in
theorem cw_X6_317 (M : nM) (h : mOwn M = RX6) : cxV M 317 mX4_becomeName (cTab 4).1 5 := ⟨by rw [h]; exact wOK_1 753 (by decide +kernel) (by decide +kernel), wOK_1 754 (by decide +kernel) (by decide +kernel), wOK_1 755 (by decide +kernel) (by decide +kernel), cb_X4_becomeName⟩
set_option maxRecDepth 100000 in
theorem cw_X6_321 (M : nM) (h : mOwn M = RX6) : cxV M 321 mX1_lay (cTab 1).1 1 := ⟨by rw [h]; exact wOK_1 791 (by decide +kernel) (by decide +kernel), wOK_1 512 (by decide +kernel) (by decide +kernel), wOK_1 513 (by decide +kernel) (by decide +kernel), cb_X1_lay⟩
set_option maxRecDepth 100000 in
theorem cw_X6_328 (M : nM) (h : mOwn M = RX6) : cxV M 328 mX3_closedAt (cTab 3).1 1 := ⟨by rw [h]; exact wOK_1 801 (by decide +kernel) (by decide +kernel), wOK_1 802 (by decide +kernel) (by decide +kernel), wOK_1 803 (by decide +kernel) (by decide +kernel), cb_X3_closedAt⟩
set_option maxRecDepth 100000 in
theorem cw_X6_331 (M : nM) (h : mOwn M = RX6) : cxS M 331 mJ9_floorMod 2 := ⟨by rw [h]; exact wOK_1 805 (by decide +kernel) (by decide +kernel), wOK_1 806 (by decide +kernel) (by decide +kernel), cb_J9_floorMod⟩
set_option maxRecDepth 100000 in
theorem co_X0_3 (M : nM) (h : mOwn M = RX0) : wOK (.methodLink (mOwn M) 3 Lib.objectInit) ∧ wOK (.instanceMethod Lib.objectInit) ∧ wOK (.code Lib.objectInit ⟨#[0xb1]⟩ 1 none) := ⟨by rw [h]; exact wOK_1 66 (by decide +kernel) (by decide +kernel), wOK_1 59 (by decide +kernel) (by decide +kernel), wOK_1 60 (by decide +kernel) (by decide +kernel)⟩
set_option maxRecDepth 100000 in
theorem cw_X0_27 (M : nM) (h : mOwn M = RX0) : cxI M 27 mX4_init 0 := ⟨Or.inr ⟨"Nodewash", by rw [h]; exact List.mem_of_getElem? (i := 70) (by decide +kernel)⟩, wOK_1 71 (by decide +kernel) (by decide +kernel), rfl, rfl, cb_X4_init⟩
set_option maxRecDepth 100000 in
theorem cw_X0_36 (M : nM) (h : mOwn M = RX0) : cxV M 36 mX0_has (cTab 0).1 1 := ⟨by rw [h]; exact wOK_1 412 (by decide +kernel) (by decide +kernel), wOK_1 413 (by decide +kernel) (by decide +kernel), wOK_1 414 (by decide +kernel) (by decide +kernel), cb_X0_has⟩
set_option maxRecDepth 100000 in
theorem cw_X0_40 (M : nM) (h : mOwn M = RX0) : cxV M 40 mX0_row (cTab 0).1 1 := ⟨by rw [h]; exact wOK_1 420 (by decide +kernel) (by decide +kernel), wOK_1 421 (by decide +kernel) (by decide +kernel), wOK_1 422 (by decide +kernel) (by decide +kernel), cb_X0_row⟩
set_option maxRecDepth 100000 in
theorem cw_X0_44 (M : nM) (h : mOwn M = RX0) : cxV M 44 mX4_tells (cTab 4).1 2 := ⟨by rw [h]; exact wOK_1 478 (by decide +kernel) (by decide +kernel), wOK_1 470 (by decide +kernel) (by decide +kernel), wOK_1 471 (by decide +kernel) (by decide +kernel), cb_X4_tells⟩
set_option maxRecDepth 100000 in
theorem cw_X0_51 (M : nM) (h : mOwn M = RX0) : cxV M 51 mX4_settles (cTab 4).1 1 := ⟨by rw [h]; exact wOK_1 479 (by decide +kernel) (by decide +kernel), wOK_1 480 (by decide +kernel) (by decide +kernel), wOK_1 481 (by decide +kernel) (by decide +kernel), cb_X4_settles⟩
set_option maxRecDepth 100000 in
theorem cw_X0_57 (M : nM) (h : mOwn M = RX0) : cxV M 57 mX4_settledPlaces (cTab 4).1 0 := ⟨by rw [h]; exact wOK_1 650 (by decide +kernel) (by decide +kernel), wOK_1 651 (by decide +kernel) (by decide +kernel), wOK_1 652 (by decide +kernel) (by decide +kernel), cb_X4_settledPlaces⟩
set_option maxRecDepth 100000 in
theorem cw_X0_61 (M : nM) (h : mOwn M = RX0) : cxV M 61 mX4_isCopyOf (cTab 4).1 1 := ⟨by rw [h]; exact wOK_1 641 (by decide +kernel) (by decide +kernel), wOK_1 642 (by decide +kernel) (by decide +kernel), wOK_1 643 (by decide +kernel) (by decide +kernel), cb_X4_isCopyOf⟩
set_option maxRecDepth 100000 in
theorem cw_X0_72 (M : nM) (h : mOwn M = RX0) : cxV M 72 mX0_spend (cTab 0).1 0 := ⟨by rw [h]; exact wOK_1 534 (by decide +kernel) (by decide +kernel), wOK_1 535 (by decide +kernel) (by decide +kernel), wOK_1 536 (by decide +kernel) (by decide +kernel), cb_X0_spend⟩
set_option maxRecDepth 100000 in
theorem cw_X0_76 (M : nM) (h : mOwn M = RX0) : cxV M 76 mX0_begin (cTab 0).1 2 := ⟨by rw [h]; exact wOK_1 737 (by decide +kernel) (by decide +kernel), wOK_1 739 (by decide +kernel) (by decide +kernel), wOK_1 21 (by decide +kernel) (by decide +kernel), cb_X0_begin⟩
set_option maxRecDepth 100000 in
theorem cw_X0_83 (M : nM) (h : mOwn M = RX0) : cxV M 83 mX4_copyFrom (cTab 4).1 1 := ⟨by rw [h]; exact wOK_1 741 (by decide +kernel) (by decide +kernel), wOK_1 742 (by decide +kernel) (by decide +kernel), wOK_1 743 (by decide +kernel) (by decide +kernel), cb_X4_copyFrom⟩
set_option maxRecDepth 100000 in
theorem cw_X0_87 (M : nM) (h : mOwn M = RX0) : cxV M 87 mX0_at (cTab 0).1 2 := ⟨by rw [h]; exact wOK_1 538 (by decide +kernel) (by decide +kernel), wOK_1 417 (by decide +kernel) (by decide +kernel), wOK_1 418 (by decide +kernel) (by decide +kernel), cb_X0_at⟩
set_option maxRecDepth 100000 in
theorem cw_X0_91 (M : nM) (h : mOwn M = RX0) : cxV M 91 mX4_clear (cTab 4).1 0 := ⟨by rw [h]; exact wOK_1 539 (by decide +kernel) (by decide +kernel), wOK_1 540 (by decide +kernel) (by decide +kernel), wOK_1 541 (by decide +kernel) (by decide +kernel), cb_X4_clear⟩
set_option maxRecDepth 100000 in
theorem co_X1_3 (M : nM) (h : mOwn M = RX1) : wOK (.methodLink (mOwn M) 3 Lib.objectInit) ∧ wOK (.instanceMethod Lib.objectInit) ∧ wOK (.code Lib.objectInit ⟨#[0xb1]⟩ 1 none) := ⟨by rw [h]; exact wOK_1 228 (by decide +kernel) (by decide +kernel), wOK_1 59 (by decide +kernel) (by decide +kernel), wOK_1 60 (by decide +kernel) (by decide +kernel)⟩
set_option maxRecDepth 100000 in
theorem cw_X1_38 (M : nM) (h : mOwn M = RX1) : cxV M 38 mX4_settles (cTab 4).1 1 := ⟨by rw [h]; exact wOK_1 515 (by decide +kernel) (by decide +kernel), wOK_1 480 (by decide +kernel) (by decide +kernel), wOK_1 481 (by decide +kernel) (by decide +kernel), cb_X4_settles⟩
set_option maxRecDepth 100000 in
theorem cw_X1_42 (M : nM) (h : mOwn M = RX1) : cxV M 42 mX4_byteFor (cTab 4).1 1 := ⟨by rw [h]; exact wOK_1 516 (by decide +kernel) (by decide +kernel), wOK_1 517 (by decide +kernel) (by decide +kernel), wOK_1 518 (by decide +kernel) (by decide +kernel), cb_X4_byteFor⟩
set_option maxRecDepth 100000 in
theorem cw_X1_46 (M : nM) (h : mOwn M = RX1) : cxV M 46 mX1_setCell (cTab 1).1 2 := ⟨by rw [h]; exact wOK_1 524 (by decide +kernel) (by decide +kernel), wOK_1 496 (by decide +kernel) (by decide +kernel), wOK_1 497 (by decide +kernel) (by decide +kernel), cb_X1_setCell⟩
set_option maxRecDepth 100000 in
theorem cw_X1_51 (M : nM) (h : mOwn M = RX1) : cxV M 51 mX1_cell (cTab 1).1 1 := ⟨by rw [h]; exact wOK_1 865 (by decide +kernel) (by decide +kernel), wOK_1 492 (by decide +kernel) (by decide +kernel), wOK_1 493 (by decide +kernel) (by decide +kernel), cb_X1_cell⟩
set_option maxRecDepth 100000 in
theorem co_X2_3 (M : nM) (h : mOwn M = RX2) : wOK (.methodLink (mOwn M) 3 Lib.objectInit) ∧ wOK (.instanceMethod Lib.objectInit) ∧ wOK (.code Lib.objectInit ⟨#[0xb1]⟩ 1 none) := ⟨by rw [h]; exact wOK_1 291 (by decide +kernel) (by decide +kernel), wOK_1 59 (by decide +kernel) (by decide +kernel), wOK_1 60 (by decide +kernel) (by decide +kernel)⟩
set_option maxRecDepth 100000 in
theorem cw_X2_17 (M : nM) (h : mOwn M = RX2) : cxI M 17 mX4_init 0 := ⟨Or.inr ⟨"Nodewash", by rw [h]; exact List.mem_of_getElem? (i := 293) (by decide +kernel)⟩, wOK_1 71 (by decide +kernel) (by decide +kernel), rfl, rfl, cb_X4_init⟩
set_option maxRecDepth 100000 in
theorem cw_X2_37 (M : nM) (h : mOwn M = RX2) : cxV M 37 mX5_holds (cTab 5).1 2 := ⟨by rw [h]; exact wOK_1 631 (by decide +kernel) (by decide +kernel), wOK_1 632 (by decide +kernel) (by decide +kernel), wOK_1 633 (by decide +kernel) (by decide +kernel), cb_X5_holds⟩
set_option maxRecDepth 100000 in
theorem cw_X2_50 (M : nM) (h : mOwn M = RX2) : cxV M 50 mX0_newest (cTab 0).1 4 := ⟨by rw [h]; exact wOK_1 636 (by decide +kernel) (by decide +kernel), wOK_1 475 (by decide +kernel) (by decide +kernel), wOK_1 476 (by decide +kernel) (by decide +kernel), cb_X0_newest⟩
set_option maxRecDepth 100000 in
theorem cw_X2_56 (M : nM) (h : mOwn M = RX2) : cxV M 56 mX0_firstCopy (cTab 0).1 1 := ⟨by rw [h]; exact wOK_1 637 (by decide +kernel) (by decide +kernel), wOK_1 638 (by decide +kernel) (by decide +kernel), wOK_1 639 (by decide +kernel) (by decide +kernel), cb_X0_firstCopy⟩
set_option maxRecDepth 100000 in
theorem cw_X2_64 (M : nM) (h : mOwn M = RX2) : cxV M 64 mX0_settledByNewer (cTab 0).1 1 := ⟨by rw [h]; exact wOK_1 646 (by decide +kernel) (by decide +kernel), wOK_1 647 (by decide +kernel) (by decide +kernel), wOK_1 648 (by decide +kernel) (by decide +kernel), cb_X0_settledByNewer⟩
set_option maxRecDepth 100000 in
theorem cw_X2_70 (M : nM) (h : mOwn M = RX2) : cxV M 70 mX4_isWhole (cTab 4).1 0 := ⟨by rw [h]; exact wOK_1 622 (by decide +kernel) (by decide +kernel), wOK_1 425 (by decide +kernel) (by decide +kernel), wOK_1 426 (by decide +kernel) (by decide +kernel), cb_X4_isWhole⟩
set_option maxRecDepth 100000 in
theorem cw_X2_74 (M : nM) (h : mOwn M = RX2) : cxV M 74 mX2_isLive (cTab 2).1 1 := ⟨by rw [h]; exact wOK_1 627 (by decide +kernel) (by decide +kernel), wOK_1 629 (by decide +kernel) (by decide +kernel), wOK_1 17 (by decide +kernel) (by decide +kernel), cb_X2_isLive⟩
set_option maxRecDepth 100000 in
theorem cw_X2_78 (M : nM) (h : mOwn M = RX2) : cxV M 78 mX0_countOf (cTab 0).1 1 := ⟨by rw [h]; exact wOK_1 620 (by decide +kernel) (by decide +kernel), wOK_1 409 (by decide +kernel) (by decide +kernel), wOK_1 410 (by decide +kernel) (by decide +kernel), cb_X0_countOf⟩
set_option maxRecDepth 100000 in
theorem cw_X2_82 (M : nM) (h : mOwn M = RX2) : cxV M 82 mX0_at (cTab 0).1 2 := ⟨by rw [h]; exact wOK_1 621 (by decide +kernel) (by decide +kernel), wOK_1 417 (by decide +kernel) (by decide +kernel), wOK_1 418 (by decide +kernel) (by decide +kernel), cb_X0_at⟩
set_option maxRecDepth 100000 in
theorem cw_X2_86 (M : nM) (h : mOwn M = RX2) : cxV M 86 mX2_isDead (cTab 2).1 1 := ⟨by rw [h]; exact wOK_1 623 (by decide +kernel) (by decide +kernel), wOK_1 625 (by decide +kernel) (by decide +kernel), wOK_1 16 (by decide +kernel) (by decide +kernel), cb_X2_isDead⟩
set_option maxRecDepth 100000 in
theorem cw_X2_99 (M : nM) (h : mOwn M = RX2) : cxV M 99 mX2_lookAt (cTab 2).1 1 := ⟨by rw [h]; exact wOK_1 813 (by decide +kernel) (by decide +kernel), wOK_1 815 (by decide +kernel) (by decide +kernel), wOK_1 28 (by decide +kernel) (by decide +kernel), cb_X2_lookAt⟩
set_option maxRecDepth 100000 in
theorem cw_X2_106 (M : nM) (h : mOwn M = RX2) : cxV M 106 mX2_isMissed (cTab 2).1 1 := ⟨by rw [h]; exact wOK_1 817 (by decide +kernel) (by decide +kernel), wOK_1 819 (by decide +kernel) (by decide +kernel), wOK_1 29 (by decide +kernel) (by decide +kernel), cb_X2_isMissed⟩
set_option maxRecDepth 100000 in
theorem cw_X2_109 (M : nM) (h : mOwn M = RX2) : cxV M 109 mX2_isMissedAsName (cTab 2).1 1 := ⟨by rw [h]; exact wOK_1 821 (by decide +kernel) (by decide +kernel), wOK_1 823 (by decide +kernel) (by decide +kernel), wOK_1 30 (by decide +kernel) (by decide +kernel), cb_X2_isMissedAsName⟩
set_option maxRecDepth 100000 in
theorem cw_X2_112 (M : nM) (h : mOwn M = RX2) : cxV M 112 mX2_isMissedAsData (cTab 2).1 1 := ⟨by rw [h]; exact wOK_1 829 (by decide +kernel) (by decide +kernel), wOK_1 831 (by decide +kernel) (by decide +kernel), wOK_1 32 (by decide +kernel) (by decide +kernel), cb_X2_isMissedAsData⟩
set_option maxRecDepth 100000 in
theorem cw_X2_115 (M : nM) (h : mOwn M = RX2) : cxV M 115 mX2_targetOf (cTab 2).1 1 := ⟨by rw [h]; exact wOK_1 825 (by decide +kernel) (by decide +kernel), wOK_1 827 (by decide +kernel) (by decide +kernel), wOK_1 31 (by decide +kernel) (by decide +kernel), cb_X2_targetOf⟩
set_option maxRecDepth 100000 in
theorem cw_X2_119 (M : nM) (h : mOwn M = RX2) : cxV M 119 mX4_settledPlaces (cTab 4).1 0 := ⟨by rw [h]; exact wOK_1 833 (by decide +kernel) (by decide +kernel), wOK_1 651 (by decide +kernel) (by decide +kernel), wOK_1 652 (by decide +kernel) (by decide +kernel), cb_X4_settledPlaces⟩
set_option maxRecDepth 100000 in
theorem cw_X2_126 (M : nM) (h : mOwn M = RX2) : cxV M 126 mX4_byteFor (cTab 4).1 1 := ⟨by rw [h]; exact wOK_1 834 (by decide +kernel) (by decide +kernel), wOK_1 517 (by decide +kernel) (by decide +kernel), wOK_1 518 (by decide +kernel) (by decide +kernel), cb_X4_byteFor⟩
set_option maxRecDepth 100000 in
theorem co_X3_3 (M : nM) (h : mOwn M = RX3) : wOK (.methodLink (mOwn M) 3 Lib.objectInit) ∧ wOK (.instanceMethod Lib.objectInit) ∧ wOK (.code Lib.objectInit ⟨#[0xb1]⟩ 1 none) := ⟨by rw [h]; exact wOK_1 171 (by decide +kernel) (by decide +kernel), wOK_1 59 (by decide +kernel) (by decide +kernel), wOK_1 60 (by decide +kernel) (by decide +kernel)⟩
set_option maxRecDepth 100000 in
theorem cw_X3_11 (M : nM) (h : mOwn M = RX3) : cxI M 11 mX4_init 0 := ⟨Or.inr ⟨"Nodewash", by rw [h]; exact List.mem_of_getElem? (i := 173) (by decide +kernel)⟩, wOK_1 71 (by decide +kernel) (by decide +kernel), rfl, rfl, cb_X4_init⟩
set_option maxRecDepth 100000 in
theorem cw_X3_39 (M : nM) (h : mOwn M = RX3) : cxV M 39 mX0_usedOf (cTab 0).1 1 := ⟨by rw [h]; exact wOK_1 436 (by decide +kernel) (by decide +kernel), wOK_1 429 (by decide +kernel) (by decide +kernel), wOK_1 430 (by decide +kernel) (by decide +kernel), cb_X0_usedOf⟩
set_option maxRecDepth 100000 in
theorem cw_X3_48 (M : nM) (h : mOwn M = RX3) : cxV M 48 mX0_countOf (cTab 0).1 1 := ⟨by rw [h]; exact wOK_1 441 (by decide +kernel) (by decide +kernel), wOK_1 409 (by decide +kernel) (by decide +kernel), wOK_1 410 (by decide +kernel) (by decide +kernel), cb_X0_countOf⟩
set_option maxRecDepth 100000 in
theorem cw_X3_57 (M : nM) (h : mOwn M = RX3) : cxV M 57 mX3_fits (cTab 3).1 3 := ⟨by rw [h]; exact wOK_1 444 (by decide +kernel) (by decide +kernel), wOK_1 446 (by decide +kernel) (by decide +kernel), wOK_1 4 (by decide +kernel) (by decide +kernel), cb_X3_fits⟩
set_option maxRecDepth 100000 in
theorem cw_X3_64 (M : nM) (h : mOwn M = RX3) : cxV M 64 mX3_goOn (cTab 3).1 0 := ⟨by rw [h]; exact wOK_1 725 (by decide +kernel) (by decide +kernel), wOK_1 727 (by decide +kernel) (by decide +kernel), wOK_1 20 (by decide +kernel) (by decide +kernel), cb_X3_goOn⟩
set_option maxRecDepth 100000 in
theorem cw_X3_68 (M : nM) (h : mOwn M = RX3) : cxV M 68 mX0_append (cTab 0).1 2 := ⟨by rw [h]; exact wOK_1 733 (by decide +kernel) (by decide +kernel), wOK_1 734 (by decide +kernel) (by decide +kernel), wOK_1 735 (by decide +kernel) (by decide +kernel), cb_X0_append⟩
set_option maxRecDepth 100000 in
theorem cw_X3_72 (M : nM) (h : mOwn M = RX3) : cxV M 72 mX4_becomeSummary (cTab 4).1 1 := ⟨by rw [h]; exact wOK_1 729 (by decide +kernel) (by decide +kernel), wOK_1 730 (by decide +kernel) (by decide +kernel), wOK_1 731 (by decide +kernel) (by decide +kernel), cb_X4_becomeSummary⟩
set_option maxRecDepth 100000 in
theorem cw_X3_76 (M : nM) (h : mOwn M = RX3) : cxV M 76 mX3_addClosed (cTab 3).1 1 := ⟨by rw [h]; exact wOK_1 452 (by decide +kernel) (by decide +kernel), wOK_1 454 (by decide +kernel) (by decide +kernel), wOK_1 6 (by decide +kernel) (by decide +kernel), cb_X3_addClosed⟩
set_option maxRecDepth 100000 in
theorem cw_X3_79 (M : nM) (h : mOwn M = RX3) : cxV M 79 mX3_takeFree (cTab 3).1 0 := ⟨by rw [h]; exact wOK_1 745 (by decide +kernel) (by decide +kernel), wOK_1 747 (by decide +kernel) (by decide +kernel), wOK_1 22 (by decide +kernel) (by decide +kernel), cb_X3_takeFree⟩
set_option maxRecDepth 100000 in
theorem cw_X3_83 (M : nM) (h : mOwn M = RX3) : cxV M 83 mX0_erase (cTab 0).1 1 := ⟨by rw [h]; exact wOK_1 530 (by decide +kernel) (by decide +kernel), wOK_1 531 (by decide +kernel) (by decide +kernel), wOK_1 532 (by decide +kernel) (by decide +kernel), cb_X0_erase⟩
set_option maxRecDepth 100000 in
theorem cw_X3_87 (M : nM) (h : mOwn M = RX3) : cxV M 87 mX3_dropClosed (cTab 3).1 1 := ⟨by rw [h]; exact wOK_1 848 (by decide +kernel) (by decide +kernel), wOK_1 850 (by decide +kernel) (by decide +kernel), wOK_1 34 (by decide +kernel) (by decide +kernel), cb_X3_dropClosed⟩
set_option maxRecDepth 100000 in
theorem cw_X3_90 (M : nM) (h : mOwn M = RX3) : cxV M 90 mX3_addFree (cTab 3).1 1 := ⟨by rw [h]; exact wOK_1 448 (by decide +kernel) (by decide +kernel), wOK_1 450 (by decide +kernel) (by decide +kernel), wOK_1 5 (by decide +kernel) (by decide +kernel), cb_X3_addFree⟩
set_option maxRecDepth 100000 in
theorem cw_X3_93 (M : nM) (h : mOwn M = RX3) : cxV M 93 mX3_canGoOn (cTab 3).1 1 := ⟨by rw [h]; exact wOK_1 437 (by decide +kernel) (by decide +kernel), wOK_1 439 (by decide +kernel) (by decide +kernel), wOK_1 3 (by decide +kernel) (by decide +kernel), cb_X3_canGoOn⟩
set_option maxRecDepth 100000 in
theorem cw_X3_96 (M : nM) (h : mOwn M = RX3) : cxV M 96 mX0_at (cTab 0).1 2 := ⟨by rw [h]; exact wOK_1 442 (by decide +kernel) (by decide +kernel), wOK_1 417 (by decide +kernel) (by decide +kernel), wOK_1 418 (by decide +kernel) (by decide +kernel), cb_X0_at⟩
set_option maxRecDepth 100000 in
theorem cw_X3_103 (M : nM) (h : mOwn M = RX3) : cxV M 103 mX4_isWhole (cTab 4).1 0 := ⟨by rw [h]; exact wOK_1 443 (by decide +kernel) (by decide +kernel), wOK_1 425 (by decide +kernel) (by decide +kernel), wOK_1 426 (by decide +kernel) (by decide +kernel), cb_X4_isWhole⟩
set_option maxRecDepth 100000 in
theorem co_X4_3 (M : nM) (h : mOwn M = RX4) : wOK (.methodLink (mOwn M) 3 Lib.objectInit) ∧ wOK (.instanceMethod Lib.objectInit) ∧ wOK (.code Lib.objectInit ⟨#[0xb1]⟩ 1 none) := ⟨by rw [h]; exact wOK_1 73 (by decide +kernel) (by decide +kernel), wOK_1 59 (by decide +kernel) (by decide +kernel), wOK_1 60 (by decide +kernel) (by decide +kernel)⟩
set_option maxRecDepth 100000 in
theorem cw_X4_56 (M : nM) (h : mOwn M = RX4) : cxV M 56 mX4_clear (cTab 4).1 0 := ⟨by rw [h]; exact wOK_1 720 (by decide +kernel) (by decide +kernel), wOK_1 540 (by decide +kernel) (by decide +kernel), wOK_1 541 (by decide +kernel) (by decide +kernel), cb_X4_clear⟩
set_option maxRecDepth 100000 in
theorem cw_X4_59 (M : nM) (h : mOwn M = RX4) : cxV M 59 mX4_tells (cTab 4).1 2 := ⟨by rw [h]; exact wOK_1 645 (by decide +kernel) (by decide +kernel), wOK_1 470 (by decide +kernel) (by decide +kernel), wOK_1 471 (by decide +kernel) (by decide +kernel), cb_X4_tells⟩
set_option maxRecDepth 100000 in
theorem cw_X4_63 (M : nM) (h : mOwn M = RX4) : cxV M 63 mX4_laysAt (cTab 4).1 1 := ⟨by rw [h]; exact wOK_1 520 (by decide +kernel) (by decide +kernel), wOK_1 521 (by decide +kernel) (by decide +kernel), wOK_1 522 (by decide +kernel) (by decide +kernel), cb_X4_laysAt⟩
set_option maxRecDepth 100000 in
theorem co_X5_3 (M : nM) (h : mOwn M = RX5) : wOK (.methodLink (mOwn M) 3 Lib.objectInit) ∧ wOK (.instanceMethod Lib.objectInit) ∧ wOK (.code Lib.objectInit ⟨#[0xb1]⟩ 1 none) := ⟨by rw [h]; exact wOK_1 213 (by decide +kernel) (by decide +kernel), wOK_1 59 (by decide +kernel) (by decide +kernel), wOK_1 60 (by decide +kernel) (by decide +kernel)⟩
set_option maxRecDepth 100000 in
theorem cw_X5_20 (M : nM) (h : mOwn M = RX5) : cxV M 20 mX5_empty (cTab 5).1 0 := ⟨by rw [h]; exact wOK_1 216 (by decide +kernel) (by decide +kernel), wOK_1 218 (by decide +kernel) (by decide +kernel), wOK_1 0 (by decide +kernel) (by decide +kernel), cb_X5_empty⟩
set_option maxRecDepth 100000 in
theorem cw_X5_30 (M : nM) (h : mOwn M = RX5) : cxV M 30 mX5_add (cTab 5).1 2 := ⟨by rw [h]; exact wOK_1 220 (by decide +kernel) (by decide +kernel), wOK_1 221 (by decide +kernel) (by decide +kernel), wOK_1 222 (by decide +kernel) (by decide +kernel), cb_X5_add⟩
set_option maxRecDepth 100000 in
theorem cw_X5_34 (M : nM) (h : mOwn M = RX5) : cxV M 34 mX5_item (cTab 5).1 1 := ⟨by rw [h]; exact wOK_1 460 (by decide +kernel) (by decide +kernel), wOK_1 462 (by decide +kernel) (by decide +kernel), wOK_1 7 (by decide +kernel) (by decide +kernel), cb_X5_item⟩
set_option maxRecDepth 100000 in
theorem cw_X5_41 (M : nM) (h : mOwn M = RX5) : cxV M 41 mX5_find (cTab 5).1 1 := ⟨by rw [h]; exact wOK_1 483 (by decide +kernel) (by decide +kernel), wOK_1 484 (by decide +kernel) (by decide +kernel), wOK_1 485 (by decide +kernel) (by decide +kernel), cb_X5_find⟩
set_option maxRecDepth 100000 in
theorem cw_X5_48 (M : nM) (h : mOwn M = RX5) : cxI M 48 mX1_init 0 := ⟨Or.inr ⟨"Nodewash", by rw [h]; exact List.mem_of_getElem? (i := 225) (by decide +kernel)⟩, wOK_1 226 (by decide +kernel) (by decide +kernel), rfl, rfl, cb_X1_init⟩
set_option maxRecDepth 100000 in
theorem cw_X5_49 (M : nM) (h : mOwn M = RX5) : cxV M 49 mX1_begin (cTab 1).1 2 := ⟨by rw [h]; exact wOK_1 265 (by decide +kernel) (by decide +kernel), wOK_1 266 (by decide +kernel) (by decide +kernel), wOK_1 267 (by decide +kernel) (by decide +kernel), cb_X1_begin⟩
set_option maxRecDepth 100000 in
theorem cw_X5_53 (M : nM) (h : mOwn M = RX5) : cxS M 53 mJ9_max 2 := ⟨by rw [h]; exact wOK_1 269 (by decide +kernel) (by decide +kernel), wOK_1 270 (by decide +kernel) (by decide +kernel), cb_J9_max⟩
set_option maxRecDepth 100000 in
theorem cw_X5_59 (M : nM) (h : mOwn M = RX5) : cxV M 59 mX1_cell (cTab 1).1 1 := ⟨by rw [h]; exact wOK_1 491 (by decide +kernel) (by decide +kernel), wOK_1 492 (by decide +kernel) (by decide +kernel), wOK_1 493 (by decide +kernel) (by decide +kernel), cb_X1_cell⟩
set_option maxRecDepth 100000 in
theorem cw_X5_63 (M : nM) (h : mOwn M = RX5) : cxV M 63 mX1_setCell (cTab 1).1 2 := ⟨by rw [h]; exact wOK_1 495 (by decide +kernel) (by decide +kernel), wOK_1 496 (by decide +kernel) (by decide +kernel), wOK_1 497 (by decide +kernel) (by decide +kernel), cb_X1_setCell⟩
set_option maxRecDepth 100000 in
theorem cw_X5_73 (M : nM) (h : mOwn M = RX5) : cxV M 73 mX5_drop (cTab 5).1 1 := ⟨by rw [h]; exact wOK_1 499 (by decide +kernel) (by decide +kernel), wOK_1 501 (by decide +kernel) (by decide +kernel), wOK_1 9 (by decide +kernel) (by decide +kernel), cb_X5_drop⟩
set_option maxRecDepth 100000 in
theorem cw_X5_80 (M : nM) (h : mOwn M = RX5) : cxV M 80 mX5_reach (cTab 5).1 2 := ⟨by rw [h]; exact wOK_1 887 (by decide +kernel) (by decide +kernel), wOK_1 889 (by decide +kernel) (by decide +kernel), wOK_1 36 (by decide +kernel) (by decide +kernel), cb_X5_reach⟩
set_option maxRecDepth 100000 in
theorem cw_X5_84 (M : nM) (h : mOwn M = RX5) : cxV M 84 mX5_readNames (cTab 5).1 2 := ⟨by rw [h]; exact wOK_1 464 (by decide +kernel) (by decide +kernel), wOK_1 466 (by decide +kernel) (by decide +kernel), wOK_1 8 (by decide +kernel) (by decide +kernel), cb_X5_readNames⟩
set_option maxRecDepth 100000 in
theorem cw_X5_88 (M : nM) (h : mOwn M = RX5) : cxV M 88 mX5_readContent (cTab 5).1 2 := ⟨by rw [h]; exact wOK_1 503 (by decide +kernel) (by decide +kernel), wOK_1 505 (by decide +kernel) (by decide +kernel), wOK_1 10 (by decide +kernel) (by decide +kernel), cb_X5_readContent⟩
set_option maxRecDepth 100000 in
theorem cw_X5_91 (M : nM) (h : mOwn M = RX5) : cxV M 91 mX0_row (cTab 0).1 1 := ⟨by rw [h]; exact wOK_1 468 (by decide +kernel) (by decide +kernel), wOK_1 421 (by decide +kernel) (by decide +kernel), wOK_1 422 (by decide +kernel) (by decide +kernel), cb_X0_row⟩
set_option maxRecDepth 100000 in
theorem cw_X5_97 (M : nM) (h : mOwn M = RX5) : cxV M 97 mX4_isWhole (cTab 4).1 0 := ⟨by rw [h]; exact wOK_1 525 (by decide +kernel) (by decide +kernel), wOK_1 425 (by decide +kernel) (by decide +kernel), wOK_1 426 (by decide +kernel) (by decide +kernel), cb_X4_isWhole⟩
set_option maxRecDepth 100000 in
theorem cw_X5_107 (M : nM) (h : mOwn M = RX5) : cxV M 107 mX4_tells (cTab 4).1 2 := ⟨by rw [h]; exact wOK_1 469 (by decide +kernel) (by decide +kernel), wOK_1 470 (by decide +kernel) (by decide +kernel), wOK_1 471 (by decide +kernel) (by decide +kernel), cb_X4_tells⟩
set_option maxRecDepth 100000 in
theorem cw_X5_119 (M : nM) (h : mOwn M = RX5) : cxV M 119 mX0_newest (cTab 0).1 4 := ⟨by rw [h]; exact wOK_1 474 (by decide +kernel) (by decide +kernel), wOK_1 475 (by decide +kernel) (by decide +kernel), wOK_1 476 (by decide +kernel) (by decide +kernel), cb_X0_newest⟩
set_option maxRecDepth 100000 in
theorem cw_X5_126 (M : nM) (h : mOwn M = RX5) : cxV M 126 mX5_assign (cTab 5).1 3 := ⟨by rw [h]; exact wOK_1 487 (by decide +kernel) (by decide +kernel), wOK_1 488 (by decide +kernel) (by decide +kernel), wOK_1 489 (by decide +kernel) (by decide +kernel), cb_X5_assign⟩
set_option maxRecDepth 100000 in
theorem cw_X5_130 (M : nM) (h : mOwn M = RX5) : cxV M 130 mX0_nextData (cTab 0).1 2 := ⟨by rw [h]; exact wOK_1 507 (by decide +kernel) (by decide +kernel), wOK_1 508 (by decide +kernel) (by decide +kernel), wOK_1 509 (by decide +kernel) (by decide +kernel), cb_X0_nextData⟩
set_option maxRecDepth 100000 in
theorem cw_X5_134 (M : nM) (h : mOwn M = RX5) : cxV M 134 mX1_lay (cTab 1).1 1 := ⟨by rw [h]; exact wOK_1 511 (by decide +kernel) (by decide +kernel), wOK_1 512 (by decide +kernel) (by decide +kernel), wOK_1 513 (by decide +kernel) (by decide +kernel), cb_X1_lay⟩
set_option maxRecDepth 100000 in
theorem cw_L_7 (M : nM) (h : mOwn M = RL) : cxS M 7 mL_slot 3 := ⟨by rw [h]; exact wOK_1 668 (by decide +kernel) (by decide +kernel), wOK_1 669 (by decide +kernel) (by decide +kernel), cb_L_slot⟩
set_option maxRecDepth 100000 in
theorem cw_L_13 (M : nM) (h : mOwn M = RL) : cxS M 13 mL_links 3 := ⟨by rw [h]; exact wOK_1 662 (by decide +kernel) (by decide +kernel), wOK_1 663 (by decide +kernel) (by decide +kernel), cb_L_links⟩
set_option maxRecDepth 100000 in
theorem cw_L_20 (M : nM) (h : mOwn M = RL) : cxV M 20 mX6_create (cTab 6).1 2 := ⟨by rw [h]; exact wOK_1 694 (by decide +kernel) (by decide +kernel), wOK_1 695 (by decide +kernel) (by decide +kernel), wOK_1 696 (by decide +kernel) (by decide +kernel), cb_X6_create⟩
set_option maxRecDepth 100000 in
theorem cw_L_26 (M : nM) (h : mOwn M = RL) : cxV M 26 mX6_makeDirectory (cTab 6).1 2 := ⟨by rw [h]; exact wOK_1 759 (by decide +kernel) (by decide +kernel), wOK_1 760 (by decide +kernel) (by decide +kernel), wOK_1 761 (by decide +kernel) (by decide +kernel), cb_X6_makeDirectory⟩
set_option maxRecDepth 100000 in
theorem cw_L_29 (M : nM) (h : mOwn M = RL) : cxV M 29 mX6_link (cTab 6).1 3 := ⟨by rw [h]; exact wOK_1 763 (by decide +kernel) (by decide +kernel), wOK_1 764 (by decide +kernel) (by decide +kernel), wOK_1 765 (by decide +kernel) (by decide +kernel), cb_X6_link⟩
set_option maxRecDepth 100000 in
theorem cw_L_33 (M : nM) (h : mOwn M = RL) : cxV M 33 mX6_unlink (cTab 6).1 2 := ⟨by rw [h]; exact wOK_1 772 (by decide +kernel) (by decide +kernel), wOK_1 773 (by decide +kernel) (by decide +kernel), wOK_1 774 (by decide +kernel) (by decide +kernel), cb_X6_unlink⟩
set_option maxRecDepth 100000 in
theorem cw_L_36 (M : nM) (h : mOwn M = RL) : cxV M 36 mX6_truncate (cTab 6).1 2 := ⟨by rw [h]; exact wOK_1 782 (by decide +kernel) (by decide +kernel), wOK_1 783 (by decide +kernel) (by decide +kernel), wOK_1 784 (by decide +kernel) (by decide +kernel), cb_X6_truncate⟩
set_option maxRecDepth 100000 in
theorem cw_L_39 (M : nM) (h : mOwn M = RL) : cxV M 39 mX6_collect (cTab 6).1 1 := ⟨by rw [h]; exact wOK_1 792 (by decide +kernel) (by decide +kernel), wOK_1 793 (by decide +kernel) (by decide +kernel), wOK_1 794 (by decide +kernel) (by decide +kernel), cb_X6_collect⟩
set_option maxRecDepth 100000 in
theorem cw_L_43 (M : nM) (h : mOwn M = RL) : cxV M 43 mX6_lookUp (cTab 6).1 2 := ⟨by rw [h]; exact wOK_1 547 (by decide +kernel) (by decide +kernel), wOK_1 548 (by decide +kernel) (by decide +kernel), wOK_1 549 (by decide +kernel) (by decide +kernel), cb_X6_lookUp⟩
set_option maxRecDepth 100000 in
theorem cw_L_46 (M : nM) (h : mOwn M = RL) : cxV M 46 mX6_names (cTab 6).1 1 := ⟨by rw [h]; exact wOK_1 852 (by decide +kernel) (by decide +kernel), wOK_1 853 (by decide +kernel) (by decide +kernel), wOK_1 854 (by decide +kernel) (by decide +kernel), cb_X6_names⟩
set_option maxRecDepth 100000 in
theorem cw_L_49 (M : nM) (h : mOwn M = RL) : cxV M 49 mX6_nameAt (cTab 6).1 2 := ⟨by rw [h]; exact wOK_1 856 (by decide +kernel) (by decide +kernel), wOK_1 857 (by decide +kernel) (by decide +kernel), wOK_1 858 (by decide +kernel) (by decide +kernel), cb_X6_nameAt⟩
set_option maxRecDepth 100000 in
theorem cw_L_52 (M : nM) (h : mOwn M = RL) : cxV M 52 mX6_length (cTab 6).1 1 := ⟨by rw [h]; exact wOK_1 866 (by decide +kernel) (by decide +kernel), wOK_1 867 (by decide +kernel) (by decide +kernel), wOK_1 868 (by decide +kernel) (by decide +kernel), cb_X6_length⟩
set_option maxRecDepth 100000 in
theorem cw_L_61 (M : nM) (h : mOwn M = RL) : cxV M 61 mX6_rename (cTab 6).1 4 := ⟨by rw [h]; exact wOK_1 873 (by decide +kernel) (by decide +kernel), wOK_1 874 (by decide +kernel) (by decide +kernel), wOK_1 875 (by decide +kernel) (by decide +kernel), cb_X6_rename⟩
set_option maxRecDepth 100000 in
theorem cw_L_65 (M : nM) (h : mOwn M = RL) : cxV M 65 mX6_write (cTab 6).1 4 := ⟨by rw [h]; exact wOK_1 895 (by decide +kernel) (by decide +kernel), wOK_1 896 (by decide +kernel) (by decide +kernel), wOK_1 897 (by decide +kernel) (by decide +kernel), cb_X6_write⟩
set_option maxRecDepth 100000 in
theorem cw_L_69 (M : nM) (h : mOwn M = RL) : cxV M 69 mX6_state (cTab 6).1 1 := ⟨by rw [h]; exact wOK_1 603 (by decide +kernel) (by decide +kernel), wOK_1 604 (by decide +kernel) (by decide +kernel), wOK_1 605 (by decide +kernel) (by decide +kernel), cb_X6_state⟩
set_option maxRecDepth 100000 in
theorem cw_L_72 (M : nM) (h : mOwn M = RL) : cxV M 72 mX6_isDark (cTab 6).1 0 := ⟨by rw [h]; exact wOK_1 543 (by decide +kernel) (by decide +kernel), wOK_1 544 (by decide +kernel) (by decide +kernel), wOK_1 545 (by decide +kernel) (by decide +kernel), cb_X6_isDark⟩
set_option maxRecDepth 100000 in
theorem cw_L_76 (M : nM) (h : mOwn M = RL) : cxS M 76 mL_namesIn 3 := ⟨by rw [h]; exact wOK_1 665 (by decide +kernel) (by decide +kernel), wOK_1 666 (by decide +kernel) (by decide +kernel), cb_L_namesIn⟩
set_option maxRecDepth 100000 in
theorem cw_L_79 (M : nM) (h : mOwn M = RL) : cxV M 79 mX6_links (cTab 6).1 1 := ⟨by rw [h]; exact wOK_1 912 (by decide +kernel) (by decide +kernel), wOK_1 913 (by decide +kernel) (by decide +kernel), wOK_1 914 (by decide +kernel) (by decide +kernel), cb_X6_links⟩
set_option maxRecDepth 100000 in
theorem cw_L_81 (M : nM) (h : mOwn M = RL) : cxV M 81 mX6_isDirectory (cTab 6).1 1 := ⟨by rw [h]; exact wOK_1 916 (by decide +kernel) (by decide +kernel), wOK_1 917 (by decide +kernel) (by decide +kernel), wOK_1 918 (by decide +kernel) (by decide +kernel), cb_X6_isDirectory⟩
set_option maxRecDepth 100000 in
theorem cw_L_89 (M : nM) (h : mOwn M = RL) : cxV M 89 mX6_byteAt (cTab 6).1 2 := ⟨by rw [h]; exact wOK_1 920 (by decide +kernel) (by decide +kernel), wOK_1 921 (by decide +kernel) (by decide +kernel), wOK_1 922 (by decide +kernel) (by decide +kernel), cb_X6_byteAt⟩
set_option maxRecDepth 100000 in
theorem cw_L_92 (M : nM) (h : mOwn M = RL) : cxS M 92 mL_byteAt 3 := ⟨by rw [h]; exact wOK_1 929 (by decide +kernel) (by decide +kernel), wOK_1 930 (by decide +kernel) (by decide +kernel), cb_L_byteAt⟩
set_option maxRecDepth 100000 in
theorem cw_L_95 (M : nM) (h : mOwn M = RL) : cxV M 95 mX6_byteByNodes (cTab 6).1 2 := ⟨by rw [h]; exact wOK_1 932 (by decide +kernel) (by decide +kernel), wOK_1 933 (by decide +kernel) (by decide +kernel), wOK_1 934 (by decide +kernel) (by decide +kernel), cb_X6_byteByNodes⟩
set_option maxRecDepth 100000 in
theorem cw_L_98 (M : nM) (h : mOwn M = RL) : cxS M 98 mL_find 4 := ⟨by rw [h]; exact wOK_1 656 (by decide +kernel) (by decide +kernel), wOK_1 657 (by decide +kernel) (by decide +kernel), cb_L_find⟩
set_option maxRecDepth 100000 in
theorem cw_L_102 (M : nM) (h : mOwn M = RL) : cxV M 102 mX6_cut (cTab 6).1 1 := ⟨by rw [h]; exact wOK_1 328 (by decide +kernel) (by decide +kernel), wOK_1 329 (by decide +kernel) (by decide +kernel), wOK_1 330 (by decide +kernel) (by decide +kernel), cb_X6_cut⟩
set_option maxRecDepth 100000 in
theorem cw_L_105 (M : nM) (h : mOwn M = RL) : cxV M 105 mX6_mount (cTab 6).1 1 := ⟨by rw [h]; exact wOK_1 400 (by decide +kernel) (by decide +kernel), wOK_1 401 (by decide +kernel) (by decide +kernel), wOK_1 402 (by decide +kernel) (by decide +kernel), cb_X6_mount⟩
set_option maxRecDepth 100000 in
theorem cw_L_109 (M : nM) (h : mOwn M = RL) : cxI M 109 mX6_init 0 := ⟨Or.inl (by rw [h]; exact wOK_1 55 (by decide +kernel) (by decide +kernel)), wOK_1 56 (by decide +kernel) (by decide +kernel), rfl, rfl, cb_X6_init⟩
set_option maxRecDepth 100000 in
theorem cw_L_110 (M : nM) (h : mOwn M = RL) : cxS M 110 mL_isSystem 7 := ⟨by rw [h]; exact wOK_1 909 (by decide +kernel) (by decide +kernel), wOK_1 910 (by decide +kernel) (by decide +kernel), cb_L_isSystem⟩
set_option maxRecDepth 100000 in
theorem cw_L_116 (M : nM) (h : mOwn M = RL) : cxS M 116 mL_isDirectory 3 := ⟨by rw [h]; exact wOK_1 659 (by decide +kernel) (by decide +kernel), wOK_1 660 (by decide +kernel) (by decide +kernel), cb_L_isDirectory⟩
set_option maxRecDepth 100000 in
theorem cw_L_119 (M : nM) (h : mOwn M = RL) : cxS M 119 mL_frees 1 := ⟨by rw [h]; exact wOK_1 906 (by decide +kernel) (by decide +kernel), wOK_1 907 (by decide +kernel) (by decide +kernel), cb_L_frees⟩
set_option maxRecDepth 100000 in
theorem cw_L_123 (M : nM) (h : mOwn M = RL) : cxS M 123 mL_adds 6 := ⟨by rw [h]; exact wOK_1 671 (by decide +kernel) (by decide +kernel), wOK_1 672 (by decide +kernel) (by decide +kernel), cb_L_adds⟩
set_option maxRecDepth 100000 in
theorem cw_L_127 (M : nM) (h : mOwn M = RL) : cxS M 127 mL_opens 5 := ⟨by rw [h]; exact wOK_1 677 (by decide +kernel) (by decide +kernel), wOK_1 678 (by decide +kernel) (by decide +kernel), cb_L_opens⟩
set_option maxRecDepth 100000 in
theorem kc_X6_216 (M : nM) (h : mOwn M = RX6) : wOK (.constant (mOwn M) 216 (Int32.ofInt (2147483647))) := by rw [h]; exact wOK_1 936 (by decide +kernel) (by decide +kernel)
set_option maxRecDepth 100000 in
theorem kc_X2_49 (M : nM) (h : mOwn M = RX2) : wOK (.constant (mOwn M) 49 (Int32.ofInt (2147483647))) := by rw [h]; exact wOK_1 635 (by decide +kernel) (by decide +kernel)
set_option maxRecDepth 100000 in
theorem kc_X2_68 (M : nM) (h : mOwn M = RX2) : wOK (.constantLong (mOwn M) 68 (Int64.ofInt (-1))) := by rw [h]; exact wOK_1 655 (by decide +kernel) (by decide +kernel)
set_option maxRecDepth 100000 in
theorem kc_X4_67 (M : nM) (h : mOwn M = RX4) : wOK (.constantLong (mOwn M) 67 (Int64.ofInt (-1))) := by rw [h]; exact wOK_1 654 (by decide +kernel) (by decide +kernel)
set_option maxRecDepth 100000 in
theorem kc_X5_118 (M : nM) (h : mOwn M = RX5) : wOK (.constant (mOwn M) 118 (Int32.ofInt (2147483647))) := by rw [h]; exact wOK_1 473 (by decide +kernel) (by decide +kernel)
set_option maxRecDepth 100000 in
theorem kc_L_16 (M : nM) (h : mOwn M = RL) : wOK (.constantLong (mOwn M) 16 (Int64.ofInt (255))) := by rw [h]; exact wOK_1 683 (by decide +kernel) (by decide +kernel)
set_option maxRecDepth 100000 in
theorem kc_L_18 (M : nM) (h : mOwn M = RL) : wOK (.constantLong (mOwn M) 18 (Int64.ofInt (-1))) := by rw [h]; exact wOK_1 684 (by decide +kernel) (by decide +kernel)
set_option maxRecDepth 100000 in
theorem kc_L_114 (M : nM) (h : mOwn M = RL) : wOK (.constant (mOwn M) 114 (Int32.ofInt (2147483647))) := by rw [h]; exact wOK_1 942 (by decide +kernel) (by decide +kernel)
set_option maxRecDepth 100000 in
theorem kc_L_115 (M : nM) (h : mOwn M = RL) : wOK (.constant (mOwn M) 115 (Int32.ofInt (42019))) := by rw [h]; exact wOK_1 943 (by decide +kernel) (by decide +kernel)
set_option maxRecDepth 100000 in
theorem kc_L_146 (M : nM) (h : mOwn M = RL) : wOK (.constantLong (mOwn M) 146 (Int64.ofInt (1103515245))) := by rw [h]; exact wOK_1 944 (by decide +kernel) (by decide +kernel)
set_option maxRecDepth 100000 in
theorem kc_L_148 (M : nM) (h : mOwn M = RL) : wOK (.constantLong (mOwn M) 148 (Int64.ofInt (12345))) := by rw [h]; exact wOK_1 945 (by decide +kernel) (by decide +kernel)
set_option maxRecDepth 100000 in
theorem kl_X6_7 (M : nM) (h : mOwn M = RX6) : wOK (.classLink (mOwn M) 7 (cTab 0).1) := by rw [h]; exact wOK_1 61 (by decide +kernel) (by decide +kernel)
set_option maxRecDepth 100000 in
theorem kl_X6_16 (M : nM) (h : mOwn M = RX6) : wOK (.classLink (mOwn M) 16 (cTab 3).1) := by rw [h]; exact wOK_1 166 (by decide +kernel) (by decide +kernel)
set_option maxRecDepth 100000 in
theorem kl_X6_25 (M : nM) (h : mOwn M = RX6) : wOK (.classLink (mOwn M) 25 (cTab 5).1) := by rw [h]; exact wOK_1 208 (by decide +kernel) (by decide +kernel)
set_option maxRecDepth 100000 in
theorem kl_X6_32 (M : nM) (h : mOwn M = RX6) : wOK (.classLink (mOwn M) 32 (cTab 2).1) := by rw [h]; exact wOK_1 286 (by decide +kernel) (by decide +kernel)
set_option maxRecDepth 100000 in
theorem kl_X6_41 (M : nM) (h : mOwn M = RX6) : wOK (.classLink (mOwn M) 41 (cTab 4).1) := by rw [h]; exact wOK_1 310 (by decide +kernel) (by decide +kernel)
set_option maxRecDepth 100000 in
theorem kl_X0_9 (M : nM) (h : mOwn M = RX0) : wOK (.classLink (mOwn M) 9 (cTab 4).1) := by rw [h]; exact wOK_1 67 (by decide +kernel) (by decide +kernel)
set_option maxRecDepth 100000 in
theorem kl_X2_9 (M : nM) (h : mOwn M = RX2) : wOK (.classLink (mOwn M) 9 (cTab 4).1) := by rw [h]; exact wOK_1 292 (by decide +kernel) (by decide +kernel)
set_option maxRecDepth 100000 in
theorem kl_X3_9 (M : nM) (h : mOwn M = RX3) : wOK (.classLink (mOwn M) 9 (cTab 4).1) := by rw [h]; exact wOK_1 172 (by decide +kernel) (by decide +kernel)
set_option maxRecDepth 100000 in
theorem kl_X5_11 (M : nM) (h : mOwn M = RX5) : wOK (.classLink (mOwn M) 11 (cTab 1).1) := by rw [h]; exact wOK_1 214 (by decide +kernel) (by decide +kernel)
set_option maxRecDepth 100000 in
theorem kl_L_21 (M : nM) (h : mOwn M = RL) : wOK (.classLink (mOwn M) 21 (cTab 6).1) := by rw [h]; exact wOK_1 53 (by decide +kernel) (by decide +kernel)
set_option maxRecDepth 100000 in
theorem ki_0 : wOK (.instantiable (cTab 0).1 (cTab 0).2.2) ∧ wOK (.initialized (cTab 0).1) := ⟨wOK_1 62 (by decide +kernel) (by decide +kernel), wOK_1 40 (by decide +kernel) (by decide +kernel)⟩
set_option maxRecDepth 100000 in
theorem ki_1 : wOK (.instantiable (cTab 1).1 (cTab 1).2.2) ∧ wOK (.initialized (cTab 1).1) := ⟨wOK_1 224 (by decide +kernel) (by decide +kernel), wOK_1 44 (by decide +kernel) (by decide +kernel)⟩
set_option maxRecDepth 100000 in
theorem ki_2 : wOK (.instantiable (cTab 2).1 (cTab 2).2.2) ∧ wOK (.initialized (cTab 2).1) := ⟨wOK_1 287 (by decide +kernel) (by decide +kernel), wOK_1 46 (by decide +kernel) (by decide +kernel)⟩
set_option maxRecDepth 100000 in
theorem ki_3 : wOK (.instantiable (cTab 3).1 (cTab 3).2.2) ∧ wOK (.initialized (cTab 3).1) := ⟨wOK_1 167 (by decide +kernel) (by decide +kernel), wOK_1 42 (by decide +kernel) (by decide +kernel)⟩
set_option maxRecDepth 100000 in
theorem ki_4 : wOK (.instantiable (cTab 4).1 (cTab 4).2.2) ∧ wOK (.initialized (cTab 4).1) := ⟨wOK_1 69 (by decide +kernel) (by decide +kernel), wOK_1 41 (by decide +kernel) (by decide +kernel)⟩
set_option maxRecDepth 100000 in
theorem ki_5 : wOK (.instantiable (cTab 5).1 (cTab 5).2.2) ∧ wOK (.initialized (cTab 5).1) := ⟨wOK_1 209 (by decide +kernel) (by decide +kernel), wOK_1 43 (by decide +kernel) (by decide +kernel)⟩
set_option maxRecDepth 100000 in
theorem ki_6 : wOK (.instantiable (cTab 6).1 (cTab 6).2.2) ∧ wOK (.initialized (cTab 6).1) := ⟨wOK_1 54 (by decide +kernel) (by decide +kernel), wOK_1 39 (by decide +kernel) (by decide +kernel)⟩
theorem ks_X6_108 : (RX6, 108, "the directory has names in it") ∈ nStrs := List.mem_of_getElem? (i := 0) rfl
theorem ks_X6_133 : (RX6, 133, "the offset is not 0 to 63") ∈ nStrs := List.mem_of_getElem? (i := 1) rfl
theorem ks_X6_136 : (RX6, 136, "n is out of range") ∈ nStrs := List.mem_of_getElem? (i := 2) rfl
theorem ks_X6_155 : (RX6, 155, "the length is not 0 to 64") ∈ nStrs := List.mem_of_getElem? (i := 3) rfl
theorem ks_X6_160 : (RX6, 160, "the draw is not 0 to 127") ∈ nStrs := List.mem_of_getElem? (i := 4) rfl
theorem ks_X6_165 : (RX6, 165, "no block is closed") ∈ nStrs := List.mem_of_getElem? (i := 5) rfl
theorem ks_X6_181 : (RX6, 181, "the units are not 0 to 1000, nor NONE") ∈ nStrs := List.mem_of_getElem? (i := 6) rfl
theorem ks_X6_204 : (RX6, 204, "the directory has not so many names") ∈ nStrs := List.mem_of_getElem? (i := 7) rfl
theorem ks_X6_273 : (RX6, 273, "it is dark") ∈ nStrs := List.mem_of_getElem? (i := 8) rfl
theorem ks_X6_275 : (RX6, 275, "there is nothing with this number") ∈ nStrs := List.mem_of_getElem? (i := 9) rfl
theorem ks_X6_277 : (RX6, 277, "this number is that of a file") ∈ nStrs := List.mem_of_getElem? (i := 10) rfl
theorem ks_X6_279 : (RX6, 279, "this number is that of a directory") ∈ nStrs := List.mem_of_getElem? (i := 11) rfl
theorem ks_X6_281 : (RX6, 281, "nothing has this name") ∈ nStrs := List.mem_of_getElem? (i := 12) rfl
theorem ks_X6_283 : (RX6, 283, "the name is not 1 to 99") ∈ nStrs := List.mem_of_getElem? (i := 13) rfl
theorem ks_X6_285 : (RX6, 285, "the name is taken") ∈ nStrs := List.mem_of_getElem? (i := 14) rfl
theorem ks_X6_287 : (RX6, 287, "both names are those of the same number") ∈ nStrs := List.mem_of_getElem? (i := 15) rfl
theorem ks_X6_289 : (RX6, 289, "the new name is taken") ∈ nStrs := List.mem_of_getElem? (i := 16) rfl
theorem ks_X6_295 : (RX6, 295, "a directory would come into itself, or below itself") ∈ nStrs := List.mem_of_getElem? (i := 17) rfl
theorem ks_X6_297 : (RX6, 297, "the file has no such byte") ∈ nStrs := List.mem_of_getElem? (i := 18) rfl
theorem ks_X6_299 : (RX6, 299, "there is no such block") ∈ nStrs := List.mem_of_getElem? (i := 19) rfl
theorem ks_X6_310 : (RX6, 310, "there is no room") ∈ nStrs := List.mem_of_getElem? (i := 20) rfl
theorem ks_X6_315 : (RX6, 315, "there is no room for the copies") ∈ nStrs := List.mem_of_getElem? (i := 21) rfl
set_option maxRecDepth 100000 in
theorem ka_int : wOK (.arrayClass .int) := wOK_1 141 (by decide +kernel) (by decide +kernel)
set_option maxRecDepth 100000 in
theorem ka_long : wOK (.arrayClass .long) := wOK_1 946 (by decide +kernel) (by decide +kernel)
set_option maxRecDepth 100000 in
theorem kv_1 : Cond.arrayOver (.object RX1) ∈ lw_tbl := List.mem_of_getElem? (i := 215) (by decide +kernel)
set_option maxRecDepth 100000 in
theorem kv_4 : Cond.arrayOver (.object RX4) ∈ lw_tbl := List.mem_of_getElem? (i := 68) (by decide +kernel)
