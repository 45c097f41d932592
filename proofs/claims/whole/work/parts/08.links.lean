/-! ===== heads, words, links (written by wip/whole/mklinks.py) ===== -/
abbrev mX6_init : mM := (yX6_init, cX6_init, 2, none)
set_option maxRecDepth 100000 in
theorem mlX6_init : m_ML mX6_init 0 := ⟨m_mem 74 rfl rfl, m_mem 60 rfl rfl, by decide +kernel, by decide, by decide +kernel⟩
abbrev mX6_table : mM := (yX6_table, cX6_table, 1, some .int)
set_option maxRecDepth 100000 in
theorem mlX6_table : m_ML mX6_table 0 := ⟨m_mem 271 rfl rfl, m_mem 60 rfl rfl, by decide +kernel, by decide, by decide +kernel⟩
abbrev mX6_column : mM := (yX6_column, cX6_column, 5, some .int)
set_option maxRecDepth 100000 in
theorem mlX6_column : m_ML mX6_column 3 := ⟨m_mem 275 rfl rfl, m_mem 60 rfl rfl, by decide +kernel, by decide, by decide +kernel⟩
abbrev mX6_cell : mM := (yX6_cell, cX6_cell, 2, some .int)
set_option maxRecDepth 100000 in
theorem mlX6_cell : m_ML mX6_cell 1 := ⟨m_mem 287 rfl rfl, m_mem 60 rfl rfl, by decide +kernel, by decide, by decide +kernel⟩
abbrev mX6_row : mM := (yX6_row, cX6_row, 5, some .int)
set_option maxRecDepth 100000 in
theorem mlX6_row : m_ML mX6_row 1 := ⟨m_mem 291 rfl rfl, m_mem 60 rfl rfl, by decide +kernel, by decide, by decide +kernel⟩
abbrev mX6_wipe : mM := (yX6_wipe, cX6_wipe, 2, some .int)
set_option maxRecDepth 100000 in
theorem mlX6_wipe : m_ML mX6_wipe 0 := ⟨m_mem 334 rfl rfl, m_mem 60 rfl rfl, by decide +kernel, by decide, by decide +kernel⟩
abbrev mX6_owner : mM := (yX6_owner, cX6_owner, 6, some .int)
set_option maxRecDepth 100000 in
theorem mlX6_owner : m_ML mX6_owner 2 := ⟨m_mem 338 rfl rfl, m_mem 60 rfl rfl, by decide +kernel, by decide, by decide +kernel⟩
abbrev mX6_mask : mM := (yX6_mask, cX6_mask, 6, some .int)
set_option maxRecDepth 100000 in
theorem mlX6_mask : m_ML mX6_mask 4 := ⟨m_mem 346 rfl rfl, m_mem 60 rfl rfl, by decide +kernel, by decide, by decide +kernel⟩
abbrev mX6_dial : mM := (yX6_dial, cX6_dial, 8, some .int)
set_option maxRecDepth 100000 in
theorem mlX6_dial : m_ML mX6_dial 5 := ⟨m_mem 356 rfl rfl, m_mem 60 rfl rfl, by decide +kernel, by decide, by decide +kernel⟩
abbrev mX6_seed : mM := (yX6_seed, cX6_seed, 3, some .int)
set_option maxRecDepth 100000 in
theorem mlX6_seed : m_ML mX6_seed 1 := ⟨m_mem 367 rfl rfl, m_mem 60 rfl rfl, by decide +kernel, by decide, by decide +kernel⟩
abbrev mX6_order : mM := (yX6_order, cX6_order, 7, some .int)
set_option maxRecDepth 100000 in
theorem mlX6_order : m_ML mX6_order 3 := ⟨m_mem 371 rfl rfl, m_mem 60 rfl rfl, by decide +kernel, by decide, by decide +kernel⟩
abbrev mX6_agree : mM := (yX6_agree, cX6_agree, 11, some .int)
set_option maxRecDepth 100000 in
theorem mlX6_agree : m_ML mX6_agree 6 := ⟨m_mem 387 rfl rfl, m_mem 60 rfl rfl, by decide +kernel, by decide, by decide +kernel⟩
abbrev mX6_found : mM := (yX6_found, cX6_found, 5, some .int)
set_option maxRecDepth 100000 in
theorem mlX6_found : m_ML mX6_found 2 := ⟨m_mem 398 rfl rfl, m_mem 60 rfl rfl, by decide +kernel, by decide, by decide +kernel⟩
abbrev mX6_unrule : mM := (yX6_unrule, cX6_unrule, 2, some .int)
set_option maxRecDepth 100000 in
theorem mlX6_unrule : m_ML mX6_unrule 0 := ⟨m_mem 406 rfl rfl, m_mem 60 rfl rfl, by decide +kernel, by decide, by decide +kernel⟩
abbrev mX6_broken : mM := (yX6_broken, cX6_broken, 3, some .int)
set_option maxRecDepth 100000 in
theorem mlX6_broken : m_ML mX6_broken 1 := ⟨m_mem 410 rfl rfl, m_mem 60 rfl rfl, by decide +kernel, by decide, by decide +kernel⟩
abbrev mX6_make : mM := (yX6_make, cX6_make, 3, some .int)
set_option maxRecDepth 100000 in
theorem mlX6_make : m_ML mX6_make 0 := ⟨m_mem 434 rfl rfl, m_mem 60 rfl rfl, by decide +kernel, by decide, by decide +kernel⟩
abbrev mX6_at : mM := (yX6_at, cX6_at, 6, some .int)
set_option maxRecDepth 100000 in
theorem mlX6_at : m_ML mX6_at 4 := ⟨m_mem 522 rfl rfl, m_mem 60 rfl rfl, by decide +kernel, by decide, by decide +kernel⟩
abbrev mX6_turned : mM := (yX6_turned, cX6_turned, 6, some .int)
set_option maxRecDepth 100000 in
theorem mlX6_turned : m_ML mX6_turned 3 := ⟨m_mem 530 rfl rfl, m_mem 60 rfl rfl, by decide +kernel, by decide, by decide +kernel⟩
abbrev mX6_shift : mM := (yX6_shift, cX6_shift, 2, some .int)
set_option maxRecDepth 100000 in
theorem mlX6_shift : m_ML mX6_shift 1 := ⟨m_mem 534 rfl rfl, m_mem 60 rfl rfl, by decide +kernel, by decide, by decide +kernel⟩
abbrev mX6_count : mM := (yX6_count, cX6_count, 6, some .int)
set_option maxRecDepth 100000 in
theorem mlX6_count : m_ML mX6_count 4 := ⟨m_mem 538 rfl rfl, m_mem 60 rfl rfl, by decide +kernel, by decide, by decide +kernel⟩
abbrev mX6_joins : mM := (yX6_joins, cX6_joins, 8, some .int)
set_option maxRecDepth 100000 in
theorem mlX6_joins : m_ML mX6_joins 3 := ⟨m_mem 542 rfl rfl, m_mem 60 rfl rfl, by decide +kernel, by decide, by decide +kernel⟩
abbrev mX6_miss : mM := (yX6_miss, cX6_miss, 8, some .int)
set_option maxRecDepth 100000 in
theorem mlX6_miss : m_ML mX6_miss 2 := ⟨m_mem 546 rfl rfl, m_mem 60 rfl rfl, by decide +kernel, by decide, by decide +kernel⟩
abbrev mX6_could : mM := (yX6_could, cX6_could, 4, some .int)
set_option maxRecDepth 100000 in
theorem mlX6_could : m_ML mX6_could 3 := ⟨m_mem 553 rfl rfl, m_mem 60 rfl rfl, by decide +kernel, by decide, by decide +kernel⟩
abbrev mX6_alike : mM := (yX6_alike, cX6_alike, 5, some .int)
set_option maxRecDepth 100000 in
theorem mlX6_alike : m_ML mX6_alike 2 := ⟨m_mem 590 rfl rfl, m_mem 60 rfl rfl, by decide +kernel, by decide, by decide +kernel⟩
abbrev mX6_sure : mM := (yX6_sure, cX6_sure, 8, some .int)
set_option maxRecDepth 100000 in
theorem mlX6_sure : m_ML mX6_sure 4 := ⟨m_mem 595 rfl rfl, m_mem 60 rfl rfl, by decide +kernel, by decide, by decide +kernel⟩
abbrev mX6_loss : mM := (yX6_loss, cX6_loss, 4, some .int)
set_option maxRecDepth 100000 in
theorem mlX6_loss : m_ML mX6_loss 2 := ⟨m_mem 599 rfl rfl, m_mem 60 rfl rfl, by decide +kernel, by decide, by decide +kernel⟩
abbrev mX6_best : mM := (yX6_best, cX6_best, 8, some .int)
set_option maxRecDepth 100000 in
theorem mlX6_best : m_ML mX6_best 3 := ⟨m_mem 607 rfl rfl, m_mem 60 rfl rfl, by decide +kernel, by decide, by decide +kernel⟩
abbrev mX6_about : mM := (yX6_about, cX6_about, 6, some .int)
set_option maxRecDepth 100000 in
theorem mlX6_about : m_ML mX6_about 3 := ⟨m_mem 679 rfl rfl, m_mem 60 rfl rfl, by decide +kernel, by decide, by decide +kernel⟩
abbrev mX6_all : mM := (yX6_all, cX6_all, 2, some .int)
set_option maxRecDepth 100000 in
theorem mlX6_all : m_ML mX6_all 1 := ⟨m_mem 683 rfl rfl, m_mem 60 rfl rfl, by decide +kernel, by decide, by decide +kernel⟩
abbrev mX6_tableAt : mM := (yX6_tableAt, cX6_tableAt, 2, some (.object "MaskedCopies$Table"))
set_option maxRecDepth 100000 in
theorem mlX6_tableAt : m_ML mX6_tableAt 1 := ⟨m_mem 279 rfl rfl, m_mem 60 rfl rfl, by decide +kernel, by decide, by decide +kernel⟩
abbrev mX6_columnAt : mM := (yX6_columnAt, cX6_columnAt, 4, some (.object "MaskedCopies$Column"))
set_option maxRecDepth 100000 in
theorem mlX6_columnAt : m_ML mX6_columnAt 2 := ⟨m_mem 342 rfl rfl, m_mem 60 rfl rfl, by decide +kernel, by decide, by decide +kernel⟩
abbrev mX6_rowsOf : mM := (yX6_rowsOf, cX6_rowsOf, 3, some .int)
set_option maxRecDepth 100000 in
theorem mlX6_rowsOf : m_ML mX6_rowsOf 1 := ⟨m_mem 318 rfl rfl, m_mem 60 rfl rfl, by decide +kernel, by decide, by decide +kernel⟩
abbrev mX6_columnsOf : mM := (yX6_columnsOf, cX6_columnsOf, 3, some .int)
set_option maxRecDepth 100000 in
theorem mlX6_columnsOf : m_ML mX6_columnsOf 1 := ⟨m_mem 561 rfl rfl, m_mem 60 rfl rfl, by decide +kernel, by decide, by decide +kernel⟩
abbrev mX6_isRow : mM := (yX6_isRow, cX6_isRow, 3, some .boolean)
set_option maxRecDepth 100000 in
theorem mlX6_isRow : m_ML mX6_isRow 2 := ⟨m_mem 526 rfl rfl, m_mem 60 rfl rfl, by decide +kernel, by decide, by decide +kernel⟩
abbrev mX6_copyOf : mM := (yX6_copyOf, cX6_copyOf, 2, some (.object "MaskedCopies$Copy"))
set_option maxRecDepth 100000 in
theorem mlX6_copyOf : m_ML mX6_copyOf 1 := ⟨m_mem 414 rfl rfl, m_mem 60 rfl rfl, by decide +kernel, by decide, by decide +kernel⟩
abbrev mX6_areColumns : mM := (yX6_areColumns, cX6_areColumns, 3, some .boolean)
set_option maxRecDepth 100000 in
theorem mlX6_areColumns : m_ML mX6_areColumns 2 := ⟨m_mem 557 rfl rfl, m_mem 60 rfl rfl, by decide +kernel, by decide, by decide +kernel⟩
abbrev mX6_rowsWith : mM := (yX6_rowsWith, cX6_rowsWith, 7, some .int)
set_option maxRecDepth 100000 in
theorem mlX6_rowsWith : m_ML mX6_rowsWith 4 := ⟨m_mem 314 rfl rfl, m_mem 60 rfl rfl, by decide +kernel, by decide, by decide +kernel⟩
abbrev mX6_isBit : mM := (yX6_isBit, cX6_isBit, 1, some .boolean)
set_option maxRecDepth 100000 in
theorem mlX6_isBit : m_ML mX6_isBit 1 := ⟨m_mem 390 rfl rfl, m_mem 60 rfl rfl, by decide +kernel, by decide, by decide +kernel⟩
abbrev mX6_hasBit : mM := (yX6_hasBit, cX6_hasBit, 2, some .boolean)
set_option maxRecDepth 100000 in
theorem mlX6_hasBit : m_ML mX6_hasBit 2 := ⟨m_mem 572 rfl rfl, m_mem 60 rfl rfl, by decide +kernel, by decide, by decide +kernel⟩
abbrev mX6_rightFigure : mM := (yX6_rightFigure, cX6_rightFigure, 5, some .int)
set_option maxRecDepth 100000 in
theorem mlX6_rightFigure : m_ML mX6_rightFigure 1 := ⟨m_mem 310 rfl rfl, m_mem 60 rfl rfl, by decide +kernel, by decide, by decide +kernel⟩
abbrev mX6_isKeyNumber : mM := (yX6_isKeyNumber, cX6_isKeyNumber, 1, some .boolean)
set_option maxRecDepth 100000 in
theorem mlX6_isKeyNumber : m_ML mX6_isKeyNumber 1 := ⟨m_mem 306 rfl rfl, m_mem 60 rfl rfl, by decide +kernel, by decide, by decide +kernel⟩
abbrev mX6_isNumberOfKind : mM := (yX6_isNumberOfKind, cX6_isNumberOfKind, 2, some .boolean)
set_option maxRecDepth 100000 in
theorem mlX6_isNumberOfKind : m_ML mX6_isNumberOfKind 2 := ⟨m_mem 303 rfl rfl, m_mem 60 rfl rfl, by decide +kernel, by decide, by decide +kernel⟩
abbrev mX6_waitingCellsFit : mM := (yX6_waitingCellsFit, cX6_waitingCellsFit, 5, some .boolean)
set_option maxRecDepth 100000 in
theorem mlX6_waitingCellsFit : m_ML mX6_waitingCellsFit 1 := ⟨m_mem 295 rfl rfl, m_mem 60 rfl rfl, by decide +kernel, by decide, by decide +kernel⟩
abbrev mX6_isMaskOf : mM := (yX6_isMaskOf, cX6_isMaskOf, 2, some .boolean)
set_option maxRecDepth 100000 in
theorem mlX6_isMaskOf : m_ML mX6_isMaskOf 2 := ⟨m_mem 349 rfl rfl, m_mem 60 rfl rfl, by decide +kernel, by decide, by decide +kernel⟩
abbrev mX6_isNumberOf : mM := (yX6_isNumberOf, cX6_isNumberOf, 2, some .boolean)
set_option maxRecDepth 100000 in
theorem mlX6_isNumberOf : m_ML mX6_isNumberOf 2 := ⟨m_mem 352 rfl rfl, m_mem 60 rfl rfl, by decide +kernel, by decide, by decide +kernel⟩
abbrev mX6_dialDigit : mM := (yX6_dialDigit, cX6_dialDigit, 5, some .int)
set_option maxRecDepth 100000 in
theorem mlX6_dialDigit : m_ML mX6_dialDigit 4 := ⟨m_mem 359 rfl rfl, m_mem 60 rfl rfl, by decide +kernel, by decide, by decide +kernel⟩
abbrev mX6_draftMasked : mM := (yX6_draftMasked, cX6_draftMasked, 7, none)
set_option maxRecDepth 100000 in
theorem mlX6_draftMasked : m_ML mX6_draftMasked 1 := ⟨m_mem 438 rfl rfl, m_mem 60 rfl rfl, by decide +kernel, by decide, by decide +kernel⟩
abbrev mX6_maskedCell : mM := (yX6_maskedCell, cX6_maskedCell, 8, some .int)
set_option maxRecDepth 100000 in
theorem mlX6_maskedCell : m_ML mX6_maskedCell 4 := ⟨m_mem 483 rfl rfl, m_mem 60 rfl rfl, by decide +kernel, by decide, by decide +kernel⟩
abbrev mX6_turnedRef : mM := (yX6_turnedRef, cX6_turnedRef, 4, some .int)
set_option maxRecDepth 100000 in
theorem mlX6_turnedRef : m_ML mX6_turnedRef 2 := ⟨m_mem 491 rfl rfl, m_mem 60 rfl rfl, by decide +kernel, by decide, by decide +kernel⟩
abbrev mX6_dealtCell : mM := (yX6_dealtCell, cX6_dealtCell, 6, some .int)
set_option maxRecDepth 100000 in
theorem mlX6_dealtCell : m_ML mX6_dealtCell 4 := ⟨m_mem 487 rfl rfl, m_mem 60 rfl rfl, by decide +kernel, by decide, by decide +kernel⟩
abbrev mX6_tooFine : mM := (yX6_tooFine, cX6_tooFine, 2, some .int)
set_option maxRecDepth 100000 in
theorem mlX6_tooFine : m_ML mX6_tooFine 2 := ⟨m_mem 507 rfl rfl, m_mem 60 rfl rfl, by decide +kernel, by decide, by decide +kernel⟩
abbrev mX6_lossBy : mM := (yX6_lossBy, cX6_lossBy, 7, some .int)
set_option maxRecDepth 100000 in
theorem mlX6_lossBy : m_ML mX6_lossBy 3 := ⟨m_mem 603 rfl rfl, m_mem 60 rfl rfl, by decide +kernel, by decide, by decide +kernel⟩
abbrev mX6_ownerOf : mM := (yX6_ownerOf, cX6_ownerOf, 4, some .int)
set_option maxRecDepth 100000 in
theorem mlX6_ownerOf : m_ML mX6_ownerOf 2 := ⟨m_mem 451 rfl rfl, m_mem 60 rfl rfl, by decide +kernel, by decide, by decide +kernel⟩
abbrev mX6_shiftOf : mM := (yX6_shiftOf, cX6_shiftOf, 4, some .int)
set_option maxRecDepth 100000 in
theorem mlX6_shiftOf : m_ML mX6_shiftOf 1 := ⟨m_mem 455 rfl rfl, m_mem 60 rfl rfl, by decide +kernel, by decide, by decide +kernel⟩
abbrev mX6_narrowRoom : mM := (yX6_narrowRoom, cX6_narrowRoom, 5, none)
set_option maxRecDepth 100000 in
theorem mlX6_narrowRoom : m_ML mX6_narrowRoom 2 := ⟨m_mem 463 rfl rfl, m_mem 60 rfl rfl, by decide +kernel, by decide, by decide +kernel⟩
abbrev mX6_narrowRoomByRow : mM := (yX6_narrowRoomByRow, cX6_narrowRoomByRow, 6, none)
set_option maxRecDepth 100000 in
theorem mlX6_narrowRoomByRow : m_ML mX6_narrowRoomByRow 3 := ⟨m_mem 467 rfl rfl, m_mem 60 rfl rfl, by decide +kernel, by decide, by decide +kernel⟩
abbrev mX6_nextRule : mM := (yX6_nextRule, cX6_nextRule, 1, some (.object "MaskedCopies$Rule"))
set_option maxRecDepth 100000 in
theorem mlX6_nextRule : m_ML mX6_nextRule 0 := ⟨m_mem 375 rfl rfl, m_mem 60 rfl rfl, by decide +kernel, by decide, by decide +kernel⟩
abbrev mX6_addRule : mM := (yX6_addRule, cX6_addRule, 1, some .int)
set_option maxRecDepth 100000 in
theorem mlX6_addRule : m_ML mX6_addRule 0 := ⟨m_mem 383 rfl rfl, m_mem 60 rfl rfl, by decide +kernel, by decide, by decide +kernel⟩
abbrev mX6_firstBroken : mM := (yX6_firstBroken, cX6_firstBroken, 3, some .int)
set_option maxRecDepth 100000 in
theorem mlX6_firstBroken : m_ML mX6_firstBroken 1 := ⟨m_mem 418 rfl rfl, m_mem 60 rfl rfl, by decide +kernel, by decide, by decide +kernel⟩
abbrev mX6_ruleHolds : mM := (yX6_ruleHolds, cX6_ruleHolds, 4, some .boolean)
set_option maxRecDepth 100000 in
theorem mlX6_ruleHolds : m_ML mX6_ruleHolds 2 := ⟨m_mem 422 rfl rfl, m_mem 60 rfl rfl, by decide +kernel, by decide, by decide +kernel⟩
abbrev mX6_holdsInRow : mM := (yX6_holdsInRow, cX6_holdsInRow, 7, some .boolean)
set_option maxRecDepth 100000 in
theorem mlX6_holdsInRow : m_ML mX6_holdsInRow 3 := ⟨m_mem 426 rfl rfl, m_mem 60 rfl rfl, by decide +kernel, by decide, by decide +kernel⟩
abbrev mX6_partsOf : mM := (yX6_partsOf, cX6_partsOf, 8, some .int)
set_option maxRecDepth 100000 in
theorem mlX6_partsOf : m_ML mX6_partsOf 3 := ⟨m_mem 430 rfl rfl, m_mem 60 rfl rfl, by decide +kernel, by decide, by decide +kernel⟩
abbrev mX6_mendDraft : mM := (yX6_mendDraft, cX6_mendDraft, 2, none)
set_option maxRecDepth 100000 in
theorem mlX6_mendDraft : m_ML mX6_mendDraft 0 := ⟨m_mem 514 rfl rfl, m_mem 60 rfl rfl, by decide +kernel, by decide, by decide +kernel⟩
abbrev mX6_mendColumn : mM := (yX6_mendColumn, cX6_mendColumn, 3, none)
set_option maxRecDepth 100000 in
theorem mlX6_mendColumn : m_ML mX6_mendColumn 1 := ⟨m_mem 518 rfl rfl, m_mem 60 rfl rfl, by decide +kernel, by decide, by decide +kernel⟩
abbrev mX6_couldSet : mM := (yX6_couldSet, cX6_couldSet, 6, some .int)
set_option maxRecDepth 100000 in
theorem mlX6_couldSet : m_ML mX6_couldSet 3 := ⟨m_mem 565 rfl rfl, m_mem 60 rfl rfl, by decide +kernel, by decide, by decide +kernel⟩
abbrev mX6_looksSame : mM := (yX6_looksSame, cX6_looksSame, 6, some .boolean)
set_option maxRecDepth 100000 in
theorem mlX6_looksSame : m_ML mX6_looksSame 4 := ⟨m_mem 569 rfl rfl, m_mem 60 rfl rfl, by decide +kernel, by decide, by decide +kernel⟩
abbrev mX6_isPlain : mM := (yX6_isPlain, cX6_isPlain, 5, some .boolean)
set_option maxRecDepth 100000 in
theorem mlX6_isPlain : m_ML mX6_isPlain 2 := ⟨m_mem 576 rfl rfl, m_mem 60 rfl rfl, by decide +kernel, by decide, by decide +kernel⟩
abbrev mX6_movesSame : mM := (yX6_movesSame, cX6_movesSame, 11, some .boolean)
set_option maxRecDepth 100000 in
theorem mlX6_movesSame : m_ML mX6_movesSame 4 := ⟨m_mem 580 rfl rfl, m_mem 60 rfl rfl, by decide +kernel, by decide, by decide +kernel⟩
abbrev mX6_prepareSearch : mM := (yX6_prepareSearch, cX6_prepareSearch, 6, none)
set_option maxRecDepth 100000 in
theorem mlX6_prepareSearch : m_ML mX6_prepareSearch 2 := ⟨m_mem 611 rfl rfl, m_mem 60 rfl rfl, by decide +kernel, by decide, by decide +kernel⟩
abbrev mX6_offerWidths : mM := (yX6_offerWidths, cX6_offerWidths, 8, none)
set_option maxRecDepth 100000 in
theorem mlX6_offerWidths : m_ML mX6_offerWidths 3 := ⟨m_mem 620 rfl rfl, m_mem 60 rfl rfl, by decide +kernel, by decide, by decide +kernel⟩
abbrev mX6_sameBy : mM := (yX6_sameBy, cX6_sameBy, 8, some .int)
set_option maxRecDepth 100000 in
theorem mlX6_sameBy : m_ML mX6_sameBy 4 := ⟨m_mem 641 rfl rfl, m_mem 60 rfl rfl, by decide +kernel, by decide, by decide +kernel⟩
abbrev mX6_coarseOrMissing : mM := (yX6_coarseOrMissing, cX6_coarseOrMissing, 2, some .int)
set_option maxRecDepth 100000 in
theorem mlX6_coarseOrMissing : m_ML mX6_coarseOrMissing 2 := ⟨m_mem 644 rfl rfl, m_mem 60 rfl rfl, by decide +kernel, by decide, by decide +kernel⟩
abbrev mX7_init : mM := (yX7_init, cX7_init, 1, none)
set_option maxRecDepth 100000 in
theorem mlX7_init : m_ML mX7_init 0 := ⟨m_mem 688 rfl rfl, m_mem 67 rfl rfl, by decide +kernel, by decide, by decide +kernel⟩
abbrev mX7_in : mM := (yX7_in, cX7_in, 3, some .boolean)
set_option maxRecDepth 100000 in
theorem mlX7_in : m_ML mX7_in 3 := ⟨m_mem 802 rfl rfl, m_mem 67 rfl rfl, by decide +kernel, by decide, by decide +kernel⟩
abbrev mX7_isTable : mM := (yX7_isTable, cX7_isTable, 2, some .boolean)
set_option maxRecDepth 100000 in
theorem mlX7_isTable : m_ML mX7_isTable 1 := ⟨m_mem 799 rfl rfl, m_mem 67 rfl rfl, by decide +kernel, by decide, by decide +kernel⟩
abbrev mX7_isColumn : mM := (yX7_isColumn, cX7_isColumn, 3, some .boolean)
set_option maxRecDepth 100000 in
theorem mlX7_isColumn : m_ML mX7_isColumn 2 := ⟨m_mem 836 rfl rfl, m_mem 67 rfl rfl, by decide +kernel, by decide, by decide +kernel⟩
abbrev mX7_isRow : mM := (yX7_isRow, cX7_isRow, 3, some .boolean)
set_option maxRecDepth 100000 in
theorem mlX7_isRow : m_ML mX7_isRow 2 := ⟨m_mem 938 rfl rfl, m_mem 67 rfl rfl, by decide +kernel, by decide, by decide +kernel⟩
abbrev mX7_cell : mM := (yX7_cell, cX7_cell, 3, some .int)
set_option maxRecDepth 100000 in
theorem mlX7_cell : m_ML mX7_cell 3 := ⟨m_mem 828 rfl rfl, m_mem 67 rfl rfl, by decide +kernel, by decide, by decide +kernel⟩
abbrev mX7_figure : mM := (yX7_figure, cX7_figure, 1, some .int)
set_option maxRecDepth 100000 in
theorem mlX7_figure : m_ML mX7_figure 1 := ⟨m_mem 825 rfl rfl, m_mem 67 rfl rfl, by decide +kernel, by decide, by decide +kernel⟩
abbrev mX7_isKey : mM := (yX7_isKey, cX7_isKey, 1, some .boolean)
set_option maxRecDepth 100000 in
theorem mlX7_isKey : m_ML mX7_isKey 1 := ⟨m_mem 821 rfl rfl, m_mem 67 rfl rfl, by decide +kernel, by decide, by decide +kernel⟩
abbrev mX7_table : mM := (yX7_table, cX7_table, 2, some .int)
set_option maxRecDepth 100000 in
theorem mlX7_table : m_ML mX7_table 0 := ⟨m_mem 787 rfl rfl, m_mem 67 rfl rfl, by decide +kernel, by decide, by decide +kernel⟩
abbrev mX7_begin : mM := (yX7_begin, cX7_begin, 4, none)
set_option maxRecDepth 100000 in
theorem mlX7_begin : m_ML mX7_begin 3 := ⟨m_mem 791 rfl rfl, m_mem 67 rfl rfl, by decide +kernel, by decide, by decide +kernel⟩
abbrev mX7_column : mM := (yX7_column, cX7_column, 4, some .int)
set_option maxRecDepth 100000 in
theorem mlX7_column : m_ML mX7_column 3 := ⟨m_mem 795 rfl rfl, m_mem 67 rfl rfl, by decide +kernel, by decide, by decide +kernel⟩
abbrev mX7_cell_ : mM := (yX7_cell_, cX7_cell_, 2, some .int)
set_option maxRecDepth 100000 in
theorem mlX7_cell_ : m_ML mX7_cell_ 1 := ⟨m_mem 806 rfl rfl, m_mem 67 rfl rfl, by decide +kernel, by decide, by decide +kernel⟩
abbrev mX7_wipe : mM := (yX7_wipe, cX7_wipe, 2, some .int)
set_option maxRecDepth 100000 in
theorem mlX7_wipe : m_ML mX7_wipe 0 := ⟨m_mem 810 rfl rfl, m_mem 67 rfl rfl, by decide +kernel, by decide, by decide +kernel⟩
abbrev mX7_isOf : mM := (yX7_isOf, cX7_isOf, 2, some .boolean)
set_option maxRecDepth 100000 in
theorem mlX7_isOf : m_ML mX7_isOf 2 := ⟨m_mem 817 rfl rfl, m_mem 67 rfl rfl, by decide +kernel, by decide, by decide +kernel⟩
abbrev mX7_row : mM := (yX7_row, cX7_row, 3, some .int)
set_option maxRecDepth 100000 in
theorem mlX7_row : m_ML mX7_row 1 := ⟨m_mem 814 rfl rfl, m_mem 67 rfl rfl, by decide +kernel, by decide, by decide +kernel⟩
abbrev mX7_owner : mM := (yX7_owner, cX7_owner, 4, some .int)
set_option maxRecDepth 100000 in
theorem mlX7_owner : m_ML mX7_owner 2 := ⟨m_mem 832 rfl rfl, m_mem 67 rfl rfl, by decide +kernel, by decide, by decide +kernel⟩
abbrev mX7_fits : mM := (yX7_fits, cX7_fits, 3, some .boolean)
set_option maxRecDepth 100000 in
theorem mlX7_fits : m_ML mX7_fits 3 := ⟨m_mem 843 rfl rfl, m_mem 67 rfl rfl, by decide +kernel, by decide, by decide +kernel⟩
abbrev mX7_mask : mM := (yX7_mask, cX7_mask, 5, some .int)
set_option maxRecDepth 100000 in
theorem mlX7_mask : m_ML mX7_mask 4 := ⟨m_mem 840 rfl rfl, m_mem 67 rfl rfl, by decide +kernel, by decide, by decide +kernel⟩
abbrev mX7_dial : mM := (yX7_dial, cX7_dial, 7, some .int)
set_option maxRecDepth 100000 in
theorem mlX7_dial : m_ML mX7_dial 5 := ⟨m_mem 847 rfl rfl, m_mem 67 rfl rfl, by decide +kernel, by decide, by decide +kernel⟩
abbrev mX7_seed : mM := (yX7_seed, cX7_seed, 3, some .int)
set_option maxRecDepth 100000 in
theorem mlX7_seed : m_ML mX7_seed 1 := ⟨m_mem 851 rfl rfl, m_mem 67 rfl rfl, by decide +kernel, by decide, by decide +kernel⟩
abbrev mX7_turnedKey : mM := (yX7_turnedKey, cX7_turnedKey, 7, some .int)
set_option maxRecDepth 100000 in
theorem mlX7_turnedKey : m_ML mX7_turnedKey 2 := ⟨m_mem 911 rfl rfl, m_mem 67 rfl rfl, by decide +kernel, by decide, by decide +kernel⟩
abbrev mX7_turnedName : mM := (yX7_turnedName, cX7_turnedName, 3, some .int)
set_option maxRecDepth 100000 in
theorem mlX7_turnedName : m_ML mX7_turnedName 2 := ⟨m_mem 915 rfl rfl, m_mem 67 rfl rfl, by decide +kernel, by decide, by decide +kernel⟩
abbrev mX7_ownerOf : mM := (yX7_ownerOf, cX7_ownerOf, 3, some .int)
set_option maxRecDepth 100000 in
theorem mlX7_ownerOf : m_ML mX7_ownerOf 2 := ⟨m_mem 919 rfl rfl, m_mem 67 rfl rfl, by decide +kernel, by decide, by decide +kernel⟩
abbrev mX7_shiftOf : mM := (yX7_shiftOf, cX7_shiftOf, 3, some .int)
set_option maxRecDepth 100000 in
theorem mlX7_shiftOf : m_ML mX7_shiftOf 1 := ⟨m_mem 923 rfl rfl, m_mem 67 rfl rfl, by decide +kernel, by decide, by decide +kernel⟩
abbrev mX7_stays : mM := (yX7_stays, cX7_stays, 7, some .boolean)
set_option maxRecDepth 100000 in
theorem mlX7_stays : m_ML mX7_stays 2 := ⟨m_mem 927 rfl rfl, m_mem 67 rfl rfl, by decide +kernel, by decide, by decide +kernel⟩
abbrev mX7_coarse : mM := (yX7_coarse, cX7_coarse, 3, some .int)
set_option maxRecDepth 100000 in
theorem mlX7_coarse : m_ML mX7_coarse 2 := ⟨m_mem 930 rfl rfl, m_mem 67 rfl rfl, by decide +kernel, by decide, by decide +kernel⟩
abbrev mX7_maskedCell : mM := (yX7_maskedCell, cX7_maskedCell, 6, some .int)
set_option maxRecDepth 100000 in
theorem mlX7_maskedCell : m_ML mX7_maskedCell 3 := ⟨m_mem 907 rfl rfl, m_mem 67 rfl rfl, by decide +kernel, by decide, by decide +kernel⟩
abbrev mX7_maskTable : mM := (yX7_maskTable, cX7_maskTable, 4, none)
set_option maxRecDepth 100000 in
theorem mlX7_maskTable : m_ML mX7_maskTable 1 := ⟨m_mem 903 rfl rfl, m_mem 67 rfl rfl, by decide +kernel, by decide, by decide +kernel⟩
abbrev mX7_rule : mM := (yX7_rule, cX7_rule, 5, some .int)
set_option maxRecDepth 100000 in
theorem mlX7_rule : m_ML mX7_rule 4 := ⟨m_mem 859 rfl rfl, m_mem 67 rfl rfl, by decide +kernel, by decide, by decide +kernel⟩
abbrev mX7_order : mM := (yX7_order, cX7_order, 4, some .int)
set_option maxRecDepth 100000 in
theorem mlX7_order : m_ML mX7_order 3 := ⟨m_mem 855 rfl rfl, m_mem 67 rfl rfl, by decide +kernel, by decide, by decide +kernel⟩
abbrev mX7_agree : mM := (yX7_agree, cX7_agree, 8, some .int)
set_option maxRecDepth 100000 in
theorem mlX7_agree : m_ML mX7_agree 6 := ⟨m_mem 863 rfl rfl, m_mem 67 rfl rfl, by decide +kernel, by decide, by decide +kernel⟩
abbrev mX7_found : mM := (yX7_found, cX7_found, 3, some .int)
set_option maxRecDepth 100000 in
theorem mlX7_found : m_ML mX7_found 2 := ⟨m_mem 867 rfl rfl, m_mem 67 rfl rfl, by decide +kernel, by decide, by decide +kernel⟩
abbrev mX7_unrule : mM := (yX7_unrule, cX7_unrule, 2, some .int)
set_option maxRecDepth 100000 in
theorem mlX7_unrule : m_ML mX7_unrule 0 := ⟨m_mem 871 rfl rfl, m_mem 67 rfl rfl, by decide +kernel, by decide, by decide +kernel⟩
abbrev mX7_sumFor : mM := (yX7_sumFor, cX7_sumFor, 7, some .int)
set_option maxRecDepth 100000 in
theorem mlX7_sumFor : m_ML mX7_sumFor 2 := ⟨m_mem 891 rfl rfl, m_mem 67 rfl rfl, by decide +kernel, by decide, by decide +kernel⟩
abbrev mX7_isKeyOf : mM := (yX7_isKeyOf, cX7_isKeyOf, 4, some .boolean)
set_option maxRecDepth 100000 in
theorem mlX7_isKeyOf : m_ML mX7_isKeyOf 2 := ⟨m_mem 895 rfl rfl, m_mem 67 rfl rfl, by decide +kernel, by decide, by decide +kernel⟩
abbrev mX7_holdsFor : mM := (yX7_holdsFor, cX7_holdsFor, 6, some .boolean)
set_option maxRecDepth 100000 in
theorem mlX7_holdsFor : m_ML mX7_holdsFor 2 := ⟨m_mem 887 rfl rfl, m_mem 67 rfl rfl, by decide +kernel, by decide, by decide +kernel⟩
abbrev mX7_firstBroken : mM := (yX7_firstBroken, cX7_firstBroken, 3, some .int)
set_option maxRecDepth 100000 in
theorem mlX7_firstBroken : m_ML mX7_firstBroken 0 := ⟨m_mem 883 rfl rfl, m_mem 67 rfl rfl, by decide +kernel, by decide, by decide +kernel⟩
abbrev mX7_see : mM := (yX7_see, cX7_see, 3, none)
set_option maxRecDepth 100000 in
theorem mlX7_see : m_ML mX7_see 1 := ⟨m_mem 879 rfl rfl, m_mem 67 rfl rfl, by decide +kernel, by decide, by decide +kernel⟩
abbrev mX7_broken : mM := (yX7_broken, cX7_broken, 2, some .int)
set_option maxRecDepth 100000 in
theorem mlX7_broken : m_ML mX7_broken 1 := ⟨m_mem 875 rfl rfl, m_mem 67 rfl rfl, by decide +kernel, by decide, by decide +kernel⟩
abbrev mX7_make : mM := (yX7_make, cX7_make, 4, some .int)
set_option maxRecDepth 100000 in
theorem mlX7_make : m_ML mX7_make 0 := ⟨m_mem 899 rfl rfl, m_mem 67 rfl rfl, by decide +kernel, by decide, by decide +kernel⟩
abbrev mX7_at : mM := (yX7_at, cX7_at, 5, some .int)
set_option maxRecDepth 100000 in
theorem mlX7_at : m_ML mX7_at 4 := ⟨m_mem 934 rfl rfl, m_mem 67 rfl rfl, by decide +kernel, by decide, by decide +kernel⟩
abbrev mX7_turned : mM := (yX7_turned, cX7_turned, 4, some .int)
set_option maxRecDepth 100000 in
theorem mlX7_turned : m_ML mX7_turned 3 := ⟨m_mem 942 rfl rfl, m_mem 67 rfl rfl, by decide +kernel, by decide, by decide +kernel⟩
abbrev mX7_shift : mM := (yX7_shift, cX7_shift, 2, some .int)
set_option maxRecDepth 100000 in
theorem mlX7_shift : m_ML mX7_shift 1 := ⟨m_mem 946 rfl rfl, m_mem 67 rfl rfl, by decide +kernel, by decide, by decide +kernel⟩
abbrev mX7_count : mM := (yX7_count, cX7_count, 7, some .int)
set_option maxRecDepth 100000 in
theorem mlX7_count : m_ML mX7_count 4 := ⟨m_mem 950 rfl rfl, m_mem 67 rfl rfl, by decide +kernel, by decide, by decide +kernel⟩
abbrev mX7_joins : mM := (yX7_joins, cX7_joins, 7, some .int)
set_option maxRecDepth 100000 in
theorem mlX7_joins : m_ML mX7_joins 3 := ⟨m_mem 954 rfl rfl, m_mem 67 rfl rfl, by decide +kernel, by decide, by decide +kernel⟩
abbrev mX7_miss : mM := (yX7_miss, cX7_miss, 7, some .int)
set_option maxRecDepth 100000 in
theorem mlX7_miss : m_ML mX7_miss 2 := ⟨m_mem 958 rfl rfl, m_mem 67 rfl rfl, by decide +kernel, by decide, by decide +kernel⟩
abbrev mX7_isKnown : mM := (yX7_isKnown, cX7_isKnown, 3, some .boolean)
set_option maxRecDepth 100000 in
theorem mlX7_isKnown : m_ML mX7_isKnown 2 := ⟨m_mem 966 rfl rfl, m_mem 67 rfl rfl, by decide +kernel, by decide, by decide +kernel⟩
abbrev mX7_isPlain : mM := (yX7_isPlain, cX7_isPlain, 4, some .boolean)
set_option maxRecDepth 100000 in
theorem mlX7_isPlain : m_ML mX7_isPlain 2 := ⟨m_mem 978 rfl rfl, m_mem 67 rfl rfl, by decide +kernel, by decide, by decide +kernel⟩
abbrev mX7_couldBe : mM := (yX7_couldBe, cX7_couldBe, 9, some .boolean)
set_option maxRecDepth 100000 in
theorem mlX7_couldBe : m_ML mX7_couldBe 4 := ⟨m_mem 974 rfl rfl, m_mem 67 rfl rfl, by decide +kernel, by decide, by decide +kernel⟩
abbrev mX7_couldOf : mM := (yX7_couldOf, cX7_couldOf, 6, some .int)
set_option maxRecDepth 100000 in
theorem mlX7_couldOf : m_ML mX7_couldOf 3 := ⟨m_mem 970 rfl rfl, m_mem 67 rfl rfl, by decide +kernel, by decide, by decide +kernel⟩
abbrev mX7_could : mM := (yX7_could, cX7_could, 4, some .int)
set_option maxRecDepth 100000 in
theorem mlX7_could : m_ML mX7_could 3 := ⟨m_mem 962 rfl rfl, m_mem 67 rfl rfl, by decide +kernel, by decide, by decide +kernel⟩
abbrev mX7_alikeOf : mM := (yX7_alikeOf, cX7_alikeOf, 6, some .int)
set_option maxRecDepth 100000 in
theorem mlX7_alikeOf : m_ML mX7_alikeOf 2 := ⟨m_mem 986 rfl rfl, m_mem 67 rfl rfl, by decide +kernel, by decide, by decide +kernel⟩
abbrev mX7_alike : mM := (yX7_alike, cX7_alike, 3, some .int)
set_option maxRecDepth 100000 in
theorem mlX7_alike : m_ML mX7_alike 2 := ⟨m_mem 982 rfl rfl, m_mem 67 rfl rfl, by decide +kernel, by decide, by decide +kernel⟩
abbrev mX7_sure : mM := (yX7_sure, cX7_sure, 7, some .int)
set_option maxRecDepth 100000 in
theorem mlX7_sure : m_ML mX7_sure 4 := ⟨m_mem 990 rfl rfl, m_mem 67 rfl rfl, by decide +kernel, by decide, by decide +kernel⟩
abbrev mX7_lossOf : mM := (yX7_lossOf, cX7_lossOf, 6, some .int)
set_option maxRecDepth 100000 in
theorem mlX7_lossOf : m_ML mX7_lossOf 2 := ⟨m_mem 998 rfl rfl, m_mem 67 rfl rfl, by decide +kernel, by decide, by decide +kernel⟩
abbrev mX7_loss : mM := (yX7_loss, cX7_loss, 3, some .int)
set_option maxRecDepth 100000 in
theorem mlX7_loss : m_ML mX7_loss 2 := ⟨m_mem 994 rfl rfl, m_mem 67 rfl rfl, by decide +kernel, by decide, by decide +kernel⟩
abbrev mX7_width : mM := (yX7_width, cX7_width, 1, some .int)
set_option maxRecDepth 100000 in
theorem mlX7_width : m_ML mX7_width 1 := ⟨m_mem 1009 rfl rfl, m_mem 67 rfl rfl, by decide +kernel, by decide, by decide +kernel⟩
abbrev mX7_gives : mM := (yX7_gives, cX7_gives, 7, some .int)
set_option maxRecDepth 100000 in
theorem mlX7_gives : m_ML mX7_gives 3 := ⟨m_mem 1006 rfl rfl, m_mem 67 rfl rfl, by decide +kernel, by decide, by decide +kernel⟩
abbrev mX7_best : mM := (yX7_best, cX7_best, 9, some .int)
set_option maxRecDepth 100000 in
theorem mlX7_best : m_ML mX7_best 3 := ⟨m_mem 1002 rfl rfl, m_mem 67 rfl rfl, by decide +kernel, by decide, by decide +kernel⟩
abbrev mX7_about : mM := (yX7_about, cX7_about, 5, some .int)
set_option maxRecDepth 100000 in
theorem mlX7_about : m_ML mX7_about 3 := ⟨m_mem 1013 rfl rfl, m_mem 67 rfl rfl, by decide +kernel, by decide, by decide +kernel⟩
abbrev mX7_all : mM := (yX7_all, cX7_all, 2, some .int)
set_option maxRecDepth 100000 in
theorem mlX7_all : m_ML mX7_all 1 := ⟨m_mem 1017 rfl rfl, m_mem 67 rfl rfl, by decide +kernel, by decide, by decide +kernel⟩
abbrev mX0_init : mM := (yX0_init, cX0_init, 1, none)
set_option maxRecDepth 100000 in
theorem mlX0_init : m_ML mX0_init 0 := ⟨m_mem 142 rfl rfl, m_mem 65 rfl rfl, by decide +kernel, by decide, by decide +kernel⟩
abbrev mX0_turnName : mM := (yX0_turnName, cX0_turnName, 2, some .int)
set_option maxRecDepth 100000 in
theorem mlX0_turnName : m_ML mX0_turnName 1 := ⟨m_mem 504 rfl rfl, m_mem 65 rfl rfl, by decide +kernel, by decide, by decide +kernel⟩
abbrev mX1_init : mM := (yX1_init, cX1_init, 1, none)
set_option maxRecDepth 100000 in
theorem mlX1_init : m_ML mX1_init 0 := ⟨m_mem 86 rfl rfl, m_mem 61 rfl rfl, by decide +kernel, by decide, by decide +kernel⟩
abbrev mX1_placeOf : mM := (yX1_placeOf, cX1_placeOf, 4, some .int)
set_option maxRecDepth 100000 in
theorem mlX1_placeOf : m_ML mX1_placeOf 3 := ⟨m_mem 325 rfl rfl, m_mem 61 rfl rfl, by decide +kernel, by decide, by decide +kernel⟩
abbrev mX1_read : mM := (yX1_read, cX1_read, 5, some .int)
set_option maxRecDepth 100000 in
theorem mlX1_read : m_ML mX1_read 3 := ⟨m_mem 322 rfl rfl, m_mem 61 rfl rfl, by decide +kernel, by decide, by decide +kernel⟩
abbrev mX1_write : mM := (yX1_write, cX1_write, 6, none)
set_option maxRecDepth 100000 in
theorem mlX1_write : m_ML mX1_write 4 := ⟨m_mem 330 rfl rfl, m_mem 61 rfl rfl, by decide +kernel, by decide, by decide +kernel⟩
abbrev mX2_init : mM := (yX2_init, cX2_init, 1, none)
set_option maxRecDepth 100000 in
theorem mlX2_init : m_ML mX2_init 0 := ⟨m_mem 97 rfl rfl, m_mem 62 rfl rfl, by decide +kernel, by decide, by decide +kernel⟩
abbrev mX2_open : mM := (yX2_open, cX2_open, 1, none)
set_option maxRecDepth 100000 in
theorem mlX2_open : m_ML mX2_open 0 := ⟨m_mem 459 rfl rfl, m_mem 62 rfl rfl, by decide +kernel, by decide, by decide +kernel⟩
abbrev mX2_narrow : mM := (yX2_narrow, cX2_narrow, 2, none)
set_option maxRecDepth 100000 in
theorem mlX2_narrow : m_ML mX2_narrow 1 := ⟨m_mem 472 rfl rfl, m_mem 62 rfl rfl, by decide +kernel, by decide, by decide +kernel⟩
abbrev mX2_lets : mM := (yX2_lets, cX2_lets, 2, some .boolean)
set_option maxRecDepth 100000 in
theorem mlX2_lets : m_ML mX2_lets 1 := ⟨m_mem 479 rfl rfl, m_mem 62 rfl rfl, by decide +kernel, by decide, by decide +kernel⟩
abbrev mX3_init : mM := (yX3_init, cX3_init, 1, none)
set_option maxRecDepth 100000 in
theorem mlX3_init : m_ML mX3_init 0 := ⟨m_mem 197 rfl rfl, m_mem 66 rfl rfl, by decide +kernel, by decide, by decide +kernel⟩
abbrev mX3_setOrder : mM := (yX3_setOrder, cX3_setOrder, 4, none)
set_option maxRecDepth 100000 in
theorem mlX3_setOrder : m_ML mX3_setOrder 3 := ⟨m_mem 379 rfl rfl, m_mem 66 rfl rfl, by decide +kernel, by decide, by decide +kernel⟩
abbrev mX3_setAgree : mM := (yX3_setAgree, cX3_setAgree, 7, none)
set_option maxRecDepth 100000 in
theorem mlX3_setAgree : m_ML mX3_setAgree 6 := ⟨m_mem 394 rfl rfl, m_mem 66 rfl rfl, by decide +kernel, by decide, by decide +kernel⟩
abbrev mX3_setFound : mM := (yX3_setFound, cX3_setFound, 3, none)
set_option maxRecDepth 100000 in
theorem mlX3_setFound : m_ML mX3_setFound 2 := ⟨m_mem 402 rfl rfl, m_mem 66 rfl rfl, by decide +kernel, by decide, by decide +kernel⟩
abbrev mX4_init : mM := (yX4_init, cX4_init, 2, none)
set_option maxRecDepth 100000 in
theorem mlX4_init : m_ML mX4_init 0 := ⟨m_mem 135 rfl rfl, m_mem 64 rfl rfl, by decide +kernel, by decide, by decide +kernel⟩
abbrev mX4_columnNumbered : mM := (yX4_columnNumbered, cX4_columnNumbered, 2, some (.object "MaskedCopies$Column"))
set_option maxRecDepth 100000 in
theorem mlX4_columnNumbered : m_ML mX4_columnNumbered 1 := ⟨m_mem 299 rfl rfl, m_mem 64 rfl rfl, by decide +kernel, by decide, by decide +kernel⟩
abbrev mX4_addColumn : mM := (yX4_addColumn, cX4_addColumn, 3, some .int)
set_option maxRecDepth 100000 in
theorem mlX4_addColumn : m_ML mX4_addColumn 2 := ⟨m_mem 283 rfl rfl, m_mem 64 rfl rfl, by decide +kernel, by decide, by decide +kernel⟩
abbrev mX4_isShifted : mM := (yX4_isShifted, cX4_isShifted, 3, some .boolean)
set_option maxRecDepth 100000 in
theorem mlX4_isShifted : m_ML mX4_isShifted 1 := ⟨m_mem 446 rfl rfl, m_mem 64 rfl rfl, by decide +kernel, by decide, by decide +kernel⟩
abbrev mX4_hasShift : mM := (yX4_hasShift, cX4_hasShift, 2, some .boolean)
set_option maxRecDepth 100000 in
theorem mlX4_hasShift : m_ML mX4_hasShift 0 := ⟨m_mem 442 rfl rfl, m_mem 64 rfl rfl, by decide +kernel, by decide, by decide +kernel⟩
abbrev mX4_turnsKeys : mM := (yX4_turnsKeys, cX4_turnsKeys, 1, some .boolean)
set_option maxRecDepth 100000 in
theorem mlX4_turnsKeys : m_ML mX4_turnsKeys 0 := ⟨m_mem 495 rfl rfl, m_mem 64 rfl rfl, by decide +kernel, by decide, by decide +kernel⟩
abbrev mX4_setDigit : mM := (yX4_setDigit, cX4_setDigit, 4, none)
set_option maxRecDepth 100000 in
theorem mlX4_setDigit : m_ML mX4_setDigit 3 := ⟨m_mem 363 rfl rfl, m_mem 64 rfl rfl, by decide +kernel, by decide, by decide +kernel⟩
abbrev mX4_turnKey : mM := (yX4_turnKey, cX4_turnKey, 6, some .int)
set_option maxRecDepth 100000 in
theorem mlX4_turnKey : m_ML mX4_turnKey 1 := ⟨m_mem 499 rfl rfl, m_mem 64 rfl rfl, by decide +kernel, by decide, by decide +kernel⟩
abbrev mX5_init : mM := (yX5_init, cX5_init, 1, none)
set_option maxRecDepth 100000 in
theorem mlX5_init : m_ML mX5_init 0 := ⟨m_mem 110 rfl rfl, m_mem 63 rfl rfl, by decide +kernel, by decide, by decide +kernel⟩
abbrev mX5_widthAt : mM := (yX5_widthAt, cX5_widthAt, 1, some .int)
set_option maxRecDepth 100000 in
theorem mlX5_widthAt : m_ML mX5_widthAt 1 := ⟨m_mem 627 rfl rfl, m_mem 63 rfl rfl, by decide +kernel, by decide, by decide +kernel⟩
abbrev mX5_begin : mM := (yX5_begin, cX5_begin, 2, none)
set_option maxRecDepth 100000 in
theorem mlX5_begin : m_ML mX5_begin 1 := ⟨m_mem 615 rfl rfl, m_mem 63 rfl rfl, by decide +kernel, by decide, by decide +kernel⟩
abbrev mX5_addColumn : mM := (yX5_addColumn, cX5_addColumn, 2, some .int)
set_option maxRecDepth 100000 in
theorem mlX5_addColumn : m_ML mX5_addColumn 1 := ⟨m_mem 624 rfl rfl, m_mem 63 rfl rfl, by decide +kernel, by decide, by decide +kernel⟩
abbrev mX5_columnNumber : mM := (yX5_columnNumber, cX5_columnNumber, 2, some .int)
set_option maxRecDepth 100000 in
theorem mlX5_columnNumber : m_ML mX5_columnNumber 1 := ⟨m_mem 673 rfl rfl, m_mem 63 rfl rfl, by decide +kernel, by decide, by decide +kernel⟩
abbrev mX5_setLoss : mM := (yX5_setLoss, cX5_setLoss, 4, none)
set_option maxRecDepth 100000 in
theorem mlX5_setLoss : m_ML mX5_setLoss 3 := ⟨m_mem 633 rfl rfl, m_mem 63 rfl rfl, by decide +kernel, by decide, by decide +kernel⟩
abbrev mX5_setSame : mM := (yX5_setSame, cX5_setSame, 5, none)
set_option maxRecDepth 100000 in
theorem mlX5_setSame : m_ML mX5_setSame 4 := ⟨m_mem 648 rfl rfl, m_mem 63 rfl rfl, by decide +kernel, by decide, by decide +kernel⟩
abbrev mX5_setOthers : mM := (yX5_setOthers, cX5_setOthers, 3, none)
set_option maxRecDepth 100000 in
theorem mlX5_setOthers : m_ML mX5_setOthers 2 := ⟨m_mem 652 rfl rfl, m_mem 63 rfl rfl, by decide +kernel, by decide, by decide +kernel⟩
abbrev mX5_isChoice : mM := (yX5_isChoice, cX5_isChoice, 3, some .boolean)
set_option maxRecDepth 100000 in
theorem mlX5_isChoice : m_ML mX5_isChoice 2 := ⟨m_mem 637 rfl rfl, m_mem 63 rfl rfl, by decide +kernel, by decide, by decide +kernel⟩
abbrev mX5_choiceOf : mM := (yX5_choiceOf, cX5_choiceOf, 3, some .int)
set_option maxRecDepth 100000 in
theorem mlX5_choiceOf : m_ML mX5_choiceOf 2 := ⟨m_mem 664 rfl rfl, m_mem 63 rfl rfl, by decide +kernel, by decide, by decide +kernel⟩
abbrev mX5_lossOf : mM := (yX5_lossOf, cX5_lossOf, 4, some .int)
set_option maxRecDepth 100000 in
theorem mlX5_lossOf : m_ML mX5_lossOf 1 := ⟨m_mem 660 rfl rfl, m_mem 63 rfl rfl, by decide +kernel, by decide, by decide +kernel⟩
abbrev mX5_isSafe : mM := (yX5_isSafe, cX5_isSafe, 6, some .boolean)
set_option maxRecDepth 100000 in
theorem mlX5_isSafe : m_ML mX5_isSafe 2 := ⟨m_mem 668 rfl rfl, m_mem 63 rfl rfl, by decide +kernel, by decide, by decide +kernel⟩
abbrev mX5_leastWay : mM := (yX5_leastWay, cX5_leastWay, 6, some .int)
set_option maxRecDepth 100000 in
theorem mlX5_leastWay : m_ML mX5_leastWay 1 := ⟨m_mem 656 rfl rfl, m_mem 63 rfl rfl, by decide +kernel, by decide, by decide +kernel⟩
abbrev mJ6_bitCount : mM := (yJ6_bitCount_0f7a4, cJ6_bitCount_0f7a4, 1, some .int)
set_option maxRecDepth 100000 in
theorem mlJ6_bitCount : m_ML mJ6_bitCount 1 := ⟨m_mem 583 rfl rfl, m_mem 69 rfl rfl, by decide +kernel, by decide, by decide +kernel⟩
abbrev mJ9_floorMod : mM := (yJ9_floorMod_7cf53, cJ9_floorMod_7cf53, 3, some .int)
set_option maxRecDepth 100000 in
theorem mlJ9_floorMod : m_ML mJ9_floorMod 2 := ⟨m_mem 510 rfl rfl, m_mem 68 rfl rfl, by decide +kernel, by decide, by decide +kernel⟩
set_option maxRecDepth 100000 in
theorem lkX6_3 : Cond.methodLink RX6 3 Lib.objectInit ∈ m_tbl := m_mem 75 rfl rfl
set_option maxRecDepth 100000 in
theorem flX6_13 : m_FL RX6 13 6 0 := ⟨by decide, by decide, m_mem 228 rfl rfl⟩
set_option maxRecDepth 100000 in
theorem flX6_19 : m_FL RX6 19 6 1 := ⟨by decide, by decide, m_mem 229 rfl rfl⟩
set_option maxRecDepth 100000 in
theorem flX6_23 : m_FL RX6 23 6 2 := ⟨by decide, by decide, m_mem 230 rfl rfl⟩
set_option maxRecDepth 100000 in
theorem lkX6_29 : m_LI RX6 29 mX1_init 0 := ⟨mlX1_init, rfl, rfl, m_mem 85 rfl rfl, Or.inr ⟨_, List.mem_of_getElem? (i := 0) rfl⟩⟩
set_option maxRecDepth 100000 in
theorem flX6_30 : m_FL RX6 30 6 3 := ⟨by decide, by decide, m_mem 231 rfl rfl⟩
set_option maxRecDepth 100000 in
theorem lkX6_36 : m_LI RX6 36 mX2_init 0 := ⟨mlX2_init, rfl, rfl, m_mem 96 rfl rfl, Or.inr ⟨_, List.mem_of_getElem? (i := 1) rfl⟩⟩
set_option maxRecDepth 100000 in
theorem flX6_37 : m_FL RX6 37 6 4 := ⟨by decide, by decide, m_mem 232 rfl rfl⟩
set_option maxRecDepth 100000 in
theorem lkX6_43 : m_LI RX6 43 mX5_init 0 := ⟨mlX5_init, rfl, rfl, m_mem 109 rfl rfl, Or.inr ⟨_, List.mem_of_getElem? (i := 2) rfl⟩⟩
set_option maxRecDepth 100000 in
theorem flX6_44 : m_FL RX6 44 6 5 := ⟨by decide, by decide, m_mem 233 rfl rfl⟩
set_option maxRecDepth 100000 in
theorem flX6_48 : m_FL RX6 48 6 6 := ⟨by decide, by decide, m_mem 234 rfl rfl⟩
set_option maxRecDepth 100000 in
theorem flX6_51 : m_FL RX6 51 6 7 := ⟨by decide, by decide, m_mem 235 rfl rfl⟩
set_option maxRecDepth 100000 in
theorem flX6_54 : m_FL RX6 54 6 8 := ⟨by decide, by decide, m_mem 236 rfl rfl⟩
set_option maxRecDepth 100000 in
theorem flX6_58 : m_FL RX6 58 6 9 := ⟨by decide, by decide, m_mem 237 rfl rfl⟩
set_option maxRecDepth 100000 in
theorem flX6_61 : m_FL RX6 61 6 10 := ⟨by decide, by decide, m_mem 238 rfl rfl⟩
set_option maxRecDepth 100000 in
theorem flX6_64 : m_FL RX6 64 6 11 := ⟨by decide, by decide, m_mem 239 rfl rfl⟩
set_option maxRecDepth 100000 in
theorem flX6_67 : m_FL RX6 67 6 12 := ⟨by decide, by decide, m_mem 240 rfl rfl⟩
set_option maxRecDepth 100000 in
theorem lkX6_71 : m_LI RX6 71 mX4_init 0 := ⟨mlX4_init, rfl, rfl, m_mem 134 rfl rfl, Or.inl (m_mem 133 rfl rfl)⟩
set_option maxRecDepth 100000 in
theorem lkX6_72 : m_LI RX6 72 mX3_init 0 := ⟨mlX3_init, rfl, rfl, m_mem 196 rfl rfl, Or.inr ⟨_, List.mem_of_getElem? (i := 3) rfl⟩⟩
set_option maxRecDepth 100000 in
theorem lkX6_73 : m_LV RX6 73 mX6_tableAt 1 := ⟨mlX6_tableAt, m_mem 276 rfl rfl, m_mem 278 rfl rfl, m_mem 0 rfl rfl⟩
set_option maxRecDepth 100000 in
theorem flX6_77 : m_FL RX6 77 4 4 := ⟨by decide, by decide, m_mem 178 rfl rfl⟩
set_option maxRecDepth 100000 in
theorem flX6_80 : m_FL RX6 80 4 3 := ⟨by decide, by decide, m_mem 176 rfl rfl⟩
set_option maxRecDepth 100000 in
theorem lkX6_83 : m_LV RX6 83 mX4_addColumn 2 := ⟨mlX4_addColumn, m_mem 280 rfl rfl, m_mem 281 rfl rfl, m_mem 282 rfl rfl⟩
set_option maxRecDepth 100000 in
theorem lkX6_87 : m_LV RX6 87 mX6_waitingCellsFit 1 := ⟨mlX6_waitingCellsFit, m_mem 292 rfl rfl, m_mem 294 rfl rfl, m_mem 1 rfl rfl⟩
set_option maxRecDepth 100000 in
theorem lkX6_91 : m_LV RX6 91 mX6_rowsWith 4 := ⟨mlX6_rowsWith, m_mem 311 rfl rfl, m_mem 313 rfl rfl, m_mem 2 rfl rfl⟩
set_option maxRecDepth 100000 in
theorem lkX6_95 : m_LV RX6 95 mX1_write 4 := ⟨mlX1_write, m_mem 327 rfl rfl, m_mem 328 rfl rfl, m_mem 329 rfl rfl⟩
set_option maxRecDepth 100000 in
theorem lkX6_99 : m_LV RX6 99 mX6_columnAt 2 := ⟨mlX6_columnAt, m_mem 339 rfl rfl, m_mem 341 rfl rfl, m_mem 4 rfl rfl⟩
set_option maxRecDepth 100000 in
theorem flX6_103 : m_FL RX6 103 0 0 := ⟨by decide, by decide, m_mem 146 rfl rfl⟩
set_option maxRecDepth 100000 in
theorem flX6_108 : m_FL RX6 108 4 5 := ⟨by decide, by decide, m_mem 180 rfl rfl⟩
set_option maxRecDepth 100000 in
theorem lkX6_111 : m_LS RX6 111 mX6_isMaskOf 2 := ⟨mlX6_isMaskOf, m_mem 348 rfl rfl, Or.inl (m_mem 347 rfl rfl)⟩
set_option maxRecDepth 100000 in
theorem lkX6_115 : m_LS RX6 115 mX6_isNumberOf 2 := ⟨mlX6_isNumberOf, m_mem 351 rfl rfl, Or.inl (m_mem 350 rfl rfl)⟩
set_option maxRecDepth 100000 in
theorem flX6_118 : m_FL RX6 118 0 2 := ⟨by decide, by decide, m_mem 152 rfl rfl⟩
set_option maxRecDepth 100000 in
theorem flX6_121 : m_FL RX6 121 0 3 := ⟨by decide, by decide, m_mem 154 rfl rfl⟩
set_option maxRecDepth 100000 in
theorem lkX6_124 : m_LS RX6 124 mX6_dialDigit 4 := ⟨mlX6_dialDigit, m_mem 358 rfl rfl, Or.inl (m_mem 357 rfl rfl)⟩
set_option maxRecDepth 100000 in
theorem flX6_128 : m_FL RX6 128 0 4 := ⟨by decide, by decide, m_mem 156 rfl rfl⟩
set_option maxRecDepth 100000 in
theorem flX6_131 : m_FL RX6 131 0 5 := ⟨by decide, by decide, m_mem 158 rfl rfl⟩
set_option maxRecDepth 100000 in
theorem lkX6_134 : m_LV RX6 134 mX6_nextRule 0 := ⟨mlX6_nextRule, m_mem 372 rfl rfl, m_mem 374 rfl rfl, m_mem 5 rfl rfl⟩
set_option maxRecDepth 100000 in
theorem lkX6_138 : m_LV RX6 138 mX3_setOrder 3 := ⟨mlX3_setOrder, m_mem 376 rfl rfl, m_mem 377 rfl rfl, m_mem 378 rfl rfl⟩
set_option maxRecDepth 100000 in
theorem lkX6_142 : m_LV RX6 142 mX6_addRule 0 := ⟨mlX6_addRule, m_mem 380 rfl rfl, m_mem 382 rfl rfl, m_mem 6 rfl rfl⟩
set_option maxRecDepth 100000 in
theorem flX6_146 : m_FL RX6 146 0 1 := ⟨by decide, by decide, m_mem 149 rfl rfl⟩
set_option maxRecDepth 100000 in
theorem lkX6_149 : m_LS RX6 149 mX6_isBit 1 := ⟨mlX6_isBit, m_mem 389 rfl rfl, Or.inl (m_mem 388 rfl rfl)⟩
set_option maxRecDepth 100000 in
theorem lkX6_153 : m_LV RX6 153 mX3_setAgree 6 := ⟨mlX3_setAgree, m_mem 391 rfl rfl, m_mem 392 rfl rfl, m_mem 393 rfl rfl⟩
set_option maxRecDepth 100000 in
theorem lkX6_157 : m_LV RX6 157 mX3_setFound 2 := ⟨mlX3_setFound, m_mem 399 rfl rfl, m_mem 400 rfl rfl, m_mem 401 rfl rfl⟩
set_option maxRecDepth 100000 in
theorem lkX6_161 : m_LV RX6 161 mX6_copyOf 1 := ⟨mlX6_copyOf, m_mem 411 rfl rfl, m_mem 413 rfl rfl, m_mem 7 rfl rfl⟩
set_option maxRecDepth 100000 in
theorem lkX6_165 : m_LV RX6 165 mX6_firstBroken 1 := ⟨mlX6_firstBroken, m_mem 415 rfl rfl, m_mem 417 rfl rfl, m_mem 8 rfl rfl⟩
set_option maxRecDepth 100000 in
theorem lkX6_169 : m_LV RX6 169 mX6_draftMasked 1 := ⟨mlX6_draftMasked, m_mem 435 rfl rfl, m_mem 437 rfl rfl, m_mem 12 rfl rfl⟩
set_option maxRecDepth 100000 in
theorem lkX6_173 : m_LV RX6 173 mX6_mendDraft 0 := ⟨mlX6_mendDraft, m_mem 511 rfl rfl, m_mem 513 rfl rfl, m_mem 20 rfl rfl⟩
set_option maxRecDepth 100000 in
theorem lkX6_176 : m_LV RX6 176 mX6_isRow 2 := ⟨mlX6_isRow, m_mem 523 rfl rfl, m_mem 525 rfl rfl, m_mem 22 rfl rfl⟩
set_option maxRecDepth 100000 in
theorem lkX6_180 : m_LV RX6 180 mX1_read 3 := ⟨mlX1_read, m_mem 319 rfl rfl, m_mem 320 rfl rfl, m_mem 321 rfl rfl⟩
set_option maxRecDepth 100000 in
theorem lkX6_184 : m_LS RX6 184 mX6_isNumberOfKind 2 := ⟨mlX6_isNumberOfKind, m_mem 302 rfl rfl, Or.inl (m_mem 301 rfl rfl)⟩
set_option maxRecDepth 100000 in
theorem lkX6_187 : m_LV RX6 187 mX4_turnKey 1 := ⟨mlX4_turnKey, m_mem 496 rfl rfl, m_mem 497 rfl rfl, m_mem 498 rfl rfl⟩
set_option maxRecDepth 100000 in
theorem lkX6_191 : m_LV RX6 191 mX0_turnName 1 := ⟨mlX0_turnName, m_mem 501 rfl rfl, m_mem 502 rfl rfl, m_mem 503 rfl rfl⟩
set_option maxRecDepth 100000 in
theorem lkX6_194 : m_LS RX6 194 mX6_isKeyNumber 1 := ⟨mlX6_isKeyNumber, m_mem 305 rfl rfl, Or.inl (m_mem 304 rfl rfl)⟩
set_option maxRecDepth 100000 in
theorem lkX6_197 : m_LV RX6 197 mX6_shiftOf 1 := ⟨mlX6_shiftOf, m_mem 452 rfl rfl, m_mem 454 rfl rfl, m_mem 14 rfl rfl⟩
set_option maxRecDepth 100000 in
theorem lkX6_200 : m_LV RX6 200 mX6_rowsOf 1 := ⟨mlX6_rowsOf, m_mem 315 rfl rfl, m_mem 317 rfl rfl, m_mem 3 rfl rfl⟩
set_option maxRecDepth 100000 in
theorem lkX6_203 : Cond.methodLink RX6 203 Lib.Math.abs.name ∈ m_tbl := m_mem 547 rfl rfl
set_option maxRecDepth 100000 in
theorem lkX6_208 : m_LV RX6 208 mX6_areColumns 2 := ⟨mlX6_areColumns, m_mem 554 rfl rfl, m_mem 556 rfl rfl, m_mem 23 rfl rfl⟩
set_option maxRecDepth 100000 in
theorem lkX6_211 : m_LV RX6 211 mX6_couldSet 3 := ⟨mlX6_couldSet, m_mem 562 rfl rfl, m_mem 564 rfl rfl, m_mem 25 rfl rfl⟩
set_option maxRecDepth 100000 in
theorem lkX6_214 : m_LS RX6 214 mJ6_bitCount 1 := ⟨mlJ6_bitCount, m_mem 582 rfl rfl, Or.inl (m_mem 581 rfl rfl)⟩
set_option maxRecDepth 100000 in
theorem lkX6_217 : Cond.methodLink RX6 217 Lib.Math.min.name ∈ m_tbl := m_mem 591 rfl rfl
set_option maxRecDepth 100000 in
theorem lkX6_220 : m_LS RX6 220 mX6_hasBit 2 := ⟨mlX6_hasBit, m_mem 571 rfl rfl, Or.inl (m_mem 570 rfl rfl)⟩
set_option maxRecDepth 100000 in
theorem lkX6_223 : m_LV RX6 223 mX6_lossBy 3 := ⟨mlX6_lossBy, m_mem 600 rfl rfl, m_mem 602 rfl rfl, m_mem 29 rfl rfl⟩
set_option maxRecDepth 100000 in
theorem lkX6_226 : m_LV RX6 226 mX6_prepareSearch 2 := ⟨mlX6_prepareSearch, m_mem 608 rfl rfl, m_mem 610 rfl rfl, m_mem 30 rfl rfl⟩
set_option maxRecDepth 100000 in
theorem lkX6_229 : m_LV RX6 229 mX5_leastWay 1 := ⟨mlX5_leastWay, m_mem 653 rfl rfl, m_mem 654 rfl rfl, m_mem 655 rfl rfl⟩
set_option maxRecDepth 100000 in
theorem flX6_232 : m_FL RX6 232 5 4 := ⟨by decide, by decide, m_mem 117 rfl rfl⟩
set_option maxRecDepth 100000 in
theorem lkX6_233 : m_LV RX6 233 mX5_columnNumber 1 := ⟨mlX5_columnNumber, m_mem 670 rfl rfl, m_mem 671 rfl rfl, m_mem 672 rfl rfl⟩
set_option maxRecDepth 100000 in
theorem lkX6_236 : m_LV RX6 236 mX5_choiceOf 2 := ⟨mlX5_choiceOf, m_mem 674 rfl rfl, m_mem 662 rfl rfl, m_mem 663 rfl rfl⟩
set_option maxRecDepth 100000 in
theorem lkX6_239 : m_LS RX6 239 mX5_widthAt 1 := ⟨mlX5_widthAt, m_mem 626 rfl rfl, Or.inl (m_mem 625 rfl rfl)⟩
set_option maxRecDepth 100000 in
theorem lkX6_242 : m_LV RX6 242 mX5_lossOf 1 := ⟨mlX5_lossOf, m_mem 675 rfl rfl, m_mem 658 rfl rfl, m_mem 659 rfl rfl⟩
set_option maxRecDepth 100000 in
theorem lkX6_245 : m_LV RX6 245 mX4_columnNumbered 1 := ⟨mlX4_columnNumbered, m_mem 296 rfl rfl, m_mem 297 rfl rfl, m_mem 298 rfl rfl⟩
set_option maxRecDepth 100000 in
theorem lkX6_249 : m_LV RX6 249 mX6_columnsOf 1 := ⟨mlX6_columnsOf, m_mem 558 rfl rfl, m_mem 560 rfl rfl, m_mem 24 rfl rfl⟩
set_option maxRecDepth 100000 in
theorem lkX6_253 : m_LS RX6 253 mX6_rightFigure 1 := ⟨mlX6_rightFigure, m_mem 309 rfl rfl, Or.inl (m_mem 308 rfl rfl)⟩
set_option maxRecDepth 100000 in
theorem lkX6_256 : m_LV RX6 256 mX4_setDigit 3 := ⟨mlX4_setDigit, m_mem 360 rfl rfl, m_mem 361 rfl rfl, m_mem 362 rfl rfl⟩
set_option maxRecDepth 100000 in
theorem lkX6_259 : m_LV RX6 259 mX4_hasShift 0 := ⟨mlX4_hasShift, m_mem 439 rfl rfl, m_mem 440 rfl rfl, m_mem 441 rfl rfl⟩
set_option maxRecDepth 100000 in
theorem lkX6_263 : m_LV RX6 263 mX6_ownerOf 2 := ⟨mlX6_ownerOf, m_mem 448 rfl rfl, m_mem 450 rfl rfl, m_mem 13 rfl rfl⟩
set_option maxRecDepth 100000 in
theorem lkX6_266 : m_LV RX6 266 mX6_maskedCell 4 := ⟨mlX6_maskedCell, m_mem 480 rfl rfl, m_mem 482 rfl rfl, m_mem 17 rfl rfl⟩
set_option maxRecDepth 100000 in
theorem lkX6_270 : m_LV RX6 270 mX6_dealtCell 4 := ⟨mlX6_dealtCell, m_mem 484 rfl rfl, m_mem 486 rfl rfl, m_mem 18 rfl rfl⟩
set_option maxRecDepth 100000 in
theorem lkX6_273 : m_LV RX6 273 mX6_turnedRef 2 := ⟨mlX6_turnedRef, m_mem 488 rfl rfl, m_mem 490 rfl rfl, m_mem 19 rfl rfl⟩
set_option maxRecDepth 100000 in
theorem lkX6_276 : m_LS RX6 276 mX6_tooFine 2 := ⟨mlX6_tooFine, m_mem 506 rfl rfl, Or.inl (m_mem 505 rfl rfl)⟩
set_option maxRecDepth 100000 in
theorem lkX6_279 : m_LV RX6 279 mX4_turnsKeys 0 := ⟨mlX4_turnsKeys, m_mem 492 rfl rfl, m_mem 493 rfl rfl, m_mem 494 rfl rfl⟩
set_option maxRecDepth 100000 in
theorem lkX6_282 : m_LS RX6 282 mJ9_floorMod 2 := ⟨mlJ9_floorMod, m_mem 509 rfl rfl, Or.inl (m_mem 508 rfl rfl)⟩
set_option maxRecDepth 100000 in
theorem lkX6_285 : m_LV RX6 285 mX2_open 0 := ⟨mlX2_open, m_mem 456 rfl rfl, m_mem 457 rfl rfl, m_mem 458 rfl rfl⟩
set_option maxRecDepth 100000 in
theorem lkX6_288 : m_LV RX6 288 mX6_narrowRoom 2 := ⟨mlX6_narrowRoom, m_mem 460 rfl rfl, m_mem 462 rfl rfl, m_mem 15 rfl rfl⟩
set_option maxRecDepth 100000 in
theorem lkX6_291 : m_LV RX6 291 mX2_lets 1 := ⟨mlX2_lets, m_mem 476 rfl rfl, m_mem 477 rfl rfl, m_mem 478 rfl rfl⟩
set_option maxRecDepth 100000 in
theorem lkX6_294 : m_LV RX6 294 mX6_narrowRoomByRow 3 := ⟨mlX6_narrowRoomByRow, m_mem 464 rfl rfl, m_mem 466 rfl rfl, m_mem 16 rfl rfl⟩
set_option maxRecDepth 100000 in
theorem lkX6_298 : m_LV RX6 298 mX4_isShifted 1 := ⟨mlX4_isShifted, m_mem 468 rfl rfl, m_mem 444 rfl rfl, m_mem 445 rfl rfl⟩
set_option maxRecDepth 100000 in
theorem lkX6_301 : m_LV RX6 301 mX2_narrow 1 := ⟨mlX2_narrow, m_mem 469 rfl rfl, m_mem 470 rfl rfl, m_mem 471 rfl rfl⟩
set_option maxRecDepth 100000 in
theorem lkX6_304 : m_LV RX6 304 mX6_ruleHolds 2 := ⟨mlX6_ruleHolds, m_mem 419 rfl rfl, m_mem 421 rfl rfl, m_mem 9 rfl rfl⟩
set_option maxRecDepth 100000 in
theorem flX6_308 : m_FL RX6 308 3 1 := ⟨by decide, by decide, m_mem 202 rfl rfl⟩
set_option maxRecDepth 100000 in
theorem lkX6_311 : m_LV RX6 311 mX6_holdsInRow 3 := ⟨mlX6_holdsInRow, m_mem 423 rfl rfl, m_mem 425 rfl rfl, m_mem 10 rfl rfl⟩
set_option maxRecDepth 100000 in
theorem flX6_315 : m_FL RX6 315 3 2 := ⟨by decide, by decide, m_mem 204 rfl rfl⟩
set_option maxRecDepth 100000 in
theorem flX6_318 : m_FL RX6 318 3 0 := ⟨by decide, by decide, m_mem 200 rfl rfl⟩
set_option maxRecDepth 100000 in
theorem flX6_319 : m_FL RX6 319 3 3 := ⟨by decide, by decide, m_mem 206 rfl rfl⟩
set_option maxRecDepth 100000 in
theorem lkX6_322 : m_LV RX6 322 mX6_partsOf 3 := ⟨mlX6_partsOf, m_mem 427 rfl rfl, m_mem 429 rfl rfl, m_mem 11 rfl rfl⟩
set_option maxRecDepth 100000 in
theorem flX6_326 : m_FL RX6 326 3 4 := ⟨by decide, by decide, m_mem 208 rfl rfl⟩
set_option maxRecDepth 100000 in
theorem flX6_329 : m_FL RX6 329 3 5 := ⟨by decide, by decide, m_mem 210 rfl rfl⟩
set_option maxRecDepth 100000 in
theorem flX6_332 : m_FL RX6 332 3 6 := ⟨by decide, by decide, m_mem 212 rfl rfl⟩
set_option maxRecDepth 100000 in
theorem lkX6_335 : m_LV RX6 335 mX6_mendColumn 1 := ⟨mlX6_mendColumn, m_mem 515 rfl rfl, m_mem 517 rfl rfl, m_mem 21 rfl rfl⟩
set_option maxRecDepth 100000 in
theorem lkX6_339 : m_LV RX6 339 mX6_looksSame 4 := ⟨mlX6_looksSame, m_mem 566 rfl rfl, m_mem 568 rfl rfl, m_mem 26 rfl rfl⟩
set_option maxRecDepth 100000 in
theorem lkX6_343 : m_LV RX6 343 mX6_movesSame 4 := ⟨mlX6_movesSame, m_mem 577 rfl rfl, m_mem 579 rfl rfl, m_mem 28 rfl rfl⟩
set_option maxRecDepth 100000 in
theorem lkX6_346 : m_LV RX6 346 mX6_isPlain 2 := ⟨mlX6_isPlain, m_mem 573 rfl rfl, m_mem 575 rfl rfl, m_mem 27 rfl rfl⟩
set_option maxRecDepth 100000 in
theorem lkX6_349 : m_LV RX6 349 mX5_begin 1 := ⟨mlX5_begin, m_mem 612 rfl rfl, m_mem 613 rfl rfl, m_mem 614 rfl rfl⟩
set_option maxRecDepth 100000 in
theorem lkX6_352 : m_LV RX6 352 mX6_offerWidths 3 := ⟨mlX6_offerWidths, m_mem 617 rfl rfl, m_mem 619 rfl rfl, m_mem 31 rfl rfl⟩
set_option maxRecDepth 100000 in
theorem lkX6_356 : m_LV RX6 356 mX5_setOthers 2 := ⟨mlX5_setOthers, m_mem 649 rfl rfl, m_mem 650 rfl rfl, m_mem 651 rfl rfl⟩
set_option maxRecDepth 100000 in
theorem lkX6_359 : m_LV RX6 359 mX5_addColumn 1 := ⟨mlX5_addColumn, m_mem 621 rfl rfl, m_mem 622 rfl rfl, m_mem 623 rfl rfl⟩
set_option maxRecDepth 100000 in
theorem lkX6_361 : m_LV RX6 361 mX5_setLoss 3 := ⟨mlX5_setLoss, m_mem 630 rfl rfl, m_mem 631 rfl rfl, m_mem 632 rfl rfl⟩
set_option maxRecDepth 100000 in
theorem lkX6_364 : m_LV RX6 364 mX6_sameBy 4 := ⟨mlX6_sameBy, m_mem 638 rfl rfl, m_mem 640 rfl rfl, m_mem 33 rfl rfl⟩
set_option maxRecDepth 100000 in
theorem lkX6_367 : m_LV RX6 367 mX5_setSame 4 := ⟨mlX5_setSame, m_mem 645 rfl rfl, m_mem 646 rfl rfl, m_mem 647 rfl rfl⟩
set_option maxRecDepth 100000 in
theorem lkX6_370 : m_LS RX6 370 mX6_coarseOrMissing 2 := ⟨mlX6_coarseOrMissing, m_mem 643 rfl rfl, Or.inl (m_mem 642 rfl rfl)⟩
set_option maxRecDepth 100000 in
theorem lkX7_3 : Cond.methodLink RX7 3 Lib.objectInit ∈ m_tbl := m_mem 689 rfl rfl
set_option maxRecDepth 100000 in
theorem flX7_9 : m_FL RX7 9 7 2 := ⟨by decide, by decide, m_mem 691 rfl rfl⟩
set_option maxRecDepth 100000 in
theorem flX7_15 : m_FL RX7 15 7 3 := ⟨by decide, by decide, m_mem 692 rfl rfl⟩
set_option maxRecDepth 100000 in
theorem flX7_18 : m_FL RX7 18 7 4 := ⟨by decide, by decide, m_mem 693 rfl rfl⟩
set_option maxRecDepth 100000 in
theorem flX7_21 : m_FL RX7 21 7 5 := ⟨by decide, by decide, m_mem 694 rfl rfl⟩
set_option maxRecDepth 100000 in
theorem flX7_24 : m_FL RX7 24 7 6 := ⟨by decide, by decide, m_mem 695 rfl rfl⟩
set_option maxRecDepth 100000 in
theorem flX7_27 : m_FL RX7 27 7 7 := ⟨by decide, by decide, m_mem 696 rfl rfl⟩
set_option maxRecDepth 100000 in
theorem flX7_30 : m_FL RX7 30 7 8 := ⟨by decide, by decide, m_mem 697 rfl rfl⟩
set_option maxRecDepth 100000 in
theorem flX7_33 : m_FL RX7 33 7 9 := ⟨by decide, by decide, m_mem 698 rfl rfl⟩
set_option maxRecDepth 100000 in
theorem flX7_36 : m_FL RX7 36 7 10 := ⟨by decide, by decide, m_mem 699 rfl rfl⟩
set_option maxRecDepth 100000 in
theorem flX7_39 : m_FL RX7 39 7 11 := ⟨by decide, by decide, m_mem 700 rfl rfl⟩
set_option maxRecDepth 100000 in
theorem flX7_42 : m_FL RX7 42 7 12 := ⟨by decide, by decide, m_mem 701 rfl rfl⟩
set_option maxRecDepth 100000 in
theorem flX7_45 : m_FL RX7 45 7 14 := ⟨by decide, by decide, m_mem 703 rfl rfl⟩
set_option maxRecDepth 100000 in
theorem flX7_48 : m_FL RX7 48 7 15 := ⟨by decide, by decide, m_mem 704 rfl rfl⟩
set_option maxRecDepth 100000 in
theorem flX7_51 : m_FL RX7 51 7 17 := ⟨by decide, by decide, m_mem 706 rfl rfl⟩
set_option maxRecDepth 100000 in
theorem flX7_54 : m_FL RX7 54 7 18 := ⟨by decide, by decide, m_mem 707 rfl rfl⟩
set_option maxRecDepth 100000 in
theorem flX7_57 : m_FL RX7 57 7 21 := ⟨by decide, by decide, m_mem 710 rfl rfl⟩
set_option maxRecDepth 100000 in
theorem flX7_60 : m_FL RX7 60 7 22 := ⟨by decide, by decide, m_mem 711 rfl rfl⟩
set_option maxRecDepth 100000 in
theorem flX7_63 : m_FL RX7 63 7 23 := ⟨by decide, by decide, m_mem 712 rfl rfl⟩
set_option maxRecDepth 100000 in
theorem flX7_66 : m_FL RX7 66 7 24 := ⟨by decide, by decide, m_mem 713 rfl rfl⟩
set_option maxRecDepth 100000 in
theorem flX7_69 : m_FL RX7 69 7 25 := ⟨by decide, by decide, m_mem 714 rfl rfl⟩
set_option maxRecDepth 100000 in
theorem flX7_72 : m_FL RX7 72 7 26 := ⟨by decide, by decide, m_mem 715 rfl rfl⟩
set_option maxRecDepth 100000 in
theorem flX7_75 : m_FL RX7 75 7 27 := ⟨by decide, by decide, m_mem 716 rfl rfl⟩
set_option maxRecDepth 100000 in
theorem flX7_79 : m_FL RX7 79 7 28 := ⟨by decide, by decide, m_mem 717 rfl rfl⟩
set_option maxRecDepth 100000 in
theorem flX7_82 : m_FL RX7 82 7 29 := ⟨by decide, by decide, m_mem 718 rfl rfl⟩
set_option maxRecDepth 100000 in
theorem flX7_85 : m_FL RX7 85 7 30 := ⟨by decide, by decide, m_mem 719 rfl rfl⟩
set_option maxRecDepth 100000 in
theorem flX7_92 : m_FL RX7 92 7 1 := ⟨by decide, by decide, m_mem 690 rfl rfl⟩
set_option maxRecDepth 100000 in
theorem lkX7_95 : m_LS RX7 95 mX7_in 3 := ⟨mlX7_in, m_mem 801 rfl rfl, Or.inl (m_mem 800 rfl rfl)⟩
set_option maxRecDepth 100000 in
theorem lkX7_99 : m_LV RX7 99 mX7_isTable 1 := ⟨mlX7_isTable, m_mem 796 rfl rfl, m_mem 798 rfl rfl, m_mem 36 rfl rfl⟩
set_option maxRecDepth 100000 in
theorem lkX7_104 : m_LS RX7 104 mX7_figure 1 := ⟨mlX7_figure, m_mem 824 rfl rfl, Or.inl (m_mem 823 rfl rfl)⟩
set_option maxRecDepth 100000 in
theorem lkX7_108 : m_LV RX7 108 mX7_begin 3 := ⟨mlX7_begin, m_mem 788 rfl rfl, m_mem 790 rfl rfl, m_mem 35 rfl rfl⟩
set_option maxRecDepth 100000 in
theorem flX7_112 : m_FL RX7 112 7 16 := ⟨by decide, by decide, m_mem 705 rfl rfl⟩
set_option maxRecDepth 100000 in
theorem flX7_116 : m_FL RX7 116 7 19 := ⟨by decide, by decide, m_mem 708 rfl rfl⟩
set_option maxRecDepth 100000 in
theorem lkX7_120 : m_LS RX7 120 mX7_isKey 1 := ⟨mlX7_isKey, m_mem 820 rfl rfl, Or.inl (m_mem 819 rfl rfl)⟩
set_option maxRecDepth 100000 in
theorem lkX7_123 : m_LS RX7 123 mX7_isOf 2 := ⟨mlX7_isOf, m_mem 816 rfl rfl, Or.inl (m_mem 815 rfl rfl)⟩
set_option maxRecDepth 100000 in
theorem lkX7_127 : m_LS RX7 127 mX7_cell 3 := ⟨mlX7_cell, m_mem 827 rfl rfl, Or.inl (m_mem 826 rfl rfl)⟩
set_option maxRecDepth 100000 in
theorem lkX7_131 : m_LV RX7 131 mX7_isColumn 2 := ⟨mlX7_isColumn, m_mem 833 rfl rfl, m_mem 835 rfl rfl, m_mem 37 rfl rfl⟩
set_option maxRecDepth 100000 in
theorem lkX7_134 : m_LS RX7 134 mX7_fits 3 := ⟨mlX7_fits, m_mem 842 rfl rfl, Or.inl (m_mem 841 rfl rfl)⟩
set_option maxRecDepth 100000 in
theorem flX7_137 : m_FL RX7 137 7 13 := ⟨by decide, by decide, m_mem 702 rfl rfl⟩
set_option maxRecDepth 100000 in
theorem lkX7_140 : m_LV RX7 140 mX7_stays 2 := ⟨mlX7_stays, m_mem 924 rfl rfl, m_mem 926 rfl rfl, m_mem 50 rfl rfl⟩
set_option maxRecDepth 100000 in
theorem lkX7_143 : m_LV RX7 143 mX7_ownerOf 2 := ⟨mlX7_ownerOf, m_mem 916 rfl rfl, m_mem 918 rfl rfl, m_mem 48 rfl rfl⟩
set_option maxRecDepth 100000 in
theorem lkX7_147 : m_LV RX7 147 mX7_turnedKey 2 := ⟨mlX7_turnedKey, m_mem 908 rfl rfl, m_mem 910 rfl rfl, m_mem 46 rfl rfl⟩
set_option maxRecDepth 100000 in
theorem lkX7_150 : m_LV RX7 150 mX7_turnedName 2 := ⟨mlX7_turnedName, m_mem 912 rfl rfl, m_mem 914 rfl rfl, m_mem 47 rfl rfl⟩
set_option maxRecDepth 100000 in
theorem lkX7_153 : m_LV RX7 153 mX7_shiftOf 1 := ⟨mlX7_shiftOf, m_mem 920 rfl rfl, m_mem 922 rfl rfl, m_mem 49 rfl rfl⟩
set_option maxRecDepth 100000 in
theorem lkX7_156 : m_LS RX7 156 mX7_coarse 2 := ⟨mlX7_coarse, m_mem 929 rfl rfl, Or.inl (m_mem 928 rfl rfl)⟩
set_option maxRecDepth 100000 in
theorem lkX7_159 : m_LV RX7 159 mX7_maskedCell 3 := ⟨mlX7_maskedCell, m_mem 904 rfl rfl, m_mem 906 rfl rfl, m_mem 45 rfl rfl⟩
set_option maxRecDepth 100000 in
theorem flX7_162 : m_FL RX7 162 7 20 := ⟨by decide, by decide, m_mem 709 rfl rfl⟩
set_option maxRecDepth 100000 in
theorem lkX7_165 : m_LV RX7 165 mX7_rule 4 := ⟨mlX7_rule, m_mem 856 rfl rfl, m_mem 858 rfl rfl, m_mem 38 rfl rfl⟩
set_option maxRecDepth 100000 in
theorem lkX7_169 : m_LV RX7 169 mX7_sumFor 2 := ⟨mlX7_sumFor, m_mem 888 rfl rfl, m_mem 890 rfl rfl, m_mem 42 rfl rfl⟩
set_option maxRecDepth 100000 in
theorem lkX7_172 : m_LV RX7 172 mX7_isKeyOf 2 := ⟨mlX7_isKeyOf, m_mem 892 rfl rfl, m_mem 894 rfl rfl, m_mem 43 rfl rfl⟩
set_option maxRecDepth 100000 in
theorem lkX7_175 : m_LV RX7 175 mX7_holdsFor 2 := ⟨mlX7_holdsFor, m_mem 884 rfl rfl, m_mem 886 rfl rfl, m_mem 41 rfl rfl⟩
set_option maxRecDepth 100000 in
theorem lkX7_178 : m_LV RX7 178 mX7_see 1 := ⟨mlX7_see, m_mem 876 rfl rfl, m_mem 878 rfl rfl, m_mem 39 rfl rfl⟩
set_option maxRecDepth 100000 in
theorem lkX7_182 : m_LV RX7 182 mX7_firstBroken 0 := ⟨mlX7_firstBroken, m_mem 880 rfl rfl, m_mem 882 rfl rfl, m_mem 40 rfl rfl⟩
set_option maxRecDepth 100000 in
theorem lkX7_186 : m_LV RX7 186 mX7_maskTable 1 := ⟨mlX7_maskTable, m_mem 900 rfl rfl, m_mem 902 rfl rfl, m_mem 44 rfl rfl⟩
set_option maxRecDepth 100000 in
theorem lkX7_189 : m_LV RX7 189 mX7_isRow 2 := ⟨mlX7_isRow, m_mem 935 rfl rfl, m_mem 937 rfl rfl, m_mem 51 rfl rfl⟩
set_option maxRecDepth 100000 in
theorem lkX7_192 : m_LV RX7 192 mX7_isPlain 2 := ⟨mlX7_isPlain, m_mem 975 rfl rfl, m_mem 977 rfl rfl, m_mem 55 rfl rfl⟩
set_option maxRecDepth 100000 in
theorem lkX7_195 : m_LV RX7 195 mX7_couldBe 4 := ⟨mlX7_couldBe, m_mem 971 rfl rfl, m_mem 973 rfl rfl, m_mem 54 rfl rfl⟩
set_option maxRecDepth 100000 in
theorem lkX7_199 : m_LV RX7 199 mX7_isKnown 2 := ⟨mlX7_isKnown, m_mem 963 rfl rfl, m_mem 965 rfl rfl, m_mem 52 rfl rfl⟩
set_option maxRecDepth 100000 in
theorem lkX7_202 : m_LV RX7 202 mX7_couldOf 3 := ⟨mlX7_couldOf, m_mem 967 rfl rfl, m_mem 969 rfl rfl, m_mem 53 rfl rfl⟩
set_option maxRecDepth 100000 in
theorem lkX7_205 : m_LV RX7 205 mX7_alikeOf 2 := ⟨mlX7_alikeOf, m_mem 983 rfl rfl, m_mem 985 rfl rfl, m_mem 56 rfl rfl⟩
set_option maxRecDepth 100000 in
theorem lkX7_208 : m_LV RX7 208 mX7_lossOf 2 := ⟨mlX7_lossOf, m_mem 995 rfl rfl, m_mem 997 rfl rfl, m_mem 57 rfl rfl⟩
set_option maxRecDepth 100000 in
theorem lkX7_211 : m_LS RX7 211 mX7_width 1 := ⟨mlX7_width, m_mem 1008 rfl rfl, Or.inl (m_mem 1007 rfl rfl)⟩
set_option maxRecDepth 100000 in
theorem lkX7_214 : m_LV RX7 214 mX7_gives 3 := ⟨mlX7_gives, m_mem 1003 rfl rfl, m_mem 1005 rfl rfl, m_mem 58 rfl rfl⟩
set_option maxRecDepth 100000 in
theorem lkX0_3 : Cond.methodLink RX0 3 Lib.objectInit ∈ m_tbl := m_mem 143 rfl rfl
set_option maxRecDepth 100000 in
theorem flX0_9 : m_FL RX0 9 0 0 := ⟨by decide, by decide, m_mem 144 rfl rfl⟩
set_option maxRecDepth 100000 in
theorem flX0_15 : m_FL RX0 15 0 1 := ⟨by decide, by decide, m_mem 147 rfl rfl⟩
set_option maxRecDepth 100000 in
theorem flX0_18 : m_FL RX0 18 0 2 := ⟨by decide, by decide, m_mem 150 rfl rfl⟩
set_option maxRecDepth 100000 in
theorem flX0_21 : m_FL RX0 21 0 3 := ⟨by decide, by decide, m_mem 153 rfl rfl⟩
set_option maxRecDepth 100000 in
theorem flX0_24 : m_FL RX0 24 0 4 := ⟨by decide, by decide, m_mem 155 rfl rfl⟩
set_option maxRecDepth 100000 in
theorem flX0_27 : m_FL RX0 27 0 5 := ⟨by decide, by decide, m_mem 157 rfl rfl⟩
set_option maxRecDepth 100000 in
theorem lkX1_3 : Cond.methodLink RX1 3 Lib.objectInit ∈ m_tbl := m_mem 87 rfl rfl
set_option maxRecDepth 100000 in
theorem flX1_9 : m_FL RX1 9 1 0 := ⟨by decide, by decide, m_mem 88 rfl rfl⟩
set_option maxRecDepth 100000 in
theorem lkX1_15 : m_LS RX1 15 mX1_placeOf 3 := ⟨mlX1_placeOf, m_mem 324 rfl rfl, Or.inl (m_mem 323 rfl rfl)⟩
set_option maxRecDepth 100000 in
theorem lkX2_3 : Cond.methodLink RX2 3 Lib.objectInit ∈ m_tbl := m_mem 98 rfl rfl
set_option maxRecDepth 100000 in
theorem flX2_9 : m_FL RX2 9 2 0 := ⟨by decide, by decide, m_mem 99 rfl rfl⟩
set_option maxRecDepth 100000 in
theorem flX2_15 : m_FL RX2 15 2 1 := ⟨by decide, by decide, m_mem 100 rfl rfl⟩
set_option maxRecDepth 100000 in
theorem lkX2_18 : Cond.methodLink RX2 18 Lib.Math.min.name ∈ m_tbl := m_mem 473 rfl rfl
set_option maxRecDepth 100000 in
theorem lkX3_3 : Cond.methodLink RX3 3 Lib.objectInit ∈ m_tbl := m_mem 198 rfl rfl
set_option maxRecDepth 100000 in
theorem flX3_9 : m_FL RX3 9 3 0 := ⟨by decide, by decide, m_mem 199 rfl rfl⟩
set_option maxRecDepth 100000 in
theorem flX3_15 : m_FL RX3 15 3 1 := ⟨by decide, by decide, m_mem 201 rfl rfl⟩
set_option maxRecDepth 100000 in
theorem flX3_18 : m_FL RX3 18 3 2 := ⟨by decide, by decide, m_mem 203 rfl rfl⟩
set_option maxRecDepth 100000 in
theorem flX3_21 : m_FL RX3 21 3 3 := ⟨by decide, by decide, m_mem 205 rfl rfl⟩
set_option maxRecDepth 100000 in
theorem flX3_24 : m_FL RX3 24 3 4 := ⟨by decide, by decide, m_mem 207 rfl rfl⟩
set_option maxRecDepth 100000 in
theorem flX3_27 : m_FL RX3 27 3 5 := ⟨by decide, by decide, m_mem 209 rfl rfl⟩
set_option maxRecDepth 100000 in
theorem flX3_30 : m_FL RX3 30 3 6 := ⟨by decide, by decide, m_mem 211 rfl rfl⟩
set_option maxRecDepth 100000 in
theorem lkX4_3 : Cond.methodLink RX4 3 Lib.objectInit ∈ m_tbl := m_mem 136 rfl rfl
set_option maxRecDepth 100000 in
theorem flX4_11 : m_FL RX4 11 4 0 := ⟨by decide, by decide, m_mem 172 rfl rfl⟩
set_option maxRecDepth 100000 in
theorem flX4_17 : m_FL RX4 17 4 1 := ⟨by decide, by decide, m_mem 173 rfl rfl⟩
set_option maxRecDepth 100000 in
theorem flX4_21 : m_FL RX4 21 4 2 := ⟨by decide, by decide, m_mem 174 rfl rfl⟩
set_option maxRecDepth 100000 in
theorem flX4_24 : m_FL RX4 24 4 3 := ⟨by decide, by decide, m_mem 175 rfl rfl⟩
set_option maxRecDepth 100000 in
theorem flX4_28 : m_FL RX4 28 4 4 := ⟨by decide, by decide, m_mem 177 rfl rfl⟩
set_option maxRecDepth 100000 in
theorem flX4_31 : m_FL RX4 31 4 5 := ⟨by decide, by decide, m_mem 179 rfl rfl⟩
set_option maxRecDepth 100000 in
theorem lkX4_34 : m_LI RX4 34 mX0_init 0 := ⟨mlX0_init, rfl, rfl, m_mem 141 rfl rfl, Or.inr ⟨_, List.mem_of_getElem? (i := 4) rfl⟩⟩
set_option maxRecDepth 100000 in
theorem flX4_35 : m_FL RX4 35 0 0 := ⟨by decide, by decide, m_mem 145 rfl rfl⟩
set_option maxRecDepth 100000 in
theorem flX4_38 : m_FL RX4 38 0 1 := ⟨by decide, by decide, m_mem 148 rfl rfl⟩
set_option maxRecDepth 100000 in
theorem lkX4_41 : m_LV RX4 41 mX4_columnNumbered 1 := ⟨mlX4_columnNumbered, m_mem 447 rfl rfl, m_mem 297 rfl rfl, m_mem 298 rfl rfl⟩
set_option maxRecDepth 100000 in
theorem flX4_45 : m_FL RX4 45 0 2 := ⟨by decide, by decide, m_mem 151 rfl rfl⟩
set_option maxRecDepth 100000 in
theorem lkX4_48 : m_LV RX4 48 mX4_isShifted 1 := ⟨mlX4_isShifted, m_mem 443 rfl rfl, m_mem 444 rfl rfl, m_mem 445 rfl rfl⟩
set_option maxRecDepth 100000 in
theorem lkX4_52 : m_LS RX4 52 mX6_rightFigure 1 := ⟨mlX6_rightFigure, m_mem 309 rfl rfl, Or.inr ⟨_, List.mem_of_getElem? (i := 5) rfl⟩⟩
set_option maxRecDepth 100000 in
theorem lkX5_3 : Cond.methodLink RX5 3 Lib.objectInit ∈ m_tbl := m_mem 111 rfl rfl
set_option maxRecDepth 100000 in
theorem flX5_9 : m_FL RX5 9 5 0 := ⟨by decide, by decide, m_mem 112 rfl rfl⟩
set_option maxRecDepth 100000 in
theorem flX5_15 : m_FL RX5 15 5 1 := ⟨by decide, by decide, m_mem 113 rfl rfl⟩
set_option maxRecDepth 100000 in
theorem flX5_18 : m_FL RX5 18 5 2 := ⟨by decide, by decide, m_mem 114 rfl rfl⟩
set_option maxRecDepth 100000 in
theorem flX5_21 : m_FL RX5 21 5 3 := ⟨by decide, by decide, m_mem 115 rfl rfl⟩
set_option maxRecDepth 100000 in
theorem flX5_24 : m_FL RX5 24 5 4 := ⟨by decide, by decide, m_mem 116 rfl rfl⟩
set_option maxRecDepth 100000 in
theorem flX5_28 : m_FL RX5 28 5 5 := ⟨by decide, by decide, m_mem 118 rfl rfl⟩
set_option maxRecDepth 100000 in
theorem lkX5_34 : Cond.methodLink RX5 34 Lib.Math.min.name ∈ m_tbl := m_mem 616 rfl rfl
set_option maxRecDepth 100000 in
theorem lkX5_40 : m_LV RX5 40 mX5_isChoice 2 := ⟨mlX5_isChoice, m_mem 634 rfl rfl, m_mem 636 rfl rfl, m_mem 32 rfl rfl⟩
set_option maxRecDepth 100000 in
theorem lkX5_44 : m_LV RX5 44 mX5_choiceOf 2 := ⟨mlX5_choiceOf, m_mem 661 rfl rfl, m_mem 662 rfl rfl, m_mem 663 rfl rfl⟩
set_option maxRecDepth 100000 in
theorem lkX5_47 : m_LS RX5 47 mJ6_bitCount 1 := ⟨mlJ6_bitCount, m_mem 582 rfl rfl, Or.inl (m_mem 669 rfl rfl)⟩
set_option maxRecDepth 100000 in
theorem lkX5_53 : m_LV RX5 53 mX5_lossOf 1 := ⟨mlX5_lossOf, m_mem 657 rfl rfl, m_mem 658 rfl rfl, m_mem 659 rfl rfl⟩
set_option maxRecDepth 100000 in
theorem lkX5_56 : m_LV RX5 56 mX5_isSafe 2 := ⟨mlX5_isSafe, m_mem 665 rfl rfl, m_mem 667 rfl rfl, m_mem 34 rfl rfl⟩
set_option maxRecDepth 100000 in
theorem lkL_9 : m_LI RL 9 mX6_init 0 := ⟨mlX6_init, rfl, rfl, m_mem 73 rfl rfl, Or.inl (m_mem 72 rfl rfl)⟩
set_option maxRecDepth 100000 in
theorem lkL_12 : m_LI RL 12 mX7_init 0 := ⟨mlX7_init, rfl, rfl, m_mem 687 rfl rfl, Or.inl (m_mem 686 rfl rfl)⟩
set_option maxRecDepth 100000 in
theorem lkL_13 : m_LV RL 13 mX6_table 0 := ⟨mlX6_table, m_mem 268 rfl rfl, m_mem 269 rfl rfl, m_mem 270 rfl rfl⟩
set_option maxRecDepth 100000 in
theorem lkL_17 : m_LV RL 17 mX7_table 0 := ⟨mlX7_table, m_mem 784 rfl rfl, m_mem 785 rfl rfl, m_mem 786 rfl rfl⟩
set_option maxRecDepth 100000 in
theorem lkL_18 : m_LV RL 18 mX6_column 3 := ⟨mlX6_column, m_mem 272 rfl rfl, m_mem 273 rfl rfl, m_mem 274 rfl rfl⟩
set_option maxRecDepth 100000 in
theorem lkL_22 : m_LV RL 22 mX7_column 3 := ⟨mlX7_column, m_mem 792 rfl rfl, m_mem 793 rfl rfl, m_mem 794 rfl rfl⟩
set_option maxRecDepth 100000 in
theorem lkL_23 : m_LV RL 23 mX6_cell 1 := ⟨mlX6_cell, m_mem 284 rfl rfl, m_mem 285 rfl rfl, m_mem 286 rfl rfl⟩
set_option maxRecDepth 100000 in
theorem lkL_27 : m_LV RL 27 mX7_cell_ 1 := ⟨mlX7_cell_, m_mem 803 rfl rfl, m_mem 804 rfl rfl, m_mem 805 rfl rfl⟩
set_option maxRecDepth 100000 in
theorem lkL_28 : m_LV RL 28 mX6_row 1 := ⟨mlX6_row, m_mem 288 rfl rfl, m_mem 289 rfl rfl, m_mem 290 rfl rfl⟩
set_option maxRecDepth 100000 in
theorem lkL_31 : m_LV RL 31 mX7_row 1 := ⟨mlX7_row, m_mem 811 rfl rfl, m_mem 812 rfl rfl, m_mem 813 rfl rfl⟩
set_option maxRecDepth 100000 in
theorem lkL_32 : m_LV RL 32 mX6_wipe 0 := ⟨mlX6_wipe, m_mem 331 rfl rfl, m_mem 332 rfl rfl, m_mem 333 rfl rfl⟩
set_option maxRecDepth 100000 in
theorem lkL_35 : m_LV RL 35 mX7_wipe 0 := ⟨mlX7_wipe, m_mem 807 rfl rfl, m_mem 808 rfl rfl, m_mem 809 rfl rfl⟩
set_option maxRecDepth 100000 in
theorem lkL_36 : m_LV RL 36 mX6_owner 2 := ⟨mlX6_owner, m_mem 335 rfl rfl, m_mem 336 rfl rfl, m_mem 337 rfl rfl⟩
set_option maxRecDepth 100000 in
theorem lkL_40 : m_LV RL 40 mX7_owner 2 := ⟨mlX7_owner, m_mem 829 rfl rfl, m_mem 830 rfl rfl, m_mem 831 rfl rfl⟩
set_option maxRecDepth 100000 in
theorem lkL_41 : m_LV RL 41 mX6_mask 4 := ⟨mlX6_mask, m_mem 343 rfl rfl, m_mem 344 rfl rfl, m_mem 345 rfl rfl⟩
set_option maxRecDepth 100000 in
theorem lkL_45 : m_LV RL 45 mX7_mask 4 := ⟨mlX7_mask, m_mem 837 rfl rfl, m_mem 838 rfl rfl, m_mem 839 rfl rfl⟩
set_option maxRecDepth 100000 in
theorem lkL_46 : m_LV RL 46 mX6_dial 5 := ⟨mlX6_dial, m_mem 353 rfl rfl, m_mem 354 rfl rfl, m_mem 355 rfl rfl⟩
set_option maxRecDepth 100000 in
theorem lkL_50 : m_LV RL 50 mX7_dial 5 := ⟨mlX7_dial, m_mem 844 rfl rfl, m_mem 845 rfl rfl, m_mem 846 rfl rfl⟩
set_option maxRecDepth 100000 in
theorem lkL_51 : m_LV RL 51 mX6_seed 1 := ⟨mlX6_seed, m_mem 364 rfl rfl, m_mem 365 rfl rfl, m_mem 366 rfl rfl⟩
set_option maxRecDepth 100000 in
theorem lkL_54 : m_LV RL 54 mX7_seed 1 := ⟨mlX7_seed, m_mem 848 rfl rfl, m_mem 849 rfl rfl, m_mem 850 rfl rfl⟩
set_option maxRecDepth 100000 in
theorem lkL_55 : m_LV RL 55 mX6_order 3 := ⟨mlX6_order, m_mem 368 rfl rfl, m_mem 369 rfl rfl, m_mem 370 rfl rfl⟩
set_option maxRecDepth 100000 in
theorem lkL_58 : m_LV RL 58 mX7_order 3 := ⟨mlX7_order, m_mem 852 rfl rfl, m_mem 853 rfl rfl, m_mem 854 rfl rfl⟩
set_option maxRecDepth 100000 in
theorem lkL_59 : m_LV RL 59 mX6_agree 6 := ⟨mlX6_agree, m_mem 384 rfl rfl, m_mem 385 rfl rfl, m_mem 386 rfl rfl⟩
set_option maxRecDepth 100000 in
theorem lkL_63 : m_LV RL 63 mX7_agree 6 := ⟨mlX7_agree, m_mem 860 rfl rfl, m_mem 861 rfl rfl, m_mem 862 rfl rfl⟩
set_option maxRecDepth 100000 in
theorem lkL_64 : m_LV RL 64 mX6_found 2 := ⟨mlX6_found, m_mem 395 rfl rfl, m_mem 396 rfl rfl, m_mem 397 rfl rfl⟩
set_option maxRecDepth 100000 in
theorem lkL_67 : m_LV RL 67 mX7_found 2 := ⟨mlX7_found, m_mem 864 rfl rfl, m_mem 865 rfl rfl, m_mem 866 rfl rfl⟩
set_option maxRecDepth 100000 in
theorem lkL_68 : m_LV RL 68 mX6_unrule 0 := ⟨mlX6_unrule, m_mem 403 rfl rfl, m_mem 404 rfl rfl, m_mem 405 rfl rfl⟩
set_option maxRecDepth 100000 in
theorem lkL_71 : m_LV RL 71 mX7_unrule 0 := ⟨mlX7_unrule, m_mem 868 rfl rfl, m_mem 869 rfl rfl, m_mem 870 rfl rfl⟩
set_option maxRecDepth 100000 in
theorem lkL_72 : m_LV RL 72 mX6_broken 1 := ⟨mlX6_broken, m_mem 407 rfl rfl, m_mem 408 rfl rfl, m_mem 409 rfl rfl⟩
set_option maxRecDepth 100000 in
theorem lkL_75 : m_LV RL 75 mX7_broken 1 := ⟨mlX7_broken, m_mem 872 rfl rfl, m_mem 873 rfl rfl, m_mem 874 rfl rfl⟩
set_option maxRecDepth 100000 in
theorem lkL_76 : m_LV RL 76 mX6_make 0 := ⟨mlX6_make, m_mem 431 rfl rfl, m_mem 432 rfl rfl, m_mem 433 rfl rfl⟩
set_option maxRecDepth 100000 in
theorem lkL_79 : m_LV RL 79 mX7_make 0 := ⟨mlX7_make, m_mem 896 rfl rfl, m_mem 897 rfl rfl, m_mem 898 rfl rfl⟩
set_option maxRecDepth 100000 in
theorem lkL_80 : m_LV RL 80 mX6_at 4 := ⟨mlX6_at, m_mem 519 rfl rfl, m_mem 520 rfl rfl, m_mem 521 rfl rfl⟩
set_option maxRecDepth 100000 in
theorem lkL_83 : m_LV RL 83 mX7_at 4 := ⟨mlX7_at, m_mem 931 rfl rfl, m_mem 932 rfl rfl, m_mem 933 rfl rfl⟩
set_option maxRecDepth 100000 in
theorem lkL_84 : m_LV RL 84 mX6_turned 3 := ⟨mlX6_turned, m_mem 527 rfl rfl, m_mem 528 rfl rfl, m_mem 529 rfl rfl⟩
set_option maxRecDepth 100000 in
theorem lkL_87 : m_LV RL 87 mX7_turned 3 := ⟨mlX7_turned, m_mem 939 rfl rfl, m_mem 940 rfl rfl, m_mem 941 rfl rfl⟩
set_option maxRecDepth 100000 in
theorem lkL_88 : m_LV RL 88 mX6_shift 1 := ⟨mlX6_shift, m_mem 531 rfl rfl, m_mem 532 rfl rfl, m_mem 533 rfl rfl⟩
set_option maxRecDepth 100000 in
theorem lkL_91 : m_LV RL 91 mX7_shift 1 := ⟨mlX7_shift, m_mem 943 rfl rfl, m_mem 944 rfl rfl, m_mem 945 rfl rfl⟩
set_option maxRecDepth 100000 in
theorem lkL_92 : m_LV RL 92 mX6_count 4 := ⟨mlX6_count, m_mem 535 rfl rfl, m_mem 536 rfl rfl, m_mem 537 rfl rfl⟩
set_option maxRecDepth 100000 in
theorem lkL_95 : m_LV RL 95 mX7_count 4 := ⟨mlX7_count, m_mem 947 rfl rfl, m_mem 948 rfl rfl, m_mem 949 rfl rfl⟩
set_option maxRecDepth 100000 in
theorem lkL_96 : m_LV RL 96 mX6_joins 3 := ⟨mlX6_joins, m_mem 539 rfl rfl, m_mem 540 rfl rfl, m_mem 541 rfl rfl⟩
set_option maxRecDepth 100000 in
theorem lkL_99 : m_LV RL 99 mX7_joins 3 := ⟨mlX7_joins, m_mem 951 rfl rfl, m_mem 952 rfl rfl, m_mem 953 rfl rfl⟩
set_option maxRecDepth 100000 in
theorem lkL_100 : m_LV RL 100 mX6_miss 2 := ⟨mlX6_miss, m_mem 543 rfl rfl, m_mem 544 rfl rfl, m_mem 545 rfl rfl⟩
set_option maxRecDepth 100000 in
theorem lkL_103 : m_LV RL 103 mX7_miss 2 := ⟨mlX7_miss, m_mem 955 rfl rfl, m_mem 956 rfl rfl, m_mem 957 rfl rfl⟩
set_option maxRecDepth 100000 in
theorem lkL_104 : m_LV RL 104 mX6_could 3 := ⟨mlX6_could, m_mem 550 rfl rfl, m_mem 551 rfl rfl, m_mem 552 rfl rfl⟩
set_option maxRecDepth 100000 in
theorem lkL_107 : m_LV RL 107 mX7_could 3 := ⟨mlX7_could, m_mem 959 rfl rfl, m_mem 960 rfl rfl, m_mem 961 rfl rfl⟩
set_option maxRecDepth 100000 in
theorem lkL_108 : m_LV RL 108 mX6_alike 2 := ⟨mlX6_alike, m_mem 587 rfl rfl, m_mem 588 rfl rfl, m_mem 589 rfl rfl⟩
set_option maxRecDepth 100000 in
theorem lkL_111 : m_LV RL 111 mX7_alike 2 := ⟨mlX7_alike, m_mem 979 rfl rfl, m_mem 980 rfl rfl, m_mem 981 rfl rfl⟩
set_option maxRecDepth 100000 in
theorem lkL_112 : m_LV RL 112 mX6_sure 4 := ⟨mlX6_sure, m_mem 592 rfl rfl, m_mem 593 rfl rfl, m_mem 594 rfl rfl⟩
set_option maxRecDepth 100000 in
theorem lkL_115 : m_LV RL 115 mX7_sure 4 := ⟨mlX7_sure, m_mem 987 rfl rfl, m_mem 988 rfl rfl, m_mem 989 rfl rfl⟩
set_option maxRecDepth 100000 in
theorem lkL_116 : m_LV RL 116 mX6_loss 2 := ⟨mlX6_loss, m_mem 596 rfl rfl, m_mem 597 rfl rfl, m_mem 598 rfl rfl⟩
set_option maxRecDepth 100000 in
theorem lkL_119 : m_LV RL 119 mX7_loss 2 := ⟨mlX7_loss, m_mem 991 rfl rfl, m_mem 992 rfl rfl, m_mem 993 rfl rfl⟩
set_option maxRecDepth 100000 in
theorem lkL_120 : m_LV RL 120 mX6_best 3 := ⟨mlX6_best, m_mem 604 rfl rfl, m_mem 605 rfl rfl, m_mem 606 rfl rfl⟩
set_option maxRecDepth 100000 in
theorem lkL_123 : m_LV RL 123 mX7_best 3 := ⟨mlX7_best, m_mem 999 rfl rfl, m_mem 1000 rfl rfl, m_mem 1001 rfl rfl⟩
set_option maxRecDepth 100000 in
theorem lkL_124 : m_LV RL 124 mX6_about 3 := ⟨mlX6_about, m_mem 676 rfl rfl, m_mem 677 rfl rfl, m_mem 678 rfl rfl⟩
set_option maxRecDepth 100000 in
theorem lkL_127 : m_LV RL 127 mX7_about 3 := ⟨mlX7_about, m_mem 1010 rfl rfl, m_mem 1011 rfl rfl, m_mem 1012 rfl rfl⟩
set_option maxRecDepth 100000 in
theorem lkL_128 : m_LV RL 128 mX6_all 1 := ⟨mlX6_all, m_mem 680 rfl rfl, m_mem 681 rfl rfl, m_mem 682 rfl rfl⟩
set_option maxRecDepth 100000 in
theorem lkL_131 : m_LV RL 131 mX7_all 1 := ⟨mlX7_all, m_mem 1014 rfl rfl, m_mem 1015 rfl rfl, m_mem 1016 rfl rfl⟩
set_option maxRecDepth 100000 in
theorem wS_min : Cond.static Lib.Math.min.name ∈ m_tbl := m_mem 474 rfl rfl
set_option maxRecDepth 100000 in
theorem wC_min : Cond.code Lib.Math.min.name Lib.Math.min.code 2 (some .int) ∈ m_tbl := m_mem 475 rfl rfl
set_option maxRecDepth 100000 in
theorem wS_abs : Cond.static Lib.Math.abs.name ∈ m_tbl := m_mem 548 rfl rfl
set_option maxRecDepth 100000 in
theorem wC_abs : Cond.code Lib.Math.abs.name Lib.Math.abs.code 1 (some .int) ∈ m_tbl := m_mem 549 rfl rfl
set_option maxRecDepth 100000 in
theorem wI_Math : Cond.initialized "java/lang/Math" ∈ m_tbl := m_mem 68 rfl rfl
set_option maxRecDepth 100000 in
theorem wI_obj : Cond.instanceMethod Lib.objectInit ∈ m_tbl := m_mem 76 rfl rfl
set_option maxRecDepth 100000 in
theorem wC_obj : Cond.code Lib.objectInit ⟨#[0xb1]⟩ 1 none ∈ m_tbl := m_mem 77 rfl rfl
set_option maxRecDepth 100000 in
theorem kcX6_179 : Cond.constant RX6 179 (-2147483648) ∈ m_tbl := m_mem 300 rfl rfl
set_option maxRecDepth 100000 in
theorem kcX6_252 : Cond.constant RX6 252 (99999) ∈ m_tbl := m_mem 307 rfl rfl
set_option maxRecDepth 100000 in
theorem kcX1_19 : Cond.constant RX1 19 (-2147483648) ∈ m_tbl := m_mem 326 rfl rfl
set_option maxRecDepth 100000 in
theorem kcX7_103 : Cond.constant RX7 103 (99999) ∈ m_tbl := m_mem 822 rfl rfl
set_option maxRecDepth 100000 in
theorem kcX7_119 : Cond.constant RX7 119 (-2147483648) ∈ m_tbl := m_mem 818 rfl rfl
set_option maxRecDepth 100000 in
theorem kcJ6_265 : Cond.constant RJ6 265 (1431655765) ∈ m_tbl := m_mem 584 rfl rfl
set_option maxRecDepth 100000 in
theorem kcJ6_266 : Cond.constant RJ6 266 (858993459) ∈ m_tbl := m_mem 585 rfl rfl
set_option maxRecDepth 100000 in
theorem kcJ6_267 : Cond.constant RJ6 267 (252645135) ∈ m_tbl := m_mem 586 rfl rfl
set_option maxRecDepth 100000 in
theorem klX6_11 : Cond.classLink RX6 11 RX4 ∈ m_tbl := m_mem 78 rfl rfl
set_option maxRecDepth 100000 in
theorem klX6_17 : Cond.classLink RX6 17 RX3 ∈ m_tbl := m_mem 80 rfl rfl
set_option maxRecDepth 100000 in
theorem klX6_27 : Cond.classLink RX6 27 RX1 ∈ m_tbl := m_mem 82 rfl rfl
set_option maxRecDepth 100000 in
theorem klX6_34 : Cond.classLink RX6 34 RX2 ∈ m_tbl := m_mem 93 rfl rfl
set_option maxRecDepth 100000 in
theorem klX6_41 : Cond.classLink RX6 41 RX5 ∈ m_tbl := m_mem 106 rfl rfl
set_option maxRecDepth 100000 in
theorem klX4_9 : Cond.classLink RX4 9 RX0 ∈ m_tbl := m_mem 137 rfl rfl
set_option maxRecDepth 100000 in
theorem klL_7 : Cond.classLink RL 7 RX6 ∈ m_tbl := m_mem 70 rfl rfl
set_option maxRecDepth 100000 in
theorem klL_10 : Cond.classLink RL 10 RX7 ∈ m_tbl := m_mem 684 rfl rfl
set_option maxRecDepth 100000 in
theorem kn_0 : Cond.instantiable (m_R 0) (m_nF 0) ∈ m_tbl := m_mem 139 rfl rfl
set_option maxRecDepth 100000 in
theorem ki_0 : Cond.initialized (m_R 0) ∈ m_tbl := m_mem 65 rfl rfl
set_option maxRecDepth 100000 in
theorem kn_1 : Cond.instantiable (m_R 1) (m_nF 1) ∈ m_tbl := m_mem 83 rfl rfl
set_option maxRecDepth 100000 in
theorem ki_1 : Cond.initialized (m_R 1) ∈ m_tbl := m_mem 61 rfl rfl
set_option maxRecDepth 100000 in
theorem kn_2 : Cond.instantiable (m_R 2) (m_nF 2) ∈ m_tbl := m_mem 94 rfl rfl
set_option maxRecDepth 100000 in
theorem ki_2 : Cond.initialized (m_R 2) ∈ m_tbl := m_mem 62 rfl rfl
set_option maxRecDepth 100000 in
theorem kn_3 : Cond.instantiable (m_R 3) (m_nF 3) ∈ m_tbl := m_mem 194 rfl rfl
set_option maxRecDepth 100000 in
theorem ki_3 : Cond.initialized (m_R 3) ∈ m_tbl := m_mem 66 rfl rfl
set_option maxRecDepth 100000 in
theorem kn_4 : Cond.instantiable (m_R 4) (m_nF 4) ∈ m_tbl := m_mem 132 rfl rfl
set_option maxRecDepth 100000 in
theorem ki_4 : Cond.initialized (m_R 4) ∈ m_tbl := m_mem 64 rfl rfl
set_option maxRecDepth 100000 in
theorem kn_5 : Cond.instantiable (m_R 5) (m_nF 5) ∈ m_tbl := m_mem 107 rfl rfl
set_option maxRecDepth 100000 in
theorem ki_5 : Cond.initialized (m_R 5) ∈ m_tbl := m_mem 63 rfl rfl
set_option maxRecDepth 100000 in
theorem kn_6 : Cond.instantiable (m_R 6) (m_nF 6) ∈ m_tbl := m_mem 71 rfl rfl
set_option maxRecDepth 100000 in
theorem ki_6 : Cond.initialized (m_R 6) ∈ m_tbl := m_mem 60 rfl rfl
set_option maxRecDepth 100000 in
theorem kn_7 : Cond.instantiable (m_R 7) (m_nF 7) ∈ m_tbl := m_mem 685 rfl rfl
set_option maxRecDepth 100000 in
theorem ki_7 : Cond.initialized (m_R 7) ∈ m_tbl := m_mem 67 rfl rfl
set_option maxRecDepth 100000 in
theorem ka_0 : Cond.arrayClass (m_at_ty 0) ∈ m_tbl := m_mem 92 rfl rfl
set_option maxRecDepth 100000 in
theorem ka_1 : Cond.arrayClass (m_at_ty 1) ∈ m_tbl := m_mem 783 rfl rfl
set_option maxRecDepth 100000 in
theorem kw_31 : Cond.fieldLink RX5 31 "MaskedCopies$WidthSearch" "WIDTHS" "[I" ∈ m_tbl := m_mem 628 rfl rfl
