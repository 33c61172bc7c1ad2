abbrev mX5_init : mj_Y := (yX5_init, cX5_init, 2, none)
set_option maxRecDepth 20000 in
theorem okX5_init : mj_OK mX5_init 0 := ⟨mj_in 81 rfl rfl, mj_in 63 (by decide +kernel) rfl, by decide +kernel, by decide +kernel, by decide⟩
theorem imX5_init : Cond.instanceMethod yX5_init ∈ mj_TB := mj_in 80 (by decide +kernel) rfl
abbrev mX0_init : mj_Y := (yX0_init, cX0_init, 1, none)
set_option maxRecDepth 20000 in
theorem okX0_init : mj_OK mX0_init 0 := ⟨mj_in 89 rfl rfl, mj_in 64 (by decide +kernel) rfl, by decide +kernel, by decide +kernel, by decide⟩
theorem imX0_init : Cond.instanceMethod yX0_init ∈ mj_TB := mj_in 88 (by decide +kernel) rfl
abbrev mX1_init : mj_Y := (yX1_init, cX1_init, 3, none)
set_option maxRecDepth 20000 in
theorem okX1_init : mj_OK mX1_init 2 := ⟨mj_in 134 rfl rfl, mj_in 65 (by decide +kernel) rfl, by decide +kernel, by decide +kernel, by decide⟩
theorem imX1_init : Cond.instanceMethod yX1_init ∈ mj_TB := mj_in 133 (by decide +kernel) rfl
abbrev mX4_init : mj_Y := (yX4_init, cX4_init, 1, none)
set_option maxRecDepth 20000 in
theorem okX4_init : mj_OK mX4_init 0 := ⟨mj_in 154 rfl rfl, mj_in 66 (by decide +kernel) rfl, by decide +kernel, by decide +kernel, by decide⟩
theorem imX4_init : Cond.instanceMethod yX4_init ∈ mj_TB := mj_in 153 (by decide +kernel) rfl
abbrev mX2_init : mj_Y := (yX2_init, cX2_init, 1, none)
set_option maxRecDepth 20000 in
theorem okX2_init : mj_OK mX2_init 0 := ⟨mj_in 183 rfl rfl, mj_in 67 (by decide +kernel) rfl, by decide +kernel, by decide +kernel, by decide⟩
theorem imX2_init : Cond.instanceMethod yX2_init ∈ mj_TB := mj_in 182 (by decide +kernel) rfl
abbrev mX3_init : mj_Y := (yX3_init, cX3_init, 3, none)
set_option maxRecDepth 20000 in
theorem okX3_init : mj_OK mX3_init 2 := ⟨mj_in 217 rfl rfl, mj_in 68 (by decide +kernel) rfl, by decide +kernel, by decide +kernel, by decide⟩
theorem imX3_init : Cond.instanceMethod yX3_init ∈ mj_TB := mj_in 216 (by decide +kernel) rfl
abbrev mX5_write : mj_Y := (yX5_write, cX5_write, 2, (some .int))
set_option maxRecDepth 20000 in
theorem okX5_write : mj_OK mX5_write 1 := ⟨mj_in 304 rfl rfl, mj_in 63 (by decide +kernel) rfl, by decide +kernel, by decide +kernel, by decide⟩
theorem imX5_write : Cond.instanceMethod yX5_write ∈ mj_TB := mj_in 302 (by decide +kernel) rfl
theorem seX5_write : Cond.selects (yX5_write).cls yX5_write yX5_write ∈ mj_TB := mj_in 303 (by decide +kernel) rfl
abbrev mX5_isWithin : mj_Y := (yX5_isWithin, cX5_isWithin, 3, (some .boolean))
set_option maxRecDepth 20000 in
theorem okX5_isWithin : mj_OK mX5_isWithin 3 := ⟨mj_in 307 rfl rfl, mj_in 63 (by decide +kernel) rfl, by decide +kernel, by decide +kernel, by decide⟩
theorem stX5_isWithin : Cond.static yX5_isWithin ∈ mj_TB := mj_in 306 (by decide +kernel) rfl
abbrev mX5_lay : mj_Y := (yX5_lay, cX5_lay, 1, (some .int))
set_option maxRecDepth 20000 in
theorem okX5_lay : mj_OK mX5_lay 0 := ⟨mj_in 311 rfl rfl, mj_in 63 (by decide +kernel) rfl, by decide +kernel, by decide +kernel, by decide⟩
theorem imX5_lay : Cond.instanceMethod yX5_lay ∈ mj_TB := mj_in 309 (by decide +kernel) rfl
theorem seX5_lay : Cond.selects (yX5_lay).cls yX5_lay yX5_lay ∈ mj_TB := mj_in 310 (by decide +kernel) rfl
abbrev mX1_read : mj_Y := (yX1_read, cX1_read, 4, (some .int))
set_option maxRecDepth 20000 in
theorem okX1_read : mj_OK mX1_read 1 := ⟨mj_in 315 rfl rfl, mj_in 65 (by decide +kernel) rfl, by decide +kernel, by decide +kernel, by decide⟩
theorem imX1_read : Cond.instanceMethod yX1_read ∈ mj_TB := mj_in 313 (by decide +kernel) rfl
theorem seX1_read : Cond.selects (yX1_read).cls yX1_read yX1_read ∈ mj_TB := mj_in 314 (by decide +kernel) rfl
abbrev mX1_readItem : mj_Y := (yX1_readItem, cX1_readItem, 1, (some .boolean))
set_option maxRecDepth 20000 in
theorem okX1_readItem : mj_OK mX1_readItem 0 := ⟨mj_in 322 rfl rfl, mj_in 65 (by decide +kernel) rfl, by decide +kernel, by decide +kernel, by decide⟩
theorem imX1_readItem : Cond.instanceMethod yX1_readItem ∈ mj_TB := mj_in 321 (by decide +kernel) rfl
theorem seX1_readItem : Cond.selects (yX1_readItem).cls yX1_readItem yX1_readItem ∈ mj_TB := mj_in 0 (by decide +kernel) rfl
abbrev mX1_takes : mj_Y := (yX1_takes, cX1_takes, 2, (some .boolean))
set_option maxRecDepth 20000 in
theorem okX1_takes : mj_OK mX1_takes 1 := ⟨mj_in 326 rfl rfl, mj_in 65 (by decide +kernel) rfl, by decide +kernel, by decide +kernel, by decide⟩
theorem imX1_takes : Cond.instanceMethod yX1_takes ∈ mj_TB := mj_in 325 (by decide +kernel) rfl
theorem seX1_takes : Cond.selects (yX1_takes).cls yX1_takes yX1_takes ∈ mj_TB := mj_in 1 (by decide +kernel) rfl
abbrev mX1_readNode : mj_Y := (yX1_readNode, cX1_readNode, 6, (some .boolean))
set_option maxRecDepth 20000 in
theorem okX1_readNode : mj_OK mX1_readNode 0 := ⟨mj_in 330 rfl rfl, mj_in 65 (by decide +kernel) rfl, by decide +kernel, by decide +kernel, by decide⟩
theorem imX1_readNode : Cond.instanceMethod yX1_readNode ∈ mj_TB := mj_in 329 (by decide +kernel) rfl
theorem seX1_readNode : Cond.selects (yX1_readNode).cls yX1_readNode yX1_readNode ∈ mj_TB := mj_in 2 (by decide +kernel) rfl
abbrev mX1_readNumber : mj_Y := (yX1_readNumber, cX1_readNumber, 3, (some .int))
set_option maxRecDepth 20000 in
theorem okX1_readNumber : mj_OK mX1_readNumber 0 := ⟨mj_in 334 rfl rfl, mj_in 65 (by decide +kernel) rfl, by decide +kernel, by decide +kernel, by decide⟩
theorem imX1_readNumber : Cond.instanceMethod yX1_readNumber ∈ mj_TB := mj_in 333 (by decide +kernel) rfl
theorem seX1_readNumber : Cond.selects (yX1_readNumber).cls yX1_readNumber yX1_readNumber ∈ mj_TB := mj_in 3 (by decide +kernel) rfl
abbrev mX1_readFigure : mj_Y := (yX1_readFigure, cX1_readFigure, 2, (some .int))
set_option maxRecDepth 20000 in
theorem okX1_readFigure : mj_OK mX1_readFigure 0 := ⟨mj_in 338 rfl rfl, mj_in 65 (by decide +kernel) rfl, by decide +kernel, by decide +kernel, by decide⟩
theorem imX1_readFigure : Cond.instanceMethod yX1_readFigure ∈ mj_TB := mj_in 337 (by decide +kernel) rfl
theorem seX1_readFigure : Cond.selects (yX1_readFigure).cls yX1_readFigure yX1_readFigure ∈ mj_TB := mj_in 4 (by decide +kernel) rfl
abbrev mX5_choicePlace : mj_Y := (yX5_choicePlace, cX5_choicePlace, 2, (some .int))
set_option maxRecDepth 20000 in
theorem okX5_choicePlace : mj_OK mX5_choicePlace 2 := ⟨mj_in 342 rfl rfl, mj_in 63 (by decide +kernel) rfl, by decide +kernel, by decide +kernel, by decide⟩
theorem stX5_choicePlace : Cond.static yX5_choicePlace ∈ mj_TB := mj_in 341 (by decide +kernel) rfl
abbrev mX0_addNode : mj_Y := (yX0_addNode, cX0_addNode, 3, none)
set_option maxRecDepth 20000 in
theorem okX0_addNode : mj_OK mX0_addNode 2 := ⟨mj_in 346 rfl rfl, mj_in 64 (by decide +kernel) rfl, by decide +kernel, by decide +kernel, by decide⟩
theorem imX0_addNode : Cond.instanceMethod yX0_addNode ∈ mj_TB := mj_in 344 (by decide +kernel) rfl
theorem seX0_addNode : Cond.selects (yX0_addNode).cls yX0_addNode yX0_addNode ∈ mj_TB := mj_in 345 (by decide +kernel) rfl
abbrev mX1_readTie : mj_Y := (yX1_readTie, cX1_readTie, 3, (some .boolean))
set_option maxRecDepth 20000 in
theorem okX1_readTie : mj_OK mX1_readTie 0 := ⟨mj_in 350 rfl rfl, mj_in 65 (by decide +kernel) rfl, by decide +kernel, by decide +kernel, by decide⟩
theorem imX1_readTie : Cond.instanceMethod yX1_readTie ∈ mj_TB := mj_in 349 (by decide +kernel) rfl
theorem seX1_readTie : Cond.selects (yX1_readTie).cls yX1_readTie yX1_readTie ∈ mj_TB := mj_in 5 (by decide +kernel) rfl
abbrev mX0_areTied : mj_Y := (yX0_areTied, cX0_areTied, 3, (some .boolean))
set_option maxRecDepth 20000 in
theorem okX0_areTied : mj_OK mX0_areTied 2 := ⟨mj_in 354 rfl rfl, mj_in 64 (by decide +kernel) rfl, by decide +kernel, by decide +kernel, by decide⟩
theorem imX0_areTied : Cond.instanceMethod yX0_areTied ∈ mj_TB := mj_in 352 (by decide +kernel) rfl
theorem seX0_areTied : Cond.selects (yX0_areTied).cls yX0_areTied yX0_areTied ∈ mj_TB := mj_in 353 (by decide +kernel) rfl
abbrev mX5_hasBit : mj_Y := (yX5_hasBit, cX5_hasBit, 2, (some .boolean))
set_option maxRecDepth 20000 in
theorem okX5_hasBit : mj_OK mX5_hasBit 2 := ⟨mj_in 357 rfl rfl, mj_in 63 (by decide +kernel) rfl, by decide +kernel, by decide +kernel, by decide⟩
theorem stX5_hasBit : Cond.static yX5_hasBit ∈ mj_TB := mj_in 356 (by decide +kernel) rfl
abbrev mX0_tieCount : mj_Y := (yX0_tieCount, cX0_tieCount, 3, (some .int))
set_option maxRecDepth 20000 in
theorem okX0_tieCount : mj_OK mX0_tieCount 0 := ⟨mj_in 361 rfl rfl, mj_in 64 (by decide +kernel) rfl, by decide +kernel, by decide +kernel, by decide⟩
theorem imX0_tieCount : Cond.instanceMethod yX0_tieCount ∈ mj_TB := mj_in 359 (by decide +kernel) rfl
theorem seX0_tieCount : Cond.selects (yX0_tieCount).cls yX0_tieCount yX0_tieCount ∈ mj_TB := mj_in 360 (by decide +kernel) rfl
abbrev mJ6_bitCount_0f7a4 : mj_Y := (yJ6_bitCount_0f7a4, cJ6_bitCount_0f7a4, 1, (some .int))
set_option maxRecDepth 20000 in
theorem okJ6_bitCount_0f7a4 : mj_OK mJ6_bitCount_0f7a4 1 := ⟨mj_in 364 rfl rfl, mj_in 74 (by decide +kernel) rfl, by decide +kernel, by decide +kernel, by decide⟩
theorem stJ6_bitCount_0f7a4 : Cond.static yJ6_bitCount_0f7a4 ∈ mj_TB := mj_in 363 (by decide +kernel) rfl
abbrev mX5_joinByNoughts : mj_Y := (yX5_joinByNoughts, cX5_joinByNoughts, 6, none)
set_option maxRecDepth 20000 in
theorem okX5_joinByNoughts : mj_OK mX5_joinByNoughts 4 := ⟨mj_in 370 rfl rfl, mj_in 63 (by decide +kernel) rfl, by decide +kernel, by decide +kernel, by decide⟩
theorem stX5_joinByNoughts : Cond.static yX5_joinByNoughts ∈ mj_TB := mj_in 369 (by decide +kernel) rfl
abbrev mX5_entryPlace : mj_Y := (yX5_entryPlace, cX5_entryPlace, 4, (some .int))
set_option maxRecDepth 20000 in
theorem okX5_entryPlace : mj_OK mX5_entryPlace 4 := ⟨mj_in 373 rfl rfl, mj_in 63 (by decide +kernel) rfl, by decide +kernel, by decide +kernel, by decide⟩
theorem stX5_entryPlace : Cond.static yX5_entryPlace ∈ mj_TB := mj_in 372 (by decide +kernel) rfl
abbrev mX1_readTable : mj_Y := (yX1_readTable, cX1_readTable, 6, (some .boolean))
set_option maxRecDepth 20000 in
theorem okX1_readTable : mj_OK mX1_readTable 2 := ⟨mj_in 377 rfl rfl, mj_in 65 (by decide +kernel) rfl, by decide +kernel, by decide +kernel, by decide⟩
theorem imX1_readTable : Cond.instanceMethod yX1_readTable ∈ mj_TB := mj_in 376 (by decide +kernel) rfl
theorem seX1_readTable : Cond.selects (yX1_readTable).cls yX1_readTable yX1_readTable ∈ mj_TB := mj_in 6 (by decide +kernel) rfl
abbrev mX0_copyFrom : mj_Y := (yX0_copyFrom, cX0_copyFrom, 2, none)
set_option maxRecDepth 20000 in
theorem okX0_copyFrom : mj_OK mX0_copyFrom 1 := ⟨mj_in 382 rfl rfl, mj_in 64 (by decide +kernel) rfl, by decide +kernel, by decide +kernel, by decide⟩
theorem imX0_copyFrom : Cond.instanceMethod yX0_copyFrom ∈ mj_TB := mj_in 380 (by decide +kernel) rfl
theorem seX0_copyFrom : Cond.selects (yX0_copyFrom).cls yX0_copyFrom yX0_copyFrom ∈ mj_TB := mj_in 381 (by decide +kernel) rfl
abbrev mX5_copyRow : mj_Y := (yX5_copyRow, cX5_copyRow, 2, none)
set_option maxRecDepth 20000 in
theorem okX5_copyRow : mj_OK mX5_copyRow 2 := ⟨mj_in 385 rfl rfl, mj_in 63 (by decide +kernel) rfl, by decide +kernel, by decide +kernel, by decide⟩
theorem stX5_copyRow : Cond.static yX5_copyRow ∈ mj_TB := mj_in 384 (by decide +kernel) rfl
abbrev mX5_forgetAnswers : mj_Y := (yX5_forgetAnswers, cX5_forgetAnswers, 1, none)
set_option maxRecDepth 20000 in
theorem okX5_forgetAnswers : mj_OK mX5_forgetAnswers 0 := ⟨mj_in 393 rfl rfl, mj_in 63 (by decide +kernel) rfl, by decide +kernel, by decide +kernel, by decide⟩
theorem imX5_forgetAnswers : Cond.instanceMethod yX5_forgetAnswers ∈ mj_TB := mj_in 392 (by decide +kernel) rfl
theorem seX5_forgetAnswers : Cond.selects (yX5_forgetAnswers).cls yX5_forgetAnswers yX5_forgetAnswers ∈ mj_TB := mj_in 7 (by decide +kernel) rfl
abbrev mX5_wipe : mj_Y := (yX5_wipe, cX5_wipe, 2, (some .int))
set_option maxRecDepth 20000 in
theorem okX5_wipe : mj_OK mX5_wipe 0 := ⟨mj_in 397 rfl rfl, mj_in 63 (by decide +kernel) rfl, by decide +kernel, by decide +kernel, by decide⟩
theorem imX5_wipe : Cond.instanceMethod yX5_wipe ∈ mj_TB := mj_in 395 (by decide +kernel) rfl
theorem seX5_wipe : Cond.selects (yX5_wipe).cls yX5_wipe yX5_wipe ∈ mj_TB := mj_in 396 (by decide +kernel) rfl
abbrev mX5_fault : mj_Y := (yX5_fault, cX5_fault, 1, (some .int))
set_option maxRecDepth 20000 in
theorem okX5_fault : mj_OK mX5_fault 0 := ⟨mj_in 456 rfl rfl, mj_in 63 (by decide +kernel) rfl, by decide +kernel, by decide +kernel, by decide⟩
theorem imX5_fault : Cond.instanceMethod yX5_fault ∈ mj_TB := mj_in 454 (by decide +kernel) rfl
theorem seX5_fault : Cond.selects (yX5_fault).cls yX5_fault yX5_fault ∈ mj_TB := mj_in 455 (by decide +kernel) rfl
abbrev mX5_node : mj_Y := (yX5_node, cX5_node, 3, (some .int))
set_option maxRecDepth 20000 in
theorem okX5_node : mj_OK mX5_node 2 := ⟨mj_in 461 rfl rfl, mj_in 63 (by decide +kernel) rfl, by decide +kernel, by decide +kernel, by decide⟩
theorem imX5_node : Cond.instanceMethod yX5_node ∈ mj_TB := mj_in 459 (by decide +kernel) rfl
theorem seX5_node : Cond.selects (yX5_node).cls yX5_node yX5_node ∈ mj_TB := mj_in 460 (by decide +kernel) rfl
abbrev mX5_isNode : mj_Y := (yX5_isNode, cX5_isNode, 2, (some .boolean))
set_option maxRecDepth 20000 in
theorem okX5_isNode : mj_OK mX5_isNode 1 := ⟨mj_in 465 rfl rfl, mj_in 63 (by decide +kernel) rfl, by decide +kernel, by decide +kernel, by decide⟩
theorem imX5_isNode : Cond.instanceMethod yX5_isNode ∈ mj_TB := mj_in 464 (by decide +kernel) rfl
theorem seX5_isNode : Cond.selects (yX5_isNode).cls yX5_isNode yX5_isNode ∈ mj_TB := mj_in 8 (by decide +kernel) rfl
abbrev mX5_pinnedTo : mj_Y := (yX5_pinnedTo, cX5_pinnedTo, 2, (some .int))
set_option maxRecDepth 20000 in
theorem okX5_pinnedTo : mj_OK mX5_pinnedTo 1 := ⟨mj_in 470 rfl rfl, mj_in 63 (by decide +kernel) rfl, by decide +kernel, by decide +kernel, by decide⟩
theorem imX5_pinnedTo : Cond.instanceMethod yX5_pinnedTo ∈ mj_TB := mj_in 469 (by decide +kernel) rfl
theorem seX5_pinnedTo : Cond.selects (yX5_pinnedTo).cls yX5_pinnedTo yX5_pinnedTo ∈ mj_TB := mj_in 9 (by decide +kernel) rfl
abbrev mX5_cost : mj_Y := (yX5_cost, cX5_cost, 3, (some .int))
set_option maxRecDepth 20000 in
theorem okX5_cost : mj_OK mX5_cost 2 := ⟨mj_in 474 rfl rfl, mj_in 63 (by decide +kernel) rfl, by decide +kernel, by decide +kernel, by decide⟩
theorem imX5_cost : Cond.instanceMethod yX5_cost ∈ mj_TB := mj_in 472 (by decide +kernel) rfl
theorem seX5_cost : Cond.selects (yX5_cost).cls yX5_cost yX5_cost ∈ mj_TB := mj_in 473 (by decide +kernel) rfl
abbrev mX5_isChoice : mj_Y := (yX5_isChoice, cX5_isChoice, 3, (some .boolean))
set_option maxRecDepth 20000 in
theorem okX5_isChoice : mj_OK mX5_isChoice 2 := ⟨mj_in 478 rfl rfl, mj_in 63 (by decide +kernel) rfl, by decide +kernel, by decide +kernel, by decide⟩
theorem imX5_isChoice : Cond.instanceMethod yX5_isChoice ∈ mj_TB := mj_in 477 (by decide +kernel) rfl
theorem seX5_isChoice : Cond.selects (yX5_isChoice).cls yX5_isChoice yX5_isChoice ∈ mj_TB := mj_in 10 (by decide +kernel) rfl
abbrev mX0_choiceCost : mj_Y := (yX0_choiceCost, cX0_choiceCost, 5, (some .int))
set_option maxRecDepth 20000 in
theorem okX0_choiceCost : mj_OK mX0_choiceCost 2 := ⟨mj_in 482 rfl rfl, mj_in 64 (by decide +kernel) rfl, by decide +kernel, by decide +kernel, by decide⟩
theorem imX0_choiceCost : Cond.instanceMethod yX0_choiceCost ∈ mj_TB := mj_in 480 (by decide +kernel) rfl
theorem seX0_choiceCost : Cond.selects (yX0_choiceCost).cls yX0_choiceCost yX0_choiceCost ∈ mj_TB := mj_in 481 (by decide +kernel) rfl
abbrev mX5_capped : mj_Y := (yX5_capped, cX5_capped, 1, (some .int))
set_option maxRecDepth 20000 in
theorem okX5_capped : mj_OK mX5_capped 1 := ⟨mj_in 487 rfl rfl, mj_in 63 (by decide +kernel) rfl, by decide +kernel, by decide +kernel, by decide⟩
theorem stX5_capped : Cond.static yX5_capped ∈ mj_TB := mj_in 486 (by decide +kernel) rfl
abbrev mX5_tie : mj_Y := (yX5_tie, cX5_tie, 5, (some .int))
set_option maxRecDepth 20000 in
theorem okX5_tie : mj_OK mX5_tie 4 := ⟨mj_in 492 rfl rfl, mj_in 63 (by decide +kernel) rfl, by decide +kernel, by decide +kernel, by decide⟩
theorem imX5_tie : Cond.instanceMethod yX5_tie ∈ mj_TB := mj_in 490 (by decide +kernel) rfl
theorem seX5_tie : Cond.selects (yX5_tie).cls yX5_tie yX5_tie ∈ mj_TB := mj_in 491 (by decide +kernel) rfl
abbrev mX0_tieCost : mj_Y := (yX0_tieCost, cX0_tieCost, 6, (some .int))
set_option maxRecDepth 20000 in
theorem okX0_tieCost : mj_OK mX0_tieCost 4 := ⟨mj_in 497 rfl rfl, mj_in 64 (by decide +kernel) rfl, by decide +kernel, by decide +kernel, by decide⟩
theorem imX0_tieCost : Cond.instanceMethod yX0_tieCost ∈ mj_TB := mj_in 495 (by decide +kernel) rfl
theorem seX0_tieCost : Cond.selects (yX0_tieCost).cls yX0_tieCost yX0_tieCost ∈ mj_TB := mj_in 496 (by decide +kernel) rfl
abbrev mX5_price : mj_Y := (yX5_price, cX5_price, 5, (some .int))
set_option maxRecDepth 20000 in
theorem okX5_price : mj_OK mX5_price 3 := ⟨mj_in 502 rfl rfl, mj_in 63 (by decide +kernel) rfl, by decide +kernel, by decide +kernel, by decide⟩
theorem imX5_price : Cond.instanceMethod yX5_price ∈ mj_TB := mj_in 500 (by decide +kernel) rfl
theorem seX5_price : Cond.selects (yX5_price).cls yX5_price yX5_price ∈ mj_TB := mj_in 501 (by decide +kernel) rfl
abbrev mX5_beginAct : mj_Y := (yX5_beginAct, cX5_beginAct, 1, none)
set_option maxRecDepth 20000 in
theorem okX5_beginAct : mj_OK mX5_beginAct 0 := ⟨mj_in 507 rfl rfl, mj_in 63 (by decide +kernel) rfl, by decide +kernel, by decide +kernel, by decide⟩
theorem imX5_beginAct : Cond.instanceMethod yX5_beginAct ∈ mj_TB := mj_in 506 (by decide +kernel) rfl
theorem seX5_beginAct : Cond.selects (yX5_beginAct).cls yX5_beginAct yX5_beginAct ∈ mj_TB := mj_in 11 (by decide +kernel) rfl
abbrev mX5_dropOldest : mj_Y := (yX5_dropOldest, cX5_dropOldest, 3, none)
set_option maxRecDepth 20000 in
theorem okX5_dropOldest : mj_OK mX5_dropOldest 0 := ⟨mj_in 511 rfl rfl, mj_in 63 (by decide +kernel) rfl, by decide +kernel, by decide +kernel, by decide⟩
theorem imX5_dropOldest : Cond.instanceMethod yX5_dropOldest ∈ mj_TB := mj_in 510 (by decide +kernel) rfl
theorem seX5_dropOldest : Cond.selects (yX5_dropOldest).cls yX5_dropOldest yX5_dropOldest ∈ mj_TB := mj_in 12 (by decide +kernel) rfl
abbrev mX5_table : mj_Y := (yX5_table, cX5_table, 8, (some .int))
set_option maxRecDepth 20000 in
theorem okX5_table : mj_OK mX5_table 5 := ⟨mj_in 515 rfl rfl, mj_in 63 (by decide +kernel) rfl, by decide +kernel, by decide +kernel, by decide⟩
theorem imX5_table : Cond.instanceMethod yX5_table ∈ mj_TB := mj_in 513 (by decide +kernel) rfl
theorem seX5_table : Cond.selects (yX5_table).cls yX5_table yX5_table ∈ mj_TB := mj_in 514 (by decide +kernel) rfl
abbrev mX5_loose : mj_Y := (yX5_loose, cX5_loose, 3, (some .int))
set_option maxRecDepth 20000 in
theorem okX5_loose : mj_OK mX5_loose 2 := ⟨mj_in 521 rfl rfl, mj_in 63 (by decide +kernel) rfl, by decide +kernel, by decide +kernel, by decide⟩
theorem imX5_loose : Cond.instanceMethod yX5_loose ∈ mj_TB := mj_in 519 (by decide +kernel) rfl
theorem seX5_loose : Cond.selects (yX5_loose).cls yX5_loose yX5_loose ∈ mj_TB := mj_in 520 (by decide +kernel) rfl
abbrev mX5_part : mj_Y := (yX5_part, cX5_part, 3, none)
set_option maxRecDepth 20000 in
theorem okX5_part : mj_OK mX5_part 3 := ⟨mj_in 524 rfl rfl, mj_in 63 (by decide +kernel) rfl, by decide +kernel, by decide +kernel, by decide⟩
theorem stX5_part : Cond.static yX5_part ∈ mj_TB := mj_in 523 (by decide +kernel) rfl
abbrev mX5_pin : mj_Y := (yX5_pin, cX5_pin, 4, (some .int))
set_option maxRecDepth 20000 in
theorem okX5_pin : mj_OK mX5_pin 2 := ⟨mj_in 528 rfl rfl, mj_in 63 (by decide +kernel) rfl, by decide +kernel, by decide +kernel, by decide⟩
theorem imX5_pin : Cond.instanceMethod yX5_pin ∈ mj_TB := mj_in 526 (by decide +kernel) rfl
theorem seX5_pin : Cond.selects (yX5_pin).cls yX5_pin yX5_pin ∈ mj_TB := mj_in 527 (by decide +kernel) rfl
abbrev mX5_rename : mj_Y := (yX5_rename, cX5_rename, 4, (some .int))
set_option maxRecDepth 20000 in
theorem okX5_rename : mj_OK mX5_rename 2 := ⟨mj_in 532 rfl rfl, mj_in 63 (by decide +kernel) rfl, by decide +kernel, by decide +kernel, by decide⟩
theorem imX5_rename : Cond.instanceMethod yX5_rename ∈ mj_TB := mj_in 530 (by decide +kernel) rfl
theorem seX5_rename : Cond.selects (yX5_rename).cls yX5_rename yX5_rename ∈ mj_TB := mj_in 531 (by decide +kernel) rfl
abbrev mX5_undo : mj_Y := (yX5_undo, cX5_undo, 1, (some .int))
set_option maxRecDepth 20000 in
theorem okX5_undo : mj_OK mX5_undo 0 := ⟨mj_in 536 rfl rfl, mj_in 63 (by decide +kernel) rfl, by decide +kernel, by decide +kernel, by decide⟩
theorem imX5_undo : Cond.instanceMethod yX5_undo ∈ mj_TB := mj_in 534 (by decide +kernel) rfl
theorem seX5_undo : Cond.selects (yX5_undo).cls yX5_undo yX5_undo ∈ mj_TB := mj_in 535 (by decide +kernel) rfl
abbrev mX5_turn : mj_Y := (yX5_turn, cX5_turn, 3, (some .int))
set_option maxRecDepth 20000 in
theorem okX5_turn : mj_OK mX5_turn 2 := ⟨mj_in 540 rfl rfl, mj_in 63 (by decide +kernel) rfl, by decide +kernel, by decide +kernel, by decide⟩
theorem imX5_turn : Cond.instanceMethod yX5_turn ∈ mj_TB := mj_in 538 (by decide +kernel) rfl
theorem seX5_turn : Cond.selects (yX5_turn).cls yX5_turn yX5_turn ∈ mj_TB := mj_in 539 (by decide +kernel) rfl
abbrev mX5_bringReduction : mj_Y := (yX5_bringReduction, cX5_bringReduction, 1, none)
set_option maxRecDepth 20000 in
theorem okX5_bringReduction : mj_OK mX5_bringReduction 0 := ⟨mj_in 544 rfl rfl, mj_in 63 (by decide +kernel) rfl, by decide +kernel, by decide +kernel, by decide⟩
theorem imX5_bringReduction : Cond.instanceMethod yX5_bringReduction ∈ mj_TB := mj_in 543 (by decide +kernel) rfl
theorem seX5_bringReduction : Cond.selects (yX5_bringReduction).cls yX5_bringReduction yX5_bringReduction ∈ mj_TB := mj_in 13 (by decide +kernel) rfl
abbrev mX5_bringWeights : mj_Y := (yX5_bringWeights, cX5_bringWeights, 1, none)
set_option maxRecDepth 20000 in
theorem okX5_bringWeights : mj_OK mX5_bringWeights 0 := ⟨mj_in 548 rfl rfl, mj_in 63 (by decide +kernel) rfl, by decide +kernel, by decide +kernel, by decide⟩
theorem imX5_bringWeights : Cond.instanceMethod yX5_bringWeights ∈ mj_TB := mj_in 547 (by decide +kernel) rfl
theorem seX5_bringWeights : Cond.selects (yX5_bringWeights).cls yX5_bringWeights yX5_bringWeights ∈ mj_TB := mj_in 14 (by decide +kernel) rfl
abbrev mX4_weigh : mj_Y := (yX4_weigh, cX4_weigh, 4, none)
set_option maxRecDepth 20000 in
theorem okX4_weigh : mj_OK mX4_weigh 1 := ⟨mj_in 552 rfl rfl, mj_in 66 (by decide +kernel) rfl, by decide +kernel, by decide +kernel, by decide⟩
theorem imX4_weigh : Cond.instanceMethod yX4_weigh ∈ mj_TB := mj_in 550 (by decide +kernel) rfl
theorem seX4_weigh : Cond.selects (yX4_weigh).cls yX4_weigh yX4_weigh ∈ mj_TB := mj_in 551 (by decide +kernel) rfl
abbrev mX4_areTied : mj_Y := (yX4_areTied, cX4_areTied, 3, (some .boolean))
set_option maxRecDepth 20000 in
theorem okX4_areTied : mj_OK mX4_areTied 2 := ⟨mj_in 559 rfl rfl, mj_in 66 (by decide +kernel) rfl, by decide +kernel, by decide +kernel, by decide⟩
theorem imX4_areTied : Cond.instanceMethod yX4_areTied ∈ mj_TB := mj_in 557 (by decide +kernel) rfl
theorem seX4_areTied : Cond.selects (yX4_areTied).cls yX4_areTied yX4_areTied ∈ mj_TB := mj_in 558 (by decide +kernel) rfl
abbrev mX4_weighTable : mj_Y := (yX4_weighTable, cX4_weighTable, 6, none)
set_option maxRecDepth 20000 in
theorem okX4_weighTable : mj_OK mX4_weighTable 3 := ⟨mj_in 564 rfl rfl, mj_in 66 (by decide +kernel) rfl, by decide +kernel, by decide +kernel, by decide⟩
theorem imX4_weighTable : Cond.instanceMethod yX4_weighTable ∈ mj_TB := mj_in 563 (by decide +kernel) rfl
theorem seX4_weighTable : Cond.selects (yX4_weighTable).cls yX4_weighTable yX4_weighTable ∈ mj_TB := mj_in 15 (by decide +kernel) rfl
abbrev mX2_run : mj_Y := (yX2_run, cX2_run, 5, none)
set_option maxRecDepth 20000 in
theorem okX2_run : mj_OK mX2_run 1 := ⟨mj_in 570 rfl rfl, mj_in 67 (by decide +kernel) rfl, by decide +kernel, by decide +kernel, by decide⟩
theorem imX2_run : Cond.instanceMethod yX2_run ∈ mj_TB := mj_in 568 (by decide +kernel) rfl
theorem seX2_run : Cond.selects (yX2_run).cls yX2_run yX2_run ∈ mj_TB := mj_in 569 (by decide +kernel) rfl
abbrev mX2_nextNode : mj_Y := (yX2_nextNode, cX2_nextNode, 4, (some .int))
set_option maxRecDepth 20000 in
theorem okX2_nextNode : mj_OK mX2_nextNode 0 := ⟨mj_in 575 rfl rfl, mj_in 67 (by decide +kernel) rfl, by decide +kernel, by decide +kernel, by decide⟩
theorem imX2_nextNode : Cond.instanceMethod yX2_nextNode ∈ mj_TB := mj_in 574 (by decide +kernel) rfl
theorem seX2_nextNode : Cond.selects (yX2_nextNode).cls yX2_nextNode yX2_nextNode ∈ mj_TB := mj_in 16 (by decide +kernel) rfl
abbrev mX2_comesAhead : mj_Y := (yX2_comesAhead, cX2_comesAhead, 5, (some .boolean))
set_option maxRecDepth 20000 in
theorem okX2_comesAhead : mj_OK mX2_comesAhead 2 := ⟨mj_in 580 rfl rfl, mj_in 67 (by decide +kernel) rfl, by decide +kernel, by decide +kernel, by decide⟩
theorem imX2_comesAhead : Cond.instanceMethod yX2_comesAhead ∈ mj_TB := mj_in 579 (by decide +kernel) rfl
theorem seX2_comesAhead : Cond.selects (yX2_comesAhead).cls yX2_comesAhead yX2_comesAhead ∈ mj_TB := mj_in 17 (by decide +kernel) rfl
abbrev mX2_matesLeft : mj_Y := (yX2_matesLeft, cX2_matesLeft, 2, (some .int))
set_option maxRecDepth 20000 in
theorem okX2_matesLeft : mj_OK mX2_matesLeft 1 := ⟨mj_in 584 rfl rfl, mj_in 67 (by decide +kernel) rfl, by decide +kernel, by decide +kernel, by decide⟩
theorem imX2_matesLeft : Cond.instanceMethod yX2_matesLeft ∈ mj_TB := mj_in 583 (by decide +kernel) rfl
theorem seX2_matesLeft : Cond.selects (yX2_matesLeft).cls yX2_matesLeft yX2_matesLeft ∈ mj_TB := mj_in 18 (by decide +kernel) rfl
abbrev mJ6_numberOfTrailingZeros_0f7a4 : mj_Y := (yJ6_numberOfTrailingZeros_0f7a4, cJ6_numberOfTrailingZeros_0f7a4, 2, (some .int))
set_option maxRecDepth 20000 in
theorem okJ6_numberOfTrailingZeros_0f7a4 : mj_OK mJ6_numberOfTrailingZeros_0f7a4 1 := ⟨mj_in 589 rfl rfl, mj_in 74 (by decide +kernel) rfl, by decide +kernel, by decide +kernel, by decide⟩
theorem stJ6_numberOfTrailingZeros_0f7a4 : Cond.static yJ6_numberOfTrailingZeros_0f7a4 ∈ mj_TB := mj_in 588 (by decide +kernel) rfl
abbrev mX2_foldIntoOne : mj_Y := (yX2_foldIntoOne, cX2_foldIntoOne, 6, none)
set_option maxRecDepth 20000 in
theorem okX2_foldIntoOne : mj_OK mX2_foldIntoOne 2 := ⟨mj_in 594 rfl rfl, mj_in 67 (by decide +kernel) rfl, by decide +kernel, by decide +kernel, by decide⟩
theorem imX2_foldIntoOne : Cond.instanceMethod yX2_foldIntoOne ∈ mj_TB := mj_in 593 (by decide +kernel) rfl
theorem seX2_foldIntoOne : Cond.selects (yX2_foldIntoOne).cls yX2_foldIntoOne yX2_foldIntoOne ∈ mj_TB := mj_in 19 (by decide +kernel) rfl
abbrev mX4_costAt : mj_Y := (yX4_costAt, cX4_costAt, 3, (some .int))
set_option maxRecDepth 20000 in
theorem okX4_costAt : mj_OK mX4_costAt 2 := ⟨mj_in 599 rfl rfl, mj_in 66 (by decide +kernel) rfl, by decide +kernel, by decide +kernel, by decide⟩
theorem imX4_costAt : Cond.instanceMethod yX4_costAt ∈ mj_TB := mj_in 597 (by decide +kernel) rfl
theorem seX4_costAt : Cond.selects (yX4_costAt).cls yX4_costAt yX4_costAt ∈ mj_TB := mj_in 598 (by decide +kernel) rfl
abbrev mX4_entryAt : mj_Y := (yX4_entryAt, cX4_entryAt, 5, (some .int))
set_option maxRecDepth 20000 in
theorem okX4_entryAt : mj_OK mX4_entryAt 4 := ⟨mj_in 603 rfl rfl, mj_in 66 (by decide +kernel) rfl, by decide +kernel, by decide +kernel, by decide⟩
theorem imX4_entryAt : Cond.instanceMethod yX4_entryAt ∈ mj_TB := mj_in 601 (by decide +kernel) rfl
theorem seX4_entryAt : Cond.selects (yX4_entryAt).cls yX4_entryAt yX4_entryAt ∈ mj_TB := mj_in 602 (by decide +kernel) rfl
abbrev mX4_addCost : mj_Y := (yX4_addCost, cX4_addCost, 5, none)
set_option maxRecDepth 20000 in
theorem okX4_addCost : mj_OK mX4_addCost 3 := ⟨mj_in 607 rfl rfl, mj_in 66 (by decide +kernel) rfl, by decide +kernel, by decide +kernel, by decide⟩
theorem imX4_addCost : Cond.instanceMethod yX4_addCost ∈ mj_TB := mj_in 605 (by decide +kernel) rfl
theorem seX4_addCost : Cond.selects (yX4_addCost).cls yX4_addCost yX4_addCost ∈ mj_TB := mj_in 606 (by decide +kernel) rfl
abbrev mX2_foldIntoTwo : mj_Y := (yX2_foldIntoTwo, cX2_foldIntoTwo, 9, none)
set_option maxRecDepth 20000 in
theorem okX2_foldIntoTwo : mj_OK mX2_foldIntoTwo 3 := ⟨mj_in 612 rfl rfl, mj_in 67 (by decide +kernel) rfl, by decide +kernel, by decide +kernel, by decide⟩
theorem imX2_foldIntoTwo : Cond.instanceMethod yX2_foldIntoTwo ∈ mj_TB := mj_in 611 (by decide +kernel) rfl
theorem seX2_foldIntoTwo : Cond.selects (yX2_foldIntoTwo).cls yX2_foldIntoTwo yX2_foldIntoTwo ∈ mj_TB := mj_in 20 (by decide +kernel) rfl
abbrev mX4_addEntry : mj_Y := (yX4_addEntry, cX4_addEntry, 7, none)
set_option maxRecDepth 20000 in
theorem okX4_addEntry : mj_OK mX4_addEntry 5 := ⟨mj_in 618 rfl rfl, mj_in 66 (by decide +kernel) rfl, by decide +kernel, by decide +kernel, by decide⟩
theorem imX4_addEntry : Cond.instanceMethod yX4_addEntry ∈ mj_TB := mj_in 616 (by decide +kernel) rfl
theorem seX4_addEntry : Cond.selects (yX4_addEntry).cls yX4_addEntry yX4_addEntry ∈ mj_TB := mj_in 617 (by decide +kernel) rfl
abbrev mX2_guess : mj_Y := (yX2_guess, cX2_guess, 7, none)
set_option maxRecDepth 20000 in
theorem okX2_guess : mj_OK mX2_guess 2 := ⟨mj_in 622 rfl rfl, mj_in 67 (by decide +kernel) rfl, by decide +kernel, by decide +kernel, by decide⟩
theorem imX2_guess : Cond.instanceMethod yX2_guess ∈ mj_TB := mj_in 621 (by decide +kernel) rfl
theorem seX2_guess : Cond.selects (yX2_guess).cls yX2_guess yX2_guess ∈ mj_TB := mj_in 21 (by decide +kernel) rfl
abbrev mX2_outlook : mj_Y := (yX2_outlook, cX2_outlook, 6, (some .int))
set_option maxRecDepth 20000 in
theorem okX2_outlook : mj_OK mX2_outlook 3 := ⟨mj_in 626 rfl rfl, mj_in 67 (by decide +kernel) rfl, by decide +kernel, by decide +kernel, by decide⟩
theorem imX2_outlook : Cond.instanceMethod yX2_outlook ∈ mj_TB := mj_in 625 (by decide +kernel) rfl
theorem seX2_outlook : Cond.selects (yX2_outlook).cls yX2_outlook yX2_outlook ∈ mj_TB := mj_in 22 (by decide +kernel) rfl
abbrev mX4_leastAcross : mj_Y := (yX4_leastAcross, cX4_leastAcross, 7, (some .int))
set_option maxRecDepth 20000 in
theorem okX4_leastAcross : mj_OK mX4_leastAcross 3 := ⟨mj_in 630 rfl rfl, mj_in 66 (by decide +kernel) rfl, by decide +kernel, by decide +kernel, by decide⟩
theorem imX4_leastAcross : Cond.instanceMethod yX4_leastAcross ∈ mj_TB := mj_in 628 (by decide +kernel) rfl
theorem seX4_leastAcross : Cond.selects (yX4_leastAcross).cls yX4_leastAcross yX4_leastAcross ∈ mj_TB := mj_in 629 (by decide +kernel) rfl
abbrev mX2_readOff : mj_Y := (yX2_readOff, cX2_readOff, 2, none)
set_option maxRecDepth 20000 in
theorem okX2_readOff : mj_OK mX2_readOff 0 := ⟨mj_in 637 rfl rfl, mj_in 67 (by decide +kernel) rfl, by decide +kernel, by decide +kernel, by decide⟩
theorem imX2_readOff : Cond.instanceMethod yX2_readOff ∈ mj_TB := mj_in 636 (by decide +kernel) rfl
theorem seX2_readOff : Cond.selects (yX2_readOff).cls yX2_readOff yX2_readOff ∈ mj_TB := mj_in 23 (by decide +kernel) rfl
abbrev mX2_firstLeast : mj_Y := (yX2_firstLeast, cX2_firstLeast, 7, (some .int))
set_option maxRecDepth 20000 in
theorem okX2_firstLeast : mj_OK mX2_firstLeast 2 := ⟨mj_in 641 rfl rfl, mj_in 67 (by decide +kernel) rfl, by decide +kernel, by decide +kernel, by decide⟩
theorem imX2_firstLeast : Cond.instanceMethod yX2_firstLeast ∈ mj_TB := mj_in 640 (by decide +kernel) rfl
theorem seX2_firstLeast : Cond.selects (yX2_firstLeast).cls yX2_firstLeast yX2_firstLeast ∈ mj_TB := mj_in 24 (by decide +kernel) rfl
abbrev mX4_costBeside : mj_Y := (yX4_costBeside, cX4_costBeside, 7, (some .int))
set_option maxRecDepth 20000 in
theorem okX4_costBeside : mj_OK mX4_costBeside 4 := ⟨mj_in 645 rfl rfl, mj_in 66 (by decide +kernel) rfl, by decide +kernel, by decide +kernel, by decide⟩
theorem imX4_costBeside : Cond.instanceMethod yX4_costBeside ∈ mj_TB := mj_in 643 (by decide +kernel) rfl
theorem seX4_costBeside : Cond.selects (yX4_costBeside).cls yX4_costBeside yX4_costBeside ∈ mj_TB := mj_in 644 (by decide +kernel) rfl
abbrev mX5_reduced : mj_Y := (yX5_reduced, cX5_reduced, 2, (some .int))
set_option maxRecDepth 20000 in
theorem okX5_reduced : mj_OK mX5_reduced 1 := ⟨mj_in 649 rfl rfl, mj_in 63 (by decide +kernel) rfl, by decide +kernel, by decide +kernel, by decide⟩
theorem imX5_reduced : Cond.instanceMethod yX5_reduced ∈ mj_TB := mj_in 647 (by decide +kernel) rfl
theorem seX5_reduced : Cond.selects (yX5_reduced).cls yX5_reduced yX5_reduced ∈ mj_TB := mj_in 648 (by decide +kernel) rfl
abbrev mX5_plan : mj_Y := (yX5_plan, cX5_plan, 2, (some .int))
set_option maxRecDepth 20000 in
theorem okX5_plan : mj_OK mX5_plan 1 := ⟨mj_in 653 rfl rfl, mj_in 63 (by decide +kernel) rfl, by decide +kernel, by decide +kernel, by decide⟩
theorem imX5_plan : Cond.instanceMethod yX5_plan ∈ mj_TB := mj_in 651 (by decide +kernel) rfl
theorem seX5_plan : Cond.selects (yX5_plan).cls yX5_plan yX5_plan ∈ mj_TB := mj_in 652 (by decide +kernel) rfl
abbrev mX4_planCost : mj_Y := (yX4_planCost, cX4_planCost, 4, (some .int))
set_option maxRecDepth 20000 in
theorem okX4_planCost : mj_OK mX4_planCost 1 := ⟨mj_in 657 rfl rfl, mj_in 66 (by decide +kernel) rfl, by decide +kernel, by decide +kernel, by decide⟩
theorem imX4_planCost : Cond.instanceMethod yX4_planCost ∈ mj_TB := mj_in 655 (by decide +kernel) rfl
theorem seX4_planCost : Cond.selects (yX4_planCost).cls yX4_planCost yX4_planCost ∈ mj_TB := mj_in 656 (by decide +kernel) rfl
abbrev mX4_matesBelow : mj_Y := (yX4_matesBelow, cX4_matesBelow, 2, (some .int))
set_option maxRecDepth 20000 in
theorem okX4_matesBelow : mj_OK mX4_matesBelow 1 := ⟨mj_in 661 rfl rfl, mj_in 66 (by decide +kernel) rfl, by decide +kernel, by decide +kernel, by decide⟩
theorem imX4_matesBelow : Cond.instanceMethod yX4_matesBelow ∈ mj_TB := mj_in 659 (by decide +kernel) rfl
theorem seX4_matesBelow : Cond.selects (yX4_matesBelow).cls yX4_matesBelow yX4_matesBelow ∈ mj_TB := mj_in 660 (by decide +kernel) rfl
abbrev mX5_least : mj_Y := (yX5_least, cX5_least, 2, (some .int))
set_option maxRecDepth 20000 in
theorem okX5_least : mj_OK mX5_least 1 := ⟨mj_in 666 rfl rfl, mj_in 63 (by decide +kernel) rfl, by decide +kernel, by decide +kernel, by decide⟩
theorem imX5_least : Cond.instanceMethod yX5_least ∈ mj_TB := mj_in 664 (by decide +kernel) rfl
theorem seX5_least : Cond.selects (yX5_least).cls yX5_least yX5_least ∈ mj_TB := mj_in 665 (by decide +kernel) rfl
abbrev mX5_bringSearch : mj_Y := (yX5_bringSearch, cX5_bringSearch, 1, none)
set_option maxRecDepth 20000 in
theorem okX5_bringSearch : mj_OK mX5_bringSearch 0 := ⟨mj_in 670 rfl rfl, mj_in 63 (by decide +kernel) rfl, by decide +kernel, by decide +kernel, by decide⟩
theorem imX5_bringSearch : Cond.instanceMethod yX5_bringSearch ∈ mj_TB := mj_in 669 (by decide +kernel) rfl
theorem seX5_bringSearch : Cond.selects (yX5_bringSearch).cls yX5_bringSearch yX5_bringSearch ∈ mj_TB := mj_in 25 (by decide +kernel) rfl
abbrev mX3_run : mj_Y := (yX3_run, cX3_run, 2, none)
set_option maxRecDepth 20000 in
theorem okX3_run : mj_OK mX3_run 0 := ⟨mj_in 674 rfl rfl, mj_in 68 (by decide +kernel) rfl, by decide +kernel, by decide +kernel, by decide⟩
theorem imX3_run : Cond.instanceMethod yX3_run ∈ mj_TB := mj_in 672 (by decide +kernel) rfl
theorem seX3_run : Cond.selects (yX3_run).cls yX3_run yX3_run ∈ mj_TB := mj_in 673 (by decide +kernel) rfl
abbrev mX4_leastCost : mj_Y := (yX4_leastCost, cX4_leastCost, 4, (some .int))
set_option maxRecDepth 20000 in
theorem okX4_leastCost : mj_OK mX4_leastCost 1 := ⟨mj_in 679 rfl rfl, mj_in 66 (by decide +kernel) rfl, by decide +kernel, by decide +kernel, by decide⟩
theorem imX4_leastCost : Cond.instanceMethod yX4_leastCost ∈ mj_TB := mj_in 677 (by decide +kernel) rfl
theorem seX4_leastCost : Cond.selects (yX4_leastCost).cls yX4_leastCost yX4_leastCost ∈ mj_TB := mj_in 678 (by decide +kernel) rfl
abbrev mX3_tryFrom : mj_Y := (yX3_tryFrom, cX3_tryFrom, 6, none)
set_option maxRecDepth 20000 in
theorem okX3_tryFrom : mj_OK mX3_tryFrom 2 := ⟨mj_in 685 rfl rfl, mj_in 68 (by decide +kernel) rfl, by decide +kernel, by decide +kernel, by decide⟩
theorem imX3_tryFrom : Cond.instanceMethod yX3_tryFrom ∈ mj_TB := mj_in 684 (by decide +kernel) rfl
theorem seX3_tryFrom : Cond.selects (yX3_tryFrom).cls yX3_tryFrom yX3_tryFrom ∈ mj_TB := mj_in 26 (by decide +kernel) rfl
abbrev mX3_takeIn : mj_Y := (yX3_takeIn, cX3_takeIn, 2, none)
set_option maxRecDepth 20000 in
theorem okX3_takeIn : mj_OK mX3_takeIn 1 := ⟨mj_in 689 rfl rfl, mj_in 68 (by decide +kernel) rfl, by decide +kernel, by decide +kernel, by decide⟩
theorem imX3_takeIn : Cond.instanceMethod yX3_takeIn ∈ mj_TB := mj_in 688 (by decide +kernel) rfl
theorem seX3_takeIn : Cond.selects (yX3_takeIn).cls yX3_takeIn yX3_takeIn ∈ mj_TB := mj_in 27 (by decide +kernel) rfl
abbrev mX3_likeFirst : mj_Y := (yX3_likeFirst, cX3_likeFirst, 3, (some .int))
set_option maxRecDepth 20000 in
theorem okX3_likeFirst : mj_OK mX3_likeFirst 0 := ⟨mj_in 694 rfl rfl, mj_in 68 (by decide +kernel) rfl, by decide +kernel, by decide +kernel, by decide⟩
theorem imX3_likeFirst : Cond.instanceMethod yX3_likeFirst ∈ mj_TB := mj_in 693 (by decide +kernel) rfl
theorem seX3_likeFirst : Cond.selects (yX3_likeFirst).cls yX3_likeFirst yX3_likeFirst ∈ mj_TB := mj_in 28 (by decide +kernel) rfl
abbrev mX4_bound : mj_Y := (yX4_bound, cX4_bound, 4, (some .int))
set_option maxRecDepth 20000 in
theorem okX4_bound : mj_OK mX4_bound 0 := ⟨mj_in 700 rfl rfl, mj_in 66 (by decide +kernel) rfl, by decide +kernel, by decide +kernel, by decide⟩
theorem imX4_bound : Cond.instanceMethod yX4_bound ∈ mj_TB := mj_in 698 (by decide +kernel) rfl
theorem seX4_bound : Cond.selects (yX4_bound).cls yX4_bound yX4_bound ∈ mj_TB := mj_in 699 (by decide +kernel) rfl
abbrev mX4_leastEntry : mj_Y := (yX4_leastEntry, cX4_leastEntry, 6, (some .int))
set_option maxRecDepth 20000 in
theorem okX4_leastEntry : mj_OK mX4_leastEntry 2 := ⟨mj_in 705 rfl rfl, mj_in 66 (by decide +kernel) rfl, by decide +kernel, by decide +kernel, by decide⟩
theorem imX4_leastEntry : Cond.instanceMethod yX4_leastEntry ∈ mj_TB := mj_in 703 (by decide +kernel) rfl
theorem seX4_leastEntry : Cond.selects (yX4_leastEntry).cls yX4_leastEntry yX4_leastEntry ∈ mj_TB := mj_in 704 (by decide +kernel) rfl
abbrev mX5_first : mj_Y := (yX5_first, cX5_first, 2, (some .int))
set_option maxRecDepth 20000 in
theorem okX5_first : mj_OK mX5_first 1 := ⟨mj_in 710 rfl rfl, mj_in 63 (by decide +kernel) rfl, by decide +kernel, by decide +kernel, by decide⟩
theorem imX5_first : Cond.instanceMethod yX5_first ∈ mj_TB := mj_in 708 (by decide +kernel) rfl
theorem seX5_first : Cond.selects (yX5_first).cls yX5_first yX5_first ∈ mj_TB := mj_in 709 (by decide +kernel) rfl
abbrev mX5_with : mj_Y := (yX5_with, cX5_with, 3, (some .int))
set_option maxRecDepth 20000 in
theorem okX5_with : mj_OK mX5_with 2 := ⟨mj_in 714 rfl rfl, mj_in 63 (by decide +kernel) rfl, by decide +kernel, by decide +kernel, by decide⟩
theorem imX5_with : Cond.instanceMethod yX5_with ∈ mj_TB := mj_in 712 (by decide +kernel) rfl
theorem seX5_with : Cond.selects (yX5_with).cls yX5_with yX5_with ∈ mj_TB := mj_in 713 (by decide +kernel) rfl
abbrev mX4_allowOnly : mj_Y := (yX4_allowOnly, cX4_allowOnly, 4, none)
set_option maxRecDepth 20000 in
theorem okX4_allowOnly : mj_OK mX4_allowOnly 2 := ⟨mj_in 718 rfl rfl, mj_in 66 (by decide +kernel) rfl, by decide +kernel, by decide +kernel, by decide⟩
theorem imX4_allowOnly : Cond.instanceMethod yX4_allowOnly ∈ mj_TB := mj_in 716 (by decide +kernel) rfl
theorem seX4_allowOnly : Cond.selects (yX4_allowOnly).cls yX4_allowOnly yX4_allowOnly ∈ mj_TB := mj_in 717 (by decide +kernel) rfl
abbrev mX5_without : mj_Y := (yX5_without, cX5_without, 3, (some .int))
set_option maxRecDepth 20000 in
theorem okX5_without : mj_OK mX5_without 2 := ⟨mj_in 722 rfl rfl, mj_in 63 (by decide +kernel) rfl, by decide +kernel, by decide +kernel, by decide⟩
theorem imX5_without : Cond.instanceMethod yX5_without ∈ mj_TB := mj_in 720 (by decide +kernel) rfl
theorem seX5_without : Cond.selects (yX5_without).cls yX5_without yX5_without ∈ mj_TB := mj_in 721 (by decide +kernel) rfl
abbrev mX5_keep : mj_Y := (yX5_keep, cX5_keep, 1, (some .int))
set_option maxRecDepth 20000 in
theorem okX5_keep : mj_OK mX5_keep 0 := ⟨mj_in 726 rfl rfl, mj_in 63 (by decide +kernel) rfl, by decide +kernel, by decide +kernel, by decide⟩
theorem imX5_keep : Cond.instanceMethod yX5_keep ∈ mj_TB := mj_in 724 (by decide +kernel) rfl
theorem seX5_keep : Cond.selects (yX5_keep).cls yX5_keep yX5_keep ∈ mj_TB := mj_in 725 (by decide +kernel) rfl
abbrev mX5_back : mj_Y := (yX5_back, cX5_back, 1, (some .int))
set_option maxRecDepth 20000 in
theorem okX5_back : mj_OK mX5_back 0 := ⟨mj_in 730 rfl rfl, mj_in 63 (by decide +kernel) rfl, by decide +kernel, by decide +kernel, by decide⟩
theorem imX5_back : Cond.instanceMethod yX5_back ∈ mj_TB := mj_in 728 (by decide +kernel) rfl
theorem seX5_back : Cond.selects (yX5_back).cls yX5_back yX5_back ∈ mj_TB := mj_in 729 (by decide +kernel) rfl
abbrev mX5_count : mj_Y := (yX5_count, cX5_count, 2, (some .int))
set_option maxRecDepth 20000 in
theorem okX5_count : mj_OK mX5_count 1 := ⟨mj_in 734 rfl rfl, mj_in 63 (by decide +kernel) rfl, by decide +kernel, by decide +kernel, by decide⟩
theorem imX5_count : Cond.instanceMethod yX5_count ∈ mj_TB := mj_in 732 (by decide +kernel) rfl
theorem seX5_count : Cond.selects (yX5_count).cls yX5_count yX5_count ∈ mj_TB := mj_in 733 (by decide +kernel) rfl
abbrev mX0_pinCount : mj_Y := (yX0_pinCount, cX0_pinCount, 3, (some .int))
set_option maxRecDepth 20000 in
theorem okX0_pinCount : mj_OK mX0_pinCount 0 := ⟨mj_in 738 rfl rfl, mj_in 64 (by decide +kernel) rfl, by decide +kernel, by decide +kernel, by decide⟩
theorem imX0_pinCount : Cond.instanceMethod yX0_pinCount ∈ mj_TB := mj_in 736 (by decide +kernel) rfl
theorem seX0_pinCount : Cond.selects (yX0_pinCount).cls yX0_pinCount yX0_pinCount ∈ mj_TB := mj_in 737 (by decide +kernel) rfl
abbrev mX6_init : mj_Y := (yX6_init, cX6_init, 1, none)
set_option maxRecDepth 20000 in
theorem okX6_init : mj_OK mX6_init 0 := ⟨mj_in 743 rfl rfl, mj_in 76 (by decide +kernel) rfl, by decide +kernel, by decide +kernel, by decide⟩
theorem imX6_init : Cond.instanceMethod yX6_init ∈ mj_TB := mj_in 742 (by decide +kernel) rfl
abbrev mX6_readNone : mj_Y := (yX6_readNone, cX6_readNone, 2, none)
set_option maxRecDepth 20000 in
theorem okX6_readNone : mj_OK mX6_readNone 0 := ⟨mj_in 748 rfl rfl, mj_in 76 (by decide +kernel) rfl, by decide +kernel, by decide +kernel, by decide⟩
theorem imX6_readNone : Cond.instanceMethod yX6_readNone ∈ mj_TB := mj_in 747 (by decide +kernel) rfl
theorem seX6_readNone : Cond.selects (yX6_readNone).cls yX6_readNone yX6_readNone ∈ mj_TB := mj_in 29 (by decide +kernel) rfl
abbrev mX6_nodeIs : mj_Y := (yX6_nodeIs, cX6_nodeIs, 7, none)
set_option maxRecDepth 20000 in
theorem okX6_nodeIs : mj_OK mX6_nodeIs 5 := ⟨mj_in 752 rfl rfl, mj_in 76 (by decide +kernel) rfl, by decide +kernel, by decide +kernel, by decide⟩
theorem imX6_nodeIs : Cond.instanceMethod yX6_nodeIs ∈ mj_TB := mj_in 751 (by decide +kernel) rfl
theorem seX6_nodeIs : Cond.selects (yX6_nodeIs).cls yX6_nodeIs yX6_nodeIs ∈ mj_TB := mj_in 30 (by decide +kernel) rfl
abbrev mX6_tableIs : mj_Y := (yX6_tableIs, cX6_tableIs, 6, none)
set_option maxRecDepth 20000 in
theorem okX6_tableIs : mj_OK mX6_tableIs 3 := ⟨mj_in 756 rfl rfl, mj_in 76 (by decide +kernel) rfl, by decide +kernel, by decide +kernel, by decide⟩
theorem imX6_tableIs : Cond.instanceMethod yX6_tableIs ∈ mj_TB := mj_in 755 (by decide +kernel) rfl
theorem seX6_tableIs : Cond.selects (yX6_tableIs).cls yX6_tableIs yX6_tableIs ∈ mj_TB := mj_in 31 (by decide +kernel) rfl
abbrev mX6_entryAt : mj_Y := (yX6_entryAt, cX6_entryAt, 7, (some .int))
set_option maxRecDepth 20000 in
theorem okX6_entryAt : mj_OK mX6_entryAt 4 := ⟨mj_in 759 rfl rfl, mj_in 76 (by decide +kernel) rfl, by decide +kernel, by decide +kernel, by decide⟩
theorem stX6_entryAt : Cond.static yX6_entryAt ∈ mj_TB := mj_in 758 (by decide +kernel) rfl
abbrev mX6_begin : mj_Y := (yX6_begin, cX6_begin, 2, none)
set_option maxRecDepth 20000 in
theorem okX6_begin : mj_OK mX6_begin 0 := ⟨mj_in 765 rfl rfl, mj_in 76 (by decide +kernel) rfl, by decide +kernel, by decide +kernel, by decide⟩
theorem imX6_begin : Cond.instanceMethod yX6_begin ∈ mj_TB := mj_in 764 (by decide +kernel) rfl
theorem seX6_begin : Cond.selects (yX6_begin).cls yX6_begin yX6_begin ∈ mj_TB := mj_in 32 (by decide +kernel) rfl
abbrev mX6_write : mj_Y := (yX6_write, cX6_write, 2, (some .int))
set_option maxRecDepth 20000 in
theorem okX6_write : mj_OK mX6_write 1 := ⟨mj_in 851 rfl rfl, mj_in 76 (by decide +kernel) rfl, by decide +kernel, by decide +kernel, by decide⟩
theorem imX6_write : Cond.instanceMethod yX6_write ∈ mj_TB := mj_in 849 (by decide +kernel) rfl
theorem seX6_write : Cond.selects (yX6_write).cls yX6_write yX6_write ∈ mj_TB := mj_in 850 (by decide +kernel) rfl
abbrev mX6_in : mj_Y := (yX6_in, cX6_in, 6, (some .boolean))
set_option maxRecDepth 20000 in
theorem okX6_in : mj_OK mX6_in 3 := ⟨mj_in 856 rfl rfl, mj_in 76 (by decide +kernel) rfl, by decide +kernel, by decide +kernel, by decide⟩
theorem stX6_in : Cond.static yX6_in ∈ mj_TB := mj_in 855 (by decide +kernel) rfl
abbrev mX6_wipe : mj_Y := (yX6_wipe, cX6_wipe, 2, (some .int))
set_option maxRecDepth 20000 in
theorem okX6_wipe : mj_OK mX6_wipe 0 := ⟨mj_in 860 rfl rfl, mj_in 76 (by decide +kernel) rfl, by decide +kernel, by decide +kernel, by decide⟩
theorem imX6_wipe : Cond.instanceMethod yX6_wipe ∈ mj_TB := mj_in 858 (by decide +kernel) rfl
theorem seX6_wipe : Cond.selects (yX6_wipe).cls yX6_wipe yX6_wipe ∈ mj_TB := mj_in 859 (by decide +kernel) rfl
abbrev mX6_fault : mj_Y := (yX6_fault, cX6_fault, 1, (some .int))
set_option maxRecDepth 20000 in
theorem okX6_fault : mj_OK mX6_fault 0 := ⟨mj_in 864 rfl rfl, mj_in 76 (by decide +kernel) rfl, by decide +kernel, by decide +kernel, by decide⟩
theorem imX6_fault : Cond.instanceMethod yX6_fault ∈ mj_TB := mj_in 862 (by decide +kernel) rfl
theorem seX6_fault : Cond.selects (yX6_fault).cls yX6_fault yX6_fault ∈ mj_TB := mj_in 863 (by decide +kernel) rfl
abbrev mX6_readAll : mj_Y := (yX6_readAll, cX6_readAll, 3, (some .int))
set_option maxRecDepth 20000 in
theorem okX6_readAll : mj_OK mX6_readAll 0 := ⟨mj_in 868 rfl rfl, mj_in 76 (by decide +kernel) rfl, by decide +kernel, by decide +kernel, by decide⟩
theorem imX6_readAll : Cond.instanceMethod yX6_readAll ∈ mj_TB := mj_in 867 (by decide +kernel) rfl
theorem seX6_readAll : Cond.selects (yX6_readAll).cls yX6_readAll yX6_readAll ∈ mj_TB := mj_in 33 (by decide +kernel) rfl
abbrev mX6_letterAt : mj_Y := (yX6_letterAt, cX6_letterAt, 2, (some .int))
set_option maxRecDepth 20000 in
theorem okX6_letterAt : mj_OK mX6_letterAt 1 := ⟨mj_in 872 rfl rfl, mj_in 76 (by decide +kernel) rfl, by decide +kernel, by decide +kernel, by decide⟩
theorem imX6_letterAt : Cond.instanceMethod yX6_letterAt ∈ mj_TB := mj_in 871 (by decide +kernel) rfl
theorem seX6_letterAt : Cond.selects (yX6_letterAt).cls yX6_letterAt yX6_letterAt ∈ mj_TB := mj_in 34 (by decide +kernel) rfl
abbrev mX6_nodeItem : mj_Y := (yX6_nodeItem, cX6_nodeItem, 2, (some .boolean))
set_option maxRecDepth 20000 in
theorem okX6_nodeItem : mj_OK mX6_nodeItem 0 := ⟨mj_in 876 rfl rfl, mj_in 76 (by decide +kernel) rfl, by decide +kernel, by decide +kernel, by decide⟩
theorem imX6_nodeItem : Cond.instanceMethod yX6_nodeItem ∈ mj_TB := mj_in 875 (by decide +kernel) rfl
theorem seX6_nodeItem : Cond.selects (yX6_nodeItem).cls yX6_nodeItem yX6_nodeItem ∈ mj_TB := mj_in 35 (by decide +kernel) rfl
abbrev mX6_isNumber : mj_Y := (yX6_isNumber, cX6_isNumber, 3, (some .boolean))
set_option maxRecDepth 20000 in
theorem okX6_isNumber : mj_OK mX6_isNumber 0 := ⟨mj_in 880 rfl rfl, mj_in 76 (by decide +kernel) rfl, by decide +kernel, by decide +kernel, by decide⟩
theorem imX6_isNumber : Cond.instanceMethod yX6_isNumber ∈ mj_TB := mj_in 879 (by decide +kernel) rfl
theorem seX6_isNumber : Cond.selects (yX6_isNumber).cls yX6_isNumber yX6_isNumber ∈ mj_TB := mj_in 36 (by decide +kernel) rfl
abbrev mX6_tieItem : mj_Y := (yX6_tieItem, cX6_tieItem, 5, (some .boolean))
set_option maxRecDepth 20000 in
theorem okX6_tieItem : mj_OK mX6_tieItem 0 := ⟨mj_in 887 rfl rfl, mj_in 76 (by decide +kernel) rfl, by decide +kernel, by decide +kernel, by decide⟩
theorem imX6_tieItem : Cond.instanceMethod yX6_tieItem ∈ mj_TB := mj_in 886 (by decide +kernel) rfl
theorem seX6_tieItem : Cond.selects (yX6_tieItem).cls yX6_tieItem yX6_tieItem ∈ mj_TB := mj_in 37 (by decide +kernel) rfl
abbrev mX6_tiesIn : mj_Y := (yX6_tiesIn, cX6_tiesIn, 3, (some .int))
set_option maxRecDepth 20000 in
theorem okX6_tiesIn : mj_OK mX6_tiesIn 1 := ⟨mj_in 890 rfl rfl, mj_in 76 (by decide +kernel) rfl, by decide +kernel, by decide +kernel, by decide⟩
theorem stX6_tiesIn : Cond.static yX6_tiesIn ∈ mj_TB := mj_in 889 (by decide +kernel) rfl
abbrev mX6_lay : mj_Y := (yX6_lay, cX6_lay, 1, (some .int))
set_option maxRecDepth 20000 in
theorem okX6_lay : mj_OK mX6_lay 0 := ⟨mj_in 895 rfl rfl, mj_in 76 (by decide +kernel) rfl, by decide +kernel, by decide +kernel, by decide⟩
theorem imX6_lay : Cond.instanceMethod yX6_lay ∈ mj_TB := mj_in 893 (by decide +kernel) rfl
theorem seX6_lay : Cond.selects (yX6_lay).cls yX6_lay yX6_lay ∈ mj_TB := mj_in 894 (by decide +kernel) rfl
abbrev mX6_node : mj_Y := (yX6_node, cX6_node, 3, (some .int))
set_option maxRecDepth 20000 in
theorem okX6_node : mj_OK mX6_node 2 := ⟨mj_in 899 rfl rfl, mj_in 76 (by decide +kernel) rfl, by decide +kernel, by decide +kernel, by decide⟩
theorem imX6_node : Cond.instanceMethod yX6_node ∈ mj_TB := mj_in 897 (by decide +kernel) rfl
theorem seX6_node : Cond.selects (yX6_node).cls yX6_node yX6_node ∈ mj_TB := mj_in 898 (by decide +kernel) rfl
abbrev mX6_isNode : mj_Y := (yX6_isNode, cX6_isNode, 2, (some .boolean))
set_option maxRecDepth 20000 in
theorem okX6_isNode : mj_OK mX6_isNode 1 := ⟨mj_in 903 rfl rfl, mj_in 76 (by decide +kernel) rfl, by decide +kernel, by decide +kernel, by decide⟩
theorem imX6_isNode : Cond.instanceMethod yX6_isNode ∈ mj_TB := mj_in 902 (by decide +kernel) rfl
theorem seX6_isNode : Cond.selects (yX6_isNode).cls yX6_isNode yX6_isNode ∈ mj_TB := mj_in 38 (by decide +kernel) rfl
abbrev mX6_tiedMany : mj_Y := (yX6_tiedMany, cX6_tiedMany, 4, (some .int))
set_option maxRecDepth 20000 in
theorem okX6_tiedMany : mj_OK mX6_tiedMany 1 := ⟨mj_in 908 rfl rfl, mj_in 76 (by decide +kernel) rfl, by decide +kernel, by decide +kernel, by decide⟩
theorem imX6_tiedMany : Cond.instanceMethod yX6_tiedMany ∈ mj_TB := mj_in 907 (by decide +kernel) rfl
theorem seX6_tiedMany : Cond.selects (yX6_tiedMany).cls yX6_tiedMany yX6_tiedMany ∈ mj_TB := mj_in 39 (by decide +kernel) rfl
abbrev mX6_isTied : mj_Y := (yX6_isTied, cX6_isTied, 3, (some .boolean))
set_option maxRecDepth 20000 in
theorem okX6_isTied : mj_OK mX6_isTied 2 := ⟨mj_in 912 rfl rfl, mj_in 76 (by decide +kernel) rfl, by decide +kernel, by decide +kernel, by decide⟩
theorem imX6_isTied : Cond.instanceMethod yX6_isTied ∈ mj_TB := mj_in 911 (by decide +kernel) rfl
theorem seX6_isTied : Cond.selects (yX6_isTied).cls yX6_isTied yX6_isTied ∈ mj_TB := mj_in 40 (by decide +kernel) rfl
abbrev mX6_cost : mj_Y := (yX6_cost, cX6_cost, 3, (some .int))
set_option maxRecDepth 20000 in
theorem okX6_cost : mj_OK mX6_cost 2 := ⟨mj_in 916 rfl rfl, mj_in 76 (by decide +kernel) rfl, by decide +kernel, by decide +kernel, by decide⟩
theorem imX6_cost : Cond.instanceMethod yX6_cost ∈ mj_TB := mj_in 914 (by decide +kernel) rfl
theorem seX6_cost : Cond.selects (yX6_cost).cls yX6_cost yX6_cost ∈ mj_TB := mj_in 915 (by decide +kernel) rfl
abbrev mX6_isChoice : mj_Y := (yX6_isChoice, cX6_isChoice, 3, (some .boolean))
set_option maxRecDepth 20000 in
theorem okX6_isChoice : mj_OK mX6_isChoice 2 := ⟨mj_in 920 rfl rfl, mj_in 76 (by decide +kernel) rfl, by decide +kernel, by decide +kernel, by decide⟩
theorem imX6_isChoice : Cond.instanceMethod yX6_isChoice ∈ mj_TB := mj_in 919 (by decide +kernel) rfl
theorem seX6_isChoice : Cond.selects (yX6_isChoice).cls yX6_isChoice yX6_isChoice ∈ mj_TB := mj_in 41 (by decide +kernel) rfl
abbrev mX6_costOf : mj_Y := (yX6_costOf, cX6_costOf, 5, (some .int))
set_option maxRecDepth 20000 in
theorem okX6_costOf : mj_OK mX6_costOf 2 := ⟨mj_in 924 rfl rfl, mj_in 76 (by decide +kernel) rfl, by decide +kernel, by decide +kernel, by decide⟩
theorem imX6_costOf : Cond.instanceMethod yX6_costOf ∈ mj_TB := mj_in 923 (by decide +kernel) rfl
theorem seX6_costOf : Cond.selects (yX6_costOf).cls yX6_costOf yX6_costOf ∈ mj_TB := mj_in 42 (by decide +kernel) rfl
abbrev mX6_tie : mj_Y := (yX6_tie, cX6_tie, 5, (some .int))
set_option maxRecDepth 20000 in
theorem okX6_tie : mj_OK mX6_tie 4 := ⟨mj_in 929 rfl rfl, mj_in 76 (by decide +kernel) rfl, by decide +kernel, by decide +kernel, by decide⟩
theorem imX6_tie : Cond.instanceMethod yX6_tie ∈ mj_TB := mj_in 927 (by decide +kernel) rfl
theorem seX6_tie : Cond.selects (yX6_tie).cls yX6_tie yX6_tie ∈ mj_TB := mj_in 928 (by decide +kernel) rfl
abbrev mX6_tieOf : mj_Y := (yX6_tieOf, cX6_tieOf, 6, (some .int))
set_option maxRecDepth 20000 in
theorem okX6_tieOf : mj_OK mX6_tieOf 4 := ⟨mj_in 933 rfl rfl, mj_in 76 (by decide +kernel) rfl, by decide +kernel, by decide +kernel, by decide⟩
theorem imX6_tieOf : Cond.instanceMethod yX6_tieOf ∈ mj_TB := mj_in 932 (by decide +kernel) rfl
theorem seX6_tieOf : Cond.selects (yX6_tieOf).cls yX6_tieOf yX6_tieOf ∈ mj_TB := mj_in 43 (by decide +kernel) rfl
abbrev mX6_price : mj_Y := (yX6_price, cX6_price, 5, (some .int))
set_option maxRecDepth 20000 in
theorem okX6_price : mj_OK mX6_price 3 := ⟨mj_in 937 rfl rfl, mj_in 76 (by decide +kernel) rfl, by decide +kernel, by decide +kernel, by decide⟩
theorem imX6_price : Cond.instanceMethod yX6_price ∈ mj_TB := mj_in 935 (by decide +kernel) rfl
theorem seX6_price : Cond.selects (yX6_price).cls yX6_price yX6_price ∈ mj_TB := mj_in 936 (by decide +kernel) rfl
abbrev mX6_note : mj_Y := (yX6_note, cX6_note, 2, none)
set_option maxRecDepth 20000 in
theorem okX6_note : mj_OK mX6_note 0 := ⟨mj_in 942 rfl rfl, mj_in 76 (by decide +kernel) rfl, by decide +kernel, by decide +kernel, by decide⟩
theorem imX6_note : Cond.instanceMethod yX6_note ∈ mj_TB := mj_in 941 (by decide +kernel) rfl
theorem seX6_note : Cond.selects (yX6_note).cls yX6_note yX6_note ∈ mj_TB := mj_in 44 (by decide +kernel) rfl
abbrev mX6_table : mj_Y := (yX6_table, cX6_table, 9, (some .int))
set_option maxRecDepth 20000 in
theorem okX6_table : mj_OK mX6_table 5 := ⟨mj_in 946 rfl rfl, mj_in 76 (by decide +kernel) rfl, by decide +kernel, by decide +kernel, by decide⟩
theorem imX6_table : Cond.instanceMethod yX6_table ∈ mj_TB := mj_in 944 (by decide +kernel) rfl
theorem seX6_table : Cond.selects (yX6_table).cls yX6_table yX6_table ∈ mj_TB := mj_in 945 (by decide +kernel) rfl
abbrev mX6_loose : mj_Y := (yX6_loose, cX6_loose, 3, (some .int))
set_option maxRecDepth 20000 in
theorem okX6_loose : mj_OK mX6_loose 2 := ⟨mj_in 950 rfl rfl, mj_in 76 (by decide +kernel) rfl, by decide +kernel, by decide +kernel, by decide⟩
theorem imX6_loose : Cond.instanceMethod yX6_loose ∈ mj_TB := mj_in 948 (by decide +kernel) rfl
theorem seX6_loose : Cond.selects (yX6_loose).cls yX6_loose yX6_loose ∈ mj_TB := mj_in 949 (by decide +kernel) rfl
abbrev mX6_isPair : mj_Y := (yX6_isPair, cX6_isPair, 3, (some .boolean))
set_option maxRecDepth 20000 in
theorem okX6_isPair : mj_OK mX6_isPair 2 := ⟨mj_in 954 rfl rfl, mj_in 76 (by decide +kernel) rfl, by decide +kernel, by decide +kernel, by decide⟩
theorem imX6_isPair : Cond.instanceMethod yX6_isPair ∈ mj_TB := mj_in 953 (by decide +kernel) rfl
theorem seX6_isPair : Cond.selects (yX6_isPair).cls yX6_isPair yX6_isPair ∈ mj_TB := mj_in 45 (by decide +kernel) rfl
abbrev mX6_looseNow : mj_Y := (yX6_looseNow, cX6_looseNow, 4, none)
set_option maxRecDepth 20000 in
theorem okX6_looseNow : mj_OK mX6_looseNow 2 := ⟨mj_in 958 rfl rfl, mj_in 76 (by decide +kernel) rfl, by decide +kernel, by decide +kernel, by decide⟩
theorem imX6_looseNow : Cond.instanceMethod yX6_looseNow ∈ mj_TB := mj_in 957 (by decide +kernel) rfl
theorem seX6_looseNow : Cond.selects (yX6_looseNow).cls yX6_looseNow yX6_looseNow ∈ mj_TB := mj_in 46 (by decide +kernel) rfl
abbrev mX6_pin : mj_Y := (yX6_pin, cX6_pin, 4, (some .int))
set_option maxRecDepth 20000 in
theorem okX6_pin : mj_OK mX6_pin 2 := ⟨mj_in 962 rfl rfl, mj_in 76 (by decide +kernel) rfl, by decide +kernel, by decide +kernel, by decide⟩
theorem imX6_pin : Cond.instanceMethod yX6_pin ∈ mj_TB := mj_in 960 (by decide +kernel) rfl
theorem seX6_pin : Cond.selects (yX6_pin).cls yX6_pin yX6_pin ∈ mj_TB := mj_in 961 (by decide +kernel) rfl
abbrev mX6_rename : mj_Y := (yX6_rename, cX6_rename, 4, (some .int))
set_option maxRecDepth 20000 in
theorem okX6_rename : mj_OK mX6_rename 2 := ⟨mj_in 967 rfl rfl, mj_in 76 (by decide +kernel) rfl, by decide +kernel, by decide +kernel, by decide⟩
theorem imX6_rename : Cond.instanceMethod yX6_rename ∈ mj_TB := mj_in 965 (by decide +kernel) rfl
theorem seX6_rename : Cond.selects (yX6_rename).cls yX6_rename yX6_rename ∈ mj_TB := mj_in 966 (by decide +kernel) rfl
abbrev mX6_undo : mj_Y := (yX6_undo, cX6_undo, 2, (some .int))
set_option maxRecDepth 20000 in
theorem okX6_undo : mj_OK mX6_undo 0 := ⟨mj_in 971 rfl rfl, mj_in 76 (by decide +kernel) rfl, by decide +kernel, by decide +kernel, by decide⟩
theorem imX6_undo : Cond.instanceMethod yX6_undo ∈ mj_TB := mj_in 969 (by decide +kernel) rfl
theorem seX6_undo : Cond.selects (yX6_undo).cls yX6_undo yX6_undo ∈ mj_TB := mj_in 970 (by decide +kernel) rfl
abbrev mX6_turn : mj_Y := (yX6_turn, cX6_turn, 3, (some .int))
set_option maxRecDepth 20000 in
theorem okX6_turn : mj_OK mX6_turn 2 := ⟨mj_in 975 rfl rfl, mj_in 76 (by decide +kernel) rfl, by decide +kernel, by decide +kernel, by decide⟩
theorem imX6_turn : Cond.instanceMethod yX6_turn ∈ mj_TB := mj_in 973 (by decide +kernel) rfl
theorem seX6_turn : Cond.selects (yX6_turn).cls yX6_turn yX6_turn ∈ mj_TB := mj_in 974 (by decide +kernel) rfl
abbrev mX6_reduceAll : mj_Y := (yX6_reduceAll, cX6_reduceAll, 6, none)
set_option maxRecDepth 20000 in
theorem okX6_reduceAll : mj_OK mX6_reduceAll 0 := ⟨mj_in 979 rfl rfl, mj_in 76 (by decide +kernel) rfl, by decide +kernel, by decide +kernel, by decide⟩
theorem imX6_reduceAll : Cond.instanceMethod yX6_reduceAll ∈ mj_TB := mj_in 978 (by decide +kernel) rfl
theorem seX6_reduceAll : Cond.selects (yX6_reduceAll).cls yX6_reduceAll yX6_reduceAll ∈ mj_TB := mj_in 47 (by decide +kernel) rfl
abbrev mX6_aside : mj_Y := (yX6_aside, cX6_aside, 6, none)
set_option maxRecDepth 20000 in
theorem okX6_aside : mj_OK mX6_aside 0 := ⟨mj_in 983 rfl rfl, mj_in 76 (by decide +kernel) rfl, by decide +kernel, by decide +kernel, by decide⟩
theorem imX6_aside : Cond.instanceMethod yX6_aside ∈ mj_TB := mj_in 982 (by decide +kernel) rfl
theorem seX6_aside : Cond.selects (yX6_aside).cls yX6_aside yX6_aside ∈ mj_TB := mj_in 48 (by decide +kernel) rfl
abbrev mX6_tableAt : mj_Y := (yX6_tableAt, cX6_tableAt, 4, (some .int))
set_option maxRecDepth 20000 in
theorem okX6_tableAt : mj_OK mX6_tableAt 4 := ⟨mj_in 986 rfl rfl, mj_in 76 (by decide +kernel) rfl, by decide +kernel, by decide +kernel, by decide⟩
theorem stX6_tableAt : Cond.static yX6_tableAt ∈ mj_TB := mj_in 985 (by decide +kernel) rfl
abbrev mX6_nextOf : mj_Y := (yX6_nextOf, cX6_nextOf, 5, (some .int))
set_option maxRecDepth 20000 in
theorem okX6_nextOf : mj_OK mX6_nextOf 1 := ⟨mj_in 990 rfl rfl, mj_in 76 (by decide +kernel) rfl, by decide +kernel, by decide +kernel, by decide⟩
theorem imX6_nextOf : Cond.instanceMethod yX6_nextOf ∈ mj_TB := mj_in 989 (by decide +kernel) rfl
theorem seX6_nextOf : Cond.selects (yX6_nextOf).cls yX6_nextOf yX6_nextOf ∈ mj_TB := mj_in 49 (by decide +kernel) rfl
abbrev mX6_has : mj_Y := (yX6_has, cX6_has, 2, (some .boolean))
set_option maxRecDepth 20000 in
theorem okX6_has : mj_OK mX6_has 2 := ⟨mj_in 993 rfl rfl, mj_in 76 (by decide +kernel) rfl, by decide +kernel, by decide +kernel, by decide⟩
theorem stX6_has : Cond.static yX6_has ∈ mj_TB := mj_in 992 (by decide +kernel) rfl
abbrev mX6_isAhead : mj_Y := (yX6_isAhead, cX6_isAhead, 5, (some .boolean))
set_option maxRecDepth 20000 in
theorem okX6_isAhead : mj_OK mX6_isAhead 2 := ⟨mj_in 997 rfl rfl, mj_in 76 (by decide +kernel) rfl, by decide +kernel, by decide +kernel, by decide⟩
theorem imX6_isAhead : Cond.instanceMethod yX6_isAhead ∈ mj_TB := mj_in 996 (by decide +kernel) rfl
theorem seX6_isAhead : Cond.selects (yX6_isAhead).cls yX6_isAhead yX6_isAhead ∈ mj_TB := mj_in 50 (by decide +kernel) rfl
abbrev mX6_ones : mj_Y := (yX6_ones, cX6_ones, 3, (some .int))
set_option maxRecDepth 20000 in
theorem okX6_ones : mj_OK mX6_ones 1 := ⟨mj_in 1000 rfl rfl, mj_in 76 (by decide +kernel) rfl, by decide +kernel, by decide +kernel, by decide⟩
theorem stX6_ones : Cond.static yX6_ones ∈ mj_TB := mj_in 999 (by decide +kernel) rfl
abbrev mX6_nthOf : mj_Y := (yX6_nthOf, cX6_nthOf, 4, (some .int))
set_option maxRecDepth 20000 in
theorem okX6_nthOf : mj_OK mX6_nthOf 2 := ⟨mj_in 1003 rfl rfl, mj_in 76 (by decide +kernel) rfl, by decide +kernel, by decide +kernel, by decide⟩
theorem stX6_nthOf : Cond.static yX6_nthOf ∈ mj_TB := mj_in 1002 (by decide +kernel) rfl
abbrev mX6_ruleOne : mj_Y := (yX6_ruleOne, cX6_ruleOne, 7, none)
set_option maxRecDepth 20000 in
theorem okX6_ruleOne : mj_OK mX6_ruleOne 2 := ⟨mj_in 1007 rfl rfl, mj_in 76 (by decide +kernel) rfl, by decide +kernel, by decide +kernel, by decide⟩
theorem imX6_ruleOne : Cond.instanceMethod yX6_ruleOne ∈ mj_TB := mj_in 1006 (by decide +kernel) rfl
theorem seX6_ruleOne : Cond.selects (yX6_ruleOne).cls yX6_ruleOne yX6_ruleOne ∈ mj_TB := mj_in 51 (by decide +kernel) rfl
abbrev mX6_atMost : mj_Y := (yX6_atMost, cX6_atMost, 1, (some .int))
set_option maxRecDepth 20000 in
theorem okX6_atMost : mj_OK mX6_atMost 1 := ⟨mj_in 1010 rfl rfl, mj_in 76 (by decide +kernel) rfl, by decide +kernel, by decide +kernel, by decide⟩
theorem stX6_atMost : Cond.static yX6_atMost ∈ mj_TB := mj_in 1009 (by decide +kernel) rfl
abbrev mX6_ruleTwo : mj_Y := (yX6_ruleTwo, cX6_ruleTwo, 10, none)
set_option maxRecDepth 20000 in
theorem okX6_ruleTwo : mj_OK mX6_ruleTwo 3 := ⟨mj_in 1014 rfl rfl, mj_in 76 (by decide +kernel) rfl, by decide +kernel, by decide +kernel, by decide⟩
theorem imX6_ruleTwo : Cond.instanceMethod yX6_ruleTwo ∈ mj_TB := mj_in 1013 (by decide +kernel) rfl
theorem seX6_ruleTwo : Cond.selects (yX6_ruleTwo).cls yX6_ruleTwo yX6_ruleTwo ∈ mj_TB := mj_in 52 (by decide +kernel) rfl
abbrev mX6_ruleThree : mj_Y := (yX6_ruleThree, cX6_ruleThree, 7, none)
set_option maxRecDepth 20000 in
theorem okX6_ruleThree : mj_OK mX6_ruleThree 1 := ⟨mj_in 1018 rfl rfl, mj_in 76 (by decide +kernel) rfl, by decide +kernel, by decide +kernel, by decide⟩
theorem imX6_ruleThree : Cond.instanceMethod yX6_ruleThree ∈ mj_TB := mj_in 1017 (by decide +kernel) rfl
theorem seX6_ruleThree : Cond.selects (yX6_ruleThree).cls yX6_ruleThree yX6_ruleThree ∈ mj_TB := mj_in 53 (by decide +kernel) rfl
abbrev mX6_leastBeside : mj_Y := (yX6_leastBeside, cX6_leastBeside, 7, (some .int))
set_option maxRecDepth 20000 in
theorem okX6_leastBeside : mj_OK mX6_leastBeside 3 := ⟨mj_in 1023 rfl rfl, mj_in 76 (by decide +kernel) rfl, by decide +kernel, by decide +kernel, by decide⟩
theorem imX6_leastBeside : Cond.instanceMethod yX6_leastBeside ∈ mj_TB := mj_in 1022 (by decide +kernel) rfl
theorem seX6_leastBeside : Cond.selects (yX6_leastBeside).cls yX6_leastBeside yX6_leastBeside ∈ mj_TB := mj_in 54 (by decide +kernel) rfl
abbrev mX6_takeBest : mj_Y := (yX6_takeBest, cX6_takeBest, 7, none)
set_option maxRecDepth 20000 in
theorem okX6_takeBest : mj_OK mX6_takeBest 2 := ⟨mj_in 1027 rfl rfl, mj_in 76 (by decide +kernel) rfl, by decide +kernel, by decide +kernel, by decide⟩
theorem imX6_takeBest : Cond.instanceMethod yX6_takeBest ∈ mj_TB := mj_in 1026 (by decide +kernel) rfl
theorem seX6_takeBest : Cond.selects (yX6_takeBest).cls yX6_takeBest yX6_takeBest ∈ mj_TB := mj_in 55 (by decide +kernel) rfl
abbrev mX6_reduced : mj_Y := (yX6_reduced, cX6_reduced, 2, (some .int))
set_option maxRecDepth 20000 in
theorem okX6_reduced : mj_OK mX6_reduced 1 := ⟨mj_in 1031 rfl rfl, mj_in 76 (by decide +kernel) rfl, by decide +kernel, by decide +kernel, by decide⟩
theorem imX6_reduced : Cond.instanceMethod yX6_reduced ∈ mj_TB := mj_in 1029 (by decide +kernel) rfl
theorem seX6_reduced : Cond.selects (yX6_reduced).cls yX6_reduced yX6_reduced ∈ mj_TB := mj_in 1030 (by decide +kernel) rfl
abbrev mX6_plan : mj_Y := (yX6_plan, cX6_plan, 4, (some .int))
set_option maxRecDepth 20000 in
theorem okX6_plan : mj_OK mX6_plan 1 := ⟨mj_in 1035 rfl rfl, mj_in 76 (by decide +kernel) rfl, by decide +kernel, by decide +kernel, by decide⟩
theorem imX6_plan : Cond.instanceMethod yX6_plan ∈ mj_TB := mj_in 1033 (by decide +kernel) rfl
theorem seX6_plan : Cond.selects (yX6_plan).cls yX6_plan yX6_plan ∈ mj_TB := mj_in 1034 (by decide +kernel) rfl
abbrev mX6_planCost : mj_Y := (yX6_planCost, cX6_planCost, 4, (some .int))
set_option maxRecDepth 20000 in
theorem okX6_planCost : mj_OK mX6_planCost 0 := ⟨mj_in 1039 rfl rfl, mj_in 76 (by decide +kernel) rfl, by decide +kernel, by decide +kernel, by decide⟩
theorem imX6_planCost : Cond.instanceMethod yX6_planCost ∈ mj_TB := mj_in 1038 (by decide +kernel) rfl
theorem seX6_planCost : Cond.selects (yX6_planCost).cls yX6_planCost yX6_planCost ∈ mj_TB := mj_in 56 (by decide +kernel) rfl
abbrev mX6_least : mj_Y := (yX6_least, cX6_least, 3, (some .int))
set_option maxRecDepth 20000 in
theorem okX6_least : mj_OK mX6_least 1 := ⟨mj_in 1043 rfl rfl, mj_in 76 (by decide +kernel) rfl, by decide +kernel, by decide +kernel, by decide⟩
theorem imX6_least : Cond.instanceMethod yX6_least ∈ mj_TB := mj_in 1041 (by decide +kernel) rfl
theorem seX6_least : Cond.selects (yX6_least).cls yX6_least yX6_least ∈ mj_TB := mj_in 1042 (by decide +kernel) rfl
abbrev mX6_bound : mj_Y := (yX6_bound, cX6_bound, 7, (some .int))
set_option maxRecDepth 20000 in
theorem okX6_bound : mj_OK mX6_bound 0 := ⟨mj_in 1048 rfl rfl, mj_in 76 (by decide +kernel) rfl, by decide +kernel, by decide +kernel, by decide⟩
theorem imX6_bound : Cond.instanceMethod yX6_bound ∈ mj_TB := mj_in 1047 (by decide +kernel) rfl
theorem seX6_bound : Cond.selects (yX6_bound).cls yX6_bound yX6_bound ∈ mj_TB := mj_in 57 (by decide +kernel) rfl
abbrev mX6_goAll : mj_Y := (yX6_goAll, cX6_goAll, 7, none)
set_option maxRecDepth 20000 in
theorem okX6_goAll : mj_OK mX6_goAll 2 := ⟨mj_in 1052 rfl rfl, mj_in 76 (by decide +kernel) rfl, by decide +kernel, by decide +kernel, by decide⟩
theorem imX6_goAll : Cond.instanceMethod yX6_goAll ∈ mj_TB := mj_in 1051 (by decide +kernel) rfl
theorem seX6_goAll : Cond.selects (yX6_goAll).cls yX6_goAll yX6_goAll ∈ mj_TB := mj_in 58 (by decide +kernel) rfl
abbrev mX6_meetPlan : mj_Y := (yX6_meetPlan, cX6_meetPlan, 3, none)
set_option maxRecDepth 20000 in
theorem okX6_meetPlan : mj_OK mX6_meetPlan 1 := ⟨mj_in 1056 rfl rfl, mj_in 76 (by decide +kernel) rfl, by decide +kernel, by decide +kernel, by decide⟩
theorem imX6_meetPlan : Cond.instanceMethod yX6_meetPlan ∈ mj_TB := mj_in 1055 (by decide +kernel) rfl
theorem seX6_meetPlan : Cond.selects (yX6_meetPlan).cls yX6_meetPlan yX6_meetPlan ∈ mj_TB := mj_in 59 (by decide +kernel) rfl
abbrev mX6_sameSet : mj_Y := (yX6_sameSet, cX6_sameSet, 3, (some .int))
set_option maxRecDepth 20000 in
theorem okX6_sameSet : mj_OK mX6_sameSet 0 := ⟨mj_in 1060 rfl rfl, mj_in 76 (by decide +kernel) rfl, by decide +kernel, by decide +kernel, by decide⟩
theorem imX6_sameSet : Cond.instanceMethod yX6_sameSet ∈ mj_TB := mj_in 1059 (by decide +kernel) rfl
theorem seX6_sameSet : Cond.selects (yX6_sameSet).cls yX6_sameSet yX6_sameSet ∈ mj_TB := mj_in 60 (by decide +kernel) rfl
abbrev mX6_first : mj_Y := (yX6_first, cX6_first, 2, (some .int))
set_option maxRecDepth 20000 in
theorem okX6_first : mj_OK mX6_first 1 := ⟨mj_in 1064 rfl rfl, mj_in 76 (by decide +kernel) rfl, by decide +kernel, by decide +kernel, by decide⟩
theorem imX6_first : Cond.instanceMethod yX6_first ∈ mj_TB := mj_in 1062 (by decide +kernel) rfl
theorem seX6_first : Cond.selects (yX6_first).cls yX6_first yX6_first ∈ mj_TB := mj_in 1063 (by decide +kernel) rfl
abbrev mX6_with : mj_Y := (yX6_with, cX6_with, 3, (some .int))
set_option maxRecDepth 20000 in
theorem okX6_with : mj_OK mX6_with 2 := ⟨mj_in 1068 rfl rfl, mj_in 76 (by decide +kernel) rfl, by decide +kernel, by decide +kernel, by decide⟩
theorem imX6_with : Cond.instanceMethod yX6_with ∈ mj_TB := mj_in 1066 (by decide +kernel) rfl
theorem seX6_with : Cond.selects (yX6_with).cls yX6_with yX6_with ∈ mj_TB := mj_in 1067 (by decide +kernel) rfl
abbrev mX6_without : mj_Y := (yX6_without, cX6_without, 4, (some .int))
set_option maxRecDepth 20000 in
theorem okX6_without : mj_OK mX6_without 2 := ⟨mj_in 1072 rfl rfl, mj_in 76 (by decide +kernel) rfl, by decide +kernel, by decide +kernel, by decide⟩
theorem imX6_without : Cond.instanceMethod yX6_without ∈ mj_TB := mj_in 1070 (by decide +kernel) rfl
theorem seX6_without : Cond.selects (yX6_without).cls yX6_without yX6_without ∈ mj_TB := mj_in 1071 (by decide +kernel) rfl
abbrev mX6_keep : mj_Y := (yX6_keep, cX6_keep, 2, (some .int))
set_option maxRecDepth 20000 in
theorem okX6_keep : mj_OK mX6_keep 0 := ⟨mj_in 1076 rfl rfl, mj_in 76 (by decide +kernel) rfl, by decide +kernel, by decide +kernel, by decide⟩
theorem imX6_keep : Cond.instanceMethod yX6_keep ∈ mj_TB := mj_in 1074 (by decide +kernel) rfl
theorem seX6_keep : Cond.selects (yX6_keep).cls yX6_keep yX6_keep ∈ mj_TB := mj_in 1075 (by decide +kernel) rfl
abbrev mX6_back : mj_Y := (yX6_back, cX6_back, 2, (some .int))
set_option maxRecDepth 20000 in
theorem okX6_back : mj_OK mX6_back 0 := ⟨mj_in 1080 rfl rfl, mj_in 76 (by decide +kernel) rfl, by decide +kernel, by decide +kernel, by decide⟩
theorem imX6_back : Cond.instanceMethod yX6_back ∈ mj_TB := mj_in 1078 (by decide +kernel) rfl
theorem seX6_back : Cond.selects (yX6_back).cls yX6_back yX6_back ∈ mj_TB := mj_in 1079 (by decide +kernel) rfl
abbrev mX6_count : mj_Y := (yX6_count, cX6_count, 2, (some .int))
set_option maxRecDepth 20000 in
theorem okX6_count : mj_OK mX6_count 1 := ⟨mj_in 1084 rfl rfl, mj_in 76 (by decide +kernel) rfl, by decide +kernel, by decide +kernel, by decide⟩
theorem imX6_count : Cond.instanceMethod yX6_count ∈ mj_TB := mj_in 1082 (by decide +kernel) rfl
theorem seX6_count : Cond.selects (yX6_count).cls yX6_count yX6_count ∈ mj_TB := mj_in 1083 (by decide +kernel) rfl
abbrev mX6_pinned : mj_Y := (yX6_pinned, cX6_pinned, 3, (some .int))
set_option maxRecDepth 20000 in
theorem okX6_pinned : mj_OK mX6_pinned 0 := ⟨mj_in 1088 rfl rfl, mj_in 76 (by decide +kernel) rfl, by decide +kernel, by decide +kernel, by decide⟩
theorem imX6_pinned : Cond.instanceMethod yX6_pinned ∈ mj_TB := mj_in 1087 (by decide +kernel) rfl
theorem seX6_pinned : Cond.selects (yX6_pinned).cls yX6_pinned yX6_pinned ∈ mj_TB := mj_in 61 (by decide +kernel) rfl
theorem lkL_9 : Cond.methodLink RL 9 yX5_init ∈ mj_TB := mj_in 79 (by decide +kernel) rfl
theorem lnX5_15 : (RX5, 15, yX0_init, RX5) ∈ mj_nests := by decide +kernel
theorem flX0_30 : mj_FL RX0 30 0 0 := ⟨(RX0, TX0, 7), rfl, by decide, mj_in 91 (by decide +kernel) rfl⟩
theorem fpX0_30 : mj_FP RX0 30 0 0 .int := ⟨(RX0, TX0, 7), rfl, by decide, mj_in 91 (by decide +kernel) rfl, rfl, by decide +kernel⟩
theorem flX4_24 : mj_FL RX4 24 0 0 := ⟨(RX0, TX0, 7), rfl, by decide, mj_in 92 (by decide +kernel) rfl⟩
theorem fpX4_24 : mj_FP RX4 24 0 0 .int := ⟨(RX0, TX0, 7), rfl, by decide, mj_in 92 (by decide +kernel) rfl, rfl, by decide +kernel⟩
theorem flX1_32 : mj_FL RX1 32 0 0 := ⟨(RX0, TX0, 7), rfl, by decide, mj_in 93 (by decide +kernel) rfl⟩
theorem fpX1_32 : mj_FP RX1 32 0 0 .int := ⟨(RX0, TX0, 7), rfl, by decide, mj_in 93 (by decide +kernel) rfl, rfl, by decide +kernel⟩
theorem flX5_101 : mj_FL RX5 101 0 0 := ⟨(RX0, TX0, 7), rfl, by decide, mj_in 94 (by decide +kernel) rfl⟩
theorem fpX5_101 : mj_FP RX5 101 0 0 .int := ⟨(RX0, TX0, 7), rfl, by decide, mj_in 94 (by decide +kernel) rfl, rfl, by decide +kernel⟩
theorem flX0_9 : mj_FL RX0 9 0 1 := ⟨(RX0, TX0, 7), rfl, by decide, mj_in 95 (by decide +kernel) rfl⟩
theorem flX4_31 : mj_FL RX4 31 0 1 := ⟨(RX0, TX0, 7), rfl, by decide, mj_in 96 (by decide +kernel) rfl⟩
theorem flX1_90 : mj_FL RX1 90 0 1 := ⟨(RX0, TX0, 7), rfl, by decide, mj_in 97 (by decide +kernel) rfl⟩
theorem flX5_125 : mj_FL RX5 125 0 1 := ⟨(RX0, TX0, 7), rfl, by decide, mj_in 98 (by decide +kernel) rfl⟩
theorem flX0_15 : mj_FL RX0 15 0 2 := ⟨(RX0, TX0, 7), rfl, by decide, mj_in 99 (by decide +kernel) rfl⟩
theorem flX5_121 : mj_FL RX5 121 0 2 := ⟨(RX0, TX0, 7), rfl, by decide, mj_in 100 (by decide +kernel) rfl⟩
theorem flX0_18 : mj_FL RX0 18 0 3 := ⟨(RX0, TX0, 7), rfl, by decide, mj_in 101 (by decide +kernel) rfl⟩
theorem flX5_180 : mj_FL RX5 180 0 3 := ⟨(RX0, TX0, 7), rfl, by decide, mj_in 102 (by decide +kernel) rfl⟩
theorem flX0_21 : mj_FL RX0 21 0 4 := ⟨(RX0, TX0, 7), rfl, by decide, mj_in 103 (by decide +kernel) rfl⟩
theorem flX4_36 : mj_FL RX4 36 0 4 := ⟨(RX0, TX0, 7), rfl, by decide, mj_in 104 (by decide +kernel) rfl⟩
theorem flX1_77 : mj_FL RX1 77 0 4 := ⟨(RX0, TX0, 7), rfl, by decide, mj_in 105 (by decide +kernel) rfl⟩
theorem flX5_128 : mj_FL RX5 128 0 4 := ⟨(RX0, TX0, 7), rfl, by decide, mj_in 106 (by decide +kernel) rfl⟩
theorem flX0_24 : mj_FL RX0 24 0 5 := ⟨(RX0, TX0, 7), rfl, by decide, mj_in 107 (by decide +kernel) rfl⟩
theorem flX1_59 : mj_FL RX1 59 0 5 := ⟨(RX0, TX0, 7), rfl, by decide, mj_in 108 (by decide +kernel) rfl⟩
theorem flX5_154 : mj_FL RX5 154 0 5 := ⟨(RX0, TX0, 7), rfl, by decide, mj_in 109 (by decide +kernel) rfl⟩
theorem flX0_27 : mj_FL RX0 27 0 6 := ⟨(RX0, TX0, 7), rfl, by decide, mj_in 110 (by decide +kernel) rfl⟩
theorem flX1_80 : mj_FL RX1 80 0 6 := ⟨(RX0, TX0, 7), rfl, by decide, mj_in 111 (by decide +kernel) rfl⟩
theorem flX5_163 : mj_FL RX5 163 0 6 := ⟨(RX0, TX0, 7), rfl, by decide, mj_in 112 (by decide +kernel) rfl⟩
theorem lkX5_25 : Cond.methodLink RX5 25 yX1_init ∈ mj_TB := mj_in 132 (by decide +kernel) rfl
theorem flX1_9 : mj_FL RX1 9 1 0 := ⟨(RX1, TX1, 4), rfl, by decide, mj_in 136 (by decide +kernel) rfl⟩
theorem flX1_15 : mj_FL RX1 15 1 1 := ⟨(RX1, TX1, 4), rfl, by decide, mj_in 137 (by decide +kernel) rfl⟩
theorem flX1_25 : mj_FL RX1 25 1 2 := ⟨(RX1, TX1, 4), rfl, by decide, mj_in 138 (by decide +kernel) rfl⟩
theorem fpX1_25 : mj_FP RX1 25 1 2 .int := ⟨(RX1, TX1, 4), rfl, by decide, mj_in 138 (by decide +kernel) rfl, rfl, by decide +kernel⟩
theorem flX1_29 : mj_FL RX1 29 1 3 := ⟨(RX1, TX1, 4), rfl, by decide, mj_in 139 (by decide +kernel) rfl⟩
theorem fpX1_29 : mj_FP RX1 29 1 3 .int := ⟨(RX1, TX1, 4), rfl, by decide, mj_in 139 (by decide +kernel) rfl, rfl, by decide +kernel⟩
theorem lnX5_41 : (RX5, 41, yX4_init, RX5) ∈ mj_nests := by decide +kernel
theorem flX4_30 : mj_FL RX4 30 4 0 := ⟨(RX4, TX4, 5), rfl, by decide, mj_in 156 (by decide +kernel) rfl⟩
theorem fpX4_30 : mj_FP RX4 30 4 0 .int := ⟨(RX4, TX4, 5), rfl, by decide, mj_in 156 (by decide +kernel) rfl, rfl, by decide +kernel⟩
theorem flX2_39 : mj_FL RX2 39 4 0 := ⟨(RX4, TX4, 5), rfl, by decide, mj_in 157 (by decide +kernel) rfl⟩
theorem fpX2_39 : mj_FP RX2 39 4 0 .int := ⟨(RX4, TX4, 5), rfl, by decide, mj_in 157 (by decide +kernel) rfl, rfl, by decide +kernel⟩
theorem flX3_43 : mj_FL RX3 43 4 0 := ⟨(RX4, TX4, 5), rfl, by decide, mj_in 158 (by decide +kernel) rfl⟩
theorem fpX3_43 : mj_FP RX3 43 4 0 .int := ⟨(RX4, TX4, 5), rfl, by decide, mj_in 158 (by decide +kernel) rfl, rfl, by decide +kernel⟩
theorem flX4_9 : mj_FL RX4 9 4 1 := ⟨(RX4, TX4, 5), rfl, by decide, mj_in 159 (by decide +kernel) rfl⟩
theorem flX3_66 : mj_FL RX3 66 4 1 := ⟨(RX4, TX4, 5), rfl, by decide, mj_in 160 (by decide +kernel) rfl⟩
theorem flX2_92 : mj_FL RX2 92 4 1 := ⟨(RX4, TX4, 5), rfl, by decide, mj_in 161 (by decide +kernel) rfl⟩
theorem flX4_15 : mj_FL RX4 15 4 2 := ⟨(RX4, TX4, 5), rfl, by decide, mj_in 162 (by decide +kernel) rfl⟩
theorem flX2_82 : mj_FL RX2 82 4 2 := ⟨(RX4, TX4, 5), rfl, by decide, mj_in 163 (by decide +kernel) rfl⟩
theorem flX5_235 : mj_FL RX5 235 4 2 := ⟨(RX4, TX4, 5), rfl, by decide, mj_in 164 (by decide +kernel) rfl⟩
theorem flX4_18 : mj_FL RX4 18 4 3 := ⟨(RX4, TX4, 5), rfl, by decide, mj_in 165 (by decide +kernel) rfl⟩
theorem flX4_21 : mj_FL RX4 21 4 4 := ⟨(RX4, TX4, 5), rfl, by decide, mj_in 166 (by decide +kernel) rfl⟩
theorem flX2_109 : mj_FL RX2 109 4 4 := ⟨(RX4, TX4, 5), rfl, by decide, mj_in 167 (by decide +kernel) rfl⟩
theorem lnX5_51 : (RX5, 51, yX2_init, RX5) ∈ mj_nests := by decide +kernel
theorem lnX2_26 : (RX2, 26, yX4_init, RX5) ∈ mj_nests := by decide +kernel
theorem flX2_9 : mj_FL RX2 9 2 0 := ⟨(RX2, TX2, 7), rfl, by decide, mj_in 187 (by decide +kernel) rfl⟩
theorem flX5_186 : mj_FL RX5 186 2 0 := ⟨(RX2, TX2, 7), rfl, by decide, mj_in 188 (by decide +kernel) rfl⟩
theorem flX2_15 : mj_FL RX2 15 2 1 := ⟨(RX2, TX2, 7), rfl, by decide, mj_in 189 (by decide +kernel) rfl⟩
theorem flX5_189 : mj_FL RX5 189 2 1 := ⟨(RX2, TX2, 7), rfl, by decide, mj_in 190 (by decide +kernel) rfl⟩
theorem flX2_18 : mj_FL RX2 18 2 2 := ⟨(RX2, TX2, 7), rfl, by decide, mj_in 191 (by decide +kernel) rfl⟩
theorem flX5_192 : mj_FL RX5 192 2 2 := ⟨(RX2, TX2, 7), rfl, by decide, mj_in 192 (by decide +kernel) rfl⟩
theorem flX2_35 : mj_FL RX2 35 2 3 := ⟨(RX2, TX2, 7), rfl, by decide, mj_in 193 (by decide +kernel) rfl⟩
theorem fpX2_35 : mj_FP RX2 35 2 3 .boolean := ⟨(RX2, TX2, 7), rfl, by decide, mj_in 193 (by decide +kernel) rfl, rfl, by decide +kernel⟩
theorem flX5_199 : mj_FL RX5 199 2 3 := ⟨(RX2, TX2, 7), rfl, by decide, mj_in 194 (by decide +kernel) rfl⟩
theorem fpX5_199 : mj_FP RX5 199 2 3 .boolean := ⟨(RX2, TX2, 7), rfl, by decide, mj_in 194 (by decide +kernel) rfl, rfl, by decide +kernel⟩
theorem flX2_21 : mj_FL RX2 21 2 4 := ⟨(RX2, TX2, 7), rfl, by decide, mj_in 195 (by decide +kernel) rfl⟩
theorem flX2_27 : mj_FL RX2 27 2 5 := ⟨(RX2, TX2, 7), rfl, by decide, mj_in 196 (by decide +kernel) rfl⟩
theorem flX2_43 : mj_FL RX2 43 2 6 := ⟨(RX2, TX2, 7), rfl, by decide, mj_in 197 (by decide +kernel) rfl⟩
theorem fpX2_43 : mj_FP RX2 43 2 6 .int := ⟨(RX2, TX2, 7), rfl, by decide, mj_in 197 (by decide +kernel) rfl, rfl, by decide +kernel⟩
theorem lkX5_58 : Cond.methodLink RX5 58 yX3_init ∈ mj_TB := mj_in 215 (by decide +kernel) rfl
theorem flX3_30 : mj_FL RX3 30 3 0 := ⟨(RX3, TX3, 9), rfl, by decide, mj_in 219 (by decide +kernel) rfl⟩
theorem fpX3_30 : mj_FP RX3 30 3 0 .int := ⟨(RX3, TX3, 9), rfl, by decide, mj_in 219 (by decide +kernel) rfl, rfl, by decide +kernel⟩
theorem flX5_206 : mj_FL RX5 206 3 0 := ⟨(RX3, TX3, 9), rfl, by decide, mj_in 220 (by decide +kernel) rfl⟩
theorem fpX5_206 : mj_FP RX5 206 3 0 .int := ⟨(RX3, TX3, 9), rfl, by decide, mj_in 220 (by decide +kernel) rfl, rfl, by decide +kernel⟩
theorem flX3_34 : mj_FL RX3 34 3 1 := ⟨(RX3, TX3, 9), rfl, by decide, mj_in 221 (by decide +kernel) rfl⟩
theorem fpX3_34 : mj_FP RX3 34 3 1 .int := ⟨(RX3, TX3, 9), rfl, by decide, mj_in 221 (by decide +kernel) rfl, rfl, by decide +kernel⟩
theorem flX5_215 : mj_FL RX5 215 3 1 := ⟨(RX3, TX3, 9), rfl, by decide, mj_in 222 (by decide +kernel) rfl⟩
theorem fpX5_215 : mj_FP RX5 215 3 1 .int := ⟨(RX3, TX3, 9), rfl, by decide, mj_in 222 (by decide +kernel) rfl, rfl, by decide +kernel⟩
theorem flX3_37 : mj_FL RX3 37 3 2 := ⟨(RX3, TX3, 9), rfl, by decide, mj_in 223 (by decide +kernel) rfl⟩
theorem fpX3_37 : mj_FP RX3 37 3 2 .int := ⟨(RX3, TX3, 9), rfl, by decide, mj_in 223 (by decide +kernel) rfl, rfl, by decide +kernel⟩
theorem flX5_209 : mj_FL RX5 209 3 2 := ⟨(RX3, TX3, 9), rfl, by decide, mj_in 224 (by decide +kernel) rfl⟩
theorem fpX5_209 : mj_FP RX5 209 3 2 .int := ⟨(RX3, TX3, 9), rfl, by decide, mj_in 224 (by decide +kernel) rfl, rfl, by decide +kernel⟩
theorem flX3_40 : mj_FL RX3 40 3 3 := ⟨(RX3, TX3, 9), rfl, by decide, mj_in 225 (by decide +kernel) rfl⟩
theorem fpX3_40 : mj_FP RX3 40 3 3 .int := ⟨(RX3, TX3, 9), rfl, by decide, mj_in 225 (by decide +kernel) rfl, rfl, by decide +kernel⟩
theorem flX5_212 : mj_FL RX5 212 3 3 := ⟨(RX3, TX3, 9), rfl, by decide, mj_in 226 (by decide +kernel) rfl⟩
theorem fpX5_212 : mj_FP RX5 212 3 3 .int := ⟨(RX3, TX3, 9), rfl, by decide, mj_in 226 (by decide +kernel) rfl, rfl, by decide +kernel⟩
theorem flX3_9 : mj_FL RX3 9 3 4 := ⟨(RX3, TX3, 9), rfl, by decide, mj_in 227 (by decide +kernel) rfl⟩
theorem flX5_222 : mj_FL RX5 222 3 4 := ⟨(RX3, TX3, 9), rfl, by decide, mj_in 228 (by decide +kernel) rfl⟩
theorem flX3_15 : mj_FL RX3 15 3 5 := ⟨(RX3, TX3, 9), rfl, by decide, mj_in 229 (by decide +kernel) rfl⟩
theorem flX3_18 : mj_FL RX3 18 3 6 := ⟨(RX3, TX3, 9), rfl, by decide, mj_in 230 (by decide +kernel) rfl⟩
theorem flX3_21 : mj_FL RX3 21 3 7 := ⟨(RX3, TX3, 9), rfl, by decide, mj_in 231 (by decide +kernel) rfl⟩
theorem flX3_25 : mj_FL RX3 25 3 8 := ⟨(RX3, TX3, 9), rfl, by decide, mj_in 232 (by decide +kernel) rfl⟩
theorem lkX5_80 : Cond.methodLink RX5 80 yX5_write ∈ mj_TB := mj_in 301 (by decide +kernel) rfl
theorem lkX5_90 : Cond.methodLink RX5 90 yX5_isWithin ∈ mj_TB := mj_in 305 (by decide +kernel) rfl
theorem lkX5_84 : Cond.methodLink RX5 84 yX5_lay ∈ mj_TB := mj_in 308 (by decide +kernel) rfl
theorem lkX5_98 : Cond.methodLink RX5 98 yX1_read ∈ mj_TB := mj_in 312 (by decide +kernel) rfl
theorem lkX1_19 : Cond.methodLink RX1 19 Lib.Math.min.name ∈ mj_TB := mj_in 316 (by decide +kernel) rfl
theorem lkX1_37 : Cond.methodLink RX1 37 yX1_readItem ∈ mj_TB := mj_in 319 (by decide +kernel) rfl
theorem lkX1_41 : Cond.methodLink RX1 41 yX1_takes ∈ mj_TB := mj_in 323 (by decide +kernel) rfl
theorem lkX1_45 : Cond.methodLink RX1 45 yX1_readNode ∈ mj_TB := mj_in 327 (by decide +kernel) rfl
theorem lkX1_51 : Cond.methodLink RX1 51 yX1_readNumber ∈ mj_TB := mj_in 331 (by decide +kernel) rfl
theorem lkX1_93 : Cond.methodLink RX1 93 yX1_readFigure ∈ mj_TB := mj_in 335 (by decide +kernel) rfl
theorem lnX1_55 : (RX1, 55, yX5_isWithin, RX5) ∈ mj_nests := by decide +kernel
theorem lnX1_63 : (RX1, 63, yX5_choicePlace, RX5) ∈ mj_nests := by decide +kernel
theorem lkX1_66 : Cond.methodLink RX1 66 yX0_addNode ∈ mj_TB := mj_in 343 (by decide +kernel) rfl
theorem lkX1_48 : Cond.methodLink RX1 48 yX1_readTie ∈ mj_TB := mj_in 347 (by decide +kernel) rfl
theorem lkX1_70 : Cond.methodLink RX1 70 yX0_areTied ∈ mj_TB := mj_in 351 (by decide +kernel) rfl
theorem lnX0_38 : (RX0, 38, yX5_hasBit, RX5) ∈ mj_nests := by decide +kernel
theorem lkX1_74 : Cond.methodLink RX1 74 yX0_tieCount ∈ mj_TB := mj_in 358 (by decide +kernel) rfl
theorem lkX0_42 : Cond.methodLink RX0 42 yJ6_bitCount_0f7a4 ∈ mj_TB := mj_in 362 (by decide +kernel) rfl
theorem kcJ6_265 : Cond.constant RJ6 265 (1431655765) ∈ mj_TB := mj_in 365 (by decide +kernel) rfl
theorem kcJ6_266 : Cond.constant RJ6 266 (858993459) ∈ mj_TB := mj_in 366 (by decide +kernel) rfl
theorem kcJ6_267 : Cond.constant RJ6 267 (252645135) ∈ mj_TB := mj_in 367 (by decide +kernel) rfl
theorem lnX1_83 : (RX1, 83, yX5_joinByNoughts, RX5) ∈ mj_nests := by decide +kernel
theorem lkX5_166 : Cond.methodLink RX5 166 yX5_entryPlace ∈ mj_TB := mj_in 371 (by decide +kernel) rfl
theorem lkX1_87 : Cond.methodLink RX1 87 yX1_readTable ∈ mj_TB := mj_in 374 (by decide +kernel) rfl
theorem lnX1_96 : (RX1, 96, yX5_entryPlace, RX5) ∈ mj_nests := by decide +kernel
theorem lkX5_104 : Cond.methodLink RX5 104 yX0_copyFrom ∈ mj_TB := mj_in 379 (by decide +kernel) rfl
theorem lnX0_34 : (RX0, 34, yX5_copyRow, RX5) ∈ mj_nests := by decide +kernel
theorem lkX5_256 : Cond.methodLink RX5 256 Lib.Math.min.name ∈ mj_TB := mj_in 386 (by decide +kernel) rfl
theorem lkX5_261 : Cond.methodLink RX5 261 arraycopyName ∈ mj_TB := mj_in 387 (by decide +kernel) rfl
theorem lkX5_114 : Cond.methodLink RX5 114 yX5_forgetAnswers ∈ mj_TB := mj_in 390 (by decide +kernel) rfl
theorem lkX5_87 : Cond.methodLink RX5 87 yX5_wipe ∈ mj_TB := mj_in 394 (by decide +kernel) rfl
theorem flX5_9 : mj_FL RX5 9 5 0 := ⟨(RX5, TX5, 17), rfl, by decide, mj_in 398 (by decide +kernel) rfl⟩
theorem flX5_94 : mj_FL RX5 94 5 1 := ⟨(RX5, TX5, 17), rfl, by decide, mj_in 399 (by decide +kernel) rfl⟩
theorem fpX5_94 : mj_FP RX5 94 5 1 .int := ⟨(RX5, TX5, 17), rfl, by decide, mj_in 399 (by decide +kernel) rfl, rfl, by decide +kernel⟩
theorem flX5_16 : mj_FL RX5 16 5 2 := ⟨(RX5, TX5, 17), rfl, by decide, mj_in 400 (by decide +kernel) rfl⟩
theorem flX5_20 : mj_FL RX5 20 5 3 := ⟨(RX5, TX5, 17), rfl, by decide, mj_in 401 (by decide +kernel) rfl⟩
theorem flX5_28 : mj_FL RX5 28 5 4 := ⟨(RX5, TX5, 17), rfl, by decide, mj_in 402 (by decide +kernel) rfl⟩
theorem flX5_32 : mj_FL RX5 32 5 5 := ⟨(RX5, TX5, 17), rfl, by decide, mj_in 403 (by decide +kernel) rfl⟩
theorem flX5_108 : mj_FL RX5 108 5 6 := ⟨(RX5, TX5, 17), rfl, by decide, mj_in 404 (by decide +kernel) rfl⟩
theorem fpX5_108 : mj_FP RX5 108 5 6 .int := ⟨(RX5, TX5, 17), rfl, by decide, mj_in 404 (by decide +kernel) rfl, rfl, by decide +kernel⟩
theorem flX5_36 : mj_FL RX5 36 5 7 := ⟨(RX5, TX5, 17), rfl, by decide, mj_in 405 (by decide +kernel) rfl⟩
theorem flX5_111 : mj_FL RX5 111 5 8 := ⟨(RX5, TX5, 17), rfl, by decide, mj_in 406 (by decide +kernel) rfl⟩
theorem fpX5_111 : mj_FP RX5 111 5 8 .int := ⟨(RX5, TX5, 17), rfl, by decide, mj_in 406 (by decide +kernel) rfl, rfl, by decide +kernel⟩
theorem flX5_42 : mj_FL RX5 42 5 9 := ⟨(RX5, TX5, 17), rfl, by decide, mj_in 407 (by decide +kernel) rfl⟩
theorem flX5_46 : mj_FL RX5 46 5 10 := ⟨(RX5, TX5, 17), rfl, by decide, mj_in 408 (by decide +kernel) rfl⟩
theorem flX5_52 : mj_FL RX5 52 5 11 := ⟨(RX5, TX5, 17), rfl, by decide, mj_in 409 (by decide +kernel) rfl⟩
theorem flX5_61 : mj_FL RX5 61 5 12 := ⟨(RX5, TX5, 17), rfl, by decide, mj_in 410 (by decide +kernel) rfl⟩
theorem flX5_65 : mj_FL RX5 65 5 13 := ⟨(RX5, TX5, 17), rfl, by decide, mj_in 411 (by decide +kernel) rfl⟩
theorem flX5_242 : mj_FL RX5 242 5 14 := ⟨(RX5, TX5, 17), rfl, by decide, mj_in 412 (by decide +kernel) rfl⟩
theorem fpX5_242 : mj_FP RX5 242 5 14 .boolean := ⟨(RX5, TX5, 17), rfl, by decide, mj_in 412 (by decide +kernel) rfl, rfl, by decide +kernel⟩
theorem flX5_245 : mj_FL RX5 245 5 15 := ⟨(RX5, TX5, 17), rfl, by decide, mj_in 413 (by decide +kernel) rfl⟩
theorem fpX5_245 : mj_FP RX5 245 5 15 .boolean := ⟨(RX5, TX5, 17), rfl, by decide, mj_in 413 (by decide +kernel) rfl, rfl, by decide +kernel⟩
theorem flX5_248 : mj_FL RX5 248 5 16 := ⟨(RX5, TX5, 17), rfl, by decide, mj_in 414 (by decide +kernel) rfl⟩
theorem fpX5_248 : mj_FP RX5 248 5 16 .boolean := ⟨(RX5, TX5, 17), rfl, by decide, mj_in 414 (by decide +kernel) rfl, rfl, by decide +kernel⟩
theorem lkL_13 : Cond.methodLink RL 13 yX5_write ∈ mj_TB := mj_in 451 (by decide +kernel) rfl
theorem lkL_18 : Cond.methodLink RL 18 yX5_wipe ∈ mj_TB := mj_in 452 (by decide +kernel) rfl
theorem lkL_23 : Cond.methodLink RL 23 yX5_fault ∈ mj_TB := mj_in 453 (by decide +kernel) rfl
theorem lkL_27 : Cond.methodLink RL 27 yX5_lay ∈ mj_TB := mj_in 457 (by decide +kernel) rfl
theorem lkL_31 : Cond.methodLink RL 31 yX5_node ∈ mj_TB := mj_in 458 (by decide +kernel) rfl
theorem lkX5_117 : Cond.methodLink RX5 117 yX5_isNode ∈ mj_TB := mj_in 462 (by decide +kernel) rfl
theorem lkX5_131 : Cond.methodLink RX5 131 yJ6_bitCount_0f7a4 ∈ mj_TB := mj_in 466 (by decide +kernel) rfl
theorem lkX5_136 : Cond.methodLink RX5 136 yX5_pinnedTo ∈ mj_TB := mj_in 467 (by decide +kernel) rfl
theorem lkL_36 : Cond.methodLink RL 36 yX5_cost ∈ mj_TB := mj_in 471 (by decide +kernel) rfl
theorem lkX5_139 : Cond.methodLink RX5 139 yX5_isChoice ∈ mj_TB := mj_in 475 (by decide +kernel) rfl
theorem lkX5_143 : Cond.methodLink RX5 143 yX0_choiceCost ∈ mj_TB := mj_in 479 (by decide +kernel) rfl
theorem kcX0_48 : Cond.constant RX0 48 (1000000) ∈ mj_TB := mj_in 483 (by decide +kernel) rfl
theorem lnX0_49 : (RX0, 49, yX5_choicePlace, RX5) ∈ mj_nests := by decide +kernel
theorem lnX0_53 : (RX0, 53, yX5_capped, RX5) ∈ mj_nests := by decide +kernel
theorem kcX5_218 : Cond.constant RX5 218 (1000000) ∈ mj_TB := mj_in 488 (by decide +kernel) rfl
theorem lkL_40 : Cond.methodLink RL 40 yX5_tie ∈ mj_TB := mj_in 489 (by decide +kernel) rfl
theorem lkX5_147 : Cond.methodLink RX5 147 yX0_areTied ∈ mj_TB := mj_in 493 (by decide +kernel) rfl
theorem lkX5_150 : Cond.methodLink RX5 150 yX0_tieCost ∈ mj_TB := mj_in 494 (by decide +kernel) rfl
theorem lnX0_56 : (RX0, 56, yX5_entryPlace, RX5) ∈ mj_nests := by decide +kernel
theorem lkL_45 : Cond.methodLink RL 45 yX5_price ∈ mj_TB := mj_in 499 (by decide +kernel) rfl
theorem lkX5_157 : Cond.methodLink RX5 157 yX5_choicePlace ∈ mj_TB := mj_in 503 (by decide +kernel) rfl
theorem lkX5_160 : Cond.methodLink RX5 160 yX5_beginAct ∈ mj_TB := mj_in 504 (by decide +kernel) rfl
theorem lkX5_239 : Cond.methodLink RX5 239 yX5_dropOldest ∈ mj_TB := mj_in 508 (by decide +kernel) rfl
theorem lkL_50 : Cond.methodLink RL 50 yX5_table ∈ mj_TB := mj_in 512 (by decide +kernel) rfl
theorem lkX5_169 : Cond.methodLink RX5 169 yX0_tieCount ∈ mj_TB := mj_in 516 (by decide +kernel) rfl
theorem lkX5_172 : Cond.methodLink RX5 172 yX5_joinByNoughts ∈ mj_TB := mj_in 517 (by decide +kernel) rfl
theorem lkL_55 : Cond.methodLink RL 55 yX5_loose ∈ mj_TB := mj_in 518 (by decide +kernel) rfl
theorem lkX5_176 : Cond.methodLink RX5 176 yX5_part ∈ mj_TB := mj_in 522 (by decide +kernel) rfl
theorem lkL_59 : Cond.methodLink RL 59 yX5_pin ∈ mj_TB := mj_in 525 (by decide +kernel) rfl
theorem lkL_63 : Cond.methodLink RL 63 yX5_rename ∈ mj_TB := mj_in 529 (by decide +kernel) rfl
theorem lkL_67 : Cond.methodLink RL 67 yX5_undo ∈ mj_TB := mj_in 533 (by decide +kernel) rfl
theorem lkL_71 : Cond.methodLink RL 71 yX5_turn ∈ mj_TB := mj_in 537 (by decide +kernel) rfl
theorem lkX5_183 : Cond.methodLink RX5 183 yX5_bringReduction ∈ mj_TB := mj_in 541 (by decide +kernel) rfl
theorem lkX5_251 : Cond.methodLink RX5 251 yX5_bringWeights ∈ mj_TB := mj_in 545 (by decide +kernel) rfl
theorem lkX5_225 : Cond.methodLink RX5 225 yX4_weigh ∈ mj_TB := mj_in 549 (by decide +kernel) rfl
theorem lnX4_32 : (RX4, 32, yX5_copyRow, RX5) ∈ mj_nests := by decide +kernel
theorem lnX4_37 : (RX4, 37, yX5_choicePlace, RX5) ∈ mj_nests := by decide +kernel
theorem lkX4_41 : Cond.methodLink RX4 41 yX0_choiceCost ∈ mj_TB := mj_in 555 (by decide +kernel) rfl
theorem lkX4_44 : Cond.methodLink RX4 44 yX4_areTied ∈ mj_TB := mj_in 556 (by decide +kernel) rfl
theorem lnX4_59 : (RX4, 59, yX5_hasBit, RX5) ∈ mj_nests := by decide +kernel
theorem lkX4_48 : Cond.methodLink RX4 48 yX4_weighTable ∈ mj_TB := mj_in 561 (by decide +kernel) rfl
theorem lnX4_52 : (RX4, 52, yX5_entryPlace, RX5) ∈ mj_nests := by decide +kernel
theorem lkX4_56 : Cond.methodLink RX4 56 yX0_tieCost ∈ mj_TB := mj_in 566 (by decide +kernel) rfl
theorem lkX5_254 : Cond.methodLink RX5 254 yX2_run ∈ mj_TB := mj_in 567 (by decide +kernel) rfl
theorem lkX2_31 : Cond.methodLink RX2 31 yX4_weigh ∈ mj_TB := mj_in 571 (by decide +kernel) rfl
theorem lkX2_46 : Cond.methodLink RX2 46 yX2_nextNode ∈ mj_TB := mj_in 572 (by decide +kernel) rfl
theorem lnX2_85 : (RX2, 85, yX5_hasBit, RX5) ∈ mj_nests := by decide +kernel
theorem lkX2_89 : Cond.methodLink RX2 89 yX2_comesAhead ∈ mj_TB := mj_in 577 (by decide +kernel) rfl
theorem lkX2_50 : Cond.methodLink RX2 50 yX2_matesLeft ∈ mj_TB := mj_in 581 (by decide +kernel) rfl
theorem lkX2_54 : Cond.methodLink RX2 54 yJ6_bitCount_0f7a4 ∈ mj_TB := mj_in 585 (by decide +kernel) rfl
theorem lkX2_59 : Cond.methodLink RX2 59 Lib.Math.min.name ∈ mj_TB := mj_in 586 (by decide +kernel) rfl
theorem lkX2_65 : Cond.methodLink RX2 65 yJ6_numberOfTrailingZeros_0f7a4 ∈ mj_TB := mj_in 587 (by decide +kernel) rfl
theorem kcJ6_264 : Cond.constant RJ6 264 (65536) ∈ mj_TB := mj_in 590 (by decide +kernel) rfl
theorem lkX2_68 : Cond.methodLink RX2 68 yX2_foldIntoOne ∈ mj_TB := mj_in 591 (by decide +kernel) rfl
theorem kcX2_95 : Cond.constant RX2 95 (1000000) ∈ mj_TB := mj_in 595 (by decide +kernel) rfl
theorem lkX2_96 : Cond.methodLink RX2 96 yX4_costAt ∈ mj_TB := mj_in 596 (by decide +kernel) rfl
theorem lkX2_99 : Cond.methodLink RX2 99 yX4_entryAt ∈ mj_TB := mj_in 600 (by decide +kernel) rfl
theorem lkX2_103 : Cond.methodLink RX2 103 yX4_addCost ∈ mj_TB := mj_in 604 (by decide +kernel) rfl
theorem lnX4_62 : (RX4, 62, yX5_capped, RX5) ∈ mj_nests := by decide +kernel
theorem lkX2_72 : Cond.methodLink RX2 72 yX2_foldIntoTwo ∈ mj_TB := mj_in 609 (by decide +kernel) rfl
theorem lkX2_106 : Cond.methodLink RX2 106 yX4_areTied ∈ mj_TB := mj_in 613 (by decide +kernel) rfl
theorem lnX2_112 : (RX2, 112, yX5_joinByNoughts, RX5) ∈ mj_nests := by decide +kernel
theorem lkX2_116 : Cond.methodLink RX2 116 yX4_addEntry ∈ mj_TB := mj_in 615 (by decide +kernel) rfl
theorem lkX2_76 : Cond.methodLink RX2 76 yX2_guess ∈ mj_TB := mj_in 619 (by decide +kernel) rfl
theorem lkX2_120 : Cond.methodLink RX2 120 yX2_outlook ∈ mj_TB := mj_in 623 (by decide +kernel) rfl
theorem lkX2_124 : Cond.methodLink RX2 124 yX4_leastAcross ∈ mj_TB := mj_in 627 (by decide +kernel) rfl
theorem kcX4_66 : Cond.constant RX4 66 (1000000) ∈ mj_TB := mj_in 631 (by decide +kernel) rfl
theorem lkX4_74 : Cond.methodLink RX4 74 Lib.Math.min.name ∈ mj_TB := mj_in 632 (by decide +kernel) rfl
theorem lnX2_127 : (RX2, 127, yX5_capped, RX5) ∈ mj_nests := by decide +kernel
theorem lkX2_79 : Cond.methodLink RX2 79 yX2_readOff ∈ mj_TB := mj_in 634 (by decide +kernel) rfl
theorem lkX2_130 : Cond.methodLink RX2 130 yX2_firstLeast ∈ mj_TB := mj_in 638 (by decide +kernel) rfl
theorem lkX2_133 : Cond.methodLink RX2 133 yX4_costBeside ∈ mj_TB := mj_in 642 (by decide +kernel) rfl
theorem lkL_75 : Cond.methodLink RL 75 yX5_reduced ∈ mj_TB := mj_in 646 (by decide +kernel) rfl
theorem lkL_79 : Cond.methodLink RL 79 yX5_plan ∈ mj_TB := mj_in 650 (by decide +kernel) rfl
theorem lkX5_195 : Cond.methodLink RX5 195 yX4_planCost ∈ mj_TB := mj_in 654 (by decide +kernel) rfl
theorem lkX4_67 : Cond.methodLink RX4 67 yX4_matesBelow ∈ mj_TB := mj_in 658 (by decide +kernel) rfl
theorem lkX4_70 : Cond.methodLink RX4 70 yX4_costBeside ∈ mj_TB := mj_in 662 (by decide +kernel) rfl
theorem lkL_83 : Cond.methodLink RL 83 yX5_least ∈ mj_TB := mj_in 663 (by decide +kernel) rfl
theorem lkX5_203 : Cond.methodLink RX5 203 yX5_bringSearch ∈ mj_TB := mj_in 667 (by decide +kernel) rfl
theorem lkX5_232 : Cond.methodLink RX5 232 yX3_run ∈ mj_TB := mj_in 671 (by decide +kernel) rfl
theorem kcX3_29 : Cond.constant RX3 29 (1000000) ∈ mj_TB := mj_in 675 (by decide +kernel) rfl
theorem lkX3_48 : Cond.methodLink RX3 48 yX4_leastCost ∈ mj_TB := mj_in 676 (by decide +kernel) rfl
theorem lkX4_79 : Cond.methodLink RX4 79 yX4_costAt ∈ mj_TB := mj_in 680 (by decide +kernel) rfl
theorem lnX3_52 : (RX3, 52, yX5_capped, RX5) ∈ mj_nests := by decide +kernel
theorem lkX3_55 : Cond.methodLink RX3 55 yX3_tryFrom ∈ mj_TB := mj_in 682 (by decide +kernel) rfl
theorem lkX3_59 : Cond.methodLink RX3 59 yX3_takeIn ∈ mj_TB := mj_in 686 (by decide +kernel) rfl
theorem lnX3_73 : (RX3, 73, yX5_copyRow, RX5) ∈ mj_nests := by decide +kernel
theorem lkX3_77 : Cond.methodLink RX3 77 yX3_likeFirst ∈ mj_TB := mj_in 691 (by decide +kernel) rfl
theorem lkX3_63 : Cond.methodLink RX3 63 yX4_matesBelow ∈ mj_TB := mj_in 695 (by decide +kernel) rfl
theorem lkX3_69 : Cond.methodLink RX3 69 yX4_costBeside ∈ mj_TB := mj_in 696 (by decide +kernel) rfl
theorem lkX5_219 : Cond.methodLink RX5 219 yX4_bound ∈ mj_TB := mj_in 697 (by decide +kernel) rfl
theorem lkX4_85 : Cond.methodLink RX4 85 yX4_leastCost ∈ mj_TB := mj_in 701 (by decide +kernel) rfl
theorem lkX4_88 : Cond.methodLink RX4 88 yX4_leastEntry ∈ mj_TB := mj_in 702 (by decide +kernel) rfl
theorem lkX4_82 : Cond.methodLink RX4 82 yX4_entryAt ∈ mj_TB := mj_in 706 (by decide +kernel) rfl
theorem lkL_87 : Cond.methodLink RL 87 yX5_first ∈ mj_TB := mj_in 707 (by decide +kernel) rfl
theorem lkL_91 : Cond.methodLink RL 91 yX5_with ∈ mj_TB := mj_in 711 (by decide +kernel) rfl
theorem lkX5_228 : Cond.methodLink RX5 228 yX4_allowOnly ∈ mj_TB := mj_in 715 (by decide +kernel) rfl
theorem lkL_95 : Cond.methodLink RL 95 yX5_without ∈ mj_TB := mj_in 719 (by decide +kernel) rfl
theorem lkL_99 : Cond.methodLink RL 99 yX5_keep ∈ mj_TB := mj_in 723 (by decide +kernel) rfl
theorem lkL_103 : Cond.methodLink RL 103 yX5_back ∈ mj_TB := mj_in 727 (by decide +kernel) rfl
theorem lkL_107 : Cond.methodLink RL 107 yX5_count ∈ mj_TB := mj_in 731 (by decide +kernel) rfl
theorem lkX5_236 : Cond.methodLink RX5 236 yX0_pinCount ∈ mj_TB := mj_in 735 (by decide +kernel) rfl
theorem lkL_12 : Cond.methodLink RL 12 yX6_init ∈ mj_TB := mj_in 741 (by decide +kernel) rfl
theorem lkX6_61 : Cond.methodLink RX6 61 yX6_readNone ∈ mj_TB := mj_in 745 (by decide +kernel) rfl
theorem lkX6_64 : Cond.methodLink RX6 64 yX6_nodeIs ∈ mj_TB := mj_in 749 (by decide +kernel) rfl
theorem lkX6_68 : Cond.methodLink RX6 68 yX6_tableIs ∈ mj_TB := mj_in 753 (by decide +kernel) rfl
theorem lkX6_81 : Cond.methodLink RX6 81 yX6_entryAt ∈ mj_TB := mj_in 757 (by decide +kernel) rfl
theorem kcX6_72 : Cond.constant RX6 72 (300519) ∈ mj_TB := mj_in 760 (by decide +kernel) rfl
theorem kcX6_73 : Cond.constant RX6 73 (102301) ∈ mj_TB := mj_in 761 (by decide +kernel) rfl
theorem lkX6_74 : Cond.methodLink RX6 74 yX6_begin ∈ mj_TB := mj_in 762 (by decide +kernel) rfl
theorem flX6_93 : mj_FL RX6 93 6 0 := ⟨(RX6, TX6, 27), rfl, by decide, mj_in 766 (by decide +kernel) rfl⟩
theorem fpX6_93 : mj_FP RX6 93 6 0 .int := ⟨(RX6, TX6, 27), rfl, by decide, mj_in 766 (by decide +kernel) rfl, rfl, by decide +kernel⟩
theorem flX6_7 : mj_FL RX6 7 6 1 := ⟨(RX6, TX6, 27), rfl, by decide, mj_in 767 (by decide +kernel) rfl⟩
theorem flX6_132 : mj_FL RX6 132 6 2 := ⟨(RX6, TX6, 27), rfl, by decide, mj_in 768 (by decide +kernel) rfl⟩
theorem fpX6_132 : mj_FP RX6 132 6 2 .int := ⟨(RX6, TX6, 27), rfl, by decide, mj_in 768 (by decide +kernel) rfl, rfl, by decide +kernel⟩
theorem flX6_13 : mj_FL RX6 13 6 3 := ⟨(RX6, TX6, 27), rfl, by decide, mj_in 769 (by decide +kernel) rfl⟩
theorem flX6_77 : mj_FL RX6 77 6 4 := ⟨(RX6, TX6, 27), rfl, by decide, mj_in 770 (by decide +kernel) rfl⟩
theorem fpX6_77 : mj_FP RX6 77 6 4 .int := ⟨(RX6, TX6, 27), rfl, by decide, mj_in 770 (by decide +kernel) rfl, rfl, by decide +kernel⟩
theorem flX6_16 : mj_FL RX6 16 6 5 := ⟨(RX6, TX6, 27), rfl, by decide, mj_in 771 (by decide +kernel) rfl⟩
theorem flX6_19 : mj_FL RX6 19 6 6 := ⟨(RX6, TX6, 27), rfl, by decide, mj_in 772 (by decide +kernel) rfl⟩
theorem flX6_22 : mj_FL RX6 22 6 7 := ⟨(RX6, TX6, 27), rfl, by decide, mj_in 773 (by decide +kernel) rfl⟩
theorem flX6_25 : mj_FL RX6 25 6 8 := ⟨(RX6, TX6, 27), rfl, by decide, mj_in 774 (by decide +kernel) rfl⟩
theorem flX6_135 : mj_FL RX6 135 6 9 := ⟨(RX6, TX6, 27), rfl, by decide, mj_in 775 (by decide +kernel) rfl⟩
theorem fpX6_135 : mj_FP RX6 135 6 9 .int := ⟨(RX6, TX6, 27), rfl, by decide, mj_in 775 (by decide +kernel) rfl, rfl, by decide +kernel⟩
theorem flX6_28 : mj_FL RX6 28 6 10 := ⟨(RX6, TX6, 27), rfl, by decide, mj_in 776 (by decide +kernel) rfl⟩
theorem flX6_138 : mj_FL RX6 138 6 11 := ⟨(RX6, TX6, 27), rfl, by decide, mj_in 777 (by decide +kernel) rfl⟩
theorem fpX6_138 : mj_FP RX6 138 6 11 .int := ⟨(RX6, TX6, 27), rfl, by decide, mj_in 777 (by decide +kernel) rfl, rfl, by decide +kernel⟩
theorem flX6_96 : mj_FL RX6 96 6 12 := ⟨(RX6, TX6, 27), rfl, by decide, mj_in 778 (by decide +kernel) rfl⟩
theorem fpX6_96 : mj_FP RX6 96 6 12 .int := ⟨(RX6, TX6, 27), rfl, by decide, mj_in 778 (by decide +kernel) rfl, rfl, by decide +kernel⟩
theorem flX6_107 : mj_FL RX6 107 6 13 := ⟨(RX6, TX6, 27), rfl, by decide, mj_in 779 (by decide +kernel) rfl⟩
theorem fpX6_107 : mj_FP RX6 107 6 13 .int := ⟨(RX6, TX6, 27), rfl, by decide, mj_in 779 (by decide +kernel) rfl, rfl, by decide +kernel⟩
theorem flX6_31 : mj_FL RX6 31 6 14 := ⟨(RX6, TX6, 27), rfl, by decide, mj_in 780 (by decide +kernel) rfl⟩
theorem flX6_34 : mj_FL RX6 34 6 15 := ⟨(RX6, TX6, 27), rfl, by decide, mj_in 781 (by decide +kernel) rfl⟩
theorem flX6_37 : mj_FL RX6 37 6 16 := ⟨(RX6, TX6, 27), rfl, by decide, mj_in 782 (by decide +kernel) rfl⟩
theorem flX6_40 : mj_FL RX6 40 6 17 := ⟨(RX6, TX6, 27), rfl, by decide, mj_in 783 (by decide +kernel) rfl⟩
theorem flX6_43 : mj_FL RX6 43 6 18 := ⟨(RX6, TX6, 27), rfl, by decide, mj_in 784 (by decide +kernel) rfl⟩
theorem flX6_46 : mj_FL RX6 46 6 19 := ⟨(RX6, TX6, 27), rfl, by decide, mj_in 785 (by decide +kernel) rfl⟩
theorem flX6_49 : mj_FL RX6 49 6 20 := ⟨(RX6, TX6, 27), rfl, by decide, mj_in 786 (by decide +kernel) rfl⟩
theorem flX6_227 : mj_FL RX6 227 6 21 := ⟨(RX6, TX6, 27), rfl, by decide, mj_in 787 (by decide +kernel) rfl⟩
theorem fpX6_227 : mj_FP RX6 227 6 21 .int := ⟨(RX6, TX6, 27), rfl, by decide, mj_in 787 (by decide +kernel) rfl, rfl, by decide +kernel⟩
theorem flX6_230 : mj_FL RX6 230 6 22 := ⟨(RX6, TX6, 27), rfl, by decide, mj_in 788 (by decide +kernel) rfl⟩
theorem fpX6_230 : mj_FP RX6 230 6 22 .int := ⟨(RX6, TX6, 27), rfl, by decide, mj_in 788 (by decide +kernel) rfl, rfl, by decide +kernel⟩
theorem flX6_233 : mj_FL RX6 233 6 23 := ⟨(RX6, TX6, 27), rfl, by decide, mj_in 789 (by decide +kernel) rfl⟩
theorem fpX6_233 : mj_FP RX6 233 6 23 .int := ⟨(RX6, TX6, 27), rfl, by decide, mj_in 789 (by decide +kernel) rfl, rfl, by decide +kernel⟩
theorem flX6_52 : mj_FL RX6 52 6 24 := ⟨(RX6, TX6, 27), rfl, by decide, mj_in 790 (by decide +kernel) rfl⟩
theorem flX6_55 : mj_FL RX6 55 6 25 := ⟨(RX6, TX6, 27), rfl, by decide, mj_in 791 (by decide +kernel) rfl⟩
theorem flX6_58 : mj_FL RX6 58 6 26 := ⟨(RX6, TX6, 27), rfl, by decide, mj_in 792 (by decide +kernel) rfl⟩
theorem lkL_17 : Cond.methodLink RL 17 yX6_write ∈ mj_TB := mj_in 848 (by decide +kernel) rfl
theorem klX6_85 : Cond.constantLong RX6 85 (32) ∈ mj_TB := mj_in 852 (by decide +kernel) rfl
theorem klX6_87 : Cond.constantLong RX6 87 (126) ∈ mj_TB := mj_in 853 (by decide +kernel) rfl
theorem lkX6_89 : Cond.methodLink RX6 89 yX6_in ∈ mj_TB := mj_in 854 (by decide +kernel) rfl
theorem lkL_22 : Cond.methodLink RL 22 yX6_wipe ∈ mj_TB := mj_in 857 (by decide +kernel) rfl
theorem lkL_26 : Cond.methodLink RL 26 yX6_fault ∈ mj_TB := mj_in 861 (by decide +kernel) rfl
theorem lkX6_128 : Cond.methodLink RX6 128 yX6_readAll ∈ mj_TB := mj_in 865 (by decide +kernel) rfl
theorem lkX6_99 : Cond.methodLink RX6 99 yX6_letterAt ∈ mj_TB := mj_in 869 (by decide +kernel) rfl
theorem lkX6_122 : Cond.methodLink RX6 122 yX6_nodeItem ∈ mj_TB := mj_in 873 (by decide +kernel) rfl
theorem lkX6_112 : Cond.methodLink RX6 112 yX6_isNumber ∈ mj_TB := mj_in 877 (by decide +kernel) rfl
theorem klX6_103 : Cond.constantLong RX6 103 (48) ∈ mj_TB := mj_in 881 (by decide +kernel) rfl
theorem klX6_105 : Cond.constantLong RX6 105 (57) ∈ mj_TB := mj_in 882 (by decide +kernel) rfl
theorem klX6_110 : Cond.constantLong RX6 110 (2) ∈ mj_TB := mj_in 883 (by decide +kernel) rfl
theorem lkX6_125 : Cond.methodLink RX6 125 yX6_tieItem ∈ mj_TB := mj_in 884 (by decide +kernel) rfl
theorem lkX6_116 : Cond.methodLink RX6 116 yX6_tiesIn ∈ mj_TB := mj_in 888 (by decide +kernel) rfl
theorem klX6_120 : Cond.constantLong RX6 120 (9) ∈ mj_TB := mj_in 891 (by decide +kernel) rfl
theorem lkL_30 : Cond.methodLink RL 30 yX6_lay ∈ mj_TB := mj_in 892 (by decide +kernel) rfl
theorem lkL_35 : Cond.methodLink RL 35 yX6_node ∈ mj_TB := mj_in 896 (by decide +kernel) rfl
theorem lkX6_141 : Cond.methodLink RX6 141 yX6_isNode ∈ mj_TB := mj_in 900 (by decide +kernel) rfl
theorem klX6_150 : Cond.constantLong RX6 150 (3) ∈ mj_TB := mj_in 904 (by decide +kernel) rfl
theorem lkX6_152 : Cond.methodLink RX6 152 yX6_tiedMany ∈ mj_TB := mj_in 905 (by decide +kernel) rfl
theorem lkX6_146 : Cond.methodLink RX6 146 yX6_isTied ∈ mj_TB := mj_in 909 (by decide +kernel) rfl
theorem lkL_39 : Cond.methodLink RL 39 yX6_cost ∈ mj_TB := mj_in 913 (by decide +kernel) rfl
theorem lkX6_155 : Cond.methodLink RX6 155 yX6_isChoice ∈ mj_TB := mj_in 917 (by decide +kernel) rfl
theorem lkX6_158 : Cond.methodLink RX6 158 yX6_costOf ∈ mj_TB := mj_in 921 (by decide +kernel) rfl
theorem kcX6_145 : Cond.constant RX6 145 (1000000) ∈ mj_TB := mj_in 925 (by decide +kernel) rfl
theorem lkL_44 : Cond.methodLink RL 44 yX6_tie ∈ mj_TB := mj_in 926 (by decide +kernel) rfl
theorem lkX6_162 : Cond.methodLink RX6 162 yX6_tieOf ∈ mj_TB := mj_in 930 (by decide +kernel) rfl
theorem lkL_49 : Cond.methodLink RL 49 yX6_price ∈ mj_TB := mj_in 934 (by decide +kernel) rfl
theorem klX6_165 : Cond.constantLong RX6 165 (99) ∈ mj_TB := mj_in 938 (by decide +kernel) rfl
theorem lkX6_167 : Cond.methodLink RX6 167 yX6_note ∈ mj_TB := mj_in 939 (by decide +kernel) rfl
theorem lkL_54 : Cond.methodLink RL 54 yX6_table ∈ mj_TB := mj_in 943 (by decide +kernel) rfl
theorem lkL_58 : Cond.methodLink RL 58 yX6_loose ∈ mj_TB := mj_in 947 (by decide +kernel) rfl
theorem lkX6_170 : Cond.methodLink RX6 170 yX6_isPair ∈ mj_TB := mj_in 951 (by decide +kernel) rfl
theorem lkX6_173 : Cond.methodLink RX6 173 yX6_looseNow ∈ mj_TB := mj_in 955 (by decide +kernel) rfl
theorem lkL_62 : Cond.methodLink RL 62 yX6_pin ∈ mj_TB := mj_in 959 (by decide +kernel) rfl
theorem klX6_177 : Cond.constantLong RX6 177 (-1) ∈ mj_TB := mj_in 963 (by decide +kernel) rfl
theorem lkL_66 : Cond.methodLink RL 66 yX6_rename ∈ mj_TB := mj_in 964 (by decide +kernel) rfl
theorem lkL_70 : Cond.methodLink RL 70 yX6_undo ∈ mj_TB := mj_in 968 (by decide +kernel) rfl
theorem lkL_74 : Cond.methodLink RL 74 yX6_turn ∈ mj_TB := mj_in 972 (by decide +kernel) rfl
theorem lkX6_221 : Cond.methodLink RX6 221 yX6_reduceAll ∈ mj_TB := mj_in 976 (by decide +kernel) rfl
theorem lkX6_199 : Cond.methodLink RX6 199 yX6_aside ∈ mj_TB := mj_in 980 (by decide +kernel) rfl
theorem lkX6_179 : Cond.methodLink RX6 179 yX6_tableAt ∈ mj_TB := mj_in 984 (by decide +kernel) rfl
theorem lkX6_202 : Cond.methodLink RX6 202 yX6_nextOf ∈ mj_TB := mj_in 987 (by decide +kernel) rfl
theorem lkX6_185 : Cond.methodLink RX6 185 yX6_has ∈ mj_TB := mj_in 991 (by decide +kernel) rfl
theorem lkX6_188 : Cond.methodLink RX6 188 yX6_isAhead ∈ mj_TB := mj_in 994 (by decide +kernel) rfl
theorem lkX6_182 : Cond.methodLink RX6 182 yX6_ones ∈ mj_TB := mj_in 998 (by decide +kernel) rfl
theorem lkX6_205 : Cond.methodLink RX6 205 yX6_nthOf ∈ mj_TB := mj_in 1001 (by decide +kernel) rfl
theorem lkX6_208 : Cond.methodLink RX6 208 yX6_ruleOne ∈ mj_TB := mj_in 1004 (by decide +kernel) rfl
theorem lkX6_191 : Cond.methodLink RX6 191 yX6_atMost ∈ mj_TB := mj_in 1008 (by decide +kernel) rfl
theorem lkX6_211 : Cond.methodLink RX6 211 yX6_ruleTwo ∈ mj_TB := mj_in 1011 (by decide +kernel) rfl
theorem lkX6_214 : Cond.methodLink RX6 214 yX6_ruleThree ∈ mj_TB := mj_in 1015 (by decide +kernel) rfl
theorem kcX6_194 : Cond.constant RX6 194 (1000001) ∈ mj_TB := mj_in 1019 (by decide +kernel) rfl
theorem lkX6_195 : Cond.methodLink RX6 195 yX6_leastBeside ∈ mj_TB := mj_in 1020 (by decide +kernel) rfl
theorem lkX6_218 : Cond.methodLink RX6 218 yX6_takeBest ∈ mj_TB := mj_in 1024 (by decide +kernel) rfl
theorem lkL_78 : Cond.methodLink RL 78 yX6_reduced ∈ mj_TB := mj_in 1028 (by decide +kernel) rfl
theorem lkL_82 : Cond.methodLink RL 82 yX6_plan ∈ mj_TB := mj_in 1032 (by decide +kernel) rfl
theorem lkX6_224 : Cond.methodLink RX6 224 yX6_planCost ∈ mj_TB := mj_in 1036 (by decide +kernel) rfl
theorem lkL_86 : Cond.methodLink RL 86 yX6_least ∈ mj_TB := mj_in 1040 (by decide +kernel) rfl
theorem klX6_239 : Cond.constantLong RX6 239 (4) ∈ mj_TB := mj_in 1044 (by decide +kernel) rfl
theorem lkX6_241 : Cond.methodLink RX6 241 yX6_bound ∈ mj_TB := mj_in 1045 (by decide +kernel) rfl
theorem lkX6_244 : Cond.methodLink RX6 244 yX6_goAll ∈ mj_TB := mj_in 1049 (by decide +kernel) rfl
theorem lkX6_236 : Cond.methodLink RX6 236 yX6_meetPlan ∈ mj_TB := mj_in 1053 (by decide +kernel) rfl
theorem lkX6_247 : Cond.methodLink RX6 247 yX6_sameSet ∈ mj_TB := mj_in 1057 (by decide +kernel) rfl
theorem lkL_90 : Cond.methodLink RL 90 yX6_first ∈ mj_TB := mj_in 1061 (by decide +kernel) rfl
theorem lkL_94 : Cond.methodLink RL 94 yX6_with ∈ mj_TB := mj_in 1065 (by decide +kernel) rfl
theorem lkL_98 : Cond.methodLink RL 98 yX6_without ∈ mj_TB := mj_in 1069 (by decide +kernel) rfl
theorem lkL_102 : Cond.methodLink RL 102 yX6_keep ∈ mj_TB := mj_in 1073 (by decide +kernel) rfl
theorem lkL_106 : Cond.methodLink RL 106 yX6_back ∈ mj_TB := mj_in 1077 (by decide +kernel) rfl
theorem lkL_110 : Cond.methodLink RL 110 yX6_count ∈ mj_TB := mj_in 1081 (by decide +kernel) rfl
theorem lkX6_250 : Cond.methodLink RX6 250 yX6_pinned ∈ mj_TB := mj_in 1085 (by decide +kernel) rfl
theorem iiL : Cond.initialized RL ∈ mj_TB := mj_in 62 (by decide +kernel) rfl
theorem iiX5 : Cond.initialized RX5 ∈ mj_TB := mj_in 63 (by decide +kernel) rfl
theorem iiX0 : Cond.initialized RX0 ∈ mj_TB := mj_in 64 (by decide +kernel) rfl
theorem iiX1 : Cond.initialized RX1 ∈ mj_TB := mj_in 65 (by decide +kernel) rfl
theorem iiX4 : Cond.initialized RX4 ∈ mj_TB := mj_in 66 (by decide +kernel) rfl
theorem iiX2 : Cond.initialized RX2 ∈ mj_TB := mj_in 67 (by decide +kernel) rfl
theorem iiX3 : Cond.initialized RX3 ∈ mj_TB := mj_in 68 (by decide +kernel) rfl
theorem iiJ0 : Cond.initialized RJ0 ∈ mj_TB := mj_in 69 (by decide +kernel) rfl
theorem iiJ1 : Cond.initialized RJ1 ∈ mj_TB := mj_in 70 (by decide +kernel) rfl
theorem iiJ3 : Cond.initialized RJ3 ∈ mj_TB := mj_in 71 (by decide +kernel) rfl
theorem iiJ2 : Cond.initialized RJ2 ∈ mj_TB := mj_in 72 (by decide +kernel) rfl
theorem iiJ9 : Cond.initialized RJ9 ∈ mj_TB := mj_in 73 (by decide +kernel) rfl
theorem iiJ6 : Cond.initialized RJ6 ∈ mj_TB := mj_in 74 (by decide +kernel) rfl
theorem iiJ10 : Cond.initialized RJ10 ∈ mj_TB := mj_in 75 (by decide +kernel) rfl
theorem iiX6 : Cond.initialized RX6 ∈ mj_TB := mj_in 76 (by decide +kernel) rfl
theorem clL_7 : Cond.classLink RL 7 RX5 ∈ mj_TB := mj_in 77 (by decide +kernel) rfl
theorem isX5 : Cond.instantiable RX5 17 ∈ mj_TB := mj_in 78 (by decide +kernel) rfl
theorem loX5_3 : Cond.methodLink RX5 3 objectInit ∈ mj_TB := mj_in 82 (by decide +kernel) rfl
theorem clX5_13 : Cond.classLink RX5 13 RX0 ∈ mj_TB := mj_in 85 (by decide +kernel) rfl
theorem isX0 : Cond.instantiable RX0 7 ∈ mj_TB := mj_in 86 (by decide +kernel) rfl
theorem loX0_3 : Cond.methodLink RX0 3 objectInit ∈ mj_TB := mj_in 90 (by decide +kernel) rfl
theorem clX5_23 : Cond.classLink RX5 23 RX1 ∈ mj_TB := mj_in 130 (by decide +kernel) rfl
theorem isX1 : Cond.instantiable RX1 4 ∈ mj_TB := mj_in 131 (by decide +kernel) rfl
theorem loX1_3 : Cond.methodLink RX1 3 objectInit ∈ mj_TB := mj_in 135 (by decide +kernel) rfl
theorem clX5_39 : Cond.classLink RX5 39 RX4 ∈ mj_TB := mj_in 150 (by decide +kernel) rfl
theorem isX4 : Cond.instantiable RX4 5 ∈ mj_TB := mj_in 151 (by decide +kernel) rfl
theorem loX4_3 : Cond.methodLink RX4 3 objectInit ∈ mj_TB := mj_in 155 (by decide +kernel) rfl
theorem clX5_49 : Cond.classLink RX5 49 RX2 ∈ mj_TB := mj_in 179 (by decide +kernel) rfl
theorem isX2 : Cond.instantiable RX2 7 ∈ mj_TB := mj_in 180 (by decide +kernel) rfl
theorem loX2_3 : Cond.methodLink RX2 3 objectInit ∈ mj_TB := mj_in 184 (by decide +kernel) rfl
theorem clX2_24 : Cond.classLink RX2 24 RX4 ∈ mj_TB := mj_in 185 (by decide +kernel) rfl
theorem clX5_56 : Cond.classLink RX5 56 RX3 ∈ mj_TB := mj_in 213 (by decide +kernel) rfl
theorem isX3 : Cond.instantiable RX3 9 ∈ mj_TB := mj_in 214 (by decide +kernel) rfl
theorem loX3_3 : Cond.methodLink RX3 3 objectInit ∈ mj_TB := mj_in 218 (by decide +kernel) rfl
theorem clL_10 : Cond.classLink RL 10 RX6 ∈ mj_TB := mj_in 739 (by decide +kernel) rfl
theorem isX6 : Cond.instantiable RX6 27 ∈ mj_TB := mj_in 740 (by decide +kernel) rfl
theorem loX6_1 : Cond.methodLink RX6 1 objectInit ∈ mj_TB := mj_in 744 (by decide +kernel) rfl
theorem oi_im : Cond.instanceMethod objectInit ∈ mj_TB := mj_in 83 (by decide +kernel) rfl
theorem oi_co : Cond.code objectInit ⟨#[0xb1]⟩ 1 none ∈ mj_TB := mj_in 84 (by decide +kernel) rfl
theorem ar_i : Cond.arrayClass .int ∈ mj_TB := mj_in 129 (by decide +kernel) rfl
theorem ar_c : Cond.arrayClass .char ∈ mj_TB := mj_in 128 (by decide +kernel) rfl
theorem mn_st : Cond.static Lib.Math.min.name ∈ mj_TB := mj_in 317 (by decide +kernel) rfl
theorem mn_in : Cond.initialized "java/lang/Math" ∈ mj_TB := mj_in 73 (by decide +kernel) rfl
theorem mn_co : Cond.code Lib.Math.min.name Lib.Math.min.code 2 (some .int) ∈ mj_TB := mj_in 318 (by decide +kernel) rfl
theorem ac_na : Cond.native arraycopyName ∈ mj_TB := mj_in 389 (by decide +kernel) rfl
theorem ac_st : Cond.static arraycopyName ∈ mj_TB := mj_in 388 (by decide +kernel) rfl
theorem ac_in : Cond.initialized "java/lang/System" ∈ mj_TB := mj_in 75 (by decide +kernel) rfl
