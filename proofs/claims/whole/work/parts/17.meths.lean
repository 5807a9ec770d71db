abbrev mJ0_charAt_5068e : MI := (yJ0_charAt_5068e, cJ0_charAt_5068e, 2, (some (.char)))
set_option maxRecDepth 100000 in
theorem meJ0_charAt_5068e : Me mJ0_charAt_5068e 1 := ⟨wt_of 52 rfl rfl, wt_of 3 rfl rfl, ⟨by decide +kernel, by decide +kernel⟩, by decide +kernel, by decide⟩
abbrev mJ0_checkIndex_df160 : MI := (yJ0_checkIndex_df160, cJ0_checkIndex_df160, 2, none)
set_option maxRecDepth 100000 in
theorem meJ0_checkIndex_df160 : Me mJ0_checkIndex_df160 2 := ⟨wt_of 62 rfl rfl, wt_of 3 rfl rfl, ⟨by decide +kernel, by decide +kernel⟩, by decide +kernel, by decide⟩
abbrev mJ0_coder_7d493 : MI := (yJ0_coder_7d493, cJ0_coder_7d493, 1, (some (.byte)))
set_option maxRecDepth 100000 in
theorem meJ0_coder_7d493 : Me mJ0_coder_7d493 0 := ⟨wt_of 46 rfl rfl, wt_of 3 rfl rfl, ⟨by decide +kernel, by decide +kernel⟩, by decide +kernel, by decide⟩
abbrev mJ0_indexOf_0f7a4 : MI := (yJ0_indexOf_0f7a4, cJ0_indexOf_0f7a4, 2, (some (.int)))
set_option maxRecDepth 100000 in
theorem meJ0_indexOf_0f7a4 : Me mJ0_indexOf_0f7a4 1 := ⟨wt_of 481 rfl rfl, wt_of 3 rfl rfl, ⟨by decide +kernel, by decide +kernel⟩, by decide +kernel, by decide⟩
abbrev mJ0_indexOf_7cf53 : MI := (yJ0_indexOf_7cf53, cJ0_indexOf_7cf53, 3, (some (.int)))
set_option maxRecDepth 100000 in
theorem meJ0_indexOf_7cf53 : Me mJ0_indexOf_7cf53 2 := ⟨wt_of 485 rfl rfl, wt_of 3 rfl rfl, ⟨by decide +kernel, by decide +kernel⟩, by decide +kernel, by decide⟩
abbrev mJ0_isLatin1_aae02 : MI := (yJ0_isLatin1_aae02, cJ0_isLatin1_aae02, 1, (some (.boolean)))
set_option maxRecDepth 100000 in
theorem meJ0_isLatin1_aae02 : Me mJ0_isLatin1_aae02 0 := ⟨wt_of 56 rfl rfl, wt_of 3 rfl rfl, ⟨by decide +kernel, by decide +kernel⟩, by decide +kernel, by decide⟩
abbrev mJ0_length_8abf5 : MI := (yJ0_length_8abf5, cJ0_length_8abf5, 1, (some (.int)))
set_option maxRecDepth 100000 in
theorem meJ0_length_8abf5 : Me mJ0_length_8abf5 0 := ⟨wt_of 42 rfl rfl, wt_of 3 rfl rfl, ⟨by decide +kernel, by decide +kernel⟩, by decide +kernel, by decide⟩
abbrev mJ1_canEncode_9a6ad : MI := (yJ1_canEncode_9a6ad, cJ1_canEncode_9a6ad, 1, (some (.boolean)))
set_option maxRecDepth 100000 in
theorem meJ1_canEncode_9a6ad : Me mJ1_canEncode_9a6ad 1 := ⟨wt_of 492 rfl rfl, wt_of 4 rfl rfl, ⟨by decide +kernel, by decide +kernel⟩, by decide +kernel, by decide⟩
abbrev mJ1_charAt_3b067 : MI := (yJ1_charAt_3b067, cJ1_charAt_3b067, 2, (some (.char)))
set_option maxRecDepth 100000 in
theorem meJ1_charAt_3b067 : Me mJ1_charAt_3b067 2 := ⟨wt_of 59 rfl rfl, wt_of 4 rfl rfl, ⟨by decide +kernel, by decide +kernel⟩, by decide +kernel, by decide⟩
abbrev mJ1_indexOfChar_4cfef : MI := (yJ1_indexOfChar_4cfef, cJ1_indexOfChar_4cfef, 6, (some (.int)))
set_option maxRecDepth 100000 in
theorem meJ1_indexOfChar_4cfef : Me mJ1_indexOfChar_4cfef 4 := ⟨wt_of 501 rfl rfl, wt_of 4 rfl rfl, ⟨by decide +kernel, by decide +kernel⟩, by decide +kernel, by decide⟩
abbrev mJ1_indexOf_4cfef : MI := (yJ1_indexOf_4cfef, cJ1_indexOf_4cfef, 4, (some (.int)))
set_option maxRecDepth 100000 in
theorem meJ1_indexOf_4cfef : Me mJ1_indexOf_4cfef 4 := ⟨wt_of 489 rfl rfl, wt_of 4 rfl rfl, ⟨by decide +kernel, by decide +kernel⟩, by decide +kernel, by decide⟩
abbrev mJ3_checkIndex_8e157 : MI := (yJ3_checkIndex_8e157, cJ3_checkIndex_8e157, 3, (some (.int)))
set_option maxRecDepth 100000 in
theorem meJ3_checkIndex_8e157 : Me mJ3_checkIndex_8e157 3 := ⟨wt_of 67 rfl rfl, wt_of 5 rfl rfl, ⟨by decide +kernel, by decide +kernel⟩, by decide +kernel, by decide⟩
abbrev mJ7_copyOf_59c91 : MI := (yJ7_copyOf_59c91, cJ7_copyOf_59c91, 3, (some ((.array .int))))
set_option maxRecDepth 100000 in
theorem meJ7_copyOf_59c91 : Me mJ7_copyOf_59c91 2 := ⟨wt_of 703 rfl rfl, wt_of 18 rfl rfl, ⟨by decide +kernel, by decide +kernel⟩, by decide +kernel, by decide⟩
abbrev mJ7_copyOf_c38d5 : MI := (yJ7_copyOf_c38d5, cJ7_copyOf_c38d5, 3, (some ((.array .long))))
set_option maxRecDepth 100000 in
theorem meJ7_copyOf_c38d5 : Me mJ7_copyOf_c38d5 2 := ⟨wt_of 717 rfl rfl, wt_of 18 rfl rfl, ⟨by decide +kernel, by decide +kernel⟩, by decide +kernel, by decide⟩
abbrev mJ7_fill_53178 : MI := (yJ7_fill_53178, cJ7_fill_53178, 4, none)
set_option maxRecDepth 100000 in
theorem meJ7_fill_53178 : Me mJ7_fill_53178 2 := ⟨wt_of 809 rfl rfl, wt_of 18 rfl rfl, ⟨by decide +kernel, by decide +kernel⟩, by decide +kernel, by decide⟩
abbrev mJ7_fill_d0a16 : MI := (yJ7_fill_d0a16, cJ7_fill_d0a16, 5, none)
set_option maxRecDepth 100000 in
theorem meJ7_fill_d0a16 : Me mJ7_fill_d0a16 2 := ⟨wt_of 812 rfl rfl, wt_of 18 rfl rfl, ⟨by decide +kernel, by decide +kernel⟩, by decide +kernel, by decide⟩
abbrev mX0_addConst : MI := (yX0_addConst, cX0_addConst, 3, none)
set_option maxRecDepth 100000 in
theorem meX0_addConst : Me mX0_addConst 1 := ⟨wt_of 594 rfl rfl, wt_of 8 rfl rfl, ⟨by decide +kernel, by decide +kernel⟩, by decide +kernel, by decide⟩
abbrev mX0_addTable : MI := (yX0_addTable, cX0_addTable, 5, none)
set_option maxRecDepth 100000 in
theorem meX0_addTable : Me mX0_addTable 2 := ⟨wt_of 673 rfl rfl, wt_of 8 rfl rfl, ⟨by decide +kernel, by decide +kernel⟩, by decide +kernel, by decide⟩
abbrev mX0_clear : MI := (yX0_clear, cX0_clear, 1, none)
set_option maxRecDepth 100000 in
theorem meX0_clear : Me mX0_clear 0 := ⟨wt_of 540 rfl rfl, wt_of 8 rfl rfl, ⟨by decide +kernel, by decide +kernel⟩, by decide +kernel, by decide⟩
abbrev mX0_closeTry : MI := (yX0_closeTry, cX0_closeTry, 2, none)
set_option maxRecDepth 100000 in
theorem meX0_closeTry : Me mX0_closeTry 1 := ⟨wt_of 694 rfl rfl, wt_of 8 rfl rfl, ⟨by decide +kernel, by decide +kernel⟩, by decide +kernel, by decide⟩
abbrev mX0_emit : MI := (yX0_emit, cX0_emit, 4, (some (.int)))
set_option maxRecDepth 100000 in
theorem meX0_emit : Me mX0_emit 2 := ⟨wt_of 577 rfl rfl, wt_of 8 rfl rfl, ⟨by decide +kernel, by decide +kernel⟩, by decide +kernel, by decide⟩
abbrev mX0_emitReference : MI := (yX0_emitReference, cX0_emitReference, 5, none)
set_option maxRecDepth 100000 in
theorem meX0_emitReference : Me mX0_emitReference 3 := ⟨wt_of 618 rfl rfl, wt_of 8 rfl rfl, ⟨by decide +kernel, by decide +kernel⟩, by decide +kernel, by decide⟩
abbrev mX0_hasName : MI := (yX0_hasName, cX0_hasName, 3, (some (.boolean)))
set_option maxRecDepth 100000 in
theorem meX0_hasName : Me mX0_hasName 1 := ⟨wt_of 589 rfl rfl, wt_of 8 rfl rfl, ⟨by decide +kernel, by decide +kernel⟩, by decide +kernel, by decide⟩
abbrev mX0_init : MI := (yX0_init, cX0_init, 1, none)
set_option maxRecDepth 100000 in
theorem meX0_init : Me mX0_init 0 := ⟨wt_of 132 rfl rfl, wt_of 8 rfl rfl, ⟨by decide +kernel, by decide +kernel⟩, by decide +kernel, by decide⟩
abbrev mX0_landHere : MI := (yX0_landHere, cX0_landHere, 2, none)
set_option maxRecDepth 100000 in
theorem meX0_landHere : Me mX0_landHere 1 := ⟨wt_of 623 rfl rfl, wt_of 8 rfl rfl, ⟨by decide +kernel, by decide +kernel⟩, by decide +kernel, by decide⟩
abbrev mX0_openTry : MI := (yX0_openTry, cX0_openTry, 1, (some (.int)))
set_option maxRecDepth 100000 in
theorem meX0_openTry : Me mX0_openTry 0 := ⟨wt_of 686 rfl rfl, wt_of 8 rfl rfl, ⟨by decide +kernel, by decide +kernel⟩, by decide +kernel, by decide⟩
abbrev mX10_bill : MI := (yX10_bill, cX10_bill, 4, (some (.int)))
set_option maxRecDepth 100000 in
theorem meX10_bill : Me mX10_bill 1 := ⟨wt_of 1037 rfl rfl, wt_of 1 rfl rfl, ⟨by decide +kernel, by decide +kernel⟩, by decide +kernel, by decide⟩
abbrev mX10_constant : MI := (yX10_constant, cX10_constant, 4, (some (.long)))
set_option maxRecDepth 100000 in
theorem meX10_constant : Me mX10_constant 2 := ⟨wt_of 885 rfl rfl, wt_of 1 rfl rfl, ⟨by decide +kernel, by decide +kernel⟩, by decide +kernel, by decide⟩
abbrev mX10_count : MI := (yX10_count, cX10_count, 2, (some (.int)))
set_option maxRecDepth 100000 in
theorem meX10_count : Me mX10_count 1 := ⟨wt_of 1058 rfl rfl, wt_of 1 rfl rfl, ⟨by decide +kernel, by decide +kernel⟩, by decide +kernel, by decide⟩
abbrev mX10_end : MI := (yX10_end, cX10_end, 2, (some (.int)))
set_option maxRecDepth 100000 in
theorem meX10_end : Me mX10_end 1 := ⟨wt_of 435 rfl rfl, wt_of 1 rfl rfl, ⟨by decide +kernel, by decide +kernel⟩, by decide +kernel, by decide⟩
abbrev mX10_entry : MI := (yX10_entry, cX10_entry, 5, (some (.long)))
set_option maxRecDepth 100000 in
theorem meX10_entry : Me mX10_entry 3 := ⟨wt_of 895 rfl rfl, wt_of 1 rfl rfl, ⟨by decide +kernel, by decide +kernel⟩, by decide +kernel, by decide⟩
abbrev mX10_fault : MI := (yX10_fault, cX10_fault, 2, (some (.int)))
set_option maxRecDepth 100000 in
theorem meX10_fault : Me mX10_fault 1 := ⟨wt_of 786 rfl rfl, wt_of 1 rfl rfl, ⟨by decide +kernel, by decide +kernel⟩, by decide +kernel, by decide⟩
abbrev mX10_feed : MI := (yX10_feed, cX10_feed, 6, (some (.int)))
set_option maxRecDepth 100000 in
theorem meX10_feed : Me mX10_feed 5 := ⟨wt_of 427 rfl rfl, wt_of 1 rfl rfl, ⟨by decide +kernel, by decide +kernel⟩, by decide +kernel, by decide⟩
abbrev mX10_forget : MI := (yX10_forget, cX10_forget, 3, (some (.boolean)))
set_option maxRecDepth 100000 in
theorem meX10_forget : Me mX10_forget 1 := ⟨wt_of 790 rfl rfl, wt_of 1 rfl rfl, ⟨by decide +kernel, by decide +kernel⟩, by decide +kernel, by decide⟩
abbrev mX10_init : MI := (yX10_init, cX10_init, 1, none)
set_option maxRecDepth 100000 in
theorem meX10_init : Me mX10_init 0 := ⟨wt_of 25 rfl rfl, wt_of 1 rfl rfl, ⟨by decide +kernel, by decide +kernel⟩, by decide +kernel, by decide⟩
abbrev mX10_issue : MI := (yX10_issue, cX10_issue, 2, (some (.int)))
set_option maxRecDepth 100000 in
theorem meX10_issue : Me mX10_issue 0 := ⟨wt_of 794 rfl rfl, wt_of 1 rfl rfl, ⟨by decide +kernel, by decide +kernel⟩, by decide +kernel, by decide⟩
abbrev mX10_leans : MI := (yX10_leans, cX10_leans, 6, (some (.boolean)))
set_option maxRecDepth 100000 in
theorem meX10_leans : Me mX10_leans 2 := ⟨wt_of 881 rfl rfl, wt_of 1 rfl rfl, ⟨by decide +kernel, by decide +kernel⟩, by decide +kernel, by decide⟩
abbrev mX10_line : MI := (yX10_line, cX10_line, 4, (some (.long)))
set_option maxRecDepth 100000 in
theorem meX10_line : Me mX10_line 2 := ⟨wt_of 1054 rfl rfl, wt_of 1 rfl rfl, ⟨by decide +kernel, by decide +kernel⟩, by decide +kernel, by decide⟩
abbrev mX10_lock : MI := (yX10_lock, cX10_lock, 8, (some (.int)))
set_option maxRecDepth 100000 in
theorem meX10_lock : Me mX10_lock 4 := ⟨wt_of 1025 rfl rfl, wt_of 1 rfl rfl, ⟨by decide +kernel, by decide +kernel⟩, by decide +kernel, by decide⟩
abbrev mX10_need : MI := (yX10_need, cX10_need, 3, (some (.int)))
set_option maxRecDepth 100000 in
theorem meX10_need : Me mX10_need 1 := ⟨wt_of 903 rfl rfl, wt_of 1 rfl rfl, ⟨by decide +kernel, by decide +kernel⟩, by decide +kernel, by decide⟩
abbrev mX10_positionOf : MI := (yX10_positionOf, cX10_positionOf, 5, (some (.int)))
set_option maxRecDepth 100000 in
theorem meX10_positionOf : Me mX10_positionOf 3 := ⟨wt_of 471 rfl rfl, wt_of 1 rfl rfl, ⟨by decide +kernel, by decide +kernel⟩, by decide +kernel, by decide⟩
abbrev mX10_sheet : MI := (yX10_sheet, cX10_sheet, 4, (some (.int)))
set_option maxRecDepth 100000 in
theorem meX10_sheet : Me mX10_sheet 1 := ⟨wt_of 439 rfl rfl, wt_of 1 rfl rfl, ⟨by decide +kernel, by decide +kernel⟩, by decide +kernel, by decide⟩
abbrev mX10_sheetState : MI := (yX10_sheetState, cX10_sheetState, 2, (some (.int)))
set_option maxRecDepth 100000 in
theorem meX10_sheetState : Me mX10_sheetState 2 := ⟨wt_of 877 rfl rfl, wt_of 1 rfl rfl, ⟨by decide +kernel, by decide +kernel⟩, by decide +kernel, by decide⟩
abbrev mX10_started : MI := (yX10_started, cX10_started, 2, (some (.int)))
set_option maxRecDepth 100000 in
theorem meX10_started : Me mX10_started 1 := ⟨wt_of 972 rfl rfl, wt_of 1 rfl rfl, ⟨by decide +kernel, by decide +kernel⟩, by decide +kernel, by decide⟩
abbrev mX10_state : MI := (yX10_state, cX10_state, 5, (some (.int)))
set_option maxRecDepth 100000 in
theorem meX10_state : Me mX10_state 2 := ⟨wt_of 874 rfl rfl, wt_of 1 rfl rfl, ⟨by decide +kernel, by decide +kernel⟩, by decide +kernel, by decide⟩
abbrev mX10_voyage : MI := (yX10_voyage, cX10_voyage, 4, (some (.int)))
set_option maxRecDepth 100000 in
theorem meX10_voyage : Me mX10_voyage 2 := ⟨wt_of 976 rfl rfl, wt_of 1 rfl rfl, ⟨by decide +kernel, by decide +kernel⟩, by decide +kernel, by decide⟩
abbrev mX10_voyageOf : MI := (yX10_voyageOf, cX10_voyageOf, 2, (some (.object "TollAlmanac$Voyage")))
set_option maxRecDepth 100000 in
theorem meX10_voyageOf : Me mX10_voyageOf 1 := ⟨wt_of 1029 rfl rfl, wt_of 1 rfl rfl, ⟨by decide +kernel, by decide +kernel⟩, by decide +kernel, by decide⟩
abbrev mX10_yearIndex : MI := (yX10_yearIndex, cX10_yearIndex, 2, (some (.int)))
set_option maxRecDepth 100000 in
theorem meX10_yearIndex : Me mX10_yearIndex 1 := ⟨wt_of 442 rfl rfl, wt_of 1 rfl rfl, ⟨by decide +kernel, by decide +kernel⟩, by decide +kernel, by decide⟩
abbrev mX11_aConst : MI := (yX11_aConst, cX11_aConst, 5, none)
set_option maxRecDepth 100000 in
theorem meX11_aConst : Me mX11_aConst 0 := ⟨wt_of 1395 rfl rfl, wt_of 14 rfl rfl, ⟨by decide +kernel, by decide +kernel⟩, by decide +kernel, by decide⟩
abbrev mX11_acted : MI := (yX11_acted, cX11_acted, 5, (some (.long)))
set_option maxRecDepth 100000 in
theorem meX11_acted : Me mX11_acted 3 := ⟨wt_of 1571 rfl rfl, wt_of 14 rfl rfl, ⟨by decide +kernel, by decide +kernel⟩, by decide +kernel, by decide⟩
abbrev mX11_advance : MI := (yX11_advance, cX11_advance, 3, none)
set_option maxRecDepth 100000 in
theorem meX11_advance : Me mX11_advance 0 := ⟨wt_of 1350 rfl rfl, wt_of 14 rfl rfl, ⟨by decide +kernel, by decide +kernel⟩, by decide +kernel, by decide⟩
abbrev mX11_atom : MI := (yX11_atom, cX11_atom, 4, none)
set_option maxRecDepth 100000 in
theorem meX11_atom : Me mX11_atom 0 := ⟨wt_of 1455 rfl rfl, wt_of 14 rfl rfl, ⟨by decide +kernel, by decide +kernel⟩, by decide +kernel, by decide⟩
abbrev mX11_bill : MI := (yX11_bill, cX11_bill, 6, (some (.int)))
set_option maxRecDepth 100000 in
theorem meX11_bill : Me mX11_bill 1 := ⟨wt_of 1589 rfl rfl, wt_of 14 rfl rfl, ⟨by decide +kernel, by decide +kernel⟩, by decide +kernel, by decide⟩
abbrev mX11_block : MI := (yX11_block, cX11_block, 1, none)
set_option maxRecDepth 100000 in
theorem meX11_block : Me mX11_block 0 := ⟨wt_of 1479 rfl rfl, wt_of 14 rfl rfl, ⟨by decide +kernel, by decide +kernel⟩, by decide +kernel, by decide⟩
abbrev mX11_builds : MI := (yX11_builds, cX11_builds, 7, (some (.int)))
set_option maxRecDepth 100000 in
theorem meX11_builds : Me mX11_builds 3 := ⟨wt_of 1552 rfl rfl, wt_of 14 rfl rfl, ⟨by decide +kernel, by decide +kernel⟩, by decide +kernel, by decide⟩
abbrev mX11_byteAt : MI := (yX11_byteAt, cX11_byteAt, 2, (some (.int)))
set_option maxRecDepth 100000 in
theorem meX11_byteAt : Me mX11_byteAt 1 := ⟨wt_of 1354 rfl rfl, wt_of 14 rfl rfl, ⟨by decide +kernel, by decide +kernel⟩, by decide +kernel, by decide⟩
abbrev mX11_called : MI := (yX11_called, cX11_called, 4, none)
set_option maxRecDepth 100000 in
theorem meX11_called : Me mX11_called 2 := ⟨wt_of 1459 rfl rfl, wt_of 14 rfl rfl, ⟨by decide +kernel, by decide +kernel⟩, by decide +kernel, by decide⟩
abbrev mX11_check : MI := (yX11_check, cX11_check, 4, none)
set_option maxRecDepth 100000 in
theorem meX11_check : Me mX11_check 0 := ⟨wt_of 1475 rfl rfl, wt_of 14 rfl rfl, ⟨by decide +kernel, by decide +kernel⟩, by decide +kernel, by decide⟩
abbrev mX11_comesOut : MI := (yX11_comesOut, cX11_comesOut, 15, (some (.boolean)))
set_option maxRecDepth 100000 in
theorem meX11_comesOut : Me mX11_comesOut 1 := ⟨wt_of 1523 rfl rfl, wt_of 14 rfl rfl, ⟨by decide +kernel, by decide +kernel⟩, by decide +kernel, by decide⟩
abbrev mX11_compared : MI := (yX11_compared, cX11_compared, 2, none)
set_option maxRecDepth 100000 in
theorem meX11_compared : Me mX11_compared 0 := ⟨wt_of 1439 rfl rfl, wt_of 14 rfl rfl, ⟨by decide +kernel, by decide +kernel⟩, by decide +kernel, by decide⟩
abbrev mX11_constOf : MI := (yX11_constOf, cX11_constOf, 8, (some (.int)))
set_option maxRecDepth 100000 in
theorem meX11_constOf : Me mX11_constOf 2 := ⟨wt_of 1527 rfl rfl, wt_of 14 rfl rfl, ⟨by decide +kernel, by decide +kernel⟩, by decide +kernel, by decide⟩
abbrev mX11_constant : MI := (yX11_constant, cX11_constant, 4, (some (.long)))
set_option maxRecDepth 100000 in
theorem meX11_constant : Me mX11_constant 2 := ⟨wt_of 1511 rfl rfl, wt_of 14 rfl rfl, ⟨by decide +kernel, by decide +kernel⟩, by decide +kernel, by decide⟩
abbrev mX11_copies : MI := (yX11_copies, cX11_copies, 4, none)
set_option maxRecDepth 100000 in
theorem meX11_copies : Me mX11_copies 1 := ⟨wt_of 1499 rfl rfl, wt_of 14 rfl rfl, ⟨by decide +kernel, by decide +kernel⟩, by decide +kernel, by decide⟩
abbrev mX11_count : MI := (yX11_count, cX11_count, 2, (some (.int)))
set_option maxRecDepth 100000 in
theorem meX11_count : Me mX11_count 1 := ⟨wt_of 1601 rfl rfl, wt_of 14 rfl rfl, ⟨by decide +kernel, by decide +kernel⟩, by decide +kernel, by decide⟩
abbrev mX11_does : MI := (yX11_does, cX11_does, 8, (some (.int)))
set_option maxRecDepth 100000 in
theorem meX11_does : Me mX11_does 1 := ⟨wt_of 1548 rfl rfl, wt_of 14 rfl rfl, ⟨by decide +kernel, by decide +kernel⟩, by decide +kernel, by decide⟩
abbrev mX11_emit : MI := (yX11_emit, cX11_emit, 5, none)
set_option maxRecDepth 100000 in
theorem meX11_emit : Me mX11_emit 3 := ⟨wt_of 1423 rfl rfl, wt_of 14 rfl rfl, ⟨by decide +kernel, by decide +kernel⟩, by decide +kernel, by decide⟩
abbrev mX11_end : MI := (yX11_end, cX11_end, 2, (some (.int)))
set_option maxRecDepth 100000 in
theorem meX11_end : Me mX11_end 1 := ⟨wt_of 1335 rfl rfl, wt_of 14 rfl rfl, ⟨by decide +kernel, by decide +kernel⟩, by decide +kernel, by decide⟩
abbrev mX11_entry : MI := (yX11_entry, cX11_entry, 5, (some (.long)))
set_option maxRecDepth 100000 in
theorem meX11_entry : Me mX11_entry 3 := ⟨wt_of 1536 rfl rfl, wt_of 14 rfl rfl, ⟨by decide +kernel, by decide +kernel⟩, by decide +kernel, by decide⟩
abbrev mX11_fault : MI := (yX11_fault, cX11_fault, 2, (some (.int)))
set_option maxRecDepth 100000 in
theorem meX11_fault : Me mX11_fault 1 := ⟨wt_of 1487 rfl rfl, wt_of 14 rfl rfl, ⟨by decide +kernel, by decide +kernel⟩, by decide +kernel, by decide⟩
abbrev mX11_feed : MI := (yX11_feed, cX11_feed, 8, (some (.int)))
set_option maxRecDepth 100000 in
theorem meX11_feed : Me mX11_feed 5 := ⟨wt_of 1331 rfl rfl, wt_of 14 rfl rfl, ⟨by decide +kernel, by decide +kernel⟩, by decide +kernel, by decide⟩
abbrev mX11_forget : MI := (yX11_forget, cX11_forget, 2, (some (.boolean)))
set_option maxRecDepth 100000 in
theorem meX11_forget : Me mX11_forget 1 := ⟨wt_of 1491 rfl rfl, wt_of 14 rfl rfl, ⟨by decide +kernel, by decide +kernel⟩, by decide +kernel, by decide⟩
abbrev mX11_formula : MI := (yX11_formula, cX11_formula, 3, none)
set_option maxRecDepth 100000 in
theorem meX11_formula : Me mX11_formula 0 := ⟨wt_of 1435 rfl rfl, wt_of 14 rfl rfl, ⟨by decide +kernel, by decide +kernel⟩, by decide +kernel, by decide⟩
abbrev mX11_init : MI := (yX11_init, cX11_init, 1, none)
set_option maxRecDepth 100000 in
theorem meX11_init : Me mX11_init 0 := ⟨wt_of 1063 rfl rfl, wt_of 14 rfl rfl, ⟨by decide +kernel, by decide +kernel⟩, by decide +kernel, by decide⟩
abbrev mX11_isDigit : MI := (yX11_isDigit, cX11_isDigit, 1, (some (.boolean)))
set_option maxRecDepth 100000 in
theorem meX11_isDigit : Me mX11_isDigit 1 := ⟨wt_of 1360 rfl rfl, wt_of 14 rfl rfl, ⟨by decide +kernel, by decide +kernel⟩, by decide +kernel, by decide⟩
abbrev mX11_isIn : MI := (yX11_isIn, cX11_isIn, 2, (some (.boolean)))
set_option maxRecDepth 100000 in
theorem meX11_isIn : Me mX11_isIn 2 := ⟨wt_of 1514 rfl rfl, wt_of 14 rfl rfl, ⟨by decide +kernel, by decide +kernel⟩, by decide +kernel, by decide⟩
abbrev mX11_isLetter : MI := (yX11_isLetter, cX11_isLetter, 1, (some (.boolean)))
set_option maxRecDepth 100000 in
theorem meX11_isLetter : Me mX11_isLetter 1 := ⟨wt_of 1357 rfl rfl, wt_of 14 rfl rfl, ⟨by decide +kernel, by decide +kernel⟩, by decide +kernel, by decide⟩
abbrev mX11_isSign : MI := (yX11_isSign, cX11_isSign, 2, (some (.boolean)))
set_option maxRecDepth 100000 in
theorem meX11_isSign : Me mX11_isSign 1 := ⟨wt_of 1391 rfl rfl, wt_of 14 rfl rfl, ⟨by decide +kernel, by decide +kernel⟩, by decide +kernel, by decide⟩
abbrev mX11_isSignByte : MI := (yX11_isSignByte, cX11_isSignByte, 1, (some (.boolean)))
set_option maxRecDepth 100000 in
theorem meX11_isSignByte : Me mX11_isSignByte 1 := ⟨wt_of 1363 rfl rfl, wt_of 14 rfl rfl, ⟨by decide +kernel, by decide +kernel⟩, by decide +kernel, by decide⟩
abbrev mX11_isSmall : MI := (yX11_isSmall, cX11_isSmall, 2, (some (.boolean)))
set_option maxRecDepth 100000 in
theorem meX11_isSmall : Me mX11_isSmall 1 := ⟨wt_of 1531 rfl rfl, wt_of 14 rfl rfl, ⟨by decide +kernel, by decide +kernel⟩, by decide +kernel, by decide⟩
abbrev mX11_isTaken : MI := (yX11_isTaken, cX11_isTaken, 5, (some (.boolean)))
set_option maxRecDepth 100000 in
theorem meX11_isTaken : Me mX11_isTaken 1 := ⟨wt_of 1403 rfl rfl, wt_of 14 rfl rfl, ⟨by decide +kernel, by decide +kernel⟩, by decide +kernel, by decide⟩
abbrev mX11_isWord : MI := (yX11_isWord, cX11_isWord, 2, (some (.boolean)))
set_option maxRecDepth 100000 in
theorem meX11_isWord : Me mX11_isWord 1 := ⟨wt_of 1367 rfl rfl, wt_of 14 rfl rfl, ⟨by decide +kernel, by decide +kernel⟩, by decide +kernel, by decide⟩
abbrev mX11_isYear : MI := (yX11_isYear, cX11_isYear, 1, (some (.boolean)))
set_option maxRecDepth 100000 in
theorem meX11_isYear : Me mX11_isYear 1 := ⟨wt_of 1342 rfl rfl, wt_of 14 rfl rfl, ⟨by decide +kernel, by decide +kernel⟩, by decide +kernel, by decide⟩
abbrev mX11_issue : MI := (yX11_issue, cX11_issue, 5, (some (.int)))
set_option maxRecDepth 100000 in
theorem meX11_issue : Me mX11_issue 0 := ⟨wt_of 1495 rfl rfl, wt_of 14 rfl rfl, ⟨by decide +kernel, by decide +kernel⟩, by decide +kernel, by decide⟩
abbrev mX11_keeps : MI := (yX11_keeps, cX11_keeps, 3, none)
set_option maxRecDepth 100000 in
theorem meX11_keeps : Me mX11_keeps 1 := ⟨wt_of 1483 rfl rfl, wt_of 14 rfl rfl, ⟨by decide +kernel, by decide +kernel⟩, by decide +kernel, by decide⟩
abbrev mX11_leans : MI := (yX11_leans, cX11_leans, 3, (some (.boolean)))
set_option maxRecDepth 100000 in
theorem meX11_leans : Me mX11_leans 2 := ⟨wt_of 1507 rfl rfl, wt_of 14 rfl rfl, ⟨by decide +kernel, by decide +kernel⟩, by decide +kernel, by decide⟩
abbrev mX11_line : MI := (yX11_line, cX11_line, 3, (some (.long)))
set_option maxRecDepth 100000 in
theorem meX11_line : Me mX11_line 2 := ⟨wt_of 1597 rfl rfl, wt_of 14 rfl rfl, ⟨by decide +kernel, by decide +kernel⟩, by decide +kernel, by decide⟩
abbrev mX11_lined : MI := (yX11_lined, cX11_lined, 6, (some (.int)))
set_option maxRecDepth 100000 in
theorem meX11_lined : Me mX11_lined 1 := ⟨wt_of 1593 rfl rfl, wt_of 14 rfl rfl, ⟨by decide +kernel, by decide +kernel⟩, by decide +kernel, by decide⟩
abbrev mX11_lock : MI := (yX11_lock, cX11_lock, 6, (some (.int)))
set_option maxRecDepth 100000 in
theorem meX11_lock : Me mX11_lock 4 := ⟨wt_of 1585 rfl rfl, wt_of 14 rfl rfl, ⟨by decide +kernel, by decide +kernel⟩, by decide +kernel, by decide⟩
abbrev mX11_looks : MI := (yX11_looks, cX11_looks, 10, (some (.int)))
set_option maxRecDepth 100000 in
theorem meX11_looks : Me mX11_looks 4 := ⟨wt_of 1564 rfl rfl, wt_of 14 rfl rfl, ⟨by decide +kernel, by decide +kernel⟩, by decide +kernel, by decide⟩
abbrev mX11_mark : MI := (yX11_mark, cX11_mark, 4, none)
set_option maxRecDepth 100000 in
theorem meX11_mark : Me mX11_mark 3 := ⟨wt_of 1471 rfl rfl, wt_of 14 rfl rfl, ⟨by decide +kernel, by decide +kernel⟩, by decide +kernel, by decide⟩
abbrev mX11_must : MI := (yX11_must, cX11_must, 2, none)
set_option maxRecDepth 100000 in
theorem meX11_must : Me mX11_must 1 := ⟨wt_of 1387 rfl rfl, wt_of 14 rfl rfl, ⟨by decide +kernel, by decide +kernel⟩, by decide +kernel, by decide⟩
abbrev mX11_named : MI := (yX11_named, cX11_named, 7, (some (.long)))
set_option maxRecDepth 100000 in
theorem meX11_named : Me mX11_named 5 := ⟨wt_of 1067 rfl rfl, wt_of 14 rfl rfl, ⟨by decide +kernel, by decide +kernel⟩, by decide +kernel, by decide⟩
abbrev mX11_need : MI := (yX11_need, cX11_need, 2, (some (.int)))
set_option maxRecDepth 100000 in
theorem meX11_need : Me mX11_need 1 := ⟨wt_of 1540 rfl rfl, wt_of 14 rfl rfl, ⟨by decide +kernel, by decide +kernel⟩, by decide +kernel, by decide⟩
abbrev mX11_needs : MI := (yX11_needs, cX11_needs, 3, (some (.int)))
set_option maxRecDepth 100000 in
theorem meX11_needs : Me mX11_needs 1 := ⟨wt_of 1544 rfl rfl, wt_of 14 rfl rfl, ⟨by decide +kernel, by decide +kernel⟩, by decide +kernel, by decide⟩
abbrev mX11_plainPart : MI := (yX11_plainPart, cX11_plainPart, 4, none)
set_option maxRecDepth 100000 in
theorem meX11_plainPart : Me mX11_plainPart 0 := ⟨wt_of 1415 rfl rfl, wt_of 14 rfl rfl, ⟨by decide +kernel, by decide +kernel⟩, by decide +kernel, by decide⟩
abbrev mX11_plainProduct : MI := (yX11_plainProduct, cX11_plainProduct, 1, none)
set_option maxRecDepth 100000 in
theorem meX11_plainProduct : Me mX11_plainProduct 0 := ⟨wt_of 1411 rfl rfl, wt_of 14 rfl rfl, ⟨by decide +kernel, by decide +kernel⟩, by decide +kernel, by decide⟩
abbrev mX11_plainSum : MI := (yX11_plainSum, cX11_plainSum, 2, none)
set_option maxRecDepth 100000 in
theorem meX11_plainSum : Me mX11_plainSum 0 := ⟨wt_of 1407 rfl rfl, wt_of 14 rfl rfl, ⟨by decide +kernel, by decide +kernel⟩, by decide +kernel, by decide⟩
abbrev mX11_product : MI := (yX11_product, cX11_product, 2, none)
set_option maxRecDepth 100000 in
theorem meX11_product : Me mX11_product 0 := ⟨wt_of 1447 rfl rfl, wt_of 14 rfl rfl, ⟨by decide +kernel, by decide +kernel⟩, by decide +kernel, by decide⟩
abbrev mX11_reads : MI := (yX11_reads, cX11_reads, 3, none)
set_option maxRecDepth 100000 in
theorem meX11_reads : Me mX11_reads 0 := ⟨wt_of 1346 rfl rfl, wt_of 14 rfl rfl, ⟨by decide +kernel, by decide +kernel⟩, by decide +kernel, by decide⟩
abbrev mX11_rule : MI := (yX11_rule, cX11_rule, 2, none)
set_option maxRecDepth 100000 in
theorem meX11_rule : Me mX11_rule 0 := ⟨wt_of 1427 rfl rfl, wt_of 14 rfl rfl, ⟨by decide +kernel, by decide +kernel⟩, by decide +kernel, by decide⟩
abbrev mX11_sheet : MI := (yX11_sheet, cX11_sheet, 2, (some (.int)))
set_option maxRecDepth 100000 in
theorem meX11_sheet : Me mX11_sheet 1 := ⟨wt_of 1339 rfl rfl, wt_of 14 rfl rfl, ⟨by decide +kernel, by decide +kernel⟩, by decide +kernel, by decide⟩
abbrev mX11_signed : MI := (yX11_signed, cX11_signed, 2, none)
set_option maxRecDepth 100000 in
theorem meX11_signed : Me mX11_signed 0 := ⟨wt_of 1451 rfl rfl, wt_of 14 rfl rfl, ⟨by decide +kernel, by decide +kernel⟩, by decide +kernel, by decide⟩
abbrev mX11_started : MI := (yX11_started, cX11_started, 2, (some (.int)))
set_option maxRecDepth 100000 in
theorem meX11_started : Me mX11_started 1 := ⟨wt_of 1576 rfl rfl, wt_of 14 rfl rfl, ⟨by decide +kernel, by decide +kernel⟩, by decide +kernel, by decide⟩
abbrev mX11_state : MI := (yX11_state, cX11_state, 4, (some (.int)))
set_option maxRecDepth 100000 in
theorem meX11_state : Me mX11_state 2 := ⟨wt_of 1503 rfl rfl, wt_of 14 rfl rfl, ⟨by decide +kernel, by decide +kernel⟩, by decide +kernel, by decide⟩
abbrev mX11_step : MI := (yX11_step, cX11_step, 3, none)
set_option maxRecDepth 100000 in
theorem meX11_step : Me mX11_step 0 := ⟨wt_of 1463 rfl rfl, wt_of 14 rfl rfl, ⟨by decide +kernel, by decide +kernel⟩, by decide +kernel, by decide⟩
abbrev mX11_stops : MI := (yX11_stops, cX11_stops, 1, none)
set_option maxRecDepth 100000 in
theorem meX11_stops : Me mX11_stops 0 := ⟨wt_of 1375 rfl rfl, wt_of 14 rfl rfl, ⟨by decide +kernel, by decide +kernel⟩, by decide +kernel, by decide⟩
abbrev mX11_sum : MI := (yX11_sum, cX11_sum, 2, none)
set_option maxRecDepth 100000 in
theorem meX11_sum : Me mX11_sum 0 := ⟨wt_of 1443 rfl rfl, wt_of 14 rfl rfl, ⟨by decide +kernel, by decide +kernel⟩, by decide +kernel, by decide⟩
abbrev mX11_table : MI := (yX11_table, cX11_table, 6, none)
set_option maxRecDepth 100000 in
theorem meX11_table : Me mX11_table 0 := ⟨wt_of 1467 rfl rfl, wt_of 14 rfl rfl, ⟨by decide +kernel, by decide +kernel⟩, by decide +kernel, by decide⟩
abbrev mX11_tableOf : MI := (yX11_tableOf, cX11_tableOf, 8, (some (.int)))
set_option maxRecDepth 100000 in
theorem meX11_tableOf : Me mX11_tableOf 2 := ⟨wt_of 1568 rfl rfl, wt_of 14 rfl rfl, ⟨by decide +kernel, by decide +kernel⟩, by decide +kernel, by decide⟩
abbrev mX11_takes : MI := (yX11_takes, cX11_takes, 2, (some (.boolean)))
set_option maxRecDepth 100000 in
theorem meX11_takes : Me mX11_takes 1 := ⟨wt_of 1419 rfl rfl, wt_of 14 rfl rfl, ⟨by decide +kernel, by decide +kernel⟩, by decide +kernel, by decide⟩
abbrev mX11_takesName : MI := (yX11_takesName, cX11_takesName, 3, (some (.long)))
set_option maxRecDepth 100000 in
theorem meX11_takesName : Me mX11_takesName 0 := ⟨wt_of 1399 rfl rfl, wt_of 14 rfl rfl, ⟨by decide +kernel, by decide +kernel⟩, by decide +kernel, by decide⟩
abbrev mX11_takesNumber : MI := (yX11_takesNumber, cX11_takesNumber, 2, (some (.int)))
set_option maxRecDepth 100000 in
theorem meX11_takesNumber : Me mX11_takesNumber 0 := ⟨wt_of 1371 rfl rfl, wt_of 14 rfl rfl, ⟨by decide +kernel, by decide +kernel⟩, by decide +kernel, by decide⟩
abbrev mX11_tells : MI := (yX11_tells, cX11_tells, 3, none)
set_option maxRecDepth 100000 in
theorem meX11_tells : Me mX11_tells 2 := ⟨wt_of 1383 rfl rfl, wt_of 14 rfl rfl, ⟨by decide +kernel, by decide +kernel⟩, by decide +kernel, by decide⟩
abbrev mX11_told : MI := (yX11_told, cX11_told, 3, (some (.long)))
set_option maxRecDepth 100000 in
theorem meX11_told : Me mX11_told 2 := ⟨wt_of 1560 rfl rfl, wt_of 14 rfl rfl, ⟨by decide +kernel, by decide +kernel⟩, by decide +kernel, by decide⟩
abbrev mX11_voyage : MI := (yX11_voyage, cX11_voyage, 3, (some (.int)))
set_option maxRecDepth 100000 in
theorem meX11_voyage : Me mX11_voyage 2 := ⟨wt_of 1580 rfl rfl, wt_of 14 rfl rfl, ⟨by decide +kernel, by decide +kernel⟩, by decide +kernel, by decide⟩
abbrev mX11_whole : MI := (yX11_whole, cX11_whole, 1, none)
set_option maxRecDepth 100000 in
theorem meX11_whole : Me mX11_whole 0 := ⟨wt_of 1431 rfl rfl, wt_of 14 rfl rfl, ⟨by decide +kernel, by decide +kernel⟩, by decide +kernel, by decide⟩
abbrev mX11_works : MI := (yX11_works, cX11_works, 14, (some (.int)))
set_option maxRecDepth 100000 in
theorem meX11_works : Me mX11_works 3 := ⟨wt_of 1556 rfl rfl, wt_of 14 rfl rfl, ⟨by decide +kernel, by decide +kernel⟩, by decide +kernel, by decide⟩
abbrev mX11_worksConstants : MI := (yX11_worksConstants, cX11_worksConstants, 4, none)
set_option maxRecDepth 100000 in
theorem meX11_worksConstants : Me mX11_worksConstants 0 := ⟨wt_of 1519 rfl rfl, wt_of 14 rfl rfl, ⟨by decide +kernel, by decide +kernel⟩, by decide +kernel, by decide⟩
abbrev mX11_yearOf : MI := (yX11_yearOf, cX11_yearOf, 3, (some (.int)))
set_option maxRecDepth 100000 in
theorem meX11_yearOf : Me mX11_yearOf 2 := ⟨wt_of 1379 rfl rfl, wt_of 14 rfl rfl, ⟨by decide +kernel, by decide +kernel⟩, by decide +kernel, by decide⟩
abbrev mX1_change : MI := (yX1_change, cX1_change, 3, none)
set_option maxRecDepth 100000 in
theorem meX1_change : Me mX1_change 2 := ⟨wt_of 782 rfl rfl, wt_of 9 rfl rfl, ⟨by decide +kernel, by decide +kernel⟩, by decide +kernel, by decide⟩
abbrev mX1_find : MI := (yX1_find, cX1_find, 10, (some (.int)))
set_option maxRecDepth 100000 in
theorem meX1_find : Me mX1_find 2 := ⟨wt_of 841 rfl rfl, wt_of 9 rfl rfl, ⟨by decide +kernel, by decide +kernel⟩, by decide +kernel, by decide⟩
abbrev mX1_init : MI := (yX1_init, cX1_init, 2, none)
set_option maxRecDepth 100000 in
theorem meX1_init : Me mX1_init 0 := ⟨wt_of 241 rfl rfl, wt_of 9 rfl rfl, ⟨by decide +kernel, by decide +kernel⟩, by decide +kernel, by decide⟩
abbrev mX1_renew : MI := (yX1_renew, cX1_renew, 4, (some (.int)))
set_option maxRecDepth 100000 in
theorem meX1_renew : Me mX1_renew 0 := ⟨wt_of 798 rfl rfl, wt_of 9 rfl rfl, ⟨by decide +kernel, by decide +kernel⟩, by decide +kernel, by decide⟩
abbrev mX1_touchedYears : MI := (yX1_touchedYears, cX1_touchedYears, 5, (some (.int)))
set_option maxRecDepth 100000 in
theorem meX1_touchedYears : Me mX1_touchedYears 0 := ⟨wt_of 802 rfl rfl, wt_of 9 rfl rfl, ⟨by decide +kernel, by decide +kernel⟩, by decide +kernel, by decide⟩
abbrev mX2_init : MI := (yX2_init, cX2_init, 1, none)
set_option maxRecDepth 100000 in
theorem meX2_init : Me mX2_init 0 := ⟨wt_of 343 rfl rfl, wt_of 13 rfl rfl, ⟨by decide +kernel, by decide +kernel⟩, by decide +kernel, by decide⟩
abbrev mX3_advance : MI := (yX3_advance, cX3_advance, 5, (some (.int)))
set_option maxRecDepth 100000 in
theorem meX3_advance : Me mX3_advance 1 := ⟨wt_of 924 rfl rfl, wt_of 12 rfl rfl, ⟨by decide +kernel, by decide +kernel⟩, by decide +kernel, by decide⟩
abbrev mX3_calculate : MI := (yX3_calculate, cX3_calculate, 6, (some (.int)))
set_option maxRecDepth 100000 in
theorem meX3_calculate : Me mX3_calculate 1 := ⟨wt_of 960 rfl rfl, wt_of 12 rfl rfl, ⟨by decide +kernel, by decide +kernel⟩, by decide +kernel, by decide⟩
abbrev mX3_charge : MI := (yX3_charge, cX3_charge, 6, (some (.int)))
set_option maxRecDepth 100000 in
theorem meX3_charge : Me mX3_charge 1 := ⟨wt_of 1041 rfl rfl, wt_of 12 rfl rfl, ⟨by decide +kernel, by decide +kernel⟩, by decide +kernel, by decide⟩
abbrev mX3_demand : MI := (yX3_demand, cX3_demand, 3, (some (.int)))
set_option maxRecDepth 100000 in
theorem meX3_demand : Me mX3_demand 1 := ⟨wt_of 911 rfl rfl, wt_of 12 rfl rfl, ⟨by decide +kernel, by decide +kernel⟩, by decide +kernel, by decide⟩
abbrev mX3_finish : MI := (yX3_finish, cX3_finish, 2, (some (.int)))
set_option maxRecDepth 100000 in
theorem meX3_finish : Me mX3_finish 1 := ⟨wt_of 928 rfl rfl, wt_of 12 rfl rfl, ⟨by decide +kernel, by decide +kernel⟩, by decide +kernel, by decide⟩
abbrev mX3_init : MI := (yX3_init, cX3_init, 3, none)
set_option maxRecDepth 100000 in
theorem meX3_init : Me mX3_init 1 := ⟨wt_of 336 rfl rfl, wt_of 12 rfl rfl, ⟨by decide +kernel, by decide +kernel⟩, by decide +kernel, by decide⟩
abbrev mX3_open : MI := (yX3_open, cX3_open, 6, none)
set_option maxRecDepth 100000 in
theorem meX3_open : Me mX3_open 4 := ⟨wt_of 915 rfl rfl, wt_of 12 rfl rfl, ⟨by decide +kernel, by decide +kernel⟩, by decide +kernel, by decide⟩
abbrev mX3_pop : MI := (yX3_pop, cX3_pop, 1, (some (.long)))
set_option maxRecDepth 100000 in
theorem meX3_pop : Me mX3_pop 0 := ⟨wt_of 951 rfl rfl, wt_of 12 rfl rfl, ⟨by decide +kernel, by decide +kernel⟩, by decide +kernel, by decide⟩
abbrev mX3_prepare : MI := (yX3_prepare, cX3_prepare, 3, none)
set_option maxRecDepth 100000 in
theorem meX3_prepare : Me mX3_prepare 2 := ⟨wt_of 1046 rfl rfl, wt_of 12 rfl rfl, ⟨by decide +kernel, by decide +kernel⟩, by decide +kernel, by decide⟩
abbrev mX3_push : MI := (yX3_push, cX3_push, 3, (some (.int)))
set_option maxRecDepth 100000 in
theorem meX3_push : Me mX3_push 1 := ⟨wt_of 932 rfl rfl, wt_of 12 rfl rfl, ⟨by decide +kernel, by decide +kernel⟩, by decide +kernel, by decide⟩
abbrev mX3_pushEntry : MI := (yX3_pushEntry, cX3_pushEntry, 6, (some (.int)))
set_option maxRecDepth 100000 in
theorem meX3_pushEntry : Me mX3_pushEntry 3 := ⟨wt_of 947 rfl rfl, wt_of 12 rfl rfl, ⟨by decide +kernel, by decide +kernel⟩, by decide +kernel, by decide⟩
abbrev mX3_readConst : MI := (yX3_readConst, cX3_readConst, 6, (some (.int)))
set_option maxRecDepth 100000 in
theorem meX3_readConst : Me mX3_readConst 1 := ⟨wt_of 936 rfl rfl, wt_of 12 rfl rfl, ⟨by decide +kernel, by decide +kernel⟩, by decide +kernel, by decide⟩
abbrev mX3_readEntry : MI := (yX3_readEntry, cX3_readEntry, 8, (some (.int)))
set_option maxRecDepth 100000 in
theorem meX3_readEntry : Me mX3_readEntry 2 := ⟨wt_of 943 rfl rfl, wt_of 12 rfl rfl, ⟨by decide +kernel, by decide +kernel⟩, by decide +kernel, by decide⟩
abbrev mX3_run : MI := (yX3_run, cX3_run, 5, (some (.int)))
set_option maxRecDepth 100000 in
theorem meX3_run : Me mX3_run 0 := ⟨wt_of 919 rfl rfl, wt_of 12 rfl rfl, ⟨by decide +kernel, by decide +kernel⟩, by decide +kernel, by decide⟩
abbrev mX3_storeEntry : MI := (yX3_storeEntry, cX3_storeEntry, 7, (some (.int)))
set_option maxRecDepth 100000 in
theorem meX3_storeEntry : Me mX3_storeEntry 2 := ⟨wt_of 956 rfl rfl, wt_of 12 rfl rfl, ⟨by decide +kernel, by decide +kernel⟩, by decide +kernel, by decide⟩
abbrev mX3_summon : MI := (yX3_summon, cX3_summon, 3, (some (.int)))
set_option maxRecDepth 100000 in
theorem meX3_summon : Me mX3_summon 1 := ⟨wt_of 907 rfl rfl, wt_of 12 rfl rfl, ⟨by decide +kernel, by decide +kernel⟩, by decide +kernel, by decide⟩
abbrev mX3_unwind : MI := (yX3_unwind, cX3_unwind, 5, (some (.int)))
set_option maxRecDepth 100000 in
theorem meX3_unwind : Me mX3_unwind 1 := ⟨wt_of 964 rfl rfl, wt_of 12 rfl rfl, ⟨by decide +kernel, by decide +kernel⟩, by decide +kernel, by decide⟩
abbrev mX3_workRule : MI := (yX3_workRule, cX3_workRule, 4, (some (.int)))
set_option maxRecDepth 100000 in
theorem meX3_workRule : Me mX3_workRule 1 := ⟨wt_of 1050 rfl rfl, wt_of 12 rfl rfl, ⟨by decide +kernel, by decide +kernel⟩, by decide +kernel, by decide⟩
abbrev mX4_comparison : MI := (yX4_comparison, cX4_comparison, 1, (some (.int)))
set_option maxRecDepth 100000 in
theorem meX4_comparison : Me mX4_comparison 1 := ⟨wt_of 657 rfl rfl, wt_of 7 rfl rfl, ⟨by decide +kernel, by decide +kernel⟩, by decide +kernel, by decide⟩
abbrev mX4_content : MI := (yX4_content, cX4_content, 1, (some (.long)))
set_option maxRecDepth 100000 in
theorem meX4_content : Me mX4_content 0 := ⟨wt_of 556 rfl rfl, wt_of 7 rfl rfl, ⟨by decide +kernel, by decide +kernel⟩, by decide +kernel, by decide⟩
abbrev mX4_factor : MI := (yX4_factor, cX4_factor, 1, (some (.int)))
set_option maxRecDepth 100000 in
theorem meX4_factor : Me mX4_factor 1 := ⟨wt_of 654 rfl rfl, wt_of 7 rfl rfl, ⟨by decide +kernel, by decide +kernel⟩, by decide +kernel, by decide⟩
abbrev mX4_init : MI := (yX4_init, cX4_init, 2, none)
set_option maxRecDepth 100000 in
theorem meX4_init : Me mX4_init 1 := ⟨wt_of 126 rfl rfl, wt_of 7 rfl rfl, ⟨by decide +kernel, by decide +kernel⟩, by decide +kernel, by decide⟩
abbrev mX4_kind : MI := (yX4_kind, cX4_kind, 1, (some (.int)))
set_option maxRecDepth 100000 in
theorem meX4_kind : Me mX4_kind 0 := ⟨wt_of 548 rfl rfl, wt_of 7 rfl rfl, ⟨by decide +kernel, by decide +kernel⟩, by decide +kernel, by decide⟩
abbrev mX4_leanOn : MI := (yX4_leanOn, cX4_leanOn, 5, (some (.int)))
set_option maxRecDepth 100000 in
theorem meX4_leanOn : Me mX4_leanOn 2 := ⟨wt_of 568 rfl rfl, wt_of 7 rfl rfl, ⟨by decide +kernel, by decide +kernel⟩, by decide +kernel, by decide⟩
abbrev mX4_note : MI := (yX4_note, cX4_note, 3, none)
set_option maxRecDepth 100000 in
theorem meX4_note : Me mX4_note 2 := ⟨wt_of 573 rfl rfl, wt_of 7 rfl rfl, ⟨by decide +kernel, by decide +kernel⟩, by decide +kernel, by decide⟩
abbrev mX4_place : MI := (yX4_place, cX4_place, 1, (some (.int)))
set_option maxRecDepth 100000 in
theorem meX4_place : Me mX4_place 0 := ⟨wt_of 552 rfl rfl, wt_of 7 rfl rfl, ⟨by decide +kernel, by decide +kernel⟩, by decide +kernel, by decide⟩
abbrev mX4_read : MI := (yX4_read, cX4_read, 3, (some (.object "TollAlmanac$Sheet")))
set_option maxRecDepth 100000 in
theorem meX4_read : Me mX4_read 1 := ⟨wt_of 448 rfl rfl, wt_of 7 rfl rfl, ⟨by decide +kernel, by decide +kernel⟩, by decide +kernel, by decide⟩
abbrev mX4_readCheck : MI := (yX4_readCheck, cX4_readCheck, 3, none)
set_option maxRecDepth 100000 in
theorem meX4_readCheck : Me mX4_readCheck 0 := ⟨wt_of 678 rfl rfl, wt_of 7 rfl rfl, ⟨by decide +kernel, by decide +kernel⟩, by decide +kernel, by decide⟩
abbrev mX4_readChoice : MI := (yX4_readChoice, cX4_readChoice, 5, none)
set_option maxRecDepth 100000 in
theorem meX4_readChoice : Me mX4_readChoice 1 := ⟨wt_of 631 rfl rfl, wt_of 7 rfl rfl, ⟨by decide +kernel, by decide +kernel⟩, by decide +kernel, by decide⟩
abbrev mX4_readConst : MI := (yX4_readConst, cX4_readConst, 4, none)
set_option maxRecDepth 100000 in
theorem meX4_readConst : Me mX4_readConst 0 := ⟨wt_of 581 rfl rfl, wt_of 7 rfl rfl, ⟨by decide +kernel, by decide +kernel⟩, by decide +kernel, by decide⟩
abbrev mX4_readConstName : MI := (yX4_readConstName, cX4_readConstName, 4, none)
set_option maxRecDepth 100000 in
theorem meX4_readConstName : Me mX4_readConstName 1 := ⟨wt_of 614 rfl rfl, wt_of 7 rfl rfl, ⟨by decide +kernel, by decide +kernel⟩, by decide +kernel, by decide⟩
abbrev mX4_readConstantOperand : MI := (yX4_readConstantOperand, cX4_readConstantOperand, 3, none)
set_option maxRecDepth 100000 in
theorem meX4_readConstantOperand : Me mX4_readConstantOperand 0 := ⟨wt_of 602 rfl rfl, wt_of 7 rfl rfl, ⟨by decide +kernel, by decide +kernel⟩, by decide +kernel, by decide⟩
abbrev mX4_readConstantSum : MI := (yX4_readConstantSum, cX4_readConstantSum, 4, none)
set_option maxRecDepth 100000 in
theorem meX4_readConstantSum : Me mX4_readConstantSum 0 := ⟨wt_of 598 rfl rfl, wt_of 7 rfl rfl, ⟨by decide +kernel, by decide +kernel⟩, by decide +kernel, by decide⟩
abbrev mX4_readNumberOrYear : MI := (yX4_readNumberOrYear, cX4_readNumberOrYear, 4, (some (.int)))
set_option maxRecDepth 100000 in
theorem meX4_readNumberOrYear : Me mX4_readNumberOrYear 0 := ⟨wt_of 610 rfl rfl, wt_of 7 rfl rfl, ⟨by decide +kernel, by decide +kernel⟩, by decide +kernel, by decide⟩
abbrev mX4_readOperand : MI := (yX4_readOperand, cX4_readOperand, 5, none)
set_option maxRecDepth 100000 in
theorem meX4_readOperand : Me mX4_readOperand 1 := ⟨wt_of 643 rfl rfl, wt_of 7 rfl rfl, ⟨by decide +kernel, by decide +kernel⟩, by decide +kernel, by decide⟩
abbrev mX4_readProduct : MI := (yX4_readProduct, cX4_readProduct, 4, none)
set_option maxRecDepth 100000 in
theorem meX4_readProduct : Me mX4_readProduct 1 := ⟨wt_of 639 rfl rfl, wt_of 7 rfl rfl, ⟨by decide +kernel, by decide +kernel⟩, by decide +kernel, by decide⟩
abbrev mX4_readReference : MI := (yX4_readReference, cX4_readReference, 5, none)
set_option maxRecDepth 100000 in
theorem meX4_readReference : Me mX4_readReference 2 := ⟨wt_of 647 rfl rfl, wt_of 7 rfl rfl, ⟨by decide +kernel, by decide +kernel⟩, by decide +kernel, by decide⟩
abbrev mX4_readRule : MI := (yX4_readRule, cX4_readRule, 2, none)
set_option maxRecDepth 100000 in
theorem meX4_readRule : Me mX4_readRule 0 := ⟨wt_of 627 rfl rfl, wt_of 7 rfl rfl, ⟨by decide +kernel, by decide +kernel⟩, by decide +kernel, by decide⟩
abbrev mX4_readSetting : MI := (yX4_readSetting, cX4_readSetting, 2, none)
set_option maxRecDepth 100000 in
theorem meX4_readSetting : Me mX4_readSetting 1 := ⟨wt_of 651 rfl rfl, wt_of 7 rfl rfl, ⟨by decide +kernel, by decide +kernel⟩, by decide +kernel, by decide⟩
abbrev mX4_readStep : MI := (yX4_readStep, cX4_readStep, 3, none)
set_option maxRecDepth 100000 in
theorem meX4_readStep : Me mX4_readStep 1 := ⟨wt_of 661 rfl rfl, wt_of 7 rfl rfl, ⟨by decide +kernel, by decide +kernel⟩, by decide +kernel, by decide⟩
abbrev mX4_readSteps : MI := (yX4_readSteps, cX4_readSteps, 3, none)
set_option maxRecDepth 100000 in
theorem meX4_readSteps : Me mX4_readSteps 1 := ⟨wt_of 690 rfl rfl, wt_of 7 rfl rfl, ⟨by decide +kernel, by decide +kernel⟩, by decide +kernel, by decide⟩
abbrev mX4_readSum : MI := (yX4_readSum, cX4_readSum, 4, none)
set_option maxRecDepth 100000 in
theorem meX4_readSum : Me mX4_readSum 1 := ⟨wt_of 635 rfl rfl, wt_of 7 rfl rfl, ⟨by decide +kernel, by decide +kernel⟩, by decide +kernel, by decide⟩
abbrev mX4_readTable : MI := (yX4_readTable, cX4_readTable, 7, none)
set_option maxRecDepth 100000 in
theorem meX4_readTable : Me mX4_readTable 0 := ⟨wt_of 665 rfl rfl, wt_of 7 rfl rfl, ⟨by decide +kernel, by decide +kernel⟩, by decide +kernel, by decide⟩
abbrev mX4_readTry : MI := (yX4_readTry, cX4_readTry, 4, none)
set_option maxRecDepth 100000 in
theorem meX4_readTry : Me mX4_readTry 1 := ⟨wt_of 682 rfl rfl, wt_of 7 rfl rfl, ⟨by decide +kernel, by decide +kernel⟩, by decide +kernel, by decide⟩
abbrev mX4_readUnder : MI := (yX4_readUnder, cX4_readUnder, 4, none)
set_option maxRecDepth 100000 in
theorem meX4_readUnder : Me mX4_readUnder 0 := ⟨wt_of 544 rfl rfl, wt_of 7 rfl rfl, ⟨by decide +kernel, by decide +kernel⟩, by decide +kernel, by decide⟩
abbrev mX4_reject : MI := (yX4_reject, cX4_reject, 1, none)
set_option maxRecDepth 100000 in
theorem meX4_reject : Me mX4_reject 0 := ⟨wt_of 564 rfl rfl, wt_of 7 rfl rfl, ⟨by decide +kernel, by decide +kernel⟩, by decide +kernel, by decide⟩
abbrev mX4_take : MI := (yX4_take, cX4_take, 2, (some (.boolean)))
set_option maxRecDepth 100000 in
theorem meX4_take : Me mX4_take 1 := ⟨wt_of 560 rfl rfl, wt_of 7 rfl rfl, ⟨by decide +kernel, by decide +kernel⟩, by decide +kernel, by decide⟩
abbrev mX4_takeMinus : MI := (yX4_takeMinus, cX4_takeMinus, 1, (some (.boolean)))
set_option maxRecDepth 100000 in
theorem meX4_takeMinus : Me mX4_takeMinus 0 := ⟨wt_of 606 rfl rfl, wt_of 7 rfl rfl, ⟨by decide +kernel, by decide +kernel⟩, by decide +kernel, by decide⟩
abbrev mX4_takeNewName : MI := (yX4_takeNewName, cX4_takeNewName, 4, (some (.long)))
set_option maxRecDepth 100000 in
theorem meX4_takeNewName : Me mX4_takeNewName 0 := ⟨wt_of 585 rfl rfl, wt_of 7 rfl rfl, ⟨by decide +kernel, by decide +kernel⟩, by decide +kernel, by decide⟩
abbrev mX4_takeNumber : MI := (yX4_takeNumber, cX4_takeNumber, 6, (some (.long)))
set_option maxRecDepth 100000 in
theorem meX4_takeNumber : Me mX4_takeNumber 2 := ⟨wt_of 669 rfl rfl, wt_of 7 rfl rfl, ⟨by decide +kernel, by decide +kernel⟩, by decide +kernel, by decide⟩
abbrev mX5_calculate : MI := (yX5_calculate, cX5_calculate, 8, (some (.int)))
set_option maxRecDepth 100000 in
theorem meX5_calculate : Me mX5_calculate 2 := ⟨wt_of 860 rfl rfl, wt_of 11 rfl rfl, ⟨by decide +kernel, by decide +kernel⟩, by decide +kernel, by decide⟩
abbrev mX5_evaluate : MI := (yX5_evaluate, cX5_evaluate, 6, (some (.int)))
set_option maxRecDepth 100000 in
theorem meX5_evaluate : Me mX5_evaluate 1 := ⟨wt_of 833 rfl rfl, wt_of 11 rfl rfl, ⟨by decide +kernel, by decide +kernel⟩, by decide +kernel, by decide⟩
abbrev mX5_init : MI := (yX5_init, cX5_init, 2, none)
set_option maxRecDepth 100000 in
theorem meX5_init : Me mX5_init 1 := ⟨wt_of 314 rfl rfl, wt_of 11 rfl rfl, ⟨by decide +kernel, by decide +kernel⟩, by decide +kernel, by decide⟩
abbrev mX5_loseOpen : MI := (yX5_loseOpen, cX5_loseOpen, 2, none)
set_option maxRecDepth 100000 in
theorem meX5_loseOpen : Me mX5_loseOpen 0 := ⟨wt_of 870 rfl rfl, wt_of 11 rfl rfl, ⟨by decide +kernel, by decide +kernel⟩, by decide +kernel, by decide⟩
abbrev mX5_mark : MI := (yX5_mark, cX5_mark, 3, none)
set_option maxRecDepth 100000 in
theorem meX5_mark : Me mX5_mark 2 := ⟨wt_of 828 rfl rfl, wt_of 11 rfl rfl, ⟨by decide +kernel, by decide +kernel⟩, by decide +kernel, by decide⟩
abbrev mX5_markOf : MI := (yX5_markOf, cX5_markOf, 2, (some (.int)))
set_option maxRecDepth 100000 in
theorem meX5_markOf : Me mX5_markOf 1 := ⟨wt_of 850 rfl rfl, wt_of 11 rfl rfl, ⟨by decide +kernel, by decide +kernel⟩, by decide +kernel, by decide⟩
abbrev mX5_productFits : MI := (yX5_productFits, cX5_productFits, 4, (some (.boolean)))
set_option maxRecDepth 100000 in
theorem meX5_productFits : Me mX5_productFits 2 := ⟨wt_of 863 rfl rfl, wt_of 11 rfl rfl, ⟨by decide +kernel, by decide +kernel⟩, by decide +kernel, by decide⟩
abbrev mX5_push : MI := (yX5_push, cX5_push, 2, none)
set_option maxRecDepth 100000 in
theorem meX5_push : Me mX5_push 1 := ⟨wt_of 824 rfl rfl, wt_of 11 rfl rfl, ⟨by decide +kernel, by decide +kernel⟩, by decide +kernel, by decide⟩
abbrev mX5_put : MI := (yX5_put, cX5_put, 3, (some (.int)))
set_option maxRecDepth 100000 in
theorem meX5_put : Me mX5_put 1 := ⟨wt_of 854 rfl rfl, wt_of 11 rfl rfl, ⟨by decide +kernel, by decide +kernel⟩, by decide +kernel, by decide⟩
abbrev mX5_refer : MI := (yX5_refer, cX5_refer, 4, (some (.int)))
set_option maxRecDepth 100000 in
theorem meX5_refer : Me mX5_refer 1 := ⟨wt_of 837 rfl rfl, wt_of 11 rfl rfl, ⟨by decide +kernel, by decide +kernel⟩, by decide +kernel, by decide⟩
abbrev mX5_settle : MI := (yX5_settle, cX5_settle, 5, none)
set_option maxRecDepth 100000 in
theorem meX5_settle : Me mX5_settle 1 := ⟨wt_of 820 rfl rfl, wt_of 11 rfl rfl, ⟨by decide +kernel, by decide +kernel⟩, by decide +kernel, by decide⟩
abbrev mX5_settleAll : MI := (yX5_settleAll, cX5_settleAll, 5, none)
set_option maxRecDepth 100000 in
theorem meX5_settleAll : Me mX5_settleAll 0 := ⟨wt_of 816 rfl rfl, wt_of 11 rfl rfl, ⟨by decide +kernel, by decide +kernel⟩, by decide +kernel, by decide⟩
abbrev mX6_catchAt : MI := (yX6_catchAt, cX6_catchAt, 3, (some (.int)))
set_option maxRecDepth 100000 in
theorem meX6_catchAt : Me mX6_catchAt 1 := ⟨wt_of 968 rfl rfl, wt_of 17 rfl rfl, ⟨by decide +kernel, by decide +kernel⟩, by decide +kernel, by decide⟩
abbrev mX6_indexOf : MI := (yX6_indexOf, cX6_indexOf, 6, (some (.int)))
set_option maxRecDepth 100000 in
theorem meX6_indexOf : Me mX6_indexOf 2 := ⟨wt_of 846 rfl rfl, wt_of 17 rfl rfl, ⟨by decide +kernel, by decide +kernel⟩, by decide +kernel, by decide⟩
abbrev mX6_init : MI := (yX6_init, cX6_init, 2, none)
set_option maxRecDepth 100000 in
theorem meX6_init : Me mX6_init 1 := ⟨wt_of 699 rfl rfl, wt_of 17 rfl rfl, ⟨by decide +kernel, by decide +kernel⟩, by decide +kernel, by decide⟩
abbrev mX7_add : MI := (yX7_add, cX7_add, 5, none)
set_option maxRecDepth 100000 in
theorem meX7_add : Me mX7_add 3 := ⟨wt_of 468 rfl rfl, wt_of 2 rfl rfl, ⟨by decide +kernel, by decide +kernel⟩, by decide +kernel, by decide⟩
abbrev mX7_addName : MI := (yX7_addName, cX7_addName, 6, none)
set_option maxRecDepth 100000 in
theorem meX7_addName : Me mX7_addName 2 := ⟨wt_of 464 rfl rfl, wt_of 2 rfl rfl, ⟨by decide +kernel, by decide +kernel⟩, by decide +kernel, by decide⟩
abbrev mX7_addNumber : MI := (yX7_addNumber, cX7_addNumber, 6, none)
set_option maxRecDepth 100000 in
theorem meX7_addNumber : Me mX7_addNumber 2 := ⟨wt_of 475 rfl rfl, wt_of 2 rfl rfl, ⟨by decide +kernel, by decide +kernel⟩, by decide +kernel, by decide⟩
abbrev mX7_cut : MI := (yX7_cut, cX7_cut, 3, none)
set_option maxRecDepth 100000 in
theorem meX7_cut : Me mX7_cut 0 := ⟨wt_of 452 rfl rfl, wt_of 2 rfl rfl, ⟨by decide +kernel, by decide +kernel⟩, by decide +kernel, by decide⟩
abbrev mX7_cutOne : MI := (yX7_cutOne, cX7_cutOne, 4, (some (.int)))
set_option maxRecDepth 100000 in
theorem meX7_cutOne : Me mX7_cutOne 1 := ⟨wt_of 456 rfl rfl, wt_of 2 rfl rfl, ⟨by decide +kernel, by decide +kernel⟩, by decide +kernel, by decide⟩
abbrev mX7_init : MI := (yX7_init, cX7_init, 1, none)
set_option maxRecDepth 100000 in
theorem meX7_init : Me mX7_init 0 := ⟨wt_of 33 rfl rfl, wt_of 2 rfl rfl, ⟨by decide +kernel, by decide +kernel⟩, by decide +kernel, by decide⟩
abbrev mX7_packedWords : MI := (yX7_packedWords, cX7_packedWords, 4, (some ((.array .long))))
set_option maxRecDepth 100000 in
theorem meX7_packedWords : Me mX7_packedWords 0 := ⟨wt_of 37 rfl rfl, wt_of 2 rfl rfl, ⟨by decide +kernel, by decide +kernel⟩, by decide +kernel, by decide⟩
abbrev mX7_put : MI := (yX7_put, cX7_put, 3, none)
set_option maxRecDepth 100000 in
theorem meX7_put : Me mX7_put 1 := ⟨wt_of 431 rfl rfl, wt_of 2 rfl rfl, ⟨by decide +kernel, by decide +kernel⟩, by decide +kernel, by decide⟩
abbrev mX7_rowEnd : MI := (yX7_rowEnd, cX7_rowEnd, 5, (some (.int)))
set_option maxRecDepth 100000 in
theorem meX7_rowEnd : Me mX7_rowEnd 3 := ⟨wt_of 460 rfl rfl, wt_of 2 rfl rfl, ⟨by decide +kernel, by decide +kernel⟩, by decide +kernel, by decide⟩
abbrev mX7_withLetter : MI := (yX7_withLetter, cX7_withLetter, 3, (some (.long)))
set_option maxRecDepth 100000 in
theorem meX7_withLetter : Me mX7_withLetter 2 := ⟨wt_of 89 rfl rfl, wt_of 2 rfl rfl, ⟨by decide +kernel, by decide +kernel⟩, by decide +kernel, by decide⟩
abbrev mX8_hasEntry : MI := (yX8_hasEntry, cX8_hasEntry, 4, (some (.boolean)))
set_option maxRecDepth 100000 in
theorem meX8_hasEntry : Me mX8_hasEntry 2 := ⟨wt_of 899 rfl rfl, wt_of 10 rfl rfl, ⟨by decide +kernel, by decide +kernel⟩, by decide +kernel, by decide⟩
abbrev mX8_init : MI := (yX8_init, cX8_init, 1, none)
set_option maxRecDepth 100000 in
theorem meX8_init : Me mX8_init 0 := ⟨wt_of 250 rfl rfl, wt_of 10 rfl rfl, ⟨by decide +kernel, by decide +kernel⟩, by decide +kernel, by decide⟩
abbrev mX8_make : MI := (yX8_make, cX8_make, 3, none)
set_option maxRecDepth 100000 in
theorem meX8_make : Me mX8_make 2 := ⟨wt_of 806 rfl rfl, wt_of 10 rfl rfl, ⟨by decide +kernel, by decide +kernel⟩, by decide +kernel, by decide⟩
abbrev mX8_valueOf : MI := (yX8_valueOf, cX8_valueOf, 2, (some (.long)))
set_option maxRecDepth 100000 in
theorem meX8_valueOf : Me mX8_valueOf 1 := ⟨wt_of 890 rfl rfl, wt_of 10 rfl rfl, ⟨by decide +kernel, by decide +kernel⟩, by decide +kernel, by decide⟩
abbrev mX9_addLock : MI := (yX9_addLock, cX9_addLock, 4, none)
set_option maxRecDepth 100000 in
theorem meX9_addLock : Me mX9_addLock 3 := ⟨wt_of 1033 rfl rfl, wt_of 20 rfl rfl, ⟨by decide +kernel, by decide +kernel⟩, by decide +kernel, by decide⟩
abbrev mX9_init : MI := (yX9_init, cX9_init, 3, none)
set_option maxRecDepth 100000 in
theorem meX9_init : Me mX9_init 2 := ⟨wt_of 981 rfl rfl, wt_of 20 rfl rfl, ⟨by decide +kernel, by decide +kernel⟩, by decide +kernel, by decide⟩
abbrev mL_law : MI := (yL_law, cL_law, 4, (some (.boolean)))
