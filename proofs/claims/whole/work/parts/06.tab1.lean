/-! the tables of this claim: methods, fields, calls, constants -/
def mX1_release : gY := (yX1_release, cX1_release, 3, none, 1)
def mX9_fill : gY := (yX9_fill, cX9_fill, 5, none, 9)
def mX9_region : gY := (yX9_region, cX9_region, 4, (some .int), 9)
def mX5_addNext : gY := (yX5_addNext, cX5_addNext, 4, (some .int), 5)
def mX5_end : gY := (yX5_end, cX5_end, 1, (some .int), 5)
def mX5_has : gY := (yX5_has, cX5_has, 2, (some .boolean), 5)
def mX5_highOf : gY := (yX5_highOf, cX5_highOf, 2, (some .int), 5)
def mX9_block : gY := (yX9_block, cX9_block, 6, (some .int), 9)
def mX9_isBlockLength : gY := (yX9_isBlockLength, cX9_isBlockLength, 1, (some .boolean), 9)
def mX9_isOwner : gY := (yX9_isOwner, cX9_isOwner, 1, (some .boolean), 9)
def mX3_quotaAllows : gY := (yX3_quotaAllows, cX3_quotaAllows, 3, (some .boolean), 3)
def mX0_usedBy : gY := (yX0_usedBy, cX0_usedBy, 4, (some .int), 0)
def mX0_leastUnusedSlot : gY := (yX0_leastUnusedSlot, cX0_leastUnusedSlot, 2, (some .int), 0)
def mX3_placeFor : gY := (yX3_placeFor, cX3_placeFor, 3, (some .int), 3)
def mX1_placeIn : gY := (yX1_placeIn, cX1_placeIn, 6, (some .int), 1)
def mX1_placeFromBelow : gY := (yX1_placeFromBelow, cX1_placeFromBelow, 6, (some .int), 1)
def mX1_placeFromAbove : gY := (yX1_placeFromAbove, cX1_placeFromAbove, 6, (some .int), 1)
def mX3_makeBlock : gY := (yX3_makeBlock, cX3_makeBlock, 6, none, 3)
def mX1_take : gY := (yX1_take, cX1_take, 4, none, 1)
def mX0_handleOf : gY := (yX0_handleOf, cX0_handleOf, 2, (some .int), 0)
def mX9_free : gY := (yX9_free, cX9_free, 3, (some .int), 9)
def mX0_liveSlotOf : gY := (yX0_liveSlotOf, cX0_liveSlotOf, 3, (some .int), 0)
def mX0_slotOf : gY := (yX0_slotOf, cX0_slotOf, 3, (some .int), 0)
def mX3_doom : gY := (yX3_doom, cX3_doom, 2, none, 3)
def mX6_drop : gY := (yX6_drop, cX6_drop, 4, none, 6)
def mX9_pin : gY := (yX9_pin, cX9_pin, 5, (some .int), 9)
def mX9_grow : gY := (yX9_grow, cX9_grow, 4, (some .int), 9)
def mX3_growInPlace : gY := (yX3_growInPlace, cX3_growInPlace, 4, (some .boolean), 3)
def mX1_isFree : gY := (yX1_isFree, cX1_isFree, 4, (some .boolean), 1)
def mX3_growElsewhere : gY := (yX3_growElsewhere, cX3_growElsewhere, 5, (some .boolean), 3)
def mX3_layAt : gY := (yX3_layAt, cX3_layAt, 5, none, 3)
def mX9_moves : gY := (yX9_moves, cX9_moves, 3, (some .int), 9)
def mX3_moveWithin : gY := (yX3_moveWithin, cX3_moveWithin, 6, (some .int), 3)
def mX3_nextToMove : gY := (yX3_nextToMove, cX3_nextToMove, 6, (some .int), 3)
def mX3_mayMove : gY := (yX3_mayMove, cX3_mayMove, 2, (some .boolean), 3)
def mX3_movedLow : gY := (yX3_movedLow, cX3_movedLow, 6, (some .int), 3)
def mX9_write : gY := (yX9_write, cX9_write, 6, (some .int), 9)
def mX3_cellAt : gY := (yX3_cellAt, cX3_cellAt, 3, (some .int), 3)
def mX9_read : gY := (yX9_read, cX9_read, 4, (some .int), 9)
def mX9_peek : gY := (yX9_peek, cX9_peek, 6, (some .int), 9)
def mX9_isReader : gY := (yX9_isReader, cX9_isReader, 1, (some .boolean), 9)
def mX3_seenSince : gY := (yX3_seenSince, cX3_seenSince, 3, (some .boolean), 3)
def mX9_of : gY := (yX9_of, cX9_of, 4, (some .int), 9)
def mX9_notIfNone : gY := (yX9_notIfNone, cX9_notIfNone, 1, (some .int), 9)
def mX9_slot : gY := (yX9_slot, cX9_slot, 4, (some .int), 9)
def mX0_liveHandleOf : gY := (yX0_liveHandleOf, cX0_liveHandleOf, 2, (some .int), 0)
def mX9_lies : gY := (yX9_lies, cX9_lies, 3, (some .int), 9)
def mX9_tag : gY := (yX9_tag, cX9_tag, 5, (some .int), 9)
def mX9_isTag : gY := (yX9_isTag, cX9_isTag, 1, (some .boolean), 9)
def mX3_tagBearer : gY := (yX3_tagBearer, cX3_tagBearer, 4, (some .int), 3)
def mX6_slotAt : gY := (yX6_slotAt, cX6_slotAt, 2, (some .int), 6)
def mX3_giveTag : gY := (yX3_giveTag, cX3_giveTag, 3, none, 3)
def mX6_addLast : gY := (yX6_addLast, cX6_addLast, 2, none, 6)
def mX9_find : gY := (yX9_find, cX9_find, 3, (some .int), 9)
def mX9_tagged : gY := (yX9_tagged, cX9_tagged, 3, (some .int), 9)
def mX9_quota : gY := (yX9_quota, cX9_quota, 4, (some .int), 9)
def mX9_owner : gY := (yX9_owner, cX9_owner, 3, (some .int), 9)
def mX9_leakedCellsOf : gY := (yX9_leakedCellsOf, cX9_leakedCellsOf, 4, (some .int), 9)
def mX8_fromTagsAndPins : gY := (yX8_fromTagsAndPins, cX8_fromTagsAndPins, 3, none, 8)
def mX8_begin : gY := (yX8_begin, cX8_begin, 1, none, 8)
def mX8_comeTo : gY := (yX8_comeTo, cX8_comeTo, 3, none, 8)
def mX8_goOn : gY := (yX8_goOn, cX8_goOn, 7, none, 8)
def mX9_isLeaked : gY := (yX9_isLeaked, cX9_isLeaked, 2, (some .boolean), 9)
def mX0_liveOf : gY := (yX0_liveOf, cX0_liveOf, 4, (some .int), 0)
def mX9_enter : gY := (yX9_enter, cX9_enter, 2, (some .int), 9)
def mX9_leave : gY := (yX9_leave, cX9_leave, 3, (some .int), 9)
def mX9_advance : gY := (yX9_advance, cX9_advance, 1, (some .int), 9)
def mX3_dropFreeable : gY := (yX3_dropFreeable, cX3_dropFreeable, 3, (some .int), 3)
def mX3_isFreeable : gY := (yX3_isFreeable, cX3_isFreeable, 3, (some .boolean), 3)
def mX9_would : gY := (yX9_would, cX9_would, 6, (some .int), 9)
def mX1_freeCells : gY := (yX1_freeCells, cX1_freeCells, 5, (some .int), 1)
def mX1_longestFreeRow : gY := (yX1_longestFreeRow, cX1_longestFreeRow, 6, (some .int), 1)
def mX1_freeRows : gY := (yX1_freeRows, cX1_freeRows, 7, (some .int), 1)
def mX9_least : gY := (yX9_least, cX9_least, 3, (some .int), 9)
def mX3_copyFrom : gY := (yX3_copyFrom, cX3_copyFrom, 2, none, 3)
def mX9_copyAll : gY := (yX9_copyAll, cX9_copyAll, 2, none, 9)
def mX5_copyFrom : gY := (yX5_copyFrom, cX5_copyFrom, 2, none, 5)
def mX1_copyFrom : gY := (yX1_copyFrom, cX1_copyFrom, 2, none, 1)
def mX0_copyFrom : gY := (yX0_copyFrom, cX0_copyFrom, 2, none, 0)
def mX6_copyFrom : gY := (yX6_copyFrom, cX6_copyFrom, 2, none, 6)
def mX3_leastBudget : gY := (yX3_leastBudget, cX3_leastBudget, 6, (some .int), 3)
def mX9_leaked : gY := (yX9_leaked, cX9_leaked, 4, (some .int), 9)
def mX9_path : gY := (yX9_path, cX9_path, 5, (some .int), 9)
def mX8_from : gY := (yX8_from, cX8_from, 3, none, 8)
def mX9_epochs : gY := (yX9_epochs, cX9_epochs, 2, (some .int), 9)
def mX3_freeable : gY := (yX3_freeable, cX3_freeable, 3, (some .int), 3)
def mX3_earliestReader : gY := (yX3_earliestReader, cX3_earliestReader, 3, (some .int), 3)
def mX3_readersIn : gY := (yX3_readersIn, cX3_readersIn, 3, (some .int), 3)
def mX9_plan : gY := (yX9_plan, cX9_plan, 5, (some .int), 9)
def mX9_isHolder : gY := (yX9_isHolder, cX9_isHolder, 1, (some .boolean), 9)
def mX2_faultAsRow : gY := (yX2_faultAsRow, cX2_faultAsRow, 2, (some .int), 2)
def mX2_item : gY := (yX2_item, cX2_item, 3, (some .int), 2)
def mX9_planElement : gY := (yX9_planElement, cX9_planElement, 4, (some .boolean), 9)
def mX4_dropFrom : gY := (yX4_dropFrom, cX4_dropFrom, 4, (some .boolean), 4)
def mX4_putOn : gY := (yX4_putOn, cX4_putOn, 4, (some .boolean), 4)
def mX9_told : gY := (yX9_told, cX9_told, 8, (some .int), 9)
def mX9_feed : gY := (yX9_feed, cX9_feed, 2, (some .int), 9)
def mX7_append : gY := (yX7_append, cX7_append, 2, (some .boolean), 7)
def mX9_script : gY := (yX9_script, cX9_script, 3, (some .int), 9)
def mX7_hasForm : gY := (yX7_hasForm, cX7_hasForm, 2, (some .boolean), 7)
def mX7_readLine : gY := (yX7_readLine, cX7_readLine, 3, (some .boolean), 7)
def mX7_nextByte : gY := (yX7_nextByte, cX7_nextByte, 1, (some .int), 7)
def mX7_numbersBehind : gY := (yX7_numbersBehind, cX7_numbersBehind, 1, (some .int), 7)
def mX7_readSign : gY := (yX7_readSign, cX7_readSign, 2, (some .boolean), 7)
def mX7_readNumber : gY := (yX7_readNumber, cX7_readNumber, 4, (some .boolean), 7)
def mX9_doLine : gY := (yX9_doLine, cX9_doLine, 5, (some .int), 9)
def mX7_number : gY := (yX7_number, cX7_number, 3, (some .int), 7)
def mX9_tagByLine : gY := (yX9_tagByLine, cX9_tagByLine, 4, (some .int), 9)
def mX9_image : gY := (yX9_image, cX9_image, 1, (some .int), 9)
def mX0_manyOf : gY := (yX0_manyOf, cX0_manyOf, 4, (some .int), 0)
def mX9_back : gY := (yX9_back, cX9_back, 1, (some .int), 9)
def mX9_hold : gY := (yX9_hold, cX9_hold, 3, (some .int), 9)
def mX9_row : gY := (yX9_row, cX9_row, 3, (some .int), 9)
def mX2_takeRow : gY := (yX2_takeRow, cX2_takeRow, 3, none, 2)
def mX9_put : gY := (yX9_put, cX9_put, 5, (some .int), 9)
def mX2_hasItem : gY := (yX2_hasItem, cX2_hasItem, 3, (some .boolean), 2)
def mX2_setItem : gY := (yX2_setItem, cX2_setItem, 4, none, 2)
def mX9_tells : gY := (yX9_tells, cX9_tells, 3, (some .int), 9)
def mX9_takenFor : gY := (yX9_takenFor, cX9_takenFor, 4, (some .int), 9)
def mX9_count : gY := (yX9_count, cX9_count, 2, (some .int), 9)
def mX0_cellsInAll : gY := (yX0_cellsInAll, cX0_cellsInAll, 3, (some .int), 0)
def mX2_manyHolding : gY := (yX2_manyHolding, cX2_manyHolding, 3, (some .int), 2)
def mX10_region : gY := (yX10_region, cX10_region, 5, (some .int), 10)
def mX10_in : gY := (yX10_in, cX10_in, 3, (some .boolean), 10)
def mX10_end : gY := (yX10_end, cX10_end, 2, (some .int), 10)
def mX10_block : gY := (yX10_block, cX10_block, 7, (some .int), 10)
def mX10_isRegion : gY := (yX10_isRegion, cX10_isRegion, 2, (some .boolean), 10)
def mX10_used : gY := (yX10_used, cX10_used, 4, (some .int), 10)
def mX10_at : gY := (yX10_at, cX10_at, 3, (some .int), 10)
def mX10_laid : gY := (yX10_laid, cX10_laid, 3, none, 10)
def mX10_placed : gY := (yX10_placed, cX10_placed, 7, (some .int), 10)
def mX10_freeSlot : gY := (yX10_freeSlot, cX10_freeSlot, 2, (some .int), 10)
def mX10_sets : gY := (yX10_sets, cX10_sets, 4, none, 10)
def mX10_handleOf : gY := (yX10_handleOf, cX10_handleOf, 2, (some .int), 10)
def mX10_free : gY := (yX10_free, cX10_free, 3, (some .int), 10)
def mX10_good : gY := (yX10_good, cX10_good, 3, (some .int), 10)
def mX10_isLive : gY := (yX10_isLive, cX10_isLive, 2, (some .boolean), 10)
def mX10_pin : gY := (yX10_pin, cX10_pin, 4, (some .int), 10)
def mX10_grow : gY := (yX10_grow, cX10_grow, 8, (some .int), 10)
def mX10_isFreeBehind : gY := (yX10_isFreeBehind, cX10_isFreeBehind, 5, (some .boolean), 10)
def mX10_goes : gY := (yX10_goes, cX10_goes, 5, none, 10)
def mX10_moves : gY := (yX10_moves, cX10_moves, 3, (some .int), 10)
def mX10_moved : gY := (yX10_moved, cX10_moved, 8, (some .int), 10)
def mX10_nextBlock : gY := (yX10_nextBlock, cX10_nextBlock, 7, (some .int), 10)
def mX10_write : gY := (yX10_write, cX10_write, 6, (some .int), 10)
def mX10_read : gY := (yX10_read, cX10_read, 4, (some .int), 10)
def mX10_cellOf : gY := (yX10_cellOf, cX10_cellOf, 3, (some .int), 10)
def mX10_peek : gY := (yX10_peek, cX10_peek, 6, (some .int), 10)
def mX10_of : gY := (yX10_of, cX10_of, 4, (some .int), 10)
def mX10_slot : gY := (yX10_slot, cX10_slot, 4, (some .int), 10)
def mX10_lies : gY := (yX10_lies, cX10_lies, 2, (some .int), 10)
def mX10_tag : gY := (yX10_tag, cX10_tag, 5, (some .int), 10)
def mX10_taggedBy : gY := (yX10_taggedBy, cX10_taggedBy, 3, (some .int), 10)
def mX10_tagsMany : gY := (yX10_tagsMany, cX10_tagsMany, 3, (some .int), 10)
def mX10_find : gY := (yX10_find, cX10_find, 3, (some .int), 10)
def mX10_tagged : gY := (yX10_tagged, cX10_tagged, 5, (some .int), 10)
def mX10_quota : gY := (yX10_quota, cX10_quota, 4, (some .int), 10)
def mX10_owner : gY := (yX10_owner, cX10_owner, 6, (some .int), 10)
def mX10_leakedOnes : gY := (yX10_leakedOnes, cX10_leakedOnes, 6, (some .int), 10)
def mX10_holds : gY := (yX10_holds, cX10_holds, 4, (some .boolean), 10)
def mX10_liveMany : gY := (yX10_liveMany, cX10_liveMany, 4, (some .int), 10)
def mX10_enter : gY := (yX10_enter, cX10_enter, 2, (some .int), 10)
def mX10_leave : gY := (yX10_leave, cX10_leave, 3, (some .int), 10)
def mX10_advance : gY := (yX10_advance, cX10_advance, 3, (some .int), 10)
def mX10_freeable : gY := (yX10_freeable, cX10_freeable, 3, (some .int), 10)
def mX10_isSeen : gY := (yX10_isSeen, cX10_isSeen, 3, (some .boolean), 10)
def mX10_would : gY := (yX10_would, cX10_would, 4, (some .int), 10)
def mX10_freeIn : gY := (yX10_freeIn, cX10_freeIn, 9, (some .int), 10)
def mX10_least : gY := (yX10_least, cX10_least, 5, (some .int), 10)
def mX10_take : gY := (yX10_take, cX10_take, 3, none, 10)
def mX10_leaked : gY := (yX10_leaked, cX10_leaked, 5, (some .int), 10)
def mX10_path : gY := (yX10_path, cX10_path, 8, (some .int), 10)
def mX10_epochs : gY := (yX10_epochs, cX10_epochs, 5, (some .int), 10)
def mX10_plan : gY := (yX10_plan, cX10_plan, 7, (some .int), 10)
def mX10_isHolder : gY := (yX10_isHolder, cX10_isHolder, 2, (some .boolean), 10)
def mX10_fills : gY := (yX10_fills, cX10_fills, 5, none, 10)
def mX10_told : gY := (yX10_told, cX10_told, 5, (some .int), 10)
def mX10_feed : gY := (yX10_feed, cX10_feed, 2, (some .int), 10)
def mX10_script : gY := (yX10_script, cX10_script, 3, (some .int), 10)
def mX10_isForm : gY := (yX10_isForm, cX10_isForm, 1, (some .boolean), 10)
def mX10_line : gY := (yX10_line, cX10_line, 4, (some .int), 10)
def mX10_manyOf : gY := (yX10_manyOf, cX10_manyOf, 1, (some .int), 10)
def mX10_number : gY := (yX10_number, cX10_number, 3, (some .int), 10)
def mX10_must : gY := (yX10_must, cX10_must, 3, (some .int), 10)
def mX10_sees : gY := (yX10_sees, cX10_sees, 3, (some .boolean), 10)
def mX10_does : gY := (yX10_does, cX10_does, 4, (some .int), 10)
def mX10_goodOf : gY := (yX10_goodOf, cX10_goodOf, 2, (some .int), 10)
def mX10_image : gY := (yX10_image, cX10_image, 1, (some .int), 10)
def mX10_back : gY := (yX10_back, cX10_back, 1, (some .int), 10)
def mX10_hold : gY := (yX10_hold, cX10_hold, 3, (some .int), 10)
def mX10_row : gY := (yX10_row, cX10_row, 4, (some .int), 10)
def mX10_put : gY := (yX10_put, cX10_put, 5, (some .int), 10)
def mX10_tells : gY := (yX10_tells, cX10_tells, 4, (some .int), 10)
def mX10_count : gY := (yX10_count, cX10_count, 4, (some .int), 10)
def gMz : gY := (⟨"", "", ""⟩, ⟨#[]⟩, 0, none, 0)
def gMsL : List gY := [mX1_release, mX9_fill, mX9_region, mX5_addNext, mX5_end, mX5_has, mX5_highOf, mX9_block, mX9_isBlockLength, mX9_isOwner, mX3_quotaAllows, mX0_usedBy, mX0_leastUnusedSlot, mX3_placeFor, mX1_placeIn, mX1_placeFromBelow, mX1_placeFromAbove, mX3_makeBlock, mX1_take, mX0_handleOf, mX9_free, mX0_liveSlotOf, mX0_slotOf, mX3_doom, mX6_drop, mX9_pin, mX9_grow, mX3_growInPlace, mX1_isFree, mX3_growElsewhere, mX3_layAt, mX9_moves, mX3_moveWithin, mX3_nextToMove, mX3_mayMove, mX3_movedLow, mX9_write, mX3_cellAt, mX9_read, mX9_peek, mX9_isReader, mX3_seenSince, mX9_of, mX9_notIfNone, mX9_slot, mX0_liveHandleOf, mX9_lies, mX9_tag, mX9_isTag, mX3_tagBearer, mX6_slotAt, mX3_giveTag, mX6_addLast, mX9_find, mX9_tagged, mX9_quota, mX9_owner, mX9_leakedCellsOf, mX8_fromTagsAndPins, mX8_begin, mX8_comeTo, mX8_goOn, mX9_isLeaked, mX0_liveOf, mX9_enter, mX9_leave, mX9_advance, mX3_dropFreeable, mX3_isFreeable, mX9_would, mX1_freeCells, mX1_longestFreeRow, mX1_freeRows, mX9_least, mX3_copyFrom, mX9_copyAll, mX5_copyFrom, mX1_copyFrom, mX0_copyFrom, mX6_copyFrom, mX3_leastBudget, mX9_leaked, mX9_path, mX8_from, mX9_epochs, mX3_freeable, mX3_earliestReader, mX3_readersIn, mX9_plan, mX9_isHolder, mX2_faultAsRow, mX2_item, mX9_planElement, mX4_dropFrom, mX4_putOn, mX9_told, mX9_feed, mX7_append, mX9_script, mX7_hasForm, mX7_readLine, mX7_nextByte, mX7_numbersBehind, mX7_readSign, mX7_readNumber, mX9_doLine, mX7_number, mX9_tagByLine, mX9_image, mX0_manyOf, mX9_back, mX9_hold, mX9_row, mX2_takeRow, mX9_put, mX2_hasItem, mX2_setItem, mX9_tells, mX9_takenFor, mX9_count, mX0_cellsInAll, mX2_manyHolding, mX10_region, mX10_in, mX10_end, mX10_block, mX10_isRegion, mX10_used, mX10_at, mX10_laid, mX10_placed, mX10_freeSlot, mX10_sets, mX10_handleOf, mX10_free, mX10_good, mX10_isLive, mX10_pin, mX10_grow, mX10_isFreeBehind, mX10_goes, mX10_moves, mX10_moved, mX10_nextBlock, mX10_write, mX10_read, mX10_cellOf, mX10_peek, mX10_of, mX10_slot, mX10_lies, mX10_tag, mX10_taggedBy, mX10_tagsMany, mX10_find, mX10_tagged, mX10_quota, mX10_owner, mX10_leakedOnes, mX10_holds, mX10_liveMany, mX10_enter, mX10_leave, mX10_advance, mX10_freeable, mX10_isSeen, mX10_would, mX10_freeIn, mX10_least, mX10_take, mX10_leaked, mX10_path, mX10_epochs, mX10_plan, mX10_isHolder, mX10_fills, mX10_told, mX10_feed, mX10_script, mX10_isForm, mX10_line, mX10_manyOf, mX10_number, mX10_must, mX10_sees, mX10_does, mX10_goodOf, mX10_image, mX10_back, mX10_hold, mX10_row, mX10_put, mX10_tells, mX10_count]
def gMs (k : Nat) : gY := gMsL.getD k gMz
theorem gI_L : Cond.initialized "RegionHandlesLaw" ∈ gT := gT_in (List.mem_of_getElem? (i := 52) (by decide +kernel)) rfl
theorem gI_X9 : Cond.initialized "RegionHandles" ∈ gT := gT_in (List.mem_of_getElem? (i := 53) (by decide +kernel)) rfl
theorem gI_X3 : Cond.initialized "RegionHandles$Memory" ∈ gT := gT_in (List.mem_of_getElem? (i := 54) (by decide +kernel)) rfl
theorem gI_X5 : Cond.initialized "RegionHandles$Regions" ∈ gT := gT_in (List.mem_of_getElem? (i := 55) (by decide +kernel)) rfl
theorem gI_X1 : Cond.initialized "RegionHandles$Ground" ∈ gT := gT_in (List.mem_of_getElem? (i := 56) (by decide +kernel)) rfl
theorem gI_X0 : Cond.initialized "RegionHandles$Blocks" ∈ gT := gT_in (List.mem_of_getElem? (i := 57) (by decide +kernel)) rfl
theorem gI_X6 : Cond.initialized "RegionHandles$TagOrder" ∈ gT := gT_in (List.mem_of_getElem? (i := 58) (by decide +kernel)) rfl
theorem gI_X8 : Cond.initialized "RegionHandles$Walk" ∈ gT := gT_in (List.mem_of_getElem? (i := 59) (by decide +kernel)) rfl
theorem gI_X4 : Cond.initialized "RegionHandles$Planned" ∈ gT := gT_in (List.mem_of_getElem? (i := 60) (by decide +kernel)) rfl
theorem gI_X7 : Cond.initialized "RegionHandles$Tape" ∈ gT := gT_in (List.mem_of_getElem? (i := 61) (by decide +kernel)) rfl
theorem gI_X2 : Cond.initialized "RegionHandles$Holders" ∈ gT := gT_in (List.mem_of_getElem? (i := 62) (by decide +kernel)) rfl
theorem gI_X10 : Cond.initialized "RegionHandlesModel" ∈ gT := gT_in (List.mem_of_getElem? (i := 63) (by decide +kernel)) rfl
theorem gI_System : Cond.initialized "java/lang/System" ∈ gT := gT_in (List.mem_of_getElem? (i := 64) (by decide +kernel)) rfl
theorem gI_Math : Cond.initialized "java/lang/Math" ∈ gT := gT_in (List.mem_of_getElem? (i := 65) (by decide +kernel)) rfl
theorem ok_mX1_release : gOkM mX1_release 2 := ⟨gT_in (List.mem_of_getElem? (i := 116) (by decide +kernel)) rfl, by decide +kernel, ⟨by decide +kernel, by decide +kernel⟩, by decide +kernel, by decide, by decide +kernel, gI_X1⟩
theorem ok_mX9_fill : gOkM mX9_fill 4 := ⟨gT_in (List.mem_of_getElem? (i := 119) (by decide +kernel)) rfl, by decide +kernel, ⟨by decide +kernel, by decide +kernel⟩, by decide +kernel, by decide, by decide +kernel, gI_X9⟩
theorem ok_mX9_region : gOkM mX9_region 2 := ⟨gT_in (List.mem_of_getElem? (i := 350) (by decide +kernel)) rfl, by decide +kernel, ⟨by decide +kernel, by decide +kernel⟩, by decide +kernel, by decide, by decide +kernel, gI_X9⟩
theorem ok_mX5_addNext : gOkM mX5_addNext 2 := ⟨gT_in (List.mem_of_getElem? (i := 354) (by decide +kernel)) rfl, by decide +kernel, ⟨by decide +kernel, by decide +kernel⟩, by decide +kernel, by decide, by decide +kernel, gI_X5⟩
theorem ok_mX5_end : gOkM mX5_end 0 := ⟨gT_in (List.mem_of_getElem? (i := 358) (by decide +kernel)) rfl, by decide +kernel, ⟨by decide +kernel, by decide +kernel⟩, by decide +kernel, by decide, by decide +kernel, gI_X5⟩
theorem ok_mX5_has : gOkM mX5_has 1 := ⟨gT_in (List.mem_of_getElem? (i := 362) (by decide +kernel)) rfl, by decide +kernel, ⟨by decide +kernel, by decide +kernel⟩, by decide +kernel, by decide, by decide +kernel, gI_X5⟩
theorem ok_mX5_highOf : gOkM mX5_highOf 1 := ⟨gT_in (List.mem_of_getElem? (i := 366) (by decide +kernel)) rfl, by decide +kernel, ⟨by decide +kernel, by decide +kernel⟩, by decide +kernel, by decide, by decide +kernel, gI_X5⟩
theorem ok_mX9_block : gOkM mX9_block 3 := ⟨gT_in (List.mem_of_getElem? (i := 370) (by decide +kernel)) rfl, by decide +kernel, ⟨by decide +kernel, by decide +kernel⟩, by decide +kernel, by decide, by decide +kernel, gI_X9⟩
theorem ok_mX9_isBlockLength : gOkM mX9_isBlockLength 1 := ⟨gT_in (List.mem_of_getElem? (i := 374) (by decide +kernel)) rfl, by decide +kernel, ⟨by decide +kernel, by decide +kernel⟩, by decide +kernel, by decide, by decide +kernel, gI_X9⟩
theorem ok_mX9_isOwner : gOkM mX9_isOwner 1 := ⟨gT_in (List.mem_of_getElem? (i := 377) (by decide +kernel)) rfl, by decide +kernel, ⟨by decide +kernel, by decide +kernel⟩, by decide +kernel, by decide, by decide +kernel, gI_X9⟩
theorem ok_mX3_quotaAllows : gOkM mX3_quotaAllows 2 := ⟨gT_in (List.mem_of_getElem? (i := 381) (by decide +kernel)) rfl, by decide +kernel, ⟨by decide +kernel, by decide +kernel⟩, by decide +kernel, by decide, by decide +kernel, gI_X3⟩
theorem ok_mX0_usedBy : gOkM mX0_usedBy 1 := ⟨gT_in (List.mem_of_getElem? (i := 385) (by decide +kernel)) rfl, by decide +kernel, ⟨by decide +kernel, by decide +kernel⟩, by decide +kernel, by decide, by decide +kernel, gI_X0⟩
theorem ok_mX0_leastUnusedSlot : gOkM mX0_leastUnusedSlot 0 := ⟨gT_in (List.mem_of_getElem? (i := 389) (by decide +kernel)) rfl, by decide +kernel, ⟨by decide +kernel, by decide +kernel⟩, by decide +kernel, by decide, by decide +kernel, gI_X0⟩
theorem ok_mX3_placeFor : gOkM mX3_placeFor 2 := ⟨gT_in (List.mem_of_getElem? (i := 393) (by decide +kernel)) rfl, by decide +kernel, ⟨by decide +kernel, by decide +kernel⟩, by decide +kernel, by decide, by decide +kernel, gI_X3⟩
theorem ok_mX1_placeIn : gOkM mX1_placeIn 3 := ⟨gT_in (List.mem_of_getElem? (i := 397) (by decide +kernel)) rfl, by decide +kernel, ⟨by decide +kernel, by decide +kernel⟩, by decide +kernel, by decide, by decide +kernel, gI_X1⟩
theorem ok_mX1_placeFromBelow : gOkM mX1_placeFromBelow 3 := ⟨gT_in (List.mem_of_getElem? (i := 402) (by decide +kernel)) rfl, by decide +kernel, ⟨by decide +kernel, by decide +kernel⟩, by decide +kernel, by decide, by decide +kernel, gI_X1⟩
theorem ok_mX1_placeFromAbove : gOkM mX1_placeFromAbove 3 := ⟨gT_in (List.mem_of_getElem? (i := 406) (by decide +kernel)) rfl, by decide +kernel, ⟨by decide +kernel, by decide +kernel⟩, by decide +kernel, by decide, by decide +kernel, gI_X1⟩
theorem ok_mX3_makeBlock : gOkM mX3_makeBlock 5 := ⟨gT_in (List.mem_of_getElem? (i := 410) (by decide +kernel)) rfl, by decide +kernel, ⟨by decide +kernel, by decide +kernel⟩, by decide +kernel, by decide, by decide +kernel, gI_X3⟩
theorem ok_mX1_take : gOkM mX1_take 3 := ⟨gT_in (List.mem_of_getElem? (i := 414) (by decide +kernel)) rfl, by decide +kernel, ⟨by decide +kernel, by decide +kernel⟩, by decide +kernel, by decide, by decide +kernel, gI_X1⟩
theorem ok_mX0_handleOf : gOkM mX0_handleOf 1 := ⟨gT_in (List.mem_of_getElem? (i := 418) (by decide +kernel)) rfl, by decide +kernel, ⟨by decide +kernel, by decide +kernel⟩, by decide +kernel, by decide, by decide +kernel, gI_X0⟩
theorem ok_mX9_free : gOkM mX9_free 1 := ⟨gT_in (List.mem_of_getElem? (i := 422) (by decide +kernel)) rfl, by decide +kernel, ⟨by decide +kernel, by decide +kernel⟩, by decide +kernel, by decide, by decide +kernel, gI_X9⟩
theorem ok_mX0_liveSlotOf : gOkM mX0_liveSlotOf 1 := ⟨gT_in (List.mem_of_getElem? (i := 426) (by decide +kernel)) rfl, by decide +kernel, ⟨by decide +kernel, by decide +kernel⟩, by decide +kernel, by decide, by decide +kernel, gI_X0⟩
theorem ok_mX0_slotOf : gOkM mX0_slotOf 1 := ⟨gT_in (List.mem_of_getElem? (i := 430) (by decide +kernel)) rfl, by decide +kernel, ⟨by decide +kernel, by decide +kernel⟩, by decide +kernel, by decide, by decide +kernel, gI_X0⟩
theorem ok_mX3_doom : gOkM mX3_doom 1 := ⟨gT_in (List.mem_of_getElem? (i := 434) (by decide +kernel)) rfl, by decide +kernel, ⟨by decide +kernel, by decide +kernel⟩, by decide +kernel, by decide, by decide +kernel, gI_X3⟩
theorem ok_mX6_drop : gOkM mX6_drop 1 := ⟨gT_in (List.mem_of_getElem? (i := 438) (by decide +kernel)) rfl, by decide +kernel, ⟨by decide +kernel, by decide +kernel⟩, by decide +kernel, by decide, by decide +kernel, gI_X6⟩
theorem ok_mX9_pin : gOkM mX9_pin 2 := ⟨gT_in (List.mem_of_getElem? (i := 442) (by decide +kernel)) rfl, by decide +kernel, ⟨by decide +kernel, by decide +kernel⟩, by decide +kernel, by decide, by decide +kernel, gI_X9⟩
theorem ok_mX9_grow : gOkM mX9_grow 2 := ⟨gT_in (List.mem_of_getElem? (i := 446) (by decide +kernel)) rfl, by decide +kernel, ⟨by decide +kernel, by decide +kernel⟩, by decide +kernel, by decide, by decide +kernel, gI_X9⟩
theorem ok_mX3_growInPlace : gOkM mX3_growInPlace 2 := ⟨gT_in (List.mem_of_getElem? (i := 450) (by decide +kernel)) rfl, by decide +kernel, ⟨by decide +kernel, by decide +kernel⟩, by decide +kernel, by decide, by decide +kernel, gI_X3⟩
theorem ok_mX1_isFree : gOkM mX1_isFree 2 := ⟨gT_in (List.mem_of_getElem? (i := 455) (by decide +kernel)) rfl, by decide +kernel, ⟨by decide +kernel, by decide +kernel⟩, by decide +kernel, by decide, by decide +kernel, gI_X1⟩
theorem ok_mX3_growElsewhere : gOkM mX3_growElsewhere 2 := ⟨gT_in (List.mem_of_getElem? (i := 459) (by decide +kernel)) rfl, by decide +kernel, ⟨by decide +kernel, by decide +kernel⟩, by decide +kernel, by decide, by decide +kernel, gI_X3⟩
theorem ok_mX3_layAt : gOkM mX3_layAt 2 := ⟨gT_in (List.mem_of_getElem? (i := 464) (by decide +kernel)) rfl, by decide +kernel, ⟨by decide +kernel, by decide +kernel⟩, by decide +kernel, by decide, by decide +kernel, gI_X3⟩
theorem ok_mX9_moves : gOkM mX9_moves 2 := ⟨gT_in (List.mem_of_getElem? (i := 472) (by decide +kernel)) rfl, by decide +kernel, ⟨by decide +kernel, by decide +kernel⟩, by decide +kernel, by decide, by decide +kernel, gI_X9⟩
theorem ok_mX3_moveWithin : gOkM mX3_moveWithin 2 := ⟨gT_in (List.mem_of_getElem? (i := 476) (by decide +kernel)) rfl, by decide +kernel, ⟨by decide +kernel, by decide +kernel⟩, by decide +kernel, by decide, by decide +kernel, gI_X3⟩
theorem ok_mX3_nextToMove : gOkM mX3_nextToMove 1 := ⟨gT_in (List.mem_of_getElem? (i := 480) (by decide +kernel)) rfl, by decide +kernel, ⟨by decide +kernel, by decide +kernel⟩, by decide +kernel, by decide, by decide +kernel, gI_X3⟩
theorem ok_mX3_mayMove : gOkM mX3_mayMove 1 := ⟨gT_in (List.mem_of_getElem? (i := 484) (by decide +kernel)) rfl, by decide +kernel, ⟨by decide +kernel, by decide +kernel⟩, by decide +kernel, by decide, by decide +kernel, gI_X3⟩
theorem ok_mX3_movedLow : gOkM mX3_movedLow 1 := ⟨gT_in (List.mem_of_getElem? (i := 488) (by decide +kernel)) rfl, by decide +kernel, ⟨by decide +kernel, by decide +kernel⟩, by decide +kernel, by decide, by decide +kernel, gI_X3⟩
theorem ok_mX9_write : gOkM mX9_write 3 := ⟨gT_in (List.mem_of_getElem? (i := 492) (by decide +kernel)) rfl, by decide +kernel, ⟨by decide +kernel, by decide +kernel⟩, by decide +kernel, by decide, by decide +kernel, gI_X9⟩
theorem ok_mX3_cellAt : gOkM mX3_cellAt 2 := ⟨gT_in (List.mem_of_getElem? (i := 496) (by decide +kernel)) rfl, by decide +kernel, ⟨by decide +kernel, by decide +kernel⟩, by decide +kernel, by decide, by decide +kernel, gI_X3⟩
theorem ok_mX9_read : gOkM mX9_read 2 := ⟨gT_in (List.mem_of_getElem? (i := 501) (by decide +kernel)) rfl, by decide +kernel, ⟨by decide +kernel, by decide +kernel⟩, by decide +kernel, by decide, by decide +kernel, gI_X9⟩
theorem ok_mX9_peek : gOkM mX9_peek 3 := ⟨gT_in (List.mem_of_getElem? (i := 505) (by decide +kernel)) rfl, by decide +kernel, ⟨by decide +kernel, by decide +kernel⟩, by decide +kernel, by decide, by decide +kernel, gI_X9⟩
theorem ok_mX9_isReader : gOkM mX9_isReader 1 := ⟨gT_in (List.mem_of_getElem? (i := 508) (by decide +kernel)) rfl, by decide +kernel, ⟨by decide +kernel, by decide +kernel⟩, by decide +kernel, by decide, by decide +kernel, gI_X9⟩
theorem ok_mX3_seenSince : gOkM mX3_seenSince 2 := ⟨gT_in (List.mem_of_getElem? (i := 513) (by decide +kernel)) rfl, by decide +kernel, ⟨by decide +kernel, by decide +kernel⟩, by decide +kernel, by decide, by decide +kernel, gI_X3⟩
theorem ok_mX9_of : gOkM mX9_of 2 := ⟨gT_in (List.mem_of_getElem? (i := 517) (by decide +kernel)) rfl, by decide +kernel, ⟨by decide +kernel, by decide +kernel⟩, by decide +kernel, by decide, by decide +kernel, gI_X9⟩
theorem ok_mX9_notIfNone : gOkM mX9_notIfNone 1 := ⟨gT_in (List.mem_of_getElem? (i := 520) (by decide +kernel)) rfl, by decide +kernel, ⟨by decide +kernel, by decide +kernel⟩, by decide +kernel, by decide, by decide +kernel, gI_X9⟩
theorem ok_mX9_slot : gOkM mX9_slot 2 := ⟨gT_in (List.mem_of_getElem? (i := 524) (by decide +kernel)) rfl, by decide +kernel, ⟨by decide +kernel, by decide +kernel⟩, by decide +kernel, by decide, by decide +kernel, gI_X9⟩
theorem ok_mX0_liveHandleOf : gOkM mX0_liveHandleOf 1 := ⟨gT_in (List.mem_of_getElem? (i := 528) (by decide +kernel)) rfl, by decide +kernel, ⟨by decide +kernel, by decide +kernel⟩, by decide +kernel, by decide, by decide +kernel, gI_X0⟩
theorem ok_mX9_lies : gOkM mX9_lies 1 := ⟨gT_in (List.mem_of_getElem? (i := 533) (by decide +kernel)) rfl, by decide +kernel, ⟨by decide +kernel, by decide +kernel⟩, by decide +kernel, by decide, by decide +kernel, gI_X9⟩
theorem ok_mX9_tag : gOkM mX9_tag 2 := ⟨gT_in (List.mem_of_getElem? (i := 538) (by decide +kernel)) rfl, by decide +kernel, ⟨by decide +kernel, by decide +kernel⟩, by decide +kernel, by decide, by decide +kernel, gI_X9⟩
theorem ok_mX9_isTag : gOkM mX9_isTag 1 := ⟨gT_in (List.mem_of_getElem? (i := 541) (by decide +kernel)) rfl, by decide +kernel, ⟨by decide +kernel, by decide +kernel⟩, by decide +kernel, by decide, by decide +kernel, gI_X9⟩
theorem ok_mX3_tagBearer : gOkM mX3_tagBearer 1 := ⟨gT_in (List.mem_of_getElem? (i := 545) (by decide +kernel)) rfl, by decide +kernel, ⟨by decide +kernel, by decide +kernel⟩, by decide +kernel, by decide, by decide +kernel, gI_X3⟩
theorem ok_mX6_slotAt : gOkM mX6_slotAt 1 := ⟨gT_in (List.mem_of_getElem? (i := 549) (by decide +kernel)) rfl, by decide +kernel, ⟨by decide +kernel, by decide +kernel⟩, by decide +kernel, by decide, by decide +kernel, gI_X6⟩
theorem ok_mX3_giveTag : gOkM mX3_giveTag 2 := ⟨gT_in (List.mem_of_getElem? (i := 553) (by decide +kernel)) rfl, by decide +kernel, ⟨by decide +kernel, by decide +kernel⟩, by decide +kernel, by decide, by decide +kernel, gI_X3⟩
theorem ok_mX6_addLast : gOkM mX6_addLast 1 := ⟨gT_in (List.mem_of_getElem? (i := 557) (by decide +kernel)) rfl, by decide +kernel, ⟨by decide +kernel, by decide +kernel⟩, by decide +kernel, by decide, by decide +kernel, gI_X6⟩
theorem ok_mX9_find : gOkM mX9_find 1 := ⟨gT_in (List.mem_of_getElem? (i := 561) (by decide +kernel)) rfl, by decide +kernel, ⟨by decide +kernel, by decide +kernel⟩, by decide +kernel, by decide, by decide +kernel, gI_X9⟩
theorem ok_mX9_tagged : gOkM mX9_tagged 1 := ⟨gT_in (List.mem_of_getElem? (i := 565) (by decide +kernel)) rfl, by decide +kernel, ⟨by decide +kernel, by decide +kernel⟩, by decide +kernel, by decide, by decide +kernel, gI_X9⟩
theorem ok_mX9_quota : gOkM mX9_quota 2 := ⟨gT_in (List.mem_of_getElem? (i := 570) (by decide +kernel)) rfl, by decide +kernel, ⟨by decide +kernel, by decide +kernel⟩, by decide +kernel, by decide, by decide +kernel, gI_X9⟩
theorem ok_mX9_owner : gOkM mX9_owner 2 := ⟨gT_in (List.mem_of_getElem? (i := 575) (by decide +kernel)) rfl, by decide +kernel, ⟨by decide +kernel, by decide +kernel⟩, by decide +kernel, by decide, by decide +kernel, gI_X9⟩
theorem ok_mX9_leakedCellsOf : gOkM mX9_leakedCellsOf 1 := ⟨gT_in (List.mem_of_getElem? (i := 579) (by decide +kernel)) rfl, by decide +kernel, ⟨by decide +kernel, by decide +kernel⟩, by decide +kernel, by decide, by decide +kernel, gI_X9⟩
theorem ok_mX8_fromTagsAndPins : gOkM mX8_fromTagsAndPins 1 := ⟨gT_in (List.mem_of_getElem? (i := 583) (by decide +kernel)) rfl, by decide +kernel, ⟨by decide +kernel, by decide +kernel⟩, by decide +kernel, by decide, by decide +kernel, gI_X8⟩
theorem ok_mX8_begin : gOkM mX8_begin 0 := ⟨gT_in (List.mem_of_getElem? (i := 587) (by decide +kernel)) rfl, by decide +kernel, ⟨by decide +kernel, by decide +kernel⟩, by decide +kernel, by decide, by decide +kernel, gI_X8⟩
theorem ok_mX8_comeTo : gOkM mX8_comeTo 2 := ⟨gT_in (List.mem_of_getElem? (i := 592) (by decide +kernel)) rfl, by decide +kernel, ⟨by decide +kernel, by decide +kernel⟩, by decide +kernel, by decide, by decide +kernel, gI_X8⟩
theorem ok_mX8_goOn : gOkM mX8_goOn 1 := ⟨gT_in (List.mem_of_getElem? (i := 596) (by decide +kernel)) rfl, by decide +kernel, ⟨by decide +kernel, by decide +kernel⟩, by decide +kernel, by decide, by decide +kernel, gI_X8⟩
theorem ok_mX9_isLeaked : gOkM mX9_isLeaked 1 := ⟨gT_in (List.mem_of_getElem? (i := 601) (by decide +kernel)) rfl, by decide +kernel, ⟨by decide +kernel, by decide +kernel⟩, by decide +kernel, by decide, by decide +kernel, gI_X9⟩
theorem ok_mX0_liveOf : gOkM mX0_liveOf 1 := ⟨gT_in (List.mem_of_getElem? (i := 605) (by decide +kernel)) rfl, by decide +kernel, ⟨by decide +kernel, by decide +kernel⟩, by decide +kernel, by decide, by decide +kernel, gI_X0⟩
theorem ok_mX9_enter : gOkM mX9_enter 1 := ⟨gT_in (List.mem_of_getElem? (i := 609) (by decide +kernel)) rfl, by decide +kernel, ⟨by decide +kernel, by decide +kernel⟩, by decide +kernel, by decide, by decide +kernel, gI_X9⟩
theorem ok_mX9_leave : gOkM mX9_leave 1 := ⟨gT_in (List.mem_of_getElem? (i := 613) (by decide +kernel)) rfl, by decide +kernel, ⟨by decide +kernel, by decide +kernel⟩, by decide +kernel, by decide, by decide +kernel, gI_X9⟩
theorem ok_mX9_advance : gOkM mX9_advance 0 := ⟨gT_in (List.mem_of_getElem? (i := 617) (by decide +kernel)) rfl, by decide +kernel, ⟨by decide +kernel, by decide +kernel⟩, by decide +kernel, by decide, by decide +kernel, gI_X9⟩
theorem ok_mX3_dropFreeable : gOkM mX3_dropFreeable 0 := ⟨gT_in (List.mem_of_getElem? (i := 621) (by decide +kernel)) rfl, by decide +kernel, ⟨by decide +kernel, by decide +kernel⟩, by decide +kernel, by decide, by decide +kernel, gI_X3⟩
theorem ok_mX3_isFreeable : gOkM mX3_isFreeable 1 := ⟨gT_in (List.mem_of_getElem? (i := 625) (by decide +kernel)) rfl, by decide +kernel, ⟨by decide +kernel, by decide +kernel⟩, by decide +kernel, by decide, by decide +kernel, gI_X3⟩
theorem ok_mX9_would : gOkM mX9_would 3 := ⟨gT_in (List.mem_of_getElem? (i := 629) (by decide +kernel)) rfl, by decide +kernel, ⟨by decide +kernel, by decide +kernel⟩, by decide +kernel, by decide, by decide +kernel, gI_X9⟩
theorem ok_mX1_freeCells : gOkM mX1_freeCells 2 := ⟨gT_in (List.mem_of_getElem? (i := 634) (by decide +kernel)) rfl, by decide +kernel, ⟨by decide +kernel, by decide +kernel⟩, by decide +kernel, by decide, by decide +kernel, gI_X1⟩
theorem ok_mX1_longestFreeRow : gOkM mX1_longestFreeRow 2 := ⟨gT_in (List.mem_of_getElem? (i := 638) (by decide +kernel)) rfl, by decide +kernel, ⟨by decide +kernel, by decide +kernel⟩, by decide +kernel, by decide, by decide +kernel, gI_X1⟩
theorem ok_mX1_freeRows : gOkM mX1_freeRows 2 := ⟨gT_in (List.mem_of_getElem? (i := 645) (by decide +kernel)) rfl, by decide +kernel, ⟨by decide +kernel, by decide +kernel⟩, by decide +kernel, by decide, by decide +kernel, gI_X1⟩
theorem ok_mX9_least : gOkM mX9_least 2 := ⟨gT_in (List.mem_of_getElem? (i := 649) (by decide +kernel)) rfl, by decide +kernel, ⟨by decide +kernel, by decide +kernel⟩, by decide +kernel, by decide, by decide +kernel, gI_X9⟩
theorem ok_mX3_copyFrom : gOkM mX3_copyFrom 1 := ⟨gT_in (List.mem_of_getElem? (i := 653) (by decide +kernel)) rfl, by decide +kernel, ⟨by decide +kernel, by decide +kernel⟩, by decide +kernel, by decide, by decide +kernel, gI_X3⟩
theorem ok_mX9_copyAll : gOkM mX9_copyAll 2 := ⟨gT_in (List.mem_of_getElem? (i := 656) (by decide +kernel)) rfl, by decide +kernel, ⟨by decide +kernel, by decide +kernel⟩, by decide +kernel, by decide, by decide +kernel, gI_X9⟩
theorem ok_mX5_copyFrom : gOkM mX5_copyFrom 1 := ⟨gT_in (List.mem_of_getElem? (i := 664) (by decide +kernel)) rfl, by decide +kernel, ⟨by decide +kernel, by decide +kernel⟩, by decide +kernel, by decide, by decide +kernel, gI_X5⟩
theorem ok_mX1_copyFrom : gOkM mX1_copyFrom 1 := ⟨gT_in (List.mem_of_getElem? (i := 669) (by decide +kernel)) rfl, by decide +kernel, ⟨by decide +kernel, by decide +kernel⟩, by decide +kernel, by decide, by decide +kernel, gI_X1⟩
theorem ok_mX0_copyFrom : gOkM mX0_copyFrom 1 := ⟨gT_in (List.mem_of_getElem? (i := 674) (by decide +kernel)) rfl, by decide +kernel, ⟨by decide +kernel, by decide +kernel⟩, by decide +kernel, by decide, by decide +kernel, gI_X0⟩
theorem ok_mX6_copyFrom : gOkM mX6_copyFrom 1 := ⟨gT_in (List.mem_of_getElem? (i := 679) (by decide +kernel)) rfl, by decide +kernel, ⟨by decide +kernel, by decide +kernel⟩, by decide +kernel, by decide, by decide +kernel, gI_X6⟩
theorem ok_mX3_leastBudget : gOkM mX3_leastBudget 2 := ⟨gT_in (List.mem_of_getElem? (i := 684) (by decide +kernel)) rfl, by decide +kernel, ⟨by decide +kernel, by decide +kernel⟩, by decide +kernel, by decide, by decide +kernel, gI_X3⟩
theorem ok_mX9_leaked : gOkM mX9_leaked 1 := ⟨gT_in (List.mem_of_getElem? (i := 688) (by decide +kernel)) rfl, by decide +kernel, ⟨by decide +kernel, by decide +kernel⟩, by decide +kernel, by decide, by decide +kernel, gI_X9⟩
theorem ok_mX9_path : gOkM mX9_path 2 := ⟨gT_in (List.mem_of_getElem? (i := 692) (by decide +kernel)) rfl, by decide +kernel, ⟨by decide +kernel, by decide +kernel⟩, by decide +kernel, by decide, by decide +kernel, gI_X9⟩
theorem ok_mX8_from : gOkM mX8_from 2 := ⟨gT_in (List.mem_of_getElem? (i := 696) (by decide +kernel)) rfl, by decide +kernel, ⟨by decide +kernel, by decide +kernel⟩, by decide +kernel, by decide, by decide +kernel, gI_X8⟩
theorem ok_mX9_epochs : gOkM mX9_epochs 1 := ⟨gT_in (List.mem_of_getElem? (i := 700) (by decide +kernel)) rfl, by decide +kernel, ⟨by decide +kernel, by decide +kernel⟩, by decide +kernel, by decide, by decide +kernel, gI_X9⟩
theorem ok_mX3_freeable : gOkM mX3_freeable 0 := ⟨gT_in (List.mem_of_getElem? (i := 704) (by decide +kernel)) rfl, by decide +kernel, ⟨by decide +kernel, by decide +kernel⟩, by decide +kernel, by decide, by decide +kernel, gI_X3⟩
theorem ok_mX3_earliestReader : gOkM mX3_earliestReader 0 := ⟨gT_in (List.mem_of_getElem? (i := 708) (by decide +kernel)) rfl, by decide +kernel, ⟨by decide +kernel, by decide +kernel⟩, by decide +kernel, by decide, by decide +kernel, gI_X3⟩
theorem ok_mX3_readersIn : gOkM mX3_readersIn 0 := ⟨gT_in (List.mem_of_getElem? (i := 712) (by decide +kernel)) rfl, by decide +kernel, ⟨by decide +kernel, by decide +kernel⟩, by decide +kernel, by decide, by decide +kernel, gI_X3⟩
theorem ok_mX9_plan : gOkM mX9_plan 2 := ⟨gT_in (List.mem_of_getElem? (i := 716) (by decide +kernel)) rfl, by decide +kernel, ⟨by decide +kernel, by decide +kernel⟩, by decide +kernel, by decide, by decide +kernel, gI_X9⟩
theorem ok_mX9_isHolder : gOkM mX9_isHolder 1 := ⟨gT_in (List.mem_of_getElem? (i := 719) (by decide +kernel)) rfl, by decide +kernel, ⟨by decide +kernel, by decide +kernel⟩, by decide +kernel, by decide, by decide +kernel, gI_X9⟩
theorem ok_mX2_faultAsRow : gOkM mX2_faultAsRow 1 := ⟨gT_in (List.mem_of_getElem? (i := 723) (by decide +kernel)) rfl, by decide +kernel, ⟨by decide +kernel, by decide +kernel⟩, by decide +kernel, by decide, by decide +kernel, gI_X2⟩
theorem ok_mX2_item : gOkM mX2_item 2 := ⟨gT_in (List.mem_of_getElem? (i := 728) (by decide +kernel)) rfl, by decide +kernel, ⟨by decide +kernel, by decide +kernel⟩, by decide +kernel, by decide, by decide +kernel, gI_X2⟩
theorem ok_mX9_planElement : gOkM mX9_planElement 2 := ⟨gT_in (List.mem_of_getElem? (i := 732) (by decide +kernel)) rfl, by decide +kernel, ⟨by decide +kernel, by decide +kernel⟩, by decide +kernel, by decide, by decide +kernel, gI_X9⟩
theorem ok_mX4_dropFrom : gOkM mX4_dropFrom 2 := ⟨gT_in (List.mem_of_getElem? (i := 736) (by decide +kernel)) rfl, by decide +kernel, ⟨by decide +kernel, by decide +kernel⟩, by decide +kernel, by decide, by decide +kernel, gI_X4⟩
theorem ok_mX4_putOn : gOkM mX4_putOn 3 := ⟨gT_in (List.mem_of_getElem? (i := 742) (by decide +kernel)) rfl, by decide +kernel, ⟨by decide +kernel, by decide +kernel⟩, by decide +kernel, by decide, by decide +kernel, gI_X4⟩
theorem ok_mX9_told : gOkM mX9_told 2 := ⟨gT_in (List.mem_of_getElem? (i := 747) (by decide +kernel)) rfl, by decide +kernel, ⟨by decide +kernel, by decide +kernel⟩, by decide +kernel, by decide, by decide +kernel, gI_X9⟩
theorem ok_mX9_feed : gOkM mX9_feed 1 := ⟨gT_in (List.mem_of_getElem? (i := 751) (by decide +kernel)) rfl, by decide +kernel, ⟨by decide +kernel, by decide +kernel⟩, by decide +kernel, by decide, by decide +kernel, gI_X9⟩
theorem ok_mX7_append : gOkM mX7_append 1 := ⟨gT_in (List.mem_of_getElem? (i := 755) (by decide +kernel)) rfl, by decide +kernel, ⟨by decide +kernel, by decide +kernel⟩, by decide +kernel, by decide, by decide +kernel, gI_X7⟩
theorem ok_mX9_script : gOkM mX9_script 0 := ⟨gT_in (List.mem_of_getElem? (i := 759) (by decide +kernel)) rfl, by decide +kernel, ⟨by decide +kernel, by decide +kernel⟩, by decide +kernel, by decide, by decide +kernel, gI_X9⟩
theorem ok_mX7_hasForm : gOkM mX7_hasForm 0 := ⟨gT_in (List.mem_of_getElem? (i := 763) (by decide +kernel)) rfl, by decide +kernel, ⟨by decide +kernel, by decide +kernel⟩, by decide +kernel, by decide, by decide +kernel, gI_X7⟩
theorem ok_mX7_readLine : gOkM mX7_readLine 0 := ⟨gT_in (List.mem_of_getElem? (i := 767) (by decide +kernel)) rfl, by decide +kernel, ⟨by decide +kernel, by decide +kernel⟩, by decide +kernel, by decide, by decide +kernel, gI_X7⟩
theorem ok_mX7_nextByte : gOkM mX7_nextByte 0 := ⟨gT_in (List.mem_of_getElem? (i := 771) (by decide +kernel)) rfl, by decide +kernel, ⟨by decide +kernel, by decide +kernel⟩, by decide +kernel, by decide, by decide +kernel, gI_X7⟩
theorem ok_mX7_numbersBehind : gOkM mX7_numbersBehind 1 := ⟨gT_in (List.mem_of_getElem? (i := 774) (by decide +kernel)) rfl, by decide +kernel, ⟨by decide +kernel, by decide +kernel⟩, by decide +kernel, by decide, by decide +kernel, gI_X7⟩
theorem ok_mX7_readSign : gOkM mX7_readSign 1 := ⟨gT_in (List.mem_of_getElem? (i := 778) (by decide +kernel)) rfl, by decide +kernel, ⟨by decide +kernel, by decide +kernel⟩, by decide +kernel, by decide, by decide +kernel, gI_X7⟩
theorem ok_mX7_readNumber : gOkM mX7_readNumber 1 := ⟨gT_in (List.mem_of_getElem? (i := 782) (by decide +kernel)) rfl, by decide +kernel, ⟨by decide +kernel, by decide +kernel⟩, by decide +kernel, by decide, by decide +kernel, gI_X7⟩
theorem ok_mX9_doLine : gOkM mX9_doLine 1 := ⟨gT_in (List.mem_of_getElem? (i := 786) (by decide +kernel)) rfl, by decide +kernel, ⟨by decide +kernel, by decide +kernel⟩, by decide +kernel, by decide, by decide +kernel, gI_X9⟩
theorem ok_mX7_number : gOkM mX7_number 2 := ⟨gT_in (List.mem_of_getElem? (i := 790) (by decide +kernel)) rfl, by decide +kernel, ⟨by decide +kernel, by decide +kernel⟩, by decide +kernel, by decide, by decide +kernel, gI_X7⟩
theorem ok_mX9_tagByLine : gOkM mX9_tagByLine 3 := ⟨gT_in (List.mem_of_getElem? (i := 798) (by decide +kernel)) rfl, by decide +kernel, ⟨by decide +kernel, by decide +kernel⟩, by decide +kernel, by decide, by decide +kernel, gI_X9⟩
theorem ok_mX9_image : gOkM mX9_image 0 := ⟨gT_in (List.mem_of_getElem? (i := 807) (by decide +kernel)) rfl, by decide +kernel, ⟨by decide +kernel, by decide +kernel⟩, by decide +kernel, by decide, by decide +kernel, gI_X9⟩
theorem ok_mX0_manyOf : gOkM mX0_manyOf 1 := ⟨gT_in (List.mem_of_getElem? (i := 811) (by decide +kernel)) rfl, by decide +kernel, ⟨by decide +kernel, by decide +kernel⟩, by decide +kernel, by decide, by decide +kernel, gI_X0⟩
theorem ok_mX9_back : gOkM mX9_back 0 := ⟨gT_in (List.mem_of_getElem? (i := 815) (by decide +kernel)) rfl, by decide +kernel, ⟨by decide +kernel, by decide +kernel⟩, by decide +kernel, by decide, by decide +kernel, gI_X9⟩
theorem ok_mX9_hold : gOkM mX9_hold 2 := ⟨gT_in (List.mem_of_getElem? (i := 819) (by decide +kernel)) rfl, by decide +kernel, ⟨by decide +kernel, by decide +kernel⟩, by decide +kernel, by decide, by decide +kernel, gI_X9⟩
theorem ok_mX9_row : gOkM mX9_row 2 := ⟨gT_in (List.mem_of_getElem? (i := 823) (by decide +kernel)) rfl, by decide +kernel, ⟨by decide +kernel, by decide +kernel⟩, by decide +kernel, by decide, by decide +kernel, gI_X9⟩
theorem ok_mX2_takeRow : gOkM mX2_takeRow 2 := ⟨gT_in (List.mem_of_getElem? (i := 827) (by decide +kernel)) rfl, by decide +kernel, ⟨by decide +kernel, by decide +kernel⟩, by decide +kernel, by decide, by decide +kernel, gI_X2⟩
theorem ok_mX9_put : gOkM mX9_put 3 := ⟨gT_in (List.mem_of_getElem? (i := 832) (by decide +kernel)) rfl, by decide +kernel, ⟨by decide +kernel, by decide +kernel⟩, by decide +kernel, by decide, by decide +kernel, gI_X9⟩
theorem ok_mX2_hasItem : gOkM mX2_hasItem 2 := ⟨gT_in (List.mem_of_getElem? (i := 836) (by decide +kernel)) rfl, by decide +kernel, ⟨by decide +kernel, by decide +kernel⟩, by decide +kernel, by decide, by decide +kernel, gI_X2⟩
theorem ok_mX2_setItem : gOkM mX2_setItem 3 := ⟨gT_in (List.mem_of_getElem? (i := 840) (by decide +kernel)) rfl, by decide +kernel, ⟨by decide +kernel, by decide +kernel⟩, by decide +kernel, by decide, by decide +kernel, gI_X2⟩
theorem ok_mX9_tells : gOkM mX9_tells 2 := ⟨gT_in (List.mem_of_getElem? (i := 844) (by decide +kernel)) rfl, by decide +kernel, ⟨by decide +kernel, by decide +kernel⟩, by decide +kernel, by decide, by decide +kernel, gI_X9⟩
theorem ok_mX9_takenFor : gOkM mX9_takenFor 2 := ⟨gT_in (List.mem_of_getElem? (i := 848) (by decide +kernel)) rfl, by decide +kernel, ⟨by decide +kernel, by decide +kernel⟩, by decide +kernel, by decide, by decide +kernel, gI_X9⟩
theorem ok_mX9_count : gOkM mX9_count 1 := ⟨gT_in (List.mem_of_getElem? (i := 852) (by decide +kernel)) rfl, by decide +kernel, ⟨by decide +kernel, by decide +kernel⟩, by decide +kernel, by decide, by decide +kernel, gI_X9⟩
theorem ok_mX0_cellsInAll : gOkM mX0_cellsInAll 0 := ⟨gT_in (List.mem_of_getElem? (i := 856) (by decide +kernel)) rfl, by decide +kernel, ⟨by decide +kernel, by decide +kernel⟩, by decide +kernel, by decide, by decide +kernel, gI_X0⟩
theorem ok_mX2_manyHolding : gOkM mX2_manyHolding 0 := ⟨gT_in (List.mem_of_getElem? (i := 860) (by decide +kernel)) rfl, by decide +kernel, ⟨by decide +kernel, by decide +kernel⟩, by decide +kernel, by decide, by decide +kernel, gI_X2⟩
theorem ok_mX10_region : gOkM mX10_region 2 := ⟨gT_in (List.mem_of_getElem? (i := 930) (by decide +kernel)) rfl, by decide +kernel, ⟨by decide +kernel, by decide +kernel⟩, by decide +kernel, by decide, by decide +kernel, gI_X10⟩
theorem ok_mX10_in : gOkM mX10_in 3 := ⟨gT_in (List.mem_of_getElem? (i := 933) (by decide +kernel)) rfl, by decide +kernel, ⟨by decide +kernel, by decide +kernel⟩, by decide +kernel, by decide, by decide +kernel, gI_X10⟩
theorem ok_mX10_end : gOkM mX10_end 1 := ⟨gT_in (List.mem_of_getElem? (i := 937) (by decide +kernel)) rfl, by decide +kernel, ⟨by decide +kernel, by decide +kernel⟩, by decide +kernel, by decide, by decide +kernel, gI_X10⟩
theorem ok_mX10_block : gOkM mX10_block 3 := ⟨gT_in (List.mem_of_getElem? (i := 941) (by decide +kernel)) rfl, by decide +kernel, ⟨by decide +kernel, by decide +kernel⟩, by decide +kernel, by decide, by decide +kernel, gI_X10⟩
theorem ok_mX10_isRegion : gOkM mX10_isRegion 1 := ⟨gT_in (List.mem_of_getElem? (i := 945) (by decide +kernel)) rfl, by decide +kernel, ⟨by decide +kernel, by decide +kernel⟩, by decide +kernel, by decide, by decide +kernel, gI_X10⟩
theorem ok_mX10_used : gOkM mX10_used 1 := ⟨gT_in (List.mem_of_getElem? (i := 949) (by decide +kernel)) rfl, by decide +kernel, ⟨by decide +kernel, by decide +kernel⟩, by decide +kernel, by decide, by decide +kernel, gI_X10⟩
theorem ok_mX10_at : gOkM mX10_at 2 := ⟨gT_in (List.mem_of_getElem? (i := 953) (by decide +kernel)) rfl, by decide +kernel, ⟨by decide +kernel, by decide +kernel⟩, by decide +kernel, by decide, by decide +kernel, gI_X10⟩
theorem ok_mX10_laid : gOkM mX10_laid 0 := ⟨gT_in (List.mem_of_getElem? (i := 957) (by decide +kernel)) rfl, by decide +kernel, ⟨by decide +kernel, by decide +kernel⟩, by decide +kernel, by decide, by decide +kernel, gI_X10⟩
theorem ok_mX10_placed : gOkM mX10_placed 2 := ⟨gT_in (List.mem_of_getElem? (i := 961) (by decide +kernel)) rfl, by decide +kernel, ⟨by decide +kernel, by decide +kernel⟩, by decide +kernel, by decide, by decide +kernel, gI_X10⟩
theorem ok_mX10_freeSlot : gOkM mX10_freeSlot 0 := ⟨gT_in (List.mem_of_getElem? (i := 965) (by decide +kernel)) rfl, by decide +kernel, ⟨by decide +kernel, by decide +kernel⟩, by decide +kernel, by decide, by decide +kernel, gI_X10⟩
theorem ok_mX10_sets : gOkM mX10_sets 3 := ⟨gT_in (List.mem_of_getElem? (i := 969) (by decide +kernel)) rfl, by decide +kernel, ⟨by decide +kernel, by decide +kernel⟩, by decide +kernel, by decide, by decide +kernel, gI_X10⟩
theorem ok_mX10_handleOf : gOkM mX10_handleOf 1 := ⟨gT_in (List.mem_of_getElem? (i := 973) (by decide +kernel)) rfl, by decide +kernel, ⟨by decide +kernel, by decide +kernel⟩, by decide +kernel, by decide, by decide +kernel, gI_X10⟩
theorem ok_mX10_free : gOkM mX10_free 1 := ⟨gT_in (List.mem_of_getElem? (i := 977) (by decide +kernel)) rfl, by decide +kernel, ⟨by decide +kernel, by decide +kernel⟩, by decide +kernel, by decide, by decide +kernel, gI_X10⟩
theorem ok_mX10_good : gOkM mX10_good 1 := ⟨gT_in (List.mem_of_getElem? (i := 981) (by decide +kernel)) rfl, by decide +kernel, ⟨by decide +kernel, by decide +kernel⟩, by decide +kernel, by decide, by decide +kernel, gI_X10⟩
theorem ok_mX10_isLive : gOkM mX10_isLive 1 := ⟨gT_in (List.mem_of_getElem? (i := 985) (by decide +kernel)) rfl, by decide +kernel, ⟨by decide +kernel, by decide +kernel⟩, by decide +kernel, by decide, by decide +kernel, gI_X10⟩
theorem ok_mX10_pin : gOkM mX10_pin 2 := ⟨gT_in (List.mem_of_getElem? (i := 989) (by decide +kernel)) rfl, by decide +kernel, ⟨by decide +kernel, by decide +kernel⟩, by decide +kernel, by decide, by decide +kernel, gI_X10⟩
theorem ok_mX10_grow : gOkM mX10_grow 2 := ⟨gT_in (List.mem_of_getElem? (i := 993) (by decide +kernel)) rfl, by decide +kernel, ⟨by decide +kernel, by decide +kernel⟩, by decide +kernel, by decide, by decide +kernel, gI_X10⟩
theorem ok_mX10_isFreeBehind : gOkM mX10_isFreeBehind 2 := ⟨gT_in (List.mem_of_getElem? (i := 997) (by decide +kernel)) rfl, by decide +kernel, ⟨by decide +kernel, by decide +kernel⟩, by decide +kernel, by decide, by decide +kernel, gI_X10⟩
theorem ok_mX10_goes : gOkM mX10_goes 2 := ⟨gT_in (List.mem_of_getElem? (i := 1001) (by decide +kernel)) rfl, by decide +kernel, ⟨by decide +kernel, by decide +kernel⟩, by decide +kernel, by decide, by decide +kernel, gI_X10⟩
theorem ok_mX10_moves : gOkM mX10_moves 2 := ⟨gT_in (List.mem_of_getElem? (i := 1005) (by decide +kernel)) rfl, by decide +kernel, ⟨by decide +kernel, by decide +kernel⟩, by decide +kernel, by decide, by decide +kernel, gI_X10⟩
theorem ok_mX10_moved : gOkM mX10_moved 2 := ⟨gT_in (List.mem_of_getElem? (i := 1009) (by decide +kernel)) rfl, by decide +kernel, ⟨by decide +kernel, by decide +kernel⟩, by decide +kernel, by decide, by decide +kernel, gI_X10⟩
theorem ok_mX10_nextBlock : gOkM mX10_nextBlock 3 := ⟨gT_in (List.mem_of_getElem? (i := 1013) (by decide +kernel)) rfl, by decide +kernel, ⟨by decide +kernel, by decide +kernel⟩, by decide +kernel, by decide, by decide +kernel, gI_X10⟩
theorem ok_mX10_write : gOkM mX10_write 3 := ⟨gT_in (List.mem_of_getElem? (i := 1017) (by decide +kernel)) rfl, by decide +kernel, ⟨by decide +kernel, by decide +kernel⟩, by decide +kernel, by decide, by decide +kernel, gI_X10⟩
theorem ok_mX10_read : gOkM mX10_read 2 := ⟨gT_in (List.mem_of_getElem? (i := 1022) (by decide +kernel)) rfl, by decide +kernel, ⟨by decide +kernel, by decide +kernel⟩, by decide +kernel, by decide, by decide +kernel, gI_X10⟩
theorem ok_mX10_cellOf : gOkM mX10_cellOf 2 := ⟨gT_in (List.mem_of_getElem? (i := 1026) (by decide +kernel)) rfl, by decide +kernel, ⟨by decide +kernel, by decide +kernel⟩, by decide +kernel, by decide, by decide +kernel, gI_X10⟩
theorem ok_mX10_peek : gOkM mX10_peek 3 := ⟨gT_in (List.mem_of_getElem? (i := 1030) (by decide +kernel)) rfl, by decide +kernel, ⟨by decide +kernel, by decide +kernel⟩, by decide +kernel, by decide, by decide +kernel, gI_X10⟩
theorem ok_mX10_of : gOkM mX10_of 2 := ⟨gT_in (List.mem_of_getElem? (i := 1034) (by decide +kernel)) rfl, by decide +kernel, ⟨by decide +kernel, by decide +kernel⟩, by decide +kernel, by decide, by decide +kernel, gI_X10⟩
theorem ok_mX10_slot : gOkM mX10_slot 2 := ⟨gT_in (List.mem_of_getElem? (i := 1038) (by decide +kernel)) rfl, by decide +kernel, ⟨by decide +kernel, by decide +kernel⟩, by decide +kernel, by decide, by decide +kernel, gI_X10⟩
theorem ok_mX10_lies : gOkM mX10_lies 1 := ⟨gT_in (List.mem_of_getElem? (i := 1042) (by decide +kernel)) rfl, by decide +kernel, ⟨by decide +kernel, by decide +kernel⟩, by decide +kernel, by decide, by decide +kernel, gI_X10⟩
theorem ok_mX10_tag : gOkM mX10_tag 2 := ⟨gT_in (List.mem_of_getElem? (i := 1046) (by decide +kernel)) rfl, by decide +kernel, ⟨by decide +kernel, by decide +kernel⟩, by decide +kernel, by decide, by decide +kernel, gI_X10⟩
theorem ok_mX10_taggedBy : gOkM mX10_taggedBy 1 := ⟨gT_in (List.mem_of_getElem? (i := 1050) (by decide +kernel)) rfl, by decide +kernel, ⟨by decide +kernel, by decide +kernel⟩, by decide +kernel, by decide, by decide +kernel, gI_X10⟩
theorem ok_mX10_tagsMany : gOkM mX10_tagsMany 0 := ⟨gT_in (List.mem_of_getElem? (i := 1054) (by decide +kernel)) rfl, by decide +kernel, ⟨by decide +kernel, by decide +kernel⟩, by decide +kernel, by decide, by decide +kernel, gI_X10⟩
theorem ok_mX10_find : gOkM mX10_find 1 := ⟨gT_in (List.mem_of_getElem? (i := 1058) (by decide +kernel)) rfl, by decide +kernel, ⟨by decide +kernel, by decide +kernel⟩, by decide +kernel, by decide, by decide +kernel, gI_X10⟩
theorem ok_mX10_tagged : gOkM mX10_tagged 1 := ⟨gT_in (List.mem_of_getElem? (i := 1062) (by decide +kernel)) rfl, by decide +kernel, ⟨by decide +kernel, by decide +kernel⟩, by decide +kernel, by decide, by decide +kernel, gI_X10⟩
theorem ok_mX10_quota : gOkM mX10_quota 2 := ⟨gT_in (List.mem_of_getElem? (i := 1066) (by decide +kernel)) rfl, by decide +kernel, ⟨by decide +kernel, by decide +kernel⟩, by decide +kernel, by decide, by decide +kernel, gI_X10⟩
theorem ok_mX10_owner : gOkM mX10_owner 2 := ⟨gT_in (List.mem_of_getElem? (i := 1070) (by decide +kernel)) rfl, by decide +kernel, ⟨by decide +kernel, by decide +kernel⟩, by decide +kernel, by decide, by decide +kernel, gI_X10⟩
theorem ok_mX10_leakedOnes : gOkM mX10_leakedOnes 0 := ⟨gT_in (List.mem_of_getElem? (i := 1074) (by decide +kernel)) rfl, by decide +kernel, ⟨by decide +kernel, by decide +kernel⟩, by decide +kernel, by decide, by decide +kernel, gI_X10⟩
theorem ok_mX10_holds : gOkM mX10_holds 2 := ⟨gT_in (List.mem_of_getElem? (i := 1078) (by decide +kernel)) rfl, by decide +kernel, ⟨by decide +kernel, by decide +kernel⟩, by decide +kernel, by decide, by decide +kernel, gI_X10⟩
theorem ok_mX10_liveMany : gOkM mX10_liveMany 1 := ⟨gT_in (List.mem_of_getElem? (i := 1082) (by decide +kernel)) rfl, by decide +kernel, ⟨by decide +kernel, by decide +kernel⟩, by decide +kernel, by decide, by decide +kernel, gI_X10⟩
theorem ok_mX10_enter : gOkM mX10_enter 1 := ⟨gT_in (List.mem_of_getElem? (i := 1086) (by decide +kernel)) rfl, by decide +kernel, ⟨by decide +kernel, by decide +kernel⟩, by decide +kernel, by decide, by decide +kernel, gI_X10⟩
theorem ok_mX10_leave : gOkM mX10_leave 1 := ⟨gT_in (List.mem_of_getElem? (i := 1090) (by decide +kernel)) rfl, by decide +kernel, ⟨by decide +kernel, by decide +kernel⟩, by decide +kernel, by decide, by decide +kernel, gI_X10⟩
theorem ok_mX10_advance : gOkM mX10_advance 0 := ⟨gT_in (List.mem_of_getElem? (i := 1094) (by decide +kernel)) rfl, by decide +kernel, ⟨by decide +kernel, by decide +kernel⟩, by decide +kernel, by decide, by decide +kernel, gI_X10⟩
theorem ok_mX10_freeable : gOkM mX10_freeable 0 := ⟨gT_in (List.mem_of_getElem? (i := 1098) (by decide +kernel)) rfl, by decide +kernel, ⟨by decide +kernel, by decide +kernel⟩, by decide +kernel, by decide, by decide +kernel, gI_X10⟩
theorem ok_mX10_isSeen : gOkM mX10_isSeen 1 := ⟨gT_in (List.mem_of_getElem? (i := 1102) (by decide +kernel)) rfl, by decide +kernel, ⟨by decide +kernel, by decide +kernel⟩, by decide +kernel, by decide, by decide +kernel, gI_X10⟩
theorem ok_mX10_would : gOkM mX10_would 3 := ⟨gT_in (List.mem_of_getElem? (i := 1106) (by decide +kernel)) rfl, by decide +kernel, ⟨by decide +kernel, by decide +kernel⟩, by decide +kernel, by decide, by decide +kernel, gI_X10⟩
theorem ok_mX10_freeIn : gOkM mX10_freeIn 2 := ⟨gT_in (List.mem_of_getElem? (i := 1110) (by decide +kernel)) rfl, by decide +kernel, ⟨by decide +kernel, by decide +kernel⟩, by decide +kernel, by decide, by decide +kernel, gI_X10⟩
theorem ok_mX10_least : gOkM mX10_least 2 := ⟨gT_in (List.mem_of_getElem? (i := 1114) (by decide +kernel)) rfl, by decide +kernel, ⟨by decide +kernel, by decide +kernel⟩, by decide +kernel, by decide, by decide +kernel, gI_X10⟩
theorem ok_mX10_take : gOkM mX10_take 2 := ⟨gT_in (List.mem_of_getElem? (i := 1117) (by decide +kernel)) rfl, by decide +kernel, ⟨by decide +kernel, by decide +kernel⟩, by decide +kernel, by decide, by decide +kernel, gI_X10⟩
theorem ok_mX10_leaked : gOkM mX10_leaked 1 := ⟨gT_in (List.mem_of_getElem? (i := 1121) (by decide +kernel)) rfl, by decide +kernel, ⟨by decide +kernel, by decide +kernel⟩, by decide +kernel, by decide, by decide +kernel, gI_X10⟩
theorem ok_mX10_path : gOkM mX10_path 2 := ⟨gT_in (List.mem_of_getElem? (i := 1125) (by decide +kernel)) rfl, by decide +kernel, ⟨by decide +kernel, by decide +kernel⟩, by decide +kernel, by decide, by decide +kernel, gI_X10⟩
theorem ok_mX10_epochs : gOkM mX10_epochs 1 := ⟨gT_in (List.mem_of_getElem? (i := 1129) (by decide +kernel)) rfl, by decide +kernel, ⟨by decide +kernel, by decide +kernel⟩, by decide +kernel, by decide, by decide +kernel, gI_X10⟩
theorem ok_mX10_plan : gOkM mX10_plan 2 := ⟨gT_in (List.mem_of_getElem? (i := 1133) (by decide +kernel)) rfl, by decide +kernel, ⟨by decide +kernel, by decide +kernel⟩, by decide +kernel, by decide, by decide +kernel, gI_X10⟩
theorem ok_mX10_isHolder : gOkM mX10_isHolder 1 := ⟨gT_in (List.mem_of_getElem? (i := 1137) (by decide +kernel)) rfl, by decide +kernel, ⟨by decide +kernel, by decide +kernel⟩, by decide +kernel, by decide, by decide +kernel, gI_X10⟩
theorem ok_mX10_fills : gOkM mX10_fills 3 := ⟨gT_in (List.mem_of_getElem? (i := 1141) (by decide +kernel)) rfl, by decide +kernel, ⟨by decide +kernel, by decide +kernel⟩, by decide +kernel, by decide, by decide +kernel, gI_X10⟩
theorem ok_mX10_told : gOkM mX10_told 2 := ⟨gT_in (List.mem_of_getElem? (i := 1145) (by decide +kernel)) rfl, by decide +kernel, ⟨by decide +kernel, by decide +kernel⟩, by decide +kernel, by decide, by decide +kernel, gI_X10⟩
theorem ok_mX10_feed : gOkM mX10_feed 1 := ⟨gT_in (List.mem_of_getElem? (i := 1149) (by decide +kernel)) rfl, by decide +kernel, ⟨by decide +kernel, by decide +kernel⟩, by decide +kernel, by decide, by decide +kernel, gI_X10⟩
theorem ok_mX10_script : gOkM mX10_script 0 := ⟨gT_in (List.mem_of_getElem? (i := 1153) (by decide +kernel)) rfl, by decide +kernel, ⟨by decide +kernel, by decide +kernel⟩, by decide +kernel, by decide, by decide +kernel, gI_X10⟩
theorem ok_mX10_isForm : gOkM mX10_isForm 0 := ⟨gT_in (List.mem_of_getElem? (i := 1157) (by decide +kernel)) rfl, by decide +kernel, ⟨by decide +kernel, by decide +kernel⟩, by decide +kernel, by decide, by decide +kernel, gI_X10⟩
theorem ok_mX10_line : gOkM mX10_line 0 := ⟨gT_in (List.mem_of_getElem? (i := 1161) (by decide +kernel)) rfl, by decide +kernel, ⟨by decide +kernel, by decide +kernel⟩, by decide +kernel, by decide, by decide +kernel, gI_X10⟩
theorem ok_mX10_manyOf : gOkM mX10_manyOf 1 := ⟨gT_in (List.mem_of_getElem? (i := 1164) (by decide +kernel)) rfl, by decide +kernel, ⟨by decide +kernel, by decide +kernel⟩, by decide +kernel, by decide, by decide +kernel, gI_X10⟩
theorem ok_mX10_number : gOkM mX10_number 0 := ⟨gT_in (List.mem_of_getElem? (i := 1168) (by decide +kernel)) rfl, by decide +kernel, ⟨by decide +kernel, by decide +kernel⟩, by decide +kernel, by decide, by decide +kernel, gI_X10⟩
theorem ok_mX10_must : gOkM mX10_must 2 := ⟨gT_in (List.mem_of_getElem? (i := 1172) (by decide +kernel)) rfl, by decide +kernel, ⟨by decide +kernel, by decide +kernel⟩, by decide +kernel, by decide, by decide +kernel, gI_X10⟩
theorem ok_mX10_sees : gOkM mX10_sees 2 := ⟨gT_in (List.mem_of_getElem? (i := 1176) (by decide +kernel)) rfl, by decide +kernel, ⟨by decide +kernel, by decide +kernel⟩, by decide +kernel, by decide, by decide +kernel, gI_X10⟩
theorem ok_mX10_does : gOkM mX10_does 1 := ⟨gT_in (List.mem_of_getElem? (i := 1180) (by decide +kernel)) rfl, by decide +kernel, ⟨by decide +kernel, by decide +kernel⟩, by decide +kernel, by decide, by decide +kernel, gI_X10⟩
theorem ok_mX10_goodOf : gOkM mX10_goodOf 1 := ⟨gT_in (List.mem_of_getElem? (i := 1186) (by decide +kernel)) rfl, by decide +kernel, ⟨by decide +kernel, by decide +kernel⟩, by decide +kernel, by decide, by decide +kernel, gI_X10⟩
theorem ok_mX10_image : gOkM mX10_image 0 := ⟨gT_in (List.mem_of_getElem? (i := 1197) (by decide +kernel)) rfl, by decide +kernel, ⟨by decide +kernel, by decide +kernel⟩, by decide +kernel, by decide, by decide +kernel, gI_X10⟩
theorem ok_mX10_back : gOkM mX10_back 0 := ⟨gT_in (List.mem_of_getElem? (i := 1201) (by decide +kernel)) rfl, by decide +kernel, ⟨by decide +kernel, by decide +kernel⟩, by decide +kernel, by decide, by decide +kernel, gI_X10⟩
theorem ok_mX10_hold : gOkM mX10_hold 2 := ⟨gT_in (List.mem_of_getElem? (i := 1205) (by decide +kernel)) rfl, by decide +kernel, ⟨by decide +kernel, by decide +kernel⟩, by decide +kernel, by decide, by decide +kernel, gI_X10⟩
theorem ok_mX10_row : gOkM mX10_row 2 := ⟨gT_in (List.mem_of_getElem? (i := 1209) (by decide +kernel)) rfl, by decide +kernel, ⟨by decide +kernel, by decide +kernel⟩, by decide +kernel, by decide, by decide +kernel, gI_X10⟩
theorem ok_mX10_put : gOkM mX10_put 3 := ⟨gT_in (List.mem_of_getElem? (i := 1213) (by decide +kernel)) rfl, by decide +kernel, ⟨by decide +kernel, by decide +kernel⟩, by decide +kernel, by decide, by decide +kernel, gI_X10⟩
theorem ok_mX10_tells : gOkM mX10_tells 2 := ⟨gT_in (List.mem_of_getElem? (i := 1217) (by decide +kernel)) rfl, by decide +kernel, ⟨by decide +kernel, by decide +kernel⟩, by decide +kernel, by decide, by decide +kernel, gI_X10⟩
theorem ok_mX10_count : gOkM mX10_count 1 := ⟨gT_in (List.mem_of_getElem? (i := 1221) (by decide +kernel)) rfl, by decide +kernel, ⟨by decide +kernel, by decide +kernel⟩, by decide +kernel, by decide, by decide +kernel, gI_X10⟩
