def q_ys : List (List MethodName) := [[yX8_status, yJ0_length_8abf5, yJ0_charAt_5068e, yJ9_min_7cf53, yJ13_bitCount_95d88, yX8_status, yX8_feed, yX8_load, yX8_fault, yX8_many, yX8_counts, yX8_page, yX8_slot, yX8_version, yX8_entry, yX8_txn],
  [yX8_knows, yX8_sees, yX8_versions, yX8_trail, yX8_event, yX8_begin, yX8_commit, yX8_abort, yX8_insert, yX8_update, yX8_delete, yX8_await, yX8_prune, yX8_vacuum, yX8_look, yX8_found],
  [yX8_repack, yX8_set, yX8_mark, yX8_back, yX8_without, yX8_ring, yX8_blocks, yX8_holder, yX8_holds, yX8_gains, yX8_best, yX8_reads, yX8_most, yX8_answer, yX8_refuse, yX8_asOpen],
  [yX8_asFree, yX8_asReader, yX8_asChanger, yX8_openEnder, yX8_countGained, yX8_perform, yX8_addFirstRow, yX8_isWithin, yX8_isPage, yX8_isVersion, yX8_pageOf, yX8_slotOf, yX8_pick, yX8_put, yX8_copy, yX4_empty],
  [yX4_copyFrom, yX4_isOf, yX4_stamp, yX0_copyFrom, yX0_add, yX0_told, yX1_copyFrom, yX1_keyAt, yX1_placeAt, yX1_isKilled, yX1_kill, yX1_move, yX1_isBehind, yX1_add, yX1_dropAllTo, yX1_howManyLeadTo],
  [yX2_copyFrom, yX2_makeAnew, yX2_tell, yX2_kindAt, yX2_numberAt, yX2_count, yX2_countOf, yX3_copyFrom, yX3_strip, yX3_at, yX3_lengthOf, yX3_hasSlot, yX3_isClear, yX3_setClear, yX3_freeOf, yX3_freeInAll],
  [yX3_unusedOf, yX3_slotsThatAre, yX3_howManyHaveSlots, yX3_placeIn, yX3_firstPlace, yX3_take, yX3_dropUnusedBehind, yX7_makeAnew, yX7_copyFrom, yX7_has, yX7_stateOf, yX7_lowOf, yX7_waitsFor, yX7_howManyNoted, yX7_setNoted, yX7_isKnown],
  [yX7_open, yX7_end, yX7_endAll, yX7_horizonBut, yX7_firstAtHorizon, yX7_howManyOpen, yX7_howManyWait, yX7_letWait, yX7_ringLength, yX7_howManyWaitFor, yX6_hasRoomFor, yX6_takeInt, yX6_open, yX6_blame, yX6_told, yX6_readLine],
  [yX6_isTooLate, yX6_noteWord, yX6_readNumbers, yX6_canBe, yX6_readKind, yX6_isGood, yX6_byteAt, yX6_readToken, yX6_passAll, yX6_numberRead, yX6_wordRead, yX6_isSpelled, yX6_numbersOf, yX6_spelling, yX5_copyFrom, yX5_makeAnew],
  [yX5_hasRow, yX5_isDead, yX5_isDying, yX5_isSuch, yX5_versionsThatAre, yX5_isCounted, yX5_versionsOf, yX5_placeMade, yX5_madeAhead, yX5_deadUnitsOf, yX5_deadUnits, yX5_isSeen, yX5_seenPlace, yX5_chainFirst, yX5_chainNext, yX5_chainLength],
  [yX5_addRow, yX5_addVersion, yX5_endVersion, yX5_placeBehind, yX5_prunePage, yX5_pruneSlot, yX5_vacuumAll, yX5_clearStubs, yX5_tellPass, yX5_freezeOld, yX5_isClearNow, yX5_isForAll, yX5_isUnended, yX5_lookFor, yX5_goThrough, yX5_readsFor],
  [yX5_layAnew, yX5_layDown, yX5_lastingBehind, yX5_isLasting, yX5_isAhead, yX9_status, yX9_refuse, yX9_is, yX9_isIn, yX9_clears, yX9_copy, yX9_of, yX9_sets, yX9_isFull, yX9_isSlot, yX9_isVersion],
  [yX9_freeIn, yX9_placeIn, yX9_firstPlace, yX9_fills, yX9_stateOf, yX9_isOpen, yX9_isTxn, yX9_noted, yX9_isKnown, yX9_isWaiting, yX9_isSeen, yX9_lowOf, yX9_horizonBut, yX9_horizon, yX9_enderOf, yX9_isDead],
  [yX9_isDying, yX9_chainOf, yX9_chainNext, yX9_chainMany, yX9_tellsOf, yX9_goes, yX9_cuts, yX9_prunes, yX9_entryOf, yX9_leadsTo, yX9_enters, yX9_entriesTo, yX9_takesOut, yX9_passes, yX9_freezes, yX9_isClear],
  [yX9_vacuums, yX9_seenOf, yX9_inserts, yX9_endsAt, yX9_noTouch, yX9_isValue, yX9_insertNow, yX9_isRow, yX9_touched, yX9_updateNow, yX9_versionsOf, yX9_deleteNow, yX9_beginNow, yX9_closeNow, yX9_pruneNow, yX9_lookNow],
  [yX9_looks, yX9_looksAt, yX9_finds, yX9_isAnyOpen, yX9_lives, yX9_oldOf, yX9_isAhead, yX9_staying, yX9_repackNow, yX9_lays, yX9_feed, yX9_isOf, yX9_reads, yX9_must, yX9_key, yX9_takesNumbers],
  [yX9_doesAct, yX9_readsLine, yX9_load, yX9_fault, yX9_manyOf, yX9_waitMany, yX9_openMany, yX9_many, yX9_counts, yX9_isPage, yX9_deadUnits, yX9_unusedIn, yX9_page, yX9_asksSlot, yX9_slot, yX9_version],
  [yX9_entry, yX9_notedMany, yX9_txn, yX9_knows, yX9_sees, yX9_versions, yX9_madeAs, yX9_trail, yX9_event, yX9_begin, yX9_commit, yX9_abort, yX9_insert, yX9_update, yX9_delete, yX9_prune],
  [yX9_vacuum, yX9_look, yX9_found, yX9_repack, yX9_set, yX9_mark, yX9_back, yX9_asksOpen, yX9_without, yX9_enderFor, yX9_ringOf, yX9_await, yX9_ring, yX9_blocks, yX9_holder, yX9_allDead],
  [yX9_holds, yX9_allFree, yX9_gains, yX9_best, yX9_reads_, yX9_most]]
def q_y (m : Nat) : MethodName := match q_ys[m / 16]? with | none => yX8_status | some l => match l[m % 16]? with | none => yX8_status | some c => c
def q_bs : List (List ByteArray) := [[cX8_status, cJ0_length_8abf5, cJ0_charAt_5068e, cJ9_min_7cf53, cJ13_bitCount_95d88, cX8_status, cX8_feed, cX8_load, cX8_fault, cX8_many, cX8_counts, cX8_page, cX8_slot, cX8_version, cX8_entry, cX8_txn],
  [cX8_knows, cX8_sees, cX8_versions, cX8_trail, cX8_event, cX8_begin, cX8_commit, cX8_abort, cX8_insert, cX8_update, cX8_delete, cX8_await, cX8_prune, cX8_vacuum, cX8_look, cX8_found],
  [cX8_repack, cX8_set, cX8_mark, cX8_back, cX8_without, cX8_ring, cX8_blocks, cX8_holder, cX8_holds, cX8_gains, cX8_best, cX8_reads, cX8_most, cX8_answer, cX8_refuse, cX8_asOpen],
  [cX8_asFree, cX8_asReader, cX8_asChanger, cX8_openEnder, cX8_countGained, cX8_perform, cX8_addFirstRow, cX8_isWithin, cX8_isPage, cX8_isVersion, cX8_pageOf, cX8_slotOf, cX8_pick, cX8_put, cX8_copy, cX4_empty],
  [cX4_copyFrom, cX4_isOf, cX4_stamp, cX0_copyFrom, cX0_add, cX0_told, cX1_copyFrom, cX1_keyAt, cX1_placeAt, cX1_isKilled, cX1_kill, cX1_move, cX1_isBehind, cX1_add, cX1_dropAllTo, cX1_howManyLeadTo],
  [cX2_copyFrom, cX2_makeAnew, cX2_tell, cX2_kindAt, cX2_numberAt, cX2_count, cX2_countOf, cX3_copyFrom, cX3_strip, cX3_at, cX3_lengthOf, cX3_hasSlot, cX3_isClear, cX3_setClear, cX3_freeOf, cX3_freeInAll],
  [cX3_unusedOf, cX3_slotsThatAre, cX3_howManyHaveSlots, cX3_placeIn, cX3_firstPlace, cX3_take, cX3_dropUnusedBehind, cX7_makeAnew, cX7_copyFrom, cX7_has, cX7_stateOf, cX7_lowOf, cX7_waitsFor, cX7_howManyNoted, cX7_setNoted, cX7_isKnown],
  [cX7_open, cX7_end, cX7_endAll, cX7_horizonBut, cX7_firstAtHorizon, cX7_howManyOpen, cX7_howManyWait, cX7_letWait, cX7_ringLength, cX7_howManyWaitFor, cX6_hasRoomFor, cX6_takeInt, cX6_open, cX6_blame, cX6_told, cX6_readLine],
  [cX6_isTooLate, cX6_noteWord, cX6_readNumbers, cX6_canBe, cX6_readKind, cX6_isGood, cX6_byteAt, cX6_readToken, cX6_passAll, cX6_numberRead, cX6_wordRead, cX6_isSpelled, cX6_numbersOf, cX6_spelling, cX5_copyFrom, cX5_makeAnew],
  [cX5_hasRow, cX5_isDead, cX5_isDying, cX5_isSuch, cX5_versionsThatAre, cX5_isCounted, cX5_versionsOf, cX5_placeMade, cX5_madeAhead, cX5_deadUnitsOf, cX5_deadUnits, cX5_isSeen, cX5_seenPlace, cX5_chainFirst, cX5_chainNext, cX5_chainLength],
  [cX5_addRow, cX5_addVersion, cX5_endVersion, cX5_placeBehind, cX5_prunePage, cX5_pruneSlot, cX5_vacuumAll, cX5_clearStubs, cX5_tellPass, cX5_freezeOld, cX5_isClearNow, cX5_isForAll, cX5_isUnended, cX5_lookFor, cX5_goThrough, cX5_readsFor],
  [cX5_layAnew, cX5_layDown, cX5_lastingBehind, cX5_isLasting, cX5_isAhead, cX9_status, cX9_refuse, cX9_is, cX9_isIn, cX9_clears, cX9_copy, cX9_of, cX9_sets, cX9_isFull, cX9_isSlot, cX9_isVersion],
  [cX9_freeIn, cX9_placeIn, cX9_firstPlace, cX9_fills, cX9_stateOf, cX9_isOpen, cX9_isTxn, cX9_noted, cX9_isKnown, cX9_isWaiting, cX9_isSeen, cX9_lowOf, cX9_horizonBut, cX9_horizon, cX9_enderOf, cX9_isDead],
  [cX9_isDying, cX9_chainOf, cX9_chainNext, cX9_chainMany, cX9_tellsOf, cX9_goes, cX9_cuts, cX9_prunes, cX9_entryOf, cX9_leadsTo, cX9_enters, cX9_entriesTo, cX9_takesOut, cX9_passes, cX9_freezes, cX9_isClear],
  [cX9_vacuums, cX9_seenOf, cX9_inserts, cX9_endsAt, cX9_noTouch, cX9_isValue, cX9_insertNow, cX9_isRow, cX9_touched, cX9_updateNow, cX9_versionsOf, cX9_deleteNow, cX9_beginNow, cX9_closeNow, cX9_pruneNow, cX9_lookNow],
  [cX9_looks, cX9_looksAt, cX9_finds, cX9_isAnyOpen, cX9_lives, cX9_oldOf, cX9_isAhead, cX9_staying, cX9_repackNow, cX9_lays, cX9_feed, cX9_isOf, cX9_reads, cX9_must, cX9_key, cX9_takesNumbers],
  [cX9_doesAct, cX9_readsLine, cX9_load, cX9_fault, cX9_manyOf, cX9_waitMany, cX9_openMany, cX9_many, cX9_counts, cX9_isPage, cX9_deadUnits, cX9_unusedIn, cX9_page, cX9_asksSlot, cX9_slot, cX9_version],
  [cX9_entry, cX9_notedMany, cX9_txn, cX9_knows, cX9_sees, cX9_versions, cX9_madeAs, cX9_trail, cX9_event, cX9_begin, cX9_commit, cX9_abort, cX9_insert, cX9_update, cX9_delete, cX9_prune],
  [cX9_vacuum, cX9_look, cX9_found, cX9_repack, cX9_set, cX9_mark, cX9_back, cX9_asksOpen, cX9_without, cX9_enderFor, cX9_ringOf, cX9_await, cX9_ring, cX9_blocks, cX9_holder, cX9_allDead],
  [cX9_holds, cX9_allFree, cX9_gains, cX9_best, cX9_reads_, cX9_most]]
def q_b (m : Nat) : ByteArray := match q_bs[m / 16]? with | none => cX8_status | some l => match l[m % 16]? with | none => cX8_status | some c => c
def q_rts : List (List (Option FieldType)) := [[none, some .int, some .char, some .int, some .int, some .int, some .int, some .int, some .int, some .int, some .int, some .int, some .int, some .int, some .int, some .int],
  [some .int, some .int, some .int, some .int, some .int, some .int, some .int, some .int, some .int, some .int, some .int, some .int, some .int, some .int, some .int, some .int],
  [some .int, some .int, some .int, some .int, some .int, some .int, some .int, some .int, some .int, some .int, some .int, some .int, some .int, some .int, some .int, some .int],
  [some .int, some .int, some .int, some .int, some .int, none, none, some .boolean, some .boolean, some .boolean, some .int, some .int, some .int, none, none, none],
  [none, some .boolean, some .int, none, none, some .int, none, some .int, some .int, some .boolean, none, none, some .boolean, none, some .int, some .int],
  [none, none, none, some .int, some .int, none, some .int, none, none, some (.object "RowPruner$Slot"), some .int, some .boolean, some .boolean, none, some .int, some .int],
  [some .int, some .int, some .int, some .int, some .int, some .boolean, none, none, none, some .boolean, some .int, some .int, some .int, some .int, none, some .boolean],
  [some .int, none, none, some .int, some .int, some .int, some .int, none, some .int, some .int, some .boolean, none, none, none, some .int, some .boolean],
  [some .boolean, none, some .boolean, some .boolean, some .boolean, some .boolean, some .int, none, none, some .int, some .int, some .boolean, some .int, some (.object "java/lang/String"), none, none],
  [some .boolean, some .boolean, some .boolean, some .boolean, some .int, some .boolean, some .int, some .int, some .int, some .int, some .int, some .boolean, some .int, some .int, some .int, some .int],
  [some .int, none, none, some .int, some .int, some .int, some .int, some .int, none, none, some .boolean, some .boolean, some .boolean, some .int, none, some .int],
  [some .boolean, none, some .int, some .boolean, some .boolean, some .int, some .int, some .boolean, some .boolean, none, none, some .int, none, some .boolean, some .boolean, some .boolean],
  [some .int, some .int, some .int, none, some .int, some .boolean, some .boolean, some .boolean, some .boolean, some .boolean, some .boolean, some .int, some .int, some .int, some .int, some .boolean],
  [some .boolean, some .int, some .int, some .int, none, none, some .int, some .int, some .int, some .int, none, some .int, some .int, none, none, some .boolean],
  [some .int, some .int, some .int, none, some .int, some .boolean, some .int, some .boolean, some .int, some .int, some .int, some .int, some .int, some .int, some .int, some .int],
  [some .int, none, none, some .boolean, some .boolean, some .int, some .boolean, some .int, some .int, none, some .int, some .boolean, none, none, some .int, none],
  [some .int, none, some .int, some .int, some .int, some .int, some .int, some .int, some .int, some .boolean, some .int, some .int, some .int, some .boolean, some .int, some .int],
  [some .int, some .int, some .int, some .int, some .int, some .int, some .int, some .int, some .int, some .int, some .int, some .int, some .int, some .int, some .int, some .int],
  [some .int, some .int, some .int, some .int, some .int, some .int, some .int, some .boolean, some .int, some .int, some .int, some .int, some .int, some .int, some .int, some .int],
  [some .int, some .int, some .int, some .int, some .int, some .int]]
def q_rt (m : Nat) : (Option FieldType) := match q_rts[m / 16]? with | none => none | some l => match l[m % 16]? with | none => none | some c => c
def q_mcs : List (List Nat) := [[99, 12, 12, 11, 10, 8, 8, 8, 8, 8, 8, 8, 8, 8, 8, 8],
  [8, 8, 8, 8, 8, 8, 8, 8, 8, 8, 8, 8, 8, 8, 8, 8],
  [8, 8, 8, 8, 8, 8, 8, 8, 8, 8, 8, 8, 8, 8, 8, 8],
  [8, 8, 8, 8, 8, 8, 8, 8, 8, 8, 8, 8, 8, 8, 8, 4],
  [4, 4, 4, 0, 0, 0, 1, 1, 1, 1, 1, 1, 1, 1, 1, 1],
  [2, 2, 2, 2, 2, 2, 2, 3, 3, 3, 3, 3, 3, 3, 3, 3],
  [3, 3, 3, 3, 3, 3, 3, 7, 7, 7, 7, 7, 7, 7, 7, 7],
  [7, 7, 7, 7, 7, 7, 7, 7, 7, 7, 6, 6, 6, 6, 6, 6],
  [6, 6, 6, 6, 6, 6, 6, 6, 6, 6, 6, 6, 6, 6, 5, 5],
  [5, 5, 5, 5, 5, 5, 5, 5, 5, 5, 5, 5, 5, 5, 5, 5],
  [5, 5, 5, 5, 5, 5, 5, 5, 5, 5, 5, 5, 5, 5, 5, 5],
  [5, 5, 5, 5, 5, 9, 9, 9, 9, 9, 9, 9, 9, 9, 9, 9],
  [9, 9, 9, 9, 9, 9, 9, 9, 9, 9, 9, 9, 9, 9, 9, 9],
  [9, 9, 9, 9, 9, 9, 9, 9, 9, 9, 9, 9, 9, 9, 9, 9],
  [9, 9, 9, 9, 9, 9, 9, 9, 9, 9, 9, 9, 9, 9, 9, 9],
  [9, 9, 9, 9, 9, 9, 9, 9, 9, 9, 9, 9, 9, 9, 9, 9],
  [9, 9, 9, 9, 9, 9, 9, 9, 9, 9, 9, 9, 9, 9, 9, 9],
  [9, 9, 9, 9, 9, 9, 9, 9, 9, 9, 9, 9, 9, 9, 9, 9],
  [9, 9, 9, 9, 9, 9, 9, 9, 9, 9, 9, 9, 9, 9, 9, 9],
  [9, 9, 9, 9, 9, 9]]
def q_mc (m : Nat) : Nat := match q_mcs[m / 16]? with | none => 99 | some l => match l[m % 16]? with | none => 99 | some c => c
def q_nas : List (List Nat) := [[99, 0, 1, 2, 1, 0, 5, 1, 1, 1, 1, 2, 3, 3, 2, 2],
  [2, 3, 1, 3, 2, 0, 1, 1, 4, 5, 2, 2, 1, 0, 2, 2],
  [0, 2, 0, 0, 1, 2, 1, 0, 1, 1, 0, 2, 1, 1, 1, 1],
  [1, 2, 2, 2, 1, 0, 3, 3, 1, 3, 1, 1, 2, 3, 2, 1],
  [1, 1, 1, 1, 4, 2, 1, 1, 1, 1, 1, 2, 3, 2, 1, 1],
  [1, 0, 2, 1, 1, 2, 1, 1, 0, 1, 1, 2, 1, 2, 1, 0],
  [1, 1, 0, 2, 1, 1, 1, 0, 1, 1, 1, 1, 1, 1, 2, 2],
  [0, 2, 0, 1, 0, 0, 0, 2, 2, 1, 1, 1, 1, 2, 1, 0],
  [0, 0, 0, 1, 1, 1, 1, 0, 2, 0, 0, 1, 1, 1, 1, 0],
  [1, 1, 1, 2, 1, 2, 1, 2, 2, 1, 0, 2, 2, 1, 1, 1],
  [5, 7, 3, 2, 1, 1, 0, 0, 1, 0, 1, 1, 1, 2, 3, 1],
  [1, 2, 2, 1, 3, 0, 1, 1, 3, 0, 2, 2, 3, 1, 1, 1],
  [1, 2, 1, 7, 1, 1, 1, 2, 2, 1, 2, 1, 1, 0, 1, 2],
  [1, 1, 1, 1, 2, 1, 2, 1, 2, 1, 2, 1, 2, 0, 1, 2],
  [0, 2, 4, 4, 2, 3, 4, 1, 2, 5, 1, 2, 0, 2, 1, 2],
  [2, 4, 2, 0, 1, 2, 2, 0, 0, 1, 5, 3, 0, 3, 0, 1],
  [1, 0, 1, 1, 1, 0, 0, 1, 1, 1, 3, 1, 2, 3, 3, 3],
  [2, 1, 2, 2, 3, 1, 2, 3, 2, 0, 1, 1, 4, 5, 2, 1],
  [0, 2, 2, 0, 2, 0, 0, 1, 1, 2, 2, 2, 2, 1, 0, 0],
  [1, 0, 1, 0, 2, 1]]
def q_na (m : Nat) : Nat := match q_nas[m / 16]? with | none => 99 | some l => match l[m % 16]? with | none => 99 | some c => c
def q_vis : List (List Nat) := [[9, 1, 1, 0, 0, 1, 1, 1, 1, 1, 1, 1, 1, 1, 1, 1],
  [1, 1, 1, 1, 1, 1, 1, 1, 1, 1, 1, 1, 1, 1, 1, 1],
  [1, 1, 1, 1, 1, 1, 1, 1, 1, 1, 1, 1, 1, 1, 1, 1],
  [1, 1, 1, 1, 1, 1, 1, 0, 0, 0, 0, 0, 0, 0, 0, 1],
  [1, 1, 1, 1, 1, 1, 1, 1, 1, 1, 1, 1, 1, 1, 1, 1],
  [1, 1, 1, 1, 1, 1, 1, 1, 1, 1, 1, 1, 1, 1, 1, 1],
  [1, 1, 1, 1, 1, 1, 1, 1, 1, 1, 1, 1, 1, 1, 1, 1],
  [1, 1, 1, 1, 1, 1, 1, 1, 1, 1, 1, 1, 1, 1, 1, 1],
  [1, 1, 1, 1, 1, 1, 1, 1, 1, 1, 1, 1, 0, 0, 1, 1],
  [1, 1, 1, 1, 1, 1, 1, 1, 1, 1, 1, 1, 1, 1, 1, 1],
  [1, 1, 1, 1, 1, 1, 1, 1, 1, 1, 1, 1, 1, 1, 1, 1],
  [1, 1, 1, 1, 1, 1, 1, 1, 0, 1, 0, 1, 1, 1, 1, 1],
  [1, 1, 1, 1, 1, 1, 1, 1, 1, 1, 1, 1, 1, 1, 1, 1],
  [1, 1, 1, 1, 1, 1, 1, 1, 1, 1, 1, 1, 1, 1, 1, 1],
  [1, 1, 1, 1, 1, 1, 1, 1, 1, 1, 1, 1, 1, 1, 1, 1],
  [1, 1, 1, 1, 1, 1, 1, 1, 1, 1, 1, 1, 1, 1, 1, 1],
  [1, 1, 1, 1, 1, 1, 1, 1, 1, 0, 1, 1, 1, 1, 1, 1],
  [1, 1, 1, 1, 1, 1, 1, 1, 1, 1, 1, 1, 1, 1, 1, 1],
  [1, 1, 1, 1, 1, 1, 1, 1, 1, 1, 1, 1, 1, 1, 1, 1],
  [1, 1, 1, 1, 1, 1]]
def q_vi (m : Nat) : Nat := match q_vis[m / 16]? with | none => 9 | some l => match l[m % 16]? with | none => 9 | some c => c
def q_i0s : List (List Nat) := [[0, 635, 645, 524, 1140, 481, 485, 498, 1042, 1046, 1070, 1078, 1093, 1111, 1125, 1132],
  [1147, 1152, 1156, 1160, 1172, 774, 906, 916, 799, 824, 898, 1190, 920, 928, 972, 1209],
  [1007, 1221, 1225, 1229, 1233, 1238, 1242, 1251, 1259, 1268, 1280, 1284, 1292, 795, 502, 815],
  [811, 832, 828, 1194, 1276, 702, 710, 590, 923, 802, 742, 745, 587, 326, 521, 239],
  [518, 844, 1115, 548, 997, 1213, 538, 980, 944, 984, 1003, 769, 764, 760, 940, 1103],
  [543, 564, 885, 1176, 1180, 753, 1074, 510, 557, 514, 726, 1097, 989, 749, 722, 1272],
  [1088, 1062, 1036, 718, 714, 739, 952, 323, 531, 807, 782, 790, 820, 1137, 330, 852],
  [778, 910, 1296, 786, 1255, 1011, 1066, 1202, 1198, 1246, 489, 493, 568, 606, 706, 572],
  [683, 687, 691, 698, 576, 602, 584, 580, 594, 598, 610, 631, 694, 613, 506, 553],
  [836, 875, 1058, 1121, 1050, 1054, 902, 1164, 1168, 1084, 1263, 848, 840, 871, 880, 1107],
  [731, 735, 894, 857, 863, 867, 932, 936, 948, 956, 960, 964, 968, 976, 993, 1288],
  [1015, 1031, 1019, 1023, 1027, 1413, 1517, 1432, 1428, 1321, 1435, 1481, 1493, 1477, 1565, 1561],
  [1473, 1469, 1465, 1489, 1525, 1521, 1537, 1577, 1573, 1541, 1569, 1601, 1597, 1593, 1585, 1613],
  [1729, 1609, 1617, 1764, 1625, 1621, 1605, 1589, 1501, 1505, 1497, 1760, 1657, 1653, 1661, 1665],
  [1649, 1557, 1485, 1629, 1581, 1533, 1529, 1553, 1549, 1545, 1637, 1633, 1513, 1641, 1645, 1669],
  [1673, 1677, 1681, 1689, 1697, 1705, 1701, 1693, 1685, 1421, 1417, 1443, 1439, 1457, 1453, 1461],
  [1509, 1449, 1425, 1709, 1725, 1721, 1717, 1713, 1733, 1740, 1744, 1748, 1737, 1756, 1752, 1768],
  [1772, 1780, 1776, 1784, 1788, 1792, 1800, 1796, 1804, 1808, 1812, 1816, 1820, 1824, 1828, 1832],
  [1836, 1840, 1844, 1848, 1852, 1856, 1860, 1868, 1864, 1876, 1880, 1872, 1884, 1888, 1892, 1900],
  [1896, 1908, 1904, 1912, 1916, 1920]]
def q_i0 (m : Nat) : Nat := match q_i0s[m / 16]? with | none => 0 | some l => match l[m % 16]? with | none => 0 | some c => c
def q_i1s : List (List Nat) := [[0, 633, 643, 523, 1139, 479, 483, 496, 1040, 1044, 1068, 1076, 1091, 1109, 1123, 1130],
  [1145, 1150, 1154, 1158, 1170, 772, 904, 914, 797, 822, 896, 1188, 918, 926, 970, 1207],
  [1005, 1219, 1223, 1227, 1231, 1236, 1240, 1249, 1257, 1266, 1278, 1282, 1290, 794, 501, 814],
  [810, 831, 827, 1193, 1275, 701, 709, 589, 922, 801, 741, 744, 586, 325, 520, 237],
  [516, 842, 1113, 546, 995, 1211, 536, 978, 942, 982, 1001, 768, 763, 758, 938, 1101],
  [541, 562, 883, 1174, 1178, 751, 1072, 508, 555, 512, 724, 1095, 987, 747, 720, 1270],
  [1086, 1060, 1034, 716, 712, 737, 950, 321, 529, 805, 780, 788, 818, 1135, 329, 850],
  [776, 908, 1294, 784, 1253, 1009, 1064, 1200, 1196, 1244, 487, 491, 566, 604, 704, 570],
  [682, 686, 690, 697, 575, 601, 583, 579, 593, 597, 609, 630, 693, 612, 504, 551],
  [834, 873, 1057, 1119, 1048, 1053, 900, 1162, 1167, 1082, 1261, 846, 838, 869, 878, 1105],
  [729, 733, 892, 855, 861, 866, 930, 935, 947, 955, 959, 963, 967, 974, 992, 1286],
  [1013, 1030, 1018, 1022, 1026, 1411, 1516, 1431, 1427, 1320, 1434, 1480, 1492, 1476, 1564, 1560],
  [1472, 1468, 1464, 1488, 1524, 1520, 1536, 1576, 1572, 1540, 1568, 1600, 1596, 1592, 1584, 1612],
  [1728, 1608, 1616, 1763, 1624, 1620, 1604, 1588, 1500, 1504, 1496, 1759, 1656, 1652, 1660, 1664],
  [1648, 1556, 1484, 1628, 1580, 1532, 1528, 1552, 1548, 1544, 1636, 1632, 1512, 1640, 1644, 1668],
  [1672, 1676, 1680, 1688, 1696, 1704, 1700, 1692, 1684, 1420, 1415, 1442, 1438, 1456, 1452, 1460],
  [1508, 1448, 1423, 1707, 1724, 1720, 1716, 1711, 1731, 1739, 1743, 1747, 1735, 1755, 1750, 1766],
  [1770, 1779, 1774, 1782, 1786, 1790, 1799, 1794, 1802, 1806, 1810, 1814, 1818, 1822, 1826, 1830],
  [1834, 1838, 1842, 1846, 1850, 1854, 1858, 1867, 1862, 1875, 1879, 1870, 1882, 1886, 1890, 1899],
  [1894, 1907, 1902, 1910, 1914, 1918]]
def q_i1 (m : Nat) : Nat := match q_i1s[m / 16]? with | none => 0 | some l => match l[m % 16]? with | none => 0 | some c => c
def q_i2s : List (List Nat) := [[0, 634, 644, 0, 0, 480, 484, 497, 1041, 1045, 1069, 1077, 1092, 1110, 1124, 1131],
  [1146, 1151, 1155, 1159, 1171, 773, 905, 915, 798, 823, 897, 1189, 919, 927, 971, 1208],
  [1006, 1220, 1224, 1228, 1232, 1237, 1241, 1250, 1258, 1267, 1279, 1283, 1291, 18, 1, 20],
  [19, 22, 21, 38, 39, 14, 15, 0, 0, 0, 0, 0, 0, 0, 0, 238],
  [517, 843, 1114, 547, 996, 1212, 537, 979, 943, 983, 1002, 17, 16, 759, 939, 1102],
  [542, 563, 884, 1175, 1179, 752, 1073, 509, 556, 513, 725, 1096, 988, 748, 721, 1271],
  [1087, 1061, 1035, 717, 713, 738, 951, 322, 530, 806, 781, 789, 819, 1136, 0, 851],
  [777, 909, 1295, 785, 1254, 1010, 1065, 1201, 1197, 1245, 488, 492, 567, 605, 705, 571],
  [10, 11, 12, 13, 2, 7, 4, 3, 5, 6, 8, 9, 0, 0, 505, 552],
  [835, 874, 36, 1120, 1049, 35, 901, 1163, 37, 1083, 1262, 847, 839, 870, 879, 1106],
  [730, 734, 893, 856, 862, 23, 931, 24, 25, 26, 27, 28, 29, 975, 30, 1287],
  [1014, 34, 31, 32, 33, 1412, 62, 42, 0, 40, 0, 53, 56, 52, 74, 73],
  [51, 50, 49, 55, 64, 63, 67, 77, 76, 68, 75, 83, 82, 81, 79, 86],
  [113, 85, 87, 118, 89, 88, 84, 80, 58, 59, 57, 117, 97, 96, 98, 99],
  [95, 72, 54, 90, 78, 66, 65, 71, 70, 69, 92, 91, 61, 93, 94, 100],
  [101, 102, 103, 105, 107, 109, 108, 106, 104, 41, 1416, 44, 43, 47, 46, 48],
  [60, 45, 1424, 1708, 112, 111, 110, 1712, 1732, 0, 114, 115, 1736, 116, 1751, 1767],
  [1771, 119, 1775, 1783, 1787, 1791, 120, 1795, 1803, 1807, 1811, 1815, 1819, 1823, 1827, 1831],
  [1835, 1839, 1843, 1847, 1851, 1855, 1859, 121, 1863, 122, 123, 1871, 1883, 1887, 1891, 124],
  [1895, 125, 1903, 1911, 1915, 1919]]
def q_i2 (m : Nat) : Nat := match q_i2s[m / 16]? with | none => 0 | some l => match l[m % 16]? with | none => 0 | some c => c
def q_i3s : List (List Nat) := [[0, 139, 139, 137, 143, 127, 127, 127, 127, 127, 127, 127, 127, 127, 127, 127],
  [127, 127, 127, 127, 127, 127, 127, 127, 127, 127, 127, 127, 127, 127, 127, 127],
  [127, 127, 127, 127, 127, 127, 127, 127, 127, 127, 127, 127, 127, 127, 127, 127],
  [127, 127, 127, 127, 127, 127, 127, 127, 127, 127, 127, 127, 127, 127, 127, 131],
  [131, 131, 131, 135, 135, 135, 133, 133, 133, 133, 133, 133, 133, 133, 133, 133],
  [134, 134, 134, 134, 134, 134, 134, 130, 130, 130, 130, 130, 130, 130, 130, 130],
  [130, 130, 130, 130, 130, 130, 130, 132, 132, 132, 132, 132, 132, 132, 132, 132],
  [132, 132, 132, 132, 132, 132, 132, 132, 132, 132, 128, 128, 128, 128, 128, 128],
  [128, 128, 128, 128, 128, 128, 128, 128, 128, 128, 128, 128, 128, 128, 129, 129],
  [129, 129, 129, 129, 129, 129, 129, 129, 129, 129, 129, 129, 129, 129, 129, 129],
  [129, 129, 129, 129, 129, 129, 129, 129, 129, 129, 129, 129, 129, 129, 129, 129],
  [129, 129, 129, 129, 129, 136, 136, 136, 136, 136, 136, 136, 136, 136, 136, 136],
  [136, 136, 136, 136, 136, 136, 136, 136, 136, 136, 136, 136, 136, 136, 136, 136],
  [136, 136, 136, 136, 136, 136, 136, 136, 136, 136, 136, 136, 136, 136, 136, 136],
  [136, 136, 136, 136, 136, 136, 136, 136, 136, 136, 136, 136, 136, 136, 136, 136],
  [136, 136, 136, 136, 136, 136, 136, 136, 136, 136, 136, 136, 136, 136, 136, 136],
  [136, 136, 136, 136, 136, 136, 136, 136, 136, 136, 136, 136, 136, 136, 136, 136],
  [136, 136, 136, 136, 136, 136, 136, 136, 136, 136, 136, 136, 136, 136, 136, 136],
  [136, 136, 136, 136, 136, 136, 136, 136, 136, 136, 136, 136, 136, 136, 136, 136],
  [136, 136, 136, 136, 136, 136]]
def q_i3 (m : Nat) : Nat := match q_i3s[m / 16]? with | none => 0 | some l => match l[m % 16]? with | none => 0 | some c => c
/-- the classes by number -/
def q_cns : List String := [RX0, RX1, RX2, RX3, RX4, RX5, RX6, RX7, RX8, RX9, RJ13, RJ9, RJ0]
def q_cn (c : Nat) : String := match q_cns[c]? with | none => "" | some r => r
def q_ci (t : Nat) : Nat := bif Nat.beq t 3 then 4 else bif Nat.beq t 0 then 5 else bif Nat.beq t 1 then 3 else bif Nat.beq t 6 then 7 else bif Nat.beq t 11 then 1 else bif Nat.beq t 15 then 2 else bif Nat.beq t 19 then 0 else bif Nat.beq t 24 then 8 else bif Nat.beq t 25 then 6 else bif Nat.beq t 30 then 9 else bif Nat.beq t 60 then 12 else 99
def q_tags : List Nat := [0, 1, 3, 6, 11, 15, 19, 24, 25, 30]
def q_Tn (t : Nat) : vw_C := match vwCl[q_ci t]? with | none => (RX9, TX9, 29) | some c => c
def q_Tf (x : Nat) : String × String × String × Bool := (q_Tn (x / 32)).2.1 (x % 32)
def lw_tblG : List Cond := lw_tbl.filter goodWord
def q_tw (i : Nat) (w : Cond) : Bool := decide (lw_tbl[i]? = some w) && goodWord w
theorem q_tw_in {i : Nat} {w : Cond} (h : q_tw i w = true) : w ∈ lw_tblG := by
  unfold q_tw at h
  rw [Bool.and_eq_true, decide_eq_true_eq] at h
  exact List.mem_filter.mpr ⟨List.mem_of_getElem? h.1, h.2⟩
def q_fls : List (Nat × Nat × Nat × Nat) := [(8, 12, 768, 456), (8, 19, 769, 457), (8, 23, 770, 458), (8, 26, 771, 459), (8, 29, 772, 460), (8, 33, 774, 462), (8, 45, 801, 160), (8, 69, 815, 178), (8, 72, 7, 434), (8, 78, 814, 176), (8, 82, 816, 180), (8, 85, 0, 420), (8, 89, 36, 302), (8, 94, 5, 430), (8, 97, 6, 432), (8, 100, 1, 422), (8, 104, 196, 336), (8, 109, 197, 339), (8, 112, 2, 424), (8, 116, 355, 365), (8, 127, 773, 461), (8, 137, 3, 426), (8, 172, 96, 242), (8, 177, 97, 245), (8, 233, 99, 250), (8, 236, 100, 253), (8, 245, 483, 385), (8, 316, 4, 428), (8, 320, 612, 407), (8, 357, 103, 262), (8, 362, 807, 167), (8, 399, 808, 169), (0, 9, 608, 401), (0, 15, 609, 402), (0, 18, 610, 403), (0, 21, 611, 404), (0, 28, 612, 405), (1, 9, 352, 360), (1, 15, 353, 361), (1, 18, 354, 362), (1, 25, 355, 363), (2, 9, 480, 381), (2, 15, 481, 382), (2, 18, 482, 383), (2, 25, 483, 384), (3, 11, 32, 296), (3, 18, 33, 297), (3, 22, 34, 298), (3, 26, 35, 299), (3, 29, 36, 300), (3, 65, 101, 256), (3, 71, 96, 243), (4, 15, 96, 240), (4, 19, 97, 244), (4, 22, 98, 247), (4, 25, 99, 249), (4, 28, 100, 252), (4, 31, 101, 255), (4, 34, 102, 258), (4, 37, 103, 260), (4, 40, 104, 263), (4, 43, 105, 265), (4, 46, 106, 267), (4, 50, 107, 269), (5, 12, 0, 419), (5, 21, 1, 421), (5, 28, 2, 423), (5, 35, 3, 425), (5, 42, 4, 427), (5, 46, 5, 429), (5, 50, 6, 431), (5, 69, 7, 433), (5, 72, 8, 435), (5, 78, 36, 301), (5, 84, 355, 364), (5, 88, 612, 406), (5, 89, 96, 241), (5, 94, 107, 270), (5, 98, 102, 259), (5, 105, 103, 261), (5, 108, 197, 338), (5, 115, 106, 268), (5, 133, 105, 266), (5, 138, 101, 257), (5, 152, 97, 246), (5, 155, 104, 264), (5, 178, 98, 248), (5, 181, 99, 251), (5, 184, 100, 254), (6, 9, 800, 158), (6, 15, 809, 170), (6, 18, 816, 179), (6, 22, 801, 159), (6, 29, 802, 161), (6, 32, 803, 162), (6, 35, 810, 171), (6, 39, 811, 172), (6, 42, 812, 173), (6, 45, 813, 174), (6, 48, 814, 175), (6, 51, 815, 177), (6, 65, 804, 163), (6, 75, 807, 166), (6, 78, 805, 164), (6, 81, 808, 168), (6, 105, 806, 165), (7, 9, 192, 331), (7, 15, 193, 332), (7, 18, 194, 333), (7, 21, 195, 334), (7, 36, 196, 335), (7, 40, 197, 337), (9, 7, 960, 1322), (9, 13, 961, 1323), (9, 16, 962, 1324), (9, 19, 963, 1325), (9, 22, 964, 1326), (9, 25, 968, 1330), (9, 28, 970, 1332), (9, 31, 971, 1333), (9, 35, 973, 1335), (9, 39, 974, 1336), (9, 70, 983, 1345), (9, 74, 984, 1346), (9, 77, 985, 1347), (9, 83, 967, 1329), (9, 86, 966, 1328), (9, 170, 969, 1331), (9, 265, 972, 1334), (9, 271, 981, 1343), (9, 274, 978, 1340), (9, 277, 977, 1339), (9, 280, 979, 1341), (9, 286, 982, 1344), (9, 294, 980, 1342), (9, 297, 975, 1337), (9, 300, 976, 1338), (9, 341, 986, 1348), (9, 344, 987, 1349), (9, 348, 988, 1350), (9, 366, 965, 1327)]
def q_fw (own idx x : Nat) : Cond := .fieldLink (q_cn own) idx (q_Tf x).1 (q_Tf x).2.1 (q_Tf x).2.2.1
def q_mls_ : List (Nat × Nat × Nat × Nat) := [(8, 37, 122, 486), (8, 41, 123, 490), (8, 48, 46, 499), (8, 52, 142, 503), (8, 56, 143, 550), (8, 59, 124, 565), (8, 62, 127, 569), (8, 66, 53, 699), (8, 75, 45, 792), (8, 121, 148, 1047), (8, 124, 97, 1059), (8, 130, 117, 1008), (8, 134, 118, 1063), (8, 141, 86, 1071), (8, 146, 56, 921), (8, 149, 90, 1079), (8, 152, 94, 1080), (8, 155, 153, 1081), (8, 158, 96, 1085), (8, 161, 92, 1089), (8, 164, 91, 1094), (8, 168, 89, 853), (8, 180, 59, 1099), (8, 183, 79, 1100), (8, 186, 159, 1104), (8, 189, 66, 1112), (8, 192, 147, 1118), (8, 196, 71, 1126), (8, 199, 72, 1127), (8, 202, 58, 889), (8, 205, 73, 1128), (8, 208, 105, 804), (8, 211, 106, 816), (8, 214, 107, 1133), (8, 217, 109, 1134), (8, 220, 108, 817), (8, 223, 111, 1148), (8, 226, 144, 833), (8, 229, 156, 837), (8, 239, 150, 899), (8, 242, 151, 1161), (8, 246, 83, 1173), (8, 249, 84, 1177), (8, 252, 112, 775), (8, 254, 48, 808), (8, 257, 113, 907), (8, 261, 82, 912), (8, 264, 47, 812), (8, 267, 57, 800), (8, 271, 100, 711), (8, 274, 160, 728), (8, 278, 50, 825), (8, 281, 163, 854), (8, 284, 161, 890), (8, 288, 162, 891), (8, 292, 49, 829), (8, 295, 51, 1191), (8, 298, 120, 1195), (8, 301, 119, 1199), (8, 304, 164, 924), (8, 307, 166, 929), (8, 310, 55, 803), (8, 313, 173, 973), (8, 323, 69, 1210), (8, 326, 176, 1012), (8, 330, 98, 1033), (8, 333, 115, 1234), (8, 336, 121, 1243), (8, 339, 116, 1252), (8, 342, 154, 1260), (8, 345, 95, 1269), (8, 348, 52, 1273), (8, 351, 175, 1285), (8, 354, 114, 1293), (8, 360, 126, 703), (8, 365, 54, 707), (8, 368, 21, 771), (8, 371, 24, 796), (8, 375, 25, 821), (8, 378, 26, 895), (8, 381, 22, 903), (8, 384, 23, 913), (8, 387, 28, 917), (8, 390, 29, 925), (8, 393, 30, 969), (8, 396, 32, 1004), (8, 402, 125, 1037), (8, 405, 3, 522), (0, 36, 3, 999), (1, 37, 76, 761), (1, 41, 75, 766), (1, 45, 72, 941), (2, 37, 3, 886), (3, 33, 89, 511), (3, 37, 64, 515), (3, 45, 63, 558), (3, 61, 90, 723), (3, 68, 94, 719), (3, 74, 99, 715), (3, 84, 93, 746), (4, 9, 63, 236), (5, 53, 87, 507), (5, 57, 104, 528), (5, 60, 70, 535), (5, 63, 80, 540), (5, 66, 67, 545), (5, 75, 88, 554), (5, 81, 103, 560), (5, 87, 81, 561), (5, 101, 106, 876), (5, 111, 145, 872), (5, 118, 146, 1055), (5, 121, 89, 756), (5, 125, 149, 1051), (5, 129, 65, 841), (5, 134, 152, 1165), (5, 141, 153, 1264), (5, 144, 111, 849), (5, 148, 155, 845), (5, 161, 157, 868), (5, 164, 158, 877), (5, 167, 161, 732), (5, 171, 101, 736), (5, 174, 85, 750), (5, 187, 77, 757), (5, 190, 93, 887), (5, 194, 99, 859), (5, 197, 164, 860), (5, 200, 100, 888), (5, 203, 165, 864), (5, 206, 63, 881), (5, 210, 82, 882), (5, 213, 167, 933), (5, 217, 102, 949), (5, 220, 169, 953), (5, 223, 170, 957), (5, 226, 78, 937), (5, 229, 168, 945), (5, 232, 171, 961), (5, 235, 172, 965), (5, 238, 71, 977), (5, 241, 73, 981), (5, 244, 72, 985), (5, 247, 92, 986), (5, 250, 174, 990), (5, 254, 68, 994), (5, 257, 74, 1000), (5, 260, 178, 1016), (5, 263, 177, 1028), (5, 267, 64, 1032), (5, 270, 179, 1020), (5, 273, 180, 1024), (6, 58, 132, 573), (6, 62, 135, 577), (6, 68, 133, 599), (6, 71, 138, 607), (6, 84, 125, 603), (6, 88, 128, 680), (6, 92, 129, 684), (6, 95, 130, 688), (6, 98, 140, 692), (6, 102, 131, 695), (6, 112, 134, 581), (6, 115, 136, 591), (6, 118, 137, 595), (6, 121, 141, 611), (6, 125, 139, 628), (6, 129, 1, 632), (6, 133, 2, 642), (7, 25, 103, 320), (7, 32, 110, 327), (7, 47, 3, 533), (7, 63, 4, 1138), (7, 69, 106, 779), (7, 73, 115, 783), (7, 76, 108, 911), (7, 79, 113, 1297), (7, 83, 107, 787), (7, 86, 120, 1247), (9, 80, 185, 1318), (9, 89, 187, 1478), (9, 93, 190, 1562), (9, 97, 189, 1474), (9, 100, 192, 1470), (9, 104, 193, 1466), (9, 107, 188, 1490), (9, 111, 196, 1522), (9, 114, 184, 1426), (9, 118, 199, 1574), (9, 122, 200, 1570), (9, 125, 197, 1518), (9, 128, 203, 1598), (9, 131, 204, 1594), (9, 134, 206, 1582), (9, 137, 205, 1590), (9, 141, 207, 1610), (9, 144, 191, 1558), (9, 147, 209, 1606), (9, 150, 210, 1614), (9, 153, 213, 1618), (9, 157, 212, 1622), (9, 161, 214, 1602), (9, 164, 216, 1498), (9, 167, 217, 1502), (9, 173, 220, 1654), (9, 176, 215, 1586), (9, 179, 221, 1650), (9, 182, 222, 1658), (9, 185, 223, 1662), (9, 188, 202, 1566), (9, 191, 194, 1462), (9, 194, 195, 1486), (9, 198, 218, 1494), (9, 201, 229, 1530), (9, 204, 182, 1514), (9, 207, 198, 1534), (9, 210, 201, 1538), (9, 213, 226, 1482), (9, 217, 231, 1550), (9, 220, 225, 1554), (9, 223, 228, 1578), (9, 226, 232, 1546), (9, 229, 186, 1433), (9, 233, 227, 1626), (9, 237, 234, 1634), (9, 240, 240, 1670), (9, 243, 241, 1674), (9, 246, 242, 1678), (9, 249, 245, 1702), (9, 252, 244, 1694), (9, 255, 246, 1698), (9, 258, 243, 1686), (9, 262, 247, 1690), (9, 268, 249, 1418), (9, 283, 251, 1440), (9, 303, 253, 1454), (9, 307, 252, 1436), (9, 310, 236, 1510), (9, 313, 230, 1526), (9, 316, 233, 1542), (9, 320, 235, 1630), (9, 323, 237, 1638), (9, 326, 238, 1642), (9, 329, 224, 1646), (9, 332, 239, 1666), (9, 335, 248, 1682), (9, 338, 254, 1450), (9, 351, 255, 1458), (9, 354, 256, 1506), (9, 357, 183, 1429), (9, 360, 257, 1446), (9, 363, 208, 1726), (9, 369, 262, 1714), (9, 372, 261, 1718), (9, 375, 260, 1722), (9, 378, 265, 1738), (9, 381, 266, 1741), (9, 385, 267, 1745), (9, 388, 269, 1753), (9, 392, 219, 1757), (9, 395, 211, 1761), (9, 398, 273, 1777), (9, 401, 278, 1797), (9, 404, 295, 1865), (9, 407, 297, 1873), (9, 410, 298, 1877), (9, 413, 303, 1897), (9, 416, 305, 1905)]
def q_mw (own idx m : Nat) : Cond := .methodLink (q_cn own) idx (q_y m)
def q_nes : List (Nat × Nat × Nat × Nat) := [(0, 24, 62, 549), (0, 32, 61, 998), (0, 42, 60, 1214), (0, 46, 58, 1215), (0, 50, 59, 1216), (1, 21, 62, 539), (1, 29, 60, 765), (1, 33, 61, 770), (2, 21, 62, 544), (2, 29, 60, 754), (2, 33, 61, 755), (3, 41, 62, 519), (3, 49, 61, 559), (3, 53, 60, 727), (3, 57, 56, 1098), (3, 78, 58, 740), (3, 81, 59, 743), (4, 53, 58, 1116), (4, 57, 59, 1117), (5, 158, 58, 858), (6, 25, 61, 494), (6, 54, 60, 585), (6, 108, 55, 588), (7, 28, 61, 324), (7, 43, 62, 532), (7, 59, 60, 791)]
def q_nw (own idx m : Nat) : Cond := .methodLinkNest (q_cn own) idx (q_y m) RX8
def q_cls : List (Nat × Nat × Nat × Nat) := [(9, 42, 11442943, 1304), (9, 44, 1097234, 1305), (9, 46, 923, 1306), (9, 48, 13550, 1307), (9, 50, 1166657, 1308), (9, 52, 136958465, 1309), (9, 54, 309910109, 1310), (9, 56, 60293219, 1311), (9, 58, 51283955, 1312), (9, 60, 582248, 1313), (9, 62, 8873042, 1314), (9, 64, 316282333, 1315), (9, 66, 247547, 1316), (9, 68, 261253280, 1317), (9, 290, 27, 1444), (9, 292, 96, 1445), (10, 314, 6148914691236517205, 1141), (10, 316, 3689348814741910323, 1142), (10, 318, 1085102592571150095, 1143)]
def q_cw (own idx x : Nat) : Cond := .constantLong (q_cn own) idx (Int64.ofNat x)
def q_sds : List Nat := [137, 139, 141, 143, 145, 147, 149, 151, 153, 155, 157, 159, 161, 163]
theorem q_g1 {i : Nat} {w : Cond} (h0 : tables_1_1[i]? = some w) (g : goodWord w = true) : w ∈ lw_tblG := by
  have h := List.mem_of_getElem? h0
  exact List.mem_filter.mpr ⟨List.mem_append_right _ (show w ∈ tables_1 from List.mem_append_left _ h), g⟩
theorem q_u1 {i : Nat} {w : Cond} (h0 : tables_1_1[i]? = some w) : w ∈ lw_tbl := by
  have h := List.mem_of_getElem? h0
  exact List.mem_append_right _ (show w ∈ tables_1 from List.mem_append_left _ h)
theorem q_g2 {i : Nat} {w : Cond} (h0 : tables_1_2[i]? = some w) (g : goodWord w = true) : w ∈ lw_tblG := by
  have h := List.mem_of_getElem? h0
  exact List.mem_filter.mpr ⟨List.mem_append_right _ (show w ∈ tables_1 from List.mem_append_right _ (List.mem_append_left _ h)), g⟩
theorem q_u2 {i : Nat} {w : Cond} (h0 : tables_1_2[i]? = some w) : w ∈ lw_tbl := by
  have h := List.mem_of_getElem? h0
  exact List.mem_append_right _ (show w ∈ tables_1 from List.mem_append_right _ (List.mem_append_left _ h))
theorem q_g3 {i : Nat} {w : Cond} (h0 : tables_1_3[i]? = some w) (g : goodWord w = true) : w ∈ lw_tblG := by
  have h := List.mem_of_getElem? h0
  exact List.mem_filter.mpr ⟨List.mem_append_right _ (show w ∈ tables_1 from List.mem_append_right _ (List.mem_append_right _ (List.mem_append_left _ h))), g⟩
theorem q_u3 {i : Nat} {w : Cond} (h0 : tables_1_3[i]? = some w) : w ∈ lw_tbl := by
  have h := List.mem_of_getElem? h0
  exact List.mem_append_right _ (show w ∈ tables_1 from List.mem_append_right _ (List.mem_append_right _ (List.mem_append_left _ h)))
theorem q_g4 {i : Nat} {w : Cond} (h0 : tables_1_4[i]? = some w) (g : goodWord w = true) : w ∈ lw_tblG := by
  have h := List.mem_of_getElem? h0
  exact List.mem_filter.mpr ⟨List.mem_append_right _ (show w ∈ tables_1 from List.mem_append_right _ (List.mem_append_right _ (List.mem_append_right _ (List.mem_append_left _ h)))), g⟩
theorem q_u4 {i : Nat} {w : Cond} (h0 : tables_1_4[i]? = some w) : w ∈ lw_tbl := by
  have h := List.mem_of_getElem? h0
  exact List.mem_append_right _ (show w ∈ tables_1 from List.mem_append_right _ (List.mem_append_right _ (List.mem_append_right _ (List.mem_append_left _ h))))
theorem q_g5 {i : Nat} {w : Cond} (h0 : tables_1_5[i]? = some w) (g : goodWord w = true) : w ∈ lw_tblG := by
  have h := List.mem_of_getElem? h0
  exact List.mem_filter.mpr ⟨List.mem_append_right _ (show w ∈ tables_1 from List.mem_append_right _ (List.mem_append_right _ (List.mem_append_right _ (List.mem_append_right _ (List.mem_append_left _ h))))), g⟩
theorem q_u5 {i : Nat} {w : Cond} (h0 : tables_1_5[i]? = some w) : w ∈ lw_tbl := by
  have h := List.mem_of_getElem? h0
  exact List.mem_append_right _ (show w ∈ tables_1 from List.mem_append_right _ (List.mem_append_right _ (List.mem_append_right _ (List.mem_append_right _ (List.mem_append_left _ h)))))
theorem q_g6 {i : Nat} {w : Cond} (h0 : tables_1_6[i]? = some w) (g : goodWord w = true) : w ∈ lw_tblG := by
  have h := List.mem_of_getElem? h0
  exact List.mem_filter.mpr ⟨List.mem_append_right _ (show w ∈ tables_1 from List.mem_append_right _ (List.mem_append_right _ (List.mem_append_right _ (List.mem_append_right _ (List.mem_append_right _ (List.mem_append_left _ h)))))), g⟩
theorem q_u6 {i : Nat} {w : Cond} (h0 : tables_1_6[i]? = some w) : w ∈ lw_tbl := by
  have h := List.mem_of_getElem? h0
  exact List.mem_append_right _ (show w ∈ tables_1 from List.mem_append_right _ (List.mem_append_right _ (List.mem_append_right _ (List.mem_append_right _ (List.mem_append_right _ (List.mem_append_left _ h))))))
theorem q_g7 {i : Nat} {w : Cond} (h0 : tables_1_7[i]? = some w) (g : goodWord w = true) : w ∈ lw_tblG := by
  have h := List.mem_of_getElem? h0
  exact List.mem_filter.mpr ⟨List.mem_append_right _ (show w ∈ tables_1 from List.mem_append_right _ (List.mem_append_right _ (List.mem_append_right _ (List.mem_append_right _ (List.mem_append_right _ (List.mem_append_right _ (List.mem_append_left _ h))))))), g⟩
theorem q_u7 {i : Nat} {w : Cond} (h0 : tables_1_7[i]? = some w) : w ∈ lw_tbl := by
  have h := List.mem_of_getElem? h0
  exact List.mem_append_right _ (show w ∈ tables_1 from List.mem_append_right _ (List.mem_append_right _ (List.mem_append_right _ (List.mem_append_right _ (List.mem_append_right _ (List.mem_append_right _ (List.mem_append_left _ h)))))))
theorem q_g8 {i : Nat} {w : Cond} (h0 : tables_1_8[i]? = some w) (g : goodWord w = true) : w ∈ lw_tblG := by
  have h := List.mem_of_getElem? h0
  exact List.mem_filter.mpr ⟨List.mem_append_right _ (show w ∈ tables_1 from List.mem_append_right _ (List.mem_append_right _ (List.mem_append_right _ (List.mem_append_right _ (List.mem_append_right _ (List.mem_append_right _ (List.mem_append_right _ (h)))))))), g⟩
theorem q_u8 {i : Nat} {w : Cond} (h0 : tables_1_8[i]? = some w) : w ∈ lw_tbl := by
  have h := List.mem_of_getElem? h0
  exact List.mem_append_right _ (show w ∈ tables_1 from List.mem_append_right _ (List.mem_append_right _ (List.mem_append_right _ (List.mem_append_right _ (List.mem_append_right _ (List.mem_append_right _ (List.mem_append_right _ (h))))))))
theorem q_gp {i : Nat} {w : Cond} (h0 : (k2_sels lw_privs)[i]? = some w) (g : goodWord w = true) : w ∈ lw_tblG := List.mem_filter.mpr ⟨List.mem_append_left _ (List.mem_of_getElem? h0), g⟩
set_option maxRecDepth 100000 in
theorem q_fls_ok_0 : ∀ e ∈ ([(8, 12, 768, 456), (8, 19, 769, 457), (8, 23, 770, 458), (8, 26, 771, 459), (8, 29, 772, 460), (8, 33, 774, 462), (8, 45, 801, 160), (8, 69, 815, 178), (8, 72, 7, 434), (8, 78, 814, 176), (8, 82, 816, 180), (8, 85, 0, 420)] : List (Nat × Nat × Nat × Nat)), q_fw e.1 e.2.1 e.2.2.1 ∈ lw_tblG := List.forall_mem_cons.mpr ⟨q_g2 (i := 90) rfl rfl, List.forall_mem_cons.mpr ⟨q_g2 (i := 91) rfl rfl, List.forall_mem_cons.mpr ⟨q_g2 (i := 92) rfl rfl, List.forall_mem_cons.mpr ⟨q_g2 (i := 93) rfl rfl, List.forall_mem_cons.mpr ⟨q_g2 (i := 94) rfl rfl, List.forall_mem_cons.mpr ⟨q_g2 (i := 96) rfl rfl, List.forall_mem_cons.mpr ⟨q_g1 (i := 34) rfl rfl, List.forall_mem_cons.mpr ⟨q_g1 (i := 52) rfl rfl, List.forall_mem_cons.mpr ⟨q_g2 (i := 68) rfl rfl, List.forall_mem_cons.mpr ⟨q_g1 (i := 50) rfl rfl, List.forall_mem_cons.mpr ⟨q_g1 (i := 54) rfl rfl, List.forall_mem_cons.mpr ⟨q_g2 (i := 54) rfl rfl, fun _ h => absurd h List.not_mem_nil⟩⟩⟩⟩⟩⟩⟩⟩⟩⟩⟩⟩
set_option maxRecDepth 100000 in
theorem q_fls_ok_1 : ∀ e ∈ ([(8, 89, 36, 302), (8, 94, 5, 430), (8, 97, 6, 432), (8, 100, 1, 422), (8, 104, 196, 336), (8, 109, 197, 339), (8, 112, 2, 424), (8, 116, 355, 365), (8, 127, 773, 461), (8, 137, 3, 426), (8, 172, 96, 242), (8, 177, 97, 245)] : List (Nat × Nat × Nat × Nat)), q_fw e.1 e.2.1 e.2.2.1 ∈ lw_tblG := List.forall_mem_cons.mpr ⟨q_g1 (i := 176) rfl rfl, List.forall_mem_cons.mpr ⟨q_g2 (i := 64) rfl rfl, List.forall_mem_cons.mpr ⟨q_g2 (i := 66) rfl rfl, List.forall_mem_cons.mpr ⟨q_g2 (i := 56) rfl rfl, List.forall_mem_cons.mpr ⟨q_g1 (i := 210) rfl rfl, List.forall_mem_cons.mpr ⟨q_g1 (i := 213) rfl rfl, List.forall_mem_cons.mpr ⟨q_g2 (i := 58) rfl rfl, List.forall_mem_cons.mpr ⟨q_g1 (i := 239) rfl rfl, List.forall_mem_cons.mpr ⟨q_g2 (i := 95) rfl rfl, List.forall_mem_cons.mpr ⟨q_g2 (i := 60) rfl rfl, List.forall_mem_cons.mpr ⟨q_g1 (i := 116) rfl rfl, List.forall_mem_cons.mpr ⟨q_g1 (i := 119) rfl rfl, fun _ h => absurd h List.not_mem_nil⟩⟩⟩⟩⟩⟩⟩⟩⟩⟩⟩⟩
set_option maxRecDepth 100000 in
theorem q_fls_ok_2 : ∀ e ∈ ([(8, 233, 99, 250), (8, 236, 100, 253), (8, 245, 483, 385), (8, 316, 4, 428), (8, 320, 612, 407), (8, 357, 103, 262), (8, 362, 807, 167), (8, 399, 808, 169), (0, 9, 608, 401), (0, 15, 609, 402), (0, 18, 610, 403), (0, 21, 611, 404)] : List (Nat × Nat × Nat × Nat)), q_fw e.1 e.2.1 e.2.2.1 ∈ lw_tblG := List.forall_mem_cons.mpr ⟨q_g1 (i := 124) rfl rfl, List.forall_mem_cons.mpr ⟨q_g1 (i := 127) rfl rfl, List.forall_mem_cons.mpr ⟨q_g2 (i := 19) rfl rfl, List.forall_mem_cons.mpr ⟨q_g2 (i := 62) rfl rfl, List.forall_mem_cons.mpr ⟨q_g2 (i := 41) rfl rfl, List.forall_mem_cons.mpr ⟨q_g1 (i := 136) rfl rfl, List.forall_mem_cons.mpr ⟨q_g1 (i := 41) rfl rfl, List.forall_mem_cons.mpr ⟨q_g1 (i := 43) rfl rfl, List.forall_mem_cons.mpr ⟨q_g2 (i := 35) rfl rfl, List.forall_mem_cons.mpr ⟨q_g2 (i := 36) rfl rfl, List.forall_mem_cons.mpr ⟨q_g2 (i := 37) rfl rfl, List.forall_mem_cons.mpr ⟨q_g2 (i := 38) rfl rfl, fun _ h => absurd h List.not_mem_nil⟩⟩⟩⟩⟩⟩⟩⟩⟩⟩⟩⟩
set_option maxRecDepth 100000 in
theorem q_fls_ok_3 : ∀ e ∈ ([(0, 28, 612, 405), (1, 9, 352, 360), (1, 15, 353, 361), (1, 18, 354, 362), (1, 25, 355, 363), (2, 9, 480, 381), (2, 15, 481, 382), (2, 18, 482, 383), (2, 25, 483, 384), (3, 11, 32, 296), (3, 18, 33, 297), (3, 22, 34, 298)] : List (Nat × Nat × Nat × Nat)), q_fw e.1 e.2.1 e.2.2.1 ∈ lw_tblG := List.forall_mem_cons.mpr ⟨q_g2 (i := 39) rfl rfl, List.forall_mem_cons.mpr ⟨q_g1 (i := 234) rfl rfl, List.forall_mem_cons.mpr ⟨q_g1 (i := 235) rfl rfl, List.forall_mem_cons.mpr ⟨q_g1 (i := 236) rfl rfl, List.forall_mem_cons.mpr ⟨q_g1 (i := 237) rfl rfl, List.forall_mem_cons.mpr ⟨q_g2 (i := 15) rfl rfl, List.forall_mem_cons.mpr ⟨q_g2 (i := 16) rfl rfl, List.forall_mem_cons.mpr ⟨q_g2 (i := 17) rfl rfl, List.forall_mem_cons.mpr ⟨q_g2 (i := 18) rfl rfl, List.forall_mem_cons.mpr ⟨q_g1 (i := 170) rfl rfl, List.forall_mem_cons.mpr ⟨q_g1 (i := 171) rfl rfl, List.forall_mem_cons.mpr ⟨q_g1 (i := 172) rfl rfl, fun _ h => absurd h List.not_mem_nil⟩⟩⟩⟩⟩⟩⟩⟩⟩⟩⟩⟩
set_option maxRecDepth 100000 in
theorem q_fls_ok_4 : ∀ e ∈ ([(3, 26, 35, 299), (3, 29, 36, 300), (3, 65, 101, 256), (3, 71, 96, 243), (4, 15, 96, 240), (4, 19, 97, 244), (4, 22, 98, 247), (4, 25, 99, 249), (4, 28, 100, 252), (4, 31, 101, 255), (4, 34, 102, 258), (4, 37, 103, 260)] : List (Nat × Nat × Nat × Nat)), q_fw e.1 e.2.1 e.2.2.1 ∈ lw_tblG := List.forall_mem_cons.mpr ⟨q_g1 (i := 173) rfl rfl, List.forall_mem_cons.mpr ⟨q_g1 (i := 174) rfl rfl, List.forall_mem_cons.mpr ⟨q_g1 (i := 130) rfl rfl, List.forall_mem_cons.mpr ⟨q_g1 (i := 117) rfl rfl, List.forall_mem_cons.mpr ⟨q_g1 (i := 114) rfl rfl, List.forall_mem_cons.mpr ⟨q_g1 (i := 118) rfl rfl, List.forall_mem_cons.mpr ⟨q_g1 (i := 121) rfl rfl, List.forall_mem_cons.mpr ⟨q_g1 (i := 123) rfl rfl, List.forall_mem_cons.mpr ⟨q_g1 (i := 126) rfl rfl, List.forall_mem_cons.mpr ⟨q_g1 (i := 129) rfl rfl, List.forall_mem_cons.mpr ⟨q_g1 (i := 132) rfl rfl, List.forall_mem_cons.mpr ⟨q_g1 (i := 134) rfl rfl, fun _ h => absurd h List.not_mem_nil⟩⟩⟩⟩⟩⟩⟩⟩⟩⟩⟩⟩
set_option maxRecDepth 100000 in
theorem q_fls_ok_5 : ∀ e ∈ ([(4, 40, 104, 263), (4, 43, 105, 265), (4, 46, 106, 267), (4, 50, 107, 269), (5, 12, 0, 419), (5, 21, 1, 421), (5, 28, 2, 423), (5, 35, 3, 425), (5, 42, 4, 427), (5, 46, 5, 429), (5, 50, 6, 431), (5, 69, 7, 433)] : List (Nat × Nat × Nat × Nat)), q_fw e.1 e.2.1 e.2.2.1 ∈ lw_tblG := List.forall_mem_cons.mpr ⟨q_g1 (i := 137) rfl rfl, List.forall_mem_cons.mpr ⟨q_g1 (i := 139) rfl rfl, List.forall_mem_cons.mpr ⟨q_g1 (i := 141) rfl rfl, List.forall_mem_cons.mpr ⟨q_g1 (i := 143) rfl rfl, List.forall_mem_cons.mpr ⟨q_g2 (i := 53) rfl rfl, List.forall_mem_cons.mpr ⟨q_g2 (i := 55) rfl rfl, List.forall_mem_cons.mpr ⟨q_g2 (i := 57) rfl rfl, List.forall_mem_cons.mpr ⟨q_g2 (i := 59) rfl rfl, List.forall_mem_cons.mpr ⟨q_g2 (i := 61) rfl rfl, List.forall_mem_cons.mpr ⟨q_g2 (i := 63) rfl rfl, List.forall_mem_cons.mpr ⟨q_g2 (i := 65) rfl rfl, List.forall_mem_cons.mpr ⟨q_g2 (i := 67) rfl rfl, fun _ h => absurd h List.not_mem_nil⟩⟩⟩⟩⟩⟩⟩⟩⟩⟩⟩⟩
set_option maxRecDepth 100000 in
theorem q_fls_ok_6 : ∀ e ∈ ([(5, 72, 8, 435), (5, 78, 36, 301), (5, 84, 355, 364), (5, 88, 612, 406), (5, 89, 96, 241), (5, 94, 107, 270), (5, 98, 102, 259), (5, 105, 103, 261), (5, 108, 197, 338), (5, 115, 106, 268), (5, 133, 105, 266), (5, 138, 101, 257)] : List (Nat × Nat × Nat × Nat)), q_fw e.1 e.2.1 e.2.2.1 ∈ lw_tblG := List.forall_mem_cons.mpr ⟨q_g2 (i := 69) rfl rfl, List.forall_mem_cons.mpr ⟨q_g1 (i := 175) rfl rfl, List.forall_mem_cons.mpr ⟨q_g1 (i := 238) rfl rfl, List.forall_mem_cons.mpr ⟨q_g2 (i := 40) rfl rfl, List.forall_mem_cons.mpr ⟨q_g1 (i := 115) rfl rfl, List.forall_mem_cons.mpr ⟨q_g1 (i := 144) rfl rfl, List.forall_mem_cons.mpr ⟨q_g1 (i := 133) rfl rfl, List.forall_mem_cons.mpr ⟨q_g1 (i := 135) rfl rfl, List.forall_mem_cons.mpr ⟨q_g1 (i := 212) rfl rfl, List.forall_mem_cons.mpr ⟨q_g1 (i := 142) rfl rfl, List.forall_mem_cons.mpr ⟨q_g1 (i := 140) rfl rfl, List.forall_mem_cons.mpr ⟨q_g1 (i := 131) rfl rfl, fun _ h => absurd h List.not_mem_nil⟩⟩⟩⟩⟩⟩⟩⟩⟩⟩⟩⟩
set_option maxRecDepth 100000 in
theorem q_fls_ok_7 : ∀ e ∈ ([(5, 152, 97, 246), (5, 155, 104, 264), (5, 178, 98, 248), (5, 181, 99, 251), (5, 184, 100, 254), (6, 9, 800, 158), (6, 15, 809, 170), (6, 18, 816, 179), (6, 22, 801, 159), (6, 29, 802, 161), (6, 32, 803, 162), (6, 35, 810, 171)] : List (Nat × Nat × Nat × Nat)), q_fw e.1 e.2.1 e.2.2.1 ∈ lw_tblG := List.forall_mem_cons.mpr ⟨q_g1 (i := 120) rfl rfl, List.forall_mem_cons.mpr ⟨q_g1 (i := 138) rfl rfl, List.forall_mem_cons.mpr ⟨q_g1 (i := 122) rfl rfl, List.forall_mem_cons.mpr ⟨q_g1 (i := 125) rfl rfl, List.forall_mem_cons.mpr ⟨q_g1 (i := 128) rfl rfl, List.forall_mem_cons.mpr ⟨q_g1 (i := 32) rfl rfl, List.forall_mem_cons.mpr ⟨q_g1 (i := 44) rfl rfl, List.forall_mem_cons.mpr ⟨q_g1 (i := 53) rfl rfl, List.forall_mem_cons.mpr ⟨q_g1 (i := 33) rfl rfl, List.forall_mem_cons.mpr ⟨q_g1 (i := 35) rfl rfl, List.forall_mem_cons.mpr ⟨q_g1 (i := 36) rfl rfl, List.forall_mem_cons.mpr ⟨q_g1 (i := 45) rfl rfl, fun _ h => absurd h List.not_mem_nil⟩⟩⟩⟩⟩⟩⟩⟩⟩⟩⟩⟩
set_option maxRecDepth 100000 in
theorem q_fls_ok_8 : ∀ e ∈ ([(6, 39, 811, 172), (6, 42, 812, 173), (6, 45, 813, 174), (6, 48, 814, 175), (6, 51, 815, 177), (6, 65, 804, 163), (6, 75, 807, 166), (6, 78, 805, 164), (6, 81, 808, 168), (6, 105, 806, 165), (7, 9, 192, 331), (7, 15, 193, 332)] : List (Nat × Nat × Nat × Nat)), q_fw e.1 e.2.1 e.2.2.1 ∈ lw_tblG := List.forall_mem_cons.mpr ⟨q_g1 (i := 46) rfl rfl, List.forall_mem_cons.mpr ⟨q_g1 (i := 47) rfl rfl, List.forall_mem_cons.mpr ⟨q_g1 (i := 48) rfl rfl, List.forall_mem_cons.mpr ⟨q_g1 (i := 49) rfl rfl, List.forall_mem_cons.mpr ⟨q_g1 (i := 51) rfl rfl, List.forall_mem_cons.mpr ⟨q_g1 (i := 37) rfl rfl, List.forall_mem_cons.mpr ⟨q_g1 (i := 40) rfl rfl, List.forall_mem_cons.mpr ⟨q_g1 (i := 38) rfl rfl, List.forall_mem_cons.mpr ⟨q_g1 (i := 42) rfl rfl, List.forall_mem_cons.mpr ⟨q_g1 (i := 39) rfl rfl, List.forall_mem_cons.mpr ⟨q_g1 (i := 205) rfl rfl, List.forall_mem_cons.mpr ⟨q_g1 (i := 206) rfl rfl, fun _ h => absurd h List.not_mem_nil⟩⟩⟩⟩⟩⟩⟩⟩⟩⟩⟩⟩
set_option maxRecDepth 100000 in
theorem q_fls_ok_9 : ∀ e ∈ ([(7, 18, 194, 333), (7, 21, 195, 334), (7, 36, 196, 335), (7, 40, 197, 337), (9, 7, 960, 1322), (9, 13, 961, 1323), (9, 16, 962, 1324), (9, 19, 963, 1325), (9, 22, 964, 1326), (9, 25, 968, 1330), (9, 28, 970, 1332), (9, 31, 971, 1333)] : List (Nat × Nat × Nat × Nat)), q_fw e.1 e.2.1 e.2.2.1 ∈ lw_tblG := List.forall_mem_cons.mpr ⟨q_g1 (i := 207) rfl rfl, List.forall_mem_cons.mpr ⟨q_g1 (i := 208) rfl rfl, List.forall_mem_cons.mpr ⟨q_g1 (i := 209) rfl rfl, List.forall_mem_cons.mpr ⟨q_g1 (i := 211) rfl rfl, List.forall_mem_cons.mpr ⟨q_g5 (i := 236) rfl rfl, List.forall_mem_cons.mpr ⟨q_g5 (i := 237) rfl rfl, List.forall_mem_cons.mpr ⟨q_g5 (i := 238) rfl rfl, List.forall_mem_cons.mpr ⟨q_g5 (i := 239) rfl rfl, List.forall_mem_cons.mpr ⟨q_g6 (i := 0) rfl rfl, List.forall_mem_cons.mpr ⟨q_g6 (i := 4) rfl rfl, List.forall_mem_cons.mpr ⟨q_g6 (i := 6) rfl rfl, List.forall_mem_cons.mpr ⟨q_g6 (i := 7) rfl rfl, fun _ h => absurd h List.not_mem_nil⟩⟩⟩⟩⟩⟩⟩⟩⟩⟩⟩⟩
set_option maxRecDepth 100000 in
theorem q_fls_ok_10 : ∀ e ∈ ([(9, 35, 973, 1335), (9, 39, 974, 1336), (9, 70, 983, 1345), (9, 74, 984, 1346), (9, 77, 985, 1347), (9, 83, 967, 1329), (9, 86, 966, 1328), (9, 170, 969, 1331), (9, 265, 972, 1334), (9, 271, 981, 1343), (9, 274, 978, 1340), (9, 277, 977, 1339)] : List (Nat × Nat × Nat × Nat)), q_fw e.1 e.2.1 e.2.2.1 ∈ lw_tblG := List.forall_mem_cons.mpr ⟨q_g6 (i := 9) rfl rfl, List.forall_mem_cons.mpr ⟨q_g6 (i := 10) rfl rfl, List.forall_mem_cons.mpr ⟨q_g6 (i := 19) rfl rfl, List.forall_mem_cons.mpr ⟨q_g6 (i := 20) rfl rfl, List.forall_mem_cons.mpr ⟨q_g6 (i := 21) rfl rfl, List.forall_mem_cons.mpr ⟨q_g6 (i := 3) rfl rfl, List.forall_mem_cons.mpr ⟨q_g6 (i := 2) rfl rfl, List.forall_mem_cons.mpr ⟨q_g6 (i := 5) rfl rfl, List.forall_mem_cons.mpr ⟨q_g6 (i := 8) rfl rfl, List.forall_mem_cons.mpr ⟨q_g6 (i := 17) rfl rfl, List.forall_mem_cons.mpr ⟨q_g6 (i := 14) rfl rfl, List.forall_mem_cons.mpr ⟨q_g6 (i := 13) rfl rfl, fun _ h => absurd h List.not_mem_nil⟩⟩⟩⟩⟩⟩⟩⟩⟩⟩⟩⟩
set_option maxRecDepth 100000 in
theorem q_fls_ok_11 : ∀ e ∈ ([(9, 280, 979, 1341), (9, 286, 982, 1344), (9, 294, 980, 1342), (9, 297, 975, 1337), (9, 300, 976, 1338), (9, 341, 986, 1348), (9, 344, 987, 1349), (9, 348, 988, 1350), (9, 366, 965, 1327)] : List (Nat × Nat × Nat × Nat)), q_fw e.1 e.2.1 e.2.2.1 ∈ lw_tblG := List.forall_mem_cons.mpr ⟨q_g6 (i := 15) rfl rfl, List.forall_mem_cons.mpr ⟨q_g6 (i := 18) rfl rfl, List.forall_mem_cons.mpr ⟨q_g6 (i := 16) rfl rfl, List.forall_mem_cons.mpr ⟨q_g6 (i := 11) rfl rfl, List.forall_mem_cons.mpr ⟨q_g6 (i := 12) rfl rfl, List.forall_mem_cons.mpr ⟨q_g6 (i := 22) rfl rfl, List.forall_mem_cons.mpr ⟨q_g6 (i := 23) rfl rfl, List.forall_mem_cons.mpr ⟨q_g6 (i := 24) rfl rfl, List.forall_mem_cons.mpr ⟨q_g6 (i := 1) rfl rfl, fun _ h => absurd h List.not_mem_nil⟩⟩⟩⟩⟩⟩⟩⟩⟩
set_option maxRecDepth 100000 in
theorem q_fls_ok : ∀ e ∈ q_fls, q_fw e.1 e.2.1 e.2.2.1 ∈ lw_tblG := by
  intro e h
  have h : e ∈ ([(8, 12, 768, 456), (8, 19, 769, 457), (8, 23, 770, 458), (8, 26, 771, 459), (8, 29, 772, 460), (8, 33, 774, 462), (8, 45, 801, 160), (8, 69, 815, 178), (8, 72, 7, 434), (8, 78, 814, 176), (8, 82, 816, 180), (8, 85, 0, 420)] : List (Nat × Nat × Nat × Nat)) ++ (([(8, 89, 36, 302), (8, 94, 5, 430), (8, 97, 6, 432), (8, 100, 1, 422), (8, 104, 196, 336), (8, 109, 197, 339), (8, 112, 2, 424), (8, 116, 355, 365), (8, 127, 773, 461), (8, 137, 3, 426), (8, 172, 96, 242), (8, 177, 97, 245)] : List (Nat × Nat × Nat × Nat)) ++ (([(8, 233, 99, 250), (8, 236, 100, 253), (8, 245, 483, 385), (8, 316, 4, 428), (8, 320, 612, 407), (8, 357, 103, 262), (8, 362, 807, 167), (8, 399, 808, 169), (0, 9, 608, 401), (0, 15, 609, 402), (0, 18, 610, 403), (0, 21, 611, 404)] : List (Nat × Nat × Nat × Nat)) ++ (([(0, 28, 612, 405), (1, 9, 352, 360), (1, 15, 353, 361), (1, 18, 354, 362), (1, 25, 355, 363), (2, 9, 480, 381), (2, 15, 481, 382), (2, 18, 482, 383), (2, 25, 483, 384), (3, 11, 32, 296), (3, 18, 33, 297), (3, 22, 34, 298)] : List (Nat × Nat × Nat × Nat)) ++ (([(3, 26, 35, 299), (3, 29, 36, 300), (3, 65, 101, 256), (3, 71, 96, 243), (4, 15, 96, 240), (4, 19, 97, 244), (4, 22, 98, 247), (4, 25, 99, 249), (4, 28, 100, 252), (4, 31, 101, 255), (4, 34, 102, 258), (4, 37, 103, 260)] : List (Nat × Nat × Nat × Nat)) ++ (([(4, 40, 104, 263), (4, 43, 105, 265), (4, 46, 106, 267), (4, 50, 107, 269), (5, 12, 0, 419), (5, 21, 1, 421), (5, 28, 2, 423), (5, 35, 3, 425), (5, 42, 4, 427), (5, 46, 5, 429), (5, 50, 6, 431), (5, 69, 7, 433)] : List (Nat × Nat × Nat × Nat)) ++ (([(5, 72, 8, 435), (5, 78, 36, 301), (5, 84, 355, 364), (5, 88, 612, 406), (5, 89, 96, 241), (5, 94, 107, 270), (5, 98, 102, 259), (5, 105, 103, 261), (5, 108, 197, 338), (5, 115, 106, 268), (5, 133, 105, 266), (5, 138, 101, 257)] : List (Nat × Nat × Nat × Nat)) ++ (([(5, 152, 97, 246), (5, 155, 104, 264), (5, 178, 98, 248), (5, 181, 99, 251), (5, 184, 100, 254), (6, 9, 800, 158), (6, 15, 809, 170), (6, 18, 816, 179), (6, 22, 801, 159), (6, 29, 802, 161), (6, 32, 803, 162), (6, 35, 810, 171)] : List (Nat × Nat × Nat × Nat)) ++ (([(6, 39, 811, 172), (6, 42, 812, 173), (6, 45, 813, 174), (6, 48, 814, 175), (6, 51, 815, 177), (6, 65, 804, 163), (6, 75, 807, 166), (6, 78, 805, 164), (6, 81, 808, 168), (6, 105, 806, 165), (7, 9, 192, 331), (7, 15, 193, 332)] : List (Nat × Nat × Nat × Nat)) ++ (([(7, 18, 194, 333), (7, 21, 195, 334), (7, 36, 196, 335), (7, 40, 197, 337), (9, 7, 960, 1322), (9, 13, 961, 1323), (9, 16, 962, 1324), (9, 19, 963, 1325), (9, 22, 964, 1326), (9, 25, 968, 1330), (9, 28, 970, 1332), (9, 31, 971, 1333)] : List (Nat × Nat × Nat × Nat)) ++ (([(9, 35, 973, 1335), (9, 39, 974, 1336), (9, 70, 983, 1345), (9, 74, 984, 1346), (9, 77, 985, 1347), (9, 83, 967, 1329), (9, 86, 966, 1328), (9, 170, 969, 1331), (9, 265, 972, 1334), (9, 271, 981, 1343), (9, 274, 978, 1340), (9, 277, 977, 1339)] : List (Nat × Nat × Nat × Nat)) ++ (([(9, 280, 979, 1341), (9, 286, 982, 1344), (9, 294, 980, 1342), (9, 297, 975, 1337), (9, 300, 976, 1338), (9, 341, 986, 1348), (9, 344, 987, 1349), (9, 348, 988, 1350), (9, 366, 965, 1327)] : List (Nat × Nat × Nat × Nat))))))))))))) := h
  rcases List.mem_append.mp h with h | h
  · exact q_fls_ok_0 e h
  rcases List.mem_append.mp h with h | h
  · exact q_fls_ok_1 e h
  rcases List.mem_append.mp h with h | h
  · exact q_fls_ok_2 e h
  rcases List.mem_append.mp h with h | h
  · exact q_fls_ok_3 e h
  rcases List.mem_append.mp h with h | h
  · exact q_fls_ok_4 e h
  rcases List.mem_append.mp h with h | h
  · exact q_fls_ok_5 e h
  rcases List.mem_append.mp h with h | h
  · exact q_fls_ok_6 e h
  rcases List.mem_append.mp h with h | h
  · exact q_fls_ok_7 e h
  rcases List.mem_append.mp h with h | h
  · exact q_fls_ok_8 e h
  rcases List.mem_append.mp h with h | h
  · exact q_fls_ok_9 e h
  rcases List.mem_append.mp h with h | h
  · exact q_fls_ok_10 e h
  exact q_fls_ok_11 e h
set_option maxRecDepth 100000 in
theorem q_mls_ok_0 : ∀ e ∈ ([(8, 37, 122, 486), (8, 41, 123, 490), (8, 48, 46, 499), (8, 52, 142, 503), (8, 56, 143, 550), (8, 59, 124, 565), (8, 62, 127, 569), (8, 66, 53, 699), (8, 75, 45, 792), (8, 121, 148, 1047), (8, 124, 97, 1059), (8, 130, 117, 1008)] : List (Nat × Nat × Nat × Nat)), q_mw e.1 e.2.1 e.2.2.1 ∈ lw_tblG := List.forall_mem_cons.mpr ⟨q_g2 (i := 120) rfl rfl, List.forall_mem_cons.mpr ⟨q_g2 (i := 124) rfl rfl, List.forall_mem_cons.mpr ⟨q_g2 (i := 133) rfl rfl, List.forall_mem_cons.mpr ⟨q_g2 (i := 137) rfl rfl, List.forall_mem_cons.mpr ⟨q_g2 (i := 184) rfl rfl, List.forall_mem_cons.mpr ⟨q_g2 (i := 199) rfl rfl, List.forall_mem_cons.mpr ⟨q_g2 (i := 203) rfl rfl, List.forall_mem_cons.mpr ⟨q_g3 (i := 93) rfl rfl, List.forall_mem_cons.mpr ⟨q_g3 (i := 186) rfl rfl, List.forall_mem_cons.mpr ⟨q_g4 (i := 201) rfl rfl, List.forall_mem_cons.mpr ⟨q_g4 (i := 213) rfl rfl, List.forall_mem_cons.mpr ⟨q_g4 (i := 162) rfl rfl, fun _ h => absurd h List.not_mem_nil⟩⟩⟩⟩⟩⟩⟩⟩⟩⟩⟩⟩
set_option maxRecDepth 100000 in
theorem q_mls_ok_1 : ∀ e ∈ ([(8, 134, 118, 1063), (8, 141, 86, 1071), (8, 146, 56, 921), (8, 149, 90, 1079), (8, 152, 94, 1080), (8, 155, 153, 1081), (8, 158, 96, 1085), (8, 161, 92, 1089), (8, 164, 91, 1094), (8, 168, 89, 853), (8, 180, 59, 1099), (8, 183, 79, 1100)] : List (Nat × Nat × Nat × Nat)), q_mw e.1 e.2.1 e.2.2.1 ∈ lw_tblG := List.forall_mem_cons.mpr ⟨q_g4 (i := 217) rfl rfl, List.forall_mem_cons.mpr ⟨q_g4 (i := 225) rfl rfl, List.forall_mem_cons.mpr ⟨q_g4 (i := 75) rfl rfl, List.forall_mem_cons.mpr ⟨q_g4 (i := 233) rfl rfl, List.forall_mem_cons.mpr ⟨q_g4 (i := 234) rfl rfl, List.forall_mem_cons.mpr ⟨q_g4 (i := 235) rfl rfl, List.forall_mem_cons.mpr ⟨q_g4 (i := 239) rfl rfl, List.forall_mem_cons.mpr ⟨q_g5 (i := 3) rfl rfl, List.forall_mem_cons.mpr ⟨q_g5 (i := 8) rfl rfl, List.forall_mem_cons.mpr ⟨q_g4 (i := 7) rfl rfl, List.forall_mem_cons.mpr ⟨q_g5 (i := 13) rfl rfl, List.forall_mem_cons.mpr ⟨q_g5 (i := 14) rfl rfl, fun _ h => absurd h List.not_mem_nil⟩⟩⟩⟩⟩⟩⟩⟩⟩⟩⟩⟩
set_option maxRecDepth 100000 in
theorem q_mls_ok_2 : ∀ e ∈ ([(8, 186, 159, 1104), (8, 189, 66, 1112), (8, 192, 147, 1118), (8, 196, 71, 1126), (8, 199, 72, 1127), (8, 202, 58, 889), (8, 205, 73, 1128), (8, 208, 105, 804), (8, 211, 106, 816), (8, 214, 107, 1133), (8, 217, 109, 1134), (8, 220, 108, 817)] : List (Nat × Nat × Nat × Nat)), q_mw e.1 e.2.1 e.2.2.1 ∈ lw_tblG := List.forall_mem_cons.mpr ⟨q_g5 (i := 18) rfl rfl, List.forall_mem_cons.mpr ⟨q_g5 (i := 26) rfl rfl, List.forall_mem_cons.mpr ⟨q_g5 (i := 32) rfl rfl, List.forall_mem_cons.mpr ⟨q_g5 (i := 40) rfl rfl, List.forall_mem_cons.mpr ⟨q_g5 (i := 41) rfl rfl, List.forall_mem_cons.mpr ⟨q_g4 (i := 43) rfl rfl, List.forall_mem_cons.mpr ⟨q_g5 (i := 42) rfl rfl, List.forall_mem_cons.mpr ⟨q_g3 (i := 198) rfl rfl, List.forall_mem_cons.mpr ⟨q_g3 (i := 210) rfl rfl, List.forall_mem_cons.mpr ⟨q_g5 (i := 47) rfl rfl, List.forall_mem_cons.mpr ⟨q_g5 (i := 48) rfl rfl, List.forall_mem_cons.mpr ⟨q_g3 (i := 211) rfl rfl, fun _ h => absurd h List.not_mem_nil⟩⟩⟩⟩⟩⟩⟩⟩⟩⟩⟩⟩
set_option maxRecDepth 100000 in
theorem q_mls_ok_3 : ∀ e ∈ ([(8, 223, 111, 1148), (8, 226, 144, 833), (8, 229, 156, 837), (8, 239, 150, 899), (8, 242, 151, 1161), (8, 246, 83, 1173), (8, 249, 84, 1177), (8, 252, 112, 775), (8, 254, 48, 808), (8, 257, 113, 907), (8, 261, 82, 912), (8, 264, 47, 812)] : List (Nat × Nat × Nat × Nat)), q_mw e.1 e.2.1 e.2.2.1 ∈ lw_tblG := List.forall_mem_cons.mpr ⟨q_g5 (i := 62) rfl rfl, List.forall_mem_cons.mpr ⟨q_g3 (i := 227) rfl rfl, List.forall_mem_cons.mpr ⟨q_g3 (i := 231) rfl rfl, List.forall_mem_cons.mpr ⟨q_g4 (i := 53) rfl rfl, List.forall_mem_cons.mpr ⟨q_g5 (i := 75) rfl rfl, List.forall_mem_cons.mpr ⟨q_g5 (i := 87) rfl rfl, List.forall_mem_cons.mpr ⟨q_g5 (i := 91) rfl rfl, List.forall_mem_cons.mpr ⟨q_g3 (i := 169) rfl rfl, List.forall_mem_cons.mpr ⟨q_g3 (i := 202) rfl rfl, List.forall_mem_cons.mpr ⟨q_g4 (i := 61) rfl rfl, List.forall_mem_cons.mpr ⟨q_g4 (i := 66) rfl rfl, List.forall_mem_cons.mpr ⟨q_g3 (i := 206) rfl rfl, fun _ h => absurd h List.not_mem_nil⟩⟩⟩⟩⟩⟩⟩⟩⟩⟩⟩⟩
set_option maxRecDepth 100000 in
theorem q_mls_ok_4 : ∀ e ∈ ([(8, 267, 57, 800), (8, 271, 100, 711), (8, 274, 160, 728), (8, 278, 50, 825), (8, 281, 163, 854), (8, 284, 161, 890), (8, 288, 162, 891), (8, 292, 49, 829), (8, 295, 51, 1191), (8, 298, 120, 1195), (8, 301, 119, 1199), (8, 304, 164, 924)] : List (Nat × Nat × Nat × Nat)), q_mw e.1 e.2.1 e.2.2.1 ∈ lw_tblG := List.forall_mem_cons.mpr ⟨q_g3 (i := 194) rfl rfl, List.forall_mem_cons.mpr ⟨q_g3 (i := 105) rfl rfl, List.forall_mem_cons.mpr ⟨q_g3 (i := 122) rfl rfl, List.forall_mem_cons.mpr ⟨q_g3 (i := 219) rfl rfl, List.forall_mem_cons.mpr ⟨q_g4 (i := 8) rfl rfl, List.forall_mem_cons.mpr ⟨q_g4 (i := 44) rfl rfl, List.forall_mem_cons.mpr ⟨q_g4 (i := 45) rfl rfl, List.forall_mem_cons.mpr ⟨q_g3 (i := 223) rfl rfl, List.forall_mem_cons.mpr ⟨q_g5 (i := 105) rfl rfl, List.forall_mem_cons.mpr ⟨q_g5 (i := 109) rfl rfl, List.forall_mem_cons.mpr ⟨q_g5 (i := 113) rfl rfl, List.forall_mem_cons.mpr ⟨q_g4 (i := 78) rfl rfl, fun _ h => absurd h List.not_mem_nil⟩⟩⟩⟩⟩⟩⟩⟩⟩⟩⟩⟩
set_option maxRecDepth 100000 in
theorem q_mls_ok_5 : ∀ e ∈ ([(8, 307, 166, 929), (8, 310, 55, 803), (8, 313, 173, 973), (8, 323, 69, 1210), (8, 326, 176, 1012), (8, 330, 98, 1033), (8, 333, 115, 1234), (8, 336, 121, 1243), (8, 339, 116, 1252), (8, 342, 154, 1260), (8, 345, 95, 1269), (8, 348, 52, 1273)] : List (Nat × Nat × Nat × Nat)), q_mw e.1 e.2.1 e.2.2.1 ∈ lw_tblG := List.forall_mem_cons.mpr ⟨q_g4 (i := 83) rfl rfl, List.forall_mem_cons.mpr ⟨q_g3 (i := 197) rfl rfl, List.forall_mem_cons.mpr ⟨q_g4 (i := 127) rfl rfl, List.forall_mem_cons.mpr ⟨q_g5 (i := 124) rfl rfl, List.forall_mem_cons.mpr ⟨q_g4 (i := 166) rfl rfl, List.forall_mem_cons.mpr ⟨q_g4 (i := 187) rfl rfl, List.forall_mem_cons.mpr ⟨q_g5 (i := 148) rfl rfl, List.forall_mem_cons.mpr ⟨q_g5 (i := 157) rfl rfl, List.forall_mem_cons.mpr ⟨q_g5 (i := 166) rfl rfl, List.forall_mem_cons.mpr ⟨q_g5 (i := 174) rfl rfl, List.forall_mem_cons.mpr ⟨q_g5 (i := 183) rfl rfl, List.forall_mem_cons.mpr ⟨q_g5 (i := 187) rfl rfl, fun _ h => absurd h List.not_mem_nil⟩⟩⟩⟩⟩⟩⟩⟩⟩⟩⟩⟩
set_option maxRecDepth 100000 in
theorem q_mls_ok_6 : ∀ e ∈ ([(8, 351, 175, 1285), (8, 354, 114, 1293), (8, 360, 126, 703), (8, 365, 54, 707), (8, 368, 21, 771), (8, 371, 24, 796), (8, 375, 25, 821), (8, 378, 26, 895), (8, 381, 22, 903), (8, 384, 23, 913), (8, 387, 28, 917), (8, 390, 29, 925)] : List (Nat × Nat × Nat × Nat)), q_mw e.1 e.2.1 e.2.2.1 ∈ lw_tblG := List.forall_mem_cons.mpr ⟨q_g5 (i := 199) rfl rfl, List.forall_mem_cons.mpr ⟨q_g5 (i := 207) rfl rfl, List.forall_mem_cons.mpr ⟨q_g3 (i := 97) rfl rfl, List.forall_mem_cons.mpr ⟨q_g3 (i := 101) rfl rfl, List.forall_mem_cons.mpr ⟨q_g3 (i := 165) rfl rfl, List.forall_mem_cons.mpr ⟨q_g3 (i := 190) rfl rfl, List.forall_mem_cons.mpr ⟨q_g3 (i := 215) rfl rfl, List.forall_mem_cons.mpr ⟨q_g4 (i := 49) rfl rfl, List.forall_mem_cons.mpr ⟨q_g4 (i := 57) rfl rfl, List.forall_mem_cons.mpr ⟨q_g4 (i := 67) rfl rfl, List.forall_mem_cons.mpr ⟨q_g4 (i := 71) rfl rfl, List.forall_mem_cons.mpr ⟨q_g4 (i := 79) rfl rfl, fun _ h => absurd h List.not_mem_nil⟩⟩⟩⟩⟩⟩⟩⟩⟩⟩⟩⟩
set_option maxRecDepth 100000 in
theorem q_mls_ok_7 : ∀ e ∈ ([(8, 393, 30, 969), (8, 396, 32, 1004), (8, 402, 125, 1037), (8, 405, 3, 522), (0, 36, 3, 999), (1, 37, 76, 761), (1, 41, 75, 766), (1, 45, 72, 941), (2, 37, 3, 886), (3, 33, 89, 511), (3, 37, 64, 515), (3, 45, 63, 558)] : List (Nat × Nat × Nat × Nat)), q_mw e.1 e.2.1 e.2.2.1 ∈ lw_tblG := List.forall_mem_cons.mpr ⟨q_g4 (i := 123) rfl rfl, List.forall_mem_cons.mpr ⟨q_g4 (i := 158) rfl rfl, List.forall_mem_cons.mpr ⟨q_g4 (i := 191) rfl rfl, List.forall_mem_cons.mpr ⟨q_g2 (i := 156) rfl rfl, List.forall_mem_cons.mpr ⟨q_g4 (i := 153) rfl rfl, List.forall_mem_cons.mpr ⟨q_g3 (i := 155) rfl rfl, List.forall_mem_cons.mpr ⟨q_g3 (i := 160) rfl rfl, List.forall_mem_cons.mpr ⟨q_g4 (i := 95) rfl rfl, List.forall_mem_cons.mpr ⟨q_g4 (i := 40) rfl rfl, List.forall_mem_cons.mpr ⟨q_g2 (i := 145) rfl rfl, List.forall_mem_cons.mpr ⟨q_g2 (i := 149) rfl rfl, List.forall_mem_cons.mpr ⟨q_g2 (i := 192) rfl rfl, fun _ h => absurd h List.not_mem_nil⟩⟩⟩⟩⟩⟩⟩⟩⟩⟩⟩⟩
set_option maxRecDepth 100000 in
theorem q_mls_ok_8 : ∀ e ∈ ([(3, 61, 90, 723), (3, 68, 94, 719), (3, 74, 99, 715), (3, 84, 93, 746), (4, 9, 63, 236), (5, 53, 87, 507), (5, 57, 104, 528), (5, 60, 70, 535), (5, 63, 80, 540), (5, 66, 67, 545), (5, 75, 88, 554), (5, 81, 103, 560)] : List (Nat × Nat × Nat × Nat)), q_mw e.1 e.2.1 e.2.2.1 ∈ lw_tblG := List.forall_mem_cons.mpr ⟨q_g3 (i := 117) rfl rfl, List.forall_mem_cons.mpr ⟨q_g3 (i := 113) rfl rfl, List.forall_mem_cons.mpr ⟨q_g3 (i := 109) rfl rfl, List.forall_mem_cons.mpr ⟨q_g3 (i := 140) rfl rfl, List.forall_mem_cons.mpr ⟨q_g1 (i := 110) rfl rfl, List.forall_mem_cons.mpr ⟨q_g2 (i := 141) rfl rfl, List.forall_mem_cons.mpr ⟨q_g2 (i := 162) rfl rfl, List.forall_mem_cons.mpr ⟨q_g2 (i := 169) rfl rfl, List.forall_mem_cons.mpr ⟨q_g2 (i := 174) rfl rfl, List.forall_mem_cons.mpr ⟨q_g2 (i := 179) rfl rfl, List.forall_mem_cons.mpr ⟨q_g2 (i := 188) rfl rfl, List.forall_mem_cons.mpr ⟨q_g2 (i := 194) rfl rfl, fun _ h => absurd h List.not_mem_nil⟩⟩⟩⟩⟩⟩⟩⟩⟩⟩⟩⟩
set_option maxRecDepth 100000 in
theorem q_mls_ok_9 : ∀ e ∈ ([(5, 87, 81, 561), (5, 101, 106, 876), (5, 111, 145, 872), (5, 118, 146, 1055), (5, 121, 89, 756), (5, 125, 149, 1051), (5, 129, 65, 841), (5, 134, 152, 1165), (5, 141, 153, 1264), (5, 144, 111, 849), (5, 148, 155, 845), (5, 161, 157, 868)] : List (Nat × Nat × Nat × Nat)), q_mw e.1 e.2.1 e.2.2.1 ∈ lw_tblG := List.forall_mem_cons.mpr ⟨q_g2 (i := 195) rfl rfl, List.forall_mem_cons.mpr ⟨q_g4 (i := 30) rfl rfl, List.forall_mem_cons.mpr ⟨q_g4 (i := 26) rfl rfl, List.forall_mem_cons.mpr ⟨q_g4 (i := 209) rfl rfl, List.forall_mem_cons.mpr ⟨q_g3 (i := 150) rfl rfl, List.forall_mem_cons.mpr ⟨q_g4 (i := 205) rfl rfl, List.forall_mem_cons.mpr ⟨q_g3 (i := 235) rfl rfl, List.forall_mem_cons.mpr ⟨q_g5 (i := 79) rfl rfl, List.forall_mem_cons.mpr ⟨q_g5 (i := 178) rfl rfl, List.forall_mem_cons.mpr ⟨q_g4 (i := 3) rfl rfl, List.forall_mem_cons.mpr ⟨q_g3 (i := 239) rfl rfl, List.forall_mem_cons.mpr ⟨q_g4 (i := 22) rfl rfl, fun _ h => absurd h List.not_mem_nil⟩⟩⟩⟩⟩⟩⟩⟩⟩⟩⟩⟩
set_option maxRecDepth 100000 in
theorem q_mls_ok_10 : ∀ e ∈ ([(5, 164, 158, 877), (5, 167, 161, 732), (5, 171, 101, 736), (5, 174, 85, 750), (5, 187, 77, 757), (5, 190, 93, 887), (5, 194, 99, 859), (5, 197, 164, 860), (5, 200, 100, 888), (5, 203, 165, 864), (5, 206, 63, 881), (5, 210, 82, 882)] : List (Nat × Nat × Nat × Nat)), q_mw e.1 e.2.1 e.2.2.1 ∈ lw_tblG := List.forall_mem_cons.mpr ⟨q_g4 (i := 31) rfl rfl, List.forall_mem_cons.mpr ⟨q_g3 (i := 126) rfl rfl, List.forall_mem_cons.mpr ⟨q_g3 (i := 130) rfl rfl, List.forall_mem_cons.mpr ⟨q_g3 (i := 144) rfl rfl, List.forall_mem_cons.mpr ⟨q_g3 (i := 151) rfl rfl, List.forall_mem_cons.mpr ⟨q_g4 (i := 41) rfl rfl, List.forall_mem_cons.mpr ⟨q_g4 (i := 13) rfl rfl, List.forall_mem_cons.mpr ⟨q_g4 (i := 14) rfl rfl, List.forall_mem_cons.mpr ⟨q_g4 (i := 42) rfl rfl, List.forall_mem_cons.mpr ⟨q_g4 (i := 18) rfl rfl, List.forall_mem_cons.mpr ⟨q_g4 (i := 35) rfl rfl, List.forall_mem_cons.mpr ⟨q_g4 (i := 36) rfl rfl, fun _ h => absurd h List.not_mem_nil⟩⟩⟩⟩⟩⟩⟩⟩⟩⟩⟩⟩
set_option maxRecDepth 100000 in
theorem q_mls_ok_11 : ∀ e ∈ ([(5, 213, 167, 933), (5, 217, 102, 949), (5, 220, 169, 953), (5, 223, 170, 957), (5, 226, 78, 937), (5, 229, 168, 945), (5, 232, 171, 961), (5, 235, 172, 965), (5, 238, 71, 977), (5, 241, 73, 981), (5, 244, 72, 985), (5, 247, 92, 986)] : List (Nat × Nat × Nat × Nat)), q_mw e.1 e.2.1 e.2.2.1 ∈ lw_tblG := List.forall_mem_cons.mpr ⟨q_g4 (i := 87) rfl rfl, List.forall_mem_cons.mpr ⟨q_g4 (i := 103) rfl rfl, List.forall_mem_cons.mpr ⟨q_g4 (i := 107) rfl rfl, List.forall_mem_cons.mpr ⟨q_g4 (i := 111) rfl rfl, List.forall_mem_cons.mpr ⟨q_g4 (i := 91) rfl rfl, List.forall_mem_cons.mpr ⟨q_g4 (i := 99) rfl rfl, List.forall_mem_cons.mpr ⟨q_g4 (i := 115) rfl rfl, List.forall_mem_cons.mpr ⟨q_g4 (i := 119) rfl rfl, List.forall_mem_cons.mpr ⟨q_g4 (i := 131) rfl rfl, List.forall_mem_cons.mpr ⟨q_g4 (i := 135) rfl rfl, List.forall_mem_cons.mpr ⟨q_g4 (i := 139) rfl rfl, List.forall_mem_cons.mpr ⟨q_g4 (i := 140) rfl rfl, fun _ h => absurd h List.not_mem_nil⟩⟩⟩⟩⟩⟩⟩⟩⟩⟩⟩⟩
set_option maxRecDepth 100000 in
theorem q_mls_ok_12 : ∀ e ∈ ([(5, 250, 174, 990), (5, 254, 68, 994), (5, 257, 74, 1000), (5, 260, 178, 1016), (5, 263, 177, 1028), (5, 267, 64, 1032), (5, 270, 179, 1020), (5, 273, 180, 1024), (6, 58, 132, 573), (6, 62, 135, 577), (6, 68, 133, 599), (6, 71, 138, 607)] : List (Nat × Nat × Nat × Nat)), q_mw e.1 e.2.1 e.2.2.1 ∈ lw_tblG := List.forall_mem_cons.mpr ⟨q_g4 (i := 144) rfl rfl, List.forall_mem_cons.mpr ⟨q_g4 (i := 148) rfl rfl, List.forall_mem_cons.mpr ⟨q_g4 (i := 154) rfl rfl, List.forall_mem_cons.mpr ⟨q_g4 (i := 170) rfl rfl, List.forall_mem_cons.mpr ⟨q_g4 (i := 182) rfl rfl, List.forall_mem_cons.mpr ⟨q_g4 (i := 186) rfl rfl, List.forall_mem_cons.mpr ⟨q_g4 (i := 174) rfl rfl, List.forall_mem_cons.mpr ⟨q_g4 (i := 178) rfl rfl, List.forall_mem_cons.mpr ⟨q_g2 (i := 207) rfl rfl, List.forall_mem_cons.mpr ⟨q_g2 (i := 211) rfl rfl, List.forall_mem_cons.mpr ⟨q_g2 (i := 233) rfl rfl, List.forall_mem_cons.mpr ⟨q_g3 (i := 1) rfl rfl, fun _ h => absurd h List.not_mem_nil⟩⟩⟩⟩⟩⟩⟩⟩⟩⟩⟩⟩
set_option maxRecDepth 100000 in
theorem q_mls_ok_13 : ∀ e ∈ ([(6, 84, 125, 603), (6, 88, 128, 680), (6, 92, 129, 684), (6, 95, 130, 688), (6, 98, 140, 692), (6, 102, 131, 695), (6, 112, 134, 581), (6, 115, 136, 591), (6, 118, 137, 595), (6, 121, 141, 611), (6, 125, 139, 628), (6, 129, 1, 632)] : List (Nat × Nat × Nat × Nat)), q_mw e.1 e.2.1 e.2.2.1 ∈ lw_tblG := List.forall_mem_cons.mpr ⟨q_g2 (i := 237) rfl rfl, List.forall_mem_cons.mpr ⟨q_g3 (i := 74) rfl rfl, List.forall_mem_cons.mpr ⟨q_g3 (i := 78) rfl rfl, List.forall_mem_cons.mpr ⟨q_g3 (i := 82) rfl rfl, List.forall_mem_cons.mpr ⟨q_g3 (i := 86) rfl rfl, List.forall_mem_cons.mpr ⟨q_g3 (i := 89) rfl rfl, List.forall_mem_cons.mpr ⟨q_g2 (i := 215) rfl rfl, List.forall_mem_cons.mpr ⟨q_g2 (i := 225) rfl rfl, List.forall_mem_cons.mpr ⟨q_g2 (i := 229) rfl rfl, List.forall_mem_cons.mpr ⟨q_g3 (i := 5) rfl rfl, List.forall_mem_cons.mpr ⟨q_g3 (i := 22) rfl rfl, List.forall_mem_cons.mpr ⟨q_g3 (i := 26) rfl rfl, fun _ h => absurd h List.not_mem_nil⟩⟩⟩⟩⟩⟩⟩⟩⟩⟩⟩⟩
set_option maxRecDepth 100000 in
theorem q_mls_ok_14 : ∀ e ∈ ([(6, 133, 2, 642), (7, 25, 103, 320), (7, 32, 110, 327), (7, 47, 3, 533), (7, 63, 4, 1138), (7, 69, 106, 779), (7, 73, 115, 783), (7, 76, 108, 911), (7, 79, 113, 1297), (7, 83, 107, 787), (7, 86, 120, 1247), (9, 80, 185, 1318)] : List (Nat × Nat × Nat × Nat)), q_mw e.1 e.2.1 e.2.2.1 ∈ lw_tblG := List.forall_mem_cons.mpr ⟨q_g3 (i := 36) rfl rfl, List.forall_mem_cons.mpr ⟨q_g1 (i := 194) rfl rfl, List.forall_mem_cons.mpr ⟨q_g1 (i := 201) rfl rfl, List.forall_mem_cons.mpr ⟨q_g2 (i := 167) rfl rfl, List.forall_mem_cons.mpr ⟨q_g5 (i := 52) rfl rfl, List.forall_mem_cons.mpr ⟨q_g3 (i := 173) rfl rfl, List.forall_mem_cons.mpr ⟨q_g3 (i := 177) rfl rfl, List.forall_mem_cons.mpr ⟨q_g4 (i := 65) rfl rfl, List.forall_mem_cons.mpr ⟨q_g5 (i := 211) rfl rfl, List.forall_mem_cons.mpr ⟨q_g3 (i := 181) rfl rfl, List.forall_mem_cons.mpr ⟨q_g5 (i := 161) rfl rfl, List.forall_mem_cons.mpr ⟨q_g5 (i := 232) rfl rfl, fun _ h => absurd h List.not_mem_nil⟩⟩⟩⟩⟩⟩⟩⟩⟩⟩⟩⟩
set_option maxRecDepth 100000 in
theorem q_mls_ok_15 : ∀ e ∈ ([(9, 89, 187, 1478), (9, 93, 190, 1562), (9, 97, 189, 1474), (9, 100, 192, 1470), (9, 104, 193, 1466), (9, 107, 188, 1490), (9, 111, 196, 1522), (9, 114, 184, 1426), (9, 118, 199, 1574), (9, 122, 200, 1570), (9, 125, 197, 1518), (9, 128, 203, 1598)] : List (Nat × Nat × Nat × Nat)), q_mw e.1 e.2.1 e.2.2.1 ∈ lw_tblG := List.forall_mem_cons.mpr ⟨q_g6 (i := 152) rfl rfl, List.forall_mem_cons.mpr ⟨q_g6 (i := 236) rfl rfl, List.forall_mem_cons.mpr ⟨q_g6 (i := 148) rfl rfl, List.forall_mem_cons.mpr ⟨q_g6 (i := 144) rfl rfl, List.forall_mem_cons.mpr ⟨q_g6 (i := 140) rfl rfl, List.forall_mem_cons.mpr ⟨q_g6 (i := 164) rfl rfl, List.forall_mem_cons.mpr ⟨q_g6 (i := 196) rfl rfl, List.forall_mem_cons.mpr ⟨q_g6 (i := 100) rfl rfl, List.forall_mem_cons.mpr ⟨q_g7 (i := 8) rfl rfl, List.forall_mem_cons.mpr ⟨q_g7 (i := 4) rfl rfl, List.forall_mem_cons.mpr ⟨q_g6 (i := 192) rfl rfl, List.forall_mem_cons.mpr ⟨q_g7 (i := 32) rfl rfl, fun _ h => absurd h List.not_mem_nil⟩⟩⟩⟩⟩⟩⟩⟩⟩⟩⟩⟩
set_option maxRecDepth 100000 in
theorem q_mls_ok_16 : ∀ e ∈ ([(9, 131, 204, 1594), (9, 134, 206, 1582), (9, 137, 205, 1590), (9, 141, 207, 1610), (9, 144, 191, 1558), (9, 147, 209, 1606), (9, 150, 210, 1614), (9, 153, 213, 1618), (9, 157, 212, 1622), (9, 161, 214, 1602), (9, 164, 216, 1498), (9, 167, 217, 1502)] : List (Nat × Nat × Nat × Nat)), q_mw e.1 e.2.1 e.2.2.1 ∈ lw_tblG := List.forall_mem_cons.mpr ⟨q_g7 (i := 28) rfl rfl, List.forall_mem_cons.mpr ⟨q_g7 (i := 16) rfl rfl, List.forall_mem_cons.mpr ⟨q_g7 (i := 24) rfl rfl, List.forall_mem_cons.mpr ⟨q_g7 (i := 44) rfl rfl, List.forall_mem_cons.mpr ⟨q_g6 (i := 232) rfl rfl, List.forall_mem_cons.mpr ⟨q_g7 (i := 40) rfl rfl, List.forall_mem_cons.mpr ⟨q_g7 (i := 48) rfl rfl, List.forall_mem_cons.mpr ⟨q_g7 (i := 52) rfl rfl, List.forall_mem_cons.mpr ⟨q_g7 (i := 56) rfl rfl, List.forall_mem_cons.mpr ⟨q_g7 (i := 36) rfl rfl, List.forall_mem_cons.mpr ⟨q_g6 (i := 172) rfl rfl, List.forall_mem_cons.mpr ⟨q_g6 (i := 176) rfl rfl, fun _ h => absurd h List.not_mem_nil⟩⟩⟩⟩⟩⟩⟩⟩⟩⟩⟩⟩
set_option maxRecDepth 100000 in
theorem q_mls_ok_17 : ∀ e ∈ ([(9, 173, 220, 1654), (9, 176, 215, 1586), (9, 179, 221, 1650), (9, 182, 222, 1658), (9, 185, 223, 1662), (9, 188, 202, 1566), (9, 191, 194, 1462), (9, 194, 195, 1486), (9, 198, 218, 1494), (9, 201, 229, 1530), (9, 204, 182, 1514), (9, 207, 198, 1534)] : List (Nat × Nat × Nat × Nat)), q_mw e.1 e.2.1 e.2.2.1 ∈ lw_tblG := List.forall_mem_cons.mpr ⟨q_g7 (i := 88) rfl rfl, List.forall_mem_cons.mpr ⟨q_g7 (i := 20) rfl rfl, List.forall_mem_cons.mpr ⟨q_g7 (i := 84) rfl rfl, List.forall_mem_cons.mpr ⟨q_g7 (i := 92) rfl rfl, List.forall_mem_cons.mpr ⟨q_g7 (i := 96) rfl rfl, List.forall_mem_cons.mpr ⟨q_g7 (i := 0) rfl rfl, List.forall_mem_cons.mpr ⟨q_g6 (i := 136) rfl rfl, List.forall_mem_cons.mpr ⟨q_g6 (i := 160) rfl rfl, List.forall_mem_cons.mpr ⟨q_g6 (i := 168) rfl rfl, List.forall_mem_cons.mpr ⟨q_g6 (i := 204) rfl rfl, List.forall_mem_cons.mpr ⟨q_g6 (i := 188) rfl rfl, List.forall_mem_cons.mpr ⟨q_g6 (i := 208) rfl rfl, fun _ h => absurd h List.not_mem_nil⟩⟩⟩⟩⟩⟩⟩⟩⟩⟩⟩⟩
set_option maxRecDepth 100000 in
theorem q_mls_ok_18 : ∀ e ∈ ([(9, 210, 201, 1538), (9, 213, 226, 1482), (9, 217, 231, 1550), (9, 220, 225, 1554), (9, 223, 228, 1578), (9, 226, 232, 1546), (9, 229, 186, 1433), (9, 233, 227, 1626), (9, 237, 234, 1634), (9, 240, 240, 1670), (9, 243, 241, 1674), (9, 246, 242, 1678)] : List (Nat × Nat × Nat × Nat)), q_mw e.1 e.2.1 e.2.2.1 ∈ lw_tblG := List.forall_mem_cons.mpr ⟨q_g6 (i := 212) rfl rfl, List.forall_mem_cons.mpr ⟨q_g6 (i := 156) rfl rfl, List.forall_mem_cons.mpr ⟨q_g6 (i := 224) rfl rfl, List.forall_mem_cons.mpr ⟨q_g6 (i := 228) rfl rfl, List.forall_mem_cons.mpr ⟨q_g7 (i := 12) rfl rfl, List.forall_mem_cons.mpr ⟨q_g6 (i := 220) rfl rfl, List.forall_mem_cons.mpr ⟨q_g6 (i := 107) rfl rfl, List.forall_mem_cons.mpr ⟨q_g7 (i := 60) rfl rfl, List.forall_mem_cons.mpr ⟨q_g7 (i := 68) rfl rfl, List.forall_mem_cons.mpr ⟨q_g7 (i := 104) rfl rfl, List.forall_mem_cons.mpr ⟨q_g7 (i := 108) rfl rfl, List.forall_mem_cons.mpr ⟨q_g7 (i := 112) rfl rfl, fun _ h => absurd h List.not_mem_nil⟩⟩⟩⟩⟩⟩⟩⟩⟩⟩⟩⟩
set_option maxRecDepth 100000 in
theorem q_mls_ok_19 : ∀ e ∈ ([(9, 249, 245, 1702), (9, 252, 244, 1694), (9, 255, 246, 1698), (9, 258, 243, 1686), (9, 262, 247, 1690), (9, 268, 249, 1418), (9, 283, 251, 1440), (9, 303, 253, 1454), (9, 307, 252, 1436), (9, 310, 236, 1510), (9, 313, 230, 1526), (9, 316, 233, 1542)] : List (Nat × Nat × Nat × Nat)), q_mw e.1 e.2.1 e.2.2.1 ∈ lw_tblG := List.forall_mem_cons.mpr ⟨q_g7 (i := 136) rfl rfl, List.forall_mem_cons.mpr ⟨q_g7 (i := 128) rfl rfl, List.forall_mem_cons.mpr ⟨q_g7 (i := 132) rfl rfl, List.forall_mem_cons.mpr ⟨q_g7 (i := 120) rfl rfl, List.forall_mem_cons.mpr ⟨q_g7 (i := 124) rfl rfl, List.forall_mem_cons.mpr ⟨q_g6 (i := 92) rfl rfl, List.forall_mem_cons.mpr ⟨q_g6 (i := 114) rfl rfl, List.forall_mem_cons.mpr ⟨q_g6 (i := 128) rfl rfl, List.forall_mem_cons.mpr ⟨q_g6 (i := 110) rfl rfl, List.forall_mem_cons.mpr ⟨q_g6 (i := 184) rfl rfl, List.forall_mem_cons.mpr ⟨q_g6 (i := 200) rfl rfl, List.forall_mem_cons.mpr ⟨q_g6 (i := 216) rfl rfl, fun _ h => absurd h List.not_mem_nil⟩⟩⟩⟩⟩⟩⟩⟩⟩⟩⟩⟩
set_option maxRecDepth 100000 in
theorem q_mls_ok_20 : ∀ e ∈ ([(9, 320, 235, 1630), (9, 323, 237, 1638), (9, 326, 238, 1642), (9, 329, 224, 1646), (9, 332, 239, 1666), (9, 335, 248, 1682), (9, 338, 254, 1450), (9, 351, 255, 1458), (9, 354, 256, 1506), (9, 357, 183, 1429), (9, 360, 257, 1446), (9, 363, 208, 1726)] : List (Nat × Nat × Nat × Nat)), q_mw e.1 e.2.1 e.2.2.1 ∈ lw_tblG := List.forall_mem_cons.mpr ⟨q_g7 (i := 64) rfl rfl, List.forall_mem_cons.mpr ⟨q_g7 (i := 72) rfl rfl, List.forall_mem_cons.mpr ⟨q_g7 (i := 76) rfl rfl, List.forall_mem_cons.mpr ⟨q_g7 (i := 80) rfl rfl, List.forall_mem_cons.mpr ⟨q_g7 (i := 100) rfl rfl, List.forall_mem_cons.mpr ⟨q_g7 (i := 116) rfl rfl, List.forall_mem_cons.mpr ⟨q_g6 (i := 124) rfl rfl, List.forall_mem_cons.mpr ⟨q_g6 (i := 132) rfl rfl, List.forall_mem_cons.mpr ⟨q_g6 (i := 180) rfl rfl, List.forall_mem_cons.mpr ⟨q_g6 (i := 103) rfl rfl, List.forall_mem_cons.mpr ⟨q_g6 (i := 120) rfl rfl, List.forall_mem_cons.mpr ⟨q_g7 (i := 160) rfl rfl, fun _ h => absurd h List.not_mem_nil⟩⟩⟩⟩⟩⟩⟩⟩⟩⟩⟩⟩
set_option maxRecDepth 100000 in
theorem q_mls_ok_21 : ∀ e ∈ ([(9, 369, 262, 1714), (9, 372, 261, 1718), (9, 375, 260, 1722), (9, 378, 265, 1738), (9, 381, 266, 1741), (9, 385, 267, 1745), (9, 388, 269, 1753), (9, 392, 219, 1757), (9, 395, 211, 1761), (9, 398, 273, 1777), (9, 401, 278, 1797), (9, 404, 295, 1865)] : List (Nat × Nat × Nat × Nat)), q_mw e.1 e.2.1 e.2.2.1 ∈ lw_tblG := List.forall_mem_cons.mpr ⟨q_g7 (i := 148) rfl rfl, List.forall_mem_cons.mpr ⟨q_g7 (i := 152) rfl rfl, List.forall_mem_cons.mpr ⟨q_g7 (i := 156) rfl rfl, List.forall_mem_cons.mpr ⟨q_g7 (i := 172) rfl rfl, List.forall_mem_cons.mpr ⟨q_g7 (i := 175) rfl rfl, List.forall_mem_cons.mpr ⟨q_g7 (i := 179) rfl rfl, List.forall_mem_cons.mpr ⟨q_g7 (i := 187) rfl rfl, List.forall_mem_cons.mpr ⟨q_g7 (i := 191) rfl rfl, List.forall_mem_cons.mpr ⟨q_g7 (i := 195) rfl rfl, List.forall_mem_cons.mpr ⟨q_g7 (i := 211) rfl rfl, List.forall_mem_cons.mpr ⟨q_g7 (i := 231) rfl rfl, List.forall_mem_cons.mpr ⟨q_g8 (i := 59) rfl rfl, fun _ h => absurd h List.not_mem_nil⟩⟩⟩⟩⟩⟩⟩⟩⟩⟩⟩⟩
set_option maxRecDepth 100000 in
theorem q_mls_ok_22 : ∀ e ∈ ([(9, 407, 297, 1873), (9, 410, 298, 1877), (9, 413, 303, 1897), (9, 416, 305, 1905)] : List (Nat × Nat × Nat × Nat)), q_mw e.1 e.2.1 e.2.2.1 ∈ lw_tblG := List.forall_mem_cons.mpr ⟨q_g8 (i := 67) rfl rfl, List.forall_mem_cons.mpr ⟨q_g8 (i := 71) rfl rfl, List.forall_mem_cons.mpr ⟨q_g8 (i := 91) rfl rfl, List.forall_mem_cons.mpr ⟨q_g8 (i := 99) rfl rfl, fun _ h => absurd h List.not_mem_nil⟩⟩⟩⟩
set_option maxRecDepth 100000 in
theorem q_mls_ok : ∀ e ∈ q_mls_, q_mw e.1 e.2.1 e.2.2.1 ∈ lw_tblG := by
  intro e h
  have h : e ∈ ([(8, 37, 122, 486), (8, 41, 123, 490), (8, 48, 46, 499), (8, 52, 142, 503), (8, 56, 143, 550), (8, 59, 124, 565), (8, 62, 127, 569), (8, 66, 53, 699), (8, 75, 45, 792), (8, 121, 148, 1047), (8, 124, 97, 1059), (8, 130, 117, 1008)] : List (Nat × Nat × Nat × Nat)) ++ (([(8, 134, 118, 1063), (8, 141, 86, 1071), (8, 146, 56, 921), (8, 149, 90, 1079), (8, 152, 94, 1080), (8, 155, 153, 1081), (8, 158, 96, 1085), (8, 161, 92, 1089), (8, 164, 91, 1094), (8, 168, 89, 853), (8, 180, 59, 1099), (8, 183, 79, 1100)] : List (Nat × Nat × Nat × Nat)) ++ (([(8, 186, 159, 1104), (8, 189, 66, 1112), (8, 192, 147, 1118), (8, 196, 71, 1126), (8, 199, 72, 1127), (8, 202, 58, 889), (8, 205, 73, 1128), (8, 208, 105, 804), (8, 211, 106, 816), (8, 214, 107, 1133), (8, 217, 109, 1134), (8, 220, 108, 817)] : List (Nat × Nat × Nat × Nat)) ++ (([(8, 223, 111, 1148), (8, 226, 144, 833), (8, 229, 156, 837), (8, 239, 150, 899), (8, 242, 151, 1161), (8, 246, 83, 1173), (8, 249, 84, 1177), (8, 252, 112, 775), (8, 254, 48, 808), (8, 257, 113, 907), (8, 261, 82, 912), (8, 264, 47, 812)] : List (Nat × Nat × Nat × Nat)) ++ (([(8, 267, 57, 800), (8, 271, 100, 711), (8, 274, 160, 728), (8, 278, 50, 825), (8, 281, 163, 854), (8, 284, 161, 890), (8, 288, 162, 891), (8, 292, 49, 829), (8, 295, 51, 1191), (8, 298, 120, 1195), (8, 301, 119, 1199), (8, 304, 164, 924)] : List (Nat × Nat × Nat × Nat)) ++ (([(8, 307, 166, 929), (8, 310, 55, 803), (8, 313, 173, 973), (8, 323, 69, 1210), (8, 326, 176, 1012), (8, 330, 98, 1033), (8, 333, 115, 1234), (8, 336, 121, 1243), (8, 339, 116, 1252), (8, 342, 154, 1260), (8, 345, 95, 1269), (8, 348, 52, 1273)] : List (Nat × Nat × Nat × Nat)) ++ (([(8, 351, 175, 1285), (8, 354, 114, 1293), (8, 360, 126, 703), (8, 365, 54, 707), (8, 368, 21, 771), (8, 371, 24, 796), (8, 375, 25, 821), (8, 378, 26, 895), (8, 381, 22, 903), (8, 384, 23, 913), (8, 387, 28, 917), (8, 390, 29, 925)] : List (Nat × Nat × Nat × Nat)) ++ (([(8, 393, 30, 969), (8, 396, 32, 1004), (8, 402, 125, 1037), (8, 405, 3, 522), (0, 36, 3, 999), (1, 37, 76, 761), (1, 41, 75, 766), (1, 45, 72, 941), (2, 37, 3, 886), (3, 33, 89, 511), (3, 37, 64, 515), (3, 45, 63, 558)] : List (Nat × Nat × Nat × Nat)) ++ (([(3, 61, 90, 723), (3, 68, 94, 719), (3, 74, 99, 715), (3, 84, 93, 746), (4, 9, 63, 236), (5, 53, 87, 507), (5, 57, 104, 528), (5, 60, 70, 535), (5, 63, 80, 540), (5, 66, 67, 545), (5, 75, 88, 554), (5, 81, 103, 560)] : List (Nat × Nat × Nat × Nat)) ++ (([(5, 87, 81, 561), (5, 101, 106, 876), (5, 111, 145, 872), (5, 118, 146, 1055), (5, 121, 89, 756), (5, 125, 149, 1051), (5, 129, 65, 841), (5, 134, 152, 1165), (5, 141, 153, 1264), (5, 144, 111, 849), (5, 148, 155, 845), (5, 161, 157, 868)] : List (Nat × Nat × Nat × Nat)) ++ (([(5, 164, 158, 877), (5, 167, 161, 732), (5, 171, 101, 736), (5, 174, 85, 750), (5, 187, 77, 757), (5, 190, 93, 887), (5, 194, 99, 859), (5, 197, 164, 860), (5, 200, 100, 888), (5, 203, 165, 864), (5, 206, 63, 881), (5, 210, 82, 882)] : List (Nat × Nat × Nat × Nat)) ++ (([(5, 213, 167, 933), (5, 217, 102, 949), (5, 220, 169, 953), (5, 223, 170, 957), (5, 226, 78, 937), (5, 229, 168, 945), (5, 232, 171, 961), (5, 235, 172, 965), (5, 238, 71, 977), (5, 241, 73, 981), (5, 244, 72, 985), (5, 247, 92, 986)] : List (Nat × Nat × Nat × Nat)) ++ (([(5, 250, 174, 990), (5, 254, 68, 994), (5, 257, 74, 1000), (5, 260, 178, 1016), (5, 263, 177, 1028), (5, 267, 64, 1032), (5, 270, 179, 1020), (5, 273, 180, 1024), (6, 58, 132, 573), (6, 62, 135, 577), (6, 68, 133, 599), (6, 71, 138, 607)] : List (Nat × Nat × Nat × Nat)) ++ (([(6, 84, 125, 603), (6, 88, 128, 680), (6, 92, 129, 684), (6, 95, 130, 688), (6, 98, 140, 692), (6, 102, 131, 695), (6, 112, 134, 581), (6, 115, 136, 591), (6, 118, 137, 595), (6, 121, 141, 611), (6, 125, 139, 628), (6, 129, 1, 632)] : List (Nat × Nat × Nat × Nat)) ++ (([(6, 133, 2, 642), (7, 25, 103, 320), (7, 32, 110, 327), (7, 47, 3, 533), (7, 63, 4, 1138), (7, 69, 106, 779), (7, 73, 115, 783), (7, 76, 108, 911), (7, 79, 113, 1297), (7, 83, 107, 787), (7, 86, 120, 1247), (9, 80, 185, 1318)] : List (Nat × Nat × Nat × Nat)) ++ (([(9, 89, 187, 1478), (9, 93, 190, 1562), (9, 97, 189, 1474), (9, 100, 192, 1470), (9, 104, 193, 1466), (9, 107, 188, 1490), (9, 111, 196, 1522), (9, 114, 184, 1426), (9, 118, 199, 1574), (9, 122, 200, 1570), (9, 125, 197, 1518), (9, 128, 203, 1598)] : List (Nat × Nat × Nat × Nat)) ++ (([(9, 131, 204, 1594), (9, 134, 206, 1582), (9, 137, 205, 1590), (9, 141, 207, 1610), (9, 144, 191, 1558), (9, 147, 209, 1606), (9, 150, 210, 1614), (9, 153, 213, 1618), (9, 157, 212, 1622), (9, 161, 214, 1602), (9, 164, 216, 1498), (9, 167, 217, 1502)] : List (Nat × Nat × Nat × Nat)) ++ (([(9, 173, 220, 1654), (9, 176, 215, 1586), (9, 179, 221, 1650), (9, 182, 222, 1658), (9, 185, 223, 1662), (9, 188, 202, 1566), (9, 191, 194, 1462), (9, 194, 195, 1486), (9, 198, 218, 1494), (9, 201, 229, 1530), (9, 204, 182, 1514), (9, 207, 198, 1534)] : List (Nat × Nat × Nat × Nat)) ++ (([(9, 210, 201, 1538), (9, 213, 226, 1482), (9, 217, 231, 1550), (9, 220, 225, 1554), (9, 223, 228, 1578), (9, 226, 232, 1546), (9, 229, 186, 1433), (9, 233, 227, 1626), (9, 237, 234, 1634), (9, 240, 240, 1670), (9, 243, 241, 1674), (9, 246, 242, 1678)] : List (Nat × Nat × Nat × Nat)) ++ (([(9, 249, 245, 1702), (9, 252, 244, 1694), (9, 255, 246, 1698), (9, 258, 243, 1686), (9, 262, 247, 1690), (9, 268, 249, 1418), (9, 283, 251, 1440), (9, 303, 253, 1454), (9, 307, 252, 1436), (9, 310, 236, 1510), (9, 313, 230, 1526), (9, 316, 233, 1542)] : List (Nat × Nat × Nat × Nat)) ++ (([(9, 320, 235, 1630), (9, 323, 237, 1638), (9, 326, 238, 1642), (9, 329, 224, 1646), (9, 332, 239, 1666), (9, 335, 248, 1682), (9, 338, 254, 1450), (9, 351, 255, 1458), (9, 354, 256, 1506), (9, 357, 183, 1429), (9, 360, 257, 1446), (9, 363, 208, 1726)] : List (Nat × Nat × Nat × Nat)) ++ (([(9, 369, 262, 1714), (9, 372, 261, 1718), (9, 375, 260, 1722), (9, 378, 265, 1738), (9, 381, 266, 1741), (9, 385, 267, 1745), (9, 388, 269, 1753), (9, 392, 219, 1757), (9, 395, 211, 1761), (9, 398, 273, 1777), (9, 401, 278, 1797), (9, 404, 295, 1865)] : List (Nat × Nat × Nat × Nat)) ++ (([(9, 407, 297, 1873), (9, 410, 298, 1877), (9, 413, 303, 1897), (9, 416, 305, 1905)] : List (Nat × Nat × Nat × Nat)))))))))))))))))))))))) := h
  rcases List.mem_append.mp h with h | h
  · exact q_mls_ok_0 e h
  rcases List.mem_append.mp h with h | h
  · exact q_mls_ok_1 e h
  rcases List.mem_append.mp h with h | h
  · exact q_mls_ok_2 e h
  rcases List.mem_append.mp h with h | h
  · exact q_mls_ok_3 e h
  rcases List.mem_append.mp h with h | h
  · exact q_mls_ok_4 e h
  rcases List.mem_append.mp h with h | h
  · exact q_mls_ok_5 e h
  rcases List.mem_append.mp h with h | h
  · exact q_mls_ok_6 e h
  rcases List.mem_append.mp h with h | h
  · exact q_mls_ok_7 e h
  rcases List.mem_append.mp h with h | h
  · exact q_mls_ok_8 e h
  rcases List.mem_append.mp h with h | h
  · exact q_mls_ok_9 e h
  rcases List.mem_append.mp h with h | h
  · exact q_mls_ok_10 e h
  rcases List.mem_append.mp h with h | h
  · exact q_mls_ok_11 e h
  rcases List.mem_append.mp h with h | h
  · exact q_mls_ok_12 e h
  rcases List.mem_append.mp h with h | h
  · exact q_mls_ok_13 e h
  rcases List.mem_append.mp h with h | h
  · exact q_mls_ok_14 e h
  rcases List.mem_append.mp h with h | h
  · exact q_mls_ok_15 e h
  rcases List.mem_append.mp h with h | h
  · exact q_mls_ok_16 e h
  rcases List.mem_append.mp h with h | h
  · exact q_mls_ok_17 e h
  rcases List.mem_append.mp h with h | h
  · exact q_mls_ok_18 e h
  rcases List.mem_append.mp h with h | h
  · exact q_mls_ok_19 e h
  rcases List.mem_append.mp h with h | h
  · exact q_mls_ok_20 e h
  rcases List.mem_append.mp h with h | h
  · exact q_mls_ok_21 e h
  exact q_mls_ok_22 e h
set_option maxRecDepth 100000 in
theorem q_cls_ok_0 : ∀ e ∈ ([(9, 42, 11442943, 1304), (9, 44, 1097234, 1305), (9, 46, 923, 1306), (9, 48, 13550, 1307), (9, 50, 1166657, 1308), (9, 52, 136958465, 1309), (9, 54, 309910109, 1310), (9, 56, 60293219, 1311), (9, 58, 51283955, 1312), (9, 60, 582248, 1313), (9, 62, 8873042, 1314), (9, 64, 316282333, 1315)] : List (Nat × Nat × Nat × Nat)), q_cw e.1 e.2.1 e.2.2.1 ∈ lw_tblG := List.forall_mem_cons.mpr ⟨q_g5 (i := 218) rfl rfl, List.forall_mem_cons.mpr ⟨q_g5 (i := 219) rfl rfl, List.forall_mem_cons.mpr ⟨q_g5 (i := 220) rfl rfl, List.forall_mem_cons.mpr ⟨q_g5 (i := 221) rfl rfl, List.forall_mem_cons.mpr ⟨q_g5 (i := 222) rfl rfl, List.forall_mem_cons.mpr ⟨q_g5 (i := 223) rfl rfl, List.forall_mem_cons.mpr ⟨q_g5 (i := 224) rfl rfl, List.forall_mem_cons.mpr ⟨q_g5 (i := 225) rfl rfl, List.forall_mem_cons.mpr ⟨q_g5 (i := 226) rfl rfl, List.forall_mem_cons.mpr ⟨q_g5 (i := 227) rfl rfl, List.forall_mem_cons.mpr ⟨q_g5 (i := 228) rfl rfl, List.forall_mem_cons.mpr ⟨q_g5 (i := 229) rfl rfl, fun _ h => absurd h List.not_mem_nil⟩⟩⟩⟩⟩⟩⟩⟩⟩⟩⟩⟩
set_option maxRecDepth 100000 in
theorem q_cls_ok_1 : ∀ e ∈ ([(9, 66, 247547, 1316), (9, 68, 261253280, 1317), (9, 290, 27, 1444), (9, 292, 96, 1445), (10, 314, 6148914691236517205, 1141), (10, 316, 3689348814741910323, 1142), (10, 318, 1085102592571150095, 1143)] : List (Nat × Nat × Nat × Nat)), q_cw e.1 e.2.1 e.2.2.1 ∈ lw_tblG := List.forall_mem_cons.mpr ⟨q_g5 (i := 230) rfl rfl, List.forall_mem_cons.mpr ⟨q_g5 (i := 231) rfl rfl, List.forall_mem_cons.mpr ⟨q_g6 (i := 118) rfl rfl, List.forall_mem_cons.mpr ⟨q_g6 (i := 119) rfl rfl, List.forall_mem_cons.mpr ⟨q_g5 (i := 55) rfl rfl, List.forall_mem_cons.mpr ⟨q_g5 (i := 56) rfl rfl, List.forall_mem_cons.mpr ⟨q_g5 (i := 57) rfl rfl, fun _ h => absurd h List.not_mem_nil⟩⟩⟩⟩⟩⟩⟩
set_option maxRecDepth 100000 in
theorem q_cls_ok : ∀ e ∈ q_cls, q_cw e.1 e.2.1 e.2.2.1 ∈ lw_tblG := by
  intro e h
  have h : e ∈ ([(9, 42, 11442943, 1304), (9, 44, 1097234, 1305), (9, 46, 923, 1306), (9, 48, 13550, 1307), (9, 50, 1166657, 1308), (9, 52, 136958465, 1309), (9, 54, 309910109, 1310), (9, 56, 60293219, 1311), (9, 58, 51283955, 1312), (9, 60, 582248, 1313), (9, 62, 8873042, 1314), (9, 64, 316282333, 1315)] : List (Nat × Nat × Nat × Nat)) ++ (([(9, 66, 247547, 1316), (9, 68, 261253280, 1317), (9, 290, 27, 1444), (9, 292, 96, 1445), (10, 314, 6148914691236517205, 1141), (10, 316, 3689348814741910323, 1142), (10, 318, 1085102592571150095, 1143)] : List (Nat × Nat × Nat × Nat))) := h
  rcases List.mem_append.mp h with h | h
  · exact q_cls_ok_0 e h
  exact q_cls_ok_1 e h
set_option maxRecDepth 100000 in
theorem q_nes_ok_0 : ∀ e ∈ ([(0, 24, 62, 549), (0, 32, 61, 998), (0, 42, 60, 1214), (0, 46, 58, 1215), (0, 50, 59, 1216), (1, 21, 62, 539), (1, 29, 60, 765), (1, 33, 61, 770), (2, 21, 62, 544), (2, 29, 60, 754), (2, 33, 61, 755), (3, 41, 62, 519)] : List (Nat × Nat × Nat × Nat)), q_nw e.1 e.2.1 e.2.2.1 ∈ lw_tbl := List.forall_mem_cons.mpr ⟨q_u2 (i := 183) rfl, List.forall_mem_cons.mpr ⟨q_u4 (i := 152) rfl, List.forall_mem_cons.mpr ⟨q_u5 (i := 128) rfl, List.forall_mem_cons.mpr ⟨q_u5 (i := 129) rfl, List.forall_mem_cons.mpr ⟨q_u5 (i := 130) rfl, List.forall_mem_cons.mpr ⟨q_u2 (i := 173) rfl, List.forall_mem_cons.mpr ⟨q_u3 (i := 159) rfl, List.forall_mem_cons.mpr ⟨q_u3 (i := 164) rfl, List.forall_mem_cons.mpr ⟨q_u2 (i := 178) rfl, List.forall_mem_cons.mpr ⟨q_u3 (i := 148) rfl, List.forall_mem_cons.mpr ⟨q_u3 (i := 149) rfl, List.forall_mem_cons.mpr ⟨q_u2 (i := 153) rfl, fun _ h => absurd h List.not_mem_nil⟩⟩⟩⟩⟩⟩⟩⟩⟩⟩⟩⟩
set_option maxRecDepth 100000 in
theorem q_nes_ok_1 : ∀ e ∈ ([(3, 49, 61, 559), (3, 53, 60, 727), (3, 57, 56, 1098), (3, 78, 58, 740), (3, 81, 59, 743), (4, 53, 58, 1116), (4, 57, 59, 1117), (5, 158, 58, 858), (6, 25, 61, 494), (6, 54, 60, 585), (6, 108, 55, 588), (7, 28, 61, 324)] : List (Nat × Nat × Nat × Nat)), q_nw e.1 e.2.1 e.2.2.1 ∈ lw_tbl := List.forall_mem_cons.mpr ⟨q_u2 (i := 193) rfl, List.forall_mem_cons.mpr ⟨q_u3 (i := 121) rfl, List.forall_mem_cons.mpr ⟨q_u5 (i := 12) rfl, List.forall_mem_cons.mpr ⟨q_u3 (i := 134) rfl, List.forall_mem_cons.mpr ⟨q_u3 (i := 137) rfl, List.forall_mem_cons.mpr ⟨q_u5 (i := 30) rfl, List.forall_mem_cons.mpr ⟨q_u5 (i := 31) rfl, List.forall_mem_cons.mpr ⟨q_u4 (i := 12) rfl, List.forall_mem_cons.mpr ⟨q_u2 (i := 128) rfl, List.forall_mem_cons.mpr ⟨q_u2 (i := 219) rfl, List.forall_mem_cons.mpr ⟨q_u2 (i := 222) rfl, List.forall_mem_cons.mpr ⟨q_u1 (i := 198) rfl, fun _ h => absurd h List.not_mem_nil⟩⟩⟩⟩⟩⟩⟩⟩⟩⟩⟩⟩
set_option maxRecDepth 100000 in
theorem q_nes_ok_2 : ∀ e ∈ ([(7, 43, 62, 532), (7, 59, 60, 791)] : List (Nat × Nat × Nat × Nat)), q_nw e.1 e.2.1 e.2.2.1 ∈ lw_tbl := List.forall_mem_cons.mpr ⟨q_u2 (i := 166) rfl, List.forall_mem_cons.mpr ⟨q_u3 (i := 185) rfl, fun _ h => absurd h List.not_mem_nil⟩⟩
set_option maxRecDepth 100000 in
theorem q_nes_ok : ∀ e ∈ q_nes, q_nw e.1 e.2.1 e.2.2.1 ∈ lw_tbl := by
  intro e h
  have h : e ∈ ([(0, 24, 62, 549), (0, 32, 61, 998), (0, 42, 60, 1214), (0, 46, 58, 1215), (0, 50, 59, 1216), (1, 21, 62, 539), (1, 29, 60, 765), (1, 33, 61, 770), (2, 21, 62, 544), (2, 29, 60, 754), (2, 33, 61, 755), (3, 41, 62, 519)] : List (Nat × Nat × Nat × Nat)) ++ (([(3, 49, 61, 559), (3, 53, 60, 727), (3, 57, 56, 1098), (3, 78, 58, 740), (3, 81, 59, 743), (4, 53, 58, 1116), (4, 57, 59, 1117), (5, 158, 58, 858), (6, 25, 61, 494), (6, 54, 60, 585), (6, 108, 55, 588), (7, 28, 61, 324)] : List (Nat × Nat × Nat × Nat)) ++ (([(7, 43, 62, 532), (7, 59, 60, 791)] : List (Nat × Nat × Nat × Nat)))) := h
  rcases List.mem_append.mp h with h | h
  · exact q_nes_ok_0 e h
  rcases List.mem_append.mp h with h | h
  · exact q_nes_ok_1 e h
  exact q_nes_ok_2 e h
theorem q_cn_ok : ∀ c, c < 13 → q_cn c ≠ "java/lang/invoke/MethodHandle" ∧ q_cn c ≠ "java/lang/invoke/VarHandle" ∧ (c = 11 ∨ plainName (q_cn c) = true) := by decide +kernel
def q_mk (m : Nat) : Prop := (Cond.code (q_y m) (q_b m) (q_ml m) (q_rt m) ∈ lw_tblG ∧ Cond.initialized (q_y m).cls ∈ lw_tblG) ∧ (bif Nat.beq (q_vi m) 1 then Cond.instanceMethod (q_y m) ∈ lw_tblG ∧ Cond.selects (q_y m).cls (q_y m) (q_y m) ∈ lw_tblG else Cond.static (q_y m) ∈ lw_tblG) ∧ ((q_y m).cls = q_cn (q_mc m) ∧ q_mc m < 13 ∧ q_ml m ≤ 11) ∧ (parseMethodDescriptor (q_y m).desc).map (fun d => d.parameters.length) = some (q_na m)
set_option maxRecDepth 100000 in
theorem q_mk_1 : q_mk 1 := ⟨⟨q_g3 (i := 29) rfl rfl, q_g1 (i := 13) rfl rfl⟩, show _ ∧ _ from ⟨q_g3 (i := 27) rfl rfl, q_g3 (i := 28) rfl rfl⟩, ⟨rfl, Nat.le_of_ble_eq_true rfl, Nat.le_of_ble_eq_true rfl⟩, by decide +kernel⟩
set_option maxRecDepth 100000 in
theorem q_mk_2 : q_mk 2 := ⟨⟨q_g3 (i := 39) rfl rfl, q_g1 (i := 13) rfl rfl⟩, show _ ∧ _ from ⟨q_g3 (i := 37) rfl rfl, q_g3 (i := 38) rfl rfl⟩, ⟨rfl, Nat.le_of_ble_eq_true rfl, Nat.le_of_ble_eq_true rfl⟩, by decide +kernel⟩
set_option maxRecDepth 100000 in
theorem q_mk_3 : q_mk 3 := ⟨⟨q_g2 (i := 158) rfl rfl, q_g1 (i := 11) rfl rfl⟩, q_g2 (i := 157) rfl rfl, ⟨rfl, Nat.le_of_ble_eq_true rfl, Nat.le_of_ble_eq_true rfl⟩, by decide +kernel⟩
set_option maxRecDepth 100000 in
theorem q_mk_4 : q_mk 4 := ⟨⟨q_g5 (i := 54) rfl rfl, q_g1 (i := 17) rfl rfl⟩, q_g5 (i := 53) rfl rfl, ⟨rfl, Nat.le_of_ble_eq_true rfl, Nat.le_of_ble_eq_true rfl⟩, by decide +kernel⟩
set_option maxRecDepth 100000 in
theorem q_mk_5 : q_mk 5 := ⟨⟨q_g2 (i := 115) rfl rfl, q_g1 (i := 1) rfl rfl⟩, show _ ∧ _ from ⟨q_g2 (i := 113) rfl rfl, q_g2 (i := 114) rfl rfl⟩, ⟨rfl, Nat.le_of_ble_eq_true rfl, Nat.le_of_ble_eq_true rfl⟩, by decide +kernel⟩
set_option maxRecDepth 100000 in
theorem q_mk_6 : q_mk 6 := ⟨⟨q_g2 (i := 119) rfl rfl, q_g1 (i := 1) rfl rfl⟩, show _ ∧ _ from ⟨q_g2 (i := 117) rfl rfl, q_g2 (i := 118) rfl rfl⟩, ⟨rfl, Nat.le_of_ble_eq_true rfl, Nat.le_of_ble_eq_true rfl⟩, by decide +kernel⟩
set_option maxRecDepth 100000 in
theorem q_mk_7 : q_mk 7 := ⟨⟨q_g2 (i := 132) rfl rfl, q_g1 (i := 1) rfl rfl⟩, show _ ∧ _ from ⟨q_g2 (i := 130) rfl rfl, q_g2 (i := 131) rfl rfl⟩, ⟨rfl, Nat.le_of_ble_eq_true rfl, Nat.le_of_ble_eq_true rfl⟩, by decide +kernel⟩
set_option maxRecDepth 100000 in
theorem q_mk_8 : q_mk 8 := ⟨⟨q_g4 (i := 196) rfl rfl, q_g1 (i := 1) rfl rfl⟩, show _ ∧ _ from ⟨q_g4 (i := 194) rfl rfl, q_g4 (i := 195) rfl rfl⟩, ⟨rfl, Nat.le_of_ble_eq_true rfl, Nat.le_of_ble_eq_true rfl⟩, by decide +kernel⟩
set_option maxRecDepth 100000 in
theorem q_mk_9 : q_mk 9 := ⟨⟨q_g4 (i := 200) rfl rfl, q_g1 (i := 1) rfl rfl⟩, show _ ∧ _ from ⟨q_g4 (i := 198) rfl rfl, q_g4 (i := 199) rfl rfl⟩, ⟨rfl, Nat.le_of_ble_eq_true rfl, Nat.le_of_ble_eq_true rfl⟩, by decide +kernel⟩
set_option maxRecDepth 100000 in
theorem q_mk_10 : q_mk 10 := ⟨⟨q_g4 (i := 224) rfl rfl, q_g1 (i := 1) rfl rfl⟩, show _ ∧ _ from ⟨q_g4 (i := 222) rfl rfl, q_g4 (i := 223) rfl rfl⟩, ⟨rfl, Nat.le_of_ble_eq_true rfl, Nat.le_of_ble_eq_true rfl⟩, by decide +kernel⟩
set_option maxRecDepth 100000 in
theorem q_mk_11 : q_mk 11 := ⟨⟨q_g4 (i := 232) rfl rfl, q_g1 (i := 1) rfl rfl⟩, show _ ∧ _ from ⟨q_g4 (i := 230) rfl rfl, q_g4 (i := 231) rfl rfl⟩, ⟨rfl, Nat.le_of_ble_eq_true rfl, Nat.le_of_ble_eq_true rfl⟩, by decide +kernel⟩
set_option maxRecDepth 100000 in
theorem q_mk_12 : q_mk 12 := ⟨⟨q_g5 (i := 7) rfl rfl, q_g1 (i := 1) rfl rfl⟩, show _ ∧ _ from ⟨q_g5 (i := 5) rfl rfl, q_g5 (i := 6) rfl rfl⟩, ⟨rfl, Nat.le_of_ble_eq_true rfl, Nat.le_of_ble_eq_true rfl⟩, by decide +kernel⟩
set_option maxRecDepth 100000 in
theorem q_mk_13 : q_mk 13 := ⟨⟨q_g5 (i := 25) rfl rfl, q_g1 (i := 1) rfl rfl⟩, show _ ∧ _ from ⟨q_g5 (i := 23) rfl rfl, q_g5 (i := 24) rfl rfl⟩, ⟨rfl, Nat.le_of_ble_eq_true rfl, Nat.le_of_ble_eq_true rfl⟩, by decide +kernel⟩
set_option maxRecDepth 100000 in
theorem q_mk_14 : q_mk 14 := ⟨⟨q_g5 (i := 39) rfl rfl, q_g1 (i := 1) rfl rfl⟩, show _ ∧ _ from ⟨q_g5 (i := 37) rfl rfl, q_g5 (i := 38) rfl rfl⟩, ⟨rfl, Nat.le_of_ble_eq_true rfl, Nat.le_of_ble_eq_true rfl⟩, by decide +kernel⟩
set_option maxRecDepth 100000 in
theorem q_mk_15 : q_mk 15 := ⟨⟨q_g5 (i := 46) rfl rfl, q_g1 (i := 1) rfl rfl⟩, show _ ∧ _ from ⟨q_g5 (i := 44) rfl rfl, q_g5 (i := 45) rfl rfl⟩, ⟨rfl, Nat.le_of_ble_eq_true rfl, Nat.le_of_ble_eq_true rfl⟩, by decide +kernel⟩
set_option maxRecDepth 100000 in
theorem q_mk_16 : q_mk 16 := ⟨⟨q_g5 (i := 61) rfl rfl, q_g1 (i := 1) rfl rfl⟩, show _ ∧ _ from ⟨q_g5 (i := 59) rfl rfl, q_g5 (i := 60) rfl rfl⟩, ⟨rfl, Nat.le_of_ble_eq_true rfl, Nat.le_of_ble_eq_true rfl⟩, by decide +kernel⟩
set_option maxRecDepth 100000 in
theorem q_mk_17 : q_mk 17 := ⟨⟨q_g5 (i := 66) rfl rfl, q_g1 (i := 1) rfl rfl⟩, show _ ∧ _ from ⟨q_g5 (i := 64) rfl rfl, q_g5 (i := 65) rfl rfl⟩, ⟨rfl, Nat.le_of_ble_eq_true rfl, Nat.le_of_ble_eq_true rfl⟩, by decide +kernel⟩
set_option maxRecDepth 100000 in
theorem q_mk_18 : q_mk 18 := ⟨⟨q_g5 (i := 70) rfl rfl, q_g1 (i := 1) rfl rfl⟩, show _ ∧ _ from ⟨q_g5 (i := 68) rfl rfl, q_g5 (i := 69) rfl rfl⟩, ⟨rfl, Nat.le_of_ble_eq_true rfl, Nat.le_of_ble_eq_true rfl⟩, by decide +kernel⟩
set_option maxRecDepth 100000 in
theorem q_mk_19 : q_mk 19 := ⟨⟨q_g5 (i := 74) rfl rfl, q_g1 (i := 1) rfl rfl⟩, show _ ∧ _ from ⟨q_g5 (i := 72) rfl rfl, q_g5 (i := 73) rfl rfl⟩, ⟨rfl, Nat.le_of_ble_eq_true rfl, Nat.le_of_ble_eq_true rfl⟩, by decide +kernel⟩
set_option maxRecDepth 100000 in
theorem q_mk_20 : q_mk 20 := ⟨⟨q_g5 (i := 86) rfl rfl, q_g1 (i := 1) rfl rfl⟩, show _ ∧ _ from ⟨q_g5 (i := 84) rfl rfl, q_g5 (i := 85) rfl rfl⟩, ⟨rfl, Nat.le_of_ble_eq_true rfl, Nat.le_of_ble_eq_true rfl⟩, by decide +kernel⟩
set_option maxRecDepth 100000 in
theorem q_mk_21 : q_mk 21 := ⟨⟨q_g3 (i := 168) rfl rfl, q_g1 (i := 1) rfl rfl⟩, show _ ∧ _ from ⟨q_g3 (i := 166) rfl rfl, q_g3 (i := 167) rfl rfl⟩, ⟨rfl, Nat.le_of_ble_eq_true rfl, Nat.le_of_ble_eq_true rfl⟩, by decide +kernel⟩
set_option maxRecDepth 100000 in
theorem q_mk_22 : q_mk 22 := ⟨⟨q_g4 (i := 60) rfl rfl, q_g1 (i := 1) rfl rfl⟩, show _ ∧ _ from ⟨q_g4 (i := 58) rfl rfl, q_g4 (i := 59) rfl rfl⟩, ⟨rfl, Nat.le_of_ble_eq_true rfl, Nat.le_of_ble_eq_true rfl⟩, by decide +kernel⟩
set_option maxRecDepth 100000 in
theorem q_mk_23 : q_mk 23 := ⟨⟨q_g4 (i := 70) rfl rfl, q_g1 (i := 1) rfl rfl⟩, show _ ∧ _ from ⟨q_g4 (i := 68) rfl rfl, q_g4 (i := 69) rfl rfl⟩, ⟨rfl, Nat.le_of_ble_eq_true rfl, Nat.le_of_ble_eq_true rfl⟩, by decide +kernel⟩
set_option maxRecDepth 100000 in
theorem q_mk_24 : q_mk 24 := ⟨⟨q_g3 (i := 193) rfl rfl, q_g1 (i := 1) rfl rfl⟩, show _ ∧ _ from ⟨q_g3 (i := 191) rfl rfl, q_g3 (i := 192) rfl rfl⟩, ⟨rfl, Nat.le_of_ble_eq_true rfl, Nat.le_of_ble_eq_true rfl⟩, by decide +kernel⟩
set_option maxRecDepth 100000 in
theorem q_mk_25 : q_mk 25 := ⟨⟨q_g3 (i := 218) rfl rfl, q_g1 (i := 1) rfl rfl⟩, show _ ∧ _ from ⟨q_g3 (i := 216) rfl rfl, q_g3 (i := 217) rfl rfl⟩, ⟨rfl, Nat.le_of_ble_eq_true rfl, Nat.le_of_ble_eq_true rfl⟩, by decide +kernel⟩
set_option maxRecDepth 100000 in
theorem q_mk_26 : q_mk 26 := ⟨⟨q_g4 (i := 52) rfl rfl, q_g1 (i := 1) rfl rfl⟩, show _ ∧ _ from ⟨q_g4 (i := 50) rfl rfl, q_g4 (i := 51) rfl rfl⟩, ⟨rfl, Nat.le_of_ble_eq_true rfl, Nat.le_of_ble_eq_true rfl⟩, by decide +kernel⟩
set_option maxRecDepth 100000 in
theorem q_mk_27 : q_mk 27 := ⟨⟨q_g5 (i := 104) rfl rfl, q_g1 (i := 1) rfl rfl⟩, show _ ∧ _ from ⟨q_g5 (i := 102) rfl rfl, q_g5 (i := 103) rfl rfl⟩, ⟨rfl, Nat.le_of_ble_eq_true rfl, Nat.le_of_ble_eq_true rfl⟩, by decide +kernel⟩
set_option maxRecDepth 100000 in
theorem q_mk_28 : q_mk 28 := ⟨⟨q_g4 (i := 74) rfl rfl, q_g1 (i := 1) rfl rfl⟩, show _ ∧ _ from ⟨q_g4 (i := 72) rfl rfl, q_g4 (i := 73) rfl rfl⟩, ⟨rfl, Nat.le_of_ble_eq_true rfl, Nat.le_of_ble_eq_true rfl⟩, by decide +kernel⟩
set_option maxRecDepth 100000 in
theorem q_mk_29 : q_mk 29 := ⟨⟨q_g4 (i := 82) rfl rfl, q_g1 (i := 1) rfl rfl⟩, show _ ∧ _ from ⟨q_g4 (i := 80) rfl rfl, q_g4 (i := 81) rfl rfl⟩, ⟨rfl, Nat.le_of_ble_eq_true rfl, Nat.le_of_ble_eq_true rfl⟩, by decide +kernel⟩
set_option maxRecDepth 100000 in
theorem q_mk_30 : q_mk 30 := ⟨⟨q_g4 (i := 126) rfl rfl, q_g1 (i := 1) rfl rfl⟩, show _ ∧ _ from ⟨q_g4 (i := 124) rfl rfl, q_g4 (i := 125) rfl rfl⟩, ⟨rfl, Nat.le_of_ble_eq_true rfl, Nat.le_of_ble_eq_true rfl⟩, by decide +kernel⟩
set_option maxRecDepth 100000 in
theorem q_mk_31 : q_mk 31 := ⟨⟨q_g5 (i := 123) rfl rfl, q_g1 (i := 1) rfl rfl⟩, show _ ∧ _ from ⟨q_g5 (i := 121) rfl rfl, q_g5 (i := 122) rfl rfl⟩, ⟨rfl, Nat.le_of_ble_eq_true rfl, Nat.le_of_ble_eq_true rfl⟩, by decide +kernel⟩
set_option maxRecDepth 100000 in
theorem q_mk_32 : q_mk 32 := ⟨⟨q_g4 (i := 161) rfl rfl, q_g1 (i := 1) rfl rfl⟩, show _ ∧ _ from ⟨q_g4 (i := 159) rfl rfl, q_g4 (i := 160) rfl rfl⟩, ⟨rfl, Nat.le_of_ble_eq_true rfl, Nat.le_of_ble_eq_true rfl⟩, by decide +kernel⟩
set_option maxRecDepth 100000 in
theorem q_mk_33 : q_mk 33 := ⟨⟨q_g5 (i := 135) rfl rfl, q_g1 (i := 1) rfl rfl⟩, show _ ∧ _ from ⟨q_g5 (i := 133) rfl rfl, q_g5 (i := 134) rfl rfl⟩, ⟨rfl, Nat.le_of_ble_eq_true rfl, Nat.le_of_ble_eq_true rfl⟩, by decide +kernel⟩
set_option maxRecDepth 100000 in
theorem q_mk_34 : q_mk 34 := ⟨⟨q_g5 (i := 139) rfl rfl, q_g1 (i := 1) rfl rfl⟩, show _ ∧ _ from ⟨q_g5 (i := 137) rfl rfl, q_g5 (i := 138) rfl rfl⟩, ⟨rfl, Nat.le_of_ble_eq_true rfl, Nat.le_of_ble_eq_true rfl⟩, by decide +kernel⟩
set_option maxRecDepth 100000 in
theorem q_mk_35 : q_mk 35 := ⟨⟨q_g5 (i := 143) rfl rfl, q_g1 (i := 1) rfl rfl⟩, show _ ∧ _ from ⟨q_g5 (i := 141) rfl rfl, q_g5 (i := 142) rfl rfl⟩, ⟨rfl, Nat.le_of_ble_eq_true rfl, Nat.le_of_ble_eq_true rfl⟩, by decide +kernel⟩
set_option maxRecDepth 100000 in
theorem q_mk_36 : q_mk 36 := ⟨⟨q_g5 (i := 147) rfl rfl, q_g1 (i := 1) rfl rfl⟩, show _ ∧ _ from ⟨q_g5 (i := 145) rfl rfl, q_g5 (i := 146) rfl rfl⟩, ⟨rfl, Nat.le_of_ble_eq_true rfl, Nat.le_of_ble_eq_true rfl⟩, by decide +kernel⟩
set_option maxRecDepth 100000 in
theorem q_mk_37 : q_mk 37 := ⟨⟨q_g5 (i := 152) rfl rfl, q_g1 (i := 1) rfl rfl⟩, show _ ∧ _ from ⟨q_g5 (i := 150) rfl rfl, q_g5 (i := 151) rfl rfl⟩, ⟨rfl, Nat.le_of_ble_eq_true rfl, Nat.le_of_ble_eq_true rfl⟩, by decide +kernel⟩
set_option maxRecDepth 100000 in
theorem q_mk_38 : q_mk 38 := ⟨⟨q_g5 (i := 156) rfl rfl, q_g1 (i := 1) rfl rfl⟩, show _ ∧ _ from ⟨q_g5 (i := 154) rfl rfl, q_g5 (i := 155) rfl rfl⟩, ⟨rfl, Nat.le_of_ble_eq_true rfl, Nat.le_of_ble_eq_true rfl⟩, by decide +kernel⟩
set_option maxRecDepth 100000 in
theorem q_mk_39 : q_mk 39 := ⟨⟨q_g5 (i := 165) rfl rfl, q_g1 (i := 1) rfl rfl⟩, show _ ∧ _ from ⟨q_g5 (i := 163) rfl rfl, q_g5 (i := 164) rfl rfl⟩, ⟨rfl, Nat.le_of_ble_eq_true rfl, Nat.le_of_ble_eq_true rfl⟩, by decide +kernel⟩
set_option maxRecDepth 100000 in
theorem q_mk_40 : q_mk 40 := ⟨⟨q_g5 (i := 173) rfl rfl, q_g1 (i := 1) rfl rfl⟩, show _ ∧ _ from ⟨q_g5 (i := 171) rfl rfl, q_g5 (i := 172) rfl rfl⟩, ⟨rfl, Nat.le_of_ble_eq_true rfl, Nat.le_of_ble_eq_true rfl⟩, by decide +kernel⟩
set_option maxRecDepth 100000 in
theorem q_mk_41 : q_mk 41 := ⟨⟨q_g5 (i := 182) rfl rfl, q_g1 (i := 1) rfl rfl⟩, show _ ∧ _ from ⟨q_g5 (i := 180) rfl rfl, q_g5 (i := 181) rfl rfl⟩, ⟨rfl, Nat.le_of_ble_eq_true rfl, Nat.le_of_ble_eq_true rfl⟩, by decide +kernel⟩
set_option maxRecDepth 100000 in
theorem q_mk_42 : q_mk 42 := ⟨⟨q_g5 (i := 194) rfl rfl, q_g1 (i := 1) rfl rfl⟩, show _ ∧ _ from ⟨q_g5 (i := 192) rfl rfl, q_g5 (i := 193) rfl rfl⟩, ⟨rfl, Nat.le_of_ble_eq_true rfl, Nat.le_of_ble_eq_true rfl⟩, by decide +kernel⟩
set_option maxRecDepth 100000 in
theorem q_mk_43 : q_mk 43 := ⟨⟨q_g5 (i := 198) rfl rfl, q_g1 (i := 1) rfl rfl⟩, show _ ∧ _ from ⟨q_g5 (i := 196) rfl rfl, q_g5 (i := 197) rfl rfl⟩, ⟨rfl, Nat.le_of_ble_eq_true rfl, Nat.le_of_ble_eq_true rfl⟩, by decide +kernel⟩
set_option maxRecDepth 100000 in
theorem q_mk_44 : q_mk 44 := ⟨⟨q_g5 (i := 206) rfl rfl, q_g1 (i := 1) rfl rfl⟩, show _ ∧ _ from ⟨q_g5 (i := 204) rfl rfl, q_g5 (i := 205) rfl rfl⟩, ⟨rfl, Nat.le_of_ble_eq_true rfl, Nat.le_of_ble_eq_true rfl⟩, by decide +kernel⟩
set_option maxRecDepth 100000 in
theorem q_mk_45 : q_mk 45 := ⟨⟨q_g3 (i := 189) rfl rfl, q_g1 (i := 1) rfl rfl⟩, show _ ∧ _ from ⟨q_g3 (i := 188) rfl rfl, q_gp (i := 18) rfl rfl⟩, ⟨rfl, Nat.le_of_ble_eq_true rfl, Nat.le_of_ble_eq_true rfl⟩, by decide +kernel⟩
set_option maxRecDepth 100000 in
theorem q_mk_46 : q_mk 46 := ⟨⟨q_g2 (i := 136) rfl rfl, q_g1 (i := 1) rfl rfl⟩, show _ ∧ _ from ⟨q_g2 (i := 135) rfl rfl, q_gp (i := 1) rfl rfl⟩, ⟨rfl, Nat.le_of_ble_eq_true rfl, Nat.le_of_ble_eq_true rfl⟩, by decide +kernel⟩
set_option maxRecDepth 100000 in
theorem q_mk_47 : q_mk 47 := ⟨⟨q_g3 (i := 209) rfl rfl, q_g1 (i := 1) rfl rfl⟩, show _ ∧ _ from ⟨q_g3 (i := 208) rfl rfl, q_gp (i := 20) rfl rfl⟩, ⟨rfl, Nat.le_of_ble_eq_true rfl, Nat.le_of_ble_eq_true rfl⟩, by decide +kernel⟩
set_option maxRecDepth 100000 in
theorem q_mk_48 : q_mk 48 := ⟨⟨q_g3 (i := 205) rfl rfl, q_g1 (i := 1) rfl rfl⟩, show _ ∧ _ from ⟨q_g3 (i := 204) rfl rfl, q_gp (i := 19) rfl rfl⟩, ⟨rfl, Nat.le_of_ble_eq_true rfl, Nat.le_of_ble_eq_true rfl⟩, by decide +kernel⟩
set_option maxRecDepth 100000 in
theorem q_mk_49 : q_mk 49 := ⟨⟨q_g3 (i := 226) rfl rfl, q_g1 (i := 1) rfl rfl⟩, show _ ∧ _ from ⟨q_g3 (i := 225) rfl rfl, q_gp (i := 22) rfl rfl⟩, ⟨rfl, Nat.le_of_ble_eq_true rfl, Nat.le_of_ble_eq_true rfl⟩, by decide +kernel⟩
set_option maxRecDepth 100000 in
theorem q_mk_50 : q_mk 50 := ⟨⟨q_g3 (i := 222) rfl rfl, q_g1 (i := 1) rfl rfl⟩, show _ ∧ _ from ⟨q_g3 (i := 221) rfl rfl, q_gp (i := 21) rfl rfl⟩, ⟨rfl, Nat.le_of_ble_eq_true rfl, Nat.le_of_ble_eq_true rfl⟩, by decide +kernel⟩
set_option maxRecDepth 100000 in
theorem q_mk_51 : q_mk 51 := ⟨⟨q_g5 (i := 108) rfl rfl, q_g1 (i := 1) rfl rfl⟩, show _ ∧ _ from ⟨q_g5 (i := 107) rfl rfl, q_gp (i := 38) rfl rfl⟩, ⟨rfl, Nat.le_of_ble_eq_true rfl, Nat.le_of_ble_eq_true rfl⟩, by decide +kernel⟩
set_option maxRecDepth 100000 in
theorem q_mk_52 : q_mk 52 := ⟨⟨q_g5 (i := 190) rfl rfl, q_g1 (i := 1) rfl rfl⟩, show _ ∧ _ from ⟨q_g5 (i := 189) rfl rfl, q_gp (i := 39) rfl rfl⟩, ⟨rfl, Nat.le_of_ble_eq_true rfl, Nat.le_of_ble_eq_true rfl⟩, by decide +kernel⟩
set_option maxRecDepth 100000 in
theorem q_mk_53 : q_mk 53 := ⟨⟨q_g3 (i := 96) rfl rfl, q_g1 (i := 1) rfl rfl⟩, show _ ∧ _ from ⟨q_g3 (i := 95) rfl rfl, q_gp (i := 14) rfl rfl⟩, ⟨rfl, Nat.le_of_ble_eq_true rfl, Nat.le_of_ble_eq_true rfl⟩, by decide +kernel⟩
set_option maxRecDepth 100000 in
theorem q_mk_54 : q_mk 54 := ⟨⟨q_g3 (i := 104) rfl rfl, q_g1 (i := 1) rfl rfl⟩, show _ ∧ _ from ⟨q_g3 (i := 103) rfl rfl, q_gp (i := 15) rfl rfl⟩, ⟨rfl, Nat.le_of_ble_eq_true rfl, Nat.le_of_ble_eq_true rfl⟩, by decide +kernel⟩
set_option maxRecDepth 100000 in
theorem q_mk_55 : q_mk 55 := ⟨⟨q_g2 (i := 224) rfl rfl, q_g1 (i := 1) rfl rfl⟩, q_g2 (i := 223) rfl rfl, ⟨rfl, Nat.le_of_ble_eq_true rfl, Nat.le_of_ble_eq_true rfl⟩, by decide +kernel⟩
set_option maxRecDepth 100000 in
theorem q_mk_56 : q_mk 56 := ⟨⟨q_g4 (i := 77) rfl rfl, q_g1 (i := 1) rfl rfl⟩, q_g4 (i := 76) rfl rfl, ⟨rfl, Nat.le_of_ble_eq_true rfl, Nat.le_of_ble_eq_true rfl⟩, by decide +kernel⟩
set_option maxRecDepth 100000 in
theorem q_mk_57 : q_mk 57 := ⟨⟨q_g3 (i := 196) rfl rfl, q_g1 (i := 1) rfl rfl⟩, q_g3 (i := 195) rfl rfl, ⟨rfl, Nat.le_of_ble_eq_true rfl, Nat.le_of_ble_eq_true rfl⟩, by decide +kernel⟩
set_option maxRecDepth 100000 in
theorem q_mk_58 : q_mk 58 := ⟨⟨q_g3 (i := 136) rfl rfl, q_g1 (i := 1) rfl rfl⟩, q_g3 (i := 135) rfl rfl, ⟨rfl, Nat.le_of_ble_eq_true rfl, Nat.le_of_ble_eq_true rfl⟩, by decide +kernel⟩
set_option maxRecDepth 100000 in
theorem q_mk_59 : q_mk 59 := ⟨⟨q_g3 (i := 139) rfl rfl, q_g1 (i := 1) rfl rfl⟩, q_g3 (i := 138) rfl rfl, ⟨rfl, Nat.le_of_ble_eq_true rfl, Nat.le_of_ble_eq_true rfl⟩, by decide +kernel⟩
set_option maxRecDepth 100000 in
theorem q_mk_60 : q_mk 60 := ⟨⟨q_g2 (i := 221) rfl rfl, q_g1 (i := 1) rfl rfl⟩, q_g2 (i := 220) rfl rfl, ⟨rfl, Nat.le_of_ble_eq_true rfl, Nat.le_of_ble_eq_true rfl⟩, by decide +kernel⟩
set_option maxRecDepth 100000 in
theorem q_mk_61 : q_mk 61 := ⟨⟨q_g1 (i := 200) rfl rfl, q_g1 (i := 1) rfl rfl⟩, q_g1 (i := 199) rfl rfl, ⟨rfl, Nat.le_of_ble_eq_true rfl, Nat.le_of_ble_eq_true rfl⟩, by decide +kernel⟩
set_option maxRecDepth 100000 in
theorem q_mk_62 : q_mk 62 := ⟨⟨q_g2 (i := 155) rfl rfl, q_g1 (i := 1) rfl rfl⟩, q_g2 (i := 154) rfl rfl, ⟨rfl, Nat.le_of_ble_eq_true rfl, Nat.le_of_ble_eq_true rfl⟩, by decide +kernel⟩
set_option maxRecDepth 100000 in
theorem q_mk_63 : q_mk 63 := ⟨⟨q_g1 (i := 113) rfl rfl, q_g1 (i := 5) rfl rfl⟩, show _ ∧ _ from ⟨q_g1 (i := 111) rfl rfl, q_g1 (i := 112) rfl rfl⟩, ⟨rfl, Nat.le_of_ble_eq_true rfl, Nat.le_of_ble_eq_true rfl⟩, by decide +kernel⟩
set_option maxRecDepth 100000 in
theorem q_mk_64 : q_mk 64 := ⟨⟨q_g2 (i := 152) rfl rfl, q_g1 (i := 5) rfl rfl⟩, show _ ∧ _ from ⟨q_g2 (i := 150) rfl rfl, q_g2 (i := 151) rfl rfl⟩, ⟨rfl, Nat.le_of_ble_eq_true rfl, Nat.le_of_ble_eq_true rfl⟩, by decide +kernel⟩
set_option maxRecDepth 100000 in
theorem q_mk_65 : q_mk 65 := ⟨⟨q_g3 (i := 238) rfl rfl, q_g1 (i := 5) rfl rfl⟩, show _ ∧ _ from ⟨q_g3 (i := 236) rfl rfl, q_g3 (i := 237) rfl rfl⟩, ⟨rfl, Nat.le_of_ble_eq_true rfl, Nat.le_of_ble_eq_true rfl⟩, by decide +kernel⟩
set_option maxRecDepth 100000 in
theorem q_mk_66 : q_mk 66 := ⟨⟨q_g5 (i := 29) rfl rfl, q_g1 (i := 5) rfl rfl⟩, show _ ∧ _ from ⟨q_g5 (i := 27) rfl rfl, q_g5 (i := 28) rfl rfl⟩, ⟨rfl, Nat.le_of_ble_eq_true rfl, Nat.le_of_ble_eq_true rfl⟩, by decide +kernel⟩
set_option maxRecDepth 100000 in
theorem q_mk_67 : q_mk 67 := ⟨⟨q_g2 (i := 182) rfl rfl, q_g1 (i := 9) rfl rfl⟩, show _ ∧ _ from ⟨q_g2 (i := 180) rfl rfl, q_g2 (i := 181) rfl rfl⟩, ⟨rfl, Nat.le_of_ble_eq_true rfl, Nat.le_of_ble_eq_true rfl⟩, by decide +kernel⟩
set_option maxRecDepth 100000 in
theorem q_mk_68 : q_mk 68 := ⟨⟨q_g4 (i := 151) rfl rfl, q_g1 (i := 9) rfl rfl⟩, show _ ∧ _ from ⟨q_g4 (i := 149) rfl rfl, q_g4 (i := 150) rfl rfl⟩, ⟨rfl, Nat.le_of_ble_eq_true rfl, Nat.le_of_ble_eq_true rfl⟩, by decide +kernel⟩
set_option maxRecDepth 100000 in
theorem q_mk_69 : q_mk 69 := ⟨⟨q_g5 (i := 127) rfl rfl, q_g1 (i := 9) rfl rfl⟩, show _ ∧ _ from ⟨q_g5 (i := 125) rfl rfl, q_g5 (i := 126) rfl rfl⟩, ⟨rfl, Nat.le_of_ble_eq_true rfl, Nat.le_of_ble_eq_true rfl⟩, by decide +kernel⟩
set_option maxRecDepth 100000 in
theorem q_mk_70 : q_mk 70 := ⟨⟨q_g2 (i := 172) rfl rfl, q_g1 (i := 7) rfl rfl⟩, show _ ∧ _ from ⟨q_g2 (i := 170) rfl rfl, q_g2 (i := 171) rfl rfl⟩, ⟨rfl, Nat.le_of_ble_eq_true rfl, Nat.le_of_ble_eq_true rfl⟩, by decide +kernel⟩
set_option maxRecDepth 100000 in
theorem q_mk_71 : q_mk 71 := ⟨⟨q_g4 (i := 134) rfl rfl, q_g1 (i := 7) rfl rfl⟩, show _ ∧ _ from ⟨q_g4 (i := 132) rfl rfl, q_g4 (i := 133) rfl rfl⟩, ⟨rfl, Nat.le_of_ble_eq_true rfl, Nat.le_of_ble_eq_true rfl⟩, by decide +kernel⟩
set_option maxRecDepth 100000 in
theorem q_mk_72 : q_mk 72 := ⟨⟨q_g4 (i := 98) rfl rfl, q_g1 (i := 7) rfl rfl⟩, show _ ∧ _ from ⟨q_g4 (i := 96) rfl rfl, q_g4 (i := 97) rfl rfl⟩, ⟨rfl, Nat.le_of_ble_eq_true rfl, Nat.le_of_ble_eq_true rfl⟩, by decide +kernel⟩
set_option maxRecDepth 100000 in
theorem q_mk_73 : q_mk 73 := ⟨⟨q_g4 (i := 138) rfl rfl, q_g1 (i := 7) rfl rfl⟩, show _ ∧ _ from ⟨q_g4 (i := 136) rfl rfl, q_g4 (i := 137) rfl rfl⟩, ⟨rfl, Nat.le_of_ble_eq_true rfl, Nat.le_of_ble_eq_true rfl⟩, by decide +kernel⟩
set_option maxRecDepth 100000 in
theorem q_mk_74 : q_mk 74 := ⟨⟨q_g4 (i := 157) rfl rfl, q_g1 (i := 7) rfl rfl⟩, show _ ∧ _ from ⟨q_g4 (i := 155) rfl rfl, q_g4 (i := 156) rfl rfl⟩, ⟨rfl, Nat.le_of_ble_eq_true rfl, Nat.le_of_ble_eq_true rfl⟩, by decide +kernel⟩
set_option maxRecDepth 100000 in
theorem q_mk_75 : q_mk 75 := ⟨⟨q_g3 (i := 163) rfl rfl, q_g1 (i := 7) rfl rfl⟩, show _ ∧ _ from ⟨q_g3 (i := 162) rfl rfl, q_gp (i := 17) rfl rfl⟩, ⟨rfl, Nat.le_of_ble_eq_true rfl, Nat.le_of_ble_eq_true rfl⟩, by decide +kernel⟩
set_option maxRecDepth 100000 in
theorem q_mk_76 : q_mk 76 := ⟨⟨q_g3 (i := 158) rfl rfl, q_g1 (i := 7) rfl rfl⟩, show _ ∧ _ from ⟨q_g3 (i := 157) rfl rfl, q_gp (i := 16) rfl rfl⟩, ⟨rfl, Nat.le_of_ble_eq_true rfl, Nat.le_of_ble_eq_true rfl⟩, by decide +kernel⟩
set_option maxRecDepth 100000 in
theorem q_mk_77 : q_mk 77 := ⟨⟨q_g3 (i := 154) rfl rfl, q_g1 (i := 7) rfl rfl⟩, show _ ∧ _ from ⟨q_g3 (i := 152) rfl rfl, q_g3 (i := 153) rfl rfl⟩, ⟨rfl, Nat.le_of_ble_eq_true rfl, Nat.le_of_ble_eq_true rfl⟩, by decide +kernel⟩
set_option maxRecDepth 100000 in
theorem q_mk_78 : q_mk 78 := ⟨⟨q_g4 (i := 94) rfl rfl, q_g1 (i := 7) rfl rfl⟩, show _ ∧ _ from ⟨q_g4 (i := 92) rfl rfl, q_g4 (i := 93) rfl rfl⟩, ⟨rfl, Nat.le_of_ble_eq_true rfl, Nat.le_of_ble_eq_true rfl⟩, by decide +kernel⟩
set_option maxRecDepth 100000 in
theorem q_mk_79 : q_mk 79 := ⟨⟨q_g5 (i := 17) rfl rfl, q_g1 (i := 7) rfl rfl⟩, show _ ∧ _ from ⟨q_g5 (i := 15) rfl rfl, q_g5 (i := 16) rfl rfl⟩, ⟨rfl, Nat.le_of_ble_eq_true rfl, Nat.le_of_ble_eq_true rfl⟩, by decide +kernel⟩
set_option maxRecDepth 100000 in
theorem q_mk_80 : q_mk 80 := ⟨⟨q_g2 (i := 177) rfl rfl, q_g1 (i := 8) rfl rfl⟩, show _ ∧ _ from ⟨q_g2 (i := 175) rfl rfl, q_g2 (i := 176) rfl rfl⟩, ⟨rfl, Nat.le_of_ble_eq_true rfl, Nat.le_of_ble_eq_true rfl⟩, by decide +kernel⟩
set_option maxRecDepth 100000 in
theorem q_mk_81 : q_mk 81 := ⟨⟨q_g2 (i := 198) rfl rfl, q_g1 (i := 8) rfl rfl⟩, show _ ∧ _ from ⟨q_g2 (i := 196) rfl rfl, q_g2 (i := 197) rfl rfl⟩, ⟨rfl, Nat.le_of_ble_eq_true rfl, Nat.le_of_ble_eq_true rfl⟩, by decide +kernel⟩
set_option maxRecDepth 100000 in
theorem q_mk_82 : q_mk 82 := ⟨⟨q_g4 (i := 39) rfl rfl, q_g1 (i := 8) rfl rfl⟩, show _ ∧ _ from ⟨q_g4 (i := 37) rfl rfl, q_g4 (i := 38) rfl rfl⟩, ⟨rfl, Nat.le_of_ble_eq_true rfl, Nat.le_of_ble_eq_true rfl⟩, by decide +kernel⟩
set_option maxRecDepth 100000 in
theorem q_mk_83 : q_mk 83 := ⟨⟨q_g5 (i := 90) rfl rfl, q_g1 (i := 8) rfl rfl⟩, show _ ∧ _ from ⟨q_g5 (i := 88) rfl rfl, q_g5 (i := 89) rfl rfl⟩, ⟨rfl, Nat.le_of_ble_eq_true rfl, Nat.le_of_ble_eq_true rfl⟩, by decide +kernel⟩
set_option maxRecDepth 100000 in
theorem q_mk_84 : q_mk 84 := ⟨⟨q_g5 (i := 94) rfl rfl, q_g1 (i := 8) rfl rfl⟩, show _ ∧ _ from ⟨q_g5 (i := 92) rfl rfl, q_g5 (i := 93) rfl rfl⟩, ⟨rfl, Nat.le_of_ble_eq_true rfl, Nat.le_of_ble_eq_true rfl⟩, by decide +kernel⟩
set_option maxRecDepth 100000 in
theorem q_mk_85 : q_mk 85 := ⟨⟨q_g3 (i := 147) rfl rfl, q_g1 (i := 8) rfl rfl⟩, show _ ∧ _ from ⟨q_g3 (i := 145) rfl rfl, q_g3 (i := 146) rfl rfl⟩, ⟨rfl, Nat.le_of_ble_eq_true rfl, Nat.le_of_ble_eq_true rfl⟩, by decide +kernel⟩
set_option maxRecDepth 100000 in
theorem q_mk_86 : q_mk 86 := ⟨⟨q_g4 (i := 228) rfl rfl, q_g1 (i := 8) rfl rfl⟩, show _ ∧ _ from ⟨q_g4 (i := 226) rfl rfl, q_g4 (i := 227) rfl rfl⟩, ⟨rfl, Nat.le_of_ble_eq_true rfl, Nat.le_of_ble_eq_true rfl⟩, by decide +kernel⟩
set_option maxRecDepth 100000 in
theorem q_mk_87 : q_mk 87 := ⟨⟨q_g2 (i := 144) rfl rfl, q_g1 (i := 4) rfl rfl⟩, show _ ∧ _ from ⟨q_g2 (i := 142) rfl rfl, q_g2 (i := 143) rfl rfl⟩, ⟨rfl, Nat.le_of_ble_eq_true rfl, Nat.le_of_ble_eq_true rfl⟩, by decide +kernel⟩
set_option maxRecDepth 100000 in
theorem q_mk_88 : q_mk 88 := ⟨⟨q_g2 (i := 191) rfl rfl, q_g1 (i := 4) rfl rfl⟩, show _ ∧ _ from ⟨q_g2 (i := 189) rfl rfl, q_g2 (i := 190) rfl rfl⟩, ⟨rfl, Nat.le_of_ble_eq_true rfl, Nat.le_of_ble_eq_true rfl⟩, by decide +kernel⟩
set_option maxRecDepth 100000 in
theorem q_mk_89 : q_mk 89 := ⟨⟨q_g2 (i := 148) rfl rfl, q_g1 (i := 4) rfl rfl⟩, show _ ∧ _ from ⟨q_g2 (i := 146) rfl rfl, q_g2 (i := 147) rfl rfl⟩, ⟨rfl, Nat.le_of_ble_eq_true rfl, Nat.le_of_ble_eq_true rfl⟩, by decide +kernel⟩
set_option maxRecDepth 100000 in
theorem q_mk_90 : q_mk 90 := ⟨⟨q_g3 (i := 120) rfl rfl, q_g1 (i := 4) rfl rfl⟩, show _ ∧ _ from ⟨q_g3 (i := 118) rfl rfl, q_g3 (i := 119) rfl rfl⟩, ⟨rfl, Nat.le_of_ble_eq_true rfl, Nat.le_of_ble_eq_true rfl⟩, by decide +kernel⟩
set_option maxRecDepth 100000 in
theorem q_mk_91 : q_mk 91 := ⟨⟨q_g5 (i := 11) rfl rfl, q_g1 (i := 4) rfl rfl⟩, show _ ∧ _ from ⟨q_g5 (i := 9) rfl rfl, q_g5 (i := 10) rfl rfl⟩, ⟨rfl, Nat.le_of_ble_eq_true rfl, Nat.le_of_ble_eq_true rfl⟩, by decide +kernel⟩
set_option maxRecDepth 100000 in
theorem q_mk_92 : q_mk 92 := ⟨⟨q_g4 (i := 143) rfl rfl, q_g1 (i := 4) rfl rfl⟩, show _ ∧ _ from ⟨q_g4 (i := 141) rfl rfl, q_g4 (i := 142) rfl rfl⟩, ⟨rfl, Nat.le_of_ble_eq_true rfl, Nat.le_of_ble_eq_true rfl⟩, by decide +kernel⟩
set_option maxRecDepth 100000 in
theorem q_mk_93 : q_mk 93 := ⟨⟨q_g3 (i := 143) rfl rfl, q_g1 (i := 4) rfl rfl⟩, show _ ∧ _ from ⟨q_g3 (i := 141) rfl rfl, q_g3 (i := 142) rfl rfl⟩, ⟨rfl, Nat.le_of_ble_eq_true rfl, Nat.le_of_ble_eq_true rfl⟩, by decide +kernel⟩
set_option maxRecDepth 100000 in
theorem q_mk_94 : q_mk 94 := ⟨⟨q_g3 (i := 116) rfl rfl, q_g1 (i := 4) rfl rfl⟩, show _ ∧ _ from ⟨q_g3 (i := 114) rfl rfl, q_g3 (i := 115) rfl rfl⟩, ⟨rfl, Nat.le_of_ble_eq_true rfl, Nat.le_of_ble_eq_true rfl⟩, by decide +kernel⟩
set_option maxRecDepth 100000 in
theorem q_mk_95 : q_mk 95 := ⟨⟨q_g5 (i := 186) rfl rfl, q_g1 (i := 4) rfl rfl⟩, show _ ∧ _ from ⟨q_g5 (i := 184) rfl rfl, q_g5 (i := 185) rfl rfl⟩, ⟨rfl, Nat.le_of_ble_eq_true rfl, Nat.le_of_ble_eq_true rfl⟩, by decide +kernel⟩
set_option maxRecDepth 100000 in
theorem q_mk_96 : q_mk 96 := ⟨⟨q_g5 (i := 2) rfl rfl, q_g1 (i := 4) rfl rfl⟩, show _ ∧ _ from ⟨q_g5 (i := 0) rfl rfl, q_g5 (i := 1) rfl rfl⟩, ⟨rfl, Nat.le_of_ble_eq_true rfl, Nat.le_of_ble_eq_true rfl⟩, by decide +kernel⟩
set_option maxRecDepth 100000 in
theorem q_mk_97 : q_mk 97 := ⟨⟨q_g4 (i := 216) rfl rfl, q_g1 (i := 4) rfl rfl⟩, show _ ∧ _ from ⟨q_g4 (i := 214) rfl rfl, q_g4 (i := 215) rfl rfl⟩, ⟨rfl, Nat.le_of_ble_eq_true rfl, Nat.le_of_ble_eq_true rfl⟩, by decide +kernel⟩
set_option maxRecDepth 100000 in
theorem q_mk_98 : q_mk 98 := ⟨⟨q_g4 (i := 190) rfl rfl, q_g1 (i := 4) rfl rfl⟩, show _ ∧ _ from ⟨q_g4 (i := 188) rfl rfl, q_g4 (i := 189) rfl rfl⟩, ⟨rfl, Nat.le_of_ble_eq_true rfl, Nat.le_of_ble_eq_true rfl⟩, by decide +kernel⟩
set_option maxRecDepth 100000 in
theorem q_mk_99 : q_mk 99 := ⟨⟨q_g3 (i := 112) rfl rfl, q_g1 (i := 4) rfl rfl⟩, show _ ∧ _ from ⟨q_g3 (i := 110) rfl rfl, q_g3 (i := 111) rfl rfl⟩, ⟨rfl, Nat.le_of_ble_eq_true rfl, Nat.le_of_ble_eq_true rfl⟩, by decide +kernel⟩
set_option maxRecDepth 100000 in
theorem q_mk_100 : q_mk 100 := ⟨⟨q_g3 (i := 108) rfl rfl, q_g1 (i := 4) rfl rfl⟩, show _ ∧ _ from ⟨q_g3 (i := 106) rfl rfl, q_g3 (i := 107) rfl rfl⟩, ⟨rfl, Nat.le_of_ble_eq_true rfl, Nat.le_of_ble_eq_true rfl⟩, by decide +kernel⟩
set_option maxRecDepth 100000 in
theorem q_mk_101 : q_mk 101 := ⟨⟨q_g3 (i := 133) rfl rfl, q_g1 (i := 4) rfl rfl⟩, show _ ∧ _ from ⟨q_g3 (i := 131) rfl rfl, q_g3 (i := 132) rfl rfl⟩, ⟨rfl, Nat.le_of_ble_eq_true rfl, Nat.le_of_ble_eq_true rfl⟩, by decide +kernel⟩
set_option maxRecDepth 100000 in
theorem q_mk_102 : q_mk 102 := ⟨⟨q_g4 (i := 106) rfl rfl, q_g1 (i := 4) rfl rfl⟩, show _ ∧ _ from ⟨q_g4 (i := 104) rfl rfl, q_g4 (i := 105) rfl rfl⟩, ⟨rfl, Nat.le_of_ble_eq_true rfl, Nat.le_of_ble_eq_true rfl⟩, by decide +kernel⟩
set_option maxRecDepth 100000 in
theorem q_mk_103 : q_mk 103 := ⟨⟨q_g1 (i := 197) rfl rfl, q_g1 (i := 6) rfl rfl⟩, show _ ∧ _ from ⟨q_g1 (i := 195) rfl rfl, q_g1 (i := 196) rfl rfl⟩, ⟨rfl, Nat.le_of_ble_eq_true rfl, Nat.le_of_ble_eq_true rfl⟩, by decide +kernel⟩
set_option maxRecDepth 100000 in
theorem q_mk_104 : q_mk 104 := ⟨⟨q_g2 (i := 165) rfl rfl, q_g1 (i := 6) rfl rfl⟩, show _ ∧ _ from ⟨q_g2 (i := 163) rfl rfl, q_g2 (i := 164) rfl rfl⟩, ⟨rfl, Nat.le_of_ble_eq_true rfl, Nat.le_of_ble_eq_true rfl⟩, by decide +kernel⟩
set_option maxRecDepth 100000 in
theorem q_mk_105 : q_mk 105 := ⟨⟨q_g3 (i := 201) rfl rfl, q_g1 (i := 6) rfl rfl⟩, show _ ∧ _ from ⟨q_g3 (i := 199) rfl rfl, q_g3 (i := 200) rfl rfl⟩, ⟨rfl, Nat.le_of_ble_eq_true rfl, Nat.le_of_ble_eq_true rfl⟩, by decide +kernel⟩
set_option maxRecDepth 100000 in
theorem q_mk_106 : q_mk 106 := ⟨⟨q_g3 (i := 176) rfl rfl, q_g1 (i := 6) rfl rfl⟩, show _ ∧ _ from ⟨q_g3 (i := 174) rfl rfl, q_g3 (i := 175) rfl rfl⟩, ⟨rfl, Nat.le_of_ble_eq_true rfl, Nat.le_of_ble_eq_true rfl⟩, by decide +kernel⟩
set_option maxRecDepth 100000 in
theorem q_mk_107 : q_mk 107 := ⟨⟨q_g3 (i := 184) rfl rfl, q_g1 (i := 6) rfl rfl⟩, show _ ∧ _ from ⟨q_g3 (i := 182) rfl rfl, q_g3 (i := 183) rfl rfl⟩, ⟨rfl, Nat.le_of_ble_eq_true rfl, Nat.le_of_ble_eq_true rfl⟩, by decide +kernel⟩
set_option maxRecDepth 100000 in
theorem q_mk_108 : q_mk 108 := ⟨⟨q_g3 (i := 214) rfl rfl, q_g1 (i := 6) rfl rfl⟩, show _ ∧ _ from ⟨q_g3 (i := 212) rfl rfl, q_g3 (i := 213) rfl rfl⟩, ⟨rfl, Nat.le_of_ble_eq_true rfl, Nat.le_of_ble_eq_true rfl⟩, by decide +kernel⟩
set_option maxRecDepth 100000 in
theorem q_mk_109 : q_mk 109 := ⟨⟨q_g5 (i := 51) rfl rfl, q_g1 (i := 6) rfl rfl⟩, show _ ∧ _ from ⟨q_g5 (i := 49) rfl rfl, q_g5 (i := 50) rfl rfl⟩, ⟨rfl, Nat.le_of_ble_eq_true rfl, Nat.le_of_ble_eq_true rfl⟩, by decide +kernel⟩
set_option maxRecDepth 100000 in
theorem q_mk_110 : q_mk 110 := ⟨⟨q_g1 (i := 204) rfl rfl, q_g1 (i := 6) rfl rfl⟩, show _ ∧ _ from ⟨q_g1 (i := 203) rfl rfl, q_gp (i := 0) rfl rfl⟩, ⟨rfl, Nat.le_of_ble_eq_true rfl, Nat.le_of_ble_eq_true rfl⟩, by decide +kernel⟩
set_option maxRecDepth 100000 in
theorem q_mk_111 : q_mk 111 := ⟨⟨q_g4 (i := 6) rfl rfl, q_g1 (i := 6) rfl rfl⟩, show _ ∧ _ from ⟨q_g4 (i := 4) rfl rfl, q_g4 (i := 5) rfl rfl⟩, ⟨rfl, Nat.le_of_ble_eq_true rfl, Nat.le_of_ble_eq_true rfl⟩, by decide +kernel⟩
set_option maxRecDepth 100000 in
theorem q_mk_112 : q_mk 112 := ⟨⟨q_g3 (i := 172) rfl rfl, q_g1 (i := 6) rfl rfl⟩, show _ ∧ _ from ⟨q_g3 (i := 170) rfl rfl, q_g3 (i := 171) rfl rfl⟩, ⟨rfl, Nat.le_of_ble_eq_true rfl, Nat.le_of_ble_eq_true rfl⟩, by decide +kernel⟩
set_option maxRecDepth 100000 in
theorem q_mk_113 : q_mk 113 := ⟨⟨q_g4 (i := 64) rfl rfl, q_g1 (i := 6) rfl rfl⟩, show _ ∧ _ from ⟨q_g4 (i := 62) rfl rfl, q_g4 (i := 63) rfl rfl⟩, ⟨rfl, Nat.le_of_ble_eq_true rfl, Nat.le_of_ble_eq_true rfl⟩, by decide +kernel⟩
set_option maxRecDepth 100000 in
theorem q_mk_114 : q_mk 114 := ⟨⟨q_g5 (i := 210) rfl rfl, q_g1 (i := 6) rfl rfl⟩, show _ ∧ _ from ⟨q_g5 (i := 208) rfl rfl, q_g5 (i := 209) rfl rfl⟩, ⟨rfl, Nat.le_of_ble_eq_true rfl, Nat.le_of_ble_eq_true rfl⟩, by decide +kernel⟩
set_option maxRecDepth 100000 in
theorem q_mk_115 : q_mk 115 := ⟨⟨q_g3 (i := 180) rfl rfl, q_g1 (i := 6) rfl rfl⟩, show _ ∧ _ from ⟨q_g3 (i := 178) rfl rfl, q_g3 (i := 179) rfl rfl⟩, ⟨rfl, Nat.le_of_ble_eq_true rfl, Nat.le_of_ble_eq_true rfl⟩, by decide +kernel⟩
set_option maxRecDepth 100000 in
theorem q_mk_116 : q_mk 116 := ⟨⟨q_g5 (i := 169) rfl rfl, q_g1 (i := 6) rfl rfl⟩, show _ ∧ _ from ⟨q_g5 (i := 167) rfl rfl, q_g5 (i := 168) rfl rfl⟩, ⟨rfl, Nat.le_of_ble_eq_true rfl, Nat.le_of_ble_eq_true rfl⟩, by decide +kernel⟩
set_option maxRecDepth 100000 in
theorem q_mk_117 : q_mk 117 := ⟨⟨q_g4 (i := 165) rfl rfl, q_g1 (i := 6) rfl rfl⟩, show _ ∧ _ from ⟨q_g4 (i := 163) rfl rfl, q_g4 (i := 164) rfl rfl⟩, ⟨rfl, Nat.le_of_ble_eq_true rfl, Nat.le_of_ble_eq_true rfl⟩, by decide +kernel⟩
set_option maxRecDepth 100000 in
theorem q_mk_118 : q_mk 118 := ⟨⟨q_g4 (i := 220) rfl rfl, q_g1 (i := 6) rfl rfl⟩, show _ ∧ _ from ⟨q_g4 (i := 218) rfl rfl, q_g4 (i := 219) rfl rfl⟩, ⟨rfl, Nat.le_of_ble_eq_true rfl, Nat.le_of_ble_eq_true rfl⟩, by decide +kernel⟩
set_option maxRecDepth 100000 in
theorem q_mk_119 : q_mk 119 := ⟨⟨q_g5 (i := 116) rfl rfl, q_g1 (i := 6) rfl rfl⟩, show _ ∧ _ from ⟨q_g5 (i := 114) rfl rfl, q_g5 (i := 115) rfl rfl⟩, ⟨rfl, Nat.le_of_ble_eq_true rfl, Nat.le_of_ble_eq_true rfl⟩, by decide +kernel⟩
set_option maxRecDepth 100000 in
theorem q_mk_120 : q_mk 120 := ⟨⟨q_g5 (i := 112) rfl rfl, q_g1 (i := 6) rfl rfl⟩, show _ ∧ _ from ⟨q_g5 (i := 110) rfl rfl, q_g5 (i := 111) rfl rfl⟩, ⟨rfl, Nat.le_of_ble_eq_true rfl, Nat.le_of_ble_eq_true rfl⟩, by decide +kernel⟩
set_option maxRecDepth 100000 in
theorem q_mk_121 : q_mk 121 := ⟨⟨q_g5 (i := 160) rfl rfl, q_g1 (i := 6) rfl rfl⟩, show _ ∧ _ from ⟨q_g5 (i := 158) rfl rfl, q_g5 (i := 159) rfl rfl⟩, ⟨rfl, Nat.le_of_ble_eq_true rfl, Nat.le_of_ble_eq_true rfl⟩, by decide +kernel⟩
set_option maxRecDepth 100000 in
theorem q_mk_122 : q_mk 122 := ⟨⟨q_g2 (i := 123) rfl rfl, q_g1 (i := 2) rfl rfl⟩, show _ ∧ _ from ⟨q_g2 (i := 121) rfl rfl, q_g2 (i := 122) rfl rfl⟩, ⟨rfl, Nat.le_of_ble_eq_true rfl, Nat.le_of_ble_eq_true rfl⟩, by decide +kernel⟩
set_option maxRecDepth 100000 in
theorem q_mk_123 : q_mk 123 := ⟨⟨q_g2 (i := 127) rfl rfl, q_g1 (i := 2) rfl rfl⟩, show _ ∧ _ from ⟨q_g2 (i := 125) rfl rfl, q_g2 (i := 126) rfl rfl⟩, ⟨rfl, Nat.le_of_ble_eq_true rfl, Nat.le_of_ble_eq_true rfl⟩, by decide +kernel⟩
set_option maxRecDepth 100000 in
theorem q_mk_124 : q_mk 124 := ⟨⟨q_g2 (i := 202) rfl rfl, q_g1 (i := 2) rfl rfl⟩, show _ ∧ _ from ⟨q_g2 (i := 200) rfl rfl, q_g2 (i := 201) rfl rfl⟩, ⟨rfl, Nat.le_of_ble_eq_true rfl, Nat.le_of_ble_eq_true rfl⟩, by decide +kernel⟩
set_option maxRecDepth 100000 in
theorem q_mk_125 : q_mk 125 := ⟨⟨q_g3 (i := 0) rfl rfl, q_g1 (i := 2) rfl rfl⟩, show _ ∧ _ from ⟨q_g2 (i := 238) rfl rfl, q_g2 (i := 239) rfl rfl⟩, ⟨rfl, Nat.le_of_ble_eq_true rfl, Nat.le_of_ble_eq_true rfl⟩, by decide +kernel⟩
set_option maxRecDepth 100000 in
theorem q_mk_126 : q_mk 126 := ⟨⟨q_g3 (i := 100) rfl rfl, q_g1 (i := 2) rfl rfl⟩, show _ ∧ _ from ⟨q_g3 (i := 98) rfl rfl, q_g3 (i := 99) rfl rfl⟩, ⟨rfl, Nat.le_of_ble_eq_true rfl, Nat.le_of_ble_eq_true rfl⟩, by decide +kernel⟩
set_option maxRecDepth 100000 in
theorem q_mk_127 : q_mk 127 := ⟨⟨q_g2 (i := 206) rfl rfl, q_g1 (i := 2) rfl rfl⟩, show _ ∧ _ from ⟨q_g2 (i := 204) rfl rfl, q_g2 (i := 205) rfl rfl⟩, ⟨rfl, Nat.le_of_ble_eq_true rfl, Nat.le_of_ble_eq_true rfl⟩, by decide +kernel⟩
set_option maxRecDepth 100000 in
theorem q_mk_128 : q_mk 128 := ⟨⟨q_g3 (i := 77) rfl rfl, q_g1 (i := 2) rfl rfl⟩, show _ ∧ _ from ⟨q_g3 (i := 76) rfl rfl, q_gp (i := 10) rfl rfl⟩, ⟨rfl, Nat.le_of_ble_eq_true rfl, Nat.le_of_ble_eq_true rfl⟩, by decide +kernel⟩
set_option maxRecDepth 100000 in
theorem q_mk_129 : q_mk 129 := ⟨⟨q_g3 (i := 81) rfl rfl, q_g1 (i := 2) rfl rfl⟩, show _ ∧ _ from ⟨q_g3 (i := 80) rfl rfl, q_gp (i := 11) rfl rfl⟩, ⟨rfl, Nat.le_of_ble_eq_true rfl, Nat.le_of_ble_eq_true rfl⟩, by decide +kernel⟩
set_option maxRecDepth 100000 in
theorem q_mk_130 : q_mk 130 := ⟨⟨q_g3 (i := 85) rfl rfl, q_g1 (i := 2) rfl rfl⟩, show _ ∧ _ from ⟨q_g3 (i := 84) rfl rfl, q_gp (i := 12) rfl rfl⟩, ⟨rfl, Nat.le_of_ble_eq_true rfl, Nat.le_of_ble_eq_true rfl⟩, by decide +kernel⟩
set_option maxRecDepth 100000 in
theorem q_mk_131 : q_mk 131 := ⟨⟨q_g3 (i := 92) rfl rfl, q_g1 (i := 2) rfl rfl⟩, show _ ∧ _ from ⟨q_g3 (i := 91) rfl rfl, q_gp (i := 13) rfl rfl⟩, ⟨rfl, Nat.le_of_ble_eq_true rfl, Nat.le_of_ble_eq_true rfl⟩, by decide +kernel⟩
set_option maxRecDepth 100000 in
theorem q_mk_132 : q_mk 132 := ⟨⟨q_g2 (i := 210) rfl rfl, q_g1 (i := 2) rfl rfl⟩, show _ ∧ _ from ⟨q_g2 (i := 209) rfl rfl, q_gp (i := 2) rfl rfl⟩, ⟨rfl, Nat.le_of_ble_eq_true rfl, Nat.le_of_ble_eq_true rfl⟩, by decide +kernel⟩
set_option maxRecDepth 100000 in
theorem q_mk_133 : q_mk 133 := ⟨⟨q_g2 (i := 236) rfl rfl, q_g1 (i := 2) rfl rfl⟩, show _ ∧ _ from ⟨q_g2 (i := 235) rfl rfl, q_gp (i := 7) rfl rfl⟩, ⟨rfl, Nat.le_of_ble_eq_true rfl, Nat.le_of_ble_eq_true rfl⟩, by decide +kernel⟩
set_option maxRecDepth 100000 in
theorem q_mk_134 : q_mk 134 := ⟨⟨q_g2 (i := 218) rfl rfl, q_g1 (i := 2) rfl rfl⟩, show _ ∧ _ from ⟨q_g2 (i := 217) rfl rfl, q_gp (i := 4) rfl rfl⟩, ⟨rfl, Nat.le_of_ble_eq_true rfl, Nat.le_of_ble_eq_true rfl⟩, by decide +kernel⟩
set_option maxRecDepth 100000 in
theorem q_mk_135 : q_mk 135 := ⟨⟨q_g2 (i := 214) rfl rfl, q_g1 (i := 2) rfl rfl⟩, show _ ∧ _ from ⟨q_g2 (i := 213) rfl rfl, q_gp (i := 3) rfl rfl⟩, ⟨rfl, Nat.le_of_ble_eq_true rfl, Nat.le_of_ble_eq_true rfl⟩, by decide +kernel⟩
set_option maxRecDepth 100000 in
theorem q_mk_136 : q_mk 136 := ⟨⟨q_g2 (i := 228) rfl rfl, q_g1 (i := 2) rfl rfl⟩, show _ ∧ _ from ⟨q_g2 (i := 227) rfl rfl, q_gp (i := 5) rfl rfl⟩, ⟨rfl, Nat.le_of_ble_eq_true rfl, Nat.le_of_ble_eq_true rfl⟩, by decide +kernel⟩
set_option maxRecDepth 100000 in
theorem q_mk_137 : q_mk 137 := ⟨⟨q_g2 (i := 232) rfl rfl, q_g1 (i := 2) rfl rfl⟩, show _ ∧ _ from ⟨q_g2 (i := 231) rfl rfl, q_gp (i := 6) rfl rfl⟩, ⟨rfl, Nat.le_of_ble_eq_true rfl, Nat.le_of_ble_eq_true rfl⟩, by decide +kernel⟩
set_option maxRecDepth 100000 in
theorem q_mk_138 : q_mk 138 := ⟨⟨q_g3 (i := 4) rfl rfl, q_g1 (i := 2) rfl rfl⟩, show _ ∧ _ from ⟨q_g3 (i := 3) rfl rfl, q_gp (i := 8) rfl rfl⟩, ⟨rfl, Nat.le_of_ble_eq_true rfl, Nat.le_of_ble_eq_true rfl⟩, by decide +kernel⟩
set_option maxRecDepth 100000 in
theorem q_mk_139 : q_mk 139 := ⟨⟨q_g3 (i := 25) rfl rfl, q_g1 (i := 2) rfl rfl⟩, show _ ∧ _ from ⟨q_g3 (i := 24) rfl rfl, q_gp (i := 9) rfl rfl⟩, ⟨rfl, Nat.le_of_ble_eq_true rfl, Nat.le_of_ble_eq_true rfl⟩, by decide +kernel⟩
set_option maxRecDepth 100000 in
theorem q_mk_140 : q_mk 140 := ⟨⟨q_g3 (i := 88) rfl rfl, q_g1 (i := 2) rfl rfl⟩, q_g3 (i := 87) rfl rfl, ⟨rfl, Nat.le_of_ble_eq_true rfl, Nat.le_of_ble_eq_true rfl⟩, by decide +kernel⟩
set_option maxRecDepth 100000 in
theorem q_mk_141 : q_mk 141 := ⟨⟨q_g3 (i := 7) rfl rfl, q_g1 (i := 2) rfl rfl⟩, q_g3 (i := 6) rfl rfl, ⟨rfl, Nat.le_of_ble_eq_true rfl, Nat.le_of_ble_eq_true rfl⟩, by decide +kernel⟩
set_option maxRecDepth 100000 in
theorem q_mk_142 : q_mk 142 := ⟨⟨q_g2 (i := 140) rfl rfl, q_g1 (i := 3) rfl rfl⟩, show _ ∧ _ from ⟨q_g2 (i := 138) rfl rfl, q_g2 (i := 139) rfl rfl⟩, ⟨rfl, Nat.le_of_ble_eq_true rfl, Nat.le_of_ble_eq_true rfl⟩, by decide +kernel⟩
set_option maxRecDepth 100000 in
theorem q_mk_143 : q_mk 143 := ⟨⟨q_g2 (i := 187) rfl rfl, q_g1 (i := 3) rfl rfl⟩, show _ ∧ _ from ⟨q_g2 (i := 185) rfl rfl, q_g2 (i := 186) rfl rfl⟩, ⟨rfl, Nat.le_of_ble_eq_true rfl, Nat.le_of_ble_eq_true rfl⟩, by decide +kernel⟩
set_option maxRecDepth 100000 in
theorem q_mk_144 : q_mk 144 := ⟨⟨q_g3 (i := 230) rfl rfl, q_g1 (i := 3) rfl rfl⟩, show _ ∧ _ from ⟨q_g3 (i := 228) rfl rfl, q_g3 (i := 229) rfl rfl⟩, ⟨rfl, Nat.le_of_ble_eq_true rfl, Nat.le_of_ble_eq_true rfl⟩, by decide +kernel⟩
set_option maxRecDepth 100000 in
theorem q_mk_145 : q_mk 145 := ⟨⟨q_g4 (i := 29) rfl rfl, q_g1 (i := 3) rfl rfl⟩, show _ ∧ _ from ⟨q_g4 (i := 27) rfl rfl, q_g4 (i := 28) rfl rfl⟩, ⟨rfl, Nat.le_of_ble_eq_true rfl, Nat.le_of_ble_eq_true rfl⟩, by decide +kernel⟩
set_option maxRecDepth 100000 in
theorem q_mk_146 : q_mk 146 := ⟨⟨q_g4 (i := 212) rfl rfl, q_g1 (i := 3) rfl rfl⟩, show _ ∧ _ from ⟨q_g4 (i := 211) rfl rfl, q_gp (i := 36) rfl rfl⟩, ⟨rfl, Nat.le_of_ble_eq_true rfl, Nat.le_of_ble_eq_true rfl⟩, by decide +kernel⟩
set_option maxRecDepth 100000 in
theorem q_mk_147 : q_mk 147 := ⟨⟨q_g5 (i := 35) rfl rfl, q_g1 (i := 3) rfl rfl⟩, show _ ∧ _ from ⟨q_g5 (i := 33) rfl rfl, q_g5 (i := 34) rfl rfl⟩, ⟨rfl, Nat.le_of_ble_eq_true rfl, Nat.le_of_ble_eq_true rfl⟩, by decide +kernel⟩
set_option maxRecDepth 100000 in
theorem q_mk_148 : q_mk 148 := ⟨⟨q_g4 (i := 204) rfl rfl, q_g1 (i := 3) rfl rfl⟩, show _ ∧ _ from ⟨q_g4 (i := 202) rfl rfl, q_g4 (i := 203) rfl rfl⟩, ⟨rfl, Nat.le_of_ble_eq_true rfl, Nat.le_of_ble_eq_true rfl⟩, by decide +kernel⟩
set_option maxRecDepth 100000 in
theorem q_mk_149 : q_mk 149 := ⟨⟨q_g4 (i := 208) rfl rfl, q_g1 (i := 3) rfl rfl⟩, show _ ∧ _ from ⟨q_g4 (i := 207) rfl rfl, q_gp (i := 35) rfl rfl⟩, ⟨rfl, Nat.le_of_ble_eq_true rfl, Nat.le_of_ble_eq_true rfl⟩, by decide +kernel⟩
set_option maxRecDepth 100000 in
theorem q_mk_150 : q_mk 150 := ⟨⟨q_g4 (i := 56) rfl rfl, q_g1 (i := 3) rfl rfl⟩, show _ ∧ _ from ⟨q_g4 (i := 54) rfl rfl, q_g4 (i := 55) rfl rfl⟩, ⟨rfl, Nat.le_of_ble_eq_true rfl, Nat.le_of_ble_eq_true rfl⟩, by decide +kernel⟩
set_option maxRecDepth 100000 in
theorem q_mk_151 : q_mk 151 := ⟨⟨q_g5 (i := 78) rfl rfl, q_g1 (i := 3) rfl rfl⟩, show _ ∧ _ from ⟨q_g5 (i := 76) rfl rfl, q_g5 (i := 77) rfl rfl⟩, ⟨rfl, Nat.le_of_ble_eq_true rfl, Nat.le_of_ble_eq_true rfl⟩, by decide +kernel⟩
set_option maxRecDepth 100000 in
theorem q_mk_152 : q_mk 152 := ⟨⟨q_g5 (i := 82) rfl rfl, q_g1 (i := 3) rfl rfl⟩, show _ ∧ _ from ⟨q_g5 (i := 81) rfl rfl, q_gp (i := 37) rfl rfl⟩, ⟨rfl, Nat.le_of_ble_eq_true rfl, Nat.le_of_ble_eq_true rfl⟩, by decide +kernel⟩
set_option maxRecDepth 100000 in
theorem q_mk_153 : q_mk 153 := ⟨⟨q_g4 (i := 238) rfl rfl, q_g1 (i := 3) rfl rfl⟩, show _ ∧ _ from ⟨q_g4 (i := 236) rfl rfl, q_g4 (i := 237) rfl rfl⟩, ⟨rfl, Nat.le_of_ble_eq_true rfl, Nat.le_of_ble_eq_true rfl⟩, by decide +kernel⟩
set_option maxRecDepth 100000 in
theorem q_mk_154 : q_mk 154 := ⟨⟨q_g5 (i := 177) rfl rfl, q_g1 (i := 3) rfl rfl⟩, show _ ∧ _ from ⟨q_g5 (i := 175) rfl rfl, q_g5 (i := 176) rfl rfl⟩, ⟨rfl, Nat.le_of_ble_eq_true rfl, Nat.le_of_ble_eq_true rfl⟩, by decide +kernel⟩
set_option maxRecDepth 100000 in
theorem q_mk_155 : q_mk 155 := ⟨⟨q_g4 (i := 2) rfl rfl, q_g1 (i := 3) rfl rfl⟩, show _ ∧ _ from ⟨q_g4 (i := 0) rfl rfl, q_g4 (i := 1) rfl rfl⟩, ⟨rfl, Nat.le_of_ble_eq_true rfl, Nat.le_of_ble_eq_true rfl⟩, by decide +kernel⟩
set_option maxRecDepth 100000 in
theorem q_mk_156 : q_mk 156 := ⟨⟨q_g3 (i := 234) rfl rfl, q_g1 (i := 3) rfl rfl⟩, show _ ∧ _ from ⟨q_g3 (i := 232) rfl rfl, q_g3 (i := 233) rfl rfl⟩, ⟨rfl, Nat.le_of_ble_eq_true rfl, Nat.le_of_ble_eq_true rfl⟩, by decide +kernel⟩
set_option maxRecDepth 100000 in
theorem q_mk_157 : q_mk 157 := ⟨⟨q_g4 (i := 25) rfl rfl, q_g1 (i := 3) rfl rfl⟩, show _ ∧ _ from ⟨q_g4 (i := 23) rfl rfl, q_g4 (i := 24) rfl rfl⟩, ⟨rfl, Nat.le_of_ble_eq_true rfl, Nat.le_of_ble_eq_true rfl⟩, by decide +kernel⟩
set_option maxRecDepth 100000 in
theorem q_mk_158 : q_mk 158 := ⟨⟨q_g4 (i := 34) rfl rfl, q_g1 (i := 3) rfl rfl⟩, show _ ∧ _ from ⟨q_g4 (i := 32) rfl rfl, q_g4 (i := 33) rfl rfl⟩, ⟨rfl, Nat.le_of_ble_eq_true rfl, Nat.le_of_ble_eq_true rfl⟩, by decide +kernel⟩
set_option maxRecDepth 100000 in
theorem q_mk_159 : q_mk 159 := ⟨⟨q_g5 (i := 21) rfl rfl, q_g1 (i := 3) rfl rfl⟩, show _ ∧ _ from ⟨q_g5 (i := 19) rfl rfl, q_g5 (i := 20) rfl rfl⟩, ⟨rfl, Nat.le_of_ble_eq_true rfl, Nat.le_of_ble_eq_true rfl⟩, by decide +kernel⟩
set_option maxRecDepth 100000 in
theorem q_mk_160 : q_mk 160 := ⟨⟨q_g3 (i := 125) rfl rfl, q_g1 (i := 3) rfl rfl⟩, show _ ∧ _ from ⟨q_g3 (i := 123) rfl rfl, q_g3 (i := 124) rfl rfl⟩, ⟨rfl, Nat.le_of_ble_eq_true rfl, Nat.le_of_ble_eq_true rfl⟩, by decide +kernel⟩
set_option maxRecDepth 100000 in
theorem q_mk_161 : q_mk 161 := ⟨⟨q_g3 (i := 129) rfl rfl, q_g1 (i := 3) rfl rfl⟩, show _ ∧ _ from ⟨q_g3 (i := 127) rfl rfl, q_g3 (i := 128) rfl rfl⟩, ⟨rfl, Nat.le_of_ble_eq_true rfl, Nat.le_of_ble_eq_true rfl⟩, by decide +kernel⟩
set_option maxRecDepth 100000 in
theorem q_mk_162 : q_mk 162 := ⟨⟨q_g4 (i := 48) rfl rfl, q_g1 (i := 3) rfl rfl⟩, show _ ∧ _ from ⟨q_g4 (i := 46) rfl rfl, q_g4 (i := 47) rfl rfl⟩, ⟨rfl, Nat.le_of_ble_eq_true rfl, Nat.le_of_ble_eq_true rfl⟩, by decide +kernel⟩
set_option maxRecDepth 100000 in
theorem q_mk_163 : q_mk 163 := ⟨⟨q_g4 (i := 11) rfl rfl, q_g1 (i := 3) rfl rfl⟩, show _ ∧ _ from ⟨q_g4 (i := 9) rfl rfl, q_g4 (i := 10) rfl rfl⟩, ⟨rfl, Nat.le_of_ble_eq_true rfl, Nat.le_of_ble_eq_true rfl⟩, by decide +kernel⟩
set_option maxRecDepth 100000 in
theorem q_mk_164 : q_mk 164 := ⟨⟨q_g4 (i := 17) rfl rfl, q_g1 (i := 3) rfl rfl⟩, show _ ∧ _ from ⟨q_g4 (i := 15) rfl rfl, q_g4 (i := 16) rfl rfl⟩, ⟨rfl, Nat.le_of_ble_eq_true rfl, Nat.le_of_ble_eq_true rfl⟩, by decide +kernel⟩
set_option maxRecDepth 100000 in
theorem q_mk_165 : q_mk 165 := ⟨⟨q_g4 (i := 21) rfl rfl, q_g1 (i := 3) rfl rfl⟩, show _ ∧ _ from ⟨q_g4 (i := 20) rfl rfl, q_gp (i := 23) rfl rfl⟩, ⟨rfl, Nat.le_of_ble_eq_true rfl, Nat.le_of_ble_eq_true rfl⟩, by decide +kernel⟩
set_option maxRecDepth 100000 in
theorem q_mk_166 : q_mk 166 := ⟨⟨q_g4 (i := 86) rfl rfl, q_g1 (i := 3) rfl rfl⟩, show _ ∧ _ from ⟨q_g4 (i := 84) rfl rfl, q_g4 (i := 85) rfl rfl⟩, ⟨rfl, Nat.le_of_ble_eq_true rfl, Nat.le_of_ble_eq_true rfl⟩, by decide +kernel⟩
set_option maxRecDepth 100000 in
theorem q_mk_167 : q_mk 167 := ⟨⟨q_g4 (i := 90) rfl rfl, q_g1 (i := 3) rfl rfl⟩, show _ ∧ _ from ⟨q_g4 (i := 89) rfl rfl, q_gp (i := 24) rfl rfl⟩, ⟨rfl, Nat.le_of_ble_eq_true rfl, Nat.le_of_ble_eq_true rfl⟩, by decide +kernel⟩
set_option maxRecDepth 100000 in
theorem q_mk_168 : q_mk 168 := ⟨⟨q_g4 (i := 102) rfl rfl, q_g1 (i := 3) rfl rfl⟩, show _ ∧ _ from ⟨q_g4 (i := 101) rfl rfl, q_gp (i := 25) rfl rfl⟩, ⟨rfl, Nat.le_of_ble_eq_true rfl, Nat.le_of_ble_eq_true rfl⟩, by decide +kernel⟩
set_option maxRecDepth 100000 in
theorem q_mk_169 : q_mk 169 := ⟨⟨q_g4 (i := 110) rfl rfl, q_g1 (i := 3) rfl rfl⟩, show _ ∧ _ from ⟨q_g4 (i := 109) rfl rfl, q_gp (i := 26) rfl rfl⟩, ⟨rfl, Nat.le_of_ble_eq_true rfl, Nat.le_of_ble_eq_true rfl⟩, by decide +kernel⟩
set_option maxRecDepth 100000 in
theorem q_mk_170 : q_mk 170 := ⟨⟨q_g4 (i := 114) rfl rfl, q_g1 (i := 3) rfl rfl⟩, show _ ∧ _ from ⟨q_g4 (i := 113) rfl rfl, q_gp (i := 27) rfl rfl⟩, ⟨rfl, Nat.le_of_ble_eq_true rfl, Nat.le_of_ble_eq_true rfl⟩, by decide +kernel⟩
set_option maxRecDepth 100000 in
theorem q_mk_171 : q_mk 171 := ⟨⟨q_g4 (i := 118) rfl rfl, q_g1 (i := 3) rfl rfl⟩, show _ ∧ _ from ⟨q_g4 (i := 117) rfl rfl, q_gp (i := 28) rfl rfl⟩, ⟨rfl, Nat.le_of_ble_eq_true rfl, Nat.le_of_ble_eq_true rfl⟩, by decide +kernel⟩
set_option maxRecDepth 100000 in
theorem q_mk_172 : q_mk 172 := ⟨⟨q_g4 (i := 122) rfl rfl, q_g1 (i := 3) rfl rfl⟩, show _ ∧ _ from ⟨q_g4 (i := 121) rfl rfl, q_gp (i := 29) rfl rfl⟩, ⟨rfl, Nat.le_of_ble_eq_true rfl, Nat.le_of_ble_eq_true rfl⟩, by decide +kernel⟩
set_option maxRecDepth 100000 in
theorem q_mk_173 : q_mk 173 := ⟨⟨q_g4 (i := 130) rfl rfl, q_g1 (i := 3) rfl rfl⟩, show _ ∧ _ from ⟨q_g4 (i := 128) rfl rfl, q_g4 (i := 129) rfl rfl⟩, ⟨rfl, Nat.le_of_ble_eq_true rfl, Nat.le_of_ble_eq_true rfl⟩, by decide +kernel⟩
set_option maxRecDepth 100000 in
theorem q_mk_174 : q_mk 174 := ⟨⟨q_g4 (i := 147) rfl rfl, q_g1 (i := 3) rfl rfl⟩, show _ ∧ _ from ⟨q_g4 (i := 146) rfl rfl, q_gp (i := 30) rfl rfl⟩, ⟨rfl, Nat.le_of_ble_eq_true rfl, Nat.le_of_ble_eq_true rfl⟩, by decide +kernel⟩
set_option maxRecDepth 100000 in
theorem q_mk_175 : q_mk 175 := ⟨⟨q_g5 (i := 202) rfl rfl, q_g1 (i := 3) rfl rfl⟩, show _ ∧ _ from ⟨q_g5 (i := 200) rfl rfl, q_g5 (i := 201) rfl rfl⟩, ⟨rfl, Nat.le_of_ble_eq_true rfl, Nat.le_of_ble_eq_true rfl⟩, by decide +kernel⟩
set_option maxRecDepth 100000 in
theorem q_mk_176 : q_mk 176 := ⟨⟨q_g4 (i := 169) rfl rfl, q_g1 (i := 3) rfl rfl⟩, show _ ∧ _ from ⟨q_g4 (i := 167) rfl rfl, q_g4 (i := 168) rfl rfl⟩, ⟨rfl, Nat.le_of_ble_eq_true rfl, Nat.le_of_ble_eq_true rfl⟩, by decide +kernel⟩
set_option maxRecDepth 100000 in
theorem q_mk_177 : q_mk 177 := ⟨⟨q_g4 (i := 185) rfl rfl, q_g1 (i := 3) rfl rfl⟩, show _ ∧ _ from ⟨q_g4 (i := 184) rfl rfl, q_gp (i := 34) rfl rfl⟩, ⟨rfl, Nat.le_of_ble_eq_true rfl, Nat.le_of_ble_eq_true rfl⟩, by decide +kernel⟩
set_option maxRecDepth 100000 in
theorem q_mk_178 : q_mk 178 := ⟨⟨q_g4 (i := 173) rfl rfl, q_g1 (i := 3) rfl rfl⟩, show _ ∧ _ from ⟨q_g4 (i := 172) rfl rfl, q_gp (i := 31) rfl rfl⟩, ⟨rfl, Nat.le_of_ble_eq_true rfl, Nat.le_of_ble_eq_true rfl⟩, by decide +kernel⟩
set_option maxRecDepth 100000 in
theorem q_mk_179 : q_mk 179 := ⟨⟨q_g4 (i := 177) rfl rfl, q_g1 (i := 3) rfl rfl⟩, show _ ∧ _ from ⟨q_g4 (i := 176) rfl rfl, q_gp (i := 32) rfl rfl⟩, ⟨rfl, Nat.le_of_ble_eq_true rfl, Nat.le_of_ble_eq_true rfl⟩, by decide +kernel⟩
set_option maxRecDepth 100000 in
theorem q_mk_180 : q_mk 180 := ⟨⟨q_g4 (i := 181) rfl rfl, q_g1 (i := 3) rfl rfl⟩, show _ ∧ _ from ⟨q_g4 (i := 180) rfl rfl, q_gp (i := 33) rfl rfl⟩, ⟨rfl, Nat.le_of_ble_eq_true rfl, Nat.le_of_ble_eq_true rfl⟩, by decide +kernel⟩
set_option maxRecDepth 100000 in
theorem q_mk_181 : q_mk 181 := ⟨⟨q_g6 (i := 87) rfl rfl, q_g1 (i := 10) rfl rfl⟩, show _ ∧ _ from ⟨q_g6 (i := 85) rfl rfl, q_g6 (i := 86) rfl rfl⟩, ⟨rfl, Nat.le_of_ble_eq_true rfl, Nat.le_of_ble_eq_true rfl⟩, by decide +kernel⟩
set_option maxRecDepth 100000 in
theorem q_mk_182 : q_mk 182 := ⟨⟨q_g6 (i := 191) rfl rfl, q_g1 (i := 10) rfl rfl⟩, show _ ∧ _ from ⟨q_g6 (i := 190) rfl rfl, q_gp (i := 62) rfl rfl⟩, ⟨rfl, Nat.le_of_ble_eq_true rfl, Nat.le_of_ble_eq_true rfl⟩, by decide +kernel⟩
set_option maxRecDepth 100000 in
theorem q_mk_183 : q_mk 183 := ⟨⟨q_g6 (i := 106) rfl rfl, q_g1 (i := 10) rfl rfl⟩, show _ ∧ _ from ⟨q_g6 (i := 105) rfl rfl, q_gp (i := 42) rfl rfl⟩, ⟨rfl, Nat.le_of_ble_eq_true rfl, Nat.le_of_ble_eq_true rfl⟩, by decide +kernel⟩
set_option maxRecDepth 100000 in
theorem q_mk_184 : q_mk 184 := ⟨⟨q_g6 (i := 102) rfl rfl, q_g1 (i := 10) rfl rfl⟩, q_g6 (i := 101) rfl rfl, ⟨rfl, Nat.le_of_ble_eq_true rfl, Nat.le_of_ble_eq_true rfl⟩, by decide +kernel⟩
set_option maxRecDepth 100000 in
theorem q_mk_185 : q_mk 185 := ⟨⟨q_g5 (i := 235) rfl rfl, q_g1 (i := 10) rfl rfl⟩, show _ ∧ _ from ⟨q_g5 (i := 234) rfl rfl, q_gp (i := 40) rfl rfl⟩, ⟨rfl, Nat.le_of_ble_eq_true rfl, Nat.le_of_ble_eq_true rfl⟩, by decide +kernel⟩
set_option maxRecDepth 100000 in
theorem q_mk_186 : q_mk 186 := ⟨⟨q_g6 (i := 109) rfl rfl, q_g1 (i := 10) rfl rfl⟩, q_g6 (i := 108) rfl rfl, ⟨rfl, Nat.le_of_ble_eq_true rfl, Nat.le_of_ble_eq_true rfl⟩, by decide +kernel⟩
set_option maxRecDepth 100000 in
theorem q_mk_187 : q_mk 187 := ⟨⟨q_g6 (i := 155) rfl rfl, q_g1 (i := 10) rfl rfl⟩, show _ ∧ _ from ⟨q_g6 (i := 154) rfl rfl, q_gp (i := 53) rfl rfl⟩, ⟨rfl, Nat.le_of_ble_eq_true rfl, Nat.le_of_ble_eq_true rfl⟩, by decide +kernel⟩
set_option maxRecDepth 100000 in
theorem q_mk_188 : q_mk 188 := ⟨⟨q_g6 (i := 167) rfl rfl, q_g1 (i := 10) rfl rfl⟩, show _ ∧ _ from ⟨q_g6 (i := 166) rfl rfl, q_gp (i := 56) rfl rfl⟩, ⟨rfl, Nat.le_of_ble_eq_true rfl, Nat.le_of_ble_eq_true rfl⟩, by decide +kernel⟩
set_option maxRecDepth 100000 in
theorem q_mk_189 : q_mk 189 := ⟨⟨q_g6 (i := 151) rfl rfl, q_g1 (i := 10) rfl rfl⟩, show _ ∧ _ from ⟨q_g6 (i := 150) rfl rfl, q_gp (i := 52) rfl rfl⟩, ⟨rfl, Nat.le_of_ble_eq_true rfl, Nat.le_of_ble_eq_true rfl⟩, by decide +kernel⟩
set_option maxRecDepth 100000 in
theorem q_mk_190 : q_mk 190 := ⟨⟨q_g6 (i := 239) rfl rfl, q_g1 (i := 10) rfl rfl⟩, show _ ∧ _ from ⟨q_g6 (i := 238) rfl rfl, q_gp (i := 74) rfl rfl⟩, ⟨rfl, Nat.le_of_ble_eq_true rfl, Nat.le_of_ble_eq_true rfl⟩, by decide +kernel⟩
set_option maxRecDepth 100000 in
theorem q_mk_191 : q_mk 191 := ⟨⟨q_g6 (i := 235) rfl rfl, q_g1 (i := 10) rfl rfl⟩, show _ ∧ _ from ⟨q_g6 (i := 234) rfl rfl, q_gp (i := 73) rfl rfl⟩, ⟨rfl, Nat.le_of_ble_eq_true rfl, Nat.le_of_ble_eq_true rfl⟩, by decide +kernel⟩
set_option maxRecDepth 100000 in
theorem q_mk_192 : q_mk 192 := ⟨⟨q_g6 (i := 147) rfl rfl, q_g1 (i := 10) rfl rfl⟩, show _ ∧ _ from ⟨q_g6 (i := 146) rfl rfl, q_gp (i := 51) rfl rfl⟩, ⟨rfl, Nat.le_of_ble_eq_true rfl, Nat.le_of_ble_eq_true rfl⟩, by decide +kernel⟩
set_option maxRecDepth 100000 in
theorem q_mk_193 : q_mk 193 := ⟨⟨q_g6 (i := 143) rfl rfl, q_g1 (i := 10) rfl rfl⟩, show _ ∧ _ from ⟨q_g6 (i := 142) rfl rfl, q_gp (i := 50) rfl rfl⟩, ⟨rfl, Nat.le_of_ble_eq_true rfl, Nat.le_of_ble_eq_true rfl⟩, by decide +kernel⟩
set_option maxRecDepth 100000 in
theorem q_mk_194 : q_mk 194 := ⟨⟨q_g6 (i := 139) rfl rfl, q_g1 (i := 10) rfl rfl⟩, show _ ∧ _ from ⟨q_g6 (i := 138) rfl rfl, q_gp (i := 49) rfl rfl⟩, ⟨rfl, Nat.le_of_ble_eq_true rfl, Nat.le_of_ble_eq_true rfl⟩, by decide +kernel⟩
set_option maxRecDepth 100000 in
theorem q_mk_195 : q_mk 195 := ⟨⟨q_g6 (i := 163) rfl rfl, q_g1 (i := 10) rfl rfl⟩, show _ ∧ _ from ⟨q_g6 (i := 162) rfl rfl, q_gp (i := 55) rfl rfl⟩, ⟨rfl, Nat.le_of_ble_eq_true rfl, Nat.le_of_ble_eq_true rfl⟩, by decide +kernel⟩
set_option maxRecDepth 100000 in
theorem q_mk_196 : q_mk 196 := ⟨⟨q_g6 (i := 199) rfl rfl, q_g1 (i := 10) rfl rfl⟩, show _ ∧ _ from ⟨q_g6 (i := 198) rfl rfl, q_gp (i := 64) rfl rfl⟩, ⟨rfl, Nat.le_of_ble_eq_true rfl, Nat.le_of_ble_eq_true rfl⟩, by decide +kernel⟩
set_option maxRecDepth 100000 in
theorem q_mk_197 : q_mk 197 := ⟨⟨q_g6 (i := 195) rfl rfl, q_g1 (i := 10) rfl rfl⟩, show _ ∧ _ from ⟨q_g6 (i := 194) rfl rfl, q_gp (i := 63) rfl rfl⟩, ⟨rfl, Nat.le_of_ble_eq_true rfl, Nat.le_of_ble_eq_true rfl⟩, by decide +kernel⟩
set_option maxRecDepth 100000 in
theorem q_mk_198 : q_mk 198 := ⟨⟨q_g6 (i := 211) rfl rfl, q_g1 (i := 10) rfl rfl⟩, show _ ∧ _ from ⟨q_g6 (i := 210) rfl rfl, q_gp (i := 67) rfl rfl⟩, ⟨rfl, Nat.le_of_ble_eq_true rfl, Nat.le_of_ble_eq_true rfl⟩, by decide +kernel⟩
set_option maxRecDepth 100000 in
theorem q_mk_199 : q_mk 199 := ⟨⟨q_g7 (i := 11) rfl rfl, q_g1 (i := 10) rfl rfl⟩, show _ ∧ _ from ⟨q_g7 (i := 10) rfl rfl, q_gp (i := 77) rfl rfl⟩, ⟨rfl, Nat.le_of_ble_eq_true rfl, Nat.le_of_ble_eq_true rfl⟩, by decide +kernel⟩
set_option maxRecDepth 100000 in
theorem q_mk_200 : q_mk 200 := ⟨⟨q_g7 (i := 7) rfl rfl, q_g1 (i := 10) rfl rfl⟩, show _ ∧ _ from ⟨q_g7 (i := 6) rfl rfl, q_gp (i := 76) rfl rfl⟩, ⟨rfl, Nat.le_of_ble_eq_true rfl, Nat.le_of_ble_eq_true rfl⟩, by decide +kernel⟩
set_option maxRecDepth 100000 in
theorem q_mk_201 : q_mk 201 := ⟨⟨q_g6 (i := 215) rfl rfl, q_g1 (i := 10) rfl rfl⟩, show _ ∧ _ from ⟨q_g6 (i := 214) rfl rfl, q_gp (i := 68) rfl rfl⟩, ⟨rfl, Nat.le_of_ble_eq_true rfl, Nat.le_of_ble_eq_true rfl⟩, by decide +kernel⟩
set_option maxRecDepth 100000 in
theorem q_mk_202 : q_mk 202 := ⟨⟨q_g7 (i := 3) rfl rfl, q_g1 (i := 10) rfl rfl⟩, show _ ∧ _ from ⟨q_g7 (i := 2) rfl rfl, q_gp (i := 75) rfl rfl⟩, ⟨rfl, Nat.le_of_ble_eq_true rfl, Nat.le_of_ble_eq_true rfl⟩, by decide +kernel⟩
set_option maxRecDepth 100000 in
theorem q_mk_203 : q_mk 203 := ⟨⟨q_g7 (i := 35) rfl rfl, q_g1 (i := 10) rfl rfl⟩, show _ ∧ _ from ⟨q_g7 (i := 34) rfl rfl, q_gp (i := 83) rfl rfl⟩, ⟨rfl, Nat.le_of_ble_eq_true rfl, Nat.le_of_ble_eq_true rfl⟩, by decide +kernel⟩
set_option maxRecDepth 100000 in
theorem q_mk_204 : q_mk 204 := ⟨⟨q_g7 (i := 31) rfl rfl, q_g1 (i := 10) rfl rfl⟩, show _ ∧ _ from ⟨q_g7 (i := 30) rfl rfl, q_gp (i := 82) rfl rfl⟩, ⟨rfl, Nat.le_of_ble_eq_true rfl, Nat.le_of_ble_eq_true rfl⟩, by decide +kernel⟩
set_option maxRecDepth 100000 in
theorem q_mk_205 : q_mk 205 := ⟨⟨q_g7 (i := 27) rfl rfl, q_g1 (i := 10) rfl rfl⟩, show _ ∧ _ from ⟨q_g7 (i := 26) rfl rfl, q_gp (i := 81) rfl rfl⟩, ⟨rfl, Nat.le_of_ble_eq_true rfl, Nat.le_of_ble_eq_true rfl⟩, by decide +kernel⟩
set_option maxRecDepth 100000 in
theorem q_mk_206 : q_mk 206 := ⟨⟨q_g7 (i := 19) rfl rfl, q_g1 (i := 10) rfl rfl⟩, show _ ∧ _ from ⟨q_g7 (i := 18) rfl rfl, q_gp (i := 79) rfl rfl⟩, ⟨rfl, Nat.le_of_ble_eq_true rfl, Nat.le_of_ble_eq_true rfl⟩, by decide +kernel⟩
set_option maxRecDepth 100000 in
theorem q_mk_207 : q_mk 207 := ⟨⟨q_g7 (i := 47) rfl rfl, q_g1 (i := 10) rfl rfl⟩, show _ ∧ _ from ⟨q_g7 (i := 46) rfl rfl, q_gp (i := 86) rfl rfl⟩, ⟨rfl, Nat.le_of_ble_eq_true rfl, Nat.le_of_ble_eq_true rfl⟩, by decide +kernel⟩
set_option maxRecDepth 100000 in
theorem q_mk_208 : q_mk 208 := ⟨⟨q_g7 (i := 163) rfl rfl, q_g1 (i := 10) rfl rfl⟩, show _ ∧ _ from ⟨q_g7 (i := 162) rfl rfl, q_gp (i := 113) rfl rfl⟩, ⟨rfl, Nat.le_of_ble_eq_true rfl, Nat.le_of_ble_eq_true rfl⟩, by decide +kernel⟩
set_option maxRecDepth 100000 in
theorem q_mk_209 : q_mk 209 := ⟨⟨q_g7 (i := 43) rfl rfl, q_g1 (i := 10) rfl rfl⟩, show _ ∧ _ from ⟨q_g7 (i := 42) rfl rfl, q_gp (i := 85) rfl rfl⟩, ⟨rfl, Nat.le_of_ble_eq_true rfl, Nat.le_of_ble_eq_true rfl⟩, by decide +kernel⟩
set_option maxRecDepth 100000 in
theorem q_mk_210 : q_mk 210 := ⟨⟨q_g7 (i := 51) rfl rfl, q_g1 (i := 10) rfl rfl⟩, show _ ∧ _ from ⟨q_g7 (i := 50) rfl rfl, q_gp (i := 87) rfl rfl⟩, ⟨rfl, Nat.le_of_ble_eq_true rfl, Nat.le_of_ble_eq_true rfl⟩, by decide +kernel⟩
set_option maxRecDepth 100000 in
theorem q_mk_211 : q_mk 211 := ⟨⟨q_g7 (i := 198) rfl rfl, q_g1 (i := 10) rfl rfl⟩, show _ ∧ _ from ⟨q_g7 (i := 197) rfl rfl, q_gp (i := 118) rfl rfl⟩, ⟨rfl, Nat.le_of_ble_eq_true rfl, Nat.le_of_ble_eq_true rfl⟩, by decide +kernel⟩
set_option maxRecDepth 100000 in
theorem q_mk_212 : q_mk 212 := ⟨⟨q_g7 (i := 59) rfl rfl, q_g1 (i := 10) rfl rfl⟩, show _ ∧ _ from ⟨q_g7 (i := 58) rfl rfl, q_gp (i := 89) rfl rfl⟩, ⟨rfl, Nat.le_of_ble_eq_true rfl, Nat.le_of_ble_eq_true rfl⟩, by decide +kernel⟩
set_option maxRecDepth 100000 in
theorem q_mk_213 : q_mk 213 := ⟨⟨q_g7 (i := 55) rfl rfl, q_g1 (i := 10) rfl rfl⟩, show _ ∧ _ from ⟨q_g7 (i := 54) rfl rfl, q_gp (i := 88) rfl rfl⟩, ⟨rfl, Nat.le_of_ble_eq_true rfl, Nat.le_of_ble_eq_true rfl⟩, by decide +kernel⟩
set_option maxRecDepth 100000 in
theorem q_mk_214 : q_mk 214 := ⟨⟨q_g7 (i := 39) rfl rfl, q_g1 (i := 10) rfl rfl⟩, show _ ∧ _ from ⟨q_g7 (i := 38) rfl rfl, q_gp (i := 84) rfl rfl⟩, ⟨rfl, Nat.le_of_ble_eq_true rfl, Nat.le_of_ble_eq_true rfl⟩, by decide +kernel⟩
set_option maxRecDepth 100000 in
theorem q_mk_215 : q_mk 215 := ⟨⟨q_g7 (i := 23) rfl rfl, q_g1 (i := 10) rfl rfl⟩, show _ ∧ _ from ⟨q_g7 (i := 22) rfl rfl, q_gp (i := 80) rfl rfl⟩, ⟨rfl, Nat.le_of_ble_eq_true rfl, Nat.le_of_ble_eq_true rfl⟩, by decide +kernel⟩
set_option maxRecDepth 100000 in
theorem q_mk_216 : q_mk 216 := ⟨⟨q_g6 (i := 175) rfl rfl, q_g1 (i := 10) rfl rfl⟩, show _ ∧ _ from ⟨q_g6 (i := 174) rfl rfl, q_gp (i := 58) rfl rfl⟩, ⟨rfl, Nat.le_of_ble_eq_true rfl, Nat.le_of_ble_eq_true rfl⟩, by decide +kernel⟩
set_option maxRecDepth 100000 in
theorem q_mk_217 : q_mk 217 := ⟨⟨q_g6 (i := 179) rfl rfl, q_g1 (i := 10) rfl rfl⟩, show _ ∧ _ from ⟨q_g6 (i := 178) rfl rfl, q_gp (i := 59) rfl rfl⟩, ⟨rfl, Nat.le_of_ble_eq_true rfl, Nat.le_of_ble_eq_true rfl⟩, by decide +kernel⟩
set_option maxRecDepth 100000 in
theorem q_mk_218 : q_mk 218 := ⟨⟨q_g6 (i := 171) rfl rfl, q_g1 (i := 10) rfl rfl⟩, show _ ∧ _ from ⟨q_g6 (i := 170) rfl rfl, q_gp (i := 57) rfl rfl⟩, ⟨rfl, Nat.le_of_ble_eq_true rfl, Nat.le_of_ble_eq_true rfl⟩, by decide +kernel⟩
set_option maxRecDepth 100000 in
theorem q_mk_219 : q_mk 219 := ⟨⟨q_g7 (i := 194) rfl rfl, q_g1 (i := 10) rfl rfl⟩, show _ ∧ _ from ⟨q_g7 (i := 193) rfl rfl, q_gp (i := 117) rfl rfl⟩, ⟨rfl, Nat.le_of_ble_eq_true rfl, Nat.le_of_ble_eq_true rfl⟩, by decide +kernel⟩
set_option maxRecDepth 100000 in
theorem q_mk_220 : q_mk 220 := ⟨⟨q_g7 (i := 91) rfl rfl, q_g1 (i := 10) rfl rfl⟩, show _ ∧ _ from ⟨q_g7 (i := 90) rfl rfl, q_gp (i := 97) rfl rfl⟩, ⟨rfl, Nat.le_of_ble_eq_true rfl, Nat.le_of_ble_eq_true rfl⟩, by decide +kernel⟩
set_option maxRecDepth 100000 in
theorem q_mk_221 : q_mk 221 := ⟨⟨q_g7 (i := 87) rfl rfl, q_g1 (i := 10) rfl rfl⟩, show _ ∧ _ from ⟨q_g7 (i := 86) rfl rfl, q_gp (i := 96) rfl rfl⟩, ⟨rfl, Nat.le_of_ble_eq_true rfl, Nat.le_of_ble_eq_true rfl⟩, by decide +kernel⟩
set_option maxRecDepth 100000 in
theorem q_mk_222 : q_mk 222 := ⟨⟨q_g7 (i := 95) rfl rfl, q_g1 (i := 10) rfl rfl⟩, show _ ∧ _ from ⟨q_g7 (i := 94) rfl rfl, q_gp (i := 98) rfl rfl⟩, ⟨rfl, Nat.le_of_ble_eq_true rfl, Nat.le_of_ble_eq_true rfl⟩, by decide +kernel⟩
set_option maxRecDepth 100000 in
theorem q_mk_223 : q_mk 223 := ⟨⟨q_g7 (i := 99) rfl rfl, q_g1 (i := 10) rfl rfl⟩, show _ ∧ _ from ⟨q_g7 (i := 98) rfl rfl, q_gp (i := 99) rfl rfl⟩, ⟨rfl, Nat.le_of_ble_eq_true rfl, Nat.le_of_ble_eq_true rfl⟩, by decide +kernel⟩
set_option maxRecDepth 100000 in
theorem q_mk_224 : q_mk 224 := ⟨⟨q_g7 (i := 83) rfl rfl, q_g1 (i := 10) rfl rfl⟩, show _ ∧ _ from ⟨q_g7 (i := 82) rfl rfl, q_gp (i := 95) rfl rfl⟩, ⟨rfl, Nat.le_of_ble_eq_true rfl, Nat.le_of_ble_eq_true rfl⟩, by decide +kernel⟩
set_option maxRecDepth 100000 in
theorem q_mk_225 : q_mk 225 := ⟨⟨q_g6 (i := 231) rfl rfl, q_g1 (i := 10) rfl rfl⟩, show _ ∧ _ from ⟨q_g6 (i := 230) rfl rfl, q_gp (i := 72) rfl rfl⟩, ⟨rfl, Nat.le_of_ble_eq_true rfl, Nat.le_of_ble_eq_true rfl⟩, by decide +kernel⟩
set_option maxRecDepth 100000 in
theorem q_mk_226 : q_mk 226 := ⟨⟨q_g6 (i := 159) rfl rfl, q_g1 (i := 10) rfl rfl⟩, show _ ∧ _ from ⟨q_g6 (i := 158) rfl rfl, q_gp (i := 54) rfl rfl⟩, ⟨rfl, Nat.le_of_ble_eq_true rfl, Nat.le_of_ble_eq_true rfl⟩, by decide +kernel⟩
set_option maxRecDepth 100000 in
theorem q_mk_227 : q_mk 227 := ⟨⟨q_g7 (i := 63) rfl rfl, q_g1 (i := 10) rfl rfl⟩, show _ ∧ _ from ⟨q_g7 (i := 62) rfl rfl, q_gp (i := 90) rfl rfl⟩, ⟨rfl, Nat.le_of_ble_eq_true rfl, Nat.le_of_ble_eq_true rfl⟩, by decide +kernel⟩
set_option maxRecDepth 100000 in
theorem q_mk_228 : q_mk 228 := ⟨⟨q_g7 (i := 15) rfl rfl, q_g1 (i := 10) rfl rfl⟩, show _ ∧ _ from ⟨q_g7 (i := 14) rfl rfl, q_gp (i := 78) rfl rfl⟩, ⟨rfl, Nat.le_of_ble_eq_true rfl, Nat.le_of_ble_eq_true rfl⟩, by decide +kernel⟩
set_option maxRecDepth 100000 in
theorem q_mk_229 : q_mk 229 := ⟨⟨q_g6 (i := 207) rfl rfl, q_g1 (i := 10) rfl rfl⟩, show _ ∧ _ from ⟨q_g6 (i := 206) rfl rfl, q_gp (i := 66) rfl rfl⟩, ⟨rfl, Nat.le_of_ble_eq_true rfl, Nat.le_of_ble_eq_true rfl⟩, by decide +kernel⟩
set_option maxRecDepth 100000 in
theorem q_mk_230 : q_mk 230 := ⟨⟨q_g6 (i := 203) rfl rfl, q_g1 (i := 10) rfl rfl⟩, show _ ∧ _ from ⟨q_g6 (i := 202) rfl rfl, q_gp (i := 65) rfl rfl⟩, ⟨rfl, Nat.le_of_ble_eq_true rfl, Nat.le_of_ble_eq_true rfl⟩, by decide +kernel⟩
set_option maxRecDepth 100000 in
theorem q_mk_231 : q_mk 231 := ⟨⟨q_g6 (i := 227) rfl rfl, q_g1 (i := 10) rfl rfl⟩, show _ ∧ _ from ⟨q_g6 (i := 226) rfl rfl, q_gp (i := 71) rfl rfl⟩, ⟨rfl, Nat.le_of_ble_eq_true rfl, Nat.le_of_ble_eq_true rfl⟩, by decide +kernel⟩
set_option maxRecDepth 100000 in
theorem q_mk_232 : q_mk 232 := ⟨⟨q_g6 (i := 223) rfl rfl, q_g1 (i := 10) rfl rfl⟩, show _ ∧ _ from ⟨q_g6 (i := 222) rfl rfl, q_gp (i := 70) rfl rfl⟩, ⟨rfl, Nat.le_of_ble_eq_true rfl, Nat.le_of_ble_eq_true rfl⟩, by decide +kernel⟩
set_option maxRecDepth 100000 in
theorem q_mk_233 : q_mk 233 := ⟨⟨q_g6 (i := 219) rfl rfl, q_g1 (i := 10) rfl rfl⟩, show _ ∧ _ from ⟨q_g6 (i := 218) rfl rfl, q_gp (i := 69) rfl rfl⟩, ⟨rfl, Nat.le_of_ble_eq_true rfl, Nat.le_of_ble_eq_true rfl⟩, by decide +kernel⟩
set_option maxRecDepth 100000 in
theorem q_mk_234 : q_mk 234 := ⟨⟨q_g7 (i := 71) rfl rfl, q_g1 (i := 10) rfl rfl⟩, show _ ∧ _ from ⟨q_g7 (i := 70) rfl rfl, q_gp (i := 92) rfl rfl⟩, ⟨rfl, Nat.le_of_ble_eq_true rfl, Nat.le_of_ble_eq_true rfl⟩, by decide +kernel⟩
set_option maxRecDepth 100000 in
theorem q_mk_235 : q_mk 235 := ⟨⟨q_g7 (i := 67) rfl rfl, q_g1 (i := 10) rfl rfl⟩, show _ ∧ _ from ⟨q_g7 (i := 66) rfl rfl, q_gp (i := 91) rfl rfl⟩, ⟨rfl, Nat.le_of_ble_eq_true rfl, Nat.le_of_ble_eq_true rfl⟩, by decide +kernel⟩
set_option maxRecDepth 100000 in
theorem q_mk_236 : q_mk 236 := ⟨⟨q_g6 (i := 187) rfl rfl, q_g1 (i := 10) rfl rfl⟩, show _ ∧ _ from ⟨q_g6 (i := 186) rfl rfl, q_gp (i := 61) rfl rfl⟩, ⟨rfl, Nat.le_of_ble_eq_true rfl, Nat.le_of_ble_eq_true rfl⟩, by decide +kernel⟩
set_option maxRecDepth 100000 in
theorem q_mk_237 : q_mk 237 := ⟨⟨q_g7 (i := 75) rfl rfl, q_g1 (i := 10) rfl rfl⟩, show _ ∧ _ from ⟨q_g7 (i := 74) rfl rfl, q_gp (i := 93) rfl rfl⟩, ⟨rfl, Nat.le_of_ble_eq_true rfl, Nat.le_of_ble_eq_true rfl⟩, by decide +kernel⟩
set_option maxRecDepth 100000 in
theorem q_mk_238 : q_mk 238 := ⟨⟨q_g7 (i := 79) rfl rfl, q_g1 (i := 10) rfl rfl⟩, show _ ∧ _ from ⟨q_g7 (i := 78) rfl rfl, q_gp (i := 94) rfl rfl⟩, ⟨rfl, Nat.le_of_ble_eq_true rfl, Nat.le_of_ble_eq_true rfl⟩, by decide +kernel⟩
set_option maxRecDepth 100000 in
theorem q_mk_239 : q_mk 239 := ⟨⟨q_g7 (i := 103) rfl rfl, q_g1 (i := 10) rfl rfl⟩, show _ ∧ _ from ⟨q_g7 (i := 102) rfl rfl, q_gp (i := 100) rfl rfl⟩, ⟨rfl, Nat.le_of_ble_eq_true rfl, Nat.le_of_ble_eq_true rfl⟩, by decide +kernel⟩
set_option maxRecDepth 100000 in
theorem q_mk_240 : q_mk 240 := ⟨⟨q_g7 (i := 107) rfl rfl, q_g1 (i := 10) rfl rfl⟩, show _ ∧ _ from ⟨q_g7 (i := 106) rfl rfl, q_gp (i := 101) rfl rfl⟩, ⟨rfl, Nat.le_of_ble_eq_true rfl, Nat.le_of_ble_eq_true rfl⟩, by decide +kernel⟩
set_option maxRecDepth 100000 in
theorem q_mk_241 : q_mk 241 := ⟨⟨q_g7 (i := 111) rfl rfl, q_g1 (i := 10) rfl rfl⟩, show _ ∧ _ from ⟨q_g7 (i := 110) rfl rfl, q_gp (i := 102) rfl rfl⟩, ⟨rfl, Nat.le_of_ble_eq_true rfl, Nat.le_of_ble_eq_true rfl⟩, by decide +kernel⟩
set_option maxRecDepth 100000 in
theorem q_mk_242 : q_mk 242 := ⟨⟨q_g7 (i := 115) rfl rfl, q_g1 (i := 10) rfl rfl⟩, show _ ∧ _ from ⟨q_g7 (i := 114) rfl rfl, q_gp (i := 103) rfl rfl⟩, ⟨rfl, Nat.le_of_ble_eq_true rfl, Nat.le_of_ble_eq_true rfl⟩, by decide +kernel⟩
set_option maxRecDepth 100000 in
theorem q_mk_243 : q_mk 243 := ⟨⟨q_g7 (i := 123) rfl rfl, q_g1 (i := 10) rfl rfl⟩, show _ ∧ _ from ⟨q_g7 (i := 122) rfl rfl, q_gp (i := 105) rfl rfl⟩, ⟨rfl, Nat.le_of_ble_eq_true rfl, Nat.le_of_ble_eq_true rfl⟩, by decide +kernel⟩
set_option maxRecDepth 100000 in
theorem q_mk_244 : q_mk 244 := ⟨⟨q_g7 (i := 131) rfl rfl, q_g1 (i := 10) rfl rfl⟩, show _ ∧ _ from ⟨q_g7 (i := 130) rfl rfl, q_gp (i := 107) rfl rfl⟩, ⟨rfl, Nat.le_of_ble_eq_true rfl, Nat.le_of_ble_eq_true rfl⟩, by decide +kernel⟩
set_option maxRecDepth 100000 in
theorem q_mk_245 : q_mk 245 := ⟨⟨q_g7 (i := 139) rfl rfl, q_g1 (i := 10) rfl rfl⟩, show _ ∧ _ from ⟨q_g7 (i := 138) rfl rfl, q_gp (i := 109) rfl rfl⟩, ⟨rfl, Nat.le_of_ble_eq_true rfl, Nat.le_of_ble_eq_true rfl⟩, by decide +kernel⟩
set_option maxRecDepth 100000 in
theorem q_mk_246 : q_mk 246 := ⟨⟨q_g7 (i := 135) rfl rfl, q_g1 (i := 10) rfl rfl⟩, show _ ∧ _ from ⟨q_g7 (i := 134) rfl rfl, q_gp (i := 108) rfl rfl⟩, ⟨rfl, Nat.le_of_ble_eq_true rfl, Nat.le_of_ble_eq_true rfl⟩, by decide +kernel⟩
set_option maxRecDepth 100000 in
theorem q_mk_247 : q_mk 247 := ⟨⟨q_g7 (i := 127) rfl rfl, q_g1 (i := 10) rfl rfl⟩, show _ ∧ _ from ⟨q_g7 (i := 126) rfl rfl, q_gp (i := 106) rfl rfl⟩, ⟨rfl, Nat.le_of_ble_eq_true rfl, Nat.le_of_ble_eq_true rfl⟩, by decide +kernel⟩
set_option maxRecDepth 100000 in
theorem q_mk_248 : q_mk 248 := ⟨⟨q_g7 (i := 119) rfl rfl, q_g1 (i := 10) rfl rfl⟩, show _ ∧ _ from ⟨q_g7 (i := 118) rfl rfl, q_gp (i := 104) rfl rfl⟩, ⟨rfl, Nat.le_of_ble_eq_true rfl, Nat.le_of_ble_eq_true rfl⟩, by decide +kernel⟩
set_option maxRecDepth 100000 in
theorem q_mk_249 : q_mk 249 := ⟨⟨q_g6 (i := 95) rfl rfl, q_g1 (i := 10) rfl rfl⟩, show _ ∧ _ from ⟨q_g6 (i := 94) rfl rfl, q_gp (i := 41) rfl rfl⟩, ⟨rfl, Nat.le_of_ble_eq_true rfl, Nat.le_of_ble_eq_true rfl⟩, by decide +kernel⟩
set_option maxRecDepth 100000 in
theorem q_mk_250 : q_mk 250 := ⟨⟨q_g6 (i := 91) rfl rfl, q_g1 (i := 10) rfl rfl⟩, show _ ∧ _ from ⟨q_g6 (i := 89) rfl rfl, q_g6 (i := 90) rfl rfl⟩, ⟨rfl, Nat.le_of_ble_eq_true rfl, Nat.le_of_ble_eq_true rfl⟩, by decide +kernel⟩
set_option maxRecDepth 100000 in
theorem q_mk_251 : q_mk 251 := ⟨⟨q_g6 (i := 117) rfl rfl, q_g1 (i := 10) rfl rfl⟩, show _ ∧ _ from ⟨q_g6 (i := 116) rfl rfl, q_gp (i := 44) rfl rfl⟩, ⟨rfl, Nat.le_of_ble_eq_true rfl, Nat.le_of_ble_eq_true rfl⟩, by decide +kernel⟩
set_option maxRecDepth 100000 in
theorem q_mk_252 : q_mk 252 := ⟨⟨q_g6 (i := 113) rfl rfl, q_g1 (i := 10) rfl rfl⟩, show _ ∧ _ from ⟨q_g6 (i := 112) rfl rfl, q_gp (i := 43) rfl rfl⟩, ⟨rfl, Nat.le_of_ble_eq_true rfl, Nat.le_of_ble_eq_true rfl⟩, by decide +kernel⟩
set_option maxRecDepth 100000 in
theorem q_mk_253 : q_mk 253 := ⟨⟨q_g6 (i := 131) rfl rfl, q_g1 (i := 10) rfl rfl⟩, show _ ∧ _ from ⟨q_g6 (i := 130) rfl rfl, q_gp (i := 47) rfl rfl⟩, ⟨rfl, Nat.le_of_ble_eq_true rfl, Nat.le_of_ble_eq_true rfl⟩, by decide +kernel⟩
set_option maxRecDepth 100000 in
theorem q_mk_254 : q_mk 254 := ⟨⟨q_g6 (i := 127) rfl rfl, q_g1 (i := 10) rfl rfl⟩, show _ ∧ _ from ⟨q_g6 (i := 126) rfl rfl, q_gp (i := 46) rfl rfl⟩, ⟨rfl, Nat.le_of_ble_eq_true rfl, Nat.le_of_ble_eq_true rfl⟩, by decide +kernel⟩
set_option maxRecDepth 100000 in
theorem q_mk_255 : q_mk 255 := ⟨⟨q_g6 (i := 135) rfl rfl, q_g1 (i := 10) rfl rfl⟩, show _ ∧ _ from ⟨q_g6 (i := 134) rfl rfl, q_gp (i := 48) rfl rfl⟩, ⟨rfl, Nat.le_of_ble_eq_true rfl, Nat.le_of_ble_eq_true rfl⟩, by decide +kernel⟩
set_option maxRecDepth 100000 in
theorem q_mk_256 : q_mk 256 := ⟨⟨q_g6 (i := 183) rfl rfl, q_g1 (i := 10) rfl rfl⟩, show _ ∧ _ from ⟨q_g6 (i := 182) rfl rfl, q_gp (i := 60) rfl rfl⟩, ⟨rfl, Nat.le_of_ble_eq_true rfl, Nat.le_of_ble_eq_true rfl⟩, by decide +kernel⟩
set_option maxRecDepth 100000 in
theorem q_mk_257 : q_mk 257 := ⟨⟨q_g6 (i := 123) rfl rfl, q_g1 (i := 10) rfl rfl⟩, show _ ∧ _ from ⟨q_g6 (i := 122) rfl rfl, q_gp (i := 45) rfl rfl⟩, ⟨rfl, Nat.le_of_ble_eq_true rfl, Nat.le_of_ble_eq_true rfl⟩, by decide +kernel⟩
set_option maxRecDepth 100000 in
theorem q_mk_258 : q_mk 258 := ⟨⟨q_g6 (i := 99) rfl rfl, q_g1 (i := 10) rfl rfl⟩, show _ ∧ _ from ⟨q_g6 (i := 97) rfl rfl, q_g6 (i := 98) rfl rfl⟩, ⟨rfl, Nat.le_of_ble_eq_true rfl, Nat.le_of_ble_eq_true rfl⟩, by decide +kernel⟩
set_option maxRecDepth 100000 in
theorem q_mk_259 : q_mk 259 := ⟨⟨q_g7 (i := 143) rfl rfl, q_g1 (i := 10) rfl rfl⟩, show _ ∧ _ from ⟨q_g7 (i := 141) rfl rfl, q_g7 (i := 142) rfl rfl⟩, ⟨rfl, Nat.le_of_ble_eq_true rfl, Nat.le_of_ble_eq_true rfl⟩, by decide +kernel⟩
set_option maxRecDepth 100000 in
theorem q_mk_260 : q_mk 260 := ⟨⟨q_g7 (i := 159) rfl rfl, q_g1 (i := 10) rfl rfl⟩, show _ ∧ _ from ⟨q_g7 (i := 158) rfl rfl, q_gp (i := 112) rfl rfl⟩, ⟨rfl, Nat.le_of_ble_eq_true rfl, Nat.le_of_ble_eq_true rfl⟩, by decide +kernel⟩
set_option maxRecDepth 100000 in
theorem q_mk_261 : q_mk 261 := ⟨⟨q_g7 (i := 155) rfl rfl, q_g1 (i := 10) rfl rfl⟩, show _ ∧ _ from ⟨q_g7 (i := 154) rfl rfl, q_gp (i := 111) rfl rfl⟩, ⟨rfl, Nat.le_of_ble_eq_true rfl, Nat.le_of_ble_eq_true rfl⟩, by decide +kernel⟩
set_option maxRecDepth 100000 in
theorem q_mk_262 : q_mk 262 := ⟨⟨q_g7 (i := 151) rfl rfl, q_g1 (i := 10) rfl rfl⟩, show _ ∧ _ from ⟨q_g7 (i := 150) rfl rfl, q_gp (i := 110) rfl rfl⟩, ⟨rfl, Nat.le_of_ble_eq_true rfl, Nat.le_of_ble_eq_true rfl⟩, by decide +kernel⟩
set_option maxRecDepth 100000 in
theorem q_mk_263 : q_mk 263 := ⟨⟨q_g7 (i := 147) rfl rfl, q_g1 (i := 10) rfl rfl⟩, show _ ∧ _ from ⟨q_g7 (i := 145) rfl rfl, q_g7 (i := 146) rfl rfl⟩, ⟨rfl, Nat.le_of_ble_eq_true rfl, Nat.le_of_ble_eq_true rfl⟩, by decide +kernel⟩
set_option maxRecDepth 100000 in
theorem q_mk_264 : q_mk 264 := ⟨⟨q_g7 (i := 167) rfl rfl, q_g1 (i := 10) rfl rfl⟩, show _ ∧ _ from ⟨q_g7 (i := 165) rfl rfl, q_g7 (i := 166) rfl rfl⟩, ⟨rfl, Nat.le_of_ble_eq_true rfl, Nat.le_of_ble_eq_true rfl⟩, by decide +kernel⟩
set_option maxRecDepth 100000 in
theorem q_mk_265 : q_mk 265 := ⟨⟨q_g7 (i := 174) rfl rfl, q_g1 (i := 10) rfl rfl⟩, q_g7 (i := 173) rfl rfl, ⟨rfl, Nat.le_of_ble_eq_true rfl, Nat.le_of_ble_eq_true rfl⟩, by decide +kernel⟩
set_option maxRecDepth 100000 in
theorem q_mk_266 : q_mk 266 := ⟨⟨q_g7 (i := 178) rfl rfl, q_g1 (i := 10) rfl rfl⟩, show _ ∧ _ from ⟨q_g7 (i := 177) rfl rfl, q_gp (i := 114) rfl rfl⟩, ⟨rfl, Nat.le_of_ble_eq_true rfl, Nat.le_of_ble_eq_true rfl⟩, by decide +kernel⟩
set_option maxRecDepth 100000 in
theorem q_mk_267 : q_mk 267 := ⟨⟨q_g7 (i := 182) rfl rfl, q_g1 (i := 10) rfl rfl⟩, show _ ∧ _ from ⟨q_g7 (i := 181) rfl rfl, q_gp (i := 115) rfl rfl⟩, ⟨rfl, Nat.le_of_ble_eq_true rfl, Nat.le_of_ble_eq_true rfl⟩, by decide +kernel⟩
set_option maxRecDepth 100000 in
theorem q_mk_268 : q_mk 268 := ⟨⟨q_g7 (i := 171) rfl rfl, q_g1 (i := 10) rfl rfl⟩, show _ ∧ _ from ⟨q_g7 (i := 169) rfl rfl, q_g7 (i := 170) rfl rfl⟩, ⟨rfl, Nat.le_of_ble_eq_true rfl, Nat.le_of_ble_eq_true rfl⟩, by decide +kernel⟩
set_option maxRecDepth 100000 in
theorem q_mk_269 : q_mk 269 := ⟨⟨q_g7 (i := 190) rfl rfl, q_g1 (i := 10) rfl rfl⟩, show _ ∧ _ from ⟨q_g7 (i := 189) rfl rfl, q_gp (i := 116) rfl rfl⟩, ⟨rfl, Nat.le_of_ble_eq_true rfl, Nat.le_of_ble_eq_true rfl⟩, by decide +kernel⟩
set_option maxRecDepth 100000 in
theorem q_mk_270 : q_mk 270 := ⟨⟨q_g7 (i := 186) rfl rfl, q_g1 (i := 10) rfl rfl⟩, show _ ∧ _ from ⟨q_g7 (i := 184) rfl rfl, q_g7 (i := 185) rfl rfl⟩, ⟨rfl, Nat.le_of_ble_eq_true rfl, Nat.le_of_ble_eq_true rfl⟩, by decide +kernel⟩
set_option maxRecDepth 100000 in
theorem q_mk_271 : q_mk 271 := ⟨⟨q_g7 (i := 202) rfl rfl, q_g1 (i := 10) rfl rfl⟩, show _ ∧ _ from ⟨q_g7 (i := 200) rfl rfl, q_g7 (i := 201) rfl rfl⟩, ⟨rfl, Nat.le_of_ble_eq_true rfl, Nat.le_of_ble_eq_true rfl⟩, by decide +kernel⟩
set_option maxRecDepth 100000 in
theorem q_mk_272 : q_mk 272 := ⟨⟨q_g7 (i := 206) rfl rfl, q_g1 (i := 10) rfl rfl⟩, show _ ∧ _ from ⟨q_g7 (i := 204) rfl rfl, q_g7 (i := 205) rfl rfl⟩, ⟨rfl, Nat.le_of_ble_eq_true rfl, Nat.le_of_ble_eq_true rfl⟩, by decide +kernel⟩
set_option maxRecDepth 100000 in
theorem q_mk_273 : q_mk 273 := ⟨⟨q_g7 (i := 214) rfl rfl, q_g1 (i := 10) rfl rfl⟩, show _ ∧ _ from ⟨q_g7 (i := 213) rfl rfl, q_gp (i := 119) rfl rfl⟩, ⟨rfl, Nat.le_of_ble_eq_true rfl, Nat.le_of_ble_eq_true rfl⟩, by decide +kernel⟩
set_option maxRecDepth 100000 in
theorem q_mk_274 : q_mk 274 := ⟨⟨q_g7 (i := 210) rfl rfl, q_g1 (i := 10) rfl rfl⟩, show _ ∧ _ from ⟨q_g7 (i := 208) rfl rfl, q_g7 (i := 209) rfl rfl⟩, ⟨rfl, Nat.le_of_ble_eq_true rfl, Nat.le_of_ble_eq_true rfl⟩, by decide +kernel⟩
set_option maxRecDepth 100000 in
theorem q_mk_275 : q_mk 275 := ⟨⟨q_g7 (i := 218) rfl rfl, q_g1 (i := 10) rfl rfl⟩, show _ ∧ _ from ⟨q_g7 (i := 216) rfl rfl, q_g7 (i := 217) rfl rfl⟩, ⟨rfl, Nat.le_of_ble_eq_true rfl, Nat.le_of_ble_eq_true rfl⟩, by decide +kernel⟩
set_option maxRecDepth 100000 in
theorem q_mk_276 : q_mk 276 := ⟨⟨q_g7 (i := 222) rfl rfl, q_g1 (i := 10) rfl rfl⟩, show _ ∧ _ from ⟨q_g7 (i := 220) rfl rfl, q_g7 (i := 221) rfl rfl⟩, ⟨rfl, Nat.le_of_ble_eq_true rfl, Nat.le_of_ble_eq_true rfl⟩, by decide +kernel⟩
set_option maxRecDepth 100000 in
theorem q_mk_277 : q_mk 277 := ⟨⟨q_g7 (i := 226) rfl rfl, q_g1 (i := 10) rfl rfl⟩, show _ ∧ _ from ⟨q_g7 (i := 224) rfl rfl, q_g7 (i := 225) rfl rfl⟩, ⟨rfl, Nat.le_of_ble_eq_true rfl, Nat.le_of_ble_eq_true rfl⟩, by decide +kernel⟩
set_option maxRecDepth 100000 in
theorem q_mk_278 : q_mk 278 := ⟨⟨q_g7 (i := 234) rfl rfl, q_g1 (i := 10) rfl rfl⟩, show _ ∧ _ from ⟨q_g7 (i := 233) rfl rfl, q_gp (i := 120) rfl rfl⟩, ⟨rfl, Nat.le_of_ble_eq_true rfl, Nat.le_of_ble_eq_true rfl⟩, by decide +kernel⟩
set_option maxRecDepth 100000 in
theorem q_mk_279 : q_mk 279 := ⟨⟨q_g7 (i := 230) rfl rfl, q_g1 (i := 10) rfl rfl⟩, show _ ∧ _ from ⟨q_g7 (i := 228) rfl rfl, q_g7 (i := 229) rfl rfl⟩, ⟨rfl, Nat.le_of_ble_eq_true rfl, Nat.le_of_ble_eq_true rfl⟩, by decide +kernel⟩
set_option maxRecDepth 100000 in
theorem q_mk_280 : q_mk 280 := ⟨⟨q_g7 (i := 238) rfl rfl, q_g1 (i := 10) rfl rfl⟩, show _ ∧ _ from ⟨q_g7 (i := 236) rfl rfl, q_g7 (i := 237) rfl rfl⟩, ⟨rfl, Nat.le_of_ble_eq_true rfl, Nat.le_of_ble_eq_true rfl⟩, by decide +kernel⟩
set_option maxRecDepth 100000 in
theorem q_mk_281 : q_mk 281 := ⟨⟨q_g8 (i := 2) rfl rfl, q_g1 (i := 10) rfl rfl⟩, show _ ∧ _ from ⟨q_g8 (i := 0) rfl rfl, q_g8 (i := 1) rfl rfl⟩, ⟨rfl, Nat.le_of_ble_eq_true rfl, Nat.le_of_ble_eq_true rfl⟩, by decide +kernel⟩
set_option maxRecDepth 100000 in
theorem q_mk_282 : q_mk 282 := ⟨⟨q_g8 (i := 6) rfl rfl, q_g1 (i := 10) rfl rfl⟩, show _ ∧ _ from ⟨q_g8 (i := 4) rfl rfl, q_g8 (i := 5) rfl rfl⟩, ⟨rfl, Nat.le_of_ble_eq_true rfl, Nat.le_of_ble_eq_true rfl⟩, by decide +kernel⟩
set_option maxRecDepth 100000 in
theorem q_mk_283 : q_mk 283 := ⟨⟨q_g8 (i := 10) rfl rfl, q_g1 (i := 10) rfl rfl⟩, show _ ∧ _ from ⟨q_g8 (i := 8) rfl rfl, q_g8 (i := 9) rfl rfl⟩, ⟨rfl, Nat.le_of_ble_eq_true rfl, Nat.le_of_ble_eq_true rfl⟩, by decide +kernel⟩
set_option maxRecDepth 100000 in
theorem q_mk_284 : q_mk 284 := ⟨⟨q_g8 (i := 14) rfl rfl, q_g1 (i := 10) rfl rfl⟩, show _ ∧ _ from ⟨q_g8 (i := 12) rfl rfl, q_g8 (i := 13) rfl rfl⟩, ⟨rfl, Nat.le_of_ble_eq_true rfl, Nat.le_of_ble_eq_true rfl⟩, by decide +kernel⟩
set_option maxRecDepth 100000 in
theorem q_mk_285 : q_mk 285 := ⟨⟨q_g8 (i := 18) rfl rfl, q_g1 (i := 10) rfl rfl⟩, show _ ∧ _ from ⟨q_g8 (i := 16) rfl rfl, q_g8 (i := 17) rfl rfl⟩, ⟨rfl, Nat.le_of_ble_eq_true rfl, Nat.le_of_ble_eq_true rfl⟩, by decide +kernel⟩
set_option maxRecDepth 100000 in
theorem q_mk_286 : q_mk 286 := ⟨⟨q_g8 (i := 22) rfl rfl, q_g1 (i := 10) rfl rfl⟩, show _ ∧ _ from ⟨q_g8 (i := 20) rfl rfl, q_g8 (i := 21) rfl rfl⟩, ⟨rfl, Nat.le_of_ble_eq_true rfl, Nat.le_of_ble_eq_true rfl⟩, by decide +kernel⟩
set_option maxRecDepth 100000 in
theorem q_mk_287 : q_mk 287 := ⟨⟨q_g8 (i := 26) rfl rfl, q_g1 (i := 10) rfl rfl⟩, show _ ∧ _ from ⟨q_g8 (i := 24) rfl rfl, q_g8 (i := 25) rfl rfl⟩, ⟨rfl, Nat.le_of_ble_eq_true rfl, Nat.le_of_ble_eq_true rfl⟩, by decide +kernel⟩
set_option maxRecDepth 100000 in
theorem q_mk_288 : q_mk 288 := ⟨⟨q_g8 (i := 30) rfl rfl, q_g1 (i := 10) rfl rfl⟩, show _ ∧ _ from ⟨q_g8 (i := 28) rfl rfl, q_g8 (i := 29) rfl rfl⟩, ⟨rfl, Nat.le_of_ble_eq_true rfl, Nat.le_of_ble_eq_true rfl⟩, by decide +kernel⟩
set_option maxRecDepth 100000 in
theorem q_mk_289 : q_mk 289 := ⟨⟨q_g8 (i := 34) rfl rfl, q_g1 (i := 10) rfl rfl⟩, show _ ∧ _ from ⟨q_g8 (i := 32) rfl rfl, q_g8 (i := 33) rfl rfl⟩, ⟨rfl, Nat.le_of_ble_eq_true rfl, Nat.le_of_ble_eq_true rfl⟩, by decide +kernel⟩
set_option maxRecDepth 100000 in
theorem q_mk_290 : q_mk 290 := ⟨⟨q_g8 (i := 38) rfl rfl, q_g1 (i := 10) rfl rfl⟩, show _ ∧ _ from ⟨q_g8 (i := 36) rfl rfl, q_g8 (i := 37) rfl rfl⟩, ⟨rfl, Nat.le_of_ble_eq_true rfl, Nat.le_of_ble_eq_true rfl⟩, by decide +kernel⟩
set_option maxRecDepth 100000 in
theorem q_mk_291 : q_mk 291 := ⟨⟨q_g8 (i := 42) rfl rfl, q_g1 (i := 10) rfl rfl⟩, show _ ∧ _ from ⟨q_g8 (i := 40) rfl rfl, q_g8 (i := 41) rfl rfl⟩, ⟨rfl, Nat.le_of_ble_eq_true rfl, Nat.le_of_ble_eq_true rfl⟩, by decide +kernel⟩
set_option maxRecDepth 100000 in
theorem q_mk_292 : q_mk 292 := ⟨⟨q_g8 (i := 46) rfl rfl, q_g1 (i := 10) rfl rfl⟩, show _ ∧ _ from ⟨q_g8 (i := 44) rfl rfl, q_g8 (i := 45) rfl rfl⟩, ⟨rfl, Nat.le_of_ble_eq_true rfl, Nat.le_of_ble_eq_true rfl⟩, by decide +kernel⟩
set_option maxRecDepth 100000 in
theorem q_mk_293 : q_mk 293 := ⟨⟨q_g8 (i := 50) rfl rfl, q_g1 (i := 10) rfl rfl⟩, show _ ∧ _ from ⟨q_g8 (i := 48) rfl rfl, q_g8 (i := 49) rfl rfl⟩, ⟨rfl, Nat.le_of_ble_eq_true rfl, Nat.le_of_ble_eq_true rfl⟩, by decide +kernel⟩
set_option maxRecDepth 100000 in
theorem q_mk_294 : q_mk 294 := ⟨⟨q_g8 (i := 54) rfl rfl, q_g1 (i := 10) rfl rfl⟩, show _ ∧ _ from ⟨q_g8 (i := 52) rfl rfl, q_g8 (i := 53) rfl rfl⟩, ⟨rfl, Nat.le_of_ble_eq_true rfl, Nat.le_of_ble_eq_true rfl⟩, by decide +kernel⟩
set_option maxRecDepth 100000 in
theorem q_mk_295 : q_mk 295 := ⟨⟨q_g8 (i := 62) rfl rfl, q_g1 (i := 10) rfl rfl⟩, show _ ∧ _ from ⟨q_g8 (i := 61) rfl rfl, q_gp (i := 121) rfl rfl⟩, ⟨rfl, Nat.le_of_ble_eq_true rfl, Nat.le_of_ble_eq_true rfl⟩, by decide +kernel⟩
set_option maxRecDepth 100000 in
theorem q_mk_296 : q_mk 296 := ⟨⟨q_g8 (i := 58) rfl rfl, q_g1 (i := 10) rfl rfl⟩, show _ ∧ _ from ⟨q_g8 (i := 56) rfl rfl, q_g8 (i := 57) rfl rfl⟩, ⟨rfl, Nat.le_of_ble_eq_true rfl, Nat.le_of_ble_eq_true rfl⟩, by decide +kernel⟩
set_option maxRecDepth 100000 in
theorem q_mk_297 : q_mk 297 := ⟨⟨q_g8 (i := 70) rfl rfl, q_g1 (i := 10) rfl rfl⟩, show _ ∧ _ from ⟨q_g8 (i := 69) rfl rfl, q_gp (i := 122) rfl rfl⟩, ⟨rfl, Nat.le_of_ble_eq_true rfl, Nat.le_of_ble_eq_true rfl⟩, by decide +kernel⟩
set_option maxRecDepth 100000 in
theorem q_mk_298 : q_mk 298 := ⟨⟨q_g8 (i := 74) rfl rfl, q_g1 (i := 10) rfl rfl⟩, show _ ∧ _ from ⟨q_g8 (i := 73) rfl rfl, q_gp (i := 123) rfl rfl⟩, ⟨rfl, Nat.le_of_ble_eq_true rfl, Nat.le_of_ble_eq_true rfl⟩, by decide +kernel⟩
set_option maxRecDepth 100000 in
theorem q_mk_299 : q_mk 299 := ⟨⟨q_g8 (i := 66) rfl rfl, q_g1 (i := 10) rfl rfl⟩, show _ ∧ _ from ⟨q_g8 (i := 64) rfl rfl, q_g8 (i := 65) rfl rfl⟩, ⟨rfl, Nat.le_of_ble_eq_true rfl, Nat.le_of_ble_eq_true rfl⟩, by decide +kernel⟩
set_option maxRecDepth 100000 in
theorem q_mk_300 : q_mk 300 := ⟨⟨q_g8 (i := 78) rfl rfl, q_g1 (i := 10) rfl rfl⟩, show _ ∧ _ from ⟨q_g8 (i := 76) rfl rfl, q_g8 (i := 77) rfl rfl⟩, ⟨rfl, Nat.le_of_ble_eq_true rfl, Nat.le_of_ble_eq_true rfl⟩, by decide +kernel⟩
set_option maxRecDepth 100000 in
theorem q_mk_301 : q_mk 301 := ⟨⟨q_g8 (i := 82) rfl rfl, q_g1 (i := 10) rfl rfl⟩, show _ ∧ _ from ⟨q_g8 (i := 80) rfl rfl, q_g8 (i := 81) rfl rfl⟩, ⟨rfl, Nat.le_of_ble_eq_true rfl, Nat.le_of_ble_eq_true rfl⟩, by decide +kernel⟩
set_option maxRecDepth 100000 in
theorem q_mk_302 : q_mk 302 := ⟨⟨q_g8 (i := 86) rfl rfl, q_g1 (i := 10) rfl rfl⟩, show _ ∧ _ from ⟨q_g8 (i := 84) rfl rfl, q_g8 (i := 85) rfl rfl⟩, ⟨rfl, Nat.le_of_ble_eq_true rfl, Nat.le_of_ble_eq_true rfl⟩, by decide +kernel⟩
set_option maxRecDepth 100000 in
theorem q_mk_303 : q_mk 303 := ⟨⟨q_g8 (i := 94) rfl rfl, q_g1 (i := 10) rfl rfl⟩, show _ ∧ _ from ⟨q_g8 (i := 93) rfl rfl, q_gp (i := 124) rfl rfl⟩, ⟨rfl, Nat.le_of_ble_eq_true rfl, Nat.le_of_ble_eq_true rfl⟩, by decide +kernel⟩
set_option maxRecDepth 100000 in
theorem q_mk_304 : q_mk 304 := ⟨⟨q_g8 (i := 90) rfl rfl, q_g1 (i := 10) rfl rfl⟩, show _ ∧ _ from ⟨q_g8 (i := 88) rfl rfl, q_g8 (i := 89) rfl rfl⟩, ⟨rfl, Nat.le_of_ble_eq_true rfl, Nat.le_of_ble_eq_true rfl⟩, by decide +kernel⟩
set_option maxRecDepth 100000 in
theorem q_mk_305 : q_mk 305 := ⟨⟨q_g8 (i := 102) rfl rfl, q_g1 (i := 10) rfl rfl⟩, show _ ∧ _ from ⟨q_g8 (i := 101) rfl rfl, q_gp (i := 125) rfl rfl⟩, ⟨rfl, Nat.le_of_ble_eq_true rfl, Nat.le_of_ble_eq_true rfl⟩, by decide +kernel⟩
set_option maxRecDepth 100000 in
theorem q_mk_306 : q_mk 306 := ⟨⟨q_g8 (i := 98) rfl rfl, q_g1 (i := 10) rfl rfl⟩, show _ ∧ _ from ⟨q_g8 (i := 96) rfl rfl, q_g8 (i := 97) rfl rfl⟩, ⟨rfl, Nat.le_of_ble_eq_true rfl, Nat.le_of_ble_eq_true rfl⟩, by decide +kernel⟩
set_option maxRecDepth 100000 in
theorem q_mk_307 : q_mk 307 := ⟨⟨q_g8 (i := 106) rfl rfl, q_g1 (i := 10) rfl rfl⟩, show _ ∧ _ from ⟨q_g8 (i := 104) rfl rfl, q_g8 (i := 105) rfl rfl⟩, ⟨rfl, Nat.le_of_ble_eq_true rfl, Nat.le_of_ble_eq_true rfl⟩, by decide +kernel⟩
set_option maxRecDepth 100000 in
theorem q_mk_308 : q_mk 308 := ⟨⟨q_g8 (i := 110) rfl rfl, q_g1 (i := 10) rfl rfl⟩, show _ ∧ _ from ⟨q_g8 (i := 108) rfl rfl, q_g8 (i := 109) rfl rfl⟩, ⟨rfl, Nat.le_of_ble_eq_true rfl, Nat.le_of_ble_eq_true rfl⟩, by decide +kernel⟩
set_option maxRecDepth 100000 in
theorem q_mk_309 : q_mk 309 := ⟨⟨q_g8 (i := 114) rfl rfl, q_g1 (i := 10) rfl rfl⟩, show _ ∧ _ from ⟨q_g8 (i := 112) rfl rfl, q_g8 (i := 113) rfl rfl⟩, ⟨rfl, Nat.le_of_ble_eq_true rfl, Nat.le_of_ble_eq_true rfl⟩, by decide +kernel⟩
theorem q_mk_all : ∀ m, 1 ≤ m → m < 310 → q_mk m := by
  intro m h1 h2
  rcases Nat.lt_or_ge m 33 with q | q
  · rcases Nat.eq_or_lt_of_le (show 1 ≤ m by omega) with e | e
    · exact e ▸ q_mk_1
    rcases Nat.eq_or_lt_of_le (show 2 ≤ m by omega) with e | e
    · exact e ▸ q_mk_2
    rcases Nat.eq_or_lt_of_le (show 3 ≤ m by omega) with e | e
    · exact e ▸ q_mk_3
    rcases Nat.eq_or_lt_of_le (show 4 ≤ m by omega) with e | e
    · exact e ▸ q_mk_4
    rcases Nat.eq_or_lt_of_le (show 5 ≤ m by omega) with e | e
    · exact e ▸ q_mk_5
    rcases Nat.eq_or_lt_of_le (show 6 ≤ m by omega) with e | e
    · exact e ▸ q_mk_6
    rcases Nat.eq_or_lt_of_le (show 7 ≤ m by omega) with e | e
    · exact e ▸ q_mk_7
    rcases Nat.eq_or_lt_of_le (show 8 ≤ m by omega) with e | e
    · exact e ▸ q_mk_8
    rcases Nat.eq_or_lt_of_le (show 9 ≤ m by omega) with e | e
    · exact e ▸ q_mk_9
    rcases Nat.eq_or_lt_of_le (show 10 ≤ m by omega) with e | e
    · exact e ▸ q_mk_10
    rcases Nat.eq_or_lt_of_le (show 11 ≤ m by omega) with e | e
    · exact e ▸ q_mk_11
    rcases Nat.eq_or_lt_of_le (show 12 ≤ m by omega) with e | e
    · exact e ▸ q_mk_12
    rcases Nat.eq_or_lt_of_le (show 13 ≤ m by omega) with e | e
    · exact e ▸ q_mk_13
    rcases Nat.eq_or_lt_of_le (show 14 ≤ m by omega) with e | e
    · exact e ▸ q_mk_14
    rcases Nat.eq_or_lt_of_le (show 15 ≤ m by omega) with e | e
    · exact e ▸ q_mk_15
    rcases Nat.eq_or_lt_of_le (show 16 ≤ m by omega) with e | e
    · exact e ▸ q_mk_16
    rcases Nat.eq_or_lt_of_le (show 17 ≤ m by omega) with e | e
    · exact e ▸ q_mk_17
    rcases Nat.eq_or_lt_of_le (show 18 ≤ m by omega) with e | e
    · exact e ▸ q_mk_18
    rcases Nat.eq_or_lt_of_le (show 19 ≤ m by omega) with e | e
    · exact e ▸ q_mk_19
    rcases Nat.eq_or_lt_of_le (show 20 ≤ m by omega) with e | e
    · exact e ▸ q_mk_20
    rcases Nat.eq_or_lt_of_le (show 21 ≤ m by omega) with e | e
    · exact e ▸ q_mk_21
    rcases Nat.eq_or_lt_of_le (show 22 ≤ m by omega) with e | e
    · exact e ▸ q_mk_22
    rcases Nat.eq_or_lt_of_le (show 23 ≤ m by omega) with e | e
    · exact e ▸ q_mk_23
    rcases Nat.eq_or_lt_of_le (show 24 ≤ m by omega) with e | e
    · exact e ▸ q_mk_24
    rcases Nat.eq_or_lt_of_le (show 25 ≤ m by omega) with e | e
    · exact e ▸ q_mk_25
    rcases Nat.eq_or_lt_of_le (show 26 ≤ m by omega) with e | e
    · exact e ▸ q_mk_26
    rcases Nat.eq_or_lt_of_le (show 27 ≤ m by omega) with e | e
    · exact e ▸ q_mk_27
    rcases Nat.eq_or_lt_of_le (show 28 ≤ m by omega) with e | e
    · exact e ▸ q_mk_28
    rcases Nat.eq_or_lt_of_le (show 29 ≤ m by omega) with e | e
    · exact e ▸ q_mk_29
    rcases Nat.eq_or_lt_of_le (show 30 ≤ m by omega) with e | e
    · exact e ▸ q_mk_30
    rcases Nat.eq_or_lt_of_le (show 31 ≤ m by omega) with e | e
    · exact e ▸ q_mk_31
    rcases Nat.eq_or_lt_of_le (show 32 ≤ m by omega) with e | e
    · exact e ▸ q_mk_32
    exact absurd q (by omega)
  rcases Nat.lt_or_ge m 65 with q | q
  · rcases Nat.eq_or_lt_of_le (show 33 ≤ m by omega) with e | e
    · exact e ▸ q_mk_33
    rcases Nat.eq_or_lt_of_le (show 34 ≤ m by omega) with e | e
    · exact e ▸ q_mk_34
    rcases Nat.eq_or_lt_of_le (show 35 ≤ m by omega) with e | e
    · exact e ▸ q_mk_35
    rcases Nat.eq_or_lt_of_le (show 36 ≤ m by omega) with e | e
    · exact e ▸ q_mk_36
    rcases Nat.eq_or_lt_of_le (show 37 ≤ m by omega) with e | e
    · exact e ▸ q_mk_37
    rcases Nat.eq_or_lt_of_le (show 38 ≤ m by omega) with e | e
    · exact e ▸ q_mk_38
    rcases Nat.eq_or_lt_of_le (show 39 ≤ m by omega) with e | e
    · exact e ▸ q_mk_39
    rcases Nat.eq_or_lt_of_le (show 40 ≤ m by omega) with e | e
    · exact e ▸ q_mk_40
    rcases Nat.eq_or_lt_of_le (show 41 ≤ m by omega) with e | e
    · exact e ▸ q_mk_41
    rcases Nat.eq_or_lt_of_le (show 42 ≤ m by omega) with e | e
    · exact e ▸ q_mk_42
    rcases Nat.eq_or_lt_of_le (show 43 ≤ m by omega) with e | e
    · exact e ▸ q_mk_43
    rcases Nat.eq_or_lt_of_le (show 44 ≤ m by omega) with e | e
    · exact e ▸ q_mk_44
    rcases Nat.eq_or_lt_of_le (show 45 ≤ m by omega) with e | e
    · exact e ▸ q_mk_45
    rcases Nat.eq_or_lt_of_le (show 46 ≤ m by omega) with e | e
    · exact e ▸ q_mk_46
    rcases Nat.eq_or_lt_of_le (show 47 ≤ m by omega) with e | e
    · exact e ▸ q_mk_47
    rcases Nat.eq_or_lt_of_le (show 48 ≤ m by omega) with e | e
    · exact e ▸ q_mk_48
    rcases Nat.eq_or_lt_of_le (show 49 ≤ m by omega) with e | e
    · exact e ▸ q_mk_49
    rcases Nat.eq_or_lt_of_le (show 50 ≤ m by omega) with e | e
    · exact e ▸ q_mk_50
    rcases Nat.eq_or_lt_of_le (show 51 ≤ m by omega) with e | e
    · exact e ▸ q_mk_51
    rcases Nat.eq_or_lt_of_le (show 52 ≤ m by omega) with e | e
    · exact e ▸ q_mk_52
    rcases Nat.eq_or_lt_of_le (show 53 ≤ m by omega) with e | e
    · exact e ▸ q_mk_53
    rcases Nat.eq_or_lt_of_le (show 54 ≤ m by omega) with e | e
    · exact e ▸ q_mk_54
    rcases Nat.eq_or_lt_of_le (show 55 ≤ m by omega) with e | e
    · exact e ▸ q_mk_55
    rcases Nat.eq_or_lt_of_le (show 56 ≤ m by omega) with e | e
    · exact e ▸ q_mk_56
    rcases Nat.eq_or_lt_of_le (show 57 ≤ m by omega) with e | e
    · exact e ▸ q_mk_57
    rcases Nat.eq_or_lt_of_le (show 58 ≤ m by omega) with e | e
    · exact e ▸ q_mk_58
    rcases Nat.eq_or_lt_of_le (show 59 ≤ m by omega) with e | e
    · exact e ▸ q_mk_59
    rcases Nat.eq_or_lt_of_le (show 60 ≤ m by omega) with e | e
    · exact e ▸ q_mk_60
    rcases Nat.eq_or_lt_of_le (show 61 ≤ m by omega) with e | e
    · exact e ▸ q_mk_61
    rcases Nat.eq_or_lt_of_le (show 62 ≤ m by omega) with e | e
    · exact e ▸ q_mk_62
    rcases Nat.eq_or_lt_of_le (show 63 ≤ m by omega) with e | e
    · exact e ▸ q_mk_63
    rcases Nat.eq_or_lt_of_le (show 64 ≤ m by omega) with e | e
    · exact e ▸ q_mk_64
    exact absurd q (by omega)
  rcases Nat.lt_or_ge m 97 with q | q
  · rcases Nat.eq_or_lt_of_le (show 65 ≤ m by omega) with e | e
    · exact e ▸ q_mk_65
    rcases Nat.eq_or_lt_of_le (show 66 ≤ m by omega) with e | e
    · exact e ▸ q_mk_66
    rcases Nat.eq_or_lt_of_le (show 67 ≤ m by omega) with e | e
    · exact e ▸ q_mk_67
    rcases Nat.eq_or_lt_of_le (show 68 ≤ m by omega) with e | e
    · exact e ▸ q_mk_68
    rcases Nat.eq_or_lt_of_le (show 69 ≤ m by omega) with e | e
    · exact e ▸ q_mk_69
    rcases Nat.eq_or_lt_of_le (show 70 ≤ m by omega) with e | e
    · exact e ▸ q_mk_70
    rcases Nat.eq_or_lt_of_le (show 71 ≤ m by omega) with e | e
    · exact e ▸ q_mk_71
    rcases Nat.eq_or_lt_of_le (show 72 ≤ m by omega) with e | e
    · exact e ▸ q_mk_72
    rcases Nat.eq_or_lt_of_le (show 73 ≤ m by omega) with e | e
    · exact e ▸ q_mk_73
    rcases Nat.eq_or_lt_of_le (show 74 ≤ m by omega) with e | e
    · exact e ▸ q_mk_74
    rcases Nat.eq_or_lt_of_le (show 75 ≤ m by omega) with e | e
    · exact e ▸ q_mk_75
    rcases Nat.eq_or_lt_of_le (show 76 ≤ m by omega) with e | e
    · exact e ▸ q_mk_76
    rcases Nat.eq_or_lt_of_le (show 77 ≤ m by omega) with e | e
    · exact e ▸ q_mk_77
    rcases Nat.eq_or_lt_of_le (show 78 ≤ m by omega) with e | e
    · exact e ▸ q_mk_78
    rcases Nat.eq_or_lt_of_le (show 79 ≤ m by omega) with e | e
    · exact e ▸ q_mk_79
    rcases Nat.eq_or_lt_of_le (show 80 ≤ m by omega) with e | e
    · exact e ▸ q_mk_80
    rcases Nat.eq_or_lt_of_le (show 81 ≤ m by omega) with e | e
    · exact e ▸ q_mk_81
    rcases Nat.eq_or_lt_of_le (show 82 ≤ m by omega) with e | e
    · exact e ▸ q_mk_82
    rcases Nat.eq_or_lt_of_le (show 83 ≤ m by omega) with e | e
    · exact e ▸ q_mk_83
    rcases Nat.eq_or_lt_of_le (show 84 ≤ m by omega) with e | e
    · exact e ▸ q_mk_84
    rcases Nat.eq_or_lt_of_le (show 85 ≤ m by omega) with e | e
    · exact e ▸ q_mk_85
    rcases Nat.eq_or_lt_of_le (show 86 ≤ m by omega) with e | e
    · exact e ▸ q_mk_86
    rcases Nat.eq_or_lt_of_le (show 87 ≤ m by omega) with e | e
    · exact e ▸ q_mk_87
    rcases Nat.eq_or_lt_of_le (show 88 ≤ m by omega) with e | e
    · exact e ▸ q_mk_88
    rcases Nat.eq_or_lt_of_le (show 89 ≤ m by omega) with e | e
    · exact e ▸ q_mk_89
    rcases Nat.eq_or_lt_of_le (show 90 ≤ m by omega) with e | e
    · exact e ▸ q_mk_90
    rcases Nat.eq_or_lt_of_le (show 91 ≤ m by omega) with e | e
    · exact e ▸ q_mk_91
    rcases Nat.eq_or_lt_of_le (show 92 ≤ m by omega) with e | e
    · exact e ▸ q_mk_92
    rcases Nat.eq_or_lt_of_le (show 93 ≤ m by omega) with e | e
    · exact e ▸ q_mk_93
    rcases Nat.eq_or_lt_of_le (show 94 ≤ m by omega) with e | e
    · exact e ▸ q_mk_94
    rcases Nat.eq_or_lt_of_le (show 95 ≤ m by omega) with e | e
    · exact e ▸ q_mk_95
    rcases Nat.eq_or_lt_of_le (show 96 ≤ m by omega) with e | e
    · exact e ▸ q_mk_96
    exact absurd q (by omega)
  rcases Nat.lt_or_ge m 129 with q | q
  · rcases Nat.eq_or_lt_of_le (show 97 ≤ m by omega) with e | e
    · exact e ▸ q_mk_97
    rcases Nat.eq_or_lt_of_le (show 98 ≤ m by omega) with e | e
    · exact e ▸ q_mk_98
    rcases Nat.eq_or_lt_of_le (show 99 ≤ m by omega) with e | e
    · exact e ▸ q_mk_99
    rcases Nat.eq_or_lt_of_le (show 100 ≤ m by omega) with e | e
    · exact e ▸ q_mk_100
    rcases Nat.eq_or_lt_of_le (show 101 ≤ m by omega) with e | e
    · exact e ▸ q_mk_101
    rcases Nat.eq_or_lt_of_le (show 102 ≤ m by omega) with e | e
    · exact e ▸ q_mk_102
    rcases Nat.eq_or_lt_of_le (show 103 ≤ m by omega) with e | e
    · exact e ▸ q_mk_103
    rcases Nat.eq_or_lt_of_le (show 104 ≤ m by omega) with e | e
    · exact e ▸ q_mk_104
    rcases Nat.eq_or_lt_of_le (show 105 ≤ m by omega) with e | e
    · exact e ▸ q_mk_105
    rcases Nat.eq_or_lt_of_le (show 106 ≤ m by omega) with e | e
    · exact e ▸ q_mk_106
    rcases Nat.eq_or_lt_of_le (show 107 ≤ m by omega) with e | e
    · exact e ▸ q_mk_107
    rcases Nat.eq_or_lt_of_le (show 108 ≤ m by omega) with e | e
    · exact e ▸ q_mk_108
    rcases Nat.eq_or_lt_of_le (show 109 ≤ m by omega) with e | e
    · exact e ▸ q_mk_109
    rcases Nat.eq_or_lt_of_le (show 110 ≤ m by omega) with e | e
    · exact e ▸ q_mk_110
    rcases Nat.eq_or_lt_of_le (show 111 ≤ m by omega) with e | e
    · exact e ▸ q_mk_111
    rcases Nat.eq_or_lt_of_le (show 112 ≤ m by omega) with e | e
    · exact e ▸ q_mk_112
    rcases Nat.eq_or_lt_of_le (show 113 ≤ m by omega) with e | e
    · exact e ▸ q_mk_113
    rcases Nat.eq_or_lt_of_le (show 114 ≤ m by omega) with e | e
    · exact e ▸ q_mk_114
    rcases Nat.eq_or_lt_of_le (show 115 ≤ m by omega) with e | e
    · exact e ▸ q_mk_115
    rcases Nat.eq_or_lt_of_le (show 116 ≤ m by omega) with e | e
    · exact e ▸ q_mk_116
    rcases Nat.eq_or_lt_of_le (show 117 ≤ m by omega) with e | e
    · exact e ▸ q_mk_117
    rcases Nat.eq_or_lt_of_le (show 118 ≤ m by omega) with e | e
    · exact e ▸ q_mk_118
    rcases Nat.eq_or_lt_of_le (show 119 ≤ m by omega) with e | e
    · exact e ▸ q_mk_119
    rcases Nat.eq_or_lt_of_le (show 120 ≤ m by omega) with e | e
    · exact e ▸ q_mk_120
    rcases Nat.eq_or_lt_of_le (show 121 ≤ m by omega) with e | e
    · exact e ▸ q_mk_121
    rcases Nat.eq_or_lt_of_le (show 122 ≤ m by omega) with e | e
    · exact e ▸ q_mk_122
    rcases Nat.eq_or_lt_of_le (show 123 ≤ m by omega) with e | e
    · exact e ▸ q_mk_123
    rcases Nat.eq_or_lt_of_le (show 124 ≤ m by omega) with e | e
    · exact e ▸ q_mk_124
    rcases Nat.eq_or_lt_of_le (show 125 ≤ m by omega) with e | e
    · exact e ▸ q_mk_125
    rcases Nat.eq_or_lt_of_le (show 126 ≤ m by omega) with e | e
    · exact e ▸ q_mk_126
    rcases Nat.eq_or_lt_of_le (show 127 ≤ m by omega) with e | e
    · exact e ▸ q_mk_127
    rcases Nat.eq_or_lt_of_le (show 128 ≤ m by omega) with e | e
    · exact e ▸ q_mk_128
    exact absurd q (by omega)
  rcases Nat.lt_or_ge m 161 with q | q
  · rcases Nat.eq_or_lt_of_le (show 129 ≤ m by omega) with e | e
    · exact e ▸ q_mk_129
    rcases Nat.eq_or_lt_of_le (show 130 ≤ m by omega) with e | e
    · exact e ▸ q_mk_130
    rcases Nat.eq_or_lt_of_le (show 131 ≤ m by omega) with e | e
    · exact e ▸ q_mk_131
    rcases Nat.eq_or_lt_of_le (show 132 ≤ m by omega) with e | e
    · exact e ▸ q_mk_132
    rcases Nat.eq_or_lt_of_le (show 133 ≤ m by omega) with e | e
    · exact e ▸ q_mk_133
    rcases Nat.eq_or_lt_of_le (show 134 ≤ m by omega) with e | e
    · exact e ▸ q_mk_134
    rcases Nat.eq_or_lt_of_le (show 135 ≤ m by omega) with e | e
    · exact e ▸ q_mk_135
    rcases Nat.eq_or_lt_of_le (show 136 ≤ m by omega) with e | e
    · exact e ▸ q_mk_136
    rcases Nat.eq_or_lt_of_le (show 137 ≤ m by omega) with e | e
    · exact e ▸ q_mk_137
    rcases Nat.eq_or_lt_of_le (show 138 ≤ m by omega) with e | e
    · exact e ▸ q_mk_138
    rcases Nat.eq_or_lt_of_le (show 139 ≤ m by omega) with e | e
    · exact e ▸ q_mk_139
    rcases Nat.eq_or_lt_of_le (show 140 ≤ m by omega) with e | e
    · exact e ▸ q_mk_140
    rcases Nat.eq_or_lt_of_le (show 141 ≤ m by omega) with e | e
    · exact e ▸ q_mk_141
    rcases Nat.eq_or_lt_of_le (show 142 ≤ m by omega) with e | e
    · exact e ▸ q_mk_142
    rcases Nat.eq_or_lt_of_le (show 143 ≤ m by omega) with e | e
    · exact e ▸ q_mk_143
    rcases Nat.eq_or_lt_of_le (show 144 ≤ m by omega) with e | e
    · exact e ▸ q_mk_144
    rcases Nat.eq_or_lt_of_le (show 145 ≤ m by omega) with e | e
    · exact e ▸ q_mk_145
    rcases Nat.eq_or_lt_of_le (show 146 ≤ m by omega) with e | e
    · exact e ▸ q_mk_146
    rcases Nat.eq_or_lt_of_le (show 147 ≤ m by omega) with e | e
    · exact e ▸ q_mk_147
    rcases Nat.eq_or_lt_of_le (show 148 ≤ m by omega) with e | e
    · exact e ▸ q_mk_148
    rcases Nat.eq_or_lt_of_le (show 149 ≤ m by omega) with e | e
    · exact e ▸ q_mk_149
    rcases Nat.eq_or_lt_of_le (show 150 ≤ m by omega) with e | e
    · exact e ▸ q_mk_150
    rcases Nat.eq_or_lt_of_le (show 151 ≤ m by omega) with e | e
    · exact e ▸ q_mk_151
    rcases Nat.eq_or_lt_of_le (show 152 ≤ m by omega) with e | e
    · exact e ▸ q_mk_152
    rcases Nat.eq_or_lt_of_le (show 153 ≤ m by omega) with e | e
    · exact e ▸ q_mk_153
    rcases Nat.eq_or_lt_of_le (show 154 ≤ m by omega) with e | e
    · exact e ▸ q_mk_154
    rcases Nat.eq_or_lt_of_le (show 155 ≤ m by omega) with e | e
    · exact e ▸ q_mk_155
    rcases Nat.eq_or_lt_of_le (show 156 ≤ m by omega) with e | e
    · exact e ▸ q_mk_156
    rcases Nat.eq_or_lt_of_le (show 157 ≤ m by omega) with e | e
    · exact e ▸ q_mk_157
    rcases Nat.eq_or_lt_of_le (show 158 ≤ m by omega) with e | e
    · exact e ▸ q_mk_158
    rcases Nat.eq_or_lt_of_le (show 159 ≤ m by omega) with e | e
    · exact e ▸ q_mk_159
    rcases Nat.eq_or_lt_of_le (show 160 ≤ m by omega) with e | e
    · exact e ▸ q_mk_160
    exact absurd q (by omega)
  rcases Nat.lt_or_ge m 193 with q | q
  · rcases Nat.eq_or_lt_of_le (show 161 ≤ m by omega) with e | e
    · exact e ▸ q_mk_161
    rcases Nat.eq_or_lt_of_le (show 162 ≤ m by omega) with e | e
    · exact e ▸ q_mk_162
    rcases Nat.eq_or_lt_of_le (show 163 ≤ m by omega) with e | e
    · exact e ▸ q_mk_163
    rcases Nat.eq_or_lt_of_le (show 164 ≤ m by omega) with e | e
    · exact e ▸ q_mk_164
    rcases Nat.eq_or_lt_of_le (show 165 ≤ m by omega) with e | e
    · exact e ▸ q_mk_165
    rcases Nat.eq_or_lt_of_le (show 166 ≤ m by omega) with e | e
    · exact e ▸ q_mk_166
    rcases Nat.eq_or_lt_of_le (show 167 ≤ m by omega) with e | e
    · exact e ▸ q_mk_167
    rcases Nat.eq_or_lt_of_le (show 168 ≤ m by omega) with e | e
    · exact e ▸ q_mk_168
    rcases Nat.eq_or_lt_of_le (show 169 ≤ m by omega) with e | e
    · exact e ▸ q_mk_169
    rcases Nat.eq_or_lt_of_le (show 170 ≤ m by omega) with e | e
    · exact e ▸ q_mk_170
    rcases Nat.eq_or_lt_of_le (show 171 ≤ m by omega) with e | e
    · exact e ▸ q_mk_171
    rcases Nat.eq_or_lt_of_le (show 172 ≤ m by omega) with e | e
    · exact e ▸ q_mk_172
    rcases Nat.eq_or_lt_of_le (show 173 ≤ m by omega) with e | e
    · exact e ▸ q_mk_173
    rcases Nat.eq_or_lt_of_le (show 174 ≤ m by omega) with e | e
    · exact e ▸ q_mk_174
    rcases Nat.eq_or_lt_of_le (show 175 ≤ m by omega) with e | e
    · exact e ▸ q_mk_175
    rcases Nat.eq_or_lt_of_le (show 176 ≤ m by omega) with e | e
    · exact e ▸ q_mk_176
    rcases Nat.eq_or_lt_of_le (show 177 ≤ m by omega) with e | e
    · exact e ▸ q_mk_177
    rcases Nat.eq_or_lt_of_le (show 178 ≤ m by omega) with e | e
    · exact e ▸ q_mk_178
    rcases Nat.eq_or_lt_of_le (show 179 ≤ m by omega) with e | e
    · exact e ▸ q_mk_179
    rcases Nat.eq_or_lt_of_le (show 180 ≤ m by omega) with e | e
    · exact e ▸ q_mk_180
    rcases Nat.eq_or_lt_of_le (show 181 ≤ m by omega) with e | e
    · exact e ▸ q_mk_181
    rcases Nat.eq_or_lt_of_le (show 182 ≤ m by omega) with e | e
    · exact e ▸ q_mk_182
    rcases Nat.eq_or_lt_of_le (show 183 ≤ m by omega) with e | e
    · exact e ▸ q_mk_183
    rcases Nat.eq_or_lt_of_le (show 184 ≤ m by omega) with e | e
    · exact e ▸ q_mk_184
    rcases Nat.eq_or_lt_of_le (show 185 ≤ m by omega) with e | e
    · exact e ▸ q_mk_185
    rcases Nat.eq_or_lt_of_le (show 186 ≤ m by omega) with e | e
    · exact e ▸ q_mk_186
    rcases Nat.eq_or_lt_of_le (show 187 ≤ m by omega) with e | e
    · exact e ▸ q_mk_187
    rcases Nat.eq_or_lt_of_le (show 188 ≤ m by omega) with e | e
    · exact e ▸ q_mk_188
    rcases Nat.eq_or_lt_of_le (show 189 ≤ m by omega) with e | e
    · exact e ▸ q_mk_189
    rcases Nat.eq_or_lt_of_le (show 190 ≤ m by omega) with e | e
    · exact e ▸ q_mk_190
    rcases Nat.eq_or_lt_of_le (show 191 ≤ m by omega) with e | e
    · exact e ▸ q_mk_191
    rcases Nat.eq_or_lt_of_le (show 192 ≤ m by omega) with e | e
    · exact e ▸ q_mk_192
    exact absurd q (by omega)
  rcases Nat.lt_or_ge m 225 with q | q
  · rcases Nat.eq_or_lt_of_le (show 193 ≤ m by omega) with e | e
    · exact e ▸ q_mk_193
    rcases Nat.eq_or_lt_of_le (show 194 ≤ m by omega) with e | e
    · exact e ▸ q_mk_194
    rcases Nat.eq_or_lt_of_le (show 195 ≤ m by omega) with e | e
    · exact e ▸ q_mk_195
    rcases Nat.eq_or_lt_of_le (show 196 ≤ m by omega) with e | e
    · exact e ▸ q_mk_196
    rcases Nat.eq_or_lt_of_le (show 197 ≤ m by omega) with e | e
    · exact e ▸ q_mk_197
    rcases Nat.eq_or_lt_of_le (show 198 ≤ m by omega) with e | e
    · exact e ▸ q_mk_198
    rcases Nat.eq_or_lt_of_le (show 199 ≤ m by omega) with e | e
    · exact e ▸ q_mk_199
    rcases Nat.eq_or_lt_of_le (show 200 ≤ m by omega) with e | e
    · exact e ▸ q_mk_200
    rcases Nat.eq_or_lt_of_le (show 201 ≤ m by omega) with e | e
    · exact e ▸ q_mk_201
    rcases Nat.eq_or_lt_of_le (show 202 ≤ m by omega) with e | e
    · exact e ▸ q_mk_202
    rcases Nat.eq_or_lt_of_le (show 203 ≤ m by omega) with e | e
    · exact e ▸ q_mk_203
    rcases Nat.eq_or_lt_of_le (show 204 ≤ m by omega) with e | e
    · exact e ▸ q_mk_204
    rcases Nat.eq_or_lt_of_le (show 205 ≤ m by omega) with e | e
    · exact e ▸ q_mk_205
    rcases Nat.eq_or_lt_of_le (show 206 ≤ m by omega) with e | e
    · exact e ▸ q_mk_206
    rcases Nat.eq_or_lt_of_le (show 207 ≤ m by omega) with e | e
    · exact e ▸ q_mk_207
    rcases Nat.eq_or_lt_of_le (show 208 ≤ m by omega) with e | e
    · exact e ▸ q_mk_208
    rcases Nat.eq_or_lt_of_le (show 209 ≤ m by omega) with e | e
    · exact e ▸ q_mk_209
    rcases Nat.eq_or_lt_of_le (show 210 ≤ m by omega) with e | e
    · exact e ▸ q_mk_210
    rcases Nat.eq_or_lt_of_le (show 211 ≤ m by omega) with e | e
    · exact e ▸ q_mk_211
    rcases Nat.eq_or_lt_of_le (show 212 ≤ m by omega) with e | e
    · exact e ▸ q_mk_212
    rcases Nat.eq_or_lt_of_le (show 213 ≤ m by omega) with e | e
    · exact e ▸ q_mk_213
    rcases Nat.eq_or_lt_of_le (show 214 ≤ m by omega) with e | e
    · exact e ▸ q_mk_214
    rcases Nat.eq_or_lt_of_le (show 215 ≤ m by omega) with e | e
    · exact e ▸ q_mk_215
    rcases Nat.eq_or_lt_of_le (show 216 ≤ m by omega) with e | e
    · exact e ▸ q_mk_216
    rcases Nat.eq_or_lt_of_le (show 217 ≤ m by omega) with e | e
    · exact e ▸ q_mk_217
    rcases Nat.eq_or_lt_of_le (show 218 ≤ m by omega) with e | e
    · exact e ▸ q_mk_218
    rcases Nat.eq_or_lt_of_le (show 219 ≤ m by omega) with e | e
    · exact e ▸ q_mk_219
    rcases Nat.eq_or_lt_of_le (show 220 ≤ m by omega) with e | e
    · exact e ▸ q_mk_220
    rcases Nat.eq_or_lt_of_le (show 221 ≤ m by omega) with e | e
    · exact e ▸ q_mk_221
    rcases Nat.eq_or_lt_of_le (show 222 ≤ m by omega) with e | e
    · exact e ▸ q_mk_222
    rcases Nat.eq_or_lt_of_le (show 223 ≤ m by omega) with e | e
    · exact e ▸ q_mk_223
    rcases Nat.eq_or_lt_of_le (show 224 ≤ m by omega) with e | e
    · exact e ▸ q_mk_224
    exact absurd q (by omega)
  rcases Nat.lt_or_ge m 257 with q | q
  · rcases Nat.eq_or_lt_of_le (show 225 ≤ m by omega) with e | e
    · exact e ▸ q_mk_225
    rcases Nat.eq_or_lt_of_le (show 226 ≤ m by omega) with e | e
    · exact e ▸ q_mk_226
    rcases Nat.eq_or_lt_of_le (show 227 ≤ m by omega) with e | e
    · exact e ▸ q_mk_227
    rcases Nat.eq_or_lt_of_le (show 228 ≤ m by omega) with e | e
    · exact e ▸ q_mk_228
    rcases Nat.eq_or_lt_of_le (show 229 ≤ m by omega) with e | e
    · exact e ▸ q_mk_229
    rcases Nat.eq_or_lt_of_le (show 230 ≤ m by omega) with e | e
    · exact e ▸ q_mk_230
    rcases Nat.eq_or_lt_of_le (show 231 ≤ m by omega) with e | e
    · exact e ▸ q_mk_231
    rcases Nat.eq_or_lt_of_le (show 232 ≤ m by omega) with e | e
    · exact e ▸ q_mk_232
    rcases Nat.eq_or_lt_of_le (show 233 ≤ m by omega) with e | e
    · exact e ▸ q_mk_233
    rcases Nat.eq_or_lt_of_le (show 234 ≤ m by omega) with e | e
    · exact e ▸ q_mk_234
    rcases Nat.eq_or_lt_of_le (show 235 ≤ m by omega) with e | e
    · exact e ▸ q_mk_235
    rcases Nat.eq_or_lt_of_le (show 236 ≤ m by omega) with e | e
    · exact e ▸ q_mk_236
    rcases Nat.eq_or_lt_of_le (show 237 ≤ m by omega) with e | e
    · exact e ▸ q_mk_237
    rcases Nat.eq_or_lt_of_le (show 238 ≤ m by omega) with e | e
    · exact e ▸ q_mk_238
    rcases Nat.eq_or_lt_of_le (show 239 ≤ m by omega) with e | e
    · exact e ▸ q_mk_239
    rcases Nat.eq_or_lt_of_le (show 240 ≤ m by omega) with e | e
    · exact e ▸ q_mk_240
    rcases Nat.eq_or_lt_of_le (show 241 ≤ m by omega) with e | e
    · exact e ▸ q_mk_241
    rcases Nat.eq_or_lt_of_le (show 242 ≤ m by omega) with e | e
    · exact e ▸ q_mk_242
    rcases Nat.eq_or_lt_of_le (show 243 ≤ m by omega) with e | e
    · exact e ▸ q_mk_243
    rcases Nat.eq_or_lt_of_le (show 244 ≤ m by omega) with e | e
    · exact e ▸ q_mk_244
    rcases Nat.eq_or_lt_of_le (show 245 ≤ m by omega) with e | e
    · exact e ▸ q_mk_245
    rcases Nat.eq_or_lt_of_le (show 246 ≤ m by omega) with e | e
    · exact e ▸ q_mk_246
    rcases Nat.eq_or_lt_of_le (show 247 ≤ m by omega) with e | e
    · exact e ▸ q_mk_247
    rcases Nat.eq_or_lt_of_le (show 248 ≤ m by omega) with e | e
    · exact e ▸ q_mk_248
    rcases Nat.eq_or_lt_of_le (show 249 ≤ m by omega) with e | e
    · exact e ▸ q_mk_249
    rcases Nat.eq_or_lt_of_le (show 250 ≤ m by omega) with e | e
    · exact e ▸ q_mk_250
    rcases Nat.eq_or_lt_of_le (show 251 ≤ m by omega) with e | e
    · exact e ▸ q_mk_251
    rcases Nat.eq_or_lt_of_le (show 252 ≤ m by omega) with e | e
    · exact e ▸ q_mk_252
    rcases Nat.eq_or_lt_of_le (show 253 ≤ m by omega) with e | e
    · exact e ▸ q_mk_253
    rcases Nat.eq_or_lt_of_le (show 254 ≤ m by omega) with e | e
    · exact e ▸ q_mk_254
    rcases Nat.eq_or_lt_of_le (show 255 ≤ m by omega) with e | e
    · exact e ▸ q_mk_255
    rcases Nat.eq_or_lt_of_le (show 256 ≤ m by omega) with e | e
    · exact e ▸ q_mk_256
    exact absurd q (by omega)
  rcases Nat.lt_or_ge m 289 with q | q
  · rcases Nat.eq_or_lt_of_le (show 257 ≤ m by omega) with e | e
    · exact e ▸ q_mk_257
    rcases Nat.eq_or_lt_of_le (show 258 ≤ m by omega) with e | e
    · exact e ▸ q_mk_258
    rcases Nat.eq_or_lt_of_le (show 259 ≤ m by omega) with e | e
    · exact e ▸ q_mk_259
    rcases Nat.eq_or_lt_of_le (show 260 ≤ m by omega) with e | e
    · exact e ▸ q_mk_260
    rcases Nat.eq_or_lt_of_le (show 261 ≤ m by omega) with e | e
    · exact e ▸ q_mk_261
    rcases Nat.eq_or_lt_of_le (show 262 ≤ m by omega) with e | e
    · exact e ▸ q_mk_262
    rcases Nat.eq_or_lt_of_le (show 263 ≤ m by omega) with e | e
    · exact e ▸ q_mk_263
    rcases Nat.eq_or_lt_of_le (show 264 ≤ m by omega) with e | e
    · exact e ▸ q_mk_264
    rcases Nat.eq_or_lt_of_le (show 265 ≤ m by omega) with e | e
    · exact e ▸ q_mk_265
    rcases Nat.eq_or_lt_of_le (show 266 ≤ m by omega) with e | e
    · exact e ▸ q_mk_266
    rcases Nat.eq_or_lt_of_le (show 267 ≤ m by omega) with e | e
    · exact e ▸ q_mk_267
    rcases Nat.eq_or_lt_of_le (show 268 ≤ m by omega) with e | e
    · exact e ▸ q_mk_268
    rcases Nat.eq_or_lt_of_le (show 269 ≤ m by omega) with e | e
    · exact e ▸ q_mk_269
    rcases Nat.eq_or_lt_of_le (show 270 ≤ m by omega) with e | e
    · exact e ▸ q_mk_270
    rcases Nat.eq_or_lt_of_le (show 271 ≤ m by omega) with e | e
    · exact e ▸ q_mk_271
    rcases Nat.eq_or_lt_of_le (show 272 ≤ m by omega) with e | e
    · exact e ▸ q_mk_272
    rcases Nat.eq_or_lt_of_le (show 273 ≤ m by omega) with e | e
    · exact e ▸ q_mk_273
    rcases Nat.eq_or_lt_of_le (show 274 ≤ m by omega) with e | e
    · exact e ▸ q_mk_274
    rcases Nat.eq_or_lt_of_le (show 275 ≤ m by omega) with e | e
    · exact e ▸ q_mk_275
    rcases Nat.eq_or_lt_of_le (show 276 ≤ m by omega) with e | e
    · exact e ▸ q_mk_276
    rcases Nat.eq_or_lt_of_le (show 277 ≤ m by omega) with e | e
    · exact e ▸ q_mk_277
    rcases Nat.eq_or_lt_of_le (show 278 ≤ m by omega) with e | e
    · exact e ▸ q_mk_278
    rcases Nat.eq_or_lt_of_le (show 279 ≤ m by omega) with e | e
    · exact e ▸ q_mk_279
    rcases Nat.eq_or_lt_of_le (show 280 ≤ m by omega) with e | e
    · exact e ▸ q_mk_280
    rcases Nat.eq_or_lt_of_le (show 281 ≤ m by omega) with e | e
    · exact e ▸ q_mk_281
    rcases Nat.eq_or_lt_of_le (show 282 ≤ m by omega) with e | e
    · exact e ▸ q_mk_282
    rcases Nat.eq_or_lt_of_le (show 283 ≤ m by omega) with e | e
    · exact e ▸ q_mk_283
    rcases Nat.eq_or_lt_of_le (show 284 ≤ m by omega) with e | e
    · exact e ▸ q_mk_284
    rcases Nat.eq_or_lt_of_le (show 285 ≤ m by omega) with e | e
    · exact e ▸ q_mk_285
    rcases Nat.eq_or_lt_of_le (show 286 ≤ m by omega) with e | e
    · exact e ▸ q_mk_286
    rcases Nat.eq_or_lt_of_le (show 287 ≤ m by omega) with e | e
    · exact e ▸ q_mk_287
    rcases Nat.eq_or_lt_of_le (show 288 ≤ m by omega) with e | e
    · exact e ▸ q_mk_288
    exact absurd q (by omega)
  rcases Nat.lt_or_ge m 310 with q | q
  · rcases Nat.eq_or_lt_of_le (show 289 ≤ m by omega) with e | e
    · exact e ▸ q_mk_289
    rcases Nat.eq_or_lt_of_le (show 290 ≤ m by omega) with e | e
    · exact e ▸ q_mk_290
    rcases Nat.eq_or_lt_of_le (show 291 ≤ m by omega) with e | e
    · exact e ▸ q_mk_291
    rcases Nat.eq_or_lt_of_le (show 292 ≤ m by omega) with e | e
    · exact e ▸ q_mk_292
    rcases Nat.eq_or_lt_of_le (show 293 ≤ m by omega) with e | e
    · exact e ▸ q_mk_293
    rcases Nat.eq_or_lt_of_le (show 294 ≤ m by omega) with e | e
    · exact e ▸ q_mk_294
    rcases Nat.eq_or_lt_of_le (show 295 ≤ m by omega) with e | e
    · exact e ▸ q_mk_295
    rcases Nat.eq_or_lt_of_le (show 296 ≤ m by omega) with e | e
    · exact e ▸ q_mk_296
    rcases Nat.eq_or_lt_of_le (show 297 ≤ m by omega) with e | e
    · exact e ▸ q_mk_297
    rcases Nat.eq_or_lt_of_le (show 298 ≤ m by omega) with e | e
    · exact e ▸ q_mk_298
    rcases Nat.eq_or_lt_of_le (show 299 ≤ m by omega) with e | e
    · exact e ▸ q_mk_299
    rcases Nat.eq_or_lt_of_le (show 300 ≤ m by omega) with e | e
    · exact e ▸ q_mk_300
    rcases Nat.eq_or_lt_of_le (show 301 ≤ m by omega) with e | e
    · exact e ▸ q_mk_301
    rcases Nat.eq_or_lt_of_le (show 302 ≤ m by omega) with e | e
    · exact e ▸ q_mk_302
    rcases Nat.eq_or_lt_of_le (show 303 ≤ m by omega) with e | e
    · exact e ▸ q_mk_303
    rcases Nat.eq_or_lt_of_le (show 304 ≤ m by omega) with e | e
    · exact e ▸ q_mk_304
    rcases Nat.eq_or_lt_of_le (show 305 ≤ m by omega) with e | e
    · exact e ▸ q_mk_305
    rcases Nat.eq_or_lt_of_le (show 306 ≤ m by omega) with e | e
    · exact e ▸ q_mk_306
    rcases Nat.eq_or_lt_of_le (show 307 ≤ m by omega) with e | e
    · exact e ▸ q_mk_307
    rcases Nat.eq_or_lt_of_le (show 308 ≤ m by omega) with e | e
    · exact e ▸ q_mk_308
    rcases Nat.eq_or_lt_of_le (show 309 ≤ m by omega) with e | e
    · exact e ▸ q_mk_309
    exact absurd q (by omega)
  exact absurd h2 (by omega)
