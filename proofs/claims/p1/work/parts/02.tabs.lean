/-! ===== the tables of this claim: methods, fields, links ===== -/
def tbC : Nat → List Cond := fun c => match c with
  | 0 => k2_sels lw_privs
  | 1 => tables_1_1
  | 2 => tables_1_2
  | 3 => tables_1_3
  | 4 => tables_1_4
  | 5 => tables_1_5
  | 6 => tables_1_6
  | 7 => tables_1_7
  | _ => tables_1_8
theorem tbC_mem (c : Nat) {w : Cond} (h : w ∈ tbC c) : w ∈ lw_tbl := by
  unfold lw_tbl tables_1
  match c, h with
  | 0, h => simp only [List.mem_append]; simp only [tbC] at h; simp [h]
  | 1, h => simp only [List.mem_append]; simp only [tbC] at h; simp [h]
  | 2, h => simp only [List.mem_append]; simp only [tbC] at h; simp [h]
  | 3, h => simp only [List.mem_append]; simp only [tbC] at h; simp [h]
  | 4, h => simp only [List.mem_append]; simp only [tbC] at h; simp [h]
  | 5, h => simp only [List.mem_append]; simp only [tbC] at h; simp [h]
  | 6, h => simp only [List.mem_append]; simp only [tbC] at h; simp [h]
  | 7, h => simp only [List.mem_append]; simp only [tbC] at h; simp [h]
  | k + 8, h => simp only [List.mem_append]; simp only [tbC] at h; simp [h]
def rN : Nat → String := fun k => match k with
  | 0 => RX0
  | 1 => RX1
  | 2 => RX2
  | 3 => RX3
  | 4 => RX4
  | 5 => RX5
  | 6 => RX6
  | 7 => RX7
  | 8 => RJ9
  | _ => RL
def fT : Nat → u_T := fun k => match k with
  | 0 => TX0
  | 1 => TX1
  | 2 => TX2
  | 3 => TX3
  | 4 => TX4
  | 5 => TX5
  | 6 => TX6
  | _ => TX7
def fN : Nat → Nat := fun k => match k with
  | 0 => 3
  | 1 => 17
  | 2 => 15
  | 3 => 19
  | 4 => 8
  | 5 => 5
  | 6 => 7
  | 7 => 57
  | _ => 0
def fY : Nat → Nat → FieldType := fun k => match k with
  | 0 => tyX0
  | 1 => tyX1
  | 2 => tyX2
  | 3 => tyX3
  | 4 => tyX4
  | 5 => tyX5
  | 6 => tyX6
  | _ => tyX7
/-- a field of references -/
def fRef (ci k : Nat) : Bool := match fY ci k with | .int => false | .boolean => false | _ => true
abbrev mRow : Type := MethodName × ByteArray × Nat × Option FieldType × Nat × Nat × Nat × Bool
def mTab : List mRow := [
  (yX0_init, cX0_init, 1, none, 0, 0, 1, false),
  (yX0_clear, cX0_clear, 1, none, 0, 0, 0, false),
  (yX0_keep, cX0_keep, 3, none, 0, 1, 2, false),
  (yX0_restore, cX0_restore, 4, none, 0, 1, 2, false),
  (yX1_init, cX1_init, 1, none, 1, 0, 1, false),
  (yX1_empty, cX1_empty, 1, none, 1, 0, 0, false),
  (yX1_copyFrom, cX1_copyFrom, 3, none, 1, 1, 1, false),
  (yX1_branchOn, cX1_branchOn, 4, (some .int), 1, 2, 0, false),
  (yX1_isShut, cX1_isShut, 3, (some .boolean), 1, 2, 0, false),
  (yX1_openFrom, cX1_openFrom, 3, (some .int), 1, 2, 1, false),
  (yX1_countAtHome, cX1_countAtHome, 4, (some .int), 1, 1, 0, false),
  (yX1_countOfTitle, cX1_countOfTitle, 4, (some .int), 1, 1, 0, false),
  (yX2_init, cX2_init, 1, none, 2, 0, 6, false),
  (yX2_put, cX2_put, 3, none, 2, 1, 0, false),
  (yX2_readInto, cX2_readInto, 4, (some .boolean), 2, 2, 5, false),
  (yX2_begin, cX2_begin, 3, none, 2, 2, 3, false),
  (yX2_endLine, cX2_endLine, 1, none, 2, 0, 3, false),
  (yX2_readBranch, cX2_readBranch, 3, none, 2, 0, 4, false),
  (yX2_readTitle, cX2_readTitle, 1, none, 2, 0, 4, false),
  (yX2_readItem, cX2_readItem, 1, none, 2, 0, 4, false),
  (yX2_readHold, cX2_readHold, 1, none, 2, 0, 4, false),
  (yX2_readVan, cX2_readVan, 3, none, 2, 0, 4, false),
  (yX2_readStop, cX2_readStop, 4, none, 2, 1, 3, false),
  (yX2_readGrace, cX2_readGrace, 1, none, 2, 0, 4, false),
  (yX2_readRenews, cX2_readRenews, 1, none, 2, 0, 4, false),
  (yX2_beginsRow, cX2_beginsRow, 3, (some .boolean), 2, 2, 3, false),
  (yX2_takeNewName, cX2_takeNewName, 4, (some .int), 2, 2, 3, false),
  (yX2_takeToldName, cX2_takeToldName, 4, (some .int), 2, 2, 3, false),
  (yX2_takeNumber, cX2_takeNumber, 4, (some .int), 2, 2, 3, false),
  (yX2_numberOfName, cX2_numberOfName, 4, (some .int), 2, 2, 0, false),
  (yX2_fail, cX2_fail, 2, none, 2, 1, 0, false),
  (yX2_advance, cX2_advance, 1, none, 2, 0, 2, false),
  (yX2_scanWord, cX2_scanWord, 1, none, 2, 0, 1, false),
  (yX2_scanNumber, cX2_scanNumber, 1, none, 2, 0, 1, false),
  (yX2_tokenOfWord, cX2_tokenOfWord, 2, (some .int), 2, 0, 0, false),
  (yX2_codeOf, cX2_codeOf, 3, (some .int), 2, 1, 5, true),
  (yX2_isBlank, cX2_isBlank, 1, (some .boolean), 2, 1, 0, true),
  (yX2_isLetter, cX2_isLetter, 1, (some .boolean), 2, 1, 0, true),
  (yX2_isDigit, cX2_isDigit, 1, (some .boolean), 2, 1, 0, true),
  (yX3_init, cX3_init, 1, none, 3, 0, 1, false),
  (yX3_begin, cX3_begin, 3, none, 3, 1, 1, false),
  (yX3_copyFrom, cX3_copyFrom, 2, none, 3, 1, 1, false),
  (yX3_putAt, cX3_putAt, 3, none, 3, 2, 0, false),
  (yX3_addHold, cX3_addHold, 4, (some .int), 3, 2, 0, false),
  (yX3_cancelHold, cX3_cancelHold, 3, none, 3, 1, 0, false),
  (yX3_giveItem, cX3_giveItem, 3, none, 3, 2, 0, false),
  (yX3_lend, cX3_lend, 4, none, 3, 3, 0, false),
  (yX3_takeBack, cX3_takeBack, 3, none, 3, 1, 1, false),
  (yX3_board, cX3_board, 5, none, 3, 4, 0, false),
  (yX3_isThere, cX3_isThere, 4, (some .boolean), 3, 3, 0, false),
  (yX3_isFree, cX3_isFree, 2, (some .boolean), 3, 1, 0, false),
  (yX3_isWaiting, cX3_isWaiting, 2, (some .boolean), 3, 1, 0, false),
  (yX3_isOpenOf, cX3_isOpenOf, 3, (some .boolean), 3, 2, 0, false),
  (yX3_countItems, cX3_countItems, 5, (some .int), 3, 2, 1, false),
  (yX3_countOpenAt, cX3_countOpenAt, 4, (some .int), 3, 1, 0, false),
  (yX3_countOpenOf, cX3_countOpenOf, 4, (some .int), 3, 1, 1, false),
  (yX3_countStage, cX3_countStage, 4, (some .int), 3, 1, 0, false),
  (yX3_countLoansOf, cX3_countLoansOf, 4, (some .int), 3, 1, 0, false),
  (yX3_daysWaited, cX3_daysWaited, 3, (some .int), 3, 1, 0, false),
  (yX3_branchBit, cX3_branchBit, 2, (some .int), 3, 1, 0, false),
  (yX4_init, cX4_init, 2, none, 4, 1, 1, false),
  (yX4_forgetAll, cX4_forgetAll, 2, none, 4, 0, 0, false),
  (yX4_arrivalAt, cX4_arrivalAt, 11, (some .int), 4, 3, 1, false),
  (yX4_beginRow, cX4_beginRow, 5, none, 4, 3, 0, false),
  (yX4_findLeg, cX4_findLeg, 7, (some .boolean), 4, 3, 3, false),
  (yX4_vanToBoard, cX4_vanToBoard, 7, (some .int), 4, 4, 2, false),
  (yX4_legPart, cX4_legPart, 2, (some .int), 4, 1, 0, false),
  (yX4_goLegs, cX4_goLegs, 9, (some .int), 4, 4, 4, false),
  (yX5_init, cX5_init, 1, none, 5, 0, 2, false),
  (yX5_begin, cX5_begin, 1, none, 5, 0, 2, false),
  (yX5_copyFrom, cX5_copyFrom, 2, none, 5, 1, 2, false),
  (yX5_goDays, cX5_goDays, 3, none, 5, 1, 5, false),
  (yX5_goDay, cX5_goDay, 2, none, 5, 0, 4, false),
  (yX5_takeBackItems, cX5_takeBackItems, 2, none, 5, 0, 2, false),
  (yX5_giveItems, cX5_giveItems, 3, none, 5, 0, 3, false),
  (yX5_nearestFree, cX5_nearestFree, 7, (some .int), 5, 2, 2, false),
  (yX5_lendItems, cX5_lendItems, 5, none, 5, 0, 2, false),
  (yX5_leaveVan, cX5_leaveVan, 3, none, 5, 1, 1, false),
  (yX5_boardVan, cX5_boardVan, 8, none, 5, 1, 3, false),
  (yX5_lineUp, cX5_lineUp, 3, none, 5, 1, 2, false),
  (yX5_stepIntoLine, cX5_stepIntoLine, 3, none, 5, 2, 1, false),
  (yX5_goalOf, cX5_goalOf, 3, (some .int), 5, 1, 0, false),
  (yX5_lentWithin, cX5_lentWithin, 3, (some .int), 5, 1, 5, false),
  (yX5_countFree, cX5_countFree, 4, (some .int), 5, 1, 1, false),
  (yX5_countAstray, cX5_countAstray, 3, (some .int), 5, 0, 1, false),
  (yX5_countLoans, cX5_countLoans, 5, (some .int), 5, 2, 1, false),
  (yX5_balance, cX5_balance, 4, (some .int), 5, 1, 1, false),
  (yX5_branchOfLoan, cX5_branchOfLoan, 2, (some .int), 5, 1, 0, false),
  (yX5_homeOfLoan, cX5_homeOfLoan, 3, (some .int), 5, 1, 0, false),
  (yX6_init, cX6_init, 1, none, 6, 0, 7, false),
  (yX6_feed, cX6_feed, 6, (some .int), 6, 5, 1, false),
  (yX6_text, cX6_text, 3, (some .int), 6, 1, 6, false),
  (yX6_fault, cX6_fault, 2, (some .int), 6, 1, 0, false),
  (yX6_branch, cX6_branch, 3, (some .int), 6, 2, 7, false),
  (yX6_title, cX6_title, 3, (some .int), 6, 2, 7, false),
  (yX6_item, cX6_item, 3, (some .int), 6, 2, 7, false),
  (yX6_holdOf, cX6_holdOf, 3, (some .int), 6, 2, 7, false),
  (yX6_van, cX6_van, 3, (some .int), 6, 2, 2, false),
  (yX6_stop, cX6_stop, 3, (some .int), 6, 2, 2, false),
  (yX6_hold, cX6_hold, 3, (some .int), 6, 2, 3, false),
  (yX6_cancel, cX6_cancel, 2, (some .boolean), 6, 1, 3, false),
  (yX6_recall, cX6_recall, 3, (some .int), 6, 1, 3, false),
  (yX6_renew, cX6_renew, 3, (some .int), 6, 1, 3, false),
  (yX6_days, cX6_days, 2, (some .int), 6, 1, 6, false),
  (yX6_undo, cX6_undo, 1, (some .int), 6, 0, 3, false),
  (yX6_owed, cX6_owed, 3, (some .int), 6, 2, 2, false),
  (yX6_loans, cX6_loans, 3, (some .int), 6, 2, 2, false),
  (yX6_lender, cX6_lender, 3, (some .int), 6, 1, 4, false),
  (yX6_ranked, cX6_ranked, 2, (some .int), 6, 1, 4, false),
  (yX6_log, cX6_log, 4, (some .int), 6, 2, 1, false),
  (yX6_queue, cX6_queue, 5, (some .int), 6, 2, 1, false),
  (yX6_inVan, cX6_inVan, 5, (some .int), 6, 2, 1, false),
  (yX6_waits, cX6_waits, 3, (some .int), 6, 2, 3, false),
  (yX6_longest, cX6_longest, 3, (some .int), 6, 1, 1, false),
  (yX6_waited, cX6_waited, 2, (some .int), 6, 1, 1, false),
  (yX6_meanWait, cX6_meanWait, 3, (some .int), 6, 0, 1, false),
  (yX6_nextDue, cX6_nextDue, 4, (some .int), 6, 1, 1, false),
  (yX6_given, cX6_given, 4, (some .int), 6, 2, 3, false),
  (yX6_arrival, cX6_arrival, 4, (some .int), 6, 3, 2, false),
  (yX6_leg, cX6_leg, 5, (some .int), 6, 4, 4, false),
  (yX6_legs, cX6_legs, 4, (some .int), 6, 3, 5, false),
  (yX6_path, cX6_path, 6, (some .int), 6, 5, 5, false),
  (yX6_reach, cX6_reach, 6, (some .int), 6, 3, 2, false),
  (yX6_farthest, cX6_farthest, 6, (some .int), 6, 2, 2, false),
  (yX6_center, cX6_center, 6, (some .int), 6, 1, 3, false),
  (yX6_thereAndBack, cX6_thereAndBack, 6, (some .int), 6, 3, 2, false),
  (yX6_bestDay, cX6_bestDay, 9, (some .int), 6, 3, 2, false),
  (yX6_meet, cX6_meet, 5, (some .int), 6, 2, 1, false),
  (yX6_every, cX6_every, 6, (some .int), 6, 2, 1, false),
  (yX6_busiest, cX6_busiest, 4, (some .int), 6, 1, 1, false),
  (yX6_lentOn, cX6_lentOn, 2, (some .int), 6, 1, 6, false),
  (yX6_ifHold, cX6_ifHold, 3, (some .int), 6, 2, 6, false),
  (yX6_ifCancelled, cX6_ifCancelled, 3, (some .int), 6, 2, 6, false),
  (yX6_ifNoVan, cX6_ifNoVan, 3, (some .int), 6, 2, 6, false),
  (yX6_ifStop, cX6_ifStop, 5, (some .int), 6, 4, 6, false),
  (yX6_ifClosed, cX6_ifClosed, 4, (some .int), 6, 3, 6, false),
  (yX6_ifPeriod, cX6_ifPeriod, 4, (some .int), 6, 3, 6, false),
  (yX6_ifRoom, cX6_ifRoom, 4, (some .int), 6, 3, 6, false),
  (yX6_served, cX6_served, 2, (some .int), 6, 1, 6, false),
  (yX6_where, cX6_where, 3, (some .int), 6, 2, 6, false),
  (yX6_astray, cX6_astray, 2, (some .int), 6, 1, 6, false),
  (yX6_visits, cX6_visits, 5, (some .int), 6, 2, 6, false),
  (yX6_count, cX6_count, 2, (some .int), 6, 1, 1, false),
  (yX6_isWithin, cX6_isWithin, 3, (some .boolean), 6, 3, 0, true),
  (yX6_isDay, cX6_isDay, 1, (some .boolean), 6, 1, 1, true),
  (yX6_isForetellable, cX6_isForetellable, 1, (some .boolean), 6, 1, 1, true),
  (yX6_orAbsent, cX6_orAbsent, 1, (some .int), 6, 1, 0, true),
  (yX6_isBranch, cX6_isBranch, 2, (some .boolean), 6, 1, 0, false),
  (yX6_isTitle, cX6_isTitle, 2, (some .boolean), 6, 1, 0, false),
  (yX6_isItem, cX6_isItem, 2, (some .boolean), 6, 1, 0, false),
  (yX6_isVan, cX6_isVan, 2, (some .boolean), 6, 1, 0, false),
  (yX6_isStop, cX6_isStop, 3, (some .boolean), 6, 2, 1, false),
  (yX6_isHold, cX6_isHold, 2, (some .boolean), 6, 1, 0, false),
  (yX6_branchRanked, cX6_branchRanked, 3, (some .int), 6, 1, 3, false),
  (yX6_countAhead, cX6_countAhead, 6, (some .int), 6, 1, 2, false),
  (yX6_daysToAll, cX6_daysToAll, 5, (some .int), 6, 1, 2, false),
  (yX7_init, cX7_init, 1, none, 7, 0, 1, false),
  (yX7_thrown, cX7_thrown, 1, (some .int), 7, 0, 0, false),
  (yX7_isIn, cX7_isIn, 3, (some .boolean), 7, 3, 0, true),
  (yX7_ofHold, cX7_ofHold, 3, (some .int), 7, 2, 0, false),
  (yX7_setHold, cX7_setHold, 4, none, 7, 3, 0, false),
  (yX7_ofItem, cX7_ofItem, 3, (some .int), 7, 2, 0, false),
  (yX7_setItem, cX7_setItem, 4, none, 7, 3, 0, false),
  (yX7_puts, cX7_puts, 4, none, 7, 3, 1, false),
  (yX7_addsHold, cX7_addsHold, 4, none, 7, 2, 1, false),
  (yX7_four, cX7_four, 3, none, 7, 1, 0, false),
  (yX7_feed, cX7_feed, 6, (some .int), 7, 5, 1, false),
  (yX7_see, cX7_see, 1, (some .int), 7, 0, 0, false),
  (yX7_advance, cX7_advance, 2, none, 7, 0, 1, false),
  (yX7_must, cX7_must, 3, none, 7, 2, 0, false),
  (yX7_isWord, cX7_isWord, 2, (some .boolean), 7, 1, 0, false),
  (yX7_isName, cX7_isName, 2, (some .boolean), 7, 0, 0, false),
  (yX7_numberHere, cX7_numberHere, 4, (some .int), 7, 2, 2, false),
  (yX7_at, cX7_at, 4, (some .int), 7, 3, 0, true),
  (yX7_opens, cX7_opens, 3, none, 7, 2, 2, false),
  (yX7_freshHere, cX7_freshHere, 4, (some .int), 7, 2, 2, false),
  (yX7_toldHere, cX7_toldHere, 4, (some .int), 7, 2, 2, false),
  (yX7_branchHere, cX7_branchHere, 1, (some .int), 7, 0, 3, false),
  (yX7_titleHere, cX7_titleHere, 1, (some .int), 7, 0, 3, false),
  (yX7_readsBranch, cX7_readsBranch, 3, none, 7, 0, 3, false),
  (yX7_readsTitle, cX7_readsTitle, 3, none, 7, 0, 3, false),
  (yX7_readsItem, cX7_readsItem, 3, none, 7, 0, 4, false),
  (yX7_readsVan, cX7_readsVan, 4, none, 7, 0, 4, false),
  (yX7_readsHold, cX7_readsHold, 3, none, 7, 0, 4, false),
  (yX7_readsLine, cX7_readsLine, 1, none, 7, 0, 5, false),
  (yX7_begins, cX7_begins, 1, none, 7, 0, 0, false),
  (yX7_text, cX7_text, 2, (some .int), 7, 1, 6, false),
  (yX7_copies, cX7_copies, 4, none, 7, 3, 0, true),
  (yX7_becomes, cX7_becomes, 2, none, 7, 0, 2, false),
  (yX7_freesItem, cX7_freesItem, 2, none, 7, 1, 1, false),
  (yX7_fault, cX7_fault, 2, (some .int), 7, 1, 0, false),
  (yX7_isBranch, cX7_isBranch, 2, (some .boolean), 7, 1, 1, false),
  (yX7_isTitle, cX7_isTitle, 2, (some .boolean), 7, 1, 1, false),
  (yX7_isItem, cX7_isItem, 2, (some .boolean), 7, 1, 1, false),
  (yX7_isHold, cX7_isHold, 2, (some .boolean), 7, 1, 1, false),
  (yX7_isVan, cX7_isVan, 2, (some .boolean), 7, 1, 1, false),
  (yX7_isShut, cX7_isShut, 3, (some .boolean), 7, 2, 0, false),
  (yX7_openFrom, cX7_openFrom, 3, (some .int), 7, 2, 1, false),
  (yX7_stopOf, cX7_stopOf, 3, (some .int), 7, 2, 0, false),
  (yX7_isFree, cX7_isFree, 2, (some .boolean), 7, 1, 1, false),
  (yX7_laysEarly, cX7_laysEarly, 8, none, 7, 2, 1, false),
  (yX7_arrivalOf, cX7_arrivalOf, 4, (some .int), 7, 3, 2, false),
  (yX7_laysLeads, cX7_laysLeads, 9, none, 7, 3, 1, false),
  (yX7_laysLeg, cX7_laysLeg, 8, (some .boolean), 7, 3, 3, false),
  (yX7_isWay, cX7_isWay, 4, (some .boolean), 7, 3, 2, false),
  (yX7_arrival, cX7_arrival, 4, (some .int), 7, 3, 3, false),
  (yX7_leg, cX7_leg, 5, (some .int), 7, 4, 4, false),
  (yX7_legs, cX7_legs, 7, (some .int), 7, 3, 4, false),
  (yX7_path, cX7_path, 9, (some .int), 7, 5, 4, false),
  (yX7_thereAndBack, cX7_thereAndBack, 6, (some .int), 7, 3, 3, false),
  (yX7_bestDay, cX7_bestDay, 8, (some .int), 7, 3, 3, false),
  (yX7_reach, cX7_reach, 6, (some .int), 7, 3, 2, false),
  (yX7_center, cX7_center, 7, (some .int), 7, 1, 2, false),
  (yX7_comesBack, cX7_comesBack, 3, none, 7, 1, 2, false),
  (yX7_givenTo, cX7_givenTo, 7, (some .int), 7, 2, 3, false),
  (yX7_gives, cX7_gives, 3, none, 7, 1, 4, false),
  (yX7_lends, cX7_lends, 5, none, 7, 1, 2, false),
  (yX7_inside, cX7_inside, 4, (some .int), 7, 1, 1, false),
  (yX7_goal, cX7_goal, 4, (some .int), 7, 1, 1, false),
  (yX7_boards, cX7_boards, 4, none, 7, 2, 4, false),
  (yX7_isAt, cX7_isAt, 3, (some .boolean), 7, 2, 1, false),
  (yX7_drives, cX7_drives, 4, none, 7, 1, 5, false),
  (yX7_passes, cX7_passes, 2, none, 7, 0, 6, false),
  (yX7_openOf, cX7_openOf, 5, (some .int), 7, 2, 1, false),
  (yX7_branch, cX7_branch, 5, (some .int), 7, 2, 2, false),
  (yX7_title, cX7_title, 5, (some .int), 7, 2, 2, false),
  (yX7_item, cX7_item, 3, (some .int), 7, 2, 2, false),
  (yX7_holdOf, cX7_holdOf, 3, (some .int), 7, 2, 2, false),
  (yX7_van, cX7_van, 3, (some .int), 7, 2, 2, false),
  (yX7_stop, cX7_stop, 3, (some .int), 7, 2, 2, false),
  (yX7_keeps, cX7_keeps, 2, none, 7, 0, 0, false),
  (yX7_hold, cX7_hold, 3, (some .int), 7, 2, 2, false),
  (yX7_mayCancel, cX7_mayCancel, 2, (some .boolean), 7, 1, 1, false),
  (yX7_cancels, cX7_cancels, 2, none, 7, 1, 1, false),
  (yX7_cancel, cX7_cancel, 2, (some .boolean), 7, 1, 2, false),
  (yX7_recall, cX7_recall, 3, (some .int), 7, 1, 2, false),
  (yX7_renew, cX7_renew, 2, (some .int), 7, 1, 2, false),
  (yX7_days, cX7_days, 3, (some .int), 7, 1, 7, false),
  (yX7_undo, cX7_undo, 2, (some .int), 7, 0, 0, false),
  (yX7_balance, cX7_balance, 3, (some .int), 7, 2, 0, false),
  (yX7_owed, cX7_owed, 3, (some .int), 7, 2, 2, false),
  (yX7_loans, cX7_loans, 3, (some .int), 7, 2, 2, false),
  (yX7_queue, cX7_queue, 5, (some .int), 7, 2, 2, false),
  (yX7_inVan, cX7_inVan, 5, (some .int), 7, 2, 2, false),
  (yX7_waits, cX7_waits, 5, (some .int), 7, 2, 2, false),
  (yX7_given, cX7_given, 3, (some .int), 7, 2, 4, false),
  (yX7_tries, cX7_tries, 1, none, 7, 0, 1, false),
  (yX7_returns, cX7_returns, 1, none, 7, 0, 1, false),
  (yX7_lentAhead, cX7_lentAhead, 3, (some .int), 7, 1, 7, false),
  (yX7_lentOn, cX7_lentOn, 3, (some .int), 7, 1, 8, false),
  (yX7_ifHold, cX7_ifHold, 4, (some .int), 7, 2, 8, false),
  (yX7_ifCancelled, cX7_ifCancelled, 4, (some .int), 7, 2, 8, false),
  (yX7_ifNoVan, cX7_ifNoVan, 4, (some .int), 7, 2, 8, false),
  (yX7_ifStop, cX7_ifStop, 7, (some .int), 7, 4, 8, false),
  (yX7_ifRoom, cX7_ifRoom, 6, (some .int), 7, 3, 8, false),
  (yX7_ifClosed, cX7_ifClosed, 6, (some .int), 7, 3, 8, false),
  (yX7_ifPeriod, cX7_ifPeriod, 6, (some .int), 7, 3, 8, false),
  (yX7_visits, cX7_visits, 5, (some .int), 7, 2, 7, false),
  (yX7_astray, cX7_astray, 4, (some .int), 7, 1, 7, false),
  (yX7_wasLent, cX7_wasLent, 2, (some .boolean), 7, 1, 1, false),
  (yX7_waited, cX7_waited, 2, (some .int), 7, 1, 2, false),
  (yX7_meanWait, cX7_meanWait, 4, (some .int), 7, 0, 2, false),
  (yX7_isSooner, cX7_isSooner, 5, (some .boolean), 7, 2, 1, false),
  (yX7_log, cX7_log, 6, (some .int), 7, 2, 2, false),
  (yX7_allOwed, cX7_allOwed, 4, (some .int), 7, 1, 1, false),
  (yX7_ranked, cX7_ranked, 5, (some .int), 7, 1, 2, false),
  (yX7_busiest, cX7_busiest, 4, (some .int), 7, 1, 1, false),
  (yX7_where, cX7_where, 4, (some .int), 7, 2, 7, false),
  (yX7_served, cX7_served, 2, (some .int), 7, 1, 8, false),
  (yX7_servedIn, cX7_servedIn, 4, (some .int), 7, 1, 7, false),
  (yX7_meet, cX7_meet, 4, (some .int), 7, 2, 2, false),
  (yX7_every, cX7_every, 6, (some .int), 7, 2, 2, false),
  (yX7_farthest, cX7_farthest, 5, (some .int), 7, 2, 2, false),
  (yX7_longest, cX7_longest, 4, (some .int), 7, 1, 1, false),
  (yX7_lender, cX7_lender, 6, (some .int), 7, 1, 2, false),
  (yX7_nextDue, cX7_nextDue, 4, (some .int), 7, 1, 1, false),
  (yX7_inState, cX7_inState, 4, (some .int), 7, 1, 1, false),
  (yX7_count, cX7_count, 2, (some .int), 7, 1, 2, false),
  (yJ9_floorDiv_7cf53, cJ9_floorDiv_7cf53, 3, (some .int), 8, 2, 0, true),
  (yJ9_max_7cf53, cJ9_max_7cf53, 2, (some .int), 8, 2, 0, true),
  (yJ9_min_7cf53, cJ9_min_7cf53, 2, (some .int), 8, 2, 0, true),
  (yL_branch, cL_branch, 5, (some .int), 9, 4, 8, true),
  (yL_title, cL_title, 5, (some .int), 9, 4, 8, true),
  (yL_item, cL_item, 5, (some .int), 9, 4, 8, true),
  (yL_holdOf, cL_holdOf, 5, (some .int), 9, 4, 8, true),
  (yL_law, cL_law, 7, (some .boolean), 9, 1, 9, true)]
def mD : mRow := (yL_law, cL_law, 0, none, 99, 0, 0, false)
def mG (i : Nat) : mRow := mTab.getD i mD
def mY (i : Nat) : MethodName := (mG i).1
def mB (i : Nat) : ByteArray := (mG i).2.1
def mX (i : Nat) : Nat := (mG i).2.2.1
def mR (i : Nat) : Option FieldType := (mG i).2.2.2.1
def mC (i : Nat) : Nat := (mG i).2.2.2.2.1
def mN (i : Nat) : Nat := (mG i).2.2.2.2.2.1
def mV (i : Nat) : Nat := (mG i).2.2.2.2.2.2.1
def mS (i : Nat) : Bool := (mG i).2.2.2.2.2.2.2
/-- of a method: its code word, instanceMethod or static, selects (or 0), initialized, by their places in lw_tbl -/
def mPos : List ((Nat × Nat) × (Nat × Nat) × (Nat × Nat)) := [
((2, 175), (0, 0), (1, 11)), ((3, 108), (0, 29), (1, 11)), ((3, 156), (0, 37), (1, 11)), ((4, 69), (0, 66), (1, 11)), ((1, 153), (0, 0), (1, 8)), ((1, 160), (0, 0), (1, 8)), ((3, 84), (0, 24), (1, 8)), ((3, 124), (0, 31), (1, 8)), ((3, 196), (0, 44), (1, 8)), ((3, 192), (0, 43), (1, 8)), ((5, 151), (0, 84), (1, 8)), ((5, 183), (0, 86), (1, 8)), ((1, 31), (0, 0), (1, 2)), ((2, 219), (0, 2), (1, 2)), ((2, 227), (0, 3), (1, 2)), ((2, 231), (0, 4), (1, 2)), ((3, 80), (0, 23), (1, 2)), ((3, 24), (0, 9), (1, 2)), ((3, 48), (0, 15), (1, 2)), ((3, 52), (0, 16), (1, 2)), ((3, 68), (0, 20), (1, 2)), ((3, 60), (0, 18), (1, 2)), ((3, 64), (0, 19), (1, 2)), ((3, 72), (0, 21), (1, 2)), ((3, 76), (0, 22), (1, 2)), ((3, 28), (0, 10), (1, 2)), ((3, 36), (0, 12), (1, 2)), ((3, 56), (0, 17), (1, 2)), ((3, 44), (0, 14), (1, 2)), ((3, 40), (0, 13), (1, 2)), ((3, 32), (0, 11), (1, 2)), ((2, 239), (0, 5), (1, 2)), ((3, 9), (0, 6), (1, 2)), ((3, 20), (0, 8), (1, 2)), ((3, 13), (0, 7), (1, 2)), ((1, 36), (0, 0), (1, 2)), ((3, 2), (0, 0), (1, 2)), ((3, 5), (0, 0), (1, 2)), ((3, 16), (0, 0), (1, 2)), ((2, 21), (0, 0), (1, 9)), ((3, 95), (0, 26), (1, 9)), ((3, 161), (0, 38), (1, 9)), ((3, 99), (0, 27), (1, 9)), ((3, 103), (0, 28), (1, 9)), ((3, 180), (0, 41), (1, 9)), ((4, 18), (0, 56), (1, 9)), ((4, 29), (0, 58), (1, 9)), ((3, 231), (0, 50), (1, 9)), ((4, 61), (0, 65), (1, 9)), ((3, 132), (0, 33), (1, 9)), ((4, 4), (0, 53), (1, 9)), ((3, 176), (0, 40), (1, 9)), ((3, 208), (0, 46), (1, 9)), ((3, 128), (0, 32), (1, 9)), ((5, 155), (0, 85), (1, 9)), ((3, 204), (0, 45), (1, 9)), ((5, 72), (0, 82), (1, 9)), ((5, 199), (0, 88), (1, 9)), ((4, 137), (0, 73), (1, 9)), ((5, 64), (0, 81), (1, 9)), ((2, 119), (0, 0), (1, 10)), ((2, 124), (0, 1), (1, 10)), ((4, 8), (0, 54), (1, 10)), ((4, 12), (0, 55), (1, 10)), ((4, 177), (0, 74), (1, 10)), ((4, 56), (0, 64), (1, 10)), ((4, 182), (0, 75), (1, 10)), ((4, 190), (0, 76), (1, 10)), ((1, 147), (0, 0), (1, 7)), ((3, 91), (0, 25), (1, 7)), ((5, 2), (0, 78), (1, 7)), ((3, 219), (0, 47), (1, 7)), ((3, 223), (0, 48), (1, 7)), ((3, 227), (0, 49), (1, 7)), ((3, 235), (0, 51), (1, 7)), ((3, 239), (0, 52), (1, 7)), ((4, 22), (0, 57), (1, 7)), ((4, 33), (0, 59), (1, 7)), ((4, 38), (0, 60), (1, 7)), ((4, 44), (0, 61), (1, 7)), ((4, 48), (0, 62), (1, 7)), ((4, 52), (0, 63), (1, 7)), ((5, 8), (0, 79), (1, 7)), ((5, 187), (0, 87), (1, 7)), ((5, 56), (0, 80), (1, 7)), ((4, 78), (0, 67), (1, 7)), ((4, 106), (0, 72), (1, 7)), ((4, 86), (0, 69), (1, 7)), ((4, 82), (0, 68), (1, 7)), ((1, 23), (0, 0), (1, 1)), ((2, 214), (2, 215), (1, 1)), ((2, 222), (2, 223), (1, 1)), ((3, 111), (3, 112), (1, 1)), ((5, 80), (5, 81), (1, 1)), ((5, 177), (5, 178), (1, 1)), ((5, 193), (5, 194), (1, 1)), ((5, 205), (5, 206), (1, 1)), ((3, 115), (3, 116), (1, 1)), ((3, 135), (3, 136), (1, 1)), ((3, 143), (3, 144), (1, 1)), ((3, 167), (3, 168), (1, 1)), ((3, 183), (3, 184), (1, 1)), ((3, 199), (3, 200), (1, 1)), ((3, 211), (3, 212), (1, 1)), ((4, 64), (4, 65), (1, 1)), ((4, 72), (4, 73), (1, 1)), ((4, 89), (4, 90), (1, 1)), ((4, 93), (4, 94), (1, 1)), ((4, 109), (4, 110), (1, 1)), ((4, 113), (4, 114), (1, 1)), ((4, 117), (4, 118), (1, 1)), ((4, 122), (4, 123), (1, 1)), ((4, 127), (4, 128), (1, 1)), ((4, 132), (4, 133), (1, 1)), ((4, 140), (4, 141), (1, 1)), ((4, 144), (4, 145), (1, 1)), ((4, 151), (4, 152), (1, 1)), ((4, 155), (4, 156), (1, 1)), ((4, 160), (4, 161), (1, 1)), ((4, 172), (4, 173), (1, 1)), ((4, 185), (4, 186), (1, 1)), ((4, 194), (4, 195), (1, 1)), ((4, 198), (4, 199), (1, 1)), ((4, 202), (4, 203), (1, 1)), ((4, 206), (4, 207), (1, 1)), ((4, 214), (4, 215), (1, 1)), ((4, 218), (4, 219), (1, 1)), ((4, 222), (4, 223), (1, 1)), ((4, 226), (4, 227), (1, 1)), ((4, 233), (4, 234), (1, 1)), ((4, 237), (4, 238), (1, 1)), ((5, 12), (5, 13), (1, 1)), ((5, 16), (5, 17), (1, 1)), ((5, 20), (5, 21), (1, 1)), ((5, 24), (5, 25), (1, 1)), ((5, 28), (5, 29), (1, 1)), ((5, 32), (5, 33), (1, 1)), ((5, 36), (5, 37), (1, 1)), ((5, 43), (5, 44), (1, 1)), ((5, 47), (5, 48), (1, 1)), ((5, 51), (5, 52), (1, 1)), ((5, 59), (5, 60), (1, 1)), ((5, 67), (5, 68), (1, 1)), ((3, 215), (0, 0), (1, 1)), ((4, 164), (0, 0), (1, 1)), ((5, 40), (0, 0), (1, 1)), ((4, 168), (0, 0), (1, 1)), ((3, 148), (0, 35), (1, 1)), ((3, 152), (0, 36), (1, 1)), ((3, 188), (0, 42), (1, 1)), ((3, 120), (0, 30), (1, 1)), ((3, 140), (0, 34), (1, 1)), ((3, 172), (0, 39), (1, 1)), ((4, 98), (0, 70), (1, 1)), ((4, 102), (0, 71), (1, 1)), ((4, 211), (0, 77), (1, 1)), ((5, 212), (0, 0), (1, 12)), ((6, 149), (6, 150), (1, 12)), ((6, 165), (0, 0), (1, 12)), ((7, 110), (0, 122), (1, 12)), ((7, 34), (0, 113), (1, 12)), ((7, 118), (0, 124), (1, 12)), ((7, 22), (0, 110), (1, 12)), ((7, 18), (0, 109), (1, 12)), ((7, 30), (0, 112), (1, 12)), ((6, 158), (0, 89), (1, 12)), ((6, 153), (6, 154), (1, 12)), ((6, 177), (0, 92), (1, 12)), ((6, 173), (0, 91), (1, 12)), ((6, 198), (0, 97), (1, 12)), ((6, 186), (0, 94), (1, 12)), ((6, 206), (0, 99), (1, 12)), ((6, 219), (0, 100), (1, 12)), ((6, 215), (0, 0), (1, 12)), ((6, 194), (0, 96), (1, 12)), ((6, 202), (0, 98), (1, 12)), ((6, 235), (0, 104), (1, 12)), ((6, 239), (0, 105), (1, 12)), ((6, 231), (0, 103), (1, 12)), ((6, 190), (0, 95), (1, 12)), ((6, 223), (0, 101), (1, 12)), ((6, 227), (0, 102), (1, 12)), ((7, 3), (0, 106), (1, 12)), ((7, 7), (0, 107), (1, 12)), ((6, 181), (0, 93), (1, 12)), ((6, 169), (0, 90), (1, 12)), ((6, 161), (6, 162), (1, 12)), ((7, 14), (0, 0), (1, 12)), ((7, 11), (0, 108), (1, 12)), ((7, 26), (0, 111), (1, 12)), ((7, 37), (7, 38), (1, 12)), ((7, 50), (0, 115), (1, 12)), ((7, 126), (0, 125), (1, 12)), ((7, 138), (0, 127), (1, 12)), ((7, 146), (0, 128), (1, 12)), ((7, 154), (0, 129), (1, 12)), ((7, 194), (0, 135), (1, 12)), ((7, 190), (0, 134), (1, 12)), ((7, 62), (0, 118), (1, 12)), ((7, 130), (0, 126), (1, 12)), ((7, 58), (0, 117), (1, 12)), ((7, 54), (0, 116), (1, 12)), ((7, 74), (0, 120), (1, 12)), ((7, 70), (0, 119), (1, 12)), ((7, 46), (0, 114), (1, 12)), ((7, 41), (7, 42), (1, 12)), ((7, 65), (7, 66), (1, 12)), ((7, 77), (7, 78), (1, 12)), ((7, 81), (7, 82), (1, 12)), ((7, 85), (7, 86), (1, 12)), ((7, 89), (7, 90), (1, 12)), ((7, 93), (7, 94), (1, 12)), ((7, 97), (7, 98), (1, 12)), ((7, 210), (0, 137), (1, 12)), ((7, 218), (0, 139), (1, 12)), ((7, 214), (0, 138), (1, 12)), ((7, 222), (0, 140), (1, 12)), ((7, 158), (0, 130), (1, 12)), ((7, 234), (0, 143), (1, 12)), ((7, 230), (0, 142), (1, 12)), ((7, 114), (0, 123), (1, 12)), ((7, 226), (0, 141), (1, 12)), ((7, 206), (0, 136), (1, 12)), ((7, 106), (0, 121), (1, 12)), ((7, 101), (7, 102), (1, 12)), ((7, 121), (7, 122), (1, 12)), ((7, 133), (7, 134), (1, 12)), ((7, 141), (7, 142), (1, 12)), ((7, 149), (7, 150), (1, 12)), ((7, 161), (7, 162), (1, 12)), ((7, 170), (0, 131), (1, 12)), ((7, 165), (7, 166), (1, 12)), ((7, 178), (0, 132), (1, 12)), ((7, 182), (0, 133), (1, 12)), ((7, 173), (7, 174), (1, 12)), ((7, 185), (7, 186), (1, 12)), ((7, 197), (7, 198), (1, 12)), ((7, 201), (7, 202), (1, 12)), ((7, 237), (7, 238), (1, 12)), ((8, 6), (0, 144), (1, 12)), ((8, 1), (8, 2), (1, 12)), ((8, 10), (8, 11), (1, 12)), ((8, 14), (8, 15), (1, 12)), ((8, 18), (8, 19), (1, 12)), ((8, 22), (8, 23), (1, 12)), ((8, 26), (8, 27), (1, 12)), ((8, 35), (0, 145), (1, 12)), ((8, 43), (0, 147), (1, 12)), ((8, 39), (0, 146), (1, 12)), ((8, 30), (8, 31), (1, 12)), ((8, 46), (8, 47), (1, 12)), ((8, 50), (8, 51), (1, 12)), ((8, 54), (8, 55), (1, 12)), ((8, 58), (8, 59), (1, 12)), ((8, 62), (8, 63), (1, 12)), ((8, 74), (8, 75), (1, 12)), ((8, 78), (8, 79), (1, 12)), ((8, 82), (8, 83), (1, 12)), ((8, 86), (8, 87), (1, 12)), ((8, 71), (0, 149), (1, 12)), ((8, 90), (8, 91), (1, 12)), ((8, 94), (8, 95), (1, 12)), ((8, 103), (0, 150), (1, 12)), ((8, 98), (8, 99), (1, 12)), ((8, 111), (0, 151), (1, 12)), ((8, 106), (8, 107), (1, 12)), ((8, 114), (8, 115), (1, 12)), ((8, 118), (8, 119), (1, 12)), ((8, 122), (8, 123), (1, 12)), ((8, 67), (0, 148), (1, 12)), ((8, 126), (8, 127), (1, 12)), ((8, 130), (8, 131), (1, 12)), ((8, 134), (8, 135), (1, 12)), ((8, 138), (8, 139), (1, 12)), ((8, 142), (8, 143), (1, 12)), ((8, 146), (8, 147), (1, 12)), ((8, 155), (0, 152), (1, 12)), ((8, 150), (8, 151), (1, 12)), ((4, 148), (0, 0), (1, 13)), ((4, 230), (0, 0), (1, 13)), ((2, 235), (0, 0), (1, 13))]
def mChk (j : Nat) (P : (Nat × Nat) × (Nat × Nat) × (Nat × Nat)) : Bool := decide ((tbC P.1.1)[P.1.2]? = some (if mS j then Cond.static (mY j) else Cond.instanceMethod (mY j))) && (mS j || decide ((mY j).name = "<init>") || decide ((tbC P.2.1.1)[P.2.1.2]? = some (Cond.selects (mY j).cls (mY j) (mY j)))) && decide ((tbC P.2.2.1)[P.2.2.2]? = some (Cond.initialized (mY j).cls)) && decide ((mY j).cls = rN (mC j)) && decide ((mY j).cls ≠ "java/lang/invoke/MethodHandle") && decide ((mY j).cls ≠ "java/lang/invoke/VarHandle") && decide ((parseMethodDescriptor (mY j).desc).map (fun d => d.parameters.length) = some (mN j)) && plainFor (mY j) && decide (mX j ≤ 11) && decide (mN j + (if mS j then 0 else 1) ≤ mX j)
theorem mchk_0 : ((mPos.drop 0).take 47).zipIdx.all (fun q => mChk (q.2 + 0) q.1) = true := by decide +kernel
theorem mchk_47 : ((mPos.drop 47).take 47).zipIdx.all (fun q => mChk (q.2 + 47) q.1) = true := by decide +kernel
theorem mchk_94 : ((mPos.drop 94).take 47).zipIdx.all (fun q => mChk (q.2 + 94) q.1) = true := by decide +kernel
theorem mchk_141 : ((mPos.drop 141).take 47).zipIdx.all (fun q => mChk (q.2 + 141) q.1) = true := by decide +kernel
theorem mchk_188 : ((mPos.drop 188).take 47).zipIdx.all (fun q => mChk (q.2 + 188) q.1) = true := by decide +kernel
theorem mchk_235 : ((mPos.drop 235).take 47).zipIdx.all (fun q => mChk (q.2 + 235) q.1) = true := by decide +kernel
theorem cw_0 : Cond.code yX0_init cX0_init 1 none ∈ lw_tbl := tbC_mem 2 (List.mem_of_getElem? (i := 176) rfl)
theorem cw_1 : Cond.code yX0_clear cX0_clear 1 none ∈ lw_tbl := tbC_mem 3 (List.mem_of_getElem? (i := 109) rfl)
theorem cw_2 : Cond.code yX0_keep cX0_keep 3 none ∈ lw_tbl := tbC_mem 3 (List.mem_of_getElem? (i := 157) rfl)
theorem cw_3 : Cond.code yX0_restore cX0_restore 4 none ∈ lw_tbl := tbC_mem 4 (List.mem_of_getElem? (i := 70) rfl)
theorem cw_4 : Cond.code yX1_init cX1_init 1 none ∈ lw_tbl := tbC_mem 1 (List.mem_of_getElem? (i := 154) rfl)
theorem cw_5 : Cond.code yX1_empty cX1_empty 1 none ∈ lw_tbl := tbC_mem 1 (List.mem_of_getElem? (i := 161) rfl)
theorem cw_6 : Cond.code yX1_copyFrom cX1_copyFrom 3 none ∈ lw_tbl := tbC_mem 3 (List.mem_of_getElem? (i := 85) rfl)
theorem cw_7 : Cond.code yX1_branchOn cX1_branchOn 4 (some .int) ∈ lw_tbl := tbC_mem 3 (List.mem_of_getElem? (i := 125) rfl)
theorem cw_8 : Cond.code yX1_isShut cX1_isShut 3 (some .boolean) ∈ lw_tbl := tbC_mem 3 (List.mem_of_getElem? (i := 197) rfl)
theorem cw_9 : Cond.code yX1_openFrom cX1_openFrom 3 (some .int) ∈ lw_tbl := tbC_mem 3 (List.mem_of_getElem? (i := 193) rfl)
theorem cw_10 : Cond.code yX1_countAtHome cX1_countAtHome 4 (some .int) ∈ lw_tbl := tbC_mem 5 (List.mem_of_getElem? (i := 152) rfl)
theorem cw_11 : Cond.code yX1_countOfTitle cX1_countOfTitle 4 (some .int) ∈ lw_tbl := tbC_mem 5 (List.mem_of_getElem? (i := 184) rfl)
theorem cw_12 : Cond.code yX2_init cX2_init 1 none ∈ lw_tbl := tbC_mem 1 (List.mem_of_getElem? (i := 32) rfl)
theorem cw_13 : Cond.code yX2_put cX2_put 3 none ∈ lw_tbl := tbC_mem 2 (List.mem_of_getElem? (i := 220) rfl)
theorem cw_14 : Cond.code yX2_readInto cX2_readInto 4 (some .boolean) ∈ lw_tbl := tbC_mem 2 (List.mem_of_getElem? (i := 228) rfl)
theorem cw_15 : Cond.code yX2_begin cX2_begin 3 none ∈ lw_tbl := tbC_mem 2 (List.mem_of_getElem? (i := 232) rfl)
theorem cw_16 : Cond.code yX2_endLine cX2_endLine 1 none ∈ lw_tbl := tbC_mem 3 (List.mem_of_getElem? (i := 81) rfl)
theorem cw_17 : Cond.code yX2_readBranch cX2_readBranch 3 none ∈ lw_tbl := tbC_mem 3 (List.mem_of_getElem? (i := 25) rfl)
theorem cw_18 : Cond.code yX2_readTitle cX2_readTitle 1 none ∈ lw_tbl := tbC_mem 3 (List.mem_of_getElem? (i := 49) rfl)
theorem cw_19 : Cond.code yX2_readItem cX2_readItem 1 none ∈ lw_tbl := tbC_mem 3 (List.mem_of_getElem? (i := 53) rfl)
theorem cw_20 : Cond.code yX2_readHold cX2_readHold 1 none ∈ lw_tbl := tbC_mem 3 (List.mem_of_getElem? (i := 69) rfl)
theorem cw_21 : Cond.code yX2_readVan cX2_readVan 3 none ∈ lw_tbl := tbC_mem 3 (List.mem_of_getElem? (i := 61) rfl)
theorem cw_22 : Cond.code yX2_readStop cX2_readStop 4 none ∈ lw_tbl := tbC_mem 3 (List.mem_of_getElem? (i := 65) rfl)
theorem cw_23 : Cond.code yX2_readGrace cX2_readGrace 1 none ∈ lw_tbl := tbC_mem 3 (List.mem_of_getElem? (i := 73) rfl)
theorem cw_24 : Cond.code yX2_readRenews cX2_readRenews 1 none ∈ lw_tbl := tbC_mem 3 (List.mem_of_getElem? (i := 77) rfl)
theorem cw_25 : Cond.code yX2_beginsRow cX2_beginsRow 3 (some .boolean) ∈ lw_tbl := tbC_mem 3 (List.mem_of_getElem? (i := 29) rfl)
theorem cw_26 : Cond.code yX2_takeNewName cX2_takeNewName 4 (some .int) ∈ lw_tbl := tbC_mem 3 (List.mem_of_getElem? (i := 37) rfl)
theorem cw_27 : Cond.code yX2_takeToldName cX2_takeToldName 4 (some .int) ∈ lw_tbl := tbC_mem 3 (List.mem_of_getElem? (i := 57) rfl)
theorem cw_28 : Cond.code yX2_takeNumber cX2_takeNumber 4 (some .int) ∈ lw_tbl := tbC_mem 3 (List.mem_of_getElem? (i := 45) rfl)
theorem cw_29 : Cond.code yX2_numberOfName cX2_numberOfName 4 (some .int) ∈ lw_tbl := tbC_mem 3 (List.mem_of_getElem? (i := 41) rfl)
theorem cw_30 : Cond.code yX2_fail cX2_fail 2 none ∈ lw_tbl := tbC_mem 3 (List.mem_of_getElem? (i := 33) rfl)
theorem cw_31 : Cond.code yX2_advance cX2_advance 1 none ∈ lw_tbl := tbC_mem 3 (List.mem_of_getElem? (i := 0) rfl)
theorem cw_32 : Cond.code yX2_scanWord cX2_scanWord 1 none ∈ lw_tbl := tbC_mem 3 (List.mem_of_getElem? (i := 10) rfl)
theorem cw_33 : Cond.code yX2_scanNumber cX2_scanNumber 1 none ∈ lw_tbl := tbC_mem 3 (List.mem_of_getElem? (i := 21) rfl)
theorem cw_34 : Cond.code yX2_tokenOfWord cX2_tokenOfWord 2 (some .int) ∈ lw_tbl := tbC_mem 3 (List.mem_of_getElem? (i := 14) rfl)
theorem cw_35 : Cond.code yX2_codeOf cX2_codeOf 3 (some .int) ∈ lw_tbl := tbC_mem 1 (List.mem_of_getElem? (i := 37) rfl)
theorem cw_36 : Cond.code yX2_isBlank cX2_isBlank 1 (some .boolean) ∈ lw_tbl := tbC_mem 3 (List.mem_of_getElem? (i := 3) rfl)
theorem cw_37 : Cond.code yX2_isLetter cX2_isLetter 1 (some .boolean) ∈ lw_tbl := tbC_mem 3 (List.mem_of_getElem? (i := 6) rfl)
theorem cw_38 : Cond.code yX2_isDigit cX2_isDigit 1 (some .boolean) ∈ lw_tbl := tbC_mem 3 (List.mem_of_getElem? (i := 17) rfl)
theorem cw_39 : Cond.code yX3_init cX3_init 1 none ∈ lw_tbl := tbC_mem 2 (List.mem_of_getElem? (i := 22) rfl)
theorem cw_40 : Cond.code yX3_begin cX3_begin 3 none ∈ lw_tbl := tbC_mem 3 (List.mem_of_getElem? (i := 96) rfl)
theorem cw_41 : Cond.code yX3_copyFrom cX3_copyFrom 2 none ∈ lw_tbl := tbC_mem 3 (List.mem_of_getElem? (i := 162) rfl)
theorem cw_42 : Cond.code yX3_putAt cX3_putAt 3 none ∈ lw_tbl := tbC_mem 3 (List.mem_of_getElem? (i := 100) rfl)
theorem cw_43 : Cond.code yX3_addHold cX3_addHold 4 (some .int) ∈ lw_tbl := tbC_mem 3 (List.mem_of_getElem? (i := 104) rfl)
theorem cw_44 : Cond.code yX3_cancelHold cX3_cancelHold 3 none ∈ lw_tbl := tbC_mem 3 (List.mem_of_getElem? (i := 181) rfl)
theorem cw_45 : Cond.code yX3_giveItem cX3_giveItem 3 none ∈ lw_tbl := tbC_mem 4 (List.mem_of_getElem? (i := 19) rfl)
theorem cw_46 : Cond.code yX3_lend cX3_lend 4 none ∈ lw_tbl := tbC_mem 4 (List.mem_of_getElem? (i := 30) rfl)
theorem cw_47 : Cond.code yX3_takeBack cX3_takeBack 3 none ∈ lw_tbl := tbC_mem 3 (List.mem_of_getElem? (i := 232) rfl)
theorem cw_48 : Cond.code yX3_board cX3_board 5 none ∈ lw_tbl := tbC_mem 4 (List.mem_of_getElem? (i := 62) rfl)
theorem cw_49 : Cond.code yX3_isThere cX3_isThere 4 (some .boolean) ∈ lw_tbl := tbC_mem 3 (List.mem_of_getElem? (i := 133) rfl)
theorem cw_50 : Cond.code yX3_isFree cX3_isFree 2 (some .boolean) ∈ lw_tbl := tbC_mem 4 (List.mem_of_getElem? (i := 5) rfl)
theorem cw_51 : Cond.code yX3_isWaiting cX3_isWaiting 2 (some .boolean) ∈ lw_tbl := tbC_mem 3 (List.mem_of_getElem? (i := 177) rfl)
theorem cw_52 : Cond.code yX3_isOpenOf cX3_isOpenOf 3 (some .boolean) ∈ lw_tbl := tbC_mem 3 (List.mem_of_getElem? (i := 209) rfl)
theorem cw_53 : Cond.code yX3_countItems cX3_countItems 5 (some .int) ∈ lw_tbl := tbC_mem 3 (List.mem_of_getElem? (i := 129) rfl)
theorem cw_54 : Cond.code yX3_countOpenAt cX3_countOpenAt 4 (some .int) ∈ lw_tbl := tbC_mem 5 (List.mem_of_getElem? (i := 156) rfl)
theorem cw_55 : Cond.code yX3_countOpenOf cX3_countOpenOf 4 (some .int) ∈ lw_tbl := tbC_mem 3 (List.mem_of_getElem? (i := 205) rfl)
theorem cw_56 : Cond.code yX3_countStage cX3_countStage 4 (some .int) ∈ lw_tbl := tbC_mem 5 (List.mem_of_getElem? (i := 73) rfl)
theorem cw_57 : Cond.code yX3_countLoansOf cX3_countLoansOf 4 (some .int) ∈ lw_tbl := tbC_mem 5 (List.mem_of_getElem? (i := 200) rfl)
theorem cw_58 : Cond.code yX3_daysWaited cX3_daysWaited 3 (some .int) ∈ lw_tbl := tbC_mem 4 (List.mem_of_getElem? (i := 138) rfl)
theorem cw_59 : Cond.code yX3_branchBit cX3_branchBit 2 (some .int) ∈ lw_tbl := tbC_mem 5 (List.mem_of_getElem? (i := 65) rfl)
theorem cw_60 : Cond.code yX4_init cX4_init 2 none ∈ lw_tbl := tbC_mem 2 (List.mem_of_getElem? (i := 120) rfl)
theorem cw_61 : Cond.code yX4_forgetAll cX4_forgetAll 2 none ∈ lw_tbl := tbC_mem 2 (List.mem_of_getElem? (i := 125) rfl)
theorem cw_62 : Cond.code yX4_arrivalAt cX4_arrivalAt 11 (some .int) ∈ lw_tbl := tbC_mem 4 (List.mem_of_getElem? (i := 9) rfl)
theorem cw_63 : Cond.code yX4_beginRow cX4_beginRow 5 none ∈ lw_tbl := tbC_mem 4 (List.mem_of_getElem? (i := 13) rfl)
theorem cw_64 : Cond.code yX4_findLeg cX4_findLeg 7 (some .boolean) ∈ lw_tbl := tbC_mem 4 (List.mem_of_getElem? (i := 178) rfl)
theorem cw_65 : Cond.code yX4_vanToBoard cX4_vanToBoard 7 (some .int) ∈ lw_tbl := tbC_mem 4 (List.mem_of_getElem? (i := 57) rfl)
theorem cw_66 : Cond.code yX4_legPart cX4_legPart 2 (some .int) ∈ lw_tbl := tbC_mem 4 (List.mem_of_getElem? (i := 183) rfl)
theorem cw_67 : Cond.code yX4_goLegs cX4_goLegs 9 (some .int) ∈ lw_tbl := tbC_mem 4 (List.mem_of_getElem? (i := 191) rfl)
theorem cw_68 : Cond.code yX5_init cX5_init 1 none ∈ lw_tbl := tbC_mem 1 (List.mem_of_getElem? (i := 148) rfl)
theorem cw_69 : Cond.code yX5_begin cX5_begin 1 none ∈ lw_tbl := tbC_mem 3 (List.mem_of_getElem? (i := 92) rfl)
theorem cw_70 : Cond.code yX5_copyFrom cX5_copyFrom 2 none ∈ lw_tbl := tbC_mem 5 (List.mem_of_getElem? (i := 3) rfl)
theorem cw_71 : Cond.code yX5_goDays cX5_goDays 3 none ∈ lw_tbl := tbC_mem 3 (List.mem_of_getElem? (i := 220) rfl)
theorem cw_72 : Cond.code yX5_goDay cX5_goDay 2 none ∈ lw_tbl := tbC_mem 3 (List.mem_of_getElem? (i := 224) rfl)
theorem cw_73 : Cond.code yX5_takeBackItems cX5_takeBackItems 2 none ∈ lw_tbl := tbC_mem 3 (List.mem_of_getElem? (i := 228) rfl)
theorem cw_74 : Cond.code yX5_giveItems cX5_giveItems 3 none ∈ lw_tbl := tbC_mem 3 (List.mem_of_getElem? (i := 236) rfl)
theorem cw_75 : Cond.code yX5_nearestFree cX5_nearestFree 7 (some .int) ∈ lw_tbl := tbC_mem 4 (List.mem_of_getElem? (i := 0) rfl)
theorem cw_76 : Cond.code yX5_lendItems cX5_lendItems 5 none ∈ lw_tbl := tbC_mem 4 (List.mem_of_getElem? (i := 23) rfl)
theorem cw_77 : Cond.code yX5_leaveVan cX5_leaveVan 3 none ∈ lw_tbl := tbC_mem 4 (List.mem_of_getElem? (i := 34) rfl)
theorem cw_78 : Cond.code yX5_boardVan cX5_boardVan 8 none ∈ lw_tbl := tbC_mem 4 (List.mem_of_getElem? (i := 39) rfl)
theorem cw_79 : Cond.code yX5_lineUp cX5_lineUp 3 none ∈ lw_tbl := tbC_mem 4 (List.mem_of_getElem? (i := 45) rfl)
theorem cw_80 : Cond.code yX5_stepIntoLine cX5_stepIntoLine 3 none ∈ lw_tbl := tbC_mem 4 (List.mem_of_getElem? (i := 49) rfl)
theorem cw_81 : Cond.code yX5_goalOf cX5_goalOf 3 (some .int) ∈ lw_tbl := tbC_mem 4 (List.mem_of_getElem? (i := 53) rfl)
theorem cw_82 : Cond.code yX5_lentWithin cX5_lentWithin 3 (some .int) ∈ lw_tbl := tbC_mem 5 (List.mem_of_getElem? (i := 9) rfl)
theorem cw_83 : Cond.code yX5_countFree cX5_countFree 4 (some .int) ∈ lw_tbl := tbC_mem 5 (List.mem_of_getElem? (i := 188) rfl)
theorem cw_84 : Cond.code yX5_countAstray cX5_countAstray 3 (some .int) ∈ lw_tbl := tbC_mem 5 (List.mem_of_getElem? (i := 57) rfl)
theorem cw_85 : Cond.code yX5_countLoans cX5_countLoans 5 (some .int) ∈ lw_tbl := tbC_mem 4 (List.mem_of_getElem? (i := 79) rfl)
theorem cw_86 : Cond.code yX5_balance cX5_balance 4 (some .int) ∈ lw_tbl := tbC_mem 4 (List.mem_of_getElem? (i := 107) rfl)
theorem cw_87 : Cond.code yX5_branchOfLoan cX5_branchOfLoan 2 (some .int) ∈ lw_tbl := tbC_mem 4 (List.mem_of_getElem? (i := 87) rfl)
theorem cw_88 : Cond.code yX5_homeOfLoan cX5_homeOfLoan 3 (some .int) ∈ lw_tbl := tbC_mem 4 (List.mem_of_getElem? (i := 83) rfl)
theorem cw_89 : Cond.code yX6_init cX6_init 1 none ∈ lw_tbl := tbC_mem 1 (List.mem_of_getElem? (i := 24) rfl)
theorem cw_90 : Cond.code yX6_feed cX6_feed 6 (some .int) ∈ lw_tbl := tbC_mem 2 (List.mem_of_getElem? (i := 216) rfl)
theorem cw_91 : Cond.code yX6_text cX6_text 3 (some .int) ∈ lw_tbl := tbC_mem 2 (List.mem_of_getElem? (i := 224) rfl)
theorem cw_92 : Cond.code yX6_fault cX6_fault 2 (some .int) ∈ lw_tbl := tbC_mem 3 (List.mem_of_getElem? (i := 113) rfl)
theorem cw_93 : Cond.code yX6_branch cX6_branch 3 (some .int) ∈ lw_tbl := tbC_mem 5 (List.mem_of_getElem? (i := 82) rfl)
theorem cw_94 : Cond.code yX6_title cX6_title 3 (some .int) ∈ lw_tbl := tbC_mem 5 (List.mem_of_getElem? (i := 179) rfl)
theorem cw_95 : Cond.code yX6_item cX6_item 3 (some .int) ∈ lw_tbl := tbC_mem 5 (List.mem_of_getElem? (i := 195) rfl)
theorem cw_96 : Cond.code yX6_holdOf cX6_holdOf 3 (some .int) ∈ lw_tbl := tbC_mem 5 (List.mem_of_getElem? (i := 207) rfl)
theorem cw_97 : Cond.code yX6_van cX6_van 3 (some .int) ∈ lw_tbl := tbC_mem 3 (List.mem_of_getElem? (i := 117) rfl)
theorem cw_98 : Cond.code yX6_stop cX6_stop 3 (some .int) ∈ lw_tbl := tbC_mem 3 (List.mem_of_getElem? (i := 137) rfl)
theorem cw_99 : Cond.code yX6_hold cX6_hold 3 (some .int) ∈ lw_tbl := tbC_mem 3 (List.mem_of_getElem? (i := 145) rfl)
theorem cw_100 : Cond.code yX6_cancel cX6_cancel 2 (some .boolean) ∈ lw_tbl := tbC_mem 3 (List.mem_of_getElem? (i := 169) rfl)
theorem cw_101 : Cond.code yX6_recall cX6_recall 3 (some .int) ∈ lw_tbl := tbC_mem 3 (List.mem_of_getElem? (i := 185) rfl)
theorem cw_102 : Cond.code yX6_renew cX6_renew 3 (some .int) ∈ lw_tbl := tbC_mem 3 (List.mem_of_getElem? (i := 201) rfl)
theorem cw_103 : Cond.code yX6_days cX6_days 2 (some .int) ∈ lw_tbl := tbC_mem 3 (List.mem_of_getElem? (i := 213) rfl)
theorem cw_104 : Cond.code yX6_undo cX6_undo 1 (some .int) ∈ lw_tbl := tbC_mem 4 (List.mem_of_getElem? (i := 66) rfl)
theorem cw_105 : Cond.code yX6_owed cX6_owed 3 (some .int) ∈ lw_tbl := tbC_mem 4 (List.mem_of_getElem? (i := 74) rfl)
theorem cw_106 : Cond.code yX6_loans cX6_loans 3 (some .int) ∈ lw_tbl := tbC_mem 4 (List.mem_of_getElem? (i := 91) rfl)
theorem cw_107 : Cond.code yX6_lender cX6_lender 3 (some .int) ∈ lw_tbl := tbC_mem 4 (List.mem_of_getElem? (i := 95) rfl)
theorem cw_108 : Cond.code yX6_ranked cX6_ranked 2 (some .int) ∈ lw_tbl := tbC_mem 4 (List.mem_of_getElem? (i := 111) rfl)
theorem cw_109 : Cond.code yX6_log cX6_log 4 (some .int) ∈ lw_tbl := tbC_mem 4 (List.mem_of_getElem? (i := 115) rfl)
theorem cw_110 : Cond.code yX6_queue cX6_queue 5 (some .int) ∈ lw_tbl := tbC_mem 4 (List.mem_of_getElem? (i := 119) rfl)
theorem cw_111 : Cond.code yX6_inVan cX6_inVan 5 (some .int) ∈ lw_tbl := tbC_mem 4 (List.mem_of_getElem? (i := 124) rfl)
theorem cw_112 : Cond.code yX6_waits cX6_waits 3 (some .int) ∈ lw_tbl := tbC_mem 4 (List.mem_of_getElem? (i := 129) rfl)
theorem cw_113 : Cond.code yX6_longest cX6_longest 3 (some .int) ∈ lw_tbl := tbC_mem 4 (List.mem_of_getElem? (i := 134) rfl)
theorem cw_114 : Cond.code yX6_waited cX6_waited 2 (some .int) ∈ lw_tbl := tbC_mem 4 (List.mem_of_getElem? (i := 142) rfl)
theorem cw_115 : Cond.code yX6_meanWait cX6_meanWait 3 (some .int) ∈ lw_tbl := tbC_mem 4 (List.mem_of_getElem? (i := 146) rfl)
theorem cw_116 : Cond.code yX6_nextDue cX6_nextDue 4 (some .int) ∈ lw_tbl := tbC_mem 4 (List.mem_of_getElem? (i := 153) rfl)
theorem cw_117 : Cond.code yX6_given cX6_given 4 (some .int) ∈ lw_tbl := tbC_mem 4 (List.mem_of_getElem? (i := 157) rfl)
theorem cw_118 : Cond.code yX6_arrival cX6_arrival 4 (some .int) ∈ lw_tbl := tbC_mem 4 (List.mem_of_getElem? (i := 162) rfl)
theorem cw_119 : Cond.code yX6_leg cX6_leg 5 (some .int) ∈ lw_tbl := tbC_mem 4 (List.mem_of_getElem? (i := 174) rfl)
theorem cw_120 : Cond.code yX6_legs cX6_legs 4 (some .int) ∈ lw_tbl := tbC_mem 4 (List.mem_of_getElem? (i := 187) rfl)
theorem cw_121 : Cond.code yX6_path cX6_path 6 (some .int) ∈ lw_tbl := tbC_mem 4 (List.mem_of_getElem? (i := 196) rfl)
theorem cw_122 : Cond.code yX6_reach cX6_reach 6 (some .int) ∈ lw_tbl := tbC_mem 4 (List.mem_of_getElem? (i := 200) rfl)
theorem cw_123 : Cond.code yX6_farthest cX6_farthest 6 (some .int) ∈ lw_tbl := tbC_mem 4 (List.mem_of_getElem? (i := 204) rfl)
theorem cw_124 : Cond.code yX6_center cX6_center 6 (some .int) ∈ lw_tbl := tbC_mem 4 (List.mem_of_getElem? (i := 208) rfl)
theorem cw_125 : Cond.code yX6_thereAndBack cX6_thereAndBack 6 (some .int) ∈ lw_tbl := tbC_mem 4 (List.mem_of_getElem? (i := 216) rfl)
theorem cw_126 : Cond.code yX6_bestDay cX6_bestDay 9 (some .int) ∈ lw_tbl := tbC_mem 4 (List.mem_of_getElem? (i := 220) rfl)
theorem cw_127 : Cond.code yX6_meet cX6_meet 5 (some .int) ∈ lw_tbl := tbC_mem 4 (List.mem_of_getElem? (i := 224) rfl)
theorem cw_128 : Cond.code yX6_every cX6_every 6 (some .int) ∈ lw_tbl := tbC_mem 4 (List.mem_of_getElem? (i := 228) rfl)
theorem cw_129 : Cond.code yX6_busiest cX6_busiest 4 (some .int) ∈ lw_tbl := tbC_mem 4 (List.mem_of_getElem? (i := 235) rfl)
theorem cw_130 : Cond.code yX6_lentOn cX6_lentOn 2 (some .int) ∈ lw_tbl := tbC_mem 4 (List.mem_of_getElem? (i := 239) rfl)
theorem cw_131 : Cond.code yX6_ifHold cX6_ifHold 3 (some .int) ∈ lw_tbl := tbC_mem 5 (List.mem_of_getElem? (i := 14) rfl)
theorem cw_132 : Cond.code yX6_ifCancelled cX6_ifCancelled 3 (some .int) ∈ lw_tbl := tbC_mem 5 (List.mem_of_getElem? (i := 18) rfl)
theorem cw_133 : Cond.code yX6_ifNoVan cX6_ifNoVan 3 (some .int) ∈ lw_tbl := tbC_mem 5 (List.mem_of_getElem? (i := 22) rfl)
theorem cw_134 : Cond.code yX6_ifStop cX6_ifStop 5 (some .int) ∈ lw_tbl := tbC_mem 5 (List.mem_of_getElem? (i := 26) rfl)
theorem cw_135 : Cond.code yX6_ifClosed cX6_ifClosed 4 (some .int) ∈ lw_tbl := tbC_mem 5 (List.mem_of_getElem? (i := 30) rfl)
theorem cw_136 : Cond.code yX6_ifPeriod cX6_ifPeriod 4 (some .int) ∈ lw_tbl := tbC_mem 5 (List.mem_of_getElem? (i := 34) rfl)
theorem cw_137 : Cond.code yX6_ifRoom cX6_ifRoom 4 (some .int) ∈ lw_tbl := tbC_mem 5 (List.mem_of_getElem? (i := 38) rfl)
theorem cw_138 : Cond.code yX6_served cX6_served 2 (some .int) ∈ lw_tbl := tbC_mem 5 (List.mem_of_getElem? (i := 45) rfl)
theorem cw_139 : Cond.code yX6_where cX6_where 3 (some .int) ∈ lw_tbl := tbC_mem 5 (List.mem_of_getElem? (i := 49) rfl)
theorem cw_140 : Cond.code yX6_astray cX6_astray 2 (some .int) ∈ lw_tbl := tbC_mem 5 (List.mem_of_getElem? (i := 53) rfl)
theorem cw_141 : Cond.code yX6_visits cX6_visits 5 (some .int) ∈ lw_tbl := tbC_mem 5 (List.mem_of_getElem? (i := 61) rfl)
theorem cw_142 : Cond.code yX6_count cX6_count 2 (some .int) ∈ lw_tbl := tbC_mem 5 (List.mem_of_getElem? (i := 69) rfl)
theorem cw_143 : Cond.code yX6_isWithin cX6_isWithin 3 (some .boolean) ∈ lw_tbl := tbC_mem 3 (List.mem_of_getElem? (i := 216) rfl)
theorem cw_144 : Cond.code yX6_isDay cX6_isDay 1 (some .boolean) ∈ lw_tbl := tbC_mem 4 (List.mem_of_getElem? (i := 165) rfl)
theorem cw_145 : Cond.code yX6_isForetellable cX6_isForetellable 1 (some .boolean) ∈ lw_tbl := tbC_mem 5 (List.mem_of_getElem? (i := 41) rfl)
theorem cw_146 : Cond.code yX6_orAbsent cX6_orAbsent 1 (some .int) ∈ lw_tbl := tbC_mem 4 (List.mem_of_getElem? (i := 169) rfl)
theorem cw_147 : Cond.code yX6_isBranch cX6_isBranch 2 (some .boolean) ∈ lw_tbl := tbC_mem 3 (List.mem_of_getElem? (i := 149) rfl)
theorem cw_148 : Cond.code yX6_isTitle cX6_isTitle 2 (some .boolean) ∈ lw_tbl := tbC_mem 3 (List.mem_of_getElem? (i := 153) rfl)
theorem cw_149 : Cond.code yX6_isItem cX6_isItem 2 (some .boolean) ∈ lw_tbl := tbC_mem 3 (List.mem_of_getElem? (i := 189) rfl)
theorem cw_150 : Cond.code yX6_isVan cX6_isVan 2 (some .boolean) ∈ lw_tbl := tbC_mem 3 (List.mem_of_getElem? (i := 121) rfl)
theorem cw_151 : Cond.code yX6_isStop cX6_isStop 3 (some .boolean) ∈ lw_tbl := tbC_mem 3 (List.mem_of_getElem? (i := 141) rfl)
theorem cw_152 : Cond.code yX6_isHold cX6_isHold 2 (some .boolean) ∈ lw_tbl := tbC_mem 3 (List.mem_of_getElem? (i := 173) rfl)
theorem cw_153 : Cond.code yX6_branchRanked cX6_branchRanked 3 (some .int) ∈ lw_tbl := tbC_mem 4 (List.mem_of_getElem? (i := 99) rfl)
theorem cw_154 : Cond.code yX6_countAhead cX6_countAhead 6 (some .int) ∈ lw_tbl := tbC_mem 4 (List.mem_of_getElem? (i := 103) rfl)
theorem cw_155 : Cond.code yX6_daysToAll cX6_daysToAll 5 (some .int) ∈ lw_tbl := tbC_mem 4 (List.mem_of_getElem? (i := 212) rfl)
theorem cw_156 : Cond.code yX7_init cX7_init 1 none ∈ lw_tbl := tbC_mem 5 (List.mem_of_getElem? (i := 213) rfl)
theorem cw_157 : Cond.code yX7_thrown cX7_thrown 1 (some .int) ∈ lw_tbl := tbC_mem 6 (List.mem_of_getElem? (i := 151) rfl)
theorem cw_158 : Cond.code yX7_isIn cX7_isIn 3 (some .boolean) ∈ lw_tbl := tbC_mem 6 (List.mem_of_getElem? (i := 166) rfl)
theorem cw_159 : Cond.code yX7_ofHold cX7_ofHold 3 (some .int) ∈ lw_tbl := tbC_mem 7 (List.mem_of_getElem? (i := 111) rfl)
theorem cw_160 : Cond.code yX7_setHold cX7_setHold 4 none ∈ lw_tbl := tbC_mem 7 (List.mem_of_getElem? (i := 35) rfl)
theorem cw_161 : Cond.code yX7_ofItem cX7_ofItem 3 (some .int) ∈ lw_tbl := tbC_mem 7 (List.mem_of_getElem? (i := 119) rfl)
theorem cw_162 : Cond.code yX7_setItem cX7_setItem 4 none ∈ lw_tbl := tbC_mem 7 (List.mem_of_getElem? (i := 23) rfl)
theorem cw_163 : Cond.code yX7_puts cX7_puts 4 none ∈ lw_tbl := tbC_mem 7 (List.mem_of_getElem? (i := 19) rfl)
theorem cw_164 : Cond.code yX7_addsHold cX7_addsHold 4 none ∈ lw_tbl := tbC_mem 7 (List.mem_of_getElem? (i := 31) rfl)
theorem cw_165 : Cond.code yX7_four cX7_four 3 none ∈ lw_tbl := tbC_mem 6 (List.mem_of_getElem? (i := 159) rfl)
theorem cw_166 : Cond.code yX7_feed cX7_feed 6 (some .int) ∈ lw_tbl := tbC_mem 6 (List.mem_of_getElem? (i := 155) rfl)
theorem cw_167 : Cond.code yX7_see cX7_see 1 (some .int) ∈ lw_tbl := tbC_mem 6 (List.mem_of_getElem? (i := 178) rfl)
theorem cw_168 : Cond.code yX7_advance cX7_advance 2 none ∈ lw_tbl := tbC_mem 6 (List.mem_of_getElem? (i := 174) rfl)
theorem cw_169 : Cond.code yX7_must cX7_must 3 none ∈ lw_tbl := tbC_mem 6 (List.mem_of_getElem? (i := 199) rfl)
theorem cw_170 : Cond.code yX7_isWord cX7_isWord 2 (some .boolean) ∈ lw_tbl := tbC_mem 6 (List.mem_of_getElem? (i := 187) rfl)
theorem cw_171 : Cond.code yX7_isName cX7_isName 2 (some .boolean) ∈ lw_tbl := tbC_mem 6 (List.mem_of_getElem? (i := 207) rfl)
theorem cw_172 : Cond.code yX7_numberHere cX7_numberHere 4 (some .int) ∈ lw_tbl := tbC_mem 6 (List.mem_of_getElem? (i := 220) rfl)
theorem cw_173 : Cond.code yX7_at cX7_at 4 (some .int) ∈ lw_tbl := tbC_mem 6 (List.mem_of_getElem? (i := 216) rfl)
theorem cw_174 : Cond.code yX7_opens cX7_opens 3 none ∈ lw_tbl := tbC_mem 6 (List.mem_of_getElem? (i := 195) rfl)
theorem cw_175 : Cond.code yX7_freshHere cX7_freshHere 4 (some .int) ∈ lw_tbl := tbC_mem 6 (List.mem_of_getElem? (i := 203) rfl)
theorem cw_176 : Cond.code yX7_toldHere cX7_toldHere 4 (some .int) ∈ lw_tbl := tbC_mem 6 (List.mem_of_getElem? (i := 236) rfl)
theorem cw_177 : Cond.code yX7_branchHere cX7_branchHere 1 (some .int) ∈ lw_tbl := tbC_mem 7 (List.mem_of_getElem? (i := 0) rfl)
theorem cw_178 : Cond.code yX7_titleHere cX7_titleHere 1 (some .int) ∈ lw_tbl := tbC_mem 6 (List.mem_of_getElem? (i := 232) rfl)
theorem cw_179 : Cond.code yX7_readsBranch cX7_readsBranch 3 none ∈ lw_tbl := tbC_mem 6 (List.mem_of_getElem? (i := 191) rfl)
theorem cw_180 : Cond.code yX7_readsTitle cX7_readsTitle 3 none ∈ lw_tbl := tbC_mem 6 (List.mem_of_getElem? (i := 224) rfl)
theorem cw_181 : Cond.code yX7_readsItem cX7_readsItem 3 none ∈ lw_tbl := tbC_mem 6 (List.mem_of_getElem? (i := 228) rfl)
theorem cw_182 : Cond.code yX7_readsVan cX7_readsVan 4 none ∈ lw_tbl := tbC_mem 7 (List.mem_of_getElem? (i := 4) rfl)
theorem cw_183 : Cond.code yX7_readsHold cX7_readsHold 3 none ∈ lw_tbl := tbC_mem 7 (List.mem_of_getElem? (i := 8) rfl)
theorem cw_184 : Cond.code yX7_readsLine cX7_readsLine 1 none ∈ lw_tbl := tbC_mem 6 (List.mem_of_getElem? (i := 182) rfl)
theorem cw_185 : Cond.code yX7_begins cX7_begins 1 none ∈ lw_tbl := tbC_mem 6 (List.mem_of_getElem? (i := 170) rfl)
theorem cw_186 : Cond.code yX7_text cX7_text 2 (some .int) ∈ lw_tbl := tbC_mem 6 (List.mem_of_getElem? (i := 163) rfl)
theorem cw_187 : Cond.code yX7_copies cX7_copies 4 none ∈ lw_tbl := tbC_mem 7 (List.mem_of_getElem? (i := 15) rfl)
theorem cw_188 : Cond.code yX7_becomes cX7_becomes 2 none ∈ lw_tbl := tbC_mem 7 (List.mem_of_getElem? (i := 12) rfl)
theorem cw_189 : Cond.code yX7_freesItem cX7_freesItem 2 none ∈ lw_tbl := tbC_mem 7 (List.mem_of_getElem? (i := 27) rfl)
theorem cw_190 : Cond.code yX7_fault cX7_fault 2 (some .int) ∈ lw_tbl := tbC_mem 7 (List.mem_of_getElem? (i := 39) rfl)
theorem cw_191 : Cond.code yX7_isBranch cX7_isBranch 2 (some .boolean) ∈ lw_tbl := tbC_mem 7 (List.mem_of_getElem? (i := 51) rfl)
theorem cw_192 : Cond.code yX7_isTitle cX7_isTitle 2 (some .boolean) ∈ lw_tbl := tbC_mem 7 (List.mem_of_getElem? (i := 127) rfl)
theorem cw_193 : Cond.code yX7_isItem cX7_isItem 2 (some .boolean) ∈ lw_tbl := tbC_mem 7 (List.mem_of_getElem? (i := 139) rfl)
theorem cw_194 : Cond.code yX7_isHold cX7_isHold 2 (some .boolean) ∈ lw_tbl := tbC_mem 7 (List.mem_of_getElem? (i := 147) rfl)
theorem cw_195 : Cond.code yX7_isVan cX7_isVan 2 (some .boolean) ∈ lw_tbl := tbC_mem 7 (List.mem_of_getElem? (i := 155) rfl)
theorem cw_196 : Cond.code yX7_isShut cX7_isShut 3 (some .boolean) ∈ lw_tbl := tbC_mem 7 (List.mem_of_getElem? (i := 195) rfl)
theorem cw_197 : Cond.code yX7_openFrom cX7_openFrom 3 (some .int) ∈ lw_tbl := tbC_mem 7 (List.mem_of_getElem? (i := 191) rfl)
theorem cw_198 : Cond.code yX7_stopOf cX7_stopOf 3 (some .int) ∈ lw_tbl := tbC_mem 7 (List.mem_of_getElem? (i := 63) rfl)
theorem cw_199 : Cond.code yX7_isFree cX7_isFree 2 (some .boolean) ∈ lw_tbl := tbC_mem 7 (List.mem_of_getElem? (i := 131) rfl)
theorem cw_200 : Cond.code yX7_laysEarly cX7_laysEarly 8 none ∈ lw_tbl := tbC_mem 7 (List.mem_of_getElem? (i := 59) rfl)
theorem cw_201 : Cond.code yX7_arrivalOf cX7_arrivalOf 4 (some .int) ∈ lw_tbl := tbC_mem 7 (List.mem_of_getElem? (i := 55) rfl)
theorem cw_202 : Cond.code yX7_laysLeads cX7_laysLeads 9 none ∈ lw_tbl := tbC_mem 7 (List.mem_of_getElem? (i := 75) rfl)
theorem cw_203 : Cond.code yX7_laysLeg cX7_laysLeg 8 (some .boolean) ∈ lw_tbl := tbC_mem 7 (List.mem_of_getElem? (i := 71) rfl)
theorem cw_204 : Cond.code yX7_isWay cX7_isWay 4 (some .boolean) ∈ lw_tbl := tbC_mem 7 (List.mem_of_getElem? (i := 47) rfl)
theorem cw_205 : Cond.code yX7_arrival cX7_arrival 4 (some .int) ∈ lw_tbl := tbC_mem 7 (List.mem_of_getElem? (i := 43) rfl)
theorem cw_206 : Cond.code yX7_leg cX7_leg 5 (some .int) ∈ lw_tbl := tbC_mem 7 (List.mem_of_getElem? (i := 67) rfl)
theorem cw_207 : Cond.code yX7_legs cX7_legs 7 (some .int) ∈ lw_tbl := tbC_mem 7 (List.mem_of_getElem? (i := 79) rfl)
theorem cw_208 : Cond.code yX7_path cX7_path 9 (some .int) ∈ lw_tbl := tbC_mem 7 (List.mem_of_getElem? (i := 83) rfl)
theorem cw_209 : Cond.code yX7_thereAndBack cX7_thereAndBack 6 (some .int) ∈ lw_tbl := tbC_mem 7 (List.mem_of_getElem? (i := 87) rfl)
theorem cw_210 : Cond.code yX7_bestDay cX7_bestDay 8 (some .int) ∈ lw_tbl := tbC_mem 7 (List.mem_of_getElem? (i := 91) rfl)
theorem cw_211 : Cond.code yX7_reach cX7_reach 6 (some .int) ∈ lw_tbl := tbC_mem 7 (List.mem_of_getElem? (i := 95) rfl)
theorem cw_212 : Cond.code yX7_center cX7_center 7 (some .int) ∈ lw_tbl := tbC_mem 7 (List.mem_of_getElem? (i := 99) rfl)
theorem cw_213 : Cond.code yX7_comesBack cX7_comesBack 3 none ∈ lw_tbl := tbC_mem 7 (List.mem_of_getElem? (i := 211) rfl)
theorem cw_214 : Cond.code yX7_givenTo cX7_givenTo 7 (some .int) ∈ lw_tbl := tbC_mem 7 (List.mem_of_getElem? (i := 219) rfl)
theorem cw_215 : Cond.code yX7_gives cX7_gives 3 none ∈ lw_tbl := tbC_mem 7 (List.mem_of_getElem? (i := 215) rfl)
theorem cw_216 : Cond.code yX7_lends cX7_lends 5 none ∈ lw_tbl := tbC_mem 7 (List.mem_of_getElem? (i := 223) rfl)
theorem cw_217 : Cond.code yX7_inside cX7_inside 4 (some .int) ∈ lw_tbl := tbC_mem 7 (List.mem_of_getElem? (i := 159) rfl)
theorem cw_218 : Cond.code yX7_goal cX7_goal 4 (some .int) ∈ lw_tbl := tbC_mem 7 (List.mem_of_getElem? (i := 235) rfl)
theorem cw_219 : Cond.code yX7_boards cX7_boards 4 none ∈ lw_tbl := tbC_mem 7 (List.mem_of_getElem? (i := 231) rfl)
theorem cw_220 : Cond.code yX7_isAt cX7_isAt 3 (some .boolean) ∈ lw_tbl := tbC_mem 7 (List.mem_of_getElem? (i := 115) rfl)
theorem cw_221 : Cond.code yX7_drives cX7_drives 4 none ∈ lw_tbl := tbC_mem 7 (List.mem_of_getElem? (i := 227) rfl)
theorem cw_222 : Cond.code yX7_passes cX7_passes 2 none ∈ lw_tbl := tbC_mem 7 (List.mem_of_getElem? (i := 207) rfl)
theorem cw_223 : Cond.code yX7_openOf cX7_openOf 5 (some .int) ∈ lw_tbl := tbC_mem 7 (List.mem_of_getElem? (i := 107) rfl)
theorem cw_224 : Cond.code yX7_branch cX7_branch 5 (some .int) ∈ lw_tbl := tbC_mem 7 (List.mem_of_getElem? (i := 103) rfl)
theorem cw_225 : Cond.code yX7_title cX7_title 5 (some .int) ∈ lw_tbl := tbC_mem 7 (List.mem_of_getElem? (i := 123) rfl)
theorem cw_226 : Cond.code yX7_item cX7_item 3 (some .int) ∈ lw_tbl := tbC_mem 7 (List.mem_of_getElem? (i := 135) rfl)
theorem cw_227 : Cond.code yX7_holdOf cX7_holdOf 3 (some .int) ∈ lw_tbl := tbC_mem 7 (List.mem_of_getElem? (i := 143) rfl)
theorem cw_228 : Cond.code yX7_van cX7_van 3 (some .int) ∈ lw_tbl := tbC_mem 7 (List.mem_of_getElem? (i := 151) rfl)
theorem cw_229 : Cond.code yX7_stop cX7_stop 3 (some .int) ∈ lw_tbl := tbC_mem 7 (List.mem_of_getElem? (i := 163) rfl)
theorem cw_230 : Cond.code yX7_keeps cX7_keeps 2 none ∈ lw_tbl := tbC_mem 7 (List.mem_of_getElem? (i := 171) rfl)
theorem cw_231 : Cond.code yX7_hold cX7_hold 3 (some .int) ∈ lw_tbl := tbC_mem 7 (List.mem_of_getElem? (i := 167) rfl)
theorem cw_232 : Cond.code yX7_mayCancel cX7_mayCancel 2 (some .boolean) ∈ lw_tbl := tbC_mem 7 (List.mem_of_getElem? (i := 179) rfl)
theorem cw_233 : Cond.code yX7_cancels cX7_cancels 2 none ∈ lw_tbl := tbC_mem 7 (List.mem_of_getElem? (i := 183) rfl)
theorem cw_234 : Cond.code yX7_cancel cX7_cancel 2 (some .boolean) ∈ lw_tbl := tbC_mem 7 (List.mem_of_getElem? (i := 175) rfl)
theorem cw_235 : Cond.code yX7_recall cX7_recall 3 (some .int) ∈ lw_tbl := tbC_mem 7 (List.mem_of_getElem? (i := 187) rfl)
theorem cw_236 : Cond.code yX7_renew cX7_renew 2 (some .int) ∈ lw_tbl := tbC_mem 7 (List.mem_of_getElem? (i := 199) rfl)
theorem cw_237 : Cond.code yX7_days cX7_days 3 (some .int) ∈ lw_tbl := tbC_mem 7 (List.mem_of_getElem? (i := 203) rfl)
theorem cw_238 : Cond.code yX7_undo cX7_undo 2 (some .int) ∈ lw_tbl := tbC_mem 7 (List.mem_of_getElem? (i := 239) rfl)
theorem cw_239 : Cond.code yX7_balance cX7_balance 3 (some .int) ∈ lw_tbl := tbC_mem 8 (List.mem_of_getElem? (i := 7) rfl)
theorem cw_240 : Cond.code yX7_owed cX7_owed 3 (some .int) ∈ lw_tbl := tbC_mem 8 (List.mem_of_getElem? (i := 3) rfl)
theorem cw_241 : Cond.code yX7_loans cX7_loans 3 (some .int) ∈ lw_tbl := tbC_mem 8 (List.mem_of_getElem? (i := 12) rfl)
theorem cw_242 : Cond.code yX7_queue cX7_queue 5 (some .int) ∈ lw_tbl := tbC_mem 8 (List.mem_of_getElem? (i := 16) rfl)
theorem cw_243 : Cond.code yX7_inVan cX7_inVan 5 (some .int) ∈ lw_tbl := tbC_mem 8 (List.mem_of_getElem? (i := 20) rfl)
theorem cw_244 : Cond.code yX7_waits cX7_waits 5 (some .int) ∈ lw_tbl := tbC_mem 8 (List.mem_of_getElem? (i := 24) rfl)
theorem cw_245 : Cond.code yX7_given cX7_given 3 (some .int) ∈ lw_tbl := tbC_mem 8 (List.mem_of_getElem? (i := 28) rfl)
theorem cw_246 : Cond.code yX7_tries cX7_tries 1 none ∈ lw_tbl := tbC_mem 8 (List.mem_of_getElem? (i := 36) rfl)
theorem cw_247 : Cond.code yX7_returns cX7_returns 1 none ∈ lw_tbl := tbC_mem 8 (List.mem_of_getElem? (i := 44) rfl)
theorem cw_248 : Cond.code yX7_lentAhead cX7_lentAhead 3 (some .int) ∈ lw_tbl := tbC_mem 8 (List.mem_of_getElem? (i := 40) rfl)
theorem cw_249 : Cond.code yX7_lentOn cX7_lentOn 3 (some .int) ∈ lw_tbl := tbC_mem 8 (List.mem_of_getElem? (i := 32) rfl)
theorem cw_250 : Cond.code yX7_ifHold cX7_ifHold 4 (some .int) ∈ lw_tbl := tbC_mem 8 (List.mem_of_getElem? (i := 48) rfl)
theorem cw_251 : Cond.code yX7_ifCancelled cX7_ifCancelled 4 (some .int) ∈ lw_tbl := tbC_mem 8 (List.mem_of_getElem? (i := 52) rfl)
theorem cw_252 : Cond.code yX7_ifNoVan cX7_ifNoVan 4 (some .int) ∈ lw_tbl := tbC_mem 8 (List.mem_of_getElem? (i := 56) rfl)
theorem cw_253 : Cond.code yX7_ifStop cX7_ifStop 7 (some .int) ∈ lw_tbl := tbC_mem 8 (List.mem_of_getElem? (i := 60) rfl)
theorem cw_254 : Cond.code yX7_ifRoom cX7_ifRoom 6 (some .int) ∈ lw_tbl := tbC_mem 8 (List.mem_of_getElem? (i := 64) rfl)
theorem cw_255 : Cond.code yX7_ifClosed cX7_ifClosed 6 (some .int) ∈ lw_tbl := tbC_mem 8 (List.mem_of_getElem? (i := 76) rfl)
theorem cw_256 : Cond.code yX7_ifPeriod cX7_ifPeriod 6 (some .int) ∈ lw_tbl := tbC_mem 8 (List.mem_of_getElem? (i := 80) rfl)
theorem cw_257 : Cond.code yX7_visits cX7_visits 5 (some .int) ∈ lw_tbl := tbC_mem 8 (List.mem_of_getElem? (i := 84) rfl)
theorem cw_258 : Cond.code yX7_astray cX7_astray 4 (some .int) ∈ lw_tbl := tbC_mem 8 (List.mem_of_getElem? (i := 88) rfl)
theorem cw_259 : Cond.code yX7_wasLent cX7_wasLent 2 (some .boolean) ∈ lw_tbl := tbC_mem 8 (List.mem_of_getElem? (i := 72) rfl)
theorem cw_260 : Cond.code yX7_waited cX7_waited 2 (some .int) ∈ lw_tbl := tbC_mem 8 (List.mem_of_getElem? (i := 92) rfl)
theorem cw_261 : Cond.code yX7_meanWait cX7_meanWait 4 (some .int) ∈ lw_tbl := tbC_mem 8 (List.mem_of_getElem? (i := 96) rfl)
theorem cw_262 : Cond.code yX7_isSooner cX7_isSooner 5 (some .boolean) ∈ lw_tbl := tbC_mem 8 (List.mem_of_getElem? (i := 104) rfl)
theorem cw_263 : Cond.code yX7_log cX7_log 6 (some .int) ∈ lw_tbl := tbC_mem 8 (List.mem_of_getElem? (i := 100) rfl)
theorem cw_264 : Cond.code yX7_allOwed cX7_allOwed 4 (some .int) ∈ lw_tbl := tbC_mem 8 (List.mem_of_getElem? (i := 112) rfl)
theorem cw_265 : Cond.code yX7_ranked cX7_ranked 5 (some .int) ∈ lw_tbl := tbC_mem 8 (List.mem_of_getElem? (i := 108) rfl)
theorem cw_266 : Cond.code yX7_busiest cX7_busiest 4 (some .int) ∈ lw_tbl := tbC_mem 8 (List.mem_of_getElem? (i := 116) rfl)
theorem cw_267 : Cond.code yX7_where cX7_where 4 (some .int) ∈ lw_tbl := tbC_mem 8 (List.mem_of_getElem? (i := 120) rfl)
theorem cw_268 : Cond.code yX7_served cX7_served 2 (some .int) ∈ lw_tbl := tbC_mem 8 (List.mem_of_getElem? (i := 124) rfl)
theorem cw_269 : Cond.code yX7_servedIn cX7_servedIn 4 (some .int) ∈ lw_tbl := tbC_mem 8 (List.mem_of_getElem? (i := 68) rfl)
theorem cw_270 : Cond.code yX7_meet cX7_meet 4 (some .int) ∈ lw_tbl := tbC_mem 8 (List.mem_of_getElem? (i := 128) rfl)
theorem cw_271 : Cond.code yX7_every cX7_every 6 (some .int) ∈ lw_tbl := tbC_mem 8 (List.mem_of_getElem? (i := 132) rfl)
theorem cw_272 : Cond.code yX7_farthest cX7_farthest 5 (some .int) ∈ lw_tbl := tbC_mem 8 (List.mem_of_getElem? (i := 136) rfl)
theorem cw_273 : Cond.code yX7_longest cX7_longest 4 (some .int) ∈ lw_tbl := tbC_mem 8 (List.mem_of_getElem? (i := 140) rfl)
theorem cw_274 : Cond.code yX7_lender cX7_lender 6 (some .int) ∈ lw_tbl := tbC_mem 8 (List.mem_of_getElem? (i := 144) rfl)
theorem cw_275 : Cond.code yX7_nextDue cX7_nextDue 4 (some .int) ∈ lw_tbl := tbC_mem 8 (List.mem_of_getElem? (i := 148) rfl)
theorem cw_276 : Cond.code yX7_inState cX7_inState 4 (some .int) ∈ lw_tbl := tbC_mem 8 (List.mem_of_getElem? (i := 156) rfl)
theorem cw_277 : Cond.code yX7_count cX7_count 2 (some .int) ∈ lw_tbl := tbC_mem 8 (List.mem_of_getElem? (i := 152) rfl)
theorem cw_278 : Cond.code yJ9_floorDiv_7cf53 cJ9_floorDiv_7cf53 3 (some .int) ∈ lw_tbl := tbC_mem 4 (List.mem_of_getElem? (i := 149) rfl)
theorem cw_279 : Cond.code yJ9_max_7cf53 cJ9_max_7cf53 2 (some .int) ∈ lw_tbl := tbC_mem 4 (List.mem_of_getElem? (i := 231) rfl)
theorem cw_280 : Cond.code yJ9_min_7cf53 cJ9_min_7cf53 2 (some .int) ∈ lw_tbl := tbC_mem 2 (List.mem_of_getElem? (i := 236) rfl)
theorem cwr_0 : ∀ r ∈ (mTab.drop 0).take 40, Cond.code r.1 r.2.1 r.2.2.1 r.2.2.2.1 ∈ lw_tbl := List.forall_mem_cons.mpr ⟨cw_0, List.forall_mem_cons.mpr ⟨cw_1, List.forall_mem_cons.mpr ⟨cw_2, List.forall_mem_cons.mpr ⟨cw_3, List.forall_mem_cons.mpr ⟨cw_4, List.forall_mem_cons.mpr ⟨cw_5, List.forall_mem_cons.mpr ⟨cw_6, List.forall_mem_cons.mpr ⟨cw_7, List.forall_mem_cons.mpr ⟨cw_8, List.forall_mem_cons.mpr ⟨cw_9, List.forall_mem_cons.mpr ⟨cw_10, List.forall_mem_cons.mpr ⟨cw_11, List.forall_mem_cons.mpr ⟨cw_12, List.forall_mem_cons.mpr ⟨cw_13, List.forall_mem_cons.mpr ⟨cw_14, List.forall_mem_cons.mpr ⟨cw_15, List.forall_mem_cons.mpr ⟨cw_16, List.forall_mem_cons.mpr ⟨cw_17, List.forall_mem_cons.mpr ⟨cw_18, List.forall_mem_cons.mpr ⟨cw_19, List.forall_mem_cons.mpr ⟨cw_20, List.forall_mem_cons.mpr ⟨cw_21, List.forall_mem_cons.mpr ⟨cw_22, List.forall_mem_cons.mpr ⟨cw_23, List.forall_mem_cons.mpr ⟨cw_24, List.forall_mem_cons.mpr ⟨cw_25, List.forall_mem_cons.mpr ⟨cw_26, List.forall_mem_cons.mpr ⟨cw_27, List.forall_mem_cons.mpr ⟨cw_28, List.forall_mem_cons.mpr ⟨cw_29, List.forall_mem_cons.mpr ⟨cw_30, List.forall_mem_cons.mpr ⟨cw_31, List.forall_mem_cons.mpr ⟨cw_32, List.forall_mem_cons.mpr ⟨cw_33, List.forall_mem_cons.mpr ⟨cw_34, List.forall_mem_cons.mpr ⟨cw_35, List.forall_mem_cons.mpr ⟨cw_36, List.forall_mem_cons.mpr ⟨cw_37, List.forall_mem_cons.mpr ⟨cw_38, List.forall_mem_cons.mpr ⟨cw_39, fun _ h => absurd h List.not_mem_nil⟩⟩⟩⟩⟩⟩⟩⟩⟩⟩⟩⟩⟩⟩⟩⟩⟩⟩⟩⟩⟩⟩⟩⟩⟩⟩⟩⟩⟩⟩⟩⟩⟩⟩⟩⟩⟩⟩⟩⟩
theorem cwr_40 : ∀ r ∈ (mTab.drop 40).take 40, Cond.code r.1 r.2.1 r.2.2.1 r.2.2.2.1 ∈ lw_tbl := List.forall_mem_cons.mpr ⟨cw_40, List.forall_mem_cons.mpr ⟨cw_41, List.forall_mem_cons.mpr ⟨cw_42, List.forall_mem_cons.mpr ⟨cw_43, List.forall_mem_cons.mpr ⟨cw_44, List.forall_mem_cons.mpr ⟨cw_45, List.forall_mem_cons.mpr ⟨cw_46, List.forall_mem_cons.mpr ⟨cw_47, List.forall_mem_cons.mpr ⟨cw_48, List.forall_mem_cons.mpr ⟨cw_49, List.forall_mem_cons.mpr ⟨cw_50, List.forall_mem_cons.mpr ⟨cw_51, List.forall_mem_cons.mpr ⟨cw_52, List.forall_mem_cons.mpr ⟨cw_53, List.forall_mem_cons.mpr ⟨cw_54, List.forall_mem_cons.mpr ⟨cw_55, List.forall_mem_cons.mpr ⟨cw_56, List.forall_mem_cons.mpr ⟨cw_57, List.forall_mem_cons.mpr ⟨cw_58, List.forall_mem_cons.mpr ⟨cw_59, List.forall_mem_cons.mpr ⟨cw_60, List.forall_mem_cons.mpr ⟨cw_61, List.forall_mem_cons.mpr ⟨cw_62, List.forall_mem_cons.mpr ⟨cw_63, List.forall_mem_cons.mpr ⟨cw_64, List.forall_mem_cons.mpr ⟨cw_65, List.forall_mem_cons.mpr ⟨cw_66, List.forall_mem_cons.mpr ⟨cw_67, List.forall_mem_cons.mpr ⟨cw_68, List.forall_mem_cons.mpr ⟨cw_69, List.forall_mem_cons.mpr ⟨cw_70, List.forall_mem_cons.mpr ⟨cw_71, List.forall_mem_cons.mpr ⟨cw_72, List.forall_mem_cons.mpr ⟨cw_73, List.forall_mem_cons.mpr ⟨cw_74, List.forall_mem_cons.mpr ⟨cw_75, List.forall_mem_cons.mpr ⟨cw_76, List.forall_mem_cons.mpr ⟨cw_77, List.forall_mem_cons.mpr ⟨cw_78, List.forall_mem_cons.mpr ⟨cw_79, fun _ h => absurd h List.not_mem_nil⟩⟩⟩⟩⟩⟩⟩⟩⟩⟩⟩⟩⟩⟩⟩⟩⟩⟩⟩⟩⟩⟩⟩⟩⟩⟩⟩⟩⟩⟩⟩⟩⟩⟩⟩⟩⟩⟩⟩⟩
theorem cwr_80 : ∀ r ∈ (mTab.drop 80).take 40, Cond.code r.1 r.2.1 r.2.2.1 r.2.2.2.1 ∈ lw_tbl := List.forall_mem_cons.mpr ⟨cw_80, List.forall_mem_cons.mpr ⟨cw_81, List.forall_mem_cons.mpr ⟨cw_82, List.forall_mem_cons.mpr ⟨cw_83, List.forall_mem_cons.mpr ⟨cw_84, List.forall_mem_cons.mpr ⟨cw_85, List.forall_mem_cons.mpr ⟨cw_86, List.forall_mem_cons.mpr ⟨cw_87, List.forall_mem_cons.mpr ⟨cw_88, List.forall_mem_cons.mpr ⟨cw_89, List.forall_mem_cons.mpr ⟨cw_90, List.forall_mem_cons.mpr ⟨cw_91, List.forall_mem_cons.mpr ⟨cw_92, List.forall_mem_cons.mpr ⟨cw_93, List.forall_mem_cons.mpr ⟨cw_94, List.forall_mem_cons.mpr ⟨cw_95, List.forall_mem_cons.mpr ⟨cw_96, List.forall_mem_cons.mpr ⟨cw_97, List.forall_mem_cons.mpr ⟨cw_98, List.forall_mem_cons.mpr ⟨cw_99, List.forall_mem_cons.mpr ⟨cw_100, List.forall_mem_cons.mpr ⟨cw_101, List.forall_mem_cons.mpr ⟨cw_102, List.forall_mem_cons.mpr ⟨cw_103, List.forall_mem_cons.mpr ⟨cw_104, List.forall_mem_cons.mpr ⟨cw_105, List.forall_mem_cons.mpr ⟨cw_106, List.forall_mem_cons.mpr ⟨cw_107, List.forall_mem_cons.mpr ⟨cw_108, List.forall_mem_cons.mpr ⟨cw_109, List.forall_mem_cons.mpr ⟨cw_110, List.forall_mem_cons.mpr ⟨cw_111, List.forall_mem_cons.mpr ⟨cw_112, List.forall_mem_cons.mpr ⟨cw_113, List.forall_mem_cons.mpr ⟨cw_114, List.forall_mem_cons.mpr ⟨cw_115, List.forall_mem_cons.mpr ⟨cw_116, List.forall_mem_cons.mpr ⟨cw_117, List.forall_mem_cons.mpr ⟨cw_118, List.forall_mem_cons.mpr ⟨cw_119, fun _ h => absurd h List.not_mem_nil⟩⟩⟩⟩⟩⟩⟩⟩⟩⟩⟩⟩⟩⟩⟩⟩⟩⟩⟩⟩⟩⟩⟩⟩⟩⟩⟩⟩⟩⟩⟩⟩⟩⟩⟩⟩⟩⟩⟩⟩
theorem cwr_120 : ∀ r ∈ (mTab.drop 120).take 40, Cond.code r.1 r.2.1 r.2.2.1 r.2.2.2.1 ∈ lw_tbl := List.forall_mem_cons.mpr ⟨cw_120, List.forall_mem_cons.mpr ⟨cw_121, List.forall_mem_cons.mpr ⟨cw_122, List.forall_mem_cons.mpr ⟨cw_123, List.forall_mem_cons.mpr ⟨cw_124, List.forall_mem_cons.mpr ⟨cw_125, List.forall_mem_cons.mpr ⟨cw_126, List.forall_mem_cons.mpr ⟨cw_127, List.forall_mem_cons.mpr ⟨cw_128, List.forall_mem_cons.mpr ⟨cw_129, List.forall_mem_cons.mpr ⟨cw_130, List.forall_mem_cons.mpr ⟨cw_131, List.forall_mem_cons.mpr ⟨cw_132, List.forall_mem_cons.mpr ⟨cw_133, List.forall_mem_cons.mpr ⟨cw_134, List.forall_mem_cons.mpr ⟨cw_135, List.forall_mem_cons.mpr ⟨cw_136, List.forall_mem_cons.mpr ⟨cw_137, List.forall_mem_cons.mpr ⟨cw_138, List.forall_mem_cons.mpr ⟨cw_139, List.forall_mem_cons.mpr ⟨cw_140, List.forall_mem_cons.mpr ⟨cw_141, List.forall_mem_cons.mpr ⟨cw_142, List.forall_mem_cons.mpr ⟨cw_143, List.forall_mem_cons.mpr ⟨cw_144, List.forall_mem_cons.mpr ⟨cw_145, List.forall_mem_cons.mpr ⟨cw_146, List.forall_mem_cons.mpr ⟨cw_147, List.forall_mem_cons.mpr ⟨cw_148, List.forall_mem_cons.mpr ⟨cw_149, List.forall_mem_cons.mpr ⟨cw_150, List.forall_mem_cons.mpr ⟨cw_151, List.forall_mem_cons.mpr ⟨cw_152, List.forall_mem_cons.mpr ⟨cw_153, List.forall_mem_cons.mpr ⟨cw_154, List.forall_mem_cons.mpr ⟨cw_155, List.forall_mem_cons.mpr ⟨cw_156, List.forall_mem_cons.mpr ⟨cw_157, List.forall_mem_cons.mpr ⟨cw_158, List.forall_mem_cons.mpr ⟨cw_159, fun _ h => absurd h List.not_mem_nil⟩⟩⟩⟩⟩⟩⟩⟩⟩⟩⟩⟩⟩⟩⟩⟩⟩⟩⟩⟩⟩⟩⟩⟩⟩⟩⟩⟩⟩⟩⟩⟩⟩⟩⟩⟩⟩⟩⟩⟩
theorem cwr_160 : ∀ r ∈ (mTab.drop 160).take 40, Cond.code r.1 r.2.1 r.2.2.1 r.2.2.2.1 ∈ lw_tbl := List.forall_mem_cons.mpr ⟨cw_160, List.forall_mem_cons.mpr ⟨cw_161, List.forall_mem_cons.mpr ⟨cw_162, List.forall_mem_cons.mpr ⟨cw_163, List.forall_mem_cons.mpr ⟨cw_164, List.forall_mem_cons.mpr ⟨cw_165, List.forall_mem_cons.mpr ⟨cw_166, List.forall_mem_cons.mpr ⟨cw_167, List.forall_mem_cons.mpr ⟨cw_168, List.forall_mem_cons.mpr ⟨cw_169, List.forall_mem_cons.mpr ⟨cw_170, List.forall_mem_cons.mpr ⟨cw_171, List.forall_mem_cons.mpr ⟨cw_172, List.forall_mem_cons.mpr ⟨cw_173, List.forall_mem_cons.mpr ⟨cw_174, List.forall_mem_cons.mpr ⟨cw_175, List.forall_mem_cons.mpr ⟨cw_176, List.forall_mem_cons.mpr ⟨cw_177, List.forall_mem_cons.mpr ⟨cw_178, List.forall_mem_cons.mpr ⟨cw_179, List.forall_mem_cons.mpr ⟨cw_180, List.forall_mem_cons.mpr ⟨cw_181, List.forall_mem_cons.mpr ⟨cw_182, List.forall_mem_cons.mpr ⟨cw_183, List.forall_mem_cons.mpr ⟨cw_184, List.forall_mem_cons.mpr ⟨cw_185, List.forall_mem_cons.mpr ⟨cw_186, List.forall_mem_cons.mpr ⟨cw_187, List.forall_mem_cons.mpr ⟨cw_188, List.forall_mem_cons.mpr ⟨cw_189, List.forall_mem_cons.mpr ⟨cw_190, List.forall_mem_cons.mpr ⟨cw_191, List.forall_mem_cons.mpr ⟨cw_192, List.forall_mem_cons.mpr ⟨cw_193, List.forall_mem_cons.mpr ⟨cw_194, List.forall_mem_cons.mpr ⟨cw_195, List.forall_mem_cons.mpr ⟨cw_196, List.forall_mem_cons.mpr ⟨cw_197, List.forall_mem_cons.mpr ⟨cw_198, List.forall_mem_cons.mpr ⟨cw_199, fun _ h => absurd h List.not_mem_nil⟩⟩⟩⟩⟩⟩⟩⟩⟩⟩⟩⟩⟩⟩⟩⟩⟩⟩⟩⟩⟩⟩⟩⟩⟩⟩⟩⟩⟩⟩⟩⟩⟩⟩⟩⟩⟩⟩⟩⟩
theorem cwr_200 : ∀ r ∈ (mTab.drop 200).take 40, Cond.code r.1 r.2.1 r.2.2.1 r.2.2.2.1 ∈ lw_tbl := List.forall_mem_cons.mpr ⟨cw_200, List.forall_mem_cons.mpr ⟨cw_201, List.forall_mem_cons.mpr ⟨cw_202, List.forall_mem_cons.mpr ⟨cw_203, List.forall_mem_cons.mpr ⟨cw_204, List.forall_mem_cons.mpr ⟨cw_205, List.forall_mem_cons.mpr ⟨cw_206, List.forall_mem_cons.mpr ⟨cw_207, List.forall_mem_cons.mpr ⟨cw_208, List.forall_mem_cons.mpr ⟨cw_209, List.forall_mem_cons.mpr ⟨cw_210, List.forall_mem_cons.mpr ⟨cw_211, List.forall_mem_cons.mpr ⟨cw_212, List.forall_mem_cons.mpr ⟨cw_213, List.forall_mem_cons.mpr ⟨cw_214, List.forall_mem_cons.mpr ⟨cw_215, List.forall_mem_cons.mpr ⟨cw_216, List.forall_mem_cons.mpr ⟨cw_217, List.forall_mem_cons.mpr ⟨cw_218, List.forall_mem_cons.mpr ⟨cw_219, List.forall_mem_cons.mpr ⟨cw_220, List.forall_mem_cons.mpr ⟨cw_221, List.forall_mem_cons.mpr ⟨cw_222, List.forall_mem_cons.mpr ⟨cw_223, List.forall_mem_cons.mpr ⟨cw_224, List.forall_mem_cons.mpr ⟨cw_225, List.forall_mem_cons.mpr ⟨cw_226, List.forall_mem_cons.mpr ⟨cw_227, List.forall_mem_cons.mpr ⟨cw_228, List.forall_mem_cons.mpr ⟨cw_229, List.forall_mem_cons.mpr ⟨cw_230, List.forall_mem_cons.mpr ⟨cw_231, List.forall_mem_cons.mpr ⟨cw_232, List.forall_mem_cons.mpr ⟨cw_233, List.forall_mem_cons.mpr ⟨cw_234, List.forall_mem_cons.mpr ⟨cw_235, List.forall_mem_cons.mpr ⟨cw_236, List.forall_mem_cons.mpr ⟨cw_237, List.forall_mem_cons.mpr ⟨cw_238, List.forall_mem_cons.mpr ⟨cw_239, fun _ h => absurd h List.not_mem_nil⟩⟩⟩⟩⟩⟩⟩⟩⟩⟩⟩⟩⟩⟩⟩⟩⟩⟩⟩⟩⟩⟩⟩⟩⟩⟩⟩⟩⟩⟩⟩⟩⟩⟩⟩⟩⟩⟩⟩⟩
theorem cwr_240 : ∀ r ∈ (mTab.drop 240).take 40, Cond.code r.1 r.2.1 r.2.2.1 r.2.2.2.1 ∈ lw_tbl := List.forall_mem_cons.mpr ⟨cw_240, List.forall_mem_cons.mpr ⟨cw_241, List.forall_mem_cons.mpr ⟨cw_242, List.forall_mem_cons.mpr ⟨cw_243, List.forall_mem_cons.mpr ⟨cw_244, List.forall_mem_cons.mpr ⟨cw_245, List.forall_mem_cons.mpr ⟨cw_246, List.forall_mem_cons.mpr ⟨cw_247, List.forall_mem_cons.mpr ⟨cw_248, List.forall_mem_cons.mpr ⟨cw_249, List.forall_mem_cons.mpr ⟨cw_250, List.forall_mem_cons.mpr ⟨cw_251, List.forall_mem_cons.mpr ⟨cw_252, List.forall_mem_cons.mpr ⟨cw_253, List.forall_mem_cons.mpr ⟨cw_254, List.forall_mem_cons.mpr ⟨cw_255, List.forall_mem_cons.mpr ⟨cw_256, List.forall_mem_cons.mpr ⟨cw_257, List.forall_mem_cons.mpr ⟨cw_258, List.forall_mem_cons.mpr ⟨cw_259, List.forall_mem_cons.mpr ⟨cw_260, List.forall_mem_cons.mpr ⟨cw_261, List.forall_mem_cons.mpr ⟨cw_262, List.forall_mem_cons.mpr ⟨cw_263, List.forall_mem_cons.mpr ⟨cw_264, List.forall_mem_cons.mpr ⟨cw_265, List.forall_mem_cons.mpr ⟨cw_266, List.forall_mem_cons.mpr ⟨cw_267, List.forall_mem_cons.mpr ⟨cw_268, List.forall_mem_cons.mpr ⟨cw_269, List.forall_mem_cons.mpr ⟨cw_270, List.forall_mem_cons.mpr ⟨cw_271, List.forall_mem_cons.mpr ⟨cw_272, List.forall_mem_cons.mpr ⟨cw_273, List.forall_mem_cons.mpr ⟨cw_274, List.forall_mem_cons.mpr ⟨cw_275, List.forall_mem_cons.mpr ⟨cw_276, List.forall_mem_cons.mpr ⟨cw_277, List.forall_mem_cons.mpr ⟨cw_278, List.forall_mem_cons.mpr ⟨cw_279, fun _ h => absurd h List.not_mem_nil⟩⟩⟩⟩⟩⟩⟩⟩⟩⟩⟩⟩⟩⟩⟩⟩⟩⟩⟩⟩⟩⟩⟩⟩⟩⟩⟩⟩⟩⟩⟩⟩⟩⟩⟩⟩⟩⟩⟩⟩
theorem cwr_280 : ∀ r ∈ (mTab.drop 280).take 1, Cond.code r.1 r.2.1 r.2.2.1 r.2.2.2.1 ∈ lw_tbl := List.forall_mem_cons.mpr ⟨cw_280, fun _ h => absurd h List.not_mem_nil⟩
/-- field links: entry, class, field, nest, place -/
def lF : Nat → List (Nat × Nat × Nat × Nat × Nat × Nat) := fun o => match o with
  | 0 => [(11, 0, 0, 0, (2, 180)), (17, 0, 2, 0, (2, 182)), (21, 0, 1, 0, (2, 181))]
  | 1 => [(9, 1, 8, 0, (1, 190)), (15, 1, 9, 0, (1, 193)), (18, 1, 10, 0, (1, 197)), (21, 1, 11, 0, (1, 201)), (24, 1, 12, 0, (1, 206)), (27, 1, 13, 0, (1, 210)), (32, 1, 14, 0, (1, 214)), (35, 1, 15, 0, (1, 217)), (38, 1, 16, 0, (1, 220)), (44, 1, 0, 0, (1, 162)), (48, 1, 1, 0, (1, 165)), (51, 1, 2, 0, (1, 169)), (54, 1, 3, 0, (1, 173)), (57, 1, 4, 0, (1, 176)), (60, 1, 5, 0, (1, 181)), (63, 1, 6, 0, (1, 184)), (66, 1, 7, 0, (1, 187))]
  | 2 => [(31, 2, 0, 0, (1, 93)), (35, 2, 1, 0, (1, 94)), (38, 2, 2, 0, (1, 95)), (41, 2, 3, 0, (1, 96)), (44, 2, 6, 0, (1, 101)), (48, 2, 4, 0, (1, 98)), (55, 2, 5, 0, (1, 99)), (58, 2, 11, 0, (1, 107)), (89, 2, 14, 0, (1, 110)), (98, 2, 7, 0, (1, 103)), (102, 2, 8, 0, (1, 104)), (105, 2, 9, 0, (1, 105)), (114, 2, 10, 0, (1, 106)), (120, 1, 0, 1, (1, 164)), (123, 1, 1, 1, (1, 167)), (137, 1, 8, 1, (1, 192)), (140, 1, 2, 1, (1, 170)), (143, 1, 9, 1, (1, 195)), (146, 1, 3, 1, (1, 174)), (149, 1, 10, 1, (1, 199)), (155, 1, 11, 1, (1, 204)), (158, 1, 5, 1, (1, 183)), (161, 1, 15, 1, (1, 219)), (164, 1, 16, 1, (1, 222)), (167, 1, 4, 1, (1, 179)), (170, 1, 12, 1, (1, 208)), (173, 1, 13, 1, (1, 213)), (182, 1, 14, 1, (1, 216)), (186, 1, 6, 1, (1, 185)), (188, 1, 7, 1, (1, 188)), (190, 2, 13, 0, (1, 109)), (193, 2, 12, 0, (1, 108))]
  | 3 => [(9, 3, 4, 0, (2, 35)), (15, 3, 5, 0, (2, 38)), (18, 3, 6, 0, (2, 41)), (21, 3, 7, 0, (2, 44)), (24, 3, 8, 0, (2, 47)), (27, 3, 9, 0, (2, 49)), (30, 3, 10, 0, (2, 52)), (33, 3, 11, 0, (2, 55)), (36, 3, 12, 0, (2, 58)), (39, 3, 13, 0, (2, 61)), (42, 3, 14, 0, (2, 64)), (45, 3, 15, 0, (2, 67)), (48, 3, 16, 0, (2, 69)), (51, 3, 17, 0, (2, 72)), (54, 3, 18, 0, (2, 75)), (57, 3, 0, 0, (2, 24)), (61, 3, 3, 0, (2, 32)), (64, 1, 3, 1, (1, 172)), (69, 3, 1, 0, (2, 27)), (70, 1, 11, 1, (1, 202)), (77, 3, 2, 0, (2, 29)), (80, 1, 5, 1, (1, 182)), (81, 1, 15, 1, (1, 218)), (82, 1, 16, 1, (1, 221))]
  | 4 => [(9, 4, 1, 0, (2, 127)), (15, 4, 2, 0, (2, 128)), (18, 4, 3, 0, (2, 129)), (21, 4, 0, 0, (2, 126)), (32, 1, 1, 1, (1, 166)), (38, 1, 4, 1, (1, 177)), (45, 1, 13, 1, (1, 211)), (57, 4, 4, 0, (2, 130)), (60, 4, 5, 0, (2, 131)), (63, 4, 6, 0, (2, 132)), (66, 4, 7, 0, (2, 133))]
  | 5 => [(12, 5, 0, 0, (2, 151)), (21, 5, 1, 0, (2, 153)), (30, 5, 2, 0, (2, 155)), (34, 5, 3, 0, (2, 157)), (62, 1, 4, 1, (1, 178)), (73, 3, 0, 1, (2, 25)), (76, 3, 1, 1, (2, 28)), (79, 3, 4, 1, (2, 36)), (82, 3, 7, 1, (2, 45)), (88, 3, 2, 1, (2, 30)), (91, 3, 13, 1, (2, 62)), (94, 3, 12, 1, (2, 59)), (97, 3, 11, 1, (2, 56)), (109, 1, 10, 1, (1, 200)), (116, 3, 5, 1, (2, 40)), (123, 3, 14, 1, (2, 66)), (134, 1, 9, 1, (1, 196)), (144, 3, 10, 1, (2, 54)), (147, 3, 9, 1, (2, 51)), (156, 1, 12, 1, (1, 209)), (165, 5, 4, 0, (2, 159)), (183, 1, 11, 1, (1, 205)), (186, 3, 6, 1, (2, 43)), (192, 3, 16, 1, (2, 71)), (195, 3, 3, 1, (2, 33)), (204, 3, 17, 1, (2, 73))]
  | 6 => [(10, 6, 0, 0, (2, 191)), (19, 6, 1, 0, (2, 192)), (23, 6, 2, 0, (2, 193)), (29, 6, 3, 0, (2, 194)), (33, 5, 0, 1, (2, 152)), (37, 6, 4, 0, (2, 195)), (38, 5, 1, 1, (2, 154)), (42, 6, 5, 0, (2, 196)), (43, 5, 2, 1, (2, 156)), (47, 6, 6, 0, (2, 197)), (48, 2, 4, 1, (1, 97)), (72, 1, 0, 1, (1, 163)), (75, 2, 5, 1, (1, 100)), (78, 2, 6, 1, (1, 102)), (92, 1, 8, 1, (1, 191)), (119, 1, 9, 1, (1, 194)), (136, 1, 10, 1, (1, 198)), (139, 1, 11, 1, (1, 203)), (142, 3, 4, 1, (2, 37)), (144, 3, 5, 1, (2, 39)), (147, 3, 6, 1, (2, 42)), (150, 3, 7, 1, (2, 46)), (153, 3, 8, 1, (2, 48)), (156, 3, 9, 1, (2, 50)), (159, 3, 10, 1, (2, 53)), (170, 3, 11, 1, (2, 57)), (173, 3, 12, 1, (2, 60)), (176, 3, 13, 1, (2, 63)), (179, 3, 14, 1, (2, 65)), (182, 3, 15, 1, (2, 68)), (185, 3, 16, 1, (2, 70)), (191, 1, 12, 1, (1, 207)), (194, 1, 13, 1, (1, 212)), (197, 3, 0, 1, (2, 26)), (203, 3, 18, 1, (2, 76)), (210, 1, 14, 1, (1, 215)), (214, 3, 2, 1, (2, 31)), (230, 1, 6, 1, (1, 186)), (236, 1, 7, 1, (1, 189)), (246, 0, 2, 1, (2, 183)), (256, 1, 1, 1, (1, 168)), (265, 3, 3, 1, (2, 34)), (268, 3, 17, 1, (2, 74)), (274, 1, 3, 1, (1, 175)), (283, 5, 4, 1, (2, 160)), (286, 5, 3, 1, (2, 158)), (329, 1, 4, 1, (1, 180)), (348, 1, 2, 1, (1, 171))]
  | 7 => [(7, 7, 2, 0, (5, 217)), (13, 7, 4, 0, (5, 219)), (16, 7, 6, 0, (5, 221)), (19, 7, 7, 0, (5, 222)), (22, 7, 9, 0, (5, 224)), (25, 7, 10, 0, (5, 225)), (28, 7, 11, 0, (5, 226)), (31, 7, 13, 0, (5, 228)), (35, 7, 14, 0, (5, 229)), (38, 7, 15, 0, (5, 230)), (41, 7, 16, 0, (5, 231)), (44, 7, 17, 0, (5, 232)), (47, 7, 19, 0, (5, 234)), (50, 7, 20, 0, (5, 235)), (54, 7, 28, 0, (6, 3)), (57, 7, 30, 0, (6, 5)), (60, 7, 31, 0, (6, 6)), (63, 7, 33, 0, (6, 8)), (66, 7, 34, 0, (6, 9)), (69, 7, 36, 0, (6, 11)), (72, 7, 37, 0, (6, 12)), (75, 7, 39, 0, (6, 14)), (78, 7, 40, 0, (6, 15)), (81, 7, 41, 0, (6, 16)), (84, 7, 43, 0, (6, 18)), (87, 7, 44, 0, (6, 19)), (90, 7, 51, 0, (6, 26)), (93, 7, 52, 0, (6, 27)), (97, 7, 0, 0, (5, 215)), (107, 7, 21, 0, (5, 236)), (114, 7, 23, 0, (5, 238)), (117, 7, 22, 0, (5, 237)), (124, 7, 24, 0, (5, 239)), (127, 7, 26, 0, (6, 1)), (130, 7, 25, 0, (6, 0)), (137, 7, 29, 0, (6, 4)), (141, 7, 27, 0, (6, 2)), (166, 7, 32, 0, (6, 7)), (173, 7, 35, 0, (6, 10)), (190, 7, 38, 0, (6, 13)), (199, 7, 42, 0, (6, 17)), (202, 7, 45, 0, (6, 20)), (220, 7, 48, 0, (6, 23)), (223, 7, 46, 0, (6, 21)), (226, 7, 49, 0, (6, 24)), (229, 7, 47, 0, (6, 22)), (232, 7, 50, 0, (6, 25)), (244, 7, 1, 0, (5, 216)), (247, 7, 3, 0, (5, 218)), (250, 7, 5, 0, (5, 220)), (253, 7, 8, 0, (5, 223)), (256, 7, 12, 0, (5, 227)), (273, 7, 18, 0, (5, 233)), (296, 7, 53, 0, (6, 28)), (299, 7, 54, 0, (6, 29)), (302, 7, 55, 0, (6, 30)), (305, 7, 56, 0, (6, 31))]
  | 8 => []
  | _ => []
/-- method links: entry, method, kind (0 virtual, 1 of a nest mate, 2 static, 3 init, 4 init of a nest mate), place -/
def lM : Nat → List (Nat × Nat × Nat × Nat × Nat) := fun o => match o with
  | 0 => [(24, 39, 4, (3, 158)), (25, 41, 1, (3, 159)), (29, 280, 2, (3, 164))]
  | 1 => [(41, 5, 0, (1, 158)), (75, 8, 0, (3, 194))]
  | 2 => [(11, 35, 2, (1, 35)), (51, 15, 0, (2, 229)), (61, 17, 0, (3, 22)), (64, 18, 0, (3, 46)), (67, 19, 0, (3, 50)), (70, 21, 0, (3, 58)), (73, 20, 0, (3, 66)), (76, 23, 0, (3, 70)), (79, 24, 0, (3, 74)), (82, 30, 0, (3, 30)), (86, 16, 0, (3, 78)), (93, 5, 1, (2, 233)), (108, 280, 2, (2, 234)), (117, 31, 0, (2, 237)), (126, 25, 0, (3, 26)), (130, 26, 0, (3, 34)), (134, 28, 0, (3, 42)), (152, 27, 0, (3, 54)), (176, 22, 0, (3, 62)), (179, 29, 0, (3, 38)), (196, 36, 2, (3, 1)), (200, 37, 2, (3, 4)), (203, 32, 0, (3, 7)), (206, 38, 2, (3, 15)), (209, 33, 0, (3, 18)), (212, 34, 0, (3, 11))]
  | 3 => [(73, 42, 0, (3, 97)), (83, 43, 0, (3, 101)), (93, 49, 0, (3, 130)), (97, 52, 0, (3, 206))]
  | 4 => [(25, 61, 0, (2, 122)), (28, 63, 0, (4, 10)), (41, 7, 1, (4, 15)), (49, 62, 0, (4, 58)), (53, 65, 0, (4, 179)), (69, 64, 0, (4, 192))]
  | 5 => [(11, 4, 4, (1, 152)), (20, 39, 4, (2, 20)), (27, 60, 4, (2, 118)), (38, 40, 1, (3, 93)), (41, 61, 1, (3, 105)), (44, 6, 1, (5, 4)), (47, 41, 1, (5, 5)), (50, 72, 0, (3, 221)), (53, 73, 0, (3, 225)), (56, 74, 0, (3, 233)), (59, 76, 0, (4, 20)), (66, 77, 0, (4, 31)), (70, 78, 0, (4, 36)), (85, 47, 1, (3, 229)), (100, 75, 0, (3, 237)), (104, 45, 1, (4, 16)), (112, 50, 1, (4, 2)), (119, 62, 1, (4, 6)), (126, 49, 1, (4, 24)), (130, 8, 1, (4, 25)), (137, 9, 1, (4, 26)), (140, 46, 1, (4, 27)), (150, 42, 1, (4, 35)), (153, 7, 1, (4, 40)), (159, 53, 1, (4, 41)), (162, 79, 0, (4, 42)), (168, 81, 0, (4, 50)), (172, 65, 1, (4, 54)), (176, 48, 1, (4, 59)), (180, 80, 0, (4, 46)), (189, 51, 1, (5, 10)), (198, 88, 0, (4, 80)), (201, 87, 0, (4, 84))]
  | 6 => [(9, 12, 4, (1, 30)), (18, 68, 4, (1, 146)), (28, 0, 4, (2, 174)), (52, 13, 1, (2, 217)), (56, 14, 1, (2, 225)), (60, 6, 1, (3, 82)), (66, 69, 1, (3, 89)), (69, 1, 1, (3, 106)), (81, 147, 0, (3, 146)), (96, 53, 1, (3, 126)), (102, 10, 1, (5, 149)), (106, 54, 1, (5, 153)), (114, 148, 0, (3, 150)), (122, 11, 1, (5, 181)), (125, 83, 1, (5, 185)), (128, 55, 1, (3, 202)), (131, 149, 0, (3, 186)), (162, 57, 1, (5, 197)), (165, 152, 0, (3, 170)), (188, 150, 0, (3, 118)), (200, 7, 1, (3, 122)), (206, 151, 0, (3, 138)), (217, 2, 1, (3, 154)), (221, 43, 1, (3, 165)), (224, 51, 1, (3, 174)), (227, 44, 1, (3, 178)), (233, 9, 1, (3, 190)), (239, 143, 2, (3, 214)), (243, 71, 1, (3, 217)), (247, 3, 1, (4, 67)), (253, 85, 1, (4, 76)), (259, 153, 0, (4, 96)), (262, 86, 1, (4, 104)), (271, 52, 1, (4, 120)), (277, 49, 1, (4, 125)), (280, 79, 1, (4, 130)), (289, 58, 1, (4, 135)), (292, 278, 2, (4, 147)), (297, 75, 1, (4, 158)), (300, 144, 2, (4, 163)), (303, 62, 1, (4, 166)), (309, 146, 2, (4, 167)), (312, 64, 1, (4, 175)), (315, 66, 1, (4, 180)), (318, 67, 1, (4, 188)), (323, 155, 0, (4, 209)), (326, 279, 2, (4, 229)), (332, 70, 1, (5, 0)), (335, 82, 1, (5, 6)), (338, 145, 2, (5, 39)), (341, 84, 1, (5, 54)), (345, 59, 1, (5, 62)), (351, 56, 1, (5, 70)), (354, 154, 0, (4, 100))]
  | 7 => [(100, 162, 0, (7, 20)), (104, 160, 0, (7, 32)), (110, 165, 0, (6, 156)), (120, 167, 0, (6, 175)), (133, 158, 2, (6, 164)), (151, 169, 0, (6, 196)), (155, 168, 0, (6, 171)), (158, 171, 0, (6, 204)), (162, 173, 2, (6, 214)), (169, 176, 0, (6, 233)), (176, 174, 0, (6, 192)), (179, 175, 0, (6, 200)), (182, 170, 0, (6, 184)), (186, 172, 0, (6, 217)), (193, 178, 0, (6, 229)), (196, 177, 0, (6, 237)), (205, 179, 0, (6, 188)), (208, 180, 0, (6, 221)), (211, 181, 0, (6, 225)), (214, 182, 0, (7, 1)), (217, 183, 0, (7, 5)), (235, 185, 0, (6, 167)), (238, 184, 0, (6, 179)), (241, 188, 0, (7, 9)), (259, 187, 2, (7, 13)), (263, 163, 0, (7, 16)), (266, 189, 0, (7, 24)), (269, 164, 0, (7, 28)), (276, 196, 0, (7, 192)), (280, 161, 0, (7, 116)), (283, 198, 0, (7, 60)), (286, 200, 0, (7, 56)), (289, 201, 0, (7, 52)), (293, 202, 0, (7, 72)), (308, 191, 0, (7, 48)), (311, 204, 0, (7, 44)), (314, 203, 0, (7, 68)), (317, 199, 0, (7, 128)), (320, 159, 0, (7, 108)), (323, 214, 0, (7, 216)), (326, 197, 0, (7, 188)), (329, 218, 0, (7, 232)), (333, 217, 0, (7, 156)), (336, 220, 0, (7, 112)), (339, 219, 0, (7, 228)), (342, 213, 0, (7, 208)), (345, 215, 0, (7, 212)), (348, 216, 0, (7, 220)), (351, 221, 0, (7, 224)), (354, 223, 0, (7, 104)), (357, 192, 0, (7, 124)), (360, 193, 0, (7, 136)), (363, 194, 0, (7, 144)), (366, 195, 0, (7, 152)), (369, 230, 0, (7, 168)), (372, 232, 0, (7, 176)), (375, 233, 0, (7, 180)), (378, 222, 0, (7, 204)), (381, 239, 0, (8, 4)), (385, 246, 0, (8, 33)), (388, 248, 0, (8, 37)), (391, 247, 0, (8, 41)), (394, 269, 0, (8, 65)), (397, 259, 0, (8, 69)), (400, 262, 0, (8, 101)), (403, 264, 0, (8, 109)), (406, 276, 0, (8, 153))]
  | 8 => []
  | _ => [(7, 93, 0, (5, 79)), (17, 94, 0, (5, 176)), (20, 95, 0, (5, 192)), (23, 96, 0, (5, 204)), (26, 89, 3, (1, 22)), (29, 156, 3, (5, 211)), (30, 90, 0, (2, 213)), (34, 166, 0, (6, 152)), (35, 91, 0, (2, 221)), (39, 186, 0, (6, 160)), (40, 92, 0, (3, 110)), (43, 190, 0, (7, 36)), (49, 224, 0, (7, 100)), (50, 157, 0, (6, 148)), (56, 225, 0, (7, 120)), (59, 226, 0, (7, 132)), (62, 227, 0, (7, 140)), (63, 97, 0, (3, 114)), (66, 228, 0, (7, 148)), (67, 98, 0, (3, 134)), (70, 229, 0, (7, 160)), (71, 99, 0, (3, 142)), (74, 231, 0, (7, 164)), (75, 100, 0, (3, 166)), (79, 234, 0, (7, 172)), (80, 101, 0, (3, 182)), (83, 235, 0, (7, 184)), (84, 102, 0, (3, 198)), (87, 236, 0, (7, 196)), (88, 103, 0, (3, 210)), (91, 237, 0, (7, 200)), (92, 104, 0, (4, 63)), (95, 238, 0, (7, 236)), (96, 105, 0, (4, 71)), (99, 240, 0, (8, 0)), (100, 106, 0, (4, 88)), (103, 241, 0, (8, 9)), (104, 110, 0, (4, 116)), (107, 242, 0, (8, 13)), (108, 111, 0, (4, 121)), (111, 243, 0, (8, 17)), (112, 112, 0, (4, 126)), (115, 244, 0, (8, 21)), (116, 118, 0, (4, 159)), (120, 205, 0, (7, 40)), (121, 119, 0, (4, 171)), (125, 206, 0, (7, 64)), (126, 120, 0, (4, 184)), (129, 207, 0, (7, 76)), (130, 117, 0, (4, 154)), (133, 245, 0, (8, 25)), (134, 130, 0, (4, 236)), (137, 249, 0, (8, 29)), (138, 131, 0, (5, 11)), (141, 250, 0, (8, 45)), (142, 132, 0, (5, 15)), (145, 251, 0, (8, 49)), (146, 133, 0, (5, 19)), (149, 252, 0, (8, 53)), (150, 139, 0, (5, 46)), (153, 267, 0, (8, 117)), (154, 138, 0, (5, 42)), (157, 268, 0, (8, 121)), (158, 127, 0, (4, 221)), (161, 270, 0, (8, 125)), (162, 128, 0, (4, 225)), (165, 271, 0, (8, 129)), (166, 123, 0, (4, 201)), (169, 272, 0, (8, 133)), (170, 113, 0, (4, 131)), (173, 273, 0, (8, 137)), (174, 107, 0, (4, 92)), (177, 274, 0, (8, 141)), (178, 116, 0, (4, 150)), (181, 275, 0, (8, 145)), (182, 121, 0, (4, 193)), (185, 208, 0, (7, 80)), (186, 122, 0, (4, 197)), (189, 211, 0, (7, 92)), (190, 124, 0, (4, 205)), (193, 212, 0, (7, 96)), (194, 134, 0, (5, 23)), (197, 253, 0, (8, 57)), (198, 137, 0, (5, 35)), (201, 254, 0, (8, 61)), (202, 140, 0, (5, 50)), (205, 258, 0, (8, 85)), (206, 114, 0, (4, 139)), (209, 260, 0, (8, 89)), (210, 115, 0, (4, 143)), (213, 261, 0, (8, 93)), (214, 129, 0, (4, 232)), (217, 266, 0, (8, 113)), (218, 135, 0, (5, 27)), (221, 255, 0, (8, 73)), (222, 136, 0, (5, 31)), (225, 256, 0, (8, 77)), (226, 141, 0, (5, 58)), (229, 257, 0, (8, 81)), (230, 125, 0, (4, 213)), (233, 209, 0, (7, 84)), (234, 126, 0, (4, 217)), (237, 210, 0, (7, 88)), (238, 109, 0, (4, 112)), (241, 263, 0, (8, 97)), (242, 108, 0, (4, 108)), (245, 265, 0, (8, 105)), (246, 142, 0, (5, 66)), (249, 277, 0, (8, 149))]
/-- class links: entry, name, place -/
def lC : Nat → List (Nat × String × Nat × Nat) := fun o => match o with
  | 0 => [(9, "LoanVans$State", (2, 178))]
  | 1 => [(30, "[[I", (1, 156))]
  | 2 => []
  | 3 => []
  | 4 => []
  | 5 => [(9, "LoanVans$Plan", (1, 150)), (18, "LoanVans$State", (2, 18)), (25, "LoanVans$Ways", (2, 116))]
  | 6 => [(7, "LoanVans$Reader", (1, 28)), (16, "LoanVans$World", (1, 144)), (26, "LoanVans$Past", (2, 172)), (85, "java/lang/IndexOutOfBoundsException", (5, 83)), (109, "java/util/NoSuchElementException", (5, 157))]
  | 7 => []
  | 8 => []
  | _ => [(8, "LoanVans", (1, 20)), (13, "java/lang/IndexOutOfBoundsException", (5, 77)), (15, "java/util/NoSuchElementException", (5, 78)), (27, "LoanVansModel", (5, 209))]
/-- constants: entry, value, place -/
def lK : Nat → List (Nat × Int32 × Nat × Nat) := fun o => match o with
  | 0 => []
  | 1 => []
  | 2 => []
  | 3 => []
  | 4 => [(48, 1000000000, (4, 14))]
  | 5 => [(108, 1000000000, (4, 1))]
  | 6 => [(252, (-2147483648), (4, 75)), (322, 1000000000, (4, 170))]
  | 7 => [(144, 86030440, (6, 183)), (145, 113757348, (6, 208)), (146, 21287301, (6, 209)), (147, 315565, (6, 210)), (148, 277892, (6, 211)), (149, 7930981, (6, 212)), (150, 609687283, (6, 213)), (384, (-2147483648), (8, 8))]
  | 8 => []
  | _ => []
/-- Object.<init>: entry, place -/
def lO : Nat → List (Nat × Nat × Nat) := fun o => match o with
  | 0 => [(3, (2, 177))]
  | 1 => [(3, (1, 155))]
  | 2 => [(3, (1, 33))]
  | 3 => [(3, (2, 23))]
  | 4 => [(3, (2, 121))]
  | 5 => [(3, (1, 149))]
  | 6 => [(1, (1, 25))]
  | 7 => [(1, (5, 214))]
  | 8 => []
  | _ => []
/-- System.arraycopy: entry, place -/
def lS : Nat → List (Nat × Nat × Nat) := fun o => match o with
  | 0 => []
  | 1 => [(69, (3, 86))]
  | 2 => []
  | 3 => [(87, (3, 163))]
  | 4 => []
  | 5 => []
  | 6 => []
  | 7 => []
  | 8 => []
  | _ => []
theorem lF_ok : (List.range 10).all (fun o => (lF o).all (fun r => decide ((tbC r.2.2.2.2.1)[r.2.2.2.2.2]? = some (if r.2.2.2.1 = 0 then Cond.fieldLink (rN o) r.1 (fT r.2.1 r.2.2.1).1 (fT r.2.1 r.2.2.1).2.1 (fT r.2.1 r.2.2.1).2.2.1 else Cond.fieldLinkNest (rN o) r.1 (fT r.2.1 r.2.2.1).1 (fT r.2.1 r.2.2.1).2.1 (fT r.2.1 r.2.2.1).2.2.1 "LoanVans")) && decide (r.2.1 < 8) && decide (r.2.2.1 < fN r.2.1))) = true := by decide +kernel
theorem lM_ok : (List.range 10).all (fun o => (lM o).all (fun r => decide ((tbC r.2.2.2.1)[r.2.2.2.2]? = some (if r.2.2.1 = 1 ∨ r.2.2.1 = 4 then Cond.methodLinkNest (rN o) r.1 (mY r.2.1) "LoanVans" else Cond.methodLink (rN o) r.1 (mY r.2.1))) && decide (r.2.1 < 281) && (mS r.2.1 == decide (r.2.2.1 = 2)) && (decide ((mY r.2.1).name = "<init>") == decide (3 ≤ r.2.2.1)))) = true := by decide +kernel
theorem lC_ok : (List.range 10).all (fun o => (lC o).all (fun r => decide ((tbC r.2.2.1)[r.2.2.2]? = some (Cond.classLink (rN o) r.1 r.2.1)))) = true := by decide +kernel
theorem lK_ok : (List.range 10).all (fun o => (lK o).all (fun r => decide ((tbC r.2.2.1)[r.2.2.2]? = some (Cond.constant (rN o) r.1 r.2.1)))) = true := by decide +kernel
theorem lO_ok : (List.range 10).all (fun o => (lO o).all (fun r => decide ((tbC r.2.1)[r.2.2]? = some (Cond.methodLink (rN o) r.1 objectInit)))) = true := by decide +kernel
theorem lS_ok : (List.range 10).all (fun o => (lS o).all (fun r => decide ((tbC r.2.1)[r.2.2]? = some (Cond.methodLink (rN o) r.1 arraycopyName)))) = true := by decide +kernel
abbrev kPast_init : Nat := 0
abbrev kPast_clear : Nat := 1
abbrev kPast_keep : Nat := 2
abbrev kPast_restore : Nat := 3
abbrev kPlan_init : Nat := 4
abbrev kPlan_empty : Nat := 5
abbrev kPlan_copyFrom : Nat := 6
abbrev kPlan_branchOn : Nat := 7
abbrev kPlan_isShut : Nat := 8
abbrev kPlan_openFrom : Nat := 9
abbrev kPlan_countAtHome : Nat := 10
abbrev kPlan_countOfTitle : Nat := 11
abbrev kReader_init : Nat := 12
abbrev kReader_put : Nat := 13
abbrev kReader_readInto : Nat := 14
abbrev kReader_begin : Nat := 15
abbrev kReader_endLine : Nat := 16
abbrev kReader_readBranch : Nat := 17
abbrev kReader_readTitle : Nat := 18
abbrev kReader_readItem : Nat := 19
abbrev kReader_readHold : Nat := 20
abbrev kReader_readVan : Nat := 21
abbrev kReader_readStop : Nat := 22
abbrev kReader_readGrace : Nat := 23
abbrev kReader_readRenews : Nat := 24
abbrev kReader_beginsRow : Nat := 25
abbrev kReader_takeNewName : Nat := 26
abbrev kReader_takeToldName : Nat := 27
abbrev kReader_takeNumber : Nat := 28
abbrev kReader_numberOfName : Nat := 29
abbrev kReader_fail : Nat := 30
abbrev kReader_advance : Nat := 31
abbrev kReader_scanWord : Nat := 32
abbrev kReader_scanNumber : Nat := 33
abbrev kReader_tokenOfWord : Nat := 34
abbrev kReader_codeOf : Nat := 35
abbrev kReader_isBlank : Nat := 36
abbrev kReader_isLetter : Nat := 37
abbrev kReader_isDigit : Nat := 38
abbrev kState_init : Nat := 39
abbrev kState_begin : Nat := 40
abbrev kState_copyFrom : Nat := 41
abbrev kState_putAt : Nat := 42
abbrev kState_addHold : Nat := 43
abbrev kState_cancelHold : Nat := 44
abbrev kState_giveItem : Nat := 45
abbrev kState_lend : Nat := 46
abbrev kState_takeBack : Nat := 47
abbrev kState_board : Nat := 48
abbrev kState_isThere : Nat := 49
abbrev kState_isFree : Nat := 50
abbrev kState_isWaiting : Nat := 51
abbrev kState_isOpenOf : Nat := 52
abbrev kState_countItems : Nat := 53
abbrev kState_countOpenAt : Nat := 54
abbrev kState_countOpenOf : Nat := 55
abbrev kState_countStage : Nat := 56
abbrev kState_countLoansOf : Nat := 57
abbrev kState_daysWaited : Nat := 58
abbrev kState_branchBit : Nat := 59
abbrev kWays_init : Nat := 60
abbrev kWays_forgetAll : Nat := 61
abbrev kWays_arrivalAt : Nat := 62
abbrev kWays_beginRow : Nat := 63
abbrev kWays_findLeg : Nat := 64
abbrev kWays_vanToBoard : Nat := 65
abbrev kWays_legPart : Nat := 66
abbrev kWays_goLegs : Nat := 67
abbrev kWorld_init : Nat := 68
abbrev kWorld_begin : Nat := 69
abbrev kWorld_copyFrom : Nat := 70
abbrev kWorld_goDays : Nat := 71
abbrev kWorld_goDay : Nat := 72
abbrev kWorld_takeBackItems : Nat := 73
abbrev kWorld_giveItems : Nat := 74
abbrev kWorld_nearestFree : Nat := 75
abbrev kWorld_lendItems : Nat := 76
abbrev kWorld_leaveVan : Nat := 77
abbrev kWorld_boardVan : Nat := 78
abbrev kWorld_lineUp : Nat := 79
abbrev kWorld_stepIntoLine : Nat := 80
abbrev kWorld_goalOf : Nat := 81
abbrev kWorld_lentWithin : Nat := 82
abbrev kWorld_countFree : Nat := 83
abbrev kWorld_countAstray : Nat := 84
abbrev kWorld_countLoans : Nat := 85
abbrev kWorld_balance : Nat := 86
abbrev kWorld_branchOfLoan : Nat := 87
abbrev kWorld_homeOfLoan : Nat := 88
abbrev kLoanVans_init : Nat := 89
abbrev kLoanVans_feed : Nat := 90
abbrev kLoanVans_text : Nat := 91
abbrev kLoanVans_fault : Nat := 92
abbrev kLoanVans_branch : Nat := 93
abbrev kLoanVans_title : Nat := 94
abbrev kLoanVans_item : Nat := 95
abbrev kLoanVans_holdOf : Nat := 96
abbrev kLoanVans_van : Nat := 97
abbrev kLoanVans_stop : Nat := 98
abbrev kLoanVans_hold : Nat := 99
abbrev kLoanVans_cancel : Nat := 100
abbrev kLoanVans_recall : Nat := 101
abbrev kLoanVans_renew : Nat := 102
abbrev kLoanVans_days : Nat := 103
abbrev kLoanVans_undo : Nat := 104
abbrev kLoanVans_owed : Nat := 105
abbrev kLoanVans_loans : Nat := 106
abbrev kLoanVans_lender : Nat := 107
abbrev kLoanVans_ranked : Nat := 108
abbrev kLoanVans_log : Nat := 109
abbrev kLoanVans_queue : Nat := 110
abbrev kLoanVans_inVan : Nat := 111
abbrev kLoanVans_waits : Nat := 112
abbrev kLoanVans_longest : Nat := 113
abbrev kLoanVans_waited : Nat := 114
abbrev kLoanVans_meanWait : Nat := 115
abbrev kLoanVans_nextDue : Nat := 116
abbrev kLoanVans_given : Nat := 117
abbrev kLoanVans_arrival : Nat := 118
abbrev kLoanVans_leg : Nat := 119
abbrev kLoanVans_legs : Nat := 120
abbrev kLoanVans_path : Nat := 121
abbrev kLoanVans_reach : Nat := 122
abbrev kLoanVans_farthest : Nat := 123
abbrev kLoanVans_center : Nat := 124
abbrev kLoanVans_thereAndBack : Nat := 125
abbrev kLoanVans_bestDay : Nat := 126
abbrev kLoanVans_meet : Nat := 127
abbrev kLoanVans_every : Nat := 128
abbrev kLoanVans_busiest : Nat := 129
abbrev kLoanVans_lentOn : Nat := 130
abbrev kLoanVans_ifHold : Nat := 131
abbrev kLoanVans_ifCancelled : Nat := 132
abbrev kLoanVans_ifNoVan : Nat := 133
abbrev kLoanVans_ifStop : Nat := 134
abbrev kLoanVans_ifClosed : Nat := 135
abbrev kLoanVans_ifPeriod : Nat := 136
abbrev kLoanVans_ifRoom : Nat := 137
abbrev kLoanVans_served : Nat := 138
abbrev kLoanVans_where : Nat := 139
abbrev kLoanVans_astray : Nat := 140
abbrev kLoanVans_visits : Nat := 141
abbrev kLoanVans_count : Nat := 142
abbrev kLoanVans_isWithin : Nat := 143
abbrev kLoanVans_isDay : Nat := 144
abbrev kLoanVans_isForetellable : Nat := 145
abbrev kLoanVans_orAbsent : Nat := 146
abbrev kLoanVans_isBranch : Nat := 147
abbrev kLoanVans_isTitle : Nat := 148
abbrev kLoanVans_isItem : Nat := 149
abbrev kLoanVans_isVan : Nat := 150
abbrev kLoanVans_isStop : Nat := 151
abbrev kLoanVans_isHold : Nat := 152
abbrev kLoanVans_branchRanked : Nat := 153
abbrev kLoanVans_countAhead : Nat := 154
abbrev kLoanVans_daysToAll : Nat := 155
abbrev kModel_init : Nat := 156
abbrev kModel_thrown : Nat := 157
abbrev kModel_isIn : Nat := 158
abbrev kModel_ofHold : Nat := 159
abbrev kModel_setHold : Nat := 160
abbrev kModel_ofItem : Nat := 161
abbrev kModel_setItem : Nat := 162
abbrev kModel_puts : Nat := 163
abbrev kModel_addsHold : Nat := 164
abbrev kModel_four : Nat := 165
abbrev kModel_feed : Nat := 166
abbrev kModel_see : Nat := 167
abbrev kModel_advance : Nat := 168
abbrev kModel_must : Nat := 169
abbrev kModel_isWord : Nat := 170
abbrev kModel_isName : Nat := 171
abbrev kModel_numberHere : Nat := 172
abbrev kModel_at : Nat := 173
abbrev kModel_opens : Nat := 174
abbrev kModel_freshHere : Nat := 175
abbrev kModel_toldHere : Nat := 176
abbrev kModel_branchHere : Nat := 177
abbrev kModel_titleHere : Nat := 178
abbrev kModel_readsBranch : Nat := 179
abbrev kModel_readsTitle : Nat := 180
abbrev kModel_readsItem : Nat := 181
abbrev kModel_readsVan : Nat := 182
abbrev kModel_readsHold : Nat := 183
abbrev kModel_readsLine : Nat := 184
abbrev kModel_begins : Nat := 185
abbrev kModel_text : Nat := 186
abbrev kModel_copies : Nat := 187
abbrev kModel_becomes : Nat := 188
abbrev kModel_freesItem : Nat := 189
abbrev kModel_fault : Nat := 190
abbrev kModel_isBranch : Nat := 191
abbrev kModel_isTitle : Nat := 192
abbrev kModel_isItem : Nat := 193
abbrev kModel_isHold : Nat := 194
abbrev kModel_isVan : Nat := 195
abbrev kModel_isShut : Nat := 196
abbrev kModel_openFrom : Nat := 197
abbrev kModel_stopOf : Nat := 198
abbrev kModel_isFree : Nat := 199
abbrev kModel_laysEarly : Nat := 200
abbrev kModel_arrivalOf : Nat := 201
abbrev kModel_laysLeads : Nat := 202
abbrev kModel_laysLeg : Nat := 203
abbrev kModel_isWay : Nat := 204
abbrev kModel_arrival : Nat := 205
abbrev kModel_leg : Nat := 206
abbrev kModel_legs : Nat := 207
abbrev kModel_path : Nat := 208
abbrev kModel_thereAndBack : Nat := 209
abbrev kModel_bestDay : Nat := 210
abbrev kModel_reach : Nat := 211
abbrev kModel_center : Nat := 212
abbrev kModel_comesBack : Nat := 213
abbrev kModel_givenTo : Nat := 214
abbrev kModel_gives : Nat := 215
abbrev kModel_lends : Nat := 216
abbrev kModel_inside : Nat := 217
abbrev kModel_goal : Nat := 218
abbrev kModel_boards : Nat := 219
abbrev kModel_isAt : Nat := 220
abbrev kModel_drives : Nat := 221
abbrev kModel_passes : Nat := 222
abbrev kModel_openOf : Nat := 223
abbrev kModel_branch : Nat := 224
abbrev kModel_title : Nat := 225
abbrev kModel_item : Nat := 226
abbrev kModel_holdOf : Nat := 227
abbrev kModel_van : Nat := 228
abbrev kModel_stop : Nat := 229
abbrev kModel_keeps : Nat := 230
abbrev kModel_hold : Nat := 231
abbrev kModel_mayCancel : Nat := 232
abbrev kModel_cancels : Nat := 233
abbrev kModel_cancel : Nat := 234
abbrev kModel_recall : Nat := 235
abbrev kModel_renew : Nat := 236
abbrev kModel_days : Nat := 237
abbrev kModel_undo : Nat := 238
abbrev kModel_balance : Nat := 239
abbrev kModel_owed : Nat := 240
abbrev kModel_loans : Nat := 241
abbrev kModel_queue : Nat := 242
abbrev kModel_inVan : Nat := 243
abbrev kModel_waits : Nat := 244
abbrev kModel_given : Nat := 245
abbrev kModel_tries : Nat := 246
abbrev kModel_returns : Nat := 247
abbrev kModel_lentAhead : Nat := 248
abbrev kModel_lentOn : Nat := 249
abbrev kModel_ifHold : Nat := 250
abbrev kModel_ifCancelled : Nat := 251
abbrev kModel_ifNoVan : Nat := 252
abbrev kModel_ifStop : Nat := 253
abbrev kModel_ifRoom : Nat := 254
abbrev kModel_ifClosed : Nat := 255
abbrev kModel_ifPeriod : Nat := 256
abbrev kModel_visits : Nat := 257
abbrev kModel_astray : Nat := 258
abbrev kModel_wasLent : Nat := 259
abbrev kModel_waited : Nat := 260
abbrev kModel_meanWait : Nat := 261
abbrev kModel_isSooner : Nat := 262
abbrev kModel_log : Nat := 263
abbrev kModel_allOwed : Nat := 264
abbrev kModel_ranked : Nat := 265
abbrev kModel_busiest : Nat := 266
abbrev kModel_where : Nat := 267
abbrev kModel_served : Nat := 268
abbrev kModel_servedIn : Nat := 269
abbrev kModel_meet : Nat := 270
abbrev kModel_every : Nat := 271
abbrev kModel_farthest : Nat := 272
abbrev kModel_longest : Nat := 273
abbrev kModel_lender : Nat := 274
abbrev kModel_nextDue : Nat := 275
abbrev kModel_inState : Nat := 276
abbrev kModel_count : Nat := 277
abbrev kMath_floorDiv : Nat := 278
abbrev kMath_max : Nat := 279
abbrev kMath_min : Nat := 280
abbrev kLaw_branch : Nat := 281
abbrev kLaw_title : Nat := 282
abbrev kLaw_item : Nat := 283
abbrev kLaw_holdOf : Nat := 284
abbrev kLaw_law : Nat := 285
