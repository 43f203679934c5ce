abbrev MI : Type := MethodName × ByteArray × Nat × Option FieldType × Nat × Nat × Nat × Nat
def m_d : MI := (yL_law, ⟨#[]⟩, 0, none, 10, 1, 0, 0)
def mtab0 : List MI := [
  (yX0_init, cX0_init, 2, none, 0, 0, 4, 81),
  (yX0_remember, cX0_remember, 2, none, 0, 1, 4, 89),
  (yX0_bringBack, cX0_bringBack, 2, none, 0, 1, 4, 89),
  (yX0_dropOldest, cX0_dropOldest, 3, none, 0, 0, 0, 0),
  (yX1_init, cX1_init, 1, none, 1, 0, 1, 20),
  (yX1_begin, cX1_begin, 1, none, 1, 0, 0, 0),
  (yX1_mayEnd, cX1_mayEnd, 1, (some .boolean), 1, 0, 0, 0),
  (yX1_read, cX1_read, 2, (some .boolean), 1, 1, 2, 42),
  (yX1_readEnd, cX1_readEnd, 1, (some .boolean), 1, 0, 1, 20),
  (yX1_readStart, cX1_readStart, 2, (some .boolean), 1, 1, 1, 21),
  (yX1_readLetter, cX1_readLetter, 2, (some .boolean), 1, 1, 0, 0),
  (yX1_readStar, cX1_readStar, 1, (some .boolean), 1, 0, 0, 0),
  (yX1_readFirstDigit, cX1_readFirstDigit, 2, (some .boolean), 1, 1, 1, 20),
  (yX1_readDigit, cX1_readDigit, 2, (some .boolean), 1, 1, 1, 20),
  (yX1_readAgeing, cX1_readAgeing, 2, (some .boolean), 1, 1, 0, 0),
  (yX1_isDigit, cX1_isDigit, 1, (some .boolean), 1, 1, 0, 0),
  (yX2_init, cX2_init, 1, none, 2, 0, 1, 20),
  (yX2_signAt, cX2_signAt, 2, (some .int), 2, 1, 0, 0),
  (yX2_append, cX2_append, 2, none, 2, 1, 0, 0),
  (yX3_init, cX3_init, 2, none, 3, 1, 1, 20),
  (yX3_copyFrom, cX3_copyFrom, 2, none, 3, 1, 1, 26),
  (yX3_isTaken, cX3_isTaken, 2, (some .boolean), 3, 1, 0, 0),
  (yX3_guestAt, cX3_guestAt, 2, (some .int), 3, 1, 0, 0),
  (yX3_countAt, cX3_countAt, 2, (some .int), 3, 1, 0, 0),
  (yX3_excessAt, cX3_excessAt, 2, (some .int), 3, 1, 0, 0),
  (yX3_seatOf, cX3_seatOf, 3, (some .int), 3, 1, 1, 21),
  (yX3_mostOf, cX3_mostOf, 3, (some .int), 3, 1, 2, 43),
  (yX3_leastOf, cX3_leastOf, 2, (some .int), 3, 1, 2, 43),
  (yX3_leastAt, cX3_leastAt, 2, (some .int), 3, 1, 1, 21),
  (yX3_mostWithoutSeat, cX3_mostWithoutSeat, 3, (some .int), 3, 0, 1, 21),
  (yX3_sumOfCounts, cX3_sumOfCounts, 3, (some .int), 3, 0, 1, 21),
  (yX3_greatestExcess, cX3_greatestExcess, 3, (some .int), 3, 0, 1, 21),
  (yX3_surelyAbove, cX3_surelyAbove, 4, (some .int), 3, 1, 2, 42),
  (yX3_perhapsAbove, cX3_perhapsAbove, 4, (some .int), 3, 1, 1, 21),
  (yX3_seatFor, cX3_seatFor, 3, (some .int), 3, 1, 3, 65),
  (yX3_firstToGo, cX3_firstToGo, 3, (some .int), 3, 0, 2, 43),
  (yX3_goesBefore, cX3_goesBefore, 3, (some .boolean), 3, 2, 1, 21),
  (yX3_isHeavier, cX3_isHeavier, 3, (some .boolean), 3, 2, 1, 21),
  (yX3_seatAtPlace, cX3_seatAtPlace, 3, (some .int), 3, 1, 3, 66),
  (yX3_heavierThan, cX3_heavierThan, 4, (some .int), 3, 1, 2, 43)]
def mtab1 : List MI := [
  (yX3_placesInSureOrder, cX3_placesInSureOrder, 5, (some .int), 3, 0, 4, 88),
  (yX3_serve, cX3_serve, 5, (some .boolean), 3, 3, 1, 23),
  (yX3_append, cX3_append, 4, none, 3, 3, 0, 0),
  (yX3_insertByWeight, cX3_insertByWeight, 5, none, 3, 3, 2, 45),
  (yX3_swapWithFormer, cX3_swapWithFormer, 5, none, 3, 1, 1, 21),
  (yX3_clear, cX3_clear, 1, none, 3, 0, 0, 0),
  (yX3_replaceByFirstOf, cX3_replaceByFirstOf, 3, none, 3, 1, 1, 23),
  (yX3_changeSeats, cX3_changeSeats, 3, none, 3, 1, 3, 65),
  (yX3_giveUp, cX3_giveUp, 3, none, 3, 1, 1, 21),
  (yX3_halve, cX3_halve, 3, none, 3, 0, 1, 23),
  (yX4_init, cX4_init, 1, none, 4, 0, 4, 81),
  (yX5_init, cX5_init, 1, none, 5, 0, 3, 61),
  (yX5_copyFrom, cX5_copyFrom, 2, none, 5, 1, 3, 68),
  (yX5_streamOf, cX5_streamOf, 2, (some (.object "HeavyGuests$Stream")), 5, 1, 0, 0),
  (yX5_seatsOfEach, cX5_seatsOfEach, 1, (some .int), 5, 0, 0, 0),
  (yX5_changeSeats, cX5_changeSeats, 2, none, 5, 1, 4, 87),
  (yX5_errorOfJoining, cX5_errorOfJoining, 1, (some .int), 5, 0, 3, 66),
  (yX5_joinStreams, cX5_joinStreams, 4, none, 5, 1, 4, 93),
  (yX5_insertJoined, cX5_insertJoined, 5, none, 5, 2, 3, 69),
  (yX6_init, cX6_init, 1, none, 6, 0, 2, 41),
  (yX6_copyFrom, cX6_copyFrom, 2, none, 6, 1, 2, 47),
  (yX6_errorOfComing, cX6_errorOfComing, 4, (some .int), 6, 2, 2, 43),
  (yX6_letCome, cX6_letCome, 4, (some .int), 6, 2, 4, 87),
  (yX6_halve, cX6_halve, 1, none, 6, 0, 3, 67),
  (yX6_beginAnew, cX6_beginAnew, 1, none, 6, 0, 1, 20),
  (yX7_init, cX7_init, 1, none, 7, 0, 1, 20),
  (yX7_copyFrom, cX7_copyFrom, 2, none, 7, 1, 1, 26),
  (yX7_hasPlace, cX7_hasPlace, 2, (some .boolean), 7, 1, 0, 0),
  (yX7_guestAt, cX7_guestAt, 2, (some .int), 7, 1, 0, 0),
  (yX7_timesAt, cX7_timesAt, 2, (some .int), 7, 1, 0, 0),
  (yX7_placeOf, cX7_placeOf, 3, (some .int), 7, 1, 1, 21),
  (yX7_timesOf, cX7_timesOf, 2, (some .int), 7, 1, 2, 43),
  (yX7_trulyAbove, cX7_trulyAbove, 4, (some .int), 7, 1, 1, 21),
  (yX7_unlikeGuestsWith, cX7_unlikeGuestsWith, 4, (some .int), 7, 1, 2, 43),
  (yX7_add, cX7_add, 4, none, 7, 2, 2, 45),
  (yX7_addAllOf, cX7_addAllOf, 3, none, 7, 1, 3, 68),
  (yX7_append, cX7_append, 3, none, 7, 2, 0, 0),
  (yX7_moveUp, cX7_moveUp, 5, none, 7, 1, 1, 21),
  (yX7_clear, cX7_clear, 1, none, 7, 0, 0, 0),
  (yX7_halve, cX7_halve, 3, none, 7, 0, 2, 45)]
def mtab2 : List MI := [
  (yX8_init, cX8_init, 1, none, 8, 0, 5, 102),
  (yX8_seats, cX8_seats, 3, (some .int), 8, 1, 5, 110),
  (yX8_come, cX8_come, 5, (some .int), 8, 3, 5, 110),
  (yX8_age, cX8_age, 2, (some .int), 8, 1, 5, 110),
  (yX8_join, cX8_join, 2, (some .int), 8, 0, 5, 116),
  (yX8_seat, cX8_seat, 5, (some .int), 8, 3, 3, 64),
  (yX8_of, cX8_of, 6, (some .int), 8, 3, 3, 65),
  (yX8_stream, cX8_stream, 4, (some .int), 8, 2, 2, 43),
  (yX8_count, cX8_count, 2, (some .int), 8, 1, 1, 20),
  (yX8_above, cX8_above, 6, (some .int), 8, 3, 3, 65),
  (yX8_heaviest, cX8_heaviest, 4, (some .int), 8, 2, 4, 88),
  (yX8_truly, cX8_truly, 4, (some .int), 8, 2, 1, 21),
  (yX8_sureOrder, cX8_sureOrder, 2, (some .int), 8, 1, 5, 112),
  (yX8_wouldTake, cX8_wouldTake, 4, (some .int), 8, 2, 4, 87),
  (yX8_doubt, cX8_doubt, 5, (some .int), 8, 2, 3, 65),
  (yX8_put, cX8_put, 5, (some .int), 8, 1, 1, 26),
  (yX8_wipe, cX8_wipe, 2, (some .int), 8, 0, 0, 0),
  (yX8_fault, cX8_fault, 2, (some .int), 8, 0, 3, 63),
  (yX8_carryOut, cX8_carryOut, 4, (some .int), 8, 0, 6, 138),
  (yX8_undo, cX8_undo, 1, (some .int), 8, 0, 5, 110),
  (yX8_save, cX8_save, 2, (some .int), 8, 1, 4, 89),
  (yX8_restore, cX8_restore, 2, (some .int), 8, 1, 5, 110),
  (yX8_isStream, cX8_isStream, 1, (some .boolean), 8, 1, 0, 0),
  (yX8_isSlot, cX8_isSlot, 2, (some .boolean), 8, 1, 0, 0),
  (yX8_errorOfAsking, cX8_errorOfAsking, 2, (some .int), 8, 2, 1, 21),
  (yX8_isCode, cX8_isCode, 2, (some .boolean), 8, 1, 0, 0),
  (yX8_lettersOf, cX8_lettersOf, 3, (some .int), 8, 1, 0, 0),
  (yX8_numberOfSigns, cX8_numberOfSigns, 7, (some .int), 8, 1, 0, 0),
  (yX8_carryOrderOut, cX8_carryOrderOut, 3, (some .int), 8, 0, 5, 116),
  (yX9_init, cX9_init, 1, none, 9, 0, 1, 20),
  (yX9_in, cX9_in, 3, (some .boolean), 9, 3, 0, 0),
  (yX9_isStream, cX9_isStream, 1, (some .boolean), 9, 1, 1, 22),
  (yX9_isCode, cX9_isCode, 3, (some .boolean), 9, 1, 1, 22),
  (yX9_get, cX9_get, 3, (some .int), 9, 2, 0, 0),
  (yX9_lay, cX9_lay, 4, none, 9, 3, 0, 0),
  (yX9_guestOf, cX9_guestOf, 3, (some .int), 9, 2, 1, 22),
  (yX9_countOf, cX9_countOf, 3, (some .int), 9, 2, 1, 22),
  (yX9_excessOf, cX9_excessOf, 3, (some .int), 9, 2, 1, 22),
  (yX9_records, cX9_records, 2, none, 9, 0, 0, 0),
  (yX9_seatOf, cX9_seatOf, 4, (some .int), 9, 2, 2, 44)]
def mtab3 : List MI := [
  (yX9_weakest, cX9_weakest, 5, (some .int), 9, 1, 2, 44),
  (yX9_givesUp, cX9_givesUp, 5, none, 9, 2, 1, 23),
  (yX9_isFull, cX9_isFull, 2, (some .boolean), 9, 1, 1, 22),
  (yX9_leastOf, cX9_leastOf, 2, (some .int), 9, 1, 3, 68),
  (yX9_most, cX9_most, 4, (some .int), 9, 2, 4, 89),
  (yX9_least, cX9_least, 4, (some .int), 9, 2, 3, 67),
  (yX9_trueAt, cX9_trueAt, 4, (some .int), 9, 2, 1, 22),
  (yX9_trueOf, cX9_trueOf, 4, (some .int), 9, 2, 2, 45),
  (yX9_countsTruly, cX9_countsTruly, 5, none, 9, 3, 2, 45),
  (yX9_seatFor, cX9_seatFor, 4, (some .int), 9, 2, 3, 68),
  (yX9_comes, cX9_comes, 6, (some .int), 9, 3, 4, 91),
  (yX9_seats, cX9_seats, 4, (some .int), 9, 1, 3, 68),
  (yX9_refusesCome, cX9_refusesCome, 5, (some .int), 9, 3, 2, 45),
  (yX9_come, cX9_come, 5, (some .int), 9, 3, 5, 116),
  (yX9_ages, cX9_ages, 5, none, 9, 1, 2, 47),
  (yX9_age, cX9_age, 2, (some .int), 9, 1, 3, 71),
  (yX9_refusesJoin, cX9_refusesJoin, 3, (some .int), 9, 0, 2, 45),
  (yX9_joinsGuest, cX9_joinsGuest, 3, none, 9, 1, 5, 112),
  (yX9_aheadOf, cX9_aheadOf, 6, (some .int), 9, 1, 0, 0),
  (yX9_joins, cX9_joins, 4, none, 9, 0, 6, 134),
  (yX9_join, cX9_join, 1, (some .int), 9, 0, 7, 157),
  (yX9_seat, cX9_seat, 4, (some .int), 9, 3, 3, 68),
  (yX9_lettersOf, cX9_lettersOf, 3, (some .int), 9, 1, 0, 0),
  (yX9_of, cX9_of, 4, (some .int), 9, 3, 5, 112),
  (yX9_sumOfCounts, cX9_sumOfCounts, 4, (some .int), 9, 1, 2, 44),
  (yX9_greatestExcess, cX9_greatestExcess, 4, (some .int), 9, 1, 2, 44),
  (yX9_stream, cX9_stream, 3, (some .int), 9, 2, 4, 89),
  (yX9_count, cX9_count, 2, (some .int), 9, 1, 0, 0),
  (yX9_above, cX9_above, 8, (some .int), 9, 3, 2, 44),
  (yX9_rankOf, cX9_rankOf, 8, (some .int), 9, 2, 2, 44),
  (yX9_heavyAt, cX9_heavyAt, 4, (some .int), 9, 2, 3, 71),
  (yX9_heaviest, cX9_heaviest, 3, (some .int), 9, 2, 4, 94),
  (yX9_trueRank, cX9_trueRank, 6, (some .int), 9, 2, 1, 22),
  (yX9_truly, cX9_truly, 4, (some .int), 9, 2, 2, 47),
  (yX9_sureOrder, cX9_sureOrder, 7, (some .int), 9, 1, 5, 112),
  (yX9_wouldTake, cX9_wouldTake, 3, (some .int), 9, 2, 4, 91),
  (yX9_doubt, cX9_doubt, 3, (some .int), 9, 2, 5, 112),
  (yX9_put, cX9_put, 8, (some .int), 9, 1, 1, 22),
  (yX9_wipe, cX9_wipe, 2, (some .int), 9, 0, 0, 0),
  (yX9_sign, cX9_sign, 1, (some .int), 9, 0, 0, 0)]
def mtab4 : List MI := [
  (yX9_takes, cX9_takes, 4, (some .int), 9, 2, 1, 22),
  (yX9_name, cX9_name, 3, (some .int), 9, 0, 2, 45),
  (yX9_number, cX9_number, 3, (some .int), 9, 0, 2, 45),
  (yX9_readsOrder, cX9_readsOrder, 4, none, 9, 0, 3, 67),
  (yX9_reads, cX9_reads, 1, (some .int), 9, 0, 4, 90),
  (yX9_fault, cX9_fault, 1, (some .int), 9, 0, 5, 110),
  (yX9_does, cX9_does, 4, (some .boolean), 9, 3, 7, 157),
  (yX9_carryOut, cX9_carryOut, 2, (some .int), 9, 0, 8, 180),
  (yX9_undo, cX9_undo, 2, (some .int), 9, 0, 0, 0),
  (yX9_save, cX9_save, 3, (some .int), 9, 1, 1, 22),
  (yX9_restore, cX9_restore, 3, (some .int), 9, 1, 1, 22),
  (yL_law, cL_law, 4, (some .boolean), 10, 1, 9, 201)]
def mtab : List MI := mtab0 ++ (mtab1 ++ (mtab2 ++ (mtab3 ++ (mtab4))))
def mI (y : Nat) : MI := mtab.getD y m_d
def mN (y : Nat) : MethodName := (mI y).1
def mC (y : Nat) : ByteArray := (mI y).2.1
def mL (y : Nat) : Nat := (mI y).2.2.1
def mR (y : Nat) : Option FieldType := (mI y).2.2.2.1
def mO (y : Nat) : Nat := (mI y).2.2.2.2.1
def mA (y : Nat) : Nat := (mI y).2.2.2.2.2.1
def mF (y : Nat) : Nat := (mI y).2.2.2.2.2.2.1
def mW (y : Nat) : Nat := (mI y).2.2.2.2.2.2.2
abbrev LE : Type := Nat × Nat × Nat × Nat × Nat × Int
def ltab0 : List (LE × List Nat) := [
  ((0, 3, 6, 0, 0, 0), [163, 73, 74]),
  ((0, 9, 12, 5, 0, 0), [164, 76, 56]),
  ((0, 11, 10, 0, 0, 0), [167]),
  ((0, 17, 5, 51, 0, 0), [166, 78, 56, 79]),
  ((0, 18, 10, 0, 1, 0), [168]),
  ((0, 22, 0, 3, 0, 0), [264, 266, 0, 60, 267]),
  ((0, 25, 0, 52, 0, 0), [268, 269, 270, 56, 271]),
  ((0, 100009, 13, 5, 0, 0), [164, 165]),
  ((1, 3, 6, 0, 0, 0), [211, 73, 74]),
  ((1, 11, 10, 1, 0, 0), [212]),
  ((1, 15, 10, 1, 1, 0), [213]),
  ((1, 18, 10, 1, 2, 0), [215])]
def ltab1 : List (LE × List Nat) := [
  ((1, 21, 10, 1, 3, 0), [217]),
  ((1, 24, 10, 1, 4, 0), [219]),
  ((1, 27, 10, 1, 5, 0), [220]),
  ((1, 30, 0, 8, 0, 0), [621, 623, 9, 63, 624]),
  ((1, 34, 0, 9, 0, 0), [630, 632, 10, 63, 633]),
  ((1, 38, 0, 10, 0, 0), [634, 636, 11, 63, 637]),
  ((1, 41, 0, 11, 0, 0), [638, 640, 12, 63, 641]),
  ((1, 44, 0, 12, 0, 0), [642, 644, 13, 63, 645]),
  ((1, 47, 0, 13, 0, 0), [649, 651, 14, 63, 652]),
  ((1, 50, 0, 14, 0, 0), [653, 655, 15, 63, 656]),
  ((1, 53, 0, 6, 0, 0), [625, 626, 627, 63, 628]),
  ((1, 56, 0, 5, 0, 0), [629, 610, 611, 63, 612])]
def ltab2 : List (LE × List Nat) := [
  ((1, 59, 2, 15, 0, 0), [646, 647, 63, 648]),
  ((2, 3, 6, 0, 0, 0), [197, 73, 74]),
  ((2, 9, 10, 2, 0, 0), [198]),
  ((2, 15, 10, 2, 1, 0), [199]),
  ((3, 3, 6, 0, 0, 0), [92, 73, 74]),
  ((3, 9, 10, 3, 0, 0), [93]),
  ((3, 15, 10, 3, 1, 0), [94]),
  ((3, 18, 10, 3, 2, 0), [95]),
  ((3, 21, 10, 3, 3, 0), [96]),
  ((3, 25, 9, 0, 0, 0), [280, 282, 281, 65]),
  ((3, 31, 10, 3, 4, 0), [98]),
  ((3, 34, 0, 22, 0, 0), [364, 365, 366, 58, 367])]
def ltab3 : List (LE × List Nat) := [
  ((3, 38, 0, 25, 0, 0), [360, 361, 362, 58, 363]),
  ((3, 41, 0, 29, 0, 0), [444, 445, 446, 58, 447]),
  ((3, 45, 0, 23, 0, 0), [308, 309, 310, 58, 311]),
  ((3, 48, 0, 28, 0, 0), [455, 456, 457, 58, 458]),
  ((3, 51, 0, 24, 0, 0), [312, 313, 314, 58, 315]),
  ((3, 54, 8, 0, 0, 0), [448, 449, 66, 450]),
  ((3, 60, 7, 0, 0, 0), [530, 531, 66, 532]),
  ((3, 63, 0, 35, 0, 0), [300, 301, 302, 58, 303]),
  ((3, 66, 0, 36, 0, 0), [304, 306, 1, 58, 307]),
  ((3, 70, 0, 39, 0, 0), [561, 563, 8, 58, 564]),
  ((3, 73, 0, 37, 0, 0), [463, 464, 465, 58, 466]),
  ((3, 76, 0, 38, 0, 0), [579, 558, 559, 58, 560])]
def ltab4 : List (LE × List Nat) := [
  ((3, 79, 0, 21, 0, 0), [320, 321, 322, 58, 323]),
  ((3, 83, 0, 42, 0, 0), [372, 374, 3, 58, 375]),
  ((3, 87, 0, 44, 0, 0), [467, 469, 7, 58, 470]),
  ((3, 91, 0, 45, 0, 0), [405, 406, 407, 58, 408]),
  ((3, 94, 0, 48, 0, 0), [316, 318, 2, 58, 319]),
  ((4, 1, 6, 0, 0, 0), [181, 73, 74]),
  ((4, 7, 12, 5, 0, 0), [182, 76, 56]),
  ((4, 9, 5, 51, 0, 0), [183, 78, 56, 79]),
  ((4, 10, 10, 4, 0, 0), [184]),
  ((5, 3, 6, 0, 0, 0), [80, 73, 74]),
  ((5, 9, 12, 6, 0, 0), [81, 82, 57]),
  ((5, 11, 5, 59, 0, 0), [83, 84, 57, 85])]
def ltab5 : List (LE × List Nat) := [
  ((5, 12, 10, 5, 0, 0), [151]),
  ((5, 18, 10, 5, 1, 0), [152]),
  ((5, 21, 0, 60, 0, 0), [272, 273, 274, 57, 275]),
  ((5, 25, 11, 6, 0, 0), [132]),
  ((5, 29, 11, 3, 3, 0), [97]),
  ((5, 35, 0, 47, 0, 0), [296, 297, 298, 58, 299]),
  ((5, 39, 11, 6, 2, 0), [139]),
  ((5, 42, 14, 0, 0, 99999), [425]),
  ((5, 43, 11, 6, 1, 0), [135]),
  ((5, 47, 0, 73, 0, 0), [426, 427, 428, 59, 429]),
  ((5, 53, 0, 45, 0, 0), [434, 406, 407, 58, 408]),
  ((5, 56, 11, 3, 4, 0), [100])]
def ltab6 : List (LE × List Nat) := [
  ((5, 59, 0, 22, 0, 0), [435, 365, 366, 58, 367]),
  ((5, 63, 0, 58, 0, 0), [436, 438, 6, 56, 439]),
  ((5, 67, 0, 25, 0, 0), [471, 361, 362, 58, 363]),
  ((5, 70, 0, 46, 0, 0), [472, 473, 474, 58, 475]),
  ((5, 74, 0, 75, 0, 0), [476, 477, 478, 59, 479]),
  ((5, 78, 0, 64, 0, 0), [485, 486, 487, 57, 488]),
  ((5, 81, 0, 26, 0, 0), [440, 441, 442, 58, 443]),
  ((5, 84, 0, 27, 0, 0), [451, 452, 453, 58, 454]),
  ((5, 87, 0, 43, 0, 0), [459, 460, 461, 58, 462]),
  ((6, 3, 6, 0, 0, 0), [86, 73, 74]),
  ((6, 9, 12, 3, 0, 0), [87, 88, 58]),
  ((6, 11, 4, 19, 0, 0), [89, 90, 58, 91])]
def ltab7 : List (LE × List Nat) := [
  ((6, 14, 10, 6, 0, 0), [131]),
  ((6, 20, 12, 7, 0, 0), [113, 114, 59]),
  ((6, 22, 5, 65, 0, 0), [115, 116, 59, 117]),
  ((6, 23, 10, 6, 1, 0), [134]),
  ((6, 27, 0, 20, 0, 0), [276, 277, 278, 58, 279]),
  ((6, 31, 0, 66, 0, 0), [283, 284, 285, 59, 286]),
  ((6, 34, 10, 6, 2, 0), [137]),
  ((6, 38, 10, 6, 3, 0), [140]),
  ((6, 41, 3, 105, 0, 0), [339, 340, 55, 341]),
  ((6, 45, 14, 0, 0, 99999), [343]),
  ((6, 46, 0, 70, 0, 0), [344, 345, 346, 59, 347]),
  ((6, 50, 11, 7, 2, 0), [122])]
def ltab8 : List (LE × List Nat) := [
  ((6, 53, 0, 34, 0, 0), [356, 357, 358, 58, 359]),
  ((6, 56, 0, 41, 0, 0), [368, 369, 370, 58, 371]),
  ((6, 60, 0, 74, 0, 0), [376, 377, 378, 59, 379]),
  ((6, 64, 0, 49, 0, 0), [401, 402, 403, 58, 404]),
  ((6, 67, 0, 79, 0, 0), [409, 410, 411, 59, 412]),
  ((6, 68, 0, 45, 0, 0), [489, 406, 407, 58, 408]),
  ((6, 71, 0, 78, 0, 0), [490, 414, 415, 59, 416]),
  ((7, 3, 6, 0, 0, 0), [118, 73, 74]),
  ((7, 9, 10, 7, 0, 0), [119]),
  ((7, 15, 10, 7, 1, 0), [120]),
  ((7, 18, 9, 0, 0, 0), [287, 282, 281, 65]),
  ((7, 24, 10, 7, 2, 0), [121])]
def ltab9 : List (LE × List Nat) := [
  ((7, 28, 0, 68, 0, 0), [348, 349, 350, 59, 351]),
  ((7, 32, 0, 70, 0, 0), [380, 345, 346, 59, 347]),
  ((7, 35, 0, 69, 0, 0), [480, 481, 482, 59, 483]),
  ((7, 38, 0, 76, 0, 0), [381, 383, 4, 59, 384]),
  ((7, 42, 0, 67, 0, 0), [385, 386, 387, 59, 388]),
  ((7, 46, 0, 77, 0, 0), [389, 391, 5, 59, 392]),
  ((7, 50, 0, 74, 0, 0), [484, 377, 378, 59, 379]),
  ((7, 53, 0, 78, 0, 0), [413, 414, 415, 59, 416]),
  ((8, 1, 6, 0, 0, 0), [72, 73, 74]),
  ((8, 7, 12, 5, 0, 0), [75, 76, 56]),
  ((8, 9, 5, 51, 0, 0), [77, 78, 56, 79]),
  ((8, 10, 10, 8, 0, 0), [237])]
def ltab10 : List (LE × List Nat) := [
  ((8, 16, 12, 0, 0, 0), [158, 159, 60]),
  ((8, 18, 4, 0, 0, 0), [160, 161, 60, 162]),
  ((8, 19, 10, 8, 1, 0), [238]),
  ((8, 23, 12, 4, 0, 0), [175, 177, 61]),
  ((8, 25, 5, 50, 0, 0), [178, 179, 61, 180]),
  ((8, 26, 10, 8, 2, 0), [239]),
  ((8, 30, 12, 2, 0, 0), [192, 193, 62]),
  ((8, 32, 5, 16, 0, 0), [194, 195, 62, 196]),
  ((8, 33, 10, 8, 3, 0), [240]),
  ((8, 37, 12, 1, 0, 0), [206, 207, 63]),
  ((8, 39, 5, 4, 0, 0), [208, 209, 63, 210]),
  ((8, 40, 10, 8, 4, 0), [241])]
def ltab11 : List (LE × List Nat) := [
  ((8, 44, 12, 3, 0, 0), [235, 88, 58]),
  ((8, 46, 4, 19, 0, 0), [236, 90, 58, 91]),
  ((8, 49, 10, 8, 5, 0), [242]),
  ((8, 53, 0, 1, 0, 0), [260, 261, 262, 60, 263]),
  ((8, 57, 0, 54, 0, 0), [288, 289, 290, 56, 291]),
  ((8, 61, 0, 55, 0, 0), [292, 293, 294, 56, 295]),
  ((8, 64, 2, 102, 0, 0), [328, 329, 55, 330]),
  ((8, 68, 0, 53, 0, 0), [331, 332, 333, 56, 334]),
  ((8, 72, 0, 61, 0, 0), [335, 336, 337, 57, 338]),
  ((8, 78, 0, 62, 0, 0), [352, 353, 354, 57, 355]),
  ((8, 81, 0, 63, 0, 0), [397, 398, 399, 57, 400]),
  ((8, 84, 11, 6, 2, 0), [138])]
def ltab12 : List (LE × List Nat) := [
  ((8, 88, 0, 56, 0, 0), [421, 422, 423, 56, 424]),
  ((8, 91, 0, 57, 0, 0), [430, 431, 432, 56, 433]),
  ((8, 95, 11, 6, 0, 0), [133]),
  ((8, 98, 11, 3, 4, 0), [99]),
  ((8, 101, 0, 21, 0, 0), [495, 321, 322, 58, 323]),
  ((8, 104, 0, 22, 0, 0), [496, 365, 366, 58, 367]),
  ((8, 108, 0, 23, 0, 0), [497, 309, 310, 58, 311]),
  ((8, 111, 0, 24, 0, 0), [498, 313, 314, 58, 315]),
  ((8, 114, 11, 6, 1, 0), [136]),
  ((8, 118, 0, 71, 0, 0), [499, 500, 501, 59, 502]),
  ((8, 123, 2, 104, 0, 0), [507, 508, 55, 509]),
  ((8, 126, 0, 25, 0, 0), [511, 361, 362, 58, 363])]
def ltab13 : List (LE × List Nat) := [
  ((8, 129, 0, 26, 0, 0), [512, 441, 442, 58, 443]),
  ((8, 132, 0, 27, 0, 0), [513, 452, 453, 58, 454]),
  ((8, 135, 2, 106, 0, 0), [514, 515, 55, 516]),
  ((8, 138, 11, 7, 2, 0), [123]),
  ((8, 141, 0, 29, 0, 0), [521, 445, 446, 58, 447]),
  ((8, 144, 0, 30, 0, 0), [522, 523, 524, 58, 525]),
  ((8, 147, 0, 31, 0, 0), [526, 527, 528, 58, 529]),
  ((8, 150, 11, 6, 3, 0), [141]),
  ((8, 153, 11, 2, 1, 0), [200]),
  ((8, 156, 11, 0, 1, 0), [169]),
  ((8, 157, 0, 32, 0, 0), [541, 542, 543, 58, 544]),
  ((8, 160, 0, 33, 0, 0), [545, 546, 547, 58, 548])]
def ltab14 : List (LE × List Nat) := [
  ((8, 163, 0, 72, 0, 0), [549, 550, 551, 59, 552]),
  ((8, 166, 0, 38, 0, 0), [557, 558, 559, 58, 560]),
  ((8, 169, 0, 67, 0, 0), [569, 386, 387, 59, 388]),
  ((8, 172, 0, 68, 0, 0), [570, 349, 350, 59, 351]),
  ((8, 173, 0, 40, 0, 0), [575, 576, 577, 58, 578]),
  ((8, 176, 0, 34, 0, 0), [584, 357, 358, 58, 359]),
  ((8, 179, 2, 107, 0, 0), [593, 594, 55, 595]),
  ((8, 183, 0, 18, 0, 0), [597, 598, 599, 62, 600]),
  ((8, 186, 0, 5, 0, 0), [609, 610, 611, 63, 612]),
  ((8, 189, 0, 17, 0, 0), [613, 614, 615, 62, 616]),
  ((8, 192, 0, 7, 0, 0), [617, 618, 619, 63, 620]),
  ((8, 195, 0, 6, 0, 0), [657, 626, 627, 63, 628])]
def ltab15 : List (LE × List Nat) := [
  ((8, 199, 0, 97, 0, 0), [662, 606, 607, 55, 608]),
  ((8, 202, 0, 108, 0, 0), [663, 665, 16, 55, 666]),
  ((8, 205, 0, 2, 0, 0), [671, 672, 673, 60, 674]),
  ((8, 208, 0, 103, 0, 0), [679, 681, 17, 55, 682]),
  ((8, 211, 11, 4, 0, 0), [185]),
  ((8, 214, 0, 52, 0, 0), [683, 269, 270, 56, 271]),
  ((8, 217, 11, 4, 1, 0), [186]),
  ((8, 221, 2, 105, 0, 0), [510, 340, 55, 341]),
  ((8, 224, 14, 0, 0, 531440), [342]),
  ((8, 225, 15, 0, 0, 255), [596]),
  ((8, 227, 11, 1, 2, 0), [216]),
  ((8, 230, 11, 1, 1, 0), [214])]
def ltab16 : List (LE × List Nat) := [
  ((8, 233, 11, 1, 3, 0), [218]),
  ((8, 236, 11, 1, 5, 0), [221]),
  ((8, 100023, 13, 4, 0, 0), [175, 176]),
  ((9, 1, 6, 0, 0, 0), [693, 73, 74]),
  ((9, 7, 10, 9, 1, 0), [695]),
  ((9, 13, 10, 9, 2, 0), [696]),
  ((9, 16, 10, 9, 4, 0), [698]),
  ((9, 19, 10, 9, 5, 0), [699]),
  ((9, 23, 10, 9, 6, 0), [700]),
  ((9, 26, 10, 9, 8, 0), [702]),
  ((9, 29, 10, 9, 12, 0), [706]),
  ((9, 32, 10, 9, 0, 0), [694])]
def ltab17 : List (LE × List Nat) := [
  ((9, 36, 2, 110, 0, 0), [742, 743, 64, 744]),
  ((9, 40, 14, 0, 0, 531440), [787]),
  ((9, 41, 0, 113, 0, 0), [749, 751, 19, 64, 752]),
  ((9, 45, 10, 9, 3, 0), [697]),
  ((9, 48, 0, 115, 0, 0), [805, 807, 30, 64, 808]),
  ((9, 51, 0, 116, 0, 0), [757, 759, 21, 64, 760]),
  ((9, 54, 0, 117, 0, 0), [761, 763, 22, 64, 764]),
  ((9, 57, 0, 114, 0, 0), [769, 771, 24, 64, 772]),
  ((9, 61, 0, 122, 0, 0), [809, 811, 31, 64, 812]),
  ((9, 65, 0, 120, 0, 0), [753, 755, 20, 64, 756]),
  ((9, 69, 0, 119, 0, 0), [801, 803, 29, 64, 804]),
  ((9, 72, 0, 123, 0, 0), [845, 847, 38, 64, 848])]
def ltab18 : List (LE × List Nat) := [
  ((9, 75, 0, 126, 0, 0), [788, 790, 26, 64, 791]),
  ((9, 78, 0, 129, 0, 0), [797, 799, 28, 64, 800]),
  ((9, 81, 0, 128, 0, 0), [813, 815, 32, 64, 816]),
  ((9, 84, 0, 118, 0, 0), [745, 747, 18, 64, 748]),
  ((9, 87, 0, 121, 0, 0), [765, 767, 23, 64, 768]),
  ((9, 91, 2, 111, 0, 0), [781, 782, 64, 783]),
  ((9, 94, 2, 112, 0, 0), [784, 785, 64, 786]),
  ((9, 97, 14, 0, 0, 99999), [792]),
  ((9, 98, 0, 132, 0, 0), [777, 779, 25, 64, 780]),
  ((9, 102, 0, 130, 0, 0), [793, 795, 27, 64, 796]),
  ((9, 105, 0, 134, 0, 0), [821, 823, 33, 64, 824]),
  ((9, 109, 0, 124, 0, 0), [841, 843, 37, 64, 844])]
def ltab19 : List (LE × List Nat) := [
  ((9, 112, 10, 9, 9, 0), [703]),
  ((9, 115, 0, 125, 0, 0), [849, 851, 39, 64, 852]),
  ((9, 118, 0, 137, 0, 0), [837, 839, 36, 64, 840]),
  ((9, 121, 0, 138, 0, 0), [853, 855, 40, 64, 856]),
  ((9, 124, 0, 136, 0, 0), [829, 831, 34, 64, 832]),
  ((9, 128, 0, 139, 0, 0), [833, 835, 35, 64, 836]),
  ((9, 131, 0, 127, 0, 0), [861, 863, 41, 64, 864]),
  ((9, 134, 2, 142, 0, 0), [869, 870, 64, 871]),
  ((9, 137, 0, 144, 0, 0), [876, 878, 42, 64, 879]),
  ((9, 140, 0, 145, 0, 0), [880, 882, 43, 64, 883]),
  ((9, 143, 10, 9, 7, 0), [701]),
  ((9, 146, 0, 149, 0, 0), [900, 902, 45, 64, 903])]
def ltab20 : List (LE × List Nat) := [
  ((9, 149, 0, 150, 0, 0), [896, 898, 44, 64, 899]),
  ((9, 152, 0, 152, 0, 0), [908, 910, 46, 64, 911]),
  ((9, 155, 15, 0, 0, 255), [928]),
  ((9, 157, 10, 9, 10, 0), [704]),
  ((9, 160, 10, 9, 11, 0), [705]),
  ((9, 164, 0, 159, 0, 0), [945, 947, 49, 64, 948]),
  ((9, 167, 0, 160, 0, 0), [949, 951, 50, 64, 952]),
  ((9, 170, 0, 161, 0, 0), [953, 955, 51, 64, 956]),
  ((9, 173, 0, 162, 0, 0), [957, 959, 52, 64, 960]),
  ((9, 176, 10, 9, 13, 0), [707]),
  ((9, 179, 0, 163, 0, 0), [941, 943, 48, 64, 944]),
  ((9, 182, 0, 164, 0, 0), [937, 939, 47, 64, 940])]
def ltab21 : List (LE × List Nat) := [
  ((9, 185, 0, 166, 0, 0), [965, 967, 53, 64, 968]),
  ((10, 7, 12, 8, 0, 0), [67, 68, 55]),
  ((10, 9, 4, 80, 0, 0), [69, 70, 55, 71]),
  ((10, 10, 12, 9, 0, 0), [688, 689, 64]),
  ((10, 12, 4, 109, 0, 0), [690, 691, 64, 692]),
  ((10, 13, 0, 81, 0, 0), [256, 257, 258, 55, 259]),
  ((10, 17, 0, 131, 0, 0), [738, 739, 740, 64, 741]),
  ((10, 18, 0, 82, 0, 0), [324, 325, 326, 55, 327]),
  ((10, 22, 0, 133, 0, 0), [773, 774, 775, 64, 776]),
  ((10, 23, 0, 83, 0, 0), [393, 394, 395, 55, 396]),
  ((10, 26, 0, 135, 0, 0), [817, 818, 819, 64, 820]),
  ((10, 27, 0, 84, 0, 0), [417, 418, 419, 55, 420])]
def ltab22 : List (LE × List Nat) := [
  ((10, 31, 0, 140, 0, 0), [825, 826, 827, 64, 828]),
  ((10, 32, 0, 85, 0, 0), [491, 492, 493, 55, 494]),
  ((10, 35, 0, 141, 0, 0), [857, 858, 859, 64, 860]),
  ((10, 36, 0, 86, 0, 0), [503, 504, 505, 55, 506]),
  ((10, 39, 0, 143, 0, 0), [865, 866, 867, 64, 868]),
  ((10, 40, 0, 87, 0, 0), [517, 518, 519, 55, 520]),
  ((10, 44, 0, 146, 0, 0), [872, 873, 874, 64, 875]),
  ((10, 45, 0, 88, 0, 0), [533, 534, 535, 55, 536]),
  ((10, 48, 0, 147, 0, 0), [884, 885, 886, 64, 887]),
  ((10, 49, 0, 89, 0, 0), [537, 538, 539, 55, 540]),
  ((10, 52, 0, 148, 0, 0), [888, 889, 890, 64, 891]),
  ((10, 53, 0, 90, 0, 0), [553, 554, 555, 55, 556])]
def ltab23 : List (LE × List Nat) := [
  ((10, 56, 0, 151, 0, 0), [892, 893, 894, 64, 895]),
  ((10, 57, 0, 91, 0, 0), [565, 566, 567, 55, 568]),
  ((10, 60, 0, 153, 0, 0), [904, 905, 906, 64, 907]),
  ((10, 61, 0, 92, 0, 0), [571, 572, 573, 55, 574]),
  ((10, 64, 0, 154, 0, 0), [912, 913, 914, 64, 915]),
  ((10, 65, 0, 93, 0, 0), [580, 581, 582, 55, 583]),
  ((10, 68, 0, 155, 0, 0), [916, 917, 918, 64, 919]),
  ((10, 69, 0, 94, 0, 0), [585, 586, 587, 55, 588]),
  ((10, 72, 0, 156, 0, 0), [920, 921, 922, 64, 923]),
  ((10, 73, 15, 0, 0, 4294967295), [981]),
  ((10, 75, 0, 95, 0, 0), [589, 590, 591, 55, 592]),
  ((10, 79, 0, 157, 0, 0), [924, 925, 926, 64, 927])]
def ltab24 : List (LE × List Nat) := [
  ((10, 80, 0, 96, 0, 0), [601, 602, 603, 55, 604]),
  ((10, 83, 0, 158, 0, 0), [929, 930, 931, 64, 932]),
  ((10, 84, 0, 97, 0, 0), [605, 606, 607, 55, 608]),
  ((10, 87, 0, 165, 0, 0), [933, 934, 935, 64, 936]),
  ((10, 88, 0, 98, 0, 0), [658, 659, 660, 55, 661]),
  ((10, 91, 0, 167, 0, 0), [961, 962, 963, 64, 964]),
  ((10, 92, 0, 99, 0, 0), [667, 668, 669, 55, 670]),
  ((10, 95, 0, 168, 0, 0), [969, 970, 971, 64, 972]),
  ((10, 96, 0, 100, 0, 0), [675, 676, 677, 55, 678]),
  ((10, 99, 0, 169, 0, 0), [973, 974, 975, 64, 976]),
  ((10, 100, 0, 101, 0, 0), [684, 685, 686, 55, 687]),
  ((10, 103, 0, 170, 0, 0), [977, 978, 979, 64, 980])]
def ltabP : List (LE × List Nat) := ltab0 ++ (ltab1 ++ (ltab2 ++ (ltab3 ++ (ltab4 ++ (ltab5 ++ (ltab6 ++ (ltab7 ++ (ltab8 ++ (ltab9 ++ (ltab10 ++ (ltab11 ++ (ltab12 ++ (ltab13 ++ (ltab14 ++ (ltab15 ++ (ltab16 ++ (ltab17 ++ (ltab18 ++ (ltab19 ++ (ltab20 ++ (ltab21 ++ (ltab22 ++ (ltab23 ++ (ltab24))))))))))))))))))))))))
def ltab : List LE := ltabP.map (fun q => q.1)
def cNm : Nat → String := fun k => match k with
  | 0 => RX0
  | 1 => RX1
  | 2 => RX2
  | 3 => RX3
  | 4 => RX4
  | 5 => RX5
  | 6 => RX6
  | 7 => RX7
  | 8 => RX8
  | 9 => RX9
  | 10 => RL
  | _ => RL
abbrev vcl : List vw_C := [(RX0, TX0, 2), (RX1, TX1, 6), (RX2, TX2, 2), (RX3, TX3, 5), (RX4, TX4, 2), (RX5, TX5, 2), (RX6, TX6, 4), (RX7, TX7, 3), (RX8, TX8, 6), (RX9, TX9, 14)]
def cN (k : Nat) : Nat := match k with
  | 0 => 2
  | 1 => 6
  | 2 => 2
  | 3 => 5
  | 4 => 2
  | 5 => 2
  | 6 => 4
  | 7 => 3
  | 8 => 6
  | 9 => 14
  | _ => 0
def cT (k : Nat) : u_T := match k with
  | 0 => TX0
  | 1 => TX1
  | 2 => TX2
  | 3 => TX3
  | 4 => TX4
  | 5 => TX5
  | 6 => TX6
  | 7 => TX7
  | 8 => TX8
  | 9 => TX9
  | _ => TX0
def cY (k : Nat) : Nat → FieldType := match k with
  | 0 => tyX0
  | 1 => tyX1
  | 2 => tyX2
  | 3 => tyX3
  | 4 => tyX4
  | 5 => tyX5
  | 6 => tyX6
  | 7 => tyX7
  | 8 => tyX8
  | 9 => tyX9
  | _ => tyX0
def cV (k : Nat) : List Value := match k with
  | 0 => [.null, .int 0]
  | 1 => [.int 0, .int 0, .int 0, .int 0, .int 0, .int 0]
  | 2 => [.null, .int 0]
  | 3 => [.null, .null, .null, .int 0, .int 0]
  | 4 => [.null, .int 0]
  | 5 => [.null, .null]
  | 6 => [.null, .null, .int 0, .int 0]
  | 7 => [.null, .null, .int 0]
  | 8 => [.null, .null, .null, .null, .null, .null]
  | 9 => [.int 0, .null, .null, .int 0, .null, .null, .null, .int 0, .null, .int 0, .int 0, .int 0, .null, .int 0]
  | _ => []
def hostC : String := "HeavyGuests"
def cwd (y : Nat) : Cond := .code (mN y) (mC y) (mL y) (mR y)
/-- the words of the tables that an entry of the links rests on -/
def lcs (q : LE) : List Cond :=
  let own := cNm q.1
  let idx := q.2.1
  let a := q.2.2.2.1
  let b := q.2.2.2.2.1
  let y := mN a
  match q.2.2.1 with
  | 0 => [.methodLink own idx y, .instanceMethod y, .selects y.cls y y, .initialized y.cls, cwd a]
  | 1 => [.methodLinkNest own idx y hostC, .instanceMethod y, .selects y.cls y y, .initialized y.cls, cwd a]
  | 2 => [.methodLink own idx y, .static y, .initialized y.cls, cwd a]
  | 3 => [.methodLinkNest own idx y hostC, .static y, .initialized y.cls, cwd a]
  | 4 => [.methodLink own idx y, .instanceMethod y, .initialized y.cls, cwd a]
  | 5 => [.methodLinkNest own idx y hostC, .instanceMethod y, .initialized y.cls, cwd a]
  | 6 => [.methodLink own idx objectInit, .instanceMethod objectInit, .code objectInit ⟨#[0xb1]⟩ 1 none]
  | 7 => [.methodLink own idx Lib.Math.max.name, .static Lib.Math.max.name, .initialized "java/lang/Math", .code Lib.Math.max.name Lib.Math.max.code 2 (some .int)]
  | 8 => [.methodLink own idx Lib.Math.min.name, .static Lib.Math.min.name, .initialized "java/lang/Math", .code Lib.Math.min.name Lib.Math.min.code 2 (some .int)]
  | 9 => [.methodLink own idx arraycopyName, .native arraycopyName, .static arraycopyName, .initialized "java/lang/System"]
  | 10 => [.fieldLink own idx (cNm a) (cT a b).2.1 (cT a b).2.2.1]
  | 11 => [.fieldLinkNest own idx (cNm a) (cT a b).2.1 (cT a b).2.2.1 hostC]
  | 12 => [.classLink own idx (cNm a), .instantiable (cNm a) (cN a), .initialized (cNm a)]
  | 13 => [.classLink own (idx - 100000) (cNm a), .arrayOver (.object (cNm a))]
  | 14 => [.constant own idx (Int32.ofInt q.2.2.2.2.2)]
  | 15 => [.constantLong own idx (Int64.ofInt q.2.2.2.2.2)]
  | _ => []
/-- the words that ride beside the good ones: links of nest mates, arrays over own objects -/
def isNW : Cond → Bool
  | .fieldLinkNest .. => true
  | .methodLinkNest .. => true
  | .arrayOver (.object _) => true
  | _ => false
def okW (w : Cond) : Bool := goodWord w || isNW w
def okLP (q : LE × List Nat) : Bool := (lcs q.1).length == q.2.length && ((lcs q.1).zip q.2).all (fun z => okW z.1 && decide (lw_tbl[z.2]? = some z.1))
