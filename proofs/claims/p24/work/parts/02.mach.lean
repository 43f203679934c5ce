abbrev MI : Type := MethodName × ByteArray × Nat × Option FieldType × Nat × Nat × Nat × Nat
def m_d : MI := (yL_law, ⟨#[]⟩, 0, none, 10, 1, 0, 0)
def mtab0 : List MI := [
  (yX0_init, cX0_init, 2, none, 0, 0, 4, 81),
  (yX0_remember, cX0_remember, 2, none, 0, 1, 4, 89),
  (yX0_bringBack, cX0_bringBack, 2, none, 0, 1, 4, 89),
  (yX0_dropOldest, cX0_dropOldest, 3, none, 0, 0, 0, 0),
  (yX1_init, cX1_init, 1, none, 1, 0, 1, 20),
  m_d,
  m_d,
  m_d,
  m_d,
  m_d,
  m_d,
  m_d,
  m_d,
  m_d,
  m_d,
  m_d,
  (yX2_init, cX2_init, 1, none, 2, 0, 1, 20),
  m_d,
  m_d,
  (yX3_init, cX3_init, 2, none, 3, 1, 1, 20),
  (yX3_copyFrom, cX3_copyFrom, 2, none, 3, 1, 1, 26),
  (yX3_isTaken, cX3_isTaken, 2, (some .boolean), 3, 1, 0, 0),
  (yX3_guestAt, cX3_guestAt, 2, (some .int), 3, 1, 0, 0),
  (yX3_countAt, cX3_countAt, 2, (some .int), 3, 1, 0, 0),
  (yX3_excessAt, cX3_excessAt, 2, (some .int), 3, 1, 0, 0),
  (yX3_seatOf, cX3_seatOf, 3, (some .int), 3, 1, 1, 21),
  (yX3_mostOf, cX3_mostOf, 3, (some .int), 3, 1, 2, 43),
  (yX3_leastOf, cX3_leastOf, 2, (some .int), 3, 1, 2, 43),
  (yX3_leastAt, cX3_leastAt, 2, (some .int), 3, 1, 1, 21),
  (yX3_mostWithoutSeat, cX3_mostWithoutSeat, 3, (some .int), 3, 0, 1, 21),
  (yX3_sumOfCounts, cX3_sumOfCounts, 3, (some .int), 3, 0, 1, 21),
  (yX3_greatestExcess, cX3_greatestExcess, 3, (some .int), 3, 0, 1, 21),
  (yX3_surelyAbove, cX3_surelyAbove, 4, (some .int), 3, 1, 2, 42),
  (yX3_perhapsAbove, cX3_perhapsAbove, 4, (some .int), 3, 1, 1, 21),
  (yX3_seatFor, cX3_seatFor, 3, (some .int), 3, 1, 3, 65),
  (yX3_firstToGo, cX3_firstToGo, 3, (some .int), 3, 0, 2, 43),
  (yX3_goesBefore, cX3_goesBefore, 3, (some .boolean), 3, 2, 1, 21),
  (yX3_isHeavier, cX3_isHeavier, 3, (some .boolean), 3, 2, 1, 21),
  m_d,
  m_d]
def mtab1 : List MI := [
  m_d,
  (yX3_serve, cX3_serve, 5, (some .boolean), 3, 3, 1, 23),
  (yX3_append, cX3_append, 4, none, 3, 3, 0, 0),
  (yX3_insertByWeight, cX3_insertByWeight, 5, none, 3, 3, 2, 45),
  (yX3_swapWithFormer, cX3_swapWithFormer, 5, none, 3, 1, 1, 21),
  (yX3_clear, cX3_clear, 1, none, 3, 0, 0, 0),
  (yX3_replaceByFirstOf, cX3_replaceByFirstOf, 3, none, 3, 1, 1, 23),
  (yX3_changeSeats, cX3_changeSeats, 3, none, 3, 1, 3, 65),
  (yX3_giveUp, cX3_giveUp, 3, none, 3, 1, 1, 21),
  (yX3_halve, cX3_halve, 3, none, 3, 0, 1, 23),
  (yX4_init, cX4_init, 1, none, 4, 0, 4, 81),
  (yX5_init, cX5_init, 1, none, 5, 0, 3, 61),
  (yX5_copyFrom, cX5_copyFrom, 2, none, 5, 1, 3, 68),
  (yX5_streamOf, cX5_streamOf, 2, (some (.object "HeavyGuests$Stream")), 5, 1, 0, 0),
  (yX5_seatsOfEach, cX5_seatsOfEach, 1, (some .int), 5, 0, 0, 0),
  (yX5_changeSeats, cX5_changeSeats, 2, none, 5, 1, 4, 87),
  (yX5_errorOfJoining, cX5_errorOfJoining, 1, (some .int), 5, 0, 3, 66),
  (yX5_joinStreams, cX5_joinStreams, 4, none, 5, 1, 4, 93),
  (yX5_insertJoined, cX5_insertJoined, 5, none, 5, 2, 3, 69),
  (yX6_init, cX6_init, 1, none, 6, 0, 2, 41),
  (yX6_copyFrom, cX6_copyFrom, 2, none, 6, 1, 2, 47),
  (yX6_errorOfComing, cX6_errorOfComing, 4, (some .int), 6, 2, 2, 43),
  (yX6_letCome, cX6_letCome, 4, (some .int), 6, 2, 4, 87),
  (yX6_halve, cX6_halve, 1, none, 6, 0, 3, 67),
  (yX6_beginAnew, cX6_beginAnew, 1, none, 6, 0, 1, 20),
  (yX7_init, cX7_init, 1, none, 7, 0, 1, 20),
  (yX7_copyFrom, cX7_copyFrom, 2, none, 7, 1, 1, 26),
  (yX7_hasPlace, cX7_hasPlace, 2, (some .boolean), 7, 1, 0, 0),
  (yX7_guestAt, cX7_guestAt, 2, (some .int), 7, 1, 0, 0),
  (yX7_timesAt, cX7_timesAt, 2, (some .int), 7, 1, 0, 0),
  (yX7_placeOf, cX7_placeOf, 3, (some .int), 7, 1, 1, 21),
  (yX7_timesOf, cX7_timesOf, 2, (some .int), 7, 1, 2, 43),
  (yX7_trulyAbove, cX7_trulyAbove, 4, (some .int), 7, 1, 1, 21),
  (yX7_unlikeGuestsWith, cX7_unlikeGuestsWith, 4, (some .int), 7, 1, 2, 43),
  (yX7_add, cX7_add, 4, none, 7, 2, 2, 45),
  (yX7_addAllOf, cX7_addAllOf, 3, none, 7, 1, 3, 68),
  (yX7_append, cX7_append, 3, none, 7, 2, 0, 0),
  (yX7_moveUp, cX7_moveUp, 5, none, 7, 1, 1, 21),
  (yX7_clear, cX7_clear, 1, none, 7, 0, 0, 0),
  (yX7_halve, cX7_halve, 3, none, 7, 0, 2, 45)]
def mtab2 : List MI := [
  (yX8_init, cX8_init, 1, none, 8, 0, 5, 102),
  (yX8_seats, cX8_seats, 3, (some .int), 8, 1, 5, 110),
  (yX8_come, cX8_come, 5, (some .int), 8, 3, 5, 110),
  (yX8_age, cX8_age, 2, (some .int), 8, 1, 5, 110),
  (yX8_join, cX8_join, 2, (some .int), 8, 0, 5, 116),
  (yX8_seat, cX8_seat, 5, (some .int), 8, 3, 3, 64),
  (yX8_of, cX8_of, 6, (some .int), 8, 3, 3, 65),
  (yX8_stream, cX8_stream, 4, (some .int), 8, 2, 2, 43),
  (yX8_count, cX8_count, 2, (some .int), 8, 1, 1, 20),
  (yX8_above, cX8_above, 6, (some .int), 8, 3, 3, 65),
  m_d,
  (yX8_truly, cX8_truly, 4, (some .int), 8, 2, 1, 21),
  m_d,
  (yX8_wouldTake, cX8_wouldTake, 4, (some .int), 8, 2, 4, 87),
  m_d,
  m_d,
  m_d,
  m_d,
  m_d,
  (yX8_undo, cX8_undo, 1, (some .int), 8, 0, 5, 110),
  (yX8_save, cX8_save, 2, (some .int), 8, 1, 4, 89),
  (yX8_restore, cX8_restore, 2, (some .int), 8, 1, 5, 110),
  (yX8_isStream, cX8_isStream, 1, (some .boolean), 8, 1, 0, 0),
  (yX8_isSlot, cX8_isSlot, 2, (some .boolean), 8, 1, 0, 0),
  (yX8_errorOfAsking, cX8_errorOfAsking, 2, (some .int), 8, 2, 1, 21),
  (yX8_isCode, cX8_isCode, 2, (some .boolean), 8, 1, 0, 0),
  (yX8_lettersOf, cX8_lettersOf, 3, (some .int), 8, 1, 0, 0),
  m_d,
  m_d,
  (yL_cell, cL_cell, 2, (some .int), 10, 2, 0, 0),
  (yL_low, cL_low, 2, (some .int), 10, 2, 0, 0),
  (yL_guest, cL_guest, 1, (some .int), 10, 1, 1, 21),
  (yL_digest, cL_digest, 6, (some .long), 10, 1, 4, 90),
  (yL_act, cL_act, 3, (some .int), 10, 3, 6, 137),
  (yL_holds, cL_holds, 10, (some .boolean), 10, 3, 4, 90),
  (yL_law, cL_law, 18, (some .boolean), 10, 1, 7, 159)]
def mtab : List MI := mtab0 ++ (mtab1 ++ (mtab2))
def mI (y : Nat) : MI := mtab.getD y m_d
def mN (y : Nat) : MethodName := (mI y).1
def mC (y : Nat) : ByteArray := (mI y).2.1
def mL (y : Nat) : Nat := (mI y).2.2.1
def mR (y : Nat) : Option FieldType := (mI y).2.2.2.1
def mO (y : Nat) : Nat := (mI y).2.2.2.2.1
def mA (y : Nat) : Nat := (mI y).2.2.2.2.2.1
def mF (y : Nat) : Nat := (mI y).2.2.2.2.2.2.1
def mW (y : Nat) : Nat := (mI y).2.2.2.2.2.2.2
abbrev LE : Type := Nat × Nat × Nat × Nat × Nat × Int
def ltab0 : List (LE × List Nat) := [
  ((0, 3, 6, 0, 0, 0), [117, 27, 28]),
  ((0, 9, 12, 5, 0, 0), [118, 30, 11]),
  ((0, 11, 10, 0, 0, 0), [121]),
  ((0, 17, 5, 51, 0, 0), [120, 32, 11, 33]),
  ((0, 18, 10, 0, 1, 0), [122]),
  ((0, 22, 0, 3, 0, 0), [320, 322, 2, 15, 323]),
  ((0, 25, 0, 52, 0, 0), [283, 284, 285, 11, 286]),
  ((0, 100009, 13, 5, 0, 0), [118, 119]),
  ((1, 3, 6, 0, 0, 0), [164, 27, 28]),
  ((2, 3, 6, 0, 0, 0), [151, 27, 28]),
  ((2, 9, 10, 2, 0, 0), [152]),
  ((3, 3, 6, 0, 0, 0), [46, 27, 28])]
def ltab1 : List (LE × List Nat) := [
  ((3, 9, 10, 3, 0, 0), [47]),
  ((3, 15, 10, 3, 1, 0), [48]),
  ((3, 18, 10, 3, 2, 0), [49]),
  ((3, 21, 10, 3, 3, 0), [50]),
  ((3, 25, 9, 0, 0, 0), [295, 297, 296, 19]),
  ((3, 31, 10, 3, 4, 0), [52]),
  ((3, 34, 0, 22, 0, 0), [263, 264, 265, 13, 266]),
  ((3, 38, 0, 25, 0, 0), [259, 260, 261, 13, 262]),
  ((3, 41, 0, 29, 0, 0), [383, 211, 212, 13, 213]),
  ((3, 45, 0, 23, 0, 0), [214, 215, 216, 13, 217]),
  ((3, 48, 0, 28, 0, 0), [388, 389, 390, 13, 391]),
  ((3, 51, 0, 24, 0, 0), [229, 230, 231, 13, 232])]
def ltab2 : List (LE × List Nat) := [
  ((3, 54, 8, 0, 0, 0), [218, 219, 20, 220]),
  ((3, 60, 7, 0, 0, 0), [233, 234, 20, 235]),
  ((3, 63, 0, 35, 0, 0), [267, 268, 269, 13, 270]),
  ((3, 66, 0, 36, 0, 0), [271, 273, 0, 13, 274]),
  ((3, 73, 0, 37, 0, 0), [481, 482, 483, 13, 484]),
  ((3, 79, 0, 21, 0, 0), [414, 343, 344, 13, 345]),
  ((3, 83, 0, 42, 0, 0), [431, 433, 4, 13, 434]),
  ((3, 87, 0, 44, 0, 0), [485, 487, 8, 13, 488]),
  ((3, 91, 0, 45, 0, 0), [427, 428, 429, 13, 430]),
  ((3, 94, 0, 48, 0, 0), [410, 412, 3, 13, 413]),
  ((4, 1, 6, 0, 0, 0), [135, 27, 28]),
  ((4, 7, 12, 5, 0, 0), [136, 30, 11])]
def ltab3 : List (LE × List Nat) := [
  ((4, 9, 5, 51, 0, 0), [137, 32, 11, 33]),
  ((4, 10, 10, 4, 0, 0), [138]),
  ((5, 3, 6, 0, 0, 0), [34, 27, 28]),
  ((5, 9, 12, 6, 0, 0), [35, 36, 12]),
  ((5, 11, 5, 59, 0, 0), [37, 38, 12, 39]),
  ((5, 12, 10, 5, 0, 0), [105]),
  ((5, 18, 10, 5, 1, 0), [106]),
  ((5, 21, 0, 60, 0, 0), [287, 288, 289, 12, 290]),
  ((5, 25, 11, 6, 0, 0), [86]),
  ((5, 29, 11, 3, 3, 0), [51]),
  ((5, 35, 0, 47, 0, 0), [406, 407, 408, 13, 409]),
  ((5, 39, 11, 6, 2, 0), [93])]
def ltab4 : List (LE × List Nat) := [
  ((5, 42, 14, 0, 0, 99999), [460]),
  ((5, 43, 11, 6, 1, 0), [89]),
  ((5, 47, 0, 73, 0, 0), [461, 462, 463, 14, 464]),
  ((5, 53, 0, 45, 0, 0), [469, 428, 429, 13, 430]),
  ((5, 56, 11, 3, 4, 0), [54]),
  ((5, 59, 0, 22, 0, 0), [470, 264, 265, 13, 266]),
  ((5, 63, 0, 58, 0, 0), [471, 473, 7, 11, 474]),
  ((5, 67, 0, 25, 0, 0), [489, 260, 261, 13, 262]),
  ((5, 70, 0, 46, 0, 0), [490, 491, 492, 13, 493]),
  ((5, 74, 0, 75, 0, 0), [494, 495, 496, 14, 497]),
  ((5, 78, 0, 64, 0, 0), [502, 503, 504, 12, 505]),
  ((5, 81, 0, 26, 0, 0), [475, 380, 381, 13, 382])]
def ltab5 : List (LE × List Nat) := [
  ((5, 84, 0, 27, 0, 0), [476, 385, 386, 13, 387]),
  ((5, 87, 0, 43, 0, 0), [477, 478, 479, 13, 480]),
  ((6, 3, 6, 0, 0, 0), [40, 27, 28]),
  ((6, 9, 12, 3, 0, 0), [41, 42, 13]),
  ((6, 11, 4, 19, 0, 0), [43, 44, 13, 45]),
  ((6, 14, 10, 6, 0, 0), [85]),
  ((6, 20, 12, 7, 0, 0), [67, 68, 14]),
  ((6, 22, 5, 65, 0, 0), [69, 70, 14, 71]),
  ((6, 23, 10, 6, 1, 0), [88]),
  ((6, 27, 0, 20, 0, 0), [291, 292, 293, 13, 294]),
  ((6, 31, 0, 66, 0, 0), [298, 299, 300, 14, 301]),
  ((6, 34, 10, 6, 2, 0), [91])]
def ltab6 : List (LE × List Nat) := [
  ((6, 38, 10, 6, 3, 0), [94]),
  ((6, 41, 3, 105, 0, 0), [516, 252, 10, 253]),
  ((6, 45, 14, 0, 0, 99999), [517]),
  ((6, 46, 0, 70, 0, 0), [518, 354, 355, 14, 356]),
  ((6, 50, 11, 7, 2, 0), [76]),
  ((6, 53, 0, 34, 0, 0), [523, 256, 257, 13, 258]),
  ((6, 56, 0, 41, 0, 0), [524, 525, 526, 13, 527]),
  ((6, 60, 0, 74, 0, 0), [528, 499, 500, 14, 501]),
  ((6, 64, 0, 49, 0, 0), [423, 424, 425, 13, 426]),
  ((6, 67, 0, 79, 0, 0), [435, 436, 437, 14, 438]),
  ((6, 68, 0, 45, 0, 0), [506, 428, 429, 13, 430]),
  ((6, 71, 0, 78, 0, 0), [507, 440, 441, 14, 442])]
def ltab7 : List (LE × List Nat) := [
  ((7, 3, 6, 0, 0, 0), [72, 27, 28]),
  ((7, 9, 10, 7, 0, 0), [73]),
  ((7, 15, 10, 7, 1, 0), [74]),
  ((7, 18, 9, 0, 0, 0), [302, 297, 296, 19]),
  ((7, 24, 10, 7, 2, 0), [75]),
  ((7, 28, 0, 68, 0, 0), [357, 358, 359, 14, 360]),
  ((7, 32, 0, 70, 0, 0), [353, 354, 355, 14, 356]),
  ((7, 35, 0, 69, 0, 0), [361, 362, 363, 14, 364]),
  ((7, 38, 0, 76, 0, 0), [443, 445, 5, 14, 446]),
  ((7, 42, 0, 67, 0, 0), [451, 370, 371, 14, 372]),
  ((7, 46, 0, 77, 0, 0), [447, 449, 6, 14, 450]),
  ((7, 50, 0, 74, 0, 0), [498, 499, 500, 14, 501])]
def ltab8 : List (LE × List Nat) := [
  ((7, 53, 0, 78, 0, 0), [439, 440, 441, 14, 442]),
  ((8, 1, 6, 0, 0, 0), [26, 27, 28]),
  ((8, 7, 12, 5, 0, 0), [29, 30, 11]),
  ((8, 9, 5, 51, 0, 0), [31, 32, 11, 33]),
  ((8, 10, 10, 8, 0, 0), [180]),
  ((8, 16, 12, 0, 0, 0), [112, 113, 15]),
  ((8, 18, 4, 0, 0, 0), [114, 115, 15, 116]),
  ((8, 19, 10, 8, 1, 0), [181]),
  ((8, 23, 12, 4, 0, 0), [129, 131, 16]),
  ((8, 25, 5, 50, 0, 0), [132, 133, 16, 134]),
  ((8, 26, 10, 8, 2, 0), [182]),
  ((8, 30, 12, 2, 0, 0), [146, 147, 17])]
def ltab9 : List (LE × List Nat) := [
  ((8, 32, 5, 16, 0, 0), [148, 149, 17, 150]),
  ((8, 33, 10, 8, 3, 0), [183]),
  ((8, 37, 12, 1, 0, 0), [159, 160, 18]),
  ((8, 39, 5, 4, 0, 0), [161, 162, 18, 163]),
  ((8, 40, 10, 8, 4, 0), [184]),
  ((8, 44, 12, 3, 0, 0), [178, 42, 13]),
  ((8, 46, 4, 19, 0, 0), [179, 44, 13, 45]),
  ((8, 49, 10, 8, 5, 0), [185]),
  ((8, 53, 0, 1, 0, 0), [316, 317, 318, 15, 319]),
  ((8, 57, 0, 54, 0, 0), [240, 241, 242, 11, 243]),
  ((8, 61, 0, 55, 0, 0), [402, 403, 404, 11, 405]),
  ((8, 64, 2, 102, 0, 0), [203, 204, 10, 205])]
def ltab10 : List (LE × List Nat) := [
  ((8, 68, 0, 53, 0, 0), [206, 207, 208, 11, 209]),
  ((8, 72, 0, 61, 0, 0), [512, 513, 514, 12, 515]),
  ((8, 78, 0, 62, 0, 0), [519, 520, 521, 12, 522]),
  ((8, 81, 0, 63, 0, 0), [419, 420, 421, 12, 422]),
  ((8, 84, 11, 6, 2, 0), [92]),
  ((8, 88, 0, 56, 0, 0), [456, 457, 458, 11, 459]),
  ((8, 91, 0, 57, 0, 0), [465, 466, 467, 11, 468]),
  ((8, 95, 11, 6, 0, 0), [87]),
  ((8, 98, 11, 3, 4, 0), [53]),
  ((8, 101, 0, 21, 0, 0), [342, 343, 344, 13, 345]),
  ((8, 104, 0, 22, 0, 0), [346, 264, 265, 13, 266]),
  ((8, 108, 0, 23, 0, 0), [347, 215, 216, 13, 217])]
def ltab11 : List (LE × List Nat) := [
  ((8, 111, 0, 24, 0, 0), [348, 230, 231, 13, 232]),
  ((8, 114, 11, 6, 1, 0), [90]),
  ((8, 118, 0, 71, 0, 0), [349, 350, 351, 14, 352]),
  ((8, 123, 2, 104, 0, 0), [248, 249, 10, 250]),
  ((8, 126, 0, 25, 0, 0), [378, 260, 261, 13, 262]),
  ((8, 129, 0, 26, 0, 0), [379, 380, 381, 13, 382]),
  ((8, 132, 0, 27, 0, 0), [384, 385, 386, 13, 387]),
  ((8, 135, 2, 106, 0, 0), [392, 393, 10, 394]),
  ((8, 138, 11, 7, 2, 0), [77]),
  ((8, 141, 0, 29, 0, 0), [210, 211, 212, 13, 213]),
  ((8, 144, 0, 30, 0, 0), [221, 222, 223, 13, 224]),
  ((8, 147, 0, 31, 0, 0), [225, 226, 227, 13, 228])]
def ltab12 : List (LE × List Nat) := [
  ((8, 150, 11, 6, 3, 0), [95]),
  ((8, 153, 11, 2, 1, 0), [153]),
  ((8, 156, 11, 0, 1, 0), [123]),
  ((8, 157, 0, 32, 0, 0), [536, 537, 538, 13, 539]),
  ((8, 160, 0, 33, 0, 0), [540, 541, 542, 13, 543]),
  ((8, 163, 0, 72, 0, 0), [544, 545, 546, 14, 547]),
  ((8, 169, 0, 67, 0, 0), [369, 370, 371, 14, 372]),
  ((8, 172, 0, 68, 0, 0), [373, 358, 359, 14, 360]),
  ((8, 176, 0, 34, 0, 0), [255, 256, 257, 13, 258]),
  ((8, 205, 0, 2, 0, 0), [279, 280, 281, 15, 282]),
  ((8, 208, 0, 103, 0, 0), [307, 309, 1, 10, 310]),
  ((8, 211, 11, 4, 0, 0), [139])]
def ltab13 : List (LE × List Nat) := [
  ((8, 214, 0, 52, 0, 0), [311, 284, 285, 11, 286]),
  ((8, 217, 11, 4, 1, 0), [140]),
  ((8, 221, 2, 105, 0, 0), [251, 252, 10, 253]),
  ((8, 224, 14, 0, 0, 531440), [254]),
  ((8, 100023, 13, 4, 0, 0), [129, 130]),
  ((10, 7, 14, 0, 0, 2147483647), [333]),
  ((10, 8, 2, 110, 0, 0), [330, 331, 9, 332]),
  ((10, 14, 0, 88, 0, 0), [236, 237, 238, 10, 239]),
  ((10, 15, 12, 8, 0, 0), [21, 22, 10]),
  ((10, 20, 15, 0, 0, 31), [337]),
  ((10, 22, 0, 87, 0, 0), [199, 200, 201, 10, 202]),
  ((10, 25, 0, 85, 0, 0), [338, 339, 340, 10, 341])]
def ltab14 : List (LE × List Nat) := [
  ((10, 29, 0, 91, 0, 0), [365, 366, 367, 10, 368]),
  ((10, 32, 0, 86, 0, 0), [374, 375, 376, 10, 377]),
  ((10, 35, 0, 81, 0, 0), [398, 399, 400, 10, 401]),
  ((10, 38, 0, 83, 0, 0), [415, 416, 417, 10, 418]),
  ((10, 41, 0, 84, 0, 0), [452, 453, 454, 10, 455]),
  ((10, 45, 0, 101, 0, 0), [312, 313, 314, 10, 315]),
  ((10, 48, 2, 111, 0, 0), [327, 328, 9, 329]),
  ((10, 51, 0, 82, 0, 0), [508, 509, 510, 10, 511]),
  ((10, 54, 0, 89, 0, 0), [532, 533, 534, 10, 535]),
  ((10, 57, 4, 80, 0, 0), [23, 24, 10, 25]),
  ((10, 58, 0, 99, 0, 0), [275, 276, 277, 10, 278]),
  ((10, 61, 0, 100, 0, 0), [303, 304, 305, 10, 306])]
def ltab15 : List (LE × List Nat) := [
  ((10, 64, 2, 112, 0, 0), [334, 335, 9, 336]),
  ((10, 68, 2, 109, 0, 0), [324, 325, 9, 326]),
  ((10, 72, 0, 93, 0, 0), [244, 245, 246, 10, 247]),
  ((10, 75, 2, 113, 0, 0), [395, 396, 9, 397]),
  ((10, 79, 2, 114, 0, 0), [529, 530, 9, 531])]
def ltabP : List (LE × List Nat) := ltab0 ++ (ltab1 ++ (ltab2 ++ (ltab3 ++ (ltab4 ++ (ltab5 ++ (ltab6 ++ (ltab7 ++ (ltab8 ++ (ltab9 ++ (ltab10 ++ (ltab11 ++ (ltab12 ++ (ltab13 ++ (ltab14 ++ (ltab15)))))))))))))))
def ltab : List LE := ltabP.map (fun q => q.1)
def cNm : Nat → String := fun k => match k with
  | 0 => RX0
  | 1 => RX1
  | 2 => RX2
  | 3 => RX3
  | 4 => RX4
  | 5 => RX5
  | 6 => RX6
  | 7 => RX7
  | 8 => RX8
  | 9 => RX9
  | 10 => RL
  | _ => RL
abbrev vcl : List vw_C := [(RX0, TX0, 2), (RX1, TX1, 6), (RX2, TX2, 2), (RX3, TX3, 5), (RX4, TX4, 2), (RX5, TX5, 2), (RX6, TX6, 4), (RX7, TX7, 3), (RX8, TX8, 6)]
def cN (k : Nat) : Nat := match k with
  | 0 => 2
  | 1 => 6
  | 2 => 2
  | 3 => 5
  | 4 => 2
  | 5 => 2
  | 6 => 4
  | 7 => 3
  | 8 => 6
  | _ => 0
def cT (k : Nat) : u_T := match k with
  | 0 => TX0
  | 1 => TX1
  | 2 => TX2
  | 3 => TX3
  | 4 => TX4
  | 5 => TX5
  | 6 => TX6
  | 7 => TX7
  | 8 => TX8
  | _ => TX0
def cY (k : Nat) : Nat → FieldType := match k with
  | 0 => tyX0
  | 1 => tyX1
  | 2 => tyX2
  | 3 => tyX3
  | 4 => tyX4
  | 5 => tyX5
  | 6 => tyX6
  | 7 => tyX7
  | 8 => tyX8
  | _ => tyX0
def cV (k : Nat) : List Value := match k with
  | 0 => [.null, .int 0]
  | 1 => [.int 0, .int 0, .int 0, .int 0, .int 0, .int 0]
  | 2 => [.null, .int 0]
  | 3 => [.null, .null, .null, .int 0, .int 0]
  | 4 => [.null, .int 0]
  | 5 => [.null, .null]
  | 6 => [.null, .null, .int 0, .int 0]
  | 7 => [.null, .null, .int 0]
  | 8 => [.null, .null, .null, .null, .null, .null]
  | _ => []
def hostC : String := "HeavyGuests"
def cwd (y : Nat) : Cond := .code (mN y) (mC y) (mL y) (mR y)
/-- the words of the tables that an entry of the links rests on -/
def lcs (q : LE) : List Cond :=
  let own := cNm q.1
  let idx := q.2.1
  let a := q.2.2.2.1
  let b := q.2.2.2.2.1
  let y := mN a
  match q.2.2.1 with
  | 0 => [.methodLink own idx y, .instanceMethod y, .selects y.cls y y, .initialized y.cls, cwd a]
  | 1 => [.methodLinkNest own idx y hostC, .instanceMethod y, .selects y.cls y y, .initialized y.cls, cwd a]
  | 2 => [.methodLink own idx y, .static y, .initialized y.cls, cwd a]
  | 3 => [.methodLinkNest own idx y hostC, .static y, .initialized y.cls, cwd a]
  | 4 => [.methodLink own idx y, .instanceMethod y, .initialized y.cls, cwd a]
  | 5 => [.methodLinkNest own idx y hostC, .instanceMethod y, .initialized y.cls, cwd a]
  | 6 => [.methodLink own idx objectInit, .instanceMethod objectInit, .code objectInit ⟨#[0xb1]⟩ 1 none]
  | 7 => [.methodLink own idx Lib.Math.max.name, .static Lib.Math.max.name, .initialized "java/lang/Math", .code Lib.Math.max.name Lib.Math.max.code 2 (some .int)]
  | 8 => [.methodLink own idx Lib.Math.min.name, .static Lib.Math.min.name, .initialized "java/lang/Math", .code Lib.Math.min.name Lib.Math.min.code 2 (some .int)]
  | 9 => [.methodLink own idx arraycopyName, .native arraycopyName, .static arraycopyName, .initialized "java/lang/System"]
  | 10 => [.fieldLink own idx (cNm a) (cT a b).2.1 (cT a b).2.2.1]
  | 11 => [.fieldLinkNest own idx (cNm a) (cT a b).2.1 (cT a b).2.2.1 hostC]
  | 12 => [.classLink own idx (cNm a), .instantiable (cNm a) (cN a), .initialized (cNm a)]
  | 13 => [.classLink own (idx - 100000) (cNm a), .arrayOver (.object (cNm a))]
  | 14 => [.constant own idx (Int32.ofInt q.2.2.2.2.2)]
  | 15 => [.constantLong own idx (Int64.ofInt q.2.2.2.2.2)]
  | _ => []
/-- the words that ride beside the good ones: links of nest mates, arrays over own objects -/
def isNW : Cond → Bool
  | .fieldLinkNest .. => true
  | .methodLinkNest .. => true
  | .arrayOver (.object _) => true
  | _ => false
def okW (w : Cond) : Bool := goodWord w || isNW w
def okLP (q : LE × List Nat) : Bool := (lcs q.1).length == q.2.length && ((lcs q.1).zip q.2).all (fun z => okW z.1 && decide (lw_tbl[z.2]? = some z.1))
