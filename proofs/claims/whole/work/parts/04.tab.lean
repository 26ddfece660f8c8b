/-! tables of the abstract machine: printed by wip/whole/gentab.py out of the Statement and the names -/
def cnl : List String := [RX0, RX1, RX2, RX3, RX4, RX5, RX6, RX7, RX8, RX9, RX10, RL, RJ6]
def cn (o : Nat) : String := cnl.getD o RL
abbrev classes : List vw_C := [(RX0, TX0, 3), (RX1, TX1, 3), (RX2, TX2, 11), (RX3, TX3, 1), (RX4, TX4, 3), (RX5, TX5, 6), (RX6, TX6, 3), (RX7, TX7, 9), (RX8, TX8, 5), (RX9, TX9, 9), (RX10, TX10, 40)]
abbrev aS : Type := (Nat × List (Option Nat)) ⊕ (Nat × Nat × List Nat)
def shl : List aS := [.inl (9, [some 1, some 9, some 15, some 18, some 80, some 90, some 91, some 103, some 106]),
  .inl (5, [some 2, none, none, some 8, none, none]),
  .inl (2, [none, none, none, none, none, none, some 3, some 4, some 5, some 6, some 7]),
  .inr (0, 6, []),
  .inr (0, 6, []),
  .inr (0, 6, []),
  .inr (0, 6, []),
  .inr (0, 8, []),
  .inr (0, 220, []),
  .inl (2, [none, none, none, none, none, none, some 10, some 11, some 12, some 13, some 14]),
  .inr (0, 6, []),
  .inr (0, 6, []),
  .inr (0, 6, []),
  .inr (0, 6, []),
  .inr (0, 8, []),
  .inl (7, [none, none, none, none, none, none, none, some 16, some 17]),
  .inr (0, 6, []),
  .inr (0, 6, []),
  .inl (4, [none, none, some 19]),
  .inr (2, 20, [20, 23, 26, 29, 32, 35, 38, 41, 44, 47, 50, 53, 56, 59, 62, 65, 68, 71, 74, 77]),
  .inl (7, [none, none, none, none, none, none, none, some 21, some 22]),
  .inr (0, 6, []),
  .inr (0, 6, []),
  .inl (7, [none, none, none, none, none, none, none, some 24, some 25]),
  .inr (0, 6, []),
  .inr (0, 6, []),
  .inl (7, [none, none, none, none, none, none, none, some 27, some 28]),
  .inr (0, 6, []),
  .inr (0, 6, []),
  .inl (7, [none, none, none, none, none, none, none, some 30, some 31]),
  .inr (0, 6, []),
  .inr (0, 6, []),
  .inl (7, [none, none, none, none, none, none, none, some 33, some 34]),
  .inr (0, 6, []),
  .inr (0, 6, []),
  .inl (7, [none, none, none, none, none, none, none, some 36, some 37]),
  .inr (0, 6, []),
  .inr (0, 6, []),
  .inl (7, [none, none, none, none, none, none, none, some 39, some 40]),
  .inr (0, 6, []),
  .inr (0, 6, []),
  .inl (7, [none, none, none, none, none, none, none, some 42, some 43]),
  .inr (0, 6, []),
  .inr (0, 6, []),
  .inl (7, [none, none, none, none, none, none, none, some 45, some 46]),
  .inr (0, 6, []),
  .inr (0, 6, []),
  .inl (7, [none, none, none, none, none, none, none, some 48, some 49]),
  .inr (0, 6, []),
  .inr (0, 6, []),
  .inl (7, [none, none, none, none, none, none, none, some 51, some 52]),
  .inr (0, 6, []),
  .inr (0, 6, []),
  .inl (7, [none, none, none, none, none, none, none, some 54, some 55]),
  .inr (0, 6, []),
  .inr (0, 6, []),
  .inl (7, [none, none, none, none, none, none, none, some 57, some 58]),
  .inr (0, 6, []),
  .inr (0, 6, []),
  .inl (7, [none, none, none, none, none, none, none, some 60, some 61]),
  .inr (0, 6, []),
  .inr (0, 6, []),
  .inl (7, [none, none, none, none, none, none, none, some 63, some 64]),
  .inr (0, 6, []),
  .inr (0, 6, []),
  .inl (7, [none, none, none, none, none, none, none, some 66, some 67]),
  .inr (0, 6, []),
  .inr (0, 6, []),
  .inl (7, [none, none, none, none, none, none, none, some 69, some 70]),
  .inr (0, 6, []),
  .inr (0, 6, []),
  .inl (7, [none, none, none, none, none, none, none, some 72, some 73]),
  .inr (0, 6, []),
  .inr (0, 6, []),
  .inl (7, [none, none, none, none, none, none, none, some 75, some 76]),
  .inr (0, 6, []),
  .inr (0, 6, []),
  .inl (7, [none, none, none, none, none, none, none, some 78, some 79]),
  .inr (0, 6, []),
  .inr (0, 6, []),
  .inl (0, [some 81, some 82, some 83]),
  .inr (2, 2, [84, 87]),
  .inr (0, 2, []),
  .inr (1, 2, []),
  .inl (7, [none, none, none, none, none, none, none, some 85, some 86]),
  .inr (0, 6, []),
  .inr (0, 6, []),
  .inl (7, [none, none, none, none, none, none, none, some 88, some 89]),
  .inr (0, 6, []),
  .inr (0, 6, []),
  .inl (3, [none]),
  .inl (8, [some 92, none, some 93, some 101, some 102]),
  .inr (0, 6, []),
  .inr (3, 7, [94, 95, 96, 97, 98, 99, 100]),
  .inr (0, 6, []),
  .inr (0, 6, []),
  .inr (0, 6, []),
  .inr (0, 6, []),
  .inr (0, 6, []),
  .inr (0, 6, []),
  .inr (0, 6, []),
  .inr (0, 6, []),
  .inr (0, 6, []),
  .inl (6, [none, some 104, some 105]),
  .inr (0, 8, []),
  .inr (1, 8, []),
  .inl (1, [none, some 107, some 108]),
  .inr (0, 15, []),
  .inr (0, 15, []),
  .inl (10, [none, none, none, none, none, some 110, some 111, some 112, none, some 113, some 114, none, some 115, none, none, none, none, none, some 116, none, some 117, some 118, some 119, some 120, none, some 121, none, some 122, some 123, some 124, some 125, none, none, some 126, some 127, none, some 128, some 129, some 130, some 131]),
  .inr (0, 6, []),
  .inr (0, 6, []),
  .inr (0, 6, []),
  .inr (0, 8, []),
  .inr (0, 19, []),
  .inr (0, 220, []),
  .inr (0, 4, []),
  .inr (0, 6, []),
  .inr (0, 6, []),
  .inr (0, 6, []),
  .inr (0, 6, []),
  .inr (0, 8, []),
  .inr (0, 380, []),
  .inr (0, 6, []),
  .inr (0, 6, []),
  .inr (0, 6, []),
  .inr (0, 8, []),
  .inr (1, 8, []),
  .inr (0, 15, []),
  .inr (0, 15, []),
  .inr (0, 40, []),
  .inr (1, 2, [])]
abbrev NP : Nat := 132
set_option maxRecDepth 100000 in
theorem shl_len : shl.length = NP := rfl
def flt : List (Nat × Nat × Nat × Nat) := [(2, 27, 2, 0), (8, 58, 2, 0), (9, 108, 2, 0), (5, 79, 2, 0), (7, 79, 2, 0), (2, 31, 2, 1), (7, 60, 2, 1), (9, 111, 2, 1), (5, 82, 2, 1), (2, 34, 2, 2), (7, 66, 2, 2), (9, 114, 2, 2), (5, 85, 2, 2), (2, 37, 2, 3), (9, 117, 2, 3), (5, 88, 2, 3), (2, 40, 2, 4), (9, 102, 2, 4), (8, 49, 2, 4), (5, 69, 2, 4), (2, 43, 2, 5), (5, 72, 2, 5), (9, 120, 2, 5), (6, 43, 2, 5), (2, 9, 2, 6), (7, 40, 2, 6), (2, 15, 2, 7), (9, 155, 2, 7), (8, 99, 2, 7), (2, 18, 2, 8), (8, 69, 2, 8), (9, 158, 2, 8), (2, 21, 2, 9), (9, 161, 2, 9), (8, 105, 2, 9), (2, 24, 2, 10), (9, 170, 2, 10), (5, 12, 5, 0), (9, 86, 5, 0), (5, 26, 5, 1), (9, 78, 5, 1), (5, 18, 5, 2), (9, 105, 5, 2), (5, 22, 5, 3), (5, 32, 5, 4), (5, 35, 5, 5), (7, 18, 7, 0), (9, 123, 7, 0), (7, 22, 7, 1), (9, 126, 7, 1), (7, 25, 7, 2), (9, 127, 7, 2), (7, 28, 7, 3), (9, 130, 7, 3), (7, 31, 7, 4), (9, 133, 7, 4), (7, 34, 7, 5), (9, 136, 7, 5), (7, 37, 7, 6), (9, 139, 7, 6), (7, 9, 7, 7), (8, 26, 7, 7), (1, 22, 7, 7), (9, 151, 7, 7), (7, 15, 7, 8), (9, 164, 7, 8), (4, 18, 4, 0), (9, 146, 4, 0), (4, 22, 4, 1), (4, 11, 4, 2), (0, 11, 0, 0), (0, 17, 0, 1), (0, 21, 0, 2), (3, 7, 3, 0), (0, 34, 3, 0), (9, 271, 3, 0), (8, 9, 8, 0), (9, 214, 8, 0), (8, 41, 8, 1), (9, 211, 8, 1), (8, 17, 8, 2), (8, 20, 8, 3), (8, 23, 8, 4), (6, 19, 6, 0), (9, 142, 6, 0), (6, 9, 6, 1), (6, 15, 6, 2), (1, 18, 1, 0), (9, 145, 1, 0), (1, 9, 1, 1), (1, 15, 1, 2), (9, 10, 9, 0), (9, 19, 9, 1), (9, 26, 9, 2), (9, 33, 9, 3), (9, 40, 9, 4), (9, 47, 9, 5), (9, 54, 9, 6), (9, 61, 9, 7), (9, 68, 9, 8), (10, 81, 10, 0), (10, 144, 10, 1), (10, 147, 10, 2), (10, 150, 10, 3), (10, 84, 10, 4), (10, 7, 10, 5), (10, 13, 10, 6), (10, 16, 10, 7), (10, 91, 10, 8), (10, 19, 10, 9), (10, 22, 10, 10), (10, 219, 10, 11), (10, 25, 10, 12), (10, 97, 10, 13), (10, 28, 10, 14), (10, 101, 10, 15), (10, 119, 10, 16), (10, 116, 10, 17), (10, 32, 10, 18), (10, 129, 10, 19), (10, 35, 10, 20), (10, 38, 10, 21), (10, 41, 10, 22), (10, 44, 10, 23), (10, 132, 10, 24), (10, 47, 10, 25), (10, 165, 10, 26), (10, 50, 10, 27), (10, 53, 10, 28), (10, 56, 10, 29), (10, 59, 10, 30), (10, 238, 10, 31), (10, 159, 10, 32), (10, 62, 10, 33), (10, 65, 10, 34), (10, 162, 10, 35), (10, 69, 10, 36), (10, 72, 10, 37), (10, 75, 10, 38), (10, 78, 10, 39)]
def klt : List (Nat × Nat × Int32) := [(9, 72, -1000000002), (9, 77, -1000000004), (9, 150, -1000000001), (9, 180, -1000000003), (9, 181, 90000), (7, 59, 999999), (12, 265, 1431655765), (12, 266, 858993459), (12, 267, 252645135), (3, 19, 65536), (10, 96, -1000000002), (10, 100, -1000000004), (10, 172, -1000000001), (10, 205, -1000000003), (10, 206, 90000), (10, 194, 999999), (10, 228, 65536), (10, 251, 1000000)]
def kLt : List (Nat × Nat × Int64) := [(3, 13, 1103515245), (3, 15, 12345), (3, 17, 2147483647), (9, 243, 1000000000), (9, 245, 100), (10, 94, 255), (10, 108, 48), (10, 110, 57), (10, 214, 60), (10, 222, 1103515245), (10, 224, 12345), (10, 226, 2147483648), (10, 261, 1000), (10, 263, 100), (10, 265, 1000000000), (10, 273, 199)]
def mlt : List (Nat × Nat × Nat) := [(11, 13, 61), (9, 73, 23), (11, 18, 62), (9, 82, 24), (5, 29, 7), (5, 38, 32), (5, 44, 33), (5, 41, 25), (5, 48, 26), (5, 65, 9), (5, 52, 34), (5, 56, 27), (5, 75, 30), (5, 105, 35), (5, 91, 31), (5, 59, 28), (5, 94, 14), (5, 62, 29), (5, 98, 12), (5, 101, 15), (9, 89, 8), (9, 93, 44), (9, 96, 20), (9, 99, 0), (9, 100, 36), (9, 101, 4), (11, 23, 63), (11, 27, 64), (11, 31, 65), (9, 147, 10), (11, 36, 66), (9, 167, 11), (11, 40, 67), (9, 173, 13), (2, 52, 12), (9, 176, 9), (9, 182, 21), (4, 25, 45), (9, 186, 46), (7, 51, 16), (7, 55, 18), (2, 69, 17), (2, 65, 11), (7, 69, 153), (7, 75, 48), (11, 45, 68), (9, 190, 90), (11, 49, 69), (9, 194, 89), (9, 197, 47), (11, 53, 70), (9, 200, 19), (11, 57, 71), (9, 203, 22), (11, 61, 72), (9, 207, 51), (8, 37, 50), (8, 45, 52), (8, 54, 16), (8, 61, 53), (8, 65, 54), (11, 65, 73), (9, 217, 55), (8, 78, 57), (8, 86, 12), (8, 90, 153), (11, 69, 74), (9, 221, 56), (11, 73, 75), (9, 224, 58), (8, 95, 10), (11, 77, 76), (9, 227, 59), (8, 108, 60), (11, 81, 77), (9, 231, 49), (11, 85, 78), (11, 89, 79), (11, 94, 80), (9, 247, 37), (11, 98, 81), (9, 250, 39), (6, 29, 38), (6, 23, 17), (9, 254, 40), (6, 33, 39), (9, 257, 41), (6, 37, 153), (11, 102, 82), (9, 261, 42), (6, 45, 43), (11, 106, 83), (9, 264, 5), (11, 110, 84), (11, 114, 85), (9, 267, 6), (11, 118, 86), (11, 122, 87), (9, 274, 1), (9, 277, 2), (0, 26, 1), (0, 30, 45), (11, 126, 88), (9, 281, 3), (11, 17, 99), (10, 87, 91), (11, 22, 109), (10, 104, 100), (10, 153, 107), (10, 112, 101), (10, 135, 104), (10, 125, 103), (10, 122, 102), (10, 138, 105), (10, 141, 106), (10, 156, 108), (11, 26, 110), (11, 30, 111), (11, 35, 112), (10, 168, 96), (11, 39, 113), (10, 173, 97), (11, 44, 119), (10, 202, 98), (10, 207, 118), (10, 210, 117), (10, 186, 114), (10, 176, 92), (10, 180, 95), (10, 183, 94), (10, 190, 115), (10, 195, 93), (10, 199, 116), (11, 48, 120), (11, 52, 122), (10, 216, 121), (11, 56, 124), (10, 229, 123), (11, 60, 125), (11, 64, 131), (10, 248, 130), (10, 235, 126), (10, 241, 128), (10, 232, 127), (10, 244, 129), (11, 68, 133), (10, 252, 132), (11, 72, 134), (11, 76, 135), (11, 80, 137), (10, 255, 136), (11, 84, 139), (10, 258, 138), (11, 88, 140), (11, 93, 141), (11, 97, 142), (11, 101, 145), (10, 270, 144), (10, 267, 143), (11, 105, 146), (11, 109, 147), (11, 113, 148), (11, 117, 149), (11, 121, 150), (11, 125, 151), (11, 129, 152), (2, 46, 1002), (7, 45, 1002), (4, 29, 1001), (2, 56, 1000), (2, 62, 1001), (7, 61, 1001), (9, 235, 1000), (8, 31, 1002), (8, 72, 1000), (8, 102, 1001), (9, 240, 1001), (6, 49, 1000)]
def nlt : List (Nat × Nat × Nat) := [(8, 82, 90)]
def mtt : List (MethodName × ByteArray × Nat × Option FieldType × Nat × Nat × Bool) := [(yX0_clear, cX0_clear, 2, none, 0, 0, false),
  (yX0_hasPlace, cX0_hasPlace, 2, (some .boolean), 1, 0, false),
  (yX0_store, cX0_store, 4, none, 3, 0, false),
  (yX0_load, cX0_load, 4, (some .boolean), 3, 0, false),
  (yX1_clear, cX1_clear, 1, none, 0, 1, false),
  (yX1_append, cX1_append, 3, (some .boolean), 2, 1, false),
  (yX1_firstWrong, cX1_firstWrong, 4, (some .int), 1, 1, false),
  (yX2_clear, cX2_clear, 1, none, 0, 2, false),
  (yX2_copyFrom, cX2_copyFrom, 2, none, 1, 2, false),
  (yX2_stands, cX2_stands, 1, (some .boolean), 0, 2, false),
  (yX2_hasWatcher, cX2_hasWatcher, 2, (some .boolean), 1, 2, false),
  (yX2_hasSleeper, cX2_hasSleeper, 2, (some .boolean), 1, 2, false),
  (yX2_everybody, cX2_everybody, 1, (some .int), 0, 2, false),
  (yX2_hasAll, cX2_hasAll, 2, (some .boolean), 1, 2, false),
  (yX2_addWatcher, cX2_addWatcher, 5, none, 4, 2, false),
  (yX2_addSleeper, cX2_addSleeper, 2, none, 1, 2, false),
  (yX2_spendHour, cX2_spendHour, 7, (some .int), 3, 2, false),
  (yX2_sitsUp, cX2_sitsUp, 6, (some .boolean), 3, 2, false),
  (yX2_allSittingUp, cX2_allSittingUp, 5, (some .int), 2, 2, false),
  (yX3_draw, cX3_draw, 2, (some .int), 1, 3, false),
  (yX4_clear, cX4_clear, 1, none, 0, 4, false),
  (yX4_remember, cX4_remember, 2, none, 1, 4, false),
  (yX4_recall, cX4_recall, 3, (some .boolean), 1, 4, false),
  (yX5_append, cX5_append, 2, (some .boolean), 1, 5, false),
  (yX5_readText, cX5_readText, 2, (some .int), 0, 5, false),
  (yX5_readClause, cX5_readClause, 3, none, 0, 5, false),
  (yX5_faultOfWord, cX5_faultOfWord, 4, (some .int), 1, 5, false),
  (yX5_readNight, cX5_readNight, 1, none, 0, 5, false),
  (yX5_readWatcher, cX5_readWatcher, 5, none, 0, 5, false),
  (yX5_readSleeper, cX5_readSleeper, 2, none, 0, 5, false),
  (yX5_readNumber, cX5_readNumber, 6, (some .int), 2, 5, false),
  (yX5_readEnd, cX5_readEnd, 1, none, 0, 5, false),
  (yX5_skipBlanks, cX5_skipBlanks, 1, none, 0, 5, false),
  (yX5_letterHere, cX5_letterHere, 1, (some .int), 0, 5, false),
  (yX5_blame, cX5_blame, 3, none, 2, 5, false),
  (yX5_isFigure, cX5_isFigure, 1, (some .boolean), 1, 5, true),
  (yX6_clear, cX6_clear, 1, none, 0, 6, false),
  (yX6_append, cX6_append, 3, (some .boolean), 2, 6, false),
  (yX6_fits, cX6_fits, 5, (some .boolean), 3, 6, false),
  (yX6_countFitting, cX6_countFitting, 5, (some .int), 2, 6, false),
  (yX6_inAllFitting, cX6_inAllFitting, 5, (some .int), 2, 6, false),
  (yX6_fittingAt, cX6_fittingAt, 7, (some .int), 3, 6, false),
  (yX6_bestToAsk, cX6_bestToAsk, 7, (some .int), 2, 6, false),
  (yX6_greaterPart, cX6_greaterPart, 7, (some .int), 3, 6, false),
  (yX7_begin, cX7_begin, 3, none, 1, 7, false),
  (yX7_copyFrom, cX7_copyFrom, 2, none, 1, 7, false),
  (yX7_passWatched, cX7_passWatched, 6, none, 3, 7, false),
  (yX7_passResting, cX7_passResting, 2, none, 1, 7, false),
  (yX7_endHour, cX7_endHour, 2, none, 1, 7, false),
  (yX7_partOf, cX7_partOf, 6, (some .int), 2, 7, false),
  (yX8_layRow, cX8_layRow, 2, none, 1, 8, false),
  (yX8_findWatches, cX8_findWatches, 3, (some .boolean), 2, 8, false),
  (yX8_chooseFrom, cX8_chooseFrom, 6, none, 2, 8, false),
  (yX8_leastPossibleEnd, cX8_leastPossibleEnd, 6, (some .int), 3, 8, false),
  (yX8_takeChosen, cX8_takeChosen, 2, none, 1, 8, false),
  (yX8_nodsWithBell, cX8_nodsWithBell, 4, (some .int), 3, 8, false),
  (yX8_nodsWithCoffee, cX8_nodsWithCoffee, 4, (some .int), 3, 8, false),
  (yX8_nodsOfAll, cX8_nodsOfAll, 5, (some .int), 2, 8, false),
  (yX8_nightsOf, cX8_nightsOf, 6, (some .int), 3, 8, false),
  (yX8_fewestHolding, cX8_fewestHolding, 5, (some .int), 2, 8, false),
  (yX8_holds, cX8_holds, 4, (some .boolean), 2, 8, false),
  (yX9_feed, cX9_feed, 2, (some .int), 1, 9, false),
  (yX9_contract, cX9_contract, 2, (some .int), 0, 9, false),
  (yX9_fault, cX9_fault, 1, (some .int), 0, 9, false),
  (yX9_told, cX9_told, 2, (some .int), 1, 9, false),
  (yX9_watcher, cX9_watcher, 3, (some .int), 2, 9, false),
  (yX9_sleeper, cX9_sleeper, 2, (some .int), 1, 9, false),
  (yX9_hour, cX9_hour, 3, (some .int), 2, 9, false),
  (yX9_coffee, cX9_coffee, 2, (some .int), 1, 9, false),
  (yX9_rest, cX9_rest, 4, (some .int), 1, 9, false),
  (yX9_drift, cX9_drift, 6, (some .int), 1, 9, false),
  (yX9_undo, cX9_undo, 1, (some .int), 0, 9, false),
  (yX9_watches, cX9_watches, 2, (some .int), 1, 9, false),
  (yX9_bellHour, cX9_bellHour, 6, (some .int), 1, 9, false),
  (yX9_coffeeFor, cX9_coffeeFor, 5, (some .int), 0, 9, false),
  (yX9_nights, cX9_nights, 2, (some .int), 1, 9, false),
  (yX9_hold, cX9_hold, 1, (some .int), 0, 9, false),
  (yX9_share, cX9_share, 2, (some .int), 1, 9, false),
  (yX9_paid, cX9_paid, 2, (some .int), 1, 9, false),
  (yX9_blink, cX9_blink, 8, (some .int), 3, 9, false),
  (yX9_see, cX9_see, 3, (some .int), 2, 9, false),
  (yX9_nodded, cX9_nodded, 3, (some .int), 2, 9, false),
  (yX9_askNext, cX9_askNext, 2, (some .int), 1, 9, false),
  (yX9_write, cX9_write, 3, (some .int), 2, 9, false),
  (yX9_tear, cX9_tear, 2, (some .int), 0, 9, false),
  (yX9_judge, cX9_judge, 1, (some .int), 0, 9, false),
  (yX9_seed, cX9_seed, 3, (some .int), 1, 9, false),
  (yX9_keep, cX9_keep, 2, (some .int), 1, 9, false),
  (yX9_goBack, cX9_goBack, 2, (some .int), 1, 9, false),
  (yX9_refusalOfHours, cX9_refusalOfHours, 2, (some .int), 1, 9, false),
  (yX9_afterCoffee, cX9_afterCoffee, 1, (some .int), 1, 9, true),
  (yX10_in, cX10_in, 6, (some .boolean), 3, 10, true),
  (yX10_has, cX10_has, 2, (some .boolean), 2, 10, true),
  (yX10_bits, cX10_bits, 3, (some .int), 1, 10, true),
  (yX10_atMost, cX10_atMost, 2, (some .int), 2, 10, true),
  (yX10_atLeast, cX10_atLeast, 2, (some .int), 2, 10, true),
  (yX10_isWatcher, cX10_isWatcher, 2, (some .boolean), 1, 10, false),
  (yX10_isSleeper, cX10_isSleeper, 2, (some .boolean), 1, 10, false),
  (yX10_isSet, cX10_isSet, 2, (some .boolean), 1, 10, false),
  (yX10_feed, cX10_feed, 2, (some .int), 1, 10, false),
  (yX10_here, cX10_here, 1, (some .int), 0, 10, false),
  (yX10_fails, cX10_fails, 3, (some .int), 2, 10, false),
  (yX10_takeNumber, cX10_takeNumber, 4, (some .int), 2, 10, false),
  (yX10_into, cX10_into, 6, (some .int), 4, 10, false),
  (yX10_takeContract, cX10_takeContract, 2, (some .int), 0, 10, false),
  (yX10_takeWatcher, cX10_takeWatcher, 3, (some .int), 0, 10, false),
  (yX10_takeSleeper, cX10_takeSleeper, 2, (some .int), 0, 10, false),
  (yX10_takeClause, cX10_takeClause, 5, (some .int), 0, 10, false),
  (yX10_takeRead, cX10_takeRead, 2, none, 0, 10, false),
  (yX10_contract, cX10_contract, 2, (some .int), 0, 10, false),
  (yX10_fault, cX10_fault, 1, (some .int), 0, 10, false),
  (yX10_told, cX10_told, 2, (some .int), 1, 10, false),
  (yX10_watcher, cX10_watcher, 3, (some .int), 2, 10, false),
  (yX10_sleeper, cX10_sleeper, 2, (some .int), 1, 10, false),
  (yX10_tire, cX10_tire, 6, (some .int), 2, 10, false),
  (yX10_sitsUp, cX10_sitsUp, 4, (some .boolean), 3, 10, true),
  (yX10_passHour, cX10_passHour, 1, none, 0, 10, false),
  (yX10_hourBy, cX10_hourBy, 7, none, 2, 10, false),
  (yX10_remember, cX10_remember, 2, none, 0, 10, false),
  (yX10_hour, cX10_hour, 3, (some .int), 2, 10, false),
  (yX10_coffee, cX10_coffee, 2, (some .int), 1, 10, false),
  (yX10_hoursRefused, cX10_hoursRefused, 2, (some .int), 1, 10, false),
  (yX10_rest, cX10_rest, 4, (some .int), 1, 10, false),
  (yX10_draw, cX10_draw, 2, (some .int), 1, 10, false),
  (yX10_drift, cX10_drift, 5, (some .int), 1, 10, false),
  (yX10_undo, cX10_undo, 2, (some .int), 0, 10, false),
  (yX10_save, cX10_save, 2, none, 0, 10, false),
  (yX10_putBack, cX10_putBack, 2, none, 0, 10, false),
  (yX10_behindRow, cX10_behindRow, 4, (some .int), 0, 10, false),
  (yX10_nextRow, cX10_nextRow, 2, (some .boolean), 0, 10, false),
  (yX10_findWatches, cX10_findWatches, 4, none, 0, 10, false),
  (yX10_watches, cX10_watches, 2, (some .int), 1, 10, false),
  (yX10_nodsOfAll, cX10_nodsOfAll, 4, (some .int), 1, 10, false),
  (yX10_bellHour, cX10_bellHour, 6, (some .int), 1, 10, false),
  (yX10_coffeeFor, cX10_coffeeFor, 5, (some .int), 0, 10, false),
  (yX10_nights, cX10_nights, 4, (some .int), 1, 10, false),
  (yX10_holds, cX10_holds, 4, (some .boolean), 1, 10, false),
  (yX10_hold, cX10_hold, 4, (some .int), 0, 10, false),
  (yX10_allHours, cX10_allHours, 3, (some .int), 0, 10, false),
  (yX10_share, cX10_share, 3, (some .int), 1, 10, false),
  (yX10_paid, cX10_paid, 5, (some .int), 1, 10, false),
  (yX10_blink, cX10_blink, 8, (some .int), 3, 10, false),
  (yX10_see, cX10_see, 3, (some .int), 2, 10, false),
  (yX10_couldNod, cX10_couldNod, 5, (some .boolean), 2, 10, false),
  (yX10_sureOf, cX10_sureOf, 5, (some .int), 1, 10, false),
  (yX10_nodded, cX10_nodded, 6, (some .int), 2, 10, false),
  (yX10_askNext, cX10_askNext, 8, (some .int), 1, 10, false),
  (yX10_write, cX10_write, 3, (some .int), 2, 10, false),
  (yX10_tear, cX10_tear, 2, (some .int), 0, 10, false),
  (yX10_judge, cX10_judge, 2, (some .int), 0, 10, false),
  (yX10_seed, cX10_seed, 3, (some .int), 1, 10, false),
  (yX10_keep, cX10_keep, 3, (some .int), 1, 10, false),
  (yX10_goBack, cX10_goBack, 3, (some .int), 1, 10, false),
  (yJ6_bitCount_0f7a4, cJ6_bitCount_0f7a4, 1, (some .int), 1, 12, true)]
def gw : List Cond := lw_tbl.filter goodWord
theorem gw_in {w : Cond} {i : Nat} (h : lw_tbl[i]? = some w) (hg : goodWord w = true) : w ∈ gw := List.mem_filter.mpr ⟨List.mem_of_getElem? h, hg⟩
def okF (q : Nat × Nat × Nat × Nat) : Prop := ∃ (C : String) (T : u_T) (N : Nat), classes[q.2.2.1]? = some (C, T, N) ∧ q.2.2.2 < N ∧ Cond.fieldLink (cn q.1) q.2.1 (T q.2.2.2).1 (T q.2.2.2).2.1 (T q.2.2.2).2.2.1 ∈ gw
theorem okF0 : okF (2, 27, 2, 0) := ⟨_, _, _, rfl, Nat.le_of_ble_eq_true rfl, gw_in (i := 83) (by decide +kernel) rfl⟩
theorem okF1 : okF (8, 58, 2, 0) := ⟨_, _, _, rfl, Nat.le_of_ble_eq_true rfl, gw_in (i := 84) (by decide +kernel) rfl⟩
theorem okF2 : okF (9, 108, 2, 0) := ⟨_, _, _, rfl, Nat.le_of_ble_eq_true rfl, gw_in (i := 85) (by decide +kernel) rfl⟩
theorem okF3 : okF (5, 79, 2, 0) := ⟨_, _, _, rfl, Nat.le_of_ble_eq_true rfl, gw_in (i := 86) (by decide +kernel) rfl⟩
theorem okF4 : okF (7, 79, 2, 0) := ⟨_, _, _, rfl, Nat.le_of_ble_eq_true rfl, gw_in (i := 87) (by decide +kernel) rfl⟩
theorem okF5 : okF (2, 31, 2, 1) := ⟨_, _, _, rfl, Nat.le_of_ble_eq_true rfl, gw_in (i := 88) (by decide +kernel) rfl⟩
theorem okF6 : okF (7, 60, 2, 1) := ⟨_, _, _, rfl, Nat.le_of_ble_eq_true rfl, gw_in (i := 89) (by decide +kernel) rfl⟩
theorem okF7 : okF (9, 111, 2, 1) := ⟨_, _, _, rfl, Nat.le_of_ble_eq_true rfl, gw_in (i := 90) (by decide +kernel) rfl⟩
theorem okF8 : okF (5, 82, 2, 1) := ⟨_, _, _, rfl, Nat.le_of_ble_eq_true rfl, gw_in (i := 91) (by decide +kernel) rfl⟩
theorem okF9 : okF (2, 34, 2, 2) := ⟨_, _, _, rfl, Nat.le_of_ble_eq_true rfl, gw_in (i := 92) (by decide +kernel) rfl⟩
theorem okF10 : okF (7, 66, 2, 2) := ⟨_, _, _, rfl, Nat.le_of_ble_eq_true rfl, gw_in (i := 93) (by decide +kernel) rfl⟩
theorem okF11 : okF (9, 114, 2, 2) := ⟨_, _, _, rfl, Nat.le_of_ble_eq_true rfl, gw_in (i := 94) (by decide +kernel) rfl⟩
theorem okF12 : okF (5, 85, 2, 2) := ⟨_, _, _, rfl, Nat.le_of_ble_eq_true rfl, gw_in (i := 95) (by decide +kernel) rfl⟩
theorem okF13 : okF (2, 37, 2, 3) := ⟨_, _, _, rfl, Nat.le_of_ble_eq_true rfl, gw_in (i := 96) (by decide +kernel) rfl⟩
theorem okF14 : okF (9, 117, 2, 3) := ⟨_, _, _, rfl, Nat.le_of_ble_eq_true rfl, gw_in (i := 97) (by decide +kernel) rfl⟩
theorem okF15 : okF (5, 88, 2, 3) := ⟨_, _, _, rfl, Nat.le_of_ble_eq_true rfl, gw_in (i := 98) (by decide +kernel) rfl⟩
theorem okF16 : okF (2, 40, 2, 4) := ⟨_, _, _, rfl, Nat.le_of_ble_eq_true rfl, gw_in (i := 99) (by decide +kernel) rfl⟩
theorem okF17 : okF (9, 102, 2, 4) := ⟨_, _, _, rfl, Nat.le_of_ble_eq_true rfl, gw_in (i := 100) (by decide +kernel) rfl⟩
theorem okF18 : okF (8, 49, 2, 4) := ⟨_, _, _, rfl, Nat.le_of_ble_eq_true rfl, gw_in (i := 101) (by decide +kernel) rfl⟩
theorem okF19 : okF (5, 69, 2, 4) := ⟨_, _, _, rfl, Nat.le_of_ble_eq_true rfl, gw_in (i := 102) (by decide +kernel) rfl⟩
theorem okF20 : okF (2, 43, 2, 5) := ⟨_, _, _, rfl, Nat.le_of_ble_eq_true rfl, gw_in (i := 103) (by decide +kernel) rfl⟩
theorem okF21 : okF (5, 72, 2, 5) := ⟨_, _, _, rfl, Nat.le_of_ble_eq_true rfl, gw_in (i := 104) (by decide +kernel) rfl⟩
theorem okF22 : okF (9, 120, 2, 5) := ⟨_, _, _, rfl, Nat.le_of_ble_eq_true rfl, gw_in (i := 105) (by decide +kernel) rfl⟩
theorem okF23 : okF (6, 43, 2, 5) := ⟨_, _, _, rfl, Nat.le_of_ble_eq_true rfl, gw_in (i := 106) (by decide +kernel) rfl⟩
theorem okF24 : okF (2, 9, 2, 6) := ⟨_, _, _, rfl, Nat.le_of_ble_eq_true rfl, gw_in (i := 107) (by decide +kernel) rfl⟩
theorem okF25 : okF (7, 40, 2, 6) := ⟨_, _, _, rfl, Nat.le_of_ble_eq_true rfl, gw_in (i := 108) (by decide +kernel) rfl⟩
theorem okF26 : okF (2, 15, 2, 7) := ⟨_, _, _, rfl, Nat.le_of_ble_eq_true rfl, gw_in (i := 109) (by decide +kernel) rfl⟩
theorem okF27 : okF (9, 155, 2, 7) := ⟨_, _, _, rfl, Nat.le_of_ble_eq_true rfl, gw_in (i := 110) (by decide +kernel) rfl⟩
theorem okF28 : okF (8, 99, 2, 7) := ⟨_, _, _, rfl, Nat.le_of_ble_eq_true rfl, gw_in (i := 111) (by decide +kernel) rfl⟩
theorem okF29 : okF (2, 18, 2, 8) := ⟨_, _, _, rfl, Nat.le_of_ble_eq_true rfl, gw_in (i := 112) (by decide +kernel) rfl⟩
theorem okF30 : okF (8, 69, 2, 8) := ⟨_, _, _, rfl, Nat.le_of_ble_eq_true rfl, gw_in (i := 113) (by decide +kernel) rfl⟩
theorem okF31 : okF (9, 158, 2, 8) := ⟨_, _, _, rfl, Nat.le_of_ble_eq_true rfl, gw_in (i := 114) (by decide +kernel) rfl⟩
theorem okF32 : okF (2, 21, 2, 9) := ⟨_, _, _, rfl, Nat.le_of_ble_eq_true rfl, gw_in (i := 115) (by decide +kernel) rfl⟩
theorem okF33 : okF (9, 161, 2, 9) := ⟨_, _, _, rfl, Nat.le_of_ble_eq_true rfl, gw_in (i := 116) (by decide +kernel) rfl⟩
theorem okF34 : okF (8, 105, 2, 9) := ⟨_, _, _, rfl, Nat.le_of_ble_eq_true rfl, gw_in (i := 117) (by decide +kernel) rfl⟩
theorem okF35 : okF (2, 24, 2, 10) := ⟨_, _, _, rfl, Nat.le_of_ble_eq_true rfl, gw_in (i := 118) (by decide +kernel) rfl⟩
theorem okF36 : okF (9, 170, 2, 10) := ⟨_, _, _, rfl, Nat.le_of_ble_eq_true rfl, gw_in (i := 119) (by decide +kernel) rfl⟩
theorem okF37 : okF (5, 12, 5, 0) := ⟨_, _, _, rfl, Nat.le_of_ble_eq_true rfl, gw_in (i := 144) (by decide +kernel) rfl⟩
theorem okF38 : okF (9, 86, 5, 0) := ⟨_, _, _, rfl, Nat.le_of_ble_eq_true rfl, gw_in (i := 145) (by decide +kernel) rfl⟩
theorem okF39 : okF (5, 26, 5, 1) := ⟨_, _, _, rfl, Nat.le_of_ble_eq_true rfl, gw_in (i := 146) (by decide +kernel) rfl⟩
theorem okF40 : okF (9, 78, 5, 1) := ⟨_, _, _, rfl, Nat.le_of_ble_eq_true rfl, gw_in (i := 147) (by decide +kernel) rfl⟩
theorem okF41 : okF (5, 18, 5, 2) := ⟨_, _, _, rfl, Nat.le_of_ble_eq_true rfl, gw_in (i := 148) (by decide +kernel) rfl⟩
theorem okF42 : okF (9, 105, 5, 2) := ⟨_, _, _, rfl, Nat.le_of_ble_eq_true rfl, gw_in (i := 149) (by decide +kernel) rfl⟩
theorem okF43 : okF (5, 22, 5, 3) := ⟨_, _, _, rfl, Nat.le_of_ble_eq_true rfl, gw_in (i := 150) (by decide +kernel) rfl⟩
theorem okF44 : okF (5, 32, 5, 4) := ⟨_, _, _, rfl, Nat.le_of_ble_eq_true rfl, gw_in (i := 151) (by decide +kernel) rfl⟩
theorem okF45 : okF (5, 35, 5, 5) := ⟨_, _, _, rfl, Nat.le_of_ble_eq_true rfl, gw_in (i := 152) (by decide +kernel) rfl⟩
theorem okF46 : okF (7, 18, 7, 0) := ⟨_, _, _, rfl, Nat.le_of_ble_eq_true rfl, gw_in (i := 174) (by decide +kernel) rfl⟩
theorem okF47 : okF (9, 123, 7, 0) := ⟨_, _, _, rfl, Nat.le_of_ble_eq_true rfl, gw_in (i := 175) (by decide +kernel) rfl⟩
theorem okF48 : okF (7, 22, 7, 1) := ⟨_, _, _, rfl, Nat.le_of_ble_eq_true rfl, gw_in (i := 176) (by decide +kernel) rfl⟩
theorem okF49 : okF (9, 126, 7, 1) := ⟨_, _, _, rfl, Nat.le_of_ble_eq_true rfl, gw_in (i := 177) (by decide +kernel) rfl⟩
theorem okF50 : okF (7, 25, 7, 2) := ⟨_, _, _, rfl, Nat.le_of_ble_eq_true rfl, gw_in (i := 178) (by decide +kernel) rfl⟩
theorem okF51 : okF (9, 127, 7, 2) := ⟨_, _, _, rfl, Nat.le_of_ble_eq_true rfl, gw_in (i := 179) (by decide +kernel) rfl⟩
theorem okF52 : okF (7, 28, 7, 3) := ⟨_, _, _, rfl, Nat.le_of_ble_eq_true rfl, gw_in (i := 180) (by decide +kernel) rfl⟩
theorem okF53 : okF (9, 130, 7, 3) := ⟨_, _, _, rfl, Nat.le_of_ble_eq_true rfl, gw_in (i := 181) (by decide +kernel) rfl⟩
theorem okF54 : okF (7, 31, 7, 4) := ⟨_, _, _, rfl, Nat.le_of_ble_eq_true rfl, gw_in (i := 182) (by decide +kernel) rfl⟩
theorem okF55 : okF (9, 133, 7, 4) := ⟨_, _, _, rfl, Nat.le_of_ble_eq_true rfl, gw_in (i := 183) (by decide +kernel) rfl⟩
theorem okF56 : okF (7, 34, 7, 5) := ⟨_, _, _, rfl, Nat.le_of_ble_eq_true rfl, gw_in (i := 184) (by decide +kernel) rfl⟩
theorem okF57 : okF (9, 136, 7, 5) := ⟨_, _, _, rfl, Nat.le_of_ble_eq_true rfl, gw_in (i := 185) (by decide +kernel) rfl⟩
theorem okF58 : okF (7, 37, 7, 6) := ⟨_, _, _, rfl, Nat.le_of_ble_eq_true rfl, gw_in (i := 186) (by decide +kernel) rfl⟩
theorem okF59 : okF (9, 139, 7, 6) := ⟨_, _, _, rfl, Nat.le_of_ble_eq_true rfl, gw_in (i := 187) (by decide +kernel) rfl⟩
theorem okF60 : okF (7, 9, 7, 7) := ⟨_, _, _, rfl, Nat.le_of_ble_eq_true rfl, gw_in (i := 188) (by decide +kernel) rfl⟩
theorem okF61 : okF (8, 26, 7, 7) := ⟨_, _, _, rfl, Nat.le_of_ble_eq_true rfl, gw_in (i := 189) (by decide +kernel) rfl⟩
theorem okF62 : okF (1, 22, 7, 7) := ⟨_, _, _, rfl, Nat.le_of_ble_eq_true rfl, gw_in (i := 190) (by decide +kernel) rfl⟩
theorem okF63 : okF (9, 151, 7, 7) := ⟨_, _, _, rfl, Nat.le_of_ble_eq_true rfl, gw_in (i := 191) (by decide +kernel) rfl⟩
theorem okF64 : okF (7, 15, 7, 8) := ⟨_, _, _, rfl, Nat.le_of_ble_eq_true rfl, gw_in (i := 192) (by decide +kernel) rfl⟩
theorem okF65 : okF (9, 164, 7, 8) := ⟨_, _, _, rfl, Nat.le_of_ble_eq_true rfl, gw_in (i := 193) (by decide +kernel) rfl⟩
theorem okF66 : okF (4, 18, 4, 0) := ⟨_, _, _, rfl, Nat.le_of_ble_eq_true rfl, gw_in (i := 222) (by decide +kernel) rfl⟩
theorem okF67 : okF (9, 146, 4, 0) := ⟨_, _, _, rfl, Nat.le_of_ble_eq_true rfl, gw_in (i := 223) (by decide +kernel) rfl⟩
theorem okF68 : okF (4, 22, 4, 1) := ⟨_, _, _, rfl, Nat.le_of_ble_eq_true rfl, gw_in (i := 224) (by decide +kernel) rfl⟩
theorem okF69 : okF (4, 11, 4, 2) := ⟨_, _, _, rfl, Nat.le_of_ble_eq_true rfl, gw_in (i := 225) (by decide +kernel) rfl⟩
theorem okF70 : okF (0, 11, 0, 0) := ⟨_, _, _, rfl, Nat.le_of_ble_eq_true rfl, gw_in (i := 241) (by decide +kernel) rfl⟩
theorem okF71 : okF (0, 17, 0, 1) := ⟨_, _, _, rfl, Nat.le_of_ble_eq_true rfl, gw_in (i := 242) (by decide +kernel) rfl⟩
theorem okF72 : okF (0, 21, 0, 2) := ⟨_, _, _, rfl, Nat.le_of_ble_eq_true rfl, gw_in (i := 243) (by decide +kernel) rfl⟩
theorem okF73 : okF (3, 7, 3, 0) := ⟨_, _, _, rfl, Nat.le_of_ble_eq_true rfl, gw_in (i := 258) (by decide +kernel) rfl⟩
theorem okF74 : okF (0, 34, 3, 0) := ⟨_, _, _, rfl, Nat.le_of_ble_eq_true rfl, gw_in (i := 259) (by decide +kernel) rfl⟩
theorem okF75 : okF (9, 271, 3, 0) := ⟨_, _, _, rfl, Nat.le_of_ble_eq_true rfl, gw_in (i := 260) (by decide +kernel) rfl⟩
theorem okF76 : okF (8, 9, 8, 0) := ⟨_, _, _, rfl, Nat.le_of_ble_eq_true rfl, gw_in (i := 272) (by decide +kernel) rfl⟩
theorem okF77 : okF (9, 214, 8, 0) := ⟨_, _, _, rfl, Nat.le_of_ble_eq_true rfl, gw_in (i := 273) (by decide +kernel) rfl⟩
theorem okF78 : okF (8, 41, 8, 1) := ⟨_, _, _, rfl, Nat.le_of_ble_eq_true rfl, gw_in (i := 274) (by decide +kernel) rfl⟩
theorem okF79 : okF (9, 211, 8, 1) := ⟨_, _, _, rfl, Nat.le_of_ble_eq_true rfl, gw_in (i := 275) (by decide +kernel) rfl⟩
theorem okF80 : okF (8, 17, 8, 2) := ⟨_, _, _, rfl, Nat.le_of_ble_eq_true rfl, gw_in (i := 276) (by decide +kernel) rfl⟩
theorem okF81 : okF (8, 20, 8, 3) := ⟨_, _, _, rfl, Nat.le_of_ble_eq_true rfl, gw_in (i := 277) (by decide +kernel) rfl⟩
theorem okF82 : okF (8, 23, 8, 4) := ⟨_, _, _, rfl, Nat.le_of_ble_eq_true rfl, gw_in (i := 278) (by decide +kernel) rfl⟩
theorem okF83 : okF (6, 19, 6, 0) := ⟨_, _, _, rfl, Nat.le_of_ble_eq_true rfl, gw_in (i := 296) (by decide +kernel) rfl⟩
theorem okF84 : okF (9, 142, 6, 0) := ⟨_, _, _, rfl, Nat.le_of_ble_eq_true rfl, gw_in (i := 297) (by decide +kernel) rfl⟩
theorem okF85 : okF (6, 9, 6, 1) := ⟨_, _, _, rfl, Nat.le_of_ble_eq_true rfl, gw_in (i := 298) (by decide +kernel) rfl⟩
theorem okF86 : okF (6, 15, 6, 2) := ⟨_, _, _, rfl, Nat.le_of_ble_eq_true rfl, gw_in (i := 299) (by decide +kernel) rfl⟩
theorem okF87 : okF (1, 18, 1, 0) := ⟨_, _, _, rfl, Nat.le_of_ble_eq_true rfl, gw_in (i := 313) (by decide +kernel) rfl⟩
theorem okF88 : okF (9, 145, 1, 0) := ⟨_, _, _, rfl, Nat.le_of_ble_eq_true rfl, gw_in (i := 314) (by decide +kernel) rfl⟩
theorem okF89 : okF (1, 9, 1, 1) := ⟨_, _, _, rfl, Nat.le_of_ble_eq_true rfl, gw_in (i := 315) (by decide +kernel) rfl⟩
theorem okF90 : okF (1, 15, 1, 2) := ⟨_, _, _, rfl, Nat.le_of_ble_eq_true rfl, gw_in (i := 316) (by decide +kernel) rfl⟩
theorem okF91 : okF (9, 10, 9, 0) := ⟨_, _, _, rfl, Nat.le_of_ble_eq_true rfl, gw_in (i := 324) (by decide +kernel) rfl⟩
theorem okF92 : okF (9, 19, 9, 1) := ⟨_, _, _, rfl, Nat.le_of_ble_eq_true rfl, gw_in (i := 325) (by decide +kernel) rfl⟩
theorem okF93 : okF (9, 26, 9, 2) := ⟨_, _, _, rfl, Nat.le_of_ble_eq_true rfl, gw_in (i := 326) (by decide +kernel) rfl⟩
theorem okF94 : okF (9, 33, 9, 3) := ⟨_, _, _, rfl, Nat.le_of_ble_eq_true rfl, gw_in (i := 327) (by decide +kernel) rfl⟩
theorem okF95 : okF (9, 40, 9, 4) := ⟨_, _, _, rfl, Nat.le_of_ble_eq_true rfl, gw_in (i := 328) (by decide +kernel) rfl⟩
theorem okF96 : okF (9, 47, 9, 5) := ⟨_, _, _, rfl, Nat.le_of_ble_eq_true rfl, gw_in (i := 329) (by decide +kernel) rfl⟩
theorem okF97 : okF (9, 54, 9, 6) := ⟨_, _, _, rfl, Nat.le_of_ble_eq_true rfl, gw_in (i := 330) (by decide +kernel) rfl⟩
theorem okF98 : okF (9, 61, 9, 7) := ⟨_, _, _, rfl, Nat.le_of_ble_eq_true rfl, gw_in (i := 331) (by decide +kernel) rfl⟩
theorem okF99 : okF (9, 68, 9, 8) := ⟨_, _, _, rfl, Nat.le_of_ble_eq_true rfl, gw_in (i := 332) (by decide +kernel) rfl⟩
theorem okF100 : okF (10, 81, 10, 0) := ⟨_, _, _, rfl, Nat.le_of_ble_eq_true rfl, gw_in (i := 769) (by decide +kernel) rfl⟩
theorem okF101 : okF (10, 144, 10, 1) := ⟨_, _, _, rfl, Nat.le_of_ble_eq_true rfl, gw_in (i := 770) (by decide +kernel) rfl⟩
theorem okF102 : okF (10, 147, 10, 2) := ⟨_, _, _, rfl, Nat.le_of_ble_eq_true rfl, gw_in (i := 771) (by decide +kernel) rfl⟩
theorem okF103 : okF (10, 150, 10, 3) := ⟨_, _, _, rfl, Nat.le_of_ble_eq_true rfl, gw_in (i := 772) (by decide +kernel) rfl⟩
theorem okF104 : okF (10, 84, 10, 4) := ⟨_, _, _, rfl, Nat.le_of_ble_eq_true rfl, gw_in (i := 773) (by decide +kernel) rfl⟩
theorem okF105 : okF (10, 7, 10, 5) := ⟨_, _, _, rfl, Nat.le_of_ble_eq_true rfl, gw_in (i := 774) (by decide +kernel) rfl⟩
theorem okF106 : okF (10, 13, 10, 6) := ⟨_, _, _, rfl, Nat.le_of_ble_eq_true rfl, gw_in (i := 775) (by decide +kernel) rfl⟩
theorem okF107 : okF (10, 16, 10, 7) := ⟨_, _, _, rfl, Nat.le_of_ble_eq_true rfl, gw_in (i := 776) (by decide +kernel) rfl⟩
theorem okF108 : okF (10, 91, 10, 8) := ⟨_, _, _, rfl, Nat.le_of_ble_eq_true rfl, gw_in (i := 777) (by decide +kernel) rfl⟩
theorem okF109 : okF (10, 19, 10, 9) := ⟨_, _, _, rfl, Nat.le_of_ble_eq_true rfl, gw_in (i := 778) (by decide +kernel) rfl⟩
theorem okF110 : okF (10, 22, 10, 10) := ⟨_, _, _, rfl, Nat.le_of_ble_eq_true rfl, gw_in (i := 779) (by decide +kernel) rfl⟩
theorem okF111 : okF (10, 219, 10, 11) := ⟨_, _, _, rfl, Nat.le_of_ble_eq_true rfl, gw_in (i := 780) (by decide +kernel) rfl⟩
theorem okF112 : okF (10, 25, 10, 12) := ⟨_, _, _, rfl, Nat.le_of_ble_eq_true rfl, gw_in (i := 781) (by decide +kernel) rfl⟩
theorem okF113 : okF (10, 97, 10, 13) := ⟨_, _, _, rfl, Nat.le_of_ble_eq_true rfl, gw_in (i := 782) (by decide +kernel) rfl⟩
theorem okF114 : okF (10, 28, 10, 14) := ⟨_, _, _, rfl, Nat.le_of_ble_eq_true rfl, gw_in (i := 783) (by decide +kernel) rfl⟩
theorem okF115 : okF (10, 101, 10, 15) := ⟨_, _, _, rfl, Nat.le_of_ble_eq_true rfl, gw_in (i := 784) (by decide +kernel) rfl⟩
theorem okF116 : okF (10, 119, 10, 16) := ⟨_, _, _, rfl, Nat.le_of_ble_eq_true rfl, gw_in (i := 785) (by decide +kernel) rfl⟩
theorem okF117 : okF (10, 116, 10, 17) := ⟨_, _, _, rfl, Nat.le_of_ble_eq_true rfl, gw_in (i := 786) (by decide +kernel) rfl⟩
theorem okF118 : okF (10, 32, 10, 18) := ⟨_, _, _, rfl, Nat.le_of_ble_eq_true rfl, gw_in (i := 787) (by decide +kernel) rfl⟩
theorem okF119 : okF (10, 129, 10, 19) := ⟨_, _, _, rfl, Nat.le_of_ble_eq_true rfl, gw_in (i := 788) (by decide +kernel) rfl⟩
theorem okF120 : okF (10, 35, 10, 20) := ⟨_, _, _, rfl, Nat.le_of_ble_eq_true rfl, gw_in (i := 789) (by decide +kernel) rfl⟩
theorem okF121 : okF (10, 38, 10, 21) := ⟨_, _, _, rfl, Nat.le_of_ble_eq_true rfl, gw_in (i := 790) (by decide +kernel) rfl⟩
theorem okF122 : okF (10, 41, 10, 22) := ⟨_, _, _, rfl, Nat.le_of_ble_eq_true rfl, gw_in (i := 791) (by decide +kernel) rfl⟩
theorem okF123 : okF (10, 44, 10, 23) := ⟨_, _, _, rfl, Nat.le_of_ble_eq_true rfl, gw_in (i := 792) (by decide +kernel) rfl⟩
theorem okF124 : okF (10, 132, 10, 24) := ⟨_, _, _, rfl, Nat.le_of_ble_eq_true rfl, gw_in (i := 793) (by decide +kernel) rfl⟩
theorem okF125 : okF (10, 47, 10, 25) := ⟨_, _, _, rfl, Nat.le_of_ble_eq_true rfl, gw_in (i := 794) (by decide +kernel) rfl⟩
theorem okF126 : okF (10, 165, 10, 26) := ⟨_, _, _, rfl, Nat.le_of_ble_eq_true rfl, gw_in (i := 795) (by decide +kernel) rfl⟩
theorem okF127 : okF (10, 50, 10, 27) := ⟨_, _, _, rfl, Nat.le_of_ble_eq_true rfl, gw_in (i := 796) (by decide +kernel) rfl⟩
theorem okF128 : okF (10, 53, 10, 28) := ⟨_, _, _, rfl, Nat.le_of_ble_eq_true rfl, gw_in (i := 797) (by decide +kernel) rfl⟩
theorem okF129 : okF (10, 56, 10, 29) := ⟨_, _, _, rfl, Nat.le_of_ble_eq_true rfl, gw_in (i := 798) (by decide +kernel) rfl⟩
theorem okF130 : okF (10, 59, 10, 30) := ⟨_, _, _, rfl, Nat.le_of_ble_eq_true rfl, gw_in (i := 799) (by decide +kernel) rfl⟩
theorem okF131 : okF (10, 238, 10, 31) := ⟨_, _, _, rfl, Nat.le_of_ble_eq_true rfl, gw_in (i := 800) (by decide +kernel) rfl⟩
theorem okF132 : okF (10, 159, 10, 32) := ⟨_, _, _, rfl, Nat.le_of_ble_eq_true rfl, gw_in (i := 801) (by decide +kernel) rfl⟩
theorem okF133 : okF (10, 62, 10, 33) := ⟨_, _, _, rfl, Nat.le_of_ble_eq_true rfl, gw_in (i := 802) (by decide +kernel) rfl⟩
theorem okF134 : okF (10, 65, 10, 34) := ⟨_, _, _, rfl, Nat.le_of_ble_eq_true rfl, gw_in (i := 803) (by decide +kernel) rfl⟩
theorem okF135 : okF (10, 162, 10, 35) := ⟨_, _, _, rfl, Nat.le_of_ble_eq_true rfl, gw_in (i := 804) (by decide +kernel) rfl⟩
theorem okF136 : okF (10, 69, 10, 36) := ⟨_, _, _, rfl, Nat.le_of_ble_eq_true rfl, gw_in (i := 805) (by decide +kernel) rfl⟩
theorem okF137 : okF (10, 72, 10, 37) := ⟨_, _, _, rfl, Nat.le_of_ble_eq_true rfl, gw_in (i := 806) (by decide +kernel) rfl⟩
theorem okF138 : okF (10, 75, 10, 38) := ⟨_, _, _, rfl, Nat.le_of_ble_eq_true rfl, gw_in (i := 807) (by decide +kernel) rfl⟩
theorem okF139 : okF (10, 78, 10, 39) := ⟨_, _, _, rfl, Nat.le_of_ble_eq_true rfl, gw_in (i := 808) (by decide +kernel) rfl⟩
theorem flt_ok : ∀ q ∈ flt, okF q := List.forall_mem_cons.mpr ⟨okF0, List.forall_mem_cons.mpr ⟨okF1, List.forall_mem_cons.mpr ⟨okF2, List.forall_mem_cons.mpr ⟨okF3, List.forall_mem_cons.mpr ⟨okF4, List.forall_mem_cons.mpr ⟨okF5, List.forall_mem_cons.mpr ⟨okF6, List.forall_mem_cons.mpr ⟨okF7, List.forall_mem_cons.mpr ⟨okF8, List.forall_mem_cons.mpr ⟨okF9, List.forall_mem_cons.mpr ⟨okF10, List.forall_mem_cons.mpr ⟨okF11, List.forall_mem_cons.mpr ⟨okF12, List.forall_mem_cons.mpr ⟨okF13, List.forall_mem_cons.mpr ⟨okF14, List.forall_mem_cons.mpr ⟨okF15, List.forall_mem_cons.mpr ⟨okF16, List.forall_mem_cons.mpr ⟨okF17, List.forall_mem_cons.mpr ⟨okF18, List.forall_mem_cons.mpr ⟨okF19, List.forall_mem_cons.mpr ⟨okF20, List.forall_mem_cons.mpr ⟨okF21, List.forall_mem_cons.mpr ⟨okF22, List.forall_mem_cons.mpr ⟨okF23, List.forall_mem_cons.mpr ⟨okF24, List.forall_mem_cons.mpr ⟨okF25, List.forall_mem_cons.mpr ⟨okF26, List.forall_mem_cons.mpr ⟨okF27, List.forall_mem_cons.mpr ⟨okF28, List.forall_mem_cons.mpr ⟨okF29, List.forall_mem_cons.mpr ⟨okF30, List.forall_mem_cons.mpr ⟨okF31, List.forall_mem_cons.mpr ⟨okF32, List.forall_mem_cons.mpr ⟨okF33, List.forall_mem_cons.mpr ⟨okF34, List.forall_mem_cons.mpr ⟨okF35, List.forall_mem_cons.mpr ⟨okF36, List.forall_mem_cons.mpr ⟨okF37, List.forall_mem_cons.mpr ⟨okF38, List.forall_mem_cons.mpr ⟨okF39, List.forall_mem_cons.mpr ⟨okF40, List.forall_mem_cons.mpr ⟨okF41, List.forall_mem_cons.mpr ⟨okF42, List.forall_mem_cons.mpr ⟨okF43, List.forall_mem_cons.mpr ⟨okF44, List.forall_mem_cons.mpr ⟨okF45, List.forall_mem_cons.mpr ⟨okF46, List.forall_mem_cons.mpr ⟨okF47, List.forall_mem_cons.mpr ⟨okF48, List.forall_mem_cons.mpr ⟨okF49, List.forall_mem_cons.mpr ⟨okF50, List.forall_mem_cons.mpr ⟨okF51, List.forall_mem_cons.mpr ⟨okF52, List.forall_mem_cons.mpr ⟨okF53, List.forall_mem_cons.mpr ⟨okF54, List.forall_mem_cons.mpr ⟨okF55, List.forall_mem_cons.mpr ⟨okF56, List.forall_mem_cons.mpr ⟨okF57, List.forall_mem_cons.mpr ⟨okF58, List.forall_mem_cons.mpr ⟨okF59, List.forall_mem_cons.mpr ⟨okF60, List.forall_mem_cons.mpr ⟨okF61, List.forall_mem_cons.mpr ⟨okF62, List.forall_mem_cons.mpr ⟨okF63, List.forall_mem_cons.mpr ⟨okF64, List.forall_mem_cons.mpr ⟨okF65, List.forall_mem_cons.mpr ⟨okF66, List.forall_mem_cons.mpr ⟨okF67, List.forall_mem_cons.mpr ⟨okF68, List.forall_mem_cons.mpr ⟨okF69, List.forall_mem_cons.mpr ⟨okF70, List.forall_mem_cons.mpr ⟨okF71, List.forall_mem_cons.mpr ⟨okF72, List.forall_mem_cons.mpr ⟨okF73, List.forall_mem_cons.mpr ⟨okF74, List.forall_mem_cons.mpr ⟨okF75, List.forall_mem_cons.mpr ⟨okF76, List.forall_mem_cons.mpr ⟨okF77, List.forall_mem_cons.mpr ⟨okF78, List.forall_mem_cons.mpr ⟨okF79, List.forall_mem_cons.mpr ⟨okF80, List.forall_mem_cons.mpr ⟨okF81, List.forall_mem_cons.mpr ⟨okF82, List.forall_mem_cons.mpr ⟨okF83, List.forall_mem_cons.mpr ⟨okF84, List.forall_mem_cons.mpr ⟨okF85, List.forall_mem_cons.mpr ⟨okF86, List.forall_mem_cons.mpr ⟨okF87, List.forall_mem_cons.mpr ⟨okF88, List.forall_mem_cons.mpr ⟨okF89, List.forall_mem_cons.mpr ⟨okF90, List.forall_mem_cons.mpr ⟨okF91, List.forall_mem_cons.mpr ⟨okF92, List.forall_mem_cons.mpr ⟨okF93, List.forall_mem_cons.mpr ⟨okF94, List.forall_mem_cons.mpr ⟨okF95, List.forall_mem_cons.mpr ⟨okF96, List.forall_mem_cons.mpr ⟨okF97, List.forall_mem_cons.mpr ⟨okF98, List.forall_mem_cons.mpr ⟨okF99, List.forall_mem_cons.mpr ⟨okF100, List.forall_mem_cons.mpr ⟨okF101, List.forall_mem_cons.mpr ⟨okF102, List.forall_mem_cons.mpr ⟨okF103, List.forall_mem_cons.mpr ⟨okF104, List.forall_mem_cons.mpr ⟨okF105, List.forall_mem_cons.mpr ⟨okF106, List.forall_mem_cons.mpr ⟨okF107, List.forall_mem_cons.mpr ⟨okF108, List.forall_mem_cons.mpr ⟨okF109, List.forall_mem_cons.mpr ⟨okF110, List.forall_mem_cons.mpr ⟨okF111, List.forall_mem_cons.mpr ⟨okF112, List.forall_mem_cons.mpr ⟨okF113, List.forall_mem_cons.mpr ⟨okF114, List.forall_mem_cons.mpr ⟨okF115, List.forall_mem_cons.mpr ⟨okF116, List.forall_mem_cons.mpr ⟨okF117, List.forall_mem_cons.mpr ⟨okF118, List.forall_mem_cons.mpr ⟨okF119, List.forall_mem_cons.mpr ⟨okF120, List.forall_mem_cons.mpr ⟨okF121, List.forall_mem_cons.mpr ⟨okF122, List.forall_mem_cons.mpr ⟨okF123, List.forall_mem_cons.mpr ⟨okF124, List.forall_mem_cons.mpr ⟨okF125, List.forall_mem_cons.mpr ⟨okF126, List.forall_mem_cons.mpr ⟨okF127, List.forall_mem_cons.mpr ⟨okF128, List.forall_mem_cons.mpr ⟨okF129, List.forall_mem_cons.mpr ⟨okF130, List.forall_mem_cons.mpr ⟨okF131, List.forall_mem_cons.mpr ⟨okF132, List.forall_mem_cons.mpr ⟨okF133, List.forall_mem_cons.mpr ⟨okF134, List.forall_mem_cons.mpr ⟨okF135, List.forall_mem_cons.mpr ⟨okF136, List.forall_mem_cons.mpr ⟨okF137, List.forall_mem_cons.mpr ⟨okF138, List.forall_mem_cons.mpr ⟨okF139, fun _ h => absurd h List.not_mem_nil⟩⟩⟩⟩⟩⟩⟩⟩⟩⟩⟩⟩⟩⟩⟩⟩⟩⟩⟩⟩⟩⟩⟩⟩⟩⟩⟩⟩⟩⟩⟩⟩⟩⟩⟩⟩⟩⟩⟩⟩⟩⟩⟩⟩⟩⟩⟩⟩⟩⟩⟩⟩⟩⟩⟩⟩⟩⟩⟩⟩⟩⟩⟩⟩⟩⟩⟩⟩⟩⟩⟩⟩⟩⟩⟩⟩⟩⟩⟩⟩⟩⟩⟩⟩⟩⟩⟩⟩⟩⟩⟩⟩⟩⟩⟩⟩⟩⟩⟩⟩⟩⟩⟩⟩⟩⟩⟩⟩⟩⟩⟩⟩⟩⟩⟩⟩⟩⟩⟩⟩⟩⟩⟩⟩⟩⟩⟩⟩⟩⟩⟩⟩⟩⟩⟩⟩⟩⟩⟩⟩
def okK (q : Nat × Nat × Int32) : Prop := Cond.constant (cn q.1) q.2.1 q.2.2 ∈ gw
theorem okK0 : okK (9, 72, -1000000002) := gw_in (i := 356) (by decide +kernel) rfl
theorem okK1 : okK (9, 77, -1000000004) := gw_in (i := 361) (by decide +kernel) rfl
theorem okK2 : okK (9, 150, -1000000001) := gw_in (i := 476) (by decide +kernel) rfl
theorem okK3 : okK (9, 180, -1000000003) := gw_in (i := 495) (by decide +kernel) rfl
theorem okK4 : okK (9, 181, 90000) := gw_in (i := 496) (by decide +kernel) rfl
theorem okK5 : okK (7, 59, 999999) := gw_in (i := 530) (by decide +kernel) rfl
theorem okK6 : okK (12, 265, 1431655765) := gw_in (i := 535) (by decide +kernel) rfl
theorem okK7 : okK (12, 266, 858993459) := gw_in (i := 536) (by decide +kernel) rfl
theorem okK8 : okK (12, 267, 252645135) := gw_in (i := 537) (by decide +kernel) rfl
theorem okK9 : okK (3, 19, 65536) := gw_in (i := 573) (by decide +kernel) rfl
theorem okK10 : okK (10, 96, -1000000002) := gw_in (i := 898) (by decide +kernel) rfl
theorem okK11 : okK (10, 100, -1000000004) := gw_in (i := 899) (by decide +kernel) rfl
theorem okK12 : okK (10, 172, -1000000001) := gw_in (i := 958) (by decide +kernel) rfl
theorem okK13 : okK (10, 205, -1000000003) := gw_in (i := 975) (by decide +kernel) rfl
theorem okK14 : okK (10, 206, 90000) := gw_in (i := 976) (by decide +kernel) rfl
theorem okK15 : okK (10, 194, 999999) := gw_in (i := 1001) (by decide +kernel) rfl
theorem okK16 : okK (10, 228, 65536) := gw_in (i := 1033) (by decide +kernel) rfl
theorem okK17 : okK (10, 251, 1000000) := gw_in (i := 1066) (by decide +kernel) rfl
theorem klt_ok : ∀ q ∈ klt, okK q := List.forall_mem_cons.mpr ⟨okK0, List.forall_mem_cons.mpr ⟨okK1, List.forall_mem_cons.mpr ⟨okK2, List.forall_mem_cons.mpr ⟨okK3, List.forall_mem_cons.mpr ⟨okK4, List.forall_mem_cons.mpr ⟨okK5, List.forall_mem_cons.mpr ⟨okK6, List.forall_mem_cons.mpr ⟨okK7, List.forall_mem_cons.mpr ⟨okK8, List.forall_mem_cons.mpr ⟨okK9, List.forall_mem_cons.mpr ⟨okK10, List.forall_mem_cons.mpr ⟨okK11, List.forall_mem_cons.mpr ⟨okK12, List.forall_mem_cons.mpr ⟨okK13, List.forall_mem_cons.mpr ⟨okK14, List.forall_mem_cons.mpr ⟨okK15, List.forall_mem_cons.mpr ⟨okK16, List.forall_mem_cons.mpr ⟨okK17, fun _ h => absurd h List.not_mem_nil⟩⟩⟩⟩⟩⟩⟩⟩⟩⟩⟩⟩⟩⟩⟩⟩⟩⟩
def okL (q : Nat × Nat × Int64) : Prop := Cond.constantLong (cn q.1) q.2.1 q.2.2 ∈ gw
theorem okL0 : okL (3, 13, 1103515245) := gw_in (i := 570) (by decide +kernel) rfl
theorem okL1 : okL (3, 15, 12345) := gw_in (i := 571) (by decide +kernel) rfl
theorem okL2 : okL (3, 17, 2147483647) := gw_in (i := 572) (by decide +kernel) rfl
theorem okL3 : okL (9, 243, 1000000000) := gw_in (i := 671) (by decide +kernel) rfl
theorem okL4 : okL (9, 245, 100) := gw_in (i := 672) (by decide +kernel) rfl
theorem okL5 : okL (10, 94, 255) := gw_in (i := 894) (by decide +kernel) rfl
theorem okL6 : okL (10, 108, 48) := gw_in (i := 928) (by decide +kernel) rfl
theorem okL7 : okL (10, 110, 57) := gw_in (i := 929) (by decide +kernel) rfl
theorem okL8 : okL (10, 214, 60) := gw_in (i := 1021) (by decide +kernel) rfl
theorem okL9 : okL (10, 222, 1103515245) := gw_in (i := 1030) (by decide +kernel) rfl
theorem okL10 : okL (10, 224, 12345) := gw_in (i := 1031) (by decide +kernel) rfl
theorem okL11 : okL (10, 226, 2147483648) := gw_in (i := 1032) (by decide +kernel) rfl
theorem okL12 : okL (10, 261, 1000) := gw_in (i := 1095) (by decide +kernel) rfl
theorem okL13 : okL (10, 263, 100) := gw_in (i := 1104) (by decide +kernel) rfl
theorem okL14 : okL (10, 265, 1000000000) := gw_in (i := 1105) (by decide +kernel) rfl
theorem okL15 : okL (10, 273, 199) := gw_in (i := 1130) (by decide +kernel) rfl
theorem kLt_ok : ∀ q ∈ kLt, okL q := List.forall_mem_cons.mpr ⟨okL0, List.forall_mem_cons.mpr ⟨okL1, List.forall_mem_cons.mpr ⟨okL2, List.forall_mem_cons.mpr ⟨okL3, List.forall_mem_cons.mpr ⟨okL4, List.forall_mem_cons.mpr ⟨okL5, List.forall_mem_cons.mpr ⟨okL6, List.forall_mem_cons.mpr ⟨okL7, List.forall_mem_cons.mpr ⟨okL8, List.forall_mem_cons.mpr ⟨okL9, List.forall_mem_cons.mpr ⟨okL10, List.forall_mem_cons.mpr ⟨okL11, List.forall_mem_cons.mpr ⟨okL12, List.forall_mem_cons.mpr ⟨okL13, List.forall_mem_cons.mpr ⟨okL14, List.forall_mem_cons.mpr ⟨okL15, fun _ h => absurd h List.not_mem_nil⟩⟩⟩⟩⟩⟩⟩⟩⟩⟩⟩⟩⟩⟩⟩⟩
abbrev aM : Type := MethodName × ByteArray × Nat × Option FieldType × Nat × Nat × Bool
def okM (q : aM) : Prop := (plainName q.1.cls = true ∧ q.1.cls ≠ "java/lang/invoke/MethodHandle" ∧ q.1.cls ≠ "java/lang/invoke/VarHandle" ∧ (parseMethodDescriptor q.1.desc).map (fun d => d.parameters.length) = some q.2.2.2.2.1) ∧ q.1.cls = cn q.2.2.2.2.2.1 ∧ q.2.2.1 ≤ 21 ∧ Cond.code q.1 q.2.1 q.2.2.1 q.2.2.2.1 ∈ gw ∧ Cond.initialized q.1.cls ∈ gw ∧ (if q.2.2.2.2.2.2 = true then Cond.static q.1 ∈ gw else Cond.instanceMethod q.1 ∈ gw ∧ Cond.selects q.1.cls q.1 q.1 ∈ gw)
set_option maxRecDepth 100000 in
theorem okM0 : okM (yX0_clear, cX0_clear, 2, none, 0, 0, false) := ⟨⟨by decide +kernel, by decide +kernel, by decide +kernel, by decide +kernel⟩, rfl, Nat.le_of_ble_eq_true rfl, gw_in (i := 451) rfl rfl, gw_in (i := 54) (by decide +kernel) rfl, ⟨gw_in (i := 449) (by decide +kernel) rfl, gw_in (i := 450) (by decide +kernel) rfl⟩⟩
set_option maxRecDepth 100000 in
theorem okM1 : okM (yX0_hasPlace, cX0_hasPlace, 2, (some .boolean), 1, 0, false) := ⟨⟨by decide +kernel, by decide +kernel, by decide +kernel, by decide +kernel⟩, rfl, Nat.le_of_ble_eq_true rfl, gw_in (i := 748) rfl rfl, gw_in (i := 54) (by decide +kernel) rfl, ⟨gw_in (i := 746) (by decide +kernel) rfl, gw_in (i := 747) (by decide +kernel) rfl⟩⟩
set_option maxRecDepth 100000 in
theorem okM2 : okM (yX0_store, cX0_store, 4, none, 3, 0, false) := ⟨⟨by decide +kernel, by decide +kernel, by decide +kernel, by decide +kernel⟩, rfl, Nat.le_of_ble_eq_true rfl, gw_in (i := 752) rfl rfl, gw_in (i := 54) (by decide +kernel) rfl, ⟨gw_in (i := 750) (by decide +kernel) rfl, gw_in (i := 751) (by decide +kernel) rfl⟩⟩
set_option maxRecDepth 100000 in
theorem okM3 : okM (yX0_load, cX0_load, 4, (some .boolean), 3, 0, false) := ⟨⟨by decide +kernel, by decide +kernel, by decide +kernel, by decide +kernel⟩, rfl, Nat.le_of_ble_eq_true rfl, gw_in (i := 762) rfl rfl, gw_in (i := 54) (by decide +kernel) rfl, ⟨gw_in (i := 760) (by decide +kernel) rfl, gw_in (i := 761) (by decide +kernel) rfl⟩⟩
set_option maxRecDepth 100000 in
theorem okM4 : okM (yX1_clear, cX1_clear, 1, none, 0, 1, false) := ⟨⟨by decide +kernel, by decide +kernel, by decide +kernel, by decide +kernel⟩, rfl, Nat.le_of_ble_eq_true rfl, gw_in (i := 459) rfl rfl, gw_in (i := 58) (by decide +kernel) rfl, ⟨gw_in (i := 457) (by decide +kernel) rfl, gw_in (i := 458) (by decide +kernel) rfl⟩⟩
set_option maxRecDepth 100000 in
theorem okM5 : okM (yX1_append, cX1_append, 3, (some .boolean), 2, 1, false) := ⟨⟨by decide +kernel, by decide +kernel, by decide +kernel, by decide +kernel⟩, rfl, Nat.le_of_ble_eq_true rfl, gw_in (i := 724) rfl rfl, gw_in (i := 58) (by decide +kernel) rfl, ⟨gw_in (i := 722) (by decide +kernel) rfl, gw_in (i := 723) (by decide +kernel) rfl⟩⟩
set_option maxRecDepth 100000 in
theorem okM6 : okM (yX1_firstWrong, cX1_firstWrong, 4, (some .int), 1, 1, false) := ⟨⟨by decide +kernel, by decide +kernel, by decide +kernel, by decide +kernel⟩, rfl, Nat.le_of_ble_eq_true rfl, gw_in (i := 736) rfl rfl, gw_in (i := 58) (by decide +kernel) rfl, ⟨gw_in (i := 734) (by decide +kernel) rfl, gw_in (i := 735) (by decide +kernel) rfl⟩⟩
set_option maxRecDepth 100000 in
theorem okM7 : okM (yX2_clear, cX2_clear, 1, none, 0, 2, false) := ⟨⟨by decide +kernel, by decide +kernel, by decide +kernel, by decide +kernel⟩, rfl, Nat.le_of_ble_eq_true rfl, gw_in (i := 373) rfl rfl, gw_in (i := 51) (by decide +kernel) rfl, ⟨gw_in (i := 371) (by decide +kernel) rfl, gw_in (i := 372) (by decide +kernel) rfl⟩⟩
set_option maxRecDepth 100000 in
theorem okM8 : okM (yX2_copyFrom, cX2_copyFrom, 2, none, 1, 2, false) := ⟨⟨by decide +kernel, by decide +kernel, by decide +kernel, by decide +kernel⟩, rfl, Nat.le_of_ble_eq_true rfl, gw_in (i := 436) rfl rfl, gw_in (i := 51) (by decide +kernel) rfl, ⟨gw_in (i := 434) (by decide +kernel) rfl, gw_in (i := 435) (by decide +kernel) rfl⟩⟩
set_option maxRecDepth 100000 in
theorem okM9 : okM (yX2_stands, cX2_stands, 1, (some .boolean), 0, 2, false) := ⟨⟨by decide +kernel, by decide +kernel, by decide +kernel, by decide +kernel⟩, rfl, Nat.le_of_ble_eq_true rfl, gw_in (i := 393) rfl rfl, gw_in (i := 51) (by decide +kernel) rfl, ⟨gw_in (i := 391) (by decide +kernel) rfl, gw_in (i := 392) (by decide +kernel) rfl⟩⟩
set_option maxRecDepth 100000 in
theorem okM10 : okM (yX2_hasWatcher, cX2_hasWatcher, 2, (some .boolean), 1, 2, false) := ⟨⟨by decide +kernel, by decide +kernel, by decide +kernel, by decide +kernel⟩, rfl, Nat.le_of_ble_eq_true rfl, gw_in (i := 475) rfl rfl, gw_in (i := 51) (by decide +kernel) rfl, ⟨gw_in (i := 473) (by decide +kernel) rfl, gw_in (i := 474) (by decide +kernel) rfl⟩⟩
set_option maxRecDepth 100000 in
theorem okM11 : okM (yX2_hasSleeper, cX2_hasSleeper, 2, (some .boolean), 1, 2, false) := ⟨⟨by decide +kernel, by decide +kernel, by decide +kernel, by decide +kernel⟩, rfl, Nat.le_of_ble_eq_true rfl, gw_in (i := 484) rfl rfl, gw_in (i := 51) (by decide +kernel) rfl, ⟨gw_in (i := 482) (by decide +kernel) rfl, gw_in (i := 483) (by decide +kernel) rfl⟩⟩
set_option maxRecDepth 100000 in
theorem okM12 : okM (yX2_everybody, cX2_everybody, 1, (some .int), 0, 2, false) := ⟨⟨by decide +kernel, by decide +kernel, by decide +kernel, by decide +kernel⟩, rfl, Nat.le_of_ble_eq_true rfl, gw_in (i := 428) rfl rfl, gw_in (i := 51) (by decide +kernel) rfl, ⟨gw_in (i := 426) (by decide +kernel) rfl, gw_in (i := 427) (by decide +kernel) rfl⟩⟩
set_option maxRecDepth 100000 in
theorem okM13 : okM (yX2_hasAll, cX2_hasAll, 2, (some .boolean), 1, 2, false) := ⟨⟨by decide +kernel, by decide +kernel, by decide +kernel, by decide +kernel⟩, rfl, Nat.le_of_ble_eq_true rfl, gw_in (i := 492) rfl rfl, gw_in (i := 51) (by decide +kernel) rfl, ⟨gw_in (i := 490) (by decide +kernel) rfl, gw_in (i := 491) (by decide +kernel) rfl⟩⟩
set_option maxRecDepth 100000 in
theorem okM14 : okM (yX2_addWatcher, cX2_addWatcher, 5, none, 4, 2, false) := ⟨⟨by decide +kernel, by decide +kernel, by decide +kernel, by decide +kernel⟩, rfl, Nat.le_of_ble_eq_true rfl, gw_in (i := 420) rfl rfl, gw_in (i := 51) (by decide +kernel) rfl, ⟨gw_in (i := 418) (by decide +kernel) rfl, gw_in (i := 419) (by decide +kernel) rfl⟩⟩
set_option maxRecDepth 100000 in
theorem okM15 : okM (yX2_addSleeper, cX2_addSleeper, 2, none, 1, 2, false) := ⟨⟨by decide +kernel, by decide +kernel, by decide +kernel, by decide +kernel⟩, rfl, Nat.le_of_ble_eq_true rfl, gw_in (i := 432) rfl rfl, gw_in (i := 51) (by decide +kernel) rfl, ⟨gw_in (i := 430) (by decide +kernel) rfl, gw_in (i := 431) (by decide +kernel) rfl⟩⟩
set_option maxRecDepth 100000 in
theorem okM16 : okM (yX2_spendHour, cX2_spendHour, 7, (some .int), 3, 2, false) := ⟨⟨by decide +kernel, by decide +kernel, by decide +kernel, by decide +kernel⟩, rfl, Nat.le_of_ble_eq_true rfl, gw_in (i := 516) rfl rfl, gw_in (i := 51) (by decide +kernel) rfl, ⟨gw_in (i := 514) (by decide +kernel) rfl, gw_in (i := 515) (by decide +kernel) rfl⟩⟩
set_option maxRecDepth 100000 in
theorem okM17 : okM (yX2_sitsUp, cX2_sitsUp, 6, (some .boolean), 3, 2, false) := ⟨⟨by decide +kernel, by decide +kernel, by decide +kernel, by decide +kernel⟩, rfl, Nat.le_of_ble_eq_true rfl, gw_in (i := 528) rfl rfl, gw_in (i := 51) (by decide +kernel) rfl, ⟨gw_in (i := 526) (by decide +kernel) rfl, gw_in (i := 527) (by decide +kernel) rfl⟩⟩
set_option maxRecDepth 100000 in
theorem okM18 : okM (yX2_allSittingUp, cX2_allSittingUp, 5, (some .int), 2, 2, false) := ⟨⟨by decide +kernel, by decide +kernel, by decide +kernel, by decide +kernel⟩, rfl, Nat.le_of_ble_eq_true rfl, gw_in (i := 524) rfl rfl, gw_in (i := 51) (by decide +kernel) rfl, ⟨gw_in (i := 522) (by decide +kernel) rfl, gw_in (i := 523) (by decide +kernel) rfl⟩⟩
set_option maxRecDepth 100000 in
theorem okM19 : okM (yX3_draw, cX3_draw, 2, (some .int), 1, 3, false) := ⟨⟨by decide +kernel, by decide +kernel, by decide +kernel, by decide +kernel⟩, rfl, Nat.le_of_ble_eq_true rfl, gw_in (i := 569) rfl rfl, gw_in (i := 55) (by decide +kernel) rfl, ⟨gw_in (i := 567) (by decide +kernel) rfl, gw_in (i := 568) (by decide +kernel) rfl⟩⟩
set_option maxRecDepth 100000 in
theorem okM20 : okM (yX4_clear, cX4_clear, 1, none, 0, 4, false) := ⟨⟨by decide +kernel, by decide +kernel, by decide +kernel, by decide +kernel⟩, rfl, Nat.le_of_ble_eq_true rfl, gw_in (i := 447) rfl rfl, gw_in (i := 53) (by decide +kernel) rfl, ⟨gw_in (i := 445) (by decide +kernel) rfl, gw_in (i := 446) (by decide +kernel) rfl⟩⟩
set_option maxRecDepth 100000 in
theorem okM21 : okM (yX4_remember, cX4_remember, 2, none, 1, 4, false) := ⟨⟨by decide +kernel, by decide +kernel, by decide +kernel, by decide +kernel⟩, rfl, Nat.le_of_ble_eq_true rfl, gw_in (i := 500) rfl rfl, gw_in (i := 53) (by decide +kernel) rfl, ⟨gw_in (i := 498) (by decide +kernel) rfl, gw_in (i := 499) (by decide +kernel) rfl⟩⟩
set_option maxRecDepth 100000 in
theorem okM22 : okM (yX4_recall, cX4_recall, 3, (some .boolean), 1, 4, false) := ⟨⟨by decide +kernel, by decide +kernel, by decide +kernel, by decide +kernel⟩, rfl, Nat.le_of_ble_eq_true rfl, gw_in (i := 581) rfl rfl, gw_in (i := 53) (by decide +kernel) rfl, ⟨gw_in (i := 579) (by decide +kernel) rfl, gw_in (i := 580) (by decide +kernel) rfl⟩⟩
set_option maxRecDepth 100000 in
theorem okM23 : okM (yX5_append, cX5_append, 2, (some .boolean), 1, 5, false) := ⟨⟨by decide +kernel, by decide +kernel, by decide +kernel, by decide +kernel⟩, rfl, Nat.le_of_ble_eq_true rfl, gw_in (i := 360) rfl rfl, gw_in (i := 50) (by decide +kernel) rfl, ⟨gw_in (i := 358) (by decide +kernel) rfl, gw_in (i := 359) (by decide +kernel) rfl⟩⟩
set_option maxRecDepth 100000 in
theorem okM24 : okM (yX5_readText, cX5_readText, 2, (some .int), 0, 5, false) := ⟨⟨by decide +kernel, by decide +kernel, by decide +kernel, by decide +kernel⟩, rfl, Nat.le_of_ble_eq_true rfl, gw_in (i := 369) rfl rfl, gw_in (i := 50) (by decide +kernel) rfl, ⟨gw_in (i := 367) (by decide +kernel) rfl, gw_in (i := 368) (by decide +kernel) rfl⟩⟩
set_option maxRecDepth 100000 in
theorem okM25 : okM (yX5_readClause, cX5_readClause, 3, none, 0, 5, false) := ⟨⟨by decide +kernel, by decide +kernel, by decide +kernel, by decide +kernel⟩, rfl, Nat.le_of_ble_eq_true rfl, gw_in (i := 385) rfl rfl, gw_in (i := 50) (by decide +kernel) rfl, ⟨gw_in (i := 384) (by decide +kernel) rfl, gw_in (i := 2) (by decide +kernel) rfl⟩⟩
set_option maxRecDepth 100000 in
theorem okM26 : okM (yX5_faultOfWord, cX5_faultOfWord, 4, (some .int), 1, 5, false) := ⟨⟨by decide +kernel, by decide +kernel, by decide +kernel, by decide +kernel⟩, rfl, Nat.le_of_ble_eq_true rfl, gw_in (i := 389) rfl rfl, gw_in (i := 50) (by decide +kernel) rfl, ⟨gw_in (i := 388) (by decide +kernel) rfl, gw_in (i := 3) (by decide +kernel) rfl⟩⟩
set_option maxRecDepth 100000 in
theorem okM27 : okM (yX5_readNight, cX5_readNight, 1, none, 0, 5, false) := ⟨⟨by decide +kernel, by decide +kernel, by decide +kernel, by decide +kernel⟩, rfl, Nat.le_of_ble_eq_true rfl, gw_in (i := 401) rfl rfl, gw_in (i := 50) (by decide +kernel) rfl, ⟨gw_in (i := 400) (by decide +kernel) rfl, gw_in (i := 5) (by decide +kernel) rfl⟩⟩
set_option maxRecDepth 100000 in
theorem okM28 : okM (yX5_readWatcher, cX5_readWatcher, 5, none, 0, 5, false) := ⟨⟨by decide +kernel, by decide +kernel, by decide +kernel, by decide +kernel⟩, rfl, Nat.le_of_ble_eq_true rfl, gw_in (i := 416) rfl rfl, gw_in (i := 50) (by decide +kernel) rfl, ⟨gw_in (i := 415) (by decide +kernel) rfl, gw_in (i := 8) (by decide +kernel) rfl⟩⟩
set_option maxRecDepth 100000 in
theorem okM29 : okM (yX5_readSleeper, cX5_readSleeper, 2, none, 0, 5, false) := ⟨⟨by decide +kernel, by decide +kernel, by decide +kernel, by decide +kernel⟩, rfl, Nat.le_of_ble_eq_true rfl, gw_in (i := 424) rfl rfl, gw_in (i := 50) (by decide +kernel) rfl, ⟨gw_in (i := 423) (by decide +kernel) rfl, gw_in (i := 9) (by decide +kernel) rfl⟩⟩
set_option maxRecDepth 100000 in
theorem okM30 : okM (yX5_readNumber, cX5_readNumber, 6, (some .int), 2, 5, false) := ⟨⟨by decide +kernel, by decide +kernel, by decide +kernel, by decide +kernel⟩, rfl, Nat.le_of_ble_eq_true rfl, gw_in (i := 405) rfl rfl, gw_in (i := 50) (by decide +kernel) rfl, ⟨gw_in (i := 404) (by decide +kernel) rfl, gw_in (i := 6) (by decide +kernel) rfl⟩⟩
set_option maxRecDepth 100000 in
theorem okM31 : okM (yX5_readEnd, cX5_readEnd, 1, none, 0, 5, false) := ⟨⟨by decide +kernel, by decide +kernel, by decide +kernel, by decide +kernel⟩, rfl, Nat.le_of_ble_eq_true rfl, gw_in (i := 412) rfl rfl, gw_in (i := 50) (by decide +kernel) rfl, ⟨gw_in (i := 411) (by decide +kernel) rfl, gw_in (i := 7) (by decide +kernel) rfl⟩⟩
set_option maxRecDepth 100000 in
theorem okM32 : okM (yX5_skipBlanks, cX5_skipBlanks, 1, none, 0, 5, false) := ⟨⟨by decide +kernel, by decide +kernel, by decide +kernel, by decide +kernel⟩, rfl, Nat.le_of_ble_eq_true rfl, gw_in (i := 377) rfl rfl, gw_in (i := 50) (by decide +kernel) rfl, ⟨gw_in (i := 376) (by decide +kernel) rfl, gw_in (i := 0) (by decide +kernel) rfl⟩⟩
set_option maxRecDepth 100000 in
theorem okM33 : okM (yX5_letterHere, cX5_letterHere, 1, (some .int), 0, 5, false) := ⟨⟨by decide +kernel, by decide +kernel, by decide +kernel, by decide +kernel⟩, rfl, Nat.le_of_ble_eq_true rfl, gw_in (i := 381) rfl rfl, gw_in (i := 50) (by decide +kernel) rfl, ⟨gw_in (i := 380) (by decide +kernel) rfl, gw_in (i := 1) (by decide +kernel) rfl⟩⟩
set_option maxRecDepth 100000 in
theorem okM34 : okM (yX5_blame, cX5_blame, 3, none, 2, 5, false) := ⟨⟨by decide +kernel, by decide +kernel, by decide +kernel, by decide +kernel⟩, rfl, Nat.le_of_ble_eq_true rfl, gw_in (i := 397) rfl rfl, gw_in (i := 50) (by decide +kernel) rfl, ⟨gw_in (i := 396) (by decide +kernel) rfl, gw_in (i := 4) (by decide +kernel) rfl⟩⟩
set_option maxRecDepth 100000 in
theorem okM35 : okM (yX5_isFigure, cX5_isFigure, 1, (some .boolean), 1, 5, true) := ⟨⟨by decide +kernel, by decide +kernel, by decide +kernel, by decide +kernel⟩, rfl, Nat.le_of_ble_eq_true rfl, gw_in (i := 408) rfl rfl, gw_in (i := 50) (by decide +kernel) rfl, gw_in (i := 407) (by decide +kernel) rfl⟩
set_option maxRecDepth 100000 in
theorem okM36 : okM (yX6_clear, cX6_clear, 1, none, 0, 6, false) := ⟨⟨by decide +kernel, by decide +kernel, by decide +kernel, by decide +kernel⟩, rfl, Nat.le_of_ble_eq_true rfl, gw_in (i := 455) rfl rfl, gw_in (i := 57) (by decide +kernel) rfl, ⟨gw_in (i := 453) (by decide +kernel) rfl, gw_in (i := 454) (by decide +kernel) rfl⟩⟩
set_option maxRecDepth 100000 in
theorem okM37 : okM (yX6_append, cX6_append, 3, (some .boolean), 2, 6, false) := ⟨⟨by decide +kernel, by decide +kernel, by decide +kernel, by decide +kernel⟩, rfl, Nat.le_of_ble_eq_true rfl, gw_in (i := 680) rfl rfl, gw_in (i := 57) (by decide +kernel) rfl, ⟨gw_in (i := 678) (by decide +kernel) rfl, gw_in (i := 679) (by decide +kernel) rfl⟩⟩
set_option maxRecDepth 100000 in
theorem okM38 : okM (yX6_fits, cX6_fits, 5, (some .boolean), 3, 6, false) := ⟨⟨by decide +kernel, by decide +kernel, by decide +kernel, by decide +kernel⟩, rfl, Nat.le_of_ble_eq_true rfl, gw_in (i := 692) rfl rfl, gw_in (i := 57) (by decide +kernel) rfl, ⟨gw_in (i := 691) (by decide +kernel) rfl, gw_in (i := 18) (by decide +kernel) rfl⟩⟩
set_option maxRecDepth 100000 in
theorem okM39 : okM (yX6_countFitting, cX6_countFitting, 5, (some .int), 2, 6, false) := ⟨⟨by decide +kernel, by decide +kernel, by decide +kernel, by decide +kernel⟩, rfl, Nat.le_of_ble_eq_true rfl, gw_in (i := 688) rfl rfl, gw_in (i := 57) (by decide +kernel) rfl, ⟨gw_in (i := 686) (by decide +kernel) rfl, gw_in (i := 687) (by decide +kernel) rfl⟩⟩
set_option maxRecDepth 100000 in
theorem okM40 : okM (yX6_inAllFitting, cX6_inAllFitting, 5, (some .int), 2, 6, false) := ⟨⟨by decide +kernel, by decide +kernel, by decide +kernel, by decide +kernel⟩, rfl, Nat.le_of_ble_eq_true rfl, gw_in (i := 697) rfl rfl, gw_in (i := 57) (by decide +kernel) rfl, ⟨gw_in (i := 695) (by decide +kernel) rfl, gw_in (i := 696) (by decide +kernel) rfl⟩⟩
set_option maxRecDepth 100000 in
theorem okM41 : okM (yX6_fittingAt, cX6_fittingAt, 7, (some .int), 3, 6, false) := ⟨⟨by decide +kernel, by decide +kernel, by decide +kernel, by decide +kernel⟩, rfl, Nat.le_of_ble_eq_true rfl, gw_in (i := 702) rfl rfl, gw_in (i := 57) (by decide +kernel) rfl, ⟨gw_in (i := 700) (by decide +kernel) rfl, gw_in (i := 701) (by decide +kernel) rfl⟩⟩
set_option maxRecDepth 100000 in
theorem okM42 : okM (yX6_bestToAsk, cX6_bestToAsk, 7, (some .int), 2, 6, false) := ⟨⟨by decide +kernel, by decide +kernel, by decide +kernel, by decide +kernel⟩, rfl, Nat.le_of_ble_eq_true rfl, gw_in (i := 711) rfl rfl, gw_in (i := 57) (by decide +kernel) rfl, ⟨gw_in (i := 709) (by decide +kernel) rfl, gw_in (i := 710) (by decide +kernel) rfl⟩⟩
set_option maxRecDepth 100000 in
theorem okM43 : okM (yX6_greaterPart, cX6_greaterPart, 7, (some .int), 3, 6, false) := ⟨⟨by decide +kernel, by decide +kernel, by decide +kernel, by decide +kernel⟩, rfl, Nat.le_of_ble_eq_true rfl, gw_in (i := 715) rfl rfl, gw_in (i := 57) (by decide +kernel) rfl, ⟨gw_in (i := 714) (by decide +kernel) rfl, gw_in (i := 19) (by decide +kernel) rfl⟩⟩
set_option maxRecDepth 100000 in
theorem okM44 : okM (yX7_begin, cX7_begin, 3, none, 1, 7, false) := ⟨⟨by decide +kernel, by decide +kernel, by decide +kernel, by decide +kernel⟩, rfl, Nat.le_of_ble_eq_true rfl, gw_in (i := 443) rfl rfl, gw_in (i := 52) (by decide +kernel) rfl, ⟨gw_in (i := 441) (by decide +kernel) rfl, gw_in (i := 442) (by decide +kernel) rfl⟩⟩
set_option maxRecDepth 100000 in
theorem okM45 : okM (yX7_copyFrom, cX7_copyFrom, 2, none, 1, 7, false) := ⟨⟨by decide +kernel, by decide +kernel, by decide +kernel, by decide +kernel⟩, rfl, Nat.le_of_ble_eq_true rfl, gw_in (i := 504) rfl rfl, gw_in (i := 52) (by decide +kernel) rfl, ⟨gw_in (i := 502) (by decide +kernel) rfl, gw_in (i := 503) (by decide +kernel) rfl⟩⟩
set_option maxRecDepth 100000 in
theorem okM46 : okM (yX7_passWatched, cX7_passWatched, 6, none, 3, 7, false) := ⟨⟨by decide +kernel, by decide +kernel, by decide +kernel, by decide +kernel⟩, rfl, Nat.le_of_ble_eq_true rfl, gw_in (i := 512) rfl rfl, gw_in (i := 52) (by decide +kernel) rfl, ⟨gw_in (i := 510) (by decide +kernel) rfl, gw_in (i := 511) (by decide +kernel) rfl⟩⟩
set_option maxRecDepth 100000 in
theorem okM47 : okM (yX7_passResting, cX7_passResting, 2, none, 1, 7, false) := ⟨⟨by decide +kernel, by decide +kernel, by decide +kernel, by decide +kernel⟩, rfl, Nat.le_of_ble_eq_true rfl, gw_in (i := 561) rfl rfl, gw_in (i := 52) (by decide +kernel) rfl, ⟨gw_in (i := 559) (by decide +kernel) rfl, gw_in (i := 560) (by decide +kernel) rfl⟩⟩
set_option maxRecDepth 100000 in
theorem okM48 : okM (yX7_endHour, cX7_endHour, 2, none, 1, 7, false) := ⟨⟨by decide +kernel, by decide +kernel, by decide +kernel, by decide +kernel⟩, rfl, Nat.le_of_ble_eq_true rfl, gw_in (i := 541) rfl rfl, gw_in (i := 52) (by decide +kernel) rfl, ⟨gw_in (i := 540) (by decide +kernel) rfl, gw_in (i := 10) (by decide +kernel) rfl⟩⟩
set_option maxRecDepth 100000 in
theorem okM49 : okM (yX7_partOf, cX7_partOf, 6, (some .int), 2, 7, false) := ⟨⟨by decide +kernel, by decide +kernel, by decide +kernel, by decide +kernel⟩, rfl, Nat.le_of_ble_eq_true rfl, gw_in (i := 661) rfl rfl, gw_in (i := 52) (by decide +kernel) rfl, ⟨gw_in (i := 659) (by decide +kernel) rfl, gw_in (i := 660) (by decide +kernel) rfl⟩⟩
set_option maxRecDepth 100000 in
theorem okM50 : okM (yX8_layRow, cX8_layRow, 2, none, 1, 8, false) := ⟨⟨by decide +kernel, by decide +kernel, by decide +kernel, by decide +kernel⟩, rfl, Nat.le_of_ble_eq_true rfl, gw_in (i := 593) rfl rfl, gw_in (i := 56) (by decide +kernel) rfl, ⟨gw_in (i := 592) (by decide +kernel) rfl, gw_in (i := 12) (by decide +kernel) rfl⟩⟩
set_option maxRecDepth 100000 in
theorem okM51 : okM (yX8_findWatches, cX8_findWatches, 3, (some .boolean), 2, 8, false) := ⟨⟨by decide +kernel, by decide +kernel, by decide +kernel, by decide +kernel⟩, rfl, Nat.le_of_ble_eq_true rfl, gw_in (i := 589) rfl rfl, gw_in (i := 56) (by decide +kernel) rfl, ⟨gw_in (i := 587) (by decide +kernel) rfl, gw_in (i := 588) (by decide +kernel) rfl⟩⟩
set_option maxRecDepth 100000 in
theorem okM52 : okM (yX8_chooseFrom, cX8_chooseFrom, 6, none, 2, 8, false) := ⟨⟨by decide +kernel, by decide +kernel, by decide +kernel, by decide +kernel⟩, rfl, Nat.le_of_ble_eq_true rfl, gw_in (i := 598) rfl rfl, gw_in (i := 56) (by decide +kernel) rfl, ⟨gw_in (i := 597) (by decide +kernel) rfl, gw_in (i := 13) (by decide +kernel) rfl⟩⟩
set_option maxRecDepth 100000 in
theorem okM53 : okM (yX8_leastPossibleEnd, cX8_leastPossibleEnd, 6, (some .int), 3, 8, false) := ⟨⟨by decide +kernel, by decide +kernel, by decide +kernel, by decide +kernel⟩, rfl, Nat.le_of_ble_eq_true rfl, gw_in (i := 603) rfl rfl, gw_in (i := 56) (by decide +kernel) rfl, ⟨gw_in (i := 602) (by decide +kernel) rfl, gw_in (i := 14) (by decide +kernel) rfl⟩⟩
set_option maxRecDepth 100000 in
theorem okM54 : okM (yX8_takeChosen, cX8_takeChosen, 2, none, 1, 8, false) := ⟨⟨by decide +kernel, by decide +kernel, by decide +kernel, by decide +kernel⟩, rfl, Nat.le_of_ble_eq_true rfl, gw_in (i := 608) rfl rfl, gw_in (i := 56) (by decide +kernel) rfl, ⟨gw_in (i := 607) (by decide +kernel) rfl, gw_in (i := 15) (by decide +kernel) rfl⟩⟩
set_option maxRecDepth 100000 in
theorem okM55 : okM (yX8_nodsWithBell, cX8_nodsWithBell, 4, (some .int), 3, 8, false) := ⟨⟨by decide +kernel, by decide +kernel, by decide +kernel, by decide +kernel⟩, rfl, Nat.le_of_ble_eq_true rfl, gw_in (i := 616) rfl rfl, gw_in (i := 56) (by decide +kernel) rfl, ⟨gw_in (i := 614) (by decide +kernel) rfl, gw_in (i := 615) (by decide +kernel) rfl⟩⟩
set_option maxRecDepth 100000 in
theorem okM56 : okM (yX8_nodsWithCoffee, cX8_nodsWithCoffee, 4, (some .int), 3, 8, false) := ⟨⟨by decide +kernel, by decide +kernel, by decide +kernel, by decide +kernel⟩, rfl, Nat.le_of_ble_eq_true rfl, gw_in (i := 630) rfl rfl, gw_in (i := 56) (by decide +kernel) rfl, ⟨gw_in (i := 628) (by decide +kernel) rfl, gw_in (i := 629) (by decide +kernel) rfl⟩⟩
set_option maxRecDepth 100000 in
theorem okM57 : okM (yX8_nodsOfAll, cX8_nodsOfAll, 5, (some .int), 2, 8, false) := ⟨⟨by decide +kernel, by decide +kernel, by decide +kernel, by decide +kernel⟩, rfl, Nat.le_of_ble_eq_true rfl, gw_in (i := 620) rfl rfl, gw_in (i := 56) (by decide +kernel) rfl, ⟨gw_in (i := 619) (by decide +kernel) rfl, gw_in (i := 16) (by decide +kernel) rfl⟩⟩
set_option maxRecDepth 100000 in
theorem okM58 : okM (yX8_nightsOf, cX8_nightsOf, 6, (some .int), 3, 8, false) := ⟨⟨by decide +kernel, by decide +kernel, by decide +kernel, by decide +kernel⟩, rfl, Nat.le_of_ble_eq_true rfl, gw_in (i := 639) rfl rfl, gw_in (i := 56) (by decide +kernel) rfl, ⟨gw_in (i := 637) (by decide +kernel) rfl, gw_in (i := 638) (by decide +kernel) rfl⟩⟩
set_option maxRecDepth 100000 in
theorem okM59 : okM (yX8_fewestHolding, cX8_fewestHolding, 5, (some .int), 2, 8, false) := ⟨⟨by decide +kernel, by decide +kernel, by decide +kernel, by decide +kernel⟩, rfl, Nat.le_of_ble_eq_true rfl, gw_in (i := 649) rfl rfl, gw_in (i := 56) (by decide +kernel) rfl, ⟨gw_in (i := 647) (by decide +kernel) rfl, gw_in (i := 648) (by decide +kernel) rfl⟩⟩
set_option maxRecDepth 100000 in
theorem okM60 : okM (yX8_holds, cX8_holds, 4, (some .boolean), 2, 8, false) := ⟨⟨by decide +kernel, by decide +kernel, by decide +kernel, by decide +kernel⟩, rfl, Nat.le_of_ble_eq_true rfl, gw_in (i := 653) rfl rfl, gw_in (i := 56) (by decide +kernel) rfl, ⟨gw_in (i := 652) (by decide +kernel) rfl, gw_in (i := 17) (by decide +kernel) rfl⟩⟩
set_option maxRecDepth 100000 in
theorem okM61 : okM (yX9_feed, cX9_feed, 2, (some .int), 1, 9, false) := ⟨⟨by decide +kernel, by decide +kernel, by decide +kernel, by decide +kernel⟩, rfl, Nat.le_of_ble_eq_true rfl, gw_in (i := 355) rfl rfl, gw_in (i := 49) (by decide +kernel) rfl, ⟨gw_in (i := 353) (by decide +kernel) rfl, gw_in (i := 354) (by decide +kernel) rfl⟩⟩
set_option maxRecDepth 100000 in
theorem okM62 : okM (yX9_contract, cX9_contract, 2, (some .int), 0, 9, false) := ⟨⟨by decide +kernel, by decide +kernel, by decide +kernel, by decide +kernel⟩, rfl, Nat.le_of_ble_eq_true rfl, gw_in (i := 365) rfl rfl, gw_in (i := 49) (by decide +kernel) rfl, ⟨gw_in (i := 363) (by decide +kernel) rfl, gw_in (i := 364) (by decide +kernel) rfl⟩⟩
set_option maxRecDepth 100000 in
theorem okM63 : okM (yX9_fault, cX9_fault, 1, (some .int), 0, 9, false) := ⟨⟨by decide +kernel, by decide +kernel, by decide +kernel, by decide +kernel⟩, rfl, Nat.le_of_ble_eq_true rfl, gw_in (i := 463) rfl rfl, gw_in (i := 49) (by decide +kernel) rfl, ⟨gw_in (i := 461) (by decide +kernel) rfl, gw_in (i := 462) (by decide +kernel) rfl⟩⟩
set_option maxRecDepth 100000 in
theorem okM64 : okM (yX9_told, cX9_told, 2, (some .int), 1, 9, false) := ⟨⟨by decide +kernel, by decide +kernel, by decide +kernel, by decide +kernel⟩, rfl, Nat.le_of_ble_eq_true rfl, gw_in (i := 467) rfl rfl, gw_in (i := 49) (by decide +kernel) rfl, ⟨gw_in (i := 465) (by decide +kernel) rfl, gw_in (i := 466) (by decide +kernel) rfl⟩⟩
set_option maxRecDepth 100000 in
theorem okM65 : okM (yX9_watcher, cX9_watcher, 3, (some .int), 2, 9, false) := ⟨⟨by decide +kernel, by decide +kernel, by decide +kernel, by decide +kernel⟩, rfl, Nat.le_of_ble_eq_true rfl, gw_in (i := 471) rfl rfl, gw_in (i := 49) (by decide +kernel) rfl, ⟨gw_in (i := 469) (by decide +kernel) rfl, gw_in (i := 470) (by decide +kernel) rfl⟩⟩
set_option maxRecDepth 100000 in
theorem okM66 : okM (yX9_sleeper, cX9_sleeper, 2, (some .int), 1, 9, false) := ⟨⟨by decide +kernel, by decide +kernel, by decide +kernel, by decide +kernel⟩, rfl, Nat.le_of_ble_eq_true rfl, gw_in (i := 480) rfl rfl, gw_in (i := 49) (by decide +kernel) rfl, ⟨gw_in (i := 478) (by decide +kernel) rfl, gw_in (i := 479) (by decide +kernel) rfl⟩⟩
set_option maxRecDepth 100000 in
theorem okM67 : okM (yX9_hour, cX9_hour, 3, (some .int), 2, 9, false) := ⟨⟨by decide +kernel, by decide +kernel, by decide +kernel, by decide +kernel⟩, rfl, Nat.le_of_ble_eq_true rfl, gw_in (i := 488) rfl rfl, gw_in (i := 49) (by decide +kernel) rfl, ⟨gw_in (i := 486) (by decide +kernel) rfl, gw_in (i := 487) (by decide +kernel) rfl⟩⟩
set_option maxRecDepth 100000 in
theorem okM68 : okM (yX9_coffee, cX9_coffee, 2, (some .int), 1, 9, false) := ⟨⟨by decide +kernel, by decide +kernel, by decide +kernel, by decide +kernel⟩, rfl, Nat.le_of_ble_eq_true rfl, gw_in (i := 545) rfl rfl, gw_in (i := 49) (by decide +kernel) rfl, ⟨gw_in (i := 543) (by decide +kernel) rfl, gw_in (i := 544) (by decide +kernel) rfl⟩⟩
set_option maxRecDepth 100000 in
theorem okM69 : okM (yX9_rest, cX9_rest, 4, (some .int), 1, 9, false) := ⟨⟨by decide +kernel, by decide +kernel, by decide +kernel, by decide +kernel⟩, rfl, Nat.le_of_ble_eq_true rfl, gw_in (i := 553) rfl rfl, gw_in (i := 49) (by decide +kernel) rfl, ⟨gw_in (i := 551) (by decide +kernel) rfl, gw_in (i := 552) (by decide +kernel) rfl⟩⟩
set_option maxRecDepth 100000 in
theorem okM70 : okM (yX9_drift, cX9_drift, 6, (some .int), 1, 9, false) := ⟨⟨by decide +kernel, by decide +kernel, by decide +kernel, by decide +kernel⟩, rfl, Nat.le_of_ble_eq_true rfl, gw_in (i := 565) rfl rfl, gw_in (i := 49) (by decide +kernel) rfl, ⟨gw_in (i := 563) (by decide +kernel) rfl, gw_in (i := 564) (by decide +kernel) rfl⟩⟩
set_option maxRecDepth 100000 in
theorem okM71 : okM (yX9_undo, cX9_undo, 1, (some .int), 0, 9, false) := ⟨⟨by decide +kernel, by decide +kernel, by decide +kernel, by decide +kernel⟩, rfl, Nat.le_of_ble_eq_true rfl, gw_in (i := 577) rfl rfl, gw_in (i := 49) (by decide +kernel) rfl, ⟨gw_in (i := 575) (by decide +kernel) rfl, gw_in (i := 576) (by decide +kernel) rfl⟩⟩
set_option maxRecDepth 100000 in
theorem okM72 : okM (yX9_watches, cX9_watches, 2, (some .int), 1, 9, false) := ⟨⟨by decide +kernel, by decide +kernel, by decide +kernel, by decide +kernel⟩, rfl, Nat.le_of_ble_eq_true rfl, gw_in (i := 585) rfl rfl, gw_in (i := 49) (by decide +kernel) rfl, ⟨gw_in (i := 583) (by decide +kernel) rfl, gw_in (i := 584) (by decide +kernel) rfl⟩⟩
set_option maxRecDepth 100000 in
theorem okM73 : okM (yX9_bellHour, cX9_bellHour, 6, (some .int), 1, 9, false) := ⟨⟨by decide +kernel, by decide +kernel, by decide +kernel, by decide +kernel⟩, rfl, Nat.le_of_ble_eq_true rfl, gw_in (i := 612) rfl rfl, gw_in (i := 49) (by decide +kernel) rfl, ⟨gw_in (i := 610) (by decide +kernel) rfl, gw_in (i := 611) (by decide +kernel) rfl⟩⟩
set_option maxRecDepth 100000 in
theorem okM74 : okM (yX9_coffeeFor, cX9_coffeeFor, 5, (some .int), 0, 9, false) := ⟨⟨by decide +kernel, by decide +kernel, by decide +kernel, by decide +kernel⟩, rfl, Nat.le_of_ble_eq_true rfl, gw_in (i := 626) rfl rfl, gw_in (i := 49) (by decide +kernel) rfl, ⟨gw_in (i := 624) (by decide +kernel) rfl, gw_in (i := 625) (by decide +kernel) rfl⟩⟩
set_option maxRecDepth 100000 in
theorem okM75 : okM (yX9_nights, cX9_nights, 2, (some .int), 1, 9, false) := ⟨⟨by decide +kernel, by decide +kernel, by decide +kernel, by decide +kernel⟩, rfl, Nat.le_of_ble_eq_true rfl, gw_in (i := 635) rfl rfl, gw_in (i := 49) (by decide +kernel) rfl, ⟨gw_in (i := 633) (by decide +kernel) rfl, gw_in (i := 634) (by decide +kernel) rfl⟩⟩
set_option maxRecDepth 100000 in
theorem okM76 : okM (yX9_hold, cX9_hold, 1, (some .int), 0, 9, false) := ⟨⟨by decide +kernel, by decide +kernel, by decide +kernel, by decide +kernel⟩, rfl, Nat.le_of_ble_eq_true rfl, gw_in (i := 645) rfl rfl, gw_in (i := 49) (by decide +kernel) rfl, ⟨gw_in (i := 643) (by decide +kernel) rfl, gw_in (i := 644) (by decide +kernel) rfl⟩⟩
set_option maxRecDepth 100000 in
theorem okM77 : okM (yX9_share, cX9_share, 2, (some .int), 1, 9, false) := ⟨⟨by decide +kernel, by decide +kernel, by decide +kernel, by decide +kernel⟩, rfl, Nat.le_of_ble_eq_true rfl, gw_in (i := 657) rfl rfl, gw_in (i := 49) (by decide +kernel) rfl, ⟨gw_in (i := 655) (by decide +kernel) rfl, gw_in (i := 656) (by decide +kernel) rfl⟩⟩
set_option maxRecDepth 100000 in
theorem okM78 : okM (yX9_paid, cX9_paid, 2, (some .int), 1, 9, false) := ⟨⟨by decide +kernel, by decide +kernel, by decide +kernel, by decide +kernel⟩, rfl, Nat.le_of_ble_eq_true rfl, gw_in (i := 665) rfl rfl, gw_in (i := 49) (by decide +kernel) rfl, ⟨gw_in (i := 663) (by decide +kernel) rfl, gw_in (i := 664) (by decide +kernel) rfl⟩⟩
set_option maxRecDepth 100000 in
theorem okM79 : okM (yX9_blink, cX9_blink, 8, (some .int), 3, 9, false) := ⟨⟨by decide +kernel, by decide +kernel, by decide +kernel, by decide +kernel⟩, rfl, Nat.le_of_ble_eq_true rfl, gw_in (i := 669) rfl rfl, gw_in (i := 49) (by decide +kernel) rfl, ⟨gw_in (i := 667) (by decide +kernel) rfl, gw_in (i := 668) (by decide +kernel) rfl⟩⟩
set_option maxRecDepth 100000 in
theorem okM80 : okM (yX9_see, cX9_see, 3, (some .int), 2, 9, false) := ⟨⟨by decide +kernel, by decide +kernel, by decide +kernel, by decide +kernel⟩, rfl, Nat.le_of_ble_eq_true rfl, gw_in (i := 676) rfl rfl, gw_in (i := 49) (by decide +kernel) rfl, ⟨gw_in (i := 674) (by decide +kernel) rfl, gw_in (i := 675) (by decide +kernel) rfl⟩⟩
set_option maxRecDepth 100000 in
theorem okM81 : okM (yX9_nodded, cX9_nodded, 3, (some .int), 2, 9, false) := ⟨⟨by decide +kernel, by decide +kernel, by decide +kernel, by decide +kernel⟩, rfl, Nat.le_of_ble_eq_true rfl, gw_in (i := 684) rfl rfl, gw_in (i := 49) (by decide +kernel) rfl, ⟨gw_in (i := 682) (by decide +kernel) rfl, gw_in (i := 683) (by decide +kernel) rfl⟩⟩
set_option maxRecDepth 100000 in
theorem okM82 : okM (yX9_askNext, cX9_askNext, 2, (some .int), 1, 9, false) := ⟨⟨by decide +kernel, by decide +kernel, by decide +kernel, by decide +kernel⟩, rfl, Nat.le_of_ble_eq_true rfl, gw_in (i := 707) rfl rfl, gw_in (i := 49) (by decide +kernel) rfl, ⟨gw_in (i := 705) (by decide +kernel) rfl, gw_in (i := 706) (by decide +kernel) rfl⟩⟩
set_option maxRecDepth 100000 in
theorem okM83 : okM (yX9_write, cX9_write, 3, (some .int), 2, 9, false) := ⟨⟨by decide +kernel, by decide +kernel, by decide +kernel, by decide +kernel⟩, rfl, Nat.le_of_ble_eq_true rfl, gw_in (i := 720) rfl rfl, gw_in (i := 49) (by decide +kernel) rfl, ⟨gw_in (i := 718) (by decide +kernel) rfl, gw_in (i := 719) (by decide +kernel) rfl⟩⟩
set_option maxRecDepth 100000 in
theorem okM84 : okM (yX9_tear, cX9_tear, 2, (some .int), 0, 9, false) := ⟨⟨by decide +kernel, by decide +kernel, by decide +kernel, by decide +kernel⟩, rfl, Nat.le_of_ble_eq_true rfl, gw_in (i := 728) rfl rfl, gw_in (i := 49) (by decide +kernel) rfl, ⟨gw_in (i := 726) (by decide +kernel) rfl, gw_in (i := 727) (by decide +kernel) rfl⟩⟩
set_option maxRecDepth 100000 in
theorem okM85 : okM (yX9_judge, cX9_judge, 1, (some .int), 0, 9, false) := ⟨⟨by decide +kernel, by decide +kernel, by decide +kernel, by decide +kernel⟩, rfl, Nat.le_of_ble_eq_true rfl, gw_in (i := 732) rfl rfl, gw_in (i := 49) (by decide +kernel) rfl, ⟨gw_in (i := 730) (by decide +kernel) rfl, gw_in (i := 731) (by decide +kernel) rfl⟩⟩
set_option maxRecDepth 100000 in
theorem okM86 : okM (yX9_seed, cX9_seed, 3, (some .int), 1, 9, false) := ⟨⟨by decide +kernel, by decide +kernel, by decide +kernel, by decide +kernel⟩, rfl, Nat.le_of_ble_eq_true rfl, gw_in (i := 740) rfl rfl, gw_in (i := 49) (by decide +kernel) rfl, ⟨gw_in (i := 738) (by decide +kernel) rfl, gw_in (i := 739) (by decide +kernel) rfl⟩⟩
set_option maxRecDepth 100000 in
theorem okM87 : okM (yX9_keep, cX9_keep, 2, (some .int), 1, 9, false) := ⟨⟨by decide +kernel, by decide +kernel, by decide +kernel, by decide +kernel⟩, rfl, Nat.le_of_ble_eq_true rfl, gw_in (i := 744) rfl rfl, gw_in (i := 49) (by decide +kernel) rfl, ⟨gw_in (i := 742) (by decide +kernel) rfl, gw_in (i := 743) (by decide +kernel) rfl⟩⟩
set_option maxRecDepth 100000 in
theorem okM88 : okM (yX9_goBack, cX9_goBack, 2, (some .int), 1, 9, false) := ⟨⟨by decide +kernel, by decide +kernel, by decide +kernel, by decide +kernel⟩, rfl, Nat.le_of_ble_eq_true rfl, gw_in (i := 758) rfl rfl, gw_in (i := 49) (by decide +kernel) rfl, ⟨gw_in (i := 756) (by decide +kernel) rfl, gw_in (i := 757) (by decide +kernel) rfl⟩⟩
set_option maxRecDepth 100000 in
theorem okM89 : okM (yX9_refusalOfHours, cX9_refusalOfHours, 2, (some .int), 1, 9, false) := ⟨⟨by decide +kernel, by decide +kernel, by decide +kernel, by decide +kernel⟩, rfl, Nat.le_of_ble_eq_true rfl, gw_in (i := 557) rfl rfl, gw_in (i := 49) (by decide +kernel) rfl, ⟨gw_in (i := 556) (by decide +kernel) rfl, gw_in (i := 11) (by decide +kernel) rfl⟩⟩
set_option maxRecDepth 100000 in
theorem okM90 : okM (yX9_afterCoffee, cX9_afterCoffee, 1, (some .int), 1, 9, true) := ⟨⟨by decide +kernel, by decide +kernel, by decide +kernel, by decide +kernel⟩, rfl, Nat.le_of_ble_eq_true rfl, gw_in (i := 548) rfl rfl, gw_in (i := 49) (by decide +kernel) rfl, gw_in (i := 547) (by decide +kernel) rfl⟩
set_option maxRecDepth 100000 in
theorem okM91 : okM (yX10_in, cX10_in, 6, (some .boolean), 3, 10, true) := ⟨⟨by decide +kernel, by decide +kernel, by decide +kernel, by decide +kernel⟩, rfl, Nat.le_of_ble_eq_true rfl, gw_in (i := 897) rfl rfl, gw_in (i := 59) (by decide +kernel) rfl, gw_in (i := 896) (by decide +kernel) rfl⟩
set_option maxRecDepth 100000 in
theorem okM92 : okM (yX10_has, cX10_has, 2, (some .boolean), 2, 10, true) := ⟨⟨by decide +kernel, by decide +kernel, by decide +kernel, by decide +kernel⟩, rfl, Nat.le_of_ble_eq_true rfl, gw_in (i := 991) rfl rfl, gw_in (i := 59) (by decide +kernel) rfl, gw_in (i := 990) (by decide +kernel) rfl⟩
set_option maxRecDepth 100000 in
theorem okM93 : okM (yX10_bits, cX10_bits, 3, (some .int), 1, 10, true) := ⟨⟨by decide +kernel, by decide +kernel, by decide +kernel, by decide +kernel⟩, rfl, Nat.le_of_ble_eq_true rfl, gw_in (i := 1004) rfl rfl, gw_in (i := 59) (by decide +kernel) rfl, gw_in (i := 1003) (by decide +kernel) rfl⟩
set_option maxRecDepth 100000 in
theorem okM94 : okM (yX10_atMost, cX10_atMost, 2, (some .int), 2, 10, true) := ⟨⟨by decide +kernel, by decide +kernel, by decide +kernel, by decide +kernel⟩, rfl, Nat.le_of_ble_eq_true rfl, gw_in (i := 997) rfl rfl, gw_in (i := 59) (by decide +kernel) rfl, gw_in (i := 996) (by decide +kernel) rfl⟩
set_option maxRecDepth 100000 in
theorem okM95 : okM (yX10_atLeast, cX10_atLeast, 2, (some .int), 2, 10, true) := ⟨⟨by decide +kernel, by decide +kernel, by decide +kernel, by decide +kernel⟩, rfl, Nat.le_of_ble_eq_true rfl, gw_in (i := 994) rfl rfl, gw_in (i := 59) (by decide +kernel) rfl, gw_in (i := 993) (by decide +kernel) rfl⟩
set_option maxRecDepth 100000 in
theorem okM96 : okM (yX10_isWatcher, cX10_isWatcher, 2, (some .boolean), 1, 10, false) := ⟨⟨by decide +kernel, by decide +kernel, by decide +kernel, by decide +kernel⟩, rfl, Nat.le_of_ble_eq_true rfl, gw_in (i := 957) rfl rfl, gw_in (i := 59) (by decide +kernel) rfl, ⟨gw_in (i := 956) (by decide +kernel) rfl, gw_in (i := 29) (by decide +kernel) rfl⟩⟩
set_option maxRecDepth 100000 in
theorem okM97 : okM (yX10_isSleeper, cX10_isSleeper, 2, (some .boolean), 1, 10, false) := ⟨⟨by decide +kernel, by decide +kernel, by decide +kernel, by decide +kernel⟩, rfl, Nat.le_of_ble_eq_true rfl, gw_in (i := 966) rfl rfl, gw_in (i := 59) (by decide +kernel) rfl, ⟨gw_in (i := 965) (by decide +kernel) rfl, gw_in (i := 30) (by decide +kernel) rfl⟩⟩
set_option maxRecDepth 100000 in
theorem okM98 : okM (yX10_isSet, cX10_isSet, 2, (some .boolean), 1, 10, false) := ⟨⟨by decide +kernel, by decide +kernel, by decide +kernel, by decide +kernel⟩, rfl, Nat.le_of_ble_eq_true rfl, gw_in (i := 974) rfl rfl, gw_in (i := 59) (by decide +kernel) rfl, ⟨gw_in (i := 973) (by decide +kernel) rfl, gw_in (i := 31) (by decide +kernel) rfl⟩⟩
set_option maxRecDepth 100000 in
theorem okM99 : okM (yX10_feed, cX10_feed, 2, (some .int), 1, 10, false) := ⟨⟨by decide +kernel, by decide +kernel, by decide +kernel, by decide +kernel⟩, rfl, Nat.le_of_ble_eq_true rfl, gw_in (i := 893) rfl rfl, gw_in (i := 59) (by decide +kernel) rfl, ⟨gw_in (i := 891) (by decide +kernel) rfl, gw_in (i := 892) (by decide +kernel) rfl⟩⟩
set_option maxRecDepth 100000 in
theorem okM100 : okM (yX10_here, cX10_here, 1, (some .int), 0, 10, false) := ⟨⟨by decide +kernel, by decide +kernel, by decide +kernel, by decide +kernel⟩, rfl, Nat.le_of_ble_eq_true rfl, gw_in (i := 907) rfl rfl, gw_in (i := 59) (by decide +kernel) rfl, ⟨gw_in (i := 906) (by decide +kernel) rfl, gw_in (i := 20) (by decide +kernel) rfl⟩⟩
set_option maxRecDepth 100000 in
theorem okM101 : okM (yX10_fails, cX10_fails, 3, (some .int), 2, 10, false) := ⟨⟨by decide +kernel, by decide +kernel, by decide +kernel, by decide +kernel⟩, rfl, Nat.le_of_ble_eq_true rfl, gw_in (i := 915) rfl rfl, gw_in (i := 59) (by decide +kernel) rfl, ⟨gw_in (i := 914) (by decide +kernel) rfl, gw_in (i := 22) (by decide +kernel) rfl⟩⟩
set_option maxRecDepth 100000 in
theorem okM102 : okM (yX10_takeNumber, cX10_takeNumber, 4, (some .int), 2, 10, false) := ⟨⟨by decide +kernel, by decide +kernel, by decide +kernel, by decide +kernel⟩, rfl, Nat.le_of_ble_eq_true rfl, gw_in (i := 927) rfl rfl, gw_in (i := 59) (by decide +kernel) rfl, ⟨gw_in (i := 926) (by decide +kernel) rfl, gw_in (i := 25) (by decide +kernel) rfl⟩⟩
set_option maxRecDepth 100000 in
theorem okM103 : okM (yX10_into, cX10_into, 6, (some .int), 4, 10, false) := ⟨⟨by decide +kernel, by decide +kernel, by decide +kernel, by decide +kernel⟩, rfl, Nat.le_of_ble_eq_true rfl, gw_in (i := 923) rfl rfl, gw_in (i := 59) (by decide +kernel) rfl, ⟨gw_in (i := 922) (by decide +kernel) rfl, gw_in (i := 24) (by decide +kernel) rfl⟩⟩
set_option maxRecDepth 100000 in
theorem okM104 : okM (yX10_takeContract, cX10_takeContract, 2, (some .int), 0, 10, false) := ⟨⟨by decide +kernel, by decide +kernel, by decide +kernel, by decide +kernel⟩, rfl, Nat.le_of_ble_eq_true rfl, gw_in (i := 919) rfl rfl, gw_in (i := 59) (by decide +kernel) rfl, ⟨gw_in (i := 918) (by decide +kernel) rfl, gw_in (i := 23) (by decide +kernel) rfl⟩⟩
set_option maxRecDepth 100000 in
theorem okM105 : okM (yX10_takeWatcher, cX10_takeWatcher, 3, (some .int), 0, 10, false) := ⟨⟨by decide +kernel, by decide +kernel, by decide +kernel, by decide +kernel⟩, rfl, Nat.le_of_ble_eq_true rfl, gw_in (i := 933) rfl rfl, gw_in (i := 59) (by decide +kernel) rfl, ⟨gw_in (i := 932) (by decide +kernel) rfl, gw_in (i := 26) (by decide +kernel) rfl⟩⟩
set_option maxRecDepth 100000 in
theorem okM106 : okM (yX10_takeSleeper, cX10_takeSleeper, 2, (some .int), 0, 10, false) := ⟨⟨by decide +kernel, by decide +kernel, by decide +kernel, by decide +kernel⟩, rfl, Nat.le_of_ble_eq_true rfl, gw_in (i := 937) rfl rfl, gw_in (i := 59) (by decide +kernel) rfl, ⟨gw_in (i := 936) (by decide +kernel) rfl, gw_in (i := 27) (by decide +kernel) rfl⟩⟩
set_option maxRecDepth 100000 in
theorem okM107 : okM (yX10_takeClause, cX10_takeClause, 5, (some .int), 0, 10, false) := ⟨⟨by decide +kernel, by decide +kernel, by decide +kernel, by decide +kernel⟩, rfl, Nat.le_of_ble_eq_true rfl, gw_in (i := 911) rfl rfl, gw_in (i := 59) (by decide +kernel) rfl, ⟨gw_in (i := 910) (by decide +kernel) rfl, gw_in (i := 21) (by decide +kernel) rfl⟩⟩
set_option maxRecDepth 100000 in
theorem okM108 : okM (yX10_takeRead, cX10_takeRead, 2, none, 0, 10, false) := ⟨⟨by decide +kernel, by decide +kernel, by decide +kernel, by decide +kernel⟩, rfl, Nat.le_of_ble_eq_true rfl, gw_in (i := 941) rfl rfl, gw_in (i := 59) (by decide +kernel) rfl, ⟨gw_in (i := 940) (by decide +kernel) rfl, gw_in (i := 28) (by decide +kernel) rfl⟩⟩
set_option maxRecDepth 100000 in
theorem okM109 : okM (yX10_contract, cX10_contract, 2, (some .int), 0, 10, false) := ⟨⟨by decide +kernel, by decide +kernel, by decide +kernel, by decide +kernel⟩, rfl, Nat.le_of_ble_eq_true rfl, gw_in (i := 903) rfl rfl, gw_in (i := 59) (by decide +kernel) rfl, ⟨gw_in (i := 901) (by decide +kernel) rfl, gw_in (i := 902) (by decide +kernel) rfl⟩⟩
set_option maxRecDepth 100000 in
theorem okM110 : okM (yX10_fault, cX10_fault, 1, (some .int), 0, 10, false) := ⟨⟨by decide +kernel, by decide +kernel, by decide +kernel, by decide +kernel⟩, rfl, Nat.le_of_ble_eq_true rfl, gw_in (i := 945) rfl rfl, gw_in (i := 59) (by decide +kernel) rfl, ⟨gw_in (i := 943) (by decide +kernel) rfl, gw_in (i := 944) (by decide +kernel) rfl⟩⟩
set_option maxRecDepth 100000 in
theorem okM111 : okM (yX10_told, cX10_told, 2, (some .int), 1, 10, false) := ⟨⟨by decide +kernel, by decide +kernel, by decide +kernel, by decide +kernel⟩, rfl, Nat.le_of_ble_eq_true rfl, gw_in (i := 949) rfl rfl, gw_in (i := 59) (by decide +kernel) rfl, ⟨gw_in (i := 947) (by decide +kernel) rfl, gw_in (i := 948) (by decide +kernel) rfl⟩⟩
set_option maxRecDepth 100000 in
theorem okM112 : okM (yX10_watcher, cX10_watcher, 3, (some .int), 2, 10, false) := ⟨⟨by decide +kernel, by decide +kernel, by decide +kernel, by decide +kernel⟩, rfl, Nat.le_of_ble_eq_true rfl, gw_in (i := 953) rfl rfl, gw_in (i := 59) (by decide +kernel) rfl, ⟨gw_in (i := 951) (by decide +kernel) rfl, gw_in (i := 952) (by decide +kernel) rfl⟩⟩
set_option maxRecDepth 100000 in
theorem okM113 : okM (yX10_sleeper, cX10_sleeper, 2, (some .int), 1, 10, false) := ⟨⟨by decide +kernel, by decide +kernel, by decide +kernel, by decide +kernel⟩, rfl, Nat.le_of_ble_eq_true rfl, gw_in (i := 962) rfl rfl, gw_in (i := 59) (by decide +kernel) rfl, ⟨gw_in (i := 960) (by decide +kernel) rfl, gw_in (i := 961) (by decide +kernel) rfl⟩⟩
set_option maxRecDepth 100000 in
theorem okM114 : okM (yX10_tire, cX10_tire, 6, (some .int), 2, 10, false) := ⟨⟨by decide +kernel, by decide +kernel, by decide +kernel, by decide +kernel⟩, rfl, Nat.le_of_ble_eq_true rfl, gw_in (i := 988) rfl rfl, gw_in (i := 59) (by decide +kernel) rfl, ⟨gw_in (i := 987) (by decide +kernel) rfl, gw_in (i := 34) (by decide +kernel) rfl⟩⟩
set_option maxRecDepth 100000 in
theorem okM115 : okM (yX10_sitsUp, cX10_sitsUp, 4, (some .boolean), 3, 10, true) := ⟨⟨by decide +kernel, by decide +kernel, by decide +kernel, by decide +kernel⟩, rfl, Nat.le_of_ble_eq_true rfl, gw_in (i := 1000) rfl rfl, gw_in (i := 59) (by decide +kernel) rfl, gw_in (i := 999) (by decide +kernel) rfl⟩
set_option maxRecDepth 100000 in
theorem okM116 : okM (yX10_passHour, cX10_passHour, 1, none, 0, 10, false) := ⟨⟨by decide +kernel, by decide +kernel, by decide +kernel, by decide +kernel⟩, rfl, Nat.le_of_ble_eq_true rfl, gw_in (i := 1008) rfl rfl, gw_in (i := 59) (by decide +kernel) rfl, ⟨gw_in (i := 1007) (by decide +kernel) rfl, gw_in (i := 35) (by decide +kernel) rfl⟩⟩
set_option maxRecDepth 100000 in
theorem okM117 : okM (yX10_hourBy, cX10_hourBy, 7, none, 2, 10, false) := ⟨⟨by decide +kernel, by decide +kernel, by decide +kernel, by decide +kernel⟩, rfl, Nat.le_of_ble_eq_true rfl, gw_in (i := 984) rfl rfl, gw_in (i := 59) (by decide +kernel) rfl, ⟨gw_in (i := 983) (by decide +kernel) rfl, gw_in (i := 33) (by decide +kernel) rfl⟩⟩
set_option maxRecDepth 100000 in
theorem okM118 : okM (yX10_remember, cX10_remember, 2, none, 0, 10, false) := ⟨⟨by decide +kernel, by decide +kernel, by decide +kernel, by decide +kernel⟩, rfl, Nat.le_of_ble_eq_true rfl, gw_in (i := 980) rfl rfl, gw_in (i := 59) (by decide +kernel) rfl, ⟨gw_in (i := 979) (by decide +kernel) rfl, gw_in (i := 32) (by decide +kernel) rfl⟩⟩
set_option maxRecDepth 100000 in
theorem okM119 : okM (yX10_hour, cX10_hour, 3, (some .int), 2, 10, false) := ⟨⟨by decide +kernel, by decide +kernel, by decide +kernel, by decide +kernel⟩, rfl, Nat.le_of_ble_eq_true rfl, gw_in (i := 970) rfl rfl, gw_in (i := 59) (by decide +kernel) rfl, ⟨gw_in (i := 968) (by decide +kernel) rfl, gw_in (i := 969) (by decide +kernel) rfl⟩⟩
set_option maxRecDepth 100000 in
theorem okM120 : okM (yX10_coffee, cX10_coffee, 2, (some .int), 1, 10, false) := ⟨⟨by decide +kernel, by decide +kernel, by decide +kernel, by decide +kernel⟩, rfl, Nat.le_of_ble_eq_true rfl, gw_in (i := 1012) rfl rfl, gw_in (i := 59) (by decide +kernel) rfl, ⟨gw_in (i := 1010) (by decide +kernel) rfl, gw_in (i := 1011) (by decide +kernel) rfl⟩⟩
set_option maxRecDepth 100000 in
theorem okM121 : okM (yX10_hoursRefused, cX10_hoursRefused, 2, (some .int), 1, 10, false) := ⟨⟨by decide +kernel, by decide +kernel, by decide +kernel, by decide +kernel⟩, rfl, Nat.le_of_ble_eq_true rfl, gw_in (i := 1020) rfl rfl, gw_in (i := 59) (by decide +kernel) rfl, ⟨gw_in (i := 1019) (by decide +kernel) rfl, gw_in (i := 36) (by decide +kernel) rfl⟩⟩
set_option maxRecDepth 100000 in
theorem okM122 : okM (yX10_rest, cX10_rest, 4, (some .int), 1, 10, false) := ⟨⟨by decide +kernel, by decide +kernel, by decide +kernel, by decide +kernel⟩, rfl, Nat.le_of_ble_eq_true rfl, gw_in (i := 1016) rfl rfl, gw_in (i := 59) (by decide +kernel) rfl, ⟨gw_in (i := 1014) (by decide +kernel) rfl, gw_in (i := 1015) (by decide +kernel) rfl⟩⟩
set_option maxRecDepth 100000 in
theorem okM123 : okM (yX10_draw, cX10_draw, 2, (some .int), 1, 10, false) := ⟨⟨by decide +kernel, by decide +kernel, by decide +kernel, by decide +kernel⟩, rfl, Nat.le_of_ble_eq_true rfl, gw_in (i := 1029) rfl rfl, gw_in (i := 59) (by decide +kernel) rfl, ⟨gw_in (i := 1028) (by decide +kernel) rfl, gw_in (i := 37) (by decide +kernel) rfl⟩⟩
set_option maxRecDepth 100000 in
theorem okM124 : okM (yX10_drift, cX10_drift, 5, (some .int), 1, 10, false) := ⟨⟨by decide +kernel, by decide +kernel, by decide +kernel, by decide +kernel⟩, rfl, Nat.le_of_ble_eq_true rfl, gw_in (i := 1025) rfl rfl, gw_in (i := 59) (by decide +kernel) rfl, ⟨gw_in (i := 1023) (by decide +kernel) rfl, gw_in (i := 1024) (by decide +kernel) rfl⟩⟩
set_option maxRecDepth 100000 in
theorem okM125 : okM (yX10_undo, cX10_undo, 2, (some .int), 0, 10, false) := ⟨⟨by decide +kernel, by decide +kernel, by decide +kernel, by decide +kernel⟩, rfl, Nat.le_of_ble_eq_true rfl, gw_in (i := 1037) rfl rfl, gw_in (i := 59) (by decide +kernel) rfl, ⟨gw_in (i := 1035) (by decide +kernel) rfl, gw_in (i := 1036) (by decide +kernel) rfl⟩⟩
set_option maxRecDepth 100000 in
theorem okM126 : okM (yX10_save, cX10_save, 2, none, 0, 10, false) := ⟨⟨by decide +kernel, by decide +kernel, by decide +kernel, by decide +kernel⟩, rfl, Nat.le_of_ble_eq_true rfl, gw_in (i := 1049) rfl rfl, gw_in (i := 59) (by decide +kernel) rfl, ⟨gw_in (i := 1048) (by decide +kernel) rfl, gw_in (i := 39) (by decide +kernel) rfl⟩⟩
set_option maxRecDepth 100000 in
theorem okM127 : okM (yX10_putBack, cX10_putBack, 2, none, 0, 10, false) := ⟨⟨by decide +kernel, by decide +kernel, by decide +kernel, by decide +kernel⟩, rfl, Nat.le_of_ble_eq_true rfl, gw_in (i := 1057) rfl rfl, gw_in (i := 59) (by decide +kernel) rfl, ⟨gw_in (i := 1056) (by decide +kernel) rfl, gw_in (i := 41) (by decide +kernel) rfl⟩⟩
set_option maxRecDepth 100000 in
theorem okM128 : okM (yX10_behindRow, cX10_behindRow, 4, (some .int), 0, 10, false) := ⟨⟨by decide +kernel, by decide +kernel, by decide +kernel, by decide +kernel⟩, rfl, Nat.le_of_ble_eq_true rfl, gw_in (i := 1053) rfl rfl, gw_in (i := 59) (by decide +kernel) rfl, ⟨gw_in (i := 1052) (by decide +kernel) rfl, gw_in (i := 40) (by decide +kernel) rfl⟩⟩
set_option maxRecDepth 100000 in
theorem okM129 : okM (yX10_nextRow, cX10_nextRow, 2, (some .boolean), 0, 10, false) := ⟨⟨by decide +kernel, by decide +kernel, by decide +kernel, by decide +kernel⟩, rfl, Nat.le_of_ble_eq_true rfl, gw_in (i := 1061) rfl rfl, gw_in (i := 59) (by decide +kernel) rfl, ⟨gw_in (i := 1060) (by decide +kernel) rfl, gw_in (i := 42) (by decide +kernel) rfl⟩⟩
set_option maxRecDepth 100000 in
theorem okM130 : okM (yX10_findWatches, cX10_findWatches, 4, none, 0, 10, false) := ⟨⟨by decide +kernel, by decide +kernel, by decide +kernel, by decide +kernel⟩, rfl, Nat.le_of_ble_eq_true rfl, gw_in (i := 1045) rfl rfl, gw_in (i := 59) (by decide +kernel) rfl, ⟨gw_in (i := 1044) (by decide +kernel) rfl, gw_in (i := 38) (by decide +kernel) rfl⟩⟩
set_option maxRecDepth 100000 in
theorem okM131 : okM (yX10_watches, cX10_watches, 2, (some .int), 1, 10, false) := ⟨⟨by decide +kernel, by decide +kernel, by decide +kernel, by decide +kernel⟩, rfl, Nat.le_of_ble_eq_true rfl, gw_in (i := 1041) rfl rfl, gw_in (i := 59) (by decide +kernel) rfl, ⟨gw_in (i := 1039) (by decide +kernel) rfl, gw_in (i := 1040) (by decide +kernel) rfl⟩⟩
set_option maxRecDepth 100000 in
theorem okM132 : okM (yX10_nodsOfAll, cX10_nodsOfAll, 4, (some .int), 1, 10, false) := ⟨⟨by decide +kernel, by decide +kernel, by decide +kernel, by decide +kernel⟩, rfl, Nat.le_of_ble_eq_true rfl, gw_in (i := 1070) rfl rfl, gw_in (i := 59) (by decide +kernel) rfl, ⟨gw_in (i := 1069) (by decide +kernel) rfl, gw_in (i := 43) (by decide +kernel) rfl⟩⟩
set_option maxRecDepth 100000 in
theorem okM133 : okM (yX10_bellHour, cX10_bellHour, 6, (some .int), 1, 10, false) := ⟨⟨by decide +kernel, by decide +kernel, by decide +kernel, by decide +kernel⟩, rfl, Nat.le_of_ble_eq_true rfl, gw_in (i := 1065) rfl rfl, gw_in (i := 59) (by decide +kernel) rfl, ⟨gw_in (i := 1063) (by decide +kernel) rfl, gw_in (i := 1064) (by decide +kernel) rfl⟩⟩
set_option maxRecDepth 100000 in
theorem okM134 : okM (yX10_coffeeFor, cX10_coffeeFor, 5, (some .int), 0, 10, false) := ⟨⟨by decide +kernel, by decide +kernel, by decide +kernel, by decide +kernel⟩, rfl, Nat.le_of_ble_eq_true rfl, gw_in (i := 1074) rfl rfl, gw_in (i := 59) (by decide +kernel) rfl, ⟨gw_in (i := 1072) (by decide +kernel) rfl, gw_in (i := 1073) (by decide +kernel) rfl⟩⟩
set_option maxRecDepth 100000 in
theorem okM135 : okM (yX10_nights, cX10_nights, 4, (some .int), 1, 10, false) := ⟨⟨by decide +kernel, by decide +kernel, by decide +kernel, by decide +kernel⟩, rfl, Nat.le_of_ble_eq_true rfl, gw_in (i := 1078) rfl rfl, gw_in (i := 59) (by decide +kernel) rfl, ⟨gw_in (i := 1076) (by decide +kernel) rfl, gw_in (i := 1077) (by decide +kernel) rfl⟩⟩
set_option maxRecDepth 100000 in
theorem okM136 : okM (yX10_holds, cX10_holds, 4, (some .boolean), 1, 10, false) := ⟨⟨by decide +kernel, by decide +kernel, by decide +kernel, by decide +kernel⟩, rfl, Nat.le_of_ble_eq_true rfl, gw_in (i := 1086) rfl rfl, gw_in (i := 59) (by decide +kernel) rfl, ⟨gw_in (i := 1085) (by decide +kernel) rfl, gw_in (i := 44) (by decide +kernel) rfl⟩⟩
set_option maxRecDepth 100000 in
theorem okM137 : okM (yX10_hold, cX10_hold, 4, (some .int), 0, 10, false) := ⟨⟨by decide +kernel, by decide +kernel, by decide +kernel, by decide +kernel⟩, rfl, Nat.le_of_ble_eq_true rfl, gw_in (i := 1082) rfl rfl, gw_in (i := 59) (by decide +kernel) rfl, ⟨gw_in (i := 1080) (by decide +kernel) rfl, gw_in (i := 1081) (by decide +kernel) rfl⟩⟩
set_option maxRecDepth 100000 in
theorem okM138 : okM (yX10_allHours, cX10_allHours, 3, (some .int), 0, 10, false) := ⟨⟨by decide +kernel, by decide +kernel, by decide +kernel, by decide +kernel⟩, rfl, Nat.le_of_ble_eq_true rfl, gw_in (i := 1094) rfl rfl, gw_in (i := 59) (by decide +kernel) rfl, ⟨gw_in (i := 1093) (by decide +kernel) rfl, gw_in (i := 45) (by decide +kernel) rfl⟩⟩
set_option maxRecDepth 100000 in
theorem okM139 : okM (yX10_share, cX10_share, 3, (some .int), 1, 10, false) := ⟨⟨by decide +kernel, by decide +kernel, by decide +kernel, by decide +kernel⟩, rfl, Nat.le_of_ble_eq_true rfl, gw_in (i := 1090) rfl rfl, gw_in (i := 59) (by decide +kernel) rfl, ⟨gw_in (i := 1088) (by decide +kernel) rfl, gw_in (i := 1089) (by decide +kernel) rfl⟩⟩
set_option maxRecDepth 100000 in
theorem okM140 : okM (yX10_paid, cX10_paid, 5, (some .int), 1, 10, false) := ⟨⟨by decide +kernel, by decide +kernel, by decide +kernel, by decide +kernel⟩, rfl, Nat.le_of_ble_eq_true rfl, gw_in (i := 1099) rfl rfl, gw_in (i := 59) (by decide +kernel) rfl, ⟨gw_in (i := 1097) (by decide +kernel) rfl, gw_in (i := 1098) (by decide +kernel) rfl⟩⟩
set_option maxRecDepth 100000 in
theorem okM141 : okM (yX10_blink, cX10_blink, 8, (some .int), 3, 10, false) := ⟨⟨by decide +kernel, by decide +kernel, by decide +kernel, by decide +kernel⟩, rfl, Nat.le_of_ble_eq_true rfl, gw_in (i := 1103) rfl rfl, gw_in (i := 59) (by decide +kernel) rfl, ⟨gw_in (i := 1101) (by decide +kernel) rfl, gw_in (i := 1102) (by decide +kernel) rfl⟩⟩
set_option maxRecDepth 100000 in
theorem okM142 : okM (yX10_see, cX10_see, 3, (some .int), 2, 10, false) := ⟨⟨by decide +kernel, by decide +kernel, by decide +kernel, by decide +kernel⟩, rfl, Nat.le_of_ble_eq_true rfl, gw_in (i := 1109) rfl rfl, gw_in (i := 59) (by decide +kernel) rfl, ⟨gw_in (i := 1107) (by decide +kernel) rfl, gw_in (i := 1108) (by decide +kernel) rfl⟩⟩
set_option maxRecDepth 100000 in
theorem okM143 : okM (yX10_couldNod, cX10_couldNod, 5, (some .boolean), 2, 10, false) := ⟨⟨by decide +kernel, by decide +kernel, by decide +kernel, by decide +kernel⟩, rfl, Nat.le_of_ble_eq_true rfl, gw_in (i := 1121) rfl rfl, gw_in (i := 59) (by decide +kernel) rfl, ⟨gw_in (i := 1120) (by decide +kernel) rfl, gw_in (i := 47) (by decide +kernel) rfl⟩⟩
set_option maxRecDepth 100000 in
theorem okM144 : okM (yX10_sureOf, cX10_sureOf, 5, (some .int), 1, 10, false) := ⟨⟨by decide +kernel, by decide +kernel, by decide +kernel, by decide +kernel⟩, rfl, Nat.le_of_ble_eq_true rfl, gw_in (i := 1117) rfl rfl, gw_in (i := 59) (by decide +kernel) rfl, ⟨gw_in (i := 1116) (by decide +kernel) rfl, gw_in (i := 46) (by decide +kernel) rfl⟩⟩
set_option maxRecDepth 100000 in
theorem okM145 : okM (yX10_nodded, cX10_nodded, 6, (some .int), 2, 10, false) := ⟨⟨by decide +kernel, by decide +kernel, by decide +kernel, by decide +kernel⟩, rfl, Nat.le_of_ble_eq_true rfl, gw_in (i := 1113) rfl rfl, gw_in (i := 59) (by decide +kernel) rfl, ⟨gw_in (i := 1111) (by decide +kernel) rfl, gw_in (i := 1112) (by decide +kernel) rfl⟩⟩
set_option maxRecDepth 100000 in
theorem okM146 : okM (yX10_askNext, cX10_askNext, 8, (some .int), 1, 10, false) := ⟨⟨by decide +kernel, by decide +kernel, by decide +kernel, by decide +kernel⟩, rfl, Nat.le_of_ble_eq_true rfl, gw_in (i := 1125) rfl rfl, gw_in (i := 59) (by decide +kernel) rfl, ⟨gw_in (i := 1123) (by decide +kernel) rfl, gw_in (i := 1124) (by decide +kernel) rfl⟩⟩
set_option maxRecDepth 100000 in
theorem okM147 : okM (yX10_write, cX10_write, 3, (some .int), 2, 10, false) := ⟨⟨by decide +kernel, by decide +kernel, by decide +kernel, by decide +kernel⟩, rfl, Nat.le_of_ble_eq_true rfl, gw_in (i := 1129) rfl rfl, gw_in (i := 59) (by decide +kernel) rfl, ⟨gw_in (i := 1127) (by decide +kernel) rfl, gw_in (i := 1128) (by decide +kernel) rfl⟩⟩
set_option maxRecDepth 100000 in
theorem okM148 : okM (yX10_tear, cX10_tear, 2, (some .int), 0, 10, false) := ⟨⟨by decide +kernel, by decide +kernel, by decide +kernel, by decide +kernel⟩, rfl, Nat.le_of_ble_eq_true rfl, gw_in (i := 1134) rfl rfl, gw_in (i := 59) (by decide +kernel) rfl, ⟨gw_in (i := 1132) (by decide +kernel) rfl, gw_in (i := 1133) (by decide +kernel) rfl⟩⟩
set_option maxRecDepth 100000 in
theorem okM149 : okM (yX10_judge, cX10_judge, 2, (some .int), 0, 10, false) := ⟨⟨by decide +kernel, by decide +kernel, by decide +kernel, by decide +kernel⟩, rfl, Nat.le_of_ble_eq_true rfl, gw_in (i := 1138) rfl rfl, gw_in (i := 59) (by decide +kernel) rfl, ⟨gw_in (i := 1136) (by decide +kernel) rfl, gw_in (i := 1137) (by decide +kernel) rfl⟩⟩
set_option maxRecDepth 100000 in
theorem okM150 : okM (yX10_seed, cX10_seed, 3, (some .int), 1, 10, false) := ⟨⟨by decide +kernel, by decide +kernel, by decide +kernel, by decide +kernel⟩, rfl, Nat.le_of_ble_eq_true rfl, gw_in (i := 1142) rfl rfl, gw_in (i := 59) (by decide +kernel) rfl, ⟨gw_in (i := 1140) (by decide +kernel) rfl, gw_in (i := 1141) (by decide +kernel) rfl⟩⟩
set_option maxRecDepth 100000 in
theorem okM151 : okM (yX10_keep, cX10_keep, 3, (some .int), 1, 10, false) := ⟨⟨by decide +kernel, by decide +kernel, by decide +kernel, by decide +kernel⟩, rfl, Nat.le_of_ble_eq_true rfl, gw_in (i := 1146) rfl rfl, gw_in (i := 59) (by decide +kernel) rfl, ⟨gw_in (i := 1144) (by decide +kernel) rfl, gw_in (i := 1145) (by decide +kernel) rfl⟩⟩
set_option maxRecDepth 100000 in
theorem okM152 : okM (yX10_goBack, cX10_goBack, 3, (some .int), 1, 10, false) := ⟨⟨by decide +kernel, by decide +kernel, by decide +kernel, by decide +kernel⟩, rfl, Nat.le_of_ble_eq_true rfl, gw_in (i := 1150) rfl rfl, gw_in (i := 59) (by decide +kernel) rfl, ⟨gw_in (i := 1148) (by decide +kernel) rfl, gw_in (i := 1149) (by decide +kernel) rfl⟩⟩
set_option maxRecDepth 100000 in
theorem okM153 : okM (yJ6_bitCount_0f7a4, cJ6_bitCount_0f7a4, 1, (some .int), 1, 12, true) := ⟨⟨by decide +kernel, by decide +kernel, by decide +kernel, by decide +kernel⟩, rfl, Nat.le_of_ble_eq_true rfl, gw_in (i := 534) rfl rfl, gw_in (i := 62) (by decide +kernel) rfl, gw_in (i := 533) (by decide +kernel) rfl⟩
set_option maxRecDepth 100000 in
theorem mtt_ok : ∀ q ∈ mtt, okM q := List.forall_mem_cons.mpr ⟨okM0, List.forall_mem_cons.mpr ⟨okM1, List.forall_mem_cons.mpr ⟨okM2, List.forall_mem_cons.mpr ⟨okM3, List.forall_mem_cons.mpr ⟨okM4, List.forall_mem_cons.mpr ⟨okM5, List.forall_mem_cons.mpr ⟨okM6, List.forall_mem_cons.mpr ⟨okM7, List.forall_mem_cons.mpr ⟨okM8, List.forall_mem_cons.mpr ⟨okM9, List.forall_mem_cons.mpr ⟨okM10, List.forall_mem_cons.mpr ⟨okM11, List.forall_mem_cons.mpr ⟨okM12, List.forall_mem_cons.mpr ⟨okM13, List.forall_mem_cons.mpr ⟨okM14, List.forall_mem_cons.mpr ⟨okM15, List.forall_mem_cons.mpr ⟨okM16, List.forall_mem_cons.mpr ⟨okM17, List.forall_mem_cons.mpr ⟨okM18, List.forall_mem_cons.mpr ⟨okM19, List.forall_mem_cons.mpr ⟨okM20, List.forall_mem_cons.mpr ⟨okM21, List.forall_mem_cons.mpr ⟨okM22, List.forall_mem_cons.mpr ⟨okM23, List.forall_mem_cons.mpr ⟨okM24, List.forall_mem_cons.mpr ⟨okM25, List.forall_mem_cons.mpr ⟨okM26, List.forall_mem_cons.mpr ⟨okM27, List.forall_mem_cons.mpr ⟨okM28, List.forall_mem_cons.mpr ⟨okM29, List.forall_mem_cons.mpr ⟨okM30, List.forall_mem_cons.mpr ⟨okM31, List.forall_mem_cons.mpr ⟨okM32, List.forall_mem_cons.mpr ⟨okM33, List.forall_mem_cons.mpr ⟨okM34, List.forall_mem_cons.mpr ⟨okM35, List.forall_mem_cons.mpr ⟨okM36, List.forall_mem_cons.mpr ⟨okM37, List.forall_mem_cons.mpr ⟨okM38, List.forall_mem_cons.mpr ⟨okM39, List.forall_mem_cons.mpr ⟨okM40, List.forall_mem_cons.mpr ⟨okM41, List.forall_mem_cons.mpr ⟨okM42, List.forall_mem_cons.mpr ⟨okM43, List.forall_mem_cons.mpr ⟨okM44, List.forall_mem_cons.mpr ⟨okM45, List.forall_mem_cons.mpr ⟨okM46, List.forall_mem_cons.mpr ⟨okM47, List.forall_mem_cons.mpr ⟨okM48, List.forall_mem_cons.mpr ⟨okM49, List.forall_mem_cons.mpr ⟨okM50, List.forall_mem_cons.mpr ⟨okM51, List.forall_mem_cons.mpr ⟨okM52, List.forall_mem_cons.mpr ⟨okM53, List.forall_mem_cons.mpr ⟨okM54, List.forall_mem_cons.mpr ⟨okM55, List.forall_mem_cons.mpr ⟨okM56, List.forall_mem_cons.mpr ⟨okM57, List.forall_mem_cons.mpr ⟨okM58, List.forall_mem_cons.mpr ⟨okM59, List.forall_mem_cons.mpr ⟨okM60, List.forall_mem_cons.mpr ⟨okM61, List.forall_mem_cons.mpr ⟨okM62, List.forall_mem_cons.mpr ⟨okM63, List.forall_mem_cons.mpr ⟨okM64, List.forall_mem_cons.mpr ⟨okM65, List.forall_mem_cons.mpr ⟨okM66, List.forall_mem_cons.mpr ⟨okM67, List.forall_mem_cons.mpr ⟨okM68, List.forall_mem_cons.mpr ⟨okM69, List.forall_mem_cons.mpr ⟨okM70, List.forall_mem_cons.mpr ⟨okM71, List.forall_mem_cons.mpr ⟨okM72, List.forall_mem_cons.mpr ⟨okM73, List.forall_mem_cons.mpr ⟨okM74, List.forall_mem_cons.mpr ⟨okM75, List.forall_mem_cons.mpr ⟨okM76, List.forall_mem_cons.mpr ⟨okM77, List.forall_mem_cons.mpr ⟨okM78, List.forall_mem_cons.mpr ⟨okM79, List.forall_mem_cons.mpr ⟨okM80, List.forall_mem_cons.mpr ⟨okM81, List.forall_mem_cons.mpr ⟨okM82, List.forall_mem_cons.mpr ⟨okM83, List.forall_mem_cons.mpr ⟨okM84, List.forall_mem_cons.mpr ⟨okM85, List.forall_mem_cons.mpr ⟨okM86, List.forall_mem_cons.mpr ⟨okM87, List.forall_mem_cons.mpr ⟨okM88, List.forall_mem_cons.mpr ⟨okM89, List.forall_mem_cons.mpr ⟨okM90, List.forall_mem_cons.mpr ⟨okM91, List.forall_mem_cons.mpr ⟨okM92, List.forall_mem_cons.mpr ⟨okM93, List.forall_mem_cons.mpr ⟨okM94, List.forall_mem_cons.mpr ⟨okM95, List.forall_mem_cons.mpr ⟨okM96, List.forall_mem_cons.mpr ⟨okM97, List.forall_mem_cons.mpr ⟨okM98, List.forall_mem_cons.mpr ⟨okM99, List.forall_mem_cons.mpr ⟨okM100, List.forall_mem_cons.mpr ⟨okM101, List.forall_mem_cons.mpr ⟨okM102, List.forall_mem_cons.mpr ⟨okM103, List.forall_mem_cons.mpr ⟨okM104, List.forall_mem_cons.mpr ⟨okM105, List.forall_mem_cons.mpr ⟨okM106, List.forall_mem_cons.mpr ⟨okM107, List.forall_mem_cons.mpr ⟨okM108, List.forall_mem_cons.mpr ⟨okM109, List.forall_mem_cons.mpr ⟨okM110, List.forall_mem_cons.mpr ⟨okM111, List.forall_mem_cons.mpr ⟨okM112, List.forall_mem_cons.mpr ⟨okM113, List.forall_mem_cons.mpr ⟨okM114, List.forall_mem_cons.mpr ⟨okM115, List.forall_mem_cons.mpr ⟨okM116, List.forall_mem_cons.mpr ⟨okM117, List.forall_mem_cons.mpr ⟨okM118, List.forall_mem_cons.mpr ⟨okM119, List.forall_mem_cons.mpr ⟨okM120, List.forall_mem_cons.mpr ⟨okM121, List.forall_mem_cons.mpr ⟨okM122, List.forall_mem_cons.mpr ⟨okM123, List.forall_mem_cons.mpr ⟨okM124, List.forall_mem_cons.mpr ⟨okM125, List.forall_mem_cons.mpr ⟨okM126, List.forall_mem_cons.mpr ⟨okM127, List.forall_mem_cons.mpr ⟨okM128, List.forall_mem_cons.mpr ⟨okM129, List.forall_mem_cons.mpr ⟨okM130, List.forall_mem_cons.mpr ⟨okM131, List.forall_mem_cons.mpr ⟨okM132, List.forall_mem_cons.mpr ⟨okM133, List.forall_mem_cons.mpr ⟨okM134, List.forall_mem_cons.mpr ⟨okM135, List.forall_mem_cons.mpr ⟨okM136, List.forall_mem_cons.mpr ⟨okM137, List.forall_mem_cons.mpr ⟨okM138, List.forall_mem_cons.mpr ⟨okM139, List.forall_mem_cons.mpr ⟨okM140, List.forall_mem_cons.mpr ⟨okM141, List.forall_mem_cons.mpr ⟨okM142, List.forall_mem_cons.mpr ⟨okM143, List.forall_mem_cons.mpr ⟨okM144, List.forall_mem_cons.mpr ⟨okM145, List.forall_mem_cons.mpr ⟨okM146, List.forall_mem_cons.mpr ⟨okM147, List.forall_mem_cons.mpr ⟨okM148, List.forall_mem_cons.mpr ⟨okM149, List.forall_mem_cons.mpr ⟨okM150, List.forall_mem_cons.mpr ⟨okM151, List.forall_mem_cons.mpr ⟨okM152, List.forall_mem_cons.mpr ⟨okM153, fun _ h => absurd h List.not_mem_nil⟩⟩⟩⟩⟩⟩⟩⟩⟩⟩⟩⟩⟩⟩⟩⟩⟩⟩⟩⟩⟩⟩⟩⟩⟩⟩⟩⟩⟩⟩⟩⟩⟩⟩⟩⟩⟩⟩⟩⟩⟩⟩⟩⟩⟩⟩⟩⟩⟩⟩⟩⟩⟩⟩⟩⟩⟩⟩⟩⟩⟩⟩⟩⟩⟩⟩⟩⟩⟩⟩⟩⟩⟩⟩⟩⟩⟩⟩⟩⟩⟩⟩⟩⟩⟩⟩⟩⟩⟩⟩⟩⟩⟩⟩⟩⟩⟩⟩⟩⟩⟩⟩⟩⟩⟩⟩⟩⟩⟩⟩⟩⟩⟩⟩⟩⟩⟩⟩⟩⟩⟩⟩⟩⟩⟩⟩⟩⟩⟩⟩⟩⟩⟩⟩⟩⟩⟩⟩⟩⟩⟩⟩⟩⟩⟩⟩⟩⟩⟩⟩⟩⟩⟩⟩
def okN (q : Nat × Nat × Nat) : Prop := if q.2.2 = 1000 then Cond.methodLink (cn q.1) q.2.1 Lib.Math.max.name ∈ gw else if q.2.2 = 1001 then Cond.methodLink (cn q.1) q.2.1 Lib.Math.min.name ∈ gw else if q.2.2 = 1002 then Cond.methodLink (cn q.1) q.2.1 arraycopyName ∈ gw else ∃ m : aM, mtt[q.2.2]? = some m ∧ Cond.methodLink (cn q.1) q.2.1 m.1 ∈ gw
set_option maxRecDepth 100000 in
theorem okN0 : okN (11, 13, 61) := ⟨_, rfl, gw_in (i := 352) (by decide +kernel) rfl⟩
set_option maxRecDepth 100000 in
theorem okN1 : okN (9, 73, 23) := ⟨_, rfl, gw_in (i := 357) (by decide +kernel) rfl⟩
set_option maxRecDepth 100000 in
theorem okN2 : okN (11, 18, 62) := ⟨_, rfl, gw_in (i := 362) (by decide +kernel) rfl⟩
set_option maxRecDepth 100000 in
theorem okN3 : okN (9, 82, 24) := ⟨_, rfl, gw_in (i := 366) (by decide +kernel) rfl⟩
set_option maxRecDepth 100000 in
theorem okN4 : okN (5, 29, 7) := ⟨_, rfl, gw_in (i := 370) (by decide +kernel) rfl⟩
set_option maxRecDepth 100000 in
theorem okN5 : okN (5, 38, 32) := ⟨_, rfl, gw_in (i := 374) (by decide +kernel) rfl⟩
set_option maxRecDepth 100000 in
theorem okN6 : okN (5, 44, 33) := ⟨_, rfl, gw_in (i := 378) (by decide +kernel) rfl⟩
set_option maxRecDepth 100000 in
theorem okN7 : okN (5, 41, 25) := ⟨_, rfl, gw_in (i := 382) (by decide +kernel) rfl⟩
set_option maxRecDepth 100000 in
theorem okN8 : okN (5, 48, 26) := ⟨_, rfl, gw_in (i := 386) (by decide +kernel) rfl⟩
set_option maxRecDepth 100000 in
theorem okN9 : okN (5, 65, 9) := ⟨_, rfl, gw_in (i := 390) (by decide +kernel) rfl⟩
set_option maxRecDepth 100000 in
theorem okN10 : okN (5, 52, 34) := ⟨_, rfl, gw_in (i := 394) (by decide +kernel) rfl⟩
set_option maxRecDepth 100000 in
theorem okN11 : okN (5, 56, 27) := ⟨_, rfl, gw_in (i := 398) (by decide +kernel) rfl⟩
set_option maxRecDepth 100000 in
theorem okN12 : okN (5, 75, 30) := ⟨_, rfl, gw_in (i := 402) (by decide +kernel) rfl⟩
set_option maxRecDepth 100000 in
theorem okN13 : okN (5, 105, 35) := ⟨_, rfl, gw_in (i := 406) (by decide +kernel) rfl⟩
set_option maxRecDepth 100000 in
theorem okN14 : okN (5, 91, 31) := ⟨_, rfl, gw_in (i := 409) (by decide +kernel) rfl⟩
set_option maxRecDepth 100000 in
theorem okN15 : okN (5, 59, 28) := ⟨_, rfl, gw_in (i := 413) (by decide +kernel) rfl⟩
set_option maxRecDepth 100000 in
theorem okN16 : okN (5, 94, 14) := ⟨_, rfl, gw_in (i := 417) (by decide +kernel) rfl⟩
set_option maxRecDepth 100000 in
theorem okN17 : okN (5, 62, 29) := ⟨_, rfl, gw_in (i := 421) (by decide +kernel) rfl⟩
set_option maxRecDepth 100000 in
theorem okN18 : okN (5, 98, 12) := ⟨_, rfl, gw_in (i := 425) (by decide +kernel) rfl⟩
set_option maxRecDepth 100000 in
theorem okN19 : okN (5, 101, 15) := ⟨_, rfl, gw_in (i := 429) (by decide +kernel) rfl⟩
set_option maxRecDepth 100000 in
theorem okN20 : okN (9, 89, 8) := ⟨_, rfl, gw_in (i := 433) (by decide +kernel) rfl⟩
set_option maxRecDepth 100000 in
theorem okN21 : okN (9, 93, 44) := ⟨_, rfl, gw_in (i := 440) (by decide +kernel) rfl⟩
set_option maxRecDepth 100000 in
theorem okN22 : okN (9, 96, 20) := ⟨_, rfl, gw_in (i := 444) (by decide +kernel) rfl⟩
set_option maxRecDepth 100000 in
theorem okN23 : okN (9, 99, 0) := ⟨_, rfl, gw_in (i := 448) (by decide +kernel) rfl⟩
set_option maxRecDepth 100000 in
theorem okN24 : okN (9, 100, 36) := ⟨_, rfl, gw_in (i := 452) (by decide +kernel) rfl⟩
set_option maxRecDepth 100000 in
theorem okN25 : okN (9, 101, 4) := ⟨_, rfl, gw_in (i := 456) (by decide +kernel) rfl⟩
set_option maxRecDepth 100000 in
theorem okN26 : okN (11, 23, 63) := ⟨_, rfl, gw_in (i := 460) (by decide +kernel) rfl⟩
set_option maxRecDepth 100000 in
theorem okN27 : okN (11, 27, 64) := ⟨_, rfl, gw_in (i := 464) (by decide +kernel) rfl⟩
set_option maxRecDepth 100000 in
theorem okN28 : okN (11, 31, 65) := ⟨_, rfl, gw_in (i := 468) (by decide +kernel) rfl⟩
set_option maxRecDepth 100000 in
theorem okN29 : okN (9, 147, 10) := ⟨_, rfl, gw_in (i := 472) (by decide +kernel) rfl⟩
set_option maxRecDepth 100000 in
theorem okN30 : okN (11, 36, 66) := ⟨_, rfl, gw_in (i := 477) (by decide +kernel) rfl⟩
set_option maxRecDepth 100000 in
theorem okN31 : okN (9, 167, 11) := ⟨_, rfl, gw_in (i := 481) (by decide +kernel) rfl⟩
set_option maxRecDepth 100000 in
theorem okN32 : okN (11, 40, 67) := ⟨_, rfl, gw_in (i := 485) (by decide +kernel) rfl⟩
set_option maxRecDepth 100000 in
theorem okN33 : okN (9, 173, 13) := ⟨_, rfl, gw_in (i := 489) (by decide +kernel) rfl⟩
set_option maxRecDepth 100000 in
theorem okN34 : okN (2, 52, 12) := ⟨_, rfl, gw_in (i := 493) (by decide +kernel) rfl⟩
set_option maxRecDepth 100000 in
theorem okN35 : okN (9, 176, 9) := ⟨_, rfl, gw_in (i := 494) (by decide +kernel) rfl⟩
set_option maxRecDepth 100000 in
theorem okN36 : okN (9, 182, 21) := ⟨_, rfl, gw_in (i := 497) (by decide +kernel) rfl⟩
set_option maxRecDepth 100000 in
theorem okN37 : okN (4, 25, 45) := ⟨_, rfl, gw_in (i := 501) (by decide +kernel) rfl⟩
set_option maxRecDepth 100000 in
theorem okN38 : okN (9, 186, 46) := ⟨_, rfl, gw_in (i := 509) (by decide +kernel) rfl⟩
set_option maxRecDepth 100000 in
theorem okN39 : okN (7, 51, 16) := ⟨_, rfl, gw_in (i := 513) (by decide +kernel) rfl⟩
set_option maxRecDepth 100000 in
theorem okN40 : okN (7, 55, 18) := ⟨_, rfl, gw_in (i := 521) (by decide +kernel) rfl⟩
set_option maxRecDepth 100000 in
theorem okN41 : okN (2, 69, 17) := ⟨_, rfl, gw_in (i := 525) (by decide +kernel) rfl⟩
set_option maxRecDepth 100000 in
theorem okN42 : okN (2, 65, 11) := ⟨_, rfl, gw_in (i := 529) (by decide +kernel) rfl⟩
set_option maxRecDepth 100000 in
theorem okN43 : okN (7, 69, 153) := ⟨_, rfl, gw_in (i := 532) (by decide +kernel) rfl⟩
set_option maxRecDepth 100000 in
theorem okN44 : okN (7, 75, 48) := ⟨_, rfl, gw_in (i := 538) (by decide +kernel) rfl⟩
set_option maxRecDepth 100000 in
theorem okN45 : okN (11, 45, 68) := ⟨_, rfl, gw_in (i := 542) (by decide +kernel) rfl⟩
set_option maxRecDepth 100000 in
theorem okN46 : okN (9, 190, 90) := ⟨_, rfl, gw_in (i := 546) (by decide +kernel) rfl⟩
set_option maxRecDepth 100000 in
theorem okN47 : okN (11, 49, 69) := ⟨_, rfl, gw_in (i := 550) (by decide +kernel) rfl⟩
set_option maxRecDepth 100000 in
theorem okN48 : okN (9, 194, 89) := ⟨_, rfl, gw_in (i := 554) (by decide +kernel) rfl⟩
set_option maxRecDepth 100000 in
theorem okN49 : okN (9, 197, 47) := ⟨_, rfl, gw_in (i := 558) (by decide +kernel) rfl⟩
set_option maxRecDepth 100000 in
theorem okN50 : okN (11, 53, 70) := ⟨_, rfl, gw_in (i := 562) (by decide +kernel) rfl⟩
set_option maxRecDepth 100000 in
theorem okN51 : okN (9, 200, 19) := ⟨_, rfl, gw_in (i := 566) (by decide +kernel) rfl⟩
set_option maxRecDepth 100000 in
theorem okN52 : okN (11, 57, 71) := ⟨_, rfl, gw_in (i := 574) (by decide +kernel) rfl⟩
set_option maxRecDepth 100000 in
theorem okN53 : okN (9, 203, 22) := ⟨_, rfl, gw_in (i := 578) (by decide +kernel) rfl⟩
set_option maxRecDepth 100000 in
theorem okN54 : okN (11, 61, 72) := ⟨_, rfl, gw_in (i := 582) (by decide +kernel) rfl⟩
set_option maxRecDepth 100000 in
theorem okN55 : okN (9, 207, 51) := ⟨_, rfl, gw_in (i := 586) (by decide +kernel) rfl⟩
set_option maxRecDepth 100000 in
theorem okN56 : okN (8, 37, 50) := ⟨_, rfl, gw_in (i := 590) (by decide +kernel) rfl⟩
set_option maxRecDepth 100000 in
theorem okN57 : okN (8, 45, 52) := ⟨_, rfl, gw_in (i := 595) (by decide +kernel) rfl⟩
set_option maxRecDepth 100000 in
theorem okN58 : okN (8, 54, 16) := ⟨_, rfl, gw_in (i := 599) (by decide +kernel) rfl⟩
set_option maxRecDepth 100000 in
theorem okN59 : okN (8, 61, 53) := ⟨_, rfl, gw_in (i := 600) (by decide +kernel) rfl⟩
set_option maxRecDepth 100000 in
theorem okN60 : okN (8, 65, 54) := ⟨_, rfl, gw_in (i := 605) (by decide +kernel) rfl⟩
set_option maxRecDepth 100000 in
theorem okN61 : okN (11, 65, 73) := ⟨_, rfl, gw_in (i := 609) (by decide +kernel) rfl⟩
set_option maxRecDepth 100000 in
theorem okN62 : okN (9, 217, 55) := ⟨_, rfl, gw_in (i := 613) (by decide +kernel) rfl⟩
set_option maxRecDepth 100000 in
theorem okN63 : okN (8, 78, 57) := ⟨_, rfl, gw_in (i := 617) (by decide +kernel) rfl⟩
set_option maxRecDepth 100000 in
theorem okN64 : okN (8, 86, 12) := ⟨_, rfl, gw_in (i := 621) (by decide +kernel) rfl⟩
set_option maxRecDepth 100000 in
theorem okN65 : okN (8, 90, 153) := ⟨_, rfl, gw_in (i := 622) (by decide +kernel) rfl⟩
set_option maxRecDepth 100000 in
theorem okN66 : okN (11, 69, 74) := ⟨_, rfl, gw_in (i := 623) (by decide +kernel) rfl⟩
set_option maxRecDepth 100000 in
theorem okN67 : okN (9, 221, 56) := ⟨_, rfl, gw_in (i := 627) (by decide +kernel) rfl⟩
set_option maxRecDepth 100000 in
theorem okN68 : okN (11, 73, 75) := ⟨_, rfl, gw_in (i := 632) (by decide +kernel) rfl⟩
set_option maxRecDepth 100000 in
theorem okN69 : okN (9, 224, 58) := ⟨_, rfl, gw_in (i := 636) (by decide +kernel) rfl⟩
set_option maxRecDepth 100000 in
theorem okN70 : okN (8, 95, 10) := ⟨_, rfl, gw_in (i := 640) (by decide +kernel) rfl⟩
set_option maxRecDepth 100000 in
theorem okN71 : okN (11, 77, 76) := ⟨_, rfl, gw_in (i := 642) (by decide +kernel) rfl⟩
set_option maxRecDepth 100000 in
theorem okN72 : okN (9, 227, 59) := ⟨_, rfl, gw_in (i := 646) (by decide +kernel) rfl⟩
set_option maxRecDepth 100000 in
theorem okN73 : okN (8, 108, 60) := ⟨_, rfl, gw_in (i := 650) (by decide +kernel) rfl⟩
set_option maxRecDepth 100000 in
theorem okN74 : okN (11, 81, 77) := ⟨_, rfl, gw_in (i := 654) (by decide +kernel) rfl⟩
set_option maxRecDepth 100000 in
theorem okN75 : okN (9, 231, 49) := ⟨_, rfl, gw_in (i := 658) (by decide +kernel) rfl⟩
set_option maxRecDepth 100000 in
theorem okN76 : okN (11, 85, 78) := ⟨_, rfl, gw_in (i := 662) (by decide +kernel) rfl⟩
set_option maxRecDepth 100000 in
theorem okN77 : okN (11, 89, 79) := ⟨_, rfl, gw_in (i := 666) (by decide +kernel) rfl⟩
set_option maxRecDepth 100000 in
theorem okN78 : okN (11, 94, 80) := ⟨_, rfl, gw_in (i := 673) (by decide +kernel) rfl⟩
set_option maxRecDepth 100000 in
theorem okN79 : okN (9, 247, 37) := ⟨_, rfl, gw_in (i := 677) (by decide +kernel) rfl⟩
set_option maxRecDepth 100000 in
theorem okN80 : okN (11, 98, 81) := ⟨_, rfl, gw_in (i := 681) (by decide +kernel) rfl⟩
set_option maxRecDepth 100000 in
theorem okN81 : okN (9, 250, 39) := ⟨_, rfl, gw_in (i := 685) (by decide +kernel) rfl⟩
set_option maxRecDepth 100000 in
theorem okN82 : okN (6, 29, 38) := ⟨_, rfl, gw_in (i := 689) (by decide +kernel) rfl⟩
set_option maxRecDepth 100000 in
theorem okN83 : okN (6, 23, 17) := ⟨_, rfl, gw_in (i := 693) (by decide +kernel) rfl⟩
set_option maxRecDepth 100000 in
theorem okN84 : okN (9, 254, 40) := ⟨_, rfl, gw_in (i := 694) (by decide +kernel) rfl⟩
set_option maxRecDepth 100000 in
theorem okN85 : okN (6, 33, 39) := ⟨_, rfl, gw_in (i := 698) (by decide +kernel) rfl⟩
set_option maxRecDepth 100000 in
theorem okN86 : okN (9, 257, 41) := ⟨_, rfl, gw_in (i := 699) (by decide +kernel) rfl⟩
set_option maxRecDepth 100000 in
theorem okN87 : okN (6, 37, 153) := ⟨_, rfl, gw_in (i := 703) (by decide +kernel) rfl⟩
set_option maxRecDepth 100000 in
theorem okN88 : okN (11, 102, 82) := ⟨_, rfl, gw_in (i := 704) (by decide +kernel) rfl⟩
set_option maxRecDepth 100000 in
theorem okN89 : okN (9, 261, 42) := ⟨_, rfl, gw_in (i := 708) (by decide +kernel) rfl⟩
set_option maxRecDepth 100000 in
theorem okN90 : okN (6, 45, 43) := ⟨_, rfl, gw_in (i := 712) (by decide +kernel) rfl⟩
set_option maxRecDepth 100000 in
theorem okN91 : okN (11, 106, 83) := ⟨_, rfl, gw_in (i := 717) (by decide +kernel) rfl⟩
set_option maxRecDepth 100000 in
theorem okN92 : okN (9, 264, 5) := ⟨_, rfl, gw_in (i := 721) (by decide +kernel) rfl⟩
set_option maxRecDepth 100000 in
theorem okN93 : okN (11, 110, 84) := ⟨_, rfl, gw_in (i := 725) (by decide +kernel) rfl⟩
set_option maxRecDepth 100000 in
theorem okN94 : okN (11, 114, 85) := ⟨_, rfl, gw_in (i := 729) (by decide +kernel) rfl⟩
set_option maxRecDepth 100000 in
theorem okN95 : okN (9, 267, 6) := ⟨_, rfl, gw_in (i := 733) (by decide +kernel) rfl⟩
set_option maxRecDepth 100000 in
theorem okN96 : okN (11, 118, 86) := ⟨_, rfl, gw_in (i := 737) (by decide +kernel) rfl⟩
set_option maxRecDepth 100000 in
theorem okN97 : okN (11, 122, 87) := ⟨_, rfl, gw_in (i := 741) (by decide +kernel) rfl⟩
set_option maxRecDepth 100000 in
theorem okN98 : okN (9, 274, 1) := ⟨_, rfl, gw_in (i := 745) (by decide +kernel) rfl⟩
set_option maxRecDepth 100000 in
theorem okN99 : okN (9, 277, 2) := ⟨_, rfl, gw_in (i := 749) (by decide +kernel) rfl⟩
set_option maxRecDepth 100000 in
theorem okN100 : okN (0, 26, 1) := ⟨_, rfl, gw_in (i := 753) (by decide +kernel) rfl⟩
set_option maxRecDepth 100000 in
theorem okN101 : okN (0, 30, 45) := ⟨_, rfl, gw_in (i := 754) (by decide +kernel) rfl⟩
set_option maxRecDepth 100000 in
theorem okN102 : okN (11, 126, 88) := ⟨_, rfl, gw_in (i := 755) (by decide +kernel) rfl⟩
set_option maxRecDepth 100000 in
theorem okN103 : okN (9, 281, 3) := ⟨_, rfl, gw_in (i := 759) (by decide +kernel) rfl⟩
set_option maxRecDepth 100000 in
theorem okN104 : okN (11, 17, 99) := ⟨_, rfl, gw_in (i := 890) (by decide +kernel) rfl⟩
set_option maxRecDepth 100000 in
theorem okN105 : okN (10, 87, 91) := ⟨_, rfl, gw_in (i := 895) (by decide +kernel) rfl⟩
set_option maxRecDepth 100000 in
theorem okN106 : okN (11, 22, 109) := ⟨_, rfl, gw_in (i := 900) (by decide +kernel) rfl⟩
set_option maxRecDepth 100000 in
theorem okN107 : okN (10, 104, 100) := ⟨_, rfl, gw_in (i := 904) (by decide +kernel) rfl⟩
set_option maxRecDepth 100000 in
theorem okN108 : okN (10, 153, 107) := ⟨_, rfl, gw_in (i := 908) (by decide +kernel) rfl⟩
set_option maxRecDepth 100000 in
theorem okN109 : okN (10, 112, 101) := ⟨_, rfl, gw_in (i := 912) (by decide +kernel) rfl⟩
set_option maxRecDepth 100000 in
theorem okN110 : okN (10, 135, 104) := ⟨_, rfl, gw_in (i := 916) (by decide +kernel) rfl⟩
set_option maxRecDepth 100000 in
theorem okN111 : okN (10, 125, 103) := ⟨_, rfl, gw_in (i := 920) (by decide +kernel) rfl⟩
set_option maxRecDepth 100000 in
theorem okN112 : okN (10, 122, 102) := ⟨_, rfl, gw_in (i := 924) (by decide +kernel) rfl⟩
set_option maxRecDepth 100000 in
theorem okN113 : okN (10, 138, 105) := ⟨_, rfl, gw_in (i := 930) (by decide +kernel) rfl⟩
set_option maxRecDepth 100000 in
theorem okN114 : okN (10, 141, 106) := ⟨_, rfl, gw_in (i := 934) (by decide +kernel) rfl⟩
set_option maxRecDepth 100000 in
theorem okN115 : okN (10, 156, 108) := ⟨_, rfl, gw_in (i := 938) (by decide +kernel) rfl⟩
set_option maxRecDepth 100000 in
theorem okN116 : okN (11, 26, 110) := ⟨_, rfl, gw_in (i := 942) (by decide +kernel) rfl⟩
set_option maxRecDepth 100000 in
theorem okN117 : okN (11, 30, 111) := ⟨_, rfl, gw_in (i := 946) (by decide +kernel) rfl⟩
set_option maxRecDepth 100000 in
theorem okN118 : okN (11, 35, 112) := ⟨_, rfl, gw_in (i := 950) (by decide +kernel) rfl⟩
set_option maxRecDepth 100000 in
theorem okN119 : okN (10, 168, 96) := ⟨_, rfl, gw_in (i := 954) (by decide +kernel) rfl⟩
set_option maxRecDepth 100000 in
theorem okN120 : okN (11, 39, 113) := ⟨_, rfl, gw_in (i := 959) (by decide +kernel) rfl⟩
set_option maxRecDepth 100000 in
theorem okN121 : okN (10, 173, 97) := ⟨_, rfl, gw_in (i := 963) (by decide +kernel) rfl⟩
set_option maxRecDepth 100000 in
theorem okN122 : okN (11, 44, 119) := ⟨_, rfl, gw_in (i := 967) (by decide +kernel) rfl⟩
set_option maxRecDepth 100000 in
theorem okN123 : okN (10, 202, 98) := ⟨_, rfl, gw_in (i := 971) (by decide +kernel) rfl⟩
set_option maxRecDepth 100000 in
theorem okN124 : okN (10, 207, 118) := ⟨_, rfl, gw_in (i := 977) (by decide +kernel) rfl⟩
set_option maxRecDepth 100000 in
theorem okN125 : okN (10, 210, 117) := ⟨_, rfl, gw_in (i := 981) (by decide +kernel) rfl⟩
set_option maxRecDepth 100000 in
theorem okN126 : okN (10, 186, 114) := ⟨_, rfl, gw_in (i := 985) (by decide +kernel) rfl⟩
set_option maxRecDepth 100000 in
theorem okN127 : okN (10, 176, 92) := ⟨_, rfl, gw_in (i := 989) (by decide +kernel) rfl⟩
set_option maxRecDepth 100000 in
theorem okN128 : okN (10, 180, 95) := ⟨_, rfl, gw_in (i := 992) (by decide +kernel) rfl⟩
set_option maxRecDepth 100000 in
theorem okN129 : okN (10, 183, 94) := ⟨_, rfl, gw_in (i := 995) (by decide +kernel) rfl⟩
set_option maxRecDepth 100000 in
theorem okN130 : okN (10, 190, 115) := ⟨_, rfl, gw_in (i := 998) (by decide +kernel) rfl⟩
set_option maxRecDepth 100000 in
theorem okN131 : okN (10, 195, 93) := ⟨_, rfl, gw_in (i := 1002) (by decide +kernel) rfl⟩
set_option maxRecDepth 100000 in
theorem okN132 : okN (10, 199, 116) := ⟨_, rfl, gw_in (i := 1005) (by decide +kernel) rfl⟩
set_option maxRecDepth 100000 in
theorem okN133 : okN (11, 48, 120) := ⟨_, rfl, gw_in (i := 1009) (by decide +kernel) rfl⟩
set_option maxRecDepth 100000 in
theorem okN134 : okN (11, 52, 122) := ⟨_, rfl, gw_in (i := 1013) (by decide +kernel) rfl⟩
set_option maxRecDepth 100000 in
theorem okN135 : okN (10, 216, 121) := ⟨_, rfl, gw_in (i := 1017) (by decide +kernel) rfl⟩
set_option maxRecDepth 100000 in
theorem okN136 : okN (11, 56, 124) := ⟨_, rfl, gw_in (i := 1022) (by decide +kernel) rfl⟩
set_option maxRecDepth 100000 in
theorem okN137 : okN (10, 229, 123) := ⟨_, rfl, gw_in (i := 1026) (by decide +kernel) rfl⟩
set_option maxRecDepth 100000 in
theorem okN138 : okN (11, 60, 125) := ⟨_, rfl, gw_in (i := 1034) (by decide +kernel) rfl⟩
set_option maxRecDepth 100000 in
theorem okN139 : okN (11, 64, 131) := ⟨_, rfl, gw_in (i := 1038) (by decide +kernel) rfl⟩
set_option maxRecDepth 100000 in
theorem okN140 : okN (10, 248, 130) := ⟨_, rfl, gw_in (i := 1042) (by decide +kernel) rfl⟩
set_option maxRecDepth 100000 in
theorem okN141 : okN (10, 235, 126) := ⟨_, rfl, gw_in (i := 1046) (by decide +kernel) rfl⟩
set_option maxRecDepth 100000 in
theorem okN142 : okN (10, 241, 128) := ⟨_, rfl, gw_in (i := 1050) (by decide +kernel) rfl⟩
set_option maxRecDepth 100000 in
theorem okN143 : okN (10, 232, 127) := ⟨_, rfl, gw_in (i := 1054) (by decide +kernel) rfl⟩
set_option maxRecDepth 100000 in
theorem okN144 : okN (10, 244, 129) := ⟨_, rfl, gw_in (i := 1058) (by decide +kernel) rfl⟩
set_option maxRecDepth 100000 in
theorem okN145 : okN (11, 68, 133) := ⟨_, rfl, gw_in (i := 1062) (by decide +kernel) rfl⟩
set_option maxRecDepth 100000 in
theorem okN146 : okN (10, 252, 132) := ⟨_, rfl, gw_in (i := 1067) (by decide +kernel) rfl⟩
set_option maxRecDepth 100000 in
theorem okN147 : okN (11, 72, 134) := ⟨_, rfl, gw_in (i := 1071) (by decide +kernel) rfl⟩
set_option maxRecDepth 100000 in
theorem okN148 : okN (11, 76, 135) := ⟨_, rfl, gw_in (i := 1075) (by decide +kernel) rfl⟩
set_option maxRecDepth 100000 in
theorem okN149 : okN (11, 80, 137) := ⟨_, rfl, gw_in (i := 1079) (by decide +kernel) rfl⟩
set_option maxRecDepth 100000 in
theorem okN150 : okN (10, 255, 136) := ⟨_, rfl, gw_in (i := 1083) (by decide +kernel) rfl⟩
set_option maxRecDepth 100000 in
theorem okN151 : okN (11, 84, 139) := ⟨_, rfl, gw_in (i := 1087) (by decide +kernel) rfl⟩
set_option maxRecDepth 100000 in
theorem okN152 : okN (10, 258, 138) := ⟨_, rfl, gw_in (i := 1091) (by decide +kernel) rfl⟩
set_option maxRecDepth 100000 in
theorem okN153 : okN (11, 88, 140) := ⟨_, rfl, gw_in (i := 1096) (by decide +kernel) rfl⟩
set_option maxRecDepth 100000 in
theorem okN154 : okN (11, 93, 141) := ⟨_, rfl, gw_in (i := 1100) (by decide +kernel) rfl⟩
set_option maxRecDepth 100000 in
theorem okN155 : okN (11, 97, 142) := ⟨_, rfl, gw_in (i := 1106) (by decide +kernel) rfl⟩
set_option maxRecDepth 100000 in
theorem okN156 : okN (11, 101, 145) := ⟨_, rfl, gw_in (i := 1110) (by decide +kernel) rfl⟩
set_option maxRecDepth 100000 in
theorem okN157 : okN (10, 270, 144) := ⟨_, rfl, gw_in (i := 1114) (by decide +kernel) rfl⟩
set_option maxRecDepth 100000 in
theorem okN158 : okN (10, 267, 143) := ⟨_, rfl, gw_in (i := 1118) (by decide +kernel) rfl⟩
set_option maxRecDepth 100000 in
theorem okN159 : okN (11, 105, 146) := ⟨_, rfl, gw_in (i := 1122) (by decide +kernel) rfl⟩
set_option maxRecDepth 100000 in
theorem okN160 : okN (11, 109, 147) := ⟨_, rfl, gw_in (i := 1126) (by decide +kernel) rfl⟩
set_option maxRecDepth 100000 in
theorem okN161 : okN (11, 113, 148) := ⟨_, rfl, gw_in (i := 1131) (by decide +kernel) rfl⟩
set_option maxRecDepth 100000 in
theorem okN162 : okN (11, 117, 149) := ⟨_, rfl, gw_in (i := 1135) (by decide +kernel) rfl⟩
set_option maxRecDepth 100000 in
theorem okN163 : okN (11, 121, 150) := ⟨_, rfl, gw_in (i := 1139) (by decide +kernel) rfl⟩
set_option maxRecDepth 100000 in
theorem okN164 : okN (11, 125, 151) := ⟨_, rfl, gw_in (i := 1143) (by decide +kernel) rfl⟩
set_option maxRecDepth 100000 in
theorem okN165 : okN (11, 129, 152) := ⟨_, rfl, gw_in (i := 1147) (by decide +kernel) rfl⟩
theorem okN166 : okN (2, 46, 1002) := gw_in (i := 437) (by decide +kernel) rfl
theorem okN167 : okN (7, 45, 1002) := gw_in (i := 505) (by decide +kernel) rfl
theorem okN168 : okN (4, 29, 1001) := gw_in (i := 506) (by decide +kernel) rfl
theorem okN169 : okN (2, 56, 1000) := gw_in (i := 517) (by decide +kernel) rfl
theorem okN170 : okN (2, 62, 1001) := gw_in (i := 520) (by decide +kernel) rfl
theorem okN171 : okN (7, 61, 1001) := gw_in (i := 531) (by decide +kernel) rfl
theorem okN172 : okN (9, 235, 1000) := gw_in (i := 549) (by decide +kernel) rfl
theorem okN173 : okN (8, 31, 1002) := gw_in (i := 594) (by decide +kernel) rfl
theorem okN174 : okN (8, 72, 1000) := gw_in (i := 604) (by decide +kernel) rfl
theorem okN175 : okN (8, 102, 1001) := gw_in (i := 641) (by decide +kernel) rfl
theorem okN176 : okN (9, 240, 1001) := gw_in (i := 670) (by decide +kernel) rfl
theorem okN177 : okN (6, 49, 1000) := gw_in (i := 716) (by decide +kernel) rfl
set_option maxRecDepth 100000 in
theorem mlt_ok : ∀ q ∈ mlt, okN q := List.forall_mem_cons.mpr ⟨okN0, List.forall_mem_cons.mpr ⟨okN1, List.forall_mem_cons.mpr ⟨okN2, List.forall_mem_cons.mpr ⟨okN3, List.forall_mem_cons.mpr ⟨okN4, List.forall_mem_cons.mpr ⟨okN5, List.forall_mem_cons.mpr ⟨okN6, List.forall_mem_cons.mpr ⟨okN7, List.forall_mem_cons.mpr ⟨okN8, List.forall_mem_cons.mpr ⟨okN9, List.forall_mem_cons.mpr ⟨okN10, List.forall_mem_cons.mpr ⟨okN11, List.forall_mem_cons.mpr ⟨okN12, List.forall_mem_cons.mpr ⟨okN13, List.forall_mem_cons.mpr ⟨okN14, List.forall_mem_cons.mpr ⟨okN15, List.forall_mem_cons.mpr ⟨okN16, List.forall_mem_cons.mpr ⟨okN17, List.forall_mem_cons.mpr ⟨okN18, List.forall_mem_cons.mpr ⟨okN19, List.forall_mem_cons.mpr ⟨okN20, List.forall_mem_cons.mpr ⟨okN21, List.forall_mem_cons.mpr ⟨okN22, List.forall_mem_cons.mpr ⟨okN23, List.forall_mem_cons.mpr ⟨okN24, List.forall_mem_cons.mpr ⟨okN25, List.forall_mem_cons.mpr ⟨okN26, List.forall_mem_cons.mpr ⟨okN27, List.forall_mem_cons.mpr ⟨okN28, List.forall_mem_cons.mpr ⟨okN29, List.forall_mem_cons.mpr ⟨okN30, List.forall_mem_cons.mpr ⟨okN31, List.forall_mem_cons.mpr ⟨okN32, List.forall_mem_cons.mpr ⟨okN33, List.forall_mem_cons.mpr ⟨okN34, List.forall_mem_cons.mpr ⟨okN35, List.forall_mem_cons.mpr ⟨okN36, List.forall_mem_cons.mpr ⟨okN37, List.forall_mem_cons.mpr ⟨okN38, List.forall_mem_cons.mpr ⟨okN39, List.forall_mem_cons.mpr ⟨okN40, List.forall_mem_cons.mpr ⟨okN41, List.forall_mem_cons.mpr ⟨okN42, List.forall_mem_cons.mpr ⟨okN43, List.forall_mem_cons.mpr ⟨okN44, List.forall_mem_cons.mpr ⟨okN45, List.forall_mem_cons.mpr ⟨okN46, List.forall_mem_cons.mpr ⟨okN47, List.forall_mem_cons.mpr ⟨okN48, List.forall_mem_cons.mpr ⟨okN49, List.forall_mem_cons.mpr ⟨okN50, List.forall_mem_cons.mpr ⟨okN51, List.forall_mem_cons.mpr ⟨okN52, List.forall_mem_cons.mpr ⟨okN53, List.forall_mem_cons.mpr ⟨okN54, List.forall_mem_cons.mpr ⟨okN55, List.forall_mem_cons.mpr ⟨okN56, List.forall_mem_cons.mpr ⟨okN57, List.forall_mem_cons.mpr ⟨okN58, List.forall_mem_cons.mpr ⟨okN59, List.forall_mem_cons.mpr ⟨okN60, List.forall_mem_cons.mpr ⟨okN61, List.forall_mem_cons.mpr ⟨okN62, List.forall_mem_cons.mpr ⟨okN63, List.forall_mem_cons.mpr ⟨okN64, List.forall_mem_cons.mpr ⟨okN65, List.forall_mem_cons.mpr ⟨okN66, List.forall_mem_cons.mpr ⟨okN67, List.forall_mem_cons.mpr ⟨okN68, List.forall_mem_cons.mpr ⟨okN69, List.forall_mem_cons.mpr ⟨okN70, List.forall_mem_cons.mpr ⟨okN71, List.forall_mem_cons.mpr ⟨okN72, List.forall_mem_cons.mpr ⟨okN73, List.forall_mem_cons.mpr ⟨okN74, List.forall_mem_cons.mpr ⟨okN75, List.forall_mem_cons.mpr ⟨okN76, List.forall_mem_cons.mpr ⟨okN77, List.forall_mem_cons.mpr ⟨okN78, List.forall_mem_cons.mpr ⟨okN79, List.forall_mem_cons.mpr ⟨okN80, List.forall_mem_cons.mpr ⟨okN81, List.forall_mem_cons.mpr ⟨okN82, List.forall_mem_cons.mpr ⟨okN83, List.forall_mem_cons.mpr ⟨okN84, List.forall_mem_cons.mpr ⟨okN85, List.forall_mem_cons.mpr ⟨okN86, List.forall_mem_cons.mpr ⟨okN87, List.forall_mem_cons.mpr ⟨okN88, List.forall_mem_cons.mpr ⟨okN89, List.forall_mem_cons.mpr ⟨okN90, List.forall_mem_cons.mpr ⟨okN91, List.forall_mem_cons.mpr ⟨okN92, List.forall_mem_cons.mpr ⟨okN93, List.forall_mem_cons.mpr ⟨okN94, List.forall_mem_cons.mpr ⟨okN95, List.forall_mem_cons.mpr ⟨okN96, List.forall_mem_cons.mpr ⟨okN97, List.forall_mem_cons.mpr ⟨okN98, List.forall_mem_cons.mpr ⟨okN99, List.forall_mem_cons.mpr ⟨okN100, List.forall_mem_cons.mpr ⟨okN101, List.forall_mem_cons.mpr ⟨okN102, List.forall_mem_cons.mpr ⟨okN103, List.forall_mem_cons.mpr ⟨okN104, List.forall_mem_cons.mpr ⟨okN105, List.forall_mem_cons.mpr ⟨okN106, List.forall_mem_cons.mpr ⟨okN107, List.forall_mem_cons.mpr ⟨okN108, List.forall_mem_cons.mpr ⟨okN109, List.forall_mem_cons.mpr ⟨okN110, List.forall_mem_cons.mpr ⟨okN111, List.forall_mem_cons.mpr ⟨okN112, List.forall_mem_cons.mpr ⟨okN113, List.forall_mem_cons.mpr ⟨okN114, List.forall_mem_cons.mpr ⟨okN115, List.forall_mem_cons.mpr ⟨okN116, List.forall_mem_cons.mpr ⟨okN117, List.forall_mem_cons.mpr ⟨okN118, List.forall_mem_cons.mpr ⟨okN119, List.forall_mem_cons.mpr ⟨okN120, List.forall_mem_cons.mpr ⟨okN121, List.forall_mem_cons.mpr ⟨okN122, List.forall_mem_cons.mpr ⟨okN123, List.forall_mem_cons.mpr ⟨okN124, List.forall_mem_cons.mpr ⟨okN125, List.forall_mem_cons.mpr ⟨okN126, List.forall_mem_cons.mpr ⟨okN127, List.forall_mem_cons.mpr ⟨okN128, List.forall_mem_cons.mpr ⟨okN129, List.forall_mem_cons.mpr ⟨okN130, List.forall_mem_cons.mpr ⟨okN131, List.forall_mem_cons.mpr ⟨okN132, List.forall_mem_cons.mpr ⟨okN133, List.forall_mem_cons.mpr ⟨okN134, List.forall_mem_cons.mpr ⟨okN135, List.forall_mem_cons.mpr ⟨okN136, List.forall_mem_cons.mpr ⟨okN137, List.forall_mem_cons.mpr ⟨okN138, List.forall_mem_cons.mpr ⟨okN139, List.forall_mem_cons.mpr ⟨okN140, List.forall_mem_cons.mpr ⟨okN141, List.forall_mem_cons.mpr ⟨okN142, List.forall_mem_cons.mpr ⟨okN143, List.forall_mem_cons.mpr ⟨okN144, List.forall_mem_cons.mpr ⟨okN145, List.forall_mem_cons.mpr ⟨okN146, List.forall_mem_cons.mpr ⟨okN147, List.forall_mem_cons.mpr ⟨okN148, List.forall_mem_cons.mpr ⟨okN149, List.forall_mem_cons.mpr ⟨okN150, List.forall_mem_cons.mpr ⟨okN151, List.forall_mem_cons.mpr ⟨okN152, List.forall_mem_cons.mpr ⟨okN153, List.forall_mem_cons.mpr ⟨okN154, List.forall_mem_cons.mpr ⟨okN155, List.forall_mem_cons.mpr ⟨okN156, List.forall_mem_cons.mpr ⟨okN157, List.forall_mem_cons.mpr ⟨okN158, List.forall_mem_cons.mpr ⟨okN159, List.forall_mem_cons.mpr ⟨okN160, List.forall_mem_cons.mpr ⟨okN161, List.forall_mem_cons.mpr ⟨okN162, List.forall_mem_cons.mpr ⟨okN163, List.forall_mem_cons.mpr ⟨okN164, List.forall_mem_cons.mpr ⟨okN165, List.forall_mem_cons.mpr ⟨okN166, List.forall_mem_cons.mpr ⟨okN167, List.forall_mem_cons.mpr ⟨okN168, List.forall_mem_cons.mpr ⟨okN169, List.forall_mem_cons.mpr ⟨okN170, List.forall_mem_cons.mpr ⟨okN171, List.forall_mem_cons.mpr ⟨okN172, List.forall_mem_cons.mpr ⟨okN173, List.forall_mem_cons.mpr ⟨okN174, List.forall_mem_cons.mpr ⟨okN175, List.forall_mem_cons.mpr ⟨okN176, List.forall_mem_cons.mpr ⟨okN177, fun _ h => absurd h List.not_mem_nil⟩⟩⟩⟩⟩⟩⟩⟩⟩⟩⟩⟩⟩⟩⟩⟩⟩⟩⟩⟩⟩⟩⟩⟩⟩⟩⟩⟩⟩⟩⟩⟩⟩⟩⟩⟩⟩⟩⟩⟩⟩⟩⟩⟩⟩⟩⟩⟩⟩⟩⟩⟩⟩⟩⟩⟩⟩⟩⟩⟩⟩⟩⟩⟩⟩⟩⟩⟩⟩⟩⟩⟩⟩⟩⟩⟩⟩⟩⟩⟩⟩⟩⟩⟩⟩⟩⟩⟩⟩⟩⟩⟩⟩⟩⟩⟩⟩⟩⟩⟩⟩⟩⟩⟩⟩⟩⟩⟩⟩⟩⟩⟩⟩⟩⟩⟩⟩⟩⟩⟩⟩⟩⟩⟩⟩⟩⟩⟩⟩⟩⟩⟩⟩⟩⟩⟩⟩⟩⟩⟩⟩⟩⟩⟩⟩⟩⟩⟩⟩⟩⟩⟩⟩⟩⟩⟩⟩⟩⟩⟩⟩⟩⟩⟩⟩⟩⟩⟩⟩⟩⟩⟩⟩⟩⟩⟩⟩⟩
