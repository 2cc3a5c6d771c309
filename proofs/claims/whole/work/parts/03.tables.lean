/-! ===== the program and the words of the tables (printed by wip/whole/gen_tables.py) ===== -/
def clsT : List String := [RX0, RX1, RX2, RX3, RX4, RX5, RX6, RX7, RX8, RX9, RL, RJ6, RJ13, RJ9]
def mNms : List MethodName := [yL_law, yX0_init, yX0_waitingCount, yX0_findToMerge, yX0_merge, yX0_put, yX0_startSweep, yX0_tell, yX0_copyFrom, yX1_init, yX1_put, yX1_holds, yX1_isCutBy, yX1_copyFrom, yX2_init, yX2_putStation, yX2_isInSight, yX2_clutterAt, yX2_changeClutter, yX2_fieldOf, yX2_copyFrom, yX3_init, yX3_note, yX3_keptCount, yX3_tell, yX3_copyFrom, yX4_init, yX4_join, yX4_measure, yX4_computeCosts, yX4_leastCost, yX4_costWith, yX4_firstBest, yX5_init, yX5_put, yX5_findNearest, yX5_forget, yX5_forgetAhead, yX5_move, yX5_copyFrom, yX6_init, yX6_find, yX6_takeBlip, yX6_passOver, yX6_updateTracks, yX6_updateTrack, yX6_updateClutter, yX6_beginTracks, yX6_knowAgain, yX6_sortTracks, yX6_noteCrossings, yX6_areFirm, yX6_noteArea, yX6_isFirmIn, yX6_nameBlips, yX6_tellCount, yX6_countFirm, yX6_countDangers, yX6_namesInArea, yX6_copyFrom, yX7_init, yX7_begin, yX7_expect, yX7_follow, yX7_limitedSpeed, yX7_countJoin, yX7_countMiss, yX7_hasEnded, yX7_hasCrossed, yX7_hasOnOneHand, yX7_rangesMeet, yX7_leastSquareTo, yX7_tell, yX7_copyFrom, yX8_init, yX8_addStation, yX8_addPlace, yX8_sees, yX8_level, yX8_tune, yX8_report, yX8_blip, yX8_sweep, yX8_count, yX8_name, yX8_track, yX8_path, yX8_speed, yX8_nearest, yX8_dangers, yX8_inside, yX8_event, yX8_mark, yX8_restore, yX8_digest, yX8_isWithin, yX8_isPlace, yX8_square, yX8_roundedQuotient, yX8_way, yX8_isInSet, yX8_copyRow, yX8_side, yX9_init, yX9_thrown, yX9_fail, yX9_isIn, yX9_isPlace, yX9_rounded, yX9_square, yX9_addStation, yX9_addPlace, yX9_narrow, yX9_hides, yX9_canSee, yX9_isStation, yX9_sees, yX9_field, yX9_level, yX9_tune, yX9_report, yX9_told, yX9_blips, yX9_blip, yX9_get, yX9_set, yX9_note, yX9_expect, yX9_distance, yX9_canJoin, yX9_bestWith, yX9_join, yX9_near, yX9_follow, yX9_miss, yX9_moveOn, yX9_begin, yX9_lostSquare, yX9_know, yX9_sort, yX9_side, yX9_isBetween, yX9_isOnWay, yX9_cross, yX9_isFirm, yX9_isInside, yX9_look, yX9_sweep, yX9_forget, yX9_counted, yX9_count, yX9_name, yX9_placeOf, yX9_trackTold, yX9_track, yX9_path, yX9_speed, yX9_nearestOf, yX9_nearest, yX9_dangers, yX9_insideOf, yX9_inside, yX9_keptEvents, yX9_event, yX9_mark, yX9_restore, yX9_digest, yJ6_bitCount_0f7a4, yJ13_signum_95d88, yJ9_floorDiv_7cf53, yJ9_floorDiv_f86c9, yJ9_abs_067f4, yJ9_max_7cf53, yJ9_max_f86c9, yJ9_min_7cf53, yJ9_min_f86c9, yL_addStation, yL_addPlace, yL_sees, yL_level, yL_tune, yL_report, yL_blip, yL_sweep, yL_count, yL_name, yL_track, yL_path, yL_speed, yL_nearest, yL_dangers, yL_inside, yL_event, yL_restore]
def mBys : List ByteArray := [cL_law, cX0_init, cX0_waitingCount, cX0_findToMerge, cX0_merge, cX0_put, cX0_startSweep, cX0_tell, cX0_copyFrom, cX1_init, cX1_put, cX1_holds, cX1_isCutBy, cX1_copyFrom, cX2_init, cX2_putStation, cX2_isInSight, cX2_clutterAt, cX2_changeClutter, cX2_fieldOf, cX2_copyFrom, cX3_init, cX3_note, cX3_keptCount, cX3_tell, cX3_copyFrom, cX4_init, cX4_join, cX4_measure, cX4_computeCosts, cX4_leastCost, cX4_costWith, cX4_firstBest, cX5_init, cX5_put, cX5_findNearest, cX5_forget, cX5_forgetAhead, cX5_move, cX5_copyFrom, cX6_init, cX6_find, cX6_takeBlip, cX6_passOver, cX6_updateTracks, cX6_updateTrack, cX6_updateClutter, cX6_beginTracks, cX6_knowAgain, cX6_sortTracks, cX6_noteCrossings, cX6_areFirm, cX6_noteArea, cX6_isFirmIn, cX6_nameBlips, cX6_tellCount, cX6_countFirm, cX6_countDangers, cX6_namesInArea, cX6_copyFrom, cX7_init, cX7_begin, cX7_expect, cX7_follow, cX7_limitedSpeed, cX7_countJoin, cX7_countMiss, cX7_hasEnded, cX7_hasCrossed, cX7_hasOnOneHand, cX7_rangesMeet, cX7_leastSquareTo, cX7_tell, cX7_copyFrom, cX8_init, cX8_addStation, cX8_addPlace, cX8_sees, cX8_level, cX8_tune, cX8_report, cX8_blip, cX8_sweep, cX8_count, cX8_name, cX8_track, cX8_path, cX8_speed, cX8_nearest, cX8_dangers, cX8_inside, cX8_event, cX8_mark, cX8_restore, cX8_digest, cX8_isWithin, cX8_isPlace, cX8_square, cX8_roundedQuotient, cX8_way, cX8_isInSet, cX8_copyRow, cX8_side, cX9_init, cX9_thrown, cX9_fail, cX9_isIn, cX9_isPlace, cX9_rounded, cX9_square, cX9_addStation, cX9_addPlace, cX9_narrow, cX9_hides, cX9_canSee, cX9_isStation, cX9_sees, cX9_field, cX9_level, cX9_tune, cX9_report, cX9_told, cX9_blips, cX9_blip, cX9_get, cX9_set, cX9_note, cX9_expect, cX9_distance, cX9_canJoin, cX9_bestWith, cX9_join, cX9_near, cX9_follow, cX9_miss, cX9_moveOn, cX9_begin, cX9_lostSquare, cX9_know, cX9_sort, cX9_side, cX9_isBetween, cX9_isOnWay, cX9_cross, cX9_isFirm, cX9_isInside, cX9_look, cX9_sweep, cX9_forget, cX9_counted, cX9_count, cX9_name, cX9_placeOf, cX9_trackTold, cX9_track, cX9_path, cX9_speed, cX9_nearestOf, cX9_nearest, cX9_dangers, cX9_insideOf, cX9_inside, cX9_keptEvents, cX9_event, cX9_mark, cX9_restore, cX9_digest, cJ6_bitCount_0f7a4, cJ13_signum_95d88, cJ9_floorDiv_7cf53, cJ9_floorDiv_f86c9, cJ9_abs_067f4, cJ9_max_7cf53, cJ9_max_f86c9, cJ9_min_7cf53, cJ9_min_f86c9, cL_addStation, cL_addPlace, cL_sees, cL_level, cL_tune, cL_report, cL_blip, cL_sweep, cL_count, cL_name, cL_track, cL_path, cL_speed, cL_nearest, cL_dangers, cL_inside, cL_event, cL_restore]
def mRts : List (Option FieldType) := [(some .boolean), none, (some .int), (some .int), none, (some .boolean), none, (some .int), none, none, (some .int), (some .boolean), (some .boolean), none, none, (some .int), (some .boolean), (some .int), none, (some .int), none, none, none, (some .int), (some .int), none, none, (some .int), none, none, (some .long), (some .long), (some .int), none, none, (some .int), none, none, none, none, none, (some (.object "CoastRadar$Track")), (some .int), (some .int), none, (some .int), none, none, none, none, none, (some .boolean), none, (some .boolean), none, (some .int), (some .int), (some .int), (some .int), none, none, none, none, none, (some .int), (some .int), (some .int), (some .boolean), (some .boolean), (some .boolean), (some .boolean), (some .long), (some .int), none, none, (some .int), (some .int), (some .boolean), (some .int), (some .int), (some .int), (some .int), (some .int), (some .int), (some .int), (some .int), (some .int), (some .double), (some .long), (some .int), (some .int), (some .int), (some .int), (some .int), (some .long), (some .boolean), (some .boolean), (some .long), (some .int), (some .int), (some .boolean), none, (some .long), none, (some .int), (some .int), (some .boolean), (some .boolean), (some .int), (some .long), (some .int), (some .int), (some .boolean), (some .boolean), (some .boolean), (some .boolean), (some .boolean), (some .int), (some .int), (some .int), (some .int), (some .int), (some .int), (some .int), (some .int), none, none, none, (some .long), (some .boolean), (some .long), (some .int), (some .int), none, none, none, none, (some .long), none, none, (some .int), (some .boolean), (some .boolean), (some .boolean), (some .boolean), (some .boolean), none, (some .int), none, (some .int), (some .int), (some .int), (some .int), (some .int), (some .int), (some .int), (some .double), (some .long), (some .long), (some .int), (some .int), (some .int), (some .int), (some .int), (some .int), (some .int), (some .long), (some .int), (some .int), (some .int), (some .long), (some .long), (some .int), (some .long), (some .int), (some .long), (some .int), (some .int), (some .int), (some .int), (some .int), (some .int), (some .int), (some .int), (some .int), (some .int), (some .int), (some .int), (some .int), (some .int), (some .int), (some .int), (some .int), (some .int)]
def mOs : List Nat := [10, 0, 0, 0, 0, 0, 0, 0, 0, 1, 1, 1, 1, 1, 2, 2, 2, 2, 2, 2, 2, 3, 3, 3, 3, 3, 4, 4, 4, 4, 4, 4, 4, 5, 5, 5, 5, 5, 5, 5, 6, 6, 6, 6, 6, 6, 6, 6, 6, 6, 6, 6, 6, 6, 6, 6, 6, 6, 6, 6, 7, 7, 7, 7, 7, 7, 7, 7, 7, 7, 7, 7, 7, 7, 8, 8, 8, 8, 8, 8, 8, 8, 8, 8, 8, 8, 8, 8, 8, 8, 8, 8, 8, 8, 8, 8, 8, 8, 8, 8, 8, 8, 8, 9, 9, 9, 9, 9, 9, 9, 9, 9, 9, 9, 9, 9, 9, 9, 9, 9, 9, 9, 9, 9, 9, 9, 9, 9, 9, 9, 9, 9, 9, 9, 9, 9, 9, 9, 9, 9, 9, 9, 9, 9, 9, 9, 9, 9, 9, 9, 9, 9, 9, 9, 9, 9, 9, 9, 9, 9, 9, 9, 9, 9, 9, 9, 9, 11, 12, 13, 13, 13, 13, 13, 13, 13, 10, 10, 10, 10, 10, 10, 10, 10, 10, 10, 10, 10, 10, 10, 10, 10, 10, 10]
def deps : List Nat := [9, 1, 1, 2, 2, 2, 2, 1, 3, 1, 1, 2, 2, 3, 2, 1, 3, 3, 3, 2, 4, 1, 1, 2, 3, 3, 1, 4, 2, 3, 2, 1, 2, 1, 1, 2, 2, 2, 1, 3, 3, 1, 4, 6, 5, 4, 4, 2, 3, 1, 4, 1, 4, 3, 1, 2, 1, 3, 4, 5, 1, 1, 2, 3, 2, 1, 1, 1, 3, 2, 2, 2, 1, 3, 4, 6, 6, 6, 6, 6, 6, 6, 7, 6, 6, 6, 6, 6, 6, 6, 6, 6, 6, 6, 5, 1, 2, 1, 2, 1, 1, 2, 1, 1, 1, 1, 1, 2, 2, 1, 3, 3, 2, 3, 4, 2, 5, 2, 3, 2, 5, 1, 1, 2, 1, 1, 2, 3, 2, 1, 1, 3, 2, 3, 3, 4, 3, 3, 4, 2, 2, 2, 3, 4, 2, 3, 5, 6, 1, 3, 4, 2, 2, 2, 3, 3, 3, 3, 4, 4, 4, 5, 2, 3, 1, 2, 5, 1, 1, 1, 1, 1, 1, 1, 1, 1, 7, 7, 7, 7, 7, 7, 7, 8, 7, 7, 7, 7, 7, 7, 7, 7, 7, 7]
def mNm (k : Nat) : MethodName := mNms.getD k ⟨"", "", ""⟩
def mBy (k : Nat) : ByteArray := mBys.getD k ByteArray.empty
def mRt (k : Nat) : Option FieldType := mRts.getD k none
def mO (k : Nat) : Nat := mOs.getD k 0
def mOw (k : Nat) : String := clsT.getD (mO k) ""
def dp (k : Nat) : Nat := deps.getD k 0
def T0 : u_T := fun _ => ("", "", "", false)
abbrev mCl : List vw_C := vwCl ++ [("java/lang/IllegalArgumentException", T0, 0), ("java/lang/IllegalStateException", T0, 0), ("java/lang/IndexOutOfBoundsException", T0, 0)]
def exN (E : Nat) : String := ["java/lang/IllegalArgumentException", "java/lang/IllegalStateException", "java/lang/IndexOutOfBoundsException"].getD E ""
/-- kinds of fields: 0 int, 1 long, 2 reference -/
def fkT : List (List Nat) := [[2, 2, 2, 2, 2, 0, 0], [2, 2, 2, 2, 0], [2, 2, 2, 0, 2, 2, 2], [2, 2, 2, 2, 0], [2, 2, 2], [2, 2, 2, 2, 2, 2, 2, 0], [2, 2, 2, 2, 2, 0, 0, 0, 0, 0, 0, 0, 0], [0, 2, 2, 0, 0, 0, 0, 0, 0, 0, 0, 0], [2, 2, 2, 0], [0, 2, 2, 2, 2, 2, 2, 2, 2, 2, 2, 2, 2, 1, 1, 1, 1, 2, 2, 2]]
def fkd (ci j : Nat) : Nat := (fkT.getD ci []).getD j 0
def fnum (ci : Nat) : Nat := (fkT.getD ci []).length
def TXs : List u_T := [TX0, TX1, TX2, TX3, TX4, TX5, TX6, TX7, TX8, TX9]
def tyXs : List (Nat → FieldType) := [tyX0, tyX1, tyX2, tyX3, tyX4, tyX5, tyX6, tyX7, tyX8, tyX9]
def TX (ci : Nat) : u_T := TXs.getD ci T0
def tyX (ci : Nat) : Nat → FieldType := tyXs.getD ci (fun _ => .int)
/-- (own class, entry, class, field, place among the words) -/
def flT : List (Nat × Nat × Nat × Nat × Nat) := [(1, 9, 1, 0, 102), (1, 15, 1, 1, 103), (1, 18, 1, 2, 104), (1, 21, 1, 3, 105), (1, 24, 1, 4, 106), (2, 42, 1, 4, 107), (8, 73, 1, 4, 108), (6, 126, 1, 4, 109), (2, 9, 2, 0, 122), (2, 15, 2, 1, 123), (2, 18, 2, 2, 124), (2, 21, 2, 3, 125), (8, 49, 2, 3, 126), (6, 241, 2, 3, 127), (2, 28, 2, 4, 128), (8, 70, 2, 4, 129), (6, 244, 2, 4, 130), (2, 32, 2, 5, 131), (8, 66, 2, 5, 132), (6, 122, 2, 5, 133), (2, 35, 2, 6, 134), (0, 9, 0, 0, 156), (4, 52, 0, 0, 157), (6, 168, 0, 0, 158), (0, 15, 0, 1, 159), (4, 58, 0, 1, 160), (6, 172, 0, 1, 161), (0, 18, 0, 2, 162), (0, 21, 0, 3, 163), (0, 24, 0, 4, 164), (6, 238, 0, 4, 165), (0, 27, 0, 5, 166), (4, 26, 0, 5, 167), (6, 181, 0, 5, 168), (8, 123, 0, 5, 169), (0, 31, 0, 6, 170), (5, 9, 5, 0, 192), (6, 211, 5, 0, 193), (5, 15, 5, 1, 194), (5, 18, 5, 2, 195), (5, 21, 5, 3, 196), (5, 24, 5, 4, 197), (5, 27, 5, 5, 198), (5, 30, 5, 6, 199), (5, 33, 5, 7, 200), (6, 253, 5, 7, 201), (3, 9, 3, 0, 225), (3, 15, 3, 1, 226), (3, 18, 3, 2, 227), (3, 21, 3, 3, 228), (3, 24, 3, 4, 229), (6, 254, 3, 4, 230), (7, 9, 7, 0, 249), (6, 71, 7, 0, 250), (5, 37, 7, 0, 251), (8, 157, 7, 0, 252), (7, 15, 7, 1, 253), (5, 41, 7, 1, 254), (4, 55, 7, 1, 255), (6, 201, 7, 1, 256), (8, 175, 7, 1, 257), (7, 19, 7, 2, 258), (5, 44, 7, 2, 259), (4, 61, 7, 2, 260), (6, 204, 7, 2, 261), (8, 179, 7, 2, 262), (7, 22, 7, 3, 263), (5, 47, 7, 3, 264), (8, 184, 7, 3, 265), (7, 25, 7, 4, 266), (5, 49, 7, 4, 267), (8, 187, 7, 4, 268), (7, 28, 7, 5, 269), (6, 226, 7, 5, 270), (7, 31, 7, 6, 271), (7, 34, 7, 7, 272), (4, 45, 7, 7, 273), (7, 37, 7, 8, 274), (8, 170, 7, 8, 275), (7, 40, 7, 9, 276), (4, 40, 7, 9, 277), (6, 161, 7, 9, 278), (7, 43, 7, 10, 279), (6, 229, 7, 10, 280), (7, 46, 7, 11, 281), (6, 197, 7, 11, 282), (6, 12, 6, 0, 308), (8, 45, 6, 0, 309), (6, 21, 6, 1, 310), (8, 119, 6, 1, 311), (6, 28, 6, 2, 312), (6, 35, 6, 3, 313), (8, 211, 6, 3, 314), (6, 41, 6, 4, 315), (8, 153, 6, 4, 316), (6, 45, 6, 5, 317), (8, 148, 6, 5, 318), (6, 49, 6, 6, 319), (8, 105, 6, 6, 320), (6, 52, 6, 7, 321), (8, 102, 6, 7, 322), (6, 55, 6, 8, 323), (8, 108, 6, 8, 324), (6, 58, 6, 9, 325), (8, 111, 6, 9, 326), (6, 61, 6, 10, 327), (8, 133, 6, 10, 328), (6, 64, 6, 11, 329), (6, 67, 6, 12, 330), (4, 9, 4, 0, 364), (4, 15, 4, 1, 365), (4, 19, 4, 2, 366), (8, 12, 8, 0, 375), (8, 16, 8, 1, 376), (8, 22, 8, 2, 377), (8, 26, 8, 3, 378), (9, 55, 9, 0, 998), (9, 9, 9, 1, 999), (9, 13, 9, 2, 1000), (9, 16, 9, 3, 1001), (9, 19, 9, 4, 1002), (9, 22, 9, 5, 1003), (9, 25, 9, 6, 1004), (9, 28, 9, 7, 1005), (9, 31, 9, 8, 1006), (9, 34, 9, 9, 1007), (9, 37, 9, 10, 1008), (9, 41, 9, 11, 1009), (9, 270, 9, 12, 1010), (9, 93, 9, 13, 1011), (9, 89, 9, 14, 1012), (9, 99, 9, 15, 1013), (9, 96, 9, 16, 1014), (9, 45, 9, 17, 1015), (9, 49, 9, 18, 1016), (9, 52, 9, 19, 1017)]
def flOk (q : Nat × Nat × Nat × Nat × Nat) : Bool := decide (lw_tbl[q.2.2.2.2]? = some (Cond.fieldLink (clsT.getD q.1 "") q.2.1 (clsT.getD q.2.2.1 "") (TX q.2.2.1 q.2.2.2.1).2.1 (TX q.2.2.1 q.2.2.2.1).2.2.1)) && Nat.blt q.2.2.2.1 (fnum q.2.2.1) && Nat.blt q.2.2.1 10 && decide ((TX q.2.2.1 q.2.2.2.1).1 = clsT.getD q.2.2.1 "")
theorem flT_ok : flT.all flOk = true := by decide +kernel
def clT : List (Nat × Nat × Nat × Nat × Nat × Nat) := [(10, 8, 8, 76, 77, 56), (8, 9, 6, 84, 85, 57), (6, 9, 2, 90, 91, 58), (2, 25, 1, 96, 97, 59), (6, 18, 0, 150, 151, 60), (6, 25, 5, 186, 187, 61), (6, 32, 3, 219, 220, 62), (6, 39, 7, 242, 244, 63), (8, 19, 4, 358, 359, 64), (10, 80, 9, 990, 991, 65)]
def clOk (q : Nat × Nat × Nat × Nat × Nat × Nat) : Bool := decide (lw_tbl[q.2.2.2.1]? = some (Cond.classLink (clsT.getD q.1 "") q.2.1 (clsT.getD q.2.2.1 ""))) && decide (lw_tbl[q.2.2.2.2.1]? = some (Cond.instantiable (clsT.getD q.2.2.1 "") (fnum q.2.2.1))) && decide (lw_tbl[q.2.2.2.2.2]? = some (Cond.initialized (clsT.getD q.2.2.1 ""))) && Nat.blt q.2.2.1 10
theorem clT_ok : clT.all clOk = true := by decide +kernel
def cpT : List Nat := [0, 154, 447, 691, 700, 706, 731, 459, 417, 100, 598, 481, 634, 412, 94, 585, 627, 658, 826, 661, 399, 223, 809, 463, 468, 427, 362, 743, 747, 752, 762, 767, 773, 190, 813, 845, 851, 891, 855, 422, 88, 919, 685, 727, 777, 781, 821, 832, 840, 859, 863, 867, 883, 477, 887, 443, 451, 964, 473, 395, 247, 836, 735, 789, 799, 805, 785, 817, 871, 878, 874, 949, 455, 432, 80, 493, 592, 606, 654, 671, 680, 713, 721, 899, 907, 915, 927, 935, 945, 959, 972, 980, 391, 988, 437, 484, 496, 630, 792, 739, 695, 402, 641, 994, 1062, 1076, 1072, 1069, 1158, 1096, 1066, 1081, 1106, 1100, 1093, 1089, 1085, 1116, 1113, 1121, 1125, 1138, 1134, 1130, 1150, 1154, 1195, 1146, 1168, 1172, 1176, 1163, 1190, 1187, 1199, 1183, 1203, 1212, 1207, 1216, 1236, 1242, 1232, 1228, 1224, 1247, 1220, 1142, 1251, 1259, 1255, 1263, 1271, 1275, 1267, 1279, 1283, 1292, 1288, 1297, 1305, 1301, 1313, 1309, 1317, 1321, 1325, 755, 1239, 664, 796, 1109, 637, 647, 405, 644, 487, 588, 601, 650, 667, 676, 709, 717, 895, 903, 911, 923, 931, 941, 955, 968, 976, 984]
/-- 0 the law, 1 a plain method, 2 one with a table of its own -/
def ckT : List Nat := [0, 1, 1, 1, 1, 1, 1, 1, 1, 1, 1, 1, 1, 1, 1, 1, 1, 1, 1, 1, 1, 1, 1, 1, 1, 1, 1, 1, 1, 1, 1, 1, 1, 1, 1, 1, 1, 1, 1, 1, 1, 1, 1, 1, 1, 1, 1, 1, 1, 1, 1, 1, 1, 1, 1, 1, 1, 1, 1, 1, 1, 1, 1, 1, 1, 1, 1, 1, 1, 1, 1, 1, 1, 1, 1, 1, 1, 1, 1, 1, 1, 1, 1, 1, 1, 1, 1, 1, 1, 1, 1, 1, 1, 1, 1, 1, 1, 1, 1, 1, 1, 1, 1, 1, 1, 1, 1, 1, 1, 1, 1, 1, 1, 1, 1, 1, 1, 1, 1, 1, 1, 1, 1, 1, 1, 1, 1, 1, 1, 1, 1, 1, 1, 1, 1, 1, 1, 1, 1, 1, 1, 1, 1, 1, 1, 1, 1, 1, 1, 1, 1, 1, 1, 1, 1, 1, 1, 1, 1, 1, 1, 1, 1, 1, 1, 1, 1, 1, 1, 1, 1, 1, 1, 1, 1, 1, 2, 2, 2, 2, 2, 2, 2, 2, 2, 2, 2, 2, 2, 2, 2, 2, 2, 2]
def ck (k : Nat) : Nat := ckT.getD k 0
def hhT : List (Nat × List (Nat × Nat × Nat × Nat)) := [(176, [(0, 12, 15, 13), (0, 12, 19, 15)]), (177, [(0, 16, 19, 13), (0, 16, 23, 15)]), (178, [(0, 19, 22, 25), (0, 19, 26, 13)]), (179, [(0, 10, 13, 13)]), (180, [(0, 14, 17, 13)]), (181, [(0, 14, 17, 25), (0, 14, 21, 13)]), (182, [(0, 10, 13, 25)]), (183, [(0, 9, 12, 13), (0, 9, 15, 15)]), (184, [(0, 9, 12, 25)]), (185, [(0, 9, 12, 25)]), (186, [(0, 10, 13, 25)]), (187, [(0, 12, 15, 25)]), (188, [(0, 8, 11, 25)]), (189, [(0, 9, 12, 25)]), (190, [(0, 9, 12, 13)]), (191, [(0, 9, 12, 25)]), (192, [(0, 10, 13, 25)]), (193, [(0, 8, 11, 15)])]
def hh (k : Nat) : List (Nat × Nat × Nat × Nat) := lookH [] hhT k
def cdW (k : Nat) : Cond := bif Nat.beq (ck k) 2 then Cond.codeWith (mNm k) (mBy k) (mML k) (mRt k) (hh k) else Cond.code (mNm k) (mBy k) (mML k) (mRt k)
def cdOk (k : Nat) : Bool := Nat.beq (ck k) 0 || decide (lw_tbl[cpT.getD k 0]? = some (cdW k))
theorem in_c1 {w : Cond} (h : w ∈ tables_1_1) : w ∈ lw_tbl := List.mem_append_right _ (List.mem_append_left _ h)
theorem in_c2 {w : Cond} (h : w ∈ tables_1_2) : w ∈ lw_tbl := List.mem_append_right _ (List.mem_append_right _ (List.mem_append_left _ h))
theorem in_c3 {w : Cond} (h : w ∈ tables_1_3) : w ∈ lw_tbl := List.mem_append_right _ (List.mem_append_right _ (List.mem_append_right _ (List.mem_append_left _ h)))
theorem in_c4 {w : Cond} (h : w ∈ tables_1_4) : w ∈ lw_tbl := List.mem_append_right _ (List.mem_append_right _ (List.mem_append_right _ (List.mem_append_right _ (List.mem_append_left _ h))))
theorem in_c5 {w : Cond} (h : w ∈ tables_1_5) : w ∈ lw_tbl := List.mem_append_right _ (List.mem_append_right _ (List.mem_append_right _ (List.mem_append_right _ (List.mem_append_right _ (List.mem_append_left _ h)))))
theorem in_c6 {w : Cond} (h : w ∈ tables_1_6) : w ∈ lw_tbl := List.mem_append_right _ (List.mem_append_right _ (List.mem_append_right _ (List.mem_append_right _ (List.mem_append_right _ (List.mem_append_right _ h)))))
theorem cd_0 : Nat.beq (ck 0) 0 = true ∨ cdW 0 ∈ lw_tbl := Or.inl rfl
set_option maxRecDepth 100000 in
theorem cd_1 : Nat.beq (ck 1) 0 = true ∨ cdW 1 ∈ lw_tbl := Or.inr (in_c1 (List.mem_of_getElem? (i := 99) rfl))
set_option maxRecDepth 100000 in
theorem cd_2 : Nat.beq (ck 2) 0 = true ∨ cdW 2 ∈ lw_tbl := Or.inr (in_c2 (List.mem_of_getElem? (i := 152) rfl))
set_option maxRecDepth 100000 in
theorem cd_3 : Nat.beq (ck 3) 0 = true ∨ cdW 3 ∈ lw_tbl := Or.inr (in_c3 (List.mem_of_getElem? (i := 156) rfl))
set_option maxRecDepth 100000 in
theorem cd_4 : Nat.beq (ck 4) 0 = true ∨ cdW 4 ∈ lw_tbl := Or.inr (in_c3 (List.mem_of_getElem? (i := 165) rfl))
set_option maxRecDepth 100000 in
theorem cd_5 : Nat.beq (ck 5) 0 = true ∨ cdW 5 ∈ lw_tbl := Or.inr (in_c3 (List.mem_of_getElem? (i := 171) rfl))
set_option maxRecDepth 100000 in
theorem cd_6 : Nat.beq (ck 6) 0 = true ∨ cdW 6 ∈ lw_tbl := Or.inr (in_c3 (List.mem_of_getElem? (i := 196) rfl))
set_option maxRecDepth 100000 in
theorem cd_7 : Nat.beq (ck 7) 0 = true ∨ cdW 7 ∈ lw_tbl := Or.inr (in_c2 (List.mem_of_getElem? (i := 164) rfl))
set_option maxRecDepth 100000 in
theorem cd_8 : Nat.beq (ck 8) 0 = true ∨ cdW 8 ∈ lw_tbl := Or.inr (in_c2 (List.mem_of_getElem? (i := 122) rfl))
set_option maxRecDepth 100000 in
theorem cd_9 : Nat.beq (ck 9) 0 = true ∨ cdW 9 ∈ lw_tbl := Or.inr (in_c1 (List.mem_of_getElem? (i := 45) rfl))
set_option maxRecDepth 100000 in
theorem cd_10 : Nat.beq (ck 10) 0 = true ∨ cdW 10 ∈ lw_tbl := Or.inr (in_c3 (List.mem_of_getElem? (i := 63) rfl))
set_option maxRecDepth 100000 in
theorem cd_11 : Nat.beq (ck 11) 0 = true ∨ cdW 11 ∈ lw_tbl := Or.inr (in_c2 (List.mem_of_getElem? (i := 186) rfl))
set_option maxRecDepth 100000 in
theorem cd_12 : Nat.beq (ck 12) 0 = true ∨ cdW 12 ∈ lw_tbl := Or.inr (in_c3 (List.mem_of_getElem? (i := 99) rfl))
set_option maxRecDepth 100000 in
theorem cd_13 : Nat.beq (ck 13) 0 = true ∨ cdW 13 ∈ lw_tbl := Or.inr (in_c2 (List.mem_of_getElem? (i := 117) rfl))
set_option maxRecDepth 100000 in
theorem cd_14 : Nat.beq (ck 14) 0 = true ∨ cdW 14 ∈ lw_tbl := Or.inr (in_c1 (List.mem_of_getElem? (i := 39) rfl))
set_option maxRecDepth 100000 in
theorem cd_15 : Nat.beq (ck 15) 0 = true ∨ cdW 15 ∈ lw_tbl := Or.inr (in_c3 (List.mem_of_getElem? (i := 50) rfl))
set_option maxRecDepth 100000 in
theorem cd_16 : Nat.beq (ck 16) 0 = true ∨ cdW 16 ∈ lw_tbl := Or.inr (in_c3 (List.mem_of_getElem? (i := 92) rfl))
set_option maxRecDepth 100000 in
theorem cd_17 : Nat.beq (ck 17) 0 = true ∨ cdW 17 ∈ lw_tbl := Or.inr (in_c3 (List.mem_of_getElem? (i := 123) rfl))
set_option maxRecDepth 100000 in
theorem cd_18 : Nat.beq (ck 18) 0 = true ∨ cdW 18 ∈ lw_tbl := Or.inr (in_c4 (List.mem_of_getElem? (i := 51) rfl))
set_option maxRecDepth 100000 in
theorem cd_19 : Nat.beq (ck 19) 0 = true ∨ cdW 19 ∈ lw_tbl := Or.inr (in_c3 (List.mem_of_getElem? (i := 126) rfl))
set_option maxRecDepth 100000 in
theorem cd_20 : Nat.beq (ck 20) 0 = true ∨ cdW 20 ∈ lw_tbl := Or.inr (in_c2 (List.mem_of_getElem? (i := 104) rfl))
set_option maxRecDepth 100000 in
theorem cd_21 : Nat.beq (ck 21) 0 = true ∨ cdW 21 ∈ lw_tbl := Or.inr (in_c1 (List.mem_of_getElem? (i := 168) rfl))
set_option maxRecDepth 100000 in
theorem cd_22 : Nat.beq (ck 22) 0 = true ∨ cdW 22 ∈ lw_tbl := Or.inr (in_c4 (List.mem_of_getElem? (i := 34) rfl))
set_option maxRecDepth 100000 in
theorem cd_23 : Nat.beq (ck 23) 0 = true ∨ cdW 23 ∈ lw_tbl := Or.inr (in_c2 (List.mem_of_getElem? (i := 168) rfl))
set_option maxRecDepth 100000 in
theorem cd_24 : Nat.beq (ck 24) 0 = true ∨ cdW 24 ∈ lw_tbl := Or.inr (in_c2 (List.mem_of_getElem? (i := 173) rfl))
set_option maxRecDepth 100000 in
theorem cd_25 : Nat.beq (ck 25) 0 = true ∨ cdW 25 ∈ lw_tbl := Or.inr (in_c2 (List.mem_of_getElem? (i := 132) rfl))
set_option maxRecDepth 100000 in
theorem cd_26 : Nat.beq (ck 26) 0 = true ∨ cdW 26 ∈ lw_tbl := Or.inr (in_c2 (List.mem_of_getElem? (i := 67) rfl))
set_option maxRecDepth 100000 in
theorem cd_27 : Nat.beq (ck 27) 0 = true ∨ cdW 27 ∈ lw_tbl := Or.inr (in_c3 (List.mem_of_getElem? (i := 208) rfl))
set_option maxRecDepth 100000 in
theorem cd_28 : Nat.beq (ck 28) 0 = true ∨ cdW 28 ∈ lw_tbl := Or.inr (in_c3 (List.mem_of_getElem? (i := 212) rfl))
set_option maxRecDepth 100000 in
theorem cd_29 : Nat.beq (ck 29) 0 = true ∨ cdW 29 ∈ lw_tbl := Or.inr (in_c3 (List.mem_of_getElem? (i := 217) rfl))
set_option maxRecDepth 100000 in
theorem cd_30 : Nat.beq (ck 30) 0 = true ∨ cdW 30 ∈ lw_tbl := Or.inr (in_c3 (List.mem_of_getElem? (i := 227) rfl))
set_option maxRecDepth 100000 in
theorem cd_31 : Nat.beq (ck 31) 0 = true ∨ cdW 31 ∈ lw_tbl := Or.inr (in_c3 (List.mem_of_getElem? (i := 232) rfl))
set_option maxRecDepth 100000 in
theorem cd_32 : Nat.beq (ck 32) 0 = true ∨ cdW 32 ∈ lw_tbl := Or.inr (in_c3 (List.mem_of_getElem? (i := 238) rfl))
set_option maxRecDepth 100000 in
theorem cd_33 : Nat.beq (ck 33) 0 = true ∨ cdW 33 ∈ lw_tbl := Or.inr (in_c1 (List.mem_of_getElem? (i := 135) rfl))
set_option maxRecDepth 100000 in
theorem cd_34 : Nat.beq (ck 34) 0 = true ∨ cdW 34 ∈ lw_tbl := Or.inr (in_c4 (List.mem_of_getElem? (i := 38) rfl))
set_option maxRecDepth 100000 in
theorem cd_35 : Nat.beq (ck 35) 0 = true ∨ cdW 35 ∈ lw_tbl := Or.inr (in_c4 (List.mem_of_getElem? (i := 70) rfl))
set_option maxRecDepth 100000 in
theorem cd_36 : Nat.beq (ck 36) 0 = true ∨ cdW 36 ∈ lw_tbl := Or.inr (in_c4 (List.mem_of_getElem? (i := 76) rfl))
set_option maxRecDepth 100000 in
theorem cd_37 : Nat.beq (ck 37) 0 = true ∨ cdW 37 ∈ lw_tbl := Or.inr (in_c4 (List.mem_of_getElem? (i := 116) rfl))
set_option maxRecDepth 100000 in
theorem cd_38 : Nat.beq (ck 38) 0 = true ∨ cdW 38 ∈ lw_tbl := Or.inr (in_c4 (List.mem_of_getElem? (i := 80) rfl))
set_option maxRecDepth 100000 in
theorem cd_39 : Nat.beq (ck 39) 0 = true ∨ cdW 39 ∈ lw_tbl := Or.inr (in_c2 (List.mem_of_getElem? (i := 127) rfl))
set_option maxRecDepth 100000 in
theorem cd_40 : Nat.beq (ck 40) 0 = true ∨ cdW 40 ∈ lw_tbl := Or.inr (in_c1 (List.mem_of_getElem? (i := 33) rfl))
set_option maxRecDepth 100000 in
theorem cd_41 : Nat.beq (ck 41) 0 = true ∨ cdW 41 ∈ lw_tbl := Or.inr (in_c4 (List.mem_of_getElem? (i := 144) rfl))
set_option maxRecDepth 100000 in
theorem cd_42 : Nat.beq (ck 42) 0 = true ∨ cdW 42 ∈ lw_tbl := Or.inr (in_c3 (List.mem_of_getElem? (i := 150) rfl))
set_option maxRecDepth 100000 in
theorem cd_43 : Nat.beq (ck 43) 0 = true ∨ cdW 43 ∈ lw_tbl := Or.inr (in_c3 (List.mem_of_getElem? (i := 192) rfl))
set_option maxRecDepth 100000 in
theorem cd_44 : Nat.beq (ck 44) 0 = true ∨ cdW 44 ∈ lw_tbl := Or.inr (in_c4 (List.mem_of_getElem? (i := 2) rfl))
set_option maxRecDepth 100000 in
theorem cd_45 : Nat.beq (ck 45) 0 = true ∨ cdW 45 ∈ lw_tbl := Or.inr (in_c4 (List.mem_of_getElem? (i := 6) rfl))
set_option maxRecDepth 100000 in
theorem cd_46 : Nat.beq (ck 46) 0 = true ∨ cdW 46 ∈ lw_tbl := Or.inr (in_c4 (List.mem_of_getElem? (i := 46) rfl))
set_option maxRecDepth 100000 in
theorem cd_47 : Nat.beq (ck 47) 0 = true ∨ cdW 47 ∈ lw_tbl := Or.inr (in_c4 (List.mem_of_getElem? (i := 57) rfl))
set_option maxRecDepth 100000 in
theorem cd_48 : Nat.beq (ck 48) 0 = true ∨ cdW 48 ∈ lw_tbl := Or.inr (in_c4 (List.mem_of_getElem? (i := 65) rfl))
set_option maxRecDepth 100000 in
theorem cd_49 : Nat.beq (ck 49) 0 = true ∨ cdW 49 ∈ lw_tbl := Or.inr (in_c4 (List.mem_of_getElem? (i := 84) rfl))
set_option maxRecDepth 100000 in
theorem cd_50 : Nat.beq (ck 50) 0 = true ∨ cdW 50 ∈ lw_tbl := Or.inr (in_c4 (List.mem_of_getElem? (i := 88) rfl))
set_option maxRecDepth 100000 in
theorem cd_51 : Nat.beq (ck 51) 0 = true ∨ cdW 51 ∈ lw_tbl := Or.inr (in_c4 (List.mem_of_getElem? (i := 92) rfl))
set_option maxRecDepth 100000 in
theorem cd_52 : Nat.beq (ck 52) 0 = true ∨ cdW 52 ∈ lw_tbl := Or.inr (in_c4 (List.mem_of_getElem? (i := 108) rfl))
set_option maxRecDepth 100000 in
theorem cd_53 : Nat.beq (ck 53) 0 = true ∨ cdW 53 ∈ lw_tbl := Or.inr (in_c2 (List.mem_of_getElem? (i := 182) rfl))
set_option maxRecDepth 100000 in
theorem cd_54 : Nat.beq (ck 54) 0 = true ∨ cdW 54 ∈ lw_tbl := Or.inr (in_c4 (List.mem_of_getElem? (i := 112) rfl))
set_option maxRecDepth 100000 in
theorem cd_55 : Nat.beq (ck 55) 0 = true ∨ cdW 55 ∈ lw_tbl := Or.inr (in_c2 (List.mem_of_getElem? (i := 148) rfl))
set_option maxRecDepth 100000 in
theorem cd_56 : Nat.beq (ck 56) 0 = true ∨ cdW 56 ∈ lw_tbl := Or.inr (in_c2 (List.mem_of_getElem? (i := 156) rfl))
set_option maxRecDepth 100000 in
theorem cd_57 : Nat.beq (ck 57) 0 = true ∨ cdW 57 ∈ lw_tbl := Or.inr (in_c4 (List.mem_of_getElem? (i := 189) rfl))
set_option maxRecDepth 100000 in
theorem cd_58 : Nat.beq (ck 58) 0 = true ∨ cdW 58 ∈ lw_tbl := Or.inr (in_c2 (List.mem_of_getElem? (i := 178) rfl))
set_option maxRecDepth 100000 in
theorem cd_59 : Nat.beq (ck 59) 0 = true ∨ cdW 59 ∈ lw_tbl := Or.inr (in_c2 (List.mem_of_getElem? (i := 100) rfl))
set_option maxRecDepth 100000 in
theorem cd_60 : Nat.beq (ck 60) 0 = true ∨ cdW 60 ∈ lw_tbl := Or.inr (in_c1 (List.mem_of_getElem? (i := 192) rfl))
set_option maxRecDepth 100000 in
theorem cd_61 : Nat.beq (ck 61) 0 = true ∨ cdW 61 ∈ lw_tbl := Or.inr (in_c4 (List.mem_of_getElem? (i := 61) rfl))
set_option maxRecDepth 100000 in
theorem cd_62 : Nat.beq (ck 62) 0 = true ∨ cdW 62 ∈ lw_tbl := Or.inr (in_c3 (List.mem_of_getElem? (i := 200) rfl))
set_option maxRecDepth 100000 in
theorem cd_63 : Nat.beq (ck 63) 0 = true ∨ cdW 63 ∈ lw_tbl := Or.inr (in_c4 (List.mem_of_getElem? (i := 14) rfl))
set_option maxRecDepth 100000 in
theorem cd_64 : Nat.beq (ck 64) 0 = true ∨ cdW 64 ∈ lw_tbl := Or.inr (in_c4 (List.mem_of_getElem? (i := 24) rfl))
set_option maxRecDepth 100000 in
theorem cd_65 : Nat.beq (ck 65) 0 = true ∨ cdW 65 ∈ lw_tbl := Or.inr (in_c4 (List.mem_of_getElem? (i := 30) rfl))
set_option maxRecDepth 100000 in
theorem cd_66 : Nat.beq (ck 66) 0 = true ∨ cdW 66 ∈ lw_tbl := Or.inr (in_c4 (List.mem_of_getElem? (i := 10) rfl))
set_option maxRecDepth 100000 in
theorem cd_67 : Nat.beq (ck 67) 0 = true ∨ cdW 67 ∈ lw_tbl := Or.inr (in_c4 (List.mem_of_getElem? (i := 42) rfl))
set_option maxRecDepth 100000 in
theorem cd_68 : Nat.beq (ck 68) 0 = true ∨ cdW 68 ∈ lw_tbl := Or.inr (in_c4 (List.mem_of_getElem? (i := 96) rfl))
set_option maxRecDepth 100000 in
theorem cd_69 : Nat.beq (ck 69) 0 = true ∨ cdW 69 ∈ lw_tbl := Or.inr (in_c4 (List.mem_of_getElem? (i := 103) rfl))
set_option maxRecDepth 100000 in
theorem cd_70 : Nat.beq (ck 70) 0 = true ∨ cdW 70 ∈ lw_tbl := Or.inr (in_c4 (List.mem_of_getElem? (i := 99) rfl))
set_option maxRecDepth 100000 in
theorem cd_71 : Nat.beq (ck 71) 0 = true ∨ cdW 71 ∈ lw_tbl := Or.inr (in_c4 (List.mem_of_getElem? (i := 174) rfl))
set_option maxRecDepth 100000 in
theorem cd_72 : Nat.beq (ck 72) 0 = true ∨ cdW 72 ∈ lw_tbl := Or.inr (in_c2 (List.mem_of_getElem? (i := 160) rfl))
set_option maxRecDepth 100000 in
theorem cd_73 : Nat.beq (ck 73) 0 = true ∨ cdW 73 ∈ lw_tbl := Or.inr (in_c2 (List.mem_of_getElem? (i := 137) rfl))
set_option maxRecDepth 100000 in
theorem cd_74 : Nat.beq (ck 74) 0 = true ∨ cdW 74 ∈ lw_tbl := Or.inr (in_c1 (List.mem_of_getElem? (i := 25) rfl))
set_option maxRecDepth 100000 in
theorem cd_75 : Nat.beq (ck 75) 0 = true ∨ cdW 75 ∈ lw_tbl := Or.inr (in_c2 (List.mem_of_getElem? (i := 198) rfl))
set_option maxRecDepth 100000 in
theorem cd_76 : Nat.beq (ck 76) 0 = true ∨ cdW 76 ∈ lw_tbl := Or.inr (in_c3 (List.mem_of_getElem? (i := 57) rfl))
set_option maxRecDepth 100000 in
theorem cd_77 : Nat.beq (ck 77) 0 = true ∨ cdW 77 ∈ lw_tbl := Or.inr (in_c3 (List.mem_of_getElem? (i := 71) rfl))
set_option maxRecDepth 100000 in
theorem cd_78 : Nat.beq (ck 78) 0 = true ∨ cdW 78 ∈ lw_tbl := Or.inr (in_c3 (List.mem_of_getElem? (i := 119) rfl))
set_option maxRecDepth 100000 in
theorem cd_79 : Nat.beq (ck 79) 0 = true ∨ cdW 79 ∈ lw_tbl := Or.inr (in_c3 (List.mem_of_getElem? (i := 136) rfl))
set_option maxRecDepth 100000 in
theorem cd_80 : Nat.beq (ck 80) 0 = true ∨ cdW 80 ∈ lw_tbl := Or.inr (in_c3 (List.mem_of_getElem? (i := 145) rfl))
set_option maxRecDepth 100000 in
theorem cd_81 : Nat.beq (ck 81) 0 = true ∨ cdW 81 ∈ lw_tbl := Or.inr (in_c3 (List.mem_of_getElem? (i := 178) rfl))
set_option maxRecDepth 100000 in
theorem cd_82 : Nat.beq (ck 82) 0 = true ∨ cdW 82 ∈ lw_tbl := Or.inr (in_c3 (List.mem_of_getElem? (i := 186) rfl))
set_option maxRecDepth 100000 in
theorem cd_83 : Nat.beq (ck 83) 0 = true ∨ cdW 83 ∈ lw_tbl := Or.inr (in_c4 (List.mem_of_getElem? (i := 124) rfl))
set_option maxRecDepth 100000 in
theorem cd_84 : Nat.beq (ck 84) 0 = true ∨ cdW 84 ∈ lw_tbl := Or.inr (in_c4 (List.mem_of_getElem? (i := 132) rfl))
set_option maxRecDepth 100000 in
theorem cd_85 : Nat.beq (ck 85) 0 = true ∨ cdW 85 ∈ lw_tbl := Or.inr (in_c4 (List.mem_of_getElem? (i := 140) rfl))
set_option maxRecDepth 100000 in
theorem cd_86 : Nat.beq (ck 86) 0 = true ∨ cdW 86 ∈ lw_tbl := Or.inr (in_c4 (List.mem_of_getElem? (i := 152) rfl))
set_option maxRecDepth 100000 in
theorem cd_87 : Nat.beq (ck 87) 0 = true ∨ cdW 87 ∈ lw_tbl := Or.inr (in_c4 (List.mem_of_getElem? (i := 160) rfl))
set_option maxRecDepth 100000 in
theorem cd_88 : Nat.beq (ck 88) 0 = true ∨ cdW 88 ∈ lw_tbl := Or.inr (in_c4 (List.mem_of_getElem? (i := 170) rfl))
set_option maxRecDepth 100000 in
theorem cd_89 : Nat.beq (ck 89) 0 = true ∨ cdW 89 ∈ lw_tbl := Or.inr (in_c4 (List.mem_of_getElem? (i := 184) rfl))
set_option maxRecDepth 100000 in
theorem cd_90 : Nat.beq (ck 90) 0 = true ∨ cdW 90 ∈ lw_tbl := Or.inr (in_c4 (List.mem_of_getElem? (i := 197) rfl))
set_option maxRecDepth 100000 in
theorem cd_91 : Nat.beq (ck 91) 0 = true ∨ cdW 91 ∈ lw_tbl := Or.inr (in_c4 (List.mem_of_getElem? (i := 205) rfl))
set_option maxRecDepth 100000 in
theorem cd_92 : Nat.beq (ck 92) 0 = true ∨ cdW 92 ∈ lw_tbl := Or.inr (in_c2 (List.mem_of_getElem? (i := 96) rfl))
set_option maxRecDepth 100000 in
theorem cd_93 : Nat.beq (ck 93) 0 = true ∨ cdW 93 ∈ lw_tbl := Or.inr (in_c4 (List.mem_of_getElem? (i := 213) rfl))
set_option maxRecDepth 100000 in
theorem cd_94 : Nat.beq (ck 94) 0 = true ∨ cdW 94 ∈ lw_tbl := Or.inr (in_c2 (List.mem_of_getElem? (i := 142) rfl))
set_option maxRecDepth 100000 in
theorem cd_95 : Nat.beq (ck 95) 0 = true ∨ cdW 95 ∈ lw_tbl := Or.inr (in_c2 (List.mem_of_getElem? (i := 189) rfl))
set_option maxRecDepth 100000 in
theorem cd_96 : Nat.beq (ck 96) 0 = true ∨ cdW 96 ∈ lw_tbl := Or.inr (in_c2 (List.mem_of_getElem? (i := 201) rfl))
set_option maxRecDepth 100000 in
theorem cd_97 : Nat.beq (ck 97) 0 = true ∨ cdW 97 ∈ lw_tbl := Or.inr (in_c3 (List.mem_of_getElem? (i := 95) rfl))
set_option maxRecDepth 100000 in
theorem cd_98 : Nat.beq (ck 98) 0 = true ∨ cdW 98 ∈ lw_tbl := Or.inr (in_c4 (List.mem_of_getElem? (i := 17) rfl))
set_option maxRecDepth 100000 in
theorem cd_99 : Nat.beq (ck 99) 0 = true ∨ cdW 99 ∈ lw_tbl := Or.inr (in_c3 (List.mem_of_getElem? (i := 204) rfl))
set_option maxRecDepth 100000 in
theorem cd_100 : Nat.beq (ck 100) 0 = true ∨ cdW 100 ∈ lw_tbl := Or.inr (in_c3 (List.mem_of_getElem? (i := 160) rfl))
set_option maxRecDepth 100000 in
theorem cd_101 : Nat.beq (ck 101) 0 = true ∨ cdW 101 ∈ lw_tbl := Or.inr (in_c2 (List.mem_of_getElem? (i := 107) rfl))
set_option maxRecDepth 100000 in
theorem cd_102 : Nat.beq (ck 102) 0 = true ∨ cdW 102 ∈ lw_tbl := Or.inr (in_c3 (List.mem_of_getElem? (i := 106) rfl))
set_option maxRecDepth 100000 in
theorem cd_103 : Nat.beq (ck 103) 0 = true ∨ cdW 103 ∈ lw_tbl := Or.inr (in_c4 (List.mem_of_getElem? (i := 219) rfl))
set_option maxRecDepth 100000 in
theorem cd_104 : Nat.beq (ck 104) 0 = true ∨ cdW 104 ∈ lw_tbl := Or.inr (in_c5 (List.mem_of_getElem? (i := 47) rfl))
set_option maxRecDepth 100000 in
theorem cd_105 : Nat.beq (ck 105) 0 = true ∨ cdW 105 ∈ lw_tbl := Or.inr (in_c5 (List.mem_of_getElem? (i := 61) rfl))
set_option maxRecDepth 100000 in
theorem cd_106 : Nat.beq (ck 106) 0 = true ∨ cdW 106 ∈ lw_tbl := Or.inr (in_c5 (List.mem_of_getElem? (i := 57) rfl))
set_option maxRecDepth 100000 in
theorem cd_107 : Nat.beq (ck 107) 0 = true ∨ cdW 107 ∈ lw_tbl := Or.inr (in_c5 (List.mem_of_getElem? (i := 54) rfl))
set_option maxRecDepth 100000 in
theorem cd_108 : Nat.beq (ck 108) 0 = true ∨ cdW 108 ∈ lw_tbl := Or.inr (in_c5 (List.mem_of_getElem? (i := 143) rfl))
set_option maxRecDepth 100000 in
theorem cd_109 : Nat.beq (ck 109) 0 = true ∨ cdW 109 ∈ lw_tbl := Or.inr (in_c5 (List.mem_of_getElem? (i := 81) rfl))
set_option maxRecDepth 100000 in
theorem cd_110 : Nat.beq (ck 110) 0 = true ∨ cdW 110 ∈ lw_tbl := Or.inr (in_c5 (List.mem_of_getElem? (i := 51) rfl))
set_option maxRecDepth 100000 in
theorem cd_111 : Nat.beq (ck 111) 0 = true ∨ cdW 111 ∈ lw_tbl := Or.inr (in_c5 (List.mem_of_getElem? (i := 66) rfl))
set_option maxRecDepth 100000 in
theorem cd_112 : Nat.beq (ck 112) 0 = true ∨ cdW 112 ∈ lw_tbl := Or.inr (in_c5 (List.mem_of_getElem? (i := 91) rfl))
set_option maxRecDepth 100000 in
theorem cd_113 : Nat.beq (ck 113) 0 = true ∨ cdW 113 ∈ lw_tbl := Or.inr (in_c5 (List.mem_of_getElem? (i := 85) rfl))
set_option maxRecDepth 100000 in
theorem cd_114 : Nat.beq (ck 114) 0 = true ∨ cdW 114 ∈ lw_tbl := Or.inr (in_c5 (List.mem_of_getElem? (i := 78) rfl))
set_option maxRecDepth 100000 in
theorem cd_115 : Nat.beq (ck 115) 0 = true ∨ cdW 115 ∈ lw_tbl := Or.inr (in_c5 (List.mem_of_getElem? (i := 74) rfl))
set_option maxRecDepth 100000 in
theorem cd_116 : Nat.beq (ck 116) 0 = true ∨ cdW 116 ∈ lw_tbl := Or.inr (in_c5 (List.mem_of_getElem? (i := 70) rfl))
set_option maxRecDepth 100000 in
theorem cd_117 : Nat.beq (ck 117) 0 = true ∨ cdW 117 ∈ lw_tbl := Or.inr (in_c5 (List.mem_of_getElem? (i := 101) rfl))
set_option maxRecDepth 100000 in
theorem cd_118 : Nat.beq (ck 118) 0 = true ∨ cdW 118 ∈ lw_tbl := Or.inr (in_c5 (List.mem_of_getElem? (i := 98) rfl))
set_option maxRecDepth 100000 in
theorem cd_119 : Nat.beq (ck 119) 0 = true ∨ cdW 119 ∈ lw_tbl := Or.inr (in_c5 (List.mem_of_getElem? (i := 106) rfl))
set_option maxRecDepth 100000 in
theorem cd_120 : Nat.beq (ck 120) 0 = true ∨ cdW 120 ∈ lw_tbl := Or.inr (in_c5 (List.mem_of_getElem? (i := 110) rfl))
set_option maxRecDepth 100000 in
theorem cd_121 : Nat.beq (ck 121) 0 = true ∨ cdW 121 ∈ lw_tbl := Or.inr (in_c5 (List.mem_of_getElem? (i := 123) rfl))
set_option maxRecDepth 100000 in
theorem cd_122 : Nat.beq (ck 122) 0 = true ∨ cdW 122 ∈ lw_tbl := Or.inr (in_c5 (List.mem_of_getElem? (i := 119) rfl))
set_option maxRecDepth 100000 in
theorem cd_123 : Nat.beq (ck 123) 0 = true ∨ cdW 123 ∈ lw_tbl := Or.inr (in_c5 (List.mem_of_getElem? (i := 115) rfl))
set_option maxRecDepth 100000 in
theorem cd_124 : Nat.beq (ck 124) 0 = true ∨ cdW 124 ∈ lw_tbl := Or.inr (in_c5 (List.mem_of_getElem? (i := 135) rfl))
set_option maxRecDepth 100000 in
theorem cd_125 : Nat.beq (ck 125) 0 = true ∨ cdW 125 ∈ lw_tbl := Or.inr (in_c5 (List.mem_of_getElem? (i := 139) rfl))
set_option maxRecDepth 100000 in
theorem cd_126 : Nat.beq (ck 126) 0 = true ∨ cdW 126 ∈ lw_tbl := Or.inr (in_c5 (List.mem_of_getElem? (i := 180) rfl))
set_option maxRecDepth 100000 in
theorem cd_127 : Nat.beq (ck 127) 0 = true ∨ cdW 127 ∈ lw_tbl := Or.inr (in_c5 (List.mem_of_getElem? (i := 131) rfl))
set_option maxRecDepth 100000 in
theorem cd_128 : Nat.beq (ck 128) 0 = true ∨ cdW 128 ∈ lw_tbl := Or.inr (in_c5 (List.mem_of_getElem? (i := 153) rfl))
set_option maxRecDepth 100000 in
theorem cd_129 : Nat.beq (ck 129) 0 = true ∨ cdW 129 ∈ lw_tbl := Or.inr (in_c5 (List.mem_of_getElem? (i := 157) rfl))
set_option maxRecDepth 100000 in
theorem cd_130 : Nat.beq (ck 130) 0 = true ∨ cdW 130 ∈ lw_tbl := Or.inr (in_c5 (List.mem_of_getElem? (i := 161) rfl))
set_option maxRecDepth 100000 in
theorem cd_131 : Nat.beq (ck 131) 0 = true ∨ cdW 131 ∈ lw_tbl := Or.inr (in_c5 (List.mem_of_getElem? (i := 148) rfl))
set_option maxRecDepth 100000 in
theorem cd_132 : Nat.beq (ck 132) 0 = true ∨ cdW 132 ∈ lw_tbl := Or.inr (in_c5 (List.mem_of_getElem? (i := 175) rfl))
set_option maxRecDepth 100000 in
theorem cd_133 : Nat.beq (ck 133) 0 = true ∨ cdW 133 ∈ lw_tbl := Or.inr (in_c5 (List.mem_of_getElem? (i := 172) rfl))
set_option maxRecDepth 100000 in
theorem cd_134 : Nat.beq (ck 134) 0 = true ∨ cdW 134 ∈ lw_tbl := Or.inr (in_c5 (List.mem_of_getElem? (i := 184) rfl))
set_option maxRecDepth 100000 in
theorem cd_135 : Nat.beq (ck 135) 0 = true ∨ cdW 135 ∈ lw_tbl := Or.inr (in_c5 (List.mem_of_getElem? (i := 168) rfl))
set_option maxRecDepth 100000 in
theorem cd_136 : Nat.beq (ck 136) 0 = true ∨ cdW 136 ∈ lw_tbl := Or.inr (in_c5 (List.mem_of_getElem? (i := 188) rfl))
set_option maxRecDepth 100000 in
theorem cd_137 : Nat.beq (ck 137) 0 = true ∨ cdW 137 ∈ lw_tbl := Or.inr (in_c5 (List.mem_of_getElem? (i := 197) rfl))
set_option maxRecDepth 100000 in
theorem cd_138 : Nat.beq (ck 138) 0 = true ∨ cdW 138 ∈ lw_tbl := Or.inr (in_c5 (List.mem_of_getElem? (i := 192) rfl))
set_option maxRecDepth 100000 in
theorem cd_139 : Nat.beq (ck 139) 0 = true ∨ cdW 139 ∈ lw_tbl := Or.inr (in_c5 (List.mem_of_getElem? (i := 201) rfl))
set_option maxRecDepth 100000 in
theorem cd_140 : Nat.beq (ck 140) 0 = true ∨ cdW 140 ∈ lw_tbl := Or.inr (in_c5 (List.mem_of_getElem? (i := 221) rfl))
set_option maxRecDepth 100000 in
theorem cd_141 : Nat.beq (ck 141) 0 = true ∨ cdW 141 ∈ lw_tbl := Or.inr (in_c5 (List.mem_of_getElem? (i := 227) rfl))
set_option maxRecDepth 100000 in
theorem cd_142 : Nat.beq (ck 142) 0 = true ∨ cdW 142 ∈ lw_tbl := Or.inr (in_c5 (List.mem_of_getElem? (i := 217) rfl))
set_option maxRecDepth 100000 in
theorem cd_143 : Nat.beq (ck 143) 0 = true ∨ cdW 143 ∈ lw_tbl := Or.inr (in_c5 (List.mem_of_getElem? (i := 213) rfl))
set_option maxRecDepth 100000 in
theorem cd_144 : Nat.beq (ck 144) 0 = true ∨ cdW 144 ∈ lw_tbl := Or.inr (in_c5 (List.mem_of_getElem? (i := 209) rfl))
set_option maxRecDepth 100000 in
theorem cd_145 : Nat.beq (ck 145) 0 = true ∨ cdW 145 ∈ lw_tbl := Or.inr (in_c5 (List.mem_of_getElem? (i := 232) rfl))
set_option maxRecDepth 100000 in
theorem cd_146 : Nat.beq (ck 146) 0 = true ∨ cdW 146 ∈ lw_tbl := Or.inr (in_c5 (List.mem_of_getElem? (i := 205) rfl))
set_option maxRecDepth 100000 in
theorem cd_147 : Nat.beq (ck 147) 0 = true ∨ cdW 147 ∈ lw_tbl := Or.inr (in_c5 (List.mem_of_getElem? (i := 127) rfl))
set_option maxRecDepth 100000 in
theorem cd_148 : Nat.beq (ck 148) 0 = true ∨ cdW 148 ∈ lw_tbl := Or.inr (in_c5 (List.mem_of_getElem? (i := 236) rfl))
set_option maxRecDepth 100000 in
theorem cd_149 : Nat.beq (ck 149) 0 = true ∨ cdW 149 ∈ lw_tbl := Or.inr (in_c6 (List.mem_of_getElem? (i := 4) rfl))
set_option maxRecDepth 100000 in
theorem cd_150 : Nat.beq (ck 150) 0 = true ∨ cdW 150 ∈ lw_tbl := Or.inr (in_c6 (List.mem_of_getElem? (i := 0) rfl))
set_option maxRecDepth 100000 in
theorem cd_151 : Nat.beq (ck 151) 0 = true ∨ cdW 151 ∈ lw_tbl := Or.inr (in_c6 (List.mem_of_getElem? (i := 8) rfl))
set_option maxRecDepth 100000 in
theorem cd_152 : Nat.beq (ck 152) 0 = true ∨ cdW 152 ∈ lw_tbl := Or.inr (in_c6 (List.mem_of_getElem? (i := 16) rfl))
set_option maxRecDepth 100000 in
theorem cd_153 : Nat.beq (ck 153) 0 = true ∨ cdW 153 ∈ lw_tbl := Or.inr (in_c6 (List.mem_of_getElem? (i := 20) rfl))
set_option maxRecDepth 100000 in
theorem cd_154 : Nat.beq (ck 154) 0 = true ∨ cdW 154 ∈ lw_tbl := Or.inr (in_c6 (List.mem_of_getElem? (i := 12) rfl))
set_option maxRecDepth 100000 in
theorem cd_155 : Nat.beq (ck 155) 0 = true ∨ cdW 155 ∈ lw_tbl := Or.inr (in_c6 (List.mem_of_getElem? (i := 24) rfl))
set_option maxRecDepth 100000 in
theorem cd_156 : Nat.beq (ck 156) 0 = true ∨ cdW 156 ∈ lw_tbl := Or.inr (in_c6 (List.mem_of_getElem? (i := 28) rfl))
set_option maxRecDepth 100000 in
theorem cd_157 : Nat.beq (ck 157) 0 = true ∨ cdW 157 ∈ lw_tbl := Or.inr (in_c6 (List.mem_of_getElem? (i := 37) rfl))
set_option maxRecDepth 100000 in
theorem cd_158 : Nat.beq (ck 158) 0 = true ∨ cdW 158 ∈ lw_tbl := Or.inr (in_c6 (List.mem_of_getElem? (i := 33) rfl))
set_option maxRecDepth 100000 in
theorem cd_159 : Nat.beq (ck 159) 0 = true ∨ cdW 159 ∈ lw_tbl := Or.inr (in_c6 (List.mem_of_getElem? (i := 42) rfl))
set_option maxRecDepth 100000 in
theorem cd_160 : Nat.beq (ck 160) 0 = true ∨ cdW 160 ∈ lw_tbl := Or.inr (in_c6 (List.mem_of_getElem? (i := 50) rfl))
set_option maxRecDepth 100000 in
theorem cd_161 : Nat.beq (ck 161) 0 = true ∨ cdW 161 ∈ lw_tbl := Or.inr (in_c6 (List.mem_of_getElem? (i := 46) rfl))
set_option maxRecDepth 100000 in
theorem cd_162 : Nat.beq (ck 162) 0 = true ∨ cdW 162 ∈ lw_tbl := Or.inr (in_c6 (List.mem_of_getElem? (i := 58) rfl))
set_option maxRecDepth 100000 in
theorem cd_163 : Nat.beq (ck 163) 0 = true ∨ cdW 163 ∈ lw_tbl := Or.inr (in_c6 (List.mem_of_getElem? (i := 54) rfl))
set_option maxRecDepth 100000 in
theorem cd_164 : Nat.beq (ck 164) 0 = true ∨ cdW 164 ∈ lw_tbl := Or.inr (in_c6 (List.mem_of_getElem? (i := 62) rfl))
set_option maxRecDepth 100000 in
theorem cd_165 : Nat.beq (ck 165) 0 = true ∨ cdW 165 ∈ lw_tbl := Or.inr (in_c6 (List.mem_of_getElem? (i := 66) rfl))
set_option maxRecDepth 100000 in
theorem cd_166 : Nat.beq (ck 166) 0 = true ∨ cdW 166 ∈ lw_tbl := Or.inr (in_c6 (List.mem_of_getElem? (i := 70) rfl))
set_option maxRecDepth 100000 in
theorem cd_167 : Nat.beq (ck 167) 0 = true ∨ cdW 167 ∈ lw_tbl := Or.inr (in_c3 (List.mem_of_getElem? (i := 220) rfl))
set_option maxRecDepth 100000 in
theorem cd_168 : Nat.beq (ck 168) 0 = true ∨ cdW 168 ∈ lw_tbl := Or.inr (in_c5 (List.mem_of_getElem? (i := 224) rfl))
set_option maxRecDepth 100000 in
theorem cd_169 : Nat.beq (ck 169) 0 = true ∨ cdW 169 ∈ lw_tbl := Or.inr (in_c3 (List.mem_of_getElem? (i := 129) rfl))
set_option maxRecDepth 100000 in
theorem cd_170 : Nat.beq (ck 170) 0 = true ∨ cdW 170 ∈ lw_tbl := Or.inr (in_c4 (List.mem_of_getElem? (i := 21) rfl))
set_option maxRecDepth 100000 in
theorem cd_171 : Nat.beq (ck 171) 0 = true ∨ cdW 171 ∈ lw_tbl := Or.inr (in_c5 (List.mem_of_getElem? (i := 94) rfl))
set_option maxRecDepth 100000 in
theorem cd_172 : Nat.beq (ck 172) 0 = true ∨ cdW 172 ∈ lw_tbl := Or.inr (in_c3 (List.mem_of_getElem? (i := 102) rfl))
set_option maxRecDepth 100000 in
theorem cd_173 : Nat.beq (ck 173) 0 = true ∨ cdW 173 ∈ lw_tbl := Or.inr (in_c3 (List.mem_of_getElem? (i := 112) rfl))
set_option maxRecDepth 100000 in
theorem cd_174 : Nat.beq (ck 174) 0 = true ∨ cdW 174 ∈ lw_tbl := Or.inr (in_c2 (List.mem_of_getElem? (i := 110) rfl))
set_option maxRecDepth 100000 in
theorem cd_175 : Nat.beq (ck 175) 0 = true ∨ cdW 175 ∈ lw_tbl := Or.inr (in_c3 (List.mem_of_getElem? (i := 109) rfl))
set_option maxRecDepth 100000 in
theorem cd_176 : Nat.beq (ck 176) 0 = true ∨ cdW 176 ∈ lw_tbl := Or.inr (in_c2 (List.mem_of_getElem? (i := 192) rfl))
set_option maxRecDepth 100000 in
theorem cd_177 : Nat.beq (ck 177) 0 = true ∨ cdW 177 ∈ lw_tbl := Or.inr (in_c3 (List.mem_of_getElem? (i := 53) rfl))
set_option maxRecDepth 100000 in
theorem cd_178 : Nat.beq (ck 178) 0 = true ∨ cdW 178 ∈ lw_tbl := Or.inr (in_c3 (List.mem_of_getElem? (i := 66) rfl))
set_option maxRecDepth 100000 in
theorem cd_179 : Nat.beq (ck 179) 0 = true ∨ cdW 179 ∈ lw_tbl := Or.inr (in_c3 (List.mem_of_getElem? (i := 115) rfl))
set_option maxRecDepth 100000 in
theorem cd_180 : Nat.beq (ck 180) 0 = true ∨ cdW 180 ∈ lw_tbl := Or.inr (in_c3 (List.mem_of_getElem? (i := 132) rfl))
set_option maxRecDepth 100000 in
theorem cd_181 : Nat.beq (ck 181) 0 = true ∨ cdW 181 ∈ lw_tbl := Or.inr (in_c3 (List.mem_of_getElem? (i := 141) rfl))
set_option maxRecDepth 100000 in
theorem cd_182 : Nat.beq (ck 182) 0 = true ∨ cdW 182 ∈ lw_tbl := Or.inr (in_c3 (List.mem_of_getElem? (i := 174) rfl))
set_option maxRecDepth 100000 in
theorem cd_183 : Nat.beq (ck 183) 0 = true ∨ cdW 183 ∈ lw_tbl := Or.inr (in_c3 (List.mem_of_getElem? (i := 182) rfl))
set_option maxRecDepth 100000 in
theorem cd_184 : Nat.beq (ck 184) 0 = true ∨ cdW 184 ∈ lw_tbl := Or.inr (in_c4 (List.mem_of_getElem? (i := 120) rfl))
set_option maxRecDepth 100000 in
theorem cd_185 : Nat.beq (ck 185) 0 = true ∨ cdW 185 ∈ lw_tbl := Or.inr (in_c4 (List.mem_of_getElem? (i := 128) rfl))
set_option maxRecDepth 100000 in
theorem cd_186 : Nat.beq (ck 186) 0 = true ∨ cdW 186 ∈ lw_tbl := Or.inr (in_c4 (List.mem_of_getElem? (i := 136) rfl))
set_option maxRecDepth 100000 in
theorem cd_187 : Nat.beq (ck 187) 0 = true ∨ cdW 187 ∈ lw_tbl := Or.inr (in_c4 (List.mem_of_getElem? (i := 148) rfl))
set_option maxRecDepth 100000 in
theorem cd_188 : Nat.beq (ck 188) 0 = true ∨ cdW 188 ∈ lw_tbl := Or.inr (in_c4 (List.mem_of_getElem? (i := 156) rfl))
set_option maxRecDepth 100000 in
theorem cd_189 : Nat.beq (ck 189) 0 = true ∨ cdW 189 ∈ lw_tbl := Or.inr (in_c4 (List.mem_of_getElem? (i := 166) rfl))
set_option maxRecDepth 100000 in
theorem cd_190 : Nat.beq (ck 190) 0 = true ∨ cdW 190 ∈ lw_tbl := Or.inr (in_c4 (List.mem_of_getElem? (i := 180) rfl))
set_option maxRecDepth 100000 in
theorem cd_191 : Nat.beq (ck 191) 0 = true ∨ cdW 191 ∈ lw_tbl := Or.inr (in_c4 (List.mem_of_getElem? (i := 193) rfl))
set_option maxRecDepth 100000 in
theorem cd_192 : Nat.beq (ck 192) 0 = true ∨ cdW 192 ∈ lw_tbl := Or.inr (in_c4 (List.mem_of_getElem? (i := 201) rfl))
set_option maxRecDepth 100000 in
theorem cd_193 : Nat.beq (ck 193) 0 = true ∨ cdW 193 ∈ lw_tbl := Or.inr (in_c4 (List.mem_of_getElem? (i := 209) rfl))
theorem cd_ok : ∀ k, k < 194 → Nat.beq (ck k) 0 = true ∨ cdW k ∈ lw_tbl
  | 0, _ => cd_0
  | 1, _ => cd_1
  | 2, _ => cd_2
  | 3, _ => cd_3
  | 4, _ => cd_4
  | 5, _ => cd_5
  | 6, _ => cd_6
  | 7, _ => cd_7
  | 8, _ => cd_8
  | 9, _ => cd_9
  | 10, _ => cd_10
  | 11, _ => cd_11
  | 12, _ => cd_12
  | 13, _ => cd_13
  | 14, _ => cd_14
  | 15, _ => cd_15
  | 16, _ => cd_16
  | 17, _ => cd_17
  | 18, _ => cd_18
  | 19, _ => cd_19
  | 20, _ => cd_20
  | 21, _ => cd_21
  | 22, _ => cd_22
  | 23, _ => cd_23
  | 24, _ => cd_24
  | 25, _ => cd_25
  | 26, _ => cd_26
  | 27, _ => cd_27
  | 28, _ => cd_28
  | 29, _ => cd_29
  | 30, _ => cd_30
  | 31, _ => cd_31
  | 32, _ => cd_32
  | 33, _ => cd_33
  | 34, _ => cd_34
  | 35, _ => cd_35
  | 36, _ => cd_36
  | 37, _ => cd_37
  | 38, _ => cd_38
  | 39, _ => cd_39
  | 40, _ => cd_40
  | 41, _ => cd_41
  | 42, _ => cd_42
  | 43, _ => cd_43
  | 44, _ => cd_44
  | 45, _ => cd_45
  | 46, _ => cd_46
  | 47, _ => cd_47
  | 48, _ => cd_48
  | 49, _ => cd_49
  | 50, _ => cd_50
  | 51, _ => cd_51
  | 52, _ => cd_52
  | 53, _ => cd_53
  | 54, _ => cd_54
  | 55, _ => cd_55
  | 56, _ => cd_56
  | 57, _ => cd_57
  | 58, _ => cd_58
  | 59, _ => cd_59
  | 60, _ => cd_60
  | 61, _ => cd_61
  | 62, _ => cd_62
  | 63, _ => cd_63
  | 64, _ => cd_64
  | 65, _ => cd_65
  | 66, _ => cd_66
  | 67, _ => cd_67
  | 68, _ => cd_68
  | 69, _ => cd_69
  | 70, _ => cd_70
  | 71, _ => cd_71
  | 72, _ => cd_72
  | 73, _ => cd_73
  | 74, _ => cd_74
  | 75, _ => cd_75
  | 76, _ => cd_76
  | 77, _ => cd_77
  | 78, _ => cd_78
  | 79, _ => cd_79
  | 80, _ => cd_80
  | 81, _ => cd_81
  | 82, _ => cd_82
  | 83, _ => cd_83
  | 84, _ => cd_84
  | 85, _ => cd_85
  | 86, _ => cd_86
  | 87, _ => cd_87
  | 88, _ => cd_88
  | 89, _ => cd_89
  | 90, _ => cd_90
  | 91, _ => cd_91
  | 92, _ => cd_92
  | 93, _ => cd_93
  | 94, _ => cd_94
  | 95, _ => cd_95
  | 96, _ => cd_96
  | 97, _ => cd_97
  | 98, _ => cd_98
  | 99, _ => cd_99
  | 100, _ => cd_100
  | 101, _ => cd_101
  | 102, _ => cd_102
  | 103, _ => cd_103
  | 104, _ => cd_104
  | 105, _ => cd_105
  | 106, _ => cd_106
  | 107, _ => cd_107
  | 108, _ => cd_108
  | 109, _ => cd_109
  | 110, _ => cd_110
  | 111, _ => cd_111
  | 112, _ => cd_112
  | 113, _ => cd_113
  | 114, _ => cd_114
  | 115, _ => cd_115
  | 116, _ => cd_116
  | 117, _ => cd_117
  | 118, _ => cd_118
  | 119, _ => cd_119
  | 120, _ => cd_120
  | 121, _ => cd_121
  | 122, _ => cd_122
  | 123, _ => cd_123
  | 124, _ => cd_124
  | 125, _ => cd_125
  | 126, _ => cd_126
  | 127, _ => cd_127
  | 128, _ => cd_128
  | 129, _ => cd_129
  | 130, _ => cd_130
  | 131, _ => cd_131
  | 132, _ => cd_132
  | 133, _ => cd_133
  | 134, _ => cd_134
  | 135, _ => cd_135
  | 136, _ => cd_136
  | 137, _ => cd_137
  | 138, _ => cd_138
  | 139, _ => cd_139
  | 140, _ => cd_140
  | 141, _ => cd_141
  | 142, _ => cd_142
  | 143, _ => cd_143
  | 144, _ => cd_144
  | 145, _ => cd_145
  | 146, _ => cd_146
  | 147, _ => cd_147
  | 148, _ => cd_148
  | 149, _ => cd_149
  | 150, _ => cd_150
  | 151, _ => cd_151
  | 152, _ => cd_152
  | 153, _ => cd_153
  | 154, _ => cd_154
  | 155, _ => cd_155
  | 156, _ => cd_156
  | 157, _ => cd_157
  | 158, _ => cd_158
  | 159, _ => cd_159
  | 160, _ => cd_160
  | 161, _ => cd_161
  | 162, _ => cd_162
  | 163, _ => cd_163
  | 164, _ => cd_164
  | 165, _ => cd_165
  | 166, _ => cd_166
  | 167, _ => cd_167
  | 168, _ => cd_168
  | 169, _ => cd_169
  | 170, _ => cd_170
  | 171, _ => cd_171
  | 172, _ => cd_172
  | 173, _ => cd_173
  | 174, _ => cd_174
  | 175, _ => cd_175
  | 176, _ => cd_176
  | 177, _ => cd_177
  | 178, _ => cd_178
  | 179, _ => cd_179
  | 180, _ => cd_180
  | 181, _ => cd_181
  | 182, _ => cd_182
  | 183, _ => cd_183
  | 184, _ => cd_184
  | 185, _ => cd_185
  | 186, _ => cd_186
  | 187, _ => cd_187
  | 188, _ => cd_188
  | 189, _ => cd_189
  | 190, _ => cd_190
  | 191, _ => cd_191
  | 192, _ => cd_192
  | 193, _ => cd_193
  | n + 194, h => absurd h (by omega)
/-- (own, entry, method, kind, link, static or instance, selects, initialized, parameters) -/
def mlT_0 : List (Nat × Nat × Nat × Nat × Nat × Nat × Nat × Nat × Nat) := [(10, 79, 74, 2, 78, 79, 0, 56, 0), (10, 82, 103, 2, 992, 993, 0, 65, 0), (10, 83, 176, 6, 485, 486, 0, 55, 5), (10, 88, 110, 1, 1063, 1064, 1065, 65, 3), (10, 89, 104, 1, 1059, 1060, 1061, 65, 0), (10, 92, 177, 6, 586, 587, 0, 55, 7), (10, 95, 111, 1, 1078, 1079, 1080, 65, 5), (10, 96, 178, 6, 599, 600, 0, 55, 5), (10, 98, 116, 1, 1082, 1083, 1084, 65, 3), (10, 99, 179, 6, 648, 649, 0, 55, 4), (10, 102, 118, 1, 1110, 1111, 1112, 65, 2), (10, 103, 180, 6, 665, 666, 0, 55, 6), (10, 106, 119, 1, 1118, 1119, 1120, 65, 4), (10, 107, 181, 6, 674, 675, 0, 55, 6), (10, 109, 120, 1, 1122, 1123, 1124, 65, 4), (10, 110, 182, 6, 707, 708, 0, 55, 4), (10, 112, 123, 1, 1127, 1128, 1129, 65, 2), (10, 113, 183, 6, 715, 716, 0, 55, 3), (10, 116, 147, 1, 1139, 1140, 1141, 65, 1), (10, 117, 184, 6, 893, 894, 0, 55, 3), (10, 119, 150, 1, 1252, 1253, 1254, 65, 1), (10, 120, 185, 6, 901, 902, 0, 55, 3), (10, 122, 151, 1, 1260, 1261, 1262, 65, 1), (10, 123, 186, 6, 909, 910, 0, 55, 4), (10, 125, 154, 1, 1264, 1265, 1266, 65, 2), (10, 126, 187, 6, 921, 922, 0, 55, 5), (10, 129, 155, 1, 1276, 1277, 1278, 65, 3), (10, 130, 188, 6, 929, 930, 0, 55, 3), (10, 133, 156, 1, 1280, 1281, 1282, 65, 1)]
def mlT_1 : List (Nat × Nat × Nat × Nat × Nat × Nat × Nat × Nat × Nat) := [(10, 134, 189, 6, 939, 940, 0, 55, 4), (10, 136, 158, 1, 1285, 1286, 1287, 65, 2), (10, 137, 190, 6, 953, 954, 0, 55, 3), (10, 139, 159, 1, 1294, 1295, 1296, 65, 1), (10, 140, 191, 6, 966, 967, 0, 55, 3), (10, 142, 161, 1, 1298, 1299, 1300, 65, 1), (10, 143, 192, 6, 974, 975, 0, 55, 4), (10, 145, 163, 1, 1306, 1307, 1308, 65, 2), (10, 146, 92, 1, 388, 389, 390, 56, 0), (10, 149, 164, 1, 1314, 1315, 1316, 65, 0), (10, 150, 193, 6, 982, 983, 0, 55, 2), (10, 153, 165, 1, 1318, 1319, 1320, 65, 0), (10, 154, 94, 1, 434, 435, 436, 56, 0), (10, 158, 166, 1, 1322, 1323, 1324, 65, 0), (0, 35, 2, 1, 692, 445, 446, 60, 0), (0, 39, 100, 3, 693, 694, 0, 56, 2), (0, 43, 97, 3, 696, 629, 0, 56, 2), (0, 47, 169, 0, 701, 663, 0, 73, 2), (0, 53, 172, 0, 702, 636, 0, 73, 2), (0, 56, 101, 3, 418, 401, 0, 56, 2), (1, 28, 95, 3, 482, 483, 0, 56, 3), (1, 32, 172, 0, 635, 636, 0, 73, 2), (1, 38, 174, 0, 638, 404, 0, 73, 2), (1, 41, 102, 3, 639, 640, 0, 56, 6), (1, 45, 175, 0, 642, 643, 0, 73, 2), (1, 48, 173, 0, 645, 646, 0, 73, 2), (1, 50, 101, 3, 413, 401, 0, 56, 2), (2, 27, 9, 5, 98, 99, 0, 59, 0), (2, 38, 97, 3, 628, 629, 0, 56, 2)]
def mlT_2 : List (Nat × Nat × Nat × Nat × Nat × Nat × Nat × Nat × Nat) := [(2, 45, 12, 1, 631, 632, 633, 59, 5), (2, 49, 19, 0, 659, 660, 0, 58, 2), (2, 53, 174, 0, 827, 404, 0, 73, 2), (2, 58, 172, 0, 828, 636, 0, 73, 2), (2, 61, 169, 0, 662, 663, 0, 73, 2), (2, 64, 101, 3, 400, 401, 0, 56, 2), (2, 68, 13, 1, 409, 410, 411, 59, 1), (3, 28, 174, 0, 464, 404, 0, 73, 2), (3, 34, 23, 1, 469, 461, 462, 62, 0), (3, 38, 101, 3, 428, 401, 0, 56, 2), (4, 22, 28, 1, 744, 746, 3, 64, 4), (4, 32, 29, 1, 749, 751, 4, 64, 2), (4, 36, 32, 1, 770, 772, 7, 64, 2), (4, 48, 97, 3, 748, 629, 0, 56, 2), (4, 64, 167, 0, 753, 754, 0, 74, 1), (4, 70, 30, 1, 759, 761, 5, 64, 2), (4, 74, 100, 3, 763, 694, 0, 56, 2), (4, 78, 31, 1, 764, 766, 6, 64, 3), (4, 82, 175, 0, 769, 643, 0, 73, 2), (5, 51, 99, 3, 846, 738, 0, 56, 2), (5, 55, 97, 3, 847, 629, 0, 56, 2), (5, 59, 38, 1, 852, 854, 13, 61, 2), (5, 63, 101, 3, 423, 401, 0, 56, 2), (6, 11, 14, 5, 92, 93, 0, 58, 0), (6, 20, 1, 5, 152, 153, 0, 60, 0), (6, 27, 33, 5, 188, 189, 0, 61, 0), (6, 34, 21, 5, 221, 222, 0, 62, 0), (6, 70, 60, 5, 245, 246, 0, 63, 0), (6, 74, 16, 1, 686, 625, 626, 58, 3)]
def mlT_3 : List (Nat × Nat × Nat × Nat × Nat × Nat × Nat × Nat × Nat) := [(6, 78, 17, 1, 687, 656, 657, 58, 2), (6, 82, 3, 1, 688, 689, 690, 60, 4), (6, 86, 4, 1, 697, 698, 699, 60, 5), (6, 90, 5, 1, 703, 704, 705, 60, 4), (6, 94, 6, 1, 728, 729, 730, 60, 0), (6, 97, 62, 1, 732, 733, 734, 63, 1), (6, 101, 27, 1, 740, 741, 742, 64, 4), (6, 107, 44, 1, 774, 776, 8, 57, 1), (6, 110, 46, 1, 818, 820, 10, 57, 1), (6, 113, 47, 1, 829, 831, 11, 57, 1), (6, 116, 48, 1, 837, 839, 12, 57, 0), (6, 119, 50, 1, 860, 862, 15, 57, 0), (6, 131, 52, 1, 880, 882, 18, 57, 1), (6, 134, 54, 1, 884, 886, 19, 57, 0), (6, 137, 37, 1, 888, 889, 890, 61, 1), (6, 140, 167, 0, 892, 754, 0, 74, 1), (6, 146, 45, 1, 778, 780, 9, 57, 2), (6, 150, 22, 1, 806, 807, 808, 62, 4), (6, 154, 34, 1, 810, 811, 812, 61, 3), (6, 157, 67, 1, 814, 815, 816, 63, 0), (6, 164, 66, 1, 782, 783, 784, 63, 0), (6, 175, 63, 1, 786, 787, 788, 63, 5), (6, 178, 65, 1, 802, 803, 804, 63, 0), (6, 182, 100, 3, 822, 694, 0, 56, 2), (6, 186, 18, 1, 823, 824, 825, 58, 3), (6, 190, 61, 1, 833, 834, 835, 63, 4), (6, 193, 97, 3, 841, 629, 0, 56, 2), (6, 207, 35, 1, 842, 843, 844, 61, 4), (6, 213, 36, 1, 848, 849, 850, 61, 1)]
def mlT_4 : List (Nat × Nat × Nat × Nat × Nat × Nat × Nat × Nat × Nat) := [(6, 216, 49, 1, 856, 858, 14, 57, 0), (6, 219, 51, 1, 864, 866, 16, 57, 2), (6, 222, 68, 1, 868, 869, 870, 63, 1), (6, 231, 53, 1, 474, 476, 1, 57, 2), (6, 235, 11, 1, 478, 479, 480, 59, 3), (6, 247, 2, 1, 444, 445, 446, 60, 0), (6, 250, 56, 1, 448, 450, 0, 57, 0), (6, 257, 71, 1, 965, 947, 948, 63, 1), (6, 261, 20, 1, 396, 397, 398, 58, 1), (6, 265, 8, 1, 414, 415, 416, 60, 1), (6, 268, 39, 1, 419, 420, 421, 61, 1), (6, 271, 25, 1, 424, 425, 426, 62, 1), (6, 274, 73, 1, 429, 430, 431, 63, 1), (7, 56, 99, 3, 737, 738, 0, 56, 2), (7, 60, 98, 3, 790, 791, 0, 56, 2), (7, 63, 64, 0, 797, 798, 0, 63, 1), (7, 67, 174, 0, 800, 404, 0, 73, 2), (7, 72, 172, 0, 801, 636, 0, 73, 2), (7, 75, 70, 0, 872, 873, 0, 63, 4), (7, 79, 69, 1, 875, 877, 17, 63, 1), (7, 83, 102, 3, 879, 640, 0, 56, 6), (7, 91, 97, 3, 951, 629, 0, 56, 2), (7, 95, 175, 0, 952, 643, 0, 73, 2), (7, 97, 101, 3, 433, 401, 0, 56, 2), (8, 11, 40, 2, 86, 87, 0, 57, 0), (8, 21, 26, 5, 360, 361, 0, 64, 0), (8, 30, 96, 0, 494, 495, 0, 56, 2), (8, 34, 95, 0, 497, 483, 0, 56, 3), (8, 60, 15, 1, 582, 583, 584, 58, 3)]
def mlT_5 : List (Nat × Nat × Nat × Nat × Nat × Nat × Nat × Nat × Nat) := [(8, 80, 10, 1, 595, 596, 597, 59, 4), (8, 91, 16, 1, 624, 625, 626, 58, 3), (8, 94, 17, 1, 655, 656, 657, 58, 2), (8, 116, 42, 1, 682, 683, 684, 57, 4), (8, 128, 7, 1, 456, 457, 458, 60, 2), (8, 138, 43, 1, 724, 725, 726, 57, 2), (8, 144, 55, 1, 440, 441, 442, 57, 1), (8, 162, 41, 1, 916, 917, 918, 57, 1), (8, 168, 72, 1, 452, 453, 454, 63, 1), (8, 190, 97, 0, 937, 629, 0, 56, 2), (8, 196, 71, 1, 946, 947, 948, 63, 1), (8, 202, 57, 1, 961, 962, 963, 57, 1), (8, 208, 58, 1, 470, 471, 472, 57, 1), (8, 215, 23, 1, 460, 461, 462, 62, 0), (8, 223, 24, 1, 465, 466, 467, 62, 2), (8, 224, 59, 1, 392, 393, 394, 57, 1), (8, 236, 170, 0, 794, 795, 0, 73, 2), (8, 241, 174, 0, 403, 404, 0, 73, 2), (9, 59, 106, 0, 1070, 1071, 0, 65, 3), (9, 65, 170, 0, 1159, 795, 0, 73, 2), (9, 71, 107, 0, 1067, 1068, 0, 65, 2), (9, 75, 105, 1, 1073, 1075, 20, 65, 1), (9, 85, 171, 0, 1107, 1108, 0, 73, 1), (9, 104, 112, 1, 1103, 1105, 24, 65, 4), (9, 108, 109, 0, 1094, 1095, 0, 65, 2), (9, 111, 113, 1, 1097, 1099, 23, 65, 5), (9, 115, 115, 1, 1086, 1088, 21, 65, 1), (9, 119, 114, 1, 1090, 1092, 22, 65, 3), (9, 122, 169, 0, 1117, 663, 0, 73, 2)]
def mlT_6 : List (Nat × Nat × Nat × Nat × Nat × Nat × Nat × Nat × Nat) := [(9, 125, 117, 0, 1114, 1115, 0, 65, 2), (9, 128, 172, 0, 1126, 636, 0, 73, 2), (9, 131, 122, 1, 1131, 1133, 25, 65, 0), (9, 135, 121, 1, 1135, 1137, 26, 65, 2), (9, 138, 174, 0, 1191, 404, 0, 73, 2), (9, 141, 124, 1, 1147, 1149, 28, 65, 2), (9, 144, 125, 1, 1151, 1153, 29, 65, 3), (9, 150, 108, 0, 1156, 1157, 0, 65, 2), (9, 158, 128, 1, 1165, 1167, 31, 65, 2), (9, 162, 129, 1, 1169, 1171, 32, 65, 3), (9, 165, 130, 1, 1173, 1175, 33, 65, 3), (9, 169, 173, 0, 1178, 646, 0, 73, 2), (9, 171, 167, 0, 1179, 754, 0, 74, 1), (9, 176, 132, 0, 1188, 1189, 0, 65, 1), (9, 179, 126, 1, 1192, 1194, 36, 65, 3), (9, 182, 133, 1, 1184, 1186, 35, 65, 2), (9, 186, 134, 1, 1196, 1198, 37, 65, 1), (9, 192, 137, 1, 1209, 1211, 40, 65, 2), (9, 195, 168, 0, 1237, 1238, 0, 75, 1), (9, 201, 175, 0, 1243, 643, 0, 73, 2), (9, 203, 140, 1, 1233, 1235, 46, 65, 3), (9, 207, 141, 0, 1240, 1241, 0, 65, 3), (9, 211, 142, 1, 1229, 1231, 45, 65, 3), (9, 215, 144, 1, 1221, 1223, 43, 65, 1), (9, 218, 143, 1, 1225, 1227, 44, 65, 2), (9, 221, 145, 1, 1244, 1246, 47, 65, 2), (9, 224, 127, 1, 1143, 1145, 27, 65, 1), (9, 227, 131, 1, 1160, 1162, 30, 65, 0), (9, 230, 135, 1, 1180, 1182, 34, 65, 1)]
def mlT_7 : List (Nat × Nat × Nat × Nat × Nat × Nat × Nat × Nat × Nat) := [(9, 233, 136, 1, 1200, 1202, 38, 65, 0), (9, 236, 138, 1, 1204, 1206, 39, 65, 1), (9, 239, 139, 1, 1213, 1215, 41, 65, 0), (9, 242, 146, 1, 1217, 1219, 42, 65, 0), (9, 245, 148, 1, 1248, 1250, 48, 65, 0), (9, 248, 149, 1, 1256, 1258, 49, 65, 1), (9, 251, 152, 1, 1268, 1270, 50, 65, 1), (9, 254, 153, 1, 1272, 1274, 51, 65, 2), (9, 261, 157, 1, 1289, 1291, 52, 65, 2), (9, 264, 160, 1, 1302, 1304, 53, 65, 1), (9, 267, 162, 1, 1310, 1312, 54, 65, 0), (10, 7, 75, 1, 490, 491, 492, 56, 3), (10, 17, 76, 1, 589, 590, 591, 56, 5), (10, 21, 77, 1, 603, 604, 605, 56, 3), (10, 27, 78, 1, 651, 652, 653, 56, 2), (10, 31, 79, 1, 668, 669, 670, 56, 4), (10, 35, 80, 1, 677, 678, 679, 56, 4), (10, 38, 81, 1, 710, 711, 712, 56, 2), (10, 41, 82, 1, 718, 719, 720, 56, 1), (10, 45, 83, 1, 896, 897, 898, 56, 1), (10, 48, 84, 1, 904, 905, 906, 56, 1), (10, 51, 85, 1, 912, 913, 914, 56, 2), (10, 54, 86, 1, 924, 925, 926, 56, 3), (10, 58, 87, 1, 932, 933, 934, 56, 1), (10, 62, 88, 1, 942, 943, 944, 56, 2), (10, 66, 89, 1, 956, 957, 958, 56, 1), (10, 69, 90, 1, 969, 970, 971, 56, 1), (10, 72, 91, 1, 977, 978, 979, 56, 2), (10, 75, 93, 1, 985, 986, 987, 56, 0)]
def mlT : List (Nat × Nat × Nat × Nat × Nat × Nat × Nat × Nat × Nat) := mlT_0 ++ (mlT_1 ++ (mlT_2 ++ (mlT_3 ++ (mlT_4 ++ (mlT_5 ++ (mlT_6 ++ (mlT_7)))))))
def hostN : String := "CoastRadar"
def lkW (o idx k kind : Nat) : Cond := bif Nat.beq kind 3 || Nat.beq kind 4 || Nat.beq kind 5 then Cond.methodLinkNest (clsT.getD o "") idx (mNm k) hostN else Cond.methodLink (clsT.getD o "") idx (mNm k)
def axW (k kind : Nat) : Cond := bif Nat.beq kind 0 || Nat.beq kind 3 || Nat.beq kind 6 then Cond.static (mNm k) else Cond.instanceMethod (mNm k)
def mlOk (q : Nat × Nat × Nat × Nat × Nat × Nat × Nat × Nat × Nat) : Bool := match q with
  | (o, idx, k, kind, p1, p2, p3, p4, n) => decide (lw_tbl[p1]? = some (lkW o idx k kind)) && decide (lw_tbl[p2]? = some (axW k kind)) && ((!(Nat.beq kind 1 || Nat.beq kind 4)) || decide (lw_tbl[p3]? = some (Cond.selects (mNm k).cls (mNm k) (mNm k)))) && decide (lw_tbl[p4]? = some (Cond.initialized (mNm k).cls)) && ((!(Nat.beq kind 2 || Nat.beq kind 5)) || decide ((mNm k).name = "<init>" ∧ mRt k = none)) && decide ((mNm k).cls ≠ "java/lang/invoke/MethodHandle" ∧ (mNm k).cls ≠ "java/lang/invoke/VarHandle" ∧ (parseMethodDescriptor (mNm k).desc).map (fun d => d.parameters.length) = some n) && (Nat.beq (ck k) (bif Nat.beq kind 6 then 2 else 1)) && Nat.blt k 194 && decide ((mNm k).cls = mOw k) && Nat.ble (mML k) 18 && plainFor (mNm k)
theorem mlT_ok0 : mlT_0.all mlOk = true := by decide +kernel
theorem mlT_ok1 : mlT_1.all mlOk = true := by decide +kernel
theorem mlT_ok2 : mlT_2.all mlOk = true := by decide +kernel
theorem mlT_ok3 : mlT_3.all mlOk = true := by decide +kernel
theorem mlT_ok4 : mlT_4.all mlOk = true := by decide +kernel
theorem mlT_ok5 : mlT_5.all mlOk = true := by decide +kernel
theorem mlT_ok6 : mlT_6.all mlOk = true := by decide +kernel
theorem mlT_ok7 : mlT_7.all mlOk = true := by decide +kernel
theorem mlT_ok : mlT.all mlOk = true := by simp only [mlT, List.all_append, Bool.and_eq_true]; exact ⟨mlT_ok0, mlT_ok1, mlT_ok2, mlT_ok3, mlT_ok4, mlT_ok5, mlT_ok6, mlT_ok7⟩
def lw_good : List Cond := lw_tbl.filter goodWord
theorem in_good {i : Nat} {w : Cond} (h : lw_tbl[i]? = some w) (hg : goodWord w = true) : w ∈ lw_good := List.mem_filter.mpr ⟨List.mem_of_getElem? h, hg⟩
