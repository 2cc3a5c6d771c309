/-! ===== the program and the words of the tables (printed by wip/p23/gen_tables.py) ===== -/
def clsT : List String := [RX0, RX1, RX2, RX3, RX4, RX5, RX6, RX7, RX8, RX9, RL, RJ6, RJ9]
def mNms : List MethodName := [yL_law, yX0_init, yX0_waitingCount, yX0_findToMerge, yX0_merge, yX0_put, yX0_startSweep, yX0_tell, yX1_init, yX1_put, yX1_holds, yX1_isCutBy, yX2_init, yX2_putStation, yX2_isInSight, yX2_clutterAt, yX2_changeClutter, yX2_fieldOf, yX3_init, yX3_note, yX3_keptCount, yX3_tell, yX4_init, yX4_join, yX4_measure, yX4_computeCosts, yX4_leastCost, yX4_costWith, yX4_firstBest, yX5_init, yX5_put, yX5_findNearest, yX5_forget, yX5_forgetAhead, yX5_move, yX6_init, yX6_find, yX6_takeBlip, yX6_passOver, yX6_updateTracks, yX6_updateTrack, yX6_updateClutter, yX6_beginTracks, yX6_knowAgain, yX6_sortTracks, yX6_noteCrossings, yX6_areFirm, yX6_noteArea, yX6_isFirmIn, yX6_nameBlips, yX6_tellCount, yX6_countFirm, yX6_namesInArea, yX7_init, yX7_begin, yX7_expect, yX7_follow, yX7_limitedSpeed, yX7_countJoin, yX7_countMiss, yX7_hasEnded, yX7_hasCrossed, yX7_hasOnOneHand, yX7_rangesMeet, yX7_tell, yX8_init, yX8_addStation, yX8_addPlace, yX8_sees, yX8_level, yX8_tune, yX8_report, yX8_blip, yX8_sweep, yX8_count, yX8_name, yX8_track, yX8_path, yX8_inside, yX8_event, yX8_isWithin, yX8_isPlace, yX8_square, yX8_roundedQuotient, yX8_way, yX8_isInSet, yX8_side, yX9_init, yX9_more, yX9_inside, yJ6_bitCount_0f7a4, yJ9_floorDiv_7cf53, yJ9_floorDiv_f86c9, yJ9_abs_0f7a4, yJ9_max_7cf53, yJ9_max_f86c9, yJ9_min_7cf53, yJ9_min_f86c9, yL_below, yL_cell, yL_coast]
def mBys : List ByteArray := [cL_law, cX0_init, cX0_waitingCount, cX0_findToMerge, cX0_merge, cX0_put, cX0_startSweep, cX0_tell, cX1_init, cX1_put, cX1_holds, cX1_isCutBy, cX2_init, cX2_putStation, cX2_isInSight, cX2_clutterAt, cX2_changeClutter, cX2_fieldOf, cX3_init, cX3_note, cX3_keptCount, cX3_tell, cX4_init, cX4_join, cX4_measure, cX4_computeCosts, cX4_leastCost, cX4_costWith, cX4_firstBest, cX5_init, cX5_put, cX5_findNearest, cX5_forget, cX5_forgetAhead, cX5_move, cX6_init, cX6_find, cX6_takeBlip, cX6_passOver, cX6_updateTracks, cX6_updateTrack, cX6_updateClutter, cX6_beginTracks, cX6_knowAgain, cX6_sortTracks, cX6_noteCrossings, cX6_areFirm, cX6_noteArea, cX6_isFirmIn, cX6_nameBlips, cX6_tellCount, cX6_countFirm, cX6_namesInArea, cX7_init, cX7_begin, cX7_expect, cX7_follow, cX7_limitedSpeed, cX7_countJoin, cX7_countMiss, cX7_hasEnded, cX7_hasCrossed, cX7_hasOnOneHand, cX7_rangesMeet, cX7_tell, cX8_init, cX8_addStation, cX8_addPlace, cX8_sees, cX8_level, cX8_tune, cX8_report, cX8_blip, cX8_sweep, cX8_count, cX8_name, cX8_track, cX8_path, cX8_inside, cX8_event, cX8_isWithin, cX8_isPlace, cX8_square, cX8_roundedQuotient, cX8_way, cX8_isInSet, cX8_side, cX9_init, cX9_more, cX9_inside, cJ6_bitCount_0f7a4, cJ9_floorDiv_7cf53, cJ9_floorDiv_f86c9, cJ9_abs_0f7a4, cJ9_max_7cf53, cJ9_max_f86c9, cJ9_min_7cf53, cJ9_min_f86c9, cL_below, cL_cell, cL_coast]
def mRts : List (Option FieldType) := [(some .boolean), none, (some .int), (some .int), none, (some .boolean), none, (some .int), none, (some .int), (some .boolean), (some .boolean), none, (some .int), (some .boolean), (some .int), none, (some .int), none, none, (some .int), (some .int), none, (some .int), none, none, (some .long), (some .long), (some .int), none, none, (some .int), none, none, none, none, (some (.object "CoastRadar$Track")), (some .int), (some .int), none, (some .int), none, none, none, none, none, (some .boolean), none, (some .boolean), none, (some .int), (some .int), (some .int), none, none, none, none, (some .int), (some .int), (some .int), (some .boolean), (some .boolean), (some .boolean), (some .boolean), (some .int), none, (some .int), (some .int), (some .boolean), (some .int), (some .int), (some .int), (some .int), (some .int), (some .int), (some .int), (some .int), (some .int), (some .int), (some .int), (some .boolean), (some .boolean), (some .long), (some .int), (some .int), (some .boolean), (some .long), none, (some (.array (.array .int))), (some .boolean), (some .int), (some .int), (some .long), (some .int), (some .int), (some .long), (some .int), (some .long), (some .int), (some .int), (some (.object "CoastRadarLaw$Sim"))]
def mOs : List Nat := [10, 0, 0, 0, 0, 0, 0, 0, 1, 1, 1, 1, 2, 2, 2, 2, 2, 2, 3, 3, 3, 3, 4, 4, 4, 4, 4, 4, 4, 5, 5, 5, 5, 5, 5, 6, 6, 6, 6, 6, 6, 6, 6, 6, 6, 6, 6, 6, 6, 6, 6, 6, 6, 7, 7, 7, 7, 7, 7, 7, 7, 7, 7, 7, 7, 8, 8, 8, 8, 8, 8, 8, 8, 8, 8, 8, 8, 8, 8, 8, 8, 8, 8, 8, 8, 8, 8, 9, 9, 9, 11, 12, 12, 12, 12, 12, 12, 12, 10, 10, 10]
def deps : List Nat := [8, 1, 1, 2, 2, 2, 2, 1, 1, 1, 2, 2, 2, 1, 3, 3, 3, 2, 1, 1, 2, 3, 1, 4, 2, 3, 2, 1, 2, 1, 1, 2, 2, 2, 1, 3, 1, 4, 6, 5, 4, 4, 2, 3, 1, 4, 1, 4, 3, 1, 2, 1, 4, 1, 1, 2, 3, 2, 1, 1, 1, 3, 2, 2, 1, 4, 6, 6, 6, 6, 6, 6, 6, 7, 6, 6, 6, 6, 6, 6, 1, 2, 1, 2, 1, 1, 1, 1, 1, 1, 1, 1, 1, 1, 1, 1, 1, 1, 1, 1, 7]
def mNm (k : Nat) : MethodName := mNms.getD k ⟨"", "", ""⟩
def mBy (k : Nat) : ByteArray := mBys.getD k ByteArray.empty
def mRt (k : Nat) : Option FieldType := mRts.getD k none
def mO (k : Nat) : Nat := mOs.getD k 0
def mOw (k : Nat) : String := clsT.getD (mO k) ""
def dp (k : Nat) : Nat := deps.getD k 0
def T0 : u_T := fun _ => ("", "", "", false)
abbrev mCl : List vw_C := vwCl ++ [("java/lang/IllegalArgumentException", T0, 0), ("java/lang/IllegalStateException", T0, 0), ("java/lang/IndexOutOfBoundsException", T0, 0)]
def exN (E : Nat) : String := ["java/lang/IllegalArgumentException", "java/lang/IllegalStateException", "java/lang/IndexOutOfBoundsException"].getD E ""
/-- kinds of fields: 0 int, 1 long, 2 reference -/
def fkT : List (List Nat) := [[2, 2, 2, 2, 2, 0, 0], [2, 2, 2, 2, 0], [2, 2, 2, 0, 2, 2, 2], [2, 2, 2, 2, 0], [2, 2, 2], [2, 2, 2, 2, 2, 2, 2, 0], [2, 2, 2, 2, 2, 0, 0, 0, 0, 0, 0, 0, 0], [0, 2, 2, 0, 0, 0, 0, 0, 0, 0, 0, 0], [2, 2, 2, 0], [2, 2, 2, 2, 0, 0, 0, 0, 2, 2, 2, 2, 0, 0, 0, 2, 0, 1]]
def fkd (ci j : Nat) : Nat := (fkT.getD ci []).getD j 0
def fnum (ci : Nat) : Nat := (fkT.getD ci []).length
def TXs : List u_T := [TX0, TX1, TX2, TX3, TX4, TX5, TX6, TX7, TX8, TX9]
def tyXs : List (Nat → FieldType) := [tyX0, tyX1, tyX2, tyX3, tyX4, tyX5, tyX6, tyX7, tyX8, tyX9]
def TX (ci : Nat) : u_T := TXs.getD ci T0
def tyX (ci : Nat) : Nat → FieldType := tyXs.getD ci (fun _ => .int)
/-- (own class, entry, class, field, place among the words) -/
def flT : List (Nat × Nat × Nat × Nat × Nat) := [(1, 9, 1, 0, 66), (1, 15, 1, 1, 67), (1, 18, 1, 2, 68), (1, 21, 1, 3, 69), (1, 24, 1, 4, 70), (2, 42, 1, 4, 71), (8, 73, 1, 4, 72), (6, 126, 1, 4, 73), (2, 9, 2, 0, 86), (2, 15, 2, 1, 87), (2, 18, 2, 2, 88), (2, 21, 2, 3, 89), (8, 49, 2, 3, 90), (6, 241, 2, 3, 91), (2, 28, 2, 4, 92), (8, 70, 2, 4, 93), (6, 244, 2, 4, 94), (2, 32, 2, 5, 95), (8, 66, 2, 5, 96), (6, 122, 2, 5, 97), (2, 35, 2, 6, 98), (0, 9, 0, 0, 120), (4, 52, 0, 0, 121), (6, 168, 0, 0, 122), (0, 15, 0, 1, 123), (4, 58, 0, 1, 124), (6, 172, 0, 1, 125), (0, 18, 0, 2, 126), (0, 21, 0, 3, 127), (0, 24, 0, 4, 128), (6, 238, 0, 4, 129), (0, 27, 0, 5, 130), (4, 26, 0, 5, 131), (6, 181, 0, 5, 132), (8, 123, 0, 5, 133), (0, 31, 0, 6, 134), (5, 9, 5, 0, 156), (6, 211, 5, 0, 157), (5, 15, 5, 1, 158), (5, 18, 5, 2, 159), (5, 21, 5, 3, 160), (5, 24, 5, 4, 161), (5, 27, 5, 5, 162), (5, 30, 5, 6, 163), (5, 33, 5, 7, 164), (6, 253, 5, 7, 165), (3, 9, 3, 0, 189), (3, 15, 3, 1, 190), (3, 18, 3, 2, 191), (3, 21, 3, 3, 192), (3, 24, 3, 4, 193), (6, 254, 3, 4, 194), (7, 9, 7, 0, 213), (6, 71, 7, 0, 214), (5, 37, 7, 0, 215), (8, 157, 7, 0, 216), (7, 15, 7, 1, 217), (5, 41, 7, 1, 218), (4, 55, 7, 1, 219), (6, 201, 7, 1, 220), (8, 175, 7, 1, 221), (7, 19, 7, 2, 222), (5, 44, 7, 2, 223), (4, 61, 7, 2, 224), (6, 204, 7, 2, 225), (8, 179, 7, 2, 226), (7, 22, 7, 3, 227), (5, 47, 7, 3, 228), (7, 25, 7, 4, 229), (5, 49, 7, 4, 230), (7, 28, 7, 5, 231), (6, 226, 7, 5, 232), (7, 31, 7, 6, 233), (7, 34, 7, 7, 234), (4, 45, 7, 7, 235), (7, 37, 7, 8, 236), (8, 170, 7, 8, 237), (7, 40, 7, 9, 238), (4, 40, 7, 9, 239), (6, 161, 7, 9, 240), (7, 43, 7, 10, 241), (6, 229, 7, 10, 242), (7, 46, 7, 11, 243), (6, 197, 7, 11, 244), (6, 12, 6, 0, 270), (8, 45, 6, 0, 271), (6, 21, 6, 1, 272), (8, 119, 6, 1, 273), (6, 28, 6, 2, 274), (6, 35, 6, 3, 275), (8, 211, 6, 3, 276), (6, 41, 6, 4, 277), (8, 153, 6, 4, 278), (6, 45, 6, 5, 279), (8, 148, 6, 5, 280), (6, 49, 6, 6, 281), (8, 105, 6, 6, 282), (6, 52, 6, 7, 283), (8, 102, 6, 7, 284), (6, 55, 6, 8, 285), (8, 108, 6, 8, 286), (6, 58, 6, 9, 287), (8, 111, 6, 9, 288), (6, 61, 6, 10, 289), (8, 133, 6, 10, 290), (6, 64, 6, 11, 291), (6, 67, 6, 12, 292), (4, 9, 4, 0, 326), (4, 15, 4, 1, 327), (4, 19, 4, 2, 328), (8, 12, 8, 0, 337), (8, 16, 8, 1, 338), (8, 22, 8, 2, 339), (8, 26, 8, 3, 340), (9, 9, 9, 0, 820), (10, 22, 9, 0, 821), (9, 15, 9, 1, 822), (10, 39, 9, 1, 823), (9, 18, 9, 2, 824), (10, 36, 9, 2, 825), (9, 21, 9, 3, 826), (9, 24, 9, 4, 827), (9, 28, 9, 5, 828), (9, 31, 9, 6, 829), (9, 34, 9, 7, 830), (9, 37, 9, 8, 831), (9, 42, 9, 9, 832), (9, 46, 9, 10, 833), (9, 49, 9, 11, 834)]
def flOk (q : Nat × Nat × Nat × Nat × Nat) : Bool := decide (lw_tbl[q.2.2.2.2]? = some (Cond.fieldLink (clsT.getD q.1 "") q.2.1 (clsT.getD q.2.2.1 "") (TX q.2.2.1 q.2.2.2.1).2.1 (TX q.2.2.1 q.2.2.2.1).2.2.1)) && Nat.blt q.2.2.2.1 (fnum q.2.2.1) && Nat.blt q.2.2.1 10 && decide ((TX q.2.2.1 q.2.2.2.1).1 = clsT.getD q.2.2.1 "")
theorem flT_ok : flT.all flOk = true := by decide +kernel
def clT : List (Nat × Nat × Nat × Nat × Nat × Nat) := [(10, 31, 8, 40, 41, 21), (8, 9, 6, 48, 49, 22), (6, 9, 2, 54, 55, 23), (2, 25, 1, 60, 61, 24), (6, 18, 0, 114, 115, 25), (6, 25, 5, 150, 151, 26), (6, 32, 3, 183, 184, 27), (6, 39, 7, 206, 208, 28), (8, 19, 4, 320, 321, 29), (10, 9, 9, 810, 811, 30)]
def clOk (q : Nat × Nat × Nat × Nat × Nat × Nat) : Bool := decide (lw_tbl[q.2.2.2.1]? = some (Cond.classLink (clsT.getD q.1 "") q.2.1 (clsT.getD q.2.2.1 ""))) && decide (lw_tbl[q.2.2.2.2.1]? = some (Cond.instantiable (clsT.getD q.2.2.1 "") (fnum q.2.2.1))) && decide (lw_tbl[q.2.2.2.2.2]? = some (Cond.initialized (clsT.getD q.2.2.1 ""))) && Nat.blt q.2.2.1 10
theorem clT_ok : clT.all clOk = true := by decide +kernel
def cpT : List Nat := [0, 118, 508, 504, 516, 522, 560, 531, 64, 894, 722, 454, 58, 884, 447, 477, 657, 480, 187, 640, 786, 792, 324, 574, 578, 583, 593, 598, 604, 154, 644, 676, 682, 731, 686, 52, 759, 498, 556, 608, 612, 652, 663, 671, 690, 694, 698, 714, 718, 727, 741, 746, 778, 211, 667, 564, 620, 630, 636, 616, 648, 702, 709, 705, 764, 44, 878, 888, 353, 473, 487, 493, 526, 535, 736, 750, 755, 768, 773, 782, 356, 427, 450, 623, 570, 511, 463, 814, 874, 797, 586, 483, 627, 897, 457, 469, 460, 466, 801, 805, 809]
/-- 0 the law, 1 a plain method, 2 one with a table of its own -/
def ckT : List Nat := [0, 1, 1, 1, 1, 1, 1, 1, 1, 1, 1, 1, 1, 1, 1, 1, 1, 1, 1, 1, 1, 1, 1, 1, 1, 1, 1, 1, 1, 1, 1, 1, 1, 1, 1, 1, 1, 1, 1, 1, 1, 1, 1, 1, 1, 1, 1, 1, 1, 1, 1, 1, 1, 1, 1, 1, 1, 1, 1, 1, 1, 1, 1, 1, 1, 1, 1, 1, 1, 1, 1, 1, 1, 1, 1, 1, 1, 1, 1, 1, 1, 1, 1, 1, 1, 1, 1, 1, 1, 1, 1, 1, 1, 1, 1, 1, 1, 1, 1, 1, 1]
def ck (k : Nat) : Nat := ckT.getD k 0
def hhT : List (Nat × List (Nat × Nat × Nat × Nat)) := []
def hh (k : Nat) : List (Nat × Nat × Nat × Nat) := lookH [] hhT k
def cdW (k : Nat) : Cond := bif Nat.beq (ck k) 2 then Cond.codeWith (mNm k) (mBy k) (mML k) (mRt k) (hh k) else Cond.code (mNm k) (mBy k) (mML k) (mRt k)
def cdOk (k : Nat) : Bool := Nat.beq (ck k) 0 || decide (lw_tbl[cpT.getD k 0]? = some (cdW k))
theorem in_c1 {w : Cond} (h : w ∈ tables_1_1) : w ∈ lw_tbl := List.mem_append_right _ (List.mem_append_left _ h)
theorem in_c2 {w : Cond} (h : w ∈ tables_1_2) : w ∈ lw_tbl := List.mem_append_right _ (List.mem_append_right _ (List.mem_append_left _ h))
theorem in_c3 {w : Cond} (h : w ∈ tables_1_3) : w ∈ lw_tbl := List.mem_append_right _ (List.mem_append_right _ (List.mem_append_right _ (List.mem_append_left _ h)))
theorem in_c4 {w : Cond} (h : w ∈ tables_1_4) : w ∈ lw_tbl := List.mem_append_right _ (List.mem_append_right _ (List.mem_append_right _ (List.mem_append_right _ h)))
theorem cd_0 : Nat.beq (ck 0) 0 = true ∨ cdW 0 ∈ lw_tbl := Or.inl rfl
set_option maxRecDepth 100000 in
theorem cd_1 : Nat.beq (ck 1) 0 = true ∨ cdW 1 ∈ lw_tbl := Or.inr (in_c1 (List.mem_of_getElem? (i := 98) rfl))
set_option maxRecDepth 100000 in
theorem cd_2 : Nat.beq (ck 2) 0 = true ∨ cdW 2 ∈ lw_tbl := Or.inr (in_c3 (List.mem_of_getElem? (i := 8) rfl))
set_option maxRecDepth 100000 in
theorem cd_3 : Nat.beq (ck 3) 0 = true ∨ cdW 3 ∈ lw_tbl := Or.inr (in_c3 (List.mem_of_getElem? (i := 4) rfl))
set_option maxRecDepth 100000 in
theorem cd_4 : Nat.beq (ck 4) 0 = true ∨ cdW 4 ∈ lw_tbl := Or.inr (in_c3 (List.mem_of_getElem? (i := 16) rfl))
set_option maxRecDepth 100000 in
theorem cd_5 : Nat.beq (ck 5) 0 = true ∨ cdW 5 ∈ lw_tbl := Or.inr (in_c3 (List.mem_of_getElem? (i := 22) rfl))
set_option maxRecDepth 100000 in
theorem cd_6 : Nat.beq (ck 6) 0 = true ∨ cdW 6 ∈ lw_tbl := Or.inr (in_c3 (List.mem_of_getElem? (i := 60) rfl))
set_option maxRecDepth 100000 in
theorem cd_7 : Nat.beq (ck 7) 0 = true ∨ cdW 7 ∈ lw_tbl := Or.inr (in_c3 (List.mem_of_getElem? (i := 31) rfl))
set_option maxRecDepth 100000 in
theorem cd_8 : Nat.beq (ck 8) 0 = true ∨ cdW 8 ∈ lw_tbl := Or.inr (in_c1 (List.mem_of_getElem? (i := 44) rfl))
set_option maxRecDepth 100000 in
theorem cd_9 : Nat.beq (ck 9) 0 = true ∨ cdW 9 ∈ lw_tbl := Or.inr (in_c4 (List.mem_of_getElem? (i := 154) rfl))
set_option maxRecDepth 100000 in
theorem cd_10 : Nat.beq (ck 10) 0 = true ∨ cdW 10 ∈ lw_tbl := Or.inr (in_c3 (List.mem_of_getElem? (i := 222) rfl))
set_option maxRecDepth 100000 in
theorem cd_11 : Nat.beq (ck 11) 0 = true ∨ cdW 11 ∈ lw_tbl := Or.inr (in_c2 (List.mem_of_getElem? (i := 194) rfl))
set_option maxRecDepth 100000 in
theorem cd_12 : Nat.beq (ck 12) 0 = true ∨ cdW 12 ∈ lw_tbl := Or.inr (in_c1 (List.mem_of_getElem? (i := 38) rfl))
set_option maxRecDepth 100000 in
theorem cd_13 : Nat.beq (ck 13) 0 = true ∨ cdW 13 ∈ lw_tbl := Or.inr (in_c4 (List.mem_of_getElem? (i := 144) rfl))
set_option maxRecDepth 100000 in
theorem cd_14 : Nat.beq (ck 14) 0 = true ∨ cdW 14 ∈ lw_tbl := Or.inr (in_c2 (List.mem_of_getElem? (i := 187) rfl))
set_option maxRecDepth 100000 in
theorem cd_15 : Nat.beq (ck 15) 0 = true ∨ cdW 15 ∈ lw_tbl := Or.inr (in_c2 (List.mem_of_getElem? (i := 217) rfl))
set_option maxRecDepth 100000 in
theorem cd_16 : Nat.beq (ck 16) 0 = true ∨ cdW 16 ∈ lw_tbl := Or.inr (in_c3 (List.mem_of_getElem? (i := 157) rfl))
set_option maxRecDepth 100000 in
theorem cd_17 : Nat.beq (ck 17) 0 = true ∨ cdW 17 ∈ lw_tbl := Or.inr (in_c2 (List.mem_of_getElem? (i := 220) rfl))
set_option maxRecDepth 100000 in
theorem cd_18 : Nat.beq (ck 18) 0 = true ∨ cdW 18 ∈ lw_tbl := Or.inr (in_c1 (List.mem_of_getElem? (i := 167) rfl))
set_option maxRecDepth 100000 in
theorem cd_19 : Nat.beq (ck 19) 0 = true ∨ cdW 19 ∈ lw_tbl := Or.inr (in_c3 (List.mem_of_getElem? (i := 140) rfl))
set_option maxRecDepth 100000 in
theorem cd_20 : Nat.beq (ck 20) 0 = true ∨ cdW 20 ∈ lw_tbl := Or.inr (in_c4 (List.mem_of_getElem? (i := 46) rfl))
set_option maxRecDepth 100000 in
theorem cd_21 : Nat.beq (ck 21) 0 = true ∨ cdW 21 ∈ lw_tbl := Or.inr (in_c4 (List.mem_of_getElem? (i := 52) rfl))
set_option maxRecDepth 100000 in
theorem cd_22 : Nat.beq (ck 22) 0 = true ∨ cdW 22 ∈ lw_tbl := Or.inr (in_c2 (List.mem_of_getElem? (i := 64) rfl))
set_option maxRecDepth 100000 in
theorem cd_23 : Nat.beq (ck 23) 0 = true ∨ cdW 23 ∈ lw_tbl := Or.inr (in_c3 (List.mem_of_getElem? (i := 74) rfl))
set_option maxRecDepth 100000 in
theorem cd_24 : Nat.beq (ck 24) 0 = true ∨ cdW 24 ∈ lw_tbl := Or.inr (in_c3 (List.mem_of_getElem? (i := 78) rfl))
set_option maxRecDepth 100000 in
theorem cd_25 : Nat.beq (ck 25) 0 = true ∨ cdW 25 ∈ lw_tbl := Or.inr (in_c3 (List.mem_of_getElem? (i := 83) rfl))
set_option maxRecDepth 100000 in
theorem cd_26 : Nat.beq (ck 26) 0 = true ∨ cdW 26 ∈ lw_tbl := Or.inr (in_c3 (List.mem_of_getElem? (i := 93) rfl))
set_option maxRecDepth 100000 in
theorem cd_27 : Nat.beq (ck 27) 0 = true ∨ cdW 27 ∈ lw_tbl := Or.inr (in_c3 (List.mem_of_getElem? (i := 98) rfl))
set_option maxRecDepth 100000 in
theorem cd_28 : Nat.beq (ck 28) 0 = true ∨ cdW 28 ∈ lw_tbl := Or.inr (in_c3 (List.mem_of_getElem? (i := 104) rfl))
set_option maxRecDepth 100000 in
theorem cd_29 : Nat.beq (ck 29) 0 = true ∨ cdW 29 ∈ lw_tbl := Or.inr (in_c1 (List.mem_of_getElem? (i := 134) rfl))
set_option maxRecDepth 100000 in
theorem cd_30 : Nat.beq (ck 30) 0 = true ∨ cdW 30 ∈ lw_tbl := Or.inr (in_c3 (List.mem_of_getElem? (i := 144) rfl))
set_option maxRecDepth 100000 in
theorem cd_31 : Nat.beq (ck 31) 0 = true ∨ cdW 31 ∈ lw_tbl := Or.inr (in_c3 (List.mem_of_getElem? (i := 176) rfl))
set_option maxRecDepth 100000 in
theorem cd_32 : Nat.beq (ck 32) 0 = true ∨ cdW 32 ∈ lw_tbl := Or.inr (in_c3 (List.mem_of_getElem? (i := 182) rfl))
set_option maxRecDepth 100000 in
theorem cd_33 : Nat.beq (ck 33) 0 = true ∨ cdW 33 ∈ lw_tbl := Or.inr (in_c3 (List.mem_of_getElem? (i := 231) rfl))
set_option maxRecDepth 100000 in
theorem cd_34 : Nat.beq (ck 34) 0 = true ∨ cdW 34 ∈ lw_tbl := Or.inr (in_c3 (List.mem_of_getElem? (i := 186) rfl))
set_option maxRecDepth 100000 in
theorem cd_35 : Nat.beq (ck 35) 0 = true ∨ cdW 35 ∈ lw_tbl := Or.inr (in_c1 (List.mem_of_getElem? (i := 32) rfl))
set_option maxRecDepth 100000 in
theorem cd_36 : Nat.beq (ck 36) 0 = true ∨ cdW 36 ∈ lw_tbl := Or.inr (in_c4 (List.mem_of_getElem? (i := 19) rfl))
set_option maxRecDepth 100000 in
theorem cd_37 : Nat.beq (ck 37) 0 = true ∨ cdW 37 ∈ lw_tbl := Or.inr (in_c2 (List.mem_of_getElem? (i := 238) rfl))
set_option maxRecDepth 100000 in
theorem cd_38 : Nat.beq (ck 38) 0 = true ∨ cdW 38 ∈ lw_tbl := Or.inr (in_c3 (List.mem_of_getElem? (i := 56) rfl))
set_option maxRecDepth 100000 in
theorem cd_39 : Nat.beq (ck 39) 0 = true ∨ cdW 39 ∈ lw_tbl := Or.inr (in_c3 (List.mem_of_getElem? (i := 108) rfl))
set_option maxRecDepth 100000 in
theorem cd_40 : Nat.beq (ck 40) 0 = true ∨ cdW 40 ∈ lw_tbl := Or.inr (in_c3 (List.mem_of_getElem? (i := 112) rfl))
set_option maxRecDepth 100000 in
theorem cd_41 : Nat.beq (ck 41) 0 = true ∨ cdW 41 ∈ lw_tbl := Or.inr (in_c3 (List.mem_of_getElem? (i := 152) rfl))
set_option maxRecDepth 100000 in
theorem cd_42 : Nat.beq (ck 42) 0 = true ∨ cdW 42 ∈ lw_tbl := Or.inr (in_c3 (List.mem_of_getElem? (i := 163) rfl))
set_option maxRecDepth 100000 in
theorem cd_43 : Nat.beq (ck 43) 0 = true ∨ cdW 43 ∈ lw_tbl := Or.inr (in_c3 (List.mem_of_getElem? (i := 171) rfl))
set_option maxRecDepth 100000 in
theorem cd_44 : Nat.beq (ck 44) 0 = true ∨ cdW 44 ∈ lw_tbl := Or.inr (in_c3 (List.mem_of_getElem? (i := 190) rfl))
set_option maxRecDepth 100000 in
theorem cd_45 : Nat.beq (ck 45) 0 = true ∨ cdW 45 ∈ lw_tbl := Or.inr (in_c3 (List.mem_of_getElem? (i := 194) rfl))
set_option maxRecDepth 100000 in
theorem cd_46 : Nat.beq (ck 46) 0 = true ∨ cdW 46 ∈ lw_tbl := Or.inr (in_c3 (List.mem_of_getElem? (i := 198) rfl))
set_option maxRecDepth 100000 in
theorem cd_47 : Nat.beq (ck 47) 0 = true ∨ cdW 47 ∈ lw_tbl := Or.inr (in_c3 (List.mem_of_getElem? (i := 214) rfl))
set_option maxRecDepth 100000 in
theorem cd_48 : Nat.beq (ck 48) 0 = true ∨ cdW 48 ∈ lw_tbl := Or.inr (in_c3 (List.mem_of_getElem? (i := 218) rfl))
set_option maxRecDepth 100000 in
theorem cd_49 : Nat.beq (ck 49) 0 = true ∨ cdW 49 ∈ lw_tbl := Or.inr (in_c3 (List.mem_of_getElem? (i := 227) rfl))
set_option maxRecDepth 100000 in
theorem cd_50 : Nat.beq (ck 50) 0 = true ∨ cdW 50 ∈ lw_tbl := Or.inr (in_c4 (List.mem_of_getElem? (i := 1) rfl))
set_option maxRecDepth 100000 in
theorem cd_51 : Nat.beq (ck 51) 0 = true ∨ cdW 51 ∈ lw_tbl := Or.inr (in_c4 (List.mem_of_getElem? (i := 6) rfl))
set_option maxRecDepth 100000 in
theorem cd_52 : Nat.beq (ck 52) 0 = true ∨ cdW 52 ∈ lw_tbl := Or.inr (in_c4 (List.mem_of_getElem? (i := 38) rfl))
set_option maxRecDepth 100000 in
theorem cd_53 : Nat.beq (ck 53) 0 = true ∨ cdW 53 ∈ lw_tbl := Or.inr (in_c1 (List.mem_of_getElem? (i := 191) rfl))
set_option maxRecDepth 100000 in
theorem cd_54 : Nat.beq (ck 54) 0 = true ∨ cdW 54 ∈ lw_tbl := Or.inr (in_c3 (List.mem_of_getElem? (i := 167) rfl))
set_option maxRecDepth 100000 in
theorem cd_55 : Nat.beq (ck 55) 0 = true ∨ cdW 55 ∈ lw_tbl := Or.inr (in_c3 (List.mem_of_getElem? (i := 64) rfl))
set_option maxRecDepth 100000 in
theorem cd_56 : Nat.beq (ck 56) 0 = true ∨ cdW 56 ∈ lw_tbl := Or.inr (in_c3 (List.mem_of_getElem? (i := 120) rfl))
set_option maxRecDepth 100000 in
theorem cd_57 : Nat.beq (ck 57) 0 = true ∨ cdW 57 ∈ lw_tbl := Or.inr (in_c3 (List.mem_of_getElem? (i := 130) rfl))
set_option maxRecDepth 100000 in
theorem cd_58 : Nat.beq (ck 58) 0 = true ∨ cdW 58 ∈ lw_tbl := Or.inr (in_c3 (List.mem_of_getElem? (i := 136) rfl))
set_option maxRecDepth 100000 in
theorem cd_59 : Nat.beq (ck 59) 0 = true ∨ cdW 59 ∈ lw_tbl := Or.inr (in_c3 (List.mem_of_getElem? (i := 116) rfl))
set_option maxRecDepth 100000 in
theorem cd_60 : Nat.beq (ck 60) 0 = true ∨ cdW 60 ∈ lw_tbl := Or.inr (in_c3 (List.mem_of_getElem? (i := 148) rfl))
set_option maxRecDepth 100000 in
theorem cd_61 : Nat.beq (ck 61) 0 = true ∨ cdW 61 ∈ lw_tbl := Or.inr (in_c3 (List.mem_of_getElem? (i := 202) rfl))
set_option maxRecDepth 100000 in
theorem cd_62 : Nat.beq (ck 62) 0 = true ∨ cdW 62 ∈ lw_tbl := Or.inr (in_c3 (List.mem_of_getElem? (i := 209) rfl))
set_option maxRecDepth 100000 in
theorem cd_63 : Nat.beq (ck 63) 0 = true ∨ cdW 63 ∈ lw_tbl := Or.inr (in_c3 (List.mem_of_getElem? (i := 205) rfl))
set_option maxRecDepth 100000 in
theorem cd_64 : Nat.beq (ck 64) 0 = true ∨ cdW 64 ∈ lw_tbl := Or.inr (in_c4 (List.mem_of_getElem? (i := 24) rfl))
set_option maxRecDepth 100000 in
theorem cd_65 : Nat.beq (ck 65) 0 = true ∨ cdW 65 ∈ lw_tbl := Or.inr (in_c1 (List.mem_of_getElem? (i := 24) rfl))
set_option maxRecDepth 100000 in
theorem cd_66 : Nat.beq (ck 66) 0 = true ∨ cdW 66 ∈ lw_tbl := Or.inr (in_c4 (List.mem_of_getElem? (i := 138) rfl))
set_option maxRecDepth 100000 in
theorem cd_67 : Nat.beq (ck 67) 0 = true ∨ cdW 67 ∈ lw_tbl := Or.inr (in_c4 (List.mem_of_getElem? (i := 148) rfl))
set_option maxRecDepth 100000 in
theorem cd_68 : Nat.beq (ck 68) 0 = true ∨ cdW 68 ∈ lw_tbl := Or.inr (in_c2 (List.mem_of_getElem? (i := 93) rfl))
set_option maxRecDepth 100000 in
theorem cd_69 : Nat.beq (ck 69) 0 = true ∨ cdW 69 ∈ lw_tbl := Or.inr (in_c2 (List.mem_of_getElem? (i := 213) rfl))
set_option maxRecDepth 100000 in
theorem cd_70 : Nat.beq (ck 70) 0 = true ∨ cdW 70 ∈ lw_tbl := Or.inr (in_c2 (List.mem_of_getElem? (i := 227) rfl))
set_option maxRecDepth 100000 in
theorem cd_71 : Nat.beq (ck 71) 0 = true ∨ cdW 71 ∈ lw_tbl := Or.inr (in_c2 (List.mem_of_getElem? (i := 233) rfl))
set_option maxRecDepth 100000 in
theorem cd_72 : Nat.beq (ck 72) 0 = true ∨ cdW 72 ∈ lw_tbl := Or.inr (in_c3 (List.mem_of_getElem? (i := 26) rfl))
set_option maxRecDepth 100000 in
theorem cd_73 : Nat.beq (ck 73) 0 = true ∨ cdW 73 ∈ lw_tbl := Or.inr (in_c3 (List.mem_of_getElem? (i := 35) rfl))
set_option maxRecDepth 100000 in
theorem cd_74 : Nat.beq (ck 74) 0 = true ∨ cdW 74 ∈ lw_tbl := Or.inr (in_c3 (List.mem_of_getElem? (i := 236) rfl))
set_option maxRecDepth 100000 in
theorem cd_75 : Nat.beq (ck 75) 0 = true ∨ cdW 75 ∈ lw_tbl := Or.inr (in_c4 (List.mem_of_getElem? (i := 10) rfl))
set_option maxRecDepth 100000 in
theorem cd_76 : Nat.beq (ck 76) 0 = true ∨ cdW 76 ∈ lw_tbl := Or.inr (in_c4 (List.mem_of_getElem? (i := 15) rfl))
set_option maxRecDepth 100000 in
theorem cd_77 : Nat.beq (ck 77) 0 = true ∨ cdW 77 ∈ lw_tbl := Or.inr (in_c4 (List.mem_of_getElem? (i := 28) rfl))
set_option maxRecDepth 100000 in
theorem cd_78 : Nat.beq (ck 78) 0 = true ∨ cdW 78 ∈ lw_tbl := Or.inr (in_c4 (List.mem_of_getElem? (i := 33) rfl))
set_option maxRecDepth 100000 in
theorem cd_79 : Nat.beq (ck 79) 0 = true ∨ cdW 79 ∈ lw_tbl := Or.inr (in_c4 (List.mem_of_getElem? (i := 42) rfl))
set_option maxRecDepth 100000 in
theorem cd_80 : Nat.beq (ck 80) 0 = true ∨ cdW 80 ∈ lw_tbl := Or.inr (in_c2 (List.mem_of_getElem? (i := 96) rfl))
set_option maxRecDepth 100000 in
theorem cd_81 : Nat.beq (ck 81) 0 = true ∨ cdW 81 ∈ lw_tbl := Or.inr (in_c2 (List.mem_of_getElem? (i := 167) rfl))
set_option maxRecDepth 100000 in
theorem cd_82 : Nat.beq (ck 82) 0 = true ∨ cdW 82 ∈ lw_tbl := Or.inr (in_c2 (List.mem_of_getElem? (i := 190) rfl))
set_option maxRecDepth 100000 in
theorem cd_83 : Nat.beq (ck 83) 0 = true ∨ cdW 83 ∈ lw_tbl := Or.inr (in_c3 (List.mem_of_getElem? (i := 123) rfl))
set_option maxRecDepth 100000 in
theorem cd_84 : Nat.beq (ck 84) 0 = true ∨ cdW 84 ∈ lw_tbl := Or.inr (in_c3 (List.mem_of_getElem? (i := 70) rfl))
set_option maxRecDepth 100000 in
theorem cd_85 : Nat.beq (ck 85) 0 = true ∨ cdW 85 ∈ lw_tbl := Or.inr (in_c3 (List.mem_of_getElem? (i := 11) rfl))
set_option maxRecDepth 100000 in
theorem cd_86 : Nat.beq (ck 86) 0 = true ∨ cdW 86 ∈ lw_tbl := Or.inr (in_c2 (List.mem_of_getElem? (i := 203) rfl))
set_option maxRecDepth 100000 in
theorem cd_87 : Nat.beq (ck 87) 0 = true ∨ cdW 87 ∈ lw_tbl := Or.inr (in_c4 (List.mem_of_getElem? (i := 74) rfl))
set_option maxRecDepth 100000 in
theorem cd_88 : Nat.beq (ck 88) 0 = true ∨ cdW 88 ∈ lw_tbl := Or.inr (in_c4 (List.mem_of_getElem? (i := 134) rfl))
set_option maxRecDepth 100000 in
theorem cd_89 : Nat.beq (ck 89) 0 = true ∨ cdW 89 ∈ lw_tbl := Or.inr (in_c4 (List.mem_of_getElem? (i := 57) rfl))
set_option maxRecDepth 100000 in
theorem cd_90 : Nat.beq (ck 90) 0 = true ∨ cdW 90 ∈ lw_tbl := Or.inr (in_c3 (List.mem_of_getElem? (i := 86) rfl))
set_option maxRecDepth 100000 in
theorem cd_91 : Nat.beq (ck 91) 0 = true ∨ cdW 91 ∈ lw_tbl := Or.inr (in_c2 (List.mem_of_getElem? (i := 223) rfl))
set_option maxRecDepth 100000 in
theorem cd_92 : Nat.beq (ck 92) 0 = true ∨ cdW 92 ∈ lw_tbl := Or.inr (in_c3 (List.mem_of_getElem? (i := 127) rfl))
set_option maxRecDepth 100000 in
theorem cd_93 : Nat.beq (ck 93) 0 = true ∨ cdW 93 ∈ lw_tbl := Or.inr (in_c4 (List.mem_of_getElem? (i := 157) rfl))
set_option maxRecDepth 100000 in
theorem cd_94 : Nat.beq (ck 94) 0 = true ∨ cdW 94 ∈ lw_tbl := Or.inr (in_c2 (List.mem_of_getElem? (i := 197) rfl))
set_option maxRecDepth 100000 in
theorem cd_95 : Nat.beq (ck 95) 0 = true ∨ cdW 95 ∈ lw_tbl := Or.inr (in_c2 (List.mem_of_getElem? (i := 209) rfl))
set_option maxRecDepth 100000 in
theorem cd_96 : Nat.beq (ck 96) 0 = true ∨ cdW 96 ∈ lw_tbl := Or.inr (in_c2 (List.mem_of_getElem? (i := 200) rfl))
set_option maxRecDepth 100000 in
theorem cd_97 : Nat.beq (ck 97) 0 = true ∨ cdW 97 ∈ lw_tbl := Or.inr (in_c2 (List.mem_of_getElem? (i := 206) rfl))
set_option maxRecDepth 100000 in
theorem cd_98 : Nat.beq (ck 98) 0 = true ∨ cdW 98 ∈ lw_tbl := Or.inr (in_c4 (List.mem_of_getElem? (i := 61) rfl))
set_option maxRecDepth 100000 in
theorem cd_99 : Nat.beq (ck 99) 0 = true ∨ cdW 99 ∈ lw_tbl := Or.inr (in_c4 (List.mem_of_getElem? (i := 65) rfl))
set_option maxRecDepth 100000 in
theorem cd_100 : Nat.beq (ck 100) 0 = true ∨ cdW 100 ∈ lw_tbl := Or.inr (in_c4 (List.mem_of_getElem? (i := 69) rfl))
theorem cd_ok : ∀ k, k < 101 → Nat.beq (ck k) 0 = true ∨ cdW k ∈ lw_tbl
  | 0, _ => cd_0
  | 1, _ => cd_1
  | 2, _ => cd_2
  | 3, _ => cd_3
  | 4, _ => cd_4
  | 5, _ => cd_5
  | 6, _ => cd_6
  | 7, _ => cd_7
  | 8, _ => cd_8
  | 9, _ => cd_9
  | 10, _ => cd_10
  | 11, _ => cd_11
  | 12, _ => cd_12
  | 13, _ => cd_13
  | 14, _ => cd_14
  | 15, _ => cd_15
  | 16, _ => cd_16
  | 17, _ => cd_17
  | 18, _ => cd_18
  | 19, _ => cd_19
  | 20, _ => cd_20
  | 21, _ => cd_21
  | 22, _ => cd_22
  | 23, _ => cd_23
  | 24, _ => cd_24
  | 25, _ => cd_25
  | 26, _ => cd_26
  | 27, _ => cd_27
  | 28, _ => cd_28
  | 29, _ => cd_29
  | 30, _ => cd_30
  | 31, _ => cd_31
  | 32, _ => cd_32
  | 33, _ => cd_33
  | 34, _ => cd_34
  | 35, _ => cd_35
  | 36, _ => cd_36
  | 37, _ => cd_37
  | 38, _ => cd_38
  | 39, _ => cd_39
  | 40, _ => cd_40
  | 41, _ => cd_41
  | 42, _ => cd_42
  | 43, _ => cd_43
  | 44, _ => cd_44
  | 45, _ => cd_45
  | 46, _ => cd_46
  | 47, _ => cd_47
  | 48, _ => cd_48
  | 49, _ => cd_49
  | 50, _ => cd_50
  | 51, _ => cd_51
  | 52, _ => cd_52
  | 53, _ => cd_53
  | 54, _ => cd_54
  | 55, _ => cd_55
  | 56, _ => cd_56
  | 57, _ => cd_57
  | 58, _ => cd_58
  | 59, _ => cd_59
  | 60, _ => cd_60
  | 61, _ => cd_61
  | 62, _ => cd_62
  | 63, _ => cd_63
  | 64, _ => cd_64
  | 65, _ => cd_65
  | 66, _ => cd_66
  | 67, _ => cd_67
  | 68, _ => cd_68
  | 69, _ => cd_69
  | 70, _ => cd_70
  | 71, _ => cd_71
  | 72, _ => cd_72
  | 73, _ => cd_73
  | 74, _ => cd_74
  | 75, _ => cd_75
  | 76, _ => cd_76
  | 77, _ => cd_77
  | 78, _ => cd_78
  | 79, _ => cd_79
  | 80, _ => cd_80
  | 81, _ => cd_81
  | 82, _ => cd_82
  | 83, _ => cd_83
  | 84, _ => cd_84
  | 85, _ => cd_85
  | 86, _ => cd_86
  | 87, _ => cd_87
  | 88, _ => cd_88
  | 89, _ => cd_89
  | 90, _ => cd_90
  | 91, _ => cd_91
  | 92, _ => cd_92
  | 93, _ => cd_93
  | 94, _ => cd_94
  | 95, _ => cd_95
  | 96, _ => cd_96
  | 97, _ => cd_97
  | 98, _ => cd_98
  | 99, _ => cd_99
  | 100, _ => cd_100
  | n + 101, h => absurd h (by omega)
/-- (own, entry, method, kind, link, static or instance, selects, initialized, parameters) -/
def mlT_0 : List (Nat × Nat × Nat × Nat × Nat × Nat × Nat × Nat × Nat) := [(10, 46, 65, 2, 42, 43, 0, 21, 0), (10, 47, 100, 0, 807, 808, 0, 20, 3), (10, 12, 99, 0, 803, 804, 0, 20, 2), (10, 18, 98, 0, 799, 800, 0, 20, 2), (10, 51, 70, 1, 484, 485, 486, 21, 4), (10, 55, 93, 0, 895, 896, 0, 36, 1), (10, 61, 71, 1, 490, 491, 492, 21, 4), (10, 64, 68, 1, 350, 351, 352, 21, 3), (10, 68, 69, 1, 470, 471, 472, 21, 2), (10, 71, 74, 1, 733, 734, 735, 21, 1), (10, 74, 73, 1, 532, 533, 534, 21, 1), (10, 77, 75, 1, 747, 748, 749, 21, 1), (10, 80, 76, 1, 752, 753, 754, 21, 2), (10, 83, 77, 1, 765, 766, 767, 21, 3), (10, 87, 72, 1, 523, 524, 525, 21, 2), (10, 90, 89, 1, 794, 795, 796, 30, 2)]
def mlT_1 : List (Nat × Nat × Nat × Nat × Nat × Nat × Nat × Nat × Nat) := [(10, 94, 78, 1, 770, 771, 772, 21, 1), (10, 96, 96, 0, 898, 459, 0, 36, 2), (10, 99, 79, 1, 779, 780, 781, 21, 2), (0, 35, 2, 1, 505, 506, 507, 25, 0), (0, 39, 85, 3, 509, 510, 0, 21, 2), (0, 43, 82, 3, 512, 449, 0, 21, 2), (0, 47, 91, 0, 517, 482, 0, 36, 2), (0, 53, 94, 0, 518, 456, 0, 36, 2), (1, 28, 80, 3, 723, 355, 0, 21, 3), (1, 32, 94, 0, 455, 456, 0, 36, 2), (1, 38, 96, 0, 458, 459, 0, 36, 2), (1, 41, 86, 3, 461, 462, 0, 21, 6), (1, 45, 97, 0, 464, 465, 0, 36, 2), (1, 48, 95, 0, 467, 468, 0, 36, 2), (2, 27, 8, 5, 62, 63, 0, 24, 0), (2, 38, 82, 3, 448, 449, 0, 21, 2)]
def mlT_2 : List (Nat × Nat × Nat × Nat × Nat × Nat × Nat × Nat × Nat) := [(2, 45, 11, 1, 451, 452, 453, 24, 5), (2, 49, 17, 0, 478, 479, 0, 23, 2), (2, 53, 96, 0, 658, 459, 0, 36, 2), (2, 58, 94, 0, 659, 456, 0, 36, 2), (2, 61, 91, 0, 481, 482, 0, 36, 2), (3, 28, 96, 0, 787, 459, 0, 36, 2), (3, 34, 20, 1, 793, 784, 785, 27, 0), (4, 22, 24, 1, 575, 577, 1, 29, 4), (4, 32, 25, 1, 580, 582, 2, 29, 2), (4, 36, 28, 1, 601, 603, 5, 29, 2), (4, 48, 82, 3, 579, 449, 0, 21, 2), (4, 64, 90, 0, 584, 585, 0, 39, 1), (4, 70, 26, 1, 590, 592, 3, 29, 2), (4, 74, 85, 3, 594, 510, 0, 21, 2), (4, 78, 27, 1, 595, 597, 4, 29, 3), (4, 82, 97, 0, 600, 465, 0, 36, 2)]
def mlT_3 : List (Nat × Nat × Nat × Nat × Nat × Nat × Nat × Nat × Nat) := [(5, 51, 84, 3, 677, 569, 0, 21, 2), (5, 55, 82, 3, 678, 449, 0, 21, 2), (5, 59, 34, 1, 683, 685, 11, 26, 2), (6, 11, 12, 5, 56, 57, 0, 23, 0), (6, 20, 1, 5, 116, 117, 0, 25, 0), (6, 27, 29, 5, 152, 153, 0, 26, 0), (6, 34, 18, 5, 185, 186, 0, 27, 0), (6, 70, 53, 5, 209, 210, 0, 28, 0), (6, 74, 14, 1, 499, 445, 446, 23, 3), (6, 78, 15, 1, 500, 475, 476, 23, 2), (6, 82, 3, 1, 501, 502, 503, 25, 4), (6, 86, 4, 1, 513, 514, 515, 25, 5), (6, 90, 5, 1, 519, 520, 521, 25, 4), (6, 94, 6, 1, 557, 558, 559, 25, 0), (6, 97, 55, 1, 561, 562, 563, 28, 1), (6, 101, 23, 1, 571, 572, 573, 29, 4)]
def mlT_4 : List (Nat × Nat × Nat × Nat × Nat × Nat × Nat × Nat × Nat) := [(6, 107, 39, 1, 605, 607, 6, 22, 1), (6, 110, 41, 1, 649, 651, 8, 22, 1), (6, 113, 42, 1, 660, 662, 9, 22, 1), (6, 116, 43, 1, 668, 670, 10, 22, 0), (6, 119, 45, 1, 691, 693, 13, 22, 0), (6, 131, 47, 1, 711, 713, 16, 22, 1), (6, 134, 49, 1, 724, 726, 18, 22, 0), (6, 137, 33, 1, 728, 729, 730, 26, 1), (6, 140, 90, 0, 732, 585, 0, 39, 1), (6, 146, 40, 1, 609, 611, 7, 22, 2), (6, 150, 19, 1, 637, 638, 639, 27, 4), (6, 154, 30, 1, 641, 642, 643, 26, 3), (6, 157, 60, 1, 645, 646, 647, 28, 0), (6, 164, 59, 1, 613, 614, 615, 28, 0), (6, 175, 56, 1, 617, 618, 619, 28, 5), (6, 178, 58, 1, 633, 634, 635, 28, 0)]
def mlT_5 : List (Nat × Nat × Nat × Nat × Nat × Nat × Nat × Nat × Nat) := [(6, 182, 85, 3, 653, 510, 0, 21, 2), (6, 186, 16, 1, 654, 655, 656, 23, 3), (6, 190, 54, 1, 664, 665, 666, 28, 4), (6, 193, 82, 3, 672, 449, 0, 21, 2), (6, 207, 31, 1, 673, 674, 675, 26, 4), (6, 213, 32, 1, 679, 680, 681, 26, 1), (6, 216, 44, 1, 687, 689, 12, 22, 0), (6, 219, 46, 1, 695, 697, 14, 22, 2), (6, 222, 61, 1, 699, 700, 701, 28, 1), (6, 231, 48, 1, 715, 717, 17, 22, 2), (6, 235, 10, 1, 719, 720, 721, 24, 3), (6, 247, 2, 1, 742, 506, 507, 25, 0), (6, 250, 51, 1, 743, 745, 19, 22, 0), (7, 56, 84, 3, 568, 569, 0, 21, 2), (7, 60, 83, 3, 621, 622, 0, 21, 2), (7, 63, 57, 0, 628, 629, 0, 28, 1)]
def mlT_6 : List (Nat × Nat × Nat × Nat × Nat × Nat × Nat × Nat × Nat) := [(7, 67, 96, 0, 631, 459, 0, 36, 2), (7, 72, 94, 0, 632, 456, 0, 36, 2), (7, 75, 63, 0, 703, 704, 0, 28, 4), (7, 79, 62, 1, 706, 708, 15, 28, 1), (7, 83, 86, 3, 710, 462, 0, 21, 6), (8, 11, 35, 2, 50, 51, 0, 22, 0), (8, 21, 22, 5, 322, 323, 0, 29, 0), (8, 30, 81, 0, 425, 426, 0, 21, 2), (8, 34, 80, 0, 354, 355, 0, 21, 3), (8, 60, 13, 1, 881, 882, 883, 23, 3), (8, 80, 9, 1, 891, 892, 893, 24, 4), (8, 91, 14, 1, 444, 445, 446, 23, 3), (8, 94, 15, 1, 474, 475, 476, 23, 2), (8, 116, 37, 1, 495, 496, 497, 22, 4), (8, 128, 7, 1, 528, 529, 530, 25, 2), (8, 138, 38, 1, 553, 554, 555, 22, 2)]
def mlT_7 : List (Nat × Nat × Nat × Nat × Nat × Nat × Nat × Nat × Nat) := [(8, 144, 50, 1, 738, 739, 740, 22, 1), (8, 162, 36, 1, 756, 757, 758, 22, 1), (8, 168, 64, 1, 761, 762, 763, 28, 1), (8, 208, 52, 1, 775, 776, 777, 22, 1), (8, 215, 20, 1, 783, 784, 785, 27, 0), (8, 223, 21, 1, 789, 790, 791, 27, 2), (8, 236, 92, 0, 625, 626, 0, 36, 2), (10, 11, 87, 5, 812, 813, 0, 30, 0), (10, 26, 88, 0, 872, 873, 0, 30, 2), (10, 30, 66, 1, 875, 876, 877, 21, 3), (10, 42, 67, 1, 885, 886, 887, 21, 5)]
def mlT : List (Nat × Nat × Nat × Nat × Nat × Nat × Nat × Nat × Nat) := mlT_0 ++ (mlT_1 ++ (mlT_2 ++ (mlT_3 ++ (mlT_4 ++ (mlT_5 ++ (mlT_6 ++ (mlT_7)))))))
def hostN (o : Nat) : String := bif Nat.beq o 9 || Nat.beq o 10 then "CoastRadarLaw" else "CoastRadar"
def lkW (o idx k kind : Nat) : Cond := bif Nat.beq kind 3 || Nat.beq kind 4 || Nat.beq kind 5 then Cond.methodLinkNest (clsT.getD o "") idx (mNm k) (hostN o) else Cond.methodLink (clsT.getD o "") idx (mNm k)
def axW (k kind : Nat) : Cond := bif Nat.beq kind 0 || Nat.beq kind 3 || Nat.beq kind 6 then Cond.static (mNm k) else Cond.instanceMethod (mNm k)
def mlOk (q : Nat × Nat × Nat × Nat × Nat × Nat × Nat × Nat × Nat) : Bool := match q with
  | (o, idx, k, kind, p1, p2, p3, p4, n) => decide (lw_tbl[p1]? = some (lkW o idx k kind)) && decide (lw_tbl[p2]? = some (axW k kind)) && ((!(Nat.beq kind 1 || Nat.beq kind 4)) || decide (lw_tbl[p3]? = some (Cond.selects (mNm k).cls (mNm k) (mNm k)))) && decide (lw_tbl[p4]? = some (Cond.initialized (mNm k).cls)) && ((!(Nat.beq kind 2 || Nat.beq kind 5)) || decide ((mNm k).name = "<init>" ∧ mRt k = none)) && decide ((mNm k).cls ≠ "java/lang/invoke/MethodHandle" ∧ (mNm k).cls ≠ "java/lang/invoke/VarHandle" ∧ (parseMethodDescriptor (mNm k).desc).map (fun d => d.parameters.length) = some n) && (Nat.beq (ck k) (bif Nat.beq kind 6 then 2 else 1)) && Nat.blt k 101 && decide ((mNm k).cls = mOw k) && Nat.ble (mML k) 18 && plainFor (mNm k)
theorem mlT_ok0 : mlT_0.all mlOk = true := by decide +kernel
theorem mlT_ok1 : mlT_1.all mlOk = true := by decide +kernel
theorem mlT_ok2 : mlT_2.all mlOk = true := by decide +kernel
theorem mlT_ok3 : mlT_3.all mlOk = true := by decide +kernel
theorem mlT_ok4 : mlT_4.all mlOk = true := by decide +kernel
theorem mlT_ok5 : mlT_5.all mlOk = true := by decide +kernel
theorem mlT_ok6 : mlT_6.all mlOk = true := by decide +kernel
theorem mlT_ok7 : mlT_7.all mlOk = true := by decide +kernel
theorem mlT_ok : mlT.all mlOk = true := by simp only [mlT, List.all_append, Bool.and_eq_true]; exact ⟨mlT_ok0, mlT_ok1, mlT_ok2, mlT_ok3, mlT_ok4, mlT_ok5, mlT_ok6, mlT_ok7⟩
def lw_good : List Cond := lw_tbl.filter goodWord
theorem in_good {i : Nat} {w : Cond} (h : lw_tbl[i]? = some w) (hg : goodWord w = true) : w ∈ lw_good := List.mem_filter.mpr ⟨List.mem_of_getElem? h, hg⟩
