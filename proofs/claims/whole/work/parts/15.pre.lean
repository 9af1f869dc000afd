/-! rows of the methods, laid by wip/gen/rows.py -/
theorem xt_eq {x : Int32} {n : Int32} : x = n ↔ x.toInt = n.toInt := ⟨fun h => by rw [h], fun h => Int32.toInt_inj.mp h⟩
theorem p_1_0 {x0 : Option Value} {v : Value} : am_put [x0] 0 v = some [some v] := by simp [am_put]
theorem p_2_1 {x0 x1 : Option Value} {v : Value} (hx : am_lg x0 = false) : am_put [x0, x1] 1 v = some [x0, some v] := by simp [am_put, hx]
theorem p_3_1 {x0 x1 x2 : Option Value} {v : Value} (hx : am_lg x0 = false) : am_put [x0, x1, x2] 1 v = some [x0, some v, x2] := by simp [am_put, hx]
theorem p_3_2 {x0 x1 x2 : Option Value} {v : Value} (hx : am_lg x1 = false) : am_put [x0, x1, x2] 2 v = some [x0, x1, some v] := by simp [am_put, hx]
theorem p_4_1 {x0 x1 x2 x3 : Option Value} {v : Value} (hx : am_lg x0 = false) : am_put [x0, x1, x2, x3] 1 v = some [x0, some v, x2, x3] := by simp [am_put, hx]
theorem p_4_2 {x0 x1 x2 x3 : Option Value} {v : Value} (hx : am_lg x1 = false) : am_put [x0, x1, x2, x3] 2 v = some [x0, x1, some v, x3] := by simp [am_put, hx]
theorem p_4_3 {x0 x1 x2 x3 : Option Value} {v : Value} (hx : am_lg x2 = false) : am_put [x0, x1, x2, x3] 3 v = some [x0, x1, x2, some v] := by simp [am_put, hx]
theorem p_5_1 {x0 x1 x2 x3 x4 : Option Value} {v : Value} (hx : am_lg x0 = false) : am_put [x0, x1, x2, x3, x4] 1 v = some [x0, some v, x2, x3, x4] := by simp [am_put, hx]
theorem p_5_2 {x0 x1 x2 x3 x4 : Option Value} {v : Value} (hx : am_lg x1 = false) : am_put [x0, x1, x2, x3, x4] 2 v = some [x0, x1, some v, x3, x4] := by simp [am_put, hx]
theorem p_5_3 {x0 x1 x2 x3 x4 : Option Value} {v : Value} (hx : am_lg x2 = false) : am_put [x0, x1, x2, x3, x4] 3 v = some [x0, x1, x2, some v, x4] := by simp [am_put, hx]
theorem p_5_4 {x0 x1 x2 x3 x4 : Option Value} {v : Value} (hx : am_lg x3 = false) : am_put [x0, x1, x2, x3, x4] 4 v = some [x0, x1, x2, x3, some v] := by simp [am_put, hx]
theorem p_6_2 {x0 x1 x2 x3 x4 x5 : Option Value} {v : Value} (hx : am_lg x1 = false) : am_put [x0, x1, x2, x3, x4, x5] 2 v = some [x0, x1, some v, x3, x4, x5] := by simp [am_put, hx]
theorem p_6_3 {x0 x1 x2 x3 x4 x5 : Option Value} {v : Value} (hx : am_lg x2 = false) : am_put [x0, x1, x2, x3, x4, x5] 3 v = some [x0, x1, x2, some v, x4, x5] := by simp [am_put, hx]
theorem p_6_4 {x0 x1 x2 x3 x4 x5 : Option Value} {v : Value} (hx : am_lg x3 = false) : am_put [x0, x1, x2, x3, x4, x5] 4 v = some [x0, x1, x2, x3, some v, x5] := by simp [am_put, hx]
theorem p_6_5 {x0 x1 x2 x3 x4 x5 : Option Value} {v : Value} (hx : am_lg x4 = false) : am_put [x0, x1, x2, x3, x4, x5] 5 v = some [x0, x1, x2, x3, x4, some v] := by simp [am_put, hx]
theorem p_7_1 {x0 x1 x2 x3 x4 x5 x6 : Option Value} {v : Value} (hx : am_lg x0 = false) : am_put [x0, x1, x2, x3, x4, x5, x6] 1 v = some [x0, some v, x2, x3, x4, x5, x6] := by simp [am_put, hx]
theorem p_7_2 {x0 x1 x2 x3 x4 x5 x6 : Option Value} {v : Value} (hx : am_lg x1 = false) : am_put [x0, x1, x2, x3, x4, x5, x6] 2 v = some [x0, x1, some v, x3, x4, x5, x6] := by simp [am_put, hx]
theorem p_7_3 {x0 x1 x2 x3 x4 x5 x6 : Option Value} {v : Value} (hx : am_lg x2 = false) : am_put [x0, x1, x2, x3, x4, x5, x6] 3 v = some [x0, x1, x2, some v, x4, x5, x6] := by simp [am_put, hx]
theorem p_7_4 {x0 x1 x2 x3 x4 x5 x6 : Option Value} {v : Value} (hx : am_lg x3 = false) : am_put [x0, x1, x2, x3, x4, x5, x6] 4 v = some [x0, x1, x2, x3, some v, x5, x6] := by simp [am_put, hx]
theorem p_7_5 {x0 x1 x2 x3 x4 x5 x6 : Option Value} {v : Value} (hx : am_lg x4 = false) : am_put [x0, x1, x2, x3, x4, x5, x6] 5 v = some [x0, x1, x2, x3, x4, some v, x6] := by simp [am_put, hx]
theorem p_7_6 {x0 x1 x2 x3 x4 x5 x6 : Option Value} {v : Value} (hx : am_lg x5 = false) : am_put [x0, x1, x2, x3, x4, x5, x6] 6 v = some [x0, x1, x2, x3, x4, x5, some v] := by simp [am_put, hx]
theorem p_8_3 {x0 x1 x2 x3 x4 x5 x6 x7 : Option Value} {v : Value} (hx : am_lg x2 = false) : am_put [x0, x1, x2, x3, x4, x5, x6, x7] 3 v = some [x0, x1, x2, some v, x4, x5, x6, x7] := by simp [am_put, hx]
theorem p_8_4 {x0 x1 x2 x3 x4 x5 x6 x7 : Option Value} {v : Value} (hx : am_lg x3 = false) : am_put [x0, x1, x2, x3, x4, x5, x6, x7] 4 v = some [x0, x1, x2, x3, some v, x5, x6, x7] := by simp [am_put, hx]
theorem p_8_5 {x0 x1 x2 x3 x4 x5 x6 x7 : Option Value} {v : Value} (hx : am_lg x4 = false) : am_put [x0, x1, x2, x3, x4, x5, x6, x7] 5 v = some [x0, x1, x2, x3, x4, some v, x6, x7] := by simp [am_put, hx]
theorem p_8_6 {x0 x1 x2 x3 x4 x5 x6 x7 : Option Value} {v : Value} (hx : am_lg x5 = false) : am_put [x0, x1, x2, x3, x4, x5, x6, x7] 6 v = some [x0, x1, x2, x3, x4, x5, some v, x7] := by simp [am_put, hx]
theorem p_8_7 {x0 x1 x2 x3 x4 x5 x6 x7 : Option Value} {v : Value} (hx : am_lg x6 = false) : am_put [x0, x1, x2, x3, x4, x5, x6, x7] 7 v = some [x0, x1, x2, x3, x4, x5, x6, some v] := by simp [am_put, hx]
theorem p_9_2 {x0 x1 x2 x3 x4 x5 x6 x7 x8 : Option Value} {v : Value} (hx : am_lg x1 = false) : am_put [x0, x1, x2, x3, x4, x5, x6, x7, x8] 2 v = some [x0, x1, some v, x3, x4, x5, x6, x7, x8] := by simp [am_put, hx]
theorem p_9_3 {x0 x1 x2 x3 x4 x5 x6 x7 x8 : Option Value} {v : Value} (hx : am_lg x2 = false) : am_put [x0, x1, x2, x3, x4, x5, x6, x7, x8] 3 v = some [x0, x1, x2, some v, x4, x5, x6, x7, x8] := by simp [am_put, hx]
theorem p_9_4 {x0 x1 x2 x3 x4 x5 x6 x7 x8 : Option Value} {v : Value} (hx : am_lg x3 = false) : am_put [x0, x1, x2, x3, x4, x5, x6, x7, x8] 4 v = some [x0, x1, x2, x3, some v, x5, x6, x7, x8] := by simp [am_put, hx]
theorem p_9_5 {x0 x1 x2 x3 x4 x5 x6 x7 x8 : Option Value} {v : Value} (hx : am_lg x4 = false) : am_put [x0, x1, x2, x3, x4, x5, x6, x7, x8] 5 v = some [x0, x1, x2, x3, x4, some v, x6, x7, x8] := by simp [am_put, hx]
theorem p_9_6 {x0 x1 x2 x3 x4 x5 x6 x7 x8 : Option Value} {v : Value} (hx : am_lg x5 = false) : am_put [x0, x1, x2, x3, x4, x5, x6, x7, x8] 6 v = some [x0, x1, x2, x3, x4, x5, some v, x7, x8] := by simp [am_put, hx]
theorem p_9_7 {x0 x1 x2 x3 x4 x5 x6 x7 x8 : Option Value} {v : Value} (hx : am_lg x6 = false) : am_put [x0, x1, x2, x3, x4, x5, x6, x7, x8] 7 v = some [x0, x1, x2, x3, x4, x5, x6, some v, x8] := by simp [am_put, hx]
theorem p_9_8 {x0 x1 x2 x3 x4 x5 x6 x7 x8 : Option Value} {v : Value} (hx : am_lg x7 = false) : am_put [x0, x1, x2, x3, x4, x5, x6, x7, x8] 8 v = some [x0, x1, x2, x3, x4, x5, x6, x7, some v] := by simp [am_put, hx]
theorem p_17_9 {x0 x1 x2 x3 x4 x5 x6 x7 x8 x9 x10 x11 x12 x13 x14 x15 x16 : Option Value} {v : Value} (hx : am_lg x8 = false) : am_put [x0, x1, x2, x3, x4, x5, x6, x7, x8, x9, x10, x11, x12, x13, x14, x15, x16] 9 v = some [x0, x1, x2, x3, x4, x5, x6, x7, x8, some v, x10, x11, x12, x13, x14, x15, x16] := by simp [am_put, hx]
theorem pp_17_5 {x0 x1 x2 x3 x4 x5 x6 x7 x8 x9 x10 x11 x12 x13 x14 x15 x16 : Option Value} {v : Value} (hx : am_lg x4 = false) : am_put2 [x0, x1, x2, x3, x4, x5, x6, x7, x8, x9, x10, x11, x12, x13, x14, x15, x16] 5 v = some [x0, x1, x2, x3, x4, some v, none, x7, x8, x9, x10, x11, x12, x13, x14, x15, x16] := by simp [am_put2, hx]
theorem pp_17_7 {x0 x1 x2 x3 x4 x5 x6 x7 x8 x9 x10 x11 x12 x13 x14 x15 x16 : Option Value} {v : Value} (hx : am_lg x6 = false) : am_put2 [x0, x1, x2, x3, x4, x5, x6, x7, x8, x9, x10, x11, x12, x13, x14, x15, x16] 7 v = some [x0, x1, x2, x3, x4, x5, x6, some v, none, x9, x10, x11, x12, x13, x14, x15, x16] := by simp [am_put2, hx]
theorem pp_17_9 {x0 x1 x2 x3 x4 x5 x6 x7 x8 x9 x10 x11 x12 x13 x14 x15 x16 : Option Value} {v : Value} (hx : am_lg x8 = false) : am_put2 [x0, x1, x2, x3, x4, x5, x6, x7, x8, x9, x10, x11, x12, x13, x14, x15, x16] 9 v = some [x0, x1, x2, x3, x4, x5, x6, x7, x8, some v, none, x11, x12, x13, x14, x15, x16] := by simp [am_put2, hx]
theorem pp_17_11 {x0 x1 x2 x3 x4 x5 x6 x7 x8 x9 x10 x11 x12 x13 x14 x15 x16 : Option Value} {v : Value} (hx : am_lg x10 = false) : am_put2 [x0, x1, x2, x3, x4, x5, x6, x7, x8, x9, x10, x11, x12, x13, x14, x15, x16] 11 v = some [x0, x1, x2, x3, x4, x5, x6, x7, x8, x9, x10, some v, none, x13, x14, x15, x16] := by simp [am_put2, hx]
theorem pp_17_13 {x0 x1 x2 x3 x4 x5 x6 x7 x8 x9 x10 x11 x12 x13 x14 x15 x16 : Option Value} {v : Value} (hx : am_lg x12 = false) : am_put2 [x0, x1, x2, x3, x4, x5, x6, x7, x8, x9, x10, x11, x12, x13, x14, x15, x16] 13 v = some [x0, x1, x2, x3, x4, x5, x6, x7, x8, x9, x10, x11, x12, some v, none, x15, x16] := by simp [am_put2, hx]
theorem pp_17_15 {x0 x1 x2 x3 x4 x5 x6 x7 x8 x9 x10 x11 x12 x13 x14 x15 x16 : Option Value} {v : Value} (hx : am_lg x14 = false) : am_put2 [x0, x1, x2, x3, x4, x5, x6, x7, x8, x9, x10, x11, x12, x13, x14, x15, x16] 15 v = some [x0, x1, x2, x3, x4, x5, x6, x7, x8, x9, x10, x11, x12, x13, x14, some v, none] := by simp [am_put2, hx]
abbrev mt_0 : am_M := (⟨"PaternosterRide$Foresight", "<init>", "(LPaternosterRide$House;)V"⟩, prog_2_method_1_code, 2, none, 0, 2, 247, 2, 246, 78, 0)
set_option maxRecDepth 10000 in
theorem mt_0_at : am_mt[0]? = some mt_0 := rfl
abbrev mt_1 : am_M := (⟨"PaternosterRide$Foresight", "houseBehind", "(I)LPaternosterRide$House;"⟩, prog_2_method_2_code, 3, some (.object "PaternosterRide$House"), 0, 2, 676, 1, 674, 78, 675)
set_option maxRecDepth 10000 in
theorem mt_1_at : am_mt[1]? = some mt_1 := rfl
abbrev mt_2 : am_M := (⟨"PaternosterRide$Foresight", "arrivalOf", "(I)I"⟩, prog_2_method_3_code, 3, some .int, 0, 2, 687, 1, 685, 78, 686)
set_option maxRecDepth 10000 in
theorem mt_2_at : am_mt[2]? = some mt_2 := rfl
abbrev mt_3 : am_M := (⟨"PaternosterRide$Foresight", "lastArrival", "(I)I"⟩, prog_2_method_4_code, 3, some .int, 0, 2, 699, 1, 697, 78, 698)
set_option maxRecDepth 10000 in
theorem mt_3_at : am_mt[3]? = some mt_3 := rfl
abbrev mt_4 : am_M := (⟨"PaternosterRide$Foresight", "firstMeeting", "(II)I"⟩, prog_2_method_5_code, 5, some .int, 0, 3, 713, 1, 711, 78, 712)
set_option maxRecDepth 10000 in
theorem mt_4_at : am_mt[4]? = some mt_4 := rfl
abbrev mt_5 : am_M := (⟨"PaternosterRide$Foresight", "worstCabin", "()I"⟩, prog_2_method_6_code, 5, some .int, 0, 1, 721, 1, 719, 78, 720)
set_option maxRecDepth 10000 in
theorem mt_5_at : am_mt[5]? = some mt_5 := rfl
abbrev mt_6 : am_M := (⟨"PaternosterRide$Foresight", "chancesToRide", "(II)I"⟩, prog_2_method_7_code, 5, some .int, 0, 3, 767, 1, 765, 78, 766)
set_option maxRecDepth 10000 in
theorem mt_6_at : am_mt[6]? = some mt_6 := rfl
abbrev mt_7 : am_M := (⟨"PaternosterRide$Foresight", "findOrder", "()V"⟩, prog_2_method_8_code, 3, none, 0, 1, 732, 1, 730, 78, 731)
set_option maxRecDepth 10000 in
theorem mt_7_at : am_mt[7]? = some mt_7 := rfl
abbrev mt_8 : am_M := (⟨"PaternosterRide$Foresight", "lineUpRising", "()V"⟩, prog_2_method_9_code, 2, none, 0, 1, 736, 1, 735, 78, 13)
set_option maxRecDepth 10000 in
theorem mt_8_at : am_mt[8]? = some mt_8 := rfl
abbrev mt_9 : am_M := (⟨"PaternosterRide$Foresight", "arrivalsTogether", "()I"⟩, prog_2_method_10_code, 5, some .int, 0, 1, 749, 1, 748, 78, 16)
set_option maxRecDepth 10000 in
theorem mt_9_at : am_mt[9]? = some mt_9 := rfl
abbrev mt_10 : am_M := (⟨"PaternosterRide$Foresight", "hasLikeOneAhead", "()Z"⟩, prog_2_method_11_code, 2, some .boolean, 0, 1, 741, 1, 740, 78, 14)
set_option maxRecDepth 10000 in
theorem mt_10_at : am_mt[10]? = some mt_10 := rfl
abbrev mt_11 : am_M := (⟨"PaternosterRide$Foresight", "mayChangePlaces", "(II)Z"⟩, prog_2_method_12_code, 6, some .boolean, 0, 3, 745, 1, 744, 78, 15)
set_option maxRecDepth 10000 in
theorem mt_11_at : am_mt[11]? = some mt_11 := rfl
abbrev mt_12 : am_M := (⟨"PaternosterRide$Foresight", "nextLine", "()Z"⟩, prog_2_method_13_code, 5, some .boolean, 0, 1, 755, 1, 754, 78, 17)
set_option maxRecDepth 10000 in
theorem mt_12_at : am_mt[12]? = some mt_12 := rfl
abbrev mt_13 : am_M := (⟨"PaternosterRide$Foresight", "swap", "(II)V"⟩, prog_2_method_14_code, 4, none, 0, 3, 759, 1, 758, 78, 18)
set_option maxRecDepth 10000 in
theorem mt_13_at : am_mt[13]? = some mt_13 := rfl
abbrev mt_14 : am_M := (⟨"PaternosterRide$House", "<init>", "(LPaternosterRide$Plan;)V"⟩, prog_3_method_1_code, 2, none, 1, 2, 158, 2, 157, 75, 0)
set_option maxRecDepth 10000 in
theorem mt_14_at : am_mt[14]? = some mt_14 := rfl
abbrev mt_15 : am_M := (⟨"PaternosterRide$House", "begin", "()V"⟩, prog_3_method_2_code, 2, none, 1, 1, 333, 1, 331, 75, 332)
set_option maxRecDepth 10000 in
theorem mt_15_at : am_mt[15]? = some mt_15 := rfl
abbrev mt_16 : am_M := (⟨"PaternosterRide$House", "take", "(LPaternosterRide$House;)V"⟩, prog_3_method_3_code, 2, none, 1, 2, 579, 1, 577, 75, 578)
set_option maxRecDepth 10000 in
theorem mt_16_at : am_mt[16]? = some mt_16 := rfl
abbrev mt_17 : am_M := (⟨"PaternosterRide$House", "put", "(III)V"⟩, prog_3_method_4_code, 4, none, 1, 4, 337, 1, 336, 75, 0)
set_option maxRecDepth 10000 in
theorem mt_17_at : am_mt[17]? = some mt_17 := rfl
abbrev mt_18 : am_M := (⟨"PaternosterRide$House", "leaveAlone", "(I)V"⟩, prog_3_method_5_code, 3, none, 1, 2, 771, 1, 769, 75, 770)
set_option maxRecDepth 10000 in
theorem mt_18_at : am_mt[18]? = some mt_18 := rfl
abbrev mt_19 : am_M := (⟨"PaternosterRide$House", "placeOf", "(I)I"⟩, prog_3_method_6_code, 3, some .int, 1, 2, 542, 1, 540, 75, 541)
set_option maxRecDepth 10000 in
theorem mt_19_at : am_mt[19]? = some mt_19 := rfl
abbrev mt_20 : am_M := (⟨"PaternosterRide$House", "cabinAt", "(I)I"⟩, prog_3_method_7_code, 3, some .int, 1, 2, 613, 1, 612, 75, 11)
set_option maxRecDepth 10000 in
theorem mt_20_at : am_mt[20]? = some mt_20 := rfl
abbrev mt_21 : am_M := (⟨"PaternosterRide$House", "floorAt", "(I)I"⟩, prog_3_method_8_code, 2, some .int, 1, 2, 547, 1, 545, 75, 546)
set_option maxRecDepth 10000 in
theorem mt_21_at : am_mt[21]? = some mt_21 := rfl
abbrev mt_22 : am_M := (⟨"PaternosterRide$House", "isShut", "(I)Z"⟩, prog_3_method_9_code, 2, some .boolean, 1, 2, 538, 1, 536, 75, 537)
set_option maxRecDepth 10000 in
theorem mt_22_at : am_mt[22]? = some mt_22 := rfl
abbrev mt_23 : am_M := (⟨"PaternosterRide$House", "isWaiting", "(I)Z"⟩, prog_3_method_10_code, 2, some .boolean, 1, 2, 609, 1, 607, 75, 608)
set_option maxRecDepth 10000 in
theorem mt_23_at : am_mt[23]? = some mt_23 := rfl
abbrev mt_24 : am_M := (⟨"PaternosterRide$House", "peopleWho", "(I)I"⟩, prog_3_method_11_code, 4, some .int, 1, 2, 645, 1, 643, 75, 644)
set_option maxRecDepth 10000 in
theorem mt_24_at : am_mt[24]? = some mt_24 := rfl
abbrev mt_25 : am_M := (⟨"PaternosterRide$House", "howManyAreNotThere", "()I"⟩, prog_3_method_12_code, 1, some .int, 1, 1, 703, 1, 701, 75, 702)
set_option maxRecDepth 10000 in
theorem mt_25_at : am_mt[25]? = some mt_25 := rfl
abbrev mt_26 : am_M := (⟨"PaternosterRide$House", "ridersIn", "(I)I"⟩, prog_3_method_13_code, 4, some .int, 1, 2, 551, 1, 549, 75, 550)
set_option maxRecDepth 10000 in
theorem mt_26_at : am_mt[26]? = some mt_26 := rfl
abbrev mt_27 : am_M := (⟨"PaternosterRide$House", "roomLeft", "(I)I"⟩, prog_3_method_14_code, 4, some .int, 1, 2, 555, 1, 553, 75, 554)
set_option maxRecDepth 10000 in
theorem mt_27_at : am_mt[27]? = some mt_27 := rfl
abbrev mt_28 : am_M := (⟨"PaternosterRide$House", "toldOf", "(II)I"⟩, prog_3_method_15_code, 3, some .int, 1, 3, 524, 1, 522, 75, 523)
set_option maxRecDepth 10000 in
theorem mt_28_at : am_mt[28]? = some mt_28 := rfl
abbrev mt_29 : am_M := (⟨"PaternosterRide$House", "advance", "([II)V"⟩, prog_3_method_16_code, 5, none, 1, 3, 591, 1, 589, 75, 590)
set_option maxRecDepth 10000 in
theorem mt_29_at : am_mt[29]? = some mt_29 := rfl
abbrev mt_30 : am_M := (⟨"PaternosterRide$House", "letOut", "()V"⟩, prog_3_method_17_code, 3, none, 1, 1, 595, 1, 594, 75, 10)
set_option maxRecDepth 10000 in
theorem mt_30_at : am_mt[30]? = some mt_30 := rfl
abbrev mt_31 : am_M := (⟨"PaternosterRide$House", "choiceOf", "(I)I"⟩, prog_3_method_18_code, 9, some .int, 1, 2, 605, 1, 603, 75, 604)
set_option maxRecDepth 10000 in
theorem mt_31_at : am_mt[31]? = some mt_31 := rfl
abbrev mt_32 : am_M := (⟨"PaternosterRide$House", "suits", "(LPaternosterRide$Kind;I)Z"⟩, prog_3_method_19_code, 3, some .boolean, 1, 3, 621, 1, 620, 75, 12)
set_option maxRecDepth 10000 in
theorem mt_32_at : am_mt[32]? = some mt_32 := rfl
abbrev mt_33 : am_M := (⟨"PaternosterRide$Kind", "numbered", "(I)LPaternosterRide$Kind;"⟩, prog_4_method_4_code, 1, some (.object "PaternosterRide$Kind"), 9, 1, 480, 0, 479, 74, 0)
set_option maxRecDepth 10000 in
theorem mt_33_at : am_mt[33]? = some mt_33 := rfl
abbrev mt_34 : am_M := (⟨"PaternosterRide$Kind", "isUnder", "(I)Z"⟩, prog_4_method_5_code, 2, some .boolean, 9, 2, 563, 1, 561, 74, 562)
set_option maxRecDepth 10000 in
theorem mt_34_at : am_mt[34]? = some mt_34 := rfl
abbrev mt_35 : am_M := (⟨"PaternosterRide$Kind", "wantsItEmpty", "()Z"⟩, prog_4_method_6_code, 1, some .boolean, 9, 1, 627, 1, 625, 74, 626)
set_option maxRecDepth 10000 in
theorem mt_35_at : am_mt[35]? = some mt_35 := rfl
abbrev mt_36 : am_M := (⟨"PaternosterRide$Kind", "ridesRightRound", "()Z"⟩, prog_4_method_7_code, 1, some .boolean, 9, 1, 599, 1, 597, 74, 598)
set_option maxRecDepth 10000 in
theorem mt_36_at : am_mt[36]? = some mt_36 := rfl
abbrev mt_37 : am_M := (⟨"PaternosterRide$Kind", "looksUpFirst", "()Z"⟩, prog_4_method_8_code, 1, some .boolean, 9, 1, 617, 1, 615, 74, 616)
set_option maxRecDepth 10000 in
theorem mt_37_at : am_mt[37]? = some mt_37 := rfl
abbrev mt_38 : am_M := (⟨"PaternosterRide$Kind", "looksAtBoth", "()Z"⟩, prog_4_method_9_code, 1, some .boolean, 9, 1, 632, 1, 630, 74, 631)
set_option maxRecDepth 10000 in
theorem mt_38_at : am_mt[38]? = some mt_38 := rfl
abbrev mt_39 : am_M := (⟨"PaternosterRide$Notes", "<init>", "()V"⟩, prog_5_method_1_code, 1, none, 2, 1, 315, 2, 314, 80, 0)
set_option maxRecDepth 10000 in
theorem mt_39_at : am_mt[39]? = some mt_39 := rfl
abbrev mt_40 : am_M := (⟨"PaternosterRide$Notes", "thing", "(II)I"⟩, prog_5_method_2_code, 2, some .int, 2, 2, 857, 0, 856, 80, 0)
set_option maxRecDepth 10000 in
theorem mt_40_at : am_mt[40]? = some mt_40 := rfl
abbrev mt_41 : am_M := (⟨"PaternosterRide$Notes", "sortOf", "(I)I"⟩, prog_5_method_3_code, 1, some .int, 2, 1, 871, 0, 870, 80, 0)
set_option maxRecDepth 10000 in
theorem mt_41_at : am_mt[41]? = some mt_41 := rfl
abbrev mt_42 : am_M := (⟨"PaternosterRide$Notes", "valueOf", "(I)I"⟩, prog_5_method_4_code, 1, some .int, 2, 1, 874, 0, 873, 80, 0)
set_option maxRecDepth 10000 in
theorem mt_42_at : am_mt[42]? = some mt_42 := rfl
abbrev mt_43 : am_M := (⟨"PaternosterRide$Notes", "setIn", "(I[II)V"⟩, prog_5_method_5_code, 4, none, 2, 4, 863, 1, 861, 80, 862)
set_option maxRecDepth 10000 in
theorem mt_43_at : am_mt[43]? = some mt_43 := rfl
abbrev mt_44 : am_M := (⟨"PaternosterRide$Notes", "takeOut", "(II)V"⟩, prog_5_method_6_code, 3, none, 2, 3, 887, 1, 885, 80, 886)
set_option maxRecDepth 10000 in
theorem mt_44_at : am_mt[44]? = some mt_44 := rfl
abbrev mt_45 : am_M := (⟨"PaternosterRide$Notes", "readInto", "([III)V"⟩, prog_5_method_7_code, 4, none, 2, 4, 915, 1, 913, 80, 914)
set_option maxRecDepth 10000 in
theorem mt_45_at : am_mt[45]? = some mt_45 := rfl
abbrev mt_46 : am_M := (⟨"PaternosterRide$Notes", "rotate", "(III)V"⟩, prog_5_method_8_code, 5, none, 2, 4, 895, 1, 893, 80, 894)
set_option maxRecDepth 10000 in
theorem mt_46_at : am_mt[46]? = some mt_46 := rfl
abbrev mt_47 : am_M := (⟨"PaternosterRide$Notes", "flip", "(II)V"⟩, prog_5_method_9_code, 6, none, 2, 3, 902, 1, 900, 80, 901)
set_option maxRecDepth 10000 in
theorem mt_47_at : am_mt[47]? = some mt_47 := rfl
abbrev mt_48 : am_M := (⟨"PaternosterRide$Notes", "howMany", "(I)I"⟩, prog_5_method_10_code, 4, some .int, 2, 2, 923, 1, 921, 80, 922)
set_option maxRecDepth 10000 in
theorem mt_48_at : am_mt[48]? = some mt_48 := rfl
abbrev mt_49 : am_M := (⟨"PaternosterRide$Past", "<init>", "(LPaternosterRide$Plan;)V"⟩, prog_6_method_1_code, 3, none, 3, 2, 188, 2, 187, 76, 0)
set_option maxRecDepth 10000 in
theorem mt_49_at : am_mt[49]? = some mt_49 := rfl
abbrev mt_50 : am_M := (⟨"PaternosterRide$Past", "clear", "()V"⟩, prog_6_method_2_code, 2, none, 3, 1, 512, 1, 510, 76, 511)
set_option maxRecDepth 10000 in
theorem mt_50_at : am_mt[50]? = some mt_50 := rfl
abbrev mt_51 : am_M := (⟨"PaternosterRide$Past", "push", "(LPaternosterRide$House;)V"⟩, prog_6_method_3_code, 2, none, 3, 2, 575, 1, 573, 76, 574)
set_option maxRecDepth 10000 in
theorem mt_51_at : am_mt[51]? = some mt_51 := rfl
abbrev mt_52 : am_M := (⟨"PaternosterRide$Past", "takeBack", "(LPaternosterRide$House;)Z"⟩, prog_6_method_4_code, 2, some .boolean, 3, 2, 659, 1, 657, 76, 658)
set_option maxRecDepth 10000 in
theorem mt_52_at : am_mt[52]? = some mt_52 := rfl
abbrev mt_53 : am_M := (⟨"PaternosterRide$Plan", "<init>", "()V"⟩, prog_7_method_1_code, 2, none, 4, 1, 101, 2, 100, 72, 0)
set_option maxRecDepth 10000 in
theorem mt_53_at : am_mt[53]? = some mt_53 := rfl
abbrev mt_54 : am_M := (⟨"PaternosterRide$Plan", "clear", "(I)V"⟩, prog_7_method_2_code, 2, none, 4, 2, 110, 1, 108, 72, 109)
set_option maxRecDepth 10000 in
theorem mt_54_at : am_mt[54]? = some mt_54 := rfl
abbrev mt_55 : am_M := (⟨"PaternosterRide$Plan", "take", "(LPaternosterRide$Plan;)V"⟩, prog_7_method_3_code, 3, none, 4, 2, 389, 1, 387, 72, 388)
set_option maxRecDepth 10000 in
theorem mt_55_at : am_mt[55]? = some mt_55 := rfl
abbrev mt_56 : am_M := (⟨"PaternosterRide$Plan", "isCrowded", "()Z"⟩, prog_7_method_4_code, 1, some .boolean, 4, 1, 493, 1, 491, 72, 492)
set_option maxRecDepth 10000 in
theorem mt_56_at : am_mt[56]? = some mt_56 := rfl
abbrev mt_57 : am_M := (am_n57, prog_7_method_5_code, 4, none, 4, 4, 501, 1, 499, 72, 500)
set_option maxRecDepth 10000 in
theorem mt_57_at : am_mt[57]? = some mt_57 := rfl
abbrev mt_58 : am_M := (⟨"PaternosterRide$Plan", "ring", "()I"⟩, prog_7_method_6_code, 1, some .int, 4, 1, 477, 1, 475, 72, 476)
set_option maxRecDepth 10000 in
theorem mt_58_at : am_mt[58]? = some mt_58 := rfl
abbrev mt_59 : am_M := (⟨"PaternosterRide$Plan", "hasFloor", "(I)Z"⟩, prog_7_method_7_code, 2, some .boolean, 4, 2, 789, 1, 787, 72, 788)
set_option maxRecDepth 10000 in
theorem mt_59_at : am_mt[59]? = some mt_59 := rfl
abbrev mt_60 : am_M := (⟨"PaternosterRide$Plan", "hasCabin", "(I)Z"⟩, prog_7_method_8_code, 2, some .boolean, 4, 2, 533, 1, 531, 72, 532)
set_option maxRecDepth 10000 in
theorem mt_60_at : am_mt[60]? = some mt_60 := rfl
abbrev mt_61 : am_M := (⟨"PaternosterRide$Plan", "hasPerson", "(I)Z"⟩, prog_7_method_9_code, 2, some .boolean, 4, 2, 520, 1, 518, 72, 519)
set_option maxRecDepth 10000 in
theorem mt_61_at : am_mt[61]? = some mt_61 := rfl
abbrev mt_62 : am_M := (⟨"PaternosterRide$Reader", "<init>", "()V"⟩, prog_8_method_1_code, 1, none, 5, 1, 217, 2, 216, 77, 0)
set_option maxRecDepth 10000 in
theorem mt_62_at : am_mt[62]? = some mt_62 := rfl
abbrev mt_63 : am_M := (⟨"PaternosterRide$Reader", "append", "(I)Z"⟩, prog_8_method_2_code, 2, some .boolean, 5, 2, 373, 1, 371, 77, 372)
set_option maxRecDepth 10000 in
theorem mt_63_at : am_mt[63]? = some mt_63 := rfl
abbrev mt_64 : am_M := (⟨"PaternosterRide$Reader", "readText", "(LPaternosterRide$Plan;)I"⟩, prog_8_method_3_code, 2, some .int, 5, 2, 385, 1, 383, 77, 384)
set_option maxRecDepth 10000 in
theorem mt_64_at : am_mt[64]? = some mt_64 := rfl
abbrev mt_65 : am_M := (⟨"PaternosterRide$Reader", "readClause", "()Z"⟩, prog_8_method_4_code, 3, some .boolean, 5, 1, 393, 1, 392, 77, 1)
set_option maxRecDepth 10000 in
theorem mt_65_at : am_mt[65]? = some mt_65 := rfl
abbrev mt_66 : am_M := (⟨"PaternosterRide$Reader", "readHall", "()Z"⟩, prog_8_method_5_code, 2, some .boolean, 5, 1, 457, 1, 456, 77, 4)
set_option maxRecDepth 10000 in
theorem mt_66_at : am_mt[66]? = some mt_66 := rfl
abbrev mt_67 : am_M := (⟨"PaternosterRide$Reader", "readRoom", "()Z"⟩, prog_8_method_6_code, 2, some .boolean, 5, 1, 468, 1, 467, 77, 6)
set_option maxRecDepth 10000 in
theorem mt_67_at : am_mt[67]? = some mt_67 := rfl
abbrev mt_68 : am_M := (⟨"PaternosterRide$Reader", "readShut", "()Z"⟩, prog_8_method_7_code, 2, some .boolean, 5, 1, 473, 1, 472, 77, 7)
set_option maxRecDepth 10000 in
theorem mt_68_at : am_mt[68]? = some mt_68 := rfl
abbrev mt_69 : am_M := (⟨"PaternosterRide$Reader", "readPerson", "(LPaternosterRide$Kind;)Z"⟩, prog_8_method_8_code, 4, some .boolean, 5, 2, 497, 1, 496, 77, 8)
set_option maxRecDepth 10000 in
theorem mt_69_at : am_mt[69]? = some mt_69 := rfl
abbrev mt_70 : am_M := (⟨"PaternosterRide$Reader", "readNumber", "(II)I"⟩, prog_8_method_9_code, 5, some .int, 5, 3, 461, 1, 460, 77, 5)
set_option maxRecDepth 10000 in
theorem mt_70_at : am_mt[70]? = some mt_70 := rfl
abbrev mt_71 : am_M := (⟨"PaternosterRide$Reader", "spells", "(Ljava/lang/String;)Z"⟩, prog_8_method_10_code, 3, some .boolean, 5, 2, 405, 1, 404, 77, 3)
set_option maxRecDepth 10000 in
theorem mt_71_at : am_mt[71]? = some mt_71 := rfl
abbrev mt_72 : am_M := (⟨"PaternosterRide$Reader", "nextToken", "()V"⟩, prog_8_method_11_code, 2, none, 5, 1, 397, 1, 396, 77, 2)
set_option maxRecDepth 10000 in
theorem mt_72_at : am_mt[72]? = some mt_72 := rfl
abbrev mt_73 : am_M := (⟨"PaternosterRide$Reader", "sortOf", "(I)I"⟩, prog_8_method_12_code, 1, some .int, 5, 1, 400, 0, 399, 77, 0)
set_option maxRecDepth 10000 in
theorem mt_73_at : am_mt[73]? = some mt_73 := rfl
abbrev mt_74 : am_M := (⟨"PaternosterRide$Sightings", "<init>", "()V"⟩, prog_9_method_1_code, 1, none, 6, 1, 281, 2, 280, 79, 0)
set_option maxRecDepth 10000 in
theorem mt_74_at : am_mt[74]? = some mt_74 := rfl
abbrev mt_75 : am_M := (⟨"PaternosterRide$Sightings", "note", "(III)Z"⟩, prog_9_method_2_code, 4, some .boolean, 6, 4, 793, 1, 791, 79, 792)
set_option maxRecDepth 10000 in
theorem mt_75_at : am_mt[75]? = some mt_75 := rfl
abbrev mt_76 : am_M := (⟨"PaternosterRide$Sightings", "fittingKinds", "(I)I"⟩, prog_9_method_3_code, 4, some .int, 6, 2, 805, 1, 803, 79, 804)
set_option maxRecDepth 10000 in
theorem mt_76_at : am_mt[76]? = some mt_76 := rfl
abbrev mt_77 : am_M := (⟨"PaternosterRide$Sightings", "fitsAll", "(ILPaternosterRide$Kind;)Z"⟩, prog_9_method_4_code, 4, some .boolean, 6, 3, 810, 1, 809, 79, 19)
set_option maxRecDepth 10000 in
theorem mt_77_at : am_mt[77]? = some mt_77 := rfl
abbrev mt_78 : am_M := (⟨"PaternosterRide$Sightings", "timeAlone", "(ILPaternosterRide$Kind;II)I"⟩, prog_9_method_5_code, 6, some .int, 6, 5, 814, 1, 813, 79, 20)
set_option maxRecDepth 10000 in
theorem mt_78_at : am_mt[78]? = some mt_78 := rfl
abbrev mt_79 : am_M := (⟨"PaternosterRide$Sightings", "bestQuestion", "(II)I"⟩, prog_9_method_6_code, 8, some .int, 6, 3, 828, 1, 826, 79, 827)
set_option maxRecDepth 10000 in
theorem mt_79_at : am_mt[79]? = some mt_79 := rfl
abbrev mt_80 : am_M := (⟨"PaternosterRide$Sightings", "mostAlike", "(IIII)I"⟩, prog_9_method_7_code, 7, some .int, 6, 5, 833, 1, 832, 79, 21)
set_option maxRecDepth 10000 in
theorem mt_80_at : am_mt[80]? = some mt_80 := rfl
abbrev mt_81 : am_M := (⟨"PaternosterRide$Sightings", "howManyTook", "(I)I"⟩, prog_9_method_8_code, 4, some .int, 6, 2, 837, 1, 836, 79, 22)
set_option maxRecDepth 10000 in
theorem mt_81_at : am_mt[81]? = some mt_81 := rfl
abbrev mt_82 : am_M := (⟨"PaternosterRide", "<init>", "()V"⟩, prog_1_method_1_code, 2, none, 7, 1, 93, 2, 92, 71, 0)
set_option maxRecDepth 10000 in
theorem mt_82_at : am_mt[82]? = some mt_82 := rfl
abbrev mt_83 : am_M := (⟨"PaternosterRide", "write", "(I)I"⟩, prog_1_method_2_code, 2, some .int, 7, 2, 366, 1, 364, 71, 365)
set_option maxRecDepth 10000 in
theorem mt_83_at : am_mt[83]? = some mt_83 := rfl
abbrev mt_84 : am_M := (⟨"PaternosterRide", "erase", "()I"⟩, prog_1_method_3_code, 2, some .int, 7, 1, 377, 1, 375, 71, 376)
set_option maxRecDepth 10000 in
theorem mt_84_at : am_mt[84]? = some mt_84 := rfl
abbrev mt_85 : am_M := (⟨"PaternosterRide", "fault", "()I"⟩, prog_1_method_4_code, 1, some .int, 7, 1, 381, 1, 379, 71, 380)
set_option maxRecDepth 10000 in
theorem mt_85_at : am_mt[85]? = some mt_85 := rfl
abbrev mt_86 : am_M := (⟨"PaternosterRide", "hall", "()I"⟩, prog_1_method_5_code, 2, some .int, 7, 1, 507, 1, 505, 71, 506)
set_option maxRecDepth 10000 in
theorem mt_86_at : am_mt[86]? = some mt_86 := rfl
abbrev mt_87 : am_M := (⟨"PaternosterRide", "person", "(II)I"⟩, prog_1_method_6_code, 3, some .int, 7, 3, 516, 1, 514, 71, 515)
set_option maxRecDepth 10000 in
theorem mt_87_at : am_mt[87]? = some mt_87 := rfl
abbrev mt_88 : am_M := (⟨"PaternosterRide", "cabin", "(II)I"⟩, prog_1_method_7_code, 3, some .int, 7, 3, 529, 1, 527, 71, 528)
set_option maxRecDepth 10000 in
theorem mt_88_at : am_mt[88]? = some mt_88 := rfl
abbrev mt_89 : am_M := (⟨"PaternosterRide", "as", "(II)I"⟩, prog_1_method_8_code, 4, some .int, 7, 3, 559, 1, 557, 71, 558)
set_option maxRecDepth 10000 in
theorem mt_89_at : am_mt[89]? = some mt_89 := rfl
abbrev mt_90 : am_M := (⟨"PaternosterRide", "step", "(I)I"⟩, prog_1_method_9_code, 3, some .int, 7, 2, 567, 1, 565, 71, 566)
set_option maxRecDepth 10000 in
theorem mt_90_at : am_mt[90]? = some mt_90 := rfl
abbrev mt_91 : am_M := (⟨"PaternosterRide", "shut", "(I)I"⟩, prog_1_method_10_code, 2, some .int, 7, 2, 636, 1, 634, 71, 635)
set_option maxRecDepth 10000 in
theorem mt_91_at : am_mt[91]? = some mt_91 := rfl
abbrev mt_92 : am_M := (⟨"PaternosterRide", "stairs", "(I)I"⟩, prog_1_method_11_code, 2, some .int, 7, 2, 640, 1, 638, 71, 639)
set_option maxRecDepth 10000 in
theorem mt_92_at : am_mt[92]? = some mt_92 := rfl
abbrev mt_93 : am_M := (⟨"PaternosterRide", "undo", "()I"⟩, prog_1_method_12_code, 1, some .int, 7, 1, 655, 1, 653, 71, 654)
set_option maxRecDepth 10000 in
theorem mt_93_at : am_mt[93]? = some mt_93 := rfl
abbrev mt_94 : am_M := (⟨"PaternosterRide", "keep", "(I)I"⟩, prog_1_method_13_code, 2, some .int, 7, 2, 663, 1, 661, 71, 662)
set_option maxRecDepth 10000 in
theorem mt_94_at : am_mt[94]? = some mt_94 := rfl
abbrev mt_95 : am_M := (⟨"PaternosterRide", "back", "(I)I"⟩, prog_1_method_14_code, 2, some .int, 7, 2, 668, 1, 666, 71, 667)
set_option maxRecDepth 10000 in
theorem mt_95_at : am_mt[95]? = some mt_95 := rfl
abbrev mt_96 : am_M := (⟨"PaternosterRide", "behind", "(III)I"⟩, prog_1_method_15_code, 4, some .int, 7, 4, 672, 1, 670, 71, 671)
set_option maxRecDepth 10000 in
theorem mt_96_at : am_mt[96]? = some mt_96 := rfl
abbrev mt_97 : am_M := (⟨"PaternosterRide", "arrives", "(I)I"⟩, prog_1_method_16_code, 2, some .int, 7, 2, 683, 1, 681, 71, 682)
set_option maxRecDepth 10000 in
theorem mt_97_at : am_mt[97]? = some mt_97 := rfl
abbrev mt_98 : am_M := (⟨"PaternosterRide", "all", "()I"⟩, prog_1_method_17_code, 1, some .int, 7, 1, 695, 1, 693, 71, 694)
set_option maxRecDepth 10000 in
theorem mt_98_at : am_mt[98]? = some mt_98 := rfl
abbrev mt_99 : am_M := (⟨"PaternosterRide", "meet", "(II)I"⟩, prog_1_method_18_code, 3, some .int, 7, 3, 709, 1, 707, 71, 708)
set_option maxRecDepth 10000 in
theorem mt_99_at : am_mt[99]? = some mt_99 := rfl
abbrev mt_100 : am_M := (⟨"PaternosterRide", "jam", "(I)I"⟩, prog_1_method_19_code, 3, some .int, 7, 2, 717, 1, 715, 71, 716)
set_option maxRecDepth 10000 in
theorem mt_100_at : am_mt[100]? = some mt_100 := rfl
abbrev mt_101 : am_M := (⟨"PaternosterRide", "order", "(I)I"⟩, prog_1_method_20_code, 2, some .int, 7, 2, 728, 1, 726, 71, 727)
set_option maxRecDepth 10000 in
theorem mt_101_at : am_mt[101]? = some mt_101 := rfl
abbrev mt_102 : am_M := (⟨"PaternosterRide", "dares", "(IIII)I"⟩, prog_1_method_21_code, 9, some .int, 7, 5, 763, 1, 761, 71, 762)
set_option maxRecDepth 10000 in
theorem mt_102_at : am_mt[102]? = some mt_102 := rfl
abbrev mt_103 : am_M := (⟨"PaternosterRide", "seen", "(III)I"⟩, prog_1_method_22_code, 4, some .int, 7, 4, 785, 1, 783, 71, 784)
set_option maxRecDepth 10000 in
theorem mt_103_at : am_mt[103]? = some mt_103 := rfl
abbrev mt_104 : am_M := (⟨"PaternosterRide", "forget", "()I"⟩, prog_1_method_23_code, 2, some .int, 7, 1, 797, 1, 795, 71, 796)
set_option maxRecDepth 10000 in
theorem mt_104_at : am_mt[104]? = some mt_104 := rfl
abbrev mt_105 : am_M := (⟨"PaternosterRide", "kinds", "()I"⟩, prog_1_method_24_code, 1, some .int, 7, 1, 801, 1, 799, 71, 800)
set_option maxRecDepth 10000 in
theorem mt_105_at : am_mt[105]? = some mt_105 := rfl
abbrev mt_106 : am_M := (⟨"PaternosterRide", "ask", "()I"⟩, prog_1_method_25_code, 1, some .int, 7, 1, 824, 1, 822, 71, 823)
set_option maxRecDepth 10000 in
theorem mt_106_at : am_mt[106]? = some mt_106 := rfl
abbrev mt_107 : am_M := (⟨"PaternosterRide", "notes", "(I)I"⟩, prog_1_method_26_code, 2, some .int, 7, 2, 842, 1, 840, 71, 841)
set_option maxRecDepth 10000 in
theorem mt_107_at : am_mt[107]? = some mt_107 := rfl
abbrev mt_108 : am_M := (⟨"PaternosterRide", "insert", "(IIII)I"⟩, prog_1_method_27_code, 7, some .int, 7, 5, 850, 1, 848, 71, 849)
set_option maxRecDepth 10000 in
theorem mt_108_at : am_mt[108]? = some mt_108 := rfl
abbrev mt_109 : am_M := (⟨"PaternosterRide", "look", "(III)I"⟩, prog_1_method_28_code, 5, some .int, 7, 4, 868, 1, 866, 71, 867)
set_option maxRecDepth 10000 in
theorem mt_109_at : am_mt[109]? = some mt_109 := rfl
abbrev mt_110 : am_M := (⟨"PaternosterRide", "cut", "(III)I"⟩, prog_1_method_29_code, 5, some .int, 7, 4, 879, 1, 877, 71, 878)
set_option maxRecDepth 10000 in
theorem mt_110_at : am_mt[110]? = some mt_110 := rfl
abbrev mt_111 : am_M := (⟨"PaternosterRide", "turn", "(IIII)I"⟩, prog_1_method_30_code, 6, some .int, 7, 5, 891, 1, 889, 71, 890)
set_option maxRecDepth 10000 in
theorem mt_111_at : am_mt[111]? = some mt_111 := rfl
abbrev mt_112 : am_M := (⟨"PaternosterRide", "reverse", "(III)I"⟩, prog_1_method_31_code, 5, some .int, 7, 4, 906, 1, 904, 71, 905)
set_option maxRecDepth 10000 in
theorem mt_112_at : am_mt[112]? = some mt_112 := rfl
abbrev mt_113 : am_M := (⟨"PaternosterRide", "paste", "(IIIII)I"⟩, prog_1_method_32_code, 7, some .int, 7, 6, 911, 1, 909, 71, 910)
set_option maxRecDepth 10000 in
theorem mt_113_at : am_mt[113]? = some mt_113 := rfl
abbrev mt_114 : am_M := (⟨"PaternosterRide", "often", "(III)I"⟩, prog_1_method_33_code, 5, some .int, 7, 4, 919, 1, 917, 71, 918)
set_option maxRecDepth 10000 in
theorem mt_114_at : am_mt[114]? = some mt_114 := rfl
abbrev mt_115 : am_M := (⟨"PaternosterRide", "drop", "(I)I"⟩, prog_1_method_34_code, 2, some .int, 7, 2, 927, 1, 925, 71, 926)
set_option maxRecDepth 10000 in
theorem mt_115_at : am_mt[115]? = some mt_115 := rfl
abbrev mt_116 : am_M := (⟨"PaternosterRide", "count", "(I)I"⟩, prog_1_method_35_code, 2, some .int, 7, 2, 931, 1, 929, 71, 930)
set_option maxRecDepth 10000 in
theorem mt_116_at : am_mt[116]? = some mt_116 := rfl
abbrev mt_117 : am_M := (⟨"PaternosterRide", "within", "(III)Z"⟩, prog_1_method_36_code, 3, some .boolean, 7, 3, 369, 0, 368, 71, 0)
set_option maxRecDepth 10000 in
theorem mt_117_at : am_mt[117]? = some mt_117 := rfl
abbrev mt_118 : am_M := (⟨"PaternosterRide", "stepsOrNone", "(I)I"⟩, prog_1_method_37_code, 1, some .int, 7, 1, 691, 0, 690, 71, 0)
set_option maxRecDepth 10000 in
theorem mt_118_at : am_mt[118]? = some mt_118 := rfl
abbrev mt_119 : am_M := (⟨"PaternosterRide", "power", "(II)I"⟩, prog_1_method_38_code, 4, some .int, 7, 2, 775, 0, 774, 71, 0)
set_option maxRecDepth 10000 in
theorem mt_119_at : am_mt[119]? = some mt_119 := rfl
abbrev mt_120 : am_M := (⟨"PaternosterRide", "commonDivisor", "(II)I"⟩, prog_1_method_39_code, 6, some .int, 7, 2, 778, 0, 777, 71, 0)
set_option maxRecDepth 10000 in
theorem mt_120_at : am_mt[120]? = some mt_120 := rfl
abbrev mt_121 : am_M := (⟨"PaternosterRide", "remember", "()V"⟩, prog_1_method_40_code, 1, none, 7, 1, 571, 1, 570, 71, 9)
set_option maxRecDepth 10000 in
theorem mt_121_at : am_mt[121]? = some mt_121 := rfl
abbrev mt_122 : am_M := (⟨"PaternosterRide", "hasNotes", "(I)Z"⟩, prog_1_method_41_code, 2, some .boolean, 7, 2, 846, 1, 845, 71, 23)
set_option maxRecDepth 10000 in
theorem mt_122_at : am_mt[122]? = some mt_122 := rfl
abbrev mt_123 : am_M := (⟨"PaternosterRide", "refusalOfThing", "(III)I"⟩, prog_1_method_42_code, 4, some .int, 7, 4, 854, 1, 853, 71, 24)
set_option maxRecDepth 10000 in
theorem mt_123_at : am_mt[123]? = some mt_123 := rfl
abbrev mt_124 : am_M := (⟨"PaternosterRide", "refusalOfSpan", "(III)I"⟩, prog_1_method_43_code, 4, some .int, 7, 4, 883, 1, 882, 71, 25)
set_option maxRecDepth 10000 in
theorem mt_124_at : am_mt[124]? = some mt_124 := rfl
abbrev mt_125 : am_M := (⟨"PaternosterRide", "thingsInAll", "()I"⟩, prog_1_method_44_code, 3, some .int, 7, 1, 935, 1, 934, 71, 26)
set_option maxRecDepth 10000 in
theorem mt_125_at : am_mt[125]? = some mt_125 := rfl
abbrev mt_126 : am_M := (⟨"PaternosterRideModel", "<init>", "()V"⟩, prog_11_method_1_code, 1, none, 8, 1, 940, 2, 939, 81, 0)
set_option maxRecDepth 10000 in
theorem mt_126_at : am_mt[126]? = some mt_126 := rfl
abbrev mt_127 : am_M := (⟨"PaternosterRideModel", "in", "(JJJ)Z"⟩, prog_11_method_2_code, 6, some .boolean, 8, 3, 950, 0, 949, 81, 0)
set_option maxRecDepth 10000 in
theorem mt_127_at : am_mt[127]? = some mt_127 := rfl
abbrev mt_128 : am_M := (⟨"PaternosterRideModel", "has", "(II)Z"⟩, prog_11_method_3_code, 2, some .boolean, 8, 2, 1197, 0, 1196, 81, 0)
set_option maxRecDepth 10000 in
theorem mt_128_at : am_mt[128]? = some mt_128 := rfl
abbrev mt_129 : am_M := (⟨"PaternosterRideModel", "bits", "(I)I"⟩, prog_11_method_4_code, 3, some .int, 8, 1, 1212, 0, 1211, 81, 0)
set_option maxRecDepth 10000 in
theorem mt_129_at : am_mt[129]? = some mt_129 := rfl
abbrev mt_130 : am_M := (⟨"PaternosterRideModel", "layHouse", "(II)V"⟩, prog_11_method_5_code, 4, none, 8, 3, 945, 1, 944, 81, 27)
set_option maxRecDepth 10000 in
theorem mt_130_at : am_mt[130]? = some mt_130 := rfl
abbrev mt_131 : am_M := (⟨"PaternosterRideModel", "write", "(I)I"⟩, prog_11_method_6_code, 2, some .int, 8, 2, 1055, 1, 1053, 81, 1054)
set_option maxRecDepth 10000 in
theorem mt_131_at : am_mt[131]? = some mt_131 := rfl
abbrev mt_132 : am_M := (⟨"PaternosterRideModel", "erase", "()I"⟩, prog_11_method_7_code, 2, some .int, 8, 1, 1060, 1, 1058, 81, 1059)
set_option maxRecDepth 10000 in
theorem mt_132_at : am_mt[132]? = some mt_132 := rfl
abbrev mt_133 : am_M := (⟨"PaternosterRideModel", "isLetter", "(I)Z"⟩, prog_11_method_8_code, 1, some .boolean, 8, 1, 1075, 0, 1074, 81, 0)
set_option maxRecDepth 10000 in
theorem mt_133_at : am_mt[133]? = some mt_133 := rfl
abbrev mt_134 : am_M := (⟨"PaternosterRideModel", "isDigit", "(I)Z"⟩, prog_11_method_9_code, 1, some .boolean, 8, 1, 1080, 0, 1079, 81, 0)
set_option maxRecDepth 10000 in
theorem mt_134_at : am_mt[134]? = some mt_134 := rfl
abbrev mt_135 : am_M := (⟨"PaternosterRideModel", "nextToken", "()V"⟩, prog_11_method_10_code, 1, none, 8, 1, 1072, 1, 1071, 81, 30)
set_option maxRecDepth 10000 in
theorem mt_135_at : am_mt[135]? = some mt_135 := rfl
abbrev mt_136 : am_M := (⟨"PaternosterRideModel", "isWord", "([I)Z"⟩, prog_11_method_11_code, 4, some .boolean, 8, 2, 1094, 1, 1093, 81, 33)
set_option maxRecDepth 10000 in
theorem mt_136_at : am_mt[136]? = some mt_136 := rfl
abbrev mt_137 : am_M := (⟨"PaternosterRideModel", "number", "(III)Z"⟩, prog_11_method_12_code, 6, some .boolean, 8, 4, 1102, 1, 1101, 81, 35)
set_option maxRecDepth 10000 in
theorem mt_137_at : am_mt[137]? = some mt_137 := rfl
abbrev mt_138 : am_M := (⟨"PaternosterRideModel", "kindHere", "()I"⟩, prog_11_method_13_code, 1, some .int, 8, 1, 1090, 1, 1089, 81, 32)
set_option maxRecDepth 10000 in
theorem mt_138_at : am_mt[138]? = some mt_138 := rfl
abbrev mt_139 : am_M := (⟨"PaternosterRideModel", "readsPerson", "(I)Z"⟩, prog_11_method_14_code, 4, some .boolean, 8, 2, 1098, 1, 1097, 81, 34)
set_option maxRecDepth 10000 in
theorem mt_139_at : am_mt[139]? = some mt_139 := rfl
abbrev mt_140 : am_M := (⟨"PaternosterRideModel", "readsHall", "()Z"⟩, prog_11_method_15_code, 1, some .boolean, 8, 1, 1106, 1, 1105, 81, 36)
set_option maxRecDepth 10000 in
theorem mt_140_at : am_mt[140]? = some mt_140 := rfl
abbrev mt_141 : am_M := (⟨"PaternosterRideModel", "readsRoom", "()Z"⟩, prog_11_method_16_code, 1, some .boolean, 8, 1, 1110, 1, 1109, 81, 37)
set_option maxRecDepth 10000 in
theorem mt_141_at : am_mt[141]? = some mt_141 := rfl
abbrev mt_142 : am_M := (⟨"PaternosterRideModel", "readsShut", "()Z"⟩, prog_11_method_17_code, 1, some .boolean, 8, 1, 1114, 1, 1113, 81, 38)
set_option maxRecDepth 10000 in
theorem mt_142_at : am_mt[142]? = some mt_142 := rfl
abbrev mt_143 : am_M := (⟨"PaternosterRideModel", "readsClause", "()Z"⟩, prog_11_method_18_code, 1, some .boolean, 8, 1, 1086, 1, 1085, 81, 31)
set_option maxRecDepth 10000 in
theorem mt_143_at : am_mt[143]? = some mt_143 := rfl
abbrev mt_144 : am_M := (⟨"PaternosterRideModel", "reads", "(Z)Z"⟩, prog_11_method_19_code, 3, some .boolean, 8, 2, 1068, 1, 1067, 81, 29)
set_option maxRecDepth 10000 in
theorem mt_144_at : am_mt[144]? = some mt_144 := rfl
abbrev mt_145 : am_M := (⟨"PaternosterRideModel", "fault", "()I"⟩, prog_11_method_20_code, 1, some .int, 8, 1, 1064, 1, 1062, 81, 1063)
set_option maxRecDepth 10000 in
theorem mt_145_at : am_mt[145]? = some mt_145 := rfl
abbrev mt_146 : am_M := (⟨"PaternosterRideModel", "copyRow", "(III)V"⟩, prog_11_method_21_code, 5, none, 8, 4, 954, 1, 953, 81, 28)
set_option maxRecDepth 10000 in
theorem mt_146_at : am_mt[146]? = some mt_146 := rfl
abbrev mt_147 : am_M := (⟨"PaternosterRideModel", "hall", "()I"⟩, prog_11_method_22_code, 2, some .int, 8, 1, 1118, 1, 1116, 81, 1117)
set_option maxRecDepth 10000 in
theorem mt_147_at : am_mt[147]? = some mt_147 := rfl
abbrev mt_148 : am_M := (⟨"PaternosterRideModel", "isPerson", "(I)Z"⟩, prog_11_method_23_code, 2, some .boolean, 8, 2, 1126, 1, 1125, 81, 39)
set_option maxRecDepth 10000 in
theorem mt_148_at : am_mt[148]? = some mt_148 := rfl
abbrev mt_149 : am_M := (⟨"PaternosterRideModel", "places", "()I"⟩, prog_11_method_24_code, 1, some .int, 8, 1, 1141, 1, 1140, 81, 41)
set_option maxRecDepth 10000 in
theorem mt_149_at : am_mt[149]? = some mt_149 := rfl
abbrev mt_150 : am_M := (⟨"PaternosterRideModel", "placeOf", "(II)I"⟩, prog_11_method_25_code, 3, some .int, 8, 3, 1145, 1, 1144, 81, 42)
set_option maxRecDepth 10000 in
theorem mt_150_at : am_mt[150]? = some mt_150 := rfl
abbrev mt_151 : am_M := (⟨"PaternosterRideModel", "floorOf", "(II)I"⟩, prog_11_method_26_code, 4, some .int, 8, 3, 1149, 1, 1148, 81, 43)
set_option maxRecDepth 10000 in
theorem mt_151_at : am_mt[151]? = some mt_151 := rfl
abbrev mt_152 : am_M := (⟨"PaternosterRideModel", "cabinAt", "(IIZ)I"⟩, prog_11_method_27_code, 5, some .int, 8, 4, 1190, 1, 1189, 81, 50)
set_option maxRecDepth 10000 in
theorem mt_152_at : am_mt[152]? = some mt_152 := rfl
abbrev mt_153 : am_M := (⟨"PaternosterRideModel", "takes", "(I)I"⟩, prog_11_method_28_code, 1, some .int, 8, 1, 1129, 0, 1128, 81, 0)
set_option maxRecDepth 10000 in
theorem mt_153_at : am_mt[153]? = some mt_153 := rfl
abbrev mt_154 : am_M := (⟨"PaternosterRideModel", "ridersIn", "(II)I"⟩, prog_11_method_29_code, 5, some .int, 8, 3, 1153, 1, 1152, 81, 44)
set_option maxRecDepth 10000 in
theorem mt_154_at : am_mt[154]? = some mt_154 := rfl
abbrev mt_155 : am_M := (⟨"PaternosterRideModel", "roomIn", "(II)I"⟩, prog_11_method_30_code, 5, some .int, 8, 3, 1157, 1, 1156, 81, 45)
set_option maxRecDepth 10000 in
theorem mt_155_at : am_mt[155]? = some mt_155 := rfl
abbrev mt_156 : am_M := (⟨"PaternosterRideModel", "looksUp", "(IZ)Z"⟩, prog_11_method_31_code, 2, some .boolean, 8, 2, 1186, 0, 1185, 81, 0)
set_option maxRecDepth 10000 in
theorem mt_156_at : am_mt[156]? = some mt_156 := rfl
abbrev mt_157 : am_M := (⟨"PaternosterRideModel", "fits", "(III)Z"⟩, prog_11_method_32_code, 5, some .boolean, 8, 4, 1194, 1, 1193, 81, 51)
set_option maxRecDepth 10000 in
theorem mt_157_at : am_mt[157]? = some mt_157 := rfl
abbrev mt_158 : am_M := (⟨"PaternosterRideModel", "looks", "(II)V"⟩, prog_11_method_33_code, 9, none, 8, 3, 1183, 1, 1182, 81, 49)
set_option maxRecDepth 10000 in
theorem mt_158_at : am_mt[158]? = some mt_158 := rfl
abbrev mt_159 : am_M := (⟨"PaternosterRideModel", "getsOut", "(II)V"⟩, prog_11_method_34_code, 4, none, 8, 3, 1179, 1, 1178, 81, 48)
set_option maxRecDepth 10000 in
theorem mt_159_at : am_mt[159]? = some mt_159 := rfl
abbrev mt_160 : am_M := (⟨"PaternosterRideModel", "steps", "(II)V"⟩, prog_11_method_35_code, 5, none, 8, 3, 1175, 1, 1174, 81, 47)
set_option maxRecDepth 10000 in
theorem mt_160_at : am_mt[160]? = some mt_160 := rfl
abbrev mt_161 : am_M := (⟨"PaternosterRideModel", "person", "(II)I"⟩, prog_11_method_36_code, 3, some .int, 8, 3, 1122, 1, 1120, 81, 1121)
set_option maxRecDepth 10000 in
theorem mt_161_at : am_mt[161]? = some mt_161 := rfl
abbrev mt_162 : am_M := (⟨"PaternosterRideModel", "isCabin", "(I)Z"⟩, prog_11_method_37_code, 2, some .boolean, 8, 2, 1137, 1, 1136, 81, 40)
set_option maxRecDepth 10000 in
theorem mt_162_at : am_mt[162]? = some mt_162 := rfl
abbrev mt_163 : am_M := (⟨"PaternosterRideModel", "cabin", "(II)I"⟩, prog_11_method_38_code, 3, some .int, 8, 3, 1133, 1, 1131, 81, 1132)
set_option maxRecDepth 10000 in
theorem mt_163_at : am_mt[163]? = some mt_163 := rfl
abbrev mt_164 : am_M := (⟨"PaternosterRideModel", "as", "(II)I"⟩, prog_11_method_39_code, 5, some .int, 8, 3, 1161, 1, 1159, 81, 1160)
set_option maxRecDepth 10000 in
theorem mt_164_at : am_mt[164]? = some mt_164 := rfl
abbrev mt_165 : am_M := (⟨"PaternosterRideModel", "keepPast", "()V"⟩, prog_11_method_40_code, 2, none, 8, 1, 1171, 1, 1170, 81, 46)
set_option maxRecDepth 10000 in
theorem mt_165_at : am_mt[165]? = some mt_165 := rfl
abbrev mt_166 : am_M := (⟨"PaternosterRideModel", "step", "(I)I"⟩, prog_11_method_41_code, 2, some .int, 8, 2, 1166, 1, 1164, 81, 1165)
set_option maxRecDepth 10000 in
theorem mt_166_at : am_mt[166]? = some mt_166 := rfl
abbrev mt_167 : am_M := (⟨"PaternosterRideModel", "shut", "(I)I"⟩, prog_11_method_42_code, 2, some .int, 8, 2, 1201, 1, 1199, 81, 1200)
set_option maxRecDepth 10000 in
theorem mt_167_at : am_mt[167]? = some mt_167 := rfl
abbrev mt_168 : am_M := (⟨"PaternosterRideModel", "those", "(I)I"⟩, prog_11_method_43_code, 4, some .int, 8, 2, 1209, 1, 1208, 81, 52)
set_option maxRecDepth 10000 in
theorem mt_168_at : am_mt[168]? = some mt_168 := rfl
abbrev mt_169 : am_M := (⟨"PaternosterRideModel", "stairs", "(I)I"⟩, prog_11_method_44_code, 2, some .int, 8, 2, 1205, 1, 1203, 81, 1204)
set_option maxRecDepth 10000 in
theorem mt_169_at : am_mt[169]? = some mt_169 := rfl
abbrev mt_170 : am_M := (⟨"PaternosterRideModel", "undo", "()I"⟩, prog_11_method_45_code, 1, some .int, 8, 1, 1216, 1, 1214, 81, 1215)
set_option maxRecDepth 10000 in
theorem mt_170_at : am_mt[170]? = some mt_170 := rfl
abbrev mt_171 : am_M := (⟨"PaternosterRideModel", "keep", "(I)I"⟩, prog_11_method_46_code, 2, some .int, 8, 2, 1220, 1, 1218, 81, 1219)
set_option maxRecDepth 10000 in
theorem mt_171_at : am_mt[171]? = some mt_171 := rfl
abbrev mt_172 : am_M := (⟨"PaternosterRideModel", "back", "(I)I"⟩, prog_11_method_47_code, 2, some .int, 8, 2, 1224, 1, 1222, 81, 1223)
set_option maxRecDepth 10000 in
theorem mt_172_at : am_mt[172]? = some mt_172 := rfl
abbrev mt_173 : am_M := (⟨"PaternosterRideModel", "layTried", "()V"⟩, prog_11_method_48_code, 1, none, 8, 1, 1234, 1, 1233, 81, 53)
set_option maxRecDepth 10000 in
theorem mt_173_at : am_mt[173]? = some mt_173 := rfl
abbrev mt_174 : am_M := (⟨"PaternosterRideModel", "behind", "(III)I"⟩, prog_11_method_49_code, 4, some .int, 8, 4, 1228, 1, 1226, 81, 1227)
set_option maxRecDepth 10000 in
theorem mt_174_at : am_mt[174]? = some mt_174 := rfl
abbrev mt_175 : am_M := (⟨"PaternosterRideModel", "layWhen", "()V"⟩, prog_11_method_50_code, 3, none, 8, 1, 1242, 1, 1241, 81, 54)
set_option maxRecDepth 10000 in
theorem mt_175_at : am_mt[175]? = some mt_175 := rfl
abbrev mt_176 : am_M := (⟨"PaternosterRideModel", "latest", "()I"⟩, prog_11_method_51_code, 3, some .int, 8, 1, 1250, 1, 1249, 81, 55)
set_option maxRecDepth 10000 in
theorem mt_176_at : am_mt[176]? = some mt_176 := rfl
abbrev mt_177 : am_M := (⟨"PaternosterRideModel", "arrives", "(I)I"⟩, prog_11_method_52_code, 2, some .int, 8, 2, 1238, 1, 1236, 81, 1237)
set_option maxRecDepth 10000 in
theorem mt_177_at : am_mt[177]? = some mt_177 := rfl
abbrev mt_178 : am_M := (⟨"PaternosterRideModel", "all", "()I"⟩, prog_11_method_53_code, 1, some .int, 8, 1, 1246, 1, 1244, 81, 1245)
set_option maxRecDepth 10000 in
theorem mt_178_at : am_mt[178]? = some mt_178 := rfl
abbrev mt_179 : am_M := (⟨"PaternosterRideModel", "meet", "(II)I"⟩, prog_11_method_54_code, 4, some .int, 8, 3, 1254, 1, 1252, 81, 1253)
set_option maxRecDepth 10000 in
theorem mt_179_at : am_mt[179]? = some mt_179 := rfl
abbrev mt_180 : am_M := (⟨"PaternosterRideModel", "jam", "(I)I"⟩, prog_11_method_55_code, 5, some .int, 8, 2, 1258, 1, 1256, 81, 1257)
set_option maxRecDepth 10000 in
theorem mt_180_at : am_mt[180]? = some mt_180 := rfl
abbrev mt_181 : am_M := (⟨"PaternosterRideModel", "lookRising", "()V"⟩, prog_11_method_56_code, 2, none, 8, 1, 1283, 1, 1282, 81, 60)
set_option maxRecDepth 10000 in
theorem mt_181_at : am_mt[181]? = some mt_181 := rfl
abbrev mt_182 : am_M := (⟨"PaternosterRideModel", "layTurns", "()I"⟩, prog_11_method_57_code, 5, some .int, 8, 1, 1267, 1, 1266, 81, 56)
set_option maxRecDepth 10000 in
theorem mt_182_at : am_mt[182]? = some mt_182 := rfl
abbrev mt_183 : am_M := (⟨"PaternosterRideModel", "swapTurns", "(II)V"⟩, prog_11_method_58_code, 4, none, 8, 3, 1279, 1, 1278, 81, 59)
set_option maxRecDepth 10000 in
theorem mt_183_at : am_mt[183]? = some mt_183 := rfl
abbrev mt_184 : am_M := (⟨"PaternosterRideModel", "nextTurns", "(I)Z"⟩, prog_11_method_59_code, 6, some .boolean, 8, 2, 1275, 1, 1274, 81, 58)
set_option maxRecDepth 10000 in
theorem mt_184_at : am_mt[184]? = some mt_184 := rfl
abbrev mt_185 : am_M := (⟨"PaternosterRideModel", "sumOfAll", "()I"⟩, prog_11_method_60_code, 3, some .int, 8, 1, 1271, 1, 1270, 81, 57)
set_option maxRecDepth 10000 in
theorem mt_185_at : am_mt[185]? = some mt_185 := rfl
abbrev mt_186 : am_M := (⟨"PaternosterRideModel", "order", "(I)I"⟩, prog_11_method_61_code, 7, some .int, 8, 2, 1262, 1, 1260, 81, 1261)
set_option maxRecDepth 10000 in
theorem mt_186_at : am_mt[186]? = some mt_186 := rfl
abbrev mt_187 : am_M := (⟨"PaternosterRideModel", "could", "(II)Z"⟩, prog_11_method_62_code, 9, some .boolean, 8, 3, 1292, 1, 1291, 81, 61)
set_option maxRecDepth 10000 in
theorem mt_187_at : am_mt[187]? = some mt_187 := rfl
abbrev mt_188 : am_M := (⟨"PaternosterRideModel", "dares", "(IIII)I"⟩, prog_11_method_63_code, 17, some .int, 8, 5, 1287, 1, 1285, 81, 1286)
set_option maxRecDepth 10000 in
theorem mt_188_at : am_mt[188]? = some mt_188 := rfl
abbrev mt_189 : am_M := (⟨"PaternosterRideModel", "seen", "(III)I"⟩, prog_11_method_64_code, 4, some .int, 8, 4, 1296, 1, 1294, 81, 1295)
set_option maxRecDepth 10000 in
theorem mt_189_at : am_mt[189]? = some mt_189 := rfl
abbrev mt_190 : am_M := (⟨"PaternosterRideModel", "forget", "()I"⟩, prog_11_method_65_code, 2, some .int, 8, 1, 1300, 1, 1298, 81, 1299)
set_option maxRecDepth 10000 in
theorem mt_190_at : am_mt[190]? = some mt_190 := rfl
abbrev mt_191 : am_M := (⟨"PaternosterRideModel", "ridesAlone", "(III)I"⟩, prog_11_method_66_code, 9, some .int, 8, 4, 1308, 1, 1307, 81, 62)
set_option maxRecDepth 10000 in
theorem mt_191_at : am_mt[191]? = some mt_191 := rfl
abbrev mt_192 : am_M := (⟨"PaternosterRideModel", "kinds", "()I"⟩, prog_11_method_67_code, 5, some .int, 8, 1, 1304, 1, 1302, 81, 1303)
set_option maxRecDepth 10000 in
theorem mt_192_at : am_mt[192]? = some mt_192 := rfl
abbrev mt_193 : am_M := (⟨"PaternosterRideModel", "greatestPart", "(III)I"⟩, prog_11_method_68_code, 8, some .int, 8, 4, 1317, 1, 1316, 81, 63)
set_option maxRecDepth 10000 in
theorem mt_193_at : am_mt[193]? = some mt_193 := rfl
abbrev mt_194 : am_M := (⟨"PaternosterRideModel", "ask", "()I"⟩, prog_11_method_69_code, 7, some .int, 8, 1, 1312, 1, 1310, 81, 1311)
set_option maxRecDepth 10000 in
theorem mt_194_at : am_mt[194]? = some mt_194 := rfl
abbrev mt_195 : am_M := (⟨"PaternosterRideModel", "isNotes", "(I)Z"⟩, prog_11_method_70_code, 1, some .boolean, 8, 1, 1324, 0, 1323, 81, 0)
set_option maxRecDepth 10000 in
theorem mt_195_at : am_mt[195]? = some mt_195 := rfl
abbrev mt_196 : am_M := (⟨"PaternosterRideModel", "notes", "(I)I"⟩, prog_11_method_71_code, 2, some .int, 8, 2, 1321, 1, 1319, 81, 1320)
set_option maxRecDepth 10000 in
theorem mt_196_at : am_mt[196]? = some mt_196 := rfl
abbrev mt_197 : am_M := (⟨"PaternosterRideModel", "noSuch", "(III)I"⟩, prog_11_method_72_code, 4, some .int, 8, 4, 1333, 1, 1332, 81, 64)
set_option maxRecDepth 10000 in
theorem mt_197_at : am_mt[197]? = some mt_197 := rfl
abbrev mt_198 : am_M := (⟨"PaternosterRideModel", "makeRoom", "(III)V"⟩, prog_11_method_73_code, 5, none, 8, 4, 1340, 1, 1339, 81, 65)
set_option maxRecDepth 10000 in
theorem mt_198_at : am_mt[198]? = some mt_198 := rfl
abbrev mt_199 : am_M := (⟨"PaternosterRideModel", "insert", "(IIII)I"⟩, prog_11_method_74_code, 6, some .int, 8, 5, 1329, 1, 1327, 81, 1328)
set_option maxRecDepth 10000 in
theorem mt_199_at : am_mt[199]? = some mt_199 := rfl
abbrev mt_200 : am_M := (⟨"PaternosterRideModel", "look", "(III)I"⟩, prog_11_method_75_code, 5, some .int, 8, 4, 1344, 1, 1342, 81, 1343)
set_option maxRecDepth 10000 in
theorem mt_200_at : am_mt[200]? = some mt_200 := rfl
abbrev mt_201 : am_M := (⟨"PaternosterRideModel", "noSpan", "(III)I"⟩, prog_11_method_76_code, 4, some .int, 8, 4, 1353, 1, 1352, 81, 66)
set_option maxRecDepth 10000 in
theorem mt_201_at : am_mt[201]? = some mt_201 := rfl
abbrev mt_202 : am_M := (⟨"PaternosterRideModel", "cut", "(III)I"⟩, prog_11_method_77_code, 6, some .int, 8, 4, 1349, 1, 1347, 81, 1348)
set_option maxRecDepth 10000 in
theorem mt_202_at : am_mt[202]? = some mt_202 := rfl
abbrev mt_203 : am_M := (⟨"PaternosterRideModel", "take", "(III)V"⟩, prog_11_method_78_code, 5, none, 8, 4, 1363, 1, 1362, 81, 67)
set_option maxRecDepth 10000 in
theorem mt_203_at : am_mt[203]? = some mt_203 := rfl
abbrev mt_204 : am_M := (⟨"PaternosterRideModel", "lay", "(III)V"⟩, prog_11_method_79_code, 4, none, 8, 4, 1367, 1, 1366, 81, 68)
set_option maxRecDepth 10000 in
theorem mt_204_at : am_mt[204]? = some mt_204 := rfl
abbrev mt_205 : am_M := (⟨"PaternosterRideModel", "turn", "(IIII)I"⟩, prog_11_method_80_code, 8, some .int, 8, 5, 1357, 1, 1355, 81, 1356)
set_option maxRecDepth 10000 in
theorem mt_205_at : am_mt[205]? = some mt_205 := rfl
abbrev mt_206 : am_M := (⟨"PaternosterRideModel", "reverse", "(III)I"⟩, prog_11_method_81_code, 6, some .int, 8, 4, 1371, 1, 1369, 81, 1370)
set_option maxRecDepth 10000 in
theorem mt_206_at : am_mt[206]? = some mt_206 := rfl
abbrev mt_207 : am_M := (⟨"PaternosterRideModel", "paste", "(IIIII)I"⟩, prog_11_method_82_code, 8, some .int, 8, 6, 1375, 1, 1373, 81, 1374)
set_option maxRecDepth 10000 in
theorem mt_207_at : am_mt[207]? = some mt_207 := rfl
abbrev mt_208 : am_M := (⟨"PaternosterRideModel", "often", "(III)I"⟩, prog_11_method_83_code, 7, some .int, 8, 4, 1379, 1, 1377, 81, 1378)
set_option maxRecDepth 10000 in
theorem mt_208_at : am_mt[208]? = some mt_208 := rfl
abbrev mt_209 : am_M := (⟨"PaternosterRideModel", "drop", "(I)I"⟩, prog_11_method_84_code, 3, some .int, 8, 2, 1383, 1, 1381, 81, 1382)
set_option maxRecDepth 10000 in
theorem mt_209_at : am_mt[209]? = some mt_209 := rfl
abbrev mt_210 : am_M := (⟨"PaternosterRideModel", "allThings", "()I"⟩, prog_11_method_85_code, 3, some .int, 8, 1, 1391, 1, 1390, 81, 69)
set_option maxRecDepth 10000 in
theorem mt_210_at : am_mt[210]? = some mt_210 := rfl
abbrev mt_211 : am_M := (⟨"PaternosterRideModel", "count", "(I)I"⟩, prog_11_method_86_code, 2, some .int, 8, 2, 1387, 1, 1385, 81, 1386)
set_option maxRecDepth 10000 in
theorem mt_211_at : am_mt[211]? = some mt_211 := rfl
abbrev mt_212 : am_M := (⟨"java/lang/Integer", "bitCount", "(I)I"⟩, prog_13_method_49_code, 1, some .int, 10, 1, 648, 0, 647, 88, 0)
set_option maxRecDepth 10000 in
theorem mt_212_at : am_mt[212]? = some mt_212 := rfl
abbrev mt_213 : am_M := (⟨"java/lang/Math", "floorMod", "(II)I"⟩, prog_14_method_50_code, 3, some .int, 11, 2, 898, 0, 897, 87, 0)
set_option maxRecDepth 10000 in
theorem mt_213_at : am_mt[213]? = some mt_213 := rfl
abbrev mt_214 : am_M := (⟨"java/lang/Math", "max", "(II)I"⟩, prog_14_method_65_code, 2, some .int, 11, 2, 781, 0, 780, 87, 0)
set_option maxRecDepth 10000 in
theorem mt_214_at : am_mt[214]? = some mt_214 := rfl
abbrev mt_215 : am_M := (⟨"java/lang/Math", "min", "(II)I"⟩, prog_14_method_69_code, 2, some .int, 11, 2, 585, 0, 584, 87, 0)
set_option maxRecDepth 10000 in
theorem mt_215_at : am_mt[215]? = some mt_215 := rfl
abbrev mt_216 : am_M := (⟨"java/lang/String", "length", "()I"⟩, prog_15_method_54_code, 1, some .int, 12, 1, 409, 1, 407, 82, 408)
set_option maxRecDepth 10000 in
theorem mt_216_at : am_mt[216]? = some mt_216 := rfl
abbrev mt_217 : am_M := (⟨"java/lang/String", "charAt", "(I)C"⟩, prog_15_method_56_code, 2, some .char, 12, 2, 419, 1, 417, 82, 418)
set_option maxRecDepth 10000 in
theorem mt_217_at : am_mt[217]? = some mt_217 := rfl
abbrev mt_218 : am_M := (⟨"java/lang/String", "coder", "()B"⟩, prog_15_method_152_code, 1, some .byte, 12, 1, 413, 1, 411, 82, 412)
set_option maxRecDepth 10000 in
theorem mt_218_at : am_mt[218]? = some mt_218 := rfl
abbrev mt_219 : am_M := (⟨"java/lang/String", "isLatin1", "()Z"⟩, prog_15_method_154_code, 1, some .boolean, 12, 1, 423, 1, 421, 82, 422)
set_option maxRecDepth 10000 in
theorem mt_219_at : am_mt[219]? = some mt_219 := rfl
abbrev mt_220 : am_M := (⟨"java/lang/String", "checkIndex", "(II)V"⟩, prog_15_method_155_code, 2, none, 12, 2, 429, 0, 428, 82, 0)
set_option maxRecDepth 10000 in
theorem mt_220_at : am_mt[220]? = some mt_220 := rfl
abbrev mt_221 : am_M := (⟨"java/lang/StringLatin1", "charAt", "([BI)C"⟩, prog_16_method_2_code, 2, some .char, 13, 2, 426, 0, 425, 83, 0)
set_option maxRecDepth 10000 in
theorem mt_221_at : am_mt[221]? = some mt_221 := rfl
abbrev mt_222 : am_M := (⟨"jdk/internal/util/Preconditions", "checkIndex", "(IILjava/util/function/BiFunction;)I"⟩, prog_19_method_11_code, 3, some .int, 14, 3, 434, 0, 433, 84, 0)
set_option maxRecDepth 10000 in
theorem mt_222_at : am_mt[222]? = some mt_222 := rfl
abbrev mt_223 : am_M := (⟨"PaternosterRideLaw", "law", "([I)Z"⟩, code, 4, some .boolean, 15, 1, 0, 0, 0, 0, 0)
set_option maxRecDepth 10000 in
theorem mt_223_at : am_mt[223]? = some mt_223 := rfl
