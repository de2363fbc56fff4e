/-! THE SYSTEM's WORLDS by cell numbers, its links, its constants: laid by program -/
theorem zcB_m9 : (Int8.ofInt (-9)).toInt32 = (-9 : Int32) := by decide
theorem zcB_m4 : (Int8.ofInt (-4)).toInt32 = (-4 : Int32) := by decide
theorem zcB_m3 : (Int8.ofInt (-3)).toInt32 = (-3 : Int32) := by decide
theorem zcB_m2 : (Int8.ofInt (-2)).toInt32 = (-2 : Int32) := by decide
theorem zcB_6 : (Int8.ofInt 6).toInt32 = (6 : Int32) := by decide
theorem zcB_7 : (Int8.ofInt 7).toInt32 = (7 : Int32) := by decide
theorem zcB_8 : (Int8.ofInt 8).toInt32 = (8 : Int32) := by decide
theorem zcB_9 : (Int8.ofInt 9).toInt32 = (9 : Int32) := by decide
theorem zcB_10 : (Int8.ofInt 10).toInt32 = (10 : Int32) := by decide
theorem zcB_11 : (Int8.ofInt 11).toInt32 = (11 : Int32) := by decide
theorem zcB_12 : (Int8.ofInt 12).toInt32 = (12 : Int32) := by decide
theorem zcB_13 : (Int8.ofInt 13).toInt32 = (13 : Int32) := by decide
theorem zcB_15 : (Int8.ofInt 15).toInt32 = (15 : Int32) := by decide
theorem zcB_17 : (Int8.ofInt 17).toInt32 = (17 : Int32) := by decide
theorem zcB_18 : (Int8.ofInt 18).toInt32 = (18 : Int32) := by decide
theorem zcB_20 : (Int8.ofInt 20).toInt32 = (20 : Int32) := by decide
theorem zcB_21 : (Int8.ofInt 21).toInt32 = (21 : Int32) := by decide
theorem zcB_22 : (Int8.ofInt 22).toInt32 = (22 : Int32) := by decide
theorem zcB_23 : (Int8.ofInt 23).toInt32 = (23 : Int32) := by decide
theorem zcB_24 : (Int8.ofInt 24).toInt32 = (24 : Int32) := by decide
theorem zcB_30 : (Int8.ofInt 30).toInt32 = (30 : Int32) := by decide
theorem zcB_31 : (Int8.ofInt 31).toInt32 = (31 : Int32) := by decide
theorem zcB_32 : (Int8.ofInt 32).toInt32 = (32 : Int32) := by decide
theorem zcB_40 : (Int8.ofInt 40).toInt32 = (40 : Int32) := by decide
theorem zcB_44 : (Int8.ofInt 44).toInt32 = (44 : Int32) := by decide
theorem zcB_48 : (Int8.ofInt 48).toInt32 = (48 : Int32) := by decide
theorem zcB_50 : (Int8.ofInt 50).toInt32 = (50 : Int32) := by decide
theorem zcB_51 : (Int8.ofInt 51).toInt32 = (51 : Int32) := by decide
theorem zcB_57 : (Int8.ofInt 57).toInt32 = (57 : Int32) := by decide
theorem zcB_59 : (Int8.ofInt 59).toInt32 = (59 : Int32) := by decide
theorem zcB_60 : (Int8.ofInt 60).toInt32 = (60 : Int32) := by decide
theorem zcB_99 : (Int8.ofInt 99).toInt32 = (99 : Int32) := by decide
theorem zcB_100 : (Int8.ofInt 100).toInt32 = (100 : Int32) := by decide
theorem zcB_101 : (Int8.ofInt 101).toInt32 = (101 : Int32) := by decide
theorem zcB_126 : (Int8.ofInt 126).toInt32 = (126 : Int32) := by decide
theorem zcB_127 : (Int8.ofInt 127).toInt32 = (127 : Int32) := by decide
theorem zcI_m1 : Int32.ofInt (-1) = (-1 : Int32) := by decide
theorem zcI_0 : Int32.ofInt 0 = (0 : Int32) := by decide
theorem zcI_1 : Int32.ofInt 1 = (1 : Int32) := by decide
theorem zcI_2 : Int32.ofInt 2 = (2 : Int32) := by decide
theorem zcI_3 : Int32.ofInt 3 = (3 : Int32) := by decide
theorem zcI_4 : Int32.ofInt 4 = (4 : Int32) := by decide
theorem zcI_5 : Int32.ofInt 5 = (5 : Int32) := by decide
theorem zcS_491 : (Int16.ofInt 491).toInt32 = (491 : Int32) := by decide
theorem zcS_500 : (Int16.ofInt 500).toInt32 = (500 : Int32) := by decide
theorem zcS_501 : (Int16.ofInt 501).toInt32 = (501 : Int32) := by decide
theorem zcS_990 : (Int16.ofInt 990).toInt32 = (990 : Int32) := by decide
theorem zcS_999 : (Int16.ofInt 999).toInt32 = (999 : Int32) := by decide
theorem zcS_1000 : (Int16.ofInt 1000).toInt32 = (1000 : Int32) := by decide
theorem vc_0 : vwCl[0]? = some (RX0, TX0, 8) := rfl
theorem vc_1 : vwCl[1]? = some (RX1, TX1, 3) := rfl
theorem vc_2 : vwCl[2]? = some (RX2, TX2, 15) := rfl
theorem vc_3 : vwCl[3]? = some (RX3, TX3, 4) := rfl
theorem vc_4 : vwCl[4]? = some (RX4, TX4, 9) := rfl
theorem vc_5 : vwCl[5]? = some (RX5, TX5, 5) := rfl
theorem vc_6 : vwCl[6]? = some (RX6, TX6, 8) := rfl
theorem vc_7 : vwCl[7]? = some (RX7, TX7, 5) := rfl
theorem vc_8 : vwCl[8]? = some (RX8, TX8, 6) := rfl
theorem vc_9 : vwCl[9]? = some (RX9, TX9, 5) := rfl
theorem fl_X0_9 : Cond.fieldLink RX0 9 "PaperRounds$Carriers" "many" "I" ∈ wsL_law := (wsL_c4 _ (List.mem_of_getElem? (i := 22) rfl))
theorem fl_X0_15 : Cond.fieldLink RX0 15 "PaperRounds$Carriers" "cart" "[I" ∈ wsL_law := (wsL_c4 _ (List.mem_of_getElem? (i := 23) rfl))
theorem fl_X0_19 : Cond.fieldLink RX0 19 "PaperRounds$Carriers" "limit" "[I" ∈ wsL_law := (wsL_c5 _ (List.mem_of_getElem? (i := 0) rfl))
theorem fl_X0_22 : Cond.fieldLink RX0 22 "PaperRounds$Carriers" "biscuits" "[I" ∈ wsL_law := (wsL_c5 _ (List.mem_of_getElem? (i := 1) rfl))
theorem fl_X0_25 : Cond.fieldLink RX0 25 "PaperRounds$Carriers" "trips" "[I" ∈ wsL_law := (wsL_c5 _ (List.mem_of_getElem? (i := 2) rfl))
theorem fl_X0_28 : Cond.fieldLink RX0 28 "PaperRounds$Carriers" "effort" "[I" ∈ wsL_law := (wsL_c5 _ (List.mem_of_getElem? (i := 3) rfl))
theorem fl_X0_31 : Cond.fieldLink RX0 31 "PaperRounds$Carriers" "tips" "[I" ∈ wsL_law := (wsL_c5 _ (List.mem_of_getElem? (i := 4) rfl))
theorem fl_X0_34 : Cond.fieldLink RX0 34 "PaperRounds$Carriers" "delivered" "[I" ∈ wsL_law := (wsL_c5 _ (List.mem_of_getElem? (i := 5) rfl))
theorem fl_X1_9 : Cond.fieldLink RX1 9 "PaperRounds$History" "kept" "I" ∈ wsL_law := (wsL_c5 _ (List.mem_of_getElem? (i := 10) rfl))
theorem fl_X1_15 : Cond.fieldLink RX1 15 "PaperRounds$History" "oldest" "I" ∈ wsL_law := (wsL_c5 _ (List.mem_of_getElem? (i := 11) rfl))
theorem fl_X1_20 : Cond.fieldLink RX1 20 "PaperRounds$History" "rows" "[LPaperRounds$Town;" ∈ wsL_law := (wsL_c5 _ (List.mem_of_getElem? (i := 13) rfl))
theorem fl_X2_9 : Cond.fieldLink RX2 9 "PaperRounds$Houses" "many" "I" ∈ wsL_law := (wsL_c3 _ (List.mem_of_getElem? (i := 21) rfl))
theorem fl_X2_15 : Cond.fieldLink RX2 15 "PaperRounds$Houses" "corner" "[I" ∈ wsL_law := (wsL_c3 _ (List.mem_of_getElem? (i := 22) rfl))
theorem fl_X2_19 : Cond.fieldLink RX2 19 "PaperRounds$Houses" "papers" "[I" ∈ wsL_law := (wsL_c3 _ (List.mem_of_getElem? (i := 23) rfl))
theorem fl_X2_22 : Cond.fieldLink RX2 22 "PaperRounds$Houses" "tip" "[I" ∈ wsL_law := (wsL_c4 _ (List.mem_of_getElem? (i := 0) rfl))
theorem fl_X2_25 : Cond.fieldLink RX2 25 "PaperRounds$Houses" "carrier" "[I" ∈ wsL_law := (wsL_c4 _ (List.mem_of_getElem? (i := 1) rfl))
theorem fl_X2_28 : Cond.fieldLink RX2 28 "PaperRounds$Houses" "period" "[I" ∈ wsL_law := (wsL_c4 _ (List.mem_of_getElem? (i := 2) rfl))
theorem fl_X2_31 : Cond.fieldLink RX2 31 "PaperRounds$Houses" "phase" "[I" ∈ wsL_law := (wsL_c4 _ (List.mem_of_getElem? (i := 3) rfl))
theorem fl_X2_34 : Cond.fieldLink RX2 34 "PaperRounds$Houses" "delivered" "[I" ∈ wsL_law := (wsL_c4 _ (List.mem_of_getElem? (i := 4) rfl))
theorem fl_X2_37 : Cond.fieldLink RX2 37 "PaperRounds$Houses" "paused" "[I" ∈ wsL_law := (wsL_c4 _ (List.mem_of_getElem? (i := 5) rfl))
theorem fl_X2_40 : Cond.fieldLink RX2 40 "PaperRounds$Houses" "returned" "[I" ∈ wsL_law := (wsL_c4 _ (List.mem_of_getElem? (i := 6) rfl))
theorem fl_X2_43 : Cond.fieldLink RX2 43 "PaperRounds$Houses" "lost" "[I" ∈ wsL_law := (wsL_c4 _ (List.mem_of_getElem? (i := 7) rfl))
theorem fl_X2_46 : Cond.fieldLink RX2 46 "PaperRounds$Houses" "complaints" "[I" ∈ wsL_law := (wsL_c4 _ (List.mem_of_getElem? (i := 8) rfl))
theorem fl_X2_49 : Cond.fieldLink RX2 49 "PaperRounds$Houses" "freshComplaints" "[I" ∈ wsL_law := (wsL_c4 _ (List.mem_of_getElem? (i := 9) rfl))
theorem fl_X2_52 : Cond.fieldLink RX2 52 "PaperRounds$Houses" "freshDelivered" "[I" ∈ wsL_law := (wsL_c4 _ (List.mem_of_getElem? (i := 10) rfl))
theorem fl_X2_55 : Cond.fieldLink RX2 55 "PaperRounds$Houses" "order" "[I" ∈ wsL_law := (wsL_c4 _ (List.mem_of_getElem? (i := 11) rfl))
theorem fl_X2_70 : Cond.fieldLink RX2 70 "PaperRounds$Streets" "many" "I" ∈ wsL_law := (wsL_c23 _ (List.mem_of_getElem? (i := 4) rfl))
theorem fl_X2_73 : Cond.fieldLink RX2 73 "PaperRounds$Streets" "order" "[I" ∈ wsL_law := (wsL_c23 _ (List.mem_of_getElem? (i := 5) rfl))
theorem fl_X3_9 : Cond.fieldLink RX3 9 "PaperRounds$Pauses" "many" "I" ∈ wsL_law := (wsL_c4 _ (List.mem_of_getElem? (i := 15) rfl))
theorem fl_X3_15 : Cond.fieldLink RX3 15 "PaperRounds$Pauses" "house" "[I" ∈ wsL_law := (wsL_c4 _ (List.mem_of_getElem? (i := 16) rfl))
theorem fl_X3_19 : Cond.fieldLink RX3 19 "PaperRounds$Pauses" "first" "[I" ∈ wsL_law := (wsL_c4 _ (List.mem_of_getElem? (i := 17) rfl))
theorem fl_X3_22 : Cond.fieldLink RX3 22 "PaperRounds$Pauses" "last" "[I" ∈ wsL_law := (wsL_c4 _ (List.mem_of_getElem? (i := 18) rfl))
theorem fl_X4_9 : Cond.fieldLink RX4 9 "PaperRounds$Streets" "many" "I" ∈ wsL_law := (wsL_c3 _ (List.mem_of_getElem? (i := 9) rfl))
theorem fl_X4_15 : Cond.fieldLink RX4 15 "PaperRounds$Streets" "ahead" "[I" ∈ wsL_law := (wsL_c3 _ (List.mem_of_getElem? (i := 10) rfl))
theorem fl_X4_19 : Cond.fieldLink RX4 19 "PaperRounds$Streets" "length" "[I" ∈ wsL_law := (wsL_c3 _ (List.mem_of_getElem? (i := 11) rfl))
theorem fl_X4_22 : Cond.fieldLink RX4 22 "PaperRounds$Streets" "height" "[I" ∈ wsL_law := (wsL_c3 _ (List.mem_of_getElem? (i := 12) rfl))
theorem fl_X4_25 : Cond.fieldLink RX4 25 "PaperRounds$Streets" "stairs" "[I" ∈ wsL_law := (wsL_c3 _ (List.mem_of_getElem? (i := 13) rfl))
theorem fl_X4_28 : Cond.fieldLink RX4 28 "PaperRounds$Streets" "depth" "[I" ∈ wsL_law := (wsL_c3 _ (List.mem_of_getElem? (i := 14) rfl))
theorem fl_X4_31 : Cond.fieldLink RX4 31 "PaperRounds$Streets" "distance" "[I" ∈ wsL_law := (wsL_c3 _ (List.mem_of_getElem? (i := 15) rfl))
theorem fl_X4_34 : Cond.fieldLink RX4 34 "PaperRounds$Streets" "cartsCome" "[I" ∈ wsL_law := (wsL_c3 _ (List.mem_of_getElem? (i := 16) rfl))
theorem fl_X4_37 : Cond.fieldLink RX4 37 "PaperRounds$Streets" "order" "[I" ∈ wsL_law := (wsL_c3 _ (List.mem_of_getElem? (i := 17) rfl))
theorem fl_X5_9 : Cond.fieldLink RX5 9 "PaperRounds$Text" "length" "I" ∈ wsL_law := (wsL_c6 _ (List.mem_of_getElem? (i := 2) rfl))
theorem fl_X5_15 : Cond.fieldLink RX5 15 "PaperRounds$Text" "signs" "[C" ∈ wsL_law := (wsL_c6 _ (List.mem_of_getElem? (i := 4) rfl))
theorem fl_X5_19 : Cond.fieldLink RX5 19 "PaperRounds$Text" "kind" "C" ∈ wsL_law := (wsL_c6 _ (List.mem_of_getElem? (i := 5) rfl))
theorem fl_X5_23 : Cond.fieldLink RX5 23 "PaperRounds$Text" "next" "I" ∈ wsL_law := (wsL_c6 _ (List.mem_of_getElem? (i := 6) rfl))
theorem fl_X5_26 : Cond.fieldLink RX5 26 "PaperRounds$Text" "numbers" "[I" ∈ wsL_law := (wsL_c6 _ (List.mem_of_getElem? (i := 7) rfl))
theorem fl_X6_9 : Cond.fieldLink RX6 9 "PaperRounds$Town" "day" "I" ∈ wsL_law := (wsL_c2 _ (List.mem_of_getElem? (i := 8) rfl))
theorem fl_X6_15 : Cond.fieldLink RX6 15 "PaperRounds$Town" "weight" "I" ∈ wsL_law := (wsL_c2 _ (List.mem_of_getElem? (i := 9) rfl))
theorem fl_X6_18 : Cond.fieldLink RX6 18 "PaperRounds$Town" "sundayWeight" "I" ∈ wsL_law := (wsL_c2 _ (List.mem_of_getElem? (i := 10) rfl))
theorem fl_X6_21 : Cond.fieldLink RX6 21 "PaperRounds$Town" "accounts" "[I" ∈ wsL_law := (wsL_c2 _ (List.mem_of_getElem? (i := 12) rfl))
theorem fl_X6_28 : Cond.fieldLink RX6 28 "PaperRounds$Town" "streets" "LPaperRounds$Streets;" ∈ wsL_law := (wsL_c2 _ (List.mem_of_getElem? (i := 16) rfl))
theorem fl_X6_35 : Cond.fieldLink RX6 35 "PaperRounds$Town" "houses" "LPaperRounds$Houses;" ∈ wsL_law := (wsL_c2 _ (List.mem_of_getElem? (i := 20) rfl))
theorem fl_X6_42 : Cond.fieldLink RX6 42 "PaperRounds$Town" "pauses" "LPaperRounds$Pauses;" ∈ wsL_law := (wsL_c3 _ (List.mem_of_getElem? (i := 0) rfl))
theorem fl_X6_49 : Cond.fieldLink RX6 49 "PaperRounds$Town" "carriers" "LPaperRounds$Carriers;" ∈ wsL_law := (wsL_c3 _ (List.mem_of_getElem? (i := 4) rfl))
theorem fl_X6_78 : Cond.fieldLink RX6 78 "PaperRounds$Streets" "many" "I" ∈ wsL_law := (wsL_c22 _ (List.mem_of_getElem? (i := 2) rfl))
theorem fl_X6_85 : Cond.fieldLink RX6 85 "PaperRounds$Houses" "many" "I" ∈ wsL_law := (wsL_c9 _ (List.mem_of_getElem? (i := 4) rfl))
theorem fl_X6_90 : Cond.fieldLink RX6 90 "PaperRounds$Houses" "period" "[I" ∈ wsL_law := (wsL_c23 _ (List.mem_of_getElem? (i := 14) rfl))
theorem fl_X6_93 : Cond.fieldLink RX6 93 "PaperRounds$Houses" "phase" "[I" ∈ wsL_law := (wsL_c23 _ (List.mem_of_getElem? (i := 15) rfl))
theorem fl_X6_96 : Cond.fieldLink RX6 96 "PaperRounds$Pauses" "many" "I" ∈ wsL_law := (wsL_c11 _ (List.mem_of_getElem? (i := 10) rfl))
theorem fl_X6_100 : Cond.fieldLink RX6 100 "PaperRounds$Carriers" "many" "I" ∈ wsL_law := (wsL_c13 _ (List.mem_of_getElem? (i := 1) rfl))
theorem fl_X6_105 : Cond.fieldLink RX6 105 "PaperRounds$Houses" "carrier" "[I" ∈ wsL_law := (wsL_c11 _ (List.mem_of_getElem? (i := 23) rfl))
theorem fl_X6_116 : Cond.fieldLink RX6 116 "PaperRounds$Carriers" "biscuits" "[I" ∈ wsL_law := (wsL_c12 _ (List.mem_of_getElem? (i := 20) rfl))
theorem fl_X6_125 : Cond.fieldLink RX6 125 "PaperRounds$Carriers" "trips" "[I" ∈ wsL_law := (wsL_c13 _ (List.mem_of_getElem? (i := 2) rfl))
theorem fl_X6_128 : Cond.fieldLink RX6 128 "PaperRounds$Walk" "trips" "I" ∈ wsL_law := (wsL_c13 _ (List.mem_of_getElem? (i := 3) rfl))
theorem fl_X6_130 : Cond.fieldLink RX6 130 "PaperRounds$Carriers" "effort" "[I" ∈ wsL_law := (wsL_c13 _ (List.mem_of_getElem? (i := 4) rfl))
theorem fl_X6_133 : Cond.fieldLink RX6 133 "PaperRounds$Walk" "effort" "I" ∈ wsL_law := (wsL_c13 _ (List.mem_of_getElem? (i := 5) rfl))
theorem fl_X6_147 : Cond.fieldLink RX6 147 "PaperRounds$Houses" "order" "[I" ∈ wsL_law := (wsL_c15 _ (List.mem_of_getElem? (i := 3) rfl))
theorem fl_X6_150 : Cond.fieldLink RX6 150 "PaperRounds$Houses" "papers" "[I" ∈ wsL_law := (wsL_c15 _ (List.mem_of_getElem? (i := 4) rfl))
theorem fl_X6_166 : Cond.fieldLink RX6 166 "PaperRounds$Carriers" "limit" "[I" ∈ wsL_law := (wsL_c15 _ (List.mem_of_getElem? (i := 9) rfl))
theorem fl_X6_172 : Cond.fieldLink RX6 172 "PaperRounds$Houses" "paused" "[I" ∈ wsL_law := (wsL_c15 _ (List.mem_of_getElem? (i := 16) rfl))
theorem fl_X6_175 : Cond.fieldLink RX6 175 "PaperRounds$Houses" "delivered" "[I" ∈ wsL_law := (wsL_c15 _ (List.mem_of_getElem? (i := 17) rfl))
theorem fl_X6_178 : Cond.fieldLink RX6 178 "PaperRounds$Houses" "freshDelivered" "[I" ∈ wsL_law := (wsL_c15 _ (List.mem_of_getElem? (i := 18) rfl))
theorem fl_X6_181 : Cond.fieldLink RX6 181 "PaperRounds$Carriers" "delivered" "[I" ∈ wsL_law := (wsL_c15 _ (List.mem_of_getElem? (i := 19) rfl))
theorem fl_X6_182 : Cond.fieldLink RX6 182 "PaperRounds$Houses" "lost" "[I" ∈ wsL_law := (wsL_c15 _ (List.mem_of_getElem? (i := 20) rfl))
theorem fl_X6_189 : Cond.fieldLink RX6 189 "PaperRounds$Houses" "returned" "[I" ∈ wsL_law := (wsL_c15 _ (List.mem_of_getElem? (i := 21) rfl))
theorem fl_X6_192 : Cond.fieldLink RX6 192 "PaperRounds$Carriers" "tips" "[I" ∈ wsL_law := (wsL_c16 _ (List.mem_of_getElem? (i := 6) rfl))
theorem fl_X6_198 : Cond.fieldLink RX6 198 "PaperRounds$Carriers" "cart" "[I" ∈ wsL_law := (wsL_c12 _ (List.mem_of_getElem? (i := 8) rfl))
theorem fl_X6_201 : Cond.fieldLink RX6 201 "PaperRounds$Streets" "cartsCome" "[I" ∈ wsL_law := (wsL_c12 _ (List.mem_of_getElem? (i := 9) rfl))
theorem fl_X6_204 : Cond.fieldLink RX6 204 "PaperRounds$Houses" "corner" "[I" ∈ wsL_law := (wsL_c12 _ (List.mem_of_getElem? (i := 10) rfl))
theorem fl_X7_12 : Cond.fieldLink RX7 12 "PaperRounds$Trial" "town" "LPaperRounds$Town;" ∈ wsL_law := (wsL_c6 _ (List.mem_of_getElem? (i := 12) rfl))
theorem fl_X7_18 : Cond.fieldLink RX7 18 "PaperRounds$Trial" "orders" "I" ∈ wsL_law := (wsL_c6 _ (List.mem_of_getElem? (i := 13) rfl))
theorem fl_X7_22 : Cond.fieldLink RX7 22 "PaperRounds$Trial" "position" "I" ∈ wsL_law := (wsL_c6 _ (List.mem_of_getElem? (i := 14) rfl))
theorem fl_X7_25 : Cond.fieldLink RX7 25 "PaperRounds$Trial" "reason" "I" ∈ wsL_law := (wsL_c6 _ (List.mem_of_getElem? (i := 15) rfl))
theorem fl_X7_28 : Cond.fieldLink RX7 28 "PaperRounds$Trial" "cause" "I" ∈ wsL_law := (wsL_c6 _ (List.mem_of_getElem? (i := 16) rfl))
theorem fl_X7_35 : Cond.fieldLink RX7 35 "PaperRounds$Text" "length" "I" ∈ wsL_law := (wsL_c10 _ (List.mem_of_getElem? (i := 4) rfl))
theorem fl_X7_44 : Cond.fieldLink RX7 44 "PaperRounds$Text" "kind" "C" ∈ wsL_law := (wsL_c10 _ (List.mem_of_getElem? (i := 5) rfl))
theorem fl_X7_48 : Cond.fieldLink RX7 48 "PaperRounds$Text" "numbers" "[I" ∈ wsL_law := (wsL_c10 _ (List.mem_of_getElem? (i := 6) rfl))
theorem fl_X7_56 : Cond.fieldLink RX7 56 "PaperRounds$Text" "next" "I" ∈ wsL_law := (wsL_c10 _ (List.mem_of_getElem? (i := 7) rfl))
theorem fl_X8_9 : Cond.fieldLink RX8 9 "PaperRounds$Walk" "trips" "I" ∈ wsL_law := (wsL_c5 _ (List.mem_of_getElem? (i := 17) rfl))
theorem fl_X8_15 : Cond.fieldLink RX8 15 "PaperRounds$Walk" "effort" "I" ∈ wsL_law := (wsL_c5 _ (List.mem_of_getElem? (i := 18) rfl))
theorem fl_X8_18 : Cond.fieldLink RX8 18 "PaperRounds$Walk" "papers" "I" ∈ wsL_law := (wsL_c5 _ (List.mem_of_getElem? (i := 19) rfl))
theorem fl_X8_21 : Cond.fieldLink RX8 21 "PaperRounds$Walk" "dogs" "I" ∈ wsL_law := (wsL_c5 _ (List.mem_of_getElem? (i := 20) rfl))
theorem fl_X8_24 : Cond.fieldLink RX8 24 "PaperRounds$Walk" "onTrip" "I" ∈ wsL_law := (wsL_c5 _ (List.mem_of_getElem? (i := 21) rfl))
theorem fl_X8_27 : Cond.fieldLink RX8 27 "PaperRounds$Walk" "load" "[I" ∈ wsL_law := (wsL_c5 _ (List.mem_of_getElem? (i := 22) rfl))
theorem fl_X8_34 : Cond.fieldLink RX8 34 "PaperRounds$Town" "houses" "LPaperRounds$Houses;" ∈ wsL_law := (wsL_c13 _ (List.mem_of_getElem? (i := 10) rfl))
theorem fl_X8_44 : Cond.fieldLink RX8 44 "PaperRounds$Town" "carriers" "LPaperRounds$Carriers;" ∈ wsL_law := (wsL_c13 _ (List.mem_of_getElem? (i := 11) rfl))
theorem fl_X8_48 : Cond.fieldLink RX8 48 "PaperRounds$Carriers" "limit" "[I" ∈ wsL_law := (wsL_c13 _ (List.mem_of_getElem? (i := 12) rfl))
theorem fl_X8_53 : Cond.fieldLink RX8 53 "PaperRounds$Houses" "many" "I" ∈ wsL_law := (wsL_c13 _ (List.mem_of_getElem? (i := 13) rfl))
theorem fl_X8_58 : Cond.fieldLink RX8 58 "PaperRounds$Houses" "order" "[I" ∈ wsL_law := (wsL_c13 _ (List.mem_of_getElem? (i := 14) rfl))
theorem fl_X8_61 : Cond.fieldLink RX8 61 "PaperRounds$Houses" "papers" "[I" ∈ wsL_law := (wsL_c13 _ (List.mem_of_getElem? (i := 15) rfl))
theorem fl_X8_63 : Cond.fieldLink RX8 63 "PaperRounds$Houses" "carrier" "[I" ∈ wsL_law := (wsL_c13 _ (List.mem_of_getElem? (i := 16) rfl))
theorem fl_X8_66 : Cond.fieldLink RX8 66 "PaperRounds$Town" "pauses" "LPaperRounds$Pauses;" ∈ wsL_law := (wsL_c13 _ (List.mem_of_getElem? (i := 17) rfl))
theorem fl_X8_76 : Cond.fieldLink RX8 76 "PaperRounds$Town" "streets" "LPaperRounds$Streets;" ∈ wsL_law := (wsL_c13 _ (List.mem_of_getElem? (i := 18) rfl))
theorem fl_X8_80 : Cond.fieldLink RX8 80 "PaperRounds$Carriers" "cart" "[I" ∈ wsL_law := (wsL_c13 _ (List.mem_of_getElem? (i := 19) rfl))
theorem fl_X8_87 : Cond.fieldLink RX8 87 "PaperRounds$Houses" "corner" "[I" ∈ wsL_law := (wsL_c13 _ (List.mem_of_getElem? (i := 20) rfl))
theorem fl_X8_93 : Cond.fieldLink RX8 93 "PaperRounds$Streets" "many" "I" ∈ wsL_law := (wsL_c14 _ (List.mem_of_getElem? (i := 13) rfl))
theorem fl_X8_100 : Cond.fieldLink RX8 100 "PaperRounds$Streets" "ahead" "[I" ∈ wsL_law := (wsL_c14 _ (List.mem_of_getElem? (i := 14) rfl))
theorem fl_X9_10 : Cond.fieldLink RX9 10 "PaperRounds" "town" "LPaperRounds$Town;" ∈ wsL_law := (wsL_c1 _ (List.mem_of_getElem? (i := 12) rfl))
theorem fl_X9_19 : Cond.fieldLink RX9 19 "PaperRounds" "history" "LPaperRounds$History;" ∈ wsL_law := (wsL_c1 _ (List.mem_of_getElem? (i := 16) rfl))
theorem fl_X9_26 : Cond.fieldLink RX9 26 "PaperRounds" "walk" "LPaperRounds$Walk;" ∈ wsL_law := (wsL_c1 _ (List.mem_of_getElem? (i := 20) rfl))
theorem fl_X9_33 : Cond.fieldLink RX9 33 "PaperRounds" "text" "LPaperRounds$Text;" ∈ wsL_law := (wsL_c2 _ (List.mem_of_getElem? (i := 0) rfl))
theorem fl_X9_40 : Cond.fieldLink RX9 40 "PaperRounds" "trial" "LPaperRounds$Trial;" ∈ wsL_law := (wsL_c2 _ (List.mem_of_getElem? (i := 4) rfl))
theorem fl_X9_86 : Cond.fieldLink RX9 86 "PaperRounds$Town" "streets" "LPaperRounds$Streets;" ∈ wsL_law := (wsL_c8 _ (List.mem_of_getElem? (i := 8) rfl))
theorem fl_X9_100 : Cond.fieldLink RX9 100 "PaperRounds$Streets" "ahead" "[I" ∈ wsL_law := (wsL_c19 _ (List.mem_of_getElem? (i := 3) rfl))
theorem fl_X9_104 : Cond.fieldLink RX9 104 "PaperRounds$Streets" "length" "[I" ∈ wsL_law := (wsL_c19 _ (List.mem_of_getElem? (i := 4) rfl))
theorem fl_X9_107 : Cond.fieldLink RX9 107 "PaperRounds$Streets" "height" "[I" ∈ wsL_law := (wsL_c19 _ (List.mem_of_getElem? (i := 5) rfl))
theorem fl_X9_110 : Cond.fieldLink RX9 110 "PaperRounds$Streets" "stairs" "[I" ∈ wsL_law := (wsL_c19 _ (List.mem_of_getElem? (i := 6) rfl))
theorem fl_X9_113 : Cond.fieldLink RX9 113 "PaperRounds$Streets" "distance" "[I" ∈ wsL_law := (wsL_c19 _ (List.mem_of_getElem? (i := 7) rfl))
theorem fl_X9_119 : Cond.fieldLink RX9 119 "PaperRounds$Streets" "cartsCome" "[I" ∈ wsL_law := (wsL_c19 _ (List.mem_of_getElem? (i := 8) rfl))
theorem fl_X9_122 : Cond.fieldLink RX9 122 "PaperRounds$Town" "houses" "LPaperRounds$Houses;" ∈ wsL_law := (wsL_c8 _ (List.mem_of_getElem? (i := 10) rfl))
theorem fl_X9_129 : Cond.fieldLink RX9 129 "PaperRounds$Houses" "corner" "[I" ∈ wsL_law := (wsL_c20 _ (List.mem_of_getElem? (i := 1) rfl))
theorem fl_X9_132 : Cond.fieldLink RX9 132 "PaperRounds$Houses" "papers" "[I" ∈ wsL_law := (wsL_c20 _ (List.mem_of_getElem? (i := 2) rfl))
theorem fl_X9_135 : Cond.fieldLink RX9 135 "PaperRounds$Houses" "tip" "[I" ∈ wsL_law := (wsL_c20 _ (List.mem_of_getElem? (i := 3) rfl))
theorem fl_X9_138 : Cond.fieldLink RX9 138 "PaperRounds$Houses" "carrier" "[I" ∈ wsL_law := (wsL_c20 _ (List.mem_of_getElem? (i := 4) rfl))
theorem fl_X9_141 : Cond.fieldLink RX9 141 "PaperRounds$Houses" "period" "[I" ∈ wsL_law := (wsL_c20 _ (List.mem_of_getElem? (i := 5) rfl))
theorem fl_X9_144 : Cond.fieldLink RX9 144 "PaperRounds$Town" "pauses" "LPaperRounds$Pauses;" ∈ wsL_law := (wsL_c8 _ (List.mem_of_getElem? (i := 14) rfl))
theorem fl_X9_148 : Cond.fieldLink RX9 148 "PaperRounds$Town" "day" "I" ∈ wsL_law := (wsL_c8 _ (List.mem_of_getElem? (i := 16) rfl))
theorem fl_X9_158 : Cond.fieldLink RX9 158 "PaperRounds$Houses" "delivered" "[I" ∈ wsL_law := (wsL_c20 _ (List.mem_of_getElem? (i := 6) rfl))
theorem fl_X9_161 : Cond.fieldLink RX9 161 "PaperRounds$Houses" "paused" "[I" ∈ wsL_law := (wsL_c20 _ (List.mem_of_getElem? (i := 7) rfl))
theorem fl_X9_164 : Cond.fieldLink RX9 164 "PaperRounds$Houses" "returned" "[I" ∈ wsL_law := (wsL_c20 _ (List.mem_of_getElem? (i := 8) rfl))
theorem fl_X9_167 : Cond.fieldLink RX9 167 "PaperRounds$Houses" "lost" "[I" ∈ wsL_law := (wsL_c20 _ (List.mem_of_getElem? (i := 9) rfl))
theorem fl_X9_170 : Cond.fieldLink RX9 170 "PaperRounds$Houses" "complaints" "[I" ∈ wsL_law := (wsL_c20 _ (List.mem_of_getElem? (i := 10) rfl))
theorem fl_X9_173 : Cond.fieldLink RX9 173 "PaperRounds$Houses" "freshComplaints" "[I" ∈ wsL_law := (wsL_c20 _ (List.mem_of_getElem? (i := 11) rfl))
theorem fl_X9_187 : Cond.fieldLink RX9 187 "PaperRounds$Houses" "many" "I" ∈ wsL_law := (wsL_c8 _ (List.mem_of_getElem? (i := 11) rfl))
theorem fl_X9_190 : Cond.fieldLink RX9 190 "PaperRounds$Town" "carriers" "LPaperRounds$Carriers;" ∈ wsL_law := (wsL_c8 _ (List.mem_of_getElem? (i := 12) rfl))
theorem fl_X9_197 : Cond.fieldLink RX9 197 "PaperRounds$Carriers" "cart" "[I" ∈ wsL_law := (wsL_c21 _ (List.mem_of_getElem? (i := 3) rfl))
theorem fl_X9_200 : Cond.fieldLink RX9 200 "PaperRounds$Carriers" "limit" "[I" ∈ wsL_law := (wsL_c21 _ (List.mem_of_getElem? (i := 4) rfl))
theorem fl_X9_203 : Cond.fieldLink RX9 203 "PaperRounds$Carriers" "biscuits" "[I" ∈ wsL_law := (wsL_c21 _ (List.mem_of_getElem? (i := 5) rfl))
theorem fl_X9_209 : Cond.fieldLink RX9 209 "PaperRounds$Carriers" "trips" "[I" ∈ wsL_law := (wsL_c21 _ (List.mem_of_getElem? (i := 6) rfl))
theorem fl_X9_212 : Cond.fieldLink RX9 212 "PaperRounds$Carriers" "effort" "[I" ∈ wsL_law := (wsL_c21 _ (List.mem_of_getElem? (i := 7) rfl))
theorem fl_X9_215 : Cond.fieldLink RX9 215 "PaperRounds$Carriers" "tips" "[I" ∈ wsL_law := (wsL_c21 _ (List.mem_of_getElem? (i := 8) rfl))
theorem fl_X9_218 : Cond.fieldLink RX9 218 "PaperRounds$Carriers" "delivered" "[I" ∈ wsL_law := (wsL_c21 _ (List.mem_of_getElem? (i := 9) rfl))
theorem fl_X9_219 : Cond.fieldLink RX9 219 "PaperRounds$Pauses" "many" "I" ∈ wsL_law := (wsL_c8 _ (List.mem_of_getElem? (i := 15) rfl))
theorem fl_X9_220 : Cond.fieldLink RX9 220 "PaperRounds$Pauses" "house" "[I" ∈ wsL_law := (wsL_c21 _ (List.mem_of_getElem? (i := 15) rfl))
theorem fl_X9_223 : Cond.fieldLink RX9 223 "PaperRounds$Pauses" "first" "[I" ∈ wsL_law := (wsL_c21 _ (List.mem_of_getElem? (i := 16) rfl))
theorem fl_X9_226 : Cond.fieldLink RX9 226 "PaperRounds$Pauses" "last" "[I" ∈ wsL_law := (wsL_c21 _ (List.mem_of_getElem? (i := 17) rfl))
theorem fl_X9_229 : Cond.fieldLink RX9 229 "PaperRounds$Houses" "order" "[I" ∈ wsL_law := (wsL_c25 _ (List.mem_of_getElem? (i := 12) rfl))
theorem fl_X9_236 : Cond.fieldLink RX9 236 "PaperRounds$Walk" "trips" "I" ∈ wsL_law := (wsL_c25 _ (List.mem_of_getElem? (i := 17) rfl))
theorem fl_X9_238 : Cond.fieldLink RX9 238 "PaperRounds$Walk" "effort" "I" ∈ wsL_law := (wsL_c25 _ (List.mem_of_getElem? (i := 18) rfl))
theorem fl_X9_240 : Cond.fieldLink RX9 240 "PaperRounds$Walk" "papers" "I" ∈ wsL_law := (wsL_c25 _ (List.mem_of_getElem? (i := 19) rfl))
theorem fl_X9_242 : Cond.fieldLink RX9 242 "PaperRounds$Walk" "dogs" "I" ∈ wsL_law := (wsL_c25 _ (List.mem_of_getElem? (i := 20) rfl))
theorem fl_X9_245 : Cond.fieldLink RX9 245 "PaperRounds$Carriers" "many" "I" ∈ wsL_law := (wsL_c8 _ (List.mem_of_getElem? (i := 13) rfl))
theorem fl_X9_256 : Cond.fieldLink RX9 256 "PaperRounds$Town" "accounts" "[I" ∈ wsL_law := (wsL_c18 _ (List.mem_of_getElem? (i := 22) rfl))
theorem fl_X9_259 : Cond.fieldLink RX9 259 "PaperRounds$Streets" "many" "I" ∈ wsL_law := (wsL_c8 _ (List.mem_of_getElem? (i := 9) rfl))
theorem fl_X9_270 : Cond.fieldLink RX9 270 "PaperRounds$History" "kept" "I" ∈ wsL_law := (wsL_c6 _ (List.mem_of_getElem? (i := 21) rfl))
theorem fl_X9_273 : Cond.fieldLink RX9 273 "PaperRounds$Text" "length" "I" ∈ wsL_law := (wsL_c8 _ (List.mem_of_getElem? (i := 17) rfl))
theorem fl_X9_275 : Cond.fieldLink RX9 275 "PaperRounds$Town" "weight" "I" ∈ wsL_law := (wsL_c8 _ (List.mem_of_getElem? (i := 18) rfl))
theorem fl_X9_278 : Cond.fieldLink RX9 278 "PaperRounds$Town" "sundayWeight" "I" ∈ wsL_law := (wsL_c8 _ (List.mem_of_getElem? (i := 19) rfl))
theorem fl_X9_292 : Cond.fieldLink RX9 292 "PaperRounds$Trial" "reason" "I" ∈ wsL_law := (wsL_c9 _ (List.mem_of_getElem? (i := 21) rfl))
theorem fl_X9_295 : Cond.fieldLink RX9 295 "PaperRounds$Trial" "position" "I" ∈ wsL_law := (wsL_c17 _ (List.mem_of_getElem? (i := 8) rfl))
theorem fl_X9_298 : Cond.fieldLink RX9 298 "PaperRounds$Trial" "cause" "I" ∈ wsL_law := (wsL_c17 _ (List.mem_of_getElem? (i := 9) rfl))
theorem fl_X9_301 : Cond.fieldLink RX9 301 "PaperRounds$Trial" "town" "LPaperRounds$Town;" ∈ wsL_law := (wsL_c9 _ (List.mem_of_getElem? (i := 22) rfl))
theorem fl_X9_305 : Cond.fieldLink RX9 305 "PaperRounds$Trial" "orders" "I" ∈ wsL_law := (wsL_c9 _ (List.mem_of_getElem? (i := 23) rfl))
theorem ml_X1_25 : Cond.methodLink RX1 25 yX6_copyFrom ∈ wsL_law := (wsL_c7 _ (List.mem_of_getElem? (i := 2) rfl))
theorem ml_X2_66 : Cond.methodLink RX2 66 yX2_makeOrder ∈ wsL_law := (wsL_c23 _ (List.mem_of_getElem? (i := 0) rfl))
theorem ml_X2_74 : Cond.methodLink RX2 74 yX2_papersDue ∈ wsL_law := (wsL_c17 _ (List.mem_of_getElem? (i := 23) rfl))
theorem ml_X4_48 : Cond.methodLink RX4 48 yX4_putInOrder ∈ wsL_law := (wsL_c22 _ (List.mem_of_getElem? (i := 8) rfl))
theorem ml_X5_34 : Cond.methodLink RX5 34 yX5_numbersOf ∈ wsL_law := (wsL_c10 _ (List.mem_of_getElem? (i := 15) rfl))
theorem ml_X5_38 : Cond.methodLink RX5 38 yX5_readNumber ∈ wsL_law := (wsL_c10 _ (List.mem_of_getElem? (i := 18) rfl))
theorem ml_X5_42 : Cond.methodLink RX5 42 yX5_readSign ∈ wsL_law := (wsL_c10 _ (List.mem_of_getElem? (i := 22) rfl))
theorem ml_X6_57 : Cond.methodLink RX6 57 yX4_copyFrom ∈ wsL_law := (wsL_c7 _ (List.mem_of_getElem? (i := 12) rfl))
theorem ml_X6_61 : Cond.methodLink RX6 61 yX2_copyFrom ∈ wsL_law := (wsL_c7 _ (List.mem_of_getElem? (i := 16) rfl))
theorem ml_X6_64 : Cond.methodLink RX6 64 yX3_copyFrom ∈ wsL_law := (wsL_c7 _ (List.mem_of_getElem? (i := 20) rfl))
theorem ml_X6_67 : Cond.methodLink RX6 67 yX0_copyFrom ∈ wsL_law := (wsL_c8 _ (List.mem_of_getElem? (i := 0) rfl))
theorem ml_X6_70 : Cond.methodLink RX6 70 yX4_has ∈ wsL_law := (wsL_c22 _ (List.mem_of_getElem? (i := 3) rfl))
theorem ml_X6_81 : Cond.methodLink RX6 81 yX4_add ∈ wsL_law := (wsL_c22 _ (List.mem_of_getElem? (i := 4) rfl))
theorem ml_X6_86 : Cond.methodLink RX6 86 yX2_add ∈ wsL_law := (wsL_c22 _ (List.mem_of_getElem? (i := 20) rfl))
theorem ml_X6_89 : Cond.methodLink RX6 89 yX2_has ∈ wsL_law := (wsL_c11 _ (List.mem_of_getElem? (i := 11) rfl))
theorem ml_X6_97 : Cond.methodLink RX6 97 yX3_add ∈ wsL_law := (wsL_c11 _ (List.mem_of_getElem? (i := 15) rfl))
theorem ml_X6_101 : Cond.methodLink RX6 101 yX0_add ∈ wsL_law := (wsL_c24 _ (List.mem_of_getElem? (i := 5) rfl))
theorem ml_X6_104 : Cond.methodLink RX6 104 yX0_has ∈ wsL_law := (wsL_c12 _ (List.mem_of_getElem? (i := 0) rfl))
theorem ml_X6_108 : Cond.methodLink RX6 108 yX6_canReach ∈ wsL_law := (wsL_c12 _ (List.mem_of_getElem? (i := 4) rfl))
theorem ml_X6_112 : Cond.methodLink RX6 112 yX2_manyOf ∈ wsL_law := (wsL_c12 _ (List.mem_of_getElem? (i := 11) rfl))
theorem ml_X6_119 : Cond.methodLink RX6 119 yX8_go ∈ wsL_law := (wsL_c13 _ (List.mem_of_getElem? (i := 6) rfl))
theorem ml_X6_135 : Cond.methodLink RX6 135 yX6_bringPapers ∈ wsL_law := (wsL_c14 _ (List.mem_of_getElem? (i := 23) rfl))
theorem ml_X6_138 : Cond.methodLink RX6 138 yX6_isSunday ∈ wsL_law := (wsL_c14 _ (List.mem_of_getElem? (i := 5) rfl))
theorem ml_X6_141 : Cond.methodLink RX6 141 yX6_payTips ∈ wsL_law := (wsL_c16 _ (List.mem_of_getElem? (i := 2) rfl))
theorem ml_X6_144 : Cond.methodLink RX6 144 yX2_beginWeek ∈ wsL_law := (wsL_c16 _ (List.mem_of_getElem? (i := 11) rfl))
theorem ml_X6_153 : Cond.methodLink RX6 153 yX6_fateOfPapers ∈ wsL_law := (wsL_c15 _ (List.mem_of_getElem? (i := 5) rfl))
theorem ml_X6_156 : Cond.methodLink RX6 156 yX6_book ∈ wsL_law := (wsL_c15 _ (List.mem_of_getElem? (i := 12) rfl))
theorem ml_X6_160 : Cond.methodLink RX6 160 yX3_cover ∈ wsL_law := (wsL_c9 _ (List.mem_of_getElem? (i := 5) rfl))
theorem ml_X6_163 : Cond.methodLink RX6 163 yX6_weightOn ∈ wsL_law := (wsL_c15 _ (List.mem_of_getElem? (i := 10) rfl))
theorem ml_X6_169 : Cond.methodLink RX6 169 yX2_dogIsOut ∈ wsL_law := (wsL_c15 _ (List.mem_of_getElem? (i := 11) rfl))
theorem ml_X6_185 : Cond.methodLink RX6 185 yX2_complain ∈ wsL_law := (wsL_c15 _ (List.mem_of_getElem? (i := 22) rfl))
theorem ml_X6_195 : Cond.methodLink RX6 195 yX2_tipNow ∈ wsL_law := (wsL_c16 _ (List.mem_of_getElem? (i := 7) rfl))
theorem ml_X6_207 : Cond.methodLink RX6 207 yX4_isAtOrBeyond ∈ wsL_law := (wsL_c19 _ (List.mem_of_getElem? (i := 17) rfl))
theorem ml_X7_31 : Cond.methodLink RX7 31 yX6_copyFrom ∈ wsL_law := (wsL_c10 _ (List.mem_of_getElem? (i := 8) rfl))
theorem ml_X7_40 : Cond.methodLink RX7 40 yX5_readOrder ∈ wsL_law := (wsL_c10 _ (List.mem_of_getElem? (i := 9) rfl))
theorem ml_X7_52 : Cond.methodLink RX7 52 yX7_answerOf ∈ wsL_law := (wsL_c11 _ (List.mem_of_getElem? (i := 2) rfl))
theorem ml_X7_59 : Cond.methodLink RX7 59 yX6_addPause ∈ wsL_law := (wsL_c11 _ (List.mem_of_getElem? (i := 6) rfl))
theorem ml_X7_63 : Cond.methodLink RX7 63 yX6_handOver ∈ wsL_law := (wsL_c11 _ (List.mem_of_getElem? (i := 19) rfl))
theorem ml_X7_67 : Cond.methodLink RX7 67 yX6_takeBack ∈ wsL_law := (wsL_c12 _ (List.mem_of_getElem? (i := 12) rfl))
theorem ml_X7_71 : Cond.methodLink RX7 71 yX6_addBiscuits ∈ wsL_law := (wsL_c12 _ (List.mem_of_getElem? (i := 16) rfl))
theorem ml_X7_74 : Cond.methodLink RX7 74 yX6_letDaysGo ∈ wsL_law := (wsL_c12 _ (List.mem_of_getElem? (i := 21) rfl))
theorem ml_X8_31 : Cond.methodLink RX8 31 yX8_clear ∈ wsL_law := (wsL_c13 _ (List.mem_of_getElem? (i := 21) rfl))
theorem ml_X8_40 : Cond.methodLink RX8 40 yX6_weightOn ∈ wsL_law := (wsL_c14 _ (List.mem_of_getElem? (i := 1) rfl))
theorem ml_X8_70 : Cond.methodLink RX8 70 yX3_cover ∈ wsL_law := (wsL_c14 _ (List.mem_of_getElem? (i := 8) rfl))
theorem ml_X8_83 : Cond.methodLink RX8 83 yX8_endTrip ∈ wsL_law := (wsL_c14 _ (List.mem_of_getElem? (i := 9) rfl))
theorem ml_X8_90 : Cond.methodLink RX8 90 yX2_dogIsOut ∈ wsL_law := (wsL_c14 _ (List.mem_of_getElem? (i := 19) rfl))
theorem ml_X8_96 : Cond.methodLink RX8 96 yX4_effortOfStreet ∈ wsL_law := (wsL_c14 _ (List.mem_of_getElem? (i := 15) rfl))
theorem ml_X8_103 : Cond.methodLink RX8 103 yX8_go ∈ wsL_law := (wsL_c26 _ (List.mem_of_getElem? (i := 7) rfl))
theorem ml_X9_44 : Cond.methodLink RX9 44 yX1_prepare ∈ wsL_law := (wsL_c16 _ (List.mem_of_getElem? (i := 15) rfl))
theorem ml_X9_48 : Cond.methodLink RX9 48 yX6_addCorner ∈ wsL_law := (wsL_c21 _ (List.mem_of_getElem? (i := 22) rfl))
theorem ml_X9_52 : Cond.methodLink RX9 52 yX9_settled ∈ wsL_law := (wsL_c16 _ (List.mem_of_getElem? (i := 20) rfl))
theorem ml_X9_56 : Cond.methodLink RX9 56 yX6_addHouse ∈ wsL_law := (wsL_c22 _ (List.mem_of_getElem? (i := 16) rfl))
theorem ml_X9_60 : Cond.methodLink RX9 60 yX6_changeDog ∈ wsL_law := (wsL_c23 _ (List.mem_of_getElem? (i := 10) rfl))
theorem ml_X9_63 : Cond.methodLink RX9 63 yX6_addPause ∈ wsL_law := (wsL_c23 _ (List.mem_of_getElem? (i := 20) rfl))
theorem ml_X9_66 : Cond.methodLink RX9 66 yX6_addCarrier ∈ wsL_law := (wsL_c24 _ (List.mem_of_getElem? (i := 1) rfl))
theorem ml_X9_70 : Cond.methodLink RX9 70 yX6_handOver ∈ wsL_law := (wsL_c24 _ (List.mem_of_getElem? (i := 13) rfl))
theorem ml_X9_73 : Cond.methodLink RX9 73 yX6_takeBack ∈ wsL_law := (wsL_c24 _ (List.mem_of_getElem? (i := 18) rfl))
theorem ml_X9_76 : Cond.methodLink RX9 76 yX6_addBiscuits ∈ wsL_law := (wsL_c24 _ (List.mem_of_getElem? (i := 23) rfl))
theorem ml_X9_79 : Cond.methodLink RX9 79 yX6_changeSetting ∈ wsL_law := (wsL_c25 _ (List.mem_of_getElem? (i := 4) rfl))
theorem ml_X9_82 : Cond.methodLink RX9 82 yX6_letDaysGo ∈ wsL_law := (wsL_c18 _ (List.mem_of_getElem? (i := 9) rfl))
theorem ml_X9_90 : Cond.methodLink RX9 90 yX4_has ∈ wsL_law := (wsL_c19 _ (List.mem_of_getElem? (i := 9) rfl))
theorem ml_X9_96 : Cond.methodLink RX9 96 yX9_within ∈ wsL_law := (wsL_c17 _ (List.mem_of_getElem? (i := 10) rfl))
theorem ml_X9_116 : Cond.methodLink RX9 116 yX6_housesFrom ∈ wsL_law := (wsL_c19 _ (List.mem_of_getElem? (i := 13) rfl))
theorem ml_X9_126 : Cond.methodLink RX9 126 yX2_has ∈ wsL_law := (wsL_c20 _ (List.mem_of_getElem? (i := 12) rfl))
theorem ml_X9_152 : Cond.methodLink RX9 152 yX3_cover ∈ wsL_law := (wsL_c20 _ (List.mem_of_getElem? (i := 13) rfl))
theorem ml_X9_176 : Cond.methodLink RX9 176 yX2_papersDue ∈ wsL_law := (wsL_c17 _ (List.mem_of_getElem? (i := 15) rfl))
theorem ml_X9_179 : Cond.methodLink RX9 179 yX2_share ∈ wsL_law := (wsL_c17 _ (List.mem_of_getElem? (i := 19) rfl))
theorem ml_X9_183 : Cond.methodLink RX9 183 yX9_bitsOf ∈ wsL_law := (wsL_c18 _ (List.mem_of_getElem? (i := 0) rfl))
theorem ml_X9_194 : Cond.methodLink RX9 194 yX0_has ∈ wsL_law := (wsL_c21 _ (List.mem_of_getElem? (i := 10) rfl))
theorem ml_X9_206 : Cond.methodLink RX9 206 yX2_manyOf ∈ wsL_law := (wsL_c8 _ (List.mem_of_getElem? (i := 20) rfl))
theorem ml_X9_232 : Cond.methodLink RX9 232 yX8_go ∈ wsL_law := (wsL_c25 _ (List.mem_of_getElem? (i := 21) rfl))
theorem ml_X9_246 : Cond.methodLink RX9 246 yX6_canReach ∈ wsL_law := (wsL_c26 _ (List.mem_of_getElem? (i := 2) rfl))
theorem ml_X9_249 : Cond.methodLink RX9 249 yX8_moreEffort ∈ wsL_law := (wsL_c26 _ (List.mem_of_getElem? (i := 3) rfl))
theorem ml_X9_253 : Cond.methodLink RX9 253 yX2_dogIsOut ∈ wsL_law := (wsL_c20 _ (List.mem_of_getElem? (i := 22) rfl))
theorem ml_X9_260 : Cond.methodLink RX9 260 yX6_housesPaused ∈ wsL_law := (wsL_c9 _ (List.mem_of_getElem? (i := 0) rfl))
theorem ml_X9_264 : Cond.methodLink RX9 264 yX2_allComplaints ∈ wsL_law := (wsL_c9 _ (List.mem_of_getElem? (i := 9) rfl))
theorem ml_X9_267 : Cond.methodLink RX9 267 yX0_allTips ∈ wsL_law := (wsL_c9 _ (List.mem_of_getElem? (i := 13) rfl))
theorem ml_X9_281 : Cond.methodLink RX9 281 yX1_restoreInto ∈ wsL_law := (wsL_c6 _ (List.mem_of_getElem? (i := 22) rfl))
theorem ml_X9_284 : Cond.methodLink RX9 284 yX5_append ∈ wsL_law := (wsL_c26 _ (List.mem_of_getElem? (i := 12) rfl))
theorem ml_X9_288 : Cond.methodLink RX9 288 yX7_run ∈ wsL_law := (wsL_c10 _ (List.mem_of_getElem? (i := 0) rfl))
theorem ml_X9_302 : Cond.methodLink RX9 302 yX6_copyFrom ∈ wsL_law := (wsL_c16 _ (List.mem_of_getElem? (i := 19) rfl))
theorem ml_X9_308 : Cond.methodLink RX9 308 yX1_keepPrepared ∈ wsL_law := (wsL_c17 _ (List.mem_of_getElem? (i := 0) rfl))
theorem ml_X11_11 : Cond.methodLink RX11 11 yX9_count ∈ wsL_law := (wsL_c8 _ (List.mem_of_getElem? (i := 4) rfl))
theorem ml_X11_17 : Cond.methodLink RX11 17 yX9_account ∈ wsL_law := (wsL_c18 _ (List.mem_of_getElem? (i := 18) rfl))
theorem ml_X11_20 : Cond.methodLink RX11 20 yX9_cornerOf ∈ wsL_law := (wsL_c18 _ (List.mem_of_getElem? (i := 23) rfl))
theorem ml_X11_24 : Cond.methodLink RX11 24 yX9_houseOf ∈ wsL_law := (wsL_c19 _ (List.mem_of_getElem? (i := 21) rfl))
theorem ml_X11_27 : Cond.methodLink RX11 27 yX9_shareBits ∈ wsL_law := (wsL_c20 _ (List.mem_of_getElem? (i := 14) rfl))
theorem ml_X11_30 : Cond.methodLink RX11 30 yX9_nextDog ∈ wsL_law := (wsL_c20 _ (List.mem_of_getElem? (i := 18) rfl))
theorem ml_X11_33 : Cond.methodLink RX11 33 yX9_carrierOf ∈ wsL_law := (wsL_c20 _ (List.mem_of_getElem? (i := 23) rfl))
theorem ml_X11_36 : Cond.methodLink RX11 36 yX9_pauseOf ∈ wsL_law := (wsL_c21 _ (List.mem_of_getElem? (i := 11) rfl))
theorem ml_X11_39 : Cond.methodLink RX11 39 yX11_mark ∈ wsL_law := (wsL_c18 _ (List.mem_of_getElem? (i := 14) rfl))
theorem ml_X11_45 : Cond.methodLink RX11 45 yX9_corner ∈ wsL_law := (wsL_c21 _ (List.mem_of_getElem? (i := 18) rfl))
theorem ml_X11_49 : Cond.methodLink RX11 49 yX9_house ∈ wsL_law := (wsL_c22 _ (List.mem_of_getElem? (i := 12) rfl))
theorem ml_X11_53 : Cond.methodLink RX11 53 yX9_dog ∈ wsL_law := (wsL_c23 _ (List.mem_of_getElem? (i := 6) rfl))
theorem ml_X11_56 : Cond.methodLink RX11 56 yX9_pause ∈ wsL_law := (wsL_c23 _ (List.mem_of_getElem? (i := 16) rfl))
theorem ml_X11_59 : Cond.methodLink RX11 59 yX9_carrier ∈ wsL_law := (wsL_c23 _ (List.mem_of_getElem? (i := 21) rfl))
theorem ml_X11_62 : Cond.methodLink RX11 62 yX9_give ∈ wsL_law := (wsL_c24 _ (List.mem_of_getElem? (i := 9) rfl))
theorem ml_X11_65 : Cond.methodLink RX11 65 yX9_giveNone ∈ wsL_law := (wsL_c24 _ (List.mem_of_getElem? (i := 14) rfl))
theorem ml_X11_68 : Cond.methodLink RX11 68 yX9_biscuits ∈ wsL_law := (wsL_c24 _ (List.mem_of_getElem? (i := 19) rfl))
theorem ml_X11_71 : Cond.methodLink RX11 71 yX9_set ∈ wsL_law := (wsL_c25 _ (List.mem_of_getElem? (i := 0) rfl))
theorem ml_X11_74 : Cond.methodLink RX11 74 yX9_days ∈ wsL_law := (wsL_c18 _ (List.mem_of_getElem? (i := 5) rfl))
theorem ml_X11_77 : Cond.methodLink RX11 77 yX9_roundAt ∈ wsL_law := (wsL_c25 _ (List.mem_of_getElem? (i := 8) rfl))
theorem ml_X11_80 : Cond.methodLink RX11 80 yX9_round ∈ wsL_law := (wsL_c25 _ (List.mem_of_getElem? (i := 13) rfl))
theorem ml_X11_83 : Cond.methodLink RX11 83 yX9_lightest ∈ wsL_law := (wsL_c25 _ (List.mem_of_getElem? (i := 22) rfl))
theorem ml_X11_86 : Cond.methodLink RX11 86 yX9_type ∈ wsL_law := (wsL_c26 _ (List.mem_of_getElem? (i := 8) rfl))
theorem ml_X11_89 : Cond.methodLink RX11 89 yX9_fault ∈ wsL_law := (wsL_c17 _ (List.mem_of_getElem? (i := 4) rfl))
theorem ml_X11_94 : Cond.methodLink RX11 94 yX9_meanBits ∈ wsL_law := (wsL_c17 _ (List.mem_of_getElem? (i := 11) rfl))
theorem ml_X11_98 : Cond.methodLink RX11 98 yX11_up ∈ wsL_law := (wsL_c26 _ (List.mem_of_getElem? (i := 20) rfl))
theorem ml_X11_101 : Cond.methodLink RX11 101 yX9_undo ∈ wsL_law := (wsL_c6 _ (List.mem_of_getElem? (i := 17) rfl))
theorem ml_X11_105 : Cond.methodLink RX11 105 yX9_play ∈ wsL_law := (wsL_c9 _ (List.mem_of_getElem? (i := 17) rfl))
theorem ml_X11_108 : Cond.methodLink RX11 108 yX11_fails ∈ wsL_law := (wsL_c18 _ (List.mem_of_getElem? (i := 10) rfl))
theorem ml_X11_112 : Cond.methodLink RX11 112 yX11_cell ∈ wsL_law := (wsL_c26 _ (List.mem_of_getElem? (i := 16) rfl))
theorem ml_X11_116 : Cond.methodLink RX11 116 yX11_act ∈ wsL_law := (wsL_c27 _ (List.mem_of_getElem? (i := 0) rfl))
theorem ml_X11_120 : Cond.methodLink RX11 120 yX11_bundle ∈ wsL_law := (wsL_c27 _ (List.mem_of_getElem? (i := 3) rfl))
theorem ml_X11_124 : Cond.methodLink RX11 124 yX11_goes ∈ wsL_law := (wsL_c27 _ (List.mem_of_getElem? (i := 6) rfl))
theorem ml_X11_127 : Cond.methodLink RX11 127 yX11_streets ∈ wsL_law := (wsL_c27 _ (List.mem_of_getElem? (i := 9) rfl))
theorem ml_X11_130 : Cond.methodLink RX11 130 yX11_papers ∈ wsL_law := (wsL_c27 _ (List.mem_of_getElem? (i := 12) rfl))
theorem ml_X11_134 : Cond.methodLink RX11 134 yX11_rounds ∈ wsL_law := (wsL_c27 _ (List.mem_of_getElem? (i := 17) rfl))
theorem ml_X11_137 : Cond.methodLink RX11 137 yX11_lightest ∈ wsL_law := (wsL_c27 _ (List.mem_of_getElem? (i := 20) rfl))
theorem yY_X0_add : z_YV yX0_add cX0_add 4 (some .int) 2 := ⟨⟨(wsL_c3 _ (List.mem_of_getElem? (i := 3) rfl)), (wsL_c24 _ (List.mem_of_getElem? (i := 8) rfl)), by decide +kernel, by decide +kernel, by decide +kernel⟩, (wsL_c24 _ (List.mem_of_getElem? (i := 6) rfl)), (wsL_c24 _ (List.mem_of_getElem? (i := 7) rfl))⟩
theorem yY_X0_allTips : z_YV yX0_allTips cX0_allTips 3 (some .int) 0 := ⟨⟨(wsL_c3 _ (List.mem_of_getElem? (i := 3) rfl)), (wsL_c9 _ (List.mem_of_getElem? (i := 16) rfl)), by decide +kernel, by decide +kernel, by decide +kernel⟩, (wsL_c9 _ (List.mem_of_getElem? (i := 14) rfl)), (wsL_c9 _ (List.mem_of_getElem? (i := 15) rfl))⟩
theorem yY_X0_copyFrom : z_YV yX0_copyFrom cX0_copyFrom 2 none 1 := ⟨⟨(wsL_c3 _ (List.mem_of_getElem? (i := 3) rfl)), (wsL_c8 _ (List.mem_of_getElem? (i := 3) rfl)), by decide +kernel, by decide +kernel, by decide +kernel⟩, (wsL_c8 _ (List.mem_of_getElem? (i := 1) rfl)), (wsL_c8 _ (List.mem_of_getElem? (i := 2) rfl))⟩
theorem yY_X0_has : z_YV yX0_has cX0_has 2 (some .boolean) 1 := ⟨⟨(wsL_c3 _ (List.mem_of_getElem? (i := 3) rfl)), (wsL_c12 _ (List.mem_of_getElem? (i := 3) rfl)), by decide +kernel, by decide +kernel, by decide +kernel⟩, (wsL_c12 _ (List.mem_of_getElem? (i := 1) rfl)), (wsL_c12 _ (List.mem_of_getElem? (i := 2) rfl))⟩
theorem yY_X1_keepPrepared : z_YV yX1_keepPrepared cX1_keepPrepared 1 none 0 := ⟨⟨(wsL_c1 _ (List.mem_of_getElem? (i := 15) rfl)), (wsL_c17 _ (List.mem_of_getElem? (i := 3) rfl)), by decide +kernel, by decide +kernel, by decide +kernel⟩, (wsL_c17 _ (List.mem_of_getElem? (i := 1) rfl)), (wsL_c17 _ (List.mem_of_getElem? (i := 2) rfl))⟩
theorem yY_X1_prepare : z_YV yX1_prepare cX1_prepare 2 none 1 := ⟨⟨(wsL_c1 _ (List.mem_of_getElem? (i := 15) rfl)), (wsL_c16 _ (List.mem_of_getElem? (i := 18) rfl)), by decide +kernel, by decide +kernel, by decide +kernel⟩, (wsL_c16 _ (List.mem_of_getElem? (i := 16) rfl)), (wsL_c16 _ (List.mem_of_getElem? (i := 17) rfl))⟩
theorem yY_X1_restoreInto : z_YV yX1_restoreInto cX1_restoreInto 2 none 1 := ⟨⟨(wsL_c1 _ (List.mem_of_getElem? (i := 15) rfl)), (wsL_c7 _ (List.mem_of_getElem? (i := 1) rfl)), by decide +kernel, by decide +kernel, by decide +kernel⟩, (wsL_c6 _ (List.mem_of_getElem? (i := 23) rfl)), (wsL_c7 _ (List.mem_of_getElem? (i := 0) rfl))⟩
theorem yY_X2_add : z_YV yX2_add cX2_add 6 (some .int) 4 := ⟨⟨(wsL_c2 _ (List.mem_of_getElem? (i := 19) rfl)), (wsL_c22 _ (List.mem_of_getElem? (i := 23) rfl)), by decide +kernel, by decide +kernel, by decide +kernel⟩, (wsL_c22 _ (List.mem_of_getElem? (i := 21) rfl)), (wsL_c22 _ (List.mem_of_getElem? (i := 22) rfl))⟩
theorem yY_X2_allComplaints : z_YV yX2_allComplaints cX2_allComplaints 3 (some .int) 0 := ⟨⟨(wsL_c2 _ (List.mem_of_getElem? (i := 19) rfl)), (wsL_c9 _ (List.mem_of_getElem? (i := 12) rfl)), by decide +kernel, by decide +kernel, by decide +kernel⟩, (wsL_c9 _ (List.mem_of_getElem? (i := 10) rfl)), (wsL_c9 _ (List.mem_of_getElem? (i := 11) rfl))⟩
theorem yY_X2_beginWeek : z_YV yX2_beginWeek cX2_beginWeek 2 none 0 := ⟨⟨(wsL_c2 _ (List.mem_of_getElem? (i := 19) rfl)), (wsL_c16 _ (List.mem_of_getElem? (i := 14) rfl)), by decide +kernel, by decide +kernel, by decide +kernel⟩, (wsL_c16 _ (List.mem_of_getElem? (i := 12) rfl)), (wsL_c16 _ (List.mem_of_getElem? (i := 13) rfl))⟩
theorem yY_X2_complain : z_YV yX2_complain cX2_complain 2 none 1 := ⟨⟨(wsL_c2 _ (List.mem_of_getElem? (i := 19) rfl)), (wsL_c16 _ (List.mem_of_getElem? (i := 1) rfl)), by decide +kernel, by decide +kernel, by decide +kernel⟩, (wsL_c15 _ (List.mem_of_getElem? (i := 23) rfl)), (wsL_c16 _ (List.mem_of_getElem? (i := 0) rfl))⟩
theorem yY_X2_copyFrom : z_YV yX2_copyFrom cX2_copyFrom 2 none 1 := ⟨⟨(wsL_c2 _ (List.mem_of_getElem? (i := 19) rfl)), (wsL_c7 _ (List.mem_of_getElem? (i := 19) rfl)), by decide +kernel, by decide +kernel, by decide +kernel⟩, (wsL_c7 _ (List.mem_of_getElem? (i := 17) rfl)), (wsL_c7 _ (List.mem_of_getElem? (i := 18) rfl))⟩
theorem yY_X2_dogIsOut : z_YV yX2_dogIsOut cX2_dogIsOut 4 (some .boolean) 2 := ⟨⟨(wsL_c2 _ (List.mem_of_getElem? (i := 19) rfl)), (wsL_c14 _ (List.mem_of_getElem? (i := 22) rfl)), by decide +kernel, by decide +kernel, by decide +kernel⟩, (wsL_c14 _ (List.mem_of_getElem? (i := 20) rfl)), (wsL_c14 _ (List.mem_of_getElem? (i := 21) rfl))⟩
theorem yY_X2_has : z_YV yX2_has cX2_has 2 (some .boolean) 1 := ⟨⟨(wsL_c2 _ (List.mem_of_getElem? (i := 19) rfl)), (wsL_c11 _ (List.mem_of_getElem? (i := 14) rfl)), by decide +kernel, by decide +kernel, by decide +kernel⟩, (wsL_c11 _ (List.mem_of_getElem? (i := 12) rfl)), (wsL_c11 _ (List.mem_of_getElem? (i := 13) rfl))⟩
theorem yY_X2_makeOrder : z_YV yX2_makeOrder cX2_makeOrder 5 none 1 := ⟨⟨(wsL_c2 _ (List.mem_of_getElem? (i := 19) rfl)), (wsL_c23 _ (List.mem_of_getElem? (i := 3) rfl)), by decide +kernel, by decide +kernel, by decide +kernel⟩, (wsL_c23 _ (List.mem_of_getElem? (i := 1) rfl)), (wsL_c23 _ (List.mem_of_getElem? (i := 2) rfl))⟩
theorem yY_X2_manyOf : z_YV yX2_manyOf cX2_manyOf 4 (some .int) 1 := ⟨⟨(wsL_c2 _ (List.mem_of_getElem? (i := 19) rfl)), (wsL_c8 _ (List.mem_of_getElem? (i := 23) rfl)), by decide +kernel, by decide +kernel, by decide +kernel⟩, (wsL_c8 _ (List.mem_of_getElem? (i := 21) rfl)), (wsL_c8 _ (List.mem_of_getElem? (i := 22) rfl))⟩
theorem yY_X2_papersDue : z_YV yX2_papersDue cX2_papersDue 2 (some .int) 1 := ⟨⟨(wsL_c2 _ (List.mem_of_getElem? (i := 19) rfl)), (wsL_c17 _ (List.mem_of_getElem? (i := 18) rfl)), by decide +kernel, by decide +kernel, by decide +kernel⟩, (wsL_c17 _ (List.mem_of_getElem? (i := 16) rfl)), (wsL_c17 _ (List.mem_of_getElem? (i := 17) rfl))⟩
theorem yY_X2_share : z_YV yX2_share cX2_share 3 (some .float) 1 := ⟨⟨(wsL_c2 _ (List.mem_of_getElem? (i := 19) rfl)), (wsL_c17 _ (List.mem_of_getElem? (i := 22) rfl)), by decide +kernel, by decide +kernel, by decide +kernel⟩, (wsL_c17 _ (List.mem_of_getElem? (i := 20) rfl)), (wsL_c17 _ (List.mem_of_getElem? (i := 21) rfl))⟩
theorem yY_X2_tipNow : z_YV yX2_tipNow cX2_tipNow 2 (some .int) 1 := ⟨⟨(wsL_c2 _ (List.mem_of_getElem? (i := 19) rfl)), (wsL_c16 _ (List.mem_of_getElem? (i := 10) rfl)), by decide +kernel, by decide +kernel, by decide +kernel⟩, (wsL_c16 _ (List.mem_of_getElem? (i := 8) rfl)), (wsL_c16 _ (List.mem_of_getElem? (i := 9) rfl))⟩
theorem yY_X3_add : z_YV yX3_add cX3_add 5 (some .int) 3 := ⟨⟨(wsL_c2 _ (List.mem_of_getElem? (i := 23) rfl)), (wsL_c11 _ (List.mem_of_getElem? (i := 18) rfl)), by decide +kernel, by decide +kernel, by decide +kernel⟩, (wsL_c11 _ (List.mem_of_getElem? (i := 16) rfl)), (wsL_c11 _ (List.mem_of_getElem? (i := 17) rfl))⟩
theorem yY_X3_copyFrom : z_YV yX3_copyFrom cX3_copyFrom 2 none 1 := ⟨⟨(wsL_c2 _ (List.mem_of_getElem? (i := 23) rfl)), (wsL_c7 _ (List.mem_of_getElem? (i := 23) rfl)), by decide +kernel, by decide +kernel, by decide +kernel⟩, (wsL_c7 _ (List.mem_of_getElem? (i := 21) rfl)), (wsL_c7 _ (List.mem_of_getElem? (i := 22) rfl))⟩
theorem yY_X3_cover : z_YV yX3_cover cX3_cover 4 (some .boolean) 2 := ⟨⟨(wsL_c2 _ (List.mem_of_getElem? (i := 23) rfl)), (wsL_c9 _ (List.mem_of_getElem? (i := 8) rfl)), by decide +kernel, by decide +kernel, by decide +kernel⟩, (wsL_c9 _ (List.mem_of_getElem? (i := 6) rfl)), (wsL_c9 _ (List.mem_of_getElem? (i := 7) rfl))⟩
theorem yY_X4_add : z_YV yX4_add cX4_add 6 (some .int) 4 := ⟨⟨(wsL_c2 _ (List.mem_of_getElem? (i := 15) rfl)), (wsL_c22 _ (List.mem_of_getElem? (i := 7) rfl)), by decide +kernel, by decide +kernel, by decide +kernel⟩, (wsL_c22 _ (List.mem_of_getElem? (i := 5) rfl)), (wsL_c22 _ (List.mem_of_getElem? (i := 6) rfl))⟩
theorem yY_X4_copyFrom : z_YV yX4_copyFrom cX4_copyFrom 2 none 1 := ⟨⟨(wsL_c2 _ (List.mem_of_getElem? (i := 15) rfl)), (wsL_c7 _ (List.mem_of_getElem? (i := 15) rfl)), by decide +kernel, by decide +kernel, by decide +kernel⟩, (wsL_c7 _ (List.mem_of_getElem? (i := 13) rfl)), (wsL_c7 _ (List.mem_of_getElem? (i := 14) rfl))⟩
theorem yY_X4_effortOfStreet : z_YV yX4_effortOfStreet cX4_effortOfStreet 7 (some .int) 3 := ⟨⟨(wsL_c2 _ (List.mem_of_getElem? (i := 15) rfl)), (wsL_c14 _ (List.mem_of_getElem? (i := 18) rfl)), by decide +kernel, by decide +kernel, by decide +kernel⟩, (wsL_c14 _ (List.mem_of_getElem? (i := 16) rfl)), (wsL_c14 _ (List.mem_of_getElem? (i := 17) rfl))⟩
theorem yY_X4_has : z_YV yX4_has cX4_has 2 (some .boolean) 1 := ⟨⟨(wsL_c2 _ (List.mem_of_getElem? (i := 15) rfl)), (wsL_c19 _ (List.mem_of_getElem? (i := 12) rfl)), by decide +kernel, by decide +kernel, by decide +kernel⟩, (wsL_c19 _ (List.mem_of_getElem? (i := 10) rfl)), (wsL_c19 _ (List.mem_of_getElem? (i := 11) rfl))⟩
theorem yY_X4_isAtOrBeyond : z_YV yX4_isAtOrBeyond cX4_isAtOrBeyond 5 (some .boolean) 2 := ⟨⟨(wsL_c2 _ (List.mem_of_getElem? (i := 15) rfl)), (wsL_c19 _ (List.mem_of_getElem? (i := 20) rfl)), by decide +kernel, by decide +kernel, by decide +kernel⟩, (wsL_c19 _ (List.mem_of_getElem? (i := 18) rfl)), (wsL_c19 _ (List.mem_of_getElem? (i := 19) rfl))⟩
theorem yY_X4_putInOrder : z_YV yX4_putInOrder cX4_putInOrder 5 none 1 := ⟨⟨(wsL_c2 _ (List.mem_of_getElem? (i := 15) rfl)), (wsL_c22 _ (List.mem_of_getElem? (i := 11) rfl)), by decide +kernel, by decide +kernel, by decide +kernel⟩, (wsL_c22 _ (List.mem_of_getElem? (i := 9) rfl)), (wsL_c22 _ (List.mem_of_getElem? (i := 10) rfl))⟩
theorem yY_X5_append : z_YV yX5_append cX5_append 2 (some .int) 1 := ⟨⟨(wsL_c1 _ (List.mem_of_getElem? (i := 23) rfl)), (wsL_c26 _ (List.mem_of_getElem? (i := 15) rfl)), by decide +kernel, by decide +kernel, by decide +kernel⟩, (wsL_c26 _ (List.mem_of_getElem? (i := 13) rfl)), (wsL_c26 _ (List.mem_of_getElem? (i := 14) rfl))⟩
theorem yY_X5_numbersOf : z_YS yX5_numbersOf cX5_numbersOf 1 (some .int) 1 := ⟨⟨(wsL_c1 _ (List.mem_of_getElem? (i := 23) rfl)), (wsL_c10 _ (List.mem_of_getElem? (i := 17) rfl)), by decide +kernel, by decide +kernel, by decide +kernel⟩, (wsL_c10 _ (List.mem_of_getElem? (i := 16) rfl))⟩
theorem yY_X5_readNumber : z_YV yX5_readNumber cX5_readNumber 3 (some .int) 0 := ⟨⟨(wsL_c1 _ (List.mem_of_getElem? (i := 23) rfl)), (wsL_c10 _ (List.mem_of_getElem? (i := 21) rfl)), by decide +kernel, by decide +kernel, by decide +kernel⟩, (wsL_c10 _ (List.mem_of_getElem? (i := 19) rfl)), (wsL_c10 _ (List.mem_of_getElem? (i := 20) rfl))⟩
theorem yY_X5_readOrder : z_YV yX5_readOrder cX5_readOrder 5 (some .boolean) 1 := ⟨⟨(wsL_c1 _ (List.mem_of_getElem? (i := 23) rfl)), (wsL_c10 _ (List.mem_of_getElem? (i := 12) rfl)), by decide +kernel, by decide +kernel, by decide +kernel⟩, (wsL_c10 _ (List.mem_of_getElem? (i := 10) rfl)), (wsL_c10 _ (List.mem_of_getElem? (i := 11) rfl))⟩
theorem yY_X5_readSign : z_YV yX5_readSign cX5_readSign 2 (some .boolean) 1 := ⟨⟨(wsL_c1 _ (List.mem_of_getElem? (i := 23) rfl)), (wsL_c11 _ (List.mem_of_getElem? (i := 1) rfl)), by decide +kernel, by decide +kernel, by decide +kernel⟩, (wsL_c10 _ (List.mem_of_getElem? (i := 23) rfl)), (wsL_c11 _ (List.mem_of_getElem? (i := 0) rfl))⟩
theorem yY_X6_addBiscuits : z_YV yX6_addBiscuits cX6_addBiscuits 3 (some .int) 2 := ⟨⟨(wsL_c1 _ (List.mem_of_getElem? (i := 11) rfl)), (wsL_c12 _ (List.mem_of_getElem? (i := 19) rfl)), by decide +kernel, by decide +kernel, by decide +kernel⟩, (wsL_c12 _ (List.mem_of_getElem? (i := 17) rfl)), (wsL_c12 _ (List.mem_of_getElem? (i := 18) rfl))⟩
theorem yY_X6_addCarrier : z_YV yX6_addCarrier cX6_addCarrier 3 (some .int) 2 := ⟨⟨(wsL_c1 _ (List.mem_of_getElem? (i := 11) rfl)), (wsL_c24 _ (List.mem_of_getElem? (i := 4) rfl)), by decide +kernel, by decide +kernel, by decide +kernel⟩, (wsL_c24 _ (List.mem_of_getElem? (i := 2) rfl)), (wsL_c24 _ (List.mem_of_getElem? (i := 3) rfl))⟩
theorem yY_X6_addCorner : z_YV yX6_addCorner cX6_addCorner 5 (some .int) 4 := ⟨⟨(wsL_c1 _ (List.mem_of_getElem? (i := 11) rfl)), (wsL_c22 _ (List.mem_of_getElem? (i := 1) rfl)), by decide +kernel, by decide +kernel, by decide +kernel⟩, (wsL_c21 _ (List.mem_of_getElem? (i := 23) rfl)), (wsL_c22 _ (List.mem_of_getElem? (i := 0) rfl))⟩
theorem yY_X6_addHouse : z_YV yX6_addHouse cX6_addHouse 4 (some .int) 3 := ⟨⟨(wsL_c1 _ (List.mem_of_getElem? (i := 11) rfl)), (wsL_c22 _ (List.mem_of_getElem? (i := 19) rfl)), by decide +kernel, by decide +kernel, by decide +kernel⟩, (wsL_c22 _ (List.mem_of_getElem? (i := 17) rfl)), (wsL_c22 _ (List.mem_of_getElem? (i := 18) rfl))⟩
theorem yY_X6_addPause : z_YV yX6_addPause cX6_addPause 4 (some .int) 3 := ⟨⟨(wsL_c1 _ (List.mem_of_getElem? (i := 11) rfl)), (wsL_c11 _ (List.mem_of_getElem? (i := 9) rfl)), by decide +kernel, by decide +kernel, by decide +kernel⟩, (wsL_c11 _ (List.mem_of_getElem? (i := 7) rfl)), (wsL_c11 _ (List.mem_of_getElem? (i := 8) rfl))⟩
theorem yY_X6_book : z_YV yX6_book cX6_book 4 none 3 := ⟨⟨(wsL_c1 _ (List.mem_of_getElem? (i := 11) rfl)), (wsL_c15 _ (List.mem_of_getElem? (i := 15) rfl)), by decide +kernel, by decide +kernel, by decide +kernel⟩, (wsL_c15 _ (List.mem_of_getElem? (i := 13) rfl)), (wsL_c15 _ (List.mem_of_getElem? (i := 14) rfl))⟩
theorem yY_X6_bringPapers : z_YV yX6_bringPapers cX6_bringPapers 5 none 0 := ⟨⟨(wsL_c1 _ (List.mem_of_getElem? (i := 11) rfl)), (wsL_c15 _ (List.mem_of_getElem? (i := 2) rfl)), by decide +kernel, by decide +kernel, by decide +kernel⟩, (wsL_c15 _ (List.mem_of_getElem? (i := 0) rfl)), (wsL_c15 _ (List.mem_of_getElem? (i := 1) rfl))⟩
theorem yY_X6_canReach : z_YV yX6_canReach cX6_canReach 3 (some .boolean) 2 := ⟨⟨(wsL_c1 _ (List.mem_of_getElem? (i := 11) rfl)), (wsL_c12 _ (List.mem_of_getElem? (i := 7) rfl)), by decide +kernel, by decide +kernel, by decide +kernel⟩, (wsL_c12 _ (List.mem_of_getElem? (i := 5) rfl)), (wsL_c12 _ (List.mem_of_getElem? (i := 6) rfl))⟩
theorem yY_X6_changeDog : z_YV yX6_changeDog cX6_changeDog 6 (some .int) 3 := ⟨⟨(wsL_c1 _ (List.mem_of_getElem? (i := 11) rfl)), (wsL_c23 _ (List.mem_of_getElem? (i := 13) rfl)), by decide +kernel, by decide +kernel, by decide +kernel⟩, (wsL_c23 _ (List.mem_of_getElem? (i := 11) rfl)), (wsL_c23 _ (List.mem_of_getElem? (i := 12) rfl))⟩
theorem yY_X6_changeSetting : z_YV yX6_changeSetting cX6_changeSetting 4 (some .int) 2 := ⟨⟨(wsL_c1 _ (List.mem_of_getElem? (i := 11) rfl)), (wsL_c25 _ (List.mem_of_getElem? (i := 7) rfl)), by decide +kernel, by decide +kernel, by decide +kernel⟩, (wsL_c25 _ (List.mem_of_getElem? (i := 5) rfl)), (wsL_c25 _ (List.mem_of_getElem? (i := 6) rfl))⟩
theorem yY_X6_copyFrom : z_YV yX6_copyFrom cX6_copyFrom 2 none 1 := ⟨⟨(wsL_c1 _ (List.mem_of_getElem? (i := 11) rfl)), (wsL_c7 _ (List.mem_of_getElem? (i := 5) rfl)), by decide +kernel, by decide +kernel, by decide +kernel⟩, (wsL_c7 _ (List.mem_of_getElem? (i := 3) rfl)), (wsL_c7 _ (List.mem_of_getElem? (i := 4) rfl))⟩
theorem yY_X6_fateOfPapers : z_YV yX6_fateOfPapers cX6_fateOfPapers 3 (some .int) 1 := ⟨⟨(wsL_c1 _ (List.mem_of_getElem? (i := 11) rfl)), (wsL_c15 _ (List.mem_of_getElem? (i := 8) rfl)), by decide +kernel, by decide +kernel, by decide +kernel⟩, (wsL_c15 _ (List.mem_of_getElem? (i := 6) rfl)), (wsL_c15 _ (List.mem_of_getElem? (i := 7) rfl))⟩
theorem yY_X6_handOver : z_YV yX6_handOver cX6_handOver 3 (some .int) 2 := ⟨⟨(wsL_c1 _ (List.mem_of_getElem? (i := 11) rfl)), (wsL_c11 _ (List.mem_of_getElem? (i := 22) rfl)), by decide +kernel, by decide +kernel, by decide +kernel⟩, (wsL_c11 _ (List.mem_of_getElem? (i := 20) rfl)), (wsL_c11 _ (List.mem_of_getElem? (i := 21) rfl))⟩
theorem yY_X6_housesFrom : z_YV yX6_housesFrom cX6_housesFrom 4 (some .int) 1 := ⟨⟨(wsL_c1 _ (List.mem_of_getElem? (i := 11) rfl)), (wsL_c19 _ (List.mem_of_getElem? (i := 16) rfl)), by decide +kernel, by decide +kernel, by decide +kernel⟩, (wsL_c19 _ (List.mem_of_getElem? (i := 14) rfl)), (wsL_c19 _ (List.mem_of_getElem? (i := 15) rfl))⟩
theorem yY_X6_housesPaused : z_YV yX6_housesPaused cX6_housesPaused 3 (some .int) 0 := ⟨⟨(wsL_c1 _ (List.mem_of_getElem? (i := 11) rfl)), (wsL_c9 _ (List.mem_of_getElem? (i := 3) rfl)), by decide +kernel, by decide +kernel, by decide +kernel⟩, (wsL_c9 _ (List.mem_of_getElem? (i := 1) rfl)), (wsL_c9 _ (List.mem_of_getElem? (i := 2) rfl))⟩
theorem yY_X6_isSunday : z_YS yX6_isSunday cX6_isSunday 1 (some .boolean) 1 := ⟨⟨(wsL_c1 _ (List.mem_of_getElem? (i := 11) rfl)), (wsL_c14 _ (List.mem_of_getElem? (i := 7) rfl)), by decide +kernel, by decide +kernel, by decide +kernel⟩, (wsL_c14 _ (List.mem_of_getElem? (i := 6) rfl))⟩
theorem yY_X6_letDaysGo : z_YV yX6_letDaysGo cX6_letDaysGo 6 (some .int) 2 := ⟨⟨(wsL_c1 _ (List.mem_of_getElem? (i := 11) rfl)), (wsL_c13 _ (List.mem_of_getElem? (i := 0) rfl)), by decide +kernel, by decide +kernel, by decide +kernel⟩, (wsL_c12 _ (List.mem_of_getElem? (i := 22) rfl)), (wsL_c12 _ (List.mem_of_getElem? (i := 23) rfl))⟩
theorem yY_X6_payTips : z_YV yX6_payTips cX6_payTips 3 none 0 := ⟨⟨(wsL_c1 _ (List.mem_of_getElem? (i := 11) rfl)), (wsL_c16 _ (List.mem_of_getElem? (i := 5) rfl)), by decide +kernel, by decide +kernel, by decide +kernel⟩, (wsL_c16 _ (List.mem_of_getElem? (i := 3) rfl)), (wsL_c16 _ (List.mem_of_getElem? (i := 4) rfl))⟩
theorem yY_X6_takeBack : z_YV yX6_takeBack cX6_takeBack 3 (some .int) 1 := ⟨⟨(wsL_c1 _ (List.mem_of_getElem? (i := 11) rfl)), (wsL_c12 _ (List.mem_of_getElem? (i := 15) rfl)), by decide +kernel, by decide +kernel, by decide +kernel⟩, (wsL_c12 _ (List.mem_of_getElem? (i := 13) rfl)), (wsL_c12 _ (List.mem_of_getElem? (i := 14) rfl))⟩
theorem yY_X6_weightOn : z_YV yX6_weightOn cX6_weightOn 2 (some .int) 1 := ⟨⟨(wsL_c1 _ (List.mem_of_getElem? (i := 11) rfl)), (wsL_c14 _ (List.mem_of_getElem? (i := 4) rfl)), by decide +kernel, by decide +kernel, by decide +kernel⟩, (wsL_c14 _ (List.mem_of_getElem? (i := 2) rfl)), (wsL_c14 _ (List.mem_of_getElem? (i := 3) rfl))⟩
theorem yY_X7_answerOf : z_YV yX7_answerOf cX7_answerOf 4 (some .int) 3 := ⟨⟨(wsL_c2 _ (List.mem_of_getElem? (i := 3) rfl)), (wsL_c11 _ (List.mem_of_getElem? (i := 5) rfl)), by decide +kernel, by decide +kernel, by decide +kernel⟩, (wsL_c11 _ (List.mem_of_getElem? (i := 3) rfl)), (wsL_c11 _ (List.mem_of_getElem? (i := 4) rfl))⟩
theorem yY_X7_run : z_YV yX7_run cX7_run 5 none 3 := ⟨⟨(wsL_c2 _ (List.mem_of_getElem? (i := 3) rfl)), (wsL_c10 _ (List.mem_of_getElem? (i := 3) rfl)), by decide +kernel, by decide +kernel, by decide +kernel⟩, (wsL_c10 _ (List.mem_of_getElem? (i := 1) rfl)), (wsL_c10 _ (List.mem_of_getElem? (i := 2) rfl))⟩
theorem yY_X8_clear : z_YV yX8_clear cX8_clear 1 none 0 := ⟨⟨(wsL_c1 _ (List.mem_of_getElem? (i := 19) rfl)), (wsL_c14 _ (List.mem_of_getElem? (i := 0) rfl)), by decide +kernel, by decide +kernel, by decide +kernel⟩, (wsL_c13 _ (List.mem_of_getElem? (i := 22) rfl)), (wsL_c13 _ (List.mem_of_getElem? (i := 23) rfl))⟩
theorem yY_X8_endTrip : z_YV yX8_endTrip cX8_endTrip 4 none 2 := ⟨⟨(wsL_c1 _ (List.mem_of_getElem? (i := 19) rfl)), (wsL_c14 _ (List.mem_of_getElem? (i := 12) rfl)), by decide +kernel, by decide +kernel, by decide +kernel⟩, (wsL_c14 _ (List.mem_of_getElem? (i := 10) rfl)), (wsL_c14 _ (List.mem_of_getElem? (i := 11) rfl))⟩
theorem yY_X8_go : z_YV yX8_go cX8_go 12 none 4 := ⟨⟨(wsL_c1 _ (List.mem_of_getElem? (i := 19) rfl)), (wsL_c13 _ (List.mem_of_getElem? (i := 9) rfl)), by decide +kernel, by decide +kernel, by decide +kernel⟩, (wsL_c13 _ (List.mem_of_getElem? (i := 7) rfl)), (wsL_c13 _ (List.mem_of_getElem? (i := 8) rfl))⟩
theorem yY_X8_moreEffort : z_YV yX8_moreEffort cX8_moreEffort 6 (some .int) 4 := ⟨⟨(wsL_c1 _ (List.mem_of_getElem? (i := 19) rfl)), (wsL_c26 _ (List.mem_of_getElem? (i := 6) rfl)), by decide +kernel, by decide +kernel, by decide +kernel⟩, (wsL_c26 _ (List.mem_of_getElem? (i := 4) rfl)), (wsL_c26 _ (List.mem_of_getElem? (i := 5) rfl))⟩
theorem yY_X9_account : z_YV yX9_account cX9_account 2 (some .int) 1 := ⟨⟨(wsL_c1 _ (List.mem_of_getElem? (i := 2) rfl)), (wsL_c18 _ (List.mem_of_getElem? (i := 21) rfl)), by decide +kernel, by decide +kernel, by decide +kernel⟩, (wsL_c18 _ (List.mem_of_getElem? (i := 19) rfl)), (wsL_c18 _ (List.mem_of_getElem? (i := 20) rfl))⟩
theorem yY_X9_biscuits : z_YV yX9_biscuits cX9_biscuits 3 (some .int) 2 := ⟨⟨(wsL_c1 _ (List.mem_of_getElem? (i := 2) rfl)), (wsL_c24 _ (List.mem_of_getElem? (i := 22) rfl)), by decide +kernel, by decide +kernel, by decide +kernel⟩, (wsL_c24 _ (List.mem_of_getElem? (i := 20) rfl)), (wsL_c24 _ (List.mem_of_getElem? (i := 21) rfl))⟩
theorem yY_X9_bitsOf : z_YS yX9_bitsOf cX9_bitsOf 4 (some .int) 1 := ⟨⟨(wsL_c1 _ (List.mem_of_getElem? (i := 2) rfl)), (wsL_c18 _ (List.mem_of_getElem? (i := 2) rfl)), by decide +kernel, by decide +kernel, by decide +kernel⟩, (wsL_c18 _ (List.mem_of_getElem? (i := 1) rfl))⟩
theorem yY_X9_carrier : z_YV yX9_carrier cX9_carrier 3 (some .int) 2 := ⟨⟨(wsL_c1 _ (List.mem_of_getElem? (i := 2) rfl)), (wsL_c24 _ (List.mem_of_getElem? (i := 0) rfl)), by decide +kernel, by decide +kernel, by decide +kernel⟩, (wsL_c23 _ (List.mem_of_getElem? (i := 22) rfl)), (wsL_c23 _ (List.mem_of_getElem? (i := 23) rfl))⟩
theorem yY_X9_carrierOf : z_YV yX9_carrierOf cX9_carrierOf 4 (some .int) 2 := ⟨⟨(wsL_c1 _ (List.mem_of_getElem? (i := 2) rfl)), (wsL_c21 _ (List.mem_of_getElem? (i := 2) rfl)), by decide +kernel, by decide +kernel, by decide +kernel⟩, (wsL_c21 _ (List.mem_of_getElem? (i := 0) rfl)), (wsL_c21 _ (List.mem_of_getElem? (i := 1) rfl))⟩
theorem yY_X9_copy : z_YS yX9_copy cX9_copy 3 none 3 := ⟨⟨(wsL_c1 _ (List.mem_of_getElem? (i := 2) rfl)), (wsL_c7 _ (List.mem_of_getElem? (i := 7) rfl)), by decide +kernel, by decide +kernel, by decide +kernel⟩, (wsL_c7 _ (List.mem_of_getElem? (i := 6) rfl))⟩
theorem yY_X9_corner : z_YV yX9_corner cX9_corner 5 (some .int) 4 := ⟨⟨(wsL_c1 _ (List.mem_of_getElem? (i := 2) rfl)), (wsL_c21 _ (List.mem_of_getElem? (i := 21) rfl)), by decide +kernel, by decide +kernel, by decide +kernel⟩, (wsL_c21 _ (List.mem_of_getElem? (i := 19) rfl)), (wsL_c21 _ (List.mem_of_getElem? (i := 20) rfl))⟩
theorem yY_X9_cornerOf : z_YV yX9_cornerOf cX9_cornerOf 4 (some .int) 2 := ⟨⟨(wsL_c1 _ (List.mem_of_getElem? (i := 2) rfl)), (wsL_c19 _ (List.mem_of_getElem? (i := 2) rfl)), by decide +kernel, by decide +kernel, by decide +kernel⟩, (wsL_c19 _ (List.mem_of_getElem? (i := 0) rfl)), (wsL_c19 _ (List.mem_of_getElem? (i := 1) rfl))⟩
theorem yY_X9_count : z_YV yX9_count cX9_count 2 (some .int) 1 := ⟨⟨(wsL_c1 _ (List.mem_of_getElem? (i := 2) rfl)), (wsL_c8 _ (List.mem_of_getElem? (i := 7) rfl)), by decide +kernel, by decide +kernel, by decide +kernel⟩, (wsL_c8 _ (List.mem_of_getElem? (i := 5) rfl)), (wsL_c8 _ (List.mem_of_getElem? (i := 6) rfl))⟩
theorem yY_X9_days : z_YV yX9_days cX9_days 2 (some .int) 1 := ⟨⟨(wsL_c1 _ (List.mem_of_getElem? (i := 2) rfl)), (wsL_c18 _ (List.mem_of_getElem? (i := 8) rfl)), by decide +kernel, by decide +kernel, by decide +kernel⟩, (wsL_c18 _ (List.mem_of_getElem? (i := 6) rfl)), (wsL_c18 _ (List.mem_of_getElem? (i := 7) rfl))⟩
theorem yY_X9_dog : z_YV yX9_dog cX9_dog 4 (some .int) 3 := ⟨⟨(wsL_c1 _ (List.mem_of_getElem? (i := 2) rfl)), (wsL_c23 _ (List.mem_of_getElem? (i := 9) rfl)), by decide +kernel, by decide +kernel, by decide +kernel⟩, (wsL_c23 _ (List.mem_of_getElem? (i := 7) rfl)), (wsL_c23 _ (List.mem_of_getElem? (i := 8) rfl))⟩
theorem yY_X9_fault : z_YV yX9_fault cX9_fault 2 (some .int) 1 := ⟨⟨(wsL_c1 _ (List.mem_of_getElem? (i := 2) rfl)), (wsL_c17 _ (List.mem_of_getElem? (i := 7) rfl)), by decide +kernel, by decide +kernel, by decide +kernel⟩, (wsL_c17 _ (List.mem_of_getElem? (i := 5) rfl)), (wsL_c17 _ (List.mem_of_getElem? (i := 6) rfl))⟩
theorem yY_X9_give : z_YV yX9_give cX9_give 3 (some .int) 2 := ⟨⟨(wsL_c1 _ (List.mem_of_getElem? (i := 2) rfl)), (wsL_c24 _ (List.mem_of_getElem? (i := 12) rfl)), by decide +kernel, by decide +kernel, by decide +kernel⟩, (wsL_c24 _ (List.mem_of_getElem? (i := 10) rfl)), (wsL_c24 _ (List.mem_of_getElem? (i := 11) rfl))⟩
theorem yY_X9_giveNone : z_YV yX9_giveNone cX9_giveNone 2 (some .int) 1 := ⟨⟨(wsL_c1 _ (List.mem_of_getElem? (i := 2) rfl)), (wsL_c24 _ (List.mem_of_getElem? (i := 17) rfl)), by decide +kernel, by decide +kernel, by decide +kernel⟩, (wsL_c24 _ (List.mem_of_getElem? (i := 15) rfl)), (wsL_c24 _ (List.mem_of_getElem? (i := 16) rfl))⟩
theorem yY_X9_house : z_YV yX9_house cX9_house 4 (some .int) 3 := ⟨⟨(wsL_c1 _ (List.mem_of_getElem? (i := 2) rfl)), (wsL_c22 _ (List.mem_of_getElem? (i := 15) rfl)), by decide +kernel, by decide +kernel, by decide +kernel⟩, (wsL_c22 _ (List.mem_of_getElem? (i := 13) rfl)), (wsL_c22 _ (List.mem_of_getElem? (i := 14) rfl))⟩
theorem yY_X9_houseOf : z_YV yX9_houseOf cX9_houseOf 4 (some .int) 2 := ⟨⟨(wsL_c1 _ (List.mem_of_getElem? (i := 2) rfl)), (wsL_c20 _ (List.mem_of_getElem? (i := 0) rfl)), by decide +kernel, by decide +kernel, by decide +kernel⟩, (wsL_c19 _ (List.mem_of_getElem? (i := 22) rfl)), (wsL_c19 _ (List.mem_of_getElem? (i := 23) rfl))⟩
theorem yY_X9_lightest : z_YV yX9_lightest cX9_lightest 7 (some .int) 2 := ⟨⟨(wsL_c1 _ (List.mem_of_getElem? (i := 2) rfl)), (wsL_c26 _ (List.mem_of_getElem? (i := 1) rfl)), by decide +kernel, by decide +kernel, by decide +kernel⟩, (wsL_c25 _ (List.mem_of_getElem? (i := 23) rfl)), (wsL_c26 _ (List.mem_of_getElem? (i := 0) rfl))⟩
theorem yY_X9_meanBits : z_YV yX9_meanBits cX9_meanBits 5 (some .int) 0 := ⟨⟨(wsL_c1 _ (List.mem_of_getElem? (i := 2) rfl)), (wsL_c17 _ (List.mem_of_getElem? (i := 14) rfl)), by decide +kernel, by decide +kernel, by decide +kernel⟩, (wsL_c17 _ (List.mem_of_getElem? (i := 12) rfl)), (wsL_c17 _ (List.mem_of_getElem? (i := 13) rfl))⟩
theorem yY_X9_nextDog : z_YV yX9_nextDog cX9_nextDog 3 (some .int) 1 := ⟨⟨(wsL_c1 _ (List.mem_of_getElem? (i := 2) rfl)), (wsL_c20 _ (List.mem_of_getElem? (i := 21) rfl)), by decide +kernel, by decide +kernel, by decide +kernel⟩, (wsL_c20 _ (List.mem_of_getElem? (i := 19) rfl)), (wsL_c20 _ (List.mem_of_getElem? (i := 20) rfl))⟩
theorem yY_X9_pause : z_YV yX9_pause cX9_pause 4 (some .int) 3 := ⟨⟨(wsL_c1 _ (List.mem_of_getElem? (i := 2) rfl)), (wsL_c23 _ (List.mem_of_getElem? (i := 19) rfl)), by decide +kernel, by decide +kernel, by decide +kernel⟩, (wsL_c23 _ (List.mem_of_getElem? (i := 17) rfl)), (wsL_c23 _ (List.mem_of_getElem? (i := 18) rfl))⟩
theorem yY_X9_pauseOf : z_YV yX9_pauseOf cX9_pauseOf 4 (some .int) 2 := ⟨⟨(wsL_c1 _ (List.mem_of_getElem? (i := 2) rfl)), (wsL_c21 _ (List.mem_of_getElem? (i := 14) rfl)), by decide +kernel, by decide +kernel, by decide +kernel⟩, (wsL_c21 _ (List.mem_of_getElem? (i := 12) rfl)), (wsL_c21 _ (List.mem_of_getElem? (i := 13) rfl))⟩
theorem yY_X9_play : z_YV yX9_play cX9_play 1 (some .int) 0 := ⟨⟨(wsL_c1 _ (List.mem_of_getElem? (i := 2) rfl)), (wsL_c9 _ (List.mem_of_getElem? (i := 20) rfl)), by decide +kernel, by decide +kernel, by decide +kernel⟩, (wsL_c9 _ (List.mem_of_getElem? (i := 18) rfl)), (wsL_c9 _ (List.mem_of_getElem? (i := 19) rfl))⟩
theorem yY_X9_round : z_YV yX9_round cX9_round 4 (some .int) 3 := ⟨⟨(wsL_c1 _ (List.mem_of_getElem? (i := 2) rfl)), (wsL_c25 _ (List.mem_of_getElem? (i := 16) rfl)), by decide +kernel, by decide +kernel, by decide +kernel⟩, (wsL_c25 _ (List.mem_of_getElem? (i := 14) rfl)), (wsL_c25 _ (List.mem_of_getElem? (i := 15) rfl))⟩
theorem yY_X9_roundAt : z_YV yX9_roundAt cX9_roundAt 7 (some .int) 2 := ⟨⟨(wsL_c1 _ (List.mem_of_getElem? (i := 2) rfl)), (wsL_c25 _ (List.mem_of_getElem? (i := 11) rfl)), by decide +kernel, by decide +kernel, by decide +kernel⟩, (wsL_c25 _ (List.mem_of_getElem? (i := 9) rfl)), (wsL_c25 _ (List.mem_of_getElem? (i := 10) rfl))⟩
theorem yY_X9_set : z_YV yX9_set cX9_set 3 (some .int) 2 := ⟨⟨(wsL_c1 _ (List.mem_of_getElem? (i := 2) rfl)), (wsL_c25 _ (List.mem_of_getElem? (i := 3) rfl)), by decide +kernel, by decide +kernel, by decide +kernel⟩, (wsL_c25 _ (List.mem_of_getElem? (i := 1) rfl)), (wsL_c25 _ (List.mem_of_getElem? (i := 2) rfl))⟩
theorem yY_X9_settled : z_YV yX9_settled cX9_settled 2 (some .int) 1 := ⟨⟨(wsL_c1 _ (List.mem_of_getElem? (i := 2) rfl)), (wsL_c16 _ (List.mem_of_getElem? (i := 23) rfl)), by decide +kernel, by decide +kernel, by decide +kernel⟩, (wsL_c16 _ (List.mem_of_getElem? (i := 21) rfl)), (wsL_c16 _ (List.mem_of_getElem? (i := 22) rfl))⟩
theorem yY_X9_shareBits : z_YV yX9_shareBits cX9_shareBits 2 (some .int) 1 := ⟨⟨(wsL_c1 _ (List.mem_of_getElem? (i := 2) rfl)), (wsL_c20 _ (List.mem_of_getElem? (i := 17) rfl)), by decide +kernel, by decide +kernel, by decide +kernel⟩, (wsL_c20 _ (List.mem_of_getElem? (i := 15) rfl)), (wsL_c20 _ (List.mem_of_getElem? (i := 16) rfl))⟩
theorem yY_X9_type : z_YV yX9_type cX9_type 2 (some .int) 1 := ⟨⟨(wsL_c1 _ (List.mem_of_getElem? (i := 2) rfl)), (wsL_c26 _ (List.mem_of_getElem? (i := 11) rfl)), by decide +kernel, by decide +kernel, by decide +kernel⟩, (wsL_c26 _ (List.mem_of_getElem? (i := 9) rfl)), (wsL_c26 _ (List.mem_of_getElem? (i := 10) rfl))⟩
theorem yY_X9_undo : z_YV yX9_undo cX9_undo 1 (some .int) 0 := ⟨⟨(wsL_c1 _ (List.mem_of_getElem? (i := 2) rfl)), (wsL_c6 _ (List.mem_of_getElem? (i := 20) rfl)), by decide +kernel, by decide +kernel, by decide +kernel⟩, (wsL_c6 _ (List.mem_of_getElem? (i := 18) rfl)), (wsL_c6 _ (List.mem_of_getElem? (i := 19) rfl))⟩
theorem yY_X9_within : z_YS yX9_within cX9_within 3 (some .boolean) 3 := ⟨⟨(wsL_c1 _ (List.mem_of_getElem? (i := 2) rfl)), (wsL_c10 _ (List.mem_of_getElem? (i := 14) rfl)), by decide +kernel, by decide +kernel, by decide +kernel⟩, (wsL_c10 _ (List.mem_of_getElem? (i := 13) rfl))⟩
theorem yY_X11_act : z_YS yX11_act cX11_act 5 (some .int) 2 := ⟨⟨(wsL_c18 _ (List.mem_of_getElem? (i := 12) rfl)), (wsL_c27 _ (List.mem_of_getElem? (i := 2) rfl)), by decide +kernel, by decide +kernel, by decide +kernel⟩, (wsL_c27 _ (List.mem_of_getElem? (i := 1) rfl))⟩
theorem yY_X11_bundle : z_YS yX11_bundle cX11_bundle 3 (some .int) 1 := ⟨⟨(wsL_c18 _ (List.mem_of_getElem? (i := 12) rfl)), (wsL_c27 _ (List.mem_of_getElem? (i := 5) rfl)), by decide +kernel, by decide +kernel, by decide +kernel⟩, (wsL_c27 _ (List.mem_of_getElem? (i := 4) rfl))⟩
theorem yY_X11_cell : z_YS yX11_cell cX11_cell 2 (some .int) 2 := ⟨⟨(wsL_c18 _ (List.mem_of_getElem? (i := 12) rfl)), (wsL_c26 _ (List.mem_of_getElem? (i := 18) rfl)), by decide +kernel, by decide +kernel, by decide +kernel⟩, (wsL_c26 _ (List.mem_of_getElem? (i := 17) rfl))⟩
theorem yY_X11_fails : z_YS yX11_fails cX11_fails 9 (some .boolean) 1 := ⟨⟨(wsL_c18 _ (List.mem_of_getElem? (i := 12) rfl)), (wsL_c18 _ (List.mem_of_getElem? (i := 13) rfl)), by decide +kernel, by decide +kernel, by decide +kernel⟩, (wsL_c18 _ (List.mem_of_getElem? (i := 11) rfl))⟩
theorem yY_X11_goes : z_YS yX11_goes cX11_goes 10 (some .boolean) 1 := ⟨⟨(wsL_c18 _ (List.mem_of_getElem? (i := 12) rfl)), (wsL_c27 _ (List.mem_of_getElem? (i := 8) rfl)), by decide +kernel, by decide +kernel, by decide +kernel⟩, (wsL_c27 _ (List.mem_of_getElem? (i := 7) rfl))⟩
theorem yY_X11_lightest : z_YS yX11_lightest cX11_lightest 13 (some .boolean) 2 := ⟨⟨(wsL_c18 _ (List.mem_of_getElem? (i := 12) rfl)), (wsL_c27 _ (List.mem_of_getElem? (i := 22) rfl)), by decide +kernel, by decide +kernel, by decide +kernel⟩, (wsL_c27 _ (List.mem_of_getElem? (i := 21) rfl))⟩
theorem yY_X11_mark : z_YS yX11_mark cX11_mark 5 (some .long) 1 := ⟨⟨(wsL_c18 _ (List.mem_of_getElem? (i := 12) rfl)), (wsL_c18 _ (List.mem_of_getElem? (i := 16) rfl)), by decide +kernel, by decide +kernel, by decide +kernel⟩, (wsL_c18 _ (List.mem_of_getElem? (i := 15) rfl))⟩
theorem yY_X11_papers : z_YS yX11_papers cX11_papers 16 (some .boolean) 2 := ⟨⟨(wsL_c18 _ (List.mem_of_getElem? (i := 12) rfl)), (wsL_c27 _ (List.mem_of_getElem? (i := 14) rfl)), by decide +kernel, by decide +kernel, by decide +kernel⟩, (wsL_c27 _ (List.mem_of_getElem? (i := 13) rfl))⟩
theorem yY_X11_rounds : z_YS yX11_rounds cX11_rounds 12 (some .boolean) 1 := ⟨⟨(wsL_c18 _ (List.mem_of_getElem? (i := 12) rfl)), (wsL_c27 _ (List.mem_of_getElem? (i := 19) rfl)), by decide +kernel, by decide +kernel, by decide +kernel⟩, (wsL_c27 _ (List.mem_of_getElem? (i := 18) rfl))⟩
theorem yY_X11_streets : z_YS yX11_streets cX11_streets 3 (some .boolean) 1 := ⟨⟨(wsL_c18 _ (List.mem_of_getElem? (i := 12) rfl)), (wsL_c27 _ (List.mem_of_getElem? (i := 11) rfl)), by decide +kernel, by decide +kernel, by decide +kernel⟩, (wsL_c27 _ (List.mem_of_getElem? (i := 10) rfl))⟩
theorem yY_X11_up : z_YS yX11_up cX11_up 2 (some .int) 2 := ⟨⟨(wsL_c18 _ (List.mem_of_getElem? (i := 12) rfl)), (wsL_c26 _ (List.mem_of_getElem? (i := 22) rfl)), by decide +kernel, by decide +kernel, by decide +kernel⟩, (wsL_c26 _ (List.mem_of_getElem? (i := 21) rfl))⟩
def layT : Nat → z_K := fun i => ([.inr (6, [none, none, none, some 1, some 2, some 11, some 26, some 30]), .inl (0, 6), .inr (4, [none, some 3, some 4, some 5, some 6, some 7, some 8, some 9, some 10]), .inl (0, 20), .inl (0, 20), .inl (0, 20), .inl (0, 20), .inl (0, 20), .inl (0, 20), .inl (0, 20), .inl (0, 20), .inr (2, [none, some 12, some 13, some 14, some 15, some 16, some 17, some 18, some 19, some 20, some 21, some 22, some 23, some 24, some 25]), .inl (0, 24), .inl (0, 24), .inl (0, 24), .inl (0, 24), .inl (0, 24), .inl (0, 24), .inl (0, 24), .inl (0, 24), .inl (0, 24), .inl (0, 24), .inl (0, 24), .inl (0, 24), .inl (0, 24), .inl (0, 24), .inr (3, [none, some 27, some 28, some 29]), .inl (0, 30), .inl (0, 30), .inl (0, 30), .inr (0, [none, some 31, some 32, some 33, some 34, some 35, some 36, some 37]), .inl (0, 3), .inl (0, 3), .inl (0, 3), .inl (0, 3), .inl (0, 3), .inl (0, 3), .inl (0, 3)] : List z_K).getD i (.inl (0, 0))
def layTT : Nat → z_K := fun i => ([.inr (6, [none, none, none, some 1, some 2, some 11, some 26, some 30]), .inl (0, 6), .inr (4, [none, some 3, some 4, some 5, some 6, some 7, some 8, some 9, some 10]), .inl (0, 20), .inl (0, 20), .inl (0, 20), .inl (0, 20), .inl (0, 20), .inl (0, 20), .inl (0, 20), .inl (0, 20), .inr (2, [none, some 12, some 13, some 14, some 15, some 16, some 17, some 18, some 19, some 20, some 21, some 22, some 23, some 24, some 25]), .inl (0, 24), .inl (0, 24), .inl (0, 24), .inl (0, 24), .inl (0, 24), .inl (0, 24), .inl (0, 24), .inl (0, 24), .inl (0, 24), .inl (0, 24), .inl (0, 24), .inl (0, 24), .inl (0, 24), .inl (0, 24), .inr (3, [none, some 27, some 28, some 29]), .inl (0, 30), .inl (0, 30), .inl (0, 30), .inr (0, [none, some 31, some 32, some 33, some 34, some 35, some 36, some 37]), .inl (0, 3), .inl (0, 3), .inl (0, 3), .inl (0, 3), .inl (0, 3), .inl (0, 3), .inl (0, 3), .inr (6, [none, none, none, some 39, some 40, some 49, some 64, some 68]), .inl (0, 6), .inr (4, [none, some 41, some 42, some 43, some 44, some 45, some 46, some 47, some 48]), .inl (0, 20), .inl (0, 20), .inl (0, 20), .inl (0, 20), .inl (0, 20), .inl (0, 20), .inl (0, 20), .inl (0, 20), .inr (2, [none, some 50, some 51, some 52, some 53, some 54, some 55, some 56, some 57, some 58, some 59, some 60, some 61, some 62, some 63]), .inl (0, 24), .inl (0, 24), .inl (0, 24), .inl (0, 24), .inl (0, 24), .inl (0, 24), .inl (0, 24), .inl (0, 24), .inl (0, 24), .inl (0, 24), .inl (0, 24), .inl (0, 24), .inl (0, 24), .inl (0, 24), .inr (3, [none, some 65, some 66, some 67]), .inl (0, 30), .inl (0, 30), .inl (0, 30), .inr (0, [none, some 69, some 70, some 71, some 72, some 73, some 74, some 75]), .inl (0, 3), .inl (0, 3), .inl (0, 3), .inl (0, 3), .inl (0, 3), .inl (0, 3), .inl (0, 3)] : List z_K).getD i (.inl (0, 0))
def layTW : Nat → z_K := fun i => ([.inr (6, [none, none, none, some 1, some 2, some 11, some 26, some 30]), .inl (0, 6), .inr (4, [none, some 3, some 4, some 5, some 6, some 7, some 8, some 9, some 10]), .inl (0, 20), .inl (0, 20), .inl (0, 20), .inl (0, 20), .inl (0, 20), .inl (0, 20), .inl (0, 20), .inl (0, 20), .inr (2, [none, some 12, some 13, some 14, some 15, some 16, some 17, some 18, some 19, some 20, some 21, some 22, some 23, some 24, some 25]), .inl (0, 24), .inl (0, 24), .inl (0, 24), .inl (0, 24), .inl (0, 24), .inl (0, 24), .inl (0, 24), .inl (0, 24), .inl (0, 24), .inl (0, 24), .inl (0, 24), .inl (0, 24), .inl (0, 24), .inl (0, 24), .inr (3, [none, some 27, some 28, some 29]), .inl (0, 30), .inl (0, 30), .inl (0, 30), .inr (0, [none, some 31, some 32, some 33, some 34, some 35, some 36, some 37]), .inl (0, 3), .inl (0, 3), .inl (0, 3), .inl (0, 3), .inl (0, 3), .inl (0, 3), .inl (0, 3), .inr (8, [none, none, none, none, none, some 39]), .inl (0, 20)] : List z_K).getD i (.inl (0, 0))
def layX0 : Nat → z_K := fun i => ([.inr (5, [none, some 1, none, none, some 2]), .inl (1, 60), .inl (0, 3)] : List z_K).getD i (.inl (0, 0))
def layR : Nat → z_K := fun i => ([.inr (7, [some 1, none, none, none, none]), .inr (6, [none, none, none, some 2, some 3, some 12, some 27, some 31]), .inl (0, 6), .inr (4, [none, some 4, some 5, some 6, some 7, some 8, some 9, some 10, some 11]), .inl (0, 20), .inl (0, 20), .inl (0, 20), .inl (0, 20), .inl (0, 20), .inl (0, 20), .inl (0, 20), .inl (0, 20), .inr (2, [none, some 13, some 14, some 15, some 16, some 17, some 18, some 19, some 20, some 21, some 22, some 23, some 24, some 25, some 26]), .inl (0, 24), .inl (0, 24), .inl (0, 24), .inl (0, 24), .inl (0, 24), .inl (0, 24), .inl (0, 24), .inl (0, 24), .inl (0, 24), .inl (0, 24), .inl (0, 24), .inl (0, 24), .inl (0, 24), .inl (0, 24), .inr (3, [none, some 28, some 29, some 30]), .inl (0, 30), .inl (0, 30), .inl (0, 30), .inr (0, [none, some 32, some 33, some 34, some 35, some 36, some 37, some 38]), .inl (0, 3), .inl (0, 3), .inl (0, 3), .inl (0, 3), .inl (0, 3), .inl (0, 3), .inl (0, 3), .inr (6, [none, none, none, some 40, some 41, some 50, some 65, some 69]), .inl (0, 6), .inr (4, [none, some 42, some 43, some 44, some 45, some 46, some 47, some 48, some 49]), .inl (0, 20), .inl (0, 20), .inl (0, 20), .inl (0, 20), .inl (0, 20), .inl (0, 20), .inl (0, 20), .inl (0, 20), .inr (2, [none, some 51, some 52, some 53, some 54, some 55, some 56, some 57, some 58, some 59, some 60, some 61, some 62, some 63, some 64]), .inl (0, 24), .inl (0, 24), .inl (0, 24), .inl (0, 24), .inl (0, 24), .inl (0, 24), .inl (0, 24), .inl (0, 24), .inl (0, 24), .inl (0, 24), .inl (0, 24), .inl (0, 24), .inl (0, 24), .inl (0, 24), .inr (3, [none, some 66, some 67, some 68]), .inl (0, 30), .inl (0, 30), .inl (0, 30), .inr (0, [none, some 70, some 71, some 72, some 73, some 74, some 75, some 76]), .inl (0, 3), .inl (0, 3), .inl (0, 3), .inl (0, 3), .inl (0, 3), .inl (0, 3), .inl (0, 3), .inr (5, [none, some 78, none, none, some 79]), .inl (1, 60), .inl (0, 3), .inr (8, [none, none, none, none, none, some 81]), .inl (0, 20)] : List z_K).getD i (.inl (0, 0))
def layH : Nat → z_K := fun i => ([.inr (1, [none, none, some 1]), .inl (4, 5), .inr (6, [none, none, none, some 3, some 4, some 13, some 28, some 32]), .inl (0, 6), .inr (4, [none, some 5, some 6, some 7, some 8, some 9, some 10, some 11, some 12]), .inl (0, 20), .inl (0, 20), .inl (0, 20), .inl (0, 20), .inl (0, 20), .inl (0, 20), .inl (0, 20), .inl (0, 20), .inr (2, [none, some 14, some 15, some 16, some 17, some 18, some 19, some 20, some 21, some 22, some 23, some 24, some 25, some 26, some 27]), .inl (0, 24), .inl (0, 24), .inl (0, 24), .inl (0, 24), .inl (0, 24), .inl (0, 24), .inl (0, 24), .inl (0, 24), .inl (0, 24), .inl (0, 24), .inl (0, 24), .inl (0, 24), .inl (0, 24), .inl (0, 24), .inr (3, [none, some 29, some 30, some 31]), .inl (0, 30), .inl (0, 30), .inl (0, 30), .inr (0, [none, some 33, some 34, some 35, some 36, some 37, some 38, some 39]), .inl (0, 3), .inl (0, 3), .inl (0, 3), .inl (0, 3), .inl (0, 3), .inl (0, 3), .inl (0, 3), .inr (6, [none, none, none, some 41, some 42, some 51, some 66, some 70]), .inl (0, 6), .inr (4, [none, some 43, some 44, some 45, some 46, some 47, some 48, some 49, some 50]), .inl (0, 20), .inl (0, 20), .inl (0, 20), .inl (0, 20), .inl (0, 20), .inl (0, 20), .inl (0, 20), .inl (0, 20), .inr (2, [none, some 52, some 53, some 54, some 55, some 56, some 57, some 58, some 59, some 60, some 61, some 62, some 63, some 64, some 65]), .inl (0, 24), .inl (0, 24), .inl (0, 24), .inl (0, 24), .inl (0, 24), .inl (0, 24), .inl (0, 24), .inl (0, 24), .inl (0, 24), .inl (0, 24), .inl (0, 24), .inl (0, 24), .inl (0, 24), .inl (0, 24), .inr (3, [none, some 67, some 68, some 69]), .inl (0, 30), .inl (0, 30), .inl (0, 30), .inr (0, [none, some 71, some 72, some 73, some 74, some 75, some 76, some 77]), .inl (0, 3), .inl (0, 3), .inl (0, 3), .inl (0, 3), .inl (0, 3), .inl (0, 3), .inl (0, 3), .inr (6, [none, none, none, some 79, some 80, some 89, some 104, some 108]), .inl (0, 6), .inr (4, [none, some 81, some 82, some 83, some 84, some 85, some 86, some 87, some 88]), .inl (0, 20), .inl (0, 20), .inl (0, 20), .inl (0, 20), .inl (0, 20), .inl (0, 20), .inl (0, 20), .inl (0, 20), .inr (2, [none, some 90, some 91, some 92, some 93, some 94, some 95, some 96, some 97, some 98, some 99, some 100, some 101, some 102, some 103]), .inl (0, 24), .inl (0, 24), .inl (0, 24), .inl (0, 24), .inl (0, 24), .inl (0, 24), .inl (0, 24), .inl (0, 24), .inl (0, 24), .inl (0, 24), .inl (0, 24), .inl (0, 24), .inl (0, 24), .inl (0, 24), .inr (3, [none, some 105, some 106, some 107]), .inl (0, 30), .inl (0, 30), .inl (0, 30), .inr (0, [none, some 109, some 110, some 111, some 112, some 113, some 114, some 115]), .inl (0, 3), .inl (0, 3), .inl (0, 3), .inl (0, 3), .inl (0, 3), .inl (0, 3), .inl (0, 3), .inr (6, [none, none, none, some 117, some 118, some 127, some 142, some 146]), .inl (0, 6), .inr (4, [none, some 119, some 120, some 121, some 122, some 123, some 124, some 125, some 126]), .inl (0, 20), .inl (0, 20), .inl (0, 20), .inl (0, 20), .inl (0, 20), .inl (0, 20), .inl (0, 20), .inl (0, 20), .inr (2, [none, some 128, some 129, some 130, some 131, some 132, some 133, some 134, some 135, some 136, some 137, some 138, some 139, some 140, some 141]), .inl (0, 24), .inl (0, 24), .inl (0, 24), .inl (0, 24), .inl (0, 24), .inl (0, 24), .inl (0, 24), .inl (0, 24), .inl (0, 24), .inl (0, 24), .inl (0, 24), .inl (0, 24), .inl (0, 24), .inl (0, 24), .inr (3, [none, some 143, some 144, some 145]), .inl (0, 30), .inl (0, 30), .inl (0, 30), .inr (0, [none, some 147, some 148, some 149, some 150, some 151, some 152, some 153]), .inl (0, 3), .inl (0, 3), .inl (0, 3), .inl (0, 3), .inl (0, 3), .inl (0, 3), .inl (0, 3), .inr (6, [none, none, none, some 155, some 156, some 165, some 180, some 184]), .inl (0, 6), .inr (4, [none, some 157, some 158, some 159, some 160, some 161, some 162, some 163, some 164]), .inl (0, 20), .inl (0, 20), .inl (0, 20), .inl (0, 20), .inl (0, 20), .inl (0, 20), .inl (0, 20), .inl (0, 20), .inr (2, [none, some 166, some 167, some 168, some 169, some 170, some 171, some 172, some 173, some 174, some 175, some 176, some 177, some 178, some 179]), .inl (0, 24), .inl (0, 24), .inl (0, 24), .inl (0, 24), .inl (0, 24), .inl (0, 24), .inl (0, 24), .inl (0, 24), .inl (0, 24), .inl (0, 24), .inl (0, 24), .inl (0, 24), .inl (0, 24), .inl (0, 24), .inr (3, [none, some 181, some 182, some 183]), .inl (0, 30), .inl (0, 30), .inl (0, 30), .inr (0, [none, some 185, some 186, some 187, some 188, some 189, some 190, some 191]), .inl (0, 3), .inl (0, 3), .inl (0, 3), .inl (0, 3), .inl (0, 3), .inl (0, 3), .inl (0, 3), .inr (6, [none, none, none, some 193, some 194, some 203, some 218, some 222]), .inl (0, 6), .inr (4, [none, some 195, some 196, some 197, some 198, some 199, some 200, some 201, some 202]), .inl (0, 20), .inl (0, 20), .inl (0, 20), .inl (0, 20), .inl (0, 20), .inl (0, 20), .inl (0, 20), .inl (0, 20), .inr (2, [none, some 204, some 205, some 206, some 207, some 208, some 209, some 210, some 211, some 212, some 213, some 214, some 215, some 216, some 217]), .inl (0, 24), .inl (0, 24), .inl (0, 24), .inl (0, 24), .inl (0, 24), .inl (0, 24), .inl (0, 24), .inl (0, 24), .inl (0, 24), .inl (0, 24), .inl (0, 24), .inl (0, 24), .inl (0, 24), .inl (0, 24), .inr (3, [none, some 219, some 220, some 221]), .inl (0, 30), .inl (0, 30), .inl (0, 30), .inr (0, [none, some 223, some 224, some 225, some 226, some 227, some 228, some 229]), .inl (0, 3), .inl (0, 3), .inl (0, 3), .inl (0, 3), .inl (0, 3), .inl (0, 3), .inl (0, 3)] : List z_K).getD i (.inl (0, 0))
def layX : Nat → z_K := fun i => ([.inr (1, [none, none, some 1]), .inl (4, 5), .inr (6, [none, none, none, some 3, some 4, some 13, some 28, some 32]), .inl (0, 6), .inr (4, [none, some 5, some 6, some 7, some 8, some 9, some 10, some 11, some 12]), .inl (0, 20), .inl (0, 20), .inl (0, 20), .inl (0, 20), .inl (0, 20), .inl (0, 20), .inl (0, 20), .inl (0, 20), .inr (2, [none, some 14, some 15, some 16, some 17, some 18, some 19, some 20, some 21, some 22, some 23, some 24, some 25, some 26, some 27]), .inl (0, 24), .inl (0, 24), .inl (0, 24), .inl (0, 24), .inl (0, 24), .inl (0, 24), .inl (0, 24), .inl (0, 24), .inl (0, 24), .inl (0, 24), .inl (0, 24), .inl (0, 24), .inl (0, 24), .inl (0, 24), .inr (3, [none, some 29, some 30, some 31]), .inl (0, 30), .inl (0, 30), .inl (0, 30), .inr (0, [none, some 33, some 34, some 35, some 36, some 37, some 38, some 39]), .inl (0, 3), .inl (0, 3), .inl (0, 3), .inl (0, 3), .inl (0, 3), .inl (0, 3), .inl (0, 3), .inr (6, [none, none, none, some 41, some 42, some 51, some 66, some 70]), .inl (0, 6), .inr (4, [none, some 43, some 44, some 45, some 46, some 47, some 48, some 49, some 50]), .inl (0, 20), .inl (0, 20), .inl (0, 20), .inl (0, 20), .inl (0, 20), .inl (0, 20), .inl (0, 20), .inl (0, 20), .inr (2, [none, some 52, some 53, some 54, some 55, some 56, some 57, some 58, some 59, some 60, some 61, some 62, some 63, some 64, some 65]), .inl (0, 24), .inl (0, 24), .inl (0, 24), .inl (0, 24), .inl (0, 24), .inl (0, 24), .inl (0, 24), .inl (0, 24), .inl (0, 24), .inl (0, 24), .inl (0, 24), .inl (0, 24), .inl (0, 24), .inl (0, 24), .inr (3, [none, some 67, some 68, some 69]), .inl (0, 30), .inl (0, 30), .inl (0, 30), .inr (0, [none, some 71, some 72, some 73, some 74, some 75, some 76, some 77]), .inl (0, 3), .inl (0, 3), .inl (0, 3), .inl (0, 3), .inl (0, 3), .inl (0, 3), .inl (0, 3), .inr (6, [none, none, none, some 79, some 80, some 89, some 104, some 108]), .inl (0, 6), .inr (4, [none, some 81, some 82, some 83, some 84, some 85, some 86, some 87, some 88]), .inl (0, 20), .inl (0, 20), .inl (0, 20), .inl (0, 20), .inl (0, 20), .inl (0, 20), .inl (0, 20), .inl (0, 20), .inr (2, [none, some 90, some 91, some 92, some 93, some 94, some 95, some 96, some 97, some 98, some 99, some 100, some 101, some 102, some 103]), .inl (0, 24), .inl (0, 24), .inl (0, 24), .inl (0, 24), .inl (0, 24), .inl (0, 24), .inl (0, 24), .inl (0, 24), .inl (0, 24), .inl (0, 24), .inl (0, 24), .inl (0, 24), .inl (0, 24), .inl (0, 24), .inr (3, [none, some 105, some 106, some 107]), .inl (0, 30), .inl (0, 30), .inl (0, 30), .inr (0, [none, some 109, some 110, some 111, some 112, some 113, some 114, some 115]), .inl (0, 3), .inl (0, 3), .inl (0, 3), .inl (0, 3), .inl (0, 3), .inl (0, 3), .inl (0, 3), .inr (6, [none, none, none, some 117, some 118, some 127, some 142, some 146]), .inl (0, 6), .inr (4, [none, some 119, some 120, some 121, some 122, some 123, some 124, some 125, some 126]), .inl (0, 20), .inl (0, 20), .inl (0, 20), .inl (0, 20), .inl (0, 20), .inl (0, 20), .inl (0, 20), .inl (0, 20), .inr (2, [none, some 128, some 129, some 130, some 131, some 132, some 133, some 134, some 135, some 136, some 137, some 138, some 139, some 140, some 141]), .inl (0, 24), .inl (0, 24), .inl (0, 24), .inl (0, 24), .inl (0, 24), .inl (0, 24), .inl (0, 24), .inl (0, 24), .inl (0, 24), .inl (0, 24), .inl (0, 24), .inl (0, 24), .inl (0, 24), .inl (0, 24), .inr (3, [none, some 143, some 144, some 145]), .inl (0, 30), .inl (0, 30), .inl (0, 30), .inr (0, [none, some 147, some 148, some 149, some 150, some 151, some 152, some 153]), .inl (0, 3), .inl (0, 3), .inl (0, 3), .inl (0, 3), .inl (0, 3), .inl (0, 3), .inl (0, 3), .inr (6, [none, none, none, some 155, some 156, some 165, some 180, some 184]), .inl (0, 6), .inr (4, [none, some 157, some 158, some 159, some 160, some 161, some 162, some 163, some 164]), .inl (0, 20), .inl (0, 20), .inl (0, 20), .inl (0, 20), .inl (0, 20), .inl (0, 20), .inl (0, 20), .inl (0, 20), .inr (2, [none, some 166, some 167, some 168, some 169, some 170, some 171, some 172, some 173, some 174, some 175, some 176, some 177, some 178, some 179]), .inl (0, 24), .inl (0, 24), .inl (0, 24), .inl (0, 24), .inl (0, 24), .inl (0, 24), .inl (0, 24), .inl (0, 24), .inl (0, 24), .inl (0, 24), .inl (0, 24), .inl (0, 24), .inl (0, 24), .inl (0, 24), .inr (3, [none, some 181, some 182, some 183]), .inl (0, 30), .inl (0, 30), .inl (0, 30), .inr (0, [none, some 185, some 186, some 187, some 188, some 189, some 190, some 191]), .inl (0, 3), .inl (0, 3), .inl (0, 3), .inl (0, 3), .inl (0, 3), .inl (0, 3), .inl (0, 3), .inr (6, [none, none, none, some 193, some 194, some 203, some 218, some 222]), .inl (0, 6), .inr (4, [none, some 195, some 196, some 197, some 198, some 199, some 200, some 201, some 202]), .inl (0, 20), .inl (0, 20), .inl (0, 20), .inl (0, 20), .inl (0, 20), .inl (0, 20), .inl (0, 20), .inl (0, 20), .inr (2, [none, some 204, some 205, some 206, some 207, some 208, some 209, some 210, some 211, some 212, some 213, some 214, some 215, some 216, some 217]), .inl (0, 24), .inl (0, 24), .inl (0, 24), .inl (0, 24), .inl (0, 24), .inl (0, 24), .inl (0, 24), .inl (0, 24), .inl (0, 24), .inl (0, 24), .inl (0, 24), .inl (0, 24), .inl (0, 24), .inl (0, 24), .inr (3, [none, some 219, some 220, some 221]), .inl (0, 30), .inl (0, 30), .inl (0, 30), .inr (0, [none, some 223, some 224, some 225, some 226, some 227, some 228, some 229]), .inl (0, 3), .inl (0, 3), .inl (0, 3), .inl (0, 3), .inl (0, 3), .inl (0, 3), .inl (0, 3), .inr (9, [some 192, some 0, some 231, some 233, some 236]), .inr (8, [none, none, none, none, none, some 232]), .inl (0, 20), .inr (5, [none, some 234, none, none, some 235]), .inl (1, 60), .inl (0, 3), .inr (7, [some 237, none, none, none, none]), .inr (6, [none, none, none, some 238, some 239, some 248, some 263, some 267]), .inl (0, 6), .inr (4, [none, some 240, some 241, some 242, some 243, some 244, some 245, some 246, some 247]), .inl (0, 20), .inl (0, 20), .inl (0, 20), .inl (0, 20), .inl (0, 20), .inl (0, 20), .inl (0, 20), .inl (0, 20), .inr (2, [none, some 249, some 250, some 251, some 252, some 253, some 254, some 255, some 256, some 257, some 258, some 259, some 260, some 261, some 262]), .inl (0, 24), .inl (0, 24), .inl (0, 24), .inl (0, 24), .inl (0, 24), .inl (0, 24), .inl (0, 24), .inl (0, 24), .inl (0, 24), .inl (0, 24), .inl (0, 24), .inl (0, 24), .inl (0, 24), .inl (0, 24), .inr (3, [none, some 264, some 265, some 266]), .inl (0, 30), .inl (0, 30), .inl (0, 30), .inr (0, [none, some 268, some 269, some 270, some 271, some 272, some 273, some 274]), .inl (0, 3), .inl (0, 3), .inl (0, 3), .inl (0, 3), .inl (0, 3), .inl (0, 3), .inl (0, 3)] : List z_K).getD i (.inl (0, 0))
def layXG : Nat → z_K := fun i => ([.inr (1, [none, none, some 1]), .inl (4, 5), .inr (6, [none, none, none, some 3, some 4, some 13, some 28, some 32]), .inl (0, 6), .inr (4, [none, some 5, some 6, some 7, some 8, some 9, some 10, some 11, some 12]), .inl (0, 20), .inl (0, 20), .inl (0, 20), .inl (0, 20), .inl (0, 20), .inl (0, 20), .inl (0, 20), .inl (0, 20), .inr (2, [none, some 14, some 15, some 16, some 17, some 18, some 19, some 20, some 21, some 22, some 23, some 24, some 25, some 26, some 27]), .inl (0, 24), .inl (0, 24), .inl (0, 24), .inl (0, 24), .inl (0, 24), .inl (0, 24), .inl (0, 24), .inl (0, 24), .inl (0, 24), .inl (0, 24), .inl (0, 24), .inl (0, 24), .inl (0, 24), .inl (0, 24), .inr (3, [none, some 29, some 30, some 31]), .inl (0, 30), .inl (0, 30), .inl (0, 30), .inr (0, [none, some 33, some 34, some 35, some 36, some 37, some 38, some 39]), .inl (0, 3), .inl (0, 3), .inl (0, 3), .inl (0, 3), .inl (0, 3), .inl (0, 3), .inl (0, 3), .inr (6, [none, none, none, some 41, some 42, some 51, some 66, some 70]), .inl (0, 6), .inr (4, [none, some 43, some 44, some 45, some 46, some 47, some 48, some 49, some 50]), .inl (0, 20), .inl (0, 20), .inl (0, 20), .inl (0, 20), .inl (0, 20), .inl (0, 20), .inl (0, 20), .inl (0, 20), .inr (2, [none, some 52, some 53, some 54, some 55, some 56, some 57, some 58, some 59, some 60, some 61, some 62, some 63, some 64, some 65]), .inl (0, 24), .inl (0, 24), .inl (0, 24), .inl (0, 24), .inl (0, 24), .inl (0, 24), .inl (0, 24), .inl (0, 24), .inl (0, 24), .inl (0, 24), .inl (0, 24), .inl (0, 24), .inl (0, 24), .inl (0, 24), .inr (3, [none, some 67, some 68, some 69]), .inl (0, 30), .inl (0, 30), .inl (0, 30), .inr (0, [none, some 71, some 72, some 73, some 74, some 75, some 76, some 77]), .inl (0, 3), .inl (0, 3), .inl (0, 3), .inl (0, 3), .inl (0, 3), .inl (0, 3), .inl (0, 3), .inr (6, [none, none, none, some 79, some 80, some 89, some 104, some 108]), .inl (0, 6), .inr (4, [none, some 81, some 82, some 83, some 84, some 85, some 86, some 87, some 88]), .inl (0, 20), .inl (0, 20), .inl (0, 20), .inl (0, 20), .inl (0, 20), .inl (0, 20), .inl (0, 20), .inl (0, 20), .inr (2, [none, some 90, some 91, some 92, some 93, some 94, some 95, some 96, some 97, some 98, some 99, some 100, some 101, some 102, some 103]), .inl (0, 24), .inl (0, 24), .inl (0, 24), .inl (0, 24), .inl (0, 24), .inl (0, 24), .inl (0, 24), .inl (0, 24), .inl (0, 24), .inl (0, 24), .inl (0, 24), .inl (0, 24), .inl (0, 24), .inl (0, 24), .inr (3, [none, some 105, some 106, some 107]), .inl (0, 30), .inl (0, 30), .inl (0, 30), .inr (0, [none, some 109, some 110, some 111, some 112, some 113, some 114, some 115]), .inl (0, 3), .inl (0, 3), .inl (0, 3), .inl (0, 3), .inl (0, 3), .inl (0, 3), .inl (0, 3), .inr (6, [none, none, none, some 117, some 118, some 127, some 142, some 146]), .inl (0, 6), .inr (4, [none, some 119, some 120, some 121, some 122, some 123, some 124, some 125, some 126]), .inl (0, 20), .inl (0, 20), .inl (0, 20), .inl (0, 20), .inl (0, 20), .inl (0, 20), .inl (0, 20), .inl (0, 20), .inr (2, [none, some 128, some 129, some 130, some 131, some 132, some 133, some 134, some 135, some 136, some 137, some 138, some 139, some 140, some 141]), .inl (0, 24), .inl (0, 24), .inl (0, 24), .inl (0, 24), .inl (0, 24), .inl (0, 24), .inl (0, 24), .inl (0, 24), .inl (0, 24), .inl (0, 24), .inl (0, 24), .inl (0, 24), .inl (0, 24), .inl (0, 24), .inr (3, [none, some 143, some 144, some 145]), .inl (0, 30), .inl (0, 30), .inl (0, 30), .inr (0, [none, some 147, some 148, some 149, some 150, some 151, some 152, some 153]), .inl (0, 3), .inl (0, 3), .inl (0, 3), .inl (0, 3), .inl (0, 3), .inl (0, 3), .inl (0, 3), .inr (6, [none, none, none, some 155, some 156, some 165, some 180, some 184]), .inl (0, 6), .inr (4, [none, some 157, some 158, some 159, some 160, some 161, some 162, some 163, some 164]), .inl (0, 20), .inl (0, 20), .inl (0, 20), .inl (0, 20), .inl (0, 20), .inl (0, 20), .inl (0, 20), .inl (0, 20), .inr (2, [none, some 166, some 167, some 168, some 169, some 170, some 171, some 172, some 173, some 174, some 175, some 176, some 177, some 178, some 179]), .inl (0, 24), .inl (0, 24), .inl (0, 24), .inl (0, 24), .inl (0, 24), .inl (0, 24), .inl (0, 24), .inl (0, 24), .inl (0, 24), .inl (0, 24), .inl (0, 24), .inl (0, 24), .inl (0, 24), .inl (0, 24), .inr (3, [none, some 181, some 182, some 183]), .inl (0, 30), .inl (0, 30), .inl (0, 30), .inr (0, [none, some 185, some 186, some 187, some 188, some 189, some 190, some 191]), .inl (0, 3), .inl (0, 3), .inl (0, 3), .inl (0, 3), .inl (0, 3), .inl (0, 3), .inl (0, 3), .inr (6, [none, none, none, some 193, some 194, some 203, some 218, some 222]), .inl (0, 6), .inr (4, [none, some 195, some 196, some 197, some 198, some 199, some 200, some 201, some 202]), .inl (0, 20), .inl (0, 20), .inl (0, 20), .inl (0, 20), .inl (0, 20), .inl (0, 20), .inl (0, 20), .inl (0, 20), .inr (2, [none, some 204, some 205, some 206, some 207, some 208, some 209, some 210, some 211, some 212, some 213, some 214, some 215, some 216, some 217]), .inl (0, 24), .inl (0, 24), .inl (0, 24), .inl (0, 24), .inl (0, 24), .inl (0, 24), .inl (0, 24), .inl (0, 24), .inl (0, 24), .inl (0, 24), .inl (0, 24), .inl (0, 24), .inl (0, 24), .inl (0, 24), .inr (3, [none, some 219, some 220, some 221]), .inl (0, 30), .inl (0, 30), .inl (0, 30), .inr (0, [none, some 223, some 224, some 225, some 226, some 227, some 228, some 229]), .inl (0, 3), .inl (0, 3), .inl (0, 3), .inl (0, 3), .inl (0, 3), .inl (0, 3), .inl (0, 3), .inr (9, [some 192, some 0, some 231, some 233, some 236]), .inr (8, [none, none, none, none, none, some 232]), .inl (0, 20), .inr (5, [none, some 234, none, none, some 235]), .inl (1, 60), .inl (0, 3), .inr (7, [some 237, none, none, none, none]), .inr (6, [none, none, none, some 238, some 239, some 248, some 263, some 267]), .inl (0, 6), .inr (4, [none, some 240, some 241, some 242, some 243, some 244, some 245, some 246, some 247]), .inl (0, 20), .inl (0, 20), .inl (0, 20), .inl (0, 20), .inl (0, 20), .inl (0, 20), .inl (0, 20), .inl (0, 20), .inr (2, [none, some 249, some 250, some 251, some 252, some 253, some 254, some 255, some 256, some 257, some 258, some 259, some 260, some 261, some 262]), .inl (0, 24), .inl (0, 24), .inl (0, 24), .inl (0, 24), .inl (0, 24), .inl (0, 24), .inl (0, 24), .inl (0, 24), .inl (0, 24), .inl (0, 24), .inl (0, 24), .inl (0, 24), .inl (0, 24), .inl (0, 24), .inr (3, [none, some 264, some 265, some 266]), .inl (0, 30), .inl (0, 30), .inl (0, 30), .inr (0, [none, some 268, some 269, some 270, some 271, some 272, some 273, some 274]), .inl (0, 3), .inl (0, 3), .inl (0, 3), .inl (0, 3), .inl (0, 3), .inl (0, 3), .inl (0, 3), .inl (0, 12)] : List z_K).getD i (.inl (0, 0))
theorem kH_0 : layH 0 = .inr (1, [none, none, some 1]) := rfl
theorem kH_1 : layH 1 = .inl (4, 5) := rfl
theorem kR_0 : layR 0 = .inr (7, [some 1, none, none, none, none]) := rfl
theorem kR_77 : layR 77 = .inr (5, [none, some 78, none, none, some 79]) := rfl
theorem kR_79 : layR 79 = .inl (0, 3) := rfl
theorem kT_0 : layT 0 = .inr (6, [none, none, none, some 1, some 2, some 11, some 26, some 30]) := rfl
theorem kT_1 : layT 1 = .inl (0, 6) := rfl
theorem kT_2 : layT 2 = .inr (4, [none, some 3, some 4, some 5, some 6, some 7, some 8, some 9, some 10]) := rfl
theorem kT_3 : layT 3 = .inl (0, 20) := rfl
theorem kT_4 : layT 4 = .inl (0, 20) := rfl
theorem kT_5 : layT 5 = .inl (0, 20) := rfl
theorem kT_6 : layT 6 = .inl (0, 20) := rfl
theorem kT_7 : layT 7 = .inl (0, 20) := rfl
theorem kT_8 : layT 8 = .inl (0, 20) := rfl
theorem kT_9 : layT 9 = .inl (0, 20) := rfl
theorem kT_10 : layT 10 = .inl (0, 20) := rfl
theorem kT_11 : layT 11 = .inr (2, [none, some 12, some 13, some 14, some 15, some 16, some 17, some 18, some 19, some 20, some 21, some 22, some 23, some 24, some 25]) := rfl
theorem kT_12 : layT 12 = .inl (0, 24) := rfl
theorem kT_13 : layT 13 = .inl (0, 24) := rfl
theorem kT_14 : layT 14 = .inl (0, 24) := rfl
theorem kT_15 : layT 15 = .inl (0, 24) := rfl
theorem kT_16 : layT 16 = .inl (0, 24) := rfl
theorem kT_17 : layT 17 = .inl (0, 24) := rfl
theorem kT_18 : layT 18 = .inl (0, 24) := rfl
theorem kT_19 : layT 19 = .inl (0, 24) := rfl
theorem kT_20 : layT 20 = .inl (0, 24) := rfl
theorem kT_21 : layT 21 = .inl (0, 24) := rfl
theorem kT_22 : layT 22 = .inl (0, 24) := rfl
theorem kT_23 : layT 23 = .inl (0, 24) := rfl
theorem kT_24 : layT 24 = .inl (0, 24) := rfl
theorem kT_25 : layT 25 = .inl (0, 24) := rfl
theorem kT_26 : layT 26 = .inr (3, [none, some 27, some 28, some 29]) := rfl
theorem kT_27 : layT 27 = .inl (0, 30) := rfl
theorem kT_28 : layT 28 = .inl (0, 30) := rfl
theorem kT_29 : layT 29 = .inl (0, 30) := rfl
theorem kT_30 : layT 30 = .inr (0, [none, some 31, some 32, some 33, some 34, some 35, some 36, some 37]) := rfl
theorem kT_31 : layT 31 = .inl (0, 3) := rfl
theorem kT_32 : layT 32 = .inl (0, 3) := rfl
theorem kT_33 : layT 33 = .inl (0, 3) := rfl
theorem kT_34 : layT 34 = .inl (0, 3) := rfl
theorem kT_35 : layT 35 = .inl (0, 3) := rfl
theorem kT_36 : layT 36 = .inl (0, 3) := rfl
theorem kT_37 : layT 37 = .inl (0, 3) := rfl
theorem kTT_0 : layTT 0 = .inr (6, [none, none, none, some 1, some 2, some 11, some 26, some 30]) := rfl
theorem kTT_2 : layTT 2 = .inr (4, [none, some 3, some 4, some 5, some 6, some 7, some 8, some 9, some 10]) := rfl
theorem kTT_11 : layTT 11 = .inr (2, [none, some 12, some 13, some 14, some 15, some 16, some 17, some 18, some 19, some 20, some 21, some 22, some 23, some 24, some 25]) := rfl
theorem kTT_26 : layTT 26 = .inr (3, [none, some 27, some 28, some 29]) := rfl
theorem kTT_30 : layTT 30 = .inr (0, [none, some 31, some 32, some 33, some 34, some 35, some 36, some 37]) := rfl
theorem kTT_38 : layTT 38 = .inr (6, [none, none, none, some 39, some 40, some 49, some 64, some 68]) := rfl
theorem kTT_40 : layTT 40 = .inr (4, [none, some 41, some 42, some 43, some 44, some 45, some 46, some 47, some 48]) := rfl
theorem kTT_49 : layTT 49 = .inr (2, [none, some 50, some 51, some 52, some 53, some 54, some 55, some 56, some 57, some 58, some 59, some 60, some 61, some 62, some 63]) := rfl
theorem kTT_64 : layTT 64 = .inr (3, [none, some 65, some 66, some 67]) := rfl
theorem kTT_68 : layTT 68 = .inr (0, [none, some 69, some 70, some 71, some 72, some 73, some 74, some 75]) := rfl
theorem kTW_0 : layTW 0 = .inr (6, [none, none, none, some 1, some 2, some 11, some 26, some 30]) := rfl
theorem kTW_1 : layTW 1 = .inl (0, 6) := rfl
theorem kTW_2 : layTW 2 = .inr (4, [none, some 3, some 4, some 5, some 6, some 7, some 8, some 9, some 10]) := rfl
theorem kTW_3 : layTW 3 = .inl (0, 20) := rfl
theorem kTW_11 : layTW 11 = .inr (2, [none, some 12, some 13, some 14, some 15, some 16, some 17, some 18, some 19, some 20, some 21, some 22, some 23, some 24, some 25]) := rfl
theorem kTW_12 : layTW 12 = .inl (0, 24) := rfl
theorem kTW_13 : layTW 13 = .inl (0, 24) := rfl
theorem kTW_15 : layTW 15 = .inl (0, 24) := rfl
theorem kTW_25 : layTW 25 = .inl (0, 24) := rfl
theorem kTW_30 : layTW 30 = .inr (0, [none, some 31, some 32, some 33, some 34, some 35, some 36, some 37]) := rfl
theorem kTW_31 : layTW 31 = .inl (0, 3) := rfl
theorem kTW_32 : layTW 32 = .inl (0, 3) := rfl
theorem kTW_34 : layTW 34 = .inl (0, 3) := rfl
theorem kTW_35 : layTW 35 = .inl (0, 3) := rfl
theorem kTW_38 : layTW 38 = .inr (8, [none, none, none, none, none, some 39]) := rfl
theorem kTW_39 : layTW 39 = .inl (0, 20) := rfl
theorem kX_0 : layX 0 = .inr (1, [none, none, some 1]) := rfl
theorem kX_192 : layX 192 = .inr (6, [none, none, none, some 193, some 194, some 203, some 218, some 222]) := rfl
theorem kX_193 : layX 193 = .inl (0, 6) := rfl
theorem kX_194 : layX 194 = .inr (4, [none, some 195, some 196, some 197, some 198, some 199, some 200, some 201, some 202]) := rfl
theorem kX_195 : layX 195 = .inl (0, 20) := rfl
theorem kX_196 : layX 196 = .inl (0, 20) := rfl
theorem kX_197 : layX 197 = .inl (0, 20) := rfl
theorem kX_198 : layX 198 = .inl (0, 20) := rfl
theorem kX_200 : layX 200 = .inl (0, 20) := rfl
theorem kX_201 : layX 201 = .inl (0, 20) := rfl
theorem kX_203 : layX 203 = .inr (2, [none, some 204, some 205, some 206, some 207, some 208, some 209, some 210, some 211, some 212, some 213, some 214, some 215, some 216, some 217]) := rfl
theorem kX_204 : layX 204 = .inl (0, 24) := rfl
theorem kX_205 : layX 205 = .inl (0, 24) := rfl
theorem kX_206 : layX 206 = .inl (0, 24) := rfl
theorem kX_207 : layX 207 = .inl (0, 24) := rfl
theorem kX_208 : layX 208 = .inl (0, 24) := rfl
theorem kX_210 : layX 210 = .inl (0, 24) := rfl
theorem kX_211 : layX 211 = .inl (0, 24) := rfl
theorem kX_212 : layX 212 = .inl (0, 24) := rfl
theorem kX_213 : layX 213 = .inl (0, 24) := rfl
theorem kX_214 : layX 214 = .inl (0, 24) := rfl
theorem kX_215 : layX 215 = .inl (0, 24) := rfl
theorem kX_217 : layX 217 = .inl (0, 24) := rfl
theorem kX_218 : layX 218 = .inr (3, [none, some 219, some 220, some 221]) := rfl
theorem kX_219 : layX 219 = .inl (0, 30) := rfl
theorem kX_220 : layX 220 = .inl (0, 30) := rfl
theorem kX_221 : layX 221 = .inl (0, 30) := rfl
theorem kX_222 : layX 222 = .inr (0, [none, some 223, some 224, some 225, some 226, some 227, some 228, some 229]) := rfl
theorem kX_223 : layX 223 = .inl (0, 3) := rfl
theorem kX_224 : layX 224 = .inl (0, 3) := rfl
theorem kX_225 : layX 225 = .inl (0, 3) := rfl
theorem kX_226 : layX 226 = .inl (0, 3) := rfl
theorem kX_227 : layX 227 = .inl (0, 3) := rfl
theorem kX_228 : layX 228 = .inl (0, 3) := rfl
theorem kX_229 : layX 229 = .inl (0, 3) := rfl
theorem kX_230 : layX 230 = .inr (9, [some 192, some 0, some 231, some 233, some 236]) := rfl
theorem kX_231 : layX 231 = .inr (8, [none, none, none, none, none, some 232]) := rfl
theorem kX_233 : layX 233 = .inr (5, [none, some 234, none, none, some 235]) := rfl
theorem kX_236 : layX 236 = .inr (7, [some 237, none, none, none, none]) := rfl
theorem kX0_0 : layX0 0 = .inr (5, [none, some 1, none, none, some 2]) := rfl
theorem kX0_1 : layX0 1 = .inl (1, 60) := rfl
theorem kX0_2 : layX0 2 = .inl (0, 3) := rfl
theorem kXG_275 : layXG 275 = .inl (0, 12) := rfl
def layC (n0 n1 : Nat) : Nat → z_K := fun i => if i = 0 then .inl (0, n0) else .inl (0, n1)
def zi2 (a b : Nat) : Nat → Nat := fun k => if k = 0 then a else b
def zk2 (a b : Nat) : Nat → Nat := fun i => if i = a then 0 else if i = b then 1 else 2
theorem cut_T : z_cut layT 38 layT 38 (fun k => k) (fun k => k) true = true := by decide +kernel
theorem cut_TT : z_cut layTT 76 layTT 76 (fun k => k) (fun k => k) true = true := by decide +kernel
theorem cut_TW : z_cut layTW 40 layTW 40 (fun k => k) (fun k => k) true = true := by decide +kernel
theorem cut_X0 : z_cut layX0 3 layX0 3 (fun k => k) (fun k => k) true = true := by decide +kernel
theorem cut_R : z_cut layR 82 layR 82 (fun k => k) (fun k => k) true = true := by decide +kernel
theorem cut_H : z_cut layH 230 layH 230 (fun k => k) (fun k => k) true = true := by decide +kernel
theorem cut_X : z_cut layX 275 layX 275 (fun k => k) (fun k => k) true = true := by decide +kernel
theorem cut_XG : z_cut layXG 276 layXG 276 (fun k => k) (fun k => k) true = true := by decide +kernel
def zi_TW_T : Nat → Nat := fun k => k
def zk_TW_T : Nat → Nat := fun i => i
theorem cut_TW_T : z_cut layTW 40 layT 38 zi_TW_T zk_TW_T false = true := by decide +kernel
def zi_R_T : Nat → Nat := fun k => k + 1
def zk_R_T : Nat → Nat := fun i => if i = 0 then 38 else i - 1
theorem cut_R_T : z_cut layR 82 layT 38 zi_R_T zk_R_T false = true := by decide +kernel
def zi_R_TT : Nat → Nat := fun k => k + 1
def zk_R_TT : Nat → Nat := fun i => if i = 0 then 76 else i - 1
theorem cut_R_TT : z_cut layR 82 layTT 76 zi_R_TT zk_R_TT false = true := by decide +kernel
def zi_R_X0 : Nat → Nat := fun k => k + 77
def zk_R_X0 : Nat → Nat := fun i => if i < 77 then 3 else i - 77
theorem cut_R_X0 : z_cut layR 82 layX0 3 zi_R_X0 zk_R_X0 false = true := by decide +kernel
def zi_R_TW : Nat → Nat := fun k => if k < 38 then k + 1 else k + 42
def zk_R_TW : Nat → Nat := fun i => if i = 0 then 40 else if i < 39 then i - 1 else if i < 80 then 40 else i - 42
theorem cut_R_TW : z_cut layR 82 layTW 40 zi_R_TW zk_R_TW false = true := by decide +kernel
def zi_X_T : Nat → Nat := fun k => k + 192
def zk_X_T : Nat → Nat := fun i => if i < 192 then 38 else i - 192
theorem cut_X_T : z_cut layX 275 layT 38 zi_X_T zk_X_T false = true := by decide +kernel
def zi_X_TW : Nat → Nat := fun k => if k < 38 then k + 192 else k + 193
def zk_X_TW : Nat → Nat := fun i => if i < 192 then 40 else if i < 230 then i - 192 else if i = 231 then 38 else if i = 232 then 39 else 40
theorem cut_X_TW : z_cut layX 275 layTW 40 zi_X_TW zk_X_TW false = true := by decide +kernel
def zi_X_X0 : Nat → Nat := fun k => k + 233
def zk_X_X0 : Nat → Nat := fun i => if i < 233 then 3 else i - 233
theorem cut_X_X0 : z_cut layX 275 layX0 3 zi_X_X0 zk_X_X0 false = true := by decide +kernel
def zi_X_R : Nat → Nat := fun k => if k < 39 then k + 236 else if k < 77 then k + 153 else if k < 80 then k + 156 else k + 151
def zk_X_R : Nat → Nat := fun i => if i < 192 then 82 else if i < 230 then i - 153 else if i = 230 then 82 else if i < 233 then i - 151 else if i < 236 then i - 156 else i - 236
theorem cut_X_R : z_cut layX 275 layR 82 zi_X_R zk_X_R false = true := by decide +kernel
def zi_X_H : Nat → Nat := fun k => k
def zk_X_H : Nat → Nat := fun i => i
theorem cut_X_H : z_cut layX 275 layH 230 zi_X_H zk_X_H true = true := by decide +kernel
def zi_XG_X : Nat → Nat := fun k => k
def zk_XG_X : Nat → Nat := fun i => if i < 275 then i else 275
theorem cut_XG_X : z_cut layXG 276 layX 275 zi_XG_X zk_XG_X true = true := by decide +kernel
def zi_X_TT : Nat → Nat := fun k => if k < 38 then k + 192 else k + 199
def zk_X_TT : Nat → Nat := fun i => if i < 192 then 76 else if i < 230 then i - 192 else if i < 237 then 76 else i - 199
theorem cut_X_TT : z_cut layX 275 layTT 76 zi_X_TT zk_X_TT false = true := by decide +kernel
theorem cutC_TT_39_1 : z_cut layTT 76 (layC 6 6) 2 (zi2 39 1) (zk2 39 1) false = true := by decide +kernel
theorem cutC_TT_41_3 : z_cut layTT 76 (layC 20 20) 2 (zi2 41 3) (zk2 41 3) false = true := by decide +kernel
theorem cutC_TT_42_4 : z_cut layTT 76 (layC 20 20) 2 (zi2 42 4) (zk2 42 4) false = true := by decide +kernel
theorem cutC_TT_43_5 : z_cut layTT 76 (layC 20 20) 2 (zi2 43 5) (zk2 43 5) false = true := by decide +kernel
theorem cutC_TT_44_6 : z_cut layTT 76 (layC 20 20) 2 (zi2 44 6) (zk2 44 6) false = true := by decide +kernel
theorem cutC_TT_45_7 : z_cut layTT 76 (layC 20 20) 2 (zi2 45 7) (zk2 45 7) false = true := by decide +kernel
theorem cutC_TT_46_8 : z_cut layTT 76 (layC 20 20) 2 (zi2 46 8) (zk2 46 8) false = true := by decide +kernel
theorem cutC_TT_47_9 : z_cut layTT 76 (layC 20 20) 2 (zi2 47 9) (zk2 47 9) false = true := by decide +kernel
theorem cutC_TT_48_10 : z_cut layTT 76 (layC 20 20) 2 (zi2 48 10) (zk2 48 10) false = true := by decide +kernel
theorem cutC_TT_50_12 : z_cut layTT 76 (layC 24 24) 2 (zi2 50 12) (zk2 50 12) false = true := by decide +kernel
theorem cutC_TT_51_13 : z_cut layTT 76 (layC 24 24) 2 (zi2 51 13) (zk2 51 13) false = true := by decide +kernel
theorem cutC_TT_52_14 : z_cut layTT 76 (layC 24 24) 2 (zi2 52 14) (zk2 52 14) false = true := by decide +kernel
theorem cutC_TT_53_15 : z_cut layTT 76 (layC 24 24) 2 (zi2 53 15) (zk2 53 15) false = true := by decide +kernel
theorem cutC_TT_54_16 : z_cut layTT 76 (layC 24 24) 2 (zi2 54 16) (zk2 54 16) false = true := by decide +kernel
theorem cutC_TT_55_17 : z_cut layTT 76 (layC 24 24) 2 (zi2 55 17) (zk2 55 17) false = true := by decide +kernel
theorem cutC_TT_56_18 : z_cut layTT 76 (layC 24 24) 2 (zi2 56 18) (zk2 56 18) false = true := by decide +kernel
theorem cutC_TT_57_19 : z_cut layTT 76 (layC 24 24) 2 (zi2 57 19) (zk2 57 19) false = true := by decide +kernel
theorem cutC_TT_58_20 : z_cut layTT 76 (layC 24 24) 2 (zi2 58 20) (zk2 58 20) false = true := by decide +kernel
theorem cutC_TT_59_21 : z_cut layTT 76 (layC 24 24) 2 (zi2 59 21) (zk2 59 21) false = true := by decide +kernel
theorem cutC_TT_60_22 : z_cut layTT 76 (layC 24 24) 2 (zi2 60 22) (zk2 60 22) false = true := by decide +kernel
theorem cutC_TT_61_23 : z_cut layTT 76 (layC 24 24) 2 (zi2 61 23) (zk2 61 23) false = true := by decide +kernel
theorem cutC_TT_62_24 : z_cut layTT 76 (layC 24 24) 2 (zi2 62 24) (zk2 62 24) false = true := by decide +kernel
theorem cutC_TT_63_25 : z_cut layTT 76 (layC 24 24) 2 (zi2 63 25) (zk2 63 25) false = true := by decide +kernel
theorem cutC_TT_65_27 : z_cut layTT 76 (layC 30 30) 2 (zi2 65 27) (zk2 65 27) false = true := by decide +kernel
theorem cutC_TT_66_28 : z_cut layTT 76 (layC 30 30) 2 (zi2 66 28) (zk2 66 28) false = true := by decide +kernel
theorem cutC_TT_67_29 : z_cut layTT 76 (layC 30 30) 2 (zi2 67 29) (zk2 67 29) false = true := by decide +kernel
theorem cutC_TT_69_31 : z_cut layTT 76 (layC 3 3) 2 (zi2 69 31) (zk2 69 31) false = true := by decide +kernel
theorem cutC_TT_70_32 : z_cut layTT 76 (layC 3 3) 2 (zi2 70 32) (zk2 70 32) false = true := by decide +kernel
theorem cutC_TT_71_33 : z_cut layTT 76 (layC 3 3) 2 (zi2 71 33) (zk2 71 33) false = true := by decide +kernel
theorem cutC_TT_72_34 : z_cut layTT 76 (layC 3 3) 2 (zi2 72 34) (zk2 72 34) false = true := by decide +kernel
theorem cutC_TT_73_35 : z_cut layTT 76 (layC 3 3) 2 (zi2 73 35) (zk2 73 35) false = true := by decide +kernel
theorem cutC_TT_74_36 : z_cut layTT 76 (layC 3 3) 2 (zi2 74 36) (zk2 74 36) false = true := by decide +kernel
theorem cutC_TT_75_37 : z_cut layTT 76 (layC 3 3) 2 (zi2 75 37) (zk2 75 37) false = true := by decide +kernel
theorem z_hidXG : (true : Bool) = true → ∀ k : Nat, zi_XG_X k = k := fun _ _ => rfl
theorem z_hidH : (true : Bool) = true → ∀ k : Nat, zi_X_H k = k := fun _ _ => rfl
/-- switches -/
theorem z_ts0 (x : Int32) (lo : Int) : x.toInt < lo ∨ lo ≤ x.toInt := by omega
theorem z_ts {x v : Int32} {lo a : Int} (h : x.toInt < lo ∨ a ≤ x.toInt) (hv : ¬ x = v) (e : v.toInt = a) : x.toInt < lo ∨ a + 1 ≤ x.toInt := by
  have h2 : x.toInt ≠ a := fun h3 => hv (Int32.toInt_inj.mp (h3.trans e.symm))
  omega
theorem z_tsE {x : Int32} {lo hi b : Int} (h : x.toInt < lo ∨ b ≤ x.toInt) (e : b = hi + 1) : x.toInt < lo ∨ hi < x.toInt := by omega
section ZX
variable {E : z_En} {G : z_G} {A : Nat → Prop} {cc : ByteArray} {nL : Nat} {own : String} {R0 : Room} {lay : Nat → z_K} {N : Nat} {ad : Nat → Nat} {pc : Nat} {lv : List (Nat × Value)} {st : List Value} {σ : z_S}
theorem z_tableD (B : zB E G A cc nL own R0) {dflt lo hi : Int} {offs : Array Int} {len : Nat} {x : Int32} {tgt : Nat} (hd : decode cc pc = .ok (.tableswitch dflt lo hi offs, len)) (h : ∀ k : Int, lo ≤ k → k ≤ hi → x.toInt = k → offs[(k - lo).toNat]? = some dflt) (ht : (pc : Int) + dflt = (tgt : Int)) (kk : ZW E G A nL lay N ad tgt lv st σ) : ZW E G A nL lay N ad pc lv (.int x :: st) σ := by
  by_cases h1 : x.toInt < lo
  · exact z_tableOut B hd (Or.inl h1) ht kk
  · by_cases h2 : hi < x.toInt
    · exact z_tableOut B hd (Or.inr h2) ht kk
    · exact z_tableIn B hd rfl h1 h2 (h x.toInt (by omega) (by omega) rfl) ht kk
theorem z_ldcwi (B : zB E G A cc nL own R0) {index : Nat} {v : Int32} (hc : (Jvm.Cond.constant own index v) ∈ wsL_law) (hd : decode cc pc = .ok (.ldc_w index, 3)) (kk : ZW E G A nL lay N ad (pc + 3) lv (.int v :: st) σ) : ZW E G A nL lay N ad pc lv st σ := by
  obtain ⟨p, l, e, R, s, m, args, below, meth, c, Q, cz, sz⟩ := E
  obtain ⟨hx, hb, hml, hown, hts, hK, hA, hR, hcz, hsz⟩ := B
  intro H locs ls hP hD hS hl'
  exact lv_ldcw hx hb hown (hts _ hc) hd (kk H locs ls hP hD hS hl')
theorem z_ldcWF {p : Program} {l : Launch} {e : Env} {R : Room} {s : State} {m : MethodId} {args : Array Value} {below : List Frame} {meth : Method} {c : Code} {T : State} {locs : List Loc} {cells slots : Nat} (X : Stand p l e R s m args below meth c T locs cells slots) (hexec : p.tables.exec = Jvm.exec) {own : String} {index : Nat} {v : UInt32} (hown : s.vm.findClass own = some m.cls) (hconst : (Cond.constantFloat own index v).before args s = true) {g : JFrame} (hg : g.method = m) (hdg : decode c.code g.pc = .ok (.ldc_w index, 3)) :
    ∀ target, Steps p.tables e below (T.setTop { g with pc := g.pc + 3, stack := .float v :: g.stack }) target → Steps p.tables e below (T.setTop g) target := by
  obtain ⟨k, cf, hk, hcf, hcp⟩ := Cond.constantFloat_spec hown hconst
  obtain ⟨k', hk', he⟩ := X.warmed.alike.2.2 _ _ hk
  intro target hrest
  subst hg
  jvm_step X.here [hexec, hdg, ldc_w.wp_float (s := T) (f := g) X.here.top hk' (by rw [he]; exact hcf) hcp]
  exact hrest
theorem z_ldcwf (B : zB E G A cc nL own R0) {index : Nat} {v : UInt32} (hc : (Jvm.Cond.constantFloat own index v) ∈ wsL_law) (hd : decode cc pc = .ok (.ldc_w index, 3)) (kk : ZW E G A nL lay N ad (pc + 3) lv (.float v :: st) σ) : ZW E G A nL lay N ad pc lv st σ := by
  obtain ⟨p, l, e, R, s, m, args, below, meth, c, Q, cz, sz⟩ := E
  obtain ⟨hx, hb, hml, hown, hts, hK, hA, hR, hcz, hsz⟩ := B
  intro H locs ls hP hD hS hl2
  intro T hT X
  obtain ⟨t, a, b⟩ := kk H locs ls hP hD hS hl2 T hT X
  exact ⟨t, z_ldcWF X hx hown (hts _ hc) (g := F0 m pc ls st) rfl (by rw [hb]; exact hd) t a, b⟩
end ZX
def f_X9_copy (n0 n1 : Nat) (p2 : Int32) (σ : z_S) : Option z_S := z_ck (¬ p2 < 0 ∧ p2.toNatClampNeg ≤ n0 ∧ p2.toNatClampNeg ≤ n1) (some (fun a => if a = 1 then va_cpy (σ 0) (σ 1) 0 0 p2.toNatClampNeg else σ a))
set_option maxRecDepth 100000 in
theorem c_X9_copy (n0 n1 : Nat) (p2 : Int32) (σ σz : z_S) (h : f_X9_copy n0 n1 p2 σ = some σz) : zMet yX9_copy cX9_copy 3 none 1 18 (layC n0 n1) 2 (fun ad => [.ref (ad 0), .ref (ad 1), .int p2]) σ (z_QV (layC n0 n1) 2 σz) := by
  refine z_headV RX9 (by decide) rfl (fun _ => Nat.le_of_ble_eq_true rfl) (fun E G A ad hB hret => ?_)
  show ZW E G A 3 (layC n0 n1) 2 ad 0 [(0, .ref (ad 0)), (1, .ref (ad 1)), (2, .int p2)] [] σ
  obtain ⟨⟨h1, h2, h3⟩, h⟩ := z_ckE h
  refine z_aload_n hB 0 dX9_copy_0 rfl rfl ?_
  refine z_iconst hB dX9_copy_1 zcI_0 ?_
  refine z_aload_n hB 1 dX9_copy_2 rfl rfl ?_
  refine z_iconst hB dX9_copy_3 zcI_0 ?_
  refine z_iload_n hB 2 dX9_copy_4 rfl rfl ?_
  refine z_copyi hB 0 1 n0 n1 rfl (Nat.le_of_ble_eq_true rfl) rfl (Nat.le_of_ble_eq_true rfl) (index := 313) (wsL_c7 _ (List.mem_of_getElem? (i := 8) rfl)) (wsL_c7 _ (List.mem_of_getElem? (i := 9) rfl)) (wsL_c7 _ (List.mem_of_getElem? (i := 10) rfl)) (wsL_c7 _ (List.mem_of_getElem? (i := 11) rfl)) (Nat.le_of_ble_eq_true rfl) (by decide +kernel) dX9_copy_5 h1 h2 h3 ?_
  exact hret _ _ _ (Option.some.inj h) dX9_copy_8
theorem lay_XG_X : ∀ i, i < 275 → layXG i = layX i := by decide +kernel
set_option maxRecDepth 100000 in
theorem lay_X_ref : z_rf layX 275 = true := by decide +kernel
