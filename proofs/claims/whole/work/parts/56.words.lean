/-! the words of the law are words of the tables: chunk by chunk -/
set_option maxRecDepth 100000 in
theorem wiL_1 : ∀ w ∈ wsL_law_r1, w ∈ lw_tbl := fun w h => (goodIn_p wsL_law_r1 [74, 77] (by decide +kernel) (by decide +kernel) w h).1
set_option maxRecDepth 100000 in
theorem wiL_2 : ∀ w ∈ wsL_law_r2, w ∈ lw_tbl := fun w h => (goodIn_p wsL_law_r2 [82] (by decide +kernel) (by decide +kernel) w h).1
set_option maxRecDepth 100000 in
theorem wiL_3 : ∀ w ∈ wsL_law_r3, w ∈ lw_tbl := fun w h => (goodIn_p wsL_law_r3 [88, 136] (by decide +kernel) (by decide +kernel) w h).1
set_option maxRecDepth 100000 in
theorem wiL_4 : ∀ w ∈ wsL_law_r4, w ∈ lw_tbl := fun w h => (goodIn_p wsL_law_r4 [218, 242] (by decide +kernel) (by decide +kernel) w h).1
set_option maxRecDepth 100000 in
theorem wiL_5 : ∀ w ∈ wsL_law_r5, w ∈ lw_tbl := fun w h => (goodIn_p wsL_law_r5 [328, 348] (by decide +kernel) (by decide +kernel) w h).1
set_option maxRecDepth 100000 in
theorem wiL_6 : ∀ w ∈ wsL_law_r6, w ∈ lw_tbl := fun w h => (goodIn_p wsL_law_r6 [379, 407, 841] (by decide +kernel) (by decide +kernel) w h).1
set_option maxRecDepth 100000 in
theorem wiL_7 : ∀ w ∈ wsL_law_r7, w ∈ lw_tbl := fun w h => (goodIn_p wsL_law_r7 [451, 455, 459, 462] (by decide +kernel) (by decide +kernel) w h).1
set_option maxRecDepth 100000 in
theorem wiL_8 : ∀ w ∈ wsL_law_r8, w ∈ lw_tbl := fun w h => (goodIn_p wsL_law_r8 [469, 474, 479, 484, 489] (by decide +kernel) (by decide +kernel) w h).1
set_option maxRecDepth 100000 in
theorem wiL_9 : ∀ w ∈ wsL_law_r9, w ∈ lw_tbl := fun w h => (goodIn_p wsL_law_r9 [493, 496, 501, 505, 509, 513] (by decide +kernel) (by decide +kernel) w h).1
set_option maxRecDepth 100000 in
theorem wiL_10 : ∀ w ∈ wsL_law_r10, w ∈ lw_tbl := fun w h => (goodIn_p wsL_law_r10 [907, 911, 914, 918, 921, 925] (by decide +kernel) (by decide +kernel) w h).1
set_option maxRecDepth 100000 in
theorem wiL_11 : ∀ w ∈ wsL_law_r11, w ∈ lw_tbl := fun w h => (goodIn_p wsL_law_r11 [517, 521, 525, 529, 929, 933] (by decide +kernel) (by decide +kernel) w h).1
set_option maxRecDepth 100000 in
theorem wiL_12 : ∀ w ∈ wsL_law_r12, w ∈ lw_tbl := fun w h => (goodIn_p wsL_law_r12 [533, 537, 541, 937, 941] (by decide +kernel) (by decide +kernel) w h).1
set_option maxRecDepth 100000 in
theorem wiL_13 : ∀ w ∈ wsL_law_r13, w ∈ lw_tbl := fun w h => (goodIn_p wsL_law_r13 [945, 546, 550, 554, 949, 953] (by decide +kernel) (by decide +kernel) w h).1
set_option maxRecDepth 100000 in
theorem wiL_14 : ∀ w ∈ wsL_law_r14, w ∈ lw_tbl := fun w h => (goodIn_p wsL_law_r14 [558, 562, 566, 957, 961, 570] (by decide +kernel) (by decide +kernel) w h).1
set_option maxRecDepth 100000 in
theorem wiL_15 : ∀ w ∈ wsL_law_r15, w ∈ lw_tbl := fun w h => (goodIn_p wsL_law_r15 [574, 578, 583, 587, 965] (by decide +kernel) (by decide +kernel) w h).1
set_option maxRecDepth 100000 in
theorem wiL_16 : ∀ w ∈ wsL_law_r16, w ∈ lw_tbl := fun w h => (goodIn_p wsL_law_r16 [969, 973, 977, 981, 985, 989] (by decide +kernel) (by decide +kernel) w h).1
set_option maxRecDepth 100000 in
theorem wiL_17 : ∀ w ∈ wsL_law_r17, w ∈ lw_tbl := fun w h => (goodIn_p wsL_law_r17 [993, 591, 595, 997, 1001, 599] (by decide +kernel) (by decide +kernel) w h).1
set_option maxRecDepth 100000 in
theorem wiL_18 : ∀ w ∈ wsL_law_r18, w ∈ lw_tbl := fun w h => (goodIn_p wsL_law_r18 [603, 1005, 1009, 607, 611] (by decide +kernel) (by decide +kernel) w h).1
set_option maxRecDepth 100000 in
theorem wiL_19 : ∀ w ∈ wsL_law_r19, w ∈ lw_tbl := fun w h => (goodIn_p wsL_law_r19 [1013, 615, 619, 623] (by decide +kernel) (by decide +kernel) w h).1
set_option maxRecDepth 100000 in
theorem wiL_20 : ∀ w ∈ wsL_law_r20, w ∈ lw_tbl := fun w h => (goodIn_p wsL_law_r20 [627, 631, 634, 638, 642] (by decide +kernel) (by decide +kernel) w h).1
set_option maxRecDepth 100000 in
theorem wiL_21 : ∀ w ∈ wsL_law_r21, w ∈ lw_tbl := fun w h => (goodIn_p wsL_law_r21 [646, 650, 654, 658] (by decide +kernel) (by decide +kernel) w h).1
set_option maxRecDepth 100000 in
theorem wiL_22 : ∀ w ∈ wsL_law_r22, w ∈ lw_tbl := fun w h => (goodIn_p wsL_law_r22 [665, 669, 673, 677] (by decide +kernel) (by decide +kernel) w h).1
set_option maxRecDepth 100000 in
theorem wiL_23 : ∀ w ∈ wsL_law_r23, w ∈ lw_tbl := fun w h => (goodIn_p wsL_law_r23 [681, 1017, 1021, 1025, 1029, 1033] (by decide +kernel) (by decide +kernel) w h).1
set_option maxRecDepth 100000 in
theorem wiL_24 : ∀ w ∈ wsL_law_r24, w ∈ lw_tbl := fun w h => (goodIn_p wsL_law_r24 [1037, 1041, 1045, 1049, 1053] (by decide +kernel) (by decide +kernel) w h).1
set_option maxRecDepth 100000 in
theorem wiL_25 : ∀ w ∈ wsL_law_r25, w ∈ lw_tbl := fun w h => (goodIn_p wsL_law_r25 [1057, 1061, 1065, 1069, 1073, 685] (by decide +kernel) (by decide +kernel) w h).1
set_option maxRecDepth 100000 in
theorem wiL_26 : ∀ w ∈ wsL_law_r26, w ∈ lw_tbl := fun w h => (goodIn_p wsL_law_r26 [691, 695, 1077, 1081] (by decide +kernel) (by decide +kernel) w h).1
set_option maxRecDepth 100000 in
theorem wiL_27 : ∀ w ∈ wsL_law_r27, w ∈ lw_tbl := fun w h => (goodIn_p wsL_law_r27 [1085, 699] (by decide +kernel) (by decide +kernel) w h).1
set_option maxRecDepth 100000 in
theorem wiL_28 : ∀ w ∈ wsL_law_r28, w ∈ lw_tbl := fun w h => (goodIn_p wsL_law_r28 [1089, 705, 709, 713, 717] (by decide +kernel) (by decide +kernel) w h).1
set_option maxRecDepth 100000 in
theorem wiL_29 : ∀ w ∈ wsL_law_r29, w ∈ lw_tbl := fun w h => (goodIn_p wsL_law_r29 [1093, 1097, 1101, 1104, 723, 1109] (by decide +kernel) (by decide +kernel) w h).1
set_option maxRecDepth 100000 in
theorem wiL_30 : ∀ w ∈ wsL_law_r30, w ∈ lw_tbl := fun w h => (goodIn_p wsL_law_r30 [727, 1113, 733] (by decide +kernel) (by decide +kernel) w h).1
set_option maxRecDepth 100000 in
theorem wiL_31 : ∀ w ∈ wsL_law_r31, w ∈ lw_tbl := fun w h => (goodIn_p wsL_law_r31 [1117, 737, 1121, 741] (by decide +kernel) (by decide +kernel) w h).1
set_option maxRecDepth 100000 in
theorem wiL_32 : ∀ w ∈ wsL_law_r32, w ∈ lw_tbl := fun w h => (goodIn_p wsL_law_r32 [1125, 746, 751, 1129, 1133] (by decide +kernel) (by decide +kernel) w h).1
set_option maxRecDepth 100000 in
theorem wiL_33 : ∀ w ∈ wsL_law_r33, w ∈ lw_tbl := fun w h => (goodIn_p wsL_law_r33 [756, 1137, 761, 1141, 1145, 765] (by decide +kernel) (by decide +kernel) w h).1
set_option maxRecDepth 100000 in
theorem wiL_34 : ∀ w ∈ wsL_law_r34, w ∈ lw_tbl := fun w h => (goodIn_p wsL_law_r34 [769, 773, 777, 1149] (by decide +kernel) (by decide +kernel) w h).1
set_option maxRecDepth 100000 in
theorem wiL_35 : ∀ w ∈ wsL_law_r35, w ∈ lw_tbl := fun w h => (goodIn_p wsL_law_r35 [1153, 1157, 781, 785, 1161, 789] (by decide +kernel) (by decide +kernel) w h).1
set_option maxRecDepth 100000 in
theorem wiL_36 : ∀ w ∈ wsL_law_r36, w ∈ lw_tbl := fun w h => (goodIn_p wsL_law_r36 [793, 1165, 797, 1169, 801, 805] (by decide +kernel) (by decide +kernel) w h).1
set_option maxRecDepth 100000 in
theorem wiL_37 : ∀ w ∈ wsL_law_r37, w ∈ lw_tbl := fun w h => (goodIn_p wsL_law_r37 [810, 814, 818, 822, 826] (by decide +kernel) (by decide +kernel) w h).1
set_option maxRecDepth 100000 in
theorem wiL_38 : ∀ w ∈ wsL_law_r38, w ∈ lw_tbl := fun w h => (goodIn_p wsL_law_r38 [1173, 1177, 1181] (by decide +kernel) (by decide +kernel) w h).1
set_option maxRecDepth 100000 in
theorem wiL_39 : ∀ w ∈ wsL_law_r39, w ∈ lw_tbl := fun w h => (goodIn_p wsL_law_r39 [1185, 1189, 1193, 1197, 835] (by decide +kernel) (by decide +kernel) w h).1
set_option maxRecDepth 100000 in
theorem wiL_40 : ∀ w ∈ wsL_law_r40, w ∈ lw_tbl := fun w h => (goodIn_p wsL_law_r40 [1201] (by decide +kernel) (by decide +kernel) w h).1
set_option maxRecDepth 100000 in
theorem wiX_0 : ∀ w ∈ wsX00, w ∈ lw_tbl := by decide +kernel
set_option maxRecDepth 100000 in
theorem wiX_1 : ∀ w ∈ wsX10, w ∈ lw_tbl := by decide +kernel
set_option maxRecDepth 100000 in
theorem wiX_2 : ∀ w ∈ wsX20, w ∈ lw_tbl := by decide +kernel
set_option maxRecDepth 100000 in
theorem wiX_3 : ∀ w ∈ wsX30, w ∈ lw_tbl := by decide +kernel
set_option maxRecDepth 100000 in
theorem wiX_4 : ∀ w ∈ wsX40, w ∈ lw_tbl := by decide +kernel
set_option maxRecDepth 100000 in
theorem wiX_5 : ∀ w ∈ wsX50, w ∈ lw_tbl := by decide +kernel
set_option maxRecDepth 100000 in
theorem wiX_6 : ∀ w ∈ wsX60, w ∈ lw_tbl := by decide +kernel
set_option maxRecDepth 100000 in
theorem wiX_7 : ∀ w ∈ wsX70, w ∈ lw_tbl := by decide +kernel
set_option maxRecDepth 100000 in
theorem wiX_8 : ∀ w ∈ wsX80, w ∈ lw_tbl := by decide +kernel
set_option maxRecDepth 100000 in
theorem wiX_9 : ∀ w ∈ wsX90, w ∈ lw_tbl := by decide +kernel
set_option maxRecDepth 100000 in
theorem wiX_10 : ∀ w ∈ wsX100, w ∈ lw_tbl := by decide +kernel
theorem wsL_in : ∀ w ∈ wsL_law, w ∈ lw_tbl := List.forall_mem_append.mpr ⟨List.forall_mem_append.mpr ⟨List.forall_mem_append.mpr ⟨List.forall_mem_append.mpr ⟨List.forall_mem_append.mpr ⟨List.forall_mem_append.mpr ⟨List.forall_mem_append.mpr ⟨List.forall_mem_append.mpr ⟨List.forall_mem_append.mpr ⟨List.forall_mem_append.mpr ⟨List.forall_mem_append.mpr ⟨List.forall_mem_append.mpr ⟨List.forall_mem_append.mpr ⟨wiL_1, List.forall_mem_append.mpr ⟨wiL_2, List.forall_mem_append.mpr ⟨wiL_3, List.forall_mem_append.mpr ⟨wiL_4, List.forall_mem_append.mpr ⟨wiL_5, List.forall_mem_append.mpr ⟨wiL_6, List.forall_mem_append.mpr ⟨wiL_7, List.forall_mem_append.mpr ⟨wiL_8, List.forall_mem_append.mpr ⟨wiL_9, List.forall_mem_append.mpr ⟨wiL_10, List.forall_mem_append.mpr ⟨wiL_11, List.forall_mem_append.mpr ⟨wiL_12, List.forall_mem_append.mpr ⟨wiL_13, List.forall_mem_append.mpr ⟨wiL_14, List.forall_mem_append.mpr ⟨wiL_15, List.forall_mem_append.mpr ⟨wiL_16, List.forall_mem_append.mpr ⟨wiL_17, List.forall_mem_append.mpr ⟨wiL_18, List.forall_mem_append.mpr ⟨wiL_19, List.forall_mem_append.mpr ⟨wiL_20, List.forall_mem_append.mpr ⟨wiL_21, List.forall_mem_append.mpr ⟨wiL_22, List.forall_mem_append.mpr ⟨wiL_23, List.forall_mem_append.mpr ⟨wiL_24, List.forall_mem_append.mpr ⟨wiL_25, List.forall_mem_append.mpr ⟨wiL_26, List.forall_mem_append.mpr ⟨wiL_27, List.forall_mem_append.mpr ⟨wiL_28, List.forall_mem_append.mpr ⟨wiL_29, List.forall_mem_append.mpr ⟨wiL_30, List.forall_mem_append.mpr ⟨wiL_31, List.forall_mem_append.mpr ⟨wiL_32, List.forall_mem_append.mpr ⟨wiL_33, List.forall_mem_append.mpr ⟨wiL_34, List.forall_mem_append.mpr ⟨wiL_35, List.forall_mem_append.mpr ⟨wiL_36, List.forall_mem_append.mpr ⟨wiL_37, List.forall_mem_append.mpr ⟨wiL_38, List.forall_mem_append.mpr ⟨wiL_39, wiL_40⟩⟩⟩⟩⟩⟩⟩⟩⟩⟩⟩⟩⟩⟩⟩⟩⟩⟩⟩⟩⟩⟩⟩⟩⟩⟩⟩⟩⟩⟩⟩⟩⟩⟩⟩⟩⟩⟩⟩, wiX_9⟩, wiX_10⟩, wiX_6⟩, wiX_1⟩, wiX_8⟩, wiX_5⟩, wiX_7⟩, wiX_4⟩, wiX_2⟩, wiX_3⟩, wiX_0⟩, fun _ h => absurd h List.not_mem_nil⟩
set_option maxRecDepth 100000 in
theorem nest_in : ∀ q ∈ z_nest, Cond.methodLinkNest q.1 q.2.1 q.2.2.1 q.2.2.2 ∈ lw_tbl := by decide +kernel
set_option maxRecDepth 100000 in
theorem over_in : Cond.arrayOver (.object "PaperRounds$Town") ∈ lw_tbl := by decide +kernel
