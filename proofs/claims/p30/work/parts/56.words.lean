/-! the words of the law are words of the tables: chunk by chunk, by places (wip/whole/gen/wordgen.py) -/
theorem mem_pl {big ws : List Cond} (ps : List Nat) (hp : ws = ps.filterMap (fun i => big[i]?)) : ∀ w ∈ ws, w ∈ big := by
  intro w hw
  rw [hp] at hw
  obtain ⟨i, -, hi⟩ := List.mem_filterMap.mp hw
  exact List.mem_of_getElem? hi
set_option maxRecDepth 100000 in
theorem wiL_1 : ∀ w ∈ wsL_law_r1, w ∈ lw_tbl := mem_pl [24, 25, 13, 26, 27, 28, 29, 30, 31, 32, 33, 14, 386, 278, 279, 19, 387, 298, 299, 20, 388, 329, 330, 21] (by decide +kernel)
set_option maxRecDepth 100000 in
theorem wiL_2 : ∀ w ∈ wsL_law_r2, w ∈ lw_tbl := mem_pl [389, 357, 358, 22, 390, 35, 36, 37, 241, 243, 245, 85, 247, 38, 39, 15, 249, 86, 87, 16, 252, 168, 169, 17] (by decide +kernel)
set_option maxRecDepth 100000 in
theorem wiL_3 : ∀ w ∈ wsL_law_r3, w ∈ lw_tbl := mem_pl [255, 192, 193, 18, 258, 40, 41, 42, 43, 44, 49, 52, 54, 56, 58, 59, 61, 64, 89, 90, 91, 92, 96, 100] (by decide +kernel)
set_option maxRecDepth 100000 in
theorem wiL_4 : ∀ w ∈ wsL_law_r4, w ∈ lw_tbl := mem_pl [104, 106, 110, 113, 115, 118, 121, 124, 127, 129, 131, 133, 171, 172, 173, 174, 177, 179, 181, 195, 196, 197, 198, 201] (by decide +kernel)
set_option maxRecDepth 100000 in
theorem wiL_5 : ∀ w ∈ wsL_law_r5, w ∈ lw_tbl := mem_pl [205, 209, 212, 215, 218, 221, 280, 281, 282, 283, 287, 289, 284, 290, 301, 302, 303, 304, 307, 310, 312, 314, 315, 332] (by decide +kernel)
set_option maxRecDepth 100000 in
theorem wiL_6 : ∀ w ∈ wsL_law_r6, w ∈ lw_tbl := mem_pl [333, 334, 335, 356, 338, 339, 341, 343, 360, 361, 362, 363, 365, 367, 369, 371, 373, 633, 634, 635, 636, 288, 637, 638] (by decide +kernel)
set_option maxRecDepth 100000 in
theorem wiL_7 : ∀ w ∈ wsL_law_r7, w ∈ lw_tbl := mem_pl [639, 640, 410, 411, 412, 413, 415, 416, 417, 419, 418, 23, 420, 421, 422, 423, 425, 426, 427, 428, 430, 431, 432, 433] (by decide +kernel)
set_option maxRecDepth 100000 in
theorem wiL_8 : ∀ w ∈ wsL_law_r8, w ∈ lw_tbl := mem_pl [435, 436, 437, 438, 617, 618, 619, 620, 251, 48, 254, 95, 260, 200, 257, 176, 242, 337, 244, 246, 616, 519, 520, 521] (by decide +kernel)
set_option maxRecDepth 100000 in
theorem wiL_9 : ∀ w ∈ wsL_law_r9, w ∈ lw_tbl := mem_pl [621, 622, 623, 624, 94, 569, 546, 547, 548, 625, 626, 627, 628, 629, 630, 631, 632, 688, 689, 690, 691, 372, 366, 368] (by decide +kernel)
set_option maxRecDepth 100000 in
theorem wiL_10 : ∀ w ∈ wsL_law_r10, w ∈ lw_tbl := mem_pl [645, 646, 647, 648, 336, 340, 344, 342, 649, 650, 651, 652, 653, 449, 450, 655, 656, 657, 658, 660, 9, 661, 662, 664] (by decide +kernel)
set_option maxRecDepth 100000 in
theorem wiL_11 : ∀ w ∈ wsL_law_r11, w ∈ lw_tbl := mem_pl [10, 665, 666, 668, 11, 669, 670, 671, 672, 673, 175, 504, 505, 506, 507, 674, 675, 676, 677, 678, 501, 502, 503, 108] (by decide +kernel)
set_option maxRecDepth 100000 in
theorem wiL_12 : ∀ w ∈ wsL_law_r12, w ∈ lw_tbl := mem_pl [509, 510, 511, 512, 514, 515, 516, 517, 204, 63, 99, 518, 679, 680, 681, 682, 683, 684, 685, 686, 210, 687, 527, 528] (by decide +kernel)
set_option maxRecDepth 100000 in
theorem wiL_13 : ∀ w ∈ wsL_law_r13, w ∈ lw_tbl := mem_pl [529, 199, 213, 305, 216, 308, 530, 531, 532, 533, 253, 259, 206, 93, 134, 101, 107, 256, 250, 202, 97, 534, 536, 3] (by decide +kernel)
set_option maxRecDepth 100000 in
theorem wiL_14 : ∀ w ∈ wsL_law_r14, w ∈ lw_tbl := mem_pl [537, 538, 539, 540, 541, 542, 543, 544, 545, 549, 551, 4, 552, 46, 50, 553, 554, 555, 556, 557, 558, 559, 560, 561] (by decide +kernel)
set_option maxRecDepth 100000 in
theorem wiL_15 : ∀ w ∈ wsL_law_r15, w ∈ lw_tbl := mem_pl [563, 5, 564, 135, 102, 565, 567, 6, 568, 207, 570, 571, 572, 574, 7, 575, 120, 117, 132, 222, 126, 123, 576, 577] (by decide +kernel)
set_option maxRecDepth 100000 in
theorem wiL_16 : ∀ w ∈ wsL_law_r16, w ∈ lw_tbl := mem_pl [578, 579, 580, 582, 8, 583, 219, 584, 585, 586, 587, 588, 589, 590, 591, 406, 407, 408, 409, 692, 460, 462, 1, 463] (by decide +kernel)
set_option maxRecDepth 100000 in
theorem wiL_17 : ∀ w ∈ wsL_law_r17, w ∈ lw_tbl := mem_pl [464, 465, 466, 467, 641, 642, 643, 644, 370, 374, 615, 592, 593, 594, 595, 596, 597, 598, 599, 600, 601, 602, 603, 604] (by decide +kernel)
set_option maxRecDepth 100000 in
theorem wiL_18_0 : Cond.methodLink RX9 183 yX9_bitsOf ∈ lw_tbl := List.mem_of_getElem? (i := 605) (by decide +kernel)
set_option maxRecDepth 100000 in
theorem wiL_18_1 : Cond.static yX9_bitsOf ∈ lw_tbl := List.mem_of_getElem? (i := 606) (by decide +kernel)
set_option maxRecDepth 100000 in
theorem wiL_18_2 : Cond.code yX9_bitsOf cX9_bitsOf 4 (some .int) ∈ lw_tbl := List.mem_of_getElem? (i := 607) (by decide +kernel)
set_option maxRecDepth 100000 in
theorem wiL_18_3 : Cond.constantFloat RX9 311 (1258291200) ∈ lw_tbl := List.mem_of_getElem? (i := 608) (by decide +kernel)
set_option maxRecDepth 100000 in
theorem wiL_18_4 : Cond.constant RX9 312 (8388608) ∈ lw_tbl := List.mem_of_getElem? (i := 609) (by decide +kernel)
set_option maxRecDepth 100000 in
theorem wiL_18_5 : Cond.methodLink RX11 74 yX9_days ∈ lw_tbl := List.mem_of_getElem? (i := 522) (by decide +kernel)
set_option maxRecDepth 100000 in
theorem wiL_18_6 : Cond.instanceMethod yX9_days ∈ lw_tbl := List.mem_of_getElem? (i := 523) (by decide +kernel)
set_option maxRecDepth 100000 in
theorem wiL_18_7 : Cond.selects RX9 yX9_days yX9_days ∈ lw_tbl := List.mem_of_getElem? (i := 524) (by decide +kernel)
set_option maxRecDepth 100000 in
theorem wiL_18_8 : Cond.code yX9_days cX9_days 2 (some .int) ∈ lw_tbl := List.mem_of_getElem? (i := 525) (by decide +kernel)
set_option maxRecDepth 100000 in
theorem wiL_18_9 : Cond.methodLink RX9 82 yX6_letDaysGo ∈ lw_tbl := List.mem_of_getElem? (i := 526) (by decide +kernel)
set_option maxRecDepth 100000 in
theorem wiL_18_10 : Cond.methodLink RX11 108 yX11_fails ∈ lw_tbl := List.mem_of_getElem? (i := 741) (by decide +kernel)
set_option maxRecDepth 100000 in
theorem wiL_18_11 : Cond.static yX11_fails ∈ lw_tbl := List.mem_of_getElem? (i := 742) (by decide +kernel)
set_option maxRecDepth 100000 in
theorem wiL_18_12 : Cond.initialized RX11 ∈ lw_tbl := List.mem_of_getElem? (i := 12) (by decide +kernel)
set_option maxRecDepth 100000 in
theorem wiL_18_13 : Cond.code yX11_fails cX11_fails 9 (some .boolean) ∈ tables_1_4 := List.mem_of_getElem? (i := 11) rfl
set_option maxRecDepth 100000 in
theorem wiL_18_14 : Cond.methodLink RX11 39 yX11_mark ∈ lw_tbl := List.mem_of_getElem? (i := 701) (by decide +kernel)
set_option maxRecDepth 100000 in
theorem wiL_18_15 : Cond.static yX11_mark ∈ lw_tbl := List.mem_of_getElem? (i := 702) (by decide +kernel)
set_option maxRecDepth 100000 in
theorem wiL_18_16 : Cond.code yX11_mark cX11_mark 5 (some .long) ∈ tables_1_3 := List.mem_of_getElem? (i := 211) rfl
set_option maxRecDepth 100000 in
theorem wiL_18_17 : Cond.constantLong RX11 9 (31) ∈ lw_tbl := List.mem_of_getElem? (i := 704) (by decide +kernel)
set_option maxRecDepth 100000 in
theorem wiL_18_18 : Cond.methodLink RX11 17 yX9_account ∈ lw_tbl := List.mem_of_getElem? (i := 705) (by decide +kernel)
set_option maxRecDepth 100000 in
theorem wiL_18_19 : Cond.instanceMethod yX9_account ∈ lw_tbl := List.mem_of_getElem? (i := 706) (by decide +kernel)
set_option maxRecDepth 100000 in
theorem wiL_18_20 : Cond.selects RX9 yX9_account yX9_account ∈ lw_tbl := List.mem_of_getElem? (i := 707) (by decide +kernel)
set_option maxRecDepth 100000 in
theorem wiL_18_21 : Cond.code yX9_account cX9_account 2 (some .int) ∈ lw_tbl := List.mem_of_getElem? (i := 708) (by decide +kernel)
set_option maxRecDepth 100000 in
theorem wiL_18_22 : Cond.fieldLink RX9 256 "PaperRounds$Town" "accounts" "[I" ∈ lw_tbl := List.mem_of_getElem? (i := 248) (by decide +kernel)
set_option maxRecDepth 100000 in
theorem wiL_18_23 : Cond.methodLink RX11 20 yX9_cornerOf ∈ lw_tbl := List.mem_of_getElem? (i := 709) (by decide +kernel)
theorem wiL_18 : ∀ w ∈ wsL_law_r18, w ∈ lw_tbl := List.forall_mem_cons.mpr ⟨wiL_18_0, List.forall_mem_cons.mpr ⟨wiL_18_1, List.forall_mem_cons.mpr ⟨wiL_18_2, List.forall_mem_cons.mpr ⟨wiL_18_3, List.forall_mem_cons.mpr ⟨wiL_18_4, List.forall_mem_cons.mpr ⟨wiL_18_5, List.forall_mem_cons.mpr ⟨wiL_18_6, List.forall_mem_cons.mpr ⟨wiL_18_7, List.forall_mem_cons.mpr ⟨wiL_18_8, List.forall_mem_cons.mpr ⟨wiL_18_9, List.forall_mem_cons.mpr ⟨wiL_18_10, List.forall_mem_cons.mpr ⟨wiL_18_11, List.forall_mem_cons.mpr ⟨wiL_18_12, List.forall_mem_cons.mpr ⟨List.mem_append_right _ (List.mem_append_right _ (List.mem_append_right _ (List.mem_append_right _ wiL_18_13))), List.forall_mem_cons.mpr ⟨wiL_18_14, List.forall_mem_cons.mpr ⟨wiL_18_15, List.forall_mem_cons.mpr ⟨List.mem_append_right _ (List.mem_append_right _ (List.mem_append_right _ (List.mem_append_left _ wiL_18_16))), List.forall_mem_cons.mpr ⟨wiL_18_17, List.forall_mem_cons.mpr ⟨wiL_18_18, List.forall_mem_cons.mpr ⟨wiL_18_19, List.forall_mem_cons.mpr ⟨wiL_18_20, List.forall_mem_cons.mpr ⟨wiL_18_21, List.forall_mem_cons.mpr ⟨wiL_18_22, List.forall_mem_cons.mpr ⟨wiL_18_23, fun _ h => absurd h List.not_mem_nil⟩⟩⟩⟩⟩⟩⟩⟩⟩⟩⟩⟩⟩⟩⟩⟩⟩⟩⟩⟩⟩⟩⟩⟩
set_option maxRecDepth 100000 in
theorem wiL_19 : ∀ w ∈ wsL_law_r19, w ∈ lw_tbl := mem_pl [710, 711, 712, 51, 53, 55, 57, 60, 62, 713, 445, 446, 447, 714, 715, 716, 717, 718, 719, 720, 721, 722, 723, 724] (by decide +kernel)
set_option maxRecDepth 100000 in
theorem wiL_20 : ∀ w ∈ wsL_law_r20, w ∈ lw_tbl := mem_pl [725, 98, 103, 105, 109, 112, 116, 119, 122, 125, 128, 130, 726, 727, 728, 729, 730, 731, 732, 733, 734, 735, 736, 610] (by decide +kernel)
set_option maxRecDepth 100000 in
theorem wiL_21 : ∀ w ∈ wsL_law_r21, w ∈ lw_tbl := mem_pl [611, 612, 613, 203, 208, 211, 214, 217, 220, 223, 614, 737, 738, 739, 740, 178, 180, 182, 402, 403, 404, 405, 440, 441] (by decide +kernel)
set_option maxRecDepth 100000 in
theorem wiL_22 : ∀ w ∈ wsL_law_r22, w ∈ lw_tbl := mem_pl [442, 443, 45, 444, 452, 453, 454, 455, 456, 458, 0, 459, 468, 469, 470, 471, 472, 473, 474, 475, 476, 477, 478, 479] (by decide +kernel)
set_option maxRecDepth 100000 in
theorem wiL_23 : ∀ w ∈ wsL_law_r23, w ∈ lw_tbl := mem_pl [480, 482, 2, 483, 47, 65, 744, 745, 746, 747, 748, 749, 750, 751, 111, 114, 752, 753, 754, 755, 756, 484, 485, 486] (by decide +kernel)
set_option maxRecDepth 100000 in
theorem wiL_24 : ∀ w ∈ wsL_law_r24, w ∈ lw_tbl := mem_pl [487, 488, 489, 490, 491, 492, 493, 494, 495, 496, 497, 498, 499, 500, 757, 758, 759, 760, 761, 762, 763, 764, 765, 766] (by decide +kernel)
set_option maxRecDepth 100000 in
theorem wiL_25 : ∀ w ∈ wsL_law_r25, w ∈ lw_tbl := mem_pl [767, 768, 769, 770, 771, 772, 773, 774, 775, 776, 777, 778, 136, 779, 780, 781, 782, 306, 309, 311, 313, 783, 784, 785] (by decide +kernel)
set_option maxRecDepth 100000 in
theorem wiL_26_0 : Cond.selects RX9 yX9_lightest yX9_lightest ∈ lw_tbl := List.mem_of_getElem? (i := 786) (by decide +kernel)
set_option maxRecDepth 100000 in
theorem wiL_26_1 : Cond.code yX9_lightest cX9_lightest 7 (some .int) ∈ lw_tbl := List.mem_of_getElem? (i := 787) (by decide +kernel)
set_option maxRecDepth 100000 in
theorem wiL_26_2 : Cond.methodLink RX9 246 yX6_canReach ∈ lw_tbl := List.mem_of_getElem? (i := 788) (by decide +kernel)
set_option maxRecDepth 100000 in
theorem wiL_26_3 : Cond.methodLink RX9 249 yX8_moreEffort ∈ lw_tbl := List.mem_of_getElem? (i := 789) (by decide +kernel)
set_option maxRecDepth 100000 in
theorem wiL_26_4 : Cond.instanceMethod yX8_moreEffort ∈ lw_tbl := List.mem_of_getElem? (i := 790) (by decide +kernel)
set_option maxRecDepth 100000 in
theorem wiL_26_5 : Cond.selects RX8 yX8_moreEffort yX8_moreEffort ∈ lw_tbl := List.mem_of_getElem? (i := 791) (by decide +kernel)
set_option maxRecDepth 100000 in
theorem wiL_26_6 : Cond.code yX8_moreEffort cX8_moreEffort 6 (some .int) ∈ lw_tbl := List.mem_of_getElem? (i := 792) (by decide +kernel)
set_option maxRecDepth 100000 in
theorem wiL_26_7 : Cond.methodLink RX8 103 yX8_go ∈ lw_tbl := List.mem_of_getElem? (i := 793) (by decide +kernel)
set_option maxRecDepth 100000 in
theorem wiL_26_8 : Cond.methodLink RX11 86 yX9_type ∈ lw_tbl := List.mem_of_getElem? (i := 794) (by decide +kernel)
set_option maxRecDepth 100000 in
theorem wiL_26_9 : Cond.instanceMethod yX9_type ∈ lw_tbl := List.mem_of_getElem? (i := 795) (by decide +kernel)
set_option maxRecDepth 100000 in
theorem wiL_26_10 : Cond.selects RX9 yX9_type yX9_type ∈ lw_tbl := List.mem_of_getElem? (i := 796) (by decide +kernel)
set_option maxRecDepth 100000 in
theorem wiL_26_11 : Cond.code yX9_type cX9_type 2 (some .int) ∈ lw_tbl := List.mem_of_getElem? (i := 797) (by decide +kernel)
set_option maxRecDepth 100000 in
theorem wiL_26_12 : Cond.methodLink RX9 284 yX5_append ∈ lw_tbl := List.mem_of_getElem? (i := 798) (by decide +kernel)
set_option maxRecDepth 100000 in
theorem wiL_26_13 : Cond.instanceMethod yX5_append ∈ lw_tbl := List.mem_of_getElem? (i := 799) (by decide +kernel)
set_option maxRecDepth 100000 in
theorem wiL_26_14 : Cond.selects RX5 yX5_append yX5_append ∈ lw_tbl := List.mem_of_getElem? (i := 800) (by decide +kernel)
set_option maxRecDepth 100000 in
theorem wiL_26_15 : Cond.code yX5_append cX5_append 2 (some .int) ∈ lw_tbl := List.mem_of_getElem? (i := 801) (by decide +kernel)
set_option maxRecDepth 100000 in
theorem wiL_26_16 : Cond.methodLink RX11 112 yX11_cell ∈ lw_tbl := List.mem_of_getElem? (i := 693) (by decide +kernel)
set_option maxRecDepth 100000 in
theorem wiL_26_17 : Cond.static yX11_cell ∈ lw_tbl := List.mem_of_getElem? (i := 694) (by decide +kernel)
set_option maxRecDepth 100000 in
theorem wiL_26_18 : Cond.code yX11_cell cX11_cell 2 (some .int) ∈ tables_1_3 := List.mem_of_getElem? (i := 203) rfl
set_option maxRecDepth 100000 in
theorem wiL_26_19 : Cond.constant RX11 7 (763049417) ∈ lw_tbl := List.mem_of_getElem? (i := 696) (by decide +kernel)
set_option maxRecDepth 100000 in
theorem wiL_26_20 : Cond.methodLink RX11 98 yX11_up ∈ lw_tbl := List.mem_of_getElem? (i := 697) (by decide +kernel)
set_option maxRecDepth 100000 in
theorem wiL_26_21 : Cond.static yX11_up ∈ lw_tbl := List.mem_of_getElem? (i := 698) (by decide +kernel)
set_option maxRecDepth 100000 in
theorem wiL_26_22 : Cond.code yX11_up cX11_up 2 (some .int) ∈ tables_1_3 := List.mem_of_getElem? (i := 207) rfl
set_option maxRecDepth 100000 in
theorem wiL_26_23 : Cond.constant RX11 8 (2147483647) ∈ lw_tbl := List.mem_of_getElem? (i := 700) (by decide +kernel)
theorem wiL_26 : ∀ w ∈ wsL_law_r26, w ∈ lw_tbl := List.forall_mem_cons.mpr ⟨wiL_26_0, List.forall_mem_cons.mpr ⟨wiL_26_1, List.forall_mem_cons.mpr ⟨wiL_26_2, List.forall_mem_cons.mpr ⟨wiL_26_3, List.forall_mem_cons.mpr ⟨wiL_26_4, List.forall_mem_cons.mpr ⟨wiL_26_5, List.forall_mem_cons.mpr ⟨wiL_26_6, List.forall_mem_cons.mpr ⟨wiL_26_7, List.forall_mem_cons.mpr ⟨wiL_26_8, List.forall_mem_cons.mpr ⟨wiL_26_9, List.forall_mem_cons.mpr ⟨wiL_26_10, List.forall_mem_cons.mpr ⟨wiL_26_11, List.forall_mem_cons.mpr ⟨wiL_26_12, List.forall_mem_cons.mpr ⟨wiL_26_13, List.forall_mem_cons.mpr ⟨wiL_26_14, List.forall_mem_cons.mpr ⟨wiL_26_15, List.forall_mem_cons.mpr ⟨wiL_26_16, List.forall_mem_cons.mpr ⟨wiL_26_17, List.forall_mem_cons.mpr ⟨List.mem_append_right _ (List.mem_append_right _ (List.mem_append_right _ (List.mem_append_left _ wiL_26_18))), List.forall_mem_cons.mpr ⟨wiL_26_19, List.forall_mem_cons.mpr ⟨wiL_26_20, List.forall_mem_cons.mpr ⟨wiL_26_21, List.forall_mem_cons.mpr ⟨List.mem_append_right _ (List.mem_append_right _ (List.mem_append_right _ (List.mem_append_left _ wiL_26_22))), List.forall_mem_cons.mpr ⟨wiL_26_23, fun _ h => absurd h List.not_mem_nil⟩⟩⟩⟩⟩⟩⟩⟩⟩⟩⟩⟩⟩⟩⟩⟩⟩⟩⟩⟩⟩⟩⟩⟩
set_option maxRecDepth 100000 in
theorem wiL_27_0 : Cond.methodLink RX11 116 yX11_act ∈ lw_tbl := List.mem_of_getElem? (i := 819) (by decide +kernel)
set_option maxRecDepth 100000 in
theorem wiL_27_1 : Cond.static yX11_act ∈ lw_tbl := List.mem_of_getElem? (i := 820) (by decide +kernel)
set_option maxRecDepth 100000 in
theorem wiL_27_2 : Cond.code yX11_act cX11_act 5 (some .int) ∈ tables_1_4 := List.mem_of_getElem? (i := 89) rfl
set_option maxRecDepth 100000 in
theorem wiL_27_3 : Cond.methodLink RX11 120 yX11_bundle ∈ lw_tbl := List.mem_of_getElem? (i := 822) (by decide +kernel)
set_option maxRecDepth 100000 in
theorem wiL_27_4 : Cond.static yX11_bundle ∈ lw_tbl := List.mem_of_getElem? (i := 823) (by decide +kernel)
set_option maxRecDepth 100000 in
theorem wiL_27_5 : Cond.code yX11_bundle cX11_bundle 3 (some .int) ∈ tables_1_4 := List.mem_of_getElem? (i := 92) rfl
set_option maxRecDepth 100000 in
theorem wiL_27_6 : Cond.methodLink RX11 124 yX11_goes ∈ lw_tbl := List.mem_of_getElem? (i := 813) (by decide +kernel)
set_option maxRecDepth 100000 in
theorem wiL_27_7 : Cond.static yX11_goes ∈ lw_tbl := List.mem_of_getElem? (i := 814) (by decide +kernel)
set_option maxRecDepth 100000 in
theorem wiL_27_8 : Cond.code yX11_goes cX11_goes 10 (some .boolean) ∈ tables_1_4 := List.mem_of_getElem? (i := 83) rfl
set_option maxRecDepth 100000 in
theorem wiL_27_9 : Cond.methodLink RX11 127 yX11_streets ∈ lw_tbl := List.mem_of_getElem? (i := 802) (by decide +kernel)
set_option maxRecDepth 100000 in
theorem wiL_27_10 : Cond.static yX11_streets ∈ lw_tbl := List.mem_of_getElem? (i := 803) (by decide +kernel)
set_option maxRecDepth 100000 in
theorem wiL_27_11 : Cond.code yX11_streets cX11_streets 3 (some .boolean) ∈ tables_1_4 := List.mem_of_getElem? (i := 72) rfl
set_option maxRecDepth 100000 in
theorem wiL_27_12 : Cond.methodLink RX11 130 yX11_papers ∈ lw_tbl := List.mem_of_getElem? (i := 805) (by decide +kernel)
set_option maxRecDepth 100000 in
theorem wiL_27_13 : Cond.static yX11_papers ∈ lw_tbl := List.mem_of_getElem? (i := 806) (by decide +kernel)
set_option maxRecDepth 100000 in
theorem wiL_27_14 : Cond.code yX11_papers cX11_papers 16 (some .boolean) ∈ tables_1_4 := List.mem_of_getElem? (i := 75) rfl
set_option maxRecDepth 100000 in
theorem wiL_27_15 : Cond.constant RX11 92 (1065353216) ∈ lw_tbl := List.mem_of_getElem? (i := 808) (by decide +kernel)
set_option maxRecDepth 100000 in
theorem wiL_27_16 : Cond.constant RX11 93 (1056964608) ∈ lw_tbl := List.mem_of_getElem? (i := 809) (by decide +kernel)
set_option maxRecDepth 100000 in
theorem wiL_27_17 : Cond.methodLink RX11 134 yX11_rounds ∈ lw_tbl := List.mem_of_getElem? (i := 810) (by decide +kernel)
set_option maxRecDepth 100000 in
theorem wiL_27_18 : Cond.static yX11_rounds ∈ lw_tbl := List.mem_of_getElem? (i := 811) (by decide +kernel)
set_option maxRecDepth 100000 in
theorem wiL_27_19 : Cond.code yX11_rounds cX11_rounds 12 (some .boolean) ∈ tables_1_4 := List.mem_of_getElem? (i := 80) rfl
set_option maxRecDepth 100000 in
theorem wiL_27_20 : Cond.methodLink RX11 137 yX11_lightest ∈ lw_tbl := List.mem_of_getElem? (i := 816) (by decide +kernel)
set_option maxRecDepth 100000 in
theorem wiL_27_21 : Cond.static yX11_lightest ∈ lw_tbl := List.mem_of_getElem? (i := 817) (by decide +kernel)
set_option maxRecDepth 100000 in
theorem wiL_27_22 : Cond.code yX11_lightest cX11_lightest 13 (some .boolean) ∈ tables_1_4 := List.mem_of_getElem? (i := 86) rfl
theorem wiL_27 : ∀ w ∈ wsL_law_r27, w ∈ lw_tbl := List.forall_mem_cons.mpr ⟨wiL_27_0, List.forall_mem_cons.mpr ⟨wiL_27_1, List.forall_mem_cons.mpr ⟨List.mem_append_right _ (List.mem_append_right _ (List.mem_append_right _ (List.mem_append_right _ wiL_27_2))), List.forall_mem_cons.mpr ⟨wiL_27_3, List.forall_mem_cons.mpr ⟨wiL_27_4, List.forall_mem_cons.mpr ⟨List.mem_append_right _ (List.mem_append_right _ (List.mem_append_right _ (List.mem_append_right _ wiL_27_5))), List.forall_mem_cons.mpr ⟨wiL_27_6, List.forall_mem_cons.mpr ⟨wiL_27_7, List.forall_mem_cons.mpr ⟨List.mem_append_right _ (List.mem_append_right _ (List.mem_append_right _ (List.mem_append_right _ wiL_27_8))), List.forall_mem_cons.mpr ⟨wiL_27_9, List.forall_mem_cons.mpr ⟨wiL_27_10, List.forall_mem_cons.mpr ⟨List.mem_append_right _ (List.mem_append_right _ (List.mem_append_right _ (List.mem_append_right _ wiL_27_11))), List.forall_mem_cons.mpr ⟨wiL_27_12, List.forall_mem_cons.mpr ⟨wiL_27_13, List.forall_mem_cons.mpr ⟨List.mem_append_right _ (List.mem_append_right _ (List.mem_append_right _ (List.mem_append_right _ wiL_27_14))), List.forall_mem_cons.mpr ⟨wiL_27_15, List.forall_mem_cons.mpr ⟨wiL_27_16, List.forall_mem_cons.mpr ⟨wiL_27_17, List.forall_mem_cons.mpr ⟨wiL_27_18, List.forall_mem_cons.mpr ⟨List.mem_append_right _ (List.mem_append_right _ (List.mem_append_right _ (List.mem_append_right _ wiL_27_19))), List.forall_mem_cons.mpr ⟨wiL_27_20, List.forall_mem_cons.mpr ⟨wiL_27_21, List.forall_mem_cons.mpr ⟨List.mem_append_right _ (List.mem_append_right _ (List.mem_append_right _ (List.mem_append_right _ wiL_27_22))), fun _ h => absurd h List.not_mem_nil⟩⟩⟩⟩⟩⟩⟩⟩⟩⟩⟩⟩⟩⟩⟩⟩⟩⟩⟩⟩⟩⟩⟩
set_option maxRecDepth 100000 in
theorem wiX_0 : ∀ w ∈ wsX00, w ∈ lw_tbl := mem_pl [224, 226, 228, 230, 232, 234, 236, 238] (by decide +kernel)
set_option maxRecDepth 100000 in
theorem wiX_1 : ∀ w ∈ wsX10, w ∈ lw_tbl := mem_pl [291, 293, 295] (by decide +kernel)
set_option maxRecDepth 100000 in
theorem wiX_2 : ∀ w ∈ wsX20, w ∈ lw_tbl := mem_pl [137, 139, 141, 143, 145, 147, 149, 151, 153, 155, 157, 159, 161, 163, 165] (by decide +kernel)
set_option maxRecDepth 100000 in
theorem wiX_3 : ∀ w ∈ wsX30, w ∈ lw_tbl := mem_pl [183, 185, 187, 189] (by decide +kernel)
set_option maxRecDepth 100000 in
theorem wiX_4 : ∀ w ∈ wsX40, w ∈ lw_tbl := mem_pl [66, 68, 70, 72, 74, 76, 78, 80, 82] (by decide +kernel)
set_option maxRecDepth 100000 in
theorem wiX_5 : ∀ w ∈ wsX50, w ∈ lw_tbl := mem_pl [345, 347, 349, 351, 353] (by decide +kernel)
set_option maxRecDepth 100000 in
theorem wiX_6 : ∀ w ∈ wsX60, w ∈ lw_tbl := mem_pl [261, 263, 265, 267, 269, 271, 273, 275] (by decide +kernel)
set_option maxRecDepth 100000 in
theorem wiX_7 : ∀ w ∈ wsX70, w ∈ lw_tbl := mem_pl [375, 377, 379, 381, 383] (by decide +kernel)
set_option maxRecDepth 100000 in
theorem wiX_8 : ∀ w ∈ wsX80, w ∈ lw_tbl := mem_pl [316, 318, 320, 322, 324, 326] (by decide +kernel)
set_option maxRecDepth 100000 in
theorem wiX_9 : ∀ w ∈ wsX90, w ∈ lw_tbl := mem_pl [391, 393, 395, 397, 399] (by decide +kernel)
theorem wsL_in : ∀ w ∈ wsL_law, w ∈ lw_tbl := List.forall_mem_append.mpr ⟨List.forall_mem_append.mpr ⟨List.forall_mem_append.mpr ⟨List.forall_mem_append.mpr ⟨List.forall_mem_append.mpr ⟨List.forall_mem_append.mpr ⟨List.forall_mem_append.mpr ⟨List.forall_mem_append.mpr ⟨List.forall_mem_append.mpr ⟨List.forall_mem_append.mpr ⟨List.forall_mem_append.mpr ⟨List.forall_mem_append.mpr ⟨wiL_1, List.forall_mem_append.mpr ⟨wiL_2, List.forall_mem_append.mpr ⟨wiL_3, List.forall_mem_append.mpr ⟨wiL_4, List.forall_mem_append.mpr ⟨wiL_5, List.forall_mem_append.mpr ⟨wiL_6, List.forall_mem_append.mpr ⟨wiL_7, List.forall_mem_append.mpr ⟨wiL_8, List.forall_mem_append.mpr ⟨wiL_9, List.forall_mem_append.mpr ⟨wiL_10, List.forall_mem_append.mpr ⟨wiL_11, List.forall_mem_append.mpr ⟨wiL_12, List.forall_mem_append.mpr ⟨wiL_13, List.forall_mem_append.mpr ⟨wiL_14, List.forall_mem_append.mpr ⟨wiL_15, List.forall_mem_append.mpr ⟨wiL_16, List.forall_mem_append.mpr ⟨wiL_17, List.forall_mem_append.mpr ⟨wiL_18, List.forall_mem_append.mpr ⟨wiL_19, List.forall_mem_append.mpr ⟨wiL_20, List.forall_mem_append.mpr ⟨wiL_21, List.forall_mem_append.mpr ⟨wiL_22, List.forall_mem_append.mpr ⟨wiL_23, List.forall_mem_append.mpr ⟨wiL_24, List.forall_mem_append.mpr ⟨wiL_25, List.forall_mem_append.mpr ⟨wiL_26, wiL_27⟩⟩⟩⟩⟩⟩⟩⟩⟩⟩⟩⟩⟩⟩⟩⟩⟩⟩⟩⟩⟩⟩⟩⟩⟩⟩, wiX_9⟩, wiX_6⟩, wiX_1⟩, wiX_8⟩, wiX_5⟩, wiX_7⟩, wiX_4⟩, wiX_2⟩, wiX_3⟩, wiX_0⟩, fun _ h => absurd h List.not_mem_nil⟩
set_option maxRecDepth 100000 in
theorem nest_inL : ∀ w ∈ z_nest.map (fun q => Cond.methodLinkNest q.1 q.2.1 q.2.2.1 q.2.2.2), w ∈ lw_tbl := mem_pl [34, 88, 170, 194, 286, 300, 331, 359, 364, 414, 424, 429, 434, 439, 448, 451, 508, 513, 654] (by decide +kernel)
theorem nest_in : ∀ q ∈ z_nest, Cond.methodLinkNest q.1 q.2.1 q.2.2.1 q.2.2.2 ∈ lw_tbl := fun q hq => nest_inL _ (List.mem_map.mpr ⟨q, hq, rfl⟩)
set_option maxRecDepth 100000 in
theorem over_in : Cond.arrayOver (.object "PaperRounds$Town") ∈ lw_tbl := List.mem_of_getElem? (i := 285) (by decide +kernel)
