/-! the words of the law are words of the tables: chunk by chunk, by places (wip/whole/gen/wordgen.py) -/
theorem mem_pl {big ws : List Cond} (ps : List Nat) (hp : ws = ps.filterMap (fun i => big[i]?)) : ∀ w ∈ ws, w ∈ big := by
  intro w hw
  rw [hp] at hw
  obtain ⟨i, -, hi⟩ := List.mem_filterMap.mp hw
  exact List.mem_of_getElem? hi
set_option maxRecDepth 100000 in
theorem wiL_1 : ∀ w ∈ wsL_law_r1, w ∈ lw_tbl := mem_pl [70, 71, 58, 837, 838, 68, 72, 73, 74, 75, 76, 77, 78, 79, 59, 432, 324, 325, 64, 433, 344, 345, 65, 434] (by decide +kernel)
set_option maxRecDepth 100000 in
theorem wiL_2 : ∀ w ∈ wsL_law_r2, w ∈ lw_tbl := mem_pl [375, 376, 66, 435, 403, 404, 67, 436, 81, 82, 83, 287, 289, 291, 131, 293, 84, 85, 60, 295, 132, 133, 61, 298] (by decide +kernel)
set_option maxRecDepth 100000 in
theorem wiL_3 : ∀ w ∈ wsL_law_r3, w ∈ lw_tbl := mem_pl [214, 215, 62, 301, 238, 239, 63, 304, 86, 87, 88, 89, 90, 95, 98, 100, 102, 104, 105, 107, 110, 135, 136, 137] (by decide +kernel)
set_option maxRecDepth 100000 in
theorem wiL_4 : ∀ w ∈ wsL_law_r4, w ∈ lw_tbl := mem_pl [138, 142, 146, 150, 152, 156, 159, 161, 164, 167, 170, 173, 175, 177, 179, 217, 218, 219, 220, 223, 225, 227, 241, 242] (by decide +kernel)
set_option maxRecDepth 100000 in
theorem wiL_5 : ∀ w ∈ wsL_law_r5, w ∈ lw_tbl := mem_pl [243, 244, 247, 251, 255, 258, 261, 264, 267, 326, 327, 328, 329, 333, 335, 330, 336, 347, 348, 349, 350, 353, 356, 358] (by decide +kernel)
set_option maxRecDepth 100000 in
theorem wiL_6 : ∀ w ∈ wsL_law_r6, w ∈ lw_tbl := mem_pl [360, 361, 378, 379, 380, 381, 402, 384, 385, 387, 389, 406, 407, 408, 409, 411, 413, 415, 417, 419, 839, 840, 841, 842] (by decide +kernel)
set_option maxRecDepth 100000 in
theorem wiL_7 : ∀ w ∈ wsL_law_r7, w ∈ lw_tbl := mem_pl [843, 844, 846, 847, 848, 850, 851, 856, 859, 448, 449, 450, 451, 452, 453, 454, 455, 456, 457, 458, 459, 461, 462, 463] (by decide +kernel)
set_option maxRecDepth 100000 in
theorem wiL_8 : ∀ w ∈ wsL_law_r8, w ∈ lw_tbl := mem_pl [465, 464, 69, 466, 467, 468, 469, 471, 472, 473, 474, 476, 477, 478, 479, 481, 482, 483, 484, 486, 487, 488, 489, 91] (by decide +kernel)
set_option maxRecDepth 100000 in
theorem wiL_9 : ∀ w ∈ wsL_law_r9, w ∈ lw_tbl := mem_pl [490, 491, 492, 493, 495, 496, 498, 499, 500, 501, 502, 504, 0, 505, 506, 508, 1, 509, 510, 511, 512, 513, 904, 905] (by decide +kernel)
set_option maxRecDepth 100000 in
theorem wiL_10 : ∀ w ∈ wsL_law_r10, w ∈ lw_tbl := mem_pl [906, 907, 908, 910, 12, 911, 912, 913, 914, 915, 917, 13, 918, 919, 920, 921, 922, 924, 14, 925, 845, 514, 515, 516] (by decide +kernel)
set_option maxRecDepth 100000 in
theorem wiL_11 : ∀ w ∈ wsL_law_r11, w ∈ lw_tbl := mem_pl [517, 518, 519, 520, 521, 140, 522, 523, 524, 525, 526, 528, 2, 529, 93, 111, 926, 927, 928, 929, 930, 932, 15, 933] (by decide +kernel)
set_option maxRecDepth 100000 in
theorem wiL_12 : ∀ w ∈ wsL_law_r12, w ∈ lw_tbl := mem_pl [530, 531, 532, 533, 534, 535, 536, 537, 157, 160, 538, 539, 540, 541, 934, 935, 936, 937, 938, 940, 16, 941, 942, 944] (by decide +kernel)
set_option maxRecDepth 100000 in
theorem wiL_13 : ∀ w ∈ wsL_law_r13, w ∈ lw_tbl := mem_pl [17, 945, 543, 544, 545, 546, 547, 548, 549, 550, 221, 551, 552, 553, 554, 946, 947, 948, 949, 950, 952, 18, 953, 555] (by decide +kernel)
set_option maxRecDepth 100000 in
theorem wiL_14 : ∀ w ∈ wsL_law_r14, w ∈ lw_tbl := mem_pl [556, 557, 558, 559, 560, 561, 562, 245, 563, 564, 565, 566, 954, 955, 956, 957, 958, 960, 19, 961, 567, 568, 569, 570] (by decide +kernel)
set_option maxRecDepth 100000 in
theorem wiL_15 : ∀ w ∈ wsL_law_r15, w ∈ lw_tbl := mem_pl [571, 572, 573, 574, 154, 575, 576, 577, 578, 580, 581, 582, 583, 250, 109, 145, 584, 585, 586, 587, 962, 963, 964, 965] (by decide +kernel)
set_option maxRecDepth 100000 in
theorem wiL_16 : ∀ w ∈ wsL_law_r16, w ∈ lw_tbl := mem_pl [966, 968, 20, 969, 970, 972, 21, 973, 974, 976, 22, 977, 978, 980, 23, 981, 982, 984, 24, 985, 986, 988, 25, 989] (by decide +kernel)
set_option maxRecDepth 100000 in
theorem wiL_17 : ∀ w ∈ wsL_law_r17, w ∈ lw_tbl := mem_pl [990, 992, 26, 993, 588, 589, 590, 591, 592, 593, 594, 595, 994, 995, 996, 997, 998, 1000, 27, 1001, 596, 597, 598, 599] (by decide +kernel)
set_option maxRecDepth 100000 in
theorem wiL_18 : ∀ w ∈ wsL_law_r18, w ∈ lw_tbl := mem_pl [600, 601, 602, 603, 256, 1002, 1003, 1004, 1005, 1006, 1008, 28, 1009, 604, 605, 606, 607, 608, 609, 610, 611, 1010, 1011, 1012] (by decide +kernel)
set_option maxRecDepth 100000 in
theorem wiL_19 : ∀ w ∈ wsL_law_r19, w ∈ lw_tbl := mem_pl [1013, 612, 613, 614, 615, 616, 617, 618, 619, 259, 351, 262, 354, 620, 621, 622, 623, 299, 305, 252, 139, 180, 147, 153] (by decide +kernel)
set_option maxRecDepth 100000 in
theorem wiL_20 : ∀ w ∈ wsL_law_r20, w ∈ lw_tbl := mem_pl [302, 296, 248, 143, 624, 626, 3, 627, 628, 629, 630, 631, 632, 633, 634, 635, 636, 637, 638, 639, 641, 4, 642, 92] (by decide +kernel)
set_option maxRecDepth 100000 in
theorem wiL_21 : ∀ w ∈ wsL_law_r21, w ∈ lw_tbl := mem_pl [96, 643, 644, 645, 646, 647, 648, 649, 650, 651, 653, 5, 654, 181, 148, 655, 657, 6, 658, 253, 659, 660, 661, 662] (by decide +kernel)
set_option maxRecDepth 100000 in
theorem wiL_22 : ∀ w ∈ wsL_law_r22, w ∈ lw_tbl := mem_pl [664, 7, 665, 166, 163, 178, 268, 172, 169, 666, 667, 668, 669, 670, 672, 8, 673, 265, 674, 675, 676, 677, 678, 679] (by decide +kernel)
set_option maxRecDepth 100000 in
theorem wiL_23 : ∀ w ∈ wsL_law_r23, w ∈ lw_tbl := mem_pl [680, 681, 1014, 1015, 1016, 1017, 1018, 1020, 29, 1021, 1022, 1024, 30, 1025, 852, 853, 1026, 1028, 31, 1029, 1030, 1032, 32, 1033] (by decide +kernel)
set_option maxRecDepth 100000 in
theorem wiL_24 : ∀ w ∈ wsL_law_r24, w ∈ lw_tbl := mem_pl [1034, 1036, 33, 1037, 1038, 1040, 34, 1041, 854, 855, 1042, 1044, 35, 1045, 1046, 1048, 36, 1049, 1050, 1052, 37, 1053, 1054, 1056] (by decide +kernel)
set_option maxRecDepth 100000 in
theorem wiL_25 : ∀ w ∈ wsL_law_r25, w ∈ lw_tbl := mem_pl [38, 1057, 1058, 1060, 39, 1061, 1062, 1064, 40, 1065, 1066, 1068, 41, 1069, 1070, 1072, 42, 1073, 682, 683, 684, 685, 297, 97] (by decide +kernel)
set_option maxRecDepth 100000 in
theorem wiL_26 : ∀ w ∈ wsL_law_r26, w ∈ lw_tbl := mem_pl [99, 101, 103, 106, 108, 686, 687, 688, 689, 690, 691, 692, 693, 694, 695, 1074, 1075, 1076, 1077, 1078, 1080, 43, 1081, 1082] (by decide +kernel)
set_option maxRecDepth 100000 in
theorem wiL_27 : ∀ w ∈ wsL_law_r27, w ∈ lw_tbl := mem_pl [1084, 44, 1085, 696, 697, 698, 699, 300, 144, 149, 151, 155, 158, 303, 288, 162, 165, 168, 171, 174, 176, 700, 701, 1086] (by decide +kernel)
set_option maxRecDepth 100000 in
theorem wiL_28 : ∀ w ∈ wsL_law_r28, w ∈ lw_tbl := mem_pl [1087, 1088, 1089, 702, 703, 704, 705, 706, 707, 708, 709, 710, 711, 712, 713, 714, 715, 716, 717, 718, 719, 1090, 1091, 1092] (by decide +kernel)
set_option maxRecDepth 100000 in
theorem wiL_29 : ∀ w ∈ wsL_law_r29, w ∈ lw_tbl := mem_pl [1093, 1094, 1096, 45, 1097, 1098, 1100, 46, 1101, 1102, 1103, 1104, 1105, 720, 721, 722, 723, 141, 1106, 1107, 1108, 1109, 724, 725] (by decide +kernel)
set_option maxRecDepth 100000 in
theorem wiL_30 : ∀ w ∈ wsL_law_r30, w ∈ lw_tbl := mem_pl [726, 727, 306, 249, 254, 257, 260, 263, 266, 269, 728, 729, 1110, 1111, 1112, 1113, 730, 731, 732, 733, 222, 224, 226, 228] (by decide +kernel)
set_option maxRecDepth 100000 in
theorem wiL_31 : ∀ w ∈ wsL_law_r31, w ∈ lw_tbl := mem_pl [1114, 1115, 1116, 1117, 734, 735, 736, 737, 182, 1118, 1119, 1120, 1121, 738, 739, 740, 741, 352, 355, 357, 359, 742, 1122, 1123] (by decide +kernel)
set_option maxRecDepth 100000 in
theorem wiL_32 : ∀ w ∈ wsL_law_r32, w ∈ lw_tbl := mem_pl [1124, 1125, 743, 744, 745, 746, 246, 747, 748, 749, 750, 751, 752, 1126, 1127, 1128, 1129, 1130, 1132, 47, 1133, 753, 754, 755] (by decide +kernel)
set_option maxRecDepth 100000 in
theorem wiL_33 : ∀ w ∈ wsL_law_r33, w ∈ lw_tbl := mem_pl [756, 757, 1134, 1135, 1136, 1137, 758, 759, 760, 761, 294, 1138, 1139, 1140, 1141, 1142, 1144, 48, 1145, 762, 763, 764, 765, 94] (by decide +kernel)
set_option maxRecDepth 100000 in
theorem wiL_34 : ∀ w ∈ wsL_law_r34, w ∈ lw_tbl := mem_pl [334, 383, 290, 292, 766, 767, 768, 769, 770, 771, 772, 773, 774, 775, 776, 777, 1146, 1147, 1148, 1149, 849, 1150, 1152, 49] (by decide +kernel)
set_option maxRecDepth 100000 in
theorem wiL_35 : ∀ w ∈ wsL_law_r35, w ∈ lw_tbl := mem_pl [1153, 1154, 1156, 50, 1157, 778, 779, 780, 781, 782, 783, 784, 785, 1158, 1159, 1160, 1161, 786, 787, 788, 789, 790, 791, 792] (by decide +kernel)
set_option maxRecDepth 100000 in
theorem wiL_36 : ∀ w ∈ wsL_law_r36, w ∈ lw_tbl := mem_pl [793, 1162, 1163, 1164, 1165, 794, 795, 796, 797, 1166, 1167, 1168, 1169, 798, 799, 800, 801, 418, 416, 420, 802, 803, 804, 805] (by decide +kernel)
set_option maxRecDepth 100000 in
theorem wiL_37 : ∀ w ∈ wsL_law_r37, w ∈ lw_tbl := mem_pl [382, 386, 390, 388, 806, 807, 808, 809, 810, 812, 813, 814, 815, 817, 9, 818, 819, 821, 10, 822, 823, 825, 11, 826] (by decide +kernel)
set_option maxRecDepth 100000 in
theorem wiL_38 : ∀ w ∈ wsL_law_r38, w ∈ lw_tbl := mem_pl [827, 828, 829, 830, 831, 1170, 1171, 1172, 1173, 861, 862, 1174, 1176, 51, 1177, 1178, 1180, 52, 1181, 860, 857, 1182, 1184, 53] (by decide +kernel)
set_option maxRecDepth 100000 in
theorem wiL_39 : ∀ w ∈ wsL_law_r39, w ∈ lw_tbl := mem_pl [1185, 858, 1186, 1188, 54, 1189, 1190, 1192, 55, 1193, 1194, 1196, 56, 1197, 832, 833, 834, 835, 412, 414, 836, 1198, 1199, 1200] (by decide +kernel)
set_option maxRecDepth 100000 in
theorem wiL_40 : ∀ w ∈ wsL_law_r40, w ∈ lw_tbl := mem_pl [1201] (by decide +kernel)
set_option maxRecDepth 100000 in
theorem wiX_0 : ∀ w ∈ wsX00, w ∈ lw_tbl := mem_pl [270, 272, 274, 276, 278, 280, 282, 284] (by decide +kernel)
set_option maxRecDepth 100000 in
theorem wiX_1 : ∀ w ∈ wsX10, w ∈ lw_tbl := mem_pl [337, 339, 341] (by decide +kernel)
set_option maxRecDepth 100000 in
theorem wiX_2 : ∀ w ∈ wsX20, w ∈ lw_tbl := mem_pl [183, 185, 187, 189, 191, 193, 195, 197, 199, 201, 203, 205, 207, 209, 211] (by decide +kernel)
set_option maxRecDepth 100000 in
theorem wiX_3 : ∀ w ∈ wsX30, w ∈ lw_tbl := mem_pl [229, 231, 233, 235] (by decide +kernel)
set_option maxRecDepth 100000 in
theorem wiX_4 : ∀ w ∈ wsX40, w ∈ lw_tbl := mem_pl [112, 114, 116, 118, 120, 122, 124, 126, 128] (by decide +kernel)
set_option maxRecDepth 100000 in
theorem wiX_5 : ∀ w ∈ wsX50, w ∈ lw_tbl := mem_pl [391, 393, 395, 397, 399] (by decide +kernel)
set_option maxRecDepth 100000 in
theorem wiX_6 : ∀ w ∈ wsX60, w ∈ lw_tbl := mem_pl [307, 309, 311, 313, 315, 317, 319, 321] (by decide +kernel)
set_option maxRecDepth 100000 in
theorem wiX_7 : ∀ w ∈ wsX70, w ∈ lw_tbl := mem_pl [421, 423, 425, 427, 429] (by decide +kernel)
set_option maxRecDepth 100000 in
theorem wiX_8 : ∀ w ∈ wsX80, w ∈ lw_tbl := mem_pl [362, 364, 366, 368, 370, 372] (by decide +kernel)
set_option maxRecDepth 100000 in
theorem wiX_9 : ∀ w ∈ wsX90, w ∈ lw_tbl := mem_pl [437, 439, 441, 443, 445] (by decide +kernel)
set_option maxRecDepth 100000 in
theorem wiX_10 : ∀ w ∈ wsX100, w ∈ lw_tbl := mem_pl [863, 865, 867, 869, 871, 873, 875, 877, 879, 881, 883, 885, 887, 889, 891, 893, 895, 897, 899, 901] (by decide +kernel)
theorem wsL_in : ∀ w ∈ wsL_law, w ∈ lw_tbl := List.forall_mem_append.mpr ⟨List.forall_mem_append.mpr ⟨List.forall_mem_append.mpr ⟨List.forall_mem_append.mpr ⟨List.forall_mem_append.mpr ⟨List.forall_mem_append.mpr ⟨List.forall_mem_append.mpr ⟨List.forall_mem_append.mpr ⟨List.forall_mem_append.mpr ⟨List.forall_mem_append.mpr ⟨List.forall_mem_append.mpr ⟨List.forall_mem_append.mpr ⟨List.forall_mem_append.mpr ⟨wiL_1, List.forall_mem_append.mpr ⟨wiL_2, List.forall_mem_append.mpr ⟨wiL_3, List.forall_mem_append.mpr ⟨wiL_4, List.forall_mem_append.mpr ⟨wiL_5, List.forall_mem_append.mpr ⟨wiL_6, List.forall_mem_append.mpr ⟨wiL_7, List.forall_mem_append.mpr ⟨wiL_8, List.forall_mem_append.mpr ⟨wiL_9, List.forall_mem_append.mpr ⟨wiL_10, List.forall_mem_append.mpr ⟨wiL_11, List.forall_mem_append.mpr ⟨wiL_12, List.forall_mem_append.mpr ⟨wiL_13, List.forall_mem_append.mpr ⟨wiL_14, List.forall_mem_append.mpr ⟨wiL_15, List.forall_mem_append.mpr ⟨wiL_16, List.forall_mem_append.mpr ⟨wiL_17, List.forall_mem_append.mpr ⟨wiL_18, List.forall_mem_append.mpr ⟨wiL_19, List.forall_mem_append.mpr ⟨wiL_20, List.forall_mem_append.mpr ⟨wiL_21, List.forall_mem_append.mpr ⟨wiL_22, List.forall_mem_append.mpr ⟨wiL_23, List.forall_mem_append.mpr ⟨wiL_24, List.forall_mem_append.mpr ⟨wiL_25, List.forall_mem_append.mpr ⟨wiL_26, List.forall_mem_append.mpr ⟨wiL_27, List.forall_mem_append.mpr ⟨wiL_28, List.forall_mem_append.mpr ⟨wiL_29, List.forall_mem_append.mpr ⟨wiL_30, List.forall_mem_append.mpr ⟨wiL_31, List.forall_mem_append.mpr ⟨wiL_32, List.forall_mem_append.mpr ⟨wiL_33, List.forall_mem_append.mpr ⟨wiL_34, List.forall_mem_append.mpr ⟨wiL_35, List.forall_mem_append.mpr ⟨wiL_36, List.forall_mem_append.mpr ⟨wiL_37, List.forall_mem_append.mpr ⟨wiL_38, List.forall_mem_append.mpr ⟨wiL_39, wiL_40⟩⟩⟩⟩⟩⟩⟩⟩⟩⟩⟩⟩⟩⟩⟩⟩⟩⟩⟩⟩⟩⟩⟩⟩⟩⟩⟩⟩⟩⟩⟩⟩⟩⟩⟩⟩⟩⟩⟩, wiX_9⟩, wiX_10⟩, wiX_6⟩, wiX_1⟩, wiX_8⟩, wiX_5⟩, wiX_7⟩, wiX_4⟩, wiX_2⟩, wiX_3⟩, wiX_0⟩, fun _ h => absurd h List.not_mem_nil⟩
set_option maxRecDepth 100000 in
theorem nest_inL : ∀ w ∈ z_nest.map (fun q => Cond.methodLinkNest q.1 q.2.1 q.2.2.1 q.2.2.2), w ∈ lw_tbl := mem_pl [80, 134, 216, 240, 332, 346, 377, 405, 410, 460, 470, 475, 480, 485, 494, 497, 542, 579, 811] (by decide +kernel)
theorem nest_in : ∀ q ∈ z_nest, Cond.methodLinkNest q.1 q.2.1 q.2.2.1 q.2.2.2 ∈ lw_tbl := fun q hq => nest_inL _ (List.mem_map.mpr ⟨q, hq, rfl⟩)
set_option maxRecDepth 100000 in
theorem over_in : Cond.arrayOver (.object "PaperRounds$Town") ∈ lw_tbl := List.mem_of_getElem? (i := 331) (by decide +kernel)
