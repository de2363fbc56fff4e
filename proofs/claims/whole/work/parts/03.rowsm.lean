theorem dX10_init_0 : decode cX10_init 0 = .ok (.aload_n 0, 1) := by decide +kernel
theorem dX10_init_1 : decode cX10_init 1 = .ok (.invokespecial 1, 3) := by decide +kernel
theorem dX10_init_4 : decode cX10_init 4 = .ok (.aload_n 0, 1) := by decide +kernel
theorem dX10_init_5 : decode cX10_init 5 = .ok (.sipush 537, 3) := by decide +kernel
theorem dX10_init_8 : decode cX10_init 8 = .ok (.newarray .int, 2) := by decide +kernel
theorem dX10_init_10 : decode cX10_init 10 = .ok (.putfield 7, 3) := by decide +kernel
theorem dX10_init_13 : decode cX10_init 13 = .ok (.aload_n 0, 1) := by decide +kernel
theorem dX10_init_14 : decode cX10_init 14 = .ok (.sipush 2148, 3) := by decide +kernel
theorem dX10_init_17 : decode cX10_init 17 = .ok (.newarray .int, 2) := by decide +kernel
theorem dX10_init_19 : decode cX10_init 19 = .ok (.putfield 13, 3) := by decide +kernel
theorem dX10_init_22 : decode cX10_init 22 = .ok (.aload_n 0, 1) := by decide +kernel
theorem dX10_init_23 : decode cX10_init 23 = .ok (.sipush 537, 3) := by decide +kernel
theorem dX10_init_26 : decode cX10_init 26 = .ok (.newarray .int, 2) := by decide +kernel
theorem dX10_init_28 : decode cX10_init 28 = .ok (.putfield 16, 3) := by decide +kernel
theorem dX10_init_31 : decode cX10_init 31 = .ok (.aload_n 0, 1) := by decide +kernel
theorem dX10_init_32 : decode cX10_init 32 = .ok (.sipush 537, 3) := by decide +kernel
theorem dX10_init_35 : decode cX10_init 35 = .ok (.newarray .int, 2) := by decide +kernel
theorem dX10_init_37 : decode cX10_init 37 = .ok (.putfield 19, 3) := by decide +kernel
theorem dX10_init_40 : decode cX10_init 40 = .ok (.aload_n 0, 1) := by decide +kernel
theorem dX10_init_41 : decode cX10_init 41 = .ok (.bipush 60, 2) := by decide +kernel
theorem dX10_init_43 : decode cX10_init 43 = .ok (.newarray .int, 2) := by decide +kernel
theorem dX10_init_45 : decode cX10_init 45 = .ok (.putfield 22, 3) := by decide +kernel
theorem dX10_init_48 : decode cX10_init 48 = .ok (.aload_n 0, 1) := by decide +kernel
theorem dX10_init_49 : decode cX10_init 49 = .ok (.bipush 20, 2) := by decide +kernel
theorem dX10_init_51 : decode cX10_init 51 = .ok (.newarray .int, 2) := by decide +kernel
theorem dX10_init_53 : decode cX10_init 53 = .ok (.putfield 25, 3) := by decide +kernel
theorem dX10_init_56 : decode cX10_init 56 = .ok (.aload_n 0, 1) := by decide +kernel
theorem dX10_init_57 : decode cX10_init 57 = .ok (.bipush 24, 2) := by decide +kernel
theorem dX10_init_59 : decode cX10_init 59 = .ok (.newarray .int, 2) := by decide +kernel
theorem dX10_init_61 : decode cX10_init 61 = .ok (.putfield 28, 3) := by decide +kernel
theorem dX10_init_64 : decode cX10_init 64 = .ok (.aload_n 0, 1) := by decide +kernel
theorem dX10_init_65 : decode cX10_init 65 = .ok (.bipush 20, 2) := by decide +kernel
theorem dX10_init_67 : decode cX10_init 67 = .ok (.newarray .int, 2) := by decide +kernel
theorem dX10_init_69 : decode cX10_init 69 = .ok (.putfield 31, 3) := by decide +kernel
theorem dX10_init_72 : decode cX10_init 72 = .ok (.aload_n 0, 1) := by decide +kernel
theorem dX10_init_73 : decode cX10_init 73 = .ok (.iconst 3, 1) := by decide +kernel
theorem dX10_init_74 : decode cX10_init 74 = .ok (.newarray .int, 2) := by decide +kernel
theorem dX10_init_76 : decode cX10_init 76 = .ok (.putfield 34, 3) := by decide +kernel
theorem dX10_init_79 : decode cX10_init 79 = .ok (.aload_n 0, 1) := by decide +kernel
theorem dX10_init_80 : decode cX10_init 80 = .ok (.getfield 7, 3) := by decide +kernel
theorem dX10_init_83 : decode cX10_init 83 = .ok (.iconst 0, 1) := by decide +kernel
theorem dX10_init_84 : decode cX10_init 84 = .ok (.iconst 1, 1) := by decide +kernel
theorem dX10_init_85 : decode cX10_init 85 = .ok (.iastore, 1) := by decide +kernel
theorem dX10_init_86 : decode cX10_init 86 = .ok (.aload_n 0, 1) := by decide +kernel
theorem dX10_init_87 : decode cX10_init 87 = .ok (.getfield 7, 3) := by decide +kernel
theorem dX10_init_90 : decode cX10_init 90 = .ok (.iconst 5, 1) := by decide +kernel
theorem dX10_init_91 : decode cX10_init 91 = .ok (.iconst 3, 1) := by decide +kernel
theorem dX10_init_92 : decode cX10_init 92 = .ok (.iastore, 1) := by decide +kernel
theorem dX10_init_93 : decode cX10_init 93 = .ok (.aload_n 0, 1) := by decide +kernel
theorem dX10_init_94 : decode cX10_init 94 = .ok (.getfield 7, 3) := by decide +kernel
theorem dX10_init_97 : decode cX10_init 97 = .ok (.bipush 6, 2) := by decide +kernel
theorem dX10_init_99 : decode cX10_init 99 = .ok (.bipush 8, 2) := by decide +kernel
theorem dX10_init_101 : decode cX10_init 101 = .ok (.iastore, 1) := by decide +kernel
theorem dX10_init_102 : decode cX10_init 102 = .ok (.return_, 1) := by decide +kernel
theorem dX10_in_0 : decode cX10_in 0 = .ok (.iload_n 0, 1) := by decide +kernel
theorem dX10_in_1 : decode cX10_in 1 = .ok (.iload_n 1, 1) := by decide +kernel
theorem dX10_in_2 : decode cX10_in 2 = .ok (.if_icmp .lt 12, 3) := by decide +kernel
theorem dX10_in_5 : decode cX10_in 5 = .ok (.iload_n 0, 1) := by decide +kernel
theorem dX10_in_6 : decode cX10_in 6 = .ok (.iload_n 2, 1) := by decide +kernel
theorem dX10_in_7 : decode cX10_in 7 = .ok (.if_icmp .gt 7, 3) := by decide +kernel
theorem dX10_in_10 : decode cX10_in 10 = .ok (.iconst 1, 1) := by decide +kernel
theorem dX10_in_11 : decode cX10_in 11 = .ok (.goto 4, 3) := by decide +kernel
theorem dX10_in_14 : decode cX10_in 14 = .ok (.iconst 0, 1) := by decide +kernel
theorem dX10_in_15 : decode cX10_in 15 = .ok (.ireturn, 1) := by decide +kernel
theorem dX10_copies_0 : decode cX10_copies 0 = .ok (.iconst 0, 1) := by decide +kernel
theorem dX10_copies_1 : decode cX10_copies 1 = .ok (.istore 4, 2) := by decide +kernel
theorem dX10_copies_3 : decode cX10_copies 3 = .ok (.iload 4, 2) := by decide +kernel
theorem dX10_copies_5 : decode cX10_copies 5 = .ok (.sipush 537, 3) := by decide +kernel
theorem dX10_copies_8 : decode cX10_copies 8 = .ok (.if_icmp .ge 21, 3) := by decide +kernel
theorem dX10_copies_11 : decode cX10_copies 11 = .ok (.aload_n 2, 1) := by decide +kernel
theorem dX10_copies_12 : decode cX10_copies 12 = .ok (.iload_n 3, 1) := by decide +kernel
theorem dX10_copies_13 : decode cX10_copies 13 = .ok (.iload 4, 2) := by decide +kernel
theorem dX10_copies_15 : decode cX10_copies 15 = .ok (.iadd, 1) := by decide +kernel
theorem dX10_copies_16 : decode cX10_copies 16 = .ok (.aload_n 0, 1) := by decide +kernel
theorem dX10_copies_17 : decode cX10_copies 17 = .ok (.iload_n 1, 1) := by decide +kernel
theorem dX10_copies_18 : decode cX10_copies 18 = .ok (.iload 4, 2) := by decide +kernel
theorem dX10_copies_20 : decode cX10_copies 20 = .ok (.iadd, 1) := by decide +kernel
theorem dX10_copies_21 : decode cX10_copies 21 = .ok (.iaload, 1) := by decide +kernel
theorem dX10_copies_22 : decode cX10_copies 22 = .ok (.iastore, 1) := by decide +kernel
theorem dX10_copies_23 : decode cX10_copies 23 = .ok (.iinc 4 1, 3) := by decide +kernel
theorem dX10_copies_26 : decode cX10_copies 26 = .ok (.goto (-23), 3) := by decide +kernel
theorem dX10_copies_29 : decode cX10_copies 29 = .ok (.return_, 1) := by decide +kernel
theorem dX10_notes_0 : decode cX10_notes 0 = .ok (.aload_n 0, 1) := by decide +kernel
theorem dX10_notes_1 : decode cX10_notes 1 = .ok (.getfield 7, 3) := by decide +kernel
theorem dX10_notes_4 : decode cX10_notes 4 = .ok (.iconst 0, 1) := by decide +kernel
theorem dX10_notes_5 : decode cX10_notes 5 = .ok (.aload_n 0, 1) := by decide +kernel
theorem dX10_notes_6 : decode cX10_notes 6 = .ok (.getfield 16, 3) := by decide +kernel
theorem dX10_notes_9 : decode cX10_notes 9 = .ok (.iconst 0, 1) := by decide +kernel
theorem dX10_notes_10 : decode cX10_notes 10 = .ok (.invokestatic 37, 3) := by decide +kernel
theorem dX10_notes_13 : decode cX10_notes 13 = .ok (.return_, 1) := by decide +kernel
theorem dX10_ends_0 : decode cX10_ends 0 = .ok (.iload_n 1, 1) := by decide +kernel
theorem dX10_ends_1 : decode cX10_ends 1 = .ok (.ifCond .lt 77, 3) := by decide +kernel
theorem dX10_ends_4 : decode cX10_ends 4 = .ok (.aload_n 0, 1) := by decide +kernel
theorem dX10_ends_5 : decode cX10_ends 5 = .ok (.getfield 41, 3) := by decide +kernel
theorem dX10_ends_8 : decode cX10_ends 8 = .ok (.iconst 4, 1) := by decide +kernel
theorem dX10_ends_9 : decode cX10_ends 9 = .ok (.if_icmp .ne 39, 3) := by decide +kernel
theorem dX10_ends_12 : decode cX10_ends 12 = .ok (.iconst 0, 1) := by decide +kernel
theorem dX10_ends_13 : decode cX10_ends 13 = .ok (.istore_n 2, 1) := by decide +kernel
theorem dX10_ends_14 : decode cX10_ends 14 = .ok (.iload_n 2, 1) := by decide +kernel
theorem dX10_ends_15 : decode cX10_ends 15 = .ok (.sipush 1611, 3) := by decide +kernel
theorem dX10_ends_18 : decode cX10_ends 18 = .ok (.if_icmp .ge 25, 3) := by decide +kernel
theorem dX10_ends_21 : decode cX10_ends 21 = .ok (.aload_n 0, 1) := by decide +kernel
theorem dX10_ends_22 : decode cX10_ends 22 = .ok (.getfield 13, 3) := by decide +kernel
theorem dX10_ends_25 : decode cX10_ends 25 = .ok (.iload_n 2, 1) := by decide +kernel
theorem dX10_ends_26 : decode cX10_ends 26 = .ok (.aload_n 0, 1) := by decide +kernel
theorem dX10_ends_27 : decode cX10_ends 27 = .ok (.getfield 13, 3) := by decide +kernel
theorem dX10_ends_30 : decode cX10_ends 30 = .ok (.iload_n 2, 1) := by decide +kernel
theorem dX10_ends_31 : decode cX10_ends 31 = .ok (.sipush 537, 3) := by decide +kernel
theorem dX10_ends_34 : decode cX10_ends 34 = .ok (.iadd, 1) := by decide +kernel
theorem dX10_ends_35 : decode cX10_ends 35 = .ok (.iaload, 1) := by decide +kernel
theorem dX10_ends_36 : decode cX10_ends 36 = .ok (.iastore, 1) := by decide +kernel
theorem dX10_ends_37 : decode cX10_ends 37 = .ok (.iinc 2 1, 3) := by decide +kernel
theorem dX10_ends_40 : decode cX10_ends 40 = .ok (.goto (-26), 3) := by decide +kernel
theorem dX10_ends_43 : decode cX10_ends 43 = .ok (.aload_n 0, 1) := by decide +kernel
theorem dX10_ends_44 : decode cX10_ends 44 = .ok (.iconst 3, 1) := by decide +kernel
theorem dX10_ends_45 : decode cX10_ends 45 = .ok (.putfield 41, 3) := by decide +kernel
theorem dX10_ends_48 : decode cX10_ends 48 = .ok (.aload_n 0, 1) := by decide +kernel
theorem dX10_ends_49 : decode cX10_ends 49 = .ok (.getfield 16, 3) := by decide +kernel
theorem dX10_ends_52 : decode cX10_ends 52 = .ok (.iconst 0, 1) := by decide +kernel
theorem dX10_ends_53 : decode cX10_ends 53 = .ok (.aload_n 0, 1) := by decide +kernel
theorem dX10_ends_54 : decode cX10_ends 54 = .ok (.getfield 13, 3) := by decide +kernel
theorem dX10_ends_57 : decode cX10_ends 57 = .ok (.aload_n 0, 1) := by decide +kernel
theorem dX10_ends_58 : decode cX10_ends 58 = .ok (.getfield 41, 3) := by decide +kernel
theorem dX10_ends_61 : decode cX10_ends 61 = .ok (.sipush 537, 3) := by decide +kernel
theorem dX10_ends_64 : decode cX10_ends 64 = .ok (.imul, 1) := by decide +kernel
theorem dX10_ends_65 : decode cX10_ends 65 = .ok (.invokestatic 37, 3) := by decide +kernel
theorem dX10_ends_68 : decode cX10_ends 68 = .ok (.aload_n 0, 1) := by decide +kernel
theorem dX10_ends_69 : decode cX10_ends 69 = .ok (.dup, 1) := by decide +kernel
theorem dX10_ends_70 : decode cX10_ends 70 = .ok (.getfield 41, 3) := by decide +kernel
theorem dX10_ends_73 : decode cX10_ends 73 = .ok (.iconst 1, 1) := by decide +kernel
theorem dX10_ends_74 : decode cX10_ends 74 = .ok (.iadd, 1) := by decide +kernel
theorem dX10_ends_75 : decode cX10_ends 75 = .ok (.putfield 41, 3) := by decide +kernel
theorem dX10_ends_78 : decode cX10_ends 78 = .ok (.iload_n 1, 1) := by decide +kernel
theorem dX10_ends_79 : decode cX10_ends 79 = .ok (.ireturn, 1) := by decide +kernel
theorem dX10_isCorner_0 : decode cX10_isCorner 0 = .ok (.iload_n 1, 1) := by decide +kernel
theorem dX10_isCorner_1 : decode cX10_isCorner 1 = .ok (.iconst 0, 1) := by decide +kernel
theorem dX10_isCorner_2 : decode cX10_isCorner 2 = .ok (.aload_n 0, 1) := by decide +kernel
theorem dX10_isCorner_3 : decode cX10_isCorner 3 = .ok (.getfield 7, 3) := by decide +kernel
theorem dX10_isCorner_6 : decode cX10_isCorner 6 = .ok (.iconst 0, 1) := by decide +kernel
theorem dX10_isCorner_7 : decode cX10_isCorner 7 = .ok (.iaload, 1) := by decide +kernel
theorem dX10_isCorner_8 : decode cX10_isCorner 8 = .ok (.iconst 1, 1) := by decide +kernel
theorem dX10_isCorner_9 : decode cX10_isCorner 9 = .ok (.isub, 1) := by decide +kernel
theorem dX10_isCorner_10 : decode cX10_isCorner 10 = .ok (.invokestatic 45, 3) := by decide +kernel
theorem dX10_isCorner_13 : decode cX10_isCorner 13 = .ok (.ireturn, 1) := by decide +kernel
theorem dX10_isHouse_0 : decode cX10_isHouse 0 = .ok (.iload_n 1, 1) := by decide +kernel
theorem dX10_isHouse_1 : decode cX10_isHouse 1 = .ok (.iconst 0, 1) := by decide +kernel
theorem dX10_isHouse_2 : decode cX10_isHouse 2 = .ok (.aload_n 0, 1) := by decide +kernel
theorem dX10_isHouse_3 : decode cX10_isHouse 3 = .ok (.getfield 7, 3) := by decide +kernel
theorem dX10_isHouse_6 : decode cX10_isHouse 6 = .ok (.iconst 1, 1) := by decide +kernel
theorem dX10_isHouse_7 : decode cX10_isHouse 7 = .ok (.iaload, 1) := by decide +kernel
theorem dX10_isHouse_8 : decode cX10_isHouse 8 = .ok (.iconst 1, 1) := by decide +kernel
theorem dX10_isHouse_9 : decode cX10_isHouse 9 = .ok (.isub, 1) := by decide +kernel
theorem dX10_isHouse_10 : decode cX10_isHouse 10 = .ok (.invokestatic 45, 3) := by decide +kernel
theorem dX10_isHouse_13 : decode cX10_isHouse 13 = .ok (.ireturn, 1) := by decide +kernel
theorem dX10_isCarrier_0 : decode cX10_isCarrier 0 = .ok (.iload_n 1, 1) := by decide +kernel
theorem dX10_isCarrier_1 : decode cX10_isCarrier 1 = .ok (.iconst 0, 1) := by decide +kernel
theorem dX10_isCarrier_2 : decode cX10_isCarrier 2 = .ok (.aload_n 0, 1) := by decide +kernel
theorem dX10_isCarrier_3 : decode cX10_isCarrier 3 = .ok (.getfield 7, 3) := by decide +kernel
theorem dX10_isCarrier_6 : decode cX10_isCarrier 6 = .ok (.iconst 2, 1) := by decide +kernel
theorem dX10_isCarrier_7 : decode cX10_isCarrier 7 = .ok (.iaload, 1) := by decide +kernel
theorem dX10_isCarrier_8 : decode cX10_isCarrier 8 = .ok (.iconst 1, 1) := by decide +kernel
theorem dX10_isCarrier_9 : decode cX10_isCarrier 9 = .ok (.isub, 1) := by decide +kernel
theorem dX10_isCarrier_10 : decode cX10_isCarrier 10 = .ok (.invokestatic 45, 3) := by decide +kernel
theorem dX10_isCarrier_13 : decode cX10_isCarrier 13 = .ok (.ireturn, 1) := by decide +kernel
theorem dX10_ofCorner_0 : decode cX10_ofCorner 0 = .ok (.aload_n 0, 1) := by decide +kernel
theorem dX10_ofCorner_1 : decode cX10_ofCorner 1 = .ok (.getfield 7, 3) := by decide +kernel
theorem dX10_ofCorner_4 : decode cX10_ofCorner 4 = .ok (.bipush 10, 2) := by decide +kernel
theorem dX10_ofCorner_6 : decode cX10_ofCorner 6 = .ok (.iconst 4, 1) := by decide +kernel
theorem dX10_ofCorner_7 : decode cX10_ofCorner 7 = .ok (.iload_n 1, 1) := by decide +kernel
theorem dX10_ofCorner_8 : decode cX10_ofCorner 8 = .ok (.imul, 1) := by decide +kernel
theorem dX10_ofCorner_9 : decode cX10_ofCorner 9 = .ok (.iadd, 1) := by decide +kernel
theorem dX10_ofCorner_10 : decode cX10_ofCorner 10 = .ok (.iload_n 2, 1) := by decide +kernel
theorem dX10_ofCorner_11 : decode cX10_ofCorner 11 = .ok (.iadd, 1) := by decide +kernel
theorem dX10_ofCorner_12 : decode cX10_ofCorner 12 = .ok (.iaload, 1) := by decide +kernel
theorem dX10_ofCorner_13 : decode cX10_ofCorner 13 = .ok (.ireturn, 1) := by decide +kernel
theorem dX10_of_0 : decode cX10_of 0 = .ok (.aload_n 0, 1) := by decide +kernel
theorem dX10_of_1 : decode cX10_of 1 = .ok (.getfield 7, 3) := by decide +kernel
theorem dX10_of_4 : decode cX10_of 4 = .ok (.bipush 90, 2) := by decide +kernel
theorem dX10_of_6 : decode cX10_of 6 = .ok (.bipush 14, 2) := by decide +kernel
theorem dX10_of_8 : decode cX10_of 8 = .ok (.iload_n 1, 1) := by decide +kernel
theorem dX10_of_9 : decode cX10_of 9 = .ok (.imul, 1) := by decide +kernel
theorem dX10_of_10 : decode cX10_of 10 = .ok (.iadd, 1) := by decide +kernel
theorem dX10_of_11 : decode cX10_of 11 = .ok (.iload_n 2, 1) := by decide +kernel
theorem dX10_of_12 : decode cX10_of 12 = .ok (.iadd, 1) := by decide +kernel
theorem dX10_of_13 : decode cX10_of 13 = .ok (.iaload, 1) := by decide +kernel
theorem dX10_of_14 : decode cX10_of 14 = .ok (.ireturn, 1) := by decide +kernel
theorem dX10_lays_0 : decode cX10_lays 0 = .ok (.aload_n 0, 1) := by decide +kernel
theorem dX10_lays_1 : decode cX10_lays 1 = .ok (.getfield 7, 3) := by decide +kernel
theorem dX10_lays_4 : decode cX10_lays 4 = .ok (.bipush 90, 2) := by decide +kernel
theorem dX10_lays_6 : decode cX10_lays 6 = .ok (.bipush 14, 2) := by decide +kernel
theorem dX10_lays_8 : decode cX10_lays 8 = .ok (.iload_n 1, 1) := by decide +kernel
theorem dX10_lays_9 : decode cX10_lays 9 = .ok (.imul, 1) := by decide +kernel
theorem dX10_lays_10 : decode cX10_lays 10 = .ok (.iadd, 1) := by decide +kernel
theorem dX10_lays_11 : decode cX10_lays 11 = .ok (.iload_n 2, 1) := by decide +kernel
theorem dX10_lays_12 : decode cX10_lays 12 = .ok (.iadd, 1) := by decide +kernel
theorem dX10_lays_13 : decode cX10_lays 13 = .ok (.iload_n 3, 1) := by decide +kernel
theorem dX10_lays_14 : decode cX10_lays 14 = .ok (.iastore, 1) := by decide +kernel
theorem dX10_lays_15 : decode cX10_lays 15 = .ok (.return_, 1) := by decide +kernel
theorem dX10_ofCarrier_0 : decode cX10_ofCarrier 0 = .ok (.aload_n 0, 1) := by decide +kernel
theorem dX10_ofCarrier_1 : decode cX10_ofCarrier 1 = .ok (.getfield 7, 3) := by decide +kernel
theorem dX10_ofCarrier_4 : decode cX10_ofCarrier 4 = .ok (.sipush 426, 3) := by decide +kernel
theorem dX10_ofCarrier_7 : decode cX10_ofCarrier 7 = .ok (.bipush 7, 2) := by decide +kernel
theorem dX10_ofCarrier_9 : decode cX10_ofCarrier 9 = .ok (.iload_n 1, 1) := by decide +kernel
theorem dX10_ofCarrier_10 : decode cX10_ofCarrier 10 = .ok (.imul, 1) := by decide +kernel
theorem dX10_ofCarrier_11 : decode cX10_ofCarrier 11 = .ok (.iadd, 1) := by decide +kernel
theorem dX10_ofCarrier_12 : decode cX10_ofCarrier 12 = .ok (.iload_n 2, 1) := by decide +kernel
theorem dX10_ofCarrier_13 : decode cX10_ofCarrier 13 = .ok (.iadd, 1) := by decide +kernel
theorem dX10_ofCarrier_14 : decode cX10_ofCarrier 14 = .ok (.iaload, 1) := by decide +kernel
theorem dX10_ofCarrier_15 : decode cX10_ofCarrier 15 = .ok (.ireturn, 1) := by decide +kernel
theorem dX10_addsCarrier_0 : decode cX10_addsCarrier 0 = .ok (.aload_n 0, 1) := by decide +kernel
theorem dX10_addsCarrier_1 : decode cX10_addsCarrier 1 = .ok (.getfield 7, 3) := by decide +kernel
theorem dX10_addsCarrier_4 : decode cX10_addsCarrier 4 = .ok (.sipush 426, 3) := by decide +kernel
theorem dX10_addsCarrier_7 : decode cX10_addsCarrier 7 = .ok (.bipush 7, 2) := by decide +kernel
theorem dX10_addsCarrier_9 : decode cX10_addsCarrier 9 = .ok (.iload_n 1, 1) := by decide +kernel
theorem dX10_addsCarrier_10 : decode cX10_addsCarrier 10 = .ok (.imul, 1) := by decide +kernel
theorem dX10_addsCarrier_11 : decode cX10_addsCarrier 11 = .ok (.iadd, 1) := by decide +kernel
theorem dX10_addsCarrier_12 : decode cX10_addsCarrier 12 = .ok (.iload_n 2, 1) := by decide +kernel
theorem dX10_addsCarrier_13 : decode cX10_addsCarrier 13 = .ok (.iadd, 1) := by decide +kernel
theorem dX10_addsCarrier_14 : decode cX10_addsCarrier 14 = .ok (.dup2, 1) := by decide +kernel
theorem dX10_addsCarrier_15 : decode cX10_addsCarrier 15 = .ok (.iaload, 1) := by decide +kernel
theorem dX10_addsCarrier_16 : decode cX10_addsCarrier 16 = .ok (.iload_n 3, 1) := by decide +kernel
theorem dX10_addsCarrier_17 : decode cX10_addsCarrier 17 = .ok (.iadd, 1) := by decide +kernel
theorem dX10_addsCarrier_18 : decode cX10_addsCarrier 18 = .ok (.iastore, 1) := by decide +kernel
theorem dX10_addsCarrier_19 : decode cX10_addsCarrier 19 = .ok (.return_, 1) := by decide +kernel
theorem dX10_isBeyond_0 : decode cX10_isBeyond 0 = .ok (.iload_n 1, 1) := by decide +kernel
theorem dX10_isBeyond_1 : decode cX10_isBeyond 1 = .ok (.istore_n 3, 1) := by decide +kernel
theorem dX10_isBeyond_2 : decode cX10_isBeyond 2 = .ok (.iload_n 3, 1) := by decide +kernel
theorem dX10_isBeyond_3 : decode cX10_isBeyond 3 = .ok (.iload_n 2, 1) := by decide +kernel
theorem dX10_isBeyond_4 : decode cX10_isBeyond 4 = .ok (.if_icmp .le 13, 3) := by decide +kernel
theorem dX10_isBeyond_7 : decode cX10_isBeyond 7 = .ok (.aload_n 0, 1) := by decide +kernel
theorem dX10_isBeyond_8 : decode cX10_isBeyond 8 = .ok (.iload_n 3, 1) := by decide +kernel
theorem dX10_isBeyond_9 : decode cX10_isBeyond 9 = .ok (.iconst 0, 1) := by decide +kernel
theorem dX10_isBeyond_10 : decode cX10_isBeyond 10 = .ok (.invokevirtual 49, 3) := by decide +kernel
theorem dX10_isBeyond_13 : decode cX10_isBeyond 13 = .ok (.istore_n 3, 1) := by decide +kernel
theorem dX10_isBeyond_14 : decode cX10_isBeyond 14 = .ok (.goto (-12), 3) := by decide +kernel
theorem dX10_isBeyond_17 : decode cX10_isBeyond 17 = .ok (.iload_n 3, 1) := by decide +kernel
theorem dX10_isBeyond_18 : decode cX10_isBeyond 18 = .ok (.iload_n 2, 1) := by decide +kernel
theorem dX10_isBeyond_19 : decode cX10_isBeyond 19 = .ok (.if_icmp .ne 7, 3) := by decide +kernel
theorem dX10_isBeyond_22 : decode cX10_isBeyond 22 = .ok (.iconst 1, 1) := by decide +kernel
theorem dX10_isBeyond_23 : decode cX10_isBeyond 23 = .ok (.goto 4, 3) := by decide +kernel
theorem dX10_isBeyond_26 : decode cX10_isBeyond 26 = .ok (.iconst 0, 1) := by decide +kernel
theorem dX10_isBeyond_27 : decode cX10_isBeyond 27 = .ok (.ireturn, 1) := by decide +kernel
theorem dX10_cartsCome_0 : decode cX10_cartsCome 0 = .ok (.iconst 1, 1) := by decide +kernel
theorem dX10_cartsCome_1 : decode cX10_cartsCome 1 = .ok (.istore_n 2, 1) := by decide +kernel
theorem dX10_cartsCome_2 : decode cX10_cartsCome 2 = .ok (.iload_n 1, 1) := by decide +kernel
theorem dX10_cartsCome_3 : decode cX10_cartsCome 3 = .ok (.istore_n 3, 1) := by decide +kernel
theorem dX10_cartsCome_4 : decode cX10_cartsCome 4 = .ok (.iload_n 3, 1) := by decide +kernel
theorem dX10_cartsCome_5 : decode cX10_cartsCome 5 = .ok (.ifCond .le 32, 3) := by decide +kernel
theorem dX10_cartsCome_8 : decode cX10_cartsCome 8 = .ok (.iload_n 2, 1) := by decide +kernel
theorem dX10_cartsCome_9 : decode cX10_cartsCome 9 = .ok (.ifCond .eq 16, 3) := by decide +kernel
theorem dX10_cartsCome_12 : decode cX10_cartsCome 12 = .ok (.aload_n 0, 1) := by decide +kernel
theorem dX10_cartsCome_13 : decode cX10_cartsCome 13 = .ok (.iload_n 3, 1) := by decide +kernel
theorem dX10_cartsCome_14 : decode cX10_cartsCome 14 = .ok (.iconst 3, 1) := by decide +kernel
theorem dX10_cartsCome_15 : decode cX10_cartsCome 15 = .ok (.invokevirtual 49, 3) := by decide +kernel
theorem dX10_cartsCome_18 : decode cX10_cartsCome 18 = .ok (.ifCond .ne 7, 3) := by decide +kernel
theorem dX10_cartsCome_21 : decode cX10_cartsCome 21 = .ok (.iconst 1, 1) := by decide +kernel
theorem dX10_cartsCome_22 : decode cX10_cartsCome 22 = .ok (.goto 4, 3) := by decide +kernel
theorem dX10_cartsCome_25 : decode cX10_cartsCome 25 = .ok (.iconst 0, 1) := by decide +kernel
theorem dX10_cartsCome_26 : decode cX10_cartsCome 26 = .ok (.istore_n 2, 1) := by decide +kernel
theorem dX10_cartsCome_27 : decode cX10_cartsCome 27 = .ok (.aload_n 0, 1) := by decide +kernel
theorem dX10_cartsCome_28 : decode cX10_cartsCome 28 = .ok (.iload_n 3, 1) := by decide +kernel
theorem dX10_cartsCome_29 : decode cX10_cartsCome 29 = .ok (.iconst 0, 1) := by decide +kernel
theorem dX10_cartsCome_30 : decode cX10_cartsCome 30 = .ok (.invokevirtual 49, 3) := by decide +kernel
theorem dX10_cartsCome_33 : decode cX10_cartsCome 33 = .ok (.istore_n 3, 1) := by decide +kernel
theorem dX10_cartsCome_34 : decode cX10_cartsCome 34 = .ok (.goto (-30), 3) := by decide +kernel
theorem dX10_cartsCome_37 : decode cX10_cartsCome 37 = .ok (.iload_n 2, 1) := by decide +kernel
theorem dX10_cartsCome_38 : decode cX10_cartsCome 38 = .ok (.ireturn, 1) := by decide +kernel
theorem dX10_farOf_0 : decode cX10_farOf 0 = .ok (.iconst 0, 1) := by decide +kernel
theorem dX10_farOf_1 : decode cX10_farOf 1 = .ok (.istore_n 2, 1) := by decide +kernel
theorem dX10_farOf_2 : decode cX10_farOf 2 = .ok (.iload_n 1, 1) := by decide +kernel
theorem dX10_farOf_3 : decode cX10_farOf 3 = .ok (.istore_n 3, 1) := by decide +kernel
theorem dX10_farOf_4 : decode cX10_farOf 4 = .ok (.iload_n 3, 1) := by decide +kernel
theorem dX10_farOf_5 : decode cX10_farOf 5 = .ok (.ifCond .le 22, 3) := by decide +kernel
theorem dX10_farOf_8 : decode cX10_farOf 8 = .ok (.iload_n 2, 1) := by decide +kernel
theorem dX10_farOf_9 : decode cX10_farOf 9 = .ok (.aload_n 0, 1) := by decide +kernel
theorem dX10_farOf_10 : decode cX10_farOf 10 = .ok (.iload_n 3, 1) := by decide +kernel
theorem dX10_farOf_11 : decode cX10_farOf 11 = .ok (.iconst 1, 1) := by decide +kernel
theorem dX10_farOf_12 : decode cX10_farOf 12 = .ok (.invokevirtual 49, 3) := by decide +kernel
theorem dX10_farOf_15 : decode cX10_farOf 15 = .ok (.iadd, 1) := by decide +kernel
theorem dX10_farOf_16 : decode cX10_farOf 16 = .ok (.istore_n 2, 1) := by decide +kernel
theorem dX10_farOf_17 : decode cX10_farOf 17 = .ok (.aload_n 0, 1) := by decide +kernel
theorem dX10_farOf_18 : decode cX10_farOf 18 = .ok (.iload_n 3, 1) := by decide +kernel
theorem dX10_farOf_19 : decode cX10_farOf 19 = .ok (.iconst 0, 1) := by decide +kernel
theorem dX10_farOf_20 : decode cX10_farOf 20 = .ok (.invokevirtual 49, 3) := by decide +kernel
theorem dX10_farOf_23 : decode cX10_farOf 23 = .ok (.istore_n 3, 1) := by decide +kernel
theorem dX10_farOf_24 : decode cX10_farOf 24 = .ok (.goto (-20), 3) := by decide +kernel
theorem dX10_farOf_27 : decode cX10_farOf 27 = .ok (.iload_n 2, 1) := by decide +kernel
theorem dX10_farOf_28 : decode cX10_farOf 28 = .ok (.ireturn, 1) := by decide +kernel
theorem dX10_laysRow_0 : decode cX10_laysRow 0 = .ok (.aload_n 0, 1) := by decide +kernel
theorem dX10_laysRow_1 : decode cX10_laysRow 1 = .ok (.getfield 25, 3) := by decide +kernel
theorem dX10_laysRow_4 : decode cX10_laysRow 4 = .ok (.iconst 0, 1) := by decide +kernel
theorem dX10_laysRow_5 : decode cX10_laysRow 5 = .ok (.iconst 0, 1) := by decide +kernel
theorem dX10_laysRow_6 : decode cX10_laysRow 6 = .ok (.iastore, 1) := by decide +kernel
theorem dX10_laysRow_7 : decode cX10_laysRow 7 = .ok (.iconst 1, 1) := by decide +kernel
theorem dX10_laysRow_8 : decode cX10_laysRow 8 = .ok (.istore_n 1, 1) := by decide +kernel
theorem dX10_laysRow_9 : decode cX10_laysRow 9 = .ok (.iload_n 1, 1) := by decide +kernel
theorem dX10_laysRow_10 : decode cX10_laysRow 10 = .ok (.aload_n 0, 1) := by decide +kernel
theorem dX10_laysRow_11 : decode cX10_laysRow 11 = .ok (.getfield 7, 3) := by decide +kernel
theorem dX10_laysRow_14 : decode cX10_laysRow 14 = .ok (.iconst 0, 1) := by decide +kernel
theorem dX10_laysRow_15 : decode cX10_laysRow 15 = .ok (.iaload, 1) := by decide +kernel
theorem dX10_laysRow_16 : decode cX10_laysRow 16 = .ok (.if_icmp .ge 59, 3) := by decide +kernel
theorem dX10_laysRow_19 : decode cX10_laysRow 19 = .ok (.iload_n 1, 1) := by decide +kernel
theorem dX10_laysRow_20 : decode cX10_laysRow 20 = .ok (.istore_n 2, 1) := by decide +kernel
theorem dX10_laysRow_21 : decode cX10_laysRow 21 = .ok (.aload_n 0, 1) := by decide +kernel
theorem dX10_laysRow_22 : decode cX10_laysRow 22 = .ok (.aload_n 0, 1) := by decide +kernel
theorem dX10_laysRow_23 : decode cX10_laysRow 23 = .ok (.getfield 25, 3) := by decide +kernel
theorem dX10_laysRow_26 : decode cX10_laysRow 26 = .ok (.iload_n 2, 1) := by decide +kernel
theorem dX10_laysRow_27 : decode cX10_laysRow 27 = .ok (.iconst 1, 1) := by decide +kernel
theorem dX10_laysRow_28 : decode cX10_laysRow 28 = .ok (.isub, 1) := by decide +kernel
theorem dX10_laysRow_29 : decode cX10_laysRow 29 = .ok (.iaload, 1) := by decide +kernel
theorem dX10_laysRow_30 : decode cX10_laysRow 30 = .ok (.aload_n 0, 1) := by decide +kernel
theorem dX10_laysRow_31 : decode cX10_laysRow 31 = .ok (.iload_n 1, 1) := by decide +kernel
theorem dX10_laysRow_32 : decode cX10_laysRow 32 = .ok (.iconst 0, 1) := by decide +kernel
theorem dX10_laysRow_33 : decode cX10_laysRow 33 = .ok (.invokevirtual 49, 3) := by decide +kernel
theorem dX10_laysRow_36 : decode cX10_laysRow 36 = .ok (.invokevirtual 53, 3) := by decide +kernel
theorem dX10_laysRow_39 : decode cX10_laysRow 39 = .ok (.ifCond .ne 23, 3) := by decide +kernel
theorem dX10_laysRow_42 : decode cX10_laysRow 42 = .ok (.aload_n 0, 1) := by decide +kernel
theorem dX10_laysRow_43 : decode cX10_laysRow 43 = .ok (.getfield 25, 3) := by decide +kernel
theorem dX10_laysRow_46 : decode cX10_laysRow 46 = .ok (.iload_n 2, 1) := by decide +kernel
theorem dX10_laysRow_47 : decode cX10_laysRow 47 = .ok (.aload_n 0, 1) := by decide +kernel
theorem dX10_laysRow_48 : decode cX10_laysRow 48 = .ok (.getfield 25, 3) := by decide +kernel
theorem dX10_laysRow_51 : decode cX10_laysRow 51 = .ok (.iload_n 2, 1) := by decide +kernel
theorem dX10_laysRow_52 : decode cX10_laysRow 52 = .ok (.iconst 1, 1) := by decide +kernel
theorem dX10_laysRow_53 : decode cX10_laysRow 53 = .ok (.isub, 1) := by decide +kernel
theorem dX10_laysRow_54 : decode cX10_laysRow 54 = .ok (.iaload, 1) := by decide +kernel
theorem dX10_laysRow_55 : decode cX10_laysRow 55 = .ok (.iastore, 1) := by decide +kernel
theorem dX10_laysRow_56 : decode cX10_laysRow 56 = .ok (.iinc 2 (-1), 3) := by decide +kernel
theorem dX10_laysRow_59 : decode cX10_laysRow 59 = .ok (.goto (-38), 3) := by decide +kernel
theorem dX10_laysRow_62 : decode cX10_laysRow 62 = .ok (.aload_n 0, 1) := by decide +kernel
theorem dX10_laysRow_63 : decode cX10_laysRow 63 = .ok (.getfield 25, 3) := by decide +kernel
theorem dX10_laysRow_66 : decode cX10_laysRow 66 = .ok (.iload_n 2, 1) := by decide +kernel
theorem dX10_laysRow_67 : decode cX10_laysRow 67 = .ok (.iload_n 1, 1) := by decide +kernel
theorem dX10_laysRow_68 : decode cX10_laysRow 68 = .ok (.iastore, 1) := by decide +kernel
theorem dX10_laysRow_69 : decode cX10_laysRow 69 = .ok (.iinc 1 1, 3) := by decide +kernel
theorem dX10_laysRow_72 : decode cX10_laysRow 72 = .ok (.goto (-63), 3) := by decide +kernel
theorem dX10_laysRow_75 : decode cX10_laysRow 75 = .ok (.iconst 0, 1) := by decide +kernel
theorem dX10_laysRow_76 : decode cX10_laysRow 76 = .ok (.istore_n 1, 1) := by decide +kernel
theorem dX10_laysRow_77 : decode cX10_laysRow 77 = .ok (.iconst 0, 1) := by decide +kernel
theorem dX10_laysRow_78 : decode cX10_laysRow 78 = .ok (.istore_n 2, 1) := by decide +kernel
theorem dX10_laysRow_79 : decode cX10_laysRow 79 = .ok (.iload_n 2, 1) := by decide +kernel
theorem dX10_laysRow_80 : decode cX10_laysRow 80 = .ok (.aload_n 0, 1) := by decide +kernel
theorem dX10_laysRow_81 : decode cX10_laysRow 81 = .ok (.getfield 7, 3) := by decide +kernel
theorem dX10_laysRow_84 : decode cX10_laysRow 84 = .ok (.iconst 0, 1) := by decide +kernel
theorem dX10_laysRow_85 : decode cX10_laysRow 85 = .ok (.iaload, 1) := by decide +kernel
theorem dX10_laysRow_86 : decode cX10_laysRow 86 = .ok (.if_icmp .ge 52, 3) := by decide +kernel
theorem dX10_laysRow_89 : decode cX10_laysRow 89 = .ok (.iconst 0, 1) := by decide +kernel
theorem dX10_laysRow_90 : decode cX10_laysRow 90 = .ok (.istore_n 3, 1) := by decide +kernel
theorem dX10_laysRow_91 : decode cX10_laysRow 91 = .ok (.iload_n 3, 1) := by decide +kernel
theorem dX10_laysRow_92 : decode cX10_laysRow 92 = .ok (.aload_n 0, 1) := by decide +kernel
theorem dX10_laysRow_93 : decode cX10_laysRow 93 = .ok (.getfield 7, 3) := by decide +kernel
theorem dX10_laysRow_96 : decode cX10_laysRow 96 = .ok (.iconst 1, 1) := by decide +kernel
theorem dX10_laysRow_97 : decode cX10_laysRow 97 = .ok (.iaload, 1) := by decide +kernel
theorem dX10_laysRow_98 : decode cX10_laysRow 98 = .ok (.if_icmp .ge 34, 3) := by decide +kernel
theorem dX10_laysRow_101 : decode cX10_laysRow 101 = .ok (.aload_n 0, 1) := by decide +kernel
theorem dX10_laysRow_102 : decode cX10_laysRow 102 = .ok (.iload_n 3, 1) := by decide +kernel
theorem dX10_laysRow_103 : decode cX10_laysRow 103 = .ok (.iconst 0, 1) := by decide +kernel
theorem dX10_laysRow_104 : decode cX10_laysRow 104 = .ok (.invokevirtual 57, 3) := by decide +kernel
theorem dX10_laysRow_107 : decode cX10_laysRow 107 = .ok (.aload_n 0, 1) := by decide +kernel
theorem dX10_laysRow_108 : decode cX10_laysRow 108 = .ok (.getfield 25, 3) := by decide +kernel
theorem dX10_laysRow_111 : decode cX10_laysRow 111 = .ok (.iload_n 2, 1) := by decide +kernel
theorem dX10_laysRow_112 : decode cX10_laysRow 112 = .ok (.iaload, 1) := by decide +kernel
theorem dX10_laysRow_113 : decode cX10_laysRow 113 = .ok (.if_icmp .ne 13, 3) := by decide +kernel
theorem dX10_laysRow_116 : decode cX10_laysRow 116 = .ok (.aload_n 0, 1) := by decide +kernel
theorem dX10_laysRow_117 : decode cX10_laysRow 117 = .ok (.getfield 28, 3) := by decide +kernel
theorem dX10_laysRow_120 : decode cX10_laysRow 120 = .ok (.iload_n 1, 1) := by decide +kernel
theorem dX10_laysRow_121 : decode cX10_laysRow 121 = .ok (.iload_n 3, 1) := by decide +kernel
theorem dX10_laysRow_122 : decode cX10_laysRow 122 = .ok (.iastore, 1) := by decide +kernel
theorem dX10_laysRow_123 : decode cX10_laysRow 123 = .ok (.iinc 1 1, 3) := by decide +kernel
theorem dX10_laysRow_126 : decode cX10_laysRow 126 = .ok (.iinc 3 1, 3) := by decide +kernel
theorem dX10_laysRow_129 : decode cX10_laysRow 129 = .ok (.goto (-38), 3) := by decide +kernel
theorem dX10_laysRow_132 : decode cX10_laysRow 132 = .ok (.iinc 2 1, 3) := by decide +kernel
theorem dX10_laysRow_135 : decode cX10_laysRow 135 = .ok (.goto (-56), 3) := by decide +kernel
theorem dX10_laysRow_138 : decode cX10_laysRow 138 = .ok (.return_, 1) := by decide +kernel
theorem dX10_corner_0 : decode cX10_corner 0 = .ok (.aload_n 0, 1) := by decide +kernel
theorem dX10_corner_1 : decode cX10_corner 1 = .ok (.iload_n 1, 1) := by decide +kernel
theorem dX10_corner_2 : decode cX10_corner 2 = .ok (.invokevirtual 60, 3) := by decide +kernel
theorem dX10_corner_5 : decode cX10_corner 5 = .ok (.ifCond .eq 33, 3) := by decide +kernel
theorem dX10_corner_8 : decode cX10_corner 8 = .ok (.iload_n 2, 1) := by decide +kernel
theorem dX10_corner_9 : decode cX10_corner 9 = .ok (.iconst 1, 1) := by decide +kernel
theorem dX10_corner_10 : decode cX10_corner 10 = .ok (.bipush 50, 2) := by decide +kernel
theorem dX10_corner_12 : decode cX10_corner 12 = .ok (.invokestatic 45, 3) := by decide +kernel
theorem dX10_corner_15 : decode cX10_corner 15 = .ok (.ifCond .eq 23, 3) := by decide +kernel
theorem dX10_corner_18 : decode cX10_corner 18 = .ok (.iload_n 3, 1) := by decide +kernel
theorem dX10_corner_19 : decode cX10_corner 19 = .ok (.iconst 0, 1) := by decide +kernel
theorem dX10_corner_20 : decode cX10_corner 20 = .ok (.bipush 100, 2) := by decide +kernel
theorem dX10_corner_22 : decode cX10_corner 22 = .ok (.invokestatic 45, 3) := by decide +kernel
theorem dX10_corner_25 : decode cX10_corner 25 = .ok (.ifCond .eq 13, 3) := by decide +kernel
theorem dX10_corner_28 : decode cX10_corner 28 = .ok (.iload 4, 2) := by decide +kernel
theorem dX10_corner_30 : decode cX10_corner 30 = .ok (.iconst 0, 1) := by decide +kernel
theorem dX10_corner_31 : decode cX10_corner 31 = .ok (.iconst 1, 1) := by decide +kernel
theorem dX10_corner_32 : decode cX10_corner 32 = .ok (.invokestatic 45, 3) := by decide +kernel
theorem dX10_corner_35 : decode cX10_corner 35 = .ok (.ifCond .ne 5, 3) := by decide +kernel
theorem dX10_corner_38 : decode cX10_corner 38 = .ok (.iconst (-1), 1) := by decide +kernel
theorem dX10_corner_39 : decode cX10_corner 39 = .ok (.ireturn, 1) := by decide +kernel
theorem dX10_corner_40 : decode cX10_corner 40 = .ok (.aload_n 0, 1) := by decide +kernel
theorem dX10_corner_41 : decode cX10_corner 41 = .ok (.getfield 7, 3) := by decide +kernel
theorem dX10_corner_44 : decode cX10_corner 44 = .ok (.iconst 0, 1) := by decide +kernel
theorem dX10_corner_45 : decode cX10_corner 45 = .ok (.iaload, 1) := by decide +kernel
theorem dX10_corner_46 : decode cX10_corner 46 = .ok (.bipush 20, 2) := by decide +kernel
theorem dX10_corner_48 : decode cX10_corner 48 = .ok (.if_icmp .ne 6, 3) := by decide +kernel
theorem dX10_corner_51 : decode cX10_corner 51 = .ok (.bipush (-3), 2) := by decide +kernel
theorem dX10_corner_53 : decode cX10_corner 53 = .ok (.ireturn, 1) := by decide +kernel
theorem dX10_corner_54 : decode cX10_corner 54 = .ok (.aload_n 0, 1) := by decide +kernel
theorem dX10_corner_55 : decode cX10_corner 55 = .ok (.invokevirtual 64, 3) := by decide +kernel
theorem dX10_corner_58 : decode cX10_corner 58 = .ok (.bipush 10, 2) := by decide +kernel
theorem dX10_corner_60 : decode cX10_corner 60 = .ok (.iconst 4, 1) := by decide +kernel
theorem dX10_corner_61 : decode cX10_corner 61 = .ok (.aload_n 0, 1) := by decide +kernel
theorem dX10_corner_62 : decode cX10_corner 62 = .ok (.getfield 7, 3) := by decide +kernel
theorem dX10_corner_65 : decode cX10_corner 65 = .ok (.iconst 0, 1) := by decide +kernel
theorem dX10_corner_66 : decode cX10_corner 66 = .ok (.iaload, 1) := by decide +kernel
theorem dX10_corner_67 : decode cX10_corner 67 = .ok (.imul, 1) := by decide +kernel
theorem dX10_corner_68 : decode cX10_corner 68 = .ok (.iadd, 1) := by decide +kernel
theorem dX10_corner_69 : decode cX10_corner 69 = .ok (.istore 5, 2) := by decide +kernel
theorem dX10_corner_71 : decode cX10_corner 71 = .ok (.aload_n 0, 1) := by decide +kernel
theorem dX10_corner_72 : decode cX10_corner 72 = .ok (.getfield 7, 3) := by decide +kernel
theorem dX10_corner_75 : decode cX10_corner 75 = .ok (.iload 5, 2) := by decide +kernel
theorem dX10_corner_77 : decode cX10_corner 77 = .ok (.iconst 0, 1) := by decide +kernel
theorem dX10_corner_78 : decode cX10_corner 78 = .ok (.iadd, 1) := by decide +kernel
theorem dX10_corner_79 : decode cX10_corner 79 = .ok (.iload_n 1, 1) := by decide +kernel
theorem dX10_corner_80 : decode cX10_corner 80 = .ok (.iastore, 1) := by decide +kernel
theorem dX10_corner_81 : decode cX10_corner 81 = .ok (.aload_n 0, 1) := by decide +kernel
theorem dX10_corner_82 : decode cX10_corner 82 = .ok (.getfield 7, 3) := by decide +kernel
theorem dX10_corner_85 : decode cX10_corner 85 = .ok (.iload 5, 2) := by decide +kernel
theorem dX10_corner_87 : decode cX10_corner 87 = .ok (.iconst 1, 1) := by decide +kernel
theorem dX10_corner_88 : decode cX10_corner 88 = .ok (.iadd, 1) := by decide +kernel
theorem dX10_corner_89 : decode cX10_corner 89 = .ok (.iload_n 2, 1) := by decide +kernel
theorem dX10_corner_90 : decode cX10_corner 90 = .ok (.iastore, 1) := by decide +kernel
theorem dX10_corner_91 : decode cX10_corner 91 = .ok (.aload_n 0, 1) := by decide +kernel
theorem dX10_corner_92 : decode cX10_corner 92 = .ok (.getfield 7, 3) := by decide +kernel
theorem dX10_corner_95 : decode cX10_corner 95 = .ok (.iload 5, 2) := by decide +kernel
theorem dX10_corner_97 : decode cX10_corner 97 = .ok (.iconst 2, 1) := by decide +kernel
theorem dX10_corner_98 : decode cX10_corner 98 = .ok (.iadd, 1) := by decide +kernel
theorem dX10_corner_99 : decode cX10_corner 99 = .ok (.iload_n 3, 1) := by decide +kernel
theorem dX10_corner_100 : decode cX10_corner 100 = .ok (.iastore, 1) := by decide +kernel
theorem dX10_corner_101 : decode cX10_corner 101 = .ok (.aload_n 0, 1) := by decide +kernel
theorem dX10_corner_102 : decode cX10_corner 102 = .ok (.getfield 7, 3) := by decide +kernel
theorem dX10_corner_105 : decode cX10_corner 105 = .ok (.iload 5, 2) := by decide +kernel
theorem dX10_corner_107 : decode cX10_corner 107 = .ok (.iconst 3, 1) := by decide +kernel
theorem dX10_corner_108 : decode cX10_corner 108 = .ok (.iadd, 1) := by decide +kernel
theorem dX10_corner_109 : decode cX10_corner 109 = .ok (.iload 4, 2) := by decide +kernel
theorem dX10_corner_111 : decode cX10_corner 111 = .ok (.iastore, 1) := by decide +kernel
theorem dX10_corner_112 : decode cX10_corner 112 = .ok (.aload_n 0, 1) := by decide +kernel
theorem dX10_corner_113 : decode cX10_corner 113 = .ok (.getfield 7, 3) := by decide +kernel
theorem dX10_corner_116 : decode cX10_corner 116 = .ok (.iconst 0, 1) := by decide +kernel
theorem dX10_corner_117 : decode cX10_corner 117 = .ok (.dup2, 1) := by decide +kernel
theorem dX10_corner_118 : decode cX10_corner 118 = .ok (.iaload, 1) := by decide +kernel
theorem dX10_corner_119 : decode cX10_corner 119 = .ok (.iconst 1, 1) := by decide +kernel
theorem dX10_corner_120 : decode cX10_corner 120 = .ok (.iadd, 1) := by decide +kernel
theorem dX10_corner_121 : decode cX10_corner 121 = .ok (.iastore, 1) := by decide +kernel
theorem dX10_corner_122 : decode cX10_corner 122 = .ok (.aload_n 0, 1) := by decide +kernel
theorem dX10_corner_123 : decode cX10_corner 123 = .ok (.aload_n 0, 1) := by decide +kernel
theorem dX10_corner_124 : decode cX10_corner 124 = .ok (.getfield 7, 3) := by decide +kernel
theorem dX10_corner_127 : decode cX10_corner 127 = .ok (.iconst 0, 1) := by decide +kernel
theorem dX10_corner_128 : decode cX10_corner 128 = .ok (.iaload, 1) := by decide +kernel
theorem dX10_corner_129 : decode cX10_corner 129 = .ok (.iconst 1, 1) := by decide +kernel
theorem dX10_corner_130 : decode cX10_corner 130 = .ok (.isub, 1) := by decide +kernel
theorem dX10_corner_131 : decode cX10_corner 131 = .ok (.invokevirtual 67, 3) := by decide +kernel
theorem dX10_corner_134 : decode cX10_corner 134 = .ok (.ireturn, 1) := by decide +kernel
theorem dX10_house_0 : decode cX10_house 0 = .ok (.aload_n 0, 1) := by decide +kernel
theorem dX10_house_1 : decode cX10_house 1 = .ok (.iload_n 1, 1) := by decide +kernel
theorem dX10_house_2 : decode cX10_house 2 = .ok (.invokevirtual 60, 3) := by decide +kernel
theorem dX10_house_5 : decode cX10_house 5 = .ok (.ifCond .eq 23, 3) := by decide +kernel
theorem dX10_house_8 : decode cX10_house 8 = .ok (.iload_n 2, 1) := by decide +kernel
theorem dX10_house_9 : decode cX10_house 9 = .ok (.iconst 1, 1) := by decide +kernel
theorem dX10_house_10 : decode cX10_house 10 = .ok (.iconst 5, 1) := by decide +kernel
theorem dX10_house_11 : decode cX10_house 11 = .ok (.invokestatic 45, 3) := by decide +kernel
theorem dX10_house_14 : decode cX10_house 14 = .ok (.ifCond .eq 14, 3) := by decide +kernel
theorem dX10_house_17 : decode cX10_house 17 = .ok (.iload_n 3, 1) := by decide +kernel
theorem dX10_house_18 : decode cX10_house 18 = .ok (.iconst 0, 1) := by decide +kernel
theorem dX10_house_19 : decode cX10_house 19 = .ok (.sipush 500, 3) := by decide +kernel
theorem dX10_house_22 : decode cX10_house 22 = .ok (.invokestatic 45, 3) := by decide +kernel
theorem dX10_house_25 : decode cX10_house 25 = .ok (.ifCond .ne 5, 3) := by decide +kernel
theorem dX10_house_28 : decode cX10_house 28 = .ok (.iconst (-1), 1) := by decide +kernel
theorem dX10_house_29 : decode cX10_house 29 = .ok (.ireturn, 1) := by decide +kernel
theorem dX10_house_30 : decode cX10_house 30 = .ok (.aload_n 0, 1) := by decide +kernel
theorem dX10_house_31 : decode cX10_house 31 = .ok (.getfield 7, 3) := by decide +kernel
theorem dX10_house_34 : decode cX10_house 34 = .ok (.iconst 1, 1) := by decide +kernel
theorem dX10_house_35 : decode cX10_house 35 = .ok (.iaload, 1) := by decide +kernel
theorem dX10_house_36 : decode cX10_house 36 = .ok (.bipush 24, 2) := by decide +kernel
theorem dX10_house_38 : decode cX10_house 38 = .ok (.if_icmp .ne 6, 3) := by decide +kernel
theorem dX10_house_41 : decode cX10_house 41 = .ok (.bipush (-3), 2) := by decide +kernel
theorem dX10_house_43 : decode cX10_house 43 = .ok (.ireturn, 1) := by decide +kernel
theorem dX10_house_44 : decode cX10_house 44 = .ok (.aload_n 0, 1) := by decide +kernel
theorem dX10_house_45 : decode cX10_house 45 = .ok (.invokevirtual 64, 3) := by decide +kernel
theorem dX10_house_48 : decode cX10_house 48 = .ok (.aload_n 0, 1) := by decide +kernel
theorem dX10_house_49 : decode cX10_house 49 = .ok (.getfield 7, 3) := by decide +kernel
theorem dX10_house_52 : decode cX10_house 52 = .ok (.iconst 1, 1) := by decide +kernel
theorem dX10_house_53 : decode cX10_house 53 = .ok (.iaload, 1) := by decide +kernel
theorem dX10_house_54 : decode cX10_house 54 = .ok (.istore 4, 2) := by decide +kernel
theorem dX10_house_56 : decode cX10_house 56 = .ok (.aload_n 0, 1) := by decide +kernel
theorem dX10_house_57 : decode cX10_house 57 = .ok (.iload 4, 2) := by decide +kernel
theorem dX10_house_59 : decode cX10_house 59 = .ok (.iconst 0, 1) := by decide +kernel
theorem dX10_house_60 : decode cX10_house 60 = .ok (.iload_n 1, 1) := by decide +kernel
theorem dX10_house_61 : decode cX10_house 61 = .ok (.invokevirtual 71, 3) := by decide +kernel
theorem dX10_house_64 : decode cX10_house 64 = .ok (.aload_n 0, 1) := by decide +kernel
theorem dX10_house_65 : decode cX10_house 65 = .ok (.iload 4, 2) := by decide +kernel
theorem dX10_house_67 : decode cX10_house 67 = .ok (.iconst 1, 1) := by decide +kernel
theorem dX10_house_68 : decode cX10_house 68 = .ok (.iload_n 2, 1) := by decide +kernel
theorem dX10_house_69 : decode cX10_house 69 = .ok (.invokevirtual 71, 3) := by decide +kernel
theorem dX10_house_72 : decode cX10_house 72 = .ok (.aload_n 0, 1) := by decide +kernel
theorem dX10_house_73 : decode cX10_house 73 = .ok (.iload 4, 2) := by decide +kernel
theorem dX10_house_75 : decode cX10_house 75 = .ok (.iconst 2, 1) := by decide +kernel
theorem dX10_house_76 : decode cX10_house 76 = .ok (.iload_n 3, 1) := by decide +kernel
theorem dX10_house_77 : decode cX10_house 77 = .ok (.invokevirtual 71, 3) := by decide +kernel
theorem dX10_house_80 : decode cX10_house 80 = .ok (.aload_n 0, 1) := by decide +kernel
theorem dX10_house_81 : decode cX10_house 81 = .ok (.iload 4, 2) := by decide +kernel
theorem dX10_house_83 : decode cX10_house 83 = .ok (.iconst 3, 1) := by decide +kernel
theorem dX10_house_84 : decode cX10_house 84 = .ok (.iconst (-1), 1) := by decide +kernel
theorem dX10_house_85 : decode cX10_house 85 = .ok (.invokevirtual 71, 3) := by decide +kernel
theorem dX10_house_88 : decode cX10_house 88 = .ok (.aload_n 0, 1) := by decide +kernel
theorem dX10_house_89 : decode cX10_house 89 = .ok (.getfield 7, 3) := by decide +kernel
theorem dX10_house_92 : decode cX10_house 92 = .ok (.iconst 1, 1) := by decide +kernel
theorem dX10_house_93 : decode cX10_house 93 = .ok (.dup2, 1) := by decide +kernel
theorem dX10_house_94 : decode cX10_house 94 = .ok (.iaload, 1) := by decide +kernel
theorem dX10_house_95 : decode cX10_house 95 = .ok (.iconst 1, 1) := by decide +kernel
theorem dX10_house_96 : decode cX10_house 96 = .ok (.iadd, 1) := by decide +kernel
theorem dX10_house_97 : decode cX10_house 97 = .ok (.iastore, 1) := by decide +kernel
theorem dX10_house_98 : decode cX10_house 98 = .ok (.aload_n 0, 1) := by decide +kernel
theorem dX10_house_99 : decode cX10_house 99 = .ok (.iload 4, 2) := by decide +kernel
theorem dX10_house_101 : decode cX10_house 101 = .ok (.invokevirtual 67, 3) := by decide +kernel
theorem dX10_house_104 : decode cX10_house 104 = .ok (.ireturn, 1) := by decide +kernel
theorem dX10_dog_0 : decode cX10_dog 0 = .ok (.aload_n 0, 1) := by decide +kernel
theorem dX10_dog_1 : decode cX10_dog 1 = .ok (.iload_n 1, 1) := by decide +kernel
theorem dX10_dog_2 : decode cX10_dog 2 = .ok (.invokevirtual 75, 3) := by decide +kernel
theorem dX10_dog_5 : decode cX10_dog 5 = .ok (.ifCond .eq 27, 3) := by decide +kernel
theorem dX10_dog_8 : decode cX10_dog 8 = .ok (.iload_n 2, 1) := by decide +kernel
theorem dX10_dog_9 : decode cX10_dog 9 = .ok (.ifCond .eq 13, 3) := by decide +kernel
theorem dX10_dog_12 : decode cX10_dog 12 = .ok (.iload_n 2, 1) := by decide +kernel
theorem dX10_dog_13 : decode cX10_dog 13 = .ok (.iconst 2, 1) := by decide +kernel
theorem dX10_dog_14 : decode cX10_dog 14 = .ok (.bipush 9, 2) := by decide +kernel
theorem dX10_dog_16 : decode cX10_dog 16 = .ok (.invokestatic 45, 3) := by decide +kernel
theorem dX10_dog_19 : decode cX10_dog 19 = .ok (.ifCond .eq 13, 3) := by decide +kernel
theorem dX10_dog_22 : decode cX10_dog 22 = .ok (.iload_n 3, 1) := by decide +kernel
theorem dX10_dog_23 : decode cX10_dog 23 = .ok (.iconst 0, 1) := by decide +kernel
theorem dX10_dog_24 : decode cX10_dog 24 = .ok (.bipush 8, 2) := by decide +kernel
theorem dX10_dog_26 : decode cX10_dog 26 = .ok (.invokestatic 45, 3) := by decide +kernel
theorem dX10_dog_29 : decode cX10_dog 29 = .ok (.ifCond .ne 5, 3) := by decide +kernel
theorem dX10_dog_32 : decode cX10_dog 32 = .ok (.iconst (-1), 1) := by decide +kernel
theorem dX10_dog_33 : decode cX10_dog 33 = .ok (.ireturn, 1) := by decide +kernel
theorem dX10_dog_34 : decode cX10_dog 34 = .ok (.aload_n 0, 1) := by decide +kernel
theorem dX10_dog_35 : decode cX10_dog 35 = .ok (.invokevirtual 64, 3) := by decide +kernel
theorem dX10_dog_38 : decode cX10_dog 38 = .ok (.aload_n 0, 1) := by decide +kernel
theorem dX10_dog_39 : decode cX10_dog 39 = .ok (.iload_n 1, 1) := by decide +kernel
theorem dX10_dog_40 : decode cX10_dog 40 = .ok (.iconst 4, 1) := by decide +kernel
theorem dX10_dog_41 : decode cX10_dog 41 = .ok (.invokevirtual 57, 3) := by decide +kernel
theorem dX10_dog_44 : decode cX10_dog 44 = .ok (.istore 4, 2) := by decide +kernel
theorem dX10_dog_46 : decode cX10_dog 46 = .ok (.aload_n 0, 1) := by decide +kernel
theorem dX10_dog_47 : decode cX10_dog 47 = .ok (.iload_n 1, 1) := by decide +kernel
theorem dX10_dog_48 : decode cX10_dog 48 = .ok (.iconst 4, 1) := by decide +kernel
theorem dX10_dog_49 : decode cX10_dog 49 = .ok (.iload_n 2, 1) := by decide +kernel
theorem dX10_dog_50 : decode cX10_dog 50 = .ok (.invokevirtual 71, 3) := by decide +kernel
theorem dX10_dog_53 : decode cX10_dog 53 = .ok (.aload_n 0, 1) := by decide +kernel
theorem dX10_dog_54 : decode cX10_dog 54 = .ok (.iload_n 1, 1) := by decide +kernel
theorem dX10_dog_55 : decode cX10_dog 55 = .ok (.iconst 5, 1) := by decide +kernel
theorem dX10_dog_56 : decode cX10_dog 56 = .ok (.iload_n 3, 1) := by decide +kernel
theorem dX10_dog_57 : decode cX10_dog 57 = .ok (.invokevirtual 71, 3) := by decide +kernel
theorem dX10_dog_60 : decode cX10_dog 60 = .ok (.aload_n 0, 1) := by decide +kernel
theorem dX10_dog_61 : decode cX10_dog 61 = .ok (.iload 4, 2) := by decide +kernel
theorem dX10_dog_63 : decode cX10_dog 63 = .ok (.invokevirtual 67, 3) := by decide +kernel
theorem dX10_dog_66 : decode cX10_dog 66 = .ok (.ireturn, 1) := by decide +kernel
theorem dX10_pauses_0 : decode cX10_pauses 0 = .ok (.aload_n 0, 1) := by decide +kernel
theorem dX10_pauses_1 : decode cX10_pauses 1 = .ok (.iload_n 1, 1) := by decide +kernel
theorem dX10_pauses_2 : decode cX10_pauses 2 = .ok (.invokevirtual 75, 3) := by decide +kernel
theorem dX10_pauses_5 : decode cX10_pauses 5 = .ok (.ifCond .eq 30, 3) := by decide +kernel
theorem dX10_pauses_8 : decode cX10_pauses 8 = .ok (.iload_n 2, 1) := by decide +kernel
theorem dX10_pauses_9 : decode cX10_pauses 9 = .ok (.aload_n 0, 1) := by decide +kernel
theorem dX10_pauses_10 : decode cX10_pauses 10 = .ok (.getfield 7, 3) := by decide +kernel
theorem dX10_pauses_13 : decode cX10_pauses 13 = .ok (.iconst 4, 1) := by decide +kernel
theorem dX10_pauses_14 : decode cX10_pauses 14 = .ok (.iaload, 1) := by decide +kernel
theorem dX10_pauses_15 : decode cX10_pauses 15 = .ok (.sipush 999, 3) := by decide +kernel
theorem dX10_pauses_18 : decode cX10_pauses 18 = .ok (.invokestatic 45, 3) := by decide +kernel
theorem dX10_pauses_21 : decode cX10_pauses 21 = .ok (.ifCond .eq 14, 3) := by decide +kernel
theorem dX10_pauses_24 : decode cX10_pauses 24 = .ok (.iload_n 3, 1) := by decide +kernel
theorem dX10_pauses_25 : decode cX10_pauses 25 = .ok (.iload_n 2, 1) := by decide +kernel
theorem dX10_pauses_26 : decode cX10_pauses 26 = .ok (.sipush 999, 3) := by decide +kernel
theorem dX10_pauses_29 : decode cX10_pauses 29 = .ok (.invokestatic 45, 3) := by decide +kernel
theorem dX10_pauses_32 : decode cX10_pauses 32 = .ok (.ifCond .ne 5, 3) := by decide +kernel
theorem dX10_pauses_35 : decode cX10_pauses 35 = .ok (.iconst (-1), 1) := by decide +kernel
theorem dX10_pauses_36 : decode cX10_pauses 36 = .ok (.ireturn, 1) := by decide +kernel
theorem dX10_pauses_37 : decode cX10_pauses 37 = .ok (.aload_n 0, 1) := by decide +kernel
theorem dX10_pauses_38 : decode cX10_pauses 38 = .ok (.getfield 7, 3) := by decide +kernel
theorem dX10_pauses_41 : decode cX10_pauses 41 = .ok (.iconst 3, 1) := by decide +kernel
theorem dX10_pauses_42 : decode cX10_pauses 42 = .ok (.iaload, 1) := by decide +kernel
theorem dX10_pauses_43 : decode cX10_pauses 43 = .ok (.bipush 30, 2) := by decide +kernel
theorem dX10_pauses_45 : decode cX10_pauses 45 = .ok (.if_icmp .ne 6, 3) := by decide +kernel
theorem dX10_pauses_48 : decode cX10_pauses 48 = .ok (.bipush (-3), 2) := by decide +kernel
theorem dX10_pauses_50 : decode cX10_pauses 50 = .ok (.ireturn, 1) := by decide +kernel
theorem dX10_pauses_51 : decode cX10_pauses 51 = .ok (.sipush 447, 3) := by decide +kernel
theorem dX10_pauses_54 : decode cX10_pauses 54 = .ok (.iconst 3, 1) := by decide +kernel
theorem dX10_pauses_55 : decode cX10_pauses 55 = .ok (.aload_n 0, 1) := by decide +kernel
theorem dX10_pauses_56 : decode cX10_pauses 56 = .ok (.getfield 7, 3) := by decide +kernel
theorem dX10_pauses_59 : decode cX10_pauses 59 = .ok (.iconst 3, 1) := by decide +kernel
theorem dX10_pauses_60 : decode cX10_pauses 60 = .ok (.iaload, 1) := by decide +kernel
theorem dX10_pauses_61 : decode cX10_pauses 61 = .ok (.imul, 1) := by decide +kernel
theorem dX10_pauses_62 : decode cX10_pauses 62 = .ok (.iadd, 1) := by decide +kernel
theorem dX10_pauses_63 : decode cX10_pauses 63 = .ok (.istore 4, 2) := by decide +kernel
theorem dX10_pauses_65 : decode cX10_pauses 65 = .ok (.aload_n 0, 1) := by decide +kernel
theorem dX10_pauses_66 : decode cX10_pauses 66 = .ok (.getfield 7, 3) := by decide +kernel
theorem dX10_pauses_69 : decode cX10_pauses 69 = .ok (.iload 4, 2) := by decide +kernel
theorem dX10_pauses_71 : decode cX10_pauses 71 = .ok (.iload_n 1, 1) := by decide +kernel
theorem dX10_pauses_72 : decode cX10_pauses 72 = .ok (.iastore, 1) := by decide +kernel
theorem dX10_pauses_73 : decode cX10_pauses 73 = .ok (.aload_n 0, 1) := by decide +kernel
theorem dX10_pauses_74 : decode cX10_pauses 74 = .ok (.getfield 7, 3) := by decide +kernel
theorem dX10_pauses_77 : decode cX10_pauses 77 = .ok (.iload 4, 2) := by decide +kernel
theorem dX10_pauses_79 : decode cX10_pauses 79 = .ok (.iconst 1, 1) := by decide +kernel
theorem dX10_pauses_80 : decode cX10_pauses 80 = .ok (.iadd, 1) := by decide +kernel
theorem dX10_pauses_81 : decode cX10_pauses 81 = .ok (.iload_n 2, 1) := by decide +kernel
theorem dX10_pauses_82 : decode cX10_pauses 82 = .ok (.iastore, 1) := by decide +kernel
theorem dX10_pauses_83 : decode cX10_pauses 83 = .ok (.aload_n 0, 1) := by decide +kernel
theorem dX10_pauses_84 : decode cX10_pauses 84 = .ok (.getfield 7, 3) := by decide +kernel
theorem dX10_pauses_87 : decode cX10_pauses 87 = .ok (.iload 4, 2) := by decide +kernel
theorem dX10_pauses_89 : decode cX10_pauses 89 = .ok (.iconst 2, 1) := by decide +kernel
theorem dX10_pauses_90 : decode cX10_pauses 90 = .ok (.iadd, 1) := by decide +kernel
theorem dX10_pauses_91 : decode cX10_pauses 91 = .ok (.iload_n 3, 1) := by decide +kernel
theorem dX10_pauses_92 : decode cX10_pauses 92 = .ok (.iastore, 1) := by decide +kernel
theorem dX10_pauses_93 : decode cX10_pauses 93 = .ok (.aload_n 0, 1) := by decide +kernel
theorem dX10_pauses_94 : decode cX10_pauses 94 = .ok (.getfield 7, 3) := by decide +kernel
theorem dX10_pauses_97 : decode cX10_pauses 97 = .ok (.iconst 3, 1) := by decide +kernel
theorem dX10_pauses_98 : decode cX10_pauses 98 = .ok (.dup2, 1) := by decide +kernel
theorem dX10_pauses_99 : decode cX10_pauses 99 = .ok (.iaload, 1) := by decide +kernel
theorem dX10_pauses_100 : decode cX10_pauses 100 = .ok (.iconst 1, 1) := by decide +kernel
theorem dX10_pauses_101 : decode cX10_pauses 101 = .ok (.iadd, 1) := by decide +kernel
theorem dX10_pauses_102 : decode cX10_pauses 102 = .ok (.iastore, 1) := by decide +kernel
theorem dX10_pauses_103 : decode cX10_pauses 103 = .ok (.aload_n 0, 1) := by decide +kernel
theorem dX10_pauses_104 : decode cX10_pauses 104 = .ok (.getfield 7, 3) := by decide +kernel
theorem dX10_pauses_107 : decode cX10_pauses 107 = .ok (.iconst 3, 1) := by decide +kernel
theorem dX10_pauses_108 : decode cX10_pauses 108 = .ok (.iaload, 1) := by decide +kernel
theorem dX10_pauses_109 : decode cX10_pauses 109 = .ok (.iconst 1, 1) := by decide +kernel
theorem dX10_pauses_110 : decode cX10_pauses 110 = .ok (.isub, 1) := by decide +kernel
theorem dX10_pauses_111 : decode cX10_pauses 111 = .ok (.ireturn, 1) := by decide +kernel
theorem dX10_pause_0 : decode cX10_pause 0 = .ok (.aload_n 0, 1) := by decide +kernel
theorem dX10_pause_1 : decode cX10_pause 1 = .ok (.invokevirtual 64, 3) := by decide +kernel
theorem dX10_pause_4 : decode cX10_pause 4 = .ok (.aload_n 0, 1) := by decide +kernel
theorem dX10_pause_5 : decode cX10_pause 5 = .ok (.aload_n 0, 1) := by decide +kernel
theorem dX10_pause_6 : decode cX10_pause 6 = .ok (.iload_n 1, 1) := by decide +kernel
theorem dX10_pause_7 : decode cX10_pause 7 = .ok (.iload_n 2, 1) := by decide +kernel
theorem dX10_pause_8 : decode cX10_pause 8 = .ok (.iload_n 3, 1) := by decide +kernel
theorem dX10_pause_9 : decode cX10_pause 9 = .ok (.invokevirtual 78, 3) := by decide +kernel
theorem dX10_pause_12 : decode cX10_pause 12 = .ok (.invokevirtual 67, 3) := by decide +kernel
theorem dX10_pause_15 : decode cX10_pause 15 = .ok (.ireturn, 1) := by decide +kernel
theorem dX10_carrier_0 : decode cX10_carrier 0 = .ok (.iload_n 1, 1) := by decide +kernel
theorem dX10_carrier_1 : decode cX10_carrier 1 = .ok (.iconst 0, 1) := by decide +kernel
theorem dX10_carrier_2 : decode cX10_carrier 2 = .ok (.iconst 1, 1) := by decide +kernel
theorem dX10_carrier_3 : decode cX10_carrier 3 = .ok (.invokestatic 45, 3) := by decide +kernel
theorem dX10_carrier_6 : decode cX10_carrier 6 = .ok (.ifCond .eq 15, 3) := by decide +kernel
theorem dX10_carrier_9 : decode cX10_carrier 9 = .ok (.iload_n 2, 1) := by decide +kernel
theorem dX10_carrier_10 : decode cX10_carrier 10 = .ok (.bipush 10, 2) := by decide +kernel
theorem dX10_carrier_12 : decode cX10_carrier 12 = .ok (.sipush 500, 3) := by decide +kernel
theorem dX10_carrier_15 : decode cX10_carrier 15 = .ok (.invokestatic 45, 3) := by decide +kernel
theorem dX10_carrier_18 : decode cX10_carrier 18 = .ok (.ifCond .ne 5, 3) := by decide +kernel
theorem dX10_carrier_21 : decode cX10_carrier 21 = .ok (.iconst (-1), 1) := by decide +kernel
theorem dX10_carrier_22 : decode cX10_carrier 22 = .ok (.ireturn, 1) := by decide +kernel
theorem dX10_carrier_23 : decode cX10_carrier 23 = .ok (.aload_n 0, 1) := by decide +kernel
theorem dX10_carrier_24 : decode cX10_carrier 24 = .ok (.getfield 7, 3) := by decide +kernel
theorem dX10_carrier_27 : decode cX10_carrier 27 = .ok (.iconst 2, 1) := by decide +kernel
theorem dX10_carrier_28 : decode cX10_carrier 28 = .ok (.iaload, 1) := by decide +kernel
theorem dX10_carrier_29 : decode cX10_carrier 29 = .ok (.iconst 3, 1) := by decide +kernel
theorem dX10_carrier_30 : decode cX10_carrier 30 = .ok (.if_icmp .ne 6, 3) := by decide +kernel
theorem dX10_carrier_33 : decode cX10_carrier 33 = .ok (.bipush (-3), 2) := by decide +kernel
theorem dX10_carrier_35 : decode cX10_carrier 35 = .ok (.ireturn, 1) := by decide +kernel
theorem dX10_carrier_36 : decode cX10_carrier 36 = .ok (.aload_n 0, 1) := by decide +kernel
theorem dX10_carrier_37 : decode cX10_carrier 37 = .ok (.invokevirtual 64, 3) := by decide +kernel
theorem dX10_carrier_40 : decode cX10_carrier 40 = .ok (.aload_n 0, 1) := by decide +kernel
theorem dX10_carrier_41 : decode cX10_carrier 41 = .ok (.aload_n 0, 1) := by decide +kernel
theorem dX10_carrier_42 : decode cX10_carrier 42 = .ok (.getfield 7, 3) := by decide +kernel
theorem dX10_carrier_45 : decode cX10_carrier 45 = .ok (.iconst 2, 1) := by decide +kernel
theorem dX10_carrier_46 : decode cX10_carrier 46 = .ok (.iaload, 1) := by decide +kernel
theorem dX10_carrier_47 : decode cX10_carrier 47 = .ok (.iconst 0, 1) := by decide +kernel
theorem dX10_carrier_48 : decode cX10_carrier 48 = .ok (.iload_n 1, 1) := by decide +kernel
theorem dX10_carrier_49 : decode cX10_carrier 49 = .ok (.invokevirtual 82, 3) := by decide +kernel
theorem dX10_carrier_52 : decode cX10_carrier 52 = .ok (.aload_n 0, 1) := by decide +kernel
theorem dX10_carrier_53 : decode cX10_carrier 53 = .ok (.aload_n 0, 1) := by decide +kernel
theorem dX10_carrier_54 : decode cX10_carrier 54 = .ok (.getfield 7, 3) := by decide +kernel
theorem dX10_carrier_57 : decode cX10_carrier 57 = .ok (.iconst 2, 1) := by decide +kernel
theorem dX10_carrier_58 : decode cX10_carrier 58 = .ok (.iaload, 1) := by decide +kernel
theorem dX10_carrier_59 : decode cX10_carrier 59 = .ok (.iconst 1, 1) := by decide +kernel
theorem dX10_carrier_60 : decode cX10_carrier 60 = .ok (.iload_n 2, 1) := by decide +kernel
theorem dX10_carrier_61 : decode cX10_carrier 61 = .ok (.invokevirtual 82, 3) := by decide +kernel
theorem dX10_carrier_64 : decode cX10_carrier 64 = .ok (.aload_n 0, 1) := by decide +kernel
theorem dX10_carrier_65 : decode cX10_carrier 65 = .ok (.getfield 7, 3) := by decide +kernel
theorem dX10_carrier_68 : decode cX10_carrier 68 = .ok (.iconst 2, 1) := by decide +kernel
theorem dX10_carrier_69 : decode cX10_carrier 69 = .ok (.dup2, 1) := by decide +kernel
theorem dX10_carrier_70 : decode cX10_carrier 70 = .ok (.iaload, 1) := by decide +kernel
theorem dX10_carrier_71 : decode cX10_carrier 71 = .ok (.iconst 1, 1) := by decide +kernel
theorem dX10_carrier_72 : decode cX10_carrier 72 = .ok (.iadd, 1) := by decide +kernel
theorem dX10_carrier_73 : decode cX10_carrier 73 = .ok (.iastore, 1) := by decide +kernel
theorem dX10_carrier_74 : decode cX10_carrier 74 = .ok (.aload_n 0, 1) := by decide +kernel
theorem dX10_carrier_75 : decode cX10_carrier 75 = .ok (.aload_n 0, 1) := by decide +kernel
theorem dX10_carrier_76 : decode cX10_carrier 76 = .ok (.getfield 7, 3) := by decide +kernel
theorem dX10_carrier_79 : decode cX10_carrier 79 = .ok (.iconst 2, 1) := by decide +kernel
theorem dX10_carrier_80 : decode cX10_carrier 80 = .ok (.iaload, 1) := by decide +kernel
theorem dX10_carrier_81 : decode cX10_carrier 81 = .ok (.iconst 1, 1) := by decide +kernel
theorem dX10_carrier_82 : decode cX10_carrier 82 = .ok (.isub, 1) := by decide +kernel
theorem dX10_carrier_83 : decode cX10_carrier 83 = .ok (.invokevirtual 67, 3) := by decide +kernel
theorem dX10_carrier_86 : decode cX10_carrier 86 = .ok (.ireturn, 1) := by decide +kernel
theorem dX10_housesOf_0 : decode cX10_housesOf 0 = .ok (.iconst 0, 1) := by decide +kernel
theorem dX10_housesOf_1 : decode cX10_housesOf 1 = .ok (.istore_n 2, 1) := by decide +kernel
theorem dX10_housesOf_2 : decode cX10_housesOf 2 = .ok (.iconst 0, 1) := by decide +kernel
theorem dX10_housesOf_3 : decode cX10_housesOf 3 = .ok (.istore_n 3, 1) := by decide +kernel
theorem dX10_housesOf_4 : decode cX10_housesOf 4 = .ok (.iload_n 3, 1) := by decide +kernel
theorem dX10_housesOf_5 : decode cX10_housesOf 5 = .ok (.aload_n 0, 1) := by decide +kernel
theorem dX10_housesOf_6 : decode cX10_housesOf 6 = .ok (.getfield 7, 3) := by decide +kernel
theorem dX10_housesOf_9 : decode cX10_housesOf 9 = .ok (.iconst 1, 1) := by decide +kernel
theorem dX10_housesOf_10 : decode cX10_housesOf 10 = .ok (.iaload, 1) := by decide +kernel
theorem dX10_housesOf_11 : decode cX10_housesOf 11 = .ok (.if_icmp .ge 27, 3) := by decide +kernel
theorem dX10_housesOf_14 : decode cX10_housesOf 14 = .ok (.iload_n 2, 1) := by decide +kernel
theorem dX10_housesOf_15 : decode cX10_housesOf 15 = .ok (.aload_n 0, 1) := by decide +kernel
theorem dX10_housesOf_16 : decode cX10_housesOf 16 = .ok (.iload_n 3, 1) := by decide +kernel
theorem dX10_housesOf_17 : decode cX10_housesOf 17 = .ok (.iconst 3, 1) := by decide +kernel
theorem dX10_housesOf_18 : decode cX10_housesOf 18 = .ok (.invokevirtual 57, 3) := by decide +kernel
theorem dX10_housesOf_21 : decode cX10_housesOf 21 = .ok (.iload_n 1, 1) := by decide +kernel
theorem dX10_housesOf_22 : decode cX10_housesOf 22 = .ok (.if_icmp .ne 7, 3) := by decide +kernel
theorem dX10_housesOf_25 : decode cX10_housesOf 25 = .ok (.iconst 1, 1) := by decide +kernel
theorem dX10_housesOf_26 : decode cX10_housesOf 26 = .ok (.goto 4, 3) := by decide +kernel
theorem dX10_housesOf_29 : decode cX10_housesOf 29 = .ok (.iconst 0, 1) := by decide +kernel
theorem dX10_housesOf_30 : decode cX10_housesOf 30 = .ok (.iadd, 1) := by decide +kernel
theorem dX10_housesOf_31 : decode cX10_housesOf 31 = .ok (.istore_n 2, 1) := by decide +kernel
theorem dX10_housesOf_32 : decode cX10_housesOf 32 = .ok (.iinc 3 1, 3) := by decide +kernel
theorem dX10_housesOf_35 : decode cX10_housesOf 35 = .ok (.goto (-31), 3) := by decide +kernel
theorem dX10_housesOf_38 : decode cX10_housesOf 38 = .ok (.iload_n 2, 1) := by decide +kernel
theorem dX10_housesOf_39 : decode cX10_housesOf 39 = .ok (.ireturn, 1) := by decide +kernel
theorem dX10_canReach_0 : decode cX10_canReach 0 = .ok (.aload_n 0, 1) := by decide +kernel
theorem dX10_canReach_1 : decode cX10_canReach 1 = .ok (.iload_n 1, 1) := by decide +kernel
theorem dX10_canReach_2 : decode cX10_canReach 2 = .ok (.iconst 0, 1) := by decide +kernel
theorem dX10_canReach_3 : decode cX10_canReach 3 = .ok (.invokevirtual 85, 3) := by decide +kernel
theorem dX10_canReach_6 : decode cX10_canReach 6 = .ok (.ifCond .eq 16, 3) := by decide +kernel
theorem dX10_canReach_9 : decode cX10_canReach 9 = .ok (.aload_n 0, 1) := by decide +kernel
theorem dX10_canReach_10 : decode cX10_canReach 10 = .ok (.aload_n 0, 1) := by decide +kernel
theorem dX10_canReach_11 : decode cX10_canReach 11 = .ok (.iload_n 2, 1) := by decide +kernel
theorem dX10_canReach_12 : decode cX10_canReach 12 = .ok (.iconst 0, 1) := by decide +kernel
theorem dX10_canReach_13 : decode cX10_canReach 13 = .ok (.invokevirtual 57, 3) := by decide +kernel
theorem dX10_canReach_16 : decode cX10_canReach 16 = .ok (.invokevirtual 88, 3) := by decide +kernel
theorem dX10_canReach_19 : decode cX10_canReach 19 = .ok (.ifCond .eq 7, 3) := by decide +kernel
theorem dX10_canReach_22 : decode cX10_canReach 22 = .ok (.iconst 1, 1) := by decide +kernel
theorem dX10_canReach_23 : decode cX10_canReach 23 = .ok (.goto 4, 3) := by decide +kernel
theorem dX10_canReach_26 : decode cX10_canReach 26 = .ok (.iconst 0, 1) := by decide +kernel
theorem dX10_canReach_27 : decode cX10_canReach 27 = .ok (.ireturn, 1) := by decide +kernel
theorem dX10_gives_0 : decode cX10_gives 0 = .ok (.aload_n 0, 1) := by decide +kernel
theorem dX10_gives_1 : decode cX10_gives 1 = .ok (.iload_n 1, 1) := by decide +kernel
theorem dX10_gives_2 : decode cX10_gives 2 = .ok (.invokevirtual 75, 3) := by decide +kernel
theorem dX10_gives_5 : decode cX10_gives 5 = .ok (.ifCond .eq 11, 3) := by decide +kernel
theorem dX10_gives_8 : decode cX10_gives 8 = .ok (.aload_n 0, 1) := by decide +kernel
theorem dX10_gives_9 : decode cX10_gives 9 = .ok (.iload_n 2, 1) := by decide +kernel
theorem dX10_gives_10 : decode cX10_gives 10 = .ok (.invokevirtual 91, 3) := by decide +kernel
theorem dX10_gives_13 : decode cX10_gives 13 = .ok (.ifCond .ne 5, 3) := by decide +kernel
theorem dX10_gives_16 : decode cX10_gives 16 = .ok (.iconst (-1), 1) := by decide +kernel
theorem dX10_gives_17 : decode cX10_gives 17 = .ok (.ireturn, 1) := by decide +kernel
theorem dX10_gives_18 : decode cX10_gives 18 = .ok (.aload_n 0, 1) := by decide +kernel
theorem dX10_gives_19 : decode cX10_gives 19 = .ok (.iload_n 1, 1) := by decide +kernel
theorem dX10_gives_20 : decode cX10_gives 20 = .ok (.iconst 3, 1) := by decide +kernel
theorem dX10_gives_21 : decode cX10_gives 21 = .ok (.invokevirtual 57, 3) := by decide +kernel
theorem dX10_gives_24 : decode cX10_gives 24 = .ok (.iload_n 2, 1) := by decide +kernel
theorem dX10_gives_25 : decode cX10_gives 25 = .ok (.if_icmp .eq 12, 3) := by decide +kernel
theorem dX10_gives_28 : decode cX10_gives 28 = .ok (.aload_n 0, 1) := by decide +kernel
theorem dX10_gives_29 : decode cX10_gives 29 = .ok (.iload_n 2, 1) := by decide +kernel
theorem dX10_gives_30 : decode cX10_gives 30 = .ok (.iload_n 1, 1) := by decide +kernel
theorem dX10_gives_31 : decode cX10_gives 31 = .ok (.invokevirtual 94, 3) := by decide +kernel
theorem dX10_gives_34 : decode cX10_gives 34 = .ok (.ifCond .ne 6, 3) := by decide +kernel
theorem dX10_gives_37 : decode cX10_gives 37 = .ok (.bipush (-2), 2) := by decide +kernel
theorem dX10_gives_39 : decode cX10_gives 39 = .ok (.ireturn, 1) := by decide +kernel
theorem dX10_gives_40 : decode cX10_gives 40 = .ok (.aload_n 0, 1) := by decide +kernel
theorem dX10_gives_41 : decode cX10_gives 41 = .ok (.iload_n 1, 1) := by decide +kernel
theorem dX10_gives_42 : decode cX10_gives 42 = .ok (.iconst 3, 1) := by decide +kernel
theorem dX10_gives_43 : decode cX10_gives 43 = .ok (.iload_n 2, 1) := by decide +kernel
theorem dX10_gives_44 : decode cX10_gives 44 = .ok (.invokevirtual 71, 3) := by decide +kernel
theorem dX10_gives_47 : decode cX10_gives 47 = .ok (.aload_n 0, 1) := by decide +kernel
theorem dX10_gives_48 : decode cX10_gives 48 = .ok (.iload_n 2, 1) := by decide +kernel
theorem dX10_gives_49 : decode cX10_gives 49 = .ok (.invokevirtual 97, 3) := by decide +kernel
theorem dX10_gives_52 : decode cX10_gives 52 = .ok (.ireturn, 1) := by decide +kernel
theorem dX10_give_0 : decode cX10_give 0 = .ok (.aload_n 0, 1) := by decide +kernel
theorem dX10_give_1 : decode cX10_give 1 = .ok (.invokevirtual 64, 3) := by decide +kernel
theorem dX10_give_4 : decode cX10_give 4 = .ok (.aload_n 0, 1) := by decide +kernel
theorem dX10_give_5 : decode cX10_give 5 = .ok (.aload_n 0, 1) := by decide +kernel
theorem dX10_give_6 : decode cX10_give 6 = .ok (.iload_n 1, 1) := by decide +kernel
theorem dX10_give_7 : decode cX10_give 7 = .ok (.iload_n 2, 1) := by decide +kernel
theorem dX10_give_8 : decode cX10_give 8 = .ok (.invokevirtual 100, 3) := by decide +kernel
theorem dX10_give_11 : decode cX10_give 11 = .ok (.invokevirtual 67, 3) := by decide +kernel
theorem dX10_give_14 : decode cX10_give 14 = .ok (.ireturn, 1) := by decide +kernel
theorem dX10_givesNone_0 : decode cX10_givesNone 0 = .ok (.aload_n 0, 1) := by decide +kernel
theorem dX10_givesNone_1 : decode cX10_givesNone 1 = .ok (.iload_n 1, 1) := by decide +kernel
theorem dX10_givesNone_2 : decode cX10_givesNone 2 = .ok (.invokevirtual 75, 3) := by decide +kernel
theorem dX10_givesNone_5 : decode cX10_givesNone 5 = .ok (.ifCond .ne 5, 3) := by decide +kernel
theorem dX10_givesNone_8 : decode cX10_givesNone 8 = .ok (.iconst (-1), 1) := by decide +kernel
theorem dX10_givesNone_9 : decode cX10_givesNone 9 = .ok (.ireturn, 1) := by decide +kernel
theorem dX10_givesNone_10 : decode cX10_givesNone 10 = .ok (.aload_n 0, 1) := by decide +kernel
theorem dX10_givesNone_11 : decode cX10_givesNone 11 = .ok (.iload_n 1, 1) := by decide +kernel
theorem dX10_givesNone_12 : decode cX10_givesNone 12 = .ok (.iconst 3, 1) := by decide +kernel
theorem dX10_givesNone_13 : decode cX10_givesNone 13 = .ok (.invokevirtual 57, 3) := by decide +kernel
theorem dX10_givesNone_16 : decode cX10_givesNone 16 = .ok (.istore_n 2, 1) := by decide +kernel
theorem dX10_givesNone_17 : decode cX10_givesNone 17 = .ok (.iload_n 2, 1) := by decide +kernel
theorem dX10_givesNone_18 : decode cX10_givesNone 18 = .ok (.iconst (-1), 1) := by decide +kernel
theorem dX10_givesNone_19 : decode cX10_givesNone 19 = .ok (.if_icmp .ne 6, 3) := by decide +kernel
theorem dX10_givesNone_22 : decode cX10_givesNone 22 = .ok (.bipush (-2), 2) := by decide +kernel
theorem dX10_givesNone_24 : decode cX10_givesNone 24 = .ok (.ireturn, 1) := by decide +kernel
theorem dX10_givesNone_25 : decode cX10_givesNone 25 = .ok (.aload_n 0, 1) := by decide +kernel
theorem dX10_givesNone_26 : decode cX10_givesNone 26 = .ok (.iload_n 1, 1) := by decide +kernel
theorem dX10_givesNone_27 : decode cX10_givesNone 27 = .ok (.iconst 3, 1) := by decide +kernel
theorem dX10_givesNone_28 : decode cX10_givesNone 28 = .ok (.iconst (-1), 1) := by decide +kernel
theorem dX10_givesNone_29 : decode cX10_givesNone 29 = .ok (.invokevirtual 71, 3) := by decide +kernel
theorem dX10_givesNone_32 : decode cX10_givesNone 32 = .ok (.iload_n 2, 1) := by decide +kernel
theorem dX10_givesNone_33 : decode cX10_givesNone 33 = .ok (.ireturn, 1) := by decide +kernel
theorem dX10_giveNone_0 : decode cX10_giveNone 0 = .ok (.aload_n 0, 1) := by decide +kernel
theorem dX10_giveNone_1 : decode cX10_giveNone 1 = .ok (.invokevirtual 64, 3) := by decide +kernel
theorem dX10_giveNone_4 : decode cX10_giveNone 4 = .ok (.aload_n 0, 1) := by decide +kernel
theorem dX10_giveNone_5 : decode cX10_giveNone 5 = .ok (.aload_n 0, 1) := by decide +kernel
theorem dX10_giveNone_6 : decode cX10_giveNone 6 = .ok (.iload_n 1, 1) := by decide +kernel
theorem dX10_giveNone_7 : decode cX10_giveNone 7 = .ok (.invokevirtual 103, 3) := by decide +kernel
theorem dX10_giveNone_10 : decode cX10_giveNone 10 = .ok (.invokevirtual 67, 3) := by decide +kernel
theorem dX10_giveNone_13 : decode cX10_giveNone 13 = .ok (.ireturn, 1) := by decide +kernel
theorem dX10_addsBiscuits_0 : decode cX10_addsBiscuits 0 = .ok (.aload_n 0, 1) := by decide +kernel
theorem dX10_addsBiscuits_1 : decode cX10_addsBiscuits 1 = .ok (.iload_n 1, 1) := by decide +kernel
theorem dX10_addsBiscuits_2 : decode cX10_addsBiscuits 2 = .ok (.invokevirtual 91, 3) := by decide +kernel
theorem dX10_addsBiscuits_5 : decode cX10_addsBiscuits 5 = .ok (.ifCond .eq 13, 3) := by decide +kernel
theorem dX10_addsBiscuits_8 : decode cX10_addsBiscuits 8 = .ok (.iload_n 2, 1) := by decide +kernel
theorem dX10_addsBiscuits_9 : decode cX10_addsBiscuits 9 = .ok (.iconst 1, 1) := by decide +kernel
theorem dX10_addsBiscuits_10 : decode cX10_addsBiscuits 10 = .ok (.bipush 99, 2) := by decide +kernel
theorem dX10_addsBiscuits_12 : decode cX10_addsBiscuits 12 = .ok (.invokestatic 45, 3) := by decide +kernel
theorem dX10_addsBiscuits_15 : decode cX10_addsBiscuits 15 = .ok (.ifCond .ne 5, 3) := by decide +kernel
theorem dX10_addsBiscuits_18 : decode cX10_addsBiscuits 18 = .ok (.iconst (-1), 1) := by decide +kernel
theorem dX10_addsBiscuits_19 : decode cX10_addsBiscuits 19 = .ok (.ireturn, 1) := by decide +kernel
theorem dX10_addsBiscuits_20 : decode cX10_addsBiscuits 20 = .ok (.aload_n 0, 1) := by decide +kernel
theorem dX10_addsBiscuits_21 : decode cX10_addsBiscuits 21 = .ok (.iload_n 1, 1) := by decide +kernel
theorem dX10_addsBiscuits_22 : decode cX10_addsBiscuits 22 = .ok (.iconst 2, 1) := by decide +kernel
theorem dX10_addsBiscuits_23 : decode cX10_addsBiscuits 23 = .ok (.invokevirtual 85, 3) := by decide +kernel
theorem dX10_addsBiscuits_26 : decode cX10_addsBiscuits 26 = .ok (.iload_n 2, 1) := by decide +kernel
theorem dX10_addsBiscuits_27 : decode cX10_addsBiscuits 27 = .ok (.iadd, 1) := by decide +kernel
theorem dX10_addsBiscuits_28 : decode cX10_addsBiscuits 28 = .ok (.sipush 500, 3) := by decide +kernel
theorem dX10_addsBiscuits_31 : decode cX10_addsBiscuits 31 = .ok (.if_icmp .le 6, 3) := by decide +kernel
theorem dX10_addsBiscuits_34 : decode cX10_addsBiscuits 34 = .ok (.bipush (-3), 2) := by decide +kernel
theorem dX10_addsBiscuits_36 : decode cX10_addsBiscuits 36 = .ok (.ireturn, 1) := by decide +kernel
theorem dX10_addsBiscuits_37 : decode cX10_addsBiscuits 37 = .ok (.aload_n 0, 1) := by decide +kernel
theorem dX10_addsBiscuits_38 : decode cX10_addsBiscuits 38 = .ok (.iload_n 1, 1) := by decide +kernel
theorem dX10_addsBiscuits_39 : decode cX10_addsBiscuits 39 = .ok (.iconst 2, 1) := by decide +kernel
theorem dX10_addsBiscuits_40 : decode cX10_addsBiscuits 40 = .ok (.iload_n 2, 1) := by decide +kernel
theorem dX10_addsBiscuits_41 : decode cX10_addsBiscuits 41 = .ok (.invokevirtual 82, 3) := by decide +kernel
theorem dX10_addsBiscuits_44 : decode cX10_addsBiscuits 44 = .ok (.aload_n 0, 1) := by decide +kernel
theorem dX10_addsBiscuits_45 : decode cX10_addsBiscuits 45 = .ok (.iload_n 1, 1) := by decide +kernel
theorem dX10_addsBiscuits_46 : decode cX10_addsBiscuits 46 = .ok (.iconst 2, 1) := by decide +kernel
theorem dX10_addsBiscuits_47 : decode cX10_addsBiscuits 47 = .ok (.invokevirtual 85, 3) := by decide +kernel
theorem dX10_addsBiscuits_50 : decode cX10_addsBiscuits 50 = .ok (.ireturn, 1) := by decide +kernel
theorem dX10_biscuits_0 : decode cX10_biscuits 0 = .ok (.aload_n 0, 1) := by decide +kernel
theorem dX10_biscuits_1 : decode cX10_biscuits 1 = .ok (.invokevirtual 64, 3) := by decide +kernel
theorem dX10_biscuits_4 : decode cX10_biscuits 4 = .ok (.aload_n 0, 1) := by decide +kernel
theorem dX10_biscuits_5 : decode cX10_biscuits 5 = .ok (.aload_n 0, 1) := by decide +kernel
theorem dX10_biscuits_6 : decode cX10_biscuits 6 = .ok (.iload_n 1, 1) := by decide +kernel
theorem dX10_biscuits_7 : decode cX10_biscuits 7 = .ok (.iload_n 2, 1) := by decide +kernel
theorem dX10_biscuits_8 : decode cX10_biscuits 8 = .ok (.invokevirtual 106, 3) := by decide +kernel
theorem dX10_biscuits_11 : decode cX10_biscuits 11 = .ok (.invokevirtual 67, 3) := by decide +kernel
theorem dX10_biscuits_14 : decode cX10_biscuits 14 = .ok (.ireturn, 1) := by decide +kernel
theorem dX10_set_0 : decode cX10_set 0 = .ok (.iload_n 1, 1) := by decide +kernel
theorem dX10_set_1 : decode cX10_set 1 = .ok (.iconst 0, 1) := by decide +kernel
theorem dX10_set_2 : decode cX10_set 2 = .ok (.iconst 1, 1) := by decide +kernel
theorem dX10_set_3 : decode cX10_set 3 = .ok (.invokestatic 45, 3) := by decide +kernel
theorem dX10_set_6 : decode cX10_set 6 = .ok (.ifCond .eq 22, 3) := by decide +kernel
theorem dX10_set_9 : decode cX10_set 9 = .ok (.iload_n 2, 1) := by decide +kernel
theorem dX10_set_10 : decode cX10_set 10 = .ok (.iconst 1, 1) := by decide +kernel
theorem dX10_set_11 : decode cX10_set 11 = .ok (.iload_n 1, 1) := by decide +kernel
theorem dX10_set_12 : decode cX10_set 12 = .ok (.ifCond .ne 8, 3) := by decide +kernel
theorem dX10_set_15 : decode cX10_set 15 = .ok (.bipush 20, 2) := by decide +kernel
theorem dX10_set_17 : decode cX10_set 17 = .ok (.goto 5, 3) := by decide +kernel
theorem dX10_set_20 : decode cX10_set 20 = .ok (.bipush 50, 2) := by decide +kernel
theorem dX10_set_22 : decode cX10_set 22 = .ok (.invokestatic 45, 3) := by decide +kernel
theorem dX10_set_25 : decode cX10_set 25 = .ok (.ifCond .ne 5, 3) := by decide +kernel
theorem dX10_set_28 : decode cX10_set 28 = .ok (.iconst (-1), 1) := by decide +kernel
theorem dX10_set_29 : decode cX10_set 29 = .ok (.ireturn, 1) := by decide +kernel
theorem dX10_set_30 : decode cX10_set 30 = .ok (.aload_n 0, 1) := by decide +kernel
theorem dX10_set_31 : decode cX10_set 31 = .ok (.invokevirtual 64, 3) := by decide +kernel
theorem dX10_set_34 : decode cX10_set 34 = .ok (.aload_n 0, 1) := by decide +kernel
theorem dX10_set_35 : decode cX10_set 35 = .ok (.getfield 7, 3) := by decide +kernel
theorem dX10_set_38 : decode cX10_set 38 = .ok (.iconst 5, 1) := by decide +kernel
theorem dX10_set_39 : decode cX10_set 39 = .ok (.iload_n 1, 1) := by decide +kernel
theorem dX10_set_40 : decode cX10_set 40 = .ok (.iadd, 1) := by decide +kernel
theorem dX10_set_41 : decode cX10_set 41 = .ok (.iaload, 1) := by decide +kernel
theorem dX10_set_42 : decode cX10_set 42 = .ok (.istore_n 3, 1) := by decide +kernel
theorem dX10_set_43 : decode cX10_set 43 = .ok (.aload_n 0, 1) := by decide +kernel
theorem dX10_set_44 : decode cX10_set 44 = .ok (.getfield 7, 3) := by decide +kernel
theorem dX10_set_47 : decode cX10_set 47 = .ok (.iconst 5, 1) := by decide +kernel
theorem dX10_set_48 : decode cX10_set 48 = .ok (.iload_n 1, 1) := by decide +kernel
theorem dX10_set_49 : decode cX10_set 49 = .ok (.iadd, 1) := by decide +kernel
theorem dX10_set_50 : decode cX10_set 50 = .ok (.iload_n 2, 1) := by decide +kernel
theorem dX10_set_51 : decode cX10_set 51 = .ok (.iastore, 1) := by decide +kernel
theorem dX10_set_52 : decode cX10_set 52 = .ok (.aload_n 0, 1) := by decide +kernel
theorem dX10_set_53 : decode cX10_set 53 = .ok (.iload_n 3, 1) := by decide +kernel
theorem dX10_set_54 : decode cX10_set 54 = .ok (.invokevirtual 67, 3) := by decide +kernel
theorem dX10_set_57 : decode cX10_set 57 = .ok (.ireturn, 1) := by decide +kernel
theorem dX10_isPaused_0 : decode cX10_isPaused 0 = .ok (.iconst 0, 1) := by decide +kernel
theorem dX10_isPaused_1 : decode cX10_isPaused 1 = .ok (.istore_n 3, 1) := by decide +kernel
theorem dX10_isPaused_2 : decode cX10_isPaused 2 = .ok (.iconst 0, 1) := by decide +kernel
theorem dX10_isPaused_3 : decode cX10_isPaused 3 = .ok (.istore 4, 2) := by decide +kernel
theorem dX10_isPaused_5 : decode cX10_isPaused 5 = .ok (.iload 4, 2) := by decide +kernel
theorem dX10_isPaused_7 : decode cX10_isPaused 7 = .ok (.aload_n 0, 1) := by decide +kernel
theorem dX10_isPaused_8 : decode cX10_isPaused 8 = .ok (.getfield 7, 3) := by decide +kernel
theorem dX10_isPaused_11 : decode cX10_isPaused 11 = .ok (.iconst 3, 1) := by decide +kernel
theorem dX10_isPaused_12 : decode cX10_isPaused 12 = .ok (.iaload, 1) := by decide +kernel
theorem dX10_isPaused_13 : decode cX10_isPaused 13 = .ok (.if_icmp .ge 65, 3) := by decide +kernel
theorem dX10_isPaused_16 : decode cX10_isPaused 16 = .ok (.sipush 447, 3) := by decide +kernel
theorem dX10_isPaused_19 : decode cX10_isPaused 19 = .ok (.iconst 3, 1) := by decide +kernel
theorem dX10_isPaused_20 : decode cX10_isPaused 20 = .ok (.iload 4, 2) := by decide +kernel
theorem dX10_isPaused_22 : decode cX10_isPaused 22 = .ok (.imul, 1) := by decide +kernel
theorem dX10_isPaused_23 : decode cX10_isPaused 23 = .ok (.iadd, 1) := by decide +kernel
theorem dX10_isPaused_24 : decode cX10_isPaused 24 = .ok (.istore 5, 2) := by decide +kernel
theorem dX10_isPaused_26 : decode cX10_isPaused 26 = .ok (.iload_n 3, 1) := by decide +kernel
theorem dX10_isPaused_27 : decode cX10_isPaused 27 = .ok (.ifCond .ne 39, 3) := by decide +kernel
theorem dX10_isPaused_30 : decode cX10_isPaused 30 = .ok (.aload_n 0, 1) := by decide +kernel
theorem dX10_isPaused_31 : decode cX10_isPaused 31 = .ok (.getfield 7, 3) := by decide +kernel
theorem dX10_isPaused_34 : decode cX10_isPaused 34 = .ok (.iload 5, 2) := by decide +kernel
theorem dX10_isPaused_36 : decode cX10_isPaused 36 = .ok (.iaload, 1) := by decide +kernel
theorem dX10_isPaused_37 : decode cX10_isPaused 37 = .ok (.iload_n 1, 1) := by decide +kernel
theorem dX10_isPaused_38 : decode cX10_isPaused 38 = .ok (.if_icmp .ne 32, 3) := by decide +kernel
theorem dX10_isPaused_41 : decode cX10_isPaused 41 = .ok (.iload_n 2, 1) := by decide +kernel
theorem dX10_isPaused_42 : decode cX10_isPaused 42 = .ok (.aload_n 0, 1) := by decide +kernel
theorem dX10_isPaused_43 : decode cX10_isPaused 43 = .ok (.getfield 7, 3) := by decide +kernel
theorem dX10_isPaused_46 : decode cX10_isPaused 46 = .ok (.iload 5, 2) := by decide +kernel
theorem dX10_isPaused_48 : decode cX10_isPaused 48 = .ok (.iconst 1, 1) := by decide +kernel
theorem dX10_isPaused_49 : decode cX10_isPaused 49 = .ok (.iadd, 1) := by decide +kernel
theorem dX10_isPaused_50 : decode cX10_isPaused 50 = .ok (.iaload, 1) := by decide +kernel
theorem dX10_isPaused_51 : decode cX10_isPaused 51 = .ok (.aload_n 0, 1) := by decide +kernel
theorem dX10_isPaused_52 : decode cX10_isPaused 52 = .ok (.getfield 7, 3) := by decide +kernel
theorem dX10_isPaused_55 : decode cX10_isPaused 55 = .ok (.iload 5, 2) := by decide +kernel
theorem dX10_isPaused_57 : decode cX10_isPaused 57 = .ok (.iconst 2, 1) := by decide +kernel
theorem dX10_isPaused_58 : decode cX10_isPaused 58 = .ok (.iadd, 1) := by decide +kernel
theorem dX10_isPaused_59 : decode cX10_isPaused 59 = .ok (.iaload, 1) := by decide +kernel
theorem dX10_isPaused_60 : decode cX10_isPaused 60 = .ok (.invokestatic 45, 3) := by decide +kernel
theorem dX10_isPaused_63 : decode cX10_isPaused 63 = .ok (.ifCond .eq 7, 3) := by decide +kernel
theorem dX10_isPaused_66 : decode cX10_isPaused 66 = .ok (.iconst 1, 1) := by decide +kernel
theorem dX10_isPaused_67 : decode cX10_isPaused 67 = .ok (.goto 4, 3) := by decide +kernel
theorem dX10_isPaused_70 : decode cX10_isPaused 70 = .ok (.iconst 0, 1) := by decide +kernel
theorem dX10_isPaused_71 : decode cX10_isPaused 71 = .ok (.istore_n 3, 1) := by decide +kernel
theorem dX10_isPaused_72 : decode cX10_isPaused 72 = .ok (.iinc 4 1, 3) := by decide +kernel
theorem dX10_isPaused_75 : decode cX10_isPaused 75 = .ok (.goto (-70), 3) := by decide +kernel
theorem dX10_isPaused_78 : decode cX10_isPaused 78 = .ok (.iload_n 3, 1) := by decide +kernel
theorem dX10_isPaused_79 : decode cX10_isPaused 79 = .ok (.ireturn, 1) := by decide +kernel
theorem dX10_isOut_0 : decode cX10_isOut 0 = .ok (.aload_n 0, 1) := by decide +kernel
theorem dX10_isOut_1 : decode cX10_isOut 1 = .ok (.iload_n 1, 1) := by decide +kernel
theorem dX10_isOut_2 : decode cX10_isOut 2 = .ok (.iconst 4, 1) := by decide +kernel
theorem dX10_isOut_3 : decode cX10_isOut 3 = .ok (.invokevirtual 57, 3) := by decide +kernel
theorem dX10_isOut_6 : decode cX10_isOut 6 = .ok (.istore_n 3, 1) := by decide +kernel
theorem dX10_isOut_7 : decode cX10_isOut 7 = .ok (.iload_n 3, 1) := by decide +kernel
theorem dX10_isOut_8 : decode cX10_isOut 8 = .ok (.ifCond .le 21, 3) := by decide +kernel
theorem dX10_isOut_11 : decode cX10_isOut 11 = .ok (.iload_n 2, 1) := by decide +kernel
theorem dX10_isOut_12 : decode cX10_isOut 12 = .ok (.iload_n 3, 1) := by decide +kernel
theorem dX10_isOut_13 : decode cX10_isOut 13 = .ok (.irem, 1) := by decide +kernel
theorem dX10_isOut_14 : decode cX10_isOut 14 = .ok (.aload_n 0, 1) := by decide +kernel
theorem dX10_isOut_15 : decode cX10_isOut 15 = .ok (.iload_n 1, 1) := by decide +kernel
theorem dX10_isOut_16 : decode cX10_isOut 16 = .ok (.iconst 5, 1) := by decide +kernel
theorem dX10_isOut_17 : decode cX10_isOut 17 = .ok (.invokevirtual 57, 3) := by decide +kernel
theorem dX10_isOut_20 : decode cX10_isOut 20 = .ok (.iload_n 3, 1) := by decide +kernel
theorem dX10_isOut_21 : decode cX10_isOut 21 = .ok (.irem, 1) := by decide +kernel
theorem dX10_isOut_22 : decode cX10_isOut 22 = .ok (.if_icmp .ne 7, 3) := by decide +kernel
theorem dX10_isOut_25 : decode cX10_isOut 25 = .ok (.iconst 1, 1) := by decide +kernel
theorem dX10_isOut_26 : decode cX10_isOut 26 = .ok (.goto 4, 3) := by decide +kernel
theorem dX10_isOut_29 : decode cX10_isOut 29 = .ok (.iconst 0, 1) := by decide +kernel
theorem dX10_isOut_30 : decode cX10_isOut 30 = .ok (.ireturn, 1) := by decide +kernel
theorem dX10_weightOn_0 : decode cX10_weightOn 0 = .ok (.aload_n 0, 1) := by decide +kernel
theorem dX10_weightOn_1 : decode cX10_weightOn 1 = .ok (.iload_n 1, 1) := by decide +kernel
theorem dX10_weightOn_2 : decode cX10_weightOn 2 = .ok (.iconst 1, 1) := by decide +kernel
theorem dX10_weightOn_3 : decode cX10_weightOn 3 = .ok (.invokevirtual 57, 3) := by decide +kernel
theorem dX10_weightOn_6 : decode cX10_weightOn 6 = .ok (.iload_n 2, 1) := by decide +kernel
theorem dX10_weightOn_7 : decode cX10_weightOn 7 = .ok (.bipush 7, 2) := by decide +kernel
theorem dX10_weightOn_9 : decode cX10_weightOn 9 = .ok (.irem, 1) := by decide +kernel
theorem dX10_weightOn_10 : decode cX10_weightOn 10 = .ok (.bipush 6, 2) := by decide +kernel
theorem dX10_weightOn_12 : decode cX10_weightOn 12 = .ok (.if_icmp .ne 13, 3) := by decide +kernel
theorem dX10_weightOn_15 : decode cX10_weightOn 15 = .ok (.aload_n 0, 1) := by decide +kernel
theorem dX10_weightOn_16 : decode cX10_weightOn 16 = .ok (.getfield 7, 3) := by decide +kernel
theorem dX10_weightOn_19 : decode cX10_weightOn 19 = .ok (.bipush 6, 2) := by decide +kernel
theorem dX10_weightOn_21 : decode cX10_weightOn 21 = .ok (.iaload, 1) := by decide +kernel
theorem dX10_weightOn_22 : decode cX10_weightOn 22 = .ok (.goto 9, 3) := by decide +kernel
theorem dX10_weightOn_25 : decode cX10_weightOn 25 = .ok (.aload_n 0, 1) := by decide +kernel
theorem dX10_weightOn_26 : decode cX10_weightOn 26 = .ok (.getfield 7, 3) := by decide +kernel
theorem dX10_weightOn_29 : decode cX10_weightOn 29 = .ok (.iconst 5, 1) := by decide +kernel
theorem dX10_weightOn_30 : decode cX10_weightOn 30 = .ok (.iaload, 1) := by decide +kernel
theorem dX10_weightOn_31 : decode cX10_weightOn 31 = .ok (.imul, 1) := by decide +kernel
theorem dX10_weightOn_32 : decode cX10_weightOn 32 = .ok (.ireturn, 1) := by decide +kernel
theorem dX10_loads_0 : decode cX10_loads 0 = .ok (.iload_n 1, 1) := by decide +kernel
theorem dX10_loads_1 : decode cX10_loads 1 = .ok (.istore_n 3, 1) := by decide +kernel
theorem dX10_loads_2 : decode cX10_loads 2 = .ok (.iload_n 3, 1) := by decide +kernel
theorem dX10_loads_3 : decode cX10_loads 3 = .ok (.ifCond .le 23, 3) := by decide +kernel
theorem dX10_loads_6 : decode cX10_loads 6 = .ok (.aload_n 0, 1) := by decide +kernel
theorem dX10_loads_7 : decode cX10_loads 7 = .ok (.getfield 31, 3) := by decide +kernel
theorem dX10_loads_10 : decode cX10_loads 10 = .ok (.iload_n 3, 1) := by decide +kernel
theorem dX10_loads_11 : decode cX10_loads 11 = .ok (.dup2, 1) := by decide +kernel
theorem dX10_loads_12 : decode cX10_loads 12 = .ok (.iaload, 1) := by decide +kernel
theorem dX10_loads_13 : decode cX10_loads 13 = .ok (.iload_n 2, 1) := by decide +kernel
theorem dX10_loads_14 : decode cX10_loads 14 = .ok (.iadd, 1) := by decide +kernel
theorem dX10_loads_15 : decode cX10_loads 15 = .ok (.iastore, 1) := by decide +kernel
theorem dX10_loads_16 : decode cX10_loads 16 = .ok (.aload_n 0, 1) := by decide +kernel
theorem dX10_loads_17 : decode cX10_loads 17 = .ok (.iload_n 3, 1) := by decide +kernel
theorem dX10_loads_18 : decode cX10_loads 18 = .ok (.iconst 0, 1) := by decide +kernel
theorem dX10_loads_19 : decode cX10_loads 19 = .ok (.invokevirtual 49, 3) := by decide +kernel
theorem dX10_loads_22 : decode cX10_loads 22 = .ok (.istore_n 3, 1) := by decide +kernel
theorem dX10_loads_23 : decode cX10_loads 23 = .ok (.goto (-21), 3) := by decide +kernel
theorem dX10_loads_26 : decode cX10_loads 26 = .ok (.return_, 1) := by decide +kernel
theorem dX10_endsTrip_0 : decode cX10_endsTrip 0 = .ok (.aload_n 0, 1) := by decide +kernel
theorem dX10_endsTrip_1 : decode cX10_endsTrip 1 = .ok (.iload_n 1, 1) := by decide +kernel
theorem dX10_endsTrip_2 : decode cX10_endsTrip 2 = .ok (.iconst 0, 1) := by decide +kernel
theorem dX10_endsTrip_3 : decode cX10_endsTrip 3 = .ok (.invokevirtual 85, 3) := by decide +kernel
theorem dX10_endsTrip_6 : decode cX10_endsTrip 6 = .ok (.iconst 1, 1) := by decide +kernel
theorem dX10_endsTrip_7 : decode cX10_endsTrip 7 = .ok (.if_icmp .ne 8, 3) := by decide +kernel
theorem dX10_endsTrip_10 : decode cX10_endsTrip 10 = .ok (.bipush 20, 2) := by decide +kernel
theorem dX10_endsTrip_12 : decode cX10_endsTrip 12 = .ok (.goto 5, 3) := by decide +kernel
theorem dX10_endsTrip_15 : decode cX10_endsTrip 15 = .ok (.bipush 10, 2) := by decide +kernel
theorem dX10_endsTrip_17 : decode cX10_endsTrip 17 = .ok (.istore_n 2, 1) := by decide +kernel
theorem dX10_endsTrip_18 : decode cX10_endsTrip 18 = .ok (.iconst 1, 1) := by decide +kernel
theorem dX10_endsTrip_19 : decode cX10_endsTrip 19 = .ok (.istore_n 3, 1) := by decide +kernel
theorem dX10_endsTrip_20 : decode cX10_endsTrip 20 = .ok (.iload_n 3, 1) := by decide +kernel
theorem dX10_endsTrip_21 : decode cX10_endsTrip 21 = .ok (.aload_n 0, 1) := by decide +kernel
theorem dX10_endsTrip_22 : decode cX10_endsTrip 22 = .ok (.getfield 7, 3) := by decide +kernel
theorem dX10_endsTrip_25 : decode cX10_endsTrip 25 = .ok (.iconst 0, 1) := by decide +kernel
theorem dX10_endsTrip_26 : decode cX10_endsTrip 26 = .ok (.iaload, 1) := by decide +kernel
theorem dX10_endsTrip_27 : decode cX10_endsTrip 27 = .ok (.if_icmp .ge 87, 3) := by decide +kernel
theorem dX10_endsTrip_30 : decode cX10_endsTrip 30 = .ok (.aload_n 0, 1) := by decide +kernel
theorem dX10_endsTrip_31 : decode cX10_endsTrip 31 = .ok (.iload_n 3, 1) := by decide +kernel
theorem dX10_endsTrip_32 : decode cX10_endsTrip 32 = .ok (.iconst 2, 1) := by decide +kernel
theorem dX10_endsTrip_33 : decode cX10_endsTrip 33 = .ok (.invokevirtual 49, 3) := by decide +kernel
theorem dX10_endsTrip_36 : decode cX10_endsTrip 36 = .ok (.aload_n 0, 1) := by decide +kernel
theorem dX10_endsTrip_37 : decode cX10_endsTrip 37 = .ok (.aload_n 0, 1) := by decide +kernel
theorem dX10_endsTrip_38 : decode cX10_endsTrip 38 = .ok (.iload_n 3, 1) := by decide +kernel
theorem dX10_endsTrip_39 : decode cX10_endsTrip 39 = .ok (.iconst 0, 1) := by decide +kernel
theorem dX10_endsTrip_40 : decode cX10_endsTrip 40 = .ok (.invokevirtual 49, 3) := by decide +kernel
theorem dX10_endsTrip_43 : decode cX10_endsTrip 43 = .ok (.iconst 2, 1) := by decide +kernel
theorem dX10_endsTrip_44 : decode cX10_endsTrip 44 = .ok (.invokevirtual 49, 3) := by decide +kernel
theorem dX10_endsTrip_47 : decode cX10_endsTrip 47 = .ok (.isub, 1) := by decide +kernel
theorem dX10_endsTrip_48 : decode cX10_endsTrip 48 = .ok (.istore 4, 2) := by decide +kernel
theorem dX10_endsTrip_50 : decode cX10_endsTrip 50 = .ok (.aload_n 0, 1) := by decide +kernel
theorem dX10_endsTrip_51 : decode cX10_endsTrip 51 = .ok (.getfield 31, 3) := by decide +kernel
theorem dX10_endsTrip_54 : decode cX10_endsTrip 54 = .ok (.iload_n 3, 1) := by decide +kernel
theorem dX10_endsTrip_55 : decode cX10_endsTrip 55 = .ok (.iaload, 1) := by decide +kernel
theorem dX10_endsTrip_56 : decode cX10_endsTrip 56 = .ok (.ifCond .le 45, 3) := by decide +kernel
theorem dX10_endsTrip_59 : decode cX10_endsTrip 59 = .ok (.aload_n 0, 1) := by decide +kernel
theorem dX10_endsTrip_60 : decode cX10_endsTrip 60 = .ok (.dup, 1) := by decide +kernel
theorem dX10_endsTrip_61 : decode cX10_endsTrip 61 = .ok (.getfield 109, 3) := by decide +kernel
theorem dX10_endsTrip_64 : decode cX10_endsTrip 64 = .ok (.iconst 2, 1) := by decide +kernel
theorem dX10_endsTrip_65 : decode cX10_endsTrip 65 = .ok (.aload_n 0, 1) := by decide +kernel
theorem dX10_endsTrip_66 : decode cX10_endsTrip 66 = .ok (.iload_n 3, 1) := by decide +kernel
theorem dX10_endsTrip_67 : decode cX10_endsTrip 67 = .ok (.iconst 1, 1) := by decide +kernel
theorem dX10_endsTrip_68 : decode cX10_endsTrip 68 = .ok (.invokevirtual 49, 3) := by decide +kernel
theorem dX10_endsTrip_71 : decode cX10_endsTrip 71 = .ok (.imul, 1) := by decide +kernel
theorem dX10_endsTrip_72 : decode cX10_endsTrip 72 = .ok (.iload 4, 2) := by decide +kernel
theorem dX10_endsTrip_74 : decode cX10_endsTrip 74 = .ok (.ifCond .le 19, 3) := by decide +kernel
theorem dX10_endsTrip_77 : decode cX10_endsTrip 77 = .ok (.iload 4, 2) := by decide +kernel
theorem dX10_endsTrip_79 : decode cX10_endsTrip 79 = .ok (.iload_n 2, 1) := by decide +kernel
theorem dX10_endsTrip_80 : decode cX10_endsTrip 80 = .ok (.aload_n 0, 1) := by decide +kernel
theorem dX10_endsTrip_81 : decode cX10_endsTrip 81 = .ok (.getfield 31, 3) := by decide +kernel
theorem dX10_endsTrip_84 : decode cX10_endsTrip 84 = .ok (.iload_n 3, 1) := by decide +kernel
theorem dX10_endsTrip_85 : decode cX10_endsTrip 85 = .ok (.iaload, 1) := by decide +kernel
theorem dX10_endsTrip_86 : decode cX10_endsTrip 86 = .ok (.iadd, 1) := by decide +kernel
theorem dX10_endsTrip_87 : decode cX10_endsTrip 87 = .ok (.imul, 1) := by decide +kernel
theorem dX10_endsTrip_88 : decode cX10_endsTrip 88 = .ok (.iload_n 2, 1) := by decide +kernel
theorem dX10_endsTrip_89 : decode cX10_endsTrip 89 = .ok (.idiv, 1) := by decide +kernel
theorem dX10_endsTrip_90 : decode cX10_endsTrip 90 = .ok (.goto 6, 3) := by decide +kernel
theorem dX10_endsTrip_93 : decode cX10_endsTrip 93 = .ok (.iload 4, 2) := by decide +kernel
theorem dX10_endsTrip_95 : decode cX10_endsTrip 95 = .ok (.ineg, 1) := by decide +kernel
theorem dX10_endsTrip_96 : decode cX10_endsTrip 96 = .ok (.iadd, 1) := by decide +kernel
theorem dX10_endsTrip_97 : decode cX10_endsTrip 97 = .ok (.iadd, 1) := by decide +kernel
theorem dX10_endsTrip_98 : decode cX10_endsTrip 98 = .ok (.putfield 109, 3) := by decide +kernel
theorem dX10_endsTrip_101 : decode cX10_endsTrip 101 = .ok (.aload_n 0, 1) := by decide +kernel
theorem dX10_endsTrip_102 : decode cX10_endsTrip 102 = .ok (.getfield 31, 3) := by decide +kernel
theorem dX10_endsTrip_105 : decode cX10_endsTrip 105 = .ok (.iload_n 3, 1) := by decide +kernel
theorem dX10_endsTrip_106 : decode cX10_endsTrip 106 = .ok (.iconst 0, 1) := by decide +kernel
theorem dX10_endsTrip_107 : decode cX10_endsTrip 107 = .ok (.iastore, 1) := by decide +kernel
theorem dX10_endsTrip_108 : decode cX10_endsTrip 108 = .ok (.iinc 3 1, 3) := by decide +kernel
theorem dX10_endsTrip_111 : decode cX10_endsTrip 111 = .ok (.goto (-91), 3) := by decide +kernel
theorem dX10_endsTrip_114 : decode cX10_endsTrip 114 = .ok (.return_, 1) := by decide +kernel
theorem dX10_complains_0 : decode cX10_complains 0 = .ok (.aload_n 0, 1) := by decide +kernel
theorem dX10_complains_1 : decode cX10_complains 1 = .ok (.iload_n 1, 1) := by decide +kernel
theorem dX10_complains_2 : decode cX10_complains 2 = .ok (.bipush 11, 2) := by decide +kernel
theorem dX10_complains_4 : decode cX10_complains 4 = .ok (.aload_n 0, 1) := by decide +kernel
theorem dX10_complains_5 : decode cX10_complains 5 = .ok (.iload_n 1, 1) := by decide +kernel
theorem dX10_complains_6 : decode cX10_complains 6 = .ok (.bipush 11, 2) := by decide +kernel
theorem dX10_complains_8 : decode cX10_complains 8 = .ok (.invokevirtual 57, 3) := by decide +kernel
theorem dX10_complains_11 : decode cX10_complains 11 = .ok (.iconst 1, 1) := by decide +kernel
theorem dX10_complains_12 : decode cX10_complains 12 = .ok (.iadd, 1) := by decide +kernel
theorem dX10_complains_13 : decode cX10_complains 13 = .ok (.invokevirtual 71, 3) := by decide +kernel
theorem dX10_complains_16 : decode cX10_complains 16 = .ok (.aload_n 0, 1) := by decide +kernel
theorem dX10_complains_17 : decode cX10_complains 17 = .ok (.iload_n 1, 1) := by decide +kernel
theorem dX10_complains_18 : decode cX10_complains 18 = .ok (.bipush 12, 2) := by decide +kernel
theorem dX10_complains_20 : decode cX10_complains 20 = .ok (.aload_n 0, 1) := by decide +kernel
theorem dX10_complains_21 : decode cX10_complains 21 = .ok (.iload_n 1, 1) := by decide +kernel
theorem dX10_complains_22 : decode cX10_complains 22 = .ok (.bipush 12, 2) := by decide +kernel
theorem dX10_complains_24 : decode cX10_complains 24 = .ok (.invokevirtual 57, 3) := by decide +kernel
theorem dX10_complains_27 : decode cX10_complains 27 = .ok (.iconst 1, 1) := by decide +kernel
theorem dX10_complains_28 : decode cX10_complains 28 = .ok (.iadd, 1) := by decide +kernel
theorem dX10_complains_29 : decode cX10_complains 29 = .ok (.invokevirtual 71, 3) := by decide +kernel
theorem dX10_complains_32 : decode cX10_complains 32 = .ok (.return_, 1) := by decide +kernel
theorem dX10_become_0 : decode cX10_become 0 = .ok (.aload_n 0, 1) := by decide +kernel
theorem dX10_become_1 : decode cX10_become 1 = .ok (.iload_n 1, 1) := by decide +kernel
theorem dX10_become_2 : decode cX10_become 2 = .ok (.iload_n 2, 1) := by decide +kernel
theorem dX10_become_3 : decode cX10_become 3 = .ok (.aload_n 0, 1) := by decide +kernel
theorem dX10_become_4 : decode cX10_become 4 = .ok (.iload_n 1, 1) := by decide +kernel
theorem dX10_become_5 : decode cX10_become 5 = .ok (.iload_n 2, 1) := by decide +kernel
theorem dX10_become_6 : decode cX10_become 6 = .ok (.invokevirtual 57, 3) := by decide +kernel
theorem dX10_become_9 : decode cX10_become 9 = .ok (.aload_n 0, 1) := by decide +kernel
theorem dX10_become_10 : decode cX10_become 10 = .ok (.iload_n 1, 1) := by decide +kernel
theorem dX10_become_11 : decode cX10_become 11 = .ok (.iconst 1, 1) := by decide +kernel
theorem dX10_become_12 : decode cX10_become 12 = .ok (.invokevirtual 57, 3) := by decide +kernel
theorem dX10_become_15 : decode cX10_become 15 = .ok (.iadd, 1) := by decide +kernel
theorem dX10_become_16 : decode cX10_become 16 = .ok (.invokevirtual 71, 3) := by decide +kernel
theorem dX10_become_19 : decode cX10_become 19 = .ok (.return_, 1) := by decide +kernel
theorem dX10_delivers_0 : decode cX10_delivers 0 = .ok (.aload_n 0, 1) := by decide +kernel
theorem dX10_delivers_1 : decode cX10_delivers 1 = .ok (.iload_n 2, 1) := by decide +kernel
theorem dX10_delivers_2 : decode cX10_delivers 2 = .ok (.iload_n 3, 1) := by decide +kernel
theorem dX10_delivers_3 : decode cX10_delivers 3 = .ok (.invokevirtual 112, 3) := by decide +kernel
theorem dX10_delivers_6 : decode cX10_delivers 6 = .ok (.istore 4, 2) := by decide +kernel
theorem dX10_delivers_8 : decode cX10_delivers 8 = .ok (.iload 4, 2) := by decide +kernel
theorem dX10_delivers_10 : decode cX10_delivers 10 = .ok (.ifCond .eq 26, 3) := by decide +kernel
theorem dX10_delivers_13 : decode cX10_delivers 13 = .ok (.aload_n 0, 1) := by decide +kernel
theorem dX10_delivers_14 : decode cX10_delivers 14 = .ok (.iload_n 1, 1) := by decide +kernel
theorem dX10_delivers_15 : decode cX10_delivers 15 = .ok (.iconst 2, 1) := by decide +kernel
theorem dX10_delivers_16 : decode cX10_delivers 16 = .ok (.invokevirtual 85, 3) := by decide +kernel
theorem dX10_delivers_19 : decode cX10_delivers 19 = .ok (.ifCond .ne 17, 3) := by decide +kernel
theorem dX10_delivers_22 : decode cX10_delivers 22 = .ok (.aload_n 0, 1) := by decide +kernel
theorem dX10_delivers_23 : decode cX10_delivers 23 = .ok (.iload_n 2, 1) := by decide +kernel
theorem dX10_delivers_24 : decode cX10_delivers 24 = .ok (.bipush 8, 2) := by decide +kernel
theorem dX10_delivers_26 : decode cX10_delivers 26 = .ok (.invokevirtual 115, 3) := by decide +kernel
theorem dX10_delivers_29 : decode cX10_delivers 29 = .ok (.aload_n 0, 1) := by decide +kernel
theorem dX10_delivers_30 : decode cX10_delivers 30 = .ok (.iload_n 2, 1) := by decide +kernel
theorem dX10_delivers_31 : decode cX10_delivers 31 = .ok (.invokevirtual 119, 3) := by decide +kernel
theorem dX10_delivers_34 : decode cX10_delivers 34 = .ok (.iconst 0, 1) := by decide +kernel
theorem dX10_delivers_35 : decode cX10_delivers 35 = .ok (.ireturn, 1) := by decide +kernel
theorem dX10_delivers_36 : decode cX10_delivers 36 = .ok (.aload_n 0, 1) := by decide +kernel
theorem dX10_delivers_37 : decode cX10_delivers 37 = .ok (.iload_n 1, 1) := by decide +kernel
theorem dX10_delivers_38 : decode cX10_delivers 38 = .ok (.iconst 2, 1) := by decide +kernel
theorem dX10_delivers_39 : decode cX10_delivers 39 = .ok (.iload 4, 2) := by decide +kernel
theorem dX10_delivers_41 : decode cX10_delivers 41 = .ok (.ifCond .eq 7, 3) := by decide +kernel
theorem dX10_delivers_44 : decode cX10_delivers 44 = .ok (.iconst (-1), 1) := by decide +kernel
theorem dX10_delivers_45 : decode cX10_delivers 45 = .ok (.goto 4, 3) := by decide +kernel
theorem dX10_delivers_48 : decode cX10_delivers 48 = .ok (.iconst 0, 1) := by decide +kernel
theorem dX10_delivers_49 : decode cX10_delivers 49 = .ok (.invokevirtual 82, 3) := by decide +kernel
theorem dX10_delivers_52 : decode cX10_delivers 52 = .ok (.aload_n 0, 1) := by decide +kernel
theorem dX10_delivers_53 : decode cX10_delivers 53 = .ok (.iload_n 2, 1) := by decide +kernel
theorem dX10_delivers_54 : decode cX10_delivers 54 = .ok (.bipush 6, 2) := by decide +kernel
theorem dX10_delivers_56 : decode cX10_delivers 56 = .ok (.invokevirtual 115, 3) := by decide +kernel
theorem dX10_delivers_59 : decode cX10_delivers 59 = .ok (.aload_n 0, 1) := by decide +kernel
theorem dX10_delivers_60 : decode cX10_delivers 60 = .ok (.iload_n 2, 1) := by decide +kernel
theorem dX10_delivers_61 : decode cX10_delivers 61 = .ok (.bipush 13, 2) := by decide +kernel
theorem dX10_delivers_63 : decode cX10_delivers 63 = .ok (.iconst 1, 1) := by decide +kernel
theorem dX10_delivers_64 : decode cX10_delivers 64 = .ok (.invokevirtual 71, 3) := by decide +kernel
theorem dX10_delivers_67 : decode cX10_delivers 67 = .ok (.aload_n 0, 1) := by decide +kernel
theorem dX10_delivers_68 : decode cX10_delivers 68 = .ok (.iload_n 1, 1) := by decide +kernel
theorem dX10_delivers_69 : decode cX10_delivers 69 = .ok (.bipush 6, 2) := by decide +kernel
theorem dX10_delivers_71 : decode cX10_delivers 71 = .ok (.aload_n 0, 1) := by decide +kernel
theorem dX10_delivers_72 : decode cX10_delivers 72 = .ok (.iload_n 2, 1) := by decide +kernel
theorem dX10_delivers_73 : decode cX10_delivers 73 = .ok (.iconst 1, 1) := by decide +kernel
theorem dX10_delivers_74 : decode cX10_delivers 74 = .ok (.invokevirtual 57, 3) := by decide +kernel
theorem dX10_delivers_77 : decode cX10_delivers 77 = .ok (.invokevirtual 82, 3) := by decide +kernel
theorem dX10_delivers_80 : decode cX10_delivers 80 = .ok (.iconst 1, 1) := by decide +kernel
theorem dX10_delivers_81 : decode cX10_delivers 81 = .ok (.ireturn, 1) := by decide +kernel
theorem dX10_goes_0 : decode cX10_goes 0 = .ok (.aload_n 0, 1) := by decide +kernel
theorem dX10_goes_1 : decode cX10_goes 1 = .ok (.iload_n 1, 1) := by decide +kernel
theorem dX10_goes_2 : decode cX10_goes 2 = .ok (.iconst 1, 1) := by decide +kernel
theorem dX10_goes_3 : decode cX10_goes 3 = .ok (.invokevirtual 85, 3) := by decide +kernel
theorem dX10_goes_6 : decode cX10_goes 6 = .ok (.istore 4, 2) := by decide +kernel
theorem dX10_goes_8 : decode cX10_goes 8 = .ok (.iconst 0, 1) := by decide +kernel
theorem dX10_goes_9 : decode cX10_goes 9 = .ok (.istore 5, 2) := by decide +kernel
theorem dX10_goes_11 : decode cX10_goes 11 = .ok (.iconst 0, 1) := by decide +kernel
theorem dX10_goes_12 : decode cX10_goes 12 = .ok (.istore 6, 2) := by decide +kernel
theorem dX10_goes_14 : decode cX10_goes 14 = .ok (.aload_n 0, 1) := by decide +kernel
theorem dX10_goes_15 : decode cX10_goes 15 = .ok (.iconst 0, 1) := by decide +kernel
theorem dX10_goes_16 : decode cX10_goes 16 = .ok (.putfield 123, 3) := by decide +kernel
theorem dX10_goes_19 : decode cX10_goes 19 = .ok (.aload_n 0, 1) := by decide +kernel
theorem dX10_goes_20 : decode cX10_goes 20 = .ok (.iconst 0, 1) := by decide +kernel
theorem dX10_goes_21 : decode cX10_goes 21 = .ok (.putfield 109, 3) := by decide +kernel
theorem dX10_goes_24 : decode cX10_goes 24 = .ok (.aload_n 0, 1) := by decide +kernel
theorem dX10_goes_25 : decode cX10_goes 25 = .ok (.iconst 0, 1) := by decide +kernel
theorem dX10_goes_26 : decode cX10_goes 26 = .ok (.putfield 126, 3) := by decide +kernel
theorem dX10_goes_29 : decode cX10_goes 29 = .ok (.aload_n 0, 1) := by decide +kernel
theorem dX10_goes_30 : decode cX10_goes 30 = .ok (.iconst 0, 1) := by decide +kernel
theorem dX10_goes_31 : decode cX10_goes 31 = .ok (.putfield 129, 3) := by decide +kernel
theorem dX10_goes_34 : decode cX10_goes 34 = .ok (.aload_n 0, 1) := by decide +kernel
theorem dX10_goes_35 : decode cX10_goes 35 = .ok (.invokevirtual 132, 3) := by decide +kernel
theorem dX10_goes_38 : decode cX10_goes 38 = .ok (.iconst 0, 1) := by decide +kernel
theorem dX10_goes_39 : decode cX10_goes 39 = .ok (.istore 7, 2) := by decide +kernel
theorem dX10_goes_41 : decode cX10_goes 41 = .ok (.iload 7, 2) := by decide +kernel
theorem dX10_goes_43 : decode cX10_goes 43 = .ok (.bipush 20, 2) := by decide +kernel
theorem dX10_goes_45 : decode cX10_goes 45 = .ok (.if_icmp .ge 17, 3) := by decide +kernel
theorem dX10_goes_48 : decode cX10_goes 48 = .ok (.aload_n 0, 1) := by decide +kernel
theorem dX10_goes_49 : decode cX10_goes 49 = .ok (.getfield 31, 3) := by decide +kernel
theorem dX10_goes_52 : decode cX10_goes 52 = .ok (.iload 7, 2) := by decide +kernel
theorem dX10_goes_54 : decode cX10_goes 54 = .ok (.iconst 0, 1) := by decide +kernel
theorem dX10_goes_55 : decode cX10_goes 55 = .ok (.iastore, 1) := by decide +kernel
theorem dX10_goes_56 : decode cX10_goes 56 = .ok (.iinc 7 1, 3) := by decide +kernel
theorem dX10_goes_59 : decode cX10_goes 59 = .ok (.goto (-18), 3) := by decide +kernel
theorem dX10_goes_62 : decode cX10_goes 62 = .ok (.iconst 0, 1) := by decide +kernel
theorem dX10_goes_63 : decode cX10_goes 63 = .ok (.istore 7, 2) := by decide +kernel
theorem dX10_goes_65 : decode cX10_goes 65 = .ok (.iload 7, 2) := by decide +kernel
theorem dX10_goes_67 : decode cX10_goes 67 = .ok (.aload_n 0, 1) := by decide +kernel
theorem dX10_goes_68 : decode cX10_goes 68 = .ok (.getfield 7, 3) := by decide +kernel
theorem dX10_goes_71 : decode cX10_goes 71 = .ok (.iconst 1, 1) := by decide +kernel
theorem dX10_goes_72 : decode cX10_goes 72 = .ok (.iaload, 1) := by decide +kernel
theorem dX10_goes_73 : decode cX10_goes 73 = .ok (.if_icmp .ge 263, 3) := by decide +kernel
theorem dX10_goes_76 : decode cX10_goes 76 = .ok (.aload_n 0, 1) := by decide +kernel
theorem dX10_goes_77 : decode cX10_goes 77 = .ok (.getfield 28, 3) := by decide +kernel
theorem dX10_goes_80 : decode cX10_goes 80 = .ok (.iload 7, 2) := by decide +kernel
theorem dX10_goes_82 : decode cX10_goes 82 = .ok (.iaload, 1) := by decide +kernel
theorem dX10_goes_83 : decode cX10_goes 83 = .ok (.istore 8, 2) := by decide +kernel
theorem dX10_goes_85 : decode cX10_goes 85 = .ok (.aload_n 0, 1) := by decide +kernel
theorem dX10_goes_86 : decode cX10_goes 86 = .ok (.iload 8, 2) := by decide +kernel
theorem dX10_goes_88 : decode cX10_goes 88 = .ok (.iload_n 2, 1) := by decide +kernel
theorem dX10_goes_89 : decode cX10_goes 89 = .ok (.invokevirtual 135, 3) := by decide +kernel
theorem dX10_goes_92 : decode cX10_goes 92 = .ok (.istore 9, 2) := by decide +kernel
theorem dX10_goes_94 : decode cX10_goes 94 = .ok (.aload_n 0, 1) := by decide +kernel
theorem dX10_goes_95 : decode cX10_goes 95 = .ok (.iload 8, 2) := by decide +kernel
theorem dX10_goes_97 : decode cX10_goes 97 = .ok (.iconst 3, 1) := by decide +kernel
theorem dX10_goes_98 : decode cX10_goes 98 = .ok (.invokevirtual 57, 3) := by decide +kernel
theorem dX10_goes_101 : decode cX10_goes 101 = .ok (.iload_n 1, 1) := by decide +kernel
theorem dX10_goes_102 : decode cX10_goes 102 = .ok (.if_icmp .ne 17, 3) := by decide +kernel
theorem dX10_goes_105 : decode cX10_goes 105 = .ok (.aload_n 0, 1) := by decide +kernel
theorem dX10_goes_106 : decode cX10_goes 106 = .ok (.iload 8, 2) := by decide +kernel
theorem dX10_goes_108 : decode cX10_goes 108 = .ok (.iload_n 2, 1) := by decide +kernel
theorem dX10_goes_109 : decode cX10_goes 109 = .ok (.invokevirtual 138, 3) := by decide +kernel
theorem dX10_goes_112 : decode cX10_goes 112 = .ok (.ifCond .ne 7, 3) := by decide +kernel
theorem dX10_goes_115 : decode cX10_goes 115 = .ok (.iconst 1, 1) := by decide +kernel
theorem dX10_goes_116 : decode cX10_goes 116 = .ok (.goto 4, 3) := by decide +kernel
theorem dX10_goes_119 : decode cX10_goes 119 = .ok (.iconst 0, 1) := by decide +kernel
theorem dX10_goes_120 : decode cX10_goes 120 = .ok (.istore 10, 2) := by decide +kernel
theorem dX10_goes_122 : decode cX10_goes 122 = .ok (.iload 10, 2) := by decide +kernel
theorem dX10_goes_124 : decode cX10_goes 124 = .ok (.ifCond .eq 28, 3) := by decide +kernel
theorem dX10_goes_127 : decode cX10_goes 127 = .ok (.iload 9, 2) := by decide +kernel
theorem dX10_goes_129 : decode cX10_goes 129 = .ok (.iload 4, 2) := by decide +kernel
theorem dX10_goes_131 : decode cX10_goes 131 = .ok (.if_icmp .le 21, 3) := by decide +kernel
theorem dX10_goes_134 : decode cX10_goes 134 = .ok (.iload_n 3, 1) := by decide +kernel
theorem dX10_goes_135 : decode cX10_goes 135 = .ok (.ifCond .eq 17, 3) := by decide +kernel
theorem dX10_goes_138 : decode cX10_goes 138 = .ok (.aload_n 0, 1) := by decide +kernel
theorem dX10_goes_139 : decode cX10_goes 139 = .ok (.iload 8, 2) := by decide +kernel
theorem dX10_goes_141 : decode cX10_goes 141 = .ok (.bipush 9, 2) := by decide +kernel
theorem dX10_goes_143 : decode cX10_goes 143 = .ok (.invokevirtual 115, 3) := by decide +kernel
theorem dX10_goes_146 : decode cX10_goes 146 = .ok (.aload_n 0, 1) := by decide +kernel
theorem dX10_goes_147 : decode cX10_goes 147 = .ok (.iload 8, 2) := by decide +kernel
theorem dX10_goes_149 : decode cX10_goes 149 = .ok (.invokevirtual 119, 3) := by decide +kernel
theorem dX10_goes_152 : decode cX10_goes 152 = .ok (.iload 10, 2) := by decide +kernel
theorem dX10_goes_154 : decode cX10_goes 154 = .ok (.ifCond .eq 176, 3) := by decide +kernel
theorem dX10_goes_157 : decode cX10_goes 157 = .ok (.iload 9, 2) := by decide +kernel
theorem dX10_goes_159 : decode cX10_goes 159 = .ok (.iload 4, 2) := by decide +kernel
theorem dX10_goes_161 : decode cX10_goes 161 = .ok (.if_icmp .gt 169, 3) := by decide +kernel
theorem dX10_goes_164 : decode cX10_goes 164 = .ok (.aload_n 0, 1) := by decide +kernel
theorem dX10_goes_165 : decode cX10_goes 165 = .ok (.getfield 123, 3) := by decide +kernel
theorem dX10_goes_168 : decode cX10_goes 168 = .ok (.ifCond .le 18, 3) := by decide +kernel
theorem dX10_goes_171 : decode cX10_goes 171 = .ok (.iload 5, 2) := by decide +kernel
theorem dX10_goes_173 : decode cX10_goes 173 = .ok (.iload 9, 2) := by decide +kernel
theorem dX10_goes_175 : decode cX10_goes 175 = .ok (.iadd, 1) := by decide +kernel
theorem dX10_goes_176 : decode cX10_goes 176 = .ok (.iload 4, 2) := by decide +kernel
theorem dX10_goes_178 : decode cX10_goes 178 = .ok (.if_icmp .le 8, 3) := by decide +kernel
theorem dX10_goes_181 : decode cX10_goes 181 = .ok (.aload_n 0, 1) := by decide +kernel
theorem dX10_goes_182 : decode cX10_goes 182 = .ok (.iload_n 1, 1) := by decide +kernel
theorem dX10_goes_183 : decode cX10_goes 183 = .ok (.invokevirtual 141, 3) := by decide +kernel
theorem dX10_goes_186 : decode cX10_goes 186 = .ok (.aload_n 0, 1) := by decide +kernel
theorem dX10_goes_187 : decode cX10_goes 187 = .ok (.getfield 123, 3) := by decide +kernel
theorem dX10_goes_190 : decode cX10_goes 190 = .ok (.ifCond .eq 13, 3) := by decide +kernel
theorem dX10_goes_193 : decode cX10_goes 193 = .ok (.iload 5, 2) := by decide +kernel
theorem dX10_goes_195 : decode cX10_goes 195 = .ok (.iload 9, 2) := by decide +kernel
theorem dX10_goes_197 : decode cX10_goes 197 = .ok (.iadd, 1) := by decide +kernel
theorem dX10_goes_198 : decode cX10_goes 198 = .ok (.iload 4, 2) := by decide +kernel
theorem dX10_goes_200 : decode cX10_goes 200 = .ok (.if_icmp .le 7, 3) := by decide +kernel
theorem dX10_goes_203 : decode cX10_goes 203 = .ok (.iconst 1, 1) := by decide +kernel
theorem dX10_goes_204 : decode cX10_goes 204 = .ok (.goto 4, 3) := by decide +kernel
theorem dX10_goes_207 : decode cX10_goes 207 = .ok (.iconst 0, 1) := by decide +kernel
theorem dX10_goes_208 : decode cX10_goes 208 = .ok (.istore 11, 2) := by decide +kernel
theorem dX10_goes_210 : decode cX10_goes 210 = .ok (.aload_n 0, 1) := by decide +kernel
theorem dX10_goes_211 : decode cX10_goes 211 = .ok (.dup, 1) := by decide +kernel
theorem dX10_goes_212 : decode cX10_goes 212 = .ok (.getfield 123, 3) := by decide +kernel
theorem dX10_goes_215 : decode cX10_goes 215 = .ok (.iload 11, 2) := by decide +kernel
theorem dX10_goes_217 : decode cX10_goes 217 = .ok (.ifCond .eq 7, 3) := by decide +kernel
theorem dX10_goes_220 : decode cX10_goes 220 = .ok (.iconst 1, 1) := by decide +kernel
theorem dX10_goes_221 : decode cX10_goes 221 = .ok (.goto 4, 3) := by decide +kernel
theorem dX10_goes_224 : decode cX10_goes 224 = .ok (.iconst 0, 1) := by decide +kernel
theorem dX10_goes_225 : decode cX10_goes 225 = .ok (.iadd, 1) := by decide +kernel
theorem dX10_goes_226 : decode cX10_goes 226 = .ok (.putfield 123, 3) := by decide +kernel
theorem dX10_goes_229 : decode cX10_goes 229 = .ok (.iload 11, 2) := by decide +kernel
theorem dX10_goes_231 : decode cX10_goes 231 = .ok (.ifCond .eq 8, 3) := by decide +kernel
theorem dX10_goes_234 : decode cX10_goes 234 = .ok (.iload 9, 2) := by decide +kernel
theorem dX10_goes_236 : decode cX10_goes 236 = .ok (.goto 8, 3) := by decide +kernel
theorem dX10_goes_239 : decode cX10_goes 239 = .ok (.iload 5, 2) := by decide +kernel
theorem dX10_goes_241 : decode cX10_goes 241 = .ok (.iload 9, 2) := by decide +kernel
theorem dX10_goes_243 : decode cX10_goes 243 = .ok (.iadd, 1) := by decide +kernel
theorem dX10_goes_244 : decode cX10_goes 244 = .ok (.istore 5, 2) := by decide +kernel
theorem dX10_goes_246 : decode cX10_goes 246 = .ok (.aload_n 0, 1) := by decide +kernel
theorem dX10_goes_247 : decode cX10_goes 247 = .ok (.aload_n 0, 1) := by decide +kernel
theorem dX10_goes_248 : decode cX10_goes 248 = .ok (.iload 8, 2) := by decide +kernel
theorem dX10_goes_250 : decode cX10_goes 250 = .ok (.iconst 0, 1) := by decide +kernel
theorem dX10_goes_251 : decode cX10_goes 251 = .ok (.invokevirtual 57, 3) := by decide +kernel
theorem dX10_goes_254 : decode cX10_goes 254 = .ok (.iload 9, 2) := by decide +kernel
theorem dX10_goes_256 : decode cX10_goes 256 = .ok (.invokevirtual 144, 3) := by decide +kernel
theorem dX10_goes_259 : decode cX10_goes 259 = .ok (.aload_n 0, 1) := by decide +kernel
theorem dX10_goes_260 : decode cX10_goes 260 = .ok (.dup, 1) := by decide +kernel
theorem dX10_goes_261 : decode cX10_goes 261 = .ok (.getfield 126, 3) := by decide +kernel
theorem dX10_goes_264 : decode cX10_goes 264 = .ok (.aload_n 0, 1) := by decide +kernel
theorem dX10_goes_265 : decode cX10_goes 265 = .ok (.iload 8, 2) := by decide +kernel
theorem dX10_goes_267 : decode cX10_goes 267 = .ok (.iconst 1, 1) := by decide +kernel
theorem dX10_goes_268 : decode cX10_goes 268 = .ok (.invokevirtual 57, 3) := by decide +kernel
theorem dX10_goes_271 : decode cX10_goes 271 = .ok (.iadd, 1) := by decide +kernel
theorem dX10_goes_272 : decode cX10_goes 272 = .ok (.putfield 126, 3) := by decide +kernel
theorem dX10_goes_275 : decode cX10_goes 275 = .ok (.aload_n 0, 1) := by decide +kernel
theorem dX10_goes_276 : decode cX10_goes 276 = .ok (.dup, 1) := by decide +kernel
theorem dX10_goes_277 : decode cX10_goes 277 = .ok (.getfield 129, 3) := by decide +kernel
theorem dX10_goes_280 : decode cX10_goes 280 = .ok (.aload_n 0, 1) := by decide +kernel
theorem dX10_goes_281 : decode cX10_goes 281 = .ok (.iload 8, 2) := by decide +kernel
theorem dX10_goes_283 : decode cX10_goes 283 = .ok (.iload_n 2, 1) := by decide +kernel
theorem dX10_goes_284 : decode cX10_goes 284 = .ok (.invokevirtual 112, 3) := by decide +kernel
theorem dX10_goes_287 : decode cX10_goes 287 = .ok (.ifCond .eq 7, 3) := by decide +kernel
theorem dX10_goes_290 : decode cX10_goes 290 = .ok (.iconst 1, 1) := by decide +kernel
theorem dX10_goes_291 : decode cX10_goes 291 = .ok (.goto 4, 3) := by decide +kernel
theorem dX10_goes_294 : decode cX10_goes 294 = .ok (.iconst 0, 1) := by decide +kernel
theorem dX10_goes_295 : decode cX10_goes 295 = .ok (.iadd, 1) := by decide +kernel
theorem dX10_goes_296 : decode cX10_goes 296 = .ok (.putfield 129, 3) := by decide +kernel
theorem dX10_goes_299 : decode cX10_goes 299 = .ok (.iload 6, 2) := by decide +kernel
theorem dX10_goes_301 : decode cX10_goes 301 = .ok (.iload_n 3, 1) := by decide +kernel
theorem dX10_goes_302 : decode cX10_goes 302 = .ok (.ifCond .eq 24, 3) := by decide +kernel
theorem dX10_goes_305 : decode cX10_goes 305 = .ok (.aload_n 0, 1) := by decide +kernel
theorem dX10_goes_306 : decode cX10_goes 306 = .ok (.iload_n 1, 1) := by decide +kernel
theorem dX10_goes_307 : decode cX10_goes 307 = .ok (.iload 8, 2) := by decide +kernel
theorem dX10_goes_309 : decode cX10_goes 309 = .ok (.iload_n 2, 1) := by decide +kernel
theorem dX10_goes_310 : decode cX10_goes 310 = .ok (.invokevirtual 147, 3) := by decide +kernel
theorem dX10_goes_313 : decode cX10_goes 313 = .ok (.ifCond .eq 13, 3) := by decide +kernel
theorem dX10_goes_316 : decode cX10_goes 316 = .ok (.aload_n 0, 1) := by decide +kernel
theorem dX10_goes_317 : decode cX10_goes 317 = .ok (.iload 8, 2) := by decide +kernel
theorem dX10_goes_319 : decode cX10_goes 319 = .ok (.iconst 1, 1) := by decide +kernel
theorem dX10_goes_320 : decode cX10_goes 320 = .ok (.invokevirtual 57, 3) := by decide +kernel
theorem dX10_goes_323 : decode cX10_goes 323 = .ok (.goto 4, 3) := by decide +kernel
theorem dX10_goes_326 : decode cX10_goes 326 = .ok (.iconst 0, 1) := by decide +kernel
theorem dX10_goes_327 : decode cX10_goes 327 = .ok (.iadd, 1) := by decide +kernel
theorem dX10_goes_328 : decode cX10_goes 328 = .ok (.istore 6, 2) := by decide +kernel
theorem dX10_goes_330 : decode cX10_goes 330 = .ok (.iinc 7 1, 3) := by decide +kernel
theorem dX10_goes_333 : decode cX10_goes 333 = .ok (.goto (-268), 3) := by decide +kernel
theorem dX10_goes_336 : decode cX10_goes 336 = .ok (.aload_n 0, 1) := by decide +kernel
theorem dX10_goes_337 : decode cX10_goes 337 = .ok (.iload_n 1, 1) := by decide +kernel
theorem dX10_goes_338 : decode cX10_goes 338 = .ok (.invokevirtual 141, 3) := by decide +kernel
theorem dX10_goes_341 : decode cX10_goes 341 = .ok (.iload 6, 2) := by decide +kernel
theorem dX10_goes_343 : decode cX10_goes 343 = .ok (.ireturn, 1) := by decide +kernel
theorem dX10_tips_0 : decode cX10_tips 0 = .ok (.aload_n 0, 1) := by decide +kernel
theorem dX10_tips_1 : decode cX10_tips 1 = .ok (.iload_n 1, 1) := by decide +kernel
theorem dX10_tips_2 : decode cX10_tips 2 = .ok (.iconst 3, 1) := by decide +kernel
theorem dX10_tips_3 : decode cX10_tips 3 = .ok (.invokevirtual 57, 3) := by decide +kernel
theorem dX10_tips_6 : decode cX10_tips 6 = .ok (.istore_n 2, 1) := by decide +kernel
theorem dX10_tips_7 : decode cX10_tips 7 = .ok (.aload_n 0, 1) := by decide +kernel
theorem dX10_tips_8 : decode cX10_tips 8 = .ok (.iload_n 1, 1) := by decide +kernel
theorem dX10_tips_9 : decode cX10_tips 9 = .ok (.bipush 12, 2) := by decide +kernel
theorem dX10_tips_11 : decode cX10_tips 11 = .ok (.invokevirtual 57, 3) := by decide +kernel
theorem dX10_tips_14 : decode cX10_tips 14 = .ok (.istore_n 3, 1) := by decide +kernel
theorem dX10_tips_15 : decode cX10_tips 15 = .ok (.iload_n 3, 1) := by decide +kernel
theorem dX10_tips_16 : decode cX10_tips 16 = .ok (.ifCond .ne 12, 3) := by decide +kernel
theorem dX10_tips_19 : decode cX10_tips 19 = .ok (.aload_n 0, 1) := by decide +kernel
theorem dX10_tips_20 : decode cX10_tips 20 = .ok (.iload_n 1, 1) := by decide +kernel
theorem dX10_tips_21 : decode cX10_tips 21 = .ok (.iconst 2, 1) := by decide +kernel
theorem dX10_tips_22 : decode cX10_tips 22 = .ok (.invokevirtual 57, 3) := by decide +kernel
theorem dX10_tips_25 : decode cX10_tips 25 = .ok (.goto 20, 3) := by decide +kernel
theorem dX10_tips_28 : decode cX10_tips 28 = .ok (.iload_n 3, 1) := by decide +kernel
theorem dX10_tips_29 : decode cX10_tips 29 = .ok (.iconst 1, 1) := by decide +kernel
theorem dX10_tips_30 : decode cX10_tips 30 = .ok (.if_icmp .ne 14, 3) := by decide +kernel
theorem dX10_tips_33 : decode cX10_tips 33 = .ok (.aload_n 0, 1) := by decide +kernel
theorem dX10_tips_34 : decode cX10_tips 34 = .ok (.iload_n 1, 1) := by decide +kernel
theorem dX10_tips_35 : decode cX10_tips 35 = .ok (.iconst 2, 1) := by decide +kernel
theorem dX10_tips_36 : decode cX10_tips 36 = .ok (.invokevirtual 57, 3) := by decide +kernel
theorem dX10_tips_39 : decode cX10_tips 39 = .ok (.iconst 2, 1) := by decide +kernel
theorem dX10_tips_40 : decode cX10_tips 40 = .ok (.idiv, 1) := by decide +kernel
theorem dX10_tips_41 : decode cX10_tips 41 = .ok (.goto 4, 3) := by decide +kernel
theorem dX10_tips_44 : decode cX10_tips 44 = .ok (.iconst 0, 1) := by decide +kernel
theorem dX10_tips_45 : decode cX10_tips 45 = .ok (.istore 4, 2) := by decide +kernel
theorem dX10_tips_47 : decode cX10_tips 47 = .ok (.iload_n 2, 1) := by decide +kernel
theorem dX10_tips_48 : decode cX10_tips 48 = .ok (.iconst (-1), 1) := by decide +kernel
theorem dX10_tips_49 : decode cX10_tips 49 = .ok (.if_icmp .eq 22, 3) := by decide +kernel
theorem dX10_tips_52 : decode cX10_tips 52 = .ok (.aload_n 0, 1) := by decide +kernel
theorem dX10_tips_53 : decode cX10_tips 53 = .ok (.iload_n 1, 1) := by decide +kernel
theorem dX10_tips_54 : decode cX10_tips 54 = .ok (.bipush 13, 2) := by decide +kernel
theorem dX10_tips_56 : decode cX10_tips 56 = .ok (.invokevirtual 57, 3) := by decide +kernel
theorem dX10_tips_59 : decode cX10_tips 59 = .ok (.iconst 1, 1) := by decide +kernel
theorem dX10_tips_60 : decode cX10_tips 60 = .ok (.if_icmp .ne 11, 3) := by decide +kernel
theorem dX10_tips_63 : decode cX10_tips 63 = .ok (.aload_n 0, 1) := by decide +kernel
theorem dX10_tips_64 : decode cX10_tips 64 = .ok (.iload_n 2, 1) := by decide +kernel
theorem dX10_tips_65 : decode cX10_tips 65 = .ok (.iconst 5, 1) := by decide +kernel
theorem dX10_tips_66 : decode cX10_tips 66 = .ok (.iload 4, 2) := by decide +kernel
theorem dX10_tips_68 : decode cX10_tips 68 = .ok (.invokevirtual 82, 3) := by decide +kernel
theorem dX10_tips_71 : decode cX10_tips 71 = .ok (.aload_n 0, 1) := by decide +kernel
theorem dX10_tips_72 : decode cX10_tips 72 = .ok (.iload_n 1, 1) := by decide +kernel
theorem dX10_tips_73 : decode cX10_tips 73 = .ok (.bipush 13, 2) := by decide +kernel
theorem dX10_tips_75 : decode cX10_tips 75 = .ok (.iconst 0, 1) := by decide +kernel
theorem dX10_tips_76 : decode cX10_tips 76 = .ok (.invokevirtual 71, 3) := by decide +kernel
theorem dX10_tips_79 : decode cX10_tips 79 = .ok (.aload_n 0, 1) := by decide +kernel
theorem dX10_tips_80 : decode cX10_tips 80 = .ok (.iload_n 1, 1) := by decide +kernel
theorem dX10_tips_81 : decode cX10_tips 81 = .ok (.bipush 12, 2) := by decide +kernel
theorem dX10_tips_83 : decode cX10_tips 83 = .ok (.iconst 0, 1) := by decide +kernel
theorem dX10_tips_84 : decode cX10_tips 84 = .ok (.invokevirtual 71, 3) := by decide +kernel
theorem dX10_tips_87 : decode cX10_tips 87 = .ok (.return_, 1) := by decide +kernel
theorem dX10_dayGoes_0 : decode cX10_dayGoes 0 = .ok (.aload_n 0, 1) := by decide +kernel
theorem dX10_dayGoes_1 : decode cX10_dayGoes 1 = .ok (.getfield 7, 3) := by decide +kernel
theorem dX10_dayGoes_4 : decode cX10_dayGoes 4 = .ok (.iconst 4, 1) := by decide +kernel
theorem dX10_dayGoes_5 : decode cX10_dayGoes 5 = .ok (.iaload, 1) := by decide +kernel
theorem dX10_dayGoes_6 : decode cX10_dayGoes 6 = .ok (.istore_n 1, 1) := by decide +kernel
theorem dX10_dayGoes_7 : decode cX10_dayGoes 7 = .ok (.iconst 0, 1) := by decide +kernel
theorem dX10_dayGoes_8 : decode cX10_dayGoes 8 = .ok (.istore_n 2, 1) := by decide +kernel
theorem dX10_dayGoes_9 : decode cX10_dayGoes 9 = .ok (.iload_n 2, 1) := by decide +kernel
theorem dX10_dayGoes_10 : decode cX10_dayGoes 10 = .ok (.aload_n 0, 1) := by decide +kernel
theorem dX10_dayGoes_11 : decode cX10_dayGoes 11 = .ok (.getfield 7, 3) := by decide +kernel
theorem dX10_dayGoes_14 : decode cX10_dayGoes 14 = .ok (.iconst 1, 1) := by decide +kernel
theorem dX10_dayGoes_15 : decode cX10_dayGoes 15 = .ok (.iaload, 1) := by decide +kernel
theorem dX10_dayGoes_16 : decode cX10_dayGoes 16 = .ok (.if_icmp .ge 50, 3) := by decide +kernel
theorem dX10_dayGoes_19 : decode cX10_dayGoes 19 = .ok (.aload_n 0, 1) := by decide +kernel
theorem dX10_dayGoes_20 : decode cX10_dayGoes 20 = .ok (.iload_n 2, 1) := by decide +kernel
theorem dX10_dayGoes_21 : decode cX10_dayGoes 21 = .ok (.iload_n 1, 1) := by decide +kernel
theorem dX10_dayGoes_22 : decode cX10_dayGoes 22 = .ok (.invokevirtual 138, 3) := by decide +kernel
theorem dX10_dayGoes_25 : decode cX10_dayGoes 25 = .ok (.ifCond .eq 13, 3) := by decide +kernel
theorem dX10_dayGoes_28 : decode cX10_dayGoes 28 = .ok (.aload_n 0, 1) := by decide +kernel
theorem dX10_dayGoes_29 : decode cX10_dayGoes 29 = .ok (.iload_n 2, 1) := by decide +kernel
theorem dX10_dayGoes_30 : decode cX10_dayGoes 30 = .ok (.bipush 7, 2) := by decide +kernel
theorem dX10_dayGoes_32 : decode cX10_dayGoes 32 = .ok (.invokevirtual 115, 3) := by decide +kernel
theorem dX10_dayGoes_35 : decode cX10_dayGoes 35 = .ok (.goto 25, 3) := by decide +kernel
theorem dX10_dayGoes_38 : decode cX10_dayGoes 38 = .ok (.aload_n 0, 1) := by decide +kernel
theorem dX10_dayGoes_39 : decode cX10_dayGoes 39 = .ok (.iload_n 2, 1) := by decide +kernel
theorem dX10_dayGoes_40 : decode cX10_dayGoes 40 = .ok (.iconst 3, 1) := by decide +kernel
theorem dX10_dayGoes_41 : decode cX10_dayGoes 41 = .ok (.invokevirtual 57, 3) := by decide +kernel
theorem dX10_dayGoes_44 : decode cX10_dayGoes 44 = .ok (.iconst (-1), 1) := by decide +kernel
theorem dX10_dayGoes_45 : decode cX10_dayGoes 45 = .ok (.if_icmp .ne 15, 3) := by decide +kernel
theorem dX10_dayGoes_48 : decode cX10_dayGoes 48 = .ok (.aload_n 0, 1) := by decide +kernel
theorem dX10_dayGoes_49 : decode cX10_dayGoes 49 = .ok (.iload_n 2, 1) := by decide +kernel
theorem dX10_dayGoes_50 : decode cX10_dayGoes 50 = .ok (.bipush 10, 2) := by decide +kernel
theorem dX10_dayGoes_52 : decode cX10_dayGoes 52 = .ok (.invokevirtual 115, 3) := by decide +kernel
theorem dX10_dayGoes_55 : decode cX10_dayGoes 55 = .ok (.aload_n 0, 1) := by decide +kernel
theorem dX10_dayGoes_56 : decode cX10_dayGoes 56 = .ok (.iload_n 2, 1) := by decide +kernel
theorem dX10_dayGoes_57 : decode cX10_dayGoes 57 = .ok (.invokevirtual 119, 3) := by decide +kernel
theorem dX10_dayGoes_60 : decode cX10_dayGoes 60 = .ok (.iinc 2 1, 3) := by decide +kernel
theorem dX10_dayGoes_63 : decode cX10_dayGoes 63 = .ok (.goto (-54), 3) := by decide +kernel
theorem dX10_dayGoes_66 : decode cX10_dayGoes 66 = .ok (.iconst 0, 1) := by decide +kernel
theorem dX10_dayGoes_67 : decode cX10_dayGoes 67 = .ok (.istore_n 2, 1) := by decide +kernel
theorem dX10_dayGoes_68 : decode cX10_dayGoes 68 = .ok (.iconst 0, 1) := by decide +kernel
theorem dX10_dayGoes_69 : decode cX10_dayGoes 69 = .ok (.istore_n 3, 1) := by decide +kernel
theorem dX10_dayGoes_70 : decode cX10_dayGoes 70 = .ok (.iload_n 3, 1) := by decide +kernel
theorem dX10_dayGoes_71 : decode cX10_dayGoes 71 = .ok (.aload_n 0, 1) := by decide +kernel
theorem dX10_dayGoes_72 : decode cX10_dayGoes 72 = .ok (.getfield 7, 3) := by decide +kernel
theorem dX10_dayGoes_75 : decode cX10_dayGoes 75 = .ok (.iconst 2, 1) := by decide +kernel
theorem dX10_dayGoes_76 : decode cX10_dayGoes 76 = .ok (.iaload, 1) := by decide +kernel
theorem dX10_dayGoes_77 : decode cX10_dayGoes 77 = .ok (.if_icmp .ge 39, 3) := by decide +kernel
theorem dX10_dayGoes_80 : decode cX10_dayGoes 80 = .ok (.iload_n 2, 1) := by decide +kernel
theorem dX10_dayGoes_81 : decode cX10_dayGoes 81 = .ok (.aload_n 0, 1) := by decide +kernel
theorem dX10_dayGoes_82 : decode cX10_dayGoes 82 = .ok (.iload_n 3, 1) := by decide +kernel
theorem dX10_dayGoes_83 : decode cX10_dayGoes 83 = .ok (.iload_n 1, 1) := by decide +kernel
theorem dX10_dayGoes_84 : decode cX10_dayGoes 84 = .ok (.iconst 1, 1) := by decide +kernel
theorem dX10_dayGoes_85 : decode cX10_dayGoes 85 = .ok (.invokevirtual 150, 3) := by decide +kernel
theorem dX10_dayGoes_88 : decode cX10_dayGoes 88 = .ok (.iadd, 1) := by decide +kernel
theorem dX10_dayGoes_89 : decode cX10_dayGoes 89 = .ok (.istore_n 2, 1) := by decide +kernel
theorem dX10_dayGoes_90 : decode cX10_dayGoes 90 = .ok (.aload_n 0, 1) := by decide +kernel
theorem dX10_dayGoes_91 : decode cX10_dayGoes 91 = .ok (.iload_n 3, 1) := by decide +kernel
theorem dX10_dayGoes_92 : decode cX10_dayGoes 92 = .ok (.iconst 3, 1) := by decide +kernel
theorem dX10_dayGoes_93 : decode cX10_dayGoes 93 = .ok (.aload_n 0, 1) := by decide +kernel
theorem dX10_dayGoes_94 : decode cX10_dayGoes 94 = .ok (.getfield 123, 3) := by decide +kernel
theorem dX10_dayGoes_97 : decode cX10_dayGoes 97 = .ok (.invokevirtual 82, 3) := by decide +kernel
theorem dX10_dayGoes_100 : decode cX10_dayGoes 100 = .ok (.aload_n 0, 1) := by decide +kernel
theorem dX10_dayGoes_101 : decode cX10_dayGoes 101 = .ok (.iload_n 3, 1) := by decide +kernel
theorem dX10_dayGoes_102 : decode cX10_dayGoes 102 = .ok (.iconst 4, 1) := by decide +kernel
theorem dX10_dayGoes_103 : decode cX10_dayGoes 103 = .ok (.aload_n 0, 1) := by decide +kernel
theorem dX10_dayGoes_104 : decode cX10_dayGoes 104 = .ok (.getfield 109, 3) := by decide +kernel
theorem dX10_dayGoes_107 : decode cX10_dayGoes 107 = .ok (.invokevirtual 82, 3) := by decide +kernel
theorem dX10_dayGoes_110 : decode cX10_dayGoes 110 = .ok (.iinc 3 1, 3) := by decide +kernel
theorem dX10_dayGoes_113 : decode cX10_dayGoes 113 = .ok (.goto (-43), 3) := by decide +kernel
theorem dX10_dayGoes_116 : decode cX10_dayGoes 116 = .ok (.iconst 0, 1) := by decide +kernel
theorem dX10_dayGoes_117 : decode cX10_dayGoes 117 = .ok (.istore_n 3, 1) := by decide +kernel
theorem dX10_dayGoes_118 : decode cX10_dayGoes 118 = .ok (.iload_n 3, 1) := by decide +kernel
theorem dX10_dayGoes_119 : decode cX10_dayGoes 119 = .ok (.aload_n 0, 1) := by decide +kernel
theorem dX10_dayGoes_120 : decode cX10_dayGoes 120 = .ok (.getfield 7, 3) := by decide +kernel
theorem dX10_dayGoes_123 : decode cX10_dayGoes 123 = .ok (.iconst 1, 1) := by decide +kernel
theorem dX10_dayGoes_124 : decode cX10_dayGoes 124 = .ok (.iaload, 1) := by decide +kernel
theorem dX10_dayGoes_125 : decode cX10_dayGoes 125 = .ok (.if_icmp .ge 23, 3) := by decide +kernel
theorem dX10_dayGoes_128 : decode cX10_dayGoes 128 = .ok (.iload_n 1, 1) := by decide +kernel
theorem dX10_dayGoes_129 : decode cX10_dayGoes 129 = .ok (.bipush 7, 2) := by decide +kernel
theorem dX10_dayGoes_131 : decode cX10_dayGoes 131 = .ok (.irem, 1) := by decide +kernel
theorem dX10_dayGoes_132 : decode cX10_dayGoes 132 = .ok (.bipush 6, 2) := by decide +kernel
theorem dX10_dayGoes_134 : decode cX10_dayGoes 134 = .ok (.if_icmp .ne 14, 3) := by decide +kernel
theorem dX10_dayGoes_137 : decode cX10_dayGoes 137 = .ok (.aload_n 0, 1) := by decide +kernel
theorem dX10_dayGoes_138 : decode cX10_dayGoes 138 = .ok (.iload_n 3, 1) := by decide +kernel
theorem dX10_dayGoes_139 : decode cX10_dayGoes 139 = .ok (.invokevirtual 154, 3) := by decide +kernel
theorem dX10_dayGoes_142 : decode cX10_dayGoes 142 = .ok (.iinc 3 1, 3) := by decide +kernel
theorem dX10_dayGoes_145 : decode cX10_dayGoes 145 = .ok (.goto (-27), 3) := by decide +kernel
theorem dX10_dayGoes_148 : decode cX10_dayGoes 148 = .ok (.aload_n 0, 1) := by decide +kernel
theorem dX10_dayGoes_149 : decode cX10_dayGoes 149 = .ok (.getfield 7, 3) := by decide +kernel
theorem dX10_dayGoes_152 : decode cX10_dayGoes 152 = .ok (.iconst 4, 1) := by decide +kernel
theorem dX10_dayGoes_153 : decode cX10_dayGoes 153 = .ok (.dup2, 1) := by decide +kernel
theorem dX10_dayGoes_154 : decode cX10_dayGoes 154 = .ok (.iaload, 1) := by decide +kernel
theorem dX10_dayGoes_155 : decode cX10_dayGoes 155 = .ok (.iconst 1, 1) := by decide +kernel
theorem dX10_dayGoes_156 : decode cX10_dayGoes 156 = .ok (.iadd, 1) := by decide +kernel
theorem dX10_dayGoes_157 : decode cX10_dayGoes 157 = .ok (.iastore, 1) := by decide +kernel
theorem dX10_dayGoes_158 : decode cX10_dayGoes 158 = .ok (.iload_n 2, 1) := by decide +kernel
theorem dX10_dayGoes_159 : decode cX10_dayGoes 159 = .ok (.ireturn, 1) := by decide +kernel
theorem dX10_daysGo_0 : decode cX10_daysGo 0 = .ok (.iload_n 1, 1) := by decide +kernel
theorem dX10_daysGo_1 : decode cX10_daysGo 1 = .ok (.iconst 1, 1) := by decide +kernel
theorem dX10_daysGo_2 : decode cX10_daysGo 2 = .ok (.bipush 31, 2) := by decide +kernel
theorem dX10_daysGo_4 : decode cX10_daysGo 4 = .ok (.invokestatic 45, 3) := by decide +kernel
theorem dX10_daysGo_7 : decode cX10_daysGo 7 = .ok (.ifCond .ne 5, 3) := by decide +kernel
theorem dX10_daysGo_10 : decode cX10_daysGo 10 = .ok (.iconst (-1), 1) := by decide +kernel
theorem dX10_daysGo_11 : decode cX10_daysGo 11 = .ok (.ireturn, 1) := by decide +kernel
theorem dX10_daysGo_12 : decode cX10_daysGo 12 = .ok (.aload_n 0, 1) := by decide +kernel
theorem dX10_daysGo_13 : decode cX10_daysGo 13 = .ok (.getfield 7, 3) := by decide +kernel
theorem dX10_daysGo_16 : decode cX10_daysGo 16 = .ok (.iconst 4, 1) := by decide +kernel
theorem dX10_daysGo_17 : decode cX10_daysGo 17 = .ok (.iaload, 1) := by decide +kernel
theorem dX10_daysGo_18 : decode cX10_daysGo 18 = .ok (.iload_n 1, 1) := by decide +kernel
theorem dX10_daysGo_19 : decode cX10_daysGo 19 = .ok (.iadd, 1) := by decide +kernel
theorem dX10_daysGo_20 : decode cX10_daysGo 20 = .ok (.sipush 1000, 3) := by decide +kernel
theorem dX10_daysGo_23 : decode cX10_daysGo 23 = .ok (.if_icmp .le 6, 3) := by decide +kernel
theorem dX10_daysGo_26 : decode cX10_daysGo 26 = .ok (.bipush (-3), 2) := by decide +kernel
theorem dX10_daysGo_28 : decode cX10_daysGo 28 = .ok (.ireturn, 1) := by decide +kernel
theorem dX10_daysGo_29 : decode cX10_daysGo 29 = .ok (.iconst 0, 1) := by decide +kernel
theorem dX10_daysGo_30 : decode cX10_daysGo 30 = .ok (.istore_n 2, 1) := by decide +kernel
theorem dX10_daysGo_31 : decode cX10_daysGo 31 = .ok (.iconst 0, 1) := by decide +kernel
theorem dX10_daysGo_32 : decode cX10_daysGo 32 = .ok (.istore_n 3, 1) := by decide +kernel
theorem dX10_daysGo_33 : decode cX10_daysGo 33 = .ok (.iload_n 3, 1) := by decide +kernel
theorem dX10_daysGo_34 : decode cX10_daysGo 34 = .ok (.iload_n 1, 1) := by decide +kernel
theorem dX10_daysGo_35 : decode cX10_daysGo 35 = .ok (.if_icmp .ge 16, 3) := by decide +kernel
theorem dX10_daysGo_38 : decode cX10_daysGo 38 = .ok (.iload_n 2, 1) := by decide +kernel
theorem dX10_daysGo_39 : decode cX10_daysGo 39 = .ok (.aload_n 0, 1) := by decide +kernel
theorem dX10_daysGo_40 : decode cX10_daysGo 40 = .ok (.invokevirtual 157, 3) := by decide +kernel
theorem dX10_daysGo_43 : decode cX10_daysGo 43 = .ok (.iadd, 1) := by decide +kernel
theorem dX10_daysGo_44 : decode cX10_daysGo 44 = .ok (.istore_n 2, 1) := by decide +kernel
theorem dX10_daysGo_45 : decode cX10_daysGo 45 = .ok (.iinc 3 1, 3) := by decide +kernel
theorem dX10_daysGo_48 : decode cX10_daysGo 48 = .ok (.goto (-15), 3) := by decide +kernel
theorem dX10_daysGo_51 : decode cX10_daysGo 51 = .ok (.iload_n 2, 1) := by decide +kernel
theorem dX10_daysGo_52 : decode cX10_daysGo 52 = .ok (.ireturn, 1) := by decide +kernel
theorem dX10_days_0 : decode cX10_days 0 = .ok (.aload_n 0, 1) := by decide +kernel
theorem dX10_days_1 : decode cX10_days 1 = .ok (.invokevirtual 64, 3) := by decide +kernel
theorem dX10_days_4 : decode cX10_days 4 = .ok (.aload_n 0, 1) := by decide +kernel
theorem dX10_days_5 : decode cX10_days 5 = .ok (.aload_n 0, 1) := by decide +kernel
theorem dX10_days_6 : decode cX10_days 6 = .ok (.iload_n 1, 1) := by decide +kernel
theorem dX10_days_7 : decode cX10_days 7 = .ok (.invokevirtual 161, 3) := by decide +kernel
theorem dX10_days_10 : decode cX10_days 10 = .ok (.invokevirtual 67, 3) := by decide +kernel
theorem dX10_days_13 : decode cX10_days 13 = .ok (.ireturn, 1) := by decide +kernel
theorem dX10_housesBeyond_0 : decode cX10_housesBeyond 0 = .ok (.iconst 0, 1) := by decide +kernel
theorem dX10_housesBeyond_1 : decode cX10_housesBeyond 1 = .ok (.istore_n 2, 1) := by decide +kernel
theorem dX10_housesBeyond_2 : decode cX10_housesBeyond 2 = .ok (.iconst 0, 1) := by decide +kernel
theorem dX10_housesBeyond_3 : decode cX10_housesBeyond 3 = .ok (.istore_n 3, 1) := by decide +kernel
theorem dX10_housesBeyond_4 : decode cX10_housesBeyond 4 = .ok (.iload_n 3, 1) := by decide +kernel
theorem dX10_housesBeyond_5 : decode cX10_housesBeyond 5 = .ok (.aload_n 0, 1) := by decide +kernel
theorem dX10_housesBeyond_6 : decode cX10_housesBeyond 6 = .ok (.getfield 7, 3) := by decide +kernel
theorem dX10_housesBeyond_9 : decode cX10_housesBeyond 9 = .ok (.iconst 1, 1) := by decide +kernel
theorem dX10_housesBeyond_10 : decode cX10_housesBeyond 10 = .ok (.iaload, 1) := by decide +kernel
theorem dX10_housesBeyond_11 : decode cX10_housesBeyond 11 = .ok (.if_icmp .ge 31, 3) := by decide +kernel
theorem dX10_housesBeyond_14 : decode cX10_housesBeyond 14 = .ok (.iload_n 2, 1) := by decide +kernel
theorem dX10_housesBeyond_15 : decode cX10_housesBeyond 15 = .ok (.aload_n 0, 1) := by decide +kernel
theorem dX10_housesBeyond_16 : decode cX10_housesBeyond 16 = .ok (.aload_n 0, 1) := by decide +kernel
theorem dX10_housesBeyond_17 : decode cX10_housesBeyond 17 = .ok (.iload_n 3, 1) := by decide +kernel
theorem dX10_housesBeyond_18 : decode cX10_housesBeyond 18 = .ok (.iconst 0, 1) := by decide +kernel
theorem dX10_housesBeyond_19 : decode cX10_housesBeyond 19 = .ok (.invokevirtual 57, 3) := by decide +kernel
theorem dX10_housesBeyond_22 : decode cX10_housesBeyond 22 = .ok (.iload_n 1, 1) := by decide +kernel
theorem dX10_housesBeyond_23 : decode cX10_housesBeyond 23 = .ok (.invokevirtual 53, 3) := by decide +kernel
theorem dX10_housesBeyond_26 : decode cX10_housesBeyond 26 = .ok (.ifCond .eq 7, 3) := by decide +kernel
theorem dX10_housesBeyond_29 : decode cX10_housesBeyond 29 = .ok (.iconst 1, 1) := by decide +kernel
theorem dX10_housesBeyond_30 : decode cX10_housesBeyond 30 = .ok (.goto 4, 3) := by decide +kernel
theorem dX10_housesBeyond_33 : decode cX10_housesBeyond 33 = .ok (.iconst 0, 1) := by decide +kernel
theorem dX10_housesBeyond_34 : decode cX10_housesBeyond 34 = .ok (.iadd, 1) := by decide +kernel
theorem dX10_housesBeyond_35 : decode cX10_housesBeyond 35 = .ok (.istore_n 2, 1) := by decide +kernel
theorem dX10_housesBeyond_36 : decode cX10_housesBeyond 36 = .ok (.iinc 3 1, 3) := by decide +kernel
theorem dX10_housesBeyond_39 : decode cX10_housesBeyond 39 = .ok (.goto (-35), 3) := by decide +kernel
theorem dX10_housesBeyond_42 : decode cX10_housesBeyond 42 = .ok (.iload_n 2, 1) := by decide +kernel
theorem dX10_housesBeyond_43 : decode cX10_housesBeyond 43 = .ok (.ireturn, 1) := by decide +kernel
theorem dX10_cornerOf_0 : decode cX10_cornerOf 0 = .ok (.aload_n 0, 1) := by decide +kernel
theorem dX10_cornerOf_1 : decode cX10_cornerOf 1 = .ok (.iload_n 1, 1) := by decide +kernel
theorem dX10_cornerOf_2 : decode cX10_cornerOf 2 = .ok (.invokevirtual 60, 3) := by decide +kernel
theorem dX10_cornerOf_5 : decode cX10_cornerOf 5 = .ok (.ifCond .eq 13, 3) := by decide +kernel
theorem dX10_cornerOf_8 : decode cX10_cornerOf 8 = .ok (.iload_n 2, 1) := by decide +kernel
theorem dX10_cornerOf_9 : decode cX10_cornerOf 9 = .ok (.iconst 0, 1) := by decide +kernel
theorem dX10_cornerOf_10 : decode cX10_cornerOf 10 = .ok (.bipush 6, 2) := by decide +kernel
theorem dX10_cornerOf_12 : decode cX10_cornerOf 12 = .ok (.invokestatic 45, 3) := by decide +kernel
theorem dX10_cornerOf_15 : decode cX10_cornerOf 15 = .ok (.ifCond .ne 5, 3) := by decide +kernel
theorem dX10_cornerOf_18 : decode cX10_cornerOf 18 = .ok (.iconst (-1), 1) := by decide +kernel
theorem dX10_cornerOf_19 : decode cX10_cornerOf 19 = .ok (.ireturn, 1) := by decide +kernel
theorem dX10_cornerOf_20 : decode cX10_cornerOf 20 = .ok (.iload_n 1, 1) := by decide +kernel
theorem dX10_cornerOf_21 : decode cX10_cornerOf 21 = .ok (.ifCond .ne 16, 3) := by decide +kernel
theorem dX10_cornerOf_24 : decode cX10_cornerOf 24 = .ok (.iload_n 2, 1) := by decide +kernel
theorem dX10_cornerOf_25 : decode cX10_cornerOf 25 = .ok (.iconst 2, 1) := by decide +kernel
theorem dX10_cornerOf_26 : decode cX10_cornerOf 26 = .ok (.if_icmp .lt 8, 3) := by decide +kernel
theorem dX10_cornerOf_29 : decode cX10_cornerOf 29 = .ok (.iload_n 2, 1) := by decide +kernel
theorem dX10_cornerOf_30 : decode cX10_cornerOf 30 = .ok (.iconst 3, 1) := by decide +kernel
theorem dX10_cornerOf_31 : decode cX10_cornerOf 31 = .ok (.if_icmp .ne 6, 3) := by decide +kernel
theorem dX10_cornerOf_34 : decode cX10_cornerOf 34 = .ok (.bipush (-4), 2) := by decide +kernel
theorem dX10_cornerOf_36 : decode cX10_cornerOf 36 = .ok (.ireturn, 1) := by decide +kernel
theorem dX10_cornerOf_37 : decode cX10_cornerOf 37 = .ok (.iload_n 2, 1) := by decide +kernel
theorem dX10_cornerOf_38 : decode cX10_cornerOf 38 = .ok (.iconst 4, 1) := by decide +kernel
theorem dX10_cornerOf_39 : decode cX10_cornerOf 39 = .ok (.if_icmp .ge 12, 3) := by decide +kernel
theorem dX10_cornerOf_42 : decode cX10_cornerOf 42 = .ok (.aload_n 0, 1) := by decide +kernel
theorem dX10_cornerOf_43 : decode cX10_cornerOf 43 = .ok (.iload_n 1, 1) := by decide +kernel
theorem dX10_cornerOf_44 : decode cX10_cornerOf 44 = .ok (.iload_n 2, 1) := by decide +kernel
theorem dX10_cornerOf_45 : decode cX10_cornerOf 45 = .ok (.invokevirtual 49, 3) := by decide +kernel
theorem dX10_cornerOf_48 : decode cX10_cornerOf 48 = .ok (.goto 42, 3) := by decide +kernel
theorem dX10_cornerOf_51 : decode cX10_cornerOf 51 = .ok (.iload_n 2, 1) := by decide +kernel
theorem dX10_cornerOf_52 : decode cX10_cornerOf 52 = .ok (.iconst 4, 1) := by decide +kernel
theorem dX10_cornerOf_53 : decode cX10_cornerOf 53 = .ok (.if_icmp .ne 11, 3) := by decide +kernel
theorem dX10_cornerOf_56 : decode cX10_cornerOf 56 = .ok (.aload_n 0, 1) := by decide +kernel
theorem dX10_cornerOf_57 : decode cX10_cornerOf 57 = .ok (.iload_n 1, 1) := by decide +kernel
theorem dX10_cornerOf_58 : decode cX10_cornerOf 58 = .ok (.invokevirtual 164, 3) := by decide +kernel
theorem dX10_cornerOf_61 : decode cX10_cornerOf 61 = .ok (.goto 29, 3) := by decide +kernel
theorem dX10_cornerOf_64 : decode cX10_cornerOf 64 = .ok (.iload_n 2, 1) := by decide +kernel
theorem dX10_cornerOf_65 : decode cX10_cornerOf 65 = .ok (.iconst 5, 1) := by decide +kernel
theorem dX10_cornerOf_66 : decode cX10_cornerOf 66 = .ok (.if_icmp .ne 11, 3) := by decide +kernel
theorem dX10_cornerOf_69 : decode cX10_cornerOf 69 = .ok (.aload_n 0, 1) := by decide +kernel
theorem dX10_cornerOf_70 : decode cX10_cornerOf 70 = .ok (.iload_n 1, 1) := by decide +kernel
theorem dX10_cornerOf_71 : decode cX10_cornerOf 71 = .ok (.invokevirtual 167, 3) := by decide +kernel
theorem dX10_cornerOf_74 : decode cX10_cornerOf 74 = .ok (.goto 16, 3) := by decide +kernel
theorem dX10_cornerOf_77 : decode cX10_cornerOf 77 = .ok (.aload_n 0, 1) := by decide +kernel
theorem dX10_cornerOf_78 : decode cX10_cornerOf 78 = .ok (.iload_n 1, 1) := by decide +kernel
theorem dX10_cornerOf_79 : decode cX10_cornerOf 79 = .ok (.invokevirtual 88, 3) := by decide +kernel
theorem dX10_cornerOf_82 : decode cX10_cornerOf 82 = .ok (.ifCond .eq 7, 3) := by decide +kernel
theorem dX10_cornerOf_85 : decode cX10_cornerOf 85 = .ok (.iconst 1, 1) := by decide +kernel
theorem dX10_cornerOf_86 : decode cX10_cornerOf 86 = .ok (.goto 4, 3) := by decide +kernel
theorem dX10_cornerOf_89 : decode cX10_cornerOf 89 = .ok (.iconst 0, 1) := by decide +kernel
theorem dX10_cornerOf_90 : decode cX10_cornerOf 90 = .ok (.ireturn, 1) := by decide +kernel
theorem dX10_houseOf_0 : decode cX10_houseOf 0 = .ok (.aload_n 0, 1) := by decide +kernel
theorem dX10_houseOf_1 : decode cX10_houseOf 1 = .ok (.iload_n 1, 1) := by decide +kernel
theorem dX10_houseOf_2 : decode cX10_houseOf 2 = .ok (.invokevirtual 75, 3) := by decide +kernel
theorem dX10_houseOf_5 : decode cX10_houseOf 5 = .ok (.ifCond .eq 13, 3) := by decide +kernel
theorem dX10_houseOf_8 : decode cX10_houseOf 8 = .ok (.iload_n 2, 1) := by decide +kernel
theorem dX10_houseOf_9 : decode cX10_houseOf 9 = .ok (.iconst 0, 1) := by decide +kernel
theorem dX10_houseOf_10 : decode cX10_houseOf 10 = .ok (.bipush 11, 2) := by decide +kernel
theorem dX10_houseOf_12 : decode cX10_houseOf 12 = .ok (.invokestatic 45, 3) := by decide +kernel
theorem dX10_houseOf_15 : decode cX10_houseOf 15 = .ok (.ifCond .ne 5, 3) := by decide +kernel
theorem dX10_houseOf_18 : decode cX10_houseOf 18 = .ok (.iconst (-1), 1) := by decide +kernel
theorem dX10_houseOf_19 : decode cX10_houseOf 19 = .ok (.ireturn, 1) := by decide +kernel
theorem dX10_houseOf_20 : decode cX10_houseOf 20 = .ok (.iload_n 2, 1) := by decide +kernel
theorem dX10_houseOf_21 : decode cX10_houseOf 21 = .ok (.tableswitch 146 3 11 #[51, 73, 94, 114, 114, 121, 137, 137, 137], 51) := by decide +kernel
theorem dX10_houseOf_72 : decode cX10_houseOf 72 = .ok (.aload_n 0, 1) := by decide +kernel
theorem dX10_houseOf_73 : decode cX10_houseOf 73 = .ok (.iload_n 1, 1) := by decide +kernel
theorem dX10_houseOf_74 : decode cX10_houseOf 74 = .ok (.iconst 3, 1) := by decide +kernel
theorem dX10_houseOf_75 : decode cX10_houseOf 75 = .ok (.invokevirtual 57, 3) := by decide +kernel
theorem dX10_houseOf_78 : decode cX10_houseOf 78 = .ok (.iconst (-1), 1) := by decide +kernel
theorem dX10_houseOf_79 : decode cX10_houseOf 79 = .ok (.if_icmp .ne 8, 3) := by decide +kernel
theorem dX10_houseOf_82 : decode cX10_houseOf 82 = .ok (.bipush (-4), 2) := by decide +kernel
theorem dX10_houseOf_84 : decode cX10_houseOf 84 = .ok (.goto 9, 3) := by decide +kernel
theorem dX10_houseOf_87 : decode cX10_houseOf 87 = .ok (.aload_n 0, 1) := by decide +kernel
theorem dX10_houseOf_88 : decode cX10_houseOf 88 = .ok (.iload_n 1, 1) := by decide +kernel
theorem dX10_houseOf_89 : decode cX10_houseOf 89 = .ok (.iconst 3, 1) := by decide +kernel
theorem dX10_houseOf_90 : decode cX10_houseOf 90 = .ok (.invokevirtual 57, 3) := by decide +kernel
theorem dX10_houseOf_93 : decode cX10_houseOf 93 = .ok (.ireturn, 1) := by decide +kernel
theorem dX10_houseOf_94 : decode cX10_houseOf 94 = .ok (.aload_n 0, 1) := by decide +kernel
theorem dX10_houseOf_95 : decode cX10_houseOf 95 = .ok (.iload_n 1, 1) := by decide +kernel
theorem dX10_houseOf_96 : decode cX10_houseOf 96 = .ok (.iconst 4, 1) := by decide +kernel
theorem dX10_houseOf_97 : decode cX10_houseOf 97 = .ok (.invokevirtual 57, 3) := by decide +kernel
theorem dX10_houseOf_100 : decode cX10_houseOf 100 = .ok (.ifCond .ne 8, 3) := by decide +kernel
theorem dX10_houseOf_103 : decode cX10_houseOf 103 = .ok (.bipush (-4), 2) := by decide +kernel
theorem dX10_houseOf_105 : decode cX10_houseOf 105 = .ok (.goto 9, 3) := by decide +kernel
theorem dX10_houseOf_108 : decode cX10_houseOf 108 = .ok (.aload_n 0, 1) := by decide +kernel
theorem dX10_houseOf_109 : decode cX10_houseOf 109 = .ok (.iload_n 1, 1) := by decide +kernel
theorem dX10_houseOf_110 : decode cX10_houseOf 110 = .ok (.iconst 4, 1) := by decide +kernel
theorem dX10_houseOf_111 : decode cX10_houseOf 111 = .ok (.invokevirtual 57, 3) := by decide +kernel
theorem dX10_houseOf_114 : decode cX10_houseOf 114 = .ok (.ireturn, 1) := by decide +kernel
theorem dX10_houseOf_115 : decode cX10_houseOf 115 = .ok (.aload_n 0, 1) := by decide +kernel
theorem dX10_houseOf_116 : decode cX10_houseOf 116 = .ok (.iload_n 1, 1) := by decide +kernel
theorem dX10_houseOf_117 : decode cX10_houseOf 117 = .ok (.aload_n 0, 1) := by decide +kernel
theorem dX10_houseOf_118 : decode cX10_houseOf 118 = .ok (.getfield 7, 3) := by decide +kernel
theorem dX10_houseOf_121 : decode cX10_houseOf 121 = .ok (.iconst 4, 1) := by decide +kernel
theorem dX10_houseOf_122 : decode cX10_houseOf 122 = .ok (.iaload, 1) := by decide +kernel
theorem dX10_houseOf_123 : decode cX10_houseOf 123 = .ok (.invokevirtual 138, 3) := by decide +kernel
theorem dX10_houseOf_126 : decode cX10_houseOf 126 = .ok (.ifCond .eq 7, 3) := by decide +kernel
theorem dX10_houseOf_129 : decode cX10_houseOf 129 = .ok (.iconst 1, 1) := by decide +kernel
theorem dX10_houseOf_130 : decode cX10_houseOf 130 = .ok (.goto 4, 3) := by decide +kernel
theorem dX10_houseOf_133 : decode cX10_houseOf 133 = .ok (.iconst 0, 1) := by decide +kernel
theorem dX10_houseOf_134 : decode cX10_houseOf 134 = .ok (.ireturn, 1) := by decide +kernel
theorem dX10_houseOf_135 : decode cX10_houseOf 135 = .ok (.aload_n 0, 1) := by decide +kernel
theorem dX10_houseOf_136 : decode cX10_houseOf 136 = .ok (.iload_n 1, 1) := by decide +kernel
theorem dX10_houseOf_137 : decode cX10_houseOf 137 = .ok (.iload_n 2, 1) := by decide +kernel
theorem dX10_houseOf_138 : decode cX10_houseOf 138 = .ok (.invokevirtual 57, 3) := by decide +kernel
theorem dX10_houseOf_141 : decode cX10_houseOf 141 = .ok (.ireturn, 1) := by decide +kernel
theorem dX10_houseOf_142 : decode cX10_houseOf 142 = .ok (.aload_n 0, 1) := by decide +kernel
theorem dX10_houseOf_143 : decode cX10_houseOf 143 = .ok (.iload_n 1, 1) := by decide +kernel
theorem dX10_houseOf_144 : decode cX10_houseOf 144 = .ok (.bipush 8, 2) := by decide +kernel
theorem dX10_houseOf_146 : decode cX10_houseOf 146 = .ok (.invokevirtual 57, 3) := by decide +kernel
theorem dX10_houseOf_149 : decode cX10_houseOf 149 = .ok (.aload_n 0, 1) := by decide +kernel
theorem dX10_houseOf_150 : decode cX10_houseOf 150 = .ok (.iload_n 1, 1) := by decide +kernel
theorem dX10_houseOf_151 : decode cX10_houseOf 151 = .ok (.bipush 9, 2) := by decide +kernel
theorem dX10_houseOf_153 : decode cX10_houseOf 153 = .ok (.invokevirtual 57, 3) := by decide +kernel
theorem dX10_houseOf_156 : decode cX10_houseOf 156 = .ok (.iadd, 1) := by decide +kernel
theorem dX10_houseOf_157 : decode cX10_houseOf 157 = .ok (.ireturn, 1) := by decide +kernel
theorem dX10_houseOf_158 : decode cX10_houseOf 158 = .ok (.aload_n 0, 1) := by decide +kernel
theorem dX10_houseOf_159 : decode cX10_houseOf 159 = .ok (.iload_n 1, 1) := by decide +kernel
theorem dX10_houseOf_160 : decode cX10_houseOf 160 = .ok (.iload_n 2, 1) := by decide +kernel
theorem dX10_houseOf_161 : decode cX10_houseOf 161 = .ok (.iconst 1, 1) := by decide +kernel
theorem dX10_houseOf_162 : decode cX10_houseOf 162 = .ok (.iadd, 1) := by decide +kernel
theorem dX10_houseOf_163 : decode cX10_houseOf 163 = .ok (.invokevirtual 57, 3) := by decide +kernel
theorem dX10_houseOf_166 : decode cX10_houseOf 166 = .ok (.ireturn, 1) := by decide +kernel
theorem dX10_houseOf_167 : decode cX10_houseOf 167 = .ok (.aload_n 0, 1) := by decide +kernel
theorem dX10_houseOf_168 : decode cX10_houseOf 168 = .ok (.iload_n 1, 1) := by decide +kernel
theorem dX10_houseOf_169 : decode cX10_houseOf 169 = .ok (.iload_n 2, 1) := by decide +kernel
theorem dX10_houseOf_170 : decode cX10_houseOf 170 = .ok (.invokevirtual 57, 3) := by decide +kernel
theorem dX10_houseOf_173 : decode cX10_houseOf 173 = .ok (.ireturn, 1) := by decide +kernel
theorem dX10_dueOf_0 : decode cX10_dueOf 0 = .ok (.aload_n 0, 1) := by decide +kernel
theorem dX10_dueOf_1 : decode cX10_dueOf 1 = .ok (.iload_n 1, 1) := by decide +kernel
theorem dX10_dueOf_2 : decode cX10_dueOf 2 = .ok (.bipush 6, 2) := by decide +kernel
theorem dX10_dueOf_4 : decode cX10_dueOf 4 = .ok (.invokevirtual 57, 3) := by decide +kernel
theorem dX10_dueOf_7 : decode cX10_dueOf 7 = .ok (.aload_n 0, 1) := by decide +kernel
theorem dX10_dueOf_8 : decode cX10_dueOf 8 = .ok (.iload_n 1, 1) := by decide +kernel
theorem dX10_dueOf_9 : decode cX10_dueOf 9 = .ok (.bipush 8, 2) := by decide +kernel
theorem dX10_dueOf_11 : decode cX10_dueOf 11 = .ok (.invokevirtual 57, 3) := by decide +kernel
theorem dX10_dueOf_14 : decode cX10_dueOf 14 = .ok (.iadd, 1) := by decide +kernel
theorem dX10_dueOf_15 : decode cX10_dueOf 15 = .ok (.aload_n 0, 1) := by decide +kernel
theorem dX10_dueOf_16 : decode cX10_dueOf 16 = .ok (.iload_n 1, 1) := by decide +kernel
theorem dX10_dueOf_17 : decode cX10_dueOf 17 = .ok (.bipush 9, 2) := by decide +kernel
theorem dX10_dueOf_19 : decode cX10_dueOf 19 = .ok (.invokevirtual 57, 3) := by decide +kernel
theorem dX10_dueOf_22 : decode cX10_dueOf 22 = .ok (.iadd, 1) := by decide +kernel
theorem dX10_dueOf_23 : decode cX10_dueOf 23 = .ok (.aload_n 0, 1) := by decide +kernel
theorem dX10_dueOf_24 : decode cX10_dueOf 24 = .ok (.iload_n 1, 1) := by decide +kernel
theorem dX10_dueOf_25 : decode cX10_dueOf 25 = .ok (.bipush 10, 2) := by decide +kernel
theorem dX10_dueOf_27 : decode cX10_dueOf 27 = .ok (.invokevirtual 57, 3) := by decide +kernel
theorem dX10_dueOf_30 : decode cX10_dueOf 30 = .ok (.iadd, 1) := by decide +kernel
theorem dX10_dueOf_31 : decode cX10_dueOf 31 = .ok (.ireturn, 1) := by decide +kernel
theorem dX10_shareOf_0 : decode cX10_shareOf 0 = .ok (.aload_n 0, 1) := by decide +kernel
theorem dX10_shareOf_1 : decode cX10_shareOf 1 = .ok (.iload_n 1, 1) := by decide +kernel
theorem dX10_shareOf_2 : decode cX10_shareOf 2 = .ok (.bipush 6, 2) := by decide +kernel
theorem dX10_shareOf_4 : decode cX10_shareOf 4 = .ok (.invokevirtual 57, 3) := by decide +kernel
theorem dX10_shareOf_7 : decode cX10_shareOf 7 = .ok (.i2f, 1) := by decide +kernel
theorem dX10_shareOf_8 : decode cX10_shareOf 8 = .ok (.aload_n 0, 1) := by decide +kernel
theorem dX10_shareOf_9 : decode cX10_shareOf 9 = .ok (.iload_n 1, 1) := by decide +kernel
theorem dX10_shareOf_10 : decode cX10_shareOf 10 = .ok (.invokevirtual 170, 3) := by decide +kernel
theorem dX10_shareOf_13 : decode cX10_shareOf 13 = .ok (.i2f, 1) := by decide +kernel
theorem dX10_shareOf_14 : decode cX10_shareOf 14 = .ok (.fdiv, 1) := by decide +kernel
theorem dX10_shareOf_15 : decode cX10_shareOf 15 = .ok (.freturn, 1) := by decide +kernel
theorem dX10_bitsOf_0 : decode cX10_bitsOf 0 = .ok (.fload_n 0, 1) := by decide +kernel
theorem dX10_bitsOf_1 : decode cX10_bitsOf 1 = .ok (.fconst 0, 1) := by decide +kernel
theorem dX10_bitsOf_2 : decode cX10_bitsOf 2 = .ok (.fcmp .l, 1) := by decide +kernel
theorem dX10_bitsOf_3 : decode cX10_bitsOf 3 = .ok (.ifCond .ne 5, 3) := by decide +kernel
theorem dX10_bitsOf_6 : decode cX10_bitsOf 6 = .ok (.iconst 0, 1) := by decide +kernel
theorem dX10_bitsOf_7 : decode cX10_bitsOf 7 = .ok (.ireturn, 1) := by decide +kernel
theorem dX10_bitsOf_8 : decode cX10_bitsOf 8 = .ok (.fload_n 0, 1) := by decide +kernel
theorem dX10_bitsOf_9 : decode cX10_bitsOf 9 = .ok (.fstore_n 1, 1) := by decide +kernel
theorem dX10_bitsOf_10 : decode cX10_bitsOf 10 = .ok (.bipush 127, 2) := by decide +kernel
theorem dX10_bitsOf_12 : decode cX10_bitsOf 12 = .ok (.istore_n 2, 1) := by decide +kernel
theorem dX10_bitsOf_13 : decode cX10_bitsOf 13 = .ok (.fload_n 1, 1) := by decide +kernel
theorem dX10_bitsOf_14 : decode cX10_bitsOf 14 = .ok (.fconst 1, 1) := by decide +kernel
theorem dX10_bitsOf_15 : decode cX10_bitsOf 15 = .ok (.fcmp .g, 1) := by decide +kernel
theorem dX10_bitsOf_16 : decode cX10_bitsOf 16 = .ok (.ifCond .ge 13, 3) := by decide +kernel
theorem dX10_bitsOf_19 : decode cX10_bitsOf 19 = .ok (.fload_n 1, 1) := by decide +kernel
theorem dX10_bitsOf_20 : decode cX10_bitsOf 20 = .ok (.fconst 2, 1) := by decide +kernel
theorem dX10_bitsOf_21 : decode cX10_bitsOf 21 = .ok (.fmul, 1) := by decide +kernel
theorem dX10_bitsOf_22 : decode cX10_bitsOf 22 = .ok (.fstore_n 1, 1) := by decide +kernel
theorem dX10_bitsOf_23 : decode cX10_bitsOf 23 = .ok (.iinc 2 (-1), 3) := by decide +kernel
theorem dX10_bitsOf_26 : decode cX10_bitsOf 26 = .ok (.goto (-13), 3) := by decide +kernel
theorem dX10_bitsOf_29 : decode cX10_bitsOf 29 = .ok (.iload_n 2, 1) := by decide +kernel
theorem dX10_bitsOf_30 : decode cX10_bitsOf 30 = .ok (.bipush 23, 2) := by decide +kernel
theorem dX10_bitsOf_32 : decode cX10_bitsOf 32 = .ok (.ishl, 1) := by decide +kernel
theorem dX10_bitsOf_33 : decode cX10_bitsOf 33 = .ok (.fload_n 1, 1) := by decide +kernel
theorem dX10_bitsOf_34 : decode cX10_bitsOf 34 = .ok (.fconst 1, 1) := by decide +kernel
theorem dX10_bitsOf_35 : decode cX10_bitsOf 35 = .ok (.fsub, 1) := by decide +kernel
theorem dX10_bitsOf_36 : decode cX10_bitsOf 36 = .ok (.ldc 173, 2) := by decide +kernel
theorem dX10_bitsOf_38 : decode cX10_bitsOf 38 = .ok (.fmul, 1) := by decide +kernel
theorem dX10_bitsOf_39 : decode cX10_bitsOf 39 = .ok (.f2i, 1) := by decide +kernel
theorem dX10_bitsOf_40 : decode cX10_bitsOf 40 = .ok (.iadd, 1) := by decide +kernel
theorem dX10_bitsOf_41 : decode cX10_bitsOf 41 = .ok (.ireturn, 1) := by decide +kernel
theorem dX10_shareBits_0 : decode cX10_shareBits 0 = .ok (.aload_n 0, 1) := by decide +kernel
theorem dX10_shareBits_1 : decode cX10_shareBits 1 = .ok (.iload_n 1, 1) := by decide +kernel
theorem dX10_shareBits_2 : decode cX10_shareBits 2 = .ok (.invokevirtual 75, 3) := by decide +kernel
theorem dX10_shareBits_5 : decode cX10_shareBits 5 = .ok (.ifCond .ne 7, 3) := by decide +kernel
theorem dX10_shareBits_8 : decode cX10_shareBits 8 = .ok (.iconst (-1), 1) := by decide +kernel
theorem dX10_shareBits_9 : decode cX10_shareBits 9 = .ok (.goto 24, 3) := by decide +kernel
theorem dX10_shareBits_12 : decode cX10_shareBits 12 = .ok (.aload_n 0, 1) := by decide +kernel
theorem dX10_shareBits_13 : decode cX10_shareBits 13 = .ok (.iload_n 1, 1) := by decide +kernel
theorem dX10_shareBits_14 : decode cX10_shareBits 14 = .ok (.invokevirtual 170, 3) := by decide +kernel
theorem dX10_shareBits_17 : decode cX10_shareBits 17 = .ok (.ifCond .ne 8, 3) := by decide +kernel
theorem dX10_shareBits_20 : decode cX10_shareBits 20 = .ok (.bipush (-4), 2) := by decide +kernel
theorem dX10_shareBits_22 : decode cX10_shareBits 22 = .ok (.goto 11, 3) := by decide +kernel
theorem dX10_shareBits_25 : decode cX10_shareBits 25 = .ok (.aload_n 0, 1) := by decide +kernel
theorem dX10_shareBits_26 : decode cX10_shareBits 26 = .ok (.iload_n 1, 1) := by decide +kernel
theorem dX10_shareBits_27 : decode cX10_shareBits 27 = .ok (.invokevirtual 174, 3) := by decide +kernel
theorem dX10_shareBits_30 : decode cX10_shareBits 30 = .ok (.invokestatic 178, 3) := by decide +kernel
theorem dX10_shareBits_33 : decode cX10_shareBits 33 = .ok (.ireturn, 1) := by decide +kernel
theorem dX10_meanBits_0 : decode cX10_meanBits 0 = .ok (.dconst 0, 1) := by decide +kernel
theorem dX10_meanBits_1 : decode cX10_meanBits 1 = .ok (.dstore_n 1, 1) := by decide +kernel
theorem dX10_meanBits_2 : decode cX10_meanBits 2 = .ok (.iconst 0, 1) := by decide +kernel
theorem dX10_meanBits_3 : decode cX10_meanBits 3 = .ok (.istore_n 3, 1) := by decide +kernel
theorem dX10_meanBits_4 : decode cX10_meanBits 4 = .ok (.iconst 0, 1) := by decide +kernel
theorem dX10_meanBits_5 : decode cX10_meanBits 5 = .ok (.istore 4, 2) := by decide +kernel
theorem dX10_meanBits_7 : decode cX10_meanBits 7 = .ok (.iload 4, 2) := by decide +kernel
theorem dX10_meanBits_9 : decode cX10_meanBits 9 = .ok (.aload_n 0, 1) := by decide +kernel
theorem dX10_meanBits_10 : decode cX10_meanBits 10 = .ok (.getfield 7, 3) := by decide +kernel
theorem dX10_meanBits_13 : decode cX10_meanBits 13 = .ok (.iconst 1, 1) := by decide +kernel
theorem dX10_meanBits_14 : decode cX10_meanBits 14 = .ok (.iaload, 1) := by decide +kernel
theorem dX10_meanBits_15 : decode cX10_meanBits 15 = .ok (.if_icmp .ge 31, 3) := by decide +kernel
theorem dX10_meanBits_18 : decode cX10_meanBits 18 = .ok (.aload_n 0, 1) := by decide +kernel
theorem dX10_meanBits_19 : decode cX10_meanBits 19 = .ok (.iload 4, 2) := by decide +kernel
theorem dX10_meanBits_21 : decode cX10_meanBits 21 = .ok (.invokevirtual 170, 3) := by decide +kernel
theorem dX10_meanBits_24 : decode cX10_meanBits 24 = .ok (.ifCond .le 16, 3) := by decide +kernel
theorem dX10_meanBits_27 : decode cX10_meanBits 27 = .ok (.dload_n 1, 1) := by decide +kernel
theorem dX10_meanBits_28 : decode cX10_meanBits 28 = .ok (.aload_n 0, 1) := by decide +kernel
theorem dX10_meanBits_29 : decode cX10_meanBits 29 = .ok (.iload 4, 2) := by decide +kernel
theorem dX10_meanBits_31 : decode cX10_meanBits 31 = .ok (.invokevirtual 174, 3) := by decide +kernel
theorem dX10_meanBits_34 : decode cX10_meanBits 34 = .ok (.f2d, 1) := by decide +kernel
theorem dX10_meanBits_35 : decode cX10_meanBits 35 = .ok (.dadd, 1) := by decide +kernel
theorem dX10_meanBits_36 : decode cX10_meanBits 36 = .ok (.dstore_n 1, 1) := by decide +kernel
theorem dX10_meanBits_37 : decode cX10_meanBits 37 = .ok (.iinc 3 1, 3) := by decide +kernel
theorem dX10_meanBits_40 : decode cX10_meanBits 40 = .ok (.iinc 4 1, 3) := by decide +kernel
theorem dX10_meanBits_43 : decode cX10_meanBits 43 = .ok (.goto (-36), 3) := by decide +kernel
theorem dX10_meanBits_46 : decode cX10_meanBits 46 = .ok (.iload_n 3, 1) := by decide +kernel
theorem dX10_meanBits_47 : decode cX10_meanBits 47 = .ok (.ifCond .ne 8, 3) := by decide +kernel
theorem dX10_meanBits_50 : decode cX10_meanBits 50 = .ok (.bipush (-4), 2) := by decide +kernel
theorem dX10_meanBits_52 : decode cX10_meanBits 52 = .ok (.goto 11, 3) := by decide +kernel
theorem dX10_meanBits_55 : decode cX10_meanBits 55 = .ok (.dload_n 1, 1) := by decide +kernel
theorem dX10_meanBits_56 : decode cX10_meanBits 56 = .ok (.iload_n 3, 1) := by decide +kernel
theorem dX10_meanBits_57 : decode cX10_meanBits 57 = .ok (.i2d, 1) := by decide +kernel
theorem dX10_meanBits_58 : decode cX10_meanBits 58 = .ok (.ddiv, 1) := by decide +kernel
theorem dX10_meanBits_59 : decode cX10_meanBits 59 = .ok (.d2f, 1) := by decide +kernel
theorem dX10_meanBits_60 : decode cX10_meanBits 60 = .ok (.invokestatic 178, 3) := by decide +kernel
theorem dX10_meanBits_63 : decode cX10_meanBits 63 = .ok (.ireturn, 1) := by decide +kernel
theorem dX10_carrierOf_0 : decode cX10_carrierOf 0 = .ok (.aload_n 0, 1) := by decide +kernel
theorem dX10_carrierOf_1 : decode cX10_carrierOf 1 = .ok (.iload_n 1, 1) := by decide +kernel
theorem dX10_carrierOf_2 : decode cX10_carrierOf 2 = .ok (.invokevirtual 91, 3) := by decide +kernel
theorem dX10_carrierOf_5 : decode cX10_carrierOf 5 = .ok (.ifCond .eq 13, 3) := by decide +kernel
theorem dX10_carrierOf_8 : decode cX10_carrierOf 8 = .ok (.iload_n 2, 1) := by decide +kernel
theorem dX10_carrierOf_9 : decode cX10_carrierOf 9 = .ok (.iconst 0, 1) := by decide +kernel
theorem dX10_carrierOf_10 : decode cX10_carrierOf 10 = .ok (.bipush 7, 2) := by decide +kernel
theorem dX10_carrierOf_12 : decode cX10_carrierOf 12 = .ok (.invokestatic 45, 3) := by decide +kernel
theorem dX10_carrierOf_15 : decode cX10_carrierOf 15 = .ok (.ifCond .ne 5, 3) := by decide +kernel
theorem dX10_carrierOf_18 : decode cX10_carrierOf 18 = .ok (.iconst (-1), 1) := by decide +kernel
theorem dX10_carrierOf_19 : decode cX10_carrierOf 19 = .ok (.ireturn, 1) := by decide +kernel
theorem dX10_carrierOf_20 : decode cX10_carrierOf 20 = .ok (.iload_n 2, 1) := by decide +kernel
theorem dX10_carrierOf_21 : decode cX10_carrierOf 21 = .ok (.iconst 3, 1) := by decide +kernel
theorem dX10_carrierOf_22 : decode cX10_carrierOf 22 = .ok (.if_icmp .ne 11, 3) := by decide +kernel
theorem dX10_carrierOf_25 : decode cX10_carrierOf 25 = .ok (.aload_n 0, 1) := by decide +kernel
theorem dX10_carrierOf_26 : decode cX10_carrierOf 26 = .ok (.iload_n 1, 1) := by decide +kernel
theorem dX10_carrierOf_27 : decode cX10_carrierOf 27 = .ok (.invokevirtual 97, 3) := by decide +kernel
theorem dX10_carrierOf_30 : decode cX10_carrierOf 30 = .ok (.goto 20, 3) := by decide +kernel
theorem dX10_carrierOf_33 : decode cX10_carrierOf 33 = .ok (.aload_n 0, 1) := by decide +kernel
theorem dX10_carrierOf_34 : decode cX10_carrierOf 34 = .ok (.iload_n 1, 1) := by decide +kernel
theorem dX10_carrierOf_35 : decode cX10_carrierOf 35 = .ok (.iload_n 2, 1) := by decide +kernel
theorem dX10_carrierOf_36 : decode cX10_carrierOf 36 = .ok (.iconst 3, 1) := by decide +kernel
theorem dX10_carrierOf_37 : decode cX10_carrierOf 37 = .ok (.if_icmp .ge 7, 3) := by decide +kernel
theorem dX10_carrierOf_40 : decode cX10_carrierOf 40 = .ok (.iload_n 2, 1) := by decide +kernel
theorem dX10_carrierOf_41 : decode cX10_carrierOf 41 = .ok (.goto 6, 3) := by decide +kernel
theorem dX10_carrierOf_44 : decode cX10_carrierOf 44 = .ok (.iload_n 2, 1) := by decide +kernel
theorem dX10_carrierOf_45 : decode cX10_carrierOf 45 = .ok (.iconst 1, 1) := by decide +kernel
theorem dX10_carrierOf_46 : decode cX10_carrierOf 46 = .ok (.isub, 1) := by decide +kernel
theorem dX10_carrierOf_47 : decode cX10_carrierOf 47 = .ok (.invokevirtual 85, 3) := by decide +kernel
theorem dX10_carrierOf_50 : decode cX10_carrierOf 50 = .ok (.ireturn, 1) := by decide +kernel
theorem dX10_pauseOf_0 : decode cX10_pauseOf 0 = .ok (.iload_n 1, 1) := by decide +kernel
theorem dX10_pauseOf_1 : decode cX10_pauseOf 1 = .ok (.iconst 0, 1) := by decide +kernel
theorem dX10_pauseOf_2 : decode cX10_pauseOf 2 = .ok (.aload_n 0, 1) := by decide +kernel
theorem dX10_pauseOf_3 : decode cX10_pauseOf 3 = .ok (.getfield 7, 3) := by decide +kernel
theorem dX10_pauseOf_6 : decode cX10_pauseOf 6 = .ok (.iconst 3, 1) := by decide +kernel
theorem dX10_pauseOf_7 : decode cX10_pauseOf 7 = .ok (.iaload, 1) := by decide +kernel
theorem dX10_pauseOf_8 : decode cX10_pauseOf 8 = .ok (.iconst 1, 1) := by decide +kernel
theorem dX10_pauseOf_9 : decode cX10_pauseOf 9 = .ok (.isub, 1) := by decide +kernel
theorem dX10_pauseOf_10 : decode cX10_pauseOf 10 = .ok (.invokestatic 45, 3) := by decide +kernel
theorem dX10_pauseOf_13 : decode cX10_pauseOf 13 = .ok (.ifCond .eq 12, 3) := by decide +kernel
theorem dX10_pauseOf_16 : decode cX10_pauseOf 16 = .ok (.iload_n 2, 1) := by decide +kernel
theorem dX10_pauseOf_17 : decode cX10_pauseOf 17 = .ok (.iconst 0, 1) := by decide +kernel
theorem dX10_pauseOf_18 : decode cX10_pauseOf 18 = .ok (.iconst 2, 1) := by decide +kernel
theorem dX10_pauseOf_19 : decode cX10_pauseOf 19 = .ok (.invokestatic 45, 3) := by decide +kernel
theorem dX10_pauseOf_22 : decode cX10_pauseOf 22 = .ok (.ifCond .ne 7, 3) := by decide +kernel
theorem dX10_pauseOf_25 : decode cX10_pauseOf 25 = .ok (.iconst (-1), 1) := by decide +kernel
theorem dX10_pauseOf_26 : decode cX10_pauseOf 26 = .ok (.goto 17, 3) := by decide +kernel
theorem dX10_pauseOf_29 : decode cX10_pauseOf 29 = .ok (.aload_n 0, 1) := by decide +kernel
theorem dX10_pauseOf_30 : decode cX10_pauseOf 30 = .ok (.getfield 7, 3) := by decide +kernel
theorem dX10_pauseOf_33 : decode cX10_pauseOf 33 = .ok (.sipush 447, 3) := by decide +kernel
theorem dX10_pauseOf_36 : decode cX10_pauseOf 36 = .ok (.iconst 3, 1) := by decide +kernel
theorem dX10_pauseOf_37 : decode cX10_pauseOf 37 = .ok (.iload_n 1, 1) := by decide +kernel
theorem dX10_pauseOf_38 : decode cX10_pauseOf 38 = .ok (.imul, 1) := by decide +kernel
theorem dX10_pauseOf_39 : decode cX10_pauseOf 39 = .ok (.iadd, 1) := by decide +kernel
theorem dX10_pauseOf_40 : decode cX10_pauseOf 40 = .ok (.iload_n 2, 1) := by decide +kernel
theorem dX10_pauseOf_41 : decode cX10_pauseOf 41 = .ok (.iadd, 1) := by decide +kernel
theorem dX10_pauseOf_42 : decode cX10_pauseOf 42 = .ok (.iaload, 1) := by decide +kernel
theorem dX10_pauseOf_43 : decode cX10_pauseOf 43 = .ok (.ireturn, 1) := by decide +kernel
theorem dX10_roundAt_0 : decode cX10_roundAt 0 = .ok (.aload_n 0, 1) := by decide +kernel
theorem dX10_roundAt_1 : decode cX10_roundAt 1 = .ok (.iload_n 1, 1) := by decide +kernel
theorem dX10_roundAt_2 : decode cX10_roundAt 2 = .ok (.invokevirtual 91, 3) := by decide +kernel
theorem dX10_roundAt_5 : decode cX10_roundAt 5 = .ok (.ifCond .eq 7, 3) := by decide +kernel
theorem dX10_roundAt_8 : decode cX10_roundAt 8 = .ok (.iload_n 2, 1) := by decide +kernel
theorem dX10_roundAt_9 : decode cX10_roundAt 9 = .ok (.ifCond .ge 5, 3) := by decide +kernel
theorem dX10_roundAt_12 : decode cX10_roundAt 12 = .ok (.iconst (-1), 1) := by decide +kernel
theorem dX10_roundAt_13 : decode cX10_roundAt 13 = .ok (.ireturn, 1) := by decide +kernel
theorem dX10_roundAt_14 : decode cX10_roundAt 14 = .ok (.aload_n 0, 1) := by decide +kernel
theorem dX10_roundAt_15 : decode cX10_roundAt 15 = .ok (.invokevirtual 132, 3) := by decide +kernel
theorem dX10_roundAt_18 : decode cX10_roundAt 18 = .ok (.iload_n 2, 1) := by decide +kernel
theorem dX10_roundAt_19 : decode cX10_roundAt 19 = .ok (.istore_n 3, 1) := by decide +kernel
theorem dX10_roundAt_20 : decode cX10_roundAt 20 = .ok (.iconst 0, 1) := by decide +kernel
theorem dX10_roundAt_21 : decode cX10_roundAt 21 = .ok (.istore 4, 2) := by decide +kernel
theorem dX10_roundAt_23 : decode cX10_roundAt 23 = .ok (.iload 4, 2) := by decide +kernel
theorem dX10_roundAt_25 : decode cX10_roundAt 25 = .ok (.aload_n 0, 1) := by decide +kernel
theorem dX10_roundAt_26 : decode cX10_roundAt 26 = .ok (.getfield 7, 3) := by decide +kernel
theorem dX10_roundAt_29 : decode cX10_roundAt 29 = .ok (.iconst 1, 1) := by decide +kernel
theorem dX10_roundAt_30 : decode cX10_roundAt 30 = .ok (.iaload, 1) := by decide +kernel
theorem dX10_roundAt_31 : decode cX10_roundAt 31 = .ok (.if_icmp .ge 40, 3) := by decide +kernel
theorem dX10_roundAt_34 : decode cX10_roundAt 34 = .ok (.aload_n 0, 1) := by decide +kernel
theorem dX10_roundAt_35 : decode cX10_roundAt 35 = .ok (.aload_n 0, 1) := by decide +kernel
theorem dX10_roundAt_36 : decode cX10_roundAt 36 = .ok (.getfield 28, 3) := by decide +kernel
theorem dX10_roundAt_39 : decode cX10_roundAt 39 = .ok (.iload 4, 2) := by decide +kernel
theorem dX10_roundAt_41 : decode cX10_roundAt 41 = .ok (.iaload, 1) := by decide +kernel
theorem dX10_roundAt_42 : decode cX10_roundAt 42 = .ok (.iconst 3, 1) := by decide +kernel
theorem dX10_roundAt_43 : decode cX10_roundAt 43 = .ok (.invokevirtual 57, 3) := by decide +kernel
theorem dX10_roundAt_46 : decode cX10_roundAt 46 = .ok (.iload_n 1, 1) := by decide +kernel
theorem dX10_roundAt_47 : decode cX10_roundAt 47 = .ok (.if_icmp .ne 18, 3) := by decide +kernel
theorem dX10_roundAt_50 : decode cX10_roundAt 50 = .ok (.iload_n 3, 1) := by decide +kernel
theorem dX10_roundAt_51 : decode cX10_roundAt 51 = .ok (.ifCond .ne 11, 3) := by decide +kernel
theorem dX10_roundAt_54 : decode cX10_roundAt 54 = .ok (.aload_n 0, 1) := by decide +kernel
theorem dX10_roundAt_55 : decode cX10_roundAt 55 = .ok (.getfield 28, 3) := by decide +kernel
theorem dX10_roundAt_58 : decode cX10_roundAt 58 = .ok (.iload 4, 2) := by decide +kernel
theorem dX10_roundAt_60 : decode cX10_roundAt 60 = .ok (.iaload, 1) := by decide +kernel
theorem dX10_roundAt_61 : decode cX10_roundAt 61 = .ok (.ireturn, 1) := by decide +kernel
theorem dX10_roundAt_62 : decode cX10_roundAt 62 = .ok (.iinc 3 (-1), 3) := by decide +kernel
theorem dX10_roundAt_65 : decode cX10_roundAt 65 = .ok (.iinc 4 1, 3) := by decide +kernel
theorem dX10_roundAt_68 : decode cX10_roundAt 68 = .ok (.goto (-45), 3) := by decide +kernel
theorem dX10_roundAt_71 : decode cX10_roundAt 71 = .ok (.bipush (-4), 2) := by decide +kernel
theorem dX10_roundAt_73 : decode cX10_roundAt 73 = .ok (.ireturn, 1) := by decide +kernel
theorem dX10_round_0 : decode cX10_round 0 = .ok (.aload_n 0, 1) := by decide +kernel
theorem dX10_round_1 : decode cX10_round 1 = .ok (.iload_n 1, 1) := by decide +kernel
theorem dX10_round_2 : decode cX10_round 2 = .ok (.invokevirtual 91, 3) := by decide +kernel
theorem dX10_round_5 : decode cX10_round 5 = .ok (.ifCond .eq 28, 3) := by decide +kernel
theorem dX10_round_8 : decode cX10_round 8 = .ok (.iload_n 2, 1) := by decide +kernel
theorem dX10_round_9 : decode cX10_round 9 = .ok (.aload_n 0, 1) := by decide +kernel
theorem dX10_round_10 : decode cX10_round 10 = .ok (.getfield 7, 3) := by decide +kernel
theorem dX10_round_13 : decode cX10_round 13 = .ok (.iconst 4, 1) := by decide +kernel
theorem dX10_round_14 : decode cX10_round 14 = .ok (.iaload, 1) := by decide +kernel
theorem dX10_round_15 : decode cX10_round 15 = .ok (.sipush 999, 3) := by decide +kernel
theorem dX10_round_18 : decode cX10_round 18 = .ok (.invokestatic 45, 3) := by decide +kernel
theorem dX10_round_21 : decode cX10_round 21 = .ok (.ifCond .eq 12, 3) := by decide +kernel
theorem dX10_round_24 : decode cX10_round 24 = .ok (.iload_n 3, 1) := by decide +kernel
theorem dX10_round_25 : decode cX10_round 25 = .ok (.iconst 0, 1) := by decide +kernel
theorem dX10_round_26 : decode cX10_round 26 = .ok (.iconst 3, 1) := by decide +kernel
theorem dX10_round_27 : decode cX10_round 27 = .ok (.invokestatic 45, 3) := by decide +kernel
theorem dX10_round_30 : decode cX10_round 30 = .ok (.ifCond .ne 5, 3) := by decide +kernel
theorem dX10_round_33 : decode cX10_round 33 = .ok (.iconst (-1), 1) := by decide +kernel
theorem dX10_round_34 : decode cX10_round 34 = .ok (.ireturn, 1) := by decide +kernel
theorem dX10_round_35 : decode cX10_round 35 = .ok (.aload_n 0, 1) := by decide +kernel
theorem dX10_round_36 : decode cX10_round 36 = .ok (.iload_n 1, 1) := by decide +kernel
theorem dX10_round_37 : decode cX10_round 37 = .ok (.iload_n 2, 1) := by decide +kernel
theorem dX10_round_38 : decode cX10_round 38 = .ok (.iconst 0, 1) := by decide +kernel
theorem dX10_round_39 : decode cX10_round 39 = .ok (.invokevirtual 150, 3) := by decide +kernel
theorem dX10_round_42 : decode cX10_round 42 = .ok (.istore 4, 2) := by decide +kernel
theorem dX10_round_44 : decode cX10_round 44 = .ok (.iload_n 3, 1) := by decide +kernel
theorem dX10_round_45 : decode cX10_round 45 = .ok (.ifCond .ne 10, 3) := by decide +kernel
theorem dX10_round_48 : decode cX10_round 48 = .ok (.aload_n 0, 1) := by decide +kernel
theorem dX10_round_49 : decode cX10_round 49 = .ok (.getfield 123, 3) := by decide +kernel
theorem dX10_round_52 : decode cX10_round 52 = .ok (.goto 31, 3) := by decide +kernel
theorem dX10_round_55 : decode cX10_round 55 = .ok (.iload_n 3, 1) := by decide +kernel
theorem dX10_round_56 : decode cX10_round 56 = .ok (.iconst 1, 1) := by decide +kernel
theorem dX10_round_57 : decode cX10_round 57 = .ok (.if_icmp .ne 10, 3) := by decide +kernel
theorem dX10_round_60 : decode cX10_round 60 = .ok (.aload_n 0, 1) := by decide +kernel
theorem dX10_round_61 : decode cX10_round 61 = .ok (.getfield 109, 3) := by decide +kernel
theorem dX10_round_64 : decode cX10_round 64 = .ok (.goto 19, 3) := by decide +kernel
theorem dX10_round_67 : decode cX10_round 67 = .ok (.iload_n 3, 1) := by decide +kernel
theorem dX10_round_68 : decode cX10_round 68 = .ok (.iconst 2, 1) := by decide +kernel
theorem dX10_round_69 : decode cX10_round 69 = .ok (.if_icmp .ne 10, 3) := by decide +kernel
theorem dX10_round_72 : decode cX10_round 72 = .ok (.aload_n 0, 1) := by decide +kernel
theorem dX10_round_73 : decode cX10_round 73 = .ok (.getfield 126, 3) := by decide +kernel
theorem dX10_round_76 : decode cX10_round 76 = .ok (.goto 7, 3) := by decide +kernel
theorem dX10_round_79 : decode cX10_round 79 = .ok (.aload_n 0, 1) := by decide +kernel
theorem dX10_round_80 : decode cX10_round 80 = .ok (.getfield 129, 3) := by decide +kernel
theorem dX10_round_83 : decode cX10_round 83 = .ok (.ireturn, 1) := by decide +kernel
theorem dX10_moreBy_0 : decode cX10_moreBy 0 = .ok (.aload_n 0, 1) := by decide +kernel
theorem dX10_moreBy_1 : decode cX10_moreBy 1 = .ok (.iload_n 1, 1) := by decide +kernel
theorem dX10_moreBy_2 : decode cX10_moreBy 2 = .ok (.iload_n 3, 1) := by decide +kernel
theorem dX10_moreBy_3 : decode cX10_moreBy 3 = .ok (.iconst 0, 1) := by decide +kernel
theorem dX10_moreBy_4 : decode cX10_moreBy 4 = .ok (.invokevirtual 150, 3) := by decide +kernel
theorem dX10_moreBy_7 : decode cX10_moreBy 7 = .ok (.istore 4, 2) := by decide +kernel
theorem dX10_moreBy_9 : decode cX10_moreBy 9 = .ok (.aload_n 0, 1) := by decide +kernel
theorem dX10_moreBy_10 : decode cX10_moreBy 10 = .ok (.getfield 109, 3) := by decide +kernel
theorem dX10_moreBy_13 : decode cX10_moreBy 13 = .ok (.istore 5, 2) := by decide +kernel
theorem dX10_moreBy_15 : decode cX10_moreBy 15 = .ok (.aload_n 0, 1) := by decide +kernel
theorem dX10_moreBy_16 : decode cX10_moreBy 16 = .ok (.iload_n 2, 1) := by decide +kernel
theorem dX10_moreBy_17 : decode cX10_moreBy 17 = .ok (.iconst 3, 1) := by decide +kernel
theorem dX10_moreBy_18 : decode cX10_moreBy 18 = .ok (.invokevirtual 57, 3) := by decide +kernel
theorem dX10_moreBy_21 : decode cX10_moreBy 21 = .ok (.istore 6, 2) := by decide +kernel
theorem dX10_moreBy_23 : decode cX10_moreBy 23 = .ok (.aload_n 0, 1) := by decide +kernel
theorem dX10_moreBy_24 : decode cX10_moreBy 24 = .ok (.iload_n 2, 1) := by decide +kernel
theorem dX10_moreBy_25 : decode cX10_moreBy 25 = .ok (.iconst 3, 1) := by decide +kernel
theorem dX10_moreBy_26 : decode cX10_moreBy 26 = .ok (.iload_n 1, 1) := by decide +kernel
theorem dX10_moreBy_27 : decode cX10_moreBy 27 = .ok (.invokevirtual 71, 3) := by decide +kernel
theorem dX10_moreBy_30 : decode cX10_moreBy 30 = .ok (.aload_n 0, 1) := by decide +kernel
theorem dX10_moreBy_31 : decode cX10_moreBy 31 = .ok (.iload_n 1, 1) := by decide +kernel
theorem dX10_moreBy_32 : decode cX10_moreBy 32 = .ok (.iload_n 3, 1) := by decide +kernel
theorem dX10_moreBy_33 : decode cX10_moreBy 33 = .ok (.iconst 0, 1) := by decide +kernel
theorem dX10_moreBy_34 : decode cX10_moreBy 34 = .ok (.invokevirtual 150, 3) := by decide +kernel
theorem dX10_moreBy_37 : decode cX10_moreBy 37 = .ok (.istore 4, 2) := by decide +kernel
theorem dX10_moreBy_39 : decode cX10_moreBy 39 = .ok (.aload_n 0, 1) := by decide +kernel
theorem dX10_moreBy_40 : decode cX10_moreBy 40 = .ok (.iload_n 2, 1) := by decide +kernel
theorem dX10_moreBy_41 : decode cX10_moreBy 41 = .ok (.iconst 3, 1) := by decide +kernel
theorem dX10_moreBy_42 : decode cX10_moreBy 42 = .ok (.iload 6, 2) := by decide +kernel
theorem dX10_moreBy_44 : decode cX10_moreBy 44 = .ok (.invokevirtual 71, 3) := by decide +kernel
theorem dX10_moreBy_47 : decode cX10_moreBy 47 = .ok (.aload_n 0, 1) := by decide +kernel
theorem dX10_moreBy_48 : decode cX10_moreBy 48 = .ok (.getfield 109, 3) := by decide +kernel
theorem dX10_moreBy_51 : decode cX10_moreBy 51 = .ok (.iload 5, 2) := by decide +kernel
theorem dX10_moreBy_53 : decode cX10_moreBy 53 = .ok (.isub, 1) := by decide +kernel
theorem dX10_moreBy_54 : decode cX10_moreBy 54 = .ok (.ireturn, 1) := by decide +kernel
theorem dX10_lightest_0 : decode cX10_lightest 0 = .ok (.aload_n 0, 1) := by decide +kernel
theorem dX10_lightest_1 : decode cX10_lightest 1 = .ok (.iload_n 1, 1) := by decide +kernel
theorem dX10_lightest_2 : decode cX10_lightest 2 = .ok (.invokevirtual 75, 3) := by decide +kernel
theorem dX10_lightest_5 : decode cX10_lightest 5 = .ok (.ifCond .eq 19, 3) := by decide +kernel
theorem dX10_lightest_8 : decode cX10_lightest 8 = .ok (.iload_n 2, 1) := by decide +kernel
theorem dX10_lightest_9 : decode cX10_lightest 9 = .ok (.aload_n 0, 1) := by decide +kernel
theorem dX10_lightest_10 : decode cX10_lightest 10 = .ok (.getfield 7, 3) := by decide +kernel
theorem dX10_lightest_13 : decode cX10_lightest 13 = .ok (.iconst 4, 1) := by decide +kernel
theorem dX10_lightest_14 : decode cX10_lightest 14 = .ok (.iaload, 1) := by decide +kernel
theorem dX10_lightest_15 : decode cX10_lightest 15 = .ok (.sipush 999, 3) := by decide +kernel
theorem dX10_lightest_18 : decode cX10_lightest 18 = .ok (.invokestatic 45, 3) := by decide +kernel
theorem dX10_lightest_21 : decode cX10_lightest 21 = .ok (.ifCond .ne 5, 3) := by decide +kernel
theorem dX10_lightest_24 : decode cX10_lightest 24 = .ok (.iconst (-1), 1) := by decide +kernel
theorem dX10_lightest_25 : decode cX10_lightest 25 = .ok (.ireturn, 1) := by decide +kernel
theorem dX10_lightest_26 : decode cX10_lightest 26 = .ok (.bipush (-4), 2) := by decide +kernel
theorem dX10_lightest_28 : decode cX10_lightest 28 = .ok (.istore_n 3, 1) := by decide +kernel
theorem dX10_lightest_29 : decode cX10_lightest 29 = .ok (.iconst 0, 1) := by decide +kernel
theorem dX10_lightest_30 : decode cX10_lightest 30 = .ok (.istore 4, 2) := by decide +kernel
theorem dX10_lightest_32 : decode cX10_lightest 32 = .ok (.iconst 0, 1) := by decide +kernel
theorem dX10_lightest_33 : decode cX10_lightest 33 = .ok (.istore 5, 2) := by decide +kernel
theorem dX10_lightest_35 : decode cX10_lightest 35 = .ok (.iload 5, 2) := by decide +kernel
theorem dX10_lightest_37 : decode cX10_lightest 37 = .ok (.aload_n 0, 1) := by decide +kernel
theorem dX10_lightest_38 : decode cX10_lightest 38 = .ok (.getfield 7, 3) := by decide +kernel
theorem dX10_lightest_41 : decode cX10_lightest 41 = .ok (.iconst 2, 1) := by decide +kernel
theorem dX10_lightest_42 : decode cX10_lightest 42 = .ok (.iaload, 1) := by decide +kernel
theorem dX10_lightest_43 : decode cX10_lightest 43 = .ok (.if_icmp .ge 86, 3) := by decide +kernel
theorem dX10_lightest_46 : decode cX10_lightest 46 = .ok (.aload_n 0, 1) := by decide +kernel
theorem dX10_lightest_47 : decode cX10_lightest 47 = .ok (.iload_n 1, 1) := by decide +kernel
theorem dX10_lightest_48 : decode cX10_lightest 48 = .ok (.iconst 3, 1) := by decide +kernel
theorem dX10_lightest_49 : decode cX10_lightest 49 = .ok (.invokevirtual 57, 3) := by decide +kernel
theorem dX10_lightest_52 : decode cX10_lightest 52 = .ok (.iload 5, 2) := by decide +kernel
theorem dX10_lightest_54 : decode cX10_lightest 54 = .ok (.if_icmp .eq 69, 3) := by decide +kernel
theorem dX10_lightest_57 : decode cX10_lightest 57 = .ok (.aload_n 0, 1) := by decide +kernel
theorem dX10_lightest_58 : decode cX10_lightest 58 = .ok (.iload 5, 2) := by decide +kernel
theorem dX10_lightest_60 : decode cX10_lightest 60 = .ok (.iload_n 1, 1) := by decide +kernel
theorem dX10_lightest_61 : decode cX10_lightest 61 = .ok (.invokevirtual 94, 3) := by decide +kernel
theorem dX10_lightest_64 : decode cX10_lightest 64 = .ok (.ifCond .eq 59, 3) := by decide +kernel
theorem dX10_lightest_67 : decode cX10_lightest 67 = .ok (.aload_n 0, 1) := by decide +kernel
theorem dX10_lightest_68 : decode cX10_lightest 68 = .ok (.iload 5, 2) := by decide +kernel
theorem dX10_lightest_70 : decode cX10_lightest 70 = .ok (.iload_n 1, 1) := by decide +kernel
theorem dX10_lightest_71 : decode cX10_lightest 71 = .ok (.iload_n 2, 1) := by decide +kernel
theorem dX10_lightest_72 : decode cX10_lightest 72 = .ok (.invokevirtual 182, 3) := by decide +kernel
theorem dX10_lightest_75 : decode cX10_lightest 75 = .ok (.istore 6, 2) := by decide +kernel
theorem dX10_lightest_77 : decode cX10_lightest 77 = .ok (.iload_n 3, 1) := by decide +kernel
theorem dX10_lightest_78 : decode cX10_lightest 78 = .ok (.bipush (-4), 2) := by decide +kernel
theorem dX10_lightest_80 : decode cX10_lightest 80 = .ok (.if_icmp .eq 10, 3) := by decide +kernel
theorem dX10_lightest_83 : decode cX10_lightest 83 = .ok (.iload 6, 2) := by decide +kernel
theorem dX10_lightest_85 : decode cX10_lightest 85 = .ok (.iload 4, 2) := by decide +kernel
theorem dX10_lightest_87 : decode cX10_lightest 87 = .ok (.if_icmp .ge 7, 3) := by decide +kernel
theorem dX10_lightest_90 : decode cX10_lightest 90 = .ok (.iconst 1, 1) := by decide +kernel
theorem dX10_lightest_91 : decode cX10_lightest 91 = .ok (.goto 4, 3) := by decide +kernel
theorem dX10_lightest_94 : decode cX10_lightest 94 = .ok (.iconst 0, 1) := by decide +kernel
theorem dX10_lightest_95 : decode cX10_lightest 95 = .ok (.istore 7, 2) := by decide +kernel
theorem dX10_lightest_97 : decode cX10_lightest 97 = .ok (.iload 7, 2) := by decide +kernel
theorem dX10_lightest_99 : decode cX10_lightest 99 = .ok (.ifCond .eq 8, 3) := by decide +kernel
theorem dX10_lightest_102 : decode cX10_lightest 102 = .ok (.iload 5, 2) := by decide +kernel
theorem dX10_lightest_104 : decode cX10_lightest 104 = .ok (.goto 4, 3) := by decide +kernel
theorem dX10_lightest_107 : decode cX10_lightest 107 = .ok (.iload_n 3, 1) := by decide +kernel
theorem dX10_lightest_108 : decode cX10_lightest 108 = .ok (.istore_n 3, 1) := by decide +kernel
theorem dX10_lightest_109 : decode cX10_lightest 109 = .ok (.iload 7, 2) := by decide +kernel
theorem dX10_lightest_111 : decode cX10_lightest 111 = .ok (.ifCond .eq 8, 3) := by decide +kernel
theorem dX10_lightest_114 : decode cX10_lightest 114 = .ok (.iload 6, 2) := by decide +kernel
theorem dX10_lightest_116 : decode cX10_lightest 116 = .ok (.goto 5, 3) := by decide +kernel
theorem dX10_lightest_119 : decode cX10_lightest 119 = .ok (.iload 4, 2) := by decide +kernel
theorem dX10_lightest_121 : decode cX10_lightest 121 = .ok (.istore 4, 2) := by decide +kernel
theorem dX10_lightest_123 : decode cX10_lightest 123 = .ok (.iinc 5 1, 3) := by decide +kernel
theorem dX10_lightest_126 : decode cX10_lightest 126 = .ok (.goto (-91), 3) := by decide +kernel
theorem dX10_lightest_129 : decode cX10_lightest 129 = .ok (.iload_n 3, 1) := by decide +kernel
theorem dX10_lightest_130 : decode cX10_lightest 130 = .ok (.ireturn, 1) := by decide +kernel
theorem dX10_nextDog_0 : decode cX10_nextDog 0 = .ok (.aload_n 0, 1) := by decide +kernel
theorem dX10_nextDog_1 : decode cX10_nextDog 1 = .ok (.iload_n 1, 1) := by decide +kernel
theorem dX10_nextDog_2 : decode cX10_nextDog 2 = .ok (.invokevirtual 75, 3) := by decide +kernel
theorem dX10_nextDog_5 : decode cX10_nextDog 5 = .ok (.ifCond .ne 5, 3) := by decide +kernel
theorem dX10_nextDog_8 : decode cX10_nextDog 8 = .ok (.iconst (-1), 1) := by decide +kernel
theorem dX10_nextDog_9 : decode cX10_nextDog 9 = .ok (.ireturn, 1) := by decide +kernel
theorem dX10_nextDog_10 : decode cX10_nextDog 10 = .ok (.aload_n 0, 1) := by decide +kernel
theorem dX10_nextDog_11 : decode cX10_nextDog 11 = .ok (.getfield 7, 3) := by decide +kernel
theorem dX10_nextDog_14 : decode cX10_nextDog 14 = .ok (.iconst 4, 1) := by decide +kernel
theorem dX10_nextDog_15 : decode cX10_nextDog 15 = .ok (.iaload, 1) := by decide +kernel
theorem dX10_nextDog_16 : decode cX10_nextDog 16 = .ok (.istore_n 2, 1) := by decide +kernel
theorem dX10_nextDog_17 : decode cX10_nextDog 17 = .ok (.iload_n 2, 1) := by decide +kernel
theorem dX10_nextDog_18 : decode cX10_nextDog 18 = .ok (.sipush 1000, 3) := by decide +kernel
theorem dX10_nextDog_21 : decode cX10_nextDog 21 = .ok (.if_icmp .ge 29, 3) := by decide +kernel
theorem dX10_nextDog_24 : decode cX10_nextDog 24 = .ok (.aload_n 0, 1) := by decide +kernel
theorem dX10_nextDog_25 : decode cX10_nextDog 25 = .ok (.iload_n 1, 1) := by decide +kernel
theorem dX10_nextDog_26 : decode cX10_nextDog 26 = .ok (.iload_n 2, 1) := by decide +kernel
theorem dX10_nextDog_27 : decode cX10_nextDog 27 = .ok (.invokevirtual 112, 3) := by decide +kernel
theorem dX10_nextDog_30 : decode cX10_nextDog 30 = .ok (.ifCond .eq 14, 3) := by decide +kernel
theorem dX10_nextDog_33 : decode cX10_nextDog 33 = .ok (.aload_n 0, 1) := by decide +kernel
theorem dX10_nextDog_34 : decode cX10_nextDog 34 = .ok (.iload_n 1, 1) := by decide +kernel
theorem dX10_nextDog_35 : decode cX10_nextDog 35 = .ok (.iload_n 2, 1) := by decide +kernel
theorem dX10_nextDog_36 : decode cX10_nextDog 36 = .ok (.invokevirtual 138, 3) := by decide +kernel
theorem dX10_nextDog_39 : decode cX10_nextDog 39 = .ok (.ifCond .ne 5, 3) := by decide +kernel
theorem dX10_nextDog_42 : decode cX10_nextDog 42 = .ok (.iload_n 2, 1) := by decide +kernel
theorem dX10_nextDog_43 : decode cX10_nextDog 43 = .ok (.ireturn, 1) := by decide +kernel
theorem dX10_nextDog_44 : decode cX10_nextDog 44 = .ok (.iinc 2 1, 3) := by decide +kernel
theorem dX10_nextDog_47 : decode cX10_nextDog 47 = .ok (.goto (-30), 3) := by decide +kernel
theorem dX10_nextDog_50 : decode cX10_nextDog 50 = .ok (.bipush (-4), 2) := by decide +kernel
theorem dX10_nextDog_52 : decode cX10_nextDog 52 = .ok (.ireturn, 1) := by decide +kernel
theorem dX10_overHouses_0 : decode cX10_overHouses 0 = .ok (.iconst 0, 1) := by decide +kernel
theorem dX10_overHouses_1 : decode cX10_overHouses 1 = .ok (.istore_n 2, 1) := by decide +kernel
theorem dX10_overHouses_2 : decode cX10_overHouses 2 = .ok (.iconst 0, 1) := by decide +kernel
theorem dX10_overHouses_3 : decode cX10_overHouses 3 = .ok (.istore_n 3, 1) := by decide +kernel
theorem dX10_overHouses_4 : decode cX10_overHouses 4 = .ok (.iload_n 3, 1) := by decide +kernel
theorem dX10_overHouses_5 : decode cX10_overHouses 5 = .ok (.aload_n 0, 1) := by decide +kernel
theorem dX10_overHouses_6 : decode cX10_overHouses 6 = .ok (.getfield 7, 3) := by decide +kernel
theorem dX10_overHouses_9 : decode cX10_overHouses 9 = .ok (.iconst 1, 1) := by decide +kernel
theorem dX10_overHouses_10 : decode cX10_overHouses 10 = .ok (.iaload, 1) := by decide +kernel
theorem dX10_overHouses_11 : decode cX10_overHouses 11 = .ok (.if_icmp .ge 18, 3) := by decide +kernel
theorem dX10_overHouses_14 : decode cX10_overHouses 14 = .ok (.iload_n 2, 1) := by decide +kernel
theorem dX10_overHouses_15 : decode cX10_overHouses 15 = .ok (.aload_n 0, 1) := by decide +kernel
theorem dX10_overHouses_16 : decode cX10_overHouses 16 = .ok (.iload_n 3, 1) := by decide +kernel
theorem dX10_overHouses_17 : decode cX10_overHouses 17 = .ok (.iload_n 1, 1) := by decide +kernel
theorem dX10_overHouses_18 : decode cX10_overHouses 18 = .ok (.invokevirtual 57, 3) := by decide +kernel
theorem dX10_overHouses_21 : decode cX10_overHouses 21 = .ok (.iadd, 1) := by decide +kernel
theorem dX10_overHouses_22 : decode cX10_overHouses 22 = .ok (.istore_n 2, 1) := by decide +kernel
theorem dX10_overHouses_23 : decode cX10_overHouses 23 = .ok (.iinc 3 1, 3) := by decide +kernel
theorem dX10_overHouses_26 : decode cX10_overHouses 26 = .ok (.goto (-22), 3) := by decide +kernel
theorem dX10_overHouses_29 : decode cX10_overHouses 29 = .ok (.iload_n 2, 1) := by decide +kernel
theorem dX10_overHouses_30 : decode cX10_overHouses 30 = .ok (.ireturn, 1) := by decide +kernel
theorem dX10_account_0 : decode cX10_account 0 = .ok (.iload_n 1, 1) := by decide +kernel
theorem dX10_account_1 : decode cX10_account 1 = .ok (.tableswitch 85 0 5 #[39, 74, 74, 74, 74, 74], 39) := by decide +kernel
theorem dX10_account_40 : decode cX10_account 40 = .ok (.aload_n 0, 1) := by decide +kernel
theorem dX10_account_41 : decode cX10_account 41 = .ok (.bipush 6, 2) := by decide +kernel
theorem dX10_account_43 : decode cX10_account 43 = .ok (.invokevirtual 185, 3) := by decide +kernel
theorem dX10_account_46 : decode cX10_account 46 = .ok (.aload_n 0, 1) := by decide +kernel
theorem dX10_account_47 : decode cX10_account 47 = .ok (.bipush 7, 2) := by decide +kernel
theorem dX10_account_49 : decode cX10_account 49 = .ok (.invokevirtual 185, 3) := by decide +kernel
theorem dX10_account_52 : decode cX10_account 52 = .ok (.iadd, 1) := by decide +kernel
theorem dX10_account_53 : decode cX10_account 53 = .ok (.aload_n 0, 1) := by decide +kernel
theorem dX10_account_54 : decode cX10_account 54 = .ok (.bipush 8, 2) := by decide +kernel
theorem dX10_account_56 : decode cX10_account 56 = .ok (.invokevirtual 185, 3) := by decide +kernel
theorem dX10_account_59 : decode cX10_account 59 = .ok (.iadd, 1) := by decide +kernel
theorem dX10_account_60 : decode cX10_account 60 = .ok (.aload_n 0, 1) := by decide +kernel
theorem dX10_account_61 : decode cX10_account 61 = .ok (.bipush 9, 2) := by decide +kernel
theorem dX10_account_63 : decode cX10_account 63 = .ok (.invokevirtual 185, 3) := by decide +kernel
theorem dX10_account_66 : decode cX10_account 66 = .ok (.iadd, 1) := by decide +kernel
theorem dX10_account_67 : decode cX10_account 67 = .ok (.aload_n 0, 1) := by decide +kernel
theorem dX10_account_68 : decode cX10_account 68 = .ok (.bipush 10, 2) := by decide +kernel
theorem dX10_account_70 : decode cX10_account 70 = .ok (.invokevirtual 185, 3) := by decide +kernel
theorem dX10_account_73 : decode cX10_account 73 = .ok (.iadd, 1) := by decide +kernel
theorem dX10_account_74 : decode cX10_account 74 = .ok (.ireturn, 1) := by decide +kernel
theorem dX10_account_75 : decode cX10_account 75 = .ok (.aload_n 0, 1) := by decide +kernel
theorem dX10_account_76 : decode cX10_account 76 = .ok (.bipush 6, 2) := by decide +kernel
theorem dX10_account_78 : decode cX10_account 78 = .ok (.iload_n 1, 1) := by decide +kernel
theorem dX10_account_79 : decode cX10_account 79 = .ok (.iadd, 1) := by decide +kernel
theorem dX10_account_80 : decode cX10_account 80 = .ok (.iconst 1, 1) := by decide +kernel
theorem dX10_account_81 : decode cX10_account 81 = .ok (.isub, 1) := by decide +kernel
theorem dX10_account_82 : decode cX10_account 82 = .ok (.invokevirtual 185, 3) := by decide +kernel
theorem dX10_account_85 : decode cX10_account 85 = .ok (.ireturn, 1) := by decide +kernel
theorem dX10_account_86 : decode cX10_account 86 = .ok (.iconst (-1), 1) := by decide +kernel
theorem dX10_account_87 : decode cX10_account 87 = .ok (.ireturn, 1) := by decide +kernel
theorem dX10_pausedNow_0 : decode cX10_pausedNow 0 = .ok (.iconst 0, 1) := by decide +kernel
theorem dX10_pausedNow_1 : decode cX10_pausedNow 1 = .ok (.istore_n 1, 1) := by decide +kernel
theorem dX10_pausedNow_2 : decode cX10_pausedNow 2 = .ok (.iconst 0, 1) := by decide +kernel
theorem dX10_pausedNow_3 : decode cX10_pausedNow 3 = .ok (.istore_n 2, 1) := by decide +kernel
theorem dX10_pausedNow_4 : decode cX10_pausedNow 4 = .ok (.iload_n 2, 1) := by decide +kernel
theorem dX10_pausedNow_5 : decode cX10_pausedNow 5 = .ok (.aload_n 0, 1) := by decide +kernel
theorem dX10_pausedNow_6 : decode cX10_pausedNow 6 = .ok (.getfield 7, 3) := by decide +kernel
theorem dX10_pausedNow_9 : decode cX10_pausedNow 9 = .ok (.iconst 1, 1) := by decide +kernel
theorem dX10_pausedNow_10 : decode cX10_pausedNow 10 = .ok (.iaload, 1) := by decide +kernel
theorem dX10_pausedNow_11 : decode cX10_pausedNow 11 = .ok (.if_icmp .ge 31, 3) := by decide +kernel
theorem dX10_pausedNow_14 : decode cX10_pausedNow 14 = .ok (.iload_n 1, 1) := by decide +kernel
theorem dX10_pausedNow_15 : decode cX10_pausedNow 15 = .ok (.aload_n 0, 1) := by decide +kernel
theorem dX10_pausedNow_16 : decode cX10_pausedNow 16 = .ok (.iload_n 2, 1) := by decide +kernel
theorem dX10_pausedNow_17 : decode cX10_pausedNow 17 = .ok (.aload_n 0, 1) := by decide +kernel
theorem dX10_pausedNow_18 : decode cX10_pausedNow 18 = .ok (.getfield 7, 3) := by decide +kernel
theorem dX10_pausedNow_21 : decode cX10_pausedNow 21 = .ok (.iconst 4, 1) := by decide +kernel
theorem dX10_pausedNow_22 : decode cX10_pausedNow 22 = .ok (.iaload, 1) := by decide +kernel
theorem dX10_pausedNow_23 : decode cX10_pausedNow 23 = .ok (.invokevirtual 138, 3) := by decide +kernel
theorem dX10_pausedNow_26 : decode cX10_pausedNow 26 = .ok (.ifCond .eq 7, 3) := by decide +kernel
theorem dX10_pausedNow_29 : decode cX10_pausedNow 29 = .ok (.iconst 1, 1) := by decide +kernel
theorem dX10_pausedNow_30 : decode cX10_pausedNow 30 = .ok (.goto 4, 3) := by decide +kernel
theorem dX10_pausedNow_33 : decode cX10_pausedNow 33 = .ok (.iconst 0, 1) := by decide +kernel
theorem dX10_pausedNow_34 : decode cX10_pausedNow 34 = .ok (.iadd, 1) := by decide +kernel
theorem dX10_pausedNow_35 : decode cX10_pausedNow 35 = .ok (.istore_n 1, 1) := by decide +kernel
theorem dX10_pausedNow_36 : decode cX10_pausedNow 36 = .ok (.iinc 2 1, 3) := by decide +kernel
theorem dX10_pausedNow_39 : decode cX10_pausedNow 39 = .ok (.goto (-35), 3) := by decide +kernel
theorem dX10_pausedNow_42 : decode cX10_pausedNow 42 = .ok (.iload_n 1, 1) := by decide +kernel
theorem dX10_pausedNow_43 : decode cX10_pausedNow 43 = .ok (.ireturn, 1) := by decide +kernel
theorem dX10_tipsAll_0 : decode cX10_tipsAll 0 = .ok (.iconst 0, 1) := by decide +kernel
theorem dX10_tipsAll_1 : decode cX10_tipsAll 1 = .ok (.istore_n 1, 1) := by decide +kernel
theorem dX10_tipsAll_2 : decode cX10_tipsAll 2 = .ok (.iconst 0, 1) := by decide +kernel
theorem dX10_tipsAll_3 : decode cX10_tipsAll 3 = .ok (.istore_n 2, 1) := by decide +kernel
theorem dX10_tipsAll_4 : decode cX10_tipsAll 4 = .ok (.iload_n 2, 1) := by decide +kernel
theorem dX10_tipsAll_5 : decode cX10_tipsAll 5 = .ok (.aload_n 0, 1) := by decide +kernel
theorem dX10_tipsAll_6 : decode cX10_tipsAll 6 = .ok (.getfield 7, 3) := by decide +kernel
theorem dX10_tipsAll_9 : decode cX10_tipsAll 9 = .ok (.iconst 2, 1) := by decide +kernel
theorem dX10_tipsAll_10 : decode cX10_tipsAll 10 = .ok (.iaload, 1) := by decide +kernel
theorem dX10_tipsAll_11 : decode cX10_tipsAll 11 = .ok (.if_icmp .ge 18, 3) := by decide +kernel
theorem dX10_tipsAll_14 : decode cX10_tipsAll 14 = .ok (.iload_n 1, 1) := by decide +kernel
theorem dX10_tipsAll_15 : decode cX10_tipsAll 15 = .ok (.aload_n 0, 1) := by decide +kernel
theorem dX10_tipsAll_16 : decode cX10_tipsAll 16 = .ok (.iload_n 2, 1) := by decide +kernel
theorem dX10_tipsAll_17 : decode cX10_tipsAll 17 = .ok (.iconst 5, 1) := by decide +kernel
theorem dX10_tipsAll_18 : decode cX10_tipsAll 18 = .ok (.invokevirtual 85, 3) := by decide +kernel
theorem dX10_tipsAll_21 : decode cX10_tipsAll 21 = .ok (.iadd, 1) := by decide +kernel
theorem dX10_tipsAll_22 : decode cX10_tipsAll 22 = .ok (.istore_n 1, 1) := by decide +kernel
theorem dX10_tipsAll_23 : decode cX10_tipsAll 23 = .ok (.iinc 2 1, 3) := by decide +kernel
theorem dX10_tipsAll_26 : decode cX10_tipsAll 26 = .ok (.goto (-22), 3) := by decide +kernel
theorem dX10_tipsAll_29 : decode cX10_tipsAll 29 = .ok (.iload_n 1, 1) := by decide +kernel
theorem dX10_tipsAll_30 : decode cX10_tipsAll 30 = .ok (.ireturn, 1) := by decide +kernel
theorem dX10_count_0 : decode cX10_count 0 = .ok (.iload_n 1, 1) := by decide +kernel
theorem dX10_count_1 : decode cX10_count 1 = .ok (.tableswitch 99 0 10 #[59, 59, 59, 59, 59, 66, 72, 77, 84, 89, 94], 59) := by decide +kernel
theorem dX10_count_60 : decode cX10_count 60 = .ok (.aload_n 0, 1) := by decide +kernel
theorem dX10_count_61 : decode cX10_count 61 = .ok (.getfield 7, 3) := by decide +kernel
theorem dX10_count_64 : decode cX10_count 64 = .ok (.iload_n 1, 1) := by decide +kernel
theorem dX10_count_65 : decode cX10_count 65 = .ok (.iaload, 1) := by decide +kernel
theorem dX10_count_66 : decode cX10_count 66 = .ok (.ireturn, 1) := by decide +kernel
theorem dX10_count_67 : decode cX10_count 67 = .ok (.aload_n 0, 1) := by decide +kernel
theorem dX10_count_68 : decode cX10_count 68 = .ok (.iconst (-1), 1) := by decide +kernel
theorem dX10_count_69 : decode cX10_count 69 = .ok (.invokevirtual 97, 3) := by decide +kernel
theorem dX10_count_72 : decode cX10_count 72 = .ok (.ireturn, 1) := by decide +kernel
theorem dX10_count_73 : decode cX10_count 73 = .ok (.aload_n 0, 1) := by decide +kernel
theorem dX10_count_74 : decode cX10_count 74 = .ok (.invokevirtual 188, 3) := by decide +kernel
theorem dX10_count_77 : decode cX10_count 77 = .ok (.ireturn, 1) := by decide +kernel
theorem dX10_count_78 : decode cX10_count 78 = .ok (.aload_n 0, 1) := by decide +kernel
theorem dX10_count_79 : decode cX10_count 79 = .ok (.bipush 11, 2) := by decide +kernel
theorem dX10_count_81 : decode cX10_count 81 = .ok (.invokevirtual 185, 3) := by decide +kernel
theorem dX10_count_84 : decode cX10_count 84 = .ok (.ireturn, 1) := by decide +kernel
theorem dX10_count_85 : decode cX10_count 85 = .ok (.aload_n 0, 1) := by decide +kernel
theorem dX10_count_86 : decode cX10_count 86 = .ok (.invokevirtual 191, 3) := by decide +kernel
theorem dX10_count_89 : decode cX10_count 89 = .ok (.ireturn, 1) := by decide +kernel
theorem dX10_count_90 : decode cX10_count 90 = .ok (.aload_n 0, 1) := by decide +kernel
theorem dX10_count_91 : decode cX10_count 91 = .ok (.getfield 41, 3) := by decide +kernel
theorem dX10_count_94 : decode cX10_count 94 = .ok (.ireturn, 1) := by decide +kernel
theorem dX10_count_95 : decode cX10_count 95 = .ok (.aload_n 0, 1) := by decide +kernel
theorem dX10_count_96 : decode cX10_count 96 = .ok (.getfield 194, 3) := by decide +kernel
theorem dX10_count_99 : decode cX10_count 99 = .ok (.ireturn, 1) := by decide +kernel
theorem dX10_count_100 : decode cX10_count 100 = .ok (.iload_n 1, 1) := by decide +kernel
theorem dX10_count_101 : decode cX10_count 101 = .ok (.bipush 20, 2) := by decide +kernel
theorem dX10_count_103 : decode cX10_count 103 = .ok (.bipush 21, 2) := by decide +kernel
theorem dX10_count_105 : decode cX10_count 105 = .ok (.invokestatic 45, 3) := by decide +kernel
theorem dX10_count_108 : decode cX10_count 108 = .ok (.ifCond .eq 17, 3) := by decide +kernel
theorem dX10_count_111 : decode cX10_count 111 = .ok (.aload_n 0, 1) := by decide +kernel
theorem dX10_count_112 : decode cX10_count 112 = .ok (.getfield 7, 3) := by decide +kernel
theorem dX10_count_115 : decode cX10_count 115 = .ok (.iconst 5, 1) := by decide +kernel
theorem dX10_count_116 : decode cX10_count 116 = .ok (.iload_n 1, 1) := by decide +kernel
theorem dX10_count_117 : decode cX10_count 117 = .ok (.iadd, 1) := by decide +kernel
theorem dX10_count_118 : decode cX10_count 118 = .ok (.bipush 20, 2) := by decide +kernel
theorem dX10_count_120 : decode cX10_count 120 = .ok (.isub, 1) := by decide +kernel
theorem dX10_count_121 : decode cX10_count 121 = .ok (.iaload, 1) := by decide +kernel
theorem dX10_count_122 : decode cX10_count 122 = .ok (.goto 4, 3) := by decide +kernel
theorem dX10_count_125 : decode cX10_count 125 = .ok (.iconst (-1), 1) := by decide +kernel
theorem dX10_count_126 : decode cX10_count 126 = .ok (.ireturn, 1) := by decide +kernel
theorem dX10_undo_0 : decode cX10_undo 0 = .ok (.aload_n 0, 1) := by decide +kernel
theorem dX10_undo_1 : decode cX10_undo 1 = .ok (.getfield 41, 3) := by decide +kernel
theorem dX10_undo_4 : decode cX10_undo 4 = .ok (.ifCond .ne 6, 3) := by decide +kernel
theorem dX10_undo_7 : decode cX10_undo 7 = .ok (.bipush (-2), 2) := by decide +kernel
theorem dX10_undo_9 : decode cX10_undo 9 = .ok (.ireturn, 1) := by decide +kernel
theorem dX10_undo_10 : decode cX10_undo 10 = .ok (.aload_n 0, 1) := by decide +kernel
theorem dX10_undo_11 : decode cX10_undo 11 = .ok (.dup, 1) := by decide +kernel
theorem dX10_undo_12 : decode cX10_undo 12 = .ok (.getfield 41, 3) := by decide +kernel
theorem dX10_undo_15 : decode cX10_undo 15 = .ok (.iconst 1, 1) := by decide +kernel
theorem dX10_undo_16 : decode cX10_undo 16 = .ok (.isub, 1) := by decide +kernel
theorem dX10_undo_17 : decode cX10_undo 17 = .ok (.putfield 41, 3) := by decide +kernel
theorem dX10_undo_20 : decode cX10_undo 20 = .ok (.aload_n 0, 1) := by decide +kernel
theorem dX10_undo_21 : decode cX10_undo 21 = .ok (.getfield 13, 3) := by decide +kernel
theorem dX10_undo_24 : decode cX10_undo 24 = .ok (.aload_n 0, 1) := by decide +kernel
theorem dX10_undo_25 : decode cX10_undo 25 = .ok (.getfield 41, 3) := by decide +kernel
theorem dX10_undo_28 : decode cX10_undo 28 = .ok (.sipush 537, 3) := by decide +kernel
theorem dX10_undo_31 : decode cX10_undo 31 = .ok (.imul, 1) := by decide +kernel
theorem dX10_undo_32 : decode cX10_undo 32 = .ok (.aload_n 0, 1) := by decide +kernel
theorem dX10_undo_33 : decode cX10_undo 33 = .ok (.getfield 7, 3) := by decide +kernel
theorem dX10_undo_36 : decode cX10_undo 36 = .ok (.iconst 0, 1) := by decide +kernel
theorem dX10_undo_37 : decode cX10_undo 37 = .ok (.invokestatic 37, 3) := by decide +kernel
theorem dX10_undo_40 : decode cX10_undo 40 = .ok (.aload_n 0, 1) := by decide +kernel
theorem dX10_undo_41 : decode cX10_undo 41 = .ok (.getfield 41, 3) := by decide +kernel
theorem dX10_undo_44 : decode cX10_undo 44 = .ok (.ireturn, 1) := by decide +kernel
theorem dX10_type_0 : decode cX10_type 0 = .ok (.iload_n 1, 1) := by decide +kernel
theorem dX10_type_1 : decode cX10_type 1 = .ok (.bipush 32, 2) := by decide +kernel
theorem dX10_type_3 : decode cX10_type 3 = .ok (.bipush 126, 2) := by decide +kernel
theorem dX10_type_5 : decode cX10_type 5 = .ok (.invokestatic 45, 3) := by decide +kernel
theorem dX10_type_8 : decode cX10_type 8 = .ok (.ifCond .ne 5, 3) := by decide +kernel
theorem dX10_type_11 : decode cX10_type 11 = .ok (.iconst (-1), 1) := by decide +kernel
theorem dX10_type_12 : decode cX10_type 12 = .ok (.ireturn, 1) := by decide +kernel
theorem dX10_type_13 : decode cX10_type 13 = .ok (.aload_n 0, 1) := by decide +kernel
theorem dX10_type_14 : decode cX10_type 14 = .ok (.getfield 194, 3) := by decide +kernel
theorem dX10_type_17 : decode cX10_type 17 = .ok (.bipush 60, 2) := by decide +kernel
theorem dX10_type_19 : decode cX10_type 19 = .ok (.if_icmp .ne 6, 3) := by decide +kernel
theorem dX10_type_22 : decode cX10_type 22 = .ok (.bipush (-3), 2) := by decide +kernel
theorem dX10_type_24 : decode cX10_type 24 = .ok (.ireturn, 1) := by decide +kernel
theorem dX10_type_25 : decode cX10_type 25 = .ok (.aload_n 0, 1) := by decide +kernel
theorem dX10_type_26 : decode cX10_type 26 = .ok (.getfield 22, 3) := by decide +kernel
theorem dX10_type_29 : decode cX10_type 29 = .ok (.aload_n 0, 1) := by decide +kernel
theorem dX10_type_30 : decode cX10_type 30 = .ok (.getfield 194, 3) := by decide +kernel
theorem dX10_type_33 : decode cX10_type 33 = .ok (.iload_n 1, 1) := by decide +kernel
theorem dX10_type_34 : decode cX10_type 34 = .ok (.iastore, 1) := by decide +kernel
theorem dX10_type_35 : decode cX10_type 35 = .ok (.aload_n 0, 1) := by decide +kernel
theorem dX10_type_36 : decode cX10_type 36 = .ok (.dup, 1) := by decide +kernel
theorem dX10_type_37 : decode cX10_type 37 = .ok (.getfield 194, 3) := by decide +kernel
theorem dX10_type_40 : decode cX10_type 40 = .ok (.iconst 1, 1) := by decide +kernel
theorem dX10_type_41 : decode cX10_type 41 = .ok (.iadd, 1) := by decide +kernel
theorem dX10_type_42 : decode cX10_type 42 = .ok (.putfield 194, 3) := by decide +kernel
theorem dX10_type_45 : decode cX10_type 45 = .ok (.aload_n 0, 1) := by decide +kernel
theorem dX10_type_46 : decode cX10_type 46 = .ok (.getfield 194, 3) := by decide +kernel
theorem dX10_type_49 : decode cX10_type 49 = .ok (.ireturn, 1) := by decide +kernel
theorem dX10_clearText_0 : decode cX10_clearText 0 = .ok (.aload_n 0, 1) := by decide +kernel
theorem dX10_clearText_1 : decode cX10_clearText 1 = .ok (.getfield 194, 3) := by decide +kernel
theorem dX10_clearText_4 : decode cX10_clearText 4 = .ok (.istore_n 1, 1) := by decide +kernel
theorem dX10_clearText_5 : decode cX10_clearText 5 = .ok (.aload_n 0, 1) := by decide +kernel
theorem dX10_clearText_6 : decode cX10_clearText 6 = .ok (.iconst 0, 1) := by decide +kernel
theorem dX10_clearText_7 : decode cX10_clearText 7 = .ok (.putfield 194, 3) := by decide +kernel
theorem dX10_clearText_10 : decode cX10_clearText 10 = .ok (.iload_n 1, 1) := by decide +kernel
theorem dX10_clearText_11 : decode cX10_clearText 11 = .ok (.ireturn, 1) := by decide +kernel
theorem dX10_signAt_0 : decode cX10_signAt 0 = .ok (.iload_n 1, 1) := by decide +kernel
theorem dX10_signAt_1 : decode cX10_signAt 1 = .ok (.aload_n 0, 1) := by decide +kernel
theorem dX10_signAt_2 : decode cX10_signAt 2 = .ok (.getfield 194, 3) := by decide +kernel
theorem dX10_signAt_5 : decode cX10_signAt 5 = .ok (.if_icmp .ge 12, 3) := by decide +kernel
theorem dX10_signAt_8 : decode cX10_signAt 8 = .ok (.aload_n 0, 1) := by decide +kernel
theorem dX10_signAt_9 : decode cX10_signAt 9 = .ok (.getfield 22, 3) := by decide +kernel
theorem dX10_signAt_12 : decode cX10_signAt 12 = .ok (.iload_n 1, 1) := by decide +kernel
theorem dX10_signAt_13 : decode cX10_signAt 13 = .ok (.iaload, 1) := by decide +kernel
theorem dX10_signAt_14 : decode cX10_signAt 14 = .ok (.goto 4, 3) := by decide +kernel
theorem dX10_signAt_17 : decode cX10_signAt 17 = .ok (.iconst 0, 1) := by decide +kernel
theorem dX10_signAt_18 : decode cX10_signAt 18 = .ok (.ireturn, 1) := by decide +kernel
theorem dX10_readsNumber_0 : decode cX10_readsNumber 0 = .ok (.iconst 0, 1) := by decide +kernel
theorem dX10_readsNumber_1 : decode cX10_readsNumber 1 = .ok (.istore_n 2, 1) := by decide +kernel
theorem dX10_readsNumber_2 : decode cX10_readsNumber 2 = .ok (.iconst 0, 1) := by decide +kernel
theorem dX10_readsNumber_3 : decode cX10_readsNumber 3 = .ok (.istore_n 3, 1) := by decide +kernel
theorem dX10_readsNumber_4 : decode cX10_readsNumber 4 = .ok (.iload_n 3, 1) := by decide +kernel
theorem dX10_readsNumber_5 : decode cX10_readsNumber 5 = .ok (.iconst 3, 1) := by decide +kernel
theorem dX10_readsNumber_6 : decode cX10_readsNumber 6 = .ok (.if_icmp .ge 54, 3) := by decide +kernel
theorem dX10_readsNumber_9 : decode cX10_readsNumber 9 = .ok (.aload_n 0, 1) := by decide +kernel
theorem dX10_readsNumber_10 : decode cX10_readsNumber 10 = .ok (.aload_n 0, 1) := by decide +kernel
theorem dX10_readsNumber_11 : decode cX10_readsNumber 11 = .ok (.getfield 197, 3) := by decide +kernel
theorem dX10_readsNumber_14 : decode cX10_readsNumber 14 = .ok (.invokevirtual 200, 3) := by decide +kernel
theorem dX10_readsNumber_17 : decode cX10_readsNumber 17 = .ok (.bipush 48, 2) := by decide +kernel
theorem dX10_readsNumber_19 : decode cX10_readsNumber 19 = .ok (.bipush 57, 2) := by decide +kernel
theorem dX10_readsNumber_21 : decode cX10_readsNumber 21 = .ok (.invokestatic 45, 3) := by decide +kernel
theorem dX10_readsNumber_24 : decode cX10_readsNumber 24 = .ok (.ifCond .eq 36, 3) := by decide +kernel
theorem dX10_readsNumber_27 : decode cX10_readsNumber 27 = .ok (.bipush 10, 2) := by decide +kernel
theorem dX10_readsNumber_29 : decode cX10_readsNumber 29 = .ok (.iload_n 2, 1) := by decide +kernel
theorem dX10_readsNumber_30 : decode cX10_readsNumber 30 = .ok (.imul, 1) := by decide +kernel
theorem dX10_readsNumber_31 : decode cX10_readsNumber 31 = .ok (.aload_n 0, 1) := by decide +kernel
theorem dX10_readsNumber_32 : decode cX10_readsNumber 32 = .ok (.aload_n 0, 1) := by decide +kernel
theorem dX10_readsNumber_33 : decode cX10_readsNumber 33 = .ok (.getfield 197, 3) := by decide +kernel
theorem dX10_readsNumber_36 : decode cX10_readsNumber 36 = .ok (.invokevirtual 200, 3) := by decide +kernel
theorem dX10_readsNumber_39 : decode cX10_readsNumber 39 = .ok (.iadd, 1) := by decide +kernel
theorem dX10_readsNumber_40 : decode cX10_readsNumber 40 = .ok (.bipush 48, 2) := by decide +kernel
theorem dX10_readsNumber_42 : decode cX10_readsNumber 42 = .ok (.isub, 1) := by decide +kernel
theorem dX10_readsNumber_43 : decode cX10_readsNumber 43 = .ok (.istore_n 2, 1) := by decide +kernel
theorem dX10_readsNumber_44 : decode cX10_readsNumber 44 = .ok (.aload_n 0, 1) := by decide +kernel
theorem dX10_readsNumber_45 : decode cX10_readsNumber 45 = .ok (.dup, 1) := by decide +kernel
theorem dX10_readsNumber_46 : decode cX10_readsNumber 46 = .ok (.getfield 197, 3) := by decide +kernel
theorem dX10_readsNumber_49 : decode cX10_readsNumber 49 = .ok (.iconst 1, 1) := by decide +kernel
theorem dX10_readsNumber_50 : decode cX10_readsNumber 50 = .ok (.iadd, 1) := by decide +kernel
theorem dX10_readsNumber_51 : decode cX10_readsNumber 51 = .ok (.putfield 197, 3) := by decide +kernel
theorem dX10_readsNumber_54 : decode cX10_readsNumber 54 = .ok (.iinc 3 1, 3) := by decide +kernel
theorem dX10_readsNumber_57 : decode cX10_readsNumber 57 = .ok (.goto (-53), 3) := by decide +kernel
theorem dX10_readsNumber_60 : decode cX10_readsNumber 60 = .ok (.aload_n 0, 1) := by decide +kernel
theorem dX10_readsNumber_61 : decode cX10_readsNumber 61 = .ok (.getfield 34, 3) := by decide +kernel
theorem dX10_readsNumber_64 : decode cX10_readsNumber 64 = .ok (.iload_n 1, 1) := by decide +kernel
theorem dX10_readsNumber_65 : decode cX10_readsNumber 65 = .ok (.iload_n 2, 1) := by decide +kernel
theorem dX10_readsNumber_66 : decode cX10_readsNumber 66 = .ok (.iastore, 1) := by decide +kernel
theorem dX10_readsNumber_67 : decode cX10_readsNumber 67 = .ok (.iload_n 3, 1) := by decide +kernel
theorem dX10_readsNumber_68 : decode cX10_readsNumber 68 = .ok (.ifCond .le 7, 3) := by decide +kernel
theorem dX10_readsNumber_71 : decode cX10_readsNumber 71 = .ok (.iconst 1, 1) := by decide +kernel
theorem dX10_readsNumber_72 : decode cX10_readsNumber 72 = .ok (.goto 4, 3) := by decide +kernel
theorem dX10_readsNumber_75 : decode cX10_readsNumber 75 = .ok (.iconst 0, 1) := by decide +kernel
theorem dX10_readsNumber_76 : decode cX10_readsNumber 76 = .ok (.ireturn, 1) := by decide +kernel
theorem dX10_reads_0 : decode cX10_reads 0 = .ok (.aload_n 0, 1) := by decide +kernel
theorem dX10_reads_1 : decode cX10_reads 1 = .ok (.aload_n 0, 1) := by decide +kernel
theorem dX10_reads_2 : decode cX10_reads 2 = .ok (.iload_n 1, 1) := by decide +kernel
theorem dX10_reads_3 : decode cX10_reads 3 = .ok (.invokevirtual 200, 3) := by decide +kernel
theorem dX10_reads_6 : decode cX10_reads 6 = .ok (.putfield 203, 3) := by decide +kernel
theorem dX10_reads_9 : decode cX10_reads 9 = .ok (.aload_n 0, 1) := by decide +kernel
theorem dX10_reads_10 : decode cX10_reads 10 = .ok (.iload_n 1, 1) := by decide +kernel
theorem dX10_reads_11 : decode cX10_reads 11 = .ok (.iconst 1, 1) := by decide +kernel
theorem dX10_reads_12 : decode cX10_reads 12 = .ok (.iadd, 1) := by decide +kernel
theorem dX10_reads_13 : decode cX10_reads 13 = .ok (.putfield 197, 3) := by decide +kernel
theorem dX10_reads_16 : decode cX10_reads 16 = .ok (.aload_n 0, 1) := by decide +kernel
theorem dX10_reads_17 : decode cX10_reads 17 = .ok (.getfield 203, 3) := by decide +kernel
theorem dX10_reads_20 : decode cX10_reads 20 = .ok (.bipush 112, 2) := by decide +kernel
theorem dX10_reads_22 : decode cX10_reads 22 = .ok (.if_icmp .ne 7, 3) := by decide +kernel
theorem dX10_reads_25 : decode cX10_reads 25 = .ok (.iconst 3, 1) := by decide +kernel
theorem dX10_reads_26 : decode cX10_reads 26 = .ok (.goto 48, 3) := by decide +kernel
theorem dX10_reads_29 : decode cX10_reads 29 = .ok (.aload_n 0, 1) := by decide +kernel
theorem dX10_reads_30 : decode cX10_reads 30 = .ok (.getfield 203, 3) := by decide +kernel
theorem dX10_reads_33 : decode cX10_reads 33 = .ok (.bipush 103, 2) := by decide +kernel
theorem dX10_reads_35 : decode cX10_reads 35 = .ok (.if_icmp .eq 12, 3) := by decide +kernel
theorem dX10_reads_38 : decode cX10_reads 38 = .ok (.aload_n 0, 1) := by decide +kernel
theorem dX10_reads_39 : decode cX10_reads 39 = .ok (.getfield 203, 3) := by decide +kernel
theorem dX10_reads_42 : decode cX10_reads 42 = .ok (.bipush 98, 2) := by decide +kernel
theorem dX10_reads_44 : decode cX10_reads 44 = .ok (.if_icmp .ne 7, 3) := by decide +kernel
theorem dX10_reads_47 : decode cX10_reads 47 = .ok (.iconst 2, 1) := by decide +kernel
theorem dX10_reads_48 : decode cX10_reads 48 = .ok (.goto 26, 3) := by decide +kernel
theorem dX10_reads_51 : decode cX10_reads 51 = .ok (.aload_n 0, 1) := by decide +kernel
theorem dX10_reads_52 : decode cX10_reads 52 = .ok (.getfield 203, 3) := by decide +kernel
theorem dX10_reads_55 : decode cX10_reads 55 = .ok (.bipush 110, 2) := by decide +kernel
theorem dX10_reads_57 : decode cX10_reads 57 = .ok (.if_icmp .eq 12, 3) := by decide +kernel
theorem dX10_reads_60 : decode cX10_reads 60 = .ok (.aload_n 0, 1) := by decide +kernel
theorem dX10_reads_61 : decode cX10_reads 61 = .ok (.getfield 203, 3) := by decide +kernel
theorem dX10_reads_64 : decode cX10_reads 64 = .ok (.bipush 100, 2) := by decide +kernel
theorem dX10_reads_66 : decode cX10_reads 66 = .ok (.if_icmp .ne 7, 3) := by decide +kernel
theorem dX10_reads_69 : decode cX10_reads 69 = .ok (.iconst 1, 1) := by decide +kernel
theorem dX10_reads_70 : decode cX10_reads 70 = .ok (.goto 4, 3) := by decide +kernel
theorem dX10_reads_73 : decode cX10_reads 73 = .ok (.iconst 0, 1) := by decide +kernel
theorem dX10_reads_74 : decode cX10_reads 74 = .ok (.istore_n 2, 1) := by decide +kernel
theorem dX10_reads_75 : decode cX10_reads 75 = .ok (.iload_n 2, 1) := by decide +kernel
theorem dX10_reads_76 : decode cX10_reads 76 = .ok (.ifCond .le 7, 3) := by decide +kernel
theorem dX10_reads_79 : decode cX10_reads 79 = .ok (.iconst 1, 1) := by decide +kernel
theorem dX10_reads_80 : decode cX10_reads 80 = .ok (.goto 4, 3) := by decide +kernel
theorem dX10_reads_83 : decode cX10_reads 83 = .ok (.iconst 0, 1) := by decide +kernel
theorem dX10_reads_84 : decode cX10_reads 84 = .ok (.istore_n 3, 1) := by decide +kernel
theorem dX10_reads_85 : decode cX10_reads 85 = .ok (.iconst 0, 1) := by decide +kernel
theorem dX10_reads_86 : decode cX10_reads 86 = .ok (.istore 4, 2) := by decide +kernel
theorem dX10_reads_88 : decode cX10_reads 88 = .ok (.iload 4, 2) := by decide +kernel
theorem dX10_reads_90 : decode cX10_reads 90 = .ok (.iload_n 2, 1) := by decide +kernel
theorem dX10_reads_91 : decode cX10_reads 91 = .ok (.if_icmp .ge 66, 3) := by decide +kernel
theorem dX10_reads_94 : decode cX10_reads 94 = .ok (.iload_n 3, 1) := by decide +kernel
theorem dX10_reads_95 : decode cX10_reads 95 = .ok (.ifCond .eq 62, 3) := by decide +kernel
theorem dX10_reads_98 : decode cX10_reads 98 = .ok (.iload 4, 2) := by decide +kernel
theorem dX10_reads_100 : decode cX10_reads 100 = .ok (.ifCond .le 32, 3) := by decide +kernel
theorem dX10_reads_103 : decode cX10_reads 103 = .ok (.aload_n 0, 1) := by decide +kernel
theorem dX10_reads_104 : decode cX10_reads 104 = .ok (.aload_n 0, 1) := by decide +kernel
theorem dX10_reads_105 : decode cX10_reads 105 = .ok (.getfield 197, 3) := by decide +kernel
theorem dX10_reads_108 : decode cX10_reads 108 = .ok (.invokevirtual 200, 3) := by decide +kernel
theorem dX10_reads_111 : decode cX10_reads 111 = .ok (.bipush 44, 2) := by decide +kernel
theorem dX10_reads_113 : decode cX10_reads 113 = .ok (.if_icmp .ne 7, 3) := by decide +kernel
theorem dX10_reads_116 : decode cX10_reads 116 = .ok (.iconst 1, 1) := by decide +kernel
theorem dX10_reads_117 : decode cX10_reads 117 = .ok (.goto 4, 3) := by decide +kernel
theorem dX10_reads_120 : decode cX10_reads 120 = .ok (.iconst 0, 1) := by decide +kernel
theorem dX10_reads_121 : decode cX10_reads 121 = .ok (.istore_n 3, 1) := by decide +kernel
theorem dX10_reads_122 : decode cX10_reads 122 = .ok (.aload_n 0, 1) := by decide +kernel
theorem dX10_reads_123 : decode cX10_reads 123 = .ok (.dup, 1) := by decide +kernel
theorem dX10_reads_124 : decode cX10_reads 124 = .ok (.getfield 197, 3) := by decide +kernel
theorem dX10_reads_127 : decode cX10_reads 127 = .ok (.iconst 1, 1) := by decide +kernel
theorem dX10_reads_128 : decode cX10_reads 128 = .ok (.iadd, 1) := by decide +kernel
theorem dX10_reads_129 : decode cX10_reads 129 = .ok (.putfield 197, 3) := by decide +kernel
theorem dX10_reads_132 : decode cX10_reads 132 = .ok (.iload_n 3, 1) := by decide +kernel
theorem dX10_reads_133 : decode cX10_reads 133 = .ok (.ifCond .eq 16, 3) := by decide +kernel
theorem dX10_reads_136 : decode cX10_reads 136 = .ok (.aload_n 0, 1) := by decide +kernel
theorem dX10_reads_137 : decode cX10_reads 137 = .ok (.iload 4, 2) := by decide +kernel
theorem dX10_reads_139 : decode cX10_reads 139 = .ok (.invokevirtual 206, 3) := by decide +kernel
theorem dX10_reads_142 : decode cX10_reads 142 = .ok (.ifCond .eq 7, 3) := by decide +kernel
theorem dX10_reads_145 : decode cX10_reads 145 = .ok (.iconst 1, 1) := by decide +kernel
theorem dX10_reads_146 : decode cX10_reads 146 = .ok (.goto 4, 3) := by decide +kernel
theorem dX10_reads_149 : decode cX10_reads 149 = .ok (.iconst 0, 1) := by decide +kernel
theorem dX10_reads_150 : decode cX10_reads 150 = .ok (.istore_n 3, 1) := by decide +kernel
theorem dX10_reads_151 : decode cX10_reads 151 = .ok (.iinc 4 1, 3) := by decide +kernel
theorem dX10_reads_154 : decode cX10_reads 154 = .ok (.goto (-66), 3) := by decide +kernel
theorem dX10_reads_157 : decode cX10_reads 157 = .ok (.iload_n 3, 1) := by decide +kernel
theorem dX10_reads_158 : decode cX10_reads 158 = .ok (.ifCond .eq 20, 3) := by decide +kernel
theorem dX10_reads_161 : decode cX10_reads 161 = .ok (.aload_n 0, 1) := by decide +kernel
theorem dX10_reads_162 : decode cX10_reads 162 = .ok (.aload_n 0, 1) := by decide +kernel
theorem dX10_reads_163 : decode cX10_reads 163 = .ok (.getfield 197, 3) := by decide +kernel
theorem dX10_reads_166 : decode cX10_reads 166 = .ok (.invokevirtual 200, 3) := by decide +kernel
theorem dX10_reads_169 : decode cX10_reads 169 = .ok (.bipush 59, 2) := by decide +kernel
theorem dX10_reads_171 : decode cX10_reads 171 = .ok (.if_icmp .ne 7, 3) := by decide +kernel
theorem dX10_reads_174 : decode cX10_reads 174 = .ok (.iconst 1, 1) := by decide +kernel
theorem dX10_reads_175 : decode cX10_reads 175 = .ok (.goto 4, 3) := by decide +kernel
theorem dX10_reads_178 : decode cX10_reads 178 = .ok (.iconst 0, 1) := by decide +kernel
theorem dX10_reads_179 : decode cX10_reads 179 = .ok (.istore_n 3, 1) := by decide +kernel
theorem dX10_reads_180 : decode cX10_reads 180 = .ok (.aload_n 0, 1) := by decide +kernel
theorem dX10_reads_181 : decode cX10_reads 181 = .ok (.dup, 1) := by decide +kernel
theorem dX10_reads_182 : decode cX10_reads 182 = .ok (.getfield 197, 3) := by decide +kernel
theorem dX10_reads_185 : decode cX10_reads 185 = .ok (.iconst 1, 1) := by decide +kernel
theorem dX10_reads_186 : decode cX10_reads 186 = .ok (.iadd, 1) := by decide +kernel
theorem dX10_reads_187 : decode cX10_reads 187 = .ok (.putfield 197, 3) := by decide +kernel
theorem dX10_reads_190 : decode cX10_reads 190 = .ok (.iload_n 3, 1) := by decide +kernel
theorem dX10_reads_191 : decode cX10_reads 191 = .ok (.ireturn, 1) := by decide +kernel
theorem dX10_does_0 : decode cX10_does 0 = .ok (.aload_n 0, 1) := by decide +kernel
theorem dX10_does_1 : decode cX10_does 1 = .ok (.getfield 203, 3) := by decide +kernel
theorem dX10_does_4 : decode cX10_does 4 = .ok (.lookupswitch 112 #[(98, 95), (103, 67), (110, 84), (112, 44)], 44) := by decide +kernel
theorem dX10_does_48 : decode cX10_does 48 = .ok (.aload_n 0, 1) := by decide +kernel
theorem dX10_does_49 : decode cX10_does 49 = .ok (.aload_n 0, 1) := by decide +kernel
theorem dX10_does_50 : decode cX10_does 50 = .ok (.getfield 34, 3) := by decide +kernel
theorem dX10_does_53 : decode cX10_does 53 = .ok (.iconst 0, 1) := by decide +kernel
theorem dX10_does_54 : decode cX10_does 54 = .ok (.iaload, 1) := by decide +kernel
theorem dX10_does_55 : decode cX10_does 55 = .ok (.aload_n 0, 1) := by decide +kernel
theorem dX10_does_56 : decode cX10_does 56 = .ok (.getfield 34, 3) := by decide +kernel
theorem dX10_does_59 : decode cX10_does 59 = .ok (.iconst 1, 1) := by decide +kernel
theorem dX10_does_60 : decode cX10_does 60 = .ok (.iaload, 1) := by decide +kernel
theorem dX10_does_61 : decode cX10_does 61 = .ok (.aload_n 0, 1) := by decide +kernel
theorem dX10_does_62 : decode cX10_does 62 = .ok (.getfield 34, 3) := by decide +kernel
theorem dX10_does_65 : decode cX10_does 65 = .ok (.iconst 2, 1) := by decide +kernel
theorem dX10_does_66 : decode cX10_does 66 = .ok (.iaload, 1) := by decide +kernel
theorem dX10_does_67 : decode cX10_does 67 = .ok (.invokevirtual 78, 3) := by decide +kernel
theorem dX10_does_70 : decode cX10_does 70 = .ok (.ireturn, 1) := by decide +kernel
theorem dX10_does_71 : decode cX10_does 71 = .ok (.aload_n 0, 1) := by decide +kernel
theorem dX10_does_72 : decode cX10_does 72 = .ok (.aload_n 0, 1) := by decide +kernel
theorem dX10_does_73 : decode cX10_does 73 = .ok (.getfield 34, 3) := by decide +kernel
theorem dX10_does_76 : decode cX10_does 76 = .ok (.iconst 0, 1) := by decide +kernel
theorem dX10_does_77 : decode cX10_does 77 = .ok (.iaload, 1) := by decide +kernel
theorem dX10_does_78 : decode cX10_does 78 = .ok (.aload_n 0, 1) := by decide +kernel
theorem dX10_does_79 : decode cX10_does 79 = .ok (.getfield 34, 3) := by decide +kernel
theorem dX10_does_82 : decode cX10_does 82 = .ok (.iconst 1, 1) := by decide +kernel
theorem dX10_does_83 : decode cX10_does 83 = .ok (.iaload, 1) := by decide +kernel
theorem dX10_does_84 : decode cX10_does 84 = .ok (.invokevirtual 100, 3) := by decide +kernel
theorem dX10_does_87 : decode cX10_does 87 = .ok (.ireturn, 1) := by decide +kernel
theorem dX10_does_88 : decode cX10_does 88 = .ok (.aload_n 0, 1) := by decide +kernel
theorem dX10_does_89 : decode cX10_does 89 = .ok (.aload_n 0, 1) := by decide +kernel
theorem dX10_does_90 : decode cX10_does 90 = .ok (.getfield 34, 3) := by decide +kernel
theorem dX10_does_93 : decode cX10_does 93 = .ok (.iconst 0, 1) := by decide +kernel
theorem dX10_does_94 : decode cX10_does 94 = .ok (.iaload, 1) := by decide +kernel
theorem dX10_does_95 : decode cX10_does 95 = .ok (.invokevirtual 103, 3) := by decide +kernel
theorem dX10_does_98 : decode cX10_does 98 = .ok (.ireturn, 1) := by decide +kernel
theorem dX10_does_99 : decode cX10_does 99 = .ok (.aload_n 0, 1) := by decide +kernel
theorem dX10_does_100 : decode cX10_does 100 = .ok (.aload_n 0, 1) := by decide +kernel
theorem dX10_does_101 : decode cX10_does 101 = .ok (.getfield 34, 3) := by decide +kernel
theorem dX10_does_104 : decode cX10_does 104 = .ok (.iconst 0, 1) := by decide +kernel
theorem dX10_does_105 : decode cX10_does 105 = .ok (.iaload, 1) := by decide +kernel
theorem dX10_does_106 : decode cX10_does 106 = .ok (.aload_n 0, 1) := by decide +kernel
theorem dX10_does_107 : decode cX10_does 107 = .ok (.getfield 34, 3) := by decide +kernel
theorem dX10_does_110 : decode cX10_does 110 = .ok (.iconst 1, 1) := by decide +kernel
theorem dX10_does_111 : decode cX10_does 111 = .ok (.iaload, 1) := by decide +kernel
theorem dX10_does_112 : decode cX10_does 112 = .ok (.invokevirtual 106, 3) := by decide +kernel
theorem dX10_does_115 : decode cX10_does 115 = .ok (.ireturn, 1) := by decide +kernel
theorem dX10_does_116 : decode cX10_does 116 = .ok (.aload_n 0, 1) := by decide +kernel
theorem dX10_does_117 : decode cX10_does 117 = .ok (.aload_n 0, 1) := by decide +kernel
theorem dX10_does_118 : decode cX10_does 118 = .ok (.getfield 34, 3) := by decide +kernel
theorem dX10_does_121 : decode cX10_does 121 = .ok (.iconst 0, 1) := by decide +kernel
theorem dX10_does_122 : decode cX10_does 122 = .ok (.iaload, 1) := by decide +kernel
theorem dX10_does_123 : decode cX10_does 123 = .ok (.invokevirtual 161, 3) := by decide +kernel
theorem dX10_does_126 : decode cX10_does 126 = .ok (.ireturn, 1) := by decide +kernel
theorem dX10_doesAll_0 : decode cX10_doesAll 0 = .ok (.iconst 0, 1) := by decide +kernel
theorem dX10_doesAll_1 : decode cX10_doesAll 1 = .ok (.istore_n 1, 1) := by decide +kernel
theorem dX10_doesAll_2 : decode cX10_doesAll 2 = .ok (.aload_n 0, 1) := by decide +kernel
theorem dX10_doesAll_3 : decode cX10_doesAll 3 = .ok (.iconst 0, 1) := by decide +kernel
theorem dX10_doesAll_4 : decode cX10_doesAll 4 = .ok (.putfield 209, 3) := by decide +kernel
theorem dX10_doesAll_7 : decode cX10_doesAll 7 = .ok (.aload_n 0, 1) := by decide +kernel
theorem dX10_doesAll_8 : decode cX10_doesAll 8 = .ok (.bipush (-4), 2) := by decide +kernel
theorem dX10_doesAll_10 : decode cX10_doesAll 10 = .ok (.putfield 212, 3) := by decide +kernel
theorem dX10_doesAll_13 : decode cX10_doesAll 13 = .ok (.iload_n 1, 1) := by decide +kernel
theorem dX10_doesAll_14 : decode cX10_doesAll 14 = .ok (.aload_n 0, 1) := by decide +kernel
theorem dX10_doesAll_15 : decode cX10_doesAll 15 = .ok (.getfield 194, 3) := by decide +kernel
theorem dX10_doesAll_18 : decode cX10_doesAll 18 = .ok (.if_icmp .ge 52, 3) := by decide +kernel
theorem dX10_doesAll_21 : decode cX10_doesAll 21 = .ok (.aload_n 0, 1) := by decide +kernel
theorem dX10_doesAll_22 : decode cX10_doesAll 22 = .ok (.iload_n 1, 1) := by decide +kernel
theorem dX10_doesAll_23 : decode cX10_doesAll 23 = .ok (.putfield 215, 3) := by decide +kernel
theorem dX10_doesAll_26 : decode cX10_doesAll 26 = .ok (.aload_n 0, 1) := by decide +kernel
theorem dX10_doesAll_27 : decode cX10_doesAll 27 = .ok (.iload_n 1, 1) := by decide +kernel
theorem dX10_doesAll_28 : decode cX10_doesAll 28 = .ok (.invokevirtual 218, 3) := by decide +kernel
theorem dX10_doesAll_31 : decode cX10_doesAll 31 = .ok (.ifCond .ne 5, 3) := by decide +kernel
theorem dX10_doesAll_34 : decode cX10_doesAll 34 = .ok (.iconst 1, 1) := by decide +kernel
theorem dX10_doesAll_35 : decode cX10_doesAll 35 = .ok (.ireturn, 1) := by decide +kernel
theorem dX10_doesAll_36 : decode cX10_doesAll 36 = .ok (.aload_n 0, 1) := by decide +kernel
theorem dX10_doesAll_37 : decode cX10_doesAll 37 = .ok (.invokevirtual 221, 3) := by decide +kernel
theorem dX10_doesAll_40 : decode cX10_doesAll 40 = .ok (.istore_n 2, 1) := by decide +kernel
theorem dX10_doesAll_41 : decode cX10_doesAll 41 = .ok (.iload_n 2, 1) := by decide +kernel
theorem dX10_doesAll_42 : decode cX10_doesAll 42 = .ok (.ifCond .ge 10, 3) := by decide +kernel
theorem dX10_doesAll_45 : decode cX10_doesAll 45 = .ok (.aload_n 0, 1) := by decide +kernel
theorem dX10_doesAll_46 : decode cX10_doesAll 46 = .ok (.iload_n 2, 1) := by decide +kernel
theorem dX10_doesAll_47 : decode cX10_doesAll 47 = .ok (.putfield 212, 3) := by decide +kernel
theorem dX10_doesAll_50 : decode cX10_doesAll 50 = .ok (.iconst 2, 1) := by decide +kernel
theorem dX10_doesAll_51 : decode cX10_doesAll 51 = .ok (.ireturn, 1) := by decide +kernel
theorem dX10_doesAll_52 : decode cX10_doesAll 52 = .ok (.aload_n 0, 1) := by decide +kernel
theorem dX10_doesAll_53 : decode cX10_doesAll 53 = .ok (.dup, 1) := by decide +kernel
theorem dX10_doesAll_54 : decode cX10_doesAll 54 = .ok (.getfield 209, 3) := by decide +kernel
theorem dX10_doesAll_57 : decode cX10_doesAll 57 = .ok (.iconst 1, 1) := by decide +kernel
theorem dX10_doesAll_58 : decode cX10_doesAll 58 = .ok (.iadd, 1) := by decide +kernel
theorem dX10_doesAll_59 : decode cX10_doesAll 59 = .ok (.putfield 209, 3) := by decide +kernel
theorem dX10_doesAll_62 : decode cX10_doesAll 62 = .ok (.aload_n 0, 1) := by decide +kernel
theorem dX10_doesAll_63 : decode cX10_doesAll 63 = .ok (.getfield 197, 3) := by decide +kernel
theorem dX10_doesAll_66 : decode cX10_doesAll 66 = .ok (.istore_n 1, 1) := by decide +kernel
theorem dX10_doesAll_67 : decode cX10_doesAll 67 = .ok (.goto (-54), 3) := by decide +kernel
theorem dX10_doesAll_70 : decode cX10_doesAll 70 = .ok (.iconst 0, 1) := by decide +kernel
theorem dX10_doesAll_71 : decode cX10_doesAll 71 = .ok (.ireturn, 1) := by decide +kernel
theorem dX10_looks_0 : decode cX10_looks 0 = .ok (.aload_n 0, 1) := by decide +kernel
theorem dX10_looks_1 : decode cX10_looks 1 = .ok (.getfield 7, 3) := by decide +kernel
theorem dX10_looks_4 : decode cX10_looks 4 = .ok (.iconst 0, 1) := by decide +kernel
theorem dX10_looks_5 : decode cX10_looks 5 = .ok (.aload_n 0, 1) := by decide +kernel
theorem dX10_looks_6 : decode cX10_looks 6 = .ok (.getfield 19, 3) := by decide +kernel
theorem dX10_looks_9 : decode cX10_looks 9 = .ok (.iconst 0, 1) := by decide +kernel
theorem dX10_looks_10 : decode cX10_looks 10 = .ok (.invokestatic 37, 3) := by decide +kernel
theorem dX10_looks_13 : decode cX10_looks 13 = .ok (.aload_n 0, 1) := by decide +kernel
theorem dX10_looks_14 : decode cX10_looks 14 = .ok (.invokevirtual 224, 3) := by decide +kernel
theorem dX10_looks_17 : decode cX10_looks 17 = .ok (.istore_n 1, 1) := by decide +kernel
theorem dX10_looks_18 : decode cX10_looks 18 = .ok (.aload_n 0, 1) := by decide +kernel
theorem dX10_looks_19 : decode cX10_looks 19 = .ok (.getfield 19, 3) := by decide +kernel
theorem dX10_looks_22 : decode cX10_looks 22 = .ok (.iconst 0, 1) := by decide +kernel
theorem dX10_looks_23 : decode cX10_looks 23 = .ok (.aload_n 0, 1) := by decide +kernel
theorem dX10_looks_24 : decode cX10_looks 24 = .ok (.getfield 7, 3) := by decide +kernel
theorem dX10_looks_27 : decode cX10_looks 27 = .ok (.iconst 0, 1) := by decide +kernel
theorem dX10_looks_28 : decode cX10_looks 28 = .ok (.invokestatic 37, 3) := by decide +kernel
theorem dX10_looks_31 : decode cX10_looks 31 = .ok (.iload_n 1, 1) := by decide +kernel
theorem dX10_looks_32 : decode cX10_looks 32 = .ok (.ireturn, 1) := by decide +kernel
theorem dX10_fault_0 : decode cX10_fault 0 = .ok (.iload_n 1, 1) := by decide +kernel
theorem dX10_fault_1 : decode cX10_fault 1 = .ok (.iconst 0, 1) := by decide +kernel
theorem dX10_fault_2 : decode cX10_fault 2 = .ok (.iconst 2, 1) := by decide +kernel
theorem dX10_fault_3 : decode cX10_fault 3 = .ok (.invokestatic 45, 3) := by decide +kernel
theorem dX10_fault_6 : decode cX10_fault 6 = .ok (.ifCond .ne 5, 3) := by decide +kernel
theorem dX10_fault_9 : decode cX10_fault 9 = .ok (.iconst (-1), 1) := by decide +kernel
theorem dX10_fault_10 : decode cX10_fault 10 = .ok (.ireturn, 1) := by decide +kernel
theorem dX10_fault_11 : decode cX10_fault 11 = .ok (.aload_n 0, 1) := by decide +kernel
theorem dX10_fault_12 : decode cX10_fault 12 = .ok (.invokevirtual 227, 3) := by decide +kernel
theorem dX10_fault_15 : decode cX10_fault 15 = .ok (.istore_n 2, 1) := by decide +kernel
theorem dX10_fault_16 : decode cX10_fault 16 = .ok (.iload_n 2, 1) := by decide +kernel
theorem dX10_fault_17 : decode cX10_fault 17 = .ok (.ifCond .ne 8, 3) := by decide +kernel
theorem dX10_fault_20 : decode cX10_fault 20 = .ok (.bipush (-4), 2) := by decide +kernel
theorem dX10_fault_22 : decode cX10_fault 22 = .ok (.goto 27, 3) := by decide +kernel
theorem dX10_fault_25 : decode cX10_fault 25 = .ok (.iload_n 1, 1) := by decide +kernel
theorem dX10_fault_26 : decode cX10_fault 26 = .ok (.ifCond .ne 10, 3) := by decide +kernel
theorem dX10_fault_29 : decode cX10_fault 29 = .ok (.aload_n 0, 1) := by decide +kernel
theorem dX10_fault_30 : decode cX10_fault 30 = .ok (.getfield 215, 3) := by decide +kernel
theorem dX10_fault_33 : decode cX10_fault 33 = .ok (.goto 16, 3) := by decide +kernel
theorem dX10_fault_36 : decode cX10_fault 36 = .ok (.iload_n 1, 1) := by decide +kernel
theorem dX10_fault_37 : decode cX10_fault 37 = .ok (.iconst 1, 1) := by decide +kernel
theorem dX10_fault_38 : decode cX10_fault 38 = .ok (.if_icmp .ne 7, 3) := by decide +kernel
theorem dX10_fault_41 : decode cX10_fault 41 = .ok (.iload_n 2, 1) := by decide +kernel
theorem dX10_fault_42 : decode cX10_fault 42 = .ok (.goto 7, 3) := by decide +kernel
theorem dX10_fault_45 : decode cX10_fault 45 = .ok (.aload_n 0, 1) := by decide +kernel
theorem dX10_fault_46 : decode cX10_fault 46 = .ok (.getfield 212, 3) := by decide +kernel
theorem dX10_fault_49 : decode cX10_fault 49 = .ok (.ireturn, 1) := by decide +kernel
theorem dX10_play_0 : decode cX10_play 0 = .ok (.aload_n 0, 1) := by decide +kernel
theorem dX10_play_1 : decode cX10_play 1 = .ok (.invokevirtual 227, 3) := by decide +kernel
theorem dX10_play_4 : decode cX10_play 4 = .ok (.ifCond .eq 6, 3) := by decide +kernel
theorem dX10_play_7 : decode cX10_play 7 = .ok (.bipush (-2), 2) := by decide +kernel
theorem dX10_play_9 : decode cX10_play 9 = .ok (.ireturn, 1) := by decide +kernel
theorem dX10_play_10 : decode cX10_play 10 = .ok (.aload_n 0, 1) := by decide +kernel
theorem dX10_play_11 : decode cX10_play 11 = .ok (.invokevirtual 64, 3) := by decide +kernel
theorem dX10_play_14 : decode cX10_play 14 = .ok (.aload_n 0, 1) := by decide +kernel
theorem dX10_play_15 : decode cX10_play 15 = .ok (.invokevirtual 224, 3) := by decide +kernel
theorem dX10_play_18 : decode cX10_play 18 = .ok (.istore_n 1, 1) := by decide +kernel
theorem dX10_play_19 : decode cX10_play 19 = .ok (.aload_n 0, 1) := by decide +kernel
theorem dX10_play_20 : decode cX10_play 20 = .ok (.iload_n 1, 1) := by decide +kernel
theorem dX10_play_21 : decode cX10_play 21 = .ok (.ifCond .ne 10, 3) := by decide +kernel
theorem dX10_play_24 : decode cX10_play 24 = .ok (.aload_n 0, 1) := by decide +kernel
theorem dX10_play_25 : decode cX10_play 25 = .ok (.getfield 209, 3) := by decide +kernel
theorem dX10_play_28 : decode cX10_play 28 = .ok (.goto 5, 3) := by decide +kernel
theorem dX10_play_31 : decode cX10_play 31 = .ok (.bipush (-2), 2) := by decide +kernel
theorem dX10_play_33 : decode cX10_play 33 = .ok (.invokevirtual 67, 3) := by decide +kernel
theorem dX10_play_36 : decode cX10_play 36 = .ok (.ireturn, 1) := by decide +kernel
