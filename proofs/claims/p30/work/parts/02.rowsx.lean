theorem dX0_init_0 : decode cX0_init 0 = .ok (.aload_n 0, 1) := by decide +kernel
theorem dX0_init_1 : decode cX0_init 1 = .ok (.invokespecial 3, 3) := by decide +kernel
theorem dX0_init_4 : decode cX0_init 4 = .ok (.aload_n 0, 1) := by decide +kernel
theorem dX0_init_5 : decode cX0_init 5 = .ok (.iconst 0, 1) := by decide +kernel
theorem dX0_init_6 : decode cX0_init 6 = .ok (.putfield 9, 3) := by decide +kernel
theorem dX0_init_9 : decode cX0_init 9 = .ok (.aload_n 0, 1) := by decide +kernel
theorem dX0_init_10 : decode cX0_init 10 = .ok (.iconst 3, 1) := by decide +kernel
theorem dX0_init_11 : decode cX0_init 11 = .ok (.newarray .int, 2) := by decide +kernel
theorem dX0_init_13 : decode cX0_init 13 = .ok (.putfield 15, 3) := by decide +kernel
theorem dX0_init_16 : decode cX0_init 16 = .ok (.aload_n 0, 1) := by decide +kernel
theorem dX0_init_17 : decode cX0_init 17 = .ok (.iconst 3, 1) := by decide +kernel
theorem dX0_init_18 : decode cX0_init 18 = .ok (.newarray .int, 2) := by decide +kernel
theorem dX0_init_20 : decode cX0_init 20 = .ok (.putfield 19, 3) := by decide +kernel
theorem dX0_init_23 : decode cX0_init 23 = .ok (.aload_n 0, 1) := by decide +kernel
theorem dX0_init_24 : decode cX0_init 24 = .ok (.iconst 3, 1) := by decide +kernel
theorem dX0_init_25 : decode cX0_init 25 = .ok (.newarray .int, 2) := by decide +kernel
theorem dX0_init_27 : decode cX0_init 27 = .ok (.putfield 22, 3) := by decide +kernel
theorem dX0_init_30 : decode cX0_init 30 = .ok (.aload_n 0, 1) := by decide +kernel
theorem dX0_init_31 : decode cX0_init 31 = .ok (.iconst 3, 1) := by decide +kernel
theorem dX0_init_32 : decode cX0_init 32 = .ok (.newarray .int, 2) := by decide +kernel
theorem dX0_init_34 : decode cX0_init 34 = .ok (.putfield 25, 3) := by decide +kernel
theorem dX0_init_37 : decode cX0_init 37 = .ok (.aload_n 0, 1) := by decide +kernel
theorem dX0_init_38 : decode cX0_init 38 = .ok (.iconst 3, 1) := by decide +kernel
theorem dX0_init_39 : decode cX0_init 39 = .ok (.newarray .int, 2) := by decide +kernel
theorem dX0_init_41 : decode cX0_init 41 = .ok (.putfield 28, 3) := by decide +kernel
theorem dX0_init_44 : decode cX0_init 44 = .ok (.aload_n 0, 1) := by decide +kernel
theorem dX0_init_45 : decode cX0_init 45 = .ok (.iconst 3, 1) := by decide +kernel
theorem dX0_init_46 : decode cX0_init 46 = .ok (.newarray .int, 2) := by decide +kernel
theorem dX0_init_48 : decode cX0_init 48 = .ok (.putfield 31, 3) := by decide +kernel
theorem dX0_init_51 : decode cX0_init 51 = .ok (.aload_n 0, 1) := by decide +kernel
theorem dX0_init_52 : decode cX0_init 52 = .ok (.iconst 3, 1) := by decide +kernel
theorem dX0_init_53 : decode cX0_init 53 = .ok (.newarray .int, 2) := by decide +kernel
theorem dX0_init_55 : decode cX0_init 55 = .ok (.putfield 34, 3) := by decide +kernel
theorem dX0_init_58 : decode cX0_init 58 = .ok (.return_, 1) := by decide +kernel
theorem dX0_copyFrom_0 : decode cX0_copyFrom 0 = .ok (.aload_n 0, 1) := by decide +kernel
theorem dX0_copyFrom_1 : decode cX0_copyFrom 1 = .ok (.aload_n 1, 1) := by decide +kernel
theorem dX0_copyFrom_2 : decode cX0_copyFrom 2 = .ok (.getfield 9, 3) := by decide +kernel
theorem dX0_copyFrom_5 : decode cX0_copyFrom 5 = .ok (.putfield 9, 3) := by decide +kernel
theorem dX0_copyFrom_8 : decode cX0_copyFrom 8 = .ok (.aload_n 1, 1) := by decide +kernel
theorem dX0_copyFrom_9 : decode cX0_copyFrom 9 = .ok (.getfield 15, 3) := by decide +kernel
theorem dX0_copyFrom_12 : decode cX0_copyFrom 12 = .ok (.aload_n 0, 1) := by decide +kernel
theorem dX0_copyFrom_13 : decode cX0_copyFrom 13 = .ok (.getfield 15, 3) := by decide +kernel
theorem dX0_copyFrom_16 : decode cX0_copyFrom 16 = .ok (.aload_n 0, 1) := by decide +kernel
theorem dX0_copyFrom_17 : decode cX0_copyFrom 17 = .ok (.getfield 9, 3) := by decide +kernel
theorem dX0_copyFrom_20 : decode cX0_copyFrom 20 = .ok (.invokestatic 37, 3) := by decide +kernel
theorem dX0_copyFrom_23 : decode cX0_copyFrom 23 = .ok (.aload_n 1, 1) := by decide +kernel
theorem dX0_copyFrom_24 : decode cX0_copyFrom 24 = .ok (.getfield 19, 3) := by decide +kernel
theorem dX0_copyFrom_27 : decode cX0_copyFrom 27 = .ok (.aload_n 0, 1) := by decide +kernel
theorem dX0_copyFrom_28 : decode cX0_copyFrom 28 = .ok (.getfield 19, 3) := by decide +kernel
theorem dX0_copyFrom_31 : decode cX0_copyFrom 31 = .ok (.aload_n 0, 1) := by decide +kernel
theorem dX0_copyFrom_32 : decode cX0_copyFrom 32 = .ok (.getfield 9, 3) := by decide +kernel
theorem dX0_copyFrom_35 : decode cX0_copyFrom 35 = .ok (.invokestatic 37, 3) := by decide +kernel
theorem dX0_copyFrom_38 : decode cX0_copyFrom 38 = .ok (.aload_n 1, 1) := by decide +kernel
theorem dX0_copyFrom_39 : decode cX0_copyFrom 39 = .ok (.getfield 22, 3) := by decide +kernel
theorem dX0_copyFrom_42 : decode cX0_copyFrom 42 = .ok (.aload_n 0, 1) := by decide +kernel
theorem dX0_copyFrom_43 : decode cX0_copyFrom 43 = .ok (.getfield 22, 3) := by decide +kernel
theorem dX0_copyFrom_46 : decode cX0_copyFrom 46 = .ok (.aload_n 0, 1) := by decide +kernel
theorem dX0_copyFrom_47 : decode cX0_copyFrom 47 = .ok (.getfield 9, 3) := by decide +kernel
theorem dX0_copyFrom_50 : decode cX0_copyFrom 50 = .ok (.invokestatic 37, 3) := by decide +kernel
theorem dX0_copyFrom_53 : decode cX0_copyFrom 53 = .ok (.aload_n 1, 1) := by decide +kernel
theorem dX0_copyFrom_54 : decode cX0_copyFrom 54 = .ok (.getfield 25, 3) := by decide +kernel
theorem dX0_copyFrom_57 : decode cX0_copyFrom 57 = .ok (.aload_n 0, 1) := by decide +kernel
theorem dX0_copyFrom_58 : decode cX0_copyFrom 58 = .ok (.getfield 25, 3) := by decide +kernel
theorem dX0_copyFrom_61 : decode cX0_copyFrom 61 = .ok (.aload_n 0, 1) := by decide +kernel
theorem dX0_copyFrom_62 : decode cX0_copyFrom 62 = .ok (.getfield 9, 3) := by decide +kernel
theorem dX0_copyFrom_65 : decode cX0_copyFrom 65 = .ok (.invokestatic 37, 3) := by decide +kernel
theorem dX0_copyFrom_68 : decode cX0_copyFrom 68 = .ok (.aload_n 1, 1) := by decide +kernel
theorem dX0_copyFrom_69 : decode cX0_copyFrom 69 = .ok (.getfield 28, 3) := by decide +kernel
theorem dX0_copyFrom_72 : decode cX0_copyFrom 72 = .ok (.aload_n 0, 1) := by decide +kernel
theorem dX0_copyFrom_73 : decode cX0_copyFrom 73 = .ok (.getfield 28, 3) := by decide +kernel
theorem dX0_copyFrom_76 : decode cX0_copyFrom 76 = .ok (.aload_n 0, 1) := by decide +kernel
theorem dX0_copyFrom_77 : decode cX0_copyFrom 77 = .ok (.getfield 9, 3) := by decide +kernel
theorem dX0_copyFrom_80 : decode cX0_copyFrom 80 = .ok (.invokestatic 37, 3) := by decide +kernel
theorem dX0_copyFrom_83 : decode cX0_copyFrom 83 = .ok (.aload_n 1, 1) := by decide +kernel
theorem dX0_copyFrom_84 : decode cX0_copyFrom 84 = .ok (.getfield 31, 3) := by decide +kernel
theorem dX0_copyFrom_87 : decode cX0_copyFrom 87 = .ok (.aload_n 0, 1) := by decide +kernel
theorem dX0_copyFrom_88 : decode cX0_copyFrom 88 = .ok (.getfield 31, 3) := by decide +kernel
theorem dX0_copyFrom_91 : decode cX0_copyFrom 91 = .ok (.aload_n 0, 1) := by decide +kernel
theorem dX0_copyFrom_92 : decode cX0_copyFrom 92 = .ok (.getfield 9, 3) := by decide +kernel
theorem dX0_copyFrom_95 : decode cX0_copyFrom 95 = .ok (.invokestatic 37, 3) := by decide +kernel
theorem dX0_copyFrom_98 : decode cX0_copyFrom 98 = .ok (.aload_n 1, 1) := by decide +kernel
theorem dX0_copyFrom_99 : decode cX0_copyFrom 99 = .ok (.getfield 34, 3) := by decide +kernel
theorem dX0_copyFrom_102 : decode cX0_copyFrom 102 = .ok (.aload_n 0, 1) := by decide +kernel
theorem dX0_copyFrom_103 : decode cX0_copyFrom 103 = .ok (.getfield 34, 3) := by decide +kernel
theorem dX0_copyFrom_106 : decode cX0_copyFrom 106 = .ok (.aload_n 0, 1) := by decide +kernel
theorem dX0_copyFrom_107 : decode cX0_copyFrom 107 = .ok (.getfield 9, 3) := by decide +kernel
theorem dX0_copyFrom_110 : decode cX0_copyFrom 110 = .ok (.invokestatic 37, 3) := by decide +kernel
theorem dX0_copyFrom_113 : decode cX0_copyFrom 113 = .ok (.return_, 1) := by decide +kernel
theorem dX0_has_0 : decode cX0_has 0 = .ok (.iload_n 1, 1) := by decide +kernel
theorem dX0_has_1 : decode cX0_has 1 = .ok (.iconst 0, 1) := by decide +kernel
theorem dX0_has_2 : decode cX0_has 2 = .ok (.aload_n 0, 1) := by decide +kernel
theorem dX0_has_3 : decode cX0_has 3 = .ok (.getfield 9, 3) := by decide +kernel
theorem dX0_has_6 : decode cX0_has 6 = .ok (.iconst 1, 1) := by decide +kernel
theorem dX0_has_7 : decode cX0_has 7 = .ok (.isub, 1) := by decide +kernel
theorem dX0_has_8 : decode cX0_has 8 = .ok (.invokestatic 41, 3) := by decide +kernel
theorem dX0_has_11 : decode cX0_has 11 = .ok (.ireturn, 1) := by decide +kernel
theorem dX0_add_0 : decode cX0_add 0 = .ok (.aload_n 0, 1) := by decide +kernel
theorem dX0_add_1 : decode cX0_add 1 = .ok (.getfield 9, 3) := by decide +kernel
theorem dX0_add_4 : decode cX0_add 4 = .ok (.istore_n 3, 1) := by decide +kernel
theorem dX0_add_5 : decode cX0_add 5 = .ok (.aload_n 0, 1) := by decide +kernel
theorem dX0_add_6 : decode cX0_add 6 = .ok (.getfield 15, 3) := by decide +kernel
theorem dX0_add_9 : decode cX0_add 9 = .ok (.iload_n 3, 1) := by decide +kernel
theorem dX0_add_10 : decode cX0_add 10 = .ok (.iload_n 1, 1) := by decide +kernel
theorem dX0_add_11 : decode cX0_add 11 = .ok (.iastore, 1) := by decide +kernel
theorem dX0_add_12 : decode cX0_add 12 = .ok (.aload_n 0, 1) := by decide +kernel
theorem dX0_add_13 : decode cX0_add 13 = .ok (.getfield 19, 3) := by decide +kernel
theorem dX0_add_16 : decode cX0_add 16 = .ok (.iload_n 3, 1) := by decide +kernel
theorem dX0_add_17 : decode cX0_add 17 = .ok (.iload_n 2, 1) := by decide +kernel
theorem dX0_add_18 : decode cX0_add 18 = .ok (.iastore, 1) := by decide +kernel
theorem dX0_add_19 : decode cX0_add 19 = .ok (.aload_n 0, 1) := by decide +kernel
theorem dX0_add_20 : decode cX0_add 20 = .ok (.getfield 22, 3) := by decide +kernel
theorem dX0_add_23 : decode cX0_add 23 = .ok (.iload_n 3, 1) := by decide +kernel
theorem dX0_add_24 : decode cX0_add 24 = .ok (.iconst 0, 1) := by decide +kernel
theorem dX0_add_25 : decode cX0_add 25 = .ok (.iastore, 1) := by decide +kernel
theorem dX0_add_26 : decode cX0_add 26 = .ok (.aload_n 0, 1) := by decide +kernel
theorem dX0_add_27 : decode cX0_add 27 = .ok (.getfield 25, 3) := by decide +kernel
theorem dX0_add_30 : decode cX0_add 30 = .ok (.iload_n 3, 1) := by decide +kernel
theorem dX0_add_31 : decode cX0_add 31 = .ok (.iconst 0, 1) := by decide +kernel
theorem dX0_add_32 : decode cX0_add 32 = .ok (.iastore, 1) := by decide +kernel
theorem dX0_add_33 : decode cX0_add 33 = .ok (.aload_n 0, 1) := by decide +kernel
theorem dX0_add_34 : decode cX0_add 34 = .ok (.getfield 28, 3) := by decide +kernel
theorem dX0_add_37 : decode cX0_add 37 = .ok (.iload_n 3, 1) := by decide +kernel
theorem dX0_add_38 : decode cX0_add 38 = .ok (.iconst 0, 1) := by decide +kernel
theorem dX0_add_39 : decode cX0_add 39 = .ok (.iastore, 1) := by decide +kernel
theorem dX0_add_40 : decode cX0_add 40 = .ok (.aload_n 0, 1) := by decide +kernel
theorem dX0_add_41 : decode cX0_add 41 = .ok (.getfield 31, 3) := by decide +kernel
theorem dX0_add_44 : decode cX0_add 44 = .ok (.iload_n 3, 1) := by decide +kernel
theorem dX0_add_45 : decode cX0_add 45 = .ok (.iconst 0, 1) := by decide +kernel
theorem dX0_add_46 : decode cX0_add 46 = .ok (.iastore, 1) := by decide +kernel
theorem dX0_add_47 : decode cX0_add 47 = .ok (.aload_n 0, 1) := by decide +kernel
theorem dX0_add_48 : decode cX0_add 48 = .ok (.getfield 34, 3) := by decide +kernel
theorem dX0_add_51 : decode cX0_add 51 = .ok (.iload_n 3, 1) := by decide +kernel
theorem dX0_add_52 : decode cX0_add 52 = .ok (.iconst 0, 1) := by decide +kernel
theorem dX0_add_53 : decode cX0_add 53 = .ok (.iastore, 1) := by decide +kernel
theorem dX0_add_54 : decode cX0_add 54 = .ok (.aload_n 0, 1) := by decide +kernel
theorem dX0_add_55 : decode cX0_add 55 = .ok (.dup, 1) := by decide +kernel
theorem dX0_add_56 : decode cX0_add 56 = .ok (.getfield 9, 3) := by decide +kernel
theorem dX0_add_59 : decode cX0_add 59 = .ok (.iconst 1, 1) := by decide +kernel
theorem dX0_add_60 : decode cX0_add 60 = .ok (.iadd, 1) := by decide +kernel
theorem dX0_add_61 : decode cX0_add 61 = .ok (.putfield 9, 3) := by decide +kernel
theorem dX0_add_64 : decode cX0_add 64 = .ok (.iload_n 3, 1) := by decide +kernel
theorem dX0_add_65 : decode cX0_add 65 = .ok (.ireturn, 1) := by decide +kernel
theorem dX0_allTips_0 : decode cX0_allTips 0 = .ok (.iconst 0, 1) := by decide +kernel
theorem dX0_allTips_1 : decode cX0_allTips 1 = .ok (.istore_n 1, 1) := by decide +kernel
theorem dX0_allTips_2 : decode cX0_allTips 2 = .ok (.iconst 0, 1) := by decide +kernel
theorem dX0_allTips_3 : decode cX0_allTips 3 = .ok (.istore_n 2, 1) := by decide +kernel
theorem dX0_allTips_4 : decode cX0_allTips 4 = .ok (.iload_n 2, 1) := by decide +kernel
theorem dX0_allTips_5 : decode cX0_allTips 5 = .ok (.aload_n 0, 1) := by decide +kernel
theorem dX0_allTips_6 : decode cX0_allTips 6 = .ok (.getfield 9, 3) := by decide +kernel
theorem dX0_allTips_9 : decode cX0_allTips 9 = .ok (.if_icmp .ge 18, 3) := by decide +kernel
theorem dX0_allTips_12 : decode cX0_allTips 12 = .ok (.iload_n 1, 1) := by decide +kernel
theorem dX0_allTips_13 : decode cX0_allTips 13 = .ok (.aload_n 0, 1) := by decide +kernel
theorem dX0_allTips_14 : decode cX0_allTips 14 = .ok (.getfield 31, 3) := by decide +kernel
theorem dX0_allTips_17 : decode cX0_allTips 17 = .ok (.iload_n 2, 1) := by decide +kernel
theorem dX0_allTips_18 : decode cX0_allTips 18 = .ok (.iaload, 1) := by decide +kernel
theorem dX0_allTips_19 : decode cX0_allTips 19 = .ok (.iadd, 1) := by decide +kernel
theorem dX0_allTips_20 : decode cX0_allTips 20 = .ok (.istore_n 1, 1) := by decide +kernel
theorem dX0_allTips_21 : decode cX0_allTips 21 = .ok (.iinc 2 1, 3) := by decide +kernel
theorem dX0_allTips_24 : decode cX0_allTips 24 = .ok (.goto (-20), 3) := by decide +kernel
theorem dX0_allTips_27 : decode cX0_allTips 27 = .ok (.iload_n 1, 1) := by decide +kernel
theorem dX0_allTips_28 : decode cX0_allTips 28 = .ok (.ireturn, 1) := by decide +kernel
theorem dX1_init_0 : decode cX1_init 0 = .ok (.aload_n 0, 1) := by decide +kernel
theorem dX1_init_1 : decode cX1_init 1 = .ok (.invokespecial 3, 3) := by decide +kernel
theorem dX1_init_4 : decode cX1_init 4 = .ok (.aload_n 0, 1) := by decide +kernel
theorem dX1_init_5 : decode cX1_init 5 = .ok (.iconst 0, 1) := by decide +kernel
theorem dX1_init_6 : decode cX1_init 6 = .ok (.putfield 9, 3) := by decide +kernel
theorem dX1_init_9 : decode cX1_init 9 = .ok (.aload_n 0, 1) := by decide +kernel
theorem dX1_init_10 : decode cX1_init 10 = .ok (.iconst 0, 1) := by decide +kernel
theorem dX1_init_11 : decode cX1_init 11 = .ok (.putfield 15, 3) := by decide +kernel
theorem dX1_init_14 : decode cX1_init 14 = .ok (.aload_n 0, 1) := by decide +kernel
theorem dX1_init_15 : decode cX1_init 15 = .ok (.iconst 5, 1) := by decide +kernel
theorem dX1_init_16 : decode cX1_init 16 = .ok (.anewarray 18, 3) := by decide +kernel
theorem dX1_init_19 : decode cX1_init 19 = .ok (.putfield 20, 3) := by decide +kernel
theorem dX1_init_22 : decode cX1_init 22 = .ok (.iconst 0, 1) := by decide +kernel
theorem dX1_init_23 : decode cX1_init 23 = .ok (.istore_n 1, 1) := by decide +kernel
theorem dX1_init_24 : decode cX1_init 24 = .ok (.iload_n 1, 1) := by decide +kernel
theorem dX1_init_25 : decode cX1_init 25 = .ok (.iconst 5, 1) := by decide +kernel
theorem dX1_init_26 : decode cX1_init 26 = .ok (.if_icmp .ge 22, 3) := by decide +kernel
theorem dX1_init_29 : decode cX1_init 29 = .ok (.aload_n 0, 1) := by decide +kernel
theorem dX1_init_30 : decode cX1_init 30 = .ok (.getfield 20, 3) := by decide +kernel
theorem dX1_init_33 : decode cX1_init 33 = .ok (.iload_n 1, 1) := by decide +kernel
theorem dX1_init_34 : decode cX1_init 34 = .ok (.new 18, 3) := by decide +kernel
theorem dX1_init_37 : decode cX1_init 37 = .ok (.dup, 1) := by decide +kernel
theorem dX1_init_38 : decode cX1_init 38 = .ok (.invokespecial 24, 3) := by decide +kernel
theorem dX1_init_41 : decode cX1_init 41 = .ok (.aastore, 1) := by decide +kernel
theorem dX1_init_42 : decode cX1_init 42 = .ok (.iinc 1 1, 3) := by decide +kernel
theorem dX1_init_45 : decode cX1_init 45 = .ok (.goto (-21), 3) := by decide +kernel
theorem dX1_init_48 : decode cX1_init 48 = .ok (.return_, 1) := by decide +kernel
theorem dX1_prepare_0 : decode cX1_prepare 0 = .ok (.aload_n 0, 1) := by decide +kernel
theorem dX1_prepare_1 : decode cX1_prepare 1 = .ok (.getfield 20, 3) := by decide +kernel
theorem dX1_prepare_4 : decode cX1_prepare 4 = .ok (.aload_n 0, 1) := by decide +kernel
theorem dX1_prepare_5 : decode cX1_prepare 5 = .ok (.getfield 15, 3) := by decide +kernel
theorem dX1_prepare_8 : decode cX1_prepare 8 = .ok (.aload_n 0, 1) := by decide +kernel
theorem dX1_prepare_9 : decode cX1_prepare 9 = .ok (.getfield 9, 3) := by decide +kernel
theorem dX1_prepare_12 : decode cX1_prepare 12 = .ok (.iadd, 1) := by decide +kernel
theorem dX1_prepare_13 : decode cX1_prepare 13 = .ok (.iconst 5, 1) := by decide +kernel
theorem dX1_prepare_14 : decode cX1_prepare 14 = .ok (.irem, 1) := by decide +kernel
theorem dX1_prepare_15 : decode cX1_prepare 15 = .ok (.aaload, 1) := by decide +kernel
theorem dX1_prepare_16 : decode cX1_prepare 16 = .ok (.aload_n 1, 1) := by decide +kernel
theorem dX1_prepare_17 : decode cX1_prepare 17 = .ok (.invokevirtual 25, 3) := by decide +kernel
theorem dX1_prepare_20 : decode cX1_prepare 20 = .ok (.return_, 1) := by decide +kernel
theorem dX1_keepPrepared_0 : decode cX1_keepPrepared 0 = .ok (.aload_n 0, 1) := by decide +kernel
theorem dX1_keepPrepared_1 : decode cX1_keepPrepared 1 = .ok (.getfield 9, 3) := by decide +kernel
theorem dX1_keepPrepared_4 : decode cX1_keepPrepared 4 = .ok (.iconst 4, 1) := by decide +kernel
theorem dX1_keepPrepared_5 : decode cX1_keepPrepared 5 = .ok (.if_icmp .ge 16, 3) := by decide +kernel
theorem dX1_keepPrepared_8 : decode cX1_keepPrepared 8 = .ok (.aload_n 0, 1) := by decide +kernel
theorem dX1_keepPrepared_9 : decode cX1_keepPrepared 9 = .ok (.dup, 1) := by decide +kernel
theorem dX1_keepPrepared_10 : decode cX1_keepPrepared 10 = .ok (.getfield 9, 3) := by decide +kernel
theorem dX1_keepPrepared_13 : decode cX1_keepPrepared 13 = .ok (.iconst 1, 1) := by decide +kernel
theorem dX1_keepPrepared_14 : decode cX1_keepPrepared 14 = .ok (.iadd, 1) := by decide +kernel
theorem dX1_keepPrepared_15 : decode cX1_keepPrepared 15 = .ok (.putfield 9, 3) := by decide +kernel
theorem dX1_keepPrepared_18 : decode cX1_keepPrepared 18 = .ok (.goto 15, 3) := by decide +kernel
theorem dX1_keepPrepared_21 : decode cX1_keepPrepared 21 = .ok (.aload_n 0, 1) := by decide +kernel
theorem dX1_keepPrepared_22 : decode cX1_keepPrepared 22 = .ok (.aload_n 0, 1) := by decide +kernel
theorem dX1_keepPrepared_23 : decode cX1_keepPrepared 23 = .ok (.getfield 15, 3) := by decide +kernel
theorem dX1_keepPrepared_26 : decode cX1_keepPrepared 26 = .ok (.iconst 1, 1) := by decide +kernel
theorem dX1_keepPrepared_27 : decode cX1_keepPrepared 27 = .ok (.iadd, 1) := by decide +kernel
theorem dX1_keepPrepared_28 : decode cX1_keepPrepared 28 = .ok (.iconst 5, 1) := by decide +kernel
theorem dX1_keepPrepared_29 : decode cX1_keepPrepared 29 = .ok (.irem, 1) := by decide +kernel
theorem dX1_keepPrepared_30 : decode cX1_keepPrepared 30 = .ok (.putfield 15, 3) := by decide +kernel
theorem dX1_keepPrepared_33 : decode cX1_keepPrepared 33 = .ok (.return_, 1) := by decide +kernel
theorem dX1_restoreInto_0 : decode cX1_restoreInto 0 = .ok (.aload_n 0, 1) := by decide +kernel
theorem dX1_restoreInto_1 : decode cX1_restoreInto 1 = .ok (.getfield 9, 3) := by decide +kernel
theorem dX1_restoreInto_4 : decode cX1_restoreInto 4 = .ok (.ifCond .le 33, 3) := by decide +kernel
theorem dX1_restoreInto_7 : decode cX1_restoreInto 7 = .ok (.aload_n 0, 1) := by decide +kernel
theorem dX1_restoreInto_8 : decode cX1_restoreInto 8 = .ok (.dup, 1) := by decide +kernel
theorem dX1_restoreInto_9 : decode cX1_restoreInto 9 = .ok (.getfield 9, 3) := by decide +kernel
theorem dX1_restoreInto_12 : decode cX1_restoreInto 12 = .ok (.iconst 1, 1) := by decide +kernel
theorem dX1_restoreInto_13 : decode cX1_restoreInto 13 = .ok (.isub, 1) := by decide +kernel
theorem dX1_restoreInto_14 : decode cX1_restoreInto 14 = .ok (.putfield 9, 3) := by decide +kernel
theorem dX1_restoreInto_17 : decode cX1_restoreInto 17 = .ok (.aload_n 1, 1) := by decide +kernel
theorem dX1_restoreInto_18 : decode cX1_restoreInto 18 = .ok (.aload_n 0, 1) := by decide +kernel
theorem dX1_restoreInto_19 : decode cX1_restoreInto 19 = .ok (.getfield 20, 3) := by decide +kernel
theorem dX1_restoreInto_22 : decode cX1_restoreInto 22 = .ok (.aload_n 0, 1) := by decide +kernel
theorem dX1_restoreInto_23 : decode cX1_restoreInto 23 = .ok (.getfield 15, 3) := by decide +kernel
theorem dX1_restoreInto_26 : decode cX1_restoreInto 26 = .ok (.aload_n 0, 1) := by decide +kernel
theorem dX1_restoreInto_27 : decode cX1_restoreInto 27 = .ok (.getfield 9, 3) := by decide +kernel
theorem dX1_restoreInto_30 : decode cX1_restoreInto 30 = .ok (.iadd, 1) := by decide +kernel
theorem dX1_restoreInto_31 : decode cX1_restoreInto 31 = .ok (.iconst 5, 1) := by decide +kernel
theorem dX1_restoreInto_32 : decode cX1_restoreInto 32 = .ok (.irem, 1) := by decide +kernel
theorem dX1_restoreInto_33 : decode cX1_restoreInto 33 = .ok (.aaload, 1) := by decide +kernel
theorem dX1_restoreInto_34 : decode cX1_restoreInto 34 = .ok (.invokevirtual 25, 3) := by decide +kernel
theorem dX1_restoreInto_37 : decode cX1_restoreInto 37 = .ok (.return_, 1) := by decide +kernel
theorem dX2_init_0 : decode cX2_init 0 = .ok (.aload_n 0, 1) := by decide +kernel
theorem dX2_init_1 : decode cX2_init 1 = .ok (.invokespecial 3, 3) := by decide +kernel
theorem dX2_init_4 : decode cX2_init 4 = .ok (.aload_n 0, 1) := by decide +kernel
theorem dX2_init_5 : decode cX2_init 5 = .ok (.iconst 0, 1) := by decide +kernel
theorem dX2_init_6 : decode cX2_init 6 = .ok (.putfield 9, 3) := by decide +kernel
theorem dX2_init_9 : decode cX2_init 9 = .ok (.aload_n 0, 1) := by decide +kernel
theorem dX2_init_10 : decode cX2_init 10 = .ok (.bipush 24, 2) := by decide +kernel
theorem dX2_init_12 : decode cX2_init 12 = .ok (.newarray .int, 2) := by decide +kernel
theorem dX2_init_14 : decode cX2_init 14 = .ok (.putfield 15, 3) := by decide +kernel
theorem dX2_init_17 : decode cX2_init 17 = .ok (.aload_n 0, 1) := by decide +kernel
theorem dX2_init_18 : decode cX2_init 18 = .ok (.bipush 24, 2) := by decide +kernel
theorem dX2_init_20 : decode cX2_init 20 = .ok (.newarray .int, 2) := by decide +kernel
theorem dX2_init_22 : decode cX2_init 22 = .ok (.putfield 19, 3) := by decide +kernel
theorem dX2_init_25 : decode cX2_init 25 = .ok (.aload_n 0, 1) := by decide +kernel
theorem dX2_init_26 : decode cX2_init 26 = .ok (.bipush 24, 2) := by decide +kernel
theorem dX2_init_28 : decode cX2_init 28 = .ok (.newarray .int, 2) := by decide +kernel
theorem dX2_init_30 : decode cX2_init 30 = .ok (.putfield 22, 3) := by decide +kernel
theorem dX2_init_33 : decode cX2_init 33 = .ok (.aload_n 0, 1) := by decide +kernel
theorem dX2_init_34 : decode cX2_init 34 = .ok (.bipush 24, 2) := by decide +kernel
theorem dX2_init_36 : decode cX2_init 36 = .ok (.newarray .int, 2) := by decide +kernel
theorem dX2_init_38 : decode cX2_init 38 = .ok (.putfield 25, 3) := by decide +kernel
theorem dX2_init_41 : decode cX2_init 41 = .ok (.aload_n 0, 1) := by decide +kernel
theorem dX2_init_42 : decode cX2_init 42 = .ok (.bipush 24, 2) := by decide +kernel
theorem dX2_init_44 : decode cX2_init 44 = .ok (.newarray .int, 2) := by decide +kernel
theorem dX2_init_46 : decode cX2_init 46 = .ok (.putfield 28, 3) := by decide +kernel
theorem dX2_init_49 : decode cX2_init 49 = .ok (.aload_n 0, 1) := by decide +kernel
theorem dX2_init_50 : decode cX2_init 50 = .ok (.bipush 24, 2) := by decide +kernel
theorem dX2_init_52 : decode cX2_init 52 = .ok (.newarray .int, 2) := by decide +kernel
theorem dX2_init_54 : decode cX2_init 54 = .ok (.putfield 31, 3) := by decide +kernel
theorem dX2_init_57 : decode cX2_init 57 = .ok (.aload_n 0, 1) := by decide +kernel
theorem dX2_init_58 : decode cX2_init 58 = .ok (.bipush 24, 2) := by decide +kernel
theorem dX2_init_60 : decode cX2_init 60 = .ok (.newarray .int, 2) := by decide +kernel
theorem dX2_init_62 : decode cX2_init 62 = .ok (.putfield 34, 3) := by decide +kernel
theorem dX2_init_65 : decode cX2_init 65 = .ok (.aload_n 0, 1) := by decide +kernel
theorem dX2_init_66 : decode cX2_init 66 = .ok (.bipush 24, 2) := by decide +kernel
theorem dX2_init_68 : decode cX2_init 68 = .ok (.newarray .int, 2) := by decide +kernel
theorem dX2_init_70 : decode cX2_init 70 = .ok (.putfield 37, 3) := by decide +kernel
theorem dX2_init_73 : decode cX2_init 73 = .ok (.aload_n 0, 1) := by decide +kernel
theorem dX2_init_74 : decode cX2_init 74 = .ok (.bipush 24, 2) := by decide +kernel
theorem dX2_init_76 : decode cX2_init 76 = .ok (.newarray .int, 2) := by decide +kernel
theorem dX2_init_78 : decode cX2_init 78 = .ok (.putfield 40, 3) := by decide +kernel
theorem dX2_init_81 : decode cX2_init 81 = .ok (.aload_n 0, 1) := by decide +kernel
theorem dX2_init_82 : decode cX2_init 82 = .ok (.bipush 24, 2) := by decide +kernel
theorem dX2_init_84 : decode cX2_init 84 = .ok (.newarray .int, 2) := by decide +kernel
theorem dX2_init_86 : decode cX2_init 86 = .ok (.putfield 43, 3) := by decide +kernel
theorem dX2_init_89 : decode cX2_init 89 = .ok (.aload_n 0, 1) := by decide +kernel
theorem dX2_init_90 : decode cX2_init 90 = .ok (.bipush 24, 2) := by decide +kernel
theorem dX2_init_92 : decode cX2_init 92 = .ok (.newarray .int, 2) := by decide +kernel
theorem dX2_init_94 : decode cX2_init 94 = .ok (.putfield 46, 3) := by decide +kernel
theorem dX2_init_97 : decode cX2_init 97 = .ok (.aload_n 0, 1) := by decide +kernel
theorem dX2_init_98 : decode cX2_init 98 = .ok (.bipush 24, 2) := by decide +kernel
theorem dX2_init_100 : decode cX2_init 100 = .ok (.newarray .int, 2) := by decide +kernel
theorem dX2_init_102 : decode cX2_init 102 = .ok (.putfield 49, 3) := by decide +kernel
theorem dX2_init_105 : decode cX2_init 105 = .ok (.aload_n 0, 1) := by decide +kernel
theorem dX2_init_106 : decode cX2_init 106 = .ok (.bipush 24, 2) := by decide +kernel
theorem dX2_init_108 : decode cX2_init 108 = .ok (.newarray .int, 2) := by decide +kernel
theorem dX2_init_110 : decode cX2_init 110 = .ok (.putfield 52, 3) := by decide +kernel
theorem dX2_init_113 : decode cX2_init 113 = .ok (.aload_n 0, 1) := by decide +kernel
theorem dX2_init_114 : decode cX2_init 114 = .ok (.bipush 24, 2) := by decide +kernel
theorem dX2_init_116 : decode cX2_init 116 = .ok (.newarray .int, 2) := by decide +kernel
theorem dX2_init_118 : decode cX2_init 118 = .ok (.putfield 55, 3) := by decide +kernel
theorem dX2_init_121 : decode cX2_init 121 = .ok (.return_, 1) := by decide +kernel
theorem dX2_copyFrom_0 : decode cX2_copyFrom 0 = .ok (.aload_n 0, 1) := by decide +kernel
theorem dX2_copyFrom_1 : decode cX2_copyFrom 1 = .ok (.aload_n 1, 1) := by decide +kernel
theorem dX2_copyFrom_2 : decode cX2_copyFrom 2 = .ok (.getfield 9, 3) := by decide +kernel
theorem dX2_copyFrom_5 : decode cX2_copyFrom 5 = .ok (.putfield 9, 3) := by decide +kernel
theorem dX2_copyFrom_8 : decode cX2_copyFrom 8 = .ok (.aload_n 1, 1) := by decide +kernel
theorem dX2_copyFrom_9 : decode cX2_copyFrom 9 = .ok (.getfield 15, 3) := by decide +kernel
theorem dX2_copyFrom_12 : decode cX2_copyFrom 12 = .ok (.aload_n 0, 1) := by decide +kernel
theorem dX2_copyFrom_13 : decode cX2_copyFrom 13 = .ok (.getfield 15, 3) := by decide +kernel
theorem dX2_copyFrom_16 : decode cX2_copyFrom 16 = .ok (.aload_n 0, 1) := by decide +kernel
theorem dX2_copyFrom_17 : decode cX2_copyFrom 17 = .ok (.getfield 9, 3) := by decide +kernel
theorem dX2_copyFrom_20 : decode cX2_copyFrom 20 = .ok (.invokestatic 58, 3) := by decide +kernel
theorem dX2_copyFrom_23 : decode cX2_copyFrom 23 = .ok (.aload_n 1, 1) := by decide +kernel
theorem dX2_copyFrom_24 : decode cX2_copyFrom 24 = .ok (.getfield 19, 3) := by decide +kernel
theorem dX2_copyFrom_27 : decode cX2_copyFrom 27 = .ok (.aload_n 0, 1) := by decide +kernel
theorem dX2_copyFrom_28 : decode cX2_copyFrom 28 = .ok (.getfield 19, 3) := by decide +kernel
theorem dX2_copyFrom_31 : decode cX2_copyFrom 31 = .ok (.aload_n 0, 1) := by decide +kernel
theorem dX2_copyFrom_32 : decode cX2_copyFrom 32 = .ok (.getfield 9, 3) := by decide +kernel
theorem dX2_copyFrom_35 : decode cX2_copyFrom 35 = .ok (.invokestatic 58, 3) := by decide +kernel
theorem dX2_copyFrom_38 : decode cX2_copyFrom 38 = .ok (.aload_n 1, 1) := by decide +kernel
theorem dX2_copyFrom_39 : decode cX2_copyFrom 39 = .ok (.getfield 22, 3) := by decide +kernel
theorem dX2_copyFrom_42 : decode cX2_copyFrom 42 = .ok (.aload_n 0, 1) := by decide +kernel
theorem dX2_copyFrom_43 : decode cX2_copyFrom 43 = .ok (.getfield 22, 3) := by decide +kernel
theorem dX2_copyFrom_46 : decode cX2_copyFrom 46 = .ok (.aload_n 0, 1) := by decide +kernel
theorem dX2_copyFrom_47 : decode cX2_copyFrom 47 = .ok (.getfield 9, 3) := by decide +kernel
theorem dX2_copyFrom_50 : decode cX2_copyFrom 50 = .ok (.invokestatic 58, 3) := by decide +kernel
theorem dX2_copyFrom_53 : decode cX2_copyFrom 53 = .ok (.aload_n 1, 1) := by decide +kernel
theorem dX2_copyFrom_54 : decode cX2_copyFrom 54 = .ok (.getfield 25, 3) := by decide +kernel
theorem dX2_copyFrom_57 : decode cX2_copyFrom 57 = .ok (.aload_n 0, 1) := by decide +kernel
theorem dX2_copyFrom_58 : decode cX2_copyFrom 58 = .ok (.getfield 25, 3) := by decide +kernel
theorem dX2_copyFrom_61 : decode cX2_copyFrom 61 = .ok (.aload_n 0, 1) := by decide +kernel
theorem dX2_copyFrom_62 : decode cX2_copyFrom 62 = .ok (.getfield 9, 3) := by decide +kernel
theorem dX2_copyFrom_65 : decode cX2_copyFrom 65 = .ok (.invokestatic 58, 3) := by decide +kernel
theorem dX2_copyFrom_68 : decode cX2_copyFrom 68 = .ok (.aload_n 1, 1) := by decide +kernel
theorem dX2_copyFrom_69 : decode cX2_copyFrom 69 = .ok (.getfield 28, 3) := by decide +kernel
theorem dX2_copyFrom_72 : decode cX2_copyFrom 72 = .ok (.aload_n 0, 1) := by decide +kernel
theorem dX2_copyFrom_73 : decode cX2_copyFrom 73 = .ok (.getfield 28, 3) := by decide +kernel
theorem dX2_copyFrom_76 : decode cX2_copyFrom 76 = .ok (.aload_n 0, 1) := by decide +kernel
theorem dX2_copyFrom_77 : decode cX2_copyFrom 77 = .ok (.getfield 9, 3) := by decide +kernel
theorem dX2_copyFrom_80 : decode cX2_copyFrom 80 = .ok (.invokestatic 58, 3) := by decide +kernel
theorem dX2_copyFrom_83 : decode cX2_copyFrom 83 = .ok (.aload_n 1, 1) := by decide +kernel
theorem dX2_copyFrom_84 : decode cX2_copyFrom 84 = .ok (.getfield 31, 3) := by decide +kernel
theorem dX2_copyFrom_87 : decode cX2_copyFrom 87 = .ok (.aload_n 0, 1) := by decide +kernel
theorem dX2_copyFrom_88 : decode cX2_copyFrom 88 = .ok (.getfield 31, 3) := by decide +kernel
theorem dX2_copyFrom_91 : decode cX2_copyFrom 91 = .ok (.aload_n 0, 1) := by decide +kernel
theorem dX2_copyFrom_92 : decode cX2_copyFrom 92 = .ok (.getfield 9, 3) := by decide +kernel
theorem dX2_copyFrom_95 : decode cX2_copyFrom 95 = .ok (.invokestatic 58, 3) := by decide +kernel
theorem dX2_copyFrom_98 : decode cX2_copyFrom 98 = .ok (.aload_n 1, 1) := by decide +kernel
theorem dX2_copyFrom_99 : decode cX2_copyFrom 99 = .ok (.getfield 34, 3) := by decide +kernel
theorem dX2_copyFrom_102 : decode cX2_copyFrom 102 = .ok (.aload_n 0, 1) := by decide +kernel
theorem dX2_copyFrom_103 : decode cX2_copyFrom 103 = .ok (.getfield 34, 3) := by decide +kernel
theorem dX2_copyFrom_106 : decode cX2_copyFrom 106 = .ok (.aload_n 0, 1) := by decide +kernel
theorem dX2_copyFrom_107 : decode cX2_copyFrom 107 = .ok (.getfield 9, 3) := by decide +kernel
theorem dX2_copyFrom_110 : decode cX2_copyFrom 110 = .ok (.invokestatic 58, 3) := by decide +kernel
theorem dX2_copyFrom_113 : decode cX2_copyFrom 113 = .ok (.aload_n 1, 1) := by decide +kernel
theorem dX2_copyFrom_114 : decode cX2_copyFrom 114 = .ok (.getfield 37, 3) := by decide +kernel
theorem dX2_copyFrom_117 : decode cX2_copyFrom 117 = .ok (.aload_n 0, 1) := by decide +kernel
theorem dX2_copyFrom_118 : decode cX2_copyFrom 118 = .ok (.getfield 37, 3) := by decide +kernel
theorem dX2_copyFrom_121 : decode cX2_copyFrom 121 = .ok (.aload_n 0, 1) := by decide +kernel
theorem dX2_copyFrom_122 : decode cX2_copyFrom 122 = .ok (.getfield 9, 3) := by decide +kernel
theorem dX2_copyFrom_125 : decode cX2_copyFrom 125 = .ok (.invokestatic 58, 3) := by decide +kernel
theorem dX2_copyFrom_128 : decode cX2_copyFrom 128 = .ok (.aload_n 1, 1) := by decide +kernel
theorem dX2_copyFrom_129 : decode cX2_copyFrom 129 = .ok (.getfield 40, 3) := by decide +kernel
theorem dX2_copyFrom_132 : decode cX2_copyFrom 132 = .ok (.aload_n 0, 1) := by decide +kernel
theorem dX2_copyFrom_133 : decode cX2_copyFrom 133 = .ok (.getfield 40, 3) := by decide +kernel
theorem dX2_copyFrom_136 : decode cX2_copyFrom 136 = .ok (.aload_n 0, 1) := by decide +kernel
theorem dX2_copyFrom_137 : decode cX2_copyFrom 137 = .ok (.getfield 9, 3) := by decide +kernel
theorem dX2_copyFrom_140 : decode cX2_copyFrom 140 = .ok (.invokestatic 58, 3) := by decide +kernel
theorem dX2_copyFrom_143 : decode cX2_copyFrom 143 = .ok (.aload_n 1, 1) := by decide +kernel
theorem dX2_copyFrom_144 : decode cX2_copyFrom 144 = .ok (.getfield 43, 3) := by decide +kernel
theorem dX2_copyFrom_147 : decode cX2_copyFrom 147 = .ok (.aload_n 0, 1) := by decide +kernel
theorem dX2_copyFrom_148 : decode cX2_copyFrom 148 = .ok (.getfield 43, 3) := by decide +kernel
theorem dX2_copyFrom_151 : decode cX2_copyFrom 151 = .ok (.aload_n 0, 1) := by decide +kernel
theorem dX2_copyFrom_152 : decode cX2_copyFrom 152 = .ok (.getfield 9, 3) := by decide +kernel
theorem dX2_copyFrom_155 : decode cX2_copyFrom 155 = .ok (.invokestatic 58, 3) := by decide +kernel
theorem dX2_copyFrom_158 : decode cX2_copyFrom 158 = .ok (.aload_n 1, 1) := by decide +kernel
theorem dX2_copyFrom_159 : decode cX2_copyFrom 159 = .ok (.getfield 46, 3) := by decide +kernel
theorem dX2_copyFrom_162 : decode cX2_copyFrom 162 = .ok (.aload_n 0, 1) := by decide +kernel
theorem dX2_copyFrom_163 : decode cX2_copyFrom 163 = .ok (.getfield 46, 3) := by decide +kernel
theorem dX2_copyFrom_166 : decode cX2_copyFrom 166 = .ok (.aload_n 0, 1) := by decide +kernel
theorem dX2_copyFrom_167 : decode cX2_copyFrom 167 = .ok (.getfield 9, 3) := by decide +kernel
theorem dX2_copyFrom_170 : decode cX2_copyFrom 170 = .ok (.invokestatic 58, 3) := by decide +kernel
theorem dX2_copyFrom_173 : decode cX2_copyFrom 173 = .ok (.aload_n 1, 1) := by decide +kernel
theorem dX2_copyFrom_174 : decode cX2_copyFrom 174 = .ok (.getfield 49, 3) := by decide +kernel
theorem dX2_copyFrom_177 : decode cX2_copyFrom 177 = .ok (.aload_n 0, 1) := by decide +kernel
theorem dX2_copyFrom_178 : decode cX2_copyFrom 178 = .ok (.getfield 49, 3) := by decide +kernel
theorem dX2_copyFrom_181 : decode cX2_copyFrom 181 = .ok (.aload_n 0, 1) := by decide +kernel
theorem dX2_copyFrom_182 : decode cX2_copyFrom 182 = .ok (.getfield 9, 3) := by decide +kernel
theorem dX2_copyFrom_185 : decode cX2_copyFrom 185 = .ok (.invokestatic 58, 3) := by decide +kernel
theorem dX2_copyFrom_188 : decode cX2_copyFrom 188 = .ok (.aload_n 1, 1) := by decide +kernel
theorem dX2_copyFrom_189 : decode cX2_copyFrom 189 = .ok (.getfield 52, 3) := by decide +kernel
theorem dX2_copyFrom_192 : decode cX2_copyFrom 192 = .ok (.aload_n 0, 1) := by decide +kernel
theorem dX2_copyFrom_193 : decode cX2_copyFrom 193 = .ok (.getfield 52, 3) := by decide +kernel
theorem dX2_copyFrom_196 : decode cX2_copyFrom 196 = .ok (.aload_n 0, 1) := by decide +kernel
theorem dX2_copyFrom_197 : decode cX2_copyFrom 197 = .ok (.getfield 9, 3) := by decide +kernel
theorem dX2_copyFrom_200 : decode cX2_copyFrom 200 = .ok (.invokestatic 58, 3) := by decide +kernel
theorem dX2_copyFrom_203 : decode cX2_copyFrom 203 = .ok (.aload_n 1, 1) := by decide +kernel
theorem dX2_copyFrom_204 : decode cX2_copyFrom 204 = .ok (.getfield 55, 3) := by decide +kernel
theorem dX2_copyFrom_207 : decode cX2_copyFrom 207 = .ok (.aload_n 0, 1) := by decide +kernel
theorem dX2_copyFrom_208 : decode cX2_copyFrom 208 = .ok (.getfield 55, 3) := by decide +kernel
theorem dX2_copyFrom_211 : decode cX2_copyFrom 211 = .ok (.aload_n 0, 1) := by decide +kernel
theorem dX2_copyFrom_212 : decode cX2_copyFrom 212 = .ok (.getfield 9, 3) := by decide +kernel
theorem dX2_copyFrom_215 : decode cX2_copyFrom 215 = .ok (.invokestatic 58, 3) := by decide +kernel
theorem dX2_copyFrom_218 : decode cX2_copyFrom 218 = .ok (.return_, 1) := by decide +kernel
theorem dX2_has_0 : decode cX2_has 0 = .ok (.iload_n 1, 1) := by decide +kernel
theorem dX2_has_1 : decode cX2_has 1 = .ok (.iconst 0, 1) := by decide +kernel
theorem dX2_has_2 : decode cX2_has 2 = .ok (.aload_n 0, 1) := by decide +kernel
theorem dX2_has_3 : decode cX2_has 3 = .ok (.getfield 9, 3) := by decide +kernel
theorem dX2_has_6 : decode cX2_has 6 = .ok (.iconst 1, 1) := by decide +kernel
theorem dX2_has_7 : decode cX2_has 7 = .ok (.isub, 1) := by decide +kernel
theorem dX2_has_8 : decode cX2_has 8 = .ok (.invokestatic 62, 3) := by decide +kernel
theorem dX2_has_11 : decode cX2_has 11 = .ok (.ireturn, 1) := by decide +kernel
theorem dX2_add_0 : decode cX2_add 0 = .ok (.aload_n 0, 1) := by decide +kernel
theorem dX2_add_1 : decode cX2_add 1 = .ok (.getfield 9, 3) := by decide +kernel
theorem dX2_add_4 : decode cX2_add 4 = .ok (.istore 5, 2) := by decide +kernel
theorem dX2_add_6 : decode cX2_add 6 = .ok (.aload_n 0, 1) := by decide +kernel
theorem dX2_add_7 : decode cX2_add 7 = .ok (.getfield 15, 3) := by decide +kernel
theorem dX2_add_10 : decode cX2_add 10 = .ok (.iload 5, 2) := by decide +kernel
theorem dX2_add_12 : decode cX2_add 12 = .ok (.iload_n 2, 1) := by decide +kernel
theorem dX2_add_13 : decode cX2_add 13 = .ok (.iastore, 1) := by decide +kernel
theorem dX2_add_14 : decode cX2_add 14 = .ok (.aload_n 0, 1) := by decide +kernel
theorem dX2_add_15 : decode cX2_add 15 = .ok (.getfield 19, 3) := by decide +kernel
theorem dX2_add_18 : decode cX2_add 18 = .ok (.iload 5, 2) := by decide +kernel
theorem dX2_add_20 : decode cX2_add 20 = .ok (.iload_n 3, 1) := by decide +kernel
theorem dX2_add_21 : decode cX2_add 21 = .ok (.iastore, 1) := by decide +kernel
theorem dX2_add_22 : decode cX2_add 22 = .ok (.aload_n 0, 1) := by decide +kernel
theorem dX2_add_23 : decode cX2_add 23 = .ok (.getfield 22, 3) := by decide +kernel
theorem dX2_add_26 : decode cX2_add 26 = .ok (.iload 5, 2) := by decide +kernel
theorem dX2_add_28 : decode cX2_add 28 = .ok (.iload 4, 2) := by decide +kernel
theorem dX2_add_30 : decode cX2_add 30 = .ok (.iastore, 1) := by decide +kernel
theorem dX2_add_31 : decode cX2_add 31 = .ok (.aload_n 0, 1) := by decide +kernel
theorem dX2_add_32 : decode cX2_add 32 = .ok (.getfield 25, 3) := by decide +kernel
theorem dX2_add_35 : decode cX2_add 35 = .ok (.iload 5, 2) := by decide +kernel
theorem dX2_add_37 : decode cX2_add 37 = .ok (.iconst (-1), 1) := by decide +kernel
theorem dX2_add_38 : decode cX2_add 38 = .ok (.iastore, 1) := by decide +kernel
theorem dX2_add_39 : decode cX2_add 39 = .ok (.aload_n 0, 1) := by decide +kernel
theorem dX2_add_40 : decode cX2_add 40 = .ok (.getfield 28, 3) := by decide +kernel
theorem dX2_add_43 : decode cX2_add 43 = .ok (.iload 5, 2) := by decide +kernel
theorem dX2_add_45 : decode cX2_add 45 = .ok (.iconst 0, 1) := by decide +kernel
theorem dX2_add_46 : decode cX2_add 46 = .ok (.iastore, 1) := by decide +kernel
theorem dX2_add_47 : decode cX2_add 47 = .ok (.aload_n 0, 1) := by decide +kernel
theorem dX2_add_48 : decode cX2_add 48 = .ok (.getfield 31, 3) := by decide +kernel
theorem dX2_add_51 : decode cX2_add 51 = .ok (.iload 5, 2) := by decide +kernel
theorem dX2_add_53 : decode cX2_add 53 = .ok (.iconst 0, 1) := by decide +kernel
theorem dX2_add_54 : decode cX2_add 54 = .ok (.iastore, 1) := by decide +kernel
theorem dX2_add_55 : decode cX2_add 55 = .ok (.aload_n 0, 1) := by decide +kernel
theorem dX2_add_56 : decode cX2_add 56 = .ok (.getfield 34, 3) := by decide +kernel
theorem dX2_add_59 : decode cX2_add 59 = .ok (.iload 5, 2) := by decide +kernel
theorem dX2_add_61 : decode cX2_add 61 = .ok (.iconst 0, 1) := by decide +kernel
theorem dX2_add_62 : decode cX2_add 62 = .ok (.iastore, 1) := by decide +kernel
theorem dX2_add_63 : decode cX2_add 63 = .ok (.aload_n 0, 1) := by decide +kernel
theorem dX2_add_64 : decode cX2_add 64 = .ok (.getfield 37, 3) := by decide +kernel
theorem dX2_add_67 : decode cX2_add 67 = .ok (.iload 5, 2) := by decide +kernel
theorem dX2_add_69 : decode cX2_add 69 = .ok (.iconst 0, 1) := by decide +kernel
theorem dX2_add_70 : decode cX2_add 70 = .ok (.iastore, 1) := by decide +kernel
theorem dX2_add_71 : decode cX2_add 71 = .ok (.aload_n 0, 1) := by decide +kernel
theorem dX2_add_72 : decode cX2_add 72 = .ok (.getfield 40, 3) := by decide +kernel
theorem dX2_add_75 : decode cX2_add 75 = .ok (.iload 5, 2) := by decide +kernel
theorem dX2_add_77 : decode cX2_add 77 = .ok (.iconst 0, 1) := by decide +kernel
theorem dX2_add_78 : decode cX2_add 78 = .ok (.iastore, 1) := by decide +kernel
theorem dX2_add_79 : decode cX2_add 79 = .ok (.aload_n 0, 1) := by decide +kernel
theorem dX2_add_80 : decode cX2_add 80 = .ok (.getfield 43, 3) := by decide +kernel
theorem dX2_add_83 : decode cX2_add 83 = .ok (.iload 5, 2) := by decide +kernel
theorem dX2_add_85 : decode cX2_add 85 = .ok (.iconst 0, 1) := by decide +kernel
theorem dX2_add_86 : decode cX2_add 86 = .ok (.iastore, 1) := by decide +kernel
theorem dX2_add_87 : decode cX2_add 87 = .ok (.aload_n 0, 1) := by decide +kernel
theorem dX2_add_88 : decode cX2_add 88 = .ok (.getfield 46, 3) := by decide +kernel
theorem dX2_add_91 : decode cX2_add 91 = .ok (.iload 5, 2) := by decide +kernel
theorem dX2_add_93 : decode cX2_add 93 = .ok (.iconst 0, 1) := by decide +kernel
theorem dX2_add_94 : decode cX2_add 94 = .ok (.iastore, 1) := by decide +kernel
theorem dX2_add_95 : decode cX2_add 95 = .ok (.aload_n 0, 1) := by decide +kernel
theorem dX2_add_96 : decode cX2_add 96 = .ok (.getfield 49, 3) := by decide +kernel
theorem dX2_add_99 : decode cX2_add 99 = .ok (.iload 5, 2) := by decide +kernel
theorem dX2_add_101 : decode cX2_add 101 = .ok (.iconst 0, 1) := by decide +kernel
theorem dX2_add_102 : decode cX2_add 102 = .ok (.iastore, 1) := by decide +kernel
theorem dX2_add_103 : decode cX2_add 103 = .ok (.aload_n 0, 1) := by decide +kernel
theorem dX2_add_104 : decode cX2_add 104 = .ok (.getfield 52, 3) := by decide +kernel
theorem dX2_add_107 : decode cX2_add 107 = .ok (.iload 5, 2) := by decide +kernel
theorem dX2_add_109 : decode cX2_add 109 = .ok (.iconst 0, 1) := by decide +kernel
theorem dX2_add_110 : decode cX2_add 110 = .ok (.iastore, 1) := by decide +kernel
theorem dX2_add_111 : decode cX2_add 111 = .ok (.aload_n 0, 1) := by decide +kernel
theorem dX2_add_112 : decode cX2_add 112 = .ok (.dup, 1) := by decide +kernel
theorem dX2_add_113 : decode cX2_add 113 = .ok (.getfield 9, 3) := by decide +kernel
theorem dX2_add_116 : decode cX2_add 116 = .ok (.iconst 1, 1) := by decide +kernel
theorem dX2_add_117 : decode cX2_add 117 = .ok (.iadd, 1) := by decide +kernel
theorem dX2_add_118 : decode cX2_add 118 = .ok (.putfield 9, 3) := by decide +kernel
theorem dX2_add_121 : decode cX2_add 121 = .ok (.aload_n 0, 1) := by decide +kernel
theorem dX2_add_122 : decode cX2_add 122 = .ok (.aload_n 1, 1) := by decide +kernel
theorem dX2_add_123 : decode cX2_add 123 = .ok (.invokevirtual 66, 3) := by decide +kernel
theorem dX2_add_126 : decode cX2_add 126 = .ok (.iload 5, 2) := by decide +kernel
theorem dX2_add_128 : decode cX2_add 128 = .ok (.ireturn, 1) := by decide +kernel
theorem dX2_makeOrder_0 : decode cX2_makeOrder 0 = .ok (.iconst 0, 1) := by decide +kernel
theorem dX2_makeOrder_1 : decode cX2_makeOrder 1 = .ok (.istore_n 2, 1) := by decide +kernel
theorem dX2_makeOrder_2 : decode cX2_makeOrder 2 = .ok (.iconst 0, 1) := by decide +kernel
theorem dX2_makeOrder_3 : decode cX2_makeOrder 3 = .ok (.istore_n 3, 1) := by decide +kernel
theorem dX2_makeOrder_4 : decode cX2_makeOrder 4 = .ok (.iload_n 3, 1) := by decide +kernel
theorem dX2_makeOrder_5 : decode cX2_makeOrder 5 = .ok (.aload_n 1, 1) := by decide +kernel
theorem dX2_makeOrder_6 : decode cX2_makeOrder 6 = .ok (.getfield 70, 3) := by decide +kernel
theorem dX2_makeOrder_9 : decode cX2_makeOrder 9 = .ok (.if_icmp .ge 62, 3) := by decide +kernel
theorem dX2_makeOrder_12 : decode cX2_makeOrder 12 = .ok (.iconst 0, 1) := by decide +kernel
theorem dX2_makeOrder_13 : decode cX2_makeOrder 13 = .ok (.istore 4, 2) := by decide +kernel
theorem dX2_makeOrder_15 : decode cX2_makeOrder 15 = .ok (.iload 4, 2) := by decide +kernel
theorem dX2_makeOrder_17 : decode cX2_makeOrder 17 = .ok (.aload_n 0, 1) := by decide +kernel
theorem dX2_makeOrder_18 : decode cX2_makeOrder 18 = .ok (.getfield 9, 3) := by decide +kernel
theorem dX2_makeOrder_21 : decode cX2_makeOrder 21 = .ok (.if_icmp .ge 44, 3) := by decide +kernel
theorem dX2_makeOrder_24 : decode cX2_makeOrder 24 = .ok (.aload_n 0, 1) := by decide +kernel
theorem dX2_makeOrder_25 : decode cX2_makeOrder 25 = .ok (.getfield 15, 3) := by decide +kernel
theorem dX2_makeOrder_28 : decode cX2_makeOrder 28 = .ok (.iload 4, 2) := by decide +kernel
theorem dX2_makeOrder_30 : decode cX2_makeOrder 30 = .ok (.iaload, 1) := by decide +kernel
theorem dX2_makeOrder_31 : decode cX2_makeOrder 31 = .ok (.aload_n 1, 1) := by decide +kernel
theorem dX2_makeOrder_32 : decode cX2_makeOrder 32 = .ok (.getfield 73, 3) := by decide +kernel
theorem dX2_makeOrder_35 : decode cX2_makeOrder 35 = .ok (.iload_n 3, 1) := by decide +kernel
theorem dX2_makeOrder_36 : decode cX2_makeOrder 36 = .ok (.iaload, 1) := by decide +kernel
theorem dX2_makeOrder_37 : decode cX2_makeOrder 37 = .ok (.if_icmp .ne 22, 3) := by decide +kernel
theorem dX2_makeOrder_40 : decode cX2_makeOrder 40 = .ok (.iload_n 2, 1) := by decide +kernel
theorem dX2_makeOrder_41 : decode cX2_makeOrder 41 = .ok (.aload_n 0, 1) := by decide +kernel
theorem dX2_makeOrder_42 : decode cX2_makeOrder 42 = .ok (.getfield 9, 3) := by decide +kernel
theorem dX2_makeOrder_45 : decode cX2_makeOrder 45 = .ok (.if_icmp .ge 14, 3) := by decide +kernel
theorem dX2_makeOrder_48 : decode cX2_makeOrder 48 = .ok (.aload_n 0, 1) := by decide +kernel
theorem dX2_makeOrder_49 : decode cX2_makeOrder 49 = .ok (.getfield 55, 3) := by decide +kernel
theorem dX2_makeOrder_52 : decode cX2_makeOrder 52 = .ok (.iload_n 2, 1) := by decide +kernel
theorem dX2_makeOrder_53 : decode cX2_makeOrder 53 = .ok (.iload 4, 2) := by decide +kernel
theorem dX2_makeOrder_55 : decode cX2_makeOrder 55 = .ok (.iastore, 1) := by decide +kernel
theorem dX2_makeOrder_56 : decode cX2_makeOrder 56 = .ok (.iinc 2 1, 3) := by decide +kernel
theorem dX2_makeOrder_59 : decode cX2_makeOrder 59 = .ok (.iinc 4 1, 3) := by decide +kernel
theorem dX2_makeOrder_62 : decode cX2_makeOrder 62 = .ok (.goto (-47), 3) := by decide +kernel
theorem dX2_makeOrder_65 : decode cX2_makeOrder 65 = .ok (.iinc 3 1, 3) := by decide +kernel
theorem dX2_makeOrder_68 : decode cX2_makeOrder 68 = .ok (.goto (-64), 3) := by decide +kernel
theorem dX2_makeOrder_71 : decode cX2_makeOrder 71 = .ok (.return_, 1) := by decide +kernel
theorem dX2_manyOf_0 : decode cX2_manyOf 0 = .ok (.iconst 0, 1) := by decide +kernel
theorem dX2_manyOf_1 : decode cX2_manyOf 1 = .ok (.istore_n 2, 1) := by decide +kernel
theorem dX2_manyOf_2 : decode cX2_manyOf 2 = .ok (.iconst 0, 1) := by decide +kernel
theorem dX2_manyOf_3 : decode cX2_manyOf 3 = .ok (.istore_n 3, 1) := by decide +kernel
theorem dX2_manyOf_4 : decode cX2_manyOf 4 = .ok (.iload_n 3, 1) := by decide +kernel
theorem dX2_manyOf_5 : decode cX2_manyOf 5 = .ok (.aload_n 0, 1) := by decide +kernel
theorem dX2_manyOf_6 : decode cX2_manyOf 6 = .ok (.getfield 9, 3) := by decide +kernel
theorem dX2_manyOf_9 : decode cX2_manyOf 9 = .ok (.if_icmp .ge 22, 3) := by decide +kernel
theorem dX2_manyOf_12 : decode cX2_manyOf 12 = .ok (.aload_n 0, 1) := by decide +kernel
theorem dX2_manyOf_13 : decode cX2_manyOf 13 = .ok (.getfield 25, 3) := by decide +kernel
theorem dX2_manyOf_16 : decode cX2_manyOf 16 = .ok (.iload_n 3, 1) := by decide +kernel
theorem dX2_manyOf_17 : decode cX2_manyOf 17 = .ok (.iaload, 1) := by decide +kernel
theorem dX2_manyOf_18 : decode cX2_manyOf 18 = .ok (.iload_n 1, 1) := by decide +kernel
theorem dX2_manyOf_19 : decode cX2_manyOf 19 = .ok (.if_icmp .ne 6, 3) := by decide +kernel
theorem dX2_manyOf_22 : decode cX2_manyOf 22 = .ok (.iinc 2 1, 3) := by decide +kernel
theorem dX2_manyOf_25 : decode cX2_manyOf 25 = .ok (.iinc 3 1, 3) := by decide +kernel
theorem dX2_manyOf_28 : decode cX2_manyOf 28 = .ok (.goto (-24), 3) := by decide +kernel
theorem dX2_manyOf_31 : decode cX2_manyOf 31 = .ok (.iload_n 2, 1) := by decide +kernel
theorem dX2_manyOf_32 : decode cX2_manyOf 32 = .ok (.ireturn, 1) := by decide +kernel
theorem dX2_dogIsOut_0 : decode cX2_dogIsOut 0 = .ok (.aload_n 0, 1) := by decide +kernel
theorem dX2_dogIsOut_1 : decode cX2_dogIsOut 1 = .ok (.getfield 28, 3) := by decide +kernel
theorem dX2_dogIsOut_4 : decode cX2_dogIsOut 4 = .ok (.iload_n 1, 1) := by decide +kernel
theorem dX2_dogIsOut_5 : decode cX2_dogIsOut 5 = .ok (.iaload, 1) := by decide +kernel
theorem dX2_dogIsOut_6 : decode cX2_dogIsOut 6 = .ok (.istore_n 3, 1) := by decide +kernel
theorem dX2_dogIsOut_7 : decode cX2_dogIsOut 7 = .ok (.iload_n 3, 1) := by decide +kernel
theorem dX2_dogIsOut_8 : decode cX2_dogIsOut 8 = .ok (.ifCond .le 21, 3) := by decide +kernel
theorem dX2_dogIsOut_11 : decode cX2_dogIsOut 11 = .ok (.iload_n 2, 1) := by decide +kernel
theorem dX2_dogIsOut_12 : decode cX2_dogIsOut 12 = .ok (.iload_n 3, 1) := by decide +kernel
theorem dX2_dogIsOut_13 : decode cX2_dogIsOut 13 = .ok (.irem, 1) := by decide +kernel
theorem dX2_dogIsOut_14 : decode cX2_dogIsOut 14 = .ok (.aload_n 0, 1) := by decide +kernel
theorem dX2_dogIsOut_15 : decode cX2_dogIsOut 15 = .ok (.getfield 31, 3) := by decide +kernel
theorem dX2_dogIsOut_18 : decode cX2_dogIsOut 18 = .ok (.iload_n 1, 1) := by decide +kernel
theorem dX2_dogIsOut_19 : decode cX2_dogIsOut 19 = .ok (.iaload, 1) := by decide +kernel
theorem dX2_dogIsOut_20 : decode cX2_dogIsOut 20 = .ok (.iload_n 3, 1) := by decide +kernel
theorem dX2_dogIsOut_21 : decode cX2_dogIsOut 21 = .ok (.irem, 1) := by decide +kernel
theorem dX2_dogIsOut_22 : decode cX2_dogIsOut 22 = .ok (.if_icmp .ne 7, 3) := by decide +kernel
theorem dX2_dogIsOut_25 : decode cX2_dogIsOut 25 = .ok (.iconst 1, 1) := by decide +kernel
theorem dX2_dogIsOut_26 : decode cX2_dogIsOut 26 = .ok (.goto 4, 3) := by decide +kernel
theorem dX2_dogIsOut_29 : decode cX2_dogIsOut 29 = .ok (.iconst 0, 1) := by decide +kernel
theorem dX2_dogIsOut_30 : decode cX2_dogIsOut 30 = .ok (.ireturn, 1) := by decide +kernel
theorem dX2_complain_0 : decode cX2_complain 0 = .ok (.aload_n 0, 1) := by decide +kernel
theorem dX2_complain_1 : decode cX2_complain 1 = .ok (.getfield 46, 3) := by decide +kernel
theorem dX2_complain_4 : decode cX2_complain 4 = .ok (.iload_n 1, 1) := by decide +kernel
theorem dX2_complain_5 : decode cX2_complain 5 = .ok (.dup2, 1) := by decide +kernel
theorem dX2_complain_6 : decode cX2_complain 6 = .ok (.iaload, 1) := by decide +kernel
theorem dX2_complain_7 : decode cX2_complain 7 = .ok (.iconst 1, 1) := by decide +kernel
theorem dX2_complain_8 : decode cX2_complain 8 = .ok (.iadd, 1) := by decide +kernel
theorem dX2_complain_9 : decode cX2_complain 9 = .ok (.iastore, 1) := by decide +kernel
theorem dX2_complain_10 : decode cX2_complain 10 = .ok (.aload_n 0, 1) := by decide +kernel
theorem dX2_complain_11 : decode cX2_complain 11 = .ok (.getfield 49, 3) := by decide +kernel
theorem dX2_complain_14 : decode cX2_complain 14 = .ok (.iload_n 1, 1) := by decide +kernel
theorem dX2_complain_15 : decode cX2_complain 15 = .ok (.dup2, 1) := by decide +kernel
theorem dX2_complain_16 : decode cX2_complain 16 = .ok (.iaload, 1) := by decide +kernel
theorem dX2_complain_17 : decode cX2_complain 17 = .ok (.iconst 1, 1) := by decide +kernel
theorem dX2_complain_18 : decode cX2_complain 18 = .ok (.iadd, 1) := by decide +kernel
theorem dX2_complain_19 : decode cX2_complain 19 = .ok (.iastore, 1) := by decide +kernel
theorem dX2_complain_20 : decode cX2_complain 20 = .ok (.return_, 1) := by decide +kernel
theorem dX2_allComplaints_0 : decode cX2_allComplaints 0 = .ok (.iconst 0, 1) := by decide +kernel
theorem dX2_allComplaints_1 : decode cX2_allComplaints 1 = .ok (.istore_n 1, 1) := by decide +kernel
theorem dX2_allComplaints_2 : decode cX2_allComplaints 2 = .ok (.iconst 0, 1) := by decide +kernel
theorem dX2_allComplaints_3 : decode cX2_allComplaints 3 = .ok (.istore_n 2, 1) := by decide +kernel
theorem dX2_allComplaints_4 : decode cX2_allComplaints 4 = .ok (.iload_n 2, 1) := by decide +kernel
theorem dX2_allComplaints_5 : decode cX2_allComplaints 5 = .ok (.aload_n 0, 1) := by decide +kernel
theorem dX2_allComplaints_6 : decode cX2_allComplaints 6 = .ok (.getfield 9, 3) := by decide +kernel
theorem dX2_allComplaints_9 : decode cX2_allComplaints 9 = .ok (.if_icmp .ge 18, 3) := by decide +kernel
theorem dX2_allComplaints_12 : decode cX2_allComplaints 12 = .ok (.iload_n 1, 1) := by decide +kernel
theorem dX2_allComplaints_13 : decode cX2_allComplaints 13 = .ok (.aload_n 0, 1) := by decide +kernel
theorem dX2_allComplaints_14 : decode cX2_allComplaints 14 = .ok (.getfield 46, 3) := by decide +kernel
theorem dX2_allComplaints_17 : decode cX2_allComplaints 17 = .ok (.iload_n 2, 1) := by decide +kernel
theorem dX2_allComplaints_18 : decode cX2_allComplaints 18 = .ok (.iaload, 1) := by decide +kernel
theorem dX2_allComplaints_19 : decode cX2_allComplaints 19 = .ok (.iadd, 1) := by decide +kernel
theorem dX2_allComplaints_20 : decode cX2_allComplaints 20 = .ok (.istore_n 1, 1) := by decide +kernel
theorem dX2_allComplaints_21 : decode cX2_allComplaints 21 = .ok (.iinc 2 1, 3) := by decide +kernel
theorem dX2_allComplaints_24 : decode cX2_allComplaints 24 = .ok (.goto (-20), 3) := by decide +kernel
theorem dX2_allComplaints_27 : decode cX2_allComplaints 27 = .ok (.iload_n 1, 1) := by decide +kernel
theorem dX2_allComplaints_28 : decode cX2_allComplaints 28 = .ok (.ireturn, 1) := by decide +kernel
theorem dX2_papersDue_0 : decode cX2_papersDue 0 = .ok (.aload_n 0, 1) := by decide +kernel
theorem dX2_papersDue_1 : decode cX2_papersDue 1 = .ok (.getfield 34, 3) := by decide +kernel
theorem dX2_papersDue_4 : decode cX2_papersDue 4 = .ok (.iload_n 1, 1) := by decide +kernel
theorem dX2_papersDue_5 : decode cX2_papersDue 5 = .ok (.iaload, 1) := by decide +kernel
theorem dX2_papersDue_6 : decode cX2_papersDue 6 = .ok (.aload_n 0, 1) := by decide +kernel
theorem dX2_papersDue_7 : decode cX2_papersDue 7 = .ok (.getfield 40, 3) := by decide +kernel
theorem dX2_papersDue_10 : decode cX2_papersDue 10 = .ok (.iload_n 1, 1) := by decide +kernel
theorem dX2_papersDue_11 : decode cX2_papersDue 11 = .ok (.iaload, 1) := by decide +kernel
theorem dX2_papersDue_12 : decode cX2_papersDue 12 = .ok (.iadd, 1) := by decide +kernel
theorem dX2_papersDue_13 : decode cX2_papersDue 13 = .ok (.aload_n 0, 1) := by decide +kernel
theorem dX2_papersDue_14 : decode cX2_papersDue 14 = .ok (.getfield 43, 3) := by decide +kernel
theorem dX2_papersDue_17 : decode cX2_papersDue 17 = .ok (.iload_n 1, 1) := by decide +kernel
theorem dX2_papersDue_18 : decode cX2_papersDue 18 = .ok (.iaload, 1) := by decide +kernel
theorem dX2_papersDue_19 : decode cX2_papersDue 19 = .ok (.iadd, 1) := by decide +kernel
theorem dX2_papersDue_20 : decode cX2_papersDue 20 = .ok (.ireturn, 1) := by decide +kernel
theorem dX2_share_0 : decode cX2_share 0 = .ok (.aload_n 0, 1) := by decide +kernel
theorem dX2_share_1 : decode cX2_share 1 = .ok (.iload_n 1, 1) := by decide +kernel
theorem dX2_share_2 : decode cX2_share 2 = .ok (.invokevirtual 74, 3) := by decide +kernel
theorem dX2_share_5 : decode cX2_share 5 = .ok (.istore_n 2, 1) := by decide +kernel
theorem dX2_share_6 : decode cX2_share 6 = .ok (.iload_n 2, 1) := by decide +kernel
theorem dX2_share_7 : decode cX2_share 7 = .ok (.ifCond .le 16, 3) := by decide +kernel
theorem dX2_share_10 : decode cX2_share 10 = .ok (.aload_n 0, 1) := by decide +kernel
theorem dX2_share_11 : decode cX2_share 11 = .ok (.getfield 34, 3) := by decide +kernel
theorem dX2_share_14 : decode cX2_share 14 = .ok (.iload_n 1, 1) := by decide +kernel
theorem dX2_share_15 : decode cX2_share 15 = .ok (.iaload, 1) := by decide +kernel
theorem dX2_share_16 : decode cX2_share 16 = .ok (.i2f, 1) := by decide +kernel
theorem dX2_share_17 : decode cX2_share 17 = .ok (.iload_n 2, 1) := by decide +kernel
theorem dX2_share_18 : decode cX2_share 18 = .ok (.i2f, 1) := by decide +kernel
theorem dX2_share_19 : decode cX2_share 19 = .ok (.fdiv, 1) := by decide +kernel
theorem dX2_share_20 : decode cX2_share 20 = .ok (.goto 4, 3) := by decide +kernel
theorem dX2_share_23 : decode cX2_share 23 = .ok (.fconst 0, 1) := by decide +kernel
theorem dX2_share_24 : decode cX2_share 24 = .ok (.freturn, 1) := by decide +kernel
theorem dX2_tipNow_0 : decode cX2_tipNow 0 = .ok (.aload_n 0, 1) := by decide +kernel
theorem dX2_tipNow_1 : decode cX2_tipNow 1 = .ok (.getfield 52, 3) := by decide +kernel
theorem dX2_tipNow_4 : decode cX2_tipNow 4 = .ok (.iload_n 1, 1) := by decide +kernel
theorem dX2_tipNow_5 : decode cX2_tipNow 5 = .ok (.iaload, 1) := by decide +kernel
theorem dX2_tipNow_6 : decode cX2_tipNow 6 = .ok (.ifCond .eq 13, 3) := by decide +kernel
theorem dX2_tipNow_9 : decode cX2_tipNow 9 = .ok (.aload_n 0, 1) := by decide +kernel
theorem dX2_tipNow_10 : decode cX2_tipNow 10 = .ok (.getfield 49, 3) := by decide +kernel
theorem dX2_tipNow_13 : decode cX2_tipNow 13 = .ok (.iload_n 1, 1) := by decide +kernel
theorem dX2_tipNow_14 : decode cX2_tipNow 14 = .ok (.iaload, 1) := by decide +kernel
theorem dX2_tipNow_15 : decode cX2_tipNow 15 = .ok (.iconst 1, 1) := by decide +kernel
theorem dX2_tipNow_16 : decode cX2_tipNow 16 = .ok (.if_icmp .le 5, 3) := by decide +kernel
theorem dX2_tipNow_19 : decode cX2_tipNow 19 = .ok (.iconst 0, 1) := by decide +kernel
theorem dX2_tipNow_20 : decode cX2_tipNow 20 = .ok (.ireturn, 1) := by decide +kernel
theorem dX2_tipNow_21 : decode cX2_tipNow 21 = .ok (.aload_n 0, 1) := by decide +kernel
theorem dX2_tipNow_22 : decode cX2_tipNow 22 = .ok (.getfield 49, 3) := by decide +kernel
theorem dX2_tipNow_25 : decode cX2_tipNow 25 = .ok (.iload_n 1, 1) := by decide +kernel
theorem dX2_tipNow_26 : decode cX2_tipNow 26 = .ok (.iaload, 1) := by decide +kernel
theorem dX2_tipNow_27 : decode cX2_tipNow 27 = .ok (.ifCond .ne 12, 3) := by decide +kernel
theorem dX2_tipNow_30 : decode cX2_tipNow 30 = .ok (.aload_n 0, 1) := by decide +kernel
theorem dX2_tipNow_31 : decode cX2_tipNow 31 = .ok (.getfield 22, 3) := by decide +kernel
theorem dX2_tipNow_34 : decode cX2_tipNow 34 = .ok (.iload_n 1, 1) := by decide +kernel
theorem dX2_tipNow_35 : decode cX2_tipNow 35 = .ok (.iaload, 1) := by decide +kernel
theorem dX2_tipNow_36 : decode cX2_tipNow 36 = .ok (.goto 11, 3) := by decide +kernel
theorem dX2_tipNow_39 : decode cX2_tipNow 39 = .ok (.aload_n 0, 1) := by decide +kernel
theorem dX2_tipNow_40 : decode cX2_tipNow 40 = .ok (.getfield 22, 3) := by decide +kernel
theorem dX2_tipNow_43 : decode cX2_tipNow 43 = .ok (.iload_n 1, 1) := by decide +kernel
theorem dX2_tipNow_44 : decode cX2_tipNow 44 = .ok (.iaload, 1) := by decide +kernel
theorem dX2_tipNow_45 : decode cX2_tipNow 45 = .ok (.iconst 2, 1) := by decide +kernel
theorem dX2_tipNow_46 : decode cX2_tipNow 46 = .ok (.idiv, 1) := by decide +kernel
theorem dX2_tipNow_47 : decode cX2_tipNow 47 = .ok (.ireturn, 1) := by decide +kernel
theorem dX2_beginWeek_0 : decode cX2_beginWeek 0 = .ok (.iconst 0, 1) := by decide +kernel
theorem dX2_beginWeek_1 : decode cX2_beginWeek 1 = .ok (.istore_n 1, 1) := by decide +kernel
theorem dX2_beginWeek_2 : decode cX2_beginWeek 2 = .ok (.iload_n 1, 1) := by decide +kernel
theorem dX2_beginWeek_3 : decode cX2_beginWeek 3 = .ok (.aload_n 0, 1) := by decide +kernel
theorem dX2_beginWeek_4 : decode cX2_beginWeek 4 = .ok (.getfield 9, 3) := by decide +kernel
theorem dX2_beginWeek_7 : decode cX2_beginWeek 7 = .ok (.if_icmp .ge 23, 3) := by decide +kernel
theorem dX2_beginWeek_10 : decode cX2_beginWeek 10 = .ok (.aload_n 0, 1) := by decide +kernel
theorem dX2_beginWeek_11 : decode cX2_beginWeek 11 = .ok (.getfield 49, 3) := by decide +kernel
theorem dX2_beginWeek_14 : decode cX2_beginWeek 14 = .ok (.iload_n 1, 1) := by decide +kernel
theorem dX2_beginWeek_15 : decode cX2_beginWeek 15 = .ok (.iconst 0, 1) := by decide +kernel
theorem dX2_beginWeek_16 : decode cX2_beginWeek 16 = .ok (.iastore, 1) := by decide +kernel
theorem dX2_beginWeek_17 : decode cX2_beginWeek 17 = .ok (.aload_n 0, 1) := by decide +kernel
theorem dX2_beginWeek_18 : decode cX2_beginWeek 18 = .ok (.getfield 52, 3) := by decide +kernel
theorem dX2_beginWeek_21 : decode cX2_beginWeek 21 = .ok (.iload_n 1, 1) := by decide +kernel
theorem dX2_beginWeek_22 : decode cX2_beginWeek 22 = .ok (.iconst 0, 1) := by decide +kernel
theorem dX2_beginWeek_23 : decode cX2_beginWeek 23 = .ok (.iastore, 1) := by decide +kernel
theorem dX2_beginWeek_24 : decode cX2_beginWeek 24 = .ok (.iinc 1 1, 3) := by decide +kernel
theorem dX2_beginWeek_27 : decode cX2_beginWeek 27 = .ok (.goto (-25), 3) := by decide +kernel
theorem dX2_beginWeek_30 : decode cX2_beginWeek 30 = .ok (.return_, 1) := by decide +kernel
theorem dX3_init_0 : decode cX3_init 0 = .ok (.aload_n 0, 1) := by decide +kernel
theorem dX3_init_1 : decode cX3_init 1 = .ok (.invokespecial 3, 3) := by decide +kernel
theorem dX3_init_4 : decode cX3_init 4 = .ok (.aload_n 0, 1) := by decide +kernel
theorem dX3_init_5 : decode cX3_init 5 = .ok (.iconst 0, 1) := by decide +kernel
theorem dX3_init_6 : decode cX3_init 6 = .ok (.putfield 9, 3) := by decide +kernel
theorem dX3_init_9 : decode cX3_init 9 = .ok (.aload_n 0, 1) := by decide +kernel
theorem dX3_init_10 : decode cX3_init 10 = .ok (.bipush 30, 2) := by decide +kernel
theorem dX3_init_12 : decode cX3_init 12 = .ok (.newarray .int, 2) := by decide +kernel
theorem dX3_init_14 : decode cX3_init 14 = .ok (.putfield 15, 3) := by decide +kernel
theorem dX3_init_17 : decode cX3_init 17 = .ok (.aload_n 0, 1) := by decide +kernel
theorem dX3_init_18 : decode cX3_init 18 = .ok (.bipush 30, 2) := by decide +kernel
theorem dX3_init_20 : decode cX3_init 20 = .ok (.newarray .int, 2) := by decide +kernel
theorem dX3_init_22 : decode cX3_init 22 = .ok (.putfield 19, 3) := by decide +kernel
theorem dX3_init_25 : decode cX3_init 25 = .ok (.aload_n 0, 1) := by decide +kernel
theorem dX3_init_26 : decode cX3_init 26 = .ok (.bipush 30, 2) := by decide +kernel
theorem dX3_init_28 : decode cX3_init 28 = .ok (.newarray .int, 2) := by decide +kernel
theorem dX3_init_30 : decode cX3_init 30 = .ok (.putfield 22, 3) := by decide +kernel
theorem dX3_init_33 : decode cX3_init 33 = .ok (.return_, 1) := by decide +kernel
theorem dX3_copyFrom_0 : decode cX3_copyFrom 0 = .ok (.aload_n 0, 1) := by decide +kernel
theorem dX3_copyFrom_1 : decode cX3_copyFrom 1 = .ok (.aload_n 1, 1) := by decide +kernel
theorem dX3_copyFrom_2 : decode cX3_copyFrom 2 = .ok (.getfield 9, 3) := by decide +kernel
theorem dX3_copyFrom_5 : decode cX3_copyFrom 5 = .ok (.putfield 9, 3) := by decide +kernel
theorem dX3_copyFrom_8 : decode cX3_copyFrom 8 = .ok (.aload_n 1, 1) := by decide +kernel
theorem dX3_copyFrom_9 : decode cX3_copyFrom 9 = .ok (.getfield 15, 3) := by decide +kernel
theorem dX3_copyFrom_12 : decode cX3_copyFrom 12 = .ok (.aload_n 0, 1) := by decide +kernel
theorem dX3_copyFrom_13 : decode cX3_copyFrom 13 = .ok (.getfield 15, 3) := by decide +kernel
theorem dX3_copyFrom_16 : decode cX3_copyFrom 16 = .ok (.aload_n 0, 1) := by decide +kernel
theorem dX3_copyFrom_17 : decode cX3_copyFrom 17 = .ok (.getfield 9, 3) := by decide +kernel
theorem dX3_copyFrom_20 : decode cX3_copyFrom 20 = .ok (.invokestatic 25, 3) := by decide +kernel
theorem dX3_copyFrom_23 : decode cX3_copyFrom 23 = .ok (.aload_n 1, 1) := by decide +kernel
theorem dX3_copyFrom_24 : decode cX3_copyFrom 24 = .ok (.getfield 19, 3) := by decide +kernel
theorem dX3_copyFrom_27 : decode cX3_copyFrom 27 = .ok (.aload_n 0, 1) := by decide +kernel
theorem dX3_copyFrom_28 : decode cX3_copyFrom 28 = .ok (.getfield 19, 3) := by decide +kernel
theorem dX3_copyFrom_31 : decode cX3_copyFrom 31 = .ok (.aload_n 0, 1) := by decide +kernel
theorem dX3_copyFrom_32 : decode cX3_copyFrom 32 = .ok (.getfield 9, 3) := by decide +kernel
theorem dX3_copyFrom_35 : decode cX3_copyFrom 35 = .ok (.invokestatic 25, 3) := by decide +kernel
theorem dX3_copyFrom_38 : decode cX3_copyFrom 38 = .ok (.aload_n 1, 1) := by decide +kernel
theorem dX3_copyFrom_39 : decode cX3_copyFrom 39 = .ok (.getfield 22, 3) := by decide +kernel
theorem dX3_copyFrom_42 : decode cX3_copyFrom 42 = .ok (.aload_n 0, 1) := by decide +kernel
theorem dX3_copyFrom_43 : decode cX3_copyFrom 43 = .ok (.getfield 22, 3) := by decide +kernel
theorem dX3_copyFrom_46 : decode cX3_copyFrom 46 = .ok (.aload_n 0, 1) := by decide +kernel
theorem dX3_copyFrom_47 : decode cX3_copyFrom 47 = .ok (.getfield 9, 3) := by decide +kernel
theorem dX3_copyFrom_50 : decode cX3_copyFrom 50 = .ok (.invokestatic 25, 3) := by decide +kernel
theorem dX3_copyFrom_53 : decode cX3_copyFrom 53 = .ok (.return_, 1) := by decide +kernel
theorem dX3_add_0 : decode cX3_add 0 = .ok (.aload_n 0, 1) := by decide +kernel
theorem dX3_add_1 : decode cX3_add 1 = .ok (.getfield 9, 3) := by decide +kernel
theorem dX3_add_4 : decode cX3_add 4 = .ok (.istore 4, 2) := by decide +kernel
theorem dX3_add_6 : decode cX3_add 6 = .ok (.aload_n 0, 1) := by decide +kernel
theorem dX3_add_7 : decode cX3_add 7 = .ok (.getfield 15, 3) := by decide +kernel
theorem dX3_add_10 : decode cX3_add 10 = .ok (.iload 4, 2) := by decide +kernel
theorem dX3_add_12 : decode cX3_add 12 = .ok (.iload_n 1, 1) := by decide +kernel
theorem dX3_add_13 : decode cX3_add 13 = .ok (.iastore, 1) := by decide +kernel
theorem dX3_add_14 : decode cX3_add 14 = .ok (.aload_n 0, 1) := by decide +kernel
theorem dX3_add_15 : decode cX3_add 15 = .ok (.getfield 19, 3) := by decide +kernel
theorem dX3_add_18 : decode cX3_add 18 = .ok (.iload 4, 2) := by decide +kernel
theorem dX3_add_20 : decode cX3_add 20 = .ok (.iload_n 2, 1) := by decide +kernel
theorem dX3_add_21 : decode cX3_add 21 = .ok (.iastore, 1) := by decide +kernel
theorem dX3_add_22 : decode cX3_add 22 = .ok (.aload_n 0, 1) := by decide +kernel
theorem dX3_add_23 : decode cX3_add 23 = .ok (.getfield 22, 3) := by decide +kernel
theorem dX3_add_26 : decode cX3_add 26 = .ok (.iload 4, 2) := by decide +kernel
theorem dX3_add_28 : decode cX3_add 28 = .ok (.iload_n 3, 1) := by decide +kernel
theorem dX3_add_29 : decode cX3_add 29 = .ok (.iastore, 1) := by decide +kernel
theorem dX3_add_30 : decode cX3_add 30 = .ok (.aload_n 0, 1) := by decide +kernel
theorem dX3_add_31 : decode cX3_add 31 = .ok (.dup, 1) := by decide +kernel
theorem dX3_add_32 : decode cX3_add 32 = .ok (.getfield 9, 3) := by decide +kernel
theorem dX3_add_35 : decode cX3_add 35 = .ok (.iconst 1, 1) := by decide +kernel
theorem dX3_add_36 : decode cX3_add 36 = .ok (.iadd, 1) := by decide +kernel
theorem dX3_add_37 : decode cX3_add 37 = .ok (.putfield 9, 3) := by decide +kernel
theorem dX3_add_40 : decode cX3_add 40 = .ok (.iload 4, 2) := by decide +kernel
theorem dX3_add_42 : decode cX3_add 42 = .ok (.ireturn, 1) := by decide +kernel
theorem dX3_cover_0 : decode cX3_cover 0 = .ok (.iconst 0, 1) := by decide +kernel
theorem dX3_cover_1 : decode cX3_cover 1 = .ok (.istore_n 3, 1) := by decide +kernel
theorem dX3_cover_2 : decode cX3_cover 2 = .ok (.iload_n 3, 1) := by decide +kernel
theorem dX3_cover_3 : decode cX3_cover 3 = .ok (.aload_n 0, 1) := by decide +kernel
theorem dX3_cover_4 : decode cX3_cover 4 = .ok (.getfield 9, 3) := by decide +kernel
theorem dX3_cover_7 : decode cX3_cover 7 = .ok (.if_icmp .ge 41, 3) := by decide +kernel
theorem dX3_cover_10 : decode cX3_cover 10 = .ok (.aload_n 0, 1) := by decide +kernel
theorem dX3_cover_11 : decode cX3_cover 11 = .ok (.getfield 15, 3) := by decide +kernel
theorem dX3_cover_14 : decode cX3_cover 14 = .ok (.iload_n 3, 1) := by decide +kernel
theorem dX3_cover_15 : decode cX3_cover 15 = .ok (.iaload, 1) := by decide +kernel
theorem dX3_cover_16 : decode cX3_cover 16 = .ok (.iload_n 1, 1) := by decide +kernel
theorem dX3_cover_17 : decode cX3_cover 17 = .ok (.if_icmp .ne 25, 3) := by decide +kernel
theorem dX3_cover_20 : decode cX3_cover 20 = .ok (.iload_n 2, 1) := by decide +kernel
theorem dX3_cover_21 : decode cX3_cover 21 = .ok (.aload_n 0, 1) := by decide +kernel
theorem dX3_cover_22 : decode cX3_cover 22 = .ok (.getfield 19, 3) := by decide +kernel
theorem dX3_cover_25 : decode cX3_cover 25 = .ok (.iload_n 3, 1) := by decide +kernel
theorem dX3_cover_26 : decode cX3_cover 26 = .ok (.iaload, 1) := by decide +kernel
theorem dX3_cover_27 : decode cX3_cover 27 = .ok (.if_icmp .lt 15, 3) := by decide +kernel
theorem dX3_cover_30 : decode cX3_cover 30 = .ok (.iload_n 2, 1) := by decide +kernel
theorem dX3_cover_31 : decode cX3_cover 31 = .ok (.aload_n 0, 1) := by decide +kernel
theorem dX3_cover_32 : decode cX3_cover 32 = .ok (.getfield 22, 3) := by decide +kernel
theorem dX3_cover_35 : decode cX3_cover 35 = .ok (.iload_n 3, 1) := by decide +kernel
theorem dX3_cover_36 : decode cX3_cover 36 = .ok (.iaload, 1) := by decide +kernel
theorem dX3_cover_37 : decode cX3_cover 37 = .ok (.if_icmp .gt 5, 3) := by decide +kernel
theorem dX3_cover_40 : decode cX3_cover 40 = .ok (.iconst 1, 1) := by decide +kernel
theorem dX3_cover_41 : decode cX3_cover 41 = .ok (.ireturn, 1) := by decide +kernel
theorem dX3_cover_42 : decode cX3_cover 42 = .ok (.iinc 3 1, 3) := by decide +kernel
theorem dX3_cover_45 : decode cX3_cover 45 = .ok (.goto (-43), 3) := by decide +kernel
theorem dX3_cover_48 : decode cX3_cover 48 = .ok (.iconst 0, 1) := by decide +kernel
theorem dX3_cover_49 : decode cX3_cover 49 = .ok (.ireturn, 1) := by decide +kernel
theorem dX4_init_0 : decode cX4_init 0 = .ok (.aload_n 0, 1) := by decide +kernel
theorem dX4_init_1 : decode cX4_init 1 = .ok (.invokespecial 3, 3) := by decide +kernel
theorem dX4_init_4 : decode cX4_init 4 = .ok (.aload_n 0, 1) := by decide +kernel
theorem dX4_init_5 : decode cX4_init 5 = .ok (.iconst 1, 1) := by decide +kernel
theorem dX4_init_6 : decode cX4_init 6 = .ok (.putfield 9, 3) := by decide +kernel
theorem dX4_init_9 : decode cX4_init 9 = .ok (.aload_n 0, 1) := by decide +kernel
theorem dX4_init_10 : decode cX4_init 10 = .ok (.bipush 20, 2) := by decide +kernel
theorem dX4_init_12 : decode cX4_init 12 = .ok (.newarray .int, 2) := by decide +kernel
theorem dX4_init_14 : decode cX4_init 14 = .ok (.putfield 15, 3) := by decide +kernel
theorem dX4_init_17 : decode cX4_init 17 = .ok (.aload_n 0, 1) := by decide +kernel
theorem dX4_init_18 : decode cX4_init 18 = .ok (.bipush 20, 2) := by decide +kernel
theorem dX4_init_20 : decode cX4_init 20 = .ok (.newarray .int, 2) := by decide +kernel
theorem dX4_init_22 : decode cX4_init 22 = .ok (.putfield 19, 3) := by decide +kernel
theorem dX4_init_25 : decode cX4_init 25 = .ok (.aload_n 0, 1) := by decide +kernel
theorem dX4_init_26 : decode cX4_init 26 = .ok (.bipush 20, 2) := by decide +kernel
theorem dX4_init_28 : decode cX4_init 28 = .ok (.newarray .int, 2) := by decide +kernel
theorem dX4_init_30 : decode cX4_init 30 = .ok (.putfield 22, 3) := by decide +kernel
theorem dX4_init_33 : decode cX4_init 33 = .ok (.aload_n 0, 1) := by decide +kernel
theorem dX4_init_34 : decode cX4_init 34 = .ok (.bipush 20, 2) := by decide +kernel
theorem dX4_init_36 : decode cX4_init 36 = .ok (.newarray .int, 2) := by decide +kernel
theorem dX4_init_38 : decode cX4_init 38 = .ok (.putfield 25, 3) := by decide +kernel
theorem dX4_init_41 : decode cX4_init 41 = .ok (.aload_n 0, 1) := by decide +kernel
theorem dX4_init_42 : decode cX4_init 42 = .ok (.bipush 20, 2) := by decide +kernel
theorem dX4_init_44 : decode cX4_init 44 = .ok (.newarray .int, 2) := by decide +kernel
theorem dX4_init_46 : decode cX4_init 46 = .ok (.putfield 28, 3) := by decide +kernel
theorem dX4_init_49 : decode cX4_init 49 = .ok (.aload_n 0, 1) := by decide +kernel
theorem dX4_init_50 : decode cX4_init 50 = .ok (.bipush 20, 2) := by decide +kernel
theorem dX4_init_52 : decode cX4_init 52 = .ok (.newarray .int, 2) := by decide +kernel
theorem dX4_init_54 : decode cX4_init 54 = .ok (.putfield 31, 3) := by decide +kernel
theorem dX4_init_57 : decode cX4_init 57 = .ok (.aload_n 0, 1) := by decide +kernel
theorem dX4_init_58 : decode cX4_init 58 = .ok (.bipush 20, 2) := by decide +kernel
theorem dX4_init_60 : decode cX4_init 60 = .ok (.newarray .int, 2) := by decide +kernel
theorem dX4_init_62 : decode cX4_init 62 = .ok (.putfield 34, 3) := by decide +kernel
theorem dX4_init_65 : decode cX4_init 65 = .ok (.aload_n 0, 1) := by decide +kernel
theorem dX4_init_66 : decode cX4_init 66 = .ok (.bipush 20, 2) := by decide +kernel
theorem dX4_init_68 : decode cX4_init 68 = .ok (.newarray .int, 2) := by decide +kernel
theorem dX4_init_70 : decode cX4_init 70 = .ok (.putfield 37, 3) := by decide +kernel
theorem dX4_init_73 : decode cX4_init 73 = .ok (.aload_n 0, 1) := by decide +kernel
theorem dX4_init_74 : decode cX4_init 74 = .ok (.getfield 15, 3) := by decide +kernel
theorem dX4_init_77 : decode cX4_init 77 = .ok (.iconst 0, 1) := by decide +kernel
theorem dX4_init_78 : decode cX4_init 78 = .ok (.iconst (-1), 1) := by decide +kernel
theorem dX4_init_79 : decode cX4_init 79 = .ok (.iastore, 1) := by decide +kernel
theorem dX4_init_80 : decode cX4_init 80 = .ok (.aload_n 0, 1) := by decide +kernel
theorem dX4_init_81 : decode cX4_init 81 = .ok (.getfield 34, 3) := by decide +kernel
theorem dX4_init_84 : decode cX4_init 84 = .ok (.iconst 0, 1) := by decide +kernel
theorem dX4_init_85 : decode cX4_init 85 = .ok (.iconst 1, 1) := by decide +kernel
theorem dX4_init_86 : decode cX4_init 86 = .ok (.iastore, 1) := by decide +kernel
theorem dX4_init_87 : decode cX4_init 87 = .ok (.return_, 1) := by decide +kernel
theorem dX4_copyFrom_0 : decode cX4_copyFrom 0 = .ok (.aload_n 0, 1) := by decide +kernel
theorem dX4_copyFrom_1 : decode cX4_copyFrom 1 = .ok (.aload_n 1, 1) := by decide +kernel
theorem dX4_copyFrom_2 : decode cX4_copyFrom 2 = .ok (.getfield 9, 3) := by decide +kernel
theorem dX4_copyFrom_5 : decode cX4_copyFrom 5 = .ok (.putfield 9, 3) := by decide +kernel
theorem dX4_copyFrom_8 : decode cX4_copyFrom 8 = .ok (.aload_n 1, 1) := by decide +kernel
theorem dX4_copyFrom_9 : decode cX4_copyFrom 9 = .ok (.getfield 15, 3) := by decide +kernel
theorem dX4_copyFrom_12 : decode cX4_copyFrom 12 = .ok (.aload_n 0, 1) := by decide +kernel
theorem dX4_copyFrom_13 : decode cX4_copyFrom 13 = .ok (.getfield 15, 3) := by decide +kernel
theorem dX4_copyFrom_16 : decode cX4_copyFrom 16 = .ok (.aload_n 0, 1) := by decide +kernel
theorem dX4_copyFrom_17 : decode cX4_copyFrom 17 = .ok (.getfield 9, 3) := by decide +kernel
theorem dX4_copyFrom_20 : decode cX4_copyFrom 20 = .ok (.invokestatic 40, 3) := by decide +kernel
theorem dX4_copyFrom_23 : decode cX4_copyFrom 23 = .ok (.aload_n 1, 1) := by decide +kernel
theorem dX4_copyFrom_24 : decode cX4_copyFrom 24 = .ok (.getfield 19, 3) := by decide +kernel
theorem dX4_copyFrom_27 : decode cX4_copyFrom 27 = .ok (.aload_n 0, 1) := by decide +kernel
theorem dX4_copyFrom_28 : decode cX4_copyFrom 28 = .ok (.getfield 19, 3) := by decide +kernel
theorem dX4_copyFrom_31 : decode cX4_copyFrom 31 = .ok (.aload_n 0, 1) := by decide +kernel
theorem dX4_copyFrom_32 : decode cX4_copyFrom 32 = .ok (.getfield 9, 3) := by decide +kernel
theorem dX4_copyFrom_35 : decode cX4_copyFrom 35 = .ok (.invokestatic 40, 3) := by decide +kernel
theorem dX4_copyFrom_38 : decode cX4_copyFrom 38 = .ok (.aload_n 1, 1) := by decide +kernel
theorem dX4_copyFrom_39 : decode cX4_copyFrom 39 = .ok (.getfield 22, 3) := by decide +kernel
theorem dX4_copyFrom_42 : decode cX4_copyFrom 42 = .ok (.aload_n 0, 1) := by decide +kernel
theorem dX4_copyFrom_43 : decode cX4_copyFrom 43 = .ok (.getfield 22, 3) := by decide +kernel
theorem dX4_copyFrom_46 : decode cX4_copyFrom 46 = .ok (.aload_n 0, 1) := by decide +kernel
theorem dX4_copyFrom_47 : decode cX4_copyFrom 47 = .ok (.getfield 9, 3) := by decide +kernel
theorem dX4_copyFrom_50 : decode cX4_copyFrom 50 = .ok (.invokestatic 40, 3) := by decide +kernel
theorem dX4_copyFrom_53 : decode cX4_copyFrom 53 = .ok (.aload_n 1, 1) := by decide +kernel
theorem dX4_copyFrom_54 : decode cX4_copyFrom 54 = .ok (.getfield 25, 3) := by decide +kernel
theorem dX4_copyFrom_57 : decode cX4_copyFrom 57 = .ok (.aload_n 0, 1) := by decide +kernel
theorem dX4_copyFrom_58 : decode cX4_copyFrom 58 = .ok (.getfield 25, 3) := by decide +kernel
theorem dX4_copyFrom_61 : decode cX4_copyFrom 61 = .ok (.aload_n 0, 1) := by decide +kernel
theorem dX4_copyFrom_62 : decode cX4_copyFrom 62 = .ok (.getfield 9, 3) := by decide +kernel
theorem dX4_copyFrom_65 : decode cX4_copyFrom 65 = .ok (.invokestatic 40, 3) := by decide +kernel
theorem dX4_copyFrom_68 : decode cX4_copyFrom 68 = .ok (.aload_n 1, 1) := by decide +kernel
theorem dX4_copyFrom_69 : decode cX4_copyFrom 69 = .ok (.getfield 28, 3) := by decide +kernel
theorem dX4_copyFrom_72 : decode cX4_copyFrom 72 = .ok (.aload_n 0, 1) := by decide +kernel
theorem dX4_copyFrom_73 : decode cX4_copyFrom 73 = .ok (.getfield 28, 3) := by decide +kernel
theorem dX4_copyFrom_76 : decode cX4_copyFrom 76 = .ok (.aload_n 0, 1) := by decide +kernel
theorem dX4_copyFrom_77 : decode cX4_copyFrom 77 = .ok (.getfield 9, 3) := by decide +kernel
theorem dX4_copyFrom_80 : decode cX4_copyFrom 80 = .ok (.invokestatic 40, 3) := by decide +kernel
theorem dX4_copyFrom_83 : decode cX4_copyFrom 83 = .ok (.aload_n 1, 1) := by decide +kernel
theorem dX4_copyFrom_84 : decode cX4_copyFrom 84 = .ok (.getfield 31, 3) := by decide +kernel
theorem dX4_copyFrom_87 : decode cX4_copyFrom 87 = .ok (.aload_n 0, 1) := by decide +kernel
theorem dX4_copyFrom_88 : decode cX4_copyFrom 88 = .ok (.getfield 31, 3) := by decide +kernel
theorem dX4_copyFrom_91 : decode cX4_copyFrom 91 = .ok (.aload_n 0, 1) := by decide +kernel
theorem dX4_copyFrom_92 : decode cX4_copyFrom 92 = .ok (.getfield 9, 3) := by decide +kernel
theorem dX4_copyFrom_95 : decode cX4_copyFrom 95 = .ok (.invokestatic 40, 3) := by decide +kernel
theorem dX4_copyFrom_98 : decode cX4_copyFrom 98 = .ok (.aload_n 1, 1) := by decide +kernel
theorem dX4_copyFrom_99 : decode cX4_copyFrom 99 = .ok (.getfield 34, 3) := by decide +kernel
theorem dX4_copyFrom_102 : decode cX4_copyFrom 102 = .ok (.aload_n 0, 1) := by decide +kernel
theorem dX4_copyFrom_103 : decode cX4_copyFrom 103 = .ok (.getfield 34, 3) := by decide +kernel
theorem dX4_copyFrom_106 : decode cX4_copyFrom 106 = .ok (.aload_n 0, 1) := by decide +kernel
theorem dX4_copyFrom_107 : decode cX4_copyFrom 107 = .ok (.getfield 9, 3) := by decide +kernel
theorem dX4_copyFrom_110 : decode cX4_copyFrom 110 = .ok (.invokestatic 40, 3) := by decide +kernel
theorem dX4_copyFrom_113 : decode cX4_copyFrom 113 = .ok (.aload_n 1, 1) := by decide +kernel
theorem dX4_copyFrom_114 : decode cX4_copyFrom 114 = .ok (.getfield 37, 3) := by decide +kernel
theorem dX4_copyFrom_117 : decode cX4_copyFrom 117 = .ok (.aload_n 0, 1) := by decide +kernel
theorem dX4_copyFrom_118 : decode cX4_copyFrom 118 = .ok (.getfield 37, 3) := by decide +kernel
theorem dX4_copyFrom_121 : decode cX4_copyFrom 121 = .ok (.aload_n 0, 1) := by decide +kernel
theorem dX4_copyFrom_122 : decode cX4_copyFrom 122 = .ok (.getfield 9, 3) := by decide +kernel
theorem dX4_copyFrom_125 : decode cX4_copyFrom 125 = .ok (.invokestatic 40, 3) := by decide +kernel
theorem dX4_copyFrom_128 : decode cX4_copyFrom 128 = .ok (.return_, 1) := by decide +kernel
theorem dX4_has_0 : decode cX4_has 0 = .ok (.iload_n 1, 1) := by decide +kernel
theorem dX4_has_1 : decode cX4_has 1 = .ok (.iconst 0, 1) := by decide +kernel
theorem dX4_has_2 : decode cX4_has 2 = .ok (.aload_n 0, 1) := by decide +kernel
theorem dX4_has_3 : decode cX4_has 3 = .ok (.getfield 9, 3) := by decide +kernel
theorem dX4_has_6 : decode cX4_has 6 = .ok (.iconst 1, 1) := by decide +kernel
theorem dX4_has_7 : decode cX4_has 7 = .ok (.isub, 1) := by decide +kernel
theorem dX4_has_8 : decode cX4_has 8 = .ok (.invokestatic 44, 3) := by decide +kernel
theorem dX4_has_11 : decode cX4_has 11 = .ok (.ireturn, 1) := by decide +kernel
theorem dX4_add_0 : decode cX4_add 0 = .ok (.aload_n 0, 1) := by decide +kernel
theorem dX4_add_1 : decode cX4_add 1 = .ok (.getfield 9, 3) := by decide +kernel
theorem dX4_add_4 : decode cX4_add 4 = .ok (.istore 5, 2) := by decide +kernel
theorem dX4_add_6 : decode cX4_add 6 = .ok (.aload_n 0, 1) := by decide +kernel
theorem dX4_add_7 : decode cX4_add 7 = .ok (.getfield 15, 3) := by decide +kernel
theorem dX4_add_10 : decode cX4_add 10 = .ok (.iload 5, 2) := by decide +kernel
theorem dX4_add_12 : decode cX4_add 12 = .ok (.iload_n 1, 1) := by decide +kernel
theorem dX4_add_13 : decode cX4_add 13 = .ok (.iastore, 1) := by decide +kernel
theorem dX4_add_14 : decode cX4_add 14 = .ok (.aload_n 0, 1) := by decide +kernel
theorem dX4_add_15 : decode cX4_add 15 = .ok (.getfield 19, 3) := by decide +kernel
theorem dX4_add_18 : decode cX4_add 18 = .ok (.iload 5, 2) := by decide +kernel
theorem dX4_add_20 : decode cX4_add 20 = .ok (.iload_n 2, 1) := by decide +kernel
theorem dX4_add_21 : decode cX4_add 21 = .ok (.iastore, 1) := by decide +kernel
theorem dX4_add_22 : decode cX4_add 22 = .ok (.aload_n 0, 1) := by decide +kernel
theorem dX4_add_23 : decode cX4_add 23 = .ok (.getfield 22, 3) := by decide +kernel
theorem dX4_add_26 : decode cX4_add 26 = .ok (.iload 5, 2) := by decide +kernel
theorem dX4_add_28 : decode cX4_add 28 = .ok (.iload_n 3, 1) := by decide +kernel
theorem dX4_add_29 : decode cX4_add 29 = .ok (.iastore, 1) := by decide +kernel
theorem dX4_add_30 : decode cX4_add 30 = .ok (.aload_n 0, 1) := by decide +kernel
theorem dX4_add_31 : decode cX4_add 31 = .ok (.getfield 25, 3) := by decide +kernel
theorem dX4_add_34 : decode cX4_add 34 = .ok (.iload 5, 2) := by decide +kernel
theorem dX4_add_36 : decode cX4_add 36 = .ok (.iload 4, 2) := by decide +kernel
theorem dX4_add_38 : decode cX4_add 38 = .ok (.iastore, 1) := by decide +kernel
theorem dX4_add_39 : decode cX4_add 39 = .ok (.aload_n 0, 1) := by decide +kernel
theorem dX4_add_40 : decode cX4_add 40 = .ok (.getfield 28, 3) := by decide +kernel
theorem dX4_add_43 : decode cX4_add 43 = .ok (.iload 5, 2) := by decide +kernel
theorem dX4_add_45 : decode cX4_add 45 = .ok (.aload_n 0, 1) := by decide +kernel
theorem dX4_add_46 : decode cX4_add 46 = .ok (.getfield 28, 3) := by decide +kernel
theorem dX4_add_49 : decode cX4_add 49 = .ok (.iload_n 1, 1) := by decide +kernel
theorem dX4_add_50 : decode cX4_add 50 = .ok (.iaload, 1) := by decide +kernel
theorem dX4_add_51 : decode cX4_add 51 = .ok (.iconst 1, 1) := by decide +kernel
theorem dX4_add_52 : decode cX4_add 52 = .ok (.iadd, 1) := by decide +kernel
theorem dX4_add_53 : decode cX4_add 53 = .ok (.iastore, 1) := by decide +kernel
theorem dX4_add_54 : decode cX4_add 54 = .ok (.aload_n 0, 1) := by decide +kernel
theorem dX4_add_55 : decode cX4_add 55 = .ok (.getfield 31, 3) := by decide +kernel
theorem dX4_add_58 : decode cX4_add 58 = .ok (.iload 5, 2) := by decide +kernel
theorem dX4_add_60 : decode cX4_add 60 = .ok (.aload_n 0, 1) := by decide +kernel
theorem dX4_add_61 : decode cX4_add 61 = .ok (.getfield 31, 3) := by decide +kernel
theorem dX4_add_64 : decode cX4_add 64 = .ok (.iload_n 1, 1) := by decide +kernel
theorem dX4_add_65 : decode cX4_add 65 = .ok (.iaload, 1) := by decide +kernel
theorem dX4_add_66 : decode cX4_add 66 = .ok (.iload_n 2, 1) := by decide +kernel
theorem dX4_add_67 : decode cX4_add 67 = .ok (.iadd, 1) := by decide +kernel
theorem dX4_add_68 : decode cX4_add 68 = .ok (.iastore, 1) := by decide +kernel
theorem dX4_add_69 : decode cX4_add 69 = .ok (.aload_n 0, 1) := by decide +kernel
theorem dX4_add_70 : decode cX4_add 70 = .ok (.getfield 34, 3) := by decide +kernel
theorem dX4_add_73 : decode cX4_add 73 = .ok (.iload 5, 2) := by decide +kernel
theorem dX4_add_75 : decode cX4_add 75 = .ok (.iload 4, 2) := by decide +kernel
theorem dX4_add_77 : decode cX4_add 77 = .ok (.iconst 1, 1) := by decide +kernel
theorem dX4_add_78 : decode cX4_add 78 = .ok (.if_icmp .ne 7, 3) := by decide +kernel
theorem dX4_add_81 : decode cX4_add 81 = .ok (.iconst 0, 1) := by decide +kernel
theorem dX4_add_82 : decode cX4_add 82 = .ok (.goto 9, 3) := by decide +kernel
theorem dX4_add_85 : decode cX4_add 85 = .ok (.aload_n 0, 1) := by decide +kernel
theorem dX4_add_86 : decode cX4_add 86 = .ok (.getfield 34, 3) := by decide +kernel
theorem dX4_add_89 : decode cX4_add 89 = .ok (.iload_n 1, 1) := by decide +kernel
theorem dX4_add_90 : decode cX4_add 90 = .ok (.iaload, 1) := by decide +kernel
theorem dX4_add_91 : decode cX4_add 91 = .ok (.iastore, 1) := by decide +kernel
theorem dX4_add_92 : decode cX4_add 92 = .ok (.aload_n 0, 1) := by decide +kernel
theorem dX4_add_93 : decode cX4_add 93 = .ok (.iload 5, 2) := by decide +kernel
theorem dX4_add_95 : decode cX4_add 95 = .ok (.invokevirtual 48, 3) := by decide +kernel
theorem dX4_add_98 : decode cX4_add 98 = .ok (.aload_n 0, 1) := by decide +kernel
theorem dX4_add_99 : decode cX4_add 99 = .ok (.dup, 1) := by decide +kernel
theorem dX4_add_100 : decode cX4_add 100 = .ok (.getfield 9, 3) := by decide +kernel
theorem dX4_add_103 : decode cX4_add 103 = .ok (.iconst 1, 1) := by decide +kernel
theorem dX4_add_104 : decode cX4_add 104 = .ok (.iadd, 1) := by decide +kernel
theorem dX4_add_105 : decode cX4_add 105 = .ok (.putfield 9, 3) := by decide +kernel
theorem dX4_add_108 : decode cX4_add 108 = .ok (.iload 5, 2) := by decide +kernel
theorem dX4_add_110 : decode cX4_add 110 = .ok (.ireturn, 1) := by decide +kernel
theorem dX4_putInOrder_0 : decode cX4_putInOrder 0 = .ok (.aload_n 0, 1) := by decide +kernel
theorem dX4_putInOrder_1 : decode cX4_putInOrder 1 = .ok (.getfield 15, 3) := by decide +kernel
theorem dX4_putInOrder_4 : decode cX4_putInOrder 4 = .ok (.iload_n 1, 1) := by decide +kernel
theorem dX4_putInOrder_5 : decode cX4_putInOrder 5 = .ok (.iaload, 1) := by decide +kernel
theorem dX4_putInOrder_6 : decode cX4_putInOrder 6 = .ok (.istore_n 2, 1) := by decide +kernel
theorem dX4_putInOrder_7 : decode cX4_putInOrder 7 = .ok (.iconst 0, 1) := by decide +kernel
theorem dX4_putInOrder_8 : decode cX4_putInOrder 8 = .ok (.istore_n 3, 1) := by decide +kernel
theorem dX4_putInOrder_9 : decode cX4_putInOrder 9 = .ok (.iload_n 3, 1) := by decide +kernel
theorem dX4_putInOrder_10 : decode cX4_putInOrder 10 = .ok (.aload_n 0, 1) := by decide +kernel
theorem dX4_putInOrder_11 : decode cX4_putInOrder 11 = .ok (.getfield 9, 3) := by decide +kernel
theorem dX4_putInOrder_14 : decode cX4_putInOrder 14 = .ok (.if_icmp .ge 19, 3) := by decide +kernel
theorem dX4_putInOrder_17 : decode cX4_putInOrder 17 = .ok (.aload_n 0, 1) := by decide +kernel
theorem dX4_putInOrder_18 : decode cX4_putInOrder 18 = .ok (.getfield 37, 3) := by decide +kernel
theorem dX4_putInOrder_21 : decode cX4_putInOrder 21 = .ok (.iload_n 3, 1) := by decide +kernel
theorem dX4_putInOrder_22 : decode cX4_putInOrder 22 = .ok (.iaload, 1) := by decide +kernel
theorem dX4_putInOrder_23 : decode cX4_putInOrder 23 = .ok (.iload_n 2, 1) := by decide +kernel
theorem dX4_putInOrder_24 : decode cX4_putInOrder 24 = .ok (.if_icmp .eq 9, 3) := by decide +kernel
theorem dX4_putInOrder_27 : decode cX4_putInOrder 27 = .ok (.iinc 3 1, 3) := by decide +kernel
theorem dX4_putInOrder_30 : decode cX4_putInOrder 30 = .ok (.goto (-21), 3) := by decide +kernel
theorem dX4_putInOrder_33 : decode cX4_putInOrder 33 = .ok (.iinc 3 1, 3) := by decide +kernel
theorem dX4_putInOrder_36 : decode cX4_putInOrder 36 = .ok (.iload_n 3, 1) := by decide +kernel
theorem dX4_putInOrder_37 : decode cX4_putInOrder 37 = .ok (.aload_n 0, 1) := by decide +kernel
theorem dX4_putInOrder_38 : decode cX4_putInOrder 38 = .ok (.getfield 9, 3) := by decide +kernel
theorem dX4_putInOrder_41 : decode cX4_putInOrder 41 = .ok (.if_icmp .ge 29, 3) := by decide +kernel
theorem dX4_putInOrder_44 : decode cX4_putInOrder 44 = .ok (.aload_n 0, 1) := by decide +kernel
theorem dX4_putInOrder_45 : decode cX4_putInOrder 45 = .ok (.getfield 28, 3) := by decide +kernel
theorem dX4_putInOrder_48 : decode cX4_putInOrder 48 = .ok (.aload_n 0, 1) := by decide +kernel
theorem dX4_putInOrder_49 : decode cX4_putInOrder 49 = .ok (.getfield 37, 3) := by decide +kernel
theorem dX4_putInOrder_52 : decode cX4_putInOrder 52 = .ok (.iload_n 3, 1) := by decide +kernel
theorem dX4_putInOrder_53 : decode cX4_putInOrder 53 = .ok (.iaload, 1) := by decide +kernel
theorem dX4_putInOrder_54 : decode cX4_putInOrder 54 = .ok (.iaload, 1) := by decide +kernel
theorem dX4_putInOrder_55 : decode cX4_putInOrder 55 = .ok (.aload_n 0, 1) := by decide +kernel
theorem dX4_putInOrder_56 : decode cX4_putInOrder 56 = .ok (.getfield 28, 3) := by decide +kernel
theorem dX4_putInOrder_59 : decode cX4_putInOrder 59 = .ok (.iload_n 2, 1) := by decide +kernel
theorem dX4_putInOrder_60 : decode cX4_putInOrder 60 = .ok (.iaload, 1) := by decide +kernel
theorem dX4_putInOrder_61 : decode cX4_putInOrder 61 = .ok (.if_icmp .le 9, 3) := by decide +kernel
theorem dX4_putInOrder_64 : decode cX4_putInOrder 64 = .ok (.iinc 3 1, 3) := by decide +kernel
theorem dX4_putInOrder_67 : decode cX4_putInOrder 67 = .ok (.goto (-31), 3) := by decide +kernel
theorem dX4_putInOrder_70 : decode cX4_putInOrder 70 = .ok (.aload_n 0, 1) := by decide +kernel
theorem dX4_putInOrder_71 : decode cX4_putInOrder 71 = .ok (.getfield 9, 3) := by decide +kernel
theorem dX4_putInOrder_74 : decode cX4_putInOrder 74 = .ok (.istore 4, 2) := by decide +kernel
theorem dX4_putInOrder_76 : decode cX4_putInOrder 76 = .ok (.iload 4, 2) := by decide +kernel
theorem dX4_putInOrder_78 : decode cX4_putInOrder 78 = .ok (.iload_n 3, 1) := by decide +kernel
theorem dX4_putInOrder_79 : decode cX4_putInOrder 79 = .ok (.if_icmp .le 25, 3) := by decide +kernel
theorem dX4_putInOrder_82 : decode cX4_putInOrder 82 = .ok (.aload_n 0, 1) := by decide +kernel
theorem dX4_putInOrder_83 : decode cX4_putInOrder 83 = .ok (.getfield 37, 3) := by decide +kernel
theorem dX4_putInOrder_86 : decode cX4_putInOrder 86 = .ok (.iload 4, 2) := by decide +kernel
theorem dX4_putInOrder_88 : decode cX4_putInOrder 88 = .ok (.aload_n 0, 1) := by decide +kernel
theorem dX4_putInOrder_89 : decode cX4_putInOrder 89 = .ok (.getfield 37, 3) := by decide +kernel
theorem dX4_putInOrder_92 : decode cX4_putInOrder 92 = .ok (.iload 4, 2) := by decide +kernel
theorem dX4_putInOrder_94 : decode cX4_putInOrder 94 = .ok (.iconst 1, 1) := by decide +kernel
theorem dX4_putInOrder_95 : decode cX4_putInOrder 95 = .ok (.isub, 1) := by decide +kernel
theorem dX4_putInOrder_96 : decode cX4_putInOrder 96 = .ok (.iaload, 1) := by decide +kernel
theorem dX4_putInOrder_97 : decode cX4_putInOrder 97 = .ok (.iastore, 1) := by decide +kernel
theorem dX4_putInOrder_98 : decode cX4_putInOrder 98 = .ok (.iinc 4 (-1), 3) := by decide +kernel
theorem dX4_putInOrder_101 : decode cX4_putInOrder 101 = .ok (.goto (-25), 3) := by decide +kernel
theorem dX4_putInOrder_104 : decode cX4_putInOrder 104 = .ok (.iload_n 3, 1) := by decide +kernel
theorem dX4_putInOrder_105 : decode cX4_putInOrder 105 = .ok (.aload_n 0, 1) := by decide +kernel
theorem dX4_putInOrder_106 : decode cX4_putInOrder 106 = .ok (.getfield 9, 3) := by decide +kernel
theorem dX4_putInOrder_109 : decode cX4_putInOrder 109 = .ok (.if_icmp .gt 10, 3) := by decide +kernel
theorem dX4_putInOrder_112 : decode cX4_putInOrder 112 = .ok (.aload_n 0, 1) := by decide +kernel
theorem dX4_putInOrder_113 : decode cX4_putInOrder 113 = .ok (.getfield 37, 3) := by decide +kernel
theorem dX4_putInOrder_116 : decode cX4_putInOrder 116 = .ok (.iload_n 3, 1) := by decide +kernel
theorem dX4_putInOrder_117 : decode cX4_putInOrder 117 = .ok (.iload_n 1, 1) := by decide +kernel
theorem dX4_putInOrder_118 : decode cX4_putInOrder 118 = .ok (.iastore, 1) := by decide +kernel
theorem dX4_putInOrder_119 : decode cX4_putInOrder 119 = .ok (.return_, 1) := by decide +kernel
theorem dX4_isAtOrBeyond_0 : decode cX4_isAtOrBeyond 0 = .ok (.iload_n 1, 1) := by decide +kernel
theorem dX4_isAtOrBeyond_1 : decode cX4_isAtOrBeyond 1 = .ok (.istore_n 3, 1) := by decide +kernel
theorem dX4_isAtOrBeyond_2 : decode cX4_isAtOrBeyond 2 = .ok (.iconst 0, 1) := by decide +kernel
theorem dX4_isAtOrBeyond_3 : decode cX4_isAtOrBeyond 3 = .ok (.istore 4, 2) := by decide +kernel
theorem dX4_isAtOrBeyond_5 : decode cX4_isAtOrBeyond 5 = .ok (.iload 4, 2) := by decide +kernel
theorem dX4_isAtOrBeyond_7 : decode cX4_isAtOrBeyond 7 = .ok (.bipush 20, 2) := by decide +kernel
theorem dX4_isAtOrBeyond_9 : decode cX4_isAtOrBeyond 9 = .ok (.if_icmp .ge 21, 3) := by decide +kernel
theorem dX4_isAtOrBeyond_12 : decode cX4_isAtOrBeyond 12 = .ok (.iload_n 3, 1) := by decide +kernel
theorem dX4_isAtOrBeyond_13 : decode cX4_isAtOrBeyond 13 = .ok (.iload_n 2, 1) := by decide +kernel
theorem dX4_isAtOrBeyond_14 : decode cX4_isAtOrBeyond 14 = .ok (.if_icmp .le 16, 3) := by decide +kernel
theorem dX4_isAtOrBeyond_17 : decode cX4_isAtOrBeyond 17 = .ok (.aload_n 0, 1) := by decide +kernel
theorem dX4_isAtOrBeyond_18 : decode cX4_isAtOrBeyond 18 = .ok (.getfield 15, 3) := by decide +kernel
theorem dX4_isAtOrBeyond_21 : decode cX4_isAtOrBeyond 21 = .ok (.iload_n 3, 1) := by decide +kernel
theorem dX4_isAtOrBeyond_22 : decode cX4_isAtOrBeyond 22 = .ok (.iaload, 1) := by decide +kernel
theorem dX4_isAtOrBeyond_23 : decode cX4_isAtOrBeyond 23 = .ok (.istore_n 3, 1) := by decide +kernel
theorem dX4_isAtOrBeyond_24 : decode cX4_isAtOrBeyond 24 = .ok (.iinc 4 1, 3) := by decide +kernel
theorem dX4_isAtOrBeyond_27 : decode cX4_isAtOrBeyond 27 = .ok (.goto (-22), 3) := by decide +kernel
theorem dX4_isAtOrBeyond_30 : decode cX4_isAtOrBeyond 30 = .ok (.iload_n 3, 1) := by decide +kernel
theorem dX4_isAtOrBeyond_31 : decode cX4_isAtOrBeyond 31 = .ok (.iload_n 2, 1) := by decide +kernel
theorem dX4_isAtOrBeyond_32 : decode cX4_isAtOrBeyond 32 = .ok (.if_icmp .ne 7, 3) := by decide +kernel
theorem dX4_isAtOrBeyond_35 : decode cX4_isAtOrBeyond 35 = .ok (.iconst 1, 1) := by decide +kernel
theorem dX4_isAtOrBeyond_36 : decode cX4_isAtOrBeyond 36 = .ok (.goto 4, 3) := by decide +kernel
theorem dX4_isAtOrBeyond_39 : decode cX4_isAtOrBeyond 39 = .ok (.iconst 0, 1) := by decide +kernel
theorem dX4_isAtOrBeyond_40 : decode cX4_isAtOrBeyond 40 = .ok (.ireturn, 1) := by decide +kernel
theorem dX4_effortOfStreet_0 : decode cX4_effortOfStreet 0 = .ok (.iload_n 3, 1) := by decide +kernel
theorem dX4_effortOfStreet_1 : decode cX4_effortOfStreet 1 = .ok (.iconst 1, 1) := by decide +kernel
theorem dX4_effortOfStreet_2 : decode cX4_effortOfStreet 2 = .ok (.if_icmp .ne 8, 3) := by decide +kernel
theorem dX4_effortOfStreet_5 : decode cX4_effortOfStreet 5 = .ok (.bipush 20, 2) := by decide +kernel
theorem dX4_effortOfStreet_7 : decode cX4_effortOfStreet 7 = .ok (.goto 5, 3) := by decide +kernel
theorem dX4_effortOfStreet_10 : decode cX4_effortOfStreet 10 = .ok (.bipush 10, 2) := by decide +kernel
theorem dX4_effortOfStreet_12 : decode cX4_effortOfStreet 12 = .ok (.istore 4, 2) := by decide +kernel
theorem dX4_effortOfStreet_14 : decode cX4_effortOfStreet 14 = .ok (.aload_n 0, 1) := by decide +kernel
theorem dX4_effortOfStreet_15 : decode cX4_effortOfStreet 15 = .ok (.getfield 22, 3) := by decide +kernel
theorem dX4_effortOfStreet_18 : decode cX4_effortOfStreet 18 = .ok (.iload_n 1, 1) := by decide +kernel
theorem dX4_effortOfStreet_19 : decode cX4_effortOfStreet 19 = .ok (.iaload, 1) := by decide +kernel
theorem dX4_effortOfStreet_20 : decode cX4_effortOfStreet 20 = .ok (.aload_n 0, 1) := by decide +kernel
theorem dX4_effortOfStreet_21 : decode cX4_effortOfStreet 21 = .ok (.getfield 22, 3) := by decide +kernel
theorem dX4_effortOfStreet_24 : decode cX4_effortOfStreet 24 = .ok (.aload_n 0, 1) := by decide +kernel
theorem dX4_effortOfStreet_25 : decode cX4_effortOfStreet 25 = .ok (.getfield 15, 3) := by decide +kernel
theorem dX4_effortOfStreet_28 : decode cX4_effortOfStreet 28 = .ok (.iload_n 1, 1) := by decide +kernel
theorem dX4_effortOfStreet_29 : decode cX4_effortOfStreet 29 = .ok (.iaload, 1) := by decide +kernel
theorem dX4_effortOfStreet_30 : decode cX4_effortOfStreet 30 = .ok (.iaload, 1) := by decide +kernel
theorem dX4_effortOfStreet_31 : decode cX4_effortOfStreet 31 = .ok (.isub, 1) := by decide +kernel
theorem dX4_effortOfStreet_32 : decode cX4_effortOfStreet 32 = .ok (.istore 5, 2) := by decide +kernel
theorem dX4_effortOfStreet_34 : decode cX4_effortOfStreet 34 = .ok (.iload 5, 2) := by decide +kernel
theorem dX4_effortOfStreet_36 : decode cX4_effortOfStreet 36 = .ok (.ifCond .le 16, 3) := by decide +kernel
theorem dX4_effortOfStreet_39 : decode cX4_effortOfStreet 39 = .ok (.iload 5, 2) := by decide +kernel
theorem dX4_effortOfStreet_41 : decode cX4_effortOfStreet 41 = .ok (.iload 4, 2) := by decide +kernel
theorem dX4_effortOfStreet_43 : decode cX4_effortOfStreet 43 = .ok (.iload_n 2, 1) := by decide +kernel
theorem dX4_effortOfStreet_44 : decode cX4_effortOfStreet 44 = .ok (.iadd, 1) := by decide +kernel
theorem dX4_effortOfStreet_45 : decode cX4_effortOfStreet 45 = .ok (.imul, 1) := by decide +kernel
theorem dX4_effortOfStreet_46 : decode cX4_effortOfStreet 46 = .ok (.iload 4, 2) := by decide +kernel
theorem dX4_effortOfStreet_48 : decode cX4_effortOfStreet 48 = .ok (.idiv, 1) := by decide +kernel
theorem dX4_effortOfStreet_49 : decode cX4_effortOfStreet 49 = .ok (.goto 6, 3) := by decide +kernel
theorem dX4_effortOfStreet_52 : decode cX4_effortOfStreet 52 = .ok (.iload 5, 2) := by decide +kernel
theorem dX4_effortOfStreet_54 : decode cX4_effortOfStreet 54 = .ok (.ineg, 1) := by decide +kernel
theorem dX4_effortOfStreet_55 : decode cX4_effortOfStreet 55 = .ok (.istore 6, 2) := by decide +kernel
theorem dX4_effortOfStreet_57 : decode cX4_effortOfStreet 57 = .ok (.iconst 2, 1) := by decide +kernel
theorem dX4_effortOfStreet_58 : decode cX4_effortOfStreet 58 = .ok (.aload_n 0, 1) := by decide +kernel
theorem dX4_effortOfStreet_59 : decode cX4_effortOfStreet 59 = .ok (.getfield 19, 3) := by decide +kernel
theorem dX4_effortOfStreet_62 : decode cX4_effortOfStreet 62 = .ok (.iload_n 1, 1) := by decide +kernel
theorem dX4_effortOfStreet_63 : decode cX4_effortOfStreet 63 = .ok (.iaload, 1) := by decide +kernel
theorem dX4_effortOfStreet_64 : decode cX4_effortOfStreet 64 = .ok (.imul, 1) := by decide +kernel
theorem dX4_effortOfStreet_65 : decode cX4_effortOfStreet 65 = .ok (.iload 6, 2) := by decide +kernel
theorem dX4_effortOfStreet_67 : decode cX4_effortOfStreet 67 = .ok (.iadd, 1) := by decide +kernel
theorem dX4_effortOfStreet_68 : decode cX4_effortOfStreet 68 = .ok (.ireturn, 1) := by decide +kernel
theorem dX5_init_0 : decode cX5_init 0 = .ok (.aload_n 0, 1) := by decide +kernel
theorem dX5_init_1 : decode cX5_init 1 = .ok (.invokespecial 3, 3) := by decide +kernel
theorem dX5_init_4 : decode cX5_init 4 = .ok (.aload_n 0, 1) := by decide +kernel
theorem dX5_init_5 : decode cX5_init 5 = .ok (.iconst 0, 1) := by decide +kernel
theorem dX5_init_6 : decode cX5_init 6 = .ok (.putfield 9, 3) := by decide +kernel
theorem dX5_init_9 : decode cX5_init 9 = .ok (.aload_n 0, 1) := by decide +kernel
theorem dX5_init_10 : decode cX5_init 10 = .ok (.bipush 60, 2) := by decide +kernel
theorem dX5_init_12 : decode cX5_init 12 = .ok (.newarray .char, 2) := by decide +kernel
theorem dX5_init_14 : decode cX5_init 14 = .ok (.putfield 15, 3) := by decide +kernel
theorem dX5_init_17 : decode cX5_init 17 = .ok (.aload_n 0, 1) := by decide +kernel
theorem dX5_init_18 : decode cX5_init 18 = .ok (.bipush 32, 2) := by decide +kernel
theorem dX5_init_20 : decode cX5_init 20 = .ok (.putfield 19, 3) := by decide +kernel
theorem dX5_init_23 : decode cX5_init 23 = .ok (.aload_n 0, 1) := by decide +kernel
theorem dX5_init_24 : decode cX5_init 24 = .ok (.iconst 0, 1) := by decide +kernel
theorem dX5_init_25 : decode cX5_init 25 = .ok (.putfield 23, 3) := by decide +kernel
theorem dX5_init_28 : decode cX5_init 28 = .ok (.aload_n 0, 1) := by decide +kernel
theorem dX5_init_29 : decode cX5_init 29 = .ok (.iconst 3, 1) := by decide +kernel
theorem dX5_init_30 : decode cX5_init 30 = .ok (.newarray .int, 2) := by decide +kernel
theorem dX5_init_32 : decode cX5_init 32 = .ok (.putfield 26, 3) := by decide +kernel
theorem dX5_init_35 : decode cX5_init 35 = .ok (.return_, 1) := by decide +kernel
theorem dX5_append_0 : decode cX5_append 0 = .ok (.aload_n 0, 1) := by decide +kernel
theorem dX5_append_1 : decode cX5_append 1 = .ok (.getfield 9, 3) := by decide +kernel
theorem dX5_append_4 : decode cX5_append 4 = .ok (.bipush 60, 2) := by decide +kernel
theorem dX5_append_6 : decode cX5_append 6 = .ok (.if_icmp .lt 6, 3) := by decide +kernel
theorem dX5_append_9 : decode cX5_append 9 = .ok (.bipush (-3), 2) := by decide +kernel
theorem dX5_append_11 : decode cX5_append 11 = .ok (.ireturn, 1) := by decide +kernel
theorem dX5_append_12 : decode cX5_append 12 = .ok (.aload_n 0, 1) := by decide +kernel
theorem dX5_append_13 : decode cX5_append 13 = .ok (.getfield 15, 3) := by decide +kernel
theorem dX5_append_16 : decode cX5_append 16 = .ok (.aload_n 0, 1) := by decide +kernel
theorem dX5_append_17 : decode cX5_append 17 = .ok (.getfield 9, 3) := by decide +kernel
theorem dX5_append_20 : decode cX5_append 20 = .ok (.iload_n 1, 1) := by decide +kernel
theorem dX5_append_21 : decode cX5_append 21 = .ok (.castore, 1) := by decide +kernel
theorem dX5_append_22 : decode cX5_append 22 = .ok (.aload_n 0, 1) := by decide +kernel
theorem dX5_append_23 : decode cX5_append 23 = .ok (.dup, 1) := by decide +kernel
theorem dX5_append_24 : decode cX5_append 24 = .ok (.getfield 9, 3) := by decide +kernel
theorem dX5_append_27 : decode cX5_append 27 = .ok (.iconst 1, 1) := by decide +kernel
theorem dX5_append_28 : decode cX5_append 28 = .ok (.iadd, 1) := by decide +kernel
theorem dX5_append_29 : decode cX5_append 29 = .ok (.putfield 9, 3) := by decide +kernel
theorem dX5_append_32 : decode cX5_append 32 = .ok (.aload_n 0, 1) := by decide +kernel
theorem dX5_append_33 : decode cX5_append 33 = .ok (.getfield 9, 3) := by decide +kernel
theorem dX5_append_36 : decode cX5_append 36 = .ok (.ireturn, 1) := by decide +kernel
theorem dX5_readOrder_0 : decode cX5_readOrder 0 = .ok (.iload_n 1, 1) := by decide +kernel
theorem dX5_readOrder_1 : decode cX5_readOrder 1 = .ok (.iconst 0, 1) := by decide +kernel
theorem dX5_readOrder_2 : decode cX5_readOrder 2 = .ok (.aload_n 0, 1) := by decide +kernel
theorem dX5_readOrder_3 : decode cX5_readOrder 3 = .ok (.getfield 9, 3) := by decide +kernel
theorem dX5_readOrder_6 : decode cX5_readOrder 6 = .ok (.iconst 1, 1) := by decide +kernel
theorem dX5_readOrder_7 : decode cX5_readOrder 7 = .ok (.isub, 1) := by decide +kernel
theorem dX5_readOrder_8 : decode cX5_readOrder 8 = .ok (.invokestatic 30, 3) := by decide +kernel
theorem dX5_readOrder_11 : decode cX5_readOrder 11 = .ok (.ifCond .ne 5, 3) := by decide +kernel
theorem dX5_readOrder_14 : decode cX5_readOrder 14 = .ok (.iconst 0, 1) := by decide +kernel
theorem dX5_readOrder_15 : decode cX5_readOrder 15 = .ok (.ireturn, 1) := by decide +kernel
theorem dX5_readOrder_16 : decode cX5_readOrder 16 = .ok (.aload_n 0, 1) := by decide +kernel
theorem dX5_readOrder_17 : decode cX5_readOrder 17 = .ok (.aload_n 0, 1) := by decide +kernel
theorem dX5_readOrder_18 : decode cX5_readOrder 18 = .ok (.getfield 15, 3) := by decide +kernel
theorem dX5_readOrder_21 : decode cX5_readOrder 21 = .ok (.iload_n 1, 1) := by decide +kernel
theorem dX5_readOrder_22 : decode cX5_readOrder 22 = .ok (.caload, 1) := by decide +kernel
theorem dX5_readOrder_23 : decode cX5_readOrder 23 = .ok (.putfield 19, 3) := by decide +kernel
theorem dX5_readOrder_26 : decode cX5_readOrder 26 = .ok (.aload_n 0, 1) := by decide +kernel
theorem dX5_readOrder_27 : decode cX5_readOrder 27 = .ok (.iload_n 1, 1) := by decide +kernel
theorem dX5_readOrder_28 : decode cX5_readOrder 28 = .ok (.iconst 1, 1) := by decide +kernel
theorem dX5_readOrder_29 : decode cX5_readOrder 29 = .ok (.iadd, 1) := by decide +kernel
theorem dX5_readOrder_30 : decode cX5_readOrder 30 = .ok (.putfield 23, 3) := by decide +kernel
theorem dX5_readOrder_33 : decode cX5_readOrder 33 = .ok (.aload_n 0, 1) := by decide +kernel
theorem dX5_readOrder_34 : decode cX5_readOrder 34 = .ok (.getfield 19, 3) := by decide +kernel
theorem dX5_readOrder_37 : decode cX5_readOrder 37 = .ok (.invokestatic 34, 3) := by decide +kernel
theorem dX5_readOrder_40 : decode cX5_readOrder 40 = .ok (.istore_n 2, 1) := by decide +kernel
theorem dX5_readOrder_41 : decode cX5_readOrder 41 = .ok (.iconst 0, 1) := by decide +kernel
theorem dX5_readOrder_42 : decode cX5_readOrder 42 = .ok (.istore_n 3, 1) := by decide +kernel
theorem dX5_readOrder_43 : decode cX5_readOrder 43 = .ok (.iload_n 3, 1) := by decide +kernel
theorem dX5_readOrder_44 : decode cX5_readOrder 44 = .ok (.iload_n 2, 1) := by decide +kernel
theorem dX5_readOrder_45 : decode cX5_readOrder 45 = .ok (.if_icmp .ge 52, 3) := by decide +kernel
theorem dX5_readOrder_48 : decode cX5_readOrder 48 = .ok (.aload_n 0, 1) := by decide +kernel
theorem dX5_readOrder_49 : decode cX5_readOrder 49 = .ok (.invokevirtual 38, 3) := by decide +kernel
theorem dX5_readOrder_52 : decode cX5_readOrder 52 = .ok (.istore 4, 2) := by decide +kernel
theorem dX5_readOrder_54 : decode cX5_readOrder 54 = .ok (.iload 4, 2) := by decide +kernel
theorem dX5_readOrder_56 : decode cX5_readOrder 56 = .ok (.iconst (-1), 1) := by decide +kernel
theorem dX5_readOrder_57 : decode cX5_readOrder 57 = .ok (.if_icmp .eq 24, 3) := by decide +kernel
theorem dX5_readOrder_60 : decode cX5_readOrder 60 = .ok (.aload_n 0, 1) := by decide +kernel
theorem dX5_readOrder_61 : decode cX5_readOrder 61 = .ok (.iload_n 3, 1) := by decide +kernel
theorem dX5_readOrder_62 : decode cX5_readOrder 62 = .ok (.iload_n 2, 1) := by decide +kernel
theorem dX5_readOrder_63 : decode cX5_readOrder 63 = .ok (.iconst 1, 1) := by decide +kernel
theorem dX5_readOrder_64 : decode cX5_readOrder 64 = .ok (.isub, 1) := by decide +kernel
theorem dX5_readOrder_65 : decode cX5_readOrder 65 = .ok (.if_icmp .ne 8, 3) := by decide +kernel
theorem dX5_readOrder_68 : decode cX5_readOrder 68 = .ok (.bipush 59, 2) := by decide +kernel
theorem dX5_readOrder_70 : decode cX5_readOrder 70 = .ok (.goto 5, 3) := by decide +kernel
theorem dX5_readOrder_73 : decode cX5_readOrder 73 = .ok (.bipush 44, 2) := by decide +kernel
theorem dX5_readOrder_75 : decode cX5_readOrder 75 = .ok (.invokevirtual 42, 3) := by decide +kernel
theorem dX5_readOrder_78 : decode cX5_readOrder 78 = .ok (.ifCond .ne 5, 3) := by decide +kernel
theorem dX5_readOrder_81 : decode cX5_readOrder 81 = .ok (.iconst 0, 1) := by decide +kernel
theorem dX5_readOrder_82 : decode cX5_readOrder 82 = .ok (.ireturn, 1) := by decide +kernel
theorem dX5_readOrder_83 : decode cX5_readOrder 83 = .ok (.aload_n 0, 1) := by decide +kernel
theorem dX5_readOrder_84 : decode cX5_readOrder 84 = .ok (.getfield 26, 3) := by decide +kernel
theorem dX5_readOrder_87 : decode cX5_readOrder 87 = .ok (.iload_n 3, 1) := by decide +kernel
theorem dX5_readOrder_88 : decode cX5_readOrder 88 = .ok (.iload 4, 2) := by decide +kernel
theorem dX5_readOrder_90 : decode cX5_readOrder 90 = .ok (.iastore, 1) := by decide +kernel
theorem dX5_readOrder_91 : decode cX5_readOrder 91 = .ok (.iinc 3 1, 3) := by decide +kernel
theorem dX5_readOrder_94 : decode cX5_readOrder 94 = .ok (.goto (-51), 3) := by decide +kernel
theorem dX5_readOrder_97 : decode cX5_readOrder 97 = .ok (.iload_n 2, 1) := by decide +kernel
theorem dX5_readOrder_98 : decode cX5_readOrder 98 = .ok (.ifCond .le 7, 3) := by decide +kernel
theorem dX5_readOrder_101 : decode cX5_readOrder 101 = .ok (.iconst 1, 1) := by decide +kernel
theorem dX5_readOrder_102 : decode cX5_readOrder 102 = .ok (.goto 4, 3) := by decide +kernel
theorem dX5_readOrder_105 : decode cX5_readOrder 105 = .ok (.iconst 0, 1) := by decide +kernel
theorem dX5_readOrder_106 : decode cX5_readOrder 106 = .ok (.ireturn, 1) := by decide +kernel
theorem dX5_numbersOf_0 : decode cX5_numbersOf 0 = .ok (.iload_n 0, 1) := by decide +kernel
theorem dX5_numbersOf_1 : decode cX5_numbersOf 1 = .ok (.tableswitch 85 98 112 #[79, 85, 83, 85, 85, 77, 85, 85, 85, 85, 85, 85, 81, 85, 75], 75) := by decide +kernel
theorem dX5_numbersOf_76 : decode cX5_numbersOf 76 = .ok (.iconst 3, 1) := by decide +kernel
theorem dX5_numbersOf_77 : decode cX5_numbersOf 77 = .ok (.ireturn, 1) := by decide +kernel
theorem dX5_numbersOf_78 : decode cX5_numbersOf 78 = .ok (.iconst 2, 1) := by decide +kernel
theorem dX5_numbersOf_79 : decode cX5_numbersOf 79 = .ok (.ireturn, 1) := by decide +kernel
theorem dX5_numbersOf_80 : decode cX5_numbersOf 80 = .ok (.iconst 2, 1) := by decide +kernel
theorem dX5_numbersOf_81 : decode cX5_numbersOf 81 = .ok (.ireturn, 1) := by decide +kernel
theorem dX5_numbersOf_82 : decode cX5_numbersOf 82 = .ok (.iconst 1, 1) := by decide +kernel
theorem dX5_numbersOf_83 : decode cX5_numbersOf 83 = .ok (.ireturn, 1) := by decide +kernel
theorem dX5_numbersOf_84 : decode cX5_numbersOf 84 = .ok (.iconst 1, 1) := by decide +kernel
theorem dX5_numbersOf_85 : decode cX5_numbersOf 85 = .ok (.ireturn, 1) := by decide +kernel
theorem dX5_numbersOf_86 : decode cX5_numbersOf 86 = .ok (.iconst 0, 1) := by decide +kernel
theorem dX5_numbersOf_87 : decode cX5_numbersOf 87 = .ok (.ireturn, 1) := by decide +kernel
theorem dX5_readNumber_0 : decode cX5_readNumber 0 = .ok (.iconst 0, 1) := by decide +kernel
theorem dX5_readNumber_1 : decode cX5_readNumber 1 = .ok (.istore_n 1, 1) := by decide +kernel
theorem dX5_readNumber_2 : decode cX5_readNumber 2 = .ok (.iconst 0, 1) := by decide +kernel
theorem dX5_readNumber_3 : decode cX5_readNumber 3 = .ok (.istore_n 2, 1) := by decide +kernel
theorem dX5_readNumber_4 : decode cX5_readNumber 4 = .ok (.iload_n 2, 1) := by decide +kernel
theorem dX5_readNumber_5 : decode cX5_readNumber 5 = .ok (.iconst 3, 1) := by decide +kernel
theorem dX5_readNumber_6 : decode cX5_readNumber 6 = .ok (.if_icmp .ge 67, 3) := by decide +kernel
theorem dX5_readNumber_9 : decode cX5_readNumber 9 = .ok (.aload_n 0, 1) := by decide +kernel
theorem dX5_readNumber_10 : decode cX5_readNumber 10 = .ok (.getfield 23, 3) := by decide +kernel
theorem dX5_readNumber_13 : decode cX5_readNumber 13 = .ok (.aload_n 0, 1) := by decide +kernel
theorem dX5_readNumber_14 : decode cX5_readNumber 14 = .ok (.getfield 9, 3) := by decide +kernel
theorem dX5_readNumber_17 : decode cX5_readNumber 17 = .ok (.if_icmp .ge 56, 3) := by decide +kernel
theorem dX5_readNumber_20 : decode cX5_readNumber 20 = .ok (.aload_n 0, 1) := by decide +kernel
theorem dX5_readNumber_21 : decode cX5_readNumber 21 = .ok (.getfield 15, 3) := by decide +kernel
theorem dX5_readNumber_24 : decode cX5_readNumber 24 = .ok (.aload_n 0, 1) := by decide +kernel
theorem dX5_readNumber_25 : decode cX5_readNumber 25 = .ok (.getfield 23, 3) := by decide +kernel
theorem dX5_readNumber_28 : decode cX5_readNumber 28 = .ok (.caload, 1) := by decide +kernel
theorem dX5_readNumber_29 : decode cX5_readNumber 29 = .ok (.bipush 48, 2) := by decide +kernel
theorem dX5_readNumber_31 : decode cX5_readNumber 31 = .ok (.bipush 57, 2) := by decide +kernel
theorem dX5_readNumber_33 : decode cX5_readNumber 33 = .ok (.invokestatic 30, 3) := by decide +kernel
theorem dX5_readNumber_36 : decode cX5_readNumber 36 = .ok (.ifCond .eq 37, 3) := by decide +kernel
theorem dX5_readNumber_39 : decode cX5_readNumber 39 = .ok (.iload_n 1, 1) := by decide +kernel
theorem dX5_readNumber_40 : decode cX5_readNumber 40 = .ok (.bipush 10, 2) := by decide +kernel
theorem dX5_readNumber_42 : decode cX5_readNumber 42 = .ok (.imul, 1) := by decide +kernel
theorem dX5_readNumber_43 : decode cX5_readNumber 43 = .ok (.aload_n 0, 1) := by decide +kernel
theorem dX5_readNumber_44 : decode cX5_readNumber 44 = .ok (.getfield 15, 3) := by decide +kernel
theorem dX5_readNumber_47 : decode cX5_readNumber 47 = .ok (.aload_n 0, 1) := by decide +kernel
theorem dX5_readNumber_48 : decode cX5_readNumber 48 = .ok (.getfield 23, 3) := by decide +kernel
theorem dX5_readNumber_51 : decode cX5_readNumber 51 = .ok (.caload, 1) := by decide +kernel
theorem dX5_readNumber_52 : decode cX5_readNumber 52 = .ok (.bipush 48, 2) := by decide +kernel
theorem dX5_readNumber_54 : decode cX5_readNumber 54 = .ok (.isub, 1) := by decide +kernel
theorem dX5_readNumber_55 : decode cX5_readNumber 55 = .ok (.iadd, 1) := by decide +kernel
theorem dX5_readNumber_56 : decode cX5_readNumber 56 = .ok (.istore_n 1, 1) := by decide +kernel
theorem dX5_readNumber_57 : decode cX5_readNumber 57 = .ok (.iinc 2 1, 3) := by decide +kernel
theorem dX5_readNumber_60 : decode cX5_readNumber 60 = .ok (.aload_n 0, 1) := by decide +kernel
theorem dX5_readNumber_61 : decode cX5_readNumber 61 = .ok (.dup, 1) := by decide +kernel
theorem dX5_readNumber_62 : decode cX5_readNumber 62 = .ok (.getfield 23, 3) := by decide +kernel
theorem dX5_readNumber_65 : decode cX5_readNumber 65 = .ok (.iconst 1, 1) := by decide +kernel
theorem dX5_readNumber_66 : decode cX5_readNumber 66 = .ok (.iadd, 1) := by decide +kernel
theorem dX5_readNumber_67 : decode cX5_readNumber 67 = .ok (.putfield 23, 3) := by decide +kernel
theorem dX5_readNumber_70 : decode cX5_readNumber 70 = .ok (.goto (-66), 3) := by decide +kernel
theorem dX5_readNumber_73 : decode cX5_readNumber 73 = .ok (.iload_n 2, 1) := by decide +kernel
theorem dX5_readNumber_74 : decode cX5_readNumber 74 = .ok (.ifCond .ne 7, 3) := by decide +kernel
theorem dX5_readNumber_77 : decode cX5_readNumber 77 = .ok (.iconst (-1), 1) := by decide +kernel
theorem dX5_readNumber_78 : decode cX5_readNumber 78 = .ok (.goto 4, 3) := by decide +kernel
theorem dX5_readNumber_81 : decode cX5_readNumber 81 = .ok (.iload_n 1, 1) := by decide +kernel
theorem dX5_readNumber_82 : decode cX5_readNumber 82 = .ok (.ireturn, 1) := by decide +kernel
theorem dX5_readSign_0 : decode cX5_readSign 0 = .ok (.aload_n 0, 1) := by decide +kernel
theorem dX5_readSign_1 : decode cX5_readSign 1 = .ok (.getfield 23, 3) := by decide +kernel
theorem dX5_readSign_4 : decode cX5_readSign 4 = .ok (.aload_n 0, 1) := by decide +kernel
theorem dX5_readSign_5 : decode cX5_readSign 5 = .ok (.getfield 9, 3) := by decide +kernel
theorem dX5_readSign_8 : decode cX5_readSign 8 = .ok (.if_icmp .ge 16, 3) := by decide +kernel
theorem dX5_readSign_11 : decode cX5_readSign 11 = .ok (.aload_n 0, 1) := by decide +kernel
theorem dX5_readSign_12 : decode cX5_readSign 12 = .ok (.getfield 15, 3) := by decide +kernel
theorem dX5_readSign_15 : decode cX5_readSign 15 = .ok (.aload_n 0, 1) := by decide +kernel
theorem dX5_readSign_16 : decode cX5_readSign 16 = .ok (.getfield 23, 3) := by decide +kernel
theorem dX5_readSign_19 : decode cX5_readSign 19 = .ok (.caload, 1) := by decide +kernel
theorem dX5_readSign_20 : decode cX5_readSign 20 = .ok (.iload_n 1, 1) := by decide +kernel
theorem dX5_readSign_21 : decode cX5_readSign 21 = .ok (.if_icmp .eq 5, 3) := by decide +kernel
theorem dX5_readSign_24 : decode cX5_readSign 24 = .ok (.iconst 0, 1) := by decide +kernel
theorem dX5_readSign_25 : decode cX5_readSign 25 = .ok (.ireturn, 1) := by decide +kernel
theorem dX5_readSign_26 : decode cX5_readSign 26 = .ok (.aload_n 0, 1) := by decide +kernel
theorem dX5_readSign_27 : decode cX5_readSign 27 = .ok (.dup, 1) := by decide +kernel
theorem dX5_readSign_28 : decode cX5_readSign 28 = .ok (.getfield 23, 3) := by decide +kernel
theorem dX5_readSign_31 : decode cX5_readSign 31 = .ok (.iconst 1, 1) := by decide +kernel
theorem dX5_readSign_32 : decode cX5_readSign 32 = .ok (.iadd, 1) := by decide +kernel
theorem dX5_readSign_33 : decode cX5_readSign 33 = .ok (.putfield 23, 3) := by decide +kernel
theorem dX5_readSign_36 : decode cX5_readSign 36 = .ok (.iconst 1, 1) := by decide +kernel
theorem dX5_readSign_37 : decode cX5_readSign 37 = .ok (.ireturn, 1) := by decide +kernel
theorem dX6_init_0 : decode cX6_init 0 = .ok (.aload_n 0, 1) := by decide +kernel
theorem dX6_init_1 : decode cX6_init 1 = .ok (.invokespecial 3, 3) := by decide +kernel
theorem dX6_init_4 : decode cX6_init 4 = .ok (.aload_n 0, 1) := by decide +kernel
theorem dX6_init_5 : decode cX6_init 5 = .ok (.iconst 0, 1) := by decide +kernel
theorem dX6_init_6 : decode cX6_init 6 = .ok (.putfield 9, 3) := by decide +kernel
theorem dX6_init_9 : decode cX6_init 9 = .ok (.aload_n 0, 1) := by decide +kernel
theorem dX6_init_10 : decode cX6_init 10 = .ok (.iconst 3, 1) := by decide +kernel
theorem dX6_init_11 : decode cX6_init 11 = .ok (.putfield 15, 3) := by decide +kernel
theorem dX6_init_14 : decode cX6_init 14 = .ok (.aload_n 0, 1) := by decide +kernel
theorem dX6_init_15 : decode cX6_init 15 = .ok (.bipush 8, 2) := by decide +kernel
theorem dX6_init_17 : decode cX6_init 17 = .ok (.putfield 18, 3) := by decide +kernel
theorem dX6_init_20 : decode cX6_init 20 = .ok (.aload_n 0, 1) := by decide +kernel
theorem dX6_init_21 : decode cX6_init 21 = .ok (.bipush 6, 2) := by decide +kernel
theorem dX6_init_23 : decode cX6_init 23 = .ok (.newarray .int, 2) := by decide +kernel
theorem dX6_init_25 : decode cX6_init 25 = .ok (.putfield 21, 3) := by decide +kernel
theorem dX6_init_28 : decode cX6_init 28 = .ok (.aload_n 0, 1) := by decide +kernel
theorem dX6_init_29 : decode cX6_init 29 = .ok (.new 25, 3) := by decide +kernel
theorem dX6_init_32 : decode cX6_init 32 = .ok (.dup, 1) := by decide +kernel
theorem dX6_init_33 : decode cX6_init 33 = .ok (.invokespecial 27, 3) := by decide +kernel
theorem dX6_init_36 : decode cX6_init 36 = .ok (.putfield 28, 3) := by decide +kernel
theorem dX6_init_39 : decode cX6_init 39 = .ok (.aload_n 0, 1) := by decide +kernel
theorem dX6_init_40 : decode cX6_init 40 = .ok (.new 32, 3) := by decide +kernel
theorem dX6_init_43 : decode cX6_init 43 = .ok (.dup, 1) := by decide +kernel
theorem dX6_init_44 : decode cX6_init 44 = .ok (.invokespecial 34, 3) := by decide +kernel
theorem dX6_init_47 : decode cX6_init 47 = .ok (.putfield 35, 3) := by decide +kernel
theorem dX6_init_50 : decode cX6_init 50 = .ok (.aload_n 0, 1) := by decide +kernel
theorem dX6_init_51 : decode cX6_init 51 = .ok (.new 39, 3) := by decide +kernel
theorem dX6_init_54 : decode cX6_init 54 = .ok (.dup, 1) := by decide +kernel
theorem dX6_init_55 : decode cX6_init 55 = .ok (.invokespecial 41, 3) := by decide +kernel
theorem dX6_init_58 : decode cX6_init 58 = .ok (.putfield 42, 3) := by decide +kernel
theorem dX6_init_61 : decode cX6_init 61 = .ok (.aload_n 0, 1) := by decide +kernel
theorem dX6_init_62 : decode cX6_init 62 = .ok (.new 46, 3) := by decide +kernel
theorem dX6_init_65 : decode cX6_init 65 = .ok (.dup, 1) := by decide +kernel
theorem dX6_init_66 : decode cX6_init 66 = .ok (.invokespecial 48, 3) := by decide +kernel
theorem dX6_init_69 : decode cX6_init 69 = .ok (.putfield 49, 3) := by decide +kernel
theorem dX6_init_72 : decode cX6_init 72 = .ok (.return_, 1) := by decide +kernel
theorem dX6_copyFrom_0 : decode cX6_copyFrom 0 = .ok (.aload_n 0, 1) := by decide +kernel
theorem dX6_copyFrom_1 : decode cX6_copyFrom 1 = .ok (.aload_n 1, 1) := by decide +kernel
theorem dX6_copyFrom_2 : decode cX6_copyFrom 2 = .ok (.getfield 9, 3) := by decide +kernel
theorem dX6_copyFrom_5 : decode cX6_copyFrom 5 = .ok (.putfield 9, 3) := by decide +kernel
theorem dX6_copyFrom_8 : decode cX6_copyFrom 8 = .ok (.aload_n 0, 1) := by decide +kernel
theorem dX6_copyFrom_9 : decode cX6_copyFrom 9 = .ok (.aload_n 1, 1) := by decide +kernel
theorem dX6_copyFrom_10 : decode cX6_copyFrom 10 = .ok (.getfield 15, 3) := by decide +kernel
theorem dX6_copyFrom_13 : decode cX6_copyFrom 13 = .ok (.putfield 15, 3) := by decide +kernel
theorem dX6_copyFrom_16 : decode cX6_copyFrom 16 = .ok (.aload_n 0, 1) := by decide +kernel
theorem dX6_copyFrom_17 : decode cX6_copyFrom 17 = .ok (.aload_n 1, 1) := by decide +kernel
theorem dX6_copyFrom_18 : decode cX6_copyFrom 18 = .ok (.getfield 18, 3) := by decide +kernel
theorem dX6_copyFrom_21 : decode cX6_copyFrom 21 = .ok (.putfield 18, 3) := by decide +kernel
theorem dX6_copyFrom_24 : decode cX6_copyFrom 24 = .ok (.aload_n 1, 1) := by decide +kernel
theorem dX6_copyFrom_25 : decode cX6_copyFrom 25 = .ok (.getfield 21, 3) := by decide +kernel
theorem dX6_copyFrom_28 : decode cX6_copyFrom 28 = .ok (.aload_n 0, 1) := by decide +kernel
theorem dX6_copyFrom_29 : decode cX6_copyFrom 29 = .ok (.getfield 21, 3) := by decide +kernel
theorem dX6_copyFrom_32 : decode cX6_copyFrom 32 = .ok (.bipush 6, 2) := by decide +kernel
theorem dX6_copyFrom_34 : decode cX6_copyFrom 34 = .ok (.invokestatic 53, 3) := by decide +kernel
theorem dX6_copyFrom_37 : decode cX6_copyFrom 37 = .ok (.aload_n 0, 1) := by decide +kernel
theorem dX6_copyFrom_38 : decode cX6_copyFrom 38 = .ok (.getfield 28, 3) := by decide +kernel
theorem dX6_copyFrom_41 : decode cX6_copyFrom 41 = .ok (.aload_n 1, 1) := by decide +kernel
theorem dX6_copyFrom_42 : decode cX6_copyFrom 42 = .ok (.getfield 28, 3) := by decide +kernel
theorem dX6_copyFrom_45 : decode cX6_copyFrom 45 = .ok (.invokevirtual 57, 3) := by decide +kernel
theorem dX6_copyFrom_48 : decode cX6_copyFrom 48 = .ok (.aload_n 0, 1) := by decide +kernel
theorem dX6_copyFrom_49 : decode cX6_copyFrom 49 = .ok (.getfield 35, 3) := by decide +kernel
theorem dX6_copyFrom_52 : decode cX6_copyFrom 52 = .ok (.aload_n 1, 1) := by decide +kernel
theorem dX6_copyFrom_53 : decode cX6_copyFrom 53 = .ok (.getfield 35, 3) := by decide +kernel
theorem dX6_copyFrom_56 : decode cX6_copyFrom 56 = .ok (.invokevirtual 61, 3) := by decide +kernel
theorem dX6_copyFrom_59 : decode cX6_copyFrom 59 = .ok (.aload_n 0, 1) := by decide +kernel
theorem dX6_copyFrom_60 : decode cX6_copyFrom 60 = .ok (.getfield 42, 3) := by decide +kernel
theorem dX6_copyFrom_63 : decode cX6_copyFrom 63 = .ok (.aload_n 1, 1) := by decide +kernel
theorem dX6_copyFrom_64 : decode cX6_copyFrom 64 = .ok (.getfield 42, 3) := by decide +kernel
theorem dX6_copyFrom_67 : decode cX6_copyFrom 67 = .ok (.invokevirtual 64, 3) := by decide +kernel
theorem dX6_copyFrom_70 : decode cX6_copyFrom 70 = .ok (.aload_n 0, 1) := by decide +kernel
theorem dX6_copyFrom_71 : decode cX6_copyFrom 71 = .ok (.getfield 49, 3) := by decide +kernel
theorem dX6_copyFrom_74 : decode cX6_copyFrom 74 = .ok (.aload_n 1, 1) := by decide +kernel
theorem dX6_copyFrom_75 : decode cX6_copyFrom 75 = .ok (.getfield 49, 3) := by decide +kernel
theorem dX6_copyFrom_78 : decode cX6_copyFrom 78 = .ok (.invokevirtual 67, 3) := by decide +kernel
theorem dX6_copyFrom_81 : decode cX6_copyFrom 81 = .ok (.return_, 1) := by decide +kernel
theorem dX6_addCorner_0 : decode cX6_addCorner 0 = .ok (.aload_n 0, 1) := by decide +kernel
theorem dX6_addCorner_1 : decode cX6_addCorner 1 = .ok (.getfield 28, 3) := by decide +kernel
theorem dX6_addCorner_4 : decode cX6_addCorner 4 = .ok (.iload_n 1, 1) := by decide +kernel
theorem dX6_addCorner_5 : decode cX6_addCorner 5 = .ok (.invokevirtual 70, 3) := by decide +kernel
theorem dX6_addCorner_8 : decode cX6_addCorner 8 = .ok (.ifCond .eq 33, 3) := by decide +kernel
theorem dX6_addCorner_11 : decode cX6_addCorner 11 = .ok (.iload_n 2, 1) := by decide +kernel
theorem dX6_addCorner_12 : decode cX6_addCorner 12 = .ok (.iconst 1, 1) := by decide +kernel
theorem dX6_addCorner_13 : decode cX6_addCorner 13 = .ok (.bipush 50, 2) := by decide +kernel
theorem dX6_addCorner_15 : decode cX6_addCorner 15 = .ok (.invokestatic 74, 3) := by decide +kernel
theorem dX6_addCorner_18 : decode cX6_addCorner 18 = .ok (.ifCond .eq 23, 3) := by decide +kernel
theorem dX6_addCorner_21 : decode cX6_addCorner 21 = .ok (.iload_n 3, 1) := by decide +kernel
theorem dX6_addCorner_22 : decode cX6_addCorner 22 = .ok (.iconst 0, 1) := by decide +kernel
theorem dX6_addCorner_23 : decode cX6_addCorner 23 = .ok (.bipush 100, 2) := by decide +kernel
theorem dX6_addCorner_25 : decode cX6_addCorner 25 = .ok (.invokestatic 74, 3) := by decide +kernel
theorem dX6_addCorner_28 : decode cX6_addCorner 28 = .ok (.ifCond .eq 13, 3) := by decide +kernel
theorem dX6_addCorner_31 : decode cX6_addCorner 31 = .ok (.iload 4, 2) := by decide +kernel
theorem dX6_addCorner_33 : decode cX6_addCorner 33 = .ok (.iconst 0, 1) := by decide +kernel
theorem dX6_addCorner_34 : decode cX6_addCorner 34 = .ok (.iconst 1, 1) := by decide +kernel
theorem dX6_addCorner_35 : decode cX6_addCorner 35 = .ok (.invokestatic 74, 3) := by decide +kernel
theorem dX6_addCorner_38 : decode cX6_addCorner 38 = .ok (.ifCond .ne 5, 3) := by decide +kernel
theorem dX6_addCorner_41 : decode cX6_addCorner 41 = .ok (.iconst (-1), 1) := by decide +kernel
theorem dX6_addCorner_42 : decode cX6_addCorner 42 = .ok (.ireturn, 1) := by decide +kernel
theorem dX6_addCorner_43 : decode cX6_addCorner 43 = .ok (.aload_n 0, 1) := by decide +kernel
theorem dX6_addCorner_44 : decode cX6_addCorner 44 = .ok (.getfield 28, 3) := by decide +kernel
theorem dX6_addCorner_47 : decode cX6_addCorner 47 = .ok (.getfield 78, 3) := by decide +kernel
theorem dX6_addCorner_50 : decode cX6_addCorner 50 = .ok (.bipush 20, 2) := by decide +kernel
theorem dX6_addCorner_52 : decode cX6_addCorner 52 = .ok (.if_icmp .lt 8, 3) := by decide +kernel
theorem dX6_addCorner_55 : decode cX6_addCorner 55 = .ok (.bipush (-3), 2) := by decide +kernel
theorem dX6_addCorner_57 : decode cX6_addCorner 57 = .ok (.goto 15, 3) := by decide +kernel
theorem dX6_addCorner_60 : decode cX6_addCorner 60 = .ok (.aload_n 0, 1) := by decide +kernel
theorem dX6_addCorner_61 : decode cX6_addCorner 61 = .ok (.getfield 28, 3) := by decide +kernel
theorem dX6_addCorner_64 : decode cX6_addCorner 64 = .ok (.iload_n 1, 1) := by decide +kernel
theorem dX6_addCorner_65 : decode cX6_addCorner 65 = .ok (.iload_n 2, 1) := by decide +kernel
theorem dX6_addCorner_66 : decode cX6_addCorner 66 = .ok (.iload_n 3, 1) := by decide +kernel
theorem dX6_addCorner_67 : decode cX6_addCorner 67 = .ok (.iload 4, 2) := by decide +kernel
theorem dX6_addCorner_69 : decode cX6_addCorner 69 = .ok (.invokevirtual 81, 3) := by decide +kernel
theorem dX6_addCorner_72 : decode cX6_addCorner 72 = .ok (.ireturn, 1) := by decide +kernel
theorem dX6_addHouse_0 : decode cX6_addHouse 0 = .ok (.aload_n 0, 1) := by decide +kernel
theorem dX6_addHouse_1 : decode cX6_addHouse 1 = .ok (.getfield 28, 3) := by decide +kernel
theorem dX6_addHouse_4 : decode cX6_addHouse 4 = .ok (.iload_n 1, 1) := by decide +kernel
theorem dX6_addHouse_5 : decode cX6_addHouse 5 = .ok (.invokevirtual 70, 3) := by decide +kernel
theorem dX6_addHouse_8 : decode cX6_addHouse 8 = .ok (.ifCond .eq 23, 3) := by decide +kernel
theorem dX6_addHouse_11 : decode cX6_addHouse 11 = .ok (.iload_n 2, 1) := by decide +kernel
theorem dX6_addHouse_12 : decode cX6_addHouse 12 = .ok (.iconst 1, 1) := by decide +kernel
theorem dX6_addHouse_13 : decode cX6_addHouse 13 = .ok (.iconst 5, 1) := by decide +kernel
theorem dX6_addHouse_14 : decode cX6_addHouse 14 = .ok (.invokestatic 74, 3) := by decide +kernel
theorem dX6_addHouse_17 : decode cX6_addHouse 17 = .ok (.ifCond .eq 14, 3) := by decide +kernel
theorem dX6_addHouse_20 : decode cX6_addHouse 20 = .ok (.iload_n 3, 1) := by decide +kernel
theorem dX6_addHouse_21 : decode cX6_addHouse 21 = .ok (.iconst 0, 1) := by decide +kernel
theorem dX6_addHouse_22 : decode cX6_addHouse 22 = .ok (.sipush 500, 3) := by decide +kernel
theorem dX6_addHouse_25 : decode cX6_addHouse 25 = .ok (.invokestatic 74, 3) := by decide +kernel
theorem dX6_addHouse_28 : decode cX6_addHouse 28 = .ok (.ifCond .ne 5, 3) := by decide +kernel
theorem dX6_addHouse_31 : decode cX6_addHouse 31 = .ok (.iconst (-1), 1) := by decide +kernel
theorem dX6_addHouse_32 : decode cX6_addHouse 32 = .ok (.ireturn, 1) := by decide +kernel
theorem dX6_addHouse_33 : decode cX6_addHouse 33 = .ok (.aload_n 0, 1) := by decide +kernel
theorem dX6_addHouse_34 : decode cX6_addHouse 34 = .ok (.getfield 35, 3) := by decide +kernel
theorem dX6_addHouse_37 : decode cX6_addHouse 37 = .ok (.getfield 85, 3) := by decide +kernel
theorem dX6_addHouse_40 : decode cX6_addHouse 40 = .ok (.bipush 24, 2) := by decide +kernel
theorem dX6_addHouse_42 : decode cX6_addHouse 42 = .ok (.if_icmp .lt 8, 3) := by decide +kernel
theorem dX6_addHouse_45 : decode cX6_addHouse 45 = .ok (.bipush (-3), 2) := by decide +kernel
theorem dX6_addHouse_47 : decode cX6_addHouse 47 = .ok (.goto 17, 3) := by decide +kernel
theorem dX6_addHouse_50 : decode cX6_addHouse 50 = .ok (.aload_n 0, 1) := by decide +kernel
theorem dX6_addHouse_51 : decode cX6_addHouse 51 = .ok (.getfield 35, 3) := by decide +kernel
theorem dX6_addHouse_54 : decode cX6_addHouse 54 = .ok (.aload_n 0, 1) := by decide +kernel
theorem dX6_addHouse_55 : decode cX6_addHouse 55 = .ok (.getfield 28, 3) := by decide +kernel
theorem dX6_addHouse_58 : decode cX6_addHouse 58 = .ok (.iload_n 1, 1) := by decide +kernel
theorem dX6_addHouse_59 : decode cX6_addHouse 59 = .ok (.iload_n 2, 1) := by decide +kernel
theorem dX6_addHouse_60 : decode cX6_addHouse 60 = .ok (.iload_n 3, 1) := by decide +kernel
theorem dX6_addHouse_61 : decode cX6_addHouse 61 = .ok (.invokevirtual 86, 3) := by decide +kernel
theorem dX6_addHouse_64 : decode cX6_addHouse 64 = .ok (.ireturn, 1) := by decide +kernel
theorem dX6_changeDog_0 : decode cX6_changeDog 0 = .ok (.iload_n 2, 1) := by decide +kernel
theorem dX6_changeDog_1 : decode cX6_changeDog 1 = .ok (.ifCond .eq 13, 3) := by decide +kernel
theorem dX6_changeDog_4 : decode cX6_changeDog 4 = .ok (.iload_n 2, 1) := by decide +kernel
theorem dX6_changeDog_5 : decode cX6_changeDog 5 = .ok (.iconst 2, 1) := by decide +kernel
theorem dX6_changeDog_6 : decode cX6_changeDog 6 = .ok (.bipush 9, 2) := by decide +kernel
theorem dX6_changeDog_8 : decode cX6_changeDog 8 = .ok (.invokestatic 74, 3) := by decide +kernel
theorem dX6_changeDog_11 : decode cX6_changeDog 11 = .ok (.ifCond .eq 7, 3) := by decide +kernel
theorem dX6_changeDog_14 : decode cX6_changeDog 14 = .ok (.iconst 1, 1) := by decide +kernel
theorem dX6_changeDog_15 : decode cX6_changeDog 15 = .ok (.goto 4, 3) := by decide +kernel
theorem dX6_changeDog_18 : decode cX6_changeDog 18 = .ok (.iconst 0, 1) := by decide +kernel
theorem dX6_changeDog_19 : decode cX6_changeDog 19 = .ok (.istore 4, 2) := by decide +kernel
theorem dX6_changeDog_21 : decode cX6_changeDog 21 = .ok (.aload_n 0, 1) := by decide +kernel
theorem dX6_changeDog_22 : decode cX6_changeDog 22 = .ok (.getfield 35, 3) := by decide +kernel
theorem dX6_changeDog_25 : decode cX6_changeDog 25 = .ok (.iload_n 1, 1) := by decide +kernel
theorem dX6_changeDog_26 : decode cX6_changeDog 26 = .ok (.invokevirtual 89, 3) := by decide +kernel
theorem dX6_changeDog_29 : decode cX6_changeDog 29 = .ok (.ifCond .eq 18, 3) := by decide +kernel
theorem dX6_changeDog_32 : decode cX6_changeDog 32 = .ok (.iload 4, 2) := by decide +kernel
theorem dX6_changeDog_34 : decode cX6_changeDog 34 = .ok (.ifCond .eq 13, 3) := by decide +kernel
theorem dX6_changeDog_37 : decode cX6_changeDog 37 = .ok (.iload_n 3, 1) := by decide +kernel
theorem dX6_changeDog_38 : decode cX6_changeDog 38 = .ok (.iconst 0, 1) := by decide +kernel
theorem dX6_changeDog_39 : decode cX6_changeDog 39 = .ok (.bipush 8, 2) := by decide +kernel
theorem dX6_changeDog_41 : decode cX6_changeDog 41 = .ok (.invokestatic 74, 3) := by decide +kernel
theorem dX6_changeDog_44 : decode cX6_changeDog 44 = .ok (.ifCond .ne 5, 3) := by decide +kernel
theorem dX6_changeDog_47 : decode cX6_changeDog 47 = .ok (.iconst (-1), 1) := by decide +kernel
theorem dX6_changeDog_48 : decode cX6_changeDog 48 = .ok (.ireturn, 1) := by decide +kernel
theorem dX6_changeDog_49 : decode cX6_changeDog 49 = .ok (.aload_n 0, 1) := by decide +kernel
theorem dX6_changeDog_50 : decode cX6_changeDog 50 = .ok (.getfield 35, 3) := by decide +kernel
theorem dX6_changeDog_53 : decode cX6_changeDog 53 = .ok (.getfield 90, 3) := by decide +kernel
theorem dX6_changeDog_56 : decode cX6_changeDog 56 = .ok (.iload_n 1, 1) := by decide +kernel
theorem dX6_changeDog_57 : decode cX6_changeDog 57 = .ok (.iaload, 1) := by decide +kernel
theorem dX6_changeDog_58 : decode cX6_changeDog 58 = .ok (.istore 5, 2) := by decide +kernel
theorem dX6_changeDog_60 : decode cX6_changeDog 60 = .ok (.aload_n 0, 1) := by decide +kernel
theorem dX6_changeDog_61 : decode cX6_changeDog 61 = .ok (.getfield 35, 3) := by decide +kernel
theorem dX6_changeDog_64 : decode cX6_changeDog 64 = .ok (.getfield 90, 3) := by decide +kernel
theorem dX6_changeDog_67 : decode cX6_changeDog 67 = .ok (.iload_n 1, 1) := by decide +kernel
theorem dX6_changeDog_68 : decode cX6_changeDog 68 = .ok (.iload_n 2, 1) := by decide +kernel
theorem dX6_changeDog_69 : decode cX6_changeDog 69 = .ok (.iastore, 1) := by decide +kernel
theorem dX6_changeDog_70 : decode cX6_changeDog 70 = .ok (.aload_n 0, 1) := by decide +kernel
theorem dX6_changeDog_71 : decode cX6_changeDog 71 = .ok (.getfield 35, 3) := by decide +kernel
theorem dX6_changeDog_74 : decode cX6_changeDog 74 = .ok (.getfield 93, 3) := by decide +kernel
theorem dX6_changeDog_77 : decode cX6_changeDog 77 = .ok (.iload_n 1, 1) := by decide +kernel
theorem dX6_changeDog_78 : decode cX6_changeDog 78 = .ok (.iload_n 3, 1) := by decide +kernel
theorem dX6_changeDog_79 : decode cX6_changeDog 79 = .ok (.iastore, 1) := by decide +kernel
theorem dX6_changeDog_80 : decode cX6_changeDog 80 = .ok (.iload 5, 2) := by decide +kernel
theorem dX6_changeDog_82 : decode cX6_changeDog 82 = .ok (.ireturn, 1) := by decide +kernel
theorem dX6_addPause_0 : decode cX6_addPause 0 = .ok (.aload_n 0, 1) := by decide +kernel
theorem dX6_addPause_1 : decode cX6_addPause 1 = .ok (.getfield 35, 3) := by decide +kernel
theorem dX6_addPause_4 : decode cX6_addPause 4 = .ok (.iload_n 1, 1) := by decide +kernel
theorem dX6_addPause_5 : decode cX6_addPause 5 = .ok (.invokevirtual 89, 3) := by decide +kernel
theorem dX6_addPause_8 : decode cX6_addPause 8 = .ok (.ifCond .eq 28, 3) := by decide +kernel
theorem dX6_addPause_11 : decode cX6_addPause 11 = .ok (.iload_n 2, 1) := by decide +kernel
theorem dX6_addPause_12 : decode cX6_addPause 12 = .ok (.aload_n 0, 1) := by decide +kernel
theorem dX6_addPause_13 : decode cX6_addPause 13 = .ok (.getfield 9, 3) := by decide +kernel
theorem dX6_addPause_16 : decode cX6_addPause 16 = .ok (.sipush 999, 3) := by decide +kernel
theorem dX6_addPause_19 : decode cX6_addPause 19 = .ok (.invokestatic 74, 3) := by decide +kernel
theorem dX6_addPause_22 : decode cX6_addPause 22 = .ok (.ifCond .eq 14, 3) := by decide +kernel
theorem dX6_addPause_25 : decode cX6_addPause 25 = .ok (.iload_n 3, 1) := by decide +kernel
theorem dX6_addPause_26 : decode cX6_addPause 26 = .ok (.iload_n 2, 1) := by decide +kernel
theorem dX6_addPause_27 : decode cX6_addPause 27 = .ok (.sipush 999, 3) := by decide +kernel
theorem dX6_addPause_30 : decode cX6_addPause 30 = .ok (.invokestatic 74, 3) := by decide +kernel
theorem dX6_addPause_33 : decode cX6_addPause 33 = .ok (.ifCond .ne 5, 3) := by decide +kernel
theorem dX6_addPause_36 : decode cX6_addPause 36 = .ok (.iconst (-1), 1) := by decide +kernel
theorem dX6_addPause_37 : decode cX6_addPause 37 = .ok (.ireturn, 1) := by decide +kernel
theorem dX6_addPause_38 : decode cX6_addPause 38 = .ok (.aload_n 0, 1) := by decide +kernel
theorem dX6_addPause_39 : decode cX6_addPause 39 = .ok (.getfield 42, 3) := by decide +kernel
theorem dX6_addPause_42 : decode cX6_addPause 42 = .ok (.getfield 96, 3) := by decide +kernel
theorem dX6_addPause_45 : decode cX6_addPause 45 = .ok (.bipush 30, 2) := by decide +kernel
theorem dX6_addPause_47 : decode cX6_addPause 47 = .ok (.if_icmp .lt 8, 3) := by decide +kernel
theorem dX6_addPause_50 : decode cX6_addPause 50 = .ok (.bipush (-3), 2) := by decide +kernel
theorem dX6_addPause_52 : decode cX6_addPause 52 = .ok (.goto 13, 3) := by decide +kernel
theorem dX6_addPause_55 : decode cX6_addPause 55 = .ok (.aload_n 0, 1) := by decide +kernel
theorem dX6_addPause_56 : decode cX6_addPause 56 = .ok (.getfield 42, 3) := by decide +kernel
theorem dX6_addPause_59 : decode cX6_addPause 59 = .ok (.iload_n 1, 1) := by decide +kernel
theorem dX6_addPause_60 : decode cX6_addPause 60 = .ok (.iload_n 2, 1) := by decide +kernel
theorem dX6_addPause_61 : decode cX6_addPause 61 = .ok (.iload_n 3, 1) := by decide +kernel
theorem dX6_addPause_62 : decode cX6_addPause 62 = .ok (.invokevirtual 97, 3) := by decide +kernel
theorem dX6_addPause_65 : decode cX6_addPause 65 = .ok (.ireturn, 1) := by decide +kernel
theorem dX6_addCarrier_0 : decode cX6_addCarrier 0 = .ok (.iload_n 1, 1) := by decide +kernel
theorem dX6_addCarrier_1 : decode cX6_addCarrier 1 = .ok (.iconst 0, 1) := by decide +kernel
theorem dX6_addCarrier_2 : decode cX6_addCarrier 2 = .ok (.iconst 1, 1) := by decide +kernel
theorem dX6_addCarrier_3 : decode cX6_addCarrier 3 = .ok (.invokestatic 74, 3) := by decide +kernel
theorem dX6_addCarrier_6 : decode cX6_addCarrier 6 = .ok (.ifCond .eq 15, 3) := by decide +kernel
theorem dX6_addCarrier_9 : decode cX6_addCarrier 9 = .ok (.iload_n 2, 1) := by decide +kernel
theorem dX6_addCarrier_10 : decode cX6_addCarrier 10 = .ok (.bipush 10, 2) := by decide +kernel
theorem dX6_addCarrier_12 : decode cX6_addCarrier 12 = .ok (.sipush 500, 3) := by decide +kernel
theorem dX6_addCarrier_15 : decode cX6_addCarrier 15 = .ok (.invokestatic 74, 3) := by decide +kernel
theorem dX6_addCarrier_18 : decode cX6_addCarrier 18 = .ok (.ifCond .ne 5, 3) := by decide +kernel
theorem dX6_addCarrier_21 : decode cX6_addCarrier 21 = .ok (.iconst (-1), 1) := by decide +kernel
theorem dX6_addCarrier_22 : decode cX6_addCarrier 22 = .ok (.ireturn, 1) := by decide +kernel
theorem dX6_addCarrier_23 : decode cX6_addCarrier 23 = .ok (.aload_n 0, 1) := by decide +kernel
theorem dX6_addCarrier_24 : decode cX6_addCarrier 24 = .ok (.getfield 49, 3) := by decide +kernel
theorem dX6_addCarrier_27 : decode cX6_addCarrier 27 = .ok (.getfield 100, 3) := by decide +kernel
theorem dX6_addCarrier_30 : decode cX6_addCarrier 30 = .ok (.iconst 3, 1) := by decide +kernel
theorem dX6_addCarrier_31 : decode cX6_addCarrier 31 = .ok (.if_icmp .lt 8, 3) := by decide +kernel
theorem dX6_addCarrier_34 : decode cX6_addCarrier 34 = .ok (.bipush (-3), 2) := by decide +kernel
theorem dX6_addCarrier_36 : decode cX6_addCarrier 36 = .ok (.goto 12, 3) := by decide +kernel
theorem dX6_addCarrier_39 : decode cX6_addCarrier 39 = .ok (.aload_n 0, 1) := by decide +kernel
theorem dX6_addCarrier_40 : decode cX6_addCarrier 40 = .ok (.getfield 49, 3) := by decide +kernel
theorem dX6_addCarrier_43 : decode cX6_addCarrier 43 = .ok (.iload_n 1, 1) := by decide +kernel
theorem dX6_addCarrier_44 : decode cX6_addCarrier 44 = .ok (.iload_n 2, 1) := by decide +kernel
theorem dX6_addCarrier_45 : decode cX6_addCarrier 45 = .ok (.invokevirtual 101, 3) := by decide +kernel
theorem dX6_addCarrier_48 : decode cX6_addCarrier 48 = .ok (.ireturn, 1) := by decide +kernel
theorem dX6_handOver_0 : decode cX6_handOver 0 = .ok (.aload_n 0, 1) := by decide +kernel
theorem dX6_handOver_1 : decode cX6_handOver 1 = .ok (.getfield 35, 3) := by decide +kernel
theorem dX6_handOver_4 : decode cX6_handOver 4 = .ok (.iload_n 1, 1) := by decide +kernel
theorem dX6_handOver_5 : decode cX6_handOver 5 = .ok (.invokevirtual 89, 3) := by decide +kernel
theorem dX6_handOver_8 : decode cX6_handOver 8 = .ok (.ifCond .eq 14, 3) := by decide +kernel
theorem dX6_handOver_11 : decode cX6_handOver 11 = .ok (.aload_n 0, 1) := by decide +kernel
theorem dX6_handOver_12 : decode cX6_handOver 12 = .ok (.getfield 49, 3) := by decide +kernel
theorem dX6_handOver_15 : decode cX6_handOver 15 = .ok (.iload_n 2, 1) := by decide +kernel
theorem dX6_handOver_16 : decode cX6_handOver 16 = .ok (.invokevirtual 104, 3) := by decide +kernel
theorem dX6_handOver_19 : decode cX6_handOver 19 = .ok (.ifCond .ne 5, 3) := by decide +kernel
theorem dX6_handOver_22 : decode cX6_handOver 22 = .ok (.iconst (-1), 1) := by decide +kernel
theorem dX6_handOver_23 : decode cX6_handOver 23 = .ok (.ireturn, 1) := by decide +kernel
theorem dX6_handOver_24 : decode cX6_handOver 24 = .ok (.aload_n 0, 1) := by decide +kernel
theorem dX6_handOver_25 : decode cX6_handOver 25 = .ok (.getfield 35, 3) := by decide +kernel
theorem dX6_handOver_28 : decode cX6_handOver 28 = .ok (.getfield 105, 3) := by decide +kernel
theorem dX6_handOver_31 : decode cX6_handOver 31 = .ok (.iload_n 1, 1) := by decide +kernel
theorem dX6_handOver_32 : decode cX6_handOver 32 = .ok (.iaload, 1) := by decide +kernel
theorem dX6_handOver_33 : decode cX6_handOver 33 = .ok (.iload_n 2, 1) := by decide +kernel
theorem dX6_handOver_34 : decode cX6_handOver 34 = .ok (.if_icmp .eq 12, 3) := by decide +kernel
theorem dX6_handOver_37 : decode cX6_handOver 37 = .ok (.aload_n 0, 1) := by decide +kernel
theorem dX6_handOver_38 : decode cX6_handOver 38 = .ok (.iload_n 2, 1) := by decide +kernel
theorem dX6_handOver_39 : decode cX6_handOver 39 = .ok (.iload_n 1, 1) := by decide +kernel
theorem dX6_handOver_40 : decode cX6_handOver 40 = .ok (.invokevirtual 108, 3) := by decide +kernel
theorem dX6_handOver_43 : decode cX6_handOver 43 = .ok (.ifCond .ne 6, 3) := by decide +kernel
theorem dX6_handOver_46 : decode cX6_handOver 46 = .ok (.bipush (-2), 2) := by decide +kernel
theorem dX6_handOver_48 : decode cX6_handOver 48 = .ok (.ireturn, 1) := by decide +kernel
theorem dX6_handOver_49 : decode cX6_handOver 49 = .ok (.aload_n 0, 1) := by decide +kernel
theorem dX6_handOver_50 : decode cX6_handOver 50 = .ok (.getfield 35, 3) := by decide +kernel
theorem dX6_handOver_53 : decode cX6_handOver 53 = .ok (.getfield 105, 3) := by decide +kernel
theorem dX6_handOver_56 : decode cX6_handOver 56 = .ok (.iload_n 1, 1) := by decide +kernel
theorem dX6_handOver_57 : decode cX6_handOver 57 = .ok (.iload_n 2, 1) := by decide +kernel
theorem dX6_handOver_58 : decode cX6_handOver 58 = .ok (.iastore, 1) := by decide +kernel
theorem dX6_handOver_59 : decode cX6_handOver 59 = .ok (.aload_n 0, 1) := by decide +kernel
theorem dX6_handOver_60 : decode cX6_handOver 60 = .ok (.getfield 35, 3) := by decide +kernel
theorem dX6_handOver_63 : decode cX6_handOver 63 = .ok (.iload_n 2, 1) := by decide +kernel
theorem dX6_handOver_64 : decode cX6_handOver 64 = .ok (.invokevirtual 112, 3) := by decide +kernel
theorem dX6_handOver_67 : decode cX6_handOver 67 = .ok (.ireturn, 1) := by decide +kernel
theorem dX6_takeBack_0 : decode cX6_takeBack 0 = .ok (.aload_n 0, 1) := by decide +kernel
theorem dX6_takeBack_1 : decode cX6_takeBack 1 = .ok (.getfield 35, 3) := by decide +kernel
theorem dX6_takeBack_4 : decode cX6_takeBack 4 = .ok (.iload_n 1, 1) := by decide +kernel
theorem dX6_takeBack_5 : decode cX6_takeBack 5 = .ok (.invokevirtual 89, 3) := by decide +kernel
theorem dX6_takeBack_8 : decode cX6_takeBack 8 = .ok (.ifCond .ne 5, 3) := by decide +kernel
theorem dX6_takeBack_11 : decode cX6_takeBack 11 = .ok (.iconst (-1), 1) := by decide +kernel
theorem dX6_takeBack_12 : decode cX6_takeBack 12 = .ok (.ireturn, 1) := by decide +kernel
theorem dX6_takeBack_13 : decode cX6_takeBack 13 = .ok (.aload_n 0, 1) := by decide +kernel
theorem dX6_takeBack_14 : decode cX6_takeBack 14 = .ok (.getfield 35, 3) := by decide +kernel
theorem dX6_takeBack_17 : decode cX6_takeBack 17 = .ok (.getfield 105, 3) := by decide +kernel
theorem dX6_takeBack_20 : decode cX6_takeBack 20 = .ok (.iload_n 1, 1) := by decide +kernel
theorem dX6_takeBack_21 : decode cX6_takeBack 21 = .ok (.iaload, 1) := by decide +kernel
theorem dX6_takeBack_22 : decode cX6_takeBack 22 = .ok (.istore_n 2, 1) := by decide +kernel
theorem dX6_takeBack_23 : decode cX6_takeBack 23 = .ok (.iload_n 2, 1) := by decide +kernel
theorem dX6_takeBack_24 : decode cX6_takeBack 24 = .ok (.iconst (-1), 1) := by decide +kernel
theorem dX6_takeBack_25 : decode cX6_takeBack 25 = .ok (.if_icmp .ne 6, 3) := by decide +kernel
theorem dX6_takeBack_28 : decode cX6_takeBack 28 = .ok (.bipush (-2), 2) := by decide +kernel
theorem dX6_takeBack_30 : decode cX6_takeBack 30 = .ok (.ireturn, 1) := by decide +kernel
theorem dX6_takeBack_31 : decode cX6_takeBack 31 = .ok (.aload_n 0, 1) := by decide +kernel
theorem dX6_takeBack_32 : decode cX6_takeBack 32 = .ok (.getfield 35, 3) := by decide +kernel
theorem dX6_takeBack_35 : decode cX6_takeBack 35 = .ok (.getfield 105, 3) := by decide +kernel
theorem dX6_takeBack_38 : decode cX6_takeBack 38 = .ok (.iload_n 1, 1) := by decide +kernel
theorem dX6_takeBack_39 : decode cX6_takeBack 39 = .ok (.iconst (-1), 1) := by decide +kernel
theorem dX6_takeBack_40 : decode cX6_takeBack 40 = .ok (.iastore, 1) := by decide +kernel
theorem dX6_takeBack_41 : decode cX6_takeBack 41 = .ok (.iload_n 2, 1) := by decide +kernel
theorem dX6_takeBack_42 : decode cX6_takeBack 42 = .ok (.ireturn, 1) := by decide +kernel
theorem dX6_addBiscuits_0 : decode cX6_addBiscuits 0 = .ok (.aload_n 0, 1) := by decide +kernel
theorem dX6_addBiscuits_1 : decode cX6_addBiscuits 1 = .ok (.getfield 49, 3) := by decide +kernel
theorem dX6_addBiscuits_4 : decode cX6_addBiscuits 4 = .ok (.iload_n 1, 1) := by decide +kernel
theorem dX6_addBiscuits_5 : decode cX6_addBiscuits 5 = .ok (.invokevirtual 104, 3) := by decide +kernel
theorem dX6_addBiscuits_8 : decode cX6_addBiscuits 8 = .ok (.ifCond .eq 13, 3) := by decide +kernel
theorem dX6_addBiscuits_11 : decode cX6_addBiscuits 11 = .ok (.iload_n 2, 1) := by decide +kernel
theorem dX6_addBiscuits_12 : decode cX6_addBiscuits 12 = .ok (.iconst 1, 1) := by decide +kernel
theorem dX6_addBiscuits_13 : decode cX6_addBiscuits 13 = .ok (.bipush 99, 2) := by decide +kernel
theorem dX6_addBiscuits_15 : decode cX6_addBiscuits 15 = .ok (.invokestatic 74, 3) := by decide +kernel
theorem dX6_addBiscuits_18 : decode cX6_addBiscuits 18 = .ok (.ifCond .ne 5, 3) := by decide +kernel
theorem dX6_addBiscuits_21 : decode cX6_addBiscuits 21 = .ok (.iconst (-1), 1) := by decide +kernel
theorem dX6_addBiscuits_22 : decode cX6_addBiscuits 22 = .ok (.ireturn, 1) := by decide +kernel
theorem dX6_addBiscuits_23 : decode cX6_addBiscuits 23 = .ok (.aload_n 0, 1) := by decide +kernel
theorem dX6_addBiscuits_24 : decode cX6_addBiscuits 24 = .ok (.getfield 49, 3) := by decide +kernel
theorem dX6_addBiscuits_27 : decode cX6_addBiscuits 27 = .ok (.getfield 116, 3) := by decide +kernel
theorem dX6_addBiscuits_30 : decode cX6_addBiscuits 30 = .ok (.iload_n 1, 1) := by decide +kernel
theorem dX6_addBiscuits_31 : decode cX6_addBiscuits 31 = .ok (.iaload, 1) := by decide +kernel
theorem dX6_addBiscuits_32 : decode cX6_addBiscuits 32 = .ok (.iload_n 2, 1) := by decide +kernel
theorem dX6_addBiscuits_33 : decode cX6_addBiscuits 33 = .ok (.iadd, 1) := by decide +kernel
theorem dX6_addBiscuits_34 : decode cX6_addBiscuits 34 = .ok (.sipush 500, 3) := by decide +kernel
theorem dX6_addBiscuits_37 : decode cX6_addBiscuits 37 = .ok (.if_icmp .le 6, 3) := by decide +kernel
theorem dX6_addBiscuits_40 : decode cX6_addBiscuits 40 = .ok (.bipush (-3), 2) := by decide +kernel
theorem dX6_addBiscuits_42 : decode cX6_addBiscuits 42 = .ok (.ireturn, 1) := by decide +kernel
theorem dX6_addBiscuits_43 : decode cX6_addBiscuits 43 = .ok (.aload_n 0, 1) := by decide +kernel
theorem dX6_addBiscuits_44 : decode cX6_addBiscuits 44 = .ok (.getfield 49, 3) := by decide +kernel
theorem dX6_addBiscuits_47 : decode cX6_addBiscuits 47 = .ok (.getfield 116, 3) := by decide +kernel
theorem dX6_addBiscuits_50 : decode cX6_addBiscuits 50 = .ok (.iload_n 1, 1) := by decide +kernel
theorem dX6_addBiscuits_51 : decode cX6_addBiscuits 51 = .ok (.dup2, 1) := by decide +kernel
theorem dX6_addBiscuits_52 : decode cX6_addBiscuits 52 = .ok (.iaload, 1) := by decide +kernel
theorem dX6_addBiscuits_53 : decode cX6_addBiscuits 53 = .ok (.iload_n 2, 1) := by decide +kernel
theorem dX6_addBiscuits_54 : decode cX6_addBiscuits 54 = .ok (.iadd, 1) := by decide +kernel
theorem dX6_addBiscuits_55 : decode cX6_addBiscuits 55 = .ok (.iastore, 1) := by decide +kernel
theorem dX6_addBiscuits_56 : decode cX6_addBiscuits 56 = .ok (.aload_n 0, 1) := by decide +kernel
theorem dX6_addBiscuits_57 : decode cX6_addBiscuits 57 = .ok (.getfield 49, 3) := by decide +kernel
theorem dX6_addBiscuits_60 : decode cX6_addBiscuits 60 = .ok (.getfield 116, 3) := by decide +kernel
theorem dX6_addBiscuits_63 : decode cX6_addBiscuits 63 = .ok (.iload_n 1, 1) := by decide +kernel
theorem dX6_addBiscuits_64 : decode cX6_addBiscuits 64 = .ok (.iaload, 1) := by decide +kernel
theorem dX6_addBiscuits_65 : decode cX6_addBiscuits 65 = .ok (.ireturn, 1) := by decide +kernel
theorem dX6_changeSetting_0 : decode cX6_changeSetting 0 = .ok (.iload_n 1, 1) := by decide +kernel
theorem dX6_changeSetting_1 : decode cX6_changeSetting 1 = .ok (.ifCond .ne 25, 3) := by decide +kernel
theorem dX6_changeSetting_4 : decode cX6_changeSetting 4 = .ok (.iload_n 2, 1) := by decide +kernel
theorem dX6_changeSetting_5 : decode cX6_changeSetting 5 = .ok (.iconst 1, 1) := by decide +kernel
theorem dX6_changeSetting_6 : decode cX6_changeSetting 6 = .ok (.bipush 20, 2) := by decide +kernel
theorem dX6_changeSetting_8 : decode cX6_changeSetting 8 = .ok (.invokestatic 74, 3) := by decide +kernel
theorem dX6_changeSetting_11 : decode cX6_changeSetting 11 = .ok (.ifCond .eq 15, 3) := by decide +kernel
theorem dX6_changeSetting_14 : decode cX6_changeSetting 14 = .ok (.aload_n 0, 1) := by decide +kernel
theorem dX6_changeSetting_15 : decode cX6_changeSetting 15 = .ok (.getfield 15, 3) := by decide +kernel
theorem dX6_changeSetting_18 : decode cX6_changeSetting 18 = .ok (.istore_n 3, 1) := by decide +kernel
theorem dX6_changeSetting_19 : decode cX6_changeSetting 19 = .ok (.aload_n 0, 1) := by decide +kernel
theorem dX6_changeSetting_20 : decode cX6_changeSetting 20 = .ok (.iload_n 2, 1) := by decide +kernel
theorem dX6_changeSetting_21 : decode cX6_changeSetting 21 = .ok (.putfield 15, 3) := by decide +kernel
theorem dX6_changeSetting_24 : decode cX6_changeSetting 24 = .ok (.iload_n 3, 1) := by decide +kernel
theorem dX6_changeSetting_25 : decode cX6_changeSetting 25 = .ok (.ireturn, 1) := by decide +kernel
theorem dX6_changeSetting_26 : decode cX6_changeSetting 26 = .ok (.iload_n 1, 1) := by decide +kernel
theorem dX6_changeSetting_27 : decode cX6_changeSetting 27 = .ok (.iconst 1, 1) := by decide +kernel
theorem dX6_changeSetting_28 : decode cX6_changeSetting 28 = .ok (.if_icmp .ne 25, 3) := by decide +kernel
theorem dX6_changeSetting_31 : decode cX6_changeSetting 31 = .ok (.iload_n 2, 1) := by decide +kernel
theorem dX6_changeSetting_32 : decode cX6_changeSetting 32 = .ok (.iconst 1, 1) := by decide +kernel
theorem dX6_changeSetting_33 : decode cX6_changeSetting 33 = .ok (.bipush 50, 2) := by decide +kernel
theorem dX6_changeSetting_35 : decode cX6_changeSetting 35 = .ok (.invokestatic 74, 3) := by decide +kernel
theorem dX6_changeSetting_38 : decode cX6_changeSetting 38 = .ok (.ifCond .eq 15, 3) := by decide +kernel
theorem dX6_changeSetting_41 : decode cX6_changeSetting 41 = .ok (.aload_n 0, 1) := by decide +kernel
theorem dX6_changeSetting_42 : decode cX6_changeSetting 42 = .ok (.getfield 18, 3) := by decide +kernel
theorem dX6_changeSetting_45 : decode cX6_changeSetting 45 = .ok (.istore_n 3, 1) := by decide +kernel
theorem dX6_changeSetting_46 : decode cX6_changeSetting 46 = .ok (.aload_n 0, 1) := by decide +kernel
theorem dX6_changeSetting_47 : decode cX6_changeSetting 47 = .ok (.iload_n 2, 1) := by decide +kernel
theorem dX6_changeSetting_48 : decode cX6_changeSetting 48 = .ok (.putfield 18, 3) := by decide +kernel
theorem dX6_changeSetting_51 : decode cX6_changeSetting 51 = .ok (.iload_n 3, 1) := by decide +kernel
theorem dX6_changeSetting_52 : decode cX6_changeSetting 52 = .ok (.ireturn, 1) := by decide +kernel
theorem dX6_changeSetting_53 : decode cX6_changeSetting 53 = .ok (.iconst (-1), 1) := by decide +kernel
theorem dX6_changeSetting_54 : decode cX6_changeSetting 54 = .ok (.ireturn, 1) := by decide +kernel
theorem dX6_letDaysGo_0 : decode cX6_letDaysGo 0 = .ok (.iload_n 1, 1) := by decide +kernel
theorem dX6_letDaysGo_1 : decode cX6_letDaysGo 1 = .ok (.iconst 1, 1) := by decide +kernel
theorem dX6_letDaysGo_2 : decode cX6_letDaysGo 2 = .ok (.bipush 31, 2) := by decide +kernel
theorem dX6_letDaysGo_4 : decode cX6_letDaysGo 4 = .ok (.invokestatic 74, 3) := by decide +kernel
theorem dX6_letDaysGo_7 : decode cX6_letDaysGo 7 = .ok (.ifCond .ne 5, 3) := by decide +kernel
theorem dX6_letDaysGo_10 : decode cX6_letDaysGo 10 = .ok (.iconst (-1), 1) := by decide +kernel
theorem dX6_letDaysGo_11 : decode cX6_letDaysGo 11 = .ok (.ireturn, 1) := by decide +kernel
theorem dX6_letDaysGo_12 : decode cX6_letDaysGo 12 = .ok (.aload_n 0, 1) := by decide +kernel
theorem dX6_letDaysGo_13 : decode cX6_letDaysGo 13 = .ok (.getfield 9, 3) := by decide +kernel
theorem dX6_letDaysGo_16 : decode cX6_letDaysGo 16 = .ok (.iload_n 1, 1) := by decide +kernel
theorem dX6_letDaysGo_17 : decode cX6_letDaysGo 17 = .ok (.iadd, 1) := by decide +kernel
theorem dX6_letDaysGo_18 : decode cX6_letDaysGo 18 = .ok (.sipush 1000, 3) := by decide +kernel
theorem dX6_letDaysGo_21 : decode cX6_letDaysGo 21 = .ok (.if_icmp .le 6, 3) := by decide +kernel
theorem dX6_letDaysGo_24 : decode cX6_letDaysGo 24 = .ok (.bipush (-3), 2) := by decide +kernel
theorem dX6_letDaysGo_26 : decode cX6_letDaysGo 26 = .ok (.ireturn, 1) := by decide +kernel
theorem dX6_letDaysGo_27 : decode cX6_letDaysGo 27 = .ok (.aload_n 0, 1) := by decide +kernel
theorem dX6_letDaysGo_28 : decode cX6_letDaysGo 28 = .ok (.getfield 21, 3) := by decide +kernel
theorem dX6_letDaysGo_31 : decode cX6_letDaysGo 31 = .ok (.iconst 1, 1) := by decide +kernel
theorem dX6_letDaysGo_32 : decode cX6_letDaysGo 32 = .ok (.iaload, 1) := by decide +kernel
theorem dX6_letDaysGo_33 : decode cX6_letDaysGo 33 = .ok (.istore_n 3, 1) := by decide +kernel
theorem dX6_letDaysGo_34 : decode cX6_letDaysGo 34 = .ok (.iconst 0, 1) := by decide +kernel
theorem dX6_letDaysGo_35 : decode cX6_letDaysGo 35 = .ok (.istore 4, 2) := by decide +kernel
theorem dX6_letDaysGo_37 : decode cX6_letDaysGo 37 = .ok (.iload 4, 2) := by decide +kernel
theorem dX6_letDaysGo_39 : decode cX6_letDaysGo 39 = .ok (.iload_n 1, 1) := by decide +kernel
theorem dX6_letDaysGo_40 : decode cX6_letDaysGo 40 = .ok (.if_icmp .ge 111, 3) := by decide +kernel
theorem dX6_letDaysGo_43 : decode cX6_letDaysGo 43 = .ok (.iconst 0, 1) := by decide +kernel
theorem dX6_letDaysGo_44 : decode cX6_letDaysGo 44 = .ok (.istore 5, 2) := by decide +kernel
theorem dX6_letDaysGo_46 : decode cX6_letDaysGo 46 = .ok (.iload 5, 2) := by decide +kernel
theorem dX6_letDaysGo_48 : decode cX6_letDaysGo 48 = .ok (.aload_n 0, 1) := by decide +kernel
theorem dX6_letDaysGo_49 : decode cX6_letDaysGo 49 = .ok (.getfield 49, 3) := by decide +kernel
theorem dX6_letDaysGo_52 : decode cX6_letDaysGo 52 = .ok (.getfield 100, 3) := by decide +kernel
theorem dX6_letDaysGo_55 : decode cX6_letDaysGo 55 = .ok (.if_icmp .ge 55, 3) := by decide +kernel
theorem dX6_letDaysGo_58 : decode cX6_letDaysGo 58 = .ok (.aload_n 2, 1) := by decide +kernel
theorem dX6_letDaysGo_59 : decode cX6_letDaysGo 59 = .ok (.aload_n 0, 1) := by decide +kernel
theorem dX6_letDaysGo_60 : decode cX6_letDaysGo 60 = .ok (.iload 5, 2) := by decide +kernel
theorem dX6_letDaysGo_62 : decode cX6_letDaysGo 62 = .ok (.aload_n 0, 1) := by decide +kernel
theorem dX6_letDaysGo_63 : decode cX6_letDaysGo 63 = .ok (.getfield 9, 3) := by decide +kernel
theorem dX6_letDaysGo_66 : decode cX6_letDaysGo 66 = .ok (.iconst (-1), 1) := by decide +kernel
theorem dX6_letDaysGo_67 : decode cX6_letDaysGo 67 = .ok (.invokevirtual 119, 3) := by decide +kernel
theorem dX6_letDaysGo_70 : decode cX6_letDaysGo 70 = .ok (.aload_n 0, 1) := by decide +kernel
theorem dX6_letDaysGo_71 : decode cX6_letDaysGo 71 = .ok (.getfield 49, 3) := by decide +kernel
theorem dX6_letDaysGo_74 : decode cX6_letDaysGo 74 = .ok (.getfield 125, 3) := by decide +kernel
theorem dX6_letDaysGo_77 : decode cX6_letDaysGo 77 = .ok (.iload 5, 2) := by decide +kernel
theorem dX6_letDaysGo_79 : decode cX6_letDaysGo 79 = .ok (.dup2, 1) := by decide +kernel
theorem dX6_letDaysGo_80 : decode cX6_letDaysGo 80 = .ok (.iaload, 1) := by decide +kernel
theorem dX6_letDaysGo_81 : decode cX6_letDaysGo 81 = .ok (.aload_n 2, 1) := by decide +kernel
theorem dX6_letDaysGo_82 : decode cX6_letDaysGo 82 = .ok (.getfield 128, 3) := by decide +kernel
theorem dX6_letDaysGo_85 : decode cX6_letDaysGo 85 = .ok (.iadd, 1) := by decide +kernel
theorem dX6_letDaysGo_86 : decode cX6_letDaysGo 86 = .ok (.iastore, 1) := by decide +kernel
theorem dX6_letDaysGo_87 : decode cX6_letDaysGo 87 = .ok (.aload_n 0, 1) := by decide +kernel
theorem dX6_letDaysGo_88 : decode cX6_letDaysGo 88 = .ok (.getfield 49, 3) := by decide +kernel
theorem dX6_letDaysGo_91 : decode cX6_letDaysGo 91 = .ok (.getfield 130, 3) := by decide +kernel
theorem dX6_letDaysGo_94 : decode cX6_letDaysGo 94 = .ok (.iload 5, 2) := by decide +kernel
theorem dX6_letDaysGo_96 : decode cX6_letDaysGo 96 = .ok (.dup2, 1) := by decide +kernel
theorem dX6_letDaysGo_97 : decode cX6_letDaysGo 97 = .ok (.iaload, 1) := by decide +kernel
theorem dX6_letDaysGo_98 : decode cX6_letDaysGo 98 = .ok (.aload_n 2, 1) := by decide +kernel
theorem dX6_letDaysGo_99 : decode cX6_letDaysGo 99 = .ok (.getfield 133, 3) := by decide +kernel
theorem dX6_letDaysGo_102 : decode cX6_letDaysGo 102 = .ok (.iadd, 1) := by decide +kernel
theorem dX6_letDaysGo_103 : decode cX6_letDaysGo 103 = .ok (.iastore, 1) := by decide +kernel
theorem dX6_letDaysGo_104 : decode cX6_letDaysGo 104 = .ok (.iinc 5 1, 3) := by decide +kernel
theorem dX6_letDaysGo_107 : decode cX6_letDaysGo 107 = .ok (.goto (-61), 3) := by decide +kernel
theorem dX6_letDaysGo_110 : decode cX6_letDaysGo 110 = .ok (.aload_n 0, 1) := by decide +kernel
theorem dX6_letDaysGo_111 : decode cX6_letDaysGo 111 = .ok (.invokevirtual 135, 3) := by decide +kernel
theorem dX6_letDaysGo_114 : decode cX6_letDaysGo 114 = .ok (.aload_n 0, 1) := by decide +kernel
theorem dX6_letDaysGo_115 : decode cX6_letDaysGo 115 = .ok (.getfield 9, 3) := by decide +kernel
theorem dX6_letDaysGo_118 : decode cX6_letDaysGo 118 = .ok (.invokestatic 138, 3) := by decide +kernel
theorem dX6_letDaysGo_121 : decode cX6_letDaysGo 121 = .ok (.ifCond .eq 14, 3) := by decide +kernel
theorem dX6_letDaysGo_124 : decode cX6_letDaysGo 124 = .ok (.aload_n 0, 1) := by decide +kernel
theorem dX6_letDaysGo_125 : decode cX6_letDaysGo 125 = .ok (.invokevirtual 141, 3) := by decide +kernel
theorem dX6_letDaysGo_128 : decode cX6_letDaysGo 128 = .ok (.aload_n 0, 1) := by decide +kernel
theorem dX6_letDaysGo_129 : decode cX6_letDaysGo 129 = .ok (.getfield 35, 3) := by decide +kernel
theorem dX6_letDaysGo_132 : decode cX6_letDaysGo 132 = .ok (.invokevirtual 144, 3) := by decide +kernel
theorem dX6_letDaysGo_135 : decode cX6_letDaysGo 135 = .ok (.aload_n 0, 1) := by decide +kernel
theorem dX6_letDaysGo_136 : decode cX6_letDaysGo 136 = .ok (.dup, 1) := by decide +kernel
theorem dX6_letDaysGo_137 : decode cX6_letDaysGo 137 = .ok (.getfield 9, 3) := by decide +kernel
theorem dX6_letDaysGo_140 : decode cX6_letDaysGo 140 = .ok (.iconst 1, 1) := by decide +kernel
theorem dX6_letDaysGo_141 : decode cX6_letDaysGo 141 = .ok (.iadd, 1) := by decide +kernel
theorem dX6_letDaysGo_142 : decode cX6_letDaysGo 142 = .ok (.putfield 9, 3) := by decide +kernel
theorem dX6_letDaysGo_145 : decode cX6_letDaysGo 145 = .ok (.iinc 4 1, 3) := by decide +kernel
theorem dX6_letDaysGo_148 : decode cX6_letDaysGo 148 = .ok (.goto (-111), 3) := by decide +kernel
theorem dX6_letDaysGo_151 : decode cX6_letDaysGo 151 = .ok (.aload_n 0, 1) := by decide +kernel
theorem dX6_letDaysGo_152 : decode cX6_letDaysGo 152 = .ok (.getfield 21, 3) := by decide +kernel
theorem dX6_letDaysGo_155 : decode cX6_letDaysGo 155 = .ok (.iconst 1, 1) := by decide +kernel
theorem dX6_letDaysGo_156 : decode cX6_letDaysGo 156 = .ok (.iaload, 1) := by decide +kernel
theorem dX6_letDaysGo_157 : decode cX6_letDaysGo 157 = .ok (.iload_n 3, 1) := by decide +kernel
theorem dX6_letDaysGo_158 : decode cX6_letDaysGo 158 = .ok (.isub, 1) := by decide +kernel
theorem dX6_letDaysGo_159 : decode cX6_letDaysGo 159 = .ok (.ireturn, 1) := by decide +kernel
theorem dX6_bringPapers_0 : decode cX6_bringPapers 0 = .ok (.iconst 0, 1) := by decide +kernel
theorem dX6_bringPapers_1 : decode cX6_bringPapers 1 = .ok (.istore_n 1, 1) := by decide +kernel
theorem dX6_bringPapers_2 : decode cX6_bringPapers 2 = .ok (.iload_n 1, 1) := by decide +kernel
theorem dX6_bringPapers_3 : decode cX6_bringPapers 3 = .ok (.aload_n 0, 1) := by decide +kernel
theorem dX6_bringPapers_4 : decode cX6_bringPapers 4 = .ok (.getfield 35, 3) := by decide +kernel
theorem dX6_bringPapers_7 : decode cX6_bringPapers 7 = .ok (.getfield 85, 3) := by decide +kernel
theorem dX6_bringPapers_10 : decode cX6_bringPapers 10 = .ok (.if_icmp .ge 65, 3) := by decide +kernel
theorem dX6_bringPapers_13 : decode cX6_bringPapers 13 = .ok (.aload_n 0, 1) := by decide +kernel
theorem dX6_bringPapers_14 : decode cX6_bringPapers 14 = .ok (.getfield 35, 3) := by decide +kernel
theorem dX6_bringPapers_17 : decode cX6_bringPapers 17 = .ok (.getfield 147, 3) := by decide +kernel
theorem dX6_bringPapers_20 : decode cX6_bringPapers 20 = .ok (.iload_n 1, 1) := by decide +kernel
theorem dX6_bringPapers_21 : decode cX6_bringPapers 21 = .ok (.iaload, 1) := by decide +kernel
theorem dX6_bringPapers_22 : decode cX6_bringPapers 22 = .ok (.istore_n 2, 1) := by decide +kernel
theorem dX6_bringPapers_23 : decode cX6_bringPapers 23 = .ok (.aload_n 0, 1) := by decide +kernel
theorem dX6_bringPapers_24 : decode cX6_bringPapers 24 = .ok (.getfield 35, 3) := by decide +kernel
theorem dX6_bringPapers_27 : decode cX6_bringPapers 27 = .ok (.getfield 150, 3) := by decide +kernel
theorem dX6_bringPapers_30 : decode cX6_bringPapers 30 = .ok (.iload_n 2, 1) := by decide +kernel
theorem dX6_bringPapers_31 : decode cX6_bringPapers 31 = .ok (.iaload, 1) := by decide +kernel
theorem dX6_bringPapers_32 : decode cX6_bringPapers 32 = .ok (.istore_n 3, 1) := by decide +kernel
theorem dX6_bringPapers_33 : decode cX6_bringPapers 33 = .ok (.aload_n 0, 1) := by decide +kernel
theorem dX6_bringPapers_34 : decode cX6_bringPapers 34 = .ok (.iload_n 2, 1) := by decide +kernel
theorem dX6_bringPapers_35 : decode cX6_bringPapers 35 = .ok (.invokevirtual 153, 3) := by decide +kernel
theorem dX6_bringPapers_38 : decode cX6_bringPapers 38 = .ok (.istore 4, 2) := by decide +kernel
theorem dX6_bringPapers_40 : decode cX6_bringPapers 40 = .ok (.aload_n 0, 1) := by decide +kernel
theorem dX6_bringPapers_41 : decode cX6_bringPapers 41 = .ok (.getfield 21, 3) := by decide +kernel
theorem dX6_bringPapers_44 : decode cX6_bringPapers 44 = .ok (.iconst 0, 1) := by decide +kernel
theorem dX6_bringPapers_45 : decode cX6_bringPapers 45 = .ok (.dup2, 1) := by decide +kernel
theorem dX6_bringPapers_46 : decode cX6_bringPapers 46 = .ok (.iaload, 1) := by decide +kernel
theorem dX6_bringPapers_47 : decode cX6_bringPapers 47 = .ok (.iload_n 3, 1) := by decide +kernel
theorem dX6_bringPapers_48 : decode cX6_bringPapers 48 = .ok (.iadd, 1) := by decide +kernel
theorem dX6_bringPapers_49 : decode cX6_bringPapers 49 = .ok (.iastore, 1) := by decide +kernel
theorem dX6_bringPapers_50 : decode cX6_bringPapers 50 = .ok (.aload_n 0, 1) := by decide +kernel
theorem dX6_bringPapers_51 : decode cX6_bringPapers 51 = .ok (.getfield 21, 3) := by decide +kernel
theorem dX6_bringPapers_54 : decode cX6_bringPapers 54 = .ok (.iload 4, 2) := by decide +kernel
theorem dX6_bringPapers_56 : decode cX6_bringPapers 56 = .ok (.dup2, 1) := by decide +kernel
theorem dX6_bringPapers_57 : decode cX6_bringPapers 57 = .ok (.iaload, 1) := by decide +kernel
theorem dX6_bringPapers_58 : decode cX6_bringPapers 58 = .ok (.iload_n 3, 1) := by decide +kernel
theorem dX6_bringPapers_59 : decode cX6_bringPapers 59 = .ok (.iadd, 1) := by decide +kernel
theorem dX6_bringPapers_60 : decode cX6_bringPapers 60 = .ok (.iastore, 1) := by decide +kernel
theorem dX6_bringPapers_61 : decode cX6_bringPapers 61 = .ok (.aload_n 0, 1) := by decide +kernel
theorem dX6_bringPapers_62 : decode cX6_bringPapers 62 = .ok (.iload_n 2, 1) := by decide +kernel
theorem dX6_bringPapers_63 : decode cX6_bringPapers 63 = .ok (.iload_n 3, 1) := by decide +kernel
theorem dX6_bringPapers_64 : decode cX6_bringPapers 64 = .ok (.iload 4, 2) := by decide +kernel
theorem dX6_bringPapers_66 : decode cX6_bringPapers 66 = .ok (.invokevirtual 156, 3) := by decide +kernel
theorem dX6_bringPapers_69 : decode cX6_bringPapers 69 = .ok (.iinc 1 1, 3) := by decide +kernel
theorem dX6_bringPapers_72 : decode cX6_bringPapers 72 = .ok (.goto (-70), 3) := by decide +kernel
theorem dX6_bringPapers_75 : decode cX6_bringPapers 75 = .ok (.return_, 1) := by decide +kernel
theorem dX6_fateOfPapers_0 : decode cX6_fateOfPapers 0 = .ok (.aload_n 0, 1) := by decide +kernel
theorem dX6_fateOfPapers_1 : decode cX6_fateOfPapers 1 = .ok (.getfield 35, 3) := by decide +kernel
theorem dX6_fateOfPapers_4 : decode cX6_fateOfPapers 4 = .ok (.getfield 105, 3) := by decide +kernel
theorem dX6_fateOfPapers_7 : decode cX6_fateOfPapers 7 = .ok (.iload_n 1, 1) := by decide +kernel
theorem dX6_fateOfPapers_8 : decode cX6_fateOfPapers 8 = .ok (.iaload, 1) := by decide +kernel
theorem dX6_fateOfPapers_9 : decode cX6_fateOfPapers 9 = .ok (.istore_n 2, 1) := by decide +kernel
theorem dX6_fateOfPapers_10 : decode cX6_fateOfPapers 10 = .ok (.aload_n 0, 1) := by decide +kernel
theorem dX6_fateOfPapers_11 : decode cX6_fateOfPapers 11 = .ok (.getfield 42, 3) := by decide +kernel
theorem dX6_fateOfPapers_14 : decode cX6_fateOfPapers 14 = .ok (.iload_n 1, 1) := by decide +kernel
theorem dX6_fateOfPapers_15 : decode cX6_fateOfPapers 15 = .ok (.aload_n 0, 1) := by decide +kernel
theorem dX6_fateOfPapers_16 : decode cX6_fateOfPapers 16 = .ok (.getfield 9, 3) := by decide +kernel
theorem dX6_fateOfPapers_19 : decode cX6_fateOfPapers 19 = .ok (.invokevirtual 160, 3) := by decide +kernel
theorem dX6_fateOfPapers_22 : decode cX6_fateOfPapers 22 = .ok (.ifCond .eq 5, 3) := by decide +kernel
theorem dX6_fateOfPapers_25 : decode cX6_fateOfPapers 25 = .ok (.iconst 2, 1) := by decide +kernel
theorem dX6_fateOfPapers_26 : decode cX6_fateOfPapers 26 = .ok (.ireturn, 1) := by decide +kernel
theorem dX6_fateOfPapers_27 : decode cX6_fateOfPapers 27 = .ok (.iload_n 2, 1) := by decide +kernel
theorem dX6_fateOfPapers_28 : decode cX6_fateOfPapers 28 = .ok (.iconst (-1), 1) := by decide +kernel
theorem dX6_fateOfPapers_29 : decode cX6_fateOfPapers 29 = .ok (.if_icmp .ne 5, 3) := by decide +kernel
theorem dX6_fateOfPapers_32 : decode cX6_fateOfPapers 32 = .ok (.iconst 5, 1) := by decide +kernel
theorem dX6_fateOfPapers_33 : decode cX6_fateOfPapers 33 = .ok (.ireturn, 1) := by decide +kernel
theorem dX6_fateOfPapers_34 : decode cX6_fateOfPapers 34 = .ok (.aload_n 0, 1) := by decide +kernel
theorem dX6_fateOfPapers_35 : decode cX6_fateOfPapers 35 = .ok (.getfield 35, 3) := by decide +kernel
theorem dX6_fateOfPapers_38 : decode cX6_fateOfPapers 38 = .ok (.getfield 150, 3) := by decide +kernel
theorem dX6_fateOfPapers_41 : decode cX6_fateOfPapers 41 = .ok (.iload_n 1, 1) := by decide +kernel
theorem dX6_fateOfPapers_42 : decode cX6_fateOfPapers 42 = .ok (.iaload, 1) := by decide +kernel
theorem dX6_fateOfPapers_43 : decode cX6_fateOfPapers 43 = .ok (.aload_n 0, 1) := by decide +kernel
theorem dX6_fateOfPapers_44 : decode cX6_fateOfPapers 44 = .ok (.aload_n 0, 1) := by decide +kernel
theorem dX6_fateOfPapers_45 : decode cX6_fateOfPapers 45 = .ok (.getfield 9, 3) := by decide +kernel
theorem dX6_fateOfPapers_48 : decode cX6_fateOfPapers 48 = .ok (.invokevirtual 163, 3) := by decide +kernel
theorem dX6_fateOfPapers_51 : decode cX6_fateOfPapers 51 = .ok (.imul, 1) := by decide +kernel
theorem dX6_fateOfPapers_52 : decode cX6_fateOfPapers 52 = .ok (.aload_n 0, 1) := by decide +kernel
theorem dX6_fateOfPapers_53 : decode cX6_fateOfPapers 53 = .ok (.getfield 49, 3) := by decide +kernel
theorem dX6_fateOfPapers_56 : decode cX6_fateOfPapers 56 = .ok (.getfield 166, 3) := by decide +kernel
theorem dX6_fateOfPapers_59 : decode cX6_fateOfPapers 59 = .ok (.iload_n 2, 1) := by decide +kernel
theorem dX6_fateOfPapers_60 : decode cX6_fateOfPapers 60 = .ok (.iaload, 1) := by decide +kernel
theorem dX6_fateOfPapers_61 : decode cX6_fateOfPapers 61 = .ok (.if_icmp .le 5, 3) := by decide +kernel
theorem dX6_fateOfPapers_64 : decode cX6_fateOfPapers 64 = .ok (.iconst 4, 1) := by decide +kernel
theorem dX6_fateOfPapers_65 : decode cX6_fateOfPapers 65 = .ok (.ireturn, 1) := by decide +kernel
theorem dX6_fateOfPapers_66 : decode cX6_fateOfPapers 66 = .ok (.aload_n 0, 1) := by decide +kernel
theorem dX6_fateOfPapers_67 : decode cX6_fateOfPapers 67 = .ok (.getfield 35, 3) := by decide +kernel
theorem dX6_fateOfPapers_70 : decode cX6_fateOfPapers 70 = .ok (.iload_n 1, 1) := by decide +kernel
theorem dX6_fateOfPapers_71 : decode cX6_fateOfPapers 71 = .ok (.aload_n 0, 1) := by decide +kernel
theorem dX6_fateOfPapers_72 : decode cX6_fateOfPapers 72 = .ok (.getfield 9, 3) := by decide +kernel
theorem dX6_fateOfPapers_75 : decode cX6_fateOfPapers 75 = .ok (.invokevirtual 169, 3) := by decide +kernel
theorem dX6_fateOfPapers_78 : decode cX6_fateOfPapers 78 = .ok (.ifCond .eq 30, 3) := by decide +kernel
theorem dX6_fateOfPapers_81 : decode cX6_fateOfPapers 81 = .ok (.aload_n 0, 1) := by decide +kernel
theorem dX6_fateOfPapers_82 : decode cX6_fateOfPapers 82 = .ok (.getfield 49, 3) := by decide +kernel
theorem dX6_fateOfPapers_85 : decode cX6_fateOfPapers 85 = .ok (.getfield 116, 3) := by decide +kernel
theorem dX6_fateOfPapers_88 : decode cX6_fateOfPapers 88 = .ok (.iload_n 2, 1) := by decide +kernel
theorem dX6_fateOfPapers_89 : decode cX6_fateOfPapers 89 = .ok (.iaload, 1) := by decide +kernel
theorem dX6_fateOfPapers_90 : decode cX6_fateOfPapers 90 = .ok (.ifCond .ne 5, 3) := by decide +kernel
theorem dX6_fateOfPapers_93 : decode cX6_fateOfPapers 93 = .ok (.iconst 3, 1) := by decide +kernel
theorem dX6_fateOfPapers_94 : decode cX6_fateOfPapers 94 = .ok (.ireturn, 1) := by decide +kernel
theorem dX6_fateOfPapers_95 : decode cX6_fateOfPapers 95 = .ok (.aload_n 0, 1) := by decide +kernel
theorem dX6_fateOfPapers_96 : decode cX6_fateOfPapers 96 = .ok (.getfield 49, 3) := by decide +kernel
theorem dX6_fateOfPapers_99 : decode cX6_fateOfPapers 99 = .ok (.getfield 116, 3) := by decide +kernel
theorem dX6_fateOfPapers_102 : decode cX6_fateOfPapers 102 = .ok (.iload_n 2, 1) := by decide +kernel
theorem dX6_fateOfPapers_103 : decode cX6_fateOfPapers 103 = .ok (.dup2, 1) := by decide +kernel
theorem dX6_fateOfPapers_104 : decode cX6_fateOfPapers 104 = .ok (.iaload, 1) := by decide +kernel
theorem dX6_fateOfPapers_105 : decode cX6_fateOfPapers 105 = .ok (.iconst 1, 1) := by decide +kernel
theorem dX6_fateOfPapers_106 : decode cX6_fateOfPapers 106 = .ok (.isub, 1) := by decide +kernel
theorem dX6_fateOfPapers_107 : decode cX6_fateOfPapers 107 = .ok (.iastore, 1) := by decide +kernel
theorem dX6_fateOfPapers_108 : decode cX6_fateOfPapers 108 = .ok (.iconst 1, 1) := by decide +kernel
theorem dX6_fateOfPapers_109 : decode cX6_fateOfPapers 109 = .ok (.ireturn, 1) := by decide +kernel
theorem dX6_book_0 : decode cX6_book 0 = .ok (.iload_n 3, 1) := by decide +kernel
theorem dX6_book_1 : decode cX6_book 1 = .ok (.iconst 2, 1) := by decide +kernel
theorem dX6_book_2 : decode cX6_book 2 = .ok (.if_icmp .ne 19, 3) := by decide +kernel
theorem dX6_book_5 : decode cX6_book 5 = .ok (.aload_n 0, 1) := by decide +kernel
theorem dX6_book_6 : decode cX6_book 6 = .ok (.getfield 35, 3) := by decide +kernel
theorem dX6_book_9 : decode cX6_book 9 = .ok (.getfield 172, 3) := by decide +kernel
theorem dX6_book_12 : decode cX6_book 12 = .ok (.iload_n 1, 1) := by decide +kernel
theorem dX6_book_13 : decode cX6_book 13 = .ok (.dup2, 1) := by decide +kernel
theorem dX6_book_14 : decode cX6_book 14 = .ok (.iaload, 1) := by decide +kernel
theorem dX6_book_15 : decode cX6_book 15 = .ok (.iload_n 2, 1) := by decide +kernel
theorem dX6_book_16 : decode cX6_book 16 = .ok (.iadd, 1) := by decide +kernel
theorem dX6_book_17 : decode cX6_book 17 = .ok (.iastore, 1) := by decide +kernel
theorem dX6_book_18 : decode cX6_book 18 = .ok (.goto 108, 3) := by decide +kernel
theorem dX6_book_21 : decode cX6_book 21 = .ok (.iload_n 3, 1) := by decide +kernel
theorem dX6_book_22 : decode cX6_book 22 = .ok (.iconst 1, 1) := by decide +kernel
theorem dX6_book_23 : decode cX6_book 23 = .ok (.if_icmp .ne 53, 3) := by decide +kernel
theorem dX6_book_26 : decode cX6_book 26 = .ok (.aload_n 0, 1) := by decide +kernel
theorem dX6_book_27 : decode cX6_book 27 = .ok (.getfield 35, 3) := by decide +kernel
theorem dX6_book_30 : decode cX6_book 30 = .ok (.getfield 175, 3) := by decide +kernel
theorem dX6_book_33 : decode cX6_book 33 = .ok (.iload_n 1, 1) := by decide +kernel
theorem dX6_book_34 : decode cX6_book 34 = .ok (.dup2, 1) := by decide +kernel
theorem dX6_book_35 : decode cX6_book 35 = .ok (.iaload, 1) := by decide +kernel
theorem dX6_book_36 : decode cX6_book 36 = .ok (.iload_n 2, 1) := by decide +kernel
theorem dX6_book_37 : decode cX6_book 37 = .ok (.iadd, 1) := by decide +kernel
theorem dX6_book_38 : decode cX6_book 38 = .ok (.iastore, 1) := by decide +kernel
theorem dX6_book_39 : decode cX6_book 39 = .ok (.aload_n 0, 1) := by decide +kernel
theorem dX6_book_40 : decode cX6_book 40 = .ok (.getfield 35, 3) := by decide +kernel
theorem dX6_book_43 : decode cX6_book 43 = .ok (.getfield 178, 3) := by decide +kernel
theorem dX6_book_46 : decode cX6_book 46 = .ok (.iload_n 1, 1) := by decide +kernel
theorem dX6_book_47 : decode cX6_book 47 = .ok (.dup2, 1) := by decide +kernel
theorem dX6_book_48 : decode cX6_book 48 = .ok (.iaload, 1) := by decide +kernel
theorem dX6_book_49 : decode cX6_book 49 = .ok (.iload_n 2, 1) := by decide +kernel
theorem dX6_book_50 : decode cX6_book 50 = .ok (.iadd, 1) := by decide +kernel
theorem dX6_book_51 : decode cX6_book 51 = .ok (.iastore, 1) := by decide +kernel
theorem dX6_book_52 : decode cX6_book 52 = .ok (.aload_n 0, 1) := by decide +kernel
theorem dX6_book_53 : decode cX6_book 53 = .ok (.getfield 49, 3) := by decide +kernel
theorem dX6_book_56 : decode cX6_book 56 = .ok (.getfield 181, 3) := by decide +kernel
theorem dX6_book_59 : decode cX6_book 59 = .ok (.aload_n 0, 1) := by decide +kernel
theorem dX6_book_60 : decode cX6_book 60 = .ok (.getfield 35, 3) := by decide +kernel
theorem dX6_book_63 : decode cX6_book 63 = .ok (.getfield 105, 3) := by decide +kernel
theorem dX6_book_66 : decode cX6_book 66 = .ok (.iload_n 1, 1) := by decide +kernel
theorem dX6_book_67 : decode cX6_book 67 = .ok (.iaload, 1) := by decide +kernel
theorem dX6_book_68 : decode cX6_book 68 = .ok (.dup2, 1) := by decide +kernel
theorem dX6_book_69 : decode cX6_book 69 = .ok (.iaload, 1) := by decide +kernel
theorem dX6_book_70 : decode cX6_book 70 = .ok (.iload_n 2, 1) := by decide +kernel
theorem dX6_book_71 : decode cX6_book 71 = .ok (.iadd, 1) := by decide +kernel
theorem dX6_book_72 : decode cX6_book 72 = .ok (.iastore, 1) := by decide +kernel
theorem dX6_book_73 : decode cX6_book 73 = .ok (.goto 53, 3) := by decide +kernel
theorem dX6_book_76 : decode cX6_book 76 = .ok (.iload_n 3, 1) := by decide +kernel
theorem dX6_book_77 : decode cX6_book 77 = .ok (.iconst 5, 1) := by decide +kernel
theorem dX6_book_78 : decode cX6_book 78 = .ok (.if_icmp .ne 27, 3) := by decide +kernel
theorem dX6_book_81 : decode cX6_book 81 = .ok (.aload_n 0, 1) := by decide +kernel
theorem dX6_book_82 : decode cX6_book 82 = .ok (.getfield 35, 3) := by decide +kernel
theorem dX6_book_85 : decode cX6_book 85 = .ok (.getfield 182, 3) := by decide +kernel
theorem dX6_book_88 : decode cX6_book 88 = .ok (.iload_n 1, 1) := by decide +kernel
theorem dX6_book_89 : decode cX6_book 89 = .ok (.dup2, 1) := by decide +kernel
theorem dX6_book_90 : decode cX6_book 90 = .ok (.iaload, 1) := by decide +kernel
theorem dX6_book_91 : decode cX6_book 91 = .ok (.iload_n 2, 1) := by decide +kernel
theorem dX6_book_92 : decode cX6_book 92 = .ok (.iadd, 1) := by decide +kernel
theorem dX6_book_93 : decode cX6_book 93 = .ok (.iastore, 1) := by decide +kernel
theorem dX6_book_94 : decode cX6_book 94 = .ok (.aload_n 0, 1) := by decide +kernel
theorem dX6_book_95 : decode cX6_book 95 = .ok (.getfield 35, 3) := by decide +kernel
theorem dX6_book_98 : decode cX6_book 98 = .ok (.iload_n 1, 1) := by decide +kernel
theorem dX6_book_99 : decode cX6_book 99 = .ok (.invokevirtual 185, 3) := by decide +kernel
theorem dX6_book_102 : decode cX6_book 102 = .ok (.goto 24, 3) := by decide +kernel
theorem dX6_book_105 : decode cX6_book 105 = .ok (.aload_n 0, 1) := by decide +kernel
theorem dX6_book_106 : decode cX6_book 106 = .ok (.getfield 35, 3) := by decide +kernel
theorem dX6_book_109 : decode cX6_book 109 = .ok (.getfield 189, 3) := by decide +kernel
theorem dX6_book_112 : decode cX6_book 112 = .ok (.iload_n 1, 1) := by decide +kernel
theorem dX6_book_113 : decode cX6_book 113 = .ok (.dup2, 1) := by decide +kernel
theorem dX6_book_114 : decode cX6_book 114 = .ok (.iaload, 1) := by decide +kernel
theorem dX6_book_115 : decode cX6_book 115 = .ok (.iload_n 2, 1) := by decide +kernel
theorem dX6_book_116 : decode cX6_book 116 = .ok (.iadd, 1) := by decide +kernel
theorem dX6_book_117 : decode cX6_book 117 = .ok (.iastore, 1) := by decide +kernel
theorem dX6_book_118 : decode cX6_book 118 = .ok (.aload_n 0, 1) := by decide +kernel
theorem dX6_book_119 : decode cX6_book 119 = .ok (.getfield 35, 3) := by decide +kernel
theorem dX6_book_122 : decode cX6_book 122 = .ok (.iload_n 1, 1) := by decide +kernel
theorem dX6_book_123 : decode cX6_book 123 = .ok (.invokevirtual 185, 3) := by decide +kernel
theorem dX6_book_126 : decode cX6_book 126 = .ok (.return_, 1) := by decide +kernel
theorem dX6_payTips_0 : decode cX6_payTips 0 = .ok (.iconst 0, 1) := by decide +kernel
theorem dX6_payTips_1 : decode cX6_payTips 1 = .ok (.istore_n 1, 1) := by decide +kernel
theorem dX6_payTips_2 : decode cX6_payTips 2 = .ok (.iload_n 1, 1) := by decide +kernel
theorem dX6_payTips_3 : decode cX6_payTips 3 = .ok (.aload_n 0, 1) := by decide +kernel
theorem dX6_payTips_4 : decode cX6_payTips 4 = .ok (.getfield 35, 3) := by decide +kernel
theorem dX6_payTips_7 : decode cX6_payTips 7 = .ok (.getfield 85, 3) := by decide +kernel
theorem dX6_payTips_10 : decode cX6_payTips 10 = .ok (.if_icmp .ge 44, 3) := by decide +kernel
theorem dX6_payTips_13 : decode cX6_payTips 13 = .ok (.aload_n 0, 1) := by decide +kernel
theorem dX6_payTips_14 : decode cX6_payTips 14 = .ok (.getfield 35, 3) := by decide +kernel
theorem dX6_payTips_17 : decode cX6_payTips 17 = .ok (.getfield 105, 3) := by decide +kernel
theorem dX6_payTips_20 : decode cX6_payTips 20 = .ok (.iload_n 1, 1) := by decide +kernel
theorem dX6_payTips_21 : decode cX6_payTips 21 = .ok (.iaload, 1) := by decide +kernel
theorem dX6_payTips_22 : decode cX6_payTips 22 = .ok (.istore_n 2, 1) := by decide +kernel
theorem dX6_payTips_23 : decode cX6_payTips 23 = .ok (.iload_n 2, 1) := by decide +kernel
theorem dX6_payTips_24 : decode cX6_payTips 24 = .ok (.iconst (-1), 1) := by decide +kernel
theorem dX6_payTips_25 : decode cX6_payTips 25 = .ok (.if_icmp .eq 23, 3) := by decide +kernel
theorem dX6_payTips_28 : decode cX6_payTips 28 = .ok (.aload_n 0, 1) := by decide +kernel
theorem dX6_payTips_29 : decode cX6_payTips 29 = .ok (.getfield 49, 3) := by decide +kernel
theorem dX6_payTips_32 : decode cX6_payTips 32 = .ok (.getfield 192, 3) := by decide +kernel
theorem dX6_payTips_35 : decode cX6_payTips 35 = .ok (.iload_n 2, 1) := by decide +kernel
theorem dX6_payTips_36 : decode cX6_payTips 36 = .ok (.dup2, 1) := by decide +kernel
theorem dX6_payTips_37 : decode cX6_payTips 37 = .ok (.iaload, 1) := by decide +kernel
theorem dX6_payTips_38 : decode cX6_payTips 38 = .ok (.aload_n 0, 1) := by decide +kernel
theorem dX6_payTips_39 : decode cX6_payTips 39 = .ok (.getfield 35, 3) := by decide +kernel
theorem dX6_payTips_42 : decode cX6_payTips 42 = .ok (.iload_n 1, 1) := by decide +kernel
theorem dX6_payTips_43 : decode cX6_payTips 43 = .ok (.invokevirtual 195, 3) := by decide +kernel
theorem dX6_payTips_46 : decode cX6_payTips 46 = .ok (.iadd, 1) := by decide +kernel
theorem dX6_payTips_47 : decode cX6_payTips 47 = .ok (.iastore, 1) := by decide +kernel
theorem dX6_payTips_48 : decode cX6_payTips 48 = .ok (.iinc 1 1, 3) := by decide +kernel
theorem dX6_payTips_51 : decode cX6_payTips 51 = .ok (.goto (-49), 3) := by decide +kernel
theorem dX6_payTips_54 : decode cX6_payTips 54 = .ok (.return_, 1) := by decide +kernel
theorem dX6_weightOn_0 : decode cX6_weightOn 0 = .ok (.iload_n 1, 1) := by decide +kernel
theorem dX6_weightOn_1 : decode cX6_weightOn 1 = .ok (.invokestatic 138, 3) := by decide +kernel
theorem dX6_weightOn_4 : decode cX6_weightOn 4 = .ok (.ifCond .eq 10, 3) := by decide +kernel
theorem dX6_weightOn_7 : decode cX6_weightOn 7 = .ok (.aload_n 0, 1) := by decide +kernel
theorem dX6_weightOn_8 : decode cX6_weightOn 8 = .ok (.getfield 18, 3) := by decide +kernel
theorem dX6_weightOn_11 : decode cX6_weightOn 11 = .ok (.goto 7, 3) := by decide +kernel
theorem dX6_weightOn_14 : decode cX6_weightOn 14 = .ok (.aload_n 0, 1) := by decide +kernel
theorem dX6_weightOn_15 : decode cX6_weightOn 15 = .ok (.getfield 15, 3) := by decide +kernel
theorem dX6_weightOn_18 : decode cX6_weightOn 18 = .ok (.ireturn, 1) := by decide +kernel
theorem dX6_isSunday_0 : decode cX6_isSunday 0 = .ok (.iload_n 0, 1) := by decide +kernel
theorem dX6_isSunday_1 : decode cX6_isSunday 1 = .ok (.bipush 7, 2) := by decide +kernel
theorem dX6_isSunday_3 : decode cX6_isSunday 3 = .ok (.irem, 1) := by decide +kernel
theorem dX6_isSunday_4 : decode cX6_isSunday 4 = .ok (.bipush 6, 2) := by decide +kernel
theorem dX6_isSunday_6 : decode cX6_isSunday 6 = .ok (.if_icmp .ne 7, 3) := by decide +kernel
theorem dX6_isSunday_9 : decode cX6_isSunday 9 = .ok (.iconst 1, 1) := by decide +kernel
theorem dX6_isSunday_10 : decode cX6_isSunday 10 = .ok (.goto 4, 3) := by decide +kernel
theorem dX6_isSunday_13 : decode cX6_isSunday 13 = .ok (.iconst 0, 1) := by decide +kernel
theorem dX6_isSunday_14 : decode cX6_isSunday 14 = .ok (.ireturn, 1) := by decide +kernel
theorem dX6_canReach_0 : decode cX6_canReach 0 = .ok (.aload_n 0, 1) := by decide +kernel
theorem dX6_canReach_1 : decode cX6_canReach 1 = .ok (.getfield 49, 3) := by decide +kernel
theorem dX6_canReach_4 : decode cX6_canReach 4 = .ok (.getfield 198, 3) := by decide +kernel
theorem dX6_canReach_7 : decode cX6_canReach 7 = .ok (.iload_n 1, 1) := by decide +kernel
theorem dX6_canReach_8 : decode cX6_canReach 8 = .ok (.iaload, 1) := by decide +kernel
theorem dX6_canReach_9 : decode cX6_canReach 9 = .ok (.ifCond .eq 24, 3) := by decide +kernel
theorem dX6_canReach_12 : decode cX6_canReach 12 = .ok (.aload_n 0, 1) := by decide +kernel
theorem dX6_canReach_13 : decode cX6_canReach 13 = .ok (.getfield 28, 3) := by decide +kernel
theorem dX6_canReach_16 : decode cX6_canReach 16 = .ok (.getfield 201, 3) := by decide +kernel
theorem dX6_canReach_19 : decode cX6_canReach 19 = .ok (.aload_n 0, 1) := by decide +kernel
theorem dX6_canReach_20 : decode cX6_canReach 20 = .ok (.getfield 35, 3) := by decide +kernel
theorem dX6_canReach_23 : decode cX6_canReach 23 = .ok (.getfield 204, 3) := by decide +kernel
theorem dX6_canReach_26 : decode cX6_canReach 26 = .ok (.iload_n 2, 1) := by decide +kernel
theorem dX6_canReach_27 : decode cX6_canReach 27 = .ok (.iaload, 1) := by decide +kernel
theorem dX6_canReach_28 : decode cX6_canReach 28 = .ok (.iaload, 1) := by decide +kernel
theorem dX6_canReach_29 : decode cX6_canReach 29 = .ok (.iconst 1, 1) := by decide +kernel
theorem dX6_canReach_30 : decode cX6_canReach 30 = .ok (.if_icmp .ne 7, 3) := by decide +kernel
theorem dX6_canReach_33 : decode cX6_canReach 33 = .ok (.iconst 1, 1) := by decide +kernel
theorem dX6_canReach_34 : decode cX6_canReach 34 = .ok (.goto 4, 3) := by decide +kernel
theorem dX6_canReach_37 : decode cX6_canReach 37 = .ok (.iconst 0, 1) := by decide +kernel
theorem dX6_canReach_38 : decode cX6_canReach 38 = .ok (.ireturn, 1) := by decide +kernel
theorem dX6_housesFrom_0 : decode cX6_housesFrom 0 = .ok (.iconst 0, 1) := by decide +kernel
theorem dX6_housesFrom_1 : decode cX6_housesFrom 1 = .ok (.istore_n 2, 1) := by decide +kernel
theorem dX6_housesFrom_2 : decode cX6_housesFrom 2 = .ok (.iconst 0, 1) := by decide +kernel
theorem dX6_housesFrom_3 : decode cX6_housesFrom 3 = .ok (.istore_n 3, 1) := by decide +kernel
theorem dX6_housesFrom_4 : decode cX6_housesFrom 4 = .ok (.iload_n 3, 1) := by decide +kernel
theorem dX6_housesFrom_5 : decode cX6_housesFrom 5 = .ok (.aload_n 0, 1) := by decide +kernel
theorem dX6_housesFrom_6 : decode cX6_housesFrom 6 = .ok (.getfield 35, 3) := by decide +kernel
theorem dX6_housesFrom_9 : decode cX6_housesFrom 9 = .ok (.getfield 85, 3) := by decide +kernel
theorem dX6_housesFrom_12 : decode cX6_housesFrom 12 = .ok (.if_icmp .ge 32, 3) := by decide +kernel
theorem dX6_housesFrom_15 : decode cX6_housesFrom 15 = .ok (.aload_n 0, 1) := by decide +kernel
theorem dX6_housesFrom_16 : decode cX6_housesFrom 16 = .ok (.getfield 28, 3) := by decide +kernel
theorem dX6_housesFrom_19 : decode cX6_housesFrom 19 = .ok (.aload_n 0, 1) := by decide +kernel
theorem dX6_housesFrom_20 : decode cX6_housesFrom 20 = .ok (.getfield 35, 3) := by decide +kernel
theorem dX6_housesFrom_23 : decode cX6_housesFrom 23 = .ok (.getfield 204, 3) := by decide +kernel
theorem dX6_housesFrom_26 : decode cX6_housesFrom 26 = .ok (.iload_n 3, 1) := by decide +kernel
theorem dX6_housesFrom_27 : decode cX6_housesFrom 27 = .ok (.iaload, 1) := by decide +kernel
theorem dX6_housesFrom_28 : decode cX6_housesFrom 28 = .ok (.iload_n 1, 1) := by decide +kernel
theorem dX6_housesFrom_29 : decode cX6_housesFrom 29 = .ok (.invokevirtual 207, 3) := by decide +kernel
theorem dX6_housesFrom_32 : decode cX6_housesFrom 32 = .ok (.ifCond .eq 6, 3) := by decide +kernel
theorem dX6_housesFrom_35 : decode cX6_housesFrom 35 = .ok (.iinc 2 1, 3) := by decide +kernel
theorem dX6_housesFrom_38 : decode cX6_housesFrom 38 = .ok (.iinc 3 1, 3) := by decide +kernel
theorem dX6_housesFrom_41 : decode cX6_housesFrom 41 = .ok (.goto (-37), 3) := by decide +kernel
theorem dX6_housesFrom_44 : decode cX6_housesFrom 44 = .ok (.iload_n 2, 1) := by decide +kernel
theorem dX6_housesFrom_45 : decode cX6_housesFrom 45 = .ok (.ireturn, 1) := by decide +kernel
theorem dX6_housesPaused_0 : decode cX6_housesPaused 0 = .ok (.iconst 0, 1) := by decide +kernel
theorem dX6_housesPaused_1 : decode cX6_housesPaused 1 = .ok (.istore_n 1, 1) := by decide +kernel
theorem dX6_housesPaused_2 : decode cX6_housesPaused 2 = .ok (.iconst 0, 1) := by decide +kernel
theorem dX6_housesPaused_3 : decode cX6_housesPaused 3 = .ok (.istore_n 2, 1) := by decide +kernel
theorem dX6_housesPaused_4 : decode cX6_housesPaused 4 = .ok (.iload_n 2, 1) := by decide +kernel
theorem dX6_housesPaused_5 : decode cX6_housesPaused 5 = .ok (.aload_n 0, 1) := by decide +kernel
theorem dX6_housesPaused_6 : decode cX6_housesPaused 6 = .ok (.getfield 35, 3) := by decide +kernel
theorem dX6_housesPaused_9 : decode cX6_housesPaused 9 = .ok (.getfield 85, 3) := by decide +kernel
theorem dX6_housesPaused_12 : decode cX6_housesPaused 12 = .ok (.if_icmp .ge 27, 3) := by decide +kernel
theorem dX6_housesPaused_15 : decode cX6_housesPaused 15 = .ok (.aload_n 0, 1) := by decide +kernel
theorem dX6_housesPaused_16 : decode cX6_housesPaused 16 = .ok (.getfield 42, 3) := by decide +kernel
theorem dX6_housesPaused_19 : decode cX6_housesPaused 19 = .ok (.iload_n 2, 1) := by decide +kernel
theorem dX6_housesPaused_20 : decode cX6_housesPaused 20 = .ok (.aload_n 0, 1) := by decide +kernel
theorem dX6_housesPaused_21 : decode cX6_housesPaused 21 = .ok (.getfield 9, 3) := by decide +kernel
theorem dX6_housesPaused_24 : decode cX6_housesPaused 24 = .ok (.invokevirtual 160, 3) := by decide +kernel
theorem dX6_housesPaused_27 : decode cX6_housesPaused 27 = .ok (.ifCond .eq 6, 3) := by decide +kernel
theorem dX6_housesPaused_30 : decode cX6_housesPaused 30 = .ok (.iinc 1 1, 3) := by decide +kernel
theorem dX6_housesPaused_33 : decode cX6_housesPaused 33 = .ok (.iinc 2 1, 3) := by decide +kernel
theorem dX6_housesPaused_36 : decode cX6_housesPaused 36 = .ok (.goto (-32), 3) := by decide +kernel
theorem dX6_housesPaused_39 : decode cX6_housesPaused 39 = .ok (.iload_n 1, 1) := by decide +kernel
theorem dX6_housesPaused_40 : decode cX6_housesPaused 40 = .ok (.ireturn, 1) := by decide +kernel
theorem dX7_init_0 : decode cX7_init 0 = .ok (.aload_n 0, 1) := by decide +kernel
theorem dX7_init_1 : decode cX7_init 1 = .ok (.invokespecial 3, 3) := by decide +kernel
theorem dX7_init_4 : decode cX7_init 4 = .ok (.aload_n 0, 1) := by decide +kernel
theorem dX7_init_5 : decode cX7_init 5 = .ok (.new 9, 3) := by decide +kernel
theorem dX7_init_8 : decode cX7_init 8 = .ok (.dup, 1) := by decide +kernel
theorem dX7_init_9 : decode cX7_init 9 = .ok (.invokespecial 11, 3) := by decide +kernel
theorem dX7_init_12 : decode cX7_init 12 = .ok (.putfield 12, 3) := by decide +kernel
theorem dX7_init_15 : decode cX7_init 15 = .ok (.aload_n 0, 1) := by decide +kernel
theorem dX7_init_16 : decode cX7_init 16 = .ok (.iconst 0, 1) := by decide +kernel
theorem dX7_init_17 : decode cX7_init 17 = .ok (.putfield 18, 3) := by decide +kernel
theorem dX7_init_20 : decode cX7_init 20 = .ok (.aload_n 0, 1) := by decide +kernel
theorem dX7_init_21 : decode cX7_init 21 = .ok (.iconst 0, 1) := by decide +kernel
theorem dX7_init_22 : decode cX7_init 22 = .ok (.putfield 22, 3) := by decide +kernel
theorem dX7_init_25 : decode cX7_init 25 = .ok (.aload_n 0, 1) := by decide +kernel
theorem dX7_init_26 : decode cX7_init 26 = .ok (.iconst 0, 1) := by decide +kernel
theorem dX7_init_27 : decode cX7_init 27 = .ok (.putfield 25, 3) := by decide +kernel
theorem dX7_init_30 : decode cX7_init 30 = .ok (.aload_n 0, 1) := by decide +kernel
theorem dX7_init_31 : decode cX7_init 31 = .ok (.iconst 0, 1) := by decide +kernel
theorem dX7_init_32 : decode cX7_init 32 = .ok (.putfield 28, 3) := by decide +kernel
theorem dX7_init_35 : decode cX7_init 35 = .ok (.return_, 1) := by decide +kernel
theorem dX7_run_0 : decode cX7_run 0 = .ok (.aload_n 0, 1) := by decide +kernel
theorem dX7_run_1 : decode cX7_run 1 = .ok (.getfield 12, 3) := by decide +kernel
theorem dX7_run_4 : decode cX7_run 4 = .ok (.aload_n 1, 1) := by decide +kernel
theorem dX7_run_5 : decode cX7_run 5 = .ok (.invokevirtual 31, 3) := by decide +kernel
theorem dX7_run_8 : decode cX7_run 8 = .ok (.aload_n 0, 1) := by decide +kernel
theorem dX7_run_9 : decode cX7_run 9 = .ok (.iconst 0, 1) := by decide +kernel
theorem dX7_run_10 : decode cX7_run 10 = .ok (.putfield 18, 3) := by decide +kernel
theorem dX7_run_13 : decode cX7_run 13 = .ok (.aload_n 0, 1) := by decide +kernel
theorem dX7_run_14 : decode cX7_run 14 = .ok (.iconst 0, 1) := by decide +kernel
theorem dX7_run_15 : decode cX7_run 15 = .ok (.putfield 22, 3) := by decide +kernel
theorem dX7_run_18 : decode cX7_run 18 = .ok (.aload_n 0, 1) := by decide +kernel
theorem dX7_run_19 : decode cX7_run 19 = .ok (.iconst 0, 1) := by decide +kernel
theorem dX7_run_20 : decode cX7_run 20 = .ok (.putfield 25, 3) := by decide +kernel
theorem dX7_run_23 : decode cX7_run 23 = .ok (.aload_n 0, 1) := by decide +kernel
theorem dX7_run_24 : decode cX7_run 24 = .ok (.iconst 0, 1) := by decide +kernel
theorem dX7_run_25 : decode cX7_run 25 = .ok (.putfield 28, 3) := by decide +kernel
theorem dX7_run_28 : decode cX7_run 28 = .ok (.aload_n 0, 1) := by decide +kernel
theorem dX7_run_29 : decode cX7_run 29 = .ok (.getfield 25, 3) := by decide +kernel
theorem dX7_run_32 : decode cX7_run 32 = .ok (.ifCond .ne 97, 3) := by decide +kernel
theorem dX7_run_35 : decode cX7_run 35 = .ok (.aload_n 0, 1) := by decide +kernel
theorem dX7_run_36 : decode cX7_run 36 = .ok (.getfield 22, 3) := by decide +kernel
theorem dX7_run_39 : decode cX7_run 39 = .ok (.aload_n 2, 1) := by decide +kernel
theorem dX7_run_40 : decode cX7_run 40 = .ok (.getfield 35, 3) := by decide +kernel
theorem dX7_run_43 : decode cX7_run 43 = .ok (.if_icmp .ge 86, 3) := by decide +kernel
theorem dX7_run_46 : decode cX7_run 46 = .ok (.aload_n 0, 1) := by decide +kernel
theorem dX7_run_47 : decode cX7_run 47 = .ok (.getfield 18, 3) := by decide +kernel
theorem dX7_run_50 : decode cX7_run 50 = .ok (.bipush 60, 2) := by decide +kernel
theorem dX7_run_52 : decode cX7_run 52 = .ok (.if_icmp .ge 77, 3) := by decide +kernel
theorem dX7_run_55 : decode cX7_run 55 = .ok (.aload_n 2, 1) := by decide +kernel
theorem dX7_run_56 : decode cX7_run 56 = .ok (.aload_n 0, 1) := by decide +kernel
theorem dX7_run_57 : decode cX7_run 57 = .ok (.getfield 22, 3) := by decide +kernel
theorem dX7_run_60 : decode cX7_run 60 = .ok (.invokevirtual 40, 3) := by decide +kernel
theorem dX7_run_63 : decode cX7_run 63 = .ok (.ifCond .ne 11, 3) := by decide +kernel
theorem dX7_run_66 : decode cX7_run 66 = .ok (.aload_n 0, 1) := by decide +kernel
theorem dX7_run_67 : decode cX7_run 67 = .ok (.iconst 1, 1) := by decide +kernel
theorem dX7_run_68 : decode cX7_run 68 = .ok (.putfield 25, 3) := by decide +kernel
theorem dX7_run_71 : decode cX7_run 71 = .ok (.goto (-43), 3) := by decide +kernel
theorem dX7_run_74 : decode cX7_run 74 = .ok (.aload_n 0, 1) := by decide +kernel
theorem dX7_run_75 : decode cX7_run 75 = .ok (.aload_n 2, 1) := by decide +kernel
theorem dX7_run_76 : decode cX7_run 76 = .ok (.getfield 44, 3) := by decide +kernel
theorem dX7_run_79 : decode cX7_run 79 = .ok (.aload_n 2, 1) := by decide +kernel
theorem dX7_run_80 : decode cX7_run 80 = .ok (.getfield 48, 3) := by decide +kernel
theorem dX7_run_83 : decode cX7_run 83 = .ok (.aload_n 3, 1) := by decide +kernel
theorem dX7_run_84 : decode cX7_run 84 = .ok (.invokevirtual 52, 3) := by decide +kernel
theorem dX7_run_87 : decode cX7_run 87 = .ok (.istore 4, 2) := by decide +kernel
theorem dX7_run_89 : decode cX7_run 89 = .ok (.iload 4, 2) := by decide +kernel
theorem dX7_run_91 : decode cX7_run 91 = .ok (.ifCond .ge 17, 3) := by decide +kernel
theorem dX7_run_94 : decode cX7_run 94 = .ok (.aload_n 0, 1) := by decide +kernel
theorem dX7_run_95 : decode cX7_run 95 = .ok (.iconst 2, 1) := by decide +kernel
theorem dX7_run_96 : decode cX7_run 96 = .ok (.putfield 25, 3) := by decide +kernel
theorem dX7_run_99 : decode cX7_run 99 = .ok (.aload_n 0, 1) := by decide +kernel
theorem dX7_run_100 : decode cX7_run 100 = .ok (.iload 4, 2) := by decide +kernel
theorem dX7_run_102 : decode cX7_run 102 = .ok (.putfield 28, 3) := by decide +kernel
theorem dX7_run_105 : decode cX7_run 105 = .ok (.goto 21, 3) := by decide +kernel
theorem dX7_run_108 : decode cX7_run 108 = .ok (.aload_n 0, 1) := by decide +kernel
theorem dX7_run_109 : decode cX7_run 109 = .ok (.dup, 1) := by decide +kernel
theorem dX7_run_110 : decode cX7_run 110 = .ok (.getfield 18, 3) := by decide +kernel
theorem dX7_run_113 : decode cX7_run 113 = .ok (.iconst 1, 1) := by decide +kernel
theorem dX7_run_114 : decode cX7_run 114 = .ok (.iadd, 1) := by decide +kernel
theorem dX7_run_115 : decode cX7_run 115 = .ok (.putfield 18, 3) := by decide +kernel
theorem dX7_run_118 : decode cX7_run 118 = .ok (.aload_n 0, 1) := by decide +kernel
theorem dX7_run_119 : decode cX7_run 119 = .ok (.aload_n 2, 1) := by decide +kernel
theorem dX7_run_120 : decode cX7_run 120 = .ok (.getfield 56, 3) := by decide +kernel
theorem dX7_run_123 : decode cX7_run 123 = .ok (.putfield 22, 3) := by decide +kernel
theorem dX7_run_126 : decode cX7_run 126 = .ok (.goto (-98), 3) := by decide +kernel
theorem dX7_run_129 : decode cX7_run 129 = .ok (.return_, 1) := by decide +kernel
theorem dX7_answerOf_0 : decode cX7_answerOf 0 = .ok (.iload_n 1, 1) := by decide +kernel
theorem dX7_answerOf_1 : decode cX7_answerOf 1 = .ok (.lookupswitch 99 #[(98, 85), (103, 60), (110, 74), (112, 43)], 43) := by decide +kernel
theorem dX7_answerOf_44 : decode cX7_answerOf 44 = .ok (.aload_n 0, 1) := by decide +kernel
theorem dX7_answerOf_45 : decode cX7_answerOf 45 = .ok (.getfield 12, 3) := by decide +kernel
theorem dX7_answerOf_48 : decode cX7_answerOf 48 = .ok (.aload_n 2, 1) := by decide +kernel
theorem dX7_answerOf_49 : decode cX7_answerOf 49 = .ok (.iconst 0, 1) := by decide +kernel
theorem dX7_answerOf_50 : decode cX7_answerOf 50 = .ok (.iaload, 1) := by decide +kernel
theorem dX7_answerOf_51 : decode cX7_answerOf 51 = .ok (.aload_n 2, 1) := by decide +kernel
theorem dX7_answerOf_52 : decode cX7_answerOf 52 = .ok (.iconst 1, 1) := by decide +kernel
theorem dX7_answerOf_53 : decode cX7_answerOf 53 = .ok (.iaload, 1) := by decide +kernel
theorem dX7_answerOf_54 : decode cX7_answerOf 54 = .ok (.aload_n 2, 1) := by decide +kernel
theorem dX7_answerOf_55 : decode cX7_answerOf 55 = .ok (.iconst 2, 1) := by decide +kernel
theorem dX7_answerOf_56 : decode cX7_answerOf 56 = .ok (.iaload, 1) := by decide +kernel
theorem dX7_answerOf_57 : decode cX7_answerOf 57 = .ok (.invokevirtual 59, 3) := by decide +kernel
theorem dX7_answerOf_60 : decode cX7_answerOf 60 = .ok (.ireturn, 1) := by decide +kernel
theorem dX7_answerOf_61 : decode cX7_answerOf 61 = .ok (.aload_n 0, 1) := by decide +kernel
theorem dX7_answerOf_62 : decode cX7_answerOf 62 = .ok (.getfield 12, 3) := by decide +kernel
theorem dX7_answerOf_65 : decode cX7_answerOf 65 = .ok (.aload_n 2, 1) := by decide +kernel
theorem dX7_answerOf_66 : decode cX7_answerOf 66 = .ok (.iconst 0, 1) := by decide +kernel
theorem dX7_answerOf_67 : decode cX7_answerOf 67 = .ok (.iaload, 1) := by decide +kernel
theorem dX7_answerOf_68 : decode cX7_answerOf 68 = .ok (.aload_n 2, 1) := by decide +kernel
theorem dX7_answerOf_69 : decode cX7_answerOf 69 = .ok (.iconst 1, 1) := by decide +kernel
theorem dX7_answerOf_70 : decode cX7_answerOf 70 = .ok (.iaload, 1) := by decide +kernel
theorem dX7_answerOf_71 : decode cX7_answerOf 71 = .ok (.invokevirtual 63, 3) := by decide +kernel
theorem dX7_answerOf_74 : decode cX7_answerOf 74 = .ok (.ireturn, 1) := by decide +kernel
theorem dX7_answerOf_75 : decode cX7_answerOf 75 = .ok (.aload_n 0, 1) := by decide +kernel
theorem dX7_answerOf_76 : decode cX7_answerOf 76 = .ok (.getfield 12, 3) := by decide +kernel
theorem dX7_answerOf_79 : decode cX7_answerOf 79 = .ok (.aload_n 2, 1) := by decide +kernel
theorem dX7_answerOf_80 : decode cX7_answerOf 80 = .ok (.iconst 0, 1) := by decide +kernel
theorem dX7_answerOf_81 : decode cX7_answerOf 81 = .ok (.iaload, 1) := by decide +kernel
theorem dX7_answerOf_82 : decode cX7_answerOf 82 = .ok (.invokevirtual 67, 3) := by decide +kernel
theorem dX7_answerOf_85 : decode cX7_answerOf 85 = .ok (.ireturn, 1) := by decide +kernel
theorem dX7_answerOf_86 : decode cX7_answerOf 86 = .ok (.aload_n 0, 1) := by decide +kernel
theorem dX7_answerOf_87 : decode cX7_answerOf 87 = .ok (.getfield 12, 3) := by decide +kernel
theorem dX7_answerOf_90 : decode cX7_answerOf 90 = .ok (.aload_n 2, 1) := by decide +kernel
theorem dX7_answerOf_91 : decode cX7_answerOf 91 = .ok (.iconst 0, 1) := by decide +kernel
theorem dX7_answerOf_92 : decode cX7_answerOf 92 = .ok (.iaload, 1) := by decide +kernel
theorem dX7_answerOf_93 : decode cX7_answerOf 93 = .ok (.aload_n 2, 1) := by decide +kernel
theorem dX7_answerOf_94 : decode cX7_answerOf 94 = .ok (.iconst 1, 1) := by decide +kernel
theorem dX7_answerOf_95 : decode cX7_answerOf 95 = .ok (.iaload, 1) := by decide +kernel
theorem dX7_answerOf_96 : decode cX7_answerOf 96 = .ok (.invokevirtual 71, 3) := by decide +kernel
theorem dX7_answerOf_99 : decode cX7_answerOf 99 = .ok (.ireturn, 1) := by decide +kernel
theorem dX7_answerOf_100 : decode cX7_answerOf 100 = .ok (.aload_n 0, 1) := by decide +kernel
theorem dX7_answerOf_101 : decode cX7_answerOf 101 = .ok (.getfield 12, 3) := by decide +kernel
theorem dX7_answerOf_104 : decode cX7_answerOf 104 = .ok (.aload_n 2, 1) := by decide +kernel
theorem dX7_answerOf_105 : decode cX7_answerOf 105 = .ok (.iconst 0, 1) := by decide +kernel
theorem dX7_answerOf_106 : decode cX7_answerOf 106 = .ok (.iaload, 1) := by decide +kernel
theorem dX7_answerOf_107 : decode cX7_answerOf 107 = .ok (.aload_n 3, 1) := by decide +kernel
theorem dX7_answerOf_108 : decode cX7_answerOf 108 = .ok (.invokevirtual 74, 3) := by decide +kernel
theorem dX7_answerOf_111 : decode cX7_answerOf 111 = .ok (.ireturn, 1) := by decide +kernel
theorem dX8_init_0 : decode cX8_init 0 = .ok (.aload_n 0, 1) := by decide +kernel
theorem dX8_init_1 : decode cX8_init 1 = .ok (.invokespecial 3, 3) := by decide +kernel
theorem dX8_init_4 : decode cX8_init 4 = .ok (.aload_n 0, 1) := by decide +kernel
theorem dX8_init_5 : decode cX8_init 5 = .ok (.iconst 0, 1) := by decide +kernel
theorem dX8_init_6 : decode cX8_init 6 = .ok (.putfield 9, 3) := by decide +kernel
theorem dX8_init_9 : decode cX8_init 9 = .ok (.aload_n 0, 1) := by decide +kernel
theorem dX8_init_10 : decode cX8_init 10 = .ok (.iconst 0, 1) := by decide +kernel
theorem dX8_init_11 : decode cX8_init 11 = .ok (.putfield 15, 3) := by decide +kernel
theorem dX8_init_14 : decode cX8_init 14 = .ok (.aload_n 0, 1) := by decide +kernel
theorem dX8_init_15 : decode cX8_init 15 = .ok (.iconst 0, 1) := by decide +kernel
theorem dX8_init_16 : decode cX8_init 16 = .ok (.putfield 18, 3) := by decide +kernel
theorem dX8_init_19 : decode cX8_init 19 = .ok (.aload_n 0, 1) := by decide +kernel
theorem dX8_init_20 : decode cX8_init 20 = .ok (.iconst 0, 1) := by decide +kernel
theorem dX8_init_21 : decode cX8_init 21 = .ok (.putfield 21, 3) := by decide +kernel
theorem dX8_init_24 : decode cX8_init 24 = .ok (.aload_n 0, 1) := by decide +kernel
theorem dX8_init_25 : decode cX8_init 25 = .ok (.iconst 0, 1) := by decide +kernel
theorem dX8_init_26 : decode cX8_init 26 = .ok (.putfield 24, 3) := by decide +kernel
theorem dX8_init_29 : decode cX8_init 29 = .ok (.aload_n 0, 1) := by decide +kernel
theorem dX8_init_30 : decode cX8_init 30 = .ok (.bipush 20, 2) := by decide +kernel
theorem dX8_init_32 : decode cX8_init 32 = .ok (.newarray .int, 2) := by decide +kernel
theorem dX8_init_34 : decode cX8_init 34 = .ok (.putfield 27, 3) := by decide +kernel
theorem dX8_init_37 : decode cX8_init 37 = .ok (.return_, 1) := by decide +kernel
theorem dX8_go_0 : decode cX8_go 0 = .ok (.aload_n 0, 1) := by decide +kernel
theorem dX8_go_1 : decode cX8_go 1 = .ok (.invokevirtual 31, 3) := by decide +kernel
theorem dX8_go_4 : decode cX8_go 4 = .ok (.aload_n 1, 1) := by decide +kernel
theorem dX8_go_5 : decode cX8_go 5 = .ok (.getfield 34, 3) := by decide +kernel
theorem dX8_go_8 : decode cX8_go 8 = .ok (.astore 5, 2) := by decide +kernel
theorem dX8_go_10 : decode cX8_go 10 = .ok (.aload_n 1, 1) := by decide +kernel
theorem dX8_go_11 : decode cX8_go 11 = .ok (.iload_n 3, 1) := by decide +kernel
theorem dX8_go_12 : decode cX8_go 12 = .ok (.invokevirtual 40, 3) := by decide +kernel
theorem dX8_go_15 : decode cX8_go 15 = .ok (.istore 6, 2) := by decide +kernel
theorem dX8_go_17 : decode cX8_go 17 = .ok (.aload_n 1, 1) := by decide +kernel
theorem dX8_go_18 : decode cX8_go 18 = .ok (.getfield 44, 3) := by decide +kernel
theorem dX8_go_21 : decode cX8_go 21 = .ok (.getfield 48, 3) := by decide +kernel
theorem dX8_go_24 : decode cX8_go 24 = .ok (.iload_n 2, 1) := by decide +kernel
theorem dX8_go_25 : decode cX8_go 25 = .ok (.iaload, 1) := by decide +kernel
theorem dX8_go_26 : decode cX8_go 26 = .ok (.istore 7, 2) := by decide +kernel
theorem dX8_go_28 : decode cX8_go 28 = .ok (.iconst 0, 1) := by decide +kernel
theorem dX8_go_29 : decode cX8_go 29 = .ok (.istore 8, 2) := by decide +kernel
theorem dX8_go_31 : decode cX8_go 31 = .ok (.iload 8, 2) := by decide +kernel
theorem dX8_go_33 : decode cX8_go 33 = .ok (.aload 5, 2) := by decide +kernel
theorem dX8_go_35 : decode cX8_go 35 = .ok (.getfield 53, 3) := by decide +kernel
theorem dX8_go_38 : decode cX8_go 38 = .ok (.if_icmp .ge 200, 3) := by decide +kernel
theorem dX8_go_41 : decode cX8_go 41 = .ok (.aload 5, 2) := by decide +kernel
theorem dX8_go_43 : decode cX8_go 43 = .ok (.getfield 58, 3) := by decide +kernel
theorem dX8_go_46 : decode cX8_go 46 = .ok (.iload 8, 2) := by decide +kernel
theorem dX8_go_48 : decode cX8_go 48 = .ok (.iaload, 1) := by decide +kernel
theorem dX8_go_49 : decode cX8_go 49 = .ok (.istore 9, 2) := by decide +kernel
theorem dX8_go_51 : decode cX8_go 51 = .ok (.aload 5, 2) := by decide +kernel
theorem dX8_go_53 : decode cX8_go 53 = .ok (.getfield 61, 3) := by decide +kernel
theorem dX8_go_56 : decode cX8_go 56 = .ok (.iload 9, 2) := by decide +kernel
theorem dX8_go_58 : decode cX8_go 58 = .ok (.iaload, 1) := by decide +kernel
theorem dX8_go_59 : decode cX8_go 59 = .ok (.iload 6, 2) := by decide +kernel
theorem dX8_go_61 : decode cX8_go 61 = .ok (.imul, 1) := by decide +kernel
theorem dX8_go_62 : decode cX8_go 62 = .ok (.istore 10, 2) := by decide +kernel
theorem dX8_go_64 : decode cX8_go 64 = .ok (.aload 5, 2) := by decide +kernel
theorem dX8_go_66 : decode cX8_go 66 = .ok (.getfield 63, 3) := by decide +kernel
theorem dX8_go_69 : decode cX8_go 69 = .ok (.iload 9, 2) := by decide +kernel
theorem dX8_go_71 : decode cX8_go 71 = .ok (.iaload, 1) := by decide +kernel
theorem dX8_go_72 : decode cX8_go 72 = .ok (.iload_n 2, 1) := by decide +kernel
theorem dX8_go_73 : decode cX8_go 73 = .ok (.if_icmp .eq 10, 3) := by decide +kernel
theorem dX8_go_76 : decode cX8_go 76 = .ok (.iload 9, 2) := by decide +kernel
theorem dX8_go_78 : decode cX8_go 78 = .ok (.iload 4, 2) := by decide +kernel
theorem dX8_go_80 : decode cX8_go 80 = .ok (.if_icmp .ne 7, 3) := by decide +kernel
theorem dX8_go_83 : decode cX8_go 83 = .ok (.iconst 1, 1) := by decide +kernel
theorem dX8_go_84 : decode cX8_go 84 = .ok (.goto 4, 3) := by decide +kernel
theorem dX8_go_87 : decode cX8_go 87 = .ok (.iconst 0, 1) := by decide +kernel
theorem dX8_go_88 : decode cX8_go 88 = .ok (.istore 11, 2) := by decide +kernel
theorem dX8_go_90 : decode cX8_go 90 = .ok (.iload 11, 2) := by decide +kernel
theorem dX8_go_92 : decode cX8_go 92 = .ok (.ifCond .eq 140, 3) := by decide +kernel
theorem dX8_go_95 : decode cX8_go 95 = .ok (.iload 10, 2) := by decide +kernel
theorem dX8_go_97 : decode cX8_go 97 = .ok (.iload 7, 2) := by decide +kernel
theorem dX8_go_99 : decode cX8_go 99 = .ok (.if_icmp .gt 133, 3) := by decide +kernel
theorem dX8_go_102 : decode cX8_go 102 = .ok (.aload_n 1, 1) := by decide +kernel
theorem dX8_go_103 : decode cX8_go 103 = .ok (.getfield 66, 3) := by decide +kernel
theorem dX8_go_106 : decode cX8_go 106 = .ok (.iload 9, 2) := by decide +kernel
theorem dX8_go_108 : decode cX8_go 108 = .ok (.iload_n 3, 1) := by decide +kernel
theorem dX8_go_109 : decode cX8_go 109 = .ok (.invokevirtual 70, 3) := by decide +kernel
theorem dX8_go_112 : decode cX8_go 112 = .ok (.ifCond .ne 120, 3) := by decide +kernel
theorem dX8_go_115 : decode cX8_go 115 = .ok (.aload_n 0, 1) := by decide +kernel
theorem dX8_go_116 : decode cX8_go 116 = .ok (.getfield 9, 3) := by decide +kernel
theorem dX8_go_119 : decode cX8_go 119 = .ok (.ifCond .eq 15, 3) := by decide +kernel
theorem dX8_go_122 : decode cX8_go 122 = .ok (.aload_n 0, 1) := by decide +kernel
theorem dX8_go_123 : decode cX8_go 123 = .ok (.getfield 24, 3) := by decide +kernel
theorem dX8_go_126 : decode cX8_go 126 = .ok (.iload 10, 2) := by decide +kernel
theorem dX8_go_128 : decode cX8_go 128 = .ok (.iadd, 1) := by decide +kernel
theorem dX8_go_129 : decode cX8_go 129 = .ok (.iload 7, 2) := by decide +kernel
theorem dX8_go_131 : decode cX8_go 131 = .ok (.if_icmp .le 30, 3) := by decide +kernel
theorem dX8_go_134 : decode cX8_go 134 = .ok (.aload_n 0, 1) := by decide +kernel
theorem dX8_go_135 : decode cX8_go 135 = .ok (.aload_n 1, 1) := by decide +kernel
theorem dX8_go_136 : decode cX8_go 136 = .ok (.getfield 76, 3) := by decide +kernel
theorem dX8_go_139 : decode cX8_go 139 = .ok (.aload_n 1, 1) := by decide +kernel
theorem dX8_go_140 : decode cX8_go 140 = .ok (.getfield 44, 3) := by decide +kernel
theorem dX8_go_143 : decode cX8_go 143 = .ok (.getfield 80, 3) := by decide +kernel
theorem dX8_go_146 : decode cX8_go 146 = .ok (.iload_n 2, 1) := by decide +kernel
theorem dX8_go_147 : decode cX8_go 147 = .ok (.iaload, 1) := by decide +kernel
theorem dX8_go_148 : decode cX8_go 148 = .ok (.invokevirtual 83, 3) := by decide +kernel
theorem dX8_go_151 : decode cX8_go 151 = .ok (.aload_n 0, 1) := by decide +kernel
theorem dX8_go_152 : decode cX8_go 152 = .ok (.dup, 1) := by decide +kernel
theorem dX8_go_153 : decode cX8_go 153 = .ok (.getfield 9, 3) := by decide +kernel
theorem dX8_go_156 : decode cX8_go 156 = .ok (.iconst 1, 1) := by decide +kernel
theorem dX8_go_157 : decode cX8_go 157 = .ok (.iadd, 1) := by decide +kernel
theorem dX8_go_158 : decode cX8_go 158 = .ok (.putfield 9, 3) := by decide +kernel
theorem dX8_go_161 : decode cX8_go 161 = .ok (.aload_n 0, 1) := by decide +kernel
theorem dX8_go_162 : decode cX8_go 162 = .ok (.dup, 1) := by decide +kernel
theorem dX8_go_163 : decode cX8_go 163 = .ok (.getfield 24, 3) := by decide +kernel
theorem dX8_go_166 : decode cX8_go 166 = .ok (.iload 10, 2) := by decide +kernel
theorem dX8_go_168 : decode cX8_go 168 = .ok (.iadd, 1) := by decide +kernel
theorem dX8_go_169 : decode cX8_go 169 = .ok (.putfield 24, 3) := by decide +kernel
theorem dX8_go_172 : decode cX8_go 172 = .ok (.aload_n 0, 1) := by decide +kernel
theorem dX8_go_173 : decode cX8_go 173 = .ok (.getfield 27, 3) := by decide +kernel
theorem dX8_go_176 : decode cX8_go 176 = .ok (.aload 5, 2) := by decide +kernel
theorem dX8_go_178 : decode cX8_go 178 = .ok (.getfield 87, 3) := by decide +kernel
theorem dX8_go_181 : decode cX8_go 181 = .ok (.iload 9, 2) := by decide +kernel
theorem dX8_go_183 : decode cX8_go 183 = .ok (.iaload, 1) := by decide +kernel
theorem dX8_go_184 : decode cX8_go 184 = .ok (.dup2, 1) := by decide +kernel
theorem dX8_go_185 : decode cX8_go 185 = .ok (.iaload, 1) := by decide +kernel
theorem dX8_go_186 : decode cX8_go 186 = .ok (.iload 10, 2) := by decide +kernel
theorem dX8_go_188 : decode cX8_go 188 = .ok (.iadd, 1) := by decide +kernel
theorem dX8_go_189 : decode cX8_go 189 = .ok (.iastore, 1) := by decide +kernel
theorem dX8_go_190 : decode cX8_go 190 = .ok (.aload_n 0, 1) := by decide +kernel
theorem dX8_go_191 : decode cX8_go 191 = .ok (.dup, 1) := by decide +kernel
theorem dX8_go_192 : decode cX8_go 192 = .ok (.getfield 18, 3) := by decide +kernel
theorem dX8_go_195 : decode cX8_go 195 = .ok (.aload 5, 2) := by decide +kernel
theorem dX8_go_197 : decode cX8_go 197 = .ok (.getfield 61, 3) := by decide +kernel
theorem dX8_go_200 : decode cX8_go 200 = .ok (.iload 9, 2) := by decide +kernel
theorem dX8_go_202 : decode cX8_go 202 = .ok (.iaload, 1) := by decide +kernel
theorem dX8_go_203 : decode cX8_go 203 = .ok (.iadd, 1) := by decide +kernel
theorem dX8_go_204 : decode cX8_go 204 = .ok (.putfield 18, 3) := by decide +kernel
theorem dX8_go_207 : decode cX8_go 207 = .ok (.aload_n 0, 1) := by decide +kernel
theorem dX8_go_208 : decode cX8_go 208 = .ok (.dup, 1) := by decide +kernel
theorem dX8_go_209 : decode cX8_go 209 = .ok (.getfield 21, 3) := by decide +kernel
theorem dX8_go_212 : decode cX8_go 212 = .ok (.aload 5, 2) := by decide +kernel
theorem dX8_go_214 : decode cX8_go 214 = .ok (.iload 9, 2) := by decide +kernel
theorem dX8_go_216 : decode cX8_go 216 = .ok (.iload_n 3, 1) := by decide +kernel
theorem dX8_go_217 : decode cX8_go 217 = .ok (.invokevirtual 90, 3) := by decide +kernel
theorem dX8_go_220 : decode cX8_go 220 = .ok (.ifCond .eq 7, 3) := by decide +kernel
theorem dX8_go_223 : decode cX8_go 223 = .ok (.iconst 1, 1) := by decide +kernel
theorem dX8_go_224 : decode cX8_go 224 = .ok (.goto 4, 3) := by decide +kernel
theorem dX8_go_227 : decode cX8_go 227 = .ok (.iconst 0, 1) := by decide +kernel
theorem dX8_go_228 : decode cX8_go 228 = .ok (.iadd, 1) := by decide +kernel
theorem dX8_go_229 : decode cX8_go 229 = .ok (.putfield 21, 3) := by decide +kernel
theorem dX8_go_232 : decode cX8_go 232 = .ok (.iinc 8 1, 3) := by decide +kernel
theorem dX8_go_235 : decode cX8_go 235 = .ok (.goto (-204), 3) := by decide +kernel
theorem dX8_go_238 : decode cX8_go 238 = .ok (.aload_n 0, 1) := by decide +kernel
theorem dX8_go_239 : decode cX8_go 239 = .ok (.aload_n 1, 1) := by decide +kernel
theorem dX8_go_240 : decode cX8_go 240 = .ok (.getfield 76, 3) := by decide +kernel
theorem dX8_go_243 : decode cX8_go 243 = .ok (.aload_n 1, 1) := by decide +kernel
theorem dX8_go_244 : decode cX8_go 244 = .ok (.getfield 44, 3) := by decide +kernel
theorem dX8_go_247 : decode cX8_go 247 = .ok (.getfield 80, 3) := by decide +kernel
theorem dX8_go_250 : decode cX8_go 250 = .ok (.iload_n 2, 1) := by decide +kernel
theorem dX8_go_251 : decode cX8_go 251 = .ok (.iaload, 1) := by decide +kernel
theorem dX8_go_252 : decode cX8_go 252 = .ok (.invokevirtual 83, 3) := by decide +kernel
theorem dX8_go_255 : decode cX8_go 255 = .ok (.return_, 1) := by decide +kernel
theorem dX8_clear_0 : decode cX8_clear 0 = .ok (.aload_n 0, 1) := by decide +kernel
theorem dX8_clear_1 : decode cX8_clear 1 = .ok (.iconst 0, 1) := by decide +kernel
theorem dX8_clear_2 : decode cX8_clear 2 = .ok (.putfield 9, 3) := by decide +kernel
theorem dX8_clear_5 : decode cX8_clear 5 = .ok (.aload_n 0, 1) := by decide +kernel
theorem dX8_clear_6 : decode cX8_clear 6 = .ok (.iconst 0, 1) := by decide +kernel
theorem dX8_clear_7 : decode cX8_clear 7 = .ok (.putfield 15, 3) := by decide +kernel
theorem dX8_clear_10 : decode cX8_clear 10 = .ok (.aload_n 0, 1) := by decide +kernel
theorem dX8_clear_11 : decode cX8_clear 11 = .ok (.iconst 0, 1) := by decide +kernel
theorem dX8_clear_12 : decode cX8_clear 12 = .ok (.putfield 18, 3) := by decide +kernel
theorem dX8_clear_15 : decode cX8_clear 15 = .ok (.aload_n 0, 1) := by decide +kernel
theorem dX8_clear_16 : decode cX8_clear 16 = .ok (.iconst 0, 1) := by decide +kernel
theorem dX8_clear_17 : decode cX8_clear 17 = .ok (.putfield 21, 3) := by decide +kernel
theorem dX8_clear_20 : decode cX8_clear 20 = .ok (.return_, 1) := by decide +kernel
theorem dX8_endTrip_0 : decode cX8_endTrip 0 = .ok (.aload_n 1, 1) := by decide +kernel
theorem dX8_endTrip_1 : decode cX8_endTrip 1 = .ok (.getfield 93, 3) := by decide +kernel
theorem dX8_endTrip_4 : decode cX8_endTrip 4 = .ok (.iconst 1, 1) := by decide +kernel
theorem dX8_endTrip_5 : decode cX8_endTrip 5 = .ok (.isub, 1) := by decide +kernel
theorem dX8_endTrip_6 : decode cX8_endTrip 6 = .ok (.istore_n 3, 1) := by decide +kernel
theorem dX8_endTrip_7 : decode cX8_endTrip 7 = .ok (.iload_n 3, 1) := by decide +kernel
theorem dX8_endTrip_8 : decode cX8_endTrip 8 = .ok (.ifCond .le 66, 3) := by decide +kernel
theorem dX8_endTrip_11 : decode cX8_endTrip 11 = .ok (.aload_n 0, 1) := by decide +kernel
theorem dX8_endTrip_12 : decode cX8_endTrip 12 = .ok (.getfield 27, 3) := by decide +kernel
theorem dX8_endTrip_15 : decode cX8_endTrip 15 = .ok (.iload_n 3, 1) := by decide +kernel
theorem dX8_endTrip_16 : decode cX8_endTrip 16 = .ok (.iaload, 1) := by decide +kernel
theorem dX8_endTrip_17 : decode cX8_endTrip 17 = .ok (.ifCond .le 51, 3) := by decide +kernel
theorem dX8_endTrip_20 : decode cX8_endTrip 20 = .ok (.aload_n 0, 1) := by decide +kernel
theorem dX8_endTrip_21 : decode cX8_endTrip 21 = .ok (.dup, 1) := by decide +kernel
theorem dX8_endTrip_22 : decode cX8_endTrip 22 = .ok (.getfield 15, 3) := by decide +kernel
theorem dX8_endTrip_25 : decode cX8_endTrip 25 = .ok (.aload_n 1, 1) := by decide +kernel
theorem dX8_endTrip_26 : decode cX8_endTrip 26 = .ok (.iload_n 3, 1) := by decide +kernel
theorem dX8_endTrip_27 : decode cX8_endTrip 27 = .ok (.aload_n 0, 1) := by decide +kernel
theorem dX8_endTrip_28 : decode cX8_endTrip 28 = .ok (.getfield 27, 3) := by decide +kernel
theorem dX8_endTrip_31 : decode cX8_endTrip 31 = .ok (.iload_n 3, 1) := by decide +kernel
theorem dX8_endTrip_32 : decode cX8_endTrip 32 = .ok (.iaload, 1) := by decide +kernel
theorem dX8_endTrip_33 : decode cX8_endTrip 33 = .ok (.iload_n 2, 1) := by decide +kernel
theorem dX8_endTrip_34 : decode cX8_endTrip 34 = .ok (.invokevirtual 96, 3) := by decide +kernel
theorem dX8_endTrip_37 : decode cX8_endTrip 37 = .ok (.iadd, 1) := by decide +kernel
theorem dX8_endTrip_38 : decode cX8_endTrip 38 = .ok (.putfield 15, 3) := by decide +kernel
theorem dX8_endTrip_41 : decode cX8_endTrip 41 = .ok (.aload_n 0, 1) := by decide +kernel
theorem dX8_endTrip_42 : decode cX8_endTrip 42 = .ok (.getfield 27, 3) := by decide +kernel
theorem dX8_endTrip_45 : decode cX8_endTrip 45 = .ok (.aload_n 1, 1) := by decide +kernel
theorem dX8_endTrip_46 : decode cX8_endTrip 46 = .ok (.getfield 100, 3) := by decide +kernel
theorem dX8_endTrip_49 : decode cX8_endTrip 49 = .ok (.iload_n 3, 1) := by decide +kernel
theorem dX8_endTrip_50 : decode cX8_endTrip 50 = .ok (.iaload, 1) := by decide +kernel
theorem dX8_endTrip_51 : decode cX8_endTrip 51 = .ok (.dup2, 1) := by decide +kernel
theorem dX8_endTrip_52 : decode cX8_endTrip 52 = .ok (.iaload, 1) := by decide +kernel
theorem dX8_endTrip_53 : decode cX8_endTrip 53 = .ok (.aload_n 0, 1) := by decide +kernel
theorem dX8_endTrip_54 : decode cX8_endTrip 54 = .ok (.getfield 27, 3) := by decide +kernel
theorem dX8_endTrip_57 : decode cX8_endTrip 57 = .ok (.iload_n 3, 1) := by decide +kernel
theorem dX8_endTrip_58 : decode cX8_endTrip 58 = .ok (.iaload, 1) := by decide +kernel
theorem dX8_endTrip_59 : decode cX8_endTrip 59 = .ok (.iadd, 1) := by decide +kernel
theorem dX8_endTrip_60 : decode cX8_endTrip 60 = .ok (.iastore, 1) := by decide +kernel
theorem dX8_endTrip_61 : decode cX8_endTrip 61 = .ok (.aload_n 0, 1) := by decide +kernel
theorem dX8_endTrip_62 : decode cX8_endTrip 62 = .ok (.getfield 27, 3) := by decide +kernel
theorem dX8_endTrip_65 : decode cX8_endTrip 65 = .ok (.iload_n 3, 1) := by decide +kernel
theorem dX8_endTrip_66 : decode cX8_endTrip 66 = .ok (.iconst 0, 1) := by decide +kernel
theorem dX8_endTrip_67 : decode cX8_endTrip 67 = .ok (.iastore, 1) := by decide +kernel
theorem dX8_endTrip_68 : decode cX8_endTrip 68 = .ok (.iinc 3 (-1), 3) := by decide +kernel
theorem dX8_endTrip_71 : decode cX8_endTrip 71 = .ok (.goto (-64), 3) := by decide +kernel
theorem dX8_endTrip_74 : decode cX8_endTrip 74 = .ok (.aload_n 0, 1) := by decide +kernel
theorem dX8_endTrip_75 : decode cX8_endTrip 75 = .ok (.getfield 27, 3) := by decide +kernel
theorem dX8_endTrip_78 : decode cX8_endTrip 78 = .ok (.iconst 0, 1) := by decide +kernel
theorem dX8_endTrip_79 : decode cX8_endTrip 79 = .ok (.iconst 0, 1) := by decide +kernel
theorem dX8_endTrip_80 : decode cX8_endTrip 80 = .ok (.iastore, 1) := by decide +kernel
theorem dX8_endTrip_81 : decode cX8_endTrip 81 = .ok (.aload_n 0, 1) := by decide +kernel
theorem dX8_endTrip_82 : decode cX8_endTrip 82 = .ok (.iconst 0, 1) := by decide +kernel
theorem dX8_endTrip_83 : decode cX8_endTrip 83 = .ok (.putfield 24, 3) := by decide +kernel
theorem dX8_endTrip_86 : decode cX8_endTrip 86 = .ok (.return_, 1) := by decide +kernel
theorem dX8_moreEffort_0 : decode cX8_moreEffort 0 = .ok (.aload_n 0, 1) := by decide +kernel
theorem dX8_moreEffort_1 : decode cX8_moreEffort 1 = .ok (.aload_n 1, 1) := by decide +kernel
theorem dX8_moreEffort_2 : decode cX8_moreEffort 2 = .ok (.iload_n 2, 1) := by decide +kernel
theorem dX8_moreEffort_3 : decode cX8_moreEffort 3 = .ok (.iload_n 3, 1) := by decide +kernel
theorem dX8_moreEffort_4 : decode cX8_moreEffort 4 = .ok (.iconst (-1), 1) := by decide +kernel
theorem dX8_moreEffort_5 : decode cX8_moreEffort 5 = .ok (.invokevirtual 103, 3) := by decide +kernel
theorem dX8_moreEffort_8 : decode cX8_moreEffort 8 = .ok (.aload_n 0, 1) := by decide +kernel
theorem dX8_moreEffort_9 : decode cX8_moreEffort 9 = .ok (.getfield 15, 3) := by decide +kernel
theorem dX8_moreEffort_12 : decode cX8_moreEffort 12 = .ok (.istore 5, 2) := by decide +kernel
theorem dX8_moreEffort_14 : decode cX8_moreEffort 14 = .ok (.aload_n 0, 1) := by decide +kernel
theorem dX8_moreEffort_15 : decode cX8_moreEffort 15 = .ok (.aload_n 1, 1) := by decide +kernel
theorem dX8_moreEffort_16 : decode cX8_moreEffort 16 = .ok (.iload_n 2, 1) := by decide +kernel
theorem dX8_moreEffort_17 : decode cX8_moreEffort 17 = .ok (.iload_n 3, 1) := by decide +kernel
theorem dX8_moreEffort_18 : decode cX8_moreEffort 18 = .ok (.iload 4, 2) := by decide +kernel
theorem dX8_moreEffort_20 : decode cX8_moreEffort 20 = .ok (.invokevirtual 103, 3) := by decide +kernel
theorem dX8_moreEffort_23 : decode cX8_moreEffort 23 = .ok (.aload_n 0, 1) := by decide +kernel
theorem dX8_moreEffort_24 : decode cX8_moreEffort 24 = .ok (.getfield 15, 3) := by decide +kernel
theorem dX8_moreEffort_27 : decode cX8_moreEffort 27 = .ok (.iload 5, 2) := by decide +kernel
theorem dX8_moreEffort_29 : decode cX8_moreEffort 29 = .ok (.isub, 1) := by decide +kernel
theorem dX8_moreEffort_30 : decode cX8_moreEffort 30 = .ok (.ireturn, 1) := by decide +kernel
theorem dX9_init_0 : decode cX9_init 0 = .ok (.aload_n 0, 1) := by decide +kernel
theorem dX9_init_1 : decode cX9_init 1 = .ok (.invokespecial 1, 3) := by decide +kernel
theorem dX9_init_4 : decode cX9_init 4 = .ok (.aload_n 0, 1) := by decide +kernel
theorem dX9_init_5 : decode cX9_init 5 = .ok (.new 7, 3) := by decide +kernel
theorem dX9_init_8 : decode cX9_init 8 = .ok (.dup, 1) := by decide +kernel
theorem dX9_init_9 : decode cX9_init 9 = .ok (.invokespecial 9, 3) := by decide +kernel
theorem dX9_init_12 : decode cX9_init 12 = .ok (.putfield 10, 3) := by decide +kernel
theorem dX9_init_15 : decode cX9_init 15 = .ok (.aload_n 0, 1) := by decide +kernel
theorem dX9_init_16 : decode cX9_init 16 = .ok (.new 16, 3) := by decide +kernel
theorem dX9_init_19 : decode cX9_init 19 = .ok (.dup, 1) := by decide +kernel
theorem dX9_init_20 : decode cX9_init 20 = .ok (.invokespecial 18, 3) := by decide +kernel
theorem dX9_init_23 : decode cX9_init 23 = .ok (.putfield 19, 3) := by decide +kernel
theorem dX9_init_26 : decode cX9_init 26 = .ok (.aload_n 0, 1) := by decide +kernel
theorem dX9_init_27 : decode cX9_init 27 = .ok (.new 23, 3) := by decide +kernel
theorem dX9_init_30 : decode cX9_init 30 = .ok (.dup, 1) := by decide +kernel
theorem dX9_init_31 : decode cX9_init 31 = .ok (.invokespecial 25, 3) := by decide +kernel
theorem dX9_init_34 : decode cX9_init 34 = .ok (.putfield 26, 3) := by decide +kernel
theorem dX9_init_37 : decode cX9_init 37 = .ok (.aload_n 0, 1) := by decide +kernel
theorem dX9_init_38 : decode cX9_init 38 = .ok (.new 30, 3) := by decide +kernel
theorem dX9_init_41 : decode cX9_init 41 = .ok (.dup, 1) := by decide +kernel
theorem dX9_init_42 : decode cX9_init 42 = .ok (.invokespecial 32, 3) := by decide +kernel
theorem dX9_init_45 : decode cX9_init 45 = .ok (.putfield 33, 3) := by decide +kernel
theorem dX9_init_48 : decode cX9_init 48 = .ok (.aload_n 0, 1) := by decide +kernel
theorem dX9_init_49 : decode cX9_init 49 = .ok (.new 37, 3) := by decide +kernel
theorem dX9_init_52 : decode cX9_init 52 = .ok (.dup, 1) := by decide +kernel
theorem dX9_init_53 : decode cX9_init 53 = .ok (.invokespecial 39, 3) := by decide +kernel
theorem dX9_init_56 : decode cX9_init 56 = .ok (.putfield 40, 3) := by decide +kernel
theorem dX9_init_59 : decode cX9_init 59 = .ok (.return_, 1) := by decide +kernel
theorem dX9_corner_0 : decode cX9_corner 0 = .ok (.aload_n 0, 1) := by decide +kernel
theorem dX9_corner_1 : decode cX9_corner 1 = .ok (.getfield 19, 3) := by decide +kernel
theorem dX9_corner_4 : decode cX9_corner 4 = .ok (.aload_n 0, 1) := by decide +kernel
theorem dX9_corner_5 : decode cX9_corner 5 = .ok (.getfield 10, 3) := by decide +kernel
theorem dX9_corner_8 : decode cX9_corner 8 = .ok (.invokevirtual 44, 3) := by decide +kernel
theorem dX9_corner_11 : decode cX9_corner 11 = .ok (.aload_n 0, 1) := by decide +kernel
theorem dX9_corner_12 : decode cX9_corner 12 = .ok (.aload_n 0, 1) := by decide +kernel
theorem dX9_corner_13 : decode cX9_corner 13 = .ok (.getfield 10, 3) := by decide +kernel
theorem dX9_corner_16 : decode cX9_corner 16 = .ok (.iload_n 1, 1) := by decide +kernel
theorem dX9_corner_17 : decode cX9_corner 17 = .ok (.iload_n 2, 1) := by decide +kernel
theorem dX9_corner_18 : decode cX9_corner 18 = .ok (.iload_n 3, 1) := by decide +kernel
theorem dX9_corner_19 : decode cX9_corner 19 = .ok (.iload 4, 2) := by decide +kernel
theorem dX9_corner_21 : decode cX9_corner 21 = .ok (.invokevirtual 48, 3) := by decide +kernel
theorem dX9_corner_24 : decode cX9_corner 24 = .ok (.invokevirtual 52, 3) := by decide +kernel
theorem dX9_corner_27 : decode cX9_corner 27 = .ok (.ireturn, 1) := by decide +kernel
theorem dX9_house_0 : decode cX9_house 0 = .ok (.aload_n 0, 1) := by decide +kernel
theorem dX9_house_1 : decode cX9_house 1 = .ok (.getfield 19, 3) := by decide +kernel
theorem dX9_house_4 : decode cX9_house 4 = .ok (.aload_n 0, 1) := by decide +kernel
theorem dX9_house_5 : decode cX9_house 5 = .ok (.getfield 10, 3) := by decide +kernel
theorem dX9_house_8 : decode cX9_house 8 = .ok (.invokevirtual 44, 3) := by decide +kernel
theorem dX9_house_11 : decode cX9_house 11 = .ok (.aload_n 0, 1) := by decide +kernel
theorem dX9_house_12 : decode cX9_house 12 = .ok (.aload_n 0, 1) := by decide +kernel
theorem dX9_house_13 : decode cX9_house 13 = .ok (.getfield 10, 3) := by decide +kernel
theorem dX9_house_16 : decode cX9_house 16 = .ok (.iload_n 1, 1) := by decide +kernel
theorem dX9_house_17 : decode cX9_house 17 = .ok (.iload_n 2, 1) := by decide +kernel
theorem dX9_house_18 : decode cX9_house 18 = .ok (.iload_n 3, 1) := by decide +kernel
theorem dX9_house_19 : decode cX9_house 19 = .ok (.invokevirtual 56, 3) := by decide +kernel
theorem dX9_house_22 : decode cX9_house 22 = .ok (.invokevirtual 52, 3) := by decide +kernel
theorem dX9_house_25 : decode cX9_house 25 = .ok (.ireturn, 1) := by decide +kernel
theorem dX9_dog_0 : decode cX9_dog 0 = .ok (.aload_n 0, 1) := by decide +kernel
theorem dX9_dog_1 : decode cX9_dog 1 = .ok (.getfield 19, 3) := by decide +kernel
theorem dX9_dog_4 : decode cX9_dog 4 = .ok (.aload_n 0, 1) := by decide +kernel
theorem dX9_dog_5 : decode cX9_dog 5 = .ok (.getfield 10, 3) := by decide +kernel
theorem dX9_dog_8 : decode cX9_dog 8 = .ok (.invokevirtual 44, 3) := by decide +kernel
theorem dX9_dog_11 : decode cX9_dog 11 = .ok (.aload_n 0, 1) := by decide +kernel
theorem dX9_dog_12 : decode cX9_dog 12 = .ok (.aload_n 0, 1) := by decide +kernel
theorem dX9_dog_13 : decode cX9_dog 13 = .ok (.getfield 10, 3) := by decide +kernel
theorem dX9_dog_16 : decode cX9_dog 16 = .ok (.iload_n 1, 1) := by decide +kernel
theorem dX9_dog_17 : decode cX9_dog 17 = .ok (.iload_n 2, 1) := by decide +kernel
theorem dX9_dog_18 : decode cX9_dog 18 = .ok (.iload_n 3, 1) := by decide +kernel
theorem dX9_dog_19 : decode cX9_dog 19 = .ok (.invokevirtual 60, 3) := by decide +kernel
theorem dX9_dog_22 : decode cX9_dog 22 = .ok (.invokevirtual 52, 3) := by decide +kernel
theorem dX9_dog_25 : decode cX9_dog 25 = .ok (.ireturn, 1) := by decide +kernel
theorem dX9_pause_0 : decode cX9_pause 0 = .ok (.aload_n 0, 1) := by decide +kernel
theorem dX9_pause_1 : decode cX9_pause 1 = .ok (.getfield 19, 3) := by decide +kernel
theorem dX9_pause_4 : decode cX9_pause 4 = .ok (.aload_n 0, 1) := by decide +kernel
theorem dX9_pause_5 : decode cX9_pause 5 = .ok (.getfield 10, 3) := by decide +kernel
theorem dX9_pause_8 : decode cX9_pause 8 = .ok (.invokevirtual 44, 3) := by decide +kernel
theorem dX9_pause_11 : decode cX9_pause 11 = .ok (.aload_n 0, 1) := by decide +kernel
theorem dX9_pause_12 : decode cX9_pause 12 = .ok (.aload_n 0, 1) := by decide +kernel
theorem dX9_pause_13 : decode cX9_pause 13 = .ok (.getfield 10, 3) := by decide +kernel
theorem dX9_pause_16 : decode cX9_pause 16 = .ok (.iload_n 1, 1) := by decide +kernel
theorem dX9_pause_17 : decode cX9_pause 17 = .ok (.iload_n 2, 1) := by decide +kernel
theorem dX9_pause_18 : decode cX9_pause 18 = .ok (.iload_n 3, 1) := by decide +kernel
theorem dX9_pause_19 : decode cX9_pause 19 = .ok (.invokevirtual 63, 3) := by decide +kernel
theorem dX9_pause_22 : decode cX9_pause 22 = .ok (.invokevirtual 52, 3) := by decide +kernel
theorem dX9_pause_25 : decode cX9_pause 25 = .ok (.ireturn, 1) := by decide +kernel
theorem dX9_carrier_0 : decode cX9_carrier 0 = .ok (.aload_n 0, 1) := by decide +kernel
theorem dX9_carrier_1 : decode cX9_carrier 1 = .ok (.getfield 19, 3) := by decide +kernel
theorem dX9_carrier_4 : decode cX9_carrier 4 = .ok (.aload_n 0, 1) := by decide +kernel
theorem dX9_carrier_5 : decode cX9_carrier 5 = .ok (.getfield 10, 3) := by decide +kernel
theorem dX9_carrier_8 : decode cX9_carrier 8 = .ok (.invokevirtual 44, 3) := by decide +kernel
theorem dX9_carrier_11 : decode cX9_carrier 11 = .ok (.aload_n 0, 1) := by decide +kernel
theorem dX9_carrier_12 : decode cX9_carrier 12 = .ok (.aload_n 0, 1) := by decide +kernel
theorem dX9_carrier_13 : decode cX9_carrier 13 = .ok (.getfield 10, 3) := by decide +kernel
theorem dX9_carrier_16 : decode cX9_carrier 16 = .ok (.iload_n 1, 1) := by decide +kernel
theorem dX9_carrier_17 : decode cX9_carrier 17 = .ok (.iload_n 2, 1) := by decide +kernel
theorem dX9_carrier_18 : decode cX9_carrier 18 = .ok (.invokevirtual 66, 3) := by decide +kernel
theorem dX9_carrier_21 : decode cX9_carrier 21 = .ok (.invokevirtual 52, 3) := by decide +kernel
theorem dX9_carrier_24 : decode cX9_carrier 24 = .ok (.ireturn, 1) := by decide +kernel
theorem dX9_give_0 : decode cX9_give 0 = .ok (.aload_n 0, 1) := by decide +kernel
theorem dX9_give_1 : decode cX9_give 1 = .ok (.getfield 19, 3) := by decide +kernel
theorem dX9_give_4 : decode cX9_give 4 = .ok (.aload_n 0, 1) := by decide +kernel
theorem dX9_give_5 : decode cX9_give 5 = .ok (.getfield 10, 3) := by decide +kernel
theorem dX9_give_8 : decode cX9_give 8 = .ok (.invokevirtual 44, 3) := by decide +kernel
theorem dX9_give_11 : decode cX9_give 11 = .ok (.aload_n 0, 1) := by decide +kernel
theorem dX9_give_12 : decode cX9_give 12 = .ok (.aload_n 0, 1) := by decide +kernel
theorem dX9_give_13 : decode cX9_give 13 = .ok (.getfield 10, 3) := by decide +kernel
theorem dX9_give_16 : decode cX9_give 16 = .ok (.iload_n 1, 1) := by decide +kernel
theorem dX9_give_17 : decode cX9_give 17 = .ok (.iload_n 2, 1) := by decide +kernel
theorem dX9_give_18 : decode cX9_give 18 = .ok (.invokevirtual 70, 3) := by decide +kernel
theorem dX9_give_21 : decode cX9_give 21 = .ok (.invokevirtual 52, 3) := by decide +kernel
theorem dX9_give_24 : decode cX9_give 24 = .ok (.ireturn, 1) := by decide +kernel
theorem dX9_giveNone_0 : decode cX9_giveNone 0 = .ok (.aload_n 0, 1) := by decide +kernel
theorem dX9_giveNone_1 : decode cX9_giveNone 1 = .ok (.getfield 19, 3) := by decide +kernel
theorem dX9_giveNone_4 : decode cX9_giveNone 4 = .ok (.aload_n 0, 1) := by decide +kernel
theorem dX9_giveNone_5 : decode cX9_giveNone 5 = .ok (.getfield 10, 3) := by decide +kernel
theorem dX9_giveNone_8 : decode cX9_giveNone 8 = .ok (.invokevirtual 44, 3) := by decide +kernel
theorem dX9_giveNone_11 : decode cX9_giveNone 11 = .ok (.aload_n 0, 1) := by decide +kernel
theorem dX9_giveNone_12 : decode cX9_giveNone 12 = .ok (.aload_n 0, 1) := by decide +kernel
theorem dX9_giveNone_13 : decode cX9_giveNone 13 = .ok (.getfield 10, 3) := by decide +kernel
theorem dX9_giveNone_16 : decode cX9_giveNone 16 = .ok (.iload_n 1, 1) := by decide +kernel
theorem dX9_giveNone_17 : decode cX9_giveNone 17 = .ok (.invokevirtual 73, 3) := by decide +kernel
theorem dX9_giveNone_20 : decode cX9_giveNone 20 = .ok (.invokevirtual 52, 3) := by decide +kernel
theorem dX9_giveNone_23 : decode cX9_giveNone 23 = .ok (.ireturn, 1) := by decide +kernel
theorem dX9_biscuits_0 : decode cX9_biscuits 0 = .ok (.aload_n 0, 1) := by decide +kernel
theorem dX9_biscuits_1 : decode cX9_biscuits 1 = .ok (.getfield 19, 3) := by decide +kernel
theorem dX9_biscuits_4 : decode cX9_biscuits 4 = .ok (.aload_n 0, 1) := by decide +kernel
theorem dX9_biscuits_5 : decode cX9_biscuits 5 = .ok (.getfield 10, 3) := by decide +kernel
theorem dX9_biscuits_8 : decode cX9_biscuits 8 = .ok (.invokevirtual 44, 3) := by decide +kernel
theorem dX9_biscuits_11 : decode cX9_biscuits 11 = .ok (.aload_n 0, 1) := by decide +kernel
theorem dX9_biscuits_12 : decode cX9_biscuits 12 = .ok (.aload_n 0, 1) := by decide +kernel
theorem dX9_biscuits_13 : decode cX9_biscuits 13 = .ok (.getfield 10, 3) := by decide +kernel
theorem dX9_biscuits_16 : decode cX9_biscuits 16 = .ok (.iload_n 1, 1) := by decide +kernel
theorem dX9_biscuits_17 : decode cX9_biscuits 17 = .ok (.iload_n 2, 1) := by decide +kernel
theorem dX9_biscuits_18 : decode cX9_biscuits 18 = .ok (.invokevirtual 76, 3) := by decide +kernel
theorem dX9_biscuits_21 : decode cX9_biscuits 21 = .ok (.invokevirtual 52, 3) := by decide +kernel
theorem dX9_biscuits_24 : decode cX9_biscuits 24 = .ok (.ireturn, 1) := by decide +kernel
theorem dX9_set_0 : decode cX9_set 0 = .ok (.aload_n 0, 1) := by decide +kernel
theorem dX9_set_1 : decode cX9_set 1 = .ok (.getfield 19, 3) := by decide +kernel
theorem dX9_set_4 : decode cX9_set 4 = .ok (.aload_n 0, 1) := by decide +kernel
theorem dX9_set_5 : decode cX9_set 5 = .ok (.getfield 10, 3) := by decide +kernel
theorem dX9_set_8 : decode cX9_set 8 = .ok (.invokevirtual 44, 3) := by decide +kernel
theorem dX9_set_11 : decode cX9_set 11 = .ok (.aload_n 0, 1) := by decide +kernel
theorem dX9_set_12 : decode cX9_set 12 = .ok (.aload_n 0, 1) := by decide +kernel
theorem dX9_set_13 : decode cX9_set 13 = .ok (.getfield 10, 3) := by decide +kernel
theorem dX9_set_16 : decode cX9_set 16 = .ok (.iload_n 1, 1) := by decide +kernel
theorem dX9_set_17 : decode cX9_set 17 = .ok (.iload_n 2, 1) := by decide +kernel
theorem dX9_set_18 : decode cX9_set 18 = .ok (.invokevirtual 79, 3) := by decide +kernel
theorem dX9_set_21 : decode cX9_set 21 = .ok (.invokevirtual 52, 3) := by decide +kernel
theorem dX9_set_24 : decode cX9_set 24 = .ok (.ireturn, 1) := by decide +kernel
theorem dX9_days_0 : decode cX9_days 0 = .ok (.aload_n 0, 1) := by decide +kernel
theorem dX9_days_1 : decode cX9_days 1 = .ok (.getfield 19, 3) := by decide +kernel
theorem dX9_days_4 : decode cX9_days 4 = .ok (.aload_n 0, 1) := by decide +kernel
theorem dX9_days_5 : decode cX9_days 5 = .ok (.getfield 10, 3) := by decide +kernel
theorem dX9_days_8 : decode cX9_days 8 = .ok (.invokevirtual 44, 3) := by decide +kernel
theorem dX9_days_11 : decode cX9_days 11 = .ok (.aload_n 0, 1) := by decide +kernel
theorem dX9_days_12 : decode cX9_days 12 = .ok (.aload_n 0, 1) := by decide +kernel
theorem dX9_days_13 : decode cX9_days 13 = .ok (.getfield 10, 3) := by decide +kernel
theorem dX9_days_16 : decode cX9_days 16 = .ok (.iload_n 1, 1) := by decide +kernel
theorem dX9_days_17 : decode cX9_days 17 = .ok (.aload_n 0, 1) := by decide +kernel
theorem dX9_days_18 : decode cX9_days 18 = .ok (.getfield 26, 3) := by decide +kernel
theorem dX9_days_21 : decode cX9_days 21 = .ok (.invokevirtual 82, 3) := by decide +kernel
theorem dX9_days_24 : decode cX9_days 24 = .ok (.invokevirtual 52, 3) := by decide +kernel
theorem dX9_days_27 : decode cX9_days 27 = .ok (.ireturn, 1) := by decide +kernel
theorem dX9_cornerOf_0 : decode cX9_cornerOf 0 = .ok (.aload_n 0, 1) := by decide +kernel
theorem dX9_cornerOf_1 : decode cX9_cornerOf 1 = .ok (.getfield 10, 3) := by decide +kernel
theorem dX9_cornerOf_4 : decode cX9_cornerOf 4 = .ok (.getfield 86, 3) := by decide +kernel
theorem dX9_cornerOf_7 : decode cX9_cornerOf 7 = .ok (.iload_n 1, 1) := by decide +kernel
theorem dX9_cornerOf_8 : decode cX9_cornerOf 8 = .ok (.invokevirtual 90, 3) := by decide +kernel
theorem dX9_cornerOf_11 : decode cX9_cornerOf 11 = .ok (.ifCond .eq 13, 3) := by decide +kernel
theorem dX9_cornerOf_14 : decode cX9_cornerOf 14 = .ok (.iload_n 2, 1) := by decide +kernel
theorem dX9_cornerOf_15 : decode cX9_cornerOf 15 = .ok (.iconst 0, 1) := by decide +kernel
theorem dX9_cornerOf_16 : decode cX9_cornerOf 16 = .ok (.bipush 6, 2) := by decide +kernel
theorem dX9_cornerOf_18 : decode cX9_cornerOf 18 = .ok (.invokestatic 96, 3) := by decide +kernel
theorem dX9_cornerOf_21 : decode cX9_cornerOf 21 = .ok (.ifCond .ne 5, 3) := by decide +kernel
theorem dX9_cornerOf_24 : decode cX9_cornerOf 24 = .ok (.iconst (-1), 1) := by decide +kernel
theorem dX9_cornerOf_25 : decode cX9_cornerOf 25 = .ok (.ireturn, 1) := by decide +kernel
theorem dX9_cornerOf_26 : decode cX9_cornerOf 26 = .ok (.iload_n 1, 1) := by decide +kernel
theorem dX9_cornerOf_27 : decode cX9_cornerOf 27 = .ok (.ifCond .ne 20, 3) := by decide +kernel
theorem dX9_cornerOf_30 : decode cX9_cornerOf 30 = .ok (.iload_n 2, 1) := by decide +kernel
theorem dX9_cornerOf_31 : decode cX9_cornerOf 31 = .ok (.ifCond .eq 13, 3) := by decide +kernel
theorem dX9_cornerOf_34 : decode cX9_cornerOf 34 = .ok (.iload_n 2, 1) := by decide +kernel
theorem dX9_cornerOf_35 : decode cX9_cornerOf 35 = .ok (.iconst 1, 1) := by decide +kernel
theorem dX9_cornerOf_36 : decode cX9_cornerOf 36 = .ok (.if_icmp .eq 8, 3) := by decide +kernel
theorem dX9_cornerOf_39 : decode cX9_cornerOf 39 = .ok (.iload_n 2, 1) := by decide +kernel
theorem dX9_cornerOf_40 : decode cX9_cornerOf 40 = .ok (.iconst 3, 1) := by decide +kernel
theorem dX9_cornerOf_41 : decode cX9_cornerOf 41 = .ok (.if_icmp .ne 6, 3) := by decide +kernel
theorem dX9_cornerOf_44 : decode cX9_cornerOf 44 = .ok (.bipush (-4), 2) := by decide +kernel
theorem dX9_cornerOf_46 : decode cX9_cornerOf 46 = .ok (.ireturn, 1) := by decide +kernel
theorem dX9_cornerOf_47 : decode cX9_cornerOf 47 = .ok (.aload_n 0, 1) := by decide +kernel
theorem dX9_cornerOf_48 : decode cX9_cornerOf 48 = .ok (.getfield 10, 3) := by decide +kernel
theorem dX9_cornerOf_51 : decode cX9_cornerOf 51 = .ok (.getfield 86, 3) := by decide +kernel
theorem dX9_cornerOf_54 : decode cX9_cornerOf 54 = .ok (.astore_n 3, 1) := by decide +kernel
theorem dX9_cornerOf_55 : decode cX9_cornerOf 55 = .ok (.iload_n 2, 1) := by decide +kernel
theorem dX9_cornerOf_56 : decode cX9_cornerOf 56 = .ok (.tableswitch 84 0 5 #[40, 47, 54, 61, 68, 75], 40) := by decide +kernel
theorem dX9_cornerOf_96 : decode cX9_cornerOf 96 = .ok (.aload_n 3, 1) := by decide +kernel
theorem dX9_cornerOf_97 : decode cX9_cornerOf 97 = .ok (.getfield 100, 3) := by decide +kernel
theorem dX9_cornerOf_100 : decode cX9_cornerOf 100 = .ok (.iload_n 1, 1) := by decide +kernel
theorem dX9_cornerOf_101 : decode cX9_cornerOf 101 = .ok (.iaload, 1) := by decide +kernel
theorem dX9_cornerOf_102 : decode cX9_cornerOf 102 = .ok (.ireturn, 1) := by decide +kernel
theorem dX9_cornerOf_103 : decode cX9_cornerOf 103 = .ok (.aload_n 3, 1) := by decide +kernel
theorem dX9_cornerOf_104 : decode cX9_cornerOf 104 = .ok (.getfield 104, 3) := by decide +kernel
theorem dX9_cornerOf_107 : decode cX9_cornerOf 107 = .ok (.iload_n 1, 1) := by decide +kernel
theorem dX9_cornerOf_108 : decode cX9_cornerOf 108 = .ok (.iaload, 1) := by decide +kernel
theorem dX9_cornerOf_109 : decode cX9_cornerOf 109 = .ok (.ireturn, 1) := by decide +kernel
theorem dX9_cornerOf_110 : decode cX9_cornerOf 110 = .ok (.aload_n 3, 1) := by decide +kernel
theorem dX9_cornerOf_111 : decode cX9_cornerOf 111 = .ok (.getfield 107, 3) := by decide +kernel
theorem dX9_cornerOf_114 : decode cX9_cornerOf 114 = .ok (.iload_n 1, 1) := by decide +kernel
theorem dX9_cornerOf_115 : decode cX9_cornerOf 115 = .ok (.iaload, 1) := by decide +kernel
theorem dX9_cornerOf_116 : decode cX9_cornerOf 116 = .ok (.ireturn, 1) := by decide +kernel
theorem dX9_cornerOf_117 : decode cX9_cornerOf 117 = .ok (.aload_n 3, 1) := by decide +kernel
theorem dX9_cornerOf_118 : decode cX9_cornerOf 118 = .ok (.getfield 110, 3) := by decide +kernel
theorem dX9_cornerOf_121 : decode cX9_cornerOf 121 = .ok (.iload_n 1, 1) := by decide +kernel
theorem dX9_cornerOf_122 : decode cX9_cornerOf 122 = .ok (.iaload, 1) := by decide +kernel
theorem dX9_cornerOf_123 : decode cX9_cornerOf 123 = .ok (.ireturn, 1) := by decide +kernel
theorem dX9_cornerOf_124 : decode cX9_cornerOf 124 = .ok (.aload_n 3, 1) := by decide +kernel
theorem dX9_cornerOf_125 : decode cX9_cornerOf 125 = .ok (.getfield 113, 3) := by decide +kernel
theorem dX9_cornerOf_128 : decode cX9_cornerOf 128 = .ok (.iload_n 1, 1) := by decide +kernel
theorem dX9_cornerOf_129 : decode cX9_cornerOf 129 = .ok (.iaload, 1) := by decide +kernel
theorem dX9_cornerOf_130 : decode cX9_cornerOf 130 = .ok (.ireturn, 1) := by decide +kernel
theorem dX9_cornerOf_131 : decode cX9_cornerOf 131 = .ok (.aload_n 0, 1) := by decide +kernel
theorem dX9_cornerOf_132 : decode cX9_cornerOf 132 = .ok (.getfield 10, 3) := by decide +kernel
theorem dX9_cornerOf_135 : decode cX9_cornerOf 135 = .ok (.iload_n 1, 1) := by decide +kernel
theorem dX9_cornerOf_136 : decode cX9_cornerOf 136 = .ok (.invokevirtual 116, 3) := by decide +kernel
theorem dX9_cornerOf_139 : decode cX9_cornerOf 139 = .ok (.ireturn, 1) := by decide +kernel
theorem dX9_cornerOf_140 : decode cX9_cornerOf 140 = .ok (.aload_n 3, 1) := by decide +kernel
theorem dX9_cornerOf_141 : decode cX9_cornerOf 141 = .ok (.getfield 119, 3) := by decide +kernel
theorem dX9_cornerOf_144 : decode cX9_cornerOf 144 = .ok (.iload_n 1, 1) := by decide +kernel
theorem dX9_cornerOf_145 : decode cX9_cornerOf 145 = .ok (.iaload, 1) := by decide +kernel
theorem dX9_cornerOf_146 : decode cX9_cornerOf 146 = .ok (.ireturn, 1) := by decide +kernel
theorem dX9_houseOf_0 : decode cX9_houseOf 0 = .ok (.aload_n 0, 1) := by decide +kernel
theorem dX9_houseOf_1 : decode cX9_houseOf 1 = .ok (.getfield 10, 3) := by decide +kernel
theorem dX9_houseOf_4 : decode cX9_houseOf 4 = .ok (.getfield 122, 3) := by decide +kernel
theorem dX9_houseOf_7 : decode cX9_houseOf 7 = .ok (.astore_n 3, 1) := by decide +kernel
theorem dX9_houseOf_8 : decode cX9_houseOf 8 = .ok (.aload_n 3, 1) := by decide +kernel
theorem dX9_houseOf_9 : decode cX9_houseOf 9 = .ok (.iload_n 1, 1) := by decide +kernel
theorem dX9_houseOf_10 : decode cX9_houseOf 10 = .ok (.invokevirtual 126, 3) := by decide +kernel
theorem dX9_houseOf_13 : decode cX9_houseOf 13 = .ok (.ifCond .eq 13, 3) := by decide +kernel
theorem dX9_houseOf_16 : decode cX9_houseOf 16 = .ok (.iload_n 2, 1) := by decide +kernel
theorem dX9_houseOf_17 : decode cX9_houseOf 17 = .ok (.iconst 0, 1) := by decide +kernel
theorem dX9_houseOf_18 : decode cX9_houseOf 18 = .ok (.bipush 11, 2) := by decide +kernel
theorem dX9_houseOf_20 : decode cX9_houseOf 20 = .ok (.invokestatic 96, 3) := by decide +kernel
theorem dX9_houseOf_23 : decode cX9_houseOf 23 = .ok (.ifCond .ne 5, 3) := by decide +kernel
theorem dX9_houseOf_26 : decode cX9_houseOf 26 = .ok (.iconst (-1), 1) := by decide +kernel
theorem dX9_houseOf_27 : decode cX9_houseOf 27 = .ok (.ireturn, 1) := by decide +kernel
theorem dX9_houseOf_28 : decode cX9_houseOf 28 = .ok (.iload_n 2, 1) := by decide +kernel
theorem dX9_houseOf_29 : decode cX9_houseOf 29 = .ok (.tableswitch 185 0 10 #[59, 66, 73, 80, 102, 123, 150, 157, 164, 171, 178], 59) := by decide +kernel
theorem dX9_houseOf_88 : decode cX9_houseOf 88 = .ok (.aload_n 3, 1) := by decide +kernel
theorem dX9_houseOf_89 : decode cX9_houseOf 89 = .ok (.getfield 129, 3) := by decide +kernel
theorem dX9_houseOf_92 : decode cX9_houseOf 92 = .ok (.iload_n 1, 1) := by decide +kernel
theorem dX9_houseOf_93 : decode cX9_houseOf 93 = .ok (.iaload, 1) := by decide +kernel
theorem dX9_houseOf_94 : decode cX9_houseOf 94 = .ok (.ireturn, 1) := by decide +kernel
theorem dX9_houseOf_95 : decode cX9_houseOf 95 = .ok (.aload_n 3, 1) := by decide +kernel
theorem dX9_houseOf_96 : decode cX9_houseOf 96 = .ok (.getfield 132, 3) := by decide +kernel
theorem dX9_houseOf_99 : decode cX9_houseOf 99 = .ok (.iload_n 1, 1) := by decide +kernel
theorem dX9_houseOf_100 : decode cX9_houseOf 100 = .ok (.iaload, 1) := by decide +kernel
theorem dX9_houseOf_101 : decode cX9_houseOf 101 = .ok (.ireturn, 1) := by decide +kernel
theorem dX9_houseOf_102 : decode cX9_houseOf 102 = .ok (.aload_n 3, 1) := by decide +kernel
theorem dX9_houseOf_103 : decode cX9_houseOf 103 = .ok (.getfield 135, 3) := by decide +kernel
theorem dX9_houseOf_106 : decode cX9_houseOf 106 = .ok (.iload_n 1, 1) := by decide +kernel
theorem dX9_houseOf_107 : decode cX9_houseOf 107 = .ok (.iaload, 1) := by decide +kernel
theorem dX9_houseOf_108 : decode cX9_houseOf 108 = .ok (.ireturn, 1) := by decide +kernel
theorem dX9_houseOf_109 : decode cX9_houseOf 109 = .ok (.aload_n 3, 1) := by decide +kernel
theorem dX9_houseOf_110 : decode cX9_houseOf 110 = .ok (.getfield 138, 3) := by decide +kernel
theorem dX9_houseOf_113 : decode cX9_houseOf 113 = .ok (.iload_n 1, 1) := by decide +kernel
theorem dX9_houseOf_114 : decode cX9_houseOf 114 = .ok (.iaload, 1) := by decide +kernel
theorem dX9_houseOf_115 : decode cX9_houseOf 115 = .ok (.iconst (-1), 1) := by decide +kernel
theorem dX9_houseOf_116 : decode cX9_houseOf 116 = .ok (.if_icmp .ne 8, 3) := by decide +kernel
theorem dX9_houseOf_119 : decode cX9_houseOf 119 = .ok (.bipush (-4), 2) := by decide +kernel
theorem dX9_houseOf_121 : decode cX9_houseOf 121 = .ok (.goto 9, 3) := by decide +kernel
theorem dX9_houseOf_124 : decode cX9_houseOf 124 = .ok (.aload_n 3, 1) := by decide +kernel
theorem dX9_houseOf_125 : decode cX9_houseOf 125 = .ok (.getfield 138, 3) := by decide +kernel
theorem dX9_houseOf_128 : decode cX9_houseOf 128 = .ok (.iload_n 1, 1) := by decide +kernel
theorem dX9_houseOf_129 : decode cX9_houseOf 129 = .ok (.iaload, 1) := by decide +kernel
theorem dX9_houseOf_130 : decode cX9_houseOf 130 = .ok (.ireturn, 1) := by decide +kernel
theorem dX9_houseOf_131 : decode cX9_houseOf 131 = .ok (.aload_n 3, 1) := by decide +kernel
theorem dX9_houseOf_132 : decode cX9_houseOf 132 = .ok (.getfield 141, 3) := by decide +kernel
theorem dX9_houseOf_135 : decode cX9_houseOf 135 = .ok (.iload_n 1, 1) := by decide +kernel
theorem dX9_houseOf_136 : decode cX9_houseOf 136 = .ok (.iaload, 1) := by decide +kernel
theorem dX9_houseOf_137 : decode cX9_houseOf 137 = .ok (.ifCond .ne 8, 3) := by decide +kernel
theorem dX9_houseOf_140 : decode cX9_houseOf 140 = .ok (.bipush (-4), 2) := by decide +kernel
theorem dX9_houseOf_142 : decode cX9_houseOf 142 = .ok (.goto 9, 3) := by decide +kernel
theorem dX9_houseOf_145 : decode cX9_houseOf 145 = .ok (.aload_n 3, 1) := by decide +kernel
theorem dX9_houseOf_146 : decode cX9_houseOf 146 = .ok (.getfield 141, 3) := by decide +kernel
theorem dX9_houseOf_149 : decode cX9_houseOf 149 = .ok (.iload_n 1, 1) := by decide +kernel
theorem dX9_houseOf_150 : decode cX9_houseOf 150 = .ok (.iaload, 1) := by decide +kernel
theorem dX9_houseOf_151 : decode cX9_houseOf 151 = .ok (.ireturn, 1) := by decide +kernel
theorem dX9_houseOf_152 : decode cX9_houseOf 152 = .ok (.aload_n 0, 1) := by decide +kernel
theorem dX9_houseOf_153 : decode cX9_houseOf 153 = .ok (.getfield 10, 3) := by decide +kernel
theorem dX9_houseOf_156 : decode cX9_houseOf 156 = .ok (.getfield 144, 3) := by decide +kernel
theorem dX9_houseOf_159 : decode cX9_houseOf 159 = .ok (.iload_n 1, 1) := by decide +kernel
theorem dX9_houseOf_160 : decode cX9_houseOf 160 = .ok (.aload_n 0, 1) := by decide +kernel
theorem dX9_houseOf_161 : decode cX9_houseOf 161 = .ok (.getfield 10, 3) := by decide +kernel
theorem dX9_houseOf_164 : decode cX9_houseOf 164 = .ok (.getfield 148, 3) := by decide +kernel
theorem dX9_houseOf_167 : decode cX9_houseOf 167 = .ok (.invokevirtual 152, 3) := by decide +kernel
theorem dX9_houseOf_170 : decode cX9_houseOf 170 = .ok (.ifCond .eq 7, 3) := by decide +kernel
theorem dX9_houseOf_173 : decode cX9_houseOf 173 = .ok (.iconst 1, 1) := by decide +kernel
theorem dX9_houseOf_174 : decode cX9_houseOf 174 = .ok (.goto 4, 3) := by decide +kernel
theorem dX9_houseOf_177 : decode cX9_houseOf 177 = .ok (.iconst 0, 1) := by decide +kernel
theorem dX9_houseOf_178 : decode cX9_houseOf 178 = .ok (.ireturn, 1) := by decide +kernel
theorem dX9_houseOf_179 : decode cX9_houseOf 179 = .ok (.aload_n 3, 1) := by decide +kernel
theorem dX9_houseOf_180 : decode cX9_houseOf 180 = .ok (.getfield 158, 3) := by decide +kernel
theorem dX9_houseOf_183 : decode cX9_houseOf 183 = .ok (.iload_n 1, 1) := by decide +kernel
theorem dX9_houseOf_184 : decode cX9_houseOf 184 = .ok (.iaload, 1) := by decide +kernel
theorem dX9_houseOf_185 : decode cX9_houseOf 185 = .ok (.ireturn, 1) := by decide +kernel
theorem dX9_houseOf_186 : decode cX9_houseOf 186 = .ok (.aload_n 3, 1) := by decide +kernel
theorem dX9_houseOf_187 : decode cX9_houseOf 187 = .ok (.getfield 161, 3) := by decide +kernel
theorem dX9_houseOf_190 : decode cX9_houseOf 190 = .ok (.iload_n 1, 1) := by decide +kernel
theorem dX9_houseOf_191 : decode cX9_houseOf 191 = .ok (.iaload, 1) := by decide +kernel
theorem dX9_houseOf_192 : decode cX9_houseOf 192 = .ok (.ireturn, 1) := by decide +kernel
theorem dX9_houseOf_193 : decode cX9_houseOf 193 = .ok (.aload_n 3, 1) := by decide +kernel
theorem dX9_houseOf_194 : decode cX9_houseOf 194 = .ok (.getfield 164, 3) := by decide +kernel
theorem dX9_houseOf_197 : decode cX9_houseOf 197 = .ok (.iload_n 1, 1) := by decide +kernel
theorem dX9_houseOf_198 : decode cX9_houseOf 198 = .ok (.iaload, 1) := by decide +kernel
theorem dX9_houseOf_199 : decode cX9_houseOf 199 = .ok (.ireturn, 1) := by decide +kernel
theorem dX9_houseOf_200 : decode cX9_houseOf 200 = .ok (.aload_n 3, 1) := by decide +kernel
theorem dX9_houseOf_201 : decode cX9_houseOf 201 = .ok (.getfield 167, 3) := by decide +kernel
theorem dX9_houseOf_204 : decode cX9_houseOf 204 = .ok (.iload_n 1, 1) := by decide +kernel
theorem dX9_houseOf_205 : decode cX9_houseOf 205 = .ok (.iaload, 1) := by decide +kernel
theorem dX9_houseOf_206 : decode cX9_houseOf 206 = .ok (.ireturn, 1) := by decide +kernel
theorem dX9_houseOf_207 : decode cX9_houseOf 207 = .ok (.aload_n 3, 1) := by decide +kernel
theorem dX9_houseOf_208 : decode cX9_houseOf 208 = .ok (.getfield 170, 3) := by decide +kernel
theorem dX9_houseOf_211 : decode cX9_houseOf 211 = .ok (.iload_n 1, 1) := by decide +kernel
theorem dX9_houseOf_212 : decode cX9_houseOf 212 = .ok (.iaload, 1) := by decide +kernel
theorem dX9_houseOf_213 : decode cX9_houseOf 213 = .ok (.ireturn, 1) := by decide +kernel
theorem dX9_houseOf_214 : decode cX9_houseOf 214 = .ok (.aload_n 3, 1) := by decide +kernel
theorem dX9_houseOf_215 : decode cX9_houseOf 215 = .ok (.getfield 173, 3) := by decide +kernel
theorem dX9_houseOf_218 : decode cX9_houseOf 218 = .ok (.iload_n 1, 1) := by decide +kernel
theorem dX9_houseOf_219 : decode cX9_houseOf 219 = .ok (.iaload, 1) := by decide +kernel
theorem dX9_houseOf_220 : decode cX9_houseOf 220 = .ok (.ireturn, 1) := by decide +kernel
theorem dX9_shareBits_0 : decode cX9_shareBits 0 = .ok (.aload_n 0, 1) := by decide +kernel
theorem dX9_shareBits_1 : decode cX9_shareBits 1 = .ok (.getfield 10, 3) := by decide +kernel
theorem dX9_shareBits_4 : decode cX9_shareBits 4 = .ok (.getfield 122, 3) := by decide +kernel
theorem dX9_shareBits_7 : decode cX9_shareBits 7 = .ok (.iload_n 1, 1) := by decide +kernel
theorem dX9_shareBits_8 : decode cX9_shareBits 8 = .ok (.invokevirtual 126, 3) := by decide +kernel
theorem dX9_shareBits_11 : decode cX9_shareBits 11 = .ok (.ifCond .ne 5, 3) := by decide +kernel
theorem dX9_shareBits_14 : decode cX9_shareBits 14 = .ok (.iconst (-1), 1) := by decide +kernel
theorem dX9_shareBits_15 : decode cX9_shareBits 15 = .ok (.ireturn, 1) := by decide +kernel
theorem dX9_shareBits_16 : decode cX9_shareBits 16 = .ok (.aload_n 0, 1) := by decide +kernel
theorem dX9_shareBits_17 : decode cX9_shareBits 17 = .ok (.getfield 10, 3) := by decide +kernel
theorem dX9_shareBits_20 : decode cX9_shareBits 20 = .ok (.getfield 122, 3) := by decide +kernel
theorem dX9_shareBits_23 : decode cX9_shareBits 23 = .ok (.iload_n 1, 1) := by decide +kernel
theorem dX9_shareBits_24 : decode cX9_shareBits 24 = .ok (.invokevirtual 176, 3) := by decide +kernel
theorem dX9_shareBits_27 : decode cX9_shareBits 27 = .ok (.ifCond .ne 6, 3) := by decide +kernel
theorem dX9_shareBits_30 : decode cX9_shareBits 30 = .ok (.bipush (-4), 2) := by decide +kernel
theorem dX9_shareBits_32 : decode cX9_shareBits 32 = .ok (.ireturn, 1) := by decide +kernel
theorem dX9_shareBits_33 : decode cX9_shareBits 33 = .ok (.aload_n 0, 1) := by decide +kernel
theorem dX9_shareBits_34 : decode cX9_shareBits 34 = .ok (.getfield 10, 3) := by decide +kernel
theorem dX9_shareBits_37 : decode cX9_shareBits 37 = .ok (.getfield 122, 3) := by decide +kernel
theorem dX9_shareBits_40 : decode cX9_shareBits 40 = .ok (.iload_n 1, 1) := by decide +kernel
theorem dX9_shareBits_41 : decode cX9_shareBits 41 = .ok (.invokevirtual 179, 3) := by decide +kernel
theorem dX9_shareBits_44 : decode cX9_shareBits 44 = .ok (.invokestatic 183, 3) := by decide +kernel
theorem dX9_shareBits_47 : decode cX9_shareBits 47 = .ok (.ireturn, 1) := by decide +kernel
theorem dX9_meanBits_0 : decode cX9_meanBits 0 = .ok (.dconst 0, 1) := by decide +kernel
theorem dX9_meanBits_1 : decode cX9_meanBits 1 = .ok (.dstore_n 1, 1) := by decide +kernel
theorem dX9_meanBits_2 : decode cX9_meanBits 2 = .ok (.iconst 0, 1) := by decide +kernel
theorem dX9_meanBits_3 : decode cX9_meanBits 3 = .ok (.istore_n 3, 1) := by decide +kernel
theorem dX9_meanBits_4 : decode cX9_meanBits 4 = .ok (.iconst 0, 1) := by decide +kernel
theorem dX9_meanBits_5 : decode cX9_meanBits 5 = .ok (.istore 4, 2) := by decide +kernel
theorem dX9_meanBits_7 : decode cX9_meanBits 7 = .ok (.iload 4, 2) := by decide +kernel
theorem dX9_meanBits_9 : decode cX9_meanBits 9 = .ok (.aload_n 0, 1) := by decide +kernel
theorem dX9_meanBits_10 : decode cX9_meanBits 10 = .ok (.getfield 10, 3) := by decide +kernel
theorem dX9_meanBits_13 : decode cX9_meanBits 13 = .ok (.getfield 122, 3) := by decide +kernel
theorem dX9_meanBits_16 : decode cX9_meanBits 16 = .ok (.getfield 187, 3) := by decide +kernel
theorem dX9_meanBits_19 : decode cX9_meanBits 19 = .ok (.if_icmp .ge 43, 3) := by decide +kernel
theorem dX9_meanBits_22 : decode cX9_meanBits 22 = .ok (.aload_n 0, 1) := by decide +kernel
theorem dX9_meanBits_23 : decode cX9_meanBits 23 = .ok (.getfield 10, 3) := by decide +kernel
theorem dX9_meanBits_26 : decode cX9_meanBits 26 = .ok (.getfield 122, 3) := by decide +kernel
theorem dX9_meanBits_29 : decode cX9_meanBits 29 = .ok (.iload 4, 2) := by decide +kernel
theorem dX9_meanBits_31 : decode cX9_meanBits 31 = .ok (.invokevirtual 176, 3) := by decide +kernel
theorem dX9_meanBits_34 : decode cX9_meanBits 34 = .ok (.ifCond .le 22, 3) := by decide +kernel
theorem dX9_meanBits_37 : decode cX9_meanBits 37 = .ok (.dload_n 1, 1) := by decide +kernel
theorem dX9_meanBits_38 : decode cX9_meanBits 38 = .ok (.aload_n 0, 1) := by decide +kernel
theorem dX9_meanBits_39 : decode cX9_meanBits 39 = .ok (.getfield 10, 3) := by decide +kernel
theorem dX9_meanBits_42 : decode cX9_meanBits 42 = .ok (.getfield 122, 3) := by decide +kernel
theorem dX9_meanBits_45 : decode cX9_meanBits 45 = .ok (.iload 4, 2) := by decide +kernel
theorem dX9_meanBits_47 : decode cX9_meanBits 47 = .ok (.invokevirtual 179, 3) := by decide +kernel
theorem dX9_meanBits_50 : decode cX9_meanBits 50 = .ok (.f2d, 1) := by decide +kernel
theorem dX9_meanBits_51 : decode cX9_meanBits 51 = .ok (.dadd, 1) := by decide +kernel
theorem dX9_meanBits_52 : decode cX9_meanBits 52 = .ok (.dstore_n 1, 1) := by decide +kernel
theorem dX9_meanBits_53 : decode cX9_meanBits 53 = .ok (.iinc 3 1, 3) := by decide +kernel
theorem dX9_meanBits_56 : decode cX9_meanBits 56 = .ok (.iinc 4 1, 3) := by decide +kernel
theorem dX9_meanBits_59 : decode cX9_meanBits 59 = .ok (.goto (-52), 3) := by decide +kernel
theorem dX9_meanBits_62 : decode cX9_meanBits 62 = .ok (.iload_n 3, 1) := by decide +kernel
theorem dX9_meanBits_63 : decode cX9_meanBits 63 = .ok (.ifCond .ne 6, 3) := by decide +kernel
theorem dX9_meanBits_66 : decode cX9_meanBits 66 = .ok (.bipush (-4), 2) := by decide +kernel
theorem dX9_meanBits_68 : decode cX9_meanBits 68 = .ok (.ireturn, 1) := by decide +kernel
theorem dX9_meanBits_69 : decode cX9_meanBits 69 = .ok (.dload_n 1, 1) := by decide +kernel
theorem dX9_meanBits_70 : decode cX9_meanBits 70 = .ok (.iload_n 3, 1) := by decide +kernel
theorem dX9_meanBits_71 : decode cX9_meanBits 71 = .ok (.i2d, 1) := by decide +kernel
theorem dX9_meanBits_72 : decode cX9_meanBits 72 = .ok (.ddiv, 1) := by decide +kernel
theorem dX9_meanBits_73 : decode cX9_meanBits 73 = .ok (.d2f, 1) := by decide +kernel
theorem dX9_meanBits_74 : decode cX9_meanBits 74 = .ok (.invokestatic 183, 3) := by decide +kernel
theorem dX9_meanBits_77 : decode cX9_meanBits 77 = .ok (.ireturn, 1) := by decide +kernel
theorem dX9_carrierOf_0 : decode cX9_carrierOf 0 = .ok (.aload_n 0, 1) := by decide +kernel
theorem dX9_carrierOf_1 : decode cX9_carrierOf 1 = .ok (.getfield 10, 3) := by decide +kernel
theorem dX9_carrierOf_4 : decode cX9_carrierOf 4 = .ok (.getfield 190, 3) := by decide +kernel
theorem dX9_carrierOf_7 : decode cX9_carrierOf 7 = .ok (.astore_n 3, 1) := by decide +kernel
theorem dX9_carrierOf_8 : decode cX9_carrierOf 8 = .ok (.aload_n 3, 1) := by decide +kernel
theorem dX9_carrierOf_9 : decode cX9_carrierOf 9 = .ok (.iload_n 1, 1) := by decide +kernel
theorem dX9_carrierOf_10 : decode cX9_carrierOf 10 = .ok (.invokevirtual 194, 3) := by decide +kernel
theorem dX9_carrierOf_13 : decode cX9_carrierOf 13 = .ok (.ifCond .eq 13, 3) := by decide +kernel
theorem dX9_carrierOf_16 : decode cX9_carrierOf 16 = .ok (.iload_n 2, 1) := by decide +kernel
theorem dX9_carrierOf_17 : decode cX9_carrierOf 17 = .ok (.iconst 0, 1) := by decide +kernel
theorem dX9_carrierOf_18 : decode cX9_carrierOf 18 = .ok (.bipush 7, 2) := by decide +kernel
theorem dX9_carrierOf_20 : decode cX9_carrierOf 20 = .ok (.invokestatic 96, 3) := by decide +kernel
theorem dX9_carrierOf_23 : decode cX9_carrierOf 23 = .ok (.ifCond .ne 5, 3) := by decide +kernel
theorem dX9_carrierOf_26 : decode cX9_carrierOf 26 = .ok (.iconst (-1), 1) := by decide +kernel
theorem dX9_carrierOf_27 : decode cX9_carrierOf 27 = .ok (.ireturn, 1) := by decide +kernel
theorem dX9_carrierOf_28 : decode cX9_carrierOf 28 = .ok (.iload_n 2, 1) := by decide +kernel
theorem dX9_carrierOf_29 : decode cX9_carrierOf 29 = .ok (.tableswitch 97 0 6 #[43, 50, 57, 64, 76, 83, 90], 43) := by decide +kernel
theorem dX9_carrierOf_72 : decode cX9_carrierOf 72 = .ok (.aload_n 3, 1) := by decide +kernel
theorem dX9_carrierOf_73 : decode cX9_carrierOf 73 = .ok (.getfield 197, 3) := by decide +kernel
theorem dX9_carrierOf_76 : decode cX9_carrierOf 76 = .ok (.iload_n 1, 1) := by decide +kernel
theorem dX9_carrierOf_77 : decode cX9_carrierOf 77 = .ok (.iaload, 1) := by decide +kernel
theorem dX9_carrierOf_78 : decode cX9_carrierOf 78 = .ok (.ireturn, 1) := by decide +kernel
theorem dX9_carrierOf_79 : decode cX9_carrierOf 79 = .ok (.aload_n 3, 1) := by decide +kernel
theorem dX9_carrierOf_80 : decode cX9_carrierOf 80 = .ok (.getfield 200, 3) := by decide +kernel
theorem dX9_carrierOf_83 : decode cX9_carrierOf 83 = .ok (.iload_n 1, 1) := by decide +kernel
theorem dX9_carrierOf_84 : decode cX9_carrierOf 84 = .ok (.iaload, 1) := by decide +kernel
theorem dX9_carrierOf_85 : decode cX9_carrierOf 85 = .ok (.ireturn, 1) := by decide +kernel
theorem dX9_carrierOf_86 : decode cX9_carrierOf 86 = .ok (.aload_n 3, 1) := by decide +kernel
theorem dX9_carrierOf_87 : decode cX9_carrierOf 87 = .ok (.getfield 203, 3) := by decide +kernel
theorem dX9_carrierOf_90 : decode cX9_carrierOf 90 = .ok (.iload_n 1, 1) := by decide +kernel
theorem dX9_carrierOf_91 : decode cX9_carrierOf 91 = .ok (.iaload, 1) := by decide +kernel
theorem dX9_carrierOf_92 : decode cX9_carrierOf 92 = .ok (.ireturn, 1) := by decide +kernel
theorem dX9_carrierOf_93 : decode cX9_carrierOf 93 = .ok (.aload_n 0, 1) := by decide +kernel
theorem dX9_carrierOf_94 : decode cX9_carrierOf 94 = .ok (.getfield 10, 3) := by decide +kernel
theorem dX9_carrierOf_97 : decode cX9_carrierOf 97 = .ok (.getfield 122, 3) := by decide +kernel
theorem dX9_carrierOf_100 : decode cX9_carrierOf 100 = .ok (.iload_n 1, 1) := by decide +kernel
theorem dX9_carrierOf_101 : decode cX9_carrierOf 101 = .ok (.invokevirtual 206, 3) := by decide +kernel
theorem dX9_carrierOf_104 : decode cX9_carrierOf 104 = .ok (.ireturn, 1) := by decide +kernel
theorem dX9_carrierOf_105 : decode cX9_carrierOf 105 = .ok (.aload_n 3, 1) := by decide +kernel
theorem dX9_carrierOf_106 : decode cX9_carrierOf 106 = .ok (.getfield 209, 3) := by decide +kernel
theorem dX9_carrierOf_109 : decode cX9_carrierOf 109 = .ok (.iload_n 1, 1) := by decide +kernel
theorem dX9_carrierOf_110 : decode cX9_carrierOf 110 = .ok (.iaload, 1) := by decide +kernel
theorem dX9_carrierOf_111 : decode cX9_carrierOf 111 = .ok (.ireturn, 1) := by decide +kernel
theorem dX9_carrierOf_112 : decode cX9_carrierOf 112 = .ok (.aload_n 3, 1) := by decide +kernel
theorem dX9_carrierOf_113 : decode cX9_carrierOf 113 = .ok (.getfield 212, 3) := by decide +kernel
theorem dX9_carrierOf_116 : decode cX9_carrierOf 116 = .ok (.iload_n 1, 1) := by decide +kernel
theorem dX9_carrierOf_117 : decode cX9_carrierOf 117 = .ok (.iaload, 1) := by decide +kernel
theorem dX9_carrierOf_118 : decode cX9_carrierOf 118 = .ok (.ireturn, 1) := by decide +kernel
theorem dX9_carrierOf_119 : decode cX9_carrierOf 119 = .ok (.aload_n 3, 1) := by decide +kernel
theorem dX9_carrierOf_120 : decode cX9_carrierOf 120 = .ok (.getfield 215, 3) := by decide +kernel
theorem dX9_carrierOf_123 : decode cX9_carrierOf 123 = .ok (.iload_n 1, 1) := by decide +kernel
theorem dX9_carrierOf_124 : decode cX9_carrierOf 124 = .ok (.iaload, 1) := by decide +kernel
theorem dX9_carrierOf_125 : decode cX9_carrierOf 125 = .ok (.ireturn, 1) := by decide +kernel
theorem dX9_carrierOf_126 : decode cX9_carrierOf 126 = .ok (.aload_n 3, 1) := by decide +kernel
theorem dX9_carrierOf_127 : decode cX9_carrierOf 127 = .ok (.getfield 218, 3) := by decide +kernel
theorem dX9_carrierOf_130 : decode cX9_carrierOf 130 = .ok (.iload_n 1, 1) := by decide +kernel
theorem dX9_carrierOf_131 : decode cX9_carrierOf 131 = .ok (.iaload, 1) := by decide +kernel
theorem dX9_carrierOf_132 : decode cX9_carrierOf 132 = .ok (.ireturn, 1) := by decide +kernel
theorem dX9_pauseOf_0 : decode cX9_pauseOf 0 = .ok (.aload_n 0, 1) := by decide +kernel
theorem dX9_pauseOf_1 : decode cX9_pauseOf 1 = .ok (.getfield 10, 3) := by decide +kernel
theorem dX9_pauseOf_4 : decode cX9_pauseOf 4 = .ok (.getfield 144, 3) := by decide +kernel
theorem dX9_pauseOf_7 : decode cX9_pauseOf 7 = .ok (.astore_n 3, 1) := by decide +kernel
theorem dX9_pauseOf_8 : decode cX9_pauseOf 8 = .ok (.iload_n 1, 1) := by decide +kernel
theorem dX9_pauseOf_9 : decode cX9_pauseOf 9 = .ok (.iconst 0, 1) := by decide +kernel
theorem dX9_pauseOf_10 : decode cX9_pauseOf 10 = .ok (.aload_n 3, 1) := by decide +kernel
theorem dX9_pauseOf_11 : decode cX9_pauseOf 11 = .ok (.getfield 219, 3) := by decide +kernel
theorem dX9_pauseOf_14 : decode cX9_pauseOf 14 = .ok (.iconst 1, 1) := by decide +kernel
theorem dX9_pauseOf_15 : decode cX9_pauseOf 15 = .ok (.isub, 1) := by decide +kernel
theorem dX9_pauseOf_16 : decode cX9_pauseOf 16 = .ok (.invokestatic 96, 3) := by decide +kernel
theorem dX9_pauseOf_19 : decode cX9_pauseOf 19 = .ok (.ifCond .eq 12, 3) := by decide +kernel
theorem dX9_pauseOf_22 : decode cX9_pauseOf 22 = .ok (.iload_n 2, 1) := by decide +kernel
theorem dX9_pauseOf_23 : decode cX9_pauseOf 23 = .ok (.iconst 0, 1) := by decide +kernel
theorem dX9_pauseOf_24 : decode cX9_pauseOf 24 = .ok (.iconst 2, 1) := by decide +kernel
theorem dX9_pauseOf_25 : decode cX9_pauseOf 25 = .ok (.invokestatic 96, 3) := by decide +kernel
theorem dX9_pauseOf_28 : decode cX9_pauseOf 28 = .ok (.ifCond .ne 5, 3) := by decide +kernel
theorem dX9_pauseOf_31 : decode cX9_pauseOf 31 = .ok (.iconst (-1), 1) := by decide +kernel
theorem dX9_pauseOf_32 : decode cX9_pauseOf 32 = .ok (.ireturn, 1) := by decide +kernel
theorem dX9_pauseOf_33 : decode cX9_pauseOf 33 = .ok (.iload_n 2, 1) := by decide +kernel
theorem dX9_pauseOf_34 : decode cX9_pauseOf 34 = .ok (.lookupswitch 40 #[(0, 26), (1, 33)], 26) := by decide +kernel
theorem dX9_pauseOf_60 : decode cX9_pauseOf 60 = .ok (.aload_n 3, 1) := by decide +kernel
theorem dX9_pauseOf_61 : decode cX9_pauseOf 61 = .ok (.getfield 220, 3) := by decide +kernel
theorem dX9_pauseOf_64 : decode cX9_pauseOf 64 = .ok (.iload_n 1, 1) := by decide +kernel
theorem dX9_pauseOf_65 : decode cX9_pauseOf 65 = .ok (.iaload, 1) := by decide +kernel
theorem dX9_pauseOf_66 : decode cX9_pauseOf 66 = .ok (.ireturn, 1) := by decide +kernel
theorem dX9_pauseOf_67 : decode cX9_pauseOf 67 = .ok (.aload_n 3, 1) := by decide +kernel
theorem dX9_pauseOf_68 : decode cX9_pauseOf 68 = .ok (.getfield 223, 3) := by decide +kernel
theorem dX9_pauseOf_71 : decode cX9_pauseOf 71 = .ok (.iload_n 1, 1) := by decide +kernel
theorem dX9_pauseOf_72 : decode cX9_pauseOf 72 = .ok (.iaload, 1) := by decide +kernel
theorem dX9_pauseOf_73 : decode cX9_pauseOf 73 = .ok (.ireturn, 1) := by decide +kernel
theorem dX9_pauseOf_74 : decode cX9_pauseOf 74 = .ok (.aload_n 3, 1) := by decide +kernel
theorem dX9_pauseOf_75 : decode cX9_pauseOf 75 = .ok (.getfield 226, 3) := by decide +kernel
theorem dX9_pauseOf_78 : decode cX9_pauseOf 78 = .ok (.iload_n 1, 1) := by decide +kernel
theorem dX9_pauseOf_79 : decode cX9_pauseOf 79 = .ok (.iaload, 1) := by decide +kernel
theorem dX9_pauseOf_80 : decode cX9_pauseOf 80 = .ok (.ireturn, 1) := by decide +kernel
theorem dX9_roundAt_0 : decode cX9_roundAt 0 = .ok (.aload_n 0, 1) := by decide +kernel
theorem dX9_roundAt_1 : decode cX9_roundAt 1 = .ok (.getfield 10, 3) := by decide +kernel
theorem dX9_roundAt_4 : decode cX9_roundAt 4 = .ok (.getfield 190, 3) := by decide +kernel
theorem dX9_roundAt_7 : decode cX9_roundAt 7 = .ok (.iload_n 1, 1) := by decide +kernel
theorem dX9_roundAt_8 : decode cX9_roundAt 8 = .ok (.invokevirtual 194, 3) := by decide +kernel
theorem dX9_roundAt_11 : decode cX9_roundAt 11 = .ok (.ifCond .eq 7, 3) := by decide +kernel
theorem dX9_roundAt_14 : decode cX9_roundAt 14 = .ok (.iload_n 2, 1) := by decide +kernel
theorem dX9_roundAt_15 : decode cX9_roundAt 15 = .ok (.ifCond .ge 5, 3) := by decide +kernel
theorem dX9_roundAt_18 : decode cX9_roundAt 18 = .ok (.iconst (-1), 1) := by decide +kernel
theorem dX9_roundAt_19 : decode cX9_roundAt 19 = .ok (.ireturn, 1) := by decide +kernel
theorem dX9_roundAt_20 : decode cX9_roundAt 20 = .ok (.aload_n 0, 1) := by decide +kernel
theorem dX9_roundAt_21 : decode cX9_roundAt 21 = .ok (.getfield 10, 3) := by decide +kernel
theorem dX9_roundAt_24 : decode cX9_roundAt 24 = .ok (.getfield 122, 3) := by decide +kernel
theorem dX9_roundAt_27 : decode cX9_roundAt 27 = .ok (.astore_n 3, 1) := by decide +kernel
theorem dX9_roundAt_28 : decode cX9_roundAt 28 = .ok (.iconst 0, 1) := by decide +kernel
theorem dX9_roundAt_29 : decode cX9_roundAt 29 = .ok (.istore 4, 2) := by decide +kernel
theorem dX9_roundAt_31 : decode cX9_roundAt 31 = .ok (.iconst 0, 1) := by decide +kernel
theorem dX9_roundAt_32 : decode cX9_roundAt 32 = .ok (.istore 5, 2) := by decide +kernel
theorem dX9_roundAt_34 : decode cX9_roundAt 34 = .ok (.iload 5, 2) := by decide +kernel
theorem dX9_roundAt_36 : decode cX9_roundAt 36 = .ok (.aload_n 3, 1) := by decide +kernel
theorem dX9_roundAt_37 : decode cX9_roundAt 37 = .ok (.getfield 187, 3) := by decide +kernel
theorem dX9_roundAt_40 : decode cX9_roundAt 40 = .ok (.if_icmp .ge 41, 3) := by decide +kernel
theorem dX9_roundAt_43 : decode cX9_roundAt 43 = .ok (.aload_n 3, 1) := by decide +kernel
theorem dX9_roundAt_44 : decode cX9_roundAt 44 = .ok (.getfield 229, 3) := by decide +kernel
theorem dX9_roundAt_47 : decode cX9_roundAt 47 = .ok (.iload 5, 2) := by decide +kernel
theorem dX9_roundAt_49 : decode cX9_roundAt 49 = .ok (.iaload, 1) := by decide +kernel
theorem dX9_roundAt_50 : decode cX9_roundAt 50 = .ok (.istore 6, 2) := by decide +kernel
theorem dX9_roundAt_52 : decode cX9_roundAt 52 = .ok (.aload_n 3, 1) := by decide +kernel
theorem dX9_roundAt_53 : decode cX9_roundAt 53 = .ok (.getfield 138, 3) := by decide +kernel
theorem dX9_roundAt_56 : decode cX9_roundAt 56 = .ok (.iload 6, 2) := by decide +kernel
theorem dX9_roundAt_58 : decode cX9_roundAt 58 = .ok (.iaload, 1) := by decide +kernel
theorem dX9_roundAt_59 : decode cX9_roundAt 59 = .ok (.iload_n 1, 1) := by decide +kernel
theorem dX9_roundAt_60 : decode cX9_roundAt 60 = .ok (.if_icmp .ne 15, 3) := by decide +kernel
theorem dX9_roundAt_63 : decode cX9_roundAt 63 = .ok (.iload 4, 2) := by decide +kernel
theorem dX9_roundAt_65 : decode cX9_roundAt 65 = .ok (.iload_n 2, 1) := by decide +kernel
theorem dX9_roundAt_66 : decode cX9_roundAt 66 = .ok (.if_icmp .ne 6, 3) := by decide +kernel
theorem dX9_roundAt_69 : decode cX9_roundAt 69 = .ok (.iload 6, 2) := by decide +kernel
theorem dX9_roundAt_71 : decode cX9_roundAt 71 = .ok (.ireturn, 1) := by decide +kernel
theorem dX9_roundAt_72 : decode cX9_roundAt 72 = .ok (.iinc 4 1, 3) := by decide +kernel
theorem dX9_roundAt_75 : decode cX9_roundAt 75 = .ok (.iinc 5 1, 3) := by decide +kernel
theorem dX9_roundAt_78 : decode cX9_roundAt 78 = .ok (.goto (-44), 3) := by decide +kernel
theorem dX9_roundAt_81 : decode cX9_roundAt 81 = .ok (.bipush (-4), 2) := by decide +kernel
theorem dX9_roundAt_83 : decode cX9_roundAt 83 = .ok (.ireturn, 1) := by decide +kernel
theorem dX9_round_0 : decode cX9_round 0 = .ok (.aload_n 0, 1) := by decide +kernel
theorem dX9_round_1 : decode cX9_round 1 = .ok (.getfield 10, 3) := by decide +kernel
theorem dX9_round_4 : decode cX9_round 4 = .ok (.getfield 190, 3) := by decide +kernel
theorem dX9_round_7 : decode cX9_round 7 = .ok (.iload_n 1, 1) := by decide +kernel
theorem dX9_round_8 : decode cX9_round 8 = .ok (.invokevirtual 194, 3) := by decide +kernel
theorem dX9_round_11 : decode cX9_round 11 = .ok (.ifCond .eq 29, 3) := by decide +kernel
theorem dX9_round_14 : decode cX9_round 14 = .ok (.iload_n 2, 1) := by decide +kernel
theorem dX9_round_15 : decode cX9_round 15 = .ok (.aload_n 0, 1) := by decide +kernel
theorem dX9_round_16 : decode cX9_round 16 = .ok (.getfield 10, 3) := by decide +kernel
theorem dX9_round_19 : decode cX9_round 19 = .ok (.getfield 148, 3) := by decide +kernel
theorem dX9_round_22 : decode cX9_round 22 = .ok (.sipush 999, 3) := by decide +kernel
theorem dX9_round_25 : decode cX9_round 25 = .ok (.invokestatic 96, 3) := by decide +kernel
theorem dX9_round_28 : decode cX9_round 28 = .ok (.ifCond .eq 12, 3) := by decide +kernel
theorem dX9_round_31 : decode cX9_round 31 = .ok (.iload_n 3, 1) := by decide +kernel
theorem dX9_round_32 : decode cX9_round 32 = .ok (.iconst 0, 1) := by decide +kernel
theorem dX9_round_33 : decode cX9_round 33 = .ok (.iconst 3, 1) := by decide +kernel
theorem dX9_round_34 : decode cX9_round 34 = .ok (.invokestatic 96, 3) := by decide +kernel
theorem dX9_round_37 : decode cX9_round 37 = .ok (.ifCond .ne 5, 3) := by decide +kernel
theorem dX9_round_40 : decode cX9_round 40 = .ok (.iconst (-1), 1) := by decide +kernel
theorem dX9_round_41 : decode cX9_round 41 = .ok (.ireturn, 1) := by decide +kernel
theorem dX9_round_42 : decode cX9_round 42 = .ok (.aload_n 0, 1) := by decide +kernel
theorem dX9_round_43 : decode cX9_round 43 = .ok (.getfield 26, 3) := by decide +kernel
theorem dX9_round_46 : decode cX9_round 46 = .ok (.aload_n 0, 1) := by decide +kernel
theorem dX9_round_47 : decode cX9_round 47 = .ok (.getfield 10, 3) := by decide +kernel
theorem dX9_round_50 : decode cX9_round 50 = .ok (.iload_n 1, 1) := by decide +kernel
theorem dX9_round_51 : decode cX9_round 51 = .ok (.iload_n 2, 1) := by decide +kernel
theorem dX9_round_52 : decode cX9_round 52 = .ok (.iconst (-1), 1) := by decide +kernel
theorem dX9_round_53 : decode cX9_round 53 = .ok (.invokevirtual 232, 3) := by decide +kernel
theorem dX9_round_56 : decode cX9_round 56 = .ok (.iload_n 3, 1) := by decide +kernel
theorem dX9_round_57 : decode cX9_round 57 = .ok (.tableswitch 51 0 2 #[27, 35, 43], 27) := by decide +kernel
theorem dX9_round_84 : decode cX9_round 84 = .ok (.aload_n 0, 1) := by decide +kernel
theorem dX9_round_85 : decode cX9_round 85 = .ok (.getfield 26, 3) := by decide +kernel
theorem dX9_round_88 : decode cX9_round 88 = .ok (.getfield 236, 3) := by decide +kernel
theorem dX9_round_91 : decode cX9_round 91 = .ok (.ireturn, 1) := by decide +kernel
theorem dX9_round_92 : decode cX9_round 92 = .ok (.aload_n 0, 1) := by decide +kernel
theorem dX9_round_93 : decode cX9_round 93 = .ok (.getfield 26, 3) := by decide +kernel
theorem dX9_round_96 : decode cX9_round 96 = .ok (.getfield 238, 3) := by decide +kernel
theorem dX9_round_99 : decode cX9_round 99 = .ok (.ireturn, 1) := by decide +kernel
theorem dX9_round_100 : decode cX9_round 100 = .ok (.aload_n 0, 1) := by decide +kernel
theorem dX9_round_101 : decode cX9_round 101 = .ok (.getfield 26, 3) := by decide +kernel
theorem dX9_round_104 : decode cX9_round 104 = .ok (.getfield 240, 3) := by decide +kernel
theorem dX9_round_107 : decode cX9_round 107 = .ok (.ireturn, 1) := by decide +kernel
theorem dX9_round_108 : decode cX9_round 108 = .ok (.aload_n 0, 1) := by decide +kernel
theorem dX9_round_109 : decode cX9_round 109 = .ok (.getfield 26, 3) := by decide +kernel
theorem dX9_round_112 : decode cX9_round 112 = .ok (.getfield 242, 3) := by decide +kernel
theorem dX9_round_115 : decode cX9_round 115 = .ok (.ireturn, 1) := by decide +kernel
theorem dX9_lightest_0 : decode cX9_lightest 0 = .ok (.aload_n 0, 1) := by decide +kernel
theorem dX9_lightest_1 : decode cX9_lightest 1 = .ok (.getfield 10, 3) := by decide +kernel
theorem dX9_lightest_4 : decode cX9_lightest 4 = .ok (.getfield 122, 3) := by decide +kernel
theorem dX9_lightest_7 : decode cX9_lightest 7 = .ok (.iload_n 1, 1) := by decide +kernel
theorem dX9_lightest_8 : decode cX9_lightest 8 = .ok (.invokevirtual 126, 3) := by decide +kernel
theorem dX9_lightest_11 : decode cX9_lightest 11 = .ok (.ifCond .eq 20, 3) := by decide +kernel
theorem dX9_lightest_14 : decode cX9_lightest 14 = .ok (.iload_n 2, 1) := by decide +kernel
theorem dX9_lightest_15 : decode cX9_lightest 15 = .ok (.aload_n 0, 1) := by decide +kernel
theorem dX9_lightest_16 : decode cX9_lightest 16 = .ok (.getfield 10, 3) := by decide +kernel
theorem dX9_lightest_19 : decode cX9_lightest 19 = .ok (.getfield 148, 3) := by decide +kernel
theorem dX9_lightest_22 : decode cX9_lightest 22 = .ok (.sipush 999, 3) := by decide +kernel
theorem dX9_lightest_25 : decode cX9_lightest 25 = .ok (.invokestatic 96, 3) := by decide +kernel
theorem dX9_lightest_28 : decode cX9_lightest 28 = .ok (.ifCond .ne 5, 3) := by decide +kernel
theorem dX9_lightest_31 : decode cX9_lightest 31 = .ok (.iconst (-1), 1) := by decide +kernel
theorem dX9_lightest_32 : decode cX9_lightest 32 = .ok (.ireturn, 1) := by decide +kernel
theorem dX9_lightest_33 : decode cX9_lightest 33 = .ok (.bipush (-4), 2) := by decide +kernel
theorem dX9_lightest_35 : decode cX9_lightest 35 = .ok (.istore_n 3, 1) := by decide +kernel
theorem dX9_lightest_36 : decode cX9_lightest 36 = .ok (.iconst 0, 1) := by decide +kernel
theorem dX9_lightest_37 : decode cX9_lightest 37 = .ok (.istore 4, 2) := by decide +kernel
theorem dX9_lightest_39 : decode cX9_lightest 39 = .ok (.iconst 0, 1) := by decide +kernel
theorem dX9_lightest_40 : decode cX9_lightest 40 = .ok (.istore 5, 2) := by decide +kernel
theorem dX9_lightest_42 : decode cX9_lightest 42 = .ok (.iload 5, 2) := by decide +kernel
theorem dX9_lightest_44 : decode cX9_lightest 44 = .ok (.aload_n 0, 1) := by decide +kernel
theorem dX9_lightest_45 : decode cX9_lightest 45 = .ok (.getfield 10, 3) := by decide +kernel
theorem dX9_lightest_48 : decode cX9_lightest 48 = .ok (.getfield 190, 3) := by decide +kernel
theorem dX9_lightest_51 : decode cX9_lightest 51 = .ok (.getfield 245, 3) := by decide +kernel
theorem dX9_lightest_54 : decode cX9_lightest 54 = .ok (.if_icmp .ge 76, 3) := by decide +kernel
theorem dX9_lightest_57 : decode cX9_lightest 57 = .ok (.iload 5, 2) := by decide +kernel
theorem dX9_lightest_59 : decode cX9_lightest 59 = .ok (.aload_n 0, 1) := by decide +kernel
theorem dX9_lightest_60 : decode cX9_lightest 60 = .ok (.getfield 10, 3) := by decide +kernel
theorem dX9_lightest_63 : decode cX9_lightest 63 = .ok (.getfield 122, 3) := by decide +kernel
theorem dX9_lightest_66 : decode cX9_lightest 66 = .ok (.getfield 138, 3) := by decide +kernel
theorem dX9_lightest_69 : decode cX9_lightest 69 = .ok (.iload_n 1, 1) := by decide +kernel
theorem dX9_lightest_70 : decode cX9_lightest 70 = .ok (.iaload, 1) := by decide +kernel
theorem dX9_lightest_71 : decode cX9_lightest 71 = .ok (.if_icmp .eq 53, 3) := by decide +kernel
theorem dX9_lightest_74 : decode cX9_lightest 74 = .ok (.aload_n 0, 1) := by decide +kernel
theorem dX9_lightest_75 : decode cX9_lightest 75 = .ok (.getfield 10, 3) := by decide +kernel
theorem dX9_lightest_78 : decode cX9_lightest 78 = .ok (.iload 5, 2) := by decide +kernel
theorem dX9_lightest_80 : decode cX9_lightest 80 = .ok (.iload_n 1, 1) := by decide +kernel
theorem dX9_lightest_81 : decode cX9_lightest 81 = .ok (.invokevirtual 246, 3) := by decide +kernel
theorem dX9_lightest_84 : decode cX9_lightest 84 = .ok (.ifCond .eq 40, 3) := by decide +kernel
theorem dX9_lightest_87 : decode cX9_lightest 87 = .ok (.aload_n 0, 1) := by decide +kernel
theorem dX9_lightest_88 : decode cX9_lightest 88 = .ok (.getfield 26, 3) := by decide +kernel
theorem dX9_lightest_91 : decode cX9_lightest 91 = .ok (.aload_n 0, 1) := by decide +kernel
theorem dX9_lightest_92 : decode cX9_lightest 92 = .ok (.getfield 10, 3) := by decide +kernel
theorem dX9_lightest_95 : decode cX9_lightest 95 = .ok (.iload 5, 2) := by decide +kernel
theorem dX9_lightest_97 : decode cX9_lightest 97 = .ok (.iload_n 2, 1) := by decide +kernel
theorem dX9_lightest_98 : decode cX9_lightest 98 = .ok (.iload_n 1, 1) := by decide +kernel
theorem dX9_lightest_99 : decode cX9_lightest 99 = .ok (.invokevirtual 249, 3) := by decide +kernel
theorem dX9_lightest_102 : decode cX9_lightest 102 = .ok (.istore 6, 2) := by decide +kernel
theorem dX9_lightest_104 : decode cX9_lightest 104 = .ok (.iload_n 3, 1) := by decide +kernel
theorem dX9_lightest_105 : decode cX9_lightest 105 = .ok (.bipush (-4), 2) := by decide +kernel
theorem dX9_lightest_107 : decode cX9_lightest 107 = .ok (.if_icmp .eq 10, 3) := by decide +kernel
theorem dX9_lightest_110 : decode cX9_lightest 110 = .ok (.iload 6, 2) := by decide +kernel
theorem dX9_lightest_112 : decode cX9_lightest 112 = .ok (.iload 4, 2) := by decide +kernel
theorem dX9_lightest_114 : decode cX9_lightest 114 = .ok (.if_icmp .ge 10, 3) := by decide +kernel
theorem dX9_lightest_117 : decode cX9_lightest 117 = .ok (.iload 5, 2) := by decide +kernel
theorem dX9_lightest_119 : decode cX9_lightest 119 = .ok (.istore_n 3, 1) := by decide +kernel
theorem dX9_lightest_120 : decode cX9_lightest 120 = .ok (.iload 6, 2) := by decide +kernel
theorem dX9_lightest_122 : decode cX9_lightest 122 = .ok (.istore 4, 2) := by decide +kernel
theorem dX9_lightest_124 : decode cX9_lightest 124 = .ok (.iinc 5 1, 3) := by decide +kernel
theorem dX9_lightest_127 : decode cX9_lightest 127 = .ok (.goto (-85), 3) := by decide +kernel
theorem dX9_lightest_130 : decode cX9_lightest 130 = .ok (.iload_n 3, 1) := by decide +kernel
theorem dX9_lightest_131 : decode cX9_lightest 131 = .ok (.ireturn, 1) := by decide +kernel
theorem dX9_nextDog_0 : decode cX9_nextDog 0 = .ok (.aload_n 0, 1) := by decide +kernel
theorem dX9_nextDog_1 : decode cX9_nextDog 1 = .ok (.getfield 10, 3) := by decide +kernel
theorem dX9_nextDog_4 : decode cX9_nextDog 4 = .ok (.getfield 122, 3) := by decide +kernel
theorem dX9_nextDog_7 : decode cX9_nextDog 7 = .ok (.iload_n 1, 1) := by decide +kernel
theorem dX9_nextDog_8 : decode cX9_nextDog 8 = .ok (.invokevirtual 126, 3) := by decide +kernel
theorem dX9_nextDog_11 : decode cX9_nextDog 11 = .ok (.ifCond .ne 5, 3) := by decide +kernel
theorem dX9_nextDog_14 : decode cX9_nextDog 14 = .ok (.iconst (-1), 1) := by decide +kernel
theorem dX9_nextDog_15 : decode cX9_nextDog 15 = .ok (.ireturn, 1) := by decide +kernel
theorem dX9_nextDog_16 : decode cX9_nextDog 16 = .ok (.aload_n 0, 1) := by decide +kernel
theorem dX9_nextDog_17 : decode cX9_nextDog 17 = .ok (.getfield 10, 3) := by decide +kernel
theorem dX9_nextDog_20 : decode cX9_nextDog 20 = .ok (.getfield 148, 3) := by decide +kernel
theorem dX9_nextDog_23 : decode cX9_nextDog 23 = .ok (.istore_n 2, 1) := by decide +kernel
theorem dX9_nextDog_24 : decode cX9_nextDog 24 = .ok (.iload_n 2, 1) := by decide +kernel
theorem dX9_nextDog_25 : decode cX9_nextDog 25 = .ok (.sipush 999, 3) := by decide +kernel
theorem dX9_nextDog_28 : decode cX9_nextDog 28 = .ok (.if_icmp .gt 41, 3) := by decide +kernel
theorem dX9_nextDog_31 : decode cX9_nextDog 31 = .ok (.aload_n 0, 1) := by decide +kernel
theorem dX9_nextDog_32 : decode cX9_nextDog 32 = .ok (.getfield 10, 3) := by decide +kernel
theorem dX9_nextDog_35 : decode cX9_nextDog 35 = .ok (.getfield 122, 3) := by decide +kernel
theorem dX9_nextDog_38 : decode cX9_nextDog 38 = .ok (.iload_n 1, 1) := by decide +kernel
theorem dX9_nextDog_39 : decode cX9_nextDog 39 = .ok (.iload_n 2, 1) := by decide +kernel
theorem dX9_nextDog_40 : decode cX9_nextDog 40 = .ok (.invokevirtual 253, 3) := by decide +kernel
theorem dX9_nextDog_43 : decode cX9_nextDog 43 = .ok (.ifCond .eq 20, 3) := by decide +kernel
theorem dX9_nextDog_46 : decode cX9_nextDog 46 = .ok (.aload_n 0, 1) := by decide +kernel
theorem dX9_nextDog_47 : decode cX9_nextDog 47 = .ok (.getfield 10, 3) := by decide +kernel
theorem dX9_nextDog_50 : decode cX9_nextDog 50 = .ok (.getfield 144, 3) := by decide +kernel
theorem dX9_nextDog_53 : decode cX9_nextDog 53 = .ok (.iload_n 1, 1) := by decide +kernel
theorem dX9_nextDog_54 : decode cX9_nextDog 54 = .ok (.iload_n 2, 1) := by decide +kernel
theorem dX9_nextDog_55 : decode cX9_nextDog 55 = .ok (.invokevirtual 152, 3) := by decide +kernel
theorem dX9_nextDog_58 : decode cX9_nextDog 58 = .ok (.ifCond .ne 5, 3) := by decide +kernel
theorem dX9_nextDog_61 : decode cX9_nextDog 61 = .ok (.iload_n 2, 1) := by decide +kernel
theorem dX9_nextDog_62 : decode cX9_nextDog 62 = .ok (.ireturn, 1) := by decide +kernel
theorem dX9_nextDog_63 : decode cX9_nextDog 63 = .ok (.iinc 2 1, 3) := by decide +kernel
theorem dX9_nextDog_66 : decode cX9_nextDog 66 = .ok (.goto (-42), 3) := by decide +kernel
theorem dX9_nextDog_69 : decode cX9_nextDog 69 = .ok (.bipush (-4), 2) := by decide +kernel
theorem dX9_nextDog_71 : decode cX9_nextDog 71 = .ok (.ireturn, 1) := by decide +kernel
theorem dX9_account_0 : decode cX9_account 0 = .ok (.iload_n 1, 1) := by decide +kernel
theorem dX9_account_1 : decode cX9_account 1 = .ok (.iconst 0, 1) := by decide +kernel
theorem dX9_account_2 : decode cX9_account 2 = .ok (.iconst 5, 1) := by decide +kernel
theorem dX9_account_3 : decode cX9_account 3 = .ok (.invokestatic 96, 3) := by decide +kernel
theorem dX9_account_6 : decode cX9_account 6 = .ok (.ifCond .ne 5, 3) := by decide +kernel
theorem dX9_account_9 : decode cX9_account 9 = .ok (.iconst (-1), 1) := by decide +kernel
theorem dX9_account_10 : decode cX9_account 10 = .ok (.ireturn, 1) := by decide +kernel
theorem dX9_account_11 : decode cX9_account 11 = .ok (.aload_n 0, 1) := by decide +kernel
theorem dX9_account_12 : decode cX9_account 12 = .ok (.getfield 10, 3) := by decide +kernel
theorem dX9_account_15 : decode cX9_account 15 = .ok (.getfield 256, 3) := by decide +kernel
theorem dX9_account_18 : decode cX9_account 18 = .ok (.iload_n 1, 1) := by decide +kernel
theorem dX9_account_19 : decode cX9_account 19 = .ok (.iaload, 1) := by decide +kernel
theorem dX9_account_20 : decode cX9_account 20 = .ok (.ireturn, 1) := by decide +kernel
theorem dX9_count_0 : decode cX9_count 0 = .ok (.iload_n 1, 1) := by decide +kernel
theorem dX9_count_1 : decode cX9_count 1 = .ok (.tableswitch 229 0 21 #[103, 114, 125, 136, 147, 155, 167, 175, 186, 197, 205, 229, 229, 229, 229, 229, 229, 229, 229, 229, 213, 221], 103) := by decide +kernel
theorem dX9_count_104 : decode cX9_count 104 = .ok (.aload_n 0, 1) := by decide +kernel
theorem dX9_count_105 : decode cX9_count 105 = .ok (.getfield 10, 3) := by decide +kernel
theorem dX9_count_108 : decode cX9_count 108 = .ok (.getfield 86, 3) := by decide +kernel
theorem dX9_count_111 : decode cX9_count 111 = .ok (.getfield 259, 3) := by decide +kernel
theorem dX9_count_114 : decode cX9_count 114 = .ok (.ireturn, 1) := by decide +kernel
theorem dX9_count_115 : decode cX9_count 115 = .ok (.aload_n 0, 1) := by decide +kernel
theorem dX9_count_116 : decode cX9_count 116 = .ok (.getfield 10, 3) := by decide +kernel
theorem dX9_count_119 : decode cX9_count 119 = .ok (.getfield 122, 3) := by decide +kernel
theorem dX9_count_122 : decode cX9_count 122 = .ok (.getfield 187, 3) := by decide +kernel
theorem dX9_count_125 : decode cX9_count 125 = .ok (.ireturn, 1) := by decide +kernel
theorem dX9_count_126 : decode cX9_count 126 = .ok (.aload_n 0, 1) := by decide +kernel
theorem dX9_count_127 : decode cX9_count 127 = .ok (.getfield 10, 3) := by decide +kernel
theorem dX9_count_130 : decode cX9_count 130 = .ok (.getfield 190, 3) := by decide +kernel
theorem dX9_count_133 : decode cX9_count 133 = .ok (.getfield 245, 3) := by decide +kernel
theorem dX9_count_136 : decode cX9_count 136 = .ok (.ireturn, 1) := by decide +kernel
theorem dX9_count_137 : decode cX9_count 137 = .ok (.aload_n 0, 1) := by decide +kernel
theorem dX9_count_138 : decode cX9_count 138 = .ok (.getfield 10, 3) := by decide +kernel
theorem dX9_count_141 : decode cX9_count 141 = .ok (.getfield 144, 3) := by decide +kernel
theorem dX9_count_144 : decode cX9_count 144 = .ok (.getfield 219, 3) := by decide +kernel
theorem dX9_count_147 : decode cX9_count 147 = .ok (.ireturn, 1) := by decide +kernel
theorem dX9_count_148 : decode cX9_count 148 = .ok (.aload_n 0, 1) := by decide +kernel
theorem dX9_count_149 : decode cX9_count 149 = .ok (.getfield 10, 3) := by decide +kernel
theorem dX9_count_152 : decode cX9_count 152 = .ok (.getfield 148, 3) := by decide +kernel
theorem dX9_count_155 : decode cX9_count 155 = .ok (.ireturn, 1) := by decide +kernel
theorem dX9_count_156 : decode cX9_count 156 = .ok (.aload_n 0, 1) := by decide +kernel
theorem dX9_count_157 : decode cX9_count 157 = .ok (.getfield 10, 3) := by decide +kernel
theorem dX9_count_160 : decode cX9_count 160 = .ok (.getfield 122, 3) := by decide +kernel
theorem dX9_count_163 : decode cX9_count 163 = .ok (.iconst (-1), 1) := by decide +kernel
theorem dX9_count_164 : decode cX9_count 164 = .ok (.invokevirtual 206, 3) := by decide +kernel
theorem dX9_count_167 : decode cX9_count 167 = .ok (.ireturn, 1) := by decide +kernel
theorem dX9_count_168 : decode cX9_count 168 = .ok (.aload_n 0, 1) := by decide +kernel
theorem dX9_count_169 : decode cX9_count 169 = .ok (.getfield 10, 3) := by decide +kernel
theorem dX9_count_172 : decode cX9_count 172 = .ok (.invokevirtual 260, 3) := by decide +kernel
theorem dX9_count_175 : decode cX9_count 175 = .ok (.ireturn, 1) := by decide +kernel
theorem dX9_count_176 : decode cX9_count 176 = .ok (.aload_n 0, 1) := by decide +kernel
theorem dX9_count_177 : decode cX9_count 177 = .ok (.getfield 10, 3) := by decide +kernel
theorem dX9_count_180 : decode cX9_count 180 = .ok (.getfield 122, 3) := by decide +kernel
theorem dX9_count_183 : decode cX9_count 183 = .ok (.invokevirtual 264, 3) := by decide +kernel
theorem dX9_count_186 : decode cX9_count 186 = .ok (.ireturn, 1) := by decide +kernel
theorem dX9_count_187 : decode cX9_count 187 = .ok (.aload_n 0, 1) := by decide +kernel
theorem dX9_count_188 : decode cX9_count 188 = .ok (.getfield 10, 3) := by decide +kernel
theorem dX9_count_191 : decode cX9_count 191 = .ok (.getfield 190, 3) := by decide +kernel
theorem dX9_count_194 : decode cX9_count 194 = .ok (.invokevirtual 267, 3) := by decide +kernel
theorem dX9_count_197 : decode cX9_count 197 = .ok (.ireturn, 1) := by decide +kernel
theorem dX9_count_198 : decode cX9_count 198 = .ok (.aload_n 0, 1) := by decide +kernel
theorem dX9_count_199 : decode cX9_count 199 = .ok (.getfield 19, 3) := by decide +kernel
theorem dX9_count_202 : decode cX9_count 202 = .ok (.getfield 270, 3) := by decide +kernel
theorem dX9_count_205 : decode cX9_count 205 = .ok (.ireturn, 1) := by decide +kernel
theorem dX9_count_206 : decode cX9_count 206 = .ok (.aload_n 0, 1) := by decide +kernel
theorem dX9_count_207 : decode cX9_count 207 = .ok (.getfield 33, 3) := by decide +kernel
theorem dX9_count_210 : decode cX9_count 210 = .ok (.getfield 273, 3) := by decide +kernel
theorem dX9_count_213 : decode cX9_count 213 = .ok (.ireturn, 1) := by decide +kernel
theorem dX9_count_214 : decode cX9_count 214 = .ok (.aload_n 0, 1) := by decide +kernel
theorem dX9_count_215 : decode cX9_count 215 = .ok (.getfield 10, 3) := by decide +kernel
theorem dX9_count_218 : decode cX9_count 218 = .ok (.getfield 275, 3) := by decide +kernel
theorem dX9_count_221 : decode cX9_count 221 = .ok (.ireturn, 1) := by decide +kernel
theorem dX9_count_222 : decode cX9_count 222 = .ok (.aload_n 0, 1) := by decide +kernel
theorem dX9_count_223 : decode cX9_count 223 = .ok (.getfield 10, 3) := by decide +kernel
theorem dX9_count_226 : decode cX9_count 226 = .ok (.getfield 278, 3) := by decide +kernel
theorem dX9_count_229 : decode cX9_count 229 = .ok (.ireturn, 1) := by decide +kernel
theorem dX9_count_230 : decode cX9_count 230 = .ok (.iconst (-1), 1) := by decide +kernel
theorem dX9_count_231 : decode cX9_count 231 = .ok (.ireturn, 1) := by decide +kernel
theorem dX9_undo_0 : decode cX9_undo 0 = .ok (.aload_n 0, 1) := by decide +kernel
theorem dX9_undo_1 : decode cX9_undo 1 = .ok (.getfield 19, 3) := by decide +kernel
theorem dX9_undo_4 : decode cX9_undo 4 = .ok (.getfield 270, 3) := by decide +kernel
theorem dX9_undo_7 : decode cX9_undo 7 = .ok (.ifCond .ne 6, 3) := by decide +kernel
theorem dX9_undo_10 : decode cX9_undo 10 = .ok (.bipush (-2), 2) := by decide +kernel
theorem dX9_undo_12 : decode cX9_undo 12 = .ok (.ireturn, 1) := by decide +kernel
theorem dX9_undo_13 : decode cX9_undo 13 = .ok (.aload_n 0, 1) := by decide +kernel
theorem dX9_undo_14 : decode cX9_undo 14 = .ok (.getfield 19, 3) := by decide +kernel
theorem dX9_undo_17 : decode cX9_undo 17 = .ok (.aload_n 0, 1) := by decide +kernel
theorem dX9_undo_18 : decode cX9_undo 18 = .ok (.getfield 10, 3) := by decide +kernel
theorem dX9_undo_21 : decode cX9_undo 21 = .ok (.invokevirtual 281, 3) := by decide +kernel
theorem dX9_undo_24 : decode cX9_undo 24 = .ok (.aload_n 0, 1) := by decide +kernel
theorem dX9_undo_25 : decode cX9_undo 25 = .ok (.getfield 19, 3) := by decide +kernel
theorem dX9_undo_28 : decode cX9_undo 28 = .ok (.getfield 270, 3) := by decide +kernel
theorem dX9_undo_31 : decode cX9_undo 31 = .ok (.ireturn, 1) := by decide +kernel
theorem dX9_type_0 : decode cX9_type 0 = .ok (.iload_n 1, 1) := by decide +kernel
theorem dX9_type_1 : decode cX9_type 1 = .ok (.bipush 32, 2) := by decide +kernel
theorem dX9_type_3 : decode cX9_type 3 = .ok (.bipush 126, 2) := by decide +kernel
theorem dX9_type_5 : decode cX9_type 5 = .ok (.invokestatic 96, 3) := by decide +kernel
theorem dX9_type_8 : decode cX9_type 8 = .ok (.ifCond .ne 5, 3) := by decide +kernel
theorem dX9_type_11 : decode cX9_type 11 = .ok (.iconst (-1), 1) := by decide +kernel
theorem dX9_type_12 : decode cX9_type 12 = .ok (.ireturn, 1) := by decide +kernel
theorem dX9_type_13 : decode cX9_type 13 = .ok (.aload_n 0, 1) := by decide +kernel
theorem dX9_type_14 : decode cX9_type 14 = .ok (.getfield 33, 3) := by decide +kernel
theorem dX9_type_17 : decode cX9_type 17 = .ok (.iload_n 1, 1) := by decide +kernel
theorem dX9_type_18 : decode cX9_type 18 = .ok (.i2c, 1) := by decide +kernel
theorem dX9_type_19 : decode cX9_type 19 = .ok (.invokevirtual 284, 3) := by decide +kernel
theorem dX9_type_22 : decode cX9_type 22 = .ok (.ireturn, 1) := by decide +kernel
theorem dX9_fault_0 : decode cX9_fault 0 = .ok (.iload_n 1, 1) := by decide +kernel
theorem dX9_fault_1 : decode cX9_fault 1 = .ok (.iconst 0, 1) := by decide +kernel
theorem dX9_fault_2 : decode cX9_fault 2 = .ok (.iconst 2, 1) := by decide +kernel
theorem dX9_fault_3 : decode cX9_fault 3 = .ok (.invokestatic 96, 3) := by decide +kernel
theorem dX9_fault_6 : decode cX9_fault 6 = .ok (.ifCond .ne 5, 3) := by decide +kernel
theorem dX9_fault_9 : decode cX9_fault 9 = .ok (.iconst (-1), 1) := by decide +kernel
theorem dX9_fault_10 : decode cX9_fault 10 = .ok (.ireturn, 1) := by decide +kernel
theorem dX9_fault_11 : decode cX9_fault 11 = .ok (.aload_n 0, 1) := by decide +kernel
theorem dX9_fault_12 : decode cX9_fault 12 = .ok (.getfield 40, 3) := by decide +kernel
theorem dX9_fault_15 : decode cX9_fault 15 = .ok (.aload_n 0, 1) := by decide +kernel
theorem dX9_fault_16 : decode cX9_fault 16 = .ok (.getfield 10, 3) := by decide +kernel
theorem dX9_fault_19 : decode cX9_fault 19 = .ok (.aload_n 0, 1) := by decide +kernel
theorem dX9_fault_20 : decode cX9_fault 20 = .ok (.getfield 33, 3) := by decide +kernel
theorem dX9_fault_23 : decode cX9_fault 23 = .ok (.aload_n 0, 1) := by decide +kernel
theorem dX9_fault_24 : decode cX9_fault 24 = .ok (.getfield 26, 3) := by decide +kernel
theorem dX9_fault_27 : decode cX9_fault 27 = .ok (.invokevirtual 288, 3) := by decide +kernel
theorem dX9_fault_30 : decode cX9_fault 30 = .ok (.aload_n 0, 1) := by decide +kernel
theorem dX9_fault_31 : decode cX9_fault 31 = .ok (.getfield 40, 3) := by decide +kernel
theorem dX9_fault_34 : decode cX9_fault 34 = .ok (.getfield 292, 3) := by decide +kernel
theorem dX9_fault_37 : decode cX9_fault 37 = .ok (.ifCond .eq 19, 3) := by decide +kernel
theorem dX9_fault_40 : decode cX9_fault 40 = .ok (.iload_n 1, 1) := by decide +kernel
theorem dX9_fault_41 : decode cX9_fault 41 = .ok (.iconst 2, 1) := by decide +kernel
theorem dX9_fault_42 : decode cX9_fault 42 = .ok (.if_icmp .ne 17, 3) := by decide +kernel
theorem dX9_fault_45 : decode cX9_fault 45 = .ok (.aload_n 0, 1) := by decide +kernel
theorem dX9_fault_46 : decode cX9_fault 46 = .ok (.getfield 40, 3) := by decide +kernel
theorem dX9_fault_49 : decode cX9_fault 49 = .ok (.getfield 292, 3) := by decide +kernel
theorem dX9_fault_52 : decode cX9_fault 52 = .ok (.iconst 1, 1) := by decide +kernel
theorem dX9_fault_53 : decode cX9_fault 53 = .ok (.if_icmp .ne 6, 3) := by decide +kernel
theorem dX9_fault_56 : decode cX9_fault 56 = .ok (.bipush (-4), 2) := by decide +kernel
theorem dX9_fault_58 : decode cX9_fault 58 = .ok (.ireturn, 1) := by decide +kernel
theorem dX9_fault_59 : decode cX9_fault 59 = .ok (.iload_n 1, 1) := by decide +kernel
theorem dX9_fault_60 : decode cX9_fault 60 = .ok (.lookupswitch 44 #[(0, 28), (1, 36)], 28) := by decide +kernel
theorem dX9_fault_88 : decode cX9_fault 88 = .ok (.aload_n 0, 1) := by decide +kernel
theorem dX9_fault_89 : decode cX9_fault 89 = .ok (.getfield 40, 3) := by decide +kernel
theorem dX9_fault_92 : decode cX9_fault 92 = .ok (.getfield 295, 3) := by decide +kernel
theorem dX9_fault_95 : decode cX9_fault 95 = .ok (.ireturn, 1) := by decide +kernel
theorem dX9_fault_96 : decode cX9_fault 96 = .ok (.aload_n 0, 1) := by decide +kernel
theorem dX9_fault_97 : decode cX9_fault 97 = .ok (.getfield 40, 3) := by decide +kernel
theorem dX9_fault_100 : decode cX9_fault 100 = .ok (.getfield 292, 3) := by decide +kernel
theorem dX9_fault_103 : decode cX9_fault 103 = .ok (.ireturn, 1) := by decide +kernel
theorem dX9_fault_104 : decode cX9_fault 104 = .ok (.aload_n 0, 1) := by decide +kernel
theorem dX9_fault_105 : decode cX9_fault 105 = .ok (.getfield 40, 3) := by decide +kernel
theorem dX9_fault_108 : decode cX9_fault 108 = .ok (.getfield 298, 3) := by decide +kernel
theorem dX9_fault_111 : decode cX9_fault 111 = .ok (.ireturn, 1) := by decide +kernel
theorem dX9_play_0 : decode cX9_play 0 = .ok (.aload_n 0, 1) := by decide +kernel
theorem dX9_play_1 : decode cX9_play 1 = .ok (.getfield 40, 3) := by decide +kernel
theorem dX9_play_4 : decode cX9_play 4 = .ok (.aload_n 0, 1) := by decide +kernel
theorem dX9_play_5 : decode cX9_play 5 = .ok (.getfield 10, 3) := by decide +kernel
theorem dX9_play_8 : decode cX9_play 8 = .ok (.aload_n 0, 1) := by decide +kernel
theorem dX9_play_9 : decode cX9_play 9 = .ok (.getfield 33, 3) := by decide +kernel
theorem dX9_play_12 : decode cX9_play 12 = .ok (.aload_n 0, 1) := by decide +kernel
theorem dX9_play_13 : decode cX9_play 13 = .ok (.getfield 26, 3) := by decide +kernel
theorem dX9_play_16 : decode cX9_play 16 = .ok (.invokevirtual 288, 3) := by decide +kernel
theorem dX9_play_19 : decode cX9_play 19 = .ok (.aload_n 0, 1) := by decide +kernel
theorem dX9_play_20 : decode cX9_play 20 = .ok (.getfield 40, 3) := by decide +kernel
theorem dX9_play_23 : decode cX9_play 23 = .ok (.getfield 292, 3) := by decide +kernel
theorem dX9_play_26 : decode cX9_play 26 = .ok (.ifCond .eq 6, 3) := by decide +kernel
theorem dX9_play_29 : decode cX9_play 29 = .ok (.bipush (-2), 2) := by decide +kernel
theorem dX9_play_31 : decode cX9_play 31 = .ok (.ireturn, 1) := by decide +kernel
theorem dX9_play_32 : decode cX9_play 32 = .ok (.aload_n 0, 1) := by decide +kernel
theorem dX9_play_33 : decode cX9_play 33 = .ok (.getfield 19, 3) := by decide +kernel
theorem dX9_play_36 : decode cX9_play 36 = .ok (.aload_n 0, 1) := by decide +kernel
theorem dX9_play_37 : decode cX9_play 37 = .ok (.getfield 10, 3) := by decide +kernel
theorem dX9_play_40 : decode cX9_play 40 = .ok (.invokevirtual 44, 3) := by decide +kernel
theorem dX9_play_43 : decode cX9_play 43 = .ok (.aload_n 0, 1) := by decide +kernel
theorem dX9_play_44 : decode cX9_play 44 = .ok (.getfield 10, 3) := by decide +kernel
theorem dX9_play_47 : decode cX9_play 47 = .ok (.aload_n 0, 1) := by decide +kernel
theorem dX9_play_48 : decode cX9_play 48 = .ok (.getfield 40, 3) := by decide +kernel
theorem dX9_play_51 : decode cX9_play 51 = .ok (.getfield 301, 3) := by decide +kernel
theorem dX9_play_54 : decode cX9_play 54 = .ok (.invokevirtual 302, 3) := by decide +kernel
theorem dX9_play_57 : decode cX9_play 57 = .ok (.aload_n 0, 1) := by decide +kernel
theorem dX9_play_58 : decode cX9_play 58 = .ok (.aload_n 0, 1) := by decide +kernel
theorem dX9_play_59 : decode cX9_play 59 = .ok (.getfield 40, 3) := by decide +kernel
theorem dX9_play_62 : decode cX9_play 62 = .ok (.getfield 305, 3) := by decide +kernel
theorem dX9_play_65 : decode cX9_play 65 = .ok (.invokevirtual 52, 3) := by decide +kernel
theorem dX9_play_68 : decode cX9_play 68 = .ok (.ireturn, 1) := by decide +kernel
theorem dX9_settled_0 : decode cX9_settled 0 = .ok (.iload_n 1, 1) := by decide +kernel
theorem dX9_settled_1 : decode cX9_settled 1 = .ok (.ifCond .lt 10, 3) := by decide +kernel
theorem dX9_settled_4 : decode cX9_settled 4 = .ok (.aload_n 0, 1) := by decide +kernel
theorem dX9_settled_5 : decode cX9_settled 5 = .ok (.getfield 19, 3) := by decide +kernel
theorem dX9_settled_8 : decode cX9_settled 8 = .ok (.invokevirtual 308, 3) := by decide +kernel
theorem dX9_settled_11 : decode cX9_settled 11 = .ok (.iload_n 1, 1) := by decide +kernel
theorem dX9_settled_12 : decode cX9_settled 12 = .ok (.ireturn, 1) := by decide +kernel
theorem dX9_within_0 : decode cX9_within 0 = .ok (.iload_n 0, 1) := by decide +kernel
theorem dX9_within_1 : decode cX9_within 1 = .ok (.iload_n 1, 1) := by decide +kernel
theorem dX9_within_2 : decode cX9_within 2 = .ok (.if_icmp .lt 12, 3) := by decide +kernel
theorem dX9_within_5 : decode cX9_within 5 = .ok (.iload_n 0, 1) := by decide +kernel
theorem dX9_within_6 : decode cX9_within 6 = .ok (.iload_n 2, 1) := by decide +kernel
theorem dX9_within_7 : decode cX9_within 7 = .ok (.if_icmp .gt 7, 3) := by decide +kernel
theorem dX9_within_10 : decode cX9_within 10 = .ok (.iconst 1, 1) := by decide +kernel
theorem dX9_within_11 : decode cX9_within 11 = .ok (.goto 4, 3) := by decide +kernel
theorem dX9_within_14 : decode cX9_within 14 = .ok (.iconst 0, 1) := by decide +kernel
theorem dX9_within_15 : decode cX9_within 15 = .ok (.ireturn, 1) := by decide +kernel
theorem dX9_bitsOf_0 : decode cX9_bitsOf 0 = .ok (.fload_n 0, 1) := by decide +kernel
theorem dX9_bitsOf_1 : decode cX9_bitsOf 1 = .ok (.fconst 0, 1) := by decide +kernel
theorem dX9_bitsOf_2 : decode cX9_bitsOf 2 = .ok (.fcmp .l, 1) := by decide +kernel
theorem dX9_bitsOf_3 : decode cX9_bitsOf 3 = .ok (.ifCond .gt 5, 3) := by decide +kernel
theorem dX9_bitsOf_6 : decode cX9_bitsOf 6 = .ok (.iconst 0, 1) := by decide +kernel
theorem dX9_bitsOf_7 : decode cX9_bitsOf 7 = .ok (.ireturn, 1) := by decide +kernel
theorem dX9_bitsOf_8 : decode cX9_bitsOf 8 = .ok (.fload_n 0, 1) := by decide +kernel
theorem dX9_bitsOf_9 : decode cX9_bitsOf 9 = .ok (.fstore_n 1, 1) := by decide +kernel
theorem dX9_bitsOf_10 : decode cX9_bitsOf 10 = .ok (.bipush 127, 2) := by decide +kernel
theorem dX9_bitsOf_12 : decode cX9_bitsOf 12 = .ok (.istore_n 2, 1) := by decide +kernel
theorem dX9_bitsOf_13 : decode cX9_bitsOf 13 = .ok (.fload_n 1, 1) := by decide +kernel
theorem dX9_bitsOf_14 : decode cX9_bitsOf 14 = .ok (.fconst 1, 1) := by decide +kernel
theorem dX9_bitsOf_15 : decode cX9_bitsOf 15 = .ok (.fcmp .g, 1) := by decide +kernel
theorem dX9_bitsOf_16 : decode cX9_bitsOf 16 = .ok (.ifCond .ge 18, 3) := by decide +kernel
theorem dX9_bitsOf_19 : decode cX9_bitsOf 19 = .ok (.iload_n 2, 1) := by decide +kernel
theorem dX9_bitsOf_20 : decode cX9_bitsOf 20 = .ok (.iconst 1, 1) := by decide +kernel
theorem dX9_bitsOf_21 : decode cX9_bitsOf 21 = .ok (.if_icmp .le 13, 3) := by decide +kernel
theorem dX9_bitsOf_24 : decode cX9_bitsOf 24 = .ok (.fload_n 1, 1) := by decide +kernel
theorem dX9_bitsOf_25 : decode cX9_bitsOf 25 = .ok (.fconst 2, 1) := by decide +kernel
theorem dX9_bitsOf_26 : decode cX9_bitsOf 26 = .ok (.fmul, 1) := by decide +kernel
theorem dX9_bitsOf_27 : decode cX9_bitsOf 27 = .ok (.fstore_n 1, 1) := by decide +kernel
theorem dX9_bitsOf_28 : decode cX9_bitsOf 28 = .ok (.iinc 2 (-1), 3) := by decide +kernel
theorem dX9_bitsOf_31 : decode cX9_bitsOf 31 = .ok (.goto (-18), 3) := by decide +kernel
theorem dX9_bitsOf_34 : decode cX9_bitsOf 34 = .ok (.fload_n 1, 1) := by decide +kernel
theorem dX9_bitsOf_35 : decode cX9_bitsOf 35 = .ok (.ldc_w 311, 3) := by decide +kernel
theorem dX9_bitsOf_38 : decode cX9_bitsOf 38 = .ok (.fmul, 1) := by decide +kernel
theorem dX9_bitsOf_39 : decode cX9_bitsOf 39 = .ok (.f2i, 1) := by decide +kernel
theorem dX9_bitsOf_40 : decode cX9_bitsOf 40 = .ok (.ldc_w 312, 3) := by decide +kernel
theorem dX9_bitsOf_43 : decode cX9_bitsOf 43 = .ok (.isub, 1) := by decide +kernel
theorem dX9_bitsOf_44 : decode cX9_bitsOf 44 = .ok (.istore_n 3, 1) := by decide +kernel
theorem dX9_bitsOf_45 : decode cX9_bitsOf 45 = .ok (.iload_n 2, 1) := by decide +kernel
theorem dX9_bitsOf_46 : decode cX9_bitsOf 46 = .ok (.bipush 23, 2) := by decide +kernel
theorem dX9_bitsOf_48 : decode cX9_bitsOf 48 = .ok (.ishl, 1) := by decide +kernel
theorem dX9_bitsOf_49 : decode cX9_bitsOf 49 = .ok (.iload_n 3, 1) := by decide +kernel
theorem dX9_bitsOf_50 : decode cX9_bitsOf 50 = .ok (.iadd, 1) := by decide +kernel
theorem dX9_bitsOf_51 : decode cX9_bitsOf 51 = .ok (.ireturn, 1) := by decide +kernel
theorem dX9_copy_0 : decode cX9_copy 0 = .ok (.aload_n 0, 1) := by decide +kernel
theorem dX9_copy_1 : decode cX9_copy 1 = .ok (.iconst 0, 1) := by decide +kernel
theorem dX9_copy_2 : decode cX9_copy 2 = .ok (.aload_n 1, 1) := by decide +kernel
theorem dX9_copy_3 : decode cX9_copy 3 = .ok (.iconst 0, 1) := by decide +kernel
theorem dX9_copy_4 : decode cX9_copy 4 = .ok (.iload_n 2, 1) := by decide +kernel
theorem dX9_copy_5 : decode cX9_copy 5 = .ok (.invokestatic 313, 3) := by decide +kernel
theorem dX9_copy_8 : decode cX9_copy 8 = .ok (.return_, 1) := by decide +kernel
