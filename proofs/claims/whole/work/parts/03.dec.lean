theorem dX0_init_0 : decode cX0_init 0 = .ok (.aload_n 0, 1) := by decide +kernel
theorem dX0_init_1 : decode cX0_init 1 = .ok (.invokespecial 1, 3) := by decide +kernel
theorem dX0_init_4 : decode cX0_init 4 = .ok (.aload_n 0, 1) := by decide +kernel
theorem dX0_init_5 : decode cX0_init 5 = .ok (.iload_n 1, 1) := by decide +kernel
theorem dX0_init_6 : decode cX0_init 6 = .ok (.putfield 7, 3) := by decide +kernel
theorem dX0_init_9 : decode cX0_init 9 = .ok (.aload_n 0, 1) := by decide +kernel
theorem dX0_init_10 : decode cX0_init 10 = .ok (.aconst_null, 1) := by decide +kernel
theorem dX0_init_11 : decode cX0_init 11 = .ok (.putfield 13, 3) := by decide +kernel
theorem dX0_init_14 : decode cX0_init 14 = .ok (.aload_n 0, 1) := by decide +kernel
theorem dX0_init_15 : decode cX0_init 15 = .ok (.aconst_null, 1) := by decide +kernel
theorem dX0_init_16 : decode cX0_init 16 = .ok (.putfield 17, 3) := by decide +kernel
theorem dX0_init_19 : decode cX0_init 19 = .ok (.aload_n 0, 1) := by decide +kernel
theorem dX0_init_20 : decode cX0_init 20 = .ok (.iload_n 1, 1) := by decide +kernel
theorem dX0_init_21 : decode cX0_init 21 = .ok (.ifCond .ne 7, 3) := by decide +kernel
theorem dX0_init_24 : decode cX0_init 24 = .ok (.iconst 0, 1) := by decide +kernel
theorem dX0_init_25 : decode cX0_init 25 = .ok (.goto 4, 3) := by decide +kernel
theorem dX0_init_28 : decode cX0_init 28 = .ok (.iconst 1, 1) := by decide +kernel
theorem dX0_init_29 : decode cX0_init 29 = .ok (.putfield 21, 3) := by decide +kernel
theorem dX0_init_32 : decode cX0_init 32 = .ok (.aload_n 0, 1) := by decide +kernel
theorem dX0_init_33 : decode cX0_init 33 = .ok (.iconst 0, 1) := by decide +kernel
theorem dX0_init_34 : decode cX0_init 34 = .ok (.putfield 24, 3) := by decide +kernel
theorem dX0_init_37 : decode cX0_init 37 = .ok (.aload_n 0, 1) := by decide +kernel
theorem dX0_init_38 : decode cX0_init 38 = .ok (.aconst_null, 1) := by decide +kernel
theorem dX0_init_39 : decode cX0_init 39 = .ok (.putfield 27, 3) := by decide +kernel
theorem dX0_init_42 : decode cX0_init 42 = .ok (.return_, 1) := by decide +kernel
theorem dX0_add_0 : decode cX0_add 0 = .ok (.aload_n 1, 1) := by decide +kernel
theorem dX0_add_1 : decode cX0_add 1 = .ok (.aload_n 0, 1) := by decide +kernel
theorem dX0_add_2 : decode cX0_add 2 = .ok (.getfield 13, 3) := by decide +kernel
theorem dX0_add_5 : decode cX0_add 5 = .ok (.putfield 30, 3) := by decide +kernel
theorem dX0_add_8 : decode cX0_add 8 = .ok (.aload_n 0, 1) := by decide +kernel
theorem dX0_add_9 : decode cX0_add 9 = .ok (.aload_n 1, 1) := by decide +kernel
theorem dX0_add_10 : decode cX0_add 10 = .ok (.putfield 13, 3) := by decide +kernel
theorem dX0_add_13 : decode cX0_add 13 = .ok (.aload_n 0, 1) := by decide +kernel
theorem dX0_add_14 : decode cX0_add 14 = .ok (.dup, 1) := by decide +kernel
theorem dX0_add_15 : decode cX0_add 15 = .ok (.getfield 21, 3) := by decide +kernel
theorem dX0_add_18 : decode cX0_add 18 = .ok (.aload_n 1, 1) := by decide +kernel
theorem dX0_add_19 : decode cX0_add 19 = .ok (.getfield 34, 3) := by decide +kernel
theorem dX0_add_22 : decode cX0_add 22 = .ok (.ifCond .ne 9, 3) := by decide +kernel
theorem dX0_add_25 : decode cX0_add 25 = .ok (.sipush 10000, 3) := by decide +kernel
theorem dX0_add_28 : decode cX0_add 28 = .ok (.goto 5, 3) := by decide +kernel
theorem dX0_add_31 : decode cX0_add 31 = .ok (.bipush 100, 2) := by decide +kernel
theorem dX0_add_33 : decode cX0_add 33 = .ok (.iadd, 1) := by decide +kernel
theorem dX0_add_34 : decode cX0_add 34 = .ok (.putfield 21, 3) := by decide +kernel
theorem dX0_add_37 : decode cX0_add 37 = .ok (.return_, 1) := by decide +kernel
theorem dX0_exclude_0 : decode cX0_exclude 0 = .ok (.aload_n 1, 1) := by decide +kernel
theorem dX0_exclude_1 : decode cX0_exclude 1 = .ok (.aload_n 0, 1) := by decide +kernel
theorem dX0_exclude_2 : decode cX0_exclude 2 = .ok (.getfield 17, 3) := by decide +kernel
theorem dX0_exclude_5 : decode cX0_exclude 5 = .ok (.putfield 27, 3) := by decide +kernel
theorem dX0_exclude_8 : decode cX0_exclude 8 = .ok (.aload_n 0, 1) := by decide +kernel
theorem dX0_exclude_9 : decode cX0_exclude 9 = .ok (.aload_n 1, 1) := by decide +kernel
theorem dX0_exclude_10 : decode cX0_exclude 10 = .ok (.putfield 17, 3) := by decide +kernel
theorem dX0_exclude_13 : decode cX0_exclude 13 = .ok (.aload_n 0, 1) := by decide +kernel
theorem dX0_exclude_14 : decode cX0_exclude 14 = .ok (.dup, 1) := by decide +kernel
theorem dX0_exclude_15 : decode cX0_exclude 15 = .ok (.getfield 21, 3) := by decide +kernel
theorem dX0_exclude_18 : decode cX0_exclude 18 = .ok (.aload_n 1, 1) := by decide +kernel
theorem dX0_exclude_19 : decode cX0_exclude 19 = .ok (.getfield 21, 3) := by decide +kernel
theorem dX0_exclude_22 : decode cX0_exclude 22 = .ok (.iadd, 1) := by decide +kernel
theorem dX0_exclude_23 : decode cX0_exclude 23 = .ok (.putfield 21, 3) := by decide +kernel
theorem dX0_exclude_26 : decode cX0_exclude 26 = .ok (.return_, 1) := by decide +kernel
theorem dX0_fits_0 : decode cX0_fits 0 = .ok (.aload_n 0, 1) := by decide +kernel
theorem dX0_fits_1 : decode cX0_fits 1 = .ok (.getfield 17, 3) := by decide +kernel
theorem dX0_fits_4 : decode cX0_fits 4 = .ok (.astore_n 2, 1) := by decide +kernel
theorem dX0_fits_5 : decode cX0_fits 5 = .ok (.aload_n 2, 1) := by decide +kernel
theorem dX0_fits_6 : decode cX0_fits 6 = .ok (.ifnull 21, 3) := by decide +kernel
theorem dX0_fits_9 : decode cX0_fits 9 = .ok (.aload_n 2, 1) := by decide +kernel
theorem dX0_fits_10 : decode cX0_fits 10 = .ok (.aload_n 1, 1) := by decide +kernel
theorem dX0_fits_11 : decode cX0_fits 11 = .ok (.invokevirtual 37, 3) := by decide +kernel
theorem dX0_fits_14 : decode cX0_fits 14 = .ok (.ifCond .eq 5, 3) := by decide +kernel
theorem dX0_fits_17 : decode cX0_fits 17 = .ok (.iconst 0, 1) := by decide +kernel
theorem dX0_fits_18 : decode cX0_fits 18 = .ok (.ireturn, 1) := by decide +kernel
theorem dX0_fits_19 : decode cX0_fits 19 = .ok (.aload_n 2, 1) := by decide +kernel
theorem dX0_fits_20 : decode cX0_fits 20 = .ok (.getfield 27, 3) := by decide +kernel
theorem dX0_fits_23 : decode cX0_fits 23 = .ok (.astore_n 2, 1) := by decide +kernel
theorem dX0_fits_24 : decode cX0_fits 24 = .ok (.goto (-19), 3) := by decide +kernel
theorem dX0_fits_27 : decode cX0_fits 27 = .ok (.aload_n 0, 1) := by decide +kernel
theorem dX0_fits_28 : decode cX0_fits 28 = .ok (.aload_n 1, 1) := by decide +kernel
theorem dX0_fits_29 : decode cX0_fits 29 = .ok (.invokevirtual 37, 3) := by decide +kernel
theorem dX0_fits_32 : decode cX0_fits 32 = .ok (.ireturn, 1) := by decide +kernel
theorem dX0_fitsBare_0 : decode cX0_fitsBare 0 = .ok (.aload_n 0, 1) := by decide +kernel
theorem dX0_fitsBare_1 : decode cX0_fitsBare 1 = .ok (.getfield 7, 3) := by decide +kernel
theorem dX0_fitsBare_4 : decode cX0_fitsBare 4 = .ok (.ifCond .eq 16, 3) := by decide +kernel
theorem dX0_fitsBare_7 : decode cX0_fitsBare 7 = .ok (.aload_n 0, 1) := by decide +kernel
theorem dX0_fitsBare_8 : decode cX0_fitsBare 8 = .ok (.getfield 7, 3) := by decide +kernel
theorem dX0_fitsBare_11 : decode cX0_fitsBare 11 = .ok (.aload_n 1, 1) := by decide +kernel
theorem dX0_fitsBare_12 : decode cX0_fitsBare 12 = .ok (.getfield 41, 3) := by decide +kernel
theorem dX0_fitsBare_15 : decode cX0_fitsBare 15 = .ok (.if_icmp .eq 5, 3) := by decide +kernel
theorem dX0_fitsBare_18 : decode cX0_fitsBare 18 = .ok (.iconst 0, 1) := by decide +kernel
theorem dX0_fitsBare_19 : decode cX0_fitsBare 19 = .ok (.ireturn, 1) := by decide +kernel
theorem dX0_fitsBare_20 : decode cX0_fitsBare 20 = .ok (.aload_n 0, 1) := by decide +kernel
theorem dX0_fitsBare_21 : decode cX0_fitsBare 21 = .ok (.getfield 13, 3) := by decide +kernel
theorem dX0_fitsBare_24 : decode cX0_fitsBare 24 = .ok (.astore_n 2, 1) := by decide +kernel
theorem dX0_fitsBare_25 : decode cX0_fitsBare 25 = .ok (.aload_n 2, 1) := by decide +kernel
theorem dX0_fitsBare_26 : decode cX0_fitsBare 26 = .ok (.ifnull 21, 3) := by decide +kernel
theorem dX0_fitsBare_29 : decode cX0_fitsBare 29 = .ok (.aload_n 2, 1) := by decide +kernel
theorem dX0_fitsBare_30 : decode cX0_fitsBare 30 = .ok (.aload_n 1, 1) := by decide +kernel
theorem dX0_fitsBare_31 : decode cX0_fitsBare 31 = .ok (.invokevirtual 44, 3) := by decide +kernel
theorem dX0_fitsBare_34 : decode cX0_fitsBare 34 = .ok (.ifCond .ne 5, 3) := by decide +kernel
theorem dX0_fitsBare_37 : decode cX0_fitsBare 37 = .ok (.iconst 0, 1) := by decide +kernel
theorem dX0_fitsBare_38 : decode cX0_fitsBare 38 = .ok (.ireturn, 1) := by decide +kernel
theorem dX0_fitsBare_39 : decode cX0_fitsBare 39 = .ok (.aload_n 2, 1) := by decide +kernel
theorem dX0_fitsBare_40 : decode cX0_fitsBare 40 = .ok (.getfield 30, 3) := by decide +kernel
theorem dX0_fitsBare_43 : decode cX0_fitsBare 43 = .ok (.astore_n 2, 1) := by decide +kernel
theorem dX0_fitsBare_44 : decode cX0_fitsBare 44 = .ok (.goto (-19), 3) := by decide +kernel
theorem dX0_fitsBare_47 : decode cX0_fitsBare 47 = .ok (.iconst 1, 1) := by decide +kernel
theorem dX0_fitsBare_48 : decode cX0_fitsBare 48 = .ok (.ireturn, 1) := by decide +kernel
theorem dX1_init_0 : decode cX1_init 0 = .ok (.aload_n 0, 1) := by decide +kernel
theorem dX1_init_1 : decode cX1_init 1 = .ok (.invokespecial 1, 3) := by decide +kernel
theorem dX1_init_4 : decode cX1_init 4 = .ok (.aload_n 0, 1) := by decide +kernel
theorem dX1_init_5 : decode cX1_init 5 = .ok (.iload_n 1, 1) := by decide +kernel
theorem dX1_init_6 : decode cX1_init 6 = .ok (.putfield 7, 3) := by decide +kernel
theorem dX1_init_9 : decode cX1_init 9 = .ok (.aload_n 0, 1) := by decide +kernel
theorem dX1_init_10 : decode cX1_init 10 = .ok (.iload_n 2, 1) := by decide +kernel
theorem dX1_init_11 : decode cX1_init 11 = .ok (.putfield 13, 3) := by decide +kernel
theorem dX1_init_14 : decode cX1_init 14 = .ok (.aload_n 0, 1) := by decide +kernel
theorem dX1_init_15 : decode cX1_init 15 = .ok (.iload_n 3, 1) := by decide +kernel
theorem dX1_init_16 : decode cX1_init 16 = .ok (.putfield 16, 3) := by decide +kernel
theorem dX1_init_19 : decode cX1_init 19 = .ok (.aload_n 0, 1) := by decide +kernel
theorem dX1_init_20 : decode cX1_init 20 = .ok (.aload 4, 2) := by decide +kernel
theorem dX1_init_22 : decode cX1_init 22 = .ok (.putfield 19, 3) := by decide +kernel
theorem dX1_init_25 : decode cX1_init 25 = .ok (.aload_n 0, 1) := by decide +kernel
theorem dX1_init_26 : decode cX1_init 26 = .ok (.aload 5, 2) := by decide +kernel
theorem dX1_init_28 : decode cX1_init 28 = .ok (.putfield 23, 3) := by decide +kernel
theorem dX1_init_31 : decode cX1_init 31 = .ok (.aload_n 0, 1) := by decide +kernel
theorem dX1_init_32 : decode cX1_init 32 = .ok (.aconst_null, 1) := by decide +kernel
theorem dX1_init_33 : decode cX1_init 33 = .ok (.putfield 27, 3) := by decide +kernel
theorem dX1_init_36 : decode cX1_init 36 = .ok (.return_, 1) := by decide +kernel
theorem dX2_init_0 : decode cX2_init 0 = .ok (.aload_n 0, 1) := by decide +kernel
theorem dX2_init_1 : decode cX2_init 1 = .ok (.invokespecial 1, 3) := by decide +kernel
theorem dX2_init_4 : decode cX2_init 4 = .ok (.aload_n 0, 1) := by decide +kernel
theorem dX2_init_5 : decode cX2_init 5 = .ok (.aload_n 2, 1) := by decide +kernel
theorem dX2_init_6 : decode cX2_init 6 = .ok (.putfield 7, 3) := by decide +kernel
theorem dX2_init_9 : decode cX2_init 9 = .ok (.aload_n 0, 1) := by decide +kernel
theorem dX2_init_10 : decode cX2_init 10 = .ok (.iload_n 3, 1) := by decide +kernel
theorem dX2_init_11 : decode cX2_init 11 = .ok (.putfield 13, 3) := by decide +kernel
theorem dX2_init_14 : decode cX2_init 14 = .ok (.aload_n 0, 1) := by decide +kernel
theorem dX2_init_15 : decode cX2_init 15 = .ok (.iload 4, 2) := by decide +kernel
theorem dX2_init_17 : decode cX2_init 17 = .ok (.putfield 17, 3) := by decide +kernel
theorem dX2_init_20 : decode cX2_init 20 = .ok (.aload_n 0, 1) := by decide +kernel
theorem dX2_init_21 : decode cX2_init 21 = .ok (.iload 5, 2) := by decide +kernel
theorem dX2_init_23 : decode cX2_init 23 = .ok (.putfield 20, 3) := by decide +kernel
theorem dX2_init_26 : decode cX2_init 26 = .ok (.aload_n 0, 1) := by decide +kernel
theorem dX2_init_27 : decode cX2_init 27 = .ok (.iconst 1, 1) := by decide +kernel
theorem dX2_init_28 : decode cX2_init 28 = .ok (.iload_n 1, 1) := by decide +kernel
theorem dX2_init_29 : decode cX2_init 29 = .ok (.ishl, 1) := by decide +kernel
theorem dX2_init_30 : decode cX2_init 30 = .ok (.putfield 23, 3) := by decide +kernel
theorem dX2_init_33 : decode cX2_init 33 = .ok (.aload_n 0, 1) := by decide +kernel
theorem dX2_init_34 : decode cX2_init 34 = .ok (.aload_n 2, 1) := by decide +kernel
theorem dX2_init_35 : decode cX2_init 35 = .ok (.ifnonnull 7, 3) := by decide +kernel
theorem dX2_init_38 : decode cX2_init 38 = .ok (.iconst 0, 1) := by decide +kernel
theorem dX2_init_39 : decode cX2_init 39 = .ok (.goto 12, 3) := by decide +kernel
theorem dX2_init_42 : decode cX2_init 42 = .ok (.aload_n 2, 1) := by decide +kernel
theorem dX2_init_43 : decode cX2_init 43 = .ok (.getfield 26, 3) := by decide +kernel
theorem dX2_init_46 : decode cX2_init 46 = .ok (.aload_n 2, 1) := by decide +kernel
theorem dX2_init_47 : decode cX2_init 47 = .ok (.getfield 23, 3) := by decide +kernel
theorem dX2_init_50 : decode cX2_init 50 = .ok (.ior, 1) := by decide +kernel
theorem dX2_init_51 : decode cX2_init 51 = .ok (.putfield 26, 3) := by decide +kernel
theorem dX2_init_54 : decode cX2_init 54 = .ok (.aload_n 0, 1) := by decide +kernel
theorem dX2_init_55 : decode cX2_init 55 = .ok (.aload_n 2, 1) := by decide +kernel
theorem dX2_init_56 : decode cX2_init 56 = .ok (.ifnonnull 7, 3) := by decide +kernel
theorem dX2_init_59 : decode cX2_init 59 = .ok (.iconst 0, 1) := by decide +kernel
theorem dX2_init_60 : decode cX2_init 60 = .ok (.goto 7, 3) := by decide +kernel
theorem dX2_init_63 : decode cX2_init 63 = .ok (.aload_n 2, 1) := by decide +kernel
theorem dX2_init_64 : decode cX2_init 64 = .ok (.getfield 29, 3) := by decide +kernel
theorem dX2_init_67 : decode cX2_init 67 = .ok (.putfield 32, 3) := by decide +kernel
theorem dX2_init_70 : decode cX2_init 70 = .ok (.aload_n 0, 1) := by decide +kernel
theorem dX2_init_71 : decode cX2_init 71 = .ok (.aload_n 2, 1) := by decide +kernel
theorem dX2_init_72 : decode cX2_init 72 = .ok (.ifnonnull 7, 3) := by decide +kernel
theorem dX2_init_75 : decode cX2_init 75 = .ok (.iconst 0, 1) := by decide +kernel
theorem dX2_init_76 : decode cX2_init 76 = .ok (.goto 7, 3) := by decide +kernel
theorem dX2_init_79 : decode cX2_init 79 = .ok (.aload_n 2, 1) := by decide +kernel
theorem dX2_init_80 : decode cX2_init 80 = .ok (.getfield 35, 3) := by decide +kernel
theorem dX2_init_83 : decode cX2_init 83 = .ok (.putfield 38, 3) := by decide +kernel
theorem dX2_init_86 : decode cX2_init 86 = .ok (.aload_n 0, 1) := by decide +kernel
theorem dX2_init_87 : decode cX2_init 87 = .ok (.aload_n 0, 1) := by decide +kernel
theorem dX2_init_88 : decode cX2_init 88 = .ok (.getfield 32, 3) := by decide +kernel
theorem dX2_init_91 : decode cX2_init 91 = .ok (.invokestatic 41, 3) := by decide +kernel
theorem dX2_init_94 : decode cX2_init 94 = .ok (.iconst 1, 1) := by decide +kernel
theorem dX2_init_95 : decode cX2_init 95 = .ok (.iadd, 1) := by decide +kernel
theorem dX2_init_96 : decode cX2_init 96 = .ok (.putfield 47, 3) := by decide +kernel
theorem dX2_init_99 : decode cX2_init 99 = .ok (.aload_n 0, 1) := by decide +kernel
theorem dX2_init_100 : decode cX2_init 100 = .ok (.new 50, 3) := by decide +kernel
theorem dX2_init_103 : decode cX2_init 103 = .ok (.dup, 1) := by decide +kernel
theorem dX2_init_104 : decode cX2_init 104 = .ok (.invokespecial 52, 3) := by decide +kernel
theorem dX2_init_107 : decode cX2_init 107 = .ok (.putfield 53, 3) := by decide +kernel
theorem dX2_init_110 : decode cX2_init 110 = .ok (.aload_n 0, 1) := by decide +kernel
theorem dX2_init_111 : decode cX2_init 111 = .ok (.iconst 0, 1) := by decide +kernel
theorem dX2_init_112 : decode cX2_init 112 = .ok (.putfield 29, 3) := by decide +kernel
theorem dX2_init_115 : decode cX2_init 115 = .ok (.aload_n 0, 1) := by decide +kernel
theorem dX2_init_116 : decode cX2_init 116 = .ok (.iconst 0, 1) := by decide +kernel
theorem dX2_init_117 : decode cX2_init 117 = .ok (.putfield 35, 3) := by decide +kernel
theorem dX2_init_120 : decode cX2_init 120 = .ok (.return_, 1) := by decide +kernel
theorem dX2_adopt_0 : decode cX2_adopt 0 = .ok (.aload_n 0, 1) := by decide +kernel
theorem dX2_adopt_1 : decode cX2_adopt 1 = .ok (.dup, 1) := by decide +kernel
theorem dX2_adopt_2 : decode cX2_adopt 2 = .ok (.getfield 29, 3) := by decide +kernel
theorem dX2_adopt_5 : decode cX2_adopt 5 = .ok (.iload_n 1, 1) := by decide +kernel
theorem dX2_adopt_6 : decode cX2_adopt 6 = .ok (.ior, 1) := by decide +kernel
theorem dX2_adopt_7 : decode cX2_adopt 7 = .ok (.putfield 29, 3) := by decide +kernel
theorem dX2_adopt_10 : decode cX2_adopt 10 = .ok (.aload_n 0, 1) := by decide +kernel
theorem dX2_adopt_11 : decode cX2_adopt 11 = .ok (.iload_n 1, 1) := by decide +kernel
theorem dX2_adopt_12 : decode cX2_adopt 12 = .ok (.putfield 35, 3) := by decide +kernel
theorem dX2_adopt_15 : decode cX2_adopt 15 = .ok (.return_, 1) := by decide +kernel
theorem dX2_isLast_0 : decode cX2_isLast 0 = .ok (.aload_n 0, 1) := by decide +kernel
theorem dX2_isLast_1 : decode cX2_isLast 1 = .ok (.getfield 7, 3) := by decide +kernel
theorem dX2_isLast_4 : decode cX2_isLast 4 = .ok (.ifnull 17, 3) := by decide +kernel
theorem dX2_isLast_7 : decode cX2_isLast 7 = .ok (.aload_n 0, 1) := by decide +kernel
theorem dX2_isLast_8 : decode cX2_isLast 8 = .ok (.getfield 7, 3) := by decide +kernel
theorem dX2_isLast_11 : decode cX2_isLast 11 = .ok (.getfield 35, 3) := by decide +kernel
theorem dX2_isLast_14 : decode cX2_isLast 14 = .ok (.aload_n 0, 1) := by decide +kernel
theorem dX2_isLast_15 : decode cX2_isLast 15 = .ok (.getfield 23, 3) := by decide +kernel
theorem dX2_isLast_18 : decode cX2_isLast 18 = .ok (.if_icmp .ne 7, 3) := by decide +kernel
theorem dX2_isLast_21 : decode cX2_isLast 21 = .ok (.iconst 1, 1) := by decide +kernel
theorem dX2_isLast_22 : decode cX2_isLast 22 = .ok (.goto 4, 3) := by decide +kernel
theorem dX2_isLast_25 : decode cX2_isLast 25 = .ok (.iconst 0, 1) := by decide +kernel
theorem dX2_isLast_26 : decode cX2_isLast 26 = .ok (.ireturn, 1) := by decide +kernel
theorem dX2_related_0 : decode cX2_related 0 = .ok (.iload_n 1, 1) := by decide +kernel
theorem dX2_related_1 : decode cX2_related 1 = .ok (.lookupswitch 64 #[(43, 54), (62, 35), (126, 59)], 35) := by decide +kernel
theorem dX2_related_36 : decode cX2_related 36 = .ok (.aload_n 0, 1) := by decide +kernel
theorem dX2_related_37 : decode cX2_related 37 = .ok (.getfield 7, 3) := by decide +kernel
theorem dX2_related_40 : decode cX2_related 40 = .ok (.ifnonnull 7, 3) := by decide +kernel
theorem dX2_related_43 : decode cX2_related 43 = .ok (.iconst 0, 1) := by decide +kernel
theorem dX2_related_44 : decode cX2_related 44 = .ok (.goto 10, 3) := by decide +kernel
theorem dX2_related_47 : decode cX2_related 47 = .ok (.aload_n 0, 1) := by decide +kernel
theorem dX2_related_48 : decode cX2_related 48 = .ok (.getfield 7, 3) := by decide +kernel
theorem dX2_related_51 : decode cX2_related 51 = .ok (.getfield 23, 3) := by decide +kernel
theorem dX2_related_54 : decode cX2_related 54 = .ok (.ireturn, 1) := by decide +kernel
theorem dX2_related_55 : decode cX2_related 55 = .ok (.aload_n 0, 1) := by decide +kernel
theorem dX2_related_56 : decode cX2_related 56 = .ok (.getfield 38, 3) := by decide +kernel
theorem dX2_related_59 : decode cX2_related 59 = .ok (.ireturn, 1) := by decide +kernel
theorem dX2_related_60 : decode cX2_related 60 = .ok (.aload_n 0, 1) := by decide +kernel
theorem dX2_related_61 : decode cX2_related 61 = .ok (.getfield 32, 3) := by decide +kernel
theorem dX2_related_64 : decode cX2_related 64 = .ok (.ireturn, 1) := by decide +kernel
theorem dX2_related_65 : decode cX2_related 65 = .ok (.aload_n 0, 1) := by decide +kernel
theorem dX2_related_66 : decode cX2_related 66 = .ok (.getfield 26, 3) := by decide +kernel
theorem dX2_related_69 : decode cX2_related 69 = .ok (.ireturn, 1) := by decide +kernel
theorem dX3_init_0 : decode cX3_init 0 = .ok (.aload_n 0, 1) := by decide +kernel
theorem dX3_init_1 : decode cX3_init 1 = .ok (.invokespecial 1, 3) := by decide +kernel
theorem dX3_init_4 : decode cX3_init 4 = .ok (.aload_n 0, 1) := by decide +kernel
theorem dX3_init_5 : decode cX3_init 5 = .ok (.iload_n 1, 1) := by decide +kernel
theorem dX3_init_6 : decode cX3_init 6 = .ok (.putfield 7, 3) := by decide +kernel
theorem dX3_init_9 : decode cX3_init 9 = .ok (.aload_n 0, 1) := by decide +kernel
theorem dX3_init_10 : decode cX3_init 10 = .ok (.iload_n 2, 1) := by decide +kernel
theorem dX3_init_11 : decode cX3_init 11 = .ok (.putfield 13, 3) := by decide +kernel
theorem dX3_init_14 : decode cX3_init 14 = .ok (.aload_n 0, 1) := by decide +kernel
theorem dX3_init_15 : decode cX3_init 15 = .ok (.iload_n 3, 1) := by decide +kernel
theorem dX3_init_16 : decode cX3_init 16 = .ok (.putfield 16, 3) := by decide +kernel
theorem dX3_init_19 : decode cX3_init 19 = .ok (.aload_n 0, 1) := by decide +kernel
theorem dX3_init_20 : decode cX3_init 20 = .ok (.aconst_null, 1) := by decide +kernel
theorem dX3_init_21 : decode cX3_init 21 = .ok (.putfield 19, 3) := by decide +kernel
theorem dX3_init_24 : decode cX3_init 24 = .ok (.return_, 1) := by decide +kernel
theorem dX3_holds_0 : decode cX3_holds 0 = .ok (.aload_n 0, 1) := by decide +kernel
theorem dX3_holds_1 : decode cX3_holds 1 = .ok (.getfield 7, 3) := by decide +kernel
theorem dX3_holds_4 : decode cX3_holds 4 = .ok (.tableswitch 68 0 2 #[28, 45, 63], 28) := by decide +kernel
theorem dX3_holds_32 : decode cX3_holds 32 = .ok (.aload_n 1, 1) := by decide +kernel
theorem dX3_holds_33 : decode cX3_holds 33 = .ok (.getfield 23, 3) := by decide +kernel
theorem dX3_holds_36 : decode cX3_holds 36 = .ok (.aload_n 0, 1) := by decide +kernel
theorem dX3_holds_37 : decode cX3_holds 37 = .ok (.getfield 13, 3) := by decide +kernel
theorem dX3_holds_40 : decode cX3_holds 40 = .ok (.if_icmp .ne 7, 3) := by decide +kernel
theorem dX3_holds_43 : decode cX3_holds 43 = .ok (.iconst 1, 1) := by decide +kernel
theorem dX3_holds_44 : decode cX3_holds 44 = .ok (.goto 4, 3) := by decide +kernel
theorem dX3_holds_47 : decode cX3_holds 47 = .ok (.iconst 0, 1) := by decide +kernel
theorem dX3_holds_48 : decode cX3_holds 48 = .ok (.ireturn, 1) := by decide +kernel
theorem dX3_holds_49 : decode cX3_holds 49 = .ok (.aload_n 1, 1) := by decide +kernel
theorem dX3_holds_50 : decode cX3_holds 50 = .ok (.getfield 28, 3) := by decide +kernel
theorem dX3_holds_53 : decode cX3_holds 53 = .ok (.aload_n 0, 1) := by decide +kernel
theorem dX3_holds_54 : decode cX3_holds 54 = .ok (.getfield 13, 3) := by decide +kernel
theorem dX3_holds_57 : decode cX3_holds 57 = .ok (.iand, 1) := by decide +kernel
theorem dX3_holds_58 : decode cX3_holds 58 = .ok (.ifCond .eq 7, 3) := by decide +kernel
theorem dX3_holds_61 : decode cX3_holds 61 = .ok (.iconst 1, 1) := by decide +kernel
theorem dX3_holds_62 : decode cX3_holds 62 = .ok (.goto 4, 3) := by decide +kernel
theorem dX3_holds_65 : decode cX3_holds 65 = .ok (.iconst 0, 1) := by decide +kernel
theorem dX3_holds_66 : decode cX3_holds 66 = .ok (.ireturn, 1) := by decide +kernel
theorem dX3_holds_67 : decode cX3_holds 67 = .ok (.aload_n 1, 1) := by decide +kernel
theorem dX3_holds_68 : decode cX3_holds 68 = .ok (.invokevirtual 31, 3) := by decide +kernel
theorem dX3_holds_71 : decode cX3_holds 71 = .ok (.ireturn, 1) := by decide +kernel
theorem dX3_holds_72 : decode cX3_holds 72 = .ok (.aload_n 0, 1) := by decide +kernel
theorem dX3_holds_73 : decode cX3_holds 73 = .ok (.aload_n 1, 1) := by decide +kernel
theorem dX3_holds_74 : decode cX3_holds 74 = .ok (.getfield 35, 3) := by decide +kernel
theorem dX3_holds_77 : decode cX3_holds 77 = .ok (.aload_n 0, 1) := by decide +kernel
theorem dX3_holds_78 : decode cX3_holds 78 = .ok (.getfield 13, 3) := by decide +kernel
theorem dX3_holds_81 : decode cX3_holds 81 = .ok (.isub, 1) := by decide +kernel
theorem dX3_holds_82 : decode cX3_holds 82 = .ok (.invokevirtual 38, 3) := by decide +kernel
theorem dX3_holds_85 : decode cX3_holds 85 = .ok (.ireturn, 1) := by decide +kernel
theorem dX3_isReached_0 : decode cX3_isReached 0 = .ok (.aload_n 0, 1) := by decide +kernel
theorem dX3_isReached_1 : decode cX3_isReached 1 = .ok (.getfield 16, 3) := by decide +kernel
theorem dX3_isReached_4 : decode cX3_isReached 4 = .ok (.ifCond .ne 15, 3) := by decide +kernel
theorem dX3_isReached_7 : decode cX3_isReached 7 = .ok (.iload_n 1, 1) := by decide +kernel
theorem dX3_isReached_8 : decode cX3_isReached 8 = .ok (.ifCond .ne 7, 3) := by decide +kernel
theorem dX3_isReached_11 : decode cX3_isReached 11 = .ok (.iconst 1, 1) := by decide +kernel
theorem dX3_isReached_12 : decode cX3_isReached 12 = .ok (.goto 25, 3) := by decide +kernel
theorem dX3_isReached_15 : decode cX3_isReached 15 = .ok (.iconst 0, 1) := by decide +kernel
theorem dX3_isReached_16 : decode cX3_isReached 16 = .ok (.goto 21, 3) := by decide +kernel
theorem dX3_isReached_19 : decode cX3_isReached 19 = .ok (.iload_n 1, 1) := by decide +kernel
theorem dX3_isReached_20 : decode cX3_isReached 20 = .ok (.ifCond .lt 16, 3) := by decide +kernel
theorem dX3_isReached_23 : decode cX3_isReached 23 = .ok (.iload_n 1, 1) := by decide +kernel
theorem dX3_isReached_24 : decode cX3_isReached 24 = .ok (.aload_n 0, 1) := by decide +kernel
theorem dX3_isReached_25 : decode cX3_isReached 25 = .ok (.getfield 16, 3) := by decide +kernel
theorem dX3_isReached_28 : decode cX3_isReached 28 = .ok (.irem, 1) := by decide +kernel
theorem dX3_isReached_29 : decode cX3_isReached 29 = .ok (.ifCond .ne 7, 3) := by decide +kernel
theorem dX3_isReached_32 : decode cX3_isReached 32 = .ok (.iconst 1, 1) := by decide +kernel
theorem dX3_isReached_33 : decode cX3_isReached 33 = .ok (.goto 4, 3) := by decide +kernel
theorem dX3_isReached_36 : decode cX3_isReached 36 = .ok (.iconst 0, 1) := by decide +kernel
theorem dX3_isReached_37 : decode cX3_isReached 37 = .ok (.ireturn, 1) := by decide +kernel
theorem dX4_init_0 : decode cX4_init 0 = .ok (.aload_n 0, 1) := by decide +kernel
theorem dX4_init_1 : decode cX4_init 1 = .ok (.invokespecial 3, 3) := by decide +kernel
theorem dX4_init_4 : decode cX4_init 4 = .ok (.aload_n 0, 1) := by decide +kernel
theorem dX4_init_5 : decode cX4_init 5 = .ok (.bipush 24, 2) := by decide +kernel
theorem dX4_init_7 : decode cX4_init 7 = .ok (.anewarray 9, 3) := by decide +kernel
theorem dX4_init_10 : decode cX4_init 10 = .ok (.putfield 11, 3) := by decide +kernel
theorem dX4_init_13 : decode cX4_init 13 = .ok (.aload_n 0, 1) := by decide +kernel
theorem dX4_init_14 : decode cX4_init 14 = .ok (.bipush 15, 2) := by decide +kernel
theorem dX4_init_16 : decode cX4_init 16 = .ok (.newarray .int, 2) := by decide +kernel
theorem dX4_init_18 : decode cX4_init 18 = .ok (.putfield 17, 3) := by decide +kernel
theorem dX4_init_21 : decode cX4_init 21 = .ok (.aload_n 0, 1) := by decide +kernel
theorem dX4_init_22 : decode cX4_init 22 = .ok (.bipush 15, 2) := by decide +kernel
theorem dX4_init_24 : decode cX4_init 24 = .ok (.newarray .float, 2) := by decide +kernel
theorem dX4_init_26 : decode cX4_init 26 = .ok (.putfield 21, 3) := by decide +kernel
theorem dX4_init_29 : decode cX4_init 29 = .ok (.aload_n 0, 1) := by decide +kernel
theorem dX4_init_30 : decode cX4_init 30 = .ok (.bipush 96, 2) := by decide +kernel
theorem dX4_init_32 : decode cX4_init 32 = .ok (.anewarray 9, 3) := by decide +kernel
theorem dX4_init_35 : decode cX4_init 35 = .ok (.putfield 25, 3) := by decide +kernel
theorem dX4_init_38 : decode cX4_init 38 = .ok (.aload_n 0, 1) := by decide +kernel
theorem dX4_init_39 : decode cX4_init 39 = .ok (.bipush 96, 2) := by decide +kernel
theorem dX4_init_41 : decode cX4_init 41 = .ok (.newarray .int, 2) := by decide +kernel
theorem dX4_init_43 : decode cX4_init 43 = .ok (.putfield 28, 3) := by decide +kernel
theorem dX4_init_46 : decode cX4_init 46 = .ok (.return_, 1) := by decide +kernel
theorem dX4_settle_0 : decode cX4_settle 0 = .ok (.iconst 0, 1) := by decide +kernel
theorem dX4_settle_1 : decode cX4_settle 1 = .ok (.istore_n 3, 1) := by decide +kernel
theorem dX4_settle_2 : decode cX4_settle 2 = .ok (.aload_n 1, 1) := by decide +kernel
theorem dX4_settle_3 : decode cX4_settle 3 = .ok (.astore 4, 2) := by decide +kernel
theorem dX4_settle_5 : decode cX4_settle 5 = .ok (.aload 4, 2) := by decide +kernel
theorem dX4_settle_7 : decode cX4_settle 7 = .ok (.ifnull 33, 3) := by decide +kernel
theorem dX4_settle_10 : decode cX4_settle 10 = .ok (.iload_n 3, 1) := by decide +kernel
theorem dX4_settle_11 : decode cX4_settle 11 = .ok (.aload_n 0, 1) := by decide +kernel
theorem dX4_settle_12 : decode cX4_settle 12 = .ok (.getfield 11, 3) := by decide +kernel
theorem dX4_settle_15 : decode cX4_settle 15 = .ok (.arraylength, 1) := by decide +kernel
theorem dX4_settle_16 : decode cX4_settle 16 = .ok (.if_icmp .ge 24, 3) := by decide +kernel
theorem dX4_settle_19 : decode cX4_settle 19 = .ok (.aload_n 0, 1) := by decide +kernel
theorem dX4_settle_20 : decode cX4_settle 20 = .ok (.getfield 11, 3) := by decide +kernel
theorem dX4_settle_23 : decode cX4_settle 23 = .ok (.iload_n 3, 1) := by decide +kernel
theorem dX4_settle_24 : decode cX4_settle 24 = .ok (.aload 4, 2) := by decide +kernel
theorem dX4_settle_26 : decode cX4_settle 26 = .ok (.aastore, 1) := by decide +kernel
theorem dX4_settle_27 : decode cX4_settle 27 = .ok (.iinc 3 1, 3) := by decide +kernel
theorem dX4_settle_30 : decode cX4_settle 30 = .ok (.aload 4, 2) := by decide +kernel
theorem dX4_settle_32 : decode cX4_settle 32 = .ok (.getfield 31, 3) := by decide +kernel
theorem dX4_settle_35 : decode cX4_settle 35 = .ok (.astore 4, 2) := by decide +kernel
theorem dX4_settle_37 : decode cX4_settle 37 = .ok (.goto (-32), 3) := by decide +kernel
theorem dX4_settle_40 : decode cX4_settle 40 = .ok (.iload_n 3, 1) := by decide +kernel
theorem dX4_settle_41 : decode cX4_settle 41 = .ok (.iconst 1, 1) := by decide +kernel
theorem dX4_settle_42 : decode cX4_settle 42 = .ok (.isub, 1) := by decide +kernel
theorem dX4_settle_43 : decode cX4_settle 43 = .ok (.istore 4, 2) := by decide +kernel
theorem dX4_settle_45 : decode cX4_settle 45 = .ok (.iload 4, 2) := by decide +kernel
theorem dX4_settle_47 : decode cX4_settle 47 = .ok (.ifCond .lt 33, 3) := by decide +kernel
theorem dX4_settle_50 : decode cX4_settle 50 = .ok (.aload_n 0, 1) := by decide +kernel
theorem dX4_settle_51 : decode cX4_settle 51 = .ok (.aload_n 0, 1) := by decide +kernel
theorem dX4_settle_52 : decode cX4_settle 52 = .ok (.getfield 11, 3) := by decide +kernel
theorem dX4_settle_55 : decode cX4_settle 55 = .ok (.iload 4, 2) := by decide +kernel
theorem dX4_settle_57 : decode cX4_settle 57 = .ok (.aaload, 1) := by decide +kernel
theorem dX4_settle_58 : decode cX4_settle 58 = .ok (.iconst 1, 1) := by decide +kernel
theorem dX4_settle_59 : decode cX4_settle 59 = .ok (.invokevirtual 35, 3) := by decide +kernel
theorem dX4_settle_62 : decode cX4_settle 62 = .ok (.aload_n 0, 1) := by decide +kernel
theorem dX4_settle_63 : decode cX4_settle 63 = .ok (.aload_n 0, 1) := by decide +kernel
theorem dX4_settle_64 : decode cX4_settle 64 = .ok (.getfield 11, 3) := by decide +kernel
theorem dX4_settle_67 : decode cX4_settle 67 = .ok (.iload 4, 2) := by decide +kernel
theorem dX4_settle_69 : decode cX4_settle 69 = .ok (.aaload, 1) := by decide +kernel
theorem dX4_settle_70 : decode cX4_settle 70 = .ok (.iload_n 2, 1) := by decide +kernel
theorem dX4_settle_71 : decode cX4_settle 71 = .ok (.invokevirtual 35, 3) := by decide +kernel
theorem dX4_settle_74 : decode cX4_settle 74 = .ok (.iinc 4 (-1), 3) := by decide +kernel
theorem dX4_settle_77 : decode cX4_settle 77 = .ok (.goto (-32), 3) := by decide +kernel
theorem dX4_settle_80 : decode cX4_settle 80 = .ok (.return_, 1) := by decide +kernel
theorem dX4_settleAt_0 : decode cX4_settleAt 0 = .ok (.aload_n 1, 1) := by decide +kernel
theorem dX4_settleAt_1 : decode cX4_settleAt 1 = .ok (.getfield 39, 3) := by decide +kernel
theorem dX4_settleAt_4 : decode cX4_settleAt 4 = .ok (.astore_n 3, 1) := by decide +kernel
theorem dX4_settleAt_5 : decode cX4_settleAt 5 = .ok (.aload_n 3, 1) := by decide +kernel
theorem dX4_settleAt_6 : decode cX4_settleAt 6 = .ok (.getfield 43, 3) := by decide +kernel
theorem dX4_settleAt_9 : decode cX4_settleAt 9 = .ok (.iload_n 2, 1) := by decide +kernel
theorem dX4_settleAt_10 : decode cX4_settleAt 10 = .ok (.iaload, 1) := by decide +kernel
theorem dX4_settleAt_11 : decode cX4_settleAt 11 = .ok (.iconst 4, 1) := by decide +kernel
theorem dX4_settleAt_12 : decode cX4_settleAt 12 = .ok (.if_icmp .eq 4, 3) := by decide +kernel
theorem dX4_settleAt_15 : decode cX4_settleAt 15 = .ok (.return_, 1) := by decide +kernel
theorem dX4_settleAt_16 : decode cX4_settleAt 16 = .ok (.aload_n 3, 1) := by decide +kernel
theorem dX4_settleAt_17 : decode cX4_settleAt 17 = .ok (.getfield 48, 3) := by decide +kernel
theorem dX4_settleAt_20 : decode cX4_settleAt 20 = .ok (.iload_n 2, 1) := by decide +kernel
theorem dX4_settleAt_21 : decode cX4_settleAt 21 = .ok (.aaload, 1) := by decide +kernel
theorem dX4_settleAt_22 : decode cX4_settleAt 22 = .ok (.astore 4, 2) := by decide +kernel
theorem dX4_settleAt_24 : decode cX4_settleAt 24 = .ok (.iload_n 2, 1) := by decide +kernel
theorem dX4_settleAt_25 : decode cX4_settleAt 25 = .ok (.iconst 1, 1) := by decide +kernel
theorem dX4_settleAt_26 : decode cX4_settleAt 26 = .ok (.if_icmp .ne 8, 3) := by decide +kernel
theorem dX4_settleAt_29 : decode cX4_settleAt 29 = .ok (.ldc 52, 2) := by decide +kernel
theorem dX4_settleAt_31 : decode cX4_settleAt 31 = .ok (.goto 4, 3) := by decide +kernel
theorem dX4_settleAt_34 : decode cX4_settleAt 34 = .ok (.fconst 0, 1) := by decide +kernel
theorem dX4_settleAt_35 : decode cX4_settleAt 35 = .ok (.fstore 5, 2) := by decide +kernel
theorem dX4_settleAt_37 : decode cX4_settleAt 37 = .ok (.aload_n 1, 1) := by decide +kernel
theorem dX4_settleAt_38 : decode cX4_settleAt 38 = .ok (.getfield 31, 3) := by decide +kernel
theorem dX4_settleAt_41 : decode cX4_settleAt 41 = .ok (.ifnonnull 8, 3) := by decide +kernel
theorem dX4_settleAt_44 : decode cX4_settleAt 44 = .ok (.fload 5, 2) := by decide +kernel
theorem dX4_settleAt_46 : decode cX4_settleAt 46 = .ok (.goto 15, 3) := by decide +kernel
theorem dX4_settleAt_49 : decode cX4_settleAt 49 = .ok (.aload_n 1, 1) := by decide +kernel
theorem dX4_settleAt_50 : decode cX4_settleAt 50 = .ok (.getfield 31, 3) := by decide +kernel
theorem dX4_settleAt_53 : decode cX4_settleAt 53 = .ok (.getfield 39, 3) := by decide +kernel
theorem dX4_settleAt_56 : decode cX4_settleAt 56 = .ok (.getfield 53, 3) := by decide +kernel
theorem dX4_settleAt_59 : decode cX4_settleAt 59 = .ok (.iload_n 2, 1) := by decide +kernel
theorem dX4_settleAt_60 : decode cX4_settleAt 60 = .ok (.faload, 1) := by decide +kernel
theorem dX4_settleAt_61 : decode cX4_settleAt 61 = .ok (.fstore 6, 2) := by decide +kernel
theorem dX4_settleAt_63 : decode cX4_settleAt 63 = .ok (.iload_n 2, 1) := by decide +kernel
theorem dX4_settleAt_64 : decode cX4_settleAt 64 = .ok (.ifCond .eq 8, 3) := by decide +kernel
theorem dX4_settleAt_67 : decode cX4_settleAt 67 = .ok (.iload_n 2, 1) := by decide +kernel
theorem dX4_settleAt_68 : decode cX4_settleAt 68 = .ok (.iconst 1, 1) := by decide +kernel
theorem dX4_settleAt_69 : decode cX4_settleAt 69 = .ok (.if_icmp .ne 8, 3) := by decide +kernel
theorem dX4_settleAt_72 : decode cX4_settleAt 72 = .ok (.fload 6, 2) := by decide +kernel
theorem dX4_settleAt_74 : decode cX4_settleAt 74 = .ok (.goto 5, 3) := by decide +kernel
theorem dX4_settleAt_77 : decode cX4_settleAt 77 = .ok (.fload 5, 2) := by decide +kernel
theorem dX4_settleAt_79 : decode cX4_settleAt 79 = .ok (.fstore 7, 2) := by decide +kernel
theorem dX4_settleAt_81 : decode cX4_settleAt 81 = .ok (.iconst 0, 1) := by decide +kernel
theorem dX4_settleAt_82 : decode cX4_settleAt 82 = .ok (.istore 8, 2) := by decide +kernel
theorem dX4_settleAt_84 : decode cX4_settleAt 84 = .ok (.aload 4, 2) := by decide +kernel
theorem dX4_settleAt_86 : decode cX4_settleAt 86 = .ok (.ifnull 35, 3) := by decide +kernel
theorem dX4_settleAt_89 : decode cX4_settleAt 89 = .ok (.aload 4, 2) := by decide +kernel
theorem dX4_settleAt_91 : decode cX4_settleAt 91 = .ok (.getfield 56, 3) := by decide +kernel
theorem dX4_settleAt_94 : decode cX4_settleAt 94 = .ok (.iconst 2, 1) := by decide +kernel
theorem dX4_settleAt_95 : decode cX4_settleAt 95 = .ok (.if_icmp .eq 26, 3) := by decide +kernel
theorem dX4_settleAt_98 : decode cX4_settleAt 98 = .ok (.iconst 1, 1) := by decide +kernel
theorem dX4_settleAt_99 : decode cX4_settleAt 99 = .ok (.istore 8, 2) := by decide +kernel
theorem dX4_settleAt_101 : decode cX4_settleAt 101 = .ok (.aload 4, 2) := by decide +kernel
theorem dX4_settleAt_103 : decode cX4_settleAt 103 = .ok (.getfield 56, 3) := by decide +kernel
theorem dX4_settleAt_106 : decode cX4_settleAt 106 = .ok (.ifCond .ne 8, 3) := by decide +kernel
theorem dX4_settleAt_109 : decode cX4_settleAt 109 = .ok (.fload 6, 2) := by decide +kernel
theorem dX4_settleAt_111 : decode cX4_settleAt 111 = .ok (.goto 5, 3) := by decide +kernel
theorem dX4_settleAt_114 : decode cX4_settleAt 114 = .ok (.fload 5, 2) := by decide +kernel
theorem dX4_settleAt_116 : decode cX4_settleAt 116 = .ok (.fstore 7, 2) := by decide +kernel
theorem dX4_settleAt_118 : decode cX4_settleAt 118 = .ok (.goto 67, 3) := by decide +kernel
theorem dX4_settleAt_121 : decode cX4_settleAt 121 = .ok (.aload 4, 2) := by decide +kernel
theorem dX4_settleAt_123 : decode cX4_settleAt 123 = .ok (.ifnull 62, 3) := by decide +kernel
theorem dX4_settleAt_126 : decode cX4_settleAt 126 = .ok (.aload_n 0, 1) := by decide +kernel
theorem dX4_settleAt_127 : decode cX4_settleAt 127 = .ok (.aload_n 1, 1) := by decide +kernel
theorem dX4_settleAt_128 : decode cX4_settleAt 128 = .ok (.iload_n 2, 1) := by decide +kernel
theorem dX4_settleAt_129 : decode cX4_settleAt 129 = .ok (.invokevirtual 62, 3) := by decide +kernel
theorem dX4_settleAt_132 : decode cX4_settleAt 132 = .ok (.aload_n 0, 1) := by decide +kernel
theorem dX4_settleAt_133 : decode cX4_settleAt 133 = .ok (.aload 4, 2) := by decide +kernel
theorem dX4_settleAt_135 : decode cX4_settleAt 135 = .ok (.aload_n 1, 1) := by decide +kernel
theorem dX4_settleAt_136 : decode cX4_settleAt 136 = .ok (.invokevirtual 65, 3) := by decide +kernel
theorem dX4_settleAt_139 : decode cX4_settleAt 139 = .ok (.aload_n 0, 1) := by decide +kernel
theorem dX4_settleAt_140 : decode cX4_settleAt 140 = .ok (.getfield 17, 3) := by decide +kernel
theorem dX4_settleAt_143 : decode cX4_settleAt 143 = .ok (.iconst 0, 1) := by decide +kernel
theorem dX4_settleAt_144 : decode cX4_settleAt 144 = .ok (.iaload, 1) := by decide +kernel
theorem dX4_settleAt_145 : decode cX4_settleAt 145 = .ok (.aload_n 0, 1) := by decide +kernel
theorem dX4_settleAt_146 : decode cX4_settleAt 146 = .ok (.getfield 69, 3) := by decide +kernel
theorem dX4_settleAt_149 : decode cX4_settleAt 149 = .ok (.if_icmp .ne 7, 3) := by decide +kernel
theorem dX4_settleAt_152 : decode cX4_settleAt 152 = .ok (.iconst 2, 1) := by decide +kernel
theorem dX4_settleAt_153 : decode cX4_settleAt 153 = .ok (.goto 4, 3) := by decide +kernel
theorem dX4_settleAt_156 : decode cX4_settleAt 156 = .ok (.iconst 3, 1) := by decide +kernel
theorem dX4_settleAt_157 : decode cX4_settleAt 157 = .ok (.istore 8, 2) := by decide +kernel
theorem dX4_settleAt_159 : decode cX4_settleAt 159 = .ok (.aload_n 0, 1) := by decide +kernel
theorem dX4_settleAt_160 : decode cX4_settleAt 160 = .ok (.getfield 17, 3) := by decide +kernel
theorem dX4_settleAt_163 : decode cX4_settleAt 163 = .ok (.iconst 0, 1) := by decide +kernel
theorem dX4_settleAt_164 : decode cX4_settleAt 164 = .ok (.iaload, 1) := by decide +kernel
theorem dX4_settleAt_165 : decode cX4_settleAt 165 = .ok (.aload_n 0, 1) := by decide +kernel
theorem dX4_settleAt_166 : decode cX4_settleAt 166 = .ok (.getfield 69, 3) := by decide +kernel
theorem dX4_settleAt_169 : decode cX4_settleAt 169 = .ok (.if_icmp .ne 12, 3) := by decide +kernel
theorem dX4_settleAt_172 : decode cX4_settleAt 172 = .ok (.aload_n 0, 1) := by decide +kernel
theorem dX4_settleAt_173 : decode cX4_settleAt 173 = .ok (.getfield 21, 3) := by decide +kernel
theorem dX4_settleAt_176 : decode cX4_settleAt 176 = .ok (.iconst 0, 1) := by decide +kernel
theorem dX4_settleAt_177 : decode cX4_settleAt 177 = .ok (.faload, 1) := by decide +kernel
theorem dX4_settleAt_178 : decode cX4_settleAt 178 = .ok (.goto 5, 3) := by decide +kernel
theorem dX4_settleAt_181 : decode cX4_settleAt 181 = .ok (.fload 7, 2) := by decide +kernel
theorem dX4_settleAt_183 : decode cX4_settleAt 183 = .ok (.fstore 7, 2) := by decide +kernel
theorem dX4_settleAt_185 : decode cX4_settleAt 185 = .ok (.aload_n 3, 1) := by decide +kernel
theorem dX4_settleAt_186 : decode cX4_settleAt 186 = .ok (.getfield 43, 3) := by decide +kernel
theorem dX4_settleAt_189 : decode cX4_settleAt 189 = .ok (.iload_n 2, 1) := by decide +kernel
theorem dX4_settleAt_190 : decode cX4_settleAt 190 = .ok (.iload 8, 2) := by decide +kernel
theorem dX4_settleAt_192 : decode cX4_settleAt 192 = .ok (.iastore, 1) := by decide +kernel
theorem dX4_settleAt_193 : decode cX4_settleAt 193 = .ok (.aload_n 3, 1) := by decide +kernel
theorem dX4_settleAt_194 : decode cX4_settleAt 194 = .ok (.getfield 53, 3) := by decide +kernel
theorem dX4_settleAt_197 : decode cX4_settleAt 197 = .ok (.iload_n 2, 1) := by decide +kernel
theorem dX4_settleAt_198 : decode cX4_settleAt 198 = .ok (.fload 7, 2) := by decide +kernel
theorem dX4_settleAt_200 : decode cX4_settleAt 200 = .ok (.fastore, 1) := by decide +kernel
theorem dX4_settleAt_201 : decode cX4_settleAt 201 = .ok (.return_, 1) := by decide +kernel
theorem dX4_setUnits_0 : decode cX4_setUnits 0 = .ok (.aload_n 1, 1) := by decide +kernel
theorem dX4_setUnits_1 : decode cX4_setUnits 1 = .ok (.getfield 31, 3) := by decide +kernel
theorem dX4_setUnits_4 : decode cX4_setUnits 4 = .ok (.astore_n 3, 1) := by decide +kernel
theorem dX4_setUnits_5 : decode cX4_setUnits 5 = .ok (.aload_n 0, 1) := by decide +kernel
theorem dX4_setUnits_6 : decode cX4_setUnits 6 = .ok (.iload_n 2, 1) := by decide +kernel
theorem dX4_setUnits_7 : decode cX4_setUnits 7 = .ok (.ifCond .eq 8, 3) := by decide +kernel
theorem dX4_setUnits_10 : decode cX4_setUnits 10 = .ok (.iload_n 2, 1) := by decide +kernel
theorem dX4_setUnits_11 : decode cX4_setUnits 11 = .ok (.iconst 5, 1) := by decide +kernel
theorem dX4_setUnits_12 : decode cX4_setUnits 12 = .ok (.if_icmp .ne 7, 3) := by decide +kernel
theorem dX4_setUnits_15 : decode cX4_setUnits 15 = .ok (.iconst 0, 1) := by decide +kernel
theorem dX4_setUnits_16 : decode cX4_setUnits 16 = .ok (.goto 4, 3) := by decide +kernel
theorem dX4_setUnits_19 : decode cX4_setUnits 19 = .ok (.iconst 1, 1) := by decide +kernel
theorem dX4_setUnits_20 : decode cX4_setUnits 20 = .ok (.putfield 69, 3) := by decide +kernel
theorem dX4_setUnits_23 : decode cX4_setUnits 23 = .ok (.aload_n 0, 1) := by decide +kernel
theorem dX4_setUnits_24 : decode cX4_setUnits 24 = .ok (.aload_n 3, 1) := by decide +kernel
theorem dX4_setUnits_25 : decode cX4_setUnits 25 = .ok (.ifnonnull 7, 3) := by decide +kernel
theorem dX4_setUnits_28 : decode cX4_setUnits 28 = .ok (.fconst 0, 1) := by decide +kernel
theorem dX4_setUnits_29 : decode cX4_setUnits 29 = .ok (.goto 12, 3) := by decide +kernel
theorem dX4_setUnits_32 : decode cX4_setUnits 32 = .ok (.aload_n 3, 1) := by decide +kernel
theorem dX4_setUnits_33 : decode cX4_setUnits 33 = .ok (.getfield 39, 3) := by decide +kernel
theorem dX4_setUnits_36 : decode cX4_setUnits 36 = .ok (.getfield 53, 3) := by decide +kernel
theorem dX4_setUnits_39 : decode cX4_setUnits 39 = .ok (.iload_n 2, 1) := by decide +kernel
theorem dX4_setUnits_40 : decode cX4_setUnits 40 = .ok (.faload, 1) := by decide +kernel
theorem dX4_setUnits_41 : decode cX4_setUnits 41 = .ok (.putfield 72, 3) := by decide +kernel
theorem dX4_setUnits_44 : decode cX4_setUnits 44 = .ok (.iload_n 2, 1) := by decide +kernel
theorem dX4_setUnits_45 : decode cX4_setUnits 45 = .ok (.iconst 1, 1) := by decide +kernel
theorem dX4_setUnits_46 : decode cX4_setUnits 46 = .ok (.if_icmp .eq 19, 3) := by decide +kernel
theorem dX4_setUnits_49 : decode cX4_setUnits 49 = .ok (.aload_n 0, 1) := by decide +kernel
theorem dX4_setUnits_50 : decode cX4_setUnits 50 = .ok (.aload_n 1, 1) := by decide +kernel
theorem dX4_setUnits_51 : decode cX4_setUnits 51 = .ok (.getfield 39, 3) := by decide +kernel
theorem dX4_setUnits_54 : decode cX4_setUnits 54 = .ok (.getfield 53, 3) := by decide +kernel
theorem dX4_setUnits_57 : decode cX4_setUnits 57 = .ok (.iconst 1, 1) := by decide +kernel
theorem dX4_setUnits_58 : decode cX4_setUnits 58 = .ok (.faload, 1) := by decide +kernel
theorem dX4_setUnits_59 : decode cX4_setUnits 59 = .ok (.putfield 76, 3) := by decide +kernel
theorem dX4_setUnits_62 : decode cX4_setUnits 62 = .ok (.goto 20, 3) := by decide +kernel
theorem dX4_setUnits_65 : decode cX4_setUnits 65 = .ok (.aload_n 0, 1) := by decide +kernel
theorem dX4_setUnits_66 : decode cX4_setUnits 66 = .ok (.aload_n 3, 1) := by decide +kernel
theorem dX4_setUnits_67 : decode cX4_setUnits 67 = .ok (.ifnonnull 8, 3) := by decide +kernel
theorem dX4_setUnits_70 : decode cX4_setUnits 70 = .ok (.ldc 52, 2) := by decide +kernel
theorem dX4_setUnits_72 : decode cX4_setUnits 72 = .ok (.goto 7, 3) := by decide +kernel
theorem dX4_setUnits_75 : decode cX4_setUnits 75 = .ok (.aload_n 0, 1) := by decide +kernel
theorem dX4_setUnits_76 : decode cX4_setUnits 76 = .ok (.getfield 72, 3) := by decide +kernel
theorem dX4_setUnits_79 : decode cX4_setUnits 79 = .ok (.putfield 76, 3) := by decide +kernel
theorem dX4_setUnits_82 : decode cX4_setUnits 82 = .ok (.return_, 1) := by decide +kernel
theorem dX4_workOut_0 : decode cX4_workOut 0 = .ok (.aload_n 2, 1) := by decide +kernel
theorem dX4_workOut_1 : decode cX4_workOut 1 = .ok (.astore_n 3, 1) := by decide +kernel
theorem dX4_workOut_2 : decode cX4_workOut 2 = .ok (.aload_n 3, 1) := by decide +kernel
theorem dX4_workOut_3 : decode cX4_workOut 3 = .ok (.ifnull 22, 3) := by decide +kernel
theorem dX4_workOut_6 : decode cX4_workOut 6 = .ok (.aload_n 3, 1) := by decide +kernel
theorem dX4_workOut_7 : decode cX4_workOut 7 = .ok (.getfield 39, 3) := by decide +kernel
theorem dX4_workOut_10 : decode cX4_workOut 10 = .ok (.getfield 79, 3) := by decide +kernel
theorem dX4_workOut_13 : decode cX4_workOut 13 = .ok (.iconst 4, 1) := by decide +kernel
theorem dX4_workOut_14 : decode cX4_workOut 14 = .ok (.invokestatic 82, 3) := by decide +kernel
theorem dX4_workOut_17 : decode cX4_workOut 17 = .ok (.aload_n 3, 1) := by decide +kernel
theorem dX4_workOut_18 : decode cX4_workOut 18 = .ok (.getfield 31, 3) := by decide +kernel
theorem dX4_workOut_21 : decode cX4_workOut 21 = .ok (.astore_n 3, 1) := by decide +kernel
theorem dX4_workOut_22 : decode cX4_workOut 22 = .ok (.goto (-20), 3) := by decide +kernel
theorem dX4_workOut_25 : decode cX4_workOut 25 = .ok (.aload_n 0, 1) := by decide +kernel
theorem dX4_workOut_26 : decode cX4_workOut 26 = .ok (.iconst 0, 1) := by decide +kernel
theorem dX4_workOut_27 : decode cX4_workOut 27 = .ok (.putfield 88, 3) := by decide +kernel
theorem dX4_workOut_30 : decode cX4_workOut 30 = .ok (.iconst 0, 1) := by decide +kernel
theorem dX4_workOut_31 : decode cX4_workOut 31 = .ok (.istore_n 3, 1) := by decide +kernel
theorem dX4_workOut_32 : decode cX4_workOut 32 = .ok (.iload_n 3, 1) := by decide +kernel
theorem dX4_workOut_33 : decode cX4_workOut 33 = .ok (.iconst 2, 1) := by decide +kernel
theorem dX4_workOut_34 : decode cX4_workOut 34 = .ok (.aload_n 0, 1) := by decide +kernel
theorem dX4_workOut_35 : decode cX4_workOut 35 = .ok (.getfield 28, 3) := by decide +kernel
theorem dX4_workOut_38 : decode cX4_workOut 38 = .ok (.arraylength, 1) := by decide +kernel
theorem dX4_workOut_39 : decode cX4_workOut 39 = .ok (.imul, 1) := by decide +kernel
theorem dX4_workOut_40 : decode cX4_workOut 40 = .ok (.if_icmp .gt 131, 3) := by decide +kernel
theorem dX4_workOut_43 : decode cX4_workOut 43 = .ok (.aload_n 0, 1) := by decide +kernel
theorem dX4_workOut_44 : decode cX4_workOut 44 = .ok (.getfield 88, 3) := by decide +kernel
theorem dX4_workOut_47 : decode cX4_workOut 47 = .ok (.iconst 1, 1) := by decide +kernel
theorem dX4_workOut_48 : decode cX4_workOut 48 = .ok (.isub, 1) := by decide +kernel
theorem dX4_workOut_49 : decode cX4_workOut 49 = .ok (.istore 4, 2) := by decide +kernel
theorem dX4_workOut_51 : decode cX4_workOut 51 = .ok (.iload 4, 2) := by decide +kernel
theorem dX4_workOut_53 : decode cX4_workOut 53 = .ok (.ifCond .ge 7, 3) := by decide +kernel
theorem dX4_workOut_56 : decode cX4_workOut 56 = .ok (.aload_n 2, 1) := by decide +kernel
theorem dX4_workOut_57 : decode cX4_workOut 57 = .ok (.goto 10, 3) := by decide +kernel
theorem dX4_workOut_60 : decode cX4_workOut 60 = .ok (.aload_n 0, 1) := by decide +kernel
theorem dX4_workOut_61 : decode cX4_workOut 61 = .ok (.getfield 25, 3) := by decide +kernel
theorem dX4_workOut_64 : decode cX4_workOut 64 = .ok (.iload 4, 2) := by decide +kernel
theorem dX4_workOut_66 : decode cX4_workOut 66 = .ok (.aaload, 1) := by decide +kernel
theorem dX4_workOut_67 : decode cX4_workOut 67 = .ok (.astore 5, 2) := by decide +kernel
theorem dX4_workOut_69 : decode cX4_workOut 69 = .ok (.iload 4, 2) := by decide +kernel
theorem dX4_workOut_71 : decode cX4_workOut 71 = .ok (.ifCond .ge 7, 3) := by decide +kernel
theorem dX4_workOut_74 : decode cX4_workOut 74 = .ok (.aload_n 1, 1) := by decide +kernel
theorem dX4_workOut_75 : decode cX4_workOut 75 = .ok (.goto 19, 3) := by decide +kernel
theorem dX4_workOut_78 : decode cX4_workOut 78 = .ok (.aload 5, 2) := by decide +kernel
theorem dX4_workOut_80 : decode cX4_workOut 80 = .ok (.getfield 39, 3) := by decide +kernel
theorem dX4_workOut_83 : decode cX4_workOut 83 = .ok (.getfield 48, 3) := by decide +kernel
theorem dX4_workOut_86 : decode cX4_workOut 86 = .ok (.aload_n 0, 1) := by decide +kernel
theorem dX4_workOut_87 : decode cX4_workOut 87 = .ok (.getfield 28, 3) := by decide +kernel
theorem dX4_workOut_90 : decode cX4_workOut 90 = .ok (.iload 4, 2) := by decide +kernel
theorem dX4_workOut_92 : decode cX4_workOut 92 = .ok (.iaload, 1) := by decide +kernel
theorem dX4_workOut_93 : decode cX4_workOut 93 = .ok (.aaload, 1) := by decide +kernel
theorem dX4_workOut_94 : decode cX4_workOut 94 = .ok (.astore 6, 2) := by decide +kernel
theorem dX4_workOut_96 : decode cX4_workOut 96 = .ok (.aload_n 0, 1) := by decide +kernel
theorem dX4_workOut_97 : decode cX4_workOut 97 = .ok (.aload 6, 2) := by decide +kernel
theorem dX4_workOut_99 : decode cX4_workOut 99 = .ok (.aload 5, 2) := by decide +kernel
theorem dX4_workOut_101 : decode cX4_workOut 101 = .ok (.invokevirtual 91, 3) := by decide +kernel
theorem dX4_workOut_104 : decode cX4_workOut 104 = .ok (.ifCond .eq 61, 3) := by decide +kernel
theorem dX4_workOut_107 : decode cX4_workOut 107 = .ok (.iload 4, 2) := by decide +kernel
theorem dX4_workOut_109 : decode cX4_workOut 109 = .ok (.ifCond .ge 4, 3) := by decide +kernel
theorem dX4_workOut_112 : decode cX4_workOut 112 = .ok (.return_, 1) := by decide +kernel
theorem dX4_workOut_113 : decode cX4_workOut 113 = .ok (.aload_n 0, 1) := by decide +kernel
theorem dX4_workOut_114 : decode cX4_workOut 114 = .ok (.getfield 28, 3) := by decide +kernel
theorem dX4_workOut_117 : decode cX4_workOut 117 = .ok (.iload 4, 2) := by decide +kernel
theorem dX4_workOut_119 : decode cX4_workOut 119 = .ok (.iaload, 1) := by decide +kernel
theorem dX4_workOut_120 : decode cX4_workOut 120 = .ok (.bipush 6, 2) := by decide +kernel
theorem dX4_workOut_122 : decode cX4_workOut 122 = .ok (.isub, 1) := by decide +kernel
theorem dX4_workOut_123 : decode cX4_workOut 123 = .ok (.istore 7, 2) := by decide +kernel
theorem dX4_workOut_125 : decode cX4_workOut 125 = .ok (.aload 5, 2) := by decide +kernel
theorem dX4_workOut_127 : decode cX4_workOut 127 = .ok (.getfield 39, 3) := by decide +kernel
theorem dX4_workOut_130 : decode cX4_workOut 130 = .ok (.getfield 79, 3) := by decide +kernel
theorem dX4_workOut_133 : decode cX4_workOut 133 = .ok (.iload 7, 2) := by decide +kernel
theorem dX4_workOut_135 : decode cX4_workOut 135 = .ok (.aload_n 0, 1) := by decide +kernel
theorem dX4_workOut_136 : decode cX4_workOut 136 = .ok (.getfield 17, 3) := by decide +kernel
theorem dX4_workOut_139 : decode cX4_workOut 139 = .ok (.iconst 0, 1) := by decide +kernel
theorem dX4_workOut_140 : decode cX4_workOut 140 = .ok (.iaload, 1) := by decide +kernel
theorem dX4_workOut_141 : decode cX4_workOut 141 = .ok (.iastore, 1) := by decide +kernel
theorem dX4_workOut_142 : decode cX4_workOut 142 = .ok (.aload 5, 2) := by decide +kernel
theorem dX4_workOut_144 : decode cX4_workOut 144 = .ok (.getfield 39, 3) := by decide +kernel
theorem dX4_workOut_147 : decode cX4_workOut 147 = .ok (.getfield 95, 3) := by decide +kernel
theorem dX4_workOut_150 : decode cX4_workOut 150 = .ok (.iload 7, 2) := by decide +kernel
theorem dX4_workOut_152 : decode cX4_workOut 152 = .ok (.aload_n 0, 1) := by decide +kernel
theorem dX4_workOut_153 : decode cX4_workOut 153 = .ok (.getfield 21, 3) := by decide +kernel
theorem dX4_workOut_156 : decode cX4_workOut 156 = .ok (.iconst 0, 1) := by decide +kernel
theorem dX4_workOut_157 : decode cX4_workOut 157 = .ok (.faload, 1) := by decide +kernel
theorem dX4_workOut_158 : decode cX4_workOut 158 = .ok (.fastore, 1) := by decide +kernel
theorem dX4_workOut_159 : decode cX4_workOut 159 = .ok (.aload_n 0, 1) := by decide +kernel
theorem dX4_workOut_160 : decode cX4_workOut 160 = .ok (.iload 4, 2) := by decide +kernel
theorem dX4_workOut_162 : decode cX4_workOut 162 = .ok (.putfield 88, 3) := by decide +kernel
theorem dX4_workOut_165 : decode cX4_workOut 165 = .ok (.iinc 3 1, 3) := by decide +kernel
theorem dX4_workOut_168 : decode cX4_workOut 168 = .ok (.goto (-136), 3) := by decide +kernel
theorem dX4_workOut_171 : decode cX4_workOut 171 = .ok (.return_, 1) := by decide +kernel
theorem dX4_pass_0 : decode cX4_pass 0 = .ok (.aload_n 0, 1) := by decide +kernel
theorem dX4_pass_1 : decode cX4_pass 1 = .ok (.iconst 0, 1) := by decide +kernel
theorem dX4_pass_2 : decode cX4_pass 2 = .ok (.putfield 98, 3) := by decide +kernel
theorem dX4_pass_5 : decode cX4_pass 5 = .ok (.iconst 1, 1) := by decide +kernel
theorem dX4_pass_6 : decode cX4_pass 6 = .ok (.istore_n 3, 1) := by decide +kernel
theorem dX4_pass_7 : decode cX4_pass 7 = .ok (.iconst 0, 1) := by decide +kernel
theorem dX4_pass_8 : decode cX4_pass 8 = .ok (.istore 4, 2) := by decide +kernel
theorem dX4_pass_10 : decode cX4_pass 10 = .ok (.iload 4, 2) := by decide +kernel
theorem dX4_pass_12 : decode cX4_pass 12 = .ok (.aload_n 1, 1) := by decide +kernel
theorem dX4_pass_13 : decode cX4_pass 13 = .ok (.getfield 101, 3) := by decide +kernel
theorem dX4_pass_16 : decode cX4_pass 16 = .ok (.arraylength, 1) := by decide +kernel
theorem dX4_pass_17 : decode cX4_pass 17 = .ok (.if_icmp .ge 167, 3) := by decide +kernel
theorem dX4_pass_20 : decode cX4_pass 20 = .ok (.iload_n 3, 1) := by decide +kernel
theorem dX4_pass_21 : decode cX4_pass 21 = .ok (.ifCond .eq 163, 3) := by decide +kernel
theorem dX4_pass_24 : decode cX4_pass 24 = .ok (.aload_n 1, 1) := by decide +kernel
theorem dX4_pass_25 : decode cX4_pass 25 = .ok (.getfield 101, 3) := by decide +kernel
theorem dX4_pass_28 : decode cX4_pass 28 = .ok (.iload 4, 2) := by decide +kernel
theorem dX4_pass_30 : decode cX4_pass 30 = .ok (.iaload, 1) := by decide +kernel
theorem dX4_pass_31 : decode cX4_pass 31 = .ok (.istore 5, 2) := by decide +kernel
theorem dX4_pass_33 : decode cX4_pass 33 = .ok (.iload 5, 2) := by decide +kernel
theorem dX4_pass_35 : decode cX4_pass 35 = .ok (.bipush 9, 2) := by decide +kernel
theorem dX4_pass_37 : decode cX4_pass 37 = .ok (.if_icmp .lt 98, 3) := by decide +kernel
theorem dX4_pass_40 : decode cX4_pass 40 = .ok (.iload 5, 2) := by decide +kernel
theorem dX4_pass_42 : decode cX4_pass 42 = .ok (.bipush 9, 2) := by decide +kernel
theorem dX4_pass_44 : decode cX4_pass 44 = .ok (.isub, 1) := by decide +kernel
theorem dX4_pass_45 : decode cX4_pass 45 = .ok (.istore 6, 2) := by decide +kernel
theorem dX4_pass_47 : decode cX4_pass 47 = .ok (.aload_n 0, 1) := by decide +kernel
theorem dX4_pass_48 : decode cX4_pass 48 = .ok (.bipush 6, 2) := by decide +kernel
theorem dX4_pass_50 : decode cX4_pass 50 = .ok (.iload 6, 2) := by decide +kernel
theorem dX4_pass_52 : decode cX4_pass 52 = .ok (.iadd, 1) := by decide +kernel
theorem dX4_pass_53 : decode cX4_pass 53 = .ok (.aload_n 2, 1) := by decide +kernel
theorem dX4_pass_54 : decode cX4_pass 54 = .ok (.invokevirtual 104, 3) := by decide +kernel
theorem dX4_pass_57 : decode cX4_pass 57 = .ok (.astore 7, 2) := by decide +kernel
theorem dX4_pass_59 : decode cX4_pass 59 = .ok (.aload 7, 2) := by decide +kernel
theorem dX4_pass_61 : decode cX4_pass 61 = .ok (.ifnull 31, 3) := by decide +kernel
theorem dX4_pass_64 : decode cX4_pass 64 = .ok (.aload 7, 2) := by decide +kernel
theorem dX4_pass_66 : decode cX4_pass 66 = .ok (.getfield 39, 3) := by decide +kernel
theorem dX4_pass_69 : decode cX4_pass 69 = .ok (.getfield 79, 3) := by decide +kernel
theorem dX4_pass_72 : decode cX4_pass 72 = .ok (.iload 6, 2) := by decide +kernel
theorem dX4_pass_74 : decode cX4_pass 74 = .ok (.iaload, 1) := by decide +kernel
theorem dX4_pass_75 : decode cX4_pass 75 = .ok (.iconst 4, 1) := by decide +kernel
theorem dX4_pass_76 : decode cX4_pass 76 = .ok (.if_icmp .ne 16, 3) := by decide +kernel
theorem dX4_pass_79 : decode cX4_pass 79 = .ok (.aload_n 0, 1) := by decide +kernel
theorem dX4_pass_80 : decode cX4_pass 80 = .ok (.bipush 6, 2) := by decide +kernel
theorem dX4_pass_82 : decode cX4_pass 82 = .ok (.iload 6, 2) := by decide +kernel
theorem dX4_pass_84 : decode cX4_pass 84 = .ok (.iadd, 1) := by decide +kernel
theorem dX4_pass_85 : decode cX4_pass 85 = .ok (.aload 7, 2) := by decide +kernel
theorem dX4_pass_87 : decode cX4_pass 87 = .ok (.invokevirtual 108, 3) := by decide +kernel
theorem dX4_pass_90 : decode cX4_pass 90 = .ok (.iconst 0, 1) := by decide +kernel
theorem dX4_pass_91 : decode cX4_pass 91 = .ok (.ireturn, 1) := by decide +kernel
theorem dX4_pass_92 : decode cX4_pass 92 = .ok (.aload 7, 2) := by decide +kernel
theorem dX4_pass_94 : decode cX4_pass 94 = .ok (.ifnull 36, 3) := by decide +kernel
theorem dX4_pass_97 : decode cX4_pass 97 = .ok (.aload_n 0, 1) := by decide +kernel
theorem dX4_pass_98 : decode cX4_pass 98 = .ok (.aload 7, 2) := by decide +kernel
theorem dX4_pass_100 : decode cX4_pass 100 = .ok (.getfield 39, 3) := by decide +kernel
theorem dX4_pass_103 : decode cX4_pass 103 = .ok (.getfield 79, 3) := by decide +kernel
theorem dX4_pass_106 : decode cX4_pass 106 = .ok (.iload 6, 2) := by decide +kernel
theorem dX4_pass_108 : decode cX4_pass 108 = .ok (.iaload, 1) := by decide +kernel
theorem dX4_pass_109 : decode cX4_pass 109 = .ok (.aload 7, 2) := by decide +kernel
theorem dX4_pass_111 : decode cX4_pass 111 = .ok (.getfield 39, 3) := by decide +kernel
theorem dX4_pass_114 : decode cX4_pass 114 = .ok (.getfield 95, 3) := by decide +kernel
theorem dX4_pass_117 : decode cX4_pass 117 = .ok (.iload 6, 2) := by decide +kernel
theorem dX4_pass_119 : decode cX4_pass 119 = .ok (.faload, 1) := by decide +kernel
theorem dX4_pass_120 : decode cX4_pass 120 = .ok (.invokevirtual 112, 3) := by decide +kernel
theorem dX4_pass_123 : decode cX4_pass 123 = .ok (.ifCond .eq 7, 3) := by decide +kernel
theorem dX4_pass_126 : decode cX4_pass 126 = .ok (.iconst 1, 1) := by decide +kernel
theorem dX4_pass_127 : decode cX4_pass 127 = .ok (.goto 4, 3) := by decide +kernel
theorem dX4_pass_130 : decode cX4_pass 130 = .ok (.iconst 0, 1) := by decide +kernel
theorem dX4_pass_131 : decode cX4_pass 131 = .ok (.istore_n 3, 1) := by decide +kernel
theorem dX4_pass_132 : decode cX4_pass 132 = .ok (.goto 46, 3) := by decide +kernel
theorem dX4_pass_135 : decode cX4_pass 135 = .ok (.iload 5, 2) := by decide +kernel
theorem dX4_pass_137 : decode cX4_pass 137 = .ok (.iconst 3, 1) := by decide +kernel
theorem dX4_pass_138 : decode cX4_pass 138 = .ok (.if_icmp .gt 20, 3) := by decide +kernel
theorem dX4_pass_141 : decode cX4_pass 141 = .ok (.aload_n 0, 1) := by decide +kernel
theorem dX4_pass_142 : decode cX4_pass 142 = .ok (.iload 5, 2) := by decide +kernel
theorem dX4_pass_144 : decode cX4_pass 144 = .ok (.aload_n 1, 1) := by decide +kernel
theorem dX4_pass_145 : decode cX4_pass 145 = .ok (.getfield 116, 3) := by decide +kernel
theorem dX4_pass_148 : decode cX4_pass 148 = .ok (.iload 4, 2) := by decide +kernel
theorem dX4_pass_150 : decode cX4_pass 150 = .ok (.faload, 1) := by decide +kernel
theorem dX4_pass_151 : decode cX4_pass 151 = .ok (.invokevirtual 119, 3) := by decide +kernel
theorem dX4_pass_154 : decode cX4_pass 154 = .ok (.istore_n 3, 1) := by decide +kernel
theorem dX4_pass_155 : decode cX4_pass 155 = .ok (.goto 23, 3) := by decide +kernel
theorem dX4_pass_158 : decode cX4_pass 158 = .ok (.iload 5, 2) := by decide +kernel
theorem dX4_pass_160 : decode cX4_pass 160 = .ok (.iconst 4, 1) := by decide +kernel
theorem dX4_pass_161 : decode cX4_pass 161 = .ok (.if_icmp .ne 10, 3) := by decide +kernel
theorem dX4_pass_164 : decode cX4_pass 164 = .ok (.aload_n 0, 1) := by decide +kernel
theorem dX4_pass_165 : decode cX4_pass 165 = .ok (.invokevirtual 122, 3) := by decide +kernel
theorem dX4_pass_168 : decode cX4_pass 168 = .ok (.goto 9, 3) := by decide +kernel
theorem dX4_pass_171 : decode cX4_pass 171 = .ok (.aload_n 0, 1) := by decide +kernel
theorem dX4_pass_172 : decode cX4_pass 172 = .ok (.iload 5, 2) := by decide +kernel
theorem dX4_pass_174 : decode cX4_pass 174 = .ok (.invokevirtual 126, 3) := by decide +kernel
theorem dX4_pass_177 : decode cX4_pass 177 = .ok (.istore_n 3, 1) := by decide +kernel
theorem dX4_pass_178 : decode cX4_pass 178 = .ok (.iinc 4 1, 3) := by decide +kernel
theorem dX4_pass_181 : decode cX4_pass 181 = .ok (.goto (-171), 3) := by decide +kernel
theorem dX4_pass_184 : decode cX4_pass 184 = .ok (.iload_n 3, 1) := by decide +kernel
theorem dX4_pass_185 : decode cX4_pass 185 = .ok (.ifCond .ne 10, 3) := by decide +kernel
theorem dX4_pass_188 : decode cX4_pass 188 = .ok (.aload_n 0, 1) := by decide +kernel
theorem dX4_pass_189 : decode cX4_pass 189 = .ok (.getfield 17, 3) := by decide +kernel
theorem dX4_pass_192 : decode cX4_pass 192 = .ok (.iconst 0, 1) := by decide +kernel
theorem dX4_pass_193 : decode cX4_pass 193 = .ok (.iconst 2, 1) := by decide +kernel
theorem dX4_pass_194 : decode cX4_pass 194 = .ok (.iastore, 1) := by decide +kernel
theorem dX4_pass_195 : decode cX4_pass 195 = .ok (.iconst 1, 1) := by decide +kernel
theorem dX4_pass_196 : decode cX4_pass 196 = .ok (.ireturn, 1) := by decide +kernel
theorem dX4_find_0 : decode cX4_find 0 = .ok (.aload_n 2, 1) := by decide +kernel
theorem dX4_find_1 : decode cX4_find 1 = .ok (.astore_n 3, 1) := by decide +kernel
theorem dX4_find_2 : decode cX4_find 2 = .ok (.aload_n 3, 1) := by decide +kernel
theorem dX4_find_3 : decode cX4_find 3 = .ok (.ifnull 50, 3) := by decide +kernel
theorem dX4_find_6 : decode cX4_find 6 = .ok (.aload_n 3, 1) := by decide +kernel
theorem dX4_find_7 : decode cX4_find 7 = .ok (.getfield 39, 3) := by decide +kernel
theorem dX4_find_10 : decode cX4_find 10 = .ok (.getfield 48, 3) := by decide +kernel
theorem dX4_find_13 : decode cX4_find 13 = .ok (.iload_n 1, 1) := by decide +kernel
theorem dX4_find_14 : decode cX4_find 14 = .ok (.aaload, 1) := by decide +kernel
theorem dX4_find_15 : decode cX4_find 15 = .ok (.astore 4, 2) := by decide +kernel
theorem dX4_find_17 : decode cX4_find 17 = .ok (.aload 4, 2) := by decide +kernel
theorem dX4_find_19 : decode cX4_find 19 = .ok (.ifnull 26, 3) := by decide +kernel
theorem dX4_find_22 : decode cX4_find 22 = .ok (.aload 4, 2) := by decide +kernel
theorem dX4_find_24 : decode cX4_find 24 = .ok (.getfield 56, 3) := by decide +kernel
theorem dX4_find_27 : decode cX4_find 27 = .ok (.ifCond .eq 18, 3) := by decide +kernel
theorem dX4_find_30 : decode cX4_find 30 = .ok (.aload 4, 2) := by decide +kernel
theorem dX4_find_32 : decode cX4_find 32 = .ok (.getfield 56, 3) := by decide +kernel
theorem dX4_find_35 : decode cX4_find 35 = .ok (.iconst 2, 1) := by decide +kernel
theorem dX4_find_36 : decode cX4_find 36 = .ok (.if_icmp .ne 7, 3) := by decide +kernel
theorem dX4_find_39 : decode cX4_find 39 = .ok (.aload_n 3, 1) := by decide +kernel
theorem dX4_find_40 : decode cX4_find 40 = .ok (.goto 4, 3) := by decide +kernel
theorem dX4_find_43 : decode cX4_find 43 = .ok (.aconst_null, 1) := by decide +kernel
theorem dX4_find_44 : decode cX4_find 44 = .ok (.areturn, 1) := by decide +kernel
theorem dX4_find_45 : decode cX4_find 45 = .ok (.aload_n 3, 1) := by decide +kernel
theorem dX4_find_46 : decode cX4_find 46 = .ok (.getfield 31, 3) := by decide +kernel
theorem dX4_find_49 : decode cX4_find 49 = .ok (.astore_n 3, 1) := by decide +kernel
theorem dX4_find_50 : decode cX4_find 50 = .ok (.goto (-48), 3) := by decide +kernel
theorem dX4_find_53 : decode cX4_find 53 = .ok (.aconst_null, 1) := by decide +kernel
theorem dX4_find_54 : decode cX4_find 54 = .ok (.areturn, 1) := by decide +kernel
theorem dX4_open_0 : decode cX4_open 0 = .ok (.aload_n 2, 1) := by decide +kernel
theorem dX4_open_1 : decode cX4_open 1 = .ok (.getfield 39, 3) := by decide +kernel
theorem dX4_open_4 : decode cX4_open 4 = .ok (.getfield 79, 3) := by decide +kernel
theorem dX4_open_7 : decode cX4_open 7 = .ok (.iload_n 1, 1) := by decide +kernel
theorem dX4_open_8 : decode cX4_open 8 = .ok (.bipush 6, 2) := by decide +kernel
theorem dX4_open_10 : decode cX4_open 10 = .ok (.isub, 1) := by decide +kernel
theorem dX4_open_11 : decode cX4_open 11 = .ok (.iconst 3, 1) := by decide +kernel
theorem dX4_open_12 : decode cX4_open 12 = .ok (.iastore, 1) := by decide +kernel
theorem dX4_open_13 : decode cX4_open 13 = .ok (.aload_n 0, 1) := by decide +kernel
theorem dX4_open_14 : decode cX4_open 14 = .ok (.getfield 88, 3) := by decide +kernel
theorem dX4_open_17 : decode cX4_open 17 = .ok (.aload_n 0, 1) := by decide +kernel
theorem dX4_open_18 : decode cX4_open 18 = .ok (.getfield 28, 3) := by decide +kernel
theorem dX4_open_21 : decode cX4_open 21 = .ok (.arraylength, 1) := by decide +kernel
theorem dX4_open_22 : decode cX4_open 22 = .ok (.if_icmp .ge 33, 3) := by decide +kernel
theorem dX4_open_25 : decode cX4_open 25 = .ok (.aload_n 0, 1) := by decide +kernel
theorem dX4_open_26 : decode cX4_open 26 = .ok (.getfield 25, 3) := by decide +kernel
theorem dX4_open_29 : decode cX4_open 29 = .ok (.aload_n 0, 1) := by decide +kernel
theorem dX4_open_30 : decode cX4_open 30 = .ok (.getfield 88, 3) := by decide +kernel
theorem dX4_open_33 : decode cX4_open 33 = .ok (.aload_n 2, 1) := by decide +kernel
theorem dX4_open_34 : decode cX4_open 34 = .ok (.aastore, 1) := by decide +kernel
theorem dX4_open_35 : decode cX4_open 35 = .ok (.aload_n 0, 1) := by decide +kernel
theorem dX4_open_36 : decode cX4_open 36 = .ok (.getfield 28, 3) := by decide +kernel
theorem dX4_open_39 : decode cX4_open 39 = .ok (.aload_n 0, 1) := by decide +kernel
theorem dX4_open_40 : decode cX4_open 40 = .ok (.getfield 88, 3) := by decide +kernel
theorem dX4_open_43 : decode cX4_open 43 = .ok (.iload_n 1, 1) := by decide +kernel
theorem dX4_open_44 : decode cX4_open 44 = .ok (.iastore, 1) := by decide +kernel
theorem dX4_open_45 : decode cX4_open 45 = .ok (.aload_n 0, 1) := by decide +kernel
theorem dX4_open_46 : decode cX4_open 46 = .ok (.dup, 1) := by decide +kernel
theorem dX4_open_47 : decode cX4_open 47 = .ok (.getfield 88, 3) := by decide +kernel
theorem dX4_open_50 : decode cX4_open 50 = .ok (.iconst 1, 1) := by decide +kernel
theorem dX4_open_51 : decode cX4_open 51 = .ok (.iadd, 1) := by decide +kernel
theorem dX4_open_52 : decode cX4_open 52 = .ok (.putfield 88, 3) := by decide +kernel
theorem dX4_open_55 : decode cX4_open 55 = .ok (.return_, 1) := by decide +kernel
theorem dX4_push_0 : decode cX4_push 0 = .ok (.iload_n 1, 1) := by decide +kernel
theorem dX4_push_1 : decode cX4_push 1 = .ok (.ifCond .eq 8, 3) := by decide +kernel
theorem dX4_push_4 : decode cX4_push 4 = .ok (.iload_n 1, 1) := by decide +kernel
theorem dX4_push_5 : decode cX4_push 5 = .ok (.iconst 1, 1) := by decide +kernel
theorem dX4_push_6 : decode cX4_push 6 = .ok (.if_icmp .ne 7, 3) := by decide +kernel
theorem dX4_push_9 : decode cX4_push 9 = .ok (.iconst 1, 1) := by decide +kernel
theorem dX4_push_10 : decode cX4_push 10 = .ok (.goto 4, 3) := by decide +kernel
theorem dX4_push_13 : decode cX4_push 13 = .ok (.iconst 0, 1) := by decide +kernel
theorem dX4_push_14 : decode cX4_push 14 = .ok (.istore_n 3, 1) := by decide +kernel
theorem dX4_push_15 : decode cX4_push 15 = .ok (.iload_n 3, 1) := by decide +kernel
theorem dX4_push_16 : decode cX4_push 16 = .ok (.ifCond .eq 29, 3) := by decide +kernel
theorem dX4_push_19 : decode cX4_push 19 = .ok (.fload_n 2, 1) := by decide +kernel
theorem dX4_push_20 : decode cX4_push 20 = .ok (.ldc 130, 2) := by decide +kernel
theorem dX4_push_22 : decode cX4_push 22 = .ok (.fcmp .l, 1) := by decide +kernel
theorem dX4_push_23 : decode cX4_push 23 = .ok (.ifCond .gt 22, 3) := by decide +kernel
theorem dX4_push_26 : decode cX4_push 26 = .ok (.fload_n 2, 1) := by decide +kernel
theorem dX4_push_27 : decode cX4_push 27 = .ok (.ldc 131, 2) := by decide +kernel
theorem dX4_push_29 : decode cX4_push 29 = .ok (.fcmp .g, 1) := by decide +kernel
theorem dX4_push_30 : decode cX4_push 30 = .ok (.ifCond .lt 15, 3) := by decide +kernel
theorem dX4_push_33 : decode cX4_push 33 = .ok (.aload_n 0, 1) := by decide +kernel
theorem dX4_push_34 : decode cX4_push 34 = .ok (.getfield 98, 3) := by decide +kernel
theorem dX4_push_37 : decode cX4_push 37 = .ok (.aload_n 0, 1) := by decide +kernel
theorem dX4_push_38 : decode cX4_push 38 = .ok (.getfield 17, 3) := by decide +kernel
theorem dX4_push_41 : decode cX4_push 41 = .ok (.arraylength, 1) := by decide +kernel
theorem dX4_push_42 : decode cX4_push 42 = .ok (.if_icmp .lt 5, 3) := by decide +kernel
theorem dX4_push_45 : decode cX4_push 45 = .ok (.iconst 0, 1) := by decide +kernel
theorem dX4_push_46 : decode cX4_push 46 = .ok (.ireturn, 1) := by decide +kernel
theorem dX4_push_47 : decode cX4_push 47 = .ok (.aload_n 0, 1) := by decide +kernel
theorem dX4_push_48 : decode cX4_push 48 = .ok (.getfield 17, 3) := by decide +kernel
theorem dX4_push_51 : decode cX4_push 51 = .ok (.aload_n 0, 1) := by decide +kernel
theorem dX4_push_52 : decode cX4_push 52 = .ok (.getfield 98, 3) := by decide +kernel
theorem dX4_push_55 : decode cX4_push 55 = .ok (.iload_n 1, 1) := by decide +kernel
theorem dX4_push_56 : decode cX4_push 56 = .ok (.iastore, 1) := by decide +kernel
theorem dX4_push_57 : decode cX4_push 57 = .ok (.aload_n 0, 1) := by decide +kernel
theorem dX4_push_58 : decode cX4_push 58 = .ok (.getfield 21, 3) := by decide +kernel
theorem dX4_push_61 : decode cX4_push 61 = .ok (.aload_n 0, 1) := by decide +kernel
theorem dX4_push_62 : decode cX4_push 62 = .ok (.getfield 98, 3) := by decide +kernel
theorem dX4_push_65 : decode cX4_push 65 = .ok (.fload_n 2, 1) := by decide +kernel
theorem dX4_push_66 : decode cX4_push 66 = .ok (.fastore, 1) := by decide +kernel
theorem dX4_push_67 : decode cX4_push 67 = .ok (.aload_n 0, 1) := by decide +kernel
theorem dX4_push_68 : decode cX4_push 68 = .ok (.dup, 1) := by decide +kernel
theorem dX4_push_69 : decode cX4_push 69 = .ok (.getfield 98, 3) := by decide +kernel
theorem dX4_push_72 : decode cX4_push 72 = .ok (.iconst 1, 1) := by decide +kernel
theorem dX4_push_73 : decode cX4_push 73 = .ok (.iadd, 1) := by decide +kernel
theorem dX4_push_74 : decode cX4_push 74 = .ok (.putfield 98, 3) := by decide +kernel
theorem dX4_push_77 : decode cX4_push 77 = .ok (.iconst 1, 1) := by decide +kernel
theorem dX4_push_78 : decode cX4_push 78 = .ok (.ireturn, 1) := by decide +kernel
theorem dX4_pushNumber_0 : decode cX4_pushNumber 0 = .ok (.iload_n 1, 1) := by decide +kernel
theorem dX4_pushNumber_1 : decode cX4_pushNumber 1 = .ok (.tableswitch 64 1 3 #[27, 34, 46], 27) := by decide +kernel
theorem dX4_pushNumber_28 : decode cX4_pushNumber 28 = .ok (.aload_n 0, 1) := by decide +kernel
theorem dX4_pushNumber_29 : decode cX4_pushNumber 29 = .ok (.iconst 1, 1) := by decide +kernel
theorem dX4_pushNumber_30 : decode cX4_pushNumber 30 = .ok (.fload_n 2, 1) := by decide +kernel
theorem dX4_pushNumber_31 : decode cX4_pushNumber 31 = .ok (.invokevirtual 112, 3) := by decide +kernel
theorem dX4_pushNumber_34 : decode cX4_pushNumber 34 = .ok (.ireturn, 1) := by decide +kernel
theorem dX4_pushNumber_35 : decode cX4_pushNumber 35 = .ok (.aload_n 0, 1) := by decide +kernel
theorem dX4_pushNumber_36 : decode cX4_pushNumber 36 = .ok (.iconst 1, 1) := by decide +kernel
theorem dX4_pushNumber_37 : decode cX4_pushNumber 37 = .ok (.fload_n 2, 1) := by decide +kernel
theorem dX4_pushNumber_38 : decode cX4_pushNumber 38 = .ok (.aload_n 0, 1) := by decide +kernel
theorem dX4_pushNumber_39 : decode cX4_pushNumber 39 = .ok (.getfield 76, 3) := by decide +kernel
theorem dX4_pushNumber_42 : decode cX4_pushNumber 42 = .ok (.fmul, 1) := by decide +kernel
theorem dX4_pushNumber_43 : decode cX4_pushNumber 43 = .ok (.invokevirtual 112, 3) := by decide +kernel
theorem dX4_pushNumber_46 : decode cX4_pushNumber 46 = .ok (.ireturn, 1) := by decide +kernel
theorem dX4_pushNumber_47 : decode cX4_pushNumber 47 = .ok (.aload_n 0, 1) := by decide +kernel
theorem dX4_pushNumber_48 : decode cX4_pushNumber 48 = .ok (.aload_n 0, 1) := by decide +kernel
theorem dX4_pushNumber_49 : decode cX4_pushNumber 49 = .ok (.getfield 69, 3) := by decide +kernel
theorem dX4_pushNumber_52 : decode cX4_pushNumber 52 = .ok (.fload_n 2, 1) := by decide +kernel
theorem dX4_pushNumber_53 : decode cX4_pushNumber 53 = .ok (.aload_n 0, 1) := by decide +kernel
theorem dX4_pushNumber_54 : decode cX4_pushNumber 54 = .ok (.getfield 72, 3) := by decide +kernel
theorem dX4_pushNumber_57 : decode cX4_pushNumber 57 = .ok (.fmul, 1) := by decide +kernel
theorem dX4_pushNumber_58 : decode cX4_pushNumber 58 = .ok (.ldc 132, 2) := by decide +kernel
theorem dX4_pushNumber_60 : decode cX4_pushNumber 60 = .ok (.fdiv, 1) := by decide +kernel
theorem dX4_pushNumber_61 : decode cX4_pushNumber 61 = .ok (.invokevirtual 112, 3) := by decide +kernel
theorem dX4_pushNumber_64 : decode cX4_pushNumber 64 = .ok (.ireturn, 1) := by decide +kernel
theorem dX4_pushNumber_65 : decode cX4_pushNumber 65 = .ok (.aload_n 0, 1) := by decide +kernel
theorem dX4_pushNumber_66 : decode cX4_pushNumber 66 = .ok (.iconst 0, 1) := by decide +kernel
theorem dX4_pushNumber_67 : decode cX4_pushNumber 67 = .ok (.fload_n 2, 1) := by decide +kernel
theorem dX4_pushNumber_68 : decode cX4_pushNumber 68 = .ok (.invokevirtual 112, 3) := by decide +kernel
theorem dX4_pushNumber_71 : decode cX4_pushNumber 71 = .ok (.ireturn, 1) := by decide +kernel
theorem dX4_negate_0 : decode cX4_negate 0 = .ok (.aload_n 0, 1) := by decide +kernel
theorem dX4_negate_1 : decode cX4_negate 1 = .ok (.getfield 98, 3) := by decide +kernel
theorem dX4_negate_4 : decode cX4_negate 4 = .ok (.iconst 1, 1) := by decide +kernel
theorem dX4_negate_5 : decode cX4_negate 5 = .ok (.if_icmp .ge 5, 3) := by decide +kernel
theorem dX4_negate_8 : decode cX4_negate 8 = .ok (.iconst 0, 1) := by decide +kernel
theorem dX4_negate_9 : decode cX4_negate 9 = .ok (.ireturn, 1) := by decide +kernel
theorem dX4_negate_10 : decode cX4_negate 10 = .ok (.aload_n 0, 1) := by decide +kernel
theorem dX4_negate_11 : decode cX4_negate 11 = .ok (.getfield 21, 3) := by decide +kernel
theorem dX4_negate_14 : decode cX4_negate 14 = .ok (.aload_n 0, 1) := by decide +kernel
theorem dX4_negate_15 : decode cX4_negate 15 = .ok (.getfield 98, 3) := by decide +kernel
theorem dX4_negate_18 : decode cX4_negate 18 = .ok (.iconst 1, 1) := by decide +kernel
theorem dX4_negate_19 : decode cX4_negate 19 = .ok (.isub, 1) := by decide +kernel
theorem dX4_negate_20 : decode cX4_negate 20 = .ok (.aload_n 0, 1) := by decide +kernel
theorem dX4_negate_21 : decode cX4_negate 21 = .ok (.getfield 21, 3) := by decide +kernel
theorem dX4_negate_24 : decode cX4_negate 24 = .ok (.aload_n 0, 1) := by decide +kernel
theorem dX4_negate_25 : decode cX4_negate 25 = .ok (.getfield 98, 3) := by decide +kernel
theorem dX4_negate_28 : decode cX4_negate 28 = .ok (.iconst 1, 1) := by decide +kernel
theorem dX4_negate_29 : decode cX4_negate 29 = .ok (.isub, 1) := by decide +kernel
theorem dX4_negate_30 : decode cX4_negate 30 = .ok (.faload, 1) := by decide +kernel
theorem dX4_negate_31 : decode cX4_negate 31 = .ok (.fneg, 1) := by decide +kernel
theorem dX4_negate_32 : decode cX4_negate 32 = .ok (.fastore, 1) := by decide +kernel
theorem dX4_negate_33 : decode cX4_negate 33 = .ok (.iconst 1, 1) := by decide +kernel
theorem dX4_negate_34 : decode cX4_negate 34 = .ok (.ireturn, 1) := by decide +kernel
theorem dX4_combine_0 : decode cX4_combine 0 = .ok (.aload_n 0, 1) := by decide +kernel
theorem dX4_combine_1 : decode cX4_combine 1 = .ok (.getfield 98, 3) := by decide +kernel
theorem dX4_combine_4 : decode cX4_combine 4 = .ok (.iconst 2, 1) := by decide +kernel
theorem dX4_combine_5 : decode cX4_combine 5 = .ok (.if_icmp .ge 5, 3) := by decide +kernel
theorem dX4_combine_8 : decode cX4_combine 8 = .ok (.iconst 0, 1) := by decide +kernel
theorem dX4_combine_9 : decode cX4_combine 9 = .ok (.ireturn, 1) := by decide +kernel
theorem dX4_combine_10 : decode cX4_combine 10 = .ok (.aload_n 0, 1) := by decide +kernel
theorem dX4_combine_11 : decode cX4_combine 11 = .ok (.dup, 1) := by decide +kernel
theorem dX4_combine_12 : decode cX4_combine 12 = .ok (.getfield 98, 3) := by decide +kernel
theorem dX4_combine_15 : decode cX4_combine 15 = .ok (.iconst 2, 1) := by decide +kernel
theorem dX4_combine_16 : decode cX4_combine 16 = .ok (.isub, 1) := by decide +kernel
theorem dX4_combine_17 : decode cX4_combine 17 = .ok (.putfield 98, 3) := by decide +kernel
theorem dX4_combine_20 : decode cX4_combine 20 = .ok (.aload_n 0, 1) := by decide +kernel
theorem dX4_combine_21 : decode cX4_combine 21 = .ok (.getfield 17, 3) := by decide +kernel
theorem dX4_combine_24 : decode cX4_combine 24 = .ok (.aload_n 0, 1) := by decide +kernel
theorem dX4_combine_25 : decode cX4_combine 25 = .ok (.getfield 98, 3) := by decide +kernel
theorem dX4_combine_28 : decode cX4_combine 28 = .ok (.iaload, 1) := by decide +kernel
theorem dX4_combine_29 : decode cX4_combine 29 = .ok (.istore_n 2, 1) := by decide +kernel
theorem dX4_combine_30 : decode cX4_combine 30 = .ok (.aload_n 0, 1) := by decide +kernel
theorem dX4_combine_31 : decode cX4_combine 31 = .ok (.getfield 17, 3) := by decide +kernel
theorem dX4_combine_34 : decode cX4_combine 34 = .ok (.aload_n 0, 1) := by decide +kernel
theorem dX4_combine_35 : decode cX4_combine 35 = .ok (.getfield 98, 3) := by decide +kernel
theorem dX4_combine_38 : decode cX4_combine 38 = .ok (.iconst 1, 1) := by decide +kernel
theorem dX4_combine_39 : decode cX4_combine 39 = .ok (.iadd, 1) := by decide +kernel
theorem dX4_combine_40 : decode cX4_combine 40 = .ok (.iaload, 1) := by decide +kernel
theorem dX4_combine_41 : decode cX4_combine 41 = .ok (.istore_n 3, 1) := by decide +kernel
theorem dX4_combine_42 : decode cX4_combine 42 = .ok (.aload_n 0, 1) := by decide +kernel
theorem dX4_combine_43 : decode cX4_combine 43 = .ok (.getfield 21, 3) := by decide +kernel
theorem dX4_combine_46 : decode cX4_combine 46 = .ok (.aload_n 0, 1) := by decide +kernel
theorem dX4_combine_47 : decode cX4_combine 47 = .ok (.getfield 98, 3) := by decide +kernel
theorem dX4_combine_50 : decode cX4_combine 50 = .ok (.faload, 1) := by decide +kernel
theorem dX4_combine_51 : decode cX4_combine 51 = .ok (.fstore 4, 2) := by decide +kernel
theorem dX4_combine_53 : decode cX4_combine 53 = .ok (.aload_n 0, 1) := by decide +kernel
theorem dX4_combine_54 : decode cX4_combine 54 = .ok (.getfield 21, 3) := by decide +kernel
theorem dX4_combine_57 : decode cX4_combine 57 = .ok (.aload_n 0, 1) := by decide +kernel
theorem dX4_combine_58 : decode cX4_combine 58 = .ok (.getfield 98, 3) := by decide +kernel
theorem dX4_combine_61 : decode cX4_combine 61 = .ok (.iconst 1, 1) := by decide +kernel
theorem dX4_combine_62 : decode cX4_combine 62 = .ok (.iadd, 1) := by decide +kernel
theorem dX4_combine_63 : decode cX4_combine 63 = .ok (.faload, 1) := by decide +kernel
theorem dX4_combine_64 : decode cX4_combine 64 = .ok (.fstore 5, 2) := by decide +kernel
theorem dX4_combine_66 : decode cX4_combine 66 = .ok (.iload_n 1, 1) := by decide +kernel
theorem dX4_combine_67 : decode cX4_combine 67 = .ok (.tableswitch 120 5 7 #[25, 49, 73], 25) := by decide +kernel
theorem dX4_combine_92 : decode cX4_combine 92 = .ok (.iload_n 2, 1) := by decide +kernel
theorem dX4_combine_93 : decode cX4_combine 93 = .ok (.iload_n 3, 1) := by decide +kernel
theorem dX4_combine_94 : decode cX4_combine 94 = .ok (.if_icmp .ne 20, 3) := by decide +kernel
theorem dX4_combine_97 : decode cX4_combine 97 = .ok (.aload_n 0, 1) := by decide +kernel
theorem dX4_combine_98 : decode cX4_combine 98 = .ok (.iload_n 2, 1) := by decide +kernel
theorem dX4_combine_99 : decode cX4_combine 99 = .ok (.fload 4, 2) := by decide +kernel
theorem dX4_combine_101 : decode cX4_combine 101 = .ok (.fload 5, 2) := by decide +kernel
theorem dX4_combine_103 : decode cX4_combine 103 = .ok (.fadd, 1) := by decide +kernel
theorem dX4_combine_104 : decode cX4_combine 104 = .ok (.invokevirtual 112, 3) := by decide +kernel
theorem dX4_combine_107 : decode cX4_combine 107 = .ok (.ifCond .eq 7, 3) := by decide +kernel
theorem dX4_combine_110 : decode cX4_combine 110 = .ok (.iconst 1, 1) := by decide +kernel
theorem dX4_combine_111 : decode cX4_combine 111 = .ok (.goto 4, 3) := by decide +kernel
theorem dX4_combine_114 : decode cX4_combine 114 = .ok (.iconst 0, 1) := by decide +kernel
theorem dX4_combine_115 : decode cX4_combine 115 = .ok (.ireturn, 1) := by decide +kernel
theorem dX4_combine_116 : decode cX4_combine 116 = .ok (.iload_n 2, 1) := by decide +kernel
theorem dX4_combine_117 : decode cX4_combine 117 = .ok (.iload_n 3, 1) := by decide +kernel
theorem dX4_combine_118 : decode cX4_combine 118 = .ok (.if_icmp .ne 20, 3) := by decide +kernel
theorem dX4_combine_121 : decode cX4_combine 121 = .ok (.aload_n 0, 1) := by decide +kernel
theorem dX4_combine_122 : decode cX4_combine 122 = .ok (.iload_n 2, 1) := by decide +kernel
theorem dX4_combine_123 : decode cX4_combine 123 = .ok (.fload 4, 2) := by decide +kernel
theorem dX4_combine_125 : decode cX4_combine 125 = .ok (.fload 5, 2) := by decide +kernel
theorem dX4_combine_127 : decode cX4_combine 127 = .ok (.fsub, 1) := by decide +kernel
theorem dX4_combine_128 : decode cX4_combine 128 = .ok (.invokevirtual 112, 3) := by decide +kernel
theorem dX4_combine_131 : decode cX4_combine 131 = .ok (.ifCond .eq 7, 3) := by decide +kernel
theorem dX4_combine_134 : decode cX4_combine 134 = .ok (.iconst 1, 1) := by decide +kernel
theorem dX4_combine_135 : decode cX4_combine 135 = .ok (.goto 4, 3) := by decide +kernel
theorem dX4_combine_138 : decode cX4_combine 138 = .ok (.iconst 0, 1) := by decide +kernel
theorem dX4_combine_139 : decode cX4_combine 139 = .ok (.ireturn, 1) := by decide +kernel
theorem dX4_combine_140 : decode cX4_combine 140 = .ok (.iload_n 2, 1) := by decide +kernel
theorem dX4_combine_141 : decode cX4_combine 141 = .ok (.ifCond .eq 7, 3) := by decide +kernel
theorem dX4_combine_144 : decode cX4_combine 144 = .ok (.iload_n 3, 1) := by decide +kernel
theorem dX4_combine_145 : decode cX4_combine 145 = .ok (.ifCond .ne 7, 3) := by decide +kernel
theorem dX4_combine_148 : decode cX4_combine 148 = .ok (.iconst 1, 1) := by decide +kernel
theorem dX4_combine_149 : decode cX4_combine 149 = .ok (.goto 4, 3) := by decide +kernel
theorem dX4_combine_152 : decode cX4_combine 152 = .ok (.iconst 0, 1) := by decide +kernel
theorem dX4_combine_153 : decode cX4_combine 153 = .ok (.istore 6, 2) := by decide +kernel
theorem dX4_combine_155 : decode cX4_combine 155 = .ok (.iload 6, 2) := by decide +kernel
theorem dX4_combine_157 : decode cX4_combine 157 = .ok (.ifCond .eq 28, 3) := by decide +kernel
theorem dX4_combine_160 : decode cX4_combine 160 = .ok (.aload_n 0, 1) := by decide +kernel
theorem dX4_combine_161 : decode cX4_combine 161 = .ok (.iload_n 2, 1) := by decide +kernel
theorem dX4_combine_162 : decode cX4_combine 162 = .ok (.ifCond .ne 7, 3) := by decide +kernel
theorem dX4_combine_165 : decode cX4_combine 165 = .ok (.iload_n 3, 1) := by decide +kernel
theorem dX4_combine_166 : decode cX4_combine 166 = .ok (.goto 4, 3) := by decide +kernel
theorem dX4_combine_169 : decode cX4_combine 169 = .ok (.iload_n 2, 1) := by decide +kernel
theorem dX4_combine_170 : decode cX4_combine 170 = .ok (.fload 4, 2) := by decide +kernel
theorem dX4_combine_172 : decode cX4_combine 172 = .ok (.fload 5, 2) := by decide +kernel
theorem dX4_combine_174 : decode cX4_combine 174 = .ok (.fmul, 1) := by decide +kernel
theorem dX4_combine_175 : decode cX4_combine 175 = .ok (.invokevirtual 112, 3) := by decide +kernel
theorem dX4_combine_178 : decode cX4_combine 178 = .ok (.ifCond .eq 7, 3) := by decide +kernel
theorem dX4_combine_181 : decode cX4_combine 181 = .ok (.iconst 1, 1) := by decide +kernel
theorem dX4_combine_182 : decode cX4_combine 182 = .ok (.goto 4, 3) := by decide +kernel
theorem dX4_combine_185 : decode cX4_combine 185 = .ok (.iconst 0, 1) := by decide +kernel
theorem dX4_combine_186 : decode cX4_combine 186 = .ok (.ireturn, 1) := by decide +kernel
theorem dX4_combine_187 : decode cX4_combine 187 = .ok (.iload_n 3, 1) := by decide +kernel
theorem dX4_combine_188 : decode cX4_combine 188 = .ok (.ifCond .ne 27, 3) := by decide +kernel
theorem dX4_combine_191 : decode cX4_combine 191 = .ok (.fload 5, 2) := by decide +kernel
theorem dX4_combine_193 : decode cX4_combine 193 = .ok (.fconst 0, 1) := by decide +kernel
theorem dX4_combine_194 : decode cX4_combine 194 = .ok (.fcmp .l, 1) := by decide +kernel
theorem dX4_combine_195 : decode cX4_combine 195 = .ok (.ifCond .eq 20, 3) := by decide +kernel
theorem dX4_combine_198 : decode cX4_combine 198 = .ok (.aload_n 0, 1) := by decide +kernel
theorem dX4_combine_199 : decode cX4_combine 199 = .ok (.iload_n 2, 1) := by decide +kernel
theorem dX4_combine_200 : decode cX4_combine 200 = .ok (.fload 4, 2) := by decide +kernel
theorem dX4_combine_202 : decode cX4_combine 202 = .ok (.fload 5, 2) := by decide +kernel
theorem dX4_combine_204 : decode cX4_combine 204 = .ok (.fdiv, 1) := by decide +kernel
theorem dX4_combine_205 : decode cX4_combine 205 = .ok (.invokevirtual 112, 3) := by decide +kernel
theorem dX4_combine_208 : decode cX4_combine 208 = .ok (.ifCond .eq 7, 3) := by decide +kernel
theorem dX4_combine_211 : decode cX4_combine 211 = .ok (.iconst 1, 1) := by decide +kernel
theorem dX4_combine_212 : decode cX4_combine 212 = .ok (.goto 4, 3) := by decide +kernel
theorem dX4_combine_215 : decode cX4_combine 215 = .ok (.iconst 0, 1) := by decide +kernel
theorem dX4_combine_216 : decode cX4_combine 216 = .ok (.ireturn, 1) := by decide +kernel
theorem dX5_init_0 : decode cX5_init 0 = .ok (.aload_n 0, 1) := by decide +kernel
theorem dX5_init_1 : decode cX5_init 1 = .ok (.invokespecial 3, 3) := by decide +kernel
theorem dX5_init_4 : decode cX5_init 4 = .ok (.aload_n 0, 1) := by decide +kernel
theorem dX5_init_5 : decode cX5_init 5 = .ok (.aload_n 1, 1) := by decide +kernel
theorem dX5_init_6 : decode cX5_init 6 = .ok (.putfield 9, 3) := by decide +kernel
theorem dX5_init_9 : decode cX5_init 9 = .ok (.aload_n 0, 1) := by decide +kernel
theorem dX5_init_10 : decode cX5_init 10 = .ok (.aload_n 2, 1) := by decide +kernel
theorem dX5_init_11 : decode cX5_init 11 = .ok (.putfield 15, 3) := by decide +kernel
theorem dX5_init_14 : decode cX5_init 14 = .ok (.return_, 1) := by decide +kernel
theorem dX5_meet_0 : decode cX5_meet 0 = .ok (.aload_n 0, 1) := by decide +kernel
theorem dX5_meet_1 : decode cX5_meet 1 = .ok (.getfield 9, 3) := by decide +kernel
theorem dX5_meet_4 : decode cX5_meet 4 = .ok (.astore_n 3, 1) := by decide +kernel
theorem dX5_meet_5 : decode cX5_meet 5 = .ok (.aload_n 3, 1) := by decide +kernel
theorem dX5_meet_6 : decode cX5_meet 6 = .ok (.ifnull 17, 3) := by decide +kernel
theorem dX5_meet_9 : decode cX5_meet 9 = .ok (.aload_n 3, 1) := by decide +kernel
theorem dX5_meet_10 : decode cX5_meet 10 = .ok (.aload_n 1, 1) := by decide +kernel
theorem dX5_meet_11 : decode cX5_meet 11 = .ok (.iload_n 2, 1) := by decide +kernel
theorem dX5_meet_12 : decode cX5_meet 12 = .ok (.invokevirtual 19, 3) := by decide +kernel
theorem dX5_meet_15 : decode cX5_meet 15 = .ok (.aload_n 3, 1) := by decide +kernel
theorem dX5_meet_16 : decode cX5_meet 16 = .ok (.getfield 25, 3) := by decide +kernel
theorem dX5_meet_19 : decode cX5_meet 19 = .ok (.astore_n 3, 1) := by decide +kernel
theorem dX5_meet_20 : decode cX5_meet 20 = .ok (.goto (-15), 3) := by decide +kernel
theorem dX5_meet_23 : decode cX5_meet 23 = .ok (.return_, 1) := by decide +kernel
theorem dX5_heaviest_0 : decode cX5_heaviest 0 = .ok (.iconst (-1), 1) := by decide +kernel
theorem dX5_heaviest_1 : decode cX5_heaviest 1 = .ok (.istore_n 2, 1) := by decide +kernel
theorem dX5_heaviest_2 : decode cX5_heaviest 2 = .ok (.aload_n 0, 1) := by decide +kernel
theorem dX5_heaviest_3 : decode cX5_heaviest 3 = .ok (.getfield 9, 3) := by decide +kernel
theorem dX5_heaviest_6 : decode cX5_heaviest 6 = .ok (.astore_n 3, 1) := by decide +kernel
theorem dX5_heaviest_7 : decode cX5_heaviest 7 = .ok (.aload_n 3, 1) := by decide +kernel
theorem dX5_heaviest_8 : decode cX5_heaviest 8 = .ok (.ifnull 29, 3) := by decide +kernel
theorem dX5_heaviest_11 : decode cX5_heaviest 11 = .ok (.aload_n 3, 1) := by decide +kernel
theorem dX5_heaviest_12 : decode cX5_heaviest 12 = .ok (.getfield 28, 3) := by decide +kernel
theorem dX5_heaviest_15 : decode cX5_heaviest 15 = .ok (.iload_n 1, 1) := by decide +kernel
theorem dX5_heaviest_16 : decode cX5_heaviest 16 = .ok (.iand, 1) := by decide +kernel
theorem dX5_heaviest_17 : decode cX5_heaviest 17 = .ok (.ifCond .eq 12, 3) := by decide +kernel
theorem dX5_heaviest_20 : decode cX5_heaviest 20 = .ok (.iload_n 2, 1) := by decide +kernel
theorem dX5_heaviest_21 : decode cX5_heaviest 21 = .ok (.aload_n 3, 1) := by decide +kernel
theorem dX5_heaviest_22 : decode cX5_heaviest 22 = .ok (.getfield 32, 3) := by decide +kernel
theorem dX5_heaviest_25 : decode cX5_heaviest 25 = .ok (.invokestatic 35, 3) := by decide +kernel
theorem dX5_heaviest_28 : decode cX5_heaviest 28 = .ok (.istore_n 2, 1) := by decide +kernel
theorem dX5_heaviest_29 : decode cX5_heaviest 29 = .ok (.aload_n 3, 1) := by decide +kernel
theorem dX5_heaviest_30 : decode cX5_heaviest 30 = .ok (.getfield 25, 3) := by decide +kernel
theorem dX5_heaviest_33 : decode cX5_heaviest 33 = .ok (.astore_n 3, 1) := by decide +kernel
theorem dX5_heaviest_34 : decode cX5_heaviest 34 = .ok (.goto (-27), 3) := by decide +kernel
theorem dX5_heaviest_37 : decode cX5_heaviest 37 = .ok (.iload_n 2, 1) := by decide +kernel
theorem dX5_heaviest_38 : decode cX5_heaviest 38 = .ok (.ireturn, 1) := by decide +kernel
theorem dX6_init_0 : decode cX6_init 0 = .ok (.aload_n 0, 1) := by decide +kernel
theorem dX6_init_1 : decode cX6_init 1 = .ok (.invokespecial 1, 3) := by decide +kernel
theorem dX6_init_4 : decode cX6_init 4 = .ok (.aload_n 0, 1) := by decide +kernel
theorem dX6_init_5 : decode cX6_init 5 = .ok (.aload_n 1, 1) := by decide +kernel
theorem dX6_init_6 : decode cX6_init 6 = .ok (.putfield 7, 3) := by decide +kernel
theorem dX6_init_9 : decode cX6_init 9 = .ok (.aload_n 0, 1) := by decide +kernel
theorem dX6_init_10 : decode cX6_init 10 = .ok (.iload_n 2, 1) := by decide +kernel
theorem dX6_init_11 : decode cX6_init 11 = .ok (.putfield 13, 3) := by decide +kernel
theorem dX6_init_14 : decode cX6_init 14 = .ok (.aload_n 0, 1) := by decide +kernel
theorem dX6_init_15 : decode cX6_init 15 = .ok (.iconst 0, 1) := by decide +kernel
theorem dX6_init_16 : decode cX6_init 16 = .ok (.putfield 17, 3) := by decide +kernel
theorem dX6_init_19 : decode cX6_init 19 = .ok (.aload_n 0, 1) := by decide +kernel
theorem dX6_init_20 : decode cX6_init 20 = .ok (.aconst_null, 1) := by decide +kernel
theorem dX6_init_21 : decode cX6_init 21 = .ok (.putfield 20, 3) := by decide +kernel
theorem dX6_init_24 : decode cX6_init 24 = .ok (.return_, 1) := by decide +kernel
theorem dX6_meet_0 : decode cX6_meet 0 = .ok (.iconst 0, 1) := by decide +kernel
theorem dX6_meet_1 : decode cX6_meet 1 = .ok (.istore_n 3, 1) := by decide +kernel
theorem dX6_meet_2 : decode cX6_meet 2 = .ok (.aload_n 0, 1) := by decide +kernel
theorem dX6_meet_3 : decode cX6_meet 3 = .ok (.getfield 7, 3) := by decide +kernel
theorem dX6_meet_6 : decode cX6_meet 6 = .ok (.astore 4, 2) := by decide +kernel
theorem dX6_meet_8 : decode cX6_meet 8 = .ok (.aload 4, 2) := by decide +kernel
theorem dX6_meet_10 : decode cX6_meet 10 = .ok (.ifnull 96, 3) := by decide +kernel
theorem dX6_meet_13 : decode cX6_meet 13 = .ok (.iconst 0, 1) := by decide +kernel
theorem dX6_meet_14 : decode cX6_meet 14 = .ok (.istore 5, 2) := by decide +kernel
theorem dX6_meet_16 : decode cX6_meet 16 = .ok (.iconst 0, 1) := by decide +kernel
theorem dX6_meet_17 : decode cX6_meet 17 = .ok (.istore 6, 2) := by decide +kernel
theorem dX6_meet_19 : decode cX6_meet 19 = .ok (.iload 6, 2) := by decide +kernel
theorem dX6_meet_21 : decode cX6_meet 21 = .ok (.iload_n 2, 1) := by decide +kernel
theorem dX6_meet_22 : decode cX6_meet 22 = .ok (.if_icmp .ge 71, 3) := by decide +kernel
theorem dX6_meet_25 : decode cX6_meet 25 = .ok (.aload_n 1, 1) := by decide +kernel
theorem dX6_meet_26 : decode cX6_meet 26 = .ok (.iload 6, 2) := by decide +kernel
theorem dX6_meet_28 : decode cX6_meet 28 = .ok (.aaload, 1) := by decide +kernel
theorem dX6_meet_29 : decode cX6_meet 29 = .ok (.astore 7, 2) := by decide +kernel
theorem dX6_meet_31 : decode cX6_meet 31 = .ok (.aload 4, 2) := by decide +kernel
theorem dX6_meet_33 : decode cX6_meet 33 = .ok (.aload_n 0, 1) := by decide +kernel
theorem dX6_meet_34 : decode cX6_meet 34 = .ok (.getfield 7, 3) := by decide +kernel
theorem dX6_meet_37 : decode cX6_meet 37 = .ok (.if_acmp .eq 18, 3) := by decide +kernel
theorem dX6_meet_40 : decode cX6_meet 40 = .ok (.aload 7, 2) := by decide +kernel
theorem dX6_meet_42 : decode cX6_meet 42 = .ok (.aload 4, 2) := by decide +kernel
theorem dX6_meet_44 : decode cX6_meet 44 = .ok (.getfield 24, 3) := by decide +kernel
theorem dX6_meet_47 : decode cX6_meet 47 = .ok (.invokevirtual 29, 3) := by decide +kernel
theorem dX6_meet_50 : decode cX6_meet 50 = .ok (.iload_n 3, 1) := by decide +kernel
theorem dX6_meet_51 : decode cX6_meet 51 = .ok (.iand, 1) := by decide +kernel
theorem dX6_meet_52 : decode cX6_meet 52 = .ok (.ifCond .eq 7, 3) := by decide +kernel
theorem dX6_meet_55 : decode cX6_meet 55 = .ok (.iconst 1, 1) := by decide +kernel
theorem dX6_meet_56 : decode cX6_meet 56 = .ok (.goto 4, 3) := by decide +kernel
theorem dX6_meet_59 : decode cX6_meet 59 = .ok (.iconst 0, 1) := by decide +kernel
theorem dX6_meet_60 : decode cX6_meet 60 = .ok (.istore 8, 2) := by decide +kernel
theorem dX6_meet_62 : decode cX6_meet 62 = .ok (.iload 8, 2) := by decide +kernel
theorem dX6_meet_64 : decode cX6_meet 64 = .ok (.ifCond .eq 23, 3) := by decide +kernel
theorem dX6_meet_67 : decode cX6_meet 67 = .ok (.aload 4, 2) := by decide +kernel
theorem dX6_meet_69 : decode cX6_meet 69 = .ok (.aload 7, 2) := by decide +kernel
theorem dX6_meet_71 : decode cX6_meet 71 = .ok (.invokevirtual 35, 3) := by decide +kernel
theorem dX6_meet_74 : decode cX6_meet 74 = .ok (.ifCond .eq 13, 3) := by decide +kernel
theorem dX6_meet_77 : decode cX6_meet 77 = .ok (.iload 5, 2) := by decide +kernel
theorem dX6_meet_79 : decode cX6_meet 79 = .ok (.aload 7, 2) := by decide +kernel
theorem dX6_meet_81 : decode cX6_meet 81 = .ok (.getfield 39, 3) := by decide +kernel
theorem dX6_meet_84 : decode cX6_meet 84 = .ok (.ior, 1) := by decide +kernel
theorem dX6_meet_85 : decode cX6_meet 85 = .ok (.istore 5, 2) := by decide +kernel
theorem dX6_meet_87 : decode cX6_meet 87 = .ok (.iinc 6 1, 3) := by decide +kernel
theorem dX6_meet_90 : decode cX6_meet 90 = .ok (.goto (-71), 3) := by decide +kernel
theorem dX6_meet_93 : decode cX6_meet 93 = .ok (.iload 5, 2) := by decide +kernel
theorem dX6_meet_95 : decode cX6_meet 95 = .ok (.istore_n 3, 1) := by decide +kernel
theorem dX6_meet_96 : decode cX6_meet 96 = .ok (.aload 4, 2) := by decide +kernel
theorem dX6_meet_98 : decode cX6_meet 98 = .ok (.getfield 42, 3) := by decide +kernel
theorem dX6_meet_101 : decode cX6_meet 101 = .ok (.astore 4, 2) := by decide +kernel
theorem dX6_meet_103 : decode cX6_meet 103 = .ok (.goto (-95), 3) := by decide +kernel
theorem dX6_meet_106 : decode cX6_meet 106 = .ok (.aload_n 0, 1) := by decide +kernel
theorem dX6_meet_107 : decode cX6_meet 107 = .ok (.iload_n 3, 1) := by decide +kernel
theorem dX6_meet_108 : decode cX6_meet 108 = .ok (.putfield 17, 3) := by decide +kernel
theorem dX6_meet_111 : decode cX6_meet 111 = .ok (.return_, 1) := by decide +kernel
theorem dX7_init_0 : decode cX7_init 0 = .ok (.aload_n 0, 1) := by decide +kernel
theorem dX7_init_1 : decode cX7_init 1 = .ok (.invokespecial 3, 3) := by decide +kernel
theorem dX7_init_4 : decode cX7_init 4 = .ok (.aload_n 0, 1) := by decide +kernel
theorem dX7_init_5 : decode cX7_init 5 = .ok (.bipush 10, 2) := by decide +kernel
theorem dX7_init_7 : decode cX7_init 7 = .ok (.anewarray 9, 3) := by decide +kernel
theorem dX7_init_10 : decode cX7_init 10 = .ok (.putfield 11, 3) := by decide +kernel
theorem dX7_init_13 : decode cX7_init 13 = .ok (.aload_n 0, 1) := by decide +kernel
theorem dX7_init_14 : decode cX7_init 14 = .ok (.bipush 10, 2) := by decide +kernel
theorem dX7_init_16 : decode cX7_init 16 = .ok (.newarray .int, 2) := by decide +kernel
theorem dX7_init_18 : decode cX7_init 18 = .ok (.putfield 17, 3) := by decide +kernel
theorem dX7_init_21 : decode cX7_init 21 = .ok (.aload_n 0, 1) := by decide +kernel
theorem dX7_init_22 : decode cX7_init 22 = .ok (.bipush 10, 2) := by decide +kernel
theorem dX7_init_24 : decode cX7_init 24 = .ok (.newarray .int, 2) := by decide +kernel
theorem dX7_init_26 : decode cX7_init 26 = .ok (.putfield 21, 3) := by decide +kernel
theorem dX7_init_29 : decode cX7_init 29 = .ok (.aload_n 0, 1) := by decide +kernel
theorem dX7_init_30 : decode cX7_init 30 = .ok (.bipush 6, 2) := by decide +kernel
theorem dX7_init_32 : decode cX7_init 32 = .ok (.newarray .float, 2) := by decide +kernel
theorem dX7_init_34 : decode cX7_init 34 = .ok (.putfield 24, 3) := by decide +kernel
theorem dX7_init_37 : decode cX7_init 37 = .ok (.aload_n 0, 1) := by decide +kernel
theorem dX7_init_38 : decode cX7_init 38 = .ok (.bipush 6, 2) := by decide +kernel
theorem dX7_init_40 : decode cX7_init 40 = .ok (.newarray .int, 2) := by decide +kernel
theorem dX7_init_42 : decode cX7_init 42 = .ok (.putfield 28, 3) := by decide +kernel
theorem dX7_init_45 : decode cX7_init 45 = .ok (.aload_n 0, 1) := by decide +kernel
theorem dX7_init_46 : decode cX7_init 46 = .ok (.iconst 4, 1) := by decide +kernel
theorem dX7_init_47 : decode cX7_init 47 = .ok (.newarray .int, 2) := by decide +kernel
theorem dX7_init_49 : decode cX7_init 49 = .ok (.putfield 31, 3) := by decide +kernel
theorem dX7_init_52 : decode cX7_init 52 = .ok (.aload_n 0, 1) := by decide +kernel
theorem dX7_init_53 : decode cX7_init 53 = .ok (.iconst 4, 1) := by decide +kernel
theorem dX7_init_54 : decode cX7_init 54 = .ok (.newarray .float, 2) := by decide +kernel
theorem dX7_init_56 : decode cX7_init 56 = .ok (.putfield 34, 3) := by decide +kernel
theorem dX7_init_59 : decode cX7_init 59 = .ok (.return_, 1) := by decide +kernel
theorem dX7_clear_0 : decode cX7_clear 0 = .ok (.iconst 0, 1) := by decide +kernel
theorem dX7_clear_1 : decode cX7_clear 1 = .ok (.istore_n 1, 1) := by decide +kernel
theorem dX7_clear_2 : decode cX7_clear 2 = .ok (.iload_n 1, 1) := by decide +kernel
theorem dX7_clear_3 : decode cX7_clear 3 = .ok (.bipush 10, 2) := by decide +kernel
theorem dX7_clear_5 : decode cX7_clear 5 = .ok (.if_icmp .ge 16, 3) := by decide +kernel
theorem dX7_clear_8 : decode cX7_clear 8 = .ok (.aload_n 0, 1) := by decide +kernel
theorem dX7_clear_9 : decode cX7_clear 9 = .ok (.getfield 11, 3) := by decide +kernel
theorem dX7_clear_12 : decode cX7_clear 12 = .ok (.iload_n 1, 1) := by decide +kernel
theorem dX7_clear_13 : decode cX7_clear 13 = .ok (.aconst_null, 1) := by decide +kernel
theorem dX7_clear_14 : decode cX7_clear 14 = .ok (.aastore, 1) := by decide +kernel
theorem dX7_clear_15 : decode cX7_clear 15 = .ok (.iinc 1 1, 3) := by decide +kernel
theorem dX7_clear_18 : decode cX7_clear 18 = .ok (.goto (-16), 3) := by decide +kernel
theorem dX7_clear_21 : decode cX7_clear 21 = .ok (.aload_n 0, 1) := by decide +kernel
theorem dX7_clear_22 : decode cX7_clear 22 = .ok (.getfield 28, 3) := by decide +kernel
theorem dX7_clear_25 : decode cX7_clear 25 = .ok (.iconst 4, 1) := by decide +kernel
theorem dX7_clear_26 : decode cX7_clear 26 = .ok (.invokestatic 37, 3) := by decide +kernel
theorem dX7_clear_29 : decode cX7_clear 29 = .ok (.return_, 1) := by decide +kernel
theorem dX7_offer_0 : decode cX7_offer 0 = .ok (.aload_n 1, 1) := by decide +kernel
theorem dX7_offer_1 : decode cX7_offer 1 = .ok (.getfield 43, 3) := by decide +kernel
theorem dX7_offer_4 : decode cX7_offer 4 = .ok (.istore 4, 2) := by decide +kernel
theorem dX7_offer_6 : decode cX7_offer 6 = .ok (.aload_n 0, 1) := by decide +kernel
theorem dX7_offer_7 : decode cX7_offer 7 = .ok (.getfield 11, 3) := by decide +kernel
theorem dX7_offer_10 : decode cX7_offer 10 = .ok (.iload 4, 2) := by decide +kernel
theorem dX7_offer_12 : decode cX7_offer 12 = .ok (.aaload, 1) := by decide +kernel
theorem dX7_offer_13 : decode cX7_offer 13 = .ok (.astore 5, 2) := by decide +kernel
theorem dX7_offer_15 : decode cX7_offer 15 = .ok (.aload 5, 2) := by decide +kernel
theorem dX7_offer_17 : decode cX7_offer 17 = .ok (.ifnull 38, 3) := by decide +kernel
theorem dX7_offer_20 : decode cX7_offer 20 = .ok (.aload_n 1, 1) := by decide +kernel
theorem dX7_offer_21 : decode cX7_offer 21 = .ok (.getfield 47, 3) := by decide +kernel
theorem dX7_offer_24 : decode cX7_offer 24 = .ok (.aload 5, 2) := by decide +kernel
theorem dX7_offer_26 : decode cX7_offer 26 = .ok (.getfield 47, 3) := by decide +kernel
theorem dX7_offer_29 : decode cX7_offer 29 = .ok (.if_icmp .gt 26, 3) := by decide +kernel
theorem dX7_offer_32 : decode cX7_offer 32 = .ok (.aload_n 1, 1) := by decide +kernel
theorem dX7_offer_33 : decode cX7_offer 33 = .ok (.getfield 47, 3) := by decide +kernel
theorem dX7_offer_36 : decode cX7_offer 36 = .ok (.aload 5, 2) := by decide +kernel
theorem dX7_offer_38 : decode cX7_offer 38 = .ok (.getfield 47, 3) := by decide +kernel
theorem dX7_offer_41 : decode cX7_offer 41 = .ok (.if_icmp .ne 18, 3) := by decide +kernel
theorem dX7_offer_44 : decode cX7_offer 44 = .ok (.iload_n 3, 1) := by decide +kernel
theorem dX7_offer_45 : decode cX7_offer 45 = .ok (.aload_n 0, 1) := by decide +kernel
theorem dX7_offer_46 : decode cX7_offer 46 = .ok (.getfield 21, 3) := by decide +kernel
theorem dX7_offer_49 : decode cX7_offer 49 = .ok (.iload 4, 2) := by decide +kernel
theorem dX7_offer_51 : decode cX7_offer 51 = .ok (.iaload, 1) := by decide +kernel
theorem dX7_offer_52 : decode cX7_offer 52 = .ok (.if_icmp .lt 7, 3) := by decide +kernel
theorem dX7_offer_55 : decode cX7_offer 55 = .ok (.iconst 1, 1) := by decide +kernel
theorem dX7_offer_56 : decode cX7_offer 56 = .ok (.goto 4, 3) := by decide +kernel
theorem dX7_offer_59 : decode cX7_offer 59 = .ok (.iconst 0, 1) := by decide +kernel
theorem dX7_offer_60 : decode cX7_offer 60 = .ok (.istore 6, 2) := by decide +kernel
theorem dX7_offer_62 : decode cX7_offer 62 = .ok (.iload 6, 2) := by decide +kernel
theorem dX7_offer_64 : decode cX7_offer 64 = .ok (.ifCond .eq 27, 3) := by decide +kernel
theorem dX7_offer_67 : decode cX7_offer 67 = .ok (.aload_n 0, 1) := by decide +kernel
theorem dX7_offer_68 : decode cX7_offer 68 = .ok (.getfield 11, 3) := by decide +kernel
theorem dX7_offer_71 : decode cX7_offer 71 = .ok (.iload 4, 2) := by decide +kernel
theorem dX7_offer_73 : decode cX7_offer 73 = .ok (.aload_n 1, 1) := by decide +kernel
theorem dX7_offer_74 : decode cX7_offer 74 = .ok (.aastore, 1) := by decide +kernel
theorem dX7_offer_75 : decode cX7_offer 75 = .ok (.aload_n 0, 1) := by decide +kernel
theorem dX7_offer_76 : decode cX7_offer 76 = .ok (.getfield 17, 3) := by decide +kernel
theorem dX7_offer_79 : decode cX7_offer 79 = .ok (.iload 4, 2) := by decide +kernel
theorem dX7_offer_81 : decode cX7_offer 81 = .ok (.iload_n 2, 1) := by decide +kernel
theorem dX7_offer_82 : decode cX7_offer 82 = .ok (.iastore, 1) := by decide +kernel
theorem dX7_offer_83 : decode cX7_offer 83 = .ok (.aload_n 0, 1) := by decide +kernel
theorem dX7_offer_84 : decode cX7_offer 84 = .ok (.getfield 21, 3) := by decide +kernel
theorem dX7_offer_87 : decode cX7_offer 87 = .ok (.iload 4, 2) := by decide +kernel
theorem dX7_offer_89 : decode cX7_offer 89 = .ok (.iload_n 3, 1) := by decide +kernel
theorem dX7_offer_90 : decode cX7_offer 90 = .ok (.iastore, 1) := by decide +kernel
theorem dX7_offer_91 : decode cX7_offer 91 = .ok (.return_, 1) := by decide +kernel
theorem dX7_leadingRule_0 : decode cX7_leadingRule 0 = .ok (.aload_n 0, 1) := by decide +kernel
theorem dX7_leadingRule_1 : decode cX7_leadingRule 1 = .ok (.getfield 11, 3) := by decide +kernel
theorem dX7_leadingRule_4 : decode cX7_leadingRule 4 = .ok (.iload_n 1, 1) := by decide +kernel
theorem dX7_leadingRule_5 : decode cX7_leadingRule 5 = .ok (.aaload, 1) := by decide +kernel
theorem dX7_leadingRule_6 : decode cX7_leadingRule 6 = .ok (.ifnonnull 7, 3) := by decide +kernel
theorem dX7_leadingRule_9 : decode cX7_leadingRule 9 = .ok (.iconst (-1), 1) := by decide +kernel
theorem dX7_leadingRule_10 : decode cX7_leadingRule 10 = .ok (.goto 9, 3) := by decide +kernel
theorem dX7_leadingRule_13 : decode cX7_leadingRule 13 = .ok (.aload_n 0, 1) := by decide +kernel
theorem dX7_leadingRule_14 : decode cX7_leadingRule 14 = .ok (.getfield 17, 3) := by decide +kernel
theorem dX7_leadingRule_17 : decode cX7_leadingRule 17 = .ok (.iload_n 1, 1) := by decide +kernel
theorem dX7_leadingRule_18 : decode cX7_leadingRule 18 = .ok (.iaload, 1) := by decide +kernel
theorem dX7_leadingRule_19 : decode cX7_leadingRule 19 = .ok (.ireturn, 1) := by decide +kernel
theorem dX8_init_0 : decode cX8_init 0 = .ok (.aload_n 0, 1) := by decide +kernel
theorem dX8_init_1 : decode cX8_init 1 = .ok (.invokespecial 3, 3) := by decide +kernel
theorem dX8_init_4 : decode cX8_init 4 = .ok (.aload_n 0, 1) := by decide +kernel
theorem dX8_init_5 : decode cX8_init 5 = .ok (.bipush 120, 2) := by decide +kernel
theorem dX8_init_7 : decode cX8_init 7 = .ok (.newarray .char, 2) := by decide +kernel
theorem dX8_init_9 : decode cX8_init 9 = .ok (.putfield 9, 3) := by decide +kernel
theorem dX8_init_12 : decode cX8_init 12 = .ok (.aload_n 0, 1) := by decide +kernel
theorem dX8_init_13 : decode cX8_init 13 = .ok (.iconst 0, 1) := by decide +kernel
theorem dX8_init_14 : decode cX8_init 14 = .ok (.putfield 15, 3) := by decide +kernel
theorem dX8_init_17 : decode cX8_init 17 = .ok (.aload_n 0, 1) := by decide +kernel
theorem dX8_init_18 : decode cX8_init 18 = .ok (.iconst 0, 1) := by decide +kernel
theorem dX8_init_19 : decode cX8_init 19 = .ok (.putfield 19, 3) := by decide +kernel
theorem dX8_init_22 : decode cX8_init 22 = .ok (.aload_n 0, 1) := by decide +kernel
theorem dX8_init_23 : decode cX8_init 23 = .ok (.iconst 0, 1) := by decide +kernel
theorem dX8_init_24 : decode cX8_init 24 = .ok (.putfield 22, 3) := by decide +kernel
theorem dX8_init_27 : decode cX8_init 27 = .ok (.aload_n 0, 1) := by decide +kernel
theorem dX8_init_28 : decode cX8_init 28 = .ok (.bipush 120, 2) := by decide +kernel
theorem dX8_init_30 : decode cX8_init 30 = .ok (.newarray .int, 2) := by decide +kernel
theorem dX8_init_32 : decode cX8_init 32 = .ok (.putfield 25, 3) := by decide +kernel
theorem dX8_init_35 : decode cX8_init 35 = .ok (.aload_n 0, 1) := by decide +kernel
theorem dX8_init_36 : decode cX8_init 36 = .ok (.bipush 120, 2) := by decide +kernel
theorem dX8_init_38 : decode cX8_init 38 = .ok (.newarray .float, 2) := by decide +kernel
theorem dX8_init_40 : decode cX8_init 40 = .ok (.putfield 29, 3) := by decide +kernel
theorem dX8_init_43 : decode cX8_init 43 = .ok (.aload_n 0, 1) := by decide +kernel
theorem dX8_init_44 : decode cX8_init 44 = .ok (.iconst 0, 1) := by decide +kernel
theorem dX8_init_45 : decode cX8_init 45 = .ok (.putfield 33, 3) := by decide +kernel
theorem dX8_init_48 : decode cX8_init 48 = .ok (.return_, 1) := by decide +kernel
theorem dX8_append_0 : decode cX8_append 0 = .ok (.iload_n 2, 1) := by decide +kernel
theorem dX8_append_1 : decode cX8_append 1 = .ok (.iconst 1, 1) := by decide +kernel
theorem dX8_append_2 : decode cX8_append 2 = .ok (.if_icmp .lt 22, 3) := by decide +kernel
theorem dX8_append_5 : decode cX8_append 5 = .ok (.iload_n 2, 1) := by decide +kernel
theorem dX8_append_6 : decode cX8_append 6 = .ok (.iconst 4, 1) := by decide +kernel
theorem dX8_append_7 : decode cX8_append 7 = .ok (.if_icmp .gt 17, 3) := by decide +kernel
theorem dX8_append_10 : decode cX8_append 10 = .ok (.aload_n 0, 1) := by decide +kernel
theorem dX8_append_11 : decode cX8_append 11 = .ok (.getfield 15, 3) := by decide +kernel
theorem dX8_append_14 : decode cX8_append 14 = .ok (.iload_n 2, 1) := by decide +kernel
theorem dX8_append_15 : decode cX8_append 15 = .ok (.iadd, 1) := by decide +kernel
theorem dX8_append_16 : decode cX8_append 16 = .ok (.aload_n 0, 1) := by decide +kernel
theorem dX8_append_17 : decode cX8_append 17 = .ok (.getfield 9, 3) := by decide +kernel
theorem dX8_append_20 : decode cX8_append 20 = .ok (.arraylength, 1) := by decide +kernel
theorem dX8_append_21 : decode cX8_append 21 = .ok (.if_icmp .le 5, 3) := by decide +kernel
theorem dX8_append_24 : decode cX8_append 24 = .ok (.iconst 0, 1) := by decide +kernel
theorem dX8_append_25 : decode cX8_append 25 = .ok (.ireturn, 1) := by decide +kernel
theorem dX8_append_26 : decode cX8_append 26 = .ok (.iconst 0, 1) := by decide +kernel
theorem dX8_append_27 : decode cX8_append 27 = .ok (.istore_n 3, 1) := by decide +kernel
theorem dX8_append_28 : decode cX8_append 28 = .ok (.iload_n 3, 1) := by decide +kernel
theorem dX8_append_29 : decode cX8_append 29 = .ok (.iload_n 2, 1) := by decide +kernel
theorem dX8_append_30 : decode cX8_append 30 = .ok (.if_icmp .ge 32, 3) := by decide +kernel
theorem dX8_append_33 : decode cX8_append 33 = .ok (.iload_n 1, 1) := by decide +kernel
theorem dX8_append_34 : decode cX8_append 34 = .ok (.iload_n 3, 1) := by decide +kernel
theorem dX8_append_35 : decode cX8_append 35 = .ok (.invokestatic 36, 3) := by decide +kernel
theorem dX8_append_38 : decode cX8_append 38 = .ok (.istore 4, 2) := by decide +kernel
theorem dX8_append_40 : decode cX8_append 40 = .ok (.iload 4, 2) := by decide +kernel
theorem dX8_append_42 : decode cX8_append 42 = .ok (.bipush 32, 2) := by decide +kernel
theorem dX8_append_44 : decode cX8_append 44 = .ok (.if_icmp .lt 10, 3) := by decide +kernel
theorem dX8_append_47 : decode cX8_append 47 = .ok (.iload 4, 2) := by decide +kernel
theorem dX8_append_49 : decode cX8_append 49 = .ok (.bipush 126, 2) := by decide +kernel
theorem dX8_append_51 : decode cX8_append 51 = .ok (.if_icmp .le 5, 3) := by decide +kernel
theorem dX8_append_54 : decode cX8_append 54 = .ok (.iconst 0, 1) := by decide +kernel
theorem dX8_append_55 : decode cX8_append 55 = .ok (.ireturn, 1) := by decide +kernel
theorem dX8_append_56 : decode cX8_append 56 = .ok (.iinc 3 1, 3) := by decide +kernel
theorem dX8_append_59 : decode cX8_append 59 = .ok (.goto (-31), 3) := by decide +kernel
theorem dX8_append_62 : decode cX8_append 62 = .ok (.iload_n 2, 1) := by decide +kernel
theorem dX8_append_63 : decode cX8_append 63 = .ok (.iconst 1, 1) := by decide +kernel
theorem dX8_append_64 : decode cX8_append 64 = .ok (.isub, 1) := by decide +kernel
theorem dX8_append_65 : decode cX8_append 65 = .ok (.istore_n 3, 1) := by decide +kernel
theorem dX8_append_66 : decode cX8_append 66 = .ok (.iload_n 3, 1) := by decide +kernel
theorem dX8_append_67 : decode cX8_append 67 = .ok (.ifCond .lt 34, 3) := by decide +kernel
theorem dX8_append_70 : decode cX8_append 70 = .ok (.aload_n 0, 1) := by decide +kernel
theorem dX8_append_71 : decode cX8_append 71 = .ok (.getfield 9, 3) := by decide +kernel
theorem dX8_append_74 : decode cX8_append 74 = .ok (.aload_n 0, 1) := by decide +kernel
theorem dX8_append_75 : decode cX8_append 75 = .ok (.getfield 15, 3) := by decide +kernel
theorem dX8_append_78 : decode cX8_append 78 = .ok (.iload_n 1, 1) := by decide +kernel
theorem dX8_append_79 : decode cX8_append 79 = .ok (.iload_n 3, 1) := by decide +kernel
theorem dX8_append_80 : decode cX8_append 80 = .ok (.invokestatic 36, 3) := by decide +kernel
theorem dX8_append_83 : decode cX8_append 83 = .ok (.i2c, 1) := by decide +kernel
theorem dX8_append_84 : decode cX8_append 84 = .ok (.castore, 1) := by decide +kernel
theorem dX8_append_85 : decode cX8_append 85 = .ok (.aload_n 0, 1) := by decide +kernel
theorem dX8_append_86 : decode cX8_append 86 = .ok (.dup, 1) := by decide +kernel
theorem dX8_append_87 : decode cX8_append 87 = .ok (.getfield 15, 3) := by decide +kernel
theorem dX8_append_90 : decode cX8_append 90 = .ok (.iconst 1, 1) := by decide +kernel
theorem dX8_append_91 : decode cX8_append 91 = .ok (.iadd, 1) := by decide +kernel
theorem dX8_append_92 : decode cX8_append 92 = .ok (.putfield 15, 3) := by decide +kernel
theorem dX8_append_95 : decode cX8_append 95 = .ok (.iinc 3 (-1), 3) := by decide +kernel
theorem dX8_append_98 : decode cX8_append 98 = .ok (.goto (-32), 3) := by decide +kernel
theorem dX8_append_101 : decode cX8_append 101 = .ok (.iconst 1, 1) := by decide +kernel
theorem dX8_append_102 : decode cX8_append 102 = .ok (.ireturn, 1) := by decide +kernel
theorem dX8_size_0 : decode cX8_size 0 = .ok (.aload_n 0, 1) := by decide +kernel
theorem dX8_size_1 : decode cX8_size 1 = .ok (.getfield 15, 3) := by decide +kernel
theorem dX8_size_4 : decode cX8_size 4 = .ok (.ireturn, 1) := by decide +kernel
theorem dX8_startReading_0 : decode cX8_startReading 0 = .ok (.aload_n 0, 1) := by decide +kernel
theorem dX8_startReading_1 : decode cX8_startReading 1 = .ok (.aload_n 0, 1) := by decide +kernel
theorem dX8_startReading_2 : decode cX8_startReading 2 = .ok (.getfield 15, 3) := by decide +kernel
theorem dX8_startReading_5 : decode cX8_startReading 5 = .ok (.putfield 19, 3) := by decide +kernel
theorem dX8_startReading_8 : decode cX8_startReading 8 = .ok (.aload_n 0, 1) := by decide +kernel
theorem dX8_startReading_9 : decode cX8_startReading 9 = .ok (.iconst 0, 1) := by decide +kernel
theorem dX8_startReading_10 : decode cX8_startReading 10 = .ok (.putfield 15, 3) := by decide +kernel
theorem dX8_startReading_13 : decode cX8_startReading 13 = .ok (.aload_n 0, 1) := by decide +kernel
theorem dX8_startReading_14 : decode cX8_startReading 14 = .ok (.iconst 0, 1) := by decide +kernel
theorem dX8_startReading_15 : decode cX8_startReading 15 = .ok (.putfield 22, 3) := by decide +kernel
theorem dX8_startReading_18 : decode cX8_startReading 18 = .ok (.return_, 1) := by decide +kernel
theorem dX8_isAtEnd_0 : decode cX8_isAtEnd 0 = .ok (.aload_n 0, 1) := by decide +kernel
theorem dX8_isAtEnd_1 : decode cX8_isAtEnd 1 = .ok (.getfield 22, 3) := by decide +kernel
theorem dX8_isAtEnd_4 : decode cX8_isAtEnd 4 = .ok (.aload_n 0, 1) := by decide +kernel
theorem dX8_isAtEnd_5 : decode cX8_isAtEnd 5 = .ok (.getfield 19, 3) := by decide +kernel
theorem dX8_isAtEnd_8 : decode cX8_isAtEnd 8 = .ok (.if_icmp .ne 7, 3) := by decide +kernel
theorem dX8_isAtEnd_11 : decode cX8_isAtEnd 11 = .ok (.iconst 1, 1) := by decide +kernel
theorem dX8_isAtEnd_12 : decode cX8_isAtEnd 12 = .ok (.goto 4, 3) := by decide +kernel
theorem dX8_isAtEnd_15 : decode cX8_isAtEnd 15 = .ok (.iconst 0, 1) := by decide +kernel
theorem dX8_isAtEnd_16 : decode cX8_isAtEnd 16 = .ok (.ireturn, 1) := by decide +kernel
theorem dX8_readSelectors_0 : decode cX8_readSelectors 0 = .ok (.aload_n 0, 1) := by decide +kernel
theorem dX8_readSelectors_1 : decode cX8_readSelectors 1 = .ok (.invokevirtual 40, 3) := by decide +kernel
theorem dX8_readSelectors_4 : decode cX8_readSelectors 4 = .ok (.astore_n 1, 1) := by decide +kernel
theorem dX8_readSelectors_5 : decode cX8_readSelectors 5 = .ok (.aload_n 1, 1) := by decide +kernel
theorem dX8_readSelectors_6 : decode cX8_readSelectors 6 = .ok (.astore_n 2, 1) := by decide +kernel
theorem dX8_readSelectors_7 : decode cX8_readSelectors 7 = .ok (.iconst 1, 1) := by decide +kernel
theorem dX8_readSelectors_8 : decode cX8_readSelectors 8 = .ok (.istore_n 3, 1) := by decide +kernel
theorem dX8_readSelectors_9 : decode cX8_readSelectors 9 = .ok (.iload_n 3, 1) := by decide +kernel
theorem dX8_readSelectors_10 : decode cX8_readSelectors 10 = .ok (.iconst 3, 1) := by decide +kernel
theorem dX8_readSelectors_11 : decode cX8_readSelectors 11 = .ok (.if_icmp .ge 35, 3) := by decide +kernel
theorem dX8_readSelectors_14 : decode cX8_readSelectors 14 = .ok (.aload_n 2, 1) := by decide +kernel
theorem dX8_readSelectors_15 : decode cX8_readSelectors 15 = .ok (.ifnull 31, 3) := by decide +kernel
theorem dX8_readSelectors_18 : decode cX8_readSelectors 18 = .ok (.aload_n 0, 1) := by decide +kernel
theorem dX8_readSelectors_19 : decode cX8_readSelectors 19 = .ok (.bipush 44, 2) := by decide +kernel
theorem dX8_readSelectors_21 : decode cX8_readSelectors 21 = .ok (.invokevirtual 44, 3) := by decide +kernel
theorem dX8_readSelectors_24 : decode cX8_readSelectors 24 = .ok (.ifCond .eq 22, 3) := by decide +kernel
theorem dX8_readSelectors_27 : decode cX8_readSelectors 27 = .ok (.aload_n 2, 1) := by decide +kernel
theorem dX8_readSelectors_28 : decode cX8_readSelectors 28 = .ok (.aload_n 0, 1) := by decide +kernel
theorem dX8_readSelectors_29 : decode cX8_readSelectors 29 = .ok (.invokevirtual 40, 3) := by decide +kernel
theorem dX8_readSelectors_32 : decode cX8_readSelectors 32 = .ok (.putfield 48, 3) := by decide +kernel
theorem dX8_readSelectors_35 : decode cX8_readSelectors 35 = .ok (.aload_n 2, 1) := by decide +kernel
theorem dX8_readSelectors_36 : decode cX8_readSelectors 36 = .ok (.getfield 48, 3) := by decide +kernel
theorem dX8_readSelectors_39 : decode cX8_readSelectors 39 = .ok (.astore_n 2, 1) := by decide +kernel
theorem dX8_readSelectors_40 : decode cX8_readSelectors 40 = .ok (.iinc 3 1, 3) := by decide +kernel
theorem dX8_readSelectors_43 : decode cX8_readSelectors 43 = .ok (.goto (-34), 3) := by decide +kernel
theorem dX8_readSelectors_46 : decode cX8_readSelectors 46 = .ok (.aload_n 2, 1) := by decide +kernel
theorem dX8_readSelectors_47 : decode cX8_readSelectors 47 = .ok (.ifnonnull 7, 3) := by decide +kernel
theorem dX8_readSelectors_50 : decode cX8_readSelectors 50 = .ok (.aconst_null, 1) := by decide +kernel
theorem dX8_readSelectors_51 : decode cX8_readSelectors 51 = .ok (.goto 4, 3) := by decide +kernel
theorem dX8_readSelectors_54 : decode cX8_readSelectors 54 = .ok (.aload_n 1, 1) := by decide +kernel
theorem dX8_readSelectors_55 : decode cX8_readSelectors 55 = .ok (.areturn, 1) := by decide +kernel
theorem dX8_readSelector_0 : decode cX8_readSelector 0 = .ok (.aload_n 0, 1) := by decide +kernel
theorem dX8_readSelector_1 : decode cX8_readSelector 1 = .ok (.iconst 0, 1) := by decide +kernel
theorem dX8_readSelector_2 : decode cX8_readSelector 2 = .ok (.invokevirtual 54, 3) := by decide +kernel
theorem dX8_readSelector_5 : decode cX8_readSelector 5 = .ok (.astore_n 1, 1) := by decide +kernel
theorem dX8_readSelector_6 : decode cX8_readSelector 6 = .ok (.aload_n 1, 1) := by decide +kernel
theorem dX8_readSelector_7 : decode cX8_readSelector 7 = .ok (.astore_n 2, 1) := by decide +kernel
theorem dX8_readSelector_8 : decode cX8_readSelector 8 = .ok (.aload_n 1, 1) := by decide +kernel
theorem dX8_readSelector_9 : decode cX8_readSelector 9 = .ok (.ifnonnull 7, 3) := by decide +kernel
theorem dX8_readSelector_12 : decode cX8_readSelector 12 = .ok (.iconst 0, 1) := by decide +kernel
theorem dX8_readSelector_13 : decode cX8_readSelector 13 = .ok (.goto 7, 3) := by decide +kernel
theorem dX8_readSelector_16 : decode cX8_readSelector 16 = .ok (.aload_n 1, 1) := by decide +kernel
theorem dX8_readSelector_17 : decode cX8_readSelector 17 = .ok (.getfield 58, 3) := by decide +kernel
theorem dX8_readSelector_20 : decode cX8_readSelector 20 = .ok (.istore_n 3, 1) := by decide +kernel
theorem dX8_readSelector_21 : decode cX8_readSelector 21 = .ok (.iconst 1, 1) := by decide +kernel
theorem dX8_readSelector_22 : decode cX8_readSelector 22 = .ok (.istore 4, 2) := by decide +kernel
theorem dX8_readSelector_24 : decode cX8_readSelector 24 = .ok (.iload 4, 2) := by decide +kernel
theorem dX8_readSelector_26 : decode cX8_readSelector 26 = .ok (.iconst 4, 1) := by decide +kernel
theorem dX8_readSelector_27 : decode cX8_readSelector 27 = .ok (.if_icmp .ge 65, 3) := by decide +kernel
theorem dX8_readSelector_30 : decode cX8_readSelector 30 = .ok (.aload_n 2, 1) := by decide +kernel
theorem dX8_readSelector_31 : decode cX8_readSelector 31 = .ok (.ifnull 61, 3) := by decide +kernel
theorem dX8_readSelector_34 : decode cX8_readSelector 34 = .ok (.aload_n 0, 1) := by decide +kernel
theorem dX8_readSelector_35 : decode cX8_readSelector 35 = .ok (.invokevirtual 63, 3) := by decide +kernel
theorem dX8_readSelector_38 : decode cX8_readSelector 38 = .ok (.invokestatic 67, 3) := by decide +kernel
theorem dX8_readSelector_41 : decode cX8_readSelector 41 = .ok (.ifCond .eq 51, 3) := by decide +kernel
theorem dX8_readSelector_44 : decode cX8_readSelector 44 = .ok (.aload_n 0, 1) := by decide +kernel
theorem dX8_readSelector_45 : decode cX8_readSelector 45 = .ok (.invokevirtual 71, 3) := by decide +kernel
theorem dX8_readSelector_48 : decode cX8_readSelector 48 = .ok (.istore 5, 2) := by decide +kernel
theorem dX8_readSelector_50 : decode cX8_readSelector 50 = .ok (.aload_n 0, 1) := by decide +kernel
theorem dX8_readSelector_51 : decode cX8_readSelector 51 = .ok (.iconst 0, 1) := by decide +kernel
theorem dX8_readSelector_52 : decode cX8_readSelector 52 = .ok (.invokevirtual 54, 3) := by decide +kernel
theorem dX8_readSelector_55 : decode cX8_readSelector 55 = .ok (.astore 6, 2) := by decide +kernel
theorem dX8_readSelector_57 : decode cX8_readSelector 57 = .ok (.aload 6, 2) := by decide +kernel
theorem dX8_readSelector_59 : decode cX8_readSelector 59 = .ok (.ifnull 18, 3) := by decide +kernel
theorem dX8_readSelector_62 : decode cX8_readSelector 62 = .ok (.aload 6, 2) := by decide +kernel
theorem dX8_readSelector_64 : decode cX8_readSelector 64 = .ok (.iload 5, 2) := by decide +kernel
theorem dX8_readSelector_66 : decode cX8_readSelector 66 = .ok (.putfield 73, 3) := by decide +kernel
theorem dX8_readSelector_69 : decode cX8_readSelector 69 = .ok (.iload_n 3, 1) := by decide +kernel
theorem dX8_readSelector_70 : decode cX8_readSelector 70 = .ok (.aload 6, 2) := by decide +kernel
theorem dX8_readSelector_72 : decode cX8_readSelector 72 = .ok (.getfield 58, 3) := by decide +kernel
theorem dX8_readSelector_75 : decode cX8_readSelector 75 = .ok (.iadd, 1) := by decide +kernel
theorem dX8_readSelector_76 : decode cX8_readSelector 76 = .ok (.istore_n 3, 1) := by decide +kernel
theorem dX8_readSelector_77 : decode cX8_readSelector 77 = .ok (.aload_n 2, 1) := by decide +kernel
theorem dX8_readSelector_78 : decode cX8_readSelector 78 = .ok (.aload 6, 2) := by decide +kernel
theorem dX8_readSelector_80 : decode cX8_readSelector 80 = .ok (.putfield 76, 3) := by decide +kernel
theorem dX8_readSelector_83 : decode cX8_readSelector 83 = .ok (.aload 6, 2) := by decide +kernel
theorem dX8_readSelector_85 : decode cX8_readSelector 85 = .ok (.astore_n 2, 1) := by decide +kernel
theorem dX8_readSelector_86 : decode cX8_readSelector 86 = .ok (.iinc 4 1, 3) := by decide +kernel
theorem dX8_readSelector_89 : decode cX8_readSelector 89 = .ok (.goto (-65), 3) := by decide +kernel
theorem dX8_readSelector_92 : decode cX8_readSelector 92 = .ok (.aload_n 2, 1) := by decide +kernel
theorem dX8_readSelector_93 : decode cX8_readSelector 93 = .ok (.ifnonnull 7, 3) := by decide +kernel
theorem dX8_readSelector_96 : decode cX8_readSelector 96 = .ok (.aconst_null, 1) := by decide +kernel
theorem dX8_readSelector_97 : decode cX8_readSelector 97 = .ok (.goto 12, 3) := by decide +kernel
theorem dX8_readSelector_100 : decode cX8_readSelector 100 = .ok (.new 49, 3) := by decide +kernel
theorem dX8_readSelector_103 : decode cX8_readSelector 103 = .ok (.dup, 1) := by decide +kernel
theorem dX8_readSelector_104 : decode cX8_readSelector 104 = .ok (.aload_n 1, 1) := by decide +kernel
theorem dX8_readSelector_105 : decode cX8_readSelector 105 = .ok (.iload_n 3, 1) := by decide +kernel
theorem dX8_readSelector_106 : decode cX8_readSelector 106 = .ok (.invokespecial 79, 3) := by decide +kernel
theorem dX8_readSelector_109 : decode cX8_readSelector 109 = .ok (.areturn, 1) := by decide +kernel
theorem dX8_readCompound_0 : decode cX8_readCompound 0 = .ok (.aload_n 0, 1) := by decide +kernel
theorem dX8_readCompound_1 : decode cX8_readCompound 1 = .ok (.invokevirtual 63, 3) := by decide +kernel
theorem dX8_readCompound_4 : decode cX8_readCompound 4 = .ok (.istore_n 2, 1) := by decide +kernel
theorem dX8_readCompound_5 : decode cX8_readCompound 5 = .ok (.iload_n 2, 1) := by decide +kernel
theorem dX8_readCompound_6 : decode cX8_readCompound 6 = .ok (.bipush 42, 2) := by decide +kernel
theorem dX8_readCompound_8 : decode cX8_readCompound 8 = .ok (.if_icmp .eq 10, 3) := by decide +kernel
theorem dX8_readCompound_11 : decode cX8_readCompound 11 = .ok (.iload_n 2, 1) := by decide +kernel
theorem dX8_readCompound_12 : decode cX8_readCompound 12 = .ok (.invokestatic 82, 3) := by decide +kernel
theorem dX8_readCompound_15 : decode cX8_readCompound 15 = .ok (.ifCond .eq 7, 3) := by decide +kernel
theorem dX8_readCompound_18 : decode cX8_readCompound 18 = .ok (.iconst 1, 1) := by decide +kernel
theorem dX8_readCompound_19 : decode cX8_readCompound 19 = .ok (.goto 4, 3) := by decide +kernel
theorem dX8_readCompound_22 : decode cX8_readCompound 22 = .ok (.iconst 0, 1) := by decide +kernel
theorem dX8_readCompound_23 : decode cX8_readCompound 23 = .ok (.istore_n 3, 1) := by decide +kernel
theorem dX8_readCompound_24 : decode cX8_readCompound 24 = .ok (.iload_n 3, 1) := by decide +kernel
theorem dX8_readCompound_25 : decode cX8_readCompound 25 = .ok (.ifCond .eq 13, 3) := by decide +kernel
theorem dX8_readCompound_28 : decode cX8_readCompound 28 = .ok (.aload_n 0, 1) := by decide +kernel
theorem dX8_readCompound_29 : decode cX8_readCompound 29 = .ok (.dup, 1) := by decide +kernel
theorem dX8_readCompound_30 : decode cX8_readCompound 30 = .ok (.getfield 22, 3) := by decide +kernel
theorem dX8_readCompound_33 : decode cX8_readCompound 33 = .ok (.iconst 1, 1) := by decide +kernel
theorem dX8_readCompound_34 : decode cX8_readCompound 34 = .ok (.iadd, 1) := by decide +kernel
theorem dX8_readCompound_35 : decode cX8_readCompound 35 = .ok (.putfield 22, 3) := by decide +kernel
theorem dX8_readCompound_38 : decode cX8_readCompound 38 = .ok (.new 59, 3) := by decide +kernel
theorem dX8_readCompound_41 : decode cX8_readCompound 41 = .ok (.dup, 1) := by decide +kernel
theorem dX8_readCompound_42 : decode cX8_readCompound 42 = .ok (.iload_n 2, 1) := by decide +kernel
theorem dX8_readCompound_43 : decode cX8_readCompound 43 = .ok (.invokestatic 82, 3) := by decide +kernel
theorem dX8_readCompound_46 : decode cX8_readCompound 46 = .ok (.ifCond .eq 7, 3) := by decide +kernel
theorem dX8_readCompound_49 : decode cX8_readCompound 49 = .ok (.iload_n 2, 1) := by decide +kernel
theorem dX8_readCompound_50 : decode cX8_readCompound 50 = .ok (.goto 4, 3) := by decide +kernel
theorem dX8_readCompound_53 : decode cX8_readCompound 53 = .ok (.iconst 0, 1) := by decide +kernel
theorem dX8_readCompound_54 : decode cX8_readCompound 54 = .ok (.invokespecial 85, 3) := by decide +kernel
theorem dX8_readCompound_57 : decode cX8_readCompound 57 = .ok (.astore 4, 2) := by decide +kernel
theorem dX8_readCompound_59 : decode cX8_readCompound 59 = .ok (.iconst 0, 1) := by decide +kernel
theorem dX8_readCompound_60 : decode cX8_readCompound 60 = .ok (.istore 5, 2) := by decide +kernel
theorem dX8_readCompound_62 : decode cX8_readCompound 62 = .ok (.iload 5, 2) := by decide +kernel
theorem dX8_readCompound_64 : decode cX8_readCompound 64 = .ok (.iconst 4, 1) := by decide +kernel
theorem dX8_readCompound_65 : decode cX8_readCompound 65 = .ok (.if_icmp .ge 33, 3) := by decide +kernel
theorem dX8_readCompound_68 : decode cX8_readCompound 68 = .ok (.aload_n 0, 1) := by decide +kernel
theorem dX8_readCompound_69 : decode cX8_readCompound 69 = .ok (.invokevirtual 63, 3) := by decide +kernel
theorem dX8_readCompound_72 : decode cX8_readCompound 72 = .ok (.invokestatic 88, 3) := by decide +kernel
theorem dX8_readCompound_75 : decode cX8_readCompound 75 = .ok (.ifCond .eq 23, 3) := by decide +kernel
theorem dX8_readCompound_78 : decode cX8_readCompound 78 = .ok (.aload_n 0, 1) := by decide +kernel
theorem dX8_readCompound_79 : decode cX8_readCompound 79 = .ok (.aload 4, 2) := by decide +kernel
theorem dX8_readCompound_81 : decode cX8_readCompound 81 = .ok (.iload_n 1, 1) := by decide +kernel
theorem dX8_readCompound_82 : decode cX8_readCompound 82 = .ok (.invokevirtual 91, 3) := by decide +kernel
theorem dX8_readCompound_85 : decode cX8_readCompound 85 = .ok (.ifCond .ne 5, 3) := by decide +kernel
theorem dX8_readCompound_88 : decode cX8_readCompound 88 = .ok (.aconst_null, 1) := by decide +kernel
theorem dX8_readCompound_89 : decode cX8_readCompound 89 = .ok (.areturn, 1) := by decide +kernel
theorem dX8_readCompound_90 : decode cX8_readCompound 90 = .ok (.iconst 1, 1) := by decide +kernel
theorem dX8_readCompound_91 : decode cX8_readCompound 91 = .ok (.istore_n 3, 1) := by decide +kernel
theorem dX8_readCompound_92 : decode cX8_readCompound 92 = .ok (.iinc 5 1, 3) := by decide +kernel
theorem dX8_readCompound_95 : decode cX8_readCompound 95 = .ok (.goto (-33), 3) := by decide +kernel
theorem dX8_readCompound_98 : decode cX8_readCompound 98 = .ok (.iload_n 3, 1) := by decide +kernel
theorem dX8_readCompound_99 : decode cX8_readCompound 99 = .ok (.ifCond .eq 8, 3) := by decide +kernel
theorem dX8_readCompound_102 : decode cX8_readCompound 102 = .ok (.aload 4, 2) := by decide +kernel
theorem dX8_readCompound_104 : decode cX8_readCompound 104 = .ok (.goto 4, 3) := by decide +kernel
theorem dX8_readCompound_107 : decode cX8_readCompound 107 = .ok (.aconst_null, 1) := by decide +kernel
theorem dX8_readCompound_108 : decode cX8_readCompound 108 = .ok (.areturn, 1) := by decide +kernel
theorem dX8_readPart_0 : decode cX8_readPart 0 = .ok (.aload_n 0, 1) := by decide +kernel
theorem dX8_readPart_1 : decode cX8_readPart 1 = .ok (.invokevirtual 71, 3) := by decide +kernel
theorem dX8_readPart_4 : decode cX8_readPart 4 = .ok (.istore_n 3, 1) := by decide +kernel
theorem dX8_readPart_5 : decode cX8_readPart 5 = .ok (.aload_n 0, 1) := by decide +kernel
theorem dX8_readPart_6 : decode cX8_readPart 6 = .ok (.invokevirtual 71, 3) := by decide +kernel
theorem dX8_readPart_9 : decode cX8_readPart 9 = .ok (.istore 4, 2) := by decide +kernel
theorem dX8_readPart_11 : decode cX8_readPart 11 = .ok (.aconst_null, 1) := by decide +kernel
theorem dX8_readPart_12 : decode cX8_readPart 12 = .ok (.astore 5, 2) := by decide +kernel
theorem dX8_readPart_14 : decode cX8_readPart 14 = .ok (.iload_n 3, 1) := by decide +kernel
theorem dX8_readPart_15 : decode cX8_readPart 15 = .ok (.bipush 35, 2) := by decide +kernel
theorem dX8_readPart_17 : decode cX8_readPart 17 = .ok (.if_icmp .ne 31, 3) := by decide +kernel
theorem dX8_readPart_20 : decode cX8_readPart 20 = .ok (.iload 4, 2) := by decide +kernel
theorem dX8_readPart_22 : decode cX8_readPart 22 = .ok (.invokestatic 82, 3) := by decide +kernel
theorem dX8_readPart_25 : decode cX8_readPart 25 = .ok (.ifCond .eq 17, 3) := by decide +kernel
theorem dX8_readPart_28 : decode cX8_readPart 28 = .ok (.new 95, 3) := by decide +kernel
theorem dX8_readPart_31 : decode cX8_readPart 31 = .ok (.dup, 1) := by decide +kernel
theorem dX8_readPart_32 : decode cX8_readPart 32 = .ok (.iconst 0, 1) := by decide +kernel
theorem dX8_readPart_33 : decode cX8_readPart 33 = .ok (.iload 4, 2) := by decide +kernel
theorem dX8_readPart_35 : decode cX8_readPart 35 = .ok (.iconst 0, 1) := by decide +kernel
theorem dX8_readPart_36 : decode cX8_readPart 36 = .ok (.invokespecial 97, 3) := by decide +kernel
theorem dX8_readPart_39 : decode cX8_readPart 39 = .ok (.goto 4, 3) := by decide +kernel
theorem dX8_readPart_42 : decode cX8_readPart 42 = .ok (.aconst_null, 1) := by decide +kernel
theorem dX8_readPart_43 : decode cX8_readPart 43 = .ok (.astore 5, 2) := by decide +kernel
theorem dX8_readPart_45 : decode cX8_readPart 45 = .ok (.goto 137, 3) := by decide +kernel
theorem dX8_readPart_48 : decode cX8_readPart 48 = .ok (.iload_n 3, 1) := by decide +kernel
theorem dX8_readPart_49 : decode cX8_readPart 49 = .ok (.bipush 46, 2) := by decide +kernel
theorem dX8_readPart_51 : decode cX8_readPart 51 = .ok (.if_icmp .ne 54, 3) := by decide +kernel
theorem dX8_readPart_54 : decode cX8_readPart 54 = .ok (.iload 4, 2) := by decide +kernel
theorem dX8_readPart_56 : decode cX8_readPart 56 = .ok (.bipush 97, 2) := by decide +kernel
theorem dX8_readPart_58 : decode cX8_readPart 58 = .ok (.if_icmp .lt 14, 3) := by decide +kernel
theorem dX8_readPart_61 : decode cX8_readPart 61 = .ok (.iload 4, 2) := by decide +kernel
theorem dX8_readPart_63 : decode cX8_readPart 63 = .ok (.bipush 104, 2) := by decide +kernel
theorem dX8_readPart_65 : decode cX8_readPart 65 = .ok (.if_icmp .gt 7, 3) := by decide +kernel
theorem dX8_readPart_68 : decode cX8_readPart 68 = .ok (.iconst 1, 1) := by decide +kernel
theorem dX8_readPart_69 : decode cX8_readPart 69 = .ok (.goto 4, 3) := by decide +kernel
theorem dX8_readPart_72 : decode cX8_readPart 72 = .ok (.iconst 0, 1) := by decide +kernel
theorem dX8_readPart_73 : decode cX8_readPart 73 = .ok (.istore 6, 2) := by decide +kernel
theorem dX8_readPart_75 : decode cX8_readPart 75 = .ok (.iload 6, 2) := by decide +kernel
theorem dX8_readPart_77 : decode cX8_readPart 77 = .ok (.ifCond .eq 22, 3) := by decide +kernel
theorem dX8_readPart_80 : decode cX8_readPart 80 = .ok (.new 95, 3) := by decide +kernel
theorem dX8_readPart_83 : decode cX8_readPart 83 = .ok (.dup, 1) := by decide +kernel
theorem dX8_readPart_84 : decode cX8_readPart 84 = .ok (.iconst 1, 1) := by decide +kernel
theorem dX8_readPart_85 : decode cX8_readPart 85 = .ok (.iconst 1, 1) := by decide +kernel
theorem dX8_readPart_86 : decode cX8_readPart 86 = .ok (.iload 4, 2) := by decide +kernel
theorem dX8_readPart_88 : decode cX8_readPart 88 = .ok (.bipush 97, 2) := by decide +kernel
theorem dX8_readPart_90 : decode cX8_readPart 90 = .ok (.isub, 1) := by decide +kernel
theorem dX8_readPart_91 : decode cX8_readPart 91 = .ok (.ishl, 1) := by decide +kernel
theorem dX8_readPart_92 : decode cX8_readPart 92 = .ok (.iconst 0, 1) := by decide +kernel
theorem dX8_readPart_93 : decode cX8_readPart 93 = .ok (.invokespecial 97, 3) := by decide +kernel
theorem dX8_readPart_96 : decode cX8_readPart 96 = .ok (.goto 4, 3) := by decide +kernel
theorem dX8_readPart_99 : decode cX8_readPart 99 = .ok (.aconst_null, 1) := by decide +kernel
theorem dX8_readPart_100 : decode cX8_readPart 100 = .ok (.astore 5, 2) := by decide +kernel
theorem dX8_readPart_102 : decode cX8_readPart 102 = .ok (.goto 80, 3) := by decide +kernel
theorem dX8_readPart_105 : decode cX8_readPart 105 = .ok (.iload 4, 2) := by decide +kernel
theorem dX8_readPart_107 : decode cX8_readPart 107 = .ok (.bipush 102, 2) := by decide +kernel
theorem dX8_readPart_109 : decode cX8_readPart 109 = .ok (.if_icmp .ne 18, 3) := by decide +kernel
theorem dX8_readPart_112 : decode cX8_readPart 112 = .ok (.new 95, 3) := by decide +kernel
theorem dX8_readPart_115 : decode cX8_readPart 115 = .ok (.dup, 1) := by decide +kernel
theorem dX8_readPart_116 : decode cX8_readPart 116 = .ok (.iconst 3, 1) := by decide +kernel
theorem dX8_readPart_117 : decode cX8_readPart 117 = .ok (.iconst 1, 1) := by decide +kernel
theorem dX8_readPart_118 : decode cX8_readPart 118 = .ok (.iconst 0, 1) := by decide +kernel
theorem dX8_readPart_119 : decode cX8_readPart 119 = .ok (.invokespecial 97, 3) := by decide +kernel
theorem dX8_readPart_122 : decode cX8_readPart 122 = .ok (.astore 5, 2) := by decide +kernel
theorem dX8_readPart_124 : decode cX8_readPart 124 = .ok (.goto 58, 3) := by decide +kernel
theorem dX8_readPart_127 : decode cX8_readPart 127 = .ok (.iload 4, 2) := by decide +kernel
theorem dX8_readPart_129 : decode cX8_readPart 129 = .ok (.bipush 108, 2) := by decide +kernel
theorem dX8_readPart_131 : decode cX8_readPart 131 = .ok (.if_icmp .ne 18, 3) := by decide +kernel
theorem dX8_readPart_134 : decode cX8_readPart 134 = .ok (.new 95, 3) := by decide +kernel
theorem dX8_readPart_137 : decode cX8_readPart 137 = .ok (.dup, 1) := by decide +kernel
theorem dX8_readPart_138 : decode cX8_readPart 138 = .ok (.iconst 2, 1) := by decide +kernel
theorem dX8_readPart_139 : decode cX8_readPart 139 = .ok (.iconst 0, 1) := by decide +kernel
theorem dX8_readPart_140 : decode cX8_readPart 140 = .ok (.iconst 0, 1) := by decide +kernel
theorem dX8_readPart_141 : decode cX8_readPart 141 = .ok (.invokespecial 97, 3) := by decide +kernel
theorem dX8_readPart_144 : decode cX8_readPart 144 = .ok (.astore 5, 2) := by decide +kernel
theorem dX8_readPart_146 : decode cX8_readPart 146 = .ok (.goto 36, 3) := by decide +kernel
theorem dX8_readPart_149 : decode cX8_readPart 149 = .ok (.iload 4, 2) := by decide +kernel
theorem dX8_readPart_151 : decode cX8_readPart 151 = .ok (.bipush 110, 2) := by decide +kernel
theorem dX8_readPart_153 : decode cX8_readPart 153 = .ok (.if_icmp .ne 12, 3) := by decide +kernel
theorem dX8_readPart_156 : decode cX8_readPart 156 = .ok (.aload_n 0, 1) := by decide +kernel
theorem dX8_readPart_157 : decode cX8_readPart 157 = .ok (.invokevirtual 100, 3) := by decide +kernel
theorem dX8_readPart_160 : decode cX8_readPart 160 = .ok (.astore 5, 2) := by decide +kernel
theorem dX8_readPart_162 : decode cX8_readPart 162 = .ok (.goto 20, 3) := by decide +kernel
theorem dX8_readPart_165 : decode cX8_readPart 165 = .ok (.iload 4, 2) := by decide +kernel
theorem dX8_readPart_167 : decode cX8_readPart 167 = .ok (.bipush 120, 2) := by decide +kernel
theorem dX8_readPart_169 : decode cX8_readPart 169 = .ok (.if_icmp .ne 13, 3) := by decide +kernel
theorem dX8_readPart_172 : decode cX8_readPart 172 = .ok (.iload_n 2, 1) := by decide +kernel
theorem dX8_readPart_173 : decode cX8_readPart 173 = .ok (.ifCond .ne 9, 3) := by decide +kernel
theorem dX8_readPart_176 : decode cX8_readPart 176 = .ok (.aload_n 0, 1) := by decide +kernel
theorem dX8_readPart_177 : decode cX8_readPart 177 = .ok (.aload_n 1, 1) := by decide +kernel
theorem dX8_readPart_178 : decode cX8_readPart 178 = .ok (.invokevirtual 104, 3) := by decide +kernel
theorem dX8_readPart_181 : decode cX8_readPart 181 = .ok (.ireturn, 1) := by decide +kernel
theorem dX8_readPart_182 : decode cX8_readPart 182 = .ok (.aload 5, 2) := by decide +kernel
theorem dX8_readPart_184 : decode cX8_readPart 184 = .ok (.ifnull 9, 3) := by decide +kernel
theorem dX8_readPart_187 : decode cX8_readPart 187 = .ok (.aload_n 1, 1) := by decide +kernel
theorem dX8_readPart_188 : decode cX8_readPart 188 = .ok (.aload 5, 2) := by decide +kernel
theorem dX8_readPart_190 : decode cX8_readPart 190 = .ok (.invokevirtual 108, 3) := by decide +kernel
theorem dX8_readPart_193 : decode cX8_readPart 193 = .ok (.aload 5, 2) := by decide +kernel
theorem dX8_readPart_195 : decode cX8_readPart 195 = .ok (.ifnull 7, 3) := by decide +kernel
theorem dX8_readPart_198 : decode cX8_readPart 198 = .ok (.iconst 1, 1) := by decide +kernel
theorem dX8_readPart_199 : decode cX8_readPart 199 = .ok (.goto 4, 3) := by decide +kernel
theorem dX8_readPart_202 : decode cX8_readPart 202 = .ok (.iconst 0, 1) := by decide +kernel
theorem dX8_readPart_203 : decode cX8_readPart 203 = .ok (.ireturn, 1) := by decide +kernel
theorem dX8_readExclusion_0 : decode cX8_readExclusion 0 = .ok (.aload_n 0, 1) := by decide +kernel
theorem dX8_readExclusion_1 : decode cX8_readExclusion 1 = .ok (.bipush 40, 2) := by decide +kernel
theorem dX8_readExclusion_3 : decode cX8_readExclusion 3 = .ok (.invokevirtual 44, 3) := by decide +kernel
theorem dX8_readExclusion_6 : decode cX8_readExclusion 6 = .ok (.ifCond .eq 11, 3) := by decide +kernel
theorem dX8_readExclusion_9 : decode cX8_readExclusion 9 = .ok (.aload_n 0, 1) := by decide +kernel
theorem dX8_readExclusion_10 : decode cX8_readExclusion 10 = .ok (.iconst 1, 1) := by decide +kernel
theorem dX8_readExclusion_11 : decode cX8_readExclusion 11 = .ok (.invokevirtual 54, 3) := by decide +kernel
theorem dX8_readExclusion_14 : decode cX8_readExclusion 14 = .ok (.goto 4, 3) := by decide +kernel
theorem dX8_readExclusion_17 : decode cX8_readExclusion 17 = .ok (.aconst_null, 1) := by decide +kernel
theorem dX8_readExclusion_18 : decode cX8_readExclusion 18 = .ok (.astore_n 2, 1) := by decide +kernel
theorem dX8_readExclusion_19 : decode cX8_readExclusion 19 = .ok (.aload_n 2, 1) := by decide +kernel
theorem dX8_readExclusion_20 : decode cX8_readExclusion 20 = .ok (.ifnull 12, 3) := by decide +kernel
theorem dX8_readExclusion_23 : decode cX8_readExclusion 23 = .ok (.aload_n 0, 1) := by decide +kernel
theorem dX8_readExclusion_24 : decode cX8_readExclusion 24 = .ok (.bipush 41, 2) := by decide +kernel
theorem dX8_readExclusion_26 : decode cX8_readExclusion 26 = .ok (.invokevirtual 44, 3) := by decide +kernel
theorem dX8_readExclusion_29 : decode cX8_readExclusion 29 = .ok (.ifCond .ne 5, 3) := by decide +kernel
theorem dX8_readExclusion_32 : decode cX8_readExclusion 32 = .ok (.iconst 0, 1) := by decide +kernel
theorem dX8_readExclusion_33 : decode cX8_readExclusion 33 = .ok (.ireturn, 1) := by decide +kernel
theorem dX8_readExclusion_34 : decode cX8_readExclusion 34 = .ok (.aload_n 1, 1) := by decide +kernel
theorem dX8_readExclusion_35 : decode cX8_readExclusion 35 = .ok (.aload_n 2, 1) := by decide +kernel
theorem dX8_readExclusion_36 : decode cX8_readExclusion 36 = .ok (.invokevirtual 112, 3) := by decide +kernel
theorem dX8_readExclusion_39 : decode cX8_readExclusion 39 = .ok (.iconst 1, 1) := by decide +kernel
theorem dX8_readExclusion_40 : decode cX8_readExclusion 40 = .ok (.ireturn, 1) := by decide +kernel
theorem dX8_readChildNumber_0 : decode cX8_readChildNumber 0 = .ok (.aload_n 0, 1) := by decide +kernel
theorem dX8_readChildNumber_1 : decode cX8_readChildNumber 1 = .ok (.bipush 40, 2) := by decide +kernel
theorem dX8_readChildNumber_3 : decode cX8_readChildNumber 3 = .ok (.invokevirtual 44, 3) := by decide +kernel
theorem dX8_readChildNumber_6 : decode cX8_readChildNumber 6 = .ok (.ifCond .eq 10, 3) := by decide +kernel
theorem dX8_readChildNumber_9 : decode cX8_readChildNumber 9 = .ok (.aload_n 0, 1) := by decide +kernel
theorem dX8_readChildNumber_10 : decode cX8_readChildNumber 10 = .ok (.invokevirtual 116, 3) := by decide +kernel
theorem dX8_readChildNumber_13 : decode cX8_readChildNumber 13 = .ok (.goto 4, 3) := by decide +kernel
theorem dX8_readChildNumber_16 : decode cX8_readChildNumber 16 = .ok (.iconst (-1), 1) := by decide +kernel
theorem dX8_readChildNumber_17 : decode cX8_readChildNumber 17 = .ok (.istore_n 1, 1) := by decide +kernel
theorem dX8_readChildNumber_18 : decode cX8_readChildNumber 18 = .ok (.aload_n 0, 1) := by decide +kernel
theorem dX8_readChildNumber_19 : decode cX8_readChildNumber 19 = .ok (.bipush 110, 2) := by decide +kernel
theorem dX8_readChildNumber_21 : decode cX8_readChildNumber 21 = .ok (.invokevirtual 44, 3) := by decide +kernel
theorem dX8_readChildNumber_24 : decode cX8_readChildNumber 24 = .ok (.istore_n 2, 1) := by decide +kernel
theorem dX8_readChildNumber_25 : decode cX8_readChildNumber 25 = .ok (.iconst 0, 1) := by decide +kernel
theorem dX8_readChildNumber_26 : decode cX8_readChildNumber 26 = .ok (.istore_n 3, 1) := by decide +kernel
theorem dX8_readChildNumber_27 : decode cX8_readChildNumber 27 = .ok (.iload_n 2, 1) := by decide +kernel
theorem dX8_readChildNumber_28 : decode cX8_readChildNumber 28 = .ok (.ifCond .eq 31, 3) := by decide +kernel
theorem dX8_readChildNumber_31 : decode cX8_readChildNumber 31 = .ok (.aload_n 0, 1) := by decide +kernel
theorem dX8_readChildNumber_32 : decode cX8_readChildNumber 32 = .ok (.bipush 43, 2) := by decide +kernel
theorem dX8_readChildNumber_34 : decode cX8_readChildNumber 34 = .ok (.invokevirtual 44, 3) := by decide +kernel
theorem dX8_readChildNumber_37 : decode cX8_readChildNumber 37 = .ok (.ifCond .eq 7, 3) := by decide +kernel
theorem dX8_readChildNumber_40 : decode cX8_readChildNumber 40 = .ok (.iconst 1, 1) := by decide +kernel
theorem dX8_readChildNumber_41 : decode cX8_readChildNumber 41 = .ok (.goto 17, 3) := by decide +kernel
theorem dX8_readChildNumber_44 : decode cX8_readChildNumber 44 = .ok (.aload_n 0, 1) := by decide +kernel
theorem dX8_readChildNumber_45 : decode cX8_readChildNumber 45 = .ok (.bipush 45, 2) := by decide +kernel
theorem dX8_readChildNumber_47 : decode cX8_readChildNumber 47 = .ok (.invokevirtual 44, 3) := by decide +kernel
theorem dX8_readChildNumber_50 : decode cX8_readChildNumber 50 = .ok (.ifCond .eq 7, 3) := by decide +kernel
theorem dX8_readChildNumber_53 : decode cX8_readChildNumber 53 = .ok (.iconst (-1), 1) := by decide +kernel
theorem dX8_readChildNumber_54 : decode cX8_readChildNumber 54 = .ok (.goto 4, 3) := by decide +kernel
theorem dX8_readChildNumber_57 : decode cX8_readChildNumber 57 = .ok (.iconst 0, 1) := by decide +kernel
theorem dX8_readChildNumber_58 : decode cX8_readChildNumber 58 = .ok (.istore_n 3, 1) := by decide +kernel
theorem dX8_readChildNumber_59 : decode cX8_readChildNumber 59 = .ok (.iload_n 3, 1) := by decide +kernel
theorem dX8_readChildNumber_60 : decode cX8_readChildNumber 60 = .ok (.ifCond .ne 7, 3) := by decide +kernel
theorem dX8_readChildNumber_63 : decode cX8_readChildNumber 63 = .ok (.iconst 0, 1) := by decide +kernel
theorem dX8_readChildNumber_64 : decode cX8_readChildNumber 64 = .ok (.goto 7, 3) := by decide +kernel
theorem dX8_readChildNumber_67 : decode cX8_readChildNumber 67 = .ok (.aload_n 0, 1) := by decide +kernel
theorem dX8_readChildNumber_68 : decode cX8_readChildNumber 68 = .ok (.invokevirtual 116, 3) := by decide +kernel
theorem dX8_readChildNumber_71 : decode cX8_readChildNumber 71 = .ok (.istore 4, 2) := by decide +kernel
theorem dX8_readChildNumber_73 : decode cX8_readChildNumber 73 = .ok (.iload_n 1, 1) := by decide +kernel
theorem dX8_readChildNumber_74 : decode cX8_readChildNumber 74 = .ok (.iconst (-1), 1) := by decide +kernel
theorem dX8_readChildNumber_75 : decode cX8_readChildNumber 75 = .ok (.if_icmp .eq 18, 3) := by decide +kernel
theorem dX8_readChildNumber_78 : decode cX8_readChildNumber 78 = .ok (.iload 4, 2) := by decide +kernel
theorem dX8_readChildNumber_80 : decode cX8_readChildNumber 80 = .ok (.iconst (-1), 1) := by decide +kernel
theorem dX8_readChildNumber_81 : decode cX8_readChildNumber 81 = .ok (.if_icmp .eq 12, 3) := by decide +kernel
theorem dX8_readChildNumber_84 : decode cX8_readChildNumber 84 = .ok (.aload_n 0, 1) := by decide +kernel
theorem dX8_readChildNumber_85 : decode cX8_readChildNumber 85 = .ok (.bipush 41, 2) := by decide +kernel
theorem dX8_readChildNumber_87 : decode cX8_readChildNumber 87 = .ok (.invokevirtual 44, 3) := by decide +kernel
theorem dX8_readChildNumber_90 : decode cX8_readChildNumber 90 = .ok (.ifCond .ne 5, 3) := by decide +kernel
theorem dX8_readChildNumber_93 : decode cX8_readChildNumber 93 = .ok (.aconst_null, 1) := by decide +kernel
theorem dX8_readChildNumber_94 : decode cX8_readChildNumber 94 = .ok (.areturn, 1) := by decide +kernel
theorem dX8_readChildNumber_95 : decode cX8_readChildNumber 95 = .ok (.iload_n 2, 1) := by decide +kernel
theorem dX8_readChildNumber_96 : decode cX8_readChildNumber 96 = .ok (.ifCond .eq 19, 3) := by decide +kernel
theorem dX8_readChildNumber_99 : decode cX8_readChildNumber 99 = .ok (.new 95, 3) := by decide +kernel
theorem dX8_readChildNumber_102 : decode cX8_readChildNumber 102 = .ok (.dup, 1) := by decide +kernel
theorem dX8_readChildNumber_103 : decode cX8_readChildNumber 103 = .ok (.iconst 3, 1) := by decide +kernel
theorem dX8_readChildNumber_104 : decode cX8_readChildNumber 104 = .ok (.iload_n 3, 1) := by decide +kernel
theorem dX8_readChildNumber_105 : decode cX8_readChildNumber 105 = .ok (.iload 4, 2) := by decide +kernel
theorem dX8_readChildNumber_107 : decode cX8_readChildNumber 107 = .ok (.imul, 1) := by decide +kernel
theorem dX8_readChildNumber_108 : decode cX8_readChildNumber 108 = .ok (.iload_n 1, 1) := by decide +kernel
theorem dX8_readChildNumber_109 : decode cX8_readChildNumber 109 = .ok (.invokespecial 97, 3) := by decide +kernel
theorem dX8_readChildNumber_112 : decode cX8_readChildNumber 112 = .ok (.goto 13, 3) := by decide +kernel
theorem dX8_readChildNumber_115 : decode cX8_readChildNumber 115 = .ok (.new 95, 3) := by decide +kernel
theorem dX8_readChildNumber_118 : decode cX8_readChildNumber 118 = .ok (.dup, 1) := by decide +kernel
theorem dX8_readChildNumber_119 : decode cX8_readChildNumber 119 = .ok (.iconst 3, 1) := by decide +kernel
theorem dX8_readChildNumber_120 : decode cX8_readChildNumber 120 = .ok (.iload_n 1, 1) := by decide +kernel
theorem dX8_readChildNumber_121 : decode cX8_readChildNumber 121 = .ok (.iconst 0, 1) := by decide +kernel
theorem dX8_readChildNumber_122 : decode cX8_readChildNumber 122 = .ok (.invokespecial 97, 3) := by decide +kernel
theorem dX8_readChildNumber_125 : decode cX8_readChildNumber 125 = .ok (.areturn, 1) := by decide +kernel
theorem dX8_readDeclarations_0 : decode cX8_readDeclarations 0 = .ok (.aload_n 0, 1) := by decide +kernel
theorem dX8_readDeclarations_1 : decode cX8_readDeclarations 1 = .ok (.bipush 123, 2) := by decide +kernel
theorem dX8_readDeclarations_3 : decode cX8_readDeclarations 3 = .ok (.invokevirtual 44, 3) := by decide +kernel
theorem dX8_readDeclarations_6 : decode cX8_readDeclarations 6 = .ok (.ifCond .eq 11, 3) := by decide +kernel
theorem dX8_readDeclarations_9 : decode cX8_readDeclarations 9 = .ok (.aload_n 0, 1) := by decide +kernel
theorem dX8_readDeclarations_10 : decode cX8_readDeclarations 10 = .ok (.iload_n 1, 1) := by decide +kernel
theorem dX8_readDeclarations_11 : decode cX8_readDeclarations 11 = .ok (.invokevirtual 119, 3) := by decide +kernel
theorem dX8_readDeclarations_14 : decode cX8_readDeclarations 14 = .ok (.goto 4, 3) := by decide +kernel
theorem dX8_readDeclarations_17 : decode cX8_readDeclarations 17 = .ok (.aconst_null, 1) := by decide +kernel
theorem dX8_readDeclarations_18 : decode cX8_readDeclarations 18 = .ok (.astore_n 2, 1) := by decide +kernel
theorem dX8_readDeclarations_19 : decode cX8_readDeclarations 19 = .ok (.aload_n 2, 1) := by decide +kernel
theorem dX8_readDeclarations_20 : decode cX8_readDeclarations 20 = .ok (.astore_n 3, 1) := by decide +kernel
theorem dX8_readDeclarations_21 : decode cX8_readDeclarations 21 = .ok (.iconst 1, 1) := by decide +kernel
theorem dX8_readDeclarations_22 : decode cX8_readDeclarations 22 = .ok (.istore 4, 2) := by decide +kernel
theorem dX8_readDeclarations_24 : decode cX8_readDeclarations 24 = .ok (.iload 4, 2) := by decide +kernel
theorem dX8_readDeclarations_26 : decode cX8_readDeclarations 26 = .ok (.iconst 4, 1) := by decide +kernel
theorem dX8_readDeclarations_27 : decode cX8_readDeclarations 27 = .ok (.if_icmp .ge 36, 3) := by decide +kernel
theorem dX8_readDeclarations_30 : decode cX8_readDeclarations 30 = .ok (.aload_n 3, 1) := by decide +kernel
theorem dX8_readDeclarations_31 : decode cX8_readDeclarations 31 = .ok (.ifnull 32, 3) := by decide +kernel
theorem dX8_readDeclarations_34 : decode cX8_readDeclarations 34 = .ok (.aload_n 0, 1) := by decide +kernel
theorem dX8_readDeclarations_35 : decode cX8_readDeclarations 35 = .ok (.bipush 59, 2) := by decide +kernel
theorem dX8_readDeclarations_37 : decode cX8_readDeclarations 37 = .ok (.invokevirtual 44, 3) := by decide +kernel
theorem dX8_readDeclarations_40 : decode cX8_readDeclarations 40 = .ok (.ifCond .eq 23, 3) := by decide +kernel
theorem dX8_readDeclarations_43 : decode cX8_readDeclarations 43 = .ok (.aload_n 3, 1) := by decide +kernel
theorem dX8_readDeclarations_44 : decode cX8_readDeclarations 44 = .ok (.aload_n 0, 1) := by decide +kernel
theorem dX8_readDeclarations_45 : decode cX8_readDeclarations 45 = .ok (.iload_n 1, 1) := by decide +kernel
theorem dX8_readDeclarations_46 : decode cX8_readDeclarations 46 = .ok (.invokevirtual 119, 3) := by decide +kernel
theorem dX8_readDeclarations_49 : decode cX8_readDeclarations 49 = .ok (.putfield 123, 3) := by decide +kernel
theorem dX8_readDeclarations_52 : decode cX8_readDeclarations 52 = .ok (.aload_n 3, 1) := by decide +kernel
theorem dX8_readDeclarations_53 : decode cX8_readDeclarations 53 = .ok (.getfield 123, 3) := by decide +kernel
theorem dX8_readDeclarations_56 : decode cX8_readDeclarations 56 = .ok (.astore_n 3, 1) := by decide +kernel
theorem dX8_readDeclarations_57 : decode cX8_readDeclarations 57 = .ok (.iinc 4 1, 3) := by decide +kernel
theorem dX8_readDeclarations_60 : decode cX8_readDeclarations 60 = .ok (.goto (-36), 3) := by decide +kernel
theorem dX8_readDeclarations_63 : decode cX8_readDeclarations 63 = .ok (.aload_n 3, 1) := by decide +kernel
theorem dX8_readDeclarations_64 : decode cX8_readDeclarations 64 = .ok (.ifnull 23, 3) := by decide +kernel
theorem dX8_readDeclarations_67 : decode cX8_readDeclarations 67 = .ok (.aload_n 0, 1) := by decide +kernel
theorem dX8_readDeclarations_68 : decode cX8_readDeclarations 68 = .ok (.bipush 125, 2) := by decide +kernel
theorem dX8_readDeclarations_70 : decode cX8_readDeclarations 70 = .ok (.invokevirtual 44, 3) := by decide +kernel
theorem dX8_readDeclarations_73 : decode cX8_readDeclarations 73 = .ok (.ifCond .eq 14, 3) := by decide +kernel
theorem dX8_readDeclarations_76 : decode cX8_readDeclarations 76 = .ok (.aload_n 0, 1) := by decide +kernel
theorem dX8_readDeclarations_77 : decode cX8_readDeclarations 77 = .ok (.invokevirtual 128, 3) := by decide +kernel
theorem dX8_readDeclarations_80 : decode cX8_readDeclarations 80 = .ok (.ifCond .eq 7, 3) := by decide +kernel
theorem dX8_readDeclarations_83 : decode cX8_readDeclarations 83 = .ok (.aload_n 2, 1) := by decide +kernel
theorem dX8_readDeclarations_84 : decode cX8_readDeclarations 84 = .ok (.goto 4, 3) := by decide +kernel
theorem dX8_readDeclarations_87 : decode cX8_readDeclarations 87 = .ok (.aconst_null, 1) := by decide +kernel
theorem dX8_readDeclarations_88 : decode cX8_readDeclarations 88 = .ok (.areturn, 1) := by decide +kernel
theorem dX8_readDeclaration_0 : decode cX8_readDeclaration 0 = .ok (.aload_n 0, 1) := by decide +kernel
theorem dX8_readDeclaration_1 : decode cX8_readDeclaration 1 = .ok (.invokevirtual 132, 3) := by decide +kernel
theorem dX8_readDeclaration_4 : decode cX8_readDeclaration 4 = .ok (.istore_n 2, 1) := by decide +kernel
theorem dX8_readDeclaration_5 : decode cX8_readDeclaration 5 = .ok (.iload_n 2, 1) := by decide +kernel
theorem dX8_readDeclaration_6 : decode cX8_readDeclaration 6 = .ok (.iconst (-1), 1) := by decide +kernel
theorem dX8_readDeclaration_7 : decode cX8_readDeclaration 7 = .ok (.if_icmp .eq 12, 3) := by decide +kernel
theorem dX8_readDeclaration_10 : decode cX8_readDeclaration 10 = .ok (.aload_n 0, 1) := by decide +kernel
theorem dX8_readDeclaration_11 : decode cX8_readDeclaration 11 = .ok (.bipush 58, 2) := by decide +kernel
theorem dX8_readDeclaration_13 : decode cX8_readDeclaration 13 = .ok (.invokevirtual 44, 3) := by decide +kernel
theorem dX8_readDeclaration_16 : decode cX8_readDeclaration 16 = .ok (.ifCond .ne 5, 3) := by decide +kernel
theorem dX8_readDeclaration_19 : decode cX8_readDeclaration 19 = .ok (.aconst_null, 1) := by decide +kernel
theorem dX8_readDeclaration_20 : decode cX8_readDeclaration 20 = .ok (.areturn, 1) := by decide +kernel
theorem dX8_readDeclaration_21 : decode cX8_readDeclaration 21 = .ok (.aload_n 0, 1) := by decide +kernel
theorem dX8_readDeclaration_22 : decode cX8_readDeclaration 22 = .ok (.iconst 0, 1) := by decide +kernel
theorem dX8_readDeclaration_23 : decode cX8_readDeclaration 23 = .ok (.putfield 33, 3) := by decide +kernel
theorem dX8_readDeclaration_26 : decode cX8_readDeclaration 26 = .ok (.aload_n 0, 1) := by decide +kernel
theorem dX8_readDeclaration_27 : decode cX8_readDeclaration 27 = .ok (.ldc 135, 2) := by decide +kernel
theorem dX8_readDeclaration_29 : decode cX8_readDeclaration 29 = .ok (.invokevirtual 137, 3) := by decide +kernel
theorem dX8_readDeclaration_32 : decode cX8_readDeclaration 32 = .ok (.ifCond .eq 7, 3) := by decide +kernel
theorem dX8_readDeclaration_35 : decode cX8_readDeclaration 35 = .ok (.iconst 0, 1) := by decide +kernel
theorem dX8_readDeclaration_36 : decode cX8_readDeclaration 36 = .ok (.goto 29, 3) := by decide +kernel
theorem dX8_readDeclaration_39 : decode cX8_readDeclaration 39 = .ok (.aload_n 0, 1) := by decide +kernel
theorem dX8_readDeclaration_40 : decode cX8_readDeclaration 40 = .ok (.ldc 141, 2) := by decide +kernel
theorem dX8_readDeclaration_42 : decode cX8_readDeclaration 42 = .ok (.invokevirtual 137, 3) := by decide +kernel
theorem dX8_readDeclaration_45 : decode cX8_readDeclaration 45 = .ok (.ifCond .eq 7, 3) := by decide +kernel
theorem dX8_readDeclaration_48 : decode cX8_readDeclaration 48 = .ok (.iconst 1, 1) := by decide +kernel
theorem dX8_readDeclaration_49 : decode cX8_readDeclaration 49 = .ok (.goto 16, 3) := by decide +kernel
theorem dX8_readDeclaration_52 : decode cX8_readDeclaration 52 = .ok (.aload_n 0, 1) := by decide +kernel
theorem dX8_readDeclaration_53 : decode cX8_readDeclaration 53 = .ok (.iconst 0, 1) := by decide +kernel
theorem dX8_readDeclaration_54 : decode cX8_readDeclaration 54 = .ok (.invokevirtual 143, 3) := by decide +kernel
theorem dX8_readDeclaration_57 : decode cX8_readDeclaration 57 = .ok (.ifCond .eq 7, 3) := by decide +kernel
theorem dX8_readDeclaration_60 : decode cX8_readDeclaration 60 = .ok (.iconst 2, 1) := by decide +kernel
theorem dX8_readDeclaration_61 : decode cX8_readDeclaration 61 = .ok (.goto 4, 3) := by decide +kernel
theorem dX8_readDeclaration_64 : decode cX8_readDeclaration 64 = .ok (.iconst (-1), 1) := by decide +kernel
theorem dX8_readDeclaration_65 : decode cX8_readDeclaration 65 = .ok (.istore_n 3, 1) := by decide +kernel
theorem dX8_readDeclaration_66 : decode cX8_readDeclaration 66 = .ok (.iload_n 3, 1) := by decide +kernel
theorem dX8_readDeclaration_67 : decode cX8_readDeclaration 67 = .ok (.iconst (-1), 1) := by decide +kernel
theorem dX8_readDeclaration_68 : decode cX8_readDeclaration 68 = .ok (.if_icmp .ne 5, 3) := by decide +kernel
theorem dX8_readDeclaration_71 : decode cX8_readDeclaration 71 = .ok (.aconst_null, 1) := by decide +kernel
theorem dX8_readDeclaration_72 : decode cX8_readDeclaration 72 = .ok (.areturn, 1) := by decide +kernel
theorem dX8_readDeclaration_73 : decode cX8_readDeclaration 73 = .ok (.aload_n 0, 1) := by decide +kernel
theorem dX8_readDeclaration_74 : decode cX8_readDeclaration 74 = .ok (.bipush 33, 2) := by decide +kernel
theorem dX8_readDeclaration_76 : decode cX8_readDeclaration 76 = .ok (.invokevirtual 44, 3) := by decide +kernel
theorem dX8_readDeclaration_79 : decode cX8_readDeclaration 79 = .ok (.ifCond .eq 9, 3) := by decide +kernel
theorem dX8_readDeclaration_82 : decode cX8_readDeclaration 82 = .ok (.iconst 5, 1) := by decide +kernel
theorem dX8_readDeclaration_83 : decode cX8_readDeclaration 83 = .ok (.iload_n 1, 1) := by decide +kernel
theorem dX8_readDeclaration_84 : decode cX8_readDeclaration 84 = .ok (.isub, 1) := by decide +kernel
theorem dX8_readDeclaration_85 : decode cX8_readDeclaration 85 = .ok (.goto 4, 3) := by decide +kernel
theorem dX8_readDeclaration_88 : decode cX8_readDeclaration 88 = .ok (.iload_n 1, 1) := by decide +kernel
theorem dX8_readDeclaration_89 : decode cX8_readDeclaration 89 = .ok (.istore 4, 2) := by decide +kernel
theorem dX8_readDeclaration_91 : decode cX8_readDeclaration 91 = .ok (.new 124, 3) := by decide +kernel
theorem dX8_readDeclaration_94 : decode cX8_readDeclaration 94 = .ok (.dup, 1) := by decide +kernel
theorem dX8_readDeclaration_95 : decode cX8_readDeclaration 95 = .ok (.iload_n 2, 1) := by decide +kernel
theorem dX8_readDeclaration_96 : decode cX8_readDeclaration 96 = .ok (.iload_n 3, 1) := by decide +kernel
theorem dX8_readDeclaration_97 : decode cX8_readDeclaration 97 = .ok (.iload 4, 2) := by decide +kernel
theorem dX8_readDeclaration_99 : decode cX8_readDeclaration 99 = .ok (.aload_n 0, 1) := by decide +kernel
theorem dX8_readDeclaration_100 : decode cX8_readDeclaration 100 = .ok (.getfield 25, 3) := by decide +kernel
theorem dX8_readDeclaration_103 : decode cX8_readDeclaration 103 = .ok (.aload_n 0, 1) := by decide +kernel
theorem dX8_readDeclaration_104 : decode cX8_readDeclaration 104 = .ok (.getfield 33, 3) := by decide +kernel
theorem dX8_readDeclaration_107 : decode cX8_readDeclaration 107 = .ok (.invokestatic 146, 3) := by decide +kernel
theorem dX8_readDeclaration_110 : decode cX8_readDeclaration 110 = .ok (.aload_n 0, 1) := by decide +kernel
theorem dX8_readDeclaration_111 : decode cX8_readDeclaration 111 = .ok (.getfield 29, 3) := by decide +kernel
theorem dX8_readDeclaration_114 : decode cX8_readDeclaration 114 = .ok (.aload_n 0, 1) := by decide +kernel
theorem dX8_readDeclaration_115 : decode cX8_readDeclaration 115 = .ok (.getfield 33, 3) := by decide +kernel
theorem dX8_readDeclaration_118 : decode cX8_readDeclaration 118 = .ok (.invokestatic 152, 3) := by decide +kernel
theorem dX8_readDeclaration_121 : decode cX8_readDeclaration 121 = .ok (.invokespecial 155, 3) := by decide +kernel
theorem dX8_readDeclaration_124 : decode cX8_readDeclaration 124 = .ok (.areturn, 1) := by decide +kernel
theorem dX8_readName_0 : decode cX8_readName 0 = .ok (.aload_n 0, 1) := by decide +kernel
theorem dX8_readName_1 : decode cX8_readName 1 = .ok (.invokevirtual 71, 3) := by decide +kernel
theorem dX8_readName_4 : decode cX8_readName 4 = .ok (.lookupswitch 99 #[(36, 80), (99, 68), (102, 70), (104, 74), (109, 76), (119, 72), (122, 78)], 68) := by decide +kernel
theorem dX8_readName_72 : decode cX8_readName 72 = .ok (.iconst 0, 1) := by decide +kernel
theorem dX8_readName_73 : decode cX8_readName 73 = .ok (.ireturn, 1) := by decide +kernel
theorem dX8_readName_74 : decode cX8_readName 74 = .ok (.iconst 1, 1) := by decide +kernel
theorem dX8_readName_75 : decode cX8_readName 75 = .ok (.ireturn, 1) := by decide +kernel
theorem dX8_readName_76 : decode cX8_readName 76 = .ok (.iconst 2, 1) := by decide +kernel
theorem dX8_readName_77 : decode cX8_readName 77 = .ok (.ireturn, 1) := by decide +kernel
theorem dX8_readName_78 : decode cX8_readName 78 = .ok (.iconst 3, 1) := by decide +kernel
theorem dX8_readName_79 : decode cX8_readName 79 = .ok (.ireturn, 1) := by decide +kernel
theorem dX8_readName_80 : decode cX8_readName 80 = .ok (.iconst 4, 1) := by decide +kernel
theorem dX8_readName_81 : decode cX8_readName 81 = .ok (.ireturn, 1) := by decide +kernel
theorem dX8_readName_82 : decode cX8_readName 82 = .ok (.iconst 5, 1) := by decide +kernel
theorem dX8_readName_83 : decode cX8_readName 83 = .ok (.ireturn, 1) := by decide +kernel
theorem dX8_readName_84 : decode cX8_readName 84 = .ok (.aload_n 0, 1) := by decide +kernel
theorem dX8_readName_85 : decode cX8_readName 85 = .ok (.invokevirtual 158, 3) := by decide +kernel
theorem dX8_readName_88 : decode cX8_readName 88 = .ok (.istore_n 1, 1) := by decide +kernel
theorem dX8_readName_89 : decode cX8_readName 89 = .ok (.iload_n 1, 1) := by decide +kernel
theorem dX8_readName_90 : decode cX8_readName 90 = .ok (.iconst (-1), 1) := by decide +kernel
theorem dX8_readName_91 : decode cX8_readName 91 = .ok (.if_icmp .ne 7, 3) := by decide +kernel
theorem dX8_readName_94 : decode cX8_readName 94 = .ok (.iconst (-1), 1) := by decide +kernel
theorem dX8_readName_95 : decode cX8_readName 95 = .ok (.goto 7, 3) := by decide +kernel
theorem dX8_readName_98 : decode cX8_readName 98 = .ok (.bipush 6, 2) := by decide +kernel
theorem dX8_readName_100 : decode cX8_readName 100 = .ok (.iload_n 1, 1) := by decide +kernel
theorem dX8_readName_101 : decode cX8_readName 101 = .ok (.iadd, 1) := by decide +kernel
theorem dX8_readName_102 : decode cX8_readName 102 = .ok (.ireturn, 1) := by decide +kernel
theorem dX8_readName_103 : decode cX8_readName 103 = .ok (.iconst (-1), 1) := by decide +kernel
theorem dX8_readName_104 : decode cX8_readName 104 = .ok (.ireturn, 1) := by decide +kernel
theorem dX8_readNamed_0 : decode cX8_readNamed 0 = .ok (.aload_n 0, 1) := by decide +kernel
theorem dX8_readNamed_1 : decode cX8_readNamed 1 = .ok (.invokevirtual 71, 3) := by decide +kernel
theorem dX8_readNamed_4 : decode cX8_readNamed 4 = .ok (.istore_n 1, 1) := by decide +kernel
theorem dX8_readNamed_5 : decode cX8_readNamed 5 = .ok (.iload_n 1, 1) := by decide +kernel
theorem dX8_readNamed_6 : decode cX8_readNamed 6 = .ok (.bipush 97, 2) := by decide +kernel
theorem dX8_readNamed_8 : decode cX8_readNamed 8 = .ok (.if_icmp .lt 16, 3) := by decide +kernel
theorem dX8_readNamed_11 : decode cX8_readNamed 11 = .ok (.iload_n 1, 1) := by decide +kernel
theorem dX8_readNamed_12 : decode cX8_readNamed 12 = .ok (.bipush 100, 2) := by decide +kernel
theorem dX8_readNamed_14 : decode cX8_readNamed 14 = .ok (.if_icmp .gt 10, 3) := by decide +kernel
theorem dX8_readNamed_17 : decode cX8_readNamed 17 = .ok (.iload_n 1, 1) := by decide +kernel
theorem dX8_readNamed_18 : decode cX8_readNamed 18 = .ok (.bipush 97, 2) := by decide +kernel
theorem dX8_readNamed_20 : decode cX8_readNamed 20 = .ok (.isub, 1) := by decide +kernel
theorem dX8_readNamed_21 : decode cX8_readNamed 21 = .ok (.goto 4, 3) := by decide +kernel
theorem dX8_readNamed_24 : decode cX8_readNamed 24 = .ok (.iconst (-1), 1) := by decide +kernel
theorem dX8_readNamed_25 : decode cX8_readNamed 25 = .ok (.ireturn, 1) := by decide +kernel
theorem dX8_readSum_0 : decode cX8_readSum 0 = .ok (.aload_n 0, 1) := by decide +kernel
theorem dX8_readSum_1 : decode cX8_readSum 1 = .ok (.iload_n 1, 1) := by decide +kernel
theorem dX8_readSum_2 : decode cX8_readSum 2 = .ok (.invokevirtual 161, 3) := by decide +kernel
theorem dX8_readSum_5 : decode cX8_readSum 5 = .ok (.ifCond .ne 5, 3) := by decide +kernel
theorem dX8_readSum_8 : decode cX8_readSum 8 = .ok (.iconst 0, 1) := by decide +kernel
theorem dX8_readSum_9 : decode cX8_readSum 9 = .ok (.ireturn, 1) := by decide +kernel
theorem dX8_readSum_10 : decode cX8_readSum 10 = .ok (.iconst 0, 1) := by decide +kernel
theorem dX8_readSum_11 : decode cX8_readSum 11 = .ok (.istore_n 2, 1) := by decide +kernel
theorem dX8_readSum_12 : decode cX8_readSum 12 = .ok (.iload_n 2, 1) := by decide +kernel
theorem dX8_readSum_13 : decode cX8_readSum 13 = .ok (.bipush 120, 2) := by decide +kernel
theorem dX8_readSum_15 : decode cX8_readSum 15 = .ok (.if_icmp .ge 62, 3) := by decide +kernel
theorem dX8_readSum_18 : decode cX8_readSum 18 = .ok (.aload_n 0, 1) := by decide +kernel
theorem dX8_readSum_19 : decode cX8_readSum 19 = .ok (.bipush 43, 2) := by decide +kernel
theorem dX8_readSum_21 : decode cX8_readSum 21 = .ok (.invokevirtual 44, 3) := by decide +kernel
theorem dX8_readSum_24 : decode cX8_readSum 24 = .ok (.ifCond .eq 7, 3) := by decide +kernel
theorem dX8_readSum_27 : decode cX8_readSum 27 = .ok (.iconst 5, 1) := by decide +kernel
theorem dX8_readSum_28 : decode cX8_readSum 28 = .ok (.goto 18, 3) := by decide +kernel
theorem dX8_readSum_31 : decode cX8_readSum 31 = .ok (.aload_n 0, 1) := by decide +kernel
theorem dX8_readSum_32 : decode cX8_readSum 32 = .ok (.bipush 45, 2) := by decide +kernel
theorem dX8_readSum_34 : decode cX8_readSum 34 = .ok (.invokevirtual 44, 3) := by decide +kernel
theorem dX8_readSum_37 : decode cX8_readSum 37 = .ok (.ifCond .eq 8, 3) := by decide +kernel
theorem dX8_readSum_40 : decode cX8_readSum 40 = .ok (.bipush 6, 2) := by decide +kernel
theorem dX8_readSum_42 : decode cX8_readSum 42 = .ok (.goto 4, 3) := by decide +kernel
theorem dX8_readSum_45 : decode cX8_readSum 45 = .ok (.iconst (-1), 1) := by decide +kernel
theorem dX8_readSum_46 : decode cX8_readSum 46 = .ok (.istore_n 3, 1) := by decide +kernel
theorem dX8_readSum_47 : decode cX8_readSum 47 = .ok (.iload_n 3, 1) := by decide +kernel
theorem dX8_readSum_48 : decode cX8_readSum 48 = .ok (.iconst (-1), 1) := by decide +kernel
theorem dX8_readSum_49 : decode cX8_readSum 49 = .ok (.if_icmp .ne 6, 3) := by decide +kernel
theorem dX8_readSum_52 : decode cX8_readSum 52 = .ok (.goto 25, 3) := by decide +kernel
theorem dX8_readSum_55 : decode cX8_readSum 55 = .ok (.aload_n 0, 1) := by decide +kernel
theorem dX8_readSum_56 : decode cX8_readSum 56 = .ok (.iload_n 1, 1) := by decide +kernel
theorem dX8_readSum_57 : decode cX8_readSum 57 = .ok (.invokevirtual 161, 3) := by decide +kernel
theorem dX8_readSum_60 : decode cX8_readSum 60 = .ok (.ifCond .ne 5, 3) := by decide +kernel
theorem dX8_readSum_63 : decode cX8_readSum 63 = .ok (.iconst 0, 1) := by decide +kernel
theorem dX8_readSum_64 : decode cX8_readSum 64 = .ok (.ireturn, 1) := by decide +kernel
theorem dX8_readSum_65 : decode cX8_readSum 65 = .ok (.aload_n 0, 1) := by decide +kernel
theorem dX8_readSum_66 : decode cX8_readSum 66 = .ok (.iload_n 3, 1) := by decide +kernel
theorem dX8_readSum_67 : decode cX8_readSum 67 = .ok (.fconst 0, 1) := by decide +kernel
theorem dX8_readSum_68 : decode cX8_readSum 68 = .ok (.invokevirtual 164, 3) := by decide +kernel
theorem dX8_readSum_71 : decode cX8_readSum 71 = .ok (.iinc 2 1, 3) := by decide +kernel
theorem dX8_readSum_74 : decode cX8_readSum 74 = .ok (.goto (-62), 3) := by decide +kernel
theorem dX8_readSum_77 : decode cX8_readSum 77 = .ok (.iconst 1, 1) := by decide +kernel
theorem dX8_readSum_78 : decode cX8_readSum 78 = .ok (.ireturn, 1) := by decide +kernel
theorem dX8_readProduct_0 : decode cX8_readProduct 0 = .ok (.aload_n 0, 1) := by decide +kernel
theorem dX8_readProduct_1 : decode cX8_readProduct 1 = .ok (.iload_n 1, 1) := by decide +kernel
theorem dX8_readProduct_2 : decode cX8_readProduct 2 = .ok (.invokevirtual 168, 3) := by decide +kernel
theorem dX8_readProduct_5 : decode cX8_readProduct 5 = .ok (.ifCond .ne 5, 3) := by decide +kernel
theorem dX8_readProduct_8 : decode cX8_readProduct 8 = .ok (.iconst 0, 1) := by decide +kernel
theorem dX8_readProduct_9 : decode cX8_readProduct 9 = .ok (.ireturn, 1) := by decide +kernel
theorem dX8_readProduct_10 : decode cX8_readProduct 10 = .ok (.iconst 0, 1) := by decide +kernel
theorem dX8_readProduct_11 : decode cX8_readProduct 11 = .ok (.istore_n 2, 1) := by decide +kernel
theorem dX8_readProduct_12 : decode cX8_readProduct 12 = .ok (.iload_n 2, 1) := by decide +kernel
theorem dX8_readProduct_13 : decode cX8_readProduct 13 = .ok (.bipush 120, 2) := by decide +kernel
theorem dX8_readProduct_15 : decode cX8_readProduct 15 = .ok (.if_icmp .ge 63, 3) := by decide +kernel
theorem dX8_readProduct_18 : decode cX8_readProduct 18 = .ok (.aload_n 0, 1) := by decide +kernel
theorem dX8_readProduct_19 : decode cX8_readProduct 19 = .ok (.bipush 42, 2) := by decide +kernel
theorem dX8_readProduct_21 : decode cX8_readProduct 21 = .ok (.invokevirtual 44, 3) := by decide +kernel
theorem dX8_readProduct_24 : decode cX8_readProduct 24 = .ok (.ifCond .eq 8, 3) := by decide +kernel
theorem dX8_readProduct_27 : decode cX8_readProduct 27 = .ok (.bipush 7, 2) := by decide +kernel
theorem dX8_readProduct_29 : decode cX8_readProduct 29 = .ok (.goto 18, 3) := by decide +kernel
theorem dX8_readProduct_32 : decode cX8_readProduct 32 = .ok (.aload_n 0, 1) := by decide +kernel
theorem dX8_readProduct_33 : decode cX8_readProduct 33 = .ok (.bipush 47, 2) := by decide +kernel
theorem dX8_readProduct_35 : decode cX8_readProduct 35 = .ok (.invokevirtual 44, 3) := by decide +kernel
theorem dX8_readProduct_38 : decode cX8_readProduct 38 = .ok (.ifCond .eq 8, 3) := by decide +kernel
theorem dX8_readProduct_41 : decode cX8_readProduct 41 = .ok (.bipush 8, 2) := by decide +kernel
theorem dX8_readProduct_43 : decode cX8_readProduct 43 = .ok (.goto 4, 3) := by decide +kernel
theorem dX8_readProduct_46 : decode cX8_readProduct 46 = .ok (.iconst (-1), 1) := by decide +kernel
theorem dX8_readProduct_47 : decode cX8_readProduct 47 = .ok (.istore_n 3, 1) := by decide +kernel
theorem dX8_readProduct_48 : decode cX8_readProduct 48 = .ok (.iload_n 3, 1) := by decide +kernel
theorem dX8_readProduct_49 : decode cX8_readProduct 49 = .ok (.iconst (-1), 1) := by decide +kernel
theorem dX8_readProduct_50 : decode cX8_readProduct 50 = .ok (.if_icmp .ne 6, 3) := by decide +kernel
theorem dX8_readProduct_53 : decode cX8_readProduct 53 = .ok (.goto 25, 3) := by decide +kernel
theorem dX8_readProduct_56 : decode cX8_readProduct 56 = .ok (.aload_n 0, 1) := by decide +kernel
theorem dX8_readProduct_57 : decode cX8_readProduct 57 = .ok (.iload_n 1, 1) := by decide +kernel
theorem dX8_readProduct_58 : decode cX8_readProduct 58 = .ok (.invokevirtual 168, 3) := by decide +kernel
theorem dX8_readProduct_61 : decode cX8_readProduct 61 = .ok (.ifCond .ne 5, 3) := by decide +kernel
theorem dX8_readProduct_64 : decode cX8_readProduct 64 = .ok (.iconst 0, 1) := by decide +kernel
theorem dX8_readProduct_65 : decode cX8_readProduct 65 = .ok (.ireturn, 1) := by decide +kernel
theorem dX8_readProduct_66 : decode cX8_readProduct 66 = .ok (.aload_n 0, 1) := by decide +kernel
theorem dX8_readProduct_67 : decode cX8_readProduct 67 = .ok (.iload_n 3, 1) := by decide +kernel
theorem dX8_readProduct_68 : decode cX8_readProduct 68 = .ok (.fconst 0, 1) := by decide +kernel
theorem dX8_readProduct_69 : decode cX8_readProduct 69 = .ok (.invokevirtual 164, 3) := by decide +kernel
theorem dX8_readProduct_72 : decode cX8_readProduct 72 = .ok (.iinc 2 1, 3) := by decide +kernel
theorem dX8_readProduct_75 : decode cX8_readProduct 75 = .ok (.goto (-63), 3) := by decide +kernel
theorem dX8_readProduct_78 : decode cX8_readProduct 78 = .ok (.iconst 1, 1) := by decide +kernel
theorem dX8_readProduct_79 : decode cX8_readProduct 79 = .ok (.ireturn, 1) := by decide +kernel
theorem dX8_readFactor_0 : decode cX8_readFactor 0 = .ok (.iload_n 1, 1) := by decide +kernel
theorem dX8_readFactor_1 : decode cX8_readFactor 1 = .ok (.bipush 6, 2) := by decide +kernel
theorem dX8_readFactor_3 : decode cX8_readFactor 3 = .ok (.if_icmp .le 5, 3) := by decide +kernel
theorem dX8_readFactor_6 : decode cX8_readFactor 6 = .ok (.iconst 0, 1) := by decide +kernel
theorem dX8_readFactor_7 : decode cX8_readFactor 7 = .ok (.ireturn, 1) := by decide +kernel
theorem dX8_readFactor_8 : decode cX8_readFactor 8 = .ok (.aload_n 0, 1) := by decide +kernel
theorem dX8_readFactor_9 : decode cX8_readFactor 9 = .ok (.bipush 45, 2) := by decide +kernel
theorem dX8_readFactor_11 : decode cX8_readFactor 11 = .ok (.invokevirtual 44, 3) := by decide +kernel
theorem dX8_readFactor_14 : decode cX8_readFactor 14 = .ok (.ifCond .eq 23, 3) := by decide +kernel
theorem dX8_readFactor_17 : decode cX8_readFactor 17 = .ok (.aload_n 0, 1) := by decide +kernel
theorem dX8_readFactor_18 : decode cX8_readFactor 18 = .ok (.iload_n 1, 1) := by decide +kernel
theorem dX8_readFactor_19 : decode cX8_readFactor 19 = .ok (.iconst 1, 1) := by decide +kernel
theorem dX8_readFactor_20 : decode cX8_readFactor 20 = .ok (.iadd, 1) := by decide +kernel
theorem dX8_readFactor_21 : decode cX8_readFactor 21 = .ok (.invokevirtual 168, 3) := by decide +kernel
theorem dX8_readFactor_24 : decode cX8_readFactor 24 = .ok (.ifCond .ne 5, 3) := by decide +kernel
theorem dX8_readFactor_27 : decode cX8_readFactor 27 = .ok (.iconst 0, 1) := by decide +kernel
theorem dX8_readFactor_28 : decode cX8_readFactor 28 = .ok (.ireturn, 1) := by decide +kernel
theorem dX8_readFactor_29 : decode cX8_readFactor 29 = .ok (.aload_n 0, 1) := by decide +kernel
theorem dX8_readFactor_30 : decode cX8_readFactor 30 = .ok (.iconst 4, 1) := by decide +kernel
theorem dX8_readFactor_31 : decode cX8_readFactor 31 = .ok (.fconst 0, 1) := by decide +kernel
theorem dX8_readFactor_32 : decode cX8_readFactor 32 = .ok (.invokevirtual 164, 3) := by decide +kernel
theorem dX8_readFactor_35 : decode cX8_readFactor 35 = .ok (.iconst 1, 1) := by decide +kernel
theorem dX8_readFactor_36 : decode cX8_readFactor 36 = .ok (.ireturn, 1) := by decide +kernel
theorem dX8_readFactor_37 : decode cX8_readFactor 37 = .ok (.aload_n 0, 1) := by decide +kernel
theorem dX8_readFactor_38 : decode cX8_readFactor 38 = .ok (.bipush 40, 2) := by decide +kernel
theorem dX8_readFactor_40 : decode cX8_readFactor 40 = .ok (.invokevirtual 44, 3) := by decide +kernel
theorem dX8_readFactor_43 : decode cX8_readFactor 43 = .ok (.ifCond .eq 28, 3) := by decide +kernel
theorem dX8_readFactor_46 : decode cX8_readFactor 46 = .ok (.aload_n 0, 1) := by decide +kernel
theorem dX8_readFactor_47 : decode cX8_readFactor 47 = .ok (.iload_n 1, 1) := by decide +kernel
theorem dX8_readFactor_48 : decode cX8_readFactor 48 = .ok (.iconst 1, 1) := by decide +kernel
theorem dX8_readFactor_49 : decode cX8_readFactor 49 = .ok (.iadd, 1) := by decide +kernel
theorem dX8_readFactor_50 : decode cX8_readFactor 50 = .ok (.invokevirtual 143, 3) := by decide +kernel
theorem dX8_readFactor_53 : decode cX8_readFactor 53 = .ok (.ifCond .eq 16, 3) := by decide +kernel
theorem dX8_readFactor_56 : decode cX8_readFactor 56 = .ok (.aload_n 0, 1) := by decide +kernel
theorem dX8_readFactor_57 : decode cX8_readFactor 57 = .ok (.bipush 41, 2) := by decide +kernel
theorem dX8_readFactor_59 : decode cX8_readFactor 59 = .ok (.invokevirtual 44, 3) := by decide +kernel
theorem dX8_readFactor_62 : decode cX8_readFactor 62 = .ok (.ifCond .eq 7, 3) := by decide +kernel
theorem dX8_readFactor_65 : decode cX8_readFactor 65 = .ok (.iconst 1, 1) := by decide +kernel
theorem dX8_readFactor_66 : decode cX8_readFactor 66 = .ok (.goto 4, 3) := by decide +kernel
theorem dX8_readFactor_69 : decode cX8_readFactor 69 = .ok (.iconst 0, 1) := by decide +kernel
theorem dX8_readFactor_70 : decode cX8_readFactor 70 = .ok (.ireturn, 1) := by decide +kernel
theorem dX8_readFactor_71 : decode cX8_readFactor 71 = .ok (.aload_n 0, 1) := by decide +kernel
theorem dX8_readFactor_72 : decode cX8_readFactor 72 = .ok (.bipush 36, 2) := by decide +kernel
theorem dX8_readFactor_74 : decode cX8_readFactor 74 = .ok (.invokevirtual 44, 3) := by decide +kernel
theorem dX8_readFactor_77 : decode cX8_readFactor 77 = .ok (.ifCond .eq 26, 3) := by decide +kernel
theorem dX8_readFactor_80 : decode cX8_readFactor 80 = .ok (.aload_n 0, 1) := by decide +kernel
theorem dX8_readFactor_81 : decode cX8_readFactor 81 = .ok (.invokevirtual 158, 3) := by decide +kernel
theorem dX8_readFactor_84 : decode cX8_readFactor 84 = .ok (.istore_n 2, 1) := by decide +kernel
theorem dX8_readFactor_85 : decode cX8_readFactor 85 = .ok (.iload_n 2, 1) := by decide +kernel
theorem dX8_readFactor_86 : decode cX8_readFactor 86 = .ok (.iconst (-1), 1) := by decide +kernel
theorem dX8_readFactor_87 : decode cX8_readFactor 87 = .ok (.if_icmp .ne 5, 3) := by decide +kernel
theorem dX8_readFactor_90 : decode cX8_readFactor 90 = .ok (.iconst 0, 1) := by decide +kernel
theorem dX8_readFactor_91 : decode cX8_readFactor 91 = .ok (.ireturn, 1) := by decide +kernel
theorem dX8_readFactor_92 : decode cX8_readFactor 92 = .ok (.aload_n 0, 1) := by decide +kernel
theorem dX8_readFactor_93 : decode cX8_readFactor 93 = .ok (.bipush 9, 2) := by decide +kernel
theorem dX8_readFactor_95 : decode cX8_readFactor 95 = .ok (.iload_n 2, 1) := by decide +kernel
theorem dX8_readFactor_96 : decode cX8_readFactor 96 = .ok (.iadd, 1) := by decide +kernel
theorem dX8_readFactor_97 : decode cX8_readFactor 97 = .ok (.fconst 0, 1) := by decide +kernel
theorem dX8_readFactor_98 : decode cX8_readFactor 98 = .ok (.invokevirtual 164, 3) := by decide +kernel
theorem dX8_readFactor_101 : decode cX8_readFactor 101 = .ok (.iconst 1, 1) := by decide +kernel
theorem dX8_readFactor_102 : decode cX8_readFactor 102 = .ok (.ireturn, 1) := by decide +kernel
theorem dX8_readFactor_103 : decode cX8_readFactor 103 = .ok (.aload_n 0, 1) := by decide +kernel
theorem dX8_readFactor_104 : decode cX8_readFactor 104 = .ok (.invokevirtual 171, 3) := by decide +kernel
theorem dX8_readFactor_107 : decode cX8_readFactor 107 = .ok (.ireturn, 1) := by decide +kernel
theorem dX8_readNumber_0 : decode cX8_readNumber 0 = .ok (.aload_n 0, 1) := by decide +kernel
theorem dX8_readNumber_1 : decode cX8_readNumber 1 = .ok (.invokevirtual 116, 3) := by decide +kernel
theorem dX8_readNumber_4 : decode cX8_readNumber 4 = .ok (.istore_n 1, 1) := by decide +kernel
theorem dX8_readNumber_5 : decode cX8_readNumber 5 = .ok (.iload_n 1, 1) := by decide +kernel
theorem dX8_readNumber_6 : decode cX8_readNumber 6 = .ok (.iconst (-1), 1) := by decide +kernel
theorem dX8_readNumber_7 : decode cX8_readNumber 7 = .ok (.if_icmp .ne 5, 3) := by decide +kernel
theorem dX8_readNumber_10 : decode cX8_readNumber 10 = .ok (.iconst 0, 1) := by decide +kernel
theorem dX8_readNumber_11 : decode cX8_readNumber 11 = .ok (.ireturn, 1) := by decide +kernel
theorem dX8_readNumber_12 : decode cX8_readNumber 12 = .ok (.iconst 1, 1) := by decide +kernel
theorem dX8_readNumber_13 : decode cX8_readNumber 13 = .ok (.istore_n 2, 1) := by decide +kernel
theorem dX8_readNumber_14 : decode cX8_readNumber 14 = .ok (.iload_n 2, 1) := by decide +kernel
theorem dX8_readNumber_15 : decode cX8_readNumber 15 = .ok (.iconst 3, 1) := by decide +kernel
theorem dX8_readNumber_16 : decode cX8_readNumber 16 = .ok (.if_icmp .ge 29, 3) := by decide +kernel
theorem dX8_readNumber_19 : decode cX8_readNumber 19 = .ok (.aload_n 0, 1) := by decide +kernel
theorem dX8_readNumber_20 : decode cX8_readNumber 20 = .ok (.invokevirtual 63, 3) := by decide +kernel
theorem dX8_readNumber_23 : decode cX8_readNumber 23 = .ok (.invokestatic 174, 3) := by decide +kernel
theorem dX8_readNumber_26 : decode cX8_readNumber 26 = .ok (.ifCond .eq 19, 3) := by decide +kernel
theorem dX8_readNumber_29 : decode cX8_readNumber 29 = .ok (.bipush 10, 2) := by decide +kernel
theorem dX8_readNumber_31 : decode cX8_readNumber 31 = .ok (.iload_n 1, 1) := by decide +kernel
theorem dX8_readNumber_32 : decode cX8_readNumber 32 = .ok (.imul, 1) := by decide +kernel
theorem dX8_readNumber_33 : decode cX8_readNumber 33 = .ok (.aload_n 0, 1) := by decide +kernel
theorem dX8_readNumber_34 : decode cX8_readNumber 34 = .ok (.invokevirtual 116, 3) := by decide +kernel
theorem dX8_readNumber_37 : decode cX8_readNumber 37 = .ok (.iadd, 1) := by decide +kernel
theorem dX8_readNumber_38 : decode cX8_readNumber 38 = .ok (.istore_n 1, 1) := by decide +kernel
theorem dX8_readNumber_39 : decode cX8_readNumber 39 = .ok (.iinc 2 1, 3) := by decide +kernel
theorem dX8_readNumber_42 : decode cX8_readNumber 42 = .ok (.goto (-28), 3) := by decide +kernel
theorem dX8_readNumber_45 : decode cX8_readNumber 45 = .ok (.iload_n 1, 1) := by decide +kernel
theorem dX8_readNumber_46 : decode cX8_readNumber 46 = .ok (.i2f, 1) := by decide +kernel
theorem dX8_readNumber_47 : decode cX8_readNumber 47 = .ok (.fstore_n 2, 1) := by decide +kernel
theorem dX8_readNumber_48 : decode cX8_readNumber 48 = .ok (.aload_n 0, 1) := by decide +kernel
theorem dX8_readNumber_49 : decode cX8_readNumber 49 = .ok (.bipush 46, 2) := by decide +kernel
theorem dX8_readNumber_51 : decode cX8_readNumber 51 = .ok (.invokevirtual 44, 3) := by decide +kernel
theorem dX8_readNumber_54 : decode cX8_readNumber 54 = .ok (.ifCond .eq 26, 3) := by decide +kernel
theorem dX8_readNumber_57 : decode cX8_readNumber 57 = .ok (.aload_n 0, 1) := by decide +kernel
theorem dX8_readNumber_58 : decode cX8_readNumber 58 = .ok (.invokevirtual 116, 3) := by decide +kernel
theorem dX8_readNumber_61 : decode cX8_readNumber 61 = .ok (.istore_n 3, 1) := by decide +kernel
theorem dX8_readNumber_62 : decode cX8_readNumber 62 = .ok (.iload_n 3, 1) := by decide +kernel
theorem dX8_readNumber_63 : decode cX8_readNumber 63 = .ok (.iconst (-1), 1) := by decide +kernel
theorem dX8_readNumber_64 : decode cX8_readNumber 64 = .ok (.if_icmp .ne 5, 3) := by decide +kernel
theorem dX8_readNumber_67 : decode cX8_readNumber 67 = .ok (.iconst 0, 1) := by decide +kernel
theorem dX8_readNumber_68 : decode cX8_readNumber 68 = .ok (.ireturn, 1) := by decide +kernel
theorem dX8_readNumber_69 : decode cX8_readNumber 69 = .ok (.bipush 10, 2) := by decide +kernel
theorem dX8_readNumber_71 : decode cX8_readNumber 71 = .ok (.iload_n 1, 1) := by decide +kernel
theorem dX8_readNumber_72 : decode cX8_readNumber 72 = .ok (.imul, 1) := by decide +kernel
theorem dX8_readNumber_73 : decode cX8_readNumber 73 = .ok (.iload_n 3, 1) := by decide +kernel
theorem dX8_readNumber_74 : decode cX8_readNumber 74 = .ok (.iadd, 1) := by decide +kernel
theorem dX8_readNumber_75 : decode cX8_readNumber 75 = .ok (.i2f, 1) := by decide +kernel
theorem dX8_readNumber_76 : decode cX8_readNumber 76 = .ok (.ldc 177, 2) := by decide +kernel
theorem dX8_readNumber_78 : decode cX8_readNumber 78 = .ok (.fdiv, 1) := by decide +kernel
theorem dX8_readNumber_79 : decode cX8_readNumber 79 = .ok (.fstore_n 2, 1) := by decide +kernel
theorem dX8_readNumber_80 : decode cX8_readNumber 80 = .ok (.aload_n 0, 1) := by decide +kernel
theorem dX8_readNumber_81 : decode cX8_readNumber 81 = .ok (.aload_n 0, 1) := by decide +kernel
theorem dX8_readNumber_82 : decode cX8_readNumber 82 = .ok (.bipush 112, 2) := by decide +kernel
theorem dX8_readNumber_84 : decode cX8_readNumber 84 = .ok (.invokevirtual 44, 3) := by decide +kernel
theorem dX8_readNumber_87 : decode cX8_readNumber 87 = .ok (.ifCond .eq 7, 3) := by decide +kernel
theorem dX8_readNumber_90 : decode cX8_readNumber 90 = .ok (.iconst 1, 1) := by decide +kernel
theorem dX8_readNumber_91 : decode cX8_readNumber 91 = .ok (.goto 30, 3) := by decide +kernel
theorem dX8_readNumber_94 : decode cX8_readNumber 94 = .ok (.aload_n 0, 1) := by decide +kernel
theorem dX8_readNumber_95 : decode cX8_readNumber 95 = .ok (.bipush 101, 2) := by decide +kernel
theorem dX8_readNumber_97 : decode cX8_readNumber 97 = .ok (.invokevirtual 44, 3) := by decide +kernel
theorem dX8_readNumber_100 : decode cX8_readNumber 100 = .ok (.ifCond .eq 7, 3) := by decide +kernel
theorem dX8_readNumber_103 : decode cX8_readNumber 103 = .ok (.iconst 2, 1) := by decide +kernel
theorem dX8_readNumber_104 : decode cX8_readNumber 104 = .ok (.goto 17, 3) := by decide +kernel
theorem dX8_readNumber_107 : decode cX8_readNumber 107 = .ok (.aload_n 0, 1) := by decide +kernel
theorem dX8_readNumber_108 : decode cX8_readNumber 108 = .ok (.bipush 37, 2) := by decide +kernel
theorem dX8_readNumber_110 : decode cX8_readNumber 110 = .ok (.invokevirtual 44, 3) := by decide +kernel
theorem dX8_readNumber_113 : decode cX8_readNumber 113 = .ok (.ifCond .eq 7, 3) := by decide +kernel
theorem dX8_readNumber_116 : decode cX8_readNumber 116 = .ok (.iconst 3, 1) := by decide +kernel
theorem dX8_readNumber_117 : decode cX8_readNumber 117 = .ok (.goto 4, 3) := by decide +kernel
theorem dX8_readNumber_120 : decode cX8_readNumber 120 = .ok (.iconst 0, 1) := by decide +kernel
theorem dX8_readNumber_121 : decode cX8_readNumber 121 = .ok (.fload_n 2, 1) := by decide +kernel
theorem dX8_readNumber_122 : decode cX8_readNumber 122 = .ok (.invokevirtual 164, 3) := by decide +kernel
theorem dX8_readNumber_125 : decode cX8_readNumber 125 = .ok (.iconst 1, 1) := by decide +kernel
theorem dX8_readNumber_126 : decode cX8_readNumber 126 = .ok (.ireturn, 1) := by decide +kernel
theorem dX8_keep_0 : decode cX8_keep 0 = .ok (.aload_n 0, 1) := by decide +kernel
theorem dX8_keep_1 : decode cX8_keep 1 = .ok (.getfield 33, 3) := by decide +kernel
theorem dX8_keep_4 : decode cX8_keep 4 = .ok (.aload_n 0, 1) := by decide +kernel
theorem dX8_keep_5 : decode cX8_keep 5 = .ok (.getfield 25, 3) := by decide +kernel
theorem dX8_keep_8 : decode cX8_keep 8 = .ok (.arraylength, 1) := by decide +kernel
theorem dX8_keep_9 : decode cX8_keep 9 = .ok (.if_icmp .ge 33, 3) := by decide +kernel
theorem dX8_keep_12 : decode cX8_keep 12 = .ok (.aload_n 0, 1) := by decide +kernel
theorem dX8_keep_13 : decode cX8_keep 13 = .ok (.getfield 25, 3) := by decide +kernel
theorem dX8_keep_16 : decode cX8_keep 16 = .ok (.aload_n 0, 1) := by decide +kernel
theorem dX8_keep_17 : decode cX8_keep 17 = .ok (.getfield 33, 3) := by decide +kernel
theorem dX8_keep_20 : decode cX8_keep 20 = .ok (.iload_n 1, 1) := by decide +kernel
theorem dX8_keep_21 : decode cX8_keep 21 = .ok (.iastore, 1) := by decide +kernel
theorem dX8_keep_22 : decode cX8_keep 22 = .ok (.aload_n 0, 1) := by decide +kernel
theorem dX8_keep_23 : decode cX8_keep 23 = .ok (.getfield 29, 3) := by decide +kernel
theorem dX8_keep_26 : decode cX8_keep 26 = .ok (.aload_n 0, 1) := by decide +kernel
theorem dX8_keep_27 : decode cX8_keep 27 = .ok (.getfield 33, 3) := by decide +kernel
theorem dX8_keep_30 : decode cX8_keep 30 = .ok (.fload_n 2, 1) := by decide +kernel
theorem dX8_keep_31 : decode cX8_keep 31 = .ok (.fastore, 1) := by decide +kernel
theorem dX8_keep_32 : decode cX8_keep 32 = .ok (.aload_n 0, 1) := by decide +kernel
theorem dX8_keep_33 : decode cX8_keep 33 = .ok (.dup, 1) := by decide +kernel
theorem dX8_keep_34 : decode cX8_keep 34 = .ok (.getfield 33, 3) := by decide +kernel
theorem dX8_keep_37 : decode cX8_keep 37 = .ok (.iconst 1, 1) := by decide +kernel
theorem dX8_keep_38 : decode cX8_keep 38 = .ok (.iadd, 1) := by decide +kernel
theorem dX8_keep_39 : decode cX8_keep 39 = .ok (.putfield 33, 3) := by decide +kernel
theorem dX8_keep_42 : decode cX8_keep 42 = .ok (.return_, 1) := by decide +kernel
theorem dX8_readDigit_0 : decode cX8_readDigit 0 = .ok (.aload_n 0, 1) := by decide +kernel
theorem dX8_readDigit_1 : decode cX8_readDigit 1 = .ok (.getfield 22, 3) := by decide +kernel
theorem dX8_readDigit_4 : decode cX8_readDigit 4 = .ok (.aload_n 0, 1) := by decide +kernel
theorem dX8_readDigit_5 : decode cX8_readDigit 5 = .ok (.getfield 19, 3) := by decide +kernel
theorem dX8_readDigit_8 : decode cX8_readDigit 8 = .ok (.if_icmp .ge 56, 3) := by decide +kernel
theorem dX8_readDigit_11 : decode cX8_readDigit 11 = .ok (.aload_n 0, 1) := by decide +kernel
theorem dX8_readDigit_12 : decode cX8_readDigit 12 = .ok (.getfield 9, 3) := by decide +kernel
theorem dX8_readDigit_15 : decode cX8_readDigit 15 = .ok (.aload_n 0, 1) := by decide +kernel
theorem dX8_readDigit_16 : decode cX8_readDigit 16 = .ok (.getfield 22, 3) := by decide +kernel
theorem dX8_readDigit_19 : decode cX8_readDigit 19 = .ok (.caload, 1) := by decide +kernel
theorem dX8_readDigit_20 : decode cX8_readDigit 20 = .ok (.bipush 48, 2) := by decide +kernel
theorem dX8_readDigit_22 : decode cX8_readDigit 22 = .ok (.if_icmp .lt 42, 3) := by decide +kernel
theorem dX8_readDigit_25 : decode cX8_readDigit 25 = .ok (.aload_n 0, 1) := by decide +kernel
theorem dX8_readDigit_26 : decode cX8_readDigit 26 = .ok (.getfield 9, 3) := by decide +kernel
theorem dX8_readDigit_29 : decode cX8_readDigit 29 = .ok (.aload_n 0, 1) := by decide +kernel
theorem dX8_readDigit_30 : decode cX8_readDigit 30 = .ok (.getfield 22, 3) := by decide +kernel
theorem dX8_readDigit_33 : decode cX8_readDigit 33 = .ok (.caload, 1) := by decide +kernel
theorem dX8_readDigit_34 : decode cX8_readDigit 34 = .ok (.bipush 57, 2) := by decide +kernel
theorem dX8_readDigit_36 : decode cX8_readDigit 36 = .ok (.if_icmp .gt 28, 3) := by decide +kernel
theorem dX8_readDigit_39 : decode cX8_readDigit 39 = .ok (.aload_n 0, 1) := by decide +kernel
theorem dX8_readDigit_40 : decode cX8_readDigit 40 = .ok (.dup, 1) := by decide +kernel
theorem dX8_readDigit_41 : decode cX8_readDigit 41 = .ok (.getfield 22, 3) := by decide +kernel
theorem dX8_readDigit_44 : decode cX8_readDigit 44 = .ok (.iconst 1, 1) := by decide +kernel
theorem dX8_readDigit_45 : decode cX8_readDigit 45 = .ok (.iadd, 1) := by decide +kernel
theorem dX8_readDigit_46 : decode cX8_readDigit 46 = .ok (.putfield 22, 3) := by decide +kernel
theorem dX8_readDigit_49 : decode cX8_readDigit 49 = .ok (.aload_n 0, 1) := by decide +kernel
theorem dX8_readDigit_50 : decode cX8_readDigit 50 = .ok (.getfield 9, 3) := by decide +kernel
theorem dX8_readDigit_53 : decode cX8_readDigit 53 = .ok (.aload_n 0, 1) := by decide +kernel
theorem dX8_readDigit_54 : decode cX8_readDigit 54 = .ok (.getfield 22, 3) := by decide +kernel
theorem dX8_readDigit_57 : decode cX8_readDigit 57 = .ok (.iconst 1, 1) := by decide +kernel
theorem dX8_readDigit_58 : decode cX8_readDigit 58 = .ok (.isub, 1) := by decide +kernel
theorem dX8_readDigit_59 : decode cX8_readDigit 59 = .ok (.caload, 1) := by decide +kernel
theorem dX8_readDigit_60 : decode cX8_readDigit 60 = .ok (.bipush 48, 2) := by decide +kernel
theorem dX8_readDigit_62 : decode cX8_readDigit 62 = .ok (.isub, 1) := by decide +kernel
theorem dX8_readDigit_63 : decode cX8_readDigit 63 = .ok (.ireturn, 1) := by decide +kernel
theorem dX8_readDigit_64 : decode cX8_readDigit 64 = .ok (.iconst (-1), 1) := by decide +kernel
theorem dX8_readDigit_65 : decode cX8_readDigit 65 = .ok (.ireturn, 1) := by decide +kernel
theorem dX8_peek_0 : decode cX8_peek 0 = .ok (.aload_n 0, 1) := by decide +kernel
theorem dX8_peek_1 : decode cX8_peek 1 = .ok (.getfield 22, 3) := by decide +kernel
theorem dX8_peek_4 : decode cX8_peek 4 = .ok (.aload_n 0, 1) := by decide +kernel
theorem dX8_peek_5 : decode cX8_peek 5 = .ok (.getfield 19, 3) := by decide +kernel
theorem dX8_peek_8 : decode cX8_peek 8 = .ok (.if_icmp .ge 15, 3) := by decide +kernel
theorem dX8_peek_11 : decode cX8_peek 11 = .ok (.aload_n 0, 1) := by decide +kernel
theorem dX8_peek_12 : decode cX8_peek 12 = .ok (.getfield 9, 3) := by decide +kernel
theorem dX8_peek_15 : decode cX8_peek 15 = .ok (.aload_n 0, 1) := by decide +kernel
theorem dX8_peek_16 : decode cX8_peek 16 = .ok (.getfield 22, 3) := by decide +kernel
theorem dX8_peek_19 : decode cX8_peek 19 = .ok (.caload, 1) := by decide +kernel
theorem dX8_peek_20 : decode cX8_peek 20 = .ok (.goto 4, 3) := by decide +kernel
theorem dX8_peek_23 : decode cX8_peek 23 = .ok (.iconst (-1), 1) := by decide +kernel
theorem dX8_peek_24 : decode cX8_peek 24 = .ok (.ireturn, 1) := by decide +kernel
theorem dX8_next_0 : decode cX8_next 0 = .ok (.aload_n 0, 1) := by decide +kernel
theorem dX8_next_1 : decode cX8_next 1 = .ok (.getfield 22, 3) := by decide +kernel
theorem dX8_next_4 : decode cX8_next 4 = .ok (.aload_n 0, 1) := by decide +kernel
theorem dX8_next_5 : decode cX8_next 5 = .ok (.getfield 19, 3) := by decide +kernel
theorem dX8_next_8 : decode cX8_next 8 = .ok (.if_icmp .ge 25, 3) := by decide +kernel
theorem dX8_next_11 : decode cX8_next 11 = .ok (.aload_n 0, 1) := by decide +kernel
theorem dX8_next_12 : decode cX8_next 12 = .ok (.dup, 1) := by decide +kernel
theorem dX8_next_13 : decode cX8_next 13 = .ok (.getfield 22, 3) := by decide +kernel
theorem dX8_next_16 : decode cX8_next 16 = .ok (.iconst 1, 1) := by decide +kernel
theorem dX8_next_17 : decode cX8_next 17 = .ok (.iadd, 1) := by decide +kernel
theorem dX8_next_18 : decode cX8_next 18 = .ok (.putfield 22, 3) := by decide +kernel
theorem dX8_next_21 : decode cX8_next 21 = .ok (.aload_n 0, 1) := by decide +kernel
theorem dX8_next_22 : decode cX8_next 22 = .ok (.getfield 9, 3) := by decide +kernel
theorem dX8_next_25 : decode cX8_next 25 = .ok (.aload_n 0, 1) := by decide +kernel
theorem dX8_next_26 : decode cX8_next 26 = .ok (.getfield 22, 3) := by decide +kernel
theorem dX8_next_29 : decode cX8_next 29 = .ok (.iconst 1, 1) := by decide +kernel
theorem dX8_next_30 : decode cX8_next 30 = .ok (.isub, 1) := by decide +kernel
theorem dX8_next_31 : decode cX8_next 31 = .ok (.caload, 1) := by decide +kernel
theorem dX8_next_32 : decode cX8_next 32 = .ok (.ireturn, 1) := by decide +kernel
theorem dX8_next_33 : decode cX8_next 33 = .ok (.iconst (-1), 1) := by decide +kernel
theorem dX8_next_34 : decode cX8_next 34 = .ok (.ireturn, 1) := by decide +kernel
theorem dX8_take_0 : decode cX8_take 0 = .ok (.aload_n 0, 1) := by decide +kernel
theorem dX8_take_1 : decode cX8_take 1 = .ok (.getfield 22, 3) := by decide +kernel
theorem dX8_take_4 : decode cX8_take 4 = .ok (.aload_n 0, 1) := by decide +kernel
theorem dX8_take_5 : decode cX8_take 5 = .ok (.getfield 19, 3) := by decide +kernel
theorem dX8_take_8 : decode cX8_take 8 = .ok (.if_icmp .ge 20, 3) := by decide +kernel
theorem dX8_take_11 : decode cX8_take 11 = .ok (.aload_n 0, 1) := by decide +kernel
theorem dX8_take_12 : decode cX8_take 12 = .ok (.getfield 9, 3) := by decide +kernel
theorem dX8_take_15 : decode cX8_take 15 = .ok (.aload_n 0, 1) := by decide +kernel
theorem dX8_take_16 : decode cX8_take 16 = .ok (.getfield 22, 3) := by decide +kernel
theorem dX8_take_19 : decode cX8_take 19 = .ok (.caload, 1) := by decide +kernel
theorem dX8_take_20 : decode cX8_take 20 = .ok (.iload_n 1, 1) := by decide +kernel
theorem dX8_take_21 : decode cX8_take 21 = .ok (.if_icmp .ne 7, 3) := by decide +kernel
theorem dX8_take_24 : decode cX8_take 24 = .ok (.iconst 1, 1) := by decide +kernel
theorem dX8_take_25 : decode cX8_take 25 = .ok (.goto 4, 3) := by decide +kernel
theorem dX8_take_28 : decode cX8_take 28 = .ok (.iconst 0, 1) := by decide +kernel
theorem dX8_take_29 : decode cX8_take 29 = .ok (.istore_n 2, 1) := by decide +kernel
theorem dX8_take_30 : decode cX8_take 30 = .ok (.iload_n 2, 1) := by decide +kernel
theorem dX8_take_31 : decode cX8_take 31 = .ok (.ifCond .eq 13, 3) := by decide +kernel
theorem dX8_take_34 : decode cX8_take 34 = .ok (.aload_n 0, 1) := by decide +kernel
theorem dX8_take_35 : decode cX8_take 35 = .ok (.dup, 1) := by decide +kernel
theorem dX8_take_36 : decode cX8_take 36 = .ok (.getfield 22, 3) := by decide +kernel
theorem dX8_take_39 : decode cX8_take 39 = .ok (.iconst 1, 1) := by decide +kernel
theorem dX8_take_40 : decode cX8_take 40 = .ok (.iadd, 1) := by decide +kernel
theorem dX8_take_41 : decode cX8_take 41 = .ok (.putfield 22, 3) := by decide +kernel
theorem dX8_take_44 : decode cX8_take 44 = .ok (.iload_n 2, 1) := by decide +kernel
theorem dX8_take_45 : decode cX8_take 45 = .ok (.ireturn, 1) := by decide +kernel
theorem dX8_takeWord_0 : decode cX8_takeWord 0 = .ok (.aload_n 1, 1) := by decide +kernel
theorem dX8_takeWord_1 : decode cX8_takeWord 1 = .ok (.invokevirtual 178, 3) := by decide +kernel
theorem dX8_takeWord_4 : decode cX8_takeWord 4 = .ok (.aload_n 0, 1) := by decide +kernel
theorem dX8_takeWord_5 : decode cX8_takeWord 5 = .ok (.getfield 19, 3) := by decide +kernel
theorem dX8_takeWord_8 : decode cX8_takeWord 8 = .ok (.aload_n 0, 1) := by decide +kernel
theorem dX8_takeWord_9 : decode cX8_takeWord 9 = .ok (.getfield 22, 3) := by decide +kernel
theorem dX8_takeWord_12 : decode cX8_takeWord 12 = .ok (.isub, 1) := by decide +kernel
theorem dX8_takeWord_13 : decode cX8_takeWord 13 = .ok (.if_icmp .le 5, 3) := by decide +kernel
theorem dX8_takeWord_16 : decode cX8_takeWord 16 = .ok (.iconst 0, 1) := by decide +kernel
theorem dX8_takeWord_17 : decode cX8_takeWord 17 = .ok (.ireturn, 1) := by decide +kernel
theorem dX8_takeWord_18 : decode cX8_takeWord 18 = .ok (.iconst 0, 1) := by decide +kernel
theorem dX8_takeWord_19 : decode cX8_takeWord 19 = .ok (.istore_n 2, 1) := by decide +kernel
theorem dX8_takeWord_20 : decode cX8_takeWord 20 = .ok (.iload_n 2, 1) := by decide +kernel
theorem dX8_takeWord_21 : decode cX8_takeWord 21 = .ok (.aload_n 1, 1) := by decide +kernel
theorem dX8_takeWord_22 : decode cX8_takeWord 22 = .ok (.invokevirtual 178, 3) := by decide +kernel
theorem dX8_takeWord_25 : decode cX8_takeWord 25 = .ok (.if_icmp .ge 30, 3) := by decide +kernel
theorem dX8_takeWord_28 : decode cX8_takeWord 28 = .ok (.aload_n 0, 1) := by decide +kernel
theorem dX8_takeWord_29 : decode cX8_takeWord 29 = .ok (.getfield 9, 3) := by decide +kernel
theorem dX8_takeWord_32 : decode cX8_takeWord 32 = .ok (.aload_n 0, 1) := by decide +kernel
theorem dX8_takeWord_33 : decode cX8_takeWord 33 = .ok (.getfield 22, 3) := by decide +kernel
theorem dX8_takeWord_36 : decode cX8_takeWord 36 = .ok (.iload_n 2, 1) := by decide +kernel
theorem dX8_takeWord_37 : decode cX8_takeWord 37 = .ok (.iadd, 1) := by decide +kernel
theorem dX8_takeWord_38 : decode cX8_takeWord 38 = .ok (.caload, 1) := by decide +kernel
theorem dX8_takeWord_39 : decode cX8_takeWord 39 = .ok (.aload_n 1, 1) := by decide +kernel
theorem dX8_takeWord_40 : decode cX8_takeWord 40 = .ok (.iload_n 2, 1) := by decide +kernel
theorem dX8_takeWord_41 : decode cX8_takeWord 41 = .ok (.invokevirtual 182, 3) := by decide +kernel
theorem dX8_takeWord_44 : decode cX8_takeWord 44 = .ok (.if_icmp .eq 5, 3) := by decide +kernel
theorem dX8_takeWord_47 : decode cX8_takeWord 47 = .ok (.iconst 0, 1) := by decide +kernel
theorem dX8_takeWord_48 : decode cX8_takeWord 48 = .ok (.ireturn, 1) := by decide +kernel
theorem dX8_takeWord_49 : decode cX8_takeWord 49 = .ok (.iinc 2 1, 3) := by decide +kernel
theorem dX8_takeWord_52 : decode cX8_takeWord 52 = .ok (.goto (-32), 3) := by decide +kernel
theorem dX8_takeWord_55 : decode cX8_takeWord 55 = .ok (.aload_n 0, 1) := by decide +kernel
theorem dX8_takeWord_56 : decode cX8_takeWord 56 = .ok (.dup, 1) := by decide +kernel
theorem dX8_takeWord_57 : decode cX8_takeWord 57 = .ok (.getfield 22, 3) := by decide +kernel
theorem dX8_takeWord_60 : decode cX8_takeWord 60 = .ok (.aload_n 1, 1) := by decide +kernel
theorem dX8_takeWord_61 : decode cX8_takeWord 61 = .ok (.invokevirtual 178, 3) := by decide +kernel
theorem dX8_takeWord_64 : decode cX8_takeWord 64 = .ok (.iadd, 1) := by decide +kernel
theorem dX8_takeWord_65 : decode cX8_takeWord 65 = .ok (.putfield 22, 3) := by decide +kernel
theorem dX8_takeWord_68 : decode cX8_takeWord 68 = .ok (.iconst 1, 1) := by decide +kernel
theorem dX8_takeWord_69 : decode cX8_takeWord 69 = .ok (.ireturn, 1) := by decide +kernel
theorem dX8_byteOf_0 : decode cX8_byteOf 0 = .ok (.iload_n 0, 1) := by decide +kernel
theorem dX8_byteOf_1 : decode cX8_byteOf 1 = .ok (.bipush 8, 2) := by decide +kernel
theorem dX8_byteOf_3 : decode cX8_byteOf 3 = .ok (.iload_n 1, 1) := by decide +kernel
theorem dX8_byteOf_4 : decode cX8_byteOf 4 = .ok (.imul, 1) := by decide +kernel
theorem dX8_byteOf_5 : decode cX8_byteOf 5 = .ok (.iushr, 1) := by decide +kernel
theorem dX8_byteOf_6 : decode cX8_byteOf 6 = .ok (.sipush 255, 3) := by decide +kernel
theorem dX8_byteOf_9 : decode cX8_byteOf 9 = .ok (.iand, 1) := by decide +kernel
theorem dX8_byteOf_10 : decode cX8_byteOf 10 = .ok (.ireturn, 1) := by decide +kernel
theorem dX8_isJoin_0 : decode cX8_isJoin 0 = .ok (.iload_n 0, 1) := by decide +kernel
theorem dX8_isJoin_1 : decode cX8_isJoin 1 = .ok (.bipush 32, 2) := by decide +kernel
theorem dX8_isJoin_3 : decode cX8_isJoin 3 = .ok (.if_icmp .eq 21, 3) := by decide +kernel
theorem dX8_isJoin_6 : decode cX8_isJoin 6 = .ok (.iload_n 0, 1) := by decide +kernel
theorem dX8_isJoin_7 : decode cX8_isJoin 7 = .ok (.bipush 62, 2) := by decide +kernel
theorem dX8_isJoin_9 : decode cX8_isJoin 9 = .ok (.if_icmp .eq 15, 3) := by decide +kernel
theorem dX8_isJoin_12 : decode cX8_isJoin 12 = .ok (.iload_n 0, 1) := by decide +kernel
theorem dX8_isJoin_13 : decode cX8_isJoin 13 = .ok (.bipush 43, 2) := by decide +kernel
theorem dX8_isJoin_15 : decode cX8_isJoin 15 = .ok (.if_icmp .eq 9, 3) := by decide +kernel
theorem dX8_isJoin_18 : decode cX8_isJoin 18 = .ok (.iload_n 0, 1) := by decide +kernel
theorem dX8_isJoin_19 : decode cX8_isJoin 19 = .ok (.bipush 126, 2) := by decide +kernel
theorem dX8_isJoin_21 : decode cX8_isJoin 21 = .ok (.if_icmp .ne 7, 3) := by decide +kernel
theorem dX8_isJoin_24 : decode cX8_isJoin 24 = .ok (.iconst 1, 1) := by decide +kernel
theorem dX8_isJoin_25 : decode cX8_isJoin 25 = .ok (.goto 4, 3) := by decide +kernel
theorem dX8_isJoin_28 : decode cX8_isJoin 28 = .ok (.iconst 0, 1) := by decide +kernel
theorem dX8_isJoin_29 : decode cX8_isJoin 29 = .ok (.ireturn, 1) := by decide +kernel
theorem dX8_isPartSign_0 : decode cX8_isPartSign 0 = .ok (.iload_n 0, 1) := by decide +kernel
theorem dX8_isPartSign_1 : decode cX8_isPartSign 1 = .ok (.bipush 35, 2) := by decide +kernel
theorem dX8_isPartSign_3 : decode cX8_isPartSign 3 = .ok (.if_icmp .eq 15, 3) := by decide +kernel
theorem dX8_isPartSign_6 : decode cX8_isPartSign 6 = .ok (.iload_n 0, 1) := by decide +kernel
theorem dX8_isPartSign_7 : decode cX8_isPartSign 7 = .ok (.bipush 46, 2) := by decide +kernel
theorem dX8_isPartSign_9 : decode cX8_isPartSign 9 = .ok (.if_icmp .eq 9, 3) := by decide +kernel
theorem dX8_isPartSign_12 : decode cX8_isPartSign 12 = .ok (.iload_n 0, 1) := by decide +kernel
theorem dX8_isPartSign_13 : decode cX8_isPartSign 13 = .ok (.bipush 58, 2) := by decide +kernel
theorem dX8_isPartSign_15 : decode cX8_isPartSign 15 = .ok (.if_icmp .ne 7, 3) := by decide +kernel
theorem dX8_isPartSign_18 : decode cX8_isPartSign 18 = .ok (.iconst 1, 1) := by decide +kernel
theorem dX8_isPartSign_19 : decode cX8_isPartSign 19 = .ok (.goto 4, 3) := by decide +kernel
theorem dX8_isPartSign_22 : decode cX8_isPartSign 22 = .ok (.iconst 0, 1) := by decide +kernel
theorem dX8_isPartSign_23 : decode cX8_isPartSign 23 = .ok (.ireturn, 1) := by decide +kernel
theorem dX9_init_0 : decode cX9_init 0 = .ok (.aload_n 0, 1) := by decide +kernel
theorem dX9_init_1 : decode cX9_init 1 = .ok (.invokespecial 3, 3) := by decide +kernel
theorem dX9_init_4 : decode cX9_init 4 = .ok (.aload_n 0, 1) := by decide +kernel
theorem dX9_init_5 : decode cX9_init 5 = .ok (.bipush 24, 2) := by decide +kernel
theorem dX9_init_7 : decode cX9_init 7 = .ok (.anewarray 9, 3) := by decide +kernel
theorem dX9_init_10 : decode cX9_init 10 = .ok (.putfield 11, 3) := by decide +kernel
theorem dX9_init_13 : decode cX9_init 13 = .ok (.aload_n 0, 1) := by decide +kernel
theorem dX9_init_14 : decode cX9_init 14 = .ok (.iconst 0, 1) := by decide +kernel
theorem dX9_init_15 : decode cX9_init 15 = .ok (.putfield 15, 3) := by decide +kernel
theorem dX9_init_18 : decode cX9_init 18 = .ok (.aload_n 0, 1) := by decide +kernel
theorem dX9_init_19 : decode cX9_init 19 = .ok (.bipush 16, 2) := by decide +kernel
theorem dX9_init_21 : decode cX9_init 21 = .ok (.anewarray 19, 3) := by decide +kernel
theorem dX9_init_24 : decode cX9_init 24 = .ok (.putfield 21, 3) := by decide +kernel
theorem dX9_init_27 : decode cX9_init 27 = .ok (.aload_n 0, 1) := by decide +kernel
theorem dX9_init_28 : decode cX9_init 28 = .ok (.iconst 0, 1) := by decide +kernel
theorem dX9_init_29 : decode cX9_init 29 = .ok (.putfield 25, 3) := by decide +kernel
theorem dX9_init_32 : decode cX9_init 32 = .ok (.aload_n 0, 1) := by decide +kernel
theorem dX9_init_33 : decode cX9_init 33 = .ok (.new 28, 3) := by decide +kernel
theorem dX9_init_36 : decode cX9_init 36 = .ok (.dup, 1) := by decide +kernel
theorem dX9_init_37 : decode cX9_init 37 = .ok (.invokespecial 30, 3) := by decide +kernel
theorem dX9_init_40 : decode cX9_init 40 = .ok (.putfield 31, 3) := by decide +kernel
theorem dX9_init_43 : decode cX9_init 43 = .ok (.aload_n 0, 1) := by decide +kernel
theorem dX9_init_44 : decode cX9_init 44 = .ok (.new 35, 3) := by decide +kernel
theorem dX9_init_47 : decode cX9_init 47 = .ok (.dup, 1) := by decide +kernel
theorem dX9_init_48 : decode cX9_init 48 = .ok (.invokespecial 37, 3) := by decide +kernel
theorem dX9_init_51 : decode cX9_init 51 = .ok (.putfield 38, 3) := by decide +kernel
theorem dX9_init_54 : decode cX9_init 54 = .ok (.aload_n 0, 1) := by decide +kernel
theorem dX9_init_55 : decode cX9_init 55 = .ok (.iconst 0, 1) := by decide +kernel
theorem dX9_init_56 : decode cX9_init 56 = .ok (.putfield 42, 3) := by decide +kernel
theorem dX9_init_59 : decode cX9_init 59 = .ok (.return_, 1) := by decide +kernel
theorem dX9_element_0 : decode cX9_element 0 = .ok (.aload_n 0, 1) := by decide +kernel
theorem dX9_element_1 : decode cX9_element 1 = .ok (.getfield 15, 3) := by decide +kernel
theorem dX9_element_4 : decode cX9_element 4 = .ok (.ifCond .ne 16, 3) := by decide +kernel
theorem dX9_element_7 : decode cX9_element 7 = .ok (.iload_n 1, 1) := by decide +kernel
theorem dX9_element_8 : decode cX9_element 8 = .ok (.iconst (-1), 1) := by decide +kernel
theorem dX9_element_9 : decode cX9_element 9 = .ok (.if_icmp .ne 7, 3) := by decide +kernel
theorem dX9_element_12 : decode cX9_element 12 = .ok (.iconst 1, 1) := by decide +kernel
theorem dX9_element_13 : decode cX9_element 13 = .ok (.goto 12, 3) := by decide +kernel
theorem dX9_element_16 : decode cX9_element 16 = .ok (.iconst 0, 1) := by decide +kernel
theorem dX9_element_17 : decode cX9_element 17 = .ok (.goto 8, 3) := by decide +kernel
theorem dX9_element_20 : decode cX9_element 20 = .ok (.aload_n 0, 1) := by decide +kernel
theorem dX9_element_21 : decode cX9_element 21 = .ok (.iload_n 1, 1) := by decide +kernel
theorem dX9_element_22 : decode cX9_element 22 = .ok (.invokevirtual 46, 3) := by decide +kernel
theorem dX9_element_25 : decode cX9_element 25 = .ok (.istore 5, 2) := by decide +kernel
theorem dX9_element_27 : decode cX9_element 27 = .ok (.iload_n 2, 1) := by decide +kernel
theorem dX9_element_28 : decode cX9_element 28 = .ok (.invokestatic 50, 3) := by decide +kernel
theorem dX9_element_31 : decode cX9_element 31 = .ok (.ifCond .eq 18, 3) := by decide +kernel
theorem dX9_element_34 : decode cX9_element 34 = .ok (.iload_n 3, 1) := by decide +kernel
theorem dX9_element_35 : decode cX9_element 35 = .ok (.ifCond .eq 10, 3) := by decide +kernel
theorem dX9_element_38 : decode cX9_element 38 = .ok (.iload_n 3, 1) := by decide +kernel
theorem dX9_element_39 : decode cX9_element 39 = .ok (.invokestatic 50, 3) := by decide +kernel
theorem dX9_element_42 : decode cX9_element 42 = .ok (.ifCond .eq 7, 3) := by decide +kernel
theorem dX9_element_45 : decode cX9_element 45 = .ok (.iconst 1, 1) := by decide +kernel
theorem dX9_element_46 : decode cX9_element 46 = .ok (.goto 4, 3) := by decide +kernel
theorem dX9_element_49 : decode cX9_element 49 = .ok (.iconst 0, 1) := by decide +kernel
theorem dX9_element_50 : decode cX9_element 50 = .ok (.istore 6, 2) := by decide +kernel
theorem dX9_element_52 : decode cX9_element 52 = .ok (.iload 5, 2) := by decide +kernel
theorem dX9_element_54 : decode cX9_element 54 = .ok (.ifCond .eq 21, 3) := by decide +kernel
theorem dX9_element_57 : decode cX9_element 57 = .ok (.iload 6, 2) := by decide +kernel
theorem dX9_element_59 : decode cX9_element 59 = .ok (.ifCond .eq 16, 3) := by decide +kernel
theorem dX9_element_62 : decode cX9_element 62 = .ok (.iload 4, 2) := by decide +kernel
theorem dX9_element_64 : decode cX9_element 64 = .ok (.ifCond .lt 11, 3) := by decide +kernel
theorem dX9_element_67 : decode cX9_element 67 = .ok (.iload 4, 2) := by decide +kernel
theorem dX9_element_69 : decode cX9_element 69 = .ok (.sipush 255, 3) := by decide +kernel
theorem dX9_element_72 : decode cX9_element 72 = .ok (.if_icmp .le 11, 3) := by decide +kernel
theorem dX9_element_75 : decode cX9_element 75 = .ok (.new 53, 3) := by decide +kernel
theorem dX9_element_78 : decode cX9_element 78 = .ok (.dup, 1) := by decide +kernel
theorem dX9_element_79 : decode cX9_element 79 = .ok (.invokespecial 55, 3) := by decide +kernel
theorem dX9_element_82 : decode cX9_element 82 = .ok (.athrow, 1) := by decide +kernel
theorem dX9_element_83 : decode cX9_element 83 = .ok (.aload_n 0, 1) := by decide +kernel
theorem dX9_element_84 : decode cX9_element 84 = .ok (.getfield 15, 3) := by decide +kernel
theorem dX9_element_87 : decode cX9_element 87 = .ok (.bipush 24, 2) := by decide +kernel
theorem dX9_element_89 : decode cX9_element 89 = .ok (.if_icmp .ne 11, 3) := by decide +kernel
theorem dX9_element_92 : decode cX9_element 92 = .ok (.new 56, 3) := by decide +kernel
theorem dX9_element_95 : decode cX9_element 95 = .ok (.dup, 1) := by decide +kernel
theorem dX9_element_96 : decode cX9_element 96 = .ok (.invokespecial 58, 3) := by decide +kernel
theorem dX9_element_99 : decode cX9_element 99 = .ok (.athrow, 1) := by decide +kernel
theorem dX9_element_100 : decode cX9_element 100 = .ok (.iload_n 1, 1) := by decide +kernel
theorem dX9_element_101 : decode cX9_element 101 = .ok (.iconst (-1), 1) := by decide +kernel
theorem dX9_element_102 : decode cX9_element 102 = .ok (.if_icmp .ne 7, 3) := by decide +kernel
theorem dX9_element_105 : decode cX9_element 105 = .ok (.aconst_null, 1) := by decide +kernel
theorem dX9_element_106 : decode cX9_element 106 = .ok (.goto 9, 3) := by decide +kernel
theorem dX9_element_109 : decode cX9_element 109 = .ok (.aload_n 0, 1) := by decide +kernel
theorem dX9_element_110 : decode cX9_element 110 = .ok (.getfield 11, 3) := by decide +kernel
theorem dX9_element_113 : decode cX9_element 113 = .ok (.iload_n 1, 1) := by decide +kernel
theorem dX9_element_114 : decode cX9_element 114 = .ok (.aaload, 1) := by decide +kernel
theorem dX9_element_115 : decode cX9_element 115 = .ok (.astore 7, 2) := by decide +kernel
theorem dX9_element_117 : decode cX9_element 117 = .ok (.new 9, 3) := by decide +kernel
theorem dX9_element_120 : decode cX9_element 120 = .ok (.dup, 1) := by decide +kernel
theorem dX9_element_121 : decode cX9_element 121 = .ok (.aload_n 0, 1) := by decide +kernel
theorem dX9_element_122 : decode cX9_element 122 = .ok (.getfield 15, 3) := by decide +kernel
theorem dX9_element_125 : decode cX9_element 125 = .ok (.aload 7, 2) := by decide +kernel
theorem dX9_element_127 : decode cX9_element 127 = .ok (.iload_n 2, 1) := by decide +kernel
theorem dX9_element_128 : decode cX9_element 128 = .ok (.iload_n 3, 1) := by decide +kernel
theorem dX9_element_129 : decode cX9_element 129 = .ok (.iload 4, 2) := by decide +kernel
theorem dX9_element_131 : decode cX9_element 131 = .ok (.invokespecial 59, 3) := by decide +kernel
theorem dX9_element_134 : decode cX9_element 134 = .ok (.astore 8, 2) := by decide +kernel
theorem dX9_element_136 : decode cX9_element 136 = .ok (.aload 7, 2) := by decide +kernel
theorem dX9_element_138 : decode cX9_element 138 = .ok (.ifnull 13, 3) := by decide +kernel
theorem dX9_element_141 : decode cX9_element 141 = .ok (.aload 7, 2) := by decide +kernel
theorem dX9_element_143 : decode cX9_element 143 = .ok (.aload 8, 2) := by decide +kernel
theorem dX9_element_145 : decode cX9_element 145 = .ok (.getfield 62, 3) := by decide +kernel
theorem dX9_element_148 : decode cX9_element 148 = .ok (.invokevirtual 65, 3) := by decide +kernel
theorem dX9_element_151 : decode cX9_element 151 = .ok (.aload_n 0, 1) := by decide +kernel
theorem dX9_element_152 : decode cX9_element 152 = .ok (.getfield 11, 3) := by decide +kernel
theorem dX9_element_155 : decode cX9_element 155 = .ok (.aload_n 0, 1) := by decide +kernel
theorem dX9_element_156 : decode cX9_element 156 = .ok (.getfield 15, 3) := by decide +kernel
theorem dX9_element_159 : decode cX9_element 159 = .ok (.aload 8, 2) := by decide +kernel
theorem dX9_element_161 : decode cX9_element 161 = .ok (.aastore, 1) := by decide +kernel
theorem dX9_element_162 : decode cX9_element 162 = .ok (.aload_n 0, 1) := by decide +kernel
theorem dX9_element_163 : decode cX9_element 163 = .ok (.dup, 1) := by decide +kernel
theorem dX9_element_164 : decode cX9_element 164 = .ok (.getfield 15, 3) := by decide +kernel
theorem dX9_element_167 : decode cX9_element 167 = .ok (.iconst 1, 1) := by decide +kernel
theorem dX9_element_168 : decode cX9_element 168 = .ok (.iadd, 1) := by decide +kernel
theorem dX9_element_169 : decode cX9_element 169 = .ok (.putfield 15, 3) := by decide +kernel
theorem dX9_element_172 : decode cX9_element 172 = .ok (.aload_n 0, 1) := by decide +kernel
theorem dX9_element_173 : decode cX9_element 173 = .ok (.iconst 1, 1) := by decide +kernel
theorem dX9_element_174 : decode cX9_element 174 = .ok (.putfield 42, 3) := by decide +kernel
theorem dX9_element_177 : decode cX9_element 177 = .ok (.aload_n 0, 1) := by decide +kernel
theorem dX9_element_178 : decode cX9_element 178 = .ok (.getfield 15, 3) := by decide +kernel
theorem dX9_element_181 : decode cX9_element 181 = .ok (.iconst 1, 1) := by decide +kernel
theorem dX9_element_182 : decode cX9_element 182 = .ok (.isub, 1) := by decide +kernel
theorem dX9_element_183 : decode cX9_element 183 = .ok (.ireturn, 1) := by decide +kernel
theorem dX9_put_0 : decode cX9_put 0 = .ok (.aload_n 0, 1) := by decide +kernel
theorem dX9_put_1 : decode cX9_put 1 = .ok (.getfield 31, 3) := by decide +kernel
theorem dX9_put_4 : decode cX9_put 4 = .ok (.iload_n 1, 1) := by decide +kernel
theorem dX9_put_5 : decode cX9_put 5 = .ok (.iload_n 2, 1) := by decide +kernel
theorem dX9_put_6 : decode cX9_put 6 = .ok (.invokevirtual 69, 3) := by decide +kernel
theorem dX9_put_9 : decode cX9_put 9 = .ok (.ireturn, 1) := by decide +kernel
theorem dX9_rule_0 : decode cX9_rule 0 = .ok (.aload_n 0, 1) := by decide +kernel
theorem dX9_rule_1 : decode cX9_rule 1 = .ok (.getfield 31, 3) := by decide +kernel
theorem dX9_rule_4 : decode cX9_rule 4 = .ok (.invokevirtual 73, 3) := by decide +kernel
theorem dX9_rule_7 : decode cX9_rule 7 = .ok (.aload_n 0, 1) := by decide +kernel
theorem dX9_rule_8 : decode cX9_rule 8 = .ok (.getfield 25, 3) := by decide +kernel
theorem dX9_rule_11 : decode cX9_rule 11 = .ok (.bipush 16, 2) := by decide +kernel
theorem dX9_rule_13 : decode cX9_rule 13 = .ok (.if_icmp .ne 11, 3) := by decide +kernel
theorem dX9_rule_16 : decode cX9_rule 16 = .ok (.new 56, 3) := by decide +kernel
theorem dX9_rule_19 : decode cX9_rule 19 = .ok (.dup, 1) := by decide +kernel
theorem dX9_rule_20 : decode cX9_rule 20 = .ok (.invokespecial 58, 3) := by decide +kernel
theorem dX9_rule_23 : decode cX9_rule 23 = .ok (.athrow, 1) := by decide +kernel
theorem dX9_rule_24 : decode cX9_rule 24 = .ok (.iload_n 1, 1) := by decide +kernel
theorem dX9_rule_25 : decode cX9_rule 25 = .ok (.ifCond .lt 8, 3) := by decide +kernel
theorem dX9_rule_28 : decode cX9_rule 28 = .ok (.iload_n 1, 1) := by decide +kernel
theorem dX9_rule_29 : decode cX9_rule 29 = .ok (.iconst 3, 1) := by decide +kernel
theorem dX9_rule_30 : decode cX9_rule 30 = .ok (.if_icmp .lt 11, 3) := by decide +kernel
theorem dX9_rule_33 : decode cX9_rule 33 = .ok (.new 53, 3) := by decide +kernel
theorem dX9_rule_36 : decode cX9_rule 36 = .ok (.dup, 1) := by decide +kernel
theorem dX9_rule_37 : decode cX9_rule 37 = .ok (.invokespecial 55, 3) := by decide +kernel
theorem dX9_rule_40 : decode cX9_rule 40 = .ok (.athrow, 1) := by decide +kernel
theorem dX9_rule_41 : decode cX9_rule 41 = .ok (.aload_n 0, 1) := by decide +kernel
theorem dX9_rule_42 : decode cX9_rule 42 = .ok (.getfield 31, 3) := by decide +kernel
theorem dX9_rule_45 : decode cX9_rule 45 = .ok (.invokevirtual 76, 3) := by decide +kernel
theorem dX9_rule_48 : decode cX9_rule 48 = .ok (.astore_n 2, 1) := by decide +kernel
theorem dX9_rule_49 : decode cX9_rule 49 = .ok (.aload_n 2, 1) := by decide +kernel
theorem dX9_rule_50 : decode cX9_rule 50 = .ok (.ifnonnull 7, 3) := by decide +kernel
theorem dX9_rule_53 : decode cX9_rule 53 = .ok (.aconst_null, 1) := by decide +kernel
theorem dX9_rule_54 : decode cX9_rule 54 = .ok (.goto 11, 3) := by decide +kernel
theorem dX9_rule_57 : decode cX9_rule 57 = .ok (.aload_n 0, 1) := by decide +kernel
theorem dX9_rule_58 : decode cX9_rule 58 = .ok (.getfield 31, 3) := by decide +kernel
theorem dX9_rule_61 : decode cX9_rule 61 = .ok (.iload_n 1, 1) := by decide +kernel
theorem dX9_rule_62 : decode cX9_rule 62 = .ok (.invokevirtual 80, 3) := by decide +kernel
theorem dX9_rule_65 : decode cX9_rule 65 = .ok (.astore_n 3, 1) := by decide +kernel
theorem dX9_rule_66 : decode cX9_rule 66 = .ok (.aload_n 3, 1) := by decide +kernel
theorem dX9_rule_67 : decode cX9_rule 67 = .ok (.ifnonnull 11, 3) := by decide +kernel
theorem dX9_rule_70 : decode cX9_rule 70 = .ok (.new 53, 3) := by decide +kernel
theorem dX9_rule_73 : decode cX9_rule 73 = .ok (.dup, 1) := by decide +kernel
theorem dX9_rule_74 : decode cX9_rule 74 = .ok (.invokespecial 55, 3) := by decide +kernel
theorem dX9_rule_77 : decode cX9_rule 77 = .ok (.athrow, 1) := by decide +kernel
theorem dX9_rule_78 : decode cX9_rule 78 = .ok (.aload_n 0, 1) := by decide +kernel
theorem dX9_rule_79 : decode cX9_rule 79 = .ok (.getfield 21, 3) := by decide +kernel
theorem dX9_rule_82 : decode cX9_rule 82 = .ok (.aload_n 0, 1) := by decide +kernel
theorem dX9_rule_83 : decode cX9_rule 83 = .ok (.getfield 25, 3) := by decide +kernel
theorem dX9_rule_86 : decode cX9_rule 86 = .ok (.new 19, 3) := by decide +kernel
theorem dX9_rule_89 : decode cX9_rule 89 = .ok (.dup, 1) := by decide +kernel
theorem dX9_rule_90 : decode cX9_rule 90 = .ok (.aload_n 2, 1) := by decide +kernel
theorem dX9_rule_91 : decode cX9_rule 91 = .ok (.aload_n 3, 1) := by decide +kernel
theorem dX9_rule_92 : decode cX9_rule 92 = .ok (.invokespecial 84, 3) := by decide +kernel
theorem dX9_rule_95 : decode cX9_rule 95 = .ok (.aastore, 1) := by decide +kernel
theorem dX9_rule_96 : decode cX9_rule 96 = .ok (.aload_n 0, 1) := by decide +kernel
theorem dX9_rule_97 : decode cX9_rule 97 = .ok (.dup, 1) := by decide +kernel
theorem dX9_rule_98 : decode cX9_rule 98 = .ok (.getfield 25, 3) := by decide +kernel
theorem dX9_rule_101 : decode cX9_rule 101 = .ok (.iconst 1, 1) := by decide +kernel
theorem dX9_rule_102 : decode cX9_rule 102 = .ok (.iadd, 1) := by decide +kernel
theorem dX9_rule_103 : decode cX9_rule 103 = .ok (.putfield 25, 3) := by decide +kernel
theorem dX9_rule_106 : decode cX9_rule 106 = .ok (.aload_n 0, 1) := by decide +kernel
theorem dX9_rule_107 : decode cX9_rule 107 = .ok (.iconst 1, 1) := by decide +kernel
theorem dX9_rule_108 : decode cX9_rule 108 = .ok (.putfield 42, 3) := by decide +kernel
theorem dX9_rule_111 : decode cX9_rule 111 = .ok (.aload_n 0, 1) := by decide +kernel
theorem dX9_rule_112 : decode cX9_rule 112 = .ok (.getfield 25, 3) := by decide +kernel
theorem dX9_rule_115 : decode cX9_rule 115 = .ok (.iconst 1, 1) := by decide +kernel
theorem dX9_rule_116 : decode cX9_rule 116 = .ok (.isub, 1) := by decide +kernel
theorem dX9_rule_117 : decode cX9_rule 117 = .ok (.ireturn, 1) := by decide +kernel
theorem dX9_drop_0 : decode cX9_drop 0 = .ok (.aload_n 0, 1) := by decide +kernel
theorem dX9_drop_1 : decode cX9_drop 1 = .ok (.iload_n 1, 1) := by decide +kernel
theorem dX9_drop_2 : decode cX9_drop 2 = .ok (.invokevirtual 87, 3) := by decide +kernel
theorem dX9_drop_5 : decode cX9_drop 5 = .ok (.aload_n 0, 1) := by decide +kernel
theorem dX9_drop_6 : decode cX9_drop 6 = .ok (.dup, 1) := by decide +kernel
theorem dX9_drop_7 : decode cX9_drop 7 = .ok (.getfield 25, 3) := by decide +kernel
theorem dX9_drop_10 : decode cX9_drop 10 = .ok (.iconst 1, 1) := by decide +kernel
theorem dX9_drop_11 : decode cX9_drop 11 = .ok (.isub, 1) := by decide +kernel
theorem dX9_drop_12 : decode cX9_drop 12 = .ok (.putfield 25, 3) := by decide +kernel
theorem dX9_drop_15 : decode cX9_drop 15 = .ok (.iload_n 1, 1) := by decide +kernel
theorem dX9_drop_16 : decode cX9_drop 16 = .ok (.istore_n 2, 1) := by decide +kernel
theorem dX9_drop_17 : decode cX9_drop 17 = .ok (.iload_n 2, 1) := by decide +kernel
theorem dX9_drop_18 : decode cX9_drop 18 = .ok (.aload_n 0, 1) := by decide +kernel
theorem dX9_drop_19 : decode cX9_drop 19 = .ok (.getfield 25, 3) := by decide +kernel
theorem dX9_drop_22 : decode cX9_drop 22 = .ok (.if_icmp .ge 23, 3) := by decide +kernel
theorem dX9_drop_25 : decode cX9_drop 25 = .ok (.aload_n 0, 1) := by decide +kernel
theorem dX9_drop_26 : decode cX9_drop 26 = .ok (.getfield 21, 3) := by decide +kernel
theorem dX9_drop_29 : decode cX9_drop 29 = .ok (.iload_n 2, 1) := by decide +kernel
theorem dX9_drop_30 : decode cX9_drop 30 = .ok (.aload_n 0, 1) := by decide +kernel
theorem dX9_drop_31 : decode cX9_drop 31 = .ok (.getfield 21, 3) := by decide +kernel
theorem dX9_drop_34 : decode cX9_drop 34 = .ok (.iload_n 2, 1) := by decide +kernel
theorem dX9_drop_35 : decode cX9_drop 35 = .ok (.iconst 1, 1) := by decide +kernel
theorem dX9_drop_36 : decode cX9_drop 36 = .ok (.iadd, 1) := by decide +kernel
theorem dX9_drop_37 : decode cX9_drop 37 = .ok (.aaload, 1) := by decide +kernel
theorem dX9_drop_38 : decode cX9_drop 38 = .ok (.aastore, 1) := by decide +kernel
theorem dX9_drop_39 : decode cX9_drop 39 = .ok (.iinc 2 1, 3) := by decide +kernel
theorem dX9_drop_42 : decode cX9_drop 42 = .ok (.goto (-25), 3) := by decide +kernel
theorem dX9_drop_45 : decode cX9_drop 45 = .ok (.aload_n 0, 1) := by decide +kernel
theorem dX9_drop_46 : decode cX9_drop 46 = .ok (.getfield 21, 3) := by decide +kernel
theorem dX9_drop_49 : decode cX9_drop 49 = .ok (.aload_n 0, 1) := by decide +kernel
theorem dX9_drop_50 : decode cX9_drop 50 = .ok (.getfield 25, 3) := by decide +kernel
theorem dX9_drop_53 : decode cX9_drop 53 = .ok (.aconst_null, 1) := by decide +kernel
theorem dX9_drop_54 : decode cX9_drop 54 = .ok (.aastore, 1) := by decide +kernel
theorem dX9_drop_55 : decode cX9_drop 55 = .ok (.aload_n 0, 1) := by decide +kernel
theorem dX9_drop_56 : decode cX9_drop 56 = .ok (.iconst 1, 1) := by decide +kernel
theorem dX9_drop_57 : decode cX9_drop 57 = .ok (.putfield 42, 3) := by decide +kernel
theorem dX9_drop_60 : decode cX9_drop 60 = .ok (.return_, 1) := by decide +kernel
theorem dX9_matches_0 : decode cX9_matches 0 = .ok (.aload_n 0, 1) := by decide +kernel
theorem dX9_matches_1 : decode cX9_matches 1 = .ok (.getfield 31, 3) := by decide +kernel
theorem dX9_matches_4 : decode cX9_matches 4 = .ok (.invokevirtual 73, 3) := by decide +kernel
theorem dX9_matches_7 : decode cX9_matches 7 = .ok (.aload_n 0, 1) := by decide +kernel
theorem dX9_matches_8 : decode cX9_matches 8 = .ok (.iload_n 1, 1) := by decide +kernel
theorem dX9_matches_9 : decode cX9_matches 9 = .ok (.invokevirtual 90, 3) := by decide +kernel
theorem dX9_matches_12 : decode cX9_matches 12 = .ok (.aload_n 0, 1) := by decide +kernel
theorem dX9_matches_13 : decode cX9_matches 13 = .ok (.getfield 31, 3) := by decide +kernel
theorem dX9_matches_16 : decode cX9_matches 16 = .ok (.invokevirtual 76, 3) := by decide +kernel
theorem dX9_matches_19 : decode cX9_matches 19 = .ok (.astore_n 2, 1) := by decide +kernel
theorem dX9_matches_20 : decode cX9_matches 20 = .ok (.aload_n 2, 1) := by decide +kernel
theorem dX9_matches_21 : decode cX9_matches 21 = .ok (.ifnull 13, 3) := by decide +kernel
theorem dX9_matches_24 : decode cX9_matches 24 = .ok (.aload_n 0, 1) := by decide +kernel
theorem dX9_matches_25 : decode cX9_matches 25 = .ok (.getfield 31, 3) := by decide +kernel
theorem dX9_matches_28 : decode cX9_matches 28 = .ok (.invokevirtual 93, 3) := by decide +kernel
theorem dX9_matches_31 : decode cX9_matches 31 = .ok (.ifCond .ne 11, 3) := by decide +kernel
theorem dX9_matches_34 : decode cX9_matches 34 = .ok (.new 53, 3) := by decide +kernel
theorem dX9_matches_37 : decode cX9_matches 37 = .ok (.dup, 1) := by decide +kernel
theorem dX9_matches_38 : decode cX9_matches 38 = .ok (.invokespecial 55, 3) := by decide +kernel
theorem dX9_matches_41 : decode cX9_matches 41 = .ok (.athrow, 1) := by decide +kernel
theorem dX9_matches_42 : decode cX9_matches 42 = .ok (.iconst 0, 1) := by decide +kernel
theorem dX9_matches_43 : decode cX9_matches 43 = .ok (.istore_n 3, 1) := by decide +kernel
theorem dX9_matches_44 : decode cX9_matches 44 = .ok (.aload_n 2, 1) := by decide +kernel
theorem dX9_matches_45 : decode cX9_matches 45 = .ok (.astore 4, 2) := by decide +kernel
theorem dX9_matches_47 : decode cX9_matches 47 = .ok (.aload 4, 2) := by decide +kernel
theorem dX9_matches_49 : decode cX9_matches 49 = .ok (.ifnull 34, 3) := by decide +kernel
theorem dX9_matches_52 : decode cX9_matches 52 = .ok (.aload 4, 2) := by decide +kernel
theorem dX9_matches_54 : decode cX9_matches 54 = .ok (.aload_n 0, 1) := by decide +kernel
theorem dX9_matches_55 : decode cX9_matches 55 = .ok (.getfield 11, 3) := by decide +kernel
theorem dX9_matches_58 : decode cX9_matches 58 = .ok (.aload_n 0, 1) := by decide +kernel
theorem dX9_matches_59 : decode cX9_matches 59 = .ok (.getfield 15, 3) := by decide +kernel
theorem dX9_matches_62 : decode cX9_matches 62 = .ok (.invokevirtual 97, 3) := by decide +kernel
theorem dX9_matches_65 : decode cX9_matches 65 = .ok (.iload_n 3, 1) := by decide +kernel
theorem dX9_matches_66 : decode cX9_matches 66 = .ok (.aload 4, 2) := by decide +kernel
theorem dX9_matches_68 : decode cX9_matches 68 = .ok (.getfield 103, 3) := by decide +kernel
theorem dX9_matches_71 : decode cX9_matches 71 = .ok (.ior, 1) := by decide +kernel
theorem dX9_matches_72 : decode cX9_matches 72 = .ok (.istore_n 3, 1) := by decide +kernel
theorem dX9_matches_73 : decode cX9_matches 73 = .ok (.aload 4, 2) := by decide +kernel
theorem dX9_matches_75 : decode cX9_matches 75 = .ok (.getfield 106, 3) := by decide +kernel
theorem dX9_matches_78 : decode cX9_matches 78 = .ok (.astore 4, 2) := by decide +kernel
theorem dX9_matches_80 : decode cX9_matches 80 = .ok (.goto (-33), 3) := by decide +kernel
theorem dX9_matches_83 : decode cX9_matches 83 = .ok (.iload_n 3, 1) := by decide +kernel
theorem dX9_matches_84 : decode cX9_matches 84 = .ok (.aload_n 0, 1) := by decide +kernel
theorem dX9_matches_85 : decode cX9_matches 85 = .ok (.getfield 11, 3) := by decide +kernel
theorem dX9_matches_88 : decode cX9_matches 88 = .ok (.iload_n 1, 1) := by decide +kernel
theorem dX9_matches_89 : decode cX9_matches 89 = .ok (.aaload, 1) := by decide +kernel
theorem dX9_matches_90 : decode cX9_matches 90 = .ok (.getfield 62, 3) := by decide +kernel
theorem dX9_matches_93 : decode cX9_matches 93 = .ok (.iand, 1) := by decide +kernel
theorem dX9_matches_94 : decode cX9_matches 94 = .ok (.ifCond .eq 7, 3) := by decide +kernel
theorem dX9_matches_97 : decode cX9_matches 97 = .ok (.iconst 1, 1) := by decide +kernel
theorem dX9_matches_98 : decode cX9_matches 98 = .ok (.goto 4, 3) := by decide +kernel
theorem dX9_matches_101 : decode cX9_matches 101 = .ok (.iconst 0, 1) := by decide +kernel
theorem dX9_matches_102 : decode cX9_matches 102 = .ok (.ireturn, 1) := by decide +kernel
theorem dX9_weight_0 : decode cX9_weight 0 = .ok (.aload_n 0, 1) := by decide +kernel
theorem dX9_weight_1 : decode cX9_weight 1 = .ok (.iload_n 1, 1) := by decide +kernel
theorem dX9_weight_2 : decode cX9_weight 2 = .ok (.invokevirtual 87, 3) := by decide +kernel
theorem dX9_weight_5 : decode cX9_weight 5 = .ok (.aload_n 0, 1) := by decide +kernel
theorem dX9_weight_6 : decode cX9_weight 6 = .ok (.iload_n 2, 1) := by decide +kernel
theorem dX9_weight_7 : decode cX9_weight 7 = .ok (.invokevirtual 90, 3) := by decide +kernel
theorem dX9_weight_10 : decode cX9_weight 10 = .ok (.aload_n 0, 1) := by decide +kernel
theorem dX9_weight_11 : decode cX9_weight 11 = .ok (.invokevirtual 110, 3) := by decide +kernel
theorem dX9_weight_14 : decode cX9_weight 14 = .ok (.aload_n 0, 1) := by decide +kernel
theorem dX9_weight_15 : decode cX9_weight 15 = .ok (.getfield 21, 3) := by decide +kernel
theorem dX9_weight_18 : decode cX9_weight 18 = .ok (.iload_n 1, 1) := by decide +kernel
theorem dX9_weight_19 : decode cX9_weight 19 = .ok (.aaload, 1) := by decide +kernel
theorem dX9_weight_20 : decode cX9_weight 20 = .ok (.aload_n 0, 1) := by decide +kernel
theorem dX9_weight_21 : decode cX9_weight 21 = .ok (.getfield 11, 3) := by decide +kernel
theorem dX9_weight_24 : decode cX9_weight 24 = .ok (.iload_n 2, 1) := by decide +kernel
theorem dX9_weight_25 : decode cX9_weight 25 = .ok (.aaload, 1) := by decide +kernel
theorem dX9_weight_26 : decode cX9_weight 26 = .ok (.getfield 62, 3) := by decide +kernel
theorem dX9_weight_29 : decode cX9_weight 29 = .ok (.invokevirtual 113, 3) := by decide +kernel
theorem dX9_weight_32 : decode cX9_weight 32 = .ok (.ireturn, 1) := by decide +kernel
theorem dX9_winner_0 : decode cX9_winner 0 = .ok (.aload_n 0, 1) := by decide +kernel
theorem dX9_winner_1 : decode cX9_winner 1 = .ok (.iload_n 1, 1) := by decide +kernel
theorem dX9_winner_2 : decode cX9_winner 2 = .ok (.invokevirtual 90, 3) := by decide +kernel
theorem dX9_winner_5 : decode cX9_winner 5 = .ok (.aload_n 0, 1) := by decide +kernel
theorem dX9_winner_6 : decode cX9_winner 6 = .ok (.iload_n 2, 1) := by decide +kernel
theorem dX9_winner_7 : decode cX9_winner 7 = .ok (.bipush 10, 2) := by decide +kernel
theorem dX9_winner_9 : decode cX9_winner 9 = .ok (.invokevirtual 117, 3) := by decide +kernel
theorem dX9_winner_12 : decode cX9_winner 12 = .ok (.aload_n 0, 1) := by decide +kernel
theorem dX9_winner_13 : decode cX9_winner 13 = .ok (.invokevirtual 110, 3) := by decide +kernel
theorem dX9_winner_16 : decode cX9_winner 16 = .ok (.aload_n 0, 1) := by decide +kernel
theorem dX9_winner_17 : decode cX9_winner 17 = .ok (.getfield 11, 3) := by decide +kernel
theorem dX9_winner_20 : decode cX9_winner 20 = .ok (.iload_n 1, 1) := by decide +kernel
theorem dX9_winner_21 : decode cX9_winner 21 = .ok (.aaload, 1) := by decide +kernel
theorem dX9_winner_22 : decode cX9_winner 22 = .ok (.getfield 121, 3) := by decide +kernel
theorem dX9_winner_25 : decode cX9_winner 25 = .ok (.iload_n 2, 1) := by decide +kernel
theorem dX9_winner_26 : decode cX9_winner 26 = .ok (.invokevirtual 125, 3) := by decide +kernel
theorem dX9_winner_29 : decode cX9_winner 29 = .ok (.ireturn, 1) := by decide +kernel
theorem dX9_value_0 : decode cX9_value 0 = .ok (.aload_n 0, 1) := by decide +kernel
theorem dX9_value_1 : decode cX9_value 1 = .ok (.iload_n 1, 1) := by decide +kernel
theorem dX9_value_2 : decode cX9_value 2 = .ok (.invokevirtual 90, 3) := by decide +kernel
theorem dX9_value_5 : decode cX9_value 5 = .ok (.aload_n 0, 1) := by decide +kernel
theorem dX9_value_6 : decode cX9_value 6 = .ok (.iload_n 2, 1) := by decide +kernel
theorem dX9_value_7 : decode cX9_value 7 = .ok (.bipush 6, 2) := by decide +kernel
theorem dX9_value_9 : decode cX9_value 9 = .ok (.invokevirtual 117, 3) := by decide +kernel
theorem dX9_value_12 : decode cX9_value 12 = .ok (.aload_n 0, 1) := by decide +kernel
theorem dX9_value_13 : decode cX9_value 13 = .ok (.invokevirtual 110, 3) := by decide +kernel
theorem dX9_value_16 : decode cX9_value 16 = .ok (.aload_n 0, 1) := by decide +kernel
theorem dX9_value_17 : decode cX9_value 17 = .ok (.getfield 38, 3) := by decide +kernel
theorem dX9_value_20 : decode cX9_value 20 = .ok (.aload_n 0, 1) := by decide +kernel
theorem dX9_value_21 : decode cX9_value 21 = .ok (.getfield 11, 3) := by decide +kernel
theorem dX9_value_24 : decode cX9_value 24 = .ok (.iload_n 1, 1) := by decide +kernel
theorem dX9_value_25 : decode cX9_value 25 = .ok (.aaload, 1) := by decide +kernel
theorem dX9_value_26 : decode cX9_value 26 = .ok (.iload_n 2, 1) := by decide +kernel
theorem dX9_value_27 : decode cX9_value 27 = .ok (.invokevirtual 130, 3) := by decide +kernel
theorem dX9_value_30 : decode cX9_value 30 = .ok (.aload_n 0, 1) := by decide +kernel
theorem dX9_value_31 : decode cX9_value 31 = .ok (.getfield 11, 3) := by decide +kernel
theorem dX9_value_34 : decode cX9_value 34 = .ok (.iload_n 1, 1) := by decide +kernel
theorem dX9_value_35 : decode cX9_value 35 = .ok (.aaload, 1) := by decide +kernel
theorem dX9_value_36 : decode cX9_value 36 = .ok (.getfield 121, 3) := by decide +kernel
theorem dX9_value_39 : decode cX9_value 39 = .ok (.getfield 134, 3) := by decide +kernel
theorem dX9_value_42 : decode cX9_value 42 = .ok (.iload_n 2, 1) := by decide +kernel
theorem dX9_value_43 : decode cX9_value 43 = .ok (.faload, 1) := by decide +kernel
theorem dX9_value_44 : decode cX9_value 44 = .ok (.freturn, 1) := by decide +kernel
theorem dX9_how_0 : decode cX9_how 0 = .ok (.aload_n 0, 1) := by decide +kernel
theorem dX9_how_1 : decode cX9_how 1 = .ok (.iload_n 1, 1) := by decide +kernel
theorem dX9_how_2 : decode cX9_how 2 = .ok (.invokevirtual 90, 3) := by decide +kernel
theorem dX9_how_5 : decode cX9_how 5 = .ok (.aload_n 0, 1) := by decide +kernel
theorem dX9_how_6 : decode cX9_how 6 = .ok (.iload_n 2, 1) := by decide +kernel
theorem dX9_how_7 : decode cX9_how 7 = .ok (.bipush 6, 2) := by decide +kernel
theorem dX9_how_9 : decode cX9_how 9 = .ok (.invokevirtual 117, 3) := by decide +kernel
theorem dX9_how_12 : decode cX9_how 12 = .ok (.aload_n 0, 1) := by decide +kernel
theorem dX9_how_13 : decode cX9_how 13 = .ok (.invokevirtual 110, 3) := by decide +kernel
theorem dX9_how_16 : decode cX9_how 16 = .ok (.aload_n 0, 1) := by decide +kernel
theorem dX9_how_17 : decode cX9_how 17 = .ok (.getfield 38, 3) := by decide +kernel
theorem dX9_how_20 : decode cX9_how 20 = .ok (.aload_n 0, 1) := by decide +kernel
theorem dX9_how_21 : decode cX9_how 21 = .ok (.getfield 11, 3) := by decide +kernel
theorem dX9_how_24 : decode cX9_how 24 = .ok (.iload_n 1, 1) := by decide +kernel
theorem dX9_how_25 : decode cX9_how 25 = .ok (.aaload, 1) := by decide +kernel
theorem dX9_how_26 : decode cX9_how 26 = .ok (.iload_n 2, 1) := by decide +kernel
theorem dX9_how_27 : decode cX9_how 27 = .ok (.invokevirtual 130, 3) := by decide +kernel
theorem dX9_how_30 : decode cX9_how 30 = .ok (.aload_n 0, 1) := by decide +kernel
theorem dX9_how_31 : decode cX9_how 31 = .ok (.getfield 11, 3) := by decide +kernel
theorem dX9_how_34 : decode cX9_how 34 = .ok (.iload_n 1, 1) := by decide +kernel
theorem dX9_how_35 : decode cX9_how 35 = .ok (.aaload, 1) := by decide +kernel
theorem dX9_how_36 : decode cX9_how 36 = .ok (.getfield 121, 3) := by decide +kernel
theorem dX9_how_39 : decode cX9_how 39 = .ok (.getfield 138, 3) := by decide +kernel
theorem dX9_how_42 : decode cX9_how 42 = .ok (.iload_n 2, 1) := by decide +kernel
theorem dX9_how_43 : decode cX9_how 43 = .ok (.iaload, 1) := by decide +kernel
theorem dX9_how_44 : decode cX9_how 44 = .ok (.ireturn, 1) := by decide +kernel
theorem dX9_count_0 : decode cX9_count 0 = .ok (.iload_n 1, 1) := by decide +kernel
theorem dX9_count_1 : decode cX9_count 1 = .ok (.tableswitch 45 0 2 #[27, 32, 37], 27) := by decide +kernel
theorem dX9_count_28 : decode cX9_count 28 = .ok (.aload_n 0, 1) := by decide +kernel
theorem dX9_count_29 : decode cX9_count 29 = .ok (.getfield 15, 3) := by decide +kernel
theorem dX9_count_32 : decode cX9_count 32 = .ok (.ireturn, 1) := by decide +kernel
theorem dX9_count_33 : decode cX9_count 33 = .ok (.aload_n 0, 1) := by decide +kernel
theorem dX9_count_34 : decode cX9_count 34 = .ok (.getfield 25, 3) := by decide +kernel
theorem dX9_count_37 : decode cX9_count 37 = .ok (.ireturn, 1) := by decide +kernel
theorem dX9_count_38 : decode cX9_count 38 = .ok (.aload_n 0, 1) := by decide +kernel
theorem dX9_count_39 : decode cX9_count 39 = .ok (.getfield 31, 3) := by decide +kernel
theorem dX9_count_42 : decode cX9_count 42 = .ok (.invokevirtual 142, 3) := by decide +kernel
theorem dX9_count_45 : decode cX9_count 45 = .ok (.ireturn, 1) := by decide +kernel
theorem dX9_count_46 : decode cX9_count 46 = .ok (.iconst (-1), 1) := by decide +kernel
theorem dX9_count_47 : decode cX9_count 47 = .ok (.ireturn, 1) := by decide +kernel
theorem dX9_isElement_0 : decode cX9_isElement 0 = .ok (.iload_n 1, 1) := by decide +kernel
theorem dX9_isElement_1 : decode cX9_isElement 1 = .ok (.ifCond .lt 15, 3) := by decide +kernel
theorem dX9_isElement_4 : decode cX9_isElement 4 = .ok (.iload_n 1, 1) := by decide +kernel
theorem dX9_isElement_5 : decode cX9_isElement 5 = .ok (.aload_n 0, 1) := by decide +kernel
theorem dX9_isElement_6 : decode cX9_isElement 6 = .ok (.getfield 15, 3) := by decide +kernel
theorem dX9_isElement_9 : decode cX9_isElement 9 = .ok (.if_icmp .ge 7, 3) := by decide +kernel
theorem dX9_isElement_12 : decode cX9_isElement 12 = .ok (.iconst 1, 1) := by decide +kernel
theorem dX9_isElement_13 : decode cX9_isElement 13 = .ok (.goto 4, 3) := by decide +kernel
theorem dX9_isElement_16 : decode cX9_isElement 16 = .ok (.iconst 0, 1) := by decide +kernel
theorem dX9_isElement_17 : decode cX9_isElement 17 = .ok (.ireturn, 1) := by decide +kernel
theorem dX9_checkElement_0 : decode cX9_checkElement 0 = .ok (.aload_n 0, 1) := by decide +kernel
theorem dX9_checkElement_1 : decode cX9_checkElement 1 = .ok (.iload_n 1, 1) := by decide +kernel
theorem dX9_checkElement_2 : decode cX9_checkElement 2 = .ok (.invokevirtual 46, 3) := by decide +kernel
theorem dX9_checkElement_5 : decode cX9_checkElement 5 = .ok (.ifCond .ne 11, 3) := by decide +kernel
theorem dX9_checkElement_8 : decode cX9_checkElement 8 = .ok (.new 146, 3) := by decide +kernel
theorem dX9_checkElement_11 : decode cX9_checkElement 11 = .ok (.dup, 1) := by decide +kernel
theorem dX9_checkElement_12 : decode cX9_checkElement 12 = .ok (.invokespecial 148, 3) := by decide +kernel
theorem dX9_checkElement_15 : decode cX9_checkElement 15 = .ok (.athrow, 1) := by decide +kernel
theorem dX9_checkElement_16 : decode cX9_checkElement 16 = .ok (.return_, 1) := by decide +kernel
theorem dX9_checkRule_0 : decode cX9_checkRule 0 = .ok (.iload_n 1, 1) := by decide +kernel
theorem dX9_checkRule_1 : decode cX9_checkRule 1 = .ok (.ifCond .lt 11, 3) := by decide +kernel
theorem dX9_checkRule_4 : decode cX9_checkRule 4 = .ok (.iload_n 1, 1) := by decide +kernel
theorem dX9_checkRule_5 : decode cX9_checkRule 5 = .ok (.aload_n 0, 1) := by decide +kernel
theorem dX9_checkRule_6 : decode cX9_checkRule 6 = .ok (.getfield 25, 3) := by decide +kernel
theorem dX9_checkRule_9 : decode cX9_checkRule 9 = .ok (.if_icmp .lt 11, 3) := by decide +kernel
theorem dX9_checkRule_12 : decode cX9_checkRule 12 = .ok (.new 146, 3) := by decide +kernel
theorem dX9_checkRule_15 : decode cX9_checkRule 15 = .ok (.dup, 1) := by decide +kernel
theorem dX9_checkRule_16 : decode cX9_checkRule 16 = .ok (.invokespecial 148, 3) := by decide +kernel
theorem dX9_checkRule_19 : decode cX9_checkRule 19 = .ok (.athrow, 1) := by decide +kernel
theorem dX9_checkRule_20 : decode cX9_checkRule 20 = .ok (.return_, 1) := by decide +kernel
theorem dX9_checkName_0 : decode cX9_checkName 0 = .ok (.iload_n 1, 1) := by decide +kernel
theorem dX9_checkName_1 : decode cX9_checkName 1 = .ok (.ifCond .lt 8, 3) := by decide +kernel
theorem dX9_checkName_4 : decode cX9_checkName 4 = .ok (.iload_n 1, 1) := by decide +kernel
theorem dX9_checkName_5 : decode cX9_checkName 5 = .ok (.iload_n 2, 1) := by decide +kernel
theorem dX9_checkName_6 : decode cX9_checkName 6 = .ok (.if_icmp .lt 11, 3) := by decide +kernel
theorem dX9_checkName_9 : decode cX9_checkName 9 = .ok (.new 53, 3) := by decide +kernel
theorem dX9_checkName_12 : decode cX9_checkName 12 = .ok (.dup, 1) := by decide +kernel
theorem dX9_checkName_13 : decode cX9_checkName 13 = .ok (.invokespecial 55, 3) := by decide +kernel
theorem dX9_checkName_16 : decode cX9_checkName 16 = .ok (.athrow, 1) := by decide +kernel
theorem dX9_checkName_17 : decode cX9_checkName 17 = .ok (.return_, 1) := by decide +kernel
theorem dX9_catchUp_0 : decode cX9_catchUp 0 = .ok (.aload_n 0, 1) := by decide +kernel
theorem dX9_catchUp_1 : decode cX9_catchUp 1 = .ok (.getfield 42, 3) := by decide +kernel
theorem dX9_catchUp_4 : decode cX9_catchUp 4 = .ok (.ifCond .ne 4, 3) := by decide +kernel
theorem dX9_catchUp_7 : decode cX9_catchUp 7 = .ok (.return_, 1) := by decide +kernel
theorem dX9_catchUp_8 : decode cX9_catchUp 8 = .ok (.iconst 0, 1) := by decide +kernel
theorem dX9_catchUp_9 : decode cX9_catchUp 9 = .ok (.istore_n 1, 1) := by decide +kernel
theorem dX9_catchUp_10 : decode cX9_catchUp 10 = .ok (.iload_n 1, 1) := by decide +kernel
theorem dX9_catchUp_11 : decode cX9_catchUp 11 = .ok (.aload_n 0, 1) := by decide +kernel
theorem dX9_catchUp_12 : decode cX9_catchUp 12 = .ok (.getfield 15, 3) := by decide +kernel
theorem dX9_catchUp_15 : decode cX9_catchUp 15 = .ok (.if_icmp .ge 21, 3) := by decide +kernel
theorem dX9_catchUp_18 : decode cX9_catchUp 18 = .ok (.aload_n 0, 1) := by decide +kernel
theorem dX9_catchUp_19 : decode cX9_catchUp 19 = .ok (.getfield 11, 3) := by decide +kernel
theorem dX9_catchUp_22 : decode cX9_catchUp 22 = .ok (.iload_n 1, 1) := by decide +kernel
theorem dX9_catchUp_23 : decode cX9_catchUp 23 = .ok (.aaload, 1) := by decide +kernel
theorem dX9_catchUp_24 : decode cX9_catchUp 24 = .ok (.getfield 121, 3) := by decide +kernel
theorem dX9_catchUp_27 : decode cX9_catchUp 27 = .ok (.invokevirtual 149, 3) := by decide +kernel
theorem dX9_catchUp_30 : decode cX9_catchUp 30 = .ok (.iinc 1 1, 3) := by decide +kernel
theorem dX9_catchUp_33 : decode cX9_catchUp 33 = .ok (.goto (-23), 3) := by decide +kernel
theorem dX9_catchUp_36 : decode cX9_catchUp 36 = .ok (.iconst 0, 1) := by decide +kernel
theorem dX9_catchUp_37 : decode cX9_catchUp 37 = .ok (.istore_n 1, 1) := by decide +kernel
theorem dX9_catchUp_38 : decode cX9_catchUp 38 = .ok (.iload_n 1, 1) := by decide +kernel
theorem dX9_catchUp_39 : decode cX9_catchUp 39 = .ok (.aload_n 0, 1) := by decide +kernel
theorem dX9_catchUp_40 : decode cX9_catchUp 40 = .ok (.getfield 25, 3) := by decide +kernel
theorem dX9_catchUp_43 : decode cX9_catchUp 43 = .ok (.if_icmp .ge 37, 3) := by decide +kernel
theorem dX9_catchUp_46 : decode cX9_catchUp 46 = .ok (.aload_n 0, 1) := by decide +kernel
theorem dX9_catchUp_47 : decode cX9_catchUp 47 = .ok (.getfield 21, 3) := by decide +kernel
theorem dX9_catchUp_50 : decode cX9_catchUp 50 = .ok (.iload_n 1, 1) := by decide +kernel
theorem dX9_catchUp_51 : decode cX9_catchUp 51 = .ok (.aaload, 1) := by decide +kernel
theorem dX9_catchUp_52 : decode cX9_catchUp 52 = .ok (.aload_n 0, 1) := by decide +kernel
theorem dX9_catchUp_53 : decode cX9_catchUp 53 = .ok (.getfield 11, 3) := by decide +kernel
theorem dX9_catchUp_56 : decode cX9_catchUp 56 = .ok (.aload_n 0, 1) := by decide +kernel
theorem dX9_catchUp_57 : decode cX9_catchUp 57 = .ok (.getfield 15, 3) := by decide +kernel
theorem dX9_catchUp_60 : decode cX9_catchUp 60 = .ok (.invokevirtual 152, 3) := by decide +kernel
theorem dX9_catchUp_63 : decode cX9_catchUp 63 = .ok (.aload_n 0, 1) := by decide +kernel
theorem dX9_catchUp_64 : decode cX9_catchUp 64 = .ok (.aload_n 0, 1) := by decide +kernel
theorem dX9_catchUp_65 : decode cX9_catchUp 65 = .ok (.getfield 21, 3) := by decide +kernel
theorem dX9_catchUp_68 : decode cX9_catchUp 68 = .ok (.iload_n 1, 1) := by decide +kernel
theorem dX9_catchUp_69 : decode cX9_catchUp 69 = .ok (.aaload, 1) := by decide +kernel
theorem dX9_catchUp_70 : decode cX9_catchUp 70 = .ok (.iload_n 1, 1) := by decide +kernel
theorem dX9_catchUp_71 : decode cX9_catchUp 71 = .ok (.invokevirtual 153, 3) := by decide +kernel
theorem dX9_catchUp_74 : decode cX9_catchUp 74 = .ok (.iinc 1 1, 3) := by decide +kernel
theorem dX9_catchUp_77 : decode cX9_catchUp 77 = .ok (.goto (-39), 3) := by decide +kernel
theorem dX9_catchUp_80 : decode cX9_catchUp 80 = .ok (.aload_n 0, 1) := by decide +kernel
theorem dX9_catchUp_81 : decode cX9_catchUp 81 = .ok (.iconst 0, 1) := by decide +kernel
theorem dX9_catchUp_82 : decode cX9_catchUp 82 = .ok (.putfield 42, 3) := by decide +kernel
theorem dX9_catchUp_85 : decode cX9_catchUp 85 = .ok (.return_, 1) := by decide +kernel
theorem dX9_enter_0 : decode cX9_enter 0 = .ok (.iconst 0, 1) := by decide +kernel
theorem dX9_enter_1 : decode cX9_enter 1 = .ok (.istore_n 3, 1) := by decide +kernel
theorem dX9_enter_2 : decode cX9_enter 2 = .ok (.iload_n 3, 1) := by decide +kernel
theorem dX9_enter_3 : decode cX9_enter 3 = .ok (.aload_n 0, 1) := by decide +kernel
theorem dX9_enter_4 : decode cX9_enter 4 = .ok (.getfield 15, 3) := by decide +kernel
theorem dX9_enter_7 : decode cX9_enter 7 = .ok (.if_icmp .ge 68, 3) := by decide +kernel
theorem dX9_enter_10 : decode cX9_enter 10 = .ok (.aload_n 0, 1) := by decide +kernel
theorem dX9_enter_11 : decode cX9_enter 11 = .ok (.getfield 11, 3) := by decide +kernel
theorem dX9_enter_14 : decode cX9_enter 14 = .ok (.iload_n 3, 1) := by decide +kernel
theorem dX9_enter_15 : decode cX9_enter 15 = .ok (.aaload, 1) := by decide +kernel
theorem dX9_enter_16 : decode cX9_enter 16 = .ok (.astore 4, 2) := by decide +kernel
theorem dX9_enter_18 : decode cX9_enter 18 = .ok (.aload_n 1, 1) := by decide +kernel
theorem dX9_enter_19 : decode cX9_enter 19 = .ok (.aload 4, 2) := by decide +kernel
theorem dX9_enter_21 : decode cX9_enter 21 = .ok (.getfield 62, 3) := by decide +kernel
theorem dX9_enter_24 : decode cX9_enter 24 = .ok (.invokevirtual 113, 3) := by decide +kernel
theorem dX9_enter_27 : decode cX9_enter 27 = .ok (.istore 5, 2) := by decide +kernel
theorem dX9_enter_29 : decode cX9_enter 29 = .ok (.iload 5, 2) := by decide +kernel
theorem dX9_enter_31 : decode cX9_enter 31 = .ok (.iconst (-1), 1) := by decide +kernel
theorem dX9_enter_32 : decode cX9_enter 32 = .ok (.if_icmp .eq 37, 3) := by decide +kernel
theorem dX9_enter_35 : decode cX9_enter 35 = .ok (.aload_n 1, 1) := by decide +kernel
theorem dX9_enter_36 : decode cX9_enter 36 = .ok (.getfield 157, 3) := by decide +kernel
theorem dX9_enter_39 : decode cX9_enter 39 = .ok (.astore 6, 2) := by decide +kernel
theorem dX9_enter_41 : decode cX9_enter 41 = .ok (.aload 6, 2) := by decide +kernel
theorem dX9_enter_43 : decode cX9_enter 43 = .ok (.ifnull 26, 3) := by decide +kernel
theorem dX9_enter_46 : decode cX9_enter 46 = .ok (.aload 4, 2) := by decide +kernel
theorem dX9_enter_48 : decode cX9_enter 48 = .ok (.getfield 121, 3) := by decide +kernel
theorem dX9_enter_51 : decode cX9_enter 51 = .ok (.aload 6, 2) := by decide +kernel
theorem dX9_enter_53 : decode cX9_enter 53 = .ok (.iload_n 2, 1) := by decide +kernel
theorem dX9_enter_54 : decode cX9_enter 54 = .ok (.iload 5, 2) := by decide +kernel
theorem dX9_enter_56 : decode cX9_enter 56 = .ok (.invokevirtual 161, 3) := by decide +kernel
theorem dX9_enter_59 : decode cX9_enter 59 = .ok (.aload 6, 2) := by decide +kernel
theorem dX9_enter_61 : decode cX9_enter 61 = .ok (.getfield 165, 3) := by decide +kernel
theorem dX9_enter_64 : decode cX9_enter 64 = .ok (.astore 6, 2) := by decide +kernel
theorem dX9_enter_66 : decode cX9_enter 66 = .ok (.goto (-25), 3) := by decide +kernel
theorem dX9_enter_69 : decode cX9_enter 69 = .ok (.iinc 3 1, 3) := by decide +kernel
theorem dX9_enter_72 : decode cX9_enter 72 = .ok (.goto (-70), 3) := by decide +kernel
theorem dX9_enter_75 : decode cX9_enter 75 = .ok (.return_, 1) := by decide +kernel
theorem dX9_isLetter_0 : decode cX9_isLetter 0 = .ok (.iload_n 0, 1) := by decide +kernel
theorem dX9_isLetter_1 : decode cX9_isLetter 1 = .ok (.bipush 97, 2) := by decide +kernel
theorem dX9_isLetter_3 : decode cX9_isLetter 3 = .ok (.if_icmp .lt 13, 3) := by decide +kernel
theorem dX9_isLetter_6 : decode cX9_isLetter 6 = .ok (.iload_n 0, 1) := by decide +kernel
theorem dX9_isLetter_7 : decode cX9_isLetter 7 = .ok (.bipush 122, 2) := by decide +kernel
theorem dX9_isLetter_9 : decode cX9_isLetter 9 = .ok (.if_icmp .gt 7, 3) := by decide +kernel
theorem dX9_isLetter_12 : decode cX9_isLetter 12 = .ok (.iconst 1, 1) := by decide +kernel
theorem dX9_isLetter_13 : decode cX9_isLetter 13 = .ok (.goto 4, 3) := by decide +kernel
theorem dX9_isLetter_16 : decode cX9_isLetter 16 = .ok (.iconst 0, 1) := by decide +kernel
theorem dX9_isLetter_17 : decode cX9_isLetter 17 = .ok (.ireturn, 1) := by decide +kernel
theorem dX9_isDigit_0 : decode cX9_isDigit 0 = .ok (.iload_n 0, 1) := by decide +kernel
theorem dX9_isDigit_1 : decode cX9_isDigit 1 = .ok (.bipush 48, 2) := by decide +kernel
theorem dX9_isDigit_3 : decode cX9_isDigit 3 = .ok (.if_icmp .lt 13, 3) := by decide +kernel
theorem dX9_isDigit_6 : decode cX9_isDigit 6 = .ok (.iload_n 0, 1) := by decide +kernel
theorem dX9_isDigit_7 : decode cX9_isDigit 7 = .ok (.bipush 57, 2) := by decide +kernel
theorem dX9_isDigit_9 : decode cX9_isDigit 9 = .ok (.if_icmp .gt 7, 3) := by decide +kernel
theorem dX9_isDigit_12 : decode cX9_isDigit 12 = .ok (.iconst 1, 1) := by decide +kernel
theorem dX9_isDigit_13 : decode cX9_isDigit 13 = .ok (.goto 4, 3) := by decide +kernel
theorem dX9_isDigit_16 : decode cX9_isDigit 16 = .ok (.iconst 0, 1) := by decide +kernel
theorem dX9_isDigit_17 : decode cX9_isDigit 17 = .ok (.ireturn, 1) := by decide +kernel
theorem dX10_init_0 : decode cX10_init 0 = .ok (.aload_n 0, 1) := by decide +kernel
theorem dX10_init_1 : decode cX10_init 1 = .ok (.invokespecial 1, 3) := by decide +kernel
theorem dX10_init_4 : decode cX10_init 4 = .ok (.aload_n 0, 1) := by decide +kernel
theorem dX10_init_5 : decode cX10_init 5 = .ok (.bipush 24, 2) := by decide +kernel
theorem dX10_init_7 : decode cX10_init 7 = .ok (.newarray .int, 2) := by decide +kernel
theorem dX10_init_9 : decode cX10_init 9 = .ok (.putfield 7, 3) := by decide +kernel
theorem dX10_init_12 : decode cX10_init 12 = .ok (.aload_n 0, 1) := by decide +kernel
theorem dX10_init_13 : decode cX10_init 13 = .ok (.bipush 24, 2) := by decide +kernel
theorem dX10_init_15 : decode cX10_init 15 = .ok (.newarray .int, 2) := by decide +kernel
theorem dX10_init_17 : decode cX10_init 17 = .ok (.putfield 13, 3) := by decide +kernel
theorem dX10_init_20 : decode cX10_init 20 = .ok (.aload_n 0, 1) := by decide +kernel
theorem dX10_init_21 : decode cX10_init 21 = .ok (.bipush 24, 2) := by decide +kernel
theorem dX10_init_23 : decode cX10_init 23 = .ok (.newarray .int, 2) := by decide +kernel
theorem dX10_init_25 : decode cX10_init 25 = .ok (.putfield 16, 3) := by decide +kernel
theorem dX10_init_28 : decode cX10_init 28 = .ok (.aload_n 0, 1) := by decide +kernel
theorem dX10_init_29 : decode cX10_init 29 = .ok (.bipush 24, 2) := by decide +kernel
theorem dX10_init_31 : decode cX10_init 31 = .ok (.newarray .int, 2) := by decide +kernel
theorem dX10_init_33 : decode cX10_init 33 = .ok (.putfield 19, 3) := by decide +kernel
theorem dX10_init_36 : decode cX10_init 36 = .ok (.aload_n 0, 1) := by decide +kernel
theorem dX10_init_37 : decode cX10_init 37 = .ok (.bipush 24, 2) := by decide +kernel
theorem dX10_init_39 : decode cX10_init 39 = .ok (.newarray .int, 2) := by decide +kernel
theorem dX10_init_41 : decode cX10_init 41 = .ok (.putfield 22, 3) := by decide +kernel
theorem dX10_init_44 : decode cX10_init 44 = .ok (.aload_n 0, 1) := by decide +kernel
theorem dX10_init_45 : decode cX10_init 45 = .ok (.bipush 24, 2) := by decide +kernel
theorem dX10_init_47 : decode cX10_init 47 = .ok (.newarray .int, 2) := by decide +kernel
theorem dX10_init_49 : decode cX10_init 49 = .ok (.putfield 25, 3) := by decide +kernel
theorem dX10_init_52 : decode cX10_init 52 = .ok (.aload_n 0, 1) := by decide +kernel
theorem dX10_init_53 : decode cX10_init 53 = .ok (.sipush 2040, 3) := by decide +kernel
theorem dX10_init_56 : decode cX10_init 56 = .ok (.newarray .char, 2) := by decide +kernel
theorem dX10_init_58 : decode cX10_init 58 = .ok (.putfield 28, 3) := by decide +kernel
theorem dX10_init_61 : decode cX10_init 61 = .ok (.aload_n 0, 1) := by decide +kernel
theorem dX10_init_62 : decode cX10_init 62 = .ok (.bipush 17, 2) := by decide +kernel
theorem dX10_init_64 : decode cX10_init 64 = .ok (.newarray .int, 2) := by decide +kernel
theorem dX10_init_66 : decode cX10_init 66 = .ok (.putfield 32, 3) := by decide +kernel
theorem dX10_init_69 : decode cX10_init 69 = .ok (.aload_n 0, 1) := by decide +kernel
theorem dX10_init_70 : decode cX10_init 70 = .ok (.bipush 16, 2) := by decide +kernel
theorem dX10_init_72 : decode cX10_init 72 = .ok (.newarray .int, 2) := by decide +kernel
theorem dX10_init_74 : decode cX10_init 74 = .ok (.putfield 35, 3) := by decide +kernel
theorem dX10_init_77 : decode cX10_init 77 = .ok (.aload_n 0, 1) := by decide +kernel
theorem dX10_init_78 : decode cX10_init 78 = .ok (.iconst 3, 1) := by decide +kernel
theorem dX10_init_79 : decode cX10_init 79 = .ok (.newarray .int, 2) := by decide +kernel
theorem dX10_init_81 : decode cX10_init 81 = .ok (.putfield 38, 3) := by decide +kernel
theorem dX10_init_84 : decode cX10_init 84 = .ok (.aload_n 0, 1) := by decide +kernel
theorem dX10_init_85 : decode cX10_init 85 = .ok (.sipush 130, 3) := by decide +kernel
theorem dX10_init_88 : decode cX10_init 88 = .ok (.newarray .char, 2) := by decide +kernel
theorem dX10_init_90 : decode cX10_init 90 = .ok (.putfield 41, 3) := by decide +kernel
theorem dX10_init_93 : decode cX10_init 93 = .ok (.aload_n 0, 1) := by decide +kernel
theorem dX10_init_94 : decode cX10_init 94 = .ok (.sipush 130, 3) := by decide +kernel
theorem dX10_init_97 : decode cX10_init 97 = .ok (.newarray .int, 2) := by decide +kernel
theorem dX10_init_99 : decode cX10_init 99 = .ok (.putfield 44, 3) := by decide +kernel
theorem dX10_init_102 : decode cX10_init 102 = .ok (.aload_n 0, 1) := by decide +kernel
theorem dX10_init_103 : decode cX10_init 103 = .ok (.sipush 130, 3) := by decide +kernel
theorem dX10_init_106 : decode cX10_init 106 = .ok (.newarray .int, 2) := by decide +kernel
theorem dX10_init_108 : decode cX10_init 108 = .ok (.putfield 47, 3) := by decide +kernel
theorem dX10_init_111 : decode cX10_init 111 = .ok (.aload_n 0, 1) := by decide +kernel
theorem dX10_init_112 : decode cX10_init 112 = .ok (.sipush 130, 3) := by decide +kernel
theorem dX10_init_115 : decode cX10_init 115 = .ok (.newarray .int, 2) := by decide +kernel
theorem dX10_init_117 : decode cX10_init 117 = .ok (.putfield 50, 3) := by decide +kernel
theorem dX10_init_120 : decode cX10_init 120 = .ok (.aload_n 0, 1) := by decide +kernel
theorem dX10_init_121 : decode cX10_init 121 = .ok (.sipush 130, 3) := by decide +kernel
theorem dX10_init_124 : decode cX10_init 124 = .ok (.newarray .int, 2) := by decide +kernel
theorem dX10_init_126 : decode cX10_init 126 = .ok (.putfield 53, 3) := by decide +kernel
theorem dX10_init_129 : decode cX10_init 129 = .ok (.aload_n 0, 1) := by decide +kernel
theorem dX10_init_130 : decode cX10_init 130 = .ok (.sipush 130, 3) := by decide +kernel
theorem dX10_init_133 : decode cX10_init 133 = .ok (.newarray .int, 2) := by decide +kernel
theorem dX10_init_135 : decode cX10_init 135 = .ok (.putfield 56, 3) := by decide +kernel
theorem dX10_init_138 : decode cX10_init 138 = .ok (.aload_n 0, 1) := by decide +kernel
theorem dX10_init_139 : decode cX10_init 139 = .ok (.iconst 4, 1) := by decide +kernel
theorem dX10_init_140 : decode cX10_init 140 = .ok (.newarray .int, 2) := by decide +kernel
theorem dX10_init_142 : decode cX10_init 142 = .ok (.putfield 59, 3) := by decide +kernel
theorem dX10_init_145 : decode cX10_init 145 = .ok (.aload_n 0, 1) := by decide +kernel
theorem dX10_init_146 : decode cX10_init 146 = .ok (.iconst 4, 1) := by decide +kernel
theorem dX10_init_147 : decode cX10_init 147 = .ok (.newarray .int, 2) := by decide +kernel
theorem dX10_init_149 : decode cX10_init 149 = .ok (.putfield 62, 3) := by decide +kernel
theorem dX10_init_152 : decode cX10_init 152 = .ok (.aload_n 0, 1) := by decide +kernel
theorem dX10_init_153 : decode cX10_init 153 = .ok (.iconst 4, 1) := by decide +kernel
theorem dX10_init_154 : decode cX10_init 154 = .ok (.newarray .boolean, 2) := by decide +kernel
theorem dX10_init_156 : decode cX10_init 156 = .ok (.putfield 65, 3) := by decide +kernel
theorem dX10_init_159 : decode cX10_init 159 = .ok (.aload_n 0, 1) := by decide +kernel
theorem dX10_init_160 : decode cX10_init 160 = .ok (.iconst 5, 1) := by decide +kernel
theorem dX10_init_161 : decode cX10_init 161 = .ok (.newarray .int, 2) := by decide +kernel
theorem dX10_init_163 : decode cX10_init 163 = .ok (.putfield 69, 3) := by decide +kernel
theorem dX10_init_166 : decode cX10_init 166 = .ok (.aload_n 0, 1) := by decide +kernel
theorem dX10_init_167 : decode cX10_init 167 = .ok (.sipush 130, 3) := by decide +kernel
theorem dX10_init_170 : decode cX10_init 170 = .ok (.newarray .int, 2) := by decide +kernel
theorem dX10_init_172 : decode cX10_init 172 = .ok (.putfield 72, 3) := by decide +kernel
theorem dX10_init_175 : decode cX10_init 175 = .ok (.aload_n 0, 1) := by decide +kernel
theorem dX10_init_176 : decode cX10_init 176 = .ok (.sipush 130, 3) := by decide +kernel
theorem dX10_init_179 : decode cX10_init 179 = .ok (.newarray .float, 2) := by decide +kernel
theorem dX10_init_181 : decode cX10_init 181 = .ok (.putfield 75, 3) := by decide +kernel
theorem dX10_init_184 : decode cX10_init 184 = .ok (.aload_n 0, 1) := by decide +kernel
theorem dX10_init_185 : decode cX10_init 185 = .ok (.sipush 130, 3) := by decide +kernel
theorem dX10_init_188 : decode cX10_init 188 = .ok (.newarray .int, 2) := by decide +kernel
theorem dX10_init_190 : decode cX10_init 190 = .ok (.putfield 79, 3) := by decide +kernel
theorem dX10_init_193 : decode cX10_init 193 = .ok (.aload_n 0, 1) := by decide +kernel
theorem dX10_init_194 : decode cX10_init 194 = .ok (.bipush 7, 2) := by decide +kernel
theorem dX10_init_196 : decode cX10_init 196 = .ok (.newarray .char, 2) := by decide +kernel
theorem dX10_init_198 : decode cX10_init 198 = .ok (.dup, 1) := by decide +kernel
theorem dX10_init_199 : decode cX10_init 199 = .ok (.iconst 0, 1) := by decide +kernel
theorem dX10_init_200 : decode cX10_init 200 = .ok (.bipush 105, 2) := by decide +kernel
theorem dX10_init_202 : decode cX10_init 202 = .ok (.castore, 1) := by decide +kernel
theorem dX10_init_203 : decode cX10_init 203 = .ok (.dup, 1) := by decide +kernel
theorem dX10_init_204 : decode cX10_init 204 = .ok (.iconst 1, 1) := by decide +kernel
theorem dX10_init_205 : decode cX10_init 205 = .ok (.bipush 110, 2) := by decide +kernel
theorem dX10_init_207 : decode cX10_init 207 = .ok (.castore, 1) := by decide +kernel
theorem dX10_init_208 : decode cX10_init 208 = .ok (.dup, 1) := by decide +kernel
theorem dX10_init_209 : decode cX10_init 209 = .ok (.iconst 2, 1) := by decide +kernel
theorem dX10_init_210 : decode cX10_init 210 = .ok (.bipush 105, 2) := by decide +kernel
theorem dX10_init_212 : decode cX10_init 212 = .ok (.castore, 1) := by decide +kernel
theorem dX10_init_213 : decode cX10_init 213 = .ok (.dup, 1) := by decide +kernel
theorem dX10_init_214 : decode cX10_init 214 = .ok (.iconst 3, 1) := by decide +kernel
theorem dX10_init_215 : decode cX10_init 215 = .ok (.bipush 116, 2) := by decide +kernel
theorem dX10_init_217 : decode cX10_init 217 = .ok (.castore, 1) := by decide +kernel
theorem dX10_init_218 : decode cX10_init 218 = .ok (.dup, 1) := by decide +kernel
theorem dX10_init_219 : decode cX10_init 219 = .ok (.iconst 4, 1) := by decide +kernel
theorem dX10_init_220 : decode cX10_init 220 = .ok (.bipush 105, 2) := by decide +kernel
theorem dX10_init_222 : decode cX10_init 222 = .ok (.castore, 1) := by decide +kernel
theorem dX10_init_223 : decode cX10_init 223 = .ok (.dup, 1) := by decide +kernel
theorem dX10_init_224 : decode cX10_init 224 = .ok (.iconst 5, 1) := by decide +kernel
theorem dX10_init_225 : decode cX10_init 225 = .ok (.bipush 97, 2) := by decide +kernel
theorem dX10_init_227 : decode cX10_init 227 = .ok (.castore, 1) := by decide +kernel
theorem dX10_init_228 : decode cX10_init 228 = .ok (.dup, 1) := by decide +kernel
theorem dX10_init_229 : decode cX10_init 229 = .ok (.bipush 6, 2) := by decide +kernel
theorem dX10_init_231 : decode cX10_init 231 = .ok (.bipush 108, 2) := by decide +kernel
theorem dX10_init_233 : decode cX10_init 233 = .ok (.castore, 1) := by decide +kernel
theorem dX10_init_234 : decode cX10_init 234 = .ok (.putfield 82, 3) := by decide +kernel
theorem dX10_init_237 : decode cX10_init 237 = .ok (.aload_n 0, 1) := by decide +kernel
theorem dX10_init_238 : decode cX10_init 238 = .ok (.bipush 7, 2) := by decide +kernel
theorem dX10_init_240 : decode cX10_init 240 = .ok (.newarray .char, 2) := by decide +kernel
theorem dX10_init_242 : decode cX10_init 242 = .ok (.dup, 1) := by decide +kernel
theorem dX10_init_243 : decode cX10_init 243 = .ok (.iconst 0, 1) := by decide +kernel
theorem dX10_init_244 : decode cX10_init 244 = .ok (.bipush 105, 2) := by decide +kernel
theorem dX10_init_246 : decode cX10_init 246 = .ok (.castore, 1) := by decide +kernel
theorem dX10_init_247 : decode cX10_init 247 = .ok (.dup, 1) := by decide +kernel
theorem dX10_init_248 : decode cX10_init 248 = .ok (.iconst 1, 1) := by decide +kernel
theorem dX10_init_249 : decode cX10_init 249 = .ok (.bipush 110, 2) := by decide +kernel
theorem dX10_init_251 : decode cX10_init 251 = .ok (.castore, 1) := by decide +kernel
theorem dX10_init_252 : decode cX10_init 252 = .ok (.dup, 1) := by decide +kernel
theorem dX10_init_253 : decode cX10_init 253 = .ok (.iconst 2, 1) := by decide +kernel
theorem dX10_init_254 : decode cX10_init 254 = .ok (.bipush 104, 2) := by decide +kernel
theorem dX10_init_256 : decode cX10_init 256 = .ok (.castore, 1) := by decide +kernel
theorem dX10_init_257 : decode cX10_init 257 = .ok (.dup, 1) := by decide +kernel
theorem dX10_init_258 : decode cX10_init 258 = .ok (.iconst 3, 1) := by decide +kernel
theorem dX10_init_259 : decode cX10_init 259 = .ok (.bipush 101, 2) := by decide +kernel
theorem dX10_init_261 : decode cX10_init 261 = .ok (.castore, 1) := by decide +kernel
theorem dX10_init_262 : decode cX10_init 262 = .ok (.dup, 1) := by decide +kernel
theorem dX10_init_263 : decode cX10_init 263 = .ok (.iconst 4, 1) := by decide +kernel
theorem dX10_init_264 : decode cX10_init 264 = .ok (.bipush 114, 2) := by decide +kernel
theorem dX10_init_266 : decode cX10_init 266 = .ok (.castore, 1) := by decide +kernel
theorem dX10_init_267 : decode cX10_init 267 = .ok (.dup, 1) := by decide +kernel
theorem dX10_init_268 : decode cX10_init 268 = .ok (.iconst 5, 1) := by decide +kernel
theorem dX10_init_269 : decode cX10_init 269 = .ok (.bipush 105, 2) := by decide +kernel
theorem dX10_init_271 : decode cX10_init 271 = .ok (.castore, 1) := by decide +kernel
theorem dX10_init_272 : decode cX10_init 272 = .ok (.dup, 1) := by decide +kernel
theorem dX10_init_273 : decode cX10_init 273 = .ok (.bipush 6, 2) := by decide +kernel
theorem dX10_init_275 : decode cX10_init 275 = .ok (.bipush 116, 2) := by decide +kernel
theorem dX10_init_277 : decode cX10_init 277 = .ok (.castore, 1) := by decide +kernel
theorem dX10_init_278 : decode cX10_init 278 = .ok (.putfield 85, 3) := by decide +kernel
theorem dX10_init_281 : decode cX10_init 281 = .ok (.aload_n 0, 1) := by decide +kernel
theorem dX10_init_282 : decode cX10_init 282 = .ok (.sipush 384, 3) := by decide +kernel
theorem dX10_init_285 : decode cX10_init 285 = .ok (.newarray .int, 2) := by decide +kernel
theorem dX10_init_287 : decode cX10_init 287 = .ok (.putfield 88, 3) := by decide +kernel
theorem dX10_init_290 : decode cX10_init 290 = .ok (.aload_n 0, 1) := by decide +kernel
theorem dX10_init_291 : decode cX10_init 291 = .ok (.bipush 16, 2) := by decide +kernel
theorem dX10_init_293 : decode cX10_init 293 = .ok (.newarray .int, 2) := by decide +kernel
theorem dX10_init_295 : decode cX10_init 295 = .ok (.putfield 91, 3) := by decide +kernel
theorem dX10_init_298 : decode cX10_init 298 = .ok (.aload_n 0, 1) := by decide +kernel
theorem dX10_init_299 : decode cX10_init 299 = .ok (.bipush 64, 2) := by decide +kernel
theorem dX10_init_301 : decode cX10_init 301 = .ok (.newarray .int, 2) := by decide +kernel
theorem dX10_init_303 : decode cX10_init 303 = .ok (.putfield 94, 3) := by decide +kernel
theorem dX10_init_306 : decode cX10_init 306 = .ok (.aload_n 0, 1) := by decide +kernel
theorem dX10_init_307 : decode cX10_init 307 = .ok (.bipush 64, 2) := by decide +kernel
theorem dX10_init_309 : decode cX10_init 309 = .ok (.newarray .int, 2) := by decide +kernel
theorem dX10_init_311 : decode cX10_init 311 = .ok (.putfield 97, 3) := by decide +kernel
theorem dX10_init_314 : decode cX10_init 314 = .ok (.aload_n 0, 1) := by decide +kernel
theorem dX10_init_315 : decode cX10_init 315 = .ok (.bipush 64, 2) := by decide +kernel
theorem dX10_init_317 : decode cX10_init 317 = .ok (.newarray .boolean, 2) := by decide +kernel
theorem dX10_init_319 : decode cX10_init 319 = .ok (.putfield 100, 3) := by decide +kernel
theorem dX10_init_322 : decode cX10_init 322 = .ok (.aload_n 0, 1) := by decide +kernel
theorem dX10_init_323 : decode cX10_init 323 = .ok (.sipush 144, 3) := by decide +kernel
theorem dX10_init_326 : decode cX10_init 326 = .ok (.newarray .float, 2) := by decide +kernel
theorem dX10_init_328 : decode cX10_init 328 = .ok (.putfield 103, 3) := by decide +kernel
theorem dX10_init_331 : decode cX10_init 331 = .ok (.aload_n 0, 1) := by decide +kernel
theorem dX10_init_332 : decode cX10_init 332 = .ok (.sipush 3000, 3) := by decide +kernel
theorem dX10_init_335 : decode cX10_init 335 = .ok (.newarray .float, 2) := by decide +kernel
theorem dX10_init_337 : decode cX10_init 337 = .ok (.putfield 106, 3) := by decide +kernel
theorem dX10_init_340 : decode cX10_init 340 = .ok (.aload_n 0, 1) := by decide +kernel
theorem dX10_init_341 : decode cX10_init 341 = .ok (.sipush 3000, 3) := by decide +kernel
theorem dX10_init_344 : decode cX10_init 344 = .ok (.newarray .boolean, 2) := by decide +kernel
theorem dX10_init_346 : decode cX10_init 346 = .ok (.putfield 109, 3) := by decide +kernel
theorem dX10_init_349 : decode cX10_init 349 = .ok (.aload_n 0, 1) := by decide +kernel
theorem dX10_init_350 : decode cX10_init 350 = .ok (.bipush 100, 2) := by decide +kernel
theorem dX10_init_352 : decode cX10_init 352 = .ok (.newarray .int, 2) := by decide +kernel
theorem dX10_init_354 : decode cX10_init 354 = .ok (.putfield 112, 3) := by decide +kernel
theorem dX10_init_357 : decode cX10_init 357 = .ok (.aload_n 0, 1) := by decide +kernel
theorem dX10_init_358 : decode cX10_init 358 = .ok (.bipush 100, 2) := by decide +kernel
theorem dX10_init_360 : decode cX10_init 360 = .ok (.newarray .int, 2) := by decide +kernel
theorem dX10_init_362 : decode cX10_init 362 = .ok (.putfield 115, 3) := by decide +kernel
theorem dX10_init_365 : decode cX10_init 365 = .ok (.aload_n 0, 1) := by decide +kernel
theorem dX10_init_366 : decode cX10_init 366 = .ok (.bipush 100, 2) := by decide +kernel
theorem dX10_init_368 : decode cX10_init 368 = .ok (.newarray .int, 2) := by decide +kernel
theorem dX10_init_370 : decode cX10_init 370 = .ok (.putfield 118, 3) := by decide +kernel
theorem dX10_init_373 : decode cX10_init 373 = .ok (.aload_n 0, 1) := by decide +kernel
theorem dX10_init_374 : decode cX10_init 374 = .ok (.bipush 100, 2) := by decide +kernel
theorem dX10_init_376 : decode cX10_init 376 = .ok (.newarray .int, 2) := by decide +kernel
theorem dX10_init_378 : decode cX10_init 378 = .ok (.putfield 121, 3) := by decide +kernel
theorem dX10_init_381 : decode cX10_init 381 = .ok (.aload_n 0, 1) := by decide +kernel
theorem dX10_init_382 : decode cX10_init 382 = .ok (.bipush 96, 2) := by decide +kernel
theorem dX10_init_384 : decode cX10_init 384 = .ok (.newarray .int, 2) := by decide +kernel
theorem dX10_init_386 : decode cX10_init 386 = .ok (.putfield 124, 3) := by decide +kernel
theorem dX10_init_389 : decode cX10_init 389 = .ok (.aload_n 0, 1) := by decide +kernel
theorem dX10_init_390 : decode cX10_init 390 = .ok (.bipush 96, 2) := by decide +kernel
theorem dX10_init_392 : decode cX10_init 392 = .ok (.newarray .float, 2) := by decide +kernel
theorem dX10_init_394 : decode cX10_init 394 = .ok (.putfield 127, 3) := by decide +kernel
theorem dX10_init_397 : decode cX10_init 397 = .ok (.aload_n 0, 1) := by decide +kernel
theorem dX10_init_398 : decode cX10_init 398 = .ok (.bipush 96, 2) := by decide +kernel
theorem dX10_init_400 : decode cX10_init 400 = .ok (.newarray .boolean, 2) := by decide +kernel
theorem dX10_init_402 : decode cX10_init 402 = .ok (.putfield 130, 3) := by decide +kernel
theorem dX10_init_405 : decode cX10_init 405 = .ok (.return_, 1) := by decide +kernel
theorem dX10_thrown_0 : decode cX10_thrown 0 = .ok (.aload_n 0, 1) := by decide +kernel
theorem dX10_thrown_1 : decode cX10_thrown 1 = .ok (.getfield 133, 3) := by decide +kernel
theorem dX10_thrown_4 : decode cX10_thrown 4 = .ok (.ireturn, 1) := by decide +kernel
theorem dX10_refuse_0 : decode cX10_refuse 0 = .ok (.aload_n 0, 1) := by decide +kernel
theorem dX10_refuse_1 : decode cX10_refuse 1 = .ok (.iload_n 1, 1) := by decide +kernel
theorem dX10_refuse_2 : decode cX10_refuse 2 = .ok (.putfield 133, 3) := by decide +kernel
theorem dX10_refuse_5 : decode cX10_refuse 5 = .ok (.iconst 0, 1) := by decide +kernel
theorem dX10_refuse_6 : decode cX10_refuse 6 = .ok (.ireturn, 1) := by decide +kernel
theorem dX10_outside_0 : decode cX10_outside 0 = .ok (.iload_n 0, 1) := by decide +kernel
theorem dX10_outside_1 : decode cX10_outside 1 = .ok (.iload_n 1, 1) := by decide +kernel
theorem dX10_outside_2 : decode cX10_outside 2 = .ok (.if_icmp .lt 8, 3) := by decide +kernel
theorem dX10_outside_5 : decode cX10_outside 5 = .ok (.iload_n 0, 1) := by decide +kernel
theorem dX10_outside_6 : decode cX10_outside 6 = .ok (.iload_n 2, 1) := by decide +kernel
theorem dX10_outside_7 : decode cX10_outside 7 = .ok (.if_icmp .le 7, 3) := by decide +kernel
theorem dX10_outside_10 : decode cX10_outside 10 = .ok (.iconst 1, 1) := by decide +kernel
theorem dX10_outside_11 : decode cX10_outside 11 = .ok (.goto 4, 3) := by decide +kernel
theorem dX10_outside_14 : decode cX10_outside 14 = .ok (.iconst 0, 1) := by decide +kernel
theorem dX10_outside_15 : decode cX10_outside 15 = .ok (.ireturn, 1) := by decide +kernel
theorem dX10_element_0 : decode cX10_element 0 = .ok (.aload_n 0, 1) := by decide +kernel
theorem dX10_element_1 : decode cX10_element 1 = .ok (.getfield 137, 3) := by decide +kernel
theorem dX10_element_4 : decode cX10_element 4 = .ok (.ifCond .ne 16, 3) := by decide +kernel
theorem dX10_element_7 : decode cX10_element 7 = .ok (.iload_n 1, 1) := by decide +kernel
theorem dX10_element_8 : decode cX10_element 8 = .ok (.iconst (-1), 1) := by decide +kernel
theorem dX10_element_9 : decode cX10_element 9 = .ok (.if_icmp .ne 7, 3) := by decide +kernel
theorem dX10_element_12 : decode cX10_element 12 = .ok (.iconst 1, 1) := by decide +kernel
theorem dX10_element_13 : decode cX10_element 13 = .ok (.goto 26, 3) := by decide +kernel
theorem dX10_element_16 : decode cX10_element 16 = .ok (.iconst 0, 1) := by decide +kernel
theorem dX10_element_17 : decode cX10_element 17 = .ok (.goto 22, 3) := by decide +kernel
theorem dX10_element_20 : decode cX10_element 20 = .ok (.iload_n 1, 1) := by decide +kernel
theorem dX10_element_21 : decode cX10_element 21 = .ok (.iconst 0, 1) := by decide +kernel
theorem dX10_element_22 : decode cX10_element 22 = .ok (.aload_n 0, 1) := by decide +kernel
theorem dX10_element_23 : decode cX10_element 23 = .ok (.getfield 137, 3) := by decide +kernel
theorem dX10_element_26 : decode cX10_element 26 = .ok (.iconst 1, 1) := by decide +kernel
theorem dX10_element_27 : decode cX10_element 27 = .ok (.isub, 1) := by decide +kernel
theorem dX10_element_28 : decode cX10_element 28 = .ok (.invokestatic 140, 3) := by decide +kernel
theorem dX10_element_31 : decode cX10_element 31 = .ok (.ifCond .ne 7, 3) := by decide +kernel
theorem dX10_element_34 : decode cX10_element 34 = .ok (.iconst 1, 1) := by decide +kernel
theorem dX10_element_35 : decode cX10_element 35 = .ok (.goto 4, 3) := by decide +kernel
theorem dX10_element_38 : decode cX10_element 38 = .ok (.iconst 0, 1) := by decide +kernel
theorem dX10_element_39 : decode cX10_element 39 = .ok (.istore 5, 2) := by decide +kernel
theorem dX10_element_41 : decode cX10_element 41 = .ok (.iload 5, 2) := by decide +kernel
theorem dX10_element_43 : decode cX10_element 43 = .ok (.ifCond .eq 45, 3) := by decide +kernel
theorem dX10_element_46 : decode cX10_element 46 = .ok (.iload_n 2, 1) := by decide +kernel
theorem dX10_element_47 : decode cX10_element 47 = .ok (.bipush 97, 2) := by decide +kernel
theorem dX10_element_49 : decode cX10_element 49 = .ok (.bipush 122, 2) := by decide +kernel
theorem dX10_element_51 : decode cX10_element 51 = .ok (.invokestatic 140, 3) := by decide +kernel
theorem dX10_element_54 : decode cX10_element 54 = .ok (.ifCond .ne 34, 3) := by decide +kernel
theorem dX10_element_57 : decode cX10_element 57 = .ok (.iload_n 3, 1) := by decide +kernel
theorem dX10_element_58 : decode cX10_element 58 = .ok (.ifCond .eq 14, 3) := by decide +kernel
theorem dX10_element_61 : decode cX10_element 61 = .ok (.iload_n 3, 1) := by decide +kernel
theorem dX10_element_62 : decode cX10_element 62 = .ok (.bipush 97, 2) := by decide +kernel
theorem dX10_element_64 : decode cX10_element 64 = .ok (.bipush 122, 2) := by decide +kernel
theorem dX10_element_66 : decode cX10_element 66 = .ok (.invokestatic 140, 3) := by decide +kernel
theorem dX10_element_69 : decode cX10_element 69 = .ok (.ifCond .ne 19, 3) := by decide +kernel
theorem dX10_element_72 : decode cX10_element 72 = .ok (.iload 4, 2) := by decide +kernel
theorem dX10_element_74 : decode cX10_element 74 = .ok (.iconst 0, 1) := by decide +kernel
theorem dX10_element_75 : decode cX10_element 75 = .ok (.sipush 255, 3) := by decide +kernel
theorem dX10_element_78 : decode cX10_element 78 = .ok (.invokestatic 140, 3) := by decide +kernel
theorem dX10_element_81 : decode cX10_element 81 = .ok (.ifCond .ne 7, 3) := by decide +kernel
theorem dX10_element_84 : decode cX10_element 84 = .ok (.iconst 1, 1) := by decide +kernel
theorem dX10_element_85 : decode cX10_element 85 = .ok (.goto 4, 3) := by decide +kernel
theorem dX10_element_88 : decode cX10_element 88 = .ok (.iconst 0, 1) := by decide +kernel
theorem dX10_element_89 : decode cX10_element 89 = .ok (.istore 6, 2) := by decide +kernel
theorem dX10_element_91 : decode cX10_element 91 = .ok (.aload_n 0, 1) := by decide +kernel
theorem dX10_element_92 : decode cX10_element 92 = .ok (.iload 6, 2) := by decide +kernel
theorem dX10_element_94 : decode cX10_element 94 = .ok (.ifCond .ne 7, 3) := by decide +kernel
theorem dX10_element_97 : decode cX10_element 97 = .ok (.iconst 1, 1) := by decide +kernel
theorem dX10_element_98 : decode cX10_element 98 = .ok (.goto 17, 3) := by decide +kernel
theorem dX10_element_101 : decode cX10_element 101 = .ok (.aload_n 0, 1) := by decide +kernel
theorem dX10_element_102 : decode cX10_element 102 = .ok (.getfield 137, 3) := by decide +kernel
theorem dX10_element_105 : decode cX10_element 105 = .ok (.bipush 24, 2) := by decide +kernel
theorem dX10_element_107 : decode cX10_element 107 = .ok (.if_icmp .ne 7, 3) := by decide +kernel
theorem dX10_element_110 : decode cX10_element 110 = .ok (.iconst 2, 1) := by decide +kernel
theorem dX10_element_111 : decode cX10_element 111 = .ok (.goto 4, 3) := by decide +kernel
theorem dX10_element_114 : decode cX10_element 114 = .ok (.iconst 0, 1) := by decide +kernel
theorem dX10_element_115 : decode cX10_element 115 = .ok (.putfield 133, 3) := by decide +kernel
theorem dX10_element_118 : decode cX10_element 118 = .ok (.aload_n 0, 1) := by decide +kernel
theorem dX10_element_119 : decode cX10_element 119 = .ok (.getfield 133, 3) := by decide +kernel
theorem dX10_element_122 : decode cX10_element 122 = .ok (.ifCond .le 5, 3) := by decide +kernel
theorem dX10_element_125 : decode cX10_element 125 = .ok (.iconst 0, 1) := by decide +kernel
theorem dX10_element_126 : decode cX10_element 126 = .ok (.ireturn, 1) := by decide +kernel
theorem dX10_element_127 : decode cX10_element 127 = .ok (.aload_n 0, 1) := by decide +kernel
theorem dX10_element_128 : decode cX10_element 128 = .ok (.getfield 7, 3) := by decide +kernel
theorem dX10_element_131 : decode cX10_element 131 = .ok (.aload_n 0, 1) := by decide +kernel
theorem dX10_element_132 : decode cX10_element 132 = .ok (.getfield 137, 3) := by decide +kernel
theorem dX10_element_135 : decode cX10_element 135 = .ok (.iload_n 1, 1) := by decide +kernel
theorem dX10_element_136 : decode cX10_element 136 = .ok (.iastore, 1) := by decide +kernel
theorem dX10_element_137 : decode cX10_element 137 = .ok (.aload_n 0, 1) := by decide +kernel
theorem dX10_element_138 : decode cX10_element 138 = .ok (.getfield 13, 3) := by decide +kernel
theorem dX10_element_141 : decode cX10_element 141 = .ok (.aload_n 0, 1) := by decide +kernel
theorem dX10_element_142 : decode cX10_element 142 = .ok (.getfield 137, 3) := by decide +kernel
theorem dX10_element_145 : decode cX10_element 145 = .ok (.iload_n 2, 1) := by decide +kernel
theorem dX10_element_146 : decode cX10_element 146 = .ok (.iastore, 1) := by decide +kernel
theorem dX10_element_147 : decode cX10_element 147 = .ok (.aload_n 0, 1) := by decide +kernel
theorem dX10_element_148 : decode cX10_element 148 = .ok (.getfield 16, 3) := by decide +kernel
theorem dX10_element_151 : decode cX10_element 151 = .ok (.aload_n 0, 1) := by decide +kernel
theorem dX10_element_152 : decode cX10_element 152 = .ok (.getfield 137, 3) := by decide +kernel
theorem dX10_element_155 : decode cX10_element 155 = .ok (.iload_n 3, 1) := by decide +kernel
theorem dX10_element_156 : decode cX10_element 156 = .ok (.iastore, 1) := by decide +kernel
theorem dX10_element_157 : decode cX10_element 157 = .ok (.aload_n 0, 1) := by decide +kernel
theorem dX10_element_158 : decode cX10_element 158 = .ok (.getfield 19, 3) := by decide +kernel
theorem dX10_element_161 : decode cX10_element 161 = .ok (.aload_n 0, 1) := by decide +kernel
theorem dX10_element_162 : decode cX10_element 162 = .ok (.getfield 137, 3) := by decide +kernel
theorem dX10_element_165 : decode cX10_element 165 = .ok (.iload 4, 2) := by decide +kernel
theorem dX10_element_167 : decode cX10_element 167 = .ok (.iastore, 1) := by decide +kernel
theorem dX10_element_168 : decode cX10_element 168 = .ok (.aload_n 0, 1) := by decide +kernel
theorem dX10_element_169 : decode cX10_element 169 = .ok (.getfield 22, 3) := by decide +kernel
theorem dX10_element_172 : decode cX10_element 172 = .ok (.aload_n 0, 1) := by decide +kernel
theorem dX10_element_173 : decode cX10_element 173 = .ok (.getfield 137, 3) := by decide +kernel
theorem dX10_element_176 : decode cX10_element 176 = .ok (.iload_n 1, 1) := by decide +kernel
theorem dX10_element_177 : decode cX10_element 177 = .ok (.iconst (-1), 1) := by decide +kernel
theorem dX10_element_178 : decode cX10_element 178 = .ok (.if_icmp .ne 7, 3) := by decide +kernel
theorem dX10_element_181 : decode cX10_element 181 = .ok (.iconst 1, 1) := by decide +kernel
theorem dX10_element_182 : decode cX10_element 182 = .ok (.goto 11, 3) := by decide +kernel
theorem dX10_element_185 : decode cX10_element 185 = .ok (.aload_n 0, 1) := by decide +kernel
theorem dX10_element_186 : decode cX10_element 186 = .ok (.getfield 25, 3) := by decide +kernel
theorem dX10_element_189 : decode cX10_element 189 = .ok (.iload_n 1, 1) := by decide +kernel
theorem dX10_element_190 : decode cX10_element 190 = .ok (.iaload, 1) := by decide +kernel
theorem dX10_element_191 : decode cX10_element 191 = .ok (.iconst 1, 1) := by decide +kernel
theorem dX10_element_192 : decode cX10_element 192 = .ok (.iadd, 1) := by decide +kernel
theorem dX10_element_193 : decode cX10_element 193 = .ok (.iastore, 1) := by decide +kernel
theorem dX10_element_194 : decode cX10_element 194 = .ok (.iload_n 1, 1) := by decide +kernel
theorem dX10_element_195 : decode cX10_element 195 = .ok (.iconst (-1), 1) := by decide +kernel
theorem dX10_element_196 : decode cX10_element 196 = .ok (.if_icmp .eq 13, 3) := by decide +kernel
theorem dX10_element_199 : decode cX10_element 199 = .ok (.aload_n 0, 1) := by decide +kernel
theorem dX10_element_200 : decode cX10_element 200 = .ok (.getfield 25, 3) := by decide +kernel
theorem dX10_element_203 : decode cX10_element 203 = .ok (.iload_n 1, 1) := by decide +kernel
theorem dX10_element_204 : decode cX10_element 204 = .ok (.dup2, 1) := by decide +kernel
theorem dX10_element_205 : decode cX10_element 205 = .ok (.iaload, 1) := by decide +kernel
theorem dX10_element_206 : decode cX10_element 206 = .ok (.iconst 1, 1) := by decide +kernel
theorem dX10_element_207 : decode cX10_element 207 = .ok (.iadd, 1) := by decide +kernel
theorem dX10_element_208 : decode cX10_element 208 = .ok (.iastore, 1) := by decide +kernel
theorem dX10_element_209 : decode cX10_element 209 = .ok (.aload_n 0, 1) := by decide +kernel
theorem dX10_element_210 : decode cX10_element 210 = .ok (.getfield 25, 3) := by decide +kernel
theorem dX10_element_213 : decode cX10_element 213 = .ok (.aload_n 0, 1) := by decide +kernel
theorem dX10_element_214 : decode cX10_element 214 = .ok (.getfield 137, 3) := by decide +kernel
theorem dX10_element_217 : decode cX10_element 217 = .ok (.iconst 0, 1) := by decide +kernel
theorem dX10_element_218 : decode cX10_element 218 = .ok (.iastore, 1) := by decide +kernel
theorem dX10_element_219 : decode cX10_element 219 = .ok (.aload_n 0, 1) := by decide +kernel
theorem dX10_element_220 : decode cX10_element 220 = .ok (.dup, 1) := by decide +kernel
theorem dX10_element_221 : decode cX10_element 221 = .ok (.getfield 137, 3) := by decide +kernel
theorem dX10_element_224 : decode cX10_element 224 = .ok (.iconst 1, 1) := by decide +kernel
theorem dX10_element_225 : decode cX10_element 225 = .ok (.iadd, 1) := by decide +kernel
theorem dX10_element_226 : decode cX10_element 226 = .ok (.putfield 137, 3) := by decide +kernel
theorem dX10_element_229 : decode cX10_element 229 = .ok (.aload_n 0, 1) := by decide +kernel
theorem dX10_element_230 : decode cX10_element 230 = .ok (.getfield 137, 3) := by decide +kernel
theorem dX10_element_233 : decode cX10_element 233 = .ok (.iconst 1, 1) := by decide +kernel
theorem dX10_element_234 : decode cX10_element 234 = .ok (.isub, 1) := by decide +kernel
theorem dX10_element_235 : decode cX10_element 235 = .ok (.ireturn, 1) := by decide +kernel
theorem dX10_put_0 : decode cX10_put 0 = .ok (.aload_n 0, 1) := by decide +kernel
theorem dX10_put_1 : decode cX10_put 1 = .ok (.iconst 0, 1) := by decide +kernel
theorem dX10_put_2 : decode cX10_put 2 = .ok (.putfield 133, 3) := by decide +kernel
theorem dX10_put_5 : decode cX10_put 5 = .ok (.iload_n 2, 1) := by decide +kernel
theorem dX10_put_6 : decode cX10_put 6 = .ok (.iconst 1, 1) := by decide +kernel
theorem dX10_put_7 : decode cX10_put 7 = .ok (.iconst 4, 1) := by decide +kernel
theorem dX10_put_8 : decode cX10_put 8 = .ok (.invokestatic 140, 3) := by decide +kernel
theorem dX10_put_11 : decode cX10_put 11 = .ok (.ifCond .ne 17, 3) := by decide +kernel
theorem dX10_put_14 : decode cX10_put 14 = .ok (.aload_n 0, 1) := by decide +kernel
theorem dX10_put_15 : decode cX10_put 15 = .ok (.getfield 32, 3) := by decide +kernel
theorem dX10_put_18 : decode cX10_put 18 = .ok (.bipush 16, 2) := by decide +kernel
theorem dX10_put_20 : decode cX10_put 20 = .ok (.iaload, 1) := by decide +kernel
theorem dX10_put_21 : decode cX10_put 21 = .ok (.iload_n 2, 1) := by decide +kernel
theorem dX10_put_22 : decode cX10_put 22 = .ok (.iadd, 1) := by decide +kernel
theorem dX10_put_23 : decode cX10_put 23 = .ok (.bipush 120, 2) := by decide +kernel
theorem dX10_put_25 : decode cX10_put 25 = .ok (.if_icmp .le 5, 3) := by decide +kernel
theorem dX10_put_28 : decode cX10_put 28 = .ok (.iconst 0, 1) := by decide +kernel
theorem dX10_put_29 : decode cX10_put 29 = .ok (.ireturn, 1) := by decide +kernel
theorem dX10_put_30 : decode cX10_put 30 = .ok (.iconst 0, 1) := by decide +kernel
theorem dX10_put_31 : decode cX10_put 31 = .ok (.istore_n 3, 1) := by decide +kernel
theorem dX10_put_32 : decode cX10_put 32 = .ok (.iload_n 3, 1) := by decide +kernel
theorem dX10_put_33 : decode cX10_put 33 = .ok (.iload_n 2, 1) := by decide +kernel
theorem dX10_put_34 : decode cX10_put 34 = .ok (.if_icmp .ge 31, 3) := by decide +kernel
theorem dX10_put_37 : decode cX10_put 37 = .ok (.iload_n 1, 1) := by decide +kernel
theorem dX10_put_38 : decode cX10_put 38 = .ok (.bipush 8, 2) := by decide +kernel
theorem dX10_put_40 : decode cX10_put 40 = .ok (.iload_n 3, 1) := by decide +kernel
theorem dX10_put_41 : decode cX10_put 41 = .ok (.imul, 1) := by decide +kernel
theorem dX10_put_42 : decode cX10_put 42 = .ok (.ishr, 1) := by decide +kernel
theorem dX10_put_43 : decode cX10_put 43 = .ok (.sipush 255, 3) := by decide +kernel
theorem dX10_put_46 : decode cX10_put 46 = .ok (.iand, 1) := by decide +kernel
theorem dX10_put_47 : decode cX10_put 47 = .ok (.bipush 32, 2) := by decide +kernel
theorem dX10_put_49 : decode cX10_put 49 = .ok (.bipush 126, 2) := by decide +kernel
theorem dX10_put_51 : decode cX10_put 51 = .ok (.invokestatic 140, 3) := by decide +kernel
theorem dX10_put_54 : decode cX10_put 54 = .ok (.ifCond .eq 5, 3) := by decide +kernel
theorem dX10_put_57 : decode cX10_put 57 = .ok (.iconst 0, 1) := by decide +kernel
theorem dX10_put_58 : decode cX10_put 58 = .ok (.ireturn, 1) := by decide +kernel
theorem dX10_put_59 : decode cX10_put 59 = .ok (.iinc 3 1, 3) := by decide +kernel
theorem dX10_put_62 : decode cX10_put 62 = .ok (.goto (-30), 3) := by decide +kernel
theorem dX10_put_65 : decode cX10_put 65 = .ok (.iload_n 2, 1) := by decide +kernel
theorem dX10_put_66 : decode cX10_put 66 = .ok (.iconst 1, 1) := by decide +kernel
theorem dX10_put_67 : decode cX10_put 67 = .ok (.isub, 1) := by decide +kernel
theorem dX10_put_68 : decode cX10_put 68 = .ok (.istore_n 3, 1) := by decide +kernel
theorem dX10_put_69 : decode cX10_put 69 = .ok (.iload_n 3, 1) := by decide +kernel
theorem dX10_put_70 : decode cX10_put 70 = .ok (.ifCond .lt 47, 3) := by decide +kernel
theorem dX10_put_73 : decode cX10_put 73 = .ok (.aload_n 0, 1) := by decide +kernel
theorem dX10_put_74 : decode cX10_put 74 = .ok (.getfield 28, 3) := by decide +kernel
theorem dX10_put_77 : decode cX10_put 77 = .ok (.sipush 1920, 3) := by decide +kernel
theorem dX10_put_80 : decode cX10_put 80 = .ok (.aload_n 0, 1) := by decide +kernel
theorem dX10_put_81 : decode cX10_put 81 = .ok (.getfield 32, 3) := by decide +kernel
theorem dX10_put_84 : decode cX10_put 84 = .ok (.bipush 16, 2) := by decide +kernel
theorem dX10_put_86 : decode cX10_put 86 = .ok (.iaload, 1) := by decide +kernel
theorem dX10_put_87 : decode cX10_put 87 = .ok (.iadd, 1) := by decide +kernel
theorem dX10_put_88 : decode cX10_put 88 = .ok (.iload_n 1, 1) := by decide +kernel
theorem dX10_put_89 : decode cX10_put 89 = .ok (.bipush 8, 2) := by decide +kernel
theorem dX10_put_91 : decode cX10_put 91 = .ok (.iload_n 3, 1) := by decide +kernel
theorem dX10_put_92 : decode cX10_put 92 = .ok (.imul, 1) := by decide +kernel
theorem dX10_put_93 : decode cX10_put 93 = .ok (.ishr, 1) := by decide +kernel
theorem dX10_put_94 : decode cX10_put 94 = .ok (.sipush 255, 3) := by decide +kernel
theorem dX10_put_97 : decode cX10_put 97 = .ok (.iand, 1) := by decide +kernel
theorem dX10_put_98 : decode cX10_put 98 = .ok (.i2c, 1) := by decide +kernel
theorem dX10_put_99 : decode cX10_put 99 = .ok (.castore, 1) := by decide +kernel
theorem dX10_put_100 : decode cX10_put 100 = .ok (.aload_n 0, 1) := by decide +kernel
theorem dX10_put_101 : decode cX10_put 101 = .ok (.getfield 32, 3) := by decide +kernel
theorem dX10_put_104 : decode cX10_put 104 = .ok (.bipush 16, 2) := by decide +kernel
theorem dX10_put_106 : decode cX10_put 106 = .ok (.dup2, 1) := by decide +kernel
theorem dX10_put_107 : decode cX10_put 107 = .ok (.iaload, 1) := by decide +kernel
theorem dX10_put_108 : decode cX10_put 108 = .ok (.iconst 1, 1) := by decide +kernel
theorem dX10_put_109 : decode cX10_put 109 = .ok (.iadd, 1) := by decide +kernel
theorem dX10_put_110 : decode cX10_put 110 = .ok (.iastore, 1) := by decide +kernel
theorem dX10_put_111 : decode cX10_put 111 = .ok (.iinc 3 (-1), 3) := by decide +kernel
theorem dX10_put_114 : decode cX10_put 114 = .ok (.goto (-45), 3) := by decide +kernel
theorem dX10_put_117 : decode cX10_put 117 = .ok (.iconst 1, 1) := by decide +kernel
theorem dX10_put_118 : decode cX10_put 118 = .ok (.ireturn, 1) := by decide +kernel
theorem dX10_open_0 : decode cX10_open 0 = .ok (.aload_n 0, 1) := by decide +kernel
theorem dX10_open_1 : decode cX10_open 1 = .ok (.bipush 120, 2) := by decide +kernel
theorem dX10_open_3 : decode cX10_open 3 = .ok (.iload_n 1, 1) := by decide +kernel
theorem dX10_open_4 : decode cX10_open 4 = .ok (.imul, 1) := by decide +kernel
theorem dX10_open_5 : decode cX10_open 5 = .ok (.putfield 144, 3) := by decide +kernel
theorem dX10_open_8 : decode cX10_open 8 = .ok (.aload_n 0, 1) := by decide +kernel
theorem dX10_open_9 : decode cX10_open 9 = .ok (.aload_n 0, 1) := by decide +kernel
theorem dX10_open_10 : decode cX10_open 10 = .ok (.getfield 144, 3) := by decide +kernel
theorem dX10_open_13 : decode cX10_open 13 = .ok (.putfield 147, 3) := by decide +kernel
theorem dX10_open_16 : decode cX10_open 16 = .ok (.aload_n 0, 1) := by decide +kernel
theorem dX10_open_17 : decode cX10_open 17 = .ok (.aload_n 0, 1) := by decide +kernel
theorem dX10_open_18 : decode cX10_open 18 = .ok (.getfield 144, 3) := by decide +kernel
theorem dX10_open_21 : decode cX10_open 21 = .ok (.aload_n 0, 1) := by decide +kernel
theorem dX10_open_22 : decode cX10_open 22 = .ok (.getfield 32, 3) := by decide +kernel
theorem dX10_open_25 : decode cX10_open 25 = .ok (.iload_n 1, 1) := by decide +kernel
theorem dX10_open_26 : decode cX10_open 26 = .ok (.iaload, 1) := by decide +kernel
theorem dX10_open_27 : decode cX10_open 27 = .ok (.iadd, 1) := by decide +kernel
theorem dX10_open_28 : decode cX10_open 28 = .ok (.putfield 150, 3) := by decide +kernel
theorem dX10_open_31 : decode cX10_open 31 = .ok (.aload_n 0, 1) := by decide +kernel
theorem dX10_open_32 : decode cX10_open 32 = .ok (.iconst 1, 1) := by decide +kernel
theorem dX10_open_33 : decode cX10_open 33 = .ok (.putfield 153, 3) := by decide +kernel
theorem dX10_open_36 : decode cX10_open 36 = .ok (.aload_n 0, 1) := by decide +kernel
theorem dX10_open_37 : decode cX10_open 37 = .ok (.iconst 0, 1) := by decide +kernel
theorem dX10_open_38 : decode cX10_open 38 = .ok (.putfield 157, 3) := by decide +kernel
theorem dX10_open_41 : decode cX10_open 41 = .ok (.aload_n 0, 1) := by decide +kernel
theorem dX10_open_42 : decode cX10_open 42 = .ok (.iconst 0, 1) := by decide +kernel
theorem dX10_open_43 : decode cX10_open 43 = .ok (.putfield 160, 3) := by decide +kernel
theorem dX10_open_46 : decode cX10_open 46 = .ok (.aload_n 0, 1) := by decide +kernel
theorem dX10_open_47 : decode cX10_open 47 = .ok (.iconst 0, 1) := by decide +kernel
theorem dX10_open_48 : decode cX10_open 48 = .ok (.putfield 163, 3) := by decide +kernel
theorem dX10_open_51 : decode cX10_open 51 = .ok (.aload_n 0, 1) := by decide +kernel
theorem dX10_open_52 : decode cX10_open 52 = .ok (.iconst 0, 1) := by decide +kernel
theorem dX10_open_53 : decode cX10_open 53 = .ok (.putfield 166, 3) := by decide +kernel
theorem dX10_open_56 : decode cX10_open 56 = .ok (.aload_n 0, 1) := by decide +kernel
theorem dX10_open_57 : decode cX10_open 57 = .ok (.iconst 0, 1) := by decide +kernel
theorem dX10_open_58 : decode cX10_open 58 = .ok (.putfield 169, 3) := by decide +kernel
theorem dX10_open_61 : decode cX10_open 61 = .ok (.return_, 1) := by decide +kernel
theorem dX10_look_0 : decode cX10_look 0 = .ok (.aload_n 0, 1) := by decide +kernel
theorem dX10_look_1 : decode cX10_look 1 = .ok (.getfield 147, 3) := by decide +kernel
theorem dX10_look_4 : decode cX10_look 4 = .ok (.aload_n 0, 1) := by decide +kernel
theorem dX10_look_5 : decode cX10_look 5 = .ok (.getfield 150, 3) := by decide +kernel
theorem dX10_look_8 : decode cX10_look 8 = .ok (.if_icmp .ge 15, 3) := by decide +kernel
theorem dX10_look_11 : decode cX10_look 11 = .ok (.aload_n 0, 1) := by decide +kernel
theorem dX10_look_12 : decode cX10_look 12 = .ok (.getfield 28, 3) := by decide +kernel
theorem dX10_look_15 : decode cX10_look 15 = .ok (.aload_n 0, 1) := by decide +kernel
theorem dX10_look_16 : decode cX10_look 16 = .ok (.getfield 147, 3) := by decide +kernel
theorem dX10_look_19 : decode cX10_look 19 = .ok (.caload, 1) := by decide +kernel
theorem dX10_look_20 : decode cX10_look 20 = .ok (.goto 4, 3) := by decide +kernel
theorem dX10_look_23 : decode cX10_look 23 = .ok (.iconst 0, 1) := by decide +kernel
theorem dX10_look_24 : decode cX10_look 24 = .ok (.ireturn, 1) := by decide +kernel
theorem dX10_must_0 : decode cX10_must 0 = .ok (.aload_n 0, 1) := by decide +kernel
theorem dX10_must_1 : decode cX10_must 1 = .ok (.aload_n 0, 1) := by decide +kernel
theorem dX10_must_2 : decode cX10_must 2 = .ok (.getfield 153, 3) := by decide +kernel
theorem dX10_must_5 : decode cX10_must 5 = .ok (.ifCond .eq 11, 3) := by decide +kernel
theorem dX10_must_8 : decode cX10_must 8 = .ok (.iload_n 1, 1) := by decide +kernel
theorem dX10_must_9 : decode cX10_must 9 = .ok (.ifCond .eq 7, 3) := by decide +kernel
theorem dX10_must_12 : decode cX10_must 12 = .ok (.iconst 1, 1) := by decide +kernel
theorem dX10_must_13 : decode cX10_must 13 = .ok (.goto 4, 3) := by decide +kernel
theorem dX10_must_16 : decode cX10_must 16 = .ok (.iconst 0, 1) := by decide +kernel
theorem dX10_must_17 : decode cX10_must 17 = .ok (.putfield 153, 3) := by decide +kernel
theorem dX10_must_20 : decode cX10_must 20 = .ok (.return_, 1) := by decide +kernel
theorem dX10_pass_0 : decode cX10_pass 0 = .ok (.aload_n 0, 1) := by decide +kernel
theorem dX10_pass_1 : decode cX10_pass 1 = .ok (.invokevirtual 172, 3) := by decide +kernel
theorem dX10_pass_4 : decode cX10_pass 4 = .ok (.iload_n 1, 1) := by decide +kernel
theorem dX10_pass_5 : decode cX10_pass 5 = .ok (.if_icmp .ne 7, 3) := by decide +kernel
theorem dX10_pass_8 : decode cX10_pass 8 = .ok (.iconst 1, 1) := by decide +kernel
theorem dX10_pass_9 : decode cX10_pass 9 = .ok (.goto 4, 3) := by decide +kernel
theorem dX10_pass_12 : decode cX10_pass 12 = .ok (.iconst 0, 1) := by decide +kernel
theorem dX10_pass_13 : decode cX10_pass 13 = .ok (.istore_n 2, 1) := by decide +kernel
theorem dX10_pass_14 : decode cX10_pass 14 = .ok (.aload_n 0, 1) := by decide +kernel
theorem dX10_pass_15 : decode cX10_pass 15 = .ok (.iload_n 2, 1) := by decide +kernel
theorem dX10_pass_16 : decode cX10_pass 16 = .ok (.ifCond .eq 12, 3) := by decide +kernel
theorem dX10_pass_19 : decode cX10_pass 19 = .ok (.aload_n 0, 1) := by decide +kernel
theorem dX10_pass_20 : decode cX10_pass 20 = .ok (.getfield 147, 3) := by decide +kernel
theorem dX10_pass_23 : decode cX10_pass 23 = .ok (.iconst 1, 1) := by decide +kernel
theorem dX10_pass_24 : decode cX10_pass 24 = .ok (.iadd, 1) := by decide +kernel
theorem dX10_pass_25 : decode cX10_pass 25 = .ok (.goto 7, 3) := by decide +kernel
theorem dX10_pass_28 : decode cX10_pass 28 = .ok (.aload_n 0, 1) := by decide +kernel
theorem dX10_pass_29 : decode cX10_pass 29 = .ok (.getfield 147, 3) := by decide +kernel
theorem dX10_pass_32 : decode cX10_pass 32 = .ok (.putfield 147, 3) := by decide +kernel
theorem dX10_pass_35 : decode cX10_pass 35 = .ok (.iload_n 2, 1) := by decide +kernel
theorem dX10_pass_36 : decode cX10_pass 36 = .ok (.ireturn, 1) := by decide +kernel
theorem dX10_expect_0 : decode cX10_expect 0 = .ok (.aload_n 0, 1) := by decide +kernel
theorem dX10_expect_1 : decode cX10_expect 1 = .ok (.aload_n 0, 1) := by decide +kernel
theorem dX10_expect_2 : decode cX10_expect 2 = .ok (.iload_n 1, 1) := by decide +kernel
theorem dX10_expect_3 : decode cX10_expect 3 = .ok (.invokevirtual 176, 3) := by decide +kernel
theorem dX10_expect_6 : decode cX10_expect 6 = .ok (.invokevirtual 180, 3) := by decide +kernel
theorem dX10_expect_9 : decode cX10_expect 9 = .ok (.return_, 1) := by decide +kernel
theorem dX10_isDigit_0 : decode cX10_isDigit 0 = .ok (.aload_n 0, 1) := by decide +kernel
theorem dX10_isDigit_1 : decode cX10_isDigit 1 = .ok (.invokevirtual 172, 3) := by decide +kernel
theorem dX10_isDigit_4 : decode cX10_isDigit 4 = .ok (.bipush 48, 2) := by decide +kernel
theorem dX10_isDigit_6 : decode cX10_isDigit 6 = .ok (.bipush 57, 2) := by decide +kernel
theorem dX10_isDigit_8 : decode cX10_isDigit 8 = .ok (.invokestatic 140, 3) := by decide +kernel
theorem dX10_isDigit_11 : decode cX10_isDigit 11 = .ok (.ifCond .ne 7, 3) := by decide +kernel
theorem dX10_isDigit_14 : decode cX10_isDigit 14 = .ok (.iconst 1, 1) := by decide +kernel
theorem dX10_isDigit_15 : decode cX10_isDigit 15 = .ok (.goto 4, 3) := by decide +kernel
theorem dX10_isDigit_18 : decode cX10_isDigit 18 = .ok (.iconst 0, 1) := by decide +kernel
theorem dX10_isDigit_19 : decode cX10_isDigit 19 = .ok (.ireturn, 1) := by decide +kernel
theorem dX10_digit_0 : decode cX10_digit 0 = .ok (.aload_n 0, 1) := by decide +kernel
theorem dX10_digit_1 : decode cX10_digit 1 = .ok (.aload_n 0, 1) := by decide +kernel
theorem dX10_digit_2 : decode cX10_digit 2 = .ok (.invokevirtual 184, 3) := by decide +kernel
theorem dX10_digit_5 : decode cX10_digit 5 = .ok (.invokevirtual 180, 3) := by decide +kernel
theorem dX10_digit_8 : decode cX10_digit 8 = .ok (.aload_n 0, 1) := by decide +kernel
theorem dX10_digit_9 : decode cX10_digit 9 = .ok (.dup, 1) := by decide +kernel
theorem dX10_digit_10 : decode cX10_digit 10 = .ok (.getfield 147, 3) := by decide +kernel
theorem dX10_digit_13 : decode cX10_digit 13 = .ok (.iconst 1, 1) := by decide +kernel
theorem dX10_digit_14 : decode cX10_digit 14 = .ok (.iadd, 1) := by decide +kernel
theorem dX10_digit_15 : decode cX10_digit 15 = .ok (.putfield 147, 3) := by decide +kernel
theorem dX10_digit_18 : decode cX10_digit 18 = .ok (.aload_n 0, 1) := by decide +kernel
theorem dX10_digit_19 : decode cX10_digit 19 = .ok (.getfield 153, 3) := by decide +kernel
theorem dX10_digit_22 : decode cX10_digit 22 = .ok (.ifCond .eq 20, 3) := by decide +kernel
theorem dX10_digit_25 : decode cX10_digit 25 = .ok (.aload_n 0, 1) := by decide +kernel
theorem dX10_digit_26 : decode cX10_digit 26 = .ok (.getfield 28, 3) := by decide +kernel
theorem dX10_digit_29 : decode cX10_digit 29 = .ok (.aload_n 0, 1) := by decide +kernel
theorem dX10_digit_30 : decode cX10_digit 30 = .ok (.getfield 147, 3) := by decide +kernel
theorem dX10_digit_33 : decode cX10_digit 33 = .ok (.iconst 1, 1) := by decide +kernel
theorem dX10_digit_34 : decode cX10_digit 34 = .ok (.isub, 1) := by decide +kernel
theorem dX10_digit_35 : decode cX10_digit 35 = .ok (.caload, 1) := by decide +kernel
theorem dX10_digit_36 : decode cX10_digit 36 = .ok (.bipush 48, 2) := by decide +kernel
theorem dX10_digit_38 : decode cX10_digit 38 = .ok (.isub, 1) := by decide +kernel
theorem dX10_digit_39 : decode cX10_digit 39 = .ok (.goto 4, 3) := by decide +kernel
theorem dX10_digit_42 : decode cX10_digit 42 = .ok (.iconst 0, 1) := by decide +kernel
theorem dX10_digit_43 : decode cX10_digit 43 = .ok (.ireturn, 1) := by decide +kernel
theorem dX10_letter_0 : decode cX10_letter 0 = .ok (.aload_n 0, 1) := by decide +kernel
theorem dX10_letter_1 : decode cX10_letter 1 = .ok (.aload_n 0, 1) := by decide +kernel
theorem dX10_letter_2 : decode cX10_letter 2 = .ok (.invokevirtual 172, 3) := by decide +kernel
theorem dX10_letter_5 : decode cX10_letter 5 = .ok (.bipush 97, 2) := by decide +kernel
theorem dX10_letter_7 : decode cX10_letter 7 = .ok (.iload_n 1, 1) := by decide +kernel
theorem dX10_letter_8 : decode cX10_letter 8 = .ok (.invokestatic 140, 3) := by decide +kernel
theorem dX10_letter_11 : decode cX10_letter 11 = .ok (.ifCond .ne 7, 3) := by decide +kernel
theorem dX10_letter_14 : decode cX10_letter 14 = .ok (.iconst 1, 1) := by decide +kernel
theorem dX10_letter_15 : decode cX10_letter 15 = .ok (.goto 4, 3) := by decide +kernel
theorem dX10_letter_18 : decode cX10_letter 18 = .ok (.iconst 0, 1) := by decide +kernel
theorem dX10_letter_19 : decode cX10_letter 19 = .ok (.invokevirtual 180, 3) := by decide +kernel
theorem dX10_letter_22 : decode cX10_letter 22 = .ok (.aload_n 0, 1) := by decide +kernel
theorem dX10_letter_23 : decode cX10_letter 23 = .ok (.dup, 1) := by decide +kernel
theorem dX10_letter_24 : decode cX10_letter 24 = .ok (.getfield 147, 3) := by decide +kernel
theorem dX10_letter_27 : decode cX10_letter 27 = .ok (.iconst 1, 1) := by decide +kernel
theorem dX10_letter_28 : decode cX10_letter 28 = .ok (.iadd, 1) := by decide +kernel
theorem dX10_letter_29 : decode cX10_letter 29 = .ok (.putfield 147, 3) := by decide +kernel
theorem dX10_letter_32 : decode cX10_letter 32 = .ok (.aload_n 0, 1) := by decide +kernel
theorem dX10_letter_33 : decode cX10_letter 33 = .ok (.getfield 153, 3) := by decide +kernel
theorem dX10_letter_36 : decode cX10_letter 36 = .ok (.ifCond .eq 17, 3) := by decide +kernel
theorem dX10_letter_39 : decode cX10_letter 39 = .ok (.aload_n 0, 1) := by decide +kernel
theorem dX10_letter_40 : decode cX10_letter 40 = .ok (.getfield 28, 3) := by decide +kernel
theorem dX10_letter_43 : decode cX10_letter 43 = .ok (.aload_n 0, 1) := by decide +kernel
theorem dX10_letter_44 : decode cX10_letter 44 = .ok (.getfield 147, 3) := by decide +kernel
theorem dX10_letter_47 : decode cX10_letter 47 = .ok (.iconst 1, 1) := by decide +kernel
theorem dX10_letter_48 : decode cX10_letter 48 = .ok (.isub, 1) := by decide +kernel
theorem dX10_letter_49 : decode cX10_letter 49 = .ok (.caload, 1) := by decide +kernel
theorem dX10_letter_50 : decode cX10_letter 50 = .ok (.goto 5, 3) := by decide +kernel
theorem dX10_letter_53 : decode cX10_letter 53 = .ok (.bipush 97, 2) := by decide +kernel
theorem dX10_letter_55 : decode cX10_letter 55 = .ok (.ireturn, 1) := by decide +kernel
theorem dX10_addPart_0 : decode cX10_addPart 0 = .ok (.aload_n 0, 1) := by decide +kernel
theorem dX10_addPart_1 : decode cX10_addPart 1 = .ok (.getfield 47, 3) := by decide +kernel
theorem dX10_addPart_4 : decode cX10_addPart 4 = .ok (.aload_n 0, 1) := by decide +kernel
theorem dX10_addPart_5 : decode cX10_addPart 5 = .ok (.getfield 163, 3) := by decide +kernel
theorem dX10_addPart_8 : decode cX10_addPart 8 = .ok (.iload_n 1, 1) := by decide +kernel
theorem dX10_addPart_9 : decode cX10_addPart 9 = .ok (.iastore, 1) := by decide +kernel
theorem dX10_addPart_10 : decode cX10_addPart 10 = .ok (.aload_n 0, 1) := by decide +kernel
theorem dX10_addPart_11 : decode cX10_addPart 11 = .ok (.getfield 50, 3) := by decide +kernel
theorem dX10_addPart_14 : decode cX10_addPart 14 = .ok (.aload_n 0, 1) := by decide +kernel
theorem dX10_addPart_15 : decode cX10_addPart 15 = .ok (.getfield 163, 3) := by decide +kernel
theorem dX10_addPart_18 : decode cX10_addPart 18 = .ok (.iload_n 2, 1) := by decide +kernel
theorem dX10_addPart_19 : decode cX10_addPart 19 = .ok (.iastore, 1) := by decide +kernel
theorem dX10_addPart_20 : decode cX10_addPart 20 = .ok (.aload_n 0, 1) := by decide +kernel
theorem dX10_addPart_21 : decode cX10_addPart 21 = .ok (.getfield 53, 3) := by decide +kernel
theorem dX10_addPart_24 : decode cX10_addPart 24 = .ok (.aload_n 0, 1) := by decide +kernel
theorem dX10_addPart_25 : decode cX10_addPart 25 = .ok (.getfield 163, 3) := by decide +kernel
theorem dX10_addPart_28 : decode cX10_addPart 28 = .ok (.iload_n 3, 1) := by decide +kernel
theorem dX10_addPart_29 : decode cX10_addPart 29 = .ok (.iastore, 1) := by decide +kernel
theorem dX10_addPart_30 : decode cX10_addPart 30 = .ok (.aload_n 0, 1) := by decide +kernel
theorem dX10_addPart_31 : decode cX10_addPart 31 = .ok (.getfield 56, 3) := by decide +kernel
theorem dX10_addPart_34 : decode cX10_addPart 34 = .ok (.aload_n 0, 1) := by decide +kernel
theorem dX10_addPart_35 : decode cX10_addPart 35 = .ok (.getfield 163, 3) := by decide +kernel
theorem dX10_addPart_38 : decode cX10_addPart 38 = .ok (.iload 4, 2) := by decide +kernel
theorem dX10_addPart_40 : decode cX10_addPart 40 = .ok (.iastore, 1) := by decide +kernel
theorem dX10_addPart_41 : decode cX10_addPart 41 = .ok (.aload_n 0, 1) := by decide +kernel
theorem dX10_addPart_42 : decode cX10_addPart 42 = .ok (.dup, 1) := by decide +kernel
theorem dX10_addPart_43 : decode cX10_addPart 43 = .ok (.getfield 163, 3) := by decide +kernel
theorem dX10_addPart_46 : decode cX10_addPart 46 = .ok (.iconst 1, 1) := by decide +kernel
theorem dX10_addPart_47 : decode cX10_addPart 47 = .ok (.iadd, 1) := by decide +kernel
theorem dX10_addPart_48 : decode cX10_addPart 48 = .ok (.putfield 163, 3) := by decide +kernel
theorem dX10_addPart_51 : decode cX10_addPart 51 = .ok (.return_, 1) := by decide +kernel
theorem dX10_readCount_0 : decode cX10_readCount 0 = .ok (.aload_n 0, 1) := by decide +kernel
theorem dX10_readCount_1 : decode cX10_readCount 1 = .ok (.bipush 40, 2) := by decide +kernel
theorem dX10_readCount_3 : decode cX10_readCount 3 = .ok (.invokevirtual 188, 3) := by decide +kernel
theorem dX10_readCount_6 : decode cX10_readCount 6 = .ok (.aload_n 0, 1) := by decide +kernel
theorem dX10_readCount_7 : decode cX10_readCount 7 = .ok (.invokevirtual 192, 3) := by decide +kernel
theorem dX10_readCount_10 : decode cX10_readCount 10 = .ok (.istore_n 2, 1) := by decide +kernel
theorem dX10_readCount_11 : decode cX10_readCount 11 = .ok (.iload_n 2, 1) := by decide +kernel
theorem dX10_readCount_12 : decode cX10_readCount 12 = .ok (.istore_n 3, 1) := by decide +kernel
theorem dX10_readCount_13 : decode cX10_readCount 13 = .ok (.aload_n 0, 1) := by decide +kernel
theorem dX10_readCount_14 : decode cX10_readCount 14 = .ok (.bipush 110, 2) := by decide +kernel
theorem dX10_readCount_16 : decode cX10_readCount 16 = .ok (.invokevirtual 176, 3) := by decide +kernel
theorem dX10_readCount_19 : decode cX10_readCount 19 = .ok (.ifCond .eq 61, 3) := by decide +kernel
theorem dX10_readCount_22 : decode cX10_readCount 22 = .ok (.aload_n 0, 1) := by decide +kernel
theorem dX10_readCount_23 : decode cX10_readCount 23 = .ok (.invokevirtual 172, 3) := by decide +kernel
theorem dX10_readCount_26 : decode cX10_readCount 26 = .ok (.bipush 45, 2) := by decide +kernel
theorem dX10_readCount_28 : decode cX10_readCount 28 = .ok (.if_icmp .ne 7, 3) := by decide +kernel
theorem dX10_readCount_31 : decode cX10_readCount 31 = .ok (.iconst 1, 1) := by decide +kernel
theorem dX10_readCount_32 : decode cX10_readCount 32 = .ok (.goto 4, 3) := by decide +kernel
theorem dX10_readCount_35 : decode cX10_readCount 35 = .ok (.iconst 0, 1) := by decide +kernel
theorem dX10_readCount_36 : decode cX10_readCount 36 = .ok (.istore 4, 2) := by decide +kernel
theorem dX10_readCount_38 : decode cX10_readCount 38 = .ok (.aload_n 0, 1) := by decide +kernel
theorem dX10_readCount_39 : decode cX10_readCount 39 = .ok (.bipush 43, 2) := by decide +kernel
theorem dX10_readCount_41 : decode cX10_readCount 41 = .ok (.invokevirtual 176, 3) := by decide +kernel
theorem dX10_readCount_44 : decode cX10_readCount 44 = .ok (.ifCond .ne 12, 3) := by decide +kernel
theorem dX10_readCount_47 : decode cX10_readCount 47 = .ok (.aload_n 0, 1) := by decide +kernel
theorem dX10_readCount_48 : decode cX10_readCount 48 = .ok (.bipush 45, 2) := by decide +kernel
theorem dX10_readCount_50 : decode cX10_readCount 50 = .ok (.invokevirtual 176, 3) := by decide +kernel
theorem dX10_readCount_53 : decode cX10_readCount 53 = .ok (.ifCond .eq 10, 3) := by decide +kernel
theorem dX10_readCount_56 : decode cX10_readCount 56 = .ok (.aload_n 0, 1) := by decide +kernel
theorem dX10_readCount_57 : decode cX10_readCount 57 = .ok (.invokevirtual 192, 3) := by decide +kernel
theorem dX10_readCount_60 : decode cX10_readCount 60 = .ok (.goto 4, 3) := by decide +kernel
theorem dX10_readCount_63 : decode cX10_readCount 63 = .ok (.iconst 0, 1) := by decide +kernel
theorem dX10_readCount_64 : decode cX10_readCount 64 = .ok (.istore_n 3, 1) := by decide +kernel
theorem dX10_readCount_65 : decode cX10_readCount 65 = .ok (.iload 4, 2) := by decide +kernel
theorem dX10_readCount_67 : decode cX10_readCount 67 = .ok (.ifCond .eq 8, 3) := by decide +kernel
theorem dX10_readCount_70 : decode cX10_readCount 70 = .ok (.iload_n 3, 1) := by decide +kernel
theorem dX10_readCount_71 : decode cX10_readCount 71 = .ok (.ineg, 1) := by decide +kernel
theorem dX10_readCount_72 : decode cX10_readCount 72 = .ok (.goto 4, 3) := by decide +kernel
theorem dX10_readCount_75 : decode cX10_readCount 75 = .ok (.iload_n 3, 1) := by decide +kernel
theorem dX10_readCount_76 : decode cX10_readCount 76 = .ok (.istore_n 3, 1) := by decide +kernel
theorem dX10_readCount_77 : decode cX10_readCount 77 = .ok (.goto 5, 3) := by decide +kernel
theorem dX10_readCount_80 : decode cX10_readCount 80 = .ok (.iconst 0, 1) := by decide +kernel
theorem dX10_readCount_81 : decode cX10_readCount 81 = .ok (.istore_n 2, 1) := by decide +kernel
theorem dX10_readCount_82 : decode cX10_readCount 82 = .ok (.aload_n 0, 1) := by decide +kernel
theorem dX10_readCount_83 : decode cX10_readCount 83 = .ok (.bipush 41, 2) := by decide +kernel
theorem dX10_readCount_85 : decode cX10_readCount 85 = .ok (.invokevirtual 188, 3) := by decide +kernel
theorem dX10_readCount_88 : decode cX10_readCount 88 = .ok (.aload_n 0, 1) := by decide +kernel
theorem dX10_readCount_89 : decode cX10_readCount 89 = .ok (.iload_n 1, 1) := by decide +kernel
theorem dX10_readCount_90 : decode cX10_readCount 90 = .ok (.bipush 6, 2) := by decide +kernel
theorem dX10_readCount_92 : decode cX10_readCount 92 = .ok (.iload_n 2, 1) := by decide +kernel
theorem dX10_readCount_93 : decode cX10_readCount 93 = .ok (.iload_n 3, 1) := by decide +kernel
theorem dX10_readCount_94 : decode cX10_readCount 94 = .ok (.invokevirtual 196, 3) := by decide +kernel
theorem dX10_readCount_97 : decode cX10_readCount 97 = .ok (.return_, 1) := by decide +kernel
theorem dX10_readHead_0 : decode cX10_readHead 0 = .ok (.aload_n 0, 1) := by decide +kernel
theorem dX10_readHead_1 : decode cX10_readHead 1 = .ok (.bipush 42, 2) := by decide +kernel
theorem dX10_readHead_3 : decode cX10_readHead 3 = .ok (.invokevirtual 176, 3) := by decide +kernel
theorem dX10_readHead_6 : decode cX10_readHead 6 = .ok (.istore_n 2, 1) := by decide +kernel
theorem dX10_readHead_7 : decode cX10_readHead 7 = .ok (.iload_n 2, 1) := by decide +kernel
theorem dX10_readHead_8 : decode cX10_readHead 8 = .ok (.ifCond .eq 11, 3) := by decide +kernel
theorem dX10_readHead_11 : decode cX10_readHead 11 = .ok (.aload_n 0, 1) := by decide +kernel
theorem dX10_readHead_12 : decode cX10_readHead 12 = .ok (.iload_n 1, 1) := by decide +kernel
theorem dX10_readHead_13 : decode cX10_readHead 13 = .ok (.iconst 0, 1) := by decide +kernel
theorem dX10_readHead_14 : decode cX10_readHead 14 = .ok (.iconst 0, 1) := by decide +kernel
theorem dX10_readHead_15 : decode cX10_readHead 15 = .ok (.iconst 0, 1) := by decide +kernel
theorem dX10_readHead_16 : decode cX10_readHead 16 = .ok (.invokevirtual 196, 3) := by decide +kernel
theorem dX10_readHead_19 : decode cX10_readHead 19 = .ok (.iload_n 2, 1) := by decide +kernel
theorem dX10_readHead_20 : decode cX10_readHead 20 = .ok (.ifCond .ne 21, 3) := by decide +kernel
theorem dX10_readHead_23 : decode cX10_readHead 23 = .ok (.aload_n 0, 1) := by decide +kernel
theorem dX10_readHead_24 : decode cX10_readHead 24 = .ok (.invokevirtual 172, 3) := by decide +kernel
theorem dX10_readHead_27 : decode cX10_readHead 27 = .ok (.bipush 97, 2) := by decide +kernel
theorem dX10_readHead_29 : decode cX10_readHead 29 = .ok (.bipush 122, 2) := by decide +kernel
theorem dX10_readHead_31 : decode cX10_readHead 31 = .ok (.invokestatic 140, 3) := by decide +kernel
theorem dX10_readHead_34 : decode cX10_readHead 34 = .ok (.ifCond .ne 7, 3) := by decide +kernel
theorem dX10_readHead_37 : decode cX10_readHead 37 = .ok (.iconst 1, 1) := by decide +kernel
theorem dX10_readHead_38 : decode cX10_readHead 38 = .ok (.goto 4, 3) := by decide +kernel
theorem dX10_readHead_41 : decode cX10_readHead 41 = .ok (.iconst 0, 1) := by decide +kernel
theorem dX10_readHead_42 : decode cX10_readHead 42 = .ok (.istore_n 3, 1) := by decide +kernel
theorem dX10_readHead_43 : decode cX10_readHead 43 = .ok (.iload_n 3, 1) := by decide +kernel
theorem dX10_readHead_44 : decode cX10_readHead 44 = .ok (.ifCond .eq 16, 3) := by decide +kernel
theorem dX10_readHead_47 : decode cX10_readHead 47 = .ok (.aload_n 0, 1) := by decide +kernel
theorem dX10_readHead_48 : decode cX10_readHead 48 = .ok (.iload_n 1, 1) := by decide +kernel
theorem dX10_readHead_49 : decode cX10_readHead 49 = .ok (.iconst 1, 1) := by decide +kernel
theorem dX10_readHead_50 : decode cX10_readHead 50 = .ok (.aload_n 0, 1) := by decide +kernel
theorem dX10_readHead_51 : decode cX10_readHead 51 = .ok (.bipush 122, 2) := by decide +kernel
theorem dX10_readHead_53 : decode cX10_readHead 53 = .ok (.invokevirtual 200, 3) := by decide +kernel
theorem dX10_readHead_56 : decode cX10_readHead 56 = .ok (.iconst 0, 1) := by decide +kernel
theorem dX10_readHead_57 : decode cX10_readHead 57 = .ok (.invokevirtual 196, 3) := by decide +kernel
theorem dX10_readHead_60 : decode cX10_readHead 60 = .ok (.iload_n 2, 1) := by decide +kernel
theorem dX10_readHead_61 : decode cX10_readHead 61 = .ok (.ifCond .ne 7, 3) := by decide +kernel
theorem dX10_readHead_64 : decode cX10_readHead 64 = .ok (.iload_n 3, 1) := by decide +kernel
theorem dX10_readHead_65 : decode cX10_readHead 65 = .ok (.ifCond .eq 7, 3) := by decide +kernel
theorem dX10_readHead_68 : decode cX10_readHead 68 = .ok (.iconst 1, 1) := by decide +kernel
theorem dX10_readHead_69 : decode cX10_readHead 69 = .ok (.goto 4, 3) := by decide +kernel
theorem dX10_readHead_72 : decode cX10_readHead 72 = .ok (.iconst 0, 1) := by decide +kernel
theorem dX10_readHead_73 : decode cX10_readHead 73 = .ok (.ireturn, 1) := by decide +kernel
theorem dX10_beginsPart_0 : decode cX10_beginsPart 0 = .ok (.aload_n 0, 1) := by decide +kernel
theorem dX10_beginsPart_1 : decode cX10_beginsPart 1 = .ok (.invokevirtual 172, 3) := by decide +kernel
theorem dX10_beginsPart_4 : decode cX10_beginsPart 4 = .ok (.bipush 35, 2) := by decide +kernel
theorem dX10_beginsPart_6 : decode cX10_beginsPart 6 = .ok (.if_icmp .eq 21, 3) := by decide +kernel
theorem dX10_beginsPart_9 : decode cX10_beginsPart 9 = .ok (.aload_n 0, 1) := by decide +kernel
theorem dX10_beginsPart_10 : decode cX10_beginsPart 10 = .ok (.invokevirtual 172, 3) := by decide +kernel
theorem dX10_beginsPart_13 : decode cX10_beginsPart 13 = .ok (.bipush 46, 2) := by decide +kernel
theorem dX10_beginsPart_15 : decode cX10_beginsPart 15 = .ok (.if_icmp .eq 12, 3) := by decide +kernel
theorem dX10_beginsPart_18 : decode cX10_beginsPart 18 = .ok (.aload_n 0, 1) := by decide +kernel
theorem dX10_beginsPart_19 : decode cX10_beginsPart 19 = .ok (.invokevirtual 172, 3) := by decide +kernel
theorem dX10_beginsPart_22 : decode cX10_beginsPart 22 = .ok (.bipush 58, 2) := by decide +kernel
theorem dX10_beginsPart_24 : decode cX10_beginsPart 24 = .ok (.if_icmp .ne 7, 3) := by decide +kernel
theorem dX10_beginsPart_27 : decode cX10_beginsPart 27 = .ok (.iconst 1, 1) := by decide +kernel
theorem dX10_beginsPart_28 : decode cX10_beginsPart 28 = .ok (.goto 4, 3) := by decide +kernel
theorem dX10_beginsPart_31 : decode cX10_beginsPart 31 = .ok (.iconst 0, 1) := by decide +kernel
theorem dX10_beginsPart_32 : decode cX10_beginsPart 32 = .ok (.ireturn, 1) := by decide +kernel
theorem dX10_readPart_0 : decode cX10_readPart 0 = .ok (.aload_n 0, 1) := by decide +kernel
theorem dX10_readPart_1 : decode cX10_readPart 1 = .ok (.invokevirtual 172, 3) := by decide +kernel
theorem dX10_readPart_4 : decode cX10_readPart 4 = .ok (.istore_n 2, 1) := by decide +kernel
theorem dX10_readPart_5 : decode cX10_readPart 5 = .ok (.aload_n 0, 1) := by decide +kernel
theorem dX10_readPart_6 : decode cX10_readPart 6 = .ok (.dup, 1) := by decide +kernel
theorem dX10_readPart_7 : decode cX10_readPart 7 = .ok (.getfield 147, 3) := by decide +kernel
theorem dX10_readPart_10 : decode cX10_readPart 10 = .ok (.iconst 1, 1) := by decide +kernel
theorem dX10_readPart_11 : decode cX10_readPart 11 = .ok (.iadd, 1) := by decide +kernel
theorem dX10_readPart_12 : decode cX10_readPart 12 = .ok (.putfield 147, 3) := by decide +kernel
theorem dX10_readPart_15 : decode cX10_readPart 15 = .ok (.iload_n 2, 1) := by decide +kernel
theorem dX10_readPart_16 : decode cX10_readPart 16 = .ok (.bipush 35, 2) := by decide +kernel
theorem dX10_readPart_18 : decode cX10_readPart 18 = .ok (.if_icmp .ne 19, 3) := by decide +kernel
theorem dX10_readPart_21 : decode cX10_readPart 21 = .ok (.aload_n 0, 1) := by decide +kernel
theorem dX10_readPart_22 : decode cX10_readPart 22 = .ok (.iload_n 1, 1) := by decide +kernel
theorem dX10_readPart_23 : decode cX10_readPart 23 = .ok (.iconst 2, 1) := by decide +kernel
theorem dX10_readPart_24 : decode cX10_readPart 24 = .ok (.aload_n 0, 1) := by decide +kernel
theorem dX10_readPart_25 : decode cX10_readPart 25 = .ok (.bipush 122, 2) := by decide +kernel
theorem dX10_readPart_27 : decode cX10_readPart 27 = .ok (.invokevirtual 200, 3) := by decide +kernel
theorem dX10_readPart_30 : decode cX10_readPart 30 = .ok (.iconst 0, 1) := by decide +kernel
theorem dX10_readPart_31 : decode cX10_readPart 31 = .ok (.invokevirtual 196, 3) := by decide +kernel
theorem dX10_readPart_34 : decode cX10_readPart 34 = .ok (.goto 122, 3) := by decide +kernel
theorem dX10_readPart_37 : decode cX10_readPart 37 = .ok (.iload_n 2, 1) := by decide +kernel
theorem dX10_readPart_38 : decode cX10_readPart 38 = .ok (.bipush 46, 2) := by decide +kernel
theorem dX10_readPart_40 : decode cX10_readPart 40 = .ok (.if_icmp .ne 24, 3) := by decide +kernel
theorem dX10_readPart_43 : decode cX10_readPart 43 = .ok (.aload_n 0, 1) := by decide +kernel
theorem dX10_readPart_44 : decode cX10_readPart 44 = .ok (.iload_n 1, 1) := by decide +kernel
theorem dX10_readPart_45 : decode cX10_readPart 45 = .ok (.iconst 3, 1) := by decide +kernel
theorem dX10_readPart_46 : decode cX10_readPart 46 = .ok (.iconst 1, 1) := by decide +kernel
theorem dX10_readPart_47 : decode cX10_readPart 47 = .ok (.aload_n 0, 1) := by decide +kernel
theorem dX10_readPart_48 : decode cX10_readPart 48 = .ok (.bipush 104, 2) := by decide +kernel
theorem dX10_readPart_50 : decode cX10_readPart 50 = .ok (.invokevirtual 200, 3) := by decide +kernel
theorem dX10_readPart_53 : decode cX10_readPart 53 = .ok (.bipush 97, 2) := by decide +kernel
theorem dX10_readPart_55 : decode cX10_readPart 55 = .ok (.isub, 1) := by decide +kernel
theorem dX10_readPart_56 : decode cX10_readPart 56 = .ok (.ishl, 1) := by decide +kernel
theorem dX10_readPart_57 : decode cX10_readPart 57 = .ok (.iconst 0, 1) := by decide +kernel
theorem dX10_readPart_58 : decode cX10_readPart 58 = .ok (.invokevirtual 196, 3) := by decide +kernel
theorem dX10_readPart_61 : decode cX10_readPart 61 = .ok (.goto 95, 3) := by decide +kernel
theorem dX10_readPart_64 : decode cX10_readPart 64 = .ok (.aload_n 0, 1) := by decide +kernel
theorem dX10_readPart_65 : decode cX10_readPart 65 = .ok (.bipush 122, 2) := by decide +kernel
theorem dX10_readPart_67 : decode cX10_readPart 67 = .ok (.invokevirtual 200, 3) := by decide +kernel
theorem dX10_readPart_70 : decode cX10_readPart 70 = .ok (.istore_n 3, 1) := by decide +kernel
theorem dX10_readPart_71 : decode cX10_readPart 71 = .ok (.iload_n 3, 1) := by decide +kernel
theorem dX10_readPart_72 : decode cX10_readPart 72 = .ok (.bipush 110, 2) := by decide +kernel
theorem dX10_readPart_74 : decode cX10_readPart 74 = .ok (.if_icmp .ne 11, 3) := by decide +kernel
theorem dX10_readPart_77 : decode cX10_readPart 77 = .ok (.aload_n 0, 1) := by decide +kernel
theorem dX10_readPart_78 : decode cX10_readPart 78 = .ok (.iload_n 1, 1) := by decide +kernel
theorem dX10_readPart_79 : decode cX10_readPart 79 = .ok (.invokevirtual 204, 3) := by decide +kernel
theorem dX10_readPart_82 : decode cX10_readPart 82 = .ok (.goto 55, 3) := by decide +kernel
theorem dX10_readPart_85 : decode cX10_readPart 85 = .ok (.iload_n 3, 1) := by decide +kernel
theorem dX10_readPart_86 : decode cX10_readPart 86 = .ok (.bipush 102, 2) := by decide +kernel
theorem dX10_readPart_88 : decode cX10_readPart 88 = .ok (.if_icmp .eq 9, 3) := by decide +kernel
theorem dX10_readPart_91 : decode cX10_readPart 91 = .ok (.iload_n 3, 1) := by decide +kernel
theorem dX10_readPart_92 : decode cX10_readPart 92 = .ok (.bipush 108, 2) := by decide +kernel
theorem dX10_readPart_94 : decode cX10_readPart 94 = .ok (.if_icmp .ne 24, 3) := by decide +kernel
theorem dX10_readPart_97 : decode cX10_readPart 97 = .ok (.aload_n 0, 1) := by decide +kernel
theorem dX10_readPart_98 : decode cX10_readPart 98 = .ok (.iload_n 1, 1) := by decide +kernel
theorem dX10_readPart_99 : decode cX10_readPart 99 = .ok (.iload_n 3, 1) := by decide +kernel
theorem dX10_readPart_100 : decode cX10_readPart 100 = .ok (.bipush 102, 2) := by decide +kernel
theorem dX10_readPart_102 : decode cX10_readPart 102 = .ok (.if_icmp .ne 7, 3) := by decide +kernel
theorem dX10_readPart_105 : decode cX10_readPart 105 = .ok (.iconst 4, 1) := by decide +kernel
theorem dX10_readPart_106 : decode cX10_readPart 106 = .ok (.goto 4, 3) := by decide +kernel
theorem dX10_readPart_109 : decode cX10_readPart 109 = .ok (.iconst 5, 1) := by decide +kernel
theorem dX10_readPart_110 : decode cX10_readPart 110 = .ok (.iconst 0, 1) := by decide +kernel
theorem dX10_readPart_111 : decode cX10_readPart 111 = .ok (.iconst 0, 1) := by decide +kernel
theorem dX10_readPart_112 : decode cX10_readPart 112 = .ok (.invokevirtual 196, 3) := by decide +kernel
theorem dX10_readPart_115 : decode cX10_readPart 115 = .ok (.goto 22, 3) := by decide +kernel
theorem dX10_readPart_118 : decode cX10_readPart 118 = .ok (.aload_n 0, 1) := by decide +kernel
theorem dX10_readPart_119 : decode cX10_readPart 119 = .ok (.iload_n 3, 1) := by decide +kernel
theorem dX10_readPart_120 : decode cX10_readPart 120 = .ok (.bipush 120, 2) := by decide +kernel
theorem dX10_readPart_122 : decode cX10_readPart 122 = .ok (.if_icmp .ne 11, 3) := by decide +kernel
theorem dX10_readPart_125 : decode cX10_readPart 125 = .ok (.iload_n 1, 1) := by decide +kernel
theorem dX10_readPart_126 : decode cX10_readPart 126 = .ok (.ifCond .ne 7, 3) := by decide +kernel
theorem dX10_readPart_129 : decode cX10_readPart 129 = .ok (.iconst 1, 1) := by decide +kernel
theorem dX10_readPart_130 : decode cX10_readPart 130 = .ok (.goto 4, 3) := by decide +kernel
theorem dX10_readPart_133 : decode cX10_readPart 133 = .ok (.iconst 0, 1) := by decide +kernel
theorem dX10_readPart_134 : decode cX10_readPart 134 = .ok (.invokevirtual 180, 3) := by decide +kernel
theorem dX10_readPart_137 : decode cX10_readPart 137 = .ok (.aload_n 0, 1) := by decide +kernel
theorem dX10_readPart_138 : decode cX10_readPart 138 = .ok (.getfield 153, 3) := by decide +kernel
theorem dX10_readPart_141 : decode cX10_readPart 141 = .ok (.ifCond .eq 13, 3) := by decide +kernel
theorem dX10_readPart_144 : decode cX10_readPart 144 = .ok (.iload_n 3, 1) := by decide +kernel
theorem dX10_readPart_145 : decode cX10_readPart 145 = .ok (.bipush 120, 2) := by decide +kernel
theorem dX10_readPart_147 : decode cX10_readPart 147 = .ok (.if_icmp .ne 7, 3) := by decide +kernel
theorem dX10_readPart_150 : decode cX10_readPart 150 = .ok (.iconst 1, 1) := by decide +kernel
theorem dX10_readPart_151 : decode cX10_readPart 151 = .ok (.goto 4, 3) := by decide +kernel
theorem dX10_readPart_154 : decode cX10_readPart 154 = .ok (.iconst 0, 1) := by decide +kernel
theorem dX10_readPart_155 : decode cX10_readPart 155 = .ok (.ireturn, 1) := by decide +kernel
theorem dX10_readPart_156 : decode cX10_readPart 156 = .ok (.iconst 0, 1) := by decide +kernel
theorem dX10_readPart_157 : decode cX10_readPart 157 = .ok (.ireturn, 1) := by decide +kernel
theorem dX10_readInner_0 : decode cX10_readInner 0 = .ok (.aload_n 0, 1) := by decide +kernel
theorem dX10_readInner_1 : decode cX10_readInner 1 = .ok (.dup, 1) := by decide +kernel
theorem dX10_readInner_2 : decode cX10_readInner 2 = .ok (.getfield 208, 3) := by decide +kernel
theorem dX10_readInner_5 : decode cX10_readInner 5 = .ok (.iconst 1, 1) := by decide +kernel
theorem dX10_readInner_6 : decode cX10_readInner 6 = .ok (.iadd, 1) := by decide +kernel
theorem dX10_readInner_7 : decode cX10_readInner 7 = .ok (.putfield 208, 3) := by decide +kernel
theorem dX10_readInner_10 : decode cX10_readInner 10 = .ok (.aload_n 0, 1) := by decide +kernel
theorem dX10_readInner_11 : decode cX10_readInner 11 = .ok (.bipush 40, 2) := by decide +kernel
theorem dX10_readInner_13 : decode cX10_readInner 13 = .ok (.invokevirtual 188, 3) := by decide +kernel
theorem dX10_readInner_16 : decode cX10_readInner 16 = .ok (.aload_n 0, 1) := by decide +kernel
theorem dX10_readInner_17 : decode cX10_readInner 17 = .ok (.aload_n 0, 1) := by decide +kernel
theorem dX10_readInner_18 : decode cX10_readInner 18 = .ok (.getfield 208, 3) := by decide +kernel
theorem dX10_readInner_21 : decode cX10_readInner 21 = .ok (.invokevirtual 211, 3) := by decide +kernel
theorem dX10_readInner_24 : decode cX10_readInner 24 = .ok (.ifCond .eq 7, 3) := by decide +kernel
theorem dX10_readInner_27 : decode cX10_readInner 27 = .ok (.iconst 1, 1) := by decide +kernel
theorem dX10_readInner_28 : decode cX10_readInner 28 = .ok (.goto 4, 3) := by decide +kernel
theorem dX10_readInner_31 : decode cX10_readInner 31 = .ok (.iconst 0, 1) := by decide +kernel
theorem dX10_readInner_32 : decode cX10_readInner 32 = .ok (.istore_n 1, 1) := by decide +kernel
theorem dX10_readInner_33 : decode cX10_readInner 33 = .ok (.iconst 0, 1) := by decide +kernel
theorem dX10_readInner_34 : decode cX10_readInner 34 = .ok (.istore_n 2, 1) := by decide +kernel
theorem dX10_readInner_35 : decode cX10_readInner 35 = .ok (.aload_n 0, 1) := by decide +kernel
theorem dX10_readInner_36 : decode cX10_readInner 36 = .ok (.getfield 153, 3) := by decide +kernel
theorem dX10_readInner_39 : decode cX10_readInner 39 = .ok (.ifCond .eq 49, 3) := by decide +kernel
theorem dX10_readInner_42 : decode cX10_readInner 42 = .ok (.aload_n 0, 1) := by decide +kernel
theorem dX10_readInner_43 : decode cX10_readInner 43 = .ok (.invokevirtual 215, 3) := by decide +kernel
theorem dX10_readInner_46 : decode cX10_readInner 46 = .ok (.ifCond .eq 42, 3) := by decide +kernel
theorem dX10_readInner_49 : decode cX10_readInner 49 = .ok (.aload_n 0, 1) := by decide +kernel
theorem dX10_readInner_50 : decode cX10_readInner 50 = .ok (.iload_n 2, 1) := by decide +kernel
theorem dX10_readInner_51 : decode cX10_readInner 51 = .ok (.iconst 4, 1) := by decide +kernel
theorem dX10_readInner_52 : decode cX10_readInner 52 = .ok (.if_icmp .ge 7, 3) := by decide +kernel
theorem dX10_readInner_55 : decode cX10_readInner 55 = .ok (.iconst 1, 1) := by decide +kernel
theorem dX10_readInner_56 : decode cX10_readInner 56 = .ok (.goto 4, 3) := by decide +kernel
theorem dX10_readInner_59 : decode cX10_readInner 59 = .ok (.iconst 0, 1) := by decide +kernel
theorem dX10_readInner_60 : decode cX10_readInner 60 = .ok (.invokevirtual 180, 3) := by decide +kernel
theorem dX10_readInner_63 : decode cX10_readInner 63 = .ok (.aload_n 0, 1) := by decide +kernel
theorem dX10_readInner_64 : decode cX10_readInner 64 = .ok (.getfield 153, 3) := by decide +kernel
theorem dX10_readInner_67 : decode cX10_readInner 67 = .ok (.ifCond .eq 12, 3) := by decide +kernel
theorem dX10_readInner_70 : decode cX10_readInner 70 = .ok (.aload_n 0, 1) := by decide +kernel
theorem dX10_readInner_71 : decode cX10_readInner 71 = .ok (.aload_n 0, 1) := by decide +kernel
theorem dX10_readInner_72 : decode cX10_readInner 72 = .ok (.getfield 208, 3) := by decide +kernel
theorem dX10_readInner_75 : decode cX10_readInner 75 = .ok (.invokevirtual 218, 3) := by decide +kernel
theorem dX10_readInner_78 : decode cX10_readInner 78 = .ok (.pop, 1) := by decide +kernel
theorem dX10_readInner_79 : decode cX10_readInner 79 = .ok (.iinc 1 1, 3) := by decide +kernel
theorem dX10_readInner_82 : decode cX10_readInner 82 = .ok (.iinc 2 1, 3) := by decide +kernel
theorem dX10_readInner_85 : decode cX10_readInner 85 = .ok (.goto (-50), 3) := by decide +kernel
theorem dX10_readInner_88 : decode cX10_readInner 88 = .ok (.aload_n 0, 1) := by decide +kernel
theorem dX10_readInner_89 : decode cX10_readInner 89 = .ok (.iload_n 1, 1) := by decide +kernel
theorem dX10_readInner_90 : decode cX10_readInner 90 = .ok (.ifCond .le 7, 3) := by decide +kernel
theorem dX10_readInner_93 : decode cX10_readInner 93 = .ok (.iconst 1, 1) := by decide +kernel
theorem dX10_readInner_94 : decode cX10_readInner 94 = .ok (.goto 4, 3) := by decide +kernel
theorem dX10_readInner_97 : decode cX10_readInner 97 = .ok (.iconst 0, 1) := by decide +kernel
theorem dX10_readInner_98 : decode cX10_readInner 98 = .ok (.invokevirtual 180, 3) := by decide +kernel
theorem dX10_readInner_101 : decode cX10_readInner 101 = .ok (.aload_n 0, 1) := by decide +kernel
theorem dX10_readInner_102 : decode cX10_readInner 102 = .ok (.bipush 41, 2) := by decide +kernel
theorem dX10_readInner_104 : decode cX10_readInner 104 = .ok (.invokevirtual 188, 3) := by decide +kernel
theorem dX10_readInner_107 : decode cX10_readInner 107 = .ok (.return_, 1) := by decide +kernel
theorem dX10_readCompound_0 : decode cX10_readCompound 0 = .ok (.aload_n 0, 1) := by decide +kernel
theorem dX10_readCompound_1 : decode cX10_readCompound 1 = .ok (.getfield 41, 3) := by decide +kernel
theorem dX10_readCompound_4 : decode cX10_readCompound 4 = .ok (.aload_n 0, 1) := by decide +kernel
theorem dX10_readCompound_5 : decode cX10_readCompound 5 = .ok (.getfield 160, 3) := by decide +kernel
theorem dX10_readCompound_8 : decode cX10_readCompound 8 = .ok (.iload_n 1, 1) := by decide +kernel
theorem dX10_readCompound_9 : decode cX10_readCompound 9 = .ok (.castore, 1) := by decide +kernel
theorem dX10_readCompound_10 : decode cX10_readCompound 10 = .ok (.aload_n 0, 1) := by decide +kernel
theorem dX10_readCompound_11 : decode cX10_readCompound 11 = .ok (.getfield 44, 3) := by decide +kernel
theorem dX10_readCompound_14 : decode cX10_readCompound 14 = .ok (.aload_n 0, 1) := by decide +kernel
theorem dX10_readCompound_15 : decode cX10_readCompound 15 = .ok (.getfield 160, 3) := by decide +kernel
theorem dX10_readCompound_18 : decode cX10_readCompound 18 = .ok (.aload_n 0, 1) := by decide +kernel
theorem dX10_readCompound_19 : decode cX10_readCompound 19 = .ok (.getfield 163, 3) := by decide +kernel
theorem dX10_readCompound_22 : decode cX10_readCompound 22 = .ok (.iastore, 1) := by decide +kernel
theorem dX10_readCompound_23 : decode cX10_readCompound 23 = .ok (.aload_n 0, 1) := by decide +kernel
theorem dX10_readCompound_24 : decode cX10_readCompound 24 = .ok (.dup, 1) := by decide +kernel
theorem dX10_readCompound_25 : decode cX10_readCompound 25 = .ok (.getfield 160, 3) := by decide +kernel
theorem dX10_readCompound_28 : decode cX10_readCompound 28 = .ok (.iconst 1, 1) := by decide +kernel
theorem dX10_readCompound_29 : decode cX10_readCompound 29 = .ok (.iadd, 1) := by decide +kernel
theorem dX10_readCompound_30 : decode cX10_readCompound 30 = .ok (.putfield 160, 3) := by decide +kernel
theorem dX10_readCompound_33 : decode cX10_readCompound 33 = .ok (.aload_n 0, 1) := by decide +kernel
theorem dX10_readCompound_34 : decode cX10_readCompound 34 = .ok (.iconst 0, 1) := by decide +kernel
theorem dX10_readCompound_35 : decode cX10_readCompound 35 = .ok (.putfield 208, 3) := by decide +kernel
theorem dX10_readCompound_38 : decode cX10_readCompound 38 = .ok (.aload_n 0, 1) := by decide +kernel
theorem dX10_readCompound_39 : decode cX10_readCompound 39 = .ok (.iconst 0, 1) := by decide +kernel
theorem dX10_readCompound_40 : decode cX10_readCompound 40 = .ok (.invokevirtual 211, 3) := by decide +kernel
theorem dX10_readCompound_43 : decode cX10_readCompound 43 = .ok (.ifCond .eq 7, 3) := by decide +kernel
theorem dX10_readCompound_46 : decode cX10_readCompound 46 = .ok (.iconst 1, 1) := by decide +kernel
theorem dX10_readCompound_47 : decode cX10_readCompound 47 = .ok (.goto 4, 3) := by decide +kernel
theorem dX10_readCompound_50 : decode cX10_readCompound 50 = .ok (.iconst 0, 1) := by decide +kernel
theorem dX10_readCompound_51 : decode cX10_readCompound 51 = .ok (.istore_n 2, 1) := by decide +kernel
theorem dX10_readCompound_52 : decode cX10_readCompound 52 = .ok (.iconst 0, 1) := by decide +kernel
theorem dX10_readCompound_53 : decode cX10_readCompound 53 = .ok (.istore_n 3, 1) := by decide +kernel
theorem dX10_readCompound_54 : decode cX10_readCompound 54 = .ok (.aload_n 0, 1) := by decide +kernel
theorem dX10_readCompound_55 : decode cX10_readCompound 55 = .ok (.getfield 153, 3) := by decide +kernel
theorem dX10_readCompound_58 : decode cX10_readCompound 58 = .ok (.ifCond .eq 52, 3) := by decide +kernel
theorem dX10_readCompound_61 : decode cX10_readCompound 61 = .ok (.aload_n 0, 1) := by decide +kernel
theorem dX10_readCompound_62 : decode cX10_readCompound 62 = .ok (.invokevirtual 215, 3) := by decide +kernel
theorem dX10_readCompound_65 : decode cX10_readCompound 65 = .ok (.ifCond .eq 45, 3) := by decide +kernel
theorem dX10_readCompound_68 : decode cX10_readCompound 68 = .ok (.aload_n 0, 1) := by decide +kernel
theorem dX10_readCompound_69 : decode cX10_readCompound 69 = .ok (.iload_n 3, 1) := by decide +kernel
theorem dX10_readCompound_70 : decode cX10_readCompound 70 = .ok (.iconst 4, 1) := by decide +kernel
theorem dX10_readCompound_71 : decode cX10_readCompound 71 = .ok (.if_icmp .ge 7, 3) := by decide +kernel
theorem dX10_readCompound_74 : decode cX10_readCompound 74 = .ok (.iconst 1, 1) := by decide +kernel
theorem dX10_readCompound_75 : decode cX10_readCompound 75 = .ok (.goto 4, 3) := by decide +kernel
theorem dX10_readCompound_78 : decode cX10_readCompound 78 = .ok (.iconst 0, 1) := by decide +kernel
theorem dX10_readCompound_79 : decode cX10_readCompound 79 = .ok (.invokevirtual 180, 3) := by decide +kernel
theorem dX10_readCompound_82 : decode cX10_readCompound 82 = .ok (.aload_n 0, 1) := by decide +kernel
theorem dX10_readCompound_83 : decode cX10_readCompound 83 = .ok (.getfield 153, 3) := by decide +kernel
theorem dX10_readCompound_86 : decode cX10_readCompound 86 = .ok (.ifCond .eq 15, 3) := by decide +kernel
theorem dX10_readCompound_89 : decode cX10_readCompound 89 = .ok (.aload_n 0, 1) := by decide +kernel
theorem dX10_readCompound_90 : decode cX10_readCompound 90 = .ok (.iconst 0, 1) := by decide +kernel
theorem dX10_readCompound_91 : decode cX10_readCompound 91 = .ok (.invokevirtual 218, 3) := by decide +kernel
theorem dX10_readCompound_94 : decode cX10_readCompound 94 = .ok (.ifCond .eq 7, 3) := by decide +kernel
theorem dX10_readCompound_97 : decode cX10_readCompound 97 = .ok (.aload_n 0, 1) := by decide +kernel
theorem dX10_readCompound_98 : decode cX10_readCompound 98 = .ok (.invokevirtual 221, 3) := by decide +kernel
theorem dX10_readCompound_101 : decode cX10_readCompound 101 = .ok (.iinc 2 1, 3) := by decide +kernel
theorem dX10_readCompound_104 : decode cX10_readCompound 104 = .ok (.iinc 3 1, 3) := by decide +kernel
theorem dX10_readCompound_107 : decode cX10_readCompound 107 = .ok (.goto (-53), 3) := by decide +kernel
theorem dX10_readCompound_110 : decode cX10_readCompound 110 = .ok (.aload_n 0, 1) := by decide +kernel
theorem dX10_readCompound_111 : decode cX10_readCompound 111 = .ok (.iload_n 2, 1) := by decide +kernel
theorem dX10_readCompound_112 : decode cX10_readCompound 112 = .ok (.ifCond .le 7, 3) := by decide +kernel
theorem dX10_readCompound_115 : decode cX10_readCompound 115 = .ok (.iconst 1, 1) := by decide +kernel
theorem dX10_readCompound_116 : decode cX10_readCompound 116 = .ok (.goto 4, 3) := by decide +kernel
theorem dX10_readCompound_119 : decode cX10_readCompound 119 = .ok (.iconst 0, 1) := by decide +kernel
theorem dX10_readCompound_120 : decode cX10_readCompound 120 = .ok (.invokevirtual 180, 3) := by decide +kernel
theorem dX10_readCompound_123 : decode cX10_readCompound 123 = .ok (.aload_n 0, 1) := by decide +kernel
theorem dX10_readCompound_124 : decode cX10_readCompound 124 = .ok (.getfield 44, 3) := by decide +kernel
theorem dX10_readCompound_127 : decode cX10_readCompound 127 = .ok (.aload_n 0, 1) := by decide +kernel
theorem dX10_readCompound_128 : decode cX10_readCompound 128 = .ok (.getfield 160, 3) := by decide +kernel
theorem dX10_readCompound_131 : decode cX10_readCompound 131 = .ok (.aload_n 0, 1) := by decide +kernel
theorem dX10_readCompound_132 : decode cX10_readCompound 132 = .ok (.getfield 163, 3) := by decide +kernel
theorem dX10_readCompound_135 : decode cX10_readCompound 135 = .ok (.iastore, 1) := by decide +kernel
theorem dX10_readCompound_136 : decode cX10_readCompound 136 = .ok (.return_, 1) := by decide +kernel
theorem dX10_readSelector_0 : decode cX10_readSelector 0 = .ok (.iconst 1, 1) := by decide +kernel
theorem dX10_readSelector_1 : decode cX10_readSelector 1 = .ok (.istore_n 1, 1) := by decide +kernel
theorem dX10_readSelector_2 : decode cX10_readSelector 2 = .ok (.aload_n 0, 1) := by decide +kernel
theorem dX10_readSelector_3 : decode cX10_readSelector 3 = .ok (.iconst 0, 1) := by decide +kernel
theorem dX10_readSelector_4 : decode cX10_readSelector 4 = .ok (.invokevirtual 224, 3) := by decide +kernel
theorem dX10_readSelector_7 : decode cX10_readSelector 7 = .ok (.aload_n 0, 1) := by decide +kernel
theorem dX10_readSelector_8 : decode cX10_readSelector 8 = .ok (.getfield 153, 3) := by decide +kernel
theorem dX10_readSelector_11 : decode cX10_readSelector 11 = .ok (.ifCond .eq 86, 3) := by decide +kernel
theorem dX10_readSelector_14 : decode cX10_readSelector 14 = .ok (.aload_n 0, 1) := by decide +kernel
theorem dX10_readSelector_15 : decode cX10_readSelector 15 = .ok (.invokevirtual 172, 3) := by decide +kernel
theorem dX10_readSelector_18 : decode cX10_readSelector 18 = .ok (.bipush 32, 2) := by decide +kernel
theorem dX10_readSelector_20 : decode cX10_readSelector 20 = .ok (.if_icmp .eq 30, 3) := by decide +kernel
theorem dX10_readSelector_23 : decode cX10_readSelector 23 = .ok (.aload_n 0, 1) := by decide +kernel
theorem dX10_readSelector_24 : decode cX10_readSelector 24 = .ok (.invokevirtual 172, 3) := by decide +kernel
theorem dX10_readSelector_27 : decode cX10_readSelector 27 = .ok (.bipush 62, 2) := by decide +kernel
theorem dX10_readSelector_29 : decode cX10_readSelector 29 = .ok (.if_icmp .eq 21, 3) := by decide +kernel
theorem dX10_readSelector_32 : decode cX10_readSelector 32 = .ok (.aload_n 0, 1) := by decide +kernel
theorem dX10_readSelector_33 : decode cX10_readSelector 33 = .ok (.invokevirtual 172, 3) := by decide +kernel
theorem dX10_readSelector_36 : decode cX10_readSelector 36 = .ok (.bipush 43, 2) := by decide +kernel
theorem dX10_readSelector_38 : decode cX10_readSelector 38 = .ok (.if_icmp .eq 12, 3) := by decide +kernel
theorem dX10_readSelector_41 : decode cX10_readSelector 41 = .ok (.aload_n 0, 1) := by decide +kernel
theorem dX10_readSelector_42 : decode cX10_readSelector 42 = .ok (.invokevirtual 172, 3) := by decide +kernel
theorem dX10_readSelector_45 : decode cX10_readSelector 45 = .ok (.bipush 126, 2) := by decide +kernel
theorem dX10_readSelector_47 : decode cX10_readSelector 47 = .ok (.if_icmp .ne 50, 3) := by decide +kernel
theorem dX10_readSelector_50 : decode cX10_readSelector 50 = .ok (.aload_n 0, 1) := by decide +kernel
theorem dX10_readSelector_51 : decode cX10_readSelector 51 = .ok (.invokevirtual 172, 3) := by decide +kernel
theorem dX10_readSelector_54 : decode cX10_readSelector 54 = .ok (.istore_n 2, 1) := by decide +kernel
theorem dX10_readSelector_55 : decode cX10_readSelector 55 = .ok (.aload_n 0, 1) := by decide +kernel
theorem dX10_readSelector_56 : decode cX10_readSelector 56 = .ok (.dup, 1) := by decide +kernel
theorem dX10_readSelector_57 : decode cX10_readSelector 57 = .ok (.getfield 147, 3) := by decide +kernel
theorem dX10_readSelector_60 : decode cX10_readSelector 60 = .ok (.iconst 1, 1) := by decide +kernel
theorem dX10_readSelector_61 : decode cX10_readSelector 61 = .ok (.iadd, 1) := by decide +kernel
theorem dX10_readSelector_62 : decode cX10_readSelector 62 = .ok (.putfield 147, 3) := by decide +kernel
theorem dX10_readSelector_65 : decode cX10_readSelector 65 = .ok (.iinc 1 1, 3) := by decide +kernel
theorem dX10_readSelector_68 : decode cX10_readSelector 68 = .ok (.aload_n 0, 1) := by decide +kernel
theorem dX10_readSelector_69 : decode cX10_readSelector 69 = .ok (.iload_n 1, 1) := by decide +kernel
theorem dX10_readSelector_70 : decode cX10_readSelector 70 = .ok (.iconst 5, 1) := by decide +kernel
theorem dX10_readSelector_71 : decode cX10_readSelector 71 = .ok (.if_icmp .ge 7, 3) := by decide +kernel
theorem dX10_readSelector_74 : decode cX10_readSelector 74 = .ok (.iconst 1, 1) := by decide +kernel
theorem dX10_readSelector_75 : decode cX10_readSelector 75 = .ok (.goto 4, 3) := by decide +kernel
theorem dX10_readSelector_78 : decode cX10_readSelector 78 = .ok (.iconst 0, 1) := by decide +kernel
theorem dX10_readSelector_79 : decode cX10_readSelector 79 = .ok (.invokevirtual 180, 3) := by decide +kernel
theorem dX10_readSelector_82 : decode cX10_readSelector 82 = .ok (.aload_n 0, 1) := by decide +kernel
theorem dX10_readSelector_83 : decode cX10_readSelector 83 = .ok (.getfield 153, 3) := by decide +kernel
theorem dX10_readSelector_86 : decode cX10_readSelector 86 = .ok (.ifCond .eq 8, 3) := by decide +kernel
theorem dX10_readSelector_89 : decode cX10_readSelector 89 = .ok (.aload_n 0, 1) := by decide +kernel
theorem dX10_readSelector_90 : decode cX10_readSelector 90 = .ok (.iload_n 2, 1) := by decide +kernel
theorem dX10_readSelector_91 : decode cX10_readSelector 91 = .ok (.invokevirtual 224, 3) := by decide +kernel
theorem dX10_readSelector_94 : decode cX10_readSelector 94 = .ok (.goto (-87), 3) := by decide +kernel
theorem dX10_readSelector_97 : decode cX10_readSelector 97 = .ok (.aload_n 0, 1) := by decide +kernel
theorem dX10_readSelector_98 : decode cX10_readSelector 98 = .ok (.getfield 38, 3) := by decide +kernel
theorem dX10_readSelector_101 : decode cX10_readSelector 101 = .ok (.aload_n 0, 1) := by decide +kernel
theorem dX10_readSelector_102 : decode cX10_readSelector 102 = .ok (.getfield 157, 3) := by decide +kernel
theorem dX10_readSelector_105 : decode cX10_readSelector 105 = .ok (.iload_n 1, 1) := by decide +kernel
theorem dX10_readSelector_106 : decode cX10_readSelector 106 = .ok (.iastore, 1) := by decide +kernel
theorem dX10_readSelector_107 : decode cX10_readSelector 107 = .ok (.aload_n 0, 1) := by decide +kernel
theorem dX10_readSelector_108 : decode cX10_readSelector 108 = .ok (.dup, 1) := by decide +kernel
theorem dX10_readSelector_109 : decode cX10_readSelector 109 = .ok (.getfield 157, 3) := by decide +kernel
theorem dX10_readSelector_112 : decode cX10_readSelector 112 = .ok (.iconst 1, 1) := by decide +kernel
theorem dX10_readSelector_113 : decode cX10_readSelector 113 = .ok (.iadd, 1) := by decide +kernel
theorem dX10_readSelector_114 : decode cX10_readSelector 114 = .ok (.putfield 157, 3) := by decide +kernel
theorem dX10_readSelector_117 : decode cX10_readSelector 117 = .ok (.return_, 1) := by decide +kernel
theorem dX10_readSelectors_0 : decode cX10_readSelectors 0 = .ok (.aload_n 0, 1) := by decide +kernel
theorem dX10_readSelectors_1 : decode cX10_readSelectors 1 = .ok (.invokevirtual 227, 3) := by decide +kernel
theorem dX10_readSelectors_4 : decode cX10_readSelectors 4 = .ok (.aload_n 0, 1) := by decide +kernel
theorem dX10_readSelectors_5 : decode cX10_readSelectors 5 = .ok (.getfield 153, 3) := by decide +kernel
theorem dX10_readSelectors_8 : decode cX10_readSelectors 8 = .ok (.ifCond .eq 43, 3) := by decide +kernel
theorem dX10_readSelectors_11 : decode cX10_readSelectors 11 = .ok (.aload_n 0, 1) := by decide +kernel
theorem dX10_readSelectors_12 : decode cX10_readSelectors 12 = .ok (.bipush 44, 2) := by decide +kernel
theorem dX10_readSelectors_14 : decode cX10_readSelectors 14 = .ok (.invokevirtual 176, 3) := by decide +kernel
theorem dX10_readSelectors_17 : decode cX10_readSelectors 17 = .ok (.ifCond .eq 34, 3) := by decide +kernel
theorem dX10_readSelectors_20 : decode cX10_readSelectors 20 = .ok (.aload_n 0, 1) := by decide +kernel
theorem dX10_readSelectors_21 : decode cX10_readSelectors 21 = .ok (.aload_n 0, 1) := by decide +kernel
theorem dX10_readSelectors_22 : decode cX10_readSelectors 22 = .ok (.getfield 157, 3) := by decide +kernel
theorem dX10_readSelectors_25 : decode cX10_readSelectors 25 = .ok (.iconst 3, 1) := by decide +kernel
theorem dX10_readSelectors_26 : decode cX10_readSelectors 26 = .ok (.if_icmp .ge 7, 3) := by decide +kernel
theorem dX10_readSelectors_29 : decode cX10_readSelectors 29 = .ok (.iconst 1, 1) := by decide +kernel
theorem dX10_readSelectors_30 : decode cX10_readSelectors 30 = .ok (.goto 4, 3) := by decide +kernel
theorem dX10_readSelectors_33 : decode cX10_readSelectors 33 = .ok (.iconst 0, 1) := by decide +kernel
theorem dX10_readSelectors_34 : decode cX10_readSelectors 34 = .ok (.invokevirtual 180, 3) := by decide +kernel
theorem dX10_readSelectors_37 : decode cX10_readSelectors 37 = .ok (.aload_n 0, 1) := by decide +kernel
theorem dX10_readSelectors_38 : decode cX10_readSelectors 38 = .ok (.getfield 153, 3) := by decide +kernel
theorem dX10_readSelectors_41 : decode cX10_readSelectors 41 = .ok (.ifCond .eq (-37), 3) := by decide +kernel
theorem dX10_readSelectors_44 : decode cX10_readSelectors 44 = .ok (.aload_n 0, 1) := by decide +kernel
theorem dX10_readSelectors_45 : decode cX10_readSelectors 45 = .ok (.invokevirtual 227, 3) := by decide +kernel
theorem dX10_readSelectors_48 : decode cX10_readSelectors 48 = .ok (.goto (-44), 3) := by decide +kernel
theorem dX10_readSelectors_51 : decode cX10_readSelectors 51 = .ok (.return_, 1) := by decide +kernel
theorem dX10_add_0 : decode cX10_add 0 = .ok (.aload_n 0, 1) := by decide +kernel
theorem dX10_add_1 : decode cX10_add 1 = .ok (.getfield 72, 3) := by decide +kernel
theorem dX10_add_4 : decode cX10_add 4 = .ok (.aload_n 0, 1) := by decide +kernel
theorem dX10_add_5 : decode cX10_add 5 = .ok (.getfield 169, 3) := by decide +kernel
theorem dX10_add_8 : decode cX10_add 8 = .ok (.iload_n 1, 1) := by decide +kernel
theorem dX10_add_9 : decode cX10_add 9 = .ok (.iastore, 1) := by decide +kernel
theorem dX10_add_10 : decode cX10_add 10 = .ok (.aload_n 0, 1) := by decide +kernel
theorem dX10_add_11 : decode cX10_add 11 = .ok (.getfield 75, 3) := by decide +kernel
theorem dX10_add_14 : decode cX10_add 14 = .ok (.aload_n 0, 1) := by decide +kernel
theorem dX10_add_15 : decode cX10_add 15 = .ok (.getfield 169, 3) := by decide +kernel
theorem dX10_add_18 : decode cX10_add 18 = .ok (.fload_n 2, 1) := by decide +kernel
theorem dX10_add_19 : decode cX10_add 19 = .ok (.fastore, 1) := by decide +kernel
theorem dX10_add_20 : decode cX10_add 20 = .ok (.aload_n 0, 1) := by decide +kernel
theorem dX10_add_21 : decode cX10_add 21 = .ok (.dup, 1) := by decide +kernel
theorem dX10_add_22 : decode cX10_add 22 = .ok (.getfield 169, 3) := by decide +kernel
theorem dX10_add_25 : decode cX10_add 25 = .ok (.iconst 1, 1) := by decide +kernel
theorem dX10_add_26 : decode cX10_add 26 = .ok (.iadd, 1) := by decide +kernel
theorem dX10_add_27 : decode cX10_add 27 = .ok (.putfield 169, 3) := by decide +kernel
theorem dX10_add_30 : decode cX10_add 30 = .ok (.return_, 1) := by decide +kernel
theorem dX10_readNumber_0 : decode cX10_readNumber 0 = .ok (.iconst 0, 1) := by decide +kernel
theorem dX10_readNumber_1 : decode cX10_readNumber 1 = .ok (.istore_n 1, 1) := by decide +kernel
theorem dX10_readNumber_2 : decode cX10_readNumber 2 = .ok (.iconst 0, 1) := by decide +kernel
theorem dX10_readNumber_3 : decode cX10_readNumber 3 = .ok (.istore_n 2, 1) := by decide +kernel
theorem dX10_readNumber_4 : decode cX10_readNumber 4 = .ok (.aload_n 0, 1) := by decide +kernel
theorem dX10_readNumber_5 : decode cX10_readNumber 5 = .ok (.getfield 153, 3) := by decide +kernel
theorem dX10_readNumber_8 : decode cX10_readNumber 8 = .ok (.ifCond .eq 40, 3) := by decide +kernel
theorem dX10_readNumber_11 : decode cX10_readNumber 11 = .ok (.aload_n 0, 1) := by decide +kernel
theorem dX10_readNumber_12 : decode cX10_readNumber 12 = .ok (.invokevirtual 184, 3) := by decide +kernel
theorem dX10_readNumber_15 : decode cX10_readNumber 15 = .ok (.ifCond .eq 33, 3) := by decide +kernel
theorem dX10_readNumber_18 : decode cX10_readNumber 18 = .ok (.bipush 10, 2) := by decide +kernel
theorem dX10_readNumber_20 : decode cX10_readNumber 20 = .ok (.iload_n 1, 1) := by decide +kernel
theorem dX10_readNumber_21 : decode cX10_readNumber 21 = .ok (.imul, 1) := by decide +kernel
theorem dX10_readNumber_22 : decode cX10_readNumber 22 = .ok (.aload_n 0, 1) := by decide +kernel
theorem dX10_readNumber_23 : decode cX10_readNumber 23 = .ok (.invokevirtual 192, 3) := by decide +kernel
theorem dX10_readNumber_26 : decode cX10_readNumber 26 = .ok (.iadd, 1) := by decide +kernel
theorem dX10_readNumber_27 : decode cX10_readNumber 27 = .ok (.istore_n 1, 1) := by decide +kernel
theorem dX10_readNumber_28 : decode cX10_readNumber 28 = .ok (.iinc 2 1, 3) := by decide +kernel
theorem dX10_readNumber_31 : decode cX10_readNumber 31 = .ok (.aload_n 0, 1) := by decide +kernel
theorem dX10_readNumber_32 : decode cX10_readNumber 32 = .ok (.iload_n 2, 1) := by decide +kernel
theorem dX10_readNumber_33 : decode cX10_readNumber 33 = .ok (.iconst 4, 1) := by decide +kernel
theorem dX10_readNumber_34 : decode cX10_readNumber 34 = .ok (.if_icmp .ge 7, 3) := by decide +kernel
theorem dX10_readNumber_37 : decode cX10_readNumber 37 = .ok (.iconst 1, 1) := by decide +kernel
theorem dX10_readNumber_38 : decode cX10_readNumber 38 = .ok (.goto 4, 3) := by decide +kernel
theorem dX10_readNumber_41 : decode cX10_readNumber 41 = .ok (.iconst 0, 1) := by decide +kernel
theorem dX10_readNumber_42 : decode cX10_readNumber 42 = .ok (.invokevirtual 180, 3) := by decide +kernel
theorem dX10_readNumber_45 : decode cX10_readNumber 45 = .ok (.goto (-41), 3) := by decide +kernel
theorem dX10_readNumber_48 : decode cX10_readNumber 48 = .ok (.iload_n 1, 1) := by decide +kernel
theorem dX10_readNumber_49 : decode cX10_readNumber 49 = .ok (.i2f, 1) := by decide +kernel
theorem dX10_readNumber_50 : decode cX10_readNumber 50 = .ok (.fstore_n 3, 1) := by decide +kernel
theorem dX10_readNumber_51 : decode cX10_readNumber 51 = .ok (.aload_n 0, 1) := by decide +kernel
theorem dX10_readNumber_52 : decode cX10_readNumber 52 = .ok (.getfield 153, 3) := by decide +kernel
theorem dX10_readNumber_55 : decode cX10_readNumber 55 = .ok (.ifCond .eq 26, 3) := by decide +kernel
theorem dX10_readNumber_58 : decode cX10_readNumber 58 = .ok (.aload_n 0, 1) := by decide +kernel
theorem dX10_readNumber_59 : decode cX10_readNumber 59 = .ok (.bipush 46, 2) := by decide +kernel
theorem dX10_readNumber_61 : decode cX10_readNumber 61 = .ok (.invokevirtual 176, 3) := by decide +kernel
theorem dX10_readNumber_64 : decode cX10_readNumber 64 = .ok (.ifCond .eq 17, 3) := by decide +kernel
theorem dX10_readNumber_67 : decode cX10_readNumber 67 = .ok (.bipush 10, 2) := by decide +kernel
theorem dX10_readNumber_69 : decode cX10_readNumber 69 = .ok (.iload_n 1, 1) := by decide +kernel
theorem dX10_readNumber_70 : decode cX10_readNumber 70 = .ok (.imul, 1) := by decide +kernel
theorem dX10_readNumber_71 : decode cX10_readNumber 71 = .ok (.aload_n 0, 1) := by decide +kernel
theorem dX10_readNumber_72 : decode cX10_readNumber 72 = .ok (.invokevirtual 192, 3) := by decide +kernel
theorem dX10_readNumber_75 : decode cX10_readNumber 75 = .ok (.iadd, 1) := by decide +kernel
theorem dX10_readNumber_76 : decode cX10_readNumber 76 = .ok (.i2f, 1) := by decide +kernel
theorem dX10_readNumber_77 : decode cX10_readNumber 77 = .ok (.ldc 230, 2) := by decide +kernel
theorem dX10_readNumber_79 : decode cX10_readNumber 79 = .ok (.fdiv, 1) := by decide +kernel
theorem dX10_readNumber_80 : decode cX10_readNumber 80 = .ok (.fstore_n 3, 1) := by decide +kernel
theorem dX10_readNumber_81 : decode cX10_readNumber 81 = .ok (.aload_n 0, 1) := by decide +kernel
theorem dX10_readNumber_82 : decode cX10_readNumber 82 = .ok (.invokevirtual 172, 3) := by decide +kernel
theorem dX10_readNumber_85 : decode cX10_readNumber 85 = .ok (.bipush 112, 2) := by decide +kernel
theorem dX10_readNumber_87 : decode cX10_readNumber 87 = .ok (.if_icmp .ne 7, 3) := by decide +kernel
theorem dX10_readNumber_90 : decode cX10_readNumber 90 = .ok (.iconst 1, 1) := by decide +kernel
theorem dX10_readNumber_91 : decode cX10_readNumber 91 = .ok (.goto 30, 3) := by decide +kernel
theorem dX10_readNumber_94 : decode cX10_readNumber 94 = .ok (.aload_n 0, 1) := by decide +kernel
theorem dX10_readNumber_95 : decode cX10_readNumber 95 = .ok (.invokevirtual 172, 3) := by decide +kernel
theorem dX10_readNumber_98 : decode cX10_readNumber 98 = .ok (.bipush 101, 2) := by decide +kernel
theorem dX10_readNumber_100 : decode cX10_readNumber 100 = .ok (.if_icmp .ne 7, 3) := by decide +kernel
theorem dX10_readNumber_103 : decode cX10_readNumber 103 = .ok (.iconst 2, 1) := by decide +kernel
theorem dX10_readNumber_104 : decode cX10_readNumber 104 = .ok (.goto 17, 3) := by decide +kernel
theorem dX10_readNumber_107 : decode cX10_readNumber 107 = .ok (.aload_n 0, 1) := by decide +kernel
theorem dX10_readNumber_108 : decode cX10_readNumber 108 = .ok (.invokevirtual 172, 3) := by decide +kernel
theorem dX10_readNumber_111 : decode cX10_readNumber 111 = .ok (.bipush 37, 2) := by decide +kernel
theorem dX10_readNumber_113 : decode cX10_readNumber 113 = .ok (.if_icmp .ne 7, 3) := by decide +kernel
theorem dX10_readNumber_116 : decode cX10_readNumber 116 = .ok (.iconst 3, 1) := by decide +kernel
theorem dX10_readNumber_117 : decode cX10_readNumber 117 = .ok (.goto 4, 3) := by decide +kernel
theorem dX10_readNumber_120 : decode cX10_readNumber 120 = .ok (.iconst 0, 1) := by decide +kernel
theorem dX10_readNumber_121 : decode cX10_readNumber 121 = .ok (.istore 4, 2) := by decide +kernel
theorem dX10_readNumber_123 : decode cX10_readNumber 123 = .ok (.aload_n 0, 1) := by decide +kernel
theorem dX10_readNumber_124 : decode cX10_readNumber 124 = .ok (.iload 4, 2) := by decide +kernel
theorem dX10_readNumber_126 : decode cX10_readNumber 126 = .ok (.ifCond .ne 10, 3) := by decide +kernel
theorem dX10_readNumber_129 : decode cX10_readNumber 129 = .ok (.aload_n 0, 1) := by decide +kernel
theorem dX10_readNumber_130 : decode cX10_readNumber 130 = .ok (.getfield 147, 3) := by decide +kernel
theorem dX10_readNumber_133 : decode cX10_readNumber 133 = .ok (.goto 9, 3) := by decide +kernel
theorem dX10_readNumber_136 : decode cX10_readNumber 136 = .ok (.aload_n 0, 1) := by decide +kernel
theorem dX10_readNumber_137 : decode cX10_readNumber 137 = .ok (.getfield 147, 3) := by decide +kernel
theorem dX10_readNumber_140 : decode cX10_readNumber 140 = .ok (.iconst 1, 1) := by decide +kernel
theorem dX10_readNumber_141 : decode cX10_readNumber 141 = .ok (.iadd, 1) := by decide +kernel
theorem dX10_readNumber_142 : decode cX10_readNumber 142 = .ok (.putfield 147, 3) := by decide +kernel
theorem dX10_readNumber_145 : decode cX10_readNumber 145 = .ok (.aload_n 0, 1) := by decide +kernel
theorem dX10_readNumber_146 : decode cX10_readNumber 146 = .ok (.iload 4, 2) := by decide +kernel
theorem dX10_readNumber_148 : decode cX10_readNumber 148 = .ok (.fload_n 3, 1) := by decide +kernel
theorem dX10_readNumber_149 : decode cX10_readNumber 149 = .ok (.invokevirtual 231, 3) := by decide +kernel
theorem dX10_readNumber_152 : decode cX10_readNumber 152 = .ok (.return_, 1) := by decide +kernel
theorem dX10_strength_0 : decode cX10_strength 0 = .ok (.iload_n 0, 1) := by decide +kernel
theorem dX10_strength_1 : decode cX10_strength 1 = .ok (.bipush 20, 2) := by decide +kernel
theorem dX10_strength_3 : decode cX10_strength 3 = .ok (.if_icmp .ne 7, 3) := by decide +kernel
theorem dX10_strength_6 : decode cX10_strength 6 = .ok (.iconst 0, 1) := by decide +kernel
theorem dX10_strength_7 : decode cX10_strength 7 = .ok (.goto 30, 3) := by decide +kernel
theorem dX10_strength_10 : decode cX10_strength 10 = .ok (.iload_n 0, 1) := by decide +kernel
theorem dX10_strength_11 : decode cX10_strength 11 = .ok (.bipush 11, 2) := by decide +kernel
theorem dX10_strength_13 : decode cX10_strength 13 = .ok (.if_icmp .ge 13, 3) := by decide +kernel
theorem dX10_strength_16 : decode cX10_strength 16 = .ok (.iload_n 0, 1) := by decide +kernel
theorem dX10_strength_17 : decode cX10_strength 17 = .ok (.bipush 8, 2) := by decide +kernel
theorem dX10_strength_19 : decode cX10_strength 19 = .ok (.if_icmp .le 7, 3) := by decide +kernel
theorem dX10_strength_22 : decode cX10_strength 22 = .ok (.iconst 1, 1) := by decide +kernel
theorem dX10_strength_23 : decode cX10_strength 23 = .ok (.goto 14, 3) := by decide +kernel
theorem dX10_strength_26 : decode cX10_strength 26 = .ok (.iload_n 0, 1) := by decide +kernel
theorem dX10_strength_27 : decode cX10_strength 27 = .ok (.bipush 8, 2) := by decide +kernel
theorem dX10_strength_29 : decode cX10_strength 29 = .ok (.if_icmp .ne 7, 3) := by decide +kernel
theorem dX10_strength_32 : decode cX10_strength 32 = .ok (.iconst 3, 1) := by decide +kernel
theorem dX10_strength_33 : decode cX10_strength 33 = .ok (.goto 4, 3) := by decide +kernel
theorem dX10_strength_36 : decode cX10_strength 36 = .ok (.iconst 2, 1) := by decide +kernel
theorem dX10_strength_37 : decode cX10_strength 37 = .ok (.ireturn, 1) := by decide +kernel
theorem dX10_pour_0 : decode cX10_pour 0 = .ok (.iload_n 1, 1) := by decide +kernel
theorem dX10_pour_1 : decode cX10_pour 1 = .ok (.istore_n 3, 1) := by decide +kernel
theorem dX10_pour_2 : decode cX10_pour 2 = .ok (.iload_n 3, 1) := by decide +kernel
theorem dX10_pour_3 : decode cX10_pour 3 = .ok (.ifCond .le 35, 3) := by decide +kernel
theorem dX10_pour_6 : decode cX10_pour 6 = .ok (.aload_n 0, 1) := by decide +kernel
theorem dX10_pour_7 : decode cX10_pour 7 = .ok (.getfield 79, 3) := by decide +kernel
theorem dX10_pour_10 : decode cX10_pour 10 = .ok (.iload_n 3, 1) := by decide +kernel
theorem dX10_pour_11 : decode cX10_pour 11 = .ok (.iconst 1, 1) := by decide +kernel
theorem dX10_pour_12 : decode cX10_pour 12 = .ok (.isub, 1) := by decide +kernel
theorem dX10_pour_13 : decode cX10_pour 13 = .ok (.iaload, 1) := by decide +kernel
theorem dX10_pour_14 : decode cX10_pour 14 = .ok (.invokestatic 235, 3) := by decide +kernel
theorem dX10_pour_17 : decode cX10_pour 17 = .ok (.iload_n 2, 1) := by decide +kernel
theorem dX10_pour_18 : decode cX10_pour 18 = .ok (.if_icmp .lt 20, 3) := by decide +kernel
theorem dX10_pour_21 : decode cX10_pour 21 = .ok (.iinc 3 (-1), 3) := by decide +kernel
theorem dX10_pour_24 : decode cX10_pour 24 = .ok (.aload_n 0, 1) := by decide +kernel
theorem dX10_pour_25 : decode cX10_pour 25 = .ok (.aload_n 0, 1) := by decide +kernel
theorem dX10_pour_26 : decode cX10_pour 26 = .ok (.getfield 79, 3) := by decide +kernel
theorem dX10_pour_29 : decode cX10_pour 29 = .ok (.iload_n 3, 1) := by decide +kernel
theorem dX10_pour_30 : decode cX10_pour 30 = .ok (.iaload, 1) := by decide +kernel
theorem dX10_pour_31 : decode cX10_pour 31 = .ok (.fconst 0, 1) := by decide +kernel
theorem dX10_pour_32 : decode cX10_pour 32 = .ok (.invokevirtual 231, 3) := by decide +kernel
theorem dX10_pour_35 : decode cX10_pour 35 = .ok (.goto (-33), 3) := by decide +kernel
theorem dX10_pour_38 : decode cX10_pour 38 = .ok (.iload_n 3, 1) := by decide +kernel
theorem dX10_pour_39 : decode cX10_pour 39 = .ok (.ireturn, 1) := by decide +kernel
theorem dX10_turned_0 : decode cX10_turned 0 = .ok (.iconst 0, 1) := by decide +kernel
theorem dX10_turned_1 : decode cX10_turned 1 = .ok (.istore_n 2, 1) := by decide +kernel
theorem dX10_turned_2 : decode cX10_turned 2 = .ok (.iload_n 1, 1) := by decide +kernel
theorem dX10_turned_3 : decode cX10_turned 3 = .ok (.iload_n 2, 1) := by decide +kernel
theorem dX10_turned_4 : decode cX10_turned 4 = .ok (.isub, 1) := by decide +kernel
theorem dX10_turned_5 : decode cX10_turned 5 = .ok (.ifCond .le 24, 3) := by decide +kernel
theorem dX10_turned_8 : decode cX10_turned 8 = .ok (.aload_n 0, 1) := by decide +kernel
theorem dX10_turned_9 : decode cX10_turned 9 = .ok (.getfield 79, 3) := by decide +kernel
theorem dX10_turned_12 : decode cX10_turned 12 = .ok (.iload_n 1, 1) := by decide +kernel
theorem dX10_turned_13 : decode cX10_turned 13 = .ok (.iconst 1, 1) := by decide +kernel
theorem dX10_turned_14 : decode cX10_turned 14 = .ok (.isub, 1) := by decide +kernel
theorem dX10_turned_15 : decode cX10_turned 15 = .ok (.iload_n 2, 1) := by decide +kernel
theorem dX10_turned_16 : decode cX10_turned 16 = .ok (.isub, 1) := by decide +kernel
theorem dX10_turned_17 : decode cX10_turned 17 = .ok (.iaload, 1) := by decide +kernel
theorem dX10_turned_18 : decode cX10_turned 18 = .ok (.bipush 8, 2) := by decide +kernel
theorem dX10_turned_20 : decode cX10_turned 20 = .ok (.if_icmp .ne 9, 3) := by decide +kernel
theorem dX10_turned_23 : decode cX10_turned 23 = .ok (.iinc 2 1, 3) := by decide +kernel
theorem dX10_turned_26 : decode cX10_turned 26 = .ok (.goto (-24), 3) := by decide +kernel
theorem dX10_turned_29 : decode cX10_turned 29 = .ok (.iload_n 2, 1) := by decide +kernel
theorem dX10_turned_30 : decode cX10_turned 30 = .ok (.ireturn, 1) := by decide +kernel
theorem dX10_signOf_0 : decode cX10_signOf 0 = .ok (.iload_n 1, 1) := by decide +kernel
theorem dX10_signOf_1 : decode cX10_signOf 1 = .ok (.bipush 43, 2) := by decide +kernel
theorem dX10_signOf_3 : decode cX10_signOf 3 = .ok (.if_icmp .ne 8, 3) := by decide +kernel
theorem dX10_signOf_6 : decode cX10_signOf 6 = .ok (.bipush 9, 2) := by decide +kernel
theorem dX10_signOf_8 : decode cX10_signOf 8 = .ok (.goto 37, 3) := by decide +kernel
theorem dX10_signOf_11 : decode cX10_signOf 11 = .ok (.iload_n 1, 1) := by decide +kernel
theorem dX10_signOf_12 : decode cX10_signOf 12 = .ok (.bipush 45, 2) := by decide +kernel
theorem dX10_signOf_14 : decode cX10_signOf 14 = .ok (.if_icmp .ne 8, 3) := by decide +kernel
theorem dX10_signOf_17 : decode cX10_signOf 17 = .ok (.bipush 10, 2) := by decide +kernel
theorem dX10_signOf_19 : decode cX10_signOf 19 = .ok (.goto 26, 3) := by decide +kernel
theorem dX10_signOf_22 : decode cX10_signOf 22 = .ok (.iload_n 1, 1) := by decide +kernel
theorem dX10_signOf_23 : decode cX10_signOf 23 = .ok (.bipush 42, 2) := by decide +kernel
theorem dX10_signOf_25 : decode cX10_signOf 25 = .ok (.if_icmp .ne 8, 3) := by decide +kernel
theorem dX10_signOf_28 : decode cX10_signOf 28 = .ok (.bipush 11, 2) := by decide +kernel
theorem dX10_signOf_30 : decode cX10_signOf 30 = .ok (.goto 15, 3) := by decide +kernel
theorem dX10_signOf_33 : decode cX10_signOf 33 = .ok (.iload_n 1, 1) := by decide +kernel
theorem dX10_signOf_34 : decode cX10_signOf 34 = .ok (.bipush 47, 2) := by decide +kernel
theorem dX10_signOf_36 : decode cX10_signOf 36 = .ok (.if_icmp .ne 8, 3) := by decide +kernel
theorem dX10_signOf_39 : decode cX10_signOf 39 = .ok (.bipush 12, 2) := by decide +kernel
theorem dX10_signOf_41 : decode cX10_signOf 41 = .ok (.goto 4, 3) := by decide +kernel
theorem dX10_signOf_44 : decode cX10_signOf 44 = .ok (.iconst (-1), 1) := by decide +kernel
theorem dX10_signOf_45 : decode cX10_signOf 45 = .ok (.ireturn, 1) := by decide +kernel
theorem dX10_readSum_0 : decode cX10_readSum 0 = .ok (.iconst 0, 1) := by decide +kernel
theorem dX10_readSum_1 : decode cX10_readSum 1 = .ok (.istore_n 1, 1) := by decide +kernel
theorem dX10_readSum_2 : decode cX10_readSum 2 = .ok (.iconst 0, 1) := by decide +kernel
theorem dX10_readSum_3 : decode cX10_readSum 3 = .ok (.istore_n 2, 1) := by decide +kernel
theorem dX10_readSum_4 : decode cX10_readSum 4 = .ok (.iconst 1, 1) := by decide +kernel
theorem dX10_readSum_5 : decode cX10_readSum 5 = .ok (.istore_n 3, 1) := by decide +kernel
theorem dX10_readSum_6 : decode cX10_readSum 6 = .ok (.iconst 1, 1) := by decide +kernel
theorem dX10_readSum_7 : decode cX10_readSum 7 = .ok (.istore 4, 2) := by decide +kernel
theorem dX10_readSum_9 : decode cX10_readSum 9 = .ok (.aload_n 0, 1) := by decide +kernel
theorem dX10_readSum_10 : decode cX10_readSum 10 = .ok (.getfield 153, 3) := by decide +kernel
theorem dX10_readSum_13 : decode cX10_readSum 13 = .ok (.ifCond .eq 272, 3) := by decide +kernel
theorem dX10_readSum_16 : decode cX10_readSum 16 = .ok (.iload 4, 2) := by decide +kernel
theorem dX10_readSum_18 : decode cX10_readSum 18 = .ok (.ifCond .eq 267, 3) := by decide +kernel
theorem dX10_readSum_21 : decode cX10_readSum 21 = .ok (.aload_n 0, 1) := by decide +kernel
theorem dX10_readSum_22 : decode cX10_readSum 22 = .ok (.aload_n 0, 1) := by decide +kernel
theorem dX10_readSum_23 : decode cX10_readSum 23 = .ok (.invokevirtual 172, 3) := by decide +kernel
theorem dX10_readSum_26 : decode cX10_readSum 26 = .ok (.invokevirtual 238, 3) := by decide +kernel
theorem dX10_readSum_29 : decode cX10_readSum 29 = .ok (.istore 5, 2) := by decide +kernel
theorem dX10_readSum_31 : decode cX10_readSum 31 = .ok (.iload_n 3, 1) := by decide +kernel
theorem dX10_readSum_32 : decode cX10_readSum 32 = .ok (.ifCond .eq 77, 3) := by decide +kernel
theorem dX10_readSum_35 : decode cX10_readSum 35 = .ok (.aload_n 0, 1) := by decide +kernel
theorem dX10_readSum_36 : decode cX10_readSum 36 = .ok (.invokevirtual 172, 3) := by decide +kernel
theorem dX10_readSum_39 : decode cX10_readSum 39 = .ok (.bipush 45, 2) := by decide +kernel
theorem dX10_readSum_41 : decode cX10_readSum 41 = .ok (.if_icmp .eq 12, 3) := by decide +kernel
theorem dX10_readSum_44 : decode cX10_readSum 44 = .ok (.aload_n 0, 1) := by decide +kernel
theorem dX10_readSum_45 : decode cX10_readSum 45 = .ok (.invokevirtual 172, 3) := by decide +kernel
theorem dX10_readSum_48 : decode cX10_readSum 48 = .ok (.bipush 40, 2) := by decide +kernel
theorem dX10_readSum_50 : decode cX10_readSum 50 = .ok (.if_icmp .ne 59, 3) := by decide +kernel
theorem dX10_readSum_53 : decode cX10_readSum 53 = .ok (.aload_n 0, 1) := by decide +kernel
theorem dX10_readSum_54 : decode cX10_readSum 54 = .ok (.iload_n 2, 1) := by decide +kernel
theorem dX10_readSum_55 : decode cX10_readSum 55 = .ok (.bipush 6, 2) := by decide +kernel
theorem dX10_readSum_57 : decode cX10_readSum 57 = .ok (.if_icmp .ge 7, 3) := by decide +kernel
theorem dX10_readSum_60 : decode cX10_readSum 60 = .ok (.iconst 1, 1) := by decide +kernel
theorem dX10_readSum_61 : decode cX10_readSum 61 = .ok (.goto 4, 3) := by decide +kernel
theorem dX10_readSum_64 : decode cX10_readSum 64 = .ok (.iconst 0, 1) := by decide +kernel
theorem dX10_readSum_65 : decode cX10_readSum 65 = .ok (.invokevirtual 180, 3) := by decide +kernel
theorem dX10_readSum_68 : decode cX10_readSum 68 = .ok (.iinc 2 1, 3) := by decide +kernel
theorem dX10_readSum_71 : decode cX10_readSum 71 = .ok (.aload_n 0, 1) := by decide +kernel
theorem dX10_readSum_72 : decode cX10_readSum 72 = .ok (.getfield 79, 3) := by decide +kernel
theorem dX10_readSum_75 : decode cX10_readSum 75 = .ok (.iload_n 1, 1) := by decide +kernel
theorem dX10_readSum_76 : decode cX10_readSum 76 = .ok (.aload_n 0, 1) := by decide +kernel
theorem dX10_readSum_77 : decode cX10_readSum 77 = .ok (.invokevirtual 172, 3) := by decide +kernel
theorem dX10_readSum_80 : decode cX10_readSum 80 = .ok (.bipush 45, 2) := by decide +kernel
theorem dX10_readSum_82 : decode cX10_readSum 82 = .ok (.if_icmp .ne 8, 3) := by decide +kernel
theorem dX10_readSum_85 : decode cX10_readSum 85 = .ok (.bipush 8, 2) := by decide +kernel
theorem dX10_readSum_87 : decode cX10_readSum 87 = .ok (.goto 5, 3) := by decide +kernel
theorem dX10_readSum_90 : decode cX10_readSum 90 = .ok (.bipush 20, 2) := by decide +kernel
theorem dX10_readSum_92 : decode cX10_readSum 92 = .ok (.iastore, 1) := by decide +kernel
theorem dX10_readSum_93 : decode cX10_readSum 93 = .ok (.iinc 1 1, 3) := by decide +kernel
theorem dX10_readSum_96 : decode cX10_readSum 96 = .ok (.aload_n 0, 1) := by decide +kernel
theorem dX10_readSum_97 : decode cX10_readSum 97 = .ok (.dup, 1) := by decide +kernel
theorem dX10_readSum_98 : decode cX10_readSum 98 = .ok (.getfield 147, 3) := by decide +kernel
theorem dX10_readSum_101 : decode cX10_readSum 101 = .ok (.iconst 1, 1) := by decide +kernel
theorem dX10_readSum_102 : decode cX10_readSum 102 = .ok (.iadd, 1) := by decide +kernel
theorem dX10_readSum_103 : decode cX10_readSum 103 = .ok (.putfield 147, 3) := by decide +kernel
theorem dX10_readSum_106 : decode cX10_readSum 106 = .ok (.goto 176, 3) := by decide +kernel
theorem dX10_readSum_109 : decode cX10_readSum 109 = .ok (.iload_n 3, 1) := by decide +kernel
theorem dX10_readSum_110 : decode cX10_readSum 110 = .ok (.ifCond .eq 70, 3) := by decide +kernel
theorem dX10_readSum_113 : decode cX10_readSum 113 = .ok (.aload_n 0, 1) := by decide +kernel
theorem dX10_readSum_114 : decode cX10_readSum 114 = .ok (.bipush 36, 2) := by decide +kernel
theorem dX10_readSum_116 : decode cX10_readSum 116 = .ok (.invokevirtual 176, 3) := by decide +kernel
theorem dX10_readSum_119 : decode cX10_readSum 119 = .ok (.ifCond .eq 22, 3) := by decide +kernel
theorem dX10_readSum_122 : decode cX10_readSum 122 = .ok (.aload_n 0, 1) := by decide +kernel
theorem dX10_readSum_123 : decode cX10_readSum 123 = .ok (.iconst 4, 1) := by decide +kernel
theorem dX10_readSum_124 : decode cX10_readSum 124 = .ok (.aload_n 0, 1) := by decide +kernel
theorem dX10_readSum_125 : decode cX10_readSum 125 = .ok (.bipush 100, 2) := by decide +kernel
theorem dX10_readSum_127 : decode cX10_readSum 127 = .ok (.invokevirtual 200, 3) := by decide +kernel
theorem dX10_readSum_130 : decode cX10_readSum 130 = .ok (.iadd, 1) := by decide +kernel
theorem dX10_readSum_131 : decode cX10_readSum 131 = .ok (.bipush 97, 2) := by decide +kernel
theorem dX10_readSum_133 : decode cX10_readSum 133 = .ok (.isub, 1) := by decide +kernel
theorem dX10_readSum_134 : decode cX10_readSum 134 = .ok (.fconst 0, 1) := by decide +kernel
theorem dX10_readSum_135 : decode cX10_readSum 135 = .ok (.invokevirtual 231, 3) := by decide +kernel
theorem dX10_readSum_138 : decode cX10_readSum 138 = .ok (.goto 22, 3) := by decide +kernel
theorem dX10_readSum_141 : decode cX10_readSum 141 = .ok (.aload_n 0, 1) := by decide +kernel
theorem dX10_readSum_142 : decode cX10_readSum 142 = .ok (.invokevirtual 184, 3) := by decide +kernel
theorem dX10_readSum_145 : decode cX10_readSum 145 = .ok (.ifCond .eq 10, 3) := by decide +kernel
theorem dX10_readSum_148 : decode cX10_readSum 148 = .ok (.aload_n 0, 1) := by decide +kernel
theorem dX10_readSum_149 : decode cX10_readSum 149 = .ok (.invokevirtual 242, 3) := by decide +kernel
theorem dX10_readSum_152 : decode cX10_readSum 152 = .ok (.goto 8, 3) := by decide +kernel
theorem dX10_readSum_155 : decode cX10_readSum 155 = .ok (.aload_n 0, 1) := by decide +kernel
theorem dX10_readSum_156 : decode cX10_readSum 156 = .ok (.iconst 0, 1) := by decide +kernel
theorem dX10_readSum_157 : decode cX10_readSum 157 = .ok (.invokevirtual 180, 3) := by decide +kernel
theorem dX10_readSum_160 : decode cX10_readSum 160 = .ok (.iload_n 2, 1) := by decide +kernel
theorem dX10_readSum_161 : decode cX10_readSum 161 = .ok (.aload_n 0, 1) := by decide +kernel
theorem dX10_readSum_162 : decode cX10_readSum 162 = .ok (.iload_n 1, 1) := by decide +kernel
theorem dX10_readSum_163 : decode cX10_readSum 163 = .ok (.invokevirtual 245, 3) := by decide +kernel
theorem dX10_readSum_166 : decode cX10_readSum 166 = .ok (.isub, 1) := by decide +kernel
theorem dX10_readSum_167 : decode cX10_readSum 167 = .ok (.istore_n 2, 1) := by decide +kernel
theorem dX10_readSum_168 : decode cX10_readSum 168 = .ok (.aload_n 0, 1) := by decide +kernel
theorem dX10_readSum_169 : decode cX10_readSum 169 = .ok (.iload_n 1, 1) := by decide +kernel
theorem dX10_readSum_170 : decode cX10_readSum 170 = .ok (.iconst 3, 1) := by decide +kernel
theorem dX10_readSum_171 : decode cX10_readSum 171 = .ok (.invokevirtual 248, 3) := by decide +kernel
theorem dX10_readSum_174 : decode cX10_readSum 174 = .ok (.istore_n 1, 1) := by decide +kernel
theorem dX10_readSum_175 : decode cX10_readSum 175 = .ok (.iconst 0, 1) := by decide +kernel
theorem dX10_readSum_176 : decode cX10_readSum 176 = .ok (.istore_n 3, 1) := by decide +kernel
theorem dX10_readSum_177 : decode cX10_readSum 177 = .ok (.goto 105, 3) := by decide +kernel
theorem dX10_readSum_180 : decode cX10_readSum 180 = .ok (.iload 5, 2) := by decide +kernel
theorem dX10_readSum_182 : decode cX10_readSum 182 = .ok (.iconst (-1), 1) := by decide +kernel
theorem dX10_readSum_183 : decode cX10_readSum 183 = .ok (.if_icmp .eq 40, 3) := by decide +kernel
theorem dX10_readSum_186 : decode cX10_readSum 186 = .ok (.aload_n 0, 1) := by decide +kernel
theorem dX10_readSum_187 : decode cX10_readSum 187 = .ok (.iload_n 1, 1) := by decide +kernel
theorem dX10_readSum_188 : decode cX10_readSum 188 = .ok (.iload 5, 2) := by decide +kernel
theorem dX10_readSum_190 : decode cX10_readSum 190 = .ok (.invokestatic 235, 3) := by decide +kernel
theorem dX10_readSum_193 : decode cX10_readSum 193 = .ok (.invokevirtual 248, 3) := by decide +kernel
theorem dX10_readSum_196 : decode cX10_readSum 196 = .ok (.istore_n 1, 1) := by decide +kernel
theorem dX10_readSum_197 : decode cX10_readSum 197 = .ok (.aload_n 0, 1) := by decide +kernel
theorem dX10_readSum_198 : decode cX10_readSum 198 = .ok (.getfield 79, 3) := by decide +kernel
theorem dX10_readSum_201 : decode cX10_readSum 201 = .ok (.iload_n 1, 1) := by decide +kernel
theorem dX10_readSum_202 : decode cX10_readSum 202 = .ok (.iload 5, 2) := by decide +kernel
theorem dX10_readSum_204 : decode cX10_readSum 204 = .ok (.iastore, 1) := by decide +kernel
theorem dX10_readSum_205 : decode cX10_readSum 205 = .ok (.iinc 1 1, 3) := by decide +kernel
theorem dX10_readSum_208 : decode cX10_readSum 208 = .ok (.aload_n 0, 1) := by decide +kernel
theorem dX10_readSum_209 : decode cX10_readSum 209 = .ok (.dup, 1) := by decide +kernel
theorem dX10_readSum_210 : decode cX10_readSum 210 = .ok (.getfield 147, 3) := by decide +kernel
theorem dX10_readSum_213 : decode cX10_readSum 213 = .ok (.iconst 1, 1) := by decide +kernel
theorem dX10_readSum_214 : decode cX10_readSum 214 = .ok (.iadd, 1) := by decide +kernel
theorem dX10_readSum_215 : decode cX10_readSum 215 = .ok (.putfield 147, 3) := by decide +kernel
theorem dX10_readSum_218 : decode cX10_readSum 218 = .ok (.iconst 1, 1) := by decide +kernel
theorem dX10_readSum_219 : decode cX10_readSum 219 = .ok (.istore_n 3, 1) := by decide +kernel
theorem dX10_readSum_220 : decode cX10_readSum 220 = .ok (.goto 62, 3) := by decide +kernel
theorem dX10_readSum_223 : decode cX10_readSum 223 = .ok (.aload_n 0, 1) := by decide +kernel
theorem dX10_readSum_224 : decode cX10_readSum 224 = .ok (.invokevirtual 172, 3) := by decide +kernel
theorem dX10_readSum_227 : decode cX10_readSum 227 = .ok (.bipush 41, 2) := by decide +kernel
theorem dX10_readSum_229 : decode cX10_readSum 229 = .ok (.if_icmp .ne 50, 3) := by decide +kernel
theorem dX10_readSum_232 : decode cX10_readSum 232 = .ok (.aload_n 0, 1) := by decide +kernel
theorem dX10_readSum_233 : decode cX10_readSum 233 = .ok (.iload_n 1, 1) := by decide +kernel
theorem dX10_readSum_234 : decode cX10_readSum 234 = .ok (.invokevirtual 252, 3) := by decide +kernel
theorem dX10_readSum_237 : decode cX10_readSum 237 = .ok (.ifCond .eq 42, 3) := by decide +kernel
theorem dX10_readSum_240 : decode cX10_readSum 240 = .ok (.aload_n 0, 1) := by decide +kernel
theorem dX10_readSum_241 : decode cX10_readSum 241 = .ok (.dup, 1) := by decide +kernel
theorem dX10_readSum_242 : decode cX10_readSum 242 = .ok (.getfield 147, 3) := by decide +kernel
theorem dX10_readSum_245 : decode cX10_readSum 245 = .ok (.iconst 1, 1) := by decide +kernel
theorem dX10_readSum_246 : decode cX10_readSum 246 = .ok (.iadd, 1) := by decide +kernel
theorem dX10_readSum_247 : decode cX10_readSum 247 = .ok (.putfield 147, 3) := by decide +kernel
theorem dX10_readSum_250 : decode cX10_readSum 250 = .ok (.aload_n 0, 1) := by decide +kernel
theorem dX10_readSum_251 : decode cX10_readSum 251 = .ok (.iload_n 1, 1) := by decide +kernel
theorem dX10_readSum_252 : decode cX10_readSum 252 = .ok (.iconst 1, 1) := by decide +kernel
theorem dX10_readSum_253 : decode cX10_readSum 253 = .ok (.invokevirtual 248, 3) := by decide +kernel
theorem dX10_readSum_256 : decode cX10_readSum 256 = .ok (.iconst 1, 1) := by decide +kernel
theorem dX10_readSum_257 : decode cX10_readSum 257 = .ok (.isub, 1) := by decide +kernel
theorem dX10_readSum_258 : decode cX10_readSum 258 = .ok (.istore_n 1, 1) := by decide +kernel
theorem dX10_readSum_259 : decode cX10_readSum 259 = .ok (.iload_n 2, 1) := by decide +kernel
theorem dX10_readSum_260 : decode cX10_readSum 260 = .ok (.iconst 1, 1) := by decide +kernel
theorem dX10_readSum_261 : decode cX10_readSum 261 = .ok (.aload_n 0, 1) := by decide +kernel
theorem dX10_readSum_262 : decode cX10_readSum 262 = .ok (.iload_n 1, 1) := by decide +kernel
theorem dX10_readSum_263 : decode cX10_readSum 263 = .ok (.invokevirtual 245, 3) := by decide +kernel
theorem dX10_readSum_266 : decode cX10_readSum 266 = .ok (.iadd, 1) := by decide +kernel
theorem dX10_readSum_267 : decode cX10_readSum 267 = .ok (.isub, 1) := by decide +kernel
theorem dX10_readSum_268 : decode cX10_readSum 268 = .ok (.istore_n 2, 1) := by decide +kernel
theorem dX10_readSum_269 : decode cX10_readSum 269 = .ok (.aload_n 0, 1) := by decide +kernel
theorem dX10_readSum_270 : decode cX10_readSum 270 = .ok (.iload_n 1, 1) := by decide +kernel
theorem dX10_readSum_271 : decode cX10_readSum 271 = .ok (.iconst 3, 1) := by decide +kernel
theorem dX10_readSum_272 : decode cX10_readSum 272 = .ok (.invokevirtual 248, 3) := by decide +kernel
theorem dX10_readSum_275 : decode cX10_readSum 275 = .ok (.istore_n 1, 1) := by decide +kernel
theorem dX10_readSum_276 : decode cX10_readSum 276 = .ok (.goto 6, 3) := by decide +kernel
theorem dX10_readSum_279 : decode cX10_readSum 279 = .ok (.iconst 0, 1) := by decide +kernel
theorem dX10_readSum_280 : decode cX10_readSum 280 = .ok (.istore 4, 2) := by decide +kernel
theorem dX10_readSum_282 : decode cX10_readSum 282 = .ok (.goto (-273), 3) := by decide +kernel
theorem dX10_readSum_285 : decode cX10_readSum 285 = .ok (.aload_n 0, 1) := by decide +kernel
theorem dX10_readSum_286 : decode cX10_readSum 286 = .ok (.aload_n 0, 1) := by decide +kernel
theorem dX10_readSum_287 : decode cX10_readSum 287 = .ok (.iload_n 1, 1) := by decide +kernel
theorem dX10_readSum_288 : decode cX10_readSum 288 = .ok (.invokevirtual 252, 3) := by decide +kernel
theorem dX10_readSum_291 : decode cX10_readSum 291 = .ok (.ifCond .ne 7, 3) := by decide +kernel
theorem dX10_readSum_294 : decode cX10_readSum 294 = .ok (.iconst 1, 1) := by decide +kernel
theorem dX10_readSum_295 : decode cX10_readSum 295 = .ok (.goto 4, 3) := by decide +kernel
theorem dX10_readSum_298 : decode cX10_readSum 298 = .ok (.iconst 0, 1) := by decide +kernel
theorem dX10_readSum_299 : decode cX10_readSum 299 = .ok (.invokevirtual 180, 3) := by decide +kernel
theorem dX10_readSum_302 : decode cX10_readSum 302 = .ok (.aload_n 0, 1) := by decide +kernel
theorem dX10_readSum_303 : decode cX10_readSum 303 = .ok (.getfield 153, 3) := by decide +kernel
theorem dX10_readSum_306 : decode cX10_readSum 306 = .ok (.ifCond .eq 10, 3) := by decide +kernel
theorem dX10_readSum_309 : decode cX10_readSum 309 = .ok (.aload_n 0, 1) := by decide +kernel
theorem dX10_readSum_310 : decode cX10_readSum 310 = .ok (.iload_n 1, 1) := by decide +kernel
theorem dX10_readSum_311 : decode cX10_readSum 311 = .ok (.iconst 1, 1) := by decide +kernel
theorem dX10_readSum_312 : decode cX10_readSum 312 = .ok (.invokevirtual 248, 3) := by decide +kernel
theorem dX10_readSum_315 : decode cX10_readSum 315 = .ok (.pop, 1) := by decide +kernel
theorem dX10_readSum_316 : decode cX10_readSum 316 = .ok (.return_, 1) := by decide +kernel
theorem dX10_isOpen_0 : decode cX10_isOpen 0 = .ok (.iconst 0, 1) := by decide +kernel
theorem dX10_isOpen_1 : decode cX10_isOpen 1 = .ok (.istore_n 2, 1) := by decide +kernel
theorem dX10_isOpen_2 : decode cX10_isOpen 2 = .ok (.iconst 0, 1) := by decide +kernel
theorem dX10_isOpen_3 : decode cX10_isOpen 3 = .ok (.istore_n 3, 1) := by decide +kernel
theorem dX10_isOpen_4 : decode cX10_isOpen 4 = .ok (.iload_n 3, 1) := by decide +kernel
theorem dX10_isOpen_5 : decode cX10_isOpen 5 = .ok (.iload_n 1, 1) := by decide +kernel
theorem dX10_isOpen_6 : decode cX10_isOpen 6 = .ok (.if_icmp .ge 30, 3) := by decide +kernel
theorem dX10_isOpen_9 : decode cX10_isOpen 9 = .ok (.iload_n 2, 1) := by decide +kernel
theorem dX10_isOpen_10 : decode cX10_isOpen 10 = .ok (.ifCond .ne 14, 3) := by decide +kernel
theorem dX10_isOpen_13 : decode cX10_isOpen 13 = .ok (.aload_n 0, 1) := by decide +kernel
theorem dX10_isOpen_14 : decode cX10_isOpen 14 = .ok (.getfield 79, 3) := by decide +kernel
theorem dX10_isOpen_17 : decode cX10_isOpen 17 = .ok (.iload_n 3, 1) := by decide +kernel
theorem dX10_isOpen_18 : decode cX10_isOpen 18 = .ok (.iaload, 1) := by decide +kernel
theorem dX10_isOpen_19 : decode cX10_isOpen 19 = .ok (.bipush 20, 2) := by decide +kernel
theorem dX10_isOpen_21 : decode cX10_isOpen 21 = .ok (.if_icmp .ne 7, 3) := by decide +kernel
theorem dX10_isOpen_24 : decode cX10_isOpen 24 = .ok (.iconst 1, 1) := by decide +kernel
theorem dX10_isOpen_25 : decode cX10_isOpen 25 = .ok (.goto 4, 3) := by decide +kernel
theorem dX10_isOpen_28 : decode cX10_isOpen 28 = .ok (.iconst 0, 1) := by decide +kernel
theorem dX10_isOpen_29 : decode cX10_isOpen 29 = .ok (.istore_n 2, 1) := by decide +kernel
theorem dX10_isOpen_30 : decode cX10_isOpen 30 = .ok (.iinc 3 1, 3) := by decide +kernel
theorem dX10_isOpen_33 : decode cX10_isOpen 33 = .ok (.goto (-29), 3) := by decide +kernel
theorem dX10_isOpen_36 : decode cX10_isOpen 36 = .ok (.iload_n 2, 1) := by decide +kernel
theorem dX10_isOpen_37 : decode cX10_isOpen 37 = .ok (.ireturn, 1) := by decide +kernel
theorem dX10_word_0 : decode cX10_word 0 = .ok (.aload_n 0, 1) := by decide +kernel
theorem dX10_word_1 : decode cX10_word 1 = .ok (.getfield 147, 3) := by decide +kernel
theorem dX10_word_4 : decode cX10_word 4 = .ok (.bipush 7, 2) := by decide +kernel
theorem dX10_word_6 : decode cX10_word 6 = .ok (.iadd, 1) := by decide +kernel
theorem dX10_word_7 : decode cX10_word 7 = .ok (.aload_n 0, 1) := by decide +kernel
theorem dX10_word_8 : decode cX10_word 8 = .ok (.getfield 150, 3) := by decide +kernel
theorem dX10_word_11 : decode cX10_word 11 = .ok (.if_icmp .gt 7, 3) := by decide +kernel
theorem dX10_word_14 : decode cX10_word 14 = .ok (.iconst 1, 1) := by decide +kernel
theorem dX10_word_15 : decode cX10_word 15 = .ok (.goto 4, 3) := by decide +kernel
theorem dX10_word_18 : decode cX10_word 18 = .ok (.iconst 0, 1) := by decide +kernel
theorem dX10_word_19 : decode cX10_word 19 = .ok (.istore_n 2, 1) := by decide +kernel
theorem dX10_word_20 : decode cX10_word 20 = .ok (.iconst 0, 1) := by decide +kernel
theorem dX10_word_21 : decode cX10_word 21 = .ok (.istore_n 3, 1) := by decide +kernel
theorem dX10_word_22 : decode cX10_word 22 = .ok (.iload_n 3, 1) := by decide +kernel
theorem dX10_word_23 : decode cX10_word 23 = .ok (.bipush 7, 2) := by decide +kernel
theorem dX10_word_25 : decode cX10_word 25 = .ok (.if_icmp .ge 52, 3) := by decide +kernel
theorem dX10_word_28 : decode cX10_word 28 = .ok (.iload_n 2, 1) := by decide +kernel
theorem dX10_word_29 : decode cX10_word 29 = .ok (.ifCond .eq 48, 3) := by decide +kernel
theorem dX10_word_32 : decode cX10_word 32 = .ok (.aload_n 0, 1) := by decide +kernel
theorem dX10_word_33 : decode cX10_word 33 = .ok (.getfield 28, 3) := by decide +kernel
theorem dX10_word_36 : decode cX10_word 36 = .ok (.aload_n 0, 1) := by decide +kernel
theorem dX10_word_37 : decode cX10_word 37 = .ok (.getfield 147, 3) := by decide +kernel
theorem dX10_word_40 : decode cX10_word 40 = .ok (.iload_n 3, 1) := by decide +kernel
theorem dX10_word_41 : decode cX10_word 41 = .ok (.iadd, 1) := by decide +kernel
theorem dX10_word_42 : decode cX10_word 42 = .ok (.caload, 1) := by decide +kernel
theorem dX10_word_43 : decode cX10_word 43 = .ok (.iload_n 1, 1) := by decide +kernel
theorem dX10_word_44 : decode cX10_word 44 = .ok (.ifCond .eq 12, 3) := by decide +kernel
theorem dX10_word_47 : decode cX10_word 47 = .ok (.aload_n 0, 1) := by decide +kernel
theorem dX10_word_48 : decode cX10_word 48 = .ok (.getfield 82, 3) := by decide +kernel
theorem dX10_word_51 : decode cX10_word 51 = .ok (.iload_n 3, 1) := by decide +kernel
theorem dX10_word_52 : decode cX10_word 52 = .ok (.caload, 1) := by decide +kernel
theorem dX10_word_53 : decode cX10_word 53 = .ok (.goto 9, 3) := by decide +kernel
theorem dX10_word_56 : decode cX10_word 56 = .ok (.aload_n 0, 1) := by decide +kernel
theorem dX10_word_57 : decode cX10_word 57 = .ok (.getfield 85, 3) := by decide +kernel
theorem dX10_word_60 : decode cX10_word 60 = .ok (.iload_n 3, 1) := by decide +kernel
theorem dX10_word_61 : decode cX10_word 61 = .ok (.caload, 1) := by decide +kernel
theorem dX10_word_62 : decode cX10_word 62 = .ok (.if_icmp .ne 7, 3) := by decide +kernel
theorem dX10_word_65 : decode cX10_word 65 = .ok (.iconst 1, 1) := by decide +kernel
theorem dX10_word_66 : decode cX10_word 66 = .ok (.goto 4, 3) := by decide +kernel
theorem dX10_word_69 : decode cX10_word 69 = .ok (.iconst 0, 1) := by decide +kernel
theorem dX10_word_70 : decode cX10_word 70 = .ok (.istore_n 2, 1) := by decide +kernel
theorem dX10_word_71 : decode cX10_word 71 = .ok (.iinc 3 1, 3) := by decide +kernel
theorem dX10_word_74 : decode cX10_word 74 = .ok (.goto (-52), 3) := by decide +kernel
theorem dX10_word_77 : decode cX10_word 77 = .ok (.aload_n 0, 1) := by decide +kernel
theorem dX10_word_78 : decode cX10_word 78 = .ok (.iload_n 2, 1) := by decide +kernel
theorem dX10_word_79 : decode cX10_word 79 = .ok (.ifCond .eq 13, 3) := by decide +kernel
theorem dX10_word_82 : decode cX10_word 82 = .ok (.aload_n 0, 1) := by decide +kernel
theorem dX10_word_83 : decode cX10_word 83 = .ok (.getfield 147, 3) := by decide +kernel
theorem dX10_word_86 : decode cX10_word 86 = .ok (.bipush 7, 2) := by decide +kernel
theorem dX10_word_88 : decode cX10_word 88 = .ok (.iadd, 1) := by decide +kernel
theorem dX10_word_89 : decode cX10_word 89 = .ok (.goto 7, 3) := by decide +kernel
theorem dX10_word_92 : decode cX10_word 92 = .ok (.aload_n 0, 1) := by decide +kernel
theorem dX10_word_93 : decode cX10_word 93 = .ok (.getfield 147, 3) := by decide +kernel
theorem dX10_word_96 : decode cX10_word 96 = .ok (.putfield 147, 3) := by decide +kernel
theorem dX10_word_99 : decode cX10_word 99 = .ok (.iload_n 2, 1) := by decide +kernel
theorem dX10_word_100 : decode cX10_word 100 = .ok (.ireturn, 1) := by decide +kernel
theorem dX10_property_0 : decode cX10_property 0 = .ok (.iload_n 0, 1) := by decide +kernel
theorem dX10_property_1 : decode cX10_property 1 = .ok (.bipush 99, 2) := by decide +kernel
theorem dX10_property_3 : decode cX10_property 3 = .ok (.if_icmp .ne 7, 3) := by decide +kernel
theorem dX10_property_6 : decode cX10_property 6 = .ok (.iconst 0, 1) := by decide +kernel
theorem dX10_property_7 : decode cX10_property 7 = .ok (.goto 54, 3) := by decide +kernel
theorem dX10_property_10 : decode cX10_property 10 = .ok (.iload_n 0, 1) := by decide +kernel
theorem dX10_property_11 : decode cX10_property 11 = .ok (.bipush 102, 2) := by decide +kernel
theorem dX10_property_13 : decode cX10_property 13 = .ok (.if_icmp .ne 7, 3) := by decide +kernel
theorem dX10_property_16 : decode cX10_property 16 = .ok (.iconst 1, 1) := by decide +kernel
theorem dX10_property_17 : decode cX10_property 17 = .ok (.goto 44, 3) := by decide +kernel
theorem dX10_property_20 : decode cX10_property 20 = .ok (.iload_n 0, 1) := by decide +kernel
theorem dX10_property_21 : decode cX10_property 21 = .ok (.bipush 119, 2) := by decide +kernel
theorem dX10_property_23 : decode cX10_property 23 = .ok (.if_icmp .ne 7, 3) := by decide +kernel
theorem dX10_property_26 : decode cX10_property 26 = .ok (.iconst 2, 1) := by decide +kernel
theorem dX10_property_27 : decode cX10_property 27 = .ok (.goto 34, 3) := by decide +kernel
theorem dX10_property_30 : decode cX10_property 30 = .ok (.iload_n 0, 1) := by decide +kernel
theorem dX10_property_31 : decode cX10_property 31 = .ok (.bipush 104, 2) := by decide +kernel
theorem dX10_property_33 : decode cX10_property 33 = .ok (.if_icmp .ne 7, 3) := by decide +kernel
theorem dX10_property_36 : decode cX10_property 36 = .ok (.iconst 3, 1) := by decide +kernel
theorem dX10_property_37 : decode cX10_property 37 = .ok (.goto 24, 3) := by decide +kernel
theorem dX10_property_40 : decode cX10_property 40 = .ok (.iload_n 0, 1) := by decide +kernel
theorem dX10_property_41 : decode cX10_property 41 = .ok (.bipush 109, 2) := by decide +kernel
theorem dX10_property_43 : decode cX10_property 43 = .ok (.if_icmp .ne 7, 3) := by decide +kernel
theorem dX10_property_46 : decode cX10_property 46 = .ok (.iconst 4, 1) := by decide +kernel
theorem dX10_property_47 : decode cX10_property 47 = .ok (.goto 14, 3) := by decide +kernel
theorem dX10_property_50 : decode cX10_property 50 = .ok (.iload_n 0, 1) := by decide +kernel
theorem dX10_property_51 : decode cX10_property 51 = .ok (.bipush 122, 2) := by decide +kernel
theorem dX10_property_53 : decode cX10_property 53 = .ok (.if_icmp .ne 7, 3) := by decide +kernel
theorem dX10_property_56 : decode cX10_property 56 = .ok (.iconst 5, 1) := by decide +kernel
theorem dX10_property_57 : decode cX10_property 57 = .ok (.goto 4, 3) := by decide +kernel
theorem dX10_property_60 : decode cX10_property 60 = .ok (.iconst (-1), 1) := by decide +kernel
theorem dX10_property_61 : decode cX10_property 61 = .ok (.ireturn, 1) := by decide +kernel
theorem dX10_readDeclaration_0 : decode cX10_readDeclaration 0 = .ok (.aload_n 0, 1) := by decide +kernel
theorem dX10_readDeclaration_1 : decode cX10_readDeclaration 1 = .ok (.getfield 166, 3) := by decide +kernel
theorem dX10_readDeclaration_4 : decode cX10_readDeclaration 4 = .ok (.istore_n 1, 1) := by decide +kernel
theorem dX10_readDeclaration_5 : decode cX10_readDeclaration 5 = .ok (.aload_n 0, 1) := by decide +kernel
theorem dX10_readDeclaration_6 : decode cX10_readDeclaration 6 = .ok (.bipush 36, 2) := by decide +kernel
theorem dX10_readDeclaration_8 : decode cX10_readDeclaration 8 = .ok (.invokevirtual 176, 3) := by decide +kernel
theorem dX10_readDeclaration_11 : decode cX10_readDeclaration 11 = .ok (.istore_n 2, 1) := by decide +kernel
theorem dX10_readDeclaration_12 : decode cX10_readDeclaration 12 = .ok (.aload_n 0, 1) := by decide +kernel
theorem dX10_readDeclaration_13 : decode cX10_readDeclaration 13 = .ok (.getfield 59, 3) := by decide +kernel
theorem dX10_readDeclaration_16 : decode cX10_readDeclaration 16 = .ok (.iload_n 1, 1) := by decide +kernel
theorem dX10_readDeclaration_17 : decode cX10_readDeclaration 17 = .ok (.iload_n 2, 1) := by decide +kernel
theorem dX10_readDeclaration_18 : decode cX10_readDeclaration 18 = .ok (.ifCond .eq 18, 3) := by decide +kernel
theorem dX10_readDeclaration_21 : decode cX10_readDeclaration 21 = .ok (.bipush 6, 2) := by decide +kernel
theorem dX10_readDeclaration_23 : decode cX10_readDeclaration 23 = .ok (.aload_n 0, 1) := by decide +kernel
theorem dX10_readDeclaration_24 : decode cX10_readDeclaration 24 = .ok (.bipush 100, 2) := by decide +kernel
theorem dX10_readDeclaration_26 : decode cX10_readDeclaration 26 = .ok (.invokevirtual 200, 3) := by decide +kernel
theorem dX10_readDeclaration_29 : decode cX10_readDeclaration 29 = .ok (.iadd, 1) := by decide +kernel
theorem dX10_readDeclaration_30 : decode cX10_readDeclaration 30 = .ok (.bipush 97, 2) := by decide +kernel
theorem dX10_readDeclaration_32 : decode cX10_readDeclaration 32 = .ok (.isub, 1) := by decide +kernel
theorem dX10_readDeclaration_33 : decode cX10_readDeclaration 33 = .ok (.goto 12, 3) := by decide +kernel
theorem dX10_readDeclaration_36 : decode cX10_readDeclaration 36 = .ok (.aload_n 0, 1) := by decide +kernel
theorem dX10_readDeclaration_37 : decode cX10_readDeclaration 37 = .ok (.bipush 122, 2) := by decide +kernel
theorem dX10_readDeclaration_39 : decode cX10_readDeclaration 39 = .ok (.invokevirtual 200, 3) := by decide +kernel
theorem dX10_readDeclaration_42 : decode cX10_readDeclaration 42 = .ok (.invokestatic 255, 3) := by decide +kernel
theorem dX10_readDeclaration_45 : decode cX10_readDeclaration 45 = .ok (.iastore, 1) := by decide +kernel
theorem dX10_readDeclaration_46 : decode cX10_readDeclaration 46 = .ok (.aload_n 0, 1) := by decide +kernel
theorem dX10_readDeclaration_47 : decode cX10_readDeclaration 47 = .ok (.aload_n 0, 1) := by decide +kernel
theorem dX10_readDeclaration_48 : decode cX10_readDeclaration 48 = .ok (.getfield 59, 3) := by decide +kernel
theorem dX10_readDeclaration_51 : decode cX10_readDeclaration 51 = .ok (.iload_n 1, 1) := by decide +kernel
theorem dX10_readDeclaration_52 : decode cX10_readDeclaration 52 = .ok (.iaload, 1) := by decide +kernel
theorem dX10_readDeclaration_53 : decode cX10_readDeclaration 53 = .ok (.iconst (-1), 1) := by decide +kernel
theorem dX10_readDeclaration_54 : decode cX10_readDeclaration 54 = .ok (.if_icmp .eq 7, 3) := by decide +kernel
theorem dX10_readDeclaration_57 : decode cX10_readDeclaration 57 = .ok (.iconst 1, 1) := by decide +kernel
theorem dX10_readDeclaration_58 : decode cX10_readDeclaration 58 = .ok (.goto 4, 3) := by decide +kernel
theorem dX10_readDeclaration_61 : decode cX10_readDeclaration 61 = .ok (.iconst 0, 1) := by decide +kernel
theorem dX10_readDeclaration_62 : decode cX10_readDeclaration 62 = .ok (.invokevirtual 180, 3) := by decide +kernel
theorem dX10_readDeclaration_65 : decode cX10_readDeclaration 65 = .ok (.aload_n 0, 1) := by decide +kernel
theorem dX10_readDeclaration_66 : decode cX10_readDeclaration 66 = .ok (.bipush 58, 2) := by decide +kernel
theorem dX10_readDeclaration_68 : decode cX10_readDeclaration 68 = .ok (.invokevirtual 188, 3) := by decide +kernel
theorem dX10_readDeclaration_71 : decode cX10_readDeclaration 71 = .ok (.aload_n 0, 1) := by decide +kernel
theorem dX10_readDeclaration_72 : decode cX10_readDeclaration 72 = .ok (.getfield 69, 3) := by decide +kernel
theorem dX10_readDeclaration_75 : decode cX10_readDeclaration 75 = .ok (.iload_n 1, 1) := by decide +kernel
theorem dX10_readDeclaration_76 : decode cX10_readDeclaration 76 = .ok (.aload_n 0, 1) := by decide +kernel
theorem dX10_readDeclaration_77 : decode cX10_readDeclaration 77 = .ok (.getfield 169, 3) := by decide +kernel
theorem dX10_readDeclaration_80 : decode cX10_readDeclaration 80 = .ok (.iastore, 1) := by decide +kernel
theorem dX10_readDeclaration_81 : decode cX10_readDeclaration 81 = .ok (.aload_n 0, 1) := by decide +kernel
theorem dX10_readDeclaration_82 : decode cX10_readDeclaration 82 = .ok (.getfield 62, 3) := by decide +kernel
theorem dX10_readDeclaration_85 : decode cX10_readDeclaration 85 = .ok (.iload_n 1, 1) := by decide +kernel
theorem dX10_readDeclaration_86 : decode cX10_readDeclaration 86 = .ok (.aload_n 0, 1) := by decide +kernel
theorem dX10_readDeclaration_87 : decode cX10_readDeclaration 87 = .ok (.getfield 153, 3) := by decide +kernel
theorem dX10_readDeclaration_90 : decode cX10_readDeclaration 90 = .ok (.ifCond .ne 7, 3) := by decide +kernel
theorem dX10_readDeclaration_93 : decode cX10_readDeclaration 93 = .ok (.iconst 1, 1) := by decide +kernel
theorem dX10_readDeclaration_94 : decode cX10_readDeclaration 94 = .ok (.goto 28, 3) := by decide +kernel
theorem dX10_readDeclaration_97 : decode cX10_readDeclaration 97 = .ok (.aload_n 0, 1) := by decide +kernel
theorem dX10_readDeclaration_98 : decode cX10_readDeclaration 98 = .ok (.iconst 1, 1) := by decide +kernel
theorem dX10_readDeclaration_99 : decode cX10_readDeclaration 99 = .ok (.invokevirtual 258, 3) := by decide +kernel
theorem dX10_readDeclaration_102 : decode cX10_readDeclaration 102 = .ok (.ifCond .eq 7, 3) := by decide +kernel
theorem dX10_readDeclaration_105 : decode cX10_readDeclaration 105 = .ok (.iconst 2, 1) := by decide +kernel
theorem dX10_readDeclaration_106 : decode cX10_readDeclaration 106 = .ok (.goto 16, 3) := by decide +kernel
theorem dX10_readDeclaration_109 : decode cX10_readDeclaration 109 = .ok (.aload_n 0, 1) := by decide +kernel
theorem dX10_readDeclaration_110 : decode cX10_readDeclaration 110 = .ok (.iconst 0, 1) := by decide +kernel
theorem dX10_readDeclaration_111 : decode cX10_readDeclaration 111 = .ok (.invokevirtual 258, 3) := by decide +kernel
theorem dX10_readDeclaration_114 : decode cX10_readDeclaration 114 = .ok (.ifCond .eq 7, 3) := by decide +kernel
theorem dX10_readDeclaration_117 : decode cX10_readDeclaration 117 = .ok (.iconst 1, 1) := by decide +kernel
theorem dX10_readDeclaration_118 : decode cX10_readDeclaration 118 = .ok (.goto 4, 3) := by decide +kernel
theorem dX10_readDeclaration_121 : decode cX10_readDeclaration 121 = .ok (.iconst 0, 1) := by decide +kernel
theorem dX10_readDeclaration_122 : decode cX10_readDeclaration 122 = .ok (.iastore, 1) := by decide +kernel
theorem dX10_readDeclaration_123 : decode cX10_readDeclaration 123 = .ok (.aload_n 0, 1) := by decide +kernel
theorem dX10_readDeclaration_124 : decode cX10_readDeclaration 124 = .ok (.getfield 153, 3) := by decide +kernel
theorem dX10_readDeclaration_127 : decode cX10_readDeclaration 127 = .ok (.ifCond .eq 16, 3) := by decide +kernel
theorem dX10_readDeclaration_130 : decode cX10_readDeclaration 130 = .ok (.aload_n 0, 1) := by decide +kernel
theorem dX10_readDeclaration_131 : decode cX10_readDeclaration 131 = .ok (.getfield 62, 3) := by decide +kernel
theorem dX10_readDeclaration_134 : decode cX10_readDeclaration 134 = .ok (.iload_n 1, 1) := by decide +kernel
theorem dX10_readDeclaration_135 : decode cX10_readDeclaration 135 = .ok (.iaload, 1) := by decide +kernel
theorem dX10_readDeclaration_136 : decode cX10_readDeclaration 136 = .ok (.ifCond .ne 7, 3) := by decide +kernel
theorem dX10_readDeclaration_139 : decode cX10_readDeclaration 139 = .ok (.aload_n 0, 1) := by decide +kernel
theorem dX10_readDeclaration_140 : decode cX10_readDeclaration 140 = .ok (.invokevirtual 262, 3) := by decide +kernel
theorem dX10_readDeclaration_143 : decode cX10_readDeclaration 143 = .ok (.aload_n 0, 1) := by decide +kernel
theorem dX10_readDeclaration_144 : decode cX10_readDeclaration 144 = .ok (.getfield 65, 3) := by decide +kernel
theorem dX10_readDeclaration_147 : decode cX10_readDeclaration 147 = .ok (.iload_n 1, 1) := by decide +kernel
theorem dX10_readDeclaration_148 : decode cX10_readDeclaration 148 = .ok (.aload_n 0, 1) := by decide +kernel
theorem dX10_readDeclaration_149 : decode cX10_readDeclaration 149 = .ok (.bipush 33, 2) := by decide +kernel
theorem dX10_readDeclaration_151 : decode cX10_readDeclaration 151 = .ok (.invokevirtual 176, 3) := by decide +kernel
theorem dX10_readDeclaration_154 : decode cX10_readDeclaration 154 = .ok (.bastore, 1) := by decide +kernel
theorem dX10_readDeclaration_155 : decode cX10_readDeclaration 155 = .ok (.aload_n 0, 1) := by decide +kernel
theorem dX10_readDeclaration_156 : decode cX10_readDeclaration 156 = .ok (.dup, 1) := by decide +kernel
theorem dX10_readDeclaration_157 : decode cX10_readDeclaration 157 = .ok (.getfield 166, 3) := by decide +kernel
theorem dX10_readDeclaration_160 : decode cX10_readDeclaration 160 = .ok (.iconst 1, 1) := by decide +kernel
theorem dX10_readDeclaration_161 : decode cX10_readDeclaration 161 = .ok (.iadd, 1) := by decide +kernel
theorem dX10_readDeclaration_162 : decode cX10_readDeclaration 162 = .ok (.putfield 166, 3) := by decide +kernel
theorem dX10_readDeclaration_165 : decode cX10_readDeclaration 165 = .ok (.aload_n 0, 1) := by decide +kernel
theorem dX10_readDeclaration_166 : decode cX10_readDeclaration 166 = .ok (.getfield 69, 3) := by decide +kernel
theorem dX10_readDeclaration_169 : decode cX10_readDeclaration 169 = .ok (.iload_n 1, 1) := by decide +kernel
theorem dX10_readDeclaration_170 : decode cX10_readDeclaration 170 = .ok (.iconst 1, 1) := by decide +kernel
theorem dX10_readDeclaration_171 : decode cX10_readDeclaration 171 = .ok (.iadd, 1) := by decide +kernel
theorem dX10_readDeclaration_172 : decode cX10_readDeclaration 172 = .ok (.aload_n 0, 1) := by decide +kernel
theorem dX10_readDeclaration_173 : decode cX10_readDeclaration 173 = .ok (.getfield 169, 3) := by decide +kernel
theorem dX10_readDeclaration_176 : decode cX10_readDeclaration 176 = .ok (.iastore, 1) := by decide +kernel
theorem dX10_readDeclaration_177 : decode cX10_readDeclaration 177 = .ok (.return_, 1) := by decide +kernel
theorem dX10_readRule_0 : decode cX10_readRule 0 = .ok (.aload_n 0, 1) := by decide +kernel
theorem dX10_readRule_1 : decode cX10_readRule 1 = .ok (.iload_n 1, 1) := by decide +kernel
theorem dX10_readRule_2 : decode cX10_readRule 2 = .ok (.invokevirtual 265, 3) := by decide +kernel
theorem dX10_readRule_5 : decode cX10_readRule 5 = .ok (.aload_n 0, 1) := by decide +kernel
theorem dX10_readRule_6 : decode cX10_readRule 6 = .ok (.invokevirtual 268, 3) := by decide +kernel
theorem dX10_readRule_9 : decode cX10_readRule 9 = .ok (.aload_n 0, 1) := by decide +kernel
theorem dX10_readRule_10 : decode cX10_readRule 10 = .ok (.bipush 123, 2) := by decide +kernel
theorem dX10_readRule_12 : decode cX10_readRule 12 = .ok (.invokevirtual 188, 3) := by decide +kernel
theorem dX10_readRule_15 : decode cX10_readRule 15 = .ok (.aload_n 0, 1) := by decide +kernel
theorem dX10_readRule_16 : decode cX10_readRule 16 = .ok (.getfield 153, 3) := by decide +kernel
theorem dX10_readRule_19 : decode cX10_readRule 19 = .ok (.ifCond .eq 7, 3) := by decide +kernel
theorem dX10_readRule_22 : decode cX10_readRule 22 = .ok (.aload_n 0, 1) := by decide +kernel
theorem dX10_readRule_23 : decode cX10_readRule 23 = .ok (.invokevirtual 271, 3) := by decide +kernel
theorem dX10_readRule_26 : decode cX10_readRule 26 = .ok (.aload_n 0, 1) := by decide +kernel
theorem dX10_readRule_27 : decode cX10_readRule 27 = .ok (.getfield 153, 3) := by decide +kernel
theorem dX10_readRule_30 : decode cX10_readRule 30 = .ok (.ifCond .eq 43, 3) := by decide +kernel
theorem dX10_readRule_33 : decode cX10_readRule 33 = .ok (.aload_n 0, 1) := by decide +kernel
theorem dX10_readRule_34 : decode cX10_readRule 34 = .ok (.bipush 59, 2) := by decide +kernel
theorem dX10_readRule_36 : decode cX10_readRule 36 = .ok (.invokevirtual 176, 3) := by decide +kernel
theorem dX10_readRule_39 : decode cX10_readRule 39 = .ok (.ifCond .eq 34, 3) := by decide +kernel
theorem dX10_readRule_42 : decode cX10_readRule 42 = .ok (.aload_n 0, 1) := by decide +kernel
theorem dX10_readRule_43 : decode cX10_readRule 43 = .ok (.aload_n 0, 1) := by decide +kernel
theorem dX10_readRule_44 : decode cX10_readRule 44 = .ok (.getfield 166, 3) := by decide +kernel
theorem dX10_readRule_47 : decode cX10_readRule 47 = .ok (.iconst 4, 1) := by decide +kernel
theorem dX10_readRule_48 : decode cX10_readRule 48 = .ok (.if_icmp .ge 7, 3) := by decide +kernel
theorem dX10_readRule_51 : decode cX10_readRule 51 = .ok (.iconst 1, 1) := by decide +kernel
theorem dX10_readRule_52 : decode cX10_readRule 52 = .ok (.goto 4, 3) := by decide +kernel
theorem dX10_readRule_55 : decode cX10_readRule 55 = .ok (.iconst 0, 1) := by decide +kernel
theorem dX10_readRule_56 : decode cX10_readRule 56 = .ok (.invokevirtual 180, 3) := by decide +kernel
theorem dX10_readRule_59 : decode cX10_readRule 59 = .ok (.aload_n 0, 1) := by decide +kernel
theorem dX10_readRule_60 : decode cX10_readRule 60 = .ok (.getfield 153, 3) := by decide +kernel
theorem dX10_readRule_63 : decode cX10_readRule 63 = .ok (.ifCond .eq (-37), 3) := by decide +kernel
theorem dX10_readRule_66 : decode cX10_readRule 66 = .ok (.aload_n 0, 1) := by decide +kernel
theorem dX10_readRule_67 : decode cX10_readRule 67 = .ok (.invokevirtual 271, 3) := by decide +kernel
theorem dX10_readRule_70 : decode cX10_readRule 70 = .ok (.goto (-44), 3) := by decide +kernel
theorem dX10_readRule_73 : decode cX10_readRule 73 = .ok (.aload_n 0, 1) := by decide +kernel
theorem dX10_readRule_74 : decode cX10_readRule 74 = .ok (.bipush 125, 2) := by decide +kernel
theorem dX10_readRule_76 : decode cX10_readRule 76 = .ok (.invokevirtual 188, 3) := by decide +kernel
theorem dX10_readRule_79 : decode cX10_readRule 79 = .ok (.aload_n 0, 1) := by decide +kernel
theorem dX10_readRule_80 : decode cX10_readRule 80 = .ok (.aload_n 0, 1) := by decide +kernel
theorem dX10_readRule_81 : decode cX10_readRule 81 = .ok (.getfield 147, 3) := by decide +kernel
theorem dX10_readRule_84 : decode cX10_readRule 84 = .ok (.aload_n 0, 1) := by decide +kernel
theorem dX10_readRule_85 : decode cX10_readRule 85 = .ok (.getfield 150, 3) := by decide +kernel
theorem dX10_readRule_88 : decode cX10_readRule 88 = .ok (.if_icmp .ne 7, 3) := by decide +kernel
theorem dX10_readRule_91 : decode cX10_readRule 91 = .ok (.iconst 1, 1) := by decide +kernel
theorem dX10_readRule_92 : decode cX10_readRule 92 = .ok (.goto 4, 3) := by decide +kernel
theorem dX10_readRule_95 : decode cX10_readRule 95 = .ok (.iconst 0, 1) := by decide +kernel
theorem dX10_readRule_96 : decode cX10_readRule 96 = .ok (.invokevirtual 180, 3) := by decide +kernel
theorem dX10_readRule_99 : decode cX10_readRule 99 = .ok (.aload_n 0, 1) := by decide +kernel
theorem dX10_readRule_100 : decode cX10_readRule 100 = .ok (.getfield 153, 3) := by decide +kernel
theorem dX10_readRule_103 : decode cX10_readRule 103 = .ok (.ireturn, 1) := by decide +kernel
theorem dX10_move_0 : decode cX10_move 0 = .ok (.iconst 0, 1) := by decide +kernel
theorem dX10_move_1 : decode cX10_move 1 = .ok (.istore_n 3, 1) := by decide +kernel
theorem dX10_move_2 : decode cX10_move 2 = .ok (.iload_n 3, 1) := by decide +kernel
theorem dX10_move_3 : decode cX10_move 3 = .ok (.aload_n 0, 1) := by decide +kernel
theorem dX10_move_4 : decode cX10_move 4 = .ok (.getfield 32, 3) := by decide +kernel
theorem dX10_move_7 : decode cX10_move 7 = .ok (.iload_n 1, 1) := by decide +kernel
theorem dX10_move_8 : decode cX10_move 8 = .ok (.iaload, 1) := by decide +kernel
theorem dX10_move_9 : decode cX10_move 9 = .ok (.if_icmp .ge 31, 3) := by decide +kernel
theorem dX10_move_12 : decode cX10_move 12 = .ok (.aload_n 0, 1) := by decide +kernel
theorem dX10_move_13 : decode cX10_move 13 = .ok (.getfield 28, 3) := by decide +kernel
theorem dX10_move_16 : decode cX10_move 16 = .ok (.bipush 120, 2) := by decide +kernel
theorem dX10_move_18 : decode cX10_move 18 = .ok (.iload_n 2, 1) := by decide +kernel
theorem dX10_move_19 : decode cX10_move 19 = .ok (.imul, 1) := by decide +kernel
theorem dX10_move_20 : decode cX10_move 20 = .ok (.iload_n 3, 1) := by decide +kernel
theorem dX10_move_21 : decode cX10_move 21 = .ok (.iadd, 1) := by decide +kernel
theorem dX10_move_22 : decode cX10_move 22 = .ok (.aload_n 0, 1) := by decide +kernel
theorem dX10_move_23 : decode cX10_move 23 = .ok (.getfield 28, 3) := by decide +kernel
theorem dX10_move_26 : decode cX10_move 26 = .ok (.bipush 120, 2) := by decide +kernel
theorem dX10_move_28 : decode cX10_move 28 = .ok (.iload_n 1, 1) := by decide +kernel
theorem dX10_move_29 : decode cX10_move 29 = .ok (.imul, 1) := by decide +kernel
theorem dX10_move_30 : decode cX10_move 30 = .ok (.iload_n 3, 1) := by decide +kernel
theorem dX10_move_31 : decode cX10_move 31 = .ok (.iadd, 1) := by decide +kernel
theorem dX10_move_32 : decode cX10_move 32 = .ok (.caload, 1) := by decide +kernel
theorem dX10_move_33 : decode cX10_move 33 = .ok (.castore, 1) := by decide +kernel
theorem dX10_move_34 : decode cX10_move 34 = .ok (.iinc 3 1, 3) := by decide +kernel
theorem dX10_move_37 : decode cX10_move 37 = .ok (.goto (-35), 3) := by decide +kernel
theorem dX10_move_40 : decode cX10_move 40 = .ok (.aload_n 0, 1) := by decide +kernel
theorem dX10_move_41 : decode cX10_move 41 = .ok (.getfield 32, 3) := by decide +kernel
theorem dX10_move_44 : decode cX10_move 44 = .ok (.iload_n 2, 1) := by decide +kernel
theorem dX10_move_45 : decode cX10_move 45 = .ok (.aload_n 0, 1) := by decide +kernel
theorem dX10_move_46 : decode cX10_move 46 = .ok (.getfield 32, 3) := by decide +kernel
theorem dX10_move_49 : decode cX10_move 49 = .ok (.iload_n 1, 1) := by decide +kernel
theorem dX10_move_50 : decode cX10_move 50 = .ok (.iaload, 1) := by decide +kernel
theorem dX10_move_51 : decode cX10_move 51 = .ok (.iastore, 1) := by decide +kernel
theorem dX10_move_52 : decode cX10_move 52 = .ok (.return_, 1) := by decide +kernel
theorem dX10_rule_0 : decode cX10_rule 0 = .ok (.aload_n 0, 1) := by decide +kernel
theorem dX10_rule_1 : decode cX10_rule 1 = .ok (.getfield 274, 3) := by decide +kernel
theorem dX10_rule_4 : decode cX10_rule 4 = .ok (.bipush 16, 2) := by decide +kernel
theorem dX10_rule_6 : decode cX10_rule 6 = .ok (.if_icmp .ge 25, 3) := by decide +kernel
theorem dX10_rule_9 : decode cX10_rule 9 = .ok (.iload_n 1, 1) := by decide +kernel
theorem dX10_rule_10 : decode cX10_rule 10 = .ok (.iconst 0, 1) := by decide +kernel
theorem dX10_rule_11 : decode cX10_rule 11 = .ok (.iconst 2, 1) := by decide +kernel
theorem dX10_rule_12 : decode cX10_rule 12 = .ok (.invokestatic 140, 3) := by decide +kernel
theorem dX10_rule_15 : decode cX10_rule 15 = .ok (.ifCond .ne 16, 3) := by decide +kernel
theorem dX10_rule_18 : decode cX10_rule 18 = .ok (.aload_n 0, 1) := by decide +kernel
theorem dX10_rule_19 : decode cX10_rule 19 = .ok (.bipush 16, 2) := by decide +kernel
theorem dX10_rule_21 : decode cX10_rule 21 = .ok (.invokevirtual 277, 3) := by decide +kernel
theorem dX10_rule_24 : decode cX10_rule 24 = .ok (.ifCond .eq 7, 3) := by decide +kernel
theorem dX10_rule_27 : decode cX10_rule 27 = .ok (.iconst 1, 1) := by decide +kernel
theorem dX10_rule_28 : decode cX10_rule 28 = .ok (.goto 4, 3) := by decide +kernel
theorem dX10_rule_31 : decode cX10_rule 31 = .ok (.iconst 0, 1) := by decide +kernel
theorem dX10_rule_32 : decode cX10_rule 32 = .ok (.istore_n 2, 1) := by decide +kernel
theorem dX10_rule_33 : decode cX10_rule 33 = .ok (.aload_n 0, 1) := by decide +kernel
theorem dX10_rule_34 : decode cX10_rule 34 = .ok (.aload_n 0, 1) := by decide +kernel
theorem dX10_rule_35 : decode cX10_rule 35 = .ok (.getfield 274, 3) := by decide +kernel
theorem dX10_rule_38 : decode cX10_rule 38 = .ok (.bipush 16, 2) := by decide +kernel
theorem dX10_rule_40 : decode cX10_rule 40 = .ok (.if_icmp .ne 7, 3) := by decide +kernel
theorem dX10_rule_43 : decode cX10_rule 43 = .ok (.iconst 1, 1) := by decide +kernel
theorem dX10_rule_44 : decode cX10_rule 44 = .ok (.goto 12, 3) := by decide +kernel
theorem dX10_rule_47 : decode cX10_rule 47 = .ok (.iload_n 2, 1) := by decide +kernel
theorem dX10_rule_48 : decode cX10_rule 48 = .ok (.ifCond .eq 7, 3) := by decide +kernel
theorem dX10_rule_51 : decode cX10_rule 51 = .ok (.iconst 0, 1) := by decide +kernel
theorem dX10_rule_52 : decode cX10_rule 52 = .ok (.goto 4, 3) := by decide +kernel
theorem dX10_rule_55 : decode cX10_rule 55 = .ok (.iconst 2, 1) := by decide +kernel
theorem dX10_rule_56 : decode cX10_rule 56 = .ok (.putfield 133, 3) := by decide +kernel
theorem dX10_rule_59 : decode cX10_rule 59 = .ok (.iload_n 2, 1) := by decide +kernel
theorem dX10_rule_60 : decode cX10_rule 60 = .ok (.ifCond .eq 33, 3) := by decide +kernel
theorem dX10_rule_63 : decode cX10_rule 63 = .ok (.aload_n 0, 1) := by decide +kernel
theorem dX10_rule_64 : decode cX10_rule 64 = .ok (.bipush 16, 2) := by decide +kernel
theorem dX10_rule_66 : decode cX10_rule 66 = .ok (.aload_n 0, 1) := by decide +kernel
theorem dX10_rule_67 : decode cX10_rule 67 = .ok (.getfield 274, 3) := by decide +kernel
theorem dX10_rule_70 : decode cX10_rule 70 = .ok (.invokevirtual 280, 3) := by decide +kernel
theorem dX10_rule_73 : decode cX10_rule 73 = .ok (.aload_n 0, 1) := by decide +kernel
theorem dX10_rule_74 : decode cX10_rule 74 = .ok (.getfield 35, 3) := by decide +kernel
theorem dX10_rule_77 : decode cX10_rule 77 = .ok (.aload_n 0, 1) := by decide +kernel
theorem dX10_rule_78 : decode cX10_rule 78 = .ok (.getfield 274, 3) := by decide +kernel
theorem dX10_rule_81 : decode cX10_rule 81 = .ok (.iload_n 1, 1) := by decide +kernel
theorem dX10_rule_82 : decode cX10_rule 82 = .ok (.iastore, 1) := by decide +kernel
theorem dX10_rule_83 : decode cX10_rule 83 = .ok (.aload_n 0, 1) := by decide +kernel
theorem dX10_rule_84 : decode cX10_rule 84 = .ok (.dup, 1) := by decide +kernel
theorem dX10_rule_85 : decode cX10_rule 85 = .ok (.getfield 274, 3) := by decide +kernel
theorem dX10_rule_88 : decode cX10_rule 88 = .ok (.iconst 1, 1) := by decide +kernel
theorem dX10_rule_89 : decode cX10_rule 89 = .ok (.iadd, 1) := by decide +kernel
theorem dX10_rule_90 : decode cX10_rule 90 = .ok (.putfield 274, 3) := by decide +kernel
theorem dX10_rule_93 : decode cX10_rule 93 = .ok (.aload_n 0, 1) := by decide +kernel
theorem dX10_rule_94 : decode cX10_rule 94 = .ok (.getfield 32, 3) := by decide +kernel
theorem dX10_rule_97 : decode cX10_rule 97 = .ok (.bipush 16, 2) := by decide +kernel
theorem dX10_rule_99 : decode cX10_rule 99 = .ok (.iconst 0, 1) := by decide +kernel
theorem dX10_rule_100 : decode cX10_rule 100 = .ok (.iastore, 1) := by decide +kernel
theorem dX10_rule_101 : decode cX10_rule 101 = .ok (.iload_n 2, 1) := by decide +kernel
theorem dX10_rule_102 : decode cX10_rule 102 = .ok (.ifCond .eq 12, 3) := by decide +kernel
theorem dX10_rule_105 : decode cX10_rule 105 = .ok (.aload_n 0, 1) := by decide +kernel
theorem dX10_rule_106 : decode cX10_rule 106 = .ok (.getfield 274, 3) := by decide +kernel
theorem dX10_rule_109 : decode cX10_rule 109 = .ok (.iconst 1, 1) := by decide +kernel
theorem dX10_rule_110 : decode cX10_rule 110 = .ok (.isub, 1) := by decide +kernel
theorem dX10_rule_111 : decode cX10_rule 111 = .ok (.goto 4, 3) := by decide +kernel
theorem dX10_rule_114 : decode cX10_rule 114 = .ok (.iconst 0, 1) := by decide +kernel
theorem dX10_rule_115 : decode cX10_rule 115 = .ok (.ireturn, 1) := by decide +kernel
theorem dX10_drop_0 : decode cX10_drop 0 = .ok (.aload_n 0, 1) := by decide +kernel
theorem dX10_drop_1 : decode cX10_drop 1 = .ok (.iload_n 1, 1) := by decide +kernel
theorem dX10_drop_2 : decode cX10_drop 2 = .ok (.iconst 0, 1) := by decide +kernel
theorem dX10_drop_3 : decode cX10_drop 3 = .ok (.aload_n 0, 1) := by decide +kernel
theorem dX10_drop_4 : decode cX10_drop 4 = .ok (.getfield 274, 3) := by decide +kernel
theorem dX10_drop_7 : decode cX10_drop 7 = .ok (.iconst 1, 1) := by decide +kernel
theorem dX10_drop_8 : decode cX10_drop 8 = .ok (.isub, 1) := by decide +kernel
theorem dX10_drop_9 : decode cX10_drop 9 = .ok (.invokestatic 140, 3) := by decide +kernel
theorem dX10_drop_12 : decode cX10_drop 12 = .ok (.ifCond .eq 7, 3) := by decide +kernel
theorem dX10_drop_15 : decode cX10_drop 15 = .ok (.iconst 1, 1) := by decide +kernel
theorem dX10_drop_16 : decode cX10_drop 16 = .ok (.goto 4, 3) := by decide +kernel
theorem dX10_drop_19 : decode cX10_drop 19 = .ok (.iconst 0, 1) := by decide +kernel
theorem dX10_drop_20 : decode cX10_drop 20 = .ok (.putfield 133, 3) := by decide +kernel
theorem dX10_drop_23 : decode cX10_drop 23 = .ok (.aload_n 0, 1) := by decide +kernel
theorem dX10_drop_24 : decode cX10_drop 24 = .ok (.getfield 133, 3) := by decide +kernel
theorem dX10_drop_27 : decode cX10_drop 27 = .ok (.ifCond .le 4, 3) := by decide +kernel
theorem dX10_drop_30 : decode cX10_drop 30 = .ok (.return_, 1) := by decide +kernel
theorem dX10_drop_31 : decode cX10_drop 31 = .ok (.iload_n 1, 1) := by decide +kernel
theorem dX10_drop_32 : decode cX10_drop 32 = .ok (.iconst 1, 1) := by decide +kernel
theorem dX10_drop_33 : decode cX10_drop 33 = .ok (.iadd, 1) := by decide +kernel
theorem dX10_drop_34 : decode cX10_drop 34 = .ok (.istore_n 2, 1) := by decide +kernel
theorem dX10_drop_35 : decode cX10_drop 35 = .ok (.iload_n 2, 1) := by decide +kernel
theorem dX10_drop_36 : decode cX10_drop 36 = .ok (.aload_n 0, 1) := by decide +kernel
theorem dX10_drop_37 : decode cX10_drop 37 = .ok (.getfield 274, 3) := by decide +kernel
theorem dX10_drop_40 : decode cX10_drop 40 = .ok (.if_icmp .ge 31, 3) := by decide +kernel
theorem dX10_drop_43 : decode cX10_drop 43 = .ok (.aload_n 0, 1) := by decide +kernel
theorem dX10_drop_44 : decode cX10_drop 44 = .ok (.iload_n 2, 1) := by decide +kernel
theorem dX10_drop_45 : decode cX10_drop 45 = .ok (.iload_n 2, 1) := by decide +kernel
theorem dX10_drop_46 : decode cX10_drop 46 = .ok (.iconst 1, 1) := by decide +kernel
theorem dX10_drop_47 : decode cX10_drop 47 = .ok (.isub, 1) := by decide +kernel
theorem dX10_drop_48 : decode cX10_drop 48 = .ok (.invokevirtual 280, 3) := by decide +kernel
theorem dX10_drop_51 : decode cX10_drop 51 = .ok (.aload_n 0, 1) := by decide +kernel
theorem dX10_drop_52 : decode cX10_drop 52 = .ok (.getfield 35, 3) := by decide +kernel
theorem dX10_drop_55 : decode cX10_drop 55 = .ok (.iload_n 2, 1) := by decide +kernel
theorem dX10_drop_56 : decode cX10_drop 56 = .ok (.iconst 1, 1) := by decide +kernel
theorem dX10_drop_57 : decode cX10_drop 57 = .ok (.isub, 1) := by decide +kernel
theorem dX10_drop_58 : decode cX10_drop 58 = .ok (.aload_n 0, 1) := by decide +kernel
theorem dX10_drop_59 : decode cX10_drop 59 = .ok (.getfield 35, 3) := by decide +kernel
theorem dX10_drop_62 : decode cX10_drop 62 = .ok (.iload_n 2, 1) := by decide +kernel
theorem dX10_drop_63 : decode cX10_drop 63 = .ok (.iaload, 1) := by decide +kernel
theorem dX10_drop_64 : decode cX10_drop 64 = .ok (.iastore, 1) := by decide +kernel
theorem dX10_drop_65 : decode cX10_drop 65 = .ok (.iinc 2 1, 3) := by decide +kernel
theorem dX10_drop_68 : decode cX10_drop 68 = .ok (.goto (-33), 3) := by decide +kernel
theorem dX10_drop_71 : decode cX10_drop 71 = .ok (.aload_n 0, 1) := by decide +kernel
theorem dX10_drop_72 : decode cX10_drop 72 = .ok (.dup, 1) := by decide +kernel
theorem dX10_drop_73 : decode cX10_drop 73 = .ok (.getfield 274, 3) := by decide +kernel
theorem dX10_drop_76 : decode cX10_drop 76 = .ok (.iconst 1, 1) := by decide +kernel
theorem dX10_drop_77 : decode cX10_drop 77 = .ok (.isub, 1) := by decide +kernel
theorem dX10_drop_78 : decode cX10_drop 78 = .ok (.putfield 274, 3) := by decide +kernel
theorem dX10_drop_81 : decode cX10_drop 81 = .ok (.return_, 1) := by decide +kernel
theorem dX10_isLast_0 : decode cX10_isLast 0 = .ok (.aload_n 0, 1) := by decide +kernel
theorem dX10_isLast_1 : decode cX10_isLast 1 = .ok (.getfield 7, 3) := by decide +kernel
theorem dX10_isLast_4 : decode cX10_isLast 4 = .ok (.iload_n 1, 1) := by decide +kernel
theorem dX10_isLast_5 : decode cX10_isLast 5 = .ok (.iaload, 1) := by decide +kernel
theorem dX10_isLast_6 : decode cX10_isLast 6 = .ok (.iconst (-1), 1) := by decide +kernel
theorem dX10_isLast_7 : decode cX10_isLast 7 = .ok (.if_icmp .eq 23, 3) := by decide +kernel
theorem dX10_isLast_10 : decode cX10_isLast 10 = .ok (.aload_n 0, 1) := by decide +kernel
theorem dX10_isLast_11 : decode cX10_isLast 11 = .ok (.getfield 22, 3) := by decide +kernel
theorem dX10_isLast_14 : decode cX10_isLast 14 = .ok (.iload_n 1, 1) := by decide +kernel
theorem dX10_isLast_15 : decode cX10_isLast 15 = .ok (.iaload, 1) := by decide +kernel
theorem dX10_isLast_16 : decode cX10_isLast 16 = .ok (.aload_n 0, 1) := by decide +kernel
theorem dX10_isLast_17 : decode cX10_isLast 17 = .ok (.getfield 25, 3) := by decide +kernel
theorem dX10_isLast_20 : decode cX10_isLast 20 = .ok (.aload_n 0, 1) := by decide +kernel
theorem dX10_isLast_21 : decode cX10_isLast 21 = .ok (.getfield 7, 3) := by decide +kernel
theorem dX10_isLast_24 : decode cX10_isLast 24 = .ok (.iload_n 1, 1) := by decide +kernel
theorem dX10_isLast_25 : decode cX10_isLast 25 = .ok (.iaload, 1) := by decide +kernel
theorem dX10_isLast_26 : decode cX10_isLast 26 = .ok (.iaload, 1) := by decide +kernel
theorem dX10_isLast_27 : decode cX10_isLast 27 = .ok (.if_icmp .ne 7, 3) := by decide +kernel
theorem dX10_isLast_30 : decode cX10_isLast 30 = .ok (.iconst 1, 1) := by decide +kernel
theorem dX10_isLast_31 : decode cX10_isLast 31 = .ok (.goto 4, 3) := by decide +kernel
theorem dX10_isLast_34 : decode cX10_isLast 34 = .ok (.iconst 0, 1) := by decide +kernel
theorem dX10_isLast_35 : decode cX10_isLast 35 = .ok (.ireturn, 1) := by decide +kernel
theorem dX10_holds_0 : decode cX10_holds 0 = .ok (.aload_n 0, 1) := by decide +kernel
theorem dX10_holds_1 : decode cX10_holds 1 = .ok (.getfield 50, 3) := by decide +kernel
theorem dX10_holds_4 : decode cX10_holds 4 = .ok (.iload_n 1, 1) := by decide +kernel
theorem dX10_holds_5 : decode cX10_holds 5 = .ok (.iaload, 1) := by decide +kernel
theorem dX10_holds_6 : decode cX10_holds 6 = .ok (.tableswitch 126 0 5 #[38, 40, 61, 82, 104, 120], 38) := by decide +kernel
theorem dX10_holds_44 : decode cX10_holds 44 = .ok (.iconst 1, 1) := by decide +kernel
theorem dX10_holds_45 : decode cX10_holds 45 = .ok (.ireturn, 1) := by decide +kernel
theorem dX10_holds_46 : decode cX10_holds 46 = .ok (.aload_n 0, 1) := by decide +kernel
theorem dX10_holds_47 : decode cX10_holds 47 = .ok (.getfield 13, 3) := by decide +kernel
theorem dX10_holds_50 : decode cX10_holds 50 = .ok (.iload_n 2, 1) := by decide +kernel
theorem dX10_holds_51 : decode cX10_holds 51 = .ok (.iaload, 1) := by decide +kernel
theorem dX10_holds_52 : decode cX10_holds 52 = .ok (.aload_n 0, 1) := by decide +kernel
theorem dX10_holds_53 : decode cX10_holds 53 = .ok (.getfield 53, 3) := by decide +kernel
theorem dX10_holds_56 : decode cX10_holds 56 = .ok (.iload_n 1, 1) := by decide +kernel
theorem dX10_holds_57 : decode cX10_holds 57 = .ok (.iaload, 1) := by decide +kernel
theorem dX10_holds_58 : decode cX10_holds 58 = .ok (.if_icmp .ne 7, 3) := by decide +kernel
theorem dX10_holds_61 : decode cX10_holds 61 = .ok (.iconst 1, 1) := by decide +kernel
theorem dX10_holds_62 : decode cX10_holds 62 = .ok (.goto 4, 3) := by decide +kernel
theorem dX10_holds_65 : decode cX10_holds 65 = .ok (.iconst 0, 1) := by decide +kernel
theorem dX10_holds_66 : decode cX10_holds 66 = .ok (.ireturn, 1) := by decide +kernel
theorem dX10_holds_67 : decode cX10_holds 67 = .ok (.aload_n 0, 1) := by decide +kernel
theorem dX10_holds_68 : decode cX10_holds 68 = .ok (.getfield 16, 3) := by decide +kernel
theorem dX10_holds_71 : decode cX10_holds 71 = .ok (.iload_n 2, 1) := by decide +kernel
theorem dX10_holds_72 : decode cX10_holds 72 = .ok (.iaload, 1) := by decide +kernel
theorem dX10_holds_73 : decode cX10_holds 73 = .ok (.aload_n 0, 1) := by decide +kernel
theorem dX10_holds_74 : decode cX10_holds 74 = .ok (.getfield 53, 3) := by decide +kernel
theorem dX10_holds_77 : decode cX10_holds 77 = .ok (.iload_n 1, 1) := by decide +kernel
theorem dX10_holds_78 : decode cX10_holds 78 = .ok (.iaload, 1) := by decide +kernel
theorem dX10_holds_79 : decode cX10_holds 79 = .ok (.if_icmp .ne 7, 3) := by decide +kernel
theorem dX10_holds_82 : decode cX10_holds 82 = .ok (.iconst 1, 1) := by decide +kernel
theorem dX10_holds_83 : decode cX10_holds 83 = .ok (.goto 4, 3) := by decide +kernel
theorem dX10_holds_86 : decode cX10_holds 86 = .ok (.iconst 0, 1) := by decide +kernel
theorem dX10_holds_87 : decode cX10_holds 87 = .ok (.ireturn, 1) := by decide +kernel
theorem dX10_holds_88 : decode cX10_holds 88 = .ok (.aload_n 0, 1) := by decide +kernel
theorem dX10_holds_89 : decode cX10_holds 89 = .ok (.getfield 19, 3) := by decide +kernel
theorem dX10_holds_92 : decode cX10_holds 92 = .ok (.iload_n 2, 1) := by decide +kernel
theorem dX10_holds_93 : decode cX10_holds 93 = .ok (.iaload, 1) := by decide +kernel
theorem dX10_holds_94 : decode cX10_holds 94 = .ok (.aload_n 0, 1) := by decide +kernel
theorem dX10_holds_95 : decode cX10_holds 95 = .ok (.getfield 53, 3) := by decide +kernel
theorem dX10_holds_98 : decode cX10_holds 98 = .ok (.iload_n 1, 1) := by decide +kernel
theorem dX10_holds_99 : decode cX10_holds 99 = .ok (.iaload, 1) := by decide +kernel
theorem dX10_holds_100 : decode cX10_holds 100 = .ok (.iand, 1) := by decide +kernel
theorem dX10_holds_101 : decode cX10_holds 101 = .ok (.ifCond .eq 7, 3) := by decide +kernel
theorem dX10_holds_104 : decode cX10_holds 104 = .ok (.iconst 1, 1) := by decide +kernel
theorem dX10_holds_105 : decode cX10_holds 105 = .ok (.goto 4, 3) := by decide +kernel
theorem dX10_holds_108 : decode cX10_holds 108 = .ok (.iconst 0, 1) := by decide +kernel
theorem dX10_holds_109 : decode cX10_holds 109 = .ok (.ireturn, 1) := by decide +kernel
theorem dX10_holds_110 : decode cX10_holds 110 = .ok (.aload_n 0, 1) := by decide +kernel
theorem dX10_holds_111 : decode cX10_holds 111 = .ok (.getfield 22, 3) := by decide +kernel
theorem dX10_holds_114 : decode cX10_holds 114 = .ok (.iload_n 2, 1) := by decide +kernel
theorem dX10_holds_115 : decode cX10_holds 115 = .ok (.iaload, 1) := by decide +kernel
theorem dX10_holds_116 : decode cX10_holds 116 = .ok (.iconst 1, 1) := by decide +kernel
theorem dX10_holds_117 : decode cX10_holds 117 = .ok (.if_icmp .ne 7, 3) := by decide +kernel
theorem dX10_holds_120 : decode cX10_holds 120 = .ok (.iconst 1, 1) := by decide +kernel
theorem dX10_holds_121 : decode cX10_holds 121 = .ok (.goto 4, 3) := by decide +kernel
theorem dX10_holds_124 : decode cX10_holds 124 = .ok (.iconst 0, 1) := by decide +kernel
theorem dX10_holds_125 : decode cX10_holds 125 = .ok (.ireturn, 1) := by decide +kernel
theorem dX10_holds_126 : decode cX10_holds 126 = .ok (.aload_n 0, 1) := by decide +kernel
theorem dX10_holds_127 : decode cX10_holds 127 = .ok (.iload_n 2, 1) := by decide +kernel
theorem dX10_holds_128 : decode cX10_holds 128 = .ok (.invokevirtual 284, 3) := by decide +kernel
theorem dX10_holds_131 : decode cX10_holds 131 = .ok (.ireturn, 1) := by decide +kernel
theorem dX10_holds_132 : decode cX10_holds 132 = .ok (.aload_n 0, 1) := by decide +kernel
theorem dX10_holds_133 : decode cX10_holds 133 = .ok (.getfield 22, 3) := by decide +kernel
theorem dX10_holds_136 : decode cX10_holds 136 = .ok (.iload_n 2, 1) := by decide +kernel
theorem dX10_holds_137 : decode cX10_holds 137 = .ok (.iaload, 1) := by decide +kernel
theorem dX10_holds_138 : decode cX10_holds 138 = .ok (.aload_n 0, 1) := by decide +kernel
theorem dX10_holds_139 : decode cX10_holds 139 = .ok (.getfield 56, 3) := by decide +kernel
theorem dX10_holds_142 : decode cX10_holds 142 = .ok (.iload_n 1, 1) := by decide +kernel
theorem dX10_holds_143 : decode cX10_holds 143 = .ok (.iaload, 1) := by decide +kernel
theorem dX10_holds_144 : decode cX10_holds 144 = .ok (.isub, 1) := by decide +kernel
theorem dX10_holds_145 : decode cX10_holds 145 = .ok (.istore_n 3, 1) := by decide +kernel
theorem dX10_holds_146 : decode cX10_holds 146 = .ok (.aload_n 0, 1) := by decide +kernel
theorem dX10_holds_147 : decode cX10_holds 147 = .ok (.getfield 53, 3) := by decide +kernel
theorem dX10_holds_150 : decode cX10_holds 150 = .ok (.iload_n 1, 1) := by decide +kernel
theorem dX10_holds_151 : decode cX10_holds 151 = .ok (.iaload, 1) := by decide +kernel
theorem dX10_holds_152 : decode cX10_holds 152 = .ok (.ifCond .ne 15, 3) := by decide +kernel
theorem dX10_holds_155 : decode cX10_holds 155 = .ok (.iload_n 3, 1) := by decide +kernel
theorem dX10_holds_156 : decode cX10_holds 156 = .ok (.ifCond .ne 7, 3) := by decide +kernel
theorem dX10_holds_159 : decode cX10_holds 159 = .ok (.iconst 1, 1) := by decide +kernel
theorem dX10_holds_160 : decode cX10_holds 160 = .ok (.goto 27, 3) := by decide +kernel
theorem dX10_holds_163 : decode cX10_holds 163 = .ok (.iconst 0, 1) := by decide +kernel
theorem dX10_holds_164 : decode cX10_holds 164 = .ok (.goto 23, 3) := by decide +kernel
theorem dX10_holds_167 : decode cX10_holds 167 = .ok (.iload_n 3, 1) := by decide +kernel
theorem dX10_holds_168 : decode cX10_holds 168 = .ok (.ifCond .lt 18, 3) := by decide +kernel
theorem dX10_holds_171 : decode cX10_holds 171 = .ok (.iload_n 3, 1) := by decide +kernel
theorem dX10_holds_172 : decode cX10_holds 172 = .ok (.aload_n 0, 1) := by decide +kernel
theorem dX10_holds_173 : decode cX10_holds 173 = .ok (.getfield 53, 3) := by decide +kernel
theorem dX10_holds_176 : decode cX10_holds 176 = .ok (.iload_n 1, 1) := by decide +kernel
theorem dX10_holds_177 : decode cX10_holds 177 = .ok (.iaload, 1) := by decide +kernel
theorem dX10_holds_178 : decode cX10_holds 178 = .ok (.irem, 1) := by decide +kernel
theorem dX10_holds_179 : decode cX10_holds 179 = .ok (.ifCond .ne 7, 3) := by decide +kernel
theorem dX10_holds_182 : decode cX10_holds 182 = .ok (.iconst 1, 1) := by decide +kernel
theorem dX10_holds_183 : decode cX10_holds 183 = .ok (.goto 4, 3) := by decide +kernel
theorem dX10_holds_186 : decode cX10_holds 186 = .ok (.iconst 0, 1) := by decide +kernel
theorem dX10_holds_187 : decode cX10_holds 187 = .ok (.ireturn, 1) := by decide +kernel
theorem dX10_fits_0 : decode cX10_fits 0 = .ok (.iconst 0, 1) := by decide +kernel
theorem dX10_fits_1 : decode cX10_fits 1 = .ok (.istore_n 3, 1) := by decide +kernel
theorem dX10_fits_2 : decode cX10_fits 2 = .ok (.iconst 0, 1) := by decide +kernel
theorem dX10_fits_3 : decode cX10_fits 3 = .ok (.istore 4, 2) := by decide +kernel
theorem dX10_fits_5 : decode cX10_fits 5 = .ok (.aload_n 0, 1) := by decide +kernel
theorem dX10_fits_6 : decode cX10_fits 6 = .ok (.getfield 44, 3) := by decide +kernel
theorem dX10_fits_9 : decode cX10_fits 9 = .ok (.iload_n 1, 1) := by decide +kernel
theorem dX10_fits_10 : decode cX10_fits 10 = .ok (.iaload, 1) := by decide +kernel
theorem dX10_fits_11 : decode cX10_fits 11 = .ok (.istore 5, 2) := by decide +kernel
theorem dX10_fits_13 : decode cX10_fits 13 = .ok (.iload 5, 2) := by decide +kernel
theorem dX10_fits_15 : decode cX10_fits 15 = .ok (.aload_n 0, 1) := by decide +kernel
theorem dX10_fits_16 : decode cX10_fits 16 = .ok (.getfield 44, 3) := by decide +kernel
theorem dX10_fits_19 : decode cX10_fits 19 = .ok (.iload_n 1, 1) := by decide +kernel
theorem dX10_fits_20 : decode cX10_fits 20 = .ok (.iconst 1, 1) := by decide +kernel
theorem dX10_fits_21 : decode cX10_fits 21 = .ok (.iadd, 1) := by decide +kernel
theorem dX10_fits_22 : decode cX10_fits 22 = .ok (.iaload, 1) := by decide +kernel
theorem dX10_fits_23 : decode cX10_fits 23 = .ok (.if_icmp .ge 45, 3) := by decide +kernel
theorem dX10_fits_26 : decode cX10_fits 26 = .ok (.aload_n 0, 1) := by decide +kernel
theorem dX10_fits_27 : decode cX10_fits 27 = .ok (.iload 5, 2) := by decide +kernel
theorem dX10_fits_29 : decode cX10_fits 29 = .ok (.iload_n 2, 1) := by decide +kernel
theorem dX10_fits_30 : decode cX10_fits 30 = .ok (.invokevirtual 287, 3) := by decide +kernel
theorem dX10_fits_33 : decode cX10_fits 33 = .ok (.ifCond .ne 17, 3) := by decide +kernel
theorem dX10_fits_36 : decode cX10_fits 36 = .ok (.iload 4, 2) := by decide +kernel
theorem dX10_fits_38 : decode cX10_fits 38 = .ok (.iconst 1, 1) := by decide +kernel
theorem dX10_fits_39 : decode cX10_fits 39 = .ok (.aload_n 0, 1) := by decide +kernel
theorem dX10_fits_40 : decode cX10_fits 40 = .ok (.getfield 47, 3) := by decide +kernel
theorem dX10_fits_43 : decode cX10_fits 43 = .ok (.iload 5, 2) := by decide +kernel
theorem dX10_fits_45 : decode cX10_fits 45 = .ok (.iaload, 1) := by decide +kernel
theorem dX10_fits_46 : decode cX10_fits 46 = .ok (.ishl, 1) := by decide +kernel
theorem dX10_fits_47 : decode cX10_fits 47 = .ok (.ior, 1) := by decide +kernel
theorem dX10_fits_48 : decode cX10_fits 48 = .ok (.istore 4, 2) := by decide +kernel
theorem dX10_fits_50 : decode cX10_fits 50 = .ok (.iload_n 3, 1) := by decide +kernel
theorem dX10_fits_51 : decode cX10_fits 51 = .ok (.iconst 1, 1) := by decide +kernel
theorem dX10_fits_52 : decode cX10_fits 52 = .ok (.aload_n 0, 1) := by decide +kernel
theorem dX10_fits_53 : decode cX10_fits 53 = .ok (.getfield 47, 3) := by decide +kernel
theorem dX10_fits_56 : decode cX10_fits 56 = .ok (.iload 5, 2) := by decide +kernel
theorem dX10_fits_58 : decode cX10_fits 58 = .ok (.iaload, 1) := by decide +kernel
theorem dX10_fits_59 : decode cX10_fits 59 = .ok (.ishl, 1) := by decide +kernel
theorem dX10_fits_60 : decode cX10_fits 60 = .ok (.ior, 1) := by decide +kernel
theorem dX10_fits_61 : decode cX10_fits 61 = .ok (.istore_n 3, 1) := by decide +kernel
theorem dX10_fits_62 : decode cX10_fits 62 = .ok (.iinc 5 1, 3) := by decide +kernel
theorem dX10_fits_65 : decode cX10_fits 65 = .ok (.goto (-52), 3) := by decide +kernel
theorem dX10_fits_68 : decode cX10_fits 68 = .ok (.iload_n 3, 1) := by decide +kernel
theorem dX10_fits_69 : decode cX10_fits 69 = .ok (.iload 4, 2) := by decide +kernel
theorem dX10_fits_71 : decode cX10_fits 71 = .ok (.iconst (-1), 1) := by decide +kernel
theorem dX10_fits_72 : decode cX10_fits 72 = .ok (.ixor, 1) := by decide +kernel
theorem dX10_fits_73 : decode cX10_fits 73 = .ok (.iand, 1) := by decide +kernel
theorem dX10_fits_74 : decode cX10_fits 74 = .ok (.bipush (-2), 2) := by decide +kernel
theorem dX10_fits_76 : decode cX10_fits 76 = .ok (.iand, 1) := by decide +kernel
theorem dX10_fits_77 : decode cX10_fits 77 = .ok (.istore 5, 2) := by decide +kernel
theorem dX10_fits_79 : decode cX10_fits 79 = .ok (.iload 5, 2) := by decide +kernel
theorem dX10_fits_81 : decode cX10_fits 81 = .ok (.ifCond .ne 14, 3) := by decide +kernel
theorem dX10_fits_84 : decode cX10_fits 84 = .ok (.iload 4, 2) := by decide +kernel
theorem dX10_fits_86 : decode cX10_fits 86 = .ok (.iconst 1, 1) := by decide +kernel
theorem dX10_fits_87 : decode cX10_fits 87 = .ok (.iand, 1) := by decide +kernel
theorem dX10_fits_88 : decode cX10_fits 88 = .ok (.ifCond .ne 7, 3) := by decide +kernel
theorem dX10_fits_91 : decode cX10_fits 91 = .ok (.iconst 1, 1) := by decide +kernel
theorem dX10_fits_92 : decode cX10_fits 92 = .ok (.goto 4, 3) := by decide +kernel
theorem dX10_fits_95 : decode cX10_fits 95 = .ok (.iconst 0, 1) := by decide +kernel
theorem dX10_fits_96 : decode cX10_fits 96 = .ok (.ireturn, 1) := by decide +kernel
theorem dX10_fitting_0 : decode cX10_fitting 0 = .ok (.iconst 0, 1) := by decide +kernel
theorem dX10_fitting_1 : decode cX10_fitting 1 = .ok (.istore_n 2, 1) := by decide +kernel
theorem dX10_fitting_2 : decode cX10_fitting 2 = .ok (.iconst 0, 1) := by decide +kernel
theorem dX10_fitting_3 : decode cX10_fitting 3 = .ok (.istore_n 3, 1) := by decide +kernel
theorem dX10_fitting_4 : decode cX10_fitting 4 = .ok (.iload_n 3, 1) := by decide +kernel
theorem dX10_fitting_5 : decode cX10_fitting 5 = .ok (.aload_n 0, 1) := by decide +kernel
theorem dX10_fitting_6 : decode cX10_fitting 6 = .ok (.getfield 137, 3) := by decide +kernel
theorem dX10_fitting_9 : decode cX10_fitting 9 = .ok (.if_icmp .ge 28, 3) := by decide +kernel
theorem dX10_fitting_12 : decode cX10_fitting 12 = .ok (.aload_n 0, 1) := by decide +kernel
theorem dX10_fitting_13 : decode cX10_fitting 13 = .ok (.iload_n 1, 1) := by decide +kernel
theorem dX10_fitting_14 : decode cX10_fitting 14 = .ok (.iload_n 3, 1) := by decide +kernel
theorem dX10_fitting_15 : decode cX10_fitting 15 = .ok (.invokevirtual 291, 3) := by decide +kernel
theorem dX10_fitting_18 : decode cX10_fitting 18 = .ok (.ifCond .eq 11, 3) := by decide +kernel
theorem dX10_fitting_21 : decode cX10_fitting 21 = .ok (.iload_n 2, 1) := by decide +kernel
theorem dX10_fitting_22 : decode cX10_fitting 22 = .ok (.iconst 1, 1) := by decide +kernel
theorem dX10_fitting_23 : decode cX10_fitting 23 = .ok (.iload_n 3, 1) := by decide +kernel
theorem dX10_fitting_24 : decode cX10_fitting 24 = .ok (.ishl, 1) := by decide +kernel
theorem dX10_fitting_25 : decode cX10_fitting 25 = .ok (.ior, 1) := by decide +kernel
theorem dX10_fitting_26 : decode cX10_fitting 26 = .ok (.goto 4, 3) := by decide +kernel
theorem dX10_fitting_29 : decode cX10_fitting 29 = .ok (.iload_n 2, 1) := by decide +kernel
theorem dX10_fitting_30 : decode cX10_fitting 30 = .ok (.istore_n 2, 1) := by decide +kernel
theorem dX10_fitting_31 : decode cX10_fitting 31 = .ok (.iinc 3 1, 3) := by decide +kernel
theorem dX10_fitting_34 : decode cX10_fitting 34 = .ok (.goto (-30), 3) := by decide +kernel
theorem dX10_fitting_37 : decode cX10_fitting 37 = .ok (.iload_n 2, 1) := by decide +kernel
theorem dX10_fitting_38 : decode cX10_fitting 38 = .ok (.ireturn, 1) := by decide +kernel
theorem dX10_linked_0 : decode cX10_linked 0 = .ok (.iconst 0, 1) := by decide +kernel
theorem dX10_linked_1 : decode cX10_linked 1 = .ok (.istore_n 3, 1) := by decide +kernel
theorem dX10_linked_2 : decode cX10_linked 2 = .ok (.iconst 0, 1) := by decide +kernel
theorem dX10_linked_3 : decode cX10_linked 3 = .ok (.istore 4, 2) := by decide +kernel
theorem dX10_linked_5 : decode cX10_linked 5 = .ok (.iload 4, 2) := by decide +kernel
theorem dX10_linked_7 : decode cX10_linked 7 = .ok (.aload_n 0, 1) := by decide +kernel
theorem dX10_linked_8 : decode cX10_linked 8 = .ok (.getfield 137, 3) := by decide +kernel
theorem dX10_linked_11 : decode cX10_linked 11 = .ok (.if_icmp .ge 226, 3) := by decide +kernel
theorem dX10_linked_14 : decode cX10_linked 14 = .ok (.iconst 0, 1) := by decide +kernel
theorem dX10_linked_15 : decode cX10_linked 15 = .ok (.istore 5, 2) := by decide +kernel
theorem dX10_linked_17 : decode cX10_linked 17 = .ok (.iload_n 2, 1) := by decide +kernel
theorem dX10_linked_18 : decode cX10_linked 18 = .ok (.bipush 62, 2) := by decide +kernel
theorem dX10_linked_20 : decode cX10_linked 20 = .ok (.if_icmp .ne 36, 3) := by decide +kernel
theorem dX10_linked_23 : decode cX10_linked 23 = .ok (.aload_n 0, 1) := by decide +kernel
theorem dX10_linked_24 : decode cX10_linked 24 = .ok (.getfield 7, 3) := by decide +kernel
theorem dX10_linked_27 : decode cX10_linked 27 = .ok (.iload 4, 2) := by decide +kernel
theorem dX10_linked_29 : decode cX10_linked 29 = .ok (.iaload, 1) := by decide +kernel
theorem dX10_linked_30 : decode cX10_linked 30 = .ok (.iconst (-1), 1) := by decide +kernel
theorem dX10_linked_31 : decode cX10_linked 31 = .ok (.if_icmp .eq 22, 3) := by decide +kernel
theorem dX10_linked_34 : decode cX10_linked 34 = .ok (.iload_n 1, 1) := by decide +kernel
theorem dX10_linked_35 : decode cX10_linked 35 = .ok (.aload_n 0, 1) := by decide +kernel
theorem dX10_linked_36 : decode cX10_linked 36 = .ok (.getfield 7, 3) := by decide +kernel
theorem dX10_linked_39 : decode cX10_linked 39 = .ok (.iload 4, 2) := by decide +kernel
theorem dX10_linked_41 : decode cX10_linked 41 = .ok (.iaload, 1) := by decide +kernel
theorem dX10_linked_42 : decode cX10_linked 42 = .ok (.ishr, 1) := by decide +kernel
theorem dX10_linked_43 : decode cX10_linked 43 = .ok (.iconst 1, 1) := by decide +kernel
theorem dX10_linked_44 : decode cX10_linked 44 = .ok (.iand, 1) := by decide +kernel
theorem dX10_linked_45 : decode cX10_linked 45 = .ok (.iconst 1, 1) := by decide +kernel
theorem dX10_linked_46 : decode cX10_linked 46 = .ok (.if_icmp .ne 7, 3) := by decide +kernel
theorem dX10_linked_49 : decode cX10_linked 49 = .ok (.iconst 1, 1) := by decide +kernel
theorem dX10_linked_50 : decode cX10_linked 50 = .ok (.goto 4, 3) := by decide +kernel
theorem dX10_linked_53 : decode cX10_linked 53 = .ok (.iconst 0, 1) := by decide +kernel
theorem dX10_linked_54 : decode cX10_linked 54 = .ok (.istore 5, 2) := by decide +kernel
theorem dX10_linked_56 : decode cX10_linked 56 = .ok (.aload_n 0, 1) := by decide +kernel
theorem dX10_linked_57 : decode cX10_linked 57 = .ok (.getfield 7, 3) := by decide +kernel
theorem dX10_linked_60 : decode cX10_linked 60 = .ok (.iload 4, 2) := by decide +kernel
theorem dX10_linked_62 : decode cX10_linked 62 = .ok (.iaload, 1) := by decide +kernel
theorem dX10_linked_63 : decode cX10_linked 63 = .ok (.istore 6, 2) := by decide +kernel
theorem dX10_linked_65 : decode cX10_linked 65 = .ok (.iload 6, 2) := by decide +kernel
theorem dX10_linked_67 : decode cX10_linked 67 = .ok (.iconst (-1), 1) := by decide +kernel
theorem dX10_linked_68 : decode cX10_linked 68 = .ok (.if_icmp .eq 43, 3) := by decide +kernel
theorem dX10_linked_71 : decode cX10_linked 71 = .ok (.iload_n 2, 1) := by decide +kernel
theorem dX10_linked_72 : decode cX10_linked 72 = .ok (.bipush 32, 2) := by decide +kernel
theorem dX10_linked_74 : decode cX10_linked 74 = .ok (.if_icmp .ne 37, 3) := by decide +kernel
theorem dX10_linked_77 : decode cX10_linked 77 = .ok (.iload 5, 2) := by decide +kernel
theorem dX10_linked_79 : decode cX10_linked 79 = .ok (.ifCond .ne 13, 3) := by decide +kernel
theorem dX10_linked_82 : decode cX10_linked 82 = .ok (.iload_n 1, 1) := by decide +kernel
theorem dX10_linked_83 : decode cX10_linked 83 = .ok (.iload 6, 2) := by decide +kernel
theorem dX10_linked_85 : decode cX10_linked 85 = .ok (.ishr, 1) := by decide +kernel
theorem dX10_linked_86 : decode cX10_linked 86 = .ok (.iconst 1, 1) := by decide +kernel
theorem dX10_linked_87 : decode cX10_linked 87 = .ok (.iand, 1) := by decide +kernel
theorem dX10_linked_88 : decode cX10_linked 88 = .ok (.iconst 1, 1) := by decide +kernel
theorem dX10_linked_89 : decode cX10_linked 89 = .ok (.if_icmp .ne 7, 3) := by decide +kernel
theorem dX10_linked_92 : decode cX10_linked 92 = .ok (.iconst 1, 1) := by decide +kernel
theorem dX10_linked_93 : decode cX10_linked 93 = .ok (.goto 4, 3) := by decide +kernel
theorem dX10_linked_96 : decode cX10_linked 96 = .ok (.iconst 0, 1) := by decide +kernel
theorem dX10_linked_97 : decode cX10_linked 97 = .ok (.istore 5, 2) := by decide +kernel
theorem dX10_linked_99 : decode cX10_linked 99 = .ok (.aload_n 0, 1) := by decide +kernel
theorem dX10_linked_100 : decode cX10_linked 100 = .ok (.getfield 7, 3) := by decide +kernel
theorem dX10_linked_103 : decode cX10_linked 103 = .ok (.iload 6, 2) := by decide +kernel
theorem dX10_linked_105 : decode cX10_linked 105 = .ok (.iaload, 1) := by decide +kernel
theorem dX10_linked_106 : decode cX10_linked 106 = .ok (.istore 6, 2) := by decide +kernel
theorem dX10_linked_108 : decode cX10_linked 108 = .ok (.goto (-43), 3) := by decide +kernel
theorem dX10_linked_111 : decode cX10_linked 111 = .ok (.iconst 0, 1) := by decide +kernel
theorem dX10_linked_112 : decode cX10_linked 112 = .ok (.istore 6, 2) := by decide +kernel
theorem dX10_linked_114 : decode cX10_linked 114 = .ok (.iload 6, 2) := by decide +kernel
theorem dX10_linked_116 : decode cX10_linked 116 = .ok (.iload 4, 2) := by decide +kernel
theorem dX10_linked_118 : decode cX10_linked 118 = .ok (.if_icmp .ge 97, 3) := by decide +kernel
theorem dX10_linked_121 : decode cX10_linked 121 = .ok (.iload_n 2, 1) := by decide +kernel
theorem dX10_linked_122 : decode cX10_linked 122 = .ok (.bipush 43, 2) := by decide +kernel
theorem dX10_linked_124 : decode cX10_linked 124 = .ok (.if_icmp .eq 9, 3) := by decide +kernel
theorem dX10_linked_127 : decode cX10_linked 127 = .ok (.iload_n 2, 1) := by decide +kernel
theorem dX10_linked_128 : decode cX10_linked 128 = .ok (.bipush 126, 2) := by decide +kernel
theorem dX10_linked_130 : decode cX10_linked 130 = .ok (.if_icmp .ne 85, 3) := by decide +kernel
theorem dX10_linked_133 : decode cX10_linked 133 = .ok (.aload_n 0, 1) := by decide +kernel
theorem dX10_linked_134 : decode cX10_linked 134 = .ok (.getfield 7, 3) := by decide +kernel
theorem dX10_linked_137 : decode cX10_linked 137 = .ok (.iload 6, 2) := by decide +kernel
theorem dX10_linked_139 : decode cX10_linked 139 = .ok (.iaload, 1) := by decide +kernel
theorem dX10_linked_140 : decode cX10_linked 140 = .ok (.aload_n 0, 1) := by decide +kernel
theorem dX10_linked_141 : decode cX10_linked 141 = .ok (.getfield 7, 3) := by decide +kernel
theorem dX10_linked_144 : decode cX10_linked 144 = .ok (.iload 4, 2) := by decide +kernel
theorem dX10_linked_146 : decode cX10_linked 146 = .ok (.iaload, 1) := by decide +kernel
theorem dX10_linked_147 : decode cX10_linked 147 = .ok (.if_icmp .ne 32, 3) := by decide +kernel
theorem dX10_linked_150 : decode cX10_linked 150 = .ok (.iload_n 2, 1) := by decide +kernel
theorem dX10_linked_151 : decode cX10_linked 151 = .ok (.bipush 126, 2) := by decide +kernel
theorem dX10_linked_153 : decode cX10_linked 153 = .ok (.if_icmp .eq 22, 3) := by decide +kernel
theorem dX10_linked_156 : decode cX10_linked 156 = .ok (.aload_n 0, 1) := by decide +kernel
theorem dX10_linked_157 : decode cX10_linked 157 = .ok (.getfield 22, 3) := by decide +kernel
theorem dX10_linked_160 : decode cX10_linked 160 = .ok (.iload 6, 2) := by decide +kernel
theorem dX10_linked_162 : decode cX10_linked 162 = .ok (.iaload, 1) := by decide +kernel
theorem dX10_linked_163 : decode cX10_linked 163 = .ok (.aload_n 0, 1) := by decide +kernel
theorem dX10_linked_164 : decode cX10_linked 164 = .ok (.getfield 22, 3) := by decide +kernel
theorem dX10_linked_167 : decode cX10_linked 167 = .ok (.iload 4, 2) := by decide +kernel
theorem dX10_linked_169 : decode cX10_linked 169 = .ok (.iaload, 1) := by decide +kernel
theorem dX10_linked_170 : decode cX10_linked 170 = .ok (.iconst 1, 1) := by decide +kernel
theorem dX10_linked_171 : decode cX10_linked 171 = .ok (.isub, 1) := by decide +kernel
theorem dX10_linked_172 : decode cX10_linked 172 = .ok (.if_icmp .ne 7, 3) := by decide +kernel
theorem dX10_linked_175 : decode cX10_linked 175 = .ok (.iconst 1, 1) := by decide +kernel
theorem dX10_linked_176 : decode cX10_linked 176 = .ok (.goto 4, 3) := by decide +kernel
theorem dX10_linked_179 : decode cX10_linked 179 = .ok (.iconst 0, 1) := by decide +kernel
theorem dX10_linked_180 : decode cX10_linked 180 = .ok (.istore 7, 2) := by decide +kernel
theorem dX10_linked_182 : decode cX10_linked 182 = .ok (.iload 5, 2) := by decide +kernel
theorem dX10_linked_184 : decode cX10_linked 184 = .ok (.ifCond .ne 18, 3) := by decide +kernel
theorem dX10_linked_187 : decode cX10_linked 187 = .ok (.iload 7, 2) := by decide +kernel
theorem dX10_linked_189 : decode cX10_linked 189 = .ok (.ifCond .eq 17, 3) := by decide +kernel
theorem dX10_linked_192 : decode cX10_linked 192 = .ok (.iload_n 1, 1) := by decide +kernel
theorem dX10_linked_193 : decode cX10_linked 193 = .ok (.iload 6, 2) := by decide +kernel
theorem dX10_linked_195 : decode cX10_linked 195 = .ok (.ishr, 1) := by decide +kernel
theorem dX10_linked_196 : decode cX10_linked 196 = .ok (.iconst 1, 1) := by decide +kernel
theorem dX10_linked_197 : decode cX10_linked 197 = .ok (.iand, 1) := by decide +kernel
theorem dX10_linked_198 : decode cX10_linked 198 = .ok (.iconst 1, 1) := by decide +kernel
theorem dX10_linked_199 : decode cX10_linked 199 = .ok (.if_icmp .ne 7, 3) := by decide +kernel
theorem dX10_linked_202 : decode cX10_linked 202 = .ok (.iconst 1, 1) := by decide +kernel
theorem dX10_linked_203 : decode cX10_linked 203 = .ok (.goto 4, 3) := by decide +kernel
theorem dX10_linked_206 : decode cX10_linked 206 = .ok (.iconst 0, 1) := by decide +kernel
theorem dX10_linked_207 : decode cX10_linked 207 = .ok (.istore 5, 2) := by decide +kernel
theorem dX10_linked_209 : decode cX10_linked 209 = .ok (.iinc 6 1, 3) := by decide +kernel
theorem dX10_linked_212 : decode cX10_linked 212 = .ok (.goto (-98), 3) := by decide +kernel
theorem dX10_linked_215 : decode cX10_linked 215 = .ok (.iload 5, 2) := by decide +kernel
theorem dX10_linked_217 : decode cX10_linked 217 = .ok (.ifCond .eq 12, 3) := by decide +kernel
theorem dX10_linked_220 : decode cX10_linked 220 = .ok (.iload_n 3, 1) := by decide +kernel
theorem dX10_linked_221 : decode cX10_linked 221 = .ok (.iconst 1, 1) := by decide +kernel
theorem dX10_linked_222 : decode cX10_linked 222 = .ok (.iload 4, 2) := by decide +kernel
theorem dX10_linked_224 : decode cX10_linked 224 = .ok (.ishl, 1) := by decide +kernel
theorem dX10_linked_225 : decode cX10_linked 225 = .ok (.ior, 1) := by decide +kernel
theorem dX10_linked_226 : decode cX10_linked 226 = .ok (.goto 4, 3) := by decide +kernel
theorem dX10_linked_229 : decode cX10_linked 229 = .ok (.iload_n 3, 1) := by decide +kernel
theorem dX10_linked_230 : decode cX10_linked 230 = .ok (.istore_n 3, 1) := by decide +kernel
theorem dX10_linked_231 : decode cX10_linked 231 = .ok (.iinc 4 1, 3) := by decide +kernel
theorem dX10_linked_234 : decode cX10_linked 234 = .ok (.goto (-229), 3) := by decide +kernel
theorem dX10_linked_237 : decode cX10_linked 237 = .ok (.iload_n 3, 1) := by decide +kernel
theorem dX10_linked_238 : decode cX10_linked 238 = .ok (.ireturn, 1) := by decide +kernel
theorem dX10_heavy_0 : decode cX10_heavy 0 = .ok (.iload_n 0, 1) := by decide +kernel
theorem dX10_heavy_1 : decode cX10_heavy 1 = .ok (.ifCond .ne 7, 3) := by decide +kernel
theorem dX10_heavy_4 : decode cX10_heavy 4 = .ok (.iconst 0, 1) := by decide +kernel
theorem dX10_heavy_5 : decode cX10_heavy 5 = .ok (.goto 25, 3) := by decide +kernel
theorem dX10_heavy_8 : decode cX10_heavy 8 = .ok (.iload_n 0, 1) := by decide +kernel
theorem dX10_heavy_9 : decode cX10_heavy 9 = .ok (.iconst 1, 1) := by decide +kernel
theorem dX10_heavy_10 : decode cX10_heavy 10 = .ok (.if_icmp .ne 7, 3) := by decide +kernel
theorem dX10_heavy_13 : decode cX10_heavy 13 = .ok (.iconst 1, 1) := by decide +kernel
theorem dX10_heavy_14 : decode cX10_heavy 14 = .ok (.goto 16, 3) := by decide +kernel
theorem dX10_heavy_17 : decode cX10_heavy 17 = .ok (.iload_n 0, 1) := by decide +kernel
theorem dX10_heavy_18 : decode cX10_heavy 18 = .ok (.iconst 2, 1) := by decide +kernel
theorem dX10_heavy_19 : decode cX10_heavy 19 = .ok (.if_icmp .ne 9, 3) := by decide +kernel
theorem dX10_heavy_22 : decode cX10_heavy 22 = .ok (.sipush 10000, 3) := by decide +kernel
theorem dX10_heavy_25 : decode cX10_heavy 25 = .ok (.goto 5, 3) := by decide +kernel
theorem dX10_heavy_28 : decode cX10_heavy 28 = .ok (.bipush 100, 2) := by decide +kernel
theorem dX10_heavy_30 : decode cX10_heavy 30 = .ok (.ireturn, 1) := by decide +kernel
theorem dX10_heaviest_0 : decode cX10_heaviest 0 = .ok (.iconst (-1), 1) := by decide +kernel
theorem dX10_heaviest_1 : decode cX10_heaviest 1 = .ok (.istore_n 2, 1) := by decide +kernel
theorem dX10_heaviest_2 : decode cX10_heaviest 2 = .ok (.iconst 0, 1) := by decide +kernel
theorem dX10_heaviest_3 : decode cX10_heaviest 3 = .ok (.istore_n 3, 1) := by decide +kernel
theorem dX10_heaviest_4 : decode cX10_heaviest 4 = .ok (.iconst 0, 1) := by decide +kernel
theorem dX10_heaviest_5 : decode cX10_heaviest 5 = .ok (.istore 4, 2) := by decide +kernel
theorem dX10_heaviest_7 : decode cX10_heaviest 7 = .ok (.iload 4, 2) := by decide +kernel
theorem dX10_heaviest_9 : decode cX10_heaviest 9 = .ok (.aload_n 0, 1) := by decide +kernel
theorem dX10_heaviest_10 : decode cX10_heaviest 10 = .ok (.getfield 157, 3) := by decide +kernel
theorem dX10_heaviest_13 : decode cX10_heaviest 13 = .ok (.if_icmp .ge 147, 3) := by decide +kernel
theorem dX10_heaviest_16 : decode cX10_heaviest 16 = .ok (.aload_n 0, 1) := by decide +kernel
theorem dX10_heaviest_17 : decode cX10_heaviest 17 = .ok (.iload_n 3, 1) := by decide +kernel
theorem dX10_heaviest_18 : decode cX10_heaviest 18 = .ok (.invokevirtual 294, 3) := by decide +kernel
theorem dX10_heaviest_21 : decode cX10_heaviest 21 = .ok (.istore 5, 2) := by decide +kernel
theorem dX10_heaviest_23 : decode cX10_heaviest 23 = .ok (.iconst 0, 1) := by decide +kernel
theorem dX10_heaviest_24 : decode cX10_heaviest 24 = .ok (.istore 6, 2) := by decide +kernel
theorem dX10_heaviest_26 : decode cX10_heaviest 26 = .ok (.iload_n 3, 1) := by decide +kernel
theorem dX10_heaviest_27 : decode cX10_heaviest 27 = .ok (.iconst 1, 1) := by decide +kernel
theorem dX10_heaviest_28 : decode cX10_heaviest 28 = .ok (.iadd, 1) := by decide +kernel
theorem dX10_heaviest_29 : decode cX10_heaviest 29 = .ok (.istore 7, 2) := by decide +kernel
theorem dX10_heaviest_31 : decode cX10_heaviest 31 = .ok (.iload 7, 2) := by decide +kernel
theorem dX10_heaviest_33 : decode cX10_heaviest 33 = .ok (.iload_n 3, 1) := by decide +kernel
theorem dX10_heaviest_34 : decode cX10_heaviest 34 = .ok (.aload_n 0, 1) := by decide +kernel
theorem dX10_heaviest_35 : decode cX10_heaviest 35 = .ok (.getfield 38, 3) := by decide +kernel
theorem dX10_heaviest_38 : decode cX10_heaviest 38 = .ok (.iload 4, 2) := by decide +kernel
theorem dX10_heaviest_40 : decode cX10_heaviest 40 = .ok (.iaload, 1) := by decide +kernel
theorem dX10_heaviest_41 : decode cX10_heaviest 41 = .ok (.iadd, 1) := by decide +kernel
theorem dX10_heaviest_42 : decode cX10_heaviest 42 = .ok (.if_icmp .ge 31, 3) := by decide +kernel
theorem dX10_heaviest_45 : decode cX10_heaviest 45 = .ok (.aload_n 0, 1) := by decide +kernel
theorem dX10_heaviest_46 : decode cX10_heaviest 46 = .ok (.iload 5, 2) := by decide +kernel
theorem dX10_heaviest_48 : decode cX10_heaviest 48 = .ok (.aload_n 0, 1) := by decide +kernel
theorem dX10_heaviest_49 : decode cX10_heaviest 49 = .ok (.getfield 41, 3) := by decide +kernel
theorem dX10_heaviest_52 : decode cX10_heaviest 52 = .ok (.iload 7, 2) := by decide +kernel
theorem dX10_heaviest_54 : decode cX10_heaviest 54 = .ok (.caload, 1) := by decide +kernel
theorem dX10_heaviest_55 : decode cX10_heaviest 55 = .ok (.invokevirtual 297, 3) := by decide +kernel
theorem dX10_heaviest_58 : decode cX10_heaviest 58 = .ok (.aload_n 0, 1) := by decide +kernel
theorem dX10_heaviest_59 : decode cX10_heaviest 59 = .ok (.iload 7, 2) := by decide +kernel
theorem dX10_heaviest_61 : decode cX10_heaviest 61 = .ok (.invokevirtual 294, 3) := by decide +kernel
theorem dX10_heaviest_64 : decode cX10_heaviest 64 = .ok (.iand, 1) := by decide +kernel
theorem dX10_heaviest_65 : decode cX10_heaviest 65 = .ok (.istore 5, 2) := by decide +kernel
theorem dX10_heaviest_67 : decode cX10_heaviest 67 = .ok (.iinc 7 1, 3) := by decide +kernel
theorem dX10_heaviest_70 : decode cX10_heaviest 70 = .ok (.goto (-39), 3) := by decide +kernel
theorem dX10_heaviest_73 : decode cX10_heaviest 73 = .ok (.aload_n 0, 1) := by decide +kernel
theorem dX10_heaviest_74 : decode cX10_heaviest 74 = .ok (.getfield 44, 3) := by decide +kernel
theorem dX10_heaviest_77 : decode cX10_heaviest 77 = .ok (.iload_n 3, 1) := by decide +kernel
theorem dX10_heaviest_78 : decode cX10_heaviest 78 = .ok (.iaload, 1) := by decide +kernel
theorem dX10_heaviest_79 : decode cX10_heaviest 79 = .ok (.istore 7, 2) := by decide +kernel
theorem dX10_heaviest_81 : decode cX10_heaviest 81 = .ok (.iload 7, 2) := by decide +kernel
theorem dX10_heaviest_83 : decode cX10_heaviest 83 = .ok (.aload_n 0, 1) := by decide +kernel
theorem dX10_heaviest_84 : decode cX10_heaviest 84 = .ok (.getfield 44, 3) := by decide +kernel
theorem dX10_heaviest_87 : decode cX10_heaviest 87 = .ok (.iload_n 3, 1) := by decide +kernel
theorem dX10_heaviest_88 : decode cX10_heaviest 88 = .ok (.aload_n 0, 1) := by decide +kernel
theorem dX10_heaviest_89 : decode cX10_heaviest 89 = .ok (.getfield 38, 3) := by decide +kernel
theorem dX10_heaviest_92 : decode cX10_heaviest 92 = .ok (.iload 4, 2) := by decide +kernel
theorem dX10_heaviest_94 : decode cX10_heaviest 94 = .ok (.iaload, 1) := by decide +kernel
theorem dX10_heaviest_95 : decode cX10_heaviest 95 = .ok (.iadd, 1) := by decide +kernel
theorem dX10_heaviest_96 : decode cX10_heaviest 96 = .ok (.iaload, 1) := by decide +kernel
theorem dX10_heaviest_97 : decode cX10_heaviest 97 = .ok (.if_icmp .ge 24, 3) := by decide +kernel
theorem dX10_heaviest_100 : decode cX10_heaviest 100 = .ok (.iload 6, 2) := by decide +kernel
theorem dX10_heaviest_102 : decode cX10_heaviest 102 = .ok (.aload_n 0, 1) := by decide +kernel
theorem dX10_heaviest_103 : decode cX10_heaviest 103 = .ok (.getfield 50, 3) := by decide +kernel
theorem dX10_heaviest_106 : decode cX10_heaviest 106 = .ok (.iload 7, 2) := by decide +kernel
theorem dX10_heaviest_108 : decode cX10_heaviest 108 = .ok (.iaload, 1) := by decide +kernel
theorem dX10_heaviest_109 : decode cX10_heaviest 109 = .ok (.invokestatic 301, 3) := by decide +kernel
theorem dX10_heaviest_112 : decode cX10_heaviest 112 = .ok (.iadd, 1) := by decide +kernel
theorem dX10_heaviest_113 : decode cX10_heaviest 113 = .ok (.istore 6, 2) := by decide +kernel
theorem dX10_heaviest_115 : decode cX10_heaviest 115 = .ok (.iinc 7 1, 3) := by decide +kernel
theorem dX10_heaviest_118 : decode cX10_heaviest 118 = .ok (.goto (-37), 3) := by decide +kernel
theorem dX10_heaviest_121 : decode cX10_heaviest 121 = .ok (.iload 5, 2) := by decide +kernel
theorem dX10_heaviest_123 : decode cX10_heaviest 123 = .ok (.iload_n 1, 1) := by decide +kernel
theorem dX10_heaviest_124 : decode cX10_heaviest 124 = .ok (.ishr, 1) := by decide +kernel
theorem dX10_heaviest_125 : decode cX10_heaviest 125 = .ok (.iconst 1, 1) := by decide +kernel
theorem dX10_heaviest_126 : decode cX10_heaviest 126 = .ok (.iand, 1) := by decide +kernel
theorem dX10_heaviest_127 : decode cX10_heaviest 127 = .ok (.iconst 1, 1) := by decide +kernel
theorem dX10_heaviest_128 : decode cX10_heaviest 128 = .ok (.if_icmp .ne 14, 3) := by decide +kernel
theorem dX10_heaviest_131 : decode cX10_heaviest 131 = .ok (.iload 6, 2) := by decide +kernel
theorem dX10_heaviest_133 : decode cX10_heaviest 133 = .ok (.iload_n 2, 1) := by decide +kernel
theorem dX10_heaviest_134 : decode cX10_heaviest 134 = .ok (.if_icmp .le 8, 3) := by decide +kernel
theorem dX10_heaviest_137 : decode cX10_heaviest 137 = .ok (.iload 6, 2) := by decide +kernel
theorem dX10_heaviest_139 : decode cX10_heaviest 139 = .ok (.goto 4, 3) := by decide +kernel
theorem dX10_heaviest_142 : decode cX10_heaviest 142 = .ok (.iload_n 2, 1) := by decide +kernel
theorem dX10_heaviest_143 : decode cX10_heaviest 143 = .ok (.istore_n 2, 1) := by decide +kernel
theorem dX10_heaviest_144 : decode cX10_heaviest 144 = .ok (.iload_n 3, 1) := by decide +kernel
theorem dX10_heaviest_145 : decode cX10_heaviest 145 = .ok (.aload_n 0, 1) := by decide +kernel
theorem dX10_heaviest_146 : decode cX10_heaviest 146 = .ok (.getfield 38, 3) := by decide +kernel
theorem dX10_heaviest_149 : decode cX10_heaviest 149 = .ok (.iload 4, 2) := by decide +kernel
theorem dX10_heaviest_151 : decode cX10_heaviest 151 = .ok (.iaload, 1) := by decide +kernel
theorem dX10_heaviest_152 : decode cX10_heaviest 152 = .ok (.iadd, 1) := by decide +kernel
theorem dX10_heaviest_153 : decode cX10_heaviest 153 = .ok (.istore_n 3, 1) := by decide +kernel
theorem dX10_heaviest_154 : decode cX10_heaviest 154 = .ok (.iinc 4 1, 3) := by decide +kernel
theorem dX10_heaviest_157 : decode cX10_heaviest 157 = .ok (.goto (-150), 3) := by decide +kernel
theorem dX10_heaviest_160 : decode cX10_heaviest 160 = .ok (.iload_n 2, 1) := by decide +kernel
theorem dX10_heaviest_161 : decode cX10_heaviest 161 = .ok (.ireturn, 1) := by decide +kernel
theorem dX10_matches_0 : decode cX10_matches 0 = .ok (.iload_n 1, 1) := by decide +kernel
theorem dX10_matches_1 : decode cX10_matches 1 = .ok (.iconst 0, 1) := by decide +kernel
theorem dX10_matches_2 : decode cX10_matches 2 = .ok (.aload_n 0, 1) := by decide +kernel
theorem dX10_matches_3 : decode cX10_matches 3 = .ok (.getfield 137, 3) := by decide +kernel
theorem dX10_matches_6 : decode cX10_matches 6 = .ok (.iconst 1, 1) := by decide +kernel
theorem dX10_matches_7 : decode cX10_matches 7 = .ok (.isub, 1) := by decide +kernel
theorem dX10_matches_8 : decode cX10_matches 8 = .ok (.invokestatic 140, 3) := by decide +kernel
theorem dX10_matches_11 : decode cX10_matches 11 = .ok (.ifCond .ne 7, 3) := by decide +kernel
theorem dX10_matches_14 : decode cX10_matches 14 = .ok (.iconst 1, 1) := by decide +kernel
theorem dX10_matches_15 : decode cX10_matches 15 = .ok (.goto 4, 3) := by decide +kernel
theorem dX10_matches_18 : decode cX10_matches 18 = .ok (.iconst 0, 1) := by decide +kernel
theorem dX10_matches_19 : decode cX10_matches 19 = .ok (.istore_n 2, 1) := by decide +kernel
theorem dX10_matches_20 : decode cX10_matches 20 = .ok (.aload_n 0, 1) := by decide +kernel
theorem dX10_matches_21 : decode cX10_matches 21 = .ok (.bipush 16, 2) := by decide +kernel
theorem dX10_matches_23 : decode cX10_matches 23 = .ok (.invokevirtual 265, 3) := by decide +kernel
theorem dX10_matches_26 : decode cX10_matches 26 = .ok (.iload_n 2, 1) := by decide +kernel
theorem dX10_matches_27 : decode cX10_matches 27 = .ok (.ifCond .eq 7, 3) := by decide +kernel
theorem dX10_matches_30 : decode cX10_matches 30 = .ok (.aload_n 0, 1) := by decide +kernel
theorem dX10_matches_31 : decode cX10_matches 31 = .ok (.invokevirtual 268, 3) := by decide +kernel
theorem dX10_matches_34 : decode cX10_matches 34 = .ok (.aload_n 0, 1) := by decide +kernel
theorem dX10_matches_35 : decode cX10_matches 35 = .ok (.aload_n 0, 1) := by decide +kernel
theorem dX10_matches_36 : decode cX10_matches 36 = .ok (.getfield 153, 3) := by decide +kernel
theorem dX10_matches_39 : decode cX10_matches 39 = .ok (.ifCond .eq 18, 3) := by decide +kernel
theorem dX10_matches_42 : decode cX10_matches 42 = .ok (.aload_n 0, 1) := by decide +kernel
theorem dX10_matches_43 : decode cX10_matches 43 = .ok (.getfield 147, 3) := by decide +kernel
theorem dX10_matches_46 : decode cX10_matches 46 = .ok (.aload_n 0, 1) := by decide +kernel
theorem dX10_matches_47 : decode cX10_matches 47 = .ok (.getfield 150, 3) := by decide +kernel
theorem dX10_matches_50 : decode cX10_matches 50 = .ok (.if_icmp .ne 7, 3) := by decide +kernel
theorem dX10_matches_53 : decode cX10_matches 53 = .ok (.iconst 1, 1) := by decide +kernel
theorem dX10_matches_54 : decode cX10_matches 54 = .ok (.goto 4, 3) := by decide +kernel
theorem dX10_matches_57 : decode cX10_matches 57 = .ok (.iconst 0, 1) := by decide +kernel
theorem dX10_matches_58 : decode cX10_matches 58 = .ok (.putfield 153, 3) := by decide +kernel
theorem dX10_matches_61 : decode cX10_matches 61 = .ok (.aload_n 0, 1) := by decide +kernel
theorem dX10_matches_62 : decode cX10_matches 62 = .ok (.getfield 32, 3) := by decide +kernel
theorem dX10_matches_65 : decode cX10_matches 65 = .ok (.bipush 16, 2) := by decide +kernel
theorem dX10_matches_67 : decode cX10_matches 67 = .ok (.iconst 0, 1) := by decide +kernel
theorem dX10_matches_68 : decode cX10_matches 68 = .ok (.iastore, 1) := by decide +kernel
theorem dX10_matches_69 : decode cX10_matches 69 = .ok (.aload_n 0, 1) := by decide +kernel
theorem dX10_matches_70 : decode cX10_matches 70 = .ok (.iload_n 2, 1) := by decide +kernel
theorem dX10_matches_71 : decode cX10_matches 71 = .ok (.ifCond .ne 7, 3) := by decide +kernel
theorem dX10_matches_74 : decode cX10_matches 74 = .ok (.iconst 1, 1) := by decide +kernel
theorem dX10_matches_75 : decode cX10_matches 75 = .ok (.goto 15, 3) := by decide +kernel
theorem dX10_matches_78 : decode cX10_matches 78 = .ok (.aload_n 0, 1) := by decide +kernel
theorem dX10_matches_79 : decode cX10_matches 79 = .ok (.getfield 153, 3) := by decide +kernel
theorem dX10_matches_82 : decode cX10_matches 82 = .ok (.ifCond .eq 7, 3) := by decide +kernel
theorem dX10_matches_85 : decode cX10_matches 85 = .ok (.iconst 0, 1) := by decide +kernel
theorem dX10_matches_86 : decode cX10_matches 86 = .ok (.goto 4, 3) := by decide +kernel
theorem dX10_matches_89 : decode cX10_matches 89 = .ok (.iconst 2, 1) := by decide +kernel
theorem dX10_matches_90 : decode cX10_matches 90 = .ok (.putfield 133, 3) := by decide +kernel
theorem dX10_matches_93 : decode cX10_matches 93 = .ok (.aload_n 0, 1) := by decide +kernel
theorem dX10_matches_94 : decode cX10_matches 94 = .ok (.getfield 133, 3) := by decide +kernel
theorem dX10_matches_97 : decode cX10_matches 97 = .ok (.ifCond .ne 16, 3) := by decide +kernel
theorem dX10_matches_100 : decode cX10_matches 100 = .ok (.aload_n 0, 1) := by decide +kernel
theorem dX10_matches_101 : decode cX10_matches 101 = .ok (.iload_n 1, 1) := by decide +kernel
theorem dX10_matches_102 : decode cX10_matches 102 = .ok (.invokevirtual 304, 3) := by decide +kernel
theorem dX10_matches_105 : decode cX10_matches 105 = .ok (.iconst (-1), 1) := by decide +kernel
theorem dX10_matches_106 : decode cX10_matches 106 = .ok (.if_icmp .eq 7, 3) := by decide +kernel
theorem dX10_matches_109 : decode cX10_matches 109 = .ok (.iconst 1, 1) := by decide +kernel
theorem dX10_matches_110 : decode cX10_matches 110 = .ok (.goto 4, 3) := by decide +kernel
theorem dX10_matches_113 : decode cX10_matches 113 = .ok (.iconst 0, 1) := by decide +kernel
theorem dX10_matches_114 : decode cX10_matches 114 = .ok (.ireturn, 1) := by decide +kernel
theorem dX10_weight_0 : decode cX10_weight 0 = .ok (.iload_n 1, 1) := by decide +kernel
theorem dX10_weight_1 : decode cX10_weight 1 = .ok (.iconst 0, 1) := by decide +kernel
theorem dX10_weight_2 : decode cX10_weight 2 = .ok (.aload_n 0, 1) := by decide +kernel
theorem dX10_weight_3 : decode cX10_weight 3 = .ok (.getfield 274, 3) := by decide +kernel
theorem dX10_weight_6 : decode cX10_weight 6 = .ok (.iconst 1, 1) := by decide +kernel
theorem dX10_weight_7 : decode cX10_weight 7 = .ok (.isub, 1) := by decide +kernel
theorem dX10_weight_8 : decode cX10_weight 8 = .ok (.invokestatic 140, 3) := by decide +kernel
theorem dX10_weight_11 : decode cX10_weight 11 = .ok (.ifCond .ne 17, 3) := by decide +kernel
theorem dX10_weight_14 : decode cX10_weight 14 = .ok (.iload_n 2, 1) := by decide +kernel
theorem dX10_weight_15 : decode cX10_weight 15 = .ok (.iconst 0, 1) := by decide +kernel
theorem dX10_weight_16 : decode cX10_weight 16 = .ok (.aload_n 0, 1) := by decide +kernel
theorem dX10_weight_17 : decode cX10_weight 17 = .ok (.getfield 137, 3) := by decide +kernel
theorem dX10_weight_20 : decode cX10_weight 20 = .ok (.iconst 1, 1) := by decide +kernel
theorem dX10_weight_21 : decode cX10_weight 21 = .ok (.isub, 1) := by decide +kernel
theorem dX10_weight_22 : decode cX10_weight 22 = .ok (.invokestatic 140, 3) := by decide +kernel
theorem dX10_weight_25 : decode cX10_weight 25 = .ok (.ifCond .eq 9, 3) := by decide +kernel
theorem dX10_weight_28 : decode cX10_weight 28 = .ok (.aload_n 0, 1) := by decide +kernel
theorem dX10_weight_29 : decode cX10_weight 29 = .ok (.iconst 1, 1) := by decide +kernel
theorem dX10_weight_30 : decode cX10_weight 30 = .ok (.invokevirtual 307, 3) := by decide +kernel
theorem dX10_weight_33 : decode cX10_weight 33 = .ok (.ireturn, 1) := by decide +kernel
theorem dX10_weight_34 : decode cX10_weight 34 = .ok (.aload_n 0, 1) := by decide +kernel
theorem dX10_weight_35 : decode cX10_weight 35 = .ok (.iconst 0, 1) := by decide +kernel
theorem dX10_weight_36 : decode cX10_weight 36 = .ok (.putfield 133, 3) := by decide +kernel
theorem dX10_weight_39 : decode cX10_weight 39 = .ok (.aload_n 0, 1) := by decide +kernel
theorem dX10_weight_40 : decode cX10_weight 40 = .ok (.iload_n 1, 1) := by decide +kernel
theorem dX10_weight_41 : decode cX10_weight 41 = .ok (.invokevirtual 277, 3) := by decide +kernel
theorem dX10_weight_44 : decode cX10_weight 44 = .ok (.pop, 1) := by decide +kernel
theorem dX10_weight_45 : decode cX10_weight 45 = .ok (.aload_n 0, 1) := by decide +kernel
theorem dX10_weight_46 : decode cX10_weight 46 = .ok (.iload_n 2, 1) := by decide +kernel
theorem dX10_weight_47 : decode cX10_weight 47 = .ok (.invokevirtual 304, 3) := by decide +kernel
theorem dX10_weight_50 : decode cX10_weight 50 = .ok (.ireturn, 1) := by decide +kernel
theorem dX10_survey_0 : decode cX10_survey 0 = .ok (.iconst 0, 1) := by decide +kernel
theorem dX10_survey_1 : decode cX10_survey 1 = .ok (.istore_n 1, 1) := by decide +kernel
theorem dX10_survey_2 : decode cX10_survey 2 = .ok (.iload_n 1, 1) := by decide +kernel
theorem dX10_survey_3 : decode cX10_survey 3 = .ok (.aload_n 0, 1) := by decide +kernel
theorem dX10_survey_4 : decode cX10_survey 4 = .ok (.getfield 274, 3) := by decide +kernel
theorem dX10_survey_7 : decode cX10_survey 7 = .ok (.if_icmp .ge 121, 3) := by decide +kernel
theorem dX10_survey_10 : decode cX10_survey 10 = .ok (.aload_n 0, 1) := by decide +kernel
theorem dX10_survey_11 : decode cX10_survey 11 = .ok (.iload_n 1, 1) := by decide +kernel
theorem dX10_survey_12 : decode cX10_survey 12 = .ok (.invokevirtual 277, 3) := by decide +kernel
theorem dX10_survey_15 : decode cX10_survey 15 = .ok (.pop, 1) := by decide +kernel
theorem dX10_survey_16 : decode cX10_survey 16 = .ok (.aload_n 0, 1) := by decide +kernel
theorem dX10_survey_17 : decode cX10_survey 17 = .ok (.getfield 91, 3) := by decide +kernel
theorem dX10_survey_20 : decode cX10_survey 20 = .ok (.iload_n 1, 1) := by decide +kernel
theorem dX10_survey_21 : decode cX10_survey 21 = .ok (.aload_n 0, 1) := by decide +kernel
theorem dX10_survey_22 : decode cX10_survey 22 = .ok (.getfield 166, 3) := by decide +kernel
theorem dX10_survey_25 : decode cX10_survey 25 = .ok (.iastore, 1) := by decide +kernel
theorem dX10_survey_26 : decode cX10_survey 26 = .ok (.iconst 0, 1) := by decide +kernel
theorem dX10_survey_27 : decode cX10_survey 27 = .ok (.istore_n 2, 1) := by decide +kernel
theorem dX10_survey_28 : decode cX10_survey 28 = .ok (.iload_n 2, 1) := by decide +kernel
theorem dX10_survey_29 : decode cX10_survey 29 = .ok (.aload_n 0, 1) := by decide +kernel
theorem dX10_survey_30 : decode cX10_survey 30 = .ok (.getfield 166, 3) := by decide +kernel
theorem dX10_survey_33 : decode cX10_survey 33 = .ok (.if_icmp .ge 57, 3) := by decide +kernel
theorem dX10_survey_36 : decode cX10_survey 36 = .ok (.aload_n 0, 1) := by decide +kernel
theorem dX10_survey_37 : decode cX10_survey 37 = .ok (.getfield 94, 3) := by decide +kernel
theorem dX10_survey_40 : decode cX10_survey 40 = .ok (.iconst 4, 1) := by decide +kernel
theorem dX10_survey_41 : decode cX10_survey 41 = .ok (.iload_n 1, 1) := by decide +kernel
theorem dX10_survey_42 : decode cX10_survey 42 = .ok (.imul, 1) := by decide +kernel
theorem dX10_survey_43 : decode cX10_survey 43 = .ok (.iload_n 2, 1) := by decide +kernel
theorem dX10_survey_44 : decode cX10_survey 44 = .ok (.iadd, 1) := by decide +kernel
theorem dX10_survey_45 : decode cX10_survey 45 = .ok (.aload_n 0, 1) := by decide +kernel
theorem dX10_survey_46 : decode cX10_survey 46 = .ok (.getfield 59, 3) := by decide +kernel
theorem dX10_survey_49 : decode cX10_survey 49 = .ok (.iload_n 2, 1) := by decide +kernel
theorem dX10_survey_50 : decode cX10_survey 50 = .ok (.iaload, 1) := by decide +kernel
theorem dX10_survey_51 : decode cX10_survey 51 = .ok (.iastore, 1) := by decide +kernel
theorem dX10_survey_52 : decode cX10_survey 52 = .ok (.aload_n 0, 1) := by decide +kernel
theorem dX10_survey_53 : decode cX10_survey 53 = .ok (.getfield 97, 3) := by decide +kernel
theorem dX10_survey_56 : decode cX10_survey 56 = .ok (.iconst 4, 1) := by decide +kernel
theorem dX10_survey_57 : decode cX10_survey 57 = .ok (.iload_n 1, 1) := by decide +kernel
theorem dX10_survey_58 : decode cX10_survey 58 = .ok (.imul, 1) := by decide +kernel
theorem dX10_survey_59 : decode cX10_survey 59 = .ok (.iload_n 2, 1) := by decide +kernel
theorem dX10_survey_60 : decode cX10_survey 60 = .ok (.iadd, 1) := by decide +kernel
theorem dX10_survey_61 : decode cX10_survey 61 = .ok (.aload_n 0, 1) := by decide +kernel
theorem dX10_survey_62 : decode cX10_survey 62 = .ok (.getfield 62, 3) := by decide +kernel
theorem dX10_survey_65 : decode cX10_survey 65 = .ok (.iload_n 2, 1) := by decide +kernel
theorem dX10_survey_66 : decode cX10_survey 66 = .ok (.iaload, 1) := by decide +kernel
theorem dX10_survey_67 : decode cX10_survey 67 = .ok (.iastore, 1) := by decide +kernel
theorem dX10_survey_68 : decode cX10_survey 68 = .ok (.aload_n 0, 1) := by decide +kernel
theorem dX10_survey_69 : decode cX10_survey 69 = .ok (.getfield 100, 3) := by decide +kernel
theorem dX10_survey_72 : decode cX10_survey 72 = .ok (.iconst 4, 1) := by decide +kernel
theorem dX10_survey_73 : decode cX10_survey 73 = .ok (.iload_n 1, 1) := by decide +kernel
theorem dX10_survey_74 : decode cX10_survey 74 = .ok (.imul, 1) := by decide +kernel
theorem dX10_survey_75 : decode cX10_survey 75 = .ok (.iload_n 2, 1) := by decide +kernel
theorem dX10_survey_76 : decode cX10_survey 76 = .ok (.iadd, 1) := by decide +kernel
theorem dX10_survey_77 : decode cX10_survey 77 = .ok (.aload_n 0, 1) := by decide +kernel
theorem dX10_survey_78 : decode cX10_survey 78 = .ok (.getfield 65, 3) := by decide +kernel
theorem dX10_survey_81 : decode cX10_survey 81 = .ok (.iload_n 2, 1) := by decide +kernel
theorem dX10_survey_82 : decode cX10_survey 82 = .ok (.baload, 1) := by decide +kernel
theorem dX10_survey_83 : decode cX10_survey 83 = .ok (.bastore, 1) := by decide +kernel
theorem dX10_survey_84 : decode cX10_survey 84 = .ok (.iinc 2 1, 3) := by decide +kernel
theorem dX10_survey_87 : decode cX10_survey 87 = .ok (.goto (-59), 3) := by decide +kernel
theorem dX10_survey_90 : decode cX10_survey 90 = .ok (.iconst 0, 1) := by decide +kernel
theorem dX10_survey_91 : decode cX10_survey 91 = .ok (.istore_n 2, 1) := by decide +kernel
theorem dX10_survey_92 : decode cX10_survey 92 = .ok (.iload_n 2, 1) := by decide +kernel
theorem dX10_survey_93 : decode cX10_survey 93 = .ok (.aload_n 0, 1) := by decide +kernel
theorem dX10_survey_94 : decode cX10_survey 94 = .ok (.getfield 137, 3) := by decide +kernel
theorem dX10_survey_97 : decode cX10_survey 97 = .ok (.if_icmp .ge 25, 3) := by decide +kernel
theorem dX10_survey_100 : decode cX10_survey 100 = .ok (.aload_n 0, 1) := by decide +kernel
theorem dX10_survey_101 : decode cX10_survey 101 = .ok (.getfield 88, 3) := by decide +kernel
theorem dX10_survey_104 : decode cX10_survey 104 = .ok (.bipush 24, 2) := by decide +kernel
theorem dX10_survey_106 : decode cX10_survey 106 = .ok (.iload_n 1, 1) := by decide +kernel
theorem dX10_survey_107 : decode cX10_survey 107 = .ok (.imul, 1) := by decide +kernel
theorem dX10_survey_108 : decode cX10_survey 108 = .ok (.iload_n 2, 1) := by decide +kernel
theorem dX10_survey_109 : decode cX10_survey 109 = .ok (.iadd, 1) := by decide +kernel
theorem dX10_survey_110 : decode cX10_survey 110 = .ok (.aload_n 0, 1) := by decide +kernel
theorem dX10_survey_111 : decode cX10_survey 111 = .ok (.iload_n 2, 1) := by decide +kernel
theorem dX10_survey_112 : decode cX10_survey 112 = .ok (.invokevirtual 304, 3) := by decide +kernel
theorem dX10_survey_115 : decode cX10_survey 115 = .ok (.iastore, 1) := by decide +kernel
theorem dX10_survey_116 : decode cX10_survey 116 = .ok (.iinc 2 1, 3) := by decide +kernel
theorem dX10_survey_119 : decode cX10_survey 119 = .ok (.goto (-27), 3) := by decide +kernel
theorem dX10_survey_122 : decode cX10_survey 122 = .ok (.iinc 1 1, 3) := by decide +kernel
theorem dX10_survey_125 : decode cX10_survey 125 = .ok (.goto (-123), 3) := by decide +kernel
theorem dX10_survey_128 : decode cX10_survey 128 = .ok (.return_, 1) := by decide +kernel
theorem dX10_rank_0 : decode cX10_rank 0 = .ok (.aload_n 0, 1) := by decide +kernel
theorem dX10_rank_1 : decode cX10_rank 1 = .ok (.getfield 100, 3) := by decide +kernel
theorem dX10_rank_4 : decode cX10_rank 4 = .ok (.iload_n 1, 1) := by decide +kernel
theorem dX10_rank_5 : decode cX10_rank 5 = .ok (.baload, 1) := by decide +kernel
theorem dX10_rank_6 : decode cX10_rank 6 = .ok (.ifCond .eq 16, 3) := by decide +kernel
theorem dX10_rank_9 : decode cX10_rank 9 = .ok (.iconst 5, 1) := by decide +kernel
theorem dX10_rank_10 : decode cX10_rank 10 = .ok (.aload_n 0, 1) := by decide +kernel
theorem dX10_rank_11 : decode cX10_rank 11 = .ok (.getfield 35, 3) := by decide +kernel
theorem dX10_rank_14 : decode cX10_rank 14 = .ok (.iload_n 1, 1) := by decide +kernel
theorem dX10_rank_15 : decode cX10_rank 15 = .ok (.iconst 4, 1) := by decide +kernel
theorem dX10_rank_16 : decode cX10_rank 16 = .ok (.idiv, 1) := by decide +kernel
theorem dX10_rank_17 : decode cX10_rank 17 = .ok (.iaload, 1) := by decide +kernel
theorem dX10_rank_18 : decode cX10_rank 18 = .ok (.isub, 1) := by decide +kernel
theorem dX10_rank_19 : decode cX10_rank 19 = .ok (.goto 11, 3) := by decide +kernel
theorem dX10_rank_22 : decode cX10_rank 22 = .ok (.aload_n 0, 1) := by decide +kernel
theorem dX10_rank_23 : decode cX10_rank 23 = .ok (.getfield 35, 3) := by decide +kernel
theorem dX10_rank_26 : decode cX10_rank 26 = .ok (.iload_n 1, 1) := by decide +kernel
theorem dX10_rank_27 : decode cX10_rank 27 = .ok (.iconst 4, 1) := by decide +kernel
theorem dX10_rank_28 : decode cX10_rank 28 = .ok (.idiv, 1) := by decide +kernel
theorem dX10_rank_29 : decode cX10_rank 29 = .ok (.iaload, 1) := by decide +kernel
theorem dX10_rank_30 : decode cX10_rank 30 = .ok (.ireturn, 1) := by decide +kernel
theorem dX10_winnerOf_0 : decode cX10_winnerOf 0 = .ok (.iconst (-1), 1) := by decide +kernel
theorem dX10_winnerOf_1 : decode cX10_winnerOf 1 = .ok (.istore_n 3, 1) := by decide +kernel
theorem dX10_winnerOf_2 : decode cX10_winnerOf 2 = .ok (.iconst 0, 1) := by decide +kernel
theorem dX10_winnerOf_3 : decode cX10_winnerOf 3 = .ok (.istore 4, 2) := by decide +kernel
theorem dX10_winnerOf_5 : decode cX10_winnerOf 5 = .ok (.iload 4, 2) := by decide +kernel
theorem dX10_winnerOf_7 : decode cX10_winnerOf 7 = .ok (.iconst 4, 1) := by decide +kernel
theorem dX10_winnerOf_8 : decode cX10_winnerOf 8 = .ok (.aload_n 0, 1) := by decide +kernel
theorem dX10_winnerOf_9 : decode cX10_winnerOf 9 = .ok (.getfield 274, 3) := by decide +kernel
theorem dX10_winnerOf_12 : decode cX10_winnerOf 12 = .ok (.imul, 1) := by decide +kernel
theorem dX10_winnerOf_13 : decode cX10_winnerOf 13 = .ok (.if_icmp .ge 187, 3) := by decide +kernel
theorem dX10_winnerOf_16 : decode cX10_winnerOf 16 = .ok (.iload 4, 2) := by decide +kernel
theorem dX10_winnerOf_18 : decode cX10_winnerOf 18 = .ok (.iconst 4, 1) := by decide +kernel
theorem dX10_winnerOf_19 : decode cX10_winnerOf 19 = .ok (.irem, 1) := by decide +kernel
theorem dX10_winnerOf_20 : decode cX10_winnerOf 20 = .ok (.aload_n 0, 1) := by decide +kernel
theorem dX10_winnerOf_21 : decode cX10_winnerOf 21 = .ok (.getfield 91, 3) := by decide +kernel
theorem dX10_winnerOf_24 : decode cX10_winnerOf 24 = .ok (.iload 4, 2) := by decide +kernel
theorem dX10_winnerOf_26 : decode cX10_winnerOf 26 = .ok (.iconst 4, 1) := by decide +kernel
theorem dX10_winnerOf_27 : decode cX10_winnerOf 27 = .ok (.idiv, 1) := by decide +kernel
theorem dX10_winnerOf_28 : decode cX10_winnerOf 28 = .ok (.iaload, 1) := by decide +kernel
theorem dX10_winnerOf_29 : decode cX10_winnerOf 29 = .ok (.if_icmp .ge 36, 3) := by decide +kernel
theorem dX10_winnerOf_32 : decode cX10_winnerOf 32 = .ok (.aload_n 0, 1) := by decide +kernel
theorem dX10_winnerOf_33 : decode cX10_winnerOf 33 = .ok (.getfield 94, 3) := by decide +kernel
theorem dX10_winnerOf_36 : decode cX10_winnerOf 36 = .ok (.iload 4, 2) := by decide +kernel
theorem dX10_winnerOf_38 : decode cX10_winnerOf 38 = .ok (.iaload, 1) := by decide +kernel
theorem dX10_winnerOf_39 : decode cX10_winnerOf 39 = .ok (.iload_n 2, 1) := by decide +kernel
theorem dX10_winnerOf_40 : decode cX10_winnerOf 40 = .ok (.if_icmp .ne 25, 3) := by decide +kernel
theorem dX10_winnerOf_43 : decode cX10_winnerOf 43 = .ok (.aload_n 0, 1) := by decide +kernel
theorem dX10_winnerOf_44 : decode cX10_winnerOf 44 = .ok (.getfield 88, 3) := by decide +kernel
theorem dX10_winnerOf_47 : decode cX10_winnerOf 47 = .ok (.bipush 24, 2) := by decide +kernel
theorem dX10_winnerOf_49 : decode cX10_winnerOf 49 = .ok (.iload 4, 2) := by decide +kernel
theorem dX10_winnerOf_51 : decode cX10_winnerOf 51 = .ok (.iconst 4, 1) := by decide +kernel
theorem dX10_winnerOf_52 : decode cX10_winnerOf 52 = .ok (.idiv, 1) := by decide +kernel
theorem dX10_winnerOf_53 : decode cX10_winnerOf 53 = .ok (.imul, 1) := by decide +kernel
theorem dX10_winnerOf_54 : decode cX10_winnerOf 54 = .ok (.iload_n 1, 1) := by decide +kernel
theorem dX10_winnerOf_55 : decode cX10_winnerOf 55 = .ok (.iadd, 1) := by decide +kernel
theorem dX10_winnerOf_56 : decode cX10_winnerOf 56 = .ok (.iaload, 1) := by decide +kernel
theorem dX10_winnerOf_57 : decode cX10_winnerOf 57 = .ok (.iconst (-1), 1) := by decide +kernel
theorem dX10_winnerOf_58 : decode cX10_winnerOf 58 = .ok (.if_icmp .eq 7, 3) := by decide +kernel
theorem dX10_winnerOf_61 : decode cX10_winnerOf 61 = .ok (.iconst 1, 1) := by decide +kernel
theorem dX10_winnerOf_62 : decode cX10_winnerOf 62 = .ok (.goto 4, 3) := by decide +kernel
theorem dX10_winnerOf_65 : decode cX10_winnerOf 65 = .ok (.iconst 0, 1) := by decide +kernel
theorem dX10_winnerOf_66 : decode cX10_winnerOf 66 = .ok (.istore 5, 2) := by decide +kernel
theorem dX10_winnerOf_68 : decode cX10_winnerOf 68 = .ok (.iload 5, 2) := by decide +kernel
theorem dX10_winnerOf_70 : decode cX10_winnerOf 70 = .ok (.ifCond .eq 12, 3) := by decide +kernel
theorem dX10_winnerOf_73 : decode cX10_winnerOf 73 = .ok (.iload_n 3, 1) := by decide +kernel
theorem dX10_winnerOf_74 : decode cX10_winnerOf 74 = .ok (.iconst (-1), 1) := by decide +kernel
theorem dX10_winnerOf_75 : decode cX10_winnerOf 75 = .ok (.if_icmp .ne 7, 3) := by decide +kernel
theorem dX10_winnerOf_78 : decode cX10_winnerOf 78 = .ok (.iconst 1, 1) := by decide +kernel
theorem dX10_winnerOf_79 : decode cX10_winnerOf 79 = .ok (.goto 4, 3) := by decide +kernel
theorem dX10_winnerOf_82 : decode cX10_winnerOf 82 = .ok (.iconst 0, 1) := by decide +kernel
theorem dX10_winnerOf_83 : decode cX10_winnerOf 83 = .ok (.istore 6, 2) := by decide +kernel
theorem dX10_winnerOf_85 : decode cX10_winnerOf 85 = .ok (.iload 5, 2) := by decide +kernel
theorem dX10_winnerOf_87 : decode cX10_winnerOf 87 = .ok (.ifCond .eq 42, 3) := by decide +kernel
theorem dX10_winnerOf_90 : decode cX10_winnerOf 90 = .ok (.iload 6, 2) := by decide +kernel
theorem dX10_winnerOf_92 : decode cX10_winnerOf 92 = .ok (.ifCond .ne 37, 3) := by decide +kernel
theorem dX10_winnerOf_95 : decode cX10_winnerOf 95 = .ok (.aload_n 0, 1) := by decide +kernel
theorem dX10_winnerOf_96 : decode cX10_winnerOf 96 = .ok (.getfield 88, 3) := by decide +kernel
theorem dX10_winnerOf_99 : decode cX10_winnerOf 99 = .ok (.bipush 24, 2) := by decide +kernel
theorem dX10_winnerOf_101 : decode cX10_winnerOf 101 = .ok (.iload 4, 2) := by decide +kernel
theorem dX10_winnerOf_103 : decode cX10_winnerOf 103 = .ok (.iconst 4, 1) := by decide +kernel
theorem dX10_winnerOf_104 : decode cX10_winnerOf 104 = .ok (.idiv, 1) := by decide +kernel
theorem dX10_winnerOf_105 : decode cX10_winnerOf 105 = .ok (.imul, 1) := by decide +kernel
theorem dX10_winnerOf_106 : decode cX10_winnerOf 106 = .ok (.iload_n 1, 1) := by decide +kernel
theorem dX10_winnerOf_107 : decode cX10_winnerOf 107 = .ok (.iadd, 1) := by decide +kernel
theorem dX10_winnerOf_108 : decode cX10_winnerOf 108 = .ok (.iaload, 1) := by decide +kernel
theorem dX10_winnerOf_109 : decode cX10_winnerOf 109 = .ok (.aload_n 0, 1) := by decide +kernel
theorem dX10_winnerOf_110 : decode cX10_winnerOf 110 = .ok (.getfield 88, 3) := by decide +kernel
theorem dX10_winnerOf_113 : decode cX10_winnerOf 113 = .ok (.bipush 24, 2) := by decide +kernel
theorem dX10_winnerOf_115 : decode cX10_winnerOf 115 = .ok (.iload_n 3, 1) := by decide +kernel
theorem dX10_winnerOf_116 : decode cX10_winnerOf 116 = .ok (.iconst 4, 1) := by decide +kernel
theorem dX10_winnerOf_117 : decode cX10_winnerOf 117 = .ok (.idiv, 1) := by decide +kernel
theorem dX10_winnerOf_118 : decode cX10_winnerOf 118 = .ok (.imul, 1) := by decide +kernel
theorem dX10_winnerOf_119 : decode cX10_winnerOf 119 = .ok (.iload_n 1, 1) := by decide +kernel
theorem dX10_winnerOf_120 : decode cX10_winnerOf 120 = .ok (.iadd, 1) := by decide +kernel
theorem dX10_winnerOf_121 : decode cX10_winnerOf 121 = .ok (.iaload, 1) := by decide +kernel
theorem dX10_winnerOf_122 : decode cX10_winnerOf 122 = .ok (.if_icmp .lt 7, 3) := by decide +kernel
theorem dX10_winnerOf_125 : decode cX10_winnerOf 125 = .ok (.iconst 1, 1) := by decide +kernel
theorem dX10_winnerOf_126 : decode cX10_winnerOf 126 = .ok (.goto 4, 3) := by decide +kernel
theorem dX10_winnerOf_129 : decode cX10_winnerOf 129 = .ok (.iconst 0, 1) := by decide +kernel
theorem dX10_winnerOf_130 : decode cX10_winnerOf 130 = .ok (.istore 7, 2) := by decide +kernel
theorem dX10_winnerOf_132 : decode cX10_winnerOf 132 = .ok (.iload 6, 2) := by decide +kernel
theorem dX10_winnerOf_134 : decode cX10_winnerOf 134 = .ok (.ifCond .ne 41, 3) := by decide +kernel
theorem dX10_winnerOf_137 : decode cX10_winnerOf 137 = .ok (.iload 5, 2) := by decide +kernel
theorem dX10_winnerOf_139 : decode cX10_winnerOf 139 = .ok (.ifCond .eq 40, 3) := by decide +kernel
theorem dX10_winnerOf_142 : decode cX10_winnerOf 142 = .ok (.aload_n 0, 1) := by decide +kernel
theorem dX10_winnerOf_143 : decode cX10_winnerOf 143 = .ok (.iload 4, 2) := by decide +kernel
theorem dX10_winnerOf_145 : decode cX10_winnerOf 145 = .ok (.invokevirtual 310, 3) := by decide +kernel
theorem dX10_winnerOf_148 : decode cX10_winnerOf 148 = .ok (.aload_n 0, 1) := by decide +kernel
theorem dX10_winnerOf_149 : decode cX10_winnerOf 149 = .ok (.iload_n 3, 1) := by decide +kernel
theorem dX10_winnerOf_150 : decode cX10_winnerOf 150 = .ok (.invokevirtual 310, 3) := by decide +kernel
theorem dX10_winnerOf_153 : decode cX10_winnerOf 153 = .ok (.if_icmp .gt 22, 3) := by decide +kernel
theorem dX10_winnerOf_156 : decode cX10_winnerOf 156 = .ok (.aload_n 0, 1) := by decide +kernel
theorem dX10_winnerOf_157 : decode cX10_winnerOf 157 = .ok (.iload 4, 2) := by decide +kernel
theorem dX10_winnerOf_159 : decode cX10_winnerOf 159 = .ok (.invokevirtual 310, 3) := by decide +kernel
theorem dX10_winnerOf_162 : decode cX10_winnerOf 162 = .ok (.aload_n 0, 1) := by decide +kernel
theorem dX10_winnerOf_163 : decode cX10_winnerOf 163 = .ok (.iload_n 3, 1) := by decide +kernel
theorem dX10_winnerOf_164 : decode cX10_winnerOf 164 = .ok (.invokevirtual 310, 3) := by decide +kernel
theorem dX10_winnerOf_167 : decode cX10_winnerOf 167 = .ok (.if_icmp .ne 12, 3) := by decide +kernel
theorem dX10_winnerOf_170 : decode cX10_winnerOf 170 = .ok (.iload 7, 2) := by decide +kernel
theorem dX10_winnerOf_172 : decode cX10_winnerOf 172 = .ok (.ifCond .eq 7, 3) := by decide +kernel
theorem dX10_winnerOf_175 : decode cX10_winnerOf 175 = .ok (.iconst 1, 1) := by decide +kernel
theorem dX10_winnerOf_176 : decode cX10_winnerOf 176 = .ok (.goto 4, 3) := by decide +kernel
theorem dX10_winnerOf_179 : decode cX10_winnerOf 179 = .ok (.iconst 0, 1) := by decide +kernel
theorem dX10_winnerOf_180 : decode cX10_winnerOf 180 = .ok (.istore 8, 2) := by decide +kernel
theorem dX10_winnerOf_182 : decode cX10_winnerOf 182 = .ok (.iload 8, 2) := by decide +kernel
theorem dX10_winnerOf_184 : decode cX10_winnerOf 184 = .ok (.ifCond .eq 8, 3) := by decide +kernel
theorem dX10_winnerOf_187 : decode cX10_winnerOf 187 = .ok (.iload 4, 2) := by decide +kernel
theorem dX10_winnerOf_189 : decode cX10_winnerOf 189 = .ok (.goto 4, 3) := by decide +kernel
theorem dX10_winnerOf_192 : decode cX10_winnerOf 192 = .ok (.iload_n 3, 1) := by decide +kernel
theorem dX10_winnerOf_193 : decode cX10_winnerOf 193 = .ok (.istore_n 3, 1) := by decide +kernel
theorem dX10_winnerOf_194 : decode cX10_winnerOf 194 = .ok (.iinc 4 1, 3) := by decide +kernel
theorem dX10_winnerOf_197 : decode cX10_winnerOf 197 = .ok (.goto (-192), 3) := by decide +kernel
theorem dX10_winnerOf_200 : decode cX10_winnerOf 200 = .ok (.iload_n 3, 1) := by decide +kernel
theorem dX10_winnerOf_201 : decode cX10_winnerOf 201 = .ok (.ireturn, 1) := by decide +kernel
theorem dX10_winner_0 : decode cX10_winner 0 = .ok (.aload_n 0, 1) := by decide +kernel
theorem dX10_winner_1 : decode cX10_winner 1 = .ok (.iload_n 1, 1) := by decide +kernel
theorem dX10_winner_2 : decode cX10_winner 2 = .ok (.iconst 0, 1) := by decide +kernel
theorem dX10_winner_3 : decode cX10_winner 3 = .ok (.aload_n 0, 1) := by decide +kernel
theorem dX10_winner_4 : decode cX10_winner 4 = .ok (.getfield 137, 3) := by decide +kernel
theorem dX10_winner_7 : decode cX10_winner 7 = .ok (.iconst 1, 1) := by decide +kernel
theorem dX10_winner_8 : decode cX10_winner 8 = .ok (.isub, 1) := by decide +kernel
theorem dX10_winner_9 : decode cX10_winner 9 = .ok (.invokestatic 140, 3) := by decide +kernel
theorem dX10_winner_12 : decode cX10_winner 12 = .ok (.ifCond .eq 7, 3) := by decide +kernel
theorem dX10_winner_15 : decode cX10_winner 15 = .ok (.iconst 1, 1) := by decide +kernel
theorem dX10_winner_16 : decode cX10_winner 16 = .ok (.goto 18, 3) := by decide +kernel
theorem dX10_winner_19 : decode cX10_winner 19 = .ok (.iload_n 2, 1) := by decide +kernel
theorem dX10_winner_20 : decode cX10_winner 20 = .ok (.iconst 0, 1) := by decide +kernel
theorem dX10_winner_21 : decode cX10_winner 21 = .ok (.bipush 9, 2) := by decide +kernel
theorem dX10_winner_23 : decode cX10_winner 23 = .ok (.invokestatic 140, 3) := by decide +kernel
theorem dX10_winner_26 : decode cX10_winner 26 = .ok (.ifCond .eq 7, 3) := by decide +kernel
theorem dX10_winner_29 : decode cX10_winner 29 = .ok (.iconst 2, 1) := by decide +kernel
theorem dX10_winner_30 : decode cX10_winner 30 = .ok (.goto 4, 3) := by decide +kernel
theorem dX10_winner_33 : decode cX10_winner 33 = .ok (.iconst 0, 1) := by decide +kernel
theorem dX10_winner_34 : decode cX10_winner 34 = .ok (.putfield 133, 3) := by decide +kernel
theorem dX10_winner_37 : decode cX10_winner 37 = .ok (.aload_n 0, 1) := by decide +kernel
theorem dX10_winner_38 : decode cX10_winner 38 = .ok (.getfield 133, 3) := by decide +kernel
theorem dX10_winner_41 : decode cX10_winner 41 = .ok (.ifCond .le 5, 3) := by decide +kernel
theorem dX10_winner_44 : decode cX10_winner 44 = .ok (.iconst 0, 1) := by decide +kernel
theorem dX10_winner_45 : decode cX10_winner 45 = .ok (.ireturn, 1) := by decide +kernel
theorem dX10_winner_46 : decode cX10_winner 46 = .ok (.aload_n 0, 1) := by decide +kernel
theorem dX10_winner_47 : decode cX10_winner 47 = .ok (.invokevirtual 313, 3) := by decide +kernel
theorem dX10_winner_50 : decode cX10_winner 50 = .ok (.aload_n 0, 1) := by decide +kernel
theorem dX10_winner_51 : decode cX10_winner 51 = .ok (.iload_n 1, 1) := by decide +kernel
theorem dX10_winner_52 : decode cX10_winner 52 = .ok (.iload_n 2, 1) := by decide +kernel
theorem dX10_winner_53 : decode cX10_winner 53 = .ok (.invokevirtual 316, 3) := by decide +kernel
theorem dX10_winner_56 : decode cX10_winner 56 = .ok (.istore_n 3, 1) := by decide +kernel
theorem dX10_winner_57 : decode cX10_winner 57 = .ok (.iload_n 3, 1) := by decide +kernel
theorem dX10_winner_58 : decode cX10_winner 58 = .ok (.iconst (-1), 1) := by decide +kernel
theorem dX10_winner_59 : decode cX10_winner 59 = .ok (.if_icmp .ne 7, 3) := by decide +kernel
theorem dX10_winner_62 : decode cX10_winner 62 = .ok (.iconst (-1), 1) := by decide +kernel
theorem dX10_winner_63 : decode cX10_winner 63 = .ok (.goto 6, 3) := by decide +kernel
theorem dX10_winner_66 : decode cX10_winner 66 = .ok (.iload_n 3, 1) := by decide +kernel
theorem dX10_winner_67 : decode cX10_winner 67 = .ok (.iconst 4, 1) := by decide +kernel
theorem dX10_winner_68 : decode cX10_winner 68 = .ok (.idiv, 1) := by decide +kernel
theorem dX10_winner_69 : decode cX10_winner 69 = .ok (.ireturn, 1) := by decide +kernel
theorem dX10_wantsPlain_0 : decode cX10_wantsPlain 0 = .ok (.iload_n 0, 1) := by decide +kernel
theorem dX10_wantsPlain_1 : decode cX10_wantsPlain 1 = .ok (.ifCond .eq 8, 3) := by decide +kernel
theorem dX10_wantsPlain_4 : decode cX10_wantsPlain 4 = .ok (.iload_n 0, 1) := by decide +kernel
theorem dX10_wantsPlain_5 : decode cX10_wantsPlain 5 = .ok (.iconst 5, 1) := by decide +kernel
theorem dX10_wantsPlain_6 : decode cX10_wantsPlain 6 = .ok (.if_icmp .ne 7, 3) := by decide +kernel
theorem dX10_wantsPlain_9 : decode cX10_wantsPlain 9 = .ok (.iconst 1, 1) := by decide +kernel
theorem dX10_wantsPlain_10 : decode cX10_wantsPlain 10 = .ok (.goto 4, 3) := by decide +kernel
theorem dX10_wantsPlain_13 : decode cX10_wantsPlain 13 = .ok (.iconst 0, 1) := by decide +kernel
theorem dX10_wantsPlain_14 : decode cX10_wantsPlain 14 = .ok (.ireturn, 1) := by decide +kernel
theorem dX10_push_0 : decode cX10_push 0 = .ok (.aload_n 0, 1) := by decide +kernel
theorem dX10_push_1 : decode cX10_push 1 = .ok (.aload_n 0, 1) := by decide +kernel
theorem dX10_push_2 : decode cX10_push 2 = .ok (.getfield 319, 3) := by decide +kernel
theorem dX10_push_5 : decode cX10_push 5 = .ok (.ifCond .ne 19, 3) := by decide +kernel
theorem dX10_push_8 : decode cX10_push 8 = .ok (.fload_n 1, 1) := by decide +kernel
theorem dX10_push_9 : decode cX10_push 9 = .ok (.ldc_w 322, 3) := by decide +kernel
theorem dX10_push_12 : decode cX10_push 12 = .ok (.fcmp .g, 1) := by decide +kernel
theorem dX10_push_13 : decode cX10_push 13 = .ok (.ifCond .gt 11, 3) := by decide +kernel
theorem dX10_push_16 : decode cX10_push 16 = .ok (.fload_n 1, 1) := by decide +kernel
theorem dX10_push_17 : decode cX10_push 17 = .ok (.ldc_w 323, 3) := by decide +kernel
theorem dX10_push_20 : decode cX10_push 20 = .ok (.fcmp .l, 1) := by decide +kernel
theorem dX10_push_21 : decode cX10_push 21 = .ok (.ifCond .ge 7, 3) := by decide +kernel
theorem dX10_push_24 : decode cX10_push 24 = .ok (.iconst 1, 1) := by decide +kernel
theorem dX10_push_25 : decode cX10_push 25 = .ok (.goto 4, 3) := by decide +kernel
theorem dX10_push_28 : decode cX10_push 28 = .ok (.iconst 0, 1) := by decide +kernel
theorem dX10_push_29 : decode cX10_push 29 = .ok (.putfield 319, 3) := by decide +kernel
theorem dX10_push_32 : decode cX10_push 32 = .ok (.aload_n 0, 1) := by decide +kernel
theorem dX10_push_33 : decode cX10_push 33 = .ok (.getfield 106, 3) := by decide +kernel
theorem dX10_push_36 : decode cX10_push 36 = .ok (.aload_n 0, 1) := by decide +kernel
theorem dX10_push_37 : decode cX10_push 37 = .ok (.getfield 324, 3) := by decide +kernel
theorem dX10_push_40 : decode cX10_push 40 = .ok (.fload_n 1, 1) := by decide +kernel
theorem dX10_push_41 : decode cX10_push 41 = .ok (.fastore, 1) := by decide +kernel
theorem dX10_push_42 : decode cX10_push 42 = .ok (.aload_n 0, 1) := by decide +kernel
theorem dX10_push_43 : decode cX10_push 43 = .ok (.getfield 109, 3) := by decide +kernel
theorem dX10_push_46 : decode cX10_push 46 = .ok (.aload_n 0, 1) := by decide +kernel
theorem dX10_push_47 : decode cX10_push 47 = .ok (.getfield 324, 3) := by decide +kernel
theorem dX10_push_50 : decode cX10_push 50 = .ok (.iload_n 2, 1) := by decide +kernel
theorem dX10_push_51 : decode cX10_push 51 = .ok (.bastore, 1) := by decide +kernel
theorem dX10_push_52 : decode cX10_push 52 = .ok (.aload_n 0, 1) := by decide +kernel
theorem dX10_push_53 : decode cX10_push 53 = .ok (.dup, 1) := by decide +kernel
theorem dX10_push_54 : decode cX10_push 54 = .ok (.getfield 324, 3) := by decide +kernel
theorem dX10_push_57 : decode cX10_push 57 = .ok (.iconst 1, 1) := by decide +kernel
theorem dX10_push_58 : decode cX10_push 58 = .ok (.iadd, 1) := by decide +kernel
theorem dX10_push_59 : decode cX10_push 59 = .ok (.putfield 324, 3) := by decide +kernel
theorem dX10_push_62 : decode cX10_push 62 = .ok (.return_, 1) := by decide +kernel
theorem dX10_fontOf_0 : decode cX10_fontOf 0 = .ok (.iload_n 2, 1) := by decide +kernel
theorem dX10_fontOf_1 : decode cX10_fontOf 1 = .ok (.iconst 1, 1) := by decide +kernel
theorem dX10_fontOf_2 : decode cX10_fontOf 2 = .ok (.if_icmp .eq 15, 3) := by decide +kernel
theorem dX10_fontOf_5 : decode cX10_fontOf 5 = .ok (.aload_n 0, 1) := by decide +kernel
theorem dX10_fontOf_6 : decode cX10_fontOf 6 = .ok (.getfield 103, 3) := by decide +kernel
theorem dX10_fontOf_9 : decode cX10_fontOf 9 = .ok (.bipush 6, 2) := by decide +kernel
theorem dX10_fontOf_11 : decode cX10_fontOf 11 = .ok (.iload_n 1, 1) := by decide +kernel
theorem dX10_fontOf_12 : decode cX10_fontOf 12 = .ok (.imul, 1) := by decide +kernel
theorem dX10_fontOf_13 : decode cX10_fontOf 13 = .ok (.iconst 1, 1) := by decide +kernel
theorem dX10_fontOf_14 : decode cX10_fontOf 14 = .ok (.iadd, 1) := by decide +kernel
theorem dX10_fontOf_15 : decode cX10_fontOf 15 = .ok (.faload, 1) := by decide +kernel
theorem dX10_fontOf_16 : decode cX10_fontOf 16 = .ok (.freturn, 1) := by decide +kernel
theorem dX10_fontOf_17 : decode cX10_fontOf 17 = .ok (.aload_n 0, 1) := by decide +kernel
theorem dX10_fontOf_18 : decode cX10_fontOf 18 = .ok (.getfield 7, 3) := by decide +kernel
theorem dX10_fontOf_21 : decode cX10_fontOf 21 = .ok (.iload_n 1, 1) := by decide +kernel
theorem dX10_fontOf_22 : decode cX10_fontOf 22 = .ok (.iaload, 1) := by decide +kernel
theorem dX10_fontOf_23 : decode cX10_fontOf 23 = .ok (.iconst (-1), 1) := by decide +kernel
theorem dX10_fontOf_24 : decode cX10_fontOf 24 = .ok (.if_icmp .ne 9, 3) := by decide +kernel
theorem dX10_fontOf_27 : decode cX10_fontOf 27 = .ok (.ldc_w 327, 3) := by decide +kernel
theorem dX10_fontOf_30 : decode cX10_fontOf 30 = .ok (.goto 19, 3) := by decide +kernel
theorem dX10_fontOf_33 : decode cX10_fontOf 33 = .ok (.aload_n 0, 1) := by decide +kernel
theorem dX10_fontOf_34 : decode cX10_fontOf 34 = .ok (.getfield 103, 3) := by decide +kernel
theorem dX10_fontOf_37 : decode cX10_fontOf 37 = .ok (.bipush 6, 2) := by decide +kernel
theorem dX10_fontOf_39 : decode cX10_fontOf 39 = .ok (.aload_n 0, 1) := by decide +kernel
theorem dX10_fontOf_40 : decode cX10_fontOf 40 = .ok (.getfield 7, 3) := by decide +kernel
theorem dX10_fontOf_43 : decode cX10_fontOf 43 = .ok (.iload_n 1, 1) := by decide +kernel
theorem dX10_fontOf_44 : decode cX10_fontOf 44 = .ok (.iaload, 1) := by decide +kernel
theorem dX10_fontOf_45 : decode cX10_fontOf 45 = .ok (.imul, 1) := by decide +kernel
theorem dX10_fontOf_46 : decode cX10_fontOf 46 = .ok (.iconst 1, 1) := by decide +kernel
theorem dX10_fontOf_47 : decode cX10_fontOf 47 = .ok (.iadd, 1) := by decide +kernel
theorem dX10_fontOf_48 : decode cX10_fontOf 48 = .ok (.faload, 1) := by decide +kernel
theorem dX10_fontOf_49 : decode cX10_fontOf 49 = .ok (.freturn, 1) := by decide +kernel
theorem dX10_beginSum_0 : decode cX10_beginSum 0 = .ok (.aload_n 0, 1) := by decide +kernel
theorem dX10_beginSum_1 : decode cX10_beginSum 1 = .ok (.getfield 112, 3) := by decide +kernel
theorem dX10_beginSum_4 : decode cX10_beginSum 4 = .ok (.aload_n 0, 1) := by decide +kernel
theorem dX10_beginSum_5 : decode cX10_beginSum 5 = .ok (.getfield 328, 3) := by decide +kernel
theorem dX10_beginSum_8 : decode cX10_beginSum 8 = .ok (.iload_n 1, 1) := by decide +kernel
theorem dX10_beginSum_9 : decode cX10_beginSum 9 = .ok (.iastore, 1) := by decide +kernel
theorem dX10_beginSum_10 : decode cX10_beginSum 10 = .ok (.aload_n 0, 1) := by decide +kernel
theorem dX10_beginSum_11 : decode cX10_beginSum 11 = .ok (.getfield 118, 3) := by decide +kernel
theorem dX10_beginSum_14 : decode cX10_beginSum 14 = .ok (.aload_n 0, 1) := by decide +kernel
theorem dX10_beginSum_15 : decode cX10_beginSum 15 = .ok (.getfield 328, 3) := by decide +kernel
theorem dX10_beginSum_18 : decode cX10_beginSum 18 = .ok (.iload_n 2, 1) := by decide +kernel
theorem dX10_beginSum_19 : decode cX10_beginSum 19 = .ok (.iastore, 1) := by decide +kernel
theorem dX10_beginSum_20 : decode cX10_beginSum 20 = .ok (.aload_n 0, 1) := by decide +kernel
theorem dX10_beginSum_21 : decode cX10_beginSum 21 = .ok (.getfield 121, 3) := by decide +kernel
theorem dX10_beginSum_24 : decode cX10_beginSum 24 = .ok (.aload_n 0, 1) := by decide +kernel
theorem dX10_beginSum_25 : decode cX10_beginSum 25 = .ok (.getfield 328, 3) := by decide +kernel
theorem dX10_beginSum_28 : decode cX10_beginSum 28 = .ok (.iload_n 3, 1) := by decide +kernel
theorem dX10_beginSum_29 : decode cX10_beginSum 29 = .ok (.iastore, 1) := by decide +kernel
theorem dX10_beginSum_30 : decode cX10_beginSum 30 = .ok (.aload_n 0, 1) := by decide +kernel
theorem dX10_beginSum_31 : decode cX10_beginSum 31 = .ok (.iload_n 1, 1) := by decide +kernel
theorem dX10_beginSum_32 : decode cX10_beginSum 32 = .ok (.iconst 4, 1) := by decide +kernel
theorem dX10_beginSum_33 : decode cX10_beginSum 33 = .ok (.idiv, 1) := by decide +kernel
theorem dX10_beginSum_34 : decode cX10_beginSum 34 = .ok (.invokevirtual 277, 3) := by decide +kernel
theorem dX10_beginSum_37 : decode cX10_beginSum 37 = .ok (.pop, 1) := by decide +kernel
theorem dX10_beginSum_38 : decode cX10_beginSum 38 = .ok (.aload_n 0, 1) := by decide +kernel
theorem dX10_beginSum_39 : decode cX10_beginSum 39 = .ok (.getfield 115, 3) := by decide +kernel
theorem dX10_beginSum_42 : decode cX10_beginSum 42 = .ok (.aload_n 0, 1) := by decide +kernel
theorem dX10_beginSum_43 : decode cX10_beginSum 43 = .ok (.getfield 328, 3) := by decide +kernel
theorem dX10_beginSum_46 : decode cX10_beginSum 46 = .ok (.aload_n 0, 1) := by decide +kernel
theorem dX10_beginSum_47 : decode cX10_beginSum 47 = .ok (.getfield 69, 3) := by decide +kernel
theorem dX10_beginSum_50 : decode cX10_beginSum 50 = .ok (.iload_n 1, 1) := by decide +kernel
theorem dX10_beginSum_51 : decode cX10_beginSum 51 = .ok (.iconst 4, 1) := by decide +kernel
theorem dX10_beginSum_52 : decode cX10_beginSum 52 = .ok (.irem, 1) := by decide +kernel
theorem dX10_beginSum_53 : decode cX10_beginSum 53 = .ok (.iaload, 1) := by decide +kernel
theorem dX10_beginSum_54 : decode cX10_beginSum 54 = .ok (.iastore, 1) := by decide +kernel
theorem dX10_beginSum_55 : decode cX10_beginSum 55 = .ok (.aload_n 0, 1) := by decide +kernel
theorem dX10_beginSum_56 : decode cX10_beginSum 56 = .ok (.dup, 1) := by decide +kernel
theorem dX10_beginSum_57 : decode cX10_beginSum 57 = .ok (.getfield 328, 3) := by decide +kernel
theorem dX10_beginSum_60 : decode cX10_beginSum 60 = .ok (.iconst 1, 1) := by decide +kernel
theorem dX10_beginSum_61 : decode cX10_beginSum 61 = .ok (.iadd, 1) := by decide +kernel
theorem dX10_beginSum_62 : decode cX10_beginSum 62 = .ok (.putfield 328, 3) := by decide +kernel
theorem dX10_beginSum_65 : decode cX10_beginSum 65 = .ok (.return_, 1) := by decide +kernel
theorem dX10_lookUp_0 : decode cX10_lookUp 0 = .ok (.aload_n 0, 1) := by decide +kernel
theorem dX10_lookUp_1 : decode cX10_lookUp 1 = .ok (.getfield 118, 3) := by decide +kernel
theorem dX10_lookUp_4 : decode cX10_lookUp 4 = .ok (.aload_n 0, 1) := by decide +kernel
theorem dX10_lookUp_5 : decode cX10_lookUp 5 = .ok (.getfield 328, 3) := by decide +kernel
theorem dX10_lookUp_8 : decode cX10_lookUp 8 = .ok (.iconst 1, 1) := by decide +kernel
theorem dX10_lookUp_9 : decode cX10_lookUp 9 = .ok (.isub, 1) := by decide +kernel
theorem dX10_lookUp_10 : decode cX10_lookUp 10 = .ok (.iaload, 1) := by decide +kernel
theorem dX10_lookUp_11 : decode cX10_lookUp 11 = .ok (.istore_n 2, 1) := by decide +kernel
theorem dX10_lookUp_12 : decode cX10_lookUp 12 = .ok (.aload_n 0, 1) := by decide +kernel
theorem dX10_lookUp_13 : decode cX10_lookUp 13 = .ok (.iload_n 2, 1) := by decide +kernel
theorem dX10_lookUp_14 : decode cX10_lookUp 14 = .ok (.iload_n 1, 1) := by decide +kernel
theorem dX10_lookUp_15 : decode cX10_lookUp 15 = .ok (.invokevirtual 316, 3) := by decide +kernel
theorem dX10_lookUp_18 : decode cX10_lookUp 18 = .ok (.istore_n 3, 1) := by decide +kernel
theorem dX10_lookUp_19 : decode cX10_lookUp 19 = .ok (.aload_n 0, 1) := by decide +kernel
theorem dX10_lookUp_20 : decode cX10_lookUp 20 = .ok (.getfield 7, 3) := by decide +kernel
theorem dX10_lookUp_23 : decode cX10_lookUp 23 = .ok (.iload_n 2, 1) := by decide +kernel
theorem dX10_lookUp_24 : decode cX10_lookUp 24 = .ok (.iaload, 1) := by decide +kernel
theorem dX10_lookUp_25 : decode cX10_lookUp 25 = .ok (.iconst (-1), 1) := by decide +kernel
theorem dX10_lookUp_26 : decode cX10_lookUp 26 = .ok (.if_icmp .eq 35, 3) := by decide +kernel
theorem dX10_lookUp_29 : decode cX10_lookUp 29 = .ok (.iload_n 3, 1) := by decide +kernel
theorem dX10_lookUp_30 : decode cX10_lookUp 30 = .ok (.iconst (-1), 1) := by decide +kernel
theorem dX10_lookUp_31 : decode cX10_lookUp 31 = .ok (.if_icmp .eq 13, 3) := by decide +kernel
theorem dX10_lookUp_34 : decode cX10_lookUp 34 = .ok (.aload_n 0, 1) := by decide +kernel
theorem dX10_lookUp_35 : decode cX10_lookUp 35 = .ok (.getfield 97, 3) := by decide +kernel
theorem dX10_lookUp_38 : decode cX10_lookUp 38 = .ok (.iload_n 3, 1) := by decide +kernel
theorem dX10_lookUp_39 : decode cX10_lookUp 39 = .ok (.iaload, 1) := by decide +kernel
theorem dX10_lookUp_40 : decode cX10_lookUp 40 = .ok (.iconst 1, 1) := by decide +kernel
theorem dX10_lookUp_41 : decode cX10_lookUp 41 = .ok (.if_icmp .ne 20, 3) := by decide +kernel
theorem dX10_lookUp_44 : decode cX10_lookUp 44 = .ok (.aload_n 0, 1) := by decide +kernel
theorem dX10_lookUp_45 : decode cX10_lookUp 45 = .ok (.getfield 7, 3) := by decide +kernel
theorem dX10_lookUp_48 : decode cX10_lookUp 48 = .ok (.iload_n 2, 1) := by decide +kernel
theorem dX10_lookUp_49 : decode cX10_lookUp 49 = .ok (.iaload, 1) := by decide +kernel
theorem dX10_lookUp_50 : decode cX10_lookUp 50 = .ok (.istore_n 2, 1) := by decide +kernel
theorem dX10_lookUp_51 : decode cX10_lookUp 51 = .ok (.aload_n 0, 1) := by decide +kernel
theorem dX10_lookUp_52 : decode cX10_lookUp 52 = .ok (.iload_n 2, 1) := by decide +kernel
theorem dX10_lookUp_53 : decode cX10_lookUp 53 = .ok (.iload_n 1, 1) := by decide +kernel
theorem dX10_lookUp_54 : decode cX10_lookUp 54 = .ok (.invokevirtual 316, 3) := by decide +kernel
theorem dX10_lookUp_57 : decode cX10_lookUp 57 = .ok (.istore_n 3, 1) := by decide +kernel
theorem dX10_lookUp_58 : decode cX10_lookUp 58 = .ok (.goto (-39), 3) := by decide +kernel
theorem dX10_lookUp_61 : decode cX10_lookUp 61 = .ok (.iconst 4, 1) := by decide +kernel
theorem dX10_lookUp_62 : decode cX10_lookUp 62 = .ok (.iload_n 2, 1) := by decide +kernel
theorem dX10_lookUp_63 : decode cX10_lookUp 63 = .ok (.imul, 1) := by decide +kernel
theorem dX10_lookUp_64 : decode cX10_lookUp 64 = .ok (.iload_n 1, 1) := by decide +kernel
theorem dX10_lookUp_65 : decode cX10_lookUp 65 = .ok (.iadd, 1) := by decide +kernel
theorem dX10_lookUp_66 : decode cX10_lookUp 66 = .ok (.bipush 6, 2) := by decide +kernel
theorem dX10_lookUp_68 : decode cX10_lookUp 68 = .ok (.isub, 1) := by decide +kernel
theorem dX10_lookUp_69 : decode cX10_lookUp 69 = .ok (.istore 4, 2) := by decide +kernel
theorem dX10_lookUp_71 : decode cX10_lookUp 71 = .ok (.iload_n 3, 1) := by decide +kernel
theorem dX10_lookUp_72 : decode cX10_lookUp 72 = .ok (.iconst (-1), 1) := by decide +kernel
theorem dX10_lookUp_73 : decode cX10_lookUp 73 = .ok (.if_icmp .eq 23, 3) := by decide +kernel
theorem dX10_lookUp_76 : decode cX10_lookUp 76 = .ok (.aload_n 0, 1) := by decide +kernel
theorem dX10_lookUp_77 : decode cX10_lookUp 77 = .ok (.getfield 97, 3) := by decide +kernel
theorem dX10_lookUp_80 : decode cX10_lookUp 80 = .ok (.iload_n 3, 1) := by decide +kernel
theorem dX10_lookUp_81 : decode cX10_lookUp 81 = .ok (.iaload, 1) := by decide +kernel
theorem dX10_lookUp_82 : decode cX10_lookUp 82 = .ok (.ifCond .ne 14, 3) := by decide +kernel
theorem dX10_lookUp_85 : decode cX10_lookUp 85 = .ok (.aload_n 0, 1) := by decide +kernel
theorem dX10_lookUp_86 : decode cX10_lookUp 86 = .ok (.getfield 124, 3) := by decide +kernel
theorem dX10_lookUp_89 : decode cX10_lookUp 89 = .ok (.iload 4, 2) := by decide +kernel
theorem dX10_lookUp_91 : decode cX10_lookUp 91 = .ok (.iaload, 1) := by decide +kernel
theorem dX10_lookUp_92 : decode cX10_lookUp 92 = .ok (.iconst 1, 1) := by decide +kernel
theorem dX10_lookUp_93 : decode cX10_lookUp 93 = .ok (.if_icmp .ne 11, 3) := by decide +kernel
theorem dX10_lookUp_96 : decode cX10_lookUp 96 = .ok (.aload_n 0, 1) := by decide +kernel
theorem dX10_lookUp_97 : decode cX10_lookUp 97 = .ok (.iconst 1, 1) := by decide +kernel
theorem dX10_lookUp_98 : decode cX10_lookUp 98 = .ok (.putfield 319, 3) := by decide +kernel
theorem dX10_lookUp_101 : decode cX10_lookUp 101 = .ok (.goto 51, 3) := by decide +kernel
theorem dX10_lookUp_104 : decode cX10_lookUp 104 = .ok (.aload_n 0, 1) := by decide +kernel
theorem dX10_lookUp_105 : decode cX10_lookUp 105 = .ok (.getfield 124, 3) := by decide +kernel
theorem dX10_lookUp_108 : decode cX10_lookUp 108 = .ok (.iload 4, 2) := by decide +kernel
theorem dX10_lookUp_110 : decode cX10_lookUp 110 = .ok (.iaload, 1) := by decide +kernel
theorem dX10_lookUp_111 : decode cX10_lookUp 111 = .ok (.iconst 2, 1) := by decide +kernel
theorem dX10_lookUp_112 : decode cX10_lookUp 112 = .ok (.if_icmp .ne 24, 3) := by decide +kernel
theorem dX10_lookUp_115 : decode cX10_lookUp 115 = .ok (.aload_n 0, 1) := by decide +kernel
theorem dX10_lookUp_116 : decode cX10_lookUp 116 = .ok (.aload_n 0, 1) := by decide +kernel
theorem dX10_lookUp_117 : decode cX10_lookUp 117 = .ok (.getfield 127, 3) := by decide +kernel
theorem dX10_lookUp_120 : decode cX10_lookUp 120 = .ok (.iload 4, 2) := by decide +kernel
theorem dX10_lookUp_122 : decode cX10_lookUp 122 = .ok (.faload, 1) := by decide +kernel
theorem dX10_lookUp_123 : decode cX10_lookUp 123 = .ok (.aload_n 0, 1) := by decide +kernel
theorem dX10_lookUp_124 : decode cX10_lookUp 124 = .ok (.getfield 130, 3) := by decide +kernel
theorem dX10_lookUp_127 : decode cX10_lookUp 127 = .ok (.iload 4, 2) := by decide +kernel
theorem dX10_lookUp_129 : decode cX10_lookUp 129 = .ok (.baload, 1) := by decide +kernel
theorem dX10_lookUp_130 : decode cX10_lookUp 130 = .ok (.invokevirtual 331, 3) := by decide +kernel
theorem dX10_lookUp_133 : decode cX10_lookUp 133 = .ok (.goto 19, 3) := by decide +kernel
theorem dX10_lookUp_136 : decode cX10_lookUp 136 = .ok (.aload_n 0, 1) := by decide +kernel
theorem dX10_lookUp_137 : decode cX10_lookUp 137 = .ok (.getfield 124, 3) := by decide +kernel
theorem dX10_lookUp_140 : decode cX10_lookUp 140 = .ok (.iload 4, 2) := by decide +kernel
theorem dX10_lookUp_142 : decode cX10_lookUp 142 = .ok (.iconst 1, 1) := by decide +kernel
theorem dX10_lookUp_143 : decode cX10_lookUp 143 = .ok (.iastore, 1) := by decide +kernel
theorem dX10_lookUp_144 : decode cX10_lookUp 144 = .ok (.aload_n 0, 1) := by decide +kernel
theorem dX10_lookUp_145 : decode cX10_lookUp 145 = .ok (.iload_n 3, 1) := by decide +kernel
theorem dX10_lookUp_146 : decode cX10_lookUp 146 = .ok (.iload_n 2, 1) := by decide +kernel
theorem dX10_lookUp_147 : decode cX10_lookUp 147 = .ok (.iload 4, 2) := by decide +kernel
theorem dX10_lookUp_149 : decode cX10_lookUp 149 = .ok (.invokevirtual 335, 3) := by decide +kernel
theorem dX10_lookUp_152 : decode cX10_lookUp 152 = .ok (.return_, 1) := by decide +kernel
theorem dX10_both_0 : decode cX10_both 0 = .ok (.aload_n 0, 1) := by decide +kernel
theorem dX10_both_1 : decode cX10_both 1 = .ok (.getfield 324, 3) := by decide +kernel
theorem dX10_both_4 : decode cX10_both 4 = .ok (.iconst 1, 1) := by decide +kernel
theorem dX10_both_5 : decode cX10_both 5 = .ok (.isub, 1) := by decide +kernel
theorem dX10_both_6 : decode cX10_both 6 = .ok (.istore_n 2, 1) := by decide +kernel
theorem dX10_both_7 : decode cX10_both 7 = .ok (.aload_n 0, 1) := by decide +kernel
theorem dX10_both_8 : decode cX10_both 8 = .ok (.getfield 324, 3) := by decide +kernel
theorem dX10_both_11 : decode cX10_both 11 = .ok (.iconst 2, 1) := by decide +kernel
theorem dX10_both_12 : decode cX10_both 12 = .ok (.isub, 1) := by decide +kernel
theorem dX10_both_13 : decode cX10_both 13 = .ok (.istore_n 3, 1) := by decide +kernel
theorem dX10_both_14 : decode cX10_both 14 = .ok (.iload_n 1, 1) := by decide +kernel
theorem dX10_both_15 : decode cX10_both 15 = .ok (.bipush 11, 2) := by decide +kernel
theorem dX10_both_17 : decode cX10_both 17 = .ok (.if_icmp .ne 29, 3) := by decide +kernel
theorem dX10_both_20 : decode cX10_both 20 = .ok (.aload_n 0, 1) := by decide +kernel
theorem dX10_both_21 : decode cX10_both 21 = .ok (.getfield 109, 3) := by decide +kernel
theorem dX10_both_24 : decode cX10_both 24 = .ok (.iload_n 3, 1) := by decide +kernel
theorem dX10_both_25 : decode cX10_both 25 = .ok (.baload, 1) := by decide +kernel
theorem dX10_both_26 : decode cX10_both 26 = .ok (.ifCond .ne 12, 3) := by decide +kernel
theorem dX10_both_29 : decode cX10_both 29 = .ok (.aload_n 0, 1) := by decide +kernel
theorem dX10_both_30 : decode cX10_both 30 = .ok (.getfield 109, 3) := by decide +kernel
theorem dX10_both_33 : decode cX10_both 33 = .ok (.iload_n 2, 1) := by decide +kernel
theorem dX10_both_34 : decode cX10_both 34 = .ok (.baload, 1) := by decide +kernel
theorem dX10_both_35 : decode cX10_both 35 = .ok (.ifCond .eq 7, 3) := by decide +kernel
theorem dX10_both_38 : decode cX10_both 38 = .ok (.iconst 1, 1) := by decide +kernel
theorem dX10_both_39 : decode cX10_both 39 = .ok (.goto 61, 3) := by decide +kernel
theorem dX10_both_42 : decode cX10_both 42 = .ok (.iconst 0, 1) := by decide +kernel
theorem dX10_both_43 : decode cX10_both 43 = .ok (.goto 57, 3) := by decide +kernel
theorem dX10_both_46 : decode cX10_both 46 = .ok (.iload_n 1, 1) := by decide +kernel
theorem dX10_both_47 : decode cX10_both 47 = .ok (.bipush 12, 2) := by decide +kernel
theorem dX10_both_49 : decode cX10_both 49 = .ok (.if_icmp .ne 31, 3) := by decide +kernel
theorem dX10_both_52 : decode cX10_both 52 = .ok (.aload_n 0, 1) := by decide +kernel
theorem dX10_both_53 : decode cX10_both 53 = .ok (.getfield 109, 3) := by decide +kernel
theorem dX10_both_56 : decode cX10_both 56 = .ok (.iload_n 2, 1) := by decide +kernel
theorem dX10_both_57 : decode cX10_both 57 = .ok (.baload, 1) := by decide +kernel
theorem dX10_both_58 : decode cX10_both 58 = .ok (.ifCond .eq 18, 3) := by decide +kernel
theorem dX10_both_61 : decode cX10_both 61 = .ok (.aload_n 0, 1) := by decide +kernel
theorem dX10_both_62 : decode cX10_both 62 = .ok (.getfield 106, 3) := by decide +kernel
theorem dX10_both_65 : decode cX10_both 65 = .ok (.iload_n 2, 1) := by decide +kernel
theorem dX10_both_66 : decode cX10_both 66 = .ok (.faload, 1) := by decide +kernel
theorem dX10_both_67 : decode cX10_both 67 = .ok (.fconst 0, 1) := by decide +kernel
theorem dX10_both_68 : decode cX10_both 68 = .ok (.fcmp .l, 1) := by decide +kernel
theorem dX10_both_69 : decode cX10_both 69 = .ok (.ifCond .eq 7, 3) := by decide +kernel
theorem dX10_both_72 : decode cX10_both 72 = .ok (.iconst 1, 1) := by decide +kernel
theorem dX10_both_73 : decode cX10_both 73 = .ok (.goto 27, 3) := by decide +kernel
theorem dX10_both_76 : decode cX10_both 76 = .ok (.iconst 0, 1) := by decide +kernel
theorem dX10_both_77 : decode cX10_both 77 = .ok (.goto 23, 3) := by decide +kernel
theorem dX10_both_80 : decode cX10_both 80 = .ok (.aload_n 0, 1) := by decide +kernel
theorem dX10_both_81 : decode cX10_both 81 = .ok (.getfield 109, 3) := by decide +kernel
theorem dX10_both_84 : decode cX10_both 84 = .ok (.iload_n 3, 1) := by decide +kernel
theorem dX10_both_85 : decode cX10_both 85 = .ok (.baload, 1) := by decide +kernel
theorem dX10_both_86 : decode cX10_both 86 = .ok (.aload_n 0, 1) := by decide +kernel
theorem dX10_both_87 : decode cX10_both 87 = .ok (.getfield 109, 3) := by decide +kernel
theorem dX10_both_90 : decode cX10_both 90 = .ok (.iload_n 2, 1) := by decide +kernel
theorem dX10_both_91 : decode cX10_both 91 = .ok (.baload, 1) := by decide +kernel
theorem dX10_both_92 : decode cX10_both 92 = .ok (.if_icmp .ne 7, 3) := by decide +kernel
theorem dX10_both_95 : decode cX10_both 95 = .ok (.iconst 1, 1) := by decide +kernel
theorem dX10_both_96 : decode cX10_both 96 = .ok (.goto 4, 3) := by decide +kernel
theorem dX10_both_99 : decode cX10_both 99 = .ok (.iconst 0, 1) := by decide +kernel
theorem dX10_both_100 : decode cX10_both 100 = .ok (.istore 4, 2) := by decide +kernel
theorem dX10_both_102 : decode cX10_both 102 = .ok (.aload_n 0, 1) := by decide +kernel
theorem dX10_both_103 : decode cX10_both 103 = .ok (.aload_n 0, 1) := by decide +kernel
theorem dX10_both_104 : decode cX10_both 104 = .ok (.getfield 319, 3) := by decide +kernel
theorem dX10_both_107 : decode cX10_both 107 = .ok (.ifCond .ne 8, 3) := by decide +kernel
theorem dX10_both_110 : decode cX10_both 110 = .ok (.iload 4, 2) := by decide +kernel
theorem dX10_both_112 : decode cX10_both 112 = .ok (.ifCond .ne 7, 3) := by decide +kernel
theorem dX10_both_115 : decode cX10_both 115 = .ok (.iconst 1, 1) := by decide +kernel
theorem dX10_both_116 : decode cX10_both 116 = .ok (.goto 4, 3) := by decide +kernel
theorem dX10_both_119 : decode cX10_both 119 = .ok (.iconst 0, 1) := by decide +kernel
theorem dX10_both_120 : decode cX10_both 120 = .ok (.putfield 319, 3) := by decide +kernel
theorem dX10_both_123 : decode cX10_both 123 = .ok (.iload 4, 2) := by decide +kernel
theorem dX10_both_125 : decode cX10_both 125 = .ok (.ifCond .ne 4, 3) := by decide +kernel
theorem dX10_both_128 : decode cX10_both 128 = .ok (.return_, 1) := by decide +kernel
theorem dX10_both_129 : decode cX10_both 129 = .ok (.aload_n 0, 1) := by decide +kernel
theorem dX10_both_130 : decode cX10_both 130 = .ok (.iload_n 3, 1) := by decide +kernel
theorem dX10_both_131 : decode cX10_both 131 = .ok (.putfield 324, 3) := by decide +kernel
theorem dX10_both_134 : decode cX10_both 134 = .ok (.aload_n 0, 1) := by decide +kernel
theorem dX10_both_135 : decode cX10_both 135 = .ok (.getfield 106, 3) := by decide +kernel
theorem dX10_both_138 : decode cX10_both 138 = .ok (.iload_n 3, 1) := by decide +kernel
theorem dX10_both_139 : decode cX10_both 139 = .ok (.faload, 1) := by decide +kernel
theorem dX10_both_140 : decode cX10_both 140 = .ok (.fstore 5, 2) := by decide +kernel
theorem dX10_both_142 : decode cX10_both 142 = .ok (.aload_n 0, 1) := by decide +kernel
theorem dX10_both_143 : decode cX10_both 143 = .ok (.getfield 106, 3) := by decide +kernel
theorem dX10_both_146 : decode cX10_both 146 = .ok (.iload_n 2, 1) := by decide +kernel
theorem dX10_both_147 : decode cX10_both 147 = .ok (.faload, 1) := by decide +kernel
theorem dX10_both_148 : decode cX10_both 148 = .ok (.fstore 6, 2) := by decide +kernel
theorem dX10_both_150 : decode cX10_both 150 = .ok (.iload_n 1, 1) := by decide +kernel
theorem dX10_both_151 : decode cX10_both 151 = .ok (.bipush 11, 2) := by decide +kernel
theorem dX10_both_153 : decode cX10_both 153 = .ok (.if_icmp .ne 29, 3) := by decide +kernel
theorem dX10_both_156 : decode cX10_both 156 = .ok (.aload_n 0, 1) := by decide +kernel
theorem dX10_both_157 : decode cX10_both 157 = .ok (.getfield 109, 3) := by decide +kernel
theorem dX10_both_160 : decode cX10_both 160 = .ok (.iload_n 3, 1) := by decide +kernel
theorem dX10_both_161 : decode cX10_both 161 = .ok (.baload, 1) := by decide +kernel
theorem dX10_both_162 : decode cX10_both 162 = .ok (.ifCond .eq 16, 3) := by decide +kernel
theorem dX10_both_165 : decode cX10_both 165 = .ok (.aload_n 0, 1) := by decide +kernel
theorem dX10_both_166 : decode cX10_both 166 = .ok (.getfield 109, 3) := by decide +kernel
theorem dX10_both_169 : decode cX10_both 169 = .ok (.iload_n 2, 1) := by decide +kernel
theorem dX10_both_170 : decode cX10_both 170 = .ok (.baload, 1) := by decide +kernel
theorem dX10_both_171 : decode cX10_both 171 = .ok (.ifCond .eq 7, 3) := by decide +kernel
theorem dX10_both_174 : decode cX10_both 174 = .ok (.iconst 1, 1) := by decide +kernel
theorem dX10_both_175 : decode cX10_both 175 = .ok (.goto 13, 3) := by decide +kernel
theorem dX10_both_178 : decode cX10_both 178 = .ok (.iconst 0, 1) := by decide +kernel
theorem dX10_both_179 : decode cX10_both 179 = .ok (.goto 9, 3) := by decide +kernel
theorem dX10_both_182 : decode cX10_both 182 = .ok (.aload_n 0, 1) := by decide +kernel
theorem dX10_both_183 : decode cX10_both 183 = .ok (.getfield 109, 3) := by decide +kernel
theorem dX10_both_186 : decode cX10_both 186 = .ok (.iload_n 3, 1) := by decide +kernel
theorem dX10_both_187 : decode cX10_both 187 = .ok (.baload, 1) := by decide +kernel
theorem dX10_both_188 : decode cX10_both 188 = .ok (.istore 7, 2) := by decide +kernel
theorem dX10_both_190 : decode cX10_both 190 = .ok (.aload_n 0, 1) := by decide +kernel
theorem dX10_both_191 : decode cX10_both 191 = .ok (.iload_n 1, 1) := by decide +kernel
theorem dX10_both_192 : decode cX10_both 192 = .ok (.bipush 9, 2) := by decide +kernel
theorem dX10_both_194 : decode cX10_both 194 = .ok (.if_icmp .ne 11, 3) := by decide +kernel
theorem dX10_both_197 : decode cX10_both 197 = .ok (.fload 5, 2) := by decide +kernel
theorem dX10_both_199 : decode cX10_both 199 = .ok (.fload 6, 2) := by decide +kernel
theorem dX10_both_201 : decode cX10_both 201 = .ok (.fadd, 1) := by decide +kernel
theorem dX10_both_202 : decode cX10_both 202 = .ok (.goto 36, 3) := by decide +kernel
theorem dX10_both_205 : decode cX10_both 205 = .ok (.iload_n 1, 1) := by decide +kernel
theorem dX10_both_206 : decode cX10_both 206 = .ok (.bipush 10, 2) := by decide +kernel
theorem dX10_both_208 : decode cX10_both 208 = .ok (.if_icmp .ne 11, 3) := by decide +kernel
theorem dX10_both_211 : decode cX10_both 211 = .ok (.fload 5, 2) := by decide +kernel
theorem dX10_both_213 : decode cX10_both 213 = .ok (.fload 6, 2) := by decide +kernel
theorem dX10_both_215 : decode cX10_both 215 = .ok (.fsub, 1) := by decide +kernel
theorem dX10_both_216 : decode cX10_both 216 = .ok (.goto 22, 3) := by decide +kernel
theorem dX10_both_219 : decode cX10_both 219 = .ok (.iload_n 1, 1) := by decide +kernel
theorem dX10_both_220 : decode cX10_both 220 = .ok (.bipush 11, 2) := by decide +kernel
theorem dX10_both_222 : decode cX10_both 222 = .ok (.if_icmp .ne 11, 3) := by decide +kernel
theorem dX10_both_225 : decode cX10_both 225 = .ok (.fload 5, 2) := by decide +kernel
theorem dX10_both_227 : decode cX10_both 227 = .ok (.fload 6, 2) := by decide +kernel
theorem dX10_both_229 : decode cX10_both 229 = .ok (.fmul, 1) := by decide +kernel
theorem dX10_both_230 : decode cX10_both 230 = .ok (.goto 8, 3) := by decide +kernel
theorem dX10_both_233 : decode cX10_both 233 = .ok (.fload 5, 2) := by decide +kernel
theorem dX10_both_235 : decode cX10_both 235 = .ok (.fload 6, 2) := by decide +kernel
theorem dX10_both_237 : decode cX10_both 237 = .ok (.fdiv, 1) := by decide +kernel
theorem dX10_both_238 : decode cX10_both 238 = .ok (.iload 7, 2) := by decide +kernel
theorem dX10_both_240 : decode cX10_both 240 = .ok (.invokevirtual 331, 3) := by decide +kernel
theorem dX10_both_243 : decode cX10_both 243 = .ok (.return_, 1) := by decide +kernel
theorem dX10_endSum_0 : decode cX10_endSum 0 = .ok (.aload_n 0, 1) := by decide +kernel
theorem dX10_endSum_1 : decode cX10_endSum 1 = .ok (.dup, 1) := by decide +kernel
theorem dX10_endSum_2 : decode cX10_endSum 2 = .ok (.getfield 328, 3) := by decide +kernel
theorem dX10_endSum_5 : decode cX10_endSum 5 = .ok (.iconst 1, 1) := by decide +kernel
theorem dX10_endSum_6 : decode cX10_endSum 6 = .ok (.isub, 1) := by decide +kernel
theorem dX10_endSum_7 : decode cX10_endSum 7 = .ok (.putfield 328, 3) := by decide +kernel
theorem dX10_endSum_10 : decode cX10_endSum 10 = .ok (.aload_n 0, 1) := by decide +kernel
theorem dX10_endSum_11 : decode cX10_endSum 11 = .ok (.getfield 121, 3) := by decide +kernel
theorem dX10_endSum_14 : decode cX10_endSum 14 = .ok (.aload_n 0, 1) := by decide +kernel
theorem dX10_endSum_15 : decode cX10_endSum 15 = .ok (.getfield 328, 3) := by decide +kernel
theorem dX10_endSum_18 : decode cX10_endSum 18 = .ok (.iaload, 1) := by decide +kernel
theorem dX10_endSum_19 : decode cX10_endSum 19 = .ok (.istore_n 1, 1) := by decide +kernel
theorem dX10_endSum_20 : decode cX10_endSum 20 = .ok (.iload_n 1, 1) := by decide +kernel
theorem dX10_endSum_21 : decode cX10_endSum 21 = .ok (.iconst (-1), 1) := by decide +kernel
theorem dX10_endSum_22 : decode cX10_endSum 22 = .ok (.if_icmp .eq 44, 3) := by decide +kernel
theorem dX10_endSum_25 : decode cX10_endSum 25 = .ok (.aload_n 0, 1) := by decide +kernel
theorem dX10_endSum_26 : decode cX10_endSum 26 = .ok (.getfield 124, 3) := by decide +kernel
theorem dX10_endSum_29 : decode cX10_endSum 29 = .ok (.iload_n 1, 1) := by decide +kernel
theorem dX10_endSum_30 : decode cX10_endSum 30 = .ok (.iconst 2, 1) := by decide +kernel
theorem dX10_endSum_31 : decode cX10_endSum 31 = .ok (.iastore, 1) := by decide +kernel
theorem dX10_endSum_32 : decode cX10_endSum 32 = .ok (.aload_n 0, 1) := by decide +kernel
theorem dX10_endSum_33 : decode cX10_endSum 33 = .ok (.getfield 127, 3) := by decide +kernel
theorem dX10_endSum_36 : decode cX10_endSum 36 = .ok (.iload_n 1, 1) := by decide +kernel
theorem dX10_endSum_37 : decode cX10_endSum 37 = .ok (.aload_n 0, 1) := by decide +kernel
theorem dX10_endSum_38 : decode cX10_endSum 38 = .ok (.getfield 106, 3) := by decide +kernel
theorem dX10_endSum_41 : decode cX10_endSum 41 = .ok (.aload_n 0, 1) := by decide +kernel
theorem dX10_endSum_42 : decode cX10_endSum 42 = .ok (.getfield 324, 3) := by decide +kernel
theorem dX10_endSum_45 : decode cX10_endSum 45 = .ok (.iconst 1, 1) := by decide +kernel
theorem dX10_endSum_46 : decode cX10_endSum 46 = .ok (.isub, 1) := by decide +kernel
theorem dX10_endSum_47 : decode cX10_endSum 47 = .ok (.faload, 1) := by decide +kernel
theorem dX10_endSum_48 : decode cX10_endSum 48 = .ok (.fastore, 1) := by decide +kernel
theorem dX10_endSum_49 : decode cX10_endSum 49 = .ok (.aload_n 0, 1) := by decide +kernel
theorem dX10_endSum_50 : decode cX10_endSum 50 = .ok (.getfield 130, 3) := by decide +kernel
theorem dX10_endSum_53 : decode cX10_endSum 53 = .ok (.iload_n 1, 1) := by decide +kernel
theorem dX10_endSum_54 : decode cX10_endSum 54 = .ok (.aload_n 0, 1) := by decide +kernel
theorem dX10_endSum_55 : decode cX10_endSum 55 = .ok (.getfield 109, 3) := by decide +kernel
theorem dX10_endSum_58 : decode cX10_endSum 58 = .ok (.aload_n 0, 1) := by decide +kernel
theorem dX10_endSum_59 : decode cX10_endSum 59 = .ok (.getfield 324, 3) := by decide +kernel
theorem dX10_endSum_62 : decode cX10_endSum 62 = .ok (.iconst 1, 1) := by decide +kernel
theorem dX10_endSum_63 : decode cX10_endSum 63 = .ok (.isub, 1) := by decide +kernel
theorem dX10_endSum_64 : decode cX10_endSum 64 = .ok (.baload, 1) := by decide +kernel
theorem dX10_endSum_65 : decode cX10_endSum 65 = .ok (.bastore, 1) := by decide +kernel
theorem dX10_endSum_66 : decode cX10_endSum 66 = .ok (.aload_n 0, 1) := by decide +kernel
theorem dX10_endSum_67 : decode cX10_endSum 67 = .ok (.getfield 328, 3) := by decide +kernel
theorem dX10_endSum_70 : decode cX10_endSum 70 = .ok (.ifCond .le 21, 3) := by decide +kernel
theorem dX10_endSum_73 : decode cX10_endSum 73 = .ok (.aload_n 0, 1) := by decide +kernel
theorem dX10_endSum_74 : decode cX10_endSum 74 = .ok (.aload_n 0, 1) := by decide +kernel
theorem dX10_endSum_75 : decode cX10_endSum 75 = .ok (.getfield 112, 3) := by decide +kernel
theorem dX10_endSum_78 : decode cX10_endSum 78 = .ok (.aload_n 0, 1) := by decide +kernel
theorem dX10_endSum_79 : decode cX10_endSum 79 = .ok (.getfield 328, 3) := by decide +kernel
theorem dX10_endSum_82 : decode cX10_endSum 82 = .ok (.iconst 1, 1) := by decide +kernel
theorem dX10_endSum_83 : decode cX10_endSum 83 = .ok (.isub, 1) := by decide +kernel
theorem dX10_endSum_84 : decode cX10_endSum 84 = .ok (.iaload, 1) := by decide +kernel
theorem dX10_endSum_85 : decode cX10_endSum 85 = .ok (.iconst 4, 1) := by decide +kernel
theorem dX10_endSum_86 : decode cX10_endSum 86 = .ok (.idiv, 1) := by decide +kernel
theorem dX10_endSum_87 : decode cX10_endSum 87 = .ok (.invokevirtual 277, 3) := by decide +kernel
theorem dX10_endSum_90 : decode cX10_endSum 90 = .ok (.pop, 1) := by decide +kernel
theorem dX10_endSum_91 : decode cX10_endSum 91 = .ok (.return_, 1) := by decide +kernel
theorem dX10_work_0 : decode cX10_work 0 = .ok (.aload_n 0, 1) := by decide +kernel
theorem dX10_work_1 : decode cX10_work 1 = .ok (.iconst 0, 1) := by decide +kernel
theorem dX10_work_2 : decode cX10_work 2 = .ok (.putfield 324, 3) := by decide +kernel
theorem dX10_work_5 : decode cX10_work 5 = .ok (.aload_n 0, 1) := by decide +kernel
theorem dX10_work_6 : decode cX10_work 6 = .ok (.iconst 0, 1) := by decide +kernel
theorem dX10_work_7 : decode cX10_work 7 = .ok (.putfield 328, 3) := by decide +kernel
theorem dX10_work_10 : decode cX10_work 10 = .ok (.aload_n 0, 1) := by decide +kernel
theorem dX10_work_11 : decode cX10_work 11 = .ok (.iconst 0, 1) := by decide +kernel
theorem dX10_work_12 : decode cX10_work 12 = .ok (.putfield 319, 3) := by decide +kernel
theorem dX10_work_15 : decode cX10_work 15 = .ok (.iconst 0, 1) := by decide +kernel
theorem dX10_work_16 : decode cX10_work 16 = .ok (.istore 4, 2) := by decide +kernel
theorem dX10_work_18 : decode cX10_work 18 = .ok (.iload 4, 2) := by decide +kernel
theorem dX10_work_20 : decode cX10_work 20 = .ok (.bipush 96, 2) := by decide +kernel
theorem dX10_work_22 : decode cX10_work 22 = .ok (.if_icmp .ge 17, 3) := by decide +kernel
theorem dX10_work_25 : decode cX10_work 25 = .ok (.aload_n 0, 1) := by decide +kernel
theorem dX10_work_26 : decode cX10_work 26 = .ok (.getfield 124, 3) := by decide +kernel
theorem dX10_work_29 : decode cX10_work 29 = .ok (.iload 4, 2) := by decide +kernel
theorem dX10_work_31 : decode cX10_work 31 = .ok (.iconst 0, 1) := by decide +kernel
theorem dX10_work_32 : decode cX10_work 32 = .ok (.iastore, 1) := by decide +kernel
theorem dX10_work_33 : decode cX10_work 33 = .ok (.iinc 4 1, 3) := by decide +kernel
theorem dX10_work_36 : decode cX10_work 36 = .ok (.goto (-18), 3) := by decide +kernel
theorem dX10_work_39 : decode cX10_work 39 = .ok (.aload_n 0, 1) := by decide +kernel
theorem dX10_work_40 : decode cX10_work 40 = .ok (.iload_n 1, 1) := by decide +kernel
theorem dX10_work_41 : decode cX10_work 41 = .ok (.iload_n 2, 1) := by decide +kernel
theorem dX10_work_42 : decode cX10_work 42 = .ok (.iconst (-1), 1) := by decide +kernel
theorem dX10_work_43 : decode cX10_work 43 = .ok (.invokevirtual 335, 3) := by decide +kernel
theorem dX10_work_46 : decode cX10_work 46 = .ok (.aload_n 0, 1) := by decide +kernel
theorem dX10_work_47 : decode cX10_work 47 = .ok (.getfield 328, 3) := by decide +kernel
theorem dX10_work_50 : decode cX10_work 50 = .ok (.ifCond .le 280, 3) := by decide +kernel
theorem dX10_work_53 : decode cX10_work 53 = .ok (.aload_n 0, 1) := by decide +kernel
theorem dX10_work_54 : decode cX10_work 54 = .ok (.getfield 319, 3) := by decide +kernel
theorem dX10_work_57 : decode cX10_work 57 = .ok (.ifCond .ne 273, 3) := by decide +kernel
theorem dX10_work_60 : decode cX10_work 60 = .ok (.aload_n 0, 1) := by decide +kernel
theorem dX10_work_61 : decode cX10_work 61 = .ok (.getfield 115, 3) := by decide +kernel
theorem dX10_work_64 : decode cX10_work 64 = .ok (.aload_n 0, 1) := by decide +kernel
theorem dX10_work_65 : decode cX10_work 65 = .ok (.getfield 328, 3) := by decide +kernel
theorem dX10_work_68 : decode cX10_work 68 = .ok (.iconst 1, 1) := by decide +kernel
theorem dX10_work_69 : decode cX10_work 69 = .ok (.isub, 1) := by decide +kernel
theorem dX10_work_70 : decode cX10_work 70 = .ok (.iaload, 1) := by decide +kernel
theorem dX10_work_71 : decode cX10_work 71 = .ok (.istore 4, 2) := by decide +kernel
theorem dX10_work_73 : decode cX10_work 73 = .ok (.aload_n 0, 1) := by decide +kernel
theorem dX10_work_74 : decode cX10_work 74 = .ok (.getfield 115, 3) := by decide +kernel
theorem dX10_work_77 : decode cX10_work 77 = .ok (.aload_n 0, 1) := by decide +kernel
theorem dX10_work_78 : decode cX10_work 78 = .ok (.getfield 328, 3) := by decide +kernel
theorem dX10_work_81 : decode cX10_work 81 = .ok (.iconst 1, 1) := by decide +kernel
theorem dX10_work_82 : decode cX10_work 82 = .ok (.isub, 1) := by decide +kernel
theorem dX10_work_83 : decode cX10_work 83 = .ok (.iload 4, 2) := by decide +kernel
theorem dX10_work_85 : decode cX10_work 85 = .ok (.iconst 1, 1) := by decide +kernel
theorem dX10_work_86 : decode cX10_work 86 = .ok (.iadd, 1) := by decide +kernel
theorem dX10_work_87 : decode cX10_work 87 = .ok (.iastore, 1) := by decide +kernel
theorem dX10_work_88 : decode cX10_work 88 = .ok (.iload 4, 2) := by decide +kernel
theorem dX10_work_90 : decode cX10_work 90 = .ok (.aload_n 0, 1) := by decide +kernel
theorem dX10_work_91 : decode cX10_work 91 = .ok (.getfield 69, 3) := by decide +kernel
theorem dX10_work_94 : decode cX10_work 94 = .ok (.aload_n 0, 1) := by decide +kernel
theorem dX10_work_95 : decode cX10_work 95 = .ok (.getfield 112, 3) := by decide +kernel
theorem dX10_work_98 : decode cX10_work 98 = .ok (.aload_n 0, 1) := by decide +kernel
theorem dX10_work_99 : decode cX10_work 99 = .ok (.getfield 328, 3) := by decide +kernel
theorem dX10_work_102 : decode cX10_work 102 = .ok (.iconst 1, 1) := by decide +kernel
theorem dX10_work_103 : decode cX10_work 103 = .ok (.isub, 1) := by decide +kernel
theorem dX10_work_104 : decode cX10_work 104 = .ok (.iaload, 1) := by decide +kernel
theorem dX10_work_105 : decode cX10_work 105 = .ok (.iconst 4, 1) := by decide +kernel
theorem dX10_work_106 : decode cX10_work 106 = .ok (.irem, 1) := by decide +kernel
theorem dX10_work_107 : decode cX10_work 107 = .ok (.iconst 1, 1) := by decide +kernel
theorem dX10_work_108 : decode cX10_work 108 = .ok (.iadd, 1) := by decide +kernel
theorem dX10_work_109 : decode cX10_work 109 = .ok (.iaload, 1) := by decide +kernel
theorem dX10_work_110 : decode cX10_work 110 = .ok (.if_icmp .ne 7, 3) := by decide +kernel
theorem dX10_work_113 : decode cX10_work 113 = .ok (.iconst 1, 1) := by decide +kernel
theorem dX10_work_114 : decode cX10_work 114 = .ok (.goto 4, 3) := by decide +kernel
theorem dX10_work_117 : decode cX10_work 117 = .ok (.iconst 0, 1) := by decide +kernel
theorem dX10_work_118 : decode cX10_work 118 = .ok (.istore 5, 2) := by decide +kernel
theorem dX10_work_120 : decode cX10_work 120 = .ok (.iload 5, 2) := by decide +kernel
theorem dX10_work_122 : decode cX10_work 122 = .ok (.ifCond .eq 7, 3) := by decide +kernel
theorem dX10_work_125 : decode cX10_work 125 = .ok (.iconst (-1), 1) := by decide +kernel
theorem dX10_work_126 : decode cX10_work 126 = .ok (.goto 10, 3) := by decide +kernel
theorem dX10_work_129 : decode cX10_work 129 = .ok (.aload_n 0, 1) := by decide +kernel
theorem dX10_work_130 : decode cX10_work 130 = .ok (.getfield 72, 3) := by decide +kernel
theorem dX10_work_133 : decode cX10_work 133 = .ok (.iload 4, 2) := by decide +kernel
theorem dX10_work_135 : decode cX10_work 135 = .ok (.iaload, 1) := by decide +kernel
theorem dX10_work_136 : decode cX10_work 136 = .ok (.istore 6, 2) := by decide +kernel
theorem dX10_work_138 : decode cX10_work 138 = .ok (.iload 5, 2) := by decide +kernel
theorem dX10_work_140 : decode cX10_work 140 = .ok (.ifCond .eq 10, 3) := by decide +kernel
theorem dX10_work_143 : decode cX10_work 143 = .ok (.aload_n 0, 1) := by decide +kernel
theorem dX10_work_144 : decode cX10_work 144 = .ok (.invokevirtual 339, 3) := by decide +kernel
theorem dX10_work_147 : decode cX10_work 147 = .ok (.goto 180, 3) := by decide +kernel
theorem dX10_work_150 : decode cX10_work 150 = .ok (.iload 6, 2) := by decide +kernel
theorem dX10_work_152 : decode cX10_work 152 = .ok (.iconst 4, 1) := by decide +kernel
theorem dX10_work_153 : decode cX10_work 153 = .ok (.if_icmp .ge 114, 3) := by decide +kernel
theorem dX10_work_156 : decode cX10_work 156 = .ok (.aload_n 0, 1) := by decide +kernel
theorem dX10_work_157 : decode cX10_work 157 = .ok (.iload 6, 2) := by decide +kernel
theorem dX10_work_159 : decode cX10_work 159 = .ok (.iconst 2, 1) := by decide +kernel
theorem dX10_work_160 : decode cX10_work 160 = .ok (.if_icmp .ne 20, 3) := by decide +kernel
theorem dX10_work_163 : decode cX10_work 163 = .ok (.aload_n 0, 1) := by decide +kernel
theorem dX10_work_164 : decode cX10_work 164 = .ok (.getfield 75, 3) := by decide +kernel
theorem dX10_work_167 : decode cX10_work 167 = .ok (.iload 4, 2) := by decide +kernel
theorem dX10_work_169 : decode cX10_work 169 = .ok (.faload, 1) := by decide +kernel
theorem dX10_work_170 : decode cX10_work 170 = .ok (.aload_n 0, 1) := by decide +kernel
theorem dX10_work_171 : decode cX10_work 171 = .ok (.iload_n 2, 1) := by decide +kernel
theorem dX10_work_172 : decode cX10_work 172 = .ok (.iload_n 3, 1) := by decide +kernel
theorem dX10_work_173 : decode cX10_work 173 = .ok (.invokevirtual 342, 3) := by decide +kernel
theorem dX10_work_176 : decode cX10_work 176 = .ok (.fmul, 1) := by decide +kernel
theorem dX10_work_177 : decode cX10_work 177 = .ok (.goto 61, 3) := by decide +kernel
theorem dX10_work_180 : decode cX10_work 180 = .ok (.iload 6, 2) := by decide +kernel
theorem dX10_work_182 : decode cX10_work 182 = .ok (.iconst 3, 1) := by decide +kernel
theorem dX10_work_183 : decode cX10_work 183 = .ok (.if_icmp .ne 48, 3) := by decide +kernel
theorem dX10_work_186 : decode cX10_work 186 = .ok (.aload_n 0, 1) := by decide +kernel
theorem dX10_work_187 : decode cX10_work 187 = .ok (.getfield 75, 3) := by decide +kernel
theorem dX10_work_190 : decode cX10_work 190 = .ok (.iload 4, 2) := by decide +kernel
theorem dX10_work_192 : decode cX10_work 192 = .ok (.faload, 1) := by decide +kernel
theorem dX10_work_193 : decode cX10_work 193 = .ok (.aload_n 0, 1) := by decide +kernel
theorem dX10_work_194 : decode cX10_work 194 = .ok (.getfield 7, 3) := by decide +kernel
theorem dX10_work_197 : decode cX10_work 197 = .ok (.iload_n 2, 1) := by decide +kernel
theorem dX10_work_198 : decode cX10_work 198 = .ok (.iaload, 1) := by decide +kernel
theorem dX10_work_199 : decode cX10_work 199 = .ok (.iconst (-1), 1) := by decide +kernel
theorem dX10_work_200 : decode cX10_work 200 = .ok (.if_icmp .ne 7, 3) := by decide +kernel
theorem dX10_work_203 : decode cX10_work 203 = .ok (.fconst 0, 1) := by decide +kernel
theorem dX10_work_204 : decode cX10_work 204 = .ok (.goto 19, 3) := by decide +kernel
theorem dX10_work_207 : decode cX10_work 207 = .ok (.aload_n 0, 1) := by decide +kernel
theorem dX10_work_208 : decode cX10_work 208 = .ok (.getfield 103, 3) := by decide +kernel
theorem dX10_work_211 : decode cX10_work 211 = .ok (.bipush 6, 2) := by decide +kernel
theorem dX10_work_213 : decode cX10_work 213 = .ok (.aload_n 0, 1) := by decide +kernel
theorem dX10_work_214 : decode cX10_work 214 = .ok (.getfield 7, 3) := by decide +kernel
theorem dX10_work_217 : decode cX10_work 217 = .ok (.iload_n 2, 1) := by decide +kernel
theorem dX10_work_218 : decode cX10_work 218 = .ok (.iaload, 1) := by decide +kernel
theorem dX10_work_219 : decode cX10_work 219 = .ok (.imul, 1) := by decide +kernel
theorem dX10_work_220 : decode cX10_work 220 = .ok (.iload_n 3, 1) := by decide +kernel
theorem dX10_work_221 : decode cX10_work 221 = .ok (.iadd, 1) := by decide +kernel
theorem dX10_work_222 : decode cX10_work 222 = .ok (.faload, 1) := by decide +kernel
theorem dX10_work_223 : decode cX10_work 223 = .ok (.fmul, 1) := by decide +kernel
theorem dX10_work_224 : decode cX10_work 224 = .ok (.ldc_w 346, 3) := by decide +kernel
theorem dX10_work_227 : decode cX10_work 227 = .ok (.fdiv, 1) := by decide +kernel
theorem dX10_work_228 : decode cX10_work 228 = .ok (.goto 10, 3) := by decide +kernel
theorem dX10_work_231 : decode cX10_work 231 = .ok (.aload_n 0, 1) := by decide +kernel
theorem dX10_work_232 : decode cX10_work 232 = .ok (.getfield 75, 3) := by decide +kernel
theorem dX10_work_235 : decode cX10_work 235 = .ok (.iload 4, 2) := by decide +kernel
theorem dX10_work_237 : decode cX10_work 237 = .ok (.faload, 1) := by decide +kernel
theorem dX10_work_238 : decode cX10_work 238 = .ok (.iload 6, 2) := by decide +kernel
theorem dX10_work_240 : decode cX10_work 240 = .ok (.ifCond .eq 16, 3) := by decide +kernel
theorem dX10_work_243 : decode cX10_work 243 = .ok (.iload 6, 2) := by decide +kernel
theorem dX10_work_245 : decode cX10_work 245 = .ok (.iconst 3, 1) := by decide +kernel
theorem dX10_work_246 : decode cX10_work 246 = .ok (.if_icmp .ne 14, 3) := by decide +kernel
theorem dX10_work_249 : decode cX10_work 249 = .ok (.iload_n 3, 1) := by decide +kernel
theorem dX10_work_250 : decode cX10_work 250 = .ok (.invokestatic 347, 3) := by decide +kernel
theorem dX10_work_253 : decode cX10_work 253 = .ok (.ifCond .eq 7, 3) := by decide +kernel
theorem dX10_work_256 : decode cX10_work 256 = .ok (.iconst 1, 1) := by decide +kernel
theorem dX10_work_257 : decode cX10_work 257 = .ok (.goto 4, 3) := by decide +kernel
theorem dX10_work_260 : decode cX10_work 260 = .ok (.iconst 0, 1) := by decide +kernel
theorem dX10_work_261 : decode cX10_work 261 = .ok (.invokevirtual 331, 3) := by decide +kernel
theorem dX10_work_264 : decode cX10_work 264 = .ok (.goto 63, 3) := by decide +kernel
theorem dX10_work_267 : decode cX10_work 267 = .ok (.iload 6, 2) := by decide +kernel
theorem dX10_work_269 : decode cX10_work 269 = .ok (.bipush 8, 2) := by decide +kernel
theorem dX10_work_271 : decode cX10_work 271 = .ok (.if_icmp .ge 17, 3) := by decide +kernel
theorem dX10_work_274 : decode cX10_work 274 = .ok (.aload_n 0, 1) := by decide +kernel
theorem dX10_work_275 : decode cX10_work 275 = .ok (.iload 6, 2) := by decide +kernel
theorem dX10_work_277 : decode cX10_work 277 = .ok (.iconst 4, 1) := by decide +kernel
theorem dX10_work_278 : decode cX10_work 278 = .ok (.isub, 1) := by decide +kernel
theorem dX10_work_279 : decode cX10_work 279 = .ok (.bipush 6, 2) := by decide +kernel
theorem dX10_work_281 : decode cX10_work 281 = .ok (.iadd, 1) := by decide +kernel
theorem dX10_work_282 : decode cX10_work 282 = .ok (.invokevirtual 350, 3) := by decide +kernel
theorem dX10_work_285 : decode cX10_work 285 = .ok (.goto 42, 3) := by decide +kernel
theorem dX10_work_288 : decode cX10_work 288 = .ok (.iload 6, 2) := by decide +kernel
theorem dX10_work_290 : decode cX10_work 290 = .ok (.bipush 8, 2) := by decide +kernel
theorem dX10_work_292 : decode cX10_work 292 = .ok (.if_icmp .ne 29, 3) := by decide +kernel
theorem dX10_work_295 : decode cX10_work 295 = .ok (.aload_n 0, 1) := by decide +kernel
theorem dX10_work_296 : decode cX10_work 296 = .ok (.getfield 106, 3) := by decide +kernel
theorem dX10_work_299 : decode cX10_work 299 = .ok (.aload_n 0, 1) := by decide +kernel
theorem dX10_work_300 : decode cX10_work 300 = .ok (.getfield 324, 3) := by decide +kernel
theorem dX10_work_303 : decode cX10_work 303 = .ok (.iconst 1, 1) := by decide +kernel
theorem dX10_work_304 : decode cX10_work 304 = .ok (.isub, 1) := by decide +kernel
theorem dX10_work_305 : decode cX10_work 305 = .ok (.aload_n 0, 1) := by decide +kernel
theorem dX10_work_306 : decode cX10_work 306 = .ok (.getfield 106, 3) := by decide +kernel
theorem dX10_work_309 : decode cX10_work 309 = .ok (.aload_n 0, 1) := by decide +kernel
theorem dX10_work_310 : decode cX10_work 310 = .ok (.getfield 324, 3) := by decide +kernel
theorem dX10_work_313 : decode cX10_work 313 = .ok (.iconst 1, 1) := by decide +kernel
theorem dX10_work_314 : decode cX10_work 314 = .ok (.isub, 1) := by decide +kernel
theorem dX10_work_315 : decode cX10_work 315 = .ok (.faload, 1) := by decide +kernel
theorem dX10_work_316 : decode cX10_work 316 = .ok (.fneg, 1) := by decide +kernel
theorem dX10_work_317 : decode cX10_work 317 = .ok (.fastore, 1) := by decide +kernel
theorem dX10_work_318 : decode cX10_work 318 = .ok (.goto 9, 3) := by decide +kernel
theorem dX10_work_321 : decode cX10_work 321 = .ok (.aload_n 0, 1) := by decide +kernel
theorem dX10_work_322 : decode cX10_work 322 = .ok (.iload 6, 2) := by decide +kernel
theorem dX10_work_324 : decode cX10_work 324 = .ok (.invokevirtual 353, 3) := by decide +kernel
theorem dX10_work_327 : decode cX10_work 327 = .ok (.goto (-281), 3) := by decide +kernel
theorem dX10_work_330 : decode cX10_work 330 = .ok (.aload_n 0, 1) := by decide +kernel
theorem dX10_work_331 : decode cX10_work 331 = .ok (.getfield 319, 3) := by decide +kernel
theorem dX10_work_334 : decode cX10_work 334 = .ok (.ifCond .ne 20, 3) := by decide +kernel
theorem dX10_work_337 : decode cX10_work 337 = .ok (.aload_n 0, 1) := by decide +kernel
theorem dX10_work_338 : decode cX10_work 338 = .ok (.getfield 109, 3) := by decide +kernel
theorem dX10_work_341 : decode cX10_work 341 = .ok (.iconst 0, 1) := by decide +kernel
theorem dX10_work_342 : decode cX10_work 342 = .ok (.baload, 1) := by decide +kernel
theorem dX10_work_343 : decode cX10_work 343 = .ok (.iload_n 3, 1) := by decide +kernel
theorem dX10_work_344 : decode cX10_work 344 = .ok (.invokestatic 347, 3) := by decide +kernel
theorem dX10_work_347 : decode cX10_work 347 = .ok (.if_icmp .ne 7, 3) := by decide +kernel
theorem dX10_work_350 : decode cX10_work 350 = .ok (.iconst 1, 1) := by decide +kernel
theorem dX10_work_351 : decode cX10_work 351 = .ok (.goto 4, 3) := by decide +kernel
theorem dX10_work_354 : decode cX10_work 354 = .ok (.iconst 0, 1) := by decide +kernel
theorem dX10_work_355 : decode cX10_work 355 = .ok (.ireturn, 1) := by decide +kernel
theorem dX10_initial_0 : decode cX10_initial 0 = .ok (.iload_n 0, 1) := by decide +kernel
theorem dX10_initial_1 : decode cX10_initial 1 = .ok (.iconst 1, 1) := by decide +kernel
theorem dX10_initial_2 : decode cX10_initial 2 = .ok (.if_icmp .ne 9, 3) := by decide +kernel
theorem dX10_initial_5 : decode cX10_initial 5 = .ok (.ldc_w 327, 3) := by decide +kernel
theorem dX10_initial_8 : decode cX10_initial 8 = .ok (.goto 4, 3) := by decide +kernel
theorem dX10_initial_11 : decode cX10_initial 11 = .ok (.fconst 0, 1) := by decide +kernel
theorem dX10_initial_12 : decode cX10_initial 12 = .ok (.freturn, 1) := by decide +kernel
theorem dX10_handed_0 : decode cX10_handed 0 = .ok (.aload_n 0, 1) := by decide +kernel
theorem dX10_handed_1 : decode cX10_handed 1 = .ok (.getfield 7, 3) := by decide +kernel
theorem dX10_handed_4 : decode cX10_handed 4 = .ok (.iload_n 1, 1) := by decide +kernel
theorem dX10_handed_5 : decode cX10_handed 5 = .ok (.iaload, 1) := by decide +kernel
theorem dX10_handed_6 : decode cX10_handed 6 = .ok (.iconst (-1), 1) := by decide +kernel
theorem dX10_handed_7 : decode cX10_handed 7 = .ok (.if_icmp .ne 10, 3) := by decide +kernel
theorem dX10_handed_10 : decode cX10_handed 10 = .ok (.iload_n 2, 1) := by decide +kernel
theorem dX10_handed_11 : decode cX10_handed 11 = .ok (.invokestatic 356, 3) := by decide +kernel
theorem dX10_handed_14 : decode cX10_handed 14 = .ok (.goto 19, 3) := by decide +kernel
theorem dX10_handed_17 : decode cX10_handed 17 = .ok (.aload_n 0, 1) := by decide +kernel
theorem dX10_handed_18 : decode cX10_handed 18 = .ok (.getfield 103, 3) := by decide +kernel
theorem dX10_handed_21 : decode cX10_handed 21 = .ok (.bipush 6, 2) := by decide +kernel
theorem dX10_handed_23 : decode cX10_handed 23 = .ok (.aload_n 0, 1) := by decide +kernel
theorem dX10_handed_24 : decode cX10_handed 24 = .ok (.getfield 7, 3) := by decide +kernel
theorem dX10_handed_27 : decode cX10_handed 27 = .ok (.iload_n 1, 1) := by decide +kernel
theorem dX10_handed_28 : decode cX10_handed 28 = .ok (.iaload, 1) := by decide +kernel
theorem dX10_handed_29 : decode cX10_handed 29 = .ok (.imul, 1) := by decide +kernel
theorem dX10_handed_30 : decode cX10_handed 30 = .ok (.iload_n 2, 1) := by decide +kernel
theorem dX10_handed_31 : decode cX10_handed 31 = .ok (.iadd, 1) := by decide +kernel
theorem dX10_handed_32 : decode cX10_handed 32 = .ok (.faload, 1) := by decide +kernel
theorem dX10_handed_33 : decode cX10_handed 33 = .ok (.freturn, 1) := by decide +kernel
theorem dX10_find_0 : decode cX10_find 0 = .ok (.aload_n 0, 1) := by decide +kernel
theorem dX10_find_1 : decode cX10_find 1 = .ok (.iload_n 1, 1) := by decide +kernel
theorem dX10_find_2 : decode cX10_find 2 = .ok (.iload_n 2, 1) := by decide +kernel
theorem dX10_find_3 : decode cX10_find 3 = .ok (.invokevirtual 316, 3) := by decide +kernel
theorem dX10_find_6 : decode cX10_find 6 = .ok (.istore_n 3, 1) := by decide +kernel
theorem dX10_find_7 : decode cX10_find 7 = .ok (.iload_n 3, 1) := by decide +kernel
theorem dX10_find_8 : decode cX10_find 8 = .ok (.iconst (-1), 1) := by decide +kernel
theorem dX10_find_9 : decode cX10_find 9 = .ok (.if_icmp .ne 7, 3) := by decide +kernel
theorem dX10_find_12 : decode cX10_find 12 = .ok (.iconst 3, 1) := by decide +kernel
theorem dX10_find_13 : decode cX10_find 13 = .ok (.goto 9, 3) := by decide +kernel
theorem dX10_find_16 : decode cX10_find 16 = .ok (.aload_n 0, 1) := by decide +kernel
theorem dX10_find_17 : decode cX10_find 17 = .ok (.getfield 97, 3) := by decide +kernel
theorem dX10_find_20 : decode cX10_find 20 = .ok (.iload_n 3, 1) := by decide +kernel
theorem dX10_find_21 : decode cX10_find 21 = .ok (.iaload, 1) := by decide +kernel
theorem dX10_find_22 : decode cX10_find 22 = .ok (.istore 4, 2) := by decide +kernel
theorem dX10_find_24 : decode cX10_find 24 = .ok (.iload 4, 2) := by decide +kernel
theorem dX10_find_26 : decode cX10_find 26 = .ok (.ifCond .ne 17, 3) := by decide +kernel
theorem dX10_find_29 : decode cX10_find 29 = .ok (.aload_n 0, 1) := by decide +kernel
theorem dX10_find_30 : decode cX10_find 30 = .ok (.iload_n 3, 1) := by decide +kernel
theorem dX10_find_31 : decode cX10_find 31 = .ok (.iload_n 1, 1) := by decide +kernel
theorem dX10_find_32 : decode cX10_find 32 = .ok (.iload_n 2, 1) := by decide +kernel
theorem dX10_find_33 : decode cX10_find 33 = .ok (.invokevirtual 360, 3) := by decide +kernel
theorem dX10_find_36 : decode cX10_find 36 = .ok (.ifCond .eq 7, 3) := by decide +kernel
theorem dX10_find_39 : decode cX10_find 39 = .ok (.iconst 1, 1) := by decide +kernel
theorem dX10_find_40 : decode cX10_find 40 = .ok (.goto 4, 3) := by decide +kernel
theorem dX10_find_43 : decode cX10_find 43 = .ok (.iconst 0, 1) := by decide +kernel
theorem dX10_find_44 : decode cX10_find 44 = .ok (.istore 5, 2) := by decide +kernel
theorem dX10_find_46 : decode cX10_find 46 = .ok (.aload_n 0, 1) := by decide +kernel
theorem dX10_find_47 : decode cX10_find 47 = .ok (.iload 4, 2) := by decide +kernel
theorem dX10_find_49 : decode cX10_find 49 = .ok (.iconst 3, 1) := by decide +kernel
theorem dX10_find_50 : decode cX10_find 50 = .ok (.if_icmp .ne 7, 3) := by decide +kernel
theorem dX10_find_53 : decode cX10_find 53 = .ok (.iconst 0, 1) := by decide +kernel
theorem dX10_find_54 : decode cX10_find 54 = .ok (.goto 22, 3) := by decide +kernel
theorem dX10_find_57 : decode cX10_find 57 = .ok (.iload 4, 2) := by decide +kernel
theorem dX10_find_59 : decode cX10_find 59 = .ok (.ifCond .le 7, 3) := by decide +kernel
theorem dX10_find_62 : decode cX10_find 62 = .ok (.iconst 1, 1) := by decide +kernel
theorem dX10_find_63 : decode cX10_find 63 = .ok (.goto 13, 3) := by decide +kernel
theorem dX10_find_66 : decode cX10_find 66 = .ok (.iload 5, 2) := by decide +kernel
theorem dX10_find_68 : decode cX10_find 68 = .ok (.ifCond .eq 7, 3) := by decide +kernel
theorem dX10_find_71 : decode cX10_find 71 = .ok (.iconst 2, 1) := by decide +kernel
theorem dX10_find_72 : decode cX10_find 72 = .ok (.goto 4, 3) := by decide +kernel
theorem dX10_find_75 : decode cX10_find 75 = .ok (.iconst 3, 1) := by decide +kernel
theorem dX10_find_76 : decode cX10_find 76 = .ok (.putfield 363, 3) := by decide +kernel
theorem dX10_find_79 : decode cX10_find 79 = .ok (.iload_n 2, 1) := by decide +kernel
theorem dX10_find_80 : decode cX10_find 80 = .ok (.iconst 2, 1) := by decide +kernel
theorem dX10_find_81 : decode cX10_find 81 = .ok (.if_icmp .ge 12, 3) := by decide +kernel
theorem dX10_find_84 : decode cX10_find 84 = .ok (.aload_n 0, 1) := by decide +kernel
theorem dX10_find_85 : decode cX10_find 85 = .ok (.iload_n 1, 1) := by decide +kernel
theorem dX10_find_86 : decode cX10_find 86 = .ok (.iload_n 2, 1) := by decide +kernel
theorem dX10_find_87 : decode cX10_find 87 = .ok (.invokevirtual 366, 3) := by decide +kernel
theorem dX10_find_90 : decode cX10_find 90 = .ok (.goto 7, 3) := by decide +kernel
theorem dX10_find_93 : decode cX10_find 93 = .ok (.iload_n 2, 1) := by decide +kernel
theorem dX10_find_94 : decode cX10_find 94 = .ok (.invokestatic 356, 3) := by decide +kernel
theorem dX10_find_97 : decode cX10_find 97 = .ok (.fstore 6, 2) := by decide +kernel
theorem dX10_find_99 : decode cX10_find 99 = .ok (.aload_n 0, 1) := by decide +kernel
theorem dX10_find_100 : decode cX10_find 100 = .ok (.getfield 103, 3) := by decide +kernel
theorem dX10_find_103 : decode cX10_find 103 = .ok (.bipush 6, 2) := by decide +kernel
theorem dX10_find_105 : decode cX10_find 105 = .ok (.iload_n 1, 1) := by decide +kernel
theorem dX10_find_106 : decode cX10_find 106 = .ok (.imul, 1) := by decide +kernel
theorem dX10_find_107 : decode cX10_find 107 = .ok (.iload_n 2, 1) := by decide +kernel
theorem dX10_find_108 : decode cX10_find 108 = .ok (.iadd, 1) := by decide +kernel
theorem dX10_find_109 : decode cX10_find 109 = .ok (.iload 5, 2) := by decide +kernel
theorem dX10_find_111 : decode cX10_find 111 = .ok (.ifCond .eq 12, 3) := by decide +kernel
theorem dX10_find_114 : decode cX10_find 114 = .ok (.aload_n 0, 1) := by decide +kernel
theorem dX10_find_115 : decode cX10_find 115 = .ok (.getfield 106, 3) := by decide +kernel
theorem dX10_find_118 : decode cX10_find 118 = .ok (.iconst 0, 1) := by decide +kernel
theorem dX10_find_119 : decode cX10_find 119 = .ok (.faload, 1) := by decide +kernel
theorem dX10_find_120 : decode cX10_find 120 = .ok (.goto 33, 3) := by decide +kernel
theorem dX10_find_123 : decode cX10_find 123 = .ok (.iload 4, 2) := by decide +kernel
theorem dX10_find_125 : decode cX10_find 125 = .ok (.iconst 1, 1) := by decide +kernel
theorem dX10_find_126 : decode cX10_find 126 = .ok (.if_icmp .ne 12, 3) := by decide +kernel
theorem dX10_find_129 : decode cX10_find 129 = .ok (.aload_n 0, 1) := by decide +kernel
theorem dX10_find_130 : decode cX10_find 130 = .ok (.iload_n 1, 1) := by decide +kernel
theorem dX10_find_131 : decode cX10_find 131 = .ok (.iload_n 2, 1) := by decide +kernel
theorem dX10_find_132 : decode cX10_find 132 = .ok (.invokevirtual 366, 3) := by decide +kernel
theorem dX10_find_135 : decode cX10_find 135 = .ok (.goto 18, 3) := by decide +kernel
theorem dX10_find_138 : decode cX10_find 138 = .ok (.iload 4, 2) := by decide +kernel
theorem dX10_find_140 : decode cX10_find 140 = .ok (.iconst 2, 1) := by decide +kernel
theorem dX10_find_141 : decode cX10_find 141 = .ok (.if_icmp .ne 10, 3) := by decide +kernel
theorem dX10_find_144 : decode cX10_find 144 = .ok (.iload_n 2, 1) := by decide +kernel
theorem dX10_find_145 : decode cX10_find 145 = .ok (.invokestatic 356, 3) := by decide +kernel
theorem dX10_find_148 : decode cX10_find 148 = .ok (.goto 5, 3) := by decide +kernel
theorem dX10_find_151 : decode cX10_find 151 = .ok (.fload 6, 2) := by decide +kernel
theorem dX10_find_153 : decode cX10_find 153 = .ok (.fastore, 1) := by decide +kernel
theorem dX10_find_154 : decode cX10_find 154 = .ok (.return_, 1) := by decide +kernel
theorem dX10_above_0 : decode cX10_above 0 = .ok (.iload_n 2, 1) := by decide +kernel
theorem dX10_above_1 : decode cX10_above 1 = .ok (.istore_n 3, 1) := by decide +kernel
theorem dX10_above_2 : decode cX10_above 2 = .ok (.iload_n 3, 1) := by decide +kernel
theorem dX10_above_3 : decode cX10_above 3 = .ok (.iconst (-1), 1) := by decide +kernel
theorem dX10_above_4 : decode cX10_above 4 = .ok (.if_icmp .eq 18, 3) := by decide +kernel
theorem dX10_above_7 : decode cX10_above 7 = .ok (.iload_n 3, 1) := by decide +kernel
theorem dX10_above_8 : decode cX10_above 8 = .ok (.iload_n 1, 1) := by decide +kernel
theorem dX10_above_9 : decode cX10_above 9 = .ok (.if_icmp .eq 13, 3) := by decide +kernel
theorem dX10_above_12 : decode cX10_above 12 = .ok (.aload_n 0, 1) := by decide +kernel
theorem dX10_above_13 : decode cX10_above 13 = .ok (.getfield 7, 3) := by decide +kernel
theorem dX10_above_16 : decode cX10_above 16 = .ok (.iload_n 3, 1) := by decide +kernel
theorem dX10_above_17 : decode cX10_above 17 = .ok (.iaload, 1) := by decide +kernel
theorem dX10_above_18 : decode cX10_above 18 = .ok (.istore_n 3, 1) := by decide +kernel
theorem dX10_above_19 : decode cX10_above 19 = .ok (.goto (-17), 3) := by decide +kernel
theorem dX10_above_22 : decode cX10_above 22 = .ok (.iload_n 3, 1) := by decide +kernel
theorem dX10_above_23 : decode cX10_above 23 = .ok (.iload_n 1, 1) := by decide +kernel
theorem dX10_above_24 : decode cX10_above 24 = .ok (.if_icmp .ne 7, 3) := by decide +kernel
theorem dX10_above_27 : decode cX10_above 27 = .ok (.iconst 1, 1) := by decide +kernel
theorem dX10_above_28 : decode cX10_above 28 = .ok (.goto 4, 3) := by decide +kernel
theorem dX10_above_31 : decode cX10_above 31 = .ok (.iconst 0, 1) := by decide +kernel
theorem dX10_above_32 : decode cX10_above 32 = .ok (.ireturn, 1) := by decide +kernel
theorem dX10_ask_0 : decode cX10_ask 0 = .ok (.aload_n 0, 1) := by decide +kernel
theorem dX10_ask_1 : decode cX10_ask 1 = .ok (.iload_n 1, 1) := by decide +kernel
theorem dX10_ask_2 : decode cX10_ask 2 = .ok (.iconst 0, 1) := by decide +kernel
theorem dX10_ask_3 : decode cX10_ask 3 = .ok (.aload_n 0, 1) := by decide +kernel
theorem dX10_ask_4 : decode cX10_ask 4 = .ok (.getfield 137, 3) := by decide +kernel
theorem dX10_ask_7 : decode cX10_ask 7 = .ok (.iconst 1, 1) := by decide +kernel
theorem dX10_ask_8 : decode cX10_ask 8 = .ok (.isub, 1) := by decide +kernel
theorem dX10_ask_9 : decode cX10_ask 9 = .ok (.invokestatic 140, 3) := by decide +kernel
theorem dX10_ask_12 : decode cX10_ask 12 = .ok (.ifCond .eq 7, 3) := by decide +kernel
theorem dX10_ask_15 : decode cX10_ask 15 = .ok (.iconst 1, 1) := by decide +kernel
theorem dX10_ask_16 : decode cX10_ask 16 = .ok (.goto 17, 3) := by decide +kernel
theorem dX10_ask_19 : decode cX10_ask 19 = .ok (.iload_n 2, 1) := by decide +kernel
theorem dX10_ask_20 : decode cX10_ask 20 = .ok (.iconst 0, 1) := by decide +kernel
theorem dX10_ask_21 : decode cX10_ask 21 = .ok (.iconst 5, 1) := by decide +kernel
theorem dX10_ask_22 : decode cX10_ask 22 = .ok (.invokestatic 140, 3) := by decide +kernel
theorem dX10_ask_25 : decode cX10_ask 25 = .ok (.ifCond .eq 7, 3) := by decide +kernel
theorem dX10_ask_28 : decode cX10_ask 28 = .ok (.iconst 2, 1) := by decide +kernel
theorem dX10_ask_29 : decode cX10_ask 29 = .ok (.goto 4, 3) := by decide +kernel
theorem dX10_ask_32 : decode cX10_ask 32 = .ok (.iconst 0, 1) := by decide +kernel
theorem dX10_ask_33 : decode cX10_ask 33 = .ok (.putfield 133, 3) := by decide +kernel
theorem dX10_ask_36 : decode cX10_ask 36 = .ok (.aload_n 0, 1) := by decide +kernel
theorem dX10_ask_37 : decode cX10_ask 37 = .ok (.getfield 133, 3) := by decide +kernel
theorem dX10_ask_40 : decode cX10_ask 40 = .ok (.ifCond .le 8, 3) := by decide +kernel
theorem dX10_ask_43 : decode cX10_ask 43 = .ok (.aload_n 0, 1) := by decide +kernel
theorem dX10_ask_44 : decode cX10_ask 44 = .ok (.getfield 133, 3) := by decide +kernel
theorem dX10_ask_47 : decode cX10_ask 47 = .ok (.ireturn, 1) := by decide +kernel
theorem dX10_ask_48 : decode cX10_ask 48 = .ok (.aload_n 0, 1) := by decide +kernel
theorem dX10_ask_49 : decode cX10_ask 49 = .ok (.invokevirtual 313, 3) := by decide +kernel
theorem dX10_ask_52 : decode cX10_ask 52 = .ok (.iconst 0, 1) := by decide +kernel
theorem dX10_ask_53 : decode cX10_ask 53 = .ok (.istore_n 3, 1) := by decide +kernel
theorem dX10_ask_54 : decode cX10_ask 54 = .ok (.iload_n 3, 1) := by decide +kernel
theorem dX10_ask_55 : decode cX10_ask 55 = .ok (.iload_n 1, 1) := by decide +kernel
theorem dX10_ask_56 : decode cX10_ask 56 = .ok (.if_icmp .gt 35, 3) := by decide +kernel
theorem dX10_ask_59 : decode cX10_ask 59 = .ok (.aload_n 0, 1) := by decide +kernel
theorem dX10_ask_60 : decode cX10_ask 60 = .ok (.iload_n 3, 1) := by decide +kernel
theorem dX10_ask_61 : decode cX10_ask 61 = .ok (.iload_n 1, 1) := by decide +kernel
theorem dX10_ask_62 : decode cX10_ask 62 = .ok (.invokevirtual 369, 3) := by decide +kernel
theorem dX10_ask_65 : decode cX10_ask 65 = .ok (.ifCond .eq 20, 3) := by decide +kernel
theorem dX10_ask_68 : decode cX10_ask 68 = .ok (.aload_n 0, 1) := by decide +kernel
theorem dX10_ask_69 : decode cX10_ask 69 = .ok (.iload_n 3, 1) := by decide +kernel
theorem dX10_ask_70 : decode cX10_ask 70 = .ok (.iconst 1, 1) := by decide +kernel
theorem dX10_ask_71 : decode cX10_ask 71 = .ok (.invokevirtual 372, 3) := by decide +kernel
theorem dX10_ask_74 : decode cX10_ask 74 = .ok (.iload_n 2, 1) := by decide +kernel
theorem dX10_ask_75 : decode cX10_ask 75 = .ok (.iconst 1, 1) := by decide +kernel
theorem dX10_ask_76 : decode cX10_ask 76 = .ok (.if_icmp .eq 9, 3) := by decide +kernel
theorem dX10_ask_79 : decode cX10_ask 79 = .ok (.aload_n 0, 1) := by decide +kernel
theorem dX10_ask_80 : decode cX10_ask 80 = .ok (.iload_n 3, 1) := by decide +kernel
theorem dX10_ask_81 : decode cX10_ask 81 = .ok (.iload_n 2, 1) := by decide +kernel
theorem dX10_ask_82 : decode cX10_ask 82 = .ok (.invokevirtual 372, 3) := by decide +kernel
theorem dX10_ask_85 : decode cX10_ask 85 = .ok (.iinc 3 1, 3) := by decide +kernel
theorem dX10_ask_88 : decode cX10_ask 88 = .ok (.goto (-34), 3) := by decide +kernel
theorem dX10_ask_91 : decode cX10_ask 91 = .ok (.iconst 0, 1) := by decide +kernel
theorem dX10_ask_92 : decode cX10_ask 92 = .ok (.ireturn, 1) := by decide +kernel
theorem dX10_value_0 : decode cX10_value 0 = .ok (.aload_n 0, 1) := by decide +kernel
theorem dX10_value_1 : decode cX10_value 1 = .ok (.iload_n 1, 1) := by decide +kernel
theorem dX10_value_2 : decode cX10_value 2 = .ok (.iload_n 2, 1) := by decide +kernel
theorem dX10_value_3 : decode cX10_value 3 = .ok (.invokevirtual 375, 3) := by decide +kernel
theorem dX10_value_6 : decode cX10_value 6 = .ok (.ifCond .le 7, 3) := by decide +kernel
theorem dX10_value_9 : decode cX10_value 9 = .ok (.fconst 0, 1) := by decide +kernel
theorem dX10_value_10 : decode cX10_value 10 = .ok (.goto 14, 3) := by decide +kernel
theorem dX10_value_13 : decode cX10_value 13 = .ok (.aload_n 0, 1) := by decide +kernel
theorem dX10_value_14 : decode cX10_value 14 = .ok (.getfield 103, 3) := by decide +kernel
theorem dX10_value_17 : decode cX10_value 17 = .ok (.bipush 6, 2) := by decide +kernel
theorem dX10_value_19 : decode cX10_value 19 = .ok (.iload_n 1, 1) := by decide +kernel
theorem dX10_value_20 : decode cX10_value 20 = .ok (.imul, 1) := by decide +kernel
theorem dX10_value_21 : decode cX10_value 21 = .ok (.iload_n 2, 1) := by decide +kernel
theorem dX10_value_22 : decode cX10_value 22 = .ok (.iadd, 1) := by decide +kernel
theorem dX10_value_23 : decode cX10_value 23 = .ok (.faload, 1) := by decide +kernel
theorem dX10_value_24 : decode cX10_value 24 = .ok (.freturn, 1) := by decide +kernel
theorem dX10_how_0 : decode cX10_how 0 = .ok (.aload_n 0, 1) := by decide +kernel
theorem dX10_how_1 : decode cX10_how 1 = .ok (.iload_n 1, 1) := by decide +kernel
theorem dX10_how_2 : decode cX10_how 2 = .ok (.iload_n 2, 1) := by decide +kernel
theorem dX10_how_3 : decode cX10_how 3 = .ok (.invokevirtual 375, 3) := by decide +kernel
theorem dX10_how_6 : decode cX10_how 6 = .ok (.ifCond .le 7, 3) := by decide +kernel
theorem dX10_how_9 : decode cX10_how 9 = .ok (.iconst 0, 1) := by decide +kernel
theorem dX10_how_10 : decode cX10_how 10 = .ok (.goto 7, 3) := by decide +kernel
theorem dX10_how_13 : decode cX10_how 13 = .ok (.aload_n 0, 1) := by decide +kernel
theorem dX10_how_14 : decode cX10_how 14 = .ok (.getfield 363, 3) := by decide +kernel
theorem dX10_how_17 : decode cX10_how 17 = .ok (.ireturn, 1) := by decide +kernel
theorem dX10_count_0 : decode cX10_count 0 = .ok (.aload_n 0, 1) := by decide +kernel
theorem dX10_count_1 : decode cX10_count 1 = .ok (.iconst 0, 1) := by decide +kernel
theorem dX10_count_2 : decode cX10_count 2 = .ok (.putfield 133, 3) := by decide +kernel
theorem dX10_count_5 : decode cX10_count 5 = .ok (.iload_n 1, 1) := by decide +kernel
theorem dX10_count_6 : decode cX10_count 6 = .ok (.ifCond .ne 10, 3) := by decide +kernel
theorem dX10_count_9 : decode cX10_count 9 = .ok (.aload_n 0, 1) := by decide +kernel
theorem dX10_count_10 : decode cX10_count 10 = .ok (.getfield 137, 3) := by decide +kernel
theorem dX10_count_13 : decode cX10_count 13 = .ok (.goto 31, 3) := by decide +kernel
theorem dX10_count_16 : decode cX10_count 16 = .ok (.iload_n 1, 1) := by decide +kernel
theorem dX10_count_17 : decode cX10_count 17 = .ok (.iconst 1, 1) := by decide +kernel
theorem dX10_count_18 : decode cX10_count 18 = .ok (.if_icmp .ne 10, 3) := by decide +kernel
theorem dX10_count_21 : decode cX10_count 21 = .ok (.aload_n 0, 1) := by decide +kernel
theorem dX10_count_22 : decode cX10_count 22 = .ok (.getfield 274, 3) := by decide +kernel
theorem dX10_count_25 : decode cX10_count 25 = .ok (.goto 19, 3) := by decide +kernel
theorem dX10_count_28 : decode cX10_count 28 = .ok (.iload_n 1, 1) := by decide +kernel
theorem dX10_count_29 : decode cX10_count 29 = .ok (.iconst 2, 1) := by decide +kernel
theorem dX10_count_30 : decode cX10_count 30 = .ok (.if_icmp .ne 13, 3) := by decide +kernel
theorem dX10_count_33 : decode cX10_count 33 = .ok (.aload_n 0, 1) := by decide +kernel
theorem dX10_count_34 : decode cX10_count 34 = .ok (.getfield 32, 3) := by decide +kernel
theorem dX10_count_37 : decode cX10_count 37 = .ok (.bipush 16, 2) := by decide +kernel
theorem dX10_count_39 : decode cX10_count 39 = .ok (.iaload, 1) := by decide +kernel
theorem dX10_count_40 : decode cX10_count 40 = .ok (.goto 4, 3) := by decide +kernel
theorem dX10_count_43 : decode cX10_count 43 = .ok (.iconst (-1), 1) := by decide +kernel
theorem dX10_count_44 : decode cX10_count 44 = .ok (.ireturn, 1) := by decide +kernel
theorem dJ6_bitCount_0f7a4_0 : decode cJ6_bitCount_0f7a4 0 = .ok (.iload_n 0, 1) := by decide +kernel
theorem dJ6_bitCount_0f7a4_1 : decode cJ6_bitCount_0f7a4 1 = .ok (.iload_n 0, 1) := by decide +kernel
theorem dJ6_bitCount_0f7a4_2 : decode cJ6_bitCount_0f7a4 2 = .ok (.iconst 1, 1) := by decide +kernel
theorem dJ6_bitCount_0f7a4_3 : decode cJ6_bitCount_0f7a4 3 = .ok (.iushr, 1) := by decide +kernel
theorem dJ6_bitCount_0f7a4_4 : decode cJ6_bitCount_0f7a4 4 = .ok (.ldc_w 265, 3) := by decide +kernel
theorem dJ6_bitCount_0f7a4_7 : decode cJ6_bitCount_0f7a4 7 = .ok (.iand, 1) := by decide +kernel
theorem dJ6_bitCount_0f7a4_8 : decode cJ6_bitCount_0f7a4 8 = .ok (.isub, 1) := by decide +kernel
theorem dJ6_bitCount_0f7a4_9 : decode cJ6_bitCount_0f7a4 9 = .ok (.istore_n 0, 1) := by decide +kernel
theorem dJ6_bitCount_0f7a4_10 : decode cJ6_bitCount_0f7a4 10 = .ok (.iload_n 0, 1) := by decide +kernel
theorem dJ6_bitCount_0f7a4_11 : decode cJ6_bitCount_0f7a4 11 = .ok (.ldc_w 266, 3) := by decide +kernel
theorem dJ6_bitCount_0f7a4_14 : decode cJ6_bitCount_0f7a4 14 = .ok (.iand, 1) := by decide +kernel
theorem dJ6_bitCount_0f7a4_15 : decode cJ6_bitCount_0f7a4 15 = .ok (.iload_n 0, 1) := by decide +kernel
theorem dJ6_bitCount_0f7a4_16 : decode cJ6_bitCount_0f7a4 16 = .ok (.iconst 2, 1) := by decide +kernel
theorem dJ6_bitCount_0f7a4_17 : decode cJ6_bitCount_0f7a4 17 = .ok (.iushr, 1) := by decide +kernel
theorem dJ6_bitCount_0f7a4_18 : decode cJ6_bitCount_0f7a4 18 = .ok (.ldc_w 266, 3) := by decide +kernel
theorem dJ6_bitCount_0f7a4_21 : decode cJ6_bitCount_0f7a4 21 = .ok (.iand, 1) := by decide +kernel
theorem dJ6_bitCount_0f7a4_22 : decode cJ6_bitCount_0f7a4 22 = .ok (.iadd, 1) := by decide +kernel
theorem dJ6_bitCount_0f7a4_23 : decode cJ6_bitCount_0f7a4 23 = .ok (.istore_n 0, 1) := by decide +kernel
theorem dJ6_bitCount_0f7a4_24 : decode cJ6_bitCount_0f7a4 24 = .ok (.iload_n 0, 1) := by decide +kernel
theorem dJ6_bitCount_0f7a4_25 : decode cJ6_bitCount_0f7a4 25 = .ok (.iload_n 0, 1) := by decide +kernel
theorem dJ6_bitCount_0f7a4_26 : decode cJ6_bitCount_0f7a4 26 = .ok (.iconst 4, 1) := by decide +kernel
theorem dJ6_bitCount_0f7a4_27 : decode cJ6_bitCount_0f7a4 27 = .ok (.iushr, 1) := by decide +kernel
theorem dJ6_bitCount_0f7a4_28 : decode cJ6_bitCount_0f7a4 28 = .ok (.iadd, 1) := by decide +kernel
theorem dJ6_bitCount_0f7a4_29 : decode cJ6_bitCount_0f7a4 29 = .ok (.ldc_w 267, 3) := by decide +kernel
theorem dJ6_bitCount_0f7a4_32 : decode cJ6_bitCount_0f7a4 32 = .ok (.iand, 1) := by decide +kernel
theorem dJ6_bitCount_0f7a4_33 : decode cJ6_bitCount_0f7a4 33 = .ok (.istore_n 0, 1) := by decide +kernel
theorem dJ6_bitCount_0f7a4_34 : decode cJ6_bitCount_0f7a4 34 = .ok (.iload_n 0, 1) := by decide +kernel
theorem dJ6_bitCount_0f7a4_35 : decode cJ6_bitCount_0f7a4 35 = .ok (.iload_n 0, 1) := by decide +kernel
theorem dJ6_bitCount_0f7a4_36 : decode cJ6_bitCount_0f7a4 36 = .ok (.bipush 8, 2) := by decide +kernel
theorem dJ6_bitCount_0f7a4_38 : decode cJ6_bitCount_0f7a4 38 = .ok (.iushr, 1) := by decide +kernel
theorem dJ6_bitCount_0f7a4_39 : decode cJ6_bitCount_0f7a4 39 = .ok (.iadd, 1) := by decide +kernel
theorem dJ6_bitCount_0f7a4_40 : decode cJ6_bitCount_0f7a4 40 = .ok (.istore_n 0, 1) := by decide +kernel
theorem dJ6_bitCount_0f7a4_41 : decode cJ6_bitCount_0f7a4 41 = .ok (.iload_n 0, 1) := by decide +kernel
theorem dJ6_bitCount_0f7a4_42 : decode cJ6_bitCount_0f7a4 42 = .ok (.iload_n 0, 1) := by decide +kernel
theorem dJ6_bitCount_0f7a4_43 : decode cJ6_bitCount_0f7a4 43 = .ok (.bipush 16, 2) := by decide +kernel
theorem dJ6_bitCount_0f7a4_45 : decode cJ6_bitCount_0f7a4 45 = .ok (.iushr, 1) := by decide +kernel
theorem dJ6_bitCount_0f7a4_46 : decode cJ6_bitCount_0f7a4 46 = .ok (.iadd, 1) := by decide +kernel
theorem dJ6_bitCount_0f7a4_47 : decode cJ6_bitCount_0f7a4 47 = .ok (.istore_n 0, 1) := by decide +kernel
theorem dJ6_bitCount_0f7a4_48 : decode cJ6_bitCount_0f7a4 48 = .ok (.iload_n 0, 1) := by decide +kernel
theorem dJ6_bitCount_0f7a4_49 : decode cJ6_bitCount_0f7a4 49 = .ok (.bipush 63, 2) := by decide +kernel
theorem dJ6_bitCount_0f7a4_51 : decode cJ6_bitCount_0f7a4 51 = .ok (.iand, 1) := by decide +kernel
theorem dJ6_bitCount_0f7a4_52 : decode cJ6_bitCount_0f7a4 52 = .ok (.ireturn, 1) := by decide +kernel
theorem dJ9_max_7cf53_0 : decode cJ9_max_7cf53 0 = .ok (.iload_n 0, 1) := by decide +kernel
theorem dJ9_max_7cf53_1 : decode cJ9_max_7cf53 1 = .ok (.iload_n 1, 1) := by decide +kernel
theorem dJ9_max_7cf53_2 : decode cJ9_max_7cf53 2 = .ok (.if_icmp .lt 7, 3) := by decide +kernel
theorem dJ9_max_7cf53_5 : decode cJ9_max_7cf53 5 = .ok (.iload_n 0, 1) := by decide +kernel
theorem dJ9_max_7cf53_6 : decode cJ9_max_7cf53 6 = .ok (.goto 4, 3) := by decide +kernel
theorem dJ9_max_7cf53_9 : decode cJ9_max_7cf53 9 = .ok (.iload_n 1, 1) := by decide +kernel
theorem dJ9_max_7cf53_10 : decode cJ9_max_7cf53 10 = .ok (.ireturn, 1) := by decide +kernel
theorem dJ9_min_7cf53_0 : decode cJ9_min_7cf53 0 = .ok (.iload_n 0, 1) := by decide +kernel
theorem dJ9_min_7cf53_1 : decode cJ9_min_7cf53 1 = .ok (.iload_n 1, 1) := by decide +kernel
theorem dJ9_min_7cf53_2 : decode cJ9_min_7cf53 2 = .ok (.if_icmp .gt 7, 3) := by decide +kernel
theorem dJ9_min_7cf53_5 : decode cJ9_min_7cf53 5 = .ok (.iload_n 0, 1) := by decide +kernel
theorem dJ9_min_7cf53_6 : decode cJ9_min_7cf53 6 = .ok (.goto 4, 3) := by decide +kernel
theorem dJ9_min_7cf53_9 : decode cJ9_min_7cf53 9 = .ok (.iload_n 1, 1) := by decide +kernel
theorem dJ9_min_7cf53_10 : decode cJ9_min_7cf53 10 = .ok (.ireturn, 1) := by decide +kernel
theorem dJ7_fill_53178_0 : decode cJ7_fill_53178 0 = .ok (.iconst 0, 1) := by decide +kernel
theorem dJ7_fill_53178_1 : decode cJ7_fill_53178 1 = .ok (.istore_n 2, 1) := by decide +kernel
theorem dJ7_fill_53178_2 : decode cJ7_fill_53178 2 = .ok (.aload_n 0, 1) := by decide +kernel
theorem dJ7_fill_53178_3 : decode cJ7_fill_53178 3 = .ok (.arraylength, 1) := by decide +kernel
theorem dJ7_fill_53178_4 : decode cJ7_fill_53178 4 = .ok (.istore_n 3, 1) := by decide +kernel
theorem dJ7_fill_53178_5 : decode cJ7_fill_53178 5 = .ok (.iload_n 2, 1) := by decide +kernel
theorem dJ7_fill_53178_6 : decode cJ7_fill_53178 6 = .ok (.iload_n 3, 1) := by decide +kernel
theorem dJ7_fill_53178_7 : decode cJ7_fill_53178 7 = .ok (.if_icmp .ge 13, 3) := by decide +kernel
theorem dJ7_fill_53178_10 : decode cJ7_fill_53178 10 = .ok (.aload_n 0, 1) := by decide +kernel
theorem dJ7_fill_53178_11 : decode cJ7_fill_53178 11 = .ok (.iload_n 2, 1) := by decide +kernel
theorem dJ7_fill_53178_12 : decode cJ7_fill_53178 12 = .ok (.iload_n 1, 1) := by decide +kernel
theorem dJ7_fill_53178_13 : decode cJ7_fill_53178 13 = .ok (.iastore, 1) := by decide +kernel
theorem dJ7_fill_53178_14 : decode cJ7_fill_53178 14 = .ok (.iinc 2 1, 3) := by decide +kernel
theorem dJ7_fill_53178_17 : decode cJ7_fill_53178 17 = .ok (.goto (-12), 3) := by decide +kernel
theorem dJ7_fill_53178_20 : decode cJ7_fill_53178 20 = .ok (.return_, 1) := by decide +kernel
theorem dJ7_copyOf_59c91_0 : decode cJ7_copyOf_59c91 0 = .ok (.iload_n 1, 1) := by decide +kernel
theorem dJ7_copyOf_59c91_1 : decode cJ7_copyOf_59c91 1 = .ok (.aload_n 0, 1) := by decide +kernel
theorem dJ7_copyOf_59c91_2 : decode cJ7_copyOf_59c91 2 = .ok (.arraylength, 1) := by decide +kernel
theorem dJ7_copyOf_59c91_3 : decode cJ7_copyOf_59c91 3 = .ok (.if_icmp .ne 11, 3) := by decide +kernel
theorem dJ7_copyOf_59c91_6 : decode cJ7_copyOf_59c91 6 = .ok (.aload_n 0, 1) := by decide +kernel
theorem dJ7_copyOf_59c91_7 : decode cJ7_copyOf_59c91 7 = .ok (.invokevirtual 316, 3) := by decide +kernel
theorem dJ7_copyOf_59c91_10 : decode cJ7_copyOf_59c91 10 = .ok (.checkcast 317, 3) := by decide +kernel
theorem dJ7_copyOf_59c91_13 : decode cJ7_copyOf_59c91 13 = .ok (.areturn, 1) := by decide +kernel
theorem dJ7_copyOf_59c91_14 : decode cJ7_copyOf_59c91 14 = .ok (.iload_n 1, 1) := by decide +kernel
theorem dJ7_copyOf_59c91_15 : decode cJ7_copyOf_59c91 15 = .ok (.newarray .int, 2) := by decide +kernel
theorem dJ7_copyOf_59c91_17 : decode cJ7_copyOf_59c91 17 = .ok (.astore_n 2, 1) := by decide +kernel
theorem dJ7_copyOf_59c91_18 : decode cJ7_copyOf_59c91 18 = .ok (.aload_n 0, 1) := by decide +kernel
theorem dJ7_copyOf_59c91_19 : decode cJ7_copyOf_59c91 19 = .ok (.iconst 0, 1) := by decide +kernel
theorem dJ7_copyOf_59c91_20 : decode cJ7_copyOf_59c91 20 = .ok (.aload_n 2, 1) := by decide +kernel
theorem dJ7_copyOf_59c91_21 : decode cJ7_copyOf_59c91 21 = .ok (.iconst 0, 1) := by decide +kernel
theorem dJ7_copyOf_59c91_22 : decode cJ7_copyOf_59c91 22 = .ok (.aload_n 0, 1) := by decide +kernel
theorem dJ7_copyOf_59c91_23 : decode cJ7_copyOf_59c91 23 = .ok (.arraylength, 1) := by decide +kernel
theorem dJ7_copyOf_59c91_24 : decode cJ7_copyOf_59c91 24 = .ok (.iload_n 1, 1) := by decide +kernel
theorem dJ7_copyOf_59c91_25 : decode cJ7_copyOf_59c91 25 = .ok (.invokestatic 304, 3) := by decide +kernel
theorem dJ7_copyOf_59c91_28 : decode cJ7_copyOf_59c91 28 = .ok (.invokestatic 150, 3) := by decide +kernel
theorem dJ7_copyOf_59c91_31 : decode cJ7_copyOf_59c91 31 = .ok (.aload_n 2, 1) := by decide +kernel
theorem dJ7_copyOf_59c91_32 : decode cJ7_copyOf_59c91 32 = .ok (.areturn, 1) := by decide +kernel
theorem dJ7_copyOf_33ae4_0 : decode cJ7_copyOf_33ae4 0 = .ok (.iload_n 1, 1) := by decide +kernel
theorem dJ7_copyOf_33ae4_1 : decode cJ7_copyOf_33ae4 1 = .ok (.aload_n 0, 1) := by decide +kernel
theorem dJ7_copyOf_33ae4_2 : decode cJ7_copyOf_33ae4 2 = .ok (.arraylength, 1) := by decide +kernel
theorem dJ7_copyOf_33ae4_3 : decode cJ7_copyOf_33ae4 3 = .ok (.if_icmp .ne 11, 3) := by decide +kernel
theorem dJ7_copyOf_33ae4_6 : decode cJ7_copyOf_33ae4 6 = .ok (.aload_n 0, 1) := by decide +kernel
theorem dJ7_copyOf_33ae4_7 : decode cJ7_copyOf_33ae4 7 = .ok (.invokevirtual 325, 3) := by decide +kernel
theorem dJ7_copyOf_33ae4_10 : decode cJ7_copyOf_33ae4 10 = .ok (.checkcast 326, 3) := by decide +kernel
theorem dJ7_copyOf_33ae4_13 : decode cJ7_copyOf_33ae4 13 = .ok (.areturn, 1) := by decide +kernel
theorem dJ7_copyOf_33ae4_14 : decode cJ7_copyOf_33ae4 14 = .ok (.iload_n 1, 1) := by decide +kernel
theorem dJ7_copyOf_33ae4_15 : decode cJ7_copyOf_33ae4 15 = .ok (.newarray .float, 2) := by decide +kernel
theorem dJ7_copyOf_33ae4_17 : decode cJ7_copyOf_33ae4 17 = .ok (.astore_n 2, 1) := by decide +kernel
theorem dJ7_copyOf_33ae4_18 : decode cJ7_copyOf_33ae4 18 = .ok (.aload_n 0, 1) := by decide +kernel
theorem dJ7_copyOf_33ae4_19 : decode cJ7_copyOf_33ae4 19 = .ok (.iconst 0, 1) := by decide +kernel
theorem dJ7_copyOf_33ae4_20 : decode cJ7_copyOf_33ae4 20 = .ok (.aload_n 2, 1) := by decide +kernel
theorem dJ7_copyOf_33ae4_21 : decode cJ7_copyOf_33ae4 21 = .ok (.iconst 0, 1) := by decide +kernel
theorem dJ7_copyOf_33ae4_22 : decode cJ7_copyOf_33ae4 22 = .ok (.aload_n 0, 1) := by decide +kernel
theorem dJ7_copyOf_33ae4_23 : decode cJ7_copyOf_33ae4 23 = .ok (.arraylength, 1) := by decide +kernel
theorem dJ7_copyOf_33ae4_24 : decode cJ7_copyOf_33ae4 24 = .ok (.iload_n 1, 1) := by decide +kernel
theorem dJ7_copyOf_33ae4_25 : decode cJ7_copyOf_33ae4 25 = .ok (.invokestatic 304, 3) := by decide +kernel
theorem dJ7_copyOf_33ae4_28 : decode cJ7_copyOf_33ae4 28 = .ok (.invokestatic 150, 3) := by decide +kernel
theorem dJ7_copyOf_33ae4_31 : decode cJ7_copyOf_33ae4 31 = .ok (.aload_n 2, 1) := by decide +kernel
theorem dJ7_copyOf_33ae4_32 : decode cJ7_copyOf_33ae4 32 = .ok (.areturn, 1) := by decide +kernel
theorem dL_element_0 : decode cL_element 0 = .ok (.aload 5, 2) := by decide +kernel
theorem dL_element_2 : decode cL_element 2 = .ok (.iconst 0, 1) := by decide +kernel
theorem dL_element_3 : decode cL_element 3 = .ok (.aload_n 0, 1) := by decide +kernel
theorem dL_element_4 : decode cL_element 4 = .ok (.iload_n 1, 1) := by decide +kernel
theorem dL_element_5 : decode cL_element 5 = .ok (.iload_n 2, 1) := by decide +kernel
theorem dL_element_6 : decode cL_element 6 = .ok (.iload_n 3, 1) := by decide +kernel
theorem dL_element_7 : decode cL_element 7 = .ok (.iload 4, 2) := by decide +kernel
theorem dL_element_9 : decode cL_element 9 = .ok (.invokevirtual 7, 3) := by decide +kernel
theorem dL_element_12 : decode cL_element 12 = .ok (.i2l, 1) := by decide +kernel
theorem dL_element_13 : decode cL_element 13 = .ok (.lastore, 1) := by decide +kernel
theorem dL_element_14 : decode cL_element 14 = .ok (.goto 11, 3) := by decide +kernel
theorem dL_element_17 : decode cL_element 17 = .ok (.astore 6, 2) := by decide +kernel
theorem dL_element_19 : decode cL_element 19 = .ok (.iconst 1, 1) := by decide +kernel
theorem dL_element_20 : decode cL_element 20 = .ok (.ireturn, 1) := by decide +kernel
theorem dL_element_21 : decode cL_element 21 = .ok (.astore 6, 2) := by decide +kernel
theorem dL_element_23 : decode cL_element 23 = .ok (.iconst 2, 1) := by decide +kernel
theorem dL_element_24 : decode cL_element 24 = .ok (.ireturn, 1) := by decide +kernel
theorem dL_element_25 : decode cL_element 25 = .ok (.iconst 0, 1) := by decide +kernel
theorem dL_element_26 : decode cL_element 26 = .ok (.ireturn, 1) := by decide +kernel
theorem dL_rule_0 : decode cL_rule 0 = .ok (.aload_n 2, 1) := by decide +kernel
theorem dL_rule_1 : decode cL_rule 1 = .ok (.iconst 0, 1) := by decide +kernel
theorem dL_rule_2 : decode cL_rule 2 = .ok (.aload_n 0, 1) := by decide +kernel
theorem dL_rule_3 : decode cL_rule 3 = .ok (.iload_n 1, 1) := by decide +kernel
theorem dL_rule_4 : decode cL_rule 4 = .ok (.invokevirtual 17, 3) := by decide +kernel
theorem dL_rule_7 : decode cL_rule 7 = .ok (.i2l, 1) := by decide +kernel
theorem dL_rule_8 : decode cL_rule 8 = .ok (.lastore, 1) := by decide +kernel
theorem dL_rule_9 : decode cL_rule 9 = .ok (.goto 9, 3) := by decide +kernel
theorem dL_rule_12 : decode cL_rule 12 = .ok (.astore_n 3, 1) := by decide +kernel
theorem dL_rule_13 : decode cL_rule 13 = .ok (.iconst 1, 1) := by decide +kernel
theorem dL_rule_14 : decode cL_rule 14 = .ok (.ireturn, 1) := by decide +kernel
theorem dL_rule_15 : decode cL_rule 15 = .ok (.astore_n 3, 1) := by decide +kernel
theorem dL_rule_16 : decode cL_rule 16 = .ok (.iconst 2, 1) := by decide +kernel
theorem dL_rule_17 : decode cL_rule 17 = .ok (.ireturn, 1) := by decide +kernel
theorem dL_rule_18 : decode cL_rule 18 = .ok (.iconst 0, 1) := by decide +kernel
theorem dL_rule_19 : decode cL_rule 19 = .ok (.ireturn, 1) := by decide +kernel
theorem dL_drop_0 : decode cL_drop 0 = .ok (.aload_n 0, 1) := by decide +kernel
theorem dL_drop_1 : decode cL_drop 1 = .ok (.iload_n 1, 1) := by decide +kernel
theorem dL_drop_2 : decode cL_drop 2 = .ok (.invokevirtual 21, 3) := by decide +kernel
theorem dL_drop_5 : decode cL_drop 5 = .ok (.goto 6, 3) := by decide +kernel
theorem dL_drop_8 : decode cL_drop 8 = .ok (.astore_n 2, 1) := by decide +kernel
theorem dL_drop_9 : decode cL_drop 9 = .ok (.iconst 1, 1) := by decide +kernel
theorem dL_drop_10 : decode cL_drop 10 = .ok (.ireturn, 1) := by decide +kernel
theorem dL_drop_11 : decode cL_drop 11 = .ok (.iconst 0, 1) := by decide +kernel
theorem dL_drop_12 : decode cL_drop 12 = .ok (.ireturn, 1) := by decide +kernel
theorem dL_matches_0 : decode cL_matches 0 = .ok (.aload_n 2, 1) := by decide +kernel
theorem dL_matches_1 : decode cL_matches 1 = .ok (.iconst 0, 1) := by decide +kernel
theorem dL_matches_2 : decode cL_matches 2 = .ok (.aload_n 0, 1) := by decide +kernel
theorem dL_matches_3 : decode cL_matches 3 = .ok (.iload_n 1, 1) := by decide +kernel
theorem dL_matches_4 : decode cL_matches 4 = .ok (.invokevirtual 27, 3) := by decide +kernel
theorem dL_matches_7 : decode cL_matches 7 = .ok (.ifCond .eq 7, 3) := by decide +kernel
theorem dL_matches_10 : decode cL_matches 10 = .ok (.lconst 1, 1) := by decide +kernel
theorem dL_matches_11 : decode cL_matches 11 = .ok (.goto 4, 3) := by decide +kernel
theorem dL_matches_14 : decode cL_matches 14 = .ok (.lconst 0, 1) := by decide +kernel
theorem dL_matches_15 : decode cL_matches 15 = .ok (.lastore, 1) := by decide +kernel
theorem dL_matches_16 : decode cL_matches 16 = .ok (.goto 9, 3) := by decide +kernel
theorem dL_matches_19 : decode cL_matches 19 = .ok (.astore_n 3, 1) := by decide +kernel
theorem dL_matches_20 : decode cL_matches 20 = .ok (.iconst 1, 1) := by decide +kernel
theorem dL_matches_21 : decode cL_matches 21 = .ok (.ireturn, 1) := by decide +kernel
theorem dL_matches_22 : decode cL_matches 22 = .ok (.astore_n 3, 1) := by decide +kernel
theorem dL_matches_23 : decode cL_matches 23 = .ok (.iconst 2, 1) := by decide +kernel
theorem dL_matches_24 : decode cL_matches 24 = .ok (.ireturn, 1) := by decide +kernel
theorem dL_matches_25 : decode cL_matches 25 = .ok (.iconst 0, 1) := by decide +kernel
theorem dL_matches_26 : decode cL_matches 26 = .ok (.ireturn, 1) := by decide +kernel
theorem dL_weight_0 : decode cL_weight 0 = .ok (.aload_n 3, 1) := by decide +kernel
theorem dL_weight_1 : decode cL_weight 1 = .ok (.iconst 0, 1) := by decide +kernel
theorem dL_weight_2 : decode cL_weight 2 = .ok (.aload_n 0, 1) := by decide +kernel
theorem dL_weight_3 : decode cL_weight 3 = .ok (.iload_n 1, 1) := by decide +kernel
theorem dL_weight_4 : decode cL_weight 4 = .ok (.iload_n 2, 1) := by decide +kernel
theorem dL_weight_5 : decode cL_weight 5 = .ok (.invokevirtual 31, 3) := by decide +kernel
theorem dL_weight_8 : decode cL_weight 8 = .ok (.i2l, 1) := by decide +kernel
theorem dL_weight_9 : decode cL_weight 9 = .ok (.lastore, 1) := by decide +kernel
theorem dL_weight_10 : decode cL_weight 10 = .ok (.goto 7, 3) := by decide +kernel
theorem dL_weight_13 : decode cL_weight 13 = .ok (.astore 4, 2) := by decide +kernel
theorem dL_weight_15 : decode cL_weight 15 = .ok (.iconst 1, 1) := by decide +kernel
theorem dL_weight_16 : decode cL_weight 16 = .ok (.ireturn, 1) := by decide +kernel
theorem dL_weight_17 : decode cL_weight 17 = .ok (.iconst 0, 1) := by decide +kernel
theorem dL_weight_18 : decode cL_weight 18 = .ok (.ireturn, 1) := by decide +kernel
theorem dL_winner_0 : decode cL_winner 0 = .ok (.aload_n 3, 1) := by decide +kernel
theorem dL_winner_1 : decode cL_winner 1 = .ok (.iconst 0, 1) := by decide +kernel
theorem dL_winner_2 : decode cL_winner 2 = .ok (.aload_n 0, 1) := by decide +kernel
theorem dL_winner_3 : decode cL_winner 3 = .ok (.iload_n 1, 1) := by decide +kernel
theorem dL_winner_4 : decode cL_winner 4 = .ok (.iload_n 2, 1) := by decide +kernel
theorem dL_winner_5 : decode cL_winner 5 = .ok (.invokevirtual 35, 3) := by decide +kernel
theorem dL_winner_8 : decode cL_winner 8 = .ok (.i2l, 1) := by decide +kernel
theorem dL_winner_9 : decode cL_winner 9 = .ok (.lastore, 1) := by decide +kernel
theorem dL_winner_10 : decode cL_winner 10 = .ok (.goto 11, 3) := by decide +kernel
theorem dL_winner_13 : decode cL_winner 13 = .ok (.astore 4, 2) := by decide +kernel
theorem dL_winner_15 : decode cL_winner 15 = .ok (.iconst 1, 1) := by decide +kernel
theorem dL_winner_16 : decode cL_winner 16 = .ok (.ireturn, 1) := by decide +kernel
theorem dL_winner_17 : decode cL_winner 17 = .ok (.astore 4, 2) := by decide +kernel
theorem dL_winner_19 : decode cL_winner 19 = .ok (.iconst 2, 1) := by decide +kernel
theorem dL_winner_20 : decode cL_winner 20 = .ok (.ireturn, 1) := by decide +kernel
theorem dL_winner_21 : decode cL_winner 21 = .ok (.iconst 0, 1) := by decide +kernel
theorem dL_winner_22 : decode cL_winner 22 = .ok (.ireturn, 1) := by decide +kernel
theorem dL_value_0 : decode cL_value 0 = .ok (.aload_n 3, 1) := by decide +kernel
theorem dL_value_1 : decode cL_value 1 = .ok (.iconst 0, 1) := by decide +kernel
theorem dL_value_2 : decode cL_value 2 = .ok (.aload_n 0, 1) := by decide +kernel
theorem dL_value_3 : decode cL_value 3 = .ok (.iload_n 1, 1) := by decide +kernel
theorem dL_value_4 : decode cL_value 4 = .ok (.iload_n 2, 1) := by decide +kernel
theorem dL_value_5 : decode cL_value 5 = .ok (.invokevirtual 38, 3) := by decide +kernel
theorem dL_value_8 : decode cL_value 8 = .ok (.f2d, 1) := by decide +kernel
theorem dL_value_9 : decode cL_value 9 = .ok (.dastore, 1) := by decide +kernel
theorem dL_value_10 : decode cL_value 10 = .ok (.goto 11, 3) := by decide +kernel
theorem dL_value_13 : decode cL_value 13 = .ok (.astore 4, 2) := by decide +kernel
theorem dL_value_15 : decode cL_value 15 = .ok (.iconst 1, 1) := by decide +kernel
theorem dL_value_16 : decode cL_value 16 = .ok (.ireturn, 1) := by decide +kernel
theorem dL_value_17 : decode cL_value 17 = .ok (.astore 4, 2) := by decide +kernel
theorem dL_value_19 : decode cL_value 19 = .ok (.iconst 2, 1) := by decide +kernel
theorem dL_value_20 : decode cL_value 20 = .ok (.ireturn, 1) := by decide +kernel
theorem dL_value_21 : decode cL_value 21 = .ok (.iconst 0, 1) := by decide +kernel
theorem dL_value_22 : decode cL_value 22 = .ok (.ireturn, 1) := by decide +kernel
theorem dL_how_0 : decode cL_how 0 = .ok (.aload_n 3, 1) := by decide +kernel
theorem dL_how_1 : decode cL_how 1 = .ok (.iconst 0, 1) := by decide +kernel
theorem dL_how_2 : decode cL_how 2 = .ok (.aload_n 0, 1) := by decide +kernel
theorem dL_how_3 : decode cL_how 3 = .ok (.iload_n 1, 1) := by decide +kernel
theorem dL_how_4 : decode cL_how 4 = .ok (.iload_n 2, 1) := by decide +kernel
theorem dL_how_5 : decode cL_how 5 = .ok (.invokevirtual 42, 3) := by decide +kernel
theorem dL_how_8 : decode cL_how 8 = .ok (.i2l, 1) := by decide +kernel
theorem dL_how_9 : decode cL_how 9 = .ok (.lastore, 1) := by decide +kernel
theorem dL_how_10 : decode cL_how 10 = .ok (.goto 11, 3) := by decide +kernel
theorem dL_how_13 : decode cL_how 13 = .ok (.astore 4, 2) := by decide +kernel
theorem dL_how_15 : decode cL_how 15 = .ok (.iconst 1, 1) := by decide +kernel
theorem dL_how_16 : decode cL_how 16 = .ok (.ireturn, 1) := by decide +kernel
theorem dL_how_17 : decode cL_how 17 = .ok (.astore 4, 2) := by decide +kernel
theorem dL_how_19 : decode cL_how 19 = .ok (.iconst 2, 1) := by decide +kernel
theorem dL_how_20 : decode cL_how 20 = .ok (.ireturn, 1) := by decide +kernel
theorem dL_how_21 : decode cL_how 21 = .ok (.iconst 0, 1) := by decide +kernel
theorem dL_how_22 : decode cL_how 22 = .ok (.ireturn, 1) := by decide +kernel
theorem dL_law_0 : decode cL_law 0 = .ok (.new 8, 3) := by decide +kernel
theorem dL_law_3 : decode cL_law 3 = .ok (.dup, 1) := by decide +kernel
theorem dL_law_4 : decode cL_law 4 = .ok (.invokespecial 45, 3) := by decide +kernel
theorem dL_law_7 : decode cL_law 7 = .ok (.astore_n 1, 1) := by decide +kernel
theorem dL_law_8 : decode cL_law 8 = .ok (.new 46, 3) := by decide +kernel
theorem dL_law_11 : decode cL_law 11 = .ok (.dup, 1) := by decide +kernel
theorem dL_law_12 : decode cL_law 12 = .ok (.invokespecial 48, 3) := by decide +kernel
theorem dL_law_15 : decode cL_law 15 = .ok (.astore_n 2, 1) := by decide +kernel
theorem dL_law_16 : decode cL_law 16 = .ok (.iconst 1, 1) := by decide +kernel
theorem dL_law_17 : decode cL_law 17 = .ok (.newarray .long, 2) := by decide +kernel
theorem dL_law_19 : decode cL_law 19 = .ok (.astore_n 3, 1) := by decide +kernel
theorem dL_law_20 : decode cL_law 20 = .ok (.iconst 1, 1) := by decide +kernel
theorem dL_law_21 : decode cL_law 21 = .ok (.newarray .double, 2) := by decide +kernel
theorem dL_law_23 : decode cL_law 23 = .ok (.astore 4, 2) := by decide +kernel
theorem dL_law_25 : decode cL_law 25 = .ok (.iconst 0, 1) := by decide +kernel
theorem dL_law_26 : decode cL_law 26 = .ok (.istore 5, 2) := by decide +kernel
theorem dL_law_28 : decode cL_law 28 = .ok (.iload 5, 2) := by decide +kernel
theorem dL_law_30 : decode cL_law 30 = .ok (.aload_n 0, 1) := by decide +kernel
theorem dL_law_31 : decode cL_law 31 = .ok (.arraylength, 1) := by decide +kernel
theorem dL_law_32 : decode cL_law 32 = .ok (.iconst 5, 1) := by decide +kernel
theorem dL_law_33 : decode cL_law 33 = .ok (.isub, 1) := by decide +kernel
theorem dL_law_34 : decode cL_law 34 = .ok (.if_icmp .gt 675, 3) := by decide +kernel
theorem dL_law_37 : decode cL_law 37 = .ok (.aload_n 0, 1) := by decide +kernel
theorem dL_law_38 : decode cL_law 38 = .ok (.iload 5, 2) := by decide +kernel
theorem dL_law_40 : decode cL_law 40 = .ok (.iaload, 1) := by decide +kernel
theorem dL_law_41 : decode cL_law 41 = .ok (.bipush 15, 2) := by decide +kernel
theorem dL_law_43 : decode cL_law 43 = .ok (.iand, 1) := by decide +kernel
theorem dL_law_44 : decode cL_law 44 = .ok (.tableswitch 659 0 9 #[56, 148, 185, 241, 277, 340, 408, 476, 566, 634], 56) := by decide +kernel
theorem dL_law_100 : decode cL_law 100 = .ok (.aload_n 1, 1) := by decide +kernel
theorem dL_law_101 : decode cL_law 101 = .ok (.aload_n 0, 1) := by decide +kernel
theorem dL_law_102 : decode cL_law 102 = .ok (.iload 5, 2) := by decide +kernel
theorem dL_law_104 : decode cL_law 104 = .ok (.iconst 1, 1) := by decide +kernel
theorem dL_law_105 : decode cL_law 105 = .ok (.iadd, 1) := by decide +kernel
theorem dL_law_106 : decode cL_law 106 = .ok (.iaload, 1) := by decide +kernel
theorem dL_law_107 : decode cL_law 107 = .ok (.aload_n 0, 1) := by decide +kernel
theorem dL_law_108 : decode cL_law 108 = .ok (.iload 5, 2) := by decide +kernel
theorem dL_law_110 : decode cL_law 110 = .ok (.iconst 2, 1) := by decide +kernel
theorem dL_law_111 : decode cL_law 111 = .ok (.iadd, 1) := by decide +kernel
theorem dL_law_112 : decode cL_law 112 = .ok (.iaload, 1) := by decide +kernel
theorem dL_law_113 : decode cL_law 113 = .ok (.aload_n 0, 1) := by decide +kernel
theorem dL_law_114 : decode cL_law 114 = .ok (.iload 5, 2) := by decide +kernel
theorem dL_law_116 : decode cL_law 116 = .ok (.iconst 3, 1) := by decide +kernel
theorem dL_law_117 : decode cL_law 117 = .ok (.iadd, 1) := by decide +kernel
theorem dL_law_118 : decode cL_law 118 = .ok (.iaload, 1) := by decide +kernel
theorem dL_law_119 : decode cL_law 119 = .ok (.aload_n 0, 1) := by decide +kernel
theorem dL_law_120 : decode cL_law 120 = .ok (.iload 5, 2) := by decide +kernel
theorem dL_law_122 : decode cL_law 122 = .ok (.iconst 4, 1) := by decide +kernel
theorem dL_law_123 : decode cL_law 123 = .ok (.iadd, 1) := by decide +kernel
theorem dL_law_124 : decode cL_law 124 = .ok (.iaload, 1) := by decide +kernel
theorem dL_law_125 : decode cL_law 125 = .ok (.aload_n 3, 1) := by decide +kernel
theorem dL_law_126 : decode cL_law 126 = .ok (.invokestatic 49, 3) := by decide +kernel
theorem dL_law_129 : decode cL_law 129 = .ok (.istore 6, 2) := by decide +kernel
theorem dL_law_131 : decode cL_law 131 = .ok (.aload_n 2, 1) := by decide +kernel
theorem dL_law_132 : decode cL_law 132 = .ok (.aload_n 0, 1) := by decide +kernel
theorem dL_law_133 : decode cL_law 133 = .ok (.iload 5, 2) := by decide +kernel
theorem dL_law_135 : decode cL_law 135 = .ok (.iconst 1, 1) := by decide +kernel
theorem dL_law_136 : decode cL_law 136 = .ok (.iadd, 1) := by decide +kernel
theorem dL_law_137 : decode cL_law 137 = .ok (.iaload, 1) := by decide +kernel
theorem dL_law_138 : decode cL_law 138 = .ok (.aload_n 0, 1) := by decide +kernel
theorem dL_law_139 : decode cL_law 139 = .ok (.iload 5, 2) := by decide +kernel
theorem dL_law_141 : decode cL_law 141 = .ok (.iconst 2, 1) := by decide +kernel
theorem dL_law_142 : decode cL_law 142 = .ok (.iadd, 1) := by decide +kernel
theorem dL_law_143 : decode cL_law 143 = .ok (.iaload, 1) := by decide +kernel
theorem dL_law_144 : decode cL_law 144 = .ok (.aload_n 0, 1) := by decide +kernel
theorem dL_law_145 : decode cL_law 145 = .ok (.iload 5, 2) := by decide +kernel
theorem dL_law_147 : decode cL_law 147 = .ok (.iconst 3, 1) := by decide +kernel
theorem dL_law_148 : decode cL_law 148 = .ok (.iadd, 1) := by decide +kernel
theorem dL_law_149 : decode cL_law 149 = .ok (.iaload, 1) := by decide +kernel
theorem dL_law_150 : decode cL_law 150 = .ok (.aload_n 0, 1) := by decide +kernel
theorem dL_law_151 : decode cL_law 151 = .ok (.iload 5, 2) := by decide +kernel
theorem dL_law_153 : decode cL_law 153 = .ok (.iconst 4, 1) := by decide +kernel
theorem dL_law_154 : decode cL_law 154 = .ok (.iadd, 1) := by decide +kernel
theorem dL_law_155 : decode cL_law 155 = .ok (.iaload, 1) := by decide +kernel
theorem dL_law_156 : decode cL_law 156 = .ok (.invokevirtual 54, 3) := by decide +kernel
theorem dL_law_159 : decode cL_law 159 = .ok (.istore 7, 2) := by decide +kernel
theorem dL_law_161 : decode cL_law 161 = .ok (.aload_n 2, 1) := by decide +kernel
theorem dL_law_162 : decode cL_law 162 = .ok (.invokevirtual 55, 3) := by decide +kernel
theorem dL_law_165 : decode cL_law 165 = .ok (.iload 6, 2) := by decide +kernel
theorem dL_law_167 : decode cL_law 167 = .ok (.if_icmp .eq 5, 3) := by decide +kernel
theorem dL_law_170 : decode cL_law 170 = .ok (.iconst 0, 1) := by decide +kernel
theorem dL_law_171 : decode cL_law 171 = .ok (.ireturn, 1) := by decide +kernel
theorem dL_law_172 : decode cL_law 172 = .ok (.iload 6, 2) := by decide +kernel
theorem dL_law_174 : decode cL_law 174 = .ok (.ifCond .ne 15, 3) := by decide +kernel
theorem dL_law_177 : decode cL_law 177 = .ok (.aload_n 3, 1) := by decide +kernel
theorem dL_law_178 : decode cL_law 178 = .ok (.iconst 0, 1) := by decide +kernel
theorem dL_law_179 : decode cL_law 179 = .ok (.laload, 1) := by decide +kernel
theorem dL_law_180 : decode cL_law 180 = .ok (.iload 7, 2) := by decide +kernel
theorem dL_law_182 : decode cL_law 182 = .ok (.i2l, 1) := by decide +kernel
theorem dL_law_183 : decode cL_law 183 = .ok (.lcmp, 1) := by decide +kernel
theorem dL_law_184 : decode cL_law 184 = .ok (.ifCond .eq 5, 3) := by decide +kernel
theorem dL_law_187 : decode cL_law 187 = .ok (.iconst 0, 1) := by decide +kernel
theorem dL_law_188 : decode cL_law 188 = .ok (.ireturn, 1) := by decide +kernel
theorem dL_law_189 : decode cL_law 189 = .ok (.goto 514, 3) := by decide +kernel
theorem dL_law_192 : decode cL_law 192 = .ok (.aload_n 1, 1) := by decide +kernel
theorem dL_law_193 : decode cL_law 193 = .ok (.aload_n 0, 1) := by decide +kernel
theorem dL_law_194 : decode cL_law 194 = .ok (.iload 5, 2) := by decide +kernel
theorem dL_law_196 : decode cL_law 196 = .ok (.iconst 1, 1) := by decide +kernel
theorem dL_law_197 : decode cL_law 197 = .ok (.iadd, 1) := by decide +kernel
theorem dL_law_198 : decode cL_law 198 = .ok (.iaload, 1) := by decide +kernel
theorem dL_law_199 : decode cL_law 199 = .ok (.aload_n 0, 1) := by decide +kernel
theorem dL_law_200 : decode cL_law 200 = .ok (.iload 5, 2) := by decide +kernel
theorem dL_law_202 : decode cL_law 202 = .ok (.iconst 2, 1) := by decide +kernel
theorem dL_law_203 : decode cL_law 203 = .ok (.iadd, 1) := by decide +kernel
theorem dL_law_204 : decode cL_law 204 = .ok (.iaload, 1) := by decide +kernel
theorem dL_law_205 : decode cL_law 205 = .ok (.invokevirtual 59, 3) := by decide +kernel
theorem dL_law_208 : decode cL_law 208 = .ok (.aload_n 2, 1) := by decide +kernel
theorem dL_law_209 : decode cL_law 209 = .ok (.aload_n 0, 1) := by decide +kernel
theorem dL_law_210 : decode cL_law 210 = .ok (.iload 5, 2) := by decide +kernel
theorem dL_law_212 : decode cL_law 212 = .ok (.iconst 1, 1) := by decide +kernel
theorem dL_law_213 : decode cL_law 213 = .ok (.iadd, 1) := by decide +kernel
theorem dL_law_214 : decode cL_law 214 = .ok (.iaload, 1) := by decide +kernel
theorem dL_law_215 : decode cL_law 215 = .ok (.aload_n 0, 1) := by decide +kernel
theorem dL_law_216 : decode cL_law 216 = .ok (.iload 5, 2) := by decide +kernel
theorem dL_law_218 : decode cL_law 218 = .ok (.iconst 2, 1) := by decide +kernel
theorem dL_law_219 : decode cL_law 219 = .ok (.iadd, 1) := by decide +kernel
theorem dL_law_220 : decode cL_law 220 = .ok (.iaload, 1) := by decide +kernel
theorem dL_law_221 : decode cL_law 221 = .ok (.invokevirtual 63, 3) := by decide +kernel
theorem dL_law_224 : decode cL_law 224 = .ok (.if_icmp .eq 479, 3) := by decide +kernel
theorem dL_law_227 : decode cL_law 227 = .ok (.iconst 0, 1) := by decide +kernel
theorem dL_law_228 : decode cL_law 228 = .ok (.ireturn, 1) := by decide +kernel
theorem dL_law_229 : decode cL_law 229 = .ok (.aload_n 1, 1) := by decide +kernel
theorem dL_law_230 : decode cL_law 230 = .ok (.aload_n 0, 1) := by decide +kernel
theorem dL_law_231 : decode cL_law 231 = .ok (.iload 5, 2) := by decide +kernel
theorem dL_law_233 : decode cL_law 233 = .ok (.iconst 1, 1) := by decide +kernel
theorem dL_law_234 : decode cL_law 234 = .ok (.iadd, 1) := by decide +kernel
theorem dL_law_235 : decode cL_law 235 = .ok (.iaload, 1) := by decide +kernel
theorem dL_law_236 : decode cL_law 236 = .ok (.aload_n 3, 1) := by decide +kernel
theorem dL_law_237 : decode cL_law 237 = .ok (.invokestatic 64, 3) := by decide +kernel
theorem dL_law_240 : decode cL_law 240 = .ok (.istore 6, 2) := by decide +kernel
theorem dL_law_242 : decode cL_law 242 = .ok (.aload_n 2, 1) := by decide +kernel
theorem dL_law_243 : decode cL_law 243 = .ok (.aload_n 0, 1) := by decide +kernel
theorem dL_law_244 : decode cL_law 244 = .ok (.iload 5, 2) := by decide +kernel
theorem dL_law_246 : decode cL_law 246 = .ok (.iconst 1, 1) := by decide +kernel
theorem dL_law_247 : decode cL_law 247 = .ok (.iadd, 1) := by decide +kernel
theorem dL_law_248 : decode cL_law 248 = .ok (.iaload, 1) := by decide +kernel
theorem dL_law_249 : decode cL_law 249 = .ok (.invokevirtual 67, 3) := by decide +kernel
theorem dL_law_252 : decode cL_law 252 = .ok (.istore 7, 2) := by decide +kernel
theorem dL_law_254 : decode cL_law 254 = .ok (.aload_n 2, 1) := by decide +kernel
theorem dL_law_255 : decode cL_law 255 = .ok (.invokevirtual 55, 3) := by decide +kernel
theorem dL_law_258 : decode cL_law 258 = .ok (.iload 6, 2) := by decide +kernel
theorem dL_law_260 : decode cL_law 260 = .ok (.if_icmp .eq 5, 3) := by decide +kernel
theorem dL_law_263 : decode cL_law 263 = .ok (.iconst 0, 1) := by decide +kernel
theorem dL_law_264 : decode cL_law 264 = .ok (.ireturn, 1) := by decide +kernel
theorem dL_law_265 : decode cL_law 265 = .ok (.iload 6, 2) := by decide +kernel
theorem dL_law_267 : decode cL_law 267 = .ok (.ifCond .ne 15, 3) := by decide +kernel
theorem dL_law_270 : decode cL_law 270 = .ok (.aload_n 3, 1) := by decide +kernel
theorem dL_law_271 : decode cL_law 271 = .ok (.iconst 0, 1) := by decide +kernel
theorem dL_law_272 : decode cL_law 272 = .ok (.laload, 1) := by decide +kernel
theorem dL_law_273 : decode cL_law 273 = .ok (.iload 7, 2) := by decide +kernel
theorem dL_law_275 : decode cL_law 275 = .ok (.i2l, 1) := by decide +kernel
theorem dL_law_276 : decode cL_law 276 = .ok (.lcmp, 1) := by decide +kernel
theorem dL_law_277 : decode cL_law 277 = .ok (.ifCond .eq 5, 3) := by decide +kernel
theorem dL_law_280 : decode cL_law 280 = .ok (.iconst 0, 1) := by decide +kernel
theorem dL_law_281 : decode cL_law 281 = .ok (.ireturn, 1) := by decide +kernel
theorem dL_law_282 : decode cL_law 282 = .ok (.goto 421, 3) := by decide +kernel
theorem dL_law_285 : decode cL_law 285 = .ok (.aload_n 1, 1) := by decide +kernel
theorem dL_law_286 : decode cL_law 286 = .ok (.aload_n 0, 1) := by decide +kernel
theorem dL_law_287 : decode cL_law 287 = .ok (.iload 5, 2) := by decide +kernel
theorem dL_law_289 : decode cL_law 289 = .ok (.iconst 1, 1) := by decide +kernel
theorem dL_law_290 : decode cL_law 290 = .ok (.iadd, 1) := by decide +kernel
theorem dL_law_291 : decode cL_law 291 = .ok (.iaload, 1) := by decide +kernel
theorem dL_law_292 : decode cL_law 292 = .ok (.invokestatic 68, 3) := by decide +kernel
theorem dL_law_295 : decode cL_law 295 = .ok (.istore 6, 2) := by decide +kernel
theorem dL_law_297 : decode cL_law 297 = .ok (.aload_n 2, 1) := by decide +kernel
theorem dL_law_298 : decode cL_law 298 = .ok (.aload_n 0, 1) := by decide +kernel
theorem dL_law_299 : decode cL_law 299 = .ok (.iload 5, 2) := by decide +kernel
theorem dL_law_301 : decode cL_law 301 = .ok (.iconst 1, 1) := by decide +kernel
theorem dL_law_302 : decode cL_law 302 = .ok (.iadd, 1) := by decide +kernel
theorem dL_law_303 : decode cL_law 303 = .ok (.iaload, 1) := by decide +kernel
theorem dL_law_304 : decode cL_law 304 = .ok (.invokevirtual 71, 3) := by decide +kernel
theorem dL_law_307 : decode cL_law 307 = .ok (.aload_n 2, 1) := by decide +kernel
theorem dL_law_308 : decode cL_law 308 = .ok (.invokevirtual 55, 3) := by decide +kernel
theorem dL_law_311 : decode cL_law 311 = .ok (.iload 6, 2) := by decide +kernel
theorem dL_law_313 : decode cL_law 313 = .ok (.if_icmp .eq 5, 3) := by decide +kernel
theorem dL_law_316 : decode cL_law 316 = .ok (.iconst 0, 1) := by decide +kernel
theorem dL_law_317 : decode cL_law 317 = .ok (.ireturn, 1) := by decide +kernel
theorem dL_law_318 : decode cL_law 318 = .ok (.goto 385, 3) := by decide +kernel
theorem dL_law_321 : decode cL_law 321 = .ok (.aload_n 1, 1) := by decide +kernel
theorem dL_law_322 : decode cL_law 322 = .ok (.aload_n 0, 1) := by decide +kernel
theorem dL_law_323 : decode cL_law 323 = .ok (.iload 5, 2) := by decide +kernel
theorem dL_law_325 : decode cL_law 325 = .ok (.iconst 1, 1) := by decide +kernel
theorem dL_law_326 : decode cL_law 326 = .ok (.iadd, 1) := by decide +kernel
theorem dL_law_327 : decode cL_law 327 = .ok (.iaload, 1) := by decide +kernel
theorem dL_law_328 : decode cL_law 328 = .ok (.aload_n 3, 1) := by decide +kernel
theorem dL_law_329 : decode cL_law 329 = .ok (.invokestatic 72, 3) := by decide +kernel
theorem dL_law_332 : decode cL_law 332 = .ok (.istore 6, 2) := by decide +kernel
theorem dL_law_334 : decode cL_law 334 = .ok (.aload_n 2, 1) := by decide +kernel
theorem dL_law_335 : decode cL_law 335 = .ok (.aload_n 0, 1) := by decide +kernel
theorem dL_law_336 : decode cL_law 336 = .ok (.iload 5, 2) := by decide +kernel
theorem dL_law_338 : decode cL_law 338 = .ok (.iconst 1, 1) := by decide +kernel
theorem dL_law_339 : decode cL_law 339 = .ok (.iadd, 1) := by decide +kernel
theorem dL_law_340 : decode cL_law 340 = .ok (.iaload, 1) := by decide +kernel
theorem dL_law_341 : decode cL_law 341 = .ok (.invokevirtual 74, 3) := by decide +kernel
theorem dL_law_344 : decode cL_law 344 = .ok (.istore 7, 2) := by decide +kernel
theorem dL_law_346 : decode cL_law 346 = .ok (.aload_n 2, 1) := by decide +kernel
theorem dL_law_347 : decode cL_law 347 = .ok (.invokevirtual 55, 3) := by decide +kernel
theorem dL_law_350 : decode cL_law 350 = .ok (.iload 6, 2) := by decide +kernel
theorem dL_law_352 : decode cL_law 352 = .ok (.if_icmp .eq 5, 3) := by decide +kernel
theorem dL_law_355 : decode cL_law 355 = .ok (.iconst 0, 1) := by decide +kernel
theorem dL_law_356 : decode cL_law 356 = .ok (.ireturn, 1) := by decide +kernel
theorem dL_law_357 : decode cL_law 357 = .ok (.iload 6, 2) := by decide +kernel
theorem dL_law_359 : decode cL_law 359 = .ok (.ifCond .ne 22, 3) := by decide +kernel
theorem dL_law_362 : decode cL_law 362 = .ok (.aload_n 3, 1) := by decide +kernel
theorem dL_law_363 : decode cL_law 363 = .ok (.iconst 0, 1) := by decide +kernel
theorem dL_law_364 : decode cL_law 364 = .ok (.laload, 1) := by decide +kernel
theorem dL_law_365 : decode cL_law 365 = .ok (.iload 7, 2) := by decide +kernel
theorem dL_law_367 : decode cL_law 367 = .ok (.ifCond .eq 7, 3) := by decide +kernel
theorem dL_law_370 : decode cL_law 370 = .ok (.lconst 1, 1) := by decide +kernel
theorem dL_law_371 : decode cL_law 371 = .ok (.goto 4, 3) := by decide +kernel
theorem dL_law_374 : decode cL_law 374 = .ok (.lconst 0, 1) := by decide +kernel
theorem dL_law_375 : decode cL_law 375 = .ok (.lcmp, 1) := by decide +kernel
theorem dL_law_376 : decode cL_law 376 = .ok (.ifCond .eq 5, 3) := by decide +kernel
theorem dL_law_379 : decode cL_law 379 = .ok (.iconst 0, 1) := by decide +kernel
theorem dL_law_380 : decode cL_law 380 = .ok (.ireturn, 1) := by decide +kernel
theorem dL_law_381 : decode cL_law 381 = .ok (.goto 322, 3) := by decide +kernel
theorem dL_law_384 : decode cL_law 384 = .ok (.aload_n 1, 1) := by decide +kernel
theorem dL_law_385 : decode cL_law 385 = .ok (.aload_n 0, 1) := by decide +kernel
theorem dL_law_386 : decode cL_law 386 = .ok (.iload 5, 2) := by decide +kernel
theorem dL_law_388 : decode cL_law 388 = .ok (.iconst 1, 1) := by decide +kernel
theorem dL_law_389 : decode cL_law 389 = .ok (.iadd, 1) := by decide +kernel
theorem dL_law_390 : decode cL_law 390 = .ok (.iaload, 1) := by decide +kernel
theorem dL_law_391 : decode cL_law 391 = .ok (.aload_n 0, 1) := by decide +kernel
theorem dL_law_392 : decode cL_law 392 = .ok (.iload 5, 2) := by decide +kernel
theorem dL_law_394 : decode cL_law 394 = .ok (.iconst 2, 1) := by decide +kernel
theorem dL_law_395 : decode cL_law 395 = .ok (.iadd, 1) := by decide +kernel
theorem dL_law_396 : decode cL_law 396 = .ok (.iaload, 1) := by decide +kernel
theorem dL_law_397 : decode cL_law 397 = .ok (.aload_n 3, 1) := by decide +kernel
theorem dL_law_398 : decode cL_law 398 = .ok (.invokestatic 75, 3) := by decide +kernel
theorem dL_law_401 : decode cL_law 401 = .ok (.istore 6, 2) := by decide +kernel
theorem dL_law_403 : decode cL_law 403 = .ok (.aload_n 2, 1) := by decide +kernel
theorem dL_law_404 : decode cL_law 404 = .ok (.aload_n 0, 1) := by decide +kernel
theorem dL_law_405 : decode cL_law 405 = .ok (.iload 5, 2) := by decide +kernel
theorem dL_law_407 : decode cL_law 407 = .ok (.iconst 1, 1) := by decide +kernel
theorem dL_law_408 : decode cL_law 408 = .ok (.iadd, 1) := by decide +kernel
theorem dL_law_409 : decode cL_law 409 = .ok (.iaload, 1) := by decide +kernel
theorem dL_law_410 : decode cL_law 410 = .ok (.aload_n 0, 1) := by decide +kernel
theorem dL_law_411 : decode cL_law 411 = .ok (.iload 5, 2) := by decide +kernel
theorem dL_law_413 : decode cL_law 413 = .ok (.iconst 2, 1) := by decide +kernel
theorem dL_law_414 : decode cL_law 414 = .ok (.iadd, 1) := by decide +kernel
theorem dL_law_415 : decode cL_law 415 = .ok (.iaload, 1) := by decide +kernel
theorem dL_law_416 : decode cL_law 416 = .ok (.invokevirtual 78, 3) := by decide +kernel
theorem dL_law_419 : decode cL_law 419 = .ok (.istore 7, 2) := by decide +kernel
theorem dL_law_421 : decode cL_law 421 = .ok (.aload_n 2, 1) := by decide +kernel
theorem dL_law_422 : decode cL_law 422 = .ok (.invokevirtual 55, 3) := by decide +kernel
theorem dL_law_425 : decode cL_law 425 = .ok (.iload 6, 2) := by decide +kernel
theorem dL_law_427 : decode cL_law 427 = .ok (.if_icmp .eq 5, 3) := by decide +kernel
theorem dL_law_430 : decode cL_law 430 = .ok (.iconst 0, 1) := by decide +kernel
theorem dL_law_431 : decode cL_law 431 = .ok (.ireturn, 1) := by decide +kernel
theorem dL_law_432 : decode cL_law 432 = .ok (.iload 6, 2) := by decide +kernel
theorem dL_law_434 : decode cL_law 434 = .ok (.ifCond .ne 15, 3) := by decide +kernel
theorem dL_law_437 : decode cL_law 437 = .ok (.aload_n 3, 1) := by decide +kernel
theorem dL_law_438 : decode cL_law 438 = .ok (.iconst 0, 1) := by decide +kernel
theorem dL_law_439 : decode cL_law 439 = .ok (.laload, 1) := by decide +kernel
theorem dL_law_440 : decode cL_law 440 = .ok (.iload 7, 2) := by decide +kernel
theorem dL_law_442 : decode cL_law 442 = .ok (.i2l, 1) := by decide +kernel
theorem dL_law_443 : decode cL_law 443 = .ok (.lcmp, 1) := by decide +kernel
theorem dL_law_444 : decode cL_law 444 = .ok (.ifCond .eq 5, 3) := by decide +kernel
theorem dL_law_447 : decode cL_law 447 = .ok (.iconst 0, 1) := by decide +kernel
theorem dL_law_448 : decode cL_law 448 = .ok (.ireturn, 1) := by decide +kernel
theorem dL_law_449 : decode cL_law 449 = .ok (.goto 254, 3) := by decide +kernel
theorem dL_law_452 : decode cL_law 452 = .ok (.aload_n 1, 1) := by decide +kernel
theorem dL_law_453 : decode cL_law 453 = .ok (.aload_n 0, 1) := by decide +kernel
theorem dL_law_454 : decode cL_law 454 = .ok (.iload 5, 2) := by decide +kernel
theorem dL_law_456 : decode cL_law 456 = .ok (.iconst 1, 1) := by decide +kernel
theorem dL_law_457 : decode cL_law 457 = .ok (.iadd, 1) := by decide +kernel
theorem dL_law_458 : decode cL_law 458 = .ok (.iaload, 1) := by decide +kernel
theorem dL_law_459 : decode cL_law 459 = .ok (.aload_n 0, 1) := by decide +kernel
theorem dL_law_460 : decode cL_law 460 = .ok (.iload 5, 2) := by decide +kernel
theorem dL_law_462 : decode cL_law 462 = .ok (.iconst 2, 1) := by decide +kernel
theorem dL_law_463 : decode cL_law 463 = .ok (.iadd, 1) := by decide +kernel
theorem dL_law_464 : decode cL_law 464 = .ok (.iaload, 1) := by decide +kernel
theorem dL_law_465 : decode cL_law 465 = .ok (.aload_n 3, 1) := by decide +kernel
theorem dL_law_466 : decode cL_law 466 = .ok (.invokestatic 79, 3) := by decide +kernel
theorem dL_law_469 : decode cL_law 469 = .ok (.istore 6, 2) := by decide +kernel
theorem dL_law_471 : decode cL_law 471 = .ok (.aload_n 2, 1) := by decide +kernel
theorem dL_law_472 : decode cL_law 472 = .ok (.aload_n 0, 1) := by decide +kernel
theorem dL_law_473 : decode cL_law 473 = .ok (.iload 5, 2) := by decide +kernel
theorem dL_law_475 : decode cL_law 475 = .ok (.iconst 1, 1) := by decide +kernel
theorem dL_law_476 : decode cL_law 476 = .ok (.iadd, 1) := by decide +kernel
theorem dL_law_477 : decode cL_law 477 = .ok (.iaload, 1) := by decide +kernel
theorem dL_law_478 : decode cL_law 478 = .ok (.aload_n 0, 1) := by decide +kernel
theorem dL_law_479 : decode cL_law 479 = .ok (.iload 5, 2) := by decide +kernel
theorem dL_law_481 : decode cL_law 481 = .ok (.iconst 2, 1) := by decide +kernel
theorem dL_law_482 : decode cL_law 482 = .ok (.iadd, 1) := by decide +kernel
theorem dL_law_483 : decode cL_law 483 = .ok (.iaload, 1) := by decide +kernel
theorem dL_law_484 : decode cL_law 484 = .ok (.invokevirtual 81, 3) := by decide +kernel
theorem dL_law_487 : decode cL_law 487 = .ok (.istore 7, 2) := by decide +kernel
theorem dL_law_489 : decode cL_law 489 = .ok (.aload_n 2, 1) := by decide +kernel
theorem dL_law_490 : decode cL_law 490 = .ok (.invokevirtual 55, 3) := by decide +kernel
theorem dL_law_493 : decode cL_law 493 = .ok (.iload 6, 2) := by decide +kernel
theorem dL_law_495 : decode cL_law 495 = .ok (.if_icmp .eq 5, 3) := by decide +kernel
theorem dL_law_498 : decode cL_law 498 = .ok (.iconst 0, 1) := by decide +kernel
theorem dL_law_499 : decode cL_law 499 = .ok (.ireturn, 1) := by decide +kernel
theorem dL_law_500 : decode cL_law 500 = .ok (.iload 6, 2) := by decide +kernel
theorem dL_law_502 : decode cL_law 502 = .ok (.ifCond .ne 15, 3) := by decide +kernel
theorem dL_law_505 : decode cL_law 505 = .ok (.aload_n 3, 1) := by decide +kernel
theorem dL_law_506 : decode cL_law 506 = .ok (.iconst 0, 1) := by decide +kernel
theorem dL_law_507 : decode cL_law 507 = .ok (.laload, 1) := by decide +kernel
theorem dL_law_508 : decode cL_law 508 = .ok (.iload 7, 2) := by decide +kernel
theorem dL_law_510 : decode cL_law 510 = .ok (.i2l, 1) := by decide +kernel
theorem dL_law_511 : decode cL_law 511 = .ok (.lcmp, 1) := by decide +kernel
theorem dL_law_512 : decode cL_law 512 = .ok (.ifCond .eq 5, 3) := by decide +kernel
theorem dL_law_515 : decode cL_law 515 = .ok (.iconst 0, 1) := by decide +kernel
theorem dL_law_516 : decode cL_law 516 = .ok (.ireturn, 1) := by decide +kernel
theorem dL_law_517 : decode cL_law 517 = .ok (.goto 186, 3) := by decide +kernel
theorem dL_law_520 : decode cL_law 520 = .ok (.aload_n 1, 1) := by decide +kernel
theorem dL_law_521 : decode cL_law 521 = .ok (.aload_n 0, 1) := by decide +kernel
theorem dL_law_522 : decode cL_law 522 = .ok (.iload 5, 2) := by decide +kernel
theorem dL_law_524 : decode cL_law 524 = .ok (.iconst 1, 1) := by decide +kernel
theorem dL_law_525 : decode cL_law 525 = .ok (.iadd, 1) := by decide +kernel
theorem dL_law_526 : decode cL_law 526 = .ok (.iaload, 1) := by decide +kernel
theorem dL_law_527 : decode cL_law 527 = .ok (.aload_n 0, 1) := by decide +kernel
theorem dL_law_528 : decode cL_law 528 = .ok (.iload 5, 2) := by decide +kernel
theorem dL_law_530 : decode cL_law 530 = .ok (.iconst 2, 1) := by decide +kernel
theorem dL_law_531 : decode cL_law 531 = .ok (.iadd, 1) := by decide +kernel
theorem dL_law_532 : decode cL_law 532 = .ok (.iaload, 1) := by decide +kernel
theorem dL_law_533 : decode cL_law 533 = .ok (.aload 4, 2) := by decide +kernel
theorem dL_law_535 : decode cL_law 535 = .ok (.invokestatic 82, 3) := by decide +kernel
theorem dL_law_538 : decode cL_law 538 = .ok (.istore 6, 2) := by decide +kernel
theorem dL_law_540 : decode cL_law 540 = .ok (.aload_n 2, 1) := by decide +kernel
theorem dL_law_541 : decode cL_law 541 = .ok (.aload_n 0, 1) := by decide +kernel
theorem dL_law_542 : decode cL_law 542 = .ok (.iload 5, 2) := by decide +kernel
theorem dL_law_544 : decode cL_law 544 = .ok (.iconst 1, 1) := by decide +kernel
theorem dL_law_545 : decode cL_law 545 = .ok (.iadd, 1) := by decide +kernel
theorem dL_law_546 : decode cL_law 546 = .ok (.iaload, 1) := by decide +kernel
theorem dL_law_547 : decode cL_law 547 = .ok (.aload_n 0, 1) := by decide +kernel
theorem dL_law_548 : decode cL_law 548 = .ok (.iload 5, 2) := by decide +kernel
theorem dL_law_550 : decode cL_law 550 = .ok (.iconst 2, 1) := by decide +kernel
theorem dL_law_551 : decode cL_law 551 = .ok (.iadd, 1) := by decide +kernel
theorem dL_law_552 : decode cL_law 552 = .ok (.iaload, 1) := by decide +kernel
theorem dL_law_553 : decode cL_law 553 = .ok (.invokevirtual 85, 3) := by decide +kernel
theorem dL_law_556 : decode cL_law 556 = .ok (.fstore 7, 2) := by decide +kernel
theorem dL_law_558 : decode cL_law 558 = .ok (.aload_n 2, 1) := by decide +kernel
theorem dL_law_559 : decode cL_law 559 = .ok (.invokevirtual 55, 3) := by decide +kernel
theorem dL_law_562 : decode cL_law 562 = .ok (.iload 6, 2) := by decide +kernel
theorem dL_law_564 : decode cL_law 564 = .ok (.if_icmp .eq 5, 3) := by decide +kernel
theorem dL_law_567 : decode cL_law 567 = .ok (.iconst 0, 1) := by decide +kernel
theorem dL_law_568 : decode cL_law 568 = .ok (.ireturn, 1) := by decide +kernel
theorem dL_law_569 : decode cL_law 569 = .ok (.iload 6, 2) := by decide +kernel
theorem dL_law_571 : decode cL_law 571 = .ok (.ifCond .ne 36, 3) := by decide +kernel
theorem dL_law_574 : decode cL_law 574 = .ok (.aload 4, 2) := by decide +kernel
theorem dL_law_576 : decode cL_law 576 = .ok (.iconst 0, 1) := by decide +kernel
theorem dL_law_577 : decode cL_law 577 = .ok (.daload, 1) := by decide +kernel
theorem dL_law_578 : decode cL_law 578 = .ok (.fload 7, 2) := by decide +kernel
theorem dL_law_580 : decode cL_law 580 = .ok (.f2d, 1) := by decide +kernel
theorem dL_law_581 : decode cL_law 581 = .ok (.dcmp .l, 1) := by decide +kernel
theorem dL_law_582 : decode cL_law 582 = .ok (.ifCond .eq 25, 3) := by decide +kernel
theorem dL_law_585 : decode cL_law 585 = .ok (.aload 4, 2) := by decide +kernel
theorem dL_law_587 : decode cL_law 587 = .ok (.iconst 0, 1) := by decide +kernel
theorem dL_law_588 : decode cL_law 588 = .ok (.daload, 1) := by decide +kernel
theorem dL_law_589 : decode cL_law 589 = .ok (.aload 4, 2) := by decide +kernel
theorem dL_law_591 : decode cL_law 591 = .ok (.iconst 0, 1) := by decide +kernel
theorem dL_law_592 : decode cL_law 592 = .ok (.daload, 1) := by decide +kernel
theorem dL_law_593 : decode cL_law 593 = .ok (.dcmp .l, 1) := by decide +kernel
theorem dL_law_594 : decode cL_law 594 = .ok (.ifCond .eq 11, 3) := by decide +kernel
theorem dL_law_597 : decode cL_law 597 = .ok (.fload 7, 2) := by decide +kernel
theorem dL_law_599 : decode cL_law 599 = .ok (.fload 7, 2) := by decide +kernel
theorem dL_law_601 : decode cL_law 601 = .ok (.fcmp .l, 1) := by decide +kernel
theorem dL_law_602 : decode cL_law 602 = .ok (.ifCond .ne 5, 3) := by decide +kernel
theorem dL_law_605 : decode cL_law 605 = .ok (.iconst 0, 1) := by decide +kernel
theorem dL_law_606 : decode cL_law 606 = .ok (.ireturn, 1) := by decide +kernel
theorem dL_law_607 : decode cL_law 607 = .ok (.goto 96, 3) := by decide +kernel
theorem dL_law_610 : decode cL_law 610 = .ok (.aload_n 1, 1) := by decide +kernel
theorem dL_law_611 : decode cL_law 611 = .ok (.aload_n 0, 1) := by decide +kernel
theorem dL_law_612 : decode cL_law 612 = .ok (.iload 5, 2) := by decide +kernel
theorem dL_law_614 : decode cL_law 614 = .ok (.iconst 1, 1) := by decide +kernel
theorem dL_law_615 : decode cL_law 615 = .ok (.iadd, 1) := by decide +kernel
theorem dL_law_616 : decode cL_law 616 = .ok (.iaload, 1) := by decide +kernel
theorem dL_law_617 : decode cL_law 617 = .ok (.aload_n 0, 1) := by decide +kernel
theorem dL_law_618 : decode cL_law 618 = .ok (.iload 5, 2) := by decide +kernel
theorem dL_law_620 : decode cL_law 620 = .ok (.iconst 2, 1) := by decide +kernel
theorem dL_law_621 : decode cL_law 621 = .ok (.iadd, 1) := by decide +kernel
theorem dL_law_622 : decode cL_law 622 = .ok (.iaload, 1) := by decide +kernel
theorem dL_law_623 : decode cL_law 623 = .ok (.aload_n 3, 1) := by decide +kernel
theorem dL_law_624 : decode cL_law 624 = .ok (.invokestatic 86, 3) := by decide +kernel
theorem dL_law_627 : decode cL_law 627 = .ok (.istore 6, 2) := by decide +kernel
theorem dL_law_629 : decode cL_law 629 = .ok (.aload_n 2, 1) := by decide +kernel
theorem dL_law_630 : decode cL_law 630 = .ok (.aload_n 0, 1) := by decide +kernel
theorem dL_law_631 : decode cL_law 631 = .ok (.iload 5, 2) := by decide +kernel
theorem dL_law_633 : decode cL_law 633 = .ok (.iconst 1, 1) := by decide +kernel
theorem dL_law_634 : decode cL_law 634 = .ok (.iadd, 1) := by decide +kernel
theorem dL_law_635 : decode cL_law 635 = .ok (.iaload, 1) := by decide +kernel
theorem dL_law_636 : decode cL_law 636 = .ok (.aload_n 0, 1) := by decide +kernel
theorem dL_law_637 : decode cL_law 637 = .ok (.iload 5, 2) := by decide +kernel
theorem dL_law_639 : decode cL_law 639 = .ok (.iconst 2, 1) := by decide +kernel
theorem dL_law_640 : decode cL_law 640 = .ok (.iadd, 1) := by decide +kernel
theorem dL_law_641 : decode cL_law 641 = .ok (.iaload, 1) := by decide +kernel
theorem dL_law_642 : decode cL_law 642 = .ok (.invokevirtual 88, 3) := by decide +kernel
theorem dL_law_645 : decode cL_law 645 = .ok (.istore 7, 2) := by decide +kernel
theorem dL_law_647 : decode cL_law 647 = .ok (.aload_n 2, 1) := by decide +kernel
theorem dL_law_648 : decode cL_law 648 = .ok (.invokevirtual 55, 3) := by decide +kernel
theorem dL_law_651 : decode cL_law 651 = .ok (.iload 6, 2) := by decide +kernel
theorem dL_law_653 : decode cL_law 653 = .ok (.if_icmp .eq 5, 3) := by decide +kernel
theorem dL_law_656 : decode cL_law 656 = .ok (.iconst 0, 1) := by decide +kernel
theorem dL_law_657 : decode cL_law 657 = .ok (.ireturn, 1) := by decide +kernel
theorem dL_law_658 : decode cL_law 658 = .ok (.iload 6, 2) := by decide +kernel
theorem dL_law_660 : decode cL_law 660 = .ok (.ifCond .ne 15, 3) := by decide +kernel
theorem dL_law_663 : decode cL_law 663 = .ok (.aload_n 3, 1) := by decide +kernel
theorem dL_law_664 : decode cL_law 664 = .ok (.iconst 0, 1) := by decide +kernel
theorem dL_law_665 : decode cL_law 665 = .ok (.laload, 1) := by decide +kernel
theorem dL_law_666 : decode cL_law 666 = .ok (.iload 7, 2) := by decide +kernel
theorem dL_law_668 : decode cL_law 668 = .ok (.i2l, 1) := by decide +kernel
theorem dL_law_669 : decode cL_law 669 = .ok (.lcmp, 1) := by decide +kernel
theorem dL_law_670 : decode cL_law 670 = .ok (.ifCond .eq 5, 3) := by decide +kernel
theorem dL_law_673 : decode cL_law 673 = .ok (.iconst 0, 1) := by decide +kernel
theorem dL_law_674 : decode cL_law 674 = .ok (.ireturn, 1) := by decide +kernel
theorem dL_law_675 : decode cL_law 675 = .ok (.goto 28, 3) := by decide +kernel
theorem dL_law_678 : decode cL_law 678 = .ok (.aload_n 1, 1) := by decide +kernel
theorem dL_law_679 : decode cL_law 679 = .ok (.aload_n 0, 1) := by decide +kernel
theorem dL_law_680 : decode cL_law 680 = .ok (.iload 5, 2) := by decide +kernel
theorem dL_law_682 : decode cL_law 682 = .ok (.iconst 1, 1) := by decide +kernel
theorem dL_law_683 : decode cL_law 683 = .ok (.iadd, 1) := by decide +kernel
theorem dL_law_684 : decode cL_law 684 = .ok (.iaload, 1) := by decide +kernel
theorem dL_law_685 : decode cL_law 685 = .ok (.invokevirtual 89, 3) := by decide +kernel
theorem dL_law_688 : decode cL_law 688 = .ok (.aload_n 2, 1) := by decide +kernel
theorem dL_law_689 : decode cL_law 689 = .ok (.aload_n 0, 1) := by decide +kernel
theorem dL_law_690 : decode cL_law 690 = .ok (.iload 5, 2) := by decide +kernel
theorem dL_law_692 : decode cL_law 692 = .ok (.iconst 1, 1) := by decide +kernel
theorem dL_law_693 : decode cL_law 693 = .ok (.iadd, 1) := by decide +kernel
theorem dL_law_694 : decode cL_law 694 = .ok (.iaload, 1) := by decide +kernel
theorem dL_law_695 : decode cL_law 695 = .ok (.invokevirtual 92, 3) := by decide +kernel
theorem dL_law_698 : decode cL_law 698 = .ok (.if_icmp .eq 5, 3) := by decide +kernel
theorem dL_law_701 : decode cL_law 701 = .ok (.iconst 0, 1) := by decide +kernel
theorem dL_law_702 : decode cL_law 702 = .ok (.ireturn, 1) := by decide +kernel
theorem dL_law_703 : decode cL_law 703 = .ok (.iinc 5 5, 3) := by decide +kernel
theorem dL_law_706 : decode cL_law 706 = .ok (.goto (-678), 3) := by decide +kernel
theorem dL_law_709 : decode cL_law 709 = .ok (.iconst 1, 1) := by decide +kernel
theorem dL_law_710 : decode cL_law 710 = .ok (.ireturn, 1) := by decide +kernel
