theorem dX5_copyWorld_0 : decode cX5_copyWorld 0 = .ok (.aload_n 0, 1) := by decide +kernel
theorem dX5_copyWorld_1 : decode cX5_copyWorld 1 = .ok (.aload_n 1, 1) := by decide +kernel
theorem dX5_copyWorld_2 : decode cX5_copyWorld 2 = .ok (.getfield 9, 3) := by decide +kernel
theorem dX5_copyWorld_5 : decode cX5_copyWorld 5 = .ok (.putfield 9, 3) := by decide +kernel
theorem dX5_copyWorld_8 : decode cX5_copyWorld 8 = .ok (.aload_n 0, 1) := by decide +kernel
theorem dX5_copyWorld_9 : decode cX5_copyWorld 9 = .ok (.aload_n 1, 1) := by decide +kernel
theorem dX5_copyWorld_10 : decode cX5_copyWorld 10 = .ok (.getfield 15, 3) := by decide +kernel
theorem dX5_copyWorld_13 : decode cX5_copyWorld 13 = .ok (.putfield 15, 3) := by decide +kernel
theorem dX5_copyWorld_16 : decode cX5_copyWorld 16 = .ok (.aload_n 0, 1) := by decide +kernel
theorem dX5_copyWorld_17 : decode cX5_copyWorld 17 = .ok (.aload_n 1, 1) := by decide +kernel
theorem dX5_copyWorld_18 : decode cX5_copyWorld 18 = .ok (.getfield 18, 3) := by decide +kernel
theorem dX5_copyWorld_21 : decode cX5_copyWorld 21 = .ok (.putfield 18, 3) := by decide +kernel
theorem dX5_copyWorld_24 : decode cX5_copyWorld 24 = .ok (.aload_n 0, 1) := by decide +kernel
theorem dX5_copyWorld_25 : decode cX5_copyWorld 25 = .ok (.aload_n 1, 1) := by decide +kernel
theorem dX5_copyWorld_26 : decode cX5_copyWorld 26 = .ok (.getfield 21, 3) := by decide +kernel
theorem dX5_copyWorld_29 : decode cX5_copyWorld 29 = .ok (.putfield 21, 3) := by decide +kernel
theorem dX5_copyWorld_32 : decode cX5_copyWorld 32 = .ok (.aload_n 0, 1) := by decide +kernel
theorem dX5_copyWorld_33 : decode cX5_copyWorld 33 = .ok (.aload_n 1, 1) := by decide +kernel
theorem dX5_copyWorld_34 : decode cX5_copyWorld 34 = .ok (.getfield 24, 3) := by decide +kernel
theorem dX5_copyWorld_37 : decode cX5_copyWorld 37 = .ok (.putfield 24, 3) := by decide +kernel
theorem dX5_copyWorld_40 : decode cX5_copyWorld 40 = .ok (.aload_n 1, 1) := by decide +kernel
theorem dX5_copyWorld_41 : decode cX5_copyWorld 41 = .ok (.getfield 27, 3) := by decide +kernel
theorem dX5_copyWorld_44 : decode cX5_copyWorld 44 = .ok (.iconst 0, 1) := by decide +kernel
theorem dX5_copyWorld_45 : decode cX5_copyWorld 45 = .ok (.aload_n 0, 1) := by decide +kernel
theorem dX5_copyWorld_46 : decode cX5_copyWorld 46 = .ok (.getfield 27, 3) := by decide +kernel
theorem dX5_copyWorld_49 : decode cX5_copyWorld 49 = .ok (.iconst 0, 1) := by decide +kernel
theorem dX5_copyWorld_50 : decode cX5_copyWorld 50 = .ok (.bipush 36, 2) := by decide +kernel
theorem dX5_copyWorld_52 : decode cX5_copyWorld 52 = .ok (.invokestatic 52, 3) := by decide +kernel
theorem dX5_copyWorld_55 : decode cX5_copyWorld 55 = .ok (.aload_n 1, 1) := by decide +kernel
theorem dX5_copyWorld_56 : decode cX5_copyWorld 56 = .ok (.getfield 31, 3) := by decide +kernel
theorem dX5_copyWorld_59 : decode cX5_copyWorld 59 = .ok (.iconst 0, 1) := by decide +kernel
theorem dX5_copyWorld_60 : decode cX5_copyWorld 60 = .ok (.aload_n 0, 1) := by decide +kernel
theorem dX5_copyWorld_61 : decode cX5_copyWorld 61 = .ok (.getfield 31, 3) := by decide +kernel
theorem dX5_copyWorld_64 : decode cX5_copyWorld 64 = .ok (.iconst 0, 1) := by decide +kernel
theorem dX5_copyWorld_65 : decode cX5_copyWorld 65 = .ok (.bipush 9, 2) := by decide +kernel
theorem dX5_copyWorld_67 : decode cX5_copyWorld 67 = .ok (.invokestatic 52, 3) := by decide +kernel
theorem dX5_copyWorld_70 : decode cX5_copyWorld 70 = .ok (.aload_n 1, 1) := by decide +kernel
theorem dX5_copyWorld_71 : decode cX5_copyWorld 71 = .ok (.getfield 34, 3) := by decide +kernel
theorem dX5_copyWorld_74 : decode cX5_copyWorld 74 = .ok (.iconst 0, 1) := by decide +kernel
theorem dX5_copyWorld_75 : decode cX5_copyWorld 75 = .ok (.aload_n 0, 1) := by decide +kernel
theorem dX5_copyWorld_76 : decode cX5_copyWorld 76 = .ok (.getfield 34, 3) := by decide +kernel
theorem dX5_copyWorld_79 : decode cX5_copyWorld 79 = .ok (.iconst 0, 1) := by decide +kernel
theorem dX5_copyWorld_80 : decode cX5_copyWorld 80 = .ok (.bipush 9, 2) := by decide +kernel
theorem dX5_copyWorld_82 : decode cX5_copyWorld 82 = .ok (.invokestatic 52, 3) := by decide +kernel
theorem dX5_copyWorld_85 : decode cX5_copyWorld 85 = .ok (.return_, 1) := by decide +kernel
theorem dX5_isOpen_0 : decode cX5_isOpen 0 = .ok (.aload_n 0, 1) := by decide +kernel
theorem dX5_isOpen_1 : decode cX5_isOpen 1 = .ok (.getfield 24, 3) := by decide +kernel
theorem dX5_isOpen_4 : decode cX5_isOpen 4 = .ok (.iload_n 1, 1) := by decide +kernel
theorem dX5_isOpen_5 : decode cX5_isOpen 5 = .ok (.ishr, 1) := by decide +kernel
theorem dX5_isOpen_6 : decode cX5_isOpen 6 = .ok (.iconst 1, 1) := by decide +kernel
theorem dX5_isOpen_7 : decode cX5_isOpen 7 = .ok (.iand, 1) := by decide +kernel
theorem dX5_isOpen_8 : decode cX5_isOpen 8 = .ok (.ifCond .eq 7, 3) := by decide +kernel
theorem dX5_isOpen_11 : decode cX5_isOpen 11 = .ok (.iconst 1, 1) := by decide +kernel
theorem dX5_isOpen_12 : decode cX5_isOpen 12 = .ok (.goto 4, 3) := by decide +kernel
theorem dX5_isOpen_15 : decode cX5_isOpen 15 = .ok (.iconst 0, 1) := by decide +kernel
theorem dX5_isOpen_16 : decode cX5_isOpen 16 = .ok (.ireturn, 1) := by decide +kernel
theorem dX5_isTooLate_0 : decode cX5_isTooLate 0 = .ok (.aload_n 0, 1) := by decide +kernel
theorem dX5_isTooLate_1 : decode cX5_isTooLate 1 = .ok (.getfield 9, 3) := by decide +kernel
theorem dX5_isTooLate_4 : decode cX5_isTooLate 4 = .ok (.aload_n 0, 1) := by decide +kernel
theorem dX5_isTooLate_5 : decode cX5_isTooLate 5 = .ok (.getfield 43, 3) := by decide +kernel
theorem dX5_isTooLate_8 : decode cX5_isTooLate 8 = .ok (.getfield 108, 3) := by decide +kernel
theorem dX5_isTooLate_11 : decode cX5_isTooLate 11 = .ok (.iload_n 1, 1) := by decide +kernel
theorem dX5_isTooLate_12 : decode cX5_isTooLate 12 = .ok (.iaload, 1) := by decide +kernel
theorem dX5_isTooLate_13 : decode cX5_isTooLate 13 = .ok (.if_icmp .le 7, 3) := by decide +kernel
theorem dX5_isTooLate_16 : decode cX5_isTooLate 16 = .ok (.iconst 1, 1) := by decide +kernel
theorem dX5_isTooLate_17 : decode cX5_isTooLate 17 = .ok (.goto 4, 3) := by decide +kernel
theorem dX5_isTooLate_20 : decode cX5_isTooLate 20 = .ok (.iconst 0, 1) := by decide +kernel
theorem dX5_isTooLate_21 : decode cX5_isTooLate 21 = .ok (.ireturn, 1) := by decide +kernel
theorem dX5_questionOf_0 : decode cX5_questionOf 0 = .ok (.aload_n 0, 1) := by decide +kernel
theorem dX5_questionOf_1 : decode cX5_questionOf 1 = .ok (.getfield 43, 3) := by decide +kernel
theorem dX5_questionOf_4 : decode cX5_questionOf 4 = .ok (.getfield 111, 3) := by decide +kernel
theorem dX5_questionOf_7 : decode cX5_questionOf 7 = .ok (.iload_n 1, 1) := by decide +kernel
theorem dX5_questionOf_8 : decode cX5_questionOf 8 = .ok (.iaload, 1) := by decide +kernel
theorem dX5_questionOf_9 : decode cX5_questionOf 9 = .ok (.iconst (-1), 1) := by decide +kernel
theorem dX5_questionOf_10 : decode cX5_questionOf 10 = .ok (.if_icmp .ne 10, 3) := by decide +kernel
theorem dX5_questionOf_13 : decode cX5_questionOf 13 = .ok (.aload_n 0, 1) := by decide +kernel
theorem dX5_questionOf_14 : decode cX5_questionOf 14 = .ok (.getfield 15, 3) := by decide +kernel
theorem dX5_questionOf_17 : decode cX5_questionOf 17 = .ok (.goto 12, 3) := by decide +kernel
theorem dX5_questionOf_20 : decode cX5_questionOf 20 = .ok (.aload_n 0, 1) := by decide +kernel
theorem dX5_questionOf_21 : decode cX5_questionOf 21 = .ok (.getfield 43, 3) := by decide +kernel
theorem dX5_questionOf_24 : decode cX5_questionOf 24 = .ok (.getfield 111, 3) := by decide +kernel
theorem dX5_questionOf_27 : decode cX5_questionOf 27 = .ok (.iload_n 1, 1) := by decide +kernel
theorem dX5_questionOf_28 : decode cX5_questionOf 28 = .ok (.iaload, 1) := by decide +kernel
theorem dX5_questionOf_29 : decode cX5_questionOf 29 = .ok (.ireturn, 1) := by decide +kernel
theorem dX5_apart_0 : decode cX5_apart 0 = .ok (.aload_n 0, 1) := by decide +kernel
theorem dX5_apart_1 : decode cX5_apart 1 = .ok (.getfield 27, 3) := by decide +kernel
theorem dX5_apart_4 : decode cX5_apart 4 = .ok (.iload_n 1, 1) := by decide +kernel
theorem dX5_apart_5 : decode cX5_apart 5 = .ok (.iconst 4, 1) := by decide +kernel
theorem dX5_apart_6 : decode cX5_apart 6 = .ok (.imul, 1) := by decide +kernel
theorem dX5_apart_7 : decode cX5_apart 7 = .ok (.iload_n 3, 1) := by decide +kernel
theorem dX5_apart_8 : decode cX5_apart 8 = .ok (.iadd, 1) := by decide +kernel
theorem dX5_apart_9 : decode cX5_apart 9 = .ok (.iaload, 1) := by decide +kernel
theorem dX5_apart_10 : decode cX5_apart 10 = .ok (.istore 4, 2) := by decide +kernel
theorem dX5_apart_12 : decode cX5_apart 12 = .ok (.iload 4, 2) := by decide +kernel
theorem dX5_apart_14 : decode cX5_apart 14 = .ok (.aload_n 0, 1) := by decide +kernel
theorem dX5_apart_15 : decode cX5_apart 15 = .ok (.getfield 27, 3) := by decide +kernel
theorem dX5_apart_18 : decode cX5_apart 18 = .ok (.iload_n 2, 1) := by decide +kernel
theorem dX5_apart_19 : decode cX5_apart 19 = .ok (.iconst 4, 1) := by decide +kernel
theorem dX5_apart_20 : decode cX5_apart 20 = .ok (.imul, 1) := by decide +kernel
theorem dX5_apart_21 : decode cX5_apart 21 = .ok (.iload_n 3, 1) := by decide +kernel
theorem dX5_apart_22 : decode cX5_apart 22 = .ok (.iadd, 1) := by decide +kernel
theorem dX5_apart_23 : decode cX5_apart 23 = .ok (.iaload, 1) := by decide +kernel
theorem dX5_apart_24 : decode cX5_apart 24 = .ok (.isub, 1) := by decide +kernel
theorem dX5_apart_25 : decode cX5_apart 25 = .ok (.invokestatic 83, 3) := by decide +kernel
theorem dX5_apart_28 : decode cX5_apart 28 = .ok (.ireturn, 1) := by decide +kernel
theorem dX5_errs_0 : decode cX5_errs 0 = .ok (.aload_n 0, 1) := by decide +kernel
theorem dX5_errs_1 : decode cX5_errs 1 = .ok (.iload_n 1, 1) := by decide +kernel
theorem dX5_errs_2 : decode cX5_errs 2 = .ok (.invokevirtual 114, 3) := by decide +kernel
theorem dX5_errs_5 : decode cX5_errs 5 = .ok (.ifCond .eq 5, 3) := by decide +kernel
theorem dX5_errs_8 : decode cX5_errs 8 = .ok (.iconst 1, 1) := by decide +kernel
theorem dX5_errs_9 : decode cX5_errs 9 = .ok (.ireturn, 1) := by decide +kernel
theorem dX5_errs_10 : decode cX5_errs 10 = .ok (.aload_n 0, 1) := by decide +kernel
theorem dX5_errs_11 : decode cX5_errs 11 = .ok (.iload_n 1, 1) := by decide +kernel
theorem dX5_errs_12 : decode cX5_errs 12 = .ok (.invokevirtual 118, 3) := by decide +kernel
theorem dX5_errs_15 : decode cX5_errs 15 = .ok (.ifCond .eq 5, 3) := by decide +kernel
theorem dX5_errs_18 : decode cX5_errs 18 = .ok (.iconst 2, 1) := by decide +kernel
theorem dX5_errs_19 : decode cX5_errs 19 = .ok (.ireturn, 1) := by decide +kernel
theorem dX5_errs_20 : decode cX5_errs 20 = .ok (.iload_n 2, 1) := by decide +kernel
theorem dX5_errs_21 : decode cX5_errs 21 = .ok (.iload_n 3, 1) := by decide +kernel
theorem dX5_errs_22 : decode cX5_errs 22 = .ok (.if_icmp .eq 15, 3) := by decide +kernel
theorem dX5_errs_25 : decode cX5_errs 25 = .ok (.aload_n 0, 1) := by decide +kernel
theorem dX5_errs_26 : decode cX5_errs 26 = .ok (.getfield 43, 3) := by decide +kernel
theorem dX5_errs_29 : decode cX5_errs 29 = .ok (.iload_n 2, 1) := by decide +kernel
theorem dX5_errs_30 : decode cX5_errs 30 = .ok (.iload_n 3, 1) := by decide +kernel
theorem dX5_errs_31 : decode cX5_errs 31 = .ok (.invokevirtual 88, 3) := by decide +kernel
theorem dX5_errs_34 : decode cX5_errs 34 = .ok (.ifCond .eq 5, 3) := by decide +kernel
theorem dX5_errs_37 : decode cX5_errs 37 = .ok (.iconst 3, 1) := by decide +kernel
theorem dX5_errs_38 : decode cX5_errs 38 = .ok (.ireturn, 1) := by decide +kernel
theorem dX5_errs_39 : decode cX5_errs 39 = .ok (.aload_n 0, 1) := by decide +kernel
theorem dX5_errs_40 : decode cX5_errs 40 = .ok (.getfield 31, 3) := by decide +kernel
theorem dX5_errs_43 : decode cX5_errs 43 = .ok (.iload_n 2, 1) := by decide +kernel
theorem dX5_errs_44 : decode cX5_errs 44 = .ok (.iaload, 1) := by decide +kernel
theorem dX5_errs_45 : decode cX5_errs 45 = .ok (.aload_n 0, 1) := by decide +kernel
theorem dX5_errs_46 : decode cX5_errs 46 = .ok (.getfield 31, 3) := by decide +kernel
theorem dX5_errs_49 : decode cX5_errs 49 = .ok (.iload_n 3, 1) := by decide +kernel
theorem dX5_errs_50 : decode cX5_errs 50 = .ok (.iaload, 1) := by decide +kernel
theorem dX5_errs_51 : decode cX5_errs 51 = .ok (.invokestatic 121, 3) := by decide +kernel
theorem dX5_errs_54 : decode cX5_errs 54 = .ok (.aload_n 0, 1) := by decide +kernel
theorem dX5_errs_55 : decode cX5_errs 55 = .ok (.getfield 43, 3) := by decide +kernel
theorem dX5_errs_58 : decode cX5_errs 58 = .ok (.getfield 124, 3) := by decide +kernel
theorem dX5_errs_61 : decode cX5_errs 61 = .ok (.iload_n 1, 1) := by decide +kernel
theorem dX5_errs_62 : decode cX5_errs 62 = .ok (.iaload, 1) := by decide +kernel
theorem dX5_errs_63 : decode cX5_errs 63 = .ok (.if_icmp .ge 5, 3) := by decide +kernel
theorem dX5_errs_66 : decode cX5_errs 66 = .ok (.iconst 4, 1) := by decide +kernel
theorem dX5_errs_67 : decode cX5_errs 67 = .ok (.ireturn, 1) := by decide +kernel
theorem dX5_errs_68 : decode cX5_errs 68 = .ok (.aload_n 0, 1) := by decide +kernel
theorem dX5_errs_69 : decode cX5_errs 69 = .ok (.iload_n 2, 1) := by decide +kernel
theorem dX5_errs_70 : decode cX5_errs 70 = .ok (.iload_n 3, 1) := by decide +kernel
theorem dX5_errs_71 : decode cX5_errs 71 = .ok (.aload_n 0, 1) := by decide +kernel
theorem dX5_errs_72 : decode cX5_errs 72 = .ok (.iload_n 1, 1) := by decide +kernel
theorem dX5_errs_73 : decode cX5_errs 73 = .ok (.invokevirtual 127, 3) := by decide +kernel
theorem dX5_errs_76 : decode cX5_errs 76 = .ok (.invokevirtual 92, 3) := by decide +kernel
theorem dX5_errs_79 : decode cX5_errs 79 = .ok (.aload_n 0, 1) := by decide +kernel
theorem dX5_errs_80 : decode cX5_errs 80 = .ok (.getfield 18, 3) := by decide +kernel
theorem dX5_errs_83 : decode cX5_errs 83 = .ok (.if_icmp .ge 7, 3) := by decide +kernel
theorem dX5_errs_86 : decode cX5_errs 86 = .ok (.iconst 5, 1) := by decide +kernel
theorem dX5_errs_87 : decode cX5_errs 87 = .ok (.goto 4, 3) := by decide +kernel
theorem dX5_errs_90 : decode cX5_errs 90 = .ok (.iconst 0, 1) := by decide +kernel
theorem dX5_errs_91 : decode cX5_errs 91 = .ok (.ireturn, 1) := by decide +kernel
theorem dX5_copyRows_0 : decode cX5_copyRows 0 = .ok (.aload_n 0, 1) := by decide +kernel
theorem dX5_copyRows_1 : decode cX5_copyRows 1 = .ok (.aload_n 1, 1) := by decide +kernel
theorem dX5_copyRows_2 : decode cX5_copyRows 2 = .ok (.getfield 37, 3) := by decide +kernel
theorem dX5_copyRows_5 : decode cX5_copyRows 5 = .ok (.putfield 37, 3) := by decide +kernel
theorem dX5_copyRows_8 : decode cX5_copyRows 8 = .ok (.aload_n 1, 1) := by decide +kernel
theorem dX5_copyRows_9 : decode cX5_copyRows 9 = .ok (.getfield 40, 3) := by decide +kernel
theorem dX5_copyRows_12 : decode cX5_copyRows 12 = .ok (.iconst 0, 1) := by decide +kernel
theorem dX5_copyRows_13 : decode cX5_copyRows 13 = .ok (.aload_n 0, 1) := by decide +kernel
theorem dX5_copyRows_14 : decode cX5_copyRows 14 = .ok (.getfield 40, 3) := by decide +kernel
theorem dX5_copyRows_17 : decode cX5_copyRows 17 = .ok (.iconst 0, 1) := by decide +kernel
theorem dX5_copyRows_18 : decode cX5_copyRows 18 = .ok (.bipush 30, 2) := by decide +kernel
theorem dX5_copyRows_20 : decode cX5_copyRows 20 = .ok (.invokestatic 52, 3) := by decide +kernel
theorem dX5_copyRows_23 : decode cX5_copyRows 23 = .ok (.return_, 1) := by decide +kernel
theorem dX5_beginDay_0 : decode cX5_beginDay 0 = .ok (.aload_n 0, 1) := by decide +kernel
theorem dX5_beginDay_1 : decode cX5_beginDay 1 = .ok (.iload_n 1, 1) := by decide +kernel
theorem dX5_beginDay_2 : decode cX5_beginDay 2 = .ok (.putfield 9, 3) := by decide +kernel
theorem dX5_beginDay_5 : decode cX5_beginDay 5 = .ok (.aload_n 0, 1) := by decide +kernel
theorem dX5_beginDay_6 : decode cX5_beginDay 6 = .ok (.aload_n 0, 1) := by decide +kernel
theorem dX5_beginDay_7 : decode cX5_beginDay 7 = .ok (.getfield 43, 3) := by decide +kernel
theorem dX5_beginDay_10 : decode cX5_beginDay 10 = .ok (.iload_n 1, 1) := by decide +kernel
theorem dX5_beginDay_11 : decode cX5_beginDay 11 = .ok (.invokevirtual 63, 3) := by decide +kernel
theorem dX5_beginDay_14 : decode cX5_beginDay 14 = .ok (.putfield 15, 3) := by decide +kernel
theorem dX5_beginDay_17 : decode cX5_beginDay 17 = .ok (.aload_n 0, 1) := by decide +kernel
theorem dX5_beginDay_18 : decode cX5_beginDay 18 = .ok (.getfield 31, 3) := by decide +kernel
theorem dX5_beginDay_21 : decode cX5_beginDay 21 = .ok (.aload_n 0, 1) := by decide +kernel
theorem dX5_beginDay_22 : decode cX5_beginDay 22 = .ok (.getfield 43, 3) := by decide +kernel
theorem dX5_beginDay_25 : decode cX5_beginDay 25 = .ok (.getfield 67, 3) := by decide +kernel
theorem dX5_beginDay_28 : decode cX5_beginDay 28 = .ok (.invokestatic 70, 3) := by decide +kernel
theorem dX5_beginDay_31 : decode cX5_beginDay 31 = .ok (.return_, 1) := by decide +kernel
theorem dX5_beginAnew_0 : decode cX5_beginAnew 0 = .ok (.aload_n 0, 1) := by decide +kernel
theorem dX5_beginAnew_1 : decode cX5_beginAnew 1 = .ok (.aload_n 0, 1) := by decide +kernel
theorem dX5_beginAnew_2 : decode cX5_beginAnew 2 = .ok (.getfield 43, 3) := by decide +kernel
theorem dX5_beginAnew_5 : decode cX5_beginAnew 5 = .ok (.getfield 47, 3) := by decide +kernel
theorem dX5_beginAnew_8 : decode cX5_beginAnew 8 = .ok (.putfield 18, 3) := by decide +kernel
theorem dX5_beginAnew_11 : decode cX5_beginAnew 11 = .ok (.aload_n 0, 1) := by decide +kernel
theorem dX5_beginAnew_12 : decode cX5_beginAnew 12 = .ok (.aload_n 0, 1) := by decide +kernel
theorem dX5_beginAnew_13 : decode cX5_beginAnew 13 = .ok (.getfield 43, 3) := by decide +kernel
theorem dX5_beginAnew_16 : decode cX5_beginAnew 16 = .ok (.getfield 50, 3) := by decide +kernel
theorem dX5_beginAnew_19 : decode cX5_beginAnew 19 = .ok (.putfield 21, 3) := by decide +kernel
theorem dX5_beginAnew_22 : decode cX5_beginAnew 22 = .ok (.aload_n 0, 1) := by decide +kernel
theorem dX5_beginAnew_23 : decode cX5_beginAnew 23 = .ok (.iconst 0, 1) := by decide +kernel
theorem dX5_beginAnew_24 : decode cX5_beginAnew 24 = .ok (.putfield 24, 3) := by decide +kernel
theorem dX5_beginAnew_27 : decode cX5_beginAnew 27 = .ok (.aload_n 0, 1) := by decide +kernel
theorem dX5_beginAnew_28 : decode cX5_beginAnew 28 = .ok (.getfield 43, 3) := by decide +kernel
theorem dX5_beginAnew_31 : decode cX5_beginAnew 31 = .ok (.getfield 51, 3) := by decide +kernel
theorem dX5_beginAnew_34 : decode cX5_beginAnew 34 = .ok (.iconst 0, 1) := by decide +kernel
theorem dX5_beginAnew_35 : decode cX5_beginAnew 35 = .ok (.aload_n 0, 1) := by decide +kernel
theorem dX5_beginAnew_36 : decode cX5_beginAnew 36 = .ok (.getfield 27, 3) := by decide +kernel
theorem dX5_beginAnew_39 : decode cX5_beginAnew 39 = .ok (.iconst 0, 1) := by decide +kernel
theorem dX5_beginAnew_40 : decode cX5_beginAnew 40 = .ok (.bipush 36, 2) := by decide +kernel
theorem dX5_beginAnew_42 : decode cX5_beginAnew 42 = .ok (.invokestatic 52, 3) := by decide +kernel
theorem dX5_beginAnew_45 : decode cX5_beginAnew 45 = .ok (.aload_n 0, 1) := by decide +kernel
theorem dX5_beginAnew_46 : decode cX5_beginAnew 46 = .ok (.getfield 43, 3) := by decide +kernel
theorem dX5_beginAnew_49 : decode cX5_beginAnew 49 = .ok (.getfield 58, 3) := by decide +kernel
theorem dX5_beginAnew_52 : decode cX5_beginAnew 52 = .ok (.iconst 0, 1) := by decide +kernel
theorem dX5_beginAnew_53 : decode cX5_beginAnew 53 = .ok (.aload_n 0, 1) := by decide +kernel
theorem dX5_beginAnew_54 : decode cX5_beginAnew 54 = .ok (.getfield 34, 3) := by decide +kernel
theorem dX5_beginAnew_57 : decode cX5_beginAnew 57 = .ok (.iconst 0, 1) := by decide +kernel
theorem dX5_beginAnew_58 : decode cX5_beginAnew 58 = .ok (.bipush 9, 2) := by decide +kernel
theorem dX5_beginAnew_60 : decode cX5_beginAnew 60 = .ok (.invokestatic 52, 3) := by decide +kernel
theorem dX5_beginAnew_63 : decode cX5_beginAnew 63 = .ok (.aload_n 0, 1) := by decide +kernel
theorem dX5_beginAnew_64 : decode cX5_beginAnew 64 = .ok (.iconst 0, 1) := by decide +kernel
theorem dX5_beginAnew_65 : decode cX5_beginAnew 65 = .ok (.putfield 37, 3) := by decide +kernel
theorem dX5_beginAnew_68 : decode cX5_beginAnew 68 = .ok (.aload_n 0, 1) := by decide +kernel
theorem dX5_beginAnew_69 : decode cX5_beginAnew 69 = .ok (.iconst 0, 1) := by decide +kernel
theorem dX5_beginAnew_70 : decode cX5_beginAnew 70 = .ok (.invokevirtual 59, 3) := by decide +kernel
theorem dX5_beginAnew_73 : decode cX5_beginAnew 73 = .ok (.return_, 1) := by decide +kernel
theorem dX5_thought_0 : decode cX5_thought 0 = .ok (.aload_n 0, 1) := by decide +kernel
theorem dX5_thought_1 : decode cX5_thought 1 = .ok (.getfield 27, 3) := by decide +kernel
theorem dX5_thought_4 : decode cX5_thought 4 = .ok (.iload_n 1, 1) := by decide +kernel
theorem dX5_thought_5 : decode cX5_thought 5 = .ok (.iconst 4, 1) := by decide +kernel
theorem dX5_thought_6 : decode cX5_thought 6 = .ok (.imul, 1) := by decide +kernel
theorem dX5_thought_7 : decode cX5_thought 7 = .ok (.iload_n 2, 1) := by decide +kernel
theorem dX5_thought_8 : decode cX5_thought 8 = .ok (.iadd, 1) := by decide +kernel
theorem dX5_thought_9 : decode cX5_thought 9 = .ok (.iaload, 1) := by decide +kernel
theorem dX5_thought_10 : decode cX5_thought 10 = .ok (.ireturn, 1) := by decide +kernel
theorem dX5_putThought_0 : decode cX5_putThought 0 = .ok (.aload_n 0, 1) := by decide +kernel
theorem dX5_putThought_1 : decode cX5_putThought 1 = .ok (.getfield 27, 3) := by decide +kernel
theorem dX5_putThought_4 : decode cX5_putThought 4 = .ok (.iload_n 1, 1) := by decide +kernel
theorem dX5_putThought_5 : decode cX5_putThought 5 = .ok (.iconst 4, 1) := by decide +kernel
theorem dX5_putThought_6 : decode cX5_putThought 6 = .ok (.imul, 1) := by decide +kernel
theorem dX5_putThought_7 : decode cX5_putThought 7 = .ok (.iload_n 2, 1) := by decide +kernel
theorem dX5_putThought_8 : decode cX5_putThought 8 = .ok (.iadd, 1) := by decide +kernel
theorem dX5_putThought_9 : decode cX5_putThought 9 = .ok (.iload_n 3, 1) := by decide +kernel
theorem dX5_putThought_10 : decode cX5_putThought 10 = .ok (.iastore, 1) := by decide +kernel
theorem dX5_putThought_11 : decode cX5_putThought 11 = .ok (.return_, 1) := by decide +kernel
theorem dX5_doWork_0 : decode cX5_doWork 0 = .ok (.aload_n 0, 1) := by decide +kernel
theorem dX5_doWork_1 : decode cX5_doWork 1 = .ok (.iload_n 1, 1) := by decide +kernel
theorem dX5_doWork_2 : decode cX5_doWork 2 = .ok (.invokevirtual 127, 3) := by decide +kernel
theorem dX5_doWork_5 : decode cX5_doWork 5 = .ok (.istore 4, 2) := by decide +kernel
theorem dX5_doWork_7 : decode cX5_doWork 7 = .ok (.aload_n 0, 1) := by decide +kernel
theorem dX5_doWork_8 : decode cX5_doWork 8 = .ok (.iload_n 2, 1) := by decide +kernel
theorem dX5_doWork_9 : decode cX5_doWork 9 = .ok (.iload 4, 2) := by decide +kernel
theorem dX5_doWork_11 : decode cX5_doWork 11 = .ok (.invokevirtual 96, 3) := by decide +kernel
theorem dX5_doWork_14 : decode cX5_doWork 14 = .ok (.aload_n 0, 1) := by decide +kernel
theorem dX5_doWork_15 : decode cX5_doWork 15 = .ok (.iload_n 3, 1) := by decide +kernel
theorem dX5_doWork_16 : decode cX5_doWork 16 = .ok (.iload 4, 2) := by decide +kernel
theorem dX5_doWork_18 : decode cX5_doWork 18 = .ok (.invokevirtual 96, 3) := by decide +kernel
theorem dX5_doWork_21 : decode cX5_doWork 21 = .ok (.if_icmp .gt 7, 3) := by decide +kernel
theorem dX5_doWork_24 : decode cX5_doWork 24 = .ok (.iconst 1, 1) := by decide +kernel
theorem dX5_doWork_25 : decode cX5_doWork 25 = .ok (.goto 4, 3) := by decide +kernel
theorem dX5_doWork_28 : decode cX5_doWork 28 = .ok (.iconst 0, 1) := by decide +kernel
theorem dX5_doWork_29 : decode cX5_doWork 29 = .ok (.istore 5, 2) := by decide +kernel
theorem dX5_doWork_31 : decode cX5_doWork 31 = .ok (.iload 5, 2) := by decide +kernel
theorem dX5_doWork_33 : decode cX5_doWork 33 = .ok (.ifCond .eq 7, 3) := by decide +kernel
theorem dX5_doWork_36 : decode cX5_doWork 36 = .ok (.iload_n 2, 1) := by decide +kernel
theorem dX5_doWork_37 : decode cX5_doWork 37 = .ok (.goto 4, 3) := by decide +kernel
theorem dX5_doWork_40 : decode cX5_doWork 40 = .ok (.iload_n 3, 1) := by decide +kernel
theorem dX5_doWork_41 : decode cX5_doWork 41 = .ok (.istore 6, 2) := by decide +kernel
theorem dX5_doWork_43 : decode cX5_doWork 43 = .ok (.iload 5, 2) := by decide +kernel
theorem dX5_doWork_45 : decode cX5_doWork 45 = .ok (.ifCond .eq 7, 3) := by decide +kernel
theorem dX5_doWork_48 : decode cX5_doWork 48 = .ok (.iload_n 3, 1) := by decide +kernel
theorem dX5_doWork_49 : decode cX5_doWork 49 = .ok (.goto 4, 3) := by decide +kernel
theorem dX5_doWork_52 : decode cX5_doWork 52 = .ok (.iload_n 2, 1) := by decide +kernel
theorem dX5_doWork_53 : decode cX5_doWork 53 = .ok (.istore 7, 2) := by decide +kernel
theorem dX5_doWork_55 : decode cX5_doWork 55 = .ok (.aload_n 0, 1) := by decide +kernel
theorem dX5_doWork_56 : decode cX5_doWork 56 = .ok (.iload 6, 2) := by decide +kernel
theorem dX5_doWork_58 : decode cX5_doWork 58 = .ok (.iload 4, 2) := by decide +kernel
theorem dX5_doWork_60 : decode cX5_doWork 60 = .ok (.invokevirtual 96, 3) := by decide +kernel
theorem dX5_doWork_63 : decode cX5_doWork 63 = .ok (.istore 8, 2) := by decide +kernel
theorem dX5_doWork_65 : decode cX5_doWork 65 = .ok (.aload_n 0, 1) := by decide +kernel
theorem dX5_doWork_66 : decode cX5_doWork 66 = .ok (.iload 7, 2) := by decide +kernel
theorem dX5_doWork_68 : decode cX5_doWork 68 = .ok (.iload 4, 2) := by decide +kernel
theorem dX5_doWork_70 : decode cX5_doWork 70 = .ok (.invokevirtual 96, 3) := by decide +kernel
theorem dX5_doWork_73 : decode cX5_doWork 73 = .ok (.istore 9, 2) := by decide +kernel
theorem dX5_doWork_75 : decode cX5_doWork 75 = .ok (.aload_n 0, 1) := by decide +kernel
theorem dX5_doWork_76 : decode cX5_doWork 76 = .ok (.iload 6, 2) := by decide +kernel
theorem dX5_doWork_78 : decode cX5_doWork 78 = .ok (.iload 4, 2) := by decide +kernel
theorem dX5_doWork_80 : decode cX5_doWork 80 = .ok (.iload 8, 2) := by decide +kernel
theorem dX5_doWork_82 : decode cX5_doWork 82 = .ok (.iload 9, 2) := by decide +kernel
theorem dX5_doWork_84 : decode cX5_doWork 84 = .ok (.aload_n 0, 1) := by decide +kernel
theorem dX5_doWork_85 : decode cX5_doWork 85 = .ok (.getfield 34, 3) := by decide +kernel
theorem dX5_doWork_88 : decode cX5_doWork 88 = .ok (.iload 6, 2) := by decide +kernel
theorem dX5_doWork_90 : decode cX5_doWork 90 = .ok (.iaload, 1) := by decide +kernel
theorem dX5_doWork_91 : decode cX5_doWork 91 = .ok (.aload_n 0, 1) := by decide +kernel
theorem dX5_doWork_92 : decode cX5_doWork 92 = .ok (.getfield 34, 3) := by decide +kernel
theorem dX5_doWork_95 : decode cX5_doWork 95 = .ok (.iload 7, 2) := by decide +kernel
theorem dX5_doWork_97 : decode cX5_doWork 97 = .ok (.iaload, 1) := by decide +kernel
theorem dX5_doWork_98 : decode cX5_doWork 98 = .ok (.invokestatic 130, 3) := by decide +kernel
theorem dX5_doWork_101 : decode cX5_doWork 101 = .ok (.invokevirtual 79, 3) := by decide +kernel
theorem dX5_doWork_104 : decode cX5_doWork 104 = .ok (.aload_n 0, 1) := by decide +kernel
theorem dX5_doWork_105 : decode cX5_doWork 105 = .ok (.iload 7, 2) := by decide +kernel
theorem dX5_doWork_107 : decode cX5_doWork 107 = .ok (.iload 4, 2) := by decide +kernel
theorem dX5_doWork_109 : decode cX5_doWork 109 = .ok (.iload 8, 2) := by decide +kernel
theorem dX5_doWork_111 : decode cX5_doWork 111 = .ok (.iload 9, 2) := by decide +kernel
theorem dX5_doWork_113 : decode cX5_doWork 113 = .ok (.aload_n 0, 1) := by decide +kernel
theorem dX5_doWork_114 : decode cX5_doWork 114 = .ok (.getfield 34, 3) := by decide +kernel
theorem dX5_doWork_117 : decode cX5_doWork 117 = .ok (.iload 6, 2) := by decide +kernel
theorem dX5_doWork_119 : decode cX5_doWork 119 = .ok (.iaload, 1) := by decide +kernel
theorem dX5_doWork_120 : decode cX5_doWork 120 = .ok (.aload_n 0, 1) := by decide +kernel
theorem dX5_doWork_121 : decode cX5_doWork 121 = .ok (.getfield 34, 3) := by decide +kernel
theorem dX5_doWork_124 : decode cX5_doWork 124 = .ok (.iload 7, 2) := by decide +kernel
theorem dX5_doWork_126 : decode cX5_doWork 126 = .ok (.iaload, 1) := by decide +kernel
theorem dX5_doWork_127 : decode cX5_doWork 127 = .ok (.invokestatic 134, 3) := by decide +kernel
theorem dX5_doWork_130 : decode cX5_doWork 130 = .ok (.invokevirtual 79, 3) := by decide +kernel
theorem dX5_doWork_133 : decode cX5_doWork 133 = .ok (.aload_n 0, 1) := by decide +kernel
theorem dX5_doWork_134 : decode cX5_doWork 134 = .ok (.getfield 31, 3) := by decide +kernel
theorem dX5_doWork_137 : decode cX5_doWork 137 = .ok (.iload_n 2, 1) := by decide +kernel
theorem dX5_doWork_138 : decode cX5_doWork 138 = .ok (.dup2, 1) := by decide +kernel
theorem dX5_doWork_139 : decode cX5_doWork 139 = .ok (.iaload, 1) := by decide +kernel
theorem dX5_doWork_140 : decode cX5_doWork 140 = .ok (.aload_n 0, 1) := by decide +kernel
theorem dX5_doWork_141 : decode cX5_doWork 141 = .ok (.getfield 43, 3) := by decide +kernel
theorem dX5_doWork_144 : decode cX5_doWork 144 = .ok (.getfield 124, 3) := by decide +kernel
theorem dX5_doWork_147 : decode cX5_doWork 147 = .ok (.iload_n 1, 1) := by decide +kernel
theorem dX5_doWork_148 : decode cX5_doWork 148 = .ok (.iaload, 1) := by decide +kernel
theorem dX5_doWork_149 : decode cX5_doWork 149 = .ok (.isub, 1) := by decide +kernel
theorem dX5_doWork_150 : decode cX5_doWork 150 = .ok (.iastore, 1) := by decide +kernel
theorem dX5_doWork_151 : decode cX5_doWork 151 = .ok (.aload_n 0, 1) := by decide +kernel
theorem dX5_doWork_152 : decode cX5_doWork 152 = .ok (.getfield 31, 3) := by decide +kernel
theorem dX5_doWork_155 : decode cX5_doWork 155 = .ok (.iload_n 3, 1) := by decide +kernel
theorem dX5_doWork_156 : decode cX5_doWork 156 = .ok (.dup2, 1) := by decide +kernel
theorem dX5_doWork_157 : decode cX5_doWork 157 = .ok (.iaload, 1) := by decide +kernel
theorem dX5_doWork_158 : decode cX5_doWork 158 = .ok (.aload_n 0, 1) := by decide +kernel
theorem dX5_doWork_159 : decode cX5_doWork 159 = .ok (.getfield 43, 3) := by decide +kernel
theorem dX5_doWork_162 : decode cX5_doWork 162 = .ok (.getfield 124, 3) := by decide +kernel
theorem dX5_doWork_165 : decode cX5_doWork 165 = .ok (.iload_n 1, 1) := by decide +kernel
theorem dX5_doWork_166 : decode cX5_doWork 166 = .ok (.iaload, 1) := by decide +kernel
theorem dX5_doWork_167 : decode cX5_doWork 167 = .ok (.isub, 1) := by decide +kernel
theorem dX5_doWork_168 : decode cX5_doWork 168 = .ok (.iastore, 1) := by decide +kernel
theorem dX5_doWork_169 : decode cX5_doWork 169 = .ok (.aload_n 0, 1) := by decide +kernel
theorem dX5_doWork_170 : decode cX5_doWork 170 = .ok (.dup, 1) := by decide +kernel
theorem dX5_doWork_171 : decode cX5_doWork 171 = .ok (.getfield 24, 3) := by decide +kernel
theorem dX5_doWork_174 : decode cX5_doWork 174 = .ok (.iconst 1, 1) := by decide +kernel
theorem dX5_doWork_175 : decode cX5_doWork 175 = .ok (.iload_n 1, 1) := by decide +kernel
theorem dX5_doWork_176 : decode cX5_doWork 176 = .ok (.ishl, 1) := by decide +kernel
theorem dX5_doWork_177 : decode cX5_doWork 177 = .ok (.ior, 1) := by decide +kernel
theorem dX5_doWork_178 : decode cX5_doWork 178 = .ok (.putfield 24, 3) := by decide +kernel
theorem dX5_doWork_181 : decode cX5_doWork 181 = .ok (.aload_n 0, 1) := by decide +kernel
theorem dX5_doWork_182 : decode cX5_doWork 182 = .ok (.iload_n 2, 1) := by decide +kernel
theorem dX5_doWork_183 : decode cX5_doWork 183 = .ok (.iload_n 3, 1) := by decide +kernel
theorem dX5_doWork_184 : decode cX5_doWork 184 = .ok (.iload 4, 2) := by decide +kernel
theorem dX5_doWork_186 : decode cX5_doWork 186 = .ok (.invokevirtual 92, 3) := by decide +kernel
theorem dX5_doWork_189 : decode cX5_doWork 189 = .ok (.ireturn, 1) := by decide +kernel
theorem dX5_stepTo_0 : decode cX5_stepTo 0 = .ok (.aload_n 0, 1) := by decide +kernel
theorem dX5_stepTo_1 : decode cX5_stepTo 1 = .ok (.iload_n 2, 1) := by decide +kernel
theorem dX5_stepTo_2 : decode cX5_stepTo 2 = .ok (.iload_n 3, 1) := by decide +kernel
theorem dX5_stepTo_3 : decode cX5_stepTo 3 = .ok (.invokevirtual 96, 3) := by decide +kernel
theorem dX5_stepTo_6 : decode cX5_stepTo 6 = .ok (.aload_n 0, 1) := by decide +kernel
theorem dX5_stepTo_7 : decode cX5_stepTo 7 = .ok (.iload_n 1, 1) := by decide +kernel
theorem dX5_stepTo_8 : decode cX5_stepTo 8 = .ok (.iload_n 3, 1) := by decide +kernel
theorem dX5_stepTo_9 : decode cX5_stepTo 9 = .ok (.invokevirtual 96, 3) := by decide +kernel
theorem dX5_stepTo_12 : decode cX5_stepTo 12 = .ok (.invokestatic 100, 3) := by decide +kernel
theorem dX5_stepTo_15 : decode cX5_stepTo 15 = .ok (.ireturn, 1) := by decide +kernel
theorem dX5_stepTowards_0 : decode cX5_stepTowards 0 = .ok (.aload_n 0, 1) := by decide +kernel
theorem dX5_stepTowards_1 : decode cX5_stepTowards 1 = .ok (.iload_n 1, 1) := by decide +kernel
theorem dX5_stepTowards_2 : decode cX5_stepTowards 2 = .ok (.iload_n 3, 1) := by decide +kernel
theorem dX5_stepTowards_3 : decode cX5_stepTowards 3 = .ok (.aload_n 0, 1) := by decide +kernel
theorem dX5_stepTowards_4 : decode cX5_stepTowards 4 = .ok (.iload_n 1, 1) := by decide +kernel
theorem dX5_stepTowards_5 : decode cX5_stepTowards 5 = .ok (.iload_n 3, 1) := by decide +kernel
theorem dX5_stepTowards_6 : decode cX5_stepTowards 6 = .ok (.invokevirtual 96, 3) := by decide +kernel
theorem dX5_stepTowards_9 : decode cX5_stepTowards 9 = .ok (.aload_n 0, 1) := by decide +kernel
theorem dX5_stepTowards_10 : decode cX5_stepTowards 10 = .ok (.iload_n 1, 1) := by decide +kernel
theorem dX5_stepTowards_11 : decode cX5_stepTowards 11 = .ok (.iload_n 2, 1) := by decide +kernel
theorem dX5_stepTowards_12 : decode cX5_stepTowards 12 = .ok (.iload_n 3, 1) := by decide +kernel
theorem dX5_stepTowards_13 : decode cX5_stepTowards 13 = .ok (.invokevirtual 105, 3) := by decide +kernel
theorem dX5_stepTowards_16 : decode cX5_stepTowards 16 = .ok (.iadd, 1) := by decide +kernel
theorem dX5_stepTowards_17 : decode cX5_stepTowards 17 = .ok (.invokevirtual 79, 3) := by decide +kernel
theorem dX5_stepTowards_20 : decode cX5_stepTowards 20 = .ok (.return_, 1) := by decide +kernel
theorem dX5_addStranger_0 : decode cX5_addStranger 0 = .ok (.aload_n 0, 1) := by decide +kernel
theorem dX5_addStranger_1 : decode cX5_addStranger 1 = .ok (.getfield 21, 3) := by decide +kernel
theorem dX5_addStranger_4 : decode cX5_addStranger 4 = .ok (.bipush 9, 2) := by decide +kernel
theorem dX5_addStranger_6 : decode cX5_addStranger 6 = .ok (.if_icmp .lt 4, 3) := by decide +kernel
theorem dX5_addStranger_9 : decode cX5_addStranger 9 = .ok (.return_, 1) := by decide +kernel
theorem dX5_addStranger_10 : decode cX5_addStranger 10 = .ok (.iload_n 1, 1) := by decide +kernel
theorem dX5_addStranger_11 : decode cX5_addStranger 11 = .ok (.istore_n 3, 1) := by decide +kernel
theorem dX5_addStranger_12 : decode cX5_addStranger 12 = .ok (.iconst 0, 1) := by decide +kernel
theorem dX5_addStranger_13 : decode cX5_addStranger 13 = .ok (.istore 4, 2) := by decide +kernel
theorem dX5_addStranger_15 : decode cX5_addStranger 15 = .ok (.iload 4, 2) := by decide +kernel
theorem dX5_addStranger_17 : decode cX5_addStranger 17 = .ok (.aload_n 0, 1) := by decide +kernel
theorem dX5_addStranger_18 : decode cX5_addStranger 18 = .ok (.getfield 43, 3) := by decide +kernel
theorem dX5_addStranger_21 : decode cX5_addStranger 21 = .ok (.getfield 76, 3) := by decide +kernel
theorem dX5_addStranger_24 : decode cX5_addStranger 24 = .ok (.if_icmp .ge 28, 3) := by decide +kernel
theorem dX5_addStranger_27 : decode cX5_addStranger 27 = .ok (.aload_n 0, 1) := by decide +kernel
theorem dX5_addStranger_28 : decode cX5_addStranger 28 = .ok (.aload_n 0, 1) := by decide +kernel
theorem dX5_addStranger_29 : decode cX5_addStranger 29 = .ok (.getfield 21, 3) := by decide +kernel
theorem dX5_addStranger_32 : decode cX5_addStranger 32 = .ok (.iload 4, 2) := by decide +kernel
theorem dX5_addStranger_34 : decode cX5_addStranger 34 = .ok (.iload_n 3, 1) := by decide +kernel
theorem dX5_addStranger_35 : decode cX5_addStranger 35 = .ok (.bipush 10, 2) := by decide +kernel
theorem dX5_addStranger_37 : decode cX5_addStranger 37 = .ok (.irem, 1) := by decide +kernel
theorem dX5_addStranger_38 : decode cX5_addStranger 38 = .ok (.invokevirtual 79, 3) := by decide +kernel
theorem dX5_addStranger_41 : decode cX5_addStranger 41 = .ok (.iload_n 3, 1) := by decide +kernel
theorem dX5_addStranger_42 : decode cX5_addStranger 42 = .ok (.bipush 10, 2) := by decide +kernel
theorem dX5_addStranger_44 : decode cX5_addStranger 44 = .ok (.idiv, 1) := by decide +kernel
theorem dX5_addStranger_45 : decode cX5_addStranger 45 = .ok (.istore_n 3, 1) := by decide +kernel
theorem dX5_addStranger_46 : decode cX5_addStranger 46 = .ok (.iinc 4 1, 3) := by decide +kernel
theorem dX5_addStranger_49 : decode cX5_addStranger 49 = .ok (.goto (-34), 3) := by decide +kernel
theorem dX5_addStranger_52 : decode cX5_addStranger 52 = .ok (.aload_n 0, 1) := by decide +kernel
theorem dX5_addStranger_53 : decode cX5_addStranger 53 = .ok (.getfield 31, 3) := by decide +kernel
theorem dX5_addStranger_56 : decode cX5_addStranger 56 = .ok (.aload_n 0, 1) := by decide +kernel
theorem dX5_addStranger_57 : decode cX5_addStranger 57 = .ok (.getfield 21, 3) := by decide +kernel
theorem dX5_addStranger_60 : decode cX5_addStranger 60 = .ok (.aload_n 0, 1) := by decide +kernel
theorem dX5_addStranger_61 : decode cX5_addStranger 61 = .ok (.getfield 43, 3) := by decide +kernel
theorem dX5_addStranger_64 : decode cX5_addStranger 64 = .ok (.getfield 67, 3) := by decide +kernel
theorem dX5_addStranger_67 : decode cX5_addStranger 67 = .ok (.iastore, 1) := by decide +kernel
theorem dX5_addStranger_68 : decode cX5_addStranger 68 = .ok (.aload_n 0, 1) := by decide +kernel
theorem dX5_addStranger_69 : decode cX5_addStranger 69 = .ok (.getfield 34, 3) := by decide +kernel
theorem dX5_addStranger_72 : decode cX5_addStranger 72 = .ok (.aload_n 0, 1) := by decide +kernel
theorem dX5_addStranger_73 : decode cX5_addStranger 73 = .ok (.getfield 21, 3) := by decide +kernel
theorem dX5_addStranger_76 : decode cX5_addStranger 76 = .ok (.iload_n 2, 1) := by decide +kernel
theorem dX5_addStranger_77 : decode cX5_addStranger 77 = .ok (.iastore, 1) := by decide +kernel
theorem dX5_addStranger_78 : decode cX5_addStranger 78 = .ok (.aload_n 0, 1) := by decide +kernel
theorem dX5_addStranger_79 : decode cX5_addStranger 79 = .ok (.dup, 1) := by decide +kernel
theorem dX5_addStranger_80 : decode cX5_addStranger 80 = .ok (.getfield 21, 3) := by decide +kernel
theorem dX5_addStranger_83 : decode cX5_addStranger 83 = .ok (.iconst 1, 1) := by decide +kernel
theorem dX5_addStranger_84 : decode cX5_addStranger 84 = .ok (.iadd, 1) := by decide +kernel
theorem dX5_addStranger_85 : decode cX5_addStranger 85 = .ok (.putfield 21, 3) := by decide +kernel
theorem dX5_addStranger_88 : decode cX5_addStranger 88 = .ok (.return_, 1) := by decide +kernel
theorem dX5_rivalsOf_0 : decode cX5_rivalsOf 0 = .ok (.iconst 0, 1) := by decide +kernel
theorem dX5_rivalsOf_1 : decode cX5_rivalsOf 1 = .ok (.istore 4, 2) := by decide +kernel
theorem dX5_rivalsOf_3 : decode cX5_rivalsOf 3 = .ok (.iconst 0, 1) := by decide +kernel
theorem dX5_rivalsOf_4 : decode cX5_rivalsOf 4 = .ok (.istore 5, 2) := by decide +kernel
theorem dX5_rivalsOf_6 : decode cX5_rivalsOf 6 = .ok (.iload 5, 2) := by decide +kernel
theorem dX5_rivalsOf_8 : decode cX5_rivalsOf 8 = .ok (.aload_n 0, 1) := by decide +kernel
theorem dX5_rivalsOf_9 : decode cX5_rivalsOf 9 = .ok (.getfield 21, 3) := by decide +kernel
theorem dX5_rivalsOf_12 : decode cX5_rivalsOf 12 = .ok (.if_icmp .ge 65, 3) := by decide +kernel
theorem dX5_rivalsOf_15 : decode cX5_rivalsOf 15 = .ok (.iload 5, 2) := by decide +kernel
theorem dX5_rivalsOf_17 : decode cX5_rivalsOf 17 = .ok (.iload_n 1, 1) := by decide +kernel
theorem dX5_rivalsOf_18 : decode cX5_rivalsOf 18 = .ok (.if_icmp .eq 20, 3) := by decide +kernel
theorem dX5_rivalsOf_21 : decode cX5_rivalsOf 21 = .ok (.aload_n 0, 1) := by decide +kernel
theorem dX5_rivalsOf_22 : decode cX5_rivalsOf 22 = .ok (.getfield 43, 3) := by decide +kernel
theorem dX5_rivalsOf_25 : decode cX5_rivalsOf 25 = .ok (.iload 5, 2) := by decide +kernel
theorem dX5_rivalsOf_27 : decode cX5_rivalsOf 27 = .ok (.iload_n 1, 1) := by decide +kernel
theorem dX5_rivalsOf_28 : decode cX5_rivalsOf 28 = .ok (.invokevirtual 88, 3) := by decide +kernel
theorem dX5_rivalsOf_31 : decode cX5_rivalsOf 31 = .ok (.ifCond .ne 7, 3) := by decide +kernel
theorem dX5_rivalsOf_34 : decode cX5_rivalsOf 34 = .ok (.iconst 1, 1) := by decide +kernel
theorem dX5_rivalsOf_35 : decode cX5_rivalsOf 35 = .ok (.goto 4, 3) := by decide +kernel
theorem dX5_rivalsOf_38 : decode cX5_rivalsOf 38 = .ok (.iconst 0, 1) := by decide +kernel
theorem dX5_rivalsOf_39 : decode cX5_rivalsOf 39 = .ok (.istore 6, 2) := by decide +kernel
theorem dX5_rivalsOf_41 : decode cX5_rivalsOf 41 = .ok (.iload 4, 2) := by decide +kernel
theorem dX5_rivalsOf_43 : decode cX5_rivalsOf 43 = .ok (.iload 6, 2) := by decide +kernel
theorem dX5_rivalsOf_45 : decode cX5_rivalsOf 45 = .ok (.ifCond .eq 22, 3) := by decide +kernel
theorem dX5_rivalsOf_48 : decode cX5_rivalsOf 48 = .ok (.aload_n 0, 1) := by decide +kernel
theorem dX5_rivalsOf_49 : decode cX5_rivalsOf 49 = .ok (.iload 5, 2) := by decide +kernel
theorem dX5_rivalsOf_51 : decode cX5_rivalsOf 51 = .ok (.iload_n 1, 1) := by decide +kernel
theorem dX5_rivalsOf_52 : decode cX5_rivalsOf 52 = .ok (.iload_n 2, 1) := by decide +kernel
theorem dX5_rivalsOf_53 : decode cX5_rivalsOf 53 = .ok (.invokevirtual 92, 3) := by decide +kernel
theorem dX5_rivalsOf_56 : decode cX5_rivalsOf 56 = .ok (.iload_n 3, 1) := by decide +kernel
theorem dX5_rivalsOf_57 : decode cX5_rivalsOf 57 = .ok (.if_icmp .lt 10, 3) := by decide +kernel
theorem dX5_rivalsOf_60 : decode cX5_rivalsOf 60 = .ok (.iconst 1, 1) := by decide +kernel
theorem dX5_rivalsOf_61 : decode cX5_rivalsOf 61 = .ok (.iload 5, 2) := by decide +kernel
theorem dX5_rivalsOf_63 : decode cX5_rivalsOf 63 = .ok (.ishl, 1) := by decide +kernel
theorem dX5_rivalsOf_64 : decode cX5_rivalsOf 64 = .ok (.goto 4, 3) := by decide +kernel
theorem dX5_rivalsOf_67 : decode cX5_rivalsOf 67 = .ok (.iconst 0, 1) := by decide +kernel
theorem dX5_rivalsOf_68 : decode cX5_rivalsOf 68 = .ok (.ior, 1) := by decide +kernel
theorem dX5_rivalsOf_69 : decode cX5_rivalsOf 69 = .ok (.istore 4, 2) := by decide +kernel
theorem dX5_rivalsOf_71 : decode cX5_rivalsOf 71 = .ok (.iinc 5 1, 3) := by decide +kernel
theorem dX5_rivalsOf_74 : decode cX5_rivalsOf 74 = .ok (.goto (-68), 3) := by decide +kernel
theorem dX5_rivalsOf_77 : decode cX5_rivalsOf 77 = .ok (.iload 4, 2) := by decide +kernel
theorem dX5_rivalsOf_79 : decode cX5_rivalsOf 79 = .ok (.ireturn, 1) := by decide +kernel
theorem dX5_firstTwo_0 : decode cX5_firstTwo 0 = .ok (.aload_n 0, 1) := by decide +kernel
theorem dX5_firstTwo_1 : decode cX5_firstTwo 1 = .ok (.iload_n 1, 1) := by decide +kernel
theorem dX5_firstTwo_2 : decode cX5_firstTwo 2 = .ok (.invokevirtual 114, 3) := by decide +kernel
theorem dX5_firstTwo_5 : decode cX5_firstTwo 5 = .ok (.ifCond .ne 11, 3) := by decide +kernel
theorem dX5_firstTwo_8 : decode cX5_firstTwo 8 = .ok (.aload_n 0, 1) := by decide +kernel
theorem dX5_firstTwo_9 : decode cX5_firstTwo 9 = .ok (.iload_n 1, 1) := by decide +kernel
theorem dX5_firstTwo_10 : decode cX5_firstTwo 10 = .ok (.invokevirtual 118, 3) := by decide +kernel
theorem dX5_firstTwo_13 : decode cX5_firstTwo 13 = .ok (.ifCond .eq 5, 3) := by decide +kernel
theorem dX5_firstTwo_16 : decode cX5_firstTwo 16 = .ok (.iconst (-1), 1) := by decide +kernel
theorem dX5_firstTwo_17 : decode cX5_firstTwo 17 = .ok (.ireturn, 1) := by decide +kernel
theorem dX5_firstTwo_18 : decode cX5_firstTwo 18 = .ok (.iconst 0, 1) := by decide +kernel
theorem dX5_firstTwo_19 : decode cX5_firstTwo 19 = .ok (.istore_n 2, 1) := by decide +kernel
theorem dX5_firstTwo_20 : decode cX5_firstTwo 20 = .ok (.iload_n 2, 1) := by decide +kernel
theorem dX5_firstTwo_21 : decode cX5_firstTwo 21 = .ok (.aload_n 0, 1) := by decide +kernel
theorem dX5_firstTwo_22 : decode cX5_firstTwo 22 = .ok (.getfield 21, 3) := by decide +kernel
theorem dX5_firstTwo_25 : decode cX5_firstTwo 25 = .ok (.if_icmp .ge 44, 3) := by decide +kernel
theorem dX5_firstTwo_28 : decode cX5_firstTwo 28 = .ok (.iload_n 2, 1) := by decide +kernel
theorem dX5_firstTwo_29 : decode cX5_firstTwo 29 = .ok (.iconst 1, 1) := by decide +kernel
theorem dX5_firstTwo_30 : decode cX5_firstTwo 30 = .ok (.iadd, 1) := by decide +kernel
theorem dX5_firstTwo_31 : decode cX5_firstTwo 31 = .ok (.istore_n 3, 1) := by decide +kernel
theorem dX5_firstTwo_32 : decode cX5_firstTwo 32 = .ok (.iload_n 3, 1) := by decide +kernel
theorem dX5_firstTwo_33 : decode cX5_firstTwo 33 = .ok (.aload_n 0, 1) := by decide +kernel
theorem dX5_firstTwo_34 : decode cX5_firstTwo 34 = .ok (.getfield 21, 3) := by decide +kernel
theorem dX5_firstTwo_37 : decode cX5_firstTwo 37 = .ok (.if_icmp .ge 26, 3) := by decide +kernel
theorem dX5_firstTwo_40 : decode cX5_firstTwo 40 = .ok (.aload_n 0, 1) := by decide +kernel
theorem dX5_firstTwo_41 : decode cX5_firstTwo 41 = .ok (.iload_n 1, 1) := by decide +kernel
theorem dX5_firstTwo_42 : decode cX5_firstTwo 42 = .ok (.iload_n 2, 1) := by decide +kernel
theorem dX5_firstTwo_43 : decode cX5_firstTwo 43 = .ok (.iload_n 3, 1) := by decide +kernel
theorem dX5_firstTwo_44 : decode cX5_firstTwo 44 = .ok (.invokevirtual 137, 3) := by decide +kernel
theorem dX5_firstTwo_47 : decode cX5_firstTwo 47 = .ok (.ifCond .ne 10, 3) := by decide +kernel
theorem dX5_firstTwo_50 : decode cX5_firstTwo 50 = .ok (.bipush 10, 2) := by decide +kernel
theorem dX5_firstTwo_52 : decode cX5_firstTwo 52 = .ok (.iload_n 2, 1) := by decide +kernel
theorem dX5_firstTwo_53 : decode cX5_firstTwo 53 = .ok (.imul, 1) := by decide +kernel
theorem dX5_firstTwo_54 : decode cX5_firstTwo 54 = .ok (.iload_n 3, 1) := by decide +kernel
theorem dX5_firstTwo_55 : decode cX5_firstTwo 55 = .ok (.iadd, 1) := by decide +kernel
theorem dX5_firstTwo_56 : decode cX5_firstTwo 56 = .ok (.ireturn, 1) := by decide +kernel
theorem dX5_firstTwo_57 : decode cX5_firstTwo 57 = .ok (.iinc 3 1, 3) := by decide +kernel
theorem dX5_firstTwo_60 : decode cX5_firstTwo 60 = .ok (.goto (-28), 3) := by decide +kernel
theorem dX5_firstTwo_63 : decode cX5_firstTwo 63 = .ok (.iinc 2 1, 3) := by decide +kernel
theorem dX5_firstTwo_66 : decode cX5_firstTwo 66 = .ok (.goto (-46), 3) := by decide +kernel
theorem dX5_firstTwo_69 : decode cX5_firstTwo 69 = .ok (.iconst (-1), 1) := by decide +kernel
theorem dX5_firstTwo_70 : decode cX5_firstTwo 70 = .ok (.ireturn, 1) := by decide +kernel
theorem dX5_hasDoorInTime_0 : decode cX5_hasDoorInTime 0 = .ok (.iconst 0, 1) := by decide +kernel
theorem dX5_hasDoorInTime_1 : decode cX5_hasDoorInTime 1 = .ok (.istore_n 1, 1) := by decide +kernel
theorem dX5_hasDoorInTime_2 : decode cX5_hasDoorInTime 2 = .ok (.iload_n 1, 1) := by decide +kernel
theorem dX5_hasDoorInTime_3 : decode cX5_hasDoorInTime 3 = .ok (.aload_n 0, 1) := by decide +kernel
theorem dX5_hasDoorInTime_4 : decode cX5_hasDoorInTime 4 = .ok (.getfield 43, 3) := by decide +kernel
theorem dX5_hasDoorInTime_7 : decode cX5_hasDoorInTime 7 = .ok (.getfield 140, 3) := by decide +kernel
theorem dX5_hasDoorInTime_10 : decode cX5_hasDoorInTime 10 = .ok (.if_icmp .ge 27, 3) := by decide +kernel
theorem dX5_hasDoorInTime_13 : decode cX5_hasDoorInTime 13 = .ok (.aload_n 0, 1) := by decide +kernel
theorem dX5_hasDoorInTime_14 : decode cX5_hasDoorInTime 14 = .ok (.iload_n 1, 1) := by decide +kernel
theorem dX5_hasDoorInTime_15 : decode cX5_hasDoorInTime 15 = .ok (.invokevirtual 114, 3) := by decide +kernel
theorem dX5_hasDoorInTime_18 : decode cX5_hasDoorInTime 18 = .ok (.ifCond .ne 13, 3) := by decide +kernel
theorem dX5_hasDoorInTime_21 : decode cX5_hasDoorInTime 21 = .ok (.aload_n 0, 1) := by decide +kernel
theorem dX5_hasDoorInTime_22 : decode cX5_hasDoorInTime 22 = .ok (.iload_n 1, 1) := by decide +kernel
theorem dX5_hasDoorInTime_23 : decode cX5_hasDoorInTime 23 = .ok (.invokevirtual 118, 3) := by decide +kernel
theorem dX5_hasDoorInTime_26 : decode cX5_hasDoorInTime 26 = .ok (.ifCond .ne 5, 3) := by decide +kernel
theorem dX5_hasDoorInTime_29 : decode cX5_hasDoorInTime 29 = .ok (.iconst 1, 1) := by decide +kernel
theorem dX5_hasDoorInTime_30 : decode cX5_hasDoorInTime 30 = .ok (.ireturn, 1) := by decide +kernel
theorem dX5_hasDoorInTime_31 : decode cX5_hasDoorInTime 31 = .ok (.iinc 1 1, 3) := by decide +kernel
theorem dX5_hasDoorInTime_34 : decode cX5_hasDoorInTime 34 = .ok (.goto (-32), 3) := by decide +kernel
theorem dX5_hasDoorInTime_37 : decode cX5_hasDoorInTime 37 = .ok (.iconst 0, 1) := by decide +kernel
theorem dX5_hasDoorInTime_38 : decode cX5_hasDoorInTime 38 = .ok (.ireturn, 1) := by decide +kernel
def f5_copyWorld (k : Nat) (k2 : Nat) (μ : zMem) : zRes := zlet (zset μ k 1 (μ k2 1)) (fun (μ1 : zMem) => zlet (zset μ1 k 2 (μ1 k2 2)) (fun (μ2 : zMem) => zlet (zset μ2 k 3 (μ2 k2 3)) (fun (μ3 : zMem) => zlet (zset μ3 k 4 (μ3 k2 4)) (fun (μ4 : zMem) => zlet (zset μ4 k 5 (μ4 k2 5)) (fun (μ5 : zMem) => zlet (zcpy μ5 (k2 + 1) (k + 1) 36) (fun (μ6 : zMem) => zlet (zcpy μ6 (k2 + 2) (k + 2) 9) (fun (μ7 : zMem) => zlet (zcpy μ7 (k2 + 3) (k + 3) 9) (fun (μ8 : zMem) => some (0, 0, μ8)))))))))
set_option maxHeartbeats 1000000 in
theorem t5_copyWorld {g : Bool} {k : Nat} (hk : zSc k) {k2 : Nat} (hk2 : zSc k2) (μ : zMem) : zMR yX5_copyWorld cX5_copyWorld 2 (none) 1 [.ref k, .ref k2] (nX g) (SX g) μ (f5_copyWorld k k2 μ) := by
  refine zMR_of (by decide +kernel) rfl (Nat.le_of_ble_eq_true rfl) (L := [.ref k, .ref k2]) rfl ?_
  unfold f5_copyWorld
  refine z_aload_n (pc := 0) dX5_copyWorld_0 rfl ?_
  refine z_aload_n (pc := 1) dX5_copyWorld_1 rfl ?_
  refine z_geti (pc := 2) fdX5_9 (sxs_lt0 hk2) (sxs_0 g hk2) rfl dX5_copyWorld_2 ?_
  refine z_puti (pc := 5) fdX5_9 (sxs_lt0 hk) (sxs_0 g hk) rfl rfl dX5_copyWorld_5 ?_
  refine z_mem (fun μ1 => ?_)
  refine z_aload_n (pc := 8) dX5_copyWorld_8 rfl ?_
  refine z_aload_n (pc := 9) dX5_copyWorld_9 rfl ?_
  refine z_geti (pc := 10) fdX5_15 (sxs_lt0 hk2) (sxs_0 g hk2) rfl dX5_copyWorld_10 ?_
  refine z_puti (pc := 13) fdX5_15 (sxs_lt0 hk) (sxs_0 g hk) rfl rfl dX5_copyWorld_13 ?_
  refine z_mem (fun μ2 => ?_)
  refine z_aload_n (pc := 16) dX5_copyWorld_16 rfl ?_
  refine z_aload_n (pc := 17) dX5_copyWorld_17 rfl ?_
  refine z_geti (pc := 18) fdX5_18 (sxs_lt0 hk2) (sxs_0 g hk2) rfl dX5_copyWorld_18 ?_
  refine z_puti (pc := 21) fdX5_18 (sxs_lt0 hk) (sxs_0 g hk) rfl rfl dX5_copyWorld_21 ?_
  refine z_mem (fun μ3 => ?_)
  refine z_aload_n (pc := 24) dX5_copyWorld_24 rfl ?_
  refine z_aload_n (pc := 25) dX5_copyWorld_25 rfl ?_
  refine z_geti (pc := 26) fdX5_21 (sxs_lt0 hk2) (sxs_0 g hk2) rfl dX5_copyWorld_26 ?_
  refine z_puti (pc := 29) fdX5_21 (sxs_lt0 hk) (sxs_0 g hk) rfl rfl dX5_copyWorld_29 ?_
  refine z_mem (fun μ4 => ?_)
  refine z_aload_n (pc := 32) dX5_copyWorld_32 rfl ?_
  refine z_aload_n (pc := 33) dX5_copyWorld_33 rfl ?_
  refine z_geti (pc := 34) fdX5_24 (sxs_lt0 hk2) (sxs_0 g hk2) rfl dX5_copyWorld_34 ?_
  refine z_puti (pc := 37) fdX5_24 (sxs_lt0 hk) (sxs_0 g hk) rfl rfl dX5_copyWorld_37 ?_
  refine z_mem (fun μ5 => ?_)
  refine z_aload_n (pc := 40) dX5_copyWorld_40 rfl ?_
  refine z_getr (pc := 41) fdX5_27 (sxs_lt0 hk2) (sxs_0 g hk2) rfl rfl dX5_copyWorld_41 ?_
  refine z_iconst (pc := 44) (0 : Int32) dX5_copyWorld_44 (by decide) ?_
  refine z_aload_n (pc := 45) dX5_copyWorld_45 rfl ?_
  refine z_getr (pc := 46) fdX5_27 (sxs_lt0 hk) (sxs_0 g hk) rfl rfl dX5_copyWorld_46 ?_
  refine z_iconst (pc := 49) (0 : Int32) dX5_copyWorld_49 (by decide) ?_
  refine z_bipush (pc := 50) (36 : Int32) dX5_copyWorld_50 (by decide) ?_
  refine z_copy (pc := 52) (N := 36) kaX5_52 (by decide) (sxs_lt (j := 1) hk2 (by decide)) (sxs_lt (j := 1) hk (by decide)) (sxs_1 g hk2) (sxs_1 g hk) (by decide) (by decide) (by decide) (by decide) (Nat.le_of_ble_eq_true rfl) dX5_copyWorld_52 ?_
  refine z_mem (fun μ6 => ?_)
  refine z_aload_n (pc := 55) dX5_copyWorld_55 rfl ?_
  refine z_getr (pc := 56) fdX5_31 (sxs_lt0 hk2) (sxs_0 g hk2) rfl rfl dX5_copyWorld_56 ?_
  refine z_iconst (pc := 59) (0 : Int32) dX5_copyWorld_59 (by decide) ?_
  refine z_aload_n (pc := 60) dX5_copyWorld_60 rfl ?_
  refine z_getr (pc := 61) fdX5_31 (sxs_lt0 hk) (sxs_0 g hk) rfl rfl dX5_copyWorld_61 ?_
  refine z_iconst (pc := 64) (0 : Int32) dX5_copyWorld_64 (by decide) ?_
  refine z_bipush (pc := 65) (9 : Int32) dX5_copyWorld_65 (by decide) ?_
  refine z_copy (pc := 67) (N := 9) kaX5_52 (by decide) (sxs_lt (j := 2) hk2 (by decide)) (sxs_lt (j := 2) hk (by decide)) (sxs_2 g hk2) (sxs_2 g hk) (by decide) (by decide) (by decide) (by decide) (Nat.le_of_ble_eq_true rfl) dX5_copyWorld_67 ?_
  refine z_mem (fun μ7 => ?_)
  refine z_aload_n (pc := 70) dX5_copyWorld_70 rfl ?_
  refine z_getr (pc := 71) fdX5_34 (sxs_lt0 hk2) (sxs_0 g hk2) rfl rfl dX5_copyWorld_71 ?_
  refine z_iconst (pc := 74) (0 : Int32) dX5_copyWorld_74 (by decide) ?_
  refine z_aload_n (pc := 75) dX5_copyWorld_75 rfl ?_
  refine z_getr (pc := 76) fdX5_34 (sxs_lt0 hk) (sxs_0 g hk) rfl rfl dX5_copyWorld_76 ?_
  refine z_iconst (pc := 79) (0 : Int32) dX5_copyWorld_79 (by decide) ?_
  refine z_bipush (pc := 80) (9 : Int32) dX5_copyWorld_80 (by decide) ?_
  refine z_copy (pc := 82) (N := 9) kaX5_52 (by decide) (sxs_lt (j := 3) hk2 (by decide)) (sxs_lt (j := 3) hk (by decide)) (sxs_3 g hk2) (sxs_3 g hk) (by decide) (by decide) (by decide) (by decide) (Nat.le_of_ble_eq_true rfl) dX5_copyWorld_82 ?_
  refine z_mem (fun μ8 => ?_)
  exact z_vret (pc := 85) rfl dX5_copyWorld_85
def f5_isOpen (k : Nat) (x1 : Int32) (μ : zMem) : zRes := zlet (fun (s1 : Int32) => zbl s1 (some (0, s1, μ))) (fun j2 => if ((zshr (μ k 5) x1) &&& (1 : Int32)) = 0 then j2 (0 : Int32) else j2 (1 : Int32))
set_option maxHeartbeats 1000000 in
theorem t5_isOpen {g : Bool} {k : Nat} (hk : zSc k) (x1 : Int32) (μ : zMem) : zMR yX5_isOpen cX5_isOpen 2 (some .boolean) 1 [.ref k, .int x1] (nX g) (SX g) μ (f5_isOpen k x1 μ) := by
  refine zMR_of (by decide +kernel) rfl (Nat.le_of_ble_eq_true rfl) (L := [.ref k, .int x1]) rfl ?_
  unfold f5_isOpen
  refine z_aload_n (pc := 0) dX5_isOpen_0 rfl ?_
  refine z_geti (pc := 1) fdX5_24 (sxs_lt0 hk) (sxs_0 g hk) rfl dX5_isOpen_1 ?_
  refine z_iload_n (pc := 4) dX5_isOpen_4 rfl ?_
  refine z_ishr (pc := 5) dX5_isOpen_5 ?_
  refine z_iconst (pc := 6) (1 : Int32) dX5_isOpen_6 (by decide) ?_
  refine z_iand (pc := 7) dX5_isOpen_7 ?_
  refine z_let (fun (j : Int32 → zRes) => ∀ (s1 : Int32), zR yX5_isOpen cX5_isOpen 2 (some .boolean) 1 16 [.null, .null] [.int s1] (nX g) (SX g) μ (j s1)) ?_ (fun j2 hj2 => ?_)
  · intro s1
    exact z_zret (pc := 16) rfl dX5_isOpen_16
  · refine z_if_eq (pc := 8) (tgt := 15) dX5_isOpen_8 (by decide) (fun c3 => ?_) (fun c4 => ?_)
    · refine z_iconst (pc := 15) (0 : Int32) dX5_isOpen_15 (by decide) ?_
      refine z_loc (L' := [.null, .null]) ⟨Or.inl rfl, ⟨Or.inl rfl, trivial⟩⟩ ?_
      exact hj2 (0 : Int32)
    · refine z_iconst (pc := 11) (1 : Int32) dX5_isOpen_11 (by decide) ?_
      refine z_goto (pc := 12) (tgt := 16) dX5_isOpen_12 (by decide) ?_
      refine z_loc (L' := [.null, .null]) ⟨Or.inl rfl, ⟨Or.inl rfl, trivial⟩⟩ ?_
      exact hj2 (1 : Int32)
def f5_isTooLate (k : Nat) (x1 : Int32) (μ : zMem) : zRes := zin x1 10 (zlet (fun (s2 : Int32) => zbl s2 (some (0, s2, μ))) (fun j3 => if (μ k 1) ≤ (μ 10 x1.toNatClampNeg) then j3 (0 : Int32) else j3 (1 : Int32)))
set_option maxHeartbeats 1000000 in
theorem t5_isTooLate {g : Bool} {k : Nat} (hk : zSc k) (x1 : Int32) (μ : zMem) : zMR yX5_isTooLate cX5_isTooLate 2 (some .boolean) 1 [.ref k, .int x1] (nX g) (SX g) μ (f5_isTooLate k x1 μ) := by
  refine zMR_of (by decide +kernel) rfl (Nat.le_of_ble_eq_true rfl) (L := [.ref k, .int x1]) rfl ?_
  unfold f5_isTooLate
  refine z_aload_n (pc := 0) dX5_isTooLate_0 rfl ?_
  refine z_geti (pc := 1) fdX5_9 (sxs_lt0 hk) (sxs_0 g hk) rfl dX5_isTooLate_1 ?_
  refine z_aload_n (pc := 4) dX5_isTooLate_4 rfl ?_
  refine z_getr (pc := 5) fdX5_43 (sxs_lt0 hk) (sxs_0 g hk) rfl rfl dX5_isTooLate_5 ?_
  refine z_getr (pc := 8) fdX5_108 (nx_lt (by decide)) (sx_2 g) rfl rfl dX5_isTooLate_8 ?_
  refine z_iload_n (pc := 11) dX5_isTooLate_11 rfl ?_
  refine z_iald (pc := 12) (nx_lt (by decide)) (sx_10 g) rfl dX5_isTooLate_12 (fun h1 => ?_)
  refine z_let (fun (j : Int32 → zRes) => ∀ (s2 : Int32), zR yX5_isTooLate cX5_isTooLate 2 (some .boolean) 1 21 [.null, .null] [.int s2] (nX g) (SX g) μ (j s2)) ?_ (fun j3 hj3 => ?_)
  · intro s2
    exact z_zret (pc := 21) rfl dX5_isTooLate_21
  · refine z_icmp_le (pc := 13) (tgt := 20) dX5_isTooLate_13 (by decide) (fun c4 => ?_) (fun c5 => ?_)
    · refine z_iconst (pc := 20) (0 : Int32) dX5_isTooLate_20 (by decide) ?_
      refine z_loc (L' := [.null, .null]) ⟨Or.inl rfl, ⟨Or.inl rfl, trivial⟩⟩ ?_
      exact hj3 (0 : Int32)
    · refine z_iconst (pc := 16) (1 : Int32) dX5_isTooLate_16 (by decide) ?_
      refine z_goto (pc := 17) (tgt := 21) dX5_isTooLate_17 (by decide) ?_
      refine z_loc (L' := [.null, .null]) ⟨Or.inl rfl, ⟨Or.inl rfl, trivial⟩⟩ ?_
      exact hj3 (1 : Int32)
def f5_questionOf (k : Nat) (x1 : Int32) (μ : zMem) : zRes := zin x1 10 (zlet (fun (s2 : Int32) => some (0, s2, μ)) (fun j3 => if (μ 11 x1.toNatClampNeg) = (-1 : Int32) then j3 (μ k 2) else zin x1 10 (j3 (μ 11 x1.toNatClampNeg))))
set_option maxHeartbeats 1000000 in
theorem t5_questionOf {g : Bool} {k : Nat} (hk : zSc k) (x1 : Int32) (μ : zMem) : zMR yX5_questionOf cX5_questionOf 2 (some .int) 1 [.ref k, .int x1] (nX g) (SX g) μ (f5_questionOf k x1 μ) := by
  refine zMR_of (by decide +kernel) rfl (Nat.le_of_ble_eq_true rfl) (L := [.ref k, .int x1]) rfl ?_
  unfold f5_questionOf
  refine z_aload_n (pc := 0) dX5_questionOf_0 rfl ?_
  refine z_getr (pc := 1) fdX5_43 (sxs_lt0 hk) (sxs_0 g hk) rfl rfl dX5_questionOf_1 ?_
  refine z_getr (pc := 4) fdX5_111 (nx_lt (by decide)) (sx_2 g) rfl rfl dX5_questionOf_4 ?_
  refine z_iload_n (pc := 7) dX5_questionOf_7 rfl ?_
  refine z_iald (pc := 8) (nx_lt (by decide)) (sx_11 g) rfl dX5_questionOf_8 (fun h1 => ?_)
  refine z_iconst (pc := 9) (-1 : Int32) dX5_questionOf_9 (by decide) ?_
  refine z_let (fun (j : Int32 → zRes) => ∀ (s2 : Int32), zR yX5_questionOf cX5_questionOf 2 (some .int) 1 29 [.null, .null] [.int s2] (nX g) (SX g) μ (j s2)) ?_ (fun j3 hj3 => ?_)
  · intro s2
    exact z_iret (pc := 29) rfl dX5_questionOf_29
  · refine z_icmp_ne (pc := 10) (tgt := 20) dX5_questionOf_10 (by decide) (fun c4 => ?_) (fun c5 => ?_)
    · refine z_aload_n (pc := 20) dX5_questionOf_20 rfl ?_
      refine z_getr (pc := 21) fdX5_43 (sxs_lt0 hk) (sxs_0 g hk) rfl rfl dX5_questionOf_21 ?_
      refine z_getr (pc := 24) fdX5_111 (nx_lt (by decide)) (sx_2 g) rfl rfl dX5_questionOf_24 ?_
      refine z_iload_n (pc := 27) dX5_questionOf_27 rfl ?_
      refine z_iald (pc := 28) (nx_lt (by decide)) (sx_11 g) rfl dX5_questionOf_28 (fun h6 => ?_)
      refine z_loc (L' := [.null, .null]) ⟨Or.inl rfl, ⟨Or.inl rfl, trivial⟩⟩ ?_
      exact hj3 (μ 11 x1.toNatClampNeg)
    · refine z_aload_n (pc := 13) dX5_questionOf_13 rfl ?_
      refine z_geti (pc := 14) fdX5_15 (sxs_lt0 hk) (sxs_0 g hk) rfl dX5_questionOf_14 ?_
      refine z_goto (pc := 17) (tgt := 29) dX5_questionOf_17 (by decide) ?_
      refine z_loc (L' := [.null, .null]) ⟨Or.inl rfl, ⟨Or.inl rfl, trivial⟩⟩ ?_
      exact hj3 (μ k 2)
def f5_apart (k : Nat) (x1 : Int32) (x2 : Int32) (x3 : Int32) (μ : zMem) : zRes := zin ((x1 * (4 : Int32)) + x3) 36 (zlet (μ (k + 1) ((x1 * (4 : Int32)) + x3).toNatClampNeg) (fun (v2 : Int32) => zin ((x2 * (4 : Int32)) + x3) 36 (some (0, zabs (v2 - (μ (k + 1) ((x2 * (4 : Int32)) + x3).toNatClampNeg)), μ))))
set_option maxHeartbeats 1000000 in
theorem t5_apart {g : Bool} {k : Nat} (hk : zSc k) (x1 : Int32) (x2 : Int32) (x3 : Int32) (μ : zMem) : zMR yX5_apart cX5_apart 5 (some .int) 1 [.ref k, .int x1, .int x2, .int x3] (nX g) (SX g) μ (f5_apart k x1 x2 x3 μ) := by
  refine zMR_of (by decide +kernel) rfl (Nat.le_of_ble_eq_true rfl) (L := [.ref k, .int x1, .int x2, .int x3, .null]) rfl ?_
  unfold f5_apart
  refine z_aload_n (pc := 0) dX5_apart_0 rfl ?_
  refine z_getr (pc := 1) fdX5_27 (sxs_lt0 hk) (sxs_0 g hk) rfl rfl dX5_apart_1 ?_
  refine z_iload_n (pc := 4) dX5_apart_4 rfl ?_
  refine z_iconst (pc := 5) (4 : Int32) dX5_apart_5 (by decide) ?_
  refine z_imul (pc := 6) dX5_apart_6 ?_
  refine z_iload_n (pc := 7) dX5_apart_7 rfl ?_
  refine z_iadd (pc := 8) dX5_apart_8 ?_
  refine z_iald (pc := 9) (sxs_lt (j := 1) hk (by decide)) (sxs_1 g hk) rfl dX5_apart_9 (fun h1 => ?_)
  refine z_val (fun v2 => ?_)
  refine z_istore (pc := 10) (L' := [.ref k, .int x1, .int x2, .int x3, .int v2]) dX5_apart_10 (by decide) rfl ?_
  refine z_iload (pc := 12) dX5_apart_12 rfl ?_
  refine z_aload_n (pc := 14) dX5_apart_14 rfl ?_
  refine z_getr (pc := 15) fdX5_27 (sxs_lt0 hk) (sxs_0 g hk) rfl rfl dX5_apart_15 ?_
  refine z_iload_n (pc := 18) dX5_apart_18 rfl ?_
  refine z_iconst (pc := 19) (4 : Int32) dX5_apart_19 (by decide) ?_
  refine z_imul (pc := 20) dX5_apart_20 ?_
  refine z_iload_n (pc := 21) dX5_apart_21 rfl ?_
  refine z_iadd (pc := 22) dX5_apart_22 ?_
  refine z_iald (pc := 23) (sxs_lt (j := 1) hk (by decide)) (sxs_1 g hk) rfl dX5_apart_23 (fun h3 => ?_)
  refine z_isub (pc := 24) dX5_apart_24 ?_
  refine z_mabs (pc := 25) kmX5_83 (by decide) (Nat.le_of_ble_eq_true rfl) dX5_apart_25 ?_
  exact z_iret (pc := 28) rfl dX5_apart_28
def f5_errs (k : Nat) (x1 : Int32) (x2 : Int32) (x3 : Int32) (μ : zMem) : zRes := bnd0 (f5_isOpen k x1 μ) (fun (v1 : Int32) (μ2 : zMem) => if v1 = 0 then bnd0 (f5_isTooLate k x1 μ2) (fun (v5 : Int32) (μ6 : zMem) => if v5 = 0 then zlet (fun (μ9 : zMem) => some (0, (3 : Int32), μ9)) (fun j10 => if x2 = x3 then j10 μ6 else bnd0 (f7_areKin x2 x3 μ6) (fun (v13 : Int32) (μ14 : zMem) => if v13 = 0 then zin x2 9 (zin x3 9 (zin x1 10 (if (μ14 9 x1.toNatClampNeg) ≤ (zmin (μ14 (k + 2) x2.toNatClampNeg) (μ14 (k + 2) x3.toNatClampNeg)) then bnd0 (f5_questionOf k x1 μ14) (fun (v22 : Int32) (μ23 : zMem) => bnd0 (f5_apart k x2 x3 v22 μ23) (fun (v24 : Int32) (μ25 : zMem) => zlet (fun (s26 : Int32) => some (0, s26, μ25)) (fun j27 => if (μ25 k 3) ≤ v24 then j27 (0 : Int32) else j27 (5 : Int32)))) else some (0, (4 : Int32), μ14)))) else j10 μ14)) else some (0, (2 : Int32), μ6)) else some (0, (1 : Int32), μ2))
set_option maxHeartbeats 1000000 in
theorem t5_errs {g : Bool} {k : Nat} (hk : zSc k) (x1 : Int32) (x2 : Int32) (x3 : Int32) (μ : zMem) : zMR yX5_errs cX5_errs 4 (some .int) 2 [.ref k, .int x1, .int x2, .int x3] (nX g) (SX g) μ (f5_errs k x1 x2 x3 μ) := by
  refine zMR_of (by decide +kernel) rfl (Nat.le_of_ble_eq_true rfl) (L := [.ref k, .int x1, .int x2, .int x3]) rfl ?_
  unfold f5_errs
  refine z_aload_n (pc := 0) dX5_errs_0 rfl ?_
  refine z_iload_n (pc := 1) dX5_errs_1 rfl ?_
  refine z_callV (As := [.int x1]) (pc := 2) (ret' := some .boolean) kvX5_114 (t5_isOpen hk _ _) (by decide) (sxs_lt0 hk) (sxs_0 g hk)  rfl rfl (Nat.le_of_ble_eq_true rfl) dX5_errs_2 (fun v1 μ2 => ?_)
  refine z_if_eq (pc := 5) (tgt := 10) dX5_errs_5 (by decide) (fun c3 => ?_) (fun c4 => ?_)
  · refine z_aload_n (pc := 10) dX5_errs_10 rfl ?_
    refine z_iload_n (pc := 11) dX5_errs_11 rfl ?_
    refine z_callV (As := [.int x1]) (pc := 12) (ret' := some .boolean) kvX5_118 (t5_isTooLate hk _ _) (by decide) (sxs_lt0 hk) (sxs_0 g hk)  rfl rfl (Nat.le_of_ble_eq_true rfl) dX5_errs_12 (fun v5 μ6 => ?_)
    refine z_if_eq (pc := 15) (tgt := 20) dX5_errs_15 (by decide) (fun c7 => ?_) (fun c8 => ?_)
    · refine z_iload_n (pc := 20) dX5_errs_20 rfl ?_
      refine z_iload_n (pc := 21) dX5_errs_21 rfl ?_
      refine z_let (fun (j : zMem → zRes) => ∀ (μ9 : zMem), zR yX5_errs cX5_errs 4 (some .int) 2 37 [.null, .null, .null, .null] [] (nX g) (SX g) μ9 (j μ9)) ?_ (fun j10 hj10 => ?_)
      · intro μ9
        refine z_iconst (pc := 37) (3 : Int32) dX5_errs_37 (by decide) ?_
        exact z_iret (pc := 38) rfl dX5_errs_38
      · refine z_icmp_eq (pc := 22) (tgt := 37) dX5_errs_22 (by decide) (fun c11 => ?_) (fun c12 => ?_)
        · refine z_loc (L' := [.null, .null, .null, .null]) ⟨Or.inl rfl, ⟨Or.inl rfl, ⟨Or.inl rfl, ⟨Or.inl rfl, trivial⟩⟩⟩⟩ ?_
          exact hj10 μ6
        · refine z_aload_n (pc := 25) dX5_errs_25 rfl ?_
          refine z_getr (pc := 26) fdX5_43 (sxs_lt0 hk) (sxs_0 g hk) rfl rfl dX5_errs_26 ?_
          refine z_iload_n (pc := 29) dX5_errs_29 rfl ?_
          refine z_iload_n (pc := 30) dX5_errs_30 rfl ?_
          refine z_callV (As := [.int x2, .int x3]) (pc := 31) (ret' := some .boolean) kvX5_88 (t7_areKin _ _ _) (by decide) (nx_lt (by decide)) (sx_2 g)  rfl rfl (Nat.le_of_ble_eq_true rfl) dX5_errs_31 (fun v13 μ14 => ?_)
          refine z_if_eq (pc := 34) (tgt := 39) dX5_errs_34 (by decide) (fun c15 => ?_) (fun c16 => ?_)
          · refine z_aload_n (pc := 39) dX5_errs_39 rfl ?_
            refine z_getr (pc := 40) fdX5_31 (sxs_lt0 hk) (sxs_0 g hk) rfl rfl dX5_errs_40 ?_
            refine z_iload_n (pc := 43) dX5_errs_43 rfl ?_
            refine z_iald (pc := 44) (sxs_lt (j := 2) hk (by decide)) (sxs_2 g hk) rfl dX5_errs_44 (fun h17 => ?_)
            refine z_aload_n (pc := 45) dX5_errs_45 rfl ?_
            refine z_getr (pc := 46) fdX5_31 (sxs_lt0 hk) (sxs_0 g hk) rfl rfl dX5_errs_46 ?_
            refine z_iload_n (pc := 49) dX5_errs_49 rfl ?_
            refine z_iald (pc := 50) (sxs_lt (j := 2) hk (by decide)) (sxs_2 g hk) rfl dX5_errs_50 (fun h18 => ?_)
            refine z_mmin (pc := 51) kmX5_121 (by decide) (Nat.le_of_ble_eq_true rfl) dX5_errs_51 ?_
            refine z_aload_n (pc := 54) dX5_errs_54 rfl ?_
            refine z_getr (pc := 55) fdX5_43 (sxs_lt0 hk) (sxs_0 g hk) rfl rfl dX5_errs_55 ?_
            refine z_getr (pc := 58) fdX5_124 (nx_lt (by decide)) (sx_2 g) rfl rfl dX5_errs_58 ?_
            refine z_iload_n (pc := 61) dX5_errs_61 rfl ?_
            refine z_iald (pc := 62) (nx_lt (by decide)) (sx_9 g) rfl dX5_errs_62 (fun h19 => ?_)
            refine z_icmp_ge (pc := 63) (tgt := 68) dX5_errs_63 (by decide) (fun c20 => ?_) (fun c21 => ?_)
            · refine z_aload_n (pc := 68) dX5_errs_68 rfl ?_
              refine z_iload_n (pc := 69) dX5_errs_69 rfl ?_
              refine z_iload_n (pc := 70) dX5_errs_70 rfl ?_
              refine z_aload_n (pc := 71) dX5_errs_71 rfl ?_
              refine z_iload_n (pc := 72) dX5_errs_72 rfl ?_
              refine z_callV (As := [.int x1]) (pc := 73) (ret' := some .int) kvX5_127 (t5_questionOf hk _ _) (by decide) (sxs_lt0 hk) (sxs_0 g hk)  rfl rfl (Nat.le_of_ble_eq_true rfl) dX5_errs_73 (fun v22 μ23 => ?_)
              refine z_callV (As := [.int x2, .int x3, .int v22]) (pc := 76) (ret' := some .int) kvX5_92 (t5_apart hk _ _ _ _) (by decide) (sxs_lt0 hk) (sxs_0 g hk)  rfl rfl (Nat.le_of_ble_eq_true rfl) dX5_errs_76 (fun v24 μ25 => ?_)
              refine z_aload_n (pc := 79) dX5_errs_79 rfl ?_
              refine z_geti (pc := 80) fdX5_18 (sxs_lt0 hk) (sxs_0 g hk) rfl dX5_errs_80 ?_
              refine z_let (fun (j : Int32 → zRes) => ∀ (s26 : Int32), zR yX5_errs cX5_errs 4 (some .int) 2 91 [.null, .null, .null, .null] [.int s26] (nX g) (SX g) μ25 (j s26)) ?_ (fun j27 hj27 => ?_)
              · intro s26
                exact z_iret (pc := 91) rfl dX5_errs_91
              · refine z_icmp_ge (pc := 83) (tgt := 90) dX5_errs_83 (by decide) (fun c28 => ?_) (fun c29 => ?_)
                · refine z_iconst (pc := 90) (0 : Int32) dX5_errs_90 (by decide) ?_
                  refine z_loc (L' := [.null, .null, .null, .null]) ⟨Or.inl rfl, ⟨Or.inl rfl, ⟨Or.inl rfl, ⟨Or.inl rfl, trivial⟩⟩⟩⟩ ?_
                  exact hj27 (0 : Int32)
                · refine z_iconst (pc := 86) (5 : Int32) dX5_errs_86 (by decide) ?_
                  refine z_goto (pc := 87) (tgt := 91) dX5_errs_87 (by decide) ?_
                  refine z_loc (L' := [.null, .null, .null, .null]) ⟨Or.inl rfl, ⟨Or.inl rfl, ⟨Or.inl rfl, ⟨Or.inl rfl, trivial⟩⟩⟩⟩ ?_
                  exact hj27 (5 : Int32)
            · refine z_iconst (pc := 66) (4 : Int32) dX5_errs_66 (by decide) ?_
              exact z_iret (pc := 67) rfl dX5_errs_67
          · refine z_loc (L' := [.null, .null, .null, .null]) ⟨Or.inl rfl, ⟨Or.inl rfl, ⟨Or.inl rfl, ⟨Or.inl rfl, trivial⟩⟩⟩⟩ ?_
            exact hj10 μ14
    · refine z_iconst (pc := 18) (2 : Int32) dX5_errs_18 (by decide) ?_
      exact z_iret (pc := 19) rfl dX5_errs_19
  · refine z_iconst (pc := 8) (1 : Int32) dX5_errs_8 (by decide) ?_
    exact z_iret (pc := 9) rfl dX5_errs_9
def f5_copyRows (k : Nat) (k2 : Nat) (μ : zMem) : zRes := zlet (zset μ k 9 (μ k2 9)) (fun (μ1 : zMem) => zlet (zcpy μ1 (k2 + 4) (k + 4) 30) (fun (μ2 : zMem) => some (0, 0, μ2)))
set_option maxHeartbeats 1000000 in
theorem t5_copyRows {g : Bool} {k : Nat} (hk : zSc k) {k2 : Nat} (hk2 : zSc k2) (μ : zMem) : zMR yX5_copyRows cX5_copyRows 2 (none) 1 [.ref k, .ref k2] (nX g) (SX g) μ (f5_copyRows k k2 μ) := by
  refine zMR_of (by decide +kernel) rfl (Nat.le_of_ble_eq_true rfl) (L := [.ref k, .ref k2]) rfl ?_
  unfold f5_copyRows
  refine z_aload_n (pc := 0) dX5_copyRows_0 rfl ?_
  refine z_aload_n (pc := 1) dX5_copyRows_1 rfl ?_
  refine z_geti (pc := 2) fdX5_37 (sxs_lt0 hk2) (sxs_0 g hk2) rfl dX5_copyRows_2 ?_
  refine z_puti (pc := 5) fdX5_37 (sxs_lt0 hk) (sxs_0 g hk) rfl rfl dX5_copyRows_5 ?_
  refine z_mem (fun μ1 => ?_)
  refine z_aload_n (pc := 8) dX5_copyRows_8 rfl ?_
  refine z_getr (pc := 9) fdX5_40 (sxs_lt0 hk2) (sxs_0 g hk2) rfl rfl dX5_copyRows_9 ?_
  refine z_iconst (pc := 12) (0 : Int32) dX5_copyRows_12 (by decide) ?_
  refine z_aload_n (pc := 13) dX5_copyRows_13 rfl ?_
  refine z_getr (pc := 14) fdX5_40 (sxs_lt0 hk) (sxs_0 g hk) rfl rfl dX5_copyRows_14 ?_
  refine z_iconst (pc := 17) (0 : Int32) dX5_copyRows_17 (by decide) ?_
  refine z_bipush (pc := 18) (30 : Int32) dX5_copyRows_18 (by decide) ?_
  refine z_copy (pc := 20) (N := 30) kaX5_52 (by decide) (sxs_lt (j := 4) hk2 (by decide)) (sxs_lt (j := 4) hk (by decide)) (sxs_4 g hk2) (sxs_4 g hk) (by decide) (by decide) (by decide) (by decide) (Nat.le_of_ble_eq_true rfl) dX5_copyRows_20 ?_
  refine z_mem (fun μ2 => ?_)
  exact z_vret (pc := 23) rfl dX5_copyRows_23
def f5_beginDay (k : Nat) (x1 : Int32) (μ : zMem) : zRes := zlet (zset μ k 1 x1) (fun (μ1 : zMem) => bnd0 (f7_slateOf x1 μ1) (fun (v2 : Int32) (μ3 : zMem) => zlet (zset μ3 k 2 v2) (fun (μ4 : zMem) => bnd0 (fJ7_fill_53178 (k + 2) 9 (μ4 2 4) μ4) (fun (v5 : Int32) (μ6 : zMem) => some (0, 0, μ6)))))
set_option maxHeartbeats 1000000 in
theorem t5_beginDay {g : Bool} {k : Nat} (hk : zSc k) (x1 : Int32) (μ : zMem) : zMR yX5_beginDay cX5_beginDay 2 (none) 2 [.ref k, .int x1] (nX g) (SX g) μ (f5_beginDay k x1 μ) := by
  refine zMR_of (by decide +kernel) rfl (Nat.le_of_ble_eq_true rfl) (L := [.ref k, .int x1]) rfl ?_
  unfold f5_beginDay
  refine z_aload_n (pc := 0) dX5_beginDay_0 rfl ?_
  refine z_iload_n (pc := 1) dX5_beginDay_1 rfl ?_
  refine z_puti (pc := 2) fdX5_9 (sxs_lt0 hk) (sxs_0 g hk) rfl rfl dX5_beginDay_2 ?_
  refine z_mem (fun μ1 => ?_)
  refine z_aload_n (pc := 5) dX5_beginDay_5 rfl ?_
  refine z_aload_n (pc := 6) dX5_beginDay_6 rfl ?_
  refine z_getr (pc := 7) fdX5_43 (sxs_lt0 hk) (sxs_0 g hk) rfl rfl dX5_beginDay_7 ?_
  refine z_iload_n (pc := 10) dX5_beginDay_10 rfl ?_
  refine z_callV (As := [.int x1]) (pc := 11) (ret' := some .int) kvX5_63 (t7_slateOf _ _) (by decide) (nx_lt (by decide)) (sx_2 g)  rfl rfl (Nat.le_of_ble_eq_true rfl) dX5_beginDay_11 (fun v2 μ3 => ?_)
  refine z_puti (pc := 14) fdX5_15 (sxs_lt0 hk) (sxs_0 g hk) rfl rfl dX5_beginDay_14 ?_
  refine z_mem (fun μ4 => ?_)
  refine z_aload_n (pc := 17) dX5_beginDay_17 rfl ?_
  refine z_getr (pc := 18) fdX5_31 (sxs_lt0 hk) (sxs_0 g hk) rfl rfl dX5_beginDay_18 ?_
  refine z_aload_n (pc := 21) dX5_beginDay_21 rfl ?_
  refine z_getr (pc := 22) fdX5_43 (sxs_lt0 hk) (sxs_0 g hk) rfl rfl dX5_beginDay_22 ?_
  refine z_geti (pc := 25) fdX5_67 (nx_lt (by decide)) (sx_2 g) rfl dX5_beginDay_25 ?_
  refine z_callS (As := [.ref (k + 2), .int (μ4 2 4)]) (pc := 28) (ret' := none) ksX5_70 (tJ7_fill_53178 (sxs_lt (j := 2) hk (by decide)) (sxs_2 g hk) _ _) (by decide)  rfl rfl (Nat.le_of_ble_eq_true rfl) dX5_beginDay_28 (fun v5 μ6 => ?_)
  exact z_vret (pc := 31) rfl dX5_beginDay_31
def f5_beginAnew (k : Nat) (μ : zMem) : zRes := zlet (zset μ k 3 (μ 2 3)) (fun (μ1 : zMem) => zlet (zset μ1 k 4 (μ1 2 1)) (fun (μ2 : zMem) => zlet (zset μ2 k 5 (0 : Int32)) (fun (μ3 : zMem) => zlet (zcpy μ3 4 (k + 1) 36) (fun (μ4 : zMem) => zlet (zcpy μ4 5 (k + 3) 9) (fun (μ5 : zMem) => zlet (zset μ5 k 9 (0 : Int32)) (fun (μ6 : zMem) => bnd0 (f5_beginDay k (0 : Int32) μ6) (fun (v7 : Int32) (μ8 : zMem) => some (0, 0, μ8))))))))
set_option maxHeartbeats 1000000 in
theorem t5_beginAnew {g : Bool} {k : Nat} (hk : zSc k) (μ : zMem) : zMR yX5_beginAnew cX5_beginAnew 1 (none) 3 [.ref k] (nX g) (SX g) μ (f5_beginAnew k μ) := by
  refine zMR_of (by decide +kernel) rfl (Nat.le_of_ble_eq_true rfl) (L := [.ref k]) rfl ?_
  unfold f5_beginAnew
  refine z_aload_n (pc := 0) dX5_beginAnew_0 rfl ?_
  refine z_aload_n (pc := 1) dX5_beginAnew_1 rfl ?_
  refine z_getr (pc := 2) fdX5_43 (sxs_lt0 hk) (sxs_0 g hk) rfl rfl dX5_beginAnew_2 ?_
  refine z_geti (pc := 5) fdX5_47 (nx_lt (by decide)) (sx_2 g) rfl dX5_beginAnew_5 ?_
  refine z_puti (pc := 8) fdX5_18 (sxs_lt0 hk) (sxs_0 g hk) rfl rfl dX5_beginAnew_8 ?_
  refine z_mem (fun μ1 => ?_)
  refine z_aload_n (pc := 11) dX5_beginAnew_11 rfl ?_
  refine z_aload_n (pc := 12) dX5_beginAnew_12 rfl ?_
  refine z_getr (pc := 13) fdX5_43 (sxs_lt0 hk) (sxs_0 g hk) rfl rfl dX5_beginAnew_13 ?_
  refine z_geti (pc := 16) fdX5_50 (nx_lt (by decide)) (sx_2 g) rfl dX5_beginAnew_16 ?_
  refine z_puti (pc := 19) fdX5_21 (sxs_lt0 hk) (sxs_0 g hk) rfl rfl dX5_beginAnew_19 ?_
  refine z_mem (fun μ2 => ?_)
  refine z_aload_n (pc := 22) dX5_beginAnew_22 rfl ?_
  refine z_iconst (pc := 23) (0 : Int32) dX5_beginAnew_23 (by decide) ?_
  refine z_puti (pc := 24) fdX5_24 (sxs_lt0 hk) (sxs_0 g hk) rfl rfl dX5_beginAnew_24 ?_
  refine z_mem (fun μ3 => ?_)
  refine z_aload_n (pc := 27) dX5_beginAnew_27 rfl ?_
  refine z_getr (pc := 28) fdX5_43 (sxs_lt0 hk) (sxs_0 g hk) rfl rfl dX5_beginAnew_28 ?_
  refine z_getr (pc := 31) fdX5_51 (nx_lt (by decide)) (sx_2 g) rfl rfl dX5_beginAnew_31 ?_
  refine z_iconst (pc := 34) (0 : Int32) dX5_beginAnew_34 (by decide) ?_
  refine z_aload_n (pc := 35) dX5_beginAnew_35 rfl ?_
  refine z_getr (pc := 36) fdX5_27 (sxs_lt0 hk) (sxs_0 g hk) rfl rfl dX5_beginAnew_36 ?_
  refine z_iconst (pc := 39) (0 : Int32) dX5_beginAnew_39 (by decide) ?_
  refine z_bipush (pc := 40) (36 : Int32) dX5_beginAnew_40 (by decide) ?_
  refine z_copy (pc := 42) (N := 36) kaX5_52 (by decide) (nx_lt (by decide)) (sxs_lt (j := 1) hk (by decide)) (sx_4 g) (sxs_1 g hk) (by decide) (by decide) (by decide) (by decide) (Nat.le_of_ble_eq_true rfl) dX5_beginAnew_42 ?_
  refine z_mem (fun μ4 => ?_)
  refine z_aload_n (pc := 45) dX5_beginAnew_45 rfl ?_
  refine z_getr (pc := 46) fdX5_43 (sxs_lt0 hk) (sxs_0 g hk) rfl rfl dX5_beginAnew_46 ?_
  refine z_getr (pc := 49) fdX5_58 (nx_lt (by decide)) (sx_2 g) rfl rfl dX5_beginAnew_49 ?_
  refine z_iconst (pc := 52) (0 : Int32) dX5_beginAnew_52 (by decide) ?_
  refine z_aload_n (pc := 53) dX5_beginAnew_53 rfl ?_
  refine z_getr (pc := 54) fdX5_34 (sxs_lt0 hk) (sxs_0 g hk) rfl rfl dX5_beginAnew_54 ?_
  refine z_iconst (pc := 57) (0 : Int32) dX5_beginAnew_57 (by decide) ?_
  refine z_bipush (pc := 58) (9 : Int32) dX5_beginAnew_58 (by decide) ?_
  refine z_copy (pc := 60) (N := 9) kaX5_52 (by decide) (nx_lt (by decide)) (sxs_lt (j := 3) hk (by decide)) (sx_5 g) (sxs_3 g hk) (by decide) (by decide) (by decide) (by decide) (Nat.le_of_ble_eq_true rfl) dX5_beginAnew_60 ?_
  refine z_mem (fun μ5 => ?_)
  refine z_aload_n (pc := 63) dX5_beginAnew_63 rfl ?_
  refine z_iconst (pc := 64) (0 : Int32) dX5_beginAnew_64 (by decide) ?_
  refine z_puti (pc := 65) fdX5_37 (sxs_lt0 hk) (sxs_0 g hk) rfl rfl dX5_beginAnew_65 ?_
  refine z_mem (fun μ6 => ?_)
  refine z_aload_n (pc := 68) dX5_beginAnew_68 rfl ?_
  refine z_iconst (pc := 69) (0 : Int32) dX5_beginAnew_69 (by decide) ?_
  refine z_callV (As := [.int (0 : Int32)]) (pc := 70) (ret' := none) kvX5_59 (t5_beginDay hk _ _) (by decide) (sxs_lt0 hk) (sxs_0 g hk)  rfl rfl (Nat.le_of_ble_eq_true rfl) dX5_beginAnew_70 (fun v7 μ8 => ?_)
  exact z_vret (pc := 73) rfl dX5_beginAnew_73
def f5_thought (k : Nat) (x1 : Int32) (x2 : Int32) (μ : zMem) : zRes := zin ((x1 * (4 : Int32)) + x2) 36 (some (0, μ (k + 1) ((x1 * (4 : Int32)) + x2).toNatClampNeg, μ))
set_option maxHeartbeats 1000000 in
theorem t5_thought {g : Bool} {k : Nat} (hk : zSc k) (x1 : Int32) (x2 : Int32) (μ : zMem) : zMR yX5_thought cX5_thought 3 (some .int) 1 [.ref k, .int x1, .int x2] (nX g) (SX g) μ (f5_thought k x1 x2 μ) := by
  refine zMR_of (by decide +kernel) rfl (Nat.le_of_ble_eq_true rfl) (L := [.ref k, .int x1, .int x2]) rfl ?_
  unfold f5_thought
  refine z_aload_n (pc := 0) dX5_thought_0 rfl ?_
  refine z_getr (pc := 1) fdX5_27 (sxs_lt0 hk) (sxs_0 g hk) rfl rfl dX5_thought_1 ?_
  refine z_iload_n (pc := 4) dX5_thought_4 rfl ?_
  refine z_iconst (pc := 5) (4 : Int32) dX5_thought_5 (by decide) ?_
  refine z_imul (pc := 6) dX5_thought_6 ?_
  refine z_iload_n (pc := 7) dX5_thought_7 rfl ?_
  refine z_iadd (pc := 8) dX5_thought_8 ?_
  refine z_iald (pc := 9) (sxs_lt (j := 1) hk (by decide)) (sxs_1 g hk) rfl dX5_thought_9 (fun h1 => ?_)
  exact z_iret (pc := 10) rfl dX5_thought_10
def f5_putThought (k : Nat) (x1 : Int32) (x2 : Int32) (x3 : Int32) (μ : zMem) : zRes := zin ((x1 * (4 : Int32)) + x2) 36 (zlet (zset μ (k + 1) ((x1 * (4 : Int32)) + x2).toNatClampNeg x3) (fun (μ2 : zMem) => some (0, 0, μ2)))
set_option maxHeartbeats 1000000 in
theorem t5_putThought {g : Bool} {k : Nat} (hk : zSc k) (x1 : Int32) (x2 : Int32) (x3 : Int32) (μ : zMem) : zMR yX5_putThought cX5_putThought 4 (none) 1 [.ref k, .int x1, .int x2, .int x3] (nX g) (SX g) μ (f5_putThought k x1 x2 x3 μ) := by
  refine zMR_of (by decide +kernel) rfl (Nat.le_of_ble_eq_true rfl) (L := [.ref k, .int x1, .int x2, .int x3]) rfl ?_
  unfold f5_putThought
  refine z_aload_n (pc := 0) dX5_putThought_0 rfl ?_
  refine z_getr (pc := 1) fdX5_27 (sxs_lt0 hk) (sxs_0 g hk) rfl rfl dX5_putThought_1 ?_
  refine z_iload_n (pc := 4) dX5_putThought_4 rfl ?_
  refine z_iconst (pc := 5) (4 : Int32) dX5_putThought_5 (by decide) ?_
  refine z_imul (pc := 6) dX5_putThought_6 ?_
  refine z_iload_n (pc := 7) dX5_putThought_7 rfl ?_
  refine z_iadd (pc := 8) dX5_putThought_8 ?_
  refine z_iload_n (pc := 9) dX5_putThought_9 rfl ?_
  refine z_iast (pc := 10) (sxs_lt (j := 1) hk (by decide)) (sxs_1 g hk) rfl dX5_putThought_10 (fun h1 => ?_)
  refine z_mem (fun μ2 => ?_)
  exact z_vret (pc := 11) rfl dX5_putThought_11
def f5_doWork (k : Nat) (x1 : Int32) (x2 : Int32) (x3 : Int32) (μ : zMem) : zRes := bnd0 (f5_questionOf k x1 μ) (fun (v1 : Int32) (μ2 : zMem) => bnd0 (f5_thought k x2 v1 μ2) (fun (v3 : Int32) (μ4 : zMem) => bnd0 (f5_thought k x3 v1 μ4) (fun (v5 : Int32) (μ6 : zMem) => zlet (fun (s7 : Int32) => zlet (fun (s8 : Int32) => zlet (fun (s9 : Int32) => bnd0 (f5_thought k s8 v1 μ6) (fun (v10 : Int32) (μ11 : zMem) => bnd0 (f5_thought k s9 v1 μ11) (fun (v12 : Int32) (μ13 : zMem) => zin s8 9 (zin s9 9 (bnd0 (f8_lesserBehind v10 v12 (μ13 (k + 3) s8.toNatClampNeg) (μ13 (k + 3) s9.toNatClampNeg) μ13) (fun (v16 : Int32) (μ17 : zMem) => bnd0 (f5_putThought k s8 v1 v16 μ17) (fun (v18 : Int32) (μ19 : zMem) => zin s8 9 (zin s9 9 (bnd0 (f8_greaterBehind v10 v12 (μ19 (k + 3) s8.toNatClampNeg) (μ19 (k + 3) s9.toNatClampNeg) μ19) (fun (v22 : Int32) (μ23 : zMem) => bnd0 (f5_putThought k s9 v1 v22 μ23) (fun (v24 : Int32) (μ25 : zMem) => zin x2 9 (zin x1 10 (zin x2 9 (zlet (zset μ25 (k + 2) x2.toNatClampNeg ((μ25 (k + 2) x2.toNatClampNeg) - (μ25 9 x1.toNatClampNeg))) (fun (μ29 : zMem) => zin x3 9 (zin x1 10 (zin x3 9 (zlet (zset μ29 (k + 2) x3.toNatClampNeg ((μ29 (k + 2) x3.toNatClampNeg) - (μ29 9 x1.toNatClampNeg))) (fun (μ33 : zMem) => zlet (zset μ33 k 5 ((μ33 k 5) ||| (zshl (1 : Int32) x1))) (fun (μ34 : zMem) => bnd0 (f5_apart k x2 x3 v1 μ34) (fun (v35 : Int32) (μ36 : zMem) => some (0, v35, μ36)))))))))))))))))))))) (fun j37 => if s7 = 0 then j37 x2 else j37 x3)) (fun j40 => if s7 = 0 then j40 x3 else j40 x2)) (fun j43 => if v5 < v3 then j43 (0 : Int32) else j43 (1 : Int32)))))
set_option maxHeartbeats 1000000 in
theorem t5_doWork {g : Bool} {k : Nat} (hk : zSc k) (x1 : Int32) (x2 : Int32) (x3 : Int32) (μ : zMem) : zMR yX5_doWork cX5_doWork 10 (some .int) 3 [.ref k, .int x1, .int x2, .int x3] (nX g) (SX g) μ (f5_doWork k x1 x2 x3 μ) := by
  refine zMR_of (by decide +kernel) rfl (Nat.le_of_ble_eq_true rfl) (L := [.ref k, .int x1, .int x2, .int x3, .null, .null, .null, .null, .null, .null]) rfl ?_
  unfold f5_doWork
  refine z_aload_n (pc := 0) dX5_doWork_0 rfl ?_
  refine z_iload_n (pc := 1) dX5_doWork_1 rfl ?_
  refine z_callV (As := [.int x1]) (pc := 2) (ret' := some .int) kvX5_127 (t5_questionOf hk _ _) (by decide) (sxs_lt0 hk) (sxs_0 g hk)  rfl rfl (Nat.le_of_ble_eq_true rfl) dX5_doWork_2 (fun v1 μ2 => ?_)
  refine z_istore (pc := 5) (L' := [.ref k, .int x1, .int x2, .int x3, .int v1, .null, .null, .null, .null, .null]) dX5_doWork_5 (by decide) rfl ?_
  refine z_aload_n (pc := 7) dX5_doWork_7 rfl ?_
  refine z_iload_n (pc := 8) dX5_doWork_8 rfl ?_
  refine z_iload (pc := 9) dX5_doWork_9 rfl ?_
  refine z_callV (As := [.int x2, .int v1]) (pc := 11) (ret' := some .int) kvX5_96 (t5_thought hk _ _ _) (by decide) (sxs_lt0 hk) (sxs_0 g hk)  rfl rfl (Nat.le_of_ble_eq_true rfl) dX5_doWork_11 (fun v3 μ4 => ?_)
  refine z_aload_n (pc := 14) dX5_doWork_14 rfl ?_
  refine z_iload_n (pc := 15) dX5_doWork_15 rfl ?_
  refine z_iload (pc := 16) dX5_doWork_16 rfl ?_
  refine z_callV (As := [.int x3, .int v1]) (pc := 18) (ret' := some .int) kvX5_96 (t5_thought hk _ _ _) (by decide) (sxs_lt0 hk) (sxs_0 g hk)  rfl rfl (Nat.le_of_ble_eq_true rfl) dX5_doWork_18 (fun v5 μ6 => ?_)
  refine z_let (fun (j : Int32 → zRes) => ∀ (s7 : Int32), zR yX5_doWork cX5_doWork 10 (some .int) 3 29 [.ref k, .int x1, .int x2, .int x3, .int v1, .null, .null, .null, .null, .null] [.int s7] (nX g) (SX g) μ6 (j s7)) ?_ (fun j43 hj43 => ?_)
  · intro s7
    refine z_istore (pc := 29) (L' := [.ref k, .int x1, .int x2, .int x3, .int v1, .int s7, .null, .null, .null, .null]) dX5_doWork_29 (by decide) rfl ?_
    refine z_iload (pc := 31) dX5_doWork_31 rfl ?_
    refine z_let (fun (j : Int32 → zRes) => ∀ (s8 : Int32), zR yX5_doWork cX5_doWork 10 (some .int) 3 41 [.ref k, .int x1, .int x2, .int x3, .int v1, .int s7, .null, .null, .null, .null] [.int s8] (nX g) (SX g) μ6 (j s8)) ?_ (fun j40 hj40 => ?_)
    · intro s8
      refine z_istore (pc := 41) (L' := [.ref k, .int x1, .int x2, .int x3, .int v1, .int s7, .int s8, .null, .null, .null]) dX5_doWork_41 (by decide) rfl ?_
      refine z_iload (pc := 43) dX5_doWork_43 rfl ?_
      refine z_let (fun (j : Int32 → zRes) => ∀ (s9 : Int32), zR yX5_doWork cX5_doWork 10 (some .int) 3 53 [.ref k, .int x1, .int x2, .int x3, .int v1, .null, .int s8, .null, .null, .null] [.int s9] (nX g) (SX g) μ6 (j s9)) ?_ (fun j37 hj37 => ?_)
      · intro s9
        refine z_istore (pc := 53) (L' := [.ref k, .int x1, .int x2, .int x3, .int v1, .null, .int s8, .int s9, .null, .null]) dX5_doWork_53 (by decide) rfl ?_
        refine z_aload_n (pc := 55) dX5_doWork_55 rfl ?_
        refine z_iload (pc := 56) dX5_doWork_56 rfl ?_
        refine z_iload (pc := 58) dX5_doWork_58 rfl ?_
        refine z_callV (As := [.int s8, .int v1]) (pc := 60) (ret' := some .int) kvX5_96 (t5_thought hk _ _ _) (by decide) (sxs_lt0 hk) (sxs_0 g hk)  rfl rfl (Nat.le_of_ble_eq_true rfl) dX5_doWork_60 (fun v10 μ11 => ?_)
        refine z_istore (pc := 63) (L' := [.ref k, .int x1, .int x2, .int x3, .int v1, .null, .int s8, .int s9, .int v10, .null]) dX5_doWork_63 (by decide) rfl ?_
        refine z_aload_n (pc := 65) dX5_doWork_65 rfl ?_
        refine z_iload (pc := 66) dX5_doWork_66 rfl ?_
        refine z_iload (pc := 68) dX5_doWork_68 rfl ?_
        refine z_callV (As := [.int s9, .int v1]) (pc := 70) (ret' := some .int) kvX5_96 (t5_thought hk _ _ _) (by decide) (sxs_lt0 hk) (sxs_0 g hk)  rfl rfl (Nat.le_of_ble_eq_true rfl) dX5_doWork_70 (fun v12 μ13 => ?_)
        refine z_istore (pc := 73) (L' := [.ref k, .int x1, .int x2, .int x3, .int v1, .null, .int s8, .int s9, .int v10, .int v12]) dX5_doWork_73 (by decide) rfl ?_
        refine z_aload_n (pc := 75) dX5_doWork_75 rfl ?_
        refine z_iload (pc := 76) dX5_doWork_76 rfl ?_
        refine z_iload (pc := 78) dX5_doWork_78 rfl ?_
        refine z_iload (pc := 80) dX5_doWork_80 rfl ?_
        refine z_iload (pc := 82) dX5_doWork_82 rfl ?_
        refine z_aload_n (pc := 84) dX5_doWork_84 rfl ?_
        refine z_getr (pc := 85) fdX5_34 (sxs_lt0 hk) (sxs_0 g hk) rfl rfl dX5_doWork_85 ?_
        refine z_iload (pc := 88) dX5_doWork_88 rfl ?_
        refine z_iald (pc := 90) (sxs_lt (j := 3) hk (by decide)) (sxs_3 g hk) rfl dX5_doWork_90 (fun h14 => ?_)
        refine z_aload_n (pc := 91) dX5_doWork_91 rfl ?_
        refine z_getr (pc := 92) fdX5_34 (sxs_lt0 hk) (sxs_0 g hk) rfl rfl dX5_doWork_92 ?_
        refine z_iload (pc := 95) dX5_doWork_95 rfl ?_
        refine z_iald (pc := 97) (sxs_lt (j := 3) hk (by decide)) (sxs_3 g hk) rfl dX5_doWork_97 (fun h15 => ?_)
        refine z_callS (As := [.int v10, .int v12, .int (μ13 (k + 3) s8.toNatClampNeg), .int (μ13 (k + 3) s9.toNatClampNeg)]) (pc := 98) (ret' := some .int) ksX5_130 (t8_lesserBehind _ _ _ _ _) (by decide)  rfl rfl (Nat.le_of_ble_eq_true rfl) dX5_doWork_98 (fun v16 μ17 => ?_)
        refine z_callV (As := [.int s8, .int v1, .int v16]) (pc := 101) (ret' := none) kvX5_79 (t5_putThought hk _ _ _ _) (by decide) (sxs_lt0 hk) (sxs_0 g hk)  rfl rfl (Nat.le_of_ble_eq_true rfl) dX5_doWork_101 (fun v18 μ19 => ?_)
        refine z_aload_n (pc := 104) dX5_doWork_104 rfl ?_
        refine z_iload (pc := 105) dX5_doWork_105 rfl ?_
        refine z_iload (pc := 107) dX5_doWork_107 rfl ?_
        refine z_iload (pc := 109) dX5_doWork_109 rfl ?_
        refine z_iload (pc := 111) dX5_doWork_111 rfl ?_
        refine z_aload_n (pc := 113) dX5_doWork_113 rfl ?_
        refine z_getr (pc := 114) fdX5_34 (sxs_lt0 hk) (sxs_0 g hk) rfl rfl dX5_doWork_114 ?_
        refine z_iload (pc := 117) dX5_doWork_117 rfl ?_
        refine z_iald (pc := 119) (sxs_lt (j := 3) hk (by decide)) (sxs_3 g hk) rfl dX5_doWork_119 (fun h20 => ?_)
        refine z_aload_n (pc := 120) dX5_doWork_120 rfl ?_
        refine z_getr (pc := 121) fdX5_34 (sxs_lt0 hk) (sxs_0 g hk) rfl rfl dX5_doWork_121 ?_
        refine z_iload (pc := 124) dX5_doWork_124 rfl ?_
        refine z_iald (pc := 126) (sxs_lt (j := 3) hk (by decide)) (sxs_3 g hk) rfl dX5_doWork_126 (fun h21 => ?_)
        refine z_callS (As := [.int v10, .int v12, .int (μ19 (k + 3) s8.toNatClampNeg), .int (μ19 (k + 3) s9.toNatClampNeg)]) (pc := 127) (ret' := some .int) ksX5_134 (t8_greaterBehind _ _ _ _ _) (by decide)  rfl rfl (Nat.le_of_ble_eq_true rfl) dX5_doWork_127 (fun v22 μ23 => ?_)
        refine z_callV (As := [.int s9, .int v1, .int v22]) (pc := 130) (ret' := none) kvX5_79 (t5_putThought hk _ _ _ _) (by decide) (sxs_lt0 hk) (sxs_0 g hk)  rfl rfl (Nat.le_of_ble_eq_true rfl) dX5_doWork_130 (fun v24 μ25 => ?_)
        refine z_aload_n (pc := 133) dX5_doWork_133 rfl ?_
        refine z_getr (pc := 134) fdX5_31 (sxs_lt0 hk) (sxs_0 g hk) rfl rfl dX5_doWork_134 ?_
        refine z_iload_n (pc := 137) dX5_doWork_137 rfl ?_
        refine z_dup2 (pc := 138) dX5_doWork_138 rfl rfl ?_
        refine z_iald (pc := 139) (sxs_lt (j := 2) hk (by decide)) (sxs_2 g hk) rfl dX5_doWork_139 (fun h26 => ?_)
        refine z_aload_n (pc := 140) dX5_doWork_140 rfl ?_
        refine z_getr (pc := 141) fdX5_43 (sxs_lt0 hk) (sxs_0 g hk) rfl rfl dX5_doWork_141 ?_
        refine z_getr (pc := 144) fdX5_124 (nx_lt (by decide)) (sx_2 g) rfl rfl dX5_doWork_144 ?_
        refine z_iload_n (pc := 147) dX5_doWork_147 rfl ?_
        refine z_iald (pc := 148) (nx_lt (by decide)) (sx_9 g) rfl dX5_doWork_148 (fun h27 => ?_)
        refine z_isub (pc := 149) dX5_doWork_149 ?_
        refine z_iast (pc := 150) (sxs_lt (j := 2) hk (by decide)) (sxs_2 g hk) rfl dX5_doWork_150 (fun h28 => ?_)
        refine z_mem (fun μ29 => ?_)
        refine z_aload_n (pc := 151) dX5_doWork_151 rfl ?_
        refine z_getr (pc := 152) fdX5_31 (sxs_lt0 hk) (sxs_0 g hk) rfl rfl dX5_doWork_152 ?_
        refine z_iload_n (pc := 155) dX5_doWork_155 rfl ?_
        refine z_dup2 (pc := 156) dX5_doWork_156 rfl rfl ?_
        refine z_iald (pc := 157) (sxs_lt (j := 2) hk (by decide)) (sxs_2 g hk) rfl dX5_doWork_157 (fun h30 => ?_)
        refine z_aload_n (pc := 158) dX5_doWork_158 rfl ?_
        refine z_getr (pc := 159) fdX5_43 (sxs_lt0 hk) (sxs_0 g hk) rfl rfl dX5_doWork_159 ?_
        refine z_getr (pc := 162) fdX5_124 (nx_lt (by decide)) (sx_2 g) rfl rfl dX5_doWork_162 ?_
        refine z_iload_n (pc := 165) dX5_doWork_165 rfl ?_
        refine z_iald (pc := 166) (nx_lt (by decide)) (sx_9 g) rfl dX5_doWork_166 (fun h31 => ?_)
        refine z_isub (pc := 167) dX5_doWork_167 ?_
        refine z_iast (pc := 168) (sxs_lt (j := 2) hk (by decide)) (sxs_2 g hk) rfl dX5_doWork_168 (fun h32 => ?_)
        refine z_mem (fun μ33 => ?_)
        refine z_aload_n (pc := 169) dX5_doWork_169 rfl ?_
        refine z_dup (pc := 170) dX5_doWork_170 rfl ?_
        refine z_geti (pc := 171) fdX5_24 (sxs_lt0 hk) (sxs_0 g hk) rfl dX5_doWork_171 ?_
        refine z_iconst (pc := 174) (1 : Int32) dX5_doWork_174 (by decide) ?_
        refine z_iload_n (pc := 175) dX5_doWork_175 rfl ?_
        refine z_ishl (pc := 176) dX5_doWork_176 ?_
        refine z_ior (pc := 177) dX5_doWork_177 ?_
        refine z_puti (pc := 178) fdX5_24 (sxs_lt0 hk) (sxs_0 g hk) rfl rfl dX5_doWork_178 ?_
        refine z_mem (fun μ34 => ?_)
        refine z_aload_n (pc := 181) dX5_doWork_181 rfl ?_
        refine z_iload_n (pc := 182) dX5_doWork_182 rfl ?_
        refine z_iload_n (pc := 183) dX5_doWork_183 rfl ?_
        refine z_iload (pc := 184) dX5_doWork_184 rfl ?_
        refine z_callV (As := [.int x2, .int x3, .int v1]) (pc := 186) (ret' := some .int) kvX5_92 (t5_apart hk _ _ _ _) (by decide) (sxs_lt0 hk) (sxs_0 g hk)  rfl rfl (Nat.le_of_ble_eq_true rfl) dX5_doWork_186 (fun v35 μ36 => ?_)
        exact z_iret (pc := 189) rfl dX5_doWork_189
      · refine z_if_eq (pc := 45) (tgt := 52) dX5_doWork_45 (by decide) (fun c38 => ?_) (fun c39 => ?_)
        · refine z_iload_n (pc := 52) dX5_doWork_52 rfl ?_
          refine z_loc (L' := [.ref k, .int x1, .int x2, .int x3, .int v1, .null, .int s8, .null, .null, .null]) ⟨Or.inr rfl, ⟨Or.inr rfl, ⟨Or.inr rfl, ⟨Or.inr rfl, ⟨Or.inr rfl, ⟨Or.inl rfl, ⟨Or.inr rfl, ⟨Or.inl rfl, ⟨Or.inl rfl, ⟨Or.inl rfl, trivial⟩⟩⟩⟩⟩⟩⟩⟩⟩⟩ ?_
          exact hj37 x2
        · refine z_iload_n (pc := 48) dX5_doWork_48 rfl ?_
          refine z_goto (pc := 49) (tgt := 53) dX5_doWork_49 (by decide) ?_
          refine z_loc (L' := [.ref k, .int x1, .int x2, .int x3, .int v1, .null, .int s8, .null, .null, .null]) ⟨Or.inr rfl, ⟨Or.inr rfl, ⟨Or.inr rfl, ⟨Or.inr rfl, ⟨Or.inr rfl, ⟨Or.inl rfl, ⟨Or.inr rfl, ⟨Or.inl rfl, ⟨Or.inl rfl, ⟨Or.inl rfl, trivial⟩⟩⟩⟩⟩⟩⟩⟩⟩⟩ ?_
          exact hj37 x3
    · refine z_if_eq (pc := 33) (tgt := 40) dX5_doWork_33 (by decide) (fun c41 => ?_) (fun c42 => ?_)
      · refine z_iload_n (pc := 40) dX5_doWork_40 rfl ?_
        exact hj40 x3
      · refine z_iload_n (pc := 36) dX5_doWork_36 rfl ?_
        refine z_goto (pc := 37) (tgt := 41) dX5_doWork_37 (by decide) ?_
        exact hj40 x2
  · refine z_icmp_gt (pc := 21) (tgt := 28) dX5_doWork_21 (by decide) (fun c44 => ?_) (fun c45 => ?_)
    · refine z_iconst (pc := 28) (0 : Int32) dX5_doWork_28 (by decide) ?_
      exact hj43 (0 : Int32)
    · refine z_iconst (pc := 24) (1 : Int32) dX5_doWork_24 (by decide) ?_
      refine z_goto (pc := 25) (tgt := 29) dX5_doWork_25 (by decide) ?_
      exact hj43 (1 : Int32)
def f5_stepTo (k : Nat) (x1 : Int32) (x2 : Int32) (x3 : Int32) (μ : zMem) : zRes := bnd0 (f5_thought k x2 x3 μ) (fun (v1 : Int32) (μ2 : zMem) => bnd0 (f5_thought k x1 x3 μ2) (fun (v3 : Int32) (μ4 : zMem) => bnd0 (fJ6_compare_7cf53 v1 v3 μ4) (fun (v5 : Int32) (μ6 : zMem) => some (0, v5, μ6))))
set_option maxHeartbeats 1000000 in
theorem t5_stepTo {g : Bool} {k : Nat} (hk : zSc k) (x1 : Int32) (x2 : Int32) (x3 : Int32) (μ : zMem) : zMR yX5_stepTo cX5_stepTo 4 (some .int) 2 [.ref k, .int x1, .int x2, .int x3] (nX g) (SX g) μ (f5_stepTo k x1 x2 x3 μ) := by
  refine zMR_of (by decide +kernel) rfl (Nat.le_of_ble_eq_true rfl) (L := [.ref k, .int x1, .int x2, .int x3]) rfl ?_
  unfold f5_stepTo
  refine z_aload_n (pc := 0) dX5_stepTo_0 rfl ?_
  refine z_iload_n (pc := 1) dX5_stepTo_1 rfl ?_
  refine z_iload_n (pc := 2) dX5_stepTo_2 rfl ?_
  refine z_callV (As := [.int x2, .int x3]) (pc := 3) (ret' := some .int) kvX5_96 (t5_thought hk _ _ _) (by decide) (sxs_lt0 hk) (sxs_0 g hk)  rfl rfl (Nat.le_of_ble_eq_true rfl) dX5_stepTo_3 (fun v1 μ2 => ?_)
  refine z_aload_n (pc := 6) dX5_stepTo_6 rfl ?_
  refine z_iload_n (pc := 7) dX5_stepTo_7 rfl ?_
  refine z_iload_n (pc := 8) dX5_stepTo_8 rfl ?_
  refine z_callV (As := [.int x1, .int x3]) (pc := 9) (ret' := some .int) kvX5_96 (t5_thought hk _ _ _) (by decide) (sxs_lt0 hk) (sxs_0 g hk)  rfl rfl (Nat.le_of_ble_eq_true rfl) dX5_stepTo_9 (fun v3 μ4 => ?_)
  refine z_callS (As := [.int v1, .int v3]) (pc := 12) (ret' := some .int) ksX5_100 (tJ6_compare_7cf53 _ _ _) (by decide)  rfl rfl (Nat.le_of_ble_eq_true rfl) dX5_stepTo_12 (fun v5 μ6 => ?_)
  exact z_iret (pc := 15) rfl dX5_stepTo_15
def f5_stepTowards (k : Nat) (x1 : Int32) (x2 : Int32) (x3 : Int32) (μ : zMem) : zRes := bnd0 (f5_thought k x1 x3 μ) (fun (v1 : Int32) (μ2 : zMem) => bnd0 (f5_stepTo k x1 x2 x3 μ2) (fun (v3 : Int32) (μ4 : zMem) => bnd0 (f5_putThought k x1 x3 (v1 + v3) μ4) (fun (v5 : Int32) (μ6 : zMem) => some (0, 0, μ6))))
set_option maxHeartbeats 1000000 in
theorem t5_stepTowards {g : Bool} {k : Nat} (hk : zSc k) (x1 : Int32) (x2 : Int32) (x3 : Int32) (μ : zMem) : zMR yX5_stepTowards cX5_stepTowards 4 (none) 3 [.ref k, .int x1, .int x2, .int x3] (nX g) (SX g) μ (f5_stepTowards k x1 x2 x3 μ) := by
  refine zMR_of (by decide +kernel) rfl (Nat.le_of_ble_eq_true rfl) (L := [.ref k, .int x1, .int x2, .int x3]) rfl ?_
  unfold f5_stepTowards
  refine z_aload_n (pc := 0) dX5_stepTowards_0 rfl ?_
  refine z_iload_n (pc := 1) dX5_stepTowards_1 rfl ?_
  refine z_iload_n (pc := 2) dX5_stepTowards_2 rfl ?_
  refine z_aload_n (pc := 3) dX5_stepTowards_3 rfl ?_
  refine z_iload_n (pc := 4) dX5_stepTowards_4 rfl ?_
  refine z_iload_n (pc := 5) dX5_stepTowards_5 rfl ?_
  refine z_callV (As := [.int x1, .int x3]) (pc := 6) (ret' := some .int) kvX5_96 (t5_thought hk _ _ _) (by decide) (sxs_lt0 hk) (sxs_0 g hk)  rfl rfl (Nat.le_of_ble_eq_true rfl) dX5_stepTowards_6 (fun v1 μ2 => ?_)
  refine z_aload_n (pc := 9) dX5_stepTowards_9 rfl ?_
  refine z_iload_n (pc := 10) dX5_stepTowards_10 rfl ?_
  refine z_iload_n (pc := 11) dX5_stepTowards_11 rfl ?_
  refine z_iload_n (pc := 12) dX5_stepTowards_12 rfl ?_
  refine z_callV (As := [.int x1, .int x2, .int x3]) (pc := 13) (ret' := some .int) kvX5_105 (t5_stepTo hk _ _ _ _) (by decide) (sxs_lt0 hk) (sxs_0 g hk)  rfl rfl (Nat.le_of_ble_eq_true rfl) dX5_stepTowards_13 (fun v3 μ4 => ?_)
  refine z_iadd (pc := 16) dX5_stepTowards_16 ?_
  refine z_callV (As := [.int x1, .int x3, .int (v1 + v3)]) (pc := 17) (ret' := none) kvX5_79 (t5_putThought hk _ _ _ _) (by decide) (sxs_lt0 hk) (sxs_0 g hk)  rfl rfl (Nat.le_of_ble_eq_true rfl) dX5_stepTowards_17 (fun v5 μ6 => ?_)
  exact z_vret (pc := 20) rfl dX5_stepTowards_20
def f5_addStranger_L15 (k : Nat) (K52 : zMem → zRes) : Nat → Int32 → Int32 → zMem → zRes
  | 0, _, _, _ => none
  | n + 1, x3, x4, μ => if (μ 2 0) ≤ x4 then K52 μ else bnd0 (f5_putThought k (μ k 4) x4 (zrem x3 (10 : Int32)) μ) (fun (v5 : Int32) (μ6 : zMem) => zlet (x3 / (10 : Int32)) (fun (v7 : Int32) => f5_addStranger_L15 k K52 n v7 (x4 + (1 : Int32)) μ6))
def f5_addStranger (k : Nat) (x1 : Int32) (x2 : Int32) (μ : zMem) : zRes := if (μ k 4) < (9 : Int32) then f5_addStranger_L15 k (fun (μ8 : zMem) => zin (μ8 k 4) 9 (zlet (zset μ8 (k + 2) (μ8 k 4).toNatClampNeg (μ8 2 4)) (fun (μ10 : zMem) => zin (μ10 k 4) 9 (zlet (zset μ10 (k + 3) (μ10 k 4).toNatClampNeg x2) (fun (μ12 : zMem) => zlet (zset μ12 k 4 ((μ12 k 4) + (1 : Int32))) (fun (μ13 : zMem) => some (0, 0, μ13))))))) zF x1 (0 : Int32) μ else some (0, 0, μ)
set_option maxHeartbeats 1000000 in
theorem t5_addStranger_L15 {g : Bool} {k : Nat} (hk : zSc k) (x2 : Int32) (K52 : zMem → zRes) (hK52 : ∀ (μ : zMem), zR yX5_addStranger cX5_addStranger 5 (none) 2 52 [.ref k, .null, .int x2, .null, .null] [] (nX g) (SX g) μ (K52 μ)) : ∀ (n : Nat) (x3 : Int32) (x4 : Int32) (μ : zMem), zR yX5_addStranger cX5_addStranger 5 (none) 2 15 [.ref k, .null, .int x2, .int x3, .int x4] [] (nX g) (SX g) μ (f5_addStranger_L15 k K52 n x3 x4 μ) := by
  intro n
  induction n with
  | zero => intro x3 x4 μ; intro q hq; cases hq
  | succ n ih =>
    intro x3 x4 μ
    unfold f5_addStranger_L15
    refine z_iload (pc := 15) dX5_addStranger_15 rfl ?_
    refine z_aload_n (pc := 17) dX5_addStranger_17 rfl ?_
    refine z_getr (pc := 18) fdX5_43 (sxs_lt0 hk) (sxs_0 g hk) rfl rfl dX5_addStranger_18 ?_
    refine z_geti (pc := 21) fdX5_76 (nx_lt (by decide)) (sx_2 g) rfl dX5_addStranger_21 ?_
    refine z_icmp_ge (pc := 24) (tgt := 52) dX5_addStranger_24 (by decide) (fun c3 => ?_) (fun c4 => ?_)
    · refine z_loc (L' := [.ref k, .null, .int x2, .null, .null]) ⟨Or.inr rfl, ⟨Or.inl rfl, ⟨Or.inr rfl, ⟨Or.inl rfl, ⟨Or.inl rfl, trivial⟩⟩⟩⟩⟩ ?_
      exact hK52 μ
    · refine z_aload_n (pc := 27) dX5_addStranger_27 rfl ?_
      refine z_aload_n (pc := 28) dX5_addStranger_28 rfl ?_
      refine z_geti (pc := 29) fdX5_21 (sxs_lt0 hk) (sxs_0 g hk) rfl dX5_addStranger_29 ?_
      refine z_iload (pc := 32) dX5_addStranger_32 rfl ?_
      refine z_iload_n (pc := 34) dX5_addStranger_34 rfl ?_
      refine z_bipush (pc := 35) (10 : Int32) dX5_addStranger_35 (by decide) ?_
      refine z_iremc (pc := 37) dX5_addStranger_37 (by decide) ?_
      refine z_callV (As := [.int (μ k 4), .int x4, .int (zrem x3 (10 : Int32))]) (pc := 38) (ret' := none) kvX5_79 (t5_putThought hk _ _ _ _) (by decide) (sxs_lt0 hk) (sxs_0 g hk)  rfl rfl (Nat.le_of_ble_eq_true rfl) dX5_addStranger_38 (fun v5 μ6 => ?_)
      refine z_iload_n (pc := 41) dX5_addStranger_41 rfl ?_
      refine z_bipush (pc := 42) (10 : Int32) dX5_addStranger_42 (by decide) ?_
      refine z_idivc (pc := 44) dX5_addStranger_44 (by decide) ?_
      refine z_val (fun v7 => ?_)
      refine z_istore_n (pc := 45) (L' := [.ref k, .null, .int x2, .int v7, .int x4]) dX5_addStranger_45 (by decide) rfl ?_
      refine z_iinc (pc := 46) (v := x4 + (1 : Int32)) (L' := [.ref k, .null, .int x2, .int v7, .int (x4 + (1 : Int32))]) dX5_addStranger_46 (by decide) rfl (congrArg _ (by decide)) rfl ?_
      refine z_goto (pc := 49) (tgt := 15) dX5_addStranger_49 (by decide) ?_
      exact ih v7 (x4 + (1 : Int32)) μ6
set_option maxHeartbeats 1000000 in
theorem t5_addStranger {g : Bool} {k : Nat} (hk : zSc k) (x1 : Int32) (x2 : Int32) (μ : zMem) : zMR yX5_addStranger cX5_addStranger 5 (none) 2 [.ref k, .int x1, .int x2] (nX g) (SX g) μ (f5_addStranger k x1 x2 μ) := by
  refine zMR_of (by decide +kernel) rfl (Nat.le_of_ble_eq_true rfl) (L := [.ref k, .int x1, .int x2, .null, .null]) rfl ?_
  unfold f5_addStranger
  refine z_aload_n (pc := 0) dX5_addStranger_0 rfl ?_
  refine z_geti (pc := 1) fdX5_21 (sxs_lt0 hk) (sxs_0 g hk) rfl dX5_addStranger_1 ?_
  refine z_bipush (pc := 4) (9 : Int32) dX5_addStranger_4 (by decide) ?_
  refine z_icmp_lt (pc := 6) (tgt := 10) dX5_addStranger_6 (by decide) (fun c1 => ?_) (fun c2 => ?_)
  · refine z_iload_n (pc := 10) dX5_addStranger_10 rfl ?_
    refine z_istore_n (pc := 11) (L' := [.ref k, .int x1, .int x2, .int x1, .null]) dX5_addStranger_11 (by decide) rfl ?_
    refine z_iconst (pc := 12) (0 : Int32) dX5_addStranger_12 (by decide) ?_
    refine z_istore (pc := 13) (L' := [.ref k, .int x1, .int x2, .int x1, .int (0 : Int32)]) dX5_addStranger_13 (by decide) rfl ?_
    refine z_loc (L' := [.ref k, .null, .int x2, .int x1, .int (0 : Int32)]) ⟨Or.inr rfl, ⟨Or.inl rfl, ⟨Or.inr rfl, ⟨Or.inr rfl, ⟨Or.inr rfl, trivial⟩⟩⟩⟩⟩ ?_
    refine t5_addStranger_L15 hk _ _ (fun μ8 => ?_) zF _ _ _
    · refine z_aload_n (pc := 52) dX5_addStranger_52 rfl ?_
      refine z_getr (pc := 53) fdX5_31 (sxs_lt0 hk) (sxs_0 g hk) rfl rfl dX5_addStranger_53 ?_
      refine z_aload_n (pc := 56) dX5_addStranger_56 rfl ?_
      refine z_geti (pc := 57) fdX5_21 (sxs_lt0 hk) (sxs_0 g hk) rfl dX5_addStranger_57 ?_
      refine z_aload_n (pc := 60) dX5_addStranger_60 rfl ?_
      refine z_getr (pc := 61) fdX5_43 (sxs_lt0 hk) (sxs_0 g hk) rfl rfl dX5_addStranger_61 ?_
      refine z_geti (pc := 64) fdX5_67 (nx_lt (by decide)) (sx_2 g) rfl dX5_addStranger_64 ?_
      refine z_iast (pc := 67) (sxs_lt (j := 2) hk (by decide)) (sxs_2 g hk) rfl dX5_addStranger_67 (fun h9 => ?_)
      refine z_mem (fun μ10 => ?_)
      refine z_aload_n (pc := 68) dX5_addStranger_68 rfl ?_
      refine z_getr (pc := 69) fdX5_34 (sxs_lt0 hk) (sxs_0 g hk) rfl rfl dX5_addStranger_69 ?_
      refine z_aload_n (pc := 72) dX5_addStranger_72 rfl ?_
      refine z_geti (pc := 73) fdX5_21 (sxs_lt0 hk) (sxs_0 g hk) rfl dX5_addStranger_73 ?_
      refine z_iload_n (pc := 76) dX5_addStranger_76 rfl ?_
      refine z_iast (pc := 77) (sxs_lt (j := 3) hk (by decide)) (sxs_3 g hk) rfl dX5_addStranger_77 (fun h11 => ?_)
      refine z_mem (fun μ12 => ?_)
      refine z_aload_n (pc := 78) dX5_addStranger_78 rfl ?_
      refine z_dup (pc := 79) dX5_addStranger_79 rfl ?_
      refine z_geti (pc := 80) fdX5_21 (sxs_lt0 hk) (sxs_0 g hk) rfl dX5_addStranger_80 ?_
      refine z_iconst (pc := 83) (1 : Int32) dX5_addStranger_83 (by decide) ?_
      refine z_iadd (pc := 84) dX5_addStranger_84 ?_
      refine z_puti (pc := 85) fdX5_21 (sxs_lt0 hk) (sxs_0 g hk) rfl rfl dX5_addStranger_85 ?_
      refine z_mem (fun μ13 => ?_)
      exact z_vret (pc := 88) rfl dX5_addStranger_88
  · exact z_vret (pc := 9) rfl dX5_addStranger_9
def f5_rivalsOf_L6 (k : Nat) (x1 : Int32) (x2 : Int32) (x3 : Int32) (K77 : Int32 → zMem → zRes) : Nat → Int32 → Int32 → zMem → zRes
  | 0, _, _, _ => none
  | n + 1, x4, x5, μ => if (μ k 4) ≤ x5 then K77 x4 μ else zlet (fun (s3 : Int32) (μ4 : zMem) => zlet (fun (s5 : Int32) (μ6 : zMem) => zlet (x4 ||| s5) (fun (v7 : Int32) => f5_rivalsOf_L6 k x1 x2 x3 K77 n v7 (x5 + (1 : Int32)) μ6)) (fun j8 => zlet (fun (μ9 : zMem) => j8 (0 : Int32) μ9) (fun j10 => if s3 = 0 then j10 μ4 else bnd0 (f5_apart k x5 x1 x2 μ4) (fun (v13 : Int32) (μ14 : zMem) => if v13 < x3 then j10 μ14 else j8 (zshl (1 : Int32) x5) μ14)))) (fun j17 => zlet (fun (μ18 : zMem) => j17 (0 : Int32) μ18) (fun j19 => if x5 = x1 then j19 μ else bnd0 (f7_areKin x5 x1 μ) (fun (v22 : Int32) (μ23 : zMem) => if v22 = 0 then j17 (1 : Int32) μ23 else j19 μ23)))
def f5_rivalsOf (k : Nat) (x1 : Int32) (x2 : Int32) (x3 : Int32) (μ : zMem) : zRes := f5_rivalsOf_L6 k x1 x2 x3 (fun (x4_26 : Int32) (μ27 : zMem) => some (0, x4_26, μ27)) zF (0 : Int32) (0 : Int32) μ
set_option maxHeartbeats 1000000 in
theorem t5_rivalsOf_L6 {g : Bool} {k : Nat} (hk : zSc k) (x1 : Int32) (x2 : Int32) (x3 : Int32) (K77 : Int32 → zMem → zRes) (hK77 : ∀ (x4 : Int32) (μ : zMem), zR yX5_rivalsOf cX5_rivalsOf 7 (some .int) 2 77 [.null, .null, .null, .null, .int x4, .null, .null] [] (nX g) (SX g) μ (K77 x4 μ)) : ∀ (n : Nat) (x4 : Int32) (x5 : Int32) (μ : zMem), zR yX5_rivalsOf cX5_rivalsOf 7 (some .int) 2 6 [.ref k, .int x1, .int x2, .int x3, .int x4, .int x5, .null] [] (nX g) (SX g) μ (f5_rivalsOf_L6 k x1 x2 x3 K77 n x4 x5 μ) := by
  intro n
  induction n with
  | zero => intro x4 x5 μ; intro q hq; cases hq
  | succ n ih =>
    intro x4 x5 μ
    unfold f5_rivalsOf_L6
    refine z_iload (pc := 6) dX5_rivalsOf_6 rfl ?_
    refine z_aload_n (pc := 8) dX5_rivalsOf_8 rfl ?_
    refine z_geti (pc := 9) fdX5_21 (sxs_lt0 hk) (sxs_0 g hk) rfl dX5_rivalsOf_9 ?_
    refine z_icmp_ge (pc := 12) (tgt := 77) dX5_rivalsOf_12 (by decide) (fun c1 => ?_) (fun c2 => ?_)
    · refine z_loc (L' := [.null, .null, .null, .null, .int x4, .null, .null]) ⟨Or.inl rfl, ⟨Or.inl rfl, ⟨Or.inl rfl, ⟨Or.inl rfl, ⟨Or.inr rfl, ⟨Or.inl rfl, ⟨Or.inl rfl, trivial⟩⟩⟩⟩⟩⟩⟩ ?_
      exact hK77 x4 μ
    · refine z_iload (pc := 15) dX5_rivalsOf_15 rfl ?_
      refine z_iload_n (pc := 17) dX5_rivalsOf_17 rfl ?_
      refine z_let (fun (j : Int32 → zMem → zRes) => ∀ (s3 : Int32) (μ4 : zMem), zR yX5_rivalsOf cX5_rivalsOf 7 (some .int) 2 39 [.ref k, .int x1, .int x2, .int x3, .int x4, .int x5, .null] [.int s3] (nX g) (SX g) μ4 (j s3 μ4)) ?_ (fun j17 hj17 => ?_)
      · intro s3 μ4
        refine z_istore (pc := 39) (L' := [.ref k, .int x1, .int x2, .int x3, .int x4, .int x5, .int s3]) dX5_rivalsOf_39 (by decide) rfl ?_
        refine z_iload (pc := 41) dX5_rivalsOf_41 rfl ?_
        refine z_iload (pc := 43) dX5_rivalsOf_43 rfl ?_
        refine z_let (fun (j : Int32 → zMem → zRes) => ∀ (s5 : Int32) (μ6 : zMem), zR yX5_rivalsOf cX5_rivalsOf 7 (some .int) 2 68 [.ref k, .int x1, .int x2, .int x3, .null, .int x5, .null] [.int s5, .int x4] (nX g) (SX g) μ6 (j s5 μ6)) ?_ (fun j8 hj8 => ?_)
        · intro s5 μ6
          refine z_ior (pc := 68) dX5_rivalsOf_68 ?_
          refine z_val (fun v7 => ?_)
          refine z_istore (pc := 69) (L' := [.ref k, .int x1, .int x2, .int x3, .int v7, .int x5, .null]) dX5_rivalsOf_69 (by decide) rfl ?_
          refine z_iinc (pc := 71) (v := x5 + (1 : Int32)) (L' := [.ref k, .int x1, .int x2, .int x3, .int v7, .int (x5 + (1 : Int32)), .null]) dX5_rivalsOf_71 (by decide) rfl (congrArg _ (by decide)) rfl ?_
          refine z_goto (pc := 74) (tgt := 6) dX5_rivalsOf_74 (by decide) ?_
          exact ih v7 (x5 + (1 : Int32)) μ6
        · refine z_let (fun (j : zMem → zRes) => ∀ (μ9 : zMem), zR yX5_rivalsOf cX5_rivalsOf 7 (some .int) 2 67 [.ref k, .int x1, .int x2, .int x3, .null, .int x5, .null] [.int x4] (nX g) (SX g) μ9 (j μ9)) ?_ (fun j10 hj10 => ?_)
          · intro μ9
            refine z_iconst (pc := 67) (0 : Int32) dX5_rivalsOf_67 (by decide) ?_
            exact hj8 (0 : Int32) μ9
          · refine z_if_eq (pc := 45) (tgt := 67) dX5_rivalsOf_45 (by decide) (fun c11 => ?_) (fun c12 => ?_)
            · refine z_loc (L' := [.ref k, .int x1, .int x2, .int x3, .null, .int x5, .null]) ⟨Or.inr rfl, ⟨Or.inr rfl, ⟨Or.inr rfl, ⟨Or.inr rfl, ⟨Or.inl rfl, ⟨Or.inr rfl, ⟨Or.inl rfl, trivial⟩⟩⟩⟩⟩⟩⟩ ?_
              exact hj10 μ4
            · refine z_aload_n (pc := 48) dX5_rivalsOf_48 rfl ?_
              refine z_iload (pc := 49) dX5_rivalsOf_49 rfl ?_
              refine z_iload_n (pc := 51) dX5_rivalsOf_51 rfl ?_
              refine z_iload_n (pc := 52) dX5_rivalsOf_52 rfl ?_
              refine z_callV (As := [.int x5, .int x1, .int x2]) (pc := 53) (ret' := some .int) kvX5_92 (t5_apart hk _ _ _ _) (by decide) (sxs_lt0 hk) (sxs_0 g hk)  rfl rfl (Nat.le_of_ble_eq_true rfl) dX5_rivalsOf_53 (fun v13 μ14 => ?_)
              refine z_iload_n (pc := 56) dX5_rivalsOf_56 rfl ?_
              refine z_icmp_lt (pc := 57) (tgt := 67) dX5_rivalsOf_57 (by decide) (fun c15 => ?_) (fun c16 => ?_)
              · refine z_loc (L' := [.ref k, .int x1, .int x2, .int x3, .null, .int x5, .null]) ⟨Or.inr rfl, ⟨Or.inr rfl, ⟨Or.inr rfl, ⟨Or.inr rfl, ⟨Or.inl rfl, ⟨Or.inr rfl, ⟨Or.inl rfl, trivial⟩⟩⟩⟩⟩⟩⟩ ?_
                exact hj10 μ14
              · refine z_iconst (pc := 60) (1 : Int32) dX5_rivalsOf_60 (by decide) ?_
                refine z_iload (pc := 61) dX5_rivalsOf_61 rfl ?_
                refine z_ishl (pc := 63) dX5_rivalsOf_63 ?_
                refine z_goto (pc := 64) (tgt := 68) dX5_rivalsOf_64 (by decide) ?_
                refine z_loc (L' := [.ref k, .int x1, .int x2, .int x3, .null, .int x5, .null]) ⟨Or.inr rfl, ⟨Or.inr rfl, ⟨Or.inr rfl, ⟨Or.inr rfl, ⟨Or.inl rfl, ⟨Or.inr rfl, ⟨Or.inl rfl, trivial⟩⟩⟩⟩⟩⟩⟩ ?_
                exact hj8 (zshl (1 : Int32) x5) μ14
      · refine z_let (fun (j : zMem → zRes) => ∀ (μ18 : zMem), zR yX5_rivalsOf cX5_rivalsOf 7 (some .int) 2 38 [.ref k, .int x1, .int x2, .int x3, .int x4, .int x5, .null] [] (nX g) (SX g) μ18 (j μ18)) ?_ (fun j19 hj19 => ?_)
        · intro μ18
          refine z_iconst (pc := 38) (0 : Int32) dX5_rivalsOf_38 (by decide) ?_
          exact hj17 (0 : Int32) μ18
        · refine z_icmp_eq (pc := 18) (tgt := 38) dX5_rivalsOf_18 (by decide) (fun c20 => ?_) (fun c21 => ?_)
          · exact hj19 μ
          · refine z_aload_n (pc := 21) dX5_rivalsOf_21 rfl ?_
            refine z_getr (pc := 22) fdX5_43 (sxs_lt0 hk) (sxs_0 g hk) rfl rfl dX5_rivalsOf_22 ?_
            refine z_iload (pc := 25) dX5_rivalsOf_25 rfl ?_
            refine z_iload_n (pc := 27) dX5_rivalsOf_27 rfl ?_
            refine z_callV (As := [.int x5, .int x1]) (pc := 28) (ret' := some .boolean) kvX5_88 (t7_areKin _ _ _) (by decide) (nx_lt (by decide)) (sx_2 g)  rfl rfl (Nat.le_of_ble_eq_true rfl) dX5_rivalsOf_28 (fun v22 μ23 => ?_)
            refine z_if_ne (pc := 31) (tgt := 38) dX5_rivalsOf_31 (by decide) (fun c24 => ?_) (fun c25 => ?_)
            · exact hj19 μ23
            · refine z_iconst (pc := 34) (1 : Int32) dX5_rivalsOf_34 (by decide) ?_
              refine z_goto (pc := 35) (tgt := 39) dX5_rivalsOf_35 (by decide) ?_
              exact hj17 (1 : Int32) μ23
set_option maxHeartbeats 1000000 in
theorem t5_rivalsOf {g : Bool} {k : Nat} (hk : zSc k) (x1 : Int32) (x2 : Int32) (x3 : Int32) (μ : zMem) : zMR yX5_rivalsOf cX5_rivalsOf 7 (some .int) 2 [.ref k, .int x1, .int x2, .int x3] (nX g) (SX g) μ (f5_rivalsOf k x1 x2 x3 μ) := by
  refine zMR_of (by decide +kernel) rfl (Nat.le_of_ble_eq_true rfl) (L := [.ref k, .int x1, .int x2, .int x3, .null, .null, .null]) rfl ?_
  unfold f5_rivalsOf
  refine z_iconst (pc := 0) (0 : Int32) dX5_rivalsOf_0 (by decide) ?_
  refine z_istore (pc := 1) (L' := [.ref k, .int x1, .int x2, .int x3, .int (0 : Int32), .null, .null]) dX5_rivalsOf_1 (by decide) rfl ?_
  refine z_iconst (pc := 3) (0 : Int32) dX5_rivalsOf_3 (by decide) ?_
  refine z_istore (pc := 4) (L' := [.ref k, .int x1, .int x2, .int x3, .int (0 : Int32), .int (0 : Int32), .null]) dX5_rivalsOf_4 (by decide) rfl ?_
  refine t5_rivalsOf_L6 hk _ _ _ _ (fun x4_26 μ27 => ?_) zF _ _ _
  · refine z_iload (pc := 77) dX5_rivalsOf_77 rfl ?_
    exact z_iret (pc := 79) rfl dX5_rivalsOf_79
def f5_firstTwo_L32 (k : Nat) (x1 : Int32) (x2 : Int32) (K63 : zMem → zRes) (K50 : Int32 → zMem → zRes) : Nat → Int32 → zMem → zRes
  | 0, _, _ => none
  | n + 1, x3, μ => if (μ k 4) ≤ x3 then K63 μ else bnd0 (f5_errs k x1 x2 x3 μ) (fun (v16 : Int32) (μ17 : zMem) => if v16 = 0 then K50 x3 μ17 else f5_firstTwo_L32 k x1 x2 K63 K50 n (x3 + (1 : Int32)) μ17)
def f5_firstTwo_L20 (k : Nat) (x1 : Int32) (K69 : zMem → zRes) (K50 : Int32 → Int32 → zMem → zRes) : Nat → Int32 → zMem → zRes
  | 0, _, _ => none
  | n + 1, x2, μ => if (μ k 4) ≤ x2 then K69 μ else zlet (x2 + (1 : Int32)) (fun (v13 : Int32) => f5_firstTwo_L32 k x1 x2 (fun (μ20 : zMem) => f5_firstTwo_L20 k x1 K69 K50 n (x2 + (1 : Int32)) μ20) (fun (x3_21 : Int32) (μ22 : zMem) => K50 x2 x3_21 μ22) zF v13 μ)
def f5_firstTwo (k : Nat) (x1 : Int32) (μ : zMem) : zRes := bnd0 (f5_isOpen k x1 μ) (fun (v1 : Int32) (μ2 : zMem) => zlet (fun (μ3 : zMem) => some (0, (-1 : Int32), μ3)) (fun j4 => if v1 = 0 then bnd0 (f5_isTooLate k x1 μ2) (fun (v7 : Int32) (μ8 : zMem) => if v7 = 0 then f5_firstTwo_L20 k x1 (fun (μ23 : zMem) => some (0, (-1 : Int32), μ23)) (fun (x2_24 : Int32) (x3_25 : Int32) (μ26 : zMem) => some (0, ((10 : Int32) * x2_24) + x3_25, μ26)) zF (0 : Int32) μ8 else j4 μ8) else j4 μ2))
set_option maxHeartbeats 1000000 in
theorem t5_firstTwo_L32 {g : Bool} {k : Nat} (hk : zSc k) (x1 : Int32) (x2 : Int32) (K63 : zMem → zRes) (K50 : Int32 → zMem → zRes) (hK63 : ∀ (μ : zMem), zR yX5_firstTwo cX5_firstTwo 4 (some .int) 3 63 [.ref k, .int x1, .int x2, .null] [] (nX g) (SX g) μ (K63 μ)) (hK50 : ∀ (x3 : Int32) (μ : zMem), zR yX5_firstTwo cX5_firstTwo 4 (some .int) 3 50 [.null, .null, .int x2, .int x3] [] (nX g) (SX g) μ (K50 x3 μ)) : ∀ (n : Nat) (x3 : Int32) (μ : zMem), zR yX5_firstTwo cX5_firstTwo 4 (some .int) 3 32 [.ref k, .int x1, .int x2, .int x3] [] (nX g) (SX g) μ (f5_firstTwo_L32 k x1 x2 K63 K50 n x3 μ) := by
  intro n
  induction n with
  | zero => intro x3 μ; intro q hq; cases hq
  | succ n ih =>
    intro x3 μ
    unfold f5_firstTwo_L32
    refine z_iload_n (pc := 32) dX5_firstTwo_32 rfl ?_
    refine z_aload_n (pc := 33) dX5_firstTwo_33 rfl ?_
    refine z_geti (pc := 34) fdX5_21 (sxs_lt0 hk) (sxs_0 g hk) rfl dX5_firstTwo_34 ?_
    refine z_icmp_ge (pc := 37) (tgt := 63) dX5_firstTwo_37 (by decide) (fun c14 => ?_) (fun c15 => ?_)
    · refine z_loc (L' := [.ref k, .int x1, .int x2, .null]) ⟨Or.inr rfl, ⟨Or.inr rfl, ⟨Or.inr rfl, ⟨Or.inl rfl, trivial⟩⟩⟩⟩ ?_
      exact hK63 μ
    · refine z_aload_n (pc := 40) dX5_firstTwo_40 rfl ?_
      refine z_iload_n (pc := 41) dX5_firstTwo_41 rfl ?_
      refine z_iload_n (pc := 42) dX5_firstTwo_42 rfl ?_
      refine z_iload_n (pc := 43) dX5_firstTwo_43 rfl ?_
      refine z_callV (As := [.int x1, .int x2, .int x3]) (pc := 44) (ret' := some .int) kvX5_137 (t5_errs hk _ _ _ _) (by decide) (sxs_lt0 hk) (sxs_0 g hk)  rfl rfl (Nat.le_of_ble_eq_true rfl) dX5_firstTwo_44 (fun v16 μ17 => ?_)
      refine z_if_ne (pc := 47) (tgt := 57) dX5_firstTwo_47 (by decide) (fun c18 => ?_) (fun c19 => ?_)
      · refine z_iinc (pc := 57) (v := x3 + (1 : Int32)) (L' := [.ref k, .int x1, .int x2, .int (x3 + (1 : Int32))]) dX5_firstTwo_57 (by decide) rfl (congrArg _ (by decide)) rfl ?_
        refine z_goto (pc := 60) (tgt := 32) dX5_firstTwo_60 (by decide) ?_
        exact ih (x3 + (1 : Int32)) μ17
      · refine z_loc (L' := [.null, .null, .int x2, .int x3]) ⟨Or.inl rfl, ⟨Or.inl rfl, ⟨Or.inr rfl, ⟨Or.inr rfl, trivial⟩⟩⟩⟩ ?_
        exact hK50 x3 μ17
set_option maxHeartbeats 1000000 in
theorem t5_firstTwo_L20 {g : Bool} {k : Nat} (hk : zSc k) (x1 : Int32) (K69 : zMem → zRes) (K50 : Int32 → Int32 → zMem → zRes) (hK69 : ∀ (μ : zMem), zR yX5_firstTwo cX5_firstTwo 4 (some .int) 3 69 [.null, .null, .null, .null] [] (nX g) (SX g) μ (K69 μ)) (hK50 : ∀ (x2 : Int32) (x3 : Int32) (μ : zMem), zR yX5_firstTwo cX5_firstTwo 4 (some .int) 3 50 [.null, .null, .int x2, .int x3] [] (nX g) (SX g) μ (K50 x2 x3 μ)) : ∀ (n : Nat) (x2 : Int32) (μ : zMem), zR yX5_firstTwo cX5_firstTwo 4 (some .int) 3 20 [.ref k, .int x1, .int x2, .null] [] (nX g) (SX g) μ (f5_firstTwo_L20 k x1 K69 K50 n x2 μ) := by
  intro n
  induction n with
  | zero => intro x2 μ; intro q hq; cases hq
  | succ n ih =>
    intro x2 μ
    unfold f5_firstTwo_L20
    refine z_iload_n (pc := 20) dX5_firstTwo_20 rfl ?_
    refine z_aload_n (pc := 21) dX5_firstTwo_21 rfl ?_
    refine z_geti (pc := 22) fdX5_21 (sxs_lt0 hk) (sxs_0 g hk) rfl dX5_firstTwo_22 ?_
    refine z_icmp_ge (pc := 25) (tgt := 69) dX5_firstTwo_25 (by decide) (fun c11 => ?_) (fun c12 => ?_)
    · refine z_loc (L' := [.null, .null, .null, .null]) ⟨Or.inl rfl, ⟨Or.inl rfl, ⟨Or.inl rfl, ⟨Or.inl rfl, trivial⟩⟩⟩⟩ ?_
      exact hK69 μ
    · refine z_iload_n (pc := 28) dX5_firstTwo_28 rfl ?_
      refine z_iconst (pc := 29) (1 : Int32) dX5_firstTwo_29 (by decide) ?_
      refine z_iadd (pc := 30) dX5_firstTwo_30 ?_
      refine z_val (fun v13 => ?_)
      refine z_istore_n (pc := 31) (L' := [.ref k, .int x1, .int x2, .int v13]) dX5_firstTwo_31 (by decide) rfl ?_
      refine t5_firstTwo_L32 hk _ _ _ _ (fun μ20 => ?_) (fun x3_21 μ22 => ?_) zF _ _
      · refine z_iinc (pc := 63) (v := x2 + (1 : Int32)) (L' := [.ref k, .int x1, .int (x2 + (1 : Int32)), .null]) dX5_firstTwo_63 (by decide) rfl (congrArg _ (by decide)) rfl ?_
        refine z_goto (pc := 66) (tgt := 20) dX5_firstTwo_66 (by decide) ?_
        exact ih (x2 + (1 : Int32)) μ20
      · exact hK50 x2 x3_21 μ22
set_option maxHeartbeats 1000000 in
theorem t5_firstTwo {g : Bool} {k : Nat} (hk : zSc k) (x1 : Int32) (μ : zMem) : zMR yX5_firstTwo cX5_firstTwo 4 (some .int) 3 [.ref k, .int x1] (nX g) (SX g) μ (f5_firstTwo k x1 μ) := by
  refine zMR_of (by decide +kernel) rfl (Nat.le_of_ble_eq_true rfl) (L := [.ref k, .int x1, .null, .null]) rfl ?_
  unfold f5_firstTwo
  refine z_aload_n (pc := 0) dX5_firstTwo_0 rfl ?_
  refine z_iload_n (pc := 1) dX5_firstTwo_1 rfl ?_
  refine z_callV (As := [.int x1]) (pc := 2) (ret' := some .boolean) kvX5_114 (t5_isOpen hk _ _) (by decide) (sxs_lt0 hk) (sxs_0 g hk)  rfl rfl (Nat.le_of_ble_eq_true rfl) dX5_firstTwo_2 (fun v1 μ2 => ?_)
  refine z_let (fun (j : zMem → zRes) => ∀ (μ3 : zMem), zR yX5_firstTwo cX5_firstTwo 4 (some .int) 3 16 [.null, .null, .null, .null] [] (nX g) (SX g) μ3 (j μ3)) ?_ (fun j4 hj4 => ?_)
  · intro μ3
    refine z_iconst (pc := 16) (-1 : Int32) dX5_firstTwo_16 (by decide) ?_
    exact z_iret (pc := 17) rfl dX5_firstTwo_17
  · refine z_if_ne (pc := 5) (tgt := 16) dX5_firstTwo_5 (by decide) (fun c5 => ?_) (fun c6 => ?_)
    · refine z_loc (L' := [.null, .null, .null, .null]) ⟨Or.inl rfl, ⟨Or.inl rfl, ⟨Or.inl rfl, ⟨Or.inl rfl, trivial⟩⟩⟩⟩ ?_
      exact hj4 μ2
    · refine z_aload_n (pc := 8) dX5_firstTwo_8 rfl ?_
      refine z_iload_n (pc := 9) dX5_firstTwo_9 rfl ?_
      refine z_callV (As := [.int x1]) (pc := 10) (ret' := some .boolean) kvX5_118 (t5_isTooLate hk _ _) (by decide) (sxs_lt0 hk) (sxs_0 g hk)  rfl rfl (Nat.le_of_ble_eq_true rfl) dX5_firstTwo_10 (fun v7 μ8 => ?_)
      refine z_if_eq (pc := 13) (tgt := 18) dX5_firstTwo_13 (by decide) (fun c9 => ?_) (fun c10 => ?_)
      · refine z_iconst (pc := 18) (0 : Int32) dX5_firstTwo_18 (by decide) ?_
        refine z_istore_n (pc := 19) (L' := [.ref k, .int x1, .int (0 : Int32), .null]) dX5_firstTwo_19 (by decide) rfl ?_
        refine t5_firstTwo_L20 hk _ _ _ (fun μ23 => ?_) (fun x2_24 x3_25 μ26 => ?_) zF _ _
        · refine z_iconst (pc := 69) (-1 : Int32) dX5_firstTwo_69 (by decide) ?_
          exact z_iret (pc := 70) rfl dX5_firstTwo_70
        · refine z_bipush (pc := 50) (10 : Int32) dX5_firstTwo_50 (by decide) ?_
          refine z_iload_n (pc := 52) dX5_firstTwo_52 rfl ?_
          refine z_imul (pc := 53) dX5_firstTwo_53 ?_
          refine z_iload_n (pc := 54) dX5_firstTwo_54 rfl ?_
          refine z_iadd (pc := 55) dX5_firstTwo_55 ?_
          exact z_iret (pc := 56) rfl dX5_firstTwo_56
      · refine z_loc (L' := [.null, .null, .null, .null]) ⟨Or.inl rfl, ⟨Or.inl rfl, ⟨Or.inl rfl, ⟨Or.inl rfl, trivial⟩⟩⟩⟩ ?_
        exact hj4 μ8
def f5_hasDoorInTime_L2 (k : Nat) (K37 : zMem → zRes) (K29 : zMem → zRes) : Nat → Int32 → zMem → zRes
  | 0, _, _ => none
  | n + 1, x1, μ => if (μ 2 2) ≤ x1 then K37 μ else bnd0 (f5_isOpen k x1 μ) (fun (v3 : Int32) (μ4 : zMem) => zlet (fun (μ5 : zMem) => f5_hasDoorInTime_L2 k K37 K29 n (x1 + (1 : Int32)) μ5) (fun j6 => if v3 = 0 then bnd0 (f5_isTooLate k x1 μ4) (fun (v9 : Int32) (μ10 : zMem) => if v9 = 0 then K29 μ10 else j6 μ10) else j6 μ4))
def f5_hasDoorInTime (k : Nat) (μ : zMem) : zRes := f5_hasDoorInTime_L2 k (fun (μ13 : zMem) => some (0, (0 : Int32), μ13)) (fun (μ14 : zMem) => some (0, (1 : Int32), μ14)) zF (0 : Int32) μ
set_option maxHeartbeats 1000000 in
theorem t5_hasDoorInTime_L2 {g : Bool} {k : Nat} (hk : zSc k) (K37 : zMem → zRes) (K29 : zMem → zRes) (hK37 : ∀ (μ : zMem), zR yX5_hasDoorInTime cX5_hasDoorInTime 2 (some .boolean) 2 37 [.null, .null] [] (nX g) (SX g) μ (K37 μ)) (hK29 : ∀ (μ : zMem), zR yX5_hasDoorInTime cX5_hasDoorInTime 2 (some .boolean) 2 29 [.null, .null] [] (nX g) (SX g) μ (K29 μ)) : ∀ (n : Nat) (x1 : Int32) (μ : zMem), zR yX5_hasDoorInTime cX5_hasDoorInTime 2 (some .boolean) 2 2 [.ref k, .int x1] [] (nX g) (SX g) μ (f5_hasDoorInTime_L2 k K37 K29 n x1 μ) := by
  intro n
  induction n with
  | zero => intro x1 μ; intro q hq; cases hq
  | succ n ih =>
    intro x1 μ
    unfold f5_hasDoorInTime_L2
    refine z_iload_n (pc := 2) dX5_hasDoorInTime_2 rfl ?_
    refine z_aload_n (pc := 3) dX5_hasDoorInTime_3 rfl ?_
    refine z_getr (pc := 4) fdX5_43 (sxs_lt0 hk) (sxs_0 g hk) rfl rfl dX5_hasDoorInTime_4 ?_
    refine z_geti (pc := 7) fdX5_140 (nx_lt (by decide)) (sx_2 g) rfl dX5_hasDoorInTime_7 ?_
    refine z_icmp_ge (pc := 10) (tgt := 37) dX5_hasDoorInTime_10 (by decide) (fun c1 => ?_) (fun c2 => ?_)
    · refine z_loc (L' := [.null, .null]) ⟨Or.inl rfl, ⟨Or.inl rfl, trivial⟩⟩ ?_
      exact hK37 μ
    · refine z_aload_n (pc := 13) dX5_hasDoorInTime_13 rfl ?_
      refine z_iload_n (pc := 14) dX5_hasDoorInTime_14 rfl ?_
      refine z_callV (As := [.int x1]) (pc := 15) (ret' := some .boolean) kvX5_114 (t5_isOpen hk _ _) (by decide) (sxs_lt0 hk) (sxs_0 g hk)  rfl rfl (Nat.le_of_ble_eq_true rfl) dX5_hasDoorInTime_15 (fun v3 μ4 => ?_)
      refine z_let (fun (j : zMem → zRes) => ∀ (μ5 : zMem), zR yX5_hasDoorInTime cX5_hasDoorInTime 2 (some .boolean) 2 31 [.ref k, .int x1] [] (nX g) (SX g) μ5 (j μ5)) ?_ (fun j6 hj6 => ?_)
      · intro μ5
        refine z_iinc (pc := 31) (v := x1 + (1 : Int32)) (L' := [.ref k, .int (x1 + (1 : Int32))]) dX5_hasDoorInTime_31 (by decide) rfl (congrArg _ (by decide)) rfl ?_
        refine z_goto (pc := 34) (tgt := 2) dX5_hasDoorInTime_34 (by decide) ?_
        exact ih (x1 + (1 : Int32)) μ5
      · refine z_if_ne (pc := 18) (tgt := 31) dX5_hasDoorInTime_18 (by decide) (fun c7 => ?_) (fun c8 => ?_)
        · exact hj6 μ4
        · refine z_aload_n (pc := 21) dX5_hasDoorInTime_21 rfl ?_
          refine z_iload_n (pc := 22) dX5_hasDoorInTime_22 rfl ?_
          refine z_callV (As := [.int x1]) (pc := 23) (ret' := some .boolean) kvX5_118 (t5_isTooLate hk _ _) (by decide) (sxs_lt0 hk) (sxs_0 g hk)  rfl rfl (Nat.le_of_ble_eq_true rfl) dX5_hasDoorInTime_23 (fun v9 μ10 => ?_)
          refine z_if_ne (pc := 26) (tgt := 31) dX5_hasDoorInTime_26 (by decide) (fun c11 => ?_) (fun c12 => ?_)
          · exact hj6 μ10
          · refine z_loc (L' := [.null, .null]) ⟨Or.inl rfl, ⟨Or.inl rfl, trivial⟩⟩ ?_
            exact hK29 μ10
set_option maxHeartbeats 1000000 in
theorem t5_hasDoorInTime {g : Bool} {k : Nat} (hk : zSc k) (μ : zMem) : zMR yX5_hasDoorInTime cX5_hasDoorInTime 2 (some .boolean) 2 [.ref k] (nX g) (SX g) μ (f5_hasDoorInTime k μ) := by
  refine zMR_of (by decide +kernel) rfl (Nat.le_of_ble_eq_true rfl) (L := [.ref k, .null]) rfl ?_
  unfold f5_hasDoorInTime
  refine z_iconst (pc := 0) (0 : Int32) dX5_hasDoorInTime_0 (by decide) ?_
  refine z_istore_n (pc := 1) (L' := [.ref k, .int (0 : Int32)]) dX5_hasDoorInTime_1 (by decide) rfl ?_
  refine t5_hasDoorInTime_L2 hk _ _ (fun μ13 => ?_) (fun μ14 => ?_) zF _ _
  · refine z_iconst (pc := 37) (0 : Int32) dX5_hasDoorInTime_37 (by decide) ?_
    exact z_zretc (pc := 38) rfl (Or.inl rfl) dX5_hasDoorInTime_38
  · refine z_iconst (pc := 29) (1 : Int32) dX5_hasDoorInTime_29 (by decide) ?_
    exact z_zretc (pc := 30) rfl (Or.inr rfl) dX5_hasDoorInTime_30
