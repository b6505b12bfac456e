theorem dJ6_bitCount_0f7a4_0 : decode cJ6_bitCount_0f7a4 0 = .ok (.iload_n 0, 1) := by decide +kernel
theorem dJ6_bitCount_0f7a4_1 : decode cJ6_bitCount_0f7a4 1 = .ok (.iload_n 0, 1) := by decide +kernel
theorem dJ6_bitCount_0f7a4_2 : decode cJ6_bitCount_0f7a4 2 = .ok (.iconst 1, 1) := by decide +kernel
theorem dJ6_bitCount_0f7a4_3 : decode cJ6_bitCount_0f7a4 3 = .ok (.iushr, 1) := by decide +kernel
theorem dJ6_bitCount_0f7a4_4 : decode cJ6_bitCount_0f7a4 4 = .ok (.ldc_w 265, 3) := by decide +kernel
theorem dJ6_bitCount_0f7a4_7 : decode cJ6_bitCount_0f7a4 7 = .ok (.iand, 1) := by decide +kernel
theorem dJ6_bitCount_0f7a4_8 : decode cJ6_bitCount_0f7a4 8 = .ok (.isub, 1) := by decide +kernel
theorem dJ6_bitCount_0f7a4_9 : decode cJ6_bitCount_0f7a4 9 = .ok (.istore_n 0, 1) := by decide +kernel
theorem dJ6_bitCount_0f7a4_10 : decode cJ6_bitCount_0f7a4 10 = .ok (.iload_n 0, 1) := by decide +kernel
theorem dJ6_bitCount_0f7a4_11 : decode cJ6_bitCount_0f7a4 11 = .ok (.ldc_w 266, 3) := by decide +kernel
theorem dJ6_bitCount_0f7a4_14 : decode cJ6_bitCount_0f7a4 14 = .ok (.iand, 1) := by decide +kernel
theorem dJ6_bitCount_0f7a4_15 : decode cJ6_bitCount_0f7a4 15 = .ok (.iload_n 0, 1) := by decide +kernel
theorem dJ6_bitCount_0f7a4_16 : decode cJ6_bitCount_0f7a4 16 = .ok (.iconst 2, 1) := by decide +kernel
theorem dJ6_bitCount_0f7a4_17 : decode cJ6_bitCount_0f7a4 17 = .ok (.iushr, 1) := by decide +kernel
theorem dJ6_bitCount_0f7a4_18 : decode cJ6_bitCount_0f7a4 18 = .ok (.ldc_w 266, 3) := by decide +kernel
theorem dJ6_bitCount_0f7a4_21 : decode cJ6_bitCount_0f7a4 21 = .ok (.iand, 1) := by decide +kernel
theorem dJ6_bitCount_0f7a4_22 : decode cJ6_bitCount_0f7a4 22 = .ok (.iadd, 1) := by decide +kernel
theorem dJ6_bitCount_0f7a4_23 : decode cJ6_bitCount_0f7a4 23 = .ok (.istore_n 0, 1) := by decide +kernel
theorem dJ6_bitCount_0f7a4_24 : decode cJ6_bitCount_0f7a4 24 = .ok (.iload_n 0, 1) := by decide +kernel
theorem dJ6_bitCount_0f7a4_25 : decode cJ6_bitCount_0f7a4 25 = .ok (.iload_n 0, 1) := by decide +kernel
theorem dJ6_bitCount_0f7a4_26 : decode cJ6_bitCount_0f7a4 26 = .ok (.iconst 4, 1) := by decide +kernel
theorem dJ6_bitCount_0f7a4_27 : decode cJ6_bitCount_0f7a4 27 = .ok (.iushr, 1) := by decide +kernel
theorem dJ6_bitCount_0f7a4_28 : decode cJ6_bitCount_0f7a4 28 = .ok (.iadd, 1) := by decide +kernel
theorem dJ6_bitCount_0f7a4_29 : decode cJ6_bitCount_0f7a4 29 = .ok (.ldc_w 267, 3) := by decide +kernel
theorem dJ6_bitCount_0f7a4_32 : decode cJ6_bitCount_0f7a4 32 = .ok (.iand, 1) := by decide +kernel
theorem dJ6_bitCount_0f7a4_33 : decode cJ6_bitCount_0f7a4 33 = .ok (.istore_n 0, 1) := by decide +kernel
theorem dJ6_bitCount_0f7a4_34 : decode cJ6_bitCount_0f7a4 34 = .ok (.iload_n 0, 1) := by decide +kernel
theorem dJ6_bitCount_0f7a4_35 : decode cJ6_bitCount_0f7a4 35 = .ok (.iload_n 0, 1) := by decide +kernel
theorem dJ6_bitCount_0f7a4_36 : decode cJ6_bitCount_0f7a4 36 = .ok (.bipush 8, 2) := by decide +kernel
theorem dJ6_bitCount_0f7a4_38 : decode cJ6_bitCount_0f7a4 38 = .ok (.iushr, 1) := by decide +kernel
theorem dJ6_bitCount_0f7a4_39 : decode cJ6_bitCount_0f7a4 39 = .ok (.iadd, 1) := by decide +kernel
theorem dJ6_bitCount_0f7a4_40 : decode cJ6_bitCount_0f7a4 40 = .ok (.istore_n 0, 1) := by decide +kernel
theorem dJ6_bitCount_0f7a4_41 : decode cJ6_bitCount_0f7a4 41 = .ok (.iload_n 0, 1) := by decide +kernel
theorem dJ6_bitCount_0f7a4_42 : decode cJ6_bitCount_0f7a4 42 = .ok (.iload_n 0, 1) := by decide +kernel
theorem dJ6_bitCount_0f7a4_43 : decode cJ6_bitCount_0f7a4 43 = .ok (.bipush 16, 2) := by decide +kernel
theorem dJ6_bitCount_0f7a4_45 : decode cJ6_bitCount_0f7a4 45 = .ok (.iushr, 1) := by decide +kernel
theorem dJ6_bitCount_0f7a4_46 : decode cJ6_bitCount_0f7a4 46 = .ok (.iadd, 1) := by decide +kernel
theorem dJ6_bitCount_0f7a4_47 : decode cJ6_bitCount_0f7a4 47 = .ok (.istore_n 0, 1) := by decide +kernel
theorem dJ6_bitCount_0f7a4_48 : decode cJ6_bitCount_0f7a4 48 = .ok (.iload_n 0, 1) := by decide +kernel
theorem dJ6_bitCount_0f7a4_49 : decode cJ6_bitCount_0f7a4 49 = .ok (.bipush 63, 2) := by decide +kernel
theorem dJ6_bitCount_0f7a4_51 : decode cJ6_bitCount_0f7a4 51 = .ok (.iand, 1) := by decide +kernel
theorem dJ6_bitCount_0f7a4_52 : decode cJ6_bitCount_0f7a4 52 = .ok (.ireturn, 1) := by decide +kernel
theorem dJ6_compare_7cf53_0 : decode cJ6_compare_7cf53 0 = .ok (.iload_n 0, 1) := by decide +kernel
theorem dJ6_compare_7cf53_1 : decode cJ6_compare_7cf53 1 = .ok (.iload_n 1, 1) := by decide +kernel
theorem dJ6_compare_7cf53_2 : decode cJ6_compare_7cf53 2 = .ok (.if_icmp .ge 7, 3) := by decide +kernel
theorem dJ6_compare_7cf53_5 : decode cJ6_compare_7cf53 5 = .ok (.iconst (-1), 1) := by decide +kernel
theorem dJ6_compare_7cf53_6 : decode cJ6_compare_7cf53 6 = .ok (.goto 13, 3) := by decide +kernel
theorem dJ6_compare_7cf53_9 : decode cJ6_compare_7cf53 9 = .ok (.iload_n 0, 1) := by decide +kernel
theorem dJ6_compare_7cf53_10 : decode cJ6_compare_7cf53 10 = .ok (.iload_n 1, 1) := by decide +kernel
theorem dJ6_compare_7cf53_11 : decode cJ6_compare_7cf53 11 = .ok (.if_icmp .ne 7, 3) := by decide +kernel
theorem dJ6_compare_7cf53_14 : decode cJ6_compare_7cf53 14 = .ok (.iconst 0, 1) := by decide +kernel
theorem dJ6_compare_7cf53_15 : decode cJ6_compare_7cf53 15 = .ok (.goto 4, 3) := by decide +kernel
theorem dJ6_compare_7cf53_18 : decode cJ6_compare_7cf53 18 = .ok (.iconst 1, 1) := by decide +kernel
theorem dJ6_compare_7cf53_19 : decode cJ6_compare_7cf53 19 = .ok (.ireturn, 1) := by decide +kernel
theorem dX5_thought_0 : decode cX5_thought 0 = .ok (.aload_n 0, 1) := by decide +kernel
theorem dX5_thought_1 : decode cX5_thought 1 = .ok (.getfield 27, 3) := by decide +kernel
theorem dX5_thought_4 : decode cX5_thought 4 = .ok (.iload_n 1, 1) := by decide +kernel
theorem dX5_thought_5 : decode cX5_thought 5 = .ok (.iconst 4, 1) := by decide +kernel
theorem dX5_thought_6 : decode cX5_thought 6 = .ok (.imul, 1) := by decide +kernel
theorem dX5_thought_7 : decode cX5_thought 7 = .ok (.iload_n 2, 1) := by decide +kernel
theorem dX5_thought_8 : decode cX5_thought 8 = .ok (.iadd, 1) := by decide +kernel
theorem dX5_thought_9 : decode cX5_thought 9 = .ok (.iaload, 1) := by decide +kernel
theorem dX5_thought_10 : decode cX5_thought 10 = .ok (.ireturn, 1) := by decide +kernel
theorem dX7_areKin_0 : decode cX7_areKin 0 = .ok (.aload_n 0, 1) := by decide +kernel
theorem dX7_areKin_1 : decode cX7_areKin 1 = .ok (.getfield 43, 3) := by decide +kernel
theorem dX7_areKin_4 : decode cX7_areKin 4 = .ok (.iload_n 1, 1) := by decide +kernel
theorem dX7_areKin_5 : decode cX7_areKin 5 = .ok (.iaload, 1) := by decide +kernel
theorem dX7_areKin_6 : decode cX7_areKin 6 = .ok (.iload_n 2, 1) := by decide +kernel
theorem dX7_areKin_7 : decode cX7_areKin 7 = .ok (.ishr, 1) := by decide +kernel
theorem dX7_areKin_8 : decode cX7_areKin 8 = .ok (.iconst 1, 1) := by decide +kernel
theorem dX7_areKin_9 : decode cX7_areKin 9 = .ok (.iand, 1) := by decide +kernel
theorem dX7_areKin_10 : decode cX7_areKin 10 = .ok (.ifCond .eq 7, 3) := by decide +kernel
theorem dX7_areKin_13 : decode cX7_areKin 13 = .ok (.iconst 1, 1) := by decide +kernel
theorem dX7_areKin_14 : decode cX7_areKin 14 = .ok (.goto 4, 3) := by decide +kernel
theorem dX7_areKin_17 : decode cX7_areKin 17 = .ok (.iconst 0, 1) := by decide +kernel
theorem dX7_areKin_18 : decode cX7_areKin 18 = .ok (.ireturn, 1) := by decide +kernel
theorem dX5_isOpen_0 : decode cX5_isOpen 0 = .ok (.aload_n 0, 1) := by decide +kernel
theorem dX5_isOpen_1 : decode cX5_isOpen 1 = .ok (.getfield 24, 3) := by decide +kernel
theorem dX5_isOpen_4 : decode cX5_isOpen 4 = .ok (.iload_n 1, 1) := by decide +kernel
theorem dX5_isOpen_5 : decode cX5_isOpen 5 = .ok (.ishr, 1) := by decide +kernel
theorem dX5_isOpen_6 : decode cX5_isOpen 6 = .ok (.iconst 1, 1) := by decide +kernel
theorem dX5_isOpen_7 : decode cX5_isOpen 7 = .ok (.iand, 1) := by decide +kernel
theorem dX5_isOpen_8 : decode cX5_isOpen 8 = .ok (.ifCond .eq 7, 3) := by decide +kernel
theorem dX5_isOpen_11 : decode cX5_isOpen 11 = .ok (.iconst 1, 1) := by decide +kernel
theorem dX5_isOpen_12 : decode cX5_isOpen 12 = .ok (.goto 4, 3) := by decide +kernel
theorem dX5_isOpen_15 : decode cX5_isOpen 15 = .ok (.iconst 0, 1) := by decide +kernel
theorem dX5_isOpen_16 : decode cX5_isOpen 16 = .ok (.ireturn, 1) := by decide +kernel
theorem dX5_isTooLate_0 : decode cX5_isTooLate 0 = .ok (.aload_n 0, 1) := by decide +kernel
theorem dX5_isTooLate_1 : decode cX5_isTooLate 1 = .ok (.getfield 9, 3) := by decide +kernel
theorem dX5_isTooLate_4 : decode cX5_isTooLate 4 = .ok (.aload_n 0, 1) := by decide +kernel
theorem dX5_isTooLate_5 : decode cX5_isTooLate 5 = .ok (.getfield 43, 3) := by decide +kernel
theorem dX5_isTooLate_8 : decode cX5_isTooLate 8 = .ok (.getfield 105, 3) := by decide +kernel
theorem dX5_isTooLate_11 : decode cX5_isTooLate 11 = .ok (.iload_n 1, 1) := by decide +kernel
theorem dX5_isTooLate_12 : decode cX5_isTooLate 12 = .ok (.iaload, 1) := by decide +kernel
theorem dX5_isTooLate_13 : decode cX5_isTooLate 13 = .ok (.if_icmp .le 7, 3) := by decide +kernel
theorem dX5_isTooLate_16 : decode cX5_isTooLate 16 = .ok (.iconst 1, 1) := by decide +kernel
theorem dX5_isTooLate_17 : decode cX5_isTooLate 17 = .ok (.goto 4, 3) := by decide +kernel
theorem dX5_isTooLate_20 : decode cX5_isTooLate 20 = .ok (.iconst 0, 1) := by decide +kernel
theorem dX5_isTooLate_21 : decode cX5_isTooLate 21 = .ok (.ireturn, 1) := by decide +kernel
theorem dX5_questionOf_0 : decode cX5_questionOf 0 = .ok (.aload_n 0, 1) := by decide +kernel
theorem dX5_questionOf_1 : decode cX5_questionOf 1 = .ok (.getfield 43, 3) := by decide +kernel
theorem dX5_questionOf_4 : decode cX5_questionOf 4 = .ok (.getfield 108, 3) := by decide +kernel
theorem dX5_questionOf_7 : decode cX5_questionOf 7 = .ok (.iload_n 1, 1) := by decide +kernel
theorem dX5_questionOf_8 : decode cX5_questionOf 8 = .ok (.iaload, 1) := by decide +kernel
theorem dX5_questionOf_9 : decode cX5_questionOf 9 = .ok (.iconst (-1), 1) := by decide +kernel
theorem dX5_questionOf_10 : decode cX5_questionOf 10 = .ok (.if_icmp .ne 10, 3) := by decide +kernel
theorem dX5_questionOf_13 : decode cX5_questionOf 13 = .ok (.aload_n 0, 1) := by decide +kernel
theorem dX5_questionOf_14 : decode cX5_questionOf 14 = .ok (.getfield 15, 3) := by decide +kernel
theorem dX5_questionOf_17 : decode cX5_questionOf 17 = .ok (.goto 12, 3) := by decide +kernel
theorem dX5_questionOf_20 : decode cX5_questionOf 20 = .ok (.aload_n 0, 1) := by decide +kernel
theorem dX5_questionOf_21 : decode cX5_questionOf 21 = .ok (.getfield 43, 3) := by decide +kernel
theorem dX5_questionOf_24 : decode cX5_questionOf 24 = .ok (.getfield 108, 3) := by decide +kernel
theorem dX5_questionOf_27 : decode cX5_questionOf 27 = .ok (.iload_n 1, 1) := by decide +kernel
theorem dX5_questionOf_28 : decode cX5_questionOf 28 = .ok (.iaload, 1) := by decide +kernel
theorem dX5_questionOf_29 : decode cX5_questionOf 29 = .ok (.ireturn, 1) := by decide +kernel
theorem dX5_apart_0 : decode cX5_apart 0 = .ok (.aload_n 0, 1) := by decide +kernel
theorem dX5_apart_1 : decode cX5_apart 1 = .ok (.getfield 27, 3) := by decide +kernel
theorem dX5_apart_4 : decode cX5_apart 4 = .ok (.iload_n 1, 1) := by decide +kernel
theorem dX5_apart_5 : decode cX5_apart 5 = .ok (.iconst 4, 1) := by decide +kernel
theorem dX5_apart_6 : decode cX5_apart 6 = .ok (.imul, 1) := by decide +kernel
theorem dX5_apart_7 : decode cX5_apart 7 = .ok (.iload_n 3, 1) := by decide +kernel
theorem dX5_apart_8 : decode cX5_apart 8 = .ok (.iadd, 1) := by decide +kernel
theorem dX5_apart_9 : decode cX5_apart 9 = .ok (.iaload, 1) := by decide +kernel
theorem dX5_apart_10 : decode cX5_apart 10 = .ok (.istore 4, 2) := by decide +kernel
theorem dX5_apart_12 : decode cX5_apart 12 = .ok (.iload 4, 2) := by decide +kernel
theorem dX5_apart_14 : decode cX5_apart 14 = .ok (.aload_n 0, 1) := by decide +kernel
theorem dX5_apart_15 : decode cX5_apart 15 = .ok (.getfield 27, 3) := by decide +kernel
theorem dX5_apart_18 : decode cX5_apart 18 = .ok (.iload_n 2, 1) := by decide +kernel
theorem dX5_apart_19 : decode cX5_apart 19 = .ok (.iconst 4, 1) := by decide +kernel
theorem dX5_apart_20 : decode cX5_apart 20 = .ok (.imul, 1) := by decide +kernel
theorem dX5_apart_21 : decode cX5_apart 21 = .ok (.iload_n 3, 1) := by decide +kernel
theorem dX5_apart_22 : decode cX5_apart 22 = .ok (.iadd, 1) := by decide +kernel
theorem dX5_apart_23 : decode cX5_apart 23 = .ok (.iaload, 1) := by decide +kernel
theorem dX5_apart_24 : decode cX5_apart 24 = .ok (.isub, 1) := by decide +kernel
theorem dX5_apart_25 : decode cX5_apart 25 = .ok (.invokestatic 83, 3) := by decide +kernel
theorem dX5_apart_28 : decode cX5_apart 28 = .ok (.ireturn, 1) := by decide +kernel
theorem dX5_errs_0 : decode cX5_errs 0 = .ok (.aload_n 0, 1) := by decide +kernel
theorem dX5_errs_1 : decode cX5_errs 1 = .ok (.iload_n 1, 1) := by decide +kernel
theorem dX5_errs_2 : decode cX5_errs 2 = .ok (.invokevirtual 111, 3) := by decide +kernel
theorem dX5_errs_5 : decode cX5_errs 5 = .ok (.ifCond .eq 5, 3) := by decide +kernel
theorem dX5_errs_8 : decode cX5_errs 8 = .ok (.iconst 1, 1) := by decide +kernel
theorem dX5_errs_9 : decode cX5_errs 9 = .ok (.ireturn, 1) := by decide +kernel
theorem dX5_errs_10 : decode cX5_errs 10 = .ok (.aload_n 0, 1) := by decide +kernel
theorem dX5_errs_11 : decode cX5_errs 11 = .ok (.iload_n 1, 1) := by decide +kernel
theorem dX5_errs_12 : decode cX5_errs 12 = .ok (.invokevirtual 115, 3) := by decide +kernel
theorem dX5_errs_15 : decode cX5_errs 15 = .ok (.ifCond .eq 5, 3) := by decide +kernel
theorem dX5_errs_18 : decode cX5_errs 18 = .ok (.iconst 2, 1) := by decide +kernel
theorem dX5_errs_19 : decode cX5_errs 19 = .ok (.ireturn, 1) := by decide +kernel
theorem dX5_errs_20 : decode cX5_errs 20 = .ok (.iload_n 2, 1) := by decide +kernel
theorem dX5_errs_21 : decode cX5_errs 21 = .ok (.iload_n 3, 1) := by decide +kernel
theorem dX5_errs_22 : decode cX5_errs 22 = .ok (.if_icmp .eq 15, 3) := by decide +kernel
theorem dX5_errs_25 : decode cX5_errs 25 = .ok (.aload_n 0, 1) := by decide +kernel
theorem dX5_errs_26 : decode cX5_errs 26 = .ok (.getfield 43, 3) := by decide +kernel
theorem dX5_errs_29 : decode cX5_errs 29 = .ok (.iload_n 2, 1) := by decide +kernel
theorem dX5_errs_30 : decode cX5_errs 30 = .ok (.iload_n 3, 1) := by decide +kernel
theorem dX5_errs_31 : decode cX5_errs 31 = .ok (.invokevirtual 88, 3) := by decide +kernel
theorem dX5_errs_34 : decode cX5_errs 34 = .ok (.ifCond .eq 5, 3) := by decide +kernel
theorem dX5_errs_37 : decode cX5_errs 37 = .ok (.iconst 3, 1) := by decide +kernel
theorem dX5_errs_38 : decode cX5_errs 38 = .ok (.ireturn, 1) := by decide +kernel
theorem dX5_errs_39 : decode cX5_errs 39 = .ok (.aload_n 0, 1) := by decide +kernel
theorem dX5_errs_40 : decode cX5_errs 40 = .ok (.getfield 31, 3) := by decide +kernel
theorem dX5_errs_43 : decode cX5_errs 43 = .ok (.iload_n 2, 1) := by decide +kernel
theorem dX5_errs_44 : decode cX5_errs 44 = .ok (.iaload, 1) := by decide +kernel
theorem dX5_errs_45 : decode cX5_errs 45 = .ok (.aload_n 0, 1) := by decide +kernel
theorem dX5_errs_46 : decode cX5_errs 46 = .ok (.getfield 31, 3) := by decide +kernel
theorem dX5_errs_49 : decode cX5_errs 49 = .ok (.iload_n 3, 1) := by decide +kernel
theorem dX5_errs_50 : decode cX5_errs 50 = .ok (.iaload, 1) := by decide +kernel
theorem dX5_errs_51 : decode cX5_errs 51 = .ok (.invokestatic 118, 3) := by decide +kernel
theorem dX5_errs_54 : decode cX5_errs 54 = .ok (.aload_n 0, 1) := by decide +kernel
theorem dX5_errs_55 : decode cX5_errs 55 = .ok (.getfield 43, 3) := by decide +kernel
theorem dX5_errs_58 : decode cX5_errs 58 = .ok (.getfield 121, 3) := by decide +kernel
theorem dX5_errs_61 : decode cX5_errs 61 = .ok (.iload_n 1, 1) := by decide +kernel
theorem dX5_errs_62 : decode cX5_errs 62 = .ok (.iaload, 1) := by decide +kernel
theorem dX5_errs_63 : decode cX5_errs 63 = .ok (.if_icmp .ge 5, 3) := by decide +kernel
theorem dX5_errs_66 : decode cX5_errs 66 = .ok (.iconst 4, 1) := by decide +kernel
theorem dX5_errs_67 : decode cX5_errs 67 = .ok (.ireturn, 1) := by decide +kernel
theorem dX5_errs_68 : decode cX5_errs 68 = .ok (.aload_n 0, 1) := by decide +kernel
theorem dX5_errs_69 : decode cX5_errs 69 = .ok (.iload_n 2, 1) := by decide +kernel
theorem dX5_errs_70 : decode cX5_errs 70 = .ok (.iload_n 3, 1) := by decide +kernel
theorem dX5_errs_71 : decode cX5_errs 71 = .ok (.aload_n 0, 1) := by decide +kernel
theorem dX5_errs_72 : decode cX5_errs 72 = .ok (.iload_n 1, 1) := by decide +kernel
theorem dX5_errs_73 : decode cX5_errs 73 = .ok (.invokevirtual 124, 3) := by decide +kernel
theorem dX5_errs_76 : decode cX5_errs 76 = .ok (.invokevirtual 92, 3) := by decide +kernel
theorem dX5_errs_79 : decode cX5_errs 79 = .ok (.aload_n 0, 1) := by decide +kernel
theorem dX5_errs_80 : decode cX5_errs 80 = .ok (.getfield 18, 3) := by decide +kernel
theorem dX5_errs_83 : decode cX5_errs 83 = .ok (.if_icmp .ge 7, 3) := by decide +kernel
theorem dX5_errs_86 : decode cX5_errs 86 = .ok (.iconst 5, 1) := by decide +kernel
theorem dX5_errs_87 : decode cX5_errs 87 = .ok (.goto 4, 3) := by decide +kernel
theorem dX5_errs_90 : decode cX5_errs 90 = .ok (.iconst 0, 1) := by decide +kernel
theorem dX5_errs_91 : decode cX5_errs 91 = .ok (.ireturn, 1) := by decide +kernel
theorem dX5_rivalsOf_0 : decode cX5_rivalsOf 0 = .ok (.iconst 0, 1) := by decide +kernel
theorem dX5_rivalsOf_1 : decode cX5_rivalsOf 1 = .ok (.istore 4, 2) := by decide +kernel
theorem dX5_rivalsOf_3 : decode cX5_rivalsOf 3 = .ok (.iconst 0, 1) := by decide +kernel
theorem dX5_rivalsOf_4 : decode cX5_rivalsOf 4 = .ok (.istore 5, 2) := by decide +kernel
theorem dX5_rivalsOf_6 : decode cX5_rivalsOf 6 = .ok (.iload 5, 2) := by decide +kernel
theorem dX5_rivalsOf_8 : decode cX5_rivalsOf 8 = .ok (.aload_n 0, 1) := by decide +kernel
theorem dX5_rivalsOf_9 : decode cX5_rivalsOf 9 = .ok (.getfield 21, 3) := by decide +kernel
theorem dX5_rivalsOf_12 : decode cX5_rivalsOf 12 = .ok (.if_icmp .ge 65, 3) := by decide +kernel
theorem dX5_rivalsOf_15 : decode cX5_rivalsOf 15 = .ok (.iload 5, 2) := by decide +kernel
theorem dX5_rivalsOf_17 : decode cX5_rivalsOf 17 = .ok (.iload_n 1, 1) := by decide +kernel
theorem dX5_rivalsOf_18 : decode cX5_rivalsOf 18 = .ok (.if_icmp .eq 20, 3) := by decide +kernel
theorem dX5_rivalsOf_21 : decode cX5_rivalsOf 21 = .ok (.aload_n 0, 1) := by decide +kernel
theorem dX5_rivalsOf_22 : decode cX5_rivalsOf 22 = .ok (.getfield 43, 3) := by decide +kernel
theorem dX5_rivalsOf_25 : decode cX5_rivalsOf 25 = .ok (.iload 5, 2) := by decide +kernel
theorem dX5_rivalsOf_27 : decode cX5_rivalsOf 27 = .ok (.iload_n 1, 1) := by decide +kernel
theorem dX5_rivalsOf_28 : decode cX5_rivalsOf 28 = .ok (.invokevirtual 88, 3) := by decide +kernel
theorem dX5_rivalsOf_31 : decode cX5_rivalsOf 31 = .ok (.ifCond .ne 7, 3) := by decide +kernel
theorem dX5_rivalsOf_34 : decode cX5_rivalsOf 34 = .ok (.iconst 1, 1) := by decide +kernel
theorem dX5_rivalsOf_35 : decode cX5_rivalsOf 35 = .ok (.goto 4, 3) := by decide +kernel
theorem dX5_rivalsOf_38 : decode cX5_rivalsOf 38 = .ok (.iconst 0, 1) := by decide +kernel
theorem dX5_rivalsOf_39 : decode cX5_rivalsOf 39 = .ok (.istore 6, 2) := by decide +kernel
theorem dX5_rivalsOf_41 : decode cX5_rivalsOf 41 = .ok (.iload 4, 2) := by decide +kernel
theorem dX5_rivalsOf_43 : decode cX5_rivalsOf 43 = .ok (.iload 6, 2) := by decide +kernel
theorem dX5_rivalsOf_45 : decode cX5_rivalsOf 45 = .ok (.ifCond .eq 22, 3) := by decide +kernel
theorem dX5_rivalsOf_48 : decode cX5_rivalsOf 48 = .ok (.aload_n 0, 1) := by decide +kernel
theorem dX5_rivalsOf_49 : decode cX5_rivalsOf 49 = .ok (.iload 5, 2) := by decide +kernel
theorem dX5_rivalsOf_51 : decode cX5_rivalsOf 51 = .ok (.iload_n 1, 1) := by decide +kernel
theorem dX5_rivalsOf_52 : decode cX5_rivalsOf 52 = .ok (.iload_n 2, 1) := by decide +kernel
theorem dX5_rivalsOf_53 : decode cX5_rivalsOf 53 = .ok (.invokevirtual 92, 3) := by decide +kernel
theorem dX5_rivalsOf_56 : decode cX5_rivalsOf 56 = .ok (.iload_n 3, 1) := by decide +kernel
theorem dX5_rivalsOf_57 : decode cX5_rivalsOf 57 = .ok (.if_icmp .lt 10, 3) := by decide +kernel
theorem dX5_rivalsOf_60 : decode cX5_rivalsOf 60 = .ok (.iconst 1, 1) := by decide +kernel
theorem dX5_rivalsOf_61 : decode cX5_rivalsOf 61 = .ok (.iload 5, 2) := by decide +kernel
theorem dX5_rivalsOf_63 : decode cX5_rivalsOf 63 = .ok (.ishl, 1) := by decide +kernel
theorem dX5_rivalsOf_64 : decode cX5_rivalsOf 64 = .ok (.goto 4, 3) := by decide +kernel
theorem dX5_rivalsOf_67 : decode cX5_rivalsOf 67 = .ok (.iconst 0, 1) := by decide +kernel
theorem dX5_rivalsOf_68 : decode cX5_rivalsOf 68 = .ok (.ior, 1) := by decide +kernel
theorem dX5_rivalsOf_69 : decode cX5_rivalsOf 69 = .ok (.istore 4, 2) := by decide +kernel
theorem dX5_rivalsOf_71 : decode cX5_rivalsOf 71 = .ok (.iinc 5 1, 3) := by decide +kernel
theorem dX5_rivalsOf_74 : decode cX5_rivalsOf 74 = .ok (.goto (-68), 3) := by decide +kernel
theorem dX5_rivalsOf_77 : decode cX5_rivalsOf 77 = .ok (.iload 4, 2) := by decide +kernel
theorem dX5_rivalsOf_79 : decode cX5_rivalsOf 79 = .ok (.ireturn, 1) := by decide +kernel
