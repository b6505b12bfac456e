theorem dX9_thrown_0 : decode cX9_thrown 0 = .ok (.aload_n 0, 1) := by decide +kernel
theorem dX9_thrown_1 : decode cX9_thrown 1 = .ok (.getfield 106, 3) := by decide +kernel
theorem dX9_thrown_4 : decode cX9_thrown 4 = .ok (.ireturn, 1) := by decide +kernel
theorem dX9_feed_0 : decode cX9_feed 0 = .ok (.aload_n 0, 1) := by decide +kernel
theorem dX9_feed_1 : decode cX9_feed 1 = .ok (.iconst 0, 1) := by decide +kernel
theorem dX9_feed_2 : decode cX9_feed 2 = .ok (.putfield 106, 3) := by decide +kernel
theorem dX9_feed_5 : decode cX9_feed 5 = .ok (.aload_n 0, 1) := by decide +kernel
theorem dX9_feed_6 : decode cX9_feed 6 = .ok (.getfield 109, 3) := by decide +kernel
theorem dX9_feed_9 : decode cX9_feed 9 = .ok (.bipush 20, 2) := by decide +kernel
theorem dX9_feed_11 : decode cX9_feed 11 = .ok (.iadd, 1) := by decide +kernel
theorem dX9_feed_12 : decode cX9_feed 12 = .ok (.sipush 500, 3) := by decide +kernel
theorem dX9_feed_15 : decode cX9_feed 15 = .ok (.if_icmp .le 5, 3) := by decide +kernel
theorem dX9_feed_18 : decode cX9_feed 18 = .ok (.iconst (-1), 1) := by decide +kernel
theorem dX9_feed_19 : decode cX9_feed 19 = .ok (.ireturn, 1) := by decide +kernel
theorem dX9_feed_20 : decode cX9_feed 20 = .ok (.iconst 0, 1) := by decide +kernel
theorem dX9_feed_21 : decode cX9_feed 21 = .ok (.istore 6, 2) := by decide +kernel
theorem dX9_feed_23 : decode cX9_feed 23 = .ok (.iload 6, 2) := by decide +kernel
theorem dX9_feed_25 : decode cX9_feed 25 = .ok (.bipush 20, 2) := by decide +kernel
theorem dX9_feed_27 : decode cX9_feed 27 = .ok (.if_icmp .ge 93, 3) := by decide +kernel
theorem dX9_feed_30 : decode cX9_feed 30 = .ok (.iload 6, 2) := by decide +kernel
theorem dX9_feed_32 : decode cX9_feed 32 = .ok (.iconst 4, 1) := by decide +kernel
theorem dX9_feed_33 : decode cX9_feed 33 = .ok (.if_icmp .ge 7, 3) := by decide +kernel
theorem dX9_feed_36 : decode cX9_feed 36 = .ok (.iload_n 1, 1) := by decide +kernel
theorem dX9_feed_37 : decode cX9_feed 37 = .ok (.goto 39, 3) := by decide +kernel
theorem dX9_feed_40 : decode cX9_feed 40 = .ok (.iload 6, 2) := by decide +kernel
theorem dX9_feed_42 : decode cX9_feed 42 = .ok (.bipush 8, 2) := by decide +kernel
theorem dX9_feed_44 : decode cX9_feed 44 = .ok (.if_icmp .ge 7, 3) := by decide +kernel
theorem dX9_feed_47 : decode cX9_feed 47 = .ok (.iload_n 2, 1) := by decide +kernel
theorem dX9_feed_48 : decode cX9_feed 48 = .ok (.goto 28, 3) := by decide +kernel
theorem dX9_feed_51 : decode cX9_feed 51 = .ok (.iload 6, 2) := by decide +kernel
theorem dX9_feed_53 : decode cX9_feed 53 = .ok (.bipush 12, 2) := by decide +kernel
theorem dX9_feed_55 : decode cX9_feed 55 = .ok (.if_icmp .ge 7, 3) := by decide +kernel
theorem dX9_feed_58 : decode cX9_feed 58 = .ok (.iload_n 3, 1) := by decide +kernel
theorem dX9_feed_59 : decode cX9_feed 59 = .ok (.goto 17, 3) := by decide +kernel
theorem dX9_feed_62 : decode cX9_feed 62 = .ok (.iload 6, 2) := by decide +kernel
theorem dX9_feed_64 : decode cX9_feed 64 = .ok (.bipush 16, 2) := by decide +kernel
theorem dX9_feed_66 : decode cX9_feed 66 = .ok (.if_icmp .ge 8, 3) := by decide +kernel
theorem dX9_feed_69 : decode cX9_feed 69 = .ok (.iload 4, 2) := by decide +kernel
theorem dX9_feed_71 : decode cX9_feed 71 = .ok (.goto 5, 3) := by decide +kernel
theorem dX9_feed_74 : decode cX9_feed 74 = .ok (.iload 5, 2) := by decide +kernel
theorem dX9_feed_76 : decode cX9_feed 76 = .ok (.istore 7, 2) := by decide +kernel
theorem dX9_feed_78 : decode cX9_feed 78 = .ok (.aload_n 0, 1) := by decide +kernel
theorem dX9_feed_79 : decode cX9_feed 79 = .ok (.getfield 13, 3) := by decide +kernel
theorem dX9_feed_82 : decode cX9_feed 82 = .ok (.aload_n 0, 1) := by decide +kernel
theorem dX9_feed_83 : decode cX9_feed 83 = .ok (.getfield 109, 3) := by decide +kernel
theorem dX9_feed_86 : decode cX9_feed 86 = .ok (.iload 7, 2) := by decide +kernel
theorem dX9_feed_88 : decode cX9_feed 88 = .ok (.bipush 24, 2) := by decide +kernel
theorem dX9_feed_90 : decode cX9_feed 90 = .ok (.bipush 8, 2) := by decide +kernel
theorem dX9_feed_92 : decode cX9_feed 92 = .ok (.iload 6, 2) := by decide +kernel
theorem dX9_feed_94 : decode cX9_feed 94 = .ok (.iconst 4, 1) := by decide +kernel
theorem dX9_feed_95 : decode cX9_feed 95 = .ok (.irem, 1) := by decide +kernel
theorem dX9_feed_96 : decode cX9_feed 96 = .ok (.imul, 1) := by decide +kernel
theorem dX9_feed_97 : decode cX9_feed 97 = .ok (.isub, 1) := by decide +kernel
theorem dX9_feed_98 : decode cX9_feed 98 = .ok (.ishr, 1) := by decide +kernel
theorem dX9_feed_99 : decode cX9_feed 99 = .ok (.sipush 255, 3) := by decide +kernel
theorem dX9_feed_102 : decode cX9_feed 102 = .ok (.iand, 1) := by decide +kernel
theorem dX9_feed_103 : decode cX9_feed 103 = .ok (.iastore, 1) := by decide +kernel
theorem dX9_feed_104 : decode cX9_feed 104 = .ok (.aload_n 0, 1) := by decide +kernel
theorem dX9_feed_105 : decode cX9_feed 105 = .ok (.dup, 1) := by decide +kernel
theorem dX9_feed_106 : decode cX9_feed 106 = .ok (.getfield 109, 3) := by decide +kernel
theorem dX9_feed_109 : decode cX9_feed 109 = .ok (.iconst 1, 1) := by decide +kernel
theorem dX9_feed_110 : decode cX9_feed 110 = .ok (.iadd, 1) := by decide +kernel
theorem dX9_feed_111 : decode cX9_feed 111 = .ok (.putfield 109, 3) := by decide +kernel
theorem dX9_feed_114 : decode cX9_feed 114 = .ok (.iinc 6 1, 3) := by decide +kernel
theorem dX9_feed_117 : decode cX9_feed 117 = .ok (.goto (-94), 3) := by decide +kernel
theorem dX9_feed_120 : decode cX9_feed 120 = .ok (.aload_n 0, 1) := by decide +kernel
theorem dX9_feed_121 : decode cX9_feed 121 = .ok (.getfield 109, 3) := by decide +kernel
theorem dX9_feed_124 : decode cX9_feed 124 = .ok (.ireturn, 1) := by decide +kernel
theorem dX9_in_0 : decode cX9_in 0 = .ok (.iload_n 0, 1) := by decide +kernel
theorem dX9_in_1 : decode cX9_in 1 = .ok (.iload_n 1, 1) := by decide +kernel
theorem dX9_in_2 : decode cX9_in 2 = .ok (.if_icmp .lt 12, 3) := by decide +kernel
theorem dX9_in_5 : decode cX9_in 5 = .ok (.iload_n 0, 1) := by decide +kernel
theorem dX9_in_6 : decode cX9_in 6 = .ok (.iload_n 2, 1) := by decide +kernel
theorem dX9_in_7 : decode cX9_in 7 = .ok (.if_icmp .gt 7, 3) := by decide +kernel
theorem dX9_in_10 : decode cX9_in 10 = .ok (.iconst 1, 1) := by decide +kernel
theorem dX9_in_11 : decode cX9_in 11 = .ok (.goto 4, 3) := by decide +kernel
theorem dX9_in_14 : decode cX9_in 14 = .ok (.iconst 0, 1) := by decide +kernel
theorem dX9_in_15 : decode cX9_in 15 = .ok (.ireturn, 1) := by decide +kernel
theorem dX9_bad_0 : decode cX9_bad 0 = .ok (.iload_n 1, 1) := by decide +kernel
theorem dX9_bad_1 : decode cX9_bad 1 = .ok (.ifCond .eq 15, 3) := by decide +kernel
theorem dX9_bad_4 : decode cX9_bad 4 = .ok (.aload_n 0, 1) := by decide +kernel
theorem dX9_bad_5 : decode cX9_bad 5 = .ok (.getfield 106, 3) := by decide +kernel
theorem dX9_bad_8 : decode cX9_bad 8 = .ok (.ifCond .ne 8, 3) := by decide +kernel
theorem dX9_bad_11 : decode cX9_bad 11 = .ok (.aload_n 0, 1) := by decide +kernel
theorem dX9_bad_12 : decode cX9_bad 12 = .ok (.iload_n 2, 1) := by decide +kernel
theorem dX9_bad_13 : decode cX9_bad 13 = .ok (.putfield 106, 3) := by decide +kernel
theorem dX9_bad_16 : decode cX9_bad 16 = .ok (.aload_n 0, 1) := by decide +kernel
theorem dX9_bad_17 : decode cX9_bad 17 = .ok (.getfield 106, 3) := by decide +kernel
theorem dX9_bad_20 : decode cX9_bad 20 = .ok (.ifCond .eq 7, 3) := by decide +kernel
theorem dX9_bad_23 : decode cX9_bad 23 = .ok (.iconst 1, 1) := by decide +kernel
theorem dX9_bad_24 : decode cX9_bad 24 = .ok (.goto 4, 3) := by decide +kernel
theorem dX9_bad_27 : decode cX9_bad 27 = .ok (.iconst 0, 1) := by decide +kernel
theorem dX9_bad_28 : decode cX9_bad 28 = .ok (.ireturn, 1) := by decide +kernel
theorem dX9_byteAt_0 : decode cX9_byteAt 0 = .ok (.iload_n 1, 1) := by decide +kernel
theorem dX9_byteAt_1 : decode cX9_byteAt 1 = .ok (.aload_n 0, 1) := by decide +kernel
theorem dX9_byteAt_2 : decode cX9_byteAt 2 = .ok (.getfield 112, 3) := by decide +kernel
theorem dX9_byteAt_5 : decode cX9_byteAt 5 = .ok (.if_icmp .lt 7, 3) := by decide +kernel
theorem dX9_byteAt_8 : decode cX9_byteAt 8 = .ok (.iconst (-1), 1) := by decide +kernel
theorem dX9_byteAt_9 : decode cX9_byteAt 9 = .ok (.goto 9, 3) := by decide +kernel
theorem dX9_byteAt_12 : decode cX9_byteAt 12 = .ok (.aload_n 0, 1) := by decide +kernel
theorem dX9_byteAt_13 : decode cX9_byteAt 13 = .ok (.getfield 13, 3) := by decide +kernel
theorem dX9_byteAt_16 : decode cX9_byteAt 16 = .ok (.iload_n 1, 1) := by decide +kernel
theorem dX9_byteAt_17 : decode cX9_byteAt 17 = .ok (.iaload, 1) := by decide +kernel
theorem dX9_byteAt_18 : decode cX9_byteAt 18 = .ok (.ireturn, 1) := by decide +kernel
theorem dX9_blanks_0 : decode cX9_blanks 0 = .ok (.aload_n 0, 1) := by decide +kernel
theorem dX9_blanks_1 : decode cX9_blanks 1 = .ok (.aload_n 0, 1) := by decide +kernel
theorem dX9_blanks_2 : decode cX9_blanks 2 = .ok (.getfield 115, 3) := by decide +kernel
theorem dX9_blanks_5 : decode cX9_blanks 5 = .ok (.invokevirtual 118, 3) := by decide +kernel
theorem dX9_blanks_8 : decode cX9_blanks 8 = .ok (.bipush 32, 2) := by decide +kernel
theorem dX9_blanks_10 : decode cX9_blanks 10 = .ok (.if_icmp .ne 16, 3) := by decide +kernel
theorem dX9_blanks_13 : decode cX9_blanks 13 = .ok (.aload_n 0, 1) := by decide +kernel
theorem dX9_blanks_14 : decode cX9_blanks 14 = .ok (.dup, 1) := by decide +kernel
theorem dX9_blanks_15 : decode cX9_blanks 15 = .ok (.getfield 115, 3) := by decide +kernel
theorem dX9_blanks_18 : decode cX9_blanks 18 = .ok (.iconst 1, 1) := by decide +kernel
theorem dX9_blanks_19 : decode cX9_blanks 19 = .ok (.iadd, 1) := by decide +kernel
theorem dX9_blanks_20 : decode cX9_blanks 20 = .ok (.putfield 115, 3) := by decide +kernel
theorem dX9_blanks_23 : decode cX9_blanks 23 = .ok (.goto (-23), 3) := by decide +kernel
theorem dX9_blanks_26 : decode cX9_blanks 26 = .ok (.return_, 1) := by decide +kernel
theorem dX9_wordHere_0 : decode cX9_wordHere 0 = .ok (.aload_n 0, 1) := by decide +kernel
theorem dX9_wordHere_1 : decode cX9_wordHere 1 = .ok (.invokevirtual 128, 3) := by decide +kernel
theorem dX9_wordHere_4 : decode cX9_wordHere 4 = .ok (.iconst 0, 1) := by decide +kernel
theorem dX9_wordHere_5 : decode cX9_wordHere 5 = .ok (.istore_n 1, 1) := by decide +kernel
theorem dX9_wordHere_6 : decode cX9_wordHere 6 = .ok (.iconst 0, 1) := by decide +kernel
theorem dX9_wordHere_7 : decode cX9_wordHere 7 = .ok (.istore_n 2, 1) := by decide +kernel
theorem dX9_wordHere_8 : decode cX9_wordHere 8 = .ok (.aload_n 0, 1) := by decide +kernel
theorem dX9_wordHere_9 : decode cX9_wordHere 9 = .ok (.aload_n 0, 1) := by decide +kernel
theorem dX9_wordHere_10 : decode cX9_wordHere 10 = .ok (.getfield 115, 3) := by decide +kernel
theorem dX9_wordHere_13 : decode cX9_wordHere 13 = .ok (.iload_n 2, 1) := by decide +kernel
theorem dX9_wordHere_14 : decode cX9_wordHere 14 = .ok (.iadd, 1) := by decide +kernel
theorem dX9_wordHere_15 : decode cX9_wordHere 15 = .ok (.invokevirtual 118, 3) := by decide +kernel
theorem dX9_wordHere_18 : decode cX9_wordHere 18 = .ok (.bipush 97, 2) := by decide +kernel
theorem dX9_wordHere_20 : decode cX9_wordHere 20 = .ok (.if_icmp .lt 55, 3) := by decide +kernel
theorem dX9_wordHere_23 : decode cX9_wordHere 23 = .ok (.aload_n 0, 1) := by decide +kernel
theorem dX9_wordHere_24 : decode cX9_wordHere 24 = .ok (.aload_n 0, 1) := by decide +kernel
theorem dX9_wordHere_25 : decode cX9_wordHere 25 = .ok (.getfield 115, 3) := by decide +kernel
theorem dX9_wordHere_28 : decode cX9_wordHere 28 = .ok (.iload_n 2, 1) := by decide +kernel
theorem dX9_wordHere_29 : decode cX9_wordHere 29 = .ok (.iadd, 1) := by decide +kernel
theorem dX9_wordHere_30 : decode cX9_wordHere 30 = .ok (.invokevirtual 118, 3) := by decide +kernel
theorem dX9_wordHere_33 : decode cX9_wordHere 33 = .ok (.bipush 122, 2) := by decide +kernel
theorem dX9_wordHere_35 : decode cX9_wordHere 35 = .ok (.if_icmp .gt 40, 3) := by decide +kernel
theorem dX9_wordHere_38 : decode cX9_wordHere 38 = .ok (.iload_n 2, 1) := by decide +kernel
theorem dX9_wordHere_39 : decode cX9_wordHere 39 = .ok (.bipush 6, 2) := by decide +kernel
theorem dX9_wordHere_41 : decode cX9_wordHere 41 = .ok (.if_icmp .ge 26, 3) := by decide +kernel
theorem dX9_wordHere_44 : decode cX9_wordHere 44 = .ok (.bipush 27, 2) := by decide +kernel
theorem dX9_wordHere_46 : decode cX9_wordHere 46 = .ok (.iload_n 1, 1) := by decide +kernel
theorem dX9_wordHere_47 : decode cX9_wordHere 47 = .ok (.imul, 1) := by decide +kernel
theorem dX9_wordHere_48 : decode cX9_wordHere 48 = .ok (.aload_n 0, 1) := by decide +kernel
theorem dX9_wordHere_49 : decode cX9_wordHere 49 = .ok (.aload_n 0, 1) := by decide +kernel
theorem dX9_wordHere_50 : decode cX9_wordHere 50 = .ok (.getfield 115, 3) := by decide +kernel
theorem dX9_wordHere_53 : decode cX9_wordHere 53 = .ok (.iload_n 2, 1) := by decide +kernel
theorem dX9_wordHere_54 : decode cX9_wordHere 54 = .ok (.iadd, 1) := by decide +kernel
theorem dX9_wordHere_55 : decode cX9_wordHere 55 = .ok (.invokevirtual 118, 3) := by decide +kernel
theorem dX9_wordHere_58 : decode cX9_wordHere 58 = .ok (.iadd, 1) := by decide +kernel
theorem dX9_wordHere_59 : decode cX9_wordHere 59 = .ok (.bipush 97, 2) := by decide +kernel
theorem dX9_wordHere_61 : decode cX9_wordHere 61 = .ok (.isub, 1) := by decide +kernel
theorem dX9_wordHere_62 : decode cX9_wordHere 62 = .ok (.iconst 1, 1) := by decide +kernel
theorem dX9_wordHere_63 : decode cX9_wordHere 63 = .ok (.iadd, 1) := by decide +kernel
theorem dX9_wordHere_64 : decode cX9_wordHere 64 = .ok (.goto 4, 3) := by decide +kernel
theorem dX9_wordHere_67 : decode cX9_wordHere 67 = .ok (.iload_n 1, 1) := by decide +kernel
theorem dX9_wordHere_68 : decode cX9_wordHere 68 = .ok (.istore_n 1, 1) := by decide +kernel
theorem dX9_wordHere_69 : decode cX9_wordHere 69 = .ok (.iinc 2 1, 3) := by decide +kernel
theorem dX9_wordHere_72 : decode cX9_wordHere 72 = .ok (.goto (-64), 3) := by decide +kernel
theorem dX9_wordHere_75 : decode cX9_wordHere 75 = .ok (.iload_n 2, 1) := by decide +kernel
theorem dX9_wordHere_76 : decode cX9_wordHere 76 = .ok (.bipush 6, 2) := by decide +kernel
theorem dX9_wordHere_78 : decode cX9_wordHere 78 = .ok (.if_icmp .le 7, 3) := by decide +kernel
theorem dX9_wordHere_81 : decode cX9_wordHere 81 = .ok (.iconst (-1), 1) := by decide +kernel
theorem dX9_wordHere_82 : decode cX9_wordHere 82 = .ok (.goto 4, 3) := by decide +kernel
theorem dX9_wordHere_85 : decode cX9_wordHere 85 = .ok (.iload_n 1, 1) := by decide +kernel
theorem dX9_wordHere_86 : decode cX9_wordHere 86 = .ok (.ireturn, 1) := by decide +kernel
theorem dX9_named_0 : decode cX9_named 0 = .ok (.bipush 27, 2) := by decide +kernel
theorem dX9_named_2 : decode cX9_named 2 = .ok (.bipush 27, 2) := by decide +kernel
theorem dX9_named_4 : decode cX9_named 4 = .ok (.iload_n 0, 1) := by decide +kernel
theorem dX9_named_5 : decode cX9_named 5 = .ok (.imul, 1) := by decide +kernel
theorem dX9_named_6 : decode cX9_named 6 = .ok (.iload_n 1, 1) := by decide +kernel
theorem dX9_named_7 : decode cX9_named 7 = .ok (.iadd, 1) := by decide +kernel
theorem dX9_named_8 : decode cX9_named 8 = .ok (.imul, 1) := by decide +kernel
theorem dX9_named_9 : decode cX9_named 9 = .ok (.iload_n 2, 1) := by decide +kernel
theorem dX9_named_10 : decode cX9_named 10 = .ok (.iadd, 1) := by decide +kernel
theorem dX9_named_11 : decode cX9_named 11 = .ok (.istore 6, 2) := by decide +kernel
theorem dX9_named_13 : decode cX9_named 13 = .ok (.iload_n 3, 1) := by decide +kernel
theorem dX9_named_14 : decode cX9_named 14 = .ok (.ifCond .ne 8, 3) := by decide +kernel
theorem dX9_named_17 : decode cX9_named 17 = .ok (.iload 6, 2) := by decide +kernel
theorem dX9_named_19 : decode cX9_named 19 = .ok (.goto 10, 3) := by decide +kernel
theorem dX9_named_22 : decode cX9_named 22 = .ok (.bipush 27, 2) := by decide +kernel
theorem dX9_named_24 : decode cX9_named 24 = .ok (.iload 6, 2) := by decide +kernel
theorem dX9_named_26 : decode cX9_named 26 = .ok (.imul, 1) := by decide +kernel
theorem dX9_named_27 : decode cX9_named 27 = .ok (.iload_n 3, 1) := by decide +kernel
theorem dX9_named_28 : decode cX9_named 28 = .ok (.iadd, 1) := by decide +kernel
theorem dX9_named_29 : decode cX9_named 29 = .ok (.istore 6, 2) := by decide +kernel
theorem dX9_named_31 : decode cX9_named 31 = .ok (.iload 4, 2) := by decide +kernel
theorem dX9_named_33 : decode cX9_named 33 = .ok (.ifCond .ne 8, 3) := by decide +kernel
theorem dX9_named_36 : decode cX9_named 36 = .ok (.iload 6, 2) := by decide +kernel
theorem dX9_named_38 : decode cX9_named 38 = .ok (.goto 11, 3) := by decide +kernel
theorem dX9_named_41 : decode cX9_named 41 = .ok (.bipush 27, 2) := by decide +kernel
theorem dX9_named_43 : decode cX9_named 43 = .ok (.iload 6, 2) := by decide +kernel
theorem dX9_named_45 : decode cX9_named 45 = .ok (.imul, 1) := by decide +kernel
theorem dX9_named_46 : decode cX9_named 46 = .ok (.iload 4, 2) := by decide +kernel
theorem dX9_named_48 : decode cX9_named 48 = .ok (.iadd, 1) := by decide +kernel
theorem dX9_named_49 : decode cX9_named 49 = .ok (.istore 6, 2) := by decide +kernel
theorem dX9_named_51 : decode cX9_named 51 = .ok (.iload 5, 2) := by decide +kernel
theorem dX9_named_53 : decode cX9_named 53 = .ok (.ifCond .ne 8, 3) := by decide +kernel
theorem dX9_named_56 : decode cX9_named 56 = .ok (.iload 6, 2) := by decide +kernel
theorem dX9_named_58 : decode cX9_named 58 = .ok (.goto 11, 3) := by decide +kernel
theorem dX9_named_61 : decode cX9_named 61 = .ok (.bipush 27, 2) := by decide +kernel
theorem dX9_named_63 : decode cX9_named 63 = .ok (.iload 6, 2) := by decide +kernel
theorem dX9_named_65 : decode cX9_named 65 = .ok (.imul, 1) := by decide +kernel
theorem dX9_named_66 : decode cX9_named 66 = .ok (.iload 5, 2) := by decide +kernel
theorem dX9_named_68 : decode cX9_named 68 = .ok (.iadd, 1) := by decide +kernel
theorem dX9_named_69 : decode cX9_named 69 = .ok (.ireturn, 1) := by decide +kernel
theorem dX9_isWord_0 : decode cX9_isWord 0 = .ok (.aload_n 0, 1) := by decide +kernel
theorem dX9_isWord_1 : decode cX9_isWord 1 = .ok (.getfield 122, 3) := by decide +kernel
theorem dX9_isWord_4 : decode cX9_isWord 4 = .ok (.ifCond .ne 26, 3) := by decide +kernel
theorem dX9_isWord_7 : decode cX9_isWord 7 = .ok (.aload_n 0, 1) := by decide +kernel
theorem dX9_isWord_8 : decode cX9_isWord 8 = .ok (.invokevirtual 144, 3) := by decide +kernel
theorem dX9_isWord_11 : decode cX9_isWord 11 = .ok (.iload_n 1, 1) := by decide +kernel
theorem dX9_isWord_12 : decode cX9_isWord 12 = .ok (.iload_n 2, 1) := by decide +kernel
theorem dX9_isWord_13 : decode cX9_isWord 13 = .ok (.iload_n 3, 1) := by decide +kernel
theorem dX9_isWord_14 : decode cX9_isWord 14 = .ok (.iload 4, 2) := by decide +kernel
theorem dX9_isWord_16 : decode cX9_isWord 16 = .ok (.iload 5, 2) := by decide +kernel
theorem dX9_isWord_18 : decode cX9_isWord 18 = .ok (.iload 6, 2) := by decide +kernel
theorem dX9_isWord_20 : decode cX9_isWord 20 = .ok (.invokestatic 148, 3) := by decide +kernel
theorem dX9_isWord_23 : decode cX9_isWord 23 = .ok (.if_icmp .ne 7, 3) := by decide +kernel
theorem dX9_isWord_26 : decode cX9_isWord 26 = .ok (.iconst 1, 1) := by decide +kernel
theorem dX9_isWord_27 : decode cX9_isWord 27 = .ok (.goto 4, 3) := by decide +kernel
theorem dX9_isWord_30 : decode cX9_isWord 30 = .ok (.iconst 0, 1) := by decide +kernel
theorem dX9_isWord_31 : decode cX9_isWord 31 = .ok (.ireturn, 1) := by decide +kernel
theorem dX9_wrong_0 : decode cX9_wrong 0 = .ok (.aload_n 0, 1) := by decide +kernel
theorem dX9_wrong_1 : decode cX9_wrong 1 = .ok (.getfield 122, 3) := by decide +kernel
theorem dX9_wrong_4 : decode cX9_wrong 4 = .ok (.ifCond .ne 13, 3) := by decide +kernel
theorem dX9_wrong_7 : decode cX9_wrong 7 = .ok (.aload_n 0, 1) := by decide +kernel
theorem dX9_wrong_8 : decode cX9_wrong 8 = .ok (.iload_n 1, 1) := by decide +kernel
theorem dX9_wrong_9 : decode cX9_wrong 9 = .ok (.putfield 122, 3) := by decide +kernel
theorem dX9_wrong_12 : decode cX9_wrong 12 = .ok (.aload_n 0, 1) := by decide +kernel
theorem dX9_wrong_13 : decode cX9_wrong 13 = .ok (.iload_n 2, 1) := by decide +kernel
theorem dX9_wrong_14 : decode cX9_wrong 14 = .ok (.putfield 125, 3) := by decide +kernel
theorem dX9_wrong_17 : decode cX9_wrong 17 = .ok (.return_, 1) := by decide +kernel
theorem dX9_skipWord_0 : decode cX9_skipWord 0 = .ok (.aload_n 0, 1) := by decide +kernel
theorem dX9_skipWord_1 : decode cX9_skipWord 1 = .ok (.aload_n 0, 1) := by decide +kernel
theorem dX9_skipWord_2 : decode cX9_skipWord 2 = .ok (.getfield 115, 3) := by decide +kernel
theorem dX9_skipWord_5 : decode cX9_skipWord 5 = .ok (.invokevirtual 118, 3) := by decide +kernel
theorem dX9_skipWord_8 : decode cX9_skipWord 8 = .ok (.bipush 97, 2) := by decide +kernel
theorem dX9_skipWord_10 : decode cX9_skipWord 10 = .ok (.if_icmp .lt 29, 3) := by decide +kernel
theorem dX9_skipWord_13 : decode cX9_skipWord 13 = .ok (.aload_n 0, 1) := by decide +kernel
theorem dX9_skipWord_14 : decode cX9_skipWord 14 = .ok (.aload_n 0, 1) := by decide +kernel
theorem dX9_skipWord_15 : decode cX9_skipWord 15 = .ok (.getfield 115, 3) := by decide +kernel
theorem dX9_skipWord_18 : decode cX9_skipWord 18 = .ok (.invokevirtual 118, 3) := by decide +kernel
theorem dX9_skipWord_21 : decode cX9_skipWord 21 = .ok (.bipush 122, 2) := by decide +kernel
theorem dX9_skipWord_23 : decode cX9_skipWord 23 = .ok (.if_icmp .gt 16, 3) := by decide +kernel
theorem dX9_skipWord_26 : decode cX9_skipWord 26 = .ok (.aload_n 0, 1) := by decide +kernel
theorem dX9_skipWord_27 : decode cX9_skipWord 27 = .ok (.dup, 1) := by decide +kernel
theorem dX9_skipWord_28 : decode cX9_skipWord 28 = .ok (.getfield 115, 3) := by decide +kernel
theorem dX9_skipWord_31 : decode cX9_skipWord 31 = .ok (.iconst 1, 1) := by decide +kernel
theorem dX9_skipWord_32 : decode cX9_skipWord 32 = .ok (.iadd, 1) := by decide +kernel
theorem dX9_skipWord_33 : decode cX9_skipWord 33 = .ok (.putfield 115, 3) := by decide +kernel
theorem dX9_skipWord_36 : decode cX9_skipWord 36 = .ok (.goto (-36), 3) := by decide +kernel
theorem dX9_skipWord_39 : decode cX9_skipWord 39 = .ok (.return_, 1) := by decide +kernel
theorem dX9_isDigit_0 : decode cX9_isDigit 0 = .ok (.iload_n 0, 1) := by decide +kernel
theorem dX9_isDigit_1 : decode cX9_isDigit 1 = .ok (.bipush 48, 2) := by decide +kernel
theorem dX9_isDigit_3 : decode cX9_isDigit 3 = .ok (.if_icmp .lt 13, 3) := by decide +kernel
theorem dX9_isDigit_6 : decode cX9_isDigit 6 = .ok (.iload_n 0, 1) := by decide +kernel
theorem dX9_isDigit_7 : decode cX9_isDigit 7 = .ok (.bipush 57, 2) := by decide +kernel
theorem dX9_isDigit_9 : decode cX9_isDigit 9 = .ok (.if_icmp .gt 7, 3) := by decide +kernel
theorem dX9_isDigit_12 : decode cX9_isDigit 12 = .ok (.iconst 1, 1) := by decide +kernel
theorem dX9_isDigit_13 : decode cX9_isDigit 13 = .ok (.goto 4, 3) := by decide +kernel
theorem dX9_isDigit_16 : decode cX9_isDigit 16 = .ok (.iconst 0, 1) := by decide +kernel
theorem dX9_isDigit_17 : decode cX9_isDigit 17 = .ok (.ireturn, 1) := by decide +kernel
theorem dX9_number_0 : decode cX9_number 0 = .ok (.aload_n 0, 1) := by decide +kernel
theorem dX9_number_1 : decode cX9_number 1 = .ok (.getfield 122, 3) := by decide +kernel
theorem dX9_number_4 : decode cX9_number 4 = .ok (.ifCond .eq 5, 3) := by decide +kernel
theorem dX9_number_7 : decode cX9_number 7 = .ok (.iconst 0, 1) := by decide +kernel
theorem dX9_number_8 : decode cX9_number 8 = .ok (.ireturn, 1) := by decide +kernel
theorem dX9_number_9 : decode cX9_number 9 = .ok (.aload_n 0, 1) := by decide +kernel
theorem dX9_number_10 : decode cX9_number 10 = .ok (.invokevirtual 128, 3) := by decide +kernel
theorem dX9_number_13 : decode cX9_number 13 = .ok (.aload_n 0, 1) := by decide +kernel
theorem dX9_number_14 : decode cX9_number 14 = .ok (.getfield 115, 3) := by decide +kernel
theorem dX9_number_17 : decode cX9_number 17 = .ok (.istore 4, 2) := by decide +kernel
theorem dX9_number_19 : decode cX9_number 19 = .ok (.iconst 0, 1) := by decide +kernel
theorem dX9_number_20 : decode cX9_number 20 = .ok (.istore 5, 2) := by decide +kernel
theorem dX9_number_22 : decode cX9_number 22 = .ok (.aload_n 0, 1) := by decide +kernel
theorem dX9_number_23 : decode cX9_number 23 = .ok (.aload_n 0, 1) := by decide +kernel
theorem dX9_number_24 : decode cX9_number 24 = .ok (.getfield 115, 3) := by decide +kernel
theorem dX9_number_27 : decode cX9_number 27 = .ok (.invokevirtual 118, 3) := by decide +kernel
theorem dX9_number_30 : decode cX9_number 30 = .ok (.invokestatic 131, 3) := by decide +kernel
theorem dX9_number_33 : decode cX9_number 33 = .ok (.ifCond .ne 12, 3) := by decide +kernel
theorem dX9_number_36 : decode cX9_number 36 = .ok (.aload_n 0, 1) := by decide +kernel
theorem dX9_number_37 : decode cX9_number 37 = .ok (.iconst 1, 1) := by decide +kernel
theorem dX9_number_38 : decode cX9_number 38 = .ok (.aload_n 0, 1) := by decide +kernel
theorem dX9_number_39 : decode cX9_number 39 = .ok (.getfield 115, 3) := by decide +kernel
theorem dX9_number_42 : decode cX9_number 42 = .ok (.invokevirtual 135, 3) := by decide +kernel
theorem dX9_number_45 : decode cX9_number 45 = .ok (.aload_n 0, 1) := by decide +kernel
theorem dX9_number_46 : decode cX9_number 46 = .ok (.aload_n 0, 1) := by decide +kernel
theorem dX9_number_47 : decode cX9_number 47 = .ok (.getfield 115, 3) := by decide +kernel
theorem dX9_number_50 : decode cX9_number 50 = .ok (.invokevirtual 118, 3) := by decide +kernel
theorem dX9_number_53 : decode cX9_number 53 = .ok (.invokestatic 131, 3) := by decide +kernel
theorem dX9_number_56 : decode cX9_number 56 = .ok (.ifCond .eq 51, 3) := by decide +kernel
theorem dX9_number_59 : decode cX9_number 59 = .ok (.bipush 10, 2) := by decide +kernel
theorem dX9_number_61 : decode cX9_number 61 = .ok (.iload 5, 2) := by decide +kernel
theorem dX9_number_63 : decode cX9_number 63 = .ok (.imul, 1) := by decide +kernel
theorem dX9_number_64 : decode cX9_number 64 = .ok (.aload_n 0, 1) := by decide +kernel
theorem dX9_number_65 : decode cX9_number 65 = .ok (.aload_n 0, 1) := by decide +kernel
theorem dX9_number_66 : decode cX9_number 66 = .ok (.getfield 115, 3) := by decide +kernel
theorem dX9_number_69 : decode cX9_number 69 = .ok (.invokevirtual 118, 3) := by decide +kernel
theorem dX9_number_72 : decode cX9_number 72 = .ok (.iadd, 1) := by decide +kernel
theorem dX9_number_73 : decode cX9_number 73 = .ok (.bipush 48, 2) := by decide +kernel
theorem dX9_number_75 : decode cX9_number 75 = .ok (.isub, 1) := by decide +kernel
theorem dX9_number_76 : decode cX9_number 76 = .ok (.istore 5, 2) := by decide +kernel
theorem dX9_number_78 : decode cX9_number 78 = .ok (.iload 5, 2) := by decide +kernel
theorem dX9_number_80 : decode cX9_number 80 = .ok (.ldc 139, 2) := by decide +kernel
theorem dX9_number_82 : decode cX9_number 82 = .ok (.if_icmp .le 8, 3) := by decide +kernel
theorem dX9_number_85 : decode cX9_number 85 = .ok (.ldc 139, 2) := by decide +kernel
theorem dX9_number_87 : decode cX9_number 87 = .ok (.goto 5, 3) := by decide +kernel
theorem dX9_number_90 : decode cX9_number 90 = .ok (.iload 5, 2) := by decide +kernel
theorem dX9_number_92 : decode cX9_number 92 = .ok (.istore 5, 2) := by decide +kernel
theorem dX9_number_94 : decode cX9_number 94 = .ok (.aload_n 0, 1) := by decide +kernel
theorem dX9_number_95 : decode cX9_number 95 = .ok (.dup, 1) := by decide +kernel
theorem dX9_number_96 : decode cX9_number 96 = .ok (.getfield 115, 3) := by decide +kernel
theorem dX9_number_99 : decode cX9_number 99 = .ok (.iconst 1, 1) := by decide +kernel
theorem dX9_number_100 : decode cX9_number 100 = .ok (.iadd, 1) := by decide +kernel
theorem dX9_number_101 : decode cX9_number 101 = .ok (.putfield 115, 3) := by decide +kernel
theorem dX9_number_104 : decode cX9_number 104 = .ok (.goto (-59), 3) := by decide +kernel
theorem dX9_number_107 : decode cX9_number 107 = .ok (.iload 5, 2) := by decide +kernel
theorem dX9_number_109 : decode cX9_number 109 = .ok (.iload_n 1, 1) := by decide +kernel
theorem dX9_number_110 : decode cX9_number 110 = .ok (.iload_n 2, 1) := by decide +kernel
theorem dX9_number_111 : decode cX9_number 111 = .ok (.invokestatic 140, 3) := by decide +kernel
theorem dX9_number_114 : decode cX9_number 114 = .ok (.ifCond .eq 9, 3) := by decide +kernel
theorem dX9_number_117 : decode cX9_number 117 = .ok (.iload 5, 2) := by decide +kernel
theorem dX9_number_119 : decode cX9_number 119 = .ok (.iload_n 3, 1) := by decide +kernel
theorem dX9_number_120 : decode cX9_number 120 = .ok (.if_icmp .ne 10, 3) := by decide +kernel
theorem dX9_number_123 : decode cX9_number 123 = .ok (.aload_n 0, 1) := by decide +kernel
theorem dX9_number_124 : decode cX9_number 124 = .ok (.iconst 2, 1) := by decide +kernel
theorem dX9_number_125 : decode cX9_number 125 = .ok (.iload 4, 2) := by decide +kernel
theorem dX9_number_127 : decode cX9_number 127 = .ok (.invokevirtual 135, 3) := by decide +kernel
theorem dX9_number_130 : decode cX9_number 130 = .ok (.iload 5, 2) := by decide +kernel
theorem dX9_number_132 : decode cX9_number 132 = .ok (.ireturn, 1) := by decide +kernel
theorem dX9_sign_0 : decode cX9_sign 0 = .ok (.aload_n 0, 1) := by decide +kernel
theorem dX9_sign_1 : decode cX9_sign 1 = .ok (.getfield 122, 3) := by decide +kernel
theorem dX9_sign_4 : decode cX9_sign 4 = .ok (.ifCond .eq 4, 3) := by decide +kernel
theorem dX9_sign_7 : decode cX9_sign 7 = .ok (.return_, 1) := by decide +kernel
theorem dX9_sign_8 : decode cX9_sign 8 = .ok (.aload_n 0, 1) := by decide +kernel
theorem dX9_sign_9 : decode cX9_sign 9 = .ok (.invokevirtual 128, 3) := by decide +kernel
theorem dX9_sign_12 : decode cX9_sign 12 = .ok (.aload_n 0, 1) := by decide +kernel
theorem dX9_sign_13 : decode cX9_sign 13 = .ok (.aload_n 0, 1) := by decide +kernel
theorem dX9_sign_14 : decode cX9_sign 14 = .ok (.getfield 115, 3) := by decide +kernel
theorem dX9_sign_17 : decode cX9_sign 17 = .ok (.invokevirtual 118, 3) := by decide +kernel
theorem dX9_sign_20 : decode cX9_sign 20 = .ok (.iload_n 1, 1) := by decide +kernel
theorem dX9_sign_21 : decode cX9_sign 21 = .ok (.if_icmp .ne 16, 3) := by decide +kernel
theorem dX9_sign_24 : decode cX9_sign 24 = .ok (.aload_n 0, 1) := by decide +kernel
theorem dX9_sign_25 : decode cX9_sign 25 = .ok (.dup, 1) := by decide +kernel
theorem dX9_sign_26 : decode cX9_sign 26 = .ok (.getfield 115, 3) := by decide +kernel
theorem dX9_sign_29 : decode cX9_sign 29 = .ok (.iconst 1, 1) := by decide +kernel
theorem dX9_sign_30 : decode cX9_sign 30 = .ok (.iadd, 1) := by decide +kernel
theorem dX9_sign_31 : decode cX9_sign 31 = .ok (.putfield 115, 3) := by decide +kernel
theorem dX9_sign_34 : decode cX9_sign 34 = .ok (.goto 12, 3) := by decide +kernel
theorem dX9_sign_37 : decode cX9_sign 37 = .ok (.aload_n 0, 1) := by decide +kernel
theorem dX9_sign_38 : decode cX9_sign 38 = .ok (.iconst 1, 1) := by decide +kernel
theorem dX9_sign_39 : decode cX9_sign 39 = .ok (.aload_n 0, 1) := by decide +kernel
theorem dX9_sign_40 : decode cX9_sign 40 = .ok (.getfield 115, 3) := by decide +kernel
theorem dX9_sign_43 : decode cX9_sign 43 = .ok (.invokevirtual 135, 3) := by decide +kernel
theorem dX9_sign_46 : decode cX9_sign 46 = .ok (.return_, 1) := by decide +kernel
theorem dX9_asks_0 : decode cX9_asks 0 = .ok (.aload_n 0, 1) := by decide +kernel
theorem dX9_asks_1 : decode cX9_asks 1 = .ok (.iconst 1, 1) := by decide +kernel
theorem dX9_asks_2 : decode cX9_asks 2 = .ok (.bipush 19, 2) := by decide +kernel
theorem dX9_asks_4 : decode cX9_asks 4 = .ok (.bipush 11, 2) := by decide +kernel
theorem dX9_asks_6 : decode cX9_asks 6 = .ok (.bipush 19, 2) := by decide +kernel
theorem dX9_asks_8 : decode cX9_asks 8 = .ok (.iconst 0, 1) := by decide +kernel
theorem dX9_asks_9 : decode cX9_asks 9 = .ok (.iconst 0, 1) := by decide +kernel
theorem dX9_asks_10 : decode cX9_asks 10 = .ok (.invokevirtual 152, 3) := by decide +kernel
theorem dX9_asks_13 : decode cX9_asks 13 = .ok (.ifCond .ne 12, 3) := by decide +kernel
theorem dX9_asks_16 : decode cX9_asks 16 = .ok (.aload_n 0, 1) := by decide +kernel
theorem dX9_asks_17 : decode cX9_asks 17 = .ok (.iconst 1, 1) := by decide +kernel
theorem dX9_asks_18 : decode cX9_asks 18 = .ok (.aload_n 0, 1) := by decide +kernel
theorem dX9_asks_19 : decode cX9_asks 19 = .ok (.getfield 115, 3) := by decide +kernel
theorem dX9_asks_22 : decode cX9_asks 22 = .ok (.invokevirtual 135, 3) := by decide +kernel
theorem dX9_asks_25 : decode cX9_asks 25 = .ok (.aload_n 0, 1) := by decide +kernel
theorem dX9_asks_26 : decode cX9_asks 26 = .ok (.getfield 122, 3) := by decide +kernel
theorem dX9_asks_29 : decode cX9_asks 29 = .ok (.ifCond .eq 4, 3) := by decide +kernel
theorem dX9_asks_32 : decode cX9_asks 32 = .ok (.return_, 1) := by decide +kernel
theorem dX9_asks_33 : decode cX9_asks 33 = .ok (.aload_n 0, 1) := by decide +kernel
theorem dX9_asks_34 : decode cX9_asks 34 = .ok (.invokevirtual 156, 3) := by decide +kernel
theorem dX9_asks_37 : decode cX9_asks 37 = .ok (.aload_n 0, 1) := by decide +kernel
theorem dX9_asks_38 : decode cX9_asks 38 = .ok (.getfield 20, 3) := by decide +kernel
theorem dX9_asks_41 : decode cX9_asks 41 = .ok (.iconst 0, 1) := by decide +kernel
theorem dX9_asks_42 : decode cX9_asks 42 = .ok (.aload_n 0, 1) := by decide +kernel
theorem dX9_asks_43 : decode cX9_asks 43 = .ok (.iconst 1, 1) := by decide +kernel
theorem dX9_asks_44 : decode cX9_asks 44 = .ok (.iconst 4, 1) := by decide +kernel
theorem dX9_asks_45 : decode cX9_asks 45 = .ok (.iconst (-1), 1) := by decide +kernel
theorem dX9_asks_46 : decode cX9_asks 46 = .ok (.invokevirtual 159, 3) := by decide +kernel
theorem dX9_asks_49 : decode cX9_asks 49 = .ok (.iastore, 1) := by decide +kernel
theorem dX9_asks_50 : decode cX9_asks 50 = .ok (.aload_n 0, 1) := by decide +kernel
theorem dX9_asks_51 : decode cX9_asks 51 = .ok (.getfield 20, 3) := by decide +kernel
theorem dX9_asks_54 : decode cX9_asks 54 = .ok (.iconst 1, 1) := by decide +kernel
theorem dX9_asks_55 : decode cX9_asks 55 = .ok (.iconst 0, 1) := by decide +kernel
theorem dX9_asks_56 : decode cX9_asks 56 = .ok (.iastore, 1) := by decide +kernel
theorem dX9_asks_57 : decode cX9_asks 57 = .ok (.aload_n 0, 1) := by decide +kernel
theorem dX9_asks_58 : decode cX9_asks 58 = .ok (.getfield 20, 3) := by decide +kernel
theorem dX9_asks_61 : decode cX9_asks 61 = .ok (.iconst 2, 1) := by decide +kernel
theorem dX9_asks_62 : decode cX9_asks 62 = .ok (.iconst 0, 1) := by decide +kernel
theorem dX9_asks_63 : decode cX9_asks 63 = .ok (.iastore, 1) := by decide +kernel
theorem dX9_asks_64 : decode cX9_asks 64 = .ok (.aload_n 0, 1) := by decide +kernel
theorem dX9_asks_65 : decode cX9_asks 65 = .ok (.getfield 20, 3) := by decide +kernel
theorem dX9_asks_68 : decode cX9_asks 68 = .ok (.iconst 3, 1) := by decide +kernel
theorem dX9_asks_69 : decode cX9_asks 69 = .ok (.iconst 4, 1) := by decide +kernel
theorem dX9_asks_70 : decode cX9_asks 70 = .ok (.iastore, 1) := by decide +kernel
theorem dX9_asks_71 : decode cX9_asks 71 = .ok (.aload_n 0, 1) := by decide +kernel
theorem dX9_asks_72 : decode cX9_asks 72 = .ok (.getfield 20, 3) := by decide +kernel
theorem dX9_asks_75 : decode cX9_asks 75 = .ok (.iconst 4, 1) := by decide +kernel
theorem dX9_asks_76 : decode cX9_asks 76 = .ok (.sipush 480, 3) := by decide +kernel
theorem dX9_asks_79 : decode cX9_asks 79 = .ok (.iastore, 1) := by decide +kernel
theorem dX9_asks_80 : decode cX9_asks 80 = .ok (.aload_n 0, 1) := by decide +kernel
theorem dX9_asks_81 : decode cX9_asks 81 = .ok (.getfield 20, 3) := by decide +kernel
theorem dX9_asks_84 : decode cX9_asks 84 = .ok (.iconst 5, 1) := by decide +kernel
theorem dX9_asks_85 : decode cX9_asks 85 = .ok (.iconst 0, 1) := by decide +kernel
theorem dX9_asks_86 : decode cX9_asks 86 = .ok (.iastore, 1) := by decide +kernel
theorem dX9_asks_87 : decode cX9_asks 87 = .ok (.iconst 0, 1) := by decide +kernel
theorem dX9_asks_88 : decode cX9_asks 88 = .ok (.istore_n 1, 1) := by decide +kernel
theorem dX9_asks_89 : decode cX9_asks 89 = .ok (.iload_n 1, 1) := by decide +kernel
theorem dX9_asks_90 : decode cX9_asks 90 = .ok (.bipush 8, 2) := by decide +kernel
theorem dX9_asks_92 : decode cX9_asks 92 = .ok (.if_icmp .ge 16, 3) := by decide +kernel
theorem dX9_asks_95 : decode cX9_asks 95 = .ok (.aload_n 0, 1) := by decide +kernel
theorem dX9_asks_96 : decode cX9_asks 96 = .ok (.getfield 46, 3) := by decide +kernel
theorem dX9_asks_99 : decode cX9_asks 99 = .ok (.iload_n 1, 1) := by decide +kernel
theorem dX9_asks_100 : decode cX9_asks 100 = .ok (.iconst 0, 1) := by decide +kernel
theorem dX9_asks_101 : decode cX9_asks 101 = .ok (.iastore, 1) := by decide +kernel
theorem dX9_asks_102 : decode cX9_asks 102 = .ok (.iinc 1 1, 3) := by decide +kernel
theorem dX9_asks_105 : decode cX9_asks 105 = .ok (.goto (-16), 3) := by decide +kernel
theorem dX9_asks_108 : decode cX9_asks 108 = .ok (.aload_n 0, 1) := by decide +kernel
theorem dX9_asks_109 : decode cX9_asks 109 = .ok (.bipush 59, 2) := by decide +kernel
theorem dX9_asks_111 : decode cX9_asks 111 = .ok (.invokevirtual 163, 3) := by decide +kernel
theorem dX9_asks_114 : decode cX9_asks 114 = .ok (.aload_n 0, 1) := by decide +kernel
theorem dX9_asks_115 : decode cX9_asks 115 = .ok (.iconst 1, 1) := by decide +kernel
theorem dX9_asks_116 : decode cX9_asks 116 = .ok (.putfield 167, 3) := by decide +kernel
theorem dX9_asks_119 : decode cX9_asks 119 = .ok (.return_, 1) := by decide +kernel
theorem dX9_kindHere_0 : decode cX9_kindHere 0 = .ok (.aload_n 0, 1) := by decide +kernel
theorem dX9_kindHere_1 : decode cX9_kindHere 1 = .ok (.bipush 16, 2) := by decide +kernel
theorem dX9_kindHere_3 : decode cX9_kindHere 3 = .ok (.iconst 5, 1) := by decide +kernel
theorem dX9_kindHere_4 : decode cX9_kindHere 4 = .ok (.bipush 18, 2) := by decide +kernel
theorem dX9_kindHere_6 : decode cX9_kindHere 6 = .ok (.bipush 19, 2) := by decide +kernel
theorem dX9_kindHere_8 : decode cX9_kindHere 8 = .ok (.bipush 15, 2) := by decide +kernel
theorem dX9_kindHere_10 : decode cX9_kindHere 10 = .ok (.bipush 14, 2) := by decide +kernel
theorem dX9_kindHere_12 : decode cX9_kindHere 12 = .ok (.invokevirtual 152, 3) := by decide +kernel
theorem dX9_kindHere_15 : decode cX9_kindHere 15 = .ok (.ifCond .eq 5, 3) := by decide +kernel
theorem dX9_kindHere_18 : decode cX9_kindHere 18 = .ok (.iconst 0, 1) := by decide +kernel
theorem dX9_kindHere_19 : decode cX9_kindHere 19 = .ok (.ireturn, 1) := by decide +kernel
theorem dX9_kindHere_20 : decode cX9_kindHere 20 = .ok (.aload_n 0, 1) := by decide +kernel
theorem dX9_kindHere_21 : decode cX9_kindHere 21 = .ok (.bipush 6, 2) := by decide +kernel
theorem dX9_kindHere_23 : decode cX9_kindHere 23 = .ok (.iconst 5, 1) := by decide +kernel
theorem dX9_kindHere_24 : decode cX9_kindHere 24 = .ok (.bipush 9, 2) := by decide +kernel
theorem dX9_kindHere_26 : decode cX9_kindHere 26 = .ok (.bipush 7, 2) := by decide +kernel
theorem dX9_kindHere_28 : decode cX9_kindHere 28 = .ok (.bipush 14, 2) := by decide +kernel
theorem dX9_kindHere_30 : decode cX9_kindHere 30 = .ok (.bipush 19, 2) := by decide +kernel
theorem dX9_kindHere_32 : decode cX9_kindHere 32 = .ok (.invokevirtual 152, 3) := by decide +kernel
theorem dX9_kindHere_35 : decode cX9_kindHere 35 = .ok (.ifCond .eq 5, 3) := by decide +kernel
theorem dX9_kindHere_38 : decode cX9_kindHere 38 = .ok (.iconst 1, 1) := by decide +kernel
theorem dX9_kindHere_39 : decode cX9_kindHere 39 = .ok (.ireturn, 1) := by decide +kernel
theorem dX9_kindHere_40 : decode cX9_kindHere 40 = .ok (.aload_n 0, 1) := by decide +kernel
theorem dX9_kindHere_41 : decode cX9_kindHere 41 = .ok (.bipush 11, 2) := by decide +kernel
theorem dX9_kindHere_43 : decode cX9_kindHere 43 = .ok (.bipush 9, 2) := by decide +kernel
theorem dX9_kindHere_45 : decode cX9_kindHere 45 = .ok (.bipush 14, 2) := by decide +kernel
theorem dX9_kindHere_47 : decode cX9_kindHere 47 = .ok (.iconst 0, 1) := by decide +kernel
theorem dX9_kindHere_48 : decode cX9_kindHere 48 = .ok (.iconst 0, 1) := by decide +kernel
theorem dX9_kindHere_49 : decode cX9_kindHere 49 = .ok (.iconst 0, 1) := by decide +kernel
theorem dX9_kindHere_50 : decode cX9_kindHere 50 = .ok (.invokevirtual 152, 3) := by decide +kernel
theorem dX9_kindHere_53 : decode cX9_kindHere 53 = .ok (.ifCond .eq 5, 3) := by decide +kernel
theorem dX9_kindHere_56 : decode cX9_kindHere 56 = .ok (.iconst 2, 1) := by decide +kernel
theorem dX9_kindHere_57 : decode cX9_kindHere 57 = .ok (.ireturn, 1) := by decide +kernel
theorem dX9_kindHere_58 : decode cX9_kindHere 58 = .ok (.aload_n 0, 1) := by decide +kernel
theorem dX9_kindHere_59 : decode cX9_kindHere 59 = .ok (.iconst 4, 1) := by decide +kernel
theorem dX9_kindHere_60 : decode cX9_kindHere 60 = .ok (.bipush 15, 2) := by decide +kernel
theorem dX9_kindHere_62 : decode cX9_kindHere 62 = .ok (.bipush 15, 2) := by decide +kernel
theorem dX9_kindHere_64 : decode cX9_kindHere 64 = .ok (.bipush 18, 2) := by decide +kernel
theorem dX9_kindHere_66 : decode cX9_kindHere 66 = .ok (.iconst 0, 1) := by decide +kernel
theorem dX9_kindHere_67 : decode cX9_kindHere 67 = .ok (.iconst 0, 1) := by decide +kernel
theorem dX9_kindHere_68 : decode cX9_kindHere 68 = .ok (.invokevirtual 152, 3) := by decide +kernel
theorem dX9_kindHere_71 : decode cX9_kindHere 71 = .ok (.ifCond .eq 5, 3) := by decide +kernel
theorem dX9_kindHere_74 : decode cX9_kindHere 74 = .ok (.iconst 3, 1) := by decide +kernel
theorem dX9_kindHere_75 : decode cX9_kindHere 75 = .ok (.ireturn, 1) := by decide +kernel
theorem dX9_kindHere_76 : decode cX9_kindHere 76 = .ok (.aload_n 0, 1) := by decide +kernel
theorem dX9_kindHere_77 : decode cX9_kindHere 77 = .ok (.bipush 7, 2) := by decide +kernel
theorem dX9_kindHere_79 : decode cX9_kindHere 79 = .ok (.iconst 1, 1) := by decide +kernel
theorem dX9_kindHere_80 : decode cX9_kindHere 80 = .ok (.bipush 16, 2) := by decide +kernel
theorem dX9_kindHere_82 : decode cX9_kindHere 82 = .ok (.iconst 0, 1) := by decide +kernel
theorem dX9_kindHere_83 : decode cX9_kindHere 83 = .ok (.iconst 0, 1) := by decide +kernel
theorem dX9_kindHere_84 : decode cX9_kindHere 84 = .ok (.iconst 0, 1) := by decide +kernel
theorem dX9_kindHere_85 : decode cX9_kindHere 85 = .ok (.invokevirtual 152, 3) := by decide +kernel
theorem dX9_kindHere_88 : decode cX9_kindHere 88 = .ok (.ifCond .eq 5, 3) := by decide +kernel
theorem dX9_kindHere_91 : decode cX9_kindHere 91 = .ok (.iconst 4, 1) := by decide +kernel
theorem dX9_kindHere_92 : decode cX9_kindHere 92 = .ok (.ireturn, 1) := by decide +kernel
theorem dX9_kindHere_93 : decode cX9_kindHere 93 = .ok (.aload_n 0, 1) := by decide +kernel
theorem dX9_kindHere_94 : decode cX9_kindHere 94 = .ok (.iconst 4, 1) := by decide +kernel
theorem dX9_kindHere_95 : decode cX9_kindHere 95 = .ok (.iconst 1, 1) := by decide +kernel
theorem dX9_kindHere_96 : decode cX9_kindHere 96 = .ok (.bipush 25, 2) := by decide +kernel
theorem dX9_kindHere_98 : decode cX9_kindHere 98 = .ok (.iconst 0, 1) := by decide +kernel
theorem dX9_kindHere_99 : decode cX9_kindHere 99 = .ok (.iconst 0, 1) := by decide +kernel
theorem dX9_kindHere_100 : decode cX9_kindHere 100 = .ok (.iconst 0, 1) := by decide +kernel
theorem dX9_kindHere_101 : decode cX9_kindHere 101 = .ok (.invokevirtual 152, 3) := by decide +kernel
theorem dX9_kindHere_104 : decode cX9_kindHere 104 = .ok (.ifCond .eq 5, 3) := by decide +kernel
theorem dX9_kindHere_107 : decode cX9_kindHere 107 = .ok (.iconst 5, 1) := by decide +kernel
theorem dX9_kindHere_108 : decode cX9_kindHere 108 = .ok (.ireturn, 1) := by decide +kernel
theorem dX9_kindHere_109 : decode cX9_kindHere 109 = .ok (.aload_n 0, 1) := by decide +kernel
theorem dX9_kindHere_110 : decode cX9_kindHere 110 = .ok (.bipush 19, 2) := by decide +kernel
theorem dX9_kindHere_112 : decode cX9_kindHere 112 = .ok (.bipush 12, 2) := by decide +kernel
theorem dX9_kindHere_114 : decode cX9_kindHere 114 = .ok (.iconst 1, 1) := by decide +kernel
theorem dX9_kindHere_115 : decode cX9_kindHere 115 = .ok (.bipush 20, 2) := by decide +kernel
theorem dX9_kindHere_117 : decode cX9_kindHere 117 = .ok (.iconst 5, 1) := by decide +kernel
theorem dX9_kindHere_118 : decode cX9_kindHere 118 = .ok (.iconst 0, 1) := by decide +kernel
theorem dX9_kindHere_119 : decode cX9_kindHere 119 = .ok (.invokevirtual 152, 3) := by decide +kernel
theorem dX9_kindHere_122 : decode cX9_kindHere 122 = .ok (.ifCond .eq 8, 3) := by decide +kernel
theorem dX9_kindHere_125 : decode cX9_kindHere 125 = .ok (.bipush 6, 2) := by decide +kernel
theorem dX9_kindHere_127 : decode cX9_kindHere 127 = .ok (.goto 4, 3) := by decide +kernel
theorem dX9_kindHere_130 : decode cX9_kindHere 130 = .ok (.iconst (-1), 1) := by decide +kernel
theorem dX9_kindHere_131 : decode cX9_kindHere 131 = .ok (.ireturn, 1) := by decide +kernel
theorem dX9_digits_0 : decode cX9_digits 0 = .ok (.aload_n 0, 1) := by decide +kernel
theorem dX9_digits_1 : decode cX9_digits 1 = .ok (.getfield 122, 3) := by decide +kernel
theorem dX9_digits_4 : decode cX9_digits 4 = .ok (.ifCond .eq 5, 3) := by decide +kernel
theorem dX9_digits_7 : decode cX9_digits 7 = .ok (.iconst 0, 1) := by decide +kernel
theorem dX9_digits_8 : decode cX9_digits 8 = .ok (.ireturn, 1) := by decide +kernel
theorem dX9_digits_9 : decode cX9_digits 9 = .ok (.aload_n 0, 1) := by decide +kernel
theorem dX9_digits_10 : decode cX9_digits 10 = .ok (.invokevirtual 128, 3) := by decide +kernel
theorem dX9_digits_13 : decode cX9_digits 13 = .ok (.aload_n 0, 1) := by decide +kernel
theorem dX9_digits_14 : decode cX9_digits 14 = .ok (.getfield 115, 3) := by decide +kernel
theorem dX9_digits_17 : decode cX9_digits 17 = .ok (.istore 4, 2) := by decide +kernel
theorem dX9_digits_19 : decode cX9_digits 19 = .ok (.iconst 0, 1) := by decide +kernel
theorem dX9_digits_20 : decode cX9_digits 20 = .ok (.istore 5, 2) := by decide +kernel
theorem dX9_digits_22 : decode cX9_digits 22 = .ok (.iconst 1, 1) := by decide +kernel
theorem dX9_digits_23 : decode cX9_digits 23 = .ok (.istore 6, 2) := by decide +kernel
theorem dX9_digits_25 : decode cX9_digits 25 = .ok (.aload_n 0, 1) := by decide +kernel
theorem dX9_digits_26 : decode cX9_digits 26 = .ok (.aload_n 0, 1) := by decide +kernel
theorem dX9_digits_27 : decode cX9_digits 27 = .ok (.getfield 115, 3) := by decide +kernel
theorem dX9_digits_30 : decode cX9_digits 30 = .ok (.invokevirtual 118, 3) := by decide +kernel
theorem dX9_digits_33 : decode cX9_digits 33 = .ok (.invokestatic 131, 3) := by decide +kernel
theorem dX9_digits_36 : decode cX9_digits 36 = .ok (.ifCond .ne 12, 3) := by decide +kernel
theorem dX9_digits_39 : decode cX9_digits 39 = .ok (.aload_n 0, 1) := by decide +kernel
theorem dX9_digits_40 : decode cX9_digits 40 = .ok (.iconst 1, 1) := by decide +kernel
theorem dX9_digits_41 : decode cX9_digits 41 = .ok (.aload_n 0, 1) := by decide +kernel
theorem dX9_digits_42 : decode cX9_digits 42 = .ok (.getfield 115, 3) := by decide +kernel
theorem dX9_digits_45 : decode cX9_digits 45 = .ok (.invokevirtual 135, 3) := by decide +kernel
theorem dX9_digits_48 : decode cX9_digits 48 = .ok (.aload_n 0, 1) := by decide +kernel
theorem dX9_digits_49 : decode cX9_digits 49 = .ok (.aload_n 0, 1) := by decide +kernel
theorem dX9_digits_50 : decode cX9_digits 50 = .ok (.getfield 115, 3) := by decide +kernel
theorem dX9_digits_53 : decode cX9_digits 53 = .ok (.invokevirtual 118, 3) := by decide +kernel
theorem dX9_digits_56 : decode cX9_digits 56 = .ok (.invokestatic 131, 3) := by decide +kernel
theorem dX9_digits_59 : decode cX9_digits 59 = .ok (.ifCond .eq 64, 3) := by decide +kernel
theorem dX9_digits_62 : decode cX9_digits 62 = .ok (.iload 6, 2) := by decide +kernel
theorem dX9_digits_64 : decode cX9_digits 64 = .ok (.ifCond .eq 22, 3) := by decide +kernel
theorem dX9_digits_67 : decode cX9_digits 67 = .ok (.aload_n 0, 1) := by decide +kernel
theorem dX9_digits_68 : decode cX9_digits 68 = .ok (.aload_n 0, 1) := by decide +kernel
theorem dX9_digits_69 : decode cX9_digits 69 = .ok (.getfield 115, 3) := by decide +kernel
theorem dX9_digits_72 : decode cX9_digits 72 = .ok (.invokevirtual 118, 3) := by decide +kernel
theorem dX9_digits_75 : decode cX9_digits 75 = .ok (.bipush 48, 2) := by decide +kernel
theorem dX9_digits_77 : decode cX9_digits 77 = .ok (.isub, 1) := by decide +kernel
theorem dX9_digits_78 : decode cX9_digits 78 = .ok (.iload_n 1, 1) := by decide +kernel
theorem dX9_digits_79 : decode cX9_digits 79 = .ok (.if_icmp .gt 7, 3) := by decide +kernel
theorem dX9_digits_82 : decode cX9_digits 82 = .ok (.iconst 1, 1) := by decide +kernel
theorem dX9_digits_83 : decode cX9_digits 83 = .ok (.goto 4, 3) := by decide +kernel
theorem dX9_digits_86 : decode cX9_digits 86 = .ok (.iconst 0, 1) := by decide +kernel
theorem dX9_digits_87 : decode cX9_digits 87 = .ok (.istore 6, 2) := by decide +kernel
theorem dX9_digits_89 : decode cX9_digits 89 = .ok (.aload_n 0, 1) := by decide +kernel
theorem dX9_digits_90 : decode cX9_digits 90 = .ok (.getfield 17, 3) := by decide +kernel
theorem dX9_digits_93 : decode cX9_digits 93 = .ok (.iload 5, 2) := by decide +kernel
theorem dX9_digits_95 : decode cX9_digits 95 = .ok (.aload_n 0, 1) := by decide +kernel
theorem dX9_digits_96 : decode cX9_digits 96 = .ok (.aload_n 0, 1) := by decide +kernel
theorem dX9_digits_97 : decode cX9_digits 97 = .ok (.getfield 115, 3) := by decide +kernel
theorem dX9_digits_100 : decode cX9_digits 100 = .ok (.invokevirtual 118, 3) := by decide +kernel
theorem dX9_digits_103 : decode cX9_digits 103 = .ok (.bipush 48, 2) := by decide +kernel
theorem dX9_digits_105 : decode cX9_digits 105 = .ok (.isub, 1) := by decide +kernel
theorem dX9_digits_106 : decode cX9_digits 106 = .ok (.iastore, 1) := by decide +kernel
theorem dX9_digits_107 : decode cX9_digits 107 = .ok (.iinc 5 1, 3) := by decide +kernel
theorem dX9_digits_110 : decode cX9_digits 110 = .ok (.aload_n 0, 1) := by decide +kernel
theorem dX9_digits_111 : decode cX9_digits 111 = .ok (.dup, 1) := by decide +kernel
theorem dX9_digits_112 : decode cX9_digits 112 = .ok (.getfield 115, 3) := by decide +kernel
theorem dX9_digits_115 : decode cX9_digits 115 = .ok (.iconst 1, 1) := by decide +kernel
theorem dX9_digits_116 : decode cX9_digits 116 = .ok (.iadd, 1) := by decide +kernel
theorem dX9_digits_117 : decode cX9_digits 117 = .ok (.putfield 115, 3) := by decide +kernel
theorem dX9_digits_120 : decode cX9_digits 120 = .ok (.goto (-72), 3) := by decide +kernel
theorem dX9_digits_123 : decode cX9_digits 123 = .ok (.iload 6, 2) := by decide +kernel
theorem dX9_digits_125 : decode cX9_digits 125 = .ok (.ifCond .eq 13, 3) := by decide +kernel
theorem dX9_digits_128 : decode cX9_digits 128 = .ok (.iload 5, 2) := by decide +kernel
theorem dX9_digits_130 : decode cX9_digits 130 = .ok (.iload_n 2, 1) := by decide +kernel
theorem dX9_digits_131 : decode cX9_digits 131 = .ok (.iload_n 3, 1) := by decide +kernel
theorem dX9_digits_132 : decode cX9_digits 132 = .ok (.invokestatic 140, 3) := by decide +kernel
theorem dX9_digits_135 : decode cX9_digits 135 = .ok (.ifCond .ne 10, 3) := by decide +kernel
theorem dX9_digits_138 : decode cX9_digits 138 = .ok (.aload_n 0, 1) := by decide +kernel
theorem dX9_digits_139 : decode cX9_digits 139 = .ok (.iconst 2, 1) := by decide +kernel
theorem dX9_digits_140 : decode cX9_digits 140 = .ok (.iload 4, 2) := by decide +kernel
theorem dX9_digits_142 : decode cX9_digits 142 = .ok (.invokevirtual 135, 3) := by decide +kernel
theorem dX9_digits_145 : decode cX9_digits 145 = .ok (.iload 5, 2) := by decide +kernel
theorem dX9_digits_147 : decode cX9_digits 147 = .ok (.ireturn, 1) := by decide +kernel
theorem dX9_readsPerson_0 : decode cX9_readsPerson 0 = .ok (.aload_n 0, 1) := by decide +kernel
theorem dX9_readsPerson_1 : decode cX9_readsPerson 1 = .ok (.getfield 28, 3) := by decide +kernel
theorem dX9_readsPerson_4 : decode cX9_readsPerson 4 = .ok (.aload_n 0, 1) := by decide +kernel
theorem dX9_readsPerson_5 : decode cX9_readsPerson 5 = .ok (.getfield 20, 3) := by decide +kernel
theorem dX9_readsPerson_8 : decode cX9_readsPerson 8 = .ok (.iconst 1, 1) := by decide +kernel
theorem dX9_readsPerson_9 : decode cX9_readsPerson 9 = .ok (.iaload, 1) := by decide +kernel
theorem dX9_readsPerson_10 : decode cX9_readsPerson 10 = .ok (.aaload, 1) := by decide +kernel
theorem dX9_readsPerson_11 : decode cX9_readsPerson 11 = .ok (.astore_n 1, 1) := by decide +kernel
theorem dX9_readsPerson_12 : decode cX9_readsPerson 12 = .ok (.aload_n 0, 1) := by decide +kernel
theorem dX9_readsPerson_13 : decode cX9_readsPerson 13 = .ok (.bipush 8, 2) := by decide +kernel
theorem dX9_readsPerson_15 : decode cX9_readsPerson 15 = .ok (.aload_n 0, 1) := by decide +kernel
theorem dX9_readsPerson_16 : decode cX9_readsPerson 16 = .ok (.getfield 20, 3) := by decide +kernel
theorem dX9_readsPerson_19 : decode cX9_readsPerson 19 = .ok (.iconst 0, 1) := by decide +kernel
theorem dX9_readsPerson_20 : decode cX9_readsPerson 20 = .ok (.iaload, 1) := by decide +kernel
theorem dX9_readsPerson_21 : decode cX9_readsPerson 21 = .ok (.aload_n 0, 1) := by decide +kernel
theorem dX9_readsPerson_22 : decode cX9_readsPerson 22 = .ok (.getfield 20, 3) := by decide +kernel
theorem dX9_readsPerson_25 : decode cX9_readsPerson 25 = .ok (.iconst 0, 1) := by decide +kernel
theorem dX9_readsPerson_26 : decode cX9_readsPerson 26 = .ok (.iaload, 1) := by decide +kernel
theorem dX9_readsPerson_27 : decode cX9_readsPerson 27 = .ok (.invokevirtual 185, 3) := by decide +kernel
theorem dX9_readsPerson_30 : decode cX9_readsPerson 30 = .ok (.pop, 1) := by decide +kernel
theorem dX9_readsPerson_31 : decode cX9_readsPerson 31 = .ok (.iconst 0, 1) := by decide +kernel
theorem dX9_readsPerson_32 : decode cX9_readsPerson 32 = .ok (.istore_n 2, 1) := by decide +kernel
theorem dX9_readsPerson_33 : decode cX9_readsPerson 33 = .ok (.iload_n 2, 1) := by decide +kernel
theorem dX9_readsPerson_34 : decode cX9_readsPerson 34 = .ok (.aload_n 0, 1) := by decide +kernel
theorem dX9_readsPerson_35 : decode cX9_readsPerson 35 = .ok (.getfield 20, 3) := by decide +kernel
theorem dX9_readsPerson_38 : decode cX9_readsPerson 38 = .ok (.iconst 0, 1) := by decide +kernel
theorem dX9_readsPerson_39 : decode cX9_readsPerson 39 = .ok (.iaload, 1) := by decide +kernel
theorem dX9_readsPerson_40 : decode cX9_readsPerson 40 = .ok (.if_icmp .ge 25, 3) := by decide +kernel
theorem dX9_readsPerson_43 : decode cX9_readsPerson 43 = .ok (.aload_n 0, 1) := by decide +kernel
theorem dX9_readsPerson_44 : decode cX9_readsPerson 44 = .ok (.getfield 122, 3) := by decide +kernel
theorem dX9_readsPerson_47 : decode cX9_readsPerson 47 = .ok (.ifCond .ne 18, 3) := by decide +kernel
theorem dX9_readsPerson_50 : decode cX9_readsPerson 50 = .ok (.aload_n 1, 1) := by decide +kernel
theorem dX9_readsPerson_51 : decode cX9_readsPerson 51 = .ok (.iload_n 2, 1) := by decide +kernel
theorem dX9_readsPerson_52 : decode cX9_readsPerson 52 = .ok (.aload_n 0, 1) := by decide +kernel
theorem dX9_readsPerson_53 : decode cX9_readsPerson 53 = .ok (.getfield 17, 3) := by decide +kernel
theorem dX9_readsPerson_56 : decode cX9_readsPerson 56 = .ok (.iload_n 2, 1) := by decide +kernel
theorem dX9_readsPerson_57 : decode cX9_readsPerson 57 = .ok (.iaload, 1) := by decide +kernel
theorem dX9_readsPerson_58 : decode cX9_readsPerson 58 = .ok (.iastore, 1) := by decide +kernel
theorem dX9_readsPerson_59 : decode cX9_readsPerson 59 = .ok (.iinc 2 1, 3) := by decide +kernel
theorem dX9_readsPerson_62 : decode cX9_readsPerson 62 = .ok (.goto (-29), 3) := by decide +kernel
theorem dX9_readsPerson_65 : decode cX9_readsPerson 65 = .ok (.aload_n 1, 1) := by decide +kernel
theorem dX9_readsPerson_66 : decode cX9_readsPerson 66 = .ok (.iconst 4, 1) := by decide +kernel
theorem dX9_readsPerson_67 : decode cX9_readsPerson 67 = .ok (.aload_n 0, 1) := by decide +kernel
theorem dX9_readsPerson_68 : decode cX9_readsPerson 68 = .ok (.iconst 0, 1) := by decide +kernel
theorem dX9_readsPerson_69 : decode cX9_readsPerson 69 = .ok (.iconst 4, 1) := by decide +kernel
theorem dX9_readsPerson_70 : decode cX9_readsPerson 70 = .ok (.iconst (-1), 1) := by decide +kernel
theorem dX9_readsPerson_71 : decode cX9_readsPerson 71 = .ok (.invokevirtual 159, 3) := by decide +kernel
theorem dX9_readsPerson_74 : decode cX9_readsPerson 74 = .ok (.iastore, 1) := by decide +kernel
theorem dX9_readsPerson_75 : decode cX9_readsPerson 75 = .ok (.aload_n 1, 1) := by decide +kernel
theorem dX9_readsPerson_76 : decode cX9_readsPerson 76 = .ok (.iconst 5, 1) := by decide +kernel
theorem dX9_readsPerson_77 : decode cX9_readsPerson 77 = .ok (.iconst 0, 1) := by decide +kernel
theorem dX9_readsPerson_78 : decode cX9_readsPerson 78 = .ok (.iastore, 1) := by decide +kernel
theorem dX9_readsPerson_79 : decode cX9_readsPerson 79 = .ok (.aload_n 0, 1) := by decide +kernel
theorem dX9_readsPerson_80 : decode cX9_readsPerson 80 = .ok (.getfield 20, 3) := by decide +kernel
theorem dX9_readsPerson_83 : decode cX9_readsPerson 83 = .ok (.iconst 1, 1) := by decide +kernel
theorem dX9_readsPerson_84 : decode cX9_readsPerson 84 = .ok (.dup2, 1) := by decide +kernel
theorem dX9_readsPerson_85 : decode cX9_readsPerson 85 = .ok (.iaload, 1) := by decide +kernel
theorem dX9_readsPerson_86 : decode cX9_readsPerson 86 = .ok (.iconst 1, 1) := by decide +kernel
theorem dX9_readsPerson_87 : decode cX9_readsPerson 87 = .ok (.iadd, 1) := by decide +kernel
theorem dX9_readsPerson_88 : decode cX9_readsPerson 88 = .ok (.iastore, 1) := by decide +kernel
theorem dX9_readsPerson_89 : decode cX9_readsPerson 89 = .ok (.return_, 1) := by decide +kernel
theorem dX9_readsOf_0 : decode cX9_readsOf 0 = .ok (.aload_n 0, 1) := by decide +kernel
theorem dX9_readsOf_1 : decode cX9_readsOf 1 = .ok (.iconst 0, 1) := by decide +kernel
theorem dX9_readsOf_2 : decode cX9_readsOf 2 = .ok (.aload_n 0, 1) := by decide +kernel
theorem dX9_readsOf_3 : decode cX9_readsOf 3 = .ok (.getfield 20, 3) := by decide +kernel
theorem dX9_readsOf_6 : decode cX9_readsOf 6 = .ok (.iconst 1, 1) := by decide +kernel
theorem dX9_readsOf_7 : decode cX9_readsOf 7 = .ok (.iaload, 1) := by decide +kernel
theorem dX9_readsOf_8 : decode cX9_readsOf 8 = .ok (.iconst 1, 1) := by decide +kernel
theorem dX9_readsOf_9 : decode cX9_readsOf 9 = .ok (.isub, 1) := by decide +kernel
theorem dX9_readsOf_10 : decode cX9_readsOf 10 = .ok (.iconst (-1), 1) := by decide +kernel
theorem dX9_readsOf_11 : decode cX9_readsOf 11 = .ok (.invokevirtual 159, 3) := by decide +kernel
theorem dX9_readsOf_14 : decode cX9_readsOf 14 = .ok (.istore_n 2, 1) := by decide +kernel
theorem dX9_readsOf_15 : decode cX9_readsOf 15 = .ok (.iload_n 1, 1) := by decide +kernel
theorem dX9_readsOf_16 : decode cX9_readsOf 16 = .ok (.iconst 1, 1) := by decide +kernel
theorem dX9_readsOf_17 : decode cX9_readsOf 17 = .ok (.if_icmp .ne 14, 3) := by decide +kernel
theorem dX9_readsOf_20 : decode cX9_readsOf 20 = .ok (.aload_n 0, 1) := by decide +kernel
theorem dX9_readsOf_21 : decode cX9_readsOf 21 = .ok (.iconst 0, 1) := by decide +kernel
theorem dX9_readsOf_22 : decode cX9_readsOf 22 = .ok (.bipush 9, 2) := by decide +kernel
theorem dX9_readsOf_24 : decode cX9_readsOf 24 = .ok (.iconst (-1), 1) := by decide +kernel
theorem dX9_readsOf_25 : decode cX9_readsOf 25 = .ok (.invokevirtual 159, 3) := by decide +kernel
theorem dX9_readsOf_28 : decode cX9_readsOf 28 = .ok (.goto 17, 3) := by decide +kernel
theorem dX9_readsOf_31 : decode cX9_readsOf 31 = .ok (.aload_n 0, 1) := by decide +kernel
theorem dX9_readsOf_32 : decode cX9_readsOf 32 = .ok (.iconst 0, 1) := by decide +kernel
theorem dX9_readsOf_33 : decode cX9_readsOf 33 = .ok (.aload_n 0, 1) := by decide +kernel
theorem dX9_readsOf_34 : decode cX9_readsOf 34 = .ok (.getfield 20, 3) := by decide +kernel
theorem dX9_readsOf_37 : decode cX9_readsOf 37 = .ok (.iconst 1, 1) := by decide +kernel
theorem dX9_readsOf_38 : decode cX9_readsOf 38 = .ok (.iaload, 1) := by decide +kernel
theorem dX9_readsOf_39 : decode cX9_readsOf 39 = .ok (.iconst 1, 1) := by decide +kernel
theorem dX9_readsOf_40 : decode cX9_readsOf 40 = .ok (.isub, 1) := by decide +kernel
theorem dX9_readsOf_41 : decode cX9_readsOf 41 = .ok (.iload_n 2, 1) := by decide +kernel
theorem dX9_readsOf_42 : decode cX9_readsOf 42 = .ok (.invokevirtual 159, 3) := by decide +kernel
theorem dX9_readsOf_45 : decode cX9_readsOf 45 = .ok (.istore_n 3, 1) := by decide +kernel
theorem dX9_readsOf_46 : decode cX9_readsOf 46 = .ok (.aload_n 0, 1) := by decide +kernel
theorem dX9_readsOf_47 : decode cX9_readsOf 47 = .ok (.getfield 122, 3) := by decide +kernel
theorem dX9_readsOf_50 : decode cX9_readsOf 50 = .ok (.ifCond .eq 4, 3) := by decide +kernel
theorem dX9_readsOf_53 : decode cX9_readsOf 53 = .ok (.return_, 1) := by decide +kernel
theorem dX9_readsOf_54 : decode cX9_readsOf 54 = .ok (.iload_n 1, 1) := by decide +kernel
theorem dX9_readsOf_55 : decode cX9_readsOf 55 = .ok (.iconst 1, 1) := by decide +kernel
theorem dX9_readsOf_56 : decode cX9_readsOf 56 = .ok (.if_icmp .ne 12, 3) := by decide +kernel
theorem dX9_readsOf_59 : decode cX9_readsOf 59 = .ok (.aload_n 0, 1) := by decide +kernel
theorem dX9_readsOf_60 : decode cX9_readsOf 60 = .ok (.getfield 28, 3) := by decide +kernel
theorem dX9_readsOf_63 : decode cX9_readsOf 63 = .ok (.iload_n 2, 1) := by decide +kernel
theorem dX9_readsOf_64 : decode cX9_readsOf 64 = .ok (.aaload, 1) := by decide +kernel
theorem dX9_readsOf_65 : decode cX9_readsOf 65 = .ok (.iconst 5, 1) := by decide +kernel
theorem dX9_readsOf_66 : decode cX9_readsOf 66 = .ok (.iload_n 3, 1) := by decide +kernel
theorem dX9_readsOf_67 : decode cX9_readsOf 67 = .ok (.iastore, 1) := by decide +kernel
theorem dX9_readsOf_68 : decode cX9_readsOf 68 = .ok (.iload_n 1, 1) := by decide +kernel
theorem dX9_readsOf_69 : decode cX9_readsOf 69 = .ok (.iconst 2, 1) := by decide +kernel
theorem dX9_readsOf_70 : decode cX9_readsOf 70 = .ok (.if_icmp .ne 15, 3) := by decide +kernel
theorem dX9_readsOf_73 : decode cX9_readsOf 73 = .ok (.aload_n 0, 1) := by decide +kernel
theorem dX9_readsOf_74 : decode cX9_readsOf 74 = .ok (.getfield 46, 3) := by decide +kernel
theorem dX9_readsOf_77 : decode cX9_readsOf 77 = .ok (.iload_n 2, 1) := by decide +kernel
theorem dX9_readsOf_78 : decode cX9_readsOf 78 = .ok (.dup2, 1) := by decide +kernel
theorem dX9_readsOf_79 : decode cX9_readsOf 79 = .ok (.iaload, 1) := by decide +kernel
theorem dX9_readsOf_80 : decode cX9_readsOf 80 = .ok (.iconst 1, 1) := by decide +kernel
theorem dX9_readsOf_81 : decode cX9_readsOf 81 = .ok (.iload_n 3, 1) := by decide +kernel
theorem dX9_readsOf_82 : decode cX9_readsOf 82 = .ok (.ishl, 1) := by decide +kernel
theorem dX9_readsOf_83 : decode cX9_readsOf 83 = .ok (.ior, 1) := by decide +kernel
theorem dX9_readsOf_84 : decode cX9_readsOf 84 = .ok (.iastore, 1) := by decide +kernel
theorem dX9_readsOf_85 : decode cX9_readsOf 85 = .ok (.iload_n 1, 1) := by decide +kernel
theorem dX9_readsOf_86 : decode cX9_readsOf 86 = .ok (.iconst 2, 1) := by decide +kernel
theorem dX9_readsOf_87 : decode cX9_readsOf 87 = .ok (.if_icmp .ne 15, 3) := by decide +kernel
theorem dX9_readsOf_90 : decode cX9_readsOf 90 = .ok (.aload_n 0, 1) := by decide +kernel
theorem dX9_readsOf_91 : decode cX9_readsOf 91 = .ok (.getfield 46, 3) := by decide +kernel
theorem dX9_readsOf_94 : decode cX9_readsOf 94 = .ok (.iload_n 3, 1) := by decide +kernel
theorem dX9_readsOf_95 : decode cX9_readsOf 95 = .ok (.dup2, 1) := by decide +kernel
theorem dX9_readsOf_96 : decode cX9_readsOf 96 = .ok (.iaload, 1) := by decide +kernel
theorem dX9_readsOf_97 : decode cX9_readsOf 97 = .ok (.iconst 1, 1) := by decide +kernel
theorem dX9_readsOf_98 : decode cX9_readsOf 98 = .ok (.iload_n 2, 1) := by decide +kernel
theorem dX9_readsOf_99 : decode cX9_readsOf 99 = .ok (.ishl, 1) := by decide +kernel
theorem dX9_readsOf_100 : decode cX9_readsOf 100 = .ok (.ior, 1) := by decide +kernel
theorem dX9_readsOf_101 : decode cX9_readsOf 101 = .ok (.iastore, 1) := by decide +kernel
theorem dX9_readsOf_102 : decode cX9_readsOf 102 = .ok (.return_, 1) := by decide +kernel
theorem dX9_readsDoor_0 : decode cX9_readsDoor 0 = .ok (.aload_n 0, 1) := by decide +kernel
theorem dX9_readsDoor_1 : decode cX9_readsDoor 1 = .ok (.getfield 34, 3) := by decide +kernel
theorem dX9_readsDoor_4 : decode cX9_readsDoor 4 = .ok (.aload_n 0, 1) := by decide +kernel
theorem dX9_readsDoor_5 : decode cX9_readsDoor 5 = .ok (.getfield 20, 3) := by decide +kernel
theorem dX9_readsDoor_8 : decode cX9_readsDoor 8 = .ok (.iconst 2, 1) := by decide +kernel
theorem dX9_readsDoor_9 : decode cX9_readsDoor 9 = .ok (.iaload, 1) := by decide +kernel
theorem dX9_readsDoor_10 : decode cX9_readsDoor 10 = .ok (.aaload, 1) := by decide +kernel
theorem dX9_readsDoor_11 : decode cX9_readsDoor 11 = .ok (.astore_n 1, 1) := by decide +kernel
theorem dX9_readsDoor_12 : decode cX9_readsDoor 12 = .ok (.aload_n 1, 1) := by decide +kernel
theorem dX9_readsDoor_13 : decode cX9_readsDoor 13 = .ok (.iconst 0, 1) := by decide +kernel
theorem dX9_readsDoor_14 : decode cX9_readsDoor 14 = .ok (.aload_n 0, 1) := by decide +kernel
theorem dX9_readsDoor_15 : decode cX9_readsDoor 15 = .ok (.iconst 1, 1) := by decide +kernel
theorem dX9_readsDoor_16 : decode cX9_readsDoor 16 = .ok (.bipush 99, 2) := by decide +kernel
theorem dX9_readsDoor_18 : decode cX9_readsDoor 18 = .ok (.iconst (-1), 1) := by decide +kernel
theorem dX9_readsDoor_19 : decode cX9_readsDoor 19 = .ok (.invokevirtual 159, 3) := by decide +kernel
theorem dX9_readsDoor_22 : decode cX9_readsDoor 22 = .ok (.iastore, 1) := by decide +kernel
theorem dX9_readsDoor_23 : decode cX9_readsDoor 23 = .ok (.aload_n 1, 1) := by decide +kernel
theorem dX9_readsDoor_24 : decode cX9_readsDoor 24 = .ok (.iconst 1, 1) := by decide +kernel
theorem dX9_readsDoor_25 : decode cX9_readsDoor 25 = .ok (.aload_n 0, 1) := by decide +kernel
theorem dX9_readsDoor_26 : decode cX9_readsDoor 26 = .ok (.iconst 1, 1) := by decide +kernel
theorem dX9_readsDoor_27 : decode cX9_readsDoor 27 = .ok (.sipush 240, 3) := by decide +kernel
theorem dX9_readsDoor_30 : decode cX9_readsDoor 30 = .ok (.iconst (-1), 1) := by decide +kernel
theorem dX9_readsDoor_31 : decode cX9_readsDoor 31 = .ok (.invokevirtual 159, 3) := by decide +kernel
theorem dX9_readsDoor_34 : decode cX9_readsDoor 34 = .ok (.iastore, 1) := by decide +kernel
theorem dX9_readsDoor_35 : decode cX9_readsDoor 35 = .ok (.aload_n 1, 1) := by decide +kernel
theorem dX9_readsDoor_36 : decode cX9_readsDoor 36 = .ok (.iconst 2, 1) := by decide +kernel
theorem dX9_readsDoor_37 : decode cX9_readsDoor 37 = .ok (.aload_n 0, 1) := by decide +kernel
theorem dX9_readsDoor_38 : decode cX9_readsDoor 38 = .ok (.iconst 0, 1) := by decide +kernel
theorem dX9_readsDoor_39 : decode cX9_readsDoor 39 = .ok (.bipush 29, 2) := by decide +kernel
theorem dX9_readsDoor_41 : decode cX9_readsDoor 41 = .ok (.iconst (-1), 1) := by decide +kernel
theorem dX9_readsDoor_42 : decode cX9_readsDoor 42 = .ok (.invokevirtual 159, 3) := by decide +kernel
theorem dX9_readsDoor_45 : decode cX9_readsDoor 45 = .ok (.iastore, 1) := by decide +kernel
theorem dX9_readsDoor_46 : decode cX9_readsDoor 46 = .ok (.aload_n 0, 1) := by decide +kernel
theorem dX9_readsDoor_47 : decode cX9_readsDoor 47 = .ok (.invokevirtual 128, 3) := by decide +kernel
theorem dX9_readsDoor_50 : decode cX9_readsDoor 50 = .ok (.aload_n 1, 1) := by decide +kernel
theorem dX9_readsDoor_51 : decode cX9_readsDoor 51 = .ok (.iconst 3, 1) := by decide +kernel
theorem dX9_readsDoor_52 : decode cX9_readsDoor 52 = .ok (.aload_n 0, 1) := by decide +kernel
theorem dX9_readsDoor_53 : decode cX9_readsDoor 53 = .ok (.getfield 122, 3) := by decide +kernel
theorem dX9_readsDoor_56 : decode cX9_readsDoor 56 = .ok (.ifCond .ne 47, 3) := by decide +kernel
theorem dX9_readsDoor_59 : decode cX9_readsDoor 59 = .ok (.aload_n 0, 1) := by decide +kernel
theorem dX9_readsDoor_60 : decode cX9_readsDoor 60 = .ok (.aload_n 0, 1) := by decide +kernel
theorem dX9_readsDoor_61 : decode cX9_readsDoor 61 = .ok (.getfield 115, 3) := by decide +kernel
theorem dX9_readsDoor_64 : decode cX9_readsDoor 64 = .ok (.invokevirtual 118, 3) := by decide +kernel
theorem dX9_readsDoor_67 : decode cX9_readsDoor 67 = .ok (.bipush 59, 2) := by decide +kernel
theorem dX9_readsDoor_69 : decode cX9_readsDoor 69 = .ok (.if_icmp .eq 34, 3) := by decide +kernel
theorem dX9_readsDoor_72 : decode cX9_readsDoor 72 = .ok (.aload_n 0, 1) := by decide +kernel
theorem dX9_readsDoor_73 : decode cX9_readsDoor 73 = .ok (.aload_n 0, 1) := by decide +kernel
theorem dX9_readsDoor_74 : decode cX9_readsDoor 74 = .ok (.getfield 115, 3) := by decide +kernel
theorem dX9_readsDoor_77 : decode cX9_readsDoor 77 = .ok (.invokevirtual 118, 3) := by decide +kernel
theorem dX9_readsDoor_80 : decode cX9_readsDoor 80 = .ok (.invokestatic 131, 3) := by decide +kernel
theorem dX9_readsDoor_83 : decode cX9_readsDoor 83 = .ok (.ifCond .eq 20, 3) := by decide +kernel
theorem dX9_readsDoor_86 : decode cX9_readsDoor 86 = .ok (.aload_n 0, 1) := by decide +kernel
theorem dX9_readsDoor_87 : decode cX9_readsDoor 87 = .ok (.iconst 0, 1) := by decide +kernel
theorem dX9_readsDoor_88 : decode cX9_readsDoor 88 = .ok (.aload_n 0, 1) := by decide +kernel
theorem dX9_readsDoor_89 : decode cX9_readsDoor 89 = .ok (.getfield 20, 3) := by decide +kernel
theorem dX9_readsDoor_92 : decode cX9_readsDoor 92 = .ok (.iconst 0, 1) := by decide +kernel
theorem dX9_readsDoor_93 : decode cX9_readsDoor 93 = .ok (.iaload, 1) := by decide +kernel
theorem dX9_readsDoor_94 : decode cX9_readsDoor 94 = .ok (.iconst 1, 1) := by decide +kernel
theorem dX9_readsDoor_95 : decode cX9_readsDoor 95 = .ok (.isub, 1) := by decide +kernel
theorem dX9_readsDoor_96 : decode cX9_readsDoor 96 = .ok (.iconst (-1), 1) := by decide +kernel
theorem dX9_readsDoor_97 : decode cX9_readsDoor 97 = .ok (.invokevirtual 159, 3) := by decide +kernel
theorem dX9_readsDoor_100 : decode cX9_readsDoor 100 = .ok (.goto 4, 3) := by decide +kernel
theorem dX9_readsDoor_103 : decode cX9_readsDoor 103 = .ok (.iconst (-1), 1) := by decide +kernel
theorem dX9_readsDoor_104 : decode cX9_readsDoor 104 = .ok (.iastore, 1) := by decide +kernel
theorem dX9_readsDoor_105 : decode cX9_readsDoor 105 = .ok (.aload_n 0, 1) := by decide +kernel
theorem dX9_readsDoor_106 : decode cX9_readsDoor 106 = .ok (.getfield 20, 3) := by decide +kernel
theorem dX9_readsDoor_109 : decode cX9_readsDoor 109 = .ok (.iconst 2, 1) := by decide +kernel
theorem dX9_readsDoor_110 : decode cX9_readsDoor 110 = .ok (.dup2, 1) := by decide +kernel
theorem dX9_readsDoor_111 : decode cX9_readsDoor 111 = .ok (.iaload, 1) := by decide +kernel
theorem dX9_readsDoor_112 : decode cX9_readsDoor 112 = .ok (.iconst 1, 1) := by decide +kernel
theorem dX9_readsDoor_113 : decode cX9_readsDoor 113 = .ok (.iadd, 1) := by decide +kernel
theorem dX9_readsDoor_114 : decode cX9_readsDoor 114 = .ok (.iastore, 1) := by decide +kernel
theorem dX9_readsDoor_115 : decode cX9_readsDoor 115 = .ok (.return_, 1) := by decide +kernel
theorem dX9_readsSlate_0 : decode cX9_readsSlate 0 = .ok (.aload_n 0, 1) := by decide +kernel
theorem dX9_readsSlate_1 : decode cX9_readsSlate 1 = .ok (.aload_n 0, 1) := by decide +kernel
theorem dX9_readsSlate_2 : decode cX9_readsSlate 2 = .ok (.getfield 20, 3) := by decide +kernel
theorem dX9_readsSlate_5 : decode cX9_readsSlate 5 = .ok (.iconst 0, 1) := by decide +kernel
theorem dX9_readsSlate_6 : decode cX9_readsSlate 6 = .ok (.iaload, 1) := by decide +kernel
theorem dX9_readsSlate_7 : decode cX9_readsSlate 7 = .ok (.iconst 1, 1) := by decide +kernel
theorem dX9_readsSlate_8 : decode cX9_readsSlate 8 = .ok (.isub, 1) := by decide +kernel
theorem dX9_readsSlate_9 : decode cX9_readsSlate 9 = .ok (.iconst 1, 1) := by decide +kernel
theorem dX9_readsSlate_10 : decode cX9_readsSlate 10 = .ok (.bipush 7, 2) := by decide +kernel
theorem dX9_readsSlate_12 : decode cX9_readsSlate 12 = .ok (.invokevirtual 185, 3) := by decide +kernel
theorem dX9_readsSlate_15 : decode cX9_readsSlate 15 = .ok (.istore_n 1, 1) := by decide +kernel
theorem dX9_readsSlate_16 : decode cX9_readsSlate 16 = .ok (.aload_n 0, 1) := by decide +kernel
theorem dX9_readsSlate_17 : decode cX9_readsSlate 17 = .ok (.getfield 20, 3) := by decide +kernel
theorem dX9_readsSlate_20 : decode cX9_readsSlate 20 = .ok (.iconst 5, 1) := by decide +kernel
theorem dX9_readsSlate_21 : decode cX9_readsSlate 21 = .ok (.iload_n 1, 1) := by decide +kernel
theorem dX9_readsSlate_22 : decode cX9_readsSlate 22 = .ok (.iastore, 1) := by decide +kernel
theorem dX9_readsSlate_23 : decode cX9_readsSlate 23 = .ok (.iconst 0, 1) := by decide +kernel
theorem dX9_readsSlate_24 : decode cX9_readsSlate 24 = .ok (.istore_n 2, 1) := by decide +kernel
theorem dX9_readsSlate_25 : decode cX9_readsSlate 25 = .ok (.iload_n 2, 1) := by decide +kernel
theorem dX9_readsSlate_26 : decode cX9_readsSlate 26 = .ok (.iload_n 1, 1) := by decide +kernel
theorem dX9_readsSlate_27 : decode cX9_readsSlate 27 = .ok (.if_icmp .ge 28, 3) := by decide +kernel
theorem dX9_readsSlate_30 : decode cX9_readsSlate 30 = .ok (.aload_n 0, 1) := by decide +kernel
theorem dX9_readsSlate_31 : decode cX9_readsSlate 31 = .ok (.getfield 122, 3) := by decide +kernel
theorem dX9_readsSlate_34 : decode cX9_readsSlate 34 = .ok (.ifCond .ne 21, 3) := by decide +kernel
theorem dX9_readsSlate_37 : decode cX9_readsSlate 37 = .ok (.aload_n 0, 1) := by decide +kernel
theorem dX9_readsSlate_38 : decode cX9_readsSlate 38 = .ok (.getfield 40, 3) := by decide +kernel
theorem dX9_readsSlate_41 : decode cX9_readsSlate 41 = .ok (.iload_n 2, 1) := by decide +kernel
theorem dX9_readsSlate_42 : decode cX9_readsSlate 42 = .ok (.aload_n 0, 1) := by decide +kernel
theorem dX9_readsSlate_43 : decode cX9_readsSlate 43 = .ok (.getfield 17, 3) := by decide +kernel
theorem dX9_readsSlate_46 : decode cX9_readsSlate 46 = .ok (.iload_n 2, 1) := by decide +kernel
theorem dX9_readsSlate_47 : decode cX9_readsSlate 47 = .ok (.iaload, 1) := by decide +kernel
theorem dX9_readsSlate_48 : decode cX9_readsSlate 48 = .ok (.iastore, 1) := by decide +kernel
theorem dX9_readsSlate_49 : decode cX9_readsSlate 49 = .ok (.iinc 2 1, 3) := by decide +kernel
theorem dX9_readsSlate_52 : decode cX9_readsSlate 52 = .ok (.goto (-27), 3) := by decide +kernel
theorem dX9_readsSlate_55 : decode cX9_readsSlate 55 = .ok (.return_, 1) := by decide +kernel
theorem dX9_clause_0 : decode cX9_clause 0 = .ok (.aload_n 0, 1) := by decide +kernel
theorem dX9_clause_1 : decode cX9_clause 1 = .ok (.invokevirtual 170, 3) := by decide +kernel
theorem dX9_clause_4 : decode cX9_clause 4 = .ok (.istore_n 1, 1) := by decide +kernel
theorem dX9_clause_5 : decode cX9_clause 5 = .ok (.iload_n 1, 1) := by decide +kernel
theorem dX9_clause_6 : decode cX9_clause 6 = .ok (.iconst (-1), 1) := by decide +kernel
theorem dX9_clause_7 : decode cX9_clause 7 = .ok (.if_icmp .ne 15, 3) := by decide +kernel
theorem dX9_clause_10 : decode cX9_clause 10 = .ok (.aload_n 0, 1) := by decide +kernel
theorem dX9_clause_11 : decode cX9_clause 11 = .ok (.iconst 1, 1) := by decide +kernel
theorem dX9_clause_12 : decode cX9_clause 12 = .ok (.aload_n 0, 1) := by decide +kernel
theorem dX9_clause_13 : decode cX9_clause 13 = .ok (.getfield 115, 3) := by decide +kernel
theorem dX9_clause_16 : decode cX9_clause 16 = .ok (.invokevirtual 135, 3) := by decide +kernel
theorem dX9_clause_19 : decode cX9_clause 19 = .ok (.goto 52, 3) := by decide +kernel
theorem dX9_clause_22 : decode cX9_clause 22 = .ok (.aload_n 0, 1) := by decide +kernel
theorem dX9_clause_23 : decode cX9_clause 23 = .ok (.getfield 167, 3) := by decide +kernel
theorem dX9_clause_26 : decode cX9_clause 26 = .ok (.bipush 40, 2) := by decide +kernel
theorem dX9_clause_28 : decode cX9_clause 28 = .ok (.if_icmp .eq 34, 3) := by decide +kernel
theorem dX9_clause_31 : decode cX9_clause 31 = .ok (.iload_n 1, 1) := by decide +kernel
theorem dX9_clause_32 : decode cX9_clause 32 = .ok (.ifCond .ne 14, 3) := by decide +kernel
theorem dX9_clause_35 : decode cX9_clause 35 = .ok (.aload_n 0, 1) := by decide +kernel
theorem dX9_clause_36 : decode cX9_clause 36 = .ok (.getfield 20, 3) := by decide +kernel
theorem dX9_clause_39 : decode cX9_clause 39 = .ok (.iconst 1, 1) := by decide +kernel
theorem dX9_clause_40 : decode cX9_clause 40 = .ok (.iaload, 1) := by decide +kernel
theorem dX9_clause_41 : decode cX9_clause 41 = .ok (.bipush 8, 2) := by decide +kernel
theorem dX9_clause_43 : decode cX9_clause 43 = .ok (.if_icmp .eq 19, 3) := by decide +kernel
theorem dX9_clause_46 : decode cX9_clause 46 = .ok (.iload_n 1, 1) := by decide +kernel
theorem dX9_clause_47 : decode cX9_clause 47 = .ok (.iconst 3, 1) := by decide +kernel
theorem dX9_clause_48 : decode cX9_clause 48 = .ok (.if_icmp .ne 23, 3) := by decide +kernel
theorem dX9_clause_51 : decode cX9_clause 51 = .ok (.aload_n 0, 1) := by decide +kernel
theorem dX9_clause_52 : decode cX9_clause 52 = .ok (.getfield 20, 3) := by decide +kernel
theorem dX9_clause_55 : decode cX9_clause 55 = .ok (.iconst 2, 1) := by decide +kernel
theorem dX9_clause_56 : decode cX9_clause 56 = .ok (.iaload, 1) := by decide +kernel
theorem dX9_clause_57 : decode cX9_clause 57 = .ok (.bipush 10, 2) := by decide +kernel
theorem dX9_clause_59 : decode cX9_clause 59 = .ok (.if_icmp .ne 12, 3) := by decide +kernel
theorem dX9_clause_62 : decode cX9_clause 62 = .ok (.aload_n 0, 1) := by decide +kernel
theorem dX9_clause_63 : decode cX9_clause 63 = .ok (.iconst 3, 1) := by decide +kernel
theorem dX9_clause_64 : decode cX9_clause 64 = .ok (.aload_n 0, 1) := by decide +kernel
theorem dX9_clause_65 : decode cX9_clause 65 = .ok (.getfield 115, 3) := by decide +kernel
theorem dX9_clause_68 : decode cX9_clause 68 = .ok (.invokevirtual 135, 3) := by decide +kernel
theorem dX9_clause_71 : decode cX9_clause 71 = .ok (.aload_n 0, 1) := by decide +kernel
theorem dX9_clause_72 : decode cX9_clause 72 = .ok (.getfield 122, 3) := by decide +kernel
theorem dX9_clause_75 : decode cX9_clause 75 = .ok (.ifCond .eq 4, 3) := by decide +kernel
theorem dX9_clause_78 : decode cX9_clause 78 = .ok (.return_, 1) := by decide +kernel
theorem dX9_clause_79 : decode cX9_clause 79 = .ok (.aload_n 0, 1) := by decide +kernel
theorem dX9_clause_80 : decode cX9_clause 80 = .ok (.invokevirtual 156, 3) := by decide +kernel
theorem dX9_clause_83 : decode cX9_clause 83 = .ok (.aload_n 0, 1) := by decide +kernel
theorem dX9_clause_84 : decode cX9_clause 84 = .ok (.dup, 1) := by decide +kernel
theorem dX9_clause_85 : decode cX9_clause 85 = .ok (.getfield 167, 3) := by decide +kernel
theorem dX9_clause_88 : decode cX9_clause 88 = .ok (.iconst 1, 1) := by decide +kernel
theorem dX9_clause_89 : decode cX9_clause 89 = .ok (.iadd, 1) := by decide +kernel
theorem dX9_clause_90 : decode cX9_clause 90 = .ok (.putfield 167, 3) := by decide +kernel
theorem dX9_clause_93 : decode cX9_clause 93 = .ok (.iload_n 1, 1) := by decide +kernel
theorem dX9_clause_94 : decode cX9_clause 94 = .ok (.ifCond .ne 10, 3) := by decide +kernel
theorem dX9_clause_97 : decode cX9_clause 97 = .ok (.aload_n 0, 1) := by decide +kernel
theorem dX9_clause_98 : decode cX9_clause 98 = .ok (.invokevirtual 173, 3) := by decide +kernel
theorem dX9_clause_101 : decode cX9_clause 101 = .ok (.goto 75, 3) := by decide +kernel
theorem dX9_clause_104 : decode cX9_clause 104 = .ok (.iload_n 1, 1) := by decide +kernel
theorem dX9_clause_105 : decode cX9_clause 105 = .ok (.iconst 3, 1) := by decide +kernel
theorem dX9_clause_106 : decode cX9_clause 106 = .ok (.if_icmp .ge 11, 3) := by decide +kernel
theorem dX9_clause_109 : decode cX9_clause 109 = .ok (.aload_n 0, 1) := by decide +kernel
theorem dX9_clause_110 : decode cX9_clause 110 = .ok (.iload_n 1, 1) := by decide +kernel
theorem dX9_clause_111 : decode cX9_clause 111 = .ok (.invokevirtual 176, 3) := by decide +kernel
theorem dX9_clause_114 : decode cX9_clause 114 = .ok (.goto 62, 3) := by decide +kernel
theorem dX9_clause_117 : decode cX9_clause 117 = .ok (.iload_n 1, 1) := by decide +kernel
theorem dX9_clause_118 : decode cX9_clause 118 = .ok (.iconst 3, 1) := by decide +kernel
theorem dX9_clause_119 : decode cX9_clause 119 = .ok (.if_icmp .ne 10, 3) := by decide +kernel
theorem dX9_clause_122 : decode cX9_clause 122 = .ok (.aload_n 0, 1) := by decide +kernel
theorem dX9_clause_123 : decode cX9_clause 123 = .ok (.invokevirtual 179, 3) := by decide +kernel
theorem dX9_clause_126 : decode cX9_clause 126 = .ok (.goto 50, 3) := by decide +kernel
theorem dX9_clause_129 : decode cX9_clause 129 = .ok (.iload_n 1, 1) := by decide +kernel
theorem dX9_clause_130 : decode cX9_clause 130 = .ok (.bipush 6, 2) := by decide +kernel
theorem dX9_clause_132 : decode cX9_clause 132 = .ok (.if_icmp .ne 10, 3) := by decide +kernel
theorem dX9_clause_135 : decode cX9_clause 135 = .ok (.aload_n 0, 1) := by decide +kernel
theorem dX9_clause_136 : decode cX9_clause 136 = .ok (.invokevirtual 182, 3) := by decide +kernel
theorem dX9_clause_139 : decode cX9_clause 139 = .ok (.goto 37, 3) := by decide +kernel
theorem dX9_clause_142 : decode cX9_clause 142 = .ok (.aload_n 0, 1) := by decide +kernel
theorem dX9_clause_143 : decode cX9_clause 143 = .ok (.getfield 20, 3) := by decide +kernel
theorem dX9_clause_146 : decode cX9_clause 146 = .ok (.iload_n 1, 1) := by decide +kernel
theorem dX9_clause_147 : decode cX9_clause 147 = .ok (.iconst 1, 1) := by decide +kernel
theorem dX9_clause_148 : decode cX9_clause 148 = .ok (.isub, 1) := by decide +kernel
theorem dX9_clause_149 : decode cX9_clause 149 = .ok (.iload_n 1, 1) := by decide +kernel
theorem dX9_clause_150 : decode cX9_clause 150 = .ok (.iconst 4, 1) := by decide +kernel
theorem dX9_clause_151 : decode cX9_clause 151 = .ok (.if_icmp .ne 14, 3) := by decide +kernel
theorem dX9_clause_154 : decode cX9_clause 154 = .ok (.aload_n 0, 1) := by decide +kernel
theorem dX9_clause_155 : decode cX9_clause 155 = .ok (.iconst 1, 1) := by decide +kernel
theorem dX9_clause_156 : decode cX9_clause 156 = .ok (.bipush 8, 2) := by decide +kernel
theorem dX9_clause_158 : decode cX9_clause 158 = .ok (.iconst (-1), 1) := by decide +kernel
theorem dX9_clause_159 : decode cX9_clause 159 = .ok (.invokevirtual 159, 3) := by decide +kernel
theorem dX9_clause_162 : decode cX9_clause 162 = .ok (.goto 13, 3) := by decide +kernel
theorem dX9_clause_165 : decode cX9_clause 165 = .ok (.aload_n 0, 1) := by decide +kernel
theorem dX9_clause_166 : decode cX9_clause 166 = .ok (.bipush 30, 2) := by decide +kernel
theorem dX9_clause_168 : decode cX9_clause 168 = .ok (.sipush 999, 3) := by decide +kernel
theorem dX9_clause_171 : decode cX9_clause 171 = .ok (.iconst (-1), 1) := by decide +kernel
theorem dX9_clause_172 : decode cX9_clause 172 = .ok (.invokevirtual 159, 3) := by decide +kernel
theorem dX9_clause_175 : decode cX9_clause 175 = .ok (.iastore, 1) := by decide +kernel
theorem dX9_clause_176 : decode cX9_clause 176 = .ok (.aload_n 0, 1) := by decide +kernel
theorem dX9_clause_177 : decode cX9_clause 177 = .ok (.bipush 59, 2) := by decide +kernel
theorem dX9_clause_179 : decode cX9_clause 179 = .ok (.invokevirtual 163, 3) := by decide +kernel
theorem dX9_clause_182 : decode cX9_clause 182 = .ok (.return_, 1) := by decide +kernel
theorem dX9_dawns_0 : decode cX9_dawns 0 = .ok (.iconst 0, 1) := by decide +kernel
theorem dX9_dawns_1 : decode cX9_dawns 1 = .ok (.istore_n 1, 1) := by decide +kernel
theorem dX9_dawns_2 : decode cX9_dawns 2 = .ok (.iload_n 1, 1) := by decide +kernel
theorem dX9_dawns_3 : decode cX9_dawns 3 = .ok (.bipush 9, 2) := by decide +kernel
theorem dX9_dawns_5 : decode cX9_dawns 5 = .ok (.if_icmp .ge 21, 3) := by decide +kernel
theorem dX9_dawns_8 : decode cX9_dawns 8 = .ok (.aload_n 0, 1) := by decide +kernel
theorem dX9_dawns_9 : decode cX9_dawns 9 = .ok (.getfield 58, 3) := by decide +kernel
theorem dX9_dawns_12 : decode cX9_dawns 12 = .ok (.iload_n 1, 1) := by decide +kernel
theorem dX9_dawns_13 : decode cX9_dawns 13 = .ok (.aload_n 0, 1) := by decide +kernel
theorem dX9_dawns_14 : decode cX9_dawns 14 = .ok (.getfield 23, 3) := by decide +kernel
theorem dX9_dawns_17 : decode cX9_dawns 17 = .ok (.iconst 4, 1) := by decide +kernel
theorem dX9_dawns_18 : decode cX9_dawns 18 = .ok (.iaload, 1) := by decide +kernel
theorem dX9_dawns_19 : decode cX9_dawns 19 = .ok (.iastore, 1) := by decide +kernel
theorem dX9_dawns_20 : decode cX9_dawns 20 = .ok (.iinc 1 1, 3) := by decide +kernel
theorem dX9_dawns_23 : decode cX9_dawns 23 = .ok (.goto (-21), 3) := by decide +kernel
theorem dX9_dawns_26 : decode cX9_dawns 26 = .ok (.return_, 1) := by decide +kernel
theorem dX9_town_0 : decode cX9_town 0 = .ok (.aload_n 0, 1) := by decide +kernel
theorem dX9_town_1 : decode cX9_town 1 = .ok (.iconst 0, 1) := by decide +kernel
theorem dX9_town_2 : decode cX9_town 2 = .ok (.putfield 106, 3) := by decide +kernel
theorem dX9_town_5 : decode cX9_town 5 = .ok (.aload_n 0, 1) := by decide +kernel
theorem dX9_town_6 : decode cX9_town 6 = .ok (.iload_n 1, 1) := by decide +kernel
theorem dX9_town_7 : decode cX9_town 7 = .ok (.iconst 0, 1) := by decide +kernel
theorem dX9_town_8 : decode cX9_town 8 = .ok (.aload_n 0, 1) := by decide +kernel
theorem dX9_town_9 : decode cX9_town 9 = .ok (.getfield 109, 3) := by decide +kernel
theorem dX9_town_12 : decode cX9_town 12 = .ok (.invokestatic 140, 3) := by decide +kernel
theorem dX9_town_15 : decode cX9_town 15 = .ok (.ifCond .ne 7, 3) := by decide +kernel
theorem dX9_town_18 : decode cX9_town 18 = .ok (.iconst 1, 1) := by decide +kernel
theorem dX9_town_19 : decode cX9_town 19 = .ok (.goto 4, 3) := by decide +kernel
theorem dX9_town_22 : decode cX9_town 22 = .ok (.iconst 0, 1) := by decide +kernel
theorem dX9_town_23 : decode cX9_town 23 = .ok (.iconst 1, 1) := by decide +kernel
theorem dX9_town_24 : decode cX9_town 24 = .ok (.invokevirtual 188, 3) := by decide +kernel
theorem dX9_town_27 : decode cX9_town 27 = .ok (.ifCond .eq 5, 3) := by decide +kernel
theorem dX9_town_30 : decode cX9_town 30 = .ok (.iconst 0, 1) := by decide +kernel
theorem dX9_town_31 : decode cX9_town 31 = .ok (.ireturn, 1) := by decide +kernel
theorem dX9_town_32 : decode cX9_town 32 = .ok (.aload_n 0, 1) := by decide +kernel
theorem dX9_town_33 : decode cX9_town 33 = .ok (.iconst 0, 1) := by decide +kernel
theorem dX9_town_34 : decode cX9_town 34 = .ok (.putfield 109, 3) := by decide +kernel
theorem dX9_town_37 : decode cX9_town 37 = .ok (.aload_n 0, 1) := by decide +kernel
theorem dX9_town_38 : decode cX9_town 38 = .ok (.iload_n 1, 1) := by decide +kernel
theorem dX9_town_39 : decode cX9_town 39 = .ok (.putfield 112, 3) := by decide +kernel
theorem dX9_town_42 : decode cX9_town 42 = .ok (.aload_n 0, 1) := by decide +kernel
theorem dX9_town_43 : decode cX9_town 43 = .ok (.iconst 0, 1) := by decide +kernel
theorem dX9_town_44 : decode cX9_town 44 = .ok (.putfield 115, 3) := by decide +kernel
theorem dX9_town_47 : decode cX9_town 47 = .ok (.aload_n 0, 1) := by decide +kernel
theorem dX9_town_48 : decode cX9_town 48 = .ok (.iconst 0, 1) := by decide +kernel
theorem dX9_town_49 : decode cX9_town 49 = .ok (.putfield 122, 3) := by decide +kernel
theorem dX9_town_52 : decode cX9_town 52 = .ok (.aload_n 0, 1) := by decide +kernel
theorem dX9_town_53 : decode cX9_town 53 = .ok (.iconst (-1), 1) := by decide +kernel
theorem dX9_town_54 : decode cX9_town 54 = .ok (.putfield 125, 3) := by decide +kernel
theorem dX9_town_57 : decode cX9_town 57 = .ok (.aload_n 0, 1) := by decide +kernel
theorem dX9_town_58 : decode cX9_town 58 = .ok (.invokevirtual 192, 3) := by decide +kernel
theorem dX9_town_61 : decode cX9_town 61 = .ok (.aload_n 0, 1) := by decide +kernel
theorem dX9_town_62 : decode cX9_town 62 = .ok (.invokevirtual 128, 3) := by decide +kernel
theorem dX9_town_65 : decode cX9_town 65 = .ok (.aload_n 0, 1) := by decide +kernel
theorem dX9_town_66 : decode cX9_town 66 = .ok (.getfield 122, 3) := by decide +kernel
theorem dX9_town_69 : decode cX9_town 69 = .ok (.ifCond .ne 25, 3) := by decide +kernel
theorem dX9_town_72 : decode cX9_town 72 = .ok (.aload_n 0, 1) := by decide +kernel
theorem dX9_town_73 : decode cX9_town 73 = .ok (.getfield 115, 3) := by decide +kernel
theorem dX9_town_76 : decode cX9_town 76 = .ok (.aload_n 0, 1) := by decide +kernel
theorem dX9_town_77 : decode cX9_town 77 = .ok (.getfield 112, 3) := by decide +kernel
theorem dX9_town_80 : decode cX9_town 80 = .ok (.if_icmp .ge 14, 3) := by decide +kernel
theorem dX9_town_83 : decode cX9_town 83 = .ok (.aload_n 0, 1) := by decide +kernel
theorem dX9_town_84 : decode cX9_town 84 = .ok (.invokevirtual 195, 3) := by decide +kernel
theorem dX9_town_87 : decode cX9_town 87 = .ok (.aload_n 0, 1) := by decide +kernel
theorem dX9_town_88 : decode cX9_town 88 = .ok (.invokevirtual 128, 3) := by decide +kernel
theorem dX9_town_91 : decode cX9_town 91 = .ok (.goto (-26), 3) := by decide +kernel
theorem dX9_town_94 : decode cX9_town 94 = .ok (.aload_n 0, 1) := by decide +kernel
theorem dX9_town_95 : decode cX9_town 95 = .ok (.aload_n 0, 1) := by decide +kernel
theorem dX9_town_96 : decode cX9_town 96 = .ok (.getfield 125, 3) := by decide +kernel
theorem dX9_town_99 : decode cX9_town 99 = .ok (.putfield 9, 3) := by decide +kernel
theorem dX9_town_102 : decode cX9_town 102 = .ok (.aload_n 0, 1) := by decide +kernel
theorem dX9_town_103 : decode cX9_town 103 = .ok (.getfield 122, 3) := by decide +kernel
theorem dX9_town_106 : decode cX9_town 106 = .ok (.ifCond .eq 11, 3) := by decide +kernel
theorem dX9_town_109 : decode cX9_town 109 = .ok (.aload_n 0, 1) := by decide +kernel
theorem dX9_town_110 : decode cX9_town 110 = .ok (.getfield 122, 3) := by decide +kernel
theorem dX9_town_113 : decode cX9_town 113 = .ok (.bipush 10, 2) := by decide +kernel
theorem dX9_town_115 : decode cX9_town 115 = .ok (.isub, 1) := by decide +kernel
theorem dX9_town_116 : decode cX9_town 116 = .ok (.ireturn, 1) := by decide +kernel
theorem dX9_town_117 : decode cX9_town 117 = .ok (.iconst 0, 1) := by decide +kernel
theorem dX9_town_118 : decode cX9_town 118 = .ok (.istore_n 2, 1) := by decide +kernel
theorem dX9_town_119 : decode cX9_town 119 = .ok (.iload_n 2, 1) := by decide +kernel
theorem dX9_town_120 : decode cX9_town 120 = .ok (.bipush 6, 2) := by decide +kernel
theorem dX9_town_122 : decode cX9_town 122 = .ok (.if_icmp .ge 21, 3) := by decide +kernel
theorem dX9_town_125 : decode cX9_town 125 = .ok (.aload_n 0, 1) := by decide +kernel
theorem dX9_town_126 : decode cX9_town 126 = .ok (.getfield 23, 3) := by decide +kernel
theorem dX9_town_129 : decode cX9_town 129 = .ok (.iload_n 2, 1) := by decide +kernel
theorem dX9_town_130 : decode cX9_town 130 = .ok (.aload_n 0, 1) := by decide +kernel
theorem dX9_town_131 : decode cX9_town 131 = .ok (.getfield 20, 3) := by decide +kernel
theorem dX9_town_134 : decode cX9_town 134 = .ok (.iload_n 2, 1) := by decide +kernel
theorem dX9_town_135 : decode cX9_town 135 = .ok (.iaload, 1) := by decide +kernel
theorem dX9_town_136 : decode cX9_town 136 = .ok (.iastore, 1) := by decide +kernel
theorem dX9_town_137 : decode cX9_town 137 = .ok (.iinc 2 1, 3) := by decide +kernel
theorem dX9_town_140 : decode cX9_town 140 = .ok (.goto (-21), 3) := by decide +kernel
theorem dX9_town_143 : decode cX9_town 143 = .ok (.iconst 0, 1) := by decide +kernel
theorem dX9_town_144 : decode cX9_town 144 = .ok (.istore_n 2, 1) := by decide +kernel
theorem dX9_town_145 : decode cX9_town 145 = .ok (.iload_n 2, 1) := by decide +kernel
theorem dX9_town_146 : decode cX9_town 146 = .ok (.bipush 8, 2) := by decide +kernel
theorem dX9_town_148 : decode cX9_town 148 = .ok (.if_icmp .ge 39, 3) := by decide +kernel
theorem dX9_town_151 : decode cX9_town 151 = .ok (.iconst 0, 1) := by decide +kernel
theorem dX9_town_152 : decode cX9_town 152 = .ok (.istore_n 3, 1) := by decide +kernel
theorem dX9_town_153 : decode cX9_town 153 = .ok (.iload_n 3, 1) := by decide +kernel
theorem dX9_town_154 : decode cX9_town 154 = .ok (.bipush 6, 2) := by decide +kernel
theorem dX9_town_156 : decode cX9_town 156 = .ok (.if_icmp .ge 25, 3) := by decide +kernel
theorem dX9_town_159 : decode cX9_town 159 = .ok (.aload_n 0, 1) := by decide +kernel
theorem dX9_town_160 : decode cX9_town 160 = .ok (.getfield 31, 3) := by decide +kernel
theorem dX9_town_163 : decode cX9_town 163 = .ok (.iload_n 2, 1) := by decide +kernel
theorem dX9_town_164 : decode cX9_town 164 = .ok (.aaload, 1) := by decide +kernel
theorem dX9_town_165 : decode cX9_town 165 = .ok (.iload_n 3, 1) := by decide +kernel
theorem dX9_town_166 : decode cX9_town 166 = .ok (.aload_n 0, 1) := by decide +kernel
theorem dX9_town_167 : decode cX9_town 167 = .ok (.getfield 28, 3) := by decide +kernel
theorem dX9_town_170 : decode cX9_town 170 = .ok (.iload_n 2, 1) := by decide +kernel
theorem dX9_town_171 : decode cX9_town 171 = .ok (.aaload, 1) := by decide +kernel
theorem dX9_town_172 : decode cX9_town 172 = .ok (.iload_n 3, 1) := by decide +kernel
theorem dX9_town_173 : decode cX9_town 173 = .ok (.iaload, 1) := by decide +kernel
theorem dX9_town_174 : decode cX9_town 174 = .ok (.iastore, 1) := by decide +kernel
theorem dX9_town_175 : decode cX9_town 175 = .ok (.iinc 3 1, 3) := by decide +kernel
theorem dX9_town_178 : decode cX9_town 178 = .ok (.goto (-25), 3) := by decide +kernel
theorem dX9_town_181 : decode cX9_town 181 = .ok (.iinc 2 1, 3) := by decide +kernel
theorem dX9_town_184 : decode cX9_town 184 = .ok (.goto (-39), 3) := by decide +kernel
theorem dX9_town_187 : decode cX9_town 187 = .ok (.iconst 0, 1) := by decide +kernel
theorem dX9_town_188 : decode cX9_town 188 = .ok (.istore_n 2, 1) := by decide +kernel
theorem dX9_town_189 : decode cX9_town 189 = .ok (.iload_n 2, 1) := by decide +kernel
theorem dX9_town_190 : decode cX9_town 190 = .ok (.bipush 8, 2) := by decide +kernel
theorem dX9_town_192 : decode cX9_town 192 = .ok (.if_icmp .ge 21, 3) := by decide +kernel
theorem dX9_town_195 : decode cX9_town 195 = .ok (.aload_n 0, 1) := by decide +kernel
theorem dX9_town_196 : decode cX9_town 196 = .ok (.getfield 49, 3) := by decide +kernel
theorem dX9_town_199 : decode cX9_town 199 = .ok (.iload_n 2, 1) := by decide +kernel
theorem dX9_town_200 : decode cX9_town 200 = .ok (.aload_n 0, 1) := by decide +kernel
theorem dX9_town_201 : decode cX9_town 201 = .ok (.getfield 46, 3) := by decide +kernel
theorem dX9_town_204 : decode cX9_town 204 = .ok (.iload_n 2, 1) := by decide +kernel
theorem dX9_town_205 : decode cX9_town 205 = .ok (.iaload, 1) := by decide +kernel
theorem dX9_town_206 : decode cX9_town 206 = .ok (.iastore, 1) := by decide +kernel
theorem dX9_town_207 : decode cX9_town 207 = .ok (.iinc 2 1, 3) := by decide +kernel
theorem dX9_town_210 : decode cX9_town 210 = .ok (.goto (-21), 3) := by decide +kernel
theorem dX9_town_213 : decode cX9_town 213 = .ok (.iconst 0, 1) := by decide +kernel
theorem dX9_town_214 : decode cX9_town 214 = .ok (.istore_n 2, 1) := by decide +kernel
theorem dX9_town_215 : decode cX9_town 215 = .ok (.iload_n 2, 1) := by decide +kernel
theorem dX9_town_216 : decode cX9_town 216 = .ok (.bipush 10, 2) := by decide +kernel
theorem dX9_town_218 : decode cX9_town 218 = .ok (.if_icmp .ge 38, 3) := by decide +kernel
theorem dX9_town_221 : decode cX9_town 221 = .ok (.iconst 0, 1) := by decide +kernel
theorem dX9_town_222 : decode cX9_town 222 = .ok (.istore_n 3, 1) := by decide +kernel
theorem dX9_town_223 : decode cX9_town 223 = .ok (.iload_n 3, 1) := by decide +kernel
theorem dX9_town_224 : decode cX9_town 224 = .ok (.iconst 4, 1) := by decide +kernel
theorem dX9_town_225 : decode cX9_town 225 = .ok (.if_icmp .ge 25, 3) := by decide +kernel
theorem dX9_town_228 : decode cX9_town 228 = .ok (.aload_n 0, 1) := by decide +kernel
theorem dX9_town_229 : decode cX9_town 229 = .ok (.getfield 37, 3) := by decide +kernel
theorem dX9_town_232 : decode cX9_town 232 = .ok (.iload_n 2, 1) := by decide +kernel
theorem dX9_town_233 : decode cX9_town 233 = .ok (.aaload, 1) := by decide +kernel
theorem dX9_town_234 : decode cX9_town 234 = .ok (.iload_n 3, 1) := by decide +kernel
theorem dX9_town_235 : decode cX9_town 235 = .ok (.aload_n 0, 1) := by decide +kernel
theorem dX9_town_236 : decode cX9_town 236 = .ok (.getfield 34, 3) := by decide +kernel
theorem dX9_town_239 : decode cX9_town 239 = .ok (.iload_n 2, 1) := by decide +kernel
theorem dX9_town_240 : decode cX9_town 240 = .ok (.aaload, 1) := by decide +kernel
theorem dX9_town_241 : decode cX9_town 241 = .ok (.iload_n 3, 1) := by decide +kernel
theorem dX9_town_242 : decode cX9_town 242 = .ok (.iaload, 1) := by decide +kernel
theorem dX9_town_243 : decode cX9_town 243 = .ok (.iastore, 1) := by decide +kernel
theorem dX9_town_244 : decode cX9_town 244 = .ok (.iinc 3 1, 3) := by decide +kernel
theorem dX9_town_247 : decode cX9_town 247 = .ok (.goto (-24), 3) := by decide +kernel
theorem dX9_town_250 : decode cX9_town 250 = .ok (.iinc 2 1, 3) := by decide +kernel
theorem dX9_town_253 : decode cX9_town 253 = .ok (.goto (-38), 3) := by decide +kernel
theorem dX9_town_256 : decode cX9_town 256 = .ok (.iconst 0, 1) := by decide +kernel
theorem dX9_town_257 : decode cX9_town 257 = .ok (.istore_n 2, 1) := by decide +kernel
theorem dX9_town_258 : decode cX9_town 258 = .ok (.iload_n 2, 1) := by decide +kernel
theorem dX9_town_259 : decode cX9_town 259 = .ok (.bipush 7, 2) := by decide +kernel
theorem dX9_town_261 : decode cX9_town 261 = .ok (.if_icmp .ge 21, 3) := by decide +kernel
theorem dX9_town_264 : decode cX9_town 264 = .ok (.aload_n 0, 1) := by decide +kernel
theorem dX9_town_265 : decode cX9_town 265 = .ok (.getfield 43, 3) := by decide +kernel
theorem dX9_town_268 : decode cX9_town 268 = .ok (.iload_n 2, 1) := by decide +kernel
theorem dX9_town_269 : decode cX9_town 269 = .ok (.aload_n 0, 1) := by decide +kernel
theorem dX9_town_270 : decode cX9_town 270 = .ok (.getfield 40, 3) := by decide +kernel
theorem dX9_town_273 : decode cX9_town 273 = .ok (.iload_n 2, 1) := by decide +kernel
theorem dX9_town_274 : decode cX9_town 274 = .ok (.iaload, 1) := by decide +kernel
theorem dX9_town_275 : decode cX9_town 275 = .ok (.iastore, 1) := by decide +kernel
theorem dX9_town_276 : decode cX9_town 276 = .ok (.iinc 2 1, 3) := by decide +kernel
theorem dX9_town_279 : decode cX9_town 279 = .ok (.goto (-21), 3) := by decide +kernel
theorem dX9_town_282 : decode cX9_town 282 = .ok (.aload_n 0, 1) := by decide +kernel
theorem dX9_town_283 : decode cX9_town 283 = .ok (.iconst 0, 1) := by decide +kernel
theorem dX9_town_284 : decode cX9_town 284 = .ok (.putfield 198, 3) := by decide +kernel
theorem dX9_town_287 : decode cX9_town 287 = .ok (.aload_n 0, 1) := by decide +kernel
theorem dX9_town_288 : decode cX9_town 288 = .ok (.iconst 0, 1) := by decide +kernel
theorem dX9_town_289 : decode cX9_town 289 = .ok (.putfield 201, 3) := by decide +kernel
theorem dX9_town_292 : decode cX9_town 292 = .ok (.aload_n 0, 1) := by decide +kernel
theorem dX9_town_293 : decode cX9_town 293 = .ok (.iconst 0, 1) := by decide +kernel
theorem dX9_town_294 : decode cX9_town 294 = .ok (.putfield 204, 3) := by decide +kernel
theorem dX9_town_297 : decode cX9_town 297 = .ok (.iconst 0, 1) := by decide +kernel
theorem dX9_town_298 : decode cX9_town 298 = .ok (.istore_n 2, 1) := by decide +kernel
theorem dX9_town_299 : decode cX9_town 299 = .ok (.iload_n 2, 1) := by decide +kernel
theorem dX9_town_300 : decode cX9_town 300 = .ok (.bipush 8, 2) := by decide +kernel
theorem dX9_town_302 : decode cX9_town 302 = .ok (.if_icmp .ge 38, 3) := by decide +kernel
theorem dX9_town_305 : decode cX9_town 305 = .ok (.iconst 0, 1) := by decide +kernel
theorem dX9_town_306 : decode cX9_town 306 = .ok (.istore_n 3, 1) := by decide +kernel
theorem dX9_town_307 : decode cX9_town 307 = .ok (.iload_n 3, 1) := by decide +kernel
theorem dX9_town_308 : decode cX9_town 308 = .ok (.iconst 4, 1) := by decide +kernel
theorem dX9_town_309 : decode cX9_town 309 = .ok (.if_icmp .ge 25, 3) := by decide +kernel
theorem dX9_town_312 : decode cX9_town 312 = .ok (.aload_n 0, 1) := by decide +kernel
theorem dX9_town_313 : decode cX9_town 313 = .ok (.getfield 52, 3) := by decide +kernel
theorem dX9_town_316 : decode cX9_town 316 = .ok (.iload_n 2, 1) := by decide +kernel
theorem dX9_town_317 : decode cX9_town 317 = .ok (.aaload, 1) := by decide +kernel
theorem dX9_town_318 : decode cX9_town 318 = .ok (.iload_n 3, 1) := by decide +kernel
theorem dX9_town_319 : decode cX9_town 319 = .ok (.aload_n 0, 1) := by decide +kernel
theorem dX9_town_320 : decode cX9_town 320 = .ok (.getfield 31, 3) := by decide +kernel
theorem dX9_town_323 : decode cX9_town 323 = .ok (.iload_n 2, 1) := by decide +kernel
theorem dX9_town_324 : decode cX9_town 324 = .ok (.aaload, 1) := by decide +kernel
theorem dX9_town_325 : decode cX9_town 325 = .ok (.iload_n 3, 1) := by decide +kernel
theorem dX9_town_326 : decode cX9_town 326 = .ok (.iaload, 1) := by decide +kernel
theorem dX9_town_327 : decode cX9_town 327 = .ok (.iastore, 1) := by decide +kernel
theorem dX9_town_328 : decode cX9_town 328 = .ok (.iinc 3 1, 3) := by decide +kernel
theorem dX9_town_331 : decode cX9_town 331 = .ok (.goto (-24), 3) := by decide +kernel
theorem dX9_town_334 : decode cX9_town 334 = .ok (.iinc 2 1, 3) := by decide +kernel
theorem dX9_town_337 : decode cX9_town 337 = .ok (.goto (-38), 3) := by decide +kernel
theorem dX9_town_340 : decode cX9_town 340 = .ok (.iconst 0, 1) := by decide +kernel
theorem dX9_town_341 : decode cX9_town 341 = .ok (.istore_n 2, 1) := by decide +kernel
theorem dX9_town_342 : decode cX9_town 342 = .ok (.iload_n 2, 1) := by decide +kernel
theorem dX9_town_343 : decode cX9_town 343 = .ok (.bipush 10, 2) := by decide +kernel
theorem dX9_town_345 : decode cX9_town 345 = .ok (.if_icmp .ge 16, 3) := by decide +kernel
theorem dX9_town_348 : decode cX9_town 348 = .ok (.aload_n 0, 1) := by decide +kernel
theorem dX9_town_349 : decode cX9_town 349 = .ok (.getfield 61, 3) := by decide +kernel
theorem dX9_town_352 : decode cX9_town 352 = .ok (.iload_n 2, 1) := by decide +kernel
theorem dX9_town_353 : decode cX9_town 353 = .ok (.iconst 0, 1) := by decide +kernel
theorem dX9_town_354 : decode cX9_town 354 = .ok (.iastore, 1) := by decide +kernel
theorem dX9_town_355 : decode cX9_town 355 = .ok (.iinc 2 1, 3) := by decide +kernel
theorem dX9_town_358 : decode cX9_town 358 = .ok (.goto (-16), 3) := by decide +kernel
theorem dX9_town_361 : decode cX9_town 361 = .ok (.aload_n 0, 1) := by decide +kernel
theorem dX9_town_362 : decode cX9_town 362 = .ok (.invokevirtual 207, 3) := by decide +kernel
theorem dX9_town_365 : decode cX9_town 365 = .ok (.aload_n 0, 1) := by decide +kernel
theorem dX9_town_366 : decode cX9_town 366 = .ok (.getfield 23, 3) := by decide +kernel
theorem dX9_town_369 : decode cX9_town 369 = .ok (.iconst 1, 1) := by decide +kernel
theorem dX9_town_370 : decode cX9_town 370 = .ok (.iaload, 1) := by decide +kernel
theorem dX9_town_371 : decode cX9_town 371 = .ok (.ireturn, 1) := by decide +kernel
theorem dX9_fault_0 : decode cX9_fault 0 = .ok (.aload_n 0, 1) := by decide +kernel
theorem dX9_fault_1 : decode cX9_fault 1 = .ok (.iconst 0, 1) := by decide +kernel
theorem dX9_fault_2 : decode cX9_fault 2 = .ok (.putfield 106, 3) := by decide +kernel
theorem dX9_fault_5 : decode cX9_fault 5 = .ok (.aload_n 0, 1) := by decide +kernel
theorem dX9_fault_6 : decode cX9_fault 6 = .ok (.getfield 9, 3) := by decide +kernel
theorem dX9_fault_9 : decode cX9_fault 9 = .ok (.ireturn, 1) := by decide +kernel
theorem dX9_isKin_0 : decode cX9_isKin 0 = .ok (.aload_n 0, 1) := by decide +kernel
theorem dX9_isKin_1 : decode cX9_isKin 1 = .ok (.getfield 49, 3) := by decide +kernel
theorem dX9_isKin_4 : decode cX9_isKin 4 = .ok (.iload_n 1, 1) := by decide +kernel
theorem dX9_isKin_5 : decode cX9_isKin 5 = .ok (.iaload, 1) := by decide +kernel
theorem dX9_isKin_6 : decode cX9_isKin 6 = .ok (.iload_n 2, 1) := by decide +kernel
theorem dX9_isKin_7 : decode cX9_isKin 7 = .ok (.ishr, 1) := by decide +kernel
theorem dX9_isKin_8 : decode cX9_isKin 8 = .ok (.iconst 1, 1) := by decide +kernel
theorem dX9_isKin_9 : decode cX9_isKin 9 = .ok (.iand, 1) := by decide +kernel
theorem dX9_isKin_10 : decode cX9_isKin 10 = .ok (.iconst 1, 1) := by decide +kernel
theorem dX9_isKin_11 : decode cX9_isKin 11 = .ok (.if_icmp .ne 7, 3) := by decide +kernel
theorem dX9_isKin_14 : decode cX9_isKin 14 = .ok (.iconst 1, 1) := by decide +kernel
theorem dX9_isKin_15 : decode cX9_isKin 15 = .ok (.goto 4, 3) := by decide +kernel
theorem dX9_isKin_18 : decode cX9_isKin 18 = .ok (.iconst 0, 1) := by decide +kernel
theorem dX9_isKin_19 : decode cX9_isKin 19 = .ok (.ireturn, 1) := by decide +kernel
theorem dX9_told_0 : decode cX9_told 0 = .ok (.aload_n 0, 1) := by decide +kernel
theorem dX9_told_1 : decode cX9_told 1 = .ok (.iconst 0, 1) := by decide +kernel
theorem dX9_told_2 : decode cX9_told 2 = .ok (.putfield 106, 3) := by decide +kernel
theorem dX9_told_5 : decode cX9_told 5 = .ok (.aload_n 0, 1) := by decide +kernel
theorem dX9_told_6 : decode cX9_told 6 = .ok (.iload_n 1, 1) := by decide +kernel
theorem dX9_told_7 : decode cX9_told 7 = .ok (.iconst 0, 1) := by decide +kernel
theorem dX9_told_8 : decode cX9_told 8 = .ok (.bipush 6, 2) := by decide +kernel
theorem dX9_told_10 : decode cX9_told 10 = .ok (.invokestatic 140, 3) := by decide +kernel
theorem dX9_told_13 : decode cX9_told 13 = .ok (.ifCond .ne 7, 3) := by decide +kernel
theorem dX9_told_16 : decode cX9_told 16 = .ok (.iconst 1, 1) := by decide +kernel
theorem dX9_told_17 : decode cX9_told 17 = .ok (.goto 4, 3) := by decide +kernel
theorem dX9_told_20 : decode cX9_told 20 = .ok (.iconst 0, 1) := by decide +kernel
theorem dX9_told_21 : decode cX9_told 21 = .ok (.iconst 1, 1) := by decide +kernel
theorem dX9_told_22 : decode cX9_told 22 = .ok (.invokevirtual 188, 3) := by decide +kernel
theorem dX9_told_25 : decode cX9_told 25 = .ok (.ifCond .eq 5, 3) := by decide +kernel
theorem dX9_told_28 : decode cX9_told 28 = .ok (.iconst 0, 1) := by decide +kernel
theorem dX9_told_29 : decode cX9_told 29 = .ok (.ireturn, 1) := by decide +kernel
theorem dX9_told_30 : decode cX9_told 30 = .ok (.iload_n 1, 1) := by decide +kernel
theorem dX9_told_31 : decode cX9_told 31 = .ok (.iconst 5, 1) := by decide +kernel
theorem dX9_told_32 : decode cX9_told 32 = .ok (.if_icmp .ge 10, 3) := by decide +kernel
theorem dX9_told_35 : decode cX9_told 35 = .ok (.aload_n 0, 1) := by decide +kernel
theorem dX9_told_36 : decode cX9_told 36 = .ok (.getfield 23, 3) := by decide +kernel
theorem dX9_told_39 : decode cX9_told 39 = .ok (.iload_n 1, 1) := by decide +kernel
theorem dX9_told_40 : decode cX9_told 40 = .ok (.iaload, 1) := by decide +kernel
theorem dX9_told_41 : decode cX9_told 41 = .ok (.ireturn, 1) := by decide +kernel
theorem dX9_told_42 : decode cX9_told 42 = .ok (.iconst 0, 1) := by decide +kernel
theorem dX9_told_43 : decode cX9_told 43 = .ok (.istore_n 2, 1) := by decide +kernel
theorem dX9_told_44 : decode cX9_told 44 = .ok (.iconst 0, 1) := by decide +kernel
theorem dX9_told_45 : decode cX9_told 45 = .ok (.istore_n 3, 1) := by decide +kernel
theorem dX9_told_46 : decode cX9_told 46 = .ok (.iload_n 3, 1) := by decide +kernel
theorem dX9_told_47 : decode cX9_told 47 = .ok (.aload_n 0, 1) := by decide +kernel
theorem dX9_told_48 : decode cX9_told 48 = .ok (.getfield 23, 3) := by decide +kernel
theorem dX9_told_51 : decode cX9_told 51 = .ok (.iconst 1, 1) := by decide +kernel
theorem dX9_told_52 : decode cX9_told 52 = .ok (.iaload, 1) := by decide +kernel
theorem dX9_told_53 : decode cX9_told 53 = .ok (.if_icmp .ge 42, 3) := by decide +kernel
theorem dX9_told_56 : decode cX9_told 56 = .ok (.iconst 0, 1) := by decide +kernel
theorem dX9_told_57 : decode cX9_told 57 = .ok (.istore 4, 2) := by decide +kernel
theorem dX9_told_59 : decode cX9_told 59 = .ok (.iload 4, 2) := by decide +kernel
theorem dX9_told_61 : decode cX9_told 61 = .ok (.iload_n 3, 1) := by decide +kernel
theorem dX9_told_62 : decode cX9_told 62 = .ok (.if_icmp .ge 27, 3) := by decide +kernel
theorem dX9_told_65 : decode cX9_told 65 = .ok (.iload_n 2, 1) := by decide +kernel
theorem dX9_told_66 : decode cX9_told 66 = .ok (.aload_n 0, 1) := by decide +kernel
theorem dX9_told_67 : decode cX9_told 67 = .ok (.iload_n 3, 1) := by decide +kernel
theorem dX9_told_68 : decode cX9_told 68 = .ok (.iload 4, 2) := by decide +kernel
theorem dX9_told_70 : decode cX9_told 70 = .ok (.invokevirtual 210, 3) := by decide +kernel
theorem dX9_told_73 : decode cX9_told 73 = .ok (.ifCond .eq 7, 3) := by decide +kernel
theorem dX9_told_76 : decode cX9_told 76 = .ok (.iconst 1, 1) := by decide +kernel
theorem dX9_told_77 : decode cX9_told 77 = .ok (.goto 4, 3) := by decide +kernel
theorem dX9_told_80 : decode cX9_told 80 = .ok (.iconst 0, 1) := by decide +kernel
theorem dX9_told_81 : decode cX9_told 81 = .ok (.iadd, 1) := by decide +kernel
theorem dX9_told_82 : decode cX9_told 82 = .ok (.istore_n 2, 1) := by decide +kernel
theorem dX9_told_83 : decode cX9_told 83 = .ok (.iinc 4 1, 3) := by decide +kernel
theorem dX9_told_86 : decode cX9_told 86 = .ok (.goto (-27), 3) := by decide +kernel
theorem dX9_told_89 : decode cX9_told 89 = .ok (.iinc 3 1, 3) := by decide +kernel
theorem dX9_told_92 : decode cX9_told 92 = .ok (.goto (-46), 3) := by decide +kernel
theorem dX9_told_95 : decode cX9_told 95 = .ok (.iload_n 1, 1) := by decide +kernel
theorem dX9_told_96 : decode cX9_told 96 = .ok (.iconst 5, 1) := by decide +kernel
theorem dX9_told_97 : decode cX9_told 97 = .ok (.if_icmp .ne 7, 3) := by decide +kernel
theorem dX9_told_100 : decode cX9_told 100 = .ok (.iload_n 2, 1) := by decide +kernel
theorem dX9_told_101 : decode cX9_told 101 = .ok (.goto 9, 3) := by decide +kernel
theorem dX9_told_104 : decode cX9_told 104 = .ok (.aload_n 0, 1) := by decide +kernel
theorem dX9_told_105 : decode cX9_told 105 = .ok (.getfield 23, 3) := by decide +kernel
theorem dX9_told_108 : decode cX9_told 108 = .ok (.iconst 5, 1) := by decide +kernel
theorem dX9_told_109 : decode cX9_told 109 = .ok (.iaload, 1) := by decide +kernel
theorem dX9_told_110 : decode cX9_told 110 = .ok (.ireturn, 1) := by decide +kernel
theorem dX9_isPerson_0 : decode cX9_isPerson 0 = .ok (.iload_n 1, 1) := by decide +kernel
theorem dX9_isPerson_1 : decode cX9_isPerson 1 = .ok (.iconst 0, 1) := by decide +kernel
theorem dX9_isPerson_2 : decode cX9_isPerson 2 = .ok (.aload_n 0, 1) := by decide +kernel
theorem dX9_isPerson_3 : decode cX9_isPerson 3 = .ok (.getfield 23, 3) := by decide +kernel
theorem dX9_isPerson_6 : decode cX9_isPerson 6 = .ok (.iconst 1, 1) := by decide +kernel
theorem dX9_isPerson_7 : decode cX9_isPerson 7 = .ok (.iaload, 1) := by decide +kernel
theorem dX9_isPerson_8 : decode cX9_isPerson 8 = .ok (.iconst 1, 1) := by decide +kernel
theorem dX9_isPerson_9 : decode cX9_isPerson 9 = .ok (.isub, 1) := by decide +kernel
theorem dX9_isPerson_10 : decode cX9_isPerson 10 = .ok (.invokestatic 140, 3) := by decide +kernel
theorem dX9_isPerson_13 : decode cX9_isPerson 13 = .ok (.ireturn, 1) := by decide +kernel
theorem dX9_isAsked_0 : decode cX9_isAsked 0 = .ok (.iload_n 1, 1) := by decide +kernel
theorem dX9_isAsked_1 : decode cX9_isAsked 1 = .ok (.iconst 0, 1) := by decide +kernel
theorem dX9_isAsked_2 : decode cX9_isAsked 2 = .ok (.aload_n 0, 1) := by decide +kernel
theorem dX9_isAsked_3 : decode cX9_isAsked 3 = .ok (.getfield 23, 3) := by decide +kernel
theorem dX9_isAsked_6 : decode cX9_isAsked 6 = .ok (.iconst 0, 1) := by decide +kernel
theorem dX9_isAsked_7 : decode cX9_isAsked 7 = .ok (.iaload, 1) := by decide +kernel
theorem dX9_isAsked_8 : decode cX9_isAsked 8 = .ok (.iconst 1, 1) := by decide +kernel
theorem dX9_isAsked_9 : decode cX9_isAsked 9 = .ok (.isub, 1) := by decide +kernel
theorem dX9_isAsked_10 : decode cX9_isAsked 10 = .ok (.invokestatic 140, 3) := by decide +kernel
theorem dX9_isAsked_13 : decode cX9_isAsked 13 = .ok (.ireturn, 1) := by decide +kernel
theorem dX9_thinks_0 : decode cX9_thinks 0 = .ok (.aload_n 0, 1) := by decide +kernel
theorem dX9_thinks_1 : decode cX9_thinks 1 = .ok (.iconst 0, 1) := by decide +kernel
theorem dX9_thinks_2 : decode cX9_thinks 2 = .ok (.putfield 106, 3) := by decide +kernel
theorem dX9_thinks_5 : decode cX9_thinks 5 = .ok (.aload_n 0, 1) := by decide +kernel
theorem dX9_thinks_6 : decode cX9_thinks 6 = .ok (.aload_n 0, 1) := by decide +kernel
theorem dX9_thinks_7 : decode cX9_thinks 7 = .ok (.iload_n 1, 1) := by decide +kernel
theorem dX9_thinks_8 : decode cX9_thinks 8 = .ok (.invokevirtual 214, 3) := by decide +kernel
theorem dX9_thinks_11 : decode cX9_thinks 11 = .ok (.ifCond .ne 7, 3) := by decide +kernel
theorem dX9_thinks_14 : decode cX9_thinks 14 = .ok (.iconst 1, 1) := by decide +kernel
theorem dX9_thinks_15 : decode cX9_thinks 15 = .ok (.goto 4, 3) := by decide +kernel
theorem dX9_thinks_18 : decode cX9_thinks 18 = .ok (.iconst 0, 1) := by decide +kernel
theorem dX9_thinks_19 : decode cX9_thinks 19 = .ok (.iconst 1, 1) := by decide +kernel
theorem dX9_thinks_20 : decode cX9_thinks 20 = .ok (.invokevirtual 188, 3) := by decide +kernel
theorem dX9_thinks_23 : decode cX9_thinks 23 = .ok (.ifCond .ne 24, 3) := by decide +kernel
theorem dX9_thinks_26 : decode cX9_thinks 26 = .ok (.aload_n 0, 1) := by decide +kernel
theorem dX9_thinks_27 : decode cX9_thinks 27 = .ok (.aload_n 0, 1) := by decide +kernel
theorem dX9_thinks_28 : decode cX9_thinks 28 = .ok (.iload_n 2, 1) := by decide +kernel
theorem dX9_thinks_29 : decode cX9_thinks 29 = .ok (.invokevirtual 217, 3) := by decide +kernel
theorem dX9_thinks_32 : decode cX9_thinks 32 = .ok (.ifCond .ne 7, 3) := by decide +kernel
theorem dX9_thinks_35 : decode cX9_thinks 35 = .ok (.iconst 1, 1) := by decide +kernel
theorem dX9_thinks_36 : decode cX9_thinks 36 = .ok (.goto 4, 3) := by decide +kernel
theorem dX9_thinks_39 : decode cX9_thinks 39 = .ok (.iconst 0, 1) := by decide +kernel
theorem dX9_thinks_40 : decode cX9_thinks 40 = .ok (.iconst 2, 1) := by decide +kernel
theorem dX9_thinks_41 : decode cX9_thinks 41 = .ok (.invokevirtual 188, 3) := by decide +kernel
theorem dX9_thinks_44 : decode cX9_thinks 44 = .ok (.ifCond .eq 5, 3) := by decide +kernel
theorem dX9_thinks_47 : decode cX9_thinks 47 = .ok (.iconst 0, 1) := by decide +kernel
theorem dX9_thinks_48 : decode cX9_thinks 48 = .ok (.ireturn, 1) := by decide +kernel
theorem dX9_thinks_49 : decode cX9_thinks 49 = .ok (.aload_n 0, 1) := by decide +kernel
theorem dX9_thinks_50 : decode cX9_thinks 50 = .ok (.getfield 52, 3) := by decide +kernel
theorem dX9_thinks_53 : decode cX9_thinks 53 = .ok (.iload_n 1, 1) := by decide +kernel
theorem dX9_thinks_54 : decode cX9_thinks 54 = .ok (.aaload, 1) := by decide +kernel
theorem dX9_thinks_55 : decode cX9_thinks 55 = .ok (.iload_n 2, 1) := by decide +kernel
theorem dX9_thinks_56 : decode cX9_thinks 56 = .ok (.iaload, 1) := by decide +kernel
theorem dX9_thinks_57 : decode cX9_thinks 57 = .ok (.ireturn, 1) := by decide +kernel
theorem dX9_person_0 : decode cX9_person 0 = .ok (.aload_n 0, 1) := by decide +kernel
theorem dX9_person_1 : decode cX9_person 1 = .ok (.iconst 0, 1) := by decide +kernel
theorem dX9_person_2 : decode cX9_person 2 = .ok (.putfield 106, 3) := by decide +kernel
theorem dX9_person_5 : decode cX9_person 5 = .ok (.aload_n 0, 1) := by decide +kernel
theorem dX9_person_6 : decode cX9_person 6 = .ok (.aload_n 0, 1) := by decide +kernel
theorem dX9_person_7 : decode cX9_person 7 = .ok (.iload_n 1, 1) := by decide +kernel
theorem dX9_person_8 : decode cX9_person 8 = .ok (.invokevirtual 214, 3) := by decide +kernel
theorem dX9_person_11 : decode cX9_person 11 = .ok (.ifCond .ne 7, 3) := by decide +kernel
theorem dX9_person_14 : decode cX9_person 14 = .ok (.iconst 1, 1) := by decide +kernel
theorem dX9_person_15 : decode cX9_person 15 = .ok (.goto 4, 3) := by decide +kernel
theorem dX9_person_18 : decode cX9_person 18 = .ok (.iconst 0, 1) := by decide +kernel
theorem dX9_person_19 : decode cX9_person 19 = .ok (.iconst 1, 1) := by decide +kernel
theorem dX9_person_20 : decode cX9_person 20 = .ok (.invokevirtual 188, 3) := by decide +kernel
theorem dX9_person_23 : decode cX9_person 23 = .ok (.ifCond .ne 25, 3) := by decide +kernel
theorem dX9_person_26 : decode cX9_person 26 = .ok (.aload_n 0, 1) := by decide +kernel
theorem dX9_person_27 : decode cX9_person 27 = .ok (.iload_n 2, 1) := by decide +kernel
theorem dX9_person_28 : decode cX9_person 28 = .ok (.iconst 0, 1) := by decide +kernel
theorem dX9_person_29 : decode cX9_person 29 = .ok (.iconst 3, 1) := by decide +kernel
theorem dX9_person_30 : decode cX9_person 30 = .ok (.invokestatic 140, 3) := by decide +kernel
theorem dX9_person_33 : decode cX9_person 33 = .ok (.ifCond .ne 7, 3) := by decide +kernel
theorem dX9_person_36 : decode cX9_person 36 = .ok (.iconst 1, 1) := by decide +kernel
theorem dX9_person_37 : decode cX9_person 37 = .ok (.goto 4, 3) := by decide +kernel
theorem dX9_person_40 : decode cX9_person 40 = .ok (.iconst 0, 1) := by decide +kernel
theorem dX9_person_41 : decode cX9_person 41 = .ok (.iconst 2, 1) := by decide +kernel
theorem dX9_person_42 : decode cX9_person 42 = .ok (.invokevirtual 188, 3) := by decide +kernel
theorem dX9_person_45 : decode cX9_person 45 = .ok (.ifCond .eq 5, 3) := by decide +kernel
theorem dX9_person_48 : decode cX9_person 48 = .ok (.iconst 0, 1) := by decide +kernel
theorem dX9_person_49 : decode cX9_person 49 = .ok (.ireturn, 1) := by decide +kernel
theorem dX9_person_50 : decode cX9_person 50 = .ok (.iconst 0, 1) := by decide +kernel
theorem dX9_person_51 : decode cX9_person 51 = .ok (.istore_n 3, 1) := by decide +kernel
theorem dX9_person_52 : decode cX9_person 52 = .ok (.iconst 0, 1) := by decide +kernel
theorem dX9_person_53 : decode cX9_person 53 = .ok (.istore 4, 2) := by decide +kernel
theorem dX9_person_55 : decode cX9_person 55 = .ok (.iload 4, 2) := by decide +kernel
theorem dX9_person_57 : decode cX9_person 57 = .ok (.aload_n 0, 1) := by decide +kernel
theorem dX9_person_58 : decode cX9_person 58 = .ok (.getfield 23, 3) := by decide +kernel
theorem dX9_person_61 : decode cX9_person 61 = .ok (.iconst 1, 1) := by decide +kernel
theorem dX9_person_62 : decode cX9_person 62 = .ok (.iaload, 1) := by decide +kernel
theorem dX9_person_63 : decode cX9_person 63 = .ok (.if_icmp .ge 27, 3) := by decide +kernel
theorem dX9_person_66 : decode cX9_person 66 = .ok (.iload_n 3, 1) := by decide +kernel
theorem dX9_person_67 : decode cX9_person 67 = .ok (.aload_n 0, 1) := by decide +kernel
theorem dX9_person_68 : decode cX9_person 68 = .ok (.iload_n 1, 1) := by decide +kernel
theorem dX9_person_69 : decode cX9_person 69 = .ok (.iload 4, 2) := by decide +kernel
theorem dX9_person_71 : decode cX9_person 71 = .ok (.invokevirtual 210, 3) := by decide +kernel
theorem dX9_person_74 : decode cX9_person 74 = .ok (.ifCond .eq 7, 3) := by decide +kernel
theorem dX9_person_77 : decode cX9_person 77 = .ok (.iconst 1, 1) := by decide +kernel
theorem dX9_person_78 : decode cX9_person 78 = .ok (.goto 4, 3) := by decide +kernel
theorem dX9_person_81 : decode cX9_person 81 = .ok (.iconst 0, 1) := by decide +kernel
theorem dX9_person_82 : decode cX9_person 82 = .ok (.iadd, 1) := by decide +kernel
theorem dX9_person_83 : decode cX9_person 83 = .ok (.istore_n 3, 1) := by decide +kernel
theorem dX9_person_84 : decode cX9_person 84 = .ok (.iinc 4 1, 3) := by decide +kernel
theorem dX9_person_87 : decode cX9_person 87 = .ok (.goto (-32), 3) := by decide +kernel
theorem dX9_person_90 : decode cX9_person 90 = .ok (.iload_n 2, 1) := by decide +kernel
theorem dX9_person_91 : decode cX9_person 91 = .ok (.ifCond .ne 14, 3) := by decide +kernel
theorem dX9_person_94 : decode cX9_person 94 = .ok (.aload_n 0, 1) := by decide +kernel
theorem dX9_person_95 : decode cX9_person 95 = .ok (.getfield 31, 3) := by decide +kernel
theorem dX9_person_98 : decode cX9_person 98 = .ok (.iload_n 1, 1) := by decide +kernel
theorem dX9_person_99 : decode cX9_person 99 = .ok (.aaload, 1) := by decide +kernel
theorem dX9_person_100 : decode cX9_person 100 = .ok (.iconst 4, 1) := by decide +kernel
theorem dX9_person_101 : decode cX9_person 101 = .ok (.iaload, 1) := by decide +kernel
theorem dX9_person_102 : decode cX9_person 102 = .ok (.goto 34, 3) := by decide +kernel
theorem dX9_person_105 : decode cX9_person 105 = .ok (.iload_n 2, 1) := by decide +kernel
theorem dX9_person_106 : decode cX9_person 106 = .ok (.iconst 1, 1) := by decide +kernel
theorem dX9_person_107 : decode cX9_person 107 = .ok (.if_icmp .ne 12, 3) := by decide +kernel
theorem dX9_person_110 : decode cX9_person 110 = .ok (.aload_n 0, 1) := by decide +kernel
theorem dX9_person_111 : decode cX9_person 111 = .ok (.getfield 58, 3) := by decide +kernel
theorem dX9_person_114 : decode cX9_person 114 = .ok (.iload_n 1, 1) := by decide +kernel
theorem dX9_person_115 : decode cX9_person 115 = .ok (.iaload, 1) := by decide +kernel
theorem dX9_person_116 : decode cX9_person 116 = .ok (.goto 20, 3) := by decide +kernel
theorem dX9_person_119 : decode cX9_person 119 = .ok (.iload_n 2, 1) := by decide +kernel
theorem dX9_person_120 : decode cX9_person 120 = .ok (.iconst 2, 1) := by decide +kernel
theorem dX9_person_121 : decode cX9_person 121 = .ok (.if_icmp .ne 14, 3) := by decide +kernel
theorem dX9_person_124 : decode cX9_person 124 = .ok (.aload_n 0, 1) := by decide +kernel
theorem dX9_person_125 : decode cX9_person 125 = .ok (.getfield 31, 3) := by decide +kernel
theorem dX9_person_128 : decode cX9_person 128 = .ok (.iload_n 1, 1) := by decide +kernel
theorem dX9_person_129 : decode cX9_person 129 = .ok (.aaload, 1) := by decide +kernel
theorem dX9_person_130 : decode cX9_person 130 = .ok (.iconst 5, 1) := by decide +kernel
theorem dX9_person_131 : decode cX9_person 131 = .ok (.iaload, 1) := by decide +kernel
theorem dX9_person_132 : decode cX9_person 132 = .ok (.goto 4, 3) := by decide +kernel
theorem dX9_person_135 : decode cX9_person 135 = .ok (.iload_n 3, 1) := by decide +kernel
theorem dX9_person_136 : decode cX9_person 136 = .ok (.ireturn, 1) := by decide +kernel
theorem dX9_isDoor_0 : decode cX9_isDoor 0 = .ok (.iload_n 1, 1) := by decide +kernel
theorem dX9_isDoor_1 : decode cX9_isDoor 1 = .ok (.iconst 0, 1) := by decide +kernel
theorem dX9_isDoor_2 : decode cX9_isDoor 2 = .ok (.aload_n 0, 1) := by decide +kernel
theorem dX9_isDoor_3 : decode cX9_isDoor 3 = .ok (.getfield 23, 3) := by decide +kernel
theorem dX9_isDoor_6 : decode cX9_isDoor 6 = .ok (.iconst 2, 1) := by decide +kernel
theorem dX9_isDoor_7 : decode cX9_isDoor 7 = .ok (.iaload, 1) := by decide +kernel
theorem dX9_isDoor_8 : decode cX9_isDoor 8 = .ok (.iconst 1, 1) := by decide +kernel
theorem dX9_isDoor_9 : decode cX9_isDoor 9 = .ok (.isub, 1) := by decide +kernel
theorem dX9_isDoor_10 : decode cX9_isDoor 10 = .ok (.invokestatic 140, 3) := by decide +kernel
theorem dX9_isDoor_13 : decode cX9_isDoor 13 = .ok (.ireturn, 1) := by decide +kernel
theorem dX9_door_0 : decode cX9_door 0 = .ok (.aload_n 0, 1) := by decide +kernel
theorem dX9_door_1 : decode cX9_door 1 = .ok (.iconst 0, 1) := by decide +kernel
theorem dX9_door_2 : decode cX9_door 2 = .ok (.putfield 106, 3) := by decide +kernel
theorem dX9_door_5 : decode cX9_door 5 = .ok (.aload_n 0, 1) := by decide +kernel
theorem dX9_door_6 : decode cX9_door 6 = .ok (.aload_n 0, 1) := by decide +kernel
theorem dX9_door_7 : decode cX9_door 7 = .ok (.iload_n 1, 1) := by decide +kernel
theorem dX9_door_8 : decode cX9_door 8 = .ok (.invokevirtual 220, 3) := by decide +kernel
theorem dX9_door_11 : decode cX9_door 11 = .ok (.ifCond .ne 7, 3) := by decide +kernel
theorem dX9_door_14 : decode cX9_door 14 = .ok (.iconst 1, 1) := by decide +kernel
theorem dX9_door_15 : decode cX9_door 15 = .ok (.goto 4, 3) := by decide +kernel
theorem dX9_door_18 : decode cX9_door 18 = .ok (.iconst 0, 1) := by decide +kernel
theorem dX9_door_19 : decode cX9_door 19 = .ok (.iconst 1, 1) := by decide +kernel
theorem dX9_door_20 : decode cX9_door 20 = .ok (.invokevirtual 188, 3) := by decide +kernel
theorem dX9_door_23 : decode cX9_door 23 = .ok (.ifCond .ne 25, 3) := by decide +kernel
theorem dX9_door_26 : decode cX9_door 26 = .ok (.aload_n 0, 1) := by decide +kernel
theorem dX9_door_27 : decode cX9_door 27 = .ok (.iload_n 2, 1) := by decide +kernel
theorem dX9_door_28 : decode cX9_door 28 = .ok (.iconst 0, 1) := by decide +kernel
theorem dX9_door_29 : decode cX9_door 29 = .ok (.iconst 4, 1) := by decide +kernel
theorem dX9_door_30 : decode cX9_door 30 = .ok (.invokestatic 140, 3) := by decide +kernel
theorem dX9_door_33 : decode cX9_door 33 = .ok (.ifCond .ne 7, 3) := by decide +kernel
theorem dX9_door_36 : decode cX9_door 36 = .ok (.iconst 1, 1) := by decide +kernel
theorem dX9_door_37 : decode cX9_door 37 = .ok (.goto 4, 3) := by decide +kernel
theorem dX9_door_40 : decode cX9_door 40 = .ok (.iconst 0, 1) := by decide +kernel
theorem dX9_door_41 : decode cX9_door 41 = .ok (.iconst 2, 1) := by decide +kernel
theorem dX9_door_42 : decode cX9_door 42 = .ok (.invokevirtual 188, 3) := by decide +kernel
theorem dX9_door_45 : decode cX9_door 45 = .ok (.ifCond .eq 5, 3) := by decide +kernel
theorem dX9_door_48 : decode cX9_door 48 = .ok (.iconst 0, 1) := by decide +kernel
theorem dX9_door_49 : decode cX9_door 49 = .ok (.ireturn, 1) := by decide +kernel
theorem dX9_door_50 : decode cX9_door 50 = .ok (.iload_n 2, 1) := by decide +kernel
theorem dX9_door_51 : decode cX9_door 51 = .ok (.iconst 4, 1) := by decide +kernel
theorem dX9_door_52 : decode cX9_door 52 = .ok (.if_icmp .ge 14, 3) := by decide +kernel
theorem dX9_door_55 : decode cX9_door 55 = .ok (.aload_n 0, 1) := by decide +kernel
theorem dX9_door_56 : decode cX9_door 56 = .ok (.getfield 37, 3) := by decide +kernel
theorem dX9_door_59 : decode cX9_door 59 = .ok (.iload_n 1, 1) := by decide +kernel
theorem dX9_door_60 : decode cX9_door 60 = .ok (.aaload, 1) := by decide +kernel
theorem dX9_door_61 : decode cX9_door 61 = .ok (.iload_n 2, 1) := by decide +kernel
theorem dX9_door_62 : decode cX9_door 62 = .ok (.iaload, 1) := by decide +kernel
theorem dX9_door_63 : decode cX9_door 63 = .ok (.goto 9, 3) := by decide +kernel
theorem dX9_door_66 : decode cX9_door 66 = .ok (.aload_n 0, 1) := by decide +kernel
theorem dX9_door_67 : decode cX9_door 67 = .ok (.getfield 61, 3) := by decide +kernel
theorem dX9_door_70 : decode cX9_door 70 = .ok (.iload_n 1, 1) := by decide +kernel
theorem dX9_door_71 : decode cX9_door 71 = .ok (.iaload, 1) := by decide +kernel
theorem dX9_door_72 : decode cX9_door 72 = .ok (.ireturn, 1) := by decide +kernel
theorem dX9_slateOf_0 : decode cX9_slateOf 0 = .ok (.aload_n 0, 1) := by decide +kernel
theorem dX9_slateOf_1 : decode cX9_slateOf 1 = .ok (.getfield 70, 3) := by decide +kernel
theorem dX9_slateOf_4 : decode cX9_slateOf 4 = .ok (.iconst (-1), 1) := by decide +kernel
theorem dX9_slateOf_5 : decode cX9_slateOf 5 = .ok (.if_icmp .eq 10, 3) := by decide +kernel
theorem dX9_slateOf_8 : decode cX9_slateOf 8 = .ok (.aload_n 0, 1) := by decide +kernel
theorem dX9_slateOf_9 : decode cX9_slateOf 9 = .ok (.getfield 70, 3) := by decide +kernel
theorem dX9_slateOf_12 : decode cX9_slateOf 12 = .ok (.goto 29, 3) := by decide +kernel
theorem dX9_slateOf_15 : decode cX9_slateOf 15 = .ok (.aload_n 0, 1) := by decide +kernel
theorem dX9_slateOf_16 : decode cX9_slateOf 16 = .ok (.getfield 23, 3) := by decide +kernel
theorem dX9_slateOf_19 : decode cX9_slateOf 19 = .ok (.iconst 5, 1) := by decide +kernel
theorem dX9_slateOf_20 : decode cX9_slateOf 20 = .ok (.iaload, 1) := by decide +kernel
theorem dX9_slateOf_21 : decode cX9_slateOf 21 = .ok (.ifCond .ne 7, 3) := by decide +kernel
theorem dX9_slateOf_24 : decode cX9_slateOf 24 = .ok (.iconst 0, 1) := by decide +kernel
theorem dX9_slateOf_25 : decode cX9_slateOf 25 = .ok (.goto 16, 3) := by decide +kernel
theorem dX9_slateOf_28 : decode cX9_slateOf 28 = .ok (.aload_n 0, 1) := by decide +kernel
theorem dX9_slateOf_29 : decode cX9_slateOf 29 = .ok (.getfield 43, 3) := by decide +kernel
theorem dX9_slateOf_32 : decode cX9_slateOf 32 = .ok (.iload_n 1, 1) := by decide +kernel
theorem dX9_slateOf_33 : decode cX9_slateOf 33 = .ok (.aload_n 0, 1) := by decide +kernel
theorem dX9_slateOf_34 : decode cX9_slateOf 34 = .ok (.getfield 23, 3) := by decide +kernel
theorem dX9_slateOf_37 : decode cX9_slateOf 37 = .ok (.iconst 5, 1) := by decide +kernel
theorem dX9_slateOf_38 : decode cX9_slateOf 38 = .ok (.iaload, 1) := by decide +kernel
theorem dX9_slateOf_39 : decode cX9_slateOf 39 = .ok (.irem, 1) := by decide +kernel
theorem dX9_slateOf_40 : decode cX9_slateOf 40 = .ok (.iaload, 1) := by decide +kernel
theorem dX9_slateOf_41 : decode cX9_slateOf 41 = .ok (.ireturn, 1) := by decide +kernel
theorem dX9_slate_0 : decode cX9_slate 0 = .ok (.aload_n 0, 1) := by decide +kernel
theorem dX9_slate_1 : decode cX9_slate 1 = .ok (.iconst 0, 1) := by decide +kernel
theorem dX9_slate_2 : decode cX9_slate 2 = .ok (.putfield 106, 3) := by decide +kernel
theorem dX9_slate_5 : decode cX9_slate 5 = .ok (.aload_n 0, 1) := by decide +kernel
theorem dX9_slate_6 : decode cX9_slate 6 = .ok (.iload_n 1, 1) := by decide +kernel
theorem dX9_slate_7 : decode cX9_slate 7 = .ok (.iconst 0, 1) := by decide +kernel
theorem dX9_slate_8 : decode cX9_slate 8 = .ok (.bipush 29, 2) := by decide +kernel
theorem dX9_slate_10 : decode cX9_slate 10 = .ok (.invokestatic 140, 3) := by decide +kernel
theorem dX9_slate_13 : decode cX9_slate 13 = .ok (.ifCond .ne 7, 3) := by decide +kernel
theorem dX9_slate_16 : decode cX9_slate 16 = .ok (.iconst 1, 1) := by decide +kernel
theorem dX9_slate_17 : decode cX9_slate 17 = .ok (.goto 4, 3) := by decide +kernel
theorem dX9_slate_20 : decode cX9_slate 20 = .ok (.iconst 0, 1) := by decide +kernel
theorem dX9_slate_21 : decode cX9_slate 21 = .ok (.iconst 1, 1) := by decide +kernel
theorem dX9_slate_22 : decode cX9_slate 22 = .ok (.invokevirtual 188, 3) := by decide +kernel
theorem dX9_slate_25 : decode cX9_slate 25 = .ok (.ifCond .eq 5, 3) := by decide +kernel
theorem dX9_slate_28 : decode cX9_slate 28 = .ok (.iconst 0, 1) := by decide +kernel
theorem dX9_slate_29 : decode cX9_slate 29 = .ok (.ireturn, 1) := by decide +kernel
theorem dX9_slate_30 : decode cX9_slate 30 = .ok (.aload_n 0, 1) := by decide +kernel
theorem dX9_slate_31 : decode cX9_slate 31 = .ok (.iload_n 1, 1) := by decide +kernel
theorem dX9_slate_32 : decode cX9_slate 32 = .ok (.invokevirtual 223, 3) := by decide +kernel
theorem dX9_slate_35 : decode cX9_slate 35 = .ok (.ireturn, 1) := by decide +kernel
theorem dX9_badWork_0 : decode cX9_badWork 0 = .ok (.aload_n 0, 1) := by decide +kernel
theorem dX9_badWork_1 : decode cX9_badWork 1 = .ok (.aload_n 0, 1) := by decide +kernel
theorem dX9_badWork_2 : decode cX9_badWork 2 = .ok (.iload_n 1, 1) := by decide +kernel
theorem dX9_badWork_3 : decode cX9_badWork 3 = .ok (.invokevirtual 220, 3) := by decide +kernel
theorem dX9_badWork_6 : decode cX9_badWork 6 = .ok (.ifCond .ne 7, 3) := by decide +kernel
theorem dX9_badWork_9 : decode cX9_badWork 9 = .ok (.iconst 1, 1) := by decide +kernel
theorem dX9_badWork_10 : decode cX9_badWork 10 = .ok (.goto 4, 3) := by decide +kernel
theorem dX9_badWork_13 : decode cX9_badWork 13 = .ok (.iconst 0, 1) := by decide +kernel
theorem dX9_badWork_14 : decode cX9_badWork 14 = .ok (.iconst 1, 1) := by decide +kernel
theorem dX9_badWork_15 : decode cX9_badWork 15 = .ok (.invokevirtual 188, 3) := by decide +kernel
theorem dX9_badWork_18 : decode cX9_badWork 18 = .ok (.ifCond .ne 32, 3) := by decide +kernel
theorem dX9_badWork_21 : decode cX9_badWork 21 = .ok (.aload_n 0, 1) := by decide +kernel
theorem dX9_badWork_22 : decode cX9_badWork 22 = .ok (.aload_n 0, 1) := by decide +kernel
theorem dX9_badWork_23 : decode cX9_badWork 23 = .ok (.iload_n 2, 1) := by decide +kernel
theorem dX9_badWork_24 : decode cX9_badWork 24 = .ok (.invokevirtual 214, 3) := by decide +kernel
theorem dX9_badWork_27 : decode cX9_badWork 27 = .ok (.ifCond .eq 11, 3) := by decide +kernel
theorem dX9_badWork_30 : decode cX9_badWork 30 = .ok (.aload_n 0, 1) := by decide +kernel
theorem dX9_badWork_31 : decode cX9_badWork 31 = .ok (.iload_n 3, 1) := by decide +kernel
theorem dX9_badWork_32 : decode cX9_badWork 32 = .ok (.invokevirtual 214, 3) := by decide +kernel
theorem dX9_badWork_35 : decode cX9_badWork 35 = .ok (.ifCond .ne 7, 3) := by decide +kernel
theorem dX9_badWork_38 : decode cX9_badWork 38 = .ok (.iconst 1, 1) := by decide +kernel
theorem dX9_badWork_39 : decode cX9_badWork 39 = .ok (.goto 4, 3) := by decide +kernel
theorem dX9_badWork_42 : decode cX9_badWork 42 = .ok (.iconst 0, 1) := by decide +kernel
theorem dX9_badWork_43 : decode cX9_badWork 43 = .ok (.iconst 2, 1) := by decide +kernel
theorem dX9_badWork_44 : decode cX9_badWork 44 = .ok (.invokevirtual 188, 3) := by decide +kernel
theorem dX9_badWork_47 : decode cX9_badWork 47 = .ok (.ifCond .eq 7, 3) := by decide +kernel
theorem dX9_badWork_50 : decode cX9_badWork 50 = .ok (.iconst 1, 1) := by decide +kernel
theorem dX9_badWork_51 : decode cX9_badWork 51 = .ok (.goto 4, 3) := by decide +kernel
theorem dX9_badWork_54 : decode cX9_badWork 54 = .ok (.iconst 0, 1) := by decide +kernel
theorem dX9_badWork_55 : decode cX9_badWork 55 = .ok (.ireturn, 1) := by decide +kernel
def f9_thrown (μ : zMem) : zRes := some (0, μ 0 0, μ)
set_option maxHeartbeats 1000000 in
theorem t9_thrown (μ : zMem) : zMR yX9_thrown cX9_thrown 1 (some .int) 1 [.ref 0] 1134 SM μ (f9_thrown μ) := by
  refine zMR_of (by decide +kernel) rfl (Nat.le_of_ble_eq_true rfl) (L := [.ref 0]) rfl ?_
  unfold f9_thrown
  refine z_aload_n (pc := 0) dX9_thrown_0 rfl ?_
  refine z_geti (pc := 1) fdX9_106 (by decide) sm_0 rfl dX9_thrown_1 ?_
  exact z_iret (pc := 4) rfl dX9_thrown_4
def f9_feed_L23 (x1 : Int32) (x2 : Int32) (x3 : Int32) (x4 : Int32) (x5 : Int32) (K120 : zMem → zRes) : Nat → Int32 → zMem → zRes
  | 0, _, _ => none
  | n + 1, x6, μ => if (20 : Int32) ≤ x6 then K120 μ else zlet (fun (s6 : Int32) => zin (μ 0 1) 500 (zlet (zset μ 1 (μ 0 1).toNatClampNeg ((zshr s6 ((24 : Int32) - ((8 : Int32) * (zrem x6 (4 : Int32))))) &&& (255 : Int32))) (fun (μ8 : zMem) => zlet (zset μ8 0 1 ((μ8 0 1) + (1 : Int32))) (fun (μ9 : zMem) => f9_feed_L23 x1 x2 x3 x4 x5 K120 n (x6 + (1 : Int32)) μ9)))) (fun j10 => if (4 : Int32) ≤ x6 then if (8 : Int32) ≤ x6 then if (12 : Int32) ≤ x6 then if (16 : Int32) ≤ x6 then j10 x5 else j10 x4 else j10 x3 else j10 x2 else j10 x1)
def f9_feed (x1 : Int32) (x2 : Int32) (x3 : Int32) (x4 : Int32) (x5 : Int32) (μ : zMem) : zRes := zlet (zset μ 0 0 (0 : Int32)) (fun (μ1 : zMem) => if ((μ1 0 1) + (20 : Int32)) ≤ (500 : Int32) then f9_feed_L23 x1 x2 x3 x4 x5 (fun (μ19 : zMem) => some (0, μ19 0 1, μ19)) zF (0 : Int32) μ1 else some (0, (-1 : Int32), μ1))
set_option maxHeartbeats 1000000 in
theorem t9_feed_L23 (x1 : Int32) (x2 : Int32) (x3 : Int32) (x4 : Int32) (x5 : Int32) (K120 : zMem → zRes) (hK120 : ∀ (μ : zMem), zR yX9_feed cX9_feed 8 (some .int) 1 120 [.ref 0, .null, .null, .null, .null, .null, .null, .null] [] 1134 SM μ (K120 μ)) : ∀ (n : Nat) (x6 : Int32) (μ : zMem), zR yX9_feed cX9_feed 8 (some .int) 1 23 [.ref 0, .int x1, .int x2, .int x3, .int x4, .int x5, .int x6, .null] [] 1134 SM μ (f9_feed_L23 x1 x2 x3 x4 x5 K120 n x6 μ) := by
  intro n
  induction n with
  | zero => intro x6 μ; intro q hq; cases hq
  | succ n ih =>
    intro x6 μ
    unfold f9_feed_L23
    refine z_iload (pc := 23) dX9_feed_23 rfl ?_
    refine z_bipush (pc := 25) (20 : Int32) dX9_feed_25 (by decide) ?_
    refine z_icmp_ge (pc := 27) (tgt := 120) dX9_feed_27 (by decide) (fun c4 => ?_) (fun c5 => ?_)
    · refine z_loc (L' := [.ref 0, .null, .null, .null, .null, .null, .null, .null]) ⟨Or.inr rfl, ⟨Or.inl rfl, ⟨Or.inl rfl, ⟨Or.inl rfl, ⟨Or.inl rfl, ⟨Or.inl rfl, ⟨Or.inl rfl, ⟨Or.inl rfl, trivial⟩⟩⟩⟩⟩⟩⟩⟩ ?_
      exact hK120 μ
    · refine z_iload (pc := 30) dX9_feed_30 rfl ?_
      refine z_iconst (pc := 32) (4 : Int32) dX9_feed_32 (by decide) ?_
      refine z_let (fun (j : Int32 → zRes) => ∀ (s6 : Int32), zR yX9_feed cX9_feed 8 (some .int) 1 76 [.ref 0, .int x1, .int x2, .int x3, .int x4, .int x5, .int x6, .null] [.int s6] 1134 SM μ (j s6)) ?_ (fun j10 hj10 => ?_)
      · intro s6
        refine z_istore (pc := 76) (L' := [.ref 0, .int x1, .int x2, .int x3, .int x4, .int x5, .int x6, .int s6]) dX9_feed_76 (by decide) rfl ?_
        refine z_aload_n (pc := 78) dX9_feed_78 rfl ?_
        refine z_getr (pc := 79) fdX9_13 (by decide) sm_0 rfl rfl dX9_feed_79 ?_
        refine z_aload_n (pc := 82) dX9_feed_82 rfl ?_
        refine z_geti (pc := 83) fdX9_109 (by decide) sm_0 rfl dX9_feed_83 ?_
        refine z_iload (pc := 86) dX9_feed_86 rfl ?_
        refine z_bipush (pc := 88) (24 : Int32) dX9_feed_88 (by decide) ?_
        refine z_bipush (pc := 90) (8 : Int32) dX9_feed_90 (by decide) ?_
        refine z_iload (pc := 92) dX9_feed_92 rfl ?_
        refine z_iconst (pc := 94) (4 : Int32) dX9_feed_94 (by decide) ?_
        refine z_iremc (pc := 95) dX9_feed_95 (by decide) ?_
        refine z_imul (pc := 96) dX9_feed_96 ?_
        refine z_isub (pc := 97) dX9_feed_97 ?_
        refine z_ishr (pc := 98) dX9_feed_98 ?_
        refine z_sipush (pc := 99) (255 : Int32) dX9_feed_99 (by decide) ?_
        refine z_iand (pc := 102) dX9_feed_102 ?_
        refine z_iast (pc := 103) (by decide) sm_1 rfl dX9_feed_103 (fun h7 => ?_)
        refine z_mem (fun μ8 => ?_)
        refine z_aload_n (pc := 104) dX9_feed_104 rfl ?_
        refine z_dup (pc := 105) dX9_feed_105 rfl ?_
        refine z_geti (pc := 106) fdX9_109 (by decide) sm_0 rfl dX9_feed_106 ?_
        refine z_iconst (pc := 109) (1 : Int32) dX9_feed_109 (by decide) ?_
        refine z_iadd (pc := 110) dX9_feed_110 ?_
        refine z_puti (pc := 111) fdX9_109 (by decide) sm_0 rfl rfl dX9_feed_111 ?_
        refine z_mem (fun μ9 => ?_)
        refine z_iinc (pc := 114) (v := x6 + (1 : Int32)) (L' := [.ref 0, .int x1, .int x2, .int x3, .int x4, .int x5, .int (x6 + (1 : Int32)), .int s6]) dX9_feed_114 (by decide) rfl (congrArg _ (by decide)) rfl ?_
        refine z_goto (pc := 117) (tgt := 23) dX9_feed_117 (by decide) ?_
        refine z_loc (L' := [.ref 0, .int x1, .int x2, .int x3, .int x4, .int x5, .int (x6 + (1 : Int32)), .null]) ⟨Or.inr rfl, ⟨Or.inr rfl, ⟨Or.inr rfl, ⟨Or.inr rfl, ⟨Or.inr rfl, ⟨Or.inr rfl, ⟨Or.inr rfl, ⟨Or.inl rfl, trivial⟩⟩⟩⟩⟩⟩⟩⟩ ?_
        exact ih (x6 + (1 : Int32)) μ9
      · refine z_icmp_ge (pc := 33) (tgt := 40) dX9_feed_33 (by decide) (fun c11 => ?_) (fun c12 => ?_)
        · refine z_iload (pc := 40) dX9_feed_40 rfl ?_
          refine z_bipush (pc := 42) (8 : Int32) dX9_feed_42 (by decide) ?_
          refine z_icmp_ge (pc := 44) (tgt := 51) dX9_feed_44 (by decide) (fun c13 => ?_) (fun c14 => ?_)
          · refine z_iload (pc := 51) dX9_feed_51 rfl ?_
            refine z_bipush (pc := 53) (12 : Int32) dX9_feed_53 (by decide) ?_
            refine z_icmp_ge (pc := 55) (tgt := 62) dX9_feed_55 (by decide) (fun c15 => ?_) (fun c16 => ?_)
            · refine z_iload (pc := 62) dX9_feed_62 rfl ?_
              refine z_bipush (pc := 64) (16 : Int32) dX9_feed_64 (by decide) ?_
              refine z_icmp_ge (pc := 66) (tgt := 74) dX9_feed_66 (by decide) (fun c17 => ?_) (fun c18 => ?_)
              · refine z_iload (pc := 74) dX9_feed_74 rfl ?_
                exact hj10 x5
              · refine z_iload (pc := 69) dX9_feed_69 rfl ?_
                refine z_goto (pc := 71) (tgt := 76) dX9_feed_71 (by decide) ?_
                exact hj10 x4
            · refine z_iload_n (pc := 58) dX9_feed_58 rfl ?_
              refine z_goto (pc := 59) (tgt := 76) dX9_feed_59 (by decide) ?_
              exact hj10 x3
          · refine z_iload_n (pc := 47) dX9_feed_47 rfl ?_
            refine z_goto (pc := 48) (tgt := 76) dX9_feed_48 (by decide) ?_
            exact hj10 x2
        · refine z_iload_n (pc := 36) dX9_feed_36 rfl ?_
          refine z_goto (pc := 37) (tgt := 76) dX9_feed_37 (by decide) ?_
          exact hj10 x1
set_option maxHeartbeats 1000000 in
theorem t9_feed (x1 : Int32) (x2 : Int32) (x3 : Int32) (x4 : Int32) (x5 : Int32) (μ : zMem) : zMR yX9_feed cX9_feed 8 (some .int) 1 [.ref 0, .int x1, .int x2, .int x3, .int x4, .int x5] 1134 SM μ (f9_feed x1 x2 x3 x4 x5 μ) := by
  refine zMR_of (by decide +kernel) rfl (Nat.le_of_ble_eq_true rfl) (L := [.ref 0, .int x1, .int x2, .int x3, .int x4, .int x5, .null, .null]) rfl ?_
  unfold f9_feed
  refine z_aload_n (pc := 0) dX9_feed_0 rfl ?_
  refine z_iconst (pc := 1) (0 : Int32) dX9_feed_1 (by decide) ?_
  refine z_puti (pc := 2) fdX9_106 (by decide) sm_0 rfl rfl dX9_feed_2 ?_
  refine z_mem (fun μ1 => ?_)
  refine z_aload_n (pc := 5) dX9_feed_5 rfl ?_
  refine z_geti (pc := 6) fdX9_109 (by decide) sm_0 rfl dX9_feed_6 ?_
  refine z_bipush (pc := 9) (20 : Int32) dX9_feed_9 (by decide) ?_
  refine z_iadd (pc := 11) dX9_feed_11 ?_
  refine z_sipush (pc := 12) (500 : Int32) dX9_feed_12 (by decide) ?_
  refine z_icmp_le (pc := 15) (tgt := 20) dX9_feed_15 (by decide) (fun c2 => ?_) (fun c3 => ?_)
  · refine z_iconst (pc := 20) (0 : Int32) dX9_feed_20 (by decide) ?_
    refine z_istore (pc := 21) (L' := [.ref 0, .int x1, .int x2, .int x3, .int x4, .int x5, .int (0 : Int32), .null]) dX9_feed_21 (by decide) rfl ?_
    refine t9_feed_L23 _ _ _ _ _ _ (fun μ19 => ?_) zF _ _
    · refine z_aload_n (pc := 120) dX9_feed_120 rfl ?_
      refine z_geti (pc := 121) fdX9_109 (by decide) sm_0 rfl dX9_feed_121 ?_
      exact z_iret (pc := 124) rfl dX9_feed_124
  · refine z_iconst (pc := 18) (-1 : Int32) dX9_feed_18 (by decide) ?_
    exact z_iret (pc := 19) rfl dX9_feed_19
def f9_in (x0 : Int32) (x1 : Int32) (x2 : Int32) (μ : zMem) : zRes := zlet (fun (s1 : Int32) => zbl s1 (some (0, s1, μ))) (fun j2 => zlet (j2 (0 : Int32)) (fun j3 => if x0 < x1 then j3 else if x2 < x0 then j3 else j2 (1 : Int32)))
set_option maxHeartbeats 1000000 in
theorem t9_in (x0 : Int32) (x1 : Int32) (x2 : Int32) (μ : zMem) : zMR yX9_in cX9_in 3 (some .boolean) 1 [.int x0, .int x1, .int x2] 1134 SM μ (f9_in x0 x1 x2 μ) := by
  refine zMR_of (by decide +kernel) rfl (Nat.le_of_ble_eq_true rfl) (L := [.int x0, .int x1, .int x2]) rfl ?_
  unfold f9_in
  refine z_iload_n (pc := 0) dX9_in_0 rfl ?_
  refine z_iload_n (pc := 1) dX9_in_1 rfl ?_
  refine z_let (fun (j : Int32 → zRes) => ∀ (s1 : Int32), zR yX9_in cX9_in 3 (some .boolean) 1 15 [.null, .null, .null] [.int s1] 1134 SM μ (j s1)) ?_ (fun j2 hj2 => ?_)
  · intro s1
    exact z_zret (pc := 15) rfl dX9_in_15
  · refine z_let (fun (j : zRes) => zR yX9_in cX9_in 3 (some .boolean) 1 14 [.null, .null, .null] [] 1134 SM μ (j)) ?_ (fun j3 hj3 => ?_)
    · refine z_iconst (pc := 14) (0 : Int32) dX9_in_14 (by decide) ?_
      exact hj2 (0 : Int32)
    · refine z_icmp_lt (pc := 2) (tgt := 14) dX9_in_2 (by decide) (fun c4 => ?_) (fun c5 => ?_)
      · refine z_loc (L' := [.null, .null, .null]) ⟨Or.inl rfl, ⟨Or.inl rfl, ⟨Or.inl rfl, trivial⟩⟩⟩ ?_
        exact hj3
      · refine z_iload_n (pc := 5) dX9_in_5 rfl ?_
        refine z_iload_n (pc := 6) dX9_in_6 rfl ?_
        refine z_icmp_gt (pc := 7) (tgt := 14) dX9_in_7 (by decide) (fun c6 => ?_) (fun c7 => ?_)
        · refine z_loc (L' := [.null, .null, .null]) ⟨Or.inl rfl, ⟨Or.inl rfl, ⟨Or.inl rfl, trivial⟩⟩⟩ ?_
          exact hj3
        · refine z_iconst (pc := 10) (1 : Int32) dX9_in_10 (by decide) ?_
          refine z_goto (pc := 11) (tgt := 15) dX9_in_11 (by decide) ?_
          refine z_loc (L' := [.null, .null, .null]) ⟨Or.inl rfl, ⟨Or.inl rfl, ⟨Or.inl rfl, trivial⟩⟩⟩ ?_
          exact hj2 (1 : Int32)
def f9_bad (x1 : Int32) (x2 : Int32) (μ : zMem) : zRes := zlet (fun (μ1 : zMem) => zlet (fun (s2 : Int32) => zbl s2 (some (0, s2, μ1))) (fun j3 => if (μ1 0 0) = 0 then j3 (0 : Int32) else j3 (1 : Int32))) (fun j6 => if x1 = 0 then j6 μ else if (μ 0 0) = 0 then zlet (zset μ 0 0 x2) (fun (μ11 : zMem) => j6 μ11) else j6 μ)
set_option maxHeartbeats 1000000 in
theorem t9_bad (x1 : Int32) (x2 : Int32) (μ : zMem) : zMR yX9_bad cX9_bad 3 (some .boolean) 1 [.ref 0, .int x1, .int x2] 1134 SM μ (f9_bad x1 x2 μ) := by
  refine zMR_of (by decide +kernel) rfl (Nat.le_of_ble_eq_true rfl) (L := [.ref 0, .int x1, .int x2]) rfl ?_
  unfold f9_bad
  refine z_iload_n (pc := 0) dX9_bad_0 rfl ?_
  refine z_let (fun (j : zMem → zRes) => ∀ (μ1 : zMem), zR yX9_bad cX9_bad 3 (some .boolean) 1 16 [.ref 0, .null, .null] [] 1134 SM μ1 (j μ1)) ?_ (fun j6 hj6 => ?_)
  · intro μ1
    refine z_aload_n (pc := 16) dX9_bad_16 rfl ?_
    refine z_geti (pc := 17) fdX9_106 (by decide) sm_0 rfl dX9_bad_17 ?_
    refine z_let (fun (j : Int32 → zRes) => ∀ (s2 : Int32), zR yX9_bad cX9_bad 3 (some .boolean) 1 28 [.null, .null, .null] [.int s2] 1134 SM μ1 (j s2)) ?_ (fun j3 hj3 => ?_)
    · intro s2
      exact z_zret (pc := 28) rfl dX9_bad_28
    · refine z_if_eq (pc := 20) (tgt := 27) dX9_bad_20 (by decide) (fun c4 => ?_) (fun c5 => ?_)
      · refine z_iconst (pc := 27) (0 : Int32) dX9_bad_27 (by decide) ?_
        refine z_loc (L' := [.null, .null, .null]) ⟨Or.inl rfl, ⟨Or.inl rfl, ⟨Or.inl rfl, trivial⟩⟩⟩ ?_
        exact hj3 (0 : Int32)
      · refine z_iconst (pc := 23) (1 : Int32) dX9_bad_23 (by decide) ?_
        refine z_goto (pc := 24) (tgt := 28) dX9_bad_24 (by decide) ?_
        refine z_loc (L' := [.null, .null, .null]) ⟨Or.inl rfl, ⟨Or.inl rfl, ⟨Or.inl rfl, trivial⟩⟩⟩ ?_
        exact hj3 (1 : Int32)
  · refine z_if_eq (pc := 1) (tgt := 16) dX9_bad_1 (by decide) (fun c7 => ?_) (fun c8 => ?_)
    · refine z_loc (L' := [.ref 0, .null, .null]) ⟨Or.inr rfl, ⟨Or.inl rfl, ⟨Or.inl rfl, trivial⟩⟩⟩ ?_
      exact hj6 μ
    · refine z_aload_n (pc := 4) dX9_bad_4 rfl ?_
      refine z_geti (pc := 5) fdX9_106 (by decide) sm_0 rfl dX9_bad_5 ?_
      refine z_if_ne (pc := 8) (tgt := 16) dX9_bad_8 (by decide) (fun c9 => ?_) (fun c10 => ?_)
      · refine z_loc (L' := [.ref 0, .null, .null]) ⟨Or.inr rfl, ⟨Or.inl rfl, ⟨Or.inl rfl, trivial⟩⟩⟩ ?_
        exact hj6 μ
      · refine z_aload_n (pc := 11) dX9_bad_11 rfl ?_
        refine z_iload_n (pc := 12) dX9_bad_12 rfl ?_
        refine z_puti (pc := 13) fdX9_106 (by decide) sm_0 rfl rfl dX9_bad_13 ?_
        refine z_mem (fun μ11 => ?_)
        refine z_loc (L' := [.ref 0, .null, .null]) ⟨Or.inr rfl, ⟨Or.inl rfl, ⟨Or.inl rfl, trivial⟩⟩⟩ ?_
        exact hj6 μ11
def f9_byteAt (x1 : Int32) (μ : zMem) : zRes := zlet (fun (s1 : Int32) => some (0, s1, μ)) (fun j2 => if x1 < (μ 0 2) then zin x1 500 (j2 (μ 1 x1.toNatClampNeg)) else j2 (-1 : Int32))
set_option maxHeartbeats 1000000 in
theorem t9_byteAt (x1 : Int32) (μ : zMem) : zMR yX9_byteAt cX9_byteAt 2 (some .int) 1 [.ref 0, .int x1] 1134 SM μ (f9_byteAt x1 μ) := by
  refine zMR_of (by decide +kernel) rfl (Nat.le_of_ble_eq_true rfl) (L := [.ref 0, .int x1]) rfl ?_
  unfold f9_byteAt
  refine z_iload_n (pc := 0) dX9_byteAt_0 rfl ?_
  refine z_aload_n (pc := 1) dX9_byteAt_1 rfl ?_
  refine z_geti (pc := 2) fdX9_112 (by decide) sm_0 rfl dX9_byteAt_2 ?_
  refine z_let (fun (j : Int32 → zRes) => ∀ (s1 : Int32), zR yX9_byteAt cX9_byteAt 2 (some .int) 1 18 [.null, .null] [.int s1] 1134 SM μ (j s1)) ?_ (fun j2 hj2 => ?_)
  · intro s1
    exact z_iret (pc := 18) rfl dX9_byteAt_18
  · refine z_icmp_lt (pc := 5) (tgt := 12) dX9_byteAt_5 (by decide) (fun c3 => ?_) (fun c4 => ?_)
    · refine z_aload_n (pc := 12) dX9_byteAt_12 rfl ?_
      refine z_getr (pc := 13) fdX9_13 (by decide) sm_0 rfl rfl dX9_byteAt_13 ?_
      refine z_iload_n (pc := 16) dX9_byteAt_16 rfl ?_
      refine z_iald (pc := 17) (by decide) sm_1 rfl dX9_byteAt_17 (fun h5 => ?_)
      refine z_loc (L' := [.null, .null]) ⟨Or.inl rfl, ⟨Or.inl rfl, trivial⟩⟩ ?_
      exact hj2 (μ 1 x1.toNatClampNeg)
    · refine z_iconst (pc := 8) (-1 : Int32) dX9_byteAt_8 (by decide) ?_
      refine z_goto (pc := 9) (tgt := 18) dX9_byteAt_9 (by decide) ?_
      refine z_loc (L' := [.null, .null]) ⟨Or.inl rfl, ⟨Or.inl rfl, trivial⟩⟩ ?_
      exact hj2 (-1 : Int32)
def f9_blanks_L0 (K26 : zMem → zRes) : Nat → zMem → zRes
  | 0, _ => none
  | n + 1, μ => bnd0 (f9_byteAt (μ 0 4) μ) (fun (v1 : Int32) (μ2 : zMem) => if v1 = (32 : Int32) then zlet (zset μ2 0 4 ((μ2 0 4) + (1 : Int32))) (fun (μ5 : zMem) => f9_blanks_L0 K26 n μ5) else K26 μ2)
def f9_blanks (μ : zMem) : zRes := f9_blanks_L0 (fun (μ6 : zMem) => some (0, 0, μ6)) zF μ
set_option maxHeartbeats 1000000 in
theorem t9_blanks_L0 (K26 : zMem → zRes) (hK26 : ∀ (μ : zMem), zR yX9_blanks cX9_blanks 1 (none) 2 26 [.null] [] 1134 SM μ (K26 μ)) : ∀ (n : Nat) (μ : zMem), zR yX9_blanks cX9_blanks 1 (none) 2 0 [.ref 0] [] 1134 SM μ (f9_blanks_L0 K26 n μ) := by
  intro n
  induction n with
  | zero => intro μ; intro q hq; cases hq
  | succ n ih =>
    intro μ
    unfold f9_blanks_L0
    refine z_aload_n (pc := 0) dX9_blanks_0 rfl ?_
    refine z_aload_n (pc := 1) dX9_blanks_1 rfl ?_
    refine z_geti (pc := 2) fdX9_115 (by decide) sm_0 rfl dX9_blanks_2 ?_
    refine z_callV (As := [.int (μ 0 4)]) (pc := 5) (ret' := some .int) kvX9_118 (t9_byteAt _ _) (by decide) (by decide) sm_0  rfl rfl (Nat.le_of_ble_eq_true rfl) dX9_blanks_5 (fun v1 μ2 => ?_)
    refine z_bipush (pc := 8) (32 : Int32) dX9_blanks_8 (by decide) ?_
    refine z_icmp_ne (pc := 10) (tgt := 26) dX9_blanks_10 (by decide) (fun c3 => ?_) (fun c4 => ?_)
    · refine z_loc (L' := [.null]) ⟨Or.inl rfl, trivial⟩ ?_
      exact hK26 μ2
    · refine z_aload_n (pc := 13) dX9_blanks_13 rfl ?_
      refine z_dup (pc := 14) dX9_blanks_14 rfl ?_
      refine z_geti (pc := 15) fdX9_115 (by decide) sm_0 rfl dX9_blanks_15 ?_
      refine z_iconst (pc := 18) (1 : Int32) dX9_blanks_18 (by decide) ?_
      refine z_iadd (pc := 19) dX9_blanks_19 ?_
      refine z_puti (pc := 20) fdX9_115 (by decide) sm_0 rfl rfl dX9_blanks_20 ?_
      refine z_mem (fun μ5 => ?_)
      refine z_goto (pc := 23) (tgt := 0) dX9_blanks_23 (by decide) ?_
      exact ih μ5
set_option maxHeartbeats 1000000 in
theorem t9_blanks (μ : zMem) : zMR yX9_blanks cX9_blanks 1 (none) 2 [.ref 0] 1134 SM μ (f9_blanks μ) := by
  refine zMR_of (by decide +kernel) rfl (Nat.le_of_ble_eq_true rfl) (L := [.ref 0]) rfl ?_
  unfold f9_blanks
  refine t9_blanks_L0 _ (fun μ6 => ?_) zF _
  · exact z_vret (pc := 26) rfl dX9_blanks_26
def f9_wordHere_L8 (K75 : Int32 → Int32 → zMem → zRes) : Nat → Int32 → Int32 → zMem → zRes
  | 0, _, _, _ => none
  | n + 1, x1, x2, μ => bnd0 (f9_byteAt ((μ 0 4) + x2) μ) (fun (v11 : Int32) (μ12 : zMem) => if v11 < (97 : Int32) then K75 x1 x2 μ12 else bnd0 (f9_byteAt ((μ12 0 4) + x2) μ12) (fun (v15 : Int32) (μ16 : zMem) => if (122 : Int32) < v15 then K75 x1 x2 μ16 else zlet (fun (s19 : Int32) (μ20 : zMem) => f9_wordHere_L8 K75 n s19 (x2 + (1 : Int32)) μ20) (fun j21 => if (6 : Int32) ≤ x2 then j21 x1 μ16 else bnd0 (f9_byteAt ((μ16 0 4) + x2) μ16) (fun (v24 : Int32) (μ25 : zMem) => j21 (((((27 : Int32) * x1) + v24) - (97 : Int32)) + (1 : Int32)) μ25))))
def f9_wordHere (μ : zMem) : zRes := bnd0 (f9_blanks μ) (fun (v1 : Int32) (μ2 : zMem) => zlet (fun (x1_3 : Int32) (x2_4 : Int32) (μ5 : zMem) => zlet (fun (s6 : Int32) => some (0, s6, μ5)) (fun j7 => if x2_4 ≤ (6 : Int32) then j7 x1_3 else j7 (-1 : Int32))) (fun j10 => f9_wordHere_L8 (fun (x1_26 : Int32) (x2_27 : Int32) (μ28 : zMem) => j10 x1_26 x2_27 μ28) zF (0 : Int32) (0 : Int32) μ2))
set_option maxHeartbeats 1000000 in
theorem t9_wordHere_L8 (K75 : Int32 → Int32 → zMem → zRes) (hK75 : ∀ (x1 : Int32) (x2 : Int32) (μ : zMem), zR yX9_wordHere cX9_wordHere 3 (some .int) 3 75 [.null, .int x1, .int x2] [] 1134 SM μ (K75 x1 x2 μ)) : ∀ (n : Nat) (x1 : Int32) (x2 : Int32) (μ : zMem), zR yX9_wordHere cX9_wordHere 3 (some .int) 3 8 [.ref 0, .int x1, .int x2] [] 1134 SM μ (f9_wordHere_L8 K75 n x1 x2 μ) := by
  intro n
  induction n with
  | zero => intro x1 x2 μ; intro q hq; cases hq
  | succ n ih =>
    intro x1 x2 μ
    unfold f9_wordHere_L8
    refine z_aload_n (pc := 8) dX9_wordHere_8 rfl ?_
    refine z_aload_n (pc := 9) dX9_wordHere_9 rfl ?_
    refine z_geti (pc := 10) fdX9_115 (by decide) sm_0 rfl dX9_wordHere_10 ?_
    refine z_iload_n (pc := 13) dX9_wordHere_13 rfl ?_
    refine z_iadd (pc := 14) dX9_wordHere_14 ?_
    refine z_callV (As := [.int ((μ 0 4) + x2)]) (pc := 15) (ret' := some .int) kvX9_118 (t9_byteAt _ _) (by decide) (by decide) sm_0  rfl rfl (Nat.le_of_ble_eq_true rfl) dX9_wordHere_15 (fun v11 μ12 => ?_)
    refine z_bipush (pc := 18) (97 : Int32) dX9_wordHere_18 (by decide) ?_
    refine z_icmp_lt (pc := 20) (tgt := 75) dX9_wordHere_20 (by decide) (fun c13 => ?_) (fun c14 => ?_)
    · refine z_loc (L' := [.null, .int x1, .int x2]) ⟨Or.inl rfl, ⟨Or.inr rfl, ⟨Or.inr rfl, trivial⟩⟩⟩ ?_
      exact hK75 x1 x2 μ12
    · refine z_aload_n (pc := 23) dX9_wordHere_23 rfl ?_
      refine z_aload_n (pc := 24) dX9_wordHere_24 rfl ?_
      refine z_geti (pc := 25) fdX9_115 (by decide) sm_0 rfl dX9_wordHere_25 ?_
      refine z_iload_n (pc := 28) dX9_wordHere_28 rfl ?_
      refine z_iadd (pc := 29) dX9_wordHere_29 ?_
      refine z_callV (As := [.int ((μ12 0 4) + x2)]) (pc := 30) (ret' := some .int) kvX9_118 (t9_byteAt _ _) (by decide) (by decide) sm_0  rfl rfl (Nat.le_of_ble_eq_true rfl) dX9_wordHere_30 (fun v15 μ16 => ?_)
      refine z_bipush (pc := 33) (122 : Int32) dX9_wordHere_33 (by decide) ?_
      refine z_icmp_gt (pc := 35) (tgt := 75) dX9_wordHere_35 (by decide) (fun c17 => ?_) (fun c18 => ?_)
      · refine z_loc (L' := [.null, .int x1, .int x2]) ⟨Or.inl rfl, ⟨Or.inr rfl, ⟨Or.inr rfl, trivial⟩⟩⟩ ?_
        exact hK75 x1 x2 μ16
      · refine z_iload_n (pc := 38) dX9_wordHere_38 rfl ?_
        refine z_bipush (pc := 39) (6 : Int32) dX9_wordHere_39 (by decide) ?_
        refine z_let (fun (j : Int32 → zMem → zRes) => ∀ (s19 : Int32) (μ20 : zMem), zR yX9_wordHere cX9_wordHere 3 (some .int) 3 68 [.ref 0, .null, .int x2] [.int s19] 1134 SM μ20 (j s19 μ20)) ?_ (fun j21 hj21 => ?_)
        · intro s19 μ20
          refine z_istore_n (pc := 68) (L' := [.ref 0, .int s19, .int x2]) dX9_wordHere_68 (by decide) rfl ?_
          refine z_iinc (pc := 69) (v := x2 + (1 : Int32)) (L' := [.ref 0, .int s19, .int (x2 + (1 : Int32))]) dX9_wordHere_69 (by decide) rfl (congrArg _ (by decide)) rfl ?_
          refine z_goto (pc := 72) (tgt := 8) dX9_wordHere_72 (by decide) ?_
          exact ih s19 (x2 + (1 : Int32)) μ20
        · refine z_icmp_ge (pc := 41) (tgt := 67) dX9_wordHere_41 (by decide) (fun c22 => ?_) (fun c23 => ?_)
          · refine z_iload_n (pc := 67) dX9_wordHere_67 rfl ?_
            refine z_loc (L' := [.ref 0, .null, .int x2]) ⟨Or.inr rfl, ⟨Or.inl rfl, ⟨Or.inr rfl, trivial⟩⟩⟩ ?_
            exact hj21 x1 μ16
          · refine z_bipush (pc := 44) (27 : Int32) dX9_wordHere_44 (by decide) ?_
            refine z_iload_n (pc := 46) dX9_wordHere_46 rfl ?_
            refine z_imul (pc := 47) dX9_wordHere_47 ?_
            refine z_aload_n (pc := 48) dX9_wordHere_48 rfl ?_
            refine z_aload_n (pc := 49) dX9_wordHere_49 rfl ?_
            refine z_geti (pc := 50) fdX9_115 (by decide) sm_0 rfl dX9_wordHere_50 ?_
            refine z_iload_n (pc := 53) dX9_wordHere_53 rfl ?_
            refine z_iadd (pc := 54) dX9_wordHere_54 ?_
            refine z_callV (As := [.int ((μ16 0 4) + x2)]) (pc := 55) (ret' := some .int) kvX9_118 (t9_byteAt _ _) (by decide) (by decide) sm_0  rfl rfl (Nat.le_of_ble_eq_true rfl) dX9_wordHere_55 (fun v24 μ25 => ?_)
            refine z_iadd (pc := 58) dX9_wordHere_58 ?_
            refine z_bipush (pc := 59) (97 : Int32) dX9_wordHere_59 (by decide) ?_
            refine z_isub (pc := 61) dX9_wordHere_61 ?_
            refine z_iconst (pc := 62) (1 : Int32) dX9_wordHere_62 (by decide) ?_
            refine z_iadd (pc := 63) dX9_wordHere_63 ?_
            refine z_goto (pc := 64) (tgt := 68) dX9_wordHere_64 (by decide) ?_
            refine z_loc (L' := [.ref 0, .null, .int x2]) ⟨Or.inr rfl, ⟨Or.inl rfl, ⟨Or.inr rfl, trivial⟩⟩⟩ ?_
            exact hj21 (((((27 : Int32) * x1) + v24) - (97 : Int32)) + (1 : Int32)) μ25
set_option maxHeartbeats 1000000 in
theorem t9_wordHere (μ : zMem) : zMR yX9_wordHere cX9_wordHere 3 (some .int) 3 [.ref 0] 1134 SM μ (f9_wordHere μ) := by
  refine zMR_of (by decide +kernel) rfl (Nat.le_of_ble_eq_true rfl) (L := [.ref 0, .null, .null]) rfl ?_
  unfold f9_wordHere
  refine z_aload_n (pc := 0) dX9_wordHere_0 rfl ?_
  refine z_callV (As := []) (pc := 1) (ret' := none) kvX9_128 (t9_blanks _) (by decide) (by decide) sm_0  rfl rfl (Nat.le_of_ble_eq_true rfl) dX9_wordHere_1 (fun v1 μ2 => ?_)
  refine z_iconst (pc := 4) (0 : Int32) dX9_wordHere_4 (by decide) ?_
  refine z_istore_n (pc := 5) (L' := [.ref 0, .int (0 : Int32), .null]) dX9_wordHere_5 (by decide) rfl ?_
  refine z_iconst (pc := 6) (0 : Int32) dX9_wordHere_6 (by decide) ?_
  refine z_istore_n (pc := 7) (L' := [.ref 0, .int (0 : Int32), .int (0 : Int32)]) dX9_wordHere_7 (by decide) rfl ?_
  refine z_let (fun (j : Int32 → Int32 → zMem → zRes) => ∀ (x1_3 : Int32) (x2_4 : Int32) (μ5 : zMem), zR yX9_wordHere cX9_wordHere 3 (some .int) 3 75 [.null, .int x1_3, .int x2_4] [] 1134 SM μ5 (j x1_3 x2_4 μ5)) ?_ (fun j10 hj10 => ?_)
  · intro x1_3 x2_4 μ5
    refine z_iload_n (pc := 75) dX9_wordHere_75 rfl ?_
    refine z_bipush (pc := 76) (6 : Int32) dX9_wordHere_76 (by decide) ?_
    refine z_let (fun (j : Int32 → zRes) => ∀ (s6 : Int32), zR yX9_wordHere cX9_wordHere 3 (some .int) 3 86 [.null, .null, .null] [.int s6] 1134 SM μ5 (j s6)) ?_ (fun j7 hj7 => ?_)
    · intro s6
      exact z_iret (pc := 86) rfl dX9_wordHere_86
    · refine z_icmp_le (pc := 78) (tgt := 85) dX9_wordHere_78 (by decide) (fun c8 => ?_) (fun c9 => ?_)
      · refine z_iload_n (pc := 85) dX9_wordHere_85 rfl ?_
        refine z_loc (L' := [.null, .null, .null]) ⟨Or.inl rfl, ⟨Or.inl rfl, ⟨Or.inl rfl, trivial⟩⟩⟩ ?_
        exact hj7 x1_3
      · refine z_iconst (pc := 81) (-1 : Int32) dX9_wordHere_81 (by decide) ?_
        refine z_goto (pc := 82) (tgt := 86) dX9_wordHere_82 (by decide) ?_
        refine z_loc (L' := [.null, .null, .null]) ⟨Or.inl rfl, ⟨Or.inl rfl, ⟨Or.inl rfl, trivial⟩⟩⟩ ?_
        exact hj7 (-1 : Int32)
  · refine t9_wordHere_L8 _ (fun x1_26 x2_27 μ28 => ?_) zF _ _ _
    · exact hj10 x1_26 x2_27 μ28
def f9_named (x0 : Int32) (x1 : Int32) (x2 : Int32) (x3 : Int32) (x4 : Int32) (x5 : Int32) (μ : zMem) : zRes := zlet (((27 : Int32) * (((27 : Int32) * x0) + x1)) + x2) (fun (v1 : Int32) => zlet (fun (s2 : Int32) => zlet (fun (s3 : Int32) => zlet (fun (s4 : Int32) => some (0, s4, μ)) (fun j5 => if x5 = 0 then j5 s3 else j5 (((27 : Int32) * s3) + x5))) (fun j8 => if x4 = 0 then j8 s2 else j8 (((27 : Int32) * s2) + x4))) (fun j11 => if x3 = 0 then j11 v1 else j11 (((27 : Int32) * v1) + x3)))
set_option maxHeartbeats 1000000 in
theorem t9_named (x0 : Int32) (x1 : Int32) (x2 : Int32) (x3 : Int32) (x4 : Int32) (x5 : Int32) (μ : zMem) : zMR yX9_named cX9_named 7 (some .int) 1 [.int x0, .int x1, .int x2, .int x3, .int x4, .int x5] 1134 SM μ (f9_named x0 x1 x2 x3 x4 x5 μ) := by
  refine zMR_of (by decide +kernel) rfl (Nat.le_of_ble_eq_true rfl) (L := [.int x0, .int x1, .int x2, .int x3, .int x4, .int x5, .null]) rfl ?_
  unfold f9_named
  refine z_bipush (pc := 0) (27 : Int32) dX9_named_0 (by decide) ?_
  refine z_bipush (pc := 2) (27 : Int32) dX9_named_2 (by decide) ?_
  refine z_iload_n (pc := 4) dX9_named_4 rfl ?_
  refine z_imul (pc := 5) dX9_named_5 ?_
  refine z_iload_n (pc := 6) dX9_named_6 rfl ?_
  refine z_iadd (pc := 7) dX9_named_7 ?_
  refine z_imul (pc := 8) dX9_named_8 ?_
  refine z_iload_n (pc := 9) dX9_named_9 rfl ?_
  refine z_iadd (pc := 10) dX9_named_10 ?_
  refine z_val (fun v1 => ?_)
  refine z_istore (pc := 11) (L' := [.int x0, .int x1, .int x2, .int x3, .int x4, .int x5, .int v1]) dX9_named_11 (by decide) rfl ?_
  refine z_iload_n (pc := 13) dX9_named_13 rfl ?_
  refine z_let (fun (j : Int32 → zRes) => ∀ (s2 : Int32), zR yX9_named cX9_named 7 (some .int) 1 29 [.null, .null, .null, .null, .int x4, .int x5, .null] [.int s2] 1134 SM μ (j s2)) ?_ (fun j11 hj11 => ?_)
  · intro s2
    refine z_istore (pc := 29) (L' := [.null, .null, .null, .null, .int x4, .int x5, .int s2]) dX9_named_29 (by decide) rfl ?_
    refine z_iload (pc := 31) dX9_named_31 rfl ?_
    refine z_let (fun (j : Int32 → zRes) => ∀ (s3 : Int32), zR yX9_named cX9_named 7 (some .int) 1 49 [.null, .null, .null, .null, .null, .int x5, .null] [.int s3] 1134 SM μ (j s3)) ?_ (fun j8 hj8 => ?_)
    · intro s3
      refine z_istore (pc := 49) (L' := [.null, .null, .null, .null, .null, .int x5, .int s3]) dX9_named_49 (by decide) rfl ?_
      refine z_iload (pc := 51) dX9_named_51 rfl ?_
      refine z_let (fun (j : Int32 → zRes) => ∀ (s4 : Int32), zR yX9_named cX9_named 7 (some .int) 1 69 [.null, .null, .null, .null, .null, .null, .null] [.int s4] 1134 SM μ (j s4)) ?_ (fun j5 hj5 => ?_)
      · intro s4
        exact z_iret (pc := 69) rfl dX9_named_69
      · refine z_if_ne (pc := 53) (tgt := 61) dX9_named_53 (by decide) (fun c6 => ?_) (fun c7 => ?_)
        · refine z_bipush (pc := 61) (27 : Int32) dX9_named_61 (by decide) ?_
          refine z_iload (pc := 63) dX9_named_63 rfl ?_
          refine z_imul (pc := 65) dX9_named_65 ?_
          refine z_iload (pc := 66) dX9_named_66 rfl ?_
          refine z_iadd (pc := 68) dX9_named_68 ?_
          refine z_loc (L' := [.null, .null, .null, .null, .null, .null, .null]) ⟨Or.inl rfl, ⟨Or.inl rfl, ⟨Or.inl rfl, ⟨Or.inl rfl, ⟨Or.inl rfl, ⟨Or.inl rfl, ⟨Or.inl rfl, trivial⟩⟩⟩⟩⟩⟩⟩ ?_
          exact hj5 (((27 : Int32) * s3) + x5)
        · refine z_iload (pc := 56) dX9_named_56 rfl ?_
          refine z_goto (pc := 58) (tgt := 69) dX9_named_58 (by decide) ?_
          refine z_loc (L' := [.null, .null, .null, .null, .null, .null, .null]) ⟨Or.inl rfl, ⟨Or.inl rfl, ⟨Or.inl rfl, ⟨Or.inl rfl, ⟨Or.inl rfl, ⟨Or.inl rfl, ⟨Or.inl rfl, trivial⟩⟩⟩⟩⟩⟩⟩ ?_
          exact hj5 s3
    · refine z_if_ne (pc := 33) (tgt := 41) dX9_named_33 (by decide) (fun c9 => ?_) (fun c10 => ?_)
      · refine z_bipush (pc := 41) (27 : Int32) dX9_named_41 (by decide) ?_
        refine z_iload (pc := 43) dX9_named_43 rfl ?_
        refine z_imul (pc := 45) dX9_named_45 ?_
        refine z_iload (pc := 46) dX9_named_46 rfl ?_
        refine z_iadd (pc := 48) dX9_named_48 ?_
        refine z_loc (L' := [.null, .null, .null, .null, .null, .int x5, .null]) ⟨Or.inl rfl, ⟨Or.inl rfl, ⟨Or.inl rfl, ⟨Or.inl rfl, ⟨Or.inl rfl, ⟨Or.inr rfl, ⟨Or.inl rfl, trivial⟩⟩⟩⟩⟩⟩⟩ ?_
        exact hj8 (((27 : Int32) * s2) + x4)
      · refine z_iload (pc := 36) dX9_named_36 rfl ?_
        refine z_goto (pc := 38) (tgt := 49) dX9_named_38 (by decide) ?_
        refine z_loc (L' := [.null, .null, .null, .null, .null, .int x5, .null]) ⟨Or.inl rfl, ⟨Or.inl rfl, ⟨Or.inl rfl, ⟨Or.inl rfl, ⟨Or.inl rfl, ⟨Or.inr rfl, ⟨Or.inl rfl, trivial⟩⟩⟩⟩⟩⟩⟩ ?_
        exact hj8 s2
  · refine z_if_ne (pc := 14) (tgt := 22) dX9_named_14 (by decide) (fun c12 => ?_) (fun c13 => ?_)
    · refine z_bipush (pc := 22) (27 : Int32) dX9_named_22 (by decide) ?_
      refine z_iload (pc := 24) dX9_named_24 rfl ?_
      refine z_imul (pc := 26) dX9_named_26 ?_
      refine z_iload_n (pc := 27) dX9_named_27 rfl ?_
      refine z_iadd (pc := 28) dX9_named_28 ?_
      refine z_loc (L' := [.null, .null, .null, .null, .int x4, .int x5, .null]) ⟨Or.inl rfl, ⟨Or.inl rfl, ⟨Or.inl rfl, ⟨Or.inl rfl, ⟨Or.inr rfl, ⟨Or.inr rfl, ⟨Or.inl rfl, trivial⟩⟩⟩⟩⟩⟩⟩ ?_
      exact hj11 (((27 : Int32) * v1) + x3)
    · refine z_iload (pc := 17) dX9_named_17 rfl ?_
      refine z_goto (pc := 19) (tgt := 29) dX9_named_19 (by decide) ?_
      refine z_loc (L' := [.null, .null, .null, .null, .int x4, .int x5, .null]) ⟨Or.inl rfl, ⟨Or.inl rfl, ⟨Or.inl rfl, ⟨Or.inl rfl, ⟨Or.inr rfl, ⟨Or.inr rfl, ⟨Or.inl rfl, trivial⟩⟩⟩⟩⟩⟩⟩ ?_
      exact hj11 v1
def f9_isWord (x1 : Int32) (x2 : Int32) (x3 : Int32) (x4 : Int32) (x5 : Int32) (x6 : Int32) (μ : zMem) : zRes := zlet (fun (s1 : Int32) (μ2 : zMem) => zbl s1 (some (0, s1, μ2))) (fun j3 => zlet (fun (μ4 : zMem) => j3 (0 : Int32) μ4) (fun j5 => if (μ 0 5) = 0 then bnd0 (f9_wordHere μ) (fun (v8 : Int32) (μ9 : zMem) => bnd0 (f9_named x1 x2 x3 x4 x5 x6 μ9) (fun (v10 : Int32) (μ11 : zMem) => if v8 = v10 then j3 (1 : Int32) μ11 else j5 μ11)) else j5 μ))
set_option maxHeartbeats 1000000 in
theorem t9_isWord (x1 : Int32) (x2 : Int32) (x3 : Int32) (x4 : Int32) (x5 : Int32) (x6 : Int32) (μ : zMem) : zMR yX9_isWord cX9_isWord 7 (some .boolean) 4 [.ref 0, .int x1, .int x2, .int x3, .int x4, .int x5, .int x6] 1134 SM μ (f9_isWord x1 x2 x3 x4 x5 x6 μ) := by
  refine zMR_of (by decide +kernel) rfl (Nat.le_of_ble_eq_true rfl) (L := [.ref 0, .int x1, .int x2, .int x3, .int x4, .int x5, .int x6]) rfl ?_
  unfold f9_isWord
  refine z_aload_n (pc := 0) dX9_isWord_0 rfl ?_
  refine z_geti (pc := 1) fdX9_122 (by decide) sm_0 rfl dX9_isWord_1 ?_
  refine z_let (fun (j : Int32 → zMem → zRes) => ∀ (s1 : Int32) (μ2 : zMem), zR yX9_isWord cX9_isWord 7 (some .boolean) 4 31 [.null, .null, .null, .null, .null, .null, .null] [.int s1] 1134 SM μ2 (j s1 μ2)) ?_ (fun j3 hj3 => ?_)
  · intro s1 μ2
    exact z_zret (pc := 31) rfl dX9_isWord_31
  · refine z_let (fun (j : zMem → zRes) => ∀ (μ4 : zMem), zR yX9_isWord cX9_isWord 7 (some .boolean) 4 30 [.null, .null, .null, .null, .null, .null, .null] [] 1134 SM μ4 (j μ4)) ?_ (fun j5 hj5 => ?_)
    · intro μ4
      refine z_iconst (pc := 30) (0 : Int32) dX9_isWord_30 (by decide) ?_
      exact hj3 (0 : Int32) μ4
    · refine z_if_ne (pc := 4) (tgt := 30) dX9_isWord_4 (by decide) (fun c6 => ?_) (fun c7 => ?_)
      · refine z_loc (L' := [.null, .null, .null, .null, .null, .null, .null]) ⟨Or.inl rfl, ⟨Or.inl rfl, ⟨Or.inl rfl, ⟨Or.inl rfl, ⟨Or.inl rfl, ⟨Or.inl rfl, ⟨Or.inl rfl, trivial⟩⟩⟩⟩⟩⟩⟩ ?_
        exact hj5 μ
      · refine z_aload_n (pc := 7) dX9_isWord_7 rfl ?_
        refine z_callV (As := []) (pc := 8) (ret' := some .int) kvX9_144 (t9_wordHere _) (by decide) (by decide) sm_0  rfl rfl (Nat.le_of_ble_eq_true rfl) dX9_isWord_8 (fun v8 μ9 => ?_)
        refine z_iload_n (pc := 11) dX9_isWord_11 rfl ?_
        refine z_iload_n (pc := 12) dX9_isWord_12 rfl ?_
        refine z_iload_n (pc := 13) dX9_isWord_13 rfl ?_
        refine z_iload (pc := 14) dX9_isWord_14 rfl ?_
        refine z_iload (pc := 16) dX9_isWord_16 rfl ?_
        refine z_iload (pc := 18) dX9_isWord_18 rfl ?_
        refine z_callS (As := [.int x1, .int x2, .int x3, .int x4, .int x5, .int x6]) (pc := 20) (ret' := some .int) ksX9_148 (t9_named _ _ _ _ _ _ _) (by decide)  rfl rfl (Nat.le_of_ble_eq_true rfl) dX9_isWord_20 (fun v10 μ11 => ?_)
        refine z_icmp_ne (pc := 23) (tgt := 30) dX9_isWord_23 (by decide) (fun c12 => ?_) (fun c13 => ?_)
        · refine z_loc (L' := [.null, .null, .null, .null, .null, .null, .null]) ⟨Or.inl rfl, ⟨Or.inl rfl, ⟨Or.inl rfl, ⟨Or.inl rfl, ⟨Or.inl rfl, ⟨Or.inl rfl, ⟨Or.inl rfl, trivial⟩⟩⟩⟩⟩⟩⟩ ?_
          exact hj5 μ11
        · refine z_iconst (pc := 26) (1 : Int32) dX9_isWord_26 (by decide) ?_
          refine z_goto (pc := 27) (tgt := 31) dX9_isWord_27 (by decide) ?_
          refine z_loc (L' := [.null, .null, .null, .null, .null, .null, .null]) ⟨Or.inl rfl, ⟨Or.inl rfl, ⟨Or.inl rfl, ⟨Or.inl rfl, ⟨Or.inl rfl, ⟨Or.inl rfl, ⟨Or.inl rfl, trivial⟩⟩⟩⟩⟩⟩⟩ ?_
          exact hj3 (1 : Int32) μ11
def f9_wrong (x1 : Int32) (x2 : Int32) (μ : zMem) : zRes := zlet (fun (μ1 : zMem) => some (0, 0, μ1)) (fun j2 => if (μ 0 5) = 0 then zlet (zset μ 0 5 x1) (fun (μ5 : zMem) => zlet (zset μ5 0 6 x2) (fun (μ6 : zMem) => j2 μ6)) else j2 μ)
set_option maxHeartbeats 1000000 in
theorem t9_wrong (x1 : Int32) (x2 : Int32) (μ : zMem) : zMR yX9_wrong cX9_wrong 3 (none) 1 [.ref 0, .int x1, .int x2] 1134 SM μ (f9_wrong x1 x2 μ) := by
  refine zMR_of (by decide +kernel) rfl (Nat.le_of_ble_eq_true rfl) (L := [.ref 0, .int x1, .int x2]) rfl ?_
  unfold f9_wrong
  refine z_aload_n (pc := 0) dX9_wrong_0 rfl ?_
  refine z_geti (pc := 1) fdX9_122 (by decide) sm_0 rfl dX9_wrong_1 ?_
  refine z_let (fun (j : zMem → zRes) => ∀ (μ1 : zMem), zR yX9_wrong cX9_wrong 3 (none) 1 17 [.null, .null, .null] [] 1134 SM μ1 (j μ1)) ?_ (fun j2 hj2 => ?_)
  · intro μ1
    exact z_vret (pc := 17) rfl dX9_wrong_17
  · refine z_if_ne (pc := 4) (tgt := 17) dX9_wrong_4 (by decide) (fun c3 => ?_) (fun c4 => ?_)
    · refine z_loc (L' := [.null, .null, .null]) ⟨Or.inl rfl, ⟨Or.inl rfl, ⟨Or.inl rfl, trivial⟩⟩⟩ ?_
      exact hj2 μ
    · refine z_aload_n (pc := 7) dX9_wrong_7 rfl ?_
      refine z_iload_n (pc := 8) dX9_wrong_8 rfl ?_
      refine z_puti (pc := 9) fdX9_122 (by decide) sm_0 rfl rfl dX9_wrong_9 ?_
      refine z_mem (fun μ5 => ?_)
      refine z_aload_n (pc := 12) dX9_wrong_12 rfl ?_
      refine z_iload_n (pc := 13) dX9_wrong_13 rfl ?_
      refine z_puti (pc := 14) fdX9_125 (by decide) sm_0 rfl rfl dX9_wrong_14 ?_
      refine z_mem (fun μ6 => ?_)
      refine z_loc (L' := [.null, .null, .null]) ⟨Or.inl rfl, ⟨Or.inl rfl, ⟨Or.inl rfl, trivial⟩⟩⟩ ?_
      exact hj2 μ6
def f9_skipWord_L0 (K39 : zMem → zRes) : Nat → zMem → zRes
  | 0, _ => none
  | n + 1, μ => bnd0 (f9_byteAt (μ 0 4) μ) (fun (v3 : Int32) (μ4 : zMem) => if v3 < (97 : Int32) then K39 μ4 else bnd0 (f9_byteAt (μ4 0 4) μ4) (fun (v7 : Int32) (μ8 : zMem) => if (122 : Int32) < v7 then K39 μ8 else zlet (zset μ8 0 4 ((μ8 0 4) + (1 : Int32))) (fun (μ11 : zMem) => f9_skipWord_L0 K39 n μ11)))
def f9_skipWord (μ : zMem) : zRes := zlet (fun (μ1 : zMem) => some (0, 0, μ1)) (fun j2 => f9_skipWord_L0 (fun (μ12 : zMem) => j2 μ12) zF μ)
set_option maxHeartbeats 1000000 in
theorem t9_skipWord_L0 (K39 : zMem → zRes) (hK39 : ∀ (μ : zMem), zR yX9_skipWord cX9_skipWord 1 (none) 2 39 [.null] [] 1134 SM μ (K39 μ)) : ∀ (n : Nat) (μ : zMem), zR yX9_skipWord cX9_skipWord 1 (none) 2 0 [.ref 0] [] 1134 SM μ (f9_skipWord_L0 K39 n μ) := by
  intro n
  induction n with
  | zero => intro μ; intro q hq; cases hq
  | succ n ih =>
    intro μ
    unfold f9_skipWord_L0
    refine z_aload_n (pc := 0) dX9_skipWord_0 rfl ?_
    refine z_aload_n (pc := 1) dX9_skipWord_1 rfl ?_
    refine z_geti (pc := 2) fdX9_115 (by decide) sm_0 rfl dX9_skipWord_2 ?_
    refine z_callV (As := [.int (μ 0 4)]) (pc := 5) (ret' := some .int) kvX9_118 (t9_byteAt _ _) (by decide) (by decide) sm_0  rfl rfl (Nat.le_of_ble_eq_true rfl) dX9_skipWord_5 (fun v3 μ4 => ?_)
    refine z_bipush (pc := 8) (97 : Int32) dX9_skipWord_8 (by decide) ?_
    refine z_icmp_lt (pc := 10) (tgt := 39) dX9_skipWord_10 (by decide) (fun c5 => ?_) (fun c6 => ?_)
    · refine z_loc (L' := [.null]) ⟨Or.inl rfl, trivial⟩ ?_
      exact hK39 μ4
    · refine z_aload_n (pc := 13) dX9_skipWord_13 rfl ?_
      refine z_aload_n (pc := 14) dX9_skipWord_14 rfl ?_
      refine z_geti (pc := 15) fdX9_115 (by decide) sm_0 rfl dX9_skipWord_15 ?_
      refine z_callV (As := [.int (μ4 0 4)]) (pc := 18) (ret' := some .int) kvX9_118 (t9_byteAt _ _) (by decide) (by decide) sm_0  rfl rfl (Nat.le_of_ble_eq_true rfl) dX9_skipWord_18 (fun v7 μ8 => ?_)
      refine z_bipush (pc := 21) (122 : Int32) dX9_skipWord_21 (by decide) ?_
      refine z_icmp_gt (pc := 23) (tgt := 39) dX9_skipWord_23 (by decide) (fun c9 => ?_) (fun c10 => ?_)
      · refine z_loc (L' := [.null]) ⟨Or.inl rfl, trivial⟩ ?_
        exact hK39 μ8
      · refine z_aload_n (pc := 26) dX9_skipWord_26 rfl ?_
        refine z_dup (pc := 27) dX9_skipWord_27 rfl ?_
        refine z_geti (pc := 28) fdX9_115 (by decide) sm_0 rfl dX9_skipWord_28 ?_
        refine z_iconst (pc := 31) (1 : Int32) dX9_skipWord_31 (by decide) ?_
        refine z_iadd (pc := 32) dX9_skipWord_32 ?_
        refine z_puti (pc := 33) fdX9_115 (by decide) sm_0 rfl rfl dX9_skipWord_33 ?_
        refine z_mem (fun μ11 => ?_)
        refine z_goto (pc := 36) (tgt := 0) dX9_skipWord_36 (by decide) ?_
        exact ih μ11
set_option maxHeartbeats 1000000 in
theorem t9_skipWord (μ : zMem) : zMR yX9_skipWord cX9_skipWord 1 (none) 2 [.ref 0] 1134 SM μ (f9_skipWord μ) := by
  refine zMR_of (by decide +kernel) rfl (Nat.le_of_ble_eq_true rfl) (L := [.ref 0]) rfl ?_
  unfold f9_skipWord
  refine z_let (fun (j : zMem → zRes) => ∀ (μ1 : zMem), zR yX9_skipWord cX9_skipWord 1 (none) 2 39 [.null] [] 1134 SM μ1 (j μ1)) ?_ (fun j2 hj2 => ?_)
  · intro μ1
    exact z_vret (pc := 39) rfl dX9_skipWord_39
  · refine t9_skipWord_L0 _ (fun μ12 => ?_) zF _
    · exact hj2 μ12
def f9_isDigit (x0 : Int32) (μ : zMem) : zRes := zlet (fun (s1 : Int32) => zbl s1 (some (0, s1, μ))) (fun j2 => zlet (j2 (0 : Int32)) (fun j3 => if x0 < (48 : Int32) then j3 else if (57 : Int32) < x0 then j3 else j2 (1 : Int32)))
set_option maxHeartbeats 1000000 in
theorem t9_isDigit (x0 : Int32) (μ : zMem) : zMR yX9_isDigit cX9_isDigit 1 (some .boolean) 1 [.int x0] 1134 SM μ (f9_isDigit x0 μ) := by
  refine zMR_of (by decide +kernel) rfl (Nat.le_of_ble_eq_true rfl) (L := [.int x0]) rfl ?_
  unfold f9_isDigit
  refine z_iload_n (pc := 0) dX9_isDigit_0 rfl ?_
  refine z_bipush (pc := 1) (48 : Int32) dX9_isDigit_1 (by decide) ?_
  refine z_let (fun (j : Int32 → zRes) => ∀ (s1 : Int32), zR yX9_isDigit cX9_isDigit 1 (some .boolean) 1 17 [.null] [.int s1] 1134 SM μ (j s1)) ?_ (fun j2 hj2 => ?_)
  · intro s1
    exact z_zret (pc := 17) rfl dX9_isDigit_17
  · refine z_let (fun (j : zRes) => zR yX9_isDigit cX9_isDigit 1 (some .boolean) 1 16 [.null] [] 1134 SM μ (j)) ?_ (fun j3 hj3 => ?_)
    · refine z_iconst (pc := 16) (0 : Int32) dX9_isDigit_16 (by decide) ?_
      exact hj2 (0 : Int32)
    · refine z_icmp_lt (pc := 3) (tgt := 16) dX9_isDigit_3 (by decide) (fun c4 => ?_) (fun c5 => ?_)
      · refine z_loc (L' := [.null]) ⟨Or.inl rfl, trivial⟩ ?_
        exact hj3
      · refine z_iload_n (pc := 6) dX9_isDigit_6 rfl ?_
        refine z_bipush (pc := 7) (57 : Int32) dX9_isDigit_7 (by decide) ?_
        refine z_icmp_gt (pc := 9) (tgt := 16) dX9_isDigit_9 (by decide) (fun c6 => ?_) (fun c7 => ?_)
        · refine z_loc (L' := [.null]) ⟨Or.inl rfl, trivial⟩ ?_
          exact hj3
        · refine z_iconst (pc := 12) (1 : Int32) dX9_isDigit_12 (by decide) ?_
          refine z_goto (pc := 13) (tgt := 17) dX9_isDigit_13 (by decide) ?_
          refine z_loc (L' := [.null]) ⟨Or.inl rfl, trivial⟩ ?_
          exact hj2 (1 : Int32)
def f9_number_L45 (K107 : Int32 → zMem → zRes) : Nat → Int32 → zMem → zRes
  | 0, _, _ => none
  | n + 1, x5, μ => bnd0 (f9_byteAt (μ 0 4) μ) (fun (v11 : Int32) (μ12 : zMem) => bnd0 (f9_isDigit v11 μ12) (fun (v13 : Int32) (μ14 : zMem) => if v13 = 0 then K107 x5 μ14 else bnd0 (f9_byteAt (μ14 0 4) μ14) (fun (v17 : Int32) (μ18 : zMem) => zlet ((((10 : Int32) * x5) + v17) - (48 : Int32)) (fun (v19 : Int32) => zlet (fun (s20 : Int32) => zlet (zset μ18 0 4 ((μ18 0 4) + (1 : Int32))) (fun (μ21 : zMem) => f9_number_L45 K107 n s20 μ21)) (fun j22 => if v19 ≤ (100000 : Int32) then j22 v19 else j22 (100000 : Int32))))))
def f9_number (x1 : Int32) (x2 : Int32) (x3 : Int32) (μ : zMem) : zRes := if (μ 0 5) = 0 then bnd0 (f9_blanks μ) (fun (v3 : Int32) (μ4 : zMem) => zlet (μ4 0 4) (fun (v5 : Int32) => bnd0 (f9_byteAt (μ4 0 4) μ4) (fun (v6 : Int32) (μ7 : zMem) => bnd0 (f9_isDigit v6 μ7) (fun (v8 : Int32) (μ9 : zMem) => zlet (fun (μ10 : zMem) => f9_number_L45 (fun (x5_25 : Int32) (μ26 : zMem) => bnd0 (f9_in x5_25 x1 x2 μ26) (fun (v27 : Int32) (μ28 : zMem) => zlet (fun (μ29 : zMem) => some (0, x5_25, μ29)) (fun j30 => zlet (bnd0 (f9_wrong (2 : Int32) v5 μ28) (fun (v31 : Int32) (μ32 : zMem) => j30 μ32)) (fun j33 => if v27 = 0 then j33 else if x5_25 = x3 then j33 else j30 μ28)))) zF (0 : Int32) μ10) (fun j38 => if v8 = 0 then bnd0 (f9_wrong (1 : Int32) (μ9 0 4) μ9) (fun (v41 : Int32) (μ42 : zMem) => j38 μ42) else j38 μ9))))) else some (0, (0 : Int32), μ)
set_option maxHeartbeats 1000000 in
theorem t9_number_L45 (x1 : Int32) (x2 : Int32) (x3 : Int32) (x4 : Int32) (K107 : Int32 → zMem → zRes) (hK107 : ∀ (x5 : Int32) (μ : zMem), zR yX9_number cX9_number 6 (some .int) 3 107 [.ref 0, .int x1, .int x2, .int x3, .int x4, .int x5] [] 1134 SM μ (K107 x5 μ)) : ∀ (n : Nat) (x5 : Int32) (μ : zMem), zR yX9_number cX9_number 6 (some .int) 3 45 [.ref 0, .int x1, .int x2, .int x3, .int x4, .int x5] [] 1134 SM μ (f9_number_L45 K107 n x5 μ) := by
  intro n
  induction n with
  | zero => intro x5 μ; intro q hq; cases hq
  | succ n ih =>
    intro x5 μ
    unfold f9_number_L45
    refine z_aload_n (pc := 45) dX9_number_45 rfl ?_
    refine z_aload_n (pc := 46) dX9_number_46 rfl ?_
    refine z_geti (pc := 47) fdX9_115 (by decide) sm_0 rfl dX9_number_47 ?_
    refine z_callV (As := [.int (μ 0 4)]) (pc := 50) (ret' := some .int) kvX9_118 (t9_byteAt _ _) (by decide) (by decide) sm_0  rfl rfl (Nat.le_of_ble_eq_true rfl) dX9_number_50 (fun v11 μ12 => ?_)
    refine z_callS (As := [.int v11]) (pc := 53) (ret' := some .boolean) ksX9_131 (t9_isDigit _ _) (by decide)  rfl rfl (Nat.le_of_ble_eq_true rfl) dX9_number_53 (fun v13 μ14 => ?_)
    refine z_if_eq (pc := 56) (tgt := 107) dX9_number_56 (by decide) (fun c15 => ?_) (fun c16 => ?_)
    · exact hK107 x5 μ14
    · refine z_bipush (pc := 59) (10 : Int32) dX9_number_59 (by decide) ?_
      refine z_iload (pc := 61) dX9_number_61 rfl ?_
      refine z_imul (pc := 63) dX9_number_63 ?_
      refine z_aload_n (pc := 64) dX9_number_64 rfl ?_
      refine z_aload_n (pc := 65) dX9_number_65 rfl ?_
      refine z_geti (pc := 66) fdX9_115 (by decide) sm_0 rfl dX9_number_66 ?_
      refine z_callV (As := [.int (μ14 0 4)]) (pc := 69) (ret' := some .int) kvX9_118 (t9_byteAt _ _) (by decide) (by decide) sm_0  rfl rfl (Nat.le_of_ble_eq_true rfl) dX9_number_69 (fun v17 μ18 => ?_)
      refine z_iadd (pc := 72) dX9_number_72 ?_
      refine z_bipush (pc := 73) (48 : Int32) dX9_number_73 (by decide) ?_
      refine z_isub (pc := 75) dX9_number_75 ?_
      refine z_val (fun v19 => ?_)
      refine z_istore (pc := 76) (L' := [.ref 0, .int x1, .int x2, .int x3, .int x4, .int v19]) dX9_number_76 (by decide) rfl ?_
      refine z_iload (pc := 78) dX9_number_78 rfl ?_
      refine z_ldc (pc := 80) (100000 : Int32) kcX9_139 dX9_number_80 ?_
      refine z_let (fun (j : Int32 → zRes) => ∀ (s20 : Int32), zR yX9_number cX9_number 6 (some .int) 3 92 [.ref 0, .int x1, .int x2, .int x3, .int x4, .null] [.int s20] 1134 SM μ18 (j s20)) ?_ (fun j22 hj22 => ?_)
      · intro s20
        refine z_istore (pc := 92) (L' := [.ref 0, .int x1, .int x2, .int x3, .int x4, .int s20]) dX9_number_92 (by decide) rfl ?_
        refine z_aload_n (pc := 94) dX9_number_94 rfl ?_
        refine z_dup (pc := 95) dX9_number_95 rfl ?_
        refine z_geti (pc := 96) fdX9_115 (by decide) sm_0 rfl dX9_number_96 ?_
        refine z_iconst (pc := 99) (1 : Int32) dX9_number_99 (by decide) ?_
        refine z_iadd (pc := 100) dX9_number_100 ?_
        refine z_puti (pc := 101) fdX9_115 (by decide) sm_0 rfl rfl dX9_number_101 ?_
        refine z_mem (fun μ21 => ?_)
        refine z_goto (pc := 104) (tgt := 45) dX9_number_104 (by decide) ?_
        exact ih s20 μ21
      · refine z_icmp_le (pc := 82) (tgt := 90) dX9_number_82 (by decide) (fun c23 => ?_) (fun c24 => ?_)
        · refine z_iload (pc := 90) dX9_number_90 rfl ?_
          refine z_loc (L' := [.ref 0, .int x1, .int x2, .int x3, .int x4, .null]) ⟨Or.inr rfl, ⟨Or.inr rfl, ⟨Or.inr rfl, ⟨Or.inr rfl, ⟨Or.inr rfl, ⟨Or.inl rfl, trivial⟩⟩⟩⟩⟩⟩ ?_
          exact hj22 v19
        · refine z_ldc (pc := 85) (100000 : Int32) kcX9_139 dX9_number_85 ?_
          refine z_goto (pc := 87) (tgt := 92) dX9_number_87 (by decide) ?_
          refine z_loc (L' := [.ref 0, .int x1, .int x2, .int x3, .int x4, .null]) ⟨Or.inr rfl, ⟨Or.inr rfl, ⟨Or.inr rfl, ⟨Or.inr rfl, ⟨Or.inr rfl, ⟨Or.inl rfl, trivial⟩⟩⟩⟩⟩⟩ ?_
          exact hj22 (100000 : Int32)
set_option maxHeartbeats 1000000 in
theorem t9_number (x1 : Int32) (x2 : Int32) (x3 : Int32) (μ : zMem) : zMR yX9_number cX9_number 6 (some .int) 3 [.ref 0, .int x1, .int x2, .int x3] 1134 SM μ (f9_number x1 x2 x3 μ) := by
  refine zMR_of (by decide +kernel) rfl (Nat.le_of_ble_eq_true rfl) (L := [.ref 0, .int x1, .int x2, .int x3, .null, .null]) rfl ?_
  unfold f9_number
  refine z_aload_n (pc := 0) dX9_number_0 rfl ?_
  refine z_geti (pc := 1) fdX9_122 (by decide) sm_0 rfl dX9_number_1 ?_
  refine z_if_eq (pc := 4) (tgt := 9) dX9_number_4 (by decide) (fun c1 => ?_) (fun c2 => ?_)
  · refine z_aload_n (pc := 9) dX9_number_9 rfl ?_
    refine z_callV (As := []) (pc := 10) (ret' := none) kvX9_128 (t9_blanks _) (by decide) (by decide) sm_0  rfl rfl (Nat.le_of_ble_eq_true rfl) dX9_number_10 (fun v3 μ4 => ?_)
    refine z_aload_n (pc := 13) dX9_number_13 rfl ?_
    refine z_geti (pc := 14) fdX9_115 (by decide) sm_0 rfl dX9_number_14 ?_
    refine z_val (fun v5 => ?_)
    refine z_istore (pc := 17) (L' := [.ref 0, .int x1, .int x2, .int x3, .int v5, .null]) dX9_number_17 (by decide) rfl ?_
    refine z_iconst (pc := 19) (0 : Int32) dX9_number_19 (by decide) ?_
    refine z_istore (pc := 20) (L' := [.ref 0, .int x1, .int x2, .int x3, .int v5, .int (0 : Int32)]) dX9_number_20 (by decide) rfl ?_
    refine z_aload_n (pc := 22) dX9_number_22 rfl ?_
    refine z_aload_n (pc := 23) dX9_number_23 rfl ?_
    refine z_geti (pc := 24) fdX9_115 (by decide) sm_0 rfl dX9_number_24 ?_
    refine z_callV (As := [.int (μ4 0 4)]) (pc := 27) (ret' := some .int) kvX9_118 (t9_byteAt _ _) (by decide) (by decide) sm_0  rfl rfl (Nat.le_of_ble_eq_true rfl) dX9_number_27 (fun v6 μ7 => ?_)
    refine z_callS (As := [.int v6]) (pc := 30) (ret' := some .boolean) ksX9_131 (t9_isDigit _ _) (by decide)  rfl rfl (Nat.le_of_ble_eq_true rfl) dX9_number_30 (fun v8 μ9 => ?_)
    refine z_let (fun (j : zMem → zRes) => ∀ (μ10 : zMem), zR yX9_number cX9_number 6 (some .int) 3 45 [.ref 0, .int x1, .int x2, .int x3, .int v5, .int (0 : Int32)] [] 1134 SM μ10 (j μ10)) ?_ (fun j38 hj38 => ?_)
    · intro μ10
      refine t9_number_L45 _ _ _ _ _ (fun x5_25 μ26 => ?_) zF _ _
      · refine z_iload (pc := 107) dX9_number_107 rfl ?_
        refine z_iload_n (pc := 109) dX9_number_109 rfl ?_
        refine z_iload_n (pc := 110) dX9_number_110 rfl ?_
        refine z_callS (As := [.int x5_25, .int x1, .int x2]) (pc := 111) (ret' := some .boolean) ksX9_140 (t9_in _ _ _ _) (by decide)  rfl rfl (Nat.le_of_ble_eq_true rfl) dX9_number_111 (fun v27 μ28 => ?_)
        refine z_let (fun (j : zMem → zRes) => ∀ (μ29 : zMem), zR yX9_number cX9_number 6 (some .int) 3 130 [.null, .null, .null, .null, .null, .int x5_25] [] 1134 SM μ29 (j μ29)) ?_ (fun j30 hj30 => ?_)
        · intro μ29
          refine z_iload (pc := 130) dX9_number_130 rfl ?_
          exact z_iret (pc := 132) rfl dX9_number_132
        · refine z_let (fun (j : zRes) => zR yX9_number cX9_number 6 (some .int) 3 123 [.ref 0, .null, .null, .null, .int v5, .int x5_25] [] 1134 SM μ28 (j)) ?_ (fun j33 hj33 => ?_)
          · refine z_aload_n (pc := 123) dX9_number_123 rfl ?_
            refine z_iconst (pc := 124) (2 : Int32) dX9_number_124 (by decide) ?_
            refine z_iload (pc := 125) dX9_number_125 rfl ?_
            refine z_callV (As := [.int (2 : Int32), .int v5]) (pc := 127) (ret' := none) kvX9_135 (t9_wrong _ _ _) (by decide) (by decide) sm_0  rfl rfl (Nat.le_of_ble_eq_true rfl) dX9_number_127 (fun v31 μ32 => ?_)
            refine z_loc (L' := [.null, .null, .null, .null, .null, .int x5_25]) ⟨Or.inl rfl, ⟨Or.inl rfl, ⟨Or.inl rfl, ⟨Or.inl rfl, ⟨Or.inl rfl, ⟨Or.inr rfl, trivial⟩⟩⟩⟩⟩⟩ ?_
            exact hj30 μ32
          · refine z_if_eq (pc := 114) (tgt := 123) dX9_number_114 (by decide) (fun c34 => ?_) (fun c35 => ?_)
            · refine z_loc (L' := [.ref 0, .null, .null, .null, .int v5, .int x5_25]) ⟨Or.inr rfl, ⟨Or.inl rfl, ⟨Or.inl rfl, ⟨Or.inl rfl, ⟨Or.inr rfl, ⟨Or.inr rfl, trivial⟩⟩⟩⟩⟩⟩ ?_
              exact hj33
            · refine z_iload (pc := 117) dX9_number_117 rfl ?_
              refine z_iload_n (pc := 119) dX9_number_119 rfl ?_
              refine z_icmp_ne (pc := 120) (tgt := 130) dX9_number_120 (by decide) (fun c36 => ?_) (fun c37 => ?_)
              · refine z_loc (L' := [.null, .null, .null, .null, .null, .int x5_25]) ⟨Or.inl rfl, ⟨Or.inl rfl, ⟨Or.inl rfl, ⟨Or.inl rfl, ⟨Or.inl rfl, ⟨Or.inr rfl, trivial⟩⟩⟩⟩⟩⟩ ?_
                exact hj30 μ28
              · refine z_loc (L' := [.ref 0, .null, .null, .null, .int v5, .int x5_25]) ⟨Or.inr rfl, ⟨Or.inl rfl, ⟨Or.inl rfl, ⟨Or.inl rfl, ⟨Or.inr rfl, ⟨Or.inr rfl, trivial⟩⟩⟩⟩⟩⟩ ?_
                exact hj33
    · refine z_if_ne (pc := 33) (tgt := 45) dX9_number_33 (by decide) (fun c39 => ?_) (fun c40 => ?_)
      · exact hj38 μ9
      · refine z_aload_n (pc := 36) dX9_number_36 rfl ?_
        refine z_iconst (pc := 37) (1 : Int32) dX9_number_37 (by decide) ?_
        refine z_aload_n (pc := 38) dX9_number_38 rfl ?_
        refine z_geti (pc := 39) fdX9_115 (by decide) sm_0 rfl dX9_number_39 ?_
        refine z_callV (As := [.int (1 : Int32), .int (μ9 0 4)]) (pc := 42) (ret' := none) kvX9_135 (t9_wrong _ _ _) (by decide) (by decide) sm_0  rfl rfl (Nat.le_of_ble_eq_true rfl) dX9_number_42 (fun v41 μ42 => ?_)
        exact hj38 μ42
  · refine z_iconst (pc := 7) (0 : Int32) dX9_number_7 (by decide) ?_
    exact z_iret (pc := 8) rfl dX9_number_8
def f9_sign (x1 : Int32) (μ : zMem) : zRes := if (μ 0 5) = 0 then bnd0 (f9_blanks μ) (fun (v3 : Int32) (μ4 : zMem) => bnd0 (f9_byteAt (μ4 0 4) μ4) (fun (v5 : Int32) (μ6 : zMem) => zlet (fun (μ7 : zMem) => some (0, 0, μ7)) (fun j8 => if v5 = x1 then zlet (zset μ6 0 4 ((μ6 0 4) + (1 : Int32))) (fun (μ13 : zMem) => j8 μ13) else bnd0 (f9_wrong (1 : Int32) (μ6 0 4) μ6) (fun (v11 : Int32) (μ12 : zMem) => j8 μ12)))) else some (0, 0, μ)
set_option maxHeartbeats 1000000 in
theorem t9_sign (x1 : Int32) (μ : zMem) : zMR yX9_sign cX9_sign 2 (none) 3 [.ref 0, .int x1] 1134 SM μ (f9_sign x1 μ) := by
  refine zMR_of (by decide +kernel) rfl (Nat.le_of_ble_eq_true rfl) (L := [.ref 0, .int x1]) rfl ?_
  unfold f9_sign
  refine z_aload_n (pc := 0) dX9_sign_0 rfl ?_
  refine z_geti (pc := 1) fdX9_122 (by decide) sm_0 rfl dX9_sign_1 ?_
  refine z_if_eq (pc := 4) (tgt := 8) dX9_sign_4 (by decide) (fun c1 => ?_) (fun c2 => ?_)
  · refine z_aload_n (pc := 8) dX9_sign_8 rfl ?_
    refine z_callV (As := []) (pc := 9) (ret' := none) kvX9_128 (t9_blanks _) (by decide) (by decide) sm_0  rfl rfl (Nat.le_of_ble_eq_true rfl) dX9_sign_9 (fun v3 μ4 => ?_)
    refine z_aload_n (pc := 12) dX9_sign_12 rfl ?_
    refine z_aload_n (pc := 13) dX9_sign_13 rfl ?_
    refine z_geti (pc := 14) fdX9_115 (by decide) sm_0 rfl dX9_sign_14 ?_
    refine z_callV (As := [.int (μ4 0 4)]) (pc := 17) (ret' := some .int) kvX9_118 (t9_byteAt _ _) (by decide) (by decide) sm_0  rfl rfl (Nat.le_of_ble_eq_true rfl) dX9_sign_17 (fun v5 μ6 => ?_)
    refine z_iload_n (pc := 20) dX9_sign_20 rfl ?_
    refine z_let (fun (j : zMem → zRes) => ∀ (μ7 : zMem), zR yX9_sign cX9_sign 2 (none) 3 46 [.null, .null] [] 1134 SM μ7 (j μ7)) ?_ (fun j8 hj8 => ?_)
    · intro μ7
      exact z_vret (pc := 46) rfl dX9_sign_46
    · refine z_icmp_ne (pc := 21) (tgt := 37) dX9_sign_21 (by decide) (fun c9 => ?_) (fun c10 => ?_)
      · refine z_aload_n (pc := 37) dX9_sign_37 rfl ?_
        refine z_iconst (pc := 38) (1 : Int32) dX9_sign_38 (by decide) ?_
        refine z_aload_n (pc := 39) dX9_sign_39 rfl ?_
        refine z_geti (pc := 40) fdX9_115 (by decide) sm_0 rfl dX9_sign_40 ?_
        refine z_callV (As := [.int (1 : Int32), .int (μ6 0 4)]) (pc := 43) (ret' := none) kvX9_135 (t9_wrong _ _ _) (by decide) (by decide) sm_0  rfl rfl (Nat.le_of_ble_eq_true rfl) dX9_sign_43 (fun v11 μ12 => ?_)
        refine z_loc (L' := [.null, .null]) ⟨Or.inl rfl, ⟨Or.inl rfl, trivial⟩⟩ ?_
        exact hj8 μ12
      · refine z_aload_n (pc := 24) dX9_sign_24 rfl ?_
        refine z_dup (pc := 25) dX9_sign_25 rfl ?_
        refine z_geti (pc := 26) fdX9_115 (by decide) sm_0 rfl dX9_sign_26 ?_
        refine z_iconst (pc := 29) (1 : Int32) dX9_sign_29 (by decide) ?_
        refine z_iadd (pc := 30) dX9_sign_30 ?_
        refine z_puti (pc := 31) fdX9_115 (by decide) sm_0 rfl rfl dX9_sign_31 ?_
        refine z_mem (fun μ13 => ?_)
        refine z_goto (pc := 34) (tgt := 46) dX9_sign_34 (by decide) ?_
        refine z_loc (L' := [.null, .null]) ⟨Or.inl rfl, ⟨Or.inl rfl, trivial⟩⟩ ?_
        exact hj8 μ13
  · exact z_vret (pc := 7) rfl dX9_sign_7
def f9_asks_L89 (K108 : zMem → zRes) : Nat → Int32 → zMem → zRes
  | 0, _, _ => none
  | n + 1, x1, μ => if (8 : Int32) ≤ x1 then K108 μ else zin x1 8 (zlet (zset μ 48 x1.toNatClampNeg (0 : Int32)) (fun (μ25 : zMem) => f9_asks_L89 K108 n (x1 + (1 : Int32)) μ25))
def f9_asks (μ : zMem) : zRes := bnd0 (f9_isWord (1 : Int32) (19 : Int32) (11 : Int32) (19 : Int32) (0 : Int32) (0 : Int32) μ) (fun (v1 : Int32) (μ2 : zMem) => zlet (fun (μ3 : zMem) => if (μ3 0 5) = 0 then bnd0 (f9_skipWord μ3) (fun (v6 : Int32) (μ7 : zMem) => bnd0 (f9_number (1 : Int32) (4 : Int32) (-1 : Int32) μ7) (fun (v8 : Int32) (μ9 : zMem) => zin (0 : Int32) 6 (zlet (zset μ9 3 (0 : Int32).toNatClampNeg v8) (fun (μ11 : zMem) => zin (1 : Int32) 6 (zlet (zset μ11 3 (1 : Int32).toNatClampNeg (0 : Int32)) (fun (μ13 : zMem) => zin (2 : Int32) 6 (zlet (zset μ13 3 (2 : Int32).toNatClampNeg (0 : Int32)) (fun (μ15 : zMem) => zin (3 : Int32) 6 (zlet (zset μ15 3 (3 : Int32).toNatClampNeg (4 : Int32)) (fun (μ17 : zMem) => zin (4 : Int32) 6 (zlet (zset μ17 3 (4 : Int32).toNatClampNeg (480 : Int32)) (fun (μ19 : zMem) => zin (5 : Int32) 6 (zlet (zset μ19 3 (5 : Int32).toNatClampNeg (0 : Int32)) (fun (μ21 : zMem) => f9_asks_L89 (fun (μ26 : zMem) => bnd0 (f9_sign (59 : Int32) μ26) (fun (v27 : Int32) (μ28 : zMem) => zlet (zset μ28 0 7 (1 : Int32)) (fun (μ29 : zMem) => some (0, 0, μ29)))) zF (0 : Int32) μ21)))))))))))))) else some (0, 0, μ3)) (fun j30 => if v1 = 0 then bnd0 (f9_wrong (1 : Int32) (μ2 0 4) μ2) (fun (v33 : Int32) (μ34 : zMem) => j30 μ34) else j30 μ2))
set_option maxHeartbeats 1000000 in
theorem t9_asks_L89 (K108 : zMem → zRes) (hK108 : ∀ (μ : zMem), zR yX9_asks cX9_asks 2 (none) 5 108 [.ref 0, .null] [] 1134 SM μ (K108 μ)) : ∀ (n : Nat) (x1 : Int32) (μ : zMem), zR yX9_asks cX9_asks 2 (none) 5 89 [.ref 0, .int x1] [] 1134 SM μ (f9_asks_L89 K108 n x1 μ) := by
  intro n
  induction n with
  | zero => intro x1 μ; intro q hq; cases hq
  | succ n ih =>
    intro x1 μ
    unfold f9_asks_L89
    refine z_iload_n (pc := 89) dX9_asks_89 rfl ?_
    refine z_bipush (pc := 90) (8 : Int32) dX9_asks_90 (by decide) ?_
    refine z_icmp_ge (pc := 92) (tgt := 108) dX9_asks_92 (by decide) (fun c22 => ?_) (fun c23 => ?_)
    · refine z_loc (L' := [.ref 0, .null]) ⟨Or.inr rfl, ⟨Or.inl rfl, trivial⟩⟩ ?_
      exact hK108 μ
    · refine z_aload_n (pc := 95) dX9_asks_95 rfl ?_
      refine z_getr (pc := 96) fdX9_46 (by decide) sm_0 rfl rfl dX9_asks_96 ?_
      refine z_iload_n (pc := 99) dX9_asks_99 rfl ?_
      refine z_iconst (pc := 100) (0 : Int32) dX9_asks_100 (by decide) ?_
      refine z_iast (pc := 101) (by decide) sm_48 rfl dX9_asks_101 (fun h24 => ?_)
      refine z_mem (fun μ25 => ?_)
      refine z_iinc (pc := 102) (v := x1 + (1 : Int32)) (L' := [.ref 0, .int (x1 + (1 : Int32))]) dX9_asks_102 (by decide) rfl (congrArg _ (by decide)) rfl ?_
      refine z_goto (pc := 105) (tgt := 89) dX9_asks_105 (by decide) ?_
      exact ih (x1 + (1 : Int32)) μ25
set_option maxHeartbeats 1000000 in
theorem t9_asks (μ : zMem) : zMR yX9_asks cX9_asks 2 (none) 5 [.ref 0] 1134 SM μ (f9_asks μ) := by
  refine zMR_of (by decide +kernel) rfl (Nat.le_of_ble_eq_true rfl) (L := [.ref 0, .null]) rfl ?_
  unfold f9_asks
  refine z_aload_n (pc := 0) dX9_asks_0 rfl ?_
  refine z_iconst (pc := 1) (1 : Int32) dX9_asks_1 (by decide) ?_
  refine z_bipush (pc := 2) (19 : Int32) dX9_asks_2 (by decide) ?_
  refine z_bipush (pc := 4) (11 : Int32) dX9_asks_4 (by decide) ?_
  refine z_bipush (pc := 6) (19 : Int32) dX9_asks_6 (by decide) ?_
  refine z_iconst (pc := 8) (0 : Int32) dX9_asks_8 (by decide) ?_
  refine z_iconst (pc := 9) (0 : Int32) dX9_asks_9 (by decide) ?_
  refine z_callV (As := [.int (1 : Int32), .int (19 : Int32), .int (11 : Int32), .int (19 : Int32), .int (0 : Int32), .int (0 : Int32)]) (pc := 10) (ret' := some .boolean) kvX9_152 (t9_isWord _ _ _ _ _ _ _) (by decide) (by decide) sm_0  rfl rfl (Nat.le_of_ble_eq_true rfl) dX9_asks_10 (fun v1 μ2 => ?_)
  refine z_let (fun (j : zMem → zRes) => ∀ (μ3 : zMem), zR yX9_asks cX9_asks 2 (none) 5 25 [.ref 0, .null] [] 1134 SM μ3 (j μ3)) ?_ (fun j30 hj30 => ?_)
  · intro μ3
    refine z_aload_n (pc := 25) dX9_asks_25 rfl ?_
    refine z_geti (pc := 26) fdX9_122 (by decide) sm_0 rfl dX9_asks_26 ?_
    refine z_if_eq (pc := 29) (tgt := 33) dX9_asks_29 (by decide) (fun c4 => ?_) (fun c5 => ?_)
    · refine z_aload_n (pc := 33) dX9_asks_33 rfl ?_
      refine z_callV (As := []) (pc := 34) (ret' := none) kvX9_156 (t9_skipWord _) (by decide) (by decide) sm_0  rfl rfl (Nat.le_of_ble_eq_true rfl) dX9_asks_34 (fun v6 μ7 => ?_)
      refine z_aload_n (pc := 37) dX9_asks_37 rfl ?_
      refine z_getr (pc := 38) fdX9_20 (by decide) sm_0 rfl rfl dX9_asks_38 ?_
      refine z_iconst (pc := 41) (0 : Int32) dX9_asks_41 (by decide) ?_
      refine z_aload_n (pc := 42) dX9_asks_42 rfl ?_
      refine z_iconst (pc := 43) (1 : Int32) dX9_asks_43 (by decide) ?_
      refine z_iconst (pc := 44) (4 : Int32) dX9_asks_44 (by decide) ?_
      refine z_iconst (pc := 45) (-1 : Int32) dX9_asks_45 (by decide) ?_
      refine z_callV (As := [.int (1 : Int32), .int (4 : Int32), .int (-1 : Int32)]) (pc := 46) (ret' := some .int) kvX9_159 (t9_number _ _ _ _) (by decide) (by decide) sm_0  rfl rfl (Nat.le_of_ble_eq_true rfl) dX9_asks_46 (fun v8 μ9 => ?_)
      refine z_iast (pc := 49) (by decide) sm_3 rfl dX9_asks_49 (fun h10 => ?_)
      refine z_mem (fun μ11 => ?_)
      refine z_aload_n (pc := 50) dX9_asks_50 rfl ?_
      refine z_getr (pc := 51) fdX9_20 (by decide) sm_0 rfl rfl dX9_asks_51 ?_
      refine z_iconst (pc := 54) (1 : Int32) dX9_asks_54 (by decide) ?_
      refine z_iconst (pc := 55) (0 : Int32) dX9_asks_55 (by decide) ?_
      refine z_iast (pc := 56) (by decide) sm_3 rfl dX9_asks_56 (fun h12 => ?_)
      refine z_mem (fun μ13 => ?_)
      refine z_aload_n (pc := 57) dX9_asks_57 rfl ?_
      refine z_getr (pc := 58) fdX9_20 (by decide) sm_0 rfl rfl dX9_asks_58 ?_
      refine z_iconst (pc := 61) (2 : Int32) dX9_asks_61 (by decide) ?_
      refine z_iconst (pc := 62) (0 : Int32) dX9_asks_62 (by decide) ?_
      refine z_iast (pc := 63) (by decide) sm_3 rfl dX9_asks_63 (fun h14 => ?_)
      refine z_mem (fun μ15 => ?_)
      refine z_aload_n (pc := 64) dX9_asks_64 rfl ?_
      refine z_getr (pc := 65) fdX9_20 (by decide) sm_0 rfl rfl dX9_asks_65 ?_
      refine z_iconst (pc := 68) (3 : Int32) dX9_asks_68 (by decide) ?_
      refine z_iconst (pc := 69) (4 : Int32) dX9_asks_69 (by decide) ?_
      refine z_iast (pc := 70) (by decide) sm_3 rfl dX9_asks_70 (fun h16 => ?_)
      refine z_mem (fun μ17 => ?_)
      refine z_aload_n (pc := 71) dX9_asks_71 rfl ?_
      refine z_getr (pc := 72) fdX9_20 (by decide) sm_0 rfl rfl dX9_asks_72 ?_
      refine z_iconst (pc := 75) (4 : Int32) dX9_asks_75 (by decide) ?_
      refine z_sipush (pc := 76) (480 : Int32) dX9_asks_76 (by decide) ?_
      refine z_iast (pc := 79) (by decide) sm_3 rfl dX9_asks_79 (fun h18 => ?_)
      refine z_mem (fun μ19 => ?_)
      refine z_aload_n (pc := 80) dX9_asks_80 rfl ?_
      refine z_getr (pc := 81) fdX9_20 (by decide) sm_0 rfl rfl dX9_asks_81 ?_
      refine z_iconst (pc := 84) (5 : Int32) dX9_asks_84 (by decide) ?_
      refine z_iconst (pc := 85) (0 : Int32) dX9_asks_85 (by decide) ?_
      refine z_iast (pc := 86) (by decide) sm_3 rfl dX9_asks_86 (fun h20 => ?_)
      refine z_mem (fun μ21 => ?_)
      refine z_iconst (pc := 87) (0 : Int32) dX9_asks_87 (by decide) ?_
      refine z_istore_n (pc := 88) (L' := [.ref 0, .int (0 : Int32)]) dX9_asks_88 (by decide) rfl ?_
      refine t9_asks_L89 _ (fun μ26 => ?_) zF _ _
      · refine z_aload_n (pc := 108) dX9_asks_108 rfl ?_
        refine z_bipush (pc := 109) (59 : Int32) dX9_asks_109 (by decide) ?_
        refine z_callV (As := [.int (59 : Int32)]) (pc := 111) (ret' := none) kvX9_163 (t9_sign _ _) (by decide) (by decide) sm_0  rfl rfl (Nat.le_of_ble_eq_true rfl) dX9_asks_111 (fun v27 μ28 => ?_)
        refine z_aload_n (pc := 114) dX9_asks_114 rfl ?_
        refine z_iconst (pc := 115) (1 : Int32) dX9_asks_115 (by decide) ?_
        refine z_puti (pc := 116) fdX9_167 (by decide) sm_0 rfl rfl dX9_asks_116 ?_
        refine z_mem (fun μ29 => ?_)
        exact z_vret (pc := 119) rfl dX9_asks_119
    · exact z_vret (pc := 32) rfl dX9_asks_32
  · refine z_if_ne (pc := 13) (tgt := 25) dX9_asks_13 (by decide) (fun c31 => ?_) (fun c32 => ?_)
    · exact hj30 μ2
    · refine z_aload_n (pc := 16) dX9_asks_16 rfl ?_
      refine z_iconst (pc := 17) (1 : Int32) dX9_asks_17 (by decide) ?_
      refine z_aload_n (pc := 18) dX9_asks_18 rfl ?_
      refine z_geti (pc := 19) fdX9_115 (by decide) sm_0 rfl dX9_asks_19 ?_
      refine z_callV (As := [.int (1 : Int32), .int (μ2 0 4)]) (pc := 22) (ret' := none) kvX9_135 (t9_wrong _ _ _) (by decide) (by decide) sm_0  rfl rfl (Nat.le_of_ble_eq_true rfl) dX9_asks_22 (fun v33 μ34 => ?_)
      exact hj30 μ34
def f9_kindHere (μ : zMem) : zRes := bnd0 (f9_isWord (16 : Int32) (5 : Int32) (18 : Int32) (19 : Int32) (15 : Int32) (14 : Int32) μ) (fun (v1 : Int32) (μ2 : zMem) => if v1 = 0 then bnd0 (f9_isWord (6 : Int32) (5 : Int32) (9 : Int32) (7 : Int32) (14 : Int32) (19 : Int32) μ2) (fun (v5 : Int32) (μ6 : zMem) => if v5 = 0 then bnd0 (f9_isWord (11 : Int32) (9 : Int32) (14 : Int32) (0 : Int32) (0 : Int32) (0 : Int32) μ6) (fun (v9 : Int32) (μ10 : zMem) => if v9 = 0 then bnd0 (f9_isWord (4 : Int32) (15 : Int32) (15 : Int32) (18 : Int32) (0 : Int32) (0 : Int32) μ10) (fun (v13 : Int32) (μ14 : zMem) => if v13 = 0 then bnd0 (f9_isWord (7 : Int32) (1 : Int32) (16 : Int32) (0 : Int32) (0 : Int32) (0 : Int32) μ14) (fun (v17 : Int32) (μ18 : zMem) => if v17 = 0 then bnd0 (f9_isWord (4 : Int32) (1 : Int32) (25 : Int32) (0 : Int32) (0 : Int32) (0 : Int32) μ18) (fun (v21 : Int32) (μ22 : zMem) => if v21 = 0 then bnd0 (f9_isWord (19 : Int32) (12 : Int32) (1 : Int32) (20 : Int32) (5 : Int32) (0 : Int32) μ22) (fun (v25 : Int32) (μ26 : zMem) => zlet (fun (s27 : Int32) => some (0, s27, μ26)) (fun j28 => if v25 = 0 then j28 (-1 : Int32) else j28 (6 : Int32))) else some (0, (5 : Int32), μ22)) else some (0, (4 : Int32), μ18)) else some (0, (3 : Int32), μ14)) else some (0, (2 : Int32), μ10)) else some (0, (1 : Int32), μ6)) else some (0, (0 : Int32), μ2))
set_option maxHeartbeats 1000000 in
theorem t9_kindHere (μ : zMem) : zMR yX9_kindHere cX9_kindHere 1 (some .int) 5 [.ref 0] 1134 SM μ (f9_kindHere μ) := by
  refine zMR_of (by decide +kernel) rfl (Nat.le_of_ble_eq_true rfl) (L := [.ref 0]) rfl ?_
  unfold f9_kindHere
  refine z_aload_n (pc := 0) dX9_kindHere_0 rfl ?_
  refine z_bipush (pc := 1) (16 : Int32) dX9_kindHere_1 (by decide) ?_
  refine z_iconst (pc := 3) (5 : Int32) dX9_kindHere_3 (by decide) ?_
  refine z_bipush (pc := 4) (18 : Int32) dX9_kindHere_4 (by decide) ?_
  refine z_bipush (pc := 6) (19 : Int32) dX9_kindHere_6 (by decide) ?_
  refine z_bipush (pc := 8) (15 : Int32) dX9_kindHere_8 (by decide) ?_
  refine z_bipush (pc := 10) (14 : Int32) dX9_kindHere_10 (by decide) ?_
  refine z_callV (As := [.int (16 : Int32), .int (5 : Int32), .int (18 : Int32), .int (19 : Int32), .int (15 : Int32), .int (14 : Int32)]) (pc := 12) (ret' := some .boolean) kvX9_152 (t9_isWord _ _ _ _ _ _ _) (by decide) (by decide) sm_0  rfl rfl (Nat.le_of_ble_eq_true rfl) dX9_kindHere_12 (fun v1 μ2 => ?_)
  refine z_if_eq (pc := 15) (tgt := 20) dX9_kindHere_15 (by decide) (fun c3 => ?_) (fun c4 => ?_)
  · refine z_aload_n (pc := 20) dX9_kindHere_20 rfl ?_
    refine z_bipush (pc := 21) (6 : Int32) dX9_kindHere_21 (by decide) ?_
    refine z_iconst (pc := 23) (5 : Int32) dX9_kindHere_23 (by decide) ?_
    refine z_bipush (pc := 24) (9 : Int32) dX9_kindHere_24 (by decide) ?_
    refine z_bipush (pc := 26) (7 : Int32) dX9_kindHere_26 (by decide) ?_
    refine z_bipush (pc := 28) (14 : Int32) dX9_kindHere_28 (by decide) ?_
    refine z_bipush (pc := 30) (19 : Int32) dX9_kindHere_30 (by decide) ?_
    refine z_callV (As := [.int (6 : Int32), .int (5 : Int32), .int (9 : Int32), .int (7 : Int32), .int (14 : Int32), .int (19 : Int32)]) (pc := 32) (ret' := some .boolean) kvX9_152 (t9_isWord _ _ _ _ _ _ _) (by decide) (by decide) sm_0  rfl rfl (Nat.le_of_ble_eq_true rfl) dX9_kindHere_32 (fun v5 μ6 => ?_)
    refine z_if_eq (pc := 35) (tgt := 40) dX9_kindHere_35 (by decide) (fun c7 => ?_) (fun c8 => ?_)
    · refine z_aload_n (pc := 40) dX9_kindHere_40 rfl ?_
      refine z_bipush (pc := 41) (11 : Int32) dX9_kindHere_41 (by decide) ?_
      refine z_bipush (pc := 43) (9 : Int32) dX9_kindHere_43 (by decide) ?_
      refine z_bipush (pc := 45) (14 : Int32) dX9_kindHere_45 (by decide) ?_
      refine z_iconst (pc := 47) (0 : Int32) dX9_kindHere_47 (by decide) ?_
      refine z_iconst (pc := 48) (0 : Int32) dX9_kindHere_48 (by decide) ?_
      refine z_iconst (pc := 49) (0 : Int32) dX9_kindHere_49 (by decide) ?_
      refine z_callV (As := [.int (11 : Int32), .int (9 : Int32), .int (14 : Int32), .int (0 : Int32), .int (0 : Int32), .int (0 : Int32)]) (pc := 50) (ret' := some .boolean) kvX9_152 (t9_isWord _ _ _ _ _ _ _) (by decide) (by decide) sm_0  rfl rfl (Nat.le_of_ble_eq_true rfl) dX9_kindHere_50 (fun v9 μ10 => ?_)
      refine z_if_eq (pc := 53) (tgt := 58) dX9_kindHere_53 (by decide) (fun c11 => ?_) (fun c12 => ?_)
      · refine z_aload_n (pc := 58) dX9_kindHere_58 rfl ?_
        refine z_iconst (pc := 59) (4 : Int32) dX9_kindHere_59 (by decide) ?_
        refine z_bipush (pc := 60) (15 : Int32) dX9_kindHere_60 (by decide) ?_
        refine z_bipush (pc := 62) (15 : Int32) dX9_kindHere_62 (by decide) ?_
        refine z_bipush (pc := 64) (18 : Int32) dX9_kindHere_64 (by decide) ?_
        refine z_iconst (pc := 66) (0 : Int32) dX9_kindHere_66 (by decide) ?_
        refine z_iconst (pc := 67) (0 : Int32) dX9_kindHere_67 (by decide) ?_
        refine z_callV (As := [.int (4 : Int32), .int (15 : Int32), .int (15 : Int32), .int (18 : Int32), .int (0 : Int32), .int (0 : Int32)]) (pc := 68) (ret' := some .boolean) kvX9_152 (t9_isWord _ _ _ _ _ _ _) (by decide) (by decide) sm_0  rfl rfl (Nat.le_of_ble_eq_true rfl) dX9_kindHere_68 (fun v13 μ14 => ?_)
        refine z_if_eq (pc := 71) (tgt := 76) dX9_kindHere_71 (by decide) (fun c15 => ?_) (fun c16 => ?_)
        · refine z_aload_n (pc := 76) dX9_kindHere_76 rfl ?_
          refine z_bipush (pc := 77) (7 : Int32) dX9_kindHere_77 (by decide) ?_
          refine z_iconst (pc := 79) (1 : Int32) dX9_kindHere_79 (by decide) ?_
          refine z_bipush (pc := 80) (16 : Int32) dX9_kindHere_80 (by decide) ?_
          refine z_iconst (pc := 82) (0 : Int32) dX9_kindHere_82 (by decide) ?_
          refine z_iconst (pc := 83) (0 : Int32) dX9_kindHere_83 (by decide) ?_
          refine z_iconst (pc := 84) (0 : Int32) dX9_kindHere_84 (by decide) ?_
          refine z_callV (As := [.int (7 : Int32), .int (1 : Int32), .int (16 : Int32), .int (0 : Int32), .int (0 : Int32), .int (0 : Int32)]) (pc := 85) (ret' := some .boolean) kvX9_152 (t9_isWord _ _ _ _ _ _ _) (by decide) (by decide) sm_0  rfl rfl (Nat.le_of_ble_eq_true rfl) dX9_kindHere_85 (fun v17 μ18 => ?_)
          refine z_if_eq (pc := 88) (tgt := 93) dX9_kindHere_88 (by decide) (fun c19 => ?_) (fun c20 => ?_)
          · refine z_aload_n (pc := 93) dX9_kindHere_93 rfl ?_
            refine z_iconst (pc := 94) (4 : Int32) dX9_kindHere_94 (by decide) ?_
            refine z_iconst (pc := 95) (1 : Int32) dX9_kindHere_95 (by decide) ?_
            refine z_bipush (pc := 96) (25 : Int32) dX9_kindHere_96 (by decide) ?_
            refine z_iconst (pc := 98) (0 : Int32) dX9_kindHere_98 (by decide) ?_
            refine z_iconst (pc := 99) (0 : Int32) dX9_kindHere_99 (by decide) ?_
            refine z_iconst (pc := 100) (0 : Int32) dX9_kindHere_100 (by decide) ?_
            refine z_callV (As := [.int (4 : Int32), .int (1 : Int32), .int (25 : Int32), .int (0 : Int32), .int (0 : Int32), .int (0 : Int32)]) (pc := 101) (ret' := some .boolean) kvX9_152 (t9_isWord _ _ _ _ _ _ _) (by decide) (by decide) sm_0  rfl rfl (Nat.le_of_ble_eq_true rfl) dX9_kindHere_101 (fun v21 μ22 => ?_)
            refine z_if_eq (pc := 104) (tgt := 109) dX9_kindHere_104 (by decide) (fun c23 => ?_) (fun c24 => ?_)
            · refine z_aload_n (pc := 109) dX9_kindHere_109 rfl ?_
              refine z_bipush (pc := 110) (19 : Int32) dX9_kindHere_110 (by decide) ?_
              refine z_bipush (pc := 112) (12 : Int32) dX9_kindHere_112 (by decide) ?_
              refine z_iconst (pc := 114) (1 : Int32) dX9_kindHere_114 (by decide) ?_
              refine z_bipush (pc := 115) (20 : Int32) dX9_kindHere_115 (by decide) ?_
              refine z_iconst (pc := 117) (5 : Int32) dX9_kindHere_117 (by decide) ?_
              refine z_iconst (pc := 118) (0 : Int32) dX9_kindHere_118 (by decide) ?_
              refine z_callV (As := [.int (19 : Int32), .int (12 : Int32), .int (1 : Int32), .int (20 : Int32), .int (5 : Int32), .int (0 : Int32)]) (pc := 119) (ret' := some .boolean) kvX9_152 (t9_isWord _ _ _ _ _ _ _) (by decide) (by decide) sm_0  rfl rfl (Nat.le_of_ble_eq_true rfl) dX9_kindHere_119 (fun v25 μ26 => ?_)
              refine z_let (fun (j : Int32 → zRes) => ∀ (s27 : Int32), zR yX9_kindHere cX9_kindHere 1 (some .int) 5 131 [.null] [.int s27] 1134 SM μ26 (j s27)) ?_ (fun j28 hj28 => ?_)
              · intro s27
                exact z_iret (pc := 131) rfl dX9_kindHere_131
              · refine z_if_eq (pc := 122) (tgt := 130) dX9_kindHere_122 (by decide) (fun c29 => ?_) (fun c30 => ?_)
                · refine z_iconst (pc := 130) (-1 : Int32) dX9_kindHere_130 (by decide) ?_
                  refine z_loc (L' := [.null]) ⟨Or.inl rfl, trivial⟩ ?_
                  exact hj28 (-1 : Int32)
                · refine z_bipush (pc := 125) (6 : Int32) dX9_kindHere_125 (by decide) ?_
                  refine z_goto (pc := 127) (tgt := 131) dX9_kindHere_127 (by decide) ?_
                  refine z_loc (L' := [.null]) ⟨Or.inl rfl, trivial⟩ ?_
                  exact hj28 (6 : Int32)
            · refine z_iconst (pc := 107) (5 : Int32) dX9_kindHere_107 (by decide) ?_
              exact z_iret (pc := 108) rfl dX9_kindHere_108
          · refine z_iconst (pc := 91) (4 : Int32) dX9_kindHere_91 (by decide) ?_
            exact z_iret (pc := 92) rfl dX9_kindHere_92
        · refine z_iconst (pc := 74) (3 : Int32) dX9_kindHere_74 (by decide) ?_
          exact z_iret (pc := 75) rfl dX9_kindHere_75
      · refine z_iconst (pc := 56) (2 : Int32) dX9_kindHere_56 (by decide) ?_
        exact z_iret (pc := 57) rfl dX9_kindHere_57
    · refine z_iconst (pc := 38) (1 : Int32) dX9_kindHere_38 (by decide) ?_
      exact z_iret (pc := 39) rfl dX9_kindHere_39
  · refine z_iconst (pc := 18) (0 : Int32) dX9_kindHere_18 (by decide) ?_
    exact z_iret (pc := 19) rfl dX9_kindHere_19
def f9_digits_L48 (x1 : Int32) (K123 : Int32 → Int32 → zMem → zRes) : Nat → Int32 → Int32 → zMem → zRes
  | 0, _, _, _ => none
  | n + 1, x5, x6, μ => bnd0 (f9_byteAt (μ 0 4) μ) (fun (v11 : Int32) (μ12 : zMem) => bnd0 (f9_isDigit v11 μ12) (fun (v13 : Int32) (μ14 : zMem) => if v13 = 0 then K123 x5 x6 μ14 else zlet (fun (s17 : Int32) (μ18 : zMem) => bnd0 (f9_byteAt (μ18 0 4) μ18) (fun (v19 : Int32) (μ20 : zMem) => zin x5 600 (zlet (zset μ20 2 x5.toNatClampNeg (v19 - (48 : Int32))) (fun (μ22 : zMem) => zlet (zset μ22 0 4 ((μ22 0 4) + (1 : Int32))) (fun (μ23 : zMem) => f9_digits_L48 x1 K123 n (x5 + (1 : Int32)) s17 μ23))))) (fun j24 => zlet (fun (μ25 : zMem) => j24 (0 : Int32) μ25) (fun j26 => if x6 = 0 then j26 μ14 else bnd0 (f9_byteAt (μ14 0 4) μ14) (fun (v29 : Int32) (μ30 : zMem) => if x1 < (v29 - (48 : Int32)) then j26 μ30 else j24 (1 : Int32) μ30)))))
def f9_digits (x1 : Int32) (x2 : Int32) (x3 : Int32) (μ : zMem) : zRes := if (μ 0 5) = 0 then bnd0 (f9_blanks μ) (fun (v3 : Int32) (μ4 : zMem) => zlet (μ4 0 4) (fun (v5 : Int32) => bnd0 (f9_byteAt (μ4 0 4) μ4) (fun (v6 : Int32) (μ7 : zMem) => bnd0 (f9_isDigit v6 μ7) (fun (v8 : Int32) (μ9 : zMem) => zlet (fun (μ10 : zMem) => f9_digits_L48 x1 (fun (x5_33 : Int32) (x6_34 : Int32) (μ35 : zMem) => zlet (fun (μ36 : zMem) => some (0, x5_33, μ36)) (fun j37 => zlet (fun (μ38 : zMem) => bnd0 (f9_wrong (2 : Int32) v5 μ38) (fun (v39 : Int32) (μ40 : zMem) => j37 μ40)) (fun j41 => if x6_34 = 0 then j41 μ35 else bnd0 (f9_in x5_33 x2 x3 μ35) (fun (v44 : Int32) (μ45 : zMem) => if v44 = 0 then j41 μ45 else j37 μ45)))) zF (0 : Int32) (1 : Int32) μ10) (fun j48 => if v8 = 0 then bnd0 (f9_wrong (1 : Int32) (μ9 0 4) μ9) (fun (v51 : Int32) (μ52 : zMem) => j48 μ52) else j48 μ9))))) else some (0, (0 : Int32), μ)
set_option maxHeartbeats 1000000 in
theorem t9_digits_L48 (x1 : Int32) (x2 : Int32) (x3 : Int32) (x4 : Int32) (K123 : Int32 → Int32 → zMem → zRes) (hK123 : ∀ (x5 : Int32) (x6 : Int32) (μ : zMem), zR yX9_digits cX9_digits 7 (some .int) 3 123 [.ref 0, .null, .int x2, .int x3, .int x4, .int x5, .int x6] [] 1134 SM μ (K123 x5 x6 μ)) : ∀ (n : Nat) (x5 : Int32) (x6 : Int32) (μ : zMem), zR yX9_digits cX9_digits 7 (some .int) 3 48 [.ref 0, .int x1, .int x2, .int x3, .int x4, .int x5, .int x6] [] 1134 SM μ (f9_digits_L48 x1 K123 n x5 x6 μ) := by
  intro n
  induction n with
  | zero => intro x5 x6 μ; intro q hq; cases hq
  | succ n ih =>
    intro x5 x6 μ
    unfold f9_digits_L48
    refine z_aload_n (pc := 48) dX9_digits_48 rfl ?_
    refine z_aload_n (pc := 49) dX9_digits_49 rfl ?_
    refine z_geti (pc := 50) fdX9_115 (by decide) sm_0 rfl dX9_digits_50 ?_
    refine z_callV (As := [.int (μ 0 4)]) (pc := 53) (ret' := some .int) kvX9_118 (t9_byteAt _ _) (by decide) (by decide) sm_0  rfl rfl (Nat.le_of_ble_eq_true rfl) dX9_digits_53 (fun v11 μ12 => ?_)
    refine z_callS (As := [.int v11]) (pc := 56) (ret' := some .boolean) ksX9_131 (t9_isDigit _ _) (by decide)  rfl rfl (Nat.le_of_ble_eq_true rfl) dX9_digits_56 (fun v13 μ14 => ?_)
    refine z_if_eq (pc := 59) (tgt := 123) dX9_digits_59 (by decide) (fun c15 => ?_) (fun c16 => ?_)
    · refine z_loc (L' := [.ref 0, .null, .int x2, .int x3, .int x4, .int x5, .int x6]) ⟨Or.inr rfl, ⟨Or.inl rfl, ⟨Or.inr rfl, ⟨Or.inr rfl, ⟨Or.inr rfl, ⟨Or.inr rfl, ⟨Or.inr rfl, trivial⟩⟩⟩⟩⟩⟩⟩ ?_
      exact hK123 x5 x6 μ14
    · refine z_iload (pc := 62) dX9_digits_62 rfl ?_
      refine z_let (fun (j : Int32 → zMem → zRes) => ∀ (s17 : Int32) (μ18 : zMem), zR yX9_digits cX9_digits 7 (some .int) 3 87 [.ref 0, .int x1, .int x2, .int x3, .int x4, .int x5, .null] [.int s17] 1134 SM μ18 (j s17 μ18)) ?_ (fun j24 hj24 => ?_)
      · intro s17 μ18
        refine z_istore (pc := 87) (L' := [.ref 0, .int x1, .int x2, .int x3, .int x4, .int x5, .int s17]) dX9_digits_87 (by decide) rfl ?_
        refine z_aload_n (pc := 89) dX9_digits_89 rfl ?_
        refine z_getr (pc := 90) fdX9_17 (by decide) sm_0 rfl rfl dX9_digits_90 ?_
        refine z_iload (pc := 93) dX9_digits_93 rfl ?_
        refine z_aload_n (pc := 95) dX9_digits_95 rfl ?_
        refine z_aload_n (pc := 96) dX9_digits_96 rfl ?_
        refine z_geti (pc := 97) fdX9_115 (by decide) sm_0 rfl dX9_digits_97 ?_
        refine z_callV (As := [.int (μ18 0 4)]) (pc := 100) (ret' := some .int) kvX9_118 (t9_byteAt _ _) (by decide) (by decide) sm_0  rfl rfl (Nat.le_of_ble_eq_true rfl) dX9_digits_100 (fun v19 μ20 => ?_)
        refine z_bipush (pc := 103) (48 : Int32) dX9_digits_103 (by decide) ?_
        refine z_isub (pc := 105) dX9_digits_105 ?_
        refine z_iast (pc := 106) (by decide) sm_2 rfl dX9_digits_106 (fun h21 => ?_)
        refine z_mem (fun μ22 => ?_)
        refine z_iinc (pc := 107) (v := x5 + (1 : Int32)) (L' := [.ref 0, .int x1, .int x2, .int x3, .int x4, .int (x5 + (1 : Int32)), .int s17]) dX9_digits_107 (by decide) rfl (congrArg _ (by decide)) rfl ?_
        refine z_aload_n (pc := 110) dX9_digits_110 rfl ?_
        refine z_dup (pc := 111) dX9_digits_111 rfl ?_
        refine z_geti (pc := 112) fdX9_115 (by decide) sm_0 rfl dX9_digits_112 ?_
        refine z_iconst (pc := 115) (1 : Int32) dX9_digits_115 (by decide) ?_
        refine z_iadd (pc := 116) dX9_digits_116 ?_
        refine z_puti (pc := 117) fdX9_115 (by decide) sm_0 rfl rfl dX9_digits_117 ?_
        refine z_mem (fun μ23 => ?_)
        refine z_goto (pc := 120) (tgt := 48) dX9_digits_120 (by decide) ?_
        exact ih (x5 + (1 : Int32)) s17 μ23
      · refine z_let (fun (j : zMem → zRes) => ∀ (μ25 : zMem), zR yX9_digits cX9_digits 7 (some .int) 3 86 [.ref 0, .int x1, .int x2, .int x3, .int x4, .int x5, .null] [] 1134 SM μ25 (j μ25)) ?_ (fun j26 hj26 => ?_)
        · intro μ25
          refine z_iconst (pc := 86) (0 : Int32) dX9_digits_86 (by decide) ?_
          exact hj24 (0 : Int32) μ25
        · refine z_if_eq (pc := 64) (tgt := 86) dX9_digits_64 (by decide) (fun c27 => ?_) (fun c28 => ?_)
          · refine z_loc (L' := [.ref 0, .int x1, .int x2, .int x3, .int x4, .int x5, .null]) ⟨Or.inr rfl, ⟨Or.inr rfl, ⟨Or.inr rfl, ⟨Or.inr rfl, ⟨Or.inr rfl, ⟨Or.inr rfl, ⟨Or.inl rfl, trivial⟩⟩⟩⟩⟩⟩⟩ ?_
            exact hj26 μ14
          · refine z_aload_n (pc := 67) dX9_digits_67 rfl ?_
            refine z_aload_n (pc := 68) dX9_digits_68 rfl ?_
            refine z_geti (pc := 69) fdX9_115 (by decide) sm_0 rfl dX9_digits_69 ?_
            refine z_callV (As := [.int (μ14 0 4)]) (pc := 72) (ret' := some .int) kvX9_118 (t9_byteAt _ _) (by decide) (by decide) sm_0  rfl rfl (Nat.le_of_ble_eq_true rfl) dX9_digits_72 (fun v29 μ30 => ?_)
            refine z_bipush (pc := 75) (48 : Int32) dX9_digits_75 (by decide) ?_
            refine z_isub (pc := 77) dX9_digits_77 ?_
            refine z_iload_n (pc := 78) dX9_digits_78 rfl ?_
            refine z_icmp_gt (pc := 79) (tgt := 86) dX9_digits_79 (by decide) (fun c31 => ?_) (fun c32 => ?_)
            · refine z_loc (L' := [.ref 0, .int x1, .int x2, .int x3, .int x4, .int x5, .null]) ⟨Or.inr rfl, ⟨Or.inr rfl, ⟨Or.inr rfl, ⟨Or.inr rfl, ⟨Or.inr rfl, ⟨Or.inr rfl, ⟨Or.inl rfl, trivial⟩⟩⟩⟩⟩⟩⟩ ?_
              exact hj26 μ30
            · refine z_iconst (pc := 82) (1 : Int32) dX9_digits_82 (by decide) ?_
              refine z_goto (pc := 83) (tgt := 87) dX9_digits_83 (by decide) ?_
              refine z_loc (L' := [.ref 0, .int x1, .int x2, .int x3, .int x4, .int x5, .null]) ⟨Or.inr rfl, ⟨Or.inr rfl, ⟨Or.inr rfl, ⟨Or.inr rfl, ⟨Or.inr rfl, ⟨Or.inr rfl, ⟨Or.inl rfl, trivial⟩⟩⟩⟩⟩⟩⟩ ?_
              exact hj24 (1 : Int32) μ30
set_option maxHeartbeats 1000000 in
theorem t9_digits (x1 : Int32) (x2 : Int32) (x3 : Int32) (μ : zMem) : zMR yX9_digits cX9_digits 7 (some .int) 3 [.ref 0, .int x1, .int x2, .int x3] 1134 SM μ (f9_digits x1 x2 x3 μ) := by
  refine zMR_of (by decide +kernel) rfl (Nat.le_of_ble_eq_true rfl) (L := [.ref 0, .int x1, .int x2, .int x3, .null, .null, .null]) rfl ?_
  unfold f9_digits
  refine z_aload_n (pc := 0) dX9_digits_0 rfl ?_
  refine z_geti (pc := 1) fdX9_122 (by decide) sm_0 rfl dX9_digits_1 ?_
  refine z_if_eq (pc := 4) (tgt := 9) dX9_digits_4 (by decide) (fun c1 => ?_) (fun c2 => ?_)
  · refine z_aload_n (pc := 9) dX9_digits_9 rfl ?_
    refine z_callV (As := []) (pc := 10) (ret' := none) kvX9_128 (t9_blanks _) (by decide) (by decide) sm_0  rfl rfl (Nat.le_of_ble_eq_true rfl) dX9_digits_10 (fun v3 μ4 => ?_)
    refine z_aload_n (pc := 13) dX9_digits_13 rfl ?_
    refine z_geti (pc := 14) fdX9_115 (by decide) sm_0 rfl dX9_digits_14 ?_
    refine z_val (fun v5 => ?_)
    refine z_istore (pc := 17) (L' := [.ref 0, .int x1, .int x2, .int x3, .int v5, .null, .null]) dX9_digits_17 (by decide) rfl ?_
    refine z_iconst (pc := 19) (0 : Int32) dX9_digits_19 (by decide) ?_
    refine z_istore (pc := 20) (L' := [.ref 0, .int x1, .int x2, .int x3, .int v5, .int (0 : Int32), .null]) dX9_digits_20 (by decide) rfl ?_
    refine z_iconst (pc := 22) (1 : Int32) dX9_digits_22 (by decide) ?_
    refine z_istore (pc := 23) (L' := [.ref 0, .int x1, .int x2, .int x3, .int v5, .int (0 : Int32), .int (1 : Int32)]) dX9_digits_23 (by decide) rfl ?_
    refine z_aload_n (pc := 25) dX9_digits_25 rfl ?_
    refine z_aload_n (pc := 26) dX9_digits_26 rfl ?_
    refine z_geti (pc := 27) fdX9_115 (by decide) sm_0 rfl dX9_digits_27 ?_
    refine z_callV (As := [.int (μ4 0 4)]) (pc := 30) (ret' := some .int) kvX9_118 (t9_byteAt _ _) (by decide) (by decide) sm_0  rfl rfl (Nat.le_of_ble_eq_true rfl) dX9_digits_30 (fun v6 μ7 => ?_)
    refine z_callS (As := [.int v6]) (pc := 33) (ret' := some .boolean) ksX9_131 (t9_isDigit _ _) (by decide)  rfl rfl (Nat.le_of_ble_eq_true rfl) dX9_digits_33 (fun v8 μ9 => ?_)
    refine z_let (fun (j : zMem → zRes) => ∀ (μ10 : zMem), zR yX9_digits cX9_digits 7 (some .int) 3 48 [.ref 0, .int x1, .int x2, .int x3, .int v5, .int (0 : Int32), .int (1 : Int32)] [] 1134 SM μ10 (j μ10)) ?_ (fun j48 hj48 => ?_)
    · intro μ10
      refine t9_digits_L48 _ _ _ _ _ (fun x5_33 x6_34 μ35 => ?_) zF _ _ _
      · refine z_iload (pc := 123) dX9_digits_123 rfl ?_
        refine z_let (fun (j : zMem → zRes) => ∀ (μ36 : zMem), zR yX9_digits cX9_digits 7 (some .int) 3 145 [.null, .null, .null, .null, .null, .int x5_33, .null] [] 1134 SM μ36 (j μ36)) ?_ (fun j37 hj37 => ?_)
        · intro μ36
          refine z_iload (pc := 145) dX9_digits_145 rfl ?_
          exact z_iret (pc := 147) rfl dX9_digits_147
        · refine z_let (fun (j : zMem → zRes) => ∀ (μ38 : zMem), zR yX9_digits cX9_digits 7 (some .int) 3 138 [.ref 0, .null, .null, .null, .int v5, .int x5_33, .null] [] 1134 SM μ38 (j μ38)) ?_ (fun j41 hj41 => ?_)
          · intro μ38
            refine z_aload_n (pc := 138) dX9_digits_138 rfl ?_
            refine z_iconst (pc := 139) (2 : Int32) dX9_digits_139 (by decide) ?_
            refine z_iload (pc := 140) dX9_digits_140 rfl ?_
            refine z_callV (As := [.int (2 : Int32), .int v5]) (pc := 142) (ret' := none) kvX9_135 (t9_wrong _ _ _) (by decide) (by decide) sm_0  rfl rfl (Nat.le_of_ble_eq_true rfl) dX9_digits_142 (fun v39 μ40 => ?_)
            refine z_loc (L' := [.null, .null, .null, .null, .null, .int x5_33, .null]) ⟨Or.inl rfl, ⟨Or.inl rfl, ⟨Or.inl rfl, ⟨Or.inl rfl, ⟨Or.inl rfl, ⟨Or.inr rfl, ⟨Or.inl rfl, trivial⟩⟩⟩⟩⟩⟩⟩ ?_
            exact hj37 μ40
          · refine z_if_eq (pc := 125) (tgt := 138) dX9_digits_125 (by decide) (fun c42 => ?_) (fun c43 => ?_)
            · refine z_loc (L' := [.ref 0, .null, .null, .null, .int v5, .int x5_33, .null]) ⟨Or.inr rfl, ⟨Or.inl rfl, ⟨Or.inl rfl, ⟨Or.inl rfl, ⟨Or.inr rfl, ⟨Or.inr rfl, ⟨Or.inl rfl, trivial⟩⟩⟩⟩⟩⟩⟩ ?_
              exact hj41 μ35
            · refine z_iload (pc := 128) dX9_digits_128 rfl ?_
              refine z_iload_n (pc := 130) dX9_digits_130 rfl ?_
              refine z_iload_n (pc := 131) dX9_digits_131 rfl ?_
              refine z_callS (As := [.int x5_33, .int x2, .int x3]) (pc := 132) (ret' := some .boolean) ksX9_140 (t9_in _ _ _ _) (by decide)  rfl rfl (Nat.le_of_ble_eq_true rfl) dX9_digits_132 (fun v44 μ45 => ?_)
              refine z_if_ne (pc := 135) (tgt := 145) dX9_digits_135 (by decide) (fun c46 => ?_) (fun c47 => ?_)
              · refine z_loc (L' := [.null, .null, .null, .null, .null, .int x5_33, .null]) ⟨Or.inl rfl, ⟨Or.inl rfl, ⟨Or.inl rfl, ⟨Or.inl rfl, ⟨Or.inl rfl, ⟨Or.inr rfl, ⟨Or.inl rfl, trivial⟩⟩⟩⟩⟩⟩⟩ ?_
                exact hj37 μ45
              · refine z_loc (L' := [.ref 0, .null, .null, .null, .int v5, .int x5_33, .null]) ⟨Or.inr rfl, ⟨Or.inl rfl, ⟨Or.inl rfl, ⟨Or.inl rfl, ⟨Or.inr rfl, ⟨Or.inr rfl, ⟨Or.inl rfl, trivial⟩⟩⟩⟩⟩⟩⟩ ?_
                exact hj41 μ45
    · refine z_if_ne (pc := 36) (tgt := 48) dX9_digits_36 (by decide) (fun c49 => ?_) (fun c50 => ?_)
      · exact hj48 μ9
      · refine z_aload_n (pc := 39) dX9_digits_39 rfl ?_
        refine z_iconst (pc := 40) (1 : Int32) dX9_digits_40 (by decide) ?_
        refine z_aload_n (pc := 41) dX9_digits_41 rfl ?_
        refine z_geti (pc := 42) fdX9_115 (by decide) sm_0 rfl dX9_digits_42 ?_
        refine z_callV (As := [.int (1 : Int32), .int (μ9 0 4)]) (pc := 45) (ret' := none) kvX9_135 (t9_wrong _ _ _) (by decide) (by decide) sm_0  rfl rfl (Nat.le_of_ble_eq_true rfl) dX9_digits_45 (fun v51 μ52 => ?_)
        exact hj48 μ52
  · refine z_iconst (pc := 7) (0 : Int32) dX9_digits_7 (by decide) ?_
    exact z_iret (pc := 8) rfl dX9_digits_8
def f9_readsPerson_L33 (r1 : Nat) (K65 : zMem → zRes) : Nat → Int32 → zMem → zRes
  | 0, _, _ => none
  | n + 1, x2, μ => zin (0 : Int32) 6 (if (μ 3 (0 : Int32).toNatClampNeg) ≤ x2 then K65 μ else if (μ 0 5) = 0 then zin x2 600 (zin x2 6 (zlet (zset μ r1 x2.toNatClampNeg (μ 2 x2.toNatClampNeg)) (fun (μ25 : zMem) => f9_readsPerson_L33 r1 K65 n (x2 + (1 : Int32)) μ25))) else K65 μ)
def f9_readsPerson (μ : zMem) : zRes := zin (1 : Int32) 6 (zin (μ 3 (1 : Int32).toNatClampNeg) 8 (zin (0 : Int32) 6 (zin (0 : Int32) 6 (bnd0 (f9_digits (8 : Int32) (μ 3 (0 : Int32).toNatClampNeg) (μ 3 (0 : Int32).toNatClampNeg) μ) (fun (v5 : Int32) (μ6 : zMem) => zlet (fun (μ7 : zMem) => bnd0 (f9_number (0 : Int32) (4 : Int32) (-1 : Int32) μ7) (fun (v8 : Int32) (μ9 : zMem) => zin (4 : Int32) 6 (zlet (zset μ9 (6 + (μ 3 (1 : Int32).toNatClampNeg).toNatClampNeg) (4 : Int32).toNatClampNeg v8) (fun (μ11 : zMem) => zin (5 : Int32) 6 (zlet (zset μ11 (6 + (μ 3 (1 : Int32).toNatClampNeg).toNatClampNeg) (5 : Int32).toNatClampNeg (0 : Int32)) (fun (μ13 : zMem) => zin (1 : Int32) 6 (zin (1 : Int32) 6 (zlet (zset μ13 3 (1 : Int32).toNatClampNeg ((μ13 3 (1 : Int32).toNatClampNeg) + (1 : Int32))) (fun (μ16 : zMem) => some (0, 0, μ16)))))))))) (fun j17 => f9_readsPerson_L33 (6 + (μ 3 (1 : Int32).toNatClampNeg).toNatClampNeg) (fun (μ26 : zMem) => j17 μ26) zF (0 : Int32) μ6))))))
set_option maxHeartbeats 1000000 in
theorem t9_readsPerson_L33 (r1 : Nat) (hr1 : SM r1 = (1, 0, 6, zn) ∧ r1 < 1134) (K65 : zMem → zRes) (hK65 : ∀ (μ : zMem), zR yX9_readsPerson cX9_readsPerson 3 (none) 4 65 [.ref 0, .ref r1, .null] [] 1134 SM μ (K65 μ)) : ∀ (n : Nat) (x2 : Int32) (μ : zMem), zR yX9_readsPerson cX9_readsPerson 3 (none) 4 33 [.ref 0, .ref r1, .int x2] [] 1134 SM μ (f9_readsPerson_L33 r1 K65 n x2 μ) := by
  intro n
  induction n with
  | zero => intro x2 μ; intro q hq; cases hq
  | succ n ih =>
    intro x2 μ
    unfold f9_readsPerson_L33
    refine z_iload_n (pc := 33) dX9_readsPerson_33 rfl ?_
    refine z_aload_n (pc := 34) dX9_readsPerson_34 rfl ?_
    refine z_getr (pc := 35) fdX9_20 (by decide) sm_0 rfl rfl dX9_readsPerson_35 ?_
    refine z_iconst (pc := 38) (0 : Int32) dX9_readsPerson_38 (by decide) ?_
    refine z_iald (pc := 39) (by decide) sm_3 rfl dX9_readsPerson_39 (fun h18 => ?_)
    refine z_icmp_ge (pc := 40) (tgt := 65) dX9_readsPerson_40 (by decide) (fun c19 => ?_) (fun c20 => ?_)
    · refine z_loc (L' := [.ref 0, .ref r1, .null]) ⟨Or.inr rfl, ⟨Or.inr rfl, ⟨Or.inl rfl, trivial⟩⟩⟩ ?_
      exact hK65 μ
    · refine z_aload_n (pc := 43) dX9_readsPerson_43 rfl ?_
      refine z_geti (pc := 44) fdX9_122 (by decide) sm_0 rfl dX9_readsPerson_44 ?_
      refine z_if_ne (pc := 47) (tgt := 65) dX9_readsPerson_47 (by decide) (fun c21 => ?_) (fun c22 => ?_)
      · refine z_loc (L' := [.ref 0, .ref r1, .null]) ⟨Or.inr rfl, ⟨Or.inr rfl, ⟨Or.inl rfl, trivial⟩⟩⟩ ?_
        exact hK65 μ
      · refine z_aload_n (pc := 50) dX9_readsPerson_50 rfl ?_
        refine z_iload_n (pc := 51) dX9_readsPerson_51 rfl ?_
        refine z_aload_n (pc := 52) dX9_readsPerson_52 rfl ?_
        refine z_getr (pc := 53) fdX9_17 (by decide) sm_0 rfl rfl dX9_readsPerson_53 ?_
        refine z_iload_n (pc := 56) dX9_readsPerson_56 rfl ?_
        refine z_iald (pc := 57) (by decide) sm_2 rfl dX9_readsPerson_57 (fun h23 => ?_)
        refine z_iast (pc := 58) hr1.2 hr1.1 rfl dX9_readsPerson_58 (fun h24 => ?_)
        refine z_mem (fun μ25 => ?_)
        refine z_iinc (pc := 59) (v := x2 + (1 : Int32)) (L' := [.ref 0, .ref r1, .int (x2 + (1 : Int32))]) dX9_readsPerson_59 (by decide) rfl (congrArg _ (by decide)) rfl ?_
        refine z_goto (pc := 62) (tgt := 33) dX9_readsPerson_62 (by decide) ?_
        exact ih (x2 + (1 : Int32)) μ25
set_option maxHeartbeats 1000000 in
theorem t9_readsPerson (μ : zMem) : zMR yX9_readsPerson cX9_readsPerson 3 (none) 4 [.ref 0] 1134 SM μ (f9_readsPerson μ) := by
  refine zMR_of (by decide +kernel) rfl (Nat.le_of_ble_eq_true rfl) (L := [.ref 0, .null, .null]) rfl ?_
  unfold f9_readsPerson
  refine z_aload_n (pc := 0) dX9_readsPerson_0 rfl ?_
  refine z_getr (pc := 1) fdX9_28 (by decide) sm_0 rfl rfl dX9_readsPerson_1 ?_
  refine z_aload_n (pc := 4) dX9_readsPerson_4 rfl ?_
  refine z_getr (pc := 5) fdX9_20 (by decide) sm_0 rfl rfl dX9_readsPerson_5 ?_
  refine z_iconst (pc := 8) (1 : Int32) dX9_readsPerson_8 (by decide) ?_
  refine z_iald (pc := 9) (by decide) sm_3 rfl dX9_readsPerson_9 (fun h1 => ?_)
  refine z_aald (pc := 10) (fun j => 6 + j) (by decide) sm_5 (Or.inl rfl) smg_5 dX9_readsPerson_10 (fun h2 => ?_)
  refine z_astore_n (pc := 11) (L' := [.ref 0, .ref (6 + (μ 3 (1 : Int32).toNatClampNeg).toNatClampNeg), .null]) dX9_readsPerson_11 (by decide) rfl ?_
  refine z_aload_n (pc := 12) dX9_readsPerson_12 rfl ?_
  refine z_bipush (pc := 13) (8 : Int32) dX9_readsPerson_13 (by decide) ?_
  refine z_aload_n (pc := 15) dX9_readsPerson_15 rfl ?_
  refine z_getr (pc := 16) fdX9_20 (by decide) sm_0 rfl rfl dX9_readsPerson_16 ?_
  refine z_iconst (pc := 19) (0 : Int32) dX9_readsPerson_19 (by decide) ?_
  refine z_iald (pc := 20) (by decide) sm_3 rfl dX9_readsPerson_20 (fun h3 => ?_)
  refine z_aload_n (pc := 21) dX9_readsPerson_21 rfl ?_
  refine z_getr (pc := 22) fdX9_20 (by decide) sm_0 rfl rfl dX9_readsPerson_22 ?_
  refine z_iconst (pc := 25) (0 : Int32) dX9_readsPerson_25 (by decide) ?_
  refine z_iald (pc := 26) (by decide) sm_3 rfl dX9_readsPerson_26 (fun h4 => ?_)
  refine z_callV (As := [.int (8 : Int32), .int (μ 3 (0 : Int32).toNatClampNeg), .int (μ 3 (0 : Int32).toNatClampNeg)]) (pc := 27) (ret' := some .int) kvX9_185 (t9_digits _ _ _ _) (by decide) (by decide) sm_0  rfl rfl (Nat.le_of_ble_eq_true rfl) dX9_readsPerson_27 (fun v5 μ6 => ?_)
  refine z_pop (pc := 30) dX9_readsPerson_30 rfl ?_
  refine z_iconst (pc := 31) (0 : Int32) dX9_readsPerson_31 (by decide) ?_
  refine z_istore_n (pc := 32) (L' := [.ref 0, .ref (6 + (μ 3 (1 : Int32).toNatClampNeg).toNatClampNeg), .int (0 : Int32)]) dX9_readsPerson_32 (by decide) rfl ?_
  refine z_let (fun (j : zMem → zRes) => ∀ (μ7 : zMem), zR yX9_readsPerson cX9_readsPerson 3 (none) 4 65 [.ref 0, .ref (6 + (μ 3 (1 : Int32).toNatClampNeg).toNatClampNeg), .null] [] 1134 SM μ7 (j μ7)) ?_ (fun j17 hj17 => ?_)
  · intro μ7
    refine z_aload_n (pc := 65) dX9_readsPerson_65 rfl ?_
    refine z_iconst (pc := 66) (4 : Int32) dX9_readsPerson_66 (by decide) ?_
    refine z_aload_n (pc := 67) dX9_readsPerson_67 rfl ?_
    refine z_iconst (pc := 68) (0 : Int32) dX9_readsPerson_68 (by decide) ?_
    refine z_iconst (pc := 69) (4 : Int32) dX9_readsPerson_69 (by decide) ?_
    refine z_iconst (pc := 70) (-1 : Int32) dX9_readsPerson_70 (by decide) ?_
    refine z_callV (As := [.int (0 : Int32), .int (4 : Int32), .int (-1 : Int32)]) (pc := 71) (ret' := some .int) kvX9_159 (t9_number _ _ _ _) (by decide) (by decide) sm_0  rfl rfl (Nat.le_of_ble_eq_true rfl) dX9_readsPerson_71 (fun v8 μ9 => ?_)
    refine z_iast (pc := 74) (smr_5 h2).2 (smr_5 h2).1 rfl dX9_readsPerson_74 (fun h10 => ?_)
    refine z_mem (fun μ11 => ?_)
    refine z_aload_n (pc := 75) dX9_readsPerson_75 rfl ?_
    refine z_iconst (pc := 76) (5 : Int32) dX9_readsPerson_76 (by decide) ?_
    refine z_iconst (pc := 77) (0 : Int32) dX9_readsPerson_77 (by decide) ?_
    refine z_iast (pc := 78) (smr_5 h2).2 (smr_5 h2).1 rfl dX9_readsPerson_78 (fun h12 => ?_)
    refine z_mem (fun μ13 => ?_)
    refine z_aload_n (pc := 79) dX9_readsPerson_79 rfl ?_
    refine z_getr (pc := 80) fdX9_20 (by decide) sm_0 rfl rfl dX9_readsPerson_80 ?_
    refine z_iconst (pc := 83) (1 : Int32) dX9_readsPerson_83 (by decide) ?_
    refine z_dup2 (pc := 84) dX9_readsPerson_84 rfl rfl ?_
    refine z_iald (pc := 85) (by decide) sm_3 rfl dX9_readsPerson_85 (fun h14 => ?_)
    refine z_iconst (pc := 86) (1 : Int32) dX9_readsPerson_86 (by decide) ?_
    refine z_iadd (pc := 87) dX9_readsPerson_87 ?_
    refine z_iast (pc := 88) (by decide) sm_3 rfl dX9_readsPerson_88 (fun h15 => ?_)
    refine z_mem (fun μ16 => ?_)
    exact z_vret (pc := 89) rfl dX9_readsPerson_89
  · refine t9_readsPerson_L33 _ (smr_5 h2) _ (fun μ26 => ?_) zF _ _
    · exact hj17 μ26
def f9_readsOf (x1 : Int32) (μ : zMem) : zRes := zin (1 : Int32) 6 (bnd0 (f9_number (0 : Int32) ((μ 3 (1 : Int32).toNatClampNeg) - (1 : Int32)) (-1 : Int32) μ) (fun (v2 : Int32) (μ3 : zMem) => zlet (fun (s4 : Int32) (μ5 : zMem) => if (μ5 0 5) = 0 then zlet (fun (μ8 : zMem) => zlet (fun (μ9 : zMem) => zlet (fun (μ10 : zMem) => some (0, 0, μ10)) (fun j11 => if x1 = (2 : Int32) then zin s4 8 (zin s4 8 (zlet (zset μ9 48 s4.toNatClampNeg ((μ9 48 s4.toNatClampNeg) ||| (zshl (1 : Int32) v2))) (fun (μ16 : zMem) => j11 μ16))) else j11 μ9)) (fun j17 => if x1 = (2 : Int32) then zin v2 8 (zin v2 8 (zlet (zset μ8 48 v2.toNatClampNeg ((μ8 48 v2.toNatClampNeg) ||| (zshl (1 : Int32) s4))) (fun (μ22 : zMem) => j17 μ22))) else j17 μ8)) (fun j23 => if x1 = (1 : Int32) then zin v2 8 (zin (5 : Int32) 6 (zlet (zset μ5 (6 + v2.toNatClampNeg) (5 : Int32).toNatClampNeg s4) (fun (μ28 : zMem) => j23 μ28))) else j23 μ5) else some (0, 0, μ5)) (fun j29 => if x1 = (1 : Int32) then bnd0 (f9_number (0 : Int32) (9 : Int32) (-1 : Int32) μ3) (fun (v35 : Int32) (μ36 : zMem) => j29 v35 μ36) else zin (1 : Int32) 6 (bnd0 (f9_number (0 : Int32) ((μ3 3 (1 : Int32).toNatClampNeg) - (1 : Int32)) v2 μ3) (fun (v33 : Int32) (μ34 : zMem) => j29 v33 μ34)))))
set_option maxHeartbeats 1000000 in
theorem t9_readsOf (x1 : Int32) (μ : zMem) : zMR yX9_readsOf cX9_readsOf 4 (none) 4 [.ref 0, .int x1] 1134 SM μ (f9_readsOf x1 μ) := by
  refine zMR_of (by decide +kernel) rfl (Nat.le_of_ble_eq_true rfl) (L := [.ref 0, .int x1, .null, .null]) rfl ?_
  unfold f9_readsOf
  refine z_aload_n (pc := 0) dX9_readsOf_0 rfl ?_
  refine z_iconst (pc := 1) (0 : Int32) dX9_readsOf_1 (by decide) ?_
  refine z_aload_n (pc := 2) dX9_readsOf_2 rfl ?_
  refine z_getr (pc := 3) fdX9_20 (by decide) sm_0 rfl rfl dX9_readsOf_3 ?_
  refine z_iconst (pc := 6) (1 : Int32) dX9_readsOf_6 (by decide) ?_
  refine z_iald (pc := 7) (by decide) sm_3 rfl dX9_readsOf_7 (fun h1 => ?_)
  refine z_iconst (pc := 8) (1 : Int32) dX9_readsOf_8 (by decide) ?_
  refine z_isub (pc := 9) dX9_readsOf_9 ?_
  refine z_iconst (pc := 10) (-1 : Int32) dX9_readsOf_10 (by decide) ?_
  refine z_callV (As := [.int (0 : Int32), .int ((μ 3 (1 : Int32).toNatClampNeg) - (1 : Int32)), .int (-1 : Int32)]) (pc := 11) (ret' := some .int) kvX9_159 (t9_number _ _ _ _) (by decide) (by decide) sm_0  rfl rfl (Nat.le_of_ble_eq_true rfl) dX9_readsOf_11 (fun v2 μ3 => ?_)
  refine z_istore_n (pc := 14) (L' := [.ref 0, .int x1, .int v2, .null]) dX9_readsOf_14 (by decide) rfl ?_
  refine z_iload_n (pc := 15) dX9_readsOf_15 rfl ?_
  refine z_iconst (pc := 16) (1 : Int32) dX9_readsOf_16 (by decide) ?_
  refine z_let (fun (j : Int32 → zMem → zRes) => ∀ (s4 : Int32) (μ5 : zMem), zR yX9_readsOf cX9_readsOf 4 (none) 4 45 [.ref 0, .int x1, .int v2, .null] [.int s4] 1134 SM μ5 (j s4 μ5)) ?_ (fun j29 hj29 => ?_)
  · intro s4 μ5
    refine z_istore_n (pc := 45) (L' := [.ref 0, .int x1, .int v2, .int s4]) dX9_readsOf_45 (by decide) rfl ?_
    refine z_aload_n (pc := 46) dX9_readsOf_46 rfl ?_
    refine z_geti (pc := 47) fdX9_122 (by decide) sm_0 rfl dX9_readsOf_47 ?_
    refine z_if_eq (pc := 50) (tgt := 54) dX9_readsOf_50 (by decide) (fun c6 => ?_) (fun c7 => ?_)
    · refine z_iload_n (pc := 54) dX9_readsOf_54 rfl ?_
      refine z_iconst (pc := 55) (1 : Int32) dX9_readsOf_55 (by decide) ?_
      refine z_let (fun (j : zMem → zRes) => ∀ (μ8 : zMem), zR yX9_readsOf cX9_readsOf 4 (none) 4 68 [.ref 0, .int x1, .int v2, .int s4] [] 1134 SM μ8 (j μ8)) ?_ (fun j23 hj23 => ?_)
      · intro μ8
        refine z_iload_n (pc := 68) dX9_readsOf_68 rfl ?_
        refine z_iconst (pc := 69) (2 : Int32) dX9_readsOf_69 (by decide) ?_
        refine z_let (fun (j : zMem → zRes) => ∀ (μ9 : zMem), zR yX9_readsOf cX9_readsOf 4 (none) 4 85 [.ref 0, .int x1, .int v2, .int s4] [] 1134 SM μ9 (j μ9)) ?_ (fun j17 hj17 => ?_)
        · intro μ9
          refine z_iload_n (pc := 85) dX9_readsOf_85 rfl ?_
          refine z_iconst (pc := 86) (2 : Int32) dX9_readsOf_86 (by decide) ?_
          refine z_let (fun (j : zMem → zRes) => ∀ (μ10 : zMem), zR yX9_readsOf cX9_readsOf 4 (none) 4 102 [.null, .null, .null, .null] [] 1134 SM μ10 (j μ10)) ?_ (fun j11 hj11 => ?_)
          · intro μ10
            exact z_vret (pc := 102) rfl dX9_readsOf_102
          · refine z_icmp_ne (pc := 87) (tgt := 102) dX9_readsOf_87 (by decide) (fun c12 => ?_) (fun c13 => ?_)
            · refine z_loc (L' := [.null, .null, .null, .null]) ⟨Or.inl rfl, ⟨Or.inl rfl, ⟨Or.inl rfl, ⟨Or.inl rfl, trivial⟩⟩⟩⟩ ?_
              exact hj11 μ9
            · refine z_aload_n (pc := 90) dX9_readsOf_90 rfl ?_
              refine z_getr (pc := 91) fdX9_46 (by decide) sm_0 rfl rfl dX9_readsOf_91 ?_
              refine z_iload_n (pc := 94) dX9_readsOf_94 rfl ?_
              refine z_dup2 (pc := 95) dX9_readsOf_95 rfl rfl ?_
              refine z_iald (pc := 96) (by decide) sm_48 rfl dX9_readsOf_96 (fun h14 => ?_)
              refine z_iconst (pc := 97) (1 : Int32) dX9_readsOf_97 (by decide) ?_
              refine z_iload_n (pc := 98) dX9_readsOf_98 rfl ?_
              refine z_ishl (pc := 99) dX9_readsOf_99 ?_
              refine z_ior (pc := 100) dX9_readsOf_100 ?_
              refine z_iast (pc := 101) (by decide) sm_48 rfl dX9_readsOf_101 (fun h15 => ?_)
              refine z_mem (fun μ16 => ?_)
              refine z_loc (L' := [.null, .null, .null, .null]) ⟨Or.inl rfl, ⟨Or.inl rfl, ⟨Or.inl rfl, ⟨Or.inl rfl, trivial⟩⟩⟩⟩ ?_
              exact hj11 μ16
        · refine z_icmp_ne (pc := 70) (tgt := 85) dX9_readsOf_70 (by decide) (fun c18 => ?_) (fun c19 => ?_)
          · exact hj17 μ8
          · refine z_aload_n (pc := 73) dX9_readsOf_73 rfl ?_
            refine z_getr (pc := 74) fdX9_46 (by decide) sm_0 rfl rfl dX9_readsOf_74 ?_
            refine z_iload_n (pc := 77) dX9_readsOf_77 rfl ?_
            refine z_dup2 (pc := 78) dX9_readsOf_78 rfl rfl ?_
            refine z_iald (pc := 79) (by decide) sm_48 rfl dX9_readsOf_79 (fun h20 => ?_)
            refine z_iconst (pc := 80) (1 : Int32) dX9_readsOf_80 (by decide) ?_
            refine z_iload_n (pc := 81) dX9_readsOf_81 rfl ?_
            refine z_ishl (pc := 82) dX9_readsOf_82 ?_
            refine z_ior (pc := 83) dX9_readsOf_83 ?_
            refine z_iast (pc := 84) (by decide) sm_48 rfl dX9_readsOf_84 (fun h21 => ?_)
            refine z_mem (fun μ22 => ?_)
            exact hj17 μ22
      · refine z_icmp_ne (pc := 56) (tgt := 68) dX9_readsOf_56 (by decide) (fun c24 => ?_) (fun c25 => ?_)
        · exact hj23 μ5
        · refine z_aload_n (pc := 59) dX9_readsOf_59 rfl ?_
          refine z_getr (pc := 60) fdX9_28 (by decide) sm_0 rfl rfl dX9_readsOf_60 ?_
          refine z_iload_n (pc := 63) dX9_readsOf_63 rfl ?_
          refine z_aald (pc := 64) (fun j => 6 + j) (by decide) sm_5 (Or.inl rfl) smg_5 dX9_readsOf_64 (fun h26 => ?_)
          refine z_iconst (pc := 65) (5 : Int32) dX9_readsOf_65 (by decide) ?_
          refine z_iload_n (pc := 66) dX9_readsOf_66 rfl ?_
          refine z_iast (pc := 67) (smr_5 h26).2 (smr_5 h26).1 rfl dX9_readsOf_67 (fun h27 => ?_)
          refine z_mem (fun μ28 => ?_)
          exact hj23 μ28
    · exact z_vret (pc := 53) rfl dX9_readsOf_53
  · refine z_icmp_ne (pc := 17) (tgt := 31) dX9_readsOf_17 (by decide) (fun c30 => ?_) (fun c31 => ?_)
    · refine z_aload_n (pc := 31) dX9_readsOf_31 rfl ?_
      refine z_iconst (pc := 32) (0 : Int32) dX9_readsOf_32 (by decide) ?_
      refine z_aload_n (pc := 33) dX9_readsOf_33 rfl ?_
      refine z_getr (pc := 34) fdX9_20 (by decide) sm_0 rfl rfl dX9_readsOf_34 ?_
      refine z_iconst (pc := 37) (1 : Int32) dX9_readsOf_37 (by decide) ?_
      refine z_iald (pc := 38) (by decide) sm_3 rfl dX9_readsOf_38 (fun h32 => ?_)
      refine z_iconst (pc := 39) (1 : Int32) dX9_readsOf_39 (by decide) ?_
      refine z_isub (pc := 40) dX9_readsOf_40 ?_
      refine z_iload_n (pc := 41) dX9_readsOf_41 rfl ?_
      refine z_callV (As := [.int (0 : Int32), .int ((μ3 3 (1 : Int32).toNatClampNeg) - (1 : Int32)), .int v2]) (pc := 42) (ret' := some .int) kvX9_159 (t9_number _ _ _ _) (by decide) (by decide) sm_0  rfl rfl (Nat.le_of_ble_eq_true rfl) dX9_readsOf_42 (fun v33 μ34 => ?_)
      exact hj29 v33 μ34
    · refine z_aload_n (pc := 20) dX9_readsOf_20 rfl ?_
      refine z_iconst (pc := 21) (0 : Int32) dX9_readsOf_21 (by decide) ?_
      refine z_bipush (pc := 22) (9 : Int32) dX9_readsOf_22 (by decide) ?_
      refine z_iconst (pc := 24) (-1 : Int32) dX9_readsOf_24 (by decide) ?_
      refine z_callV (As := [.int (0 : Int32), .int (9 : Int32), .int (-1 : Int32)]) (pc := 25) (ret' := some .int) kvX9_159 (t9_number _ _ _ _) (by decide) (by decide) sm_0  rfl rfl (Nat.le_of_ble_eq_true rfl) dX9_readsOf_25 (fun v35 μ36 => ?_)
      refine z_goto (pc := 28) (tgt := 45) dX9_readsOf_28 (by decide) ?_
      exact hj29 v35 μ36
def f9_readsDoor (μ : zMem) : zRes := zin (2 : Int32) 6 (zin (μ 3 (2 : Int32).toNatClampNeg) 10 (bnd0 (f9_number (1 : Int32) (99 : Int32) (-1 : Int32) μ) (fun (v3 : Int32) (μ4 : zMem) => zin (0 : Int32) 4 (zlet (zset μ4 (25 + (μ 3 (2 : Int32).toNatClampNeg).toNatClampNeg) (0 : Int32).toNatClampNeg v3) (fun (μ6 : zMem) => bnd0 (f9_number (1 : Int32) (240 : Int32) (-1 : Int32) μ6) (fun (v7 : Int32) (μ8 : zMem) => zin (1 : Int32) 4 (zlet (zset μ8 (25 + (μ 3 (2 : Int32).toNatClampNeg).toNatClampNeg) (1 : Int32).toNatClampNeg v7) (fun (μ10 : zMem) => bnd0 (f9_number (0 : Int32) (29 : Int32) (-1 : Int32) μ10) (fun (v11 : Int32) (μ12 : zMem) => zin (2 : Int32) 4 (zlet (zset μ12 (25 + (μ 3 (2 : Int32).toNatClampNeg).toNatClampNeg) (2 : Int32).toNatClampNeg v11) (fun (μ14 : zMem) => bnd0 (f9_blanks μ14) (fun (v15 : Int32) (μ16 : zMem) => zlet (fun (s17 : Int32) (μ18 : zMem) => zin (3 : Int32) 4 (zlet (zset μ18 (25 + (μ 3 (2 : Int32).toNatClampNeg).toNatClampNeg) (3 : Int32).toNatClampNeg s17) (fun (μ20 : zMem) => zin (2 : Int32) 6 (zin (2 : Int32) 6 (zlet (zset μ20 3 (2 : Int32).toNatClampNeg ((μ20 3 (2 : Int32).toNatClampNeg) + (1 : Int32))) (fun (μ23 : zMem) => some (0, 0, μ23))))))) (fun j24 => zlet (fun (μ25 : zMem) => j24 (-1 : Int32) μ25) (fun j26 => if (μ16 0 5) = 0 then bnd0 (f9_byteAt (μ16 0 4) μ16) (fun (v29 : Int32) (μ30 : zMem) => if v29 = (59 : Int32) then j26 μ30 else bnd0 (f9_byteAt (μ30 0 4) μ30) (fun (v33 : Int32) (μ34 : zMem) => bnd0 (f9_isDigit v33 μ34) (fun (v35 : Int32) (μ36 : zMem) => if v35 = 0 then j26 μ36 else zin (0 : Int32) 6 (bnd0 (f9_number (0 : Int32) ((μ36 3 (0 : Int32).toNatClampNeg) - (1 : Int32)) (-1 : Int32) μ36) (fun (v40 : Int32) (μ41 : zMem) => j24 v40 μ41))))) else j26 μ16))))))))))))))
set_option maxHeartbeats 1000000 in
theorem t9_readsDoor (μ : zMem) : zMR yX9_readsDoor cX9_readsDoor 2 (none) 4 [.ref 0] 1134 SM μ (f9_readsDoor μ) := by
  refine zMR_of (by decide +kernel) rfl (Nat.le_of_ble_eq_true rfl) (L := [.ref 0, .null]) rfl ?_
  unfold f9_readsDoor
  refine z_aload_n (pc := 0) dX9_readsDoor_0 rfl ?_
  refine z_getr (pc := 1) fdX9_34 (by decide) sm_0 rfl rfl dX9_readsDoor_1 ?_
  refine z_aload_n (pc := 4) dX9_readsDoor_4 rfl ?_
  refine z_getr (pc := 5) fdX9_20 (by decide) sm_0 rfl rfl dX9_readsDoor_5 ?_
  refine z_iconst (pc := 8) (2 : Int32) dX9_readsDoor_8 (by decide) ?_
  refine z_iald (pc := 9) (by decide) sm_3 rfl dX9_readsDoor_9 (fun h1 => ?_)
  refine z_aald (pc := 10) (fun j => 25 + j) (by decide) sm_24 (Or.inl rfl) smg_24 dX9_readsDoor_10 (fun h2 => ?_)
  refine z_astore_n (pc := 11) (L' := [.ref 0, .ref (25 + (μ 3 (2 : Int32).toNatClampNeg).toNatClampNeg)]) dX9_readsDoor_11 (by decide) rfl ?_
  refine z_aload_n (pc := 12) dX9_readsDoor_12 rfl ?_
  refine z_iconst (pc := 13) (0 : Int32) dX9_readsDoor_13 (by decide) ?_
  refine z_aload_n (pc := 14) dX9_readsDoor_14 rfl ?_
  refine z_iconst (pc := 15) (1 : Int32) dX9_readsDoor_15 (by decide) ?_
  refine z_bipush (pc := 16) (99 : Int32) dX9_readsDoor_16 (by decide) ?_
  refine z_iconst (pc := 18) (-1 : Int32) dX9_readsDoor_18 (by decide) ?_
  refine z_callV (As := [.int (1 : Int32), .int (99 : Int32), .int (-1 : Int32)]) (pc := 19) (ret' := some .int) kvX9_159 (t9_number _ _ _ _) (by decide) (by decide) sm_0  rfl rfl (Nat.le_of_ble_eq_true rfl) dX9_readsDoor_19 (fun v3 μ4 => ?_)
  refine z_iast (pc := 22) (smr_24 h2).2 (smr_24 h2).1 rfl dX9_readsDoor_22 (fun h5 => ?_)
  refine z_mem (fun μ6 => ?_)
  refine z_aload_n (pc := 23) dX9_readsDoor_23 rfl ?_
  refine z_iconst (pc := 24) (1 : Int32) dX9_readsDoor_24 (by decide) ?_
  refine z_aload_n (pc := 25) dX9_readsDoor_25 rfl ?_
  refine z_iconst (pc := 26) (1 : Int32) dX9_readsDoor_26 (by decide) ?_
  refine z_sipush (pc := 27) (240 : Int32) dX9_readsDoor_27 (by decide) ?_
  refine z_iconst (pc := 30) (-1 : Int32) dX9_readsDoor_30 (by decide) ?_
  refine z_callV (As := [.int (1 : Int32), .int (240 : Int32), .int (-1 : Int32)]) (pc := 31) (ret' := some .int) kvX9_159 (t9_number _ _ _ _) (by decide) (by decide) sm_0  rfl rfl (Nat.le_of_ble_eq_true rfl) dX9_readsDoor_31 (fun v7 μ8 => ?_)
  refine z_iast (pc := 34) (smr_24 h2).2 (smr_24 h2).1 rfl dX9_readsDoor_34 (fun h9 => ?_)
  refine z_mem (fun μ10 => ?_)
  refine z_aload_n (pc := 35) dX9_readsDoor_35 rfl ?_
  refine z_iconst (pc := 36) (2 : Int32) dX9_readsDoor_36 (by decide) ?_
  refine z_aload_n (pc := 37) dX9_readsDoor_37 rfl ?_
  refine z_iconst (pc := 38) (0 : Int32) dX9_readsDoor_38 (by decide) ?_
  refine z_bipush (pc := 39) (29 : Int32) dX9_readsDoor_39 (by decide) ?_
  refine z_iconst (pc := 41) (-1 : Int32) dX9_readsDoor_41 (by decide) ?_
  refine z_callV (As := [.int (0 : Int32), .int (29 : Int32), .int (-1 : Int32)]) (pc := 42) (ret' := some .int) kvX9_159 (t9_number _ _ _ _) (by decide) (by decide) sm_0  rfl rfl (Nat.le_of_ble_eq_true rfl) dX9_readsDoor_42 (fun v11 μ12 => ?_)
  refine z_iast (pc := 45) (smr_24 h2).2 (smr_24 h2).1 rfl dX9_readsDoor_45 (fun h13 => ?_)
  refine z_mem (fun μ14 => ?_)
  refine z_aload_n (pc := 46) dX9_readsDoor_46 rfl ?_
  refine z_callV (As := []) (pc := 47) (ret' := none) kvX9_128 (t9_blanks _) (by decide) (by decide) sm_0  rfl rfl (Nat.le_of_ble_eq_true rfl) dX9_readsDoor_47 (fun v15 μ16 => ?_)
  refine z_aload_n (pc := 50) dX9_readsDoor_50 rfl ?_
  refine z_iconst (pc := 51) (3 : Int32) dX9_readsDoor_51 (by decide) ?_
  refine z_aload_n (pc := 52) dX9_readsDoor_52 rfl ?_
  refine z_geti (pc := 53) fdX9_122 (by decide) sm_0 rfl dX9_readsDoor_53 ?_
  refine z_let (fun (j : Int32 → zMem → zRes) => ∀ (s17 : Int32) (μ18 : zMem), zR yX9_readsDoor cX9_readsDoor 2 (none) 4 104 [.ref 0, .null] [.int s17, .int (3 : Int32), .ref (25 + (μ 3 (2 : Int32).toNatClampNeg).toNatClampNeg)] 1134 SM μ18 (j s17 μ18)) ?_ (fun j24 hj24 => ?_)
  · intro s17 μ18
    refine z_iast (pc := 104) (smr_24 h2).2 (smr_24 h2).1 rfl dX9_readsDoor_104 (fun h19 => ?_)
    refine z_mem (fun μ20 => ?_)
    refine z_aload_n (pc := 105) dX9_readsDoor_105 rfl ?_
    refine z_getr (pc := 106) fdX9_20 (by decide) sm_0 rfl rfl dX9_readsDoor_106 ?_
    refine z_iconst (pc := 109) (2 : Int32) dX9_readsDoor_109 (by decide) ?_
    refine z_dup2 (pc := 110) dX9_readsDoor_110 rfl rfl ?_
    refine z_iald (pc := 111) (by decide) sm_3 rfl dX9_readsDoor_111 (fun h21 => ?_)
    refine z_iconst (pc := 112) (1 : Int32) dX9_readsDoor_112 (by decide) ?_
    refine z_iadd (pc := 113) dX9_readsDoor_113 ?_
    refine z_iast (pc := 114) (by decide) sm_3 rfl dX9_readsDoor_114 (fun h22 => ?_)
    refine z_mem (fun μ23 => ?_)
    exact z_vret (pc := 115) rfl dX9_readsDoor_115
  · refine z_let (fun (j : zMem → zRes) => ∀ (μ25 : zMem), zR yX9_readsDoor cX9_readsDoor 2 (none) 4 103 [.ref 0, .null] [.int (3 : Int32), .ref (25 + (μ 3 (2 : Int32).toNatClampNeg).toNatClampNeg)] 1134 SM μ25 (j μ25)) ?_ (fun j26 hj26 => ?_)
    · intro μ25
      refine z_iconst (pc := 103) (-1 : Int32) dX9_readsDoor_103 (by decide) ?_
      exact hj24 (-1 : Int32) μ25
    · refine z_if_ne (pc := 56) (tgt := 103) dX9_readsDoor_56 (by decide) (fun c27 => ?_) (fun c28 => ?_)
      · refine z_loc (L' := [.ref 0, .null]) ⟨Or.inr rfl, ⟨Or.inl rfl, trivial⟩⟩ ?_
        exact hj26 μ16
      · refine z_aload_n (pc := 59) dX9_readsDoor_59 rfl ?_
        refine z_aload_n (pc := 60) dX9_readsDoor_60 rfl ?_
        refine z_geti (pc := 61) fdX9_115 (by decide) sm_0 rfl dX9_readsDoor_61 ?_
        refine z_callV (As := [.int (μ16 0 4)]) (pc := 64) (ret' := some .int) kvX9_118 (t9_byteAt _ _) (by decide) (by decide) sm_0  rfl rfl (Nat.le_of_ble_eq_true rfl) dX9_readsDoor_64 (fun v29 μ30 => ?_)
        refine z_bipush (pc := 67) (59 : Int32) dX9_readsDoor_67 (by decide) ?_
        refine z_icmp_eq (pc := 69) (tgt := 103) dX9_readsDoor_69 (by decide) (fun c31 => ?_) (fun c32 => ?_)
        · refine z_loc (L' := [.ref 0, .null]) ⟨Or.inr rfl, ⟨Or.inl rfl, trivial⟩⟩ ?_
          exact hj26 μ30
        · refine z_aload_n (pc := 72) dX9_readsDoor_72 rfl ?_
          refine z_aload_n (pc := 73) dX9_readsDoor_73 rfl ?_
          refine z_geti (pc := 74) fdX9_115 (by decide) sm_0 rfl dX9_readsDoor_74 ?_
          refine z_callV (As := [.int (μ30 0 4)]) (pc := 77) (ret' := some .int) kvX9_118 (t9_byteAt _ _) (by decide) (by decide) sm_0  rfl rfl (Nat.le_of_ble_eq_true rfl) dX9_readsDoor_77 (fun v33 μ34 => ?_)
          refine z_callS (As := [.int v33]) (pc := 80) (ret' := some .boolean) ksX9_131 (t9_isDigit _ _) (by decide)  rfl rfl (Nat.le_of_ble_eq_true rfl) dX9_readsDoor_80 (fun v35 μ36 => ?_)
          refine z_if_eq (pc := 83) (tgt := 103) dX9_readsDoor_83 (by decide) (fun c37 => ?_) (fun c38 => ?_)
          · refine z_loc (L' := [.ref 0, .null]) ⟨Or.inr rfl, ⟨Or.inl rfl, trivial⟩⟩ ?_
            exact hj26 μ36
          · refine z_aload_n (pc := 86) dX9_readsDoor_86 rfl ?_
            refine z_iconst (pc := 87) (0 : Int32) dX9_readsDoor_87 (by decide) ?_
            refine z_aload_n (pc := 88) dX9_readsDoor_88 rfl ?_
            refine z_getr (pc := 89) fdX9_20 (by decide) sm_0 rfl rfl dX9_readsDoor_89 ?_
            refine z_iconst (pc := 92) (0 : Int32) dX9_readsDoor_92 (by decide) ?_
            refine z_iald (pc := 93) (by decide) sm_3 rfl dX9_readsDoor_93 (fun h39 => ?_)
            refine z_iconst (pc := 94) (1 : Int32) dX9_readsDoor_94 (by decide) ?_
            refine z_isub (pc := 95) dX9_readsDoor_95 ?_
            refine z_iconst (pc := 96) (-1 : Int32) dX9_readsDoor_96 (by decide) ?_
            refine z_callV (As := [.int (0 : Int32), .int ((μ36 3 (0 : Int32).toNatClampNeg) - (1 : Int32)), .int (-1 : Int32)]) (pc := 97) (ret' := some .int) kvX9_159 (t9_number _ _ _ _) (by decide) (by decide) sm_0  rfl rfl (Nat.le_of_ble_eq_true rfl) dX9_readsDoor_97 (fun v40 μ41 => ?_)
            refine z_goto (pc := 100) (tgt := 104) dX9_readsDoor_100 (by decide) ?_
            refine z_loc (L' := [.ref 0, .null]) ⟨Or.inr rfl, ⟨Or.inl rfl, trivial⟩⟩ ?_
            exact hj24 v40 μ41
def f9_readsSlate_L25 (x1 : Int32) (K55 : zMem → zRes) : Nat → Int32 → zMem → zRes
  | 0, _, _ => none
  | n + 1, x2, μ => if x1 ≤ x2 then K55 μ else if (μ 0 5) = 0 then zin x2 600 (zin x2 7 (zlet (zset μ 46 x2.toNatClampNeg (μ 2 x2.toNatClampNeg)) (fun (μ14 : zMem) => f9_readsSlate_L25 x1 K55 n (x2 + (1 : Int32)) μ14))) else K55 μ
def f9_readsSlate (μ : zMem) : zRes := zin (0 : Int32) 6 (bnd0 (f9_digits ((μ 3 (0 : Int32).toNatClampNeg) - (1 : Int32)) (1 : Int32) (7 : Int32) μ) (fun (v2 : Int32) (μ3 : zMem) => zin (5 : Int32) 6 (zlet (zset μ3 3 (5 : Int32).toNatClampNeg v2) (fun (μ5 : zMem) => zlet (fun (μ6 : zMem) => some (0, 0, μ6)) (fun j7 => f9_readsSlate_L25 v2 (fun (μ15 : zMem) => j7 μ15) zF (0 : Int32) μ5)))))
set_option maxHeartbeats 1000000 in
theorem t9_readsSlate_L25 (x1 : Int32) (K55 : zMem → zRes) (hK55 : ∀ (μ : zMem), zR yX9_readsSlate cX9_readsSlate 3 (none) 4 55 [.null, .null, .null] [] 1134 SM μ (K55 μ)) : ∀ (n : Nat) (x2 : Int32) (μ : zMem), zR yX9_readsSlate cX9_readsSlate 3 (none) 4 25 [.ref 0, .int x1, .int x2] [] 1134 SM μ (f9_readsSlate_L25 x1 K55 n x2 μ) := by
  intro n
  induction n with
  | zero => intro x2 μ; intro q hq; cases hq
  | succ n ih =>
    intro x2 μ
    unfold f9_readsSlate_L25
    refine z_iload_n (pc := 25) dX9_readsSlate_25 rfl ?_
    refine z_iload_n (pc := 26) dX9_readsSlate_26 rfl ?_
    refine z_icmp_ge (pc := 27) (tgt := 55) dX9_readsSlate_27 (by decide) (fun c8 => ?_) (fun c9 => ?_)
    · refine z_loc (L' := [.null, .null, .null]) ⟨Or.inl rfl, ⟨Or.inl rfl, ⟨Or.inl rfl, trivial⟩⟩⟩ ?_
      exact hK55 μ
    · refine z_aload_n (pc := 30) dX9_readsSlate_30 rfl ?_
      refine z_geti (pc := 31) fdX9_122 (by decide) sm_0 rfl dX9_readsSlate_31 ?_
      refine z_if_ne (pc := 34) (tgt := 55) dX9_readsSlate_34 (by decide) (fun c10 => ?_) (fun c11 => ?_)
      · refine z_loc (L' := [.null, .null, .null]) ⟨Or.inl rfl, ⟨Or.inl rfl, ⟨Or.inl rfl, trivial⟩⟩⟩ ?_
        exact hK55 μ
      · refine z_aload_n (pc := 37) dX9_readsSlate_37 rfl ?_
        refine z_getr (pc := 38) fdX9_40 (by decide) sm_0 rfl rfl dX9_readsSlate_38 ?_
        refine z_iload_n (pc := 41) dX9_readsSlate_41 rfl ?_
        refine z_aload_n (pc := 42) dX9_readsSlate_42 rfl ?_
        refine z_getr (pc := 43) fdX9_17 (by decide) sm_0 rfl rfl dX9_readsSlate_43 ?_
        refine z_iload_n (pc := 46) dX9_readsSlate_46 rfl ?_
        refine z_iald (pc := 47) (by decide) sm_2 rfl dX9_readsSlate_47 (fun h12 => ?_)
        refine z_iast (pc := 48) (by decide) sm_46 rfl dX9_readsSlate_48 (fun h13 => ?_)
        refine z_mem (fun μ14 => ?_)
        refine z_iinc (pc := 49) (v := x2 + (1 : Int32)) (L' := [.ref 0, .int x1, .int (x2 + (1 : Int32))]) dX9_readsSlate_49 (by decide) rfl (congrArg _ (by decide)) rfl ?_
        refine z_goto (pc := 52) (tgt := 25) dX9_readsSlate_52 (by decide) ?_
        exact ih (x2 + (1 : Int32)) μ14
set_option maxHeartbeats 1000000 in
theorem t9_readsSlate (μ : zMem) : zMR yX9_readsSlate cX9_readsSlate 3 (none) 4 [.ref 0] 1134 SM μ (f9_readsSlate μ) := by
  refine zMR_of (by decide +kernel) rfl (Nat.le_of_ble_eq_true rfl) (L := [.ref 0, .null, .null]) rfl ?_
  unfold f9_readsSlate
  refine z_aload_n (pc := 0) dX9_readsSlate_0 rfl ?_
  refine z_aload_n (pc := 1) dX9_readsSlate_1 rfl ?_
  refine z_getr (pc := 2) fdX9_20 (by decide) sm_0 rfl rfl dX9_readsSlate_2 ?_
  refine z_iconst (pc := 5) (0 : Int32) dX9_readsSlate_5 (by decide) ?_
  refine z_iald (pc := 6) (by decide) sm_3 rfl dX9_readsSlate_6 (fun h1 => ?_)
  refine z_iconst (pc := 7) (1 : Int32) dX9_readsSlate_7 (by decide) ?_
  refine z_isub (pc := 8) dX9_readsSlate_8 ?_
  refine z_iconst (pc := 9) (1 : Int32) dX9_readsSlate_9 (by decide) ?_
  refine z_bipush (pc := 10) (7 : Int32) dX9_readsSlate_10 (by decide) ?_
  refine z_callV (As := [.int ((μ 3 (0 : Int32).toNatClampNeg) - (1 : Int32)), .int (1 : Int32), .int (7 : Int32)]) (pc := 12) (ret' := some .int) kvX9_185 (t9_digits _ _ _ _) (by decide) (by decide) sm_0  rfl rfl (Nat.le_of_ble_eq_true rfl) dX9_readsSlate_12 (fun v2 μ3 => ?_)
  refine z_istore_n (pc := 15) (L' := [.ref 0, .int v2, .null]) dX9_readsSlate_15 (by decide) rfl ?_
  refine z_aload_n (pc := 16) dX9_readsSlate_16 rfl ?_
  refine z_getr (pc := 17) fdX9_20 (by decide) sm_0 rfl rfl dX9_readsSlate_17 ?_
  refine z_iconst (pc := 20) (5 : Int32) dX9_readsSlate_20 (by decide) ?_
  refine z_iload_n (pc := 21) dX9_readsSlate_21 rfl ?_
  refine z_iast (pc := 22) (by decide) sm_3 rfl dX9_readsSlate_22 (fun h4 => ?_)
  refine z_mem (fun μ5 => ?_)
  refine z_iconst (pc := 23) (0 : Int32) dX9_readsSlate_23 (by decide) ?_
  refine z_istore_n (pc := 24) (L' := [.ref 0, .int v2, .int (0 : Int32)]) dX9_readsSlate_24 (by decide) rfl ?_
  refine z_let (fun (j : zMem → zRes) => ∀ (μ6 : zMem), zR yX9_readsSlate cX9_readsSlate 3 (none) 4 55 [.null, .null, .null] [] 1134 SM μ6 (j μ6)) ?_ (fun j7 hj7 => ?_)
  · intro μ6
    exact z_vret (pc := 55) rfl dX9_readsSlate_55
  · refine t9_readsSlate_L25 _ _ (fun μ15 => ?_) zF _ _
    · exact hj7 μ15
def f9_clause (μ : zMem) : zRes := bnd0 (f9_kindHere μ) (fun (v1 : Int32) (μ2 : zMem) => zlet (fun (μ3 : zMem) => if (μ3 0 5) = 0 then bnd0 (f9_skipWord μ3) (fun (v6 : Int32) (μ7 : zMem) => zlet (zset μ7 0 7 ((μ7 0 7) + (1 : Int32))) (fun (μ8 : zMem) => zlet (fun (μ9 : zMem) => bnd0 (f9_sign (59 : Int32) μ9) (fun (v10 : Int32) (μ11 : zMem) => some (0, 0, μ11))) (fun j12 => if v1 = 0 then bnd0 (f9_readsPerson μ8) (fun (v38 : Int32) (μ39 : zMem) => j12 μ39) else if (3 : Int32) ≤ v1 then if v1 = (3 : Int32) then bnd0 (f9_readsDoor μ8) (fun (v34 : Int32) (μ35 : zMem) => j12 μ35) else if v1 = (6 : Int32) then bnd0 (f9_readsSlate μ8) (fun (v32 : Int32) (μ33 : zMem) => j12 μ33) else zlet (fun (s21 : Int32) (μ22 : zMem) => zin (v1 - (1 : Int32)) 6 (zlet (zset μ22 3 (v1 - (1 : Int32)).toNatClampNeg s21) (fun (μ24 : zMem) => j12 μ24))) (fun j25 => if v1 = (4 : Int32) then bnd0 (f9_number (1 : Int32) (8 : Int32) (-1 : Int32) μ8) (fun (v30 : Int32) (μ31 : zMem) => j25 v30 μ31) else bnd0 (f9_number (30 : Int32) (999 : Int32) (-1 : Int32) μ8) (fun (v28 : Int32) (μ29 : zMem) => j25 v28 μ29)) else bnd0 (f9_readsOf v1 μ8) (fun (v36 : Int32) (μ37 : zMem) => j12 μ37)))) else some (0, 0, μ3)) (fun j40 => if v1 = (-1 : Int32) then bnd0 (f9_wrong (1 : Int32) (μ2 0 4) μ2) (fun (v59 : Int32) (μ60 : zMem) => j40 μ60) else zlet (bnd0 (f9_wrong (3 : Int32) (μ2 0 4) μ2) (fun (v43 : Int32) (μ44 : zMem) => j40 μ44)) (fun j45 => if (μ2 0 7) = (40 : Int32) then j45 else zlet (if v1 = (3 : Int32) then zin (2 : Int32) 6 (if (μ2 3 (2 : Int32).toNatClampNeg) = (10 : Int32) then j45 else j40 μ2) else j40 μ2) (fun j53 => if v1 = 0 then zin (1 : Int32) 6 (if (μ2 3 (1 : Int32).toNatClampNeg) = (8 : Int32) then j45 else j53) else j53))))
set_option maxHeartbeats 1000000 in
theorem t9_clause (μ : zMem) : zMR yX9_clause cX9_clause 2 (none) 6 [.ref 0] 1134 SM μ (f9_clause μ) := by
  refine zMR_of (by decide +kernel) rfl (Nat.le_of_ble_eq_true rfl) (L := [.ref 0, .null]) rfl ?_
  unfold f9_clause
  refine z_aload_n (pc := 0) dX9_clause_0 rfl ?_
  refine z_callV (As := []) (pc := 1) (ret' := some .int) kvX9_170 (t9_kindHere _) (by decide) (by decide) sm_0  rfl rfl (Nat.le_of_ble_eq_true rfl) dX9_clause_1 (fun v1 μ2 => ?_)
  refine z_istore_n (pc := 4) (L' := [.ref 0, .int v1]) dX9_clause_4 (by decide) rfl ?_
  refine z_iload_n (pc := 5) dX9_clause_5 rfl ?_
  refine z_iconst (pc := 6) (-1 : Int32) dX9_clause_6 (by decide) ?_
  refine z_let (fun (j : zMem → zRes) => ∀ (μ3 : zMem), zR yX9_clause cX9_clause 2 (none) 6 71 [.ref 0, .int v1] [] 1134 SM μ3 (j μ3)) ?_ (fun j40 hj40 => ?_)
  · intro μ3
    refine z_aload_n (pc := 71) dX9_clause_71 rfl ?_
    refine z_geti (pc := 72) fdX9_122 (by decide) sm_0 rfl dX9_clause_72 ?_
    refine z_if_eq (pc := 75) (tgt := 79) dX9_clause_75 (by decide) (fun c4 => ?_) (fun c5 => ?_)
    · refine z_aload_n (pc := 79) dX9_clause_79 rfl ?_
      refine z_callV (As := []) (pc := 80) (ret' := none) kvX9_156 (t9_skipWord _) (by decide) (by decide) sm_0  rfl rfl (Nat.le_of_ble_eq_true rfl) dX9_clause_80 (fun v6 μ7 => ?_)
      refine z_aload_n (pc := 83) dX9_clause_83 rfl ?_
      refine z_dup (pc := 84) dX9_clause_84 rfl ?_
      refine z_geti (pc := 85) fdX9_167 (by decide) sm_0 rfl dX9_clause_85 ?_
      refine z_iconst (pc := 88) (1 : Int32) dX9_clause_88 (by decide) ?_
      refine z_iadd (pc := 89) dX9_clause_89 ?_
      refine z_puti (pc := 90) fdX9_167 (by decide) sm_0 rfl rfl dX9_clause_90 ?_
      refine z_mem (fun μ8 => ?_)
      refine z_iload_n (pc := 93) dX9_clause_93 rfl ?_
      refine z_let (fun (j : zMem → zRes) => ∀ (μ9 : zMem), zR yX9_clause cX9_clause 2 (none) 6 176 [.ref 0, .null] [] 1134 SM μ9 (j μ9)) ?_ (fun j12 hj12 => ?_)
      · intro μ9
        refine z_aload_n (pc := 176) dX9_clause_176 rfl ?_
        refine z_bipush (pc := 177) (59 : Int32) dX9_clause_177 (by decide) ?_
        refine z_callV (As := [.int (59 : Int32)]) (pc := 179) (ret' := none) kvX9_163 (t9_sign _ _) (by decide) (by decide) sm_0  rfl rfl (Nat.le_of_ble_eq_true rfl) dX9_clause_179 (fun v10 μ11 => ?_)
        exact z_vret (pc := 182) rfl dX9_clause_182
      · refine z_if_ne (pc := 94) (tgt := 104) dX9_clause_94 (by decide) (fun c13 => ?_) (fun c14 => ?_)
        · refine z_iload_n (pc := 104) dX9_clause_104 rfl ?_
          refine z_iconst (pc := 105) (3 : Int32) dX9_clause_105 (by decide) ?_
          refine z_icmp_ge (pc := 106) (tgt := 117) dX9_clause_106 (by decide) (fun c15 => ?_) (fun c16 => ?_)
          · refine z_iload_n (pc := 117) dX9_clause_117 rfl ?_
            refine z_iconst (pc := 118) (3 : Int32) dX9_clause_118 (by decide) ?_
            refine z_icmp_ne (pc := 119) (tgt := 129) dX9_clause_119 (by decide) (fun c17 => ?_) (fun c18 => ?_)
            · refine z_iload_n (pc := 129) dX9_clause_129 rfl ?_
              refine z_bipush (pc := 130) (6 : Int32) dX9_clause_130 (by decide) ?_
              refine z_icmp_ne (pc := 132) (tgt := 142) dX9_clause_132 (by decide) (fun c19 => ?_) (fun c20 => ?_)
              · refine z_aload_n (pc := 142) dX9_clause_142 rfl ?_
                refine z_getr (pc := 143) fdX9_20 (by decide) sm_0 rfl rfl dX9_clause_143 ?_
                refine z_iload_n (pc := 146) dX9_clause_146 rfl ?_
                refine z_iconst (pc := 147) (1 : Int32) dX9_clause_147 (by decide) ?_
                refine z_isub (pc := 148) dX9_clause_148 ?_
                refine z_iload_n (pc := 149) dX9_clause_149 rfl ?_
                refine z_iconst (pc := 150) (4 : Int32) dX9_clause_150 (by decide) ?_
                refine z_let (fun (j : Int32 → zMem → zRes) => ∀ (s21 : Int32) (μ22 : zMem), zR yX9_clause cX9_clause 2 (none) 6 175 [.ref 0, .null] [.int s21, .int (v1 - (1 : Int32)), .ref 3] 1134 SM μ22 (j s21 μ22)) ?_ (fun j25 hj25 => ?_)
                · intro s21 μ22
                  refine z_iast (pc := 175) (by decide) sm_3 rfl dX9_clause_175 (fun h23 => ?_)
                  refine z_mem (fun μ24 => ?_)
                  exact hj12 μ24
                · refine z_icmp_ne (pc := 151) (tgt := 165) dX9_clause_151 (by decide) (fun c26 => ?_) (fun c27 => ?_)
                  · refine z_aload_n (pc := 165) dX9_clause_165 rfl ?_
                    refine z_bipush (pc := 166) (30 : Int32) dX9_clause_166 (by decide) ?_
                    refine z_sipush (pc := 168) (999 : Int32) dX9_clause_168 (by decide) ?_
                    refine z_iconst (pc := 171) (-1 : Int32) dX9_clause_171 (by decide) ?_
                    refine z_callV (As := [.int (30 : Int32), .int (999 : Int32), .int (-1 : Int32)]) (pc := 172) (ret' := some .int) kvX9_159 (t9_number _ _ _ _) (by decide) (by decide) sm_0  rfl rfl (Nat.le_of_ble_eq_true rfl) dX9_clause_172 (fun v28 μ29 => ?_)
                    refine z_loc (L' := [.ref 0, .null]) ⟨Or.inr rfl, ⟨Or.inl rfl, trivial⟩⟩ ?_
                    exact hj25 v28 μ29
                  · refine z_aload_n (pc := 154) dX9_clause_154 rfl ?_
                    refine z_iconst (pc := 155) (1 : Int32) dX9_clause_155 (by decide) ?_
                    refine z_bipush (pc := 156) (8 : Int32) dX9_clause_156 (by decide) ?_
                    refine z_iconst (pc := 158) (-1 : Int32) dX9_clause_158 (by decide) ?_
                    refine z_callV (As := [.int (1 : Int32), .int (8 : Int32), .int (-1 : Int32)]) (pc := 159) (ret' := some .int) kvX9_159 (t9_number _ _ _ _) (by decide) (by decide) sm_0  rfl rfl (Nat.le_of_ble_eq_true rfl) dX9_clause_159 (fun v30 μ31 => ?_)
                    refine z_goto (pc := 162) (tgt := 175) dX9_clause_162 (by decide) ?_
                    refine z_loc (L' := [.ref 0, .null]) ⟨Or.inr rfl, ⟨Or.inl rfl, trivial⟩⟩ ?_
                    exact hj25 v30 μ31
              · refine z_aload_n (pc := 135) dX9_clause_135 rfl ?_
                refine z_callV (As := []) (pc := 136) (ret' := none) kvX9_182 (t9_readsSlate _) (by decide) (by decide) sm_0  rfl rfl (Nat.le_of_ble_eq_true rfl) dX9_clause_136 (fun v32 μ33 => ?_)
                refine z_goto (pc := 139) (tgt := 176) dX9_clause_139 (by decide) ?_
                refine z_loc (L' := [.ref 0, .null]) ⟨Or.inr rfl, ⟨Or.inl rfl, trivial⟩⟩ ?_
                exact hj12 μ33
            · refine z_aload_n (pc := 122) dX9_clause_122 rfl ?_
              refine z_callV (As := []) (pc := 123) (ret' := none) kvX9_179 (t9_readsDoor _) (by decide) (by decide) sm_0  rfl rfl (Nat.le_of_ble_eq_true rfl) dX9_clause_123 (fun v34 μ35 => ?_)
              refine z_goto (pc := 126) (tgt := 176) dX9_clause_126 (by decide) ?_
              refine z_loc (L' := [.ref 0, .null]) ⟨Or.inr rfl, ⟨Or.inl rfl, trivial⟩⟩ ?_
              exact hj12 μ35
          · refine z_aload_n (pc := 109) dX9_clause_109 rfl ?_
            refine z_iload_n (pc := 110) dX9_clause_110 rfl ?_
            refine z_callV (As := [.int v1]) (pc := 111) (ret' := none) kvX9_176 (t9_readsOf _ _) (by decide) (by decide) sm_0  rfl rfl (Nat.le_of_ble_eq_true rfl) dX9_clause_111 (fun v36 μ37 => ?_)
            refine z_goto (pc := 114) (tgt := 176) dX9_clause_114 (by decide) ?_
            refine z_loc (L' := [.ref 0, .null]) ⟨Or.inr rfl, ⟨Or.inl rfl, trivial⟩⟩ ?_
            exact hj12 μ37
        · refine z_aload_n (pc := 97) dX9_clause_97 rfl ?_
          refine z_callV (As := []) (pc := 98) (ret' := none) kvX9_173 (t9_readsPerson _) (by decide) (by decide) sm_0  rfl rfl (Nat.le_of_ble_eq_true rfl) dX9_clause_98 (fun v38 μ39 => ?_)
          refine z_goto (pc := 101) (tgt := 176) dX9_clause_101 (by decide) ?_
          refine z_loc (L' := [.ref 0, .null]) ⟨Or.inr rfl, ⟨Or.inl rfl, trivial⟩⟩ ?_
          exact hj12 μ39
    · exact z_vret (pc := 78) rfl dX9_clause_78
  · refine z_icmp_ne (pc := 7) (tgt := 22) dX9_clause_7 (by decide) (fun c41 => ?_) (fun c42 => ?_)
    · refine z_aload_n (pc := 22) dX9_clause_22 rfl ?_
      refine z_geti (pc := 23) fdX9_167 (by decide) sm_0 rfl dX9_clause_23 ?_
      refine z_bipush (pc := 26) (40 : Int32) dX9_clause_26 (by decide) ?_
      refine z_let (fun (j : zRes) => zR yX9_clause cX9_clause 2 (none) 6 62 [.ref 0, .int v1] [] 1134 SM μ2 (j)) ?_ (fun j45 hj45 => ?_)
      · refine z_aload_n (pc := 62) dX9_clause_62 rfl ?_
        refine z_iconst (pc := 63) (3 : Int32) dX9_clause_63 (by decide) ?_
        refine z_aload_n (pc := 64) dX9_clause_64 rfl ?_
        refine z_geti (pc := 65) fdX9_115 (by decide) sm_0 rfl dX9_clause_65 ?_
        refine z_callV (As := [.int (3 : Int32), .int (μ2 0 4)]) (pc := 68) (ret' := none) kvX9_135 (t9_wrong _ _ _) (by decide) (by decide) sm_0  rfl rfl (Nat.le_of_ble_eq_true rfl) dX9_clause_68 (fun v43 μ44 => ?_)
        exact hj40 μ44
      · refine z_icmp_eq (pc := 28) (tgt := 62) dX9_clause_28 (by decide) (fun c46 => ?_) (fun c47 => ?_)
        · exact hj45
        · refine z_iload_n (pc := 31) dX9_clause_31 rfl ?_
          refine z_let (fun (j : zRes) => zR yX9_clause cX9_clause 2 (none) 6 46 [.ref 0, .int v1] [] 1134 SM μ2 (j)) ?_ (fun j53 hj53 => ?_)
          · refine z_iload_n (pc := 46) dX9_clause_46 rfl ?_
            refine z_iconst (pc := 47) (3 : Int32) dX9_clause_47 (by decide) ?_
            refine z_icmp_ne (pc := 48) (tgt := 71) dX9_clause_48 (by decide) (fun c48 => ?_) (fun c49 => ?_)
            · exact hj40 μ2
            · refine z_aload_n (pc := 51) dX9_clause_51 rfl ?_
              refine z_getr (pc := 52) fdX9_20 (by decide) sm_0 rfl rfl dX9_clause_52 ?_
              refine z_iconst (pc := 55) (2 : Int32) dX9_clause_55 (by decide) ?_
              refine z_iald (pc := 56) (by decide) sm_3 rfl dX9_clause_56 (fun h50 => ?_)
              refine z_bipush (pc := 57) (10 : Int32) dX9_clause_57 (by decide) ?_
              refine z_icmp_ne (pc := 59) (tgt := 71) dX9_clause_59 (by decide) (fun c51 => ?_) (fun c52 => ?_)
              · exact hj40 μ2
              · exact hj45
          · refine z_if_ne (pc := 32) (tgt := 46) dX9_clause_32 (by decide) (fun c54 => ?_) (fun c55 => ?_)
            · exact hj53
            · refine z_aload_n (pc := 35) dX9_clause_35 rfl ?_
              refine z_getr (pc := 36) fdX9_20 (by decide) sm_0 rfl rfl dX9_clause_36 ?_
              refine z_iconst (pc := 39) (1 : Int32) dX9_clause_39 (by decide) ?_
              refine z_iald (pc := 40) (by decide) sm_3 rfl dX9_clause_40 (fun h56 => ?_)
              refine z_bipush (pc := 41) (8 : Int32) dX9_clause_41 (by decide) ?_
              refine z_icmp_eq (pc := 43) (tgt := 62) dX9_clause_43 (by decide) (fun c57 => ?_) (fun c58 => ?_)
              · exact hj45
              · exact hj53
    · refine z_aload_n (pc := 10) dX9_clause_10 rfl ?_
      refine z_iconst (pc := 11) (1 : Int32) dX9_clause_11 (by decide) ?_
      refine z_aload_n (pc := 12) dX9_clause_12 rfl ?_
      refine z_geti (pc := 13) fdX9_115 (by decide) sm_0 rfl dX9_clause_13 ?_
      refine z_callV (As := [.int (1 : Int32), .int (μ2 0 4)]) (pc := 16) (ret' := none) kvX9_135 (t9_wrong _ _ _) (by decide) (by decide) sm_0  rfl rfl (Nat.le_of_ble_eq_true rfl) dX9_clause_16 (fun v59 μ60 => ?_)
      refine z_goto (pc := 19) (tgt := 71) dX9_clause_19 (by decide) ?_
      exact hj40 μ60
def f9_dawns_L2 (K26 : zMem → zRes) : Nat → Int32 → zMem → zRes
  | 0, _, _ => none
  | n + 1, x1, μ => if (9 : Int32) ≤ x1 then K26 μ else zin (4 : Int32) 6 (zin x1 9 (zlet (zset μ 91 x1.toNatClampNeg (μ 4 (4 : Int32).toNatClampNeg)) (fun (μ5 : zMem) => f9_dawns_L2 K26 n (x1 + (1 : Int32)) μ5)))
def f9_dawns (μ : zMem) : zRes := f9_dawns_L2 (fun (μ6 : zMem) => some (0, 0, μ6)) zF (0 : Int32) μ
set_option maxHeartbeats 1000000 in
theorem t9_dawns_L2 (K26 : zMem → zRes) (hK26 : ∀ (μ : zMem), zR yX9_dawns cX9_dawns 2 (none) 1 26 [.null, .null] [] 1134 SM μ (K26 μ)) : ∀ (n : Nat) (x1 : Int32) (μ : zMem), zR yX9_dawns cX9_dawns 2 (none) 1 2 [.ref 0, .int x1] [] 1134 SM μ (f9_dawns_L2 K26 n x1 μ) := by
  intro n
  induction n with
  | zero => intro x1 μ; intro q hq; cases hq
  | succ n ih =>
    intro x1 μ
    unfold f9_dawns_L2
    refine z_iload_n (pc := 2) dX9_dawns_2 rfl ?_
    refine z_bipush (pc := 3) (9 : Int32) dX9_dawns_3 (by decide) ?_
    refine z_icmp_ge (pc := 5) (tgt := 26) dX9_dawns_5 (by decide) (fun c1 => ?_) (fun c2 => ?_)
    · refine z_loc (L' := [.null, .null]) ⟨Or.inl rfl, ⟨Or.inl rfl, trivial⟩⟩ ?_
      exact hK26 μ
    · refine z_aload_n (pc := 8) dX9_dawns_8 rfl ?_
      refine z_getr (pc := 9) fdX9_58 (by decide) sm_0 rfl rfl dX9_dawns_9 ?_
      refine z_iload_n (pc := 12) dX9_dawns_12 rfl ?_
      refine z_aload_n (pc := 13) dX9_dawns_13 rfl ?_
      refine z_getr (pc := 14) fdX9_23 (by decide) sm_0 rfl rfl dX9_dawns_14 ?_
      refine z_iconst (pc := 17) (4 : Int32) dX9_dawns_17 (by decide) ?_
      refine z_iald (pc := 18) (by decide) sm_4 rfl dX9_dawns_18 (fun h3 => ?_)
      refine z_iast (pc := 19) (by decide) sm_91 rfl dX9_dawns_19 (fun h4 => ?_)
      refine z_mem (fun μ5 => ?_)
      refine z_iinc (pc := 20) (v := x1 + (1 : Int32)) (L' := [.ref 0, .int (x1 + (1 : Int32))]) dX9_dawns_20 (by decide) rfl (congrArg _ (by decide)) rfl ?_
      refine z_goto (pc := 23) (tgt := 2) dX9_dawns_23 (by decide) ?_
      exact ih (x1 + (1 : Int32)) μ5
set_option maxHeartbeats 1000000 in
theorem t9_dawns (μ : zMem) : zMR yX9_dawns cX9_dawns 2 (none) 1 [.ref 0] 1134 SM μ (f9_dawns μ) := by
  refine zMR_of (by decide +kernel) rfl (Nat.le_of_ble_eq_true rfl) (L := [.ref 0, .null]) rfl ?_
  unfold f9_dawns
  refine z_iconst (pc := 0) (0 : Int32) dX9_dawns_0 (by decide) ?_
  refine z_istore_n (pc := 1) (L' := [.ref 0, .int (0 : Int32)]) dX9_dawns_1 (by decide) rfl ?_
  refine t9_dawns_L2 _ (fun μ6 => ?_) zF _ _
  · exact z_vret (pc := 26) rfl dX9_dawns_26
def f9_town_L119 (K143 : zMem → zRes) : Nat → Int32 → zMem → zRes
  | 0, _, _ => none
  | n + 1, x2, μ => if (6 : Int32) ≤ x2 then K143 μ else zin x2 6 (zin x2 6 (zlet (zset μ 4 x2.toNatClampNeg (μ 3 x2.toNatClampNeg)) (fun (μ26 : zMem) => f9_town_L119 K143 n (x2 + (1 : Int32)) μ26)))
def f9_town_L153 (x2 : Int32) (K181 : zMem → zRes) : Nat → Int32 → zMem → zRes
  | 0, _, _ => none
  | n + 1, x3, μ => if (6 : Int32) ≤ x3 then K181 μ else zin x2 9 (zin x2 8 (zin x3 6 (zin x3 6 (zlet (zset μ (15 + x2.toNatClampNeg) x3.toNatClampNeg (μ (6 + x2.toNatClampNeg) x3.toNatClampNeg)) (fun (μ36 : zMem) => f9_town_L153 x2 K181 n (x3 + (1 : Int32)) μ36)))))
def f9_town_L145 (K187 : zMem → zRes) : Nat → Int32 → zMem → zRes
  | 0, _, _ => none
  | n + 1, x2, μ => if (8 : Int32) ≤ x2 then K187 μ else f9_town_L153 x2 (fun (μ37 : zMem) => f9_town_L145 K187 n (x2 + (1 : Int32)) μ37) zF (0 : Int32) μ
def f9_town_L189 (K213 : zMem → zRes) : Nat → Int32 → zMem → zRes
  | 0, _, _ => none
  | n + 1, x2, μ => if (8 : Int32) ≤ x2 then K213 μ else zin x2 8 (zin x2 9 (zlet (zset μ 49 x2.toNatClampNeg (μ 48 x2.toNatClampNeg)) (fun (μ43 : zMem) => f9_town_L189 K213 n (x2 + (1 : Int32)) μ43)))
def f9_town_L223 (x2 : Int32) (K250 : zMem → zRes) : Nat → Int32 → zMem → zRes
  | 0, _, _ => none
  | n + 1, x3, μ => if (4 : Int32) ≤ x3 then K250 μ else zin x2 10 (zin x2 10 (zin x3 4 (zin x3 4 (zlet (zset μ (36 + x2.toNatClampNeg) x3.toNatClampNeg (μ (25 + x2.toNatClampNeg) x3.toNatClampNeg)) (fun (μ53 : zMem) => f9_town_L223 x2 K250 n (x3 + (1 : Int32)) μ53)))))
def f9_town_L215 (K256 : zMem → zRes) : Nat → Int32 → zMem → zRes
  | 0, _, _ => none
  | n + 1, x2, μ => if (10 : Int32) ≤ x2 then K256 μ else f9_town_L223 x2 (fun (μ54 : zMem) => f9_town_L215 K256 n (x2 + (1 : Int32)) μ54) zF (0 : Int32) μ
def f9_town_L258 (K282 : zMem → zRes) : Nat → Int32 → zMem → zRes
  | 0, _, _ => none
  | n + 1, x2, μ => if (7 : Int32) ≤ x2 then K282 μ else zin x2 7 (zin x2 7 (zlet (zset μ 47 x2.toNatClampNeg (μ 46 x2.toNatClampNeg)) (fun (μ60 : zMem) => f9_town_L258 K282 n (x2 + (1 : Int32)) μ60)))
def f9_town_L307 (x2 : Int32) (K334 : zMem → zRes) : Nat → Int32 → zMem → zRes
  | 0, _, _ => none
  | n + 1, x3, μ => if (4 : Int32) ≤ x3 then K334 μ else zin x2 9 (zin x2 9 (zin x3 6 (zin x3 4 (zlet (zset μ (51 + x2.toNatClampNeg) x3.toNatClampNeg (μ (15 + x2.toNatClampNeg) x3.toNatClampNeg)) (fun (μ73 : zMem) => f9_town_L307 x2 K334 n (x3 + (1 : Int32)) μ73)))))
def f9_town_L299 (K340 : zMem → zRes) : Nat → Int32 → zMem → zRes
  | 0, _, _ => none
  | n + 1, x2, μ => if (8 : Int32) ≤ x2 then K340 μ else f9_town_L307 x2 (fun (μ74 : zMem) => f9_town_L299 K340 n (x2 + (1 : Int32)) μ74) zF (0 : Int32) μ
def f9_town_L342 (K361 : zMem → zRes) : Nat → Int32 → zMem → zRes
  | 0, _, _ => none
  | n + 1, x2, μ => if (10 : Int32) ≤ x2 then K361 μ else zin x2 10 (zlet (zset μ 92 x2.toNatClampNeg (0 : Int32)) (fun (μ79 : zMem) => f9_town_L342 K361 n (x2 + (1 : Int32)) μ79))
def f9_town_L65 (K94 : zMem → zRes) : Nat → zMem → zRes
  | 0, _ => none
  | n + 1, μ => if (μ 0 5) = 0 then if (μ 0 2) ≤ (μ 0 4) then K94 μ else bnd0 (f9_clause μ) (fun (v89 : Int32) (μ90 : zMem) => bnd0 (f9_blanks μ90) (fun (v91 : Int32) (μ92 : zMem) => f9_town_L65 K94 n μ92)) else K94 μ
def f9_town (x1 : Int32) (μ : zMem) : zRes := zlet (zset μ 0 0 (0 : Int32)) (fun (μ1 : zMem) => bnd0 (f9_in x1 (0 : Int32) (μ1 0 1) μ1) (fun (v2 : Int32) (μ3 : zMem) => zlet (fun (s4 : Int32) => bnd0 (f9_bad s4 (1 : Int32) μ3) (fun (v5 : Int32) (μ6 : zMem) => if v5 = 0 then zlet (zset μ6 0 1 (0 : Int32)) (fun (μ9 : zMem) => zlet (zset μ9 0 2 x1) (fun (μ10 : zMem) => zlet (zset μ10 0 4 (0 : Int32)) (fun (μ11 : zMem) => zlet (zset μ11 0 5 (0 : Int32)) (fun (μ12 : zMem) => zlet (zset μ12 0 6 (-1 : Int32)) (fun (μ13 : zMem) => bnd0 (f9_asks μ13) (fun (v14 : Int32) (μ15 : zMem) => bnd0 (f9_blanks μ15) (fun (v16 : Int32) (μ17 : zMem) => zlet (fun (μ18 : zMem) => zlet (zset μ18 0 3 (μ18 0 6)) (fun (μ19 : zMem) => if (μ19 0 5) = 0 then f9_town_L119 (fun (μ27 : zMem) => f9_town_L145 (fun (μ38 : zMem) => f9_town_L189 (fun (μ44 : zMem) => f9_town_L215 (fun (μ55 : zMem) => f9_town_L258 (fun (μ61 : zMem) => zlet (zset μ61 0 20 (0 : Int32)) (fun (μ62 : zMem) => zlet (zset μ62 0 21 (0 : Int32)) (fun (μ63 : zMem) => zlet (zset μ63 0 22 (0 : Int32)) (fun (μ64 : zMem) => f9_town_L299 (fun (μ75 : zMem) => f9_town_L342 (fun (μ80 : zMem) => bnd0 (f9_dawns μ80) (fun (v81 : Int32) (μ82 : zMem) => zin (1 : Int32) 6 (some (0, μ82 4 (1 : Int32).toNatClampNeg, μ82)))) zF (0 : Int32) μ75) zF (0 : Int32) μ64)))) zF (0 : Int32) μ55) zF (0 : Int32) μ44) zF (0 : Int32) μ38) zF (0 : Int32) μ27) zF (0 : Int32) μ19 else some (0, (μ19 0 5) - (10 : Int32), μ19))) (fun j84 => f9_town_L65 (fun (μ93 : zMem) => j84 μ93) zF μ17)))))))) else some (0, (0 : Int32), μ6))) (fun j94 => if v2 = 0 then j94 (1 : Int32) else j94 (0 : Int32))))
set_option maxHeartbeats 1000000 in
theorem t9_town_L119 (K143 : zMem → zRes) (hK143 : ∀ (μ : zMem), zR yX9_town cX9_town 4 (some .int) 7 143 [.ref 0, .null, .null, .null] [] 1134 SM μ (K143 μ)) : ∀ (n : Nat) (x2 : Int32) (μ : zMem), zR yX9_town cX9_town 4 (some .int) 7 119 [.ref 0, .null, .int x2, .null] [] 1134 SM μ (f9_town_L119 K143 n x2 μ) := by
  intro n
  induction n with
  | zero => intro x2 μ; intro q hq; cases hq
  | succ n ih =>
    intro x2 μ
    unfold f9_town_L119
    refine z_iload_n (pc := 119) dX9_town_119 rfl ?_
    refine z_bipush (pc := 120) (6 : Int32) dX9_town_120 (by decide) ?_
    refine z_icmp_ge (pc := 122) (tgt := 143) dX9_town_122 (by decide) (fun c22 => ?_) (fun c23 => ?_)
    · refine z_loc (L' := [.ref 0, .null, .null, .null]) ⟨Or.inr rfl, ⟨Or.inl rfl, ⟨Or.inl rfl, ⟨Or.inl rfl, trivial⟩⟩⟩⟩ ?_
      exact hK143 μ
    · refine z_aload_n (pc := 125) dX9_town_125 rfl ?_
      refine z_getr (pc := 126) fdX9_23 (by decide) sm_0 rfl rfl dX9_town_126 ?_
      refine z_iload_n (pc := 129) dX9_town_129 rfl ?_
      refine z_aload_n (pc := 130) dX9_town_130 rfl ?_
      refine z_getr (pc := 131) fdX9_20 (by decide) sm_0 rfl rfl dX9_town_131 ?_
      refine z_iload_n (pc := 134) dX9_town_134 rfl ?_
      refine z_iald (pc := 135) (by decide) sm_3 rfl dX9_town_135 (fun h24 => ?_)
      refine z_iast (pc := 136) (by decide) sm_4 rfl dX9_town_136 (fun h25 => ?_)
      refine z_mem (fun μ26 => ?_)
      refine z_iinc (pc := 137) (v := x2 + (1 : Int32)) (L' := [.ref 0, .null, .int (x2 + (1 : Int32)), .null]) dX9_town_137 (by decide) rfl (congrArg _ (by decide)) rfl ?_
      refine z_goto (pc := 140) (tgt := 119) dX9_town_140 (by decide) ?_
      exact ih (x2 + (1 : Int32)) μ26
set_option maxHeartbeats 1000000 in
theorem t9_town_L153 (x2 : Int32) (K181 : zMem → zRes) (hK181 : ∀ (μ : zMem), zR yX9_town cX9_town 4 (some .int) 7 181 [.ref 0, .null, .int x2, .null] [] 1134 SM μ (K181 μ)) : ∀ (n : Nat) (x3 : Int32) (μ : zMem), zR yX9_town cX9_town 4 (some .int) 7 153 [.ref 0, .null, .int x2, .int x3] [] 1134 SM μ (f9_town_L153 x2 K181 n x3 μ) := by
  intro n
  induction n with
  | zero => intro x3 μ; intro q hq; cases hq
  | succ n ih =>
    intro x3 μ
    unfold f9_town_L153
    refine z_iload_n (pc := 153) dX9_town_153 rfl ?_
    refine z_bipush (pc := 154) (6 : Int32) dX9_town_154 (by decide) ?_
    refine z_icmp_ge (pc := 156) (tgt := 181) dX9_town_156 (by decide) (fun c30 => ?_) (fun c31 => ?_)
    · refine z_loc (L' := [.ref 0, .null, .int x2, .null]) ⟨Or.inr rfl, ⟨Or.inl rfl, ⟨Or.inr rfl, ⟨Or.inl rfl, trivial⟩⟩⟩⟩ ?_
      exact hK181 μ
    · refine z_aload_n (pc := 159) dX9_town_159 rfl ?_
      refine z_getr (pc := 160) fdX9_31 (by decide) sm_0 rfl rfl dX9_town_160 ?_
      refine z_iload_n (pc := 163) dX9_town_163 rfl ?_
      refine z_aald (pc := 164) (fun j => 15 + j) (by decide) sm_14 (Or.inl rfl) smg_14 dX9_town_164 (fun h32 => ?_)
      refine z_iload_n (pc := 165) dX9_town_165 rfl ?_
      refine z_aload_n (pc := 166) dX9_town_166 rfl ?_
      refine z_getr (pc := 167) fdX9_28 (by decide) sm_0 rfl rfl dX9_town_167 ?_
      refine z_iload_n (pc := 170) dX9_town_170 rfl ?_
      refine z_aald (pc := 171) (fun j => 6 + j) (by decide) sm_5 (Or.inl rfl) smg_5 dX9_town_171 (fun h33 => ?_)
      refine z_iload_n (pc := 172) dX9_town_172 rfl ?_
      refine z_iald (pc := 173) (smr_5 h33).2 (smr_5 h33).1 rfl dX9_town_173 (fun h34 => ?_)
      refine z_iast (pc := 174) (smr_14 h32).2 (smr_14 h32).1 rfl dX9_town_174 (fun h35 => ?_)
      refine z_mem (fun μ36 => ?_)
      refine z_iinc (pc := 175) (v := x3 + (1 : Int32)) (L' := [.ref 0, .null, .int x2, .int (x3 + (1 : Int32))]) dX9_town_175 (by decide) rfl (congrArg _ (by decide)) rfl ?_
      refine z_goto (pc := 178) (tgt := 153) dX9_town_178 (by decide) ?_
      exact ih (x3 + (1 : Int32)) μ36
set_option maxHeartbeats 1000000 in
theorem t9_town_L145 (K187 : zMem → zRes) (hK187 : ∀ (μ : zMem), zR yX9_town cX9_town 4 (some .int) 7 187 [.ref 0, .null, .null, .null] [] 1134 SM μ (K187 μ)) : ∀ (n : Nat) (x2 : Int32) (μ : zMem), zR yX9_town cX9_town 4 (some .int) 7 145 [.ref 0, .null, .int x2, .null] [] 1134 SM μ (f9_town_L145 K187 n x2 μ) := by
  intro n
  induction n with
  | zero => intro x2 μ; intro q hq; cases hq
  | succ n ih =>
    intro x2 μ
    unfold f9_town_L145
    refine z_iload_n (pc := 145) dX9_town_145 rfl ?_
    refine z_bipush (pc := 146) (8 : Int32) dX9_town_146 (by decide) ?_
    refine z_icmp_ge (pc := 148) (tgt := 187) dX9_town_148 (by decide) (fun c28 => ?_) (fun c29 => ?_)
    · refine z_loc (L' := [.ref 0, .null, .null, .null]) ⟨Or.inr rfl, ⟨Or.inl rfl, ⟨Or.inl rfl, ⟨Or.inl rfl, trivial⟩⟩⟩⟩ ?_
      exact hK187 μ
    · refine z_iconst (pc := 151) (0 : Int32) dX9_town_151 (by decide) ?_
      refine z_istore_n (pc := 152) (L' := [.ref 0, .null, .int x2, .int (0 : Int32)]) dX9_town_152 (by decide) rfl ?_
      refine t9_town_L153 _ _ (fun μ37 => ?_) zF _ _
      · refine z_iinc (pc := 181) (v := x2 + (1 : Int32)) (L' := [.ref 0, .null, .int (x2 + (1 : Int32)), .null]) dX9_town_181 (by decide) rfl (congrArg _ (by decide)) rfl ?_
        refine z_goto (pc := 184) (tgt := 145) dX9_town_184 (by decide) ?_
        exact ih (x2 + (1 : Int32)) μ37
set_option maxHeartbeats 1000000 in
theorem t9_town_L189 (K213 : zMem → zRes) (hK213 : ∀ (μ : zMem), zR yX9_town cX9_town 4 (some .int) 7 213 [.ref 0, .null, .null, .null] [] 1134 SM μ (K213 μ)) : ∀ (n : Nat) (x2 : Int32) (μ : zMem), zR yX9_town cX9_town 4 (some .int) 7 189 [.ref 0, .null, .int x2, .null] [] 1134 SM μ (f9_town_L189 K213 n x2 μ) := by
  intro n
  induction n with
  | zero => intro x2 μ; intro q hq; cases hq
  | succ n ih =>
    intro x2 μ
    unfold f9_town_L189
    refine z_iload_n (pc := 189) dX9_town_189 rfl ?_
    refine z_bipush (pc := 190) (8 : Int32) dX9_town_190 (by decide) ?_
    refine z_icmp_ge (pc := 192) (tgt := 213) dX9_town_192 (by decide) (fun c39 => ?_) (fun c40 => ?_)
    · refine z_loc (L' := [.ref 0, .null, .null, .null]) ⟨Or.inr rfl, ⟨Or.inl rfl, ⟨Or.inl rfl, ⟨Or.inl rfl, trivial⟩⟩⟩⟩ ?_
      exact hK213 μ
    · refine z_aload_n (pc := 195) dX9_town_195 rfl ?_
      refine z_getr (pc := 196) fdX9_49 (by decide) sm_0 rfl rfl dX9_town_196 ?_
      refine z_iload_n (pc := 199) dX9_town_199 rfl ?_
      refine z_aload_n (pc := 200) dX9_town_200 rfl ?_
      refine z_getr (pc := 201) fdX9_46 (by decide) sm_0 rfl rfl dX9_town_201 ?_
      refine z_iload_n (pc := 204) dX9_town_204 rfl ?_
      refine z_iald (pc := 205) (by decide) sm_48 rfl dX9_town_205 (fun h41 => ?_)
      refine z_iast (pc := 206) (by decide) sm_49 rfl dX9_town_206 (fun h42 => ?_)
      refine z_mem (fun μ43 => ?_)
      refine z_iinc (pc := 207) (v := x2 + (1 : Int32)) (L' := [.ref 0, .null, .int (x2 + (1 : Int32)), .null]) dX9_town_207 (by decide) rfl (congrArg _ (by decide)) rfl ?_
      refine z_goto (pc := 210) (tgt := 189) dX9_town_210 (by decide) ?_
      exact ih (x2 + (1 : Int32)) μ43
set_option maxHeartbeats 1000000 in
theorem t9_town_L223 (x2 : Int32) (K250 : zMem → zRes) (hK250 : ∀ (μ : zMem), zR yX9_town cX9_town 4 (some .int) 7 250 [.ref 0, .null, .int x2, .null] [] 1134 SM μ (K250 μ)) : ∀ (n : Nat) (x3 : Int32) (μ : zMem), zR yX9_town cX9_town 4 (some .int) 7 223 [.ref 0, .null, .int x2, .int x3] [] 1134 SM μ (f9_town_L223 x2 K250 n x3 μ) := by
  intro n
  induction n with
  | zero => intro x3 μ; intro q hq; cases hq
  | succ n ih =>
    intro x3 μ
    unfold f9_town_L223
    refine z_iload_n (pc := 223) dX9_town_223 rfl ?_
    refine z_iconst (pc := 224) (4 : Int32) dX9_town_224 (by decide) ?_
    refine z_icmp_ge (pc := 225) (tgt := 250) dX9_town_225 (by decide) (fun c47 => ?_) (fun c48 => ?_)
    · refine z_loc (L' := [.ref 0, .null, .int x2, .null]) ⟨Or.inr rfl, ⟨Or.inl rfl, ⟨Or.inr rfl, ⟨Or.inl rfl, trivial⟩⟩⟩⟩ ?_
      exact hK250 μ
    · refine z_aload_n (pc := 228) dX9_town_228 rfl ?_
      refine z_getr (pc := 229) fdX9_37 (by decide) sm_0 rfl rfl dX9_town_229 ?_
      refine z_iload_n (pc := 232) dX9_town_232 rfl ?_
      refine z_aald (pc := 233) (fun j => 36 + j) (by decide) sm_35 (Or.inl rfl) smg_35 dX9_town_233 (fun h49 => ?_)
      refine z_iload_n (pc := 234) dX9_town_234 rfl ?_
      refine z_aload_n (pc := 235) dX9_town_235 rfl ?_
      refine z_getr (pc := 236) fdX9_34 (by decide) sm_0 rfl rfl dX9_town_236 ?_
      refine z_iload_n (pc := 239) dX9_town_239 rfl ?_
      refine z_aald (pc := 240) (fun j => 25 + j) (by decide) sm_24 (Or.inl rfl) smg_24 dX9_town_240 (fun h50 => ?_)
      refine z_iload_n (pc := 241) dX9_town_241 rfl ?_
      refine z_iald (pc := 242) (smr_24 h50).2 (smr_24 h50).1 rfl dX9_town_242 (fun h51 => ?_)
      refine z_iast (pc := 243) (smr_35 h49).2 (smr_35 h49).1 rfl dX9_town_243 (fun h52 => ?_)
      refine z_mem (fun μ53 => ?_)
      refine z_iinc (pc := 244) (v := x3 + (1 : Int32)) (L' := [.ref 0, .null, .int x2, .int (x3 + (1 : Int32))]) dX9_town_244 (by decide) rfl (congrArg _ (by decide)) rfl ?_
      refine z_goto (pc := 247) (tgt := 223) dX9_town_247 (by decide) ?_
      exact ih (x3 + (1 : Int32)) μ53
set_option maxHeartbeats 1000000 in
theorem t9_town_L215 (K256 : zMem → zRes) (hK256 : ∀ (μ : zMem), zR yX9_town cX9_town 4 (some .int) 7 256 [.ref 0, .null, .null, .null] [] 1134 SM μ (K256 μ)) : ∀ (n : Nat) (x2 : Int32) (μ : zMem), zR yX9_town cX9_town 4 (some .int) 7 215 [.ref 0, .null, .int x2, .null] [] 1134 SM μ (f9_town_L215 K256 n x2 μ) := by
  intro n
  induction n with
  | zero => intro x2 μ; intro q hq; cases hq
  | succ n ih =>
    intro x2 μ
    unfold f9_town_L215
    refine z_iload_n (pc := 215) dX9_town_215 rfl ?_
    refine z_bipush (pc := 216) (10 : Int32) dX9_town_216 (by decide) ?_
    refine z_icmp_ge (pc := 218) (tgt := 256) dX9_town_218 (by decide) (fun c45 => ?_) (fun c46 => ?_)
    · refine z_loc (L' := [.ref 0, .null, .null, .null]) ⟨Or.inr rfl, ⟨Or.inl rfl, ⟨Or.inl rfl, ⟨Or.inl rfl, trivial⟩⟩⟩⟩ ?_
      exact hK256 μ
    · refine z_iconst (pc := 221) (0 : Int32) dX9_town_221 (by decide) ?_
      refine z_istore_n (pc := 222) (L' := [.ref 0, .null, .int x2, .int (0 : Int32)]) dX9_town_222 (by decide) rfl ?_
      refine t9_town_L223 _ _ (fun μ54 => ?_) zF _ _
      · refine z_iinc (pc := 250) (v := x2 + (1 : Int32)) (L' := [.ref 0, .null, .int (x2 + (1 : Int32)), .null]) dX9_town_250 (by decide) rfl (congrArg _ (by decide)) rfl ?_
        refine z_goto (pc := 253) (tgt := 215) dX9_town_253 (by decide) ?_
        exact ih (x2 + (1 : Int32)) μ54
set_option maxHeartbeats 1000000 in
theorem t9_town_L258 (K282 : zMem → zRes) (hK282 : ∀ (μ : zMem), zR yX9_town cX9_town 4 (some .int) 7 282 [.ref 0, .null, .null, .null] [] 1134 SM μ (K282 μ)) : ∀ (n : Nat) (x2 : Int32) (μ : zMem), zR yX9_town cX9_town 4 (some .int) 7 258 [.ref 0, .null, .int x2, .null] [] 1134 SM μ (f9_town_L258 K282 n x2 μ) := by
  intro n
  induction n with
  | zero => intro x2 μ; intro q hq; cases hq
  | succ n ih =>
    intro x2 μ
    unfold f9_town_L258
    refine z_iload_n (pc := 258) dX9_town_258 rfl ?_
    refine z_bipush (pc := 259) (7 : Int32) dX9_town_259 (by decide) ?_
    refine z_icmp_ge (pc := 261) (tgt := 282) dX9_town_261 (by decide) (fun c56 => ?_) (fun c57 => ?_)
    · refine z_loc (L' := [.ref 0, .null, .null, .null]) ⟨Or.inr rfl, ⟨Or.inl rfl, ⟨Or.inl rfl, ⟨Or.inl rfl, trivial⟩⟩⟩⟩ ?_
      exact hK282 μ
    · refine z_aload_n (pc := 264) dX9_town_264 rfl ?_
      refine z_getr (pc := 265) fdX9_43 (by decide) sm_0 rfl rfl dX9_town_265 ?_
      refine z_iload_n (pc := 268) dX9_town_268 rfl ?_
      refine z_aload_n (pc := 269) dX9_town_269 rfl ?_
      refine z_getr (pc := 270) fdX9_40 (by decide) sm_0 rfl rfl dX9_town_270 ?_
      refine z_iload_n (pc := 273) dX9_town_273 rfl ?_
      refine z_iald (pc := 274) (by decide) sm_46 rfl dX9_town_274 (fun h58 => ?_)
      refine z_iast (pc := 275) (by decide) sm_47 rfl dX9_town_275 (fun h59 => ?_)
      refine z_mem (fun μ60 => ?_)
      refine z_iinc (pc := 276) (v := x2 + (1 : Int32)) (L' := [.ref 0, .null, .int (x2 + (1 : Int32)), .null]) dX9_town_276 (by decide) rfl (congrArg _ (by decide)) rfl ?_
      refine z_goto (pc := 279) (tgt := 258) dX9_town_279 (by decide) ?_
      exact ih (x2 + (1 : Int32)) μ60
set_option maxHeartbeats 1000000 in
theorem t9_town_L307 (x2 : Int32) (K334 : zMem → zRes) (hK334 : ∀ (μ : zMem), zR yX9_town cX9_town 4 (some .int) 7 334 [.ref 0, .null, .int x2, .null] [] 1134 SM μ (K334 μ)) : ∀ (n : Nat) (x3 : Int32) (μ : zMem), zR yX9_town cX9_town 4 (some .int) 7 307 [.ref 0, .null, .int x2, .int x3] [] 1134 SM μ (f9_town_L307 x2 K334 n x3 μ) := by
  intro n
  induction n with
  | zero => intro x3 μ; intro q hq; cases hq
  | succ n ih =>
    intro x3 μ
    unfold f9_town_L307
    refine z_iload_n (pc := 307) dX9_town_307 rfl ?_
    refine z_iconst (pc := 308) (4 : Int32) dX9_town_308 (by decide) ?_
    refine z_icmp_ge (pc := 309) (tgt := 334) dX9_town_309 (by decide) (fun c67 => ?_) (fun c68 => ?_)
    · refine z_loc (L' := [.ref 0, .null, .int x2, .null]) ⟨Or.inr rfl, ⟨Or.inl rfl, ⟨Or.inr rfl, ⟨Or.inl rfl, trivial⟩⟩⟩⟩ ?_
      exact hK334 μ
    · refine z_aload_n (pc := 312) dX9_town_312 rfl ?_
      refine z_getr (pc := 313) fdX9_52 (by decide) sm_0 rfl rfl dX9_town_313 ?_
      refine z_iload_n (pc := 316) dX9_town_316 rfl ?_
      refine z_aald (pc := 317) (fun j => 51 + j) (by decide) sm_50 (Or.inl rfl) smg_50 dX9_town_317 (fun h69 => ?_)
      refine z_iload_n (pc := 318) dX9_town_318 rfl ?_
      refine z_aload_n (pc := 319) dX9_town_319 rfl ?_
      refine z_getr (pc := 320) fdX9_31 (by decide) sm_0 rfl rfl dX9_town_320 ?_
      refine z_iload_n (pc := 323) dX9_town_323 rfl ?_
      refine z_aald (pc := 324) (fun j => 15 + j) (by decide) sm_14 (Or.inl rfl) smg_14 dX9_town_324 (fun h70 => ?_)
      refine z_iload_n (pc := 325) dX9_town_325 rfl ?_
      refine z_iald (pc := 326) (smr_14 h70).2 (smr_14 h70).1 rfl dX9_town_326 (fun h71 => ?_)
      refine z_iast (pc := 327) (smr_50 h69).2 (smr_50 h69).1 rfl dX9_town_327 (fun h72 => ?_)
      refine z_mem (fun μ73 => ?_)
      refine z_iinc (pc := 328) (v := x3 + (1 : Int32)) (L' := [.ref 0, .null, .int x2, .int (x3 + (1 : Int32))]) dX9_town_328 (by decide) rfl (congrArg _ (by decide)) rfl ?_
      refine z_goto (pc := 331) (tgt := 307) dX9_town_331 (by decide) ?_
      exact ih (x3 + (1 : Int32)) μ73
set_option maxHeartbeats 1000000 in
theorem t9_town_L299 (K340 : zMem → zRes) (hK340 : ∀ (μ : zMem), zR yX9_town cX9_town 4 (some .int) 7 340 [.ref 0, .null, .null, .null] [] 1134 SM μ (K340 μ)) : ∀ (n : Nat) (x2 : Int32) (μ : zMem), zR yX9_town cX9_town 4 (some .int) 7 299 [.ref 0, .null, .int x2, .null] [] 1134 SM μ (f9_town_L299 K340 n x2 μ) := by
  intro n
  induction n with
  | zero => intro x2 μ; intro q hq; cases hq
  | succ n ih =>
    intro x2 μ
    unfold f9_town_L299
    refine z_iload_n (pc := 299) dX9_town_299 rfl ?_
    refine z_bipush (pc := 300) (8 : Int32) dX9_town_300 (by decide) ?_
    refine z_icmp_ge (pc := 302) (tgt := 340) dX9_town_302 (by decide) (fun c65 => ?_) (fun c66 => ?_)
    · refine z_loc (L' := [.ref 0, .null, .null, .null]) ⟨Or.inr rfl, ⟨Or.inl rfl, ⟨Or.inl rfl, ⟨Or.inl rfl, trivial⟩⟩⟩⟩ ?_
      exact hK340 μ
    · refine z_iconst (pc := 305) (0 : Int32) dX9_town_305 (by decide) ?_
      refine z_istore_n (pc := 306) (L' := [.ref 0, .null, .int x2, .int (0 : Int32)]) dX9_town_306 (by decide) rfl ?_
      refine t9_town_L307 _ _ (fun μ74 => ?_) zF _ _
      · refine z_iinc (pc := 334) (v := x2 + (1 : Int32)) (L' := [.ref 0, .null, .int (x2 + (1 : Int32)), .null]) dX9_town_334 (by decide) rfl (congrArg _ (by decide)) rfl ?_
        refine z_goto (pc := 337) (tgt := 299) dX9_town_337 (by decide) ?_
        exact ih (x2 + (1 : Int32)) μ74
set_option maxHeartbeats 1000000 in
theorem t9_town_L342 (K361 : zMem → zRes) (hK361 : ∀ (μ : zMem), zR yX9_town cX9_town 4 (some .int) 7 361 [.ref 0, .null, .null, .null] [] 1134 SM μ (K361 μ)) : ∀ (n : Nat) (x2 : Int32) (μ : zMem), zR yX9_town cX9_town 4 (some .int) 7 342 [.ref 0, .null, .int x2, .null] [] 1134 SM μ (f9_town_L342 K361 n x2 μ) := by
  intro n
  induction n with
  | zero => intro x2 μ; intro q hq; cases hq
  | succ n ih =>
    intro x2 μ
    unfold f9_town_L342
    refine z_iload_n (pc := 342) dX9_town_342 rfl ?_
    refine z_bipush (pc := 343) (10 : Int32) dX9_town_343 (by decide) ?_
    refine z_icmp_ge (pc := 345) (tgt := 361) dX9_town_345 (by decide) (fun c76 => ?_) (fun c77 => ?_)
    · refine z_loc (L' := [.ref 0, .null, .null, .null]) ⟨Or.inr rfl, ⟨Or.inl rfl, ⟨Or.inl rfl, ⟨Or.inl rfl, trivial⟩⟩⟩⟩ ?_
      exact hK361 μ
    · refine z_aload_n (pc := 348) dX9_town_348 rfl ?_
      refine z_getr (pc := 349) fdX9_61 (by decide) sm_0 rfl rfl dX9_town_349 ?_
      refine z_iload_n (pc := 352) dX9_town_352 rfl ?_
      refine z_iconst (pc := 353) (0 : Int32) dX9_town_353 (by decide) ?_
      refine z_iast (pc := 354) (by decide) sm_92 rfl dX9_town_354 (fun h78 => ?_)
      refine z_mem (fun μ79 => ?_)
      refine z_iinc (pc := 355) (v := x2 + (1 : Int32)) (L' := [.ref 0, .null, .int (x2 + (1 : Int32)), .null]) dX9_town_355 (by decide) rfl (congrArg _ (by decide)) rfl ?_
      refine z_goto (pc := 358) (tgt := 342) dX9_town_358 (by decide) ?_
      exact ih (x2 + (1 : Int32)) μ79
set_option maxHeartbeats 1000000 in
theorem t9_town_L65 (K94 : zMem → zRes) (hK94 : ∀ (μ : zMem), zR yX9_town cX9_town 4 (some .int) 7 94 [.ref 0, .null, .null, .null] [] 1134 SM μ (K94 μ)) : ∀ (n : Nat) (μ : zMem), zR yX9_town cX9_town 4 (some .int) 7 65 [.ref 0, .null, .null, .null] [] 1134 SM μ (f9_town_L65 K94 n μ) := by
  intro n
  induction n with
  | zero => intro μ; intro q hq; cases hq
  | succ n ih =>
    intro μ
    unfold f9_town_L65
    refine z_aload_n (pc := 65) dX9_town_65 rfl ?_
    refine z_geti (pc := 66) fdX9_122 (by decide) sm_0 rfl dX9_town_66 ?_
    refine z_if_ne (pc := 69) (tgt := 94) dX9_town_69 (by decide) (fun c85 => ?_) (fun c86 => ?_)
    · exact hK94 μ
    · refine z_aload_n (pc := 72) dX9_town_72 rfl ?_
      refine z_geti (pc := 73) fdX9_115 (by decide) sm_0 rfl dX9_town_73 ?_
      refine z_aload_n (pc := 76) dX9_town_76 rfl ?_
      refine z_geti (pc := 77) fdX9_112 (by decide) sm_0 rfl dX9_town_77 ?_
      refine z_icmp_ge (pc := 80) (tgt := 94) dX9_town_80 (by decide) (fun c87 => ?_) (fun c88 => ?_)
      · exact hK94 μ
      · refine z_aload_n (pc := 83) dX9_town_83 rfl ?_
        refine z_callV (As := []) (pc := 84) (ret' := none) kvX9_195 (t9_clause _) (by decide) (by decide) sm_0  rfl rfl (Nat.le_of_ble_eq_true rfl) dX9_town_84 (fun v89 μ90 => ?_)
        refine z_aload_n (pc := 87) dX9_town_87 rfl ?_
        refine z_callV (As := []) (pc := 88) (ret' := none) kvX9_128 (t9_blanks _) (by decide) (by decide) sm_0  rfl rfl (Nat.le_of_ble_eq_true rfl) dX9_town_88 (fun v91 μ92 => ?_)
        refine z_goto (pc := 91) (tgt := 65) dX9_town_91 (by decide) ?_
        exact ih μ92
set_option maxHeartbeats 1000000 in
theorem t9_town (x1 : Int32) (μ : zMem) : zMR yX9_town cX9_town 4 (some .int) 7 [.ref 0, .int x1] 1134 SM μ (f9_town x1 μ) := by
  refine zMR_of (by decide +kernel) rfl (Nat.le_of_ble_eq_true rfl) (L := [.ref 0, .int x1, .null, .null]) rfl ?_
  unfold f9_town
  refine z_aload_n (pc := 0) dX9_town_0 rfl ?_
  refine z_iconst (pc := 1) (0 : Int32) dX9_town_1 (by decide) ?_
  refine z_puti (pc := 2) fdX9_106 (by decide) sm_0 rfl rfl dX9_town_2 ?_
  refine z_mem (fun μ1 => ?_)
  refine z_aload_n (pc := 5) dX9_town_5 rfl ?_
  refine z_iload_n (pc := 6) dX9_town_6 rfl ?_
  refine z_iconst (pc := 7) (0 : Int32) dX9_town_7 (by decide) ?_
  refine z_aload_n (pc := 8) dX9_town_8 rfl ?_
  refine z_geti (pc := 9) fdX9_109 (by decide) sm_0 rfl dX9_town_9 ?_
  refine z_callS (As := [.int x1, .int (0 : Int32), .int (μ1 0 1)]) (pc := 12) (ret' := some .boolean) ksX9_140 (t9_in _ _ _ _) (by decide)  rfl rfl (Nat.le_of_ble_eq_true rfl) dX9_town_12 (fun v2 μ3 => ?_)
  refine z_let (fun (j : Int32 → zRes) => ∀ (s4 : Int32), zR yX9_town cX9_town 4 (some .int) 7 23 [.ref 0, .int x1, .null, .null] [.int s4, .ref 0] 1134 SM μ3 (j s4)) ?_ (fun j94 hj94 => ?_)
  · intro s4
    refine z_iconst (pc := 23) (1 : Int32) dX9_town_23 (by decide) ?_
    refine z_callV (As := [.int s4, .int (1 : Int32)]) (pc := 24) (ret' := some .boolean) kvX9_188 (t9_bad _ _ _) (by decide) (by decide) sm_0  rfl rfl (Nat.le_of_ble_eq_true rfl) dX9_town_24 (fun v5 μ6 => ?_)
    refine z_if_eq (pc := 27) (tgt := 32) dX9_town_27 (by decide) (fun c7 => ?_) (fun c8 => ?_)
    · refine z_aload_n (pc := 32) dX9_town_32 rfl ?_
      refine z_iconst (pc := 33) (0 : Int32) dX9_town_33 (by decide) ?_
      refine z_puti (pc := 34) fdX9_109 (by decide) sm_0 rfl rfl dX9_town_34 ?_
      refine z_mem (fun μ9 => ?_)
      refine z_aload_n (pc := 37) dX9_town_37 rfl ?_
      refine z_iload_n (pc := 38) dX9_town_38 rfl ?_
      refine z_puti (pc := 39) fdX9_112 (by decide) sm_0 rfl rfl dX9_town_39 ?_
      refine z_mem (fun μ10 => ?_)
      refine z_aload_n (pc := 42) dX9_town_42 rfl ?_
      refine z_iconst (pc := 43) (0 : Int32) dX9_town_43 (by decide) ?_
      refine z_puti (pc := 44) fdX9_115 (by decide) sm_0 rfl rfl dX9_town_44 ?_
      refine z_mem (fun μ11 => ?_)
      refine z_aload_n (pc := 47) dX9_town_47 rfl ?_
      refine z_iconst (pc := 48) (0 : Int32) dX9_town_48 (by decide) ?_
      refine z_puti (pc := 49) fdX9_122 (by decide) sm_0 rfl rfl dX9_town_49 ?_
      refine z_mem (fun μ12 => ?_)
      refine z_aload_n (pc := 52) dX9_town_52 rfl ?_
      refine z_iconst (pc := 53) (-1 : Int32) dX9_town_53 (by decide) ?_
      refine z_puti (pc := 54) fdX9_125 (by decide) sm_0 rfl rfl dX9_town_54 ?_
      refine z_mem (fun μ13 => ?_)
      refine z_aload_n (pc := 57) dX9_town_57 rfl ?_
      refine z_callV (As := []) (pc := 58) (ret' := none) kvX9_192 (t9_asks _) (by decide) (by decide) sm_0  rfl rfl (Nat.le_of_ble_eq_true rfl) dX9_town_58 (fun v14 μ15 => ?_)
      refine z_aload_n (pc := 61) dX9_town_61 rfl ?_
      refine z_callV (As := []) (pc := 62) (ret' := none) kvX9_128 (t9_blanks _) (by decide) (by decide) sm_0  rfl rfl (Nat.le_of_ble_eq_true rfl) dX9_town_62 (fun v16 μ17 => ?_)
      refine z_let (fun (j : zMem → zRes) => ∀ (μ18 : zMem), zR yX9_town cX9_town 4 (some .int) 7 94 [.ref 0, .null, .null, .null] [] 1134 SM μ18 (j μ18)) ?_ (fun j84 hj84 => ?_)
      · intro μ18
        refine z_aload_n (pc := 94) dX9_town_94 rfl ?_
        refine z_aload_n (pc := 95) dX9_town_95 rfl ?_
        refine z_geti (pc := 96) fdX9_125 (by decide) sm_0 rfl dX9_town_96 ?_
        refine z_puti (pc := 99) fdX9_9 (by decide) sm_0 rfl rfl dX9_town_99 ?_
        refine z_mem (fun μ19 => ?_)
        refine z_aload_n (pc := 102) dX9_town_102 rfl ?_
        refine z_geti (pc := 103) fdX9_122 (by decide) sm_0 rfl dX9_town_103 ?_
        refine z_if_eq (pc := 106) (tgt := 117) dX9_town_106 (by decide) (fun c20 => ?_) (fun c21 => ?_)
        · refine z_iconst (pc := 117) (0 : Int32) dX9_town_117 (by decide) ?_
          refine z_istore_n (pc := 118) (L' := [.ref 0, .null, .int (0 : Int32), .null]) dX9_town_118 (by decide) rfl ?_
          refine t9_town_L119 _ (fun μ27 => ?_) zF _ _
          · refine z_iconst (pc := 143) (0 : Int32) dX9_town_143 (by decide) ?_
            refine z_istore_n (pc := 144) (L' := [.ref 0, .null, .int (0 : Int32), .null]) dX9_town_144 (by decide) rfl ?_
            refine t9_town_L145 _ (fun μ38 => ?_) zF _ _
            · refine z_iconst (pc := 187) (0 : Int32) dX9_town_187 (by decide) ?_
              refine z_istore_n (pc := 188) (L' := [.ref 0, .null, .int (0 : Int32), .null]) dX9_town_188 (by decide) rfl ?_
              refine t9_town_L189 _ (fun μ44 => ?_) zF _ _
              · refine z_iconst (pc := 213) (0 : Int32) dX9_town_213 (by decide) ?_
                refine z_istore_n (pc := 214) (L' := [.ref 0, .null, .int (0 : Int32), .null]) dX9_town_214 (by decide) rfl ?_
                refine t9_town_L215 _ (fun μ55 => ?_) zF _ _
                · refine z_iconst (pc := 256) (0 : Int32) dX9_town_256 (by decide) ?_
                  refine z_istore_n (pc := 257) (L' := [.ref 0, .null, .int (0 : Int32), .null]) dX9_town_257 (by decide) rfl ?_
                  refine t9_town_L258 _ (fun μ61 => ?_) zF _ _
                  · refine z_aload_n (pc := 282) dX9_town_282 rfl ?_
                    refine z_iconst (pc := 283) (0 : Int32) dX9_town_283 (by decide) ?_
                    refine z_puti (pc := 284) fdX9_198 (by decide) sm_0 rfl rfl dX9_town_284 ?_
                    refine z_mem (fun μ62 => ?_)
                    refine z_aload_n (pc := 287) dX9_town_287 rfl ?_
                    refine z_iconst (pc := 288) (0 : Int32) dX9_town_288 (by decide) ?_
                    refine z_puti (pc := 289) fdX9_201 (by decide) sm_0 rfl rfl dX9_town_289 ?_
                    refine z_mem (fun μ63 => ?_)
                    refine z_aload_n (pc := 292) dX9_town_292 rfl ?_
                    refine z_iconst (pc := 293) (0 : Int32) dX9_town_293 (by decide) ?_
                    refine z_puti (pc := 294) fdX9_204 (by decide) sm_0 rfl rfl dX9_town_294 ?_
                    refine z_mem (fun μ64 => ?_)
                    refine z_iconst (pc := 297) (0 : Int32) dX9_town_297 (by decide) ?_
                    refine z_istore_n (pc := 298) (L' := [.ref 0, .null, .int (0 : Int32), .null]) dX9_town_298 (by decide) rfl ?_
                    refine t9_town_L299 _ (fun μ75 => ?_) zF _ _
                    · refine z_iconst (pc := 340) (0 : Int32) dX9_town_340 (by decide) ?_
                      refine z_istore_n (pc := 341) (L' := [.ref 0, .null, .int (0 : Int32), .null]) dX9_town_341 (by decide) rfl ?_
                      refine t9_town_L342 _ (fun μ80 => ?_) zF _ _
                      · refine z_aload_n (pc := 361) dX9_town_361 rfl ?_
                        refine z_callV (As := []) (pc := 362) (ret' := none) kvX9_207 (t9_dawns _) (by decide) (by decide) sm_0  rfl rfl (Nat.le_of_ble_eq_true rfl) dX9_town_362 (fun v81 μ82 => ?_)
                        refine z_aload_n (pc := 365) dX9_town_365 rfl ?_
                        refine z_getr (pc := 366) fdX9_23 (by decide) sm_0 rfl rfl dX9_town_366 ?_
                        refine z_iconst (pc := 369) (1 : Int32) dX9_town_369 (by decide) ?_
                        refine z_iald (pc := 370) (by decide) sm_4 rfl dX9_town_370 (fun h83 => ?_)
                        exact z_iret (pc := 371) rfl dX9_town_371
        · refine z_aload_n (pc := 109) dX9_town_109 rfl ?_
          refine z_geti (pc := 110) fdX9_122 (by decide) sm_0 rfl dX9_town_110 ?_
          refine z_bipush (pc := 113) (10 : Int32) dX9_town_113 (by decide) ?_
          refine z_isub (pc := 115) dX9_town_115 ?_
          exact z_iret (pc := 116) rfl dX9_town_116
      · refine z_loc (L' := [.ref 0, .null, .null, .null]) ⟨Or.inr rfl, ⟨Or.inl rfl, ⟨Or.inl rfl, ⟨Or.inl rfl, trivial⟩⟩⟩⟩ ?_
        refine t9_town_L65 _ (fun μ93 => ?_) zF _
        · exact hj84 μ93
    · refine z_iconst (pc := 30) (0 : Int32) dX9_town_30 (by decide) ?_
      exact z_iret (pc := 31) rfl dX9_town_31
  · refine z_if_ne (pc := 15) (tgt := 22) dX9_town_15 (by decide) (fun c95 => ?_) (fun c96 => ?_)
    · refine z_iconst (pc := 22) (0 : Int32) dX9_town_22 (by decide) ?_
      exact hj94 (0 : Int32)
    · refine z_iconst (pc := 18) (1 : Int32) dX9_town_18 (by decide) ?_
      refine z_goto (pc := 19) (tgt := 23) dX9_town_19 (by decide) ?_
      exact hj94 (1 : Int32)
def f9_fault (μ : zMem) : zRes := zlet (zset μ 0 0 (0 : Int32)) (fun (μ1 : zMem) => some (0, μ1 0 3, μ1))
set_option maxHeartbeats 1000000 in
theorem t9_fault (μ : zMem) : zMR yX9_fault cX9_fault 1 (some .int) 1 [.ref 0] 1134 SM μ (f9_fault μ) := by
  refine zMR_of (by decide +kernel) rfl (Nat.le_of_ble_eq_true rfl) (L := [.ref 0]) rfl ?_
  unfold f9_fault
  refine z_aload_n (pc := 0) dX9_fault_0 rfl ?_
  refine z_iconst (pc := 1) (0 : Int32) dX9_fault_1 (by decide) ?_
  refine z_puti (pc := 2) fdX9_106 (by decide) sm_0 rfl rfl dX9_fault_2 ?_
  refine z_mem (fun μ1 => ?_)
  refine z_aload_n (pc := 5) dX9_fault_5 rfl ?_
  refine z_geti (pc := 6) fdX9_9 (by decide) sm_0 rfl dX9_fault_6 ?_
  exact z_iret (pc := 9) rfl dX9_fault_9
def f9_isKin (x1 : Int32) (x2 : Int32) (μ : zMem) : zRes := zin x1 9 (zlet (fun (s2 : Int32) => zbl s2 (some (0, s2, μ))) (fun j3 => if ((zshr (μ 49 x1.toNatClampNeg) x2) &&& (1 : Int32)) = (1 : Int32) then j3 (1 : Int32) else j3 (0 : Int32)))
set_option maxHeartbeats 1000000 in
theorem t9_isKin (x1 : Int32) (x2 : Int32) (μ : zMem) : zMR yX9_isKin cX9_isKin 3 (some .boolean) 1 [.ref 0, .int x1, .int x2] 1134 SM μ (f9_isKin x1 x2 μ) := by
  refine zMR_of (by decide +kernel) rfl (Nat.le_of_ble_eq_true rfl) (L := [.ref 0, .int x1, .int x2]) rfl ?_
  unfold f9_isKin
  refine z_aload_n (pc := 0) dX9_isKin_0 rfl ?_
  refine z_getr (pc := 1) fdX9_49 (by decide) sm_0 rfl rfl dX9_isKin_1 ?_
  refine z_iload_n (pc := 4) dX9_isKin_4 rfl ?_
  refine z_iald (pc := 5) (by decide) sm_49 rfl dX9_isKin_5 (fun h1 => ?_)
  refine z_iload_n (pc := 6) dX9_isKin_6 rfl ?_
  refine z_ishr (pc := 7) dX9_isKin_7 ?_
  refine z_iconst (pc := 8) (1 : Int32) dX9_isKin_8 (by decide) ?_
  refine z_iand (pc := 9) dX9_isKin_9 ?_
  refine z_iconst (pc := 10) (1 : Int32) dX9_isKin_10 (by decide) ?_
  refine z_let (fun (j : Int32 → zRes) => ∀ (s2 : Int32), zR yX9_isKin cX9_isKin 3 (some .boolean) 1 19 [.null, .null, .null] [.int s2] 1134 SM μ (j s2)) ?_ (fun j3 hj3 => ?_)
  · intro s2
    exact z_zret (pc := 19) rfl dX9_isKin_19
  · refine z_icmp_ne (pc := 11) (tgt := 18) dX9_isKin_11 (by decide) (fun c4 => ?_) (fun c5 => ?_)
    · refine z_iconst (pc := 18) (0 : Int32) dX9_isKin_18 (by decide) ?_
      refine z_loc (L' := [.null, .null, .null]) ⟨Or.inl rfl, ⟨Or.inl rfl, ⟨Or.inl rfl, trivial⟩⟩⟩ ?_
      exact hj3 (0 : Int32)
    · refine z_iconst (pc := 14) (1 : Int32) dX9_isKin_14 (by decide) ?_
      refine z_goto (pc := 15) (tgt := 19) dX9_isKin_15 (by decide) ?_
      refine z_loc (L' := [.null, .null, .null]) ⟨Or.inl rfl, ⟨Or.inl rfl, ⟨Or.inl rfl, trivial⟩⟩⟩ ?_
      exact hj3 (1 : Int32)
def f9_told_L59 (x3 : Int32) (K89 : Int32 → zMem → zRes) : Nat → Int32 → Int32 → zMem → zRes
  | 0, _, _, _ => none
  | n + 1, x2, x4, μ => if x3 ≤ x4 then K89 x2 μ else bnd0 (f9_isKin x3 x4 μ) (fun (v16 : Int32) (μ17 : zMem) => zlet (fun (s18 : Int32) => zlet (x2 + s18) (fun (v19 : Int32) => f9_told_L59 x3 K89 n v19 (x4 + (1 : Int32)) μ17)) (fun j20 => if v16 = 0 then j20 (0 : Int32) else j20 (1 : Int32)))
def f9_told_L46 (K95 : Int32 → zMem → zRes) : Nat → Int32 → Int32 → zMem → zRes
  | 0, _, _, _ => none
  | n + 1, x2, x3, μ => zin (1 : Int32) 6 (if (μ 4 (1 : Int32).toNatClampNeg) ≤ x3 then K95 x2 μ else f9_told_L59 x3 (fun (x2_23 : Int32) (μ24 : zMem) => f9_told_L46 K95 n x2_23 (x3 + (1 : Int32)) μ24) zF x2 (0 : Int32) μ)
def f9_told (x1 : Int32) (μ : zMem) : zRes := zlet (zset μ 0 0 (0 : Int32)) (fun (μ1 : zMem) => bnd0 (f9_in x1 (0 : Int32) (6 : Int32) μ1) (fun (v2 : Int32) (μ3 : zMem) => zlet (fun (s4 : Int32) => bnd0 (f9_bad s4 (1 : Int32) μ3) (fun (v5 : Int32) (μ6 : zMem) => if v5 = 0 then if (5 : Int32) ≤ x1 then f9_told_L46 (fun (x2_25 : Int32) (μ26 : zMem) => zlet (fun (s27 : Int32) => some (0, s27, μ26)) (fun j28 => if x1 = (5 : Int32) then j28 x2_25 else zin (5 : Int32) 6 (j28 (μ26 4 (5 : Int32).toNatClampNeg)))) zF (0 : Int32) (0 : Int32) μ6 else zin x1 6 (some (0, μ6 4 x1.toNatClampNeg, μ6)) else some (0, (0 : Int32), μ6))) (fun j33 => if v2 = 0 then j33 (1 : Int32) else j33 (0 : Int32))))
set_option maxHeartbeats 1000000 in
theorem t9_told_L59 (x1 : Int32) (x3 : Int32) (K89 : Int32 → zMem → zRes) (hK89 : ∀ (x2 : Int32) (μ : zMem), zR yX9_told cX9_told 5 (some .int) 2 89 [.ref 0, .int x1, .int x2, .int x3, .null] [] 1134 SM μ (K89 x2 μ)) : ∀ (n : Nat) (x2 : Int32) (x4 : Int32) (μ : zMem), zR yX9_told cX9_told 5 (some .int) 2 59 [.ref 0, .int x1, .int x2, .int x3, .int x4] [] 1134 SM μ (f9_told_L59 x3 K89 n x2 x4 μ) := by
  intro n
  induction n with
  | zero => intro x2 x4 μ; intro q hq; cases hq
  | succ n ih =>
    intro x2 x4 μ
    unfold f9_told_L59
    refine z_iload (pc := 59) dX9_told_59 rfl ?_
    refine z_iload_n (pc := 61) dX9_told_61 rfl ?_
    refine z_icmp_ge (pc := 62) (tgt := 89) dX9_told_62 (by decide) (fun c14 => ?_) (fun c15 => ?_)
    · refine z_loc (L' := [.ref 0, .int x1, .int x2, .int x3, .null]) ⟨Or.inr rfl, ⟨Or.inr rfl, ⟨Or.inr rfl, ⟨Or.inr rfl, ⟨Or.inl rfl, trivial⟩⟩⟩⟩⟩ ?_
      exact hK89 x2 μ
    · refine z_iload_n (pc := 65) dX9_told_65 rfl ?_
      refine z_aload_n (pc := 66) dX9_told_66 rfl ?_
      refine z_iload_n (pc := 67) dX9_told_67 rfl ?_
      refine z_iload (pc := 68) dX9_told_68 rfl ?_
      refine z_callV (As := [.int x3, .int x4]) (pc := 70) (ret' := some .boolean) kvX9_210 (t9_isKin _ _ _) (by decide) (by decide) sm_0  rfl rfl (Nat.le_of_ble_eq_true rfl) dX9_told_70 (fun v16 μ17 => ?_)
      refine z_let (fun (j : Int32 → zRes) => ∀ (s18 : Int32), zR yX9_told cX9_told 5 (some .int) 2 81 [.ref 0, .int x1, .null, .int x3, .int x4] [.int s18, .int x2] 1134 SM μ17 (j s18)) ?_ (fun j20 hj20 => ?_)
      · intro s18
        refine z_iadd (pc := 81) dX9_told_81 ?_
        refine z_val (fun v19 => ?_)
        refine z_istore_n (pc := 82) (L' := [.ref 0, .int x1, .int v19, .int x3, .int x4]) dX9_told_82 (by decide) rfl ?_
        refine z_iinc (pc := 83) (v := x4 + (1 : Int32)) (L' := [.ref 0, .int x1, .int v19, .int x3, .int (x4 + (1 : Int32))]) dX9_told_83 (by decide) rfl (congrArg _ (by decide)) rfl ?_
        refine z_goto (pc := 86) (tgt := 59) dX9_told_86 (by decide) ?_
        exact ih v19 (x4 + (1 : Int32)) μ17
      · refine z_if_eq (pc := 73) (tgt := 80) dX9_told_73 (by decide) (fun c21 => ?_) (fun c22 => ?_)
        · refine z_iconst (pc := 80) (0 : Int32) dX9_told_80 (by decide) ?_
          refine z_loc (L' := [.ref 0, .int x1, .null, .int x3, .int x4]) ⟨Or.inr rfl, ⟨Or.inr rfl, ⟨Or.inl rfl, ⟨Or.inr rfl, ⟨Or.inr rfl, trivial⟩⟩⟩⟩⟩ ?_
          exact hj20 (0 : Int32)
        · refine z_iconst (pc := 76) (1 : Int32) dX9_told_76 (by decide) ?_
          refine z_goto (pc := 77) (tgt := 81) dX9_told_77 (by decide) ?_
          refine z_loc (L' := [.ref 0, .int x1, .null, .int x3, .int x4]) ⟨Or.inr rfl, ⟨Or.inr rfl, ⟨Or.inl rfl, ⟨Or.inr rfl, ⟨Or.inr rfl, trivial⟩⟩⟩⟩⟩ ?_
          exact hj20 (1 : Int32)
set_option maxHeartbeats 1000000 in
theorem t9_told_L46 (x1 : Int32) (K95 : Int32 → zMem → zRes) (hK95 : ∀ (x2 : Int32) (μ : zMem), zR yX9_told cX9_told 5 (some .int) 2 95 [.ref 0, .int x1, .int x2, .null, .null] [] 1134 SM μ (K95 x2 μ)) : ∀ (n : Nat) (x2 : Int32) (x3 : Int32) (μ : zMem), zR yX9_told cX9_told 5 (some .int) 2 46 [.ref 0, .int x1, .int x2, .int x3, .null] [] 1134 SM μ (f9_told_L46 K95 n x2 x3 μ) := by
  intro n
  induction n with
  | zero => intro x2 x3 μ; intro q hq; cases hq
  | succ n ih =>
    intro x2 x3 μ
    unfold f9_told_L46
    refine z_iload_n (pc := 46) dX9_told_46 rfl ?_
    refine z_aload_n (pc := 47) dX9_told_47 rfl ?_
    refine z_getr (pc := 48) fdX9_23 (by decide) sm_0 rfl rfl dX9_told_48 ?_
    refine z_iconst (pc := 51) (1 : Int32) dX9_told_51 (by decide) ?_
    refine z_iald (pc := 52) (by decide) sm_4 rfl dX9_told_52 (fun h11 => ?_)
    refine z_icmp_ge (pc := 53) (tgt := 95) dX9_told_53 (by decide) (fun c12 => ?_) (fun c13 => ?_)
    · refine z_loc (L' := [.ref 0, .int x1, .int x2, .null, .null]) ⟨Or.inr rfl, ⟨Or.inr rfl, ⟨Or.inr rfl, ⟨Or.inl rfl, ⟨Or.inl rfl, trivial⟩⟩⟩⟩⟩ ?_
      exact hK95 x2 μ
    · refine z_iconst (pc := 56) (0 : Int32) dX9_told_56 (by decide) ?_
      refine z_istore (pc := 57) (L' := [.ref 0, .int x1, .int x2, .int x3, .int (0 : Int32)]) dX9_told_57 (by decide) rfl ?_
      refine t9_told_L59 _ _ _ (fun x2_23 μ24 => ?_) zF _ _ _
      · refine z_iinc (pc := 89) (v := x3 + (1 : Int32)) (L' := [.ref 0, .int x1, .int x2_23, .int (x3 + (1 : Int32)), .null]) dX9_told_89 (by decide) rfl (congrArg _ (by decide)) rfl ?_
        refine z_goto (pc := 92) (tgt := 46) dX9_told_92 (by decide) ?_
        exact ih x2_23 (x3 + (1 : Int32)) μ24
set_option maxHeartbeats 1000000 in
theorem t9_told (x1 : Int32) (μ : zMem) : zMR yX9_told cX9_told 5 (some .int) 2 [.ref 0, .int x1] 1134 SM μ (f9_told x1 μ) := by
  refine zMR_of (by decide +kernel) rfl (Nat.le_of_ble_eq_true rfl) (L := [.ref 0, .int x1, .null, .null, .null]) rfl ?_
  unfold f9_told
  refine z_aload_n (pc := 0) dX9_told_0 rfl ?_
  refine z_iconst (pc := 1) (0 : Int32) dX9_told_1 (by decide) ?_
  refine z_puti (pc := 2) fdX9_106 (by decide) sm_0 rfl rfl dX9_told_2 ?_
  refine z_mem (fun μ1 => ?_)
  refine z_aload_n (pc := 5) dX9_told_5 rfl ?_
  refine z_iload_n (pc := 6) dX9_told_6 rfl ?_
  refine z_iconst (pc := 7) (0 : Int32) dX9_told_7 (by decide) ?_
  refine z_bipush (pc := 8) (6 : Int32) dX9_told_8 (by decide) ?_
  refine z_callS (As := [.int x1, .int (0 : Int32), .int (6 : Int32)]) (pc := 10) (ret' := some .boolean) ksX9_140 (t9_in _ _ _ _) (by decide)  rfl rfl (Nat.le_of_ble_eq_true rfl) dX9_told_10 (fun v2 μ3 => ?_)
  refine z_let (fun (j : Int32 → zRes) => ∀ (s4 : Int32), zR yX9_told cX9_told 5 (some .int) 2 21 [.ref 0, .int x1, .null, .null, .null] [.int s4, .ref 0] 1134 SM μ3 (j s4)) ?_ (fun j33 hj33 => ?_)
  · intro s4
    refine z_iconst (pc := 21) (1 : Int32) dX9_told_21 (by decide) ?_
    refine z_callV (As := [.int s4, .int (1 : Int32)]) (pc := 22) (ret' := some .boolean) kvX9_188 (t9_bad _ _ _) (by decide) (by decide) sm_0  rfl rfl (Nat.le_of_ble_eq_true rfl) dX9_told_22 (fun v5 μ6 => ?_)
    refine z_if_eq (pc := 25) (tgt := 30) dX9_told_25 (by decide) (fun c7 => ?_) (fun c8 => ?_)
    · refine z_iload_n (pc := 30) dX9_told_30 rfl ?_
      refine z_iconst (pc := 31) (5 : Int32) dX9_told_31 (by decide) ?_
      refine z_icmp_ge (pc := 32) (tgt := 42) dX9_told_32 (by decide) (fun c9 => ?_) (fun c10 => ?_)
      · refine z_iconst (pc := 42) (0 : Int32) dX9_told_42 (by decide) ?_
        refine z_istore_n (pc := 43) (L' := [.ref 0, .int x1, .int (0 : Int32), .null, .null]) dX9_told_43 (by decide) rfl ?_
        refine z_iconst (pc := 44) (0 : Int32) dX9_told_44 (by decide) ?_
        refine z_istore_n (pc := 45) (L' := [.ref 0, .int x1, .int (0 : Int32), .int (0 : Int32), .null]) dX9_told_45 (by decide) rfl ?_
        refine t9_told_L46 _ _ (fun x2_25 μ26 => ?_) zF _ _ _
        · refine z_iload_n (pc := 95) dX9_told_95 rfl ?_
          refine z_iconst (pc := 96) (5 : Int32) dX9_told_96 (by decide) ?_
          refine z_let (fun (j : Int32 → zRes) => ∀ (s27 : Int32), zR yX9_told cX9_told 5 (some .int) 2 110 [.null, .null, .null, .null, .null] [.int s27] 1134 SM μ26 (j s27)) ?_ (fun j28 hj28 => ?_)
          · intro s27
            exact z_iret (pc := 110) rfl dX9_told_110
          · refine z_icmp_ne (pc := 97) (tgt := 104) dX9_told_97 (by decide) (fun c29 => ?_) (fun c30 => ?_)
            · refine z_aload_n (pc := 104) dX9_told_104 rfl ?_
              refine z_getr (pc := 105) fdX9_23 (by decide) sm_0 rfl rfl dX9_told_105 ?_
              refine z_iconst (pc := 108) (5 : Int32) dX9_told_108 (by decide) ?_
              refine z_iald (pc := 109) (by decide) sm_4 rfl dX9_told_109 (fun h31 => ?_)
              refine z_loc (L' := [.null, .null, .null, .null, .null]) ⟨Or.inl rfl, ⟨Or.inl rfl, ⟨Or.inl rfl, ⟨Or.inl rfl, ⟨Or.inl rfl, trivial⟩⟩⟩⟩⟩ ?_
              exact hj28 (μ26 4 (5 : Int32).toNatClampNeg)
            · refine z_iload_n (pc := 100) dX9_told_100 rfl ?_
              refine z_goto (pc := 101) (tgt := 110) dX9_told_101 (by decide) ?_
              refine z_loc (L' := [.null, .null, .null, .null, .null]) ⟨Or.inl rfl, ⟨Or.inl rfl, ⟨Or.inl rfl, ⟨Or.inl rfl, ⟨Or.inl rfl, trivial⟩⟩⟩⟩⟩ ?_
              exact hj28 x2_25
      · refine z_aload_n (pc := 35) dX9_told_35 rfl ?_
        refine z_getr (pc := 36) fdX9_23 (by decide) sm_0 rfl rfl dX9_told_36 ?_
        refine z_iload_n (pc := 39) dX9_told_39 rfl ?_
        refine z_iald (pc := 40) (by decide) sm_4 rfl dX9_told_40 (fun h32 => ?_)
        exact z_iret (pc := 41) rfl dX9_told_41
    · refine z_iconst (pc := 28) (0 : Int32) dX9_told_28 (by decide) ?_
      exact z_iret (pc := 29) rfl dX9_told_29
  · refine z_if_ne (pc := 13) (tgt := 20) dX9_told_13 (by decide) (fun c34 => ?_) (fun c35 => ?_)
    · refine z_iconst (pc := 20) (0 : Int32) dX9_told_20 (by decide) ?_
      exact hj33 (0 : Int32)
    · refine z_iconst (pc := 16) (1 : Int32) dX9_told_16 (by decide) ?_
      refine z_goto (pc := 17) (tgt := 21) dX9_told_17 (by decide) ?_
      exact hj33 (1 : Int32)
def f9_isPerson (x1 : Int32) (μ : zMem) : zRes := zin (1 : Int32) 6 (bnd0 (f9_in x1 (0 : Int32) ((μ 4 (1 : Int32).toNatClampNeg) - (1 : Int32)) μ) (fun (v2 : Int32) (μ3 : zMem) => zbl v2 (some (0, v2, μ3))))
set_option maxHeartbeats 1000000 in
theorem t9_isPerson (x1 : Int32) (μ : zMem) : zMR yX9_isPerson cX9_isPerson 2 (some .boolean) 2 [.ref 0, .int x1] 1134 SM μ (f9_isPerson x1 μ) := by
  refine zMR_of (by decide +kernel) rfl (Nat.le_of_ble_eq_true rfl) (L := [.ref 0, .int x1]) rfl ?_
  unfold f9_isPerson
  refine z_iload_n (pc := 0) dX9_isPerson_0 rfl ?_
  refine z_iconst (pc := 1) (0 : Int32) dX9_isPerson_1 (by decide) ?_
  refine z_aload_n (pc := 2) dX9_isPerson_2 rfl ?_
  refine z_getr (pc := 3) fdX9_23 (by decide) sm_0 rfl rfl dX9_isPerson_3 ?_
  refine z_iconst (pc := 6) (1 : Int32) dX9_isPerson_6 (by decide) ?_
  refine z_iald (pc := 7) (by decide) sm_4 rfl dX9_isPerson_7 (fun h1 => ?_)
  refine z_iconst (pc := 8) (1 : Int32) dX9_isPerson_8 (by decide) ?_
  refine z_isub (pc := 9) dX9_isPerson_9 ?_
  refine z_callS (As := [.int x1, .int (0 : Int32), .int ((μ 4 (1 : Int32).toNatClampNeg) - (1 : Int32))]) (pc := 10) (ret' := some .boolean) ksX9_140 (t9_in _ _ _ _) (by decide)  rfl rfl (Nat.le_of_ble_eq_true rfl) dX9_isPerson_10 (fun v2 μ3 => ?_)
  exact z_zret (pc := 13) rfl dX9_isPerson_13
def f9_isAsked (x1 : Int32) (μ : zMem) : zRes := zin (0 : Int32) 6 (bnd0 (f9_in x1 (0 : Int32) ((μ 4 (0 : Int32).toNatClampNeg) - (1 : Int32)) μ) (fun (v2 : Int32) (μ3 : zMem) => zbl v2 (some (0, v2, μ3))))
set_option maxHeartbeats 1000000 in
theorem t9_isAsked (x1 : Int32) (μ : zMem) : zMR yX9_isAsked cX9_isAsked 2 (some .boolean) 2 [.ref 0, .int x1] 1134 SM μ (f9_isAsked x1 μ) := by
  refine zMR_of (by decide +kernel) rfl (Nat.le_of_ble_eq_true rfl) (L := [.ref 0, .int x1]) rfl ?_
  unfold f9_isAsked
  refine z_iload_n (pc := 0) dX9_isAsked_0 rfl ?_
  refine z_iconst (pc := 1) (0 : Int32) dX9_isAsked_1 (by decide) ?_
  refine z_aload_n (pc := 2) dX9_isAsked_2 rfl ?_
  refine z_getr (pc := 3) fdX9_23 (by decide) sm_0 rfl rfl dX9_isAsked_3 ?_
  refine z_iconst (pc := 6) (0 : Int32) dX9_isAsked_6 (by decide) ?_
  refine z_iald (pc := 7) (by decide) sm_4 rfl dX9_isAsked_7 (fun h1 => ?_)
  refine z_iconst (pc := 8) (1 : Int32) dX9_isAsked_8 (by decide) ?_
  refine z_isub (pc := 9) dX9_isAsked_9 ?_
  refine z_callS (As := [.int x1, .int (0 : Int32), .int ((μ 4 (0 : Int32).toNatClampNeg) - (1 : Int32))]) (pc := 10) (ret' := some .boolean) ksX9_140 (t9_in _ _ _ _) (by decide)  rfl rfl (Nat.le_of_ble_eq_true rfl) dX9_isAsked_10 (fun v2 μ3 => ?_)
  exact z_zret (pc := 13) rfl dX9_isAsked_13
def f9_thinks (x1 : Int32) (x2 : Int32) (μ : zMem) : zRes := zlet (zset μ 0 0 (0 : Int32)) (fun (μ1 : zMem) => bnd0 (f9_isPerson x1 μ1) (fun (v2 : Int32) (μ3 : zMem) => zlet (fun (s4 : Int32) => bnd0 (f9_bad s4 (1 : Int32) μ3) (fun (v5 : Int32) (μ6 : zMem) => zlet (fun (μ7 : zMem) => some (0, (0 : Int32), μ7)) (fun j8 => if v5 = 0 then bnd0 (f9_isAsked x2 μ6) (fun (v11 : Int32) (μ12 : zMem) => zlet (fun (s13 : Int32) => bnd0 (f9_bad s13 (2 : Int32) μ12) (fun (v14 : Int32) (μ15 : zMem) => if v14 = 0 then zin x1 9 (zin x2 4 (some (0, μ15 (51 + x1.toNatClampNeg) x2.toNatClampNeg, μ15))) else j8 μ15)) (fun j20 => if v11 = 0 then j20 (1 : Int32) else j20 (0 : Int32))) else j8 μ6))) (fun j23 => if v2 = 0 then j23 (1 : Int32) else j23 (0 : Int32))))
set_option maxHeartbeats 1000000 in
theorem t9_thinks (x1 : Int32) (x2 : Int32) (μ : zMem) : zMR yX9_thinks cX9_thinks 3 (some .int) 3 [.ref 0, .int x1, .int x2] 1134 SM μ (f9_thinks x1 x2 μ) := by
  refine zMR_of (by decide +kernel) rfl (Nat.le_of_ble_eq_true rfl) (L := [.ref 0, .int x1, .int x2]) rfl ?_
  unfold f9_thinks
  refine z_aload_n (pc := 0) dX9_thinks_0 rfl ?_
  refine z_iconst (pc := 1) (0 : Int32) dX9_thinks_1 (by decide) ?_
  refine z_puti (pc := 2) fdX9_106 (by decide) sm_0 rfl rfl dX9_thinks_2 ?_
  refine z_mem (fun μ1 => ?_)
  refine z_aload_n (pc := 5) dX9_thinks_5 rfl ?_
  refine z_aload_n (pc := 6) dX9_thinks_6 rfl ?_
  refine z_iload_n (pc := 7) dX9_thinks_7 rfl ?_
  refine z_callV (As := [.int x1]) (pc := 8) (ret' := some .boolean) kvX9_214 (t9_isPerson _ _) (by decide) (by decide) sm_0  rfl rfl (Nat.le_of_ble_eq_true rfl) dX9_thinks_8 (fun v2 μ3 => ?_)
  refine z_let (fun (j : Int32 → zRes) => ∀ (s4 : Int32), zR yX9_thinks cX9_thinks 3 (some .int) 3 19 [.ref 0, .int x1, .int x2] [.int s4, .ref 0] 1134 SM μ3 (j s4)) ?_ (fun j23 hj23 => ?_)
  · intro s4
    refine z_iconst (pc := 19) (1 : Int32) dX9_thinks_19 (by decide) ?_
    refine z_callV (As := [.int s4, .int (1 : Int32)]) (pc := 20) (ret' := some .boolean) kvX9_188 (t9_bad _ _ _) (by decide) (by decide) sm_0  rfl rfl (Nat.le_of_ble_eq_true rfl) dX9_thinks_20 (fun v5 μ6 => ?_)
    refine z_let (fun (j : zMem → zRes) => ∀ (μ7 : zMem), zR yX9_thinks cX9_thinks 3 (some .int) 3 47 [.null, .null, .null] [] 1134 SM μ7 (j μ7)) ?_ (fun j8 hj8 => ?_)
    · intro μ7
      refine z_iconst (pc := 47) (0 : Int32) dX9_thinks_47 (by decide) ?_
      exact z_iret (pc := 48) rfl dX9_thinks_48
    · refine z_if_ne (pc := 23) (tgt := 47) dX9_thinks_23 (by decide) (fun c9 => ?_) (fun c10 => ?_)
      · refine z_loc (L' := [.null, .null, .null]) ⟨Or.inl rfl, ⟨Or.inl rfl, ⟨Or.inl rfl, trivial⟩⟩⟩ ?_
        exact hj8 μ6
      · refine z_aload_n (pc := 26) dX9_thinks_26 rfl ?_
        refine z_aload_n (pc := 27) dX9_thinks_27 rfl ?_
        refine z_iload_n (pc := 28) dX9_thinks_28 rfl ?_
        refine z_callV (As := [.int x2]) (pc := 29) (ret' := some .boolean) kvX9_217 (t9_isAsked _ _) (by decide) (by decide) sm_0  rfl rfl (Nat.le_of_ble_eq_true rfl) dX9_thinks_29 (fun v11 μ12 => ?_)
        refine z_let (fun (j : Int32 → zRes) => ∀ (s13 : Int32), zR yX9_thinks cX9_thinks 3 (some .int) 3 40 [.ref 0, .int x1, .int x2] [.int s13, .ref 0] 1134 SM μ12 (j s13)) ?_ (fun j20 hj20 => ?_)
        · intro s13
          refine z_iconst (pc := 40) (2 : Int32) dX9_thinks_40 (by decide) ?_
          refine z_callV (As := [.int s13, .int (2 : Int32)]) (pc := 41) (ret' := some .boolean) kvX9_188 (t9_bad _ _ _) (by decide) (by decide) sm_0  rfl rfl (Nat.le_of_ble_eq_true rfl) dX9_thinks_41 (fun v14 μ15 => ?_)
          refine z_if_eq (pc := 44) (tgt := 49) dX9_thinks_44 (by decide) (fun c16 => ?_) (fun c17 => ?_)
          · refine z_aload_n (pc := 49) dX9_thinks_49 rfl ?_
            refine z_getr (pc := 50) fdX9_52 (by decide) sm_0 rfl rfl dX9_thinks_50 ?_
            refine z_iload_n (pc := 53) dX9_thinks_53 rfl ?_
            refine z_aald (pc := 54) (fun j => 51 + j) (by decide) sm_50 (Or.inl rfl) smg_50 dX9_thinks_54 (fun h18 => ?_)
            refine z_iload_n (pc := 55) dX9_thinks_55 rfl ?_
            refine z_iald (pc := 56) (smr_50 h18).2 (smr_50 h18).1 rfl dX9_thinks_56 (fun h19 => ?_)
            exact z_iret (pc := 57) rfl dX9_thinks_57
          · refine z_loc (L' := [.null, .null, .null]) ⟨Or.inl rfl, ⟨Or.inl rfl, ⟨Or.inl rfl, trivial⟩⟩⟩ ?_
            exact hj8 μ15
        · refine z_if_ne (pc := 32) (tgt := 39) dX9_thinks_32 (by decide) (fun c21 => ?_) (fun c22 => ?_)
          · refine z_iconst (pc := 39) (0 : Int32) dX9_thinks_39 (by decide) ?_
            exact hj20 (0 : Int32)
          · refine z_iconst (pc := 35) (1 : Int32) dX9_thinks_35 (by decide) ?_
            refine z_goto (pc := 36) (tgt := 40) dX9_thinks_36 (by decide) ?_
            exact hj20 (1 : Int32)
  · refine z_if_ne (pc := 11) (tgt := 18) dX9_thinks_11 (by decide) (fun c24 => ?_) (fun c25 => ?_)
    · refine z_iconst (pc := 18) (0 : Int32) dX9_thinks_18 (by decide) ?_
      exact hj23 (0 : Int32)
    · refine z_iconst (pc := 14) (1 : Int32) dX9_thinks_14 (by decide) ?_
      refine z_goto (pc := 15) (tgt := 19) dX9_thinks_15 (by decide) ?_
      exact hj23 (1 : Int32)
def f9_person_L55 (x1 : Int32) (K90 : Int32 → zMem → zRes) : Nat → Int32 → Int32 → zMem → zRes
  | 0, _, _, _ => none
  | n + 1, x3, x4, μ => zin (1 : Int32) 6 (if (μ 4 (1 : Int32).toNatClampNeg) ≤ x4 then K90 x3 μ else bnd0 (f9_isKin x1 x4 μ) (fun (v21 : Int32) (μ22 : zMem) => zlet (fun (s23 : Int32) => zlet (x3 + s23) (fun (v24 : Int32) => f9_person_L55 x1 K90 n v24 (x4 + (1 : Int32)) μ22)) (fun j25 => if v21 = 0 then j25 (0 : Int32) else j25 (1 : Int32))))
def f9_person (x1 : Int32) (x2 : Int32) (μ : zMem) : zRes := zlet (zset μ 0 0 (0 : Int32)) (fun (μ1 : zMem) => bnd0 (f9_isPerson x1 μ1) (fun (v2 : Int32) (μ3 : zMem) => zlet (fun (s4 : Int32) => bnd0 (f9_bad s4 (1 : Int32) μ3) (fun (v5 : Int32) (μ6 : zMem) => zlet (fun (μ7 : zMem) => some (0, (0 : Int32), μ7)) (fun j8 => if v5 = 0 then bnd0 (f9_in x2 (0 : Int32) (3 : Int32) μ6) (fun (v11 : Int32) (μ12 : zMem) => zlet (fun (s13 : Int32) => bnd0 (f9_bad s13 (2 : Int32) μ12) (fun (v14 : Int32) (μ15 : zMem) => if v14 = 0 then f9_person_L55 x1 (fun (x3_28 : Int32) (μ29 : zMem) => zlet (fun (s30 : Int32) => some (0, s30, μ29)) (fun j31 => if x2 = 0 then zin x1 9 (zin (4 : Int32) 6 (j31 (μ29 (15 + x1.toNatClampNeg) (4 : Int32).toNatClampNeg))) else if x2 = (1 : Int32) then zin x1 9 (j31 (μ29 91 x1.toNatClampNeg)) else if x2 = (2 : Int32) then zin x1 9 (zin (5 : Int32) 6 (j31 (μ29 (15 + x1.toNatClampNeg) (5 : Int32).toNatClampNeg))) else j31 x3_28)) zF (0 : Int32) (0 : Int32) μ15 else j8 μ15)) (fun j43 => if v11 = 0 then j43 (1 : Int32) else j43 (0 : Int32))) else j8 μ6))) (fun j46 => if v2 = 0 then j46 (1 : Int32) else j46 (0 : Int32))))
set_option maxHeartbeats 1000000 in
theorem t9_person_L55 (x1 : Int32) (x2 : Int32) (K90 : Int32 → zMem → zRes) (hK90 : ∀ (x3 : Int32) (μ : zMem), zR yX9_person cX9_person 5 (some .int) 3 90 [.ref 0, .int x1, .int x2, .int x3, .null] [] 1134 SM μ (K90 x3 μ)) : ∀ (n : Nat) (x3 : Int32) (x4 : Int32) (μ : zMem), zR yX9_person cX9_person 5 (some .int) 3 55 [.ref 0, .int x1, .int x2, .int x3, .int x4] [] 1134 SM μ (f9_person_L55 x1 K90 n x3 x4 μ) := by
  intro n
  induction n with
  | zero => intro x3 x4 μ; intro q hq; cases hq
  | succ n ih =>
    intro x3 x4 μ
    unfold f9_person_L55
    refine z_iload (pc := 55) dX9_person_55 rfl ?_
    refine z_aload_n (pc := 57) dX9_person_57 rfl ?_
    refine z_getr (pc := 58) fdX9_23 (by decide) sm_0 rfl rfl dX9_person_58 ?_
    refine z_iconst (pc := 61) (1 : Int32) dX9_person_61 (by decide) ?_
    refine z_iald (pc := 62) (by decide) sm_4 rfl dX9_person_62 (fun h18 => ?_)
    refine z_icmp_ge (pc := 63) (tgt := 90) dX9_person_63 (by decide) (fun c19 => ?_) (fun c20 => ?_)
    · refine z_loc (L' := [.ref 0, .int x1, .int x2, .int x3, .null]) ⟨Or.inr rfl, ⟨Or.inr rfl, ⟨Or.inr rfl, ⟨Or.inr rfl, ⟨Or.inl rfl, trivial⟩⟩⟩⟩⟩ ?_
      exact hK90 x3 μ
    · refine z_iload_n (pc := 66) dX9_person_66 rfl ?_
      refine z_aload_n (pc := 67) dX9_person_67 rfl ?_
      refine z_iload_n (pc := 68) dX9_person_68 rfl ?_
      refine z_iload (pc := 69) dX9_person_69 rfl ?_
      refine z_callV (As := [.int x1, .int x4]) (pc := 71) (ret' := some .boolean) kvX9_210 (t9_isKin _ _ _) (by decide) (by decide) sm_0  rfl rfl (Nat.le_of_ble_eq_true rfl) dX9_person_71 (fun v21 μ22 => ?_)
      refine z_let (fun (j : Int32 → zRes) => ∀ (s23 : Int32), zR yX9_person cX9_person 5 (some .int) 3 82 [.ref 0, .int x1, .int x2, .null, .int x4] [.int s23, .int x3] 1134 SM μ22 (j s23)) ?_ (fun j25 hj25 => ?_)
      · intro s23
        refine z_iadd (pc := 82) dX9_person_82 ?_
        refine z_val (fun v24 => ?_)
        refine z_istore_n (pc := 83) (L' := [.ref 0, .int x1, .int x2, .int v24, .int x4]) dX9_person_83 (by decide) rfl ?_
        refine z_iinc (pc := 84) (v := x4 + (1 : Int32)) (L' := [.ref 0, .int x1, .int x2, .int v24, .int (x4 + (1 : Int32))]) dX9_person_84 (by decide) rfl (congrArg _ (by decide)) rfl ?_
        refine z_goto (pc := 87) (tgt := 55) dX9_person_87 (by decide) ?_
        exact ih v24 (x4 + (1 : Int32)) μ22
      · refine z_if_eq (pc := 74) (tgt := 81) dX9_person_74 (by decide) (fun c26 => ?_) (fun c27 => ?_)
        · refine z_iconst (pc := 81) (0 : Int32) dX9_person_81 (by decide) ?_
          refine z_loc (L' := [.ref 0, .int x1, .int x2, .null, .int x4]) ⟨Or.inr rfl, ⟨Or.inr rfl, ⟨Or.inr rfl, ⟨Or.inl rfl, ⟨Or.inr rfl, trivial⟩⟩⟩⟩⟩ ?_
          exact hj25 (0 : Int32)
        · refine z_iconst (pc := 77) (1 : Int32) dX9_person_77 (by decide) ?_
          refine z_goto (pc := 78) (tgt := 82) dX9_person_78 (by decide) ?_
          refine z_loc (L' := [.ref 0, .int x1, .int x2, .null, .int x4]) ⟨Or.inr rfl, ⟨Or.inr rfl, ⟨Or.inr rfl, ⟨Or.inl rfl, ⟨Or.inr rfl, trivial⟩⟩⟩⟩⟩ ?_
          exact hj25 (1 : Int32)
set_option maxHeartbeats 1000000 in
theorem t9_person (x1 : Int32) (x2 : Int32) (μ : zMem) : zMR yX9_person cX9_person 5 (some .int) 3 [.ref 0, .int x1, .int x2] 1134 SM μ (f9_person x1 x2 μ) := by
  refine zMR_of (by decide +kernel) rfl (Nat.le_of_ble_eq_true rfl) (L := [.ref 0, .int x1, .int x2, .null, .null]) rfl ?_
  unfold f9_person
  refine z_aload_n (pc := 0) dX9_person_0 rfl ?_
  refine z_iconst (pc := 1) (0 : Int32) dX9_person_1 (by decide) ?_
  refine z_puti (pc := 2) fdX9_106 (by decide) sm_0 rfl rfl dX9_person_2 ?_
  refine z_mem (fun μ1 => ?_)
  refine z_aload_n (pc := 5) dX9_person_5 rfl ?_
  refine z_aload_n (pc := 6) dX9_person_6 rfl ?_
  refine z_iload_n (pc := 7) dX9_person_7 rfl ?_
  refine z_callV (As := [.int x1]) (pc := 8) (ret' := some .boolean) kvX9_214 (t9_isPerson _ _) (by decide) (by decide) sm_0  rfl rfl (Nat.le_of_ble_eq_true rfl) dX9_person_8 (fun v2 μ3 => ?_)
  refine z_let (fun (j : Int32 → zRes) => ∀ (s4 : Int32), zR yX9_person cX9_person 5 (some .int) 3 19 [.ref 0, .int x1, .int x2, .null, .null] [.int s4, .ref 0] 1134 SM μ3 (j s4)) ?_ (fun j46 hj46 => ?_)
  · intro s4
    refine z_iconst (pc := 19) (1 : Int32) dX9_person_19 (by decide) ?_
    refine z_callV (As := [.int s4, .int (1 : Int32)]) (pc := 20) (ret' := some .boolean) kvX9_188 (t9_bad _ _ _) (by decide) (by decide) sm_0  rfl rfl (Nat.le_of_ble_eq_true rfl) dX9_person_20 (fun v5 μ6 => ?_)
    refine z_let (fun (j : zMem → zRes) => ∀ (μ7 : zMem), zR yX9_person cX9_person 5 (some .int) 3 48 [.null, .null, .null, .null, .null] [] 1134 SM μ7 (j μ7)) ?_ (fun j8 hj8 => ?_)
    · intro μ7
      refine z_iconst (pc := 48) (0 : Int32) dX9_person_48 (by decide) ?_
      exact z_iret (pc := 49) rfl dX9_person_49
    · refine z_if_ne (pc := 23) (tgt := 48) dX9_person_23 (by decide) (fun c9 => ?_) (fun c10 => ?_)
      · refine z_loc (L' := [.null, .null, .null, .null, .null]) ⟨Or.inl rfl, ⟨Or.inl rfl, ⟨Or.inl rfl, ⟨Or.inl rfl, ⟨Or.inl rfl, trivial⟩⟩⟩⟩⟩ ?_
        exact hj8 μ6
      · refine z_aload_n (pc := 26) dX9_person_26 rfl ?_
        refine z_iload_n (pc := 27) dX9_person_27 rfl ?_
        refine z_iconst (pc := 28) (0 : Int32) dX9_person_28 (by decide) ?_
        refine z_iconst (pc := 29) (3 : Int32) dX9_person_29 (by decide) ?_
        refine z_callS (As := [.int x2, .int (0 : Int32), .int (3 : Int32)]) (pc := 30) (ret' := some .boolean) ksX9_140 (t9_in _ _ _ _) (by decide)  rfl rfl (Nat.le_of_ble_eq_true rfl) dX9_person_30 (fun v11 μ12 => ?_)
        refine z_let (fun (j : Int32 → zRes) => ∀ (s13 : Int32), zR yX9_person cX9_person 5 (some .int) 3 41 [.ref 0, .int x1, .int x2, .null, .null] [.int s13, .ref 0] 1134 SM μ12 (j s13)) ?_ (fun j43 hj43 => ?_)
        · intro s13
          refine z_iconst (pc := 41) (2 : Int32) dX9_person_41 (by decide) ?_
          refine z_callV (As := [.int s13, .int (2 : Int32)]) (pc := 42) (ret' := some .boolean) kvX9_188 (t9_bad _ _ _) (by decide) (by decide) sm_0  rfl rfl (Nat.le_of_ble_eq_true rfl) dX9_person_42 (fun v14 μ15 => ?_)
          refine z_if_eq (pc := 45) (tgt := 50) dX9_person_45 (by decide) (fun c16 => ?_) (fun c17 => ?_)
          · refine z_iconst (pc := 50) (0 : Int32) dX9_person_50 (by decide) ?_
            refine z_istore_n (pc := 51) (L' := [.ref 0, .int x1, .int x2, .int (0 : Int32), .null]) dX9_person_51 (by decide) rfl ?_
            refine z_iconst (pc := 52) (0 : Int32) dX9_person_52 (by decide) ?_
            refine z_istore (pc := 53) (L' := [.ref 0, .int x1, .int x2, .int (0 : Int32), .int (0 : Int32)]) dX9_person_53 (by decide) rfl ?_
            refine t9_person_L55 _ _ _ (fun x3_28 μ29 => ?_) zF _ _ _
            · refine z_iload_n (pc := 90) dX9_person_90 rfl ?_
              refine z_let (fun (j : Int32 → zRes) => ∀ (s30 : Int32), zR yX9_person cX9_person 5 (some .int) 3 136 [.null, .null, .null, .null, .null] [.int s30] 1134 SM μ29 (j s30)) ?_ (fun j31 hj31 => ?_)
              · intro s30
                exact z_iret (pc := 136) rfl dX9_person_136
              · refine z_if_ne (pc := 91) (tgt := 105) dX9_person_91 (by decide) (fun c32 => ?_) (fun c33 => ?_)
                · refine z_iload_n (pc := 105) dX9_person_105 rfl ?_
                  refine z_iconst (pc := 106) (1 : Int32) dX9_person_106 (by decide) ?_
                  refine z_icmp_ne (pc := 107) (tgt := 119) dX9_person_107 (by decide) (fun c34 => ?_) (fun c35 => ?_)
                  · refine z_iload_n (pc := 119) dX9_person_119 rfl ?_
                    refine z_iconst (pc := 120) (2 : Int32) dX9_person_120 (by decide) ?_
                    refine z_icmp_ne (pc := 121) (tgt := 135) dX9_person_121 (by decide) (fun c36 => ?_) (fun c37 => ?_)
                    · refine z_iload_n (pc := 135) dX9_person_135 rfl ?_
                      refine z_loc (L' := [.null, .null, .null, .null, .null]) ⟨Or.inl rfl, ⟨Or.inl rfl, ⟨Or.inl rfl, ⟨Or.inl rfl, ⟨Or.inl rfl, trivial⟩⟩⟩⟩⟩ ?_
                      exact hj31 x3_28
                    · refine z_aload_n (pc := 124) dX9_person_124 rfl ?_
                      refine z_getr (pc := 125) fdX9_31 (by decide) sm_0 rfl rfl dX9_person_125 ?_
                      refine z_iload_n (pc := 128) dX9_person_128 rfl ?_
                      refine z_aald (pc := 129) (fun j => 15 + j) (by decide) sm_14 (Or.inl rfl) smg_14 dX9_person_129 (fun h38 => ?_)
                      refine z_iconst (pc := 130) (5 : Int32) dX9_person_130 (by decide) ?_
                      refine z_iald (pc := 131) (smr_14 h38).2 (smr_14 h38).1 rfl dX9_person_131 (fun h39 => ?_)
                      refine z_goto (pc := 132) (tgt := 136) dX9_person_132 (by decide) ?_
                      refine z_loc (L' := [.null, .null, .null, .null, .null]) ⟨Or.inl rfl, ⟨Or.inl rfl, ⟨Or.inl rfl, ⟨Or.inl rfl, ⟨Or.inl rfl, trivial⟩⟩⟩⟩⟩ ?_
                      exact hj31 (μ29 (15 + x1.toNatClampNeg) (5 : Int32).toNatClampNeg)
                  · refine z_aload_n (pc := 110) dX9_person_110 rfl ?_
                    refine z_getr (pc := 111) fdX9_58 (by decide) sm_0 rfl rfl dX9_person_111 ?_
                    refine z_iload_n (pc := 114) dX9_person_114 rfl ?_
                    refine z_iald (pc := 115) (by decide) sm_91 rfl dX9_person_115 (fun h40 => ?_)
                    refine z_goto (pc := 116) (tgt := 136) dX9_person_116 (by decide) ?_
                    refine z_loc (L' := [.null, .null, .null, .null, .null]) ⟨Or.inl rfl, ⟨Or.inl rfl, ⟨Or.inl rfl, ⟨Or.inl rfl, ⟨Or.inl rfl, trivial⟩⟩⟩⟩⟩ ?_
                    exact hj31 (μ29 91 x1.toNatClampNeg)
                · refine z_aload_n (pc := 94) dX9_person_94 rfl ?_
                  refine z_getr (pc := 95) fdX9_31 (by decide) sm_0 rfl rfl dX9_person_95 ?_
                  refine z_iload_n (pc := 98) dX9_person_98 rfl ?_
                  refine z_aald (pc := 99) (fun j => 15 + j) (by decide) sm_14 (Or.inl rfl) smg_14 dX9_person_99 (fun h41 => ?_)
                  refine z_iconst (pc := 100) (4 : Int32) dX9_person_100 (by decide) ?_
                  refine z_iald (pc := 101) (smr_14 h41).2 (smr_14 h41).1 rfl dX9_person_101 (fun h42 => ?_)
                  refine z_goto (pc := 102) (tgt := 136) dX9_person_102 (by decide) ?_
                  refine z_loc (L' := [.null, .null, .null, .null, .null]) ⟨Or.inl rfl, ⟨Or.inl rfl, ⟨Or.inl rfl, ⟨Or.inl rfl, ⟨Or.inl rfl, trivial⟩⟩⟩⟩⟩ ?_
                  exact hj31 (μ29 (15 + x1.toNatClampNeg) (4 : Int32).toNatClampNeg)
          · refine z_loc (L' := [.null, .null, .null, .null, .null]) ⟨Or.inl rfl, ⟨Or.inl rfl, ⟨Or.inl rfl, ⟨Or.inl rfl, ⟨Or.inl rfl, trivial⟩⟩⟩⟩⟩ ?_
            exact hj8 μ15
        · refine z_if_ne (pc := 33) (tgt := 40) dX9_person_33 (by decide) (fun c44 => ?_) (fun c45 => ?_)
          · refine z_iconst (pc := 40) (0 : Int32) dX9_person_40 (by decide) ?_
            exact hj43 (0 : Int32)
          · refine z_iconst (pc := 36) (1 : Int32) dX9_person_36 (by decide) ?_
            refine z_goto (pc := 37) (tgt := 41) dX9_person_37 (by decide) ?_
            exact hj43 (1 : Int32)
  · refine z_if_ne (pc := 11) (tgt := 18) dX9_person_11 (by decide) (fun c47 => ?_) (fun c48 => ?_)
    · refine z_iconst (pc := 18) (0 : Int32) dX9_person_18 (by decide) ?_
      exact hj46 (0 : Int32)
    · refine z_iconst (pc := 14) (1 : Int32) dX9_person_14 (by decide) ?_
      refine z_goto (pc := 15) (tgt := 19) dX9_person_15 (by decide) ?_
      exact hj46 (1 : Int32)
def f9_isDoor (x1 : Int32) (μ : zMem) : zRes := zin (2 : Int32) 6 (bnd0 (f9_in x1 (0 : Int32) ((μ 4 (2 : Int32).toNatClampNeg) - (1 : Int32)) μ) (fun (v2 : Int32) (μ3 : zMem) => zbl v2 (some (0, v2, μ3))))
set_option maxHeartbeats 1000000 in
theorem t9_isDoor (x1 : Int32) (μ : zMem) : zMR yX9_isDoor cX9_isDoor 2 (some .boolean) 2 [.ref 0, .int x1] 1134 SM μ (f9_isDoor x1 μ) := by
  refine zMR_of (by decide +kernel) rfl (Nat.le_of_ble_eq_true rfl) (L := [.ref 0, .int x1]) rfl ?_
  unfold f9_isDoor
  refine z_iload_n (pc := 0) dX9_isDoor_0 rfl ?_
  refine z_iconst (pc := 1) (0 : Int32) dX9_isDoor_1 (by decide) ?_
  refine z_aload_n (pc := 2) dX9_isDoor_2 rfl ?_
  refine z_getr (pc := 3) fdX9_23 (by decide) sm_0 rfl rfl dX9_isDoor_3 ?_
  refine z_iconst (pc := 6) (2 : Int32) dX9_isDoor_6 (by decide) ?_
  refine z_iald (pc := 7) (by decide) sm_4 rfl dX9_isDoor_7 (fun h1 => ?_)
  refine z_iconst (pc := 8) (1 : Int32) dX9_isDoor_8 (by decide) ?_
  refine z_isub (pc := 9) dX9_isDoor_9 ?_
  refine z_callS (As := [.int x1, .int (0 : Int32), .int ((μ 4 (2 : Int32).toNatClampNeg) - (1 : Int32))]) (pc := 10) (ret' := some .boolean) ksX9_140 (t9_in _ _ _ _) (by decide)  rfl rfl (Nat.le_of_ble_eq_true rfl) dX9_isDoor_10 (fun v2 μ3 => ?_)
  exact z_zret (pc := 13) rfl dX9_isDoor_13
def f9_door (x1 : Int32) (x2 : Int32) (μ : zMem) : zRes := zlet (zset μ 0 0 (0 : Int32)) (fun (μ1 : zMem) => bnd0 (f9_isDoor x1 μ1) (fun (v2 : Int32) (μ3 : zMem) => zlet (fun (s4 : Int32) => bnd0 (f9_bad s4 (1 : Int32) μ3) (fun (v5 : Int32) (μ6 : zMem) => zlet (fun (μ7 : zMem) => some (0, (0 : Int32), μ7)) (fun j8 => if v5 = 0 then bnd0 (f9_in x2 (0 : Int32) (4 : Int32) μ6) (fun (v11 : Int32) (μ12 : zMem) => zlet (fun (s13 : Int32) => bnd0 (f9_bad s13 (2 : Int32) μ12) (fun (v14 : Int32) (μ15 : zMem) => if v14 = 0 then zlet (fun (s18 : Int32) => some (0, s18, μ15)) (fun j19 => if (4 : Int32) ≤ x2 then zin x1 10 (j19 (μ15 92 x1.toNatClampNeg)) else zin x1 10 (zin x2 4 (j19 (μ15 (36 + x1.toNatClampNeg) x2.toNatClampNeg)))) else j8 μ15)) (fun j25 => if v11 = 0 then j25 (1 : Int32) else j25 (0 : Int32))) else j8 μ6))) (fun j28 => if v2 = 0 then j28 (1 : Int32) else j28 (0 : Int32))))
set_option maxHeartbeats 1000000 in
theorem t9_door (x1 : Int32) (x2 : Int32) (μ : zMem) : zMR yX9_door cX9_door 3 (some .int) 3 [.ref 0, .int x1, .int x2] 1134 SM μ (f9_door x1 x2 μ) := by
  refine zMR_of (by decide +kernel) rfl (Nat.le_of_ble_eq_true rfl) (L := [.ref 0, .int x1, .int x2]) rfl ?_
  unfold f9_door
  refine z_aload_n (pc := 0) dX9_door_0 rfl ?_
  refine z_iconst (pc := 1) (0 : Int32) dX9_door_1 (by decide) ?_
  refine z_puti (pc := 2) fdX9_106 (by decide) sm_0 rfl rfl dX9_door_2 ?_
  refine z_mem (fun μ1 => ?_)
  refine z_aload_n (pc := 5) dX9_door_5 rfl ?_
  refine z_aload_n (pc := 6) dX9_door_6 rfl ?_
  refine z_iload_n (pc := 7) dX9_door_7 rfl ?_
  refine z_callV (As := [.int x1]) (pc := 8) (ret' := some .boolean) kvX9_220 (t9_isDoor _ _) (by decide) (by decide) sm_0  rfl rfl (Nat.le_of_ble_eq_true rfl) dX9_door_8 (fun v2 μ3 => ?_)
  refine z_let (fun (j : Int32 → zRes) => ∀ (s4 : Int32), zR yX9_door cX9_door 3 (some .int) 3 19 [.ref 0, .int x1, .int x2] [.int s4, .ref 0] 1134 SM μ3 (j s4)) ?_ (fun j28 hj28 => ?_)
  · intro s4
    refine z_iconst (pc := 19) (1 : Int32) dX9_door_19 (by decide) ?_
    refine z_callV (As := [.int s4, .int (1 : Int32)]) (pc := 20) (ret' := some .boolean) kvX9_188 (t9_bad _ _ _) (by decide) (by decide) sm_0  rfl rfl (Nat.le_of_ble_eq_true rfl) dX9_door_20 (fun v5 μ6 => ?_)
    refine z_let (fun (j : zMem → zRes) => ∀ (μ7 : zMem), zR yX9_door cX9_door 3 (some .int) 3 48 [.null, .null, .null] [] 1134 SM μ7 (j μ7)) ?_ (fun j8 hj8 => ?_)
    · intro μ7
      refine z_iconst (pc := 48) (0 : Int32) dX9_door_48 (by decide) ?_
      exact z_iret (pc := 49) rfl dX9_door_49
    · refine z_if_ne (pc := 23) (tgt := 48) dX9_door_23 (by decide) (fun c9 => ?_) (fun c10 => ?_)
      · refine z_loc (L' := [.null, .null, .null]) ⟨Or.inl rfl, ⟨Or.inl rfl, ⟨Or.inl rfl, trivial⟩⟩⟩ ?_
        exact hj8 μ6
      · refine z_aload_n (pc := 26) dX9_door_26 rfl ?_
        refine z_iload_n (pc := 27) dX9_door_27 rfl ?_
        refine z_iconst (pc := 28) (0 : Int32) dX9_door_28 (by decide) ?_
        refine z_iconst (pc := 29) (4 : Int32) dX9_door_29 (by decide) ?_
        refine z_callS (As := [.int x2, .int (0 : Int32), .int (4 : Int32)]) (pc := 30) (ret' := some .boolean) ksX9_140 (t9_in _ _ _ _) (by decide)  rfl rfl (Nat.le_of_ble_eq_true rfl) dX9_door_30 (fun v11 μ12 => ?_)
        refine z_let (fun (j : Int32 → zRes) => ∀ (s13 : Int32), zR yX9_door cX9_door 3 (some .int) 3 41 [.ref 0, .int x1, .int x2] [.int s13, .ref 0] 1134 SM μ12 (j s13)) ?_ (fun j25 hj25 => ?_)
        · intro s13
          refine z_iconst (pc := 41) (2 : Int32) dX9_door_41 (by decide) ?_
          refine z_callV (As := [.int s13, .int (2 : Int32)]) (pc := 42) (ret' := some .boolean) kvX9_188 (t9_bad _ _ _) (by decide) (by decide) sm_0  rfl rfl (Nat.le_of_ble_eq_true rfl) dX9_door_42 (fun v14 μ15 => ?_)
          refine z_if_eq (pc := 45) (tgt := 50) dX9_door_45 (by decide) (fun c16 => ?_) (fun c17 => ?_)
          · refine z_iload_n (pc := 50) dX9_door_50 rfl ?_
            refine z_iconst (pc := 51) (4 : Int32) dX9_door_51 (by decide) ?_
            refine z_let (fun (j : Int32 → zRes) => ∀ (s18 : Int32), zR yX9_door cX9_door 3 (some .int) 3 72 [.null, .null, .null] [.int s18] 1134 SM μ15 (j s18)) ?_ (fun j19 hj19 => ?_)
            · intro s18
              exact z_iret (pc := 72) rfl dX9_door_72
            · refine z_icmp_ge (pc := 52) (tgt := 66) dX9_door_52 (by decide) (fun c20 => ?_) (fun c21 => ?_)
              · refine z_aload_n (pc := 66) dX9_door_66 rfl ?_
                refine z_getr (pc := 67) fdX9_61 (by decide) sm_0 rfl rfl dX9_door_67 ?_
                refine z_iload_n (pc := 70) dX9_door_70 rfl ?_
                refine z_iald (pc := 71) (by decide) sm_92 rfl dX9_door_71 (fun h22 => ?_)
                refine z_loc (L' := [.null, .null, .null]) ⟨Or.inl rfl, ⟨Or.inl rfl, ⟨Or.inl rfl, trivial⟩⟩⟩ ?_
                exact hj19 (μ15 92 x1.toNatClampNeg)
              · refine z_aload_n (pc := 55) dX9_door_55 rfl ?_
                refine z_getr (pc := 56) fdX9_37 (by decide) sm_0 rfl rfl dX9_door_56 ?_
                refine z_iload_n (pc := 59) dX9_door_59 rfl ?_
                refine z_aald (pc := 60) (fun j => 36 + j) (by decide) sm_35 (Or.inl rfl) smg_35 dX9_door_60 (fun h23 => ?_)
                refine z_iload_n (pc := 61) dX9_door_61 rfl ?_
                refine z_iald (pc := 62) (smr_35 h23).2 (smr_35 h23).1 rfl dX9_door_62 (fun h24 => ?_)
                refine z_goto (pc := 63) (tgt := 72) dX9_door_63 (by decide) ?_
                refine z_loc (L' := [.null, .null, .null]) ⟨Or.inl rfl, ⟨Or.inl rfl, ⟨Or.inl rfl, trivial⟩⟩⟩ ?_
                exact hj19 (μ15 (36 + x1.toNatClampNeg) x2.toNatClampNeg)
          · refine z_loc (L' := [.null, .null, .null]) ⟨Or.inl rfl, ⟨Or.inl rfl, ⟨Or.inl rfl, trivial⟩⟩⟩ ?_
            exact hj8 μ15
        · refine z_if_ne (pc := 33) (tgt := 40) dX9_door_33 (by decide) (fun c26 => ?_) (fun c27 => ?_)
          · refine z_iconst (pc := 40) (0 : Int32) dX9_door_40 (by decide) ?_
            exact hj25 (0 : Int32)
          · refine z_iconst (pc := 36) (1 : Int32) dX9_door_36 (by decide) ?_
            refine z_goto (pc := 37) (tgt := 41) dX9_door_37 (by decide) ?_
            exact hj25 (1 : Int32)
  · refine z_if_ne (pc := 11) (tgt := 18) dX9_door_11 (by decide) (fun c29 => ?_) (fun c30 => ?_)
    · refine z_iconst (pc := 18) (0 : Int32) dX9_door_18 (by decide) ?_
      exact hj28 (0 : Int32)
    · refine z_iconst (pc := 14) (1 : Int32) dX9_door_14 (by decide) ?_
      refine z_goto (pc := 15) (tgt := 19) dX9_door_15 (by decide) ?_
      exact hj28 (1 : Int32)
def f9_slateOf (x1 : Int32) (μ : zMem) : zRes := zlet (fun (s1 : Int32) => some (0, s1, μ)) (fun j2 => if (μ 0 30) = (-1 : Int32) then zin (5 : Int32) 6 (if (μ 4 (5 : Int32).toNatClampNeg) = 0 then j2 (0 : Int32) else zin (5 : Int32) 6 (znz (μ 4 (5 : Int32).toNatClampNeg) (zin (zrem x1 (μ 4 (5 : Int32).toNatClampNeg)) 7 (j2 (μ 47 (zrem x1 (μ 4 (5 : Int32).toNatClampNeg)).toNatClampNeg))))) else j2 (μ 0 30))
set_option maxHeartbeats 1000000 in
theorem t9_slateOf (x1 : Int32) (μ : zMem) : zMR yX9_slateOf cX9_slateOf 2 (some .int) 1 [.ref 0, .int x1] 1134 SM μ (f9_slateOf x1 μ) := by
  refine zMR_of (by decide +kernel) rfl (Nat.le_of_ble_eq_true rfl) (L := [.ref 0, .int x1]) rfl ?_
  unfold f9_slateOf
  refine z_aload_n (pc := 0) dX9_slateOf_0 rfl ?_
  refine z_geti (pc := 1) fdX9_70 (by decide) sm_0 rfl dX9_slateOf_1 ?_
  refine z_iconst (pc := 4) (-1 : Int32) dX9_slateOf_4 (by decide) ?_
  refine z_let (fun (j : Int32 → zRes) => ∀ (s1 : Int32), zR yX9_slateOf cX9_slateOf 2 (some .int) 1 41 [.null, .null] [.int s1] 1134 SM μ (j s1)) ?_ (fun j2 hj2 => ?_)
  · intro s1
    exact z_iret (pc := 41) rfl dX9_slateOf_41
  · refine z_icmp_eq (pc := 5) (tgt := 15) dX9_slateOf_5 (by decide) (fun c3 => ?_) (fun c4 => ?_)
    · refine z_aload_n (pc := 15) dX9_slateOf_15 rfl ?_
      refine z_getr (pc := 16) fdX9_23 (by decide) sm_0 rfl rfl dX9_slateOf_16 ?_
      refine z_iconst (pc := 19) (5 : Int32) dX9_slateOf_19 (by decide) ?_
      refine z_iald (pc := 20) (by decide) sm_4 rfl dX9_slateOf_20 (fun h5 => ?_)
      refine z_if_ne (pc := 21) (tgt := 28) dX9_slateOf_21 (by decide) (fun c6 => ?_) (fun c7 => ?_)
      · refine z_aload_n (pc := 28) dX9_slateOf_28 rfl ?_
        refine z_getr (pc := 29) fdX9_43 (by decide) sm_0 rfl rfl dX9_slateOf_29 ?_
        refine z_iload_n (pc := 32) dX9_slateOf_32 rfl ?_
        refine z_aload_n (pc := 33) dX9_slateOf_33 rfl ?_
        refine z_getr (pc := 34) fdX9_23 (by decide) sm_0 rfl rfl dX9_slateOf_34 ?_
        refine z_iconst (pc := 37) (5 : Int32) dX9_slateOf_37 (by decide) ?_
        refine z_iald (pc := 38) (by decide) sm_4 rfl dX9_slateOf_38 (fun h8 => ?_)
        refine z_irem (pc := 39) dX9_slateOf_39 (fun h9 => ?_)
        refine z_iald (pc := 40) (by decide) sm_47 rfl dX9_slateOf_40 (fun h10 => ?_)
        refine z_loc (L' := [.null, .null]) ⟨Or.inl rfl, ⟨Or.inl rfl, trivial⟩⟩ ?_
        exact hj2 (μ 47 (zrem x1 (μ 4 (5 : Int32).toNatClampNeg)).toNatClampNeg)
      · refine z_iconst (pc := 24) (0 : Int32) dX9_slateOf_24 (by decide) ?_
        refine z_goto (pc := 25) (tgt := 41) dX9_slateOf_25 (by decide) ?_
        refine z_loc (L' := [.null, .null]) ⟨Or.inl rfl, ⟨Or.inl rfl, trivial⟩⟩ ?_
        exact hj2 (0 : Int32)
    · refine z_aload_n (pc := 8) dX9_slateOf_8 rfl ?_
      refine z_geti (pc := 9) fdX9_70 (by decide) sm_0 rfl dX9_slateOf_9 ?_
      refine z_goto (pc := 12) (tgt := 41) dX9_slateOf_12 (by decide) ?_
      refine z_loc (L' := [.null, .null]) ⟨Or.inl rfl, ⟨Or.inl rfl, trivial⟩⟩ ?_
      exact hj2 (μ 0 30)
def f9_slate (x1 : Int32) (μ : zMem) : zRes := zlet (zset μ 0 0 (0 : Int32)) (fun (μ1 : zMem) => bnd0 (f9_in x1 (0 : Int32) (29 : Int32) μ1) (fun (v2 : Int32) (μ3 : zMem) => zlet (fun (s4 : Int32) => bnd0 (f9_bad s4 (1 : Int32) μ3) (fun (v5 : Int32) (μ6 : zMem) => if v5 = 0 then bnd0 (f9_slateOf x1 μ6) (fun (v9 : Int32) (μ10 : zMem) => some (0, v9, μ10)) else some (0, (0 : Int32), μ6))) (fun j11 => if v2 = 0 then j11 (1 : Int32) else j11 (0 : Int32))))
set_option maxHeartbeats 1000000 in
theorem t9_slate (x1 : Int32) (μ : zMem) : zMR yX9_slate cX9_slate 2 (some .int) 2 [.ref 0, .int x1] 1134 SM μ (f9_slate x1 μ) := by
  refine zMR_of (by decide +kernel) rfl (Nat.le_of_ble_eq_true rfl) (L := [.ref 0, .int x1]) rfl ?_
  unfold f9_slate
  refine z_aload_n (pc := 0) dX9_slate_0 rfl ?_
  refine z_iconst (pc := 1) (0 : Int32) dX9_slate_1 (by decide) ?_
  refine z_puti (pc := 2) fdX9_106 (by decide) sm_0 rfl rfl dX9_slate_2 ?_
  refine z_mem (fun μ1 => ?_)
  refine z_aload_n (pc := 5) dX9_slate_5 rfl ?_
  refine z_iload_n (pc := 6) dX9_slate_6 rfl ?_
  refine z_iconst (pc := 7) (0 : Int32) dX9_slate_7 (by decide) ?_
  refine z_bipush (pc := 8) (29 : Int32) dX9_slate_8 (by decide) ?_
  refine z_callS (As := [.int x1, .int (0 : Int32), .int (29 : Int32)]) (pc := 10) (ret' := some .boolean) ksX9_140 (t9_in _ _ _ _) (by decide)  rfl rfl (Nat.le_of_ble_eq_true rfl) dX9_slate_10 (fun v2 μ3 => ?_)
  refine z_let (fun (j : Int32 → zRes) => ∀ (s4 : Int32), zR yX9_slate cX9_slate 2 (some .int) 2 21 [.ref 0, .int x1] [.int s4, .ref 0] 1134 SM μ3 (j s4)) ?_ (fun j11 hj11 => ?_)
  · intro s4
    refine z_iconst (pc := 21) (1 : Int32) dX9_slate_21 (by decide) ?_
    refine z_callV (As := [.int s4, .int (1 : Int32)]) (pc := 22) (ret' := some .boolean) kvX9_188 (t9_bad _ _ _) (by decide) (by decide) sm_0  rfl rfl (Nat.le_of_ble_eq_true rfl) dX9_slate_22 (fun v5 μ6 => ?_)
    refine z_if_eq (pc := 25) (tgt := 30) dX9_slate_25 (by decide) (fun c7 => ?_) (fun c8 => ?_)
    · refine z_aload_n (pc := 30) dX9_slate_30 rfl ?_
      refine z_iload_n (pc := 31) dX9_slate_31 rfl ?_
      refine z_callV (As := [.int x1]) (pc := 32) (ret' := some .int) kvX9_223 (t9_slateOf _ _) (by decide) (by decide) sm_0  rfl rfl (Nat.le_of_ble_eq_true rfl) dX9_slate_32 (fun v9 μ10 => ?_)
      exact z_iret (pc := 35) rfl dX9_slate_35
    · refine z_iconst (pc := 28) (0 : Int32) dX9_slate_28 (by decide) ?_
      exact z_iret (pc := 29) rfl dX9_slate_29
  · refine z_if_ne (pc := 13) (tgt := 20) dX9_slate_13 (by decide) (fun c12 => ?_) (fun c13 => ?_)
    · refine z_iconst (pc := 20) (0 : Int32) dX9_slate_20 (by decide) ?_
      exact hj11 (0 : Int32)
    · refine z_iconst (pc := 16) (1 : Int32) dX9_slate_16 (by decide) ?_
      refine z_goto (pc := 17) (tgt := 21) dX9_slate_17 (by decide) ?_
      exact hj11 (1 : Int32)
def f9_badWork (x1 : Int32) (x2 : Int32) (x3 : Int32) (μ : zMem) : zRes := bnd0 (f9_isDoor x1 μ) (fun (v1 : Int32) (μ2 : zMem) => zlet (fun (s3 : Int32) => bnd0 (f9_bad s3 (1 : Int32) μ2) (fun (v4 : Int32) (μ5 : zMem) => zlet (fun (s6 : Int32) (μ7 : zMem) => zbl s6 (some (0, s6, μ7))) (fun j8 => zlet (fun (μ9 : zMem) => j8 (1 : Int32) μ9) (fun j10 => if v4 = 0 then bnd0 (f9_isPerson x2 μ5) (fun (v13 : Int32) (μ14 : zMem) => zlet (fun (s15 : Int32) (μ16 : zMem) => bnd0 (f9_bad s15 (2 : Int32) μ16) (fun (v17 : Int32) (μ18 : zMem) => if v17 = 0 then j8 (0 : Int32) μ18 else j10 μ18)) (fun j21 => zlet (fun (μ22 : zMem) => j21 (1 : Int32) μ22) (fun j23 => if v13 = 0 then j23 μ14 else bnd0 (f9_isPerson x3 μ14) (fun (v26 : Int32) (μ27 : zMem) => if v26 = 0 then j23 μ27 else j21 (0 : Int32) μ27)))) else j10 μ5)))) (fun j30 => if v1 = 0 then j30 (1 : Int32) else j30 (0 : Int32)))
set_option maxHeartbeats 1000000 in
theorem t9_badWork (x1 : Int32) (x2 : Int32) (x3 : Int32) (μ : zMem) : zMR yX9_badWork cX9_badWork 4 (some .boolean) 3 [.ref 0, .int x1, .int x2, .int x3] 1134 SM μ (f9_badWork x1 x2 x3 μ) := by
  refine zMR_of (by decide +kernel) rfl (Nat.le_of_ble_eq_true rfl) (L := [.ref 0, .int x1, .int x2, .int x3]) rfl ?_
  unfold f9_badWork
  refine z_aload_n (pc := 0) dX9_badWork_0 rfl ?_
  refine z_aload_n (pc := 1) dX9_badWork_1 rfl ?_
  refine z_iload_n (pc := 2) dX9_badWork_2 rfl ?_
  refine z_callV (As := [.int x1]) (pc := 3) (ret' := some .boolean) kvX9_220 (t9_isDoor _ _) (by decide) (by decide) sm_0  rfl rfl (Nat.le_of_ble_eq_true rfl) dX9_badWork_3 (fun v1 μ2 => ?_)
  refine z_let (fun (j : Int32 → zRes) => ∀ (s3 : Int32), zR yX9_badWork cX9_badWork 4 (some .boolean) 3 14 [.ref 0, .null, .int x2, .int x3] [.int s3, .ref 0] 1134 SM μ2 (j s3)) ?_ (fun j30 hj30 => ?_)
  · intro s3
    refine z_iconst (pc := 14) (1 : Int32) dX9_badWork_14 (by decide) ?_
    refine z_callV (As := [.int s3, .int (1 : Int32)]) (pc := 15) (ret' := some .boolean) kvX9_188 (t9_bad _ _ _) (by decide) (by decide) sm_0  rfl rfl (Nat.le_of_ble_eq_true rfl) dX9_badWork_15 (fun v4 μ5 => ?_)
    refine z_let (fun (j : Int32 → zMem → zRes) => ∀ (s6 : Int32) (μ7 : zMem), zR yX9_badWork cX9_badWork 4 (some .boolean) 3 55 [.null, .null, .null, .null] [.int s6] 1134 SM μ7 (j s6 μ7)) ?_ (fun j8 hj8 => ?_)
    · intro s6 μ7
      exact z_zret (pc := 55) rfl dX9_badWork_55
    · refine z_let (fun (j : zMem → zRes) => ∀ (μ9 : zMem), zR yX9_badWork cX9_badWork 4 (some .boolean) 3 50 [.null, .null, .null, .null] [] 1134 SM μ9 (j μ9)) ?_ (fun j10 hj10 => ?_)
      · intro μ9
        refine z_iconst (pc := 50) (1 : Int32) dX9_badWork_50 (by decide) ?_
        refine z_goto (pc := 51) (tgt := 55) dX9_badWork_51 (by decide) ?_
        exact hj8 (1 : Int32) μ9
      · refine z_if_ne (pc := 18) (tgt := 50) dX9_badWork_18 (by decide) (fun c11 => ?_) (fun c12 => ?_)
        · refine z_loc (L' := [.null, .null, .null, .null]) ⟨Or.inl rfl, ⟨Or.inl rfl, ⟨Or.inl rfl, ⟨Or.inl rfl, trivial⟩⟩⟩⟩ ?_
          exact hj10 μ5
        · refine z_aload_n (pc := 21) dX9_badWork_21 rfl ?_
          refine z_aload_n (pc := 22) dX9_badWork_22 rfl ?_
          refine z_iload_n (pc := 23) dX9_badWork_23 rfl ?_
          refine z_callV (As := [.int x2]) (pc := 24) (ret' := some .boolean) kvX9_214 (t9_isPerson _ _) (by decide) (by decide) sm_0  rfl rfl (Nat.le_of_ble_eq_true rfl) dX9_badWork_24 (fun v13 μ14 => ?_)
          refine z_let (fun (j : Int32 → zMem → zRes) => ∀ (s15 : Int32) (μ16 : zMem), zR yX9_badWork cX9_badWork 4 (some .boolean) 3 43 [.null, .null, .null, .null] [.int s15, .ref 0] 1134 SM μ16 (j s15 μ16)) ?_ (fun j21 hj21 => ?_)
          · intro s15 μ16
            refine z_iconst (pc := 43) (2 : Int32) dX9_badWork_43 (by decide) ?_
            refine z_callV (As := [.int s15, .int (2 : Int32)]) (pc := 44) (ret' := some .boolean) kvX9_188 (t9_bad _ _ _) (by decide) (by decide) sm_0  rfl rfl (Nat.le_of_ble_eq_true rfl) dX9_badWork_44 (fun v17 μ18 => ?_)
            refine z_if_eq (pc := 47) (tgt := 54) dX9_badWork_47 (by decide) (fun c19 => ?_) (fun c20 => ?_)
            · refine z_iconst (pc := 54) (0 : Int32) dX9_badWork_54 (by decide) ?_
              exact hj8 (0 : Int32) μ18
            · exact hj10 μ18
          · refine z_let (fun (j : zMem → zRes) => ∀ (μ22 : zMem), zR yX9_badWork cX9_badWork 4 (some .boolean) 3 38 [.null, .null, .null, .null] [.ref 0] 1134 SM μ22 (j μ22)) ?_ (fun j23 hj23 => ?_)
            · intro μ22
              refine z_iconst (pc := 38) (1 : Int32) dX9_badWork_38 (by decide) ?_
              refine z_goto (pc := 39) (tgt := 43) dX9_badWork_39 (by decide) ?_
              exact hj21 (1 : Int32) μ22
            · refine z_if_eq (pc := 27) (tgt := 38) dX9_badWork_27 (by decide) (fun c24 => ?_) (fun c25 => ?_)
              · refine z_loc (L' := [.null, .null, .null, .null]) ⟨Or.inl rfl, ⟨Or.inl rfl, ⟨Or.inl rfl, ⟨Or.inl rfl, trivial⟩⟩⟩⟩ ?_
                exact hj23 μ14
              · refine z_aload_n (pc := 30) dX9_badWork_30 rfl ?_
                refine z_iload_n (pc := 31) dX9_badWork_31 rfl ?_
                refine z_callV (As := [.int x3]) (pc := 32) (ret' := some .boolean) kvX9_214 (t9_isPerson _ _) (by decide) (by decide) sm_0  rfl rfl (Nat.le_of_ble_eq_true rfl) dX9_badWork_32 (fun v26 μ27 => ?_)
                refine z_if_ne (pc := 35) (tgt := 42) dX9_badWork_35 (by decide) (fun c28 => ?_) (fun c29 => ?_)
                · refine z_iconst (pc := 42) (0 : Int32) dX9_badWork_42 (by decide) ?_
                  refine z_loc (L' := [.null, .null, .null, .null]) ⟨Or.inl rfl, ⟨Or.inl rfl, ⟨Or.inl rfl, ⟨Or.inl rfl, trivial⟩⟩⟩⟩ ?_
                  exact hj21 (0 : Int32) μ27
                · refine z_loc (L' := [.null, .null, .null, .null]) ⟨Or.inl rfl, ⟨Or.inl rfl, ⟨Or.inl rfl, ⟨Or.inl rfl, trivial⟩⟩⟩⟩ ?_
                  exact hj23 μ27
  · refine z_if_ne (pc := 6) (tgt := 13) dX9_badWork_6 (by decide) (fun c31 => ?_) (fun c32 => ?_)
    · refine z_iconst (pc := 13) (0 : Int32) dX9_badWork_13 (by decide) ?_
      refine z_loc (L' := [.ref 0, .null, .int x2, .int x3]) ⟨Or.inr rfl, ⟨Or.inl rfl, ⟨Or.inr rfl, ⟨Or.inr rfl, trivial⟩⟩⟩⟩ ?_
      exact hj30 (0 : Int32)
    · refine z_iconst (pc := 9) (1 : Int32) dX9_badWork_9 (by decide) ?_
      refine z_goto (pc := 10) (tgt := 14) dX9_badWork_10 (by decide) ?_
      refine z_loc (L' := [.ref 0, .null, .int x2, .int x3]) ⟨Or.inr rfl, ⟨Or.inl rfl, ⟨Or.inr rfl, ⟨Or.inr rfl, trivial⟩⟩⟩⟩ ?_
      exact hj30 (1 : Int32)
