theorem dX3_skipBlanks_0 : decode cX3_skipBlanks 0 = .ok (.aload_n 0, 1) := by decide +kernel
theorem dX3_skipBlanks_1 : decode cX3_skipBlanks 1 = .ok (.getfield 15, 3) := by decide +kernel
theorem dX3_skipBlanks_4 : decode cX3_skipBlanks 4 = .ok (.aload_n 0, 1) := by decide +kernel
theorem dX3_skipBlanks_5 : decode cX3_skipBlanks 5 = .ok (.getfield 9, 3) := by decide +kernel
theorem dX3_skipBlanks_8 : decode cX3_skipBlanks 8 = .ok (.if_icmp .ge 30, 3) := by decide +kernel
theorem dX3_skipBlanks_11 : decode cX3_skipBlanks 11 = .ok (.aload_n 0, 1) := by decide +kernel
theorem dX3_skipBlanks_12 : decode cX3_skipBlanks 12 = .ok (.getfield 24, 3) := by decide +kernel
theorem dX3_skipBlanks_15 : decode cX3_skipBlanks 15 = .ok (.aload_n 0, 1) := by decide +kernel
theorem dX3_skipBlanks_16 : decode cX3_skipBlanks 16 = .ok (.getfield 15, 3) := by decide +kernel
theorem dX3_skipBlanks_19 : decode cX3_skipBlanks 19 = .ok (.iaload, 1) := by decide +kernel
theorem dX3_skipBlanks_20 : decode cX3_skipBlanks 20 = .ok (.bipush 32, 2) := by decide +kernel
theorem dX3_skipBlanks_22 : decode cX3_skipBlanks 22 = .ok (.if_icmp .ne 16, 3) := by decide +kernel
theorem dX3_skipBlanks_25 : decode cX3_skipBlanks 25 = .ok (.aload_n 0, 1) := by decide +kernel
theorem dX3_skipBlanks_26 : decode cX3_skipBlanks 26 = .ok (.dup, 1) := by decide +kernel
theorem dX3_skipBlanks_27 : decode cX3_skipBlanks 27 = .ok (.getfield 15, 3) := by decide +kernel
theorem dX3_skipBlanks_30 : decode cX3_skipBlanks 30 = .ok (.iconst 1, 1) := by decide +kernel
theorem dX3_skipBlanks_31 : decode cX3_skipBlanks 31 = .ok (.iadd, 1) := by decide +kernel
theorem dX3_skipBlanks_32 : decode cX3_skipBlanks 32 = .ok (.putfield 15, 3) := by decide +kernel
theorem dX3_skipBlanks_35 : decode cX3_skipBlanks 35 = .ok (.goto (-35), 3) := by decide +kernel
theorem dX3_skipBlanks_38 : decode cX3_skipBlanks 38 = .ok (.return_, 1) := by decide +kernel
theorem dX3_stands_0 : decode cX3_stands 0 = .ok (.aload_n 0, 1) := by decide +kernel
theorem dX3_stands_1 : decode cX3_stands 1 = .ok (.getfield 15, 3) := by decide +kernel
theorem dX3_stands_4 : decode cX3_stands 4 = .ok (.iload_n 2, 1) := by decide +kernel
theorem dX3_stands_5 : decode cX3_stands 5 = .ok (.isub, 1) := by decide +kernel
theorem dX3_stands_6 : decode cX3_stands 6 = .ok (.aload_n 1, 1) := by decide +kernel
theorem dX3_stands_7 : decode cX3_stands 7 = .ok (.invokevirtual 159, 3) := by decide +kernel
theorem dX3_stands_10 : decode cX3_stands 10 = .ok (.if_icmp .eq 5, 3) := by decide +kernel
theorem dX3_stands_13 : decode cX3_stands 13 = .ok (.iconst 0, 1) := by decide +kernel
theorem dX3_stands_14 : decode cX3_stands 14 = .ok (.ireturn, 1) := by decide +kernel
theorem dX3_stands_15 : decode cX3_stands 15 = .ok (.iconst 0, 1) := by decide +kernel
theorem dX3_stands_16 : decode cX3_stands 16 = .ok (.istore_n 3, 1) := by decide +kernel
theorem dX3_stands_17 : decode cX3_stands 17 = .ok (.iload_n 3, 1) := by decide +kernel
theorem dX3_stands_18 : decode cX3_stands 18 = .ok (.aload_n 1, 1) := by decide +kernel
theorem dX3_stands_19 : decode cX3_stands 19 = .ok (.invokevirtual 159, 3) := by decide +kernel
theorem dX3_stands_22 : decode cX3_stands 22 = .ok (.if_icmp .ge 27, 3) := by decide +kernel
theorem dX3_stands_25 : decode cX3_stands 25 = .ok (.aload_n 0, 1) := by decide +kernel
theorem dX3_stands_26 : decode cX3_stands 26 = .ok (.getfield 24, 3) := by decide +kernel
theorem dX3_stands_29 : decode cX3_stands 29 = .ok (.iload_n 2, 1) := by decide +kernel
theorem dX3_stands_30 : decode cX3_stands 30 = .ok (.iload_n 3, 1) := by decide +kernel
theorem dX3_stands_31 : decode cX3_stands 31 = .ok (.iadd, 1) := by decide +kernel
theorem dX3_stands_32 : decode cX3_stands 32 = .ok (.iaload, 1) := by decide +kernel
theorem dX3_stands_33 : decode cX3_stands 33 = .ok (.aload_n 1, 1) := by decide +kernel
theorem dX3_stands_34 : decode cX3_stands 34 = .ok (.iload_n 3, 1) := by decide +kernel
theorem dX3_stands_35 : decode cX3_stands 35 = .ok (.invokevirtual 164, 3) := by decide +kernel
theorem dX3_stands_38 : decode cX3_stands 38 = .ok (.if_icmp .eq 5, 3) := by decide +kernel
theorem dX3_stands_41 : decode cX3_stands 41 = .ok (.iconst 0, 1) := by decide +kernel
theorem dX3_stands_42 : decode cX3_stands 42 = .ok (.ireturn, 1) := by decide +kernel
theorem dX3_stands_43 : decode cX3_stands 43 = .ok (.iinc 3 1, 3) := by decide +kernel
theorem dX3_stands_46 : decode cX3_stands 46 = .ok (.goto (-29), 3) := by decide +kernel
theorem dX3_stands_49 : decode cX3_stands 49 = .ok (.iconst 1, 1) := by decide +kernel
theorem dX3_stands_50 : decode cX3_stands 50 = .ok (.ireturn, 1) := by decide +kernel
theorem dX3_readWord_0 : decode cX3_readWord 0 = .ok (.aload_n 0, 1) := by decide +kernel
theorem dX3_readWord_1 : decode cX3_readWord 1 = .ok (.getfield 15, 3) := by decide +kernel
theorem dX3_readWord_4 : decode cX3_readWord 4 = .ok (.istore_n 1, 1) := by decide +kernel
theorem dX3_readWord_5 : decode cX3_readWord 5 = .ok (.aload_n 0, 1) := by decide +kernel
theorem dX3_readWord_6 : decode cX3_readWord 6 = .ok (.getfield 15, 3) := by decide +kernel
theorem dX3_readWord_9 : decode cX3_readWord 9 = .ok (.aload_n 0, 1) := by decide +kernel
theorem dX3_readWord_10 : decode cX3_readWord 10 = .ok (.getfield 9, 3) := by decide +kernel
theorem dX3_readWord_13 : decode cX3_readWord 13 = .ok (.if_icmp .ge 44, 3) := by decide +kernel
theorem dX3_readWord_16 : decode cX3_readWord 16 = .ok (.aload_n 0, 1) := by decide +kernel
theorem dX3_readWord_17 : decode cX3_readWord 17 = .ok (.getfield 24, 3) := by decide +kernel
theorem dX3_readWord_20 : decode cX3_readWord 20 = .ok (.aload_n 0, 1) := by decide +kernel
theorem dX3_readWord_21 : decode cX3_readWord 21 = .ok (.getfield 15, 3) := by decide +kernel
theorem dX3_readWord_24 : decode cX3_readWord 24 = .ok (.iaload, 1) := by decide +kernel
theorem dX3_readWord_25 : decode cX3_readWord 25 = .ok (.bipush 97, 2) := by decide +kernel
theorem dX3_readWord_27 : decode cX3_readWord 27 = .ok (.if_icmp .lt 30, 3) := by decide +kernel
theorem dX3_readWord_30 : decode cX3_readWord 30 = .ok (.aload_n 0, 1) := by decide +kernel
theorem dX3_readWord_31 : decode cX3_readWord 31 = .ok (.getfield 24, 3) := by decide +kernel
theorem dX3_readWord_34 : decode cX3_readWord 34 = .ok (.aload_n 0, 1) := by decide +kernel
theorem dX3_readWord_35 : decode cX3_readWord 35 = .ok (.getfield 15, 3) := by decide +kernel
theorem dX3_readWord_38 : decode cX3_readWord 38 = .ok (.iaload, 1) := by decide +kernel
theorem dX3_readWord_39 : decode cX3_readWord 39 = .ok (.bipush 122, 2) := by decide +kernel
theorem dX3_readWord_41 : decode cX3_readWord 41 = .ok (.if_icmp .gt 16, 3) := by decide +kernel
theorem dX3_readWord_44 : decode cX3_readWord 44 = .ok (.aload_n 0, 1) := by decide +kernel
theorem dX3_readWord_45 : decode cX3_readWord 45 = .ok (.dup, 1) := by decide +kernel
theorem dX3_readWord_46 : decode cX3_readWord 46 = .ok (.getfield 15, 3) := by decide +kernel
theorem dX3_readWord_49 : decode cX3_readWord 49 = .ok (.iconst 1, 1) := by decide +kernel
theorem dX3_readWord_50 : decode cX3_readWord 50 = .ok (.iadd, 1) := by decide +kernel
theorem dX3_readWord_51 : decode cX3_readWord 51 = .ok (.putfield 15, 3) := by decide +kernel
theorem dX3_readWord_54 : decode cX3_readWord 54 = .ok (.goto (-49), 3) := by decide +kernel
theorem dX3_readWord_57 : decode cX3_readWord 57 = .ok (.aload_n 0, 1) := by decide +kernel
theorem dX3_readWord_58 : decode cX3_readWord 58 = .ok (.ldc 142, 2) := by decide +kernel
theorem dX3_readWord_60 : decode cX3_readWord 60 = .ok (.iload_n 1, 1) := by decide +kernel
theorem dX3_readWord_61 : decode cX3_readWord 61 = .ok (.invokevirtual 143, 3) := by decide +kernel
theorem dX3_readWord_64 : decode cX3_readWord 64 = .ok (.ifCond .eq 5, 3) := by decide +kernel
theorem dX3_readWord_67 : decode cX3_readWord 67 = .ok (.iconst 1, 1) := by decide +kernel
theorem dX3_readWord_68 : decode cX3_readWord 68 = .ok (.ireturn, 1) := by decide +kernel
theorem dX3_readWord_69 : decode cX3_readWord 69 = .ok (.aload_n 0, 1) := by decide +kernel
theorem dX3_readWord_70 : decode cX3_readWord 70 = .ok (.ldc 147, 2) := by decide +kernel
theorem dX3_readWord_72 : decode cX3_readWord 72 = .ok (.iload_n 1, 1) := by decide +kernel
theorem dX3_readWord_73 : decode cX3_readWord 73 = .ok (.invokevirtual 143, 3) := by decide +kernel
theorem dX3_readWord_76 : decode cX3_readWord 76 = .ok (.ifCond .eq 5, 3) := by decide +kernel
theorem dX3_readWord_79 : decode cX3_readWord 79 = .ok (.iconst 2, 1) := by decide +kernel
theorem dX3_readWord_80 : decode cX3_readWord 80 = .ok (.ireturn, 1) := by decide +kernel
theorem dX3_readWord_81 : decode cX3_readWord 81 = .ok (.aload_n 0, 1) := by decide +kernel
theorem dX3_readWord_82 : decode cX3_readWord 82 = .ok (.ldc 149, 2) := by decide +kernel
theorem dX3_readWord_84 : decode cX3_readWord 84 = .ok (.iload_n 1, 1) := by decide +kernel
theorem dX3_readWord_85 : decode cX3_readWord 85 = .ok (.invokevirtual 143, 3) := by decide +kernel
theorem dX3_readWord_88 : decode cX3_readWord 88 = .ok (.ifCond .eq 5, 3) := by decide +kernel
theorem dX3_readWord_91 : decode cX3_readWord 91 = .ok (.iconst 3, 1) := by decide +kernel
theorem dX3_readWord_92 : decode cX3_readWord 92 = .ok (.ireturn, 1) := by decide +kernel
theorem dX3_readWord_93 : decode cX3_readWord 93 = .ok (.aload_n 0, 1) := by decide +kernel
theorem dX3_readWord_94 : decode cX3_readWord 94 = .ok (.ldc 151, 2) := by decide +kernel
theorem dX3_readWord_96 : decode cX3_readWord 96 = .ok (.iload_n 1, 1) := by decide +kernel
theorem dX3_readWord_97 : decode cX3_readWord 97 = .ok (.invokevirtual 143, 3) := by decide +kernel
theorem dX3_readWord_100 : decode cX3_readWord 100 = .ok (.ifCond .eq 5, 3) := by decide +kernel
theorem dX3_readWord_103 : decode cX3_readWord 103 = .ok (.iconst 4, 1) := by decide +kernel
theorem dX3_readWord_104 : decode cX3_readWord 104 = .ok (.ireturn, 1) := by decide +kernel
theorem dX3_readWord_105 : decode cX3_readWord 105 = .ok (.aload_n 0, 1) := by decide +kernel
theorem dX3_readWord_106 : decode cX3_readWord 106 = .ok (.ldc 153, 2) := by decide +kernel
theorem dX3_readWord_108 : decode cX3_readWord 108 = .ok (.iload_n 1, 1) := by decide +kernel
theorem dX3_readWord_109 : decode cX3_readWord 109 = .ok (.invokevirtual 143, 3) := by decide +kernel
theorem dX3_readWord_112 : decode cX3_readWord 112 = .ok (.ifCond .eq 5, 3) := by decide +kernel
theorem dX3_readWord_115 : decode cX3_readWord 115 = .ok (.iconst 5, 1) := by decide +kernel
theorem dX3_readWord_116 : decode cX3_readWord 116 = .ok (.ireturn, 1) := by decide +kernel
theorem dX3_readWord_117 : decode cX3_readWord 117 = .ok (.aload_n 0, 1) := by decide +kernel
theorem dX3_readWord_118 : decode cX3_readWord 118 = .ok (.ldc 155, 2) := by decide +kernel
theorem dX3_readWord_120 : decode cX3_readWord 120 = .ok (.iload_n 1, 1) := by decide +kernel
theorem dX3_readWord_121 : decode cX3_readWord 121 = .ok (.invokevirtual 143, 3) := by decide +kernel
theorem dX3_readWord_124 : decode cX3_readWord 124 = .ok (.ifCond .eq 6, 3) := by decide +kernel
theorem dX3_readWord_127 : decode cX3_readWord 127 = .ok (.bipush 6, 2) := by decide +kernel
theorem dX3_readWord_129 : decode cX3_readWord 129 = .ok (.ireturn, 1) := by decide +kernel
theorem dX3_readWord_130 : decode cX3_readWord 130 = .ok (.aload_n 0, 1) := by decide +kernel
theorem dX3_readWord_131 : decode cX3_readWord 131 = .ok (.ldc 156, 2) := by decide +kernel
theorem dX3_readWord_133 : decode cX3_readWord 133 = .ok (.iload_n 1, 1) := by decide +kernel
theorem dX3_readWord_134 : decode cX3_readWord 134 = .ok (.invokevirtual 143, 3) := by decide +kernel
theorem dX3_readWord_137 : decode cX3_readWord 137 = .ok (.ifCond .eq 6, 3) := by decide +kernel
theorem dX3_readWord_140 : decode cX3_readWord 140 = .ok (.bipush 7, 2) := by decide +kernel
theorem dX3_readWord_142 : decode cX3_readWord 142 = .ok (.ireturn, 1) := by decide +kernel
theorem dX3_readWord_143 : decode cX3_readWord 143 = .ok (.aload_n 0, 1) := by decide +kernel
theorem dX3_readWord_144 : decode cX3_readWord 144 = .ok (.ldc 157, 2) := by decide +kernel
theorem dX3_readWord_146 : decode cX3_readWord 146 = .ok (.iload_n 1, 1) := by decide +kernel
theorem dX3_readWord_147 : decode cX3_readWord 147 = .ok (.invokevirtual 143, 3) := by decide +kernel
theorem dX3_readWord_150 : decode cX3_readWord 150 = .ok (.ifCond .eq 8, 3) := by decide +kernel
theorem dX3_readWord_153 : decode cX3_readWord 153 = .ok (.bipush 8, 2) := by decide +kernel
theorem dX3_readWord_155 : decode cX3_readWord 155 = .ok (.goto 4, 3) := by decide +kernel
theorem dX3_readWord_158 : decode cX3_readWord 158 = .ok (.iconst 0, 1) := by decide +kernel
theorem dX3_readWord_159 : decode cX3_readWord 159 = .ok (.ireturn, 1) := by decide +kernel
theorem dX3_wrong_0 : decode cX3_wrong 0 = .ok (.aload_n 0, 1) := by decide +kernel
theorem dX3_wrong_1 : decode cX3_wrong 1 = .ok (.iload_n 1, 1) := by decide +kernel
theorem dX3_wrong_2 : decode cX3_wrong 2 = .ok (.putfield 18, 3) := by decide +kernel
theorem dX3_wrong_5 : decode cX3_wrong 5 = .ok (.aload_n 0, 1) := by decide +kernel
theorem dX3_wrong_6 : decode cX3_wrong 6 = .ok (.iload_n 2, 1) := by decide +kernel
theorem dX3_wrong_7 : decode cX3_wrong 7 = .ok (.putfield 21, 3) := by decide +kernel
theorem dX3_wrong_10 : decode cX3_wrong 10 = .ok (.iconst 0, 1) := by decide +kernel
theorem dX3_wrong_11 : decode cX3_wrong 11 = .ok (.ireturn, 1) := by decide +kernel
theorem dX3_standsDigit_0 : decode cX3_standsDigit 0 = .ok (.aload_n 0, 1) := by decide +kernel
theorem dX3_standsDigit_1 : decode cX3_standsDigit 1 = .ok (.getfield 15, 3) := by decide +kernel
theorem dX3_standsDigit_4 : decode cX3_standsDigit 4 = .ok (.aload_n 0, 1) := by decide +kernel
theorem dX3_standsDigit_5 : decode cX3_standsDigit 5 = .ok (.getfield 9, 3) := by decide +kernel
theorem dX3_standsDigit_8 : decode cX3_standsDigit 8 = .ok (.if_icmp .ge 35, 3) := by decide +kernel
theorem dX3_standsDigit_11 : decode cX3_standsDigit 11 = .ok (.aload_n 0, 1) := by decide +kernel
theorem dX3_standsDigit_12 : decode cX3_standsDigit 12 = .ok (.getfield 24, 3) := by decide +kernel
theorem dX3_standsDigit_15 : decode cX3_standsDigit 15 = .ok (.aload_n 0, 1) := by decide +kernel
theorem dX3_standsDigit_16 : decode cX3_standsDigit 16 = .ok (.getfield 15, 3) := by decide +kernel
theorem dX3_standsDigit_19 : decode cX3_standsDigit 19 = .ok (.iaload, 1) := by decide +kernel
theorem dX3_standsDigit_20 : decode cX3_standsDigit 20 = .ok (.bipush 48, 2) := by decide +kernel
theorem dX3_standsDigit_22 : decode cX3_standsDigit 22 = .ok (.if_icmp .lt 21, 3) := by decide +kernel
theorem dX3_standsDigit_25 : decode cX3_standsDigit 25 = .ok (.aload_n 0, 1) := by decide +kernel
theorem dX3_standsDigit_26 : decode cX3_standsDigit 26 = .ok (.getfield 24, 3) := by decide +kernel
theorem dX3_standsDigit_29 : decode cX3_standsDigit 29 = .ok (.aload_n 0, 1) := by decide +kernel
theorem dX3_standsDigit_30 : decode cX3_standsDigit 30 = .ok (.getfield 15, 3) := by decide +kernel
theorem dX3_standsDigit_33 : decode cX3_standsDigit 33 = .ok (.iaload, 1) := by decide +kernel
theorem dX3_standsDigit_34 : decode cX3_standsDigit 34 = .ok (.bipush 57, 2) := by decide +kernel
theorem dX3_standsDigit_36 : decode cX3_standsDigit 36 = .ok (.if_icmp .gt 7, 3) := by decide +kernel
theorem dX3_standsDigit_39 : decode cX3_standsDigit 39 = .ok (.iconst 1, 1) := by decide +kernel
theorem dX3_standsDigit_40 : decode cX3_standsDigit 40 = .ok (.goto 4, 3) := by decide +kernel
theorem dX3_standsDigit_43 : decode cX3_standsDigit 43 = .ok (.iconst 0, 1) := by decide +kernel
theorem dX3_standsDigit_44 : decode cX3_standsDigit 44 = .ok (.ireturn, 1) := by decide +kernel
theorem dX3_readDigits_0 : decode cX3_readDigits 0 = .ok (.aload_n 0, 1) := by decide +kernel
theorem dX3_readDigits_1 : decode cX3_readDigits 1 = .ok (.invokevirtual 47, 3) := by decide +kernel
theorem dX3_readDigits_4 : decode cX3_readDigits 4 = .ok (.aload_n 0, 1) := by decide +kernel
theorem dX3_readDigits_5 : decode cX3_readDigits 5 = .ok (.getfield 15, 3) := by decide +kernel
theorem dX3_readDigits_8 : decode cX3_readDigits 8 = .ok (.istore_n 1, 1) := by decide +kernel
theorem dX3_readDigits_9 : decode cX3_readDigits 9 = .ok (.aload_n 0, 1) := by decide +kernel
theorem dX3_readDigits_10 : decode cX3_readDigits 10 = .ok (.getfield 15, 3) := by decide +kernel
theorem dX3_readDigits_13 : decode cX3_readDigits 13 = .ok (.aload_n 0, 1) := by decide +kernel
theorem dX3_readDigits_14 : decode cX3_readDigits 14 = .ok (.getfield 9, 3) := by decide +kernel
theorem dX3_readDigits_17 : decode cX3_readDigits 17 = .ok (.if_icmp .ge 23, 3) := by decide +kernel
theorem dX3_readDigits_20 : decode cX3_readDigits 20 = .ok (.aload_n 0, 1) := by decide +kernel
theorem dX3_readDigits_21 : decode cX3_readDigits 21 = .ok (.invokevirtual 132, 3) := by decide +kernel
theorem dX3_readDigits_24 : decode cX3_readDigits 24 = .ok (.ifCond .eq 16, 3) := by decide +kernel
theorem dX3_readDigits_27 : decode cX3_readDigits 27 = .ok (.aload_n 0, 1) := by decide +kernel
theorem dX3_readDigits_28 : decode cX3_readDigits 28 = .ok (.dup, 1) := by decide +kernel
theorem dX3_readDigits_29 : decode cX3_readDigits 29 = .ok (.getfield 15, 3) := by decide +kernel
theorem dX3_readDigits_32 : decode cX3_readDigits 32 = .ok (.iconst 1, 1) := by decide +kernel
theorem dX3_readDigits_33 : decode cX3_readDigits 33 = .ok (.iadd, 1) := by decide +kernel
theorem dX3_readDigits_34 : decode cX3_readDigits 34 = .ok (.putfield 15, 3) := by decide +kernel
theorem dX3_readDigits_37 : decode cX3_readDigits 37 = .ok (.goto (-28), 3) := by decide +kernel
theorem dX3_readDigits_40 : decode cX3_readDigits 40 = .ok (.aload_n 0, 1) := by decide +kernel
theorem dX3_readDigits_41 : decode cX3_readDigits 41 = .ok (.getfield 15, 3) := by decide +kernel
theorem dX3_readDigits_44 : decode cX3_readDigits 44 = .ok (.iload_n 1, 1) := by decide +kernel
theorem dX3_readDigits_45 : decode cX3_readDigits 45 = .ok (.if_icmp .ne 13, 3) := by decide +kernel
theorem dX3_readDigits_48 : decode cX3_readDigits 48 = .ok (.aload_n 0, 1) := by decide +kernel
theorem dX3_readDigits_49 : decode cX3_readDigits 49 = .ok (.iconst 1, 1) := by decide +kernel
theorem dX3_readDigits_50 : decode cX3_readDigits 50 = .ok (.aload_n 0, 1) := by decide +kernel
theorem dX3_readDigits_51 : decode cX3_readDigits 51 = .ok (.getfield 15, 3) := by decide +kernel
theorem dX3_readDigits_54 : decode cX3_readDigits 54 = .ok (.invokevirtual 58, 3) := by decide +kernel
theorem dX3_readDigits_57 : decode cX3_readDigits 57 = .ok (.pop, 1) := by decide +kernel
theorem dX3_readDigits_58 : decode cX3_readDigits 58 = .ok (.iload_n 1, 1) := by decide +kernel
theorem dX3_readDigits_59 : decode cX3_readDigits 59 = .ok (.ireturn, 1) := by decide +kernel
theorem dX3_readNumber_0 : decode cX3_readNumber 0 = .ok (.aload_n 0, 1) := by decide +kernel
theorem dX3_readNumber_1 : decode cX3_readNumber 1 = .ok (.invokevirtual 101, 3) := by decide +kernel
theorem dX3_readNumber_4 : decode cX3_readNumber 4 = .ok (.istore_n 3, 1) := by decide +kernel
theorem dX3_readNumber_5 : decode cX3_readNumber 5 = .ok (.aload_n 0, 1) := by decide +kernel
theorem dX3_readNumber_6 : decode cX3_readNumber 6 = .ok (.getfield 18, 3) := by decide +kernel
theorem dX3_readNumber_9 : decode cX3_readNumber 9 = .ok (.ifCond .eq 5, 3) := by decide +kernel
theorem dX3_readNumber_12 : decode cX3_readNumber 12 = .ok (.iconst 0, 1) := by decide +kernel
theorem dX3_readNumber_13 : decode cX3_readNumber 13 = .ok (.ireturn, 1) := by decide +kernel
theorem dX3_readNumber_14 : decode cX3_readNumber 14 = .ok (.iconst 0, 1) := by decide +kernel
theorem dX3_readNumber_15 : decode cX3_readNumber 15 = .ok (.istore 4, 2) := by decide +kernel
theorem dX3_readNumber_17 : decode cX3_readNumber 17 = .ok (.iload_n 3, 1) := by decide +kernel
theorem dX3_readNumber_18 : decode cX3_readNumber 18 = .ok (.istore 5, 2) := by decide +kernel
theorem dX3_readNumber_20 : decode cX3_readNumber 20 = .ok (.iload 5, 2) := by decide +kernel
theorem dX3_readNumber_22 : decode cX3_readNumber 22 = .ok (.aload_n 0, 1) := by decide +kernel
theorem dX3_readNumber_23 : decode cX3_readNumber 23 = .ok (.getfield 15, 3) := by decide +kernel
theorem dX3_readNumber_26 : decode cX3_readNumber 26 = .ok (.if_icmp .ge 32, 3) := by decide +kernel
theorem dX3_readNumber_29 : decode cX3_readNumber 29 = .ok (.ldc 141, 2) := by decide +kernel
theorem dX3_readNumber_31 : decode cX3_readNumber 31 = .ok (.iload 4, 2) := by decide +kernel
theorem dX3_readNumber_33 : decode cX3_readNumber 33 = .ok (.bipush 10, 2) := by decide +kernel
theorem dX3_readNumber_35 : decode cX3_readNumber 35 = .ok (.imul, 1) := by decide +kernel
theorem dX3_readNumber_36 : decode cX3_readNumber 36 = .ok (.aload_n 0, 1) := by decide +kernel
theorem dX3_readNumber_37 : decode cX3_readNumber 37 = .ok (.getfield 24, 3) := by decide +kernel
theorem dX3_readNumber_40 : decode cX3_readNumber 40 = .ok (.iload 5, 2) := by decide +kernel
theorem dX3_readNumber_42 : decode cX3_readNumber 42 = .ok (.iaload, 1) := by decide +kernel
theorem dX3_readNumber_43 : decode cX3_readNumber 43 = .ok (.iadd, 1) := by decide +kernel
theorem dX3_readNumber_44 : decode cX3_readNumber 44 = .ok (.bipush 48, 2) := by decide +kernel
theorem dX3_readNumber_46 : decode cX3_readNumber 46 = .ok (.isub, 1) := by decide +kernel
theorem dX3_readNumber_47 : decode cX3_readNumber 47 = .ok (.invokestatic 32, 3) := by decide +kernel
theorem dX3_readNumber_50 : decode cX3_readNumber 50 = .ok (.istore 4, 2) := by decide +kernel
theorem dX3_readNumber_52 : decode cX3_readNumber 52 = .ok (.iinc 5 1, 3) := by decide +kernel
theorem dX3_readNumber_55 : decode cX3_readNumber 55 = .ok (.goto (-35), 3) := by decide +kernel
theorem dX3_readNumber_58 : decode cX3_readNumber 58 = .ok (.iload 4, 2) := by decide +kernel
theorem dX3_readNumber_60 : decode cX3_readNumber 60 = .ok (.iload_n 1, 1) := by decide +kernel
theorem dX3_readNumber_61 : decode cX3_readNumber 61 = .ok (.if_icmp .lt 9, 3) := by decide +kernel
theorem dX3_readNumber_64 : decode cX3_readNumber 64 = .ok (.iload 4, 2) := by decide +kernel
theorem dX3_readNumber_66 : decode cX3_readNumber 66 = .ok (.iload_n 2, 1) := by decide +kernel
theorem dX3_readNumber_67 : decode cX3_readNumber 67 = .ok (.if_icmp .le 12, 3) := by decide +kernel
theorem dX3_readNumber_70 : decode cX3_readNumber 70 = .ok (.aload_n 0, 1) := by decide +kernel
theorem dX3_readNumber_71 : decode cX3_readNumber 71 = .ok (.iconst 2, 1) := by decide +kernel
theorem dX3_readNumber_72 : decode cX3_readNumber 72 = .ok (.iload_n 3, 1) := by decide +kernel
theorem dX3_readNumber_73 : decode cX3_readNumber 73 = .ok (.invokevirtual 58, 3) := by decide +kernel
theorem dX3_readNumber_76 : decode cX3_readNumber 76 = .ok (.pop, 1) := by decide +kernel
theorem dX3_readNumber_77 : decode cX3_readNumber 77 = .ok (.iconst 0, 1) := by decide +kernel
theorem dX3_readNumber_78 : decode cX3_readNumber 78 = .ok (.ireturn, 1) := by decide +kernel
theorem dX3_readNumber_79 : decode cX3_readNumber 79 = .ok (.iload 4, 2) := by decide +kernel
theorem dX3_readNumber_81 : decode cX3_readNumber 81 = .ok (.ireturn, 1) := by decide +kernel
theorem dX3_readSemicolon_0 : decode cX3_readSemicolon 0 = .ok (.aload_n 0, 1) := by decide +kernel
theorem dX3_readSemicolon_1 : decode cX3_readSemicolon 1 = .ok (.invokevirtual 47, 3) := by decide +kernel
theorem dX3_readSemicolon_4 : decode cX3_readSemicolon 4 = .ok (.aload_n 0, 1) := by decide +kernel
theorem dX3_readSemicolon_5 : decode cX3_readSemicolon 5 = .ok (.getfield 15, 3) := by decide +kernel
theorem dX3_readSemicolon_8 : decode cX3_readSemicolon 8 = .ok (.aload_n 0, 1) := by decide +kernel
theorem dX3_readSemicolon_9 : decode cX3_readSemicolon 9 = .ok (.getfield 9, 3) := by decide +kernel
theorem dX3_readSemicolon_12 : decode cX3_readSemicolon 12 = .ok (.if_icmp .ge 17, 3) := by decide +kernel
theorem dX3_readSemicolon_15 : decode cX3_readSemicolon 15 = .ok (.aload_n 0, 1) := by decide +kernel
theorem dX3_readSemicolon_16 : decode cX3_readSemicolon 16 = .ok (.getfield 24, 3) := by decide +kernel
theorem dX3_readSemicolon_19 : decode cX3_readSemicolon 19 = .ok (.aload_n 0, 1) := by decide +kernel
theorem dX3_readSemicolon_20 : decode cX3_readSemicolon 20 = .ok (.getfield 15, 3) := by decide +kernel
theorem dX3_readSemicolon_23 : decode cX3_readSemicolon 23 = .ok (.iaload, 1) := by decide +kernel
theorem dX3_readSemicolon_24 : decode cX3_readSemicolon 24 = .ok (.bipush 59, 2) := by decide +kernel
theorem dX3_readSemicolon_26 : decode cX3_readSemicolon 26 = .ok (.if_icmp .eq 13, 3) := by decide +kernel
theorem dX3_readSemicolon_29 : decode cX3_readSemicolon 29 = .ok (.aload_n 0, 1) := by decide +kernel
theorem dX3_readSemicolon_30 : decode cX3_readSemicolon 30 = .ok (.iconst 1, 1) := by decide +kernel
theorem dX3_readSemicolon_31 : decode cX3_readSemicolon 31 = .ok (.aload_n 0, 1) := by decide +kernel
theorem dX3_readSemicolon_32 : decode cX3_readSemicolon 32 = .ok (.getfield 15, 3) := by decide +kernel
theorem dX3_readSemicolon_35 : decode cX3_readSemicolon 35 = .ok (.invokevirtual 58, 3) := by decide +kernel
theorem dX3_readSemicolon_38 : decode cX3_readSemicolon 38 = .ok (.ireturn, 1) := by decide +kernel
theorem dX3_readSemicolon_39 : decode cX3_readSemicolon 39 = .ok (.aload_n 0, 1) := by decide +kernel
theorem dX3_readSemicolon_40 : decode cX3_readSemicolon 40 = .ok (.dup, 1) := by decide +kernel
theorem dX3_readSemicolon_41 : decode cX3_readSemicolon 41 = .ok (.getfield 15, 3) := by decide +kernel
theorem dX3_readSemicolon_44 : decode cX3_readSemicolon 44 = .ok (.iconst 1, 1) := by decide +kernel
theorem dX3_readSemicolon_45 : decode cX3_readSemicolon 45 = .ok (.iadd, 1) := by decide +kernel
theorem dX3_readSemicolon_46 : decode cX3_readSemicolon 46 = .ok (.putfield 15, 3) := by decide +kernel
theorem dX3_readSemicolon_49 : decode cX3_readSemicolon 49 = .ok (.iconst 1, 1) := by decide +kernel
theorem dX3_readSemicolon_50 : decode cX3_readSemicolon 50 = .ok (.ireturn, 1) := by decide +kernel
theorem dX3_readAsks_0 : decode cX3_readAsks 0 = .ok (.aload_n 0, 1) := by decide +kernel
theorem dX3_readAsks_1 : decode cX3_readAsks 1 = .ok (.invokevirtual 47, 3) := by decide +kernel
theorem dX3_readAsks_4 : decode cX3_readAsks 4 = .ok (.aload_n 0, 1) := by decide +kernel
theorem dX3_readAsks_5 : decode cX3_readAsks 5 = .ok (.getfield 15, 3) := by decide +kernel
theorem dX3_readAsks_8 : decode cX3_readAsks 8 = .ok (.istore_n 1, 1) := by decide +kernel
theorem dX3_readAsks_9 : decode cX3_readAsks 9 = .ok (.aload_n 0, 1) := by decide +kernel
theorem dX3_readAsks_10 : decode cX3_readAsks 10 = .ok (.invokevirtual 54, 3) := by decide +kernel
theorem dX3_readAsks_13 : decode cX3_readAsks 13 = .ok (.iconst 1, 1) := by decide +kernel
theorem dX3_readAsks_14 : decode cX3_readAsks 14 = .ok (.if_icmp .eq 10, 3) := by decide +kernel
theorem dX3_readAsks_17 : decode cX3_readAsks 17 = .ok (.aload_n 0, 1) := by decide +kernel
theorem dX3_readAsks_18 : decode cX3_readAsks 18 = .ok (.iconst 1, 1) := by decide +kernel
theorem dX3_readAsks_19 : decode cX3_readAsks 19 = .ok (.iload_n 1, 1) := by decide +kernel
theorem dX3_readAsks_20 : decode cX3_readAsks 20 = .ok (.invokevirtual 58, 3) := by decide +kernel
theorem dX3_readAsks_23 : decode cX3_readAsks 23 = .ok (.ireturn, 1) := by decide +kernel
theorem dX3_readAsks_24 : decode cX3_readAsks 24 = .ok (.aload_n 0, 1) := by decide +kernel
theorem dX3_readAsks_25 : decode cX3_readAsks 25 = .ok (.getfield 28, 3) := by decide +kernel
theorem dX3_readAsks_28 : decode cX3_readAsks 28 = .ok (.aload_n 0, 1) := by decide +kernel
theorem dX3_readAsks_29 : decode cX3_readAsks 29 = .ok (.iconst 1, 1) := by decide +kernel
theorem dX3_readAsks_30 : decode cX3_readAsks 30 = .ok (.iconst 4, 1) := by decide +kernel
theorem dX3_readAsks_31 : decode cX3_readAsks 31 = .ok (.invokevirtual 62, 3) := by decide +kernel
theorem dX3_readAsks_34 : decode cX3_readAsks 34 = .ok (.putfield 65, 3) := by decide +kernel
theorem dX3_readAsks_37 : decode cX3_readAsks 37 = .ok (.aload_n 0, 1) := by decide +kernel
theorem dX3_readAsks_38 : decode cX3_readAsks 38 = .ok (.getfield 18, 3) := by decide +kernel
theorem dX3_readAsks_41 : decode cX3_readAsks 41 = .ok (.ifCond .ne 14, 3) := by decide +kernel
theorem dX3_readAsks_44 : decode cX3_readAsks 44 = .ok (.aload_n 0, 1) := by decide +kernel
theorem dX3_readAsks_45 : decode cX3_readAsks 45 = .ok (.invokevirtual 68, 3) := by decide +kernel
theorem dX3_readAsks_48 : decode cX3_readAsks 48 = .ok (.ifCond .eq 7, 3) := by decide +kernel
theorem dX3_readAsks_51 : decode cX3_readAsks 51 = .ok (.iconst 1, 1) := by decide +kernel
theorem dX3_readAsks_52 : decode cX3_readAsks 52 = .ok (.goto 4, 3) := by decide +kernel
theorem dX3_readAsks_55 : decode cX3_readAsks 55 = .ok (.iconst 0, 1) := by decide +kernel
theorem dX3_readAsks_56 : decode cX3_readAsks 56 = .ok (.ireturn, 1) := by decide +kernel
theorem dX3_areDigitsUpTo_0 : decode cX3_areDigitsUpTo 0 = .ok (.iload_n 1, 1) := by decide +kernel
theorem dX3_areDigitsUpTo_1 : decode cX3_areDigitsUpTo 1 = .ok (.istore_n 3, 1) := by decide +kernel
theorem dX3_areDigitsUpTo_2 : decode cX3_areDigitsUpTo 2 = .ok (.iload_n 3, 1) := by decide +kernel
theorem dX3_areDigitsUpTo_3 : decode cX3_areDigitsUpTo 3 = .ok (.aload_n 0, 1) := by decide +kernel
theorem dX3_areDigitsUpTo_4 : decode cX3_areDigitsUpTo 4 = .ok (.getfield 15, 3) := by decide +kernel
theorem dX3_areDigitsUpTo_7 : decode cX3_areDigitsUpTo 7 = .ok (.if_icmp .ge 24, 3) := by decide +kernel
theorem dX3_areDigitsUpTo_10 : decode cX3_areDigitsUpTo 10 = .ok (.aload_n 0, 1) := by decide +kernel
theorem dX3_areDigitsUpTo_11 : decode cX3_areDigitsUpTo 11 = .ok (.getfield 24, 3) := by decide +kernel
theorem dX3_areDigitsUpTo_14 : decode cX3_areDigitsUpTo 14 = .ok (.iload_n 3, 1) := by decide +kernel
theorem dX3_areDigitsUpTo_15 : decode cX3_areDigitsUpTo 15 = .ok (.iaload, 1) := by decide +kernel
theorem dX3_areDigitsUpTo_16 : decode cX3_areDigitsUpTo 16 = .ok (.bipush 48, 2) := by decide +kernel
theorem dX3_areDigitsUpTo_18 : decode cX3_areDigitsUpTo 18 = .ok (.isub, 1) := by decide +kernel
theorem dX3_areDigitsUpTo_19 : decode cX3_areDigitsUpTo 19 = .ok (.iload_n 2, 1) := by decide +kernel
theorem dX3_areDigitsUpTo_20 : decode cX3_areDigitsUpTo 20 = .ok (.if_icmp .le 5, 3) := by decide +kernel
theorem dX3_areDigitsUpTo_23 : decode cX3_areDigitsUpTo 23 = .ok (.iconst 0, 1) := by decide +kernel
theorem dX3_areDigitsUpTo_24 : decode cX3_areDigitsUpTo 24 = .ok (.ireturn, 1) := by decide +kernel
theorem dX3_areDigitsUpTo_25 : decode cX3_areDigitsUpTo 25 = .ok (.iinc 3 1, 3) := by decide +kernel
theorem dX3_areDigitsUpTo_28 : decode cX3_areDigitsUpTo 28 = .ok (.goto (-26), 3) := by decide +kernel
theorem dX3_areDigitsUpTo_31 : decode cX3_areDigitsUpTo 31 = .ok (.iconst 1, 1) := by decide +kernel
theorem dX3_areDigitsUpTo_32 : decode cX3_areDigitsUpTo 32 = .ok (.ireturn, 1) := by decide +kernel
theorem dX3_readPerson_0 : decode cX3_readPerson 0 = .ok (.aload_n 0, 1) := by decide +kernel
theorem dX3_readPerson_1 : decode cX3_readPerson 1 = .ok (.invokevirtual 101, 3) := by decide +kernel
theorem dX3_readPerson_4 : decode cX3_readPerson 4 = .ok (.istore_n 1, 1) := by decide +kernel
theorem dX3_readPerson_5 : decode cX3_readPerson 5 = .ok (.aload_n 0, 1) := by decide +kernel
theorem dX3_readPerson_6 : decode cX3_readPerson 6 = .ok (.getfield 18, 3) := by decide +kernel
theorem dX3_readPerson_9 : decode cX3_readPerson 9 = .ok (.ifCond .eq 5, 3) := by decide +kernel
theorem dX3_readPerson_12 : decode cX3_readPerson 12 = .ok (.iconst 0, 1) := by decide +kernel
theorem dX3_readPerson_13 : decode cX3_readPerson 13 = .ok (.ireturn, 1) := by decide +kernel
theorem dX3_readPerson_14 : decode cX3_readPerson 14 = .ok (.aload_n 0, 1) := by decide +kernel
theorem dX3_readPerson_15 : decode cX3_readPerson 15 = .ok (.getfield 15, 3) := by decide +kernel
theorem dX3_readPerson_18 : decode cX3_readPerson 18 = .ok (.iload_n 1, 1) := by decide +kernel
theorem dX3_readPerson_19 : decode cX3_readPerson 19 = .ok (.isub, 1) := by decide +kernel
theorem dX3_readPerson_20 : decode cX3_readPerson 20 = .ok (.aload_n 0, 1) := by decide +kernel
theorem dX3_readPerson_21 : decode cX3_readPerson 21 = .ok (.getfield 28, 3) := by decide +kernel
theorem dX3_readPerson_24 : decode cX3_readPerson 24 = .ok (.getfield 65, 3) := by decide +kernel
theorem dX3_readPerson_27 : decode cX3_readPerson 27 = .ok (.if_icmp .ne 13, 3) := by decide +kernel
theorem dX3_readPerson_30 : decode cX3_readPerson 30 = .ok (.aload_n 0, 1) := by decide +kernel
theorem dX3_readPerson_31 : decode cX3_readPerson 31 = .ok (.iload_n 1, 1) := by decide +kernel
theorem dX3_readPerson_32 : decode cX3_readPerson 32 = .ok (.bipush 8, 2) := by decide +kernel
theorem dX3_readPerson_34 : decode cX3_readPerson 34 = .ok (.invokevirtual 104, 3) := by decide +kernel
theorem dX3_readPerson_37 : decode cX3_readPerson 37 = .ok (.ifCond .ne 10, 3) := by decide +kernel
theorem dX3_readPerson_40 : decode cX3_readPerson 40 = .ok (.aload_n 0, 1) := by decide +kernel
theorem dX3_readPerson_41 : decode cX3_readPerson 41 = .ok (.iconst 2, 1) := by decide +kernel
theorem dX3_readPerson_42 : decode cX3_readPerson 42 = .ok (.iload_n 1, 1) := by decide +kernel
theorem dX3_readPerson_43 : decode cX3_readPerson 43 = .ok (.invokevirtual 58, 3) := by decide +kernel
theorem dX3_readPerson_46 : decode cX3_readPerson 46 = .ok (.ireturn, 1) := by decide +kernel
theorem dX3_readPerson_47 : decode cX3_readPerson 47 = .ok (.iconst 0, 1) := by decide +kernel
theorem dX3_readPerson_48 : decode cX3_readPerson 48 = .ok (.istore_n 2, 1) := by decide +kernel
theorem dX3_readPerson_49 : decode cX3_readPerson 49 = .ok (.iload_n 2, 1) := by decide +kernel
theorem dX3_readPerson_50 : decode cX3_readPerson 50 = .ok (.aload_n 0, 1) := by decide +kernel
theorem dX3_readPerson_51 : decode cX3_readPerson 51 = .ok (.getfield 28, 3) := by decide +kernel
theorem dX3_readPerson_54 : decode cX3_readPerson 54 = .ok (.getfield 65, 3) := by decide +kernel
theorem dX3_readPerson_57 : decode cX3_readPerson 57 = .ok (.if_icmp .ge 39, 3) := by decide +kernel
theorem dX3_readPerson_60 : decode cX3_readPerson 60 = .ok (.aload_n 0, 1) := by decide +kernel
theorem dX3_readPerson_61 : decode cX3_readPerson 61 = .ok (.getfield 28, 3) := by decide +kernel
theorem dX3_readPerson_64 : decode cX3_readPerson 64 = .ok (.getfield 107, 3) := by decide +kernel
theorem dX3_readPerson_67 : decode cX3_readPerson 67 = .ok (.aload_n 0, 1) := by decide +kernel
theorem dX3_readPerson_68 : decode cX3_readPerson 68 = .ok (.getfield 28, 3) := by decide +kernel
theorem dX3_readPerson_71 : decode cX3_readPerson 71 = .ok (.getfield 71, 3) := by decide +kernel
theorem dX3_readPerson_74 : decode cX3_readPerson 74 = .ok (.iconst 4, 1) := by decide +kernel
theorem dX3_readPerson_75 : decode cX3_readPerson 75 = .ok (.imul, 1) := by decide +kernel
theorem dX3_readPerson_76 : decode cX3_readPerson 76 = .ok (.iload_n 2, 1) := by decide +kernel
theorem dX3_readPerson_77 : decode cX3_readPerson 77 = .ok (.iadd, 1) := by decide +kernel
theorem dX3_readPerson_78 : decode cX3_readPerson 78 = .ok (.aload_n 0, 1) := by decide +kernel
theorem dX3_readPerson_79 : decode cX3_readPerson 79 = .ok (.getfield 24, 3) := by decide +kernel
theorem dX3_readPerson_82 : decode cX3_readPerson 82 = .ok (.iload_n 1, 1) := by decide +kernel
theorem dX3_readPerson_83 : decode cX3_readPerson 83 = .ok (.iload_n 2, 1) := by decide +kernel
theorem dX3_readPerson_84 : decode cX3_readPerson 84 = .ok (.iadd, 1) := by decide +kernel
theorem dX3_readPerson_85 : decode cX3_readPerson 85 = .ok (.iaload, 1) := by decide +kernel
theorem dX3_readPerson_86 : decode cX3_readPerson 86 = .ok (.bipush 48, 2) := by decide +kernel
theorem dX3_readPerson_88 : decode cX3_readPerson 88 = .ok (.isub, 1) := by decide +kernel
theorem dX3_readPerson_89 : decode cX3_readPerson 89 = .ok (.iastore, 1) := by decide +kernel
theorem dX3_readPerson_90 : decode cX3_readPerson 90 = .ok (.iinc 2 1, 3) := by decide +kernel
theorem dX3_readPerson_93 : decode cX3_readPerson 93 = .ok (.goto (-44), 3) := by decide +kernel
theorem dX3_readPerson_96 : decode cX3_readPerson 96 = .ok (.aload_n 0, 1) := by decide +kernel
theorem dX3_readPerson_97 : decode cX3_readPerson 97 = .ok (.getfield 28, 3) := by decide +kernel
theorem dX3_readPerson_100 : decode cX3_readPerson 100 = .ok (.getfield 110, 3) := by decide +kernel
theorem dX3_readPerson_103 : decode cX3_readPerson 103 = .ok (.aload_n 0, 1) := by decide +kernel
theorem dX3_readPerson_104 : decode cX3_readPerson 104 = .ok (.getfield 28, 3) := by decide +kernel
theorem dX3_readPerson_107 : decode cX3_readPerson 107 = .ok (.getfield 71, 3) := by decide +kernel
theorem dX3_readPerson_110 : decode cX3_readPerson 110 = .ok (.aload_n 0, 1) := by decide +kernel
theorem dX3_readPerson_111 : decode cX3_readPerson 111 = .ok (.iconst 0, 1) := by decide +kernel
theorem dX3_readPerson_112 : decode cX3_readPerson 112 = .ok (.iconst 4, 1) := by decide +kernel
theorem dX3_readPerson_113 : decode cX3_readPerson 113 = .ok (.invokevirtual 62, 3) := by decide +kernel
theorem dX3_readPerson_116 : decode cX3_readPerson 116 = .ok (.iastore, 1) := by decide +kernel
theorem dX3_readPerson_117 : decode cX3_readPerson 117 = .ok (.aload_n 0, 1) := by decide +kernel
theorem dX3_readPerson_118 : decode cX3_readPerson 118 = .ok (.getfield 28, 3) := by decide +kernel
theorem dX3_readPerson_121 : decode cX3_readPerson 121 = .ok (.dup, 1) := by decide +kernel
theorem dX3_readPerson_122 : decode cX3_readPerson 122 = .ok (.getfield 71, 3) := by decide +kernel
theorem dX3_readPerson_125 : decode cX3_readPerson 125 = .ok (.iconst 1, 1) := by decide +kernel
theorem dX3_readPerson_126 : decode cX3_readPerson 126 = .ok (.iadd, 1) := by decide +kernel
theorem dX3_readPerson_127 : decode cX3_readPerson 127 = .ok (.putfield 71, 3) := by decide +kernel
theorem dX3_readPerson_130 : decode cX3_readPerson 130 = .ok (.aload_n 0, 1) := by decide +kernel
theorem dX3_readPerson_131 : decode cX3_readPerson 131 = .ok (.getfield 18, 3) := by decide +kernel
theorem dX3_readPerson_134 : decode cX3_readPerson 134 = .ok (.ifCond .ne 7, 3) := by decide +kernel
theorem dX3_readPerson_137 : decode cX3_readPerson 137 = .ok (.iconst 1, 1) := by decide +kernel
theorem dX3_readPerson_138 : decode cX3_readPerson 138 = .ok (.goto 4, 3) := by decide +kernel
theorem dX3_readPerson_141 : decode cX3_readPerson 141 = .ok (.iconst 0, 1) := by decide +kernel
theorem dX3_readPerson_142 : decode cX3_readPerson 142 = .ok (.ireturn, 1) := by decide +kernel
theorem dX3_readFeigns_0 : decode cX3_readFeigns 0 = .ok (.aload_n 0, 1) := by decide +kernel
theorem dX3_readFeigns_1 : decode cX3_readFeigns 1 = .ok (.iconst 0, 1) := by decide +kernel
theorem dX3_readFeigns_2 : decode cX3_readFeigns 2 = .ok (.aload_n 0, 1) := by decide +kernel
theorem dX3_readFeigns_3 : decode cX3_readFeigns 3 = .ok (.getfield 28, 3) := by decide +kernel
theorem dX3_readFeigns_6 : decode cX3_readFeigns 6 = .ok (.getfield 71, 3) := by decide +kernel
theorem dX3_readFeigns_9 : decode cX3_readFeigns 9 = .ok (.iconst 1, 1) := by decide +kernel
theorem dX3_readFeigns_10 : decode cX3_readFeigns 10 = .ok (.isub, 1) := by decide +kernel
theorem dX3_readFeigns_11 : decode cX3_readFeigns 11 = .ok (.invokevirtual 62, 3) := by decide +kernel
theorem dX3_readFeigns_14 : decode cX3_readFeigns 14 = .ok (.istore_n 1, 1) := by decide +kernel
theorem dX3_readFeigns_15 : decode cX3_readFeigns 15 = .ok (.aload_n 0, 1) := by decide +kernel
theorem dX3_readFeigns_16 : decode cX3_readFeigns 16 = .ok (.getfield 18, 3) := by decide +kernel
theorem dX3_readFeigns_19 : decode cX3_readFeigns 19 = .ok (.ifCond .eq 5, 3) := by decide +kernel
theorem dX3_readFeigns_22 : decode cX3_readFeigns 22 = .ok (.iconst 0, 1) := by decide +kernel
theorem dX3_readFeigns_23 : decode cX3_readFeigns 23 = .ok (.ireturn, 1) := by decide +kernel
theorem dX3_readFeigns_24 : decode cX3_readFeigns 24 = .ok (.aload_n 0, 1) := by decide +kernel
theorem dX3_readFeigns_25 : decode cX3_readFeigns 25 = .ok (.getfield 28, 3) := by decide +kernel
theorem dX3_readFeigns_28 : decode cX3_readFeigns 28 = .ok (.getfield 113, 3) := by decide +kernel
theorem dX3_readFeigns_31 : decode cX3_readFeigns 31 = .ok (.iload_n 1, 1) := by decide +kernel
theorem dX3_readFeigns_32 : decode cX3_readFeigns 32 = .ok (.aload_n 0, 1) := by decide +kernel
theorem dX3_readFeigns_33 : decode cX3_readFeigns 33 = .ok (.iconst 0, 1) := by decide +kernel
theorem dX3_readFeigns_34 : decode cX3_readFeigns 34 = .ok (.bipush 9, 2) := by decide +kernel
theorem dX3_readFeigns_36 : decode cX3_readFeigns 36 = .ok (.invokevirtual 62, 3) := by decide +kernel
theorem dX3_readFeigns_39 : decode cX3_readFeigns 39 = .ok (.iastore, 1) := by decide +kernel
theorem dX3_readFeigns_40 : decode cX3_readFeigns 40 = .ok (.aload_n 0, 1) := by decide +kernel
theorem dX3_readFeigns_41 : decode cX3_readFeigns 41 = .ok (.getfield 18, 3) := by decide +kernel
theorem dX3_readFeigns_44 : decode cX3_readFeigns 44 = .ok (.ifCond .ne 7, 3) := by decide +kernel
theorem dX3_readFeigns_47 : decode cX3_readFeigns 47 = .ok (.iconst 1, 1) := by decide +kernel
theorem dX3_readFeigns_48 : decode cX3_readFeigns 48 = .ok (.goto 4, 3) := by decide +kernel
theorem dX3_readFeigns_51 : decode cX3_readFeigns 51 = .ok (.iconst 0, 1) := by decide +kernel
theorem dX3_readFeigns_52 : decode cX3_readFeigns 52 = .ok (.ireturn, 1) := by decide +kernel
theorem dX3_readKin_0 : decode cX3_readKin 0 = .ok (.aload_n 0, 1) := by decide +kernel
theorem dX3_readKin_1 : decode cX3_readKin 1 = .ok (.iconst 0, 1) := by decide +kernel
theorem dX3_readKin_2 : decode cX3_readKin 2 = .ok (.aload_n 0, 1) := by decide +kernel
theorem dX3_readKin_3 : decode cX3_readKin 3 = .ok (.getfield 28, 3) := by decide +kernel
theorem dX3_readKin_6 : decode cX3_readKin 6 = .ok (.getfield 71, 3) := by decide +kernel
theorem dX3_readKin_9 : decode cX3_readKin 9 = .ok (.iconst 1, 1) := by decide +kernel
theorem dX3_readKin_10 : decode cX3_readKin 10 = .ok (.isub, 1) := by decide +kernel
theorem dX3_readKin_11 : decode cX3_readKin 11 = .ok (.invokevirtual 62, 3) := by decide +kernel
theorem dX3_readKin_14 : decode cX3_readKin 14 = .ok (.istore_n 1, 1) := by decide +kernel
theorem dX3_readKin_15 : decode cX3_readKin 15 = .ok (.aload_n 0, 1) := by decide +kernel
theorem dX3_readKin_16 : decode cX3_readKin 16 = .ok (.getfield 18, 3) := by decide +kernel
theorem dX3_readKin_19 : decode cX3_readKin 19 = .ok (.ifCond .eq 5, 3) := by decide +kernel
theorem dX3_readKin_22 : decode cX3_readKin 22 = .ok (.iconst 0, 1) := by decide +kernel
theorem dX3_readKin_23 : decode cX3_readKin 23 = .ok (.ireturn, 1) := by decide +kernel
theorem dX3_readKin_24 : decode cX3_readKin 24 = .ok (.aload_n 0, 1) := by decide +kernel
theorem dX3_readKin_25 : decode cX3_readKin 25 = .ok (.invokevirtual 47, 3) := by decide +kernel
theorem dX3_readKin_28 : decode cX3_readKin 28 = .ok (.aload_n 0, 1) := by decide +kernel
theorem dX3_readKin_29 : decode cX3_readKin 29 = .ok (.getfield 15, 3) := by decide +kernel
theorem dX3_readKin_32 : decode cX3_readKin 32 = .ok (.istore_n 2, 1) := by decide +kernel
theorem dX3_readKin_33 : decode cX3_readKin 33 = .ok (.aload_n 0, 1) := by decide +kernel
theorem dX3_readKin_34 : decode cX3_readKin 34 = .ok (.iconst 0, 1) := by decide +kernel
theorem dX3_readKin_35 : decode cX3_readKin 35 = .ok (.aload_n 0, 1) := by decide +kernel
theorem dX3_readKin_36 : decode cX3_readKin 36 = .ok (.getfield 28, 3) := by decide +kernel
theorem dX3_readKin_39 : decode cX3_readKin 39 = .ok (.getfield 71, 3) := by decide +kernel
theorem dX3_readKin_42 : decode cX3_readKin 42 = .ok (.iconst 1, 1) := by decide +kernel
theorem dX3_readKin_43 : decode cX3_readKin 43 = .ok (.isub, 1) := by decide +kernel
theorem dX3_readKin_44 : decode cX3_readKin 44 = .ok (.invokevirtual 62, 3) := by decide +kernel
theorem dX3_readKin_47 : decode cX3_readKin 47 = .ok (.istore_n 3, 1) := by decide +kernel
theorem dX3_readKin_48 : decode cX3_readKin 48 = .ok (.aload_n 0, 1) := by decide +kernel
theorem dX3_readKin_49 : decode cX3_readKin 49 = .ok (.getfield 18, 3) := by decide +kernel
theorem dX3_readKin_52 : decode cX3_readKin 52 = .ok (.ifCond .eq 5, 3) := by decide +kernel
theorem dX3_readKin_55 : decode cX3_readKin 55 = .ok (.iconst 0, 1) := by decide +kernel
theorem dX3_readKin_56 : decode cX3_readKin 56 = .ok (.ireturn, 1) := by decide +kernel
theorem dX3_readKin_57 : decode cX3_readKin 57 = .ok (.iload_n 3, 1) := by decide +kernel
theorem dX3_readKin_58 : decode cX3_readKin 58 = .ok (.iload_n 1, 1) := by decide +kernel
theorem dX3_readKin_59 : decode cX3_readKin 59 = .ok (.if_icmp .ne 10, 3) := by decide +kernel
theorem dX3_readKin_62 : decode cX3_readKin 62 = .ok (.aload_n 0, 1) := by decide +kernel
theorem dX3_readKin_63 : decode cX3_readKin 63 = .ok (.iconst 2, 1) := by decide +kernel
theorem dX3_readKin_64 : decode cX3_readKin 64 = .ok (.iload_n 2, 1) := by decide +kernel
theorem dX3_readKin_65 : decode cX3_readKin 65 = .ok (.invokevirtual 58, 3) := by decide +kernel
theorem dX3_readKin_68 : decode cX3_readKin 68 = .ok (.ireturn, 1) := by decide +kernel
theorem dX3_readKin_69 : decode cX3_readKin 69 = .ok (.aload_n 0, 1) := by decide +kernel
theorem dX3_readKin_70 : decode cX3_readKin 70 = .ok (.getfield 28, 3) := by decide +kernel
theorem dX3_readKin_73 : decode cX3_readKin 73 = .ok (.iload_n 1, 1) := by decide +kernel
theorem dX3_readKin_74 : decode cX3_readKin 74 = .ok (.iload_n 3, 1) := by decide +kernel
theorem dX3_readKin_75 : decode cX3_readKin 75 = .ok (.invokevirtual 116, 3) := by decide +kernel
theorem dX3_readKin_78 : decode cX3_readKin 78 = .ok (.iconst 1, 1) := by decide +kernel
theorem dX3_readKin_79 : decode cX3_readKin 79 = .ok (.ireturn, 1) := by decide +kernel
theorem dX3_readDoor_0 : decode cX3_readDoor 0 = .ok (.aload_n 0, 1) := by decide +kernel
theorem dX3_readDoor_1 : decode cX3_readDoor 1 = .ok (.getfield 28, 3) := by decide +kernel
theorem dX3_readDoor_4 : decode cX3_readDoor 4 = .ok (.getfield 74, 3) := by decide +kernel
theorem dX3_readDoor_7 : decode cX3_readDoor 7 = .ok (.istore_n 1, 1) := by decide +kernel
theorem dX3_readDoor_8 : decode cX3_readDoor 8 = .ok (.aload_n 0, 1) := by decide +kernel
theorem dX3_readDoor_9 : decode cX3_readDoor 9 = .ok (.getfield 28, 3) := by decide +kernel
theorem dX3_readDoor_12 : decode cX3_readDoor 12 = .ok (.getfield 120, 3) := by decide +kernel
theorem dX3_readDoor_15 : decode cX3_readDoor 15 = .ok (.iload_n 1, 1) := by decide +kernel
theorem dX3_readDoor_16 : decode cX3_readDoor 16 = .ok (.aload_n 0, 1) := by decide +kernel
theorem dX3_readDoor_17 : decode cX3_readDoor 17 = .ok (.iconst 1, 1) := by decide +kernel
theorem dX3_readDoor_18 : decode cX3_readDoor 18 = .ok (.bipush 99, 2) := by decide +kernel
theorem dX3_readDoor_20 : decode cX3_readDoor 20 = .ok (.invokevirtual 62, 3) := by decide +kernel
theorem dX3_readDoor_23 : decode cX3_readDoor 23 = .ok (.iastore, 1) := by decide +kernel
theorem dX3_readDoor_24 : decode cX3_readDoor 24 = .ok (.aload_n 0, 1) := by decide +kernel
theorem dX3_readDoor_25 : decode cX3_readDoor 25 = .ok (.getfield 18, 3) := by decide +kernel
theorem dX3_readDoor_28 : decode cX3_readDoor 28 = .ok (.ifCond .eq 5, 3) := by decide +kernel
theorem dX3_readDoor_31 : decode cX3_readDoor 31 = .ok (.iconst 0, 1) := by decide +kernel
theorem dX3_readDoor_32 : decode cX3_readDoor 32 = .ok (.ireturn, 1) := by decide +kernel
theorem dX3_readDoor_33 : decode cX3_readDoor 33 = .ok (.aload_n 0, 1) := by decide +kernel
theorem dX3_readDoor_34 : decode cX3_readDoor 34 = .ok (.getfield 28, 3) := by decide +kernel
theorem dX3_readDoor_37 : decode cX3_readDoor 37 = .ok (.getfield 123, 3) := by decide +kernel
theorem dX3_readDoor_40 : decode cX3_readDoor 40 = .ok (.iload_n 1, 1) := by decide +kernel
theorem dX3_readDoor_41 : decode cX3_readDoor 41 = .ok (.aload_n 0, 1) := by decide +kernel
theorem dX3_readDoor_42 : decode cX3_readDoor 42 = .ok (.iconst 1, 1) := by decide +kernel
theorem dX3_readDoor_43 : decode cX3_readDoor 43 = .ok (.sipush 240, 3) := by decide +kernel
theorem dX3_readDoor_46 : decode cX3_readDoor 46 = .ok (.invokevirtual 62, 3) := by decide +kernel
theorem dX3_readDoor_49 : decode cX3_readDoor 49 = .ok (.iastore, 1) := by decide +kernel
theorem dX3_readDoor_50 : decode cX3_readDoor 50 = .ok (.aload_n 0, 1) := by decide +kernel
theorem dX3_readDoor_51 : decode cX3_readDoor 51 = .ok (.getfield 18, 3) := by decide +kernel
theorem dX3_readDoor_54 : decode cX3_readDoor 54 = .ok (.ifCond .eq 5, 3) := by decide +kernel
theorem dX3_readDoor_57 : decode cX3_readDoor 57 = .ok (.iconst 0, 1) := by decide +kernel
theorem dX3_readDoor_58 : decode cX3_readDoor 58 = .ok (.ireturn, 1) := by decide +kernel
theorem dX3_readDoor_59 : decode cX3_readDoor 59 = .ok (.aload_n 0, 1) := by decide +kernel
theorem dX3_readDoor_60 : decode cX3_readDoor 60 = .ok (.getfield 28, 3) := by decide +kernel
theorem dX3_readDoor_63 : decode cX3_readDoor 63 = .ok (.getfield 126, 3) := by decide +kernel
theorem dX3_readDoor_66 : decode cX3_readDoor 66 = .ok (.iload_n 1, 1) := by decide +kernel
theorem dX3_readDoor_67 : decode cX3_readDoor 67 = .ok (.aload_n 0, 1) := by decide +kernel
theorem dX3_readDoor_68 : decode cX3_readDoor 68 = .ok (.iconst 0, 1) := by decide +kernel
theorem dX3_readDoor_69 : decode cX3_readDoor 69 = .ok (.bipush 29, 2) := by decide +kernel
theorem dX3_readDoor_71 : decode cX3_readDoor 71 = .ok (.invokevirtual 62, 3) := by decide +kernel
theorem dX3_readDoor_74 : decode cX3_readDoor 74 = .ok (.iastore, 1) := by decide +kernel
theorem dX3_readDoor_75 : decode cX3_readDoor 75 = .ok (.aload_n 0, 1) := by decide +kernel
theorem dX3_readDoor_76 : decode cX3_readDoor 76 = .ok (.getfield 18, 3) := by decide +kernel
theorem dX3_readDoor_79 : decode cX3_readDoor 79 = .ok (.ifCond .eq 5, 3) := by decide +kernel
theorem dX3_readDoor_82 : decode cX3_readDoor 82 = .ok (.iconst 0, 1) := by decide +kernel
theorem dX3_readDoor_83 : decode cX3_readDoor 83 = .ok (.ireturn, 1) := by decide +kernel
theorem dX3_readDoor_84 : decode cX3_readDoor 84 = .ok (.aload_n 0, 1) := by decide +kernel
theorem dX3_readDoor_85 : decode cX3_readDoor 85 = .ok (.invokevirtual 47, 3) := by decide +kernel
theorem dX3_readDoor_88 : decode cX3_readDoor 88 = .ok (.aload_n 0, 1) := by decide +kernel
theorem dX3_readDoor_89 : decode cX3_readDoor 89 = .ok (.getfield 28, 3) := by decide +kernel
theorem dX3_readDoor_92 : decode cX3_readDoor 92 = .ok (.getfield 129, 3) := by decide +kernel
theorem dX3_readDoor_95 : decode cX3_readDoor 95 = .ok (.iload_n 1, 1) := by decide +kernel
theorem dX3_readDoor_96 : decode cX3_readDoor 96 = .ok (.aload_n 0, 1) := by decide +kernel
theorem dX3_readDoor_97 : decode cX3_readDoor 97 = .ok (.invokevirtual 132, 3) := by decide +kernel
theorem dX3_readDoor_100 : decode cX3_readDoor 100 = .ok (.ifCond .eq 20, 3) := by decide +kernel
theorem dX3_readDoor_103 : decode cX3_readDoor 103 = .ok (.aload_n 0, 1) := by decide +kernel
theorem dX3_readDoor_104 : decode cX3_readDoor 104 = .ok (.iconst 0, 1) := by decide +kernel
theorem dX3_readDoor_105 : decode cX3_readDoor 105 = .ok (.aload_n 0, 1) := by decide +kernel
theorem dX3_readDoor_106 : decode cX3_readDoor 106 = .ok (.getfield 28, 3) := by decide +kernel
theorem dX3_readDoor_109 : decode cX3_readDoor 109 = .ok (.getfield 65, 3) := by decide +kernel
theorem dX3_readDoor_112 : decode cX3_readDoor 112 = .ok (.iconst 1, 1) := by decide +kernel
theorem dX3_readDoor_113 : decode cX3_readDoor 113 = .ok (.isub, 1) := by decide +kernel
theorem dX3_readDoor_114 : decode cX3_readDoor 114 = .ok (.invokevirtual 62, 3) := by decide +kernel
theorem dX3_readDoor_117 : decode cX3_readDoor 117 = .ok (.goto 4, 3) := by decide +kernel
theorem dX3_readDoor_120 : decode cX3_readDoor 120 = .ok (.iconst (-1), 1) := by decide +kernel
theorem dX3_readDoor_121 : decode cX3_readDoor 121 = .ok (.iastore, 1) := by decide +kernel
theorem dX3_readDoor_122 : decode cX3_readDoor 122 = .ok (.aload_n 0, 1) := by decide +kernel
theorem dX3_readDoor_123 : decode cX3_readDoor 123 = .ok (.getfield 28, 3) := by decide +kernel
theorem dX3_readDoor_126 : decode cX3_readDoor 126 = .ok (.dup, 1) := by decide +kernel
theorem dX3_readDoor_127 : decode cX3_readDoor 127 = .ok (.getfield 74, 3) := by decide +kernel
theorem dX3_readDoor_130 : decode cX3_readDoor 130 = .ok (.iconst 1, 1) := by decide +kernel
theorem dX3_readDoor_131 : decode cX3_readDoor 131 = .ok (.iadd, 1) := by decide +kernel
theorem dX3_readDoor_132 : decode cX3_readDoor 132 = .ok (.putfield 74, 3) := by decide +kernel
theorem dX3_readDoor_135 : decode cX3_readDoor 135 = .ok (.aload_n 0, 1) := by decide +kernel
theorem dX3_readDoor_136 : decode cX3_readDoor 136 = .ok (.getfield 18, 3) := by decide +kernel
theorem dX3_readDoor_139 : decode cX3_readDoor 139 = .ok (.ifCond .ne 7, 3) := by decide +kernel
theorem dX3_readDoor_142 : decode cX3_readDoor 142 = .ok (.iconst 1, 1) := by decide +kernel
theorem dX3_readDoor_143 : decode cX3_readDoor 143 = .ok (.goto 4, 3) := by decide +kernel
theorem dX3_readDoor_146 : decode cX3_readDoor 146 = .ok (.iconst 0, 1) := by decide +kernel
theorem dX3_readDoor_147 : decode cX3_readDoor 147 = .ok (.ireturn, 1) := by decide +kernel
theorem dX3_readSlate_0 : decode cX3_readSlate 0 = .ok (.aload_n 0, 1) := by decide +kernel
theorem dX3_readSlate_1 : decode cX3_readSlate 1 = .ok (.invokevirtual 101, 3) := by decide +kernel
theorem dX3_readSlate_4 : decode cX3_readSlate 4 = .ok (.istore_n 1, 1) := by decide +kernel
theorem dX3_readSlate_5 : decode cX3_readSlate 5 = .ok (.aload_n 0, 1) := by decide +kernel
theorem dX3_readSlate_6 : decode cX3_readSlate 6 = .ok (.getfield 18, 3) := by decide +kernel
theorem dX3_readSlate_9 : decode cX3_readSlate 9 = .ok (.ifCond .eq 5, 3) := by decide +kernel
theorem dX3_readSlate_12 : decode cX3_readSlate 12 = .ok (.iconst 0, 1) := by decide +kernel
theorem dX3_readSlate_13 : decode cX3_readSlate 13 = .ok (.ireturn, 1) := by decide +kernel
theorem dX3_readSlate_14 : decode cX3_readSlate 14 = .ok (.aload_n 0, 1) := by decide +kernel
theorem dX3_readSlate_15 : decode cX3_readSlate 15 = .ok (.getfield 15, 3) := by decide +kernel
theorem dX3_readSlate_18 : decode cX3_readSlate 18 = .ok (.iload_n 1, 1) := by decide +kernel
theorem dX3_readSlate_19 : decode cX3_readSlate 19 = .ok (.isub, 1) := by decide +kernel
theorem dX3_readSlate_20 : decode cX3_readSlate 20 = .ok (.bipush 7, 2) := by decide +kernel
theorem dX3_readSlate_22 : decode cX3_readSlate 22 = .ok (.if_icmp .gt 20, 3) := by decide +kernel
theorem dX3_readSlate_25 : decode cX3_readSlate 25 = .ok (.aload_n 0, 1) := by decide +kernel
theorem dX3_readSlate_26 : decode cX3_readSlate 26 = .ok (.iload_n 1, 1) := by decide +kernel
theorem dX3_readSlate_27 : decode cX3_readSlate 27 = .ok (.aload_n 0, 1) := by decide +kernel
theorem dX3_readSlate_28 : decode cX3_readSlate 28 = .ok (.getfield 28, 3) := by decide +kernel
theorem dX3_readSlate_31 : decode cX3_readSlate 31 = .ok (.getfield 65, 3) := by decide +kernel
theorem dX3_readSlate_34 : decode cX3_readSlate 34 = .ok (.iconst 1, 1) := by decide +kernel
theorem dX3_readSlate_35 : decode cX3_readSlate 35 = .ok (.isub, 1) := by decide +kernel
theorem dX3_readSlate_36 : decode cX3_readSlate 36 = .ok (.invokevirtual 104, 3) := by decide +kernel
theorem dX3_readSlate_39 : decode cX3_readSlate 39 = .ok (.ifCond .ne 10, 3) := by decide +kernel
theorem dX3_readSlate_42 : decode cX3_readSlate 42 = .ok (.aload_n 0, 1) := by decide +kernel
theorem dX3_readSlate_43 : decode cX3_readSlate 43 = .ok (.iconst 2, 1) := by decide +kernel
theorem dX3_readSlate_44 : decode cX3_readSlate 44 = .ok (.iload_n 1, 1) := by decide +kernel
theorem dX3_readSlate_45 : decode cX3_readSlate 45 = .ok (.invokevirtual 58, 3) := by decide +kernel
theorem dX3_readSlate_48 : decode cX3_readSlate 48 = .ok (.ireturn, 1) := by decide +kernel
theorem dX3_readSlate_49 : decode cX3_readSlate 49 = .ok (.aload_n 0, 1) := by decide +kernel
theorem dX3_readSlate_50 : decode cX3_readSlate 50 = .ok (.getfield 28, 3) := by decide +kernel
theorem dX3_readSlate_53 : decode cX3_readSlate 53 = .ok (.aload_n 0, 1) := by decide +kernel
theorem dX3_readSlate_54 : decode cX3_readSlate 54 = .ok (.getfield 15, 3) := by decide +kernel
theorem dX3_readSlate_57 : decode cX3_readSlate 57 = .ok (.iload_n 1, 1) := by decide +kernel
theorem dX3_readSlate_58 : decode cX3_readSlate 58 = .ok (.isub, 1) := by decide +kernel
theorem dX3_readSlate_59 : decode cX3_readSlate 59 = .ok (.putfield 135, 3) := by decide +kernel
theorem dX3_readSlate_62 : decode cX3_readSlate 62 = .ok (.iconst 0, 1) := by decide +kernel
theorem dX3_readSlate_63 : decode cX3_readSlate 63 = .ok (.istore_n 2, 1) := by decide +kernel
theorem dX3_readSlate_64 : decode cX3_readSlate 64 = .ok (.iload_n 2, 1) := by decide +kernel
theorem dX3_readSlate_65 : decode cX3_readSlate 65 = .ok (.aload_n 0, 1) := by decide +kernel
theorem dX3_readSlate_66 : decode cX3_readSlate 66 = .ok (.getfield 28, 3) := by decide +kernel
theorem dX3_readSlate_69 : decode cX3_readSlate 69 = .ok (.getfield 135, 3) := by decide +kernel
theorem dX3_readSlate_72 : decode cX3_readSlate 72 = .ok (.if_icmp .ge 29, 3) := by decide +kernel
theorem dX3_readSlate_75 : decode cX3_readSlate 75 = .ok (.aload_n 0, 1) := by decide +kernel
theorem dX3_readSlate_76 : decode cX3_readSlate 76 = .ok (.getfield 28, 3) := by decide +kernel
theorem dX3_readSlate_79 : decode cX3_readSlate 79 = .ok (.getfield 138, 3) := by decide +kernel
theorem dX3_readSlate_82 : decode cX3_readSlate 82 = .ok (.iload_n 2, 1) := by decide +kernel
theorem dX3_readSlate_83 : decode cX3_readSlate 83 = .ok (.aload_n 0, 1) := by decide +kernel
theorem dX3_readSlate_84 : decode cX3_readSlate 84 = .ok (.getfield 24, 3) := by decide +kernel
theorem dX3_readSlate_87 : decode cX3_readSlate 87 = .ok (.iload_n 1, 1) := by decide +kernel
theorem dX3_readSlate_88 : decode cX3_readSlate 88 = .ok (.iload_n 2, 1) := by decide +kernel
theorem dX3_readSlate_89 : decode cX3_readSlate 89 = .ok (.iadd, 1) := by decide +kernel
theorem dX3_readSlate_90 : decode cX3_readSlate 90 = .ok (.iaload, 1) := by decide +kernel
theorem dX3_readSlate_91 : decode cX3_readSlate 91 = .ok (.bipush 48, 2) := by decide +kernel
theorem dX3_readSlate_93 : decode cX3_readSlate 93 = .ok (.isub, 1) := by decide +kernel
theorem dX3_readSlate_94 : decode cX3_readSlate 94 = .ok (.iastore, 1) := by decide +kernel
theorem dX3_readSlate_95 : decode cX3_readSlate 95 = .ok (.iinc 2 1, 3) := by decide +kernel
theorem dX3_readSlate_98 : decode cX3_readSlate 98 = .ok (.goto (-34), 3) := by decide +kernel
theorem dX3_readSlate_101 : decode cX3_readSlate 101 = .ok (.iconst 1, 1) := by decide +kernel
theorem dX3_readSlate_102 : decode cX3_readSlate 102 = .ok (.ireturn, 1) := by decide +kernel
theorem dX3_readRest_0 : decode cX3_readRest 0 = .ok (.iload_n 1, 1) := by decide +kernel
theorem dX3_readRest_1 : decode cX3_readRest 1 = .ok (.tableswitch 115 2 7 #[39, 44, 49, 54, 59, 86], 39) := by decide +kernel
theorem dX3_readRest_40 : decode cX3_readRest 40 = .ok (.aload_n 0, 1) := by decide +kernel
theorem dX3_readRest_41 : decode cX3_readRest 41 = .ok (.invokevirtual 80, 3) := by decide +kernel
theorem dX3_readRest_44 : decode cX3_readRest 44 = .ok (.ireturn, 1) := by decide +kernel
theorem dX3_readRest_45 : decode cX3_readRest 45 = .ok (.aload_n 0, 1) := by decide +kernel
theorem dX3_readRest_46 : decode cX3_readRest 46 = .ok (.invokevirtual 83, 3) := by decide +kernel
theorem dX3_readRest_49 : decode cX3_readRest 49 = .ok (.ireturn, 1) := by decide +kernel
theorem dX3_readRest_50 : decode cX3_readRest 50 = .ok (.aload_n 0, 1) := by decide +kernel
theorem dX3_readRest_51 : decode cX3_readRest 51 = .ok (.invokevirtual 86, 3) := by decide +kernel
theorem dX3_readRest_54 : decode cX3_readRest 54 = .ok (.ireturn, 1) := by decide +kernel
theorem dX3_readRest_55 : decode cX3_readRest 55 = .ok (.aload_n 0, 1) := by decide +kernel
theorem dX3_readRest_56 : decode cX3_readRest 56 = .ok (.invokevirtual 89, 3) := by decide +kernel
theorem dX3_readRest_59 : decode cX3_readRest 59 = .ok (.ireturn, 1) := by decide +kernel
theorem dX3_readRest_60 : decode cX3_readRest 60 = .ok (.aload_n 0, 1) := by decide +kernel
theorem dX3_readRest_61 : decode cX3_readRest 61 = .ok (.getfield 28, 3) := by decide +kernel
theorem dX3_readRest_64 : decode cX3_readRest 64 = .ok (.aload_n 0, 1) := by decide +kernel
theorem dX3_readRest_65 : decode cX3_readRest 65 = .ok (.iconst 1, 1) := by decide +kernel
theorem dX3_readRest_66 : decode cX3_readRest 66 = .ok (.bipush 8, 2) := by decide +kernel
theorem dX3_readRest_68 : decode cX3_readRest 68 = .ok (.invokevirtual 62, 3) := by decide +kernel
theorem dX3_readRest_71 : decode cX3_readRest 71 = .ok (.putfield 92, 3) := by decide +kernel
theorem dX3_readRest_74 : decode cX3_readRest 74 = .ok (.aload_n 0, 1) := by decide +kernel
theorem dX3_readRest_75 : decode cX3_readRest 75 = .ok (.getfield 18, 3) := by decide +kernel
theorem dX3_readRest_78 : decode cX3_readRest 78 = .ok (.ifCond .ne 7, 3) := by decide +kernel
theorem dX3_readRest_81 : decode cX3_readRest 81 = .ok (.iconst 1, 1) := by decide +kernel
theorem dX3_readRest_82 : decode cX3_readRest 82 = .ok (.goto 4, 3) := by decide +kernel
theorem dX3_readRest_85 : decode cX3_readRest 85 = .ok (.iconst 0, 1) := by decide +kernel
theorem dX3_readRest_86 : decode cX3_readRest 86 = .ok (.ireturn, 1) := by decide +kernel
theorem dX3_readRest_87 : decode cX3_readRest 87 = .ok (.aload_n 0, 1) := by decide +kernel
theorem dX3_readRest_88 : decode cX3_readRest 88 = .ok (.getfield 28, 3) := by decide +kernel
theorem dX3_readRest_91 : decode cX3_readRest 91 = .ok (.aload_n 0, 1) := by decide +kernel
theorem dX3_readRest_92 : decode cX3_readRest 92 = .ok (.bipush 30, 2) := by decide +kernel
theorem dX3_readRest_94 : decode cX3_readRest 94 = .ok (.sipush 999, 3) := by decide +kernel
theorem dX3_readRest_97 : decode cX3_readRest 97 = .ok (.invokevirtual 62, 3) := by decide +kernel
theorem dX3_readRest_100 : decode cX3_readRest 100 = .ok (.putfield 95, 3) := by decide +kernel
theorem dX3_readRest_103 : decode cX3_readRest 103 = .ok (.aload_n 0, 1) := by decide +kernel
theorem dX3_readRest_104 : decode cX3_readRest 104 = .ok (.getfield 18, 3) := by decide +kernel
theorem dX3_readRest_107 : decode cX3_readRest 107 = .ok (.ifCond .ne 7, 3) := by decide +kernel
theorem dX3_readRest_110 : decode cX3_readRest 110 = .ok (.iconst 1, 1) := by decide +kernel
theorem dX3_readRest_111 : decode cX3_readRest 111 = .ok (.goto 4, 3) := by decide +kernel
theorem dX3_readRest_114 : decode cX3_readRest 114 = .ok (.iconst 0, 1) := by decide +kernel
theorem dX3_readRest_115 : decode cX3_readRest 115 = .ok (.ireturn, 1) := by decide +kernel
theorem dX3_readRest_116 : decode cX3_readRest 116 = .ok (.aload_n 0, 1) := by decide +kernel
theorem dX3_readRest_117 : decode cX3_readRest 117 = .ok (.invokevirtual 98, 3) := by decide +kernel
theorem dX3_readRest_120 : decode cX3_readRest 120 = .ok (.ireturn, 1) := by decide +kernel
theorem dX3_readClause_0 : decode cX3_readClause 0 = .ok (.aload_n 0, 1) := by decide +kernel
theorem dX3_readClause_1 : decode cX3_readClause 1 = .ok (.getfield 15, 3) := by decide +kernel
theorem dX3_readClause_4 : decode cX3_readClause 4 = .ok (.istore_n 2, 1) := by decide +kernel
theorem dX3_readClause_5 : decode cX3_readClause 5 = .ok (.aload_n 0, 1) := by decide +kernel
theorem dX3_readClause_6 : decode cX3_readClause 6 = .ok (.invokevirtual 54, 3) := by decide +kernel
theorem dX3_readClause_9 : decode cX3_readClause 9 = .ok (.istore_n 3, 1) := by decide +kernel
theorem dX3_readClause_10 : decode cX3_readClause 10 = .ok (.iload_n 3, 1) := by decide +kernel
theorem dX3_readClause_11 : decode cX3_readClause 11 = .ok (.ifCond .eq 8, 3) := by decide +kernel
theorem dX3_readClause_14 : decode cX3_readClause 14 = .ok (.iload_n 3, 1) := by decide +kernel
theorem dX3_readClause_15 : decode cX3_readClause 15 = .ok (.iconst 1, 1) := by decide +kernel
theorem dX3_readClause_16 : decode cX3_readClause 16 = .ok (.if_icmp .ne 10, 3) := by decide +kernel
theorem dX3_readClause_19 : decode cX3_readClause 19 = .ok (.aload_n 0, 1) := by decide +kernel
theorem dX3_readClause_20 : decode cX3_readClause 20 = .ok (.iconst 1, 1) := by decide +kernel
theorem dX3_readClause_21 : decode cX3_readClause 21 = .ok (.iload_n 2, 1) := by decide +kernel
theorem dX3_readClause_22 : decode cX3_readClause 22 = .ok (.invokevirtual 58, 3) := by decide +kernel
theorem dX3_readClause_25 : decode cX3_readClause 25 = .ok (.ireturn, 1) := by decide +kernel
theorem dX3_readClause_26 : decode cX3_readClause 26 = .ok (.iload_n 1, 1) := by decide +kernel
theorem dX3_readClause_27 : decode cX3_readClause 27 = .ok (.bipush 40, 2) := by decide +kernel
theorem dX3_readClause_29 : decode cX3_readClause 29 = .ok (.if_icmp .ge 37, 3) := by decide +kernel
theorem dX3_readClause_32 : decode cX3_readClause 32 = .ok (.iload_n 3, 1) := by decide +kernel
theorem dX3_readClause_33 : decode cX3_readClause 33 = .ok (.iconst 2, 1) := by decide +kernel
theorem dX3_readClause_34 : decode cX3_readClause 34 = .ok (.if_icmp .ne 15, 3) := by decide +kernel
theorem dX3_readClause_37 : decode cX3_readClause 37 = .ok (.aload_n 0, 1) := by decide +kernel
theorem dX3_readClause_38 : decode cX3_readClause 38 = .ok (.getfield 28, 3) := by decide +kernel
theorem dX3_readClause_41 : decode cX3_readClause 41 = .ok (.getfield 71, 3) := by decide +kernel
theorem dX3_readClause_44 : decode cX3_readClause 44 = .ok (.bipush 8, 2) := by decide +kernel
theorem dX3_readClause_46 : decode cX3_readClause 46 = .ok (.if_icmp .ge 20, 3) := by decide +kernel
theorem dX3_readClause_49 : decode cX3_readClause 49 = .ok (.iload_n 3, 1) := by decide +kernel
theorem dX3_readClause_50 : decode cX3_readClause 50 = .ok (.iconst 5, 1) := by decide +kernel
theorem dX3_readClause_51 : decode cX3_readClause 51 = .ok (.if_icmp .ne 19, 3) := by decide +kernel
theorem dX3_readClause_54 : decode cX3_readClause 54 = .ok (.aload_n 0, 1) := by decide +kernel
theorem dX3_readClause_55 : decode cX3_readClause 55 = .ok (.getfield 28, 3) := by decide +kernel
theorem dX3_readClause_58 : decode cX3_readClause 58 = .ok (.getfield 74, 3) := by decide +kernel
theorem dX3_readClause_61 : decode cX3_readClause 61 = .ok (.bipush 10, 2) := by decide +kernel
theorem dX3_readClause_63 : decode cX3_readClause 63 = .ok (.if_icmp .lt 7, 3) := by decide +kernel
theorem dX3_readClause_66 : decode cX3_readClause 66 = .ok (.iconst 1, 1) := by decide +kernel
theorem dX3_readClause_67 : decode cX3_readClause 67 = .ok (.goto 4, 3) := by decide +kernel
theorem dX3_readClause_70 : decode cX3_readClause 70 = .ok (.iconst 0, 1) := by decide +kernel
theorem dX3_readClause_71 : decode cX3_readClause 71 = .ok (.istore 4, 2) := by decide +kernel
theorem dX3_readClause_73 : decode cX3_readClause 73 = .ok (.iload 4, 2) := by decide +kernel
theorem dX3_readClause_75 : decode cX3_readClause 75 = .ok (.ifCond .eq 10, 3) := by decide +kernel
theorem dX3_readClause_78 : decode cX3_readClause 78 = .ok (.aload_n 0, 1) := by decide +kernel
theorem dX3_readClause_79 : decode cX3_readClause 79 = .ok (.iconst 3, 1) := by decide +kernel
theorem dX3_readClause_80 : decode cX3_readClause 80 = .ok (.iload_n 2, 1) := by decide +kernel
theorem dX3_readClause_81 : decode cX3_readClause 81 = .ok (.invokevirtual 58, 3) := by decide +kernel
theorem dX3_readClause_84 : decode cX3_readClause 84 = .ok (.ireturn, 1) := by decide +kernel
theorem dX3_readClause_85 : decode cX3_readClause 85 = .ok (.aload_n 0, 1) := by decide +kernel
theorem dX3_readClause_86 : decode cX3_readClause 86 = .ok (.iload_n 3, 1) := by decide +kernel
theorem dX3_readClause_87 : decode cX3_readClause 87 = .ok (.invokevirtual 77, 3) := by decide +kernel
theorem dX3_readClause_90 : decode cX3_readClause 90 = .ok (.ifCond .eq 14, 3) := by decide +kernel
theorem dX3_readClause_93 : decode cX3_readClause 93 = .ok (.aload_n 0, 1) := by decide +kernel
theorem dX3_readClause_94 : decode cX3_readClause 94 = .ok (.invokevirtual 68, 3) := by decide +kernel
theorem dX3_readClause_97 : decode cX3_readClause 97 = .ok (.ifCond .eq 7, 3) := by decide +kernel
theorem dX3_readClause_100 : decode cX3_readClause 100 = .ok (.iconst 1, 1) := by decide +kernel
theorem dX3_readClause_101 : decode cX3_readClause 101 = .ok (.goto 4, 3) := by decide +kernel
theorem dX3_readClause_104 : decode cX3_readClause 104 = .ok (.iconst 0, 1) := by decide +kernel
theorem dX3_readClause_105 : decode cX3_readClause 105 = .ok (.ireturn, 1) := by decide +kernel
theorem dX3_readTown_0 : decode cX3_readTown 0 = .ok (.aload_n 0, 1) := by decide +kernel
theorem dX3_readTown_1 : decode cX3_readTown 1 = .ok (.iload_n 1, 1) := by decide +kernel
theorem dX3_readTown_2 : decode cX3_readTown 2 = .ok (.aload_n 0, 1) := by decide +kernel
theorem dX3_readTown_3 : decode cX3_readTown 3 = .ok (.getfield 24, 3) := by decide +kernel
theorem dX3_readTown_6 : decode cX3_readTown 6 = .ok (.arraylength, 1) := by decide +kernel
theorem dX3_readTown_7 : decode cX3_readTown 7 = .ok (.invokestatic 32, 3) := by decide +kernel
theorem dX3_readTown_10 : decode cX3_readTown 10 = .ok (.putfield 9, 3) := by decide +kernel
theorem dX3_readTown_13 : decode cX3_readTown 13 = .ok (.aload_n 0, 1) := by decide +kernel
theorem dX3_readTown_14 : decode cX3_readTown 14 = .ok (.iconst 0, 1) := by decide +kernel
theorem dX3_readTown_15 : decode cX3_readTown 15 = .ok (.putfield 15, 3) := by decide +kernel
theorem dX3_readTown_18 : decode cX3_readTown 18 = .ok (.aload_n 0, 1) := by decide +kernel
theorem dX3_readTown_19 : decode cX3_readTown 19 = .ok (.iconst 0, 1) := by decide +kernel
theorem dX3_readTown_20 : decode cX3_readTown 20 = .ok (.putfield 18, 3) := by decide +kernel
theorem dX3_readTown_23 : decode cX3_readTown 23 = .ok (.aload_n 0, 1) := by decide +kernel
theorem dX3_readTown_24 : decode cX3_readTown 24 = .ok (.iconst (-1), 1) := by decide +kernel
theorem dX3_readTown_25 : decode cX3_readTown 25 = .ok (.putfield 21, 3) := by decide +kernel
theorem dX3_readTown_28 : decode cX3_readTown 28 = .ok (.aload_n 0, 1) := by decide +kernel
theorem dX3_readTown_29 : decode cX3_readTown 29 = .ok (.getfield 28, 3) := by decide +kernel
theorem dX3_readTown_32 : decode cX3_readTown 32 = .ok (.invokevirtual 38, 3) := by decide +kernel
theorem dX3_readTown_35 : decode cX3_readTown 35 = .ok (.aload_n 0, 1) := by decide +kernel
theorem dX3_readTown_36 : decode cX3_readTown 36 = .ok (.invokevirtual 43, 3) := by decide +kernel
theorem dX3_readTown_39 : decode cX3_readTown 39 = .ok (.istore_n 2, 1) := by decide +kernel
theorem dX3_readTown_40 : decode cX3_readTown 40 = .ok (.iconst 1, 1) := by decide +kernel
theorem dX3_readTown_41 : decode cX3_readTown 41 = .ok (.istore_n 3, 1) := by decide +kernel
theorem dX3_readTown_42 : decode cX3_readTown 42 = .ok (.iload_n 2, 1) := by decide +kernel
theorem dX3_readTown_43 : decode cX3_readTown 43 = .ok (.ifCond .eq 44, 3) := by decide +kernel
theorem dX3_readTown_46 : decode cX3_readTown 46 = .ok (.iload_n 3, 1) := by decide +kernel
theorem dX3_readTown_47 : decode cX3_readTown 47 = .ok (.bipush 40, 2) := by decide +kernel
theorem dX3_readTown_49 : decode cX3_readTown 49 = .ok (.if_icmp .gt 38, 3) := by decide +kernel
theorem dX3_readTown_52 : decode cX3_readTown 52 = .ok (.aload_n 0, 1) := by decide +kernel
theorem dX3_readTown_53 : decode cX3_readTown 53 = .ok (.invokevirtual 47, 3) := by decide +kernel
theorem dX3_readTown_56 : decode cX3_readTown 56 = .ok (.aload_n 0, 1) := by decide +kernel
theorem dX3_readTown_57 : decode cX3_readTown 57 = .ok (.getfield 15, 3) := by decide +kernel
theorem dX3_readTown_60 : decode cX3_readTown 60 = .ok (.aload_n 0, 1) := by decide +kernel
theorem dX3_readTown_61 : decode cX3_readTown 61 = .ok (.getfield 9, 3) := by decide +kernel
theorem dX3_readTown_64 : decode cX3_readTown 64 = .ok (.if_icmp .ge 15, 3) := by decide +kernel
theorem dX3_readTown_67 : decode cX3_readTown 67 = .ok (.aload_n 0, 1) := by decide +kernel
theorem dX3_readTown_68 : decode cX3_readTown 68 = .ok (.iload_n 3, 1) := by decide +kernel
theorem dX3_readTown_69 : decode cX3_readTown 69 = .ok (.invokevirtual 50, 3) := by decide +kernel
theorem dX3_readTown_72 : decode cX3_readTown 72 = .ok (.ifCond .eq 7, 3) := by decide +kernel
theorem dX3_readTown_75 : decode cX3_readTown 75 = .ok (.iconst 1, 1) := by decide +kernel
theorem dX3_readTown_76 : decode cX3_readTown 76 = .ok (.goto 4, 3) := by decide +kernel
theorem dX3_readTown_79 : decode cX3_readTown 79 = .ok (.iconst 0, 1) := by decide +kernel
theorem dX3_readTown_80 : decode cX3_readTown 80 = .ok (.istore_n 2, 1) := by decide +kernel
theorem dX3_readTown_81 : decode cX3_readTown 81 = .ok (.iinc 3 1, 3) := by decide +kernel
theorem dX3_readTown_84 : decode cX3_readTown 84 = .ok (.goto (-42), 3) := by decide +kernel
theorem dX3_readTown_87 : decode cX3_readTown 87 = .ok (.aload_n 0, 1) := by decide +kernel
theorem dX3_readTown_88 : decode cX3_readTown 88 = .ok (.getfield 18, 3) := by decide +kernel
theorem dX3_readTown_91 : decode cX3_readTown 91 = .ok (.ireturn, 1) := by decide +kernel
def f3_skipBlanks_L0 (K38 : zMem → zRes) : Nat → zMem → zRes
  | 0, _ => none
  | n + 1, μ => if (μ 22 2) ≤ (μ 22 3) then K38 μ else zin (μ 22 3) 500 (if (μ 1 (μ 22 3).toNatClampNeg) = (32 : Int32) then zlet (zset μ 22 3 ((μ 22 3) + (1 : Int32))) (fun (μ8 : zMem) => f3_skipBlanks_L0 K38 n μ8) else K38 μ)
def f3_skipBlanks (μ : zMem) : zRes := zlet (fun (μ1 : zMem) => some (0, 0, μ1)) (fun j2 => f3_skipBlanks_L0 (fun (μ9 : zMem) => j2 μ9) zF μ)
set_option maxHeartbeats 1000000 in
theorem t3_skipBlanks_L0 {g : Bool} (K38 : zMem → zRes) (hK38 : ∀ (μ : zMem), zR yX3_skipBlanks cX3_skipBlanks 1 (none) 1 38 [.null] [] (nX g) (SX g) μ (K38 μ)) : ∀ (n : Nat) (μ : zMem), zR yX3_skipBlanks cX3_skipBlanks 1 (none) 1 0 [.ref 22] [] (nX g) (SX g) μ (f3_skipBlanks_L0 K38 n μ) := by
  intro n
  induction n with
  | zero => intro μ; intro q hq; cases hq
  | succ n ih =>
    intro μ
    unfold f3_skipBlanks_L0
    refine z_aload_n (pc := 0) dX3_skipBlanks_0 rfl ?_
    refine z_geti (pc := 1) fdX3_15 (nx_lt (by decide)) (sx_22 g) rfl dX3_skipBlanks_1 ?_
    refine z_aload_n (pc := 4) dX3_skipBlanks_4 rfl ?_
    refine z_geti (pc := 5) fdX3_9 (nx_lt (by decide)) (sx_22 g) rfl dX3_skipBlanks_5 ?_
    refine z_icmp_ge (pc := 8) (tgt := 38) dX3_skipBlanks_8 (by decide) (fun c3 => ?_) (fun c4 => ?_)
    · refine z_loc (L' := [.null]) ⟨Or.inl rfl, trivial⟩ ?_
      exact hK38 μ
    · refine z_aload_n (pc := 11) dX3_skipBlanks_11 rfl ?_
      refine z_getr (pc := 12) fdX3_24 (nx_lt (by decide)) (sx_22 g) rfl rfl dX3_skipBlanks_12 ?_
      refine z_aload_n (pc := 15) dX3_skipBlanks_15 rfl ?_
      refine z_geti (pc := 16) fdX3_15 (nx_lt (by decide)) (sx_22 g) rfl dX3_skipBlanks_16 ?_
      refine z_iald (pc := 19) (nx_lt (by decide)) (sx_1 g) rfl dX3_skipBlanks_19 (fun h5 => ?_)
      refine z_bipush (pc := 20) (32 : Int32) dX3_skipBlanks_20 (by decide) ?_
      refine z_icmp_ne (pc := 22) (tgt := 38) dX3_skipBlanks_22 (by decide) (fun c6 => ?_) (fun c7 => ?_)
      · refine z_loc (L' := [.null]) ⟨Or.inl rfl, trivial⟩ ?_
        exact hK38 μ
      · refine z_aload_n (pc := 25) dX3_skipBlanks_25 rfl ?_
        refine z_dup (pc := 26) dX3_skipBlanks_26 rfl ?_
        refine z_geti (pc := 27) fdX3_15 (nx_lt (by decide)) (sx_22 g) rfl dX3_skipBlanks_27 ?_
        refine z_iconst (pc := 30) (1 : Int32) dX3_skipBlanks_30 (by decide) ?_
        refine z_iadd (pc := 31) dX3_skipBlanks_31 ?_
        refine z_puti (pc := 32) fdX3_15 (nx_lt (by decide)) (sx_22 g) rfl rfl dX3_skipBlanks_32 ?_
        refine z_mem (fun μ8 => ?_)
        refine z_goto (pc := 35) (tgt := 0) dX3_skipBlanks_35 (by decide) ?_
        exact ih μ8
set_option maxHeartbeats 1000000 in
theorem t3_skipBlanks {g : Bool} (μ : zMem) : zMR yX3_skipBlanks cX3_skipBlanks 1 (none) 1 [.ref 22] (nX g) (SX g) μ (f3_skipBlanks μ) := by
  refine zMR_of (by decide +kernel) rfl (Nat.le_of_ble_eq_true rfl) (L := [.ref 22]) rfl ?_
  unfold f3_skipBlanks
  refine z_let (fun (j : zMem → zRes) => ∀ (μ1 : zMem), zR yX3_skipBlanks cX3_skipBlanks 1 (none) 1 38 [.null] [] (nX g) (SX g) μ1 (j μ1)) ?_ (fun j2 hj2 => ?_)
  · intro μ1
    exact z_vret (pc := 38) rfl dX3_skipBlanks_38
  · refine t3_skipBlanks_L0 _ (fun μ9 => ?_) zF _
    · exact hj2 μ9
def f3_stands_L17 (w : Nat) (x2 : Int32) (K49 : zMem → zRes) (K41 : zMem → zRes) : Nat → Int32 → zMem → zRes
  | 0, _, _ => none
  | n + 1, x3, μ => bnd0 (fJ0_length_8abf5 w μ) (fun (v5 : Int32) (μ6 : zMem) => if v5 ≤ x3 then K49 μ6 else zin (x2 + x3) 500 (bnd0 (fJ0_charAt_5068e w x3 μ6) (fun (v10 : Int32) (μ11 : zMem) => if (μ6 1 (x2 + x3).toNatClampNeg) = v10 then f3_stands_L17 w x2 K49 K41 n (x3 + (1 : Int32)) μ11 else K41 μ11)))
def f3_stands (w : Nat) (x2 : Int32) (μ : zMem) : zRes := bnd0 (fJ0_length_8abf5 w μ) (fun (v1 : Int32) (μ2 : zMem) => if ((μ 22 3) - x2) = v1 then f3_stands_L17 w x2 (fun (μ14 : zMem) => some (0, (1 : Int32), μ14)) (fun (μ15 : zMem) => some (0, (0 : Int32), μ15)) zF (0 : Int32) μ2 else some (0, (0 : Int32), μ2))
set_option maxHeartbeats 1000000 in
theorem t3_stands_L17 {g : Bool} {w : Nat} (hw : w < 8) (x2 : Int32) (K49 : zMem → zRes) (K41 : zMem → zRes) (hK49 : ∀ (μ : zMem), zR yX3_stands cX3_stands 4 (some .boolean) 6 49 [.null, .null, .null, .null] [] (nX g) (SX g) μ (K49 μ)) (hK41 : ∀ (μ : zMem), zR yX3_stands cX3_stands 4 (some .boolean) 6 41 [.null, .null, .null, .null] [] (nX g) (SX g) μ (K41 μ)) : ∀ (n : Nat) (x3 : Int32) (μ : zMem), zR yX3_stands cX3_stands 4 (some .boolean) 6 17 [.ref 22, .ref (1000000 + w), .int x2, .int x3] [] (nX g) (SX g) μ (f3_stands_L17 w x2 K49 K41 n x3 μ) := by
  intro n
  induction n with
  | zero => intro x3 μ; intro q hq; cases hq
  | succ n ih =>
    intro x3 μ
    unfold f3_stands_L17
    refine z_iload_n (pc := 17) dX3_stands_17 rfl ?_
    refine z_aload_n (pc := 18) dX3_stands_18 rfl ?_
    refine z_callW (As := []) (pc := 19) (ret' := some .int) hw kwX3_159 (tJ0_length_8abf5 hw _) (by decide)  rfl rfl (Nat.le_of_ble_eq_true rfl) dX3_stands_19 (fun v5 μ6 => ?_)
    refine z_icmp_ge (pc := 22) (tgt := 49) dX3_stands_22 (by decide) (fun c7 => ?_) (fun c8 => ?_)
    · refine z_loc (L' := [.null, .null, .null, .null]) ⟨Or.inl rfl, ⟨Or.inl rfl, ⟨Or.inl rfl, ⟨Or.inl rfl, trivial⟩⟩⟩⟩ ?_
      exact hK49 μ6
    · refine z_aload_n (pc := 25) dX3_stands_25 rfl ?_
      refine z_getr (pc := 26) fdX3_24 (nx_lt (by decide)) (sx_22 g) rfl rfl dX3_stands_26 ?_
      refine z_iload_n (pc := 29) dX3_stands_29 rfl ?_
      refine z_iload_n (pc := 30) dX3_stands_30 rfl ?_
      refine z_iadd (pc := 31) dX3_stands_31 ?_
      refine z_iald (pc := 32) (nx_lt (by decide)) (sx_1 g) rfl dX3_stands_32 (fun h9 => ?_)
      refine z_aload_n (pc := 33) dX3_stands_33 rfl ?_
      refine z_iload_n (pc := 34) dX3_stands_34 rfl ?_
      refine z_callW (As := [.int x3]) (pc := 35) (ret' := some .char) hw kwX3_164 (tJ0_charAt_5068e hw _ _) (by decide)  rfl rfl (Nat.le_of_ble_eq_true rfl) dX3_stands_35 (fun v10 μ11 => ?_)
      refine z_icmp_eq (pc := 38) (tgt := 43) dX3_stands_38 (by decide) (fun c12 => ?_) (fun c13 => ?_)
      · refine z_iinc (pc := 43) (v := x3 + (1 : Int32)) (L' := [.ref 22, .ref (1000000 + w), .int x2, .int (x3 + (1 : Int32))]) dX3_stands_43 (by decide) rfl (congrArg _ (by decide)) rfl ?_
        refine z_goto (pc := 46) (tgt := 17) dX3_stands_46 (by decide) ?_
        exact ih (x3 + (1 : Int32)) μ11
      · refine z_loc (L' := [.null, .null, .null, .null]) ⟨Or.inl rfl, ⟨Or.inl rfl, ⟨Or.inl rfl, ⟨Or.inl rfl, trivial⟩⟩⟩⟩ ?_
        exact hK41 μ11
set_option maxHeartbeats 1000000 in
theorem t3_stands {g : Bool} {w : Nat} (hw : w < 8) (x2 : Int32) (μ : zMem) : zMR yX3_stands cX3_stands 4 (some .boolean) 6 [.ref 22, .ref (1000000 + w), .int x2] (nX g) (SX g) μ (f3_stands w x2 μ) := by
  refine zMR_of (by decide +kernel) rfl (Nat.le_of_ble_eq_true rfl) (L := [.ref 22, .ref (1000000 + w), .int x2, .null]) rfl ?_
  unfold f3_stands
  refine z_aload_n (pc := 0) dX3_stands_0 rfl ?_
  refine z_geti (pc := 1) fdX3_15 (nx_lt (by decide)) (sx_22 g) rfl dX3_stands_1 ?_
  refine z_iload_n (pc := 4) dX3_stands_4 rfl ?_
  refine z_isub (pc := 5) dX3_stands_5 ?_
  refine z_aload_n (pc := 6) dX3_stands_6 rfl ?_
  refine z_callW (As := []) (pc := 7) (ret' := some .int) hw kwX3_159 (tJ0_length_8abf5 hw _) (by decide)  rfl rfl (Nat.le_of_ble_eq_true rfl) dX3_stands_7 (fun v1 μ2 => ?_)
  refine z_icmp_eq (pc := 10) (tgt := 15) dX3_stands_10 (by decide) (fun c3 => ?_) (fun c4 => ?_)
  · refine z_iconst (pc := 15) (0 : Int32) dX3_stands_15 (by decide) ?_
    refine z_istore_n (pc := 16) (L' := [.ref 22, .ref (1000000 + w), .int x2, .int (0 : Int32)]) dX3_stands_16 (by decide) rfl ?_
    refine t3_stands_L17 hw _ _ _ (fun μ14 => ?_) (fun μ15 => ?_) zF _ _
    · refine z_iconst (pc := 49) (1 : Int32) dX3_stands_49 (by decide) ?_
      exact z_zretc (pc := 50) rfl (Or.inr rfl) dX3_stands_50
    · refine z_iconst (pc := 41) (0 : Int32) dX3_stands_41 (by decide) ?_
      exact z_zretc (pc := 42) rfl (Or.inl rfl) dX3_stands_42
  · refine z_iconst (pc := 13) (0 : Int32) dX3_stands_13 (by decide) ?_
    exact z_zretc (pc := 14) rfl (Or.inl rfl) dX3_stands_14
def f3_readWord_L5 (K57 : zMem → zRes) : Nat → zMem → zRes
  | 0, _ => none
  | n + 1, μ => if (μ 22 2) ≤ (μ 22 3) then K57 μ else zin (μ 22 3) 500 (if (μ 1 (μ 22 3).toNatClampNeg) < (97 : Int32) then K57 μ else zin (μ 22 3) 500 (if (122 : Int32) < (μ 1 (μ 22 3).toNatClampNeg) then K57 μ else zlet (zset μ 22 3 ((μ 22 3) + (1 : Int32))) (fun (μ46 : zMem) => f3_readWord_L5 K57 n μ46)))
def f3_readWord (μ : zMem) : zRes := zlet (μ 22 3) (fun (v1 : Int32) => zlet (fun (μ2 : zMem) => bnd0 (f3_stands 0 v1 μ2) (fun (v3 : Int32) (μ4 : zMem) => if v3 = 0 then bnd0 (f3_stands 1 v1 μ4) (fun (v7 : Int32) (μ8 : zMem) => if v7 = 0 then bnd0 (f3_stands 2 v1 μ8) (fun (v11 : Int32) (μ12 : zMem) => if v11 = 0 then bnd0 (f3_stands 3 v1 μ12) (fun (v15 : Int32) (μ16 : zMem) => if v15 = 0 then bnd0 (f3_stands 4 v1 μ16) (fun (v19 : Int32) (μ20 : zMem) => if v19 = 0 then bnd0 (f3_stands 5 v1 μ20) (fun (v23 : Int32) (μ24 : zMem) => if v23 = 0 then bnd0 (f3_stands 6 v1 μ24) (fun (v27 : Int32) (μ28 : zMem) => if v27 = 0 then bnd0 (f3_stands 7 v1 μ28) (fun (v31 : Int32) (μ32 : zMem) => zlet (fun (s33 : Int32) => some (0, s33, μ32)) (fun j34 => if v31 = 0 then j34 (0 : Int32) else j34 (8 : Int32))) else some (0, (7 : Int32), μ28)) else some (0, (6 : Int32), μ24)) else some (0, (5 : Int32), μ20)) else some (0, (4 : Int32), μ16)) else some (0, (3 : Int32), μ12)) else some (0, (2 : Int32), μ8)) else some (0, (1 : Int32), μ4))) (fun j37 => f3_readWord_L5 (fun (μ47 : zMem) => j37 μ47) zF μ))
set_option maxHeartbeats 1000000 in
theorem t3_readWord_L5 {g : Bool} (x1 : Int32) (K57 : zMem → zRes) (hK57 : ∀ (μ : zMem), zR yX3_readWord cX3_readWord 2 (some .int) 7 57 [.ref 22, .int x1] [] (nX g) (SX g) μ (K57 μ)) : ∀ (n : Nat) (μ : zMem), zR yX3_readWord cX3_readWord 2 (some .int) 7 5 [.ref 22, .int x1] [] (nX g) (SX g) μ (f3_readWord_L5 K57 n μ) := by
  intro n
  induction n with
  | zero => intro μ; intro q hq; cases hq
  | succ n ih =>
    intro μ
    unfold f3_readWord_L5
    refine z_aload_n (pc := 5) dX3_readWord_5 rfl ?_
    refine z_geti (pc := 6) fdX3_15 (nx_lt (by decide)) (sx_22 g) rfl dX3_readWord_6 ?_
    refine z_aload_n (pc := 9) dX3_readWord_9 rfl ?_
    refine z_geti (pc := 10) fdX3_9 (nx_lt (by decide)) (sx_22 g) rfl dX3_readWord_10 ?_
    refine z_icmp_ge (pc := 13) (tgt := 57) dX3_readWord_13 (by decide) (fun c38 => ?_) (fun c39 => ?_)
    · exact hK57 μ
    · refine z_aload_n (pc := 16) dX3_readWord_16 rfl ?_
      refine z_getr (pc := 17) fdX3_24 (nx_lt (by decide)) (sx_22 g) rfl rfl dX3_readWord_17 ?_
      refine z_aload_n (pc := 20) dX3_readWord_20 rfl ?_
      refine z_geti (pc := 21) fdX3_15 (nx_lt (by decide)) (sx_22 g) rfl dX3_readWord_21 ?_
      refine z_iald (pc := 24) (nx_lt (by decide)) (sx_1 g) rfl dX3_readWord_24 (fun h40 => ?_)
      refine z_bipush (pc := 25) (97 : Int32) dX3_readWord_25 (by decide) ?_
      refine z_icmp_lt (pc := 27) (tgt := 57) dX3_readWord_27 (by decide) (fun c41 => ?_) (fun c42 => ?_)
      · exact hK57 μ
      · refine z_aload_n (pc := 30) dX3_readWord_30 rfl ?_
        refine z_getr (pc := 31) fdX3_24 (nx_lt (by decide)) (sx_22 g) rfl rfl dX3_readWord_31 ?_
        refine z_aload_n (pc := 34) dX3_readWord_34 rfl ?_
        refine z_geti (pc := 35) fdX3_15 (nx_lt (by decide)) (sx_22 g) rfl dX3_readWord_35 ?_
        refine z_iald (pc := 38) (nx_lt (by decide)) (sx_1 g) rfl dX3_readWord_38 (fun h43 => ?_)
        refine z_bipush (pc := 39) (122 : Int32) dX3_readWord_39 (by decide) ?_
        refine z_icmp_gt (pc := 41) (tgt := 57) dX3_readWord_41 (by decide) (fun c44 => ?_) (fun c45 => ?_)
        · exact hK57 μ
        · refine z_aload_n (pc := 44) dX3_readWord_44 rfl ?_
          refine z_dup (pc := 45) dX3_readWord_45 rfl ?_
          refine z_geti (pc := 46) fdX3_15 (nx_lt (by decide)) (sx_22 g) rfl dX3_readWord_46 ?_
          refine z_iconst (pc := 49) (1 : Int32) dX3_readWord_49 (by decide) ?_
          refine z_iadd (pc := 50) dX3_readWord_50 ?_
          refine z_puti (pc := 51) fdX3_15 (nx_lt (by decide)) (sx_22 g) rfl rfl dX3_readWord_51 ?_
          refine z_mem (fun μ46 => ?_)
          refine z_goto (pc := 54) (tgt := 5) dX3_readWord_54 (by decide) ?_
          exact ih μ46
set_option maxHeartbeats 1000000 in
theorem t3_readWord {g : Bool} (μ : zMem) : zMR yX3_readWord cX3_readWord 2 (some .int) 7 [.ref 22] (nX g) (SX g) μ (f3_readWord μ) := by
  refine zMR_of (by decide +kernel) rfl (Nat.le_of_ble_eq_true rfl) (L := [.ref 22, .null]) rfl ?_
  unfold f3_readWord
  refine z_aload_n (pc := 0) dX3_readWord_0 rfl ?_
  refine z_geti (pc := 1) fdX3_15 (nx_lt (by decide)) (sx_22 g) rfl dX3_readWord_1 ?_
  refine z_val (fun v1 => ?_)
  refine z_istore_n (pc := 4) (L' := [.ref 22, .int v1]) dX3_readWord_4 (by decide) rfl ?_
  refine z_let (fun (j : zMem → zRes) => ∀ (μ2 : zMem), zR yX3_readWord cX3_readWord 2 (some .int) 7 57 [.ref 22, .int v1] [] (nX g) (SX g) μ2 (j μ2)) ?_ (fun j37 hj37 => ?_)
  · intro μ2
    refine z_aload_n (pc := 57) dX3_readWord_57 rfl ?_
    refine z_ldcs (pc := 58) 0 rfl rfl dX3_readWord_58 ?_
    refine z_iload_n (pc := 60) dX3_readWord_60 rfl ?_
    refine z_callV (As := [.ref (1000000 + 0), .int v1]) (pc := 61) (ret' := some .boolean) kvX3_143 (t3_stands (by decide) _ _) (by decide) (nx_lt (by decide)) (sx_22 g)  rfl rfl (Nat.le_of_ble_eq_true rfl) dX3_readWord_61 (fun v3 μ4 => ?_)
    refine z_if_eq (pc := 64) (tgt := 69) dX3_readWord_64 (by decide) (fun c5 => ?_) (fun c6 => ?_)
    · refine z_aload_n (pc := 69) dX3_readWord_69 rfl ?_
      refine z_ldcs (pc := 70) 1 rfl rfl dX3_readWord_70 ?_
      refine z_iload_n (pc := 72) dX3_readWord_72 rfl ?_
      refine z_callV (As := [.ref (1000000 + 1), .int v1]) (pc := 73) (ret' := some .boolean) kvX3_143 (t3_stands (by decide) _ _) (by decide) (nx_lt (by decide)) (sx_22 g)  rfl rfl (Nat.le_of_ble_eq_true rfl) dX3_readWord_73 (fun v7 μ8 => ?_)
      refine z_if_eq (pc := 76) (tgt := 81) dX3_readWord_76 (by decide) (fun c9 => ?_) (fun c10 => ?_)
      · refine z_aload_n (pc := 81) dX3_readWord_81 rfl ?_
        refine z_ldcs (pc := 82) 2 rfl rfl dX3_readWord_82 ?_
        refine z_iload_n (pc := 84) dX3_readWord_84 rfl ?_
        refine z_callV (As := [.ref (1000000 + 2), .int v1]) (pc := 85) (ret' := some .boolean) kvX3_143 (t3_stands (by decide) _ _) (by decide) (nx_lt (by decide)) (sx_22 g)  rfl rfl (Nat.le_of_ble_eq_true rfl) dX3_readWord_85 (fun v11 μ12 => ?_)
        refine z_if_eq (pc := 88) (tgt := 93) dX3_readWord_88 (by decide) (fun c13 => ?_) (fun c14 => ?_)
        · refine z_aload_n (pc := 93) dX3_readWord_93 rfl ?_
          refine z_ldcs (pc := 94) 3 rfl rfl dX3_readWord_94 ?_
          refine z_iload_n (pc := 96) dX3_readWord_96 rfl ?_
          refine z_callV (As := [.ref (1000000 + 3), .int v1]) (pc := 97) (ret' := some .boolean) kvX3_143 (t3_stands (by decide) _ _) (by decide) (nx_lt (by decide)) (sx_22 g)  rfl rfl (Nat.le_of_ble_eq_true rfl) dX3_readWord_97 (fun v15 μ16 => ?_)
          refine z_if_eq (pc := 100) (tgt := 105) dX3_readWord_100 (by decide) (fun c17 => ?_) (fun c18 => ?_)
          · refine z_aload_n (pc := 105) dX3_readWord_105 rfl ?_
            refine z_ldcs (pc := 106) 4 rfl rfl dX3_readWord_106 ?_
            refine z_iload_n (pc := 108) dX3_readWord_108 rfl ?_
            refine z_callV (As := [.ref (1000000 + 4), .int v1]) (pc := 109) (ret' := some .boolean) kvX3_143 (t3_stands (by decide) _ _) (by decide) (nx_lt (by decide)) (sx_22 g)  rfl rfl (Nat.le_of_ble_eq_true rfl) dX3_readWord_109 (fun v19 μ20 => ?_)
            refine z_if_eq (pc := 112) (tgt := 117) dX3_readWord_112 (by decide) (fun c21 => ?_) (fun c22 => ?_)
            · refine z_aload_n (pc := 117) dX3_readWord_117 rfl ?_
              refine z_ldcs (pc := 118) 5 rfl rfl dX3_readWord_118 ?_
              refine z_iload_n (pc := 120) dX3_readWord_120 rfl ?_
              refine z_callV (As := [.ref (1000000 + 5), .int v1]) (pc := 121) (ret' := some .boolean) kvX3_143 (t3_stands (by decide) _ _) (by decide) (nx_lt (by decide)) (sx_22 g)  rfl rfl (Nat.le_of_ble_eq_true rfl) dX3_readWord_121 (fun v23 μ24 => ?_)
              refine z_if_eq (pc := 124) (tgt := 130) dX3_readWord_124 (by decide) (fun c25 => ?_) (fun c26 => ?_)
              · refine z_aload_n (pc := 130) dX3_readWord_130 rfl ?_
                refine z_ldcs (pc := 131) 6 rfl rfl dX3_readWord_131 ?_
                refine z_iload_n (pc := 133) dX3_readWord_133 rfl ?_
                refine z_callV (As := [.ref (1000000 + 6), .int v1]) (pc := 134) (ret' := some .boolean) kvX3_143 (t3_stands (by decide) _ _) (by decide) (nx_lt (by decide)) (sx_22 g)  rfl rfl (Nat.le_of_ble_eq_true rfl) dX3_readWord_134 (fun v27 μ28 => ?_)
                refine z_if_eq (pc := 137) (tgt := 143) dX3_readWord_137 (by decide) (fun c29 => ?_) (fun c30 => ?_)
                · refine z_aload_n (pc := 143) dX3_readWord_143 rfl ?_
                  refine z_ldcs (pc := 144) 7 rfl rfl dX3_readWord_144 ?_
                  refine z_iload_n (pc := 146) dX3_readWord_146 rfl ?_
                  refine z_callV (As := [.ref (1000000 + 7), .int v1]) (pc := 147) (ret' := some .boolean) kvX3_143 (t3_stands (by decide) _ _) (by decide) (nx_lt (by decide)) (sx_22 g)  rfl rfl (Nat.le_of_ble_eq_true rfl) dX3_readWord_147 (fun v31 μ32 => ?_)
                  refine z_let (fun (j : Int32 → zRes) => ∀ (s33 : Int32), zR yX3_readWord cX3_readWord 2 (some .int) 7 159 [.null, .null] [.int s33] (nX g) (SX g) μ32 (j s33)) ?_ (fun j34 hj34 => ?_)
                  · intro s33
                    exact z_iret (pc := 159) rfl dX3_readWord_159
                  · refine z_if_eq (pc := 150) (tgt := 158) dX3_readWord_150 (by decide) (fun c35 => ?_) (fun c36 => ?_)
                    · refine z_iconst (pc := 158) (0 : Int32) dX3_readWord_158 (by decide) ?_
                      refine z_loc (L' := [.null, .null]) ⟨Or.inl rfl, ⟨Or.inl rfl, trivial⟩⟩ ?_
                      exact hj34 (0 : Int32)
                    · refine z_bipush (pc := 153) (8 : Int32) dX3_readWord_153 (by decide) ?_
                      refine z_goto (pc := 155) (tgt := 159) dX3_readWord_155 (by decide) ?_
                      refine z_loc (L' := [.null, .null]) ⟨Or.inl rfl, ⟨Or.inl rfl, trivial⟩⟩ ?_
                      exact hj34 (8 : Int32)
                · refine z_bipush (pc := 140) (7 : Int32) dX3_readWord_140 (by decide) ?_
                  exact z_iret (pc := 142) rfl dX3_readWord_142
              · refine z_bipush (pc := 127) (6 : Int32) dX3_readWord_127 (by decide) ?_
                exact z_iret (pc := 129) rfl dX3_readWord_129
            · refine z_iconst (pc := 115) (5 : Int32) dX3_readWord_115 (by decide) ?_
              exact z_iret (pc := 116) rfl dX3_readWord_116
          · refine z_iconst (pc := 103) (4 : Int32) dX3_readWord_103 (by decide) ?_
            exact z_iret (pc := 104) rfl dX3_readWord_104
        · refine z_iconst (pc := 91) (3 : Int32) dX3_readWord_91 (by decide) ?_
          exact z_iret (pc := 92) rfl dX3_readWord_92
      · refine z_iconst (pc := 79) (2 : Int32) dX3_readWord_79 (by decide) ?_
        exact z_iret (pc := 80) rfl dX3_readWord_80
    · refine z_iconst (pc := 67) (1 : Int32) dX3_readWord_67 (by decide) ?_
      exact z_iret (pc := 68) rfl dX3_readWord_68
  · refine t3_readWord_L5 _ _ (fun μ47 => ?_) zF _
    · exact hj37 μ47
def f3_wrong (x1 : Int32) (x2 : Int32) (μ : zMem) : zRes := zlet (zset μ 22 4 x1) (fun (μ1 : zMem) => zlet (zset μ1 22 5 x2) (fun (μ2 : zMem) => some (0, (0 : Int32), μ2)))
set_option maxHeartbeats 1000000 in
theorem t3_wrong {g : Bool} (x1 : Int32) (x2 : Int32) (μ : zMem) : zMR yX3_wrong cX3_wrong 3 (some .boolean) 1 [.ref 22, .int x1, .int x2] (nX g) (SX g) μ (f3_wrong x1 x2 μ) := by
  refine zMR_of (by decide +kernel) rfl (Nat.le_of_ble_eq_true rfl) (L := [.ref 22, .int x1, .int x2]) rfl ?_
  unfold f3_wrong
  refine z_aload_n (pc := 0) dX3_wrong_0 rfl ?_
  refine z_iload_n (pc := 1) dX3_wrong_1 rfl ?_
  refine z_puti (pc := 2) fdX3_18 (nx_lt (by decide)) (sx_22 g) rfl rfl dX3_wrong_2 ?_
  refine z_mem (fun μ1 => ?_)
  refine z_aload_n (pc := 5) dX3_wrong_5 rfl ?_
  refine z_iload_n (pc := 6) dX3_wrong_6 rfl ?_
  refine z_puti (pc := 7) fdX3_21 (nx_lt (by decide)) (sx_22 g) rfl rfl dX3_wrong_7 ?_
  refine z_mem (fun μ2 => ?_)
  refine z_iconst (pc := 10) (0 : Int32) dX3_wrong_10 (by decide) ?_
  exact z_zretc (pc := 11) rfl (Or.inl rfl) dX3_wrong_11
def f3_standsDigit (μ : zMem) : zRes := zlet (fun (s1 : Int32) => zbl s1 (some (0, s1, μ))) (fun j2 => zlet (j2 (0 : Int32)) (fun j3 => if (μ 22 2) ≤ (μ 22 3) then j3 else zin (μ 22 3) 500 (if (μ 1 (μ 22 3).toNatClampNeg) < (48 : Int32) then j3 else zin (μ 22 3) 500 (if (57 : Int32) < (μ 1 (μ 22 3).toNatClampNeg) then j3 else j2 (1 : Int32)))))
set_option maxHeartbeats 1000000 in
theorem t3_standsDigit {g : Bool} (μ : zMem) : zMR yX3_standsDigit cX3_standsDigit 1 (some .boolean) 1 [.ref 22] (nX g) (SX g) μ (f3_standsDigit μ) := by
  refine zMR_of (by decide +kernel) rfl (Nat.le_of_ble_eq_true rfl) (L := [.ref 22]) rfl ?_
  unfold f3_standsDigit
  refine z_aload_n (pc := 0) dX3_standsDigit_0 rfl ?_
  refine z_geti (pc := 1) fdX3_15 (nx_lt (by decide)) (sx_22 g) rfl dX3_standsDigit_1 ?_
  refine z_aload_n (pc := 4) dX3_standsDigit_4 rfl ?_
  refine z_geti (pc := 5) fdX3_9 (nx_lt (by decide)) (sx_22 g) rfl dX3_standsDigit_5 ?_
  refine z_let (fun (j : Int32 → zRes) => ∀ (s1 : Int32), zR yX3_standsDigit cX3_standsDigit 1 (some .boolean) 1 44 [.null] [.int s1] (nX g) (SX g) μ (j s1)) ?_ (fun j2 hj2 => ?_)
  · intro s1
    exact z_zret (pc := 44) rfl dX3_standsDigit_44
  · refine z_let (fun (j : zRes) => zR yX3_standsDigit cX3_standsDigit 1 (some .boolean) 1 43 [.null] [] (nX g) (SX g) μ (j)) ?_ (fun j3 hj3 => ?_)
    · refine z_iconst (pc := 43) (0 : Int32) dX3_standsDigit_43 (by decide) ?_
      exact hj2 (0 : Int32)
    · refine z_icmp_ge (pc := 8) (tgt := 43) dX3_standsDigit_8 (by decide) (fun c4 => ?_) (fun c5 => ?_)
      · refine z_loc (L' := [.null]) ⟨Or.inl rfl, trivial⟩ ?_
        exact hj3
      · refine z_aload_n (pc := 11) dX3_standsDigit_11 rfl ?_
        refine z_getr (pc := 12) fdX3_24 (nx_lt (by decide)) (sx_22 g) rfl rfl dX3_standsDigit_12 ?_
        refine z_aload_n (pc := 15) dX3_standsDigit_15 rfl ?_
        refine z_geti (pc := 16) fdX3_15 (nx_lt (by decide)) (sx_22 g) rfl dX3_standsDigit_16 ?_
        refine z_iald (pc := 19) (nx_lt (by decide)) (sx_1 g) rfl dX3_standsDigit_19 (fun h6 => ?_)
        refine z_bipush (pc := 20) (48 : Int32) dX3_standsDigit_20 (by decide) ?_
        refine z_icmp_lt (pc := 22) (tgt := 43) dX3_standsDigit_22 (by decide) (fun c7 => ?_) (fun c8 => ?_)
        · refine z_loc (L' := [.null]) ⟨Or.inl rfl, trivial⟩ ?_
          exact hj3
        · refine z_aload_n (pc := 25) dX3_standsDigit_25 rfl ?_
          refine z_getr (pc := 26) fdX3_24 (nx_lt (by decide)) (sx_22 g) rfl rfl dX3_standsDigit_26 ?_
          refine z_aload_n (pc := 29) dX3_standsDigit_29 rfl ?_
          refine z_geti (pc := 30) fdX3_15 (nx_lt (by decide)) (sx_22 g) rfl dX3_standsDigit_30 ?_
          refine z_iald (pc := 33) (nx_lt (by decide)) (sx_1 g) rfl dX3_standsDigit_33 (fun h9 => ?_)
          refine z_bipush (pc := 34) (57 : Int32) dX3_standsDigit_34 (by decide) ?_
          refine z_icmp_gt (pc := 36) (tgt := 43) dX3_standsDigit_36 (by decide) (fun c10 => ?_) (fun c11 => ?_)
          · refine z_loc (L' := [.null]) ⟨Or.inl rfl, trivial⟩ ?_
            exact hj3
          · refine z_iconst (pc := 39) (1 : Int32) dX3_standsDigit_39 (by decide) ?_
            refine z_goto (pc := 40) (tgt := 44) dX3_standsDigit_40 (by decide) ?_
            refine z_loc (L' := [.null]) ⟨Or.inl rfl, trivial⟩ ?_
            exact hj2 (1 : Int32)
def f3_readDigits_L9 (K40 : zMem → zRes) : Nat → zMem → zRes
  | 0, _ => none
  | n + 1, μ => if (μ 22 2) ≤ (μ 22 3) then K40 μ else bnd0 (f3_standsDigit μ) (fun (v14 : Int32) (μ15 : zMem) => if v14 = 0 then K40 μ15 else zlet (zset μ15 22 3 ((μ15 22 3) + (1 : Int32))) (fun (μ18 : zMem) => f3_readDigits_L9 K40 n μ18))
def f3_readDigits (μ : zMem) : zRes := bnd0 (f3_skipBlanks μ) (fun (v1 : Int32) (μ2 : zMem) => zlet (μ2 22 3) (fun (v3 : Int32) => zlet (fun (μ4 : zMem) => zlet (fun (μ5 : zMem) => some (0, v3, μ5)) (fun j6 => if (μ4 22 3) = v3 then bnd0 (f3_wrong (1 : Int32) (μ4 22 3) μ4) (fun (v9 : Int32) (μ10 : zMem) => j6 μ10) else j6 μ4)) (fun j11 => f3_readDigits_L9 (fun (μ19 : zMem) => j11 μ19) zF μ2)))
set_option maxHeartbeats 1000000 in
theorem t3_readDigits_L9 {g : Bool} (x1 : Int32) (K40 : zMem → zRes) (hK40 : ∀ (μ : zMem), zR yX3_readDigits cX3_readDigits 2 (some .int) 2 40 [.ref 22, .int x1] [] (nX g) (SX g) μ (K40 μ)) : ∀ (n : Nat) (μ : zMem), zR yX3_readDigits cX3_readDigits 2 (some .int) 2 9 [.ref 22, .int x1] [] (nX g) (SX g) μ (f3_readDigits_L9 K40 n μ) := by
  intro n
  induction n with
  | zero => intro μ; intro q hq; cases hq
  | succ n ih =>
    intro μ
    unfold f3_readDigits_L9
    refine z_aload_n (pc := 9) dX3_readDigits_9 rfl ?_
    refine z_geti (pc := 10) fdX3_15 (nx_lt (by decide)) (sx_22 g) rfl dX3_readDigits_10 ?_
    refine z_aload_n (pc := 13) dX3_readDigits_13 rfl ?_
    refine z_geti (pc := 14) fdX3_9 (nx_lt (by decide)) (sx_22 g) rfl dX3_readDigits_14 ?_
    refine z_icmp_ge (pc := 17) (tgt := 40) dX3_readDigits_17 (by decide) (fun c12 => ?_) (fun c13 => ?_)
    · exact hK40 μ
    · refine z_aload_n (pc := 20) dX3_readDigits_20 rfl ?_
      refine z_callV (As := []) (pc := 21) (ret' := some .boolean) kvX3_132 (t3_standsDigit _) (by decide) (nx_lt (by decide)) (sx_22 g)  rfl rfl (Nat.le_of_ble_eq_true rfl) dX3_readDigits_21 (fun v14 μ15 => ?_)
      refine z_if_eq (pc := 24) (tgt := 40) dX3_readDigits_24 (by decide) (fun c16 => ?_) (fun c17 => ?_)
      · exact hK40 μ15
      · refine z_aload_n (pc := 27) dX3_readDigits_27 rfl ?_
        refine z_dup (pc := 28) dX3_readDigits_28 rfl ?_
        refine z_geti (pc := 29) fdX3_15 (nx_lt (by decide)) (sx_22 g) rfl dX3_readDigits_29 ?_
        refine z_iconst (pc := 32) (1 : Int32) dX3_readDigits_32 (by decide) ?_
        refine z_iadd (pc := 33) dX3_readDigits_33 ?_
        refine z_puti (pc := 34) fdX3_15 (nx_lt (by decide)) (sx_22 g) rfl rfl dX3_readDigits_34 ?_
        refine z_mem (fun μ18 => ?_)
        refine z_goto (pc := 37) (tgt := 9) dX3_readDigits_37 (by decide) ?_
        exact ih μ18
set_option maxHeartbeats 1000000 in
theorem t3_readDigits {g : Bool} (μ : zMem) : zMR yX3_readDigits cX3_readDigits 2 (some .int) 2 [.ref 22] (nX g) (SX g) μ (f3_readDigits μ) := by
  refine zMR_of (by decide +kernel) rfl (Nat.le_of_ble_eq_true rfl) (L := [.ref 22, .null]) rfl ?_
  unfold f3_readDigits
  refine z_aload_n (pc := 0) dX3_readDigits_0 rfl ?_
  refine z_callV (As := []) (pc := 1) (ret' := none) kvX3_47 (t3_skipBlanks _) (by decide) (nx_lt (by decide)) (sx_22 g)  rfl rfl (Nat.le_of_ble_eq_true rfl) dX3_readDigits_1 (fun v1 μ2 => ?_)
  refine z_aload_n (pc := 4) dX3_readDigits_4 rfl ?_
  refine z_geti (pc := 5) fdX3_15 (nx_lt (by decide)) (sx_22 g) rfl dX3_readDigits_5 ?_
  refine z_val (fun v3 => ?_)
  refine z_istore_n (pc := 8) (L' := [.ref 22, .int v3]) dX3_readDigits_8 (by decide) rfl ?_
  refine z_let (fun (j : zMem → zRes) => ∀ (μ4 : zMem), zR yX3_readDigits cX3_readDigits 2 (some .int) 2 40 [.ref 22, .int v3] [] (nX g) (SX g) μ4 (j μ4)) ?_ (fun j11 hj11 => ?_)
  · intro μ4
    refine z_aload_n (pc := 40) dX3_readDigits_40 rfl ?_
    refine z_geti (pc := 41) fdX3_15 (nx_lt (by decide)) (sx_22 g) rfl dX3_readDigits_41 ?_
    refine z_iload_n (pc := 44) dX3_readDigits_44 rfl ?_
    refine z_let (fun (j : zMem → zRes) => ∀ (μ5 : zMem), zR yX3_readDigits cX3_readDigits 2 (some .int) 2 58 [.null, .int v3] [] (nX g) (SX g) μ5 (j μ5)) ?_ (fun j6 hj6 => ?_)
    · intro μ5
      refine z_iload_n (pc := 58) dX3_readDigits_58 rfl ?_
      exact z_iret (pc := 59) rfl dX3_readDigits_59
    · refine z_icmp_ne (pc := 45) (tgt := 58) dX3_readDigits_45 (by decide) (fun c7 => ?_) (fun c8 => ?_)
      · refine z_loc (L' := [.null, .int v3]) ⟨Or.inl rfl, ⟨Or.inr rfl, trivial⟩⟩ ?_
        exact hj6 μ4
      · refine z_aload_n (pc := 48) dX3_readDigits_48 rfl ?_
        refine z_iconst (pc := 49) (1 : Int32) dX3_readDigits_49 (by decide) ?_
        refine z_aload_n (pc := 50) dX3_readDigits_50 rfl ?_
        refine z_geti (pc := 51) fdX3_15 (nx_lt (by decide)) (sx_22 g) rfl dX3_readDigits_51 ?_
        refine z_callV (As := [.int (1 : Int32), .int (μ4 22 3)]) (pc := 54) (ret' := some .boolean) kvX3_58 (t3_wrong _ _ _) (by decide) (nx_lt (by decide)) (sx_22 g)  rfl rfl (Nat.le_of_ble_eq_true rfl) dX3_readDigits_54 (fun v9 μ10 => ?_)
        refine z_pop (pc := 57) dX3_readDigits_57 rfl ?_
        refine z_loc (L' := [.null, .int v3]) ⟨Or.inl rfl, ⟨Or.inr rfl, trivial⟩⟩ ?_
        exact hj6 μ10
  · refine t3_readDigits_L9 _ _ (fun μ19 => ?_) zF _
    · exact hj11 μ19
def f3_readNumber_L20 (K58 : Int32 → zMem → zRes) : Nat → Int32 → Int32 → zMem → zRes
  | 0, _, _, _ => none
  | n + 1, x4, x5, μ => if (μ 22 3) ≤ x5 then K58 x4 μ else zin x5 500 (zlet (zmin (100000 : Int32) (((x4 * (10 : Int32)) + (μ 1 x5.toNatClampNeg)) - (48 : Int32))) (fun (v8 : Int32) => f3_readNumber_L20 K58 n v8 (x5 + (1 : Int32)) μ))
def f3_readNumber (x1 : Int32) (x2 : Int32) (μ : zMem) : zRes := bnd0 (f3_readDigits μ) (fun (v1 : Int32) (μ2 : zMem) => if (μ2 22 4) = 0 then f3_readNumber_L20 (fun (x4_9 : Int32) (μ10 : zMem) => zlet (bnd0 (f3_wrong (2 : Int32) v1 μ10) (fun (v11 : Int32) (μ12 : zMem) => some (0, (0 : Int32), μ12))) (fun j13 => if x4_9 < x1 then j13 else if x4_9 ≤ x2 then some (0, x4_9, μ10) else j13)) zF (0 : Int32) v1 μ2 else some (0, (0 : Int32), μ2))
set_option maxHeartbeats 1000000 in
theorem t3_readNumber_L20 {g : Bool} (x1 : Int32) (x2 : Int32) (x3 : Int32) (K58 : Int32 → zMem → zRes) (hK58 : ∀ (x4 : Int32) (μ : zMem), zR yX3_readNumber cX3_readNumber 6 (some .int) 3 58 [.ref 22, .int x1, .int x2, .int x3, .int x4, .null] [] (nX g) (SX g) μ (K58 x4 μ)) : ∀ (n : Nat) (x4 : Int32) (x5 : Int32) (μ : zMem), zR yX3_readNumber cX3_readNumber 6 (some .int) 3 20 [.ref 22, .int x1, .int x2, .int x3, .int x4, .int x5] [] (nX g) (SX g) μ (f3_readNumber_L20 K58 n x4 x5 μ) := by
  intro n
  induction n with
  | zero => intro x4 x5 μ; intro q hq; cases hq
  | succ n ih =>
    intro x4 x5 μ
    unfold f3_readNumber_L20
    refine z_iload (pc := 20) dX3_readNumber_20 rfl ?_
    refine z_aload_n (pc := 22) dX3_readNumber_22 rfl ?_
    refine z_geti (pc := 23) fdX3_15 (nx_lt (by decide)) (sx_22 g) rfl dX3_readNumber_23 ?_
    refine z_icmp_ge (pc := 26) (tgt := 58) dX3_readNumber_26 (by decide) (fun c5 => ?_) (fun c6 => ?_)
    · refine z_loc (L' := [.ref 22, .int x1, .int x2, .int x3, .int x4, .null]) ⟨Or.inr rfl, ⟨Or.inr rfl, ⟨Or.inr rfl, ⟨Or.inr rfl, ⟨Or.inr rfl, ⟨Or.inl rfl, trivial⟩⟩⟩⟩⟩⟩ ?_
      exact hK58 x4 μ
    · refine z_ldc (pc := 29) (100000 : Int32) kcX3_141 dX3_readNumber_29 ?_
      refine z_iload (pc := 31) dX3_readNumber_31 rfl ?_
      refine z_bipush (pc := 33) (10 : Int32) dX3_readNumber_33 (by decide) ?_
      refine z_imul (pc := 35) dX3_readNumber_35 ?_
      refine z_aload_n (pc := 36) dX3_readNumber_36 rfl ?_
      refine z_getr (pc := 37) fdX3_24 (nx_lt (by decide)) (sx_22 g) rfl rfl dX3_readNumber_37 ?_
      refine z_iload (pc := 40) dX3_readNumber_40 rfl ?_
      refine z_iald (pc := 42) (nx_lt (by decide)) (sx_1 g) rfl dX3_readNumber_42 (fun h7 => ?_)
      refine z_iadd (pc := 43) dX3_readNumber_43 ?_
      refine z_bipush (pc := 44) (48 : Int32) dX3_readNumber_44 (by decide) ?_
      refine z_isub (pc := 46) dX3_readNumber_46 ?_
      refine z_mmin (pc := 47) kmX3_32 (by decide) (Nat.le_of_ble_eq_true rfl) dX3_readNumber_47 ?_
      refine z_val (fun v8 => ?_)
      refine z_istore (pc := 50) (L' := [.ref 22, .int x1, .int x2, .int x3, .int v8, .int x5]) dX3_readNumber_50 (by decide) rfl ?_
      refine z_iinc (pc := 52) (v := x5 + (1 : Int32)) (L' := [.ref 22, .int x1, .int x2, .int x3, .int v8, .int (x5 + (1 : Int32))]) dX3_readNumber_52 (by decide) rfl (congrArg _ (by decide)) rfl ?_
      refine z_goto (pc := 55) (tgt := 20) dX3_readNumber_55 (by decide) ?_
      exact ih v8 (x5 + (1 : Int32)) μ
set_option maxHeartbeats 1000000 in
theorem t3_readNumber {g : Bool} (x1 : Int32) (x2 : Int32) (μ : zMem) : zMR yX3_readNumber cX3_readNumber 6 (some .int) 3 [.ref 22, .int x1, .int x2] (nX g) (SX g) μ (f3_readNumber x1 x2 μ) := by
  refine zMR_of (by decide +kernel) rfl (Nat.le_of_ble_eq_true rfl) (L := [.ref 22, .int x1, .int x2, .null, .null, .null]) rfl ?_
  unfold f3_readNumber
  refine z_aload_n (pc := 0) dX3_readNumber_0 rfl ?_
  refine z_callV (As := []) (pc := 1) (ret' := some .int) kvX3_101 (t3_readDigits _) (by decide) (nx_lt (by decide)) (sx_22 g)  rfl rfl (Nat.le_of_ble_eq_true rfl) dX3_readNumber_1 (fun v1 μ2 => ?_)
  refine z_istore_n (pc := 4) (L' := [.ref 22, .int x1, .int x2, .int v1, .null, .null]) dX3_readNumber_4 (by decide) rfl ?_
  refine z_aload_n (pc := 5) dX3_readNumber_5 rfl ?_
  refine z_geti (pc := 6) fdX3_18 (nx_lt (by decide)) (sx_22 g) rfl dX3_readNumber_6 ?_
  refine z_if_eq (pc := 9) (tgt := 14) dX3_readNumber_9 (by decide) (fun c3 => ?_) (fun c4 => ?_)
  · refine z_iconst (pc := 14) (0 : Int32) dX3_readNumber_14 (by decide) ?_
    refine z_istore (pc := 15) (L' := [.ref 22, .int x1, .int x2, .int v1, .int (0 : Int32), .null]) dX3_readNumber_15 (by decide) rfl ?_
    refine z_iload_n (pc := 17) dX3_readNumber_17 rfl ?_
    refine z_istore (pc := 18) (L' := [.ref 22, .int x1, .int x2, .int v1, .int (0 : Int32), .int v1]) dX3_readNumber_18 (by decide) rfl ?_
    refine t3_readNumber_L20 _ _ _ _ (fun x4_9 μ10 => ?_) zF _ _ _
    · refine z_iload (pc := 58) dX3_readNumber_58 rfl ?_
      refine z_iload_n (pc := 60) dX3_readNumber_60 rfl ?_
      refine z_let (fun (j : zRes) => zR yX3_readNumber cX3_readNumber 6 (some .int) 3 70 [.ref 22, .null, .null, .int v1, .null, .null] [] (nX g) (SX g) μ10 (j)) ?_ (fun j13 hj13 => ?_)
      · refine z_aload_n (pc := 70) dX3_readNumber_70 rfl ?_
        refine z_iconst (pc := 71) (2 : Int32) dX3_readNumber_71 (by decide) ?_
        refine z_iload_n (pc := 72) dX3_readNumber_72 rfl ?_
        refine z_callV (As := [.int (2 : Int32), .int v1]) (pc := 73) (ret' := some .boolean) kvX3_58 (t3_wrong _ _ _) (by decide) (nx_lt (by decide)) (sx_22 g)  rfl rfl (Nat.le_of_ble_eq_true rfl) dX3_readNumber_73 (fun v11 μ12 => ?_)
        refine z_pop (pc := 76) dX3_readNumber_76 rfl ?_
        refine z_iconst (pc := 77) (0 : Int32) dX3_readNumber_77 (by decide) ?_
        exact z_iret (pc := 78) rfl dX3_readNumber_78
      · refine z_icmp_lt (pc := 61) (tgt := 70) dX3_readNumber_61 (by decide) (fun c14 => ?_) (fun c15 => ?_)
        · refine z_loc (L' := [.ref 22, .null, .null, .int v1, .null, .null]) ⟨Or.inr rfl, ⟨Or.inl rfl, ⟨Or.inl rfl, ⟨Or.inr rfl, ⟨Or.inl rfl, ⟨Or.inl rfl, trivial⟩⟩⟩⟩⟩⟩ ?_
          exact hj13
        · refine z_iload (pc := 64) dX3_readNumber_64 rfl ?_
          refine z_iload_n (pc := 66) dX3_readNumber_66 rfl ?_
          refine z_icmp_le (pc := 67) (tgt := 79) dX3_readNumber_67 (by decide) (fun c16 => ?_) (fun c17 => ?_)
          · refine z_iload (pc := 79) dX3_readNumber_79 rfl ?_
            exact z_iret (pc := 81) rfl dX3_readNumber_81
          · refine z_loc (L' := [.ref 22, .null, .null, .int v1, .null, .null]) ⟨Or.inr rfl, ⟨Or.inl rfl, ⟨Or.inl rfl, ⟨Or.inr rfl, ⟨Or.inl rfl, ⟨Or.inl rfl, trivial⟩⟩⟩⟩⟩⟩ ?_
            exact hj13
  · refine z_iconst (pc := 12) (0 : Int32) dX3_readNumber_12 (by decide) ?_
    exact z_iret (pc := 13) rfl dX3_readNumber_13
def f3_readSemicolon (μ : zMem) : zRes := bnd0 (f3_skipBlanks μ) (fun (v1 : Int32) (μ2 : zMem) => zlet (bnd0 (f3_wrong (1 : Int32) (μ2 22 3) μ2) (fun (v3 : Int32) (μ4 : zMem) => zbl v3 (some (0, v3, μ4)))) (fun j5 => if (μ2 22 2) ≤ (μ2 22 3) then j5 else zin (μ2 22 3) 500 (if (μ2 1 (μ2 22 3).toNatClampNeg) = (59 : Int32) then zlet (zset μ2 22 3 ((μ2 22 3) + (1 : Int32))) (fun (μ11 : zMem) => some (0, (1 : Int32), μ11)) else j5)))
set_option maxHeartbeats 1000000 in
theorem t3_readSemicolon {g : Bool} (μ : zMem) : zMR yX3_readSemicolon cX3_readSemicolon 1 (some .boolean) 2 [.ref 22] (nX g) (SX g) μ (f3_readSemicolon μ) := by
  refine zMR_of (by decide +kernel) rfl (Nat.le_of_ble_eq_true rfl) (L := [.ref 22]) rfl ?_
  unfold f3_readSemicolon
  refine z_aload_n (pc := 0) dX3_readSemicolon_0 rfl ?_
  refine z_callV (As := []) (pc := 1) (ret' := none) kvX3_47 (t3_skipBlanks _) (by decide) (nx_lt (by decide)) (sx_22 g)  rfl rfl (Nat.le_of_ble_eq_true rfl) dX3_readSemicolon_1 (fun v1 μ2 => ?_)
  refine z_aload_n (pc := 4) dX3_readSemicolon_4 rfl ?_
  refine z_geti (pc := 5) fdX3_15 (nx_lt (by decide)) (sx_22 g) rfl dX3_readSemicolon_5 ?_
  refine z_aload_n (pc := 8) dX3_readSemicolon_8 rfl ?_
  refine z_geti (pc := 9) fdX3_9 (nx_lt (by decide)) (sx_22 g) rfl dX3_readSemicolon_9 ?_
  refine z_let (fun (j : zRes) => zR yX3_readSemicolon cX3_readSemicolon 1 (some .boolean) 2 29 [.ref 22] [] (nX g) (SX g) μ2 (j)) ?_ (fun j5 hj5 => ?_)
  · refine z_aload_n (pc := 29) dX3_readSemicolon_29 rfl ?_
    refine z_iconst (pc := 30) (1 : Int32) dX3_readSemicolon_30 (by decide) ?_
    refine z_aload_n (pc := 31) dX3_readSemicolon_31 rfl ?_
    refine z_geti (pc := 32) fdX3_15 (nx_lt (by decide)) (sx_22 g) rfl dX3_readSemicolon_32 ?_
    refine z_callV (As := [.int (1 : Int32), .int (μ2 22 3)]) (pc := 35) (ret' := some .boolean) kvX3_58 (t3_wrong _ _ _) (by decide) (nx_lt (by decide)) (sx_22 g)  rfl rfl (Nat.le_of_ble_eq_true rfl) dX3_readSemicolon_35 (fun v3 μ4 => ?_)
    exact z_zret (pc := 38) rfl dX3_readSemicolon_38
  · refine z_icmp_ge (pc := 12) (tgt := 29) dX3_readSemicolon_12 (by decide) (fun c6 => ?_) (fun c7 => ?_)
    · exact hj5
    · refine z_aload_n (pc := 15) dX3_readSemicolon_15 rfl ?_
      refine z_getr (pc := 16) fdX3_24 (nx_lt (by decide)) (sx_22 g) rfl rfl dX3_readSemicolon_16 ?_
      refine z_aload_n (pc := 19) dX3_readSemicolon_19 rfl ?_
      refine z_geti (pc := 20) fdX3_15 (nx_lt (by decide)) (sx_22 g) rfl dX3_readSemicolon_20 ?_
      refine z_iald (pc := 23) (nx_lt (by decide)) (sx_1 g) rfl dX3_readSemicolon_23 (fun h8 => ?_)
      refine z_bipush (pc := 24) (59 : Int32) dX3_readSemicolon_24 (by decide) ?_
      refine z_icmp_eq (pc := 26) (tgt := 39) dX3_readSemicolon_26 (by decide) (fun c9 => ?_) (fun c10 => ?_)
      · refine z_aload_n (pc := 39) dX3_readSemicolon_39 rfl ?_
        refine z_dup (pc := 40) dX3_readSemicolon_40 rfl ?_
        refine z_geti (pc := 41) fdX3_15 (nx_lt (by decide)) (sx_22 g) rfl dX3_readSemicolon_41 ?_
        refine z_iconst (pc := 44) (1 : Int32) dX3_readSemicolon_44 (by decide) ?_
        refine z_iadd (pc := 45) dX3_readSemicolon_45 ?_
        refine z_puti (pc := 46) fdX3_15 (nx_lt (by decide)) (sx_22 g) rfl rfl dX3_readSemicolon_46 ?_
        refine z_mem (fun μ11 => ?_)
        refine z_iconst (pc := 49) (1 : Int32) dX3_readSemicolon_49 (by decide) ?_
        exact z_zretc (pc := 50) rfl (Or.inr rfl) dX3_readSemicolon_50
      · exact hj5
def f3_readAsks (μ : zMem) : zRes := bnd0 (f3_skipBlanks μ) (fun (v1 : Int32) (μ2 : zMem) => zlet (μ2 22 3) (fun (v3 : Int32) => bnd0 (f3_readWord μ2) (fun (v4 : Int32) (μ5 : zMem) => if v4 = (1 : Int32) then bnd0 (f3_readNumber (1 : Int32) (4 : Int32) μ5) (fun (v8 : Int32) (μ9 : zMem) => zlet (zset μ9 12 0 v8) (fun (μ10 : zMem) => zlet (fun (s11 : Int32) (μ12 : zMem) => zbl s11 (some (0, s11, μ12))) (fun j13 => zlet (fun (μ14 : zMem) => j13 (0 : Int32) μ14) (fun j15 => if (μ10 22 4) = 0 then bnd0 (f3_readSemicolon μ10) (fun (v18 : Int32) (μ19 : zMem) => if v18 = 0 then j15 μ19 else j13 (1 : Int32) μ19) else j15 μ10)))) else bnd0 (f3_wrong (1 : Int32) v3 μ5) (fun (v22 : Int32) (μ23 : zMem) => zbl v22 (some (0, v22, μ23))))))
set_option maxHeartbeats 1000000 in
theorem t3_readAsks {g : Bool} (μ : zMem) : zMR yX3_readAsks cX3_readAsks 2 (some .boolean) 8 [.ref 22] (nX g) (SX g) μ (f3_readAsks μ) := by
  refine zMR_of (by decide +kernel) rfl (Nat.le_of_ble_eq_true rfl) (L := [.ref 22, .null]) rfl ?_
  unfold f3_readAsks
  refine z_aload_n (pc := 0) dX3_readAsks_0 rfl ?_
  refine z_callV (As := []) (pc := 1) (ret' := none) kvX3_47 (t3_skipBlanks _) (by decide) (nx_lt (by decide)) (sx_22 g)  rfl rfl (Nat.le_of_ble_eq_true rfl) dX3_readAsks_1 (fun v1 μ2 => ?_)
  refine z_aload_n (pc := 4) dX3_readAsks_4 rfl ?_
  refine z_geti (pc := 5) fdX3_15 (nx_lt (by decide)) (sx_22 g) rfl dX3_readAsks_5 ?_
  refine z_val (fun v3 => ?_)
  refine z_istore_n (pc := 8) (L' := [.ref 22, .int v3]) dX3_readAsks_8 (by decide) rfl ?_
  refine z_aload_n (pc := 9) dX3_readAsks_9 rfl ?_
  refine z_callV (As := []) (pc := 10) (ret' := some .int) kvX3_54 (t3_readWord _) (by decide) (nx_lt (by decide)) (sx_22 g)  rfl rfl (Nat.le_of_ble_eq_true rfl) dX3_readAsks_10 (fun v4 μ5 => ?_)
  refine z_iconst (pc := 13) (1 : Int32) dX3_readAsks_13 (by decide) ?_
  refine z_icmp_eq (pc := 14) (tgt := 24) dX3_readAsks_14 (by decide) (fun c6 => ?_) (fun c7 => ?_)
  · refine z_aload_n (pc := 24) dX3_readAsks_24 rfl ?_
    refine z_getr (pc := 25) fdX3_28 (nx_lt (by decide)) (sx_22 g) rfl rfl dX3_readAsks_25 ?_
    refine z_aload_n (pc := 28) dX3_readAsks_28 rfl ?_
    refine z_iconst (pc := 29) (1 : Int32) dX3_readAsks_29 (by decide) ?_
    refine z_iconst (pc := 30) (4 : Int32) dX3_readAsks_30 (by decide) ?_
    refine z_callV (As := [.int (1 : Int32), .int (4 : Int32)]) (pc := 31) (ret' := some .int) kvX3_62 (t3_readNumber _ _ _) (by decide) (nx_lt (by decide)) (sx_22 g)  rfl rfl (Nat.le_of_ble_eq_true rfl) dX3_readAsks_31 (fun v8 μ9 => ?_)
    refine z_puti (pc := 34) fdX3_65 (nx_lt (by decide)) (sx_12 g) rfl rfl dX3_readAsks_34 ?_
    refine z_mem (fun μ10 => ?_)
    refine z_aload_n (pc := 37) dX3_readAsks_37 rfl ?_
    refine z_geti (pc := 38) fdX3_18 (nx_lt (by decide)) (sx_22 g) rfl dX3_readAsks_38 ?_
    refine z_let (fun (j : Int32 → zMem → zRes) => ∀ (s11 : Int32) (μ12 : zMem), zR yX3_readAsks cX3_readAsks 2 (some .boolean) 8 56 [.null, .null] [.int s11] (nX g) (SX g) μ12 (j s11 μ12)) ?_ (fun j13 hj13 => ?_)
    · intro s11 μ12
      exact z_zret (pc := 56) rfl dX3_readAsks_56
    · refine z_let (fun (j : zMem → zRes) => ∀ (μ14 : zMem), zR yX3_readAsks cX3_readAsks 2 (some .boolean) 8 55 [.null, .null] [] (nX g) (SX g) μ14 (j μ14)) ?_ (fun j15 hj15 => ?_)
      · intro μ14
        refine z_iconst (pc := 55) (0 : Int32) dX3_readAsks_55 (by decide) ?_
        exact hj13 (0 : Int32) μ14
      · refine z_if_ne (pc := 41) (tgt := 55) dX3_readAsks_41 (by decide) (fun c16 => ?_) (fun c17 => ?_)
        · refine z_loc (L' := [.null, .null]) ⟨Or.inl rfl, ⟨Or.inl rfl, trivial⟩⟩ ?_
          exact hj15 μ10
        · refine z_aload_n (pc := 44) dX3_readAsks_44 rfl ?_
          refine z_callV (As := []) (pc := 45) (ret' := some .boolean) kvX3_68 (t3_readSemicolon _) (by decide) (nx_lt (by decide)) (sx_22 g)  rfl rfl (Nat.le_of_ble_eq_true rfl) dX3_readAsks_45 (fun v18 μ19 => ?_)
          refine z_if_eq (pc := 48) (tgt := 55) dX3_readAsks_48 (by decide) (fun c20 => ?_) (fun c21 => ?_)
          · refine z_loc (L' := [.null, .null]) ⟨Or.inl rfl, ⟨Or.inl rfl, trivial⟩⟩ ?_
            exact hj15 μ19
          · refine z_iconst (pc := 51) (1 : Int32) dX3_readAsks_51 (by decide) ?_
            refine z_goto (pc := 52) (tgt := 56) dX3_readAsks_52 (by decide) ?_
            refine z_loc (L' := [.null, .null]) ⟨Or.inl rfl, ⟨Or.inl rfl, trivial⟩⟩ ?_
            exact hj13 (1 : Int32) μ19
  · refine z_aload_n (pc := 17) dX3_readAsks_17 rfl ?_
    refine z_iconst (pc := 18) (1 : Int32) dX3_readAsks_18 (by decide) ?_
    refine z_iload_n (pc := 19) dX3_readAsks_19 rfl ?_
    refine z_callV (As := [.int (1 : Int32), .int v3]) (pc := 20) (ret' := some .boolean) kvX3_58 (t3_wrong _ _ _) (by decide) (nx_lt (by decide)) (sx_22 g)  rfl rfl (Nat.le_of_ble_eq_true rfl) dX3_readAsks_20 (fun v22 μ23 => ?_)
    exact z_zret (pc := 23) rfl dX3_readAsks_23
def f3_areDigitsUpTo_L2 (x2 : Int32) (μ : zMem) (K31 : zRes) (K23 : zRes) : Nat → Int32 → zRes
  | 0, _ => none
  | n + 1, x3 => if (μ 22 3) ≤ x3 then K31 else zin x3 500 (if ((μ 1 x3.toNatClampNeg) - (48 : Int32)) ≤ x2 then f3_areDigitsUpTo_L2 x2 μ K31 K23 n (x3 + (1 : Int32)) else K23)
def f3_areDigitsUpTo (x1 : Int32) (x2 : Int32) (μ : zMem) : zRes := f3_areDigitsUpTo_L2 x2 μ (some (0, (1 : Int32), μ)) (some (0, (0 : Int32), μ)) zF x1
set_option maxHeartbeats 1000000 in
theorem t3_areDigitsUpTo_L2 {g : Bool} (x2 : Int32) (μ : zMem) (K31 : zRes) (K23 : zRes) (hK31 : zR yX3_areDigitsUpTo cX3_areDigitsUpTo 4 (some .boolean) 1 31 [.null, .null, .null, .null] [] (nX g) (SX g) μ (K31)) (hK23 : zR yX3_areDigitsUpTo cX3_areDigitsUpTo 4 (some .boolean) 1 23 [.null, .null, .null, .null] [] (nX g) (SX g) μ (K23)) : ∀ (n : Nat) (x3 : Int32), zR yX3_areDigitsUpTo cX3_areDigitsUpTo 4 (some .boolean) 1 2 [.ref 22, .null, .int x2, .int x3] [] (nX g) (SX g) μ (f3_areDigitsUpTo_L2 x2 μ K31 K23 n x3) := by
  intro n
  induction n with
  | zero => intro x3; intro q hq; cases hq
  | succ n ih =>
    intro x3
    unfold f3_areDigitsUpTo_L2
    refine z_iload_n (pc := 2) dX3_areDigitsUpTo_2 rfl ?_
    refine z_aload_n (pc := 3) dX3_areDigitsUpTo_3 rfl ?_
    refine z_geti (pc := 4) fdX3_15 (nx_lt (by decide)) (sx_22 g) rfl dX3_areDigitsUpTo_4 ?_
    refine z_icmp_ge (pc := 7) (tgt := 31) dX3_areDigitsUpTo_7 (by decide) (fun c1 => ?_) (fun c2 => ?_)
    · refine z_loc (L' := [.null, .null, .null, .null]) ⟨Or.inl rfl, ⟨Or.inl rfl, ⟨Or.inl rfl, ⟨Or.inl rfl, trivial⟩⟩⟩⟩ ?_
      exact hK31
    · refine z_aload_n (pc := 10) dX3_areDigitsUpTo_10 rfl ?_
      refine z_getr (pc := 11) fdX3_24 (nx_lt (by decide)) (sx_22 g) rfl rfl dX3_areDigitsUpTo_11 ?_
      refine z_iload_n (pc := 14) dX3_areDigitsUpTo_14 rfl ?_
      refine z_iald (pc := 15) (nx_lt (by decide)) (sx_1 g) rfl dX3_areDigitsUpTo_15 (fun h3 => ?_)
      refine z_bipush (pc := 16) (48 : Int32) dX3_areDigitsUpTo_16 (by decide) ?_
      refine z_isub (pc := 18) dX3_areDigitsUpTo_18 ?_
      refine z_iload_n (pc := 19) dX3_areDigitsUpTo_19 rfl ?_
      refine z_icmp_le (pc := 20) (tgt := 25) dX3_areDigitsUpTo_20 (by decide) (fun c4 => ?_) (fun c5 => ?_)
      · refine z_iinc (pc := 25) (v := x3 + (1 : Int32)) (L' := [.ref 22, .null, .int x2, .int (x3 + (1 : Int32))]) dX3_areDigitsUpTo_25 (by decide) rfl (congrArg _ (by decide)) rfl ?_
        refine z_goto (pc := 28) (tgt := 2) dX3_areDigitsUpTo_28 (by decide) ?_
        exact ih (x3 + (1 : Int32))
      · refine z_loc (L' := [.null, .null, .null, .null]) ⟨Or.inl rfl, ⟨Or.inl rfl, ⟨Or.inl rfl, ⟨Or.inl rfl, trivial⟩⟩⟩⟩ ?_
        exact hK23
set_option maxHeartbeats 1000000 in
theorem t3_areDigitsUpTo {g : Bool} (x1 : Int32) (x2 : Int32) (μ : zMem) : zMR yX3_areDigitsUpTo cX3_areDigitsUpTo 4 (some .boolean) 1 [.ref 22, .int x1, .int x2] (nX g) (SX g) μ (f3_areDigitsUpTo x1 x2 μ) := by
  refine zMR_of (by decide +kernel) rfl (Nat.le_of_ble_eq_true rfl) (L := [.ref 22, .int x1, .int x2, .null]) rfl ?_
  unfold f3_areDigitsUpTo
  refine z_iload_n (pc := 0) dX3_areDigitsUpTo_0 rfl ?_
  refine z_istore_n (pc := 1) (L' := [.ref 22, .int x1, .int x2, .int x1]) dX3_areDigitsUpTo_1 (by decide) rfl ?_
  refine z_loc (L' := [.ref 22, .null, .int x2, .int x1]) ⟨Or.inr rfl, ⟨Or.inl rfl, ⟨Or.inr rfl, ⟨Or.inr rfl, trivial⟩⟩⟩⟩ ?_
  refine t3_areDigitsUpTo_L2 _ _ _ _ (?_) (?_) zF _
  · refine z_iconst (pc := 31) (1 : Int32) dX3_areDigitsUpTo_31 (by decide) ?_
    exact z_zretc (pc := 32) rfl (Or.inr rfl) dX3_areDigitsUpTo_32
  · refine z_iconst (pc := 23) (0 : Int32) dX3_areDigitsUpTo_23 (by decide) ?_
    exact z_zretc (pc := 24) rfl (Or.inl rfl) dX3_areDigitsUpTo_24
def f3_readPerson_L49 (x1 : Int32) (K96 : zMem → zRes) : Nat → Int32 → zMem → zRes
  | 0, _, _ => none
  | n + 1, x2, μ => if (μ 12 0) ≤ x2 then K96 μ else zin (x1 + x2) 500 (zin (((μ 12 1) * (4 : Int32)) + x2) 36 (zlet (zset μ 14 (((μ 12 1) * (4 : Int32)) + x2).toNatClampNeg ((μ 1 (x1 + x2).toNatClampNeg) - (48 : Int32))) (fun (μ19 : zMem) => f3_readPerson_L49 x1 K96 n (x2 + (1 : Int32)) μ19)))
def f3_readPerson (μ : zMem) : zRes := bnd0 (f3_readDigits μ) (fun (v1 : Int32) (μ2 : zMem) => if (μ2 22 4) = 0 then zlet (fun (μ5 : zMem) => bnd0 (f3_wrong (2 : Int32) v1 μ5) (fun (v6 : Int32) (μ7 : zMem) => zbl v6 (some (0, v6, μ7)))) (fun j8 => if ((μ2 22 3) - v1) = (μ2 12 0) then bnd0 (f3_areDigitsUpTo v1 (8 : Int32) μ2) (fun (v11 : Int32) (μ12 : zMem) => if v11 = 0 then j8 μ12 else f3_readPerson_L49 v1 (fun (μ20 : zMem) => bnd0 (f3_readNumber (0 : Int32) (4 : Int32) μ20) (fun (v21 : Int32) (μ22 : zMem) => zin (μ20 12 1) 9 (zlet (zset μ22 15 (μ20 12 1).toNatClampNeg v21) (fun (μ24 : zMem) => zlet (zset μ24 12 1 ((μ24 12 1) + (1 : Int32))) (fun (μ25 : zMem) => zlet (fun (s26 : Int32) => zbl s26 (some (0, s26, μ25))) (fun j27 => if (μ25 22 4) = 0 then j27 (1 : Int32) else j27 (0 : Int32))))))) zF (0 : Int32) μ12) else j8 μ2) else some (0, (0 : Int32), μ2))
set_option maxHeartbeats 1000000 in
theorem t3_readPerson_L49 {g : Bool} (x1 : Int32) (K96 : zMem → zRes) (hK96 : ∀ (μ : zMem), zR yX3_readPerson cX3_readPerson 3 (some .boolean) 4 96 [.ref 22, .null, .null] [] (nX g) (SX g) μ (K96 μ)) : ∀ (n : Nat) (x2 : Int32) (μ : zMem), zR yX3_readPerson cX3_readPerson 3 (some .boolean) 4 49 [.ref 22, .int x1, .int x2] [] (nX g) (SX g) μ (f3_readPerson_L49 x1 K96 n x2 μ) := by
  intro n
  induction n with
  | zero => intro x2 μ; intro q hq; cases hq
  | succ n ih =>
    intro x2 μ
    unfold f3_readPerson_L49
    refine z_iload_n (pc := 49) dX3_readPerson_49 rfl ?_
    refine z_aload_n (pc := 50) dX3_readPerson_50 rfl ?_
    refine z_getr (pc := 51) fdX3_28 (nx_lt (by decide)) (sx_22 g) rfl rfl dX3_readPerson_51 ?_
    refine z_geti (pc := 54) fdX3_65 (nx_lt (by decide)) (sx_12 g) rfl dX3_readPerson_54 ?_
    refine z_icmp_ge (pc := 57) (tgt := 96) dX3_readPerson_57 (by decide) (fun c15 => ?_) (fun c16 => ?_)
    · refine z_loc (L' := [.ref 22, .null, .null]) ⟨Or.inr rfl, ⟨Or.inl rfl, ⟨Or.inl rfl, trivial⟩⟩⟩ ?_
      exact hK96 μ
    · refine z_aload_n (pc := 60) dX3_readPerson_60 rfl ?_
      refine z_getr (pc := 61) fdX3_28 (nx_lt (by decide)) (sx_22 g) rfl rfl dX3_readPerson_61 ?_
      refine z_getr (pc := 64) fdX3_107 (nx_lt (by decide)) (sx_12 g) rfl rfl dX3_readPerson_64 ?_
      refine z_aload_n (pc := 67) dX3_readPerson_67 rfl ?_
      refine z_getr (pc := 68) fdX3_28 (nx_lt (by decide)) (sx_22 g) rfl rfl dX3_readPerson_68 ?_
      refine z_geti (pc := 71) fdX3_71 (nx_lt (by decide)) (sx_12 g) rfl dX3_readPerson_71 ?_
      refine z_iconst (pc := 74) (4 : Int32) dX3_readPerson_74 (by decide) ?_
      refine z_imul (pc := 75) dX3_readPerson_75 ?_
      refine z_iload_n (pc := 76) dX3_readPerson_76 rfl ?_
      refine z_iadd (pc := 77) dX3_readPerson_77 ?_
      refine z_aload_n (pc := 78) dX3_readPerson_78 rfl ?_
      refine z_getr (pc := 79) fdX3_24 (nx_lt (by decide)) (sx_22 g) rfl rfl dX3_readPerson_79 ?_
      refine z_iload_n (pc := 82) dX3_readPerson_82 rfl ?_
      refine z_iload_n (pc := 83) dX3_readPerson_83 rfl ?_
      refine z_iadd (pc := 84) dX3_readPerson_84 ?_
      refine z_iald (pc := 85) (nx_lt (by decide)) (sx_1 g) rfl dX3_readPerson_85 (fun h17 => ?_)
      refine z_bipush (pc := 86) (48 : Int32) dX3_readPerson_86 (by decide) ?_
      refine z_isub (pc := 88) dX3_readPerson_88 ?_
      refine z_iast (pc := 89) (nx_lt (by decide)) (sx_14 g) rfl dX3_readPerson_89 (fun h18 => ?_)
      refine z_mem (fun μ19 => ?_)
      refine z_iinc (pc := 90) (v := x2 + (1 : Int32)) (L' := [.ref 22, .int x1, .int (x2 + (1 : Int32))]) dX3_readPerson_90 (by decide) rfl (congrArg _ (by decide)) rfl ?_
      refine z_goto (pc := 93) (tgt := 49) dX3_readPerson_93 (by decide) ?_
      exact ih (x2 + (1 : Int32)) μ19
set_option maxHeartbeats 1000000 in
theorem t3_readPerson {g : Bool} (μ : zMem) : zMR yX3_readPerson cX3_readPerson 3 (some .boolean) 4 [.ref 22] (nX g) (SX g) μ (f3_readPerson μ) := by
  refine zMR_of (by decide +kernel) rfl (Nat.le_of_ble_eq_true rfl) (L := [.ref 22, .null, .null]) rfl ?_
  unfold f3_readPerson
  refine z_aload_n (pc := 0) dX3_readPerson_0 rfl ?_
  refine z_callV (As := []) (pc := 1) (ret' := some .int) kvX3_101 (t3_readDigits _) (by decide) (nx_lt (by decide)) (sx_22 g)  rfl rfl (Nat.le_of_ble_eq_true rfl) dX3_readPerson_1 (fun v1 μ2 => ?_)
  refine z_istore_n (pc := 4) (L' := [.ref 22, .int v1, .null]) dX3_readPerson_4 (by decide) rfl ?_
  refine z_aload_n (pc := 5) dX3_readPerson_5 rfl ?_
  refine z_geti (pc := 6) fdX3_18 (nx_lt (by decide)) (sx_22 g) rfl dX3_readPerson_6 ?_
  refine z_if_eq (pc := 9) (tgt := 14) dX3_readPerson_9 (by decide) (fun c3 => ?_) (fun c4 => ?_)
  · refine z_aload_n (pc := 14) dX3_readPerson_14 rfl ?_
    refine z_geti (pc := 15) fdX3_15 (nx_lt (by decide)) (sx_22 g) rfl dX3_readPerson_15 ?_
    refine z_iload_n (pc := 18) dX3_readPerson_18 rfl ?_
    refine z_isub (pc := 19) dX3_readPerson_19 ?_
    refine z_aload_n (pc := 20) dX3_readPerson_20 rfl ?_
    refine z_getr (pc := 21) fdX3_28 (nx_lt (by decide)) (sx_22 g) rfl rfl dX3_readPerson_21 ?_
    refine z_geti (pc := 24) fdX3_65 (nx_lt (by decide)) (sx_12 g) rfl dX3_readPerson_24 ?_
    refine z_let (fun (j : zMem → zRes) => ∀ (μ5 : zMem), zR yX3_readPerson cX3_readPerson 3 (some .boolean) 4 40 [.ref 22, .int v1, .null] [] (nX g) (SX g) μ5 (j μ5)) ?_ (fun j8 hj8 => ?_)
    · intro μ5
      refine z_aload_n (pc := 40) dX3_readPerson_40 rfl ?_
      refine z_iconst (pc := 41) (2 : Int32) dX3_readPerson_41 (by decide) ?_
      refine z_iload_n (pc := 42) dX3_readPerson_42 rfl ?_
      refine z_callV (As := [.int (2 : Int32), .int v1]) (pc := 43) (ret' := some .boolean) kvX3_58 (t3_wrong _ _ _) (by decide) (nx_lt (by decide)) (sx_22 g)  rfl rfl (Nat.le_of_ble_eq_true rfl) dX3_readPerson_43 (fun v6 μ7 => ?_)
      exact z_zret (pc := 46) rfl dX3_readPerson_46
    · refine z_icmp_ne (pc := 27) (tgt := 40) dX3_readPerson_27 (by decide) (fun c9 => ?_) (fun c10 => ?_)
      · exact hj8 μ2
      · refine z_aload_n (pc := 30) dX3_readPerson_30 rfl ?_
        refine z_iload_n (pc := 31) dX3_readPerson_31 rfl ?_
        refine z_bipush (pc := 32) (8 : Int32) dX3_readPerson_32 (by decide) ?_
        refine z_callV (As := [.int v1, .int (8 : Int32)]) (pc := 34) (ret' := some .boolean) kvX3_104 (t3_areDigitsUpTo _ _ _) (by decide) (nx_lt (by decide)) (sx_22 g)  rfl rfl (Nat.le_of_ble_eq_true rfl) dX3_readPerson_34 (fun v11 μ12 => ?_)
        refine z_if_ne (pc := 37) (tgt := 47) dX3_readPerson_37 (by decide) (fun c13 => ?_) (fun c14 => ?_)
        · refine z_iconst (pc := 47) (0 : Int32) dX3_readPerson_47 (by decide) ?_
          refine z_istore_n (pc := 48) (L' := [.ref 22, .int v1, .int (0 : Int32)]) dX3_readPerson_48 (by decide) rfl ?_
          refine t3_readPerson_L49 _ _ (fun μ20 => ?_) zF _ _
          · refine z_aload_n (pc := 96) dX3_readPerson_96 rfl ?_
            refine z_getr (pc := 97) fdX3_28 (nx_lt (by decide)) (sx_22 g) rfl rfl dX3_readPerson_97 ?_
            refine z_getr (pc := 100) fdX3_110 (nx_lt (by decide)) (sx_12 g) rfl rfl dX3_readPerson_100 ?_
            refine z_aload_n (pc := 103) dX3_readPerson_103 rfl ?_
            refine z_getr (pc := 104) fdX3_28 (nx_lt (by decide)) (sx_22 g) rfl rfl dX3_readPerson_104 ?_
            refine z_geti (pc := 107) fdX3_71 (nx_lt (by decide)) (sx_12 g) rfl dX3_readPerson_107 ?_
            refine z_aload_n (pc := 110) dX3_readPerson_110 rfl ?_
            refine z_iconst (pc := 111) (0 : Int32) dX3_readPerson_111 (by decide) ?_
            refine z_iconst (pc := 112) (4 : Int32) dX3_readPerson_112 (by decide) ?_
            refine z_callV (As := [.int (0 : Int32), .int (4 : Int32)]) (pc := 113) (ret' := some .int) kvX3_62 (t3_readNumber _ _ _) (by decide) (nx_lt (by decide)) (sx_22 g)  rfl rfl (Nat.le_of_ble_eq_true rfl) dX3_readPerson_113 (fun v21 μ22 => ?_)
            refine z_iast (pc := 116) (nx_lt (by decide)) (sx_15 g) rfl dX3_readPerson_116 (fun h23 => ?_)
            refine z_mem (fun μ24 => ?_)
            refine z_aload_n (pc := 117) dX3_readPerson_117 rfl ?_
            refine z_getr (pc := 118) fdX3_28 (nx_lt (by decide)) (sx_22 g) rfl rfl dX3_readPerson_118 ?_
            refine z_dup (pc := 121) dX3_readPerson_121 rfl ?_
            refine z_geti (pc := 122) fdX3_71 (nx_lt (by decide)) (sx_12 g) rfl dX3_readPerson_122 ?_
            refine z_iconst (pc := 125) (1 : Int32) dX3_readPerson_125 (by decide) ?_
            refine z_iadd (pc := 126) dX3_readPerson_126 ?_
            refine z_puti (pc := 127) fdX3_71 (nx_lt (by decide)) (sx_12 g) rfl rfl dX3_readPerson_127 ?_
            refine z_mem (fun μ25 => ?_)
            refine z_aload_n (pc := 130) dX3_readPerson_130 rfl ?_
            refine z_geti (pc := 131) fdX3_18 (nx_lt (by decide)) (sx_22 g) rfl dX3_readPerson_131 ?_
            refine z_let (fun (j : Int32 → zRes) => ∀ (s26 : Int32), zR yX3_readPerson cX3_readPerson 3 (some .boolean) 4 142 [.null, .null, .null] [.int s26] (nX g) (SX g) μ25 (j s26)) ?_ (fun j27 hj27 => ?_)
            · intro s26
              exact z_zret (pc := 142) rfl dX3_readPerson_142
            · refine z_if_ne (pc := 134) (tgt := 141) dX3_readPerson_134 (by decide) (fun c28 => ?_) (fun c29 => ?_)
              · refine z_iconst (pc := 141) (0 : Int32) dX3_readPerson_141 (by decide) ?_
                refine z_loc (L' := [.null, .null, .null]) ⟨Or.inl rfl, ⟨Or.inl rfl, ⟨Or.inl rfl, trivial⟩⟩⟩ ?_
                exact hj27 (0 : Int32)
              · refine z_iconst (pc := 137) (1 : Int32) dX3_readPerson_137 (by decide) ?_
                refine z_goto (pc := 138) (tgt := 142) dX3_readPerson_138 (by decide) ?_
                refine z_loc (L' := [.null, .null, .null]) ⟨Or.inl rfl, ⟨Or.inl rfl, ⟨Or.inl rfl, trivial⟩⟩⟩ ?_
                exact hj27 (1 : Int32)
        · exact hj8 μ12
  · refine z_iconst (pc := 12) (0 : Int32) dX3_readPerson_12 (by decide) ?_
    exact z_zretc (pc := 13) rfl (Or.inl rfl) dX3_readPerson_13
def f3_readFeigns (μ : zMem) : zRes := bnd0 (f3_readNumber (0 : Int32) ((μ 12 1) - (1 : Int32)) μ) (fun (v1 : Int32) (μ2 : zMem) => if (μ2 22 4) = 0 then bnd0 (f3_readNumber (0 : Int32) (9 : Int32) μ2) (fun (v5 : Int32) (μ6 : zMem) => zin v1 9 (zlet (zset μ6 16 v1.toNatClampNeg v5) (fun (μ8 : zMem) => zlet (fun (s9 : Int32) => zbl s9 (some (0, s9, μ8))) (fun j10 => if (μ8 22 4) = 0 then j10 (1 : Int32) else j10 (0 : Int32))))) else some (0, (0 : Int32), μ2))
set_option maxHeartbeats 1000000 in
theorem t3_readFeigns {g : Bool} (μ : zMem) : zMR yX3_readFeigns cX3_readFeigns 2 (some .boolean) 4 [.ref 22] (nX g) (SX g) μ (f3_readFeigns μ) := by
  refine zMR_of (by decide +kernel) rfl (Nat.le_of_ble_eq_true rfl) (L := [.ref 22, .null]) rfl ?_
  unfold f3_readFeigns
  refine z_aload_n (pc := 0) dX3_readFeigns_0 rfl ?_
  refine z_iconst (pc := 1) (0 : Int32) dX3_readFeigns_1 (by decide) ?_
  refine z_aload_n (pc := 2) dX3_readFeigns_2 rfl ?_
  refine z_getr (pc := 3) fdX3_28 (nx_lt (by decide)) (sx_22 g) rfl rfl dX3_readFeigns_3 ?_
  refine z_geti (pc := 6) fdX3_71 (nx_lt (by decide)) (sx_12 g) rfl dX3_readFeigns_6 ?_
  refine z_iconst (pc := 9) (1 : Int32) dX3_readFeigns_9 (by decide) ?_
  refine z_isub (pc := 10) dX3_readFeigns_10 ?_
  refine z_callV (As := [.int (0 : Int32), .int ((μ 12 1) - (1 : Int32))]) (pc := 11) (ret' := some .int) kvX3_62 (t3_readNumber _ _ _) (by decide) (nx_lt (by decide)) (sx_22 g)  rfl rfl (Nat.le_of_ble_eq_true rfl) dX3_readFeigns_11 (fun v1 μ2 => ?_)
  refine z_istore_n (pc := 14) (L' := [.ref 22, .int v1]) dX3_readFeigns_14 (by decide) rfl ?_
  refine z_aload_n (pc := 15) dX3_readFeigns_15 rfl ?_
  refine z_geti (pc := 16) fdX3_18 (nx_lt (by decide)) (sx_22 g) rfl dX3_readFeigns_16 ?_
  refine z_if_eq (pc := 19) (tgt := 24) dX3_readFeigns_19 (by decide) (fun c3 => ?_) (fun c4 => ?_)
  · refine z_aload_n (pc := 24) dX3_readFeigns_24 rfl ?_
    refine z_getr (pc := 25) fdX3_28 (nx_lt (by decide)) (sx_22 g) rfl rfl dX3_readFeigns_25 ?_
    refine z_getr (pc := 28) fdX3_113 (nx_lt (by decide)) (sx_12 g) rfl rfl dX3_readFeigns_28 ?_
    refine z_iload_n (pc := 31) dX3_readFeigns_31 rfl ?_
    refine z_aload_n (pc := 32) dX3_readFeigns_32 rfl ?_
    refine z_iconst (pc := 33) (0 : Int32) dX3_readFeigns_33 (by decide) ?_
    refine z_bipush (pc := 34) (9 : Int32) dX3_readFeigns_34 (by decide) ?_
    refine z_callV (As := [.int (0 : Int32), .int (9 : Int32)]) (pc := 36) (ret' := some .int) kvX3_62 (t3_readNumber _ _ _) (by decide) (nx_lt (by decide)) (sx_22 g)  rfl rfl (Nat.le_of_ble_eq_true rfl) dX3_readFeigns_36 (fun v5 μ6 => ?_)
    refine z_iast (pc := 39) (nx_lt (by decide)) (sx_16 g) rfl dX3_readFeigns_39 (fun h7 => ?_)
    refine z_mem (fun μ8 => ?_)
    refine z_aload_n (pc := 40) dX3_readFeigns_40 rfl ?_
    refine z_geti (pc := 41) fdX3_18 (nx_lt (by decide)) (sx_22 g) rfl dX3_readFeigns_41 ?_
    refine z_let (fun (j : Int32 → zRes) => ∀ (s9 : Int32), zR yX3_readFeigns cX3_readFeigns 2 (some .boolean) 4 52 [.null, .null] [.int s9] (nX g) (SX g) μ8 (j s9)) ?_ (fun j10 hj10 => ?_)
    · intro s9
      exact z_zret (pc := 52) rfl dX3_readFeigns_52
    · refine z_if_ne (pc := 44) (tgt := 51) dX3_readFeigns_44 (by decide) (fun c11 => ?_) (fun c12 => ?_)
      · refine z_iconst (pc := 51) (0 : Int32) dX3_readFeigns_51 (by decide) ?_
        refine z_loc (L' := [.null, .null]) ⟨Or.inl rfl, ⟨Or.inl rfl, trivial⟩⟩ ?_
        exact hj10 (0 : Int32)
      · refine z_iconst (pc := 47) (1 : Int32) dX3_readFeigns_47 (by decide) ?_
        refine z_goto (pc := 48) (tgt := 52) dX3_readFeigns_48 (by decide) ?_
        refine z_loc (L' := [.null, .null]) ⟨Or.inl rfl, ⟨Or.inl rfl, trivial⟩⟩ ?_
        exact hj10 (1 : Int32)
  · refine z_iconst (pc := 22) (0 : Int32) dX3_readFeigns_22 (by decide) ?_
    exact z_zretc (pc := 23) rfl (Or.inl rfl) dX3_readFeigns_23
def f3_readKin (μ : zMem) : zRes := bnd0 (f3_readNumber (0 : Int32) ((μ 12 1) - (1 : Int32)) μ) (fun (v1 : Int32) (μ2 : zMem) => if (μ2 22 4) = 0 then bnd0 (f3_skipBlanks μ2) (fun (v5 : Int32) (μ6 : zMem) => zlet (μ6 22 3) (fun (v7 : Int32) => bnd0 (f3_readNumber (0 : Int32) ((μ6 12 1) - (1 : Int32)) μ6) (fun (v8 : Int32) (μ9 : zMem) => if (μ9 22 4) = 0 then if v8 = v1 then bnd0 (f3_wrong (2 : Int32) v7 μ9) (fun (v16 : Int32) (μ17 : zMem) => zbl v16 (some (0, v16, μ17))) else bnd0 (f7_makeKin v1 v8 μ9) (fun (v14 : Int32) (μ15 : zMem) => some (0, (1 : Int32), μ15)) else some (0, (0 : Int32), μ9)))) else some (0, (0 : Int32), μ2))
set_option maxHeartbeats 1000000 in
theorem t3_readKin {g : Bool} (μ : zMem) : zMR yX3_readKin cX3_readKin 4 (some .boolean) 4 [.ref 22] (nX g) (SX g) μ (f3_readKin μ) := by
  refine zMR_of (by decide +kernel) rfl (Nat.le_of_ble_eq_true rfl) (L := [.ref 22, .null, .null, .null]) rfl ?_
  unfold f3_readKin
  refine z_aload_n (pc := 0) dX3_readKin_0 rfl ?_
  refine z_iconst (pc := 1) (0 : Int32) dX3_readKin_1 (by decide) ?_
  refine z_aload_n (pc := 2) dX3_readKin_2 rfl ?_
  refine z_getr (pc := 3) fdX3_28 (nx_lt (by decide)) (sx_22 g) rfl rfl dX3_readKin_3 ?_
  refine z_geti (pc := 6) fdX3_71 (nx_lt (by decide)) (sx_12 g) rfl dX3_readKin_6 ?_
  refine z_iconst (pc := 9) (1 : Int32) dX3_readKin_9 (by decide) ?_
  refine z_isub (pc := 10) dX3_readKin_10 ?_
  refine z_callV (As := [.int (0 : Int32), .int ((μ 12 1) - (1 : Int32))]) (pc := 11) (ret' := some .int) kvX3_62 (t3_readNumber _ _ _) (by decide) (nx_lt (by decide)) (sx_22 g)  rfl rfl (Nat.le_of_ble_eq_true rfl) dX3_readKin_11 (fun v1 μ2 => ?_)
  refine z_istore_n (pc := 14) (L' := [.ref 22, .int v1, .null, .null]) dX3_readKin_14 (by decide) rfl ?_
  refine z_aload_n (pc := 15) dX3_readKin_15 rfl ?_
  refine z_geti (pc := 16) fdX3_18 (nx_lt (by decide)) (sx_22 g) rfl dX3_readKin_16 ?_
  refine z_if_eq (pc := 19) (tgt := 24) dX3_readKin_19 (by decide) (fun c3 => ?_) (fun c4 => ?_)
  · refine z_aload_n (pc := 24) dX3_readKin_24 rfl ?_
    refine z_callV (As := []) (pc := 25) (ret' := none) kvX3_47 (t3_skipBlanks _) (by decide) (nx_lt (by decide)) (sx_22 g)  rfl rfl (Nat.le_of_ble_eq_true rfl) dX3_readKin_25 (fun v5 μ6 => ?_)
    refine z_aload_n (pc := 28) dX3_readKin_28 rfl ?_
    refine z_geti (pc := 29) fdX3_15 (nx_lt (by decide)) (sx_22 g) rfl dX3_readKin_29 ?_
    refine z_val (fun v7 => ?_)
    refine z_istore_n (pc := 32) (L' := [.ref 22, .int v1, .int v7, .null]) dX3_readKin_32 (by decide) rfl ?_
    refine z_aload_n (pc := 33) dX3_readKin_33 rfl ?_
    refine z_iconst (pc := 34) (0 : Int32) dX3_readKin_34 (by decide) ?_
    refine z_aload_n (pc := 35) dX3_readKin_35 rfl ?_
    refine z_getr (pc := 36) fdX3_28 (nx_lt (by decide)) (sx_22 g) rfl rfl dX3_readKin_36 ?_
    refine z_geti (pc := 39) fdX3_71 (nx_lt (by decide)) (sx_12 g) rfl dX3_readKin_39 ?_
    refine z_iconst (pc := 42) (1 : Int32) dX3_readKin_42 (by decide) ?_
    refine z_isub (pc := 43) dX3_readKin_43 ?_
    refine z_callV (As := [.int (0 : Int32), .int ((μ6 12 1) - (1 : Int32))]) (pc := 44) (ret' := some .int) kvX3_62 (t3_readNumber _ _ _) (by decide) (nx_lt (by decide)) (sx_22 g)  rfl rfl (Nat.le_of_ble_eq_true rfl) dX3_readKin_44 (fun v8 μ9 => ?_)
    refine z_istore_n (pc := 47) (L' := [.ref 22, .int v1, .int v7, .int v8]) dX3_readKin_47 (by decide) rfl ?_
    refine z_aload_n (pc := 48) dX3_readKin_48 rfl ?_
    refine z_geti (pc := 49) fdX3_18 (nx_lt (by decide)) (sx_22 g) rfl dX3_readKin_49 ?_
    refine z_if_eq (pc := 52) (tgt := 57) dX3_readKin_52 (by decide) (fun c10 => ?_) (fun c11 => ?_)
    · refine z_iload_n (pc := 57) dX3_readKin_57 rfl ?_
      refine z_iload_n (pc := 58) dX3_readKin_58 rfl ?_
      refine z_icmp_ne (pc := 59) (tgt := 69) dX3_readKin_59 (by decide) (fun c12 => ?_) (fun c13 => ?_)
      · refine z_aload_n (pc := 69) dX3_readKin_69 rfl ?_
        refine z_getr (pc := 70) fdX3_28 (nx_lt (by decide)) (sx_22 g) rfl rfl dX3_readKin_70 ?_
        refine z_iload_n (pc := 73) dX3_readKin_73 rfl ?_
        refine z_iload_n (pc := 74) dX3_readKin_74 rfl ?_
        refine z_callV (As := [.int v1, .int v8]) (pc := 75) (ret' := none) kvX3_116 (t7_makeKin _ _ _) (by decide) (nx_lt (by decide)) (sx_12 g)  rfl rfl (Nat.le_of_ble_eq_true rfl) dX3_readKin_75 (fun v14 μ15 => ?_)
        refine z_iconst (pc := 78) (1 : Int32) dX3_readKin_78 (by decide) ?_
        exact z_zretc (pc := 79) rfl (Or.inr rfl) dX3_readKin_79
      · refine z_aload_n (pc := 62) dX3_readKin_62 rfl ?_
        refine z_iconst (pc := 63) (2 : Int32) dX3_readKin_63 (by decide) ?_
        refine z_iload_n (pc := 64) dX3_readKin_64 rfl ?_
        refine z_callV (As := [.int (2 : Int32), .int v7]) (pc := 65) (ret' := some .boolean) kvX3_58 (t3_wrong _ _ _) (by decide) (nx_lt (by decide)) (sx_22 g)  rfl rfl (Nat.le_of_ble_eq_true rfl) dX3_readKin_65 (fun v16 μ17 => ?_)
        exact z_zret (pc := 68) rfl dX3_readKin_68
    · refine z_iconst (pc := 55) (0 : Int32) dX3_readKin_55 (by decide) ?_
      exact z_zretc (pc := 56) rfl (Or.inl rfl) dX3_readKin_56
  · refine z_iconst (pc := 22) (0 : Int32) dX3_readKin_22 (by decide) ?_
    exact z_zretc (pc := 23) rfl (Or.inl rfl) dX3_readKin_23
def f3_readDoor (μ : zMem) : zRes := zlet (μ 12 2) (fun (v1 : Int32) => bnd0 (f3_readNumber (1 : Int32) (99 : Int32) μ) (fun (v2 : Int32) (μ3 : zMem) => zin v1 10 (zlet (zset μ3 18 v1.toNatClampNeg v2) (fun (μ5 : zMem) => if (μ5 22 4) = 0 then bnd0 (f3_readNumber (1 : Int32) (240 : Int32) μ5) (fun (v8 : Int32) (μ9 : zMem) => zin v1 10 (zlet (zset μ9 19 v1.toNatClampNeg v8) (fun (μ11 : zMem) => if (μ11 22 4) = 0 then bnd0 (f3_readNumber (0 : Int32) (29 : Int32) μ11) (fun (v14 : Int32) (μ15 : zMem) => zin v1 10 (zlet (zset μ15 20 v1.toNatClampNeg v14) (fun (μ17 : zMem) => if (μ17 22 4) = 0 then bnd0 (f3_skipBlanks μ17) (fun (v20 : Int32) (μ21 : zMem) => bnd0 (f3_standsDigit μ21) (fun (v22 : Int32) (μ23 : zMem) => zlet (fun (s24 : Int32) (μ25 : zMem) => zin v1 10 (zlet (zset μ25 21 v1.toNatClampNeg s24) (fun (μ27 : zMem) => zlet (zset μ27 12 2 ((μ27 12 2) + (1 : Int32))) (fun (μ28 : zMem) => zlet (fun (s29 : Int32) => zbl s29 (some (0, s29, μ28))) (fun j30 => if (μ28 22 4) = 0 then j30 (1 : Int32) else j30 (0 : Int32)))))) (fun j33 => if v22 = 0 then j33 (-1 : Int32) μ23 else bnd0 (f3_readNumber (0 : Int32) ((μ23 12 0) - (1 : Int32)) μ23) (fun (v36 : Int32) (μ37 : zMem) => j33 v36 μ37)))) else some (0, (0 : Int32), μ17)))) else some (0, (0 : Int32), μ11)))) else some (0, (0 : Int32), μ5)))))
set_option maxHeartbeats 1000000 in
theorem t3_readDoor {g : Bool} (μ : zMem) : zMR yX3_readDoor cX3_readDoor 2 (some .boolean) 4 [.ref 22] (nX g) (SX g) μ (f3_readDoor μ) := by
  refine zMR_of (by decide +kernel) rfl (Nat.le_of_ble_eq_true rfl) (L := [.ref 22, .null]) rfl ?_
  unfold f3_readDoor
  refine z_aload_n (pc := 0) dX3_readDoor_0 rfl ?_
  refine z_getr (pc := 1) fdX3_28 (nx_lt (by decide)) (sx_22 g) rfl rfl dX3_readDoor_1 ?_
  refine z_geti (pc := 4) fdX3_74 (nx_lt (by decide)) (sx_12 g) rfl dX3_readDoor_4 ?_
  refine z_val (fun v1 => ?_)
  refine z_istore_n (pc := 7) (L' := [.ref 22, .int v1]) dX3_readDoor_7 (by decide) rfl ?_
  refine z_aload_n (pc := 8) dX3_readDoor_8 rfl ?_
  refine z_getr (pc := 9) fdX3_28 (nx_lt (by decide)) (sx_22 g) rfl rfl dX3_readDoor_9 ?_
  refine z_getr (pc := 12) fdX3_120 (nx_lt (by decide)) (sx_12 g) rfl rfl dX3_readDoor_12 ?_
  refine z_iload_n (pc := 15) dX3_readDoor_15 rfl ?_
  refine z_aload_n (pc := 16) dX3_readDoor_16 rfl ?_
  refine z_iconst (pc := 17) (1 : Int32) dX3_readDoor_17 (by decide) ?_
  refine z_bipush (pc := 18) (99 : Int32) dX3_readDoor_18 (by decide) ?_
  refine z_callV (As := [.int (1 : Int32), .int (99 : Int32)]) (pc := 20) (ret' := some .int) kvX3_62 (t3_readNumber _ _ _) (by decide) (nx_lt (by decide)) (sx_22 g)  rfl rfl (Nat.le_of_ble_eq_true rfl) dX3_readDoor_20 (fun v2 μ3 => ?_)
  refine z_iast (pc := 23) (nx_lt (by decide)) (sx_18 g) rfl dX3_readDoor_23 (fun h4 => ?_)
  refine z_mem (fun μ5 => ?_)
  refine z_aload_n (pc := 24) dX3_readDoor_24 rfl ?_
  refine z_geti (pc := 25) fdX3_18 (nx_lt (by decide)) (sx_22 g) rfl dX3_readDoor_25 ?_
  refine z_if_eq (pc := 28) (tgt := 33) dX3_readDoor_28 (by decide) (fun c6 => ?_) (fun c7 => ?_)
  · refine z_aload_n (pc := 33) dX3_readDoor_33 rfl ?_
    refine z_getr (pc := 34) fdX3_28 (nx_lt (by decide)) (sx_22 g) rfl rfl dX3_readDoor_34 ?_
    refine z_getr (pc := 37) fdX3_123 (nx_lt (by decide)) (sx_12 g) rfl rfl dX3_readDoor_37 ?_
    refine z_iload_n (pc := 40) dX3_readDoor_40 rfl ?_
    refine z_aload_n (pc := 41) dX3_readDoor_41 rfl ?_
    refine z_iconst (pc := 42) (1 : Int32) dX3_readDoor_42 (by decide) ?_
    refine z_sipush (pc := 43) (240 : Int32) dX3_readDoor_43 (by decide) ?_
    refine z_callV (As := [.int (1 : Int32), .int (240 : Int32)]) (pc := 46) (ret' := some .int) kvX3_62 (t3_readNumber _ _ _) (by decide) (nx_lt (by decide)) (sx_22 g)  rfl rfl (Nat.le_of_ble_eq_true rfl) dX3_readDoor_46 (fun v8 μ9 => ?_)
    refine z_iast (pc := 49) (nx_lt (by decide)) (sx_19 g) rfl dX3_readDoor_49 (fun h10 => ?_)
    refine z_mem (fun μ11 => ?_)
    refine z_aload_n (pc := 50) dX3_readDoor_50 rfl ?_
    refine z_geti (pc := 51) fdX3_18 (nx_lt (by decide)) (sx_22 g) rfl dX3_readDoor_51 ?_
    refine z_if_eq (pc := 54) (tgt := 59) dX3_readDoor_54 (by decide) (fun c12 => ?_) (fun c13 => ?_)
    · refine z_aload_n (pc := 59) dX3_readDoor_59 rfl ?_
      refine z_getr (pc := 60) fdX3_28 (nx_lt (by decide)) (sx_22 g) rfl rfl dX3_readDoor_60 ?_
      refine z_getr (pc := 63) fdX3_126 (nx_lt (by decide)) (sx_12 g) rfl rfl dX3_readDoor_63 ?_
      refine z_iload_n (pc := 66) dX3_readDoor_66 rfl ?_
      refine z_aload_n (pc := 67) dX3_readDoor_67 rfl ?_
      refine z_iconst (pc := 68) (0 : Int32) dX3_readDoor_68 (by decide) ?_
      refine z_bipush (pc := 69) (29 : Int32) dX3_readDoor_69 (by decide) ?_
      refine z_callV (As := [.int (0 : Int32), .int (29 : Int32)]) (pc := 71) (ret' := some .int) kvX3_62 (t3_readNumber _ _ _) (by decide) (nx_lt (by decide)) (sx_22 g)  rfl rfl (Nat.le_of_ble_eq_true rfl) dX3_readDoor_71 (fun v14 μ15 => ?_)
      refine z_iast (pc := 74) (nx_lt (by decide)) (sx_20 g) rfl dX3_readDoor_74 (fun h16 => ?_)
      refine z_mem (fun μ17 => ?_)
      refine z_aload_n (pc := 75) dX3_readDoor_75 rfl ?_
      refine z_geti (pc := 76) fdX3_18 (nx_lt (by decide)) (sx_22 g) rfl dX3_readDoor_76 ?_
      refine z_if_eq (pc := 79) (tgt := 84) dX3_readDoor_79 (by decide) (fun c18 => ?_) (fun c19 => ?_)
      · refine z_aload_n (pc := 84) dX3_readDoor_84 rfl ?_
        refine z_callV (As := []) (pc := 85) (ret' := none) kvX3_47 (t3_skipBlanks _) (by decide) (nx_lt (by decide)) (sx_22 g)  rfl rfl (Nat.le_of_ble_eq_true rfl) dX3_readDoor_85 (fun v20 μ21 => ?_)
        refine z_aload_n (pc := 88) dX3_readDoor_88 rfl ?_
        refine z_getr (pc := 89) fdX3_28 (nx_lt (by decide)) (sx_22 g) rfl rfl dX3_readDoor_89 ?_
        refine z_getr (pc := 92) fdX3_129 (nx_lt (by decide)) (sx_12 g) rfl rfl dX3_readDoor_92 ?_
        refine z_iload_n (pc := 95) dX3_readDoor_95 rfl ?_
        refine z_aload_n (pc := 96) dX3_readDoor_96 rfl ?_
        refine z_callV (As := []) (pc := 97) (ret' := some .boolean) kvX3_132 (t3_standsDigit _) (by decide) (nx_lt (by decide)) (sx_22 g)  rfl rfl (Nat.le_of_ble_eq_true rfl) dX3_readDoor_97 (fun v22 μ23 => ?_)
        refine z_let (fun (j : Int32 → zMem → zRes) => ∀ (s24 : Int32) (μ25 : zMem), zR yX3_readDoor cX3_readDoor 2 (some .boolean) 4 121 [.ref 22, .null] [.int s24, .int v1, .ref 21] (nX g) (SX g) μ25 (j s24 μ25)) ?_ (fun j33 hj33 => ?_)
        · intro s24 μ25
          refine z_iast (pc := 121) (nx_lt (by decide)) (sx_21 g) rfl dX3_readDoor_121 (fun h26 => ?_)
          refine z_mem (fun μ27 => ?_)
          refine z_aload_n (pc := 122) dX3_readDoor_122 rfl ?_
          refine z_getr (pc := 123) fdX3_28 (nx_lt (by decide)) (sx_22 g) rfl rfl dX3_readDoor_123 ?_
          refine z_dup (pc := 126) dX3_readDoor_126 rfl ?_
          refine z_geti (pc := 127) fdX3_74 (nx_lt (by decide)) (sx_12 g) rfl dX3_readDoor_127 ?_
          refine z_iconst (pc := 130) (1 : Int32) dX3_readDoor_130 (by decide) ?_
          refine z_iadd (pc := 131) dX3_readDoor_131 ?_
          refine z_puti (pc := 132) fdX3_74 (nx_lt (by decide)) (sx_12 g) rfl rfl dX3_readDoor_132 ?_
          refine z_mem (fun μ28 => ?_)
          refine z_aload_n (pc := 135) dX3_readDoor_135 rfl ?_
          refine z_geti (pc := 136) fdX3_18 (nx_lt (by decide)) (sx_22 g) rfl dX3_readDoor_136 ?_
          refine z_let (fun (j : Int32 → zRes) => ∀ (s29 : Int32), zR yX3_readDoor cX3_readDoor 2 (some .boolean) 4 147 [.null, .null] [.int s29] (nX g) (SX g) μ28 (j s29)) ?_ (fun j30 hj30 => ?_)
          · intro s29
            exact z_zret (pc := 147) rfl dX3_readDoor_147
          · refine z_if_ne (pc := 139) (tgt := 146) dX3_readDoor_139 (by decide) (fun c31 => ?_) (fun c32 => ?_)
            · refine z_iconst (pc := 146) (0 : Int32) dX3_readDoor_146 (by decide) ?_
              refine z_loc (L' := [.null, .null]) ⟨Or.inl rfl, ⟨Or.inl rfl, trivial⟩⟩ ?_
              exact hj30 (0 : Int32)
            · refine z_iconst (pc := 142) (1 : Int32) dX3_readDoor_142 (by decide) ?_
              refine z_goto (pc := 143) (tgt := 147) dX3_readDoor_143 (by decide) ?_
              refine z_loc (L' := [.null, .null]) ⟨Or.inl rfl, ⟨Or.inl rfl, trivial⟩⟩ ?_
              exact hj30 (1 : Int32)
        · refine z_if_eq (pc := 100) (tgt := 120) dX3_readDoor_100 (by decide) (fun c34 => ?_) (fun c35 => ?_)
          · refine z_iconst (pc := 120) (-1 : Int32) dX3_readDoor_120 (by decide) ?_
            refine z_loc (L' := [.ref 22, .null]) ⟨Or.inr rfl, ⟨Or.inl rfl, trivial⟩⟩ ?_
            exact hj33 (-1 : Int32) μ23
          · refine z_aload_n (pc := 103) dX3_readDoor_103 rfl ?_
            refine z_iconst (pc := 104) (0 : Int32) dX3_readDoor_104 (by decide) ?_
            refine z_aload_n (pc := 105) dX3_readDoor_105 rfl ?_
            refine z_getr (pc := 106) fdX3_28 (nx_lt (by decide)) (sx_22 g) rfl rfl dX3_readDoor_106 ?_
            refine z_geti (pc := 109) fdX3_65 (nx_lt (by decide)) (sx_12 g) rfl dX3_readDoor_109 ?_
            refine z_iconst (pc := 112) (1 : Int32) dX3_readDoor_112 (by decide) ?_
            refine z_isub (pc := 113) dX3_readDoor_113 ?_
            refine z_callV (As := [.int (0 : Int32), .int ((μ23 12 0) - (1 : Int32))]) (pc := 114) (ret' := some .int) kvX3_62 (t3_readNumber _ _ _) (by decide) (nx_lt (by decide)) (sx_22 g)  rfl rfl (Nat.le_of_ble_eq_true rfl) dX3_readDoor_114 (fun v36 μ37 => ?_)
            refine z_goto (pc := 117) (tgt := 121) dX3_readDoor_117 (by decide) ?_
            refine z_loc (L' := [.ref 22, .null]) ⟨Or.inr rfl, ⟨Or.inl rfl, trivial⟩⟩ ?_
            exact hj33 v36 μ37
      · refine z_iconst (pc := 82) (0 : Int32) dX3_readDoor_82 (by decide) ?_
        exact z_zretc (pc := 83) rfl (Or.inl rfl) dX3_readDoor_83
    · refine z_iconst (pc := 57) (0 : Int32) dX3_readDoor_57 (by decide) ?_
      exact z_zretc (pc := 58) rfl (Or.inl rfl) dX3_readDoor_58
  · refine z_iconst (pc := 31) (0 : Int32) dX3_readDoor_31 (by decide) ?_
    exact z_zretc (pc := 32) rfl (Or.inl rfl) dX3_readDoor_32
def f3_readSlate_L64 (x1 : Int32) (K101 : zMem → zRes) : Nat → Int32 → zMem → zRes
  | 0, _, _ => none
  | n + 1, x2, μ => if (μ 12 5) ≤ x2 then K101 μ else zin (x1 + x2) 500 (zin x2 7 (zlet (zset μ 13 x2.toNatClampNeg ((μ 1 (x1 + x2).toNatClampNeg) - (48 : Int32))) (fun (μ20 : zMem) => f3_readSlate_L64 x1 K101 n (x2 + (1 : Int32)) μ20)))
def f3_readSlate (μ : zMem) : zRes := bnd0 (f3_readDigits μ) (fun (v1 : Int32) (μ2 : zMem) => if (μ2 22 4) = 0 then zlet (fun (μ5 : zMem) => bnd0 (f3_wrong (2 : Int32) v1 μ5) (fun (v6 : Int32) (μ7 : zMem) => zbl v6 (some (0, v6, μ7)))) (fun j8 => if (7 : Int32) < ((μ2 22 3) - v1) then j8 μ2 else bnd0 (f3_areDigitsUpTo v1 ((μ2 12 0) - (1 : Int32)) μ2) (fun (v11 : Int32) (μ12 : zMem) => if v11 = 0 then j8 μ12 else zlet (zset μ12 12 5 ((μ12 22 3) - v1)) (fun (μ15 : zMem) => f3_readSlate_L64 v1 (fun (μ21 : zMem) => some (0, (1 : Int32), μ21)) zF (0 : Int32) μ15))) else some (0, (0 : Int32), μ2))
set_option maxHeartbeats 1000000 in
theorem t3_readSlate_L64 {g : Bool} (x1 : Int32) (K101 : zMem → zRes) (hK101 : ∀ (μ : zMem), zR yX3_readSlate cX3_readSlate 3 (some .boolean) 3 101 [.null, .null, .null] [] (nX g) (SX g) μ (K101 μ)) : ∀ (n : Nat) (x2 : Int32) (μ : zMem), zR yX3_readSlate cX3_readSlate 3 (some .boolean) 3 64 [.ref 22, .int x1, .int x2] [] (nX g) (SX g) μ (f3_readSlate_L64 x1 K101 n x2 μ) := by
  intro n
  induction n with
  | zero => intro x2 μ; intro q hq; cases hq
  | succ n ih =>
    intro x2 μ
    unfold f3_readSlate_L64
    refine z_iload_n (pc := 64) dX3_readSlate_64 rfl ?_
    refine z_aload_n (pc := 65) dX3_readSlate_65 rfl ?_
    refine z_getr (pc := 66) fdX3_28 (nx_lt (by decide)) (sx_22 g) rfl rfl dX3_readSlate_66 ?_
    refine z_geti (pc := 69) fdX3_135 (nx_lt (by decide)) (sx_12 g) rfl dX3_readSlate_69 ?_
    refine z_icmp_ge (pc := 72) (tgt := 101) dX3_readSlate_72 (by decide) (fun c16 => ?_) (fun c17 => ?_)
    · refine z_loc (L' := [.null, .null, .null]) ⟨Or.inl rfl, ⟨Or.inl rfl, ⟨Or.inl rfl, trivial⟩⟩⟩ ?_
      exact hK101 μ
    · refine z_aload_n (pc := 75) dX3_readSlate_75 rfl ?_
      refine z_getr (pc := 76) fdX3_28 (nx_lt (by decide)) (sx_22 g) rfl rfl dX3_readSlate_76 ?_
      refine z_getr (pc := 79) fdX3_138 (nx_lt (by decide)) (sx_12 g) rfl rfl dX3_readSlate_79 ?_
      refine z_iload_n (pc := 82) dX3_readSlate_82 rfl ?_
      refine z_aload_n (pc := 83) dX3_readSlate_83 rfl ?_
      refine z_getr (pc := 84) fdX3_24 (nx_lt (by decide)) (sx_22 g) rfl rfl dX3_readSlate_84 ?_
      refine z_iload_n (pc := 87) dX3_readSlate_87 rfl ?_
      refine z_iload_n (pc := 88) dX3_readSlate_88 rfl ?_
      refine z_iadd (pc := 89) dX3_readSlate_89 ?_
      refine z_iald (pc := 90) (nx_lt (by decide)) (sx_1 g) rfl dX3_readSlate_90 (fun h18 => ?_)
      refine z_bipush (pc := 91) (48 : Int32) dX3_readSlate_91 (by decide) ?_
      refine z_isub (pc := 93) dX3_readSlate_93 ?_
      refine z_iast (pc := 94) (nx_lt (by decide)) (sx_13 g) rfl dX3_readSlate_94 (fun h19 => ?_)
      refine z_mem (fun μ20 => ?_)
      refine z_iinc (pc := 95) (v := x2 + (1 : Int32)) (L' := [.ref 22, .int x1, .int (x2 + (1 : Int32))]) dX3_readSlate_95 (by decide) rfl (congrArg _ (by decide)) rfl ?_
      refine z_goto (pc := 98) (tgt := 64) dX3_readSlate_98 (by decide) ?_
      exact ih (x2 + (1 : Int32)) μ20
set_option maxHeartbeats 1000000 in
theorem t3_readSlate {g : Bool} (μ : zMem) : zMR yX3_readSlate cX3_readSlate 3 (some .boolean) 3 [.ref 22] (nX g) (SX g) μ (f3_readSlate μ) := by
  refine zMR_of (by decide +kernel) rfl (Nat.le_of_ble_eq_true rfl) (L := [.ref 22, .null, .null]) rfl ?_
  unfold f3_readSlate
  refine z_aload_n (pc := 0) dX3_readSlate_0 rfl ?_
  refine z_callV (As := []) (pc := 1) (ret' := some .int) kvX3_101 (t3_readDigits _) (by decide) (nx_lt (by decide)) (sx_22 g)  rfl rfl (Nat.le_of_ble_eq_true rfl) dX3_readSlate_1 (fun v1 μ2 => ?_)
  refine z_istore_n (pc := 4) (L' := [.ref 22, .int v1, .null]) dX3_readSlate_4 (by decide) rfl ?_
  refine z_aload_n (pc := 5) dX3_readSlate_5 rfl ?_
  refine z_geti (pc := 6) fdX3_18 (nx_lt (by decide)) (sx_22 g) rfl dX3_readSlate_6 ?_
  refine z_if_eq (pc := 9) (tgt := 14) dX3_readSlate_9 (by decide) (fun c3 => ?_) (fun c4 => ?_)
  · refine z_aload_n (pc := 14) dX3_readSlate_14 rfl ?_
    refine z_geti (pc := 15) fdX3_15 (nx_lt (by decide)) (sx_22 g) rfl dX3_readSlate_15 ?_
    refine z_iload_n (pc := 18) dX3_readSlate_18 rfl ?_
    refine z_isub (pc := 19) dX3_readSlate_19 ?_
    refine z_bipush (pc := 20) (7 : Int32) dX3_readSlate_20 (by decide) ?_
    refine z_let (fun (j : zMem → zRes) => ∀ (μ5 : zMem), zR yX3_readSlate cX3_readSlate 3 (some .boolean) 3 42 [.ref 22, .int v1, .null] [] (nX g) (SX g) μ5 (j μ5)) ?_ (fun j8 hj8 => ?_)
    · intro μ5
      refine z_aload_n (pc := 42) dX3_readSlate_42 rfl ?_
      refine z_iconst (pc := 43) (2 : Int32) dX3_readSlate_43 (by decide) ?_
      refine z_iload_n (pc := 44) dX3_readSlate_44 rfl ?_
      refine z_callV (As := [.int (2 : Int32), .int v1]) (pc := 45) (ret' := some .boolean) kvX3_58 (t3_wrong _ _ _) (by decide) (nx_lt (by decide)) (sx_22 g)  rfl rfl (Nat.le_of_ble_eq_true rfl) dX3_readSlate_45 (fun v6 μ7 => ?_)
      exact z_zret (pc := 48) rfl dX3_readSlate_48
    · refine z_icmp_gt (pc := 22) (tgt := 42) dX3_readSlate_22 (by decide) (fun c9 => ?_) (fun c10 => ?_)
      · exact hj8 μ2
      · refine z_aload_n (pc := 25) dX3_readSlate_25 rfl ?_
        refine z_iload_n (pc := 26) dX3_readSlate_26 rfl ?_
        refine z_aload_n (pc := 27) dX3_readSlate_27 rfl ?_
        refine z_getr (pc := 28) fdX3_28 (nx_lt (by decide)) (sx_22 g) rfl rfl dX3_readSlate_28 ?_
        refine z_geti (pc := 31) fdX3_65 (nx_lt (by decide)) (sx_12 g) rfl dX3_readSlate_31 ?_
        refine z_iconst (pc := 34) (1 : Int32) dX3_readSlate_34 (by decide) ?_
        refine z_isub (pc := 35) dX3_readSlate_35 ?_
        refine z_callV (As := [.int v1, .int ((μ2 12 0) - (1 : Int32))]) (pc := 36) (ret' := some .boolean) kvX3_104 (t3_areDigitsUpTo _ _ _) (by decide) (nx_lt (by decide)) (sx_22 g)  rfl rfl (Nat.le_of_ble_eq_true rfl) dX3_readSlate_36 (fun v11 μ12 => ?_)
        refine z_if_ne (pc := 39) (tgt := 49) dX3_readSlate_39 (by decide) (fun c13 => ?_) (fun c14 => ?_)
        · refine z_aload_n (pc := 49) dX3_readSlate_49 rfl ?_
          refine z_getr (pc := 50) fdX3_28 (nx_lt (by decide)) (sx_22 g) rfl rfl dX3_readSlate_50 ?_
          refine z_aload_n (pc := 53) dX3_readSlate_53 rfl ?_
          refine z_geti (pc := 54) fdX3_15 (nx_lt (by decide)) (sx_22 g) rfl dX3_readSlate_54 ?_
          refine z_iload_n (pc := 57) dX3_readSlate_57 rfl ?_
          refine z_isub (pc := 58) dX3_readSlate_58 ?_
          refine z_puti (pc := 59) fdX3_135 (nx_lt (by decide)) (sx_12 g) rfl rfl dX3_readSlate_59 ?_
          refine z_mem (fun μ15 => ?_)
          refine z_iconst (pc := 62) (0 : Int32) dX3_readSlate_62 (by decide) ?_
          refine z_istore_n (pc := 63) (L' := [.ref 22, .int v1, .int (0 : Int32)]) dX3_readSlate_63 (by decide) rfl ?_
          refine t3_readSlate_L64 _ _ (fun μ21 => ?_) zF _ _
          · refine z_iconst (pc := 101) (1 : Int32) dX3_readSlate_101 (by decide) ?_
            exact z_zretc (pc := 102) rfl (Or.inr rfl) dX3_readSlate_102
        · exact hj8 μ12
  · refine z_iconst (pc := 12) (0 : Int32) dX3_readSlate_12 (by decide) ?_
    exact z_zretc (pc := 13) rfl (Or.inl rfl) dX3_readSlate_13
def f3_readRest (x1 : Int32) (μ : zMem) : zRes := if x1 = (2 : Int32) then bnd0 (f3_readPerson μ) (fun (v2 : Int32) (μ3 : zMem) => zbl v2 (some (0, v2, μ3))) else if x1 = (3 : Int32) then bnd0 (f3_readFeigns μ) (fun (v5 : Int32) (μ6 : zMem) => zbl v5 (some (0, v5, μ6))) else if x1 = (4 : Int32) then bnd0 (f3_readKin μ) (fun (v8 : Int32) (μ9 : zMem) => zbl v8 (some (0, v8, μ9))) else if x1 = (5 : Int32) then bnd0 (f3_readDoor μ) (fun (v11 : Int32) (μ12 : zMem) => zbl v11 (some (0, v11, μ12))) else if x1 = (6 : Int32) then bnd0 (f3_readNumber (1 : Int32) (8 : Int32) μ) (fun (v14 : Int32) (μ15 : zMem) => zlet (zset μ15 12 3 v14) (fun (μ16 : zMem) => zlet (fun (s17 : Int32) => zbl s17 (some (0, s17, μ16))) (fun j18 => if (μ16 22 4) = 0 then j18 (1 : Int32) else j18 (0 : Int32)))) else if x1 = (7 : Int32) then bnd0 (f3_readNumber (30 : Int32) (999 : Int32) μ) (fun (v22 : Int32) (μ23 : zMem) => zlet (zset μ23 12 4 v22) (fun (μ24 : zMem) => zlet (fun (s25 : Int32) => zbl s25 (some (0, s25, μ24))) (fun j26 => if (μ24 22 4) = 0 then j26 (1 : Int32) else j26 (0 : Int32)))) else bnd0 (f3_readSlate μ) (fun (v29 : Int32) (μ30 : zMem) => zbl v29 (some (0, v29, μ30)))
set_option maxHeartbeats 1000000 in
theorem t3_readRest {g : Bool} (x1 : Int32) (μ : zMem) : zMR yX3_readRest cX3_readRest 2 (some .boolean) 5 [.ref 22, .int x1] (nX g) (SX g) μ (f3_readRest x1 μ) := by
  refine zMR_of (by decide +kernel) rfl (Nat.le_of_ble_eq_true rfl) (L := [.ref 22, .int x1]) rfl ?_
  unfold f3_readRest
  refine z_iload_n (pc := 0) dX3_readRest_0 rfl ?_
  refine z_tabC (pc := 1) (tgt := 40) (2 : Int32) dX3_readRest_1 (by decide) (by decide) rfl (by decide) ?_ (fun c1 => ?_)
  · refine z_aload_n (pc := 40) dX3_readRest_40 rfl ?_
    refine z_callV (As := []) (pc := 41) (ret' := some .boolean) kvX3_80 (t3_readPerson _) (by decide) (nx_lt (by decide)) (sx_22 g)  rfl rfl (Nat.le_of_ble_eq_true rfl) dX3_readRest_41 (fun v2 μ3 => ?_)
    exact z_zret (pc := 44) rfl dX3_readRest_44
  · refine z_tabC (pc := 1) (tgt := 45) (3 : Int32) dX3_readRest_1 (by decide) (by decide) rfl (by decide) ?_ (fun c4 => ?_)
    · refine z_aload_n (pc := 45) dX3_readRest_45 rfl ?_
      refine z_callV (As := []) (pc := 46) (ret' := some .boolean) kvX3_83 (t3_readFeigns _) (by decide) (nx_lt (by decide)) (sx_22 g)  rfl rfl (Nat.le_of_ble_eq_true rfl) dX3_readRest_46 (fun v5 μ6 => ?_)
      exact z_zret (pc := 49) rfl dX3_readRest_49
    · refine z_tabC (pc := 1) (tgt := 50) (4 : Int32) dX3_readRest_1 (by decide) (by decide) rfl (by decide) ?_ (fun c7 => ?_)
      · refine z_aload_n (pc := 50) dX3_readRest_50 rfl ?_
        refine z_callV (As := []) (pc := 51) (ret' := some .boolean) kvX3_86 (t3_readKin _) (by decide) (nx_lt (by decide)) (sx_22 g)  rfl rfl (Nat.le_of_ble_eq_true rfl) dX3_readRest_51 (fun v8 μ9 => ?_)
        exact z_zret (pc := 54) rfl dX3_readRest_54
      · refine z_tabC (pc := 1) (tgt := 55) (5 : Int32) dX3_readRest_1 (by decide) (by decide) rfl (by decide) ?_ (fun c10 => ?_)
        · refine z_aload_n (pc := 55) dX3_readRest_55 rfl ?_
          refine z_callV (As := []) (pc := 56) (ret' := some .boolean) kvX3_89 (t3_readDoor _) (by decide) (nx_lt (by decide)) (sx_22 g)  rfl rfl (Nat.le_of_ble_eq_true rfl) dX3_readRest_56 (fun v11 μ12 => ?_)
          exact z_zret (pc := 59) rfl dX3_readRest_59
        · refine z_tabC (pc := 1) (tgt := 60) (6 : Int32) dX3_readRest_1 (by decide) (by decide) rfl (by decide) ?_ (fun c13 => ?_)
          · refine z_aload_n (pc := 60) dX3_readRest_60 rfl ?_
            refine z_getr (pc := 61) fdX3_28 (nx_lt (by decide)) (sx_22 g) rfl rfl dX3_readRest_61 ?_
            refine z_aload_n (pc := 64) dX3_readRest_64 rfl ?_
            refine z_iconst (pc := 65) (1 : Int32) dX3_readRest_65 (by decide) ?_
            refine z_bipush (pc := 66) (8 : Int32) dX3_readRest_66 (by decide) ?_
            refine z_callV (As := [.int (1 : Int32), .int (8 : Int32)]) (pc := 68) (ret' := some .int) kvX3_62 (t3_readNumber _ _ _) (by decide) (nx_lt (by decide)) (sx_22 g)  rfl rfl (Nat.le_of_ble_eq_true rfl) dX3_readRest_68 (fun v14 μ15 => ?_)
            refine z_puti (pc := 71) fdX3_92 (nx_lt (by decide)) (sx_12 g) rfl rfl dX3_readRest_71 ?_
            refine z_mem (fun μ16 => ?_)
            refine z_aload_n (pc := 74) dX3_readRest_74 rfl ?_
            refine z_geti (pc := 75) fdX3_18 (nx_lt (by decide)) (sx_22 g) rfl dX3_readRest_75 ?_
            refine z_let (fun (j : Int32 → zRes) => ∀ (s17 : Int32), zR yX3_readRest cX3_readRest 2 (some .boolean) 5 86 [.null, .null] [.int s17] (nX g) (SX g) μ16 (j s17)) ?_ (fun j18 hj18 => ?_)
            · intro s17
              exact z_zret (pc := 86) rfl dX3_readRest_86
            · refine z_if_ne (pc := 78) (tgt := 85) dX3_readRest_78 (by decide) (fun c19 => ?_) (fun c20 => ?_)
              · refine z_iconst (pc := 85) (0 : Int32) dX3_readRest_85 (by decide) ?_
                refine z_loc (L' := [.null, .null]) ⟨Or.inl rfl, ⟨Or.inl rfl, trivial⟩⟩ ?_
                exact hj18 (0 : Int32)
              · refine z_iconst (pc := 81) (1 : Int32) dX3_readRest_81 (by decide) ?_
                refine z_goto (pc := 82) (tgt := 86) dX3_readRest_82 (by decide) ?_
                refine z_loc (L' := [.null, .null]) ⟨Or.inl rfl, ⟨Or.inl rfl, trivial⟩⟩ ?_
                exact hj18 (1 : Int32)
          · refine z_tabC (pc := 1) (tgt := 87) (7 : Int32) dX3_readRest_1 (by decide) (by decide) rfl (by decide) ?_ (fun c21 => ?_)
            · refine z_aload_n (pc := 87) dX3_readRest_87 rfl ?_
              refine z_getr (pc := 88) fdX3_28 (nx_lt (by decide)) (sx_22 g) rfl rfl dX3_readRest_88 ?_
              refine z_aload_n (pc := 91) dX3_readRest_91 rfl ?_
              refine z_bipush (pc := 92) (30 : Int32) dX3_readRest_92 (by decide) ?_
              refine z_sipush (pc := 94) (999 : Int32) dX3_readRest_94 (by decide) ?_
              refine z_callV (As := [.int (30 : Int32), .int (999 : Int32)]) (pc := 97) (ret' := some .int) kvX3_62 (t3_readNumber _ _ _) (by decide) (nx_lt (by decide)) (sx_22 g)  rfl rfl (Nat.le_of_ble_eq_true rfl) dX3_readRest_97 (fun v22 μ23 => ?_)
              refine z_puti (pc := 100) fdX3_95 (nx_lt (by decide)) (sx_12 g) rfl rfl dX3_readRest_100 ?_
              refine z_mem (fun μ24 => ?_)
              refine z_aload_n (pc := 103) dX3_readRest_103 rfl ?_
              refine z_geti (pc := 104) fdX3_18 (nx_lt (by decide)) (sx_22 g) rfl dX3_readRest_104 ?_
              refine z_let (fun (j : Int32 → zRes) => ∀ (s25 : Int32), zR yX3_readRest cX3_readRest 2 (some .boolean) 5 115 [.null, .null] [.int s25] (nX g) (SX g) μ24 (j s25)) ?_ (fun j26 hj26 => ?_)
              · intro s25
                exact z_zret (pc := 115) rfl dX3_readRest_115
              · refine z_if_ne (pc := 107) (tgt := 114) dX3_readRest_107 (by decide) (fun c27 => ?_) (fun c28 => ?_)
                · refine z_iconst (pc := 114) (0 : Int32) dX3_readRest_114 (by decide) ?_
                  refine z_loc (L' := [.null, .null]) ⟨Or.inl rfl, ⟨Or.inl rfl, trivial⟩⟩ ?_
                  exact hj26 (0 : Int32)
                · refine z_iconst (pc := 110) (1 : Int32) dX3_readRest_110 (by decide) ?_
                  refine z_goto (pc := 111) (tgt := 115) dX3_readRest_111 (by decide) ?_
                  refine z_loc (L' := [.null, .null]) ⟨Or.inl rfl, ⟨Or.inl rfl, trivial⟩⟩ ?_
                  exact hj26 (1 : Int32)
            · refine z_tabD (pc := 1) (tgt := 116) dX3_readRest_1 (by have q0 := z_i32 c1 (z := 2) (by decide); have q1 := z_i32 c4 (z := 3) (by decide); have q2 := z_i32 c7 (z := 4) (by decide); have q3 := z_i32 c10 (z := 5) (by decide); have q4 := z_i32 c13 (z := 6) (by decide); have q5 := z_i32 c21 (z := 7) (by decide); omega) (by decide) ?_
              refine z_aload_n (pc := 116) dX3_readRest_116 rfl ?_
              refine z_callV (As := []) (pc := 117) (ret' := some .boolean) kvX3_98 (t3_readSlate _) (by decide) (nx_lt (by decide)) (sx_22 g)  rfl rfl (Nat.le_of_ble_eq_true rfl) dX3_readRest_117 (fun v29 μ30 => ?_)
              exact z_zret (pc := 120) rfl dX3_readRest_120
def f3_readClause (x1 : Int32) (μ : zMem) : zRes := zlet (μ 22 3) (fun (v1 : Int32) => bnd0 (f3_readWord μ) (fun (v2 : Int32) (μ3 : zMem) => zlet (bnd0 (f3_wrong (1 : Int32) v1 μ3) (fun (v4 : Int32) (μ5 : zMem) => zbl v4 (some (0, v4, μ5)))) (fun j6 => if v2 = 0 then j6 else if v2 = (1 : Int32) then j6 else zlet (fun (s11 : Int32) => if s11 = 0 then bnd0 (f3_readRest v2 μ3) (fun (v14 : Int32) (μ15 : zMem) => zlet (fun (s16 : Int32) (μ17 : zMem) => zbl s16 (some (0, s16, μ17))) (fun j18 => zlet (fun (μ19 : zMem) => j18 (0 : Int32) μ19) (fun j20 => if v14 = 0 then j20 μ15 else bnd0 (f3_readSemicolon μ15) (fun (v23 : Int32) (μ24 : zMem) => if v23 = 0 then j20 μ24 else j18 (1 : Int32) μ24)))) else bnd0 (f3_wrong (3 : Int32) v1 μ3) (fun (v27 : Int32) (μ28 : zMem) => zbl v27 (some (0, v27, μ28)))) (fun j29 => zlet (j29 (1 : Int32)) (fun j30 => if (40 : Int32) ≤ x1 then j30 else zlet (zlet (j29 (0 : Int32)) (fun j33 => if v2 = (5 : Int32) then if (μ3 12 2) < (10 : Int32) then j33 else j30 else j33)) (fun j38 => if v2 = (2 : Int32) then if (8 : Int32) ≤ (μ3 12 1) then j30 else j38 else j38))))))
set_option maxHeartbeats 1000000 in
theorem t3_readClause {g : Bool} (x1 : Int32) (μ : zMem) : zMR yX3_readClause cX3_readClause 5 (some .boolean) 8 [.ref 22, .int x1] (nX g) (SX g) μ (f3_readClause x1 μ) := by
  refine zMR_of (by decide +kernel) rfl (Nat.le_of_ble_eq_true rfl) (L := [.ref 22, .int x1, .null, .null, .null]) rfl ?_
  unfold f3_readClause
  refine z_aload_n (pc := 0) dX3_readClause_0 rfl ?_
  refine z_geti (pc := 1) fdX3_15 (nx_lt (by decide)) (sx_22 g) rfl dX3_readClause_1 ?_
  refine z_val (fun v1 => ?_)
  refine z_istore_n (pc := 4) (L' := [.ref 22, .int x1, .int v1, .null, .null]) dX3_readClause_4 (by decide) rfl ?_
  refine z_aload_n (pc := 5) dX3_readClause_5 rfl ?_
  refine z_callV (As := []) (pc := 6) (ret' := some .int) kvX3_54 (t3_readWord _) (by decide) (nx_lt (by decide)) (sx_22 g)  rfl rfl (Nat.le_of_ble_eq_true rfl) dX3_readClause_6 (fun v2 μ3 => ?_)
  refine z_istore_n (pc := 9) (L' := [.ref 22, .int x1, .int v1, .int v2, .null]) dX3_readClause_9 (by decide) rfl ?_
  refine z_iload_n (pc := 10) dX3_readClause_10 rfl ?_
  refine z_let (fun (j : zRes) => zR yX3_readClause cX3_readClause 5 (some .boolean) 8 19 [.ref 22, .null, .int v1, .null, .null] [] (nX g) (SX g) μ3 (j)) ?_ (fun j6 hj6 => ?_)
  · refine z_aload_n (pc := 19) dX3_readClause_19 rfl ?_
    refine z_iconst (pc := 20) (1 : Int32) dX3_readClause_20 (by decide) ?_
    refine z_iload_n (pc := 21) dX3_readClause_21 rfl ?_
    refine z_callV (As := [.int (1 : Int32), .int v1]) (pc := 22) (ret' := some .boolean) kvX3_58 (t3_wrong _ _ _) (by decide) (nx_lt (by decide)) (sx_22 g)  rfl rfl (Nat.le_of_ble_eq_true rfl) dX3_readClause_22 (fun v4 μ5 => ?_)
    exact z_zret (pc := 25) rfl dX3_readClause_25
  · refine z_if_eq (pc := 11) (tgt := 19) dX3_readClause_11 (by decide) (fun c7 => ?_) (fun c8 => ?_)
    · refine z_loc (L' := [.ref 22, .null, .int v1, .null, .null]) ⟨Or.inr rfl, ⟨Or.inl rfl, ⟨Or.inr rfl, ⟨Or.inl rfl, ⟨Or.inl rfl, trivial⟩⟩⟩⟩⟩ ?_
      exact hj6
    · refine z_iload_n (pc := 14) dX3_readClause_14 rfl ?_
      refine z_iconst (pc := 15) (1 : Int32) dX3_readClause_15 (by decide) ?_
      refine z_icmp_ne (pc := 16) (tgt := 26) dX3_readClause_16 (by decide) (fun c9 => ?_) (fun c10 => ?_)
      · refine z_iload_n (pc := 26) dX3_readClause_26 rfl ?_
        refine z_bipush (pc := 27) (40 : Int32) dX3_readClause_27 (by decide) ?_
        refine z_let (fun (j : Int32 → zRes) => ∀ (s11 : Int32), zR yX3_readClause cX3_readClause 5 (some .boolean) 8 71 [.ref 22, .null, .int v1, .int v2, .null] [.int s11] (nX g) (SX g) μ3 (j s11)) ?_ (fun j29 hj29 => ?_)
        · intro s11
          refine z_istore (pc := 71) (L' := [.ref 22, .null, .int v1, .int v2, .int s11]) dX3_readClause_71 (by decide) rfl ?_
          refine z_iload (pc := 73) dX3_readClause_73 rfl ?_
          refine z_if_eq (pc := 75) (tgt := 85) dX3_readClause_75 (by decide) (fun c12 => ?_) (fun c13 => ?_)
          · refine z_aload_n (pc := 85) dX3_readClause_85 rfl ?_
            refine z_iload_n (pc := 86) dX3_readClause_86 rfl ?_
            refine z_callV (As := [.int v2]) (pc := 87) (ret' := some .boolean) kvX3_77 (t3_readRest _ _) (by decide) (nx_lt (by decide)) (sx_22 g)  rfl rfl (Nat.le_of_ble_eq_true rfl) dX3_readClause_87 (fun v14 μ15 => ?_)
            refine z_let (fun (j : Int32 → zMem → zRes) => ∀ (s16 : Int32) (μ17 : zMem), zR yX3_readClause cX3_readClause 5 (some .boolean) 8 105 [.null, .null, .null, .null, .null] [.int s16] (nX g) (SX g) μ17 (j s16 μ17)) ?_ (fun j18 hj18 => ?_)
            · intro s16 μ17
              exact z_zret (pc := 105) rfl dX3_readClause_105
            · refine z_let (fun (j : zMem → zRes) => ∀ (μ19 : zMem), zR yX3_readClause cX3_readClause 5 (some .boolean) 8 104 [.null, .null, .null, .null, .null] [] (nX g) (SX g) μ19 (j μ19)) ?_ (fun j20 hj20 => ?_)
              · intro μ19
                refine z_iconst (pc := 104) (0 : Int32) dX3_readClause_104 (by decide) ?_
                exact hj18 (0 : Int32) μ19
              · refine z_if_eq (pc := 90) (tgt := 104) dX3_readClause_90 (by decide) (fun c21 => ?_) (fun c22 => ?_)
                · refine z_loc (L' := [.null, .null, .null, .null, .null]) ⟨Or.inl rfl, ⟨Or.inl rfl, ⟨Or.inl rfl, ⟨Or.inl rfl, ⟨Or.inl rfl, trivial⟩⟩⟩⟩⟩ ?_
                  exact hj20 μ15
                · refine z_aload_n (pc := 93) dX3_readClause_93 rfl ?_
                  refine z_callV (As := []) (pc := 94) (ret' := some .boolean) kvX3_68 (t3_readSemicolon _) (by decide) (nx_lt (by decide)) (sx_22 g)  rfl rfl (Nat.le_of_ble_eq_true rfl) dX3_readClause_94 (fun v23 μ24 => ?_)
                  refine z_if_eq (pc := 97) (tgt := 104) dX3_readClause_97 (by decide) (fun c25 => ?_) (fun c26 => ?_)
                  · refine z_loc (L' := [.null, .null, .null, .null, .null]) ⟨Or.inl rfl, ⟨Or.inl rfl, ⟨Or.inl rfl, ⟨Or.inl rfl, ⟨Or.inl rfl, trivial⟩⟩⟩⟩⟩ ?_
                    exact hj20 μ24
                  · refine z_iconst (pc := 100) (1 : Int32) dX3_readClause_100 (by decide) ?_
                    refine z_goto (pc := 101) (tgt := 105) dX3_readClause_101 (by decide) ?_
                    refine z_loc (L' := [.null, .null, .null, .null, .null]) ⟨Or.inl rfl, ⟨Or.inl rfl, ⟨Or.inl rfl, ⟨Or.inl rfl, ⟨Or.inl rfl, trivial⟩⟩⟩⟩⟩ ?_
                    exact hj18 (1 : Int32) μ24
          · refine z_aload_n (pc := 78) dX3_readClause_78 rfl ?_
            refine z_iconst (pc := 79) (3 : Int32) dX3_readClause_79 (by decide) ?_
            refine z_iload_n (pc := 80) dX3_readClause_80 rfl ?_
            refine z_callV (As := [.int (3 : Int32), .int v1]) (pc := 81) (ret' := some .boolean) kvX3_58 (t3_wrong _ _ _) (by decide) (nx_lt (by decide)) (sx_22 g)  rfl rfl (Nat.le_of_ble_eq_true rfl) dX3_readClause_81 (fun v27 μ28 => ?_)
            exact z_zret (pc := 84) rfl dX3_readClause_84
        · refine z_let (fun (j : zRes) => zR yX3_readClause cX3_readClause 5 (some .boolean) 8 66 [.ref 22, .null, .int v1, .int v2, .null] [] (nX g) (SX g) μ3 (j)) ?_ (fun j30 hj30 => ?_)
          · refine z_iconst (pc := 66) (1 : Int32) dX3_readClause_66 (by decide) ?_
            refine z_goto (pc := 67) (tgt := 71) dX3_readClause_67 (by decide) ?_
            exact hj29 (1 : Int32)
          · refine z_icmp_ge (pc := 29) (tgt := 66) dX3_readClause_29 (by decide) (fun c31 => ?_) (fun c32 => ?_)
            · refine z_loc (L' := [.ref 22, .null, .int v1, .int v2, .null]) ⟨Or.inr rfl, ⟨Or.inl rfl, ⟨Or.inr rfl, ⟨Or.inr rfl, ⟨Or.inl rfl, trivial⟩⟩⟩⟩⟩ ?_
              exact hj30
            · refine z_iload_n (pc := 32) dX3_readClause_32 rfl ?_
              refine z_iconst (pc := 33) (2 : Int32) dX3_readClause_33 (by decide) ?_
              refine z_let (fun (j : zRes) => zR yX3_readClause cX3_readClause 5 (some .boolean) 8 49 [.ref 22, .null, .int v1, .int v2, .null] [] (nX g) (SX g) μ3 (j)) ?_ (fun j38 hj38 => ?_)
              · refine z_iload_n (pc := 49) dX3_readClause_49 rfl ?_
                refine z_iconst (pc := 50) (5 : Int32) dX3_readClause_50 (by decide) ?_
                refine z_let (fun (j : zRes) => zR yX3_readClause cX3_readClause 5 (some .boolean) 8 70 [.ref 22, .null, .int v1, .int v2, .null] [] (nX g) (SX g) μ3 (j)) ?_ (fun j33 hj33 => ?_)
                · refine z_iconst (pc := 70) (0 : Int32) dX3_readClause_70 (by decide) ?_
                  exact hj29 (0 : Int32)
                · refine z_icmp_ne (pc := 51) (tgt := 70) dX3_readClause_51 (by decide) (fun c34 => ?_) (fun c35 => ?_)
                  · exact hj33
                  · refine z_aload_n (pc := 54) dX3_readClause_54 rfl ?_
                    refine z_getr (pc := 55) fdX3_28 (nx_lt (by decide)) (sx_22 g) rfl rfl dX3_readClause_55 ?_
                    refine z_geti (pc := 58) fdX3_74 (nx_lt (by decide)) (sx_12 g) rfl dX3_readClause_58 ?_
                    refine z_bipush (pc := 61) (10 : Int32) dX3_readClause_61 (by decide) ?_
                    refine z_icmp_lt (pc := 63) (tgt := 70) dX3_readClause_63 (by decide) (fun c36 => ?_) (fun c37 => ?_)
                    · exact hj33
                    · exact hj30
              · refine z_icmp_ne (pc := 34) (tgt := 49) dX3_readClause_34 (by decide) (fun c39 => ?_) (fun c40 => ?_)
                · refine z_loc (L' := [.ref 22, .null, .int v1, .int v2, .null]) ⟨Or.inr rfl, ⟨Or.inl rfl, ⟨Or.inr rfl, ⟨Or.inr rfl, ⟨Or.inl rfl, trivial⟩⟩⟩⟩⟩ ?_
                  exact hj38
                · refine z_aload_n (pc := 37) dX3_readClause_37 rfl ?_
                  refine z_getr (pc := 38) fdX3_28 (nx_lt (by decide)) (sx_22 g) rfl rfl dX3_readClause_38 ?_
                  refine z_geti (pc := 41) fdX3_71 (nx_lt (by decide)) (sx_12 g) rfl dX3_readClause_41 ?_
                  refine z_bipush (pc := 44) (8 : Int32) dX3_readClause_44 (by decide) ?_
                  refine z_icmp_ge (pc := 46) (tgt := 66) dX3_readClause_46 (by decide) (fun c41 => ?_) (fun c42 => ?_)
                  · refine z_loc (L' := [.ref 22, .null, .int v1, .int v2, .null]) ⟨Or.inr rfl, ⟨Or.inl rfl, ⟨Or.inr rfl, ⟨Or.inr rfl, ⟨Or.inl rfl, trivial⟩⟩⟩⟩⟩ ?_
                    exact hj30
                  · refine z_loc (L' := [.ref 22, .null, .int v1, .int v2, .null]) ⟨Or.inr rfl, ⟨Or.inl rfl, ⟨Or.inr rfl, ⟨Or.inr rfl, ⟨Or.inl rfl, trivial⟩⟩⟩⟩⟩ ?_
                    exact hj38
      · refine z_loc (L' := [.ref 22, .null, .int v1, .null, .null]) ⟨Or.inr rfl, ⟨Or.inl rfl, ⟨Or.inr rfl, ⟨Or.inl rfl, ⟨Or.inl rfl, trivial⟩⟩⟩⟩⟩ ?_
        exact hj6
def f3_readTown_L42 (K87 : zMem → zRes) : Nat → Int32 → Int32 → zMem → zRes
  | 0, _, _, _ => none
  | n + 1, x2, x3, μ => if x2 = 0 then K87 μ else if (40 : Int32) < x3 then K87 μ else bnd0 (f3_skipBlanks μ) (fun (v15 : Int32) (μ16 : zMem) => zlet (fun (s17 : Int32) (μ18 : zMem) => f3_readTown_L42 K87 n s17 (x3 + (1 : Int32)) μ18) (fun j19 => zlet (fun (μ20 : zMem) => j19 (0 : Int32) μ20) (fun j21 => if (μ16 22 2) ≤ (μ16 22 3) then j21 μ16 else bnd0 (f3_readClause x3 μ16) (fun (v24 : Int32) (μ25 : zMem) => if v24 = 0 then j21 μ25 else j19 (1 : Int32) μ25))))
def f3_readTown (x1 : Int32) (μ : zMem) : zRes := zlet (zset μ 22 2 (zmin x1 (500 : Int32))) (fun (μ1 : zMem) => zlet (zset μ1 22 3 (0 : Int32)) (fun (μ2 : zMem) => zlet (zset μ2 22 4 (0 : Int32)) (fun (μ3 : zMem) => zlet (zset μ3 22 5 (-1 : Int32)) (fun (μ4 : zMem) => bnd0 (f7_startAnew μ4) (fun (v5 : Int32) (μ6 : zMem) => bnd0 (f3_readAsks μ6) (fun (v7 : Int32) (μ8 : zMem) => zlet (fun (μ9 : zMem) => some (0, μ9 22 4, μ9)) (fun j10 => f3_readTown_L42 (fun (μ28 : zMem) => j10 μ28) zF v7 (1 : Int32) μ8)))))))
set_option maxHeartbeats 1000000 in
theorem t3_readTown_L42 {g : Bool} (K87 : zMem → zRes) (hK87 : ∀ (μ : zMem), zR yX3_readTown cX3_readTown 4 (some .int) 9 87 [.ref 22, .null, .null, .null] [] (nX g) (SX g) μ (K87 μ)) : ∀ (n : Nat) (x2 : Int32) (x3 : Int32) (μ : zMem), zR yX3_readTown cX3_readTown 4 (some .int) 9 42 [.ref 22, .null, .int x2, .int x3] [] (nX g) (SX g) μ (f3_readTown_L42 K87 n x2 x3 μ) := by
  intro n
  induction n with
  | zero => intro x2 x3 μ; intro q hq; cases hq
  | succ n ih =>
    intro x2 x3 μ
    unfold f3_readTown_L42
    refine z_iload_n (pc := 42) dX3_readTown_42 rfl ?_
    refine z_if_eq (pc := 43) (tgt := 87) dX3_readTown_43 (by decide) (fun c11 => ?_) (fun c12 => ?_)
    · refine z_loc (L' := [.ref 22, .null, .null, .null]) ⟨Or.inr rfl, ⟨Or.inl rfl, ⟨Or.inl rfl, ⟨Or.inl rfl, trivial⟩⟩⟩⟩ ?_
      exact hK87 μ
    · refine z_iload_n (pc := 46) dX3_readTown_46 rfl ?_
      refine z_bipush (pc := 47) (40 : Int32) dX3_readTown_47 (by decide) ?_
      refine z_icmp_gt (pc := 49) (tgt := 87) dX3_readTown_49 (by decide) (fun c13 => ?_) (fun c14 => ?_)
      · refine z_loc (L' := [.ref 22, .null, .null, .null]) ⟨Or.inr rfl, ⟨Or.inl rfl, ⟨Or.inl rfl, ⟨Or.inl rfl, trivial⟩⟩⟩⟩ ?_
        exact hK87 μ
      · refine z_aload_n (pc := 52) dX3_readTown_52 rfl ?_
        refine z_callV (As := []) (pc := 53) (ret' := none) kvX3_47 (t3_skipBlanks _) (by decide) (nx_lt (by decide)) (sx_22 g)  rfl rfl (Nat.le_of_ble_eq_true rfl) dX3_readTown_53 (fun v15 μ16 => ?_)
        refine z_aload_n (pc := 56) dX3_readTown_56 rfl ?_
        refine z_geti (pc := 57) fdX3_15 (nx_lt (by decide)) (sx_22 g) rfl dX3_readTown_57 ?_
        refine z_aload_n (pc := 60) dX3_readTown_60 rfl ?_
        refine z_geti (pc := 61) fdX3_9 (nx_lt (by decide)) (sx_22 g) rfl dX3_readTown_61 ?_
        refine z_let (fun (j : Int32 → zMem → zRes) => ∀ (s17 : Int32) (μ18 : zMem), zR yX3_readTown cX3_readTown 4 (some .int) 9 80 [.ref 22, .null, .null, .int x3] [.int s17] (nX g) (SX g) μ18 (j s17 μ18)) ?_ (fun j19 hj19 => ?_)
        · intro s17 μ18
          refine z_istore_n (pc := 80) (L' := [.ref 22, .null, .int s17, .int x3]) dX3_readTown_80 (by decide) rfl ?_
          refine z_iinc (pc := 81) (v := x3 + (1 : Int32)) (L' := [.ref 22, .null, .int s17, .int (x3 + (1 : Int32))]) dX3_readTown_81 (by decide) rfl (congrArg _ (by decide)) rfl ?_
          refine z_goto (pc := 84) (tgt := 42) dX3_readTown_84 (by decide) ?_
          exact ih s17 (x3 + (1 : Int32)) μ18
        · refine z_let (fun (j : zMem → zRes) => ∀ (μ20 : zMem), zR yX3_readTown cX3_readTown 4 (some .int) 9 79 [.ref 22, .null, .null, .int x3] [] (nX g) (SX g) μ20 (j μ20)) ?_ (fun j21 hj21 => ?_)
          · intro μ20
            refine z_iconst (pc := 79) (0 : Int32) dX3_readTown_79 (by decide) ?_
            exact hj19 (0 : Int32) μ20
          · refine z_icmp_ge (pc := 64) (tgt := 79) dX3_readTown_64 (by decide) (fun c22 => ?_) (fun c23 => ?_)
            · refine z_loc (L' := [.ref 22, .null, .null, .int x3]) ⟨Or.inr rfl, ⟨Or.inl rfl, ⟨Or.inl rfl, ⟨Or.inr rfl, trivial⟩⟩⟩⟩ ?_
              exact hj21 μ16
            · refine z_aload_n (pc := 67) dX3_readTown_67 rfl ?_
              refine z_iload_n (pc := 68) dX3_readTown_68 rfl ?_
              refine z_callV (As := [.int x3]) (pc := 69) (ret' := some .boolean) kvX3_50 (t3_readClause _ _) (by decide) (nx_lt (by decide)) (sx_22 g)  rfl rfl (Nat.le_of_ble_eq_true rfl) dX3_readTown_69 (fun v24 μ25 => ?_)
              refine z_if_eq (pc := 72) (tgt := 79) dX3_readTown_72 (by decide) (fun c26 => ?_) (fun c27 => ?_)
              · refine z_loc (L' := [.ref 22, .null, .null, .int x3]) ⟨Or.inr rfl, ⟨Or.inl rfl, ⟨Or.inl rfl, ⟨Or.inr rfl, trivial⟩⟩⟩⟩ ?_
                exact hj21 μ25
              · refine z_iconst (pc := 75) (1 : Int32) dX3_readTown_75 (by decide) ?_
                refine z_goto (pc := 76) (tgt := 80) dX3_readTown_76 (by decide) ?_
                refine z_loc (L' := [.ref 22, .null, .null, .int x3]) ⟨Or.inr rfl, ⟨Or.inl rfl, ⟨Or.inl rfl, ⟨Or.inr rfl, trivial⟩⟩⟩⟩ ?_
                exact hj19 (1 : Int32) μ25
set_option maxHeartbeats 1000000 in
theorem t3_readTown {g : Bool} (x1 : Int32) (μ : zMem) : zMR yX3_readTown cX3_readTown 4 (some .int) 9 [.ref 22, .int x1] (nX g) (SX g) μ (f3_readTown x1 μ) := by
  refine zMR_of (by decide +kernel) rfl (Nat.le_of_ble_eq_true rfl) (L := [.ref 22, .int x1, .null, .null]) rfl ?_
  unfold f3_readTown
  refine z_aload_n (pc := 0) dX3_readTown_0 rfl ?_
  refine z_iload_n (pc := 1) dX3_readTown_1 rfl ?_
  refine z_aload_n (pc := 2) dX3_readTown_2 rfl ?_
  refine z_getr (pc := 3) fdX3_24 (nx_lt (by decide)) (sx_22 g) rfl rfl dX3_readTown_3 ?_
  refine z_alen (pc := 6) (nx_lt (by decide)) (sx_1 g) rfl (v := (500 : Int32)) (by decide) dX3_readTown_6 ?_
  refine z_mmin (pc := 7) kmX3_32 (by decide) (Nat.le_of_ble_eq_true rfl) dX3_readTown_7 ?_
  refine z_puti (pc := 10) fdX3_9 (nx_lt (by decide)) (sx_22 g) rfl rfl dX3_readTown_10 ?_
  refine z_mem (fun μ1 => ?_)
  refine z_aload_n (pc := 13) dX3_readTown_13 rfl ?_
  refine z_iconst (pc := 14) (0 : Int32) dX3_readTown_14 (by decide) ?_
  refine z_puti (pc := 15) fdX3_15 (nx_lt (by decide)) (sx_22 g) rfl rfl dX3_readTown_15 ?_
  refine z_mem (fun μ2 => ?_)
  refine z_aload_n (pc := 18) dX3_readTown_18 rfl ?_
  refine z_iconst (pc := 19) (0 : Int32) dX3_readTown_19 (by decide) ?_
  refine z_puti (pc := 20) fdX3_18 (nx_lt (by decide)) (sx_22 g) rfl rfl dX3_readTown_20 ?_
  refine z_mem (fun μ3 => ?_)
  refine z_aload_n (pc := 23) dX3_readTown_23 rfl ?_
  refine z_iconst (pc := 24) (-1 : Int32) dX3_readTown_24 (by decide) ?_
  refine z_puti (pc := 25) fdX3_21 (nx_lt (by decide)) (sx_22 g) rfl rfl dX3_readTown_25 ?_
  refine z_mem (fun μ4 => ?_)
  refine z_aload_n (pc := 28) dX3_readTown_28 rfl ?_
  refine z_getr (pc := 29) fdX3_28 (nx_lt (by decide)) (sx_22 g) rfl rfl dX3_readTown_29 ?_
  refine z_callV (As := []) (pc := 32) (ret' := none) kvX3_38 (t7_startAnew _) (by decide) (nx_lt (by decide)) (sx_12 g)  rfl rfl (Nat.le_of_ble_eq_true rfl) dX3_readTown_32 (fun v5 μ6 => ?_)
  refine z_aload_n (pc := 35) dX3_readTown_35 rfl ?_
  refine z_callV (As := []) (pc := 36) (ret' := some .boolean) kvX3_43 (t3_readAsks _) (by decide) (nx_lt (by decide)) (sx_22 g)  rfl rfl (Nat.le_of_ble_eq_true rfl) dX3_readTown_36 (fun v7 μ8 => ?_)
  refine z_istore_n (pc := 39) (L' := [.ref 22, .int x1, .int v7, .null]) dX3_readTown_39 (by decide) rfl ?_
  refine z_iconst (pc := 40) (1 : Int32) dX3_readTown_40 (by decide) ?_
  refine z_istore_n (pc := 41) (L' := [.ref 22, .int x1, .int v7, .int (1 : Int32)]) dX3_readTown_41 (by decide) rfl ?_
  refine z_let (fun (j : zMem → zRes) => ∀ (μ9 : zMem), zR yX3_readTown cX3_readTown 4 (some .int) 9 87 [.ref 22, .null, .null, .null] [] (nX g) (SX g) μ9 (j μ9)) ?_ (fun j10 hj10 => ?_)
  · intro μ9
    refine z_aload_n (pc := 87) dX3_readTown_87 rfl ?_
    refine z_geti (pc := 88) fdX3_18 (nx_lt (by decide)) (sx_22 g) rfl dX3_readTown_88 ?_
    exact z_iret (pc := 91) rfl dX3_readTown_91
  · refine z_loc (L' := [.ref 22, .null, .int v7, .int (1 : Int32)]) ⟨Or.inr rfl, ⟨Or.inl rfl, ⟨Or.inr rfl, ⟨Or.inr rfl, trivial⟩⟩⟩⟩ ?_
    refine t3_readTown_L42 _ (fun μ28 => ?_) zF _ _ _
    · exact hj10 μ28
