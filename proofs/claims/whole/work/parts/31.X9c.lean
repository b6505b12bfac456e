theorem dX9_ones_0 : decode cX9_ones 0 = .ok (.iconst 0, 1) := by decide +kernel
theorem dX9_ones_1 : decode cX9_ones 1 = .ok (.istore_n 1, 1) := by decide +kernel
theorem dX9_ones_2 : decode cX9_ones 2 = .ok (.iconst 0, 1) := by decide +kernel
theorem dX9_ones_3 : decode cX9_ones 3 = .ok (.istore_n 2, 1) := by decide +kernel
theorem dX9_ones_4 : decode cX9_ones 4 = .ok (.iload_n 2, 1) := by decide +kernel
theorem dX9_ones_5 : decode cX9_ones 5 = .ok (.bipush 12, 2) := by decide +kernel
theorem dX9_ones_7 : decode cX9_ones 7 = .ok (.if_icmp .ge 17, 3) := by decide +kernel
theorem dX9_ones_10 : decode cX9_ones 10 = .ok (.iload_n 1, 1) := by decide +kernel
theorem dX9_ones_11 : decode cX9_ones 11 = .ok (.iload_n 0, 1) := by decide +kernel
theorem dX9_ones_12 : decode cX9_ones 12 = .ok (.iload_n 2, 1) := by decide +kernel
theorem dX9_ones_13 : decode cX9_ones 13 = .ok (.ishr, 1) := by decide +kernel
theorem dX9_ones_14 : decode cX9_ones 14 = .ok (.iconst 1, 1) := by decide +kernel
theorem dX9_ones_15 : decode cX9_ones 15 = .ok (.iand, 1) := by decide +kernel
theorem dX9_ones_16 : decode cX9_ones 16 = .ok (.iadd, 1) := by decide +kernel
theorem dX9_ones_17 : decode cX9_ones 17 = .ok (.istore_n 1, 1) := by decide +kernel
theorem dX9_ones_18 : decode cX9_ones 18 = .ok (.iinc 2 1, 3) := by decide +kernel
theorem dX9_ones_21 : decode cX9_ones 21 = .ok (.goto (-17), 3) := by decide +kernel
theorem dX9_ones_24 : decode cX9_ones 24 = .ok (.iload_n 1, 1) := by decide +kernel
theorem dX9_ones_25 : decode cX9_ones 25 = .ok (.ireturn, 1) := by decide +kernel
theorem dX9_need_0 : decode cX9_need 0 = .ok (.aload_n 0, 1) := by decide +kernel
theorem dX9_need_1 : decode cX9_need 1 = .ok (.iconst 0, 1) := by decide +kernel
theorem dX9_need_2 : decode cX9_need 2 = .ok (.putfield 106, 3) := by decide +kernel
theorem dX9_need_5 : decode cX9_need 5 = .ok (.aload_n 0, 1) := by decide +kernel
theorem dX9_need_6 : decode cX9_need 6 = .ok (.iload_n 1, 1) := by decide +kernel
theorem dX9_need_7 : decode cX9_need 7 = .ok (.invokevirtual 278, 3) := by decide +kernel
theorem dX9_need_10 : decode cX9_need 10 = .ok (.ifCond .ne 25, 3) := by decide +kernel
theorem dX9_need_13 : decode cX9_need 13 = .ok (.aload_n 0, 1) := by decide +kernel
theorem dX9_need_14 : decode cX9_need 14 = .ok (.iload_n 2, 1) := by decide +kernel
theorem dX9_need_15 : decode cX9_need 15 = .ok (.iconst 0, 1) := by decide +kernel
theorem dX9_need_16 : decode cX9_need 16 = .ok (.iconst 1, 1) := by decide +kernel
theorem dX9_need_17 : decode cX9_need 17 = .ok (.invokestatic 140, 3) := by decide +kernel
theorem dX9_need_20 : decode cX9_need 20 = .ok (.ifCond .ne 7, 3) := by decide +kernel
theorem dX9_need_23 : decode cX9_need 23 = .ok (.iconst 1, 1) := by decide +kernel
theorem dX9_need_24 : decode cX9_need 24 = .ok (.goto 4, 3) := by decide +kernel
theorem dX9_need_27 : decode cX9_need 27 = .ok (.iconst 0, 1) := by decide +kernel
theorem dX9_need_28 : decode cX9_need 28 = .ok (.iconst 1, 1) := by decide +kernel
theorem dX9_need_29 : decode cX9_need 29 = .ok (.invokevirtual 188, 3) := by decide +kernel
theorem dX9_need_32 : decode cX9_need 32 = .ok (.ifCond .eq 5, 3) := by decide +kernel
theorem dX9_need_35 : decode cX9_need 35 = .ok (.iconst 0, 1) := by decide +kernel
theorem dX9_need_36 : decode cX9_need 36 = .ok (.ireturn, 1) := by decide +kernel
theorem dX9_need_37 : decode cX9_need 37 = .ok (.aload_n 0, 1) := by decide +kernel
theorem dX9_need_38 : decode cX9_need 38 = .ok (.aload_n 0, 1) := by decide +kernel
theorem dX9_need_39 : decode cX9_need 39 = .ok (.getfield 23, 3) := by decide +kernel
theorem dX9_need_42 : decode cX9_need 42 = .ok (.iconst 1, 1) := by decide +kernel
theorem dX9_need_43 : decode cX9_need 43 = .ok (.iaload, 1) := by decide +kernel
theorem dX9_need_44 : decode cX9_need 44 = .ok (.iload_n 1, 1) := by decide +kernel
theorem dX9_need_45 : decode cX9_need 45 = .ok (.invokevirtual 281, 3) := by decide +kernel
theorem dX9_need_48 : decode cX9_need 48 = .ok (.iconst (-1), 1) := by decide +kernel
theorem dX9_need_49 : decode cX9_need 49 = .ok (.istore_n 3, 1) := by decide +kernel
theorem dX9_need_50 : decode cX9_need 50 = .ok (.iconst 0, 1) := by decide +kernel
theorem dX9_need_51 : decode cX9_need 51 = .ok (.istore 4, 2) := by decide +kernel
theorem dX9_need_53 : decode cX9_need 53 = .ok (.iload 4, 2) := by decide +kernel
theorem dX9_need_55 : decode cX9_need 55 = .ok (.iconst 1, 1) := by decide +kernel
theorem dX9_need_56 : decode cX9_need 56 = .ok (.aload_n 0, 1) := by decide +kernel
theorem dX9_need_57 : decode cX9_need 57 = .ok (.getfield 23, 3) := by decide +kernel
theorem dX9_need_60 : decode cX9_need 60 = .ok (.iconst 2, 1) := by decide +kernel
theorem dX9_need_61 : decode cX9_need 61 = .ok (.iaload, 1) := by decide +kernel
theorem dX9_need_62 : decode cX9_need 62 = .ok (.ishl, 1) := by decide +kernel
theorem dX9_need_63 : decode cX9_need 63 = .ok (.if_icmp .ge 98, 3) := by decide +kernel
theorem dX9_need_66 : decode cX9_need 66 = .ok (.aload_n 0, 1) := by decide +kernel
theorem dX9_need_67 : decode cX9_need 67 = .ok (.iload 4, 2) := by decide +kernel
theorem dX9_need_69 : decode cX9_need 69 = .ok (.invokevirtual 272, 3) := by decide +kernel
theorem dX9_need_72 : decode cX9_need 72 = .ok (.aload_n 0, 1) := by decide +kernel
theorem dX9_need_73 : decode cX9_need 73 = .ok (.getfield 263, 3) := by decide +kernel
theorem dX9_need_76 : decode cX9_need 76 = .ok (.if_icmp .eq 6, 3) := by decide +kernel
theorem dX9_need_79 : decode cX9_need 79 = .ok (.goto 76, 3) := by decide +kernel
theorem dX9_need_82 : decode cX9_need 82 = .ok (.iconst 0, 1) := by decide +kernel
theorem dX9_need_83 : decode cX9_need 83 = .ok (.istore 5, 2) := by decide +kernel
theorem dX9_need_85 : decode cX9_need 85 = .ok (.iload 5, 2) := by decide +kernel
theorem dX9_need_87 : decode cX9_need 87 = .ok (.iconst 1, 1) := by decide +kernel
theorem dX9_need_88 : decode cX9_need 88 = .ok (.aload_n 0, 1) := by decide +kernel
theorem dX9_need_89 : decode cX9_need 89 = .ok (.getfield 23, 3) := by decide +kernel
theorem dX9_need_92 : decode cX9_need 92 = .ok (.iconst 1, 1) := by decide +kernel
theorem dX9_need_93 : decode cX9_need 93 = .ok (.iaload, 1) := by decide +kernel
theorem dX9_need_94 : decode cX9_need 94 = .ok (.ishl, 1) := by decide +kernel
theorem dX9_need_95 : decode cX9_need 95 = .ok (.if_icmp .ge 60, 3) := by decide +kernel
theorem dX9_need_98 : decode cX9_need 98 = .ok (.aload_n 0, 1) := by decide +kernel
theorem dX9_need_99 : decode cX9_need 99 = .ok (.getfield 75, 3) := by decide +kernel
theorem dX9_need_102 : decode cX9_need 102 = .ok (.iload 4, 2) := by decide +kernel
theorem dX9_need_104 : decode cX9_need 104 = .ok (.aaload, 1) := by decide +kernel
theorem dX9_need_105 : decode cX9_need 105 = .ok (.iload 5, 2) := by decide +kernel
theorem dX9_need_107 : decode cX9_need 107 = .ok (.baload, 1) := by decide +kernel
theorem dX9_need_108 : decode cX9_need 108 = .ok (.ifCond .eq 41, 3) := by decide +kernel
theorem dX9_need_111 : decode cX9_need 111 = .ok (.iload_n 3, 1) := by decide +kernel
theorem dX9_need_112 : decode cX9_need 112 = .ok (.iconst (-1), 1) := by decide +kernel
theorem dX9_need_113 : decode cX9_need 113 = .ok (.if_icmp .eq 33, 3) := by decide +kernel
theorem dX9_need_116 : decode cX9_need 116 = .ok (.iload 5, 2) := by decide +kernel
theorem dX9_need_118 : decode cX9_need 118 = .ok (.invokestatic 290, 3) := by decide +kernel
theorem dX9_need_121 : decode cX9_need 121 = .ok (.iload_n 3, 1) := by decide +kernel
theorem dX9_need_122 : decode cX9_need 122 = .ok (.invokestatic 290, 3) := by decide +kernel
theorem dX9_need_125 : decode cX9_need 125 = .ok (.if_icmp .lt 21, 3) := by decide +kernel
theorem dX9_need_128 : decode cX9_need 128 = .ok (.iload 5, 2) := by decide +kernel
theorem dX9_need_130 : decode cX9_need 130 = .ok (.invokestatic 290, 3) := by decide +kernel
theorem dX9_need_133 : decode cX9_need 133 = .ok (.iload_n 3, 1) := by decide +kernel
theorem dX9_need_134 : decode cX9_need 134 = .ok (.invokestatic 290, 3) := by decide +kernel
theorem dX9_need_137 : decode cX9_need 137 = .ok (.if_icmp .ne 12, 3) := by decide +kernel
theorem dX9_need_140 : decode cX9_need 140 = .ok (.iload 5, 2) := by decide +kernel
theorem dX9_need_142 : decode cX9_need 142 = .ok (.iload_n 3, 1) := by decide +kernel
theorem dX9_need_143 : decode cX9_need 143 = .ok (.if_icmp .ge 6, 3) := by decide +kernel
theorem dX9_need_146 : decode cX9_need 146 = .ok (.iload 5, 2) := by decide +kernel
theorem dX9_need_148 : decode cX9_need 148 = .ok (.istore_n 3, 1) := by decide +kernel
theorem dX9_need_149 : decode cX9_need 149 = .ok (.iinc 5 1, 3) := by decide +kernel
theorem dX9_need_152 : decode cX9_need 152 = .ok (.goto (-67), 3) := by decide +kernel
theorem dX9_need_155 : decode cX9_need 155 = .ok (.iinc 4 1, 3) := by decide +kernel
theorem dX9_need_158 : decode cX9_need 158 = .ok (.goto (-105), 3) := by decide +kernel
theorem dX9_need_161 : decode cX9_need 161 = .ok (.iload_n 2, 1) := by decide +kernel
theorem dX9_need_162 : decode cX9_need 162 = .ok (.ifCond .ne 10, 3) := by decide +kernel
theorem dX9_need_165 : decode cX9_need 165 = .ok (.iload_n 3, 1) := by decide +kernel
theorem dX9_need_166 : decode cX9_need 166 = .ok (.invokestatic 290, 3) := by decide +kernel
theorem dX9_need_169 : decode cX9_need 169 = .ok (.goto 4, 3) := by decide +kernel
theorem dX9_need_172 : decode cX9_need 172 = .ok (.iload_n 3, 1) := by decide +kernel
theorem dX9_need_173 : decode cX9_need 173 = .ok (.ireturn, 1) := by decide +kernel
theorem dX9_choose_0 : decode cX9_choose 0 = .ok (.aload_n 0, 1) := by decide +kernel
theorem dX9_choose_1 : decode cX9_choose 1 = .ok (.iconst 0, 1) := by decide +kernel
theorem dX9_choose_2 : decode cX9_choose 2 = .ok (.putfield 106, 3) := by decide +kernel
theorem dX9_choose_5 : decode cX9_choose 5 = .ok (.iconst (-1), 1) := by decide +kernel
theorem dX9_choose_6 : decode cX9_choose 6 = .ok (.istore_n 1, 1) := by decide +kernel
theorem dX9_choose_7 : decode cX9_choose 7 = .ok (.iconst 0, 1) := by decide +kernel
theorem dX9_choose_8 : decode cX9_choose 8 = .ok (.istore_n 2, 1) := by decide +kernel
theorem dX9_choose_9 : decode cX9_choose 9 = .ok (.iconst 0, 1) := by decide +kernel
theorem dX9_choose_10 : decode cX9_choose 10 = .ok (.istore_n 3, 1) := by decide +kernel
theorem dX9_choose_11 : decode cX9_choose 11 = .ok (.iload_n 3, 1) := by decide +kernel
theorem dX9_choose_12 : decode cX9_choose 12 = .ok (.aload_n 0, 1) := by decide +kernel
theorem dX9_choose_13 : decode cX9_choose 13 = .ok (.getfield 23, 3) := by decide +kernel
theorem dX9_choose_16 : decode cX9_choose 16 = .ok (.iconst 0, 1) := by decide +kernel
theorem dX9_choose_17 : decode cX9_choose 17 = .ok (.iaload, 1) := by decide +kernel
theorem dX9_choose_18 : decode cX9_choose 18 = .ok (.if_icmp .ge 43, 3) := by decide +kernel
theorem dX9_choose_21 : decode cX9_choose 21 = .ok (.aload_n 0, 1) := by decide +kernel
theorem dX9_choose_22 : decode cX9_choose 22 = .ok (.aload_n 0, 1) := by decide +kernel
theorem dX9_choose_23 : decode cX9_choose 23 = .ok (.getfield 23, 3) := by decide +kernel
theorem dX9_choose_26 : decode cX9_choose 26 = .ok (.iconst 1, 1) := by decide +kernel
theorem dX9_choose_27 : decode cX9_choose 27 = .ok (.iaload, 1) := by decide +kernel
theorem dX9_choose_28 : decode cX9_choose 28 = .ok (.iload_n 3, 1) := by decide +kernel
theorem dX9_choose_29 : decode cX9_choose 29 = .ok (.invokevirtual 281, 3) := by decide +kernel
theorem dX9_choose_32 : decode cX9_choose 32 = .ok (.iload_n 1, 1) := by decide +kernel
theorem dX9_choose_33 : decode cX9_choose 33 = .ok (.iconst (-1), 1) := by decide +kernel
theorem dX9_choose_34 : decode cX9_choose 34 = .ok (.if_icmp .eq 14, 3) := by decide +kernel
theorem dX9_choose_37 : decode cX9_choose 37 = .ok (.aload_n 0, 1) := by decide +kernel
theorem dX9_choose_38 : decode cX9_choose 38 = .ok (.getfield 263, 3) := by decide +kernel
theorem dX9_choose_41 : decode cX9_choose 41 = .ok (.iload_n 2, 1) := by decide +kernel
theorem dX9_choose_42 : decode cX9_choose 42 = .ok (.if_icmp .gt 6, 3) := by decide +kernel
theorem dX9_choose_45 : decode cX9_choose 45 = .ok (.goto 10, 3) := by decide +kernel
theorem dX9_choose_48 : decode cX9_choose 48 = .ok (.iload_n 3, 1) := by decide +kernel
theorem dX9_choose_49 : decode cX9_choose 49 = .ok (.istore_n 1, 1) := by decide +kernel
theorem dX9_choose_50 : decode cX9_choose 50 = .ok (.aload_n 0, 1) := by decide +kernel
theorem dX9_choose_51 : decode cX9_choose 51 = .ok (.getfield 263, 3) := by decide +kernel
theorem dX9_choose_54 : decode cX9_choose 54 = .ok (.istore_n 2, 1) := by decide +kernel
theorem dX9_choose_55 : decode cX9_choose 55 = .ok (.iinc 3 1, 3) := by decide +kernel
theorem dX9_choose_58 : decode cX9_choose 58 = .ok (.goto (-47), 3) := by decide +kernel
theorem dX9_choose_61 : decode cX9_choose 61 = .ok (.iload_n 1, 1) := by decide +kernel
theorem dX9_choose_62 : decode cX9_choose 62 = .ok (.ireturn, 1) := by decide +kernel
theorem dX9_stranger_0 : decode cX9_stranger 0 = .ok (.aload_n 0, 1) := by decide +kernel
theorem dX9_stranger_1 : decode cX9_stranger 1 = .ok (.iconst 0, 1) := by decide +kernel
theorem dX9_stranger_2 : decode cX9_stranger 2 = .ok (.putfield 106, 3) := by decide +kernel
theorem dX9_stranger_5 : decode cX9_stranger 5 = .ok (.iload_n 2, 1) := by decide +kernel
theorem dX9_stranger_6 : decode cX9_stranger 6 = .ok (.ifCond .lt 16, 3) := by decide +kernel
theorem dX9_stranger_9 : decode cX9_stranger 9 = .ok (.aload_n 0, 1) := by decide +kernel
theorem dX9_stranger_10 : decode cX9_stranger 10 = .ok (.getfield 23, 3) := by decide +kernel
theorem dX9_stranger_13 : decode cX9_stranger 13 = .ok (.iconst 0, 1) := by decide +kernel
theorem dX9_stranger_14 : decode cX9_stranger 14 = .ok (.iaload, 1) := by decide +kernel
theorem dX9_stranger_15 : decode cX9_stranger 15 = .ok (.ifCond .le 7, 3) := by decide +kernel
theorem dX9_stranger_18 : decode cX9_stranger 18 = .ok (.iconst 1, 1) := by decide +kernel
theorem dX9_stranger_19 : decode cX9_stranger 19 = .ok (.goto 4, 3) := by decide +kernel
theorem dX9_stranger_22 : decode cX9_stranger 22 = .ok (.iconst 0, 1) := by decide +kernel
theorem dX9_stranger_23 : decode cX9_stranger 23 = .ok (.istore 4, 2) := by decide +kernel
theorem dX9_stranger_25 : decode cX9_stranger 25 = .ok (.iload_n 2, 1) := by decide +kernel
theorem dX9_stranger_26 : decode cX9_stranger 26 = .ok (.istore 5, 2) := by decide +kernel
theorem dX9_stranger_28 : decode cX9_stranger 28 = .ok (.iconst 0, 1) := by decide +kernel
theorem dX9_stranger_29 : decode cX9_stranger 29 = .ok (.istore 6, 2) := by decide +kernel
theorem dX9_stranger_31 : decode cX9_stranger 31 = .ok (.iload 6, 2) := by decide +kernel
theorem dX9_stranger_33 : decode cX9_stranger 33 = .ok (.aload_n 0, 1) := by decide +kernel
theorem dX9_stranger_34 : decode cX9_stranger 34 = .ok (.getfield 23, 3) := by decide +kernel
theorem dX9_stranger_37 : decode cX9_stranger 37 = .ok (.iconst 0, 1) := by decide +kernel
theorem dX9_stranger_38 : decode cX9_stranger 38 = .ok (.iaload, 1) := by decide +kernel
theorem dX9_stranger_39 : decode cX9_stranger 39 = .ok (.if_icmp .ge 38, 3) := by decide +kernel
theorem dX9_stranger_42 : decode cX9_stranger 42 = .ok (.iload 4, 2) := by decide +kernel
theorem dX9_stranger_44 : decode cX9_stranger 44 = .ok (.ifCond .eq 17, 3) := by decide +kernel
theorem dX9_stranger_47 : decode cX9_stranger 47 = .ok (.iload 5, 2) := by decide +kernel
theorem dX9_stranger_49 : decode cX9_stranger 49 = .ok (.bipush 10, 2) := by decide +kernel
theorem dX9_stranger_51 : decode cX9_stranger 51 = .ok (.irem, 1) := by decide +kernel
theorem dX9_stranger_52 : decode cX9_stranger 52 = .ok (.bipush 9, 2) := by decide +kernel
theorem dX9_stranger_54 : decode cX9_stranger 54 = .ok (.if_icmp .ge 7, 3) := by decide +kernel
theorem dX9_stranger_57 : decode cX9_stranger 57 = .ok (.iconst 1, 1) := by decide +kernel
theorem dX9_stranger_58 : decode cX9_stranger 58 = .ok (.goto 4, 3) := by decide +kernel
theorem dX9_stranger_61 : decode cX9_stranger 61 = .ok (.iconst 0, 1) := by decide +kernel
theorem dX9_stranger_62 : decode cX9_stranger 62 = .ok (.istore 4, 2) := by decide +kernel
theorem dX9_stranger_64 : decode cX9_stranger 64 = .ok (.iload 5, 2) := by decide +kernel
theorem dX9_stranger_66 : decode cX9_stranger 66 = .ok (.bipush 10, 2) := by decide +kernel
theorem dX9_stranger_68 : decode cX9_stranger 68 = .ok (.idiv, 1) := by decide +kernel
theorem dX9_stranger_69 : decode cX9_stranger 69 = .ok (.istore 5, 2) := by decide +kernel
theorem dX9_stranger_71 : decode cX9_stranger 71 = .ok (.iinc 6 1, 3) := by decide +kernel
theorem dX9_stranger_74 : decode cX9_stranger 74 = .ok (.goto (-43), 3) := by decide +kernel
theorem dX9_stranger_77 : decode cX9_stranger 77 = .ok (.aload_n 0, 1) := by decide +kernel
theorem dX9_stranger_78 : decode cX9_stranger 78 = .ok (.iload_n 1, 1) := by decide +kernel
theorem dX9_stranger_79 : decode cX9_stranger 79 = .ok (.invokevirtual 278, 3) := by decide +kernel
theorem dX9_stranger_82 : decode cX9_stranger 82 = .ok (.ifCond .ne 35, 3) := by decide +kernel
theorem dX9_stranger_85 : decode cX9_stranger 85 = .ok (.aload_n 0, 1) := by decide +kernel
theorem dX9_stranger_86 : decode cX9_stranger 86 = .ok (.iload 4, 2) := by decide +kernel
theorem dX9_stranger_88 : decode cX9_stranger 88 = .ok (.ifCond .eq 17, 3) := by decide +kernel
theorem dX9_stranger_91 : decode cX9_stranger 91 = .ok (.iload 5, 2) := by decide +kernel
theorem dX9_stranger_93 : decode cX9_stranger 93 = .ok (.ifCond .gt 12, 3) := by decide +kernel
theorem dX9_stranger_96 : decode cX9_stranger 96 = .ok (.iload_n 3, 1) := by decide +kernel
theorem dX9_stranger_97 : decode cX9_stranger 97 = .ok (.iconst 0, 1) := by decide +kernel
theorem dX9_stranger_98 : decode cX9_stranger 98 = .ok (.iconst 4, 1) := by decide +kernel
theorem dX9_stranger_99 : decode cX9_stranger 99 = .ok (.invokestatic 140, 3) := by decide +kernel
theorem dX9_stranger_102 : decode cX9_stranger 102 = .ok (.ifCond .ne 7, 3) := by decide +kernel
theorem dX9_stranger_105 : decode cX9_stranger 105 = .ok (.iconst 1, 1) := by decide +kernel
theorem dX9_stranger_106 : decode cX9_stranger 106 = .ok (.goto 4, 3) := by decide +kernel
theorem dX9_stranger_109 : decode cX9_stranger 109 = .ok (.iconst 0, 1) := by decide +kernel
theorem dX9_stranger_110 : decode cX9_stranger 110 = .ok (.iconst 1, 1) := by decide +kernel
theorem dX9_stranger_111 : decode cX9_stranger 111 = .ok (.invokevirtual 188, 3) := by decide +kernel
theorem dX9_stranger_114 : decode cX9_stranger 114 = .ok (.ifCond .eq 5, 3) := by decide +kernel
theorem dX9_stranger_117 : decode cX9_stranger 117 = .ok (.iconst 0, 1) := by decide +kernel
theorem dX9_stranger_118 : decode cX9_stranger 118 = .ok (.ireturn, 1) := by decide +kernel
theorem dX9_stranger_119 : decode cX9_stranger 119 = .ok (.aload_n 0, 1) := by decide +kernel
theorem dX9_stranger_120 : decode cX9_stranger 120 = .ok (.aload_n 0, 1) := by decide +kernel
theorem dX9_stranger_121 : decode cX9_stranger 121 = .ok (.getfield 23, 3) := by decide +kernel
theorem dX9_stranger_124 : decode cX9_stranger 124 = .ok (.iconst 1, 1) := by decide +kernel
theorem dX9_stranger_125 : decode cX9_stranger 125 = .ok (.iaload, 1) := by decide +kernel
theorem dX9_stranger_126 : decode cX9_stranger 126 = .ok (.iload_n 1, 1) := by decide +kernel
theorem dX9_stranger_127 : decode cX9_stranger 127 = .ok (.invokevirtual 281, 3) := by decide +kernel
theorem dX9_stranger_130 : decode cX9_stranger 130 = .ok (.aload_n 0, 1) := by decide +kernel
theorem dX9_stranger_131 : decode cX9_stranger 131 = .ok (.getfield 263, 3) := by decide +kernel
theorem dX9_stranger_134 : decode cX9_stranger 134 = .ok (.istore 6, 2) := by decide +kernel
theorem dX9_stranger_136 : decode cX9_stranger 136 = .ok (.aload_n 0, 1) := by decide +kernel
theorem dX9_stranger_137 : decode cX9_stranger 137 = .ok (.getfield 23, 3) := by decide +kernel
theorem dX9_stranger_140 : decode cX9_stranger 140 = .ok (.iconst 1, 1) := by decide +kernel
theorem dX9_stranger_141 : decode cX9_stranger 141 = .ok (.iaload, 1) := by decide +kernel
theorem dX9_stranger_142 : decode cX9_stranger 142 = .ok (.istore 7, 2) := by decide +kernel
theorem dX9_stranger_144 : decode cX9_stranger 144 = .ok (.iload_n 2, 1) := by decide +kernel
theorem dX9_stranger_145 : decode cX9_stranger 145 = .ok (.istore 5, 2) := by decide +kernel
theorem dX9_stranger_147 : decode cX9_stranger 147 = .ok (.iconst 0, 1) := by decide +kernel
theorem dX9_stranger_148 : decode cX9_stranger 148 = .ok (.istore 8, 2) := by decide +kernel
theorem dX9_stranger_150 : decode cX9_stranger 150 = .ok (.iload 8, 2) := by decide +kernel
theorem dX9_stranger_152 : decode cX9_stranger 152 = .ok (.aload_n 0, 1) := by decide +kernel
theorem dX9_stranger_153 : decode cX9_stranger 153 = .ok (.getfield 23, 3) := by decide +kernel
theorem dX9_stranger_156 : decode cX9_stranger 156 = .ok (.iconst 0, 1) := by decide +kernel
theorem dX9_stranger_157 : decode cX9_stranger 157 = .ok (.iaload, 1) := by decide +kernel
theorem dX9_stranger_158 : decode cX9_stranger 158 = .ok (.if_icmp .ge 31, 3) := by decide +kernel
theorem dX9_stranger_161 : decode cX9_stranger 161 = .ok (.aload_n 0, 1) := by decide +kernel
theorem dX9_stranger_162 : decode cX9_stranger 162 = .ok (.getfield 52, 3) := by decide +kernel
theorem dX9_stranger_165 : decode cX9_stranger 165 = .ok (.iload 7, 2) := by decide +kernel
theorem dX9_stranger_167 : decode cX9_stranger 167 = .ok (.aaload, 1) := by decide +kernel
theorem dX9_stranger_168 : decode cX9_stranger 168 = .ok (.iload 8, 2) := by decide +kernel
theorem dX9_stranger_170 : decode cX9_stranger 170 = .ok (.iload 5, 2) := by decide +kernel
theorem dX9_stranger_172 : decode cX9_stranger 172 = .ok (.bipush 10, 2) := by decide +kernel
theorem dX9_stranger_174 : decode cX9_stranger 174 = .ok (.irem, 1) := by decide +kernel
theorem dX9_stranger_175 : decode cX9_stranger 175 = .ok (.iastore, 1) := by decide +kernel
theorem dX9_stranger_176 : decode cX9_stranger 176 = .ok (.iload 5, 2) := by decide +kernel
theorem dX9_stranger_178 : decode cX9_stranger 178 = .ok (.bipush 10, 2) := by decide +kernel
theorem dX9_stranger_180 : decode cX9_stranger 180 = .ok (.idiv, 1) := by decide +kernel
theorem dX9_stranger_181 : decode cX9_stranger 181 = .ok (.istore 5, 2) := by decide +kernel
theorem dX9_stranger_183 : decode cX9_stranger 183 = .ok (.iinc 8 1, 3) := by decide +kernel
theorem dX9_stranger_186 : decode cX9_stranger 186 = .ok (.goto (-36), 3) := by decide +kernel
theorem dX9_stranger_189 : decode cX9_stranger 189 = .ok (.aload_n 0, 1) := by decide +kernel
theorem dX9_stranger_190 : decode cX9_stranger 190 = .ok (.getfield 58, 3) := by decide +kernel
theorem dX9_stranger_193 : decode cX9_stranger 193 = .ok (.iload 7, 2) := by decide +kernel
theorem dX9_stranger_195 : decode cX9_stranger 195 = .ok (.iaload, 1) := by decide +kernel
theorem dX9_stranger_196 : decode cX9_stranger 196 = .ok (.istore 8, 2) := by decide +kernel
theorem dX9_stranger_198 : decode cX9_stranger 198 = .ok (.aload_n 0, 1) := by decide +kernel
theorem dX9_stranger_199 : decode cX9_stranger 199 = .ok (.getfield 49, 3) := by decide +kernel
theorem dX9_stranger_202 : decode cX9_stranger 202 = .ok (.iload 7, 2) := by decide +kernel
theorem dX9_stranger_204 : decode cX9_stranger 204 = .ok (.iaload, 1) := by decide +kernel
theorem dX9_stranger_205 : decode cX9_stranger 205 = .ok (.istore 9, 2) := by decide +kernel
theorem dX9_stranger_207 : decode cX9_stranger 207 = .ok (.aload_n 0, 1) := by decide +kernel
theorem dX9_stranger_208 : decode cX9_stranger 208 = .ok (.getfield 58, 3) := by decide +kernel
theorem dX9_stranger_211 : decode cX9_stranger 211 = .ok (.iload 7, 2) := by decide +kernel
theorem dX9_stranger_213 : decode cX9_stranger 213 = .ok (.aload_n 0, 1) := by decide +kernel
theorem dX9_stranger_214 : decode cX9_stranger 214 = .ok (.getfield 23, 3) := by decide +kernel
theorem dX9_stranger_217 : decode cX9_stranger 217 = .ok (.iconst 4, 1) := by decide +kernel
theorem dX9_stranger_218 : decode cX9_stranger 218 = .ok (.iaload, 1) := by decide +kernel
theorem dX9_stranger_219 : decode cX9_stranger 219 = .ok (.iastore, 1) := by decide +kernel
theorem dX9_stranger_220 : decode cX9_stranger 220 = .ok (.aload_n 0, 1) := by decide +kernel
theorem dX9_stranger_221 : decode cX9_stranger 221 = .ok (.getfield 49, 3) := by decide +kernel
theorem dX9_stranger_224 : decode cX9_stranger 224 = .ok (.iload 7, 2) := by decide +kernel
theorem dX9_stranger_226 : decode cX9_stranger 226 = .ok (.iconst 0, 1) := by decide +kernel
theorem dX9_stranger_227 : decode cX9_stranger 227 = .ok (.iastore, 1) := by decide +kernel
theorem dX9_stranger_228 : decode cX9_stranger 228 = .ok (.aload_n 0, 1) := by decide +kernel
theorem dX9_stranger_229 : decode cX9_stranger 229 = .ok (.iload 7, 2) := by decide +kernel
theorem dX9_stranger_231 : decode cX9_stranger 231 = .ok (.iconst 1, 1) := by decide +kernel
theorem dX9_stranger_232 : decode cX9_stranger 232 = .ok (.iadd, 1) := by decide +kernel
theorem dX9_stranger_233 : decode cX9_stranger 233 = .ok (.iload_n 1, 1) := by decide +kernel
theorem dX9_stranger_234 : decode cX9_stranger 234 = .ok (.invokevirtual 281, 3) := by decide +kernel
theorem dX9_stranger_237 : decode cX9_stranger 237 = .ok (.aload_n 0, 1) := by decide +kernel
theorem dX9_stranger_238 : decode cX9_stranger 238 = .ok (.getfield 58, 3) := by decide +kernel
theorem dX9_stranger_241 : decode cX9_stranger 241 = .ok (.iload 7, 2) := by decide +kernel
theorem dX9_stranger_243 : decode cX9_stranger 243 = .ok (.iload 8, 2) := by decide +kernel
theorem dX9_stranger_245 : decode cX9_stranger 245 = .ok (.iastore, 1) := by decide +kernel
theorem dX9_stranger_246 : decode cX9_stranger 246 = .ok (.aload_n 0, 1) := by decide +kernel
theorem dX9_stranger_247 : decode cX9_stranger 247 = .ok (.getfield 49, 3) := by decide +kernel
theorem dX9_stranger_250 : decode cX9_stranger 250 = .ok (.iload 7, 2) := by decide +kernel
theorem dX9_stranger_252 : decode cX9_stranger 252 = .ok (.iload 9, 2) := by decide +kernel
theorem dX9_stranger_254 : decode cX9_stranger 254 = .ok (.iastore, 1) := by decide +kernel
theorem dX9_stranger_255 : decode cX9_stranger 255 = .ok (.aload_n 0, 1) := by decide +kernel
theorem dX9_stranger_256 : decode cX9_stranger 256 = .ok (.getfield 263, 3) := by decide +kernel
theorem dX9_stranger_259 : decode cX9_stranger 259 = .ok (.iload 6, 2) := by decide +kernel
theorem dX9_stranger_261 : decode cX9_stranger 261 = .ok (.isub, 1) := by decide +kernel
theorem dX9_stranger_262 : decode cX9_stranger 262 = .ok (.ireturn, 1) := by decide +kernel
theorem dX9_night_0 : decode cX9_night 0 = .ok (.aload_n 0, 1) := by decide +kernel
theorem dX9_night_1 : decode cX9_night 1 = .ok (.iconst 0, 1) := by decide +kernel
theorem dX9_night_2 : decode cX9_night 2 = .ok (.putfield 106, 3) := by decide +kernel
theorem dX9_night_5 : decode cX9_night 5 = .ok (.aload_n 0, 1) := by decide +kernel
theorem dX9_night_6 : decode cX9_night 6 = .ok (.aload_n 0, 1) := by decide +kernel
theorem dX9_night_7 : decode cX9_night 7 = .ok (.iload_n 1, 1) := by decide +kernel
theorem dX9_night_8 : decode cX9_night 8 = .ok (.invokevirtual 217, 3) := by decide +kernel
theorem dX9_night_11 : decode cX9_night 11 = .ok (.ifCond .ne 7, 3) := by decide +kernel
theorem dX9_night_14 : decode cX9_night 14 = .ok (.iconst 1, 1) := by decide +kernel
theorem dX9_night_15 : decode cX9_night 15 = .ok (.goto 4, 3) := by decide +kernel
theorem dX9_night_18 : decode cX9_night 18 = .ok (.iconst 0, 1) := by decide +kernel
theorem dX9_night_19 : decode cX9_night 19 = .ok (.iconst 1, 1) := by decide +kernel
theorem dX9_night_20 : decode cX9_night 20 = .ok (.invokevirtual 188, 3) := by decide +kernel
theorem dX9_night_23 : decode cX9_night 23 = .ok (.ifCond .eq 5, 3) := by decide +kernel
theorem dX9_night_26 : decode cX9_night 26 = .ok (.iconst 0, 1) := by decide +kernel
theorem dX9_night_27 : decode cX9_night 27 = .ok (.ireturn, 1) := by decide +kernel
theorem dX9_night_28 : decode cX9_night 28 = .ok (.aload_n 0, 1) := by decide +kernel
theorem dX9_night_29 : decode cX9_night 29 = .ok (.getfield 198, 3) := by decide +kernel
theorem dX9_night_32 : decode cX9_night 32 = .ok (.bipush 29, 2) := by decide +kernel
theorem dX9_night_34 : decode cX9_night 34 = .ok (.if_icmp .ne 5, 3) := by decide +kernel
theorem dX9_night_37 : decode cX9_night 37 = .ok (.iconst (-1), 1) := by decide +kernel
theorem dX9_night_38 : decode cX9_night 38 = .ok (.ireturn, 1) := by decide +kernel
theorem dX9_night_39 : decode cX9_night 39 = .ok (.aload_n 0, 1) := by decide +kernel
theorem dX9_night_40 : decode cX9_night 40 = .ok (.iconst 0, 1) := by decide +kernel
theorem dX9_night_41 : decode cX9_night 41 = .ok (.iconst 0, 1) := by decide +kernel
theorem dX9_night_42 : decode cX9_night 42 = .ok (.invokevirtual 248, 3) := by decide +kernel
theorem dX9_night_45 : decode cX9_night 45 = .ok (.aload_n 0, 1) := by decide +kernel
theorem dX9_night_46 : decode cX9_night 46 = .ok (.dup, 1) := by decide +kernel
theorem dX9_night_47 : decode cX9_night 47 = .ok (.getfield 198, 3) := by decide +kernel
theorem dX9_night_50 : decode cX9_night 50 = .ok (.iconst 1, 1) := by decide +kernel
theorem dX9_night_51 : decode cX9_night 51 = .ok (.iadd, 1) := by decide +kernel
theorem dX9_night_52 : decode cX9_night 52 = .ok (.putfield 198, 3) := by decide +kernel
theorem dX9_night_55 : decode cX9_night 55 = .ok (.aload_n 0, 1) := by decide +kernel
theorem dX9_night_56 : decode cX9_night 56 = .ok (.invokevirtual 207, 3) := by decide +kernel
theorem dX9_night_59 : decode cX9_night 59 = .ok (.aload_n 0, 1) := by decide +kernel
theorem dX9_night_60 : decode cX9_night 60 = .ok (.aload_n 0, 1) := by decide +kernel
theorem dX9_night_61 : decode cX9_night 61 = .ok (.getfield 23, 3) := by decide +kernel
theorem dX9_night_64 : decode cX9_night 64 = .ok (.iconst 1, 1) := by decide +kernel
theorem dX9_night_65 : decode cX9_night 65 = .ok (.iaload, 1) := by decide +kernel
theorem dX9_night_66 : decode cX9_night 66 = .ok (.iconst (-1), 1) := by decide +kernel
theorem dX9_night_67 : decode cX9_night 67 = .ok (.invokevirtual 281, 3) := by decide +kernel
theorem dX9_night_70 : decode cX9_night 70 = .ok (.iconst (-1), 1) := by decide +kernel
theorem dX9_night_71 : decode cX9_night 71 = .ok (.istore_n 2, 1) := by decide +kernel
theorem dX9_night_72 : decode cX9_night 72 = .ok (.aload_n 0, 1) := by decide +kernel
theorem dX9_night_73 : decode cX9_night 73 = .ok (.getfield 263, 3) := by decide +kernel
theorem dX9_night_76 : decode cX9_night 76 = .ok (.istore_n 3, 1) := by decide +kernel
theorem dX9_night_77 : decode cX9_night 77 = .ok (.iconst 0, 1) := by decide +kernel
theorem dX9_night_78 : decode cX9_night 78 = .ok (.istore 4, 2) := by decide +kernel
theorem dX9_night_80 : decode cX9_night 80 = .ok (.iload 4, 2) := by decide +kernel
theorem dX9_night_82 : decode cX9_night 82 = .ok (.aload_n 0, 1) := by decide +kernel
theorem dX9_night_83 : decode cX9_night 83 = .ok (.getfield 23, 3) := by decide +kernel
theorem dX9_night_86 : decode cX9_night 86 = .ok (.iconst 1, 1) := by decide +kernel
theorem dX9_night_87 : decode cX9_night 87 = .ok (.iaload, 1) := by decide +kernel
theorem dX9_night_88 : decode cX9_night 88 = .ok (.if_icmp .ge 127, 3) := by decide +kernel
theorem dX9_night_91 : decode cX9_night 91 = .ok (.iconst 0, 1) := by decide +kernel
theorem dX9_night_92 : decode cX9_night 92 = .ok (.istore 5, 2) := by decide +kernel
theorem dX9_night_94 : decode cX9_night 94 = .ok (.iload 5, 2) := by decide +kernel
theorem dX9_night_96 : decode cX9_night 96 = .ok (.aload_n 0, 1) := by decide +kernel
theorem dX9_night_97 : decode cX9_night 97 = .ok (.getfield 23, 3) := by decide +kernel
theorem dX9_night_100 : decode cX9_night 100 = .ok (.iconst 1, 1) := by decide +kernel
theorem dX9_night_101 : decode cX9_night 101 = .ok (.iaload, 1) := by decide +kernel
theorem dX9_night_102 : decode cX9_night 102 = .ok (.if_icmp .ge 107, 3) := by decide +kernel
theorem dX9_night_105 : decode cX9_night 105 = .ok (.iload 4, 2) := by decide +kernel
theorem dX9_night_107 : decode cX9_night 107 = .ok (.iload 5, 2) := by decide +kernel
theorem dX9_night_109 : decode cX9_night 109 = .ok (.if_icmp .eq 94, 3) := by decide +kernel
theorem dX9_night_112 : decode cX9_night 112 = .ok (.aload_n 0, 1) := by decide +kernel
theorem dX9_night_113 : decode cX9_night 113 = .ok (.getfield 52, 3) := by decide +kernel
theorem dX9_night_116 : decode cX9_night 116 = .ok (.iload 4, 2) := by decide +kernel
theorem dX9_night_118 : decode cX9_night 118 = .ok (.aaload, 1) := by decide +kernel
theorem dX9_night_119 : decode cX9_night 119 = .ok (.iload_n 1, 1) := by decide +kernel
theorem dX9_night_120 : decode cX9_night 120 = .ok (.iaload, 1) := by decide +kernel
theorem dX9_night_121 : decode cX9_night 121 = .ok (.aload_n 0, 1) := by decide +kernel
theorem dX9_night_122 : decode cX9_night 122 = .ok (.getfield 52, 3) := by decide +kernel
theorem dX9_night_125 : decode cX9_night 125 = .ok (.iload 5, 2) := by decide +kernel
theorem dX9_night_127 : decode cX9_night 127 = .ok (.aaload, 1) := by decide +kernel
theorem dX9_night_128 : decode cX9_night 128 = .ok (.iload_n 1, 1) := by decide +kernel
theorem dX9_night_129 : decode cX9_night 129 = .ok (.iaload, 1) := by decide +kernel
theorem dX9_night_130 : decode cX9_night 130 = .ok (.if_icmp .ne 6, 3) := by decide +kernel
theorem dX9_night_133 : decode cX9_night 133 = .ok (.goto 70, 3) := by decide +kernel
theorem dX9_night_136 : decode cX9_night 136 = .ok (.aload_n 0, 1) := by decide +kernel
theorem dX9_night_137 : decode cX9_night 137 = .ok (.getfield 52, 3) := by decide +kernel
theorem dX9_night_140 : decode cX9_night 140 = .ok (.iload 4, 2) := by decide +kernel
theorem dX9_night_142 : decode cX9_night 142 = .ok (.aaload, 1) := by decide +kernel
theorem dX9_night_143 : decode cX9_night 143 = .ok (.iload_n 1, 1) := by decide +kernel
theorem dX9_night_144 : decode cX9_night 144 = .ok (.iaload, 1) := by decide +kernel
theorem dX9_night_145 : decode cX9_night 145 = .ok (.istore 6, 2) := by decide +kernel
theorem dX9_night_147 : decode cX9_night 147 = .ok (.aload_n 0, 1) := by decide +kernel
theorem dX9_night_148 : decode cX9_night 148 = .ok (.iload 4, 2) := by decide +kernel
theorem dX9_night_150 : decode cX9_night 150 = .ok (.iload 5, 2) := by decide +kernel
theorem dX9_night_152 : decode cX9_night 152 = .ok (.iload_n 1, 1) := by decide +kernel
theorem dX9_night_153 : decode cX9_night 153 = .ok (.invokevirtual 245, 3) := by decide +kernel
theorem dX9_night_156 : decode cX9_night 156 = .ok (.aload_n 0, 1) := by decide +kernel
theorem dX9_night_157 : decode cX9_night 157 = .ok (.aload_n 0, 1) := by decide +kernel
theorem dX9_night_158 : decode cX9_night 158 = .ok (.getfield 23, 3) := by decide +kernel
theorem dX9_night_161 : decode cX9_night 161 = .ok (.iconst 1, 1) := by decide +kernel
theorem dX9_night_162 : decode cX9_night 162 = .ok (.iaload, 1) := by decide +kernel
theorem dX9_night_163 : decode cX9_night 163 = .ok (.iconst (-1), 1) := by decide +kernel
theorem dX9_night_164 : decode cX9_night 164 = .ok (.invokevirtual 281, 3) := by decide +kernel
theorem dX9_night_167 : decode cX9_night 167 = .ok (.aload_n 0, 1) := by decide +kernel
theorem dX9_night_168 : decode cX9_night 168 = .ok (.getfield 52, 3) := by decide +kernel
theorem dX9_night_171 : decode cX9_night 171 = .ok (.iload 4, 2) := by decide +kernel
theorem dX9_night_173 : decode cX9_night 173 = .ok (.aaload, 1) := by decide +kernel
theorem dX9_night_174 : decode cX9_night 174 = .ok (.iload_n 1, 1) := by decide +kernel
theorem dX9_night_175 : decode cX9_night 175 = .ok (.iload 6, 2) := by decide +kernel
theorem dX9_night_177 : decode cX9_night 177 = .ok (.iastore, 1) := by decide +kernel
theorem dX9_night_178 : decode cX9_night 178 = .ok (.aload_n 0, 1) := by decide +kernel
theorem dX9_night_179 : decode cX9_night 179 = .ok (.getfield 263, 3) := by decide +kernel
theorem dX9_night_182 : decode cX9_night 182 = .ok (.iload_n 3, 1) := by decide +kernel
theorem dX9_night_183 : decode cX9_night 183 = .ok (.if_icmp .gt 6, 3) := by decide +kernel
theorem dX9_night_186 : decode cX9_night 186 = .ok (.goto 17, 3) := by decide +kernel
theorem dX9_night_189 : decode cX9_night 189 = .ok (.bipush 10, 2) := by decide +kernel
theorem dX9_night_191 : decode cX9_night 191 = .ok (.iload 4, 2) := by decide +kernel
theorem dX9_night_193 : decode cX9_night 193 = .ok (.imul, 1) := by decide +kernel
theorem dX9_night_194 : decode cX9_night 194 = .ok (.iload 5, 2) := by decide +kernel
theorem dX9_night_196 : decode cX9_night 196 = .ok (.iadd, 1) := by decide +kernel
theorem dX9_night_197 : decode cX9_night 197 = .ok (.istore_n 2, 1) := by decide +kernel
theorem dX9_night_198 : decode cX9_night 198 = .ok (.aload_n 0, 1) := by decide +kernel
theorem dX9_night_199 : decode cX9_night 199 = .ok (.getfield 263, 3) := by decide +kernel
theorem dX9_night_202 : decode cX9_night 202 = .ok (.istore_n 3, 1) := by decide +kernel
theorem dX9_night_203 : decode cX9_night 203 = .ok (.iinc 5 1, 3) := by decide +kernel
theorem dX9_night_206 : decode cX9_night 206 = .ok (.goto (-112), 3) := by decide +kernel
theorem dX9_night_209 : decode cX9_night 209 = .ok (.iinc 4 1, 3) := by decide +kernel
theorem dX9_night_212 : decode cX9_night 212 = .ok (.goto (-132), 3) := by decide +kernel
theorem dX9_night_215 : decode cX9_night 215 = .ok (.aload_n 0, 1) := by decide +kernel
theorem dX9_night_216 : decode cX9_night 216 = .ok (.iconst 0, 1) := by decide +kernel
theorem dX9_night_217 : decode cX9_night 217 = .ok (.iconst 1, 1) := by decide +kernel
theorem dX9_night_218 : decode cX9_night 218 = .ok (.invokevirtual 248, 3) := by decide +kernel
theorem dX9_night_221 : decode cX9_night 221 = .ok (.iload_n 2, 1) := by decide +kernel
theorem dX9_night_222 : decode cX9_night 222 = .ok (.ireturn, 1) := by decide +kernel
theorem dX9_coded_0 : decode cX9_coded 0 = .ok (.bipush 100, 2) := by decide +kernel
theorem dX9_coded_2 : decode cX9_coded 2 = .ok (.iload_n 0, 1) := by decide +kernel
theorem dX9_coded_3 : decode cX9_coded 3 = .ok (.imul, 1) := by decide +kernel
theorem dX9_coded_4 : decode cX9_coded 4 = .ok (.bipush 10, 2) := by decide +kernel
theorem dX9_coded_6 : decode cX9_coded 6 = .ok (.iload_n 1, 1) := by decide +kernel
theorem dX9_coded_7 : decode cX9_coded 7 = .ok (.imul, 1) := by decide +kernel
theorem dX9_coded_8 : decode cX9_coded 8 = .ok (.iadd, 1) := by decide +kernel
theorem dX9_coded_9 : decode cX9_coded 9 = .ok (.iload_n 2, 1) := by decide +kernel
theorem dX9_coded_10 : decode cX9_coded 10 = .ok (.iadd, 1) := by decide +kernel
theorem dX9_coded_11 : decode cX9_coded 11 = .ok (.ireturn, 1) := by decide +kernel
theorem dX9_bestNow_0 : decode cX9_bestNow 0 = .ok (.iconst (-1), 1) := by decide +kernel
theorem dX9_bestNow_1 : decode cX9_bestNow 1 = .ok (.istore_n 1, 1) := by decide +kernel
theorem dX9_bestNow_2 : decode cX9_bestNow 2 = .ok (.iconst 0, 1) := by decide +kernel
theorem dX9_bestNow_3 : decode cX9_bestNow 3 = .ok (.istore_n 2, 1) := by decide +kernel
theorem dX9_bestNow_4 : decode cX9_bestNow 4 = .ok (.iload_n 2, 1) := by decide +kernel
theorem dX9_bestNow_5 : decode cX9_bestNow 5 = .ok (.bipush 64, 2) := by decide +kernel
theorem dX9_bestNow_7 : decode cX9_bestNow 7 = .ok (.aload_n 0, 1) := by decide +kernel
theorem dX9_bestNow_8 : decode cX9_bestNow 8 = .ok (.getfield 23, 3) := by decide +kernel
theorem dX9_bestNow_11 : decode cX9_bestNow 11 = .ok (.iconst 2, 1) := by decide +kernel
theorem dX9_bestNow_12 : decode cX9_bestNow 12 = .ok (.iaload, 1) := by decide +kernel
theorem dX9_bestNow_13 : decode cX9_bestNow 13 = .ok (.imul, 1) := by decide +kernel
theorem dX9_bestNow_14 : decode cX9_bestNow 14 = .ok (.if_icmp .ge 95, 3) := by decide +kernel
theorem dX9_bestNow_17 : decode cX9_bestNow 17 = .ok (.iload_n 2, 1) := by decide +kernel
theorem dX9_bestNow_18 : decode cX9_bestNow 18 = .ok (.bipush 64, 2) := by decide +kernel
theorem dX9_bestNow_20 : decode cX9_bestNow 20 = .ok (.idiv, 1) := by decide +kernel
theorem dX9_bestNow_21 : decode cX9_bestNow 21 = .ok (.istore_n 3, 1) := by decide +kernel
theorem dX9_bestNow_22 : decode cX9_bestNow 22 = .ok (.iload_n 2, 1) := by decide +kernel
theorem dX9_bestNow_23 : decode cX9_bestNow 23 = .ok (.bipush 8, 2) := by decide +kernel
theorem dX9_bestNow_25 : decode cX9_bestNow 25 = .ok (.idiv, 1) := by decide +kernel
theorem dX9_bestNow_26 : decode cX9_bestNow 26 = .ok (.bipush 8, 2) := by decide +kernel
theorem dX9_bestNow_28 : decode cX9_bestNow 28 = .ok (.irem, 1) := by decide +kernel
theorem dX9_bestNow_29 : decode cX9_bestNow 29 = .ok (.istore 4, 2) := by decide +kernel
theorem dX9_bestNow_31 : decode cX9_bestNow 31 = .ok (.iload_n 2, 1) := by decide +kernel
theorem dX9_bestNow_32 : decode cX9_bestNow 32 = .ok (.bipush 8, 2) := by decide +kernel
theorem dX9_bestNow_34 : decode cX9_bestNow 34 = .ok (.irem, 1) := by decide +kernel
theorem dX9_bestNow_35 : decode cX9_bestNow 35 = .ok (.istore 5, 2) := by decide +kernel
theorem dX9_bestNow_37 : decode cX9_bestNow 37 = .ok (.iload 4, 2) := by decide +kernel
theorem dX9_bestNow_39 : decode cX9_bestNow 39 = .ok (.iload 5, 2) := by decide +kernel
theorem dX9_bestNow_41 : decode cX9_bestNow 41 = .ok (.if_icmp .ge 62, 3) := by decide +kernel
theorem dX9_bestNow_44 : decode cX9_bestNow 44 = .ok (.iload 5, 2) := by decide +kernel
theorem dX9_bestNow_46 : decode cX9_bestNow 46 = .ok (.aload_n 0, 1) := by decide +kernel
theorem dX9_bestNow_47 : decode cX9_bestNow 47 = .ok (.getfield 23, 3) := by decide +kernel
theorem dX9_bestNow_50 : decode cX9_bestNow 50 = .ok (.iconst 1, 1) := by decide +kernel
theorem dX9_bestNow_51 : decode cX9_bestNow 51 = .ok (.iaload, 1) := by decide +kernel
theorem dX9_bestNow_52 : decode cX9_bestNow 52 = .ok (.if_icmp .ge 51, 3) := by decide +kernel
theorem dX9_bestNow_55 : decode cX9_bestNow 55 = .ok (.aload_n 0, 1) := by decide +kernel
theorem dX9_bestNow_56 : decode cX9_bestNow 56 = .ok (.iload_n 3, 1) := by decide +kernel
theorem dX9_bestNow_57 : decode cX9_bestNow 57 = .ok (.iload 4, 2) := by decide +kernel
theorem dX9_bestNow_59 : decode cX9_bestNow 59 = .ok (.iload 5, 2) := by decide +kernel
theorem dX9_bestNow_61 : decode cX9_bestNow 61 = .ok (.invokevirtual 275, 3) := by decide +kernel
theorem dX9_bestNow_64 : decode cX9_bestNow 64 = .ok (.ifCond .eq 39, 3) := by decide +kernel
theorem dX9_bestNow_67 : decode cX9_bestNow 67 = .ok (.iload_n 1, 1) := by decide +kernel
theorem dX9_bestNow_68 : decode cX9_bestNow 68 = .ok (.iconst (-1), 1) := by decide +kernel
theorem dX9_bestNow_69 : decode cX9_bestNow 69 = .ok (.if_icmp .eq 25, 3) := by decide +kernel
theorem dX9_bestNow_72 : decode cX9_bestNow 72 = .ok (.aload_n 0, 1) := by decide +kernel
theorem dX9_bestNow_73 : decode cX9_bestNow 73 = .ok (.getfield 37, 3) := by decide +kernel
theorem dX9_bestNow_76 : decode cX9_bestNow 76 = .ok (.iload_n 3, 1) := by decide +kernel
theorem dX9_bestNow_77 : decode cX9_bestNow 77 = .ok (.aaload, 1) := by decide +kernel
theorem dX9_bestNow_78 : decode cX9_bestNow 78 = .ok (.iconst 0, 1) := by decide +kernel
theorem dX9_bestNow_79 : decode cX9_bestNow 79 = .ok (.iaload, 1) := by decide +kernel
theorem dX9_bestNow_80 : decode cX9_bestNow 80 = .ok (.aload_n 0, 1) := by decide +kernel
theorem dX9_bestNow_81 : decode cX9_bestNow 81 = .ok (.getfield 37, 3) := by decide +kernel
theorem dX9_bestNow_84 : decode cX9_bestNow 84 = .ok (.iload_n 1, 1) := by decide +kernel
theorem dX9_bestNow_85 : decode cX9_bestNow 85 = .ok (.bipush 100, 2) := by decide +kernel
theorem dX9_bestNow_87 : decode cX9_bestNow 87 = .ok (.idiv, 1) := by decide +kernel
theorem dX9_bestNow_88 : decode cX9_bestNow 88 = .ok (.aaload, 1) := by decide +kernel
theorem dX9_bestNow_89 : decode cX9_bestNow 89 = .ok (.iconst 0, 1) := by decide +kernel
theorem dX9_bestNow_90 : decode cX9_bestNow 90 = .ok (.iaload, 1) := by decide +kernel
theorem dX9_bestNow_91 : decode cX9_bestNow 91 = .ok (.if_icmp .le 12, 3) := by decide +kernel
theorem dX9_bestNow_94 : decode cX9_bestNow 94 = .ok (.iload_n 3, 1) := by decide +kernel
theorem dX9_bestNow_95 : decode cX9_bestNow 95 = .ok (.iload 4, 2) := by decide +kernel
theorem dX9_bestNow_97 : decode cX9_bestNow 97 = .ok (.iload 5, 2) := by decide +kernel
theorem dX9_bestNow_99 : decode cX9_bestNow 99 = .ok (.invokestatic 296, 3) := by decide +kernel
theorem dX9_bestNow_102 : decode cX9_bestNow 102 = .ok (.istore_n 1, 1) := by decide +kernel
theorem dX9_bestNow_103 : decode cX9_bestNow 103 = .ok (.iinc 2 1, 3) := by decide +kernel
theorem dX9_bestNow_106 : decode cX9_bestNow 106 = .ok (.goto (-102), 3) := by decide +kernel
theorem dX9_bestNow_109 : decode cX9_bestNow 109 = .ok (.iload_n 1, 1) := by decide +kernel
theorem dX9_bestNow_110 : decode cX9_bestNow 110 = .ok (.ireturn, 1) := by decide +kernel
theorem dX9_secondOf_0 : decode cX9_secondOf 0 = .ok (.aload_n 0, 1) := by decide +kernel
theorem dX9_secondOf_1 : decode cX9_secondOf 1 = .ok (.iconst 1, 1) := by decide +kernel
theorem dX9_secondOf_2 : decode cX9_secondOf 2 = .ok (.iconst 0, 1) := by decide +kernel
theorem dX9_secondOf_3 : decode cX9_secondOf 3 = .ok (.invokevirtual 248, 3) := by decide +kernel
theorem dX9_secondOf_6 : decode cX9_secondOf 6 = .ok (.aload_n 0, 1) := by decide +kernel
theorem dX9_secondOf_7 : decode cX9_secondOf 7 = .ok (.iload_n 1, 1) := by decide +kernel
theorem dX9_secondOf_8 : decode cX9_secondOf 8 = .ok (.iload_n 2, 1) := by decide +kernel
theorem dX9_secondOf_9 : decode cX9_secondOf 9 = .ok (.iload_n 3, 1) := by decide +kernel
theorem dX9_secondOf_10 : decode cX9_secondOf 10 = .ok (.invokevirtual 242, 3) := by decide +kernel
theorem dX9_secondOf_13 : decode cX9_secondOf 13 = .ok (.aload_n 0, 1) := by decide +kernel
theorem dX9_secondOf_14 : decode cX9_secondOf 14 = .ok (.invokevirtual 299, 3) := by decide +kernel
theorem dX9_secondOf_17 : decode cX9_secondOf 17 = .ok (.istore 4, 2) := by decide +kernel
theorem dX9_secondOf_19 : decode cX9_secondOf 19 = .ok (.aload_n 0, 1) := by decide +kernel
theorem dX9_secondOf_20 : decode cX9_secondOf 20 = .ok (.iconst 1, 1) := by decide +kernel
theorem dX9_secondOf_21 : decode cX9_secondOf 21 = .ok (.iconst 1, 1) := by decide +kernel
theorem dX9_secondOf_22 : decode cX9_secondOf 22 = .ok (.invokevirtual 248, 3) := by decide +kernel
theorem dX9_secondOf_25 : decode cX9_secondOf 25 = .ok (.iload 4, 2) := by decide +kernel
theorem dX9_secondOf_27 : decode cX9_secondOf 27 = .ok (.ireturn, 1) := by decide +kernel
theorem dX9_best_0 : decode cX9_best 0 = .ok (.aload_n 0, 1) := by decide +kernel
theorem dX9_best_1 : decode cX9_best 1 = .ok (.iconst 0, 1) := by decide +kernel
theorem dX9_best_2 : decode cX9_best 2 = .ok (.putfield 106, 3) := by decide +kernel
theorem dX9_best_5 : decode cX9_best 5 = .ok (.aload_n 0, 1) := by decide +kernel
theorem dX9_best_6 : decode cX9_best 6 = .ok (.iload_n 1, 1) := by decide +kernel
theorem dX9_best_7 : decode cX9_best 7 = .ok (.iconst 0, 1) := by decide +kernel
theorem dX9_best_8 : decode cX9_best 8 = .ok (.iconst 2, 1) := by decide +kernel
theorem dX9_best_9 : decode cX9_best 9 = .ok (.invokestatic 140, 3) := by decide +kernel
theorem dX9_best_12 : decode cX9_best 12 = .ok (.ifCond .ne 7, 3) := by decide +kernel
theorem dX9_best_15 : decode cX9_best 15 = .ok (.iconst 1, 1) := by decide +kernel
theorem dX9_best_16 : decode cX9_best 16 = .ok (.goto 4, 3) := by decide +kernel
theorem dX9_best_19 : decode cX9_best 19 = .ok (.iconst 0, 1) := by decide +kernel
theorem dX9_best_20 : decode cX9_best 20 = .ok (.iconst 1, 1) := by decide +kernel
theorem dX9_best_21 : decode cX9_best 21 = .ok (.invokevirtual 188, 3) := by decide +kernel
theorem dX9_best_24 : decode cX9_best 24 = .ok (.ifCond .eq 5, 3) := by decide +kernel
theorem dX9_best_27 : decode cX9_best 27 = .ok (.iconst 0, 1) := by decide +kernel
theorem dX9_best_28 : decode cX9_best 28 = .ok (.ireturn, 1) := by decide +kernel
theorem dX9_best_29 : decode cX9_best 29 = .ok (.aload_n 0, 1) := by decide +kernel
theorem dX9_best_30 : decode cX9_best 30 = .ok (.getfield 85, 3) := by decide +kernel
theorem dX9_best_33 : decode cX9_best 33 = .ok (.iconst 0, 1) := by decide +kernel
theorem dX9_best_34 : decode cX9_best 34 = .ok (.iconst (-1), 1) := by decide +kernel
theorem dX9_best_35 : decode cX9_best 35 = .ok (.iastore, 1) := by decide +kernel
theorem dX9_best_36 : decode cX9_best 36 = .ok (.aload_n 0, 1) := by decide +kernel
theorem dX9_best_37 : decode cX9_best 37 = .ok (.getfield 85, 3) := by decide +kernel
theorem dX9_best_40 : decode cX9_best 40 = .ok (.iconst 1, 1) := by decide +kernel
theorem dX9_best_41 : decode cX9_best 41 = .ok (.iconst (-1), 1) := by decide +kernel
theorem dX9_best_42 : decode cX9_best 42 = .ok (.iastore, 1) := by decide +kernel
theorem dX9_best_43 : decode cX9_best 43 = .ok (.iconst 0, 1) := by decide +kernel
theorem dX9_best_44 : decode cX9_best 44 = .ok (.istore_n 2, 1) := by decide +kernel
theorem dX9_best_45 : decode cX9_best 45 = .ok (.iconst 0, 1) := by decide +kernel
theorem dX9_best_46 : decode cX9_best 46 = .ok (.istore_n 3, 1) := by decide +kernel
theorem dX9_best_47 : decode cX9_best 47 = .ok (.iload_n 3, 1) := by decide +kernel
theorem dX9_best_48 : decode cX9_best 48 = .ok (.iconst 2, 1) := by decide +kernel
theorem dX9_best_49 : decode cX9_best 49 = .ok (.if_icmp .ge 182, 3) := by decide +kernel
theorem dX9_best_52 : decode cX9_best 52 = .ok (.iconst 0, 1) := by decide +kernel
theorem dX9_best_53 : decode cX9_best 53 = .ok (.istore 4, 2) := by decide +kernel
theorem dX9_best_55 : decode cX9_best 55 = .ok (.iload 4, 2) := by decide +kernel
theorem dX9_best_57 : decode cX9_best 57 = .ok (.bipush 64, 2) := by decide +kernel
theorem dX9_best_59 : decode cX9_best 59 = .ok (.aload_n 0, 1) := by decide +kernel
theorem dX9_best_60 : decode cX9_best 60 = .ok (.getfield 23, 3) := by decide +kernel
theorem dX9_best_63 : decode cX9_best 63 = .ok (.iconst 2, 1) := by decide +kernel
theorem dX9_best_64 : decode cX9_best 64 = .ok (.iaload, 1) := by decide +kernel
theorem dX9_best_65 : decode cX9_best 65 = .ok (.imul, 1) := by decide +kernel
theorem dX9_best_66 : decode cX9_best 66 = .ok (.if_icmp .ge 159, 3) := by decide +kernel
theorem dX9_best_69 : decode cX9_best 69 = .ok (.iload 4, 2) := by decide +kernel
theorem dX9_best_71 : decode cX9_best 71 = .ok (.bipush 64, 2) := by decide +kernel
theorem dX9_best_73 : decode cX9_best 73 = .ok (.idiv, 1) := by decide +kernel
theorem dX9_best_74 : decode cX9_best 74 = .ok (.istore 5, 2) := by decide +kernel
theorem dX9_best_76 : decode cX9_best 76 = .ok (.iload 4, 2) := by decide +kernel
theorem dX9_best_78 : decode cX9_best 78 = .ok (.bipush 8, 2) := by decide +kernel
theorem dX9_best_80 : decode cX9_best 80 = .ok (.idiv, 1) := by decide +kernel
theorem dX9_best_81 : decode cX9_best 81 = .ok (.bipush 8, 2) := by decide +kernel
theorem dX9_best_83 : decode cX9_best 83 = .ok (.irem, 1) := by decide +kernel
theorem dX9_best_84 : decode cX9_best 84 = .ok (.istore 6, 2) := by decide +kernel
theorem dX9_best_86 : decode cX9_best 86 = .ok (.iload 4, 2) := by decide +kernel
theorem dX9_best_88 : decode cX9_best 88 = .ok (.bipush 8, 2) := by decide +kernel
theorem dX9_best_90 : decode cX9_best 90 = .ok (.irem, 1) := by decide +kernel
theorem dX9_best_91 : decode cX9_best 91 = .ok (.istore 7, 2) := by decide +kernel
theorem dX9_best_93 : decode cX9_best 93 = .ok (.iload 6, 2) := by decide +kernel
theorem dX9_best_95 : decode cX9_best 95 = .ok (.iload 7, 2) := by decide +kernel
theorem dX9_best_97 : decode cX9_best 97 = .ok (.if_icmp .ge 122, 3) := by decide +kernel
theorem dX9_best_100 : decode cX9_best 100 = .ok (.iload 7, 2) := by decide +kernel
theorem dX9_best_102 : decode cX9_best 102 = .ok (.aload_n 0, 1) := by decide +kernel
theorem dX9_best_103 : decode cX9_best 103 = .ok (.getfield 23, 3) := by decide +kernel
theorem dX9_best_106 : decode cX9_best 106 = .ok (.iconst 1, 1) := by decide +kernel
theorem dX9_best_107 : decode cX9_best 107 = .ok (.iaload, 1) := by decide +kernel
theorem dX9_best_108 : decode cX9_best 108 = .ok (.if_icmp .ge 111, 3) := by decide +kernel
theorem dX9_best_111 : decode cX9_best 111 = .ok (.aload_n 0, 1) := by decide +kernel
theorem dX9_best_112 : decode cX9_best 112 = .ok (.iload 5, 2) := by decide +kernel
theorem dX9_best_114 : decode cX9_best 114 = .ok (.iload 6, 2) := by decide +kernel
theorem dX9_best_116 : decode cX9_best 116 = .ok (.iload 7, 2) := by decide +kernel
theorem dX9_best_118 : decode cX9_best 118 = .ok (.invokevirtual 275, 3) := by decide +kernel
theorem dX9_best_121 : decode cX9_best 121 = .ok (.ifCond .ne 6, 3) := by decide +kernel
theorem dX9_best_124 : decode cX9_best 124 = .ok (.goto 95, 3) := by decide +kernel
theorem dX9_best_127 : decode cX9_best 127 = .ok (.aload_n 0, 1) := by decide +kernel
theorem dX9_best_128 : decode cX9_best 128 = .ok (.getfield 37, 3) := by decide +kernel
theorem dX9_best_131 : decode cX9_best 131 = .ok (.iload 5, 2) := by decide +kernel
theorem dX9_best_133 : decode cX9_best 133 = .ok (.aaload, 1) := by decide +kernel
theorem dX9_best_134 : decode cX9_best 134 = .ok (.iconst 0, 1) := by decide +kernel
theorem dX9_best_135 : decode cX9_best 135 = .ok (.iaload, 1) := by decide +kernel
theorem dX9_best_136 : decode cX9_best 136 = .ok (.istore 8, 2) := by decide +kernel
theorem dX9_best_138 : decode cX9_best 138 = .ok (.iconst (-1), 1) := by decide +kernel
theorem dX9_best_139 : decode cX9_best 139 = .ok (.istore 9, 2) := by decide +kernel
theorem dX9_best_141 : decode cX9_best 141 = .ok (.iload_n 3, 1) := by decide +kernel
theorem dX9_best_142 : decode cX9_best 142 = .ok (.iconst 1, 1) := by decide +kernel
theorem dX9_best_143 : decode cX9_best 143 = .ok (.if_icmp .ne 41, 3) := by decide +kernel
theorem dX9_best_146 : decode cX9_best 146 = .ok (.aload_n 0, 1) := by decide +kernel
theorem dX9_best_147 : decode cX9_best 147 = .ok (.iload 5, 2) := by decide +kernel
theorem dX9_best_149 : decode cX9_best 149 = .ok (.iload 6, 2) := by decide +kernel
theorem dX9_best_151 : decode cX9_best 151 = .ok (.iload 7, 2) := by decide +kernel
theorem dX9_best_153 : decode cX9_best 153 = .ok (.invokevirtual 293, 3) := by decide +kernel
theorem dX9_best_156 : decode cX9_best 156 = .ok (.istore 9, 2) := by decide +kernel
theorem dX9_best_158 : decode cX9_best 158 = .ok (.iload 9, 2) := by decide +kernel
theorem dX9_best_160 : decode cX9_best 160 = .ok (.iconst (-1), 1) := by decide +kernel
theorem dX9_best_161 : decode cX9_best 161 = .ok (.if_icmp .ne 6, 3) := by decide +kernel
theorem dX9_best_164 : decode cX9_best 164 = .ok (.goto 55, 3) := by decide +kernel
theorem dX9_best_167 : decode cX9_best 167 = .ok (.iload 8, 2) := by decide +kernel
theorem dX9_best_169 : decode cX9_best 169 = .ok (.aload_n 0, 1) := by decide +kernel
theorem dX9_best_170 : decode cX9_best 170 = .ok (.getfield 37, 3) := by decide +kernel
theorem dX9_best_173 : decode cX9_best 173 = .ok (.iload 9, 2) := by decide +kernel
theorem dX9_best_175 : decode cX9_best 175 = .ok (.bipush 100, 2) := by decide +kernel
theorem dX9_best_177 : decode cX9_best 177 = .ok (.idiv, 1) := by decide +kernel
theorem dX9_best_178 : decode cX9_best 178 = .ok (.aaload, 1) := by decide +kernel
theorem dX9_best_179 : decode cX9_best 179 = .ok (.iconst 0, 1) := by decide +kernel
theorem dX9_best_180 : decode cX9_best 180 = .ok (.iaload, 1) := by decide +kernel
theorem dX9_best_181 : decode cX9_best 181 = .ok (.iadd, 1) := by decide +kernel
theorem dX9_best_182 : decode cX9_best 182 = .ok (.istore 8, 2) := by decide +kernel
theorem dX9_best_184 : decode cX9_best 184 = .ok (.iload 8, 2) := by decide +kernel
theorem dX9_best_186 : decode cX9_best 186 = .ok (.iload_n 2, 1) := by decide +kernel
theorem dX9_best_187 : decode cX9_best 187 = .ok (.if_icmp .gt 6, 3) := by decide +kernel
theorem dX9_best_190 : decode cX9_best 190 = .ok (.goto 29, 3) := by decide +kernel
theorem dX9_best_193 : decode cX9_best 193 = .ok (.iload 8, 2) := by decide +kernel
theorem dX9_best_195 : decode cX9_best 195 = .ok (.istore_n 2, 1) := by decide +kernel
theorem dX9_best_196 : decode cX9_best 196 = .ok (.aload_n 0, 1) := by decide +kernel
theorem dX9_best_197 : decode cX9_best 197 = .ok (.getfield 85, 3) := by decide +kernel
theorem dX9_best_200 : decode cX9_best 200 = .ok (.iconst 0, 1) := by decide +kernel
theorem dX9_best_201 : decode cX9_best 201 = .ok (.iload 5, 2) := by decide +kernel
theorem dX9_best_203 : decode cX9_best 203 = .ok (.iload 6, 2) := by decide +kernel
theorem dX9_best_205 : decode cX9_best 205 = .ok (.iload 7, 2) := by decide +kernel
theorem dX9_best_207 : decode cX9_best 207 = .ok (.invokestatic 296, 3) := by decide +kernel
theorem dX9_best_210 : decode cX9_best 210 = .ok (.iastore, 1) := by decide +kernel
theorem dX9_best_211 : decode cX9_best 211 = .ok (.aload_n 0, 1) := by decide +kernel
theorem dX9_best_212 : decode cX9_best 212 = .ok (.getfield 85, 3) := by decide +kernel
theorem dX9_best_215 : decode cX9_best 215 = .ok (.iconst 1, 1) := by decide +kernel
theorem dX9_best_216 : decode cX9_best 216 = .ok (.iload 9, 2) := by decide +kernel
theorem dX9_best_218 : decode cX9_best 218 = .ok (.iastore, 1) := by decide +kernel
theorem dX9_best_219 : decode cX9_best 219 = .ok (.iinc 4 1, 3) := by decide +kernel
theorem dX9_best_222 : decode cX9_best 222 = .ok (.goto (-167), 3) := by decide +kernel
theorem dX9_best_225 : decode cX9_best 225 = .ok (.iinc 3 1, 3) := by decide +kernel
theorem dX9_best_228 : decode cX9_best 228 = .ok (.goto (-181), 3) := by decide +kernel
theorem dX9_best_231 : decode cX9_best 231 = .ok (.iload_n 1, 1) := by decide +kernel
theorem dX9_best_232 : decode cX9_best 232 = .ok (.ifCond .ne 7, 3) := by decide +kernel
theorem dX9_best_235 : decode cX9_best 235 = .ok (.iload_n 2, 1) := by decide +kernel
theorem dX9_best_236 : decode cX9_best 236 = .ok (.goto 11, 3) := by decide +kernel
theorem dX9_best_239 : decode cX9_best 239 = .ok (.aload_n 0, 1) := by decide +kernel
theorem dX9_best_240 : decode cX9_best 240 = .ok (.getfield 85, 3) := by decide +kernel
theorem dX9_best_243 : decode cX9_best 243 = .ok (.iload_n 1, 1) := by decide +kernel
theorem dX9_best_244 : decode cX9_best 244 = .ok (.iconst 1, 1) := by decide +kernel
theorem dX9_best_245 : decode cX9_best 245 = .ok (.isub, 1) := by decide +kernel
theorem dX9_best_246 : decode cX9_best 246 = .ok (.iaload, 1) := by decide +kernel
theorem dX9_best_247 : decode cX9_best 247 = .ok (.ireturn, 1) := by decide +kernel
theorem dX9_areDays_0 : decode cX9_areDays 0 = .ok (.iload_n 1, 1) := by decide +kernel
theorem dX9_areDays_1 : decode cX9_areDays 1 = .ok (.iconst 1, 1) := by decide +kernel
theorem dX9_areDays_2 : decode cX9_areDays 2 = .ok (.bipush 30, 2) := by decide +kernel
theorem dX9_areDays_4 : decode cX9_areDays 4 = .ok (.aload_n 0, 1) := by decide +kernel
theorem dX9_areDays_5 : decode cX9_areDays 5 = .ok (.getfield 198, 3) := by decide +kernel
theorem dX9_areDays_8 : decode cX9_areDays 8 = .ok (.isub, 1) := by decide +kernel
theorem dX9_areDays_9 : decode cX9_areDays 9 = .ok (.invokestatic 140, 3) := by decide +kernel
theorem dX9_areDays_12 : decode cX9_areDays 12 = .ok (.ireturn, 1) := by decide +kernel
theorem dX9_isAhead_0 : decode cX9_isAhead 0 = .ok (.iload_n 2, 1) := by decide +kernel
theorem dX9_isAhead_1 : decode cX9_isAhead 1 = .ok (.bipush 100, 2) := by decide +kernel
theorem dX9_isAhead_3 : decode cX9_isAhead 3 = .ok (.idiv, 1) := by decide +kernel
theorem dX9_isAhead_4 : decode cX9_isAhead 4 = .ok (.istore 4, 2) := by decide +kernel
theorem dX9_isAhead_6 : decode cX9_isAhead 6 = .ok (.iload_n 3, 1) := by decide +kernel
theorem dX9_isAhead_7 : decode cX9_isAhead 7 = .ok (.bipush 100, 2) := by decide +kernel
theorem dX9_isAhead_9 : decode cX9_isAhead 9 = .ok (.idiv, 1) := by decide +kernel
theorem dX9_isAhead_10 : decode cX9_isAhead 10 = .ok (.istore 5, 2) := by decide +kernel
theorem dX9_isAhead_12 : decode cX9_isAhead 12 = .ok (.aload_n 0, 1) := by decide +kernel
theorem dX9_isAhead_13 : decode cX9_isAhead 13 = .ok (.getfield 37, 3) := by decide +kernel
theorem dX9_isAhead_16 : decode cX9_isAhead 16 = .ok (.iload 4, 2) := by decide +kernel
theorem dX9_isAhead_18 : decode cX9_isAhead 18 = .ok (.aaload, 1) := by decide +kernel
theorem dX9_isAhead_19 : decode cX9_isAhead 19 = .ok (.iconst 0, 1) := by decide +kernel
theorem dX9_isAhead_20 : decode cX9_isAhead 20 = .ok (.iaload, 1) := by decide +kernel
theorem dX9_isAhead_21 : decode cX9_isAhead 21 = .ok (.istore 6, 2) := by decide +kernel
theorem dX9_isAhead_23 : decode cX9_isAhead 23 = .ok (.aload_n 0, 1) := by decide +kernel
theorem dX9_isAhead_24 : decode cX9_isAhead 24 = .ok (.getfield 37, 3) := by decide +kernel
theorem dX9_isAhead_27 : decode cX9_isAhead 27 = .ok (.iload 5, 2) := by decide +kernel
theorem dX9_isAhead_29 : decode cX9_isAhead 29 = .ok (.aaload, 1) := by decide +kernel
theorem dX9_isAhead_30 : decode cX9_isAhead 30 = .ok (.iconst 0, 1) := by decide +kernel
theorem dX9_isAhead_31 : decode cX9_isAhead 31 = .ok (.iaload, 1) := by decide +kernel
theorem dX9_isAhead_32 : decode cX9_isAhead 32 = .ok (.istore 7, 2) := by decide +kernel
theorem dX9_isAhead_34 : decode cX9_isAhead 34 = .ok (.iconst 0, 1) := by decide +kernel
theorem dX9_isAhead_35 : decode cX9_isAhead 35 = .ok (.istore 8, 2) := by decide +kernel
theorem dX9_isAhead_37 : decode cX9_isAhead 37 = .ok (.iconst 0, 1) := by decide +kernel
theorem dX9_isAhead_38 : decode cX9_isAhead 38 = .ok (.istore 9, 2) := by decide +kernel
theorem dX9_isAhead_40 : decode cX9_isAhead 40 = .ok (.iload_n 1, 1) := by decide +kernel
theorem dX9_isAhead_41 : decode cX9_isAhead 41 = .ok (.iconst 2, 1) := by decide +kernel
theorem dX9_isAhead_42 : decode cX9_isAhead 42 = .ok (.if_icmp .ge 88, 3) := by decide +kernel
theorem dX9_isAhead_45 : decode cX9_isAhead 45 = .ok (.aload_n 0, 1) := by decide +kernel
theorem dX9_isAhead_46 : decode cX9_isAhead 46 = .ok (.getfield 52, 3) := by decide +kernel
theorem dX9_isAhead_49 : decode cX9_isAhead 49 = .ok (.iload_n 2, 1) := by decide +kernel
theorem dX9_isAhead_50 : decode cX9_isAhead 50 = .ok (.bipush 10, 2) := by decide +kernel
theorem dX9_isAhead_52 : decode cX9_isAhead 52 = .ok (.idiv, 1) := by decide +kernel
theorem dX9_isAhead_53 : decode cX9_isAhead 53 = .ok (.bipush 10, 2) := by decide +kernel
theorem dX9_isAhead_55 : decode cX9_isAhead 55 = .ok (.irem, 1) := by decide +kernel
theorem dX9_isAhead_56 : decode cX9_isAhead 56 = .ok (.aaload, 1) := by decide +kernel
theorem dX9_isAhead_57 : decode cX9_isAhead 57 = .ok (.aload_n 0, 1) := by decide +kernel
theorem dX9_isAhead_58 : decode cX9_isAhead 58 = .ok (.iload 4, 2) := by decide +kernel
theorem dX9_isAhead_60 : decode cX9_isAhead 60 = .ok (.invokevirtual 226, 3) := by decide +kernel
theorem dX9_isAhead_63 : decode cX9_isAhead 63 = .ok (.iaload, 1) := by decide +kernel
theorem dX9_isAhead_64 : decode cX9_isAhead 64 = .ok (.aload_n 0, 1) := by decide +kernel
theorem dX9_isAhead_65 : decode cX9_isAhead 65 = .ok (.getfield 52, 3) := by decide +kernel
theorem dX9_isAhead_68 : decode cX9_isAhead 68 = .ok (.iload_n 2, 1) := by decide +kernel
theorem dX9_isAhead_69 : decode cX9_isAhead 69 = .ok (.bipush 10, 2) := by decide +kernel
theorem dX9_isAhead_71 : decode cX9_isAhead 71 = .ok (.irem, 1) := by decide +kernel
theorem dX9_isAhead_72 : decode cX9_isAhead 72 = .ok (.aaload, 1) := by decide +kernel
theorem dX9_isAhead_73 : decode cX9_isAhead 73 = .ok (.aload_n 0, 1) := by decide +kernel
theorem dX9_isAhead_74 : decode cX9_isAhead 74 = .ok (.iload 4, 2) := by decide +kernel
theorem dX9_isAhead_76 : decode cX9_isAhead 76 = .ok (.invokevirtual 226, 3) := by decide +kernel
theorem dX9_isAhead_79 : decode cX9_isAhead 79 = .ok (.iaload, 1) := by decide +kernel
theorem dX9_isAhead_80 : decode cX9_isAhead 80 = .ok (.isub, 1) := by decide +kernel
theorem dX9_isAhead_81 : decode cX9_isAhead 81 = .ok (.invokestatic 229, 3) := by decide +kernel
theorem dX9_isAhead_84 : decode cX9_isAhead 84 = .ok (.istore 8, 2) := by decide +kernel
theorem dX9_isAhead_86 : decode cX9_isAhead 86 = .ok (.aload_n 0, 1) := by decide +kernel
theorem dX9_isAhead_87 : decode cX9_isAhead 87 = .ok (.getfield 52, 3) := by decide +kernel
theorem dX9_isAhead_90 : decode cX9_isAhead 90 = .ok (.iload_n 3, 1) := by decide +kernel
theorem dX9_isAhead_91 : decode cX9_isAhead 91 = .ok (.bipush 10, 2) := by decide +kernel
theorem dX9_isAhead_93 : decode cX9_isAhead 93 = .ok (.idiv, 1) := by decide +kernel
theorem dX9_isAhead_94 : decode cX9_isAhead 94 = .ok (.bipush 10, 2) := by decide +kernel
theorem dX9_isAhead_96 : decode cX9_isAhead 96 = .ok (.irem, 1) := by decide +kernel
theorem dX9_isAhead_97 : decode cX9_isAhead 97 = .ok (.aaload, 1) := by decide +kernel
theorem dX9_isAhead_98 : decode cX9_isAhead 98 = .ok (.aload_n 0, 1) := by decide +kernel
theorem dX9_isAhead_99 : decode cX9_isAhead 99 = .ok (.iload 5, 2) := by decide +kernel
theorem dX9_isAhead_101 : decode cX9_isAhead 101 = .ok (.invokevirtual 226, 3) := by decide +kernel
theorem dX9_isAhead_104 : decode cX9_isAhead 104 = .ok (.iaload, 1) := by decide +kernel
theorem dX9_isAhead_105 : decode cX9_isAhead 105 = .ok (.aload_n 0, 1) := by decide +kernel
theorem dX9_isAhead_106 : decode cX9_isAhead 106 = .ok (.getfield 52, 3) := by decide +kernel
theorem dX9_isAhead_109 : decode cX9_isAhead 109 = .ok (.iload_n 3, 1) := by decide +kernel
theorem dX9_isAhead_110 : decode cX9_isAhead 110 = .ok (.bipush 10, 2) := by decide +kernel
theorem dX9_isAhead_112 : decode cX9_isAhead 112 = .ok (.irem, 1) := by decide +kernel
theorem dX9_isAhead_113 : decode cX9_isAhead 113 = .ok (.aaload, 1) := by decide +kernel
theorem dX9_isAhead_114 : decode cX9_isAhead 114 = .ok (.aload_n 0, 1) := by decide +kernel
theorem dX9_isAhead_115 : decode cX9_isAhead 115 = .ok (.iload 5, 2) := by decide +kernel
theorem dX9_isAhead_117 : decode cX9_isAhead 117 = .ok (.invokevirtual 226, 3) := by decide +kernel
theorem dX9_isAhead_120 : decode cX9_isAhead 120 = .ok (.iaload, 1) := by decide +kernel
theorem dX9_isAhead_121 : decode cX9_isAhead 121 = .ok (.isub, 1) := by decide +kernel
theorem dX9_isAhead_122 : decode cX9_isAhead 122 = .ok (.invokestatic 229, 3) := by decide +kernel
theorem dX9_isAhead_125 : decode cX9_isAhead 125 = .ok (.istore 9, 2) := by decide +kernel
theorem dX9_isAhead_127 : decode cX9_isAhead 127 = .ok (.goto 95, 3) := by decide +kernel
theorem dX9_isAhead_130 : decode cX9_isAhead 130 = .ok (.iload_n 1, 1) := by decide +kernel
theorem dX9_isAhead_131 : decode cX9_isAhead 131 = .ok (.iconst 2, 1) := by decide +kernel
theorem dX9_isAhead_132 : decode cX9_isAhead 132 = .ok (.if_icmp .ne 62, 3) := by decide +kernel
theorem dX9_isAhead_135 : decode cX9_isAhead 135 = .ok (.aload_n 0, 1) := by decide +kernel
theorem dX9_isAhead_136 : decode cX9_isAhead 136 = .ok (.getfield 31, 3) := by decide +kernel
theorem dX9_isAhead_139 : decode cX9_isAhead 139 = .ok (.iload_n 2, 1) := by decide +kernel
theorem dX9_isAhead_140 : decode cX9_isAhead 140 = .ok (.bipush 10, 2) := by decide +kernel
theorem dX9_isAhead_142 : decode cX9_isAhead 142 = .ok (.idiv, 1) := by decide +kernel
theorem dX9_isAhead_143 : decode cX9_isAhead 143 = .ok (.bipush 10, 2) := by decide +kernel
theorem dX9_isAhead_145 : decode cX9_isAhead 145 = .ok (.irem, 1) := by decide +kernel
theorem dX9_isAhead_146 : decode cX9_isAhead 146 = .ok (.aaload, 1) := by decide +kernel
theorem dX9_isAhead_147 : decode cX9_isAhead 147 = .ok (.iconst 4, 1) := by decide +kernel
theorem dX9_isAhead_148 : decode cX9_isAhead 148 = .ok (.iaload, 1) := by decide +kernel
theorem dX9_isAhead_149 : decode cX9_isAhead 149 = .ok (.aload_n 0, 1) := by decide +kernel
theorem dX9_isAhead_150 : decode cX9_isAhead 150 = .ok (.getfield 31, 3) := by decide +kernel
theorem dX9_isAhead_153 : decode cX9_isAhead 153 = .ok (.iload_n 2, 1) := by decide +kernel
theorem dX9_isAhead_154 : decode cX9_isAhead 154 = .ok (.bipush 10, 2) := by decide +kernel
theorem dX9_isAhead_156 : decode cX9_isAhead 156 = .ok (.irem, 1) := by decide +kernel
theorem dX9_isAhead_157 : decode cX9_isAhead 157 = .ok (.aaload, 1) := by decide +kernel
theorem dX9_isAhead_158 : decode cX9_isAhead 158 = .ok (.iconst 4, 1) := by decide +kernel
theorem dX9_isAhead_159 : decode cX9_isAhead 159 = .ok (.iaload, 1) := by decide +kernel
theorem dX9_isAhead_160 : decode cX9_isAhead 160 = .ok (.iadd, 1) := by decide +kernel
theorem dX9_isAhead_161 : decode cX9_isAhead 161 = .ok (.istore 8, 2) := by decide +kernel
theorem dX9_isAhead_163 : decode cX9_isAhead 163 = .ok (.aload_n 0, 1) := by decide +kernel
theorem dX9_isAhead_164 : decode cX9_isAhead 164 = .ok (.getfield 31, 3) := by decide +kernel
theorem dX9_isAhead_167 : decode cX9_isAhead 167 = .ok (.iload_n 3, 1) := by decide +kernel
theorem dX9_isAhead_168 : decode cX9_isAhead 168 = .ok (.bipush 10, 2) := by decide +kernel
theorem dX9_isAhead_170 : decode cX9_isAhead 170 = .ok (.idiv, 1) := by decide +kernel
theorem dX9_isAhead_171 : decode cX9_isAhead 171 = .ok (.bipush 10, 2) := by decide +kernel
theorem dX9_isAhead_173 : decode cX9_isAhead 173 = .ok (.irem, 1) := by decide +kernel
theorem dX9_isAhead_174 : decode cX9_isAhead 174 = .ok (.aaload, 1) := by decide +kernel
theorem dX9_isAhead_175 : decode cX9_isAhead 175 = .ok (.iconst 4, 1) := by decide +kernel
theorem dX9_isAhead_176 : decode cX9_isAhead 176 = .ok (.iaload, 1) := by decide +kernel
theorem dX9_isAhead_177 : decode cX9_isAhead 177 = .ok (.aload_n 0, 1) := by decide +kernel
theorem dX9_isAhead_178 : decode cX9_isAhead 178 = .ok (.getfield 31, 3) := by decide +kernel
theorem dX9_isAhead_181 : decode cX9_isAhead 181 = .ok (.iload_n 3, 1) := by decide +kernel
theorem dX9_isAhead_182 : decode cX9_isAhead 182 = .ok (.bipush 10, 2) := by decide +kernel
theorem dX9_isAhead_184 : decode cX9_isAhead 184 = .ok (.irem, 1) := by decide +kernel
theorem dX9_isAhead_185 : decode cX9_isAhead 185 = .ok (.aaload, 1) := by decide +kernel
theorem dX9_isAhead_186 : decode cX9_isAhead 186 = .ok (.iconst 4, 1) := by decide +kernel
theorem dX9_isAhead_187 : decode cX9_isAhead 187 = .ok (.iaload, 1) := by decide +kernel
theorem dX9_isAhead_188 : decode cX9_isAhead 188 = .ok (.iadd, 1) := by decide +kernel
theorem dX9_isAhead_189 : decode cX9_isAhead 189 = .ok (.istore 9, 2) := by decide +kernel
theorem dX9_isAhead_191 : decode cX9_isAhead 191 = .ok (.goto 31, 3) := by decide +kernel
theorem dX9_isAhead_194 : decode cX9_isAhead 194 = .ok (.iload 6, 2) := by decide +kernel
theorem dX9_isAhead_196 : decode cX9_isAhead 196 = .ok (.aload_n 0, 1) := by decide +kernel
theorem dX9_isAhead_197 : decode cX9_isAhead 197 = .ok (.getfield 37, 3) := by decide +kernel
theorem dX9_isAhead_200 : decode cX9_isAhead 200 = .ok (.iload 5, 2) := by decide +kernel
theorem dX9_isAhead_202 : decode cX9_isAhead 202 = .ok (.aaload, 1) := by decide +kernel
theorem dX9_isAhead_203 : decode cX9_isAhead 203 = .ok (.iconst 1, 1) := by decide +kernel
theorem dX9_isAhead_204 : decode cX9_isAhead 204 = .ok (.iaload, 1) := by decide +kernel
theorem dX9_isAhead_205 : decode cX9_isAhead 205 = .ok (.imul, 1) := by decide +kernel
theorem dX9_isAhead_206 : decode cX9_isAhead 206 = .ok (.istore 8, 2) := by decide +kernel
theorem dX9_isAhead_208 : decode cX9_isAhead 208 = .ok (.iload 7, 2) := by decide +kernel
theorem dX9_isAhead_210 : decode cX9_isAhead 210 = .ok (.aload_n 0, 1) := by decide +kernel
theorem dX9_isAhead_211 : decode cX9_isAhead 211 = .ok (.getfield 37, 3) := by decide +kernel
theorem dX9_isAhead_214 : decode cX9_isAhead 214 = .ok (.iload 4, 2) := by decide +kernel
theorem dX9_isAhead_216 : decode cX9_isAhead 216 = .ok (.aaload, 1) := by decide +kernel
theorem dX9_isAhead_217 : decode cX9_isAhead 217 = .ok (.iconst 1, 1) := by decide +kernel
theorem dX9_isAhead_218 : decode cX9_isAhead 218 = .ok (.iaload, 1) := by decide +kernel
theorem dX9_isAhead_219 : decode cX9_isAhead 219 = .ok (.imul, 1) := by decide +kernel
theorem dX9_isAhead_220 : decode cX9_isAhead 220 = .ok (.istore 9, 2) := by decide +kernel
theorem dX9_isAhead_222 : decode cX9_isAhead 222 = .ok (.iload_n 1, 1) := by decide +kernel
theorem dX9_isAhead_223 : decode cX9_isAhead 223 = .ok (.iconst 1, 1) := by decide +kernel
theorem dX9_isAhead_224 : decode cX9_isAhead 224 = .ok (.if_icmp .eq 8, 3) := by decide +kernel
theorem dX9_isAhead_227 : decode cX9_isAhead 227 = .ok (.iload_n 1, 1) := by decide +kernel
theorem dX9_isAhead_228 : decode cX9_isAhead 228 = .ok (.iconst 2, 1) := by decide +kernel
theorem dX9_isAhead_229 : decode cX9_isAhead 229 = .ok (.if_icmp .ne 11, 3) := by decide +kernel
theorem dX9_isAhead_232 : decode cX9_isAhead 232 = .ok (.iload 9, 2) := by decide +kernel
theorem dX9_isAhead_234 : decode cX9_isAhead 234 = .ok (.iload 8, 2) := by decide +kernel
theorem dX9_isAhead_236 : decode cX9_isAhead 236 = .ok (.isub, 1) := by decide +kernel
theorem dX9_isAhead_237 : decode cX9_isAhead 237 = .ok (.goto 8, 3) := by decide +kernel
theorem dX9_isAhead_240 : decode cX9_isAhead 240 = .ok (.iload 8, 2) := by decide +kernel
theorem dX9_isAhead_242 : decode cX9_isAhead 242 = .ok (.iload 9, 2) := by decide +kernel
theorem dX9_isAhead_244 : decode cX9_isAhead 244 = .ok (.isub, 1) := by decide +kernel
theorem dX9_isAhead_245 : decode cX9_isAhead 245 = .ok (.istore 10, 2) := by decide +kernel
theorem dX9_isAhead_247 : decode cX9_isAhead 247 = .ok (.iload 10, 2) := by decide +kernel
theorem dX9_isAhead_249 : decode cX9_isAhead 249 = .ok (.ifCond .gt 15, 3) := by decide +kernel
theorem dX9_isAhead_252 : decode cX9_isAhead 252 = .ok (.iload 10, 2) := by decide +kernel
theorem dX9_isAhead_254 : decode cX9_isAhead 254 = .ok (.ifCond .ne 14, 3) := by decide +kernel
theorem dX9_isAhead_257 : decode cX9_isAhead 257 = .ok (.iload 6, 2) := by decide +kernel
theorem dX9_isAhead_259 : decode cX9_isAhead 259 = .ok (.iload 7, 2) := by decide +kernel
theorem dX9_isAhead_261 : decode cX9_isAhead 261 = .ok (.if_icmp .le 7, 3) := by decide +kernel
theorem dX9_isAhead_264 : decode cX9_isAhead 264 = .ok (.iconst 1, 1) := by decide +kernel
theorem dX9_isAhead_265 : decode cX9_isAhead 265 = .ok (.goto 4, 3) := by decide +kernel
theorem dX9_isAhead_268 : decode cX9_isAhead 268 = .ok (.iconst 0, 1) := by decide +kernel
theorem dX9_isAhead_269 : decode cX9_isAhead 269 = .ok (.ireturn, 1) := by decide +kernel
theorem dX9_chosen_0 : decode cX9_chosen 0 = .ok (.iconst (-1), 1) := by decide +kernel
theorem dX9_chosen_1 : decode cX9_chosen 1 = .ok (.istore_n 2, 1) := by decide +kernel
theorem dX9_chosen_2 : decode cX9_chosen 2 = .ok (.iconst 0, 1) := by decide +kernel
theorem dX9_chosen_3 : decode cX9_chosen 3 = .ok (.istore_n 3, 1) := by decide +kernel
theorem dX9_chosen_4 : decode cX9_chosen 4 = .ok (.iload_n 3, 1) := by decide +kernel
theorem dX9_chosen_5 : decode cX9_chosen 5 = .ok (.bipush 64, 2) := by decide +kernel
theorem dX9_chosen_7 : decode cX9_chosen 7 = .ok (.aload_n 0, 1) := by decide +kernel
theorem dX9_chosen_8 : decode cX9_chosen 8 = .ok (.getfield 23, 3) := by decide +kernel
theorem dX9_chosen_11 : decode cX9_chosen 11 = .ok (.iconst 2, 1) := by decide +kernel
theorem dX9_chosen_12 : decode cX9_chosen 12 = .ok (.iaload, 1) := by decide +kernel
theorem dX9_chosen_13 : decode cX9_chosen 13 = .ok (.imul, 1) := by decide +kernel
theorem dX9_chosen_14 : decode cX9_chosen 14 = .ok (.if_icmp .ge 94, 3) := by decide +kernel
theorem dX9_chosen_17 : decode cX9_chosen 17 = .ok (.iload_n 3, 1) := by decide +kernel
theorem dX9_chosen_18 : decode cX9_chosen 18 = .ok (.bipush 64, 2) := by decide +kernel
theorem dX9_chosen_20 : decode cX9_chosen 20 = .ok (.idiv, 1) := by decide +kernel
theorem dX9_chosen_21 : decode cX9_chosen 21 = .ok (.istore 4, 2) := by decide +kernel
theorem dX9_chosen_23 : decode cX9_chosen 23 = .ok (.iload_n 3, 1) := by decide +kernel
theorem dX9_chosen_24 : decode cX9_chosen 24 = .ok (.bipush 8, 2) := by decide +kernel
theorem dX9_chosen_26 : decode cX9_chosen 26 = .ok (.idiv, 1) := by decide +kernel
theorem dX9_chosen_27 : decode cX9_chosen 27 = .ok (.bipush 8, 2) := by decide +kernel
theorem dX9_chosen_29 : decode cX9_chosen 29 = .ok (.irem, 1) := by decide +kernel
theorem dX9_chosen_30 : decode cX9_chosen 30 = .ok (.istore 5, 2) := by decide +kernel
theorem dX9_chosen_32 : decode cX9_chosen 32 = .ok (.iload_n 3, 1) := by decide +kernel
theorem dX9_chosen_33 : decode cX9_chosen 33 = .ok (.bipush 8, 2) := by decide +kernel
theorem dX9_chosen_35 : decode cX9_chosen 35 = .ok (.irem, 1) := by decide +kernel
theorem dX9_chosen_36 : decode cX9_chosen 36 = .ok (.istore 6, 2) := by decide +kernel
theorem dX9_chosen_38 : decode cX9_chosen 38 = .ok (.iload 5, 2) := by decide +kernel
theorem dX9_chosen_40 : decode cX9_chosen 40 = .ok (.iload 6, 2) := by decide +kernel
theorem dX9_chosen_42 : decode cX9_chosen 42 = .ok (.if_icmp .ge 60, 3) := by decide +kernel
theorem dX9_chosen_45 : decode cX9_chosen 45 = .ok (.iload 6, 2) := by decide +kernel
theorem dX9_chosen_47 : decode cX9_chosen 47 = .ok (.aload_n 0, 1) := by decide +kernel
theorem dX9_chosen_48 : decode cX9_chosen 48 = .ok (.getfield 23, 3) := by decide +kernel
theorem dX9_chosen_51 : decode cX9_chosen 51 = .ok (.iconst 1, 1) := by decide +kernel
theorem dX9_chosen_52 : decode cX9_chosen 52 = .ok (.iaload, 1) := by decide +kernel
theorem dX9_chosen_53 : decode cX9_chosen 53 = .ok (.if_icmp .ge 49, 3) := by decide +kernel
theorem dX9_chosen_56 : decode cX9_chosen 56 = .ok (.aload_n 0, 1) := by decide +kernel
theorem dX9_chosen_57 : decode cX9_chosen 57 = .ok (.iload 4, 2) := by decide +kernel
theorem dX9_chosen_59 : decode cX9_chosen 59 = .ok (.iload 5, 2) := by decide +kernel
theorem dX9_chosen_61 : decode cX9_chosen 61 = .ok (.iload 6, 2) := by decide +kernel
theorem dX9_chosen_63 : decode cX9_chosen 63 = .ok (.invokevirtual 275, 3) := by decide +kernel
theorem dX9_chosen_66 : decode cX9_chosen 66 = .ok (.ifCond .eq 36, 3) := by decide +kernel
theorem dX9_chosen_69 : decode cX9_chosen 69 = .ok (.iload_n 2, 1) := by decide +kernel
theorem dX9_chosen_70 : decode cX9_chosen 70 = .ok (.iconst (-1), 1) := by decide +kernel
theorem dX9_chosen_71 : decode cX9_chosen 71 = .ok (.if_icmp .eq 21, 3) := by decide +kernel
theorem dX9_chosen_74 : decode cX9_chosen 74 = .ok (.aload_n 0, 1) := by decide +kernel
theorem dX9_chosen_75 : decode cX9_chosen 75 = .ok (.iload_n 1, 1) := by decide +kernel
theorem dX9_chosen_76 : decode cX9_chosen 76 = .ok (.iload 4, 2) := by decide +kernel
theorem dX9_chosen_78 : decode cX9_chosen 78 = .ok (.iload 5, 2) := by decide +kernel
theorem dX9_chosen_80 : decode cX9_chosen 80 = .ok (.iload 6, 2) := by decide +kernel
theorem dX9_chosen_82 : decode cX9_chosen 82 = .ok (.invokestatic 296, 3) := by decide +kernel
theorem dX9_chosen_85 : decode cX9_chosen 85 = .ok (.iload_n 2, 1) := by decide +kernel
theorem dX9_chosen_86 : decode cX9_chosen 86 = .ok (.invokevirtual 302, 3) := by decide +kernel
theorem dX9_chosen_89 : decode cX9_chosen 89 = .ok (.ifCond .eq 13, 3) := by decide +kernel
theorem dX9_chosen_92 : decode cX9_chosen 92 = .ok (.iload 4, 2) := by decide +kernel
theorem dX9_chosen_94 : decode cX9_chosen 94 = .ok (.iload 5, 2) := by decide +kernel
theorem dX9_chosen_96 : decode cX9_chosen 96 = .ok (.iload 6, 2) := by decide +kernel
theorem dX9_chosen_98 : decode cX9_chosen 98 = .ok (.invokestatic 296, 3) := by decide +kernel
theorem dX9_chosen_101 : decode cX9_chosen 101 = .ok (.istore_n 2, 1) := by decide +kernel
theorem dX9_chosen_102 : decode cX9_chosen 102 = .ok (.iinc 3 1, 3) := by decide +kernel
theorem dX9_chosen_105 : decode cX9_chosen 105 = .ok (.goto (-101), 3) := by decide +kernel
theorem dX9_chosen_108 : decode cX9_chosen 108 = .ok (.iload_n 2, 1) := by decide +kernel
theorem dX9_chosen_109 : decode cX9_chosen 109 = .ok (.ireturn, 1) := by decide +kernel
theorem dX9_runs_0 : decode cX9_runs 0 = .ok (.aload_n 0, 1) := by decide +kernel
theorem dX9_runs_1 : decode cX9_runs 1 = .ok (.iconst 0, 1) := by decide +kernel
theorem dX9_runs_2 : decode cX9_runs 2 = .ok (.iconst 0, 1) := by decide +kernel
theorem dX9_runs_3 : decode cX9_runs 3 = .ok (.invokevirtual 248, 3) := by decide +kernel
theorem dX9_runs_6 : decode cX9_runs 6 = .ok (.iconst 0, 1) := by decide +kernel
theorem dX9_runs_7 : decode cX9_runs 7 = .ok (.istore 4, 2) := by decide +kernel
theorem dX9_runs_9 : decode cX9_runs 9 = .ok (.iload 4, 2) := by decide +kernel
theorem dX9_runs_11 : decode cX9_runs 11 = .ok (.iconst 4, 1) := by decide +kernel
theorem dX9_runs_12 : decode cX9_runs 12 = .ok (.if_icmp .ge 27, 3) := by decide +kernel
theorem dX9_runs_15 : decode cX9_runs 15 = .ok (.aload_n 0, 1) := by decide +kernel
theorem dX9_runs_16 : decode cX9_runs 16 = .ok (.getfield 88, 3) := by decide +kernel
theorem dX9_runs_19 : decode cX9_runs 19 = .ok (.iload 4, 2) := by decide +kernel
theorem dX9_runs_21 : decode cX9_runs 21 = .ok (.iload 4, 2) := by decide +kernel
theorem dX9_runs_23 : decode cX9_runs 23 = .ok (.iconst 3, 1) := by decide +kernel
theorem dX9_runs_24 : decode cX9_runs 24 = .ok (.if_icmp .ne 7, 3) := by decide +kernel
theorem dX9_runs_27 : decode cX9_runs 27 = .ok (.iconst (-1), 1) := by decide +kernel
theorem dX9_runs_28 : decode cX9_runs 28 = .ok (.goto 4, 3) := by decide +kernel
theorem dX9_runs_31 : decode cX9_runs 31 = .ok (.iconst 0, 1) := by decide +kernel
theorem dX9_runs_32 : decode cX9_runs 32 = .ok (.iastore, 1) := by decide +kernel
theorem dX9_runs_33 : decode cX9_runs 33 = .ok (.iinc 4 1, 3) := by decide +kernel
theorem dX9_runs_36 : decode cX9_runs 36 = .ok (.goto (-27), 3) := by decide +kernel
theorem dX9_runs_39 : decode cX9_runs 39 = .ok (.aload_n 0, 1) := by decide +kernel
theorem dX9_runs_40 : decode cX9_runs 40 = .ok (.iconst (-1), 1) := by decide +kernel
theorem dX9_runs_41 : decode cX9_runs 41 = .ok (.putfield 305, 3) := by decide +kernel
theorem dX9_runs_44 : decode cX9_runs 44 = .ok (.iconst 0, 1) := by decide +kernel
theorem dX9_runs_45 : decode cX9_runs 45 = .ok (.istore 4, 2) := by decide +kernel
theorem dX9_runs_47 : decode cX9_runs 47 = .ok (.iload 4, 2) := by decide +kernel
theorem dX9_runs_49 : decode cX9_runs 49 = .ok (.iload_n 2, 1) := by decide +kernel
theorem dX9_runs_50 : decode cX9_runs 50 = .ok (.if_icmp .ge 288, 3) := by decide +kernel
theorem dX9_runs_53 : decode cX9_runs 53 = .ok (.iload 4, 2) := by decide +kernel
theorem dX9_runs_55 : decode cX9_runs 55 = .ok (.ifCond .le 17, 3) := by decide +kernel
theorem dX9_runs_58 : decode cX9_runs 58 = .ok (.aload_n 0, 1) := by decide +kernel
theorem dX9_runs_59 : decode cX9_runs 59 = .ok (.dup, 1) := by decide +kernel
theorem dX9_runs_60 : decode cX9_runs 60 = .ok (.getfield 198, 3) := by decide +kernel
theorem dX9_runs_63 : decode cX9_runs 63 = .ok (.iconst 1, 1) := by decide +kernel
theorem dX9_runs_64 : decode cX9_runs 64 = .ok (.iadd, 1) := by decide +kernel
theorem dX9_runs_65 : decode cX9_runs 65 = .ok (.putfield 198, 3) := by decide +kernel
theorem dX9_runs_68 : decode cX9_runs 68 = .ok (.aload_n 0, 1) := by decide +kernel
theorem dX9_runs_69 : decode cX9_runs 69 = .ok (.invokevirtual 207, 3) := by decide +kernel
theorem dX9_runs_72 : decode cX9_runs 72 = .ok (.aload_n 0, 1) := by decide +kernel
theorem dX9_runs_73 : decode cX9_runs 73 = .ok (.iconst (-1), 1) := by decide +kernel
theorem dX9_runs_74 : decode cX9_runs 74 = .ok (.putfield 70, 3) := by decide +kernel
theorem dX9_runs_77 : decode cX9_runs 77 = .ok (.iload_n 3, 1) := by decide +kernel
theorem dX9_runs_78 : decode cX9_runs 78 = .ok (.ifCond .eq 50, 3) := by decide +kernel
theorem dX9_runs_81 : decode cX9_runs 81 = .ok (.aload_n 0, 1) := by decide +kernel
theorem dX9_runs_82 : decode cX9_runs 82 = .ok (.getfield 23, 3) := by decide +kernel
theorem dX9_runs_85 : decode cX9_runs 85 = .ok (.iconst 0, 1) := by decide +kernel
theorem dX9_runs_86 : decode cX9_runs 86 = .ok (.iaload, 1) := by decide +kernel
theorem dX9_runs_87 : decode cX9_runs 87 = .ok (.ifCond .le 41, 3) := by decide +kernel
theorem dX9_runs_90 : decode cX9_runs 90 = .ok (.aload_n 0, 1) := by decide +kernel
theorem dX9_runs_91 : decode cX9_runs 91 = .ok (.aload_n 0, 1) := by decide +kernel
theorem dX9_runs_92 : decode cX9_runs 92 = .ok (.getfield 308, 3) := by decide +kernel
theorem dX9_runs_95 : decode cX9_runs 95 = .ok (.ldc_w 311, 3) := by decide +kernel
theorem dX9_runs_98 : decode cX9_runs 98 = .ok (.imul, 1) := by decide +kernel
theorem dX9_runs_99 : decode cX9_runs 99 = .ok (.sipush 12345, 3) := by decide +kernel
theorem dX9_runs_102 : decode cX9_runs 102 = .ok (.iadd, 1) := by decide +kernel
theorem dX9_runs_103 : decode cX9_runs 103 = .ok (.putfield 308, 3) := by decide +kernel
theorem dX9_runs_106 : decode cX9_runs 106 = .ok (.aload_n 0, 1) := by decide +kernel
theorem dX9_runs_107 : decode cX9_runs 107 = .ok (.aload_n 0, 1) := by decide +kernel
theorem dX9_runs_108 : decode cX9_runs 108 = .ok (.getfield 308, 3) := by decide +kernel
theorem dX9_runs_111 : decode cX9_runs 111 = .ok (.bipush 16, 2) := by decide +kernel
theorem dX9_runs_113 : decode cX9_runs 113 = .ok (.ishr, 1) := by decide +kernel
theorem dX9_runs_114 : decode cX9_runs 114 = .ok (.sipush 32767, 3) := by decide +kernel
theorem dX9_runs_117 : decode cX9_runs 117 = .ok (.iand, 1) := by decide +kernel
theorem dX9_runs_118 : decode cX9_runs 118 = .ok (.aload_n 0, 1) := by decide +kernel
theorem dX9_runs_119 : decode cX9_runs 119 = .ok (.getfield 23, 3) := by decide +kernel
theorem dX9_runs_122 : decode cX9_runs 122 = .ok (.iconst 0, 1) := by decide +kernel
theorem dX9_runs_123 : decode cX9_runs 123 = .ok (.iaload, 1) := by decide +kernel
theorem dX9_runs_124 : decode cX9_runs 124 = .ok (.irem, 1) := by decide +kernel
theorem dX9_runs_125 : decode cX9_runs 125 = .ok (.putfield 70, 3) := by decide +kernel
theorem dX9_runs_128 : decode cX9_runs 128 = .ok (.iconst 0, 1) := by decide +kernel
theorem dX9_runs_129 : decode cX9_runs 129 = .ok (.istore 5, 2) := by decide +kernel
theorem dX9_runs_131 : decode cX9_runs 131 = .ok (.aload_n 0, 1) := by decide +kernel
theorem dX9_runs_132 : decode cX9_runs 132 = .ok (.getfield 88, 3) := by decide +kernel
theorem dX9_runs_135 : decode cX9_runs 135 = .ok (.iconst 1, 1) := by decide +kernel
theorem dX9_runs_136 : decode cX9_runs 136 = .ok (.iaload, 1) := by decide +kernel
theorem dX9_runs_137 : decode cX9_runs 137 = .ok (.istore 6, 2) := by decide +kernel
theorem dX9_runs_139 : decode cX9_runs 139 = .ok (.iconst 0, 1) := by decide +kernel
theorem dX9_runs_140 : decode cX9_runs 140 = .ok (.istore 7, 2) := by decide +kernel
theorem dX9_runs_142 : decode cX9_runs 142 = .ok (.iload 7, 2) := by decide +kernel
theorem dX9_runs_144 : decode cX9_runs 144 = .ok (.aload_n 0, 1) := by decide +kernel
theorem dX9_runs_145 : decode cX9_runs 145 = .ok (.getfield 23, 3) := by decide +kernel
theorem dX9_runs_148 : decode cX9_runs 148 = .ok (.iconst 2, 1) := by decide +kernel
theorem dX9_runs_149 : decode cX9_runs 149 = .ok (.iaload, 1) := by decide +kernel
theorem dX9_runs_150 : decode cX9_runs 150 = .ok (.if_icmp .ge 47, 3) := by decide +kernel
theorem dX9_runs_153 : decode cX9_runs 153 = .ok (.iload 5, 2) := by decide +kernel
theorem dX9_runs_155 : decode cX9_runs 155 = .ok (.ifCond .ne 29, 3) := by decide +kernel
theorem dX9_runs_158 : decode cX9_runs 158 = .ok (.aload_n 0, 1) := by decide +kernel
theorem dX9_runs_159 : decode cX9_runs 159 = .ok (.getfield 61, 3) := by decide +kernel
theorem dX9_runs_162 : decode cX9_runs 162 = .ok (.iload 7, 2) := by decide +kernel
theorem dX9_runs_164 : decode cX9_runs 164 = .ok (.iaload, 1) := by decide +kernel
theorem dX9_runs_165 : decode cX9_runs 165 = .ok (.ifCond .ne 23, 3) := by decide +kernel
theorem dX9_runs_168 : decode cX9_runs 168 = .ok (.aload_n 0, 1) := by decide +kernel
theorem dX9_runs_169 : decode cX9_runs 169 = .ok (.getfield 198, 3) := by decide +kernel
theorem dX9_runs_172 : decode cX9_runs 172 = .ok (.aload_n 0, 1) := by decide +kernel
theorem dX9_runs_173 : decode cX9_runs 173 = .ok (.getfield 37, 3) := by decide +kernel
theorem dX9_runs_176 : decode cX9_runs 176 = .ok (.iload 7, 2) := by decide +kernel
theorem dX9_runs_178 : decode cX9_runs 178 = .ok (.aaload, 1) := by decide +kernel
theorem dX9_runs_179 : decode cX9_runs 179 = .ok (.iconst 2, 1) := by decide +kernel
theorem dX9_runs_180 : decode cX9_runs 180 = .ok (.iaload, 1) := by decide +kernel
theorem dX9_runs_181 : decode cX9_runs 181 = .ok (.if_icmp .gt 7, 3) := by decide +kernel
theorem dX9_runs_184 : decode cX9_runs 184 = .ok (.iconst 1, 1) := by decide +kernel
theorem dX9_runs_185 : decode cX9_runs 185 = .ok (.goto 4, 3) := by decide +kernel
theorem dX9_runs_188 : decode cX9_runs 188 = .ok (.iconst 0, 1) := by decide +kernel
theorem dX9_runs_189 : decode cX9_runs 189 = .ok (.istore 5, 2) := by decide +kernel
theorem dX9_runs_191 : decode cX9_runs 191 = .ok (.iinc 7 1, 3) := by decide +kernel
theorem dX9_runs_194 : decode cX9_runs 194 = .ok (.goto (-52), 3) := by decide +kernel
theorem dX9_runs_197 : decode cX9_runs 197 = .ok (.aload_n 0, 1) := by decide +kernel
theorem dX9_runs_198 : decode cX9_runs 198 = .ok (.iload_n 1, 1) := by decide +kernel
theorem dX9_runs_199 : decode cX9_runs 199 = .ok (.invokevirtual 312, 3) := by decide +kernel
theorem dX9_runs_202 : decode cX9_runs 202 = .ok (.istore 7, 2) := by decide +kernel
theorem dX9_runs_204 : decode cX9_runs 204 = .ok (.iload 7, 2) := by decide +kernel
theorem dX9_runs_206 : decode cX9_runs 206 = .ok (.iconst (-1), 1) := by decide +kernel
theorem dX9_runs_207 : decode cX9_runs 207 = .ok (.if_icmp .eq 93, 3) := by decide +kernel
theorem dX9_runs_210 : decode cX9_runs 210 = .ok (.aload_n 0, 1) := by decide +kernel
theorem dX9_runs_211 : decode cX9_runs 211 = .ok (.getfield 88, 3) := by decide +kernel
theorem dX9_runs_214 : decode cX9_runs 214 = .ok (.iconst 0, 1) := by decide +kernel
theorem dX9_runs_215 : decode cX9_runs 215 = .ok (.dup2, 1) := by decide +kernel
theorem dX9_runs_216 : decode cX9_runs 216 = .ok (.iaload, 1) := by decide +kernel
theorem dX9_runs_217 : decode cX9_runs 217 = .ok (.aload_n 0, 1) := by decide +kernel
theorem dX9_runs_218 : decode cX9_runs 218 = .ok (.getfield 37, 3) := by decide +kernel
theorem dX9_runs_221 : decode cX9_runs 221 = .ok (.iload 7, 2) := by decide +kernel
theorem dX9_runs_223 : decode cX9_runs 223 = .ok (.bipush 100, 2) := by decide +kernel
theorem dX9_runs_225 : decode cX9_runs 225 = .ok (.idiv, 1) := by decide +kernel
theorem dX9_runs_226 : decode cX9_runs 226 = .ok (.aaload, 1) := by decide +kernel
theorem dX9_runs_227 : decode cX9_runs 227 = .ok (.iconst 0, 1) := by decide +kernel
theorem dX9_runs_228 : decode cX9_runs 228 = .ok (.iaload, 1) := by decide +kernel
theorem dX9_runs_229 : decode cX9_runs 229 = .ok (.iadd, 1) := by decide +kernel
theorem dX9_runs_230 : decode cX9_runs 230 = .ok (.iastore, 1) := by decide +kernel
theorem dX9_runs_231 : decode cX9_runs 231 = .ok (.aload_n 0, 1) := by decide +kernel
theorem dX9_runs_232 : decode cX9_runs 232 = .ok (.getfield 88, 3) := by decide +kernel
theorem dX9_runs_235 : decode cX9_runs 235 = .ok (.iconst 1, 1) := by decide +kernel
theorem dX9_runs_236 : decode cX9_runs 236 = .ok (.dup2, 1) := by decide +kernel
theorem dX9_runs_237 : decode cX9_runs 237 = .ok (.iaload, 1) := by decide +kernel
theorem dX9_runs_238 : decode cX9_runs 238 = .ok (.iconst 1, 1) := by decide +kernel
theorem dX9_runs_239 : decode cX9_runs 239 = .ok (.iadd, 1) := by decide +kernel
theorem dX9_runs_240 : decode cX9_runs 240 = .ok (.iastore, 1) := by decide +kernel
theorem dX9_runs_241 : decode cX9_runs 241 = .ok (.aload_n 0, 1) := by decide +kernel
theorem dX9_runs_242 : decode cX9_runs 242 = .ok (.getfield 88, 3) := by decide +kernel
theorem dX9_runs_245 : decode cX9_runs 245 = .ok (.iconst 3, 1) := by decide +kernel
theorem dX9_runs_246 : decode cX9_runs 246 = .ok (.aload_n 0, 1) := by decide +kernel
theorem dX9_runs_247 : decode cX9_runs 247 = .ok (.getfield 88, 3) := by decide +kernel
theorem dX9_runs_250 : decode cX9_runs 250 = .ok (.iconst 3, 1) := by decide +kernel
theorem dX9_runs_251 : decode cX9_runs 251 = .ok (.iaload, 1) := by decide +kernel
theorem dX9_runs_252 : decode cX9_runs 252 = .ok (.iconst (-1), 1) := by decide +kernel
theorem dX9_runs_253 : decode cX9_runs 253 = .ok (.if_icmp .ne 8, 3) := by decide +kernel
theorem dX9_runs_256 : decode cX9_runs 256 = .ok (.iload 7, 2) := by decide +kernel
theorem dX9_runs_258 : decode cX9_runs 258 = .ok (.goto 9, 3) := by decide +kernel
theorem dX9_runs_261 : decode cX9_runs 261 = .ok (.aload_n 0, 1) := by decide +kernel
theorem dX9_runs_262 : decode cX9_runs 262 = .ok (.getfield 88, 3) := by decide +kernel
theorem dX9_runs_265 : decode cX9_runs 265 = .ok (.iconst 3, 1) := by decide +kernel
theorem dX9_runs_266 : decode cX9_runs 266 = .ok (.iaload, 1) := by decide +kernel
theorem dX9_runs_267 : decode cX9_runs 267 = .ok (.iastore, 1) := by decide +kernel
theorem dX9_runs_268 : decode cX9_runs 268 = .ok (.aload_n 0, 1) := by decide +kernel
theorem dX9_runs_269 : decode cX9_runs 269 = .ok (.iload 7, 2) := by decide +kernel
theorem dX9_runs_271 : decode cX9_runs 271 = .ok (.bipush 100, 2) := by decide +kernel
theorem dX9_runs_273 : decode cX9_runs 273 = .ok (.idiv, 1) := by decide +kernel
theorem dX9_runs_274 : decode cX9_runs 274 = .ok (.iload 7, 2) := by decide +kernel
theorem dX9_runs_276 : decode cX9_runs 276 = .ok (.bipush 10, 2) := by decide +kernel
theorem dX9_runs_278 : decode cX9_runs 278 = .ok (.idiv, 1) := by decide +kernel
theorem dX9_runs_279 : decode cX9_runs 279 = .ok (.bipush 10, 2) := by decide +kernel
theorem dX9_runs_281 : decode cX9_runs 281 = .ok (.irem, 1) := by decide +kernel
theorem dX9_runs_282 : decode cX9_runs 282 = .ok (.iload 7, 2) := by decide +kernel
theorem dX9_runs_284 : decode cX9_runs 284 = .ok (.bipush 10, 2) := by decide +kernel
theorem dX9_runs_286 : decode cX9_runs 286 = .ok (.irem, 1) := by decide +kernel
theorem dX9_runs_287 : decode cX9_runs 287 = .ok (.invokevirtual 242, 3) := by decide +kernel
theorem dX9_runs_290 : decode cX9_runs 290 = .ok (.aload_n 0, 1) := by decide +kernel
theorem dX9_runs_291 : decode cX9_runs 291 = .ok (.iload_n 1, 1) := by decide +kernel
theorem dX9_runs_292 : decode cX9_runs 292 = .ok (.invokevirtual 312, 3) := by decide +kernel
theorem dX9_runs_295 : decode cX9_runs 295 = .ok (.istore 7, 2) := by decide +kernel
theorem dX9_runs_297 : decode cX9_runs 297 = .ok (.goto (-93), 3) := by decide +kernel
theorem dX9_runs_300 : decode cX9_runs 300 = .ok (.aload_n 0, 1) := by decide +kernel
theorem dX9_runs_301 : decode cX9_runs 301 = .ok (.getfield 305, 3) := by decide +kernel
theorem dX9_runs_304 : decode cX9_runs 304 = .ok (.iconst (-1), 1) := by decide +kernel
theorem dX9_runs_305 : decode cX9_runs 305 = .ok (.if_icmp .ne 27, 3) := by decide +kernel
theorem dX9_runs_308 : decode cX9_runs 308 = .ok (.iload 5, 2) := by decide +kernel
theorem dX9_runs_310 : decode cX9_runs 310 = .ok (.ifCond .eq 22, 3) := by decide +kernel
theorem dX9_runs_313 : decode cX9_runs 313 = .ok (.aload_n 0, 1) := by decide +kernel
theorem dX9_runs_314 : decode cX9_runs 314 = .ok (.getfield 88, 3) := by decide +kernel
theorem dX9_runs_317 : decode cX9_runs 317 = .ok (.iconst 1, 1) := by decide +kernel
theorem dX9_runs_318 : decode cX9_runs 318 = .ok (.iaload, 1) := by decide +kernel
theorem dX9_runs_319 : decode cX9_runs 319 = .ok (.iload 6, 2) := by decide +kernel
theorem dX9_runs_321 : decode cX9_runs 321 = .ok (.if_icmp .ne 11, 3) := by decide +kernel
theorem dX9_runs_324 : decode cX9_runs 324 = .ok (.aload_n 0, 1) := by decide +kernel
theorem dX9_runs_325 : decode cX9_runs 325 = .ok (.aload_n 0, 1) := by decide +kernel
theorem dX9_runs_326 : decode cX9_runs 326 = .ok (.getfield 198, 3) := by decide +kernel
theorem dX9_runs_329 : decode cX9_runs 329 = .ok (.putfield 305, 3) := by decide +kernel
theorem dX9_runs_332 : decode cX9_runs 332 = .ok (.iinc 4 1, 3) := by decide +kernel
theorem dX9_runs_335 : decode cX9_runs 335 = .ok (.goto (-288), 3) := by decide +kernel
theorem dX9_runs_338 : decode cX9_runs 338 = .ok (.aload_n 0, 1) := by decide +kernel
theorem dX9_runs_339 : decode cX9_runs 339 = .ok (.iconst (-1), 1) := by decide +kernel
theorem dX9_runs_340 : decode cX9_runs 340 = .ok (.putfield 70, 3) := by decide +kernel
theorem dX9_runs_343 : decode cX9_runs 343 = .ok (.iconst 0, 1) := by decide +kernel
theorem dX9_runs_344 : decode cX9_runs 344 = .ok (.istore 4, 2) := by decide +kernel
theorem dX9_runs_346 : decode cX9_runs 346 = .ok (.iload 4, 2) := by decide +kernel
theorem dX9_runs_348 : decode cX9_runs 348 = .ok (.aload_n 0, 1) := by decide +kernel
theorem dX9_runs_349 : decode cX9_runs 349 = .ok (.getfield 23, 3) := by decide +kernel
theorem dX9_runs_352 : decode cX9_runs 352 = .ok (.iconst 2, 1) := by decide +kernel
theorem dX9_runs_353 : decode cX9_runs 353 = .ok (.iaload, 1) := by decide +kernel
theorem dX9_runs_354 : decode cX9_runs 354 = .ok (.if_icmp .ge 25, 3) := by decide +kernel
theorem dX9_runs_357 : decode cX9_runs 357 = .ok (.aload_n 0, 1) := by decide +kernel
theorem dX9_runs_358 : decode cX9_runs 358 = .ok (.getfield 88, 3) := by decide +kernel
theorem dX9_runs_361 : decode cX9_runs 361 = .ok (.iconst 2, 1) := by decide +kernel
theorem dX9_runs_362 : decode cX9_runs 362 = .ok (.dup2, 1) := by decide +kernel
theorem dX9_runs_363 : decode cX9_runs 363 = .ok (.iaload, 1) := by decide +kernel
theorem dX9_runs_364 : decode cX9_runs 364 = .ok (.aload_n 0, 1) := by decide +kernel
theorem dX9_runs_365 : decode cX9_runs 365 = .ok (.getfield 61, 3) := by decide +kernel
theorem dX9_runs_368 : decode cX9_runs 368 = .ok (.iload 4, 2) := by decide +kernel
theorem dX9_runs_370 : decode cX9_runs 370 = .ok (.iaload, 1) := by decide +kernel
theorem dX9_runs_371 : decode cX9_runs 371 = .ok (.iadd, 1) := by decide +kernel
theorem dX9_runs_372 : decode cX9_runs 372 = .ok (.iastore, 1) := by decide +kernel
theorem dX9_runs_373 : decode cX9_runs 373 = .ok (.iinc 4 1, 3) := by decide +kernel
theorem dX9_runs_376 : decode cX9_runs 376 = .ok (.goto (-30), 3) := by decide +kernel
theorem dX9_runs_379 : decode cX9_runs 379 = .ok (.aload_n 0, 1) := by decide +kernel
theorem dX9_runs_380 : decode cX9_runs 380 = .ok (.iconst 0, 1) := by decide +kernel
theorem dX9_runs_381 : decode cX9_runs 381 = .ok (.iconst 1, 1) := by decide +kernel
theorem dX9_runs_382 : decode cX9_runs 382 = .ok (.invokevirtual 248, 3) := by decide +kernel
theorem dX9_runs_385 : decode cX9_runs 385 = .ok (.return_, 1) := by decide +kernel
theorem dX9_run_0 : decode cX9_run 0 = .ok (.aload_n 0, 1) := by decide +kernel
theorem dX9_run_1 : decode cX9_run 1 = .ok (.iconst 0, 1) := by decide +kernel
theorem dX9_run_2 : decode cX9_run 2 = .ok (.putfield 106, 3) := by decide +kernel
theorem dX9_run_5 : decode cX9_run 5 = .ok (.aload_n 0, 1) := by decide +kernel
theorem dX9_run_6 : decode cX9_run 6 = .ok (.iload_n 1, 1) := by decide +kernel
theorem dX9_run_7 : decode cX9_run 7 = .ok (.iconst 0, 1) := by decide +kernel
theorem dX9_run_8 : decode cX9_run 8 = .ok (.iconst 3, 1) := by decide +kernel
theorem dX9_run_9 : decode cX9_run 9 = .ok (.invokestatic 140, 3) := by decide +kernel
theorem dX9_run_12 : decode cX9_run 12 = .ok (.ifCond .eq 20, 3) := by decide +kernel
theorem dX9_run_15 : decode cX9_run 15 = .ok (.aload_n 0, 1) := by decide +kernel
theorem dX9_run_16 : decode cX9_run 16 = .ok (.iload_n 2, 1) := by decide +kernel
theorem dX9_run_17 : decode cX9_run 17 = .ok (.invokevirtual 315, 3) := by decide +kernel
theorem dX9_run_20 : decode cX9_run 20 = .ok (.ifCond .eq 12, 3) := by decide +kernel
theorem dX9_run_23 : decode cX9_run 23 = .ok (.iload_n 3, 1) := by decide +kernel
theorem dX9_run_24 : decode cX9_run 24 = .ok (.iconst 0, 1) := by decide +kernel
theorem dX9_run_25 : decode cX9_run 25 = .ok (.iconst 3, 1) := by decide +kernel
theorem dX9_run_26 : decode cX9_run 26 = .ok (.invokestatic 140, 3) := by decide +kernel
theorem dX9_run_29 : decode cX9_run 29 = .ok (.ifCond .ne 7, 3) := by decide +kernel
theorem dX9_run_32 : decode cX9_run 32 = .ok (.iconst 1, 1) := by decide +kernel
theorem dX9_run_33 : decode cX9_run 33 = .ok (.goto 4, 3) := by decide +kernel
theorem dX9_run_36 : decode cX9_run 36 = .ok (.iconst 0, 1) := by decide +kernel
theorem dX9_run_37 : decode cX9_run 37 = .ok (.iconst 1, 1) := by decide +kernel
theorem dX9_run_38 : decode cX9_run 38 = .ok (.invokevirtual 188, 3) := by decide +kernel
theorem dX9_run_41 : decode cX9_run 41 = .ok (.ifCond .eq 5, 3) := by decide +kernel
theorem dX9_run_44 : decode cX9_run 44 = .ok (.iconst 0, 1) := by decide +kernel
theorem dX9_run_45 : decode cX9_run 45 = .ok (.ireturn, 1) := by decide +kernel
theorem dX9_run_46 : decode cX9_run 46 = .ok (.aload_n 0, 1) := by decide +kernel
theorem dX9_run_47 : decode cX9_run 47 = .ok (.iload_n 1, 1) := by decide +kernel
theorem dX9_run_48 : decode cX9_run 48 = .ok (.iload_n 2, 1) := by decide +kernel
theorem dX9_run_49 : decode cX9_run 49 = .ok (.iconst 0, 1) := by decide +kernel
theorem dX9_run_50 : decode cX9_run 50 = .ok (.invokevirtual 318, 3) := by decide +kernel
theorem dX9_run_53 : decode cX9_run 53 = .ok (.aload_n 0, 1) := by decide +kernel
theorem dX9_run_54 : decode cX9_run 54 = .ok (.getfield 88, 3) := by decide +kernel
theorem dX9_run_57 : decode cX9_run 57 = .ok (.iload_n 3, 1) := by decide +kernel
theorem dX9_run_58 : decode cX9_run 58 = .ok (.iaload, 1) := by decide +kernel
theorem dX9_run_59 : decode cX9_run 59 = .ok (.ireturn, 1) := by decide +kernel
theorem dX9_lot_0 : decode cX9_lot 0 = .ok (.aload_n 0, 1) := by decide +kernel
theorem dX9_lot_1 : decode cX9_lot 1 = .ok (.iconst 0, 1) := by decide +kernel
theorem dX9_lot_2 : decode cX9_lot 2 = .ok (.putfield 106, 3) := by decide +kernel
theorem dX9_lot_5 : decode cX9_lot 5 = .ok (.aload_n 0, 1) := by decide +kernel
theorem dX9_lot_6 : decode cX9_lot 6 = .ok (.iload_n 1, 1) := by decide +kernel
theorem dX9_lot_7 : decode cX9_lot 7 = .ok (.iconst 0, 1) := by decide +kernel
theorem dX9_lot_8 : decode cX9_lot 8 = .ok (.iconst 3, 1) := by decide +kernel
theorem dX9_lot_9 : decode cX9_lot 9 = .ok (.invokestatic 140, 3) := by decide +kernel
theorem dX9_lot_12 : decode cX9_lot 12 = .ok (.ifCond .eq 20, 3) := by decide +kernel
theorem dX9_lot_15 : decode cX9_lot 15 = .ok (.aload_n 0, 1) := by decide +kernel
theorem dX9_lot_16 : decode cX9_lot 16 = .ok (.iload_n 2, 1) := by decide +kernel
theorem dX9_lot_17 : decode cX9_lot 17 = .ok (.invokevirtual 315, 3) := by decide +kernel
theorem dX9_lot_20 : decode cX9_lot 20 = .ok (.ifCond .eq 12, 3) := by decide +kernel
theorem dX9_lot_23 : decode cX9_lot 23 = .ok (.iload_n 3, 1) := by decide +kernel
theorem dX9_lot_24 : decode cX9_lot 24 = .ok (.iconst 0, 1) := by decide +kernel
theorem dX9_lot_25 : decode cX9_lot 25 = .ok (.iconst 3, 1) := by decide +kernel
theorem dX9_lot_26 : decode cX9_lot 26 = .ok (.invokestatic 140, 3) := by decide +kernel
theorem dX9_lot_29 : decode cX9_lot 29 = .ok (.ifCond .ne 7, 3) := by decide +kernel
theorem dX9_lot_32 : decode cX9_lot 32 = .ok (.iconst 1, 1) := by decide +kernel
theorem dX9_lot_33 : decode cX9_lot 33 = .ok (.goto 4, 3) := by decide +kernel
theorem dX9_lot_36 : decode cX9_lot 36 = .ok (.iconst 0, 1) := by decide +kernel
theorem dX9_lot_37 : decode cX9_lot 37 = .ok (.iconst 1, 1) := by decide +kernel
theorem dX9_lot_38 : decode cX9_lot 38 = .ok (.invokevirtual 188, 3) := by decide +kernel
theorem dX9_lot_41 : decode cX9_lot 41 = .ok (.ifCond .eq 5, 3) := by decide +kernel
theorem dX9_lot_44 : decode cX9_lot 44 = .ok (.iconst 0, 1) := by decide +kernel
theorem dX9_lot_45 : decode cX9_lot 45 = .ok (.ireturn, 1) := by decide +kernel
theorem dX9_lot_46 : decode cX9_lot 46 = .ok (.aload_n 0, 1) := by decide +kernel
theorem dX9_lot_47 : decode cX9_lot 47 = .ok (.iload 4, 2) := by decide +kernel
theorem dX9_lot_49 : decode cX9_lot 49 = .ok (.putfield 308, 3) := by decide +kernel
theorem dX9_lot_52 : decode cX9_lot 52 = .ok (.aload_n 0, 1) := by decide +kernel
theorem dX9_lot_53 : decode cX9_lot 53 = .ok (.iload_n 1, 1) := by decide +kernel
theorem dX9_lot_54 : decode cX9_lot 54 = .ok (.iload_n 2, 1) := by decide +kernel
theorem dX9_lot_55 : decode cX9_lot 55 = .ok (.iconst 1, 1) := by decide +kernel
theorem dX9_lot_56 : decode cX9_lot 56 = .ok (.invokevirtual 318, 3) := by decide +kernel
theorem dX9_lot_59 : decode cX9_lot 59 = .ok (.aload_n 0, 1) := by decide +kernel
theorem dX9_lot_60 : decode cX9_lot 60 = .ok (.getfield 88, 3) := by decide +kernel
theorem dX9_lot_63 : decode cX9_lot 63 = .ok (.iload_n 3, 1) := by decide +kernel
theorem dX9_lot_64 : decode cX9_lot 64 = .ok (.iaload, 1) := by decide +kernel
theorem dX9_lot_65 : decode cX9_lot 65 = .ok (.ireturn, 1) := by decide +kernel
theorem dX9_rule_0 : decode cX9_rule 0 = .ok (.aload_n 0, 1) := by decide +kernel
theorem dX9_rule_1 : decode cX9_rule 1 = .ok (.iconst 0, 1) := by decide +kernel
theorem dX9_rule_2 : decode cX9_rule 2 = .ok (.putfield 106, 3) := by decide +kernel
theorem dX9_rule_5 : decode cX9_rule 5 = .ok (.aload_n 0, 1) := by decide +kernel
theorem dX9_rule_6 : decode cX9_rule 6 = .ok (.aload_n 0, 1) := by decide +kernel
theorem dX9_rule_7 : decode cX9_rule 7 = .ok (.iload_n 1, 1) := by decide +kernel
theorem dX9_rule_8 : decode cX9_rule 8 = .ok (.invokevirtual 315, 3) := by decide +kernel
theorem dX9_rule_11 : decode cX9_rule 11 = .ok (.ifCond .ne 7, 3) := by decide +kernel
theorem dX9_rule_14 : decode cX9_rule 14 = .ok (.iconst 1, 1) := by decide +kernel
theorem dX9_rule_15 : decode cX9_rule 15 = .ok (.goto 4, 3) := by decide +kernel
theorem dX9_rule_18 : decode cX9_rule 18 = .ok (.iconst 0, 1) := by decide +kernel
theorem dX9_rule_19 : decode cX9_rule 19 = .ok (.iconst 1, 1) := by decide +kernel
theorem dX9_rule_20 : decode cX9_rule 20 = .ok (.invokevirtual 188, 3) := by decide +kernel
theorem dX9_rule_23 : decode cX9_rule 23 = .ok (.ifCond .eq 5, 3) := by decide +kernel
theorem dX9_rule_26 : decode cX9_rule 26 = .ok (.iconst 0, 1) := by decide +kernel
theorem dX9_rule_27 : decode cX9_rule 27 = .ok (.ireturn, 1) := by decide +kernel
theorem dX9_rule_28 : decode cX9_rule 28 = .ok (.iconst (-1), 1) := by decide +kernel
theorem dX9_rule_29 : decode cX9_rule 29 = .ok (.istore_n 2, 1) := by decide +kernel
theorem dX9_rule_30 : decode cX9_rule 30 = .ok (.iconst 0, 1) := by decide +kernel
theorem dX9_rule_31 : decode cX9_rule 31 = .ok (.istore_n 3, 1) := by decide +kernel
theorem dX9_rule_32 : decode cX9_rule 32 = .ok (.iconst 0, 1) := by decide +kernel
theorem dX9_rule_33 : decode cX9_rule 33 = .ok (.istore 4, 2) := by decide +kernel
theorem dX9_rule_35 : decode cX9_rule 35 = .ok (.iload 4, 2) := by decide +kernel
theorem dX9_rule_37 : decode cX9_rule 37 = .ok (.iconst 4, 1) := by decide +kernel
theorem dX9_rule_38 : decode cX9_rule 38 = .ok (.if_icmp .ge 45, 3) := by decide +kernel
theorem dX9_rule_41 : decode cX9_rule 41 = .ok (.aload_n 0, 1) := by decide +kernel
theorem dX9_rule_42 : decode cX9_rule 42 = .ok (.iload 4, 2) := by decide +kernel
theorem dX9_rule_44 : decode cX9_rule 44 = .ok (.iload_n 1, 1) := by decide +kernel
theorem dX9_rule_45 : decode cX9_rule 45 = .ok (.iconst 0, 1) := by decide +kernel
theorem dX9_rule_46 : decode cX9_rule 46 = .ok (.invokevirtual 318, 3) := by decide +kernel
theorem dX9_rule_49 : decode cX9_rule 49 = .ok (.iload_n 2, 1) := by decide +kernel
theorem dX9_rule_50 : decode cX9_rule 50 = .ok (.iconst (-1), 1) := by decide +kernel
theorem dX9_rule_51 : decode cX9_rule 51 = .ok (.if_icmp .eq 16, 3) := by decide +kernel
theorem dX9_rule_54 : decode cX9_rule 54 = .ok (.aload_n 0, 1) := by decide +kernel
theorem dX9_rule_55 : decode cX9_rule 55 = .ok (.getfield 88, 3) := by decide +kernel
theorem dX9_rule_58 : decode cX9_rule 58 = .ok (.iconst 0, 1) := by decide +kernel
theorem dX9_rule_59 : decode cX9_rule 59 = .ok (.iaload, 1) := by decide +kernel
theorem dX9_rule_60 : decode cX9_rule 60 = .ok (.iload_n 3, 1) := by decide +kernel
theorem dX9_rule_61 : decode cX9_rule 61 = .ok (.if_icmp .gt 6, 3) := by decide +kernel
theorem dX9_rule_64 : decode cX9_rule 64 = .ok (.goto 13, 3) := by decide +kernel
theorem dX9_rule_67 : decode cX9_rule 67 = .ok (.iload 4, 2) := by decide +kernel
theorem dX9_rule_69 : decode cX9_rule 69 = .ok (.istore_n 2, 1) := by decide +kernel
theorem dX9_rule_70 : decode cX9_rule 70 = .ok (.aload_n 0, 1) := by decide +kernel
theorem dX9_rule_71 : decode cX9_rule 71 = .ok (.getfield 88, 3) := by decide +kernel
theorem dX9_rule_74 : decode cX9_rule 74 = .ok (.iconst 0, 1) := by decide +kernel
theorem dX9_rule_75 : decode cX9_rule 75 = .ok (.iaload, 1) := by decide +kernel
theorem dX9_rule_76 : decode cX9_rule 76 = .ok (.istore_n 3, 1) := by decide +kernel
theorem dX9_rule_77 : decode cX9_rule 77 = .ok (.iinc 4 1, 3) := by decide +kernel
theorem dX9_rule_80 : decode cX9_rule 80 = .ok (.goto (-45), 3) := by decide +kernel
theorem dX9_rule_83 : decode cX9_rule 83 = .ok (.iload_n 2, 1) := by decide +kernel
theorem dX9_rule_84 : decode cX9_rule 84 = .ok (.ireturn, 1) := by decide +kernel
theorem dX9_stateNow_0 : decode cX9_stateNow 0 = .ok (.iconst 0, 1) := by decide +kernel
theorem dX9_stateNow_1 : decode cX9_stateNow 1 = .ok (.istore_n 2, 1) := by decide +kernel
theorem dX9_stateNow_2 : decode cX9_stateNow 2 = .ok (.iconst 0, 1) := by decide +kernel
theorem dX9_stateNow_3 : decode cX9_stateNow 3 = .ok (.istore_n 3, 1) := by decide +kernel
theorem dX9_stateNow_4 : decode cX9_stateNow 4 = .ok (.iload_n 3, 1) := by decide +kernel
theorem dX9_stateNow_5 : decode cX9_stateNow 5 = .ok (.aload_n 0, 1) := by decide +kernel
theorem dX9_stateNow_6 : decode cX9_stateNow 6 = .ok (.getfield 322, 3) := by decide +kernel
theorem dX9_stateNow_9 : decode cX9_stateNow 9 = .ok (.if_icmp .ge 28, 3) := by decide +kernel
theorem dX9_stateNow_12 : decode cX9_stateNow 12 = .ok (.bipush 9, 2) := by decide +kernel
theorem dX9_stateNow_14 : decode cX9_stateNow 14 = .ok (.iload_n 2, 1) := by decide +kernel
theorem dX9_stateNow_15 : decode cX9_stateNow 15 = .ok (.imul, 1) := by decide +kernel
theorem dX9_stateNow_16 : decode cX9_stateNow 16 = .ok (.aload_n 0, 1) := by decide +kernel
theorem dX9_stateNow_17 : decode cX9_stateNow 17 = .ok (.getfield 52, 3) := by decide +kernel
theorem dX9_stateNow_20 : decode cX9_stateNow 20 = .ok (.aload_n 0, 1) := by decide +kernel
theorem dX9_stateNow_21 : decode cX9_stateNow 21 = .ok (.getfield 91, 3) := by decide +kernel
theorem dX9_stateNow_24 : decode cX9_stateNow 24 = .ok (.iload_n 3, 1) := by decide +kernel
theorem dX9_stateNow_25 : decode cX9_stateNow 25 = .ok (.iaload, 1) := by decide +kernel
theorem dX9_stateNow_26 : decode cX9_stateNow 26 = .ok (.aaload, 1) := by decide +kernel
theorem dX9_stateNow_27 : decode cX9_stateNow 27 = .ok (.iload_n 1, 1) := by decide +kernel
theorem dX9_stateNow_28 : decode cX9_stateNow 28 = .ok (.iaload, 1) := by decide +kernel
theorem dX9_stateNow_29 : decode cX9_stateNow 29 = .ok (.iadd, 1) := by decide +kernel
theorem dX9_stateNow_30 : decode cX9_stateNow 30 = .ok (.istore_n 2, 1) := by decide +kernel
theorem dX9_stateNow_31 : decode cX9_stateNow 31 = .ok (.iinc 3 1, 3) := by decide +kernel
theorem dX9_stateNow_34 : decode cX9_stateNow 34 = .ok (.goto (-30), 3) := by decide +kernel
theorem dX9_stateNow_37 : decode cX9_stateNow 37 = .ok (.iload_n 2, 1) := by decide +kernel
theorem dX9_stateNow_38 : decode cX9_stateNow 38 = .ok (.ireturn, 1) := by decide +kernel
theorem dX9_becomes_0 : decode cX9_becomes 0 = .ok (.iload_n 1, 1) := by decide +kernel
theorem dX9_becomes_1 : decode cX9_becomes 1 = .ok (.istore_n 3, 1) := by decide +kernel
theorem dX9_becomes_2 : decode cX9_becomes 2 = .ok (.aload_n 0, 1) := by decide +kernel
theorem dX9_becomes_3 : decode cX9_becomes 3 = .ok (.getfield 322, 3) := by decide +kernel
theorem dX9_becomes_6 : decode cX9_becomes 6 = .ok (.iconst 1, 1) := by decide +kernel
theorem dX9_becomes_7 : decode cX9_becomes 7 = .ok (.isub, 1) := by decide +kernel
theorem dX9_becomes_8 : decode cX9_becomes 8 = .ok (.istore 4, 2) := by decide +kernel
theorem dX9_becomes_10 : decode cX9_becomes 10 = .ok (.iload 4, 2) := by decide +kernel
theorem dX9_becomes_12 : decode cX9_becomes 12 = .ok (.ifCond .lt 32, 3) := by decide +kernel
theorem dX9_becomes_15 : decode cX9_becomes 15 = .ok (.aload_n 0, 1) := by decide +kernel
theorem dX9_becomes_16 : decode cX9_becomes 16 = .ok (.getfield 52, 3) := by decide +kernel
theorem dX9_becomes_19 : decode cX9_becomes 19 = .ok (.aload_n 0, 1) := by decide +kernel
theorem dX9_becomes_20 : decode cX9_becomes 20 = .ok (.getfield 91, 3) := by decide +kernel
theorem dX9_becomes_23 : decode cX9_becomes 23 = .ok (.iload 4, 2) := by decide +kernel
theorem dX9_becomes_25 : decode cX9_becomes 25 = .ok (.iaload, 1) := by decide +kernel
theorem dX9_becomes_26 : decode cX9_becomes 26 = .ok (.aaload, 1) := by decide +kernel
theorem dX9_becomes_27 : decode cX9_becomes 27 = .ok (.iload_n 2, 1) := by decide +kernel
theorem dX9_becomes_28 : decode cX9_becomes 28 = .ok (.iload_n 3, 1) := by decide +kernel
theorem dX9_becomes_29 : decode cX9_becomes 29 = .ok (.bipush 9, 2) := by decide +kernel
theorem dX9_becomes_31 : decode cX9_becomes 31 = .ok (.irem, 1) := by decide +kernel
theorem dX9_becomes_32 : decode cX9_becomes 32 = .ok (.iastore, 1) := by decide +kernel
theorem dX9_becomes_33 : decode cX9_becomes 33 = .ok (.iload_n 3, 1) := by decide +kernel
theorem dX9_becomes_34 : decode cX9_becomes 34 = .ok (.bipush 9, 2) := by decide +kernel
theorem dX9_becomes_36 : decode cX9_becomes 36 = .ok (.idiv, 1) := by decide +kernel
theorem dX9_becomes_37 : decode cX9_becomes 37 = .ok (.istore_n 3, 1) := by decide +kernel
theorem dX9_becomes_38 : decode cX9_becomes 38 = .ok (.iinc 4 (-1), 3) := by decide +kernel
theorem dX9_becomes_41 : decode cX9_becomes 41 = .ok (.goto (-31), 3) := by decide +kernel
theorem dX9_becomes_44 : decode cX9_becomes 44 = .ok (.return_, 1) := by decide +kernel
theorem dX9_isApart_0 : decode cX9_isApart 0 = .ok (.iload_n 1, 1) := by decide +kernel
theorem dX9_isApart_1 : decode cX9_isApart 1 = .ok (.iload_n 2, 1) := by decide +kernel
theorem dX9_isApart_2 : decode cX9_isApart 2 = .ok (.if_icmp .eq 45, 3) := by decide +kernel
theorem dX9_isApart_5 : decode cX9_isApart 5 = .ok (.aload_n 0, 1) := by decide +kernel
theorem dX9_isApart_6 : decode cX9_isApart 6 = .ok (.iload_n 1, 1) := by decide +kernel
theorem dX9_isApart_7 : decode cX9_isApart 7 = .ok (.iload_n 2, 1) := by decide +kernel
theorem dX9_isApart_8 : decode cX9_isApart 8 = .ok (.invokevirtual 210, 3) := by decide +kernel
theorem dX9_isApart_11 : decode cX9_isApart 11 = .ok (.ifCond .ne 36, 3) := by decide +kernel
theorem dX9_isApart_14 : decode cX9_isApart 14 = .ok (.aload_n 0, 1) := by decide +kernel
theorem dX9_isApart_15 : decode cX9_isApart 15 = .ok (.getfield 52, 3) := by decide +kernel
theorem dX9_isApart_18 : decode cX9_isApart 18 = .ok (.iload_n 1, 1) := by decide +kernel
theorem dX9_isApart_19 : decode cX9_isApart 19 = .ok (.aaload, 1) := by decide +kernel
theorem dX9_isApart_20 : decode cX9_isApart 20 = .ok (.iload_n 3, 1) := by decide +kernel
theorem dX9_isApart_21 : decode cX9_isApart 21 = .ok (.iaload, 1) := by decide +kernel
theorem dX9_isApart_22 : decode cX9_isApart 22 = .ok (.aload_n 0, 1) := by decide +kernel
theorem dX9_isApart_23 : decode cX9_isApart 23 = .ok (.getfield 52, 3) := by decide +kernel
theorem dX9_isApart_26 : decode cX9_isApart 26 = .ok (.iload_n 2, 1) := by decide +kernel
theorem dX9_isApart_27 : decode cX9_isApart 27 = .ok (.aaload, 1) := by decide +kernel
theorem dX9_isApart_28 : decode cX9_isApart 28 = .ok (.iload_n 3, 1) := by decide +kernel
theorem dX9_isApart_29 : decode cX9_isApart 29 = .ok (.iaload, 1) := by decide +kernel
theorem dX9_isApart_30 : decode cX9_isApart 30 = .ok (.isub, 1) := by decide +kernel
theorem dX9_isApart_31 : decode cX9_isApart 31 = .ok (.invokestatic 229, 3) := by decide +kernel
theorem dX9_isApart_34 : decode cX9_isApart 34 = .ok (.aload_n 0, 1) := by decide +kernel
theorem dX9_isApart_35 : decode cX9_isApart 35 = .ok (.getfield 23, 3) := by decide +kernel
theorem dX9_isApart_38 : decode cX9_isApart 38 = .ok (.iconst 3, 1) := by decide +kernel
theorem dX9_isApart_39 : decode cX9_isApart 39 = .ok (.iaload, 1) := by decide +kernel
theorem dX9_isApart_40 : decode cX9_isApart 40 = .ok (.if_icmp .lt 7, 3) := by decide +kernel
theorem dX9_isApart_43 : decode cX9_isApart 43 = .ok (.iconst 1, 1) := by decide +kernel
theorem dX9_isApart_44 : decode cX9_isApart 44 = .ok (.goto 4, 3) := by decide +kernel
theorem dX9_isApart_47 : decode cX9_isApart 47 = .ok (.iconst 0, 1) := by decide +kernel
theorem dX9_isApart_48 : decode cX9_isApart 48 = .ok (.ireturn, 1) := by decide +kernel
theorem dX9_behind_0 : decode cX9_behind 0 = .ok (.aload_n 0, 1) := by decide +kernel
theorem dX9_behind_1 : decode cX9_behind 1 = .ok (.getfield 91, 3) := by decide +kernel
theorem dX9_behind_4 : decode cX9_behind 4 = .ok (.iload_n 2, 1) := by decide +kernel
theorem dX9_behind_5 : decode cX9_behind 5 = .ok (.iconst 4, 1) := by decide +kernel
theorem dX9_behind_6 : decode cX9_behind 6 = .ok (.idiv, 1) := by decide +kernel
theorem dX9_behind_7 : decode cX9_behind 7 = .ok (.iaload, 1) := by decide +kernel
theorem dX9_behind_8 : decode cX9_behind 8 = .ok (.istore 4, 2) := by decide +kernel
theorem dX9_behind_10 : decode cX9_behind 10 = .ok (.aload_n 0, 1) := by decide +kernel
theorem dX9_behind_11 : decode cX9_behind 11 = .ok (.getfield 91, 3) := by decide +kernel
theorem dX9_behind_14 : decode cX9_behind 14 = .ok (.iload_n 2, 1) := by decide +kernel
theorem dX9_behind_15 : decode cX9_behind 15 = .ok (.iconst 4, 1) := by decide +kernel
theorem dX9_behind_16 : decode cX9_behind 16 = .ok (.irem, 1) := by decide +kernel
theorem dX9_behind_17 : decode cX9_behind 17 = .ok (.iaload, 1) := by decide +kernel
theorem dX9_behind_18 : decode cX9_behind 18 = .ok (.istore 5, 2) := by decide +kernel
theorem dX9_behind_20 : decode cX9_behind 20 = .ok (.aload_n 0, 1) := by decide +kernel
theorem dX9_behind_21 : decode cX9_behind 21 = .ok (.iload_n 1, 1) := by decide +kernel
theorem dX9_behind_22 : decode cX9_behind 22 = .ok (.iload_n 3, 1) := by decide +kernel
theorem dX9_behind_23 : decode cX9_behind 23 = .ok (.invokevirtual 325, 3) := by decide +kernel
theorem dX9_behind_26 : decode cX9_behind 26 = .ok (.iload_n 2, 1) := by decide +kernel
theorem dX9_behind_27 : decode cX9_behind 27 = .ok (.iconst 4, 1) := by decide +kernel
theorem dX9_behind_28 : decode cX9_behind 28 = .ok (.idiv, 1) := by decide +kernel
theorem dX9_behind_29 : decode cX9_behind 29 = .ok (.iload_n 2, 1) := by decide +kernel
theorem dX9_behind_30 : decode cX9_behind 30 = .ok (.iconst 4, 1) := by decide +kernel
theorem dX9_behind_31 : decode cX9_behind 31 = .ok (.irem, 1) := by decide +kernel
theorem dX9_behind_32 : decode cX9_behind 32 = .ok (.if_icmp .ge 25, 3) := by decide +kernel
theorem dX9_behind_35 : decode cX9_behind 35 = .ok (.iload_n 2, 1) := by decide +kernel
theorem dX9_behind_36 : decode cX9_behind 36 = .ok (.iconst 4, 1) := by decide +kernel
theorem dX9_behind_37 : decode cX9_behind 37 = .ok (.irem, 1) := by decide +kernel
theorem dX9_behind_38 : decode cX9_behind 38 = .ok (.aload_n 0, 1) := by decide +kernel
theorem dX9_behind_39 : decode cX9_behind 39 = .ok (.getfield 322, 3) := by decide +kernel
theorem dX9_behind_42 : decode cX9_behind 42 = .ok (.if_icmp .ge 15, 3) := by decide +kernel
theorem dX9_behind_45 : decode cX9_behind 45 = .ok (.aload_n 0, 1) := by decide +kernel
theorem dX9_behind_46 : decode cX9_behind 46 = .ok (.iload 4, 2) := by decide +kernel
theorem dX9_behind_48 : decode cX9_behind 48 = .ok (.iload 5, 2) := by decide +kernel
theorem dX9_behind_50 : decode cX9_behind 50 = .ok (.iload_n 3, 1) := by decide +kernel
theorem dX9_behind_51 : decode cX9_behind 51 = .ok (.invokevirtual 328, 3) := by decide +kernel
theorem dX9_behind_54 : decode cX9_behind 54 = .ok (.ifCond .ne 5, 3) := by decide +kernel
theorem dX9_behind_57 : decode cX9_behind 57 = .ok (.iconst (-1), 1) := by decide +kernel
theorem dX9_behind_58 : decode cX9_behind 58 = .ok (.ireturn, 1) := by decide +kernel
theorem dX9_behind_59 : decode cX9_behind 59 = .ok (.aload_n 0, 1) := by decide +kernel
theorem dX9_behind_60 : decode cX9_behind 60 = .ok (.iload 4, 2) := by decide +kernel
theorem dX9_behind_62 : decode cX9_behind 62 = .ok (.iload 5, 2) := by decide +kernel
theorem dX9_behind_64 : decode cX9_behind 64 = .ok (.iload_n 3, 1) := by decide +kernel
theorem dX9_behind_65 : decode cX9_behind 65 = .ok (.invokevirtual 232, 3) := by decide +kernel
theorem dX9_behind_68 : decode cX9_behind 68 = .ok (.aload_n 0, 1) := by decide +kernel
theorem dX9_behind_69 : decode cX9_behind 69 = .ok (.iload_n 3, 1) := by decide +kernel
theorem dX9_behind_70 : decode cX9_behind 70 = .ok (.invokevirtual 331, 3) := by decide +kernel
theorem dX9_behind_73 : decode cX9_behind 73 = .ok (.ireturn, 1) := by decide +kernel
theorem dX9_more_0 : decode cX9_more 0 = .ok (.iload_n 0, 1) := by decide +kernel
theorem dX9_more_1 : decode cX9_more 1 = .ok (.iload_n 1, 1) := by decide +kernel
theorem dX9_more_2 : decode cX9_more 2 = .ok (.if_icmp .le 7, 3) := by decide +kernel
theorem dX9_more_5 : decode cX9_more 5 = .ok (.iload_n 0, 1) := by decide +kernel
theorem dX9_more_6 : decode cX9_more 6 = .ok (.goto 4, 3) := by decide +kernel
theorem dX9_more_9 : decode cX9_more 9 = .ok (.iload_n 1, 1) := by decide +kernel
theorem dX9_more_10 : decode cX9_more 10 = .ok (.ireturn, 1) := by decide +kernel
theorem dX9_mostFrom_0 : decode cX9_mostFrom 0 = .ok (.aload_n 0, 1) := by decide +kernel
theorem dX9_mostFrom_1 : decode cX9_mostFrom 1 = .ok (.getfield 94, 3) := by decide +kernel
theorem dX9_mostFrom_4 : decode cX9_mostFrom 4 = .ok (.iload_n 1, 1) := by decide +kernel
theorem dX9_mostFrom_5 : decode cX9_mostFrom 5 = .ok (.iaload, 1) := by decide +kernel
theorem dX9_mostFrom_6 : decode cX9_mostFrom 6 = .ok (.iconst 1, 1) := by decide +kernel
theorem dX9_mostFrom_7 : decode cX9_mostFrom 7 = .ok (.if_icmp .ne 5, 3) := by decide +kernel
theorem dX9_mostFrom_10 : decode cX9_mostFrom 10 = .ok (.iconst (-1), 1) := by decide +kernel
theorem dX9_mostFrom_11 : decode cX9_mostFrom 11 = .ok (.ireturn, 1) := by decide +kernel
theorem dX9_mostFrom_12 : decode cX9_mostFrom 12 = .ok (.aload_n 0, 1) := by decide +kernel
theorem dX9_mostFrom_13 : decode cX9_mostFrom 13 = .ok (.getfield 94, 3) := by decide +kernel
theorem dX9_mostFrom_16 : decode cX9_mostFrom 16 = .ok (.iload_n 1, 1) := by decide +kernel
theorem dX9_mostFrom_17 : decode cX9_mostFrom 17 = .ok (.iaload, 1) := by decide +kernel
theorem dX9_mostFrom_18 : decode cX9_mostFrom 18 = .ok (.iconst 2, 1) := by decide +kernel
theorem dX9_mostFrom_19 : decode cX9_mostFrom 19 = .ok (.if_icmp .ne 10, 3) := by decide +kernel
theorem dX9_mostFrom_22 : decode cX9_mostFrom 22 = .ok (.aload_n 0, 1) := by decide +kernel
theorem dX9_mostFrom_23 : decode cX9_mostFrom 23 = .ok (.getfield 97, 3) := by decide +kernel
theorem dX9_mostFrom_26 : decode cX9_mostFrom 26 = .ok (.iload_n 1, 1) := by decide +kernel
theorem dX9_mostFrom_27 : decode cX9_mostFrom 27 = .ok (.iaload, 1) := by decide +kernel
theorem dX9_mostFrom_28 : decode cX9_mostFrom 28 = .ok (.ireturn, 1) := by decide +kernel
theorem dX9_mostFrom_29 : decode cX9_mostFrom 29 = .ok (.aload_n 0, 1) := by decide +kernel
theorem dX9_mostFrom_30 : decode cX9_mostFrom 30 = .ok (.getfield 94, 3) := by decide +kernel
theorem dX9_mostFrom_33 : decode cX9_mostFrom 33 = .ok (.iload_n 1, 1) := by decide +kernel
theorem dX9_mostFrom_34 : decode cX9_mostFrom 34 = .ok (.iconst 1, 1) := by decide +kernel
theorem dX9_mostFrom_35 : decode cX9_mostFrom 35 = .ok (.iastore, 1) := by decide +kernel
theorem dX9_mostFrom_36 : decode cX9_mostFrom 36 = .ok (.iconst 0, 1) := by decide +kernel
theorem dX9_mostFrom_37 : decode cX9_mostFrom 37 = .ok (.istore_n 3, 1) := by decide +kernel
theorem dX9_mostFrom_38 : decode cX9_mostFrom 38 = .ok (.iconst 0, 1) := by decide +kernel
theorem dX9_mostFrom_39 : decode cX9_mostFrom 39 = .ok (.istore 4, 2) := by decide +kernel
theorem dX9_mostFrom_41 : decode cX9_mostFrom 41 = .ok (.iload 4, 2) := by decide +kernel
theorem dX9_mostFrom_43 : decode cX9_mostFrom 43 = .ok (.bipush 16, 2) := by decide +kernel
theorem dX9_mostFrom_45 : decode cX9_mostFrom 45 = .ok (.if_icmp .ge 61, 3) := by decide +kernel
theorem dX9_mostFrom_48 : decode cX9_mostFrom 48 = .ok (.iload_n 3, 1) := by decide +kernel
theorem dX9_mostFrom_49 : decode cX9_mostFrom 49 = .ok (.iconst (-1), 1) := by decide +kernel
theorem dX9_mostFrom_50 : decode cX9_mostFrom 50 = .ok (.if_icmp .eq 56, 3) := by decide +kernel
theorem dX9_mostFrom_53 : decode cX9_mostFrom 53 = .ok (.aload_n 0, 1) := by decide +kernel
theorem dX9_mostFrom_54 : decode cX9_mostFrom 54 = .ok (.iload_n 1, 1) := by decide +kernel
theorem dX9_mostFrom_55 : decode cX9_mostFrom 55 = .ok (.iload 4, 2) := by decide +kernel
theorem dX9_mostFrom_57 : decode cX9_mostFrom 57 = .ok (.iload_n 2, 1) := by decide +kernel
theorem dX9_mostFrom_58 : decode cX9_mostFrom 58 = .ok (.invokevirtual 334, 3) := by decide +kernel
theorem dX9_mostFrom_61 : decode cX9_mostFrom 61 = .ok (.istore 5, 2) := by decide +kernel
theorem dX9_mostFrom_63 : decode cX9_mostFrom 63 = .ok (.iload 5, 2) := by decide +kernel
theorem dX9_mostFrom_65 : decode cX9_mostFrom 65 = .ok (.iconst (-1), 1) := by decide +kernel
theorem dX9_mostFrom_66 : decode cX9_mostFrom 66 = .ok (.if_icmp .ne 6, 3) := by decide +kernel
theorem dX9_mostFrom_69 : decode cX9_mostFrom 69 = .ok (.goto 31, 3) := by decide +kernel
theorem dX9_mostFrom_72 : decode cX9_mostFrom 72 = .ok (.aload_n 0, 1) := by decide +kernel
theorem dX9_mostFrom_73 : decode cX9_mostFrom 73 = .ok (.iload 5, 2) := by decide +kernel
theorem dX9_mostFrom_75 : decode cX9_mostFrom 75 = .ok (.iload_n 2, 1) := by decide +kernel
theorem dX9_mostFrom_76 : decode cX9_mostFrom 76 = .ok (.invokevirtual 337, 3) := by decide +kernel
theorem dX9_mostFrom_79 : decode cX9_mostFrom 79 = .ok (.istore 6, 2) := by decide +kernel
theorem dX9_mostFrom_81 : decode cX9_mostFrom 81 = .ok (.iload 6, 2) := by decide +kernel
theorem dX9_mostFrom_83 : decode cX9_mostFrom 83 = .ok (.iconst (-1), 1) := by decide +kernel
theorem dX9_mostFrom_84 : decode cX9_mostFrom 84 = .ok (.if_icmp .ne 7, 3) := by decide +kernel
theorem dX9_mostFrom_87 : decode cX9_mostFrom 87 = .ok (.iconst (-1), 1) := by decide +kernel
theorem dX9_mostFrom_88 : decode cX9_mostFrom 88 = .ok (.goto 11, 3) := by decide +kernel
theorem dX9_mostFrom_91 : decode cX9_mostFrom 91 = .ok (.iload_n 3, 1) := by decide +kernel
theorem dX9_mostFrom_92 : decode cX9_mostFrom 92 = .ok (.iload 6, 2) := by decide +kernel
theorem dX9_mostFrom_94 : decode cX9_mostFrom 94 = .ok (.iconst 1, 1) := by decide +kernel
theorem dX9_mostFrom_95 : decode cX9_mostFrom 95 = .ok (.iadd, 1) := by decide +kernel
theorem dX9_mostFrom_96 : decode cX9_mostFrom 96 = .ok (.invokestatic 341, 3) := by decide +kernel
theorem dX9_mostFrom_99 : decode cX9_mostFrom 99 = .ok (.istore_n 3, 1) := by decide +kernel
theorem dX9_mostFrom_100 : decode cX9_mostFrom 100 = .ok (.iinc 4 1, 3) := by decide +kernel
theorem dX9_mostFrom_103 : decode cX9_mostFrom 103 = .ok (.goto (-62), 3) := by decide +kernel
theorem dX9_mostFrom_106 : decode cX9_mostFrom 106 = .ok (.aload_n 0, 1) := by decide +kernel
theorem dX9_mostFrom_107 : decode cX9_mostFrom 107 = .ok (.getfield 94, 3) := by decide +kernel
theorem dX9_mostFrom_110 : decode cX9_mostFrom 110 = .ok (.iload_n 1, 1) := by decide +kernel
theorem dX9_mostFrom_111 : decode cX9_mostFrom 111 = .ok (.iconst 2, 1) := by decide +kernel
theorem dX9_mostFrom_112 : decode cX9_mostFrom 112 = .ok (.iastore, 1) := by decide +kernel
theorem dX9_mostFrom_113 : decode cX9_mostFrom 113 = .ok (.aload_n 0, 1) := by decide +kernel
theorem dX9_mostFrom_114 : decode cX9_mostFrom 114 = .ok (.getfield 97, 3) := by decide +kernel
theorem dX9_mostFrom_117 : decode cX9_mostFrom 117 = .ok (.iload_n 1, 1) := by decide +kernel
theorem dX9_mostFrom_118 : decode cX9_mostFrom 118 = .ok (.iload_n 3, 1) := by decide +kernel
theorem dX9_mostFrom_119 : decode cX9_mostFrom 119 = .ok (.iastore, 1) := by decide +kernel
theorem dX9_mostFrom_120 : decode cX9_mostFrom 120 = .ok (.iload_n 3, 1) := by decide +kernel
theorem dX9_mostFrom_121 : decode cX9_mostFrom 121 = .ok (.ireturn, 1) := by decide +kernel
theorem dX9_soonest_0 : decode cX9_soonest 0 = .ok (.iconst 0, 1) := by decide +kernel
theorem dX9_soonest_1 : decode cX9_soonest 1 = .ok (.istore_n 3, 1) := by decide +kernel
theorem dX9_soonest_2 : decode cX9_soonest 2 = .ok (.iload_n 3, 1) := by decide +kernel
theorem dX9_soonest_3 : decode cX9_soonest 3 = .ok (.sipush 6561, 3) := by decide +kernel
theorem dX9_soonest_6 : decode cX9_soonest 6 = .ok (.if_icmp .ge 16, 3) := by decide +kernel
theorem dX9_soonest_9 : decode cX9_soonest 9 = .ok (.aload_n 0, 1) := by decide +kernel
theorem dX9_soonest_10 : decode cX9_soonest 10 = .ok (.getfield 103, 3) := by decide +kernel
theorem dX9_soonest_13 : decode cX9_soonest 13 = .ok (.iload_n 3, 1) := by decide +kernel
theorem dX9_soonest_14 : decode cX9_soonest 14 = .ok (.iconst (-1), 1) := by decide +kernel
theorem dX9_soonest_15 : decode cX9_soonest 15 = .ok (.iastore, 1) := by decide +kernel
theorem dX9_soonest_16 : decode cX9_soonest 16 = .ok (.iinc 3 1, 3) := by decide +kernel
theorem dX9_soonest_19 : decode cX9_soonest 19 = .ok (.goto (-17), 3) := by decide +kernel
theorem dX9_soonest_22 : decode cX9_soonest 22 = .ok (.iconst 1, 1) := by decide +kernel
theorem dX9_soonest_23 : decode cX9_soonest 23 = .ok (.istore_n 3, 1) := by decide +kernel
theorem dX9_soonest_24 : decode cX9_soonest 24 = .ok (.aload_n 0, 1) := by decide +kernel
theorem dX9_soonest_25 : decode cX9_soonest 25 = .ok (.getfield 100, 3) := by decide +kernel
theorem dX9_soonest_28 : decode cX9_soonest 28 = .ok (.iconst 0, 1) := by decide +kernel
theorem dX9_soonest_29 : decode cX9_soonest 29 = .ok (.iload_n 1, 1) := by decide +kernel
theorem dX9_soonest_30 : decode cX9_soonest 30 = .ok (.iastore, 1) := by decide +kernel
theorem dX9_soonest_31 : decode cX9_soonest 31 = .ok (.aload_n 0, 1) := by decide +kernel
theorem dX9_soonest_32 : decode cX9_soonest 32 = .ok (.getfield 103, 3) := by decide +kernel
theorem dX9_soonest_35 : decode cX9_soonest 35 = .ok (.iload_n 1, 1) := by decide +kernel
theorem dX9_soonest_36 : decode cX9_soonest 36 = .ok (.iconst 0, 1) := by decide +kernel
theorem dX9_soonest_37 : decode cX9_soonest 37 = .ok (.iastore, 1) := by decide +kernel
theorem dX9_soonest_38 : decode cX9_soonest 38 = .ok (.iconst 0, 1) := by decide +kernel
theorem dX9_soonest_39 : decode cX9_soonest 39 = .ok (.istore 4, 2) := by decide +kernel
theorem dX9_soonest_41 : decode cX9_soonest 41 = .ok (.iload 4, 2) := by decide +kernel
theorem dX9_soonest_43 : decode cX9_soonest 43 = .ok (.iload_n 3, 1) := by decide +kernel
theorem dX9_soonest_44 : decode cX9_soonest 44 = .ok (.if_icmp .ge 120, 3) := by decide +kernel
theorem dX9_soonest_47 : decode cX9_soonest 47 = .ok (.iconst 0, 1) := by decide +kernel
theorem dX9_soonest_48 : decode cX9_soonest 48 = .ok (.istore 5, 2) := by decide +kernel
theorem dX9_soonest_50 : decode cX9_soonest 50 = .ok (.iconst 0, 1) := by decide +kernel
theorem dX9_soonest_51 : decode cX9_soonest 51 = .ok (.istore 6, 2) := by decide +kernel
theorem dX9_soonest_53 : decode cX9_soonest 53 = .ok (.iload 6, 2) := by decide +kernel
theorem dX9_soonest_55 : decode cX9_soonest 55 = .ok (.bipush 16, 2) := by decide +kernel
theorem dX9_soonest_57 : decode cX9_soonest 57 = .ok (.if_icmp .ge 83, 3) := by decide +kernel
theorem dX9_soonest_60 : decode cX9_soonest 60 = .ok (.aload_n 0, 1) := by decide +kernel
theorem dX9_soonest_61 : decode cX9_soonest 61 = .ok (.aload_n 0, 1) := by decide +kernel
theorem dX9_soonest_62 : decode cX9_soonest 62 = .ok (.getfield 100, 3) := by decide +kernel
theorem dX9_soonest_65 : decode cX9_soonest 65 = .ok (.iload 4, 2) := by decide +kernel
theorem dX9_soonest_67 : decode cX9_soonest 67 = .ok (.iaload, 1) := by decide +kernel
theorem dX9_soonest_68 : decode cX9_soonest 68 = .ok (.iload 6, 2) := by decide +kernel
theorem dX9_soonest_70 : decode cX9_soonest 70 = .ok (.iload_n 2, 1) := by decide +kernel
theorem dX9_soonest_71 : decode cX9_soonest 71 = .ok (.invokevirtual 334, 3) := by decide +kernel
theorem dX9_soonest_74 : decode cX9_soonest 74 = .ok (.istore 7, 2) := by decide +kernel
theorem dX9_soonest_76 : decode cX9_soonest 76 = .ok (.iload 7, 2) := by decide +kernel
theorem dX9_soonest_78 : decode cX9_soonest 78 = .ok (.iconst (-1), 1) := by decide +kernel
theorem dX9_soonest_79 : decode cX9_soonest 79 = .ok (.if_icmp .ne 6, 3) := by decide +kernel
theorem dX9_soonest_82 : decode cX9_soonest 82 = .ok (.goto 52, 3) := by decide +kernel
theorem dX9_soonest_85 : decode cX9_soonest 85 = .ok (.iconst 1, 1) := by decide +kernel
theorem dX9_soonest_86 : decode cX9_soonest 86 = .ok (.istore 5, 2) := by decide +kernel
theorem dX9_soonest_88 : decode cX9_soonest 88 = .ok (.aload_n 0, 1) := by decide +kernel
theorem dX9_soonest_89 : decode cX9_soonest 89 = .ok (.getfield 103, 3) := by decide +kernel
theorem dX9_soonest_92 : decode cX9_soonest 92 = .ok (.iload 7, 2) := by decide +kernel
theorem dX9_soonest_94 : decode cX9_soonest 94 = .ok (.iaload, 1) := by decide +kernel
theorem dX9_soonest_95 : decode cX9_soonest 95 = .ok (.iconst (-1), 1) := by decide +kernel
theorem dX9_soonest_96 : decode cX9_soonest 96 = .ok (.if_icmp .eq 6, 3) := by decide +kernel
theorem dX9_soonest_99 : decode cX9_soonest 99 = .ok (.goto 35, 3) := by decide +kernel
theorem dX9_soonest_102 : decode cX9_soonest 102 = .ok (.aload_n 0, 1) := by decide +kernel
theorem dX9_soonest_103 : decode cX9_soonest 103 = .ok (.getfield 103, 3) := by decide +kernel
theorem dX9_soonest_106 : decode cX9_soonest 106 = .ok (.iload 7, 2) := by decide +kernel
theorem dX9_soonest_108 : decode cX9_soonest 108 = .ok (.aload_n 0, 1) := by decide +kernel
theorem dX9_soonest_109 : decode cX9_soonest 109 = .ok (.getfield 103, 3) := by decide +kernel
theorem dX9_soonest_112 : decode cX9_soonest 112 = .ok (.aload_n 0, 1) := by decide +kernel
theorem dX9_soonest_113 : decode cX9_soonest 113 = .ok (.getfield 100, 3) := by decide +kernel
theorem dX9_soonest_116 : decode cX9_soonest 116 = .ok (.iload 4, 2) := by decide +kernel
theorem dX9_soonest_118 : decode cX9_soonest 118 = .ok (.iaload, 1) := by decide +kernel
theorem dX9_soonest_119 : decode cX9_soonest 119 = .ok (.iaload, 1) := by decide +kernel
theorem dX9_soonest_120 : decode cX9_soonest 120 = .ok (.iconst 1, 1) := by decide +kernel
theorem dX9_soonest_121 : decode cX9_soonest 121 = .ok (.iadd, 1) := by decide +kernel
theorem dX9_soonest_122 : decode cX9_soonest 122 = .ok (.iastore, 1) := by decide +kernel
theorem dX9_soonest_123 : decode cX9_soonest 123 = .ok (.aload_n 0, 1) := by decide +kernel
theorem dX9_soonest_124 : decode cX9_soonest 124 = .ok (.getfield 100, 3) := by decide +kernel
theorem dX9_soonest_127 : decode cX9_soonest 127 = .ok (.iload_n 3, 1) := by decide +kernel
theorem dX9_soonest_128 : decode cX9_soonest 128 = .ok (.iload 7, 2) := by decide +kernel
theorem dX9_soonest_130 : decode cX9_soonest 130 = .ok (.iastore, 1) := by decide +kernel
theorem dX9_soonest_131 : decode cX9_soonest 131 = .ok (.iinc 3 1, 3) := by decide +kernel
theorem dX9_soonest_134 : decode cX9_soonest 134 = .ok (.iinc 6 1, 3) := by decide +kernel
theorem dX9_soonest_137 : decode cX9_soonest 137 = .ok (.goto (-84), 3) := by decide +kernel
theorem dX9_soonest_140 : decode cX9_soonest 140 = .ok (.iload 5, 2) := by decide +kernel
theorem dX9_soonest_142 : decode cX9_soonest 142 = .ok (.ifCond .ne 16, 3) := by decide +kernel
theorem dX9_soonest_145 : decode cX9_soonest 145 = .ok (.aload_n 0, 1) := by decide +kernel
theorem dX9_soonest_146 : decode cX9_soonest 146 = .ok (.getfield 103, 3) := by decide +kernel
theorem dX9_soonest_149 : decode cX9_soonest 149 = .ok (.aload_n 0, 1) := by decide +kernel
theorem dX9_soonest_150 : decode cX9_soonest 150 = .ok (.getfield 100, 3) := by decide +kernel
theorem dX9_soonest_153 : decode cX9_soonest 153 = .ok (.iload 4, 2) := by decide +kernel
theorem dX9_soonest_155 : decode cX9_soonest 155 = .ok (.iaload, 1) := by decide +kernel
theorem dX9_soonest_156 : decode cX9_soonest 156 = .ok (.iaload, 1) := by decide +kernel
theorem dX9_soonest_157 : decode cX9_soonest 157 = .ok (.ireturn, 1) := by decide +kernel
theorem dX9_soonest_158 : decode cX9_soonest 158 = .ok (.iinc 4 1, 3) := by decide +kernel
theorem dX9_soonest_161 : decode cX9_soonest 161 = .ok (.goto (-120), 3) := by decide +kernel
theorem dX9_soonest_164 : decode cX9_soonest 164 = .ok (.iconst (-1), 1) := by decide +kernel
theorem dX9_soonest_165 : decode cX9_soonest 165 = .ok (.ireturn, 1) := by decide +kernel
def f9_ones_L4 (x0 : Int32) (μ : zMem) (K24 : Int32 → zRes) : Nat → Int32 → Int32 → zRes
  | 0, _, _ => none
  | n + 1, x1, x2 => if (12 : Int32) ≤ x2 then K24 x1 else zlet (x1 + ((zshr x0 x2) &&& (1 : Int32))) (fun (v3 : Int32) => f9_ones_L4 x0 μ K24 n v3 (x2 + (1 : Int32)))
def f9_ones (x0 : Int32) (μ : zMem) : zRes := f9_ones_L4 x0 μ (fun (x1_4 : Int32) => some (0, x1_4, μ)) zF (0 : Int32) (0 : Int32)
set_option maxHeartbeats 1000000 in
theorem t9_ones_L4 (x0 : Int32) (μ : zMem) (K24 : Int32 → zRes) (hK24 : ∀ (x1 : Int32), zR yX9_ones cX9_ones 3 (some .int) 1 24 [.null, .int x1, .null] [] 1134 SM μ (K24 x1)) : ∀ (n : Nat) (x1 : Int32) (x2 : Int32), zR yX9_ones cX9_ones 3 (some .int) 1 4 [.int x0, .int x1, .int x2] [] 1134 SM μ (f9_ones_L4 x0 μ K24 n x1 x2) := by
  intro n
  induction n with
  | zero => intro x1 x2; intro q hq; cases hq
  | succ n ih =>
    intro x1 x2
    unfold f9_ones_L4
    refine z_iload_n (pc := 4) dX9_ones_4 rfl ?_
    refine z_bipush (pc := 5) (12 : Int32) dX9_ones_5 (by decide) ?_
    refine z_icmp_ge (pc := 7) (tgt := 24) dX9_ones_7 (by decide) (fun c1 => ?_) (fun c2 => ?_)
    · refine z_loc (L' := [.null, .int x1, .null]) ⟨Or.inl rfl, ⟨Or.inr rfl, ⟨Or.inl rfl, trivial⟩⟩⟩ ?_
      exact hK24 x1
    · refine z_iload_n (pc := 10) dX9_ones_10 rfl ?_
      refine z_iload_n (pc := 11) dX9_ones_11 rfl ?_
      refine z_iload_n (pc := 12) dX9_ones_12 rfl ?_
      refine z_ishr (pc := 13) dX9_ones_13 ?_
      refine z_iconst (pc := 14) (1 : Int32) dX9_ones_14 (by decide) ?_
      refine z_iand (pc := 15) dX9_ones_15 ?_
      refine z_iadd (pc := 16) dX9_ones_16 ?_
      refine z_val (fun v3 => ?_)
      refine z_istore_n (pc := 17) (L' := [.int x0, .int v3, .int x2]) dX9_ones_17 (by decide) rfl ?_
      refine z_iinc (pc := 18) (v := x2 + (1 : Int32)) (L' := [.int x0, .int v3, .int (x2 + (1 : Int32))]) dX9_ones_18 (by decide) rfl (congrArg _ (by decide)) rfl ?_
      refine z_goto (pc := 21) (tgt := 4) dX9_ones_21 (by decide) ?_
      exact ih v3 (x2 + (1 : Int32))
set_option maxHeartbeats 1000000 in
theorem t9_ones (x0 : Int32) (μ : zMem) : zMR yX9_ones cX9_ones 3 (some .int) 1 [.int x0] 1134 SM μ (f9_ones x0 μ) := by
  refine zMR_of (by decide +kernel) rfl (Nat.le_of_ble_eq_true rfl) (L := [.int x0, .null, .null]) rfl ?_
  unfold f9_ones
  refine z_iconst (pc := 0) (0 : Int32) dX9_ones_0 (by decide) ?_
  refine z_istore_n (pc := 1) (L' := [.int x0, .int (0 : Int32), .null]) dX9_ones_1 (by decide) rfl ?_
  refine z_iconst (pc := 2) (0 : Int32) dX9_ones_2 (by decide) ?_
  refine z_istore_n (pc := 3) (L' := [.int x0, .int (0 : Int32), .int (0 : Int32)]) dX9_ones_3 (by decide) rfl ?_
  refine t9_ones_L4 _ _ _ (fun x1_4 => ?_) zF _ _
  · refine z_iload_n (pc := 24) dX9_ones_24 rfl ?_
    exact z_iret (pc := 25) rfl dX9_ones_25
def f9_need_L85 (x4 : Int32) (K155 : Int32 → zMem → zRes) : Nat → Int32 → Int32 → zMem → zRes
  | 0, _, _, _ => none
  | n + 1, x3, x5, μ => zin (1 : Int32) 6 (if (zshl (1 : Int32) (μ 4 (1 : Int32).toNatClampNeg)) ≤ x5 then K155 x3 μ else zin x4 1024 (zin x5 512 (zlet (fun (x3_33 : Int32) (μ34 : zMem) => f9_need_L85 x4 K155 n x3_33 (x5 + (1 : Int32)) μ34) (fun j35 => if (μ (101 + x4.toNatClampNeg) x5.toNatClampNeg) = 0 then j35 x3 μ else zlet (fun (μ38 : zMem) => j35 x5 μ38) (fun j39 => if x3 = (-1 : Int32) then j39 μ else bnd0 (f9_ones x5 μ) (fun (v42 : Int32) (μ43 : zMem) => bnd0 (f9_ones x3 μ43) (fun (v44 : Int32) (μ45 : zMem) => if v42 < v44 then j39 μ45 else bnd0 (f9_ones x5 μ45) (fun (v48 : Int32) (μ49 : zMem) => bnd0 (f9_ones x3 μ49) (fun (v50 : Int32) (μ51 : zMem) => if v48 = v50 then if x3 ≤ x5 then j35 x3 μ51 else j39 μ51 else j35 x3 μ51)))))))))
def f9_need_L53 (K161 : Int32 → zMem → zRes) : Nat → Int32 → Int32 → zMem → zRes
  | 0, _, _, _ => none
  | n + 1, x3, x4, μ => zin (2 : Int32) 6 (if (zshl (1 : Int32) (μ 4 (2 : Int32).toNatClampNeg)) ≤ x4 then K161 x3 μ else bnd0 (f9_worthOf x4 μ) (fun (v21 : Int32) (μ22 : zMem) => zlet (fun (x3_23 : Int32) (μ24 : zMem) => f9_need_L53 K161 n x3_23 (x4 + (1 : Int32)) μ24) (fun j25 => if v21 = (μ22 0 34) then f9_need_L85 x4 (fun (x3_56 : Int32) (μ57 : zMem) => j25 x3_56 μ57) zF x3 (0 : Int32) μ22 else j25 x3 μ22)))
def f9_need (x1 : Int32) (x2 : Int32) (μ : zMem) : zRes := zlet (zset μ 0 0 (0 : Int32)) (fun (μ1 : zMem) => bnd0 (f9_badAsked x1 μ1) (fun (v2 : Int32) (μ3 : zMem) => zlet (fun (μ4 : zMem) => some (0, (0 : Int32), μ4)) (fun j5 => if v2 = 0 then bnd0 (f9_in x2 (0 : Int32) (1 : Int32) μ3) (fun (v8 : Int32) (μ9 : zMem) => zlet (fun (s10 : Int32) => bnd0 (f9_bad s10 (1 : Int32) μ9) (fun (v11 : Int32) (μ12 : zMem) => if v11 = 0 then zin (1 : Int32) 6 (bnd0 (f9_findToday (μ12 4 (1 : Int32).toNatClampNeg) x1 μ12) (fun (v16 : Int32) (μ17 : zMem) => f9_need_L53 (fun (x3_58 : Int32) (μ59 : zMem) => zlet (fun (s60 : Int32) (μ61 : zMem) => some (0, s60, μ61)) (fun j62 => if x2 = 0 then bnd0 (f9_ones x3_58 μ59) (fun (v65 : Int32) (μ66 : zMem) => j62 v65 μ66) else j62 x3_58 μ59)) zF (-1 : Int32) (0 : Int32) μ17)) else j5 μ12)) (fun j67 => if v8 = 0 then j67 (1 : Int32) else j67 (0 : Int32))) else j5 μ3)))
set_option maxHeartbeats 1000000 in
theorem t9_need_L85 (x2 : Int32) (x4 : Int32) (K155 : Int32 → zMem → zRes) (hK155 : ∀ (x3 : Int32) (μ : zMem), zR yX9_need cX9_need 6 (some .int) 7 155 [.ref 0, .null, .int x2, .int x3, .int x4, .null] [] 1134 SM μ (K155 x3 μ)) : ∀ (n : Nat) (x3 : Int32) (x5 : Int32) (μ : zMem), zR yX9_need cX9_need 6 (some .int) 7 85 [.ref 0, .null, .int x2, .int x3, .int x4, .int x5] [] 1134 SM μ (f9_need_L85 x4 K155 n x3 x5 μ) := by
  intro n
  induction n with
  | zero => intro x3 x5 μ; intro q hq; cases hq
  | succ n ih =>
    intro x3 x5 μ
    unfold f9_need_L85
    refine z_iload (pc := 85) dX9_need_85 rfl ?_
    refine z_iconst (pc := 87) (1 : Int32) dX9_need_87 (by decide) ?_
    refine z_aload_n (pc := 88) dX9_need_88 rfl ?_
    refine z_getr (pc := 89) fdX9_23 (by decide) sm_0 rfl rfl dX9_need_89 ?_
    refine z_iconst (pc := 92) (1 : Int32) dX9_need_92 (by decide) ?_
    refine z_iald (pc := 93) (by decide) sm_4 rfl dX9_need_93 (fun h28 => ?_)
    refine z_ishl (pc := 94) dX9_need_94 ?_
    refine z_icmp_ge (pc := 95) (tgt := 155) dX9_need_95 (by decide) (fun c29 => ?_) (fun c30 => ?_)
    · refine z_loc (L' := [.ref 0, .null, .int x2, .int x3, .int x4, .null]) ⟨Or.inr rfl, ⟨Or.inl rfl, ⟨Or.inr rfl, ⟨Or.inr rfl, ⟨Or.inr rfl, ⟨Or.inl rfl, trivial⟩⟩⟩⟩⟩⟩ ?_
      exact hK155 x3 μ
    · refine z_aload_n (pc := 98) dX9_need_98 rfl ?_
      refine z_getr (pc := 99) fdX9_75 (by decide) sm_0 rfl rfl dX9_need_99 ?_
      refine z_iload (pc := 102) dX9_need_102 rfl ?_
      refine z_aald (pc := 104) (fun j => 101 + j) (by decide) sm_100 (Or.inr (Or.inl rfl)) smg_100 dX9_need_104 (fun h31 => ?_)
      refine z_iload (pc := 105) dX9_need_105 rfl ?_
      refine z_zald (pc := 107) (smr_100 h31).2 (smr_100 h31).1 rfl dX9_need_107 (fun h32 => ?_)
      refine z_let (fun (j : Int32 → zMem → zRes) => ∀ (x3_33 : Int32) (μ34 : zMem), zR yX9_need cX9_need 6 (some .int) 7 149 [.ref 0, .null, .int x2, .int x3_33, .int x4, .int x5] [] 1134 SM μ34 (j x3_33 μ34)) ?_ (fun j35 hj35 => ?_)
      · intro x3_33 μ34
        refine z_iinc (pc := 149) (v := x5 + (1 : Int32)) (L' := [.ref 0, .null, .int x2, .int x3_33, .int x4, .int (x5 + (1 : Int32))]) dX9_need_149 (by decide) rfl (congrArg _ (by decide)) rfl ?_
        refine z_goto (pc := 152) (tgt := 85) dX9_need_152 (by decide) ?_
        exact ih x3_33 (x5 + (1 : Int32)) μ34
      · refine z_if_eq (pc := 108) (tgt := 149) dX9_need_108 (by decide) (fun c36 => ?_) (fun c37 => ?_)
        · exact hj35 x3 μ
        · refine z_iload_n (pc := 111) dX9_need_111 rfl ?_
          refine z_iconst (pc := 112) (-1 : Int32) dX9_need_112 (by decide) ?_
          refine z_let (fun (j : zMem → zRes) => ∀ (μ38 : zMem), zR yX9_need cX9_need 6 (some .int) 7 146 [.ref 0, .null, .int x2, .null, .int x4, .int x5] [] 1134 SM μ38 (j μ38)) ?_ (fun j39 hj39 => ?_)
          · intro μ38
            refine z_iload (pc := 146) dX9_need_146 rfl ?_
            refine z_istore_n (pc := 148) (L' := [.ref 0, .null, .int x2, .int x5, .int x4, .int x5]) dX9_need_148 (by decide) rfl ?_
            exact hj35 x5 μ38
          · refine z_icmp_eq (pc := 113) (tgt := 146) dX9_need_113 (by decide) (fun c40 => ?_) (fun c41 => ?_)
            · refine z_loc (L' := [.ref 0, .null, .int x2, .null, .int x4, .int x5]) ⟨Or.inr rfl, ⟨Or.inl rfl, ⟨Or.inr rfl, ⟨Or.inl rfl, ⟨Or.inr rfl, ⟨Or.inr rfl, trivial⟩⟩⟩⟩⟩⟩ ?_
              exact hj39 μ
            · refine z_iload (pc := 116) dX9_need_116 rfl ?_
              refine z_callS (As := [.int x5]) (pc := 118) (ret' := some .int) ksX9_290 (t9_ones _ _) (by decide)  rfl rfl (Nat.le_of_ble_eq_true rfl) dX9_need_118 (fun v42 μ43 => ?_)
              refine z_iload_n (pc := 121) dX9_need_121 rfl ?_
              refine z_callS (As := [.int x3]) (pc := 122) (ret' := some .int) ksX9_290 (t9_ones _ _) (by decide)  rfl rfl (Nat.le_of_ble_eq_true rfl) dX9_need_122 (fun v44 μ45 => ?_)
              refine z_icmp_lt (pc := 125) (tgt := 146) dX9_need_125 (by decide) (fun c46 => ?_) (fun c47 => ?_)
              · refine z_loc (L' := [.ref 0, .null, .int x2, .null, .int x4, .int x5]) ⟨Or.inr rfl, ⟨Or.inl rfl, ⟨Or.inr rfl, ⟨Or.inl rfl, ⟨Or.inr rfl, ⟨Or.inr rfl, trivial⟩⟩⟩⟩⟩⟩ ?_
                exact hj39 μ45
              · refine z_iload (pc := 128) dX9_need_128 rfl ?_
                refine z_callS (As := [.int x5]) (pc := 130) (ret' := some .int) ksX9_290 (t9_ones _ _) (by decide)  rfl rfl (Nat.le_of_ble_eq_true rfl) dX9_need_130 (fun v48 μ49 => ?_)
                refine z_iload_n (pc := 133) dX9_need_133 rfl ?_
                refine z_callS (As := [.int x3]) (pc := 134) (ret' := some .int) ksX9_290 (t9_ones _ _) (by decide)  rfl rfl (Nat.le_of_ble_eq_true rfl) dX9_need_134 (fun v50 μ51 => ?_)
                refine z_icmp_ne (pc := 137) (tgt := 149) dX9_need_137 (by decide) (fun c52 => ?_) (fun c53 => ?_)
                · exact hj35 x3 μ51
                · refine z_iload (pc := 140) dX9_need_140 rfl ?_
                  refine z_iload_n (pc := 142) dX9_need_142 rfl ?_
                  refine z_icmp_ge (pc := 143) (tgt := 149) dX9_need_143 (by decide) (fun c54 => ?_) (fun c55 => ?_)
                  · exact hj35 x3 μ51
                  · refine z_loc (L' := [.ref 0, .null, .int x2, .null, .int x4, .int x5]) ⟨Or.inr rfl, ⟨Or.inl rfl, ⟨Or.inr rfl, ⟨Or.inl rfl, ⟨Or.inr rfl, ⟨Or.inr rfl, trivial⟩⟩⟩⟩⟩⟩ ?_
                    exact hj39 μ51
set_option maxHeartbeats 1000000 in
theorem t9_need_L53 (x2 : Int32) (K161 : Int32 → zMem → zRes) (hK161 : ∀ (x3 : Int32) (μ : zMem), zR yX9_need cX9_need 6 (some .int) 7 161 [.null, .null, .int x2, .int x3, .null, .null] [] 1134 SM μ (K161 x3 μ)) : ∀ (n : Nat) (x3 : Int32) (x4 : Int32) (μ : zMem), zR yX9_need cX9_need 6 (some .int) 7 53 [.ref 0, .null, .int x2, .int x3, .int x4, .null] [] 1134 SM μ (f9_need_L53 K161 n x3 x4 μ) := by
  intro n
  induction n with
  | zero => intro x3 x4 μ; intro q hq; cases hq
  | succ n ih =>
    intro x3 x4 μ
    unfold f9_need_L53
    refine z_iload (pc := 53) dX9_need_53 rfl ?_
    refine z_iconst (pc := 55) (1 : Int32) dX9_need_55 (by decide) ?_
    refine z_aload_n (pc := 56) dX9_need_56 rfl ?_
    refine z_getr (pc := 57) fdX9_23 (by decide) sm_0 rfl rfl dX9_need_57 ?_
    refine z_iconst (pc := 60) (2 : Int32) dX9_need_60 (by decide) ?_
    refine z_iald (pc := 61) (by decide) sm_4 rfl dX9_need_61 (fun h18 => ?_)
    refine z_ishl (pc := 62) dX9_need_62 ?_
    refine z_icmp_ge (pc := 63) (tgt := 161) dX9_need_63 (by decide) (fun c19 => ?_) (fun c20 => ?_)
    · refine z_loc (L' := [.null, .null, .int x2, .int x3, .null, .null]) ⟨Or.inl rfl, ⟨Or.inl rfl, ⟨Or.inr rfl, ⟨Or.inr rfl, ⟨Or.inl rfl, ⟨Or.inl rfl, trivial⟩⟩⟩⟩⟩⟩ ?_
      exact hK161 x3 μ
    · refine z_aload_n (pc := 66) dX9_need_66 rfl ?_
      refine z_iload (pc := 67) dX9_need_67 rfl ?_
      refine z_callV (As := [.int x4]) (pc := 69) (ret' := some .int) kvX9_272 (t9_worthOf _ _) (by decide) (by decide) sm_0  rfl rfl (Nat.le_of_ble_eq_true rfl) dX9_need_69 (fun v21 μ22 => ?_)
      refine z_aload_n (pc := 72) dX9_need_72 rfl ?_
      refine z_geti (pc := 73) fdX9_263 (by decide) sm_0 rfl dX9_need_73 ?_
      refine z_let (fun (j : Int32 → zMem → zRes) => ∀ (x3_23 : Int32) (μ24 : zMem), zR yX9_need cX9_need 6 (some .int) 7 155 [.ref 0, .null, .int x2, .int x3_23, .int x4, .null] [] 1134 SM μ24 (j x3_23 μ24)) ?_ (fun j25 hj25 => ?_)
      · intro x3_23 μ24
        refine z_iinc (pc := 155) (v := x4 + (1 : Int32)) (L' := [.ref 0, .null, .int x2, .int x3_23, .int (x4 + (1 : Int32)), .null]) dX9_need_155 (by decide) rfl (congrArg _ (by decide)) rfl ?_
        refine z_goto (pc := 158) (tgt := 53) dX9_need_158 (by decide) ?_
        exact ih x3_23 (x4 + (1 : Int32)) μ24
      · refine z_icmp_eq (pc := 76) (tgt := 82) dX9_need_76 (by decide) (fun c26 => ?_) (fun c27 => ?_)
        · refine z_iconst (pc := 82) (0 : Int32) dX9_need_82 (by decide) ?_
          refine z_istore (pc := 83) (L' := [.ref 0, .null, .int x2, .int x3, .int x4, .int (0 : Int32)]) dX9_need_83 (by decide) rfl ?_
          refine t9_need_L85 _ _ _ (fun x3_56 μ57 => ?_) zF _ _ _
          · exact hj25 x3_56 μ57
        · refine z_goto (pc := 79) (tgt := 155) dX9_need_79 (by decide) ?_
          exact hj25 x3 μ22
set_option maxHeartbeats 1000000 in
theorem t9_need (x1 : Int32) (x2 : Int32) (μ : zMem) : zMR yX9_need cX9_need 6 (some .int) 7 [.ref 0, .int x1, .int x2] 1134 SM μ (f9_need x1 x2 μ) := by
  refine zMR_of (by decide +kernel) rfl (Nat.le_of_ble_eq_true rfl) (L := [.ref 0, .int x1, .int x2, .null, .null, .null]) rfl ?_
  unfold f9_need
  refine z_aload_n (pc := 0) dX9_need_0 rfl ?_
  refine z_iconst (pc := 1) (0 : Int32) dX9_need_1 (by decide) ?_
  refine z_puti (pc := 2) fdX9_106 (by decide) sm_0 rfl rfl dX9_need_2 ?_
  refine z_mem (fun μ1 => ?_)
  refine z_aload_n (pc := 5) dX9_need_5 rfl ?_
  refine z_iload_n (pc := 6) dX9_need_6 rfl ?_
  refine z_callV (As := [.int x1]) (pc := 7) (ret' := some .boolean) kvX9_278 (t9_badAsked _ _) (by decide) (by decide) sm_0  rfl rfl (Nat.le_of_ble_eq_true rfl) dX9_need_7 (fun v2 μ3 => ?_)
  refine z_let (fun (j : zMem → zRes) => ∀ (μ4 : zMem), zR yX9_need cX9_need 6 (some .int) 7 35 [.null, .null, .null, .null, .null, .null] [] 1134 SM μ4 (j μ4)) ?_ (fun j5 hj5 => ?_)
  · intro μ4
    refine z_iconst (pc := 35) (0 : Int32) dX9_need_35 (by decide) ?_
    exact z_iret (pc := 36) rfl dX9_need_36
  · refine z_if_ne (pc := 10) (tgt := 35) dX9_need_10 (by decide) (fun c6 => ?_) (fun c7 => ?_)
    · refine z_loc (L' := [.null, .null, .null, .null, .null, .null]) ⟨Or.inl rfl, ⟨Or.inl rfl, ⟨Or.inl rfl, ⟨Or.inl rfl, ⟨Or.inl rfl, ⟨Or.inl rfl, trivial⟩⟩⟩⟩⟩⟩ ?_
      exact hj5 μ3
    · refine z_aload_n (pc := 13) dX9_need_13 rfl ?_
      refine z_iload_n (pc := 14) dX9_need_14 rfl ?_
      refine z_iconst (pc := 15) (0 : Int32) dX9_need_15 (by decide) ?_
      refine z_iconst (pc := 16) (1 : Int32) dX9_need_16 (by decide) ?_
      refine z_callS (As := [.int x2, .int (0 : Int32), .int (1 : Int32)]) (pc := 17) (ret' := some .boolean) ksX9_140 (t9_in _ _ _ _) (by decide)  rfl rfl (Nat.le_of_ble_eq_true rfl) dX9_need_17 (fun v8 μ9 => ?_)
      refine z_let (fun (j : Int32 → zRes) => ∀ (s10 : Int32), zR yX9_need cX9_need 6 (some .int) 7 28 [.ref 0, .int x1, .int x2, .null, .null, .null] [.int s10, .ref 0] 1134 SM μ9 (j s10)) ?_ (fun j67 hj67 => ?_)
      · intro s10
        refine z_iconst (pc := 28) (1 : Int32) dX9_need_28 (by decide) ?_
        refine z_callV (As := [.int s10, .int (1 : Int32)]) (pc := 29) (ret' := some .boolean) kvX9_188 (t9_bad _ _ _) (by decide) (by decide) sm_0  rfl rfl (Nat.le_of_ble_eq_true rfl) dX9_need_29 (fun v11 μ12 => ?_)
        refine z_if_eq (pc := 32) (tgt := 37) dX9_need_32 (by decide) (fun c13 => ?_) (fun c14 => ?_)
        · refine z_aload_n (pc := 37) dX9_need_37 rfl ?_
          refine z_aload_n (pc := 38) dX9_need_38 rfl ?_
          refine z_getr (pc := 39) fdX9_23 (by decide) sm_0 rfl rfl dX9_need_39 ?_
          refine z_iconst (pc := 42) (1 : Int32) dX9_need_42 (by decide) ?_
          refine z_iald (pc := 43) (by decide) sm_4 rfl dX9_need_43 (fun h15 => ?_)
          refine z_iload_n (pc := 44) dX9_need_44 rfl ?_
          refine z_callV (As := [.int (μ12 4 (1 : Int32).toNatClampNeg), .int x1]) (pc := 45) (ret' := none) kvX9_281 (t9_findToday _ _ _) (by decide) (by decide) sm_0  rfl rfl (Nat.le_of_ble_eq_true rfl) dX9_need_45 (fun v16 μ17 => ?_)
          refine z_iconst (pc := 48) (-1 : Int32) dX9_need_48 (by decide) ?_
          refine z_istore_n (pc := 49) (L' := [.ref 0, .int x1, .int x2, .int (-1 : Int32), .null, .null]) dX9_need_49 (by decide) rfl ?_
          refine z_iconst (pc := 50) (0 : Int32) dX9_need_50 (by decide) ?_
          refine z_istore (pc := 51) (L' := [.ref 0, .int x1, .int x2, .int (-1 : Int32), .int (0 : Int32), .null]) dX9_need_51 (by decide) rfl ?_
          refine z_loc (L' := [.ref 0, .null, .int x2, .int (-1 : Int32), .int (0 : Int32), .null]) ⟨Or.inr rfl, ⟨Or.inl rfl, ⟨Or.inr rfl, ⟨Or.inr rfl, ⟨Or.inr rfl, ⟨Or.inl rfl, trivial⟩⟩⟩⟩⟩⟩ ?_
          refine t9_need_L53 _ _ (fun x3_58 μ59 => ?_) zF _ _ _
          · refine z_iload_n (pc := 161) dX9_need_161 rfl ?_
            refine z_let (fun (j : Int32 → zMem → zRes) => ∀ (s60 : Int32) (μ61 : zMem), zR yX9_need cX9_need 6 (some .int) 7 173 [.null, .null, .null, .null, .null, .null] [.int s60] 1134 SM μ61 (j s60 μ61)) ?_ (fun j62 hj62 => ?_)
            · intro s60 μ61
              exact z_iret (pc := 173) rfl dX9_need_173
            · refine z_if_ne (pc := 162) (tgt := 172) dX9_need_162 (by decide) (fun c63 => ?_) (fun c64 => ?_)
              · refine z_iload_n (pc := 172) dX9_need_172 rfl ?_
                refine z_loc (L' := [.null, .null, .null, .null, .null, .null]) ⟨Or.inl rfl, ⟨Or.inl rfl, ⟨Or.inl rfl, ⟨Or.inl rfl, ⟨Or.inl rfl, ⟨Or.inl rfl, trivial⟩⟩⟩⟩⟩⟩ ?_
                exact hj62 x3_58 μ59
              · refine z_iload_n (pc := 165) dX9_need_165 rfl ?_
                refine z_callS (As := [.int x3_58]) (pc := 166) (ret' := some .int) ksX9_290 (t9_ones _ _) (by decide)  rfl rfl (Nat.le_of_ble_eq_true rfl) dX9_need_166 (fun v65 μ66 => ?_)
                refine z_goto (pc := 169) (tgt := 173) dX9_need_169 (by decide) ?_
                refine z_loc (L' := [.null, .null, .null, .null, .null, .null]) ⟨Or.inl rfl, ⟨Or.inl rfl, ⟨Or.inl rfl, ⟨Or.inl rfl, ⟨Or.inl rfl, ⟨Or.inl rfl, trivial⟩⟩⟩⟩⟩⟩ ?_
                exact hj62 v65 μ66
        · refine z_loc (L' := [.null, .null, .null, .null, .null, .null]) ⟨Or.inl rfl, ⟨Or.inl rfl, ⟨Or.inl rfl, ⟨Or.inl rfl, ⟨Or.inl rfl, ⟨Or.inl rfl, trivial⟩⟩⟩⟩⟩⟩ ?_
          exact hj5 μ12
      · refine z_if_ne (pc := 20) (tgt := 27) dX9_need_20 (by decide) (fun c68 => ?_) (fun c69 => ?_)
        · refine z_iconst (pc := 27) (0 : Int32) dX9_need_27 (by decide) ?_
          exact hj67 (0 : Int32)
        · refine z_iconst (pc := 23) (1 : Int32) dX9_need_23 (by decide) ?_
          refine z_goto (pc := 24) (tgt := 28) dX9_need_24 (by decide) ?_
          exact hj67 (1 : Int32)
def f9_choose_L11 (K61 : Int32 → zMem → zRes) : Nat → Int32 → Int32 → Int32 → zMem → zRes
  | 0, _, _, _, _ => none
  | n + 1, x1, x2, x3, μ => zin (0 : Int32) 6 (if (μ 4 (0 : Int32).toNatClampNeg) ≤ x3 then K61 x1 μ else zin (1 : Int32) 6 (bnd0 (f9_findToday (μ 4 (1 : Int32).toNatClampNeg) x3 μ) (fun (v6 : Int32) (μ7 : zMem) => zlet (fun (x1_8 : Int32) (x2_9 : Int32) => f9_choose_L11 K61 n x1_8 x2_9 (x3 + (1 : Int32)) μ7) (fun j10 => zlet (zlet (μ7 0 34) (fun (v11 : Int32) => j10 x3 v11)) (fun j12 => if x1 = (-1 : Int32) then j12 else if x2 < (μ7 0 34) then j12 else j10 x1 x2)))))
def f9_choose (μ : zMem) : zRes := zlet (zset μ 0 0 (0 : Int32)) (fun (μ1 : zMem) => f9_choose_L11 (fun (x1_17 : Int32) (μ18 : zMem) => some (0, x1_17, μ18)) zF (-1 : Int32) (0 : Int32) (0 : Int32) μ1)
set_option maxHeartbeats 1000000 in
theorem t9_choose_L11 (K61 : Int32 → zMem → zRes) (hK61 : ∀ (x1 : Int32) (μ : zMem), zR yX9_choose cX9_choose 4 (some .int) 7 61 [.null, .int x1, .null, .null] [] 1134 SM μ (K61 x1 μ)) : ∀ (n : Nat) (x1 : Int32) (x2 : Int32) (x3 : Int32) (μ : zMem), zR yX9_choose cX9_choose 4 (some .int) 7 11 [.ref 0, .int x1, .int x2, .int x3] [] 1134 SM μ (f9_choose_L11 K61 n x1 x2 x3 μ) := by
  intro n
  induction n with
  | zero => intro x1 x2 x3 μ; intro q hq; cases hq
  | succ n ih =>
    intro x1 x2 x3 μ
    unfold f9_choose_L11
    refine z_iload_n (pc := 11) dX9_choose_11 rfl ?_
    refine z_aload_n (pc := 12) dX9_choose_12 rfl ?_
    refine z_getr (pc := 13) fdX9_23 (by decide) sm_0 rfl rfl dX9_choose_13 ?_
    refine z_iconst (pc := 16) (0 : Int32) dX9_choose_16 (by decide) ?_
    refine z_iald (pc := 17) (by decide) sm_4 rfl dX9_choose_17 (fun h2 => ?_)
    refine z_icmp_ge (pc := 18) (tgt := 61) dX9_choose_18 (by decide) (fun c3 => ?_) (fun c4 => ?_)
    · refine z_loc (L' := [.null, .int x1, .null, .null]) ⟨Or.inl rfl, ⟨Or.inr rfl, ⟨Or.inl rfl, ⟨Or.inl rfl, trivial⟩⟩⟩⟩ ?_
      exact hK61 x1 μ
    · refine z_aload_n (pc := 21) dX9_choose_21 rfl ?_
      refine z_aload_n (pc := 22) dX9_choose_22 rfl ?_
      refine z_getr (pc := 23) fdX9_23 (by decide) sm_0 rfl rfl dX9_choose_23 ?_
      refine z_iconst (pc := 26) (1 : Int32) dX9_choose_26 (by decide) ?_
      refine z_iald (pc := 27) (by decide) sm_4 rfl dX9_choose_27 (fun h5 => ?_)
      refine z_iload_n (pc := 28) dX9_choose_28 rfl ?_
      refine z_callV (As := [.int (μ 4 (1 : Int32).toNatClampNeg), .int x3]) (pc := 29) (ret' := none) kvX9_281 (t9_findToday _ _ _) (by decide) (by decide) sm_0  rfl rfl (Nat.le_of_ble_eq_true rfl) dX9_choose_29 (fun v6 μ7 => ?_)
      refine z_iload_n (pc := 32) dX9_choose_32 rfl ?_
      refine z_iconst (pc := 33) (-1 : Int32) dX9_choose_33 (by decide) ?_
      refine z_let (fun (j : Int32 → Int32 → zRes) => ∀ (x1_8 : Int32) (x2_9 : Int32), zR yX9_choose cX9_choose 4 (some .int) 7 55 [.ref 0, .int x1_8, .int x2_9, .int x3] [] 1134 SM μ7 (j x1_8 x2_9)) ?_ (fun j10 hj10 => ?_)
      · intro x1_8 x2_9
        refine z_iinc (pc := 55) (v := x3 + (1 : Int32)) (L' := [.ref 0, .int x1_8, .int x2_9, .int (x3 + (1 : Int32))]) dX9_choose_55 (by decide) rfl (congrArg _ (by decide)) rfl ?_
        refine z_goto (pc := 58) (tgt := 11) dX9_choose_58 (by decide) ?_
        exact ih x1_8 x2_9 (x3 + (1 : Int32)) μ7
      · refine z_let (fun (j : zRes) => zR yX9_choose cX9_choose 4 (some .int) 7 48 [.ref 0, .null, .null, .int x3] [] 1134 SM μ7 (j)) ?_ (fun j12 hj12 => ?_)
        · refine z_iload_n (pc := 48) dX9_choose_48 rfl ?_
          refine z_istore_n (pc := 49) (L' := [.ref 0, .int x3, .null, .int x3]) dX9_choose_49 (by decide) rfl ?_
          refine z_aload_n (pc := 50) dX9_choose_50 rfl ?_
          refine z_geti (pc := 51) fdX9_263 (by decide) sm_0 rfl dX9_choose_51 ?_
          refine z_val (fun v11 => ?_)
          refine z_istore_n (pc := 54) (L' := [.ref 0, .int x3, .int v11, .int x3]) dX9_choose_54 (by decide) rfl ?_
          exact hj10 x3 v11
        · refine z_icmp_eq (pc := 34) (tgt := 48) dX9_choose_34 (by decide) (fun c13 => ?_) (fun c14 => ?_)
          · refine z_loc (L' := [.ref 0, .null, .null, .int x3]) ⟨Or.inr rfl, ⟨Or.inl rfl, ⟨Or.inl rfl, ⟨Or.inr rfl, trivial⟩⟩⟩⟩ ?_
            exact hj12
          · refine z_aload_n (pc := 37) dX9_choose_37 rfl ?_
            refine z_geti (pc := 38) fdX9_263 (by decide) sm_0 rfl dX9_choose_38 ?_
            refine z_iload_n (pc := 41) dX9_choose_41 rfl ?_
            refine z_icmp_gt (pc := 42) (tgt := 48) dX9_choose_42 (by decide) (fun c15 => ?_) (fun c16 => ?_)
            · refine z_loc (L' := [.ref 0, .null, .null, .int x3]) ⟨Or.inr rfl, ⟨Or.inl rfl, ⟨Or.inl rfl, ⟨Or.inr rfl, trivial⟩⟩⟩⟩ ?_
              exact hj12
            · refine z_goto (pc := 45) (tgt := 55) dX9_choose_45 (by decide) ?_
              exact hj10 x1 x2
set_option maxHeartbeats 1000000 in
theorem t9_choose (μ : zMem) : zMR yX9_choose cX9_choose 4 (some .int) 7 [.ref 0] 1134 SM μ (f9_choose μ) := by
  refine zMR_of (by decide +kernel) rfl (Nat.le_of_ble_eq_true rfl) (L := [.ref 0, .null, .null, .null]) rfl ?_
  unfold f9_choose
  refine z_aload_n (pc := 0) dX9_choose_0 rfl ?_
  refine z_iconst (pc := 1) (0 : Int32) dX9_choose_1 (by decide) ?_
  refine z_puti (pc := 2) fdX9_106 (by decide) sm_0 rfl rfl dX9_choose_2 ?_
  refine z_mem (fun μ1 => ?_)
  refine z_iconst (pc := 5) (-1 : Int32) dX9_choose_5 (by decide) ?_
  refine z_istore_n (pc := 6) (L' := [.ref 0, .int (-1 : Int32), .null, .null]) dX9_choose_6 (by decide) rfl ?_
  refine z_iconst (pc := 7) (0 : Int32) dX9_choose_7 (by decide) ?_
  refine z_istore_n (pc := 8) (L' := [.ref 0, .int (-1 : Int32), .int (0 : Int32), .null]) dX9_choose_8 (by decide) rfl ?_
  refine z_iconst (pc := 9) (0 : Int32) dX9_choose_9 (by decide) ?_
  refine z_istore_n (pc := 10) (L' := [.ref 0, .int (-1 : Int32), .int (0 : Int32), .int (0 : Int32)]) dX9_choose_10 (by decide) rfl ?_
  refine t9_choose_L11 _ (fun x1_17 μ18 => ?_) zF _ _ _ _
  · refine z_iload_n (pc := 61) dX9_choose_61 rfl ?_
    exact z_iret (pc := 62) rfl dX9_choose_62
def f9_stranger_L31 (μ : zMem) (K77 : Int32 → Int32 → zRes) : Nat → Int32 → Int32 → Int32 → zRes
  | 0, _, _, _ => none
  | n + 1, x4, x5, x6 => zin (0 : Int32) 6 (if (μ 4 (0 : Int32).toNatClampNeg) ≤ x6 then K77 x4 x5 else zlet (fun (s6 : Int32) => zlet (x5 / (10 : Int32)) (fun (v7 : Int32) => f9_stranger_L31 μ K77 n s6 v7 (x6 + (1 : Int32)))) (fun j8 => zlet (j8 (0 : Int32)) (fun j9 => if x4 = 0 then j9 else if (9 : Int32) ≤ (zrem x5 (10 : Int32)) then j9 else j8 (1 : Int32))))
def f9_stranger_L150 (x7 : Int32) (K189 : zMem → zRes) : Nat → Int32 → Int32 → zMem → zRes
  | 0, _, _, _ => none
  | n + 1, x5, x8, μ => zin (0 : Int32) 6 (if (μ 4 (0 : Int32).toNatClampNeg) ≤ x8 then K189 μ else zin x7 9 (zin x8 4 (zlet (zset μ (51 + x7.toNatClampNeg) x8.toNatClampNeg (zrem x5 (10 : Int32))) (fun (μ39 : zMem) => zlet (x5 / (10 : Int32)) (fun (v40 : Int32) => f9_stranger_L150 x7 K189 n v40 (x8 + (1 : Int32)) μ39)))))
def f9_stranger (x1 : Int32) (x2 : Int32) (x3 : Int32) (μ : zMem) : zRes := zlet (zset μ 0 0 (0 : Int32)) (fun (μ1 : zMem) => zlet (fun (s2 : Int32) => f9_stranger_L31 μ1 (fun (x4_14 : Int32) (x5_15 : Int32) => bnd0 (f9_badAsked x1 μ1) (fun (v16 : Int32) (μ17 : zMem) => zlet (fun (μ18 : zMem) => some (0, (0 : Int32), μ18)) (fun j19 => if v16 = 0 then zlet (fun (s22 : Int32) (μ23 : zMem) => bnd0 (f9_bad s22 (1 : Int32) μ23) (fun (v24 : Int32) (μ25 : zMem) => if v24 = 0 then zin (1 : Int32) 6 (bnd0 (f9_findToday (μ25 4 (1 : Int32).toNatClampNeg) x1 μ25) (fun (v29 : Int32) (μ30 : zMem) => zlet (μ30 0 34) (fun (v31 : Int32) => zin (1 : Int32) 6 (zlet (μ30 4 (1 : Int32).toNatClampNeg) (fun (v33 : Int32) => f9_stranger_L150 v33 (fun (μ41 : zMem) => zin v33 9 (zlet (μ41 91 v33.toNatClampNeg) (fun (v43 : Int32) => zin v33 9 (zlet (μ41 49 v33.toNatClampNeg) (fun (v45 : Int32) => zin (4 : Int32) 6 (zin v33 9 (zlet (zset μ41 91 v33.toNatClampNeg (μ41 4 (4 : Int32).toNatClampNeg)) (fun (μ48 : zMem) => zin v33 9 (zlet (zset μ48 49 v33.toNatClampNeg (0 : Int32)) (fun (μ50 : zMem) => bnd0 (f9_findToday (v33 + (1 : Int32)) x1 μ50) (fun (v51 : Int32) (μ52 : zMem) => zin v33 9 (zlet (zset μ52 91 v33.toNatClampNeg v43) (fun (μ54 : zMem) => zin v33 9 (zlet (zset μ54 49 v33.toNatClampNeg v45) (fun (μ56 : zMem) => some (0, (μ56 0 34) - v31, μ56)))))))))))))))) zF x2 (0 : Int32) μ30))))) else j19 μ25)) (fun j57 => zlet (fun (μ58 : zMem) => j57 (1 : Int32) μ58) (fun j59 => if x4_14 = 0 then j59 μ17 else if 0 < x5_15 then j59 μ17 else bnd0 (f9_in x3 (0 : Int32) (4 : Int32) μ17) (fun (v64 : Int32) (μ65 : zMem) => if v64 = 0 then j59 μ65 else j57 (0 : Int32) μ65))) else j19 μ17))) zF s2 x2 (0 : Int32)) (fun j68 => zlet (j68 (0 : Int32)) (fun j69 => if x2 < 0 then j69 else zin (0 : Int32) 6 (if (μ1 4 (0 : Int32).toNatClampNeg) ≤ 0 then j69 else j68 (1 : Int32)))))
set_option maxHeartbeats 1000000 in
theorem t9_stranger_L31 (x1 : Int32) (x2 : Int32) (x3 : Int32) (μ : zMem) (K77 : Int32 → Int32 → zRes) (hK77 : ∀ (x4 : Int32) (x5 : Int32), zR yX9_stranger cX9_stranger 10 (some .int) 7 77 [.ref 0, .int x1, .int x2, .int x3, .int x4, .int x5, .null, .null, .null, .null] [] 1134 SM μ (K77 x4 x5)) : ∀ (n : Nat) (x4 : Int32) (x5 : Int32) (x6 : Int32), zR yX9_stranger cX9_stranger 10 (some .int) 7 31 [.ref 0, .int x1, .int x2, .int x3, .int x4, .int x5, .int x6, .null, .null, .null] [] 1134 SM μ (f9_stranger_L31 μ K77 n x4 x5 x6) := by
  intro n
  induction n with
  | zero => intro x4 x5 x6; intro q hq; cases hq
  | succ n ih =>
    intro x4 x5 x6
    unfold f9_stranger_L31
    refine z_iload (pc := 31) dX9_stranger_31 rfl ?_
    refine z_aload_n (pc := 33) dX9_stranger_33 rfl ?_
    refine z_getr (pc := 34) fdX9_23 (by decide) sm_0 rfl rfl dX9_stranger_34 ?_
    refine z_iconst (pc := 37) (0 : Int32) dX9_stranger_37 (by decide) ?_
    refine z_iald (pc := 38) (by decide) sm_4 rfl dX9_stranger_38 (fun h3 => ?_)
    refine z_icmp_ge (pc := 39) (tgt := 77) dX9_stranger_39 (by decide) (fun c4 => ?_) (fun c5 => ?_)
    · refine z_loc (L' := [.ref 0, .int x1, .int x2, .int x3, .int x4, .int x5, .null, .null, .null, .null]) ⟨Or.inr rfl, ⟨Or.inr rfl, ⟨Or.inr rfl, ⟨Or.inr rfl, ⟨Or.inr rfl, ⟨Or.inr rfl, ⟨Or.inl rfl, ⟨Or.inl rfl, ⟨Or.inl rfl, ⟨Or.inl rfl, trivial⟩⟩⟩⟩⟩⟩⟩⟩⟩⟩ ?_
      exact hK77 x4 x5
    · refine z_iload (pc := 42) dX9_stranger_42 rfl ?_
      refine z_let (fun (j : Int32 → zRes) => ∀ (s6 : Int32), zR yX9_stranger cX9_stranger 10 (some .int) 7 62 [.ref 0, .int x1, .int x2, .int x3, .null, .int x5, .int x6, .null, .null, .null] [.int s6] 1134 SM μ (j s6)) ?_ (fun j8 hj8 => ?_)
      · intro s6
        refine z_istore (pc := 62) (L' := [.ref 0, .int x1, .int x2, .int x3, .int s6, .int x5, .int x6, .null, .null, .null]) dX9_stranger_62 (by decide) rfl ?_
        refine z_iload (pc := 64) dX9_stranger_64 rfl ?_
        refine z_bipush (pc := 66) (10 : Int32) dX9_stranger_66 (by decide) ?_
        refine z_idivc (pc := 68) dX9_stranger_68 (by decide) ?_
        refine z_val (fun v7 => ?_)
        refine z_istore (pc := 69) (L' := [.ref 0, .int x1, .int x2, .int x3, .int s6, .int v7, .int x6, .null, .null, .null]) dX9_stranger_69 (by decide) rfl ?_
        refine z_iinc (pc := 71) (v := x6 + (1 : Int32)) (L' := [.ref 0, .int x1, .int x2, .int x3, .int s6, .int v7, .int (x6 + (1 : Int32)), .null, .null, .null]) dX9_stranger_71 (by decide) rfl (congrArg _ (by decide)) rfl ?_
        refine z_goto (pc := 74) (tgt := 31) dX9_stranger_74 (by decide) ?_
        exact ih s6 v7 (x6 + (1 : Int32))
      · refine z_let (fun (j : zRes) => zR yX9_stranger cX9_stranger 10 (some .int) 7 61 [.ref 0, .int x1, .int x2, .int x3, .null, .int x5, .int x6, .null, .null, .null] [] 1134 SM μ (j)) ?_ (fun j9 hj9 => ?_)
        · refine z_iconst (pc := 61) (0 : Int32) dX9_stranger_61 (by decide) ?_
          exact hj8 (0 : Int32)
        · refine z_if_eq (pc := 44) (tgt := 61) dX9_stranger_44 (by decide) (fun c10 => ?_) (fun c11 => ?_)
          · refine z_loc (L' := [.ref 0, .int x1, .int x2, .int x3, .null, .int x5, .int x6, .null, .null, .null]) ⟨Or.inr rfl, ⟨Or.inr rfl, ⟨Or.inr rfl, ⟨Or.inr rfl, ⟨Or.inl rfl, ⟨Or.inr rfl, ⟨Or.inr rfl, ⟨Or.inl rfl, ⟨Or.inl rfl, ⟨Or.inl rfl, trivial⟩⟩⟩⟩⟩⟩⟩⟩⟩⟩ ?_
            exact hj9
          · refine z_iload (pc := 47) dX9_stranger_47 rfl ?_
            refine z_bipush (pc := 49) (10 : Int32) dX9_stranger_49 (by decide) ?_
            refine z_iremc (pc := 51) dX9_stranger_51 (by decide) ?_
            refine z_bipush (pc := 52) (9 : Int32) dX9_stranger_52 (by decide) ?_
            refine z_icmp_ge (pc := 54) (tgt := 61) dX9_stranger_54 (by decide) (fun c12 => ?_) (fun c13 => ?_)
            · refine z_loc (L' := [.ref 0, .int x1, .int x2, .int x3, .null, .int x5, .int x6, .null, .null, .null]) ⟨Or.inr rfl, ⟨Or.inr rfl, ⟨Or.inr rfl, ⟨Or.inr rfl, ⟨Or.inl rfl, ⟨Or.inr rfl, ⟨Or.inr rfl, ⟨Or.inl rfl, ⟨Or.inl rfl, ⟨Or.inl rfl, trivial⟩⟩⟩⟩⟩⟩⟩⟩⟩⟩ ?_
              exact hj9
            · refine z_iconst (pc := 57) (1 : Int32) dX9_stranger_57 (by decide) ?_
              refine z_goto (pc := 58) (tgt := 62) dX9_stranger_58 (by decide) ?_
              refine z_loc (L' := [.ref 0, .int x1, .int x2, .int x3, .null, .int x5, .int x6, .null, .null, .null]) ⟨Or.inr rfl, ⟨Or.inr rfl, ⟨Or.inr rfl, ⟨Or.inr rfl, ⟨Or.inl rfl, ⟨Or.inr rfl, ⟨Or.inr rfl, ⟨Or.inl rfl, ⟨Or.inl rfl, ⟨Or.inl rfl, trivial⟩⟩⟩⟩⟩⟩⟩⟩⟩⟩ ?_
              exact hj8 (1 : Int32)
set_option maxHeartbeats 1000000 in
theorem t9_stranger_L150 (x1 : Int32) (x6 : Int32) (x7 : Int32) (K189 : zMem → zRes) (hK189 : ∀ (μ : zMem), zR yX9_stranger cX9_stranger 10 (some .int) 7 189 [.ref 0, .int x1, .null, .null, .null, .null, .int x6, .int x7, .null, .null] [] 1134 SM μ (K189 μ)) : ∀ (n : Nat) (x5 : Int32) (x8 : Int32) (μ : zMem), zR yX9_stranger cX9_stranger 10 (some .int) 7 150 [.ref 0, .int x1, .null, .null, .null, .int x5, .int x6, .int x7, .int x8, .null] [] 1134 SM μ (f9_stranger_L150 x7 K189 n x5 x8 μ) := by
  intro n
  induction n with
  | zero => intro x5 x8 μ; intro q hq; cases hq
  | succ n ih =>
    intro x5 x8 μ
    unfold f9_stranger_L150
    refine z_iload (pc := 150) dX9_stranger_150 rfl ?_
    refine z_aload_n (pc := 152) dX9_stranger_152 rfl ?_
    refine z_getr (pc := 153) fdX9_23 (by decide) sm_0 rfl rfl dX9_stranger_153 ?_
    refine z_iconst (pc := 156) (0 : Int32) dX9_stranger_156 (by decide) ?_
    refine z_iald (pc := 157) (by decide) sm_4 rfl dX9_stranger_157 (fun h34 => ?_)
    refine z_icmp_ge (pc := 158) (tgt := 189) dX9_stranger_158 (by decide) (fun c35 => ?_) (fun c36 => ?_)
    · refine z_loc (L' := [.ref 0, .int x1, .null, .null, .null, .null, .int x6, .int x7, .null, .null]) ⟨Or.inr rfl, ⟨Or.inr rfl, ⟨Or.inl rfl, ⟨Or.inl rfl, ⟨Or.inl rfl, ⟨Or.inl rfl, ⟨Or.inr rfl, ⟨Or.inr rfl, ⟨Or.inl rfl, ⟨Or.inl rfl, trivial⟩⟩⟩⟩⟩⟩⟩⟩⟩⟩ ?_
      exact hK189 μ
    · refine z_aload_n (pc := 161) dX9_stranger_161 rfl ?_
      refine z_getr (pc := 162) fdX9_52 (by decide) sm_0 rfl rfl dX9_stranger_162 ?_
      refine z_iload (pc := 165) dX9_stranger_165 rfl ?_
      refine z_aald (pc := 167) (fun j => 51 + j) (by decide) sm_50 (Or.inl rfl) smg_50 dX9_stranger_167 (fun h37 => ?_)
      refine z_iload (pc := 168) dX9_stranger_168 rfl ?_
      refine z_iload (pc := 170) dX9_stranger_170 rfl ?_
      refine z_bipush (pc := 172) (10 : Int32) dX9_stranger_172 (by decide) ?_
      refine z_iremc (pc := 174) dX9_stranger_174 (by decide) ?_
      refine z_iast (pc := 175) (smr_50 h37).2 (smr_50 h37).1 rfl dX9_stranger_175 (fun h38 => ?_)
      refine z_mem (fun μ39 => ?_)
      refine z_iload (pc := 176) dX9_stranger_176 rfl ?_
      refine z_bipush (pc := 178) (10 : Int32) dX9_stranger_178 (by decide) ?_
      refine z_idivc (pc := 180) dX9_stranger_180 (by decide) ?_
      refine z_val (fun v40 => ?_)
      refine z_istore (pc := 181) (L' := [.ref 0, .int x1, .null, .null, .null, .int v40, .int x6, .int x7, .int x8, .null]) dX9_stranger_181 (by decide) rfl ?_
      refine z_iinc (pc := 183) (v := x8 + (1 : Int32)) (L' := [.ref 0, .int x1, .null, .null, .null, .int v40, .int x6, .int x7, .int (x8 + (1 : Int32)), .null]) dX9_stranger_183 (by decide) rfl (congrArg _ (by decide)) rfl ?_
      refine z_goto (pc := 186) (tgt := 150) dX9_stranger_186 (by decide) ?_
      exact ih v40 (x8 + (1 : Int32)) μ39
set_option maxHeartbeats 1000000 in
theorem t9_stranger (x1 : Int32) (x2 : Int32) (x3 : Int32) (μ : zMem) : zMR yX9_stranger cX9_stranger 10 (some .int) 7 [.ref 0, .int x1, .int x2, .int x3] 1134 SM μ (f9_stranger x1 x2 x3 μ) := by
  refine zMR_of (by decide +kernel) rfl (Nat.le_of_ble_eq_true rfl) (L := [.ref 0, .int x1, .int x2, .int x3, .null, .null, .null, .null, .null, .null]) rfl ?_
  unfold f9_stranger
  refine z_aload_n (pc := 0) dX9_stranger_0 rfl ?_
  refine z_iconst (pc := 1) (0 : Int32) dX9_stranger_1 (by decide) ?_
  refine z_puti (pc := 2) fdX9_106 (by decide) sm_0 rfl rfl dX9_stranger_2 ?_
  refine z_mem (fun μ1 => ?_)
  refine z_iload_n (pc := 5) dX9_stranger_5 rfl ?_
  refine z_let (fun (j : Int32 → zRes) => ∀ (s2 : Int32), zR yX9_stranger cX9_stranger 10 (some .int) 7 23 [.ref 0, .int x1, .int x2, .int x3, .null, .null, .null, .null, .null, .null] [.int s2] 1134 SM μ1 (j s2)) ?_ (fun j68 hj68 => ?_)
  · intro s2
    refine z_istore (pc := 23) (L' := [.ref 0, .int x1, .int x2, .int x3, .int s2, .null, .null, .null, .null, .null]) dX9_stranger_23 (by decide) rfl ?_
    refine z_iload_n (pc := 25) dX9_stranger_25 rfl ?_
    refine z_istore (pc := 26) (L' := [.ref 0, .int x1, .int x2, .int x3, .int s2, .int x2, .null, .null, .null, .null]) dX9_stranger_26 (by decide) rfl ?_
    refine z_iconst (pc := 28) (0 : Int32) dX9_stranger_28 (by decide) ?_
    refine z_istore (pc := 29) (L' := [.ref 0, .int x1, .int x2, .int x3, .int s2, .int x2, .int (0 : Int32), .null, .null, .null]) dX9_stranger_29 (by decide) rfl ?_
    refine t9_stranger_L31 _ _ _ _ _ (fun x4_14 x5_15 => ?_) zF _ _ _
    · refine z_aload_n (pc := 77) dX9_stranger_77 rfl ?_
      refine z_iload_n (pc := 78) dX9_stranger_78 rfl ?_
      refine z_callV (As := [.int x1]) (pc := 79) (ret' := some .boolean) kvX9_278 (t9_badAsked _ _) (by decide) (by decide) sm_0  rfl rfl (Nat.le_of_ble_eq_true rfl) dX9_stranger_79 (fun v16 μ17 => ?_)
      refine z_let (fun (j : zMem → zRes) => ∀ (μ18 : zMem), zR yX9_stranger cX9_stranger 10 (some .int) 7 117 [.null, .null, .null, .null, .null, .null, .null, .null, .null, .null] [] 1134 SM μ18 (j μ18)) ?_ (fun j19 hj19 => ?_)
      · intro μ18
        refine z_iconst (pc := 117) (0 : Int32) dX9_stranger_117 (by decide) ?_
        exact z_iret (pc := 118) rfl dX9_stranger_118
      · refine z_if_ne (pc := 82) (tgt := 117) dX9_stranger_82 (by decide) (fun c20 => ?_) (fun c21 => ?_)
        · refine z_loc (L' := [.null, .null, .null, .null, .null, .null, .null, .null, .null, .null]) ⟨Or.inl rfl, ⟨Or.inl rfl, ⟨Or.inl rfl, ⟨Or.inl rfl, ⟨Or.inl rfl, ⟨Or.inl rfl, ⟨Or.inl rfl, ⟨Or.inl rfl, ⟨Or.inl rfl, ⟨Or.inl rfl, trivial⟩⟩⟩⟩⟩⟩⟩⟩⟩⟩ ?_
          exact hj19 μ17
        · refine z_aload_n (pc := 85) dX9_stranger_85 rfl ?_
          refine z_iload (pc := 86) dX9_stranger_86 rfl ?_
          refine z_let (fun (j : Int32 → zMem → zRes) => ∀ (s22 : Int32) (μ23 : zMem), zR yX9_stranger cX9_stranger 10 (some .int) 7 110 [.ref 0, .int x1, .int x2, .null, .null, .null, .null, .null, .null, .null] [.int s22, .ref 0] 1134 SM μ23 (j s22 μ23)) ?_ (fun j57 hj57 => ?_)
          · intro s22 μ23
            refine z_iconst (pc := 110) (1 : Int32) dX9_stranger_110 (by decide) ?_
            refine z_callV (As := [.int s22, .int (1 : Int32)]) (pc := 111) (ret' := some .boolean) kvX9_188 (t9_bad _ _ _) (by decide) (by decide) sm_0  rfl rfl (Nat.le_of_ble_eq_true rfl) dX9_stranger_111 (fun v24 μ25 => ?_)
            refine z_if_eq (pc := 114) (tgt := 119) dX9_stranger_114 (by decide) (fun c26 => ?_) (fun c27 => ?_)
            · refine z_aload_n (pc := 119) dX9_stranger_119 rfl ?_
              refine z_aload_n (pc := 120) dX9_stranger_120 rfl ?_
              refine z_getr (pc := 121) fdX9_23 (by decide) sm_0 rfl rfl dX9_stranger_121 ?_
              refine z_iconst (pc := 124) (1 : Int32) dX9_stranger_124 (by decide) ?_
              refine z_iald (pc := 125) (by decide) sm_4 rfl dX9_stranger_125 (fun h28 => ?_)
              refine z_iload_n (pc := 126) dX9_stranger_126 rfl ?_
              refine z_callV (As := [.int (μ25 4 (1 : Int32).toNatClampNeg), .int x1]) (pc := 127) (ret' := none) kvX9_281 (t9_findToday _ _ _) (by decide) (by decide) sm_0  rfl rfl (Nat.le_of_ble_eq_true rfl) dX9_stranger_127 (fun v29 μ30 => ?_)
              refine z_aload_n (pc := 130) dX9_stranger_130 rfl ?_
              refine z_geti (pc := 131) fdX9_263 (by decide) sm_0 rfl dX9_stranger_131 ?_
              refine z_val (fun v31 => ?_)
              refine z_istore (pc := 134) (L' := [.ref 0, .int x1, .int x2, .null, .null, .null, .int v31, .null, .null, .null]) dX9_stranger_134 (by decide) rfl ?_
              refine z_aload_n (pc := 136) dX9_stranger_136 rfl ?_
              refine z_getr (pc := 137) fdX9_23 (by decide) sm_0 rfl rfl dX9_stranger_137 ?_
              refine z_iconst (pc := 140) (1 : Int32) dX9_stranger_140 (by decide) ?_
              refine z_iald (pc := 141) (by decide) sm_4 rfl dX9_stranger_141 (fun h32 => ?_)
              refine z_val (fun v33 => ?_)
              refine z_istore (pc := 142) (L' := [.ref 0, .int x1, .int x2, .null, .null, .null, .int v31, .int v33, .null, .null]) dX9_stranger_142 (by decide) rfl ?_
              refine z_iload_n (pc := 144) dX9_stranger_144 rfl ?_
              refine z_istore (pc := 145) (L' := [.ref 0, .int x1, .int x2, .null, .null, .int x2, .int v31, .int v33, .null, .null]) dX9_stranger_145 (by decide) rfl ?_
              refine z_iconst (pc := 147) (0 : Int32) dX9_stranger_147 (by decide) ?_
              refine z_istore (pc := 148) (L' := [.ref 0, .int x1, .int x2, .null, .null, .int x2, .int v31, .int v33, .int (0 : Int32), .null]) dX9_stranger_148 (by decide) rfl ?_
              refine z_loc (L' := [.ref 0, .int x1, .null, .null, .null, .int x2, .int v31, .int v33, .int (0 : Int32), .null]) ⟨Or.inr rfl, ⟨Or.inr rfl, ⟨Or.inl rfl, ⟨Or.inl rfl, ⟨Or.inl rfl, ⟨Or.inr rfl, ⟨Or.inr rfl, ⟨Or.inr rfl, ⟨Or.inr rfl, ⟨Or.inl rfl, trivial⟩⟩⟩⟩⟩⟩⟩⟩⟩⟩ ?_
              refine t9_stranger_L150 _ _ _ _ (fun μ41 => ?_) zF _ _ _
              · refine z_aload_n (pc := 189) dX9_stranger_189 rfl ?_
                refine z_getr (pc := 190) fdX9_58 (by decide) sm_0 rfl rfl dX9_stranger_190 ?_
                refine z_iload (pc := 193) dX9_stranger_193 rfl ?_
                refine z_iald (pc := 195) (by decide) sm_91 rfl dX9_stranger_195 (fun h42 => ?_)
                refine z_val (fun v43 => ?_)
                refine z_istore (pc := 196) (L' := [.ref 0, .int x1, .null, .null, .null, .null, .int v31, .int v33, .int v43, .null]) dX9_stranger_196 (by decide) rfl ?_
                refine z_aload_n (pc := 198) dX9_stranger_198 rfl ?_
                refine z_getr (pc := 199) fdX9_49 (by decide) sm_0 rfl rfl dX9_stranger_199 ?_
                refine z_iload (pc := 202) dX9_stranger_202 rfl ?_
                refine z_iald (pc := 204) (by decide) sm_49 rfl dX9_stranger_204 (fun h44 => ?_)
                refine z_val (fun v45 => ?_)
                refine z_istore (pc := 205) (L' := [.ref 0, .int x1, .null, .null, .null, .null, .int v31, .int v33, .int v43, .int v45]) dX9_stranger_205 (by decide) rfl ?_
                refine z_aload_n (pc := 207) dX9_stranger_207 rfl ?_
                refine z_getr (pc := 208) fdX9_58 (by decide) sm_0 rfl rfl dX9_stranger_208 ?_
                refine z_iload (pc := 211) dX9_stranger_211 rfl ?_
                refine z_aload_n (pc := 213) dX9_stranger_213 rfl ?_
                refine z_getr (pc := 214) fdX9_23 (by decide) sm_0 rfl rfl dX9_stranger_214 ?_
                refine z_iconst (pc := 217) (4 : Int32) dX9_stranger_217 (by decide) ?_
                refine z_iald (pc := 218) (by decide) sm_4 rfl dX9_stranger_218 (fun h46 => ?_)
                refine z_iast (pc := 219) (by decide) sm_91 rfl dX9_stranger_219 (fun h47 => ?_)
                refine z_mem (fun μ48 => ?_)
                refine z_aload_n (pc := 220) dX9_stranger_220 rfl ?_
                refine z_getr (pc := 221) fdX9_49 (by decide) sm_0 rfl rfl dX9_stranger_221 ?_
                refine z_iload (pc := 224) dX9_stranger_224 rfl ?_
                refine z_iconst (pc := 226) (0 : Int32) dX9_stranger_226 (by decide) ?_
                refine z_iast (pc := 227) (by decide) sm_49 rfl dX9_stranger_227 (fun h49 => ?_)
                refine z_mem (fun μ50 => ?_)
                refine z_aload_n (pc := 228) dX9_stranger_228 rfl ?_
                refine z_iload (pc := 229) dX9_stranger_229 rfl ?_
                refine z_iconst (pc := 231) (1 : Int32) dX9_stranger_231 (by decide) ?_
                refine z_iadd (pc := 232) dX9_stranger_232 ?_
                refine z_iload_n (pc := 233) dX9_stranger_233 rfl ?_
                refine z_callV (As := [.int (v33 + (1 : Int32)), .int x1]) (pc := 234) (ret' := none) kvX9_281 (t9_findToday _ _ _) (by decide) (by decide) sm_0  rfl rfl (Nat.le_of_ble_eq_true rfl) dX9_stranger_234 (fun v51 μ52 => ?_)
                refine z_aload_n (pc := 237) dX9_stranger_237 rfl ?_
                refine z_getr (pc := 238) fdX9_58 (by decide) sm_0 rfl rfl dX9_stranger_238 ?_
                refine z_iload (pc := 241) dX9_stranger_241 rfl ?_
                refine z_iload (pc := 243) dX9_stranger_243 rfl ?_
                refine z_iast (pc := 245) (by decide) sm_91 rfl dX9_stranger_245 (fun h53 => ?_)
                refine z_mem (fun μ54 => ?_)
                refine z_aload_n (pc := 246) dX9_stranger_246 rfl ?_
                refine z_getr (pc := 247) fdX9_49 (by decide) sm_0 rfl rfl dX9_stranger_247 ?_
                refine z_iload (pc := 250) dX9_stranger_250 rfl ?_
                refine z_iload (pc := 252) dX9_stranger_252 rfl ?_
                refine z_iast (pc := 254) (by decide) sm_49 rfl dX9_stranger_254 (fun h55 => ?_)
                refine z_mem (fun μ56 => ?_)
                refine z_aload_n (pc := 255) dX9_stranger_255 rfl ?_
                refine z_geti (pc := 256) fdX9_263 (by decide) sm_0 rfl dX9_stranger_256 ?_
                refine z_iload (pc := 259) dX9_stranger_259 rfl ?_
                refine z_isub (pc := 261) dX9_stranger_261 ?_
                exact z_iret (pc := 262) rfl dX9_stranger_262
            · refine z_loc (L' := [.null, .null, .null, .null, .null, .null, .null, .null, .null, .null]) ⟨Or.inl rfl, ⟨Or.inl rfl, ⟨Or.inl rfl, ⟨Or.inl rfl, ⟨Or.inl rfl, ⟨Or.inl rfl, ⟨Or.inl rfl, ⟨Or.inl rfl, ⟨Or.inl rfl, ⟨Or.inl rfl, trivial⟩⟩⟩⟩⟩⟩⟩⟩⟩⟩ ?_
              exact hj19 μ25
          · refine z_let (fun (j : zMem → zRes) => ∀ (μ58 : zMem), zR yX9_stranger cX9_stranger 10 (some .int) 7 105 [.ref 0, .int x1, .int x2, .null, .null, .null, .null, .null, .null, .null] [.ref 0] 1134 SM μ58 (j μ58)) ?_ (fun j59 hj59 => ?_)
            · intro μ58
              refine z_iconst (pc := 105) (1 : Int32) dX9_stranger_105 (by decide) ?_
              refine z_goto (pc := 106) (tgt := 110) dX9_stranger_106 (by decide) ?_
              exact hj57 (1 : Int32) μ58
            · refine z_if_eq (pc := 88) (tgt := 105) dX9_stranger_88 (by decide) (fun c60 => ?_) (fun c61 => ?_)
              · refine z_loc (L' := [.ref 0, .int x1, .int x2, .null, .null, .null, .null, .null, .null, .null]) ⟨Or.inr rfl, ⟨Or.inr rfl, ⟨Or.inr rfl, ⟨Or.inl rfl, ⟨Or.inl rfl, ⟨Or.inl rfl, ⟨Or.inl rfl, ⟨Or.inl rfl, ⟨Or.inl rfl, ⟨Or.inl rfl, trivial⟩⟩⟩⟩⟩⟩⟩⟩⟩⟩ ?_
                exact hj59 μ17
              · refine z_iload (pc := 91) dX9_stranger_91 rfl ?_
                refine z_if_gt (pc := 93) (tgt := 105) dX9_stranger_93 (by decide) (fun c62 => ?_) (fun c63 => ?_)
                · refine z_loc (L' := [.ref 0, .int x1, .int x2, .null, .null, .null, .null, .null, .null, .null]) ⟨Or.inr rfl, ⟨Or.inr rfl, ⟨Or.inr rfl, ⟨Or.inl rfl, ⟨Or.inl rfl, ⟨Or.inl rfl, ⟨Or.inl rfl, ⟨Or.inl rfl, ⟨Or.inl rfl, ⟨Or.inl rfl, trivial⟩⟩⟩⟩⟩⟩⟩⟩⟩⟩ ?_
                  exact hj59 μ17
                · refine z_iload_n (pc := 96) dX9_stranger_96 rfl ?_
                  refine z_iconst (pc := 97) (0 : Int32) dX9_stranger_97 (by decide) ?_
                  refine z_iconst (pc := 98) (4 : Int32) dX9_stranger_98 (by decide) ?_
                  refine z_callS (As := [.int x3, .int (0 : Int32), .int (4 : Int32)]) (pc := 99) (ret' := some .boolean) ksX9_140 (t9_in _ _ _ _) (by decide)  rfl rfl (Nat.le_of_ble_eq_true rfl) dX9_stranger_99 (fun v64 μ65 => ?_)
                  refine z_if_ne (pc := 102) (tgt := 109) dX9_stranger_102 (by decide) (fun c66 => ?_) (fun c67 => ?_)
                  · refine z_iconst (pc := 109) (0 : Int32) dX9_stranger_109 (by decide) ?_
                    refine z_loc (L' := [.ref 0, .int x1, .int x2, .null, .null, .null, .null, .null, .null, .null]) ⟨Or.inr rfl, ⟨Or.inr rfl, ⟨Or.inr rfl, ⟨Or.inl rfl, ⟨Or.inl rfl, ⟨Or.inl rfl, ⟨Or.inl rfl, ⟨Or.inl rfl, ⟨Or.inl rfl, ⟨Or.inl rfl, trivial⟩⟩⟩⟩⟩⟩⟩⟩⟩⟩ ?_
                    exact hj57 (0 : Int32) μ65
                  · refine z_loc (L' := [.ref 0, .int x1, .int x2, .null, .null, .null, .null, .null, .null, .null]) ⟨Or.inr rfl, ⟨Or.inr rfl, ⟨Or.inr rfl, ⟨Or.inl rfl, ⟨Or.inl rfl, ⟨Or.inl rfl, ⟨Or.inl rfl, ⟨Or.inl rfl, ⟨Or.inl rfl, ⟨Or.inl rfl, trivial⟩⟩⟩⟩⟩⟩⟩⟩⟩⟩ ?_
                    exact hj59 μ65
  · refine z_let (fun (j : zRes) => zR yX9_stranger cX9_stranger 10 (some .int) 7 22 [.ref 0, .int x1, .int x2, .int x3, .null, .null, .null, .null, .null, .null] [] 1134 SM μ1 (j)) ?_ (fun j69 hj69 => ?_)
    · refine z_iconst (pc := 22) (0 : Int32) dX9_stranger_22 (by decide) ?_
      exact hj68 (0 : Int32)
    · refine z_if_lt (pc := 6) (tgt := 22) dX9_stranger_6 (by decide) (fun c70 => ?_) (fun c71 => ?_)
      · exact hj69
      · refine z_aload_n (pc := 9) dX9_stranger_9 rfl ?_
        refine z_getr (pc := 10) fdX9_23 (by decide) sm_0 rfl rfl dX9_stranger_10 ?_
        refine z_iconst (pc := 13) (0 : Int32) dX9_stranger_13 (by decide) ?_
        refine z_iald (pc := 14) (by decide) sm_4 rfl dX9_stranger_14 (fun h72 => ?_)
        refine z_if_le (pc := 15) (tgt := 22) dX9_stranger_15 (by decide) (fun c73 => ?_) (fun c74 => ?_)
        · exact hj69
        · refine z_iconst (pc := 18) (1 : Int32) dX9_stranger_18 (by decide) ?_
          refine z_goto (pc := 19) (tgt := 23) dX9_stranger_19 (by decide) ?_
          exact hj68 (1 : Int32)
def f9_night_L94 (x1 : Int32) (x4 : Int32) (K209 : Int32 → Int32 → zMem → zRes) : Nat → Int32 → Int32 → Int32 → zMem → zRes
  | 0, _, _, _, _ => none
  | n + 1, x2, x3, x5, μ => zin (1 : Int32) 6 (if (μ 4 (1 : Int32).toNatClampNeg) ≤ x5 then K209 x2 x3 μ else zlet (fun (x2_26 : Int32) (x3_27 : Int32) (μ28 : zMem) => f9_night_L94 x1 x4 K209 n x2_26 x3_27 (x5 + (1 : Int32)) μ28) (fun j29 => if x4 = x5 then j29 x2 x3 μ else zin x4 9 (zin x1 4 (zin x5 9 (zin x1 4 (if (μ (51 + x4.toNatClampNeg) x1.toNatClampNeg) = (μ (51 + x5.toNatClampNeg) x1.toNatClampNeg) then j29 x2 x3 μ else zin x4 9 (zin x1 4 (zlet (μ (51 + x4.toNatClampNeg) x1.toNatClampNeg) (fun (v40 : Int32) => bnd0 (f9_talks x4 x5 x1 μ) (fun (v41 : Int32) (μ42 : zMem) => zin (1 : Int32) 6 (bnd0 (f9_findToday (μ42 4 (1 : Int32).toNatClampNeg) (-1 : Int32) μ42) (fun (v44 : Int32) (μ45 : zMem) => zin x4 9 (zin x1 4 (zlet (zset μ45 (51 + x4.toNatClampNeg) x1.toNatClampNeg v40) (fun (μ48 : zMem) => if x3 < (μ48 0 34) then zlet (((10 : Int32) * x4) + x5) (fun (v51 : Int32) => zlet (μ48 0 34) (fun (v52 : Int32) => j29 v51 v52 μ48)) else j29 x2 x3 μ48)))))))))))))))
def f9_night_L80 (x1 : Int32) (K215 : Int32 → zMem → zRes) : Nat → Int32 → Int32 → Int32 → zMem → zRes
  | 0, _, _, _, _ => none
  | n + 1, x2, x3, x4, μ => zin (1 : Int32) 6 (if (μ 4 (1 : Int32).toNatClampNeg) ≤ x4 then K215 x2 μ else f9_night_L94 x1 x4 (fun (x2_53 : Int32) (x3_54 : Int32) (μ55 : zMem) => f9_night_L80 x1 K215 n x2_53 x3_54 (x4 + (1 : Int32)) μ55) zF x2 x3 (0 : Int32) μ)
def f9_night (x1 : Int32) (μ : zMem) : zRes := zlet (zset μ 0 0 (0 : Int32)) (fun (μ1 : zMem) => bnd0 (f9_isAsked x1 μ1) (fun (v2 : Int32) (μ3 : zMem) => zlet (fun (s4 : Int32) => bnd0 (f9_bad s4 (1 : Int32) μ3) (fun (v5 : Int32) (μ6 : zMem) => if v5 = 0 then if (μ6 0 20) = (29 : Int32) then some (0, (-1 : Int32), μ6) else bnd0 (f9_lays (0 : Int32) (0 : Int32) μ6) (fun (v11 : Int32) (μ12 : zMem) => zlet (zset μ12 0 20 ((μ12 0 20) + (1 : Int32))) (fun (μ13 : zMem) => bnd0 (f9_dawns μ13) (fun (v14 : Int32) (μ15 : zMem) => zin (1 : Int32) 6 (bnd0 (f9_findToday (μ15 4 (1 : Int32).toNatClampNeg) (-1 : Int32) μ15) (fun (v17 : Int32) (μ18 : zMem) => zlet (μ18 0 34) (fun (v19 : Int32) => f9_night_L80 x1 (fun (x2_56 : Int32) (μ57 : zMem) => bnd0 (f9_lays (0 : Int32) (1 : Int32) μ57) (fun (v58 : Int32) (μ59 : zMem) => some (0, x2_56, μ59))) zF (-1 : Int32) v19 (0 : Int32) μ18)))))) else some (0, (0 : Int32), μ6))) (fun j60 => if v2 = 0 then j60 (1 : Int32) else j60 (0 : Int32))))
set_option maxHeartbeats 1000000 in
theorem t9_night_L94 (x1 : Int32) (x4 : Int32) (K209 : Int32 → Int32 → zMem → zRes) (hK209 : ∀ (x2 : Int32) (x3 : Int32) (μ : zMem), zR yX9_night cX9_night 7 (some .int) 7 209 [.ref 0, .int x1, .int x2, .int x3, .int x4, .null, .null] [] 1134 SM μ (K209 x2 x3 μ)) : ∀ (n : Nat) (x2 : Int32) (x3 : Int32) (x5 : Int32) (μ : zMem), zR yX9_night cX9_night 7 (some .int) 7 94 [.ref 0, .int x1, .int x2, .int x3, .int x4, .int x5, .null] [] 1134 SM μ (f9_night_L94 x1 x4 K209 n x2 x3 x5 μ) := by
  intro n
  induction n with
  | zero => intro x2 x3 x5 μ; intro q hq; cases hq
  | succ n ih =>
    intro x2 x3 x5 μ
    unfold f9_night_L94
    refine z_iload (pc := 94) dX9_night_94 rfl ?_
    refine z_aload_n (pc := 96) dX9_night_96 rfl ?_
    refine z_getr (pc := 97) fdX9_23 (by decide) sm_0 rfl rfl dX9_night_97 ?_
    refine z_iconst (pc := 100) (1 : Int32) dX9_night_100 (by decide) ?_
    refine z_iald (pc := 101) (by decide) sm_4 rfl dX9_night_101 (fun h23 => ?_)
    refine z_icmp_ge (pc := 102) (tgt := 209) dX9_night_102 (by decide) (fun c24 => ?_) (fun c25 => ?_)
    · refine z_loc (L' := [.ref 0, .int x1, .int x2, .int x3, .int x4, .null, .null]) ⟨Or.inr rfl, ⟨Or.inr rfl, ⟨Or.inr rfl, ⟨Or.inr rfl, ⟨Or.inr rfl, ⟨Or.inl rfl, ⟨Or.inl rfl, trivial⟩⟩⟩⟩⟩⟩⟩ ?_
      exact hK209 x2 x3 μ
    · refine z_iload (pc := 105) dX9_night_105 rfl ?_
      refine z_iload (pc := 107) dX9_night_107 rfl ?_
      refine z_let (fun (j : Int32 → Int32 → zMem → zRes) => ∀ (x2_26 : Int32) (x3_27 : Int32) (μ28 : zMem), zR yX9_night cX9_night 7 (some .int) 7 203 [.ref 0, .int x1, .int x2_26, .int x3_27, .int x4, .int x5, .null] [] 1134 SM μ28 (j x2_26 x3_27 μ28)) ?_ (fun j29 hj29 => ?_)
      · intro x2_26 x3_27 μ28
        refine z_iinc (pc := 203) (v := x5 + (1 : Int32)) (L' := [.ref 0, .int x1, .int x2_26, .int x3_27, .int x4, .int (x5 + (1 : Int32)), .null]) dX9_night_203 (by decide) rfl (congrArg _ (by decide)) rfl ?_
        refine z_goto (pc := 206) (tgt := 94) dX9_night_206 (by decide) ?_
        exact ih x2_26 x3_27 (x5 + (1 : Int32)) μ28
      · refine z_icmp_eq (pc := 109) (tgt := 203) dX9_night_109 (by decide) (fun c30 => ?_) (fun c31 => ?_)
        · exact hj29 x2 x3 μ
        · refine z_aload_n (pc := 112) dX9_night_112 rfl ?_
          refine z_getr (pc := 113) fdX9_52 (by decide) sm_0 rfl rfl dX9_night_113 ?_
          refine z_iload (pc := 116) dX9_night_116 rfl ?_
          refine z_aald (pc := 118) (fun j => 51 + j) (by decide) sm_50 (Or.inl rfl) smg_50 dX9_night_118 (fun h32 => ?_)
          refine z_iload_n (pc := 119) dX9_night_119 rfl ?_
          refine z_iald (pc := 120) (smr_50 h32).2 (smr_50 h32).1 rfl dX9_night_120 (fun h33 => ?_)
          refine z_aload_n (pc := 121) dX9_night_121 rfl ?_
          refine z_getr (pc := 122) fdX9_52 (by decide) sm_0 rfl rfl dX9_night_122 ?_
          refine z_iload (pc := 125) dX9_night_125 rfl ?_
          refine z_aald (pc := 127) (fun j => 51 + j) (by decide) sm_50 (Or.inl rfl) smg_50 dX9_night_127 (fun h34 => ?_)
          refine z_iload_n (pc := 128) dX9_night_128 rfl ?_
          refine z_iald (pc := 129) (smr_50 h34).2 (smr_50 h34).1 rfl dX9_night_129 (fun h35 => ?_)
          refine z_icmp_ne (pc := 130) (tgt := 136) dX9_night_130 (by decide) (fun c36 => ?_) (fun c37 => ?_)
          · refine z_aload_n (pc := 136) dX9_night_136 rfl ?_
            refine z_getr (pc := 137) fdX9_52 (by decide) sm_0 rfl rfl dX9_night_137 ?_
            refine z_iload (pc := 140) dX9_night_140 rfl ?_
            refine z_aald (pc := 142) (fun j => 51 + j) (by decide) sm_50 (Or.inl rfl) smg_50 dX9_night_142 (fun h38 => ?_)
            refine z_iload_n (pc := 143) dX9_night_143 rfl ?_
            refine z_iald (pc := 144) (smr_50 h38).2 (smr_50 h38).1 rfl dX9_night_144 (fun h39 => ?_)
            refine z_val (fun v40 => ?_)
            refine z_istore (pc := 145) (L' := [.ref 0, .int x1, .int x2, .int x3, .int x4, .int x5, .int v40]) dX9_night_145 (by decide) rfl ?_
            refine z_aload_n (pc := 147) dX9_night_147 rfl ?_
            refine z_iload (pc := 148) dX9_night_148 rfl ?_
            refine z_iload (pc := 150) dX9_night_150 rfl ?_
            refine z_iload_n (pc := 152) dX9_night_152 rfl ?_
            refine z_callV (As := [.int x4, .int x5, .int x1]) (pc := 153) (ret' := none) kvX9_245 (t9_talks _ _ _ _) (by decide) (by decide) sm_0  rfl rfl (Nat.le_of_ble_eq_true rfl) dX9_night_153 (fun v41 μ42 => ?_)
            refine z_aload_n (pc := 156) dX9_night_156 rfl ?_
            refine z_aload_n (pc := 157) dX9_night_157 rfl ?_
            refine z_getr (pc := 158) fdX9_23 (by decide) sm_0 rfl rfl dX9_night_158 ?_
            refine z_iconst (pc := 161) (1 : Int32) dX9_night_161 (by decide) ?_
            refine z_iald (pc := 162) (by decide) sm_4 rfl dX9_night_162 (fun h43 => ?_)
            refine z_iconst (pc := 163) (-1 : Int32) dX9_night_163 (by decide) ?_
            refine z_callV (As := [.int (μ42 4 (1 : Int32).toNatClampNeg), .int (-1 : Int32)]) (pc := 164) (ret' := none) kvX9_281 (t9_findToday _ _ _) (by decide) (by decide) sm_0  rfl rfl (Nat.le_of_ble_eq_true rfl) dX9_night_164 (fun v44 μ45 => ?_)
            refine z_aload_n (pc := 167) dX9_night_167 rfl ?_
            refine z_getr (pc := 168) fdX9_52 (by decide) sm_0 rfl rfl dX9_night_168 ?_
            refine z_iload (pc := 171) dX9_night_171 rfl ?_
            refine z_aald (pc := 173) (fun j => 51 + j) (by decide) sm_50 (Or.inl rfl) smg_50 dX9_night_173 (fun h46 => ?_)
            refine z_iload_n (pc := 174) dX9_night_174 rfl ?_
            refine z_iload (pc := 175) dX9_night_175 rfl ?_
            refine z_iast (pc := 177) (smr_50 h46).2 (smr_50 h46).1 rfl dX9_night_177 (fun h47 => ?_)
            refine z_mem (fun μ48 => ?_)
            refine z_aload_n (pc := 178) dX9_night_178 rfl ?_
            refine z_geti (pc := 179) fdX9_263 (by decide) sm_0 rfl dX9_night_179 ?_
            refine z_iload_n (pc := 182) dX9_night_182 rfl ?_
            refine z_icmp_gt (pc := 183) (tgt := 189) dX9_night_183 (by decide) (fun c49 => ?_) (fun c50 => ?_)
            · refine z_bipush (pc := 189) (10 : Int32) dX9_night_189 (by decide) ?_
              refine z_iload (pc := 191) dX9_night_191 rfl ?_
              refine z_imul (pc := 193) dX9_night_193 ?_
              refine z_iload (pc := 194) dX9_night_194 rfl ?_
              refine z_iadd (pc := 196) dX9_night_196 ?_
              refine z_val (fun v51 => ?_)
              refine z_istore_n (pc := 197) (L' := [.ref 0, .int x1, .int v51, .int x3, .int x4, .int x5, .int v40]) dX9_night_197 (by decide) rfl ?_
              refine z_aload_n (pc := 198) dX9_night_198 rfl ?_
              refine z_geti (pc := 199) fdX9_263 (by decide) sm_0 rfl dX9_night_199 ?_
              refine z_val (fun v52 => ?_)
              refine z_istore_n (pc := 202) (L' := [.ref 0, .int x1, .int v51, .int v52, .int x4, .int x5, .int v40]) dX9_night_202 (by decide) rfl ?_
              refine z_loc (L' := [.ref 0, .int x1, .int v51, .int v52, .int x4, .int x5, .null]) ⟨Or.inr rfl, ⟨Or.inr rfl, ⟨Or.inr rfl, ⟨Or.inr rfl, ⟨Or.inr rfl, ⟨Or.inr rfl, ⟨Or.inl rfl, trivial⟩⟩⟩⟩⟩⟩⟩ ?_
              exact hj29 v51 v52 μ48
            · refine z_goto (pc := 186) (tgt := 203) dX9_night_186 (by decide) ?_
              refine z_loc (L' := [.ref 0, .int x1, .int x2, .int x3, .int x4, .int x5, .null]) ⟨Or.inr rfl, ⟨Or.inr rfl, ⟨Or.inr rfl, ⟨Or.inr rfl, ⟨Or.inr rfl, ⟨Or.inr rfl, ⟨Or.inl rfl, trivial⟩⟩⟩⟩⟩⟩⟩ ?_
              exact hj29 x2 x3 μ48
          · refine z_goto (pc := 133) (tgt := 203) dX9_night_133 (by decide) ?_
            exact hj29 x2 x3 μ
set_option maxHeartbeats 1000000 in
theorem t9_night_L80 (x1 : Int32) (K215 : Int32 → zMem → zRes) (hK215 : ∀ (x2 : Int32) (μ : zMem), zR yX9_night cX9_night 7 (some .int) 7 215 [.ref 0, .null, .int x2, .null, .null, .null, .null] [] 1134 SM μ (K215 x2 μ)) : ∀ (n : Nat) (x2 : Int32) (x3 : Int32) (x4 : Int32) (μ : zMem), zR yX9_night cX9_night 7 (some .int) 7 80 [.ref 0, .int x1, .int x2, .int x3, .int x4, .null, .null] [] 1134 SM μ (f9_night_L80 x1 K215 n x2 x3 x4 μ) := by
  intro n
  induction n with
  | zero => intro x2 x3 x4 μ; intro q hq; cases hq
  | succ n ih =>
    intro x2 x3 x4 μ
    unfold f9_night_L80
    refine z_iload (pc := 80) dX9_night_80 rfl ?_
    refine z_aload_n (pc := 82) dX9_night_82 rfl ?_
    refine z_getr (pc := 83) fdX9_23 (by decide) sm_0 rfl rfl dX9_night_83 ?_
    refine z_iconst (pc := 86) (1 : Int32) dX9_night_86 (by decide) ?_
    refine z_iald (pc := 87) (by decide) sm_4 rfl dX9_night_87 (fun h20 => ?_)
    refine z_icmp_ge (pc := 88) (tgt := 215) dX9_night_88 (by decide) (fun c21 => ?_) (fun c22 => ?_)
    · refine z_loc (L' := [.ref 0, .null, .int x2, .null, .null, .null, .null]) ⟨Or.inr rfl, ⟨Or.inl rfl, ⟨Or.inr rfl, ⟨Or.inl rfl, ⟨Or.inl rfl, ⟨Or.inl rfl, ⟨Or.inl rfl, trivial⟩⟩⟩⟩⟩⟩⟩ ?_
      exact hK215 x2 μ
    · refine z_iconst (pc := 91) (0 : Int32) dX9_night_91 (by decide) ?_
      refine z_istore (pc := 92) (L' := [.ref 0, .int x1, .int x2, .int x3, .int x4, .int (0 : Int32), .null]) dX9_night_92 (by decide) rfl ?_
      refine t9_night_L94 _ _ _ (fun x2_53 x3_54 μ55 => ?_) zF _ _ _ _
      · refine z_iinc (pc := 209) (v := x4 + (1 : Int32)) (L' := [.ref 0, .int x1, .int x2_53, .int x3_54, .int (x4 + (1 : Int32)), .null, .null]) dX9_night_209 (by decide) rfl (congrArg _ (by decide)) rfl ?_
        refine z_goto (pc := 212) (tgt := 80) dX9_night_212 (by decide) ?_
        exact ih x2_53 x3_54 (x4 + (1 : Int32)) μ55
set_option maxHeartbeats 1000000 in
theorem t9_night (x1 : Int32) (μ : zMem) : zMR yX9_night cX9_night 7 (some .int) 7 [.ref 0, .int x1] 1134 SM μ (f9_night x1 μ) := by
  refine zMR_of (by decide +kernel) rfl (Nat.le_of_ble_eq_true rfl) (L := [.ref 0, .int x1, .null, .null, .null, .null, .null]) rfl ?_
  unfold f9_night
  refine z_aload_n (pc := 0) dX9_night_0 rfl ?_
  refine z_iconst (pc := 1) (0 : Int32) dX9_night_1 (by decide) ?_
  refine z_puti (pc := 2) fdX9_106 (by decide) sm_0 rfl rfl dX9_night_2 ?_
  refine z_mem (fun μ1 => ?_)
  refine z_aload_n (pc := 5) dX9_night_5 rfl ?_
  refine z_aload_n (pc := 6) dX9_night_6 rfl ?_
  refine z_iload_n (pc := 7) dX9_night_7 rfl ?_
  refine z_callV (As := [.int x1]) (pc := 8) (ret' := some .boolean) kvX9_217 (t9_isAsked _ _) (by decide) (by decide) sm_0  rfl rfl (Nat.le_of_ble_eq_true rfl) dX9_night_8 (fun v2 μ3 => ?_)
  refine z_let (fun (j : Int32 → zRes) => ∀ (s4 : Int32), zR yX9_night cX9_night 7 (some .int) 7 19 [.ref 0, .int x1, .null, .null, .null, .null, .null] [.int s4, .ref 0] 1134 SM μ3 (j s4)) ?_ (fun j60 hj60 => ?_)
  · intro s4
    refine z_iconst (pc := 19) (1 : Int32) dX9_night_19 (by decide) ?_
    refine z_callV (As := [.int s4, .int (1 : Int32)]) (pc := 20) (ret' := some .boolean) kvX9_188 (t9_bad _ _ _) (by decide) (by decide) sm_0  rfl rfl (Nat.le_of_ble_eq_true rfl) dX9_night_20 (fun v5 μ6 => ?_)
    refine z_if_eq (pc := 23) (tgt := 28) dX9_night_23 (by decide) (fun c7 => ?_) (fun c8 => ?_)
    · refine z_aload_n (pc := 28) dX9_night_28 rfl ?_
      refine z_geti (pc := 29) fdX9_198 (by decide) sm_0 rfl dX9_night_29 ?_
      refine z_bipush (pc := 32) (29 : Int32) dX9_night_32 (by decide) ?_
      refine z_icmp_ne (pc := 34) (tgt := 39) dX9_night_34 (by decide) (fun c9 => ?_) (fun c10 => ?_)
      · refine z_aload_n (pc := 39) dX9_night_39 rfl ?_
        refine z_iconst (pc := 40) (0 : Int32) dX9_night_40 (by decide) ?_
        refine z_iconst (pc := 41) (0 : Int32) dX9_night_41 (by decide) ?_
        refine z_callV (As := [.int (0 : Int32), .int (0 : Int32)]) (pc := 42) (ret' := none) kvX9_248 (t9_lays _ _ _) (by decide) (by decide) sm_0  rfl rfl (Nat.le_of_ble_eq_true rfl) dX9_night_42 (fun v11 μ12 => ?_)
        refine z_aload_n (pc := 45) dX9_night_45 rfl ?_
        refine z_dup (pc := 46) dX9_night_46 rfl ?_
        refine z_geti (pc := 47) fdX9_198 (by decide) sm_0 rfl dX9_night_47 ?_
        refine z_iconst (pc := 50) (1 : Int32) dX9_night_50 (by decide) ?_
        refine z_iadd (pc := 51) dX9_night_51 ?_
        refine z_puti (pc := 52) fdX9_198 (by decide) sm_0 rfl rfl dX9_night_52 ?_
        refine z_mem (fun μ13 => ?_)
        refine z_aload_n (pc := 55) dX9_night_55 rfl ?_
        refine z_callV (As := []) (pc := 56) (ret' := none) kvX9_207 (t9_dawns _) (by decide) (by decide) sm_0  rfl rfl (Nat.le_of_ble_eq_true rfl) dX9_night_56 (fun v14 μ15 => ?_)
        refine z_aload_n (pc := 59) dX9_night_59 rfl ?_
        refine z_aload_n (pc := 60) dX9_night_60 rfl ?_
        refine z_getr (pc := 61) fdX9_23 (by decide) sm_0 rfl rfl dX9_night_61 ?_
        refine z_iconst (pc := 64) (1 : Int32) dX9_night_64 (by decide) ?_
        refine z_iald (pc := 65) (by decide) sm_4 rfl dX9_night_65 (fun h16 => ?_)
        refine z_iconst (pc := 66) (-1 : Int32) dX9_night_66 (by decide) ?_
        refine z_callV (As := [.int (μ15 4 (1 : Int32).toNatClampNeg), .int (-1 : Int32)]) (pc := 67) (ret' := none) kvX9_281 (t9_findToday _ _ _) (by decide) (by decide) sm_0  rfl rfl (Nat.le_of_ble_eq_true rfl) dX9_night_67 (fun v17 μ18 => ?_)
        refine z_iconst (pc := 70) (-1 : Int32) dX9_night_70 (by decide) ?_
        refine z_istore_n (pc := 71) (L' := [.ref 0, .int x1, .int (-1 : Int32), .null, .null, .null, .null]) dX9_night_71 (by decide) rfl ?_
        refine z_aload_n (pc := 72) dX9_night_72 rfl ?_
        refine z_geti (pc := 73) fdX9_263 (by decide) sm_0 rfl dX9_night_73 ?_
        refine z_val (fun v19 => ?_)
        refine z_istore_n (pc := 76) (L' := [.ref 0, .int x1, .int (-1 : Int32), .int v19, .null, .null, .null]) dX9_night_76 (by decide) rfl ?_
        refine z_iconst (pc := 77) (0 : Int32) dX9_night_77 (by decide) ?_
        refine z_istore (pc := 78) (L' := [.ref 0, .int x1, .int (-1 : Int32), .int v19, .int (0 : Int32), .null, .null]) dX9_night_78 (by decide) rfl ?_
        refine t9_night_L80 _ _ (fun x2_56 μ57 => ?_) zF _ _ _ _
        · refine z_aload_n (pc := 215) dX9_night_215 rfl ?_
          refine z_iconst (pc := 216) (0 : Int32) dX9_night_216 (by decide) ?_
          refine z_iconst (pc := 217) (1 : Int32) dX9_night_217 (by decide) ?_
          refine z_callV (As := [.int (0 : Int32), .int (1 : Int32)]) (pc := 218) (ret' := none) kvX9_248 (t9_lays _ _ _) (by decide) (by decide) sm_0  rfl rfl (Nat.le_of_ble_eq_true rfl) dX9_night_218 (fun v58 μ59 => ?_)
          refine z_iload_n (pc := 221) dX9_night_221 rfl ?_
          exact z_iret (pc := 222) rfl dX9_night_222
      · refine z_iconst (pc := 37) (-1 : Int32) dX9_night_37 (by decide) ?_
        exact z_iret (pc := 38) rfl dX9_night_38
    · refine z_iconst (pc := 26) (0 : Int32) dX9_night_26 (by decide) ?_
      exact z_iret (pc := 27) rfl dX9_night_27
  · refine z_if_ne (pc := 11) (tgt := 18) dX9_night_11 (by decide) (fun c61 => ?_) (fun c62 => ?_)
    · refine z_iconst (pc := 18) (0 : Int32) dX9_night_18 (by decide) ?_
      exact hj60 (0 : Int32)
    · refine z_iconst (pc := 14) (1 : Int32) dX9_night_14 (by decide) ?_
      refine z_goto (pc := 15) (tgt := 19) dX9_night_15 (by decide) ?_
      exact hj60 (1 : Int32)
def f9_coded (x0 : Int32) (x1 : Int32) (x2 : Int32) (μ : zMem) : zRes := some (0, (((100 : Int32) * x0) + ((10 : Int32) * x1)) + x2, μ)
set_option maxHeartbeats 1000000 in
theorem t9_coded (x0 : Int32) (x1 : Int32) (x2 : Int32) (μ : zMem) : zMR yX9_coded cX9_coded 3 (some .int) 1 [.int x0, .int x1, .int x2] 1134 SM μ (f9_coded x0 x1 x2 μ) := by
  refine zMR_of (by decide +kernel) rfl (Nat.le_of_ble_eq_true rfl) (L := [.int x0, .int x1, .int x2]) rfl ?_
  unfold f9_coded
  refine z_bipush (pc := 0) (100 : Int32) dX9_coded_0 (by decide) ?_
  refine z_iload_n (pc := 2) dX9_coded_2 rfl ?_
  refine z_imul (pc := 3) dX9_coded_3 ?_
  refine z_bipush (pc := 4) (10 : Int32) dX9_coded_4 (by decide) ?_
  refine z_iload_n (pc := 6) dX9_coded_6 rfl ?_
  refine z_imul (pc := 7) dX9_coded_7 ?_
  refine z_iadd (pc := 8) dX9_coded_8 ?_
  refine z_iload_n (pc := 9) dX9_coded_9 rfl ?_
  refine z_iadd (pc := 10) dX9_coded_10 ?_
  exact z_iret (pc := 11) rfl dX9_coded_11
def f9_bestNow_L4 (K109 : Int32 → zMem → zRes) : Nat → Int32 → Int32 → zMem → zRes
  | 0, _, _, _ => none
  | n + 1, x1, x2, μ => zin (2 : Int32) 6 (if ((64 : Int32) * (μ 4 (2 : Int32).toNatClampNeg)) ≤ x2 then K109 x1 μ else zlet (x2 / (64 : Int32)) (fun (v4 : Int32) => zlet (zrem (x2 / (8 : Int32)) (8 : Int32)) (fun (v5 : Int32) => zlet (zrem x2 (8 : Int32)) (fun (v6 : Int32) => zlet (fun (x1_7 : Int32) (μ8 : zMem) => f9_bestNow_L4 K109 n x1_7 (x2 + (1 : Int32)) μ8) (fun j9 => if v6 ≤ v5 then j9 x1 μ else zin (1 : Int32) 6 (if (μ 4 (1 : Int32).toNatClampNeg) ≤ v6 then j9 x1 μ else bnd0 (f9_canBe v4 v5 v6 μ) (fun (v15 : Int32) (μ16 : zMem) => if v15 = 0 then j9 x1 μ16 else zlet (bnd0 (f9_coded v4 v5 v6 μ16) (fun (v19 : Int32) (μ20 : zMem) => j9 v19 μ20)) (fun j21 => if x1 = (-1 : Int32) then j21 else zin v4 10 (zin (0 : Int32) 4 (zin (x1 / (100 : Int32)) 10 (zin (0 : Int32) 4 (if (μ16 (36 + v4.toNatClampNeg) (0 : Int32).toNatClampNeg) ≤ (μ16 (36 + (x1 / (100 : Int32)).toNatClampNeg) (0 : Int32).toNatClampNeg) then j9 x1 μ16 else j21))))))))))))
def f9_bestNow (μ : zMem) : zRes := f9_bestNow_L4 (fun (x1_30 : Int32) (μ31 : zMem) => some (0, x1_30, μ31)) zF (-1 : Int32) (0 : Int32) μ
set_option maxHeartbeats 1000000 in
theorem t9_bestNow_L4 (K109 : Int32 → zMem → zRes) (hK109 : ∀ (x1 : Int32) (μ : zMem), zR yX9_bestNow cX9_bestNow 6 (some .int) 5 109 [.null, .int x1, .null, .null, .null, .null] [] 1134 SM μ (K109 x1 μ)) : ∀ (n : Nat) (x1 : Int32) (x2 : Int32) (μ : zMem), zR yX9_bestNow cX9_bestNow 6 (some .int) 5 4 [.ref 0, .int x1, .int x2, .null, .null, .null] [] 1134 SM μ (f9_bestNow_L4 K109 n x1 x2 μ) := by
  intro n
  induction n with
  | zero => intro x1 x2 μ; intro q hq; cases hq
  | succ n ih =>
    intro x1 x2 μ
    unfold f9_bestNow_L4
    refine z_iload_n (pc := 4) dX9_bestNow_4 rfl ?_
    refine z_bipush (pc := 5) (64 : Int32) dX9_bestNow_5 (by decide) ?_
    refine z_aload_n (pc := 7) dX9_bestNow_7 rfl ?_
    refine z_getr (pc := 8) fdX9_23 (by decide) sm_0 rfl rfl dX9_bestNow_8 ?_
    refine z_iconst (pc := 11) (2 : Int32) dX9_bestNow_11 (by decide) ?_
    refine z_iald (pc := 12) (by decide) sm_4 rfl dX9_bestNow_12 (fun h1 => ?_)
    refine z_imul (pc := 13) dX9_bestNow_13 ?_
    refine z_icmp_ge (pc := 14) (tgt := 109) dX9_bestNow_14 (by decide) (fun c2 => ?_) (fun c3 => ?_)
    · refine z_loc (L' := [.null, .int x1, .null, .null, .null, .null]) ⟨Or.inl rfl, ⟨Or.inr rfl, ⟨Or.inl rfl, ⟨Or.inl rfl, ⟨Or.inl rfl, ⟨Or.inl rfl, trivial⟩⟩⟩⟩⟩⟩ ?_
      exact hK109 x1 μ
    · refine z_iload_n (pc := 17) dX9_bestNow_17 rfl ?_
      refine z_bipush (pc := 18) (64 : Int32) dX9_bestNow_18 (by decide) ?_
      refine z_idivc (pc := 20) dX9_bestNow_20 (by decide) ?_
      refine z_val (fun v4 => ?_)
      refine z_istore_n (pc := 21) (L' := [.ref 0, .int x1, .int x2, .int v4, .null, .null]) dX9_bestNow_21 (by decide) rfl ?_
      refine z_iload_n (pc := 22) dX9_bestNow_22 rfl ?_
      refine z_bipush (pc := 23) (8 : Int32) dX9_bestNow_23 (by decide) ?_
      refine z_idivc (pc := 25) dX9_bestNow_25 (by decide) ?_
      refine z_bipush (pc := 26) (8 : Int32) dX9_bestNow_26 (by decide) ?_
      refine z_iremc (pc := 28) dX9_bestNow_28 (by decide) ?_
      refine z_val (fun v5 => ?_)
      refine z_istore (pc := 29) (L' := [.ref 0, .int x1, .int x2, .int v4, .int v5, .null]) dX9_bestNow_29 (by decide) rfl ?_
      refine z_iload_n (pc := 31) dX9_bestNow_31 rfl ?_
      refine z_bipush (pc := 32) (8 : Int32) dX9_bestNow_32 (by decide) ?_
      refine z_iremc (pc := 34) dX9_bestNow_34 (by decide) ?_
      refine z_val (fun v6 => ?_)
      refine z_istore (pc := 35) (L' := [.ref 0, .int x1, .int x2, .int v4, .int v5, .int v6]) dX9_bestNow_35 (by decide) rfl ?_
      refine z_iload (pc := 37) dX9_bestNow_37 rfl ?_
      refine z_iload (pc := 39) dX9_bestNow_39 rfl ?_
      refine z_let (fun (j : Int32 → zMem → zRes) => ∀ (x1_7 : Int32) (μ8 : zMem), zR yX9_bestNow cX9_bestNow 6 (some .int) 5 103 [.ref 0, .int x1_7, .int x2, .null, .null, .null] [] 1134 SM μ8 (j x1_7 μ8)) ?_ (fun j9 hj9 => ?_)
      · intro x1_7 μ8
        refine z_iinc (pc := 103) (v := x2 + (1 : Int32)) (L' := [.ref 0, .int x1_7, .int (x2 + (1 : Int32)), .null, .null, .null]) dX9_bestNow_103 (by decide) rfl (congrArg _ (by decide)) rfl ?_
        refine z_goto (pc := 106) (tgt := 4) dX9_bestNow_106 (by decide) ?_
        exact ih x1_7 (x2 + (1 : Int32)) μ8
      · refine z_icmp_ge (pc := 41) (tgt := 103) dX9_bestNow_41 (by decide) (fun c10 => ?_) (fun c11 => ?_)
        · refine z_loc (L' := [.ref 0, .int x1, .int x2, .null, .null, .null]) ⟨Or.inr rfl, ⟨Or.inr rfl, ⟨Or.inr rfl, ⟨Or.inl rfl, ⟨Or.inl rfl, ⟨Or.inl rfl, trivial⟩⟩⟩⟩⟩⟩ ?_
          exact hj9 x1 μ
        · refine z_iload (pc := 44) dX9_bestNow_44 rfl ?_
          refine z_aload_n (pc := 46) dX9_bestNow_46 rfl ?_
          refine z_getr (pc := 47) fdX9_23 (by decide) sm_0 rfl rfl dX9_bestNow_47 ?_
          refine z_iconst (pc := 50) (1 : Int32) dX9_bestNow_50 (by decide) ?_
          refine z_iald (pc := 51) (by decide) sm_4 rfl dX9_bestNow_51 (fun h12 => ?_)
          refine z_icmp_ge (pc := 52) (tgt := 103) dX9_bestNow_52 (by decide) (fun c13 => ?_) (fun c14 => ?_)
          · refine z_loc (L' := [.ref 0, .int x1, .int x2, .null, .null, .null]) ⟨Or.inr rfl, ⟨Or.inr rfl, ⟨Or.inr rfl, ⟨Or.inl rfl, ⟨Or.inl rfl, ⟨Or.inl rfl, trivial⟩⟩⟩⟩⟩⟩ ?_
            exact hj9 x1 μ
          · refine z_aload_n (pc := 55) dX9_bestNow_55 rfl ?_
            refine z_iload_n (pc := 56) dX9_bestNow_56 rfl ?_
            refine z_iload (pc := 57) dX9_bestNow_57 rfl ?_
            refine z_iload (pc := 59) dX9_bestNow_59 rfl ?_
            refine z_callV (As := [.int v4, .int v5, .int v6]) (pc := 61) (ret' := some .boolean) kvX9_275 (t9_canBe _ _ _ _) (by decide) (by decide) sm_0  rfl rfl (Nat.le_of_ble_eq_true rfl) dX9_bestNow_61 (fun v15 μ16 => ?_)
            refine z_if_eq (pc := 64) (tgt := 103) dX9_bestNow_64 (by decide) (fun c17 => ?_) (fun c18 => ?_)
            · refine z_loc (L' := [.ref 0, .int x1, .int x2, .null, .null, .null]) ⟨Or.inr rfl, ⟨Or.inr rfl, ⟨Or.inr rfl, ⟨Or.inl rfl, ⟨Or.inl rfl, ⟨Or.inl rfl, trivial⟩⟩⟩⟩⟩⟩ ?_
              exact hj9 x1 μ16
            · refine z_iload_n (pc := 67) dX9_bestNow_67 rfl ?_
              refine z_iconst (pc := 68) (-1 : Int32) dX9_bestNow_68 (by decide) ?_
              refine z_let (fun (j : zRes) => zR yX9_bestNow cX9_bestNow 6 (some .int) 5 94 [.ref 0, .null, .int x2, .int v4, .int v5, .int v6] [] 1134 SM μ16 (j)) ?_ (fun j21 hj21 => ?_)
              · refine z_iload_n (pc := 94) dX9_bestNow_94 rfl ?_
                refine z_iload (pc := 95) dX9_bestNow_95 rfl ?_
                refine z_iload (pc := 97) dX9_bestNow_97 rfl ?_
                refine z_callS (As := [.int v4, .int v5, .int v6]) (pc := 99) (ret' := some .int) ksX9_296 (t9_coded _ _ _ _) (by decide)  rfl rfl (Nat.le_of_ble_eq_true rfl) dX9_bestNow_99 (fun v19 μ20 => ?_)
                refine z_istore_n (pc := 102) (L' := [.ref 0, .int v19, .int x2, .int v4, .int v5, .int v6]) dX9_bestNow_102 (by decide) rfl ?_
                refine z_loc (L' := [.ref 0, .int v19, .int x2, .null, .null, .null]) ⟨Or.inr rfl, ⟨Or.inr rfl, ⟨Or.inr rfl, ⟨Or.inl rfl, ⟨Or.inl rfl, ⟨Or.inl rfl, trivial⟩⟩⟩⟩⟩⟩ ?_
                exact hj9 v19 μ20
              · refine z_icmp_eq (pc := 69) (tgt := 94) dX9_bestNow_69 (by decide) (fun c22 => ?_) (fun c23 => ?_)
                · refine z_loc (L' := [.ref 0, .null, .int x2, .int v4, .int v5, .int v6]) ⟨Or.inr rfl, ⟨Or.inl rfl, ⟨Or.inr rfl, ⟨Or.inr rfl, ⟨Or.inr rfl, ⟨Or.inr rfl, trivial⟩⟩⟩⟩⟩⟩ ?_
                  exact hj21
                · refine z_aload_n (pc := 72) dX9_bestNow_72 rfl ?_
                  refine z_getr (pc := 73) fdX9_37 (by decide) sm_0 rfl rfl dX9_bestNow_73 ?_
                  refine z_iload_n (pc := 76) dX9_bestNow_76 rfl ?_
                  refine z_aald (pc := 77) (fun j => 36 + j) (by decide) sm_35 (Or.inl rfl) smg_35 dX9_bestNow_77 (fun h24 => ?_)
                  refine z_iconst (pc := 78) (0 : Int32) dX9_bestNow_78 (by decide) ?_
                  refine z_iald (pc := 79) (smr_35 h24).2 (smr_35 h24).1 rfl dX9_bestNow_79 (fun h25 => ?_)
                  refine z_aload_n (pc := 80) dX9_bestNow_80 rfl ?_
                  refine z_getr (pc := 81) fdX9_37 (by decide) sm_0 rfl rfl dX9_bestNow_81 ?_
                  refine z_iload_n (pc := 84) dX9_bestNow_84 rfl ?_
                  refine z_bipush (pc := 85) (100 : Int32) dX9_bestNow_85 (by decide) ?_
                  refine z_idivc (pc := 87) dX9_bestNow_87 (by decide) ?_
                  refine z_aald (pc := 88) (fun j => 36 + j) (by decide) sm_35 (Or.inl rfl) smg_35 dX9_bestNow_88 (fun h26 => ?_)
                  refine z_iconst (pc := 89) (0 : Int32) dX9_bestNow_89 (by decide) ?_
                  refine z_iald (pc := 90) (smr_35 h26).2 (smr_35 h26).1 rfl dX9_bestNow_90 (fun h27 => ?_)
                  refine z_icmp_le (pc := 91) (tgt := 103) dX9_bestNow_91 (by decide) (fun c28 => ?_) (fun c29 => ?_)
                  · refine z_loc (L' := [.ref 0, .int x1, .int x2, .null, .null, .null]) ⟨Or.inr rfl, ⟨Or.inr rfl, ⟨Or.inr rfl, ⟨Or.inl rfl, ⟨Or.inl rfl, ⟨Or.inl rfl, trivial⟩⟩⟩⟩⟩⟩ ?_
                    exact hj9 x1 μ16
                  · refine z_loc (L' := [.ref 0, .null, .int x2, .int v4, .int v5, .int v6]) ⟨Or.inr rfl, ⟨Or.inl rfl, ⟨Or.inr rfl, ⟨Or.inr rfl, ⟨Or.inr rfl, ⟨Or.inr rfl, trivial⟩⟩⟩⟩⟩⟩ ?_
                    exact hj21
set_option maxHeartbeats 1000000 in
theorem t9_bestNow (μ : zMem) : zMR yX9_bestNow cX9_bestNow 6 (some .int) 5 [.ref 0] 1134 SM μ (f9_bestNow μ) := by
  refine zMR_of (by decide +kernel) rfl (Nat.le_of_ble_eq_true rfl) (L := [.ref 0, .null, .null, .null, .null, .null]) rfl ?_
  unfold f9_bestNow
  refine z_iconst (pc := 0) (-1 : Int32) dX9_bestNow_0 (by decide) ?_
  refine z_istore_n (pc := 1) (L' := [.ref 0, .int (-1 : Int32), .null, .null, .null, .null]) dX9_bestNow_1 (by decide) rfl ?_
  refine z_iconst (pc := 2) (0 : Int32) dX9_bestNow_2 (by decide) ?_
  refine z_istore_n (pc := 3) (L' := [.ref 0, .int (-1 : Int32), .int (0 : Int32), .null, .null, .null]) dX9_bestNow_3 (by decide) rfl ?_
  refine t9_bestNow_L4 _ (fun x1_30 μ31 => ?_) zF _ _ _
  · refine z_iload_n (pc := 109) dX9_bestNow_109 rfl ?_
    exact z_iret (pc := 110) rfl dX9_bestNow_110
def f9_secondOf (x1 : Int32) (x2 : Int32) (x3 : Int32) (μ : zMem) : zRes := bnd0 (f9_lays (1 : Int32) (0 : Int32) μ) (fun (v1 : Int32) (μ2 : zMem) => bnd0 (f9_works x1 x2 x3 μ2) (fun (v3 : Int32) (μ4 : zMem) => bnd0 (f9_bestNow μ4) (fun (v5 : Int32) (μ6 : zMem) => bnd0 (f9_lays (1 : Int32) (1 : Int32) μ6) (fun (v7 : Int32) (μ8 : zMem) => some (0, v5, μ8)))))
set_option maxHeartbeats 1000000 in
theorem t9_secondOf (x1 : Int32) (x2 : Int32) (x3 : Int32) (μ : zMem) : zMR yX9_secondOf cX9_secondOf 5 (some .int) 6 [.ref 0, .int x1, .int x2, .int x3] 1134 SM μ (f9_secondOf x1 x2 x3 μ) := by
  refine zMR_of (by decide +kernel) rfl (Nat.le_of_ble_eq_true rfl) (L := [.ref 0, .int x1, .int x2, .int x3, .null]) rfl ?_
  unfold f9_secondOf
  refine z_aload_n (pc := 0) dX9_secondOf_0 rfl ?_
  refine z_iconst (pc := 1) (1 : Int32) dX9_secondOf_1 (by decide) ?_
  refine z_iconst (pc := 2) (0 : Int32) dX9_secondOf_2 (by decide) ?_
  refine z_callV (As := [.int (1 : Int32), .int (0 : Int32)]) (pc := 3) (ret' := none) kvX9_248 (t9_lays _ _ _) (by decide) (by decide) sm_0  rfl rfl (Nat.le_of_ble_eq_true rfl) dX9_secondOf_3 (fun v1 μ2 => ?_)
  refine z_aload_n (pc := 6) dX9_secondOf_6 rfl ?_
  refine z_iload_n (pc := 7) dX9_secondOf_7 rfl ?_
  refine z_iload_n (pc := 8) dX9_secondOf_8 rfl ?_
  refine z_iload_n (pc := 9) dX9_secondOf_9 rfl ?_
  refine z_callV (As := [.int x1, .int x2, .int x3]) (pc := 10) (ret' := none) kvX9_242 (t9_works _ _ _ _) (by decide) (by decide) sm_0  rfl rfl (Nat.le_of_ble_eq_true rfl) dX9_secondOf_10 (fun v3 μ4 => ?_)
  refine z_aload_n (pc := 13) dX9_secondOf_13 rfl ?_
  refine z_callV (As := []) (pc := 14) (ret' := some .int) kvX9_299 (t9_bestNow _) (by decide) (by decide) sm_0  rfl rfl (Nat.le_of_ble_eq_true rfl) dX9_secondOf_14 (fun v5 μ6 => ?_)
  refine z_istore (pc := 17) (L' := [.ref 0, .int x1, .int x2, .int x3, .int v5]) dX9_secondOf_17 (by decide) rfl ?_
  refine z_aload_n (pc := 19) dX9_secondOf_19 rfl ?_
  refine z_iconst (pc := 20) (1 : Int32) dX9_secondOf_20 (by decide) ?_
  refine z_iconst (pc := 21) (1 : Int32) dX9_secondOf_21 (by decide) ?_
  refine z_callV (As := [.int (1 : Int32), .int (1 : Int32)]) (pc := 22) (ret' := none) kvX9_248 (t9_lays _ _ _) (by decide) (by decide) sm_0  rfl rfl (Nat.le_of_ble_eq_true rfl) dX9_secondOf_22 (fun v7 μ8 => ?_)
  refine z_iload (pc := 25) dX9_secondOf_25 rfl ?_
  exact z_iret (pc := 27) rfl dX9_secondOf_27
def f9_best_L55 (x3 : Int32) (K225 : Int32 → zMem → zRes) : Nat → Int32 → Int32 → zMem → zRes
  | 0, _, _, _ => none
  | n + 1, x2, x4, μ => zin (2 : Int32) 6 (if ((64 : Int32) * (μ 4 (2 : Int32).toNatClampNeg)) ≤ x4 then K225 x2 μ else zlet (x4 / (64 : Int32)) (fun (v18 : Int32) => zlet (zrem (x4 / (8 : Int32)) (8 : Int32)) (fun (v19 : Int32) => zlet (zrem x4 (8 : Int32)) (fun (v20 : Int32) => zlet (fun (x2_21 : Int32) (μ22 : zMem) => f9_best_L55 x3 K225 n x2_21 (x4 + (1 : Int32)) μ22) (fun j23 => if v20 ≤ v19 then j23 x2 μ else zin (1 : Int32) 6 (if (μ 4 (1 : Int32).toNatClampNeg) ≤ v20 then j23 x2 μ else bnd0 (f9_canBe v18 v19 v20 μ) (fun (v29 : Int32) (μ30 : zMem) => if v29 = 0 then j23 x2 μ30 else zin v18 10 (zin (0 : Int32) 4 (zlet (μ30 (36 + v18.toNatClampNeg) (0 : Int32).toNatClampNeg) (fun (v35 : Int32) => zlet (fun (x8_36 : Int32) (x9_37 : Int32) (μ38 : zMem) => if x2 < x8_36 then bnd0 (f9_coded v18 v19 v20 μ38) (fun (v41 : Int32) (μ42 : zMem) => zin (0 : Int32) 2 (zlet (zset μ42 1127 (0 : Int32).toNatClampNeg v41) (fun (μ44 : zMem) => zin (1 : Int32) 2 (zlet (zset μ44 1127 (1 : Int32).toNatClampNeg x9_37) (fun (μ46 : zMem) => j23 x8_36 μ46))))) else j23 x2 μ38) (fun j47 => if x3 = (1 : Int32) then bnd0 (f9_secondOf v18 v19 v20 μ30) (fun (v50 : Int32) (μ51 : zMem) => if v50 = (-1 : Int32) then j23 x2 μ51 else zin (v50 / (100 : Int32)) 10 (zin (0 : Int32) 4 (zlet (v35 + (μ51 (36 + (v50 / (100 : Int32)).toNatClampNeg) (0 : Int32).toNatClampNeg)) (fun (v56 : Int32) => j47 v56 v50 μ51)))) else j47 v35 (-1 : Int32) μ30)))))))))))
def f9_best_L47 (K231 : Int32 → zMem → zRes) : Nat → Int32 → Int32 → zMem → zRes
  | 0, _, _, _ => none
  | n + 1, x2, x3, μ => if (2 : Int32) ≤ x3 then K231 x2 μ else f9_best_L55 x3 (fun (x2_57 : Int32) (μ58 : zMem) => f9_best_L47 K231 n x2_57 (x3 + (1 : Int32)) μ58) zF x2 (0 : Int32) μ
def f9_best (x1 : Int32) (μ : zMem) : zRes := zlet (zset μ 0 0 (0 : Int32)) (fun (μ1 : zMem) => bnd0 (f9_in x1 (0 : Int32) (2 : Int32) μ1) (fun (v2 : Int32) (μ3 : zMem) => zlet (fun (s4 : Int32) => bnd0 (f9_bad s4 (1 : Int32) μ3) (fun (v5 : Int32) (μ6 : zMem) => if v5 = 0 then zin (0 : Int32) 2 (zlet (zset μ6 1127 (0 : Int32).toNatClampNeg (-1 : Int32)) (fun (μ10 : zMem) => zin (1 : Int32) 2 (zlet (zset μ10 1127 (1 : Int32).toNatClampNeg (-1 : Int32)) (fun (μ12 : zMem) => f9_best_L47 (fun (x2_59 : Int32) (μ60 : zMem) => zlet (fun (s61 : Int32) => some (0, s61, μ60)) (fun j62 => if x1 = 0 then j62 x2_59 else zin (x1 - (1 : Int32)) 2 (j62 (μ60 1127 (x1 - (1 : Int32)).toNatClampNeg)))) zF (0 : Int32) (0 : Int32) μ12)))) else some (0, (0 : Int32), μ6))) (fun j66 => if v2 = 0 then j66 (1 : Int32) else j66 (0 : Int32))))
set_option maxHeartbeats 1000000 in
theorem t9_best_L55 (x1 : Int32) (x3 : Int32) (K225 : Int32 → zMem → zRes) (hK225 : ∀ (x2 : Int32) (μ : zMem), zR yX9_best cX9_best 10 (some .int) 7 225 [.ref 0, .int x1, .int x2, .int x3, .null, .null, .null, .null, .null, .null] [] 1134 SM μ (K225 x2 μ)) : ∀ (n : Nat) (x2 : Int32) (x4 : Int32) (μ : zMem), zR yX9_best cX9_best 10 (some .int) 7 55 [.ref 0, .int x1, .int x2, .int x3, .int x4, .null, .null, .null, .null, .null] [] 1134 SM μ (f9_best_L55 x3 K225 n x2 x4 μ) := by
  intro n
  induction n with
  | zero => intro x2 x4 μ; intro q hq; cases hq
  | succ n ih =>
    intro x2 x4 μ
    unfold f9_best_L55
    refine z_iload (pc := 55) dX9_best_55 rfl ?_
    refine z_bipush (pc := 57) (64 : Int32) dX9_best_57 (by decide) ?_
    refine z_aload_n (pc := 59) dX9_best_59 rfl ?_
    refine z_getr (pc := 60) fdX9_23 (by decide) sm_0 rfl rfl dX9_best_60 ?_
    refine z_iconst (pc := 63) (2 : Int32) dX9_best_63 (by decide) ?_
    refine z_iald (pc := 64) (by decide) sm_4 rfl dX9_best_64 (fun h15 => ?_)
    refine z_imul (pc := 65) dX9_best_65 ?_
    refine z_icmp_ge (pc := 66) (tgt := 225) dX9_best_66 (by decide) (fun c16 => ?_) (fun c17 => ?_)
    · refine z_loc (L' := [.ref 0, .int x1, .int x2, .int x3, .null, .null, .null, .null, .null, .null]) ⟨Or.inr rfl, ⟨Or.inr rfl, ⟨Or.inr rfl, ⟨Or.inr rfl, ⟨Or.inl rfl, ⟨Or.inl rfl, ⟨Or.inl rfl, ⟨Or.inl rfl, ⟨Or.inl rfl, ⟨Or.inl rfl, trivial⟩⟩⟩⟩⟩⟩⟩⟩⟩⟩ ?_
      exact hK225 x2 μ
    · refine z_iload (pc := 69) dX9_best_69 rfl ?_
      refine z_bipush (pc := 71) (64 : Int32) dX9_best_71 (by decide) ?_
      refine z_idivc (pc := 73) dX9_best_73 (by decide) ?_
      refine z_val (fun v18 => ?_)
      refine z_istore (pc := 74) (L' := [.ref 0, .int x1, .int x2, .int x3, .int x4, .int v18, .null, .null, .null, .null]) dX9_best_74 (by decide) rfl ?_
      refine z_iload (pc := 76) dX9_best_76 rfl ?_
      refine z_bipush (pc := 78) (8 : Int32) dX9_best_78 (by decide) ?_
      refine z_idivc (pc := 80) dX9_best_80 (by decide) ?_
      refine z_bipush (pc := 81) (8 : Int32) dX9_best_81 (by decide) ?_
      refine z_iremc (pc := 83) dX9_best_83 (by decide) ?_
      refine z_val (fun v19 => ?_)
      refine z_istore (pc := 84) (L' := [.ref 0, .int x1, .int x2, .int x3, .int x4, .int v18, .int v19, .null, .null, .null]) dX9_best_84 (by decide) rfl ?_
      refine z_iload (pc := 86) dX9_best_86 rfl ?_
      refine z_bipush (pc := 88) (8 : Int32) dX9_best_88 (by decide) ?_
      refine z_iremc (pc := 90) dX9_best_90 (by decide) ?_
      refine z_val (fun v20 => ?_)
      refine z_istore (pc := 91) (L' := [.ref 0, .int x1, .int x2, .int x3, .int x4, .int v18, .int v19, .int v20, .null, .null]) dX9_best_91 (by decide) rfl ?_
      refine z_iload (pc := 93) dX9_best_93 rfl ?_
      refine z_iload (pc := 95) dX9_best_95 rfl ?_
      refine z_let (fun (j : Int32 → zMem → zRes) => ∀ (x2_21 : Int32) (μ22 : zMem), zR yX9_best cX9_best 10 (some .int) 7 219 [.ref 0, .int x1, .int x2_21, .int x3, .int x4, .null, .null, .null, .null, .null] [] 1134 SM μ22 (j x2_21 μ22)) ?_ (fun j23 hj23 => ?_)
      · intro x2_21 μ22
        refine z_iinc (pc := 219) (v := x4 + (1 : Int32)) (L' := [.ref 0, .int x1, .int x2_21, .int x3, .int (x4 + (1 : Int32)), .null, .null, .null, .null, .null]) dX9_best_219 (by decide) rfl (congrArg _ (by decide)) rfl ?_
        refine z_goto (pc := 222) (tgt := 55) dX9_best_222 (by decide) ?_
        exact ih x2_21 (x4 + (1 : Int32)) μ22
      · refine z_icmp_ge (pc := 97) (tgt := 219) dX9_best_97 (by decide) (fun c24 => ?_) (fun c25 => ?_)
        · refine z_loc (L' := [.ref 0, .int x1, .int x2, .int x3, .int x4, .null, .null, .null, .null, .null]) ⟨Or.inr rfl, ⟨Or.inr rfl, ⟨Or.inr rfl, ⟨Or.inr rfl, ⟨Or.inr rfl, ⟨Or.inl rfl, ⟨Or.inl rfl, ⟨Or.inl rfl, ⟨Or.inl rfl, ⟨Or.inl rfl, trivial⟩⟩⟩⟩⟩⟩⟩⟩⟩⟩ ?_
          exact hj23 x2 μ
        · refine z_iload (pc := 100) dX9_best_100 rfl ?_
          refine z_aload_n (pc := 102) dX9_best_102 rfl ?_
          refine z_getr (pc := 103) fdX9_23 (by decide) sm_0 rfl rfl dX9_best_103 ?_
          refine z_iconst (pc := 106) (1 : Int32) dX9_best_106 (by decide) ?_
          refine z_iald (pc := 107) (by decide) sm_4 rfl dX9_best_107 (fun h26 => ?_)
          refine z_icmp_ge (pc := 108) (tgt := 219) dX9_best_108 (by decide) (fun c27 => ?_) (fun c28 => ?_)
          · refine z_loc (L' := [.ref 0, .int x1, .int x2, .int x3, .int x4, .null, .null, .null, .null, .null]) ⟨Or.inr rfl, ⟨Or.inr rfl, ⟨Or.inr rfl, ⟨Or.inr rfl, ⟨Or.inr rfl, ⟨Or.inl rfl, ⟨Or.inl rfl, ⟨Or.inl rfl, ⟨Or.inl rfl, ⟨Or.inl rfl, trivial⟩⟩⟩⟩⟩⟩⟩⟩⟩⟩ ?_
            exact hj23 x2 μ
          · refine z_aload_n (pc := 111) dX9_best_111 rfl ?_
            refine z_iload (pc := 112) dX9_best_112 rfl ?_
            refine z_iload (pc := 114) dX9_best_114 rfl ?_
            refine z_iload (pc := 116) dX9_best_116 rfl ?_
            refine z_callV (As := [.int v18, .int v19, .int v20]) (pc := 118) (ret' := some .boolean) kvX9_275 (t9_canBe _ _ _ _) (by decide) (by decide) sm_0  rfl rfl (Nat.le_of_ble_eq_true rfl) dX9_best_118 (fun v29 μ30 => ?_)
            refine z_if_ne (pc := 121) (tgt := 127) dX9_best_121 (by decide) (fun c31 => ?_) (fun c32 => ?_)
            · refine z_aload_n (pc := 127) dX9_best_127 rfl ?_
              refine z_getr (pc := 128) fdX9_37 (by decide) sm_0 rfl rfl dX9_best_128 ?_
              refine z_iload (pc := 131) dX9_best_131 rfl ?_
              refine z_aald (pc := 133) (fun j => 36 + j) (by decide) sm_35 (Or.inl rfl) smg_35 dX9_best_133 (fun h33 => ?_)
              refine z_iconst (pc := 134) (0 : Int32) dX9_best_134 (by decide) ?_
              refine z_iald (pc := 135) (smr_35 h33).2 (smr_35 h33).1 rfl dX9_best_135 (fun h34 => ?_)
              refine z_val (fun v35 => ?_)
              refine z_istore (pc := 136) (L' := [.ref 0, .int x1, .int x2, .int x3, .int x4, .int v18, .int v19, .int v20, .int v35, .null]) dX9_best_136 (by decide) rfl ?_
              refine z_iconst (pc := 138) (-1 : Int32) dX9_best_138 (by decide) ?_
              refine z_istore (pc := 139) (L' := [.ref 0, .int x1, .int x2, .int x3, .int x4, .int v18, .int v19, .int v20, .int v35, .int (-1 : Int32)]) dX9_best_139 (by decide) rfl ?_
              refine z_iload_n (pc := 141) dX9_best_141 rfl ?_
              refine z_iconst (pc := 142) (1 : Int32) dX9_best_142 (by decide) ?_
              refine z_let (fun (j : Int32 → Int32 → zMem → zRes) => ∀ (x8_36 : Int32) (x9_37 : Int32) (μ38 : zMem), zR yX9_best cX9_best 10 (some .int) 7 184 [.ref 0, .int x1, .int x2, .int x3, .int x4, .int v18, .int v19, .int v20, .int x8_36, .int x9_37] [] 1134 SM μ38 (j x8_36 x9_37 μ38)) ?_ (fun j47 hj47 => ?_)
              · intro x8_36 x9_37 μ38
                refine z_iload (pc := 184) dX9_best_184 rfl ?_
                refine z_iload_n (pc := 186) dX9_best_186 rfl ?_
                refine z_icmp_gt (pc := 187) (tgt := 193) dX9_best_187 (by decide) (fun c39 => ?_) (fun c40 => ?_)
                · refine z_iload (pc := 193) dX9_best_193 rfl ?_
                  refine z_istore_n (pc := 195) (L' := [.ref 0, .int x1, .int x8_36, .int x3, .int x4, .int v18, .int v19, .int v20, .int x8_36, .int x9_37]) dX9_best_195 (by decide) rfl ?_
                  refine z_aload_n (pc := 196) dX9_best_196 rfl ?_
                  refine z_getr (pc := 197) fdX9_85 (by decide) sm_0 rfl rfl dX9_best_197 ?_
                  refine z_iconst (pc := 200) (0 : Int32) dX9_best_200 (by decide) ?_
                  refine z_iload (pc := 201) dX9_best_201 rfl ?_
                  refine z_iload (pc := 203) dX9_best_203 rfl ?_
                  refine z_iload (pc := 205) dX9_best_205 rfl ?_
                  refine z_callS (As := [.int v18, .int v19, .int v20]) (pc := 207) (ret' := some .int) ksX9_296 (t9_coded _ _ _ _) (by decide)  rfl rfl (Nat.le_of_ble_eq_true rfl) dX9_best_207 (fun v41 μ42 => ?_)
                  refine z_iast (pc := 210) (by decide) sm_1127 rfl dX9_best_210 (fun h43 => ?_)
                  refine z_mem (fun μ44 => ?_)
                  refine z_aload_n (pc := 211) dX9_best_211 rfl ?_
                  refine z_getr (pc := 212) fdX9_85 (by decide) sm_0 rfl rfl dX9_best_212 ?_
                  refine z_iconst (pc := 215) (1 : Int32) dX9_best_215 (by decide) ?_
                  refine z_iload (pc := 216) dX9_best_216 rfl ?_
                  refine z_iast (pc := 218) (by decide) sm_1127 rfl dX9_best_218 (fun h45 => ?_)
                  refine z_mem (fun μ46 => ?_)
                  refine z_loc (L' := [.ref 0, .int x1, .int x8_36, .int x3, .int x4, .null, .null, .null, .null, .null]) ⟨Or.inr rfl, ⟨Or.inr rfl, ⟨Or.inr rfl, ⟨Or.inr rfl, ⟨Or.inr rfl, ⟨Or.inl rfl, ⟨Or.inl rfl, ⟨Or.inl rfl, ⟨Or.inl rfl, ⟨Or.inl rfl, trivial⟩⟩⟩⟩⟩⟩⟩⟩⟩⟩ ?_
                  exact hj23 x8_36 μ46
                · refine z_goto (pc := 190) (tgt := 219) dX9_best_190 (by decide) ?_
                  refine z_loc (L' := [.ref 0, .int x1, .int x2, .int x3, .int x4, .null, .null, .null, .null, .null]) ⟨Or.inr rfl, ⟨Or.inr rfl, ⟨Or.inr rfl, ⟨Or.inr rfl, ⟨Or.inr rfl, ⟨Or.inl rfl, ⟨Or.inl rfl, ⟨Or.inl rfl, ⟨Or.inl rfl, ⟨Or.inl rfl, trivial⟩⟩⟩⟩⟩⟩⟩⟩⟩⟩ ?_
                  exact hj23 x2 μ38
              · refine z_icmp_ne (pc := 143) (tgt := 184) dX9_best_143 (by decide) (fun c48 => ?_) (fun c49 => ?_)
                · exact hj47 v35 (-1 : Int32) μ30
                · refine z_aload_n (pc := 146) dX9_best_146 rfl ?_
                  refine z_iload (pc := 147) dX9_best_147 rfl ?_
                  refine z_iload (pc := 149) dX9_best_149 rfl ?_
                  refine z_iload (pc := 151) dX9_best_151 rfl ?_
                  refine z_callV (As := [.int v18, .int v19, .int v20]) (pc := 153) (ret' := some .int) kvX9_293 (t9_secondOf _ _ _ _) (by decide) (by decide) sm_0  rfl rfl (Nat.le_of_ble_eq_true rfl) dX9_best_153 (fun v50 μ51 => ?_)
                  refine z_istore (pc := 156) (L' := [.ref 0, .int x1, .int x2, .int x3, .int x4, .int v18, .int v19, .int v20, .int v35, .int v50]) dX9_best_156 (by decide) rfl ?_
                  refine z_iload (pc := 158) dX9_best_158 rfl ?_
                  refine z_iconst (pc := 160) (-1 : Int32) dX9_best_160 (by decide) ?_
                  refine z_icmp_ne (pc := 161) (tgt := 167) dX9_best_161 (by decide) (fun c52 => ?_) (fun c53 => ?_)
                  · refine z_iload (pc := 167) dX9_best_167 rfl ?_
                    refine z_aload_n (pc := 169) dX9_best_169 rfl ?_
                    refine z_getr (pc := 170) fdX9_37 (by decide) sm_0 rfl rfl dX9_best_170 ?_
                    refine z_iload (pc := 173) dX9_best_173 rfl ?_
                    refine z_bipush (pc := 175) (100 : Int32) dX9_best_175 (by decide) ?_
                    refine z_idivc (pc := 177) dX9_best_177 (by decide) ?_
                    refine z_aald (pc := 178) (fun j => 36 + j) (by decide) sm_35 (Or.inl rfl) smg_35 dX9_best_178 (fun h54 => ?_)
                    refine z_iconst (pc := 179) (0 : Int32) dX9_best_179 (by decide) ?_
                    refine z_iald (pc := 180) (smr_35 h54).2 (smr_35 h54).1 rfl dX9_best_180 (fun h55 => ?_)
                    refine z_iadd (pc := 181) dX9_best_181 ?_
                    refine z_val (fun v56 => ?_)
                    refine z_istore (pc := 182) (L' := [.ref 0, .int x1, .int x2, .int x3, .int x4, .int v18, .int v19, .int v20, .int v56, .int v50]) dX9_best_182 (by decide) rfl ?_
                    exact hj47 v56 v50 μ51
                  · refine z_goto (pc := 164) (tgt := 219) dX9_best_164 (by decide) ?_
                    refine z_loc (L' := [.ref 0, .int x1, .int x2, .int x3, .int x4, .null, .null, .null, .null, .null]) ⟨Or.inr rfl, ⟨Or.inr rfl, ⟨Or.inr rfl, ⟨Or.inr rfl, ⟨Or.inr rfl, ⟨Or.inl rfl, ⟨Or.inl rfl, ⟨Or.inl rfl, ⟨Or.inl rfl, ⟨Or.inl rfl, trivial⟩⟩⟩⟩⟩⟩⟩⟩⟩⟩ ?_
                    exact hj23 x2 μ51
            · refine z_goto (pc := 124) (tgt := 219) dX9_best_124 (by decide) ?_
              refine z_loc (L' := [.ref 0, .int x1, .int x2, .int x3, .int x4, .null, .null, .null, .null, .null]) ⟨Or.inr rfl, ⟨Or.inr rfl, ⟨Or.inr rfl, ⟨Or.inr rfl, ⟨Or.inr rfl, ⟨Or.inl rfl, ⟨Or.inl rfl, ⟨Or.inl rfl, ⟨Or.inl rfl, ⟨Or.inl rfl, trivial⟩⟩⟩⟩⟩⟩⟩⟩⟩⟩ ?_
              exact hj23 x2 μ30
set_option maxHeartbeats 1000000 in
theorem t9_best_L47 (x1 : Int32) (K231 : Int32 → zMem → zRes) (hK231 : ∀ (x2 : Int32) (μ : zMem), zR yX9_best cX9_best 10 (some .int) 7 231 [.ref 0, .int x1, .int x2, .null, .null, .null, .null, .null, .null, .null] [] 1134 SM μ (K231 x2 μ)) : ∀ (n : Nat) (x2 : Int32) (x3 : Int32) (μ : zMem), zR yX9_best cX9_best 10 (some .int) 7 47 [.ref 0, .int x1, .int x2, .int x3, .null, .null, .null, .null, .null, .null] [] 1134 SM μ (f9_best_L47 K231 n x2 x3 μ) := by
  intro n
  induction n with
  | zero => intro x2 x3 μ; intro q hq; cases hq
  | succ n ih =>
    intro x2 x3 μ
    unfold f9_best_L47
    refine z_iload_n (pc := 47) dX9_best_47 rfl ?_
    refine z_iconst (pc := 48) (2 : Int32) dX9_best_48 (by decide) ?_
    refine z_icmp_ge (pc := 49) (tgt := 231) dX9_best_49 (by decide) (fun c13 => ?_) (fun c14 => ?_)
    · refine z_loc (L' := [.ref 0, .int x1, .int x2, .null, .null, .null, .null, .null, .null, .null]) ⟨Or.inr rfl, ⟨Or.inr rfl, ⟨Or.inr rfl, ⟨Or.inl rfl, ⟨Or.inl rfl, ⟨Or.inl rfl, ⟨Or.inl rfl, ⟨Or.inl rfl, ⟨Or.inl rfl, ⟨Or.inl rfl, trivial⟩⟩⟩⟩⟩⟩⟩⟩⟩⟩ ?_
      exact hK231 x2 μ
    · refine z_iconst (pc := 52) (0 : Int32) dX9_best_52 (by decide) ?_
      refine z_istore (pc := 53) (L' := [.ref 0, .int x1, .int x2, .int x3, .int (0 : Int32), .null, .null, .null, .null, .null]) dX9_best_53 (by decide) rfl ?_
      refine t9_best_L55 _ _ _ (fun x2_57 μ58 => ?_) zF _ _ _
      · refine z_iinc (pc := 225) (v := x3 + (1 : Int32)) (L' := [.ref 0, .int x1, .int x2_57, .int (x3 + (1 : Int32)), .null, .null, .null, .null, .null, .null]) dX9_best_225 (by decide) rfl (congrArg _ (by decide)) rfl ?_
        refine z_goto (pc := 228) (tgt := 47) dX9_best_228 (by decide) ?_
        exact ih x2_57 (x3 + (1 : Int32)) μ58
set_option maxHeartbeats 1000000 in
theorem t9_best (x1 : Int32) (μ : zMem) : zMR yX9_best cX9_best 10 (some .int) 7 [.ref 0, .int x1] 1134 SM μ (f9_best x1 μ) := by
  refine zMR_of (by decide +kernel) rfl (Nat.le_of_ble_eq_true rfl) (L := [.ref 0, .int x1, .null, .null, .null, .null, .null, .null, .null, .null]) rfl ?_
  unfold f9_best
  refine z_aload_n (pc := 0) dX9_best_0 rfl ?_
  refine z_iconst (pc := 1) (0 : Int32) dX9_best_1 (by decide) ?_
  refine z_puti (pc := 2) fdX9_106 (by decide) sm_0 rfl rfl dX9_best_2 ?_
  refine z_mem (fun μ1 => ?_)
  refine z_aload_n (pc := 5) dX9_best_5 rfl ?_
  refine z_iload_n (pc := 6) dX9_best_6 rfl ?_
  refine z_iconst (pc := 7) (0 : Int32) dX9_best_7 (by decide) ?_
  refine z_iconst (pc := 8) (2 : Int32) dX9_best_8 (by decide) ?_
  refine z_callS (As := [.int x1, .int (0 : Int32), .int (2 : Int32)]) (pc := 9) (ret' := some .boolean) ksX9_140 (t9_in _ _ _ _) (by decide)  rfl rfl (Nat.le_of_ble_eq_true rfl) dX9_best_9 (fun v2 μ3 => ?_)
  refine z_let (fun (j : Int32 → zRes) => ∀ (s4 : Int32), zR yX9_best cX9_best 10 (some .int) 7 20 [.ref 0, .int x1, .null, .null, .null, .null, .null, .null, .null, .null] [.int s4, .ref 0] 1134 SM μ3 (j s4)) ?_ (fun j66 hj66 => ?_)
  · intro s4
    refine z_iconst (pc := 20) (1 : Int32) dX9_best_20 (by decide) ?_
    refine z_callV (As := [.int s4, .int (1 : Int32)]) (pc := 21) (ret' := some .boolean) kvX9_188 (t9_bad _ _ _) (by decide) (by decide) sm_0  rfl rfl (Nat.le_of_ble_eq_true rfl) dX9_best_21 (fun v5 μ6 => ?_)
    refine z_if_eq (pc := 24) (tgt := 29) dX9_best_24 (by decide) (fun c7 => ?_) (fun c8 => ?_)
    · refine z_aload_n (pc := 29) dX9_best_29 rfl ?_
      refine z_getr (pc := 30) fdX9_85 (by decide) sm_0 rfl rfl dX9_best_30 ?_
      refine z_iconst (pc := 33) (0 : Int32) dX9_best_33 (by decide) ?_
      refine z_iconst (pc := 34) (-1 : Int32) dX9_best_34 (by decide) ?_
      refine z_iast (pc := 35) (by decide) sm_1127 rfl dX9_best_35 (fun h9 => ?_)
      refine z_mem (fun μ10 => ?_)
      refine z_aload_n (pc := 36) dX9_best_36 rfl ?_
      refine z_getr (pc := 37) fdX9_85 (by decide) sm_0 rfl rfl dX9_best_37 ?_
      refine z_iconst (pc := 40) (1 : Int32) dX9_best_40 (by decide) ?_
      refine z_iconst (pc := 41) (-1 : Int32) dX9_best_41 (by decide) ?_
      refine z_iast (pc := 42) (by decide) sm_1127 rfl dX9_best_42 (fun h11 => ?_)
      refine z_mem (fun μ12 => ?_)
      refine z_iconst (pc := 43) (0 : Int32) dX9_best_43 (by decide) ?_
      refine z_istore_n (pc := 44) (L' := [.ref 0, .int x1, .int (0 : Int32), .null, .null, .null, .null, .null, .null, .null]) dX9_best_44 (by decide) rfl ?_
      refine z_iconst (pc := 45) (0 : Int32) dX9_best_45 (by decide) ?_
      refine z_istore_n (pc := 46) (L' := [.ref 0, .int x1, .int (0 : Int32), .int (0 : Int32), .null, .null, .null, .null, .null, .null]) dX9_best_46 (by decide) rfl ?_
      refine t9_best_L47 _ _ (fun x2_59 μ60 => ?_) zF _ _ _
      · refine z_iload_n (pc := 231) dX9_best_231 rfl ?_
        refine z_let (fun (j : Int32 → zRes) => ∀ (s61 : Int32), zR yX9_best cX9_best 10 (some .int) 7 247 [.null, .null, .null, .null, .null, .null, .null, .null, .null, .null] [.int s61] 1134 SM μ60 (j s61)) ?_ (fun j62 hj62 => ?_)
        · intro s61
          exact z_iret (pc := 247) rfl dX9_best_247
        · refine z_if_ne (pc := 232) (tgt := 239) dX9_best_232 (by decide) (fun c63 => ?_) (fun c64 => ?_)
          · refine z_aload_n (pc := 239) dX9_best_239 rfl ?_
            refine z_getr (pc := 240) fdX9_85 (by decide) sm_0 rfl rfl dX9_best_240 ?_
            refine z_iload_n (pc := 243) dX9_best_243 rfl ?_
            refine z_iconst (pc := 244) (1 : Int32) dX9_best_244 (by decide) ?_
            refine z_isub (pc := 245) dX9_best_245 ?_
            refine z_iald (pc := 246) (by decide) sm_1127 rfl dX9_best_246 (fun h65 => ?_)
            refine z_loc (L' := [.null, .null, .null, .null, .null, .null, .null, .null, .null, .null]) ⟨Or.inl rfl, ⟨Or.inl rfl, ⟨Or.inl rfl, ⟨Or.inl rfl, ⟨Or.inl rfl, ⟨Or.inl rfl, ⟨Or.inl rfl, ⟨Or.inl rfl, ⟨Or.inl rfl, ⟨Or.inl rfl, trivial⟩⟩⟩⟩⟩⟩⟩⟩⟩⟩ ?_
            exact hj62 (μ60 1127 (x1 - (1 : Int32)).toNatClampNeg)
          · refine z_iload_n (pc := 235) dX9_best_235 rfl ?_
            refine z_goto (pc := 236) (tgt := 247) dX9_best_236 (by decide) ?_
            refine z_loc (L' := [.null, .null, .null, .null, .null, .null, .null, .null, .null, .null]) ⟨Or.inl rfl, ⟨Or.inl rfl, ⟨Or.inl rfl, ⟨Or.inl rfl, ⟨Or.inl rfl, ⟨Or.inl rfl, ⟨Or.inl rfl, ⟨Or.inl rfl, ⟨Or.inl rfl, ⟨Or.inl rfl, trivial⟩⟩⟩⟩⟩⟩⟩⟩⟩⟩ ?_
            exact hj62 x2_59
    · refine z_iconst (pc := 27) (0 : Int32) dX9_best_27 (by decide) ?_
      exact z_iret (pc := 28) rfl dX9_best_28
  · refine z_if_ne (pc := 12) (tgt := 19) dX9_best_12 (by decide) (fun c67 => ?_) (fun c68 => ?_)
    · refine z_iconst (pc := 19) (0 : Int32) dX9_best_19 (by decide) ?_
      exact hj66 (0 : Int32)
    · refine z_iconst (pc := 15) (1 : Int32) dX9_best_15 (by decide) ?_
      refine z_goto (pc := 16) (tgt := 20) dX9_best_16 (by decide) ?_
      exact hj66 (1 : Int32)
def f9_areDays (x1 : Int32) (μ : zMem) : zRes := bnd0 (f9_in x1 (1 : Int32) ((30 : Int32) - (μ 0 20)) μ) (fun (v1 : Int32) (μ2 : zMem) => zbl v1 (some (0, v1, μ2)))
set_option maxHeartbeats 1000000 in
theorem t9_areDays (x1 : Int32) (μ : zMem) : zMR yX9_areDays cX9_areDays 2 (some .boolean) 2 [.ref 0, .int x1] 1134 SM μ (f9_areDays x1 μ) := by
  refine zMR_of (by decide +kernel) rfl (Nat.le_of_ble_eq_true rfl) (L := [.ref 0, .int x1]) rfl ?_
  unfold f9_areDays
  refine z_iload_n (pc := 0) dX9_areDays_0 rfl ?_
  refine z_iconst (pc := 1) (1 : Int32) dX9_areDays_1 (by decide) ?_
  refine z_bipush (pc := 2) (30 : Int32) dX9_areDays_2 (by decide) ?_
  refine z_aload_n (pc := 4) dX9_areDays_4 rfl ?_
  refine z_geti (pc := 5) fdX9_198 (by decide) sm_0 rfl dX9_areDays_5 ?_
  refine z_isub (pc := 8) dX9_areDays_8 ?_
  refine z_callS (As := [.int x1, .int (1 : Int32), .int ((30 : Int32) - (μ 0 20))]) (pc := 9) (ret' := some .boolean) ksX9_140 (t9_in _ _ _ _) (by decide)  rfl rfl (Nat.le_of_ble_eq_true rfl) dX9_areDays_9 (fun v1 μ2 => ?_)
  exact z_zret (pc := 12) rfl dX9_areDays_12
def f9_isAhead (x1 : Int32) (x2 : Int32) (x3 : Int32) (μ : zMem) : zRes := zlet (x2 / (100 : Int32)) (fun (v1 : Int32) => zlet (x3 / (100 : Int32)) (fun (v2 : Int32) => zin v1 10 (zin (0 : Int32) 4 (zlet (μ (36 + v1.toNatClampNeg) (0 : Int32).toNatClampNeg) (fun (v5 : Int32) => zin v2 10 (zin (0 : Int32) 4 (zlet (μ (36 + v2.toNatClampNeg) (0 : Int32).toNatClampNeg) (fun (v8 : Int32) => zlet (fun (x8_9 : Int32) (x9_10 : Int32) (μ11 : zMem) => zlet (fun (s12 : Int32) => zlet (fun (s13 : Int32) => zbl s13 (some (0, s13, μ11))) (fun j14 => zlet (j14 (1 : Int32)) (fun j15 => if 0 < s12 then j15 else zlet (j14 (0 : Int32)) (fun j18 => if s12 = 0 then if v5 ≤ v8 then j18 else j15 else j18)))) (fun j23 => zlet (j23 (x9_10 - x8_9)) (fun j24 => if x1 = (1 : Int32) then j24 else if x1 = (2 : Int32) then j24 else j23 (x8_9 - x9_10)))) (fun j29 => if (2 : Int32) ≤ x1 then if x1 = (2 : Int32) then zin (zrem (x2 / (10 : Int32)) (10 : Int32)) 9 (zin (4 : Int32) 6 (zin (zrem x2 (10 : Int32)) 9 (zin (4 : Int32) 6 (zlet ((μ (15 + (zrem (x2 / (10 : Int32)) (10 : Int32)).toNatClampNeg) (4 : Int32).toNatClampNeg) + (μ (15 + (zrem x2 (10 : Int32)).toNatClampNeg) (4 : Int32).toNatClampNeg)) (fun (v44 : Int32) => zin (zrem (x3 / (10 : Int32)) (10 : Int32)) 9 (zin (4 : Int32) 6 (zin (zrem x3 (10 : Int32)) 9 (zin (4 : Int32) 6 (zlet ((μ (15 + (zrem (x3 / (10 : Int32)) (10 : Int32)).toNatClampNeg) (4 : Int32).toNatClampNeg) + (μ (15 + (zrem x3 (10 : Int32)).toNatClampNeg) (4 : Int32).toNatClampNeg)) (fun (v49 : Int32) => j29 v44 v49 μ)))))))))) else zin v2 10 (zin (1 : Int32) 4 (zlet (v5 * (μ (36 + v2.toNatClampNeg) (1 : Int32).toNatClampNeg)) (fun (v36 : Int32) => zin v1 10 (zin (1 : Int32) 4 (zlet (v8 * (μ (36 + v1.toNatClampNeg) (1 : Int32).toNatClampNeg)) (fun (v39 : Int32) => j29 v36 v39 μ)))))) else zin (zrem (x2 / (10 : Int32)) (10 : Int32)) 9 (bnd0 (f9_asked v1 μ) (fun (v51 : Int32) (μ52 : zMem) => zin v51 4 (zin (zrem x2 (10 : Int32)) 9 (bnd0 (f9_asked v1 μ52) (fun (v55 : Int32) (μ56 : zMem) => zin v55 4 (bnd0 (f9_amount ((μ52 (51 + (zrem (x2 / (10 : Int32)) (10 : Int32)).toNatClampNeg) v51.toNatClampNeg) - (μ56 (51 + (zrem x2 (10 : Int32)).toNatClampNeg) v55.toNatClampNeg)) μ56) (fun (v58 : Int32) (μ59 : zMem) => zin (zrem (x3 / (10 : Int32)) (10 : Int32)) 9 (bnd0 (f9_asked v2 μ59) (fun (v61 : Int32) (μ62 : zMem) => zin v61 4 (zin (zrem x3 (10 : Int32)) 9 (bnd0 (f9_asked v2 μ62) (fun (v65 : Int32) (μ66 : zMem) => zin v65 4 (bnd0 (f9_amount ((μ62 (51 + (zrem (x3 / (10 : Int32)) (10 : Int32)).toNatClampNeg) v61.toNatClampNeg) - (μ66 (51 + (zrem x3 (10 : Int32)).toNatClampNeg) v65.toNatClampNeg)) μ66) (fun (v68 : Int32) (μ69 : zMem) => j29 v58 v68 μ69)))))))))))))))))))))))
set_option maxHeartbeats 1000000 in
theorem t9_isAhead (x1 : Int32) (x2 : Int32) (x3 : Int32) (μ : zMem) : zMR yX9_isAhead cX9_isAhead 11 (some .boolean) 3 [.ref 0, .int x1, .int x2, .int x3] 1134 SM μ (f9_isAhead x1 x2 x3 μ) := by
  refine zMR_of (by decide +kernel) rfl (Nat.le_of_ble_eq_true rfl) (L := [.ref 0, .int x1, .int x2, .int x3, .null, .null, .null, .null, .null, .null, .null]) rfl ?_
  unfold f9_isAhead
  refine z_iload_n (pc := 0) dX9_isAhead_0 rfl ?_
  refine z_bipush (pc := 1) (100 : Int32) dX9_isAhead_1 (by decide) ?_
  refine z_idivc (pc := 3) dX9_isAhead_3 (by decide) ?_
  refine z_val (fun v1 => ?_)
  refine z_istore (pc := 4) (L' := [.ref 0, .int x1, .int x2, .int x3, .int v1, .null, .null, .null, .null, .null, .null]) dX9_isAhead_4 (by decide) rfl ?_
  refine z_iload_n (pc := 6) dX9_isAhead_6 rfl ?_
  refine z_bipush (pc := 7) (100 : Int32) dX9_isAhead_7 (by decide) ?_
  refine z_idivc (pc := 9) dX9_isAhead_9 (by decide) ?_
  refine z_val (fun v2 => ?_)
  refine z_istore (pc := 10) (L' := [.ref 0, .int x1, .int x2, .int x3, .int v1, .int v2, .null, .null, .null, .null, .null]) dX9_isAhead_10 (by decide) rfl ?_
  refine z_aload_n (pc := 12) dX9_isAhead_12 rfl ?_
  refine z_getr (pc := 13) fdX9_37 (by decide) sm_0 rfl rfl dX9_isAhead_13 ?_
  refine z_iload (pc := 16) dX9_isAhead_16 rfl ?_
  refine z_aald (pc := 18) (fun j => 36 + j) (by decide) sm_35 (Or.inl rfl) smg_35 dX9_isAhead_18 (fun h3 => ?_)
  refine z_iconst (pc := 19) (0 : Int32) dX9_isAhead_19 (by decide) ?_
  refine z_iald (pc := 20) (smr_35 h3).2 (smr_35 h3).1 rfl dX9_isAhead_20 (fun h4 => ?_)
  refine z_val (fun v5 => ?_)
  refine z_istore (pc := 21) (L' := [.ref 0, .int x1, .int x2, .int x3, .int v1, .int v2, .int v5, .null, .null, .null, .null]) dX9_isAhead_21 (by decide) rfl ?_
  refine z_aload_n (pc := 23) dX9_isAhead_23 rfl ?_
  refine z_getr (pc := 24) fdX9_37 (by decide) sm_0 rfl rfl dX9_isAhead_24 ?_
  refine z_iload (pc := 27) dX9_isAhead_27 rfl ?_
  refine z_aald (pc := 29) (fun j => 36 + j) (by decide) sm_35 (Or.inl rfl) smg_35 dX9_isAhead_29 (fun h6 => ?_)
  refine z_iconst (pc := 30) (0 : Int32) dX9_isAhead_30 (by decide) ?_
  refine z_iald (pc := 31) (smr_35 h6).2 (smr_35 h6).1 rfl dX9_isAhead_31 (fun h7 => ?_)
  refine z_val (fun v8 => ?_)
  refine z_istore (pc := 32) (L' := [.ref 0, .int x1, .int x2, .int x3, .int v1, .int v2, .int v5, .int v8, .null, .null, .null]) dX9_isAhead_32 (by decide) rfl ?_
  refine z_iconst (pc := 34) (0 : Int32) dX9_isAhead_34 (by decide) ?_
  refine z_istore (pc := 35) (L' := [.ref 0, .int x1, .int x2, .int x3, .int v1, .int v2, .int v5, .int v8, .int (0 : Int32), .null, .null]) dX9_isAhead_35 (by decide) rfl ?_
  refine z_iconst (pc := 37) (0 : Int32) dX9_isAhead_37 (by decide) ?_
  refine z_istore (pc := 38) (L' := [.ref 0, .int x1, .int x2, .int x3, .int v1, .int v2, .int v5, .int v8, .int (0 : Int32), .int (0 : Int32), .null]) dX9_isAhead_38 (by decide) rfl ?_
  refine z_iload_n (pc := 40) dX9_isAhead_40 rfl ?_
  refine z_iconst (pc := 41) (2 : Int32) dX9_isAhead_41 (by decide) ?_
  refine z_let (fun (j : Int32 → Int32 → zMem → zRes) => ∀ (x8_9 : Int32) (x9_10 : Int32) (μ11 : zMem), zR yX9_isAhead cX9_isAhead 11 (some .boolean) 3 222 [.null, .int x1, .null, .null, .null, .null, .int v5, .int v8, .int x8_9, .int x9_10, .null] [] 1134 SM μ11 (j x8_9 x9_10 μ11)) ?_ (fun j29 hj29 => ?_)
  · intro x8_9 x9_10 μ11
    refine z_iload_n (pc := 222) dX9_isAhead_222 rfl ?_
    refine z_iconst (pc := 223) (1 : Int32) dX9_isAhead_223 (by decide) ?_
    refine z_let (fun (j : Int32 → zRes) => ∀ (s12 : Int32), zR yX9_isAhead cX9_isAhead 11 (some .boolean) 3 245 [.null, .null, .null, .null, .null, .null, .int v5, .int v8, .null, .null, .null] [.int s12] 1134 SM μ11 (j s12)) ?_ (fun j23 hj23 => ?_)
    · intro s12
      refine z_istore (pc := 245) (L' := [.null, .null, .null, .null, .null, .null, .int v5, .int v8, .null, .null, .int s12]) dX9_isAhead_245 (by decide) rfl ?_
      refine z_iload (pc := 247) dX9_isAhead_247 rfl ?_
      refine z_let (fun (j : Int32 → zRes) => ∀ (s13 : Int32), zR yX9_isAhead cX9_isAhead 11 (some .boolean) 3 269 [.null, .null, .null, .null, .null, .null, .null, .null, .null, .null, .null] [.int s13] 1134 SM μ11 (j s13)) ?_ (fun j14 hj14 => ?_)
      · intro s13
        exact z_zret (pc := 269) rfl dX9_isAhead_269
      · refine z_let (fun (j : zRes) => zR yX9_isAhead cX9_isAhead 11 (some .boolean) 3 264 [.null, .null, .null, .null, .null, .null, .null, .null, .null, .null, .null] [] 1134 SM μ11 (j)) ?_ (fun j15 hj15 => ?_)
        · refine z_iconst (pc := 264) (1 : Int32) dX9_isAhead_264 (by decide) ?_
          refine z_goto (pc := 265) (tgt := 269) dX9_isAhead_265 (by decide) ?_
          exact hj14 (1 : Int32)
        · refine z_if_gt (pc := 249) (tgt := 264) dX9_isAhead_249 (by decide) (fun c16 => ?_) (fun c17 => ?_)
          · refine z_loc (L' := [.null, .null, .null, .null, .null, .null, .null, .null, .null, .null, .null]) ⟨Or.inl rfl, ⟨Or.inl rfl, ⟨Or.inl rfl, ⟨Or.inl rfl, ⟨Or.inl rfl, ⟨Or.inl rfl, ⟨Or.inl rfl, ⟨Or.inl rfl, ⟨Or.inl rfl, ⟨Or.inl rfl, ⟨Or.inl rfl, trivial⟩⟩⟩⟩⟩⟩⟩⟩⟩⟩⟩ ?_
            exact hj15
          · refine z_iload (pc := 252) dX9_isAhead_252 rfl ?_
            refine z_let (fun (j : zRes) => zR yX9_isAhead cX9_isAhead 11 (some .boolean) 3 268 [.null, .null, .null, .null, .null, .null, .null, .null, .null, .null, .null] [] 1134 SM μ11 (j)) ?_ (fun j18 hj18 => ?_)
            · refine z_iconst (pc := 268) (0 : Int32) dX9_isAhead_268 (by decide) ?_
              exact hj14 (0 : Int32)
            · refine z_if_ne (pc := 254) (tgt := 268) dX9_isAhead_254 (by decide) (fun c19 => ?_) (fun c20 => ?_)
              · refine z_loc (L' := [.null, .null, .null, .null, .null, .null, .null, .null, .null, .null, .null]) ⟨Or.inl rfl, ⟨Or.inl rfl, ⟨Or.inl rfl, ⟨Or.inl rfl, ⟨Or.inl rfl, ⟨Or.inl rfl, ⟨Or.inl rfl, ⟨Or.inl rfl, ⟨Or.inl rfl, ⟨Or.inl rfl, ⟨Or.inl rfl, trivial⟩⟩⟩⟩⟩⟩⟩⟩⟩⟩⟩ ?_
                exact hj18
              · refine z_iload (pc := 257) dX9_isAhead_257 rfl ?_
                refine z_iload (pc := 259) dX9_isAhead_259 rfl ?_
                refine z_icmp_le (pc := 261) (tgt := 268) dX9_isAhead_261 (by decide) (fun c21 => ?_) (fun c22 => ?_)
                · refine z_loc (L' := [.null, .null, .null, .null, .null, .null, .null, .null, .null, .null, .null]) ⟨Or.inl rfl, ⟨Or.inl rfl, ⟨Or.inl rfl, ⟨Or.inl rfl, ⟨Or.inl rfl, ⟨Or.inl rfl, ⟨Or.inl rfl, ⟨Or.inl rfl, ⟨Or.inl rfl, ⟨Or.inl rfl, ⟨Or.inl rfl, trivial⟩⟩⟩⟩⟩⟩⟩⟩⟩⟩⟩ ?_
                  exact hj18
                · refine z_loc (L' := [.null, .null, .null, .null, .null, .null, .null, .null, .null, .null, .null]) ⟨Or.inl rfl, ⟨Or.inl rfl, ⟨Or.inl rfl, ⟨Or.inl rfl, ⟨Or.inl rfl, ⟨Or.inl rfl, ⟨Or.inl rfl, ⟨Or.inl rfl, ⟨Or.inl rfl, ⟨Or.inl rfl, ⟨Or.inl rfl, trivial⟩⟩⟩⟩⟩⟩⟩⟩⟩⟩⟩ ?_
                  exact hj15
    · refine z_let (fun (j : zRes) => zR yX9_isAhead cX9_isAhead 11 (some .boolean) 3 232 [.null, .null, .null, .null, .null, .null, .int v5, .int v8, .int x8_9, .int x9_10, .null] [] 1134 SM μ11 (j)) ?_ (fun j24 hj24 => ?_)
      · refine z_iload (pc := 232) dX9_isAhead_232 rfl ?_
        refine z_iload (pc := 234) dX9_isAhead_234 rfl ?_
        refine z_isub (pc := 236) dX9_isAhead_236 ?_
        refine z_goto (pc := 237) (tgt := 245) dX9_isAhead_237 (by decide) ?_
        refine z_loc (L' := [.null, .null, .null, .null, .null, .null, .int v5, .int v8, .null, .null, .null]) ⟨Or.inl rfl, ⟨Or.inl rfl, ⟨Or.inl rfl, ⟨Or.inl rfl, ⟨Or.inl rfl, ⟨Or.inl rfl, ⟨Or.inr rfl, ⟨Or.inr rfl, ⟨Or.inl rfl, ⟨Or.inl rfl, ⟨Or.inl rfl, trivial⟩⟩⟩⟩⟩⟩⟩⟩⟩⟩⟩ ?_
        exact hj23 (x9_10 - x8_9)
      · refine z_icmp_eq (pc := 224) (tgt := 232) dX9_isAhead_224 (by decide) (fun c25 => ?_) (fun c26 => ?_)
        · refine z_loc (L' := [.null, .null, .null, .null, .null, .null, .int v5, .int v8, .int x8_9, .int x9_10, .null]) ⟨Or.inl rfl, ⟨Or.inl rfl, ⟨Or.inl rfl, ⟨Or.inl rfl, ⟨Or.inl rfl, ⟨Or.inl rfl, ⟨Or.inr rfl, ⟨Or.inr rfl, ⟨Or.inr rfl, ⟨Or.inr rfl, ⟨Or.inl rfl, trivial⟩⟩⟩⟩⟩⟩⟩⟩⟩⟩⟩ ?_
          exact hj24
        · refine z_iload_n (pc := 227) dX9_isAhead_227 rfl ?_
          refine z_iconst (pc := 228) (2 : Int32) dX9_isAhead_228 (by decide) ?_
          refine z_icmp_ne (pc := 229) (tgt := 240) dX9_isAhead_229 (by decide) (fun c27 => ?_) (fun c28 => ?_)
          · refine z_iload (pc := 240) dX9_isAhead_240 rfl ?_
            refine z_iload (pc := 242) dX9_isAhead_242 rfl ?_
            refine z_isub (pc := 244) dX9_isAhead_244 ?_
            refine z_loc (L' := [.null, .null, .null, .null, .null, .null, .int v5, .int v8, .null, .null, .null]) ⟨Or.inl rfl, ⟨Or.inl rfl, ⟨Or.inl rfl, ⟨Or.inl rfl, ⟨Or.inl rfl, ⟨Or.inl rfl, ⟨Or.inr rfl, ⟨Or.inr rfl, ⟨Or.inl rfl, ⟨Or.inl rfl, ⟨Or.inl rfl, trivial⟩⟩⟩⟩⟩⟩⟩⟩⟩⟩⟩ ?_
            exact hj23 (x8_9 - x9_10)
          · refine z_loc (L' := [.null, .null, .null, .null, .null, .null, .int v5, .int v8, .int x8_9, .int x9_10, .null]) ⟨Or.inl rfl, ⟨Or.inl rfl, ⟨Or.inl rfl, ⟨Or.inl rfl, ⟨Or.inl rfl, ⟨Or.inl rfl, ⟨Or.inr rfl, ⟨Or.inr rfl, ⟨Or.inr rfl, ⟨Or.inr rfl, ⟨Or.inl rfl, trivial⟩⟩⟩⟩⟩⟩⟩⟩⟩⟩⟩ ?_
            exact hj24
  · refine z_icmp_ge (pc := 42) (tgt := 130) dX9_isAhead_42 (by decide) (fun c30 => ?_) (fun c31 => ?_)
    · refine z_iload_n (pc := 130) dX9_isAhead_130 rfl ?_
      refine z_iconst (pc := 131) (2 : Int32) dX9_isAhead_131 (by decide) ?_
      refine z_icmp_ne (pc := 132) (tgt := 194) dX9_isAhead_132 (by decide) (fun c32 => ?_) (fun c33 => ?_)
      · refine z_iload (pc := 194) dX9_isAhead_194 rfl ?_
        refine z_aload_n (pc := 196) dX9_isAhead_196 rfl ?_
        refine z_getr (pc := 197) fdX9_37 (by decide) sm_0 rfl rfl dX9_isAhead_197 ?_
        refine z_iload (pc := 200) dX9_isAhead_200 rfl ?_
        refine z_aald (pc := 202) (fun j => 36 + j) (by decide) sm_35 (Or.inl rfl) smg_35 dX9_isAhead_202 (fun h34 => ?_)
        refine z_iconst (pc := 203) (1 : Int32) dX9_isAhead_203 (by decide) ?_
        refine z_iald (pc := 204) (smr_35 h34).2 (smr_35 h34).1 rfl dX9_isAhead_204 (fun h35 => ?_)
        refine z_imul (pc := 205) dX9_isAhead_205 ?_
        refine z_val (fun v36 => ?_)
        refine z_istore (pc := 206) (L' := [.ref 0, .int x1, .int x2, .int x3, .int v1, .int v2, .int v5, .int v8, .int v36, .int (0 : Int32), .null]) dX9_isAhead_206 (by decide) rfl ?_
        refine z_iload (pc := 208) dX9_isAhead_208 rfl ?_
        refine z_aload_n (pc := 210) dX9_isAhead_210 rfl ?_
        refine z_getr (pc := 211) fdX9_37 (by decide) sm_0 rfl rfl dX9_isAhead_211 ?_
        refine z_iload (pc := 214) dX9_isAhead_214 rfl ?_
        refine z_aald (pc := 216) (fun j => 36 + j) (by decide) sm_35 (Or.inl rfl) smg_35 dX9_isAhead_216 (fun h37 => ?_)
        refine z_iconst (pc := 217) (1 : Int32) dX9_isAhead_217 (by decide) ?_
        refine z_iald (pc := 218) (smr_35 h37).2 (smr_35 h37).1 rfl dX9_isAhead_218 (fun h38 => ?_)
        refine z_imul (pc := 219) dX9_isAhead_219 ?_
        refine z_val (fun v39 => ?_)
        refine z_istore (pc := 220) (L' := [.ref 0, .int x1, .int x2, .int x3, .int v1, .int v2, .int v5, .int v8, .int v36, .int v39, .null]) dX9_isAhead_220 (by decide) rfl ?_
        refine z_loc (L' := [.null, .int x1, .null, .null, .null, .null, .int v5, .int v8, .int v36, .int v39, .null]) ⟨Or.inl rfl, ⟨Or.inr rfl, ⟨Or.inl rfl, ⟨Or.inl rfl, ⟨Or.inl rfl, ⟨Or.inl rfl, ⟨Or.inr rfl, ⟨Or.inr rfl, ⟨Or.inr rfl, ⟨Or.inr rfl, ⟨Or.inl rfl, trivial⟩⟩⟩⟩⟩⟩⟩⟩⟩⟩⟩ ?_
        exact hj29 v36 v39 μ
      · refine z_aload_n (pc := 135) dX9_isAhead_135 rfl ?_
        refine z_getr (pc := 136) fdX9_31 (by decide) sm_0 rfl rfl dX9_isAhead_136 ?_
        refine z_iload_n (pc := 139) dX9_isAhead_139 rfl ?_
        refine z_bipush (pc := 140) (10 : Int32) dX9_isAhead_140 (by decide) ?_
        refine z_idivc (pc := 142) dX9_isAhead_142 (by decide) ?_
        refine z_bipush (pc := 143) (10 : Int32) dX9_isAhead_143 (by decide) ?_
        refine z_iremc (pc := 145) dX9_isAhead_145 (by decide) ?_
        refine z_aald (pc := 146) (fun j => 15 + j) (by decide) sm_14 (Or.inl rfl) smg_14 dX9_isAhead_146 (fun h40 => ?_)
        refine z_iconst (pc := 147) (4 : Int32) dX9_isAhead_147 (by decide) ?_
        refine z_iald (pc := 148) (smr_14 h40).2 (smr_14 h40).1 rfl dX9_isAhead_148 (fun h41 => ?_)
        refine z_aload_n (pc := 149) dX9_isAhead_149 rfl ?_
        refine z_getr (pc := 150) fdX9_31 (by decide) sm_0 rfl rfl dX9_isAhead_150 ?_
        refine z_iload_n (pc := 153) dX9_isAhead_153 rfl ?_
        refine z_bipush (pc := 154) (10 : Int32) dX9_isAhead_154 (by decide) ?_
        refine z_iremc (pc := 156) dX9_isAhead_156 (by decide) ?_
        refine z_aald (pc := 157) (fun j => 15 + j) (by decide) sm_14 (Or.inl rfl) smg_14 dX9_isAhead_157 (fun h42 => ?_)
        refine z_iconst (pc := 158) (4 : Int32) dX9_isAhead_158 (by decide) ?_
        refine z_iald (pc := 159) (smr_14 h42).2 (smr_14 h42).1 rfl dX9_isAhead_159 (fun h43 => ?_)
        refine z_iadd (pc := 160) dX9_isAhead_160 ?_
        refine z_val (fun v44 => ?_)
        refine z_istore (pc := 161) (L' := [.ref 0, .int x1, .int x2, .int x3, .int v1, .int v2, .int v5, .int v8, .int v44, .int (0 : Int32), .null]) dX9_isAhead_161 (by decide) rfl ?_
        refine z_aload_n (pc := 163) dX9_isAhead_163 rfl ?_
        refine z_getr (pc := 164) fdX9_31 (by decide) sm_0 rfl rfl dX9_isAhead_164 ?_
        refine z_iload_n (pc := 167) dX9_isAhead_167 rfl ?_
        refine z_bipush (pc := 168) (10 : Int32) dX9_isAhead_168 (by decide) ?_
        refine z_idivc (pc := 170) dX9_isAhead_170 (by decide) ?_
        refine z_bipush (pc := 171) (10 : Int32) dX9_isAhead_171 (by decide) ?_
        refine z_iremc (pc := 173) dX9_isAhead_173 (by decide) ?_
        refine z_aald (pc := 174) (fun j => 15 + j) (by decide) sm_14 (Or.inl rfl) smg_14 dX9_isAhead_174 (fun h45 => ?_)
        refine z_iconst (pc := 175) (4 : Int32) dX9_isAhead_175 (by decide) ?_
        refine z_iald (pc := 176) (smr_14 h45).2 (smr_14 h45).1 rfl dX9_isAhead_176 (fun h46 => ?_)
        refine z_aload_n (pc := 177) dX9_isAhead_177 rfl ?_
        refine z_getr (pc := 178) fdX9_31 (by decide) sm_0 rfl rfl dX9_isAhead_178 ?_
        refine z_iload_n (pc := 181) dX9_isAhead_181 rfl ?_
        refine z_bipush (pc := 182) (10 : Int32) dX9_isAhead_182 (by decide) ?_
        refine z_iremc (pc := 184) dX9_isAhead_184 (by decide) ?_
        refine z_aald (pc := 185) (fun j => 15 + j) (by decide) sm_14 (Or.inl rfl) smg_14 dX9_isAhead_185 (fun h47 => ?_)
        refine z_iconst (pc := 186) (4 : Int32) dX9_isAhead_186 (by decide) ?_
        refine z_iald (pc := 187) (smr_14 h47).2 (smr_14 h47).1 rfl dX9_isAhead_187 (fun h48 => ?_)
        refine z_iadd (pc := 188) dX9_isAhead_188 ?_
        refine z_val (fun v49 => ?_)
        refine z_istore (pc := 189) (L' := [.ref 0, .int x1, .int x2, .int x3, .int v1, .int v2, .int v5, .int v8, .int v44, .int v49, .null]) dX9_isAhead_189 (by decide) rfl ?_
        refine z_goto (pc := 191) (tgt := 222) dX9_isAhead_191 (by decide) ?_
        refine z_loc (L' := [.null, .int x1, .null, .null, .null, .null, .int v5, .int v8, .int v44, .int v49, .null]) ⟨Or.inl rfl, ⟨Or.inr rfl, ⟨Or.inl rfl, ⟨Or.inl rfl, ⟨Or.inl rfl, ⟨Or.inl rfl, ⟨Or.inr rfl, ⟨Or.inr rfl, ⟨Or.inr rfl, ⟨Or.inr rfl, ⟨Or.inl rfl, trivial⟩⟩⟩⟩⟩⟩⟩⟩⟩⟩⟩ ?_
        exact hj29 v44 v49 μ
    · refine z_aload_n (pc := 45) dX9_isAhead_45 rfl ?_
      refine z_getr (pc := 46) fdX9_52 (by decide) sm_0 rfl rfl dX9_isAhead_46 ?_
      refine z_iload_n (pc := 49) dX9_isAhead_49 rfl ?_
      refine z_bipush (pc := 50) (10 : Int32) dX9_isAhead_50 (by decide) ?_
      refine z_idivc (pc := 52) dX9_isAhead_52 (by decide) ?_
      refine z_bipush (pc := 53) (10 : Int32) dX9_isAhead_53 (by decide) ?_
      refine z_iremc (pc := 55) dX9_isAhead_55 (by decide) ?_
      refine z_aald (pc := 56) (fun j => 51 + j) (by decide) sm_50 (Or.inl rfl) smg_50 dX9_isAhead_56 (fun h50 => ?_)
      refine z_aload_n (pc := 57) dX9_isAhead_57 rfl ?_
      refine z_iload (pc := 58) dX9_isAhead_58 rfl ?_
      refine z_callV (As := [.int v1]) (pc := 60) (ret' := some .int) kvX9_226 (t9_asked _ _) (by decide) (by decide) sm_0  rfl rfl (Nat.le_of_ble_eq_true rfl) dX9_isAhead_60 (fun v51 μ52 => ?_)
      refine z_iald (pc := 63) (smr_50 h50).2 (smr_50 h50).1 rfl dX9_isAhead_63 (fun h53 => ?_)
      refine z_aload_n (pc := 64) dX9_isAhead_64 rfl ?_
      refine z_getr (pc := 65) fdX9_52 (by decide) sm_0 rfl rfl dX9_isAhead_65 ?_
      refine z_iload_n (pc := 68) dX9_isAhead_68 rfl ?_
      refine z_bipush (pc := 69) (10 : Int32) dX9_isAhead_69 (by decide) ?_
      refine z_iremc (pc := 71) dX9_isAhead_71 (by decide) ?_
      refine z_aald (pc := 72) (fun j => 51 + j) (by decide) sm_50 (Or.inl rfl) smg_50 dX9_isAhead_72 (fun h54 => ?_)
      refine z_aload_n (pc := 73) dX9_isAhead_73 rfl ?_
      refine z_iload (pc := 74) dX9_isAhead_74 rfl ?_
      refine z_callV (As := [.int v1]) (pc := 76) (ret' := some .int) kvX9_226 (t9_asked _ _) (by decide) (by decide) sm_0  rfl rfl (Nat.le_of_ble_eq_true rfl) dX9_isAhead_76 (fun v55 μ56 => ?_)
      refine z_iald (pc := 79) (smr_50 h54).2 (smr_50 h54).1 rfl dX9_isAhead_79 (fun h57 => ?_)
      refine z_isub (pc := 80) dX9_isAhead_80 ?_
      refine z_callS (As := [.int ((μ52 (51 + (zrem (x2 / (10 : Int32)) (10 : Int32)).toNatClampNeg) v51.toNatClampNeg) - (μ56 (51 + (zrem x2 (10 : Int32)).toNatClampNeg) v55.toNatClampNeg))]) (pc := 81) (ret' := some .int) ksX9_229 (t9_amount _ _) (by decide)  rfl rfl (Nat.le_of_ble_eq_true rfl) dX9_isAhead_81 (fun v58 μ59 => ?_)
      refine z_istore (pc := 84) (L' := [.ref 0, .int x1, .int x2, .int x3, .int v1, .int v2, .int v5, .int v8, .int v58, .int (0 : Int32), .null]) dX9_isAhead_84 (by decide) rfl ?_
      refine z_aload_n (pc := 86) dX9_isAhead_86 rfl ?_
      refine z_getr (pc := 87) fdX9_52 (by decide) sm_0 rfl rfl dX9_isAhead_87 ?_
      refine z_iload_n (pc := 90) dX9_isAhead_90 rfl ?_
      refine z_bipush (pc := 91) (10 : Int32) dX9_isAhead_91 (by decide) ?_
      refine z_idivc (pc := 93) dX9_isAhead_93 (by decide) ?_
      refine z_bipush (pc := 94) (10 : Int32) dX9_isAhead_94 (by decide) ?_
      refine z_iremc (pc := 96) dX9_isAhead_96 (by decide) ?_
      refine z_aald (pc := 97) (fun j => 51 + j) (by decide) sm_50 (Or.inl rfl) smg_50 dX9_isAhead_97 (fun h60 => ?_)
      refine z_aload_n (pc := 98) dX9_isAhead_98 rfl ?_
      refine z_iload (pc := 99) dX9_isAhead_99 rfl ?_
      refine z_callV (As := [.int v2]) (pc := 101) (ret' := some .int) kvX9_226 (t9_asked _ _) (by decide) (by decide) sm_0  rfl rfl (Nat.le_of_ble_eq_true rfl) dX9_isAhead_101 (fun v61 μ62 => ?_)
      refine z_iald (pc := 104) (smr_50 h60).2 (smr_50 h60).1 rfl dX9_isAhead_104 (fun h63 => ?_)
      refine z_aload_n (pc := 105) dX9_isAhead_105 rfl ?_
      refine z_getr (pc := 106) fdX9_52 (by decide) sm_0 rfl rfl dX9_isAhead_106 ?_
      refine z_iload_n (pc := 109) dX9_isAhead_109 rfl ?_
      refine z_bipush (pc := 110) (10 : Int32) dX9_isAhead_110 (by decide) ?_
      refine z_iremc (pc := 112) dX9_isAhead_112 (by decide) ?_
      refine z_aald (pc := 113) (fun j => 51 + j) (by decide) sm_50 (Or.inl rfl) smg_50 dX9_isAhead_113 (fun h64 => ?_)
      refine z_aload_n (pc := 114) dX9_isAhead_114 rfl ?_
      refine z_iload (pc := 115) dX9_isAhead_115 rfl ?_
      refine z_callV (As := [.int v2]) (pc := 117) (ret' := some .int) kvX9_226 (t9_asked _ _) (by decide) (by decide) sm_0  rfl rfl (Nat.le_of_ble_eq_true rfl) dX9_isAhead_117 (fun v65 μ66 => ?_)
      refine z_iald (pc := 120) (smr_50 h64).2 (smr_50 h64).1 rfl dX9_isAhead_120 (fun h67 => ?_)
      refine z_isub (pc := 121) dX9_isAhead_121 ?_
      refine z_callS (As := [.int ((μ62 (51 + (zrem (x3 / (10 : Int32)) (10 : Int32)).toNatClampNeg) v61.toNatClampNeg) - (μ66 (51 + (zrem x3 (10 : Int32)).toNatClampNeg) v65.toNatClampNeg))]) (pc := 122) (ret' := some .int) ksX9_229 (t9_amount _ _) (by decide)  rfl rfl (Nat.le_of_ble_eq_true rfl) dX9_isAhead_122 (fun v68 μ69 => ?_)
      refine z_istore (pc := 125) (L' := [.ref 0, .int x1, .int x2, .int x3, .int v1, .int v2, .int v5, .int v8, .int v58, .int v68, .null]) dX9_isAhead_125 (by decide) rfl ?_
      refine z_goto (pc := 127) (tgt := 222) dX9_isAhead_127 (by decide) ?_
      refine z_loc (L' := [.null, .int x1, .null, .null, .null, .null, .int v5, .int v8, .int v58, .int v68, .null]) ⟨Or.inl rfl, ⟨Or.inr rfl, ⟨Or.inl rfl, ⟨Or.inl rfl, ⟨Or.inl rfl, ⟨Or.inl rfl, ⟨Or.inr rfl, ⟨Or.inr rfl, ⟨Or.inr rfl, ⟨Or.inr rfl, ⟨Or.inl rfl, trivial⟩⟩⟩⟩⟩⟩⟩⟩⟩⟩⟩ ?_
      exact hj29 v58 v68 μ69
def f9_chosen_L4 (x1 : Int32) (K108 : Int32 → zMem → zRes) : Nat → Int32 → Int32 → zMem → zRes
  | 0, _, _, _ => none
  | n + 1, x2, x3, μ => zin (2 : Int32) 6 (if ((64 : Int32) * (μ 4 (2 : Int32).toNatClampNeg)) ≤ x3 then K108 x2 μ else zlet (x3 / (64 : Int32)) (fun (v4 : Int32) => zlet (zrem (x3 / (8 : Int32)) (8 : Int32)) (fun (v5 : Int32) => zlet (zrem x3 (8 : Int32)) (fun (v6 : Int32) => zlet (fun (x2_7 : Int32) (μ8 : zMem) => f9_chosen_L4 x1 K108 n x2_7 (x3 + (1 : Int32)) μ8) (fun j9 => if v6 ≤ v5 then j9 x2 μ else zin (1 : Int32) 6 (if (μ 4 (1 : Int32).toNatClampNeg) ≤ v6 then j9 x2 μ else bnd0 (f9_canBe v4 v5 v6 μ) (fun (v15 : Int32) (μ16 : zMem) => if v15 = 0 then j9 x2 μ16 else zlet (fun (μ19 : zMem) => bnd0 (f9_coded v4 v5 v6 μ19) (fun (v20 : Int32) (μ21 : zMem) => j9 v20 μ21)) (fun j22 => if x2 = (-1 : Int32) then j22 μ16 else bnd0 (f9_coded v4 v5 v6 μ16) (fun (v25 : Int32) (μ26 : zMem) => bnd0 (f9_isAhead x1 v25 x2 μ26) (fun (v27 : Int32) (μ28 : zMem) => if v27 = 0 then j9 x2 μ28 else j22 μ28))))))))))
def f9_chosen (x1 : Int32) (μ : zMem) : zRes := f9_chosen_L4 x1 (fun (x2_31 : Int32) (μ32 : zMem) => some (0, x2_31, μ32)) zF (-1 : Int32) (0 : Int32) μ
set_option maxHeartbeats 1000000 in
theorem t9_chosen_L4 (x1 : Int32) (K108 : Int32 → zMem → zRes) (hK108 : ∀ (x2 : Int32) (μ : zMem), zR yX9_chosen cX9_chosen 7 (some .int) 5 108 [.null, .null, .int x2, .null, .null, .null, .null] [] 1134 SM μ (K108 x2 μ)) : ∀ (n : Nat) (x2 : Int32) (x3 : Int32) (μ : zMem), zR yX9_chosen cX9_chosen 7 (some .int) 5 4 [.ref 0, .int x1, .int x2, .int x3, .null, .null, .null] [] 1134 SM μ (f9_chosen_L4 x1 K108 n x2 x3 μ) := by
  intro n
  induction n with
  | zero => intro x2 x3 μ; intro q hq; cases hq
  | succ n ih =>
    intro x2 x3 μ
    unfold f9_chosen_L4
    refine z_iload_n (pc := 4) dX9_chosen_4 rfl ?_
    refine z_bipush (pc := 5) (64 : Int32) dX9_chosen_5 (by decide) ?_
    refine z_aload_n (pc := 7) dX9_chosen_7 rfl ?_
    refine z_getr (pc := 8) fdX9_23 (by decide) sm_0 rfl rfl dX9_chosen_8 ?_
    refine z_iconst (pc := 11) (2 : Int32) dX9_chosen_11 (by decide) ?_
    refine z_iald (pc := 12) (by decide) sm_4 rfl dX9_chosen_12 (fun h1 => ?_)
    refine z_imul (pc := 13) dX9_chosen_13 ?_
    refine z_icmp_ge (pc := 14) (tgt := 108) dX9_chosen_14 (by decide) (fun c2 => ?_) (fun c3 => ?_)
    · refine z_loc (L' := [.null, .null, .int x2, .null, .null, .null, .null]) ⟨Or.inl rfl, ⟨Or.inl rfl, ⟨Or.inr rfl, ⟨Or.inl rfl, ⟨Or.inl rfl, ⟨Or.inl rfl, ⟨Or.inl rfl, trivial⟩⟩⟩⟩⟩⟩⟩ ?_
      exact hK108 x2 μ
    · refine z_iload_n (pc := 17) dX9_chosen_17 rfl ?_
      refine z_bipush (pc := 18) (64 : Int32) dX9_chosen_18 (by decide) ?_
      refine z_idivc (pc := 20) dX9_chosen_20 (by decide) ?_
      refine z_val (fun v4 => ?_)
      refine z_istore (pc := 21) (L' := [.ref 0, .int x1, .int x2, .int x3, .int v4, .null, .null]) dX9_chosen_21 (by decide) rfl ?_
      refine z_iload_n (pc := 23) dX9_chosen_23 rfl ?_
      refine z_bipush (pc := 24) (8 : Int32) dX9_chosen_24 (by decide) ?_
      refine z_idivc (pc := 26) dX9_chosen_26 (by decide) ?_
      refine z_bipush (pc := 27) (8 : Int32) dX9_chosen_27 (by decide) ?_
      refine z_iremc (pc := 29) dX9_chosen_29 (by decide) ?_
      refine z_val (fun v5 => ?_)
      refine z_istore (pc := 30) (L' := [.ref 0, .int x1, .int x2, .int x3, .int v4, .int v5, .null]) dX9_chosen_30 (by decide) rfl ?_
      refine z_iload_n (pc := 32) dX9_chosen_32 rfl ?_
      refine z_bipush (pc := 33) (8 : Int32) dX9_chosen_33 (by decide) ?_
      refine z_iremc (pc := 35) dX9_chosen_35 (by decide) ?_
      refine z_val (fun v6 => ?_)
      refine z_istore (pc := 36) (L' := [.ref 0, .int x1, .int x2, .int x3, .int v4, .int v5, .int v6]) dX9_chosen_36 (by decide) rfl ?_
      refine z_iload (pc := 38) dX9_chosen_38 rfl ?_
      refine z_iload (pc := 40) dX9_chosen_40 rfl ?_
      refine z_let (fun (j : Int32 → zMem → zRes) => ∀ (x2_7 : Int32) (μ8 : zMem), zR yX9_chosen cX9_chosen 7 (some .int) 5 102 [.ref 0, .int x1, .int x2_7, .int x3, .null, .null, .null] [] 1134 SM μ8 (j x2_7 μ8)) ?_ (fun j9 hj9 => ?_)
      · intro x2_7 μ8
        refine z_iinc (pc := 102) (v := x3 + (1 : Int32)) (L' := [.ref 0, .int x1, .int x2_7, .int (x3 + (1 : Int32)), .null, .null, .null]) dX9_chosen_102 (by decide) rfl (congrArg _ (by decide)) rfl ?_
        refine z_goto (pc := 105) (tgt := 4) dX9_chosen_105 (by decide) ?_
        exact ih x2_7 (x3 + (1 : Int32)) μ8
      · refine z_icmp_ge (pc := 42) (tgt := 102) dX9_chosen_42 (by decide) (fun c10 => ?_) (fun c11 => ?_)
        · refine z_loc (L' := [.ref 0, .int x1, .int x2, .int x3, .null, .null, .null]) ⟨Or.inr rfl, ⟨Or.inr rfl, ⟨Or.inr rfl, ⟨Or.inr rfl, ⟨Or.inl rfl, ⟨Or.inl rfl, ⟨Or.inl rfl, trivial⟩⟩⟩⟩⟩⟩⟩ ?_
          exact hj9 x2 μ
        · refine z_iload (pc := 45) dX9_chosen_45 rfl ?_
          refine z_aload_n (pc := 47) dX9_chosen_47 rfl ?_
          refine z_getr (pc := 48) fdX9_23 (by decide) sm_0 rfl rfl dX9_chosen_48 ?_
          refine z_iconst (pc := 51) (1 : Int32) dX9_chosen_51 (by decide) ?_
          refine z_iald (pc := 52) (by decide) sm_4 rfl dX9_chosen_52 (fun h12 => ?_)
          refine z_icmp_ge (pc := 53) (tgt := 102) dX9_chosen_53 (by decide) (fun c13 => ?_) (fun c14 => ?_)
          · refine z_loc (L' := [.ref 0, .int x1, .int x2, .int x3, .null, .null, .null]) ⟨Or.inr rfl, ⟨Or.inr rfl, ⟨Or.inr rfl, ⟨Or.inr rfl, ⟨Or.inl rfl, ⟨Or.inl rfl, ⟨Or.inl rfl, trivial⟩⟩⟩⟩⟩⟩⟩ ?_
            exact hj9 x2 μ
          · refine z_aload_n (pc := 56) dX9_chosen_56 rfl ?_
            refine z_iload (pc := 57) dX9_chosen_57 rfl ?_
            refine z_iload (pc := 59) dX9_chosen_59 rfl ?_
            refine z_iload (pc := 61) dX9_chosen_61 rfl ?_
            refine z_callV (As := [.int v4, .int v5, .int v6]) (pc := 63) (ret' := some .boolean) kvX9_275 (t9_canBe _ _ _ _) (by decide) (by decide) sm_0  rfl rfl (Nat.le_of_ble_eq_true rfl) dX9_chosen_63 (fun v15 μ16 => ?_)
            refine z_if_eq (pc := 66) (tgt := 102) dX9_chosen_66 (by decide) (fun c17 => ?_) (fun c18 => ?_)
            · refine z_loc (L' := [.ref 0, .int x1, .int x2, .int x3, .null, .null, .null]) ⟨Or.inr rfl, ⟨Or.inr rfl, ⟨Or.inr rfl, ⟨Or.inr rfl, ⟨Or.inl rfl, ⟨Or.inl rfl, ⟨Or.inl rfl, trivial⟩⟩⟩⟩⟩⟩⟩ ?_
              exact hj9 x2 μ16
            · refine z_iload_n (pc := 69) dX9_chosen_69 rfl ?_
              refine z_iconst (pc := 70) (-1 : Int32) dX9_chosen_70 (by decide) ?_
              refine z_let (fun (j : zMem → zRes) => ∀ (μ19 : zMem), zR yX9_chosen cX9_chosen 7 (some .int) 5 92 [.ref 0, .int x1, .null, .int x3, .int v4, .int v5, .int v6] [] 1134 SM μ19 (j μ19)) ?_ (fun j22 hj22 => ?_)
              · intro μ19
                refine z_iload (pc := 92) dX9_chosen_92 rfl ?_
                refine z_iload (pc := 94) dX9_chosen_94 rfl ?_
                refine z_iload (pc := 96) dX9_chosen_96 rfl ?_
                refine z_callS (As := [.int v4, .int v5, .int v6]) (pc := 98) (ret' := some .int) ksX9_296 (t9_coded _ _ _ _) (by decide)  rfl rfl (Nat.le_of_ble_eq_true rfl) dX9_chosen_98 (fun v20 μ21 => ?_)
                refine z_istore_n (pc := 101) (L' := [.ref 0, .int x1, .int v20, .int x3, .int v4, .int v5, .int v6]) dX9_chosen_101 (by decide) rfl ?_
                refine z_loc (L' := [.ref 0, .int x1, .int v20, .int x3, .null, .null, .null]) ⟨Or.inr rfl, ⟨Or.inr rfl, ⟨Or.inr rfl, ⟨Or.inr rfl, ⟨Or.inl rfl, ⟨Or.inl rfl, ⟨Or.inl rfl, trivial⟩⟩⟩⟩⟩⟩⟩ ?_
                exact hj9 v20 μ21
              · refine z_icmp_eq (pc := 71) (tgt := 92) dX9_chosen_71 (by decide) (fun c23 => ?_) (fun c24 => ?_)
                · refine z_loc (L' := [.ref 0, .int x1, .null, .int x3, .int v4, .int v5, .int v6]) ⟨Or.inr rfl, ⟨Or.inr rfl, ⟨Or.inl rfl, ⟨Or.inr rfl, ⟨Or.inr rfl, ⟨Or.inr rfl, ⟨Or.inr rfl, trivial⟩⟩⟩⟩⟩⟩⟩ ?_
                  exact hj22 μ16
                · refine z_aload_n (pc := 74) dX9_chosen_74 rfl ?_
                  refine z_iload_n (pc := 75) dX9_chosen_75 rfl ?_
                  refine z_iload (pc := 76) dX9_chosen_76 rfl ?_
                  refine z_iload (pc := 78) dX9_chosen_78 rfl ?_
                  refine z_iload (pc := 80) dX9_chosen_80 rfl ?_
                  refine z_callS (As := [.int v4, .int v5, .int v6]) (pc := 82) (ret' := some .int) ksX9_296 (t9_coded _ _ _ _) (by decide)  rfl rfl (Nat.le_of_ble_eq_true rfl) dX9_chosen_82 (fun v25 μ26 => ?_)
                  refine z_iload_n (pc := 85) dX9_chosen_85 rfl ?_
                  refine z_callV (As := [.int x1, .int v25, .int x2]) (pc := 86) (ret' := some .boolean) kvX9_302 (t9_isAhead _ _ _ _) (by decide) (by decide) sm_0  rfl rfl (Nat.le_of_ble_eq_true rfl) dX9_chosen_86 (fun v27 μ28 => ?_)
                  refine z_if_eq (pc := 89) (tgt := 102) dX9_chosen_89 (by decide) (fun c29 => ?_) (fun c30 => ?_)
                  · refine z_loc (L' := [.ref 0, .int x1, .int x2, .int x3, .null, .null, .null]) ⟨Or.inr rfl, ⟨Or.inr rfl, ⟨Or.inr rfl, ⟨Or.inr rfl, ⟨Or.inl rfl, ⟨Or.inl rfl, ⟨Or.inl rfl, trivial⟩⟩⟩⟩⟩⟩⟩ ?_
                    exact hj9 x2 μ28
                  · refine z_loc (L' := [.ref 0, .int x1, .null, .int x3, .int v4, .int v5, .int v6]) ⟨Or.inr rfl, ⟨Or.inr rfl, ⟨Or.inl rfl, ⟨Or.inr rfl, ⟨Or.inr rfl, ⟨Or.inr rfl, ⟨Or.inr rfl, trivial⟩⟩⟩⟩⟩⟩⟩ ?_
                    exact hj22 μ28
set_option maxHeartbeats 1000000 in
theorem t9_chosen (x1 : Int32) (μ : zMem) : zMR yX9_chosen cX9_chosen 7 (some .int) 5 [.ref 0, .int x1] 1134 SM μ (f9_chosen x1 μ) := by
  refine zMR_of (by decide +kernel) rfl (Nat.le_of_ble_eq_true rfl) (L := [.ref 0, .int x1, .null, .null, .null, .null, .null]) rfl ?_
  unfold f9_chosen
  refine z_iconst (pc := 0) (-1 : Int32) dX9_chosen_0 (by decide) ?_
  refine z_istore_n (pc := 1) (L' := [.ref 0, .int x1, .int (-1 : Int32), .null, .null, .null, .null]) dX9_chosen_1 (by decide) rfl ?_
  refine z_iconst (pc := 2) (0 : Int32) dX9_chosen_2 (by decide) ?_
  refine z_istore_n (pc := 3) (L' := [.ref 0, .int x1, .int (-1 : Int32), .int (0 : Int32), .null, .null, .null]) dX9_chosen_3 (by decide) rfl ?_
  refine t9_chosen_L4 _ _ (fun x2_31 μ32 => ?_) zF _ _ _
  · refine z_iload_n (pc := 108) dX9_chosen_108 rfl ?_
    exact z_iret (pc := 109) rfl dX9_chosen_109
def f9_runs_L9 (K39 : zMem → zRes) : Nat → Int32 → zMem → zRes
  | 0, _, _ => none
  | n + 1, x4, μ => if (4 : Int32) ≤ x4 then K39 μ else zlet (fun (s5 : Int32) => zin x4 4 (zlet (zset μ 1128 x4.toNatClampNeg s5) (fun (μ7 : zMem) => f9_runs_L9 K39 n (x4 + (1 : Int32)) μ7))) (fun j8 => if x4 = (3 : Int32) then j8 (-1 : Int32) else j8 (0 : Int32))
def f9_runs_L142 (μ : zMem) (K197 : Int32 → zRes) : Nat → Int32 → Int32 → zRes
  | 0, _, _ => none
  | n + 1, x5, x7 => zin (2 : Int32) 6 (if (μ 4 (2 : Int32).toNatClampNeg) ≤ x7 then K197 x5 else zlet (fun (s23 : Int32) => f9_runs_L142 μ K197 n s23 (x7 + (1 : Int32))) (fun j24 => zlet (j24 (1 : Int32)) (fun j25 => if x5 = 0 then zin x7 10 (zlet (j24 (0 : Int32)) (fun j29 => if (μ 92 x7.toNatClampNeg) = 0 then zin x7 10 (zin (2 : Int32) 4 (if (μ (36 + x7.toNatClampNeg) (2 : Int32).toNatClampNeg) < (μ 0 20) then j29 else j25)) else j29)) else j25)))
def f9_runs_L204 (x1 : Int32) (K300 : zMem → zRes) : Nat → Int32 → zMem → zRes
  | 0, _, _ => none
  | n + 1, x7, μ => if x7 = (-1 : Int32) then K300 μ else zin (0 : Int32) 4 (zin (x7 / (100 : Int32)) 10 (zin (0 : Int32) 4 (zin (0 : Int32) 4 (zlet (zset μ 1128 (0 : Int32).toNatClampNeg ((μ 1128 (0 : Int32).toNatClampNeg) + (μ (36 + (x7 / (100 : Int32)).toNatClampNeg) (0 : Int32).toNatClampNeg))) (fun (μ45 : zMem) => zin (1 : Int32) 4 (zin (1 : Int32) 4 (zlet (zset μ45 1128 (1 : Int32).toNatClampNeg ((μ45 1128 (1 : Int32).toNatClampNeg) + (1 : Int32))) (fun (μ48 : zMem) => zin (3 : Int32) 4 (zlet (fun (s50 : Int32) => zin (3 : Int32) 4 (zlet (zset μ48 1128 (3 : Int32).toNatClampNeg s50) (fun (μ52 : zMem) => bnd0 (f9_works (x7 / (100 : Int32)) (zrem (x7 / (10 : Int32)) (10 : Int32)) (zrem x7 (10 : Int32)) μ52) (fun (v53 : Int32) (μ54 : zMem) => bnd0 (f9_chosen x1 μ54) (fun (v55 : Int32) (μ56 : zMem) => f9_runs_L204 x1 K300 n v55 μ56))))) (fun j57 => if (μ48 1128 (3 : Int32).toNatClampNeg) = (-1 : Int32) then j57 x7 else zin (3 : Int32) 4 (j57 (μ48 1128 (3 : Int32).toNatClampNeg))))))))))))
def f9_runs_L47 (x1 : Int32) (x2 : Int32) (x3 : Int32) (K338 : zMem → zRes) : Nat → Int32 → zMem → zRes
  | 0, _, _ => none
  | n + 1, x4, μ => if x2 ≤ x4 then K338 μ else zlet (fun (μ15 : zMem) => zlet (zset μ15 0 30 (-1 : Int32)) (fun (μ16 : zMem) => zlet (fun (μ17 : zMem) => zin (1 : Int32) 4 (zlet (μ17 1128 (1 : Int32).toNatClampNeg) (fun (v19 : Int32) => f9_runs_L142 μ17 (fun (x5_36 : Int32) => bnd0 (f9_chosen x1 μ17) (fun (v37 : Int32) (μ38 : zMem) => f9_runs_L204 x1 (fun (μ61 : zMem) => zlet (fun (μ62 : zMem) => f9_runs_L47 x1 x2 x3 K338 n (x4 + (1 : Int32)) μ62) (fun j63 => if (μ61 0 31) = (-1 : Int32) then if x5_36 = 0 then j63 μ61 else zin (1 : Int32) 4 (if (μ61 1128 (1 : Int32).toNatClampNeg) = v19 then zlet (zset μ61 0 31 (μ61 0 20)) (fun (μ71 : zMem) => j63 μ71) else j63 μ61) else j63 μ61)) zF v37 μ38)) zF (0 : Int32) (0 : Int32)))) (fun j72 => if x3 = 0 then j72 μ16 else zin (0 : Int32) 6 (if (μ16 4 (0 : Int32).toNatClampNeg) ≤ 0 then j72 μ16 else zlet (zset μ16 0 45 (((μ16 0 45) * (1103515245 : Int32)) + (12345 : Int32))) (fun (μ78 : zMem) => zin (0 : Int32) 6 (znz (μ78 4 (0 : Int32).toNatClampNeg) (zlet (zset μ78 0 30 (zrem ((zshr (μ78 0 45) (16 : Int32)) &&& (32767 : Int32)) (μ78 4 (0 : Int32).toNatClampNeg))) (fun (μ81 : zMem) => j72 μ81)))))))) (fun j82 => if x4 ≤ 0 then j82 μ else zlet (zset μ 0 20 ((μ 0 20) + (1 : Int32))) (fun (μ85 : zMem) => bnd0 (f9_dawns μ85) (fun (v86 : Int32) (μ87 : zMem) => j82 μ87)))
def f9_runs_L346 (K379 : zMem → zRes) : Nat → Int32 → zMem → zRes
  | 0, _, _ => none
  | n + 1, x4, μ => zin (2 : Int32) 6 (if (μ 4 (2 : Int32).toNatClampNeg) ≤ x4 then K379 μ else zin (2 : Int32) 4 (zin x4 10 (zin (2 : Int32) 4 (zlet (zset μ 1128 (2 : Int32).toNatClampNeg ((μ 1128 (2 : Int32).toNatClampNeg) + (μ 92 x4.toNatClampNeg))) (fun (μ96 : zMem) => f9_runs_L346 K379 n (x4 + (1 : Int32)) μ96)))))
def f9_runs (x1 : Int32) (x2 : Int32) (x3 : Int32) (μ : zMem) : zRes := bnd0 (f9_lays (0 : Int32) (0 : Int32) μ) (fun (v1 : Int32) (μ2 : zMem) => f9_runs_L9 (fun (μ11 : zMem) => zlet (zset μ11 0 31 (-1 : Int32)) (fun (μ12 : zMem) => f9_runs_L47 x1 x2 x3 (fun (μ88 : zMem) => zlet (zset μ88 0 30 (-1 : Int32)) (fun (μ89 : zMem) => f9_runs_L346 (fun (μ97 : zMem) => bnd0 (f9_lays (0 : Int32) (1 : Int32) μ97) (fun (v98 : Int32) (μ99 : zMem) => some (0, 0, μ99))) zF (0 : Int32) μ89)) zF (0 : Int32) μ12)) zF (0 : Int32) μ2)
set_option maxHeartbeats 1000000 in
theorem t9_runs_L9 (x1 : Int32) (x2 : Int32) (x3 : Int32) (K39 : zMem → zRes) (hK39 : ∀ (μ : zMem), zR yX9_runs cX9_runs 8 (none) 6 39 [.ref 0, .int x1, .int x2, .int x3, .null, .null, .null, .null] [] 1134 SM μ (K39 μ)) : ∀ (n : Nat) (x4 : Int32) (μ : zMem), zR yX9_runs cX9_runs 8 (none) 6 9 [.ref 0, .int x1, .int x2, .int x3, .int x4, .null, .null, .null] [] 1134 SM μ (f9_runs_L9 K39 n x4 μ) := by
  intro n
  induction n with
  | zero => intro x4 μ; intro q hq; cases hq
  | succ n ih =>
    intro x4 μ
    unfold f9_runs_L9
    refine z_iload (pc := 9) dX9_runs_9 rfl ?_
    refine z_iconst (pc := 11) (4 : Int32) dX9_runs_11 (by decide) ?_
    refine z_icmp_ge (pc := 12) (tgt := 39) dX9_runs_12 (by decide) (fun c3 => ?_) (fun c4 => ?_)
    · refine z_loc (L' := [.ref 0, .int x1, .int x2, .int x3, .null, .null, .null, .null]) ⟨Or.inr rfl, ⟨Or.inr rfl, ⟨Or.inr rfl, ⟨Or.inr rfl, ⟨Or.inl rfl, ⟨Or.inl rfl, ⟨Or.inl rfl, ⟨Or.inl rfl, trivial⟩⟩⟩⟩⟩⟩⟩⟩ ?_
      exact hK39 μ
    · refine z_aload_n (pc := 15) dX9_runs_15 rfl ?_
      refine z_getr (pc := 16) fdX9_88 (by decide) sm_0 rfl rfl dX9_runs_16 ?_
      refine z_iload (pc := 19) dX9_runs_19 rfl ?_
      refine z_iload (pc := 21) dX9_runs_21 rfl ?_
      refine z_iconst (pc := 23) (3 : Int32) dX9_runs_23 (by decide) ?_
      refine z_let (fun (j : Int32 → zRes) => ∀ (s5 : Int32), zR yX9_runs cX9_runs 8 (none) 6 32 [.ref 0, .int x1, .int x2, .int x3, .int x4, .null, .null, .null] [.int s5, .int x4, .ref 1128] 1134 SM μ (j s5)) ?_ (fun j8 hj8 => ?_)
      · intro s5
        refine z_iast (pc := 32) (by decide) sm_1128 rfl dX9_runs_32 (fun h6 => ?_)
        refine z_mem (fun μ7 => ?_)
        refine z_iinc (pc := 33) (v := x4 + (1 : Int32)) (L' := [.ref 0, .int x1, .int x2, .int x3, .int (x4 + (1 : Int32)), .null, .null, .null]) dX9_runs_33 (by decide) rfl (congrArg _ (by decide)) rfl ?_
        refine z_goto (pc := 36) (tgt := 9) dX9_runs_36 (by decide) ?_
        exact ih (x4 + (1 : Int32)) μ7
      · refine z_icmp_ne (pc := 24) (tgt := 31) dX9_runs_24 (by decide) (fun c9 => ?_) (fun c10 => ?_)
        · refine z_iconst (pc := 31) (0 : Int32) dX9_runs_31 (by decide) ?_
          exact hj8 (0 : Int32)
        · refine z_iconst (pc := 27) (-1 : Int32) dX9_runs_27 (by decide) ?_
          refine z_goto (pc := 28) (tgt := 32) dX9_runs_28 (by decide) ?_
          exact hj8 (-1 : Int32)
set_option maxHeartbeats 1000000 in
theorem t9_runs_L142 (x1 : Int32) (x2 : Int32) (x3 : Int32) (x4 : Int32) (x6 : Int32) (μ : zMem) (K197 : Int32 → zRes) (hK197 : ∀ (x5 : Int32), zR yX9_runs cX9_runs 8 (none) 6 197 [.ref 0, .int x1, .int x2, .int x3, .int x4, .int x5, .int x6, .null] [] 1134 SM μ (K197 x5)) : ∀ (n : Nat) (x5 : Int32) (x7 : Int32), zR yX9_runs cX9_runs 8 (none) 6 142 [.ref 0, .int x1, .int x2, .int x3, .int x4, .int x5, .int x6, .int x7] [] 1134 SM μ (f9_runs_L142 μ K197 n x5 x7) := by
  intro n
  induction n with
  | zero => intro x5 x7; intro q hq; cases hq
  | succ n ih =>
    intro x5 x7
    unfold f9_runs_L142
    refine z_iload (pc := 142) dX9_runs_142 rfl ?_
    refine z_aload_n (pc := 144) dX9_runs_144 rfl ?_
    refine z_getr (pc := 145) fdX9_23 (by decide) sm_0 rfl rfl dX9_runs_145 ?_
    refine z_iconst (pc := 148) (2 : Int32) dX9_runs_148 (by decide) ?_
    refine z_iald (pc := 149) (by decide) sm_4 rfl dX9_runs_149 (fun h20 => ?_)
    refine z_icmp_ge (pc := 150) (tgt := 197) dX9_runs_150 (by decide) (fun c21 => ?_) (fun c22 => ?_)
    · refine z_loc (L' := [.ref 0, .int x1, .int x2, .int x3, .int x4, .int x5, .int x6, .null]) ⟨Or.inr rfl, ⟨Or.inr rfl, ⟨Or.inr rfl, ⟨Or.inr rfl, ⟨Or.inr rfl, ⟨Or.inr rfl, ⟨Or.inr rfl, ⟨Or.inl rfl, trivial⟩⟩⟩⟩⟩⟩⟩⟩ ?_
      exact hK197 x5
    · refine z_iload (pc := 153) dX9_runs_153 rfl ?_
      refine z_let (fun (j : Int32 → zRes) => ∀ (s23 : Int32), zR yX9_runs cX9_runs 8 (none) 6 189 [.ref 0, .int x1, .int x2, .int x3, .int x4, .null, .int x6, .int x7] [.int s23] 1134 SM μ (j s23)) ?_ (fun j24 hj24 => ?_)
      · intro s23
        refine z_istore (pc := 189) (L' := [.ref 0, .int x1, .int x2, .int x3, .int x4, .int s23, .int x6, .int x7]) dX9_runs_189 (by decide) rfl ?_
        refine z_iinc (pc := 191) (v := x7 + (1 : Int32)) (L' := [.ref 0, .int x1, .int x2, .int x3, .int x4, .int s23, .int x6, .int (x7 + (1 : Int32))]) dX9_runs_191 (by decide) rfl (congrArg _ (by decide)) rfl ?_
        refine z_goto (pc := 194) (tgt := 142) dX9_runs_194 (by decide) ?_
        exact ih s23 (x7 + (1 : Int32))
      · refine z_let (fun (j : zRes) => zR yX9_runs cX9_runs 8 (none) 6 184 [.ref 0, .int x1, .int x2, .int x3, .int x4, .null, .int x6, .int x7] [] 1134 SM μ (j)) ?_ (fun j25 hj25 => ?_)
        · refine z_iconst (pc := 184) (1 : Int32) dX9_runs_184 (by decide) ?_
          refine z_goto (pc := 185) (tgt := 189) dX9_runs_185 (by decide) ?_
          exact hj24 (1 : Int32)
        · refine z_if_ne (pc := 155) (tgt := 184) dX9_runs_155 (by decide) (fun c26 => ?_) (fun c27 => ?_)
          · refine z_loc (L' := [.ref 0, .int x1, .int x2, .int x3, .int x4, .null, .int x6, .int x7]) ⟨Or.inr rfl, ⟨Or.inr rfl, ⟨Or.inr rfl, ⟨Or.inr rfl, ⟨Or.inr rfl, ⟨Or.inl rfl, ⟨Or.inr rfl, ⟨Or.inr rfl, trivial⟩⟩⟩⟩⟩⟩⟩⟩ ?_
            exact hj25
          · refine z_aload_n (pc := 158) dX9_runs_158 rfl ?_
            refine z_getr (pc := 159) fdX9_61 (by decide) sm_0 rfl rfl dX9_runs_159 ?_
            refine z_iload (pc := 162) dX9_runs_162 rfl ?_
            refine z_iald (pc := 164) (by decide) sm_92 rfl dX9_runs_164 (fun h28 => ?_)
            refine z_let (fun (j : zRes) => zR yX9_runs cX9_runs 8 (none) 6 188 [.ref 0, .int x1, .int x2, .int x3, .int x4, .null, .int x6, .int x7] [] 1134 SM μ (j)) ?_ (fun j29 hj29 => ?_)
            · refine z_iconst (pc := 188) (0 : Int32) dX9_runs_188 (by decide) ?_
              exact hj24 (0 : Int32)
            · refine z_if_ne (pc := 165) (tgt := 188) dX9_runs_165 (by decide) (fun c30 => ?_) (fun c31 => ?_)
              · refine z_loc (L' := [.ref 0, .int x1, .int x2, .int x3, .int x4, .null, .int x6, .int x7]) ⟨Or.inr rfl, ⟨Or.inr rfl, ⟨Or.inr rfl, ⟨Or.inr rfl, ⟨Or.inr rfl, ⟨Or.inl rfl, ⟨Or.inr rfl, ⟨Or.inr rfl, trivial⟩⟩⟩⟩⟩⟩⟩⟩ ?_
                exact hj29
              · refine z_aload_n (pc := 168) dX9_runs_168 rfl ?_
                refine z_geti (pc := 169) fdX9_198 (by decide) sm_0 rfl dX9_runs_169 ?_
                refine z_aload_n (pc := 172) dX9_runs_172 rfl ?_
                refine z_getr (pc := 173) fdX9_37 (by decide) sm_0 rfl rfl dX9_runs_173 ?_
                refine z_iload (pc := 176) dX9_runs_176 rfl ?_
                refine z_aald (pc := 178) (fun j => 36 + j) (by decide) sm_35 (Or.inl rfl) smg_35 dX9_runs_178 (fun h32 => ?_)
                refine z_iconst (pc := 179) (2 : Int32) dX9_runs_179 (by decide) ?_
                refine z_iald (pc := 180) (smr_35 h32).2 (smr_35 h32).1 rfl dX9_runs_180 (fun h33 => ?_)
                refine z_icmp_gt (pc := 181) (tgt := 188) dX9_runs_181 (by decide) (fun c34 => ?_) (fun c35 => ?_)
                · refine z_loc (L' := [.ref 0, .int x1, .int x2, .int x3, .int x4, .null, .int x6, .int x7]) ⟨Or.inr rfl, ⟨Or.inr rfl, ⟨Or.inr rfl, ⟨Or.inr rfl, ⟨Or.inr rfl, ⟨Or.inl rfl, ⟨Or.inr rfl, ⟨Or.inr rfl, trivial⟩⟩⟩⟩⟩⟩⟩⟩ ?_
                  exact hj29
                · refine z_loc (L' := [.ref 0, .int x1, .int x2, .int x3, .int x4, .null, .int x6, .int x7]) ⟨Or.inr rfl, ⟨Or.inr rfl, ⟨Or.inr rfl, ⟨Or.inr rfl, ⟨Or.inr rfl, ⟨Or.inl rfl, ⟨Or.inr rfl, ⟨Or.inr rfl, trivial⟩⟩⟩⟩⟩⟩⟩⟩ ?_
                  exact hj25
set_option maxHeartbeats 1000000 in
theorem t9_runs_L204 (x1 : Int32) (x2 : Int32) (x3 : Int32) (x4 : Int32) (x5 : Int32) (x6 : Int32) (K300 : zMem → zRes) (hK300 : ∀ (μ : zMem), zR yX9_runs cX9_runs 8 (none) 6 300 [.ref 0, .int x1, .int x2, .int x3, .int x4, .int x5, .int x6, .null] [] 1134 SM μ (K300 μ)) : ∀ (n : Nat) (x7 : Int32) (μ : zMem), zR yX9_runs cX9_runs 8 (none) 6 204 [.ref 0, .int x1, .int x2, .int x3, .int x4, .int x5, .int x6, .int x7] [] 1134 SM μ (f9_runs_L204 x1 K300 n x7 μ) := by
  intro n
  induction n with
  | zero => intro x7 μ; intro q hq; cases hq
  | succ n ih =>
    intro x7 μ
    unfold f9_runs_L204
    refine z_iload (pc := 204) dX9_runs_204 rfl ?_
    refine z_iconst (pc := 206) (-1 : Int32) dX9_runs_206 (by decide) ?_
    refine z_icmp_eq (pc := 207) (tgt := 300) dX9_runs_207 (by decide) (fun c39 => ?_) (fun c40 => ?_)
    · refine z_loc (L' := [.ref 0, .int x1, .int x2, .int x3, .int x4, .int x5, .int x6, .null]) ⟨Or.inr rfl, ⟨Or.inr rfl, ⟨Or.inr rfl, ⟨Or.inr rfl, ⟨Or.inr rfl, ⟨Or.inr rfl, ⟨Or.inr rfl, ⟨Or.inl rfl, trivial⟩⟩⟩⟩⟩⟩⟩⟩ ?_
      exact hK300 μ
    · refine z_aload_n (pc := 210) dX9_runs_210 rfl ?_
      refine z_getr (pc := 211) fdX9_88 (by decide) sm_0 rfl rfl dX9_runs_211 ?_
      refine z_iconst (pc := 214) (0 : Int32) dX9_runs_214 (by decide) ?_
      refine z_dup2 (pc := 215) dX9_runs_215 rfl rfl ?_
      refine z_iald (pc := 216) (by decide) sm_1128 rfl dX9_runs_216 (fun h41 => ?_)
      refine z_aload_n (pc := 217) dX9_runs_217 rfl ?_
      refine z_getr (pc := 218) fdX9_37 (by decide) sm_0 rfl rfl dX9_runs_218 ?_
      refine z_iload (pc := 221) dX9_runs_221 rfl ?_
      refine z_bipush (pc := 223) (100 : Int32) dX9_runs_223 (by decide) ?_
      refine z_idivc (pc := 225) dX9_runs_225 (by decide) ?_
      refine z_aald (pc := 226) (fun j => 36 + j) (by decide) sm_35 (Or.inl rfl) smg_35 dX9_runs_226 (fun h42 => ?_)
      refine z_iconst (pc := 227) (0 : Int32) dX9_runs_227 (by decide) ?_
      refine z_iald (pc := 228) (smr_35 h42).2 (smr_35 h42).1 rfl dX9_runs_228 (fun h43 => ?_)
      refine z_iadd (pc := 229) dX9_runs_229 ?_
      refine z_iast (pc := 230) (by decide) sm_1128 rfl dX9_runs_230 (fun h44 => ?_)
      refine z_mem (fun μ45 => ?_)
      refine z_aload_n (pc := 231) dX9_runs_231 rfl ?_
      refine z_getr (pc := 232) fdX9_88 (by decide) sm_0 rfl rfl dX9_runs_232 ?_
      refine z_iconst (pc := 235) (1 : Int32) dX9_runs_235 (by decide) ?_
      refine z_dup2 (pc := 236) dX9_runs_236 rfl rfl ?_
      refine z_iald (pc := 237) (by decide) sm_1128 rfl dX9_runs_237 (fun h46 => ?_)
      refine z_iconst (pc := 238) (1 : Int32) dX9_runs_238 (by decide) ?_
      refine z_iadd (pc := 239) dX9_runs_239 ?_
      refine z_iast (pc := 240) (by decide) sm_1128 rfl dX9_runs_240 (fun h47 => ?_)
      refine z_mem (fun μ48 => ?_)
      refine z_aload_n (pc := 241) dX9_runs_241 rfl ?_
      refine z_getr (pc := 242) fdX9_88 (by decide) sm_0 rfl rfl dX9_runs_242 ?_
      refine z_iconst (pc := 245) (3 : Int32) dX9_runs_245 (by decide) ?_
      refine z_aload_n (pc := 246) dX9_runs_246 rfl ?_
      refine z_getr (pc := 247) fdX9_88 (by decide) sm_0 rfl rfl dX9_runs_247 ?_
      refine z_iconst (pc := 250) (3 : Int32) dX9_runs_250 (by decide) ?_
      refine z_iald (pc := 251) (by decide) sm_1128 rfl dX9_runs_251 (fun h49 => ?_)
      refine z_iconst (pc := 252) (-1 : Int32) dX9_runs_252 (by decide) ?_
      refine z_let (fun (j : Int32 → zRes) => ∀ (s50 : Int32), zR yX9_runs cX9_runs 8 (none) 6 267 [.ref 0, .int x1, .int x2, .int x3, .int x4, .int x5, .int x6, .int x7] [.int s50, .int (3 : Int32), .ref 1128] 1134 SM μ48 (j s50)) ?_ (fun j57 hj57 => ?_)
      · intro s50
        refine z_iast (pc := 267) (by decide) sm_1128 rfl dX9_runs_267 (fun h51 => ?_)
        refine z_mem (fun μ52 => ?_)
        refine z_aload_n (pc := 268) dX9_runs_268 rfl ?_
        refine z_iload (pc := 269) dX9_runs_269 rfl ?_
        refine z_bipush (pc := 271) (100 : Int32) dX9_runs_271 (by decide) ?_
        refine z_idivc (pc := 273) dX9_runs_273 (by decide) ?_
        refine z_iload (pc := 274) dX9_runs_274 rfl ?_
        refine z_bipush (pc := 276) (10 : Int32) dX9_runs_276 (by decide) ?_
        refine z_idivc (pc := 278) dX9_runs_278 (by decide) ?_
        refine z_bipush (pc := 279) (10 : Int32) dX9_runs_279 (by decide) ?_
        refine z_iremc (pc := 281) dX9_runs_281 (by decide) ?_
        refine z_iload (pc := 282) dX9_runs_282 rfl ?_
        refine z_bipush (pc := 284) (10 : Int32) dX9_runs_284 (by decide) ?_
        refine z_iremc (pc := 286) dX9_runs_286 (by decide) ?_
        refine z_callV (As := [.int (x7 / (100 : Int32)), .int (zrem (x7 / (10 : Int32)) (10 : Int32)), .int (zrem x7 (10 : Int32))]) (pc := 287) (ret' := none) kvX9_242 (t9_works _ _ _ _) (by decide) (by decide) sm_0  rfl rfl (Nat.le_of_ble_eq_true rfl) dX9_runs_287 (fun v53 μ54 => ?_)
        refine z_aload_n (pc := 290) dX9_runs_290 rfl ?_
        refine z_iload_n (pc := 291) dX9_runs_291 rfl ?_
        refine z_callV (As := [.int x1]) (pc := 292) (ret' := some .int) kvX9_312 (t9_chosen _ _) (by decide) (by decide) sm_0  rfl rfl (Nat.le_of_ble_eq_true rfl) dX9_runs_292 (fun v55 μ56 => ?_)
        refine z_istore (pc := 295) (L' := [.ref 0, .int x1, .int x2, .int x3, .int x4, .int x5, .int x6, .int v55]) dX9_runs_295 (by decide) rfl ?_
        refine z_goto (pc := 297) (tgt := 204) dX9_runs_297 (by decide) ?_
        exact ih v55 μ56
      · refine z_icmp_ne (pc := 253) (tgt := 261) dX9_runs_253 (by decide) (fun c58 => ?_) (fun c59 => ?_)
        · refine z_aload_n (pc := 261) dX9_runs_261 rfl ?_
          refine z_getr (pc := 262) fdX9_88 (by decide) sm_0 rfl rfl dX9_runs_262 ?_
          refine z_iconst (pc := 265) (3 : Int32) dX9_runs_265 (by decide) ?_
          refine z_iald (pc := 266) (by decide) sm_1128 rfl dX9_runs_266 (fun h60 => ?_)
          exact hj57 (μ48 1128 (3 : Int32).toNatClampNeg)
        · refine z_iload (pc := 256) dX9_runs_256 rfl ?_
          refine z_goto (pc := 258) (tgt := 267) dX9_runs_258 (by decide) ?_
          exact hj57 x7
set_option maxHeartbeats 1000000 in
theorem t9_runs_L47 (x1 : Int32) (x2 : Int32) (x3 : Int32) (K338 : zMem → zRes) (hK338 : ∀ (μ : zMem), zR yX9_runs cX9_runs 8 (none) 6 338 [.ref 0, .null, .null, .null, .null, .null, .null, .null] [] 1134 SM μ (K338 μ)) : ∀ (n : Nat) (x4 : Int32) (μ : zMem), zR yX9_runs cX9_runs 8 (none) 6 47 [.ref 0, .int x1, .int x2, .int x3, .int x4, .null, .null, .null] [] 1134 SM μ (f9_runs_L47 x1 x2 x3 K338 n x4 μ) := by
  intro n
  induction n with
  | zero => intro x4 μ; intro q hq; cases hq
  | succ n ih =>
    intro x4 μ
    unfold f9_runs_L47
    refine z_iload (pc := 47) dX9_runs_47 rfl ?_
    refine z_iload_n (pc := 49) dX9_runs_49 rfl ?_
    refine z_icmp_ge (pc := 50) (tgt := 338) dX9_runs_50 (by decide) (fun c13 => ?_) (fun c14 => ?_)
    · refine z_loc (L' := [.ref 0, .null, .null, .null, .null, .null, .null, .null]) ⟨Or.inr rfl, ⟨Or.inl rfl, ⟨Or.inl rfl, ⟨Or.inl rfl, ⟨Or.inl rfl, ⟨Or.inl rfl, ⟨Or.inl rfl, ⟨Or.inl rfl, trivial⟩⟩⟩⟩⟩⟩⟩⟩ ?_
      exact hK338 μ
    · refine z_iload (pc := 53) dX9_runs_53 rfl ?_
      refine z_let (fun (j : zMem → zRes) => ∀ (μ15 : zMem), zR yX9_runs cX9_runs 8 (none) 6 72 [.ref 0, .int x1, .int x2, .int x3, .int x4, .null, .null, .null] [] 1134 SM μ15 (j μ15)) ?_ (fun j82 hj82 => ?_)
      · intro μ15
        refine z_aload_n (pc := 72) dX9_runs_72 rfl ?_
        refine z_iconst (pc := 73) (-1 : Int32) dX9_runs_73 (by decide) ?_
        refine z_puti (pc := 74) fdX9_70 (by decide) sm_0 rfl rfl dX9_runs_74 ?_
        refine z_mem (fun μ16 => ?_)
        refine z_iload_n (pc := 77) dX9_runs_77 rfl ?_
        refine z_let (fun (j : zMem → zRes) => ∀ (μ17 : zMem), zR yX9_runs cX9_runs 8 (none) 6 128 [.ref 0, .int x1, .int x2, .int x3, .int x4, .null, .null, .null] [] 1134 SM μ17 (j μ17)) ?_ (fun j72 hj72 => ?_)
        · intro μ17
          refine z_iconst (pc := 128) (0 : Int32) dX9_runs_128 (by decide) ?_
          refine z_istore (pc := 129) (L' := [.ref 0, .int x1, .int x2, .int x3, .int x4, .int (0 : Int32), .null, .null]) dX9_runs_129 (by decide) rfl ?_
          refine z_aload_n (pc := 131) dX9_runs_131 rfl ?_
          refine z_getr (pc := 132) fdX9_88 (by decide) sm_0 rfl rfl dX9_runs_132 ?_
          refine z_iconst (pc := 135) (1 : Int32) dX9_runs_135 (by decide) ?_
          refine z_iald (pc := 136) (by decide) sm_1128 rfl dX9_runs_136 (fun h18 => ?_)
          refine z_val (fun v19 => ?_)
          refine z_istore (pc := 137) (L' := [.ref 0, .int x1, .int x2, .int x3, .int x4, .int (0 : Int32), .int v19, .null]) dX9_runs_137 (by decide) rfl ?_
          refine z_iconst (pc := 139) (0 : Int32) dX9_runs_139 (by decide) ?_
          refine z_istore (pc := 140) (L' := [.ref 0, .int x1, .int x2, .int x3, .int x4, .int (0 : Int32), .int v19, .int (0 : Int32)]) dX9_runs_140 (by decide) rfl ?_
          refine t9_runs_L142 _ _ _ _ _ _ _ (fun x5_36 => ?_) zF _ _
          · refine z_aload_n (pc := 197) dX9_runs_197 rfl ?_
            refine z_iload_n (pc := 198) dX9_runs_198 rfl ?_
            refine z_callV (As := [.int x1]) (pc := 199) (ret' := some .int) kvX9_312 (t9_chosen _ _) (by decide) (by decide) sm_0  rfl rfl (Nat.le_of_ble_eq_true rfl) dX9_runs_199 (fun v37 μ38 => ?_)
            refine z_istore (pc := 202) (L' := [.ref 0, .int x1, .int x2, .int x3, .int x4, .int x5_36, .int v19, .int v37]) dX9_runs_202 (by decide) rfl ?_
            refine t9_runs_L204 _ _ _ _ _ _ _ (fun μ61 => ?_) zF _ _
            · refine z_aload_n (pc := 300) dX9_runs_300 rfl ?_
              refine z_geti (pc := 301) fdX9_305 (by decide) sm_0 rfl dX9_runs_301 ?_
              refine z_iconst (pc := 304) (-1 : Int32) dX9_runs_304 (by decide) ?_
              refine z_let (fun (j : zMem → zRes) => ∀ (μ62 : zMem), zR yX9_runs cX9_runs 8 (none) 6 332 [.ref 0, .int x1, .int x2, .int x3, .int x4, .null, .null, .null] [] 1134 SM μ62 (j μ62)) ?_ (fun j63 hj63 => ?_)
              · intro μ62
                refine z_iinc (pc := 332) (v := x4 + (1 : Int32)) (L' := [.ref 0, .int x1, .int x2, .int x3, .int (x4 + (1 : Int32)), .null, .null, .null]) dX9_runs_332 (by decide) rfl (congrArg _ (by decide)) rfl ?_
                refine z_goto (pc := 335) (tgt := 47) dX9_runs_335 (by decide) ?_
                exact ih (x4 + (1 : Int32)) μ62
              · refine z_icmp_ne (pc := 305) (tgt := 332) dX9_runs_305 (by decide) (fun c64 => ?_) (fun c65 => ?_)
                · refine z_loc (L' := [.ref 0, .int x1, .int x2, .int x3, .int x4, .null, .null, .null]) ⟨Or.inr rfl, ⟨Or.inr rfl, ⟨Or.inr rfl, ⟨Or.inr rfl, ⟨Or.inr rfl, ⟨Or.inl rfl, ⟨Or.inl rfl, ⟨Or.inl rfl, trivial⟩⟩⟩⟩⟩⟩⟩⟩ ?_
                  exact hj63 μ61
                · refine z_iload (pc := 308) dX9_runs_308 rfl ?_
                  refine z_if_eq (pc := 310) (tgt := 332) dX9_runs_310 (by decide) (fun c66 => ?_) (fun c67 => ?_)
                  · refine z_loc (L' := [.ref 0, .int x1, .int x2, .int x3, .int x4, .null, .null, .null]) ⟨Or.inr rfl, ⟨Or.inr rfl, ⟨Or.inr rfl, ⟨Or.inr rfl, ⟨Or.inr rfl, ⟨Or.inl rfl, ⟨Or.inl rfl, ⟨Or.inl rfl, trivial⟩⟩⟩⟩⟩⟩⟩⟩ ?_
                    exact hj63 μ61
                  · refine z_aload_n (pc := 313) dX9_runs_313 rfl ?_
                    refine z_getr (pc := 314) fdX9_88 (by decide) sm_0 rfl rfl dX9_runs_314 ?_
                    refine z_iconst (pc := 317) (1 : Int32) dX9_runs_317 (by decide) ?_
                    refine z_iald (pc := 318) (by decide) sm_1128 rfl dX9_runs_318 (fun h68 => ?_)
                    refine z_iload (pc := 319) dX9_runs_319 rfl ?_
                    refine z_icmp_ne (pc := 321) (tgt := 332) dX9_runs_321 (by decide) (fun c69 => ?_) (fun c70 => ?_)
                    · refine z_loc (L' := [.ref 0, .int x1, .int x2, .int x3, .int x4, .null, .null, .null]) ⟨Or.inr rfl, ⟨Or.inr rfl, ⟨Or.inr rfl, ⟨Or.inr rfl, ⟨Or.inr rfl, ⟨Or.inl rfl, ⟨Or.inl rfl, ⟨Or.inl rfl, trivial⟩⟩⟩⟩⟩⟩⟩⟩ ?_
                      exact hj63 μ61
                    · refine z_aload_n (pc := 324) dX9_runs_324 rfl ?_
                      refine z_aload_n (pc := 325) dX9_runs_325 rfl ?_
                      refine z_geti (pc := 326) fdX9_198 (by decide) sm_0 rfl dX9_runs_326 ?_
                      refine z_puti (pc := 329) fdX9_305 (by decide) sm_0 rfl rfl dX9_runs_329 ?_
                      refine z_mem (fun μ71 => ?_)
                      refine z_loc (L' := [.ref 0, .int x1, .int x2, .int x3, .int x4, .null, .null, .null]) ⟨Or.inr rfl, ⟨Or.inr rfl, ⟨Or.inr rfl, ⟨Or.inr rfl, ⟨Or.inr rfl, ⟨Or.inl rfl, ⟨Or.inl rfl, ⟨Or.inl rfl, trivial⟩⟩⟩⟩⟩⟩⟩⟩ ?_
                      exact hj63 μ71
        · refine z_if_eq (pc := 78) (tgt := 128) dX9_runs_78 (by decide) (fun c73 => ?_) (fun c74 => ?_)
          · exact hj72 μ16
          · refine z_aload_n (pc := 81) dX9_runs_81 rfl ?_
            refine z_getr (pc := 82) fdX9_23 (by decide) sm_0 rfl rfl dX9_runs_82 ?_
            refine z_iconst (pc := 85) (0 : Int32) dX9_runs_85 (by decide) ?_
            refine z_iald (pc := 86) (by decide) sm_4 rfl dX9_runs_86 (fun h75 => ?_)
            refine z_if_le (pc := 87) (tgt := 128) dX9_runs_87 (by decide) (fun c76 => ?_) (fun c77 => ?_)
            · exact hj72 μ16
            · refine z_aload_n (pc := 90) dX9_runs_90 rfl ?_
              refine z_aload_n (pc := 91) dX9_runs_91 rfl ?_
              refine z_geti (pc := 92) fdX9_308 (by decide) sm_0 rfl dX9_runs_92 ?_
              refine z_ldcw (pc := 95) (1103515245 : Int32) kcX9_311 dX9_runs_95 ?_
              refine z_imul (pc := 98) dX9_runs_98 ?_
              refine z_sipush (pc := 99) (12345 : Int32) dX9_runs_99 (by decide) ?_
              refine z_iadd (pc := 102) dX9_runs_102 ?_
              refine z_puti (pc := 103) fdX9_308 (by decide) sm_0 rfl rfl dX9_runs_103 ?_
              refine z_mem (fun μ78 => ?_)
              refine z_aload_n (pc := 106) dX9_runs_106 rfl ?_
              refine z_aload_n (pc := 107) dX9_runs_107 rfl ?_
              refine z_geti (pc := 108) fdX9_308 (by decide) sm_0 rfl dX9_runs_108 ?_
              refine z_bipush (pc := 111) (16 : Int32) dX9_runs_111 (by decide) ?_
              refine z_ishr (pc := 113) dX9_runs_113 ?_
              refine z_sipush (pc := 114) (32767 : Int32) dX9_runs_114 (by decide) ?_
              refine z_iand (pc := 117) dX9_runs_117 ?_
              refine z_aload_n (pc := 118) dX9_runs_118 rfl ?_
              refine z_getr (pc := 119) fdX9_23 (by decide) sm_0 rfl rfl dX9_runs_119 ?_
              refine z_iconst (pc := 122) (0 : Int32) dX9_runs_122 (by decide) ?_
              refine z_iald (pc := 123) (by decide) sm_4 rfl dX9_runs_123 (fun h79 => ?_)
              refine z_irem (pc := 124) dX9_runs_124 (fun h80 => ?_)
              refine z_puti (pc := 125) fdX9_70 (by decide) sm_0 rfl rfl dX9_runs_125 ?_
              refine z_mem (fun μ81 => ?_)
              exact hj72 μ81
      · refine z_if_le (pc := 55) (tgt := 72) dX9_runs_55 (by decide) (fun c83 => ?_) (fun c84 => ?_)
        · exact hj82 μ
        · refine z_aload_n (pc := 58) dX9_runs_58 rfl ?_
          refine z_dup (pc := 59) dX9_runs_59 rfl ?_
          refine z_geti (pc := 60) fdX9_198 (by decide) sm_0 rfl dX9_runs_60 ?_
          refine z_iconst (pc := 63) (1 : Int32) dX9_runs_63 (by decide) ?_
          refine z_iadd (pc := 64) dX9_runs_64 ?_
          refine z_puti (pc := 65) fdX9_198 (by decide) sm_0 rfl rfl dX9_runs_65 ?_
          refine z_mem (fun μ85 => ?_)
          refine z_aload_n (pc := 68) dX9_runs_68 rfl ?_
          refine z_callV (As := []) (pc := 69) (ret' := none) kvX9_207 (t9_dawns _) (by decide) (by decide) sm_0  rfl rfl (Nat.le_of_ble_eq_true rfl) dX9_runs_69 (fun v86 μ87 => ?_)
          exact hj82 μ87
set_option maxHeartbeats 1000000 in
theorem t9_runs_L346 (K379 : zMem → zRes) (hK379 : ∀ (μ : zMem), zR yX9_runs cX9_runs 8 (none) 6 379 [.ref 0, .null, .null, .null, .null, .null, .null, .null] [] 1134 SM μ (K379 μ)) : ∀ (n : Nat) (x4 : Int32) (μ : zMem), zR yX9_runs cX9_runs 8 (none) 6 346 [.ref 0, .null, .null, .null, .int x4, .null, .null, .null] [] 1134 SM μ (f9_runs_L346 K379 n x4 μ) := by
  intro n
  induction n with
  | zero => intro x4 μ; intro q hq; cases hq
  | succ n ih =>
    intro x4 μ
    unfold f9_runs_L346
    refine z_iload (pc := 346) dX9_runs_346 rfl ?_
    refine z_aload_n (pc := 348) dX9_runs_348 rfl ?_
    refine z_getr (pc := 349) fdX9_23 (by decide) sm_0 rfl rfl dX9_runs_349 ?_
    refine z_iconst (pc := 352) (2 : Int32) dX9_runs_352 (by decide) ?_
    refine z_iald (pc := 353) (by decide) sm_4 rfl dX9_runs_353 (fun h90 => ?_)
    refine z_icmp_ge (pc := 354) (tgt := 379) dX9_runs_354 (by decide) (fun c91 => ?_) (fun c92 => ?_)
    · refine z_loc (L' := [.ref 0, .null, .null, .null, .null, .null, .null, .null]) ⟨Or.inr rfl, ⟨Or.inl rfl, ⟨Or.inl rfl, ⟨Or.inl rfl, ⟨Or.inl rfl, ⟨Or.inl rfl, ⟨Or.inl rfl, ⟨Or.inl rfl, trivial⟩⟩⟩⟩⟩⟩⟩⟩ ?_
      exact hK379 μ
    · refine z_aload_n (pc := 357) dX9_runs_357 rfl ?_
      refine z_getr (pc := 358) fdX9_88 (by decide) sm_0 rfl rfl dX9_runs_358 ?_
      refine z_iconst (pc := 361) (2 : Int32) dX9_runs_361 (by decide) ?_
      refine z_dup2 (pc := 362) dX9_runs_362 rfl rfl ?_
      refine z_iald (pc := 363) (by decide) sm_1128 rfl dX9_runs_363 (fun h93 => ?_)
      refine z_aload_n (pc := 364) dX9_runs_364 rfl ?_
      refine z_getr (pc := 365) fdX9_61 (by decide) sm_0 rfl rfl dX9_runs_365 ?_
      refine z_iload (pc := 368) dX9_runs_368 rfl ?_
      refine z_iald (pc := 370) (by decide) sm_92 rfl dX9_runs_370 (fun h94 => ?_)
      refine z_iadd (pc := 371) dX9_runs_371 ?_
      refine z_iast (pc := 372) (by decide) sm_1128 rfl dX9_runs_372 (fun h95 => ?_)
      refine z_mem (fun μ96 => ?_)
      refine z_iinc (pc := 373) (v := x4 + (1 : Int32)) (L' := [.ref 0, .null, .null, .null, .int (x4 + (1 : Int32)), .null, .null, .null]) dX9_runs_373 (by decide) rfl (congrArg _ (by decide)) rfl ?_
      refine z_goto (pc := 376) (tgt := 346) dX9_runs_376 (by decide) ?_
      exact ih (x4 + (1 : Int32)) μ96
set_option maxHeartbeats 1000000 in
theorem t9_runs (x1 : Int32) (x2 : Int32) (x3 : Int32) (μ : zMem) : zMR yX9_runs cX9_runs 8 (none) 6 [.ref 0, .int x1, .int x2, .int x3] 1134 SM μ (f9_runs x1 x2 x3 μ) := by
  refine zMR_of (by decide +kernel) rfl (Nat.le_of_ble_eq_true rfl) (L := [.ref 0, .int x1, .int x2, .int x3, .null, .null, .null, .null]) rfl ?_
  unfold f9_runs
  refine z_aload_n (pc := 0) dX9_runs_0 rfl ?_
  refine z_iconst (pc := 1) (0 : Int32) dX9_runs_1 (by decide) ?_
  refine z_iconst (pc := 2) (0 : Int32) dX9_runs_2 (by decide) ?_
  refine z_callV (As := [.int (0 : Int32), .int (0 : Int32)]) (pc := 3) (ret' := none) kvX9_248 (t9_lays _ _ _) (by decide) (by decide) sm_0  rfl rfl (Nat.le_of_ble_eq_true rfl) dX9_runs_3 (fun v1 μ2 => ?_)
  refine z_iconst (pc := 6) (0 : Int32) dX9_runs_6 (by decide) ?_
  refine z_istore (pc := 7) (L' := [.ref 0, .int x1, .int x2, .int x3, .int (0 : Int32), .null, .null, .null]) dX9_runs_7 (by decide) rfl ?_
  refine t9_runs_L9 _ _ _ _ (fun μ11 => ?_) zF _ _
  · refine z_aload_n (pc := 39) dX9_runs_39 rfl ?_
    refine z_iconst (pc := 40) (-1 : Int32) dX9_runs_40 (by decide) ?_
    refine z_puti (pc := 41) fdX9_305 (by decide) sm_0 rfl rfl dX9_runs_41 ?_
    refine z_mem (fun μ12 => ?_)
    refine z_iconst (pc := 44) (0 : Int32) dX9_runs_44 (by decide) ?_
    refine z_istore (pc := 45) (L' := [.ref 0, .int x1, .int x2, .int x3, .int (0 : Int32), .null, .null, .null]) dX9_runs_45 (by decide) rfl ?_
    refine t9_runs_L47 _ _ _ _ (fun μ88 => ?_) zF _ _
    · refine z_aload_n (pc := 338) dX9_runs_338 rfl ?_
      refine z_iconst (pc := 339) (-1 : Int32) dX9_runs_339 (by decide) ?_
      refine z_puti (pc := 340) fdX9_70 (by decide) sm_0 rfl rfl dX9_runs_340 ?_
      refine z_mem (fun μ89 => ?_)
      refine z_iconst (pc := 343) (0 : Int32) dX9_runs_343 (by decide) ?_
      refine z_istore (pc := 344) (L' := [.ref 0, .null, .null, .null, .int (0 : Int32), .null, .null, .null]) dX9_runs_344 (by decide) rfl ?_
      refine t9_runs_L346 _ (fun μ97 => ?_) zF _ _
      · refine z_aload_n (pc := 379) dX9_runs_379 rfl ?_
        refine z_iconst (pc := 380) (0 : Int32) dX9_runs_380 (by decide) ?_
        refine z_iconst (pc := 381) (1 : Int32) dX9_runs_381 (by decide) ?_
        refine z_callV (As := [.int (0 : Int32), .int (1 : Int32)]) (pc := 382) (ret' := none) kvX9_248 (t9_lays _ _ _) (by decide) (by decide) sm_0  rfl rfl (Nat.le_of_ble_eq_true rfl) dX9_runs_382 (fun v98 μ99 => ?_)
        exact z_vret (pc := 385) rfl dX9_runs_385
def f9_run (x1 : Int32) (x2 : Int32) (x3 : Int32) (μ : zMem) : zRes := zlet (zset μ 0 0 (0 : Int32)) (fun (μ1 : zMem) => bnd0 (f9_in x1 (0 : Int32) (3 : Int32) μ1) (fun (v2 : Int32) (μ3 : zMem) => zlet (fun (s4 : Int32) (μ5 : zMem) => bnd0 (f9_bad s4 (1 : Int32) μ5) (fun (v6 : Int32) (μ7 : zMem) => if v6 = 0 then bnd0 (f9_runs x1 x2 (0 : Int32) μ7) (fun (v10 : Int32) (μ11 : zMem) => zin x3 4 (some (0, μ11 1128 x3.toNatClampNeg, μ11))) else some (0, (0 : Int32), μ7))) (fun j13 => zlet (fun (μ14 : zMem) => j13 (1 : Int32) μ14) (fun j15 => if v2 = 0 then j15 μ3 else bnd0 (f9_areDays x2 μ3) (fun (v18 : Int32) (μ19 : zMem) => if v18 = 0 then j15 μ19 else bnd0 (f9_in x3 (0 : Int32) (3 : Int32) μ19) (fun (v22 : Int32) (μ23 : zMem) => if v22 = 0 then j15 μ23 else j13 (0 : Int32) μ23))))))
set_option maxHeartbeats 1000000 in
theorem t9_run (x1 : Int32) (x2 : Int32) (x3 : Int32) (μ : zMem) : zMR yX9_run cX9_run 4 (some .int) 7 [.ref 0, .int x1, .int x2, .int x3] 1134 SM μ (f9_run x1 x2 x3 μ) := by
  refine zMR_of (by decide +kernel) rfl (Nat.le_of_ble_eq_true rfl) (L := [.ref 0, .int x1, .int x2, .int x3]) rfl ?_
  unfold f9_run
  refine z_aload_n (pc := 0) dX9_run_0 rfl ?_
  refine z_iconst (pc := 1) (0 : Int32) dX9_run_1 (by decide) ?_
  refine z_puti (pc := 2) fdX9_106 (by decide) sm_0 rfl rfl dX9_run_2 ?_
  refine z_mem (fun μ1 => ?_)
  refine z_aload_n (pc := 5) dX9_run_5 rfl ?_
  refine z_iload_n (pc := 6) dX9_run_6 rfl ?_
  refine z_iconst (pc := 7) (0 : Int32) dX9_run_7 (by decide) ?_
  refine z_iconst (pc := 8) (3 : Int32) dX9_run_8 (by decide) ?_
  refine z_callS (As := [.int x1, .int (0 : Int32), .int (3 : Int32)]) (pc := 9) (ret' := some .boolean) ksX9_140 (t9_in _ _ _ _) (by decide)  rfl rfl (Nat.le_of_ble_eq_true rfl) dX9_run_9 (fun v2 μ3 => ?_)
  refine z_let (fun (j : Int32 → zMem → zRes) => ∀ (s4 : Int32) (μ5 : zMem), zR yX9_run cX9_run 4 (some .int) 7 37 [.ref 0, .int x1, .int x2, .int x3] [.int s4, .ref 0] 1134 SM μ5 (j s4 μ5)) ?_ (fun j13 hj13 => ?_)
  · intro s4 μ5
    refine z_iconst (pc := 37) (1 : Int32) dX9_run_37 (by decide) ?_
    refine z_callV (As := [.int s4, .int (1 : Int32)]) (pc := 38) (ret' := some .boolean) kvX9_188 (t9_bad _ _ _) (by decide) (by decide) sm_0  rfl rfl (Nat.le_of_ble_eq_true rfl) dX9_run_38 (fun v6 μ7 => ?_)
    refine z_if_eq (pc := 41) (tgt := 46) dX9_run_41 (by decide) (fun c8 => ?_) (fun c9 => ?_)
    · refine z_aload_n (pc := 46) dX9_run_46 rfl ?_
      refine z_iload_n (pc := 47) dX9_run_47 rfl ?_
      refine z_iload_n (pc := 48) dX9_run_48 rfl ?_
      refine z_iconst (pc := 49) (0 : Int32) dX9_run_49 (by decide) ?_
      refine z_callV (As := [.int x1, .int x2, .int (0 : Int32)]) (pc := 50) (ret' := none) kvX9_318 (t9_runs _ _ _ _) (by decide) (by decide) sm_0  rfl rfl (Nat.le_of_ble_eq_true rfl) dX9_run_50 (fun v10 μ11 => ?_)
      refine z_aload_n (pc := 53) dX9_run_53 rfl ?_
      refine z_getr (pc := 54) fdX9_88 (by decide) sm_0 rfl rfl dX9_run_54 ?_
      refine z_iload_n (pc := 57) dX9_run_57 rfl ?_
      refine z_iald (pc := 58) (by decide) sm_1128 rfl dX9_run_58 (fun h12 => ?_)
      exact z_iret (pc := 59) rfl dX9_run_59
    · refine z_iconst (pc := 44) (0 : Int32) dX9_run_44 (by decide) ?_
      exact z_iret (pc := 45) rfl dX9_run_45
  · refine z_let (fun (j : zMem → zRes) => ∀ (μ14 : zMem), zR yX9_run cX9_run 4 (some .int) 7 32 [.ref 0, .int x1, .int x2, .int x3] [.ref 0] 1134 SM μ14 (j μ14)) ?_ (fun j15 hj15 => ?_)
    · intro μ14
      refine z_iconst (pc := 32) (1 : Int32) dX9_run_32 (by decide) ?_
      refine z_goto (pc := 33) (tgt := 37) dX9_run_33 (by decide) ?_
      exact hj13 (1 : Int32) μ14
    · refine z_if_eq (pc := 12) (tgt := 32) dX9_run_12 (by decide) (fun c16 => ?_) (fun c17 => ?_)
      · exact hj15 μ3
      · refine z_aload_n (pc := 15) dX9_run_15 rfl ?_
        refine z_iload_n (pc := 16) dX9_run_16 rfl ?_
        refine z_callV (As := [.int x2]) (pc := 17) (ret' := some .boolean) kvX9_315 (t9_areDays _ _) (by decide) (by decide) sm_0  rfl rfl (Nat.le_of_ble_eq_true rfl) dX9_run_17 (fun v18 μ19 => ?_)
        refine z_if_eq (pc := 20) (tgt := 32) dX9_run_20 (by decide) (fun c20 => ?_) (fun c21 => ?_)
        · exact hj15 μ19
        · refine z_iload_n (pc := 23) dX9_run_23 rfl ?_
          refine z_iconst (pc := 24) (0 : Int32) dX9_run_24 (by decide) ?_
          refine z_iconst (pc := 25) (3 : Int32) dX9_run_25 (by decide) ?_
          refine z_callS (As := [.int x3, .int (0 : Int32), .int (3 : Int32)]) (pc := 26) (ret' := some .boolean) ksX9_140 (t9_in _ _ _ _) (by decide)  rfl rfl (Nat.le_of_ble_eq_true rfl) dX9_run_26 (fun v22 μ23 => ?_)
          refine z_if_ne (pc := 29) (tgt := 36) dX9_run_29 (by decide) (fun c24 => ?_) (fun c25 => ?_)
          · refine z_iconst (pc := 36) (0 : Int32) dX9_run_36 (by decide) ?_
            exact hj13 (0 : Int32) μ23
          · exact hj15 μ23
def f9_lot (x1 : Int32) (x2 : Int32) (x3 : Int32) (x4 : Int32) (μ : zMem) : zRes := zlet (zset μ 0 0 (0 : Int32)) (fun (μ1 : zMem) => bnd0 (f9_in x1 (0 : Int32) (3 : Int32) μ1) (fun (v2 : Int32) (μ3 : zMem) => zlet (fun (s4 : Int32) (μ5 : zMem) => bnd0 (f9_bad s4 (1 : Int32) μ5) (fun (v6 : Int32) (μ7 : zMem) => if v6 = 0 then zlet (zset μ7 0 45 x4) (fun (μ10 : zMem) => bnd0 (f9_runs x1 x2 (1 : Int32) μ10) (fun (v11 : Int32) (μ12 : zMem) => zin x3 4 (some (0, μ12 1128 x3.toNatClampNeg, μ12)))) else some (0, (0 : Int32), μ7))) (fun j14 => zlet (fun (μ15 : zMem) => j14 (1 : Int32) μ15) (fun j16 => if v2 = 0 then j16 μ3 else bnd0 (f9_areDays x2 μ3) (fun (v19 : Int32) (μ20 : zMem) => if v19 = 0 then j16 μ20 else bnd0 (f9_in x3 (0 : Int32) (3 : Int32) μ20) (fun (v23 : Int32) (μ24 : zMem) => if v23 = 0 then j16 μ24 else j14 (0 : Int32) μ24))))))
set_option maxHeartbeats 1000000 in
theorem t9_lot (x1 : Int32) (x2 : Int32) (x3 : Int32) (x4 : Int32) (μ : zMem) : zMR yX9_lot cX9_lot 5 (some .int) 7 [.ref 0, .int x1, .int x2, .int x3, .int x4] 1134 SM μ (f9_lot x1 x2 x3 x4 μ) := by
  refine zMR_of (by decide +kernel) rfl (Nat.le_of_ble_eq_true rfl) (L := [.ref 0, .int x1, .int x2, .int x3, .int x4]) rfl ?_
  unfold f9_lot
  refine z_aload_n (pc := 0) dX9_lot_0 rfl ?_
  refine z_iconst (pc := 1) (0 : Int32) dX9_lot_1 (by decide) ?_
  refine z_puti (pc := 2) fdX9_106 (by decide) sm_0 rfl rfl dX9_lot_2 ?_
  refine z_mem (fun μ1 => ?_)
  refine z_aload_n (pc := 5) dX9_lot_5 rfl ?_
  refine z_iload_n (pc := 6) dX9_lot_6 rfl ?_
  refine z_iconst (pc := 7) (0 : Int32) dX9_lot_7 (by decide) ?_
  refine z_iconst (pc := 8) (3 : Int32) dX9_lot_8 (by decide) ?_
  refine z_callS (As := [.int x1, .int (0 : Int32), .int (3 : Int32)]) (pc := 9) (ret' := some .boolean) ksX9_140 (t9_in _ _ _ _) (by decide)  rfl rfl (Nat.le_of_ble_eq_true rfl) dX9_lot_9 (fun v2 μ3 => ?_)
  refine z_let (fun (j : Int32 → zMem → zRes) => ∀ (s4 : Int32) (μ5 : zMem), zR yX9_lot cX9_lot 5 (some .int) 7 37 [.ref 0, .int x1, .int x2, .int x3, .int x4] [.int s4, .ref 0] 1134 SM μ5 (j s4 μ5)) ?_ (fun j14 hj14 => ?_)
  · intro s4 μ5
    refine z_iconst (pc := 37) (1 : Int32) dX9_lot_37 (by decide) ?_
    refine z_callV (As := [.int s4, .int (1 : Int32)]) (pc := 38) (ret' := some .boolean) kvX9_188 (t9_bad _ _ _) (by decide) (by decide) sm_0  rfl rfl (Nat.le_of_ble_eq_true rfl) dX9_lot_38 (fun v6 μ7 => ?_)
    refine z_if_eq (pc := 41) (tgt := 46) dX9_lot_41 (by decide) (fun c8 => ?_) (fun c9 => ?_)
    · refine z_aload_n (pc := 46) dX9_lot_46 rfl ?_
      refine z_iload (pc := 47) dX9_lot_47 rfl ?_
      refine z_puti (pc := 49) fdX9_308 (by decide) sm_0 rfl rfl dX9_lot_49 ?_
      refine z_mem (fun μ10 => ?_)
      refine z_aload_n (pc := 52) dX9_lot_52 rfl ?_
      refine z_iload_n (pc := 53) dX9_lot_53 rfl ?_
      refine z_iload_n (pc := 54) dX9_lot_54 rfl ?_
      refine z_iconst (pc := 55) (1 : Int32) dX9_lot_55 (by decide) ?_
      refine z_callV (As := [.int x1, .int x2, .int (1 : Int32)]) (pc := 56) (ret' := none) kvX9_318 (t9_runs _ _ _ _) (by decide) (by decide) sm_0  rfl rfl (Nat.le_of_ble_eq_true rfl) dX9_lot_56 (fun v11 μ12 => ?_)
      refine z_aload_n (pc := 59) dX9_lot_59 rfl ?_
      refine z_getr (pc := 60) fdX9_88 (by decide) sm_0 rfl rfl dX9_lot_60 ?_
      refine z_iload_n (pc := 63) dX9_lot_63 rfl ?_
      refine z_iald (pc := 64) (by decide) sm_1128 rfl dX9_lot_64 (fun h13 => ?_)
      exact z_iret (pc := 65) rfl dX9_lot_65
    · refine z_iconst (pc := 44) (0 : Int32) dX9_lot_44 (by decide) ?_
      exact z_iret (pc := 45) rfl dX9_lot_45
  · refine z_let (fun (j : zMem → zRes) => ∀ (μ15 : zMem), zR yX9_lot cX9_lot 5 (some .int) 7 32 [.ref 0, .int x1, .int x2, .int x3, .int x4] [.ref 0] 1134 SM μ15 (j μ15)) ?_ (fun j16 hj16 => ?_)
    · intro μ15
      refine z_iconst (pc := 32) (1 : Int32) dX9_lot_32 (by decide) ?_
      refine z_goto (pc := 33) (tgt := 37) dX9_lot_33 (by decide) ?_
      exact hj14 (1 : Int32) μ15
    · refine z_if_eq (pc := 12) (tgt := 32) dX9_lot_12 (by decide) (fun c17 => ?_) (fun c18 => ?_)
      · exact hj16 μ3
      · refine z_aload_n (pc := 15) dX9_lot_15 rfl ?_
        refine z_iload_n (pc := 16) dX9_lot_16 rfl ?_
        refine z_callV (As := [.int x2]) (pc := 17) (ret' := some .boolean) kvX9_315 (t9_areDays _ _) (by decide) (by decide) sm_0  rfl rfl (Nat.le_of_ble_eq_true rfl) dX9_lot_17 (fun v19 μ20 => ?_)
        refine z_if_eq (pc := 20) (tgt := 32) dX9_lot_20 (by decide) (fun c21 => ?_) (fun c22 => ?_)
        · exact hj16 μ20
        · refine z_iload_n (pc := 23) dX9_lot_23 rfl ?_
          refine z_iconst (pc := 24) (0 : Int32) dX9_lot_24 (by decide) ?_
          refine z_iconst (pc := 25) (3 : Int32) dX9_lot_25 (by decide) ?_
          refine z_callS (As := [.int x3, .int (0 : Int32), .int (3 : Int32)]) (pc := 26) (ret' := some .boolean) ksX9_140 (t9_in _ _ _ _) (by decide)  rfl rfl (Nat.le_of_ble_eq_true rfl) dX9_lot_26 (fun v23 μ24 => ?_)
          refine z_if_ne (pc := 29) (tgt := 36) dX9_lot_29 (by decide) (fun c25 => ?_) (fun c26 => ?_)
          · refine z_iconst (pc := 36) (0 : Int32) dX9_lot_36 (by decide) ?_
            exact hj14 (0 : Int32) μ24
          · exact hj16 μ24
def f9_rule_L35 (x1 : Int32) (K83 : Int32 → zMem → zRes) : Nat → Int32 → Int32 → Int32 → zMem → zRes
  | 0, _, _, _, _ => none
  | n + 1, x2, x3, x4, μ => if (4 : Int32) ≤ x4 then K83 x2 μ else bnd0 (f9_runs x4 x1 (0 : Int32) μ) (fun (v11 : Int32) (μ12 : zMem) => zlet (fun (x2_13 : Int32) (x3_14 : Int32) => f9_rule_L35 x1 K83 n x2_13 x3_14 (x4 + (1 : Int32)) μ12) (fun j15 => zlet (zin (0 : Int32) 4 (zlet (μ12 1128 (0 : Int32).toNatClampNeg) (fun (v17 : Int32) => j15 x4 v17))) (fun j18 => if x2 = (-1 : Int32) then j18 else zin (0 : Int32) 4 (if x3 < (μ12 1128 (0 : Int32).toNatClampNeg) then j18 else j15 x2 x3))))
def f9_rule (x1 : Int32) (μ : zMem) : zRes := zlet (zset μ 0 0 (0 : Int32)) (fun (μ1 : zMem) => bnd0 (f9_areDays x1 μ1) (fun (v2 : Int32) (μ3 : zMem) => zlet (fun (s4 : Int32) => bnd0 (f9_bad s4 (1 : Int32) μ3) (fun (v5 : Int32) (μ6 : zMem) => if v5 = 0 then f9_rule_L35 x1 (fun (x2_24 : Int32) (μ25 : zMem) => some (0, x2_24, μ25)) zF (-1 : Int32) (0 : Int32) (0 : Int32) μ6 else some (0, (0 : Int32), μ6))) (fun j26 => if v2 = 0 then j26 (1 : Int32) else j26 (0 : Int32))))
set_option maxHeartbeats 1000000 in
theorem t9_rule_L35 (x1 : Int32) (K83 : Int32 → zMem → zRes) (hK83 : ∀ (x2 : Int32) (μ : zMem), zR yX9_rule cX9_rule 5 (some .int) 7 83 [.null, .null, .int x2, .null, .null] [] 1134 SM μ (K83 x2 μ)) : ∀ (n : Nat) (x2 : Int32) (x3 : Int32) (x4 : Int32) (μ : zMem), zR yX9_rule cX9_rule 5 (some .int) 7 35 [.ref 0, .int x1, .int x2, .int x3, .int x4] [] 1134 SM μ (f9_rule_L35 x1 K83 n x2 x3 x4 μ) := by
  intro n
  induction n with
  | zero => intro x2 x3 x4 μ; intro q hq; cases hq
  | succ n ih =>
    intro x2 x3 x4 μ
    unfold f9_rule_L35
    refine z_iload (pc := 35) dX9_rule_35 rfl ?_
    refine z_iconst (pc := 37) (4 : Int32) dX9_rule_37 (by decide) ?_
    refine z_icmp_ge (pc := 38) (tgt := 83) dX9_rule_38 (by decide) (fun c9 => ?_) (fun c10 => ?_)
    · refine z_loc (L' := [.null, .null, .int x2, .null, .null]) ⟨Or.inl rfl, ⟨Or.inl rfl, ⟨Or.inr rfl, ⟨Or.inl rfl, ⟨Or.inl rfl, trivial⟩⟩⟩⟩⟩ ?_
      exact hK83 x2 μ
    · refine z_aload_n (pc := 41) dX9_rule_41 rfl ?_
      refine z_iload (pc := 42) dX9_rule_42 rfl ?_
      refine z_iload_n (pc := 44) dX9_rule_44 rfl ?_
      refine z_iconst (pc := 45) (0 : Int32) dX9_rule_45 (by decide) ?_
      refine z_callV (As := [.int x4, .int x1, .int (0 : Int32)]) (pc := 46) (ret' := none) kvX9_318 (t9_runs _ _ _ _) (by decide) (by decide) sm_0  rfl rfl (Nat.le_of_ble_eq_true rfl) dX9_rule_46 (fun v11 μ12 => ?_)
      refine z_iload_n (pc := 49) dX9_rule_49 rfl ?_
      refine z_iconst (pc := 50) (-1 : Int32) dX9_rule_50 (by decide) ?_
      refine z_let (fun (j : Int32 → Int32 → zRes) => ∀ (x2_13 : Int32) (x3_14 : Int32), zR yX9_rule cX9_rule 5 (some .int) 7 77 [.ref 0, .int x1, .int x2_13, .int x3_14, .int x4] [] 1134 SM μ12 (j x2_13 x3_14)) ?_ (fun j15 hj15 => ?_)
      · intro x2_13 x3_14
        refine z_iinc (pc := 77) (v := x4 + (1 : Int32)) (L' := [.ref 0, .int x1, .int x2_13, .int x3_14, .int (x4 + (1 : Int32))]) dX9_rule_77 (by decide) rfl (congrArg _ (by decide)) rfl ?_
        refine z_goto (pc := 80) (tgt := 35) dX9_rule_80 (by decide) ?_
        exact ih x2_13 x3_14 (x4 + (1 : Int32)) μ12
      · refine z_let (fun (j : zRes) => zR yX9_rule cX9_rule 5 (some .int) 7 67 [.ref 0, .int x1, .null, .null, .int x4] [] 1134 SM μ12 (j)) ?_ (fun j18 hj18 => ?_)
        · refine z_iload (pc := 67) dX9_rule_67 rfl ?_
          refine z_istore_n (pc := 69) (L' := [.ref 0, .int x1, .int x4, .null, .int x4]) dX9_rule_69 (by decide) rfl ?_
          refine z_aload_n (pc := 70) dX9_rule_70 rfl ?_
          refine z_getr (pc := 71) fdX9_88 (by decide) sm_0 rfl rfl dX9_rule_71 ?_
          refine z_iconst (pc := 74) (0 : Int32) dX9_rule_74 (by decide) ?_
          refine z_iald (pc := 75) (by decide) sm_1128 rfl dX9_rule_75 (fun h16 => ?_)
          refine z_val (fun v17 => ?_)
          refine z_istore_n (pc := 76) (L' := [.ref 0, .int x1, .int x4, .int v17, .int x4]) dX9_rule_76 (by decide) rfl ?_
          exact hj15 x4 v17
        · refine z_icmp_eq (pc := 51) (tgt := 67) dX9_rule_51 (by decide) (fun c19 => ?_) (fun c20 => ?_)
          · refine z_loc (L' := [.ref 0, .int x1, .null, .null, .int x4]) ⟨Or.inr rfl, ⟨Or.inr rfl, ⟨Or.inl rfl, ⟨Or.inl rfl, ⟨Or.inr rfl, trivial⟩⟩⟩⟩⟩ ?_
            exact hj18
          · refine z_aload_n (pc := 54) dX9_rule_54 rfl ?_
            refine z_getr (pc := 55) fdX9_88 (by decide) sm_0 rfl rfl dX9_rule_55 ?_
            refine z_iconst (pc := 58) (0 : Int32) dX9_rule_58 (by decide) ?_
            refine z_iald (pc := 59) (by decide) sm_1128 rfl dX9_rule_59 (fun h21 => ?_)
            refine z_iload_n (pc := 60) dX9_rule_60 rfl ?_
            refine z_icmp_gt (pc := 61) (tgt := 67) dX9_rule_61 (by decide) (fun c22 => ?_) (fun c23 => ?_)
            · refine z_loc (L' := [.ref 0, .int x1, .null, .null, .int x4]) ⟨Or.inr rfl, ⟨Or.inr rfl, ⟨Or.inl rfl, ⟨Or.inl rfl, ⟨Or.inr rfl, trivial⟩⟩⟩⟩⟩ ?_
              exact hj18
            · refine z_goto (pc := 64) (tgt := 77) dX9_rule_64 (by decide) ?_
              exact hj15 x2 x3
set_option maxHeartbeats 1000000 in
theorem t9_rule (x1 : Int32) (μ : zMem) : zMR yX9_rule cX9_rule 5 (some .int) 7 [.ref 0, .int x1] 1134 SM μ (f9_rule x1 μ) := by
  refine zMR_of (by decide +kernel) rfl (Nat.le_of_ble_eq_true rfl) (L := [.ref 0, .int x1, .null, .null, .null]) rfl ?_
  unfold f9_rule
  refine z_aload_n (pc := 0) dX9_rule_0 rfl ?_
  refine z_iconst (pc := 1) (0 : Int32) dX9_rule_1 (by decide) ?_
  refine z_puti (pc := 2) fdX9_106 (by decide) sm_0 rfl rfl dX9_rule_2 ?_
  refine z_mem (fun μ1 => ?_)
  refine z_aload_n (pc := 5) dX9_rule_5 rfl ?_
  refine z_aload_n (pc := 6) dX9_rule_6 rfl ?_
  refine z_iload_n (pc := 7) dX9_rule_7 rfl ?_
  refine z_callV (As := [.int x1]) (pc := 8) (ret' := some .boolean) kvX9_315 (t9_areDays _ _) (by decide) (by decide) sm_0  rfl rfl (Nat.le_of_ble_eq_true rfl) dX9_rule_8 (fun v2 μ3 => ?_)
  refine z_let (fun (j : Int32 → zRes) => ∀ (s4 : Int32), zR yX9_rule cX9_rule 5 (some .int) 7 19 [.ref 0, .int x1, .null, .null, .null] [.int s4, .ref 0] 1134 SM μ3 (j s4)) ?_ (fun j26 hj26 => ?_)
  · intro s4
    refine z_iconst (pc := 19) (1 : Int32) dX9_rule_19 (by decide) ?_
    refine z_callV (As := [.int s4, .int (1 : Int32)]) (pc := 20) (ret' := some .boolean) kvX9_188 (t9_bad _ _ _) (by decide) (by decide) sm_0  rfl rfl (Nat.le_of_ble_eq_true rfl) dX9_rule_20 (fun v5 μ6 => ?_)
    refine z_if_eq (pc := 23) (tgt := 28) dX9_rule_23 (by decide) (fun c7 => ?_) (fun c8 => ?_)
    · refine z_iconst (pc := 28) (-1 : Int32) dX9_rule_28 (by decide) ?_
      refine z_istore_n (pc := 29) (L' := [.ref 0, .int x1, .int (-1 : Int32), .null, .null]) dX9_rule_29 (by decide) rfl ?_
      refine z_iconst (pc := 30) (0 : Int32) dX9_rule_30 (by decide) ?_
      refine z_istore_n (pc := 31) (L' := [.ref 0, .int x1, .int (-1 : Int32), .int (0 : Int32), .null]) dX9_rule_31 (by decide) rfl ?_
      refine z_iconst (pc := 32) (0 : Int32) dX9_rule_32 (by decide) ?_
      refine z_istore (pc := 33) (L' := [.ref 0, .int x1, .int (-1 : Int32), .int (0 : Int32), .int (0 : Int32)]) dX9_rule_33 (by decide) rfl ?_
      refine t9_rule_L35 _ _ (fun x2_24 μ25 => ?_) zF _ _ _ _
      · refine z_iload_n (pc := 83) dX9_rule_83 rfl ?_
        exact z_iret (pc := 84) rfl dX9_rule_84
    · refine z_iconst (pc := 26) (0 : Int32) dX9_rule_26 (by decide) ?_
      exact z_iret (pc := 27) rfl dX9_rule_27
  · refine z_if_ne (pc := 11) (tgt := 18) dX9_rule_11 (by decide) (fun c27 => ?_) (fun c28 => ?_)
    · refine z_iconst (pc := 18) (0 : Int32) dX9_rule_18 (by decide) ?_
      exact hj26 (0 : Int32)
    · refine z_iconst (pc := 14) (1 : Int32) dX9_rule_14 (by decide) ?_
      refine z_goto (pc := 15) (tgt := 19) dX9_rule_15 (by decide) ?_
      exact hj26 (1 : Int32)
def f9_stateNow_L4 (x1 : Int32) (μ : zMem) (K37 : Int32 → zRes) : Nat → Int32 → Int32 → zRes
  | 0, _, _ => none
  | n + 1, x2, x3 => if (μ 0 40) ≤ x3 then K37 x2 else zin x3 4 (zin (μ 1129 x3.toNatClampNeg) 9 (zin x1 4 (zlet (((9 : Int32) * x2) + (μ (51 + (μ 1129 x3.toNatClampNeg).toNatClampNeg) x1.toNatClampNeg)) (fun (v6 : Int32) => f9_stateNow_L4 x1 μ K37 n v6 (x3 + (1 : Int32))))))
def f9_stateNow (x1 : Int32) (μ : zMem) : zRes := f9_stateNow_L4 x1 μ (fun (x2_7 : Int32) => some (0, x2_7, μ)) zF (0 : Int32) (0 : Int32)
set_option maxHeartbeats 1000000 in
theorem t9_stateNow_L4 (x1 : Int32) (μ : zMem) (K37 : Int32 → zRes) (hK37 : ∀ (x2 : Int32), zR yX9_stateNow cX9_stateNow 4 (some .int) 1 37 [.null, .null, .int x2, .null] [] 1134 SM μ (K37 x2)) : ∀ (n : Nat) (x2 : Int32) (x3 : Int32), zR yX9_stateNow cX9_stateNow 4 (some .int) 1 4 [.ref 0, .int x1, .int x2, .int x3] [] 1134 SM μ (f9_stateNow_L4 x1 μ K37 n x2 x3) := by
  intro n
  induction n with
  | zero => intro x2 x3; intro q hq; cases hq
  | succ n ih =>
    intro x2 x3
    unfold f9_stateNow_L4
    refine z_iload_n (pc := 4) dX9_stateNow_4 rfl ?_
    refine z_aload_n (pc := 5) dX9_stateNow_5 rfl ?_
    refine z_geti (pc := 6) fdX9_322 (by decide) sm_0 rfl dX9_stateNow_6 ?_
    refine z_icmp_ge (pc := 9) (tgt := 37) dX9_stateNow_9 (by decide) (fun c1 => ?_) (fun c2 => ?_)
    · refine z_loc (L' := [.null, .null, .int x2, .null]) ⟨Or.inl rfl, ⟨Or.inl rfl, ⟨Or.inr rfl, ⟨Or.inl rfl, trivial⟩⟩⟩⟩ ?_
      exact hK37 x2
    · refine z_bipush (pc := 12) (9 : Int32) dX9_stateNow_12 (by decide) ?_
      refine z_iload_n (pc := 14) dX9_stateNow_14 rfl ?_
      refine z_imul (pc := 15) dX9_stateNow_15 ?_
      refine z_aload_n (pc := 16) dX9_stateNow_16 rfl ?_
      refine z_getr (pc := 17) fdX9_52 (by decide) sm_0 rfl rfl dX9_stateNow_17 ?_
      refine z_aload_n (pc := 20) dX9_stateNow_20 rfl ?_
      refine z_getr (pc := 21) fdX9_91 (by decide) sm_0 rfl rfl dX9_stateNow_21 ?_
      refine z_iload_n (pc := 24) dX9_stateNow_24 rfl ?_
      refine z_iald (pc := 25) (by decide) sm_1129 rfl dX9_stateNow_25 (fun h3 => ?_)
      refine z_aald (pc := 26) (fun j => 51 + j) (by decide) sm_50 (Or.inl rfl) smg_50 dX9_stateNow_26 (fun h4 => ?_)
      refine z_iload_n (pc := 27) dX9_stateNow_27 rfl ?_
      refine z_iald (pc := 28) (smr_50 h4).2 (smr_50 h4).1 rfl dX9_stateNow_28 (fun h5 => ?_)
      refine z_iadd (pc := 29) dX9_stateNow_29 ?_
      refine z_val (fun v6 => ?_)
      refine z_istore_n (pc := 30) (L' := [.ref 0, .int x1, .int v6, .int x3]) dX9_stateNow_30 (by decide) rfl ?_
      refine z_iinc (pc := 31) (v := x3 + (1 : Int32)) (L' := [.ref 0, .int x1, .int v6, .int (x3 + (1 : Int32))]) dX9_stateNow_31 (by decide) rfl (congrArg _ (by decide)) rfl ?_
      refine z_goto (pc := 34) (tgt := 4) dX9_stateNow_34 (by decide) ?_
      exact ih v6 (x3 + (1 : Int32))
set_option maxHeartbeats 1000000 in
theorem t9_stateNow (x1 : Int32) (μ : zMem) : zMR yX9_stateNow cX9_stateNow 4 (some .int) 1 [.ref 0, .int x1] 1134 SM μ (f9_stateNow x1 μ) := by
  refine zMR_of (by decide +kernel) rfl (Nat.le_of_ble_eq_true rfl) (L := [.ref 0, .int x1, .null, .null]) rfl ?_
  unfold f9_stateNow
  refine z_iconst (pc := 0) (0 : Int32) dX9_stateNow_0 (by decide) ?_
  refine z_istore_n (pc := 1) (L' := [.ref 0, .int x1, .int (0 : Int32), .null]) dX9_stateNow_1 (by decide) rfl ?_
  refine z_iconst (pc := 2) (0 : Int32) dX9_stateNow_2 (by decide) ?_
  refine z_istore_n (pc := 3) (L' := [.ref 0, .int x1, .int (0 : Int32), .int (0 : Int32)]) dX9_stateNow_3 (by decide) rfl ?_
  refine t9_stateNow_L4 _ _ _ (fun x2_7 => ?_) zF _ _
  · refine z_iload_n (pc := 37) dX9_stateNow_37 rfl ?_
    exact z_iret (pc := 38) rfl dX9_stateNow_38
def f9_becomes_L10 (x2 : Int32) (K44 : zMem → zRes) : Nat → Int32 → Int32 → zMem → zRes
  | 0, _, _, _ => none
  | n + 1, x3, x4, μ => if x4 < 0 then K44 μ else zin x4 4 (zin (μ 1129 x4.toNatClampNeg) 9 (zin x2 4 (zlet (zset μ (51 + (μ 1129 x4.toNatClampNeg).toNatClampNeg) x2.toNatClampNeg (zrem x3 (9 : Int32))) (fun (μ7 : zMem) => zlet (x3 / (9 : Int32)) (fun (v8 : Int32) => f9_becomes_L10 x2 K44 n v8 (x4 + (-1 : Int32)) μ7)))))
def f9_becomes (x1 : Int32) (x2 : Int32) (μ : zMem) : zRes := zlet ((μ 0 40) - (1 : Int32)) (fun (v1 : Int32) => f9_becomes_L10 x2 (fun (μ9 : zMem) => some (0, 0, μ9)) zF x1 v1 μ)
set_option maxHeartbeats 1000000 in
theorem t9_becomes_L10 (x2 : Int32) (K44 : zMem → zRes) (hK44 : ∀ (μ : zMem), zR yX9_becomes cX9_becomes 5 (none) 1 44 [.null, .null, .null, .null, .null] [] 1134 SM μ (K44 μ)) : ∀ (n : Nat) (x3 : Int32) (x4 : Int32) (μ : zMem), zR yX9_becomes cX9_becomes 5 (none) 1 10 [.ref 0, .null, .int x2, .int x3, .int x4] [] 1134 SM μ (f9_becomes_L10 x2 K44 n x3 x4 μ) := by
  intro n
  induction n with
  | zero => intro x3 x4 μ; intro q hq; cases hq
  | succ n ih =>
    intro x3 x4 μ
    unfold f9_becomes_L10
    refine z_iload (pc := 10) dX9_becomes_10 rfl ?_
    refine z_if_lt (pc := 12) (tgt := 44) dX9_becomes_12 (by decide) (fun c2 => ?_) (fun c3 => ?_)
    · refine z_loc (L' := [.null, .null, .null, .null, .null]) ⟨Or.inl rfl, ⟨Or.inl rfl, ⟨Or.inl rfl, ⟨Or.inl rfl, ⟨Or.inl rfl, trivial⟩⟩⟩⟩⟩ ?_
      exact hK44 μ
    · refine z_aload_n (pc := 15) dX9_becomes_15 rfl ?_
      refine z_getr (pc := 16) fdX9_52 (by decide) sm_0 rfl rfl dX9_becomes_16 ?_
      refine z_aload_n (pc := 19) dX9_becomes_19 rfl ?_
      refine z_getr (pc := 20) fdX9_91 (by decide) sm_0 rfl rfl dX9_becomes_20 ?_
      refine z_iload (pc := 23) dX9_becomes_23 rfl ?_
      refine z_iald (pc := 25) (by decide) sm_1129 rfl dX9_becomes_25 (fun h4 => ?_)
      refine z_aald (pc := 26) (fun j => 51 + j) (by decide) sm_50 (Or.inl rfl) smg_50 dX9_becomes_26 (fun h5 => ?_)
      refine z_iload_n (pc := 27) dX9_becomes_27 rfl ?_
      refine z_iload_n (pc := 28) dX9_becomes_28 rfl ?_
      refine z_bipush (pc := 29) (9 : Int32) dX9_becomes_29 (by decide) ?_
      refine z_iremc (pc := 31) dX9_becomes_31 (by decide) ?_
      refine z_iast (pc := 32) (smr_50 h5).2 (smr_50 h5).1 rfl dX9_becomes_32 (fun h6 => ?_)
      refine z_mem (fun μ7 => ?_)
      refine z_iload_n (pc := 33) dX9_becomes_33 rfl ?_
      refine z_bipush (pc := 34) (9 : Int32) dX9_becomes_34 (by decide) ?_
      refine z_idivc (pc := 36) dX9_becomes_36 (by decide) ?_
      refine z_val (fun v8 => ?_)
      refine z_istore_n (pc := 37) (L' := [.ref 0, .null, .int x2, .int v8, .int x4]) dX9_becomes_37 (by decide) rfl ?_
      refine z_iinc (pc := 38) (v := x4 + (-1 : Int32)) (L' := [.ref 0, .null, .int x2, .int v8, .int (x4 + (-1 : Int32))]) dX9_becomes_38 (by decide) rfl (congrArg _ (by decide)) rfl ?_
      refine z_goto (pc := 41) (tgt := 10) dX9_becomes_41 (by decide) ?_
      exact ih v8 (x4 + (-1 : Int32)) μ7
set_option maxHeartbeats 1000000 in
theorem t9_becomes (x1 : Int32) (x2 : Int32) (μ : zMem) : zMR yX9_becomes cX9_becomes 5 (none) 1 [.ref 0, .int x1, .int x2] 1134 SM μ (f9_becomes x1 x2 μ) := by
  refine zMR_of (by decide +kernel) rfl (Nat.le_of_ble_eq_true rfl) (L := [.ref 0, .int x1, .int x2, .null, .null]) rfl ?_
  unfold f9_becomes
  refine z_iload_n (pc := 0) dX9_becomes_0 rfl ?_
  refine z_istore_n (pc := 1) (L' := [.ref 0, .int x1, .int x2, .int x1, .null]) dX9_becomes_1 (by decide) rfl ?_
  refine z_aload_n (pc := 2) dX9_becomes_2 rfl ?_
  refine z_geti (pc := 3) fdX9_322 (by decide) sm_0 rfl dX9_becomes_3 ?_
  refine z_iconst (pc := 6) (1 : Int32) dX9_becomes_6 (by decide) ?_
  refine z_isub (pc := 7) dX9_becomes_7 ?_
  refine z_val (fun v1 => ?_)
  refine z_istore (pc := 8) (L' := [.ref 0, .int x1, .int x2, .int x1, .int v1]) dX9_becomes_8 (by decide) rfl ?_
  refine z_loc (L' := [.ref 0, .null, .int x2, .int x1, .int v1]) ⟨Or.inr rfl, ⟨Or.inl rfl, ⟨Or.inr rfl, ⟨Or.inr rfl, ⟨Or.inr rfl, trivial⟩⟩⟩⟩⟩ ?_
  refine t9_becomes_L10 _ _ (fun μ9 => ?_) zF _ _ _
  · exact z_vret (pc := 44) rfl dX9_becomes_44
def f9_isApart (x1 : Int32) (x2 : Int32) (x3 : Int32) (μ : zMem) : zRes := zlet (fun (s1 : Int32) (μ2 : zMem) => zbl s1 (some (0, s1, μ2))) (fun j3 => zlet (fun (μ4 : zMem) => j3 (0 : Int32) μ4) (fun j5 => if x1 = x2 then j5 μ else bnd0 (f9_isKin x1 x2 μ) (fun (v8 : Int32) (μ9 : zMem) => if v8 = 0 then zin x1 9 (zin x3 4 (zin x2 9 (zin x3 4 (bnd0 (f9_amount ((μ9 (51 + x1.toNatClampNeg) x3.toNatClampNeg) - (μ9 (51 + x2.toNatClampNeg) x3.toNatClampNeg)) μ9) (fun (v16 : Int32) (μ17 : zMem) => zin (3 : Int32) 6 (if v16 < (μ17 4 (3 : Int32).toNatClampNeg) then j5 μ17 else j3 (1 : Int32) μ17)))))) else j5 μ9)))
set_option maxHeartbeats 1000000 in
theorem t9_isApart (x1 : Int32) (x2 : Int32) (x3 : Int32) (μ : zMem) : zMR yX9_isApart cX9_isApart 4 (some .boolean) 2 [.ref 0, .int x1, .int x2, .int x3] 1134 SM μ (f9_isApart x1 x2 x3 μ) := by
  refine zMR_of (by decide +kernel) rfl (Nat.le_of_ble_eq_true rfl) (L := [.ref 0, .int x1, .int x2, .int x3]) rfl ?_
  unfold f9_isApart
  refine z_iload_n (pc := 0) dX9_isApart_0 rfl ?_
  refine z_iload_n (pc := 1) dX9_isApart_1 rfl ?_
  refine z_let (fun (j : Int32 → zMem → zRes) => ∀ (s1 : Int32) (μ2 : zMem), zR yX9_isApart cX9_isApart 4 (some .boolean) 2 48 [.null, .null, .null, .null] [.int s1] 1134 SM μ2 (j s1 μ2)) ?_ (fun j3 hj3 => ?_)
  · intro s1 μ2
    exact z_zret (pc := 48) rfl dX9_isApart_48
  · refine z_let (fun (j : zMem → zRes) => ∀ (μ4 : zMem), zR yX9_isApart cX9_isApart 4 (some .boolean) 2 47 [.null, .null, .null, .null] [] 1134 SM μ4 (j μ4)) ?_ (fun j5 hj5 => ?_)
    · intro μ4
      refine z_iconst (pc := 47) (0 : Int32) dX9_isApart_47 (by decide) ?_
      exact hj3 (0 : Int32) μ4
    · refine z_icmp_eq (pc := 2) (tgt := 47) dX9_isApart_2 (by decide) (fun c6 => ?_) (fun c7 => ?_)
      · refine z_loc (L' := [.null, .null, .null, .null]) ⟨Or.inl rfl, ⟨Or.inl rfl, ⟨Or.inl rfl, ⟨Or.inl rfl, trivial⟩⟩⟩⟩ ?_
        exact hj5 μ
      · refine z_aload_n (pc := 5) dX9_isApart_5 rfl ?_
        refine z_iload_n (pc := 6) dX9_isApart_6 rfl ?_
        refine z_iload_n (pc := 7) dX9_isApart_7 rfl ?_
        refine z_callV (As := [.int x1, .int x2]) (pc := 8) (ret' := some .boolean) kvX9_210 (t9_isKin _ _ _) (by decide) (by decide) sm_0  rfl rfl (Nat.le_of_ble_eq_true rfl) dX9_isApart_8 (fun v8 μ9 => ?_)
        refine z_if_ne (pc := 11) (tgt := 47) dX9_isApart_11 (by decide) (fun c10 => ?_) (fun c11 => ?_)
        · refine z_loc (L' := [.null, .null, .null, .null]) ⟨Or.inl rfl, ⟨Or.inl rfl, ⟨Or.inl rfl, ⟨Or.inl rfl, trivial⟩⟩⟩⟩ ?_
          exact hj5 μ9
        · refine z_aload_n (pc := 14) dX9_isApart_14 rfl ?_
          refine z_getr (pc := 15) fdX9_52 (by decide) sm_0 rfl rfl dX9_isApart_15 ?_
          refine z_iload_n (pc := 18) dX9_isApart_18 rfl ?_
          refine z_aald (pc := 19) (fun j => 51 + j) (by decide) sm_50 (Or.inl rfl) smg_50 dX9_isApart_19 (fun h12 => ?_)
          refine z_iload_n (pc := 20) dX9_isApart_20 rfl ?_
          refine z_iald (pc := 21) (smr_50 h12).2 (smr_50 h12).1 rfl dX9_isApart_21 (fun h13 => ?_)
          refine z_aload_n (pc := 22) dX9_isApart_22 rfl ?_
          refine z_getr (pc := 23) fdX9_52 (by decide) sm_0 rfl rfl dX9_isApart_23 ?_
          refine z_iload_n (pc := 26) dX9_isApart_26 rfl ?_
          refine z_aald (pc := 27) (fun j => 51 + j) (by decide) sm_50 (Or.inl rfl) smg_50 dX9_isApart_27 (fun h14 => ?_)
          refine z_iload_n (pc := 28) dX9_isApart_28 rfl ?_
          refine z_iald (pc := 29) (smr_50 h14).2 (smr_50 h14).1 rfl dX9_isApart_29 (fun h15 => ?_)
          refine z_isub (pc := 30) dX9_isApart_30 ?_
          refine z_callS (As := [.int ((μ9 (51 + x1.toNatClampNeg) x3.toNatClampNeg) - (μ9 (51 + x2.toNatClampNeg) x3.toNatClampNeg))]) (pc := 31) (ret' := some .int) ksX9_229 (t9_amount _ _) (by decide)  rfl rfl (Nat.le_of_ble_eq_true rfl) dX9_isApart_31 (fun v16 μ17 => ?_)
          refine z_aload_n (pc := 34) dX9_isApart_34 rfl ?_
          refine z_getr (pc := 35) fdX9_23 (by decide) sm_0 rfl rfl dX9_isApart_35 ?_
          refine z_iconst (pc := 38) (3 : Int32) dX9_isApart_38 (by decide) ?_
          refine z_iald (pc := 39) (by decide) sm_4 rfl dX9_isApart_39 (fun h18 => ?_)
          refine z_icmp_lt (pc := 40) (tgt := 47) dX9_isApart_40 (by decide) (fun c19 => ?_) (fun c20 => ?_)
          · refine z_loc (L' := [.null, .null, .null, .null]) ⟨Or.inl rfl, ⟨Or.inl rfl, ⟨Or.inl rfl, ⟨Or.inl rfl, trivial⟩⟩⟩⟩ ?_
            exact hj5 μ17
          · refine z_iconst (pc := 43) (1 : Int32) dX9_isApart_43 (by decide) ?_
            refine z_goto (pc := 44) (tgt := 48) dX9_isApart_44 (by decide) ?_
            refine z_loc (L' := [.null, .null, .null, .null]) ⟨Or.inl rfl, ⟨Or.inl rfl, ⟨Or.inl rfl, ⟨Or.inl rfl, trivial⟩⟩⟩⟩ ?_
            exact hj3 (1 : Int32) μ17
def f9_behind (x1 : Int32) (x2 : Int32) (x3 : Int32) (μ : zMem) : zRes := zin (x2 / (4 : Int32)) 4 (zlet (μ 1129 (x2 / (4 : Int32)).toNatClampNeg) (fun (v2 : Int32) => zin (zrem x2 (4 : Int32)) 4 (zlet (μ 1129 (zrem x2 (4 : Int32)).toNatClampNeg) (fun (v4 : Int32) => bnd0 (f9_becomes x1 x3 μ) (fun (v5 : Int32) (μ6 : zMem) => zlet (fun (μ7 : zMem) => some (0, (-1 : Int32), μ7)) (fun j8 => if (zrem x2 (4 : Int32)) ≤ (x2 / (4 : Int32)) then j8 μ6 else if (μ6 0 40) ≤ (zrem x2 (4 : Int32)) then j8 μ6 else bnd0 (f9_isApart v2 v4 x3 μ6) (fun (v13 : Int32) (μ14 : zMem) => if v13 = 0 then j8 μ14 else bnd0 (f9_nears v2 v4 x3 μ14) (fun (v17 : Int32) (μ18 : zMem) => bnd0 (f9_stateNow x3 μ18) (fun (v19 : Int32) (μ20 : zMem) => some (0, v19, μ20))))))))))
set_option maxHeartbeats 1000000 in
theorem t9_behind (x1 : Int32) (x2 : Int32) (x3 : Int32) (μ : zMem) : zMR yX9_behind cX9_behind 6 (some .int) 3 [.ref 0, .int x1, .int x2, .int x3] 1134 SM μ (f9_behind x1 x2 x3 μ) := by
  refine zMR_of (by decide +kernel) rfl (Nat.le_of_ble_eq_true rfl) (L := [.ref 0, .int x1, .int x2, .int x3, .null, .null]) rfl ?_
  unfold f9_behind
  refine z_aload_n (pc := 0) dX9_behind_0 rfl ?_
  refine z_getr (pc := 1) fdX9_91 (by decide) sm_0 rfl rfl dX9_behind_1 ?_
  refine z_iload_n (pc := 4) dX9_behind_4 rfl ?_
  refine z_iconst (pc := 5) (4 : Int32) dX9_behind_5 (by decide) ?_
  refine z_idivc (pc := 6) dX9_behind_6 (by decide) ?_
  refine z_iald (pc := 7) (by decide) sm_1129 rfl dX9_behind_7 (fun h1 => ?_)
  refine z_val (fun v2 => ?_)
  refine z_istore (pc := 8) (L' := [.ref 0, .int x1, .int x2, .int x3, .int v2, .null]) dX9_behind_8 (by decide) rfl ?_
  refine z_aload_n (pc := 10) dX9_behind_10 rfl ?_
  refine z_getr (pc := 11) fdX9_91 (by decide) sm_0 rfl rfl dX9_behind_11 ?_
  refine z_iload_n (pc := 14) dX9_behind_14 rfl ?_
  refine z_iconst (pc := 15) (4 : Int32) dX9_behind_15 (by decide) ?_
  refine z_iremc (pc := 16) dX9_behind_16 (by decide) ?_
  refine z_iald (pc := 17) (by decide) sm_1129 rfl dX9_behind_17 (fun h3 => ?_)
  refine z_val (fun v4 => ?_)
  refine z_istore (pc := 18) (L' := [.ref 0, .int x1, .int x2, .int x3, .int v2, .int v4]) dX9_behind_18 (by decide) rfl ?_
  refine z_aload_n (pc := 20) dX9_behind_20 rfl ?_
  refine z_iload_n (pc := 21) dX9_behind_21 rfl ?_
  refine z_iload_n (pc := 22) dX9_behind_22 rfl ?_
  refine z_callV (As := [.int x1, .int x3]) (pc := 23) (ret' := none) kvX9_325 (t9_becomes _ _ _) (by decide) (by decide) sm_0  rfl rfl (Nat.le_of_ble_eq_true rfl) dX9_behind_23 (fun v5 μ6 => ?_)
  refine z_iload_n (pc := 26) dX9_behind_26 rfl ?_
  refine z_iconst (pc := 27) (4 : Int32) dX9_behind_27 (by decide) ?_
  refine z_idivc (pc := 28) dX9_behind_28 (by decide) ?_
  refine z_iload_n (pc := 29) dX9_behind_29 rfl ?_
  refine z_iconst (pc := 30) (4 : Int32) dX9_behind_30 (by decide) ?_
  refine z_iremc (pc := 31) dX9_behind_31 (by decide) ?_
  refine z_let (fun (j : zMem → zRes) => ∀ (μ7 : zMem), zR yX9_behind cX9_behind 6 (some .int) 3 57 [.null, .null, .null, .null, .null, .null] [] 1134 SM μ7 (j μ7)) ?_ (fun j8 hj8 => ?_)
  · intro μ7
    refine z_iconst (pc := 57) (-1 : Int32) dX9_behind_57 (by decide) ?_
    exact z_iret (pc := 58) rfl dX9_behind_58
  · refine z_icmp_ge (pc := 32) (tgt := 57) dX9_behind_32 (by decide) (fun c9 => ?_) (fun c10 => ?_)
    · refine z_loc (L' := [.null, .null, .null, .null, .null, .null]) ⟨Or.inl rfl, ⟨Or.inl rfl, ⟨Or.inl rfl, ⟨Or.inl rfl, ⟨Or.inl rfl, ⟨Or.inl rfl, trivial⟩⟩⟩⟩⟩⟩ ?_
      exact hj8 μ6
    · refine z_iload_n (pc := 35) dX9_behind_35 rfl ?_
      refine z_iconst (pc := 36) (4 : Int32) dX9_behind_36 (by decide) ?_
      refine z_iremc (pc := 37) dX9_behind_37 (by decide) ?_
      refine z_aload_n (pc := 38) dX9_behind_38 rfl ?_
      refine z_geti (pc := 39) fdX9_322 (by decide) sm_0 rfl dX9_behind_39 ?_
      refine z_icmp_ge (pc := 42) (tgt := 57) dX9_behind_42 (by decide) (fun c11 => ?_) (fun c12 => ?_)
      · refine z_loc (L' := [.null, .null, .null, .null, .null, .null]) ⟨Or.inl rfl, ⟨Or.inl rfl, ⟨Or.inl rfl, ⟨Or.inl rfl, ⟨Or.inl rfl, ⟨Or.inl rfl, trivial⟩⟩⟩⟩⟩⟩ ?_
        exact hj8 μ6
      · refine z_aload_n (pc := 45) dX9_behind_45 rfl ?_
        refine z_iload (pc := 46) dX9_behind_46 rfl ?_
        refine z_iload (pc := 48) dX9_behind_48 rfl ?_
        refine z_iload_n (pc := 50) dX9_behind_50 rfl ?_
        refine z_callV (As := [.int v2, .int v4, .int x3]) (pc := 51) (ret' := some .boolean) kvX9_328 (t9_isApart _ _ _ _) (by decide) (by decide) sm_0  rfl rfl (Nat.le_of_ble_eq_true rfl) dX9_behind_51 (fun v13 μ14 => ?_)
        refine z_if_ne (pc := 54) (tgt := 59) dX9_behind_54 (by decide) (fun c15 => ?_) (fun c16 => ?_)
        · refine z_aload_n (pc := 59) dX9_behind_59 rfl ?_
          refine z_iload (pc := 60) dX9_behind_60 rfl ?_
          refine z_iload (pc := 62) dX9_behind_62 rfl ?_
          refine z_iload_n (pc := 64) dX9_behind_64 rfl ?_
          refine z_callV (As := [.int v2, .int v4, .int x3]) (pc := 65) (ret' := none) kvX9_232 (t9_nears _ _ _ _) (by decide) (by decide) sm_0  rfl rfl (Nat.le_of_ble_eq_true rfl) dX9_behind_65 (fun v17 μ18 => ?_)
          refine z_aload_n (pc := 68) dX9_behind_68 rfl ?_
          refine z_iload_n (pc := 69) dX9_behind_69 rfl ?_
          refine z_callV (As := [.int x3]) (pc := 70) (ret' := some .int) kvX9_331 (t9_stateNow _ _) (by decide) (by decide) sm_0  rfl rfl (Nat.le_of_ble_eq_true rfl) dX9_behind_70 (fun v19 μ20 => ?_)
          exact z_iret (pc := 73) rfl dX9_behind_73
        · refine z_loc (L' := [.null, .null, .null, .null, .null, .null]) ⟨Or.inl rfl, ⟨Or.inl rfl, ⟨Or.inl rfl, ⟨Or.inl rfl, ⟨Or.inl rfl, ⟨Or.inl rfl, trivial⟩⟩⟩⟩⟩⟩ ?_
          exact hj8 μ14
def f9_more (x0 : Int32) (x1 : Int32) (μ : zMem) : zRes := zlet (fun (s1 : Int32) => some (0, s1, μ)) (fun j2 => if x0 ≤ x1 then j2 x1 else j2 x0)
set_option maxHeartbeats 1000000 in
theorem t9_more (x0 : Int32) (x1 : Int32) (μ : zMem) : zMR yX9_more cX9_more 2 (some .int) 1 [.int x0, .int x1] 1134 SM μ (f9_more x0 x1 μ) := by
  refine zMR_of (by decide +kernel) rfl (Nat.le_of_ble_eq_true rfl) (L := [.int x0, .int x1]) rfl ?_
  unfold f9_more
  refine z_iload_n (pc := 0) dX9_more_0 rfl ?_
  refine z_iload_n (pc := 1) dX9_more_1 rfl ?_
  refine z_let (fun (j : Int32 → zRes) => ∀ (s1 : Int32), zR yX9_more cX9_more 2 (some .int) 1 10 [.null, .null] [.int s1] 1134 SM μ (j s1)) ?_ (fun j2 hj2 => ?_)
  · intro s1
    exact z_iret (pc := 10) rfl dX9_more_10
  · refine z_icmp_le (pc := 2) (tgt := 9) dX9_more_2 (by decide) (fun c3 => ?_) (fun c4 => ?_)
    · refine z_iload_n (pc := 9) dX9_more_9 rfl ?_
      refine z_loc (L' := [.null, .null]) ⟨Or.inl rfl, ⟨Or.inl rfl, trivial⟩⟩ ?_
      exact hj2 x1
    · refine z_iload_n (pc := 5) dX9_more_5 rfl ?_
      refine z_goto (pc := 6) (tgt := 10) dX9_more_6 (by decide) ?_
      refine z_loc (L' := [.null, .null]) ⟨Or.inl rfl, ⟨Or.inl rfl, trivial⟩⟩ ?_
      exact hj2 x0
def f9_mostFrom_L41 (F : Int32 → Int32 → zMem → zRes) (x1 : Int32) (x2 : Int32) (K106 : Int32 → zMem → zRes) : Nat → Int32 → Int32 → zMem → zRes
  | 0, _, _, _ => none
  | n + 1, x3, x4, μ => if (16 : Int32) ≤ x4 then K106 x3 μ else if x3 = (-1 : Int32) then K106 x3 μ else bnd0 (f9_behind x1 x4 x2 μ) (fun (v20 : Int32) (μ21 : zMem) => zlet (fun (x3_22 : Int32) (μ23 : zMem) => f9_mostFrom_L41 F x1 x2 K106 n x3_22 (x4 + (1 : Int32)) μ23) (fun j24 => if v20 = (-1 : Int32) then j24 x3 μ21 else bnd0 (F v20 x2 μ21) (fun (v27 : Int32) (μ28 : zMem) => zlet (fun (s29 : Int32) (μ30 : zMem) => j24 s29 μ30) (fun j31 => if v27 = (-1 : Int32) then j31 (-1 : Int32) μ28 else bnd0 (f9_more x3 (v27 + (1 : Int32)) μ28) (fun (v34 : Int32) (μ35 : zMem) => j31 v34 μ35)))))
def f9_mostFromB (F : Int32 → Int32 → zMem → zRes) (x1 : Int32) (x2 : Int32) (μ : zMem) : zRes := zin x1 6561 (if (μ 1130 x1.toNatClampNeg) = (1 : Int32) then some (0, (-1 : Int32), μ) else zin x1 6561 (if (μ 1130 x1.toNatClampNeg) = (2 : Int32) then zin x1 6561 (some (0, μ 1131 x1.toNatClampNeg, μ)) else zin x1 6561 (zlet (zset μ 1130 x1.toNatClampNeg (1 : Int32)) (fun (μ8 : zMem) => zlet (fun (x3_9 : Int32) (μ10 : zMem) => zin x1 6561 (zlet (zset μ10 1130 x1.toNatClampNeg (2 : Int32)) (fun (μ12 : zMem) => zin x1 6561 (zlet (zset μ12 1131 x1.toNatClampNeg x3_9) (fun (μ14 : zMem) => some (0, x3_9, μ14)))))) (fun j15 => f9_mostFrom_L41 F x1 x2 (fun (x3_36 : Int32) (μ37 : zMem) => j15 x3_36 μ37) zF (0 : Int32) (0 : Int32) μ8)))))
def f9_mostFrom : Nat → Int32 → Int32 → zMem → zRes
  | 0, _, _, _ => none
  | n + 1, x1, x2, μ => f9_mostFromB  (f9_mostFrom n) x1 x2 μ
set_option maxHeartbeats 1000000 in
theorem t9_mostFrom_L41 {d dd : Nat} (hd1 : dd + 1 ≤ d) (hd2 : 4 ≤ d) (F : Int32 → Int32 → zMem → zRes) (hF : ∀ (x1 : Int32) (x2 : Int32) (μ : zMem), zMR yX9_mostFrom cX9_mostFrom 7 (some .int) dd [.ref 0, .int x1, .int x2] 1134 SM μ (F x1 x2 μ)) (x1 : Int32) (x2 : Int32) (K106 : Int32 → zMem → zRes) (hK106 : ∀ (x3 : Int32) (μ : zMem), zR yX9_mostFrom cX9_mostFrom 7 (some .int) d 106 [.ref 0, .int x1, .null, .int x3, .null, .null, .null] [] 1134 SM μ (K106 x3 μ)) : ∀ (n : Nat) (x3 : Int32) (x4 : Int32) (μ : zMem), zR yX9_mostFrom cX9_mostFrom 7 (some .int) d 41 [.ref 0, .int x1, .int x2, .int x3, .int x4, .null, .null] [] 1134 SM μ (f9_mostFrom_L41 F x1 x2 K106 n x3 x4 μ) := by
  intro n
  induction n with
  | zero => intro x3 x4 μ; intro q hq; cases hq
  | succ n ih =>
    intro x3 x4 μ
    unfold f9_mostFrom_L41
    refine z_iload (pc := 41) dX9_mostFrom_41 rfl ?_
    refine z_bipush (pc := 43) (16 : Int32) dX9_mostFrom_43 (by decide) ?_
    refine z_icmp_ge (pc := 45) (tgt := 106) dX9_mostFrom_45 (by decide) (fun c16 => ?_) (fun c17 => ?_)
    · refine z_loc (L' := [.ref 0, .int x1, .null, .int x3, .null, .null, .null]) ⟨Or.inr rfl, ⟨Or.inr rfl, ⟨Or.inl rfl, ⟨Or.inr rfl, ⟨Or.inl rfl, ⟨Or.inl rfl, ⟨Or.inl rfl, trivial⟩⟩⟩⟩⟩⟩⟩ ?_
      exact hK106 x3 μ
    · refine z_iload_n (pc := 48) dX9_mostFrom_48 rfl ?_
      refine z_iconst (pc := 49) (-1 : Int32) dX9_mostFrom_49 (by decide) ?_
      refine z_icmp_eq (pc := 50) (tgt := 106) dX9_mostFrom_50 (by decide) (fun c18 => ?_) (fun c19 => ?_)
      · refine z_loc (L' := [.ref 0, .int x1, .null, .int x3, .null, .null, .null]) ⟨Or.inr rfl, ⟨Or.inr rfl, ⟨Or.inl rfl, ⟨Or.inr rfl, ⟨Or.inl rfl, ⟨Or.inl rfl, ⟨Or.inl rfl, trivial⟩⟩⟩⟩⟩⟩⟩ ?_
        exact hK106 x3 μ
      · refine z_aload_n (pc := 53) dX9_mostFrom_53 rfl ?_
        refine z_iload_n (pc := 54) dX9_mostFrom_54 rfl ?_
        refine z_iload (pc := 55) dX9_mostFrom_55 rfl ?_
        refine z_iload_n (pc := 57) dX9_mostFrom_57 rfl ?_
        refine z_callV (As := [.int x1, .int x4, .int x2]) (pc := 58) (ret' := some .int) kvX9_334 (t9_behind _ _ _ _) (Nat.le_trans (by decide) hd2) (by decide) sm_0  rfl rfl (Nat.le_of_ble_eq_true rfl) dX9_mostFrom_58 (fun v20 μ21 => ?_)
        refine z_istore (pc := 61) (L' := [.ref 0, .int x1, .int x2, .int x3, .int x4, .int v20, .null]) dX9_mostFrom_61 (by decide) rfl ?_
        refine z_iload (pc := 63) dX9_mostFrom_63 rfl ?_
        refine z_iconst (pc := 65) (-1 : Int32) dX9_mostFrom_65 (by decide) ?_
        refine z_let (fun (j : Int32 → zMem → zRes) => ∀ (x3_22 : Int32) (μ23 : zMem), zR yX9_mostFrom cX9_mostFrom 7 (some .int) d 100 [.ref 0, .int x1, .int x2, .int x3_22, .int x4, .null, .null] [] 1134 SM μ23 (j x3_22 μ23)) ?_ (fun j24 hj24 => ?_)
        · intro x3_22 μ23
          refine z_iinc (pc := 100) (v := x4 + (1 : Int32)) (L' := [.ref 0, .int x1, .int x2, .int x3_22, .int (x4 + (1 : Int32)), .null, .null]) dX9_mostFrom_100 (by decide) rfl (congrArg _ (by decide)) rfl ?_
          refine z_goto (pc := 103) (tgt := 41) dX9_mostFrom_103 (by decide) ?_
          exact ih x3_22 (x4 + (1 : Int32)) μ23
        · refine z_icmp_ne (pc := 66) (tgt := 72) dX9_mostFrom_66 (by decide) (fun c25 => ?_) (fun c26 => ?_)
          · refine z_aload_n (pc := 72) dX9_mostFrom_72 rfl ?_
            refine z_iload (pc := 73) dX9_mostFrom_73 rfl ?_
            refine z_iload_n (pc := 75) dX9_mostFrom_75 rfl ?_
            refine z_callV (As := [.int v20, .int x2]) (pc := 76) (ret' := some .int) kvX9_337 (hF _ _ _) hd1 (by decide) sm_0  rfl rfl (Nat.le_of_ble_eq_true rfl) dX9_mostFrom_76 (fun v27 μ28 => ?_)
            refine z_istore (pc := 79) (L' := [.ref 0, .int x1, .int x2, .int x3, .int x4, .int v20, .int v27]) dX9_mostFrom_79 (by decide) rfl ?_
            refine z_iload (pc := 81) dX9_mostFrom_81 rfl ?_
            refine z_iconst (pc := 83) (-1 : Int32) dX9_mostFrom_83 (by decide) ?_
            refine z_let (fun (j : Int32 → zMem → zRes) => ∀ (s29 : Int32) (μ30 : zMem), zR yX9_mostFrom cX9_mostFrom 7 (some .int) d 99 [.ref 0, .int x1, .int x2, .null, .int x4, .null, .null] [.int s29] 1134 SM μ30 (j s29 μ30)) ?_ (fun j31 hj31 => ?_)
            · intro s29 μ30
              refine z_istore_n (pc := 99) (L' := [.ref 0, .int x1, .int x2, .int s29, .int x4, .null, .null]) dX9_mostFrom_99 (by decide) rfl ?_
              exact hj24 s29 μ30
            · refine z_icmp_ne (pc := 84) (tgt := 91) dX9_mostFrom_84 (by decide) (fun c32 => ?_) (fun c33 => ?_)
              · refine z_iload_n (pc := 91) dX9_mostFrom_91 rfl ?_
                refine z_iload (pc := 92) dX9_mostFrom_92 rfl ?_
                refine z_iconst (pc := 94) (1 : Int32) dX9_mostFrom_94 (by decide) ?_
                refine z_iadd (pc := 95) dX9_mostFrom_95 ?_
                refine z_callS (As := [.int x3, .int (v27 + (1 : Int32))]) (pc := 96) (ret' := some .int) ksX9_341 (t9_more _ _ _) (Nat.le_trans (by decide) hd2)  rfl rfl (Nat.le_of_ble_eq_true rfl) dX9_mostFrom_96 (fun v34 μ35 => ?_)
                refine z_loc (L' := [.ref 0, .int x1, .int x2, .null, .int x4, .null, .null]) ⟨Or.inr rfl, ⟨Or.inr rfl, ⟨Or.inr rfl, ⟨Or.inl rfl, ⟨Or.inr rfl, ⟨Or.inl rfl, ⟨Or.inl rfl, trivial⟩⟩⟩⟩⟩⟩⟩ ?_
                exact hj31 v34 μ35
              · refine z_iconst (pc := 87) (-1 : Int32) dX9_mostFrom_87 (by decide) ?_
                refine z_goto (pc := 88) (tgt := 99) dX9_mostFrom_88 (by decide) ?_
                refine z_loc (L' := [.ref 0, .int x1, .int x2, .null, .int x4, .null, .null]) ⟨Or.inr rfl, ⟨Or.inr rfl, ⟨Or.inr rfl, ⟨Or.inl rfl, ⟨Or.inr rfl, ⟨Or.inl rfl, ⟨Or.inl rfl, trivial⟩⟩⟩⟩⟩⟩⟩ ?_
                exact hj31 (-1 : Int32) μ28
          · refine z_goto (pc := 69) (tgt := 100) dX9_mostFrom_69 (by decide) ?_
            refine z_loc (L' := [.ref 0, .int x1, .int x2, .int x3, .int x4, .null, .null]) ⟨Or.inr rfl, ⟨Or.inr rfl, ⟨Or.inr rfl, ⟨Or.inr rfl, ⟨Or.inr rfl, ⟨Or.inl rfl, ⟨Or.inl rfl, trivial⟩⟩⟩⟩⟩⟩⟩ ?_
            exact hj24 x3 μ21
set_option maxHeartbeats 1000000 in
theorem t9_mostFromB {d dd : Nat} (hd1 : dd + 1 ≤ d) (hd2 : 4 ≤ d) (F : Int32 → Int32 → zMem → zRes) (hF : ∀ (x1 : Int32) (x2 : Int32) (μ : zMem), zMR yX9_mostFrom cX9_mostFrom 7 (some .int) dd [.ref 0, .int x1, .int x2] 1134 SM μ (F x1 x2 μ)) (x1 : Int32) (x2 : Int32) (μ : zMem) : zMR yX9_mostFrom cX9_mostFrom 7 (some .int) d [.ref 0, .int x1, .int x2] 1134 SM μ (f9_mostFromB F x1 x2 μ) := by
  refine zMR_of (by decide +kernel) rfl (Nat.le_of_ble_eq_true rfl) (L := [.ref 0, .int x1, .int x2, .null, .null, .null, .null]) rfl ?_
  unfold f9_mostFromB
  refine z_aload_n (pc := 0) dX9_mostFrom_0 rfl ?_
  refine z_getr (pc := 1) fdX9_94 (by decide) sm_0 rfl rfl dX9_mostFrom_1 ?_
  refine z_iload_n (pc := 4) dX9_mostFrom_4 rfl ?_
  refine z_iald (pc := 5) (by decide) sm_1130 rfl dX9_mostFrom_5 (fun h1 => ?_)
  refine z_iconst (pc := 6) (1 : Int32) dX9_mostFrom_6 (by decide) ?_
  refine z_icmp_ne (pc := 7) (tgt := 12) dX9_mostFrom_7 (by decide) (fun c2 => ?_) (fun c3 => ?_)
  · refine z_aload_n (pc := 12) dX9_mostFrom_12 rfl ?_
    refine z_getr (pc := 13) fdX9_94 (by decide) sm_0 rfl rfl dX9_mostFrom_13 ?_
    refine z_iload_n (pc := 16) dX9_mostFrom_16 rfl ?_
    refine z_iald (pc := 17) (by decide) sm_1130 rfl dX9_mostFrom_17 (fun h4 => ?_)
    refine z_iconst (pc := 18) (2 : Int32) dX9_mostFrom_18 (by decide) ?_
    refine z_icmp_ne (pc := 19) (tgt := 29) dX9_mostFrom_19 (by decide) (fun c5 => ?_) (fun c6 => ?_)
    · refine z_aload_n (pc := 29) dX9_mostFrom_29 rfl ?_
      refine z_getr (pc := 30) fdX9_94 (by decide) sm_0 rfl rfl dX9_mostFrom_30 ?_
      refine z_iload_n (pc := 33) dX9_mostFrom_33 rfl ?_
      refine z_iconst (pc := 34) (1 : Int32) dX9_mostFrom_34 (by decide) ?_
      refine z_iast (pc := 35) (by decide) sm_1130 rfl dX9_mostFrom_35 (fun h7 => ?_)
      refine z_mem (fun μ8 => ?_)
      refine z_iconst (pc := 36) (0 : Int32) dX9_mostFrom_36 (by decide) ?_
      refine z_istore_n (pc := 37) (L' := [.ref 0, .int x1, .int x2, .int (0 : Int32), .null, .null, .null]) dX9_mostFrom_37 (by decide) rfl ?_
      refine z_iconst (pc := 38) (0 : Int32) dX9_mostFrom_38 (by decide) ?_
      refine z_istore (pc := 39) (L' := [.ref 0, .int x1, .int x2, .int (0 : Int32), .int (0 : Int32), .null, .null]) dX9_mostFrom_39 (by decide) rfl ?_
      refine z_let (fun (j : Int32 → zMem → zRes) => ∀ (x3_9 : Int32) (μ10 : zMem), zR yX9_mostFrom cX9_mostFrom 7 (some .int) d 106 [.ref 0, .int x1, .null, .int x3_9, .null, .null, .null] [] 1134 SM μ10 (j x3_9 μ10)) ?_ (fun j15 hj15 => ?_)
      · intro x3_9 μ10
        refine z_aload_n (pc := 106) dX9_mostFrom_106 rfl ?_
        refine z_getr (pc := 107) fdX9_94 (by decide) sm_0 rfl rfl dX9_mostFrom_107 ?_
        refine z_iload_n (pc := 110) dX9_mostFrom_110 rfl ?_
        refine z_iconst (pc := 111) (2 : Int32) dX9_mostFrom_111 (by decide) ?_
        refine z_iast (pc := 112) (by decide) sm_1130 rfl dX9_mostFrom_112 (fun h11 => ?_)
        refine z_mem (fun μ12 => ?_)
        refine z_aload_n (pc := 113) dX9_mostFrom_113 rfl ?_
        refine z_getr (pc := 114) fdX9_97 (by decide) sm_0 rfl rfl dX9_mostFrom_114 ?_
        refine z_iload_n (pc := 117) dX9_mostFrom_117 rfl ?_
        refine z_iload_n (pc := 118) dX9_mostFrom_118 rfl ?_
        refine z_iast (pc := 119) (by decide) sm_1131 rfl dX9_mostFrom_119 (fun h13 => ?_)
        refine z_mem (fun μ14 => ?_)
        refine z_iload_n (pc := 120) dX9_mostFrom_120 rfl ?_
        exact z_iret (pc := 121) rfl dX9_mostFrom_121
      · refine t9_mostFrom_L41 hd1 hd2 _ hF _ _ _ (fun x3_36 μ37 => ?_) zF _ _ _
        · exact hj15 x3_36 μ37
    · refine z_aload_n (pc := 22) dX9_mostFrom_22 rfl ?_
      refine z_getr (pc := 23) fdX9_97 (by decide) sm_0 rfl rfl dX9_mostFrom_23 ?_
      refine z_iload_n (pc := 26) dX9_mostFrom_26 rfl ?_
      refine z_iald (pc := 27) (by decide) sm_1131 rfl dX9_mostFrom_27 (fun h38 => ?_)
      exact z_iret (pc := 28) rfl dX9_mostFrom_28
  · refine z_iconst (pc := 10) (-1 : Int32) dX9_mostFrom_10 (by decide) ?_
    exact z_iret (pc := 11) rfl dX9_mostFrom_11
theorem t9_mostFrom : ∀ (n : Nat) (x1 : Int32) (x2 : Int32) (μ : zMem), zMR yX9_mostFrom cX9_mostFrom 7 (some .int) (n + 4) [.ref 0, .int x1, .int x2] 1134 SM μ (f9_mostFrom n x1 x2 μ) := by
  intro n
  induction n with
  | zero => intro x1 x2 μ q hq; cases hq
  | succ n ih =>
    intro x1 x2 μ
    exact t9_mostFromB (by omega) (by omega) _ ih x1 x2 μ
def f9_soonest_L2 (K22 : zMem → zRes) : Nat → Int32 → zMem → zRes
  | 0, _, _ => none
  | n + 1, x3, μ => if (6561 : Int32) ≤ x3 then K22 μ else zin x3 6561 (zlet (zset μ 1133 x3.toNatClampNeg (-1 : Int32)) (fun (μ4 : zMem) => f9_soonest_L2 K22 n (x3 + (1 : Int32)) μ4))
def f9_soonest_L53 (x2 : Int32) (x4 : Int32) (K140 : Int32 → Int32 → zMem → zRes) : Nat → Int32 → Int32 → Int32 → zMem → zRes
  | 0, _, _, _, _ => none
  | n + 1, x3, x5, x6, μ => if (16 : Int32) ≤ x6 then K140 x3 x5 μ else zin x4 6561 (bnd0 (f9_behind (μ 1132 x4.toNatClampNeg) x6 x2 μ) (fun (v15 : Int32) (μ16 : zMem) => zlet (fun (x3_17 : Int32) (x5_18 : Int32) (μ19 : zMem) => f9_soonest_L53 x2 x4 K140 n x3_17 x5_18 (x6 + (1 : Int32)) μ19) (fun j20 => if v15 = (-1 : Int32) then j20 x3 x5 μ16 else zin v15 6561 (if (μ16 1133 v15.toNatClampNeg) = (-1 : Int32) then zin x4 6561 (zin (μ16 1132 x4.toNatClampNeg) 6561 (zin v15 6561 (zlet (zset μ16 1133 v15.toNatClampNeg ((μ16 1133 (μ16 1132 x4.toNatClampNeg).toNatClampNeg) + (1 : Int32))) (fun (μ29 : zMem) => zin x3 6561 (zlet (zset μ29 1132 x3.toNatClampNeg v15) (fun (μ31 : zMem) => j20 (x3 + (1 : Int32)) (1 : Int32) μ31)))))) else j20 x3 (1 : Int32) μ16))))
def f9_soonest_L41 (x2 : Int32) (K164 : zMem → zRes) (K145 : Int32 → zMem → zRes) : Nat → Int32 → Int32 → zMem → zRes
  | 0, _, _, _ => none
  | n + 1, x3, x4, μ => if x3 ≤ x4 then K164 μ else f9_soonest_L53 x2 x4 (fun (x3_32 : Int32) (x5_33 : Int32) (μ34 : zMem) => if x5_33 = 0 then K145 x4 μ34 else f9_soonest_L41 x2 K164 K145 n x3_32 (x4 + (1 : Int32)) μ34) zF x3 (0 : Int32) (0 : Int32) μ
def f9_soonest (x1 : Int32) (x2 : Int32) (μ : zMem) : zRes := f9_soonest_L2 (fun (μ5 : zMem) => zin (0 : Int32) 6561 (zlet (zset μ5 1132 (0 : Int32).toNatClampNeg x1) (fun (μ7 : zMem) => zin x1 6561 (zlet (zset μ7 1133 x1.toNatClampNeg (0 : Int32)) (fun (μ9 : zMem) => f9_soonest_L41 x2 (fun (μ37 : zMem) => some (0, (-1 : Int32), μ37)) (fun (x4_38 : Int32) (μ39 : zMem) => zin x4_38 6561 (zin (μ39 1132 x4_38.toNatClampNeg) 6561 (some (0, μ39 1133 (μ39 1132 x4_38.toNatClampNeg).toNatClampNeg, μ39)))) zF (1 : Int32) (0 : Int32) μ9))))) zF (0 : Int32) μ
set_option maxHeartbeats 1000000 in
theorem t9_soonest_L2 (x1 : Int32) (x2 : Int32) (K22 : zMem → zRes) (hK22 : ∀ (μ : zMem), zR yX9_soonest cX9_soonest 8 (some .int) 4 22 [.ref 0, .int x1, .int x2, .null, .null, .null, .null, .null] [] 1134 SM μ (K22 μ)) : ∀ (n : Nat) (x3 : Int32) (μ : zMem), zR yX9_soonest cX9_soonest 8 (some .int) 4 2 [.ref 0, .int x1, .int x2, .int x3, .null, .null, .null, .null] [] 1134 SM μ (f9_soonest_L2 K22 n x3 μ) := by
  intro n
  induction n with
  | zero => intro x3 μ; intro q hq; cases hq
  | succ n ih =>
    intro x3 μ
    unfold f9_soonest_L2
    refine z_iload_n (pc := 2) dX9_soonest_2 rfl ?_
    refine z_sipush (pc := 3) (6561 : Int32) dX9_soonest_3 (by decide) ?_
    refine z_icmp_ge (pc := 6) (tgt := 22) dX9_soonest_6 (by decide) (fun c1 => ?_) (fun c2 => ?_)
    · refine z_loc (L' := [.ref 0, .int x1, .int x2, .null, .null, .null, .null, .null]) ⟨Or.inr rfl, ⟨Or.inr rfl, ⟨Or.inr rfl, ⟨Or.inl rfl, ⟨Or.inl rfl, ⟨Or.inl rfl, ⟨Or.inl rfl, ⟨Or.inl rfl, trivial⟩⟩⟩⟩⟩⟩⟩⟩ ?_
      exact hK22 μ
    · refine z_aload_n (pc := 9) dX9_soonest_9 rfl ?_
      refine z_getr (pc := 10) fdX9_103 (by decide) sm_0 rfl rfl dX9_soonest_10 ?_
      refine z_iload_n (pc := 13) dX9_soonest_13 rfl ?_
      refine z_iconst (pc := 14) (-1 : Int32) dX9_soonest_14 (by decide) ?_
      refine z_iast (pc := 15) (by decide) sm_1133 rfl dX9_soonest_15 (fun h3 => ?_)
      refine z_mem (fun μ4 => ?_)
      refine z_iinc (pc := 16) (v := x3 + (1 : Int32)) (L' := [.ref 0, .int x1, .int x2, .int (x3 + (1 : Int32)), .null, .null, .null, .null]) dX9_soonest_16 (by decide) rfl (congrArg _ (by decide)) rfl ?_
      refine z_goto (pc := 19) (tgt := 2) dX9_soonest_19 (by decide) ?_
      exact ih (x3 + (1 : Int32)) μ4
set_option maxHeartbeats 1000000 in
theorem t9_soonest_L53 (x2 : Int32) (x4 : Int32) (K140 : Int32 → Int32 → zMem → zRes) (hK140 : ∀ (x3 : Int32) (x5 : Int32) (μ : zMem), zR yX9_soonest cX9_soonest 8 (some .int) 4 140 [.ref 0, .null, .int x2, .int x3, .int x4, .int x5, .null, .null] [] 1134 SM μ (K140 x3 x5 μ)) : ∀ (n : Nat) (x3 : Int32) (x5 : Int32) (x6 : Int32) (μ : zMem), zR yX9_soonest cX9_soonest 8 (some .int) 4 53 [.ref 0, .null, .int x2, .int x3, .int x4, .int x5, .int x6, .null] [] 1134 SM μ (f9_soonest_L53 x2 x4 K140 n x3 x5 x6 μ) := by
  intro n
  induction n with
  | zero => intro x3 x5 x6 μ; intro q hq; cases hq
  | succ n ih =>
    intro x3 x5 x6 μ
    unfold f9_soonest_L53
    refine z_iload (pc := 53) dX9_soonest_53 rfl ?_
    refine z_bipush (pc := 55) (16 : Int32) dX9_soonest_55 (by decide) ?_
    refine z_icmp_ge (pc := 57) (tgt := 140) dX9_soonest_57 (by decide) (fun c12 => ?_) (fun c13 => ?_)
    · refine z_loc (L' := [.ref 0, .null, .int x2, .int x3, .int x4, .int x5, .null, .null]) ⟨Or.inr rfl, ⟨Or.inl rfl, ⟨Or.inr rfl, ⟨Or.inr rfl, ⟨Or.inr rfl, ⟨Or.inr rfl, ⟨Or.inl rfl, ⟨Or.inl rfl, trivial⟩⟩⟩⟩⟩⟩⟩⟩ ?_
      exact hK140 x3 x5 μ
    · refine z_aload_n (pc := 60) dX9_soonest_60 rfl ?_
      refine z_aload_n (pc := 61) dX9_soonest_61 rfl ?_
      refine z_getr (pc := 62) fdX9_100 (by decide) sm_0 rfl rfl dX9_soonest_62 ?_
      refine z_iload (pc := 65) dX9_soonest_65 rfl ?_
      refine z_iald (pc := 67) (by decide) sm_1132 rfl dX9_soonest_67 (fun h14 => ?_)
      refine z_iload (pc := 68) dX9_soonest_68 rfl ?_
      refine z_iload_n (pc := 70) dX9_soonest_70 rfl ?_
      refine z_callV (As := [.int (μ 1132 x4.toNatClampNeg), .int x6, .int x2]) (pc := 71) (ret' := some .int) kvX9_334 (t9_behind _ _ _ _) (by decide) (by decide) sm_0  rfl rfl (Nat.le_of_ble_eq_true rfl) dX9_soonest_71 (fun v15 μ16 => ?_)
      refine z_istore (pc := 74) (L' := [.ref 0, .null, .int x2, .int x3, .int x4, .int x5, .int x6, .int v15]) dX9_soonest_74 (by decide) rfl ?_
      refine z_iload (pc := 76) dX9_soonest_76 rfl ?_
      refine z_iconst (pc := 78) (-1 : Int32) dX9_soonest_78 (by decide) ?_
      refine z_let (fun (j : Int32 → Int32 → zMem → zRes) => ∀ (x3_17 : Int32) (x5_18 : Int32) (μ19 : zMem), zR yX9_soonest cX9_soonest 8 (some .int) 4 134 [.ref 0, .null, .int x2, .int x3_17, .int x4, .int x5_18, .int x6, .null] [] 1134 SM μ19 (j x3_17 x5_18 μ19)) ?_ (fun j20 hj20 => ?_)
      · intro x3_17 x5_18 μ19
        refine z_iinc (pc := 134) (v := x6 + (1 : Int32)) (L' := [.ref 0, .null, .int x2, .int x3_17, .int x4, .int x5_18, .int (x6 + (1 : Int32)), .null]) dX9_soonest_134 (by decide) rfl (congrArg _ (by decide)) rfl ?_
        refine z_goto (pc := 137) (tgt := 53) dX9_soonest_137 (by decide) ?_
        exact ih x3_17 x5_18 (x6 + (1 : Int32)) μ19
      · refine z_icmp_ne (pc := 79) (tgt := 85) dX9_soonest_79 (by decide) (fun c21 => ?_) (fun c22 => ?_)
        · refine z_iconst (pc := 85) (1 : Int32) dX9_soonest_85 (by decide) ?_
          refine z_istore (pc := 86) (L' := [.ref 0, .null, .int x2, .int x3, .int x4, .int (1 : Int32), .int x6, .int v15]) dX9_soonest_86 (by decide) rfl ?_
          refine z_aload_n (pc := 88) dX9_soonest_88 rfl ?_
          refine z_getr (pc := 89) fdX9_103 (by decide) sm_0 rfl rfl dX9_soonest_89 ?_
          refine z_iload (pc := 92) dX9_soonest_92 rfl ?_
          refine z_iald (pc := 94) (by decide) sm_1133 rfl dX9_soonest_94 (fun h23 => ?_)
          refine z_iconst (pc := 95) (-1 : Int32) dX9_soonest_95 (by decide) ?_
          refine z_icmp_eq (pc := 96) (tgt := 102) dX9_soonest_96 (by decide) (fun c24 => ?_) (fun c25 => ?_)
          · refine z_aload_n (pc := 102) dX9_soonest_102 rfl ?_
            refine z_getr (pc := 103) fdX9_103 (by decide) sm_0 rfl rfl dX9_soonest_103 ?_
            refine z_iload (pc := 106) dX9_soonest_106 rfl ?_
            refine z_aload_n (pc := 108) dX9_soonest_108 rfl ?_
            refine z_getr (pc := 109) fdX9_103 (by decide) sm_0 rfl rfl dX9_soonest_109 ?_
            refine z_aload_n (pc := 112) dX9_soonest_112 rfl ?_
            refine z_getr (pc := 113) fdX9_100 (by decide) sm_0 rfl rfl dX9_soonest_113 ?_
            refine z_iload (pc := 116) dX9_soonest_116 rfl ?_
            refine z_iald (pc := 118) (by decide) sm_1132 rfl dX9_soonest_118 (fun h26 => ?_)
            refine z_iald (pc := 119) (by decide) sm_1133 rfl dX9_soonest_119 (fun h27 => ?_)
            refine z_iconst (pc := 120) (1 : Int32) dX9_soonest_120 (by decide) ?_
            refine z_iadd (pc := 121) dX9_soonest_121 ?_
            refine z_iast (pc := 122) (by decide) sm_1133 rfl dX9_soonest_122 (fun h28 => ?_)
            refine z_mem (fun μ29 => ?_)
            refine z_aload_n (pc := 123) dX9_soonest_123 rfl ?_
            refine z_getr (pc := 124) fdX9_100 (by decide) sm_0 rfl rfl dX9_soonest_124 ?_
            refine z_iload_n (pc := 127) dX9_soonest_127 rfl ?_
            refine z_iload (pc := 128) dX9_soonest_128 rfl ?_
            refine z_iast (pc := 130) (by decide) sm_1132 rfl dX9_soonest_130 (fun h30 => ?_)
            refine z_mem (fun μ31 => ?_)
            refine z_iinc (pc := 131) (v := x3 + (1 : Int32)) (L' := [.ref 0, .null, .int x2, .int (x3 + (1 : Int32)), .int x4, .int (1 : Int32), .int x6, .int v15]) dX9_soonest_131 (by decide) rfl (congrArg _ (by decide)) rfl ?_
            refine z_loc (L' := [.ref 0, .null, .int x2, .int (x3 + (1 : Int32)), .int x4, .int (1 : Int32), .int x6, .null]) ⟨Or.inr rfl, ⟨Or.inl rfl, ⟨Or.inr rfl, ⟨Or.inr rfl, ⟨Or.inr rfl, ⟨Or.inr rfl, ⟨Or.inr rfl, ⟨Or.inl rfl, trivial⟩⟩⟩⟩⟩⟩⟩⟩ ?_
            exact hj20 (x3 + (1 : Int32)) (1 : Int32) μ31
          · refine z_goto (pc := 99) (tgt := 134) dX9_soonest_99 (by decide) ?_
            refine z_loc (L' := [.ref 0, .null, .int x2, .int x3, .int x4, .int (1 : Int32), .int x6, .null]) ⟨Or.inr rfl, ⟨Or.inl rfl, ⟨Or.inr rfl, ⟨Or.inr rfl, ⟨Or.inr rfl, ⟨Or.inr rfl, ⟨Or.inr rfl, ⟨Or.inl rfl, trivial⟩⟩⟩⟩⟩⟩⟩⟩ ?_
            exact hj20 x3 (1 : Int32) μ16
        · refine z_goto (pc := 82) (tgt := 134) dX9_soonest_82 (by decide) ?_
          refine z_loc (L' := [.ref 0, .null, .int x2, .int x3, .int x4, .int x5, .int x6, .null]) ⟨Or.inr rfl, ⟨Or.inl rfl, ⟨Or.inr rfl, ⟨Or.inr rfl, ⟨Or.inr rfl, ⟨Or.inr rfl, ⟨Or.inr rfl, ⟨Or.inl rfl, trivial⟩⟩⟩⟩⟩⟩⟩⟩ ?_
          exact hj20 x3 x5 μ16
set_option maxHeartbeats 1000000 in
theorem t9_soonest_L41 (x2 : Int32) (K164 : zMem → zRes) (K145 : Int32 → zMem → zRes) (hK164 : ∀ (μ : zMem), zR yX9_soonest cX9_soonest 8 (some .int) 4 164 [.null, .null, .null, .null, .null, .null, .null, .null] [] 1134 SM μ (K164 μ)) (hK145 : ∀ (x4 : Int32) (μ : zMem), zR yX9_soonest cX9_soonest 8 (some .int) 4 145 [.ref 0, .null, .null, .null, .int x4, .null, .null, .null] [] 1134 SM μ (K145 x4 μ)) : ∀ (n : Nat) (x3 : Int32) (x4 : Int32) (μ : zMem), zR yX9_soonest cX9_soonest 8 (some .int) 4 41 [.ref 0, .null, .int x2, .int x3, .int x4, .null, .null, .null] [] 1134 SM μ (f9_soonest_L41 x2 K164 K145 n x3 x4 μ) := by
  intro n
  induction n with
  | zero => intro x3 x4 μ; intro q hq; cases hq
  | succ n ih =>
    intro x3 x4 μ
    unfold f9_soonest_L41
    refine z_iload (pc := 41) dX9_soonest_41 rfl ?_
    refine z_iload_n (pc := 43) dX9_soonest_43 rfl ?_
    refine z_icmp_ge (pc := 44) (tgt := 164) dX9_soonest_44 (by decide) (fun c10 => ?_) (fun c11 => ?_)
    · refine z_loc (L' := [.null, .null, .null, .null, .null, .null, .null, .null]) ⟨Or.inl rfl, ⟨Or.inl rfl, ⟨Or.inl rfl, ⟨Or.inl rfl, ⟨Or.inl rfl, ⟨Or.inl rfl, ⟨Or.inl rfl, ⟨Or.inl rfl, trivial⟩⟩⟩⟩⟩⟩⟩⟩ ?_
      exact hK164 μ
    · refine z_iconst (pc := 47) (0 : Int32) dX9_soonest_47 (by decide) ?_
      refine z_istore (pc := 48) (L' := [.ref 0, .null, .int x2, .int x3, .int x4, .int (0 : Int32), .null, .null]) dX9_soonest_48 (by decide) rfl ?_
      refine z_iconst (pc := 50) (0 : Int32) dX9_soonest_50 (by decide) ?_
      refine z_istore (pc := 51) (L' := [.ref 0, .null, .int x2, .int x3, .int x4, .int (0 : Int32), .int (0 : Int32), .null]) dX9_soonest_51 (by decide) rfl ?_
      refine t9_soonest_L53 _ _ _ (fun x3_32 x5_33 μ34 => ?_) zF _ _ _ _
      · refine z_iload (pc := 140) dX9_soonest_140 rfl ?_
        refine z_if_ne (pc := 142) (tgt := 158) dX9_soonest_142 (by decide) (fun c35 => ?_) (fun c36 => ?_)
        · refine z_iinc (pc := 158) (v := x4 + (1 : Int32)) (L' := [.ref 0, .null, .int x2, .int x3_32, .int (x4 + (1 : Int32)), .int x5_33, .null, .null]) dX9_soonest_158 (by decide) rfl (congrArg _ (by decide)) rfl ?_
          refine z_goto (pc := 161) (tgt := 41) dX9_soonest_161 (by decide) ?_
          refine z_loc (L' := [.ref 0, .null, .int x2, .int x3_32, .int (x4 + (1 : Int32)), .null, .null, .null]) ⟨Or.inr rfl, ⟨Or.inl rfl, ⟨Or.inr rfl, ⟨Or.inr rfl, ⟨Or.inr rfl, ⟨Or.inl rfl, ⟨Or.inl rfl, ⟨Or.inl rfl, trivial⟩⟩⟩⟩⟩⟩⟩⟩ ?_
          exact ih x3_32 (x4 + (1 : Int32)) μ34
        · refine z_loc (L' := [.ref 0, .null, .null, .null, .int x4, .null, .null, .null]) ⟨Or.inr rfl, ⟨Or.inl rfl, ⟨Or.inl rfl, ⟨Or.inl rfl, ⟨Or.inr rfl, ⟨Or.inl rfl, ⟨Or.inl rfl, ⟨Or.inl rfl, trivial⟩⟩⟩⟩⟩⟩⟩⟩ ?_
          exact hK145 x4 μ34
set_option maxHeartbeats 1000000 in
theorem t9_soonest (x1 : Int32) (x2 : Int32) (μ : zMem) : zMR yX9_soonest cX9_soonest 8 (some .int) 4 [.ref 0, .int x1, .int x2] 1134 SM μ (f9_soonest x1 x2 μ) := by
  refine zMR_of (by decide +kernel) rfl (Nat.le_of_ble_eq_true rfl) (L := [.ref 0, .int x1, .int x2, .null, .null, .null, .null, .null]) rfl ?_
  unfold f9_soonest
  refine z_iconst (pc := 0) (0 : Int32) dX9_soonest_0 (by decide) ?_
  refine z_istore_n (pc := 1) (L' := [.ref 0, .int x1, .int x2, .int (0 : Int32), .null, .null, .null, .null]) dX9_soonest_1 (by decide) rfl ?_
  refine t9_soonest_L2 _ _ _ (fun μ5 => ?_) zF _ _
  · refine z_iconst (pc := 22) (1 : Int32) dX9_soonest_22 (by decide) ?_
    refine z_istore_n (pc := 23) (L' := [.ref 0, .int x1, .int x2, .int (1 : Int32), .null, .null, .null, .null]) dX9_soonest_23 (by decide) rfl ?_
    refine z_aload_n (pc := 24) dX9_soonest_24 rfl ?_
    refine z_getr (pc := 25) fdX9_100 (by decide) sm_0 rfl rfl dX9_soonest_25 ?_
    refine z_iconst (pc := 28) (0 : Int32) dX9_soonest_28 (by decide) ?_
    refine z_iload_n (pc := 29) dX9_soonest_29 rfl ?_
    refine z_iast (pc := 30) (by decide) sm_1132 rfl dX9_soonest_30 (fun h6 => ?_)
    refine z_mem (fun μ7 => ?_)
    refine z_aload_n (pc := 31) dX9_soonest_31 rfl ?_
    refine z_getr (pc := 32) fdX9_103 (by decide) sm_0 rfl rfl dX9_soonest_32 ?_
    refine z_iload_n (pc := 35) dX9_soonest_35 rfl ?_
    refine z_iconst (pc := 36) (0 : Int32) dX9_soonest_36 (by decide) ?_
    refine z_iast (pc := 37) (by decide) sm_1133 rfl dX9_soonest_37 (fun h8 => ?_)
    refine z_mem (fun μ9 => ?_)
    refine z_iconst (pc := 38) (0 : Int32) dX9_soonest_38 (by decide) ?_
    refine z_istore (pc := 39) (L' := [.ref 0, .int x1, .int x2, .int (1 : Int32), .int (0 : Int32), .null, .null, .null]) dX9_soonest_39 (by decide) rfl ?_
    refine z_loc (L' := [.ref 0, .null, .int x2, .int (1 : Int32), .int (0 : Int32), .null, .null, .null]) ⟨Or.inr rfl, ⟨Or.inl rfl, ⟨Or.inr rfl, ⟨Or.inr rfl, ⟨Or.inr rfl, ⟨Or.inl rfl, ⟨Or.inl rfl, ⟨Or.inl rfl, trivial⟩⟩⟩⟩⟩⟩⟩⟩ ?_
    refine t9_soonest_L41 _ _ _ (fun μ37 => ?_) (fun x4_38 μ39 => ?_) zF _ _ _
    · refine z_iconst (pc := 164) (-1 : Int32) dX9_soonest_164 (by decide) ?_
      exact z_iret (pc := 165) rfl dX9_soonest_165
    · refine z_aload_n (pc := 145) dX9_soonest_145 rfl ?_
      refine z_getr (pc := 146) fdX9_103 (by decide) sm_0 rfl rfl dX9_soonest_146 ?_
      refine z_aload_n (pc := 149) dX9_soonest_149 rfl ?_
      refine z_getr (pc := 150) fdX9_100 (by decide) sm_0 rfl rfl dX9_soonest_150 ?_
      refine z_iload (pc := 153) dX9_soonest_153 rfl ?_
      refine z_iald (pc := 155) (by decide) sm_1132 rfl dX9_soonest_155 (fun h40 => ?_)
      refine z_iald (pc := 156) (by decide) sm_1133 rfl dX9_soonest_156 (fun h41 => ?_)
      exact z_iret (pc := 157) rfl dX9_soonest_157
