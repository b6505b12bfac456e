theorem dX9_few_0 : decode cX9_few 0 = .ok (.aload_n 0, 1) := by decide +kernel
theorem dX9_few_1 : decode cX9_few 1 = .ok (.iconst 0, 1) := by decide +kernel
theorem dX9_few_2 : decode cX9_few 2 = .ok (.putfield 106, 3) := by decide +kernel
theorem dX9_few_5 : decode cX9_few 5 = .ok (.aload_n 0, 1) := by decide +kernel
theorem dX9_few_6 : decode cX9_few 6 = .ok (.iload_n 1, 1) := by decide +kernel
theorem dX9_few_7 : decode cX9_few 7 = .ok (.ifCond .lt 44, 3) := by decide +kernel
theorem dX9_few_10 : decode cX9_few 10 = .ok (.iload_n 1, 1) := by decide +kernel
theorem dX9_few_11 : decode cX9_few 11 = .ok (.iconst 1, 1) := by decide +kernel
theorem dX9_few_12 : decode cX9_few 12 = .ok (.aload_n 0, 1) := by decide +kernel
theorem dX9_few_13 : decode cX9_few 13 = .ok (.getfield 23, 3) := by decide +kernel
theorem dX9_few_16 : decode cX9_few 16 = .ok (.iconst 1, 1) := by decide +kernel
theorem dX9_few_17 : decode cX9_few 17 = .ok (.iaload, 1) := by decide +kernel
theorem dX9_few_18 : decode cX9_few 18 = .ok (.ishl, 1) := by decide +kernel
theorem dX9_few_19 : decode cX9_few 19 = .ok (.if_icmp .ge 32, 3) := by decide +kernel
theorem dX9_few_22 : decode cX9_few 22 = .ok (.iload_n 1, 1) := by decide +kernel
theorem dX9_few_23 : decode cX9_few 23 = .ok (.invokestatic 290, 3) := by decide +kernel
theorem dX9_few_26 : decode cX9_few 26 = .ok (.iconst 2, 1) := by decide +kernel
theorem dX9_few_27 : decode cX9_few 27 = .ok (.iconst 4, 1) := by decide +kernel
theorem dX9_few_28 : decode cX9_few 28 = .ok (.invokestatic 140, 3) := by decide +kernel
theorem dX9_few_31 : decode cX9_few 31 = .ok (.ifCond .eq 20, 3) := by decide +kernel
theorem dX9_few_34 : decode cX9_few 34 = .ok (.aload_n 0, 1) := by decide +kernel
theorem dX9_few_35 : decode cX9_few 35 = .ok (.iload_n 2, 1) := by decide +kernel
theorem dX9_few_36 : decode cX9_few 36 = .ok (.invokevirtual 217, 3) := by decide +kernel
theorem dX9_few_39 : decode cX9_few 39 = .ok (.ifCond .eq 12, 3) := by decide +kernel
theorem dX9_few_42 : decode cX9_few 42 = .ok (.iload_n 3, 1) := by decide +kernel
theorem dX9_few_43 : decode cX9_few 43 = .ok (.iconst 0, 1) := by decide +kernel
theorem dX9_few_44 : decode cX9_few 44 = .ok (.iconst 1, 1) := by decide +kernel
theorem dX9_few_45 : decode cX9_few 45 = .ok (.invokestatic 140, 3) := by decide +kernel
theorem dX9_few_48 : decode cX9_few 48 = .ok (.ifCond .ne 7, 3) := by decide +kernel
theorem dX9_few_51 : decode cX9_few 51 = .ok (.iconst 1, 1) := by decide +kernel
theorem dX9_few_52 : decode cX9_few 52 = .ok (.goto 4, 3) := by decide +kernel
theorem dX9_few_55 : decode cX9_few 55 = .ok (.iconst 0, 1) := by decide +kernel
theorem dX9_few_56 : decode cX9_few 56 = .ok (.iconst 1, 1) := by decide +kernel
theorem dX9_few_57 : decode cX9_few 57 = .ok (.invokevirtual 188, 3) := by decide +kernel
theorem dX9_few_60 : decode cX9_few 60 = .ok (.ifCond .eq 5, 3) := by decide +kernel
theorem dX9_few_63 : decode cX9_few 63 = .ok (.iconst 0, 1) := by decide +kernel
theorem dX9_few_64 : decode cX9_few 64 = .ok (.ireturn, 1) := by decide +kernel
theorem dX9_few_65 : decode cX9_few 65 = .ok (.aload_n 0, 1) := by decide +kernel
theorem dX9_few_66 : decode cX9_few 66 = .ok (.iconst 0, 1) := by decide +kernel
theorem dX9_few_67 : decode cX9_few 67 = .ok (.putfield 322, 3) := by decide +kernel
theorem dX9_few_70 : decode cX9_few 70 = .ok (.iconst 0, 1) := by decide +kernel
theorem dX9_few_71 : decode cX9_few 71 = .ok (.istore 4, 2) := by decide +kernel
theorem dX9_few_73 : decode cX9_few 73 = .ok (.iload 4, 2) := by decide +kernel
theorem dX9_few_75 : decode cX9_few 75 = .ok (.aload_n 0, 1) := by decide +kernel
theorem dX9_few_76 : decode cX9_few 76 = .ok (.getfield 23, 3) := by decide +kernel
theorem dX9_few_79 : decode cX9_few 79 = .ok (.iconst 1, 1) := by decide +kernel
theorem dX9_few_80 : decode cX9_few 80 = .ok (.iaload, 1) := by decide +kernel
theorem dX9_few_81 : decode cX9_few 81 = .ok (.if_icmp .ge 42, 3) := by decide +kernel
theorem dX9_few_84 : decode cX9_few 84 = .ok (.iload_n 1, 1) := by decide +kernel
theorem dX9_few_85 : decode cX9_few 85 = .ok (.iload 4, 2) := by decide +kernel
theorem dX9_few_87 : decode cX9_few 87 = .ok (.ishr, 1) := by decide +kernel
theorem dX9_few_88 : decode cX9_few 88 = .ok (.iconst 1, 1) := by decide +kernel
theorem dX9_few_89 : decode cX9_few 89 = .ok (.iand, 1) := by decide +kernel
theorem dX9_few_90 : decode cX9_few 90 = .ok (.ifCond .ne 6, 3) := by decide +kernel
theorem dX9_few_93 : decode cX9_few 93 = .ok (.goto 24, 3) := by decide +kernel
theorem dX9_few_96 : decode cX9_few 96 = .ok (.aload_n 0, 1) := by decide +kernel
theorem dX9_few_97 : decode cX9_few 97 = .ok (.getfield 91, 3) := by decide +kernel
theorem dX9_few_100 : decode cX9_few 100 = .ok (.aload_n 0, 1) := by decide +kernel
theorem dX9_few_101 : decode cX9_few 101 = .ok (.getfield 322, 3) := by decide +kernel
theorem dX9_few_104 : decode cX9_few 104 = .ok (.iload 4, 2) := by decide +kernel
theorem dX9_few_106 : decode cX9_few 106 = .ok (.iastore, 1) := by decide +kernel
theorem dX9_few_107 : decode cX9_few 107 = .ok (.aload_n 0, 1) := by decide +kernel
theorem dX9_few_108 : decode cX9_few 108 = .ok (.dup, 1) := by decide +kernel
theorem dX9_few_109 : decode cX9_few 109 = .ok (.getfield 322, 3) := by decide +kernel
theorem dX9_few_112 : decode cX9_few 112 = .ok (.iconst 1, 1) := by decide +kernel
theorem dX9_few_113 : decode cX9_few 113 = .ok (.iadd, 1) := by decide +kernel
theorem dX9_few_114 : decode cX9_few 114 = .ok (.putfield 322, 3) := by decide +kernel
theorem dX9_few_117 : decode cX9_few 117 = .ok (.iinc 4 1, 3) := by decide +kernel
theorem dX9_few_120 : decode cX9_few 120 = .ok (.goto (-47), 3) := by decide +kernel
theorem dX9_few_123 : decode cX9_few 123 = .ok (.aload_n 0, 1) := by decide +kernel
theorem dX9_few_124 : decode cX9_few 124 = .ok (.iload_n 2, 1) := by decide +kernel
theorem dX9_few_125 : decode cX9_few 125 = .ok (.invokevirtual 331, 3) := by decide +kernel
theorem dX9_few_128 : decode cX9_few 128 = .ok (.istore 4, 2) := by decide +kernel
theorem dX9_few_130 : decode cX9_few 130 = .ok (.iconst 0, 1) := by decide +kernel
theorem dX9_few_131 : decode cX9_few 131 = .ok (.istore 5, 2) := by decide +kernel
theorem dX9_few_133 : decode cX9_few 133 = .ok (.iconst 0, 1) := by decide +kernel
theorem dX9_few_134 : decode cX9_few 134 = .ok (.istore 6, 2) := by decide +kernel
theorem dX9_few_136 : decode cX9_few 136 = .ok (.iload 6, 2) := by decide +kernel
theorem dX9_few_138 : decode cX9_few 138 = .ok (.sipush 6561, 3) := by decide +kernel
theorem dX9_few_141 : decode cX9_few 141 = .ok (.if_icmp .ge 17, 3) := by decide +kernel
theorem dX9_few_144 : decode cX9_few 144 = .ok (.aload_n 0, 1) := by decide +kernel
theorem dX9_few_145 : decode cX9_few 145 = .ok (.getfield 94, 3) := by decide +kernel
theorem dX9_few_148 : decode cX9_few 148 = .ok (.iload 6, 2) := by decide +kernel
theorem dX9_few_150 : decode cX9_few 150 = .ok (.iconst 0, 1) := by decide +kernel
theorem dX9_few_151 : decode cX9_few 151 = .ok (.iastore, 1) := by decide +kernel
theorem dX9_few_152 : decode cX9_few 152 = .ok (.iinc 6 1, 3) := by decide +kernel
theorem dX9_few_155 : decode cX9_few 155 = .ok (.goto (-19), 3) := by decide +kernel
theorem dX9_few_158 : decode cX9_few 158 = .ok (.iload_n 3, 1) := by decide +kernel
theorem dX9_few_159 : decode cX9_few 159 = .ok (.ifCond .ne 15, 3) := by decide +kernel
theorem dX9_few_162 : decode cX9_few 162 = .ok (.aload_n 0, 1) := by decide +kernel
theorem dX9_few_163 : decode cX9_few 163 = .ok (.iload 4, 2) := by decide +kernel
theorem dX9_few_165 : decode cX9_few 165 = .ok (.iload_n 2, 1) := by decide +kernel
theorem dX9_few_166 : decode cX9_few 166 = .ok (.invokevirtual 337, 3) := by decide +kernel
theorem dX9_few_169 : decode cX9_few 169 = .ok (.istore 5, 2) := by decide +kernel
theorem dX9_few_171 : decode cX9_few 171 = .ok (.goto 12, 3) := by decide +kernel
theorem dX9_few_174 : decode cX9_few 174 = .ok (.aload_n 0, 1) := by decide +kernel
theorem dX9_few_175 : decode cX9_few 175 = .ok (.iload 4, 2) := by decide +kernel
theorem dX9_few_177 : decode cX9_few 177 = .ok (.iload_n 2, 1) := by decide +kernel
theorem dX9_few_178 : decode cX9_few 178 = .ok (.invokevirtual 344, 3) := by decide +kernel
theorem dX9_few_181 : decode cX9_few 181 = .ok (.istore 5, 2) := by decide +kernel
theorem dX9_few_183 : decode cX9_few 183 = .ok (.aload_n 0, 1) := by decide +kernel
theorem dX9_few_184 : decode cX9_few 184 = .ok (.iload 4, 2) := by decide +kernel
theorem dX9_few_186 : decode cX9_few 186 = .ok (.iload_n 2, 1) := by decide +kernel
theorem dX9_few_187 : decode cX9_few 187 = .ok (.invokevirtual 325, 3) := by decide +kernel
theorem dX9_few_190 : decode cX9_few 190 = .ok (.iload 5, 2) := by decide +kernel
theorem dX9_few_192 : decode cX9_few 192 = .ok (.ireturn, 1) := by decide +kernel
theorem dX9_isTwo_0 : decode cX9_isTwo 0 = .ok (.aload_n 0, 1) := by decide +kernel
theorem dX9_isTwo_1 : decode cX9_isTwo 1 = .ok (.iload_n 1, 1) := by decide +kernel
theorem dX9_isTwo_2 : decode cX9_isTwo 2 = .ok (.iload_n 2, 1) := by decide +kernel
theorem dX9_isTwo_3 : decode cX9_isTwo 3 = .ok (.invokevirtual 210, 3) := by decide +kernel
theorem dX9_isTwo_6 : decode cX9_isTwo 6 = .ok (.ifCond .ne 32, 3) := by decide +kernel
theorem dX9_isTwo_9 : decode cX9_isTwo 9 = .ok (.aload_n 0, 1) := by decide +kernel
theorem dX9_isTwo_10 : decode cX9_isTwo 10 = .ok (.getfield 52, 3) := by decide +kernel
theorem dX9_isTwo_13 : decode cX9_isTwo 13 = .ok (.iload_n 1, 1) := by decide +kernel
theorem dX9_isTwo_14 : decode cX9_isTwo 14 = .ok (.aaload, 1) := by decide +kernel
theorem dX9_isTwo_15 : decode cX9_isTwo 15 = .ok (.iload_n 3, 1) := by decide +kernel
theorem dX9_isTwo_16 : decode cX9_isTwo 16 = .ok (.iaload, 1) := by decide +kernel
theorem dX9_isTwo_17 : decode cX9_isTwo 17 = .ok (.aload_n 0, 1) := by decide +kernel
theorem dX9_isTwo_18 : decode cX9_isTwo 18 = .ok (.getfield 52, 3) := by decide +kernel
theorem dX9_isTwo_21 : decode cX9_isTwo 21 = .ok (.iload_n 2, 1) := by decide +kernel
theorem dX9_isTwo_22 : decode cX9_isTwo 22 = .ok (.aaload, 1) := by decide +kernel
theorem dX9_isTwo_23 : decode cX9_isTwo 23 = .ok (.iload_n 3, 1) := by decide +kernel
theorem dX9_isTwo_24 : decode cX9_isTwo 24 = .ok (.iaload, 1) := by decide +kernel
theorem dX9_isTwo_25 : decode cX9_isTwo 25 = .ok (.isub, 1) := by decide +kernel
theorem dX9_isTwo_26 : decode cX9_isTwo 26 = .ok (.invokestatic 229, 3) := by decide +kernel
theorem dX9_isTwo_29 : decode cX9_isTwo 29 = .ok (.iload 4, 2) := by decide +kernel
theorem dX9_isTwo_31 : decode cX9_isTwo 31 = .ok (.if_icmp .lt 7, 3) := by decide +kernel
theorem dX9_isTwo_34 : decode cX9_isTwo 34 = .ok (.iconst 1, 1) := by decide +kernel
theorem dX9_isTwo_35 : decode cX9_isTwo 35 = .ok (.goto 4, 3) := by decide +kernel
theorem dX9_isTwo_38 : decode cX9_isTwo 38 = .ok (.iconst 0, 1) := by decide +kernel
theorem dX9_isTwo_39 : decode cX9_isTwo 39 = .ok (.ireturn, 1) := by decide +kernel
theorem dX9_countOf_0 : decode cX9_countOf 0 = .ok (.iconst 0, 1) := by decide +kernel
theorem dX9_countOf_1 : decode cX9_countOf 1 = .ok (.istore 4, 2) := by decide +kernel
theorem dX9_countOf_3 : decode cX9_countOf 3 = .ok (.iconst 0, 1) := by decide +kernel
theorem dX9_countOf_4 : decode cX9_countOf 4 = .ok (.istore 5, 2) := by decide +kernel
theorem dX9_countOf_6 : decode cX9_countOf 6 = .ok (.iload 5, 2) := by decide +kernel
theorem dX9_countOf_8 : decode cX9_countOf 8 = .ok (.aload_n 0, 1) := by decide +kernel
theorem dX9_countOf_9 : decode cX9_countOf 9 = .ok (.getfield 23, 3) := by decide +kernel
theorem dX9_countOf_12 : decode cX9_countOf 12 = .ok (.iconst 1, 1) := by decide +kernel
theorem dX9_countOf_13 : decode cX9_countOf 13 = .ok (.iaload, 1) := by decide +kernel
theorem dX9_countOf_14 : decode cX9_countOf 14 = .ok (.if_icmp .ge 125, 3) := by decide +kernel
theorem dX9_countOf_17 : decode cX9_countOf 17 = .ok (.iload 5, 2) := by decide +kernel
theorem dX9_countOf_19 : decode cX9_countOf 19 = .ok (.iconst 1, 1) := by decide +kernel
theorem dX9_countOf_20 : decode cX9_countOf 20 = .ok (.iadd, 1) := by decide +kernel
theorem dX9_countOf_21 : decode cX9_countOf 21 = .ok (.istore 6, 2) := by decide +kernel
theorem dX9_countOf_23 : decode cX9_countOf 23 = .ok (.iload 6, 2) := by decide +kernel
theorem dX9_countOf_25 : decode cX9_countOf 25 = .ok (.aload_n 0, 1) := by decide +kernel
theorem dX9_countOf_26 : decode cX9_countOf 26 = .ok (.getfield 23, 3) := by decide +kernel
theorem dX9_countOf_29 : decode cX9_countOf 29 = .ok (.iconst 1, 1) := by decide +kernel
theorem dX9_countOf_30 : decode cX9_countOf 30 = .ok (.iaload, 1) := by decide +kernel
theorem dX9_countOf_31 : decode cX9_countOf 31 = .ok (.if_icmp .ge 102, 3) := by decide +kernel
theorem dX9_countOf_34 : decode cX9_countOf 34 = .ok (.aload_n 0, 1) := by decide +kernel
theorem dX9_countOf_35 : decode cX9_countOf 35 = .ok (.iload 5, 2) := by decide +kernel
theorem dX9_countOf_37 : decode cX9_countOf 37 = .ok (.iload 6, 2) := by decide +kernel
theorem dX9_countOf_39 : decode cX9_countOf 39 = .ok (.iload_n 1, 1) := by decide +kernel
theorem dX9_countOf_40 : decode cX9_countOf 40 = .ok (.iload_n 2, 1) := by decide +kernel
theorem dX9_countOf_41 : decode cX9_countOf 41 = .ok (.invokevirtual 347, 3) := by decide +kernel
theorem dX9_countOf_44 : decode cX9_countOf 44 = .ok (.ifCond .ne 6, 3) := by decide +kernel
theorem dX9_countOf_47 : decode cX9_countOf 47 = .ok (.goto 80, 3) := by decide +kernel
theorem dX9_countOf_50 : decode cX9_countOf 50 = .ok (.iload 4, 2) := by decide +kernel
theorem dX9_countOf_52 : decode cX9_countOf 52 = .ok (.iload_n 3, 1) := by decide +kernel
theorem dX9_countOf_53 : decode cX9_countOf 53 = .ok (.ifCond .eq 7, 3) := by decide +kernel
theorem dX9_countOf_56 : decode cX9_countOf 56 = .ok (.iconst 0, 1) := by decide +kernel
theorem dX9_countOf_57 : decode cX9_countOf 57 = .ok (.goto 4, 3) := by decide +kernel
theorem dX9_countOf_60 : decode cX9_countOf 60 = .ok (.iconst 1, 1) := by decide +kernel
theorem dX9_countOf_61 : decode cX9_countOf 61 = .ok (.iadd, 1) := by decide +kernel
theorem dX9_countOf_62 : decode cX9_countOf 62 = .ok (.istore 4, 2) := by decide +kernel
theorem dX9_countOf_64 : decode cX9_countOf 64 = .ok (.iload 6, 2) := by decide +kernel
theorem dX9_countOf_66 : decode cX9_countOf 66 = .ok (.iconst 1, 1) := by decide +kernel
theorem dX9_countOf_67 : decode cX9_countOf 67 = .ok (.iadd, 1) := by decide +kernel
theorem dX9_countOf_68 : decode cX9_countOf 68 = .ok (.istore 7, 2) := by decide +kernel
theorem dX9_countOf_70 : decode cX9_countOf 70 = .ok (.iload 7, 2) := by decide +kernel
theorem dX9_countOf_72 : decode cX9_countOf 72 = .ok (.aload_n 0, 1) := by decide +kernel
theorem dX9_countOf_73 : decode cX9_countOf 73 = .ok (.getfield 23, 3) := by decide +kernel
theorem dX9_countOf_76 : decode cX9_countOf 76 = .ok (.iconst 1, 1) := by decide +kernel
theorem dX9_countOf_77 : decode cX9_countOf 77 = .ok (.iaload, 1) := by decide +kernel
theorem dX9_countOf_78 : decode cX9_countOf 78 = .ok (.if_icmp .ge 49, 3) := by decide +kernel
theorem dX9_countOf_81 : decode cX9_countOf 81 = .ok (.iload_n 3, 1) := by decide +kernel
theorem dX9_countOf_82 : decode cX9_countOf 82 = .ok (.ifCond .eq 45, 3) := by decide +kernel
theorem dX9_countOf_85 : decode cX9_countOf 85 = .ok (.iload 4, 2) := by decide +kernel
theorem dX9_countOf_87 : decode cX9_countOf 87 = .ok (.aload_n 0, 1) := by decide +kernel
theorem dX9_countOf_88 : decode cX9_countOf 88 = .ok (.iload 5, 2) := by decide +kernel
theorem dX9_countOf_90 : decode cX9_countOf 90 = .ok (.iload 7, 2) := by decide +kernel
theorem dX9_countOf_92 : decode cX9_countOf 92 = .ok (.iload_n 1, 1) := by decide +kernel
theorem dX9_countOf_93 : decode cX9_countOf 93 = .ok (.iload_n 2, 1) := by decide +kernel
theorem dX9_countOf_94 : decode cX9_countOf 94 = .ok (.invokevirtual 347, 3) := by decide +kernel
theorem dX9_countOf_97 : decode cX9_countOf 97 = .ok (.ifCond .eq 20, 3) := by decide +kernel
theorem dX9_countOf_100 : decode cX9_countOf 100 = .ok (.aload_n 0, 1) := by decide +kernel
theorem dX9_countOf_101 : decode cX9_countOf 101 = .ok (.iload 6, 2) := by decide +kernel
theorem dX9_countOf_103 : decode cX9_countOf 103 = .ok (.iload 7, 2) := by decide +kernel
theorem dX9_countOf_105 : decode cX9_countOf 105 = .ok (.iload_n 1, 1) := by decide +kernel
theorem dX9_countOf_106 : decode cX9_countOf 106 = .ok (.iload_n 2, 1) := by decide +kernel
theorem dX9_countOf_107 : decode cX9_countOf 107 = .ok (.invokevirtual 347, 3) := by decide +kernel
theorem dX9_countOf_110 : decode cX9_countOf 110 = .ok (.ifCond .eq 7, 3) := by decide +kernel
theorem dX9_countOf_113 : decode cX9_countOf 113 = .ok (.iconst 1, 1) := by decide +kernel
theorem dX9_countOf_114 : decode cX9_countOf 114 = .ok (.goto 4, 3) := by decide +kernel
theorem dX9_countOf_117 : decode cX9_countOf 117 = .ok (.iconst 0, 1) := by decide +kernel
theorem dX9_countOf_118 : decode cX9_countOf 118 = .ok (.iadd, 1) := by decide +kernel
theorem dX9_countOf_119 : decode cX9_countOf 119 = .ok (.istore 4, 2) := by decide +kernel
theorem dX9_countOf_121 : decode cX9_countOf 121 = .ok (.iinc 7 1, 3) := by decide +kernel
theorem dX9_countOf_124 : decode cX9_countOf 124 = .ok (.goto (-54), 3) := by decide +kernel
theorem dX9_countOf_127 : decode cX9_countOf 127 = .ok (.iinc 6 1, 3) := by decide +kernel
theorem dX9_countOf_130 : decode cX9_countOf 130 = .ok (.goto (-107), 3) := by decide +kernel
theorem dX9_countOf_133 : decode cX9_countOf 133 = .ok (.iinc 5 1, 3) := by decide +kernel
theorem dX9_countOf_136 : decode cX9_countOf 136 = .ok (.goto (-130), 3) := by decide +kernel
theorem dX9_countOf_139 : decode cX9_countOf 139 = .ok (.iload 4, 2) := by decide +kernel
theorem dX9_countOf_141 : decode cX9_countOf 141 = .ok (.ireturn, 1) := by decide +kernel
theorem dX9_pairs_0 : decode cX9_pairs 0 = .ok (.aload_n 0, 1) := by decide +kernel
theorem dX9_pairs_1 : decode cX9_pairs 1 = .ok (.iconst 0, 1) := by decide +kernel
theorem dX9_pairs_2 : decode cX9_pairs 2 = .ok (.putfield 106, 3) := by decide +kernel
theorem dX9_pairs_5 : decode cX9_pairs 5 = .ok (.aload_n 0, 1) := by decide +kernel
theorem dX9_pairs_6 : decode cX9_pairs 6 = .ok (.aload_n 0, 1) := by decide +kernel
theorem dX9_pairs_7 : decode cX9_pairs 7 = .ok (.iload_n 1, 1) := by decide +kernel
theorem dX9_pairs_8 : decode cX9_pairs 8 = .ok (.invokevirtual 217, 3) := by decide +kernel
theorem dX9_pairs_11 : decode cX9_pairs 11 = .ok (.ifCond .eq 12, 3) := by decide +kernel
theorem dX9_pairs_14 : decode cX9_pairs 14 = .ok (.iload_n 2, 1) := by decide +kernel
theorem dX9_pairs_15 : decode cX9_pairs 15 = .ok (.iconst 0, 1) := by decide +kernel
theorem dX9_pairs_16 : decode cX9_pairs 16 = .ok (.iconst 1, 1) := by decide +kernel
theorem dX9_pairs_17 : decode cX9_pairs 17 = .ok (.invokestatic 140, 3) := by decide +kernel
theorem dX9_pairs_20 : decode cX9_pairs 20 = .ok (.ifCond .ne 7, 3) := by decide +kernel
theorem dX9_pairs_23 : decode cX9_pairs 23 = .ok (.iconst 1, 1) := by decide +kernel
theorem dX9_pairs_24 : decode cX9_pairs 24 = .ok (.goto 4, 3) := by decide +kernel
theorem dX9_pairs_27 : decode cX9_pairs 27 = .ok (.iconst 0, 1) := by decide +kernel
theorem dX9_pairs_28 : decode cX9_pairs 28 = .ok (.iconst 1, 1) := by decide +kernel
theorem dX9_pairs_29 : decode cX9_pairs 29 = .ok (.invokevirtual 188, 3) := by decide +kernel
theorem dX9_pairs_32 : decode cX9_pairs 32 = .ok (.ifCond .eq 5, 3) := by decide +kernel
theorem dX9_pairs_35 : decode cX9_pairs 35 = .ok (.iconst 0, 1) := by decide +kernel
theorem dX9_pairs_36 : decode cX9_pairs 36 = .ok (.ireturn, 1) := by decide +kernel
theorem dX9_pairs_37 : decode cX9_pairs 37 = .ok (.aload_n 0, 1) := by decide +kernel
theorem dX9_pairs_38 : decode cX9_pairs 38 = .ok (.iload_n 1, 1) := by decide +kernel
theorem dX9_pairs_39 : decode cX9_pairs 39 = .ok (.aload_n 0, 1) := by decide +kernel
theorem dX9_pairs_40 : decode cX9_pairs 40 = .ok (.getfield 23, 3) := by decide +kernel
theorem dX9_pairs_43 : decode cX9_pairs 43 = .ok (.iconst 3, 1) := by decide +kernel
theorem dX9_pairs_44 : decode cX9_pairs 44 = .ok (.iaload, 1) := by decide +kernel
theorem dX9_pairs_45 : decode cX9_pairs 45 = .ok (.iload_n 2, 1) := by decide +kernel
theorem dX9_pairs_46 : decode cX9_pairs 46 = .ok (.iconst 1, 1) := by decide +kernel
theorem dX9_pairs_47 : decode cX9_pairs 47 = .ok (.if_icmp .ne 7, 3) := by decide +kernel
theorem dX9_pairs_50 : decode cX9_pairs 50 = .ok (.iconst 1, 1) := by decide +kernel
theorem dX9_pairs_51 : decode cX9_pairs 51 = .ok (.goto 4, 3) := by decide +kernel
theorem dX9_pairs_54 : decode cX9_pairs 54 = .ok (.iconst 0, 1) := by decide +kernel
theorem dX9_pairs_55 : decode cX9_pairs 55 = .ok (.invokevirtual 351, 3) := by decide +kernel
theorem dX9_pairs_58 : decode cX9_pairs 58 = .ok (.ireturn, 1) := by decide +kernel
theorem dX9_edge_0 : decode cX9_edge 0 = .ok (.aload_n 0, 1) := by decide +kernel
theorem dX9_edge_1 : decode cX9_edge 1 = .ok (.iconst 0, 1) := by decide +kernel
theorem dX9_edge_2 : decode cX9_edge 2 = .ok (.putfield 106, 3) := by decide +kernel
theorem dX9_edge_5 : decode cX9_edge 5 = .ok (.aload_n 0, 1) := by decide +kernel
theorem dX9_edge_6 : decode cX9_edge 6 = .ok (.aload_n 0, 1) := by decide +kernel
theorem dX9_edge_7 : decode cX9_edge 7 = .ok (.iload_n 1, 1) := by decide +kernel
theorem dX9_edge_8 : decode cX9_edge 8 = .ok (.invokevirtual 217, 3) := by decide +kernel
theorem dX9_edge_11 : decode cX9_edge 11 = .ok (.ifCond .eq 12, 3) := by decide +kernel
theorem dX9_edge_14 : decode cX9_edge 14 = .ok (.iload_n 2, 1) := by decide +kernel
theorem dX9_edge_15 : decode cX9_edge 15 = .ok (.iconst 0, 1) := by decide +kernel
theorem dX9_edge_16 : decode cX9_edge 16 = .ok (.iconst 1, 1) := by decide +kernel
theorem dX9_edge_17 : decode cX9_edge 17 = .ok (.invokestatic 140, 3) := by decide +kernel
theorem dX9_edge_20 : decode cX9_edge 20 = .ok (.ifCond .ne 7, 3) := by decide +kernel
theorem dX9_edge_23 : decode cX9_edge 23 = .ok (.iconst 1, 1) := by decide +kernel
theorem dX9_edge_24 : decode cX9_edge 24 = .ok (.goto 4, 3) := by decide +kernel
theorem dX9_edge_27 : decode cX9_edge 27 = .ok (.iconst 0, 1) := by decide +kernel
theorem dX9_edge_28 : decode cX9_edge 28 = .ok (.iconst 1, 1) := by decide +kernel
theorem dX9_edge_29 : decode cX9_edge 29 = .ok (.invokevirtual 188, 3) := by decide +kernel
theorem dX9_edge_32 : decode cX9_edge 32 = .ok (.ifCond .eq 5, 3) := by decide +kernel
theorem dX9_edge_35 : decode cX9_edge 35 = .ok (.iconst 0, 1) := by decide +kernel
theorem dX9_edge_36 : decode cX9_edge 36 = .ok (.ireturn, 1) := by decide +kernel
theorem dX9_edge_37 : decode cX9_edge 37 = .ok (.bipush 8, 2) := by decide +kernel
theorem dX9_edge_39 : decode cX9_edge 39 = .ok (.istore_n 3, 1) := by decide +kernel
theorem dX9_edge_40 : decode cX9_edge 40 = .ok (.iload_n 3, 1) := by decide +kernel
theorem dX9_edge_41 : decode cX9_edge 41 = .ok (.ifCond .le 28, 3) := by decide +kernel
theorem dX9_edge_44 : decode cX9_edge 44 = .ok (.aload_n 0, 1) := by decide +kernel
theorem dX9_edge_45 : decode cX9_edge 45 = .ok (.iload_n 1, 1) := by decide +kernel
theorem dX9_edge_46 : decode cX9_edge 46 = .ok (.iload_n 3, 1) := by decide +kernel
theorem dX9_edge_47 : decode cX9_edge 47 = .ok (.iload_n 2, 1) := by decide +kernel
theorem dX9_edge_48 : decode cX9_edge 48 = .ok (.iconst 1, 1) := by decide +kernel
theorem dX9_edge_49 : decode cX9_edge 49 = .ok (.if_icmp .ne 7, 3) := by decide +kernel
theorem dX9_edge_52 : decode cX9_edge 52 = .ok (.iconst 1, 1) := by decide +kernel
theorem dX9_edge_53 : decode cX9_edge 53 = .ok (.goto 4, 3) := by decide +kernel
theorem dX9_edge_56 : decode cX9_edge 56 = .ok (.iconst 0, 1) := by decide +kernel
theorem dX9_edge_57 : decode cX9_edge 57 = .ok (.invokevirtual 351, 3) := by decide +kernel
theorem dX9_edge_60 : decode cX9_edge 60 = .ok (.ifCond .ne 9, 3) := by decide +kernel
theorem dX9_edge_63 : decode cX9_edge 63 = .ok (.iinc 3 (-1), 3) := by decide +kernel
theorem dX9_edge_66 : decode cX9_edge 66 = .ok (.goto (-26), 3) := by decide +kernel
theorem dX9_edge_69 : decode cX9_edge 69 = .ok (.iload_n 3, 1) := by decide +kernel
theorem dX9_edge_70 : decode cX9_edge 70 = .ok (.ireturn, 1) := by decide +kernel
theorem dX9_less_0 : decode cX9_less 0 = .ok (.iload_n 0, 1) := by decide +kernel
theorem dX9_less_1 : decode cX9_less 1 = .ok (.iload_n 1, 1) := by decide +kernel
theorem dX9_less_2 : decode cX9_less 2 = .ok (.if_icmp .ge 7, 3) := by decide +kernel
theorem dX9_less_5 : decode cX9_less 5 = .ok (.iload_n 0, 1) := by decide +kernel
theorem dX9_less_6 : decode cX9_less 6 = .ok (.goto 4, 3) := by decide +kernel
theorem dX9_less_9 : decode cX9_less 9 = .ok (.iload_n 1, 1) := by decide +kernel
theorem dX9_less_10 : decode cX9_less 10 = .ok (.ireturn, 1) := by decide +kernel
theorem dX9_rest_0 : decode cX9_rest 0 = .ok (.aload_n 0, 1) := by decide +kernel
theorem dX9_rest_1 : decode cX9_rest 1 = .ok (.iconst 0, 1) := by decide +kernel
theorem dX9_rest_2 : decode cX9_rest 2 = .ok (.putfield 106, 3) := by decide +kernel
theorem dX9_rest_5 : decode cX9_rest 5 = .ok (.aload_n 0, 1) := by decide +kernel
theorem dX9_rest_6 : decode cX9_rest 6 = .ok (.aload_n 0, 1) := by decide +kernel
theorem dX9_rest_7 : decode cX9_rest 7 = .ok (.iload_n 1, 1) := by decide +kernel
theorem dX9_rest_8 : decode cX9_rest 8 = .ok (.invokevirtual 214, 3) := by decide +kernel
theorem dX9_rest_11 : decode cX9_rest 11 = .ok (.ifCond .ne 7, 3) := by decide +kernel
theorem dX9_rest_14 : decode cX9_rest 14 = .ok (.iconst 1, 1) := by decide +kernel
theorem dX9_rest_15 : decode cX9_rest 15 = .ok (.goto 4, 3) := by decide +kernel
theorem dX9_rest_18 : decode cX9_rest 18 = .ok (.iconst 0, 1) := by decide +kernel
theorem dX9_rest_19 : decode cX9_rest 19 = .ok (.iconst 1, 1) := by decide +kernel
theorem dX9_rest_20 : decode cX9_rest 20 = .ok (.invokevirtual 188, 3) := by decide +kernel
theorem dX9_rest_23 : decode cX9_rest 23 = .ok (.ifCond .ne 68, 3) := by decide +kernel
theorem dX9_rest_26 : decode cX9_rest 26 = .ok (.aload_n 0, 1) := by decide +kernel
theorem dX9_rest_27 : decode cX9_rest 27 = .ok (.iload_n 2, 1) := by decide +kernel
theorem dX9_rest_28 : decode cX9_rest 28 = .ok (.iconst 1, 1) := by decide +kernel
theorem dX9_rest_29 : decode cX9_rest 29 = .ok (.bipush 99, 2) := by decide +kernel
theorem dX9_rest_31 : decode cX9_rest 31 = .ok (.invokestatic 140, 3) := by decide +kernel
theorem dX9_rest_34 : decode cX9_rest 34 = .ok (.ifCond .eq 45, 3) := by decide +kernel
theorem dX9_rest_37 : decode cX9_rest 37 = .ok (.iload_n 3, 1) := by decide +kernel
theorem dX9_rest_38 : decode cX9_rest 38 = .ok (.iconst 1, 1) := by decide +kernel
theorem dX9_rest_39 : decode cX9_rest 39 = .ok (.bipush 99, 2) := by decide +kernel
theorem dX9_rest_41 : decode cX9_rest 41 = .ok (.invokestatic 140, 3) := by decide +kernel
theorem dX9_rest_44 : decode cX9_rest 44 = .ok (.ifCond .eq 35, 3) := by decide +kernel
theorem dX9_rest_47 : decode cX9_rest 47 = .ok (.iload 4, 2) := by decide +kernel
theorem dX9_rest_49 : decode cX9_rest 49 = .ok (.iconst 1, 1) := by decide +kernel
theorem dX9_rest_50 : decode cX9_rest 50 = .ok (.bipush 99, 2) := by decide +kernel
theorem dX9_rest_52 : decode cX9_rest 52 = .ok (.invokestatic 140, 3) := by decide +kernel
theorem dX9_rest_55 : decode cX9_rest 55 = .ok (.ifCond .eq 24, 3) := by decide +kernel
theorem dX9_rest_58 : decode cX9_rest 58 = .ok (.iload 5, 2) := by decide +kernel
theorem dX9_rest_60 : decode cX9_rest 60 = .ok (.iconst 1, 1) := by decide +kernel
theorem dX9_rest_61 : decode cX9_rest 61 = .ok (.bipush 99, 2) := by decide +kernel
theorem dX9_rest_63 : decode cX9_rest 63 = .ok (.invokestatic 140, 3) := by decide +kernel
theorem dX9_rest_66 : decode cX9_rest 66 = .ok (.ifCond .eq 13, 3) := by decide +kernel
theorem dX9_rest_69 : decode cX9_rest 69 = .ok (.iload 6, 2) := by decide +kernel
theorem dX9_rest_71 : decode cX9_rest 71 = .ok (.iconst 0, 1) := by decide +kernel
theorem dX9_rest_72 : decode cX9_rest 72 = .ok (.iconst 1, 1) := by decide +kernel
theorem dX9_rest_73 : decode cX9_rest 73 = .ok (.invokestatic 140, 3) := by decide +kernel
theorem dX9_rest_76 : decode cX9_rest 76 = .ok (.ifCond .ne 7, 3) := by decide +kernel
theorem dX9_rest_79 : decode cX9_rest 79 = .ok (.iconst 1, 1) := by decide +kernel
theorem dX9_rest_80 : decode cX9_rest 80 = .ok (.goto 4, 3) := by decide +kernel
theorem dX9_rest_83 : decode cX9_rest 83 = .ok (.iconst 0, 1) := by decide +kernel
theorem dX9_rest_84 : decode cX9_rest 84 = .ok (.iconst 2, 1) := by decide +kernel
theorem dX9_rest_85 : decode cX9_rest 85 = .ok (.invokevirtual 188, 3) := by decide +kernel
theorem dX9_rest_88 : decode cX9_rest 88 = .ok (.ifCond .eq 5, 3) := by decide +kernel
theorem dX9_rest_91 : decode cX9_rest 91 = .ok (.iconst 0, 1) := by decide +kernel
theorem dX9_rest_92 : decode cX9_rest 92 = .ok (.ireturn, 1) := by decide +kernel
theorem dX9_rest_93 : decode cX9_rest 93 = .ok (.bipush 10, 2) := by decide +kernel
theorem dX9_rest_95 : decode cX9_rest 95 = .ok (.aload_n 0, 1) := by decide +kernel
theorem dX9_rest_96 : decode cX9_rest 96 = .ok (.getfield 31, 3) := by decide +kernel
theorem dX9_rest_99 : decode cX9_rest 99 = .ok (.iload_n 1, 1) := by decide +kernel
theorem dX9_rest_100 : decode cX9_rest 100 = .ok (.aaload, 1) := by decide +kernel
theorem dX9_rest_101 : decode cX9_rest 101 = .ok (.iconst 5, 1) := by decide +kernel
theorem dX9_rest_102 : decode cX9_rest 102 = .ok (.iaload, 1) := by decide +kernel
theorem dX9_rest_103 : decode cX9_rest 103 = .ok (.isub, 1) := by decide +kernel
theorem dX9_rest_104 : decode cX9_rest 104 = .ok (.istore 7, 2) := by decide +kernel
theorem dX9_rest_106 : decode cX9_rest 106 = .ok (.sipush 1000, 3) := by decide +kernel
theorem dX9_rest_109 : decode cX9_rest 109 = .ok (.iload 6, 2) := by decide +kernel
theorem dX9_rest_111 : decode cX9_rest 111 = .ok (.ifCond .ne 18, 3) := by decide +kernel
theorem dX9_rest_114 : decode cX9_rest 114 = .ok (.sipush 10000, 3) := by decide +kernel
theorem dX9_rest_117 : decode cX9_rest 117 = .ok (.iload_n 2, 1) := by decide +kernel
theorem dX9_rest_118 : decode cX9_rest 118 = .ok (.imul, 1) := by decide +kernel
theorem dX9_rest_119 : decode cX9_rest 119 = .ok (.iload 7, 2) := by decide +kernel
theorem dX9_rest_121 : decode cX9_rest 121 = .ok (.iload_n 2, 1) := by decide +kernel
theorem dX9_rest_122 : decode cX9_rest 122 = .ok (.iload_n 3, 1) := by decide +kernel
theorem dX9_rest_123 : decode cX9_rest 123 = .ok (.iadd, 1) := by decide +kernel
theorem dX9_rest_124 : decode cX9_rest 124 = .ok (.imul, 1) := by decide +kernel
theorem dX9_rest_125 : decode cX9_rest 125 = .ok (.idiv, 1) := by decide +kernel
theorem dX9_rest_126 : decode cX9_rest 126 = .ok (.goto 15, 3) := by decide +kernel
theorem dX9_rest_129 : decode cX9_rest 129 = .ok (.sipush 10000, 3) := by decide +kernel
theorem dX9_rest_132 : decode cX9_rest 132 = .ok (.iload 4, 2) := by decide +kernel
theorem dX9_rest_134 : decode cX9_rest 134 = .ok (.imul, 1) := by decide +kernel
theorem dX9_rest_135 : decode cX9_rest 135 = .ok (.iload 7, 2) := by decide +kernel
theorem dX9_rest_137 : decode cX9_rest 137 = .ok (.iload 5, 2) := by decide +kernel
theorem dX9_rest_139 : decode cX9_rest 139 = .ok (.imul, 1) := by decide +kernel
theorem dX9_rest_140 : decode cX9_rest 140 = .ok (.idiv, 1) := by decide +kernel
theorem dX9_rest_141 : decode cX9_rest 141 = .ok (.invokestatic 355, 3) := by decide +kernel
theorem dX9_rest_144 : decode cX9_rest 144 = .ok (.ireturn, 1) := by decide +kernel
theorem dX9_pairsIn_0 : decode cX9_pairsIn 0 = .ok (.iconst 0, 1) := by decide +kernel
theorem dX9_pairsIn_1 : decode cX9_pairsIn 1 = .ok (.istore_n 3, 1) := by decide +kernel
theorem dX9_pairsIn_2 : decode cX9_pairsIn 2 = .ok (.iload_n 3, 1) := by decide +kernel
theorem dX9_pairsIn_3 : decode cX9_pairsIn 3 = .ok (.aload_n 0, 1) := by decide +kernel
theorem dX9_pairsIn_4 : decode cX9_pairsIn 4 = .ok (.getfield 23, 3) := by decide +kernel
theorem dX9_pairsIn_7 : decode cX9_pairsIn 7 = .ok (.iconst 1, 1) := by decide +kernel
theorem dX9_pairsIn_8 : decode cX9_pairsIn 8 = .ok (.iaload, 1) := by decide +kernel
theorem dX9_pairsIn_9 : decode cX9_pairsIn 9 = .ok (.if_icmp .ge 17, 3) := by decide +kernel
theorem dX9_pairsIn_12 : decode cX9_pairsIn 12 = .ok (.iload_n 1, 1) := by decide +kernel
theorem dX9_pairsIn_13 : decode cX9_pairsIn 13 = .ok (.iload_n 3, 1) := by decide +kernel
theorem dX9_pairsIn_14 : decode cX9_pairsIn 14 = .ok (.ishr, 1) := by decide +kernel
theorem dX9_pairsIn_15 : decode cX9_pairsIn 15 = .ok (.iconst 1, 1) := by decide +kernel
theorem dX9_pairsIn_16 : decode cX9_pairsIn 16 = .ok (.iand, 1) := by decide +kernel
theorem dX9_pairsIn_17 : decode cX9_pairsIn 17 = .ok (.ifCond .ne 9, 3) := by decide +kernel
theorem dX9_pairsIn_20 : decode cX9_pairsIn 20 = .ok (.iinc 3 1, 3) := by decide +kernel
theorem dX9_pairsIn_23 : decode cX9_pairsIn 23 = .ok (.goto (-21), 3) := by decide +kernel
theorem dX9_pairsIn_26 : decode cX9_pairsIn 26 = .ok (.iload_n 3, 1) := by decide +kernel
theorem dX9_pairsIn_27 : decode cX9_pairsIn 27 = .ok (.aload_n 0, 1) := by decide +kernel
theorem dX9_pairsIn_28 : decode cX9_pairsIn 28 = .ok (.getfield 23, 3) := by decide +kernel
theorem dX9_pairsIn_31 : decode cX9_pairsIn 31 = .ok (.iconst 1, 1) := by decide +kernel
theorem dX9_pairsIn_32 : decode cX9_pairsIn 32 = .ok (.iaload, 1) := by decide +kernel
theorem dX9_pairsIn_33 : decode cX9_pairsIn 33 = .ok (.if_icmp .ne 5, 3) := by decide +kernel
theorem dX9_pairsIn_36 : decode cX9_pairsIn 36 = .ok (.iconst 0, 1) := by decide +kernel
theorem dX9_pairsIn_37 : decode cX9_pairsIn 37 = .ok (.ireturn, 1) := by decide +kernel
theorem dX9_pairsIn_38 : decode cX9_pairsIn 38 = .ok (.iload_n 1, 1) := by decide +kernel
theorem dX9_pairsIn_39 : decode cX9_pairsIn 39 = .ok (.iconst 1, 1) := by decide +kernel
theorem dX9_pairsIn_40 : decode cX9_pairsIn 40 = .ok (.iload_n 3, 1) := by decide +kernel
theorem dX9_pairsIn_41 : decode cX9_pairsIn 41 = .ok (.ishl, 1) := by decide +kernel
theorem dX9_pairsIn_42 : decode cX9_pairsIn 42 = .ok (.iconst (-1), 1) := by decide +kernel
theorem dX9_pairsIn_43 : decode cX9_pairsIn 43 = .ok (.ixor, 1) := by decide +kernel
theorem dX9_pairsIn_44 : decode cX9_pairsIn 44 = .ok (.iand, 1) := by decide +kernel
theorem dX9_pairsIn_45 : decode cX9_pairsIn 45 = .ok (.istore 4, 2) := by decide +kernel
theorem dX9_pairsIn_47 : decode cX9_pairsIn 47 = .ok (.aload_n 0, 1) := by decide +kernel
theorem dX9_pairsIn_48 : decode cX9_pairsIn 48 = .ok (.iload 4, 2) := by decide +kernel
theorem dX9_pairsIn_50 : decode cX9_pairsIn 50 = .ok (.iload_n 2, 1) := by decide +kernel
theorem dX9_pairsIn_51 : decode cX9_pairsIn 51 = .ok (.invokevirtual 358, 3) := by decide +kernel
theorem dX9_pairsIn_54 : decode cX9_pairsIn 54 = .ok (.istore 5, 2) := by decide +kernel
theorem dX9_pairsIn_56 : decode cX9_pairsIn 56 = .ok (.iload_n 3, 1) := by decide +kernel
theorem dX9_pairsIn_57 : decode cX9_pairsIn 57 = .ok (.iconst 1, 1) := by decide +kernel
theorem dX9_pairsIn_58 : decode cX9_pairsIn 58 = .ok (.iadd, 1) := by decide +kernel
theorem dX9_pairsIn_59 : decode cX9_pairsIn 59 = .ok (.istore 6, 2) := by decide +kernel
theorem dX9_pairsIn_61 : decode cX9_pairsIn 61 = .ok (.iload 6, 2) := by decide +kernel
theorem dX9_pairsIn_63 : decode cX9_pairsIn 63 = .ok (.aload_n 0, 1) := by decide +kernel
theorem dX9_pairsIn_64 : decode cX9_pairsIn 64 = .ok (.getfield 23, 3) := by decide +kernel
theorem dX9_pairsIn_67 : decode cX9_pairsIn 67 = .ok (.iconst 1, 1) := by decide +kernel
theorem dX9_pairsIn_68 : decode cX9_pairsIn 68 = .ok (.iaload, 1) := by decide +kernel
theorem dX9_pairsIn_69 : decode cX9_pairsIn 69 = .ok (.if_icmp .ge 60, 3) := by decide +kernel
theorem dX9_pairsIn_72 : decode cX9_pairsIn 72 = .ok (.iload 4, 2) := by decide +kernel
theorem dX9_pairsIn_74 : decode cX9_pairsIn 74 = .ok (.iload 6, 2) := by decide +kernel
theorem dX9_pairsIn_76 : decode cX9_pairsIn 76 = .ok (.ishr, 1) := by decide +kernel
theorem dX9_pairsIn_77 : decode cX9_pairsIn 77 = .ok (.iconst 1, 1) := by decide +kernel
theorem dX9_pairsIn_78 : decode cX9_pairsIn 78 = .ok (.iand, 1) := by decide +kernel
theorem dX9_pairsIn_79 : decode cX9_pairsIn 79 = .ok (.iconst 1, 1) := by decide +kernel
theorem dX9_pairsIn_80 : decode cX9_pairsIn 80 = .ok (.if_icmp .ne 43, 3) := by decide +kernel
theorem dX9_pairsIn_83 : decode cX9_pairsIn 83 = .ok (.aload_n 0, 1) := by decide +kernel
theorem dX9_pairsIn_84 : decode cX9_pairsIn 84 = .ok (.iload_n 3, 1) := by decide +kernel
theorem dX9_pairsIn_85 : decode cX9_pairsIn 85 = .ok (.iload 6, 2) := by decide +kernel
theorem dX9_pairsIn_87 : decode cX9_pairsIn 87 = .ok (.iload_n 2, 1) := by decide +kernel
theorem dX9_pairsIn_88 : decode cX9_pairsIn 88 = .ok (.aload_n 0, 1) := by decide +kernel
theorem dX9_pairsIn_89 : decode cX9_pairsIn 89 = .ok (.getfield 23, 3) := by decide +kernel
theorem dX9_pairsIn_92 : decode cX9_pairsIn 92 = .ok (.iconst 3, 1) := by decide +kernel
theorem dX9_pairsIn_93 : decode cX9_pairsIn 93 = .ok (.iaload, 1) := by decide +kernel
theorem dX9_pairsIn_94 : decode cX9_pairsIn 94 = .ok (.invokevirtual 347, 3) := by decide +kernel
theorem dX9_pairsIn_97 : decode cX9_pairsIn 97 = .ok (.ifCond .eq 26, 3) := by decide +kernel
theorem dX9_pairsIn_100 : decode cX9_pairsIn 100 = .ok (.iload 5, 2) := by decide +kernel
theorem dX9_pairsIn_102 : decode cX9_pairsIn 102 = .ok (.iconst 1, 1) := by decide +kernel
theorem dX9_pairsIn_103 : decode cX9_pairsIn 103 = .ok (.aload_n 0, 1) := by decide +kernel
theorem dX9_pairsIn_104 : decode cX9_pairsIn 104 = .ok (.iload 4, 2) := by decide +kernel
theorem dX9_pairsIn_106 : decode cX9_pairsIn 106 = .ok (.iconst 1, 1) := by decide +kernel
theorem dX9_pairsIn_107 : decode cX9_pairsIn 107 = .ok (.iload 6, 2) := by decide +kernel
theorem dX9_pairsIn_109 : decode cX9_pairsIn 109 = .ok (.ishl, 1) := by decide +kernel
theorem dX9_pairsIn_110 : decode cX9_pairsIn 110 = .ok (.iconst (-1), 1) := by decide +kernel
theorem dX9_pairsIn_111 : decode cX9_pairsIn 111 = .ok (.ixor, 1) := by decide +kernel
theorem dX9_pairsIn_112 : decode cX9_pairsIn 112 = .ok (.iand, 1) := by decide +kernel
theorem dX9_pairsIn_113 : decode cX9_pairsIn 113 = .ok (.iload_n 2, 1) := by decide +kernel
theorem dX9_pairsIn_114 : decode cX9_pairsIn 114 = .ok (.invokevirtual 358, 3) := by decide +kernel
theorem dX9_pairsIn_117 : decode cX9_pairsIn 117 = .ok (.iadd, 1) := by decide +kernel
theorem dX9_pairsIn_118 : decode cX9_pairsIn 118 = .ok (.invokestatic 341, 3) := by decide +kernel
theorem dX9_pairsIn_121 : decode cX9_pairsIn 121 = .ok (.istore 5, 2) := by decide +kernel
theorem dX9_pairsIn_123 : decode cX9_pairsIn 123 = .ok (.iinc 6 1, 3) := by decide +kernel
theorem dX9_pairsIn_126 : decode cX9_pairsIn 126 = .ok (.goto (-65), 3) := by decide +kernel
theorem dX9_pairsIn_129 : decode cX9_pairsIn 129 = .ok (.iload 5, 2) := by decide +kernel
theorem dX9_pairsIn_131 : decode cX9_pairsIn 131 = .ok (.ireturn, 1) := by decide +kernel
theorem dX9_once_0 : decode cX9_once 0 = .ok (.aload_n 0, 1) := by decide +kernel
theorem dX9_once_1 : decode cX9_once 1 = .ok (.iconst 0, 1) := by decide +kernel
theorem dX9_once_2 : decode cX9_once 2 = .ok (.putfield 106, 3) := by decide +kernel
theorem dX9_once_5 : decode cX9_once 5 = .ok (.aload_n 0, 1) := by decide +kernel
theorem dX9_once_6 : decode cX9_once 6 = .ok (.aload_n 0, 1) := by decide +kernel
theorem dX9_once_7 : decode cX9_once 7 = .ok (.iload_n 1, 1) := by decide +kernel
theorem dX9_once_8 : decode cX9_once 8 = .ok (.invokevirtual 217, 3) := by decide +kernel
theorem dX9_once_11 : decode cX9_once 11 = .ok (.ifCond .ne 7, 3) := by decide +kernel
theorem dX9_once_14 : decode cX9_once 14 = .ok (.iconst 1, 1) := by decide +kernel
theorem dX9_once_15 : decode cX9_once 15 = .ok (.goto 4, 3) := by decide +kernel
theorem dX9_once_18 : decode cX9_once 18 = .ok (.iconst 0, 1) := by decide +kernel
theorem dX9_once_19 : decode cX9_once 19 = .ok (.iconst 1, 1) := by decide +kernel
theorem dX9_once_20 : decode cX9_once 20 = .ok (.invokevirtual 188, 3) := by decide +kernel
theorem dX9_once_23 : decode cX9_once 23 = .ok (.ifCond .eq 5, 3) := by decide +kernel
theorem dX9_once_26 : decode cX9_once 26 = .ok (.iconst 0, 1) := by decide +kernel
theorem dX9_once_27 : decode cX9_once 27 = .ok (.ireturn, 1) := by decide +kernel
theorem dX9_once_28 : decode cX9_once 28 = .ok (.aload_n 0, 1) := by decide +kernel
theorem dX9_once_29 : decode cX9_once 29 = .ok (.iconst 1, 1) := by decide +kernel
theorem dX9_once_30 : decode cX9_once 30 = .ok (.aload_n 0, 1) := by decide +kernel
theorem dX9_once_31 : decode cX9_once 31 = .ok (.getfield 23, 3) := by decide +kernel
theorem dX9_once_34 : decode cX9_once 34 = .ok (.iconst 1, 1) := by decide +kernel
theorem dX9_once_35 : decode cX9_once 35 = .ok (.iaload, 1) := by decide +kernel
theorem dX9_once_36 : decode cX9_once 36 = .ok (.ishl, 1) := by decide +kernel
theorem dX9_once_37 : decode cX9_once 37 = .ok (.iconst 1, 1) := by decide +kernel
theorem dX9_once_38 : decode cX9_once 38 = .ok (.isub, 1) := by decide +kernel
theorem dX9_once_39 : decode cX9_once 39 = .ok (.iload_n 1, 1) := by decide +kernel
theorem dX9_once_40 : decode cX9_once 40 = .ok (.invokevirtual 358, 3) := by decide +kernel
theorem dX9_once_43 : decode cX9_once 43 = .ok (.ireturn, 1) := by decide +kernel
theorem dX9_calm_0 : decode cX9_calm 0 = .ok (.aload_n 0, 1) := by decide +kernel
theorem dX9_calm_1 : decode cX9_calm 1 = .ok (.iconst 0, 1) := by decide +kernel
theorem dX9_calm_2 : decode cX9_calm 2 = .ok (.putfield 106, 3) := by decide +kernel
theorem dX9_calm_5 : decode cX9_calm 5 = .ok (.aload_n 0, 1) := by decide +kernel
theorem dX9_calm_6 : decode cX9_calm 6 = .ok (.aload_n 0, 1) := by decide +kernel
theorem dX9_calm_7 : decode cX9_calm 7 = .ok (.iload_n 1, 1) := by decide +kernel
theorem dX9_calm_8 : decode cX9_calm 8 = .ok (.invokevirtual 217, 3) := by decide +kernel
theorem dX9_calm_11 : decode cX9_calm 11 = .ok (.ifCond .eq 12, 3) := by decide +kernel
theorem dX9_calm_14 : decode cX9_calm 14 = .ok (.iload_n 2, 1) := by decide +kernel
theorem dX9_calm_15 : decode cX9_calm 15 = .ok (.iconst 0, 1) := by decide +kernel
theorem dX9_calm_16 : decode cX9_calm 16 = .ok (.iconst 1, 1) := by decide +kernel
theorem dX9_calm_17 : decode cX9_calm 17 = .ok (.invokestatic 140, 3) := by decide +kernel
theorem dX9_calm_20 : decode cX9_calm 20 = .ok (.ifCond .ne 7, 3) := by decide +kernel
theorem dX9_calm_23 : decode cX9_calm 23 = .ok (.iconst 1, 1) := by decide +kernel
theorem dX9_calm_24 : decode cX9_calm 24 = .ok (.goto 4, 3) := by decide +kernel
theorem dX9_calm_27 : decode cX9_calm 27 = .ok (.iconst 0, 1) := by decide +kernel
theorem dX9_calm_28 : decode cX9_calm 28 = .ok (.iconst 1, 1) := by decide +kernel
theorem dX9_calm_29 : decode cX9_calm 29 = .ok (.invokevirtual 188, 3) := by decide +kernel
theorem dX9_calm_32 : decode cX9_calm 32 = .ok (.ifCond .eq 5, 3) := by decide +kernel
theorem dX9_calm_35 : decode cX9_calm 35 = .ok (.iconst 0, 1) := by decide +kernel
theorem dX9_calm_36 : decode cX9_calm 36 = .ok (.ireturn, 1) := by decide +kernel
theorem dX9_calm_37 : decode cX9_calm 37 = .ok (.iconst 0, 1) := by decide +kernel
theorem dX9_calm_38 : decode cX9_calm 38 = .ok (.istore_n 3, 1) := by decide +kernel
theorem dX9_calm_39 : decode cX9_calm 39 = .ok (.iconst 1, 1) := by decide +kernel
theorem dX9_calm_40 : decode cX9_calm 40 = .ok (.istore 4, 2) := by decide +kernel
theorem dX9_calm_42 : decode cX9_calm 42 = .ok (.iload 4, 2) := by decide +kernel
theorem dX9_calm_44 : decode cX9_calm 44 = .ok (.iconst 1, 1) := by decide +kernel
theorem dX9_calm_45 : decode cX9_calm 45 = .ok (.aload_n 0, 1) := by decide +kernel
theorem dX9_calm_46 : decode cX9_calm 46 = .ok (.getfield 23, 3) := by decide +kernel
theorem dX9_calm_49 : decode cX9_calm 49 = .ok (.iconst 1, 1) := by decide +kernel
theorem dX9_calm_50 : decode cX9_calm 50 = .ok (.iaload, 1) := by decide +kernel
theorem dX9_calm_51 : decode cX9_calm 51 = .ok (.ishl, 1) := by decide +kernel
theorem dX9_calm_52 : decode cX9_calm 52 = .ok (.if_icmp .ge 118, 3) := by decide +kernel
theorem dX9_calm_55 : decode cX9_calm 55 = .ok (.iconst 1, 1) := by decide +kernel
theorem dX9_calm_56 : decode cX9_calm 56 = .ok (.istore 5, 2) := by decide +kernel
theorem dX9_calm_58 : decode cX9_calm 58 = .ok (.iconst 0, 1) := by decide +kernel
theorem dX9_calm_59 : decode cX9_calm 59 = .ok (.istore 6, 2) := by decide +kernel
theorem dX9_calm_61 : decode cX9_calm 61 = .ok (.iload 6, 2) := by decide +kernel
theorem dX9_calm_63 : decode cX9_calm 63 = .ok (.aload_n 0, 1) := by decide +kernel
theorem dX9_calm_64 : decode cX9_calm 64 = .ok (.getfield 23, 3) := by decide +kernel
theorem dX9_calm_67 : decode cX9_calm 67 = .ok (.iconst 1, 1) := by decide +kernel
theorem dX9_calm_68 : decode cX9_calm 68 = .ok (.iaload, 1) := by decide +kernel
theorem dX9_calm_69 : decode cX9_calm 69 = .ok (.if_icmp .ge 75, 3) := by decide +kernel
theorem dX9_calm_72 : decode cX9_calm 72 = .ok (.iconst 0, 1) := by decide +kernel
theorem dX9_calm_73 : decode cX9_calm 73 = .ok (.istore 7, 2) := by decide +kernel
theorem dX9_calm_75 : decode cX9_calm 75 = .ok (.iload 7, 2) := by decide +kernel
theorem dX9_calm_77 : decode cX9_calm 77 = .ok (.iload 6, 2) := by decide +kernel
theorem dX9_calm_79 : decode cX9_calm 79 = .ok (.if_icmp .ge 59, 3) := by decide +kernel
theorem dX9_calm_82 : decode cX9_calm 82 = .ok (.iload 5, 2) := by decide +kernel
theorem dX9_calm_84 : decode cX9_calm 84 = .ok (.ifCond .eq 45, 3) := by decide +kernel
theorem dX9_calm_87 : decode cX9_calm 87 = .ok (.iload 4, 2) := by decide +kernel
theorem dX9_calm_89 : decode cX9_calm 89 = .ok (.iload 6, 2) := by decide +kernel
theorem dX9_calm_91 : decode cX9_calm 91 = .ok (.ishr, 1) := by decide +kernel
theorem dX9_calm_92 : decode cX9_calm 92 = .ok (.iconst 1, 1) := by decide +kernel
theorem dX9_calm_93 : decode cX9_calm 93 = .ok (.iand, 1) := by decide +kernel
theorem dX9_calm_94 : decode cX9_calm 94 = .ok (.ifCond .eq 31, 3) := by decide +kernel
theorem dX9_calm_97 : decode cX9_calm 97 = .ok (.iload 4, 2) := by decide +kernel
theorem dX9_calm_99 : decode cX9_calm 99 = .ok (.iload 7, 2) := by decide +kernel
theorem dX9_calm_101 : decode cX9_calm 101 = .ok (.ishr, 1) := by decide +kernel
theorem dX9_calm_102 : decode cX9_calm 102 = .ok (.iconst 1, 1) := by decide +kernel
theorem dX9_calm_103 : decode cX9_calm 103 = .ok (.iand, 1) := by decide +kernel
theorem dX9_calm_104 : decode cX9_calm 104 = .ok (.ifCond .eq 21, 3) := by decide +kernel
theorem dX9_calm_107 : decode cX9_calm 107 = .ok (.aload_n 0, 1) := by decide +kernel
theorem dX9_calm_108 : decode cX9_calm 108 = .ok (.iload 6, 2) := by decide +kernel
theorem dX9_calm_110 : decode cX9_calm 110 = .ok (.iload 7, 2) := by decide +kernel
theorem dX9_calm_112 : decode cX9_calm 112 = .ok (.iload_n 1, 1) := by decide +kernel
theorem dX9_calm_113 : decode cX9_calm 113 = .ok (.aload_n 0, 1) := by decide +kernel
theorem dX9_calm_114 : decode cX9_calm 114 = .ok (.getfield 23, 3) := by decide +kernel
theorem dX9_calm_117 : decode cX9_calm 117 = .ok (.iconst 3, 1) := by decide +kernel
theorem dX9_calm_118 : decode cX9_calm 118 = .ok (.iaload, 1) := by decide +kernel
theorem dX9_calm_119 : decode cX9_calm 119 = .ok (.invokevirtual 347, 3) := by decide +kernel
theorem dX9_calm_122 : decode cX9_calm 122 = .ok (.ifCond .ne 7, 3) := by decide +kernel
theorem dX9_calm_125 : decode cX9_calm 125 = .ok (.iconst 1, 1) := by decide +kernel
theorem dX9_calm_126 : decode cX9_calm 126 = .ok (.goto 4, 3) := by decide +kernel
theorem dX9_calm_129 : decode cX9_calm 129 = .ok (.iconst 0, 1) := by decide +kernel
theorem dX9_calm_130 : decode cX9_calm 130 = .ok (.istore 5, 2) := by decide +kernel
theorem dX9_calm_132 : decode cX9_calm 132 = .ok (.iinc 7 1, 3) := by decide +kernel
theorem dX9_calm_135 : decode cX9_calm 135 = .ok (.goto (-60), 3) := by decide +kernel
theorem dX9_calm_138 : decode cX9_calm 138 = .ok (.iinc 6 1, 3) := by decide +kernel
theorem dX9_calm_141 : decode cX9_calm 141 = .ok (.goto (-80), 3) := by decide +kernel
theorem dX9_calm_144 : decode cX9_calm 144 = .ok (.iload 5, 2) := by decide +kernel
theorem dX9_calm_146 : decode cX9_calm 146 = .ok (.ifCond .eq 18, 3) := by decide +kernel
theorem dX9_calm_149 : decode cX9_calm 149 = .ok (.iload 4, 2) := by decide +kernel
theorem dX9_calm_151 : decode cX9_calm 151 = .ok (.invokestatic 290, 3) := by decide +kernel
theorem dX9_calm_154 : decode cX9_calm 154 = .ok (.iload_n 3, 1) := by decide +kernel
theorem dX9_calm_155 : decode cX9_calm 155 = .ok (.invokestatic 290, 3) := by decide +kernel
theorem dX9_calm_158 : decode cX9_calm 158 = .ok (.if_icmp .le 6, 3) := by decide +kernel
theorem dX9_calm_161 : decode cX9_calm 161 = .ok (.iload 4, 2) := by decide +kernel
theorem dX9_calm_163 : decode cX9_calm 163 = .ok (.istore_n 3, 1) := by decide +kernel
theorem dX9_calm_164 : decode cX9_calm 164 = .ok (.iinc 4 1, 3) := by decide +kernel
theorem dX9_calm_167 : decode cX9_calm 167 = .ok (.goto (-125), 3) := by decide +kernel
theorem dX9_calm_170 : decode cX9_calm 170 = .ok (.iload_n 2, 1) := by decide +kernel
theorem dX9_calm_171 : decode cX9_calm 171 = .ok (.ifCond .ne 10, 3) := by decide +kernel
theorem dX9_calm_174 : decode cX9_calm 174 = .ok (.iload_n 3, 1) := by decide +kernel
theorem dX9_calm_175 : decode cX9_calm 175 = .ok (.invokestatic 290, 3) := by decide +kernel
theorem dX9_calm_178 : decode cX9_calm 178 = .ok (.goto 4, 3) := by decide +kernel
theorem dX9_calm_181 : decode cX9_calm 181 = .ok (.iload_n 3, 1) := by decide +kernel
theorem dX9_calm_182 : decode cX9_calm 182 = .ok (.ireturn, 1) := by decide +kernel
theorem dX9_familyOf_0 : decode cX9_familyOf 0 = .ok (.iconst 1, 1) := by decide +kernel
theorem dX9_familyOf_1 : decode cX9_familyOf 1 = .ok (.iload_n 1, 1) := by decide +kernel
theorem dX9_familyOf_2 : decode cX9_familyOf 2 = .ok (.ishl, 1) := by decide +kernel
theorem dX9_familyOf_3 : decode cX9_familyOf 3 = .ok (.istore_n 2, 1) := by decide +kernel
theorem dX9_familyOf_4 : decode cX9_familyOf 4 = .ok (.iconst 0, 1) := by decide +kernel
theorem dX9_familyOf_5 : decode cX9_familyOf 5 = .ok (.istore_n 3, 1) := by decide +kernel
theorem dX9_familyOf_6 : decode cX9_familyOf 6 = .ok (.iload_n 2, 1) := by decide +kernel
theorem dX9_familyOf_7 : decode cX9_familyOf 7 = .ok (.iload_n 3, 1) := by decide +kernel
theorem dX9_familyOf_8 : decode cX9_familyOf 8 = .ok (.if_icmp .eq 52, 3) := by decide +kernel
theorem dX9_familyOf_11 : decode cX9_familyOf 11 = .ok (.iload_n 2, 1) := by decide +kernel
theorem dX9_familyOf_12 : decode cX9_familyOf 12 = .ok (.istore_n 3, 1) := by decide +kernel
theorem dX9_familyOf_13 : decode cX9_familyOf 13 = .ok (.iconst 0, 1) := by decide +kernel
theorem dX9_familyOf_14 : decode cX9_familyOf 14 = .ok (.istore 4, 2) := by decide +kernel
theorem dX9_familyOf_16 : decode cX9_familyOf 16 = .ok (.iload 4, 2) := by decide +kernel
theorem dX9_familyOf_18 : decode cX9_familyOf 18 = .ok (.aload_n 0, 1) := by decide +kernel
theorem dX9_familyOf_19 : decode cX9_familyOf 19 = .ok (.getfield 23, 3) := by decide +kernel
theorem dX9_familyOf_22 : decode cX9_familyOf 22 = .ok (.iconst 1, 1) := by decide +kernel
theorem dX9_familyOf_23 : decode cX9_familyOf 23 = .ok (.iaload, 1) := by decide +kernel
theorem dX9_familyOf_24 : decode cX9_familyOf 24 = .ok (.if_icmp .ge 33, 3) := by decide +kernel
theorem dX9_familyOf_27 : decode cX9_familyOf 27 = .ok (.iload_n 2, 1) := by decide +kernel
theorem dX9_familyOf_28 : decode cX9_familyOf 28 = .ok (.iload_n 3, 1) := by decide +kernel
theorem dX9_familyOf_29 : decode cX9_familyOf 29 = .ok (.iload 4, 2) := by decide +kernel
theorem dX9_familyOf_31 : decode cX9_familyOf 31 = .ok (.ishr, 1) := by decide +kernel
theorem dX9_familyOf_32 : decode cX9_familyOf 32 = .ok (.iconst 1, 1) := by decide +kernel
theorem dX9_familyOf_33 : decode cX9_familyOf 33 = .ok (.iand, 1) := by decide +kernel
theorem dX9_familyOf_34 : decode cX9_familyOf 34 = .ok (.iconst 1, 1) := by decide +kernel
theorem dX9_familyOf_35 : decode cX9_familyOf 35 = .ok (.if_icmp .ne 13, 3) := by decide +kernel
theorem dX9_familyOf_38 : decode cX9_familyOf 38 = .ok (.aload_n 0, 1) := by decide +kernel
theorem dX9_familyOf_39 : decode cX9_familyOf 39 = .ok (.getfield 49, 3) := by decide +kernel
theorem dX9_familyOf_42 : decode cX9_familyOf 42 = .ok (.iload 4, 2) := by decide +kernel
theorem dX9_familyOf_44 : decode cX9_familyOf 44 = .ok (.iaload, 1) := by decide +kernel
theorem dX9_familyOf_45 : decode cX9_familyOf 45 = .ok (.goto 4, 3) := by decide +kernel
theorem dX9_familyOf_48 : decode cX9_familyOf 48 = .ok (.iconst 0, 1) := by decide +kernel
theorem dX9_familyOf_49 : decode cX9_familyOf 49 = .ok (.ior, 1) := by decide +kernel
theorem dX9_familyOf_50 : decode cX9_familyOf 50 = .ok (.istore_n 2, 1) := by decide +kernel
theorem dX9_familyOf_51 : decode cX9_familyOf 51 = .ok (.iinc 4 1, 3) := by decide +kernel
theorem dX9_familyOf_54 : decode cX9_familyOf 54 = .ok (.goto (-38), 3) := by decide +kernel
theorem dX9_familyOf_57 : decode cX9_familyOf 57 = .ok (.goto (-51), 3) := by decide +kernel
theorem dX9_familyOf_60 : decode cX9_familyOf 60 = .ok (.iload_n 2, 1) := by decide +kernel
theorem dX9_familyOf_61 : decode cX9_familyOf 61 = .ok (.ireturn, 1) := by decide +kernel
theorem dX9_family_0 : decode cX9_family 0 = .ok (.aload_n 0, 1) := by decide +kernel
theorem dX9_family_1 : decode cX9_family 1 = .ok (.iconst 0, 1) := by decide +kernel
theorem dX9_family_2 : decode cX9_family 2 = .ok (.putfield 106, 3) := by decide +kernel
theorem dX9_family_5 : decode cX9_family 5 = .ok (.aload_n 0, 1) := by decide +kernel
theorem dX9_family_6 : decode cX9_family 6 = .ok (.iload_n 1, 1) := by decide +kernel
theorem dX9_family_7 : decode cX9_family 7 = .ok (.iconst (-1), 1) := by decide +kernel
theorem dX9_family_8 : decode cX9_family 8 = .ok (.if_icmp .eq 15, 3) := by decide +kernel
theorem dX9_family_11 : decode cX9_family 11 = .ok (.aload_n 0, 1) := by decide +kernel
theorem dX9_family_12 : decode cX9_family 12 = .ok (.iload_n 1, 1) := by decide +kernel
theorem dX9_family_13 : decode cX9_family 13 = .ok (.invokevirtual 214, 3) := by decide +kernel
theorem dX9_family_16 : decode cX9_family 16 = .ok (.ifCond .ne 7, 3) := by decide +kernel
theorem dX9_family_19 : decode cX9_family 19 = .ok (.iconst 1, 1) := by decide +kernel
theorem dX9_family_20 : decode cX9_family 20 = .ok (.goto 4, 3) := by decide +kernel
theorem dX9_family_23 : decode cX9_family 23 = .ok (.iconst 0, 1) := by decide +kernel
theorem dX9_family_24 : decode cX9_family 24 = .ok (.iconst 1, 1) := by decide +kernel
theorem dX9_family_25 : decode cX9_family 25 = .ok (.invokevirtual 188, 3) := by decide +kernel
theorem dX9_family_28 : decode cX9_family 28 = .ok (.ifCond .eq 5, 3) := by decide +kernel
theorem dX9_family_31 : decode cX9_family 31 = .ok (.iconst 0, 1) := by decide +kernel
theorem dX9_family_32 : decode cX9_family 32 = .ok (.ireturn, 1) := by decide +kernel
theorem dX9_family_33 : decode cX9_family 33 = .ok (.iload_n 1, 1) := by decide +kernel
theorem dX9_family_34 : decode cX9_family 34 = .ok (.iconst (-1), 1) := by decide +kernel
theorem dX9_family_35 : decode cX9_family 35 = .ok (.if_icmp .eq 12, 3) := by decide +kernel
theorem dX9_family_38 : decode cX9_family 38 = .ok (.aload_n 0, 1) := by decide +kernel
theorem dX9_family_39 : decode cX9_family 39 = .ok (.iload_n 1, 1) := by decide +kernel
theorem dX9_family_40 : decode cX9_family 40 = .ok (.invokevirtual 361, 3) := by decide +kernel
theorem dX9_family_43 : decode cX9_family 43 = .ok (.invokestatic 290, 3) := by decide +kernel
theorem dX9_family_46 : decode cX9_family 46 = .ok (.ireturn, 1) := by decide +kernel
theorem dX9_family_47 : decode cX9_family 47 = .ok (.iconst 0, 1) := by decide +kernel
theorem dX9_family_48 : decode cX9_family 48 = .ok (.istore_n 2, 1) := by decide +kernel
theorem dX9_family_49 : decode cX9_family 49 = .ok (.iconst 0, 1) := by decide +kernel
theorem dX9_family_50 : decode cX9_family 50 = .ok (.istore_n 3, 1) := by decide +kernel
theorem dX9_family_51 : decode cX9_family 51 = .ok (.iload_n 3, 1) := by decide +kernel
theorem dX9_family_52 : decode cX9_family 52 = .ok (.aload_n 0, 1) := by decide +kernel
theorem dX9_family_53 : decode cX9_family 53 = .ok (.getfield 23, 3) := by decide +kernel
theorem dX9_family_56 : decode cX9_family 56 = .ok (.iconst 1, 1) := by decide +kernel
theorem dX9_family_57 : decode cX9_family 57 = .ok (.iaload, 1) := by decide +kernel
theorem dX9_family_58 : decode cX9_family 58 = .ok (.if_icmp .ge 31, 3) := by decide +kernel
theorem dX9_family_61 : decode cX9_family 61 = .ok (.iload_n 2, 1) := by decide +kernel
theorem dX9_family_62 : decode cX9_family 62 = .ok (.aload_n 0, 1) := by decide +kernel
theorem dX9_family_63 : decode cX9_family 63 = .ok (.iload_n 3, 1) := by decide +kernel
theorem dX9_family_64 : decode cX9_family 64 = .ok (.invokevirtual 361, 3) := by decide +kernel
theorem dX9_family_67 : decode cX9_family 67 = .ok (.iconst 1, 1) := by decide +kernel
theorem dX9_family_68 : decode cX9_family 68 = .ok (.iload_n 3, 1) := by decide +kernel
theorem dX9_family_69 : decode cX9_family 69 = .ok (.ishl, 1) := by decide +kernel
theorem dX9_family_70 : decode cX9_family 70 = .ok (.iconst 1, 1) := by decide +kernel
theorem dX9_family_71 : decode cX9_family 71 = .ok (.isub, 1) := by decide +kernel
theorem dX9_family_72 : decode cX9_family 72 = .ok (.iand, 1) := by decide +kernel
theorem dX9_family_73 : decode cX9_family 73 = .ok (.ifCond .ne 7, 3) := by decide +kernel
theorem dX9_family_76 : decode cX9_family 76 = .ok (.iconst 1, 1) := by decide +kernel
theorem dX9_family_77 : decode cX9_family 77 = .ok (.goto 4, 3) := by decide +kernel
theorem dX9_family_80 : decode cX9_family 80 = .ok (.iconst 0, 1) := by decide +kernel
theorem dX9_family_81 : decode cX9_family 81 = .ok (.iadd, 1) := by decide +kernel
theorem dX9_family_82 : decode cX9_family 82 = .ok (.istore_n 2, 1) := by decide +kernel
theorem dX9_family_83 : decode cX9_family 83 = .ok (.iinc 3 1, 3) := by decide +kernel
theorem dX9_family_86 : decode cX9_family 86 = .ok (.goto (-35), 3) := by decide +kernel
theorem dX9_family_89 : decode cX9_family 89 = .ok (.iload_n 2, 1) := by decide +kernel
theorem dX9_family_90 : decode cX9_family 90 = .ok (.ireturn, 1) := by decide +kernel
theorem dX9_starved_0 : decode cX9_starved 0 = .ok (.aload_n 0, 1) := by decide +kernel
theorem dX9_starved_1 : decode cX9_starved 1 = .ok (.iconst 0, 1) := by decide +kernel
theorem dX9_starved_2 : decode cX9_starved 2 = .ok (.putfield 106, 3) := by decide +kernel
theorem dX9_starved_5 : decode cX9_starved 5 = .ok (.aload_n 0, 1) := by decide +kernel
theorem dX9_starved_6 : decode cX9_starved 6 = .ok (.iload_n 1, 1) := by decide +kernel
theorem dX9_starved_7 : decode cX9_starved 7 = .ok (.iconst 0, 1) := by decide +kernel
theorem dX9_starved_8 : decode cX9_starved 8 = .ok (.iconst 3, 1) := by decide +kernel
theorem dX9_starved_9 : decode cX9_starved 9 = .ok (.invokestatic 140, 3) := by decide +kernel
theorem dX9_starved_12 : decode cX9_starved 12 = .ok (.ifCond .ne 7, 3) := by decide +kernel
theorem dX9_starved_15 : decode cX9_starved 15 = .ok (.iconst 1, 1) := by decide +kernel
theorem dX9_starved_16 : decode cX9_starved 16 = .ok (.goto 4, 3) := by decide +kernel
theorem dX9_starved_19 : decode cX9_starved 19 = .ok (.iconst 0, 1) := by decide +kernel
theorem dX9_starved_20 : decode cX9_starved 20 = .ok (.iconst 1, 1) := by decide +kernel
theorem dX9_starved_21 : decode cX9_starved 21 = .ok (.invokevirtual 188, 3) := by decide +kernel
theorem dX9_starved_24 : decode cX9_starved 24 = .ok (.ifCond .eq 5, 3) := by decide +kernel
theorem dX9_starved_27 : decode cX9_starved 27 = .ok (.iconst 0, 1) := by decide +kernel
theorem dX9_starved_28 : decode cX9_starved 28 = .ok (.ireturn, 1) := by decide +kernel
theorem dX9_starved_29 : decode cX9_starved 29 = .ok (.aload_n 0, 1) := by decide +kernel
theorem dX9_starved_30 : decode cX9_starved 30 = .ok (.iload_n 1, 1) := by decide +kernel
theorem dX9_starved_31 : decode cX9_starved 31 = .ok (.bipush 30, 2) := by decide +kernel
theorem dX9_starved_33 : decode cX9_starved 33 = .ok (.aload_n 0, 1) := by decide +kernel
theorem dX9_starved_34 : decode cX9_starved 34 = .ok (.getfield 198, 3) := by decide +kernel
theorem dX9_starved_37 : decode cX9_starved 37 = .ok (.isub, 1) := by decide +kernel
theorem dX9_starved_38 : decode cX9_starved 38 = .ok (.iconst 0, 1) := by decide +kernel
theorem dX9_starved_39 : decode cX9_starved 39 = .ok (.invokevirtual 318, 3) := by decide +kernel
theorem dX9_starved_42 : decode cX9_starved 42 = .ok (.aload_n 0, 1) := by decide +kernel
theorem dX9_starved_43 : decode cX9_starved 43 = .ok (.getfield 305, 3) := by decide +kernel
theorem dX9_starved_46 : decode cX9_starved 46 = .ok (.ireturn, 1) := by decide +kernel
theorem dX9_slack_0 : decode cX9_slack 0 = .ok (.aload_n 0, 1) := by decide +kernel
theorem dX9_slack_1 : decode cX9_slack 1 = .ok (.iconst 0, 1) := by decide +kernel
theorem dX9_slack_2 : decode cX9_slack 2 = .ok (.putfield 106, 3) := by decide +kernel
theorem dX9_slack_5 : decode cX9_slack 5 = .ok (.aload_n 0, 1) := by decide +kernel
theorem dX9_slack_6 : decode cX9_slack 6 = .ok (.iload_n 1, 1) := by decide +kernel
theorem dX9_slack_7 : decode cX9_slack 7 = .ok (.invokevirtual 278, 3) := by decide +kernel
theorem dX9_slack_10 : decode cX9_slack 10 = .ok (.ifCond .eq 5, 3) := by decide +kernel
theorem dX9_slack_13 : decode cX9_slack 13 = .ok (.iconst 0, 1) := by decide +kernel
theorem dX9_slack_14 : decode cX9_slack 14 = .ok (.ireturn, 1) := by decide +kernel
theorem dX9_slack_15 : decode cX9_slack 15 = .ok (.aload_n 0, 1) := by decide +kernel
theorem dX9_slack_16 : decode cX9_slack 16 = .ok (.aload_n 0, 1) := by decide +kernel
theorem dX9_slack_17 : decode cX9_slack 17 = .ok (.getfield 23, 3) := by decide +kernel
theorem dX9_slack_20 : decode cX9_slack 20 = .ok (.iconst 1, 1) := by decide +kernel
theorem dX9_slack_21 : decode cX9_slack 21 = .ok (.iaload, 1) := by decide +kernel
theorem dX9_slack_22 : decode cX9_slack 22 = .ok (.iload_n 1, 1) := by decide +kernel
theorem dX9_slack_23 : decode cX9_slack 23 = .ok (.invokevirtual 281, 3) := by decide +kernel
theorem dX9_slack_26 : decode cX9_slack 26 = .ok (.aload_n 0, 1) := by decide +kernel
theorem dX9_slack_27 : decode cX9_slack 27 = .ok (.getfield 263, 3) := by decide +kernel
theorem dX9_slack_30 : decode cX9_slack 30 = .ok (.istore_n 2, 1) := by decide +kernel
theorem dX9_slack_31 : decode cX9_slack 31 = .ok (.aload_n 0, 1) := by decide +kernel
theorem dX9_slack_32 : decode cX9_slack 32 = .ok (.getfield 23, 3) := by decide +kernel
theorem dX9_slack_35 : decode cX9_slack 35 = .ok (.iconst 3, 1) := by decide +kernel
theorem dX9_slack_36 : decode cX9_slack 36 = .ok (.iaload, 1) := by decide +kernel
theorem dX9_slack_37 : decode cX9_slack 37 = .ok (.istore_n 3, 1) := by decide +kernel
theorem dX9_slack_38 : decode cX9_slack 38 = .ok (.iconst 0, 1) := by decide +kernel
theorem dX9_slack_39 : decode cX9_slack 39 = .ok (.istore 4, 2) := by decide +kernel
theorem dX9_slack_41 : decode cX9_slack 41 = .ok (.bipush 8, 2) := by decide +kernel
theorem dX9_slack_43 : decode cX9_slack 43 = .ok (.istore 5, 2) := by decide +kernel
theorem dX9_slack_45 : decode cX9_slack 45 = .ok (.iload 5, 2) := by decide +kernel
theorem dX9_slack_47 : decode cX9_slack 47 = .ok (.ifCond .le 53, 3) := by decide +kernel
theorem dX9_slack_50 : decode cX9_slack 50 = .ok (.iload 4, 2) := by decide +kernel
theorem dX9_slack_52 : decode cX9_slack 52 = .ok (.ifCond .ne 48, 3) := by decide +kernel
theorem dX9_slack_55 : decode cX9_slack 55 = .ok (.iload_n 2, 1) := by decide +kernel
theorem dX9_slack_56 : decode cX9_slack 56 = .ok (.ifCond .le 44, 3) := by decide +kernel
theorem dX9_slack_59 : decode cX9_slack 59 = .ok (.aload_n 0, 1) := by decide +kernel
theorem dX9_slack_60 : decode cX9_slack 60 = .ok (.getfield 23, 3) := by decide +kernel
theorem dX9_slack_63 : decode cX9_slack 63 = .ok (.iconst 3, 1) := by decide +kernel
theorem dX9_slack_64 : decode cX9_slack 64 = .ok (.iload 5, 2) := by decide +kernel
theorem dX9_slack_66 : decode cX9_slack 66 = .ok (.iastore, 1) := by decide +kernel
theorem dX9_slack_67 : decode cX9_slack 67 = .ok (.aload_n 0, 1) := by decide +kernel
theorem dX9_slack_68 : decode cX9_slack 68 = .ok (.aload_n 0, 1) := by decide +kernel
theorem dX9_slack_69 : decode cX9_slack 69 = .ok (.getfield 23, 3) := by decide +kernel
theorem dX9_slack_72 : decode cX9_slack 72 = .ok (.iconst 1, 1) := by decide +kernel
theorem dX9_slack_73 : decode cX9_slack 73 = .ok (.iaload, 1) := by decide +kernel
theorem dX9_slack_74 : decode cX9_slack 74 = .ok (.iload_n 1, 1) := by decide +kernel
theorem dX9_slack_75 : decode cX9_slack 75 = .ok (.invokevirtual 281, 3) := by decide +kernel
theorem dX9_slack_78 : decode cX9_slack 78 = .ok (.aload_n 0, 1) := by decide +kernel
theorem dX9_slack_79 : decode cX9_slack 79 = .ok (.getfield 263, 3) := by decide +kernel
theorem dX9_slack_82 : decode cX9_slack 82 = .ok (.iload_n 2, 1) := by decide +kernel
theorem dX9_slack_83 : decode cX9_slack 83 = .ok (.if_icmp .ne 8, 3) := by decide +kernel
theorem dX9_slack_86 : decode cX9_slack 86 = .ok (.iload 5, 2) := by decide +kernel
theorem dX9_slack_88 : decode cX9_slack 88 = .ok (.goto 4, 3) := by decide +kernel
theorem dX9_slack_91 : decode cX9_slack 91 = .ok (.iconst 0, 1) := by decide +kernel
theorem dX9_slack_92 : decode cX9_slack 92 = .ok (.istore 4, 2) := by decide +kernel
theorem dX9_slack_94 : decode cX9_slack 94 = .ok (.iinc 5 (-1), 3) := by decide +kernel
theorem dX9_slack_97 : decode cX9_slack 97 = .ok (.goto (-52), 3) := by decide +kernel
theorem dX9_slack_100 : decode cX9_slack 100 = .ok (.aload_n 0, 1) := by decide +kernel
theorem dX9_slack_101 : decode cX9_slack 101 = .ok (.getfield 23, 3) := by decide +kernel
theorem dX9_slack_104 : decode cX9_slack 104 = .ok (.iconst 3, 1) := by decide +kernel
theorem dX9_slack_105 : decode cX9_slack 105 = .ok (.iload_n 3, 1) := by decide +kernel
theorem dX9_slack_106 : decode cX9_slack 106 = .ok (.iastore, 1) := by decide +kernel
theorem dX9_slack_107 : decode cX9_slack 107 = .ok (.iload 4, 2) := by decide +kernel
theorem dX9_slack_109 : decode cX9_slack 109 = .ok (.ireturn, 1) := by decide +kernel
theorem dX9_firm_0 : decode cX9_firm 0 = .ok (.aload_n 0, 1) := by decide +kernel
theorem dX9_firm_1 : decode cX9_firm 1 = .ok (.iconst 0, 1) := by decide +kernel
theorem dX9_firm_2 : decode cX9_firm 2 = .ok (.putfield 106, 3) := by decide +kernel
theorem dX9_firm_5 : decode cX9_firm 5 = .ok (.aload_n 0, 1) := by decide +kernel
theorem dX9_firm_6 : decode cX9_firm 6 = .ok (.aload_n 0, 1) := by decide +kernel
theorem dX9_firm_7 : decode cX9_firm 7 = .ok (.iload_n 1, 1) := by decide +kernel
theorem dX9_firm_8 : decode cX9_firm 8 = .ok (.invokevirtual 214, 3) := by decide +kernel
theorem dX9_firm_11 : decode cX9_firm 11 = .ok (.ifCond .ne 7, 3) := by decide +kernel
theorem dX9_firm_14 : decode cX9_firm 14 = .ok (.iconst 1, 1) := by decide +kernel
theorem dX9_firm_15 : decode cX9_firm 15 = .ok (.goto 4, 3) := by decide +kernel
theorem dX9_firm_18 : decode cX9_firm 18 = .ok (.iconst 0, 1) := by decide +kernel
theorem dX9_firm_19 : decode cX9_firm 19 = .ok (.iconst 1, 1) := by decide +kernel
theorem dX9_firm_20 : decode cX9_firm 20 = .ok (.invokevirtual 188, 3) := by decide +kernel
theorem dX9_firm_23 : decode cX9_firm 23 = .ok (.ifCond .ne 33, 3) := by decide +kernel
theorem dX9_firm_26 : decode cX9_firm 26 = .ok (.aload_n 0, 1) := by decide +kernel
theorem dX9_firm_27 : decode cX9_firm 27 = .ok (.iload_n 2, 1) := by decide +kernel
theorem dX9_firm_28 : decode cX9_firm 28 = .ok (.iconst 0, 1) := by decide +kernel
theorem dX9_firm_29 : decode cX9_firm 29 = .ok (.iconst 3, 1) := by decide +kernel
theorem dX9_firm_30 : decode cX9_firm 30 = .ok (.invokestatic 140, 3) := by decide +kernel
theorem dX9_firm_33 : decode cX9_firm 33 = .ok (.ifCond .eq 11, 3) := by decide +kernel
theorem dX9_firm_36 : decode cX9_firm 36 = .ok (.aload_n 0, 1) := by decide +kernel
theorem dX9_firm_37 : decode cX9_firm 37 = .ok (.iload_n 3, 1) := by decide +kernel
theorem dX9_firm_38 : decode cX9_firm 38 = .ok (.invokevirtual 315, 3) := by decide +kernel
theorem dX9_firm_41 : decode cX9_firm 41 = .ok (.ifCond .ne 7, 3) := by decide +kernel
theorem dX9_firm_44 : decode cX9_firm 44 = .ok (.iconst 1, 1) := by decide +kernel
theorem dX9_firm_45 : decode cX9_firm 45 = .ok (.goto 4, 3) := by decide +kernel
theorem dX9_firm_48 : decode cX9_firm 48 = .ok (.iconst 0, 1) := by decide +kernel
theorem dX9_firm_49 : decode cX9_firm 49 = .ok (.iconst 2, 1) := by decide +kernel
theorem dX9_firm_50 : decode cX9_firm 50 = .ok (.invokevirtual 188, 3) := by decide +kernel
theorem dX9_firm_53 : decode cX9_firm 53 = .ok (.ifCond .eq 5, 3) := by decide +kernel
theorem dX9_firm_56 : decode cX9_firm 56 = .ok (.iconst 0, 1) := by decide +kernel
theorem dX9_firm_57 : decode cX9_firm 57 = .ok (.ireturn, 1) := by decide +kernel
theorem dX9_firm_58 : decode cX9_firm 58 = .ok (.aload_n 0, 1) := by decide +kernel
theorem dX9_firm_59 : decode cX9_firm 59 = .ok (.iload_n 2, 1) := by decide +kernel
theorem dX9_firm_60 : decode cX9_firm 60 = .ok (.iload_n 3, 1) := by decide +kernel
theorem dX9_firm_61 : decode cX9_firm 61 = .ok (.iconst 0, 1) := by decide +kernel
theorem dX9_firm_62 : decode cX9_firm 62 = .ok (.invokevirtual 318, 3) := by decide +kernel
theorem dX9_firm_65 : decode cX9_firm 65 = .ok (.aload_n 0, 1) := by decide +kernel
theorem dX9_firm_66 : decode cX9_firm 66 = .ok (.getfield 88, 3) := by decide +kernel
theorem dX9_firm_69 : decode cX9_firm 69 = .ok (.iconst 0, 1) := by decide +kernel
theorem dX9_firm_70 : decode cX9_firm 70 = .ok (.iaload, 1) := by decide +kernel
theorem dX9_firm_71 : decode cX9_firm 71 = .ok (.istore 4, 2) := by decide +kernel
theorem dX9_firm_73 : decode cX9_firm 73 = .ok (.aload_n 0, 1) := by decide +kernel
theorem dX9_firm_74 : decode cX9_firm 74 = .ok (.getfield 31, 3) := by decide +kernel
theorem dX9_firm_77 : decode cX9_firm 77 = .ok (.iload_n 1, 1) := by decide +kernel
theorem dX9_firm_78 : decode cX9_firm 78 = .ok (.aaload, 1) := by decide +kernel
theorem dX9_firm_79 : decode cX9_firm 79 = .ok (.iconst 4, 1) := by decide +kernel
theorem dX9_firm_80 : decode cX9_firm 80 = .ok (.iaload, 1) := by decide +kernel
theorem dX9_firm_81 : decode cX9_firm 81 = .ok (.istore 5, 2) := by decide +kernel
theorem dX9_firm_83 : decode cX9_firm 83 = .ok (.aload_n 0, 1) := by decide +kernel
theorem dX9_firm_84 : decode cX9_firm 84 = .ok (.getfield 31, 3) := by decide +kernel
theorem dX9_firm_87 : decode cX9_firm 87 = .ok (.iload_n 1, 1) := by decide +kernel
theorem dX9_firm_88 : decode cX9_firm 88 = .ok (.aaload, 1) := by decide +kernel
theorem dX9_firm_89 : decode cX9_firm 89 = .ok (.iconst 4, 1) := by decide +kernel
theorem dX9_firm_90 : decode cX9_firm 90 = .ok (.iconst 0, 1) := by decide +kernel
theorem dX9_firm_91 : decode cX9_firm 91 = .ok (.iastore, 1) := by decide +kernel
theorem dX9_firm_92 : decode cX9_firm 92 = .ok (.aload_n 0, 1) := by decide +kernel
theorem dX9_firm_93 : decode cX9_firm 93 = .ok (.iload_n 2, 1) := by decide +kernel
theorem dX9_firm_94 : decode cX9_firm 94 = .ok (.iload_n 3, 1) := by decide +kernel
theorem dX9_firm_95 : decode cX9_firm 95 = .ok (.iconst 0, 1) := by decide +kernel
theorem dX9_firm_96 : decode cX9_firm 96 = .ok (.invokevirtual 318, 3) := by decide +kernel
theorem dX9_firm_99 : decode cX9_firm 99 = .ok (.aload_n 0, 1) := by decide +kernel
theorem dX9_firm_100 : decode cX9_firm 100 = .ok (.getfield 31, 3) := by decide +kernel
theorem dX9_firm_103 : decode cX9_firm 103 = .ok (.iload_n 1, 1) := by decide +kernel
theorem dX9_firm_104 : decode cX9_firm 104 = .ok (.aaload, 1) := by decide +kernel
theorem dX9_firm_105 : decode cX9_firm 105 = .ok (.iconst 4, 1) := by decide +kernel
theorem dX9_firm_106 : decode cX9_firm 106 = .ok (.iload 5, 2) := by decide +kernel
theorem dX9_firm_108 : decode cX9_firm 108 = .ok (.iastore, 1) := by decide +kernel
theorem dX9_firm_109 : decode cX9_firm 109 = .ok (.aload_n 0, 1) := by decide +kernel
theorem dX9_firm_110 : decode cX9_firm 110 = .ok (.getfield 88, 3) := by decide +kernel
theorem dX9_firm_113 : decode cX9_firm 113 = .ok (.iconst 0, 1) := by decide +kernel
theorem dX9_firm_114 : decode cX9_firm 114 = .ok (.iaload, 1) := by decide +kernel
theorem dX9_firm_115 : decode cX9_firm 115 = .ok (.iload 4, 2) := by decide +kernel
theorem dX9_firm_117 : decode cX9_firm 117 = .ok (.isub, 1) := by decide +kernel
theorem dX9_firm_118 : decode cX9_firm 118 = .ok (.ireturn, 1) := by decide +kernel
theorem dX9_thenBest_0 : decode cX9_thenBest 0 = .ok (.aload_n 0, 1) := by decide +kernel
theorem dX9_thenBest_1 : decode cX9_thenBest 1 = .ok (.iconst 1, 1) := by decide +kernel
theorem dX9_thenBest_2 : decode cX9_thenBest 2 = .ok (.iconst 0, 1) := by decide +kernel
theorem dX9_thenBest_3 : decode cX9_thenBest 3 = .ok (.invokevirtual 248, 3) := by decide +kernel
theorem dX9_thenBest_6 : decode cX9_thenBest 6 = .ok (.iload_n 1, 1) := by decide +kernel
theorem dX9_thenBest_7 : decode cX9_thenBest 7 = .ok (.iconst (-1), 1) := by decide +kernel
theorem dX9_thenBest_8 : decode cX9_thenBest 8 = .ok (.if_icmp .eq 22, 3) := by decide +kernel
theorem dX9_thenBest_11 : decode cX9_thenBest 11 = .ok (.aload_n 0, 1) := by decide +kernel
theorem dX9_thenBest_12 : decode cX9_thenBest 12 = .ok (.iload_n 1, 1) := by decide +kernel
theorem dX9_thenBest_13 : decode cX9_thenBest 13 = .ok (.bipush 100, 2) := by decide +kernel
theorem dX9_thenBest_15 : decode cX9_thenBest 15 = .ok (.idiv, 1) := by decide +kernel
theorem dX9_thenBest_16 : decode cX9_thenBest 16 = .ok (.iload_n 1, 1) := by decide +kernel
theorem dX9_thenBest_17 : decode cX9_thenBest 17 = .ok (.bipush 10, 2) := by decide +kernel
theorem dX9_thenBest_19 : decode cX9_thenBest 19 = .ok (.idiv, 1) := by decide +kernel
theorem dX9_thenBest_20 : decode cX9_thenBest 20 = .ok (.bipush 10, 2) := by decide +kernel
theorem dX9_thenBest_22 : decode cX9_thenBest 22 = .ok (.irem, 1) := by decide +kernel
theorem dX9_thenBest_23 : decode cX9_thenBest 23 = .ok (.iload_n 1, 1) := by decide +kernel
theorem dX9_thenBest_24 : decode cX9_thenBest 24 = .ok (.bipush 10, 2) := by decide +kernel
theorem dX9_thenBest_26 : decode cX9_thenBest 26 = .ok (.irem, 1) := by decide +kernel
theorem dX9_thenBest_27 : decode cX9_thenBest 27 = .ok (.invokevirtual 242, 3) := by decide +kernel
theorem dX9_thenBest_30 : decode cX9_thenBest 30 = .ok (.aload_n 0, 1) := by decide +kernel
theorem dX9_thenBest_31 : decode cX9_thenBest 31 = .ok (.dup, 1) := by decide +kernel
theorem dX9_thenBest_32 : decode cX9_thenBest 32 = .ok (.getfield 198, 3) := by decide +kernel
theorem dX9_thenBest_35 : decode cX9_thenBest 35 = .ok (.iconst 1, 1) := by decide +kernel
theorem dX9_thenBest_36 : decode cX9_thenBest 36 = .ok (.iadd, 1) := by decide +kernel
theorem dX9_thenBest_37 : decode cX9_thenBest 37 = .ok (.putfield 198, 3) := by decide +kernel
theorem dX9_thenBest_40 : decode cX9_thenBest 40 = .ok (.aload_n 0, 1) := by decide +kernel
theorem dX9_thenBest_41 : decode cX9_thenBest 41 = .ok (.invokevirtual 207, 3) := by decide +kernel
theorem dX9_thenBest_44 : decode cX9_thenBest 44 = .ok (.aload_n 0, 1) := by decide +kernel
theorem dX9_thenBest_45 : decode cX9_thenBest 45 = .ok (.getfield 198, 3) := by decide +kernel
theorem dX9_thenBest_48 : decode cX9_thenBest 48 = .ok (.bipush 29, 2) := by decide +kernel
theorem dX9_thenBest_50 : decode cX9_thenBest 50 = .ok (.if_icmp .le 7, 3) := by decide +kernel
theorem dX9_thenBest_53 : decode cX9_thenBest 53 = .ok (.iconst (-1), 1) := by decide +kernel
theorem dX9_thenBest_54 : decode cX9_thenBest 54 = .ok (.goto 7, 3) := by decide +kernel
theorem dX9_thenBest_57 : decode cX9_thenBest 57 = .ok (.aload_n 0, 1) := by decide +kernel
theorem dX9_thenBest_58 : decode cX9_thenBest 58 = .ok (.invokevirtual 299, 3) := by decide +kernel
theorem dX9_thenBest_61 : decode cX9_thenBest 61 = .ok (.istore_n 2, 1) := by decide +kernel
theorem dX9_thenBest_62 : decode cX9_thenBest 62 = .ok (.aload_n 0, 1) := by decide +kernel
theorem dX9_thenBest_63 : decode cX9_thenBest 63 = .ok (.iconst 1, 1) := by decide +kernel
theorem dX9_thenBest_64 : decode cX9_thenBest 64 = .ok (.iconst 1, 1) := by decide +kernel
theorem dX9_thenBest_65 : decode cX9_thenBest 65 = .ok (.invokevirtual 248, 3) := by decide +kernel
theorem dX9_thenBest_68 : decode cX9_thenBest 68 = .ok (.iload_n 2, 1) := by decide +kernel
theorem dX9_thenBest_69 : decode cX9_thenBest 69 = .ok (.ireturn, 1) := by decide +kernel
theorem dX9_twoDays_0 : decode cX9_twoDays 0 = .ok (.aload_n 0, 1) := by decide +kernel
theorem dX9_twoDays_1 : decode cX9_twoDays 1 = .ok (.iconst 0, 1) := by decide +kernel
theorem dX9_twoDays_2 : decode cX9_twoDays 2 = .ok (.putfield 106, 3) := by decide +kernel
theorem dX9_twoDays_5 : decode cX9_twoDays 5 = .ok (.aload_n 0, 1) := by decide +kernel
theorem dX9_twoDays_6 : decode cX9_twoDays 6 = .ok (.iload_n 1, 1) := by decide +kernel
theorem dX9_twoDays_7 : decode cX9_twoDays 7 = .ok (.iconst 0, 1) := by decide +kernel
theorem dX9_twoDays_8 : decode cX9_twoDays 8 = .ok (.iconst 2, 1) := by decide +kernel
theorem dX9_twoDays_9 : decode cX9_twoDays 9 = .ok (.invokestatic 140, 3) := by decide +kernel
theorem dX9_twoDays_12 : decode cX9_twoDays 12 = .ok (.ifCond .ne 7, 3) := by decide +kernel
theorem dX9_twoDays_15 : decode cX9_twoDays 15 = .ok (.iconst 1, 1) := by decide +kernel
theorem dX9_twoDays_16 : decode cX9_twoDays 16 = .ok (.goto 4, 3) := by decide +kernel
theorem dX9_twoDays_19 : decode cX9_twoDays 19 = .ok (.iconst 0, 1) := by decide +kernel
theorem dX9_twoDays_20 : decode cX9_twoDays 20 = .ok (.iconst 1, 1) := by decide +kernel
theorem dX9_twoDays_21 : decode cX9_twoDays 21 = .ok (.invokevirtual 188, 3) := by decide +kernel
theorem dX9_twoDays_24 : decode cX9_twoDays 24 = .ok (.ifCond .eq 5, 3) := by decide +kernel
theorem dX9_twoDays_27 : decode cX9_twoDays 27 = .ok (.iconst 0, 1) := by decide +kernel
theorem dX9_twoDays_28 : decode cX9_twoDays 28 = .ok (.ireturn, 1) := by decide +kernel
theorem dX9_twoDays_29 : decode cX9_twoDays 29 = .ok (.aload_n 0, 1) := by decide +kernel
theorem dX9_twoDays_30 : decode cX9_twoDays 30 = .ok (.getfield 85, 3) := by decide +kernel
theorem dX9_twoDays_33 : decode cX9_twoDays 33 = .ok (.iconst 0, 1) := by decide +kernel
theorem dX9_twoDays_34 : decode cX9_twoDays 34 = .ok (.aload_n 0, 1) := by decide +kernel
theorem dX9_twoDays_35 : decode cX9_twoDays 35 = .ok (.invokevirtual 299, 3) := by decide +kernel
theorem dX9_twoDays_38 : decode cX9_twoDays 38 = .ok (.iastore, 1) := by decide +kernel
theorem dX9_twoDays_39 : decode cX9_twoDays 39 = .ok (.aload_n 0, 1) := by decide +kernel
theorem dX9_twoDays_40 : decode cX9_twoDays 40 = .ok (.getfield 85, 3) := by decide +kernel
theorem dX9_twoDays_43 : decode cX9_twoDays 43 = .ok (.iconst 1, 1) := by decide +kernel
theorem dX9_twoDays_44 : decode cX9_twoDays 44 = .ok (.iconst (-1), 1) := by decide +kernel
theorem dX9_twoDays_45 : decode cX9_twoDays 45 = .ok (.iastore, 1) := by decide +kernel
theorem dX9_twoDays_46 : decode cX9_twoDays 46 = .ok (.aload_n 0, 1) := by decide +kernel
theorem dX9_twoDays_47 : decode cX9_twoDays 47 = .ok (.getfield 85, 3) := by decide +kernel
theorem dX9_twoDays_50 : decode cX9_twoDays 50 = .ok (.iconst 0, 1) := by decide +kernel
theorem dX9_twoDays_51 : decode cX9_twoDays 51 = .ok (.iaload, 1) := by decide +kernel
theorem dX9_twoDays_52 : decode cX9_twoDays 52 = .ok (.iconst (-1), 1) := by decide +kernel
theorem dX9_twoDays_53 : decode cX9_twoDays 53 = .ok (.if_icmp .ne 7, 3) := by decide +kernel
theorem dX9_twoDays_56 : decode cX9_twoDays 56 = .ok (.iconst 0, 1) := by decide +kernel
theorem dX9_twoDays_57 : decode cX9_twoDays 57 = .ok (.goto 19, 3) := by decide +kernel
theorem dX9_twoDays_60 : decode cX9_twoDays 60 = .ok (.aload_n 0, 1) := by decide +kernel
theorem dX9_twoDays_61 : decode cX9_twoDays 61 = .ok (.getfield 37, 3) := by decide +kernel
theorem dX9_twoDays_64 : decode cX9_twoDays 64 = .ok (.aload_n 0, 1) := by decide +kernel
theorem dX9_twoDays_65 : decode cX9_twoDays 65 = .ok (.getfield 85, 3) := by decide +kernel
theorem dX9_twoDays_68 : decode cX9_twoDays 68 = .ok (.iconst 0, 1) := by decide +kernel
theorem dX9_twoDays_69 : decode cX9_twoDays 69 = .ok (.iaload, 1) := by decide +kernel
theorem dX9_twoDays_70 : decode cX9_twoDays 70 = .ok (.bipush 100, 2) := by decide +kernel
theorem dX9_twoDays_72 : decode cX9_twoDays 72 = .ok (.idiv, 1) := by decide +kernel
theorem dX9_twoDays_73 : decode cX9_twoDays 73 = .ok (.aaload, 1) := by decide +kernel
theorem dX9_twoDays_74 : decode cX9_twoDays 74 = .ok (.iconst 0, 1) := by decide +kernel
theorem dX9_twoDays_75 : decode cX9_twoDays 75 = .ok (.iaload, 1) := by decide +kernel
theorem dX9_twoDays_76 : decode cX9_twoDays 76 = .ok (.istore_n 2, 1) := by decide +kernel
theorem dX9_twoDays_77 : decode cX9_twoDays 77 = .ok (.aload_n 0, 1) := by decide +kernel
theorem dX9_twoDays_78 : decode cX9_twoDays 78 = .ok (.iconst (-1), 1) := by decide +kernel
theorem dX9_twoDays_79 : decode cX9_twoDays 79 = .ok (.invokevirtual 364, 3) := by decide +kernel
theorem dX9_twoDays_82 : decode cX9_twoDays 82 = .ok (.istore_n 3, 1) := by decide +kernel
theorem dX9_twoDays_83 : decode cX9_twoDays 83 = .ok (.iload_n 3, 1) := by decide +kernel
theorem dX9_twoDays_84 : decode cX9_twoDays 84 = .ok (.iconst (-1), 1) := by decide +kernel
theorem dX9_twoDays_85 : decode cX9_twoDays 85 = .ok (.if_icmp .eq 44, 3) := by decide +kernel
theorem dX9_twoDays_88 : decode cX9_twoDays 88 = .ok (.aload_n 0, 1) := by decide +kernel
theorem dX9_twoDays_89 : decode cX9_twoDays 89 = .ok (.getfield 37, 3) := by decide +kernel
theorem dX9_twoDays_92 : decode cX9_twoDays 92 = .ok (.iload_n 3, 1) := by decide +kernel
theorem dX9_twoDays_93 : decode cX9_twoDays 93 = .ok (.bipush 100, 2) := by decide +kernel
theorem dX9_twoDays_95 : decode cX9_twoDays 95 = .ok (.idiv, 1) := by decide +kernel
theorem dX9_twoDays_96 : decode cX9_twoDays 96 = .ok (.aaload, 1) := by decide +kernel
theorem dX9_twoDays_97 : decode cX9_twoDays 97 = .ok (.iconst 0, 1) := by decide +kernel
theorem dX9_twoDays_98 : decode cX9_twoDays 98 = .ok (.iaload, 1) := by decide +kernel
theorem dX9_twoDays_99 : decode cX9_twoDays 99 = .ok (.iload_n 2, 1) := by decide +kernel
theorem dX9_twoDays_100 : decode cX9_twoDays 100 = .ok (.if_icmp .le 29, 3) := by decide +kernel
theorem dX9_twoDays_103 : decode cX9_twoDays 103 = .ok (.aload_n 0, 1) := by decide +kernel
theorem dX9_twoDays_104 : decode cX9_twoDays 104 = .ok (.getfield 85, 3) := by decide +kernel
theorem dX9_twoDays_107 : decode cX9_twoDays 107 = .ok (.iconst 0, 1) := by decide +kernel
theorem dX9_twoDays_108 : decode cX9_twoDays 108 = .ok (.iconst (-1), 1) := by decide +kernel
theorem dX9_twoDays_109 : decode cX9_twoDays 109 = .ok (.iastore, 1) := by decide +kernel
theorem dX9_twoDays_110 : decode cX9_twoDays 110 = .ok (.aload_n 0, 1) := by decide +kernel
theorem dX9_twoDays_111 : decode cX9_twoDays 111 = .ok (.getfield 85, 3) := by decide +kernel
theorem dX9_twoDays_114 : decode cX9_twoDays 114 = .ok (.iconst 1, 1) := by decide +kernel
theorem dX9_twoDays_115 : decode cX9_twoDays 115 = .ok (.iload_n 3, 1) := by decide +kernel
theorem dX9_twoDays_116 : decode cX9_twoDays 116 = .ok (.iastore, 1) := by decide +kernel
theorem dX9_twoDays_117 : decode cX9_twoDays 117 = .ok (.aload_n 0, 1) := by decide +kernel
theorem dX9_twoDays_118 : decode cX9_twoDays 118 = .ok (.getfield 37, 3) := by decide +kernel
theorem dX9_twoDays_121 : decode cX9_twoDays 121 = .ok (.iload_n 3, 1) := by decide +kernel
theorem dX9_twoDays_122 : decode cX9_twoDays 122 = .ok (.bipush 100, 2) := by decide +kernel
theorem dX9_twoDays_124 : decode cX9_twoDays 124 = .ok (.idiv, 1) := by decide +kernel
theorem dX9_twoDays_125 : decode cX9_twoDays 125 = .ok (.aaload, 1) := by decide +kernel
theorem dX9_twoDays_126 : decode cX9_twoDays 126 = .ok (.iconst 0, 1) := by decide +kernel
theorem dX9_twoDays_127 : decode cX9_twoDays 127 = .ok (.iaload, 1) := by decide +kernel
theorem dX9_twoDays_128 : decode cX9_twoDays 128 = .ok (.istore_n 2, 1) := by decide +kernel
theorem dX9_twoDays_129 : decode cX9_twoDays 129 = .ok (.iconst 0, 1) := by decide +kernel
theorem dX9_twoDays_130 : decode cX9_twoDays 130 = .ok (.istore 4, 2) := by decide +kernel
theorem dX9_twoDays_132 : decode cX9_twoDays 132 = .ok (.iload 4, 2) := by decide +kernel
theorem dX9_twoDays_134 : decode cX9_twoDays 134 = .ok (.bipush 64, 2) := by decide +kernel
theorem dX9_twoDays_136 : decode cX9_twoDays 136 = .ok (.aload_n 0, 1) := by decide +kernel
theorem dX9_twoDays_137 : decode cX9_twoDays 137 = .ok (.getfield 23, 3) := by decide +kernel
theorem dX9_twoDays_140 : decode cX9_twoDays 140 = .ok (.iconst 2, 1) := by decide +kernel
theorem dX9_twoDays_141 : decode cX9_twoDays 141 = .ok (.iaload, 1) := by decide +kernel
theorem dX9_twoDays_142 : decode cX9_twoDays 142 = .ok (.imul, 1) := by decide +kernel
theorem dX9_twoDays_143 : decode cX9_twoDays 143 = .ok (.if_icmp .ge 163, 3) := by decide +kernel
theorem dX9_twoDays_146 : decode cX9_twoDays 146 = .ok (.iload 4, 2) := by decide +kernel
theorem dX9_twoDays_148 : decode cX9_twoDays 148 = .ok (.bipush 64, 2) := by decide +kernel
theorem dX9_twoDays_150 : decode cX9_twoDays 150 = .ok (.idiv, 1) := by decide +kernel
theorem dX9_twoDays_151 : decode cX9_twoDays 151 = .ok (.istore 5, 2) := by decide +kernel
theorem dX9_twoDays_153 : decode cX9_twoDays 153 = .ok (.iload 4, 2) := by decide +kernel
theorem dX9_twoDays_155 : decode cX9_twoDays 155 = .ok (.bipush 8, 2) := by decide +kernel
theorem dX9_twoDays_157 : decode cX9_twoDays 157 = .ok (.idiv, 1) := by decide +kernel
theorem dX9_twoDays_158 : decode cX9_twoDays 158 = .ok (.bipush 8, 2) := by decide +kernel
theorem dX9_twoDays_160 : decode cX9_twoDays 160 = .ok (.irem, 1) := by decide +kernel
theorem dX9_twoDays_161 : decode cX9_twoDays 161 = .ok (.istore 6, 2) := by decide +kernel
theorem dX9_twoDays_163 : decode cX9_twoDays 163 = .ok (.iload 4, 2) := by decide +kernel
theorem dX9_twoDays_165 : decode cX9_twoDays 165 = .ok (.bipush 8, 2) := by decide +kernel
theorem dX9_twoDays_167 : decode cX9_twoDays 167 = .ok (.irem, 1) := by decide +kernel
theorem dX9_twoDays_168 : decode cX9_twoDays 168 = .ok (.istore 7, 2) := by decide +kernel
theorem dX9_twoDays_170 : decode cX9_twoDays 170 = .ok (.iload 6, 2) := by decide +kernel
theorem dX9_twoDays_172 : decode cX9_twoDays 172 = .ok (.iload 7, 2) := by decide +kernel
theorem dX9_twoDays_174 : decode cX9_twoDays 174 = .ok (.if_icmp .ge 126, 3) := by decide +kernel
theorem dX9_twoDays_177 : decode cX9_twoDays 177 = .ok (.iload 7, 2) := by decide +kernel
theorem dX9_twoDays_179 : decode cX9_twoDays 179 = .ok (.aload_n 0, 1) := by decide +kernel
theorem dX9_twoDays_180 : decode cX9_twoDays 180 = .ok (.getfield 23, 3) := by decide +kernel
theorem dX9_twoDays_183 : decode cX9_twoDays 183 = .ok (.iconst 1, 1) := by decide +kernel
theorem dX9_twoDays_184 : decode cX9_twoDays 184 = .ok (.iaload, 1) := by decide +kernel
theorem dX9_twoDays_185 : decode cX9_twoDays 185 = .ok (.if_icmp .ge 115, 3) := by decide +kernel
theorem dX9_twoDays_188 : decode cX9_twoDays 188 = .ok (.aload_n 0, 1) := by decide +kernel
theorem dX9_twoDays_189 : decode cX9_twoDays 189 = .ok (.iload 5, 2) := by decide +kernel
theorem dX9_twoDays_191 : decode cX9_twoDays 191 = .ok (.iload 6, 2) := by decide +kernel
theorem dX9_twoDays_193 : decode cX9_twoDays 193 = .ok (.iload 7, 2) := by decide +kernel
theorem dX9_twoDays_195 : decode cX9_twoDays 195 = .ok (.invokevirtual 275, 3) := by decide +kernel
theorem dX9_twoDays_198 : decode cX9_twoDays 198 = .ok (.ifCond .ne 6, 3) := by decide +kernel
theorem dX9_twoDays_201 : decode cX9_twoDays 201 = .ok (.goto 99, 3) := by decide +kernel
theorem dX9_twoDays_204 : decode cX9_twoDays 204 = .ok (.aload_n 0, 1) := by decide +kernel
theorem dX9_twoDays_205 : decode cX9_twoDays 205 = .ok (.iload 5, 2) := by decide +kernel
theorem dX9_twoDays_207 : decode cX9_twoDays 207 = .ok (.iload 6, 2) := by decide +kernel
theorem dX9_twoDays_209 : decode cX9_twoDays 209 = .ok (.iload 7, 2) := by decide +kernel
theorem dX9_twoDays_211 : decode cX9_twoDays 211 = .ok (.invokestatic 296, 3) := by decide +kernel
theorem dX9_twoDays_214 : decode cX9_twoDays 214 = .ok (.invokevirtual 364, 3) := by decide +kernel
theorem dX9_twoDays_217 : decode cX9_twoDays 217 = .ok (.istore 8, 2) := by decide +kernel
theorem dX9_twoDays_219 : decode cX9_twoDays 219 = .ok (.iload 8, 2) := by decide +kernel
theorem dX9_twoDays_221 : decode cX9_twoDays 221 = .ok (.iconst (-1), 1) := by decide +kernel
theorem dX9_twoDays_222 : decode cX9_twoDays 222 = .ok (.if_icmp .eq 78, 3) := by decide +kernel
theorem dX9_twoDays_225 : decode cX9_twoDays 225 = .ok (.aload_n 0, 1) := by decide +kernel
theorem dX9_twoDays_226 : decode cX9_twoDays 226 = .ok (.getfield 37, 3) := by decide +kernel
theorem dX9_twoDays_229 : decode cX9_twoDays 229 = .ok (.iload 5, 2) := by decide +kernel
theorem dX9_twoDays_231 : decode cX9_twoDays 231 = .ok (.aaload, 1) := by decide +kernel
theorem dX9_twoDays_232 : decode cX9_twoDays 232 = .ok (.iconst 0, 1) := by decide +kernel
theorem dX9_twoDays_233 : decode cX9_twoDays 233 = .ok (.iaload, 1) := by decide +kernel
theorem dX9_twoDays_234 : decode cX9_twoDays 234 = .ok (.aload_n 0, 1) := by decide +kernel
theorem dX9_twoDays_235 : decode cX9_twoDays 235 = .ok (.getfield 37, 3) := by decide +kernel
theorem dX9_twoDays_238 : decode cX9_twoDays 238 = .ok (.iload 8, 2) := by decide +kernel
theorem dX9_twoDays_240 : decode cX9_twoDays 240 = .ok (.bipush 100, 2) := by decide +kernel
theorem dX9_twoDays_242 : decode cX9_twoDays 242 = .ok (.idiv, 1) := by decide +kernel
theorem dX9_twoDays_243 : decode cX9_twoDays 243 = .ok (.aaload, 1) := by decide +kernel
theorem dX9_twoDays_244 : decode cX9_twoDays 244 = .ok (.iconst 0, 1) := by decide +kernel
theorem dX9_twoDays_245 : decode cX9_twoDays 245 = .ok (.iaload, 1) := by decide +kernel
theorem dX9_twoDays_246 : decode cX9_twoDays 246 = .ok (.iadd, 1) := by decide +kernel
theorem dX9_twoDays_247 : decode cX9_twoDays 247 = .ok (.iload_n 2, 1) := by decide +kernel
theorem dX9_twoDays_248 : decode cX9_twoDays 248 = .ok (.if_icmp .gt 6, 3) := by decide +kernel
theorem dX9_twoDays_251 : decode cX9_twoDays 251 = .ok (.goto 49, 3) := by decide +kernel
theorem dX9_twoDays_254 : decode cX9_twoDays 254 = .ok (.aload_n 0, 1) := by decide +kernel
theorem dX9_twoDays_255 : decode cX9_twoDays 255 = .ok (.getfield 37, 3) := by decide +kernel
theorem dX9_twoDays_258 : decode cX9_twoDays 258 = .ok (.iload 5, 2) := by decide +kernel
theorem dX9_twoDays_260 : decode cX9_twoDays 260 = .ok (.aaload, 1) := by decide +kernel
theorem dX9_twoDays_261 : decode cX9_twoDays 261 = .ok (.iconst 0, 1) := by decide +kernel
theorem dX9_twoDays_262 : decode cX9_twoDays 262 = .ok (.iaload, 1) := by decide +kernel
theorem dX9_twoDays_263 : decode cX9_twoDays 263 = .ok (.aload_n 0, 1) := by decide +kernel
theorem dX9_twoDays_264 : decode cX9_twoDays 264 = .ok (.getfield 37, 3) := by decide +kernel
theorem dX9_twoDays_267 : decode cX9_twoDays 267 = .ok (.iload 8, 2) := by decide +kernel
theorem dX9_twoDays_269 : decode cX9_twoDays 269 = .ok (.bipush 100, 2) := by decide +kernel
theorem dX9_twoDays_271 : decode cX9_twoDays 271 = .ok (.idiv, 1) := by decide +kernel
theorem dX9_twoDays_272 : decode cX9_twoDays 272 = .ok (.aaload, 1) := by decide +kernel
theorem dX9_twoDays_273 : decode cX9_twoDays 273 = .ok (.iconst 0, 1) := by decide +kernel
theorem dX9_twoDays_274 : decode cX9_twoDays 274 = .ok (.iaload, 1) := by decide +kernel
theorem dX9_twoDays_275 : decode cX9_twoDays 275 = .ok (.iadd, 1) := by decide +kernel
theorem dX9_twoDays_276 : decode cX9_twoDays 276 = .ok (.istore_n 2, 1) := by decide +kernel
theorem dX9_twoDays_277 : decode cX9_twoDays 277 = .ok (.aload_n 0, 1) := by decide +kernel
theorem dX9_twoDays_278 : decode cX9_twoDays 278 = .ok (.getfield 85, 3) := by decide +kernel
theorem dX9_twoDays_281 : decode cX9_twoDays 281 = .ok (.iconst 0, 1) := by decide +kernel
theorem dX9_twoDays_282 : decode cX9_twoDays 282 = .ok (.iload 5, 2) := by decide +kernel
theorem dX9_twoDays_284 : decode cX9_twoDays 284 = .ok (.iload 6, 2) := by decide +kernel
theorem dX9_twoDays_286 : decode cX9_twoDays 286 = .ok (.iload 7, 2) := by decide +kernel
theorem dX9_twoDays_288 : decode cX9_twoDays 288 = .ok (.invokestatic 296, 3) := by decide +kernel
theorem dX9_twoDays_291 : decode cX9_twoDays 291 = .ok (.iastore, 1) := by decide +kernel
theorem dX9_twoDays_292 : decode cX9_twoDays 292 = .ok (.aload_n 0, 1) := by decide +kernel
theorem dX9_twoDays_293 : decode cX9_twoDays 293 = .ok (.getfield 85, 3) := by decide +kernel
theorem dX9_twoDays_296 : decode cX9_twoDays 296 = .ok (.iconst 1, 1) := by decide +kernel
theorem dX9_twoDays_297 : decode cX9_twoDays 297 = .ok (.iload 8, 2) := by decide +kernel
theorem dX9_twoDays_299 : decode cX9_twoDays 299 = .ok (.iastore, 1) := by decide +kernel
theorem dX9_twoDays_300 : decode cX9_twoDays 300 = .ok (.iinc 4 1, 3) := by decide +kernel
theorem dX9_twoDays_303 : decode cX9_twoDays 303 = .ok (.goto (-171), 3) := by decide +kernel
theorem dX9_twoDays_306 : decode cX9_twoDays 306 = .ok (.iload_n 1, 1) := by decide +kernel
theorem dX9_twoDays_307 : decode cX9_twoDays 307 = .ok (.ifCond .ne 7, 3) := by decide +kernel
theorem dX9_twoDays_310 : decode cX9_twoDays 310 = .ok (.iload_n 2, 1) := by decide +kernel
theorem dX9_twoDays_311 : decode cX9_twoDays 311 = .ok (.goto 11, 3) := by decide +kernel
theorem dX9_twoDays_314 : decode cX9_twoDays 314 = .ok (.aload_n 0, 1) := by decide +kernel
theorem dX9_twoDays_315 : decode cX9_twoDays 315 = .ok (.getfield 85, 3) := by decide +kernel
theorem dX9_twoDays_318 : decode cX9_twoDays 318 = .ok (.iload_n 1, 1) := by decide +kernel
theorem dX9_twoDays_319 : decode cX9_twoDays 319 = .ok (.iconst 1, 1) := by decide +kernel
theorem dX9_twoDays_320 : decode cX9_twoDays 320 = .ok (.isub, 1) := by decide +kernel
theorem dX9_twoDays_321 : decode cX9_twoDays 321 = .ok (.iaload, 1) := by decide +kernel
theorem dX9_twoDays_322 : decode cX9_twoDays 322 = .ok (.ireturn, 1) := by decide +kernel
theorem dX9_image_0 : decode cX9_image 0 = .ok (.aload_n 0, 1) := by decide +kernel
theorem dX9_image_1 : decode cX9_image 1 = .ok (.iconst 0, 1) := by decide +kernel
theorem dX9_image_2 : decode cX9_image 2 = .ok (.putfield 106, 3) := by decide +kernel
theorem dX9_image_5 : decode cX9_image 5 = .ok (.aload_n 0, 1) := by decide +kernel
theorem dX9_image_6 : decode cX9_image 6 = .ok (.getfield 204, 3) := by decide +kernel
theorem dX9_image_9 : decode cX9_image 9 = .ok (.iconst 3, 1) := by decide +kernel
theorem dX9_image_10 : decode cX9_image 10 = .ok (.if_icmp .ne 5, 3) := by decide +kernel
theorem dX9_image_13 : decode cX9_image 13 = .ok (.iconst (-1), 1) := by decide +kernel
theorem dX9_image_14 : decode cX9_image 14 = .ok (.ireturn, 1) := by decide +kernel
theorem dX9_image_15 : decode cX9_image 15 = .ok (.aload_n 0, 1) := by decide +kernel
theorem dX9_image_16 : decode cX9_image 16 = .ok (.aload_n 0, 1) := by decide +kernel
theorem dX9_image_17 : decode cX9_image 17 = .ok (.getfield 64, 3) := by decide +kernel
theorem dX9_image_20 : decode cX9_image 20 = .ok (.aload_n 0, 1) := by decide +kernel
theorem dX9_image_21 : decode cX9_image 21 = .ok (.getfield 204, 3) := by decide +kernel
theorem dX9_image_24 : decode cX9_image 24 = .ok (.aaload, 1) := by decide +kernel
theorem dX9_image_25 : decode cX9_image 25 = .ok (.iconst 0, 1) := by decide +kernel
theorem dX9_image_26 : decode cX9_image 26 = .ok (.invokevirtual 259, 3) := by decide +kernel
theorem dX9_image_29 : decode cX9_image 29 = .ok (.aload_n 0, 1) := by decide +kernel
theorem dX9_image_30 : decode cX9_image 30 = .ok (.dup, 1) := by decide +kernel
theorem dX9_image_31 : decode cX9_image 31 = .ok (.getfield 204, 3) := by decide +kernel
theorem dX9_image_34 : decode cX9_image 34 = .ok (.iconst 1, 1) := by decide +kernel
theorem dX9_image_35 : decode cX9_image 35 = .ok (.iadd, 1) := by decide +kernel
theorem dX9_image_36 : decode cX9_image 36 = .ok (.putfield 204, 3) := by decide +kernel
theorem dX9_image_39 : decode cX9_image 39 = .ok (.aload_n 0, 1) := by decide +kernel
theorem dX9_image_40 : decode cX9_image 40 = .ok (.getfield 204, 3) := by decide +kernel
theorem dX9_image_43 : decode cX9_image 43 = .ok (.ireturn, 1) := by decide +kernel
theorem dX9_restore_0 : decode cX9_restore 0 = .ok (.aload_n 0, 1) := by decide +kernel
theorem dX9_restore_1 : decode cX9_restore 1 = .ok (.iconst 0, 1) := by decide +kernel
theorem dX9_restore_2 : decode cX9_restore 2 = .ok (.putfield 106, 3) := by decide +kernel
theorem dX9_restore_5 : decode cX9_restore 5 = .ok (.aload_n 0, 1) := by decide +kernel
theorem dX9_restore_6 : decode cX9_restore 6 = .ok (.getfield 204, 3) := by decide +kernel
theorem dX9_restore_9 : decode cX9_restore 9 = .ok (.ifCond .ne 5, 3) := by decide +kernel
theorem dX9_restore_12 : decode cX9_restore 12 = .ok (.iconst (-1), 1) := by decide +kernel
theorem dX9_restore_13 : decode cX9_restore 13 = .ok (.ireturn, 1) := by decide +kernel
theorem dX9_restore_14 : decode cX9_restore 14 = .ok (.aload_n 0, 1) := by decide +kernel
theorem dX9_restore_15 : decode cX9_restore 15 = .ok (.dup, 1) := by decide +kernel
theorem dX9_restore_16 : decode cX9_restore 16 = .ok (.getfield 204, 3) := by decide +kernel
theorem dX9_restore_19 : decode cX9_restore 19 = .ok (.iconst 1, 1) := by decide +kernel
theorem dX9_restore_20 : decode cX9_restore 20 = .ok (.isub, 1) := by decide +kernel
theorem dX9_restore_21 : decode cX9_restore 21 = .ok (.putfield 204, 3) := by decide +kernel
theorem dX9_restore_24 : decode cX9_restore 24 = .ok (.aload_n 0, 1) := by decide +kernel
theorem dX9_restore_25 : decode cX9_restore 25 = .ok (.aload_n 0, 1) := by decide +kernel
theorem dX9_restore_26 : decode cX9_restore 26 = .ok (.getfield 64, 3) := by decide +kernel
theorem dX9_restore_29 : decode cX9_restore 29 = .ok (.aload_n 0, 1) := by decide +kernel
theorem dX9_restore_30 : decode cX9_restore 30 = .ok (.getfield 204, 3) := by decide +kernel
theorem dX9_restore_33 : decode cX9_restore 33 = .ok (.aaload, 1) := by decide +kernel
theorem dX9_restore_34 : decode cX9_restore 34 = .ok (.iconst 1, 1) := by decide +kernel
theorem dX9_restore_35 : decode cX9_restore 35 = .ok (.invokevirtual 259, 3) := by decide +kernel
theorem dX9_restore_38 : decode cX9_restore 38 = .ok (.aload_n 0, 1) := by decide +kernel
theorem dX9_restore_39 : decode cX9_restore 39 = .ok (.getfield 204, 3) := by decide +kernel
theorem dX9_restore_42 : decode cX9_restore 42 = .ok (.ireturn, 1) := by decide +kernel
theorem dX9_count_0 : decode cX9_count 0 = .ok (.aload_n 0, 1) := by decide +kernel
theorem dX9_count_1 : decode cX9_count 1 = .ok (.iconst 0, 1) := by decide +kernel
theorem dX9_count_2 : decode cX9_count 2 = .ok (.putfield 106, 3) := by decide +kernel
theorem dX9_count_5 : decode cX9_count 5 = .ok (.iconst 0, 1) := by decide +kernel
theorem dX9_count_6 : decode cX9_count 6 = .ok (.istore_n 2, 1) := by decide +kernel
theorem dX9_count_7 : decode cX9_count 7 = .ok (.iconst 0, 1) := by decide +kernel
theorem dX9_count_8 : decode cX9_count 8 = .ok (.istore_n 3, 1) := by decide +kernel
theorem dX9_count_9 : decode cX9_count 9 = .ok (.iload_n 3, 1) := by decide +kernel
theorem dX9_count_10 : decode cX9_count 10 = .ok (.aload_n 0, 1) := by decide +kernel
theorem dX9_count_11 : decode cX9_count 11 = .ok (.getfield 23, 3) := by decide +kernel
theorem dX9_count_14 : decode cX9_count 14 = .ok (.iconst 2, 1) := by decide +kernel
theorem dX9_count_15 : decode cX9_count 15 = .ok (.iaload, 1) := by decide +kernel
theorem dX9_count_16 : decode cX9_count 16 = .ok (.if_icmp .ge 18, 3) := by decide +kernel
theorem dX9_count_19 : decode cX9_count 19 = .ok (.iload_n 2, 1) := by decide +kernel
theorem dX9_count_20 : decode cX9_count 20 = .ok (.aload_n 0, 1) := by decide +kernel
theorem dX9_count_21 : decode cX9_count 21 = .ok (.getfield 61, 3) := by decide +kernel
theorem dX9_count_24 : decode cX9_count 24 = .ok (.iload_n 3, 1) := by decide +kernel
theorem dX9_count_25 : decode cX9_count 25 = .ok (.iaload, 1) := by decide +kernel
theorem dX9_count_26 : decode cX9_count 26 = .ok (.iadd, 1) := by decide +kernel
theorem dX9_count_27 : decode cX9_count 27 = .ok (.istore_n 2, 1) := by decide +kernel
theorem dX9_count_28 : decode cX9_count 28 = .ok (.iinc 3 1, 3) := by decide +kernel
theorem dX9_count_31 : decode cX9_count 31 = .ok (.goto (-22), 3) := by decide +kernel
theorem dX9_count_34 : decode cX9_count 34 = .ok (.iload_n 1, 1) := by decide +kernel
theorem dX9_count_35 : decode cX9_count 35 = .ok (.tableswitch 55 0 4 #[33, 38, 40, 45, 50], 33) := by decide +kernel
theorem dX9_count_68 : decode cX9_count 68 = .ok (.aload_n 0, 1) := by decide +kernel
theorem dX9_count_69 : decode cX9_count 69 = .ok (.getfield 198, 3) := by decide +kernel
theorem dX9_count_72 : decode cX9_count 72 = .ok (.ireturn, 1) := by decide +kernel
theorem dX9_count_73 : decode cX9_count 73 = .ok (.iload_n 2, 1) := by decide +kernel
theorem dX9_count_74 : decode cX9_count 74 = .ok (.ireturn, 1) := by decide +kernel
theorem dX9_count_75 : decode cX9_count 75 = .ok (.aload_n 0, 1) := by decide +kernel
theorem dX9_count_76 : decode cX9_count 76 = .ok (.getfield 201, 3) := by decide +kernel
theorem dX9_count_79 : decode cX9_count 79 = .ok (.ireturn, 1) := by decide +kernel
theorem dX9_count_80 : decode cX9_count 80 = .ok (.aload_n 0, 1) := by decide +kernel
theorem dX9_count_81 : decode cX9_count 81 = .ok (.getfield 204, 3) := by decide +kernel
theorem dX9_count_84 : decode cX9_count 84 = .ok (.ireturn, 1) := by decide +kernel
theorem dX9_count_85 : decode cX9_count 85 = .ok (.aload_n 0, 1) := by decide +kernel
theorem dX9_count_86 : decode cX9_count 86 = .ok (.getfield 109, 3) := by decide +kernel
theorem dX9_count_89 : decode cX9_count 89 = .ok (.ireturn, 1) := by decide +kernel
theorem dX9_count_90 : decode cX9_count 90 = .ok (.iconst (-1), 1) := by decide +kernel
theorem dX9_count_91 : decode cX9_count 91 = .ok (.ireturn, 1) := by decide +kernel
def f9_few_L73 (x1 : Int32) (K123 : zMem → zRes) : Nat → Int32 → zMem → zRes
  | 0, _, _ => none
  | n + 1, x4, μ => zin (1 : Int32) 6 (if (μ 4 (1 : Int32).toNatClampNeg) ≤ x4 then K123 μ else zlet (fun (μ12 : zMem) => f9_few_L73 x1 K123 n (x4 + (1 : Int32)) μ12) (fun j13 => if ((zshr x1 x4) &&& (1 : Int32)) = 0 then j13 μ else zin (μ 0 40) 4 (zlet (zset μ 1129 (μ 0 40).toNatClampNeg x4) (fun (μ17 : zMem) => zlet (zset μ17 0 40 ((μ17 0 40) + (1 : Int32))) (fun (μ18 : zMem) => j13 μ18)))))
def f9_few_L136 (K158 : zMem → zRes) : Nat → Int32 → zMem → zRes
  | 0, _, _ => none
  | n + 1, x6, μ => if (6561 : Int32) ≤ x6 then K158 μ else zin x6 6561 (zlet (zset μ 1130 x6.toNatClampNeg (0 : Int32)) (fun (μ25 : zMem) => f9_few_L136 K158 n (x6 + (1 : Int32)) μ25))
def f9_few (x1 : Int32) (x2 : Int32) (x3 : Int32) (μ : zMem) : zRes := zlet (zset μ 0 0 (0 : Int32)) (fun (μ1 : zMem) => zlet (fun (s2 : Int32) (μ3 : zMem) => bnd0 (f9_bad s2 (1 : Int32) μ3) (fun (v4 : Int32) (μ5 : zMem) => if v4 = 0 then zlet (zset μ5 0 40 (0 : Int32)) (fun (μ8 : zMem) => f9_few_L73 x1 (fun (μ19 : zMem) => bnd0 (f9_stateNow x2 μ19) (fun (v20 : Int32) (μ21 : zMem) => f9_few_L136 (fun (μ26 : zMem) => zlet (fun (x5_27 : Int32) (μ28 : zMem) => bnd0 (f9_becomes v20 x2 μ28) (fun (v29 : Int32) (μ30 : zMem) => some (0, x5_27, μ30))) (fun j31 => if x3 = 0 then bnd0 (f9_mostFrom 2000 v20 x2 μ26) (fun (v36 : Int32) (μ37 : zMem) => j31 v36 μ37) else bnd0 (f9_soonest v20 x2 μ26) (fun (v34 : Int32) (μ35 : zMem) => j31 v34 μ35))) zF (0 : Int32) μ21)) zF (0 : Int32) μ8) else some (0, (0 : Int32), μ5))) (fun j38 => zlet (fun (μ39 : zMem) => j38 (1 : Int32) μ39) (fun j40 => if x1 < 0 then j40 μ1 else zin (1 : Int32) 6 (if (zshl (1 : Int32) (μ1 4 (1 : Int32).toNatClampNeg)) ≤ x1 then j40 μ1 else bnd0 (f9_ones x1 μ1) (fun (v46 : Int32) (μ47 : zMem) => bnd0 (f9_in v46 (2 : Int32) (4 : Int32) μ47) (fun (v48 : Int32) (μ49 : zMem) => if v48 = 0 then j40 μ49 else bnd0 (f9_isAsked x2 μ49) (fun (v52 : Int32) (μ53 : zMem) => if v52 = 0 then j40 μ53 else bnd0 (f9_in x3 (0 : Int32) (1 : Int32) μ53) (fun (v56 : Int32) (μ57 : zMem) => if v56 = 0 then j40 μ57 else j38 (0 : Int32) μ57))))))))
set_option maxHeartbeats 1000000 in
theorem t9_few_L73 (x1 : Int32) (x2 : Int32) (x3 : Int32) (K123 : zMem → zRes) (hK123 : ∀ (μ : zMem), zR yX9_few cX9_few 7 (some .int) 2005 123 [.ref 0, .null, .int x2, .int x3, .null, .null, .null] [] 1134 SM μ (K123 μ)) : ∀ (n : Nat) (x4 : Int32) (μ : zMem), zR yX9_few cX9_few 7 (some .int) 2005 73 [.ref 0, .int x1, .int x2, .int x3, .int x4, .null, .null] [] 1134 SM μ (f9_few_L73 x1 K123 n x4 μ) := by
  intro n
  induction n with
  | zero => intro x4 μ; intro q hq; cases hq
  | succ n ih =>
    intro x4 μ
    unfold f9_few_L73
    refine z_iload (pc := 73) dX9_few_73 rfl ?_
    refine z_aload_n (pc := 75) dX9_few_75 rfl ?_
    refine z_getr (pc := 76) fdX9_23 (by decide) sm_0 rfl rfl dX9_few_76 ?_
    refine z_iconst (pc := 79) (1 : Int32) dX9_few_79 (by decide) ?_
    refine z_iald (pc := 80) (by decide) sm_4 rfl dX9_few_80 (fun h9 => ?_)
    refine z_icmp_ge (pc := 81) (tgt := 123) dX9_few_81 (by decide) (fun c10 => ?_) (fun c11 => ?_)
    · refine z_loc (L' := [.ref 0, .null, .int x2, .int x3, .null, .null, .null]) ⟨Or.inr rfl, ⟨Or.inl rfl, ⟨Or.inr rfl, ⟨Or.inr rfl, ⟨Or.inl rfl, ⟨Or.inl rfl, ⟨Or.inl rfl, trivial⟩⟩⟩⟩⟩⟩⟩ ?_
      exact hK123 μ
    · refine z_iload_n (pc := 84) dX9_few_84 rfl ?_
      refine z_iload (pc := 85) dX9_few_85 rfl ?_
      refine z_ishr (pc := 87) dX9_few_87 ?_
      refine z_iconst (pc := 88) (1 : Int32) dX9_few_88 (by decide) ?_
      refine z_iand (pc := 89) dX9_few_89 ?_
      refine z_let (fun (j : zMem → zRes) => ∀ (μ12 : zMem), zR yX9_few cX9_few 7 (some .int) 2005 117 [.ref 0, .int x1, .int x2, .int x3, .int x4, .null, .null] [] 1134 SM μ12 (j μ12)) ?_ (fun j13 hj13 => ?_)
      · intro μ12
        refine z_iinc (pc := 117) (v := x4 + (1 : Int32)) (L' := [.ref 0, .int x1, .int x2, .int x3, .int (x4 + (1 : Int32)), .null, .null]) dX9_few_117 (by decide) rfl (congrArg _ (by decide)) rfl ?_
        refine z_goto (pc := 120) (tgt := 73) dX9_few_120 (by decide) ?_
        exact ih (x4 + (1 : Int32)) μ12
      · refine z_if_ne (pc := 90) (tgt := 96) dX9_few_90 (by decide) (fun c14 => ?_) (fun c15 => ?_)
        · refine z_aload_n (pc := 96) dX9_few_96 rfl ?_
          refine z_getr (pc := 97) fdX9_91 (by decide) sm_0 rfl rfl dX9_few_97 ?_
          refine z_aload_n (pc := 100) dX9_few_100 rfl ?_
          refine z_geti (pc := 101) fdX9_322 (by decide) sm_0 rfl dX9_few_101 ?_
          refine z_iload (pc := 104) dX9_few_104 rfl ?_
          refine z_iast (pc := 106) (by decide) sm_1129 rfl dX9_few_106 (fun h16 => ?_)
          refine z_mem (fun μ17 => ?_)
          refine z_aload_n (pc := 107) dX9_few_107 rfl ?_
          refine z_dup (pc := 108) dX9_few_108 rfl ?_
          refine z_geti (pc := 109) fdX9_322 (by decide) sm_0 rfl dX9_few_109 ?_
          refine z_iconst (pc := 112) (1 : Int32) dX9_few_112 (by decide) ?_
          refine z_iadd (pc := 113) dX9_few_113 ?_
          refine z_puti (pc := 114) fdX9_322 (by decide) sm_0 rfl rfl dX9_few_114 ?_
          refine z_mem (fun μ18 => ?_)
          exact hj13 μ18
        · refine z_goto (pc := 93) (tgt := 117) dX9_few_93 (by decide) ?_
          exact hj13 μ
set_option maxHeartbeats 1000000 in
theorem t9_few_L136 (x2 : Int32) (x3 : Int32) (x4 : Int32) (K158 : zMem → zRes) (hK158 : ∀ (μ : zMem), zR yX9_few cX9_few 7 (some .int) 2005 158 [.ref 0, .null, .int x2, .int x3, .int x4, .null, .null] [] 1134 SM μ (K158 μ)) : ∀ (n : Nat) (x6 : Int32) (μ : zMem), zR yX9_few cX9_few 7 (some .int) 2005 136 [.ref 0, .null, .int x2, .int x3, .int x4, .null, .int x6] [] 1134 SM μ (f9_few_L136 K158 n x6 μ) := by
  intro n
  induction n with
  | zero => intro x6 μ; intro q hq; cases hq
  | succ n ih =>
    intro x6 μ
    unfold f9_few_L136
    refine z_iload (pc := 136) dX9_few_136 rfl ?_
    refine z_sipush (pc := 138) (6561 : Int32) dX9_few_138 (by decide) ?_
    refine z_icmp_ge (pc := 141) (tgt := 158) dX9_few_141 (by decide) (fun c22 => ?_) (fun c23 => ?_)
    · refine z_loc (L' := [.ref 0, .null, .int x2, .int x3, .int x4, .null, .null]) ⟨Or.inr rfl, ⟨Or.inl rfl, ⟨Or.inr rfl, ⟨Or.inr rfl, ⟨Or.inr rfl, ⟨Or.inl rfl, ⟨Or.inl rfl, trivial⟩⟩⟩⟩⟩⟩⟩ ?_
      exact hK158 μ
    · refine z_aload_n (pc := 144) dX9_few_144 rfl ?_
      refine z_getr (pc := 145) fdX9_94 (by decide) sm_0 rfl rfl dX9_few_145 ?_
      refine z_iload (pc := 148) dX9_few_148 rfl ?_
      refine z_iconst (pc := 150) (0 : Int32) dX9_few_150 (by decide) ?_
      refine z_iast (pc := 151) (by decide) sm_1130 rfl dX9_few_151 (fun h24 => ?_)
      refine z_mem (fun μ25 => ?_)
      refine z_iinc (pc := 152) (v := x6 + (1 : Int32)) (L' := [.ref 0, .null, .int x2, .int x3, .int x4, .null, .int (x6 + (1 : Int32))]) dX9_few_152 (by decide) rfl (congrArg _ (by decide)) rfl ?_
      refine z_goto (pc := 155) (tgt := 136) dX9_few_155 (by decide) ?_
      exact ih (x6 + (1 : Int32)) μ25
set_option maxHeartbeats 1000000 in
theorem t9_few (x1 : Int32) (x2 : Int32) (x3 : Int32) (μ : zMem) : zMR yX9_few cX9_few 7 (some .int) 2005 [.ref 0, .int x1, .int x2, .int x3] 1134 SM μ (f9_few x1 x2 x3 μ) := by
  refine zMR_of (by decide +kernel) rfl (Nat.le_of_ble_eq_true rfl) (L := [.ref 0, .int x1, .int x2, .int x3, .null, .null, .null]) rfl ?_
  unfold f9_few
  refine z_aload_n (pc := 0) dX9_few_0 rfl ?_
  refine z_iconst (pc := 1) (0 : Int32) dX9_few_1 (by decide) ?_
  refine z_puti (pc := 2) fdX9_106 (by decide) sm_0 rfl rfl dX9_few_2 ?_
  refine z_mem (fun μ1 => ?_)
  refine z_aload_n (pc := 5) dX9_few_5 rfl ?_
  refine z_iload_n (pc := 6) dX9_few_6 rfl ?_
  refine z_let (fun (j : Int32 → zMem → zRes) => ∀ (s2 : Int32) (μ3 : zMem), zR yX9_few cX9_few 7 (some .int) 2005 56 [.ref 0, .int x1, .int x2, .int x3, .null, .null, .null] [.int s2, .ref 0] 1134 SM μ3 (j s2 μ3)) ?_ (fun j38 hj38 => ?_)
  · intro s2 μ3
    refine z_iconst (pc := 56) (1 : Int32) dX9_few_56 (by decide) ?_
    refine z_callV (As := [.int s2, .int (1 : Int32)]) (pc := 57) (ret' := some .boolean) kvX9_188 (t9_bad _ _ _) (by decide) (by decide) sm_0  rfl rfl (Nat.le_of_ble_eq_true rfl) dX9_few_57 (fun v4 μ5 => ?_)
    refine z_if_eq (pc := 60) (tgt := 65) dX9_few_60 (by decide) (fun c6 => ?_) (fun c7 => ?_)
    · refine z_aload_n (pc := 65) dX9_few_65 rfl ?_
      refine z_iconst (pc := 66) (0 : Int32) dX9_few_66 (by decide) ?_
      refine z_puti (pc := 67) fdX9_322 (by decide) sm_0 rfl rfl dX9_few_67 ?_
      refine z_mem (fun μ8 => ?_)
      refine z_iconst (pc := 70) (0 : Int32) dX9_few_70 (by decide) ?_
      refine z_istore (pc := 71) (L' := [.ref 0, .int x1, .int x2, .int x3, .int (0 : Int32), .null, .null]) dX9_few_71 (by decide) rfl ?_
      refine t9_few_L73 _ _ _ _ (fun μ19 => ?_) zF _ _
      · refine z_aload_n (pc := 123) dX9_few_123 rfl ?_
        refine z_iload_n (pc := 124) dX9_few_124 rfl ?_
        refine z_callV (As := [.int x2]) (pc := 125) (ret' := some .int) kvX9_331 (t9_stateNow _ _) (by decide) (by decide) sm_0  rfl rfl (Nat.le_of_ble_eq_true rfl) dX9_few_125 (fun v20 μ21 => ?_)
        refine z_istore (pc := 128) (L' := [.ref 0, .null, .int x2, .int x3, .int v20, .null, .null]) dX9_few_128 (by decide) rfl ?_
        refine z_iconst (pc := 130) (0 : Int32) dX9_few_130 (by decide) ?_
        refine z_istore (pc := 131) (L' := [.ref 0, .null, .int x2, .int x3, .int v20, .int (0 : Int32), .null]) dX9_few_131 (by decide) rfl ?_
        refine z_iconst (pc := 133) (0 : Int32) dX9_few_133 (by decide) ?_
        refine z_istore (pc := 134) (L' := [.ref 0, .null, .int x2, .int x3, .int v20, .int (0 : Int32), .int (0 : Int32)]) dX9_few_134 (by decide) rfl ?_
        refine z_loc (L' := [.ref 0, .null, .int x2, .int x3, .int v20, .null, .int (0 : Int32)]) ⟨Or.inr rfl, ⟨Or.inl rfl, ⟨Or.inr rfl, ⟨Or.inr rfl, ⟨Or.inr rfl, ⟨Or.inl rfl, ⟨Or.inr rfl, trivial⟩⟩⟩⟩⟩⟩⟩ ?_
        refine t9_few_L136 _ _ _ _ (fun μ26 => ?_) zF _ _
        · refine z_iload_n (pc := 158) dX9_few_158 rfl ?_
          refine z_let (fun (j : Int32 → zMem → zRes) => ∀ (x5_27 : Int32) (μ28 : zMem), zR yX9_few cX9_few 7 (some .int) 2005 183 [.ref 0, .null, .int x2, .null, .int v20, .int x5_27, .null] [] 1134 SM μ28 (j x5_27 μ28)) ?_ (fun j31 hj31 => ?_)
          · intro x5_27 μ28
            refine z_aload_n (pc := 183) dX9_few_183 rfl ?_
            refine z_iload (pc := 184) dX9_few_184 rfl ?_
            refine z_iload_n (pc := 186) dX9_few_186 rfl ?_
            refine z_callV (As := [.int v20, .int x2]) (pc := 187) (ret' := none) kvX9_325 (t9_becomes _ _ _) (by decide) (by decide) sm_0  rfl rfl (Nat.le_of_ble_eq_true rfl) dX9_few_187 (fun v29 μ30 => ?_)
            refine z_iload (pc := 190) dX9_few_190 rfl ?_
            exact z_iret (pc := 192) rfl dX9_few_192
          · refine z_if_ne (pc := 159) (tgt := 174) dX9_few_159 (by decide) (fun c32 => ?_) (fun c33 => ?_)
            · refine z_aload_n (pc := 174) dX9_few_174 rfl ?_
              refine z_iload (pc := 175) dX9_few_175 rfl ?_
              refine z_iload_n (pc := 177) dX9_few_177 rfl ?_
              refine z_callV (As := [.int v20, .int x2]) (pc := 178) (ret' := some .int) kvX9_344 (t9_soonest _ _ _) (by decide) (by decide) sm_0  rfl rfl (Nat.le_of_ble_eq_true rfl) dX9_few_178 (fun v34 μ35 => ?_)
              refine z_istore (pc := 181) (L' := [.ref 0, .null, .int x2, .int x3, .int v20, .int v34, .null]) dX9_few_181 (by decide) rfl ?_
              refine z_loc (L' := [.ref 0, .null, .int x2, .null, .int v20, .int v34, .null]) ⟨Or.inr rfl, ⟨Or.inl rfl, ⟨Or.inr rfl, ⟨Or.inl rfl, ⟨Or.inr rfl, ⟨Or.inr rfl, ⟨Or.inl rfl, trivial⟩⟩⟩⟩⟩⟩⟩ ?_
              exact hj31 v34 μ35
            · refine z_aload_n (pc := 162) dX9_few_162 rfl ?_
              refine z_iload (pc := 163) dX9_few_163 rfl ?_
              refine z_iload_n (pc := 165) dX9_few_165 rfl ?_
              refine z_callV (As := [.int v20, .int x2]) (pc := 166) (ret' := some .int) kvX9_337 (t9_mostFrom 2000 _ _ _) (by decide) (by decide) sm_0  rfl rfl (Nat.le_of_ble_eq_true rfl) dX9_few_166 (fun v36 μ37 => ?_)
              refine z_istore (pc := 169) (L' := [.ref 0, .null, .int x2, .int x3, .int v20, .int v36, .null]) dX9_few_169 (by decide) rfl ?_
              refine z_goto (pc := 171) (tgt := 183) dX9_few_171 (by decide) ?_
              refine z_loc (L' := [.ref 0, .null, .int x2, .null, .int v20, .int v36, .null]) ⟨Or.inr rfl, ⟨Or.inl rfl, ⟨Or.inr rfl, ⟨Or.inl rfl, ⟨Or.inr rfl, ⟨Or.inr rfl, ⟨Or.inl rfl, trivial⟩⟩⟩⟩⟩⟩⟩ ?_
              exact hj31 v36 μ37
    · refine z_iconst (pc := 63) (0 : Int32) dX9_few_63 (by decide) ?_
      exact z_iret (pc := 64) rfl dX9_few_64
  · refine z_let (fun (j : zMem → zRes) => ∀ (μ39 : zMem), zR yX9_few cX9_few 7 (some .int) 2005 51 [.ref 0, .int x1, .int x2, .int x3, .null, .null, .null] [.ref 0] 1134 SM μ39 (j μ39)) ?_ (fun j40 hj40 => ?_)
    · intro μ39
      refine z_iconst (pc := 51) (1 : Int32) dX9_few_51 (by decide) ?_
      refine z_goto (pc := 52) (tgt := 56) dX9_few_52 (by decide) ?_
      exact hj38 (1 : Int32) μ39
    · refine z_if_lt (pc := 7) (tgt := 51) dX9_few_7 (by decide) (fun c41 => ?_) (fun c42 => ?_)
      · exact hj40 μ1
      · refine z_iload_n (pc := 10) dX9_few_10 rfl ?_
        refine z_iconst (pc := 11) (1 : Int32) dX9_few_11 (by decide) ?_
        refine z_aload_n (pc := 12) dX9_few_12 rfl ?_
        refine z_getr (pc := 13) fdX9_23 (by decide) sm_0 rfl rfl dX9_few_13 ?_
        refine z_iconst (pc := 16) (1 : Int32) dX9_few_16 (by decide) ?_
        refine z_iald (pc := 17) (by decide) sm_4 rfl dX9_few_17 (fun h43 => ?_)
        refine z_ishl (pc := 18) dX9_few_18 ?_
        refine z_icmp_ge (pc := 19) (tgt := 51) dX9_few_19 (by decide) (fun c44 => ?_) (fun c45 => ?_)
        · exact hj40 μ1
        · refine z_iload_n (pc := 22) dX9_few_22 rfl ?_
          refine z_callS (As := [.int x1]) (pc := 23) (ret' := some .int) ksX9_290 (t9_ones _ _) (by decide)  rfl rfl (Nat.le_of_ble_eq_true rfl) dX9_few_23 (fun v46 μ47 => ?_)
          refine z_iconst (pc := 26) (2 : Int32) dX9_few_26 (by decide) ?_
          refine z_iconst (pc := 27) (4 : Int32) dX9_few_27 (by decide) ?_
          refine z_callS (As := [.int v46, .int (2 : Int32), .int (4 : Int32)]) (pc := 28) (ret' := some .boolean) ksX9_140 (t9_in _ _ _ _) (by decide)  rfl rfl (Nat.le_of_ble_eq_true rfl) dX9_few_28 (fun v48 μ49 => ?_)
          refine z_if_eq (pc := 31) (tgt := 51) dX9_few_31 (by decide) (fun c50 => ?_) (fun c51 => ?_)
          · exact hj40 μ49
          · refine z_aload_n (pc := 34) dX9_few_34 rfl ?_
            refine z_iload_n (pc := 35) dX9_few_35 rfl ?_
            refine z_callV (As := [.int x2]) (pc := 36) (ret' := some .boolean) kvX9_217 (t9_isAsked _ _) (by decide) (by decide) sm_0  rfl rfl (Nat.le_of_ble_eq_true rfl) dX9_few_36 (fun v52 μ53 => ?_)
            refine z_if_eq (pc := 39) (tgt := 51) dX9_few_39 (by decide) (fun c54 => ?_) (fun c55 => ?_)
            · exact hj40 μ53
            · refine z_iload_n (pc := 42) dX9_few_42 rfl ?_
              refine z_iconst (pc := 43) (0 : Int32) dX9_few_43 (by decide) ?_
              refine z_iconst (pc := 44) (1 : Int32) dX9_few_44 (by decide) ?_
              refine z_callS (As := [.int x3, .int (0 : Int32), .int (1 : Int32)]) (pc := 45) (ret' := some .boolean) ksX9_140 (t9_in _ _ _ _) (by decide)  rfl rfl (Nat.le_of_ble_eq_true rfl) dX9_few_45 (fun v56 μ57 => ?_)
              refine z_if_ne (pc := 48) (tgt := 55) dX9_few_48 (by decide) (fun c58 => ?_) (fun c59 => ?_)
              · refine z_iconst (pc := 55) (0 : Int32) dX9_few_55 (by decide) ?_
                exact hj38 (0 : Int32) μ57
              · exact hj40 μ57
def f9_isTwo (x1 : Int32) (x2 : Int32) (x3 : Int32) (x4 : Int32) (μ : zMem) : zRes := bnd0 (f9_isKin x1 x2 μ) (fun (v1 : Int32) (μ2 : zMem) => zlet (fun (s3 : Int32) (μ4 : zMem) => zbl s3 (some (0, s3, μ4))) (fun j5 => zlet (fun (μ6 : zMem) => j5 (0 : Int32) μ6) (fun j7 => if v1 = 0 then zin x1 9 (zin x3 4 (zin x2 9 (zin x3 4 (bnd0 (f9_amount ((μ2 (51 + x1.toNatClampNeg) x3.toNatClampNeg) - (μ2 (51 + x2.toNatClampNeg) x3.toNatClampNeg)) μ2) (fun (v14 : Int32) (μ15 : zMem) => if v14 < x4 then j7 μ15 else j5 (1 : Int32) μ15))))) else j7 μ2)))
set_option maxHeartbeats 1000000 in
theorem t9_isTwo (x1 : Int32) (x2 : Int32) (x3 : Int32) (x4 : Int32) (μ : zMem) : zMR yX9_isTwo cX9_isTwo 5 (some .boolean) 2 [.ref 0, .int x1, .int x2, .int x3, .int x4] 1134 SM μ (f9_isTwo x1 x2 x3 x4 μ) := by
  refine zMR_of (by decide +kernel) rfl (Nat.le_of_ble_eq_true rfl) (L := [.ref 0, .int x1, .int x2, .int x3, .int x4]) rfl ?_
  unfold f9_isTwo
  refine z_aload_n (pc := 0) dX9_isTwo_0 rfl ?_
  refine z_iload_n (pc := 1) dX9_isTwo_1 rfl ?_
  refine z_iload_n (pc := 2) dX9_isTwo_2 rfl ?_
  refine z_callV (As := [.int x1, .int x2]) (pc := 3) (ret' := some .boolean) kvX9_210 (t9_isKin _ _ _) (by decide) (by decide) sm_0  rfl rfl (Nat.le_of_ble_eq_true rfl) dX9_isTwo_3 (fun v1 μ2 => ?_)
  refine z_let (fun (j : Int32 → zMem → zRes) => ∀ (s3 : Int32) (μ4 : zMem), zR yX9_isTwo cX9_isTwo 5 (some .boolean) 2 39 [.null, .null, .null, .null, .null] [.int s3] 1134 SM μ4 (j s3 μ4)) ?_ (fun j5 hj5 => ?_)
  · intro s3 μ4
    exact z_zret (pc := 39) rfl dX9_isTwo_39
  · refine z_let (fun (j : zMem → zRes) => ∀ (μ6 : zMem), zR yX9_isTwo cX9_isTwo 5 (some .boolean) 2 38 [.null, .null, .null, .null, .null] [] 1134 SM μ6 (j μ6)) ?_ (fun j7 hj7 => ?_)
    · intro μ6
      refine z_iconst (pc := 38) (0 : Int32) dX9_isTwo_38 (by decide) ?_
      exact hj5 (0 : Int32) μ6
    · refine z_if_ne (pc := 6) (tgt := 38) dX9_isTwo_6 (by decide) (fun c8 => ?_) (fun c9 => ?_)
      · refine z_loc (L' := [.null, .null, .null, .null, .null]) ⟨Or.inl rfl, ⟨Or.inl rfl, ⟨Or.inl rfl, ⟨Or.inl rfl, ⟨Or.inl rfl, trivial⟩⟩⟩⟩⟩ ?_
        exact hj7 μ2
      · refine z_aload_n (pc := 9) dX9_isTwo_9 rfl ?_
        refine z_getr (pc := 10) fdX9_52 (by decide) sm_0 rfl rfl dX9_isTwo_10 ?_
        refine z_iload_n (pc := 13) dX9_isTwo_13 rfl ?_
        refine z_aald (pc := 14) (fun j => 51 + j) (by decide) sm_50 (Or.inl rfl) smg_50 dX9_isTwo_14 (fun h10 => ?_)
        refine z_iload_n (pc := 15) dX9_isTwo_15 rfl ?_
        refine z_iald (pc := 16) (smr_50 h10).2 (smr_50 h10).1 rfl dX9_isTwo_16 (fun h11 => ?_)
        refine z_aload_n (pc := 17) dX9_isTwo_17 rfl ?_
        refine z_getr (pc := 18) fdX9_52 (by decide) sm_0 rfl rfl dX9_isTwo_18 ?_
        refine z_iload_n (pc := 21) dX9_isTwo_21 rfl ?_
        refine z_aald (pc := 22) (fun j => 51 + j) (by decide) sm_50 (Or.inl rfl) smg_50 dX9_isTwo_22 (fun h12 => ?_)
        refine z_iload_n (pc := 23) dX9_isTwo_23 rfl ?_
        refine z_iald (pc := 24) (smr_50 h12).2 (smr_50 h12).1 rfl dX9_isTwo_24 (fun h13 => ?_)
        refine z_isub (pc := 25) dX9_isTwo_25 ?_
        refine z_callS (As := [.int ((μ2 (51 + x1.toNatClampNeg) x3.toNatClampNeg) - (μ2 (51 + x2.toNatClampNeg) x3.toNatClampNeg))]) (pc := 26) (ret' := some .int) ksX9_229 (t9_amount _ _) (by decide)  rfl rfl (Nat.le_of_ble_eq_true rfl) dX9_isTwo_26 (fun v14 μ15 => ?_)
        refine z_iload (pc := 29) dX9_isTwo_29 rfl ?_
        refine z_icmp_lt (pc := 31) (tgt := 38) dX9_isTwo_31 (by decide) (fun c16 => ?_) (fun c17 => ?_)
        · refine z_loc (L' := [.null, .null, .null, .null, .null]) ⟨Or.inl rfl, ⟨Or.inl rfl, ⟨Or.inl rfl, ⟨Or.inl rfl, ⟨Or.inl rfl, trivial⟩⟩⟩⟩⟩ ?_
          exact hj7 μ15
        · refine z_iconst (pc := 34) (1 : Int32) dX9_isTwo_34 (by decide) ?_
          refine z_goto (pc := 35) (tgt := 39) dX9_isTwo_35 (by decide) ?_
          refine z_loc (L' := [.null, .null, .null, .null, .null]) ⟨Or.inl rfl, ⟨Or.inl rfl, ⟨Or.inl rfl, ⟨Or.inl rfl, ⟨Or.inl rfl, trivial⟩⟩⟩⟩⟩ ?_
          exact hj5 (1 : Int32) μ15
def f9_countOf_L70 (x1 : Int32) (x2 : Int32) (x3 : Int32) (x5 : Int32) (x6 : Int32) (K127 : Int32 → zMem → zRes) : Nat → Int32 → Int32 → zMem → zRes
  | 0, _, _, _ => none
  | n + 1, x4, x7, μ => zin (1 : Int32) 6 (if (μ 4 (1 : Int32).toNatClampNeg) ≤ x7 then K127 x4 μ else if x3 = 0 then K127 x4 μ else bnd0 (f9_isTwo x5 x7 x1 x2 μ) (fun (v23 : Int32) (μ24 : zMem) => zlet (fun (s25 : Int32) (μ26 : zMem) => zlet (x4 + s25) (fun (v27 : Int32) => f9_countOf_L70 x1 x2 x3 x5 x6 K127 n v27 (x7 + (1 : Int32)) μ26)) (fun j28 => zlet (fun (μ29 : zMem) => j28 (0 : Int32) μ29) (fun j30 => if v23 = 0 then j30 μ24 else bnd0 (f9_isTwo x6 x7 x1 x2 μ24) (fun (v33 : Int32) (μ34 : zMem) => if v33 = 0 then j30 μ34 else j28 (1 : Int32) μ34)))))
def f9_countOf_L23 (x1 : Int32) (x2 : Int32) (x3 : Int32) (x5 : Int32) (K133 : Int32 → zMem → zRes) : Nat → Int32 → Int32 → zMem → zRes
  | 0, _, _, _ => none
  | n + 1, x4, x6, μ => zin (1 : Int32) 6 (if (μ 4 (1 : Int32).toNatClampNeg) ≤ x6 then K133 x4 μ else bnd0 (f9_isTwo x5 x6 x1 x2 μ) (fun (v8 : Int32) (μ9 : zMem) => zlet (fun (x4_10 : Int32) (μ11 : zMem) => f9_countOf_L23 x1 x2 x3 x5 K133 n x4_10 (x6 + (1 : Int32)) μ11) (fun j12 => if v8 = 0 then j12 x4 μ9 else zlet (fun (s15 : Int32) => zlet (x4 + s15) (fun (v16 : Int32) => zlet (x6 + (1 : Int32)) (fun (v17 : Int32) => f9_countOf_L70 x1 x2 x3 x5 x6 (fun (x4_37 : Int32) (μ38 : zMem) => j12 x4_37 μ38) zF v16 v17 μ9))) (fun j39 => if x3 = 0 then j39 (1 : Int32) else j39 (0 : Int32)))))
def f9_countOf_L6 (x1 : Int32) (x2 : Int32) (x3 : Int32) (K139 : Int32 → zMem → zRes) : Nat → Int32 → Int32 → zMem → zRes
  | 0, _, _, _ => none
  | n + 1, x4, x5, μ => zin (1 : Int32) 6 (if (μ 4 (1 : Int32).toNatClampNeg) ≤ x5 then K139 x4 μ else zlet (x5 + (1 : Int32)) (fun (v4 : Int32) => f9_countOf_L23 x1 x2 x3 x5 (fun (x4_42 : Int32) (μ43 : zMem) => f9_countOf_L6 x1 x2 x3 K139 n x4_42 (x5 + (1 : Int32)) μ43) zF x4 v4 μ))
def f9_countOf (x1 : Int32) (x2 : Int32) (x3 : Int32) (μ : zMem) : zRes := f9_countOf_L6 x1 x2 x3 (fun (x4_44 : Int32) (μ45 : zMem) => some (0, x4_44, μ45)) zF (0 : Int32) (0 : Int32) μ
set_option maxHeartbeats 1000000 in
theorem t9_countOf_L70 (x1 : Int32) (x2 : Int32) (x3 : Int32) (x5 : Int32) (x6 : Int32) (K127 : Int32 → zMem → zRes) (hK127 : ∀ (x4 : Int32) (μ : zMem), zR yX9_countOf cX9_countOf 8 (some .int) 3 127 [.ref 0, .int x1, .int x2, .int x3, .int x4, .int x5, .int x6, .null] [] 1134 SM μ (K127 x4 μ)) : ∀ (n : Nat) (x4 : Int32) (x7 : Int32) (μ : zMem), zR yX9_countOf cX9_countOf 8 (some .int) 3 70 [.ref 0, .int x1, .int x2, .int x3, .int x4, .int x5, .int x6, .int x7] [] 1134 SM μ (f9_countOf_L70 x1 x2 x3 x5 x6 K127 n x4 x7 μ) := by
  intro n
  induction n with
  | zero => intro x4 x7 μ; intro q hq; cases hq
  | succ n ih =>
    intro x4 x7 μ
    unfold f9_countOf_L70
    refine z_iload (pc := 70) dX9_countOf_70 rfl ?_
    refine z_aload_n (pc := 72) dX9_countOf_72 rfl ?_
    refine z_getr (pc := 73) fdX9_23 (by decide) sm_0 rfl rfl dX9_countOf_73 ?_
    refine z_iconst (pc := 76) (1 : Int32) dX9_countOf_76 (by decide) ?_
    refine z_iald (pc := 77) (by decide) sm_4 rfl dX9_countOf_77 (fun h18 => ?_)
    refine z_icmp_ge (pc := 78) (tgt := 127) dX9_countOf_78 (by decide) (fun c19 => ?_) (fun c20 => ?_)
    · refine z_loc (L' := [.ref 0, .int x1, .int x2, .int x3, .int x4, .int x5, .int x6, .null]) ⟨Or.inr rfl, ⟨Or.inr rfl, ⟨Or.inr rfl, ⟨Or.inr rfl, ⟨Or.inr rfl, ⟨Or.inr rfl, ⟨Or.inr rfl, ⟨Or.inl rfl, trivial⟩⟩⟩⟩⟩⟩⟩⟩ ?_
      exact hK127 x4 μ
    · refine z_iload_n (pc := 81) dX9_countOf_81 rfl ?_
      refine z_if_eq (pc := 82) (tgt := 127) dX9_countOf_82 (by decide) (fun c21 => ?_) (fun c22 => ?_)
      · refine z_loc (L' := [.ref 0, .int x1, .int x2, .int x3, .int x4, .int x5, .int x6, .null]) ⟨Or.inr rfl, ⟨Or.inr rfl, ⟨Or.inr rfl, ⟨Or.inr rfl, ⟨Or.inr rfl, ⟨Or.inr rfl, ⟨Or.inr rfl, ⟨Or.inl rfl, trivial⟩⟩⟩⟩⟩⟩⟩⟩ ?_
        exact hK127 x4 μ
      · refine z_iload (pc := 85) dX9_countOf_85 rfl ?_
        refine z_aload_n (pc := 87) dX9_countOf_87 rfl ?_
        refine z_iload (pc := 88) dX9_countOf_88 rfl ?_
        refine z_iload (pc := 90) dX9_countOf_90 rfl ?_
        refine z_iload_n (pc := 92) dX9_countOf_92 rfl ?_
        refine z_iload_n (pc := 93) dX9_countOf_93 rfl ?_
        refine z_callV (As := [.int x5, .int x7, .int x1, .int x2]) (pc := 94) (ret' := some .boolean) kvX9_347 (t9_isTwo _ _ _ _ _) (by decide) (by decide) sm_0  rfl rfl (Nat.le_of_ble_eq_true rfl) dX9_countOf_94 (fun v23 μ24 => ?_)
        refine z_let (fun (j : Int32 → zMem → zRes) => ∀ (s25 : Int32) (μ26 : zMem), zR yX9_countOf cX9_countOf 8 (some .int) 3 118 [.ref 0, .int x1, .int x2, .int x3, .null, .int x5, .int x6, .int x7] [.int s25, .int x4] 1134 SM μ26 (j s25 μ26)) ?_ (fun j28 hj28 => ?_)
        · intro s25 μ26
          refine z_iadd (pc := 118) dX9_countOf_118 ?_
          refine z_val (fun v27 => ?_)
          refine z_istore (pc := 119) (L' := [.ref 0, .int x1, .int x2, .int x3, .int v27, .int x5, .int x6, .int x7]) dX9_countOf_119 (by decide) rfl ?_
          refine z_iinc (pc := 121) (v := x7 + (1 : Int32)) (L' := [.ref 0, .int x1, .int x2, .int x3, .int v27, .int x5, .int x6, .int (x7 + (1 : Int32))]) dX9_countOf_121 (by decide) rfl (congrArg _ (by decide)) rfl ?_
          refine z_goto (pc := 124) (tgt := 70) dX9_countOf_124 (by decide) ?_
          exact ih v27 (x7 + (1 : Int32)) μ26
        · refine z_let (fun (j : zMem → zRes) => ∀ (μ29 : zMem), zR yX9_countOf cX9_countOf 8 (some .int) 3 117 [.ref 0, .int x1, .int x2, .int x3, .null, .int x5, .int x6, .int x7] [.int x4] 1134 SM μ29 (j μ29)) ?_ (fun j30 hj30 => ?_)
          · intro μ29
            refine z_iconst (pc := 117) (0 : Int32) dX9_countOf_117 (by decide) ?_
            exact hj28 (0 : Int32) μ29
          · refine z_if_eq (pc := 97) (tgt := 117) dX9_countOf_97 (by decide) (fun c31 => ?_) (fun c32 => ?_)
            · refine z_loc (L' := [.ref 0, .int x1, .int x2, .int x3, .null, .int x5, .int x6, .int x7]) ⟨Or.inr rfl, ⟨Or.inr rfl, ⟨Or.inr rfl, ⟨Or.inr rfl, ⟨Or.inl rfl, ⟨Or.inr rfl, ⟨Or.inr rfl, ⟨Or.inr rfl, trivial⟩⟩⟩⟩⟩⟩⟩⟩ ?_
              exact hj30 μ24
            · refine z_aload_n (pc := 100) dX9_countOf_100 rfl ?_
              refine z_iload (pc := 101) dX9_countOf_101 rfl ?_
              refine z_iload (pc := 103) dX9_countOf_103 rfl ?_
              refine z_iload_n (pc := 105) dX9_countOf_105 rfl ?_
              refine z_iload_n (pc := 106) dX9_countOf_106 rfl ?_
              refine z_callV (As := [.int x6, .int x7, .int x1, .int x2]) (pc := 107) (ret' := some .boolean) kvX9_347 (t9_isTwo _ _ _ _ _) (by decide) (by decide) sm_0  rfl rfl (Nat.le_of_ble_eq_true rfl) dX9_countOf_107 (fun v33 μ34 => ?_)
              refine z_if_eq (pc := 110) (tgt := 117) dX9_countOf_110 (by decide) (fun c35 => ?_) (fun c36 => ?_)
              · refine z_loc (L' := [.ref 0, .int x1, .int x2, .int x3, .null, .int x5, .int x6, .int x7]) ⟨Or.inr rfl, ⟨Or.inr rfl, ⟨Or.inr rfl, ⟨Or.inr rfl, ⟨Or.inl rfl, ⟨Or.inr rfl, ⟨Or.inr rfl, ⟨Or.inr rfl, trivial⟩⟩⟩⟩⟩⟩⟩⟩ ?_
                exact hj30 μ34
              · refine z_iconst (pc := 113) (1 : Int32) dX9_countOf_113 (by decide) ?_
                refine z_goto (pc := 114) (tgt := 118) dX9_countOf_114 (by decide) ?_
                refine z_loc (L' := [.ref 0, .int x1, .int x2, .int x3, .null, .int x5, .int x6, .int x7]) ⟨Or.inr rfl, ⟨Or.inr rfl, ⟨Or.inr rfl, ⟨Or.inr rfl, ⟨Or.inl rfl, ⟨Or.inr rfl, ⟨Or.inr rfl, ⟨Or.inr rfl, trivial⟩⟩⟩⟩⟩⟩⟩⟩ ?_
                exact hj28 (1 : Int32) μ34
set_option maxHeartbeats 1000000 in
theorem t9_countOf_L23 (x1 : Int32) (x2 : Int32) (x3 : Int32) (x5 : Int32) (K133 : Int32 → zMem → zRes) (hK133 : ∀ (x4 : Int32) (μ : zMem), zR yX9_countOf cX9_countOf 8 (some .int) 3 133 [.ref 0, .int x1, .int x2, .int x3, .int x4, .int x5, .null, .null] [] 1134 SM μ (K133 x4 μ)) : ∀ (n : Nat) (x4 : Int32) (x6 : Int32) (μ : zMem), zR yX9_countOf cX9_countOf 8 (some .int) 3 23 [.ref 0, .int x1, .int x2, .int x3, .int x4, .int x5, .int x6, .null] [] 1134 SM μ (f9_countOf_L23 x1 x2 x3 x5 K133 n x4 x6 μ) := by
  intro n
  induction n with
  | zero => intro x4 x6 μ; intro q hq; cases hq
  | succ n ih =>
    intro x4 x6 μ
    unfold f9_countOf_L23
    refine z_iload (pc := 23) dX9_countOf_23 rfl ?_
    refine z_aload_n (pc := 25) dX9_countOf_25 rfl ?_
    refine z_getr (pc := 26) fdX9_23 (by decide) sm_0 rfl rfl dX9_countOf_26 ?_
    refine z_iconst (pc := 29) (1 : Int32) dX9_countOf_29 (by decide) ?_
    refine z_iald (pc := 30) (by decide) sm_4 rfl dX9_countOf_30 (fun h5 => ?_)
    refine z_icmp_ge (pc := 31) (tgt := 133) dX9_countOf_31 (by decide) (fun c6 => ?_) (fun c7 => ?_)
    · refine z_loc (L' := [.ref 0, .int x1, .int x2, .int x3, .int x4, .int x5, .null, .null]) ⟨Or.inr rfl, ⟨Or.inr rfl, ⟨Or.inr rfl, ⟨Or.inr rfl, ⟨Or.inr rfl, ⟨Or.inr rfl, ⟨Or.inl rfl, ⟨Or.inl rfl, trivial⟩⟩⟩⟩⟩⟩⟩⟩ ?_
      exact hK133 x4 μ
    · refine z_aload_n (pc := 34) dX9_countOf_34 rfl ?_
      refine z_iload (pc := 35) dX9_countOf_35 rfl ?_
      refine z_iload (pc := 37) dX9_countOf_37 rfl ?_
      refine z_iload_n (pc := 39) dX9_countOf_39 rfl ?_
      refine z_iload_n (pc := 40) dX9_countOf_40 rfl ?_
      refine z_callV (As := [.int x5, .int x6, .int x1, .int x2]) (pc := 41) (ret' := some .boolean) kvX9_347 (t9_isTwo _ _ _ _ _) (by decide) (by decide) sm_0  rfl rfl (Nat.le_of_ble_eq_true rfl) dX9_countOf_41 (fun v8 μ9 => ?_)
      refine z_let (fun (j : Int32 → zMem → zRes) => ∀ (x4_10 : Int32) (μ11 : zMem), zR yX9_countOf cX9_countOf 8 (some .int) 3 127 [.ref 0, .int x1, .int x2, .int x3, .int x4_10, .int x5, .int x6, .null] [] 1134 SM μ11 (j x4_10 μ11)) ?_ (fun j12 hj12 => ?_)
      · intro x4_10 μ11
        refine z_iinc (pc := 127) (v := x6 + (1 : Int32)) (L' := [.ref 0, .int x1, .int x2, .int x3, .int x4_10, .int x5, .int (x6 + (1 : Int32)), .null]) dX9_countOf_127 (by decide) rfl (congrArg _ (by decide)) rfl ?_
        refine z_goto (pc := 130) (tgt := 23) dX9_countOf_130 (by decide) ?_
        exact ih x4_10 (x6 + (1 : Int32)) μ11
      · refine z_if_ne (pc := 44) (tgt := 50) dX9_countOf_44 (by decide) (fun c13 => ?_) (fun c14 => ?_)
        · refine z_iload (pc := 50) dX9_countOf_50 rfl ?_
          refine z_iload_n (pc := 52) dX9_countOf_52 rfl ?_
          refine z_let (fun (j : Int32 → zRes) => ∀ (s15 : Int32), zR yX9_countOf cX9_countOf 8 (some .int) 3 61 [.ref 0, .int x1, .int x2, .int x3, .null, .int x5, .int x6, .null] [.int s15, .int x4] 1134 SM μ9 (j s15)) ?_ (fun j39 hj39 => ?_)
          · intro s15
            refine z_iadd (pc := 61) dX9_countOf_61 ?_
            refine z_val (fun v16 => ?_)
            refine z_istore (pc := 62) (L' := [.ref 0, .int x1, .int x2, .int x3, .int v16, .int x5, .int x6, .null]) dX9_countOf_62 (by decide) rfl ?_
            refine z_iload (pc := 64) dX9_countOf_64 rfl ?_
            refine z_iconst (pc := 66) (1 : Int32) dX9_countOf_66 (by decide) ?_
            refine z_iadd (pc := 67) dX9_countOf_67 ?_
            refine z_val (fun v17 => ?_)
            refine z_istore (pc := 68) (L' := [.ref 0, .int x1, .int x2, .int x3, .int v16, .int x5, .int x6, .int v17]) dX9_countOf_68 (by decide) rfl ?_
            refine t9_countOf_L70 _ _ _ _ _ _ (fun x4_37 μ38 => ?_) zF _ _ _
            · exact hj12 x4_37 μ38
          · refine z_if_eq (pc := 53) (tgt := 60) dX9_countOf_53 (by decide) (fun c40 => ?_) (fun c41 => ?_)
            · refine z_iconst (pc := 60) (1 : Int32) dX9_countOf_60 (by decide) ?_
              refine z_loc (L' := [.ref 0, .int x1, .int x2, .int x3, .null, .int x5, .int x6, .null]) ⟨Or.inr rfl, ⟨Or.inr rfl, ⟨Or.inr rfl, ⟨Or.inr rfl, ⟨Or.inl rfl, ⟨Or.inr rfl, ⟨Or.inr rfl, ⟨Or.inl rfl, trivial⟩⟩⟩⟩⟩⟩⟩⟩ ?_
              exact hj39 (1 : Int32)
            · refine z_iconst (pc := 56) (0 : Int32) dX9_countOf_56 (by decide) ?_
              refine z_goto (pc := 57) (tgt := 61) dX9_countOf_57 (by decide) ?_
              refine z_loc (L' := [.ref 0, .int x1, .int x2, .int x3, .null, .int x5, .int x6, .null]) ⟨Or.inr rfl, ⟨Or.inr rfl, ⟨Or.inr rfl, ⟨Or.inr rfl, ⟨Or.inl rfl, ⟨Or.inr rfl, ⟨Or.inr rfl, ⟨Or.inl rfl, trivial⟩⟩⟩⟩⟩⟩⟩⟩ ?_
              exact hj39 (0 : Int32)
        · refine z_goto (pc := 47) (tgt := 127) dX9_countOf_47 (by decide) ?_
          exact hj12 x4 μ9
set_option maxHeartbeats 1000000 in
theorem t9_countOf_L6 (x1 : Int32) (x2 : Int32) (x3 : Int32) (K139 : Int32 → zMem → zRes) (hK139 : ∀ (x4 : Int32) (μ : zMem), zR yX9_countOf cX9_countOf 8 (some .int) 3 139 [.null, .null, .null, .null, .int x4, .null, .null, .null] [] 1134 SM μ (K139 x4 μ)) : ∀ (n : Nat) (x4 : Int32) (x5 : Int32) (μ : zMem), zR yX9_countOf cX9_countOf 8 (some .int) 3 6 [.ref 0, .int x1, .int x2, .int x3, .int x4, .int x5, .null, .null] [] 1134 SM μ (f9_countOf_L6 x1 x2 x3 K139 n x4 x5 μ) := by
  intro n
  induction n with
  | zero => intro x4 x5 μ; intro q hq; cases hq
  | succ n ih =>
    intro x4 x5 μ
    unfold f9_countOf_L6
    refine z_iload (pc := 6) dX9_countOf_6 rfl ?_
    refine z_aload_n (pc := 8) dX9_countOf_8 rfl ?_
    refine z_getr (pc := 9) fdX9_23 (by decide) sm_0 rfl rfl dX9_countOf_9 ?_
    refine z_iconst (pc := 12) (1 : Int32) dX9_countOf_12 (by decide) ?_
    refine z_iald (pc := 13) (by decide) sm_4 rfl dX9_countOf_13 (fun h1 => ?_)
    refine z_icmp_ge (pc := 14) (tgt := 139) dX9_countOf_14 (by decide) (fun c2 => ?_) (fun c3 => ?_)
    · refine z_loc (L' := [.null, .null, .null, .null, .int x4, .null, .null, .null]) ⟨Or.inl rfl, ⟨Or.inl rfl, ⟨Or.inl rfl, ⟨Or.inl rfl, ⟨Or.inr rfl, ⟨Or.inl rfl, ⟨Or.inl rfl, ⟨Or.inl rfl, trivial⟩⟩⟩⟩⟩⟩⟩⟩ ?_
      exact hK139 x4 μ
    · refine z_iload (pc := 17) dX9_countOf_17 rfl ?_
      refine z_iconst (pc := 19) (1 : Int32) dX9_countOf_19 (by decide) ?_
      refine z_iadd (pc := 20) dX9_countOf_20 ?_
      refine z_val (fun v4 => ?_)
      refine z_istore (pc := 21) (L' := [.ref 0, .int x1, .int x2, .int x3, .int x4, .int x5, .int v4, .null]) dX9_countOf_21 (by decide) rfl ?_
      refine t9_countOf_L23 _ _ _ _ _ (fun x4_42 μ43 => ?_) zF _ _ _
      · refine z_iinc (pc := 133) (v := x5 + (1 : Int32)) (L' := [.ref 0, .int x1, .int x2, .int x3, .int x4_42, .int (x5 + (1 : Int32)), .null, .null]) dX9_countOf_133 (by decide) rfl (congrArg _ (by decide)) rfl ?_
        refine z_goto (pc := 136) (tgt := 6) dX9_countOf_136 (by decide) ?_
        exact ih x4_42 (x5 + (1 : Int32)) μ43
set_option maxHeartbeats 1000000 in
theorem t9_countOf (x1 : Int32) (x2 : Int32) (x3 : Int32) (μ : zMem) : zMR yX9_countOf cX9_countOf 8 (some .int) 3 [.ref 0, .int x1, .int x2, .int x3] 1134 SM μ (f9_countOf x1 x2 x3 μ) := by
  refine zMR_of (by decide +kernel) rfl (Nat.le_of_ble_eq_true rfl) (L := [.ref 0, .int x1, .int x2, .int x3, .null, .null, .null, .null]) rfl ?_
  unfold f9_countOf
  refine z_iconst (pc := 0) (0 : Int32) dX9_countOf_0 (by decide) ?_
  refine z_istore (pc := 1) (L' := [.ref 0, .int x1, .int x2, .int x3, .int (0 : Int32), .null, .null, .null]) dX9_countOf_1 (by decide) rfl ?_
  refine z_iconst (pc := 3) (0 : Int32) dX9_countOf_3 (by decide) ?_
  refine z_istore (pc := 4) (L' := [.ref 0, .int x1, .int x2, .int x3, .int (0 : Int32), .int (0 : Int32), .null, .null]) dX9_countOf_4 (by decide) rfl ?_
  refine t9_countOf_L6 _ _ _ _ (fun x4_44 μ45 => ?_) zF _ _ _
  · refine z_iload (pc := 139) dX9_countOf_139 rfl ?_
    exact z_iret (pc := 141) rfl dX9_countOf_141
def f9_pairs (x1 : Int32) (x2 : Int32) (μ : zMem) : zRes := zlet (zset μ 0 0 (0 : Int32)) (fun (μ1 : zMem) => bnd0 (f9_isAsked x1 μ1) (fun (v2 : Int32) (μ3 : zMem) => zlet (fun (s4 : Int32) (μ5 : zMem) => bnd0 (f9_bad s4 (1 : Int32) μ5) (fun (v6 : Int32) (μ7 : zMem) => if v6 = 0 then zin (3 : Int32) 6 (zlet (fun (s11 : Int32) => bnd0 (f9_countOf x1 (μ7 4 (3 : Int32).toNatClampNeg) s11 μ7) (fun (v12 : Int32) (μ13 : zMem) => some (0, v12, μ13))) (fun j14 => if x2 = (1 : Int32) then j14 (1 : Int32) else j14 (0 : Int32))) else some (0, (0 : Int32), μ7))) (fun j17 => zlet (fun (μ18 : zMem) => j17 (1 : Int32) μ18) (fun j19 => if v2 = 0 then j19 μ3 else bnd0 (f9_in x2 (0 : Int32) (1 : Int32) μ3) (fun (v22 : Int32) (μ23 : zMem) => if v22 = 0 then j19 μ23 else j17 (0 : Int32) μ23)))))
set_option maxHeartbeats 1000000 in
theorem t9_pairs (x1 : Int32) (x2 : Int32) (μ : zMem) : zMR yX9_pairs cX9_pairs 3 (some .int) 4 [.ref 0, .int x1, .int x2] 1134 SM μ (f9_pairs x1 x2 μ) := by
  refine zMR_of (by decide +kernel) rfl (Nat.le_of_ble_eq_true rfl) (L := [.ref 0, .int x1, .int x2]) rfl ?_
  unfold f9_pairs
  refine z_aload_n (pc := 0) dX9_pairs_0 rfl ?_
  refine z_iconst (pc := 1) (0 : Int32) dX9_pairs_1 (by decide) ?_
  refine z_puti (pc := 2) fdX9_106 (by decide) sm_0 rfl rfl dX9_pairs_2 ?_
  refine z_mem (fun μ1 => ?_)
  refine z_aload_n (pc := 5) dX9_pairs_5 rfl ?_
  refine z_aload_n (pc := 6) dX9_pairs_6 rfl ?_
  refine z_iload_n (pc := 7) dX9_pairs_7 rfl ?_
  refine z_callV (As := [.int x1]) (pc := 8) (ret' := some .boolean) kvX9_217 (t9_isAsked _ _) (by decide) (by decide) sm_0  rfl rfl (Nat.le_of_ble_eq_true rfl) dX9_pairs_8 (fun v2 μ3 => ?_)
  refine z_let (fun (j : Int32 → zMem → zRes) => ∀ (s4 : Int32) (μ5 : zMem), zR yX9_pairs cX9_pairs 3 (some .int) 4 28 [.ref 0, .int x1, .int x2] [.int s4, .ref 0] 1134 SM μ5 (j s4 μ5)) ?_ (fun j17 hj17 => ?_)
  · intro s4 μ5
    refine z_iconst (pc := 28) (1 : Int32) dX9_pairs_28 (by decide) ?_
    refine z_callV (As := [.int s4, .int (1 : Int32)]) (pc := 29) (ret' := some .boolean) kvX9_188 (t9_bad _ _ _) (by decide) (by decide) sm_0  rfl rfl (Nat.le_of_ble_eq_true rfl) dX9_pairs_29 (fun v6 μ7 => ?_)
    refine z_if_eq (pc := 32) (tgt := 37) dX9_pairs_32 (by decide) (fun c8 => ?_) (fun c9 => ?_)
    · refine z_aload_n (pc := 37) dX9_pairs_37 rfl ?_
      refine z_iload_n (pc := 38) dX9_pairs_38 rfl ?_
      refine z_aload_n (pc := 39) dX9_pairs_39 rfl ?_
      refine z_getr (pc := 40) fdX9_23 (by decide) sm_0 rfl rfl dX9_pairs_40 ?_
      refine z_iconst (pc := 43) (3 : Int32) dX9_pairs_43 (by decide) ?_
      refine z_iald (pc := 44) (by decide) sm_4 rfl dX9_pairs_44 (fun h10 => ?_)
      refine z_iload_n (pc := 45) dX9_pairs_45 rfl ?_
      refine z_iconst (pc := 46) (1 : Int32) dX9_pairs_46 (by decide) ?_
      refine z_let (fun (j : Int32 → zRes) => ∀ (s11 : Int32), zR yX9_pairs cX9_pairs 3 (some .int) 4 55 [.null, .null, .null] [.int s11, .int (μ7 4 (3 : Int32).toNatClampNeg), .int x1, .ref 0] 1134 SM μ7 (j s11)) ?_ (fun j14 hj14 => ?_)
      · intro s11
        refine z_callV (As := [.int x1, .int (μ7 4 (3 : Int32).toNatClampNeg), .int s11]) (pc := 55) (ret' := some .int) kvX9_351 (t9_countOf _ _ _ _) (by decide) (by decide) sm_0  rfl rfl (Nat.le_of_ble_eq_true rfl) dX9_pairs_55 (fun v12 μ13 => ?_)
        exact z_iret (pc := 58) rfl dX9_pairs_58
      · refine z_icmp_ne (pc := 47) (tgt := 54) dX9_pairs_47 (by decide) (fun c15 => ?_) (fun c16 => ?_)
        · refine z_iconst (pc := 54) (0 : Int32) dX9_pairs_54 (by decide) ?_
          refine z_loc (L' := [.null, .null, .null]) ⟨Or.inl rfl, ⟨Or.inl rfl, ⟨Or.inl rfl, trivial⟩⟩⟩ ?_
          exact hj14 (0 : Int32)
        · refine z_iconst (pc := 50) (1 : Int32) dX9_pairs_50 (by decide) ?_
          refine z_goto (pc := 51) (tgt := 55) dX9_pairs_51 (by decide) ?_
          refine z_loc (L' := [.null, .null, .null]) ⟨Or.inl rfl, ⟨Or.inl rfl, ⟨Or.inl rfl, trivial⟩⟩⟩ ?_
          exact hj14 (1 : Int32)
    · refine z_iconst (pc := 35) (0 : Int32) dX9_pairs_35 (by decide) ?_
      exact z_iret (pc := 36) rfl dX9_pairs_36
  · refine z_let (fun (j : zMem → zRes) => ∀ (μ18 : zMem), zR yX9_pairs cX9_pairs 3 (some .int) 4 23 [.ref 0, .int x1, .int x2] [.ref 0] 1134 SM μ18 (j μ18)) ?_ (fun j19 hj19 => ?_)
    · intro μ18
      refine z_iconst (pc := 23) (1 : Int32) dX9_pairs_23 (by decide) ?_
      refine z_goto (pc := 24) (tgt := 28) dX9_pairs_24 (by decide) ?_
      exact hj17 (1 : Int32) μ18
    · refine z_if_eq (pc := 11) (tgt := 23) dX9_pairs_11 (by decide) (fun c20 => ?_) (fun c21 => ?_)
      · exact hj19 μ3
      · refine z_iload_n (pc := 14) dX9_pairs_14 rfl ?_
        refine z_iconst (pc := 15) (0 : Int32) dX9_pairs_15 (by decide) ?_
        refine z_iconst (pc := 16) (1 : Int32) dX9_pairs_16 (by decide) ?_
        refine z_callS (As := [.int x2, .int (0 : Int32), .int (1 : Int32)]) (pc := 17) (ret' := some .boolean) ksX9_140 (t9_in _ _ _ _) (by decide)  rfl rfl (Nat.le_of_ble_eq_true rfl) dX9_pairs_17 (fun v22 μ23 => ?_)
        refine z_if_ne (pc := 20) (tgt := 27) dX9_pairs_20 (by decide) (fun c24 => ?_) (fun c25 => ?_)
        · refine z_iconst (pc := 27) (0 : Int32) dX9_pairs_27 (by decide) ?_
          exact hj17 (0 : Int32) μ23
        · exact hj19 μ23
def f9_edge_L40 (x1 : Int32) (x2 : Int32) (K69 : Int32 → zMem → zRes) : Nat → Int32 → zMem → zRes
  | 0, _, _ => none
  | n + 1, x3, μ => if x3 ≤ 0 then K69 x3 μ else zlet (fun (s15 : Int32) => bnd0 (f9_countOf x1 x3 s15 μ) (fun (v16 : Int32) (μ17 : zMem) => if v16 = 0 then f9_edge_L40 x1 x2 K69 n (x3 + (-1 : Int32)) μ17 else K69 x3 μ17)) (fun j20 => if x2 = (1 : Int32) then j20 (1 : Int32) else j20 (0 : Int32))
def f9_edge (x1 : Int32) (x2 : Int32) (μ : zMem) : zRes := zlet (zset μ 0 0 (0 : Int32)) (fun (μ1 : zMem) => bnd0 (f9_isAsked x1 μ1) (fun (v2 : Int32) (μ3 : zMem) => zlet (fun (s4 : Int32) (μ5 : zMem) => bnd0 (f9_bad s4 (1 : Int32) μ5) (fun (v6 : Int32) (μ7 : zMem) => if v6 = 0 then zlet (fun (x3_10 : Int32) (μ11 : zMem) => some (0, x3_10, μ11)) (fun j12 => f9_edge_L40 x1 x2 (fun (x3_23 : Int32) (μ24 : zMem) => j12 x3_23 μ24) zF (8 : Int32) μ7) else some (0, (0 : Int32), μ7))) (fun j25 => zlet (fun (μ26 : zMem) => j25 (1 : Int32) μ26) (fun j27 => if v2 = 0 then j27 μ3 else bnd0 (f9_in x2 (0 : Int32) (1 : Int32) μ3) (fun (v30 : Int32) (μ31 : zMem) => if v30 = 0 then j27 μ31 else j25 (0 : Int32) μ31)))))
set_option maxHeartbeats 1000000 in
theorem t9_edge_L40 (x1 : Int32) (x2 : Int32) (K69 : Int32 → zMem → zRes) (hK69 : ∀ (x3 : Int32) (μ : zMem), zR yX9_edge cX9_edge 4 (some .int) 4 69 [.null, .null, .null, .int x3] [] 1134 SM μ (K69 x3 μ)) : ∀ (n : Nat) (x3 : Int32) (μ : zMem), zR yX9_edge cX9_edge 4 (some .int) 4 40 [.ref 0, .int x1, .int x2, .int x3] [] 1134 SM μ (f9_edge_L40 x1 x2 K69 n x3 μ) := by
  intro n
  induction n with
  | zero => intro x3 μ; intro q hq; cases hq
  | succ n ih =>
    intro x3 μ
    unfold f9_edge_L40
    refine z_iload_n (pc := 40) dX9_edge_40 rfl ?_
    refine z_if_le (pc := 41) (tgt := 69) dX9_edge_41 (by decide) (fun c13 => ?_) (fun c14 => ?_)
    · refine z_loc (L' := [.null, .null, .null, .int x3]) ⟨Or.inl rfl, ⟨Or.inl rfl, ⟨Or.inl rfl, ⟨Or.inr rfl, trivial⟩⟩⟩⟩ ?_
      exact hK69 x3 μ
    · refine z_aload_n (pc := 44) dX9_edge_44 rfl ?_
      refine z_iload_n (pc := 45) dX9_edge_45 rfl ?_
      refine z_iload_n (pc := 46) dX9_edge_46 rfl ?_
      refine z_iload_n (pc := 47) dX9_edge_47 rfl ?_
      refine z_iconst (pc := 48) (1 : Int32) dX9_edge_48 (by decide) ?_
      refine z_let (fun (j : Int32 → zRes) => ∀ (s15 : Int32), zR yX9_edge cX9_edge 4 (some .int) 4 57 [.ref 0, .int x1, .int x2, .int x3] [.int s15, .int x3, .int x1, .ref 0] 1134 SM μ (j s15)) ?_ (fun j20 hj20 => ?_)
      · intro s15
        refine z_callV (As := [.int x1, .int x3, .int s15]) (pc := 57) (ret' := some .int) kvX9_351 (t9_countOf _ _ _ _) (by decide) (by decide) sm_0  rfl rfl (Nat.le_of_ble_eq_true rfl) dX9_edge_57 (fun v16 μ17 => ?_)
        refine z_if_ne (pc := 60) (tgt := 69) dX9_edge_60 (by decide) (fun c18 => ?_) (fun c19 => ?_)
        · refine z_loc (L' := [.null, .null, .null, .int x3]) ⟨Or.inl rfl, ⟨Or.inl rfl, ⟨Or.inl rfl, ⟨Or.inr rfl, trivial⟩⟩⟩⟩ ?_
          exact hK69 x3 μ17
        · refine z_iinc (pc := 63) (v := x3 + (-1 : Int32)) (L' := [.ref 0, .int x1, .int x2, .int (x3 + (-1 : Int32))]) dX9_edge_63 (by decide) rfl (congrArg _ (by decide)) rfl ?_
          refine z_goto (pc := 66) (tgt := 40) dX9_edge_66 (by decide) ?_
          exact ih (x3 + (-1 : Int32)) μ17
      · refine z_icmp_ne (pc := 49) (tgt := 56) dX9_edge_49 (by decide) (fun c21 => ?_) (fun c22 => ?_)
        · refine z_iconst (pc := 56) (0 : Int32) dX9_edge_56 (by decide) ?_
          exact hj20 (0 : Int32)
        · refine z_iconst (pc := 52) (1 : Int32) dX9_edge_52 (by decide) ?_
          refine z_goto (pc := 53) (tgt := 57) dX9_edge_53 (by decide) ?_
          exact hj20 (1 : Int32)
set_option maxHeartbeats 1000000 in
theorem t9_edge (x1 : Int32) (x2 : Int32) (μ : zMem) : zMR yX9_edge cX9_edge 4 (some .int) 4 [.ref 0, .int x1, .int x2] 1134 SM μ (f9_edge x1 x2 μ) := by
  refine zMR_of (by decide +kernel) rfl (Nat.le_of_ble_eq_true rfl) (L := [.ref 0, .int x1, .int x2, .null]) rfl ?_
  unfold f9_edge
  refine z_aload_n (pc := 0) dX9_edge_0 rfl ?_
  refine z_iconst (pc := 1) (0 : Int32) dX9_edge_1 (by decide) ?_
  refine z_puti (pc := 2) fdX9_106 (by decide) sm_0 rfl rfl dX9_edge_2 ?_
  refine z_mem (fun μ1 => ?_)
  refine z_aload_n (pc := 5) dX9_edge_5 rfl ?_
  refine z_aload_n (pc := 6) dX9_edge_6 rfl ?_
  refine z_iload_n (pc := 7) dX9_edge_7 rfl ?_
  refine z_callV (As := [.int x1]) (pc := 8) (ret' := some .boolean) kvX9_217 (t9_isAsked _ _) (by decide) (by decide) sm_0  rfl rfl (Nat.le_of_ble_eq_true rfl) dX9_edge_8 (fun v2 μ3 => ?_)
  refine z_let (fun (j : Int32 → zMem → zRes) => ∀ (s4 : Int32) (μ5 : zMem), zR yX9_edge cX9_edge 4 (some .int) 4 28 [.ref 0, .int x1, .int x2, .null] [.int s4, .ref 0] 1134 SM μ5 (j s4 μ5)) ?_ (fun j25 hj25 => ?_)
  · intro s4 μ5
    refine z_iconst (pc := 28) (1 : Int32) dX9_edge_28 (by decide) ?_
    refine z_callV (As := [.int s4, .int (1 : Int32)]) (pc := 29) (ret' := some .boolean) kvX9_188 (t9_bad _ _ _) (by decide) (by decide) sm_0  rfl rfl (Nat.le_of_ble_eq_true rfl) dX9_edge_29 (fun v6 μ7 => ?_)
    refine z_if_eq (pc := 32) (tgt := 37) dX9_edge_32 (by decide) (fun c8 => ?_) (fun c9 => ?_)
    · refine z_bipush (pc := 37) (8 : Int32) dX9_edge_37 (by decide) ?_
      refine z_istore_n (pc := 39) (L' := [.ref 0, .int x1, .int x2, .int (8 : Int32)]) dX9_edge_39 (by decide) rfl ?_
      refine z_let (fun (j : Int32 → zMem → zRes) => ∀ (x3_10 : Int32) (μ11 : zMem), zR yX9_edge cX9_edge 4 (some .int) 4 69 [.null, .null, .null, .int x3_10] [] 1134 SM μ11 (j x3_10 μ11)) ?_ (fun j12 hj12 => ?_)
      · intro x3_10 μ11
        refine z_iload_n (pc := 69) dX9_edge_69 rfl ?_
        exact z_iret (pc := 70) rfl dX9_edge_70
      · refine t9_edge_L40 _ _ _ (fun x3_23 μ24 => ?_) zF _ _
        · exact hj12 x3_23 μ24
    · refine z_iconst (pc := 35) (0 : Int32) dX9_edge_35 (by decide) ?_
      exact z_iret (pc := 36) rfl dX9_edge_36
  · refine z_let (fun (j : zMem → zRes) => ∀ (μ26 : zMem), zR yX9_edge cX9_edge 4 (some .int) 4 23 [.ref 0, .int x1, .int x2, .null] [.ref 0] 1134 SM μ26 (j μ26)) ?_ (fun j27 hj27 => ?_)
    · intro μ26
      refine z_iconst (pc := 23) (1 : Int32) dX9_edge_23 (by decide) ?_
      refine z_goto (pc := 24) (tgt := 28) dX9_edge_24 (by decide) ?_
      exact hj25 (1 : Int32) μ26
    · refine z_if_eq (pc := 11) (tgt := 23) dX9_edge_11 (by decide) (fun c28 => ?_) (fun c29 => ?_)
      · exact hj27 μ3
      · refine z_iload_n (pc := 14) dX9_edge_14 rfl ?_
        refine z_iconst (pc := 15) (0 : Int32) dX9_edge_15 (by decide) ?_
        refine z_iconst (pc := 16) (1 : Int32) dX9_edge_16 (by decide) ?_
        refine z_callS (As := [.int x2, .int (0 : Int32), .int (1 : Int32)]) (pc := 17) (ret' := some .boolean) ksX9_140 (t9_in _ _ _ _) (by decide)  rfl rfl (Nat.le_of_ble_eq_true rfl) dX9_edge_17 (fun v30 μ31 => ?_)
        refine z_if_ne (pc := 20) (tgt := 27) dX9_edge_20 (by decide) (fun c32 => ?_) (fun c33 => ?_)
        · refine z_iconst (pc := 27) (0 : Int32) dX9_edge_27 (by decide) ?_
          exact hj25 (0 : Int32) μ31
        · exact hj27 μ31
def f9_less (x0 : Int32) (x1 : Int32) (μ : zMem) : zRes := zlet (fun (s1 : Int32) => some (0, s1, μ)) (fun j2 => if x1 ≤ x0 then j2 x1 else j2 x0)
set_option maxHeartbeats 1000000 in
theorem t9_less (x0 : Int32) (x1 : Int32) (μ : zMem) : zMR yX9_less cX9_less 2 (some .int) 1 [.int x0, .int x1] 1134 SM μ (f9_less x0 x1 μ) := by
  refine zMR_of (by decide +kernel) rfl (Nat.le_of_ble_eq_true rfl) (L := [.int x0, .int x1]) rfl ?_
  unfold f9_less
  refine z_iload_n (pc := 0) dX9_less_0 rfl ?_
  refine z_iload_n (pc := 1) dX9_less_1 rfl ?_
  refine z_let (fun (j : Int32 → zRes) => ∀ (s1 : Int32), zR yX9_less cX9_less 2 (some .int) 1 10 [.null, .null] [.int s1] 1134 SM μ (j s1)) ?_ (fun j2 hj2 => ?_)
  · intro s1
    exact z_iret (pc := 10) rfl dX9_less_10
  · refine z_icmp_ge (pc := 2) (tgt := 9) dX9_less_2 (by decide) (fun c3 => ?_) (fun c4 => ?_)
    · refine z_iload_n (pc := 9) dX9_less_9 rfl ?_
      refine z_loc (L' := [.null, .null]) ⟨Or.inl rfl, ⟨Or.inl rfl, trivial⟩⟩ ?_
      exact hj2 x1
    · refine z_iload_n (pc := 5) dX9_less_5 rfl ?_
      refine z_goto (pc := 6) (tgt := 10) dX9_less_6 (by decide) ?_
      refine z_loc (L' := [.null, .null]) ⟨Or.inl rfl, ⟨Or.inl rfl, trivial⟩⟩ ?_
      exact hj2 x0
def f9_rest (x1 : Int32) (x2 : Int32) (x3 : Int32) (x4 : Int32) (x5 : Int32) (x6 : Int32) (μ : zMem) : zRes := zlet (zset μ 0 0 (0 : Int32)) (fun (μ1 : zMem) => bnd0 (f9_isPerson x1 μ1) (fun (v2 : Int32) (μ3 : zMem) => zlet (fun (s4 : Int32) => bnd0 (f9_bad s4 (1 : Int32) μ3) (fun (v5 : Int32) (μ6 : zMem) => zlet (fun (μ7 : zMem) => some (0, (0 : Int32), μ7)) (fun j8 => if v5 = 0 then bnd0 (f9_in x2 (1 : Int32) (99 : Int32) μ6) (fun (v11 : Int32) (μ12 : zMem) => zlet (fun (s13 : Int32) (μ14 : zMem) => bnd0 (f9_bad s13 (2 : Int32) μ14) (fun (v15 : Int32) (μ16 : zMem) => if v15 = 0 then zin x1 9 (zin (5 : Int32) 6 (zlet ((10 : Int32) - (μ16 (15 + x1.toNatClampNeg) (5 : Int32).toNatClampNeg)) (fun (v21 : Int32) => zlet (fun (s22 : Int32) => bnd0 (f9_less (1000 : Int32) s22 μ16) (fun (v23 : Int32) (μ24 : zMem) => some (0, v23, μ24))) (fun j25 => if x6 = 0 then znz (v21 * (x2 + x3)) (j25 (((10000 : Int32) * x2) / (v21 * (x2 + x3)))) else znz (v21 * x5) (j25 (((10000 : Int32) * x4) / (v21 * x5))))))) else j8 μ16)) (fun j30 => zlet (fun (μ31 : zMem) => j30 (1 : Int32) μ31) (fun j32 => if v11 = 0 then j32 μ12 else bnd0 (f9_in x3 (1 : Int32) (99 : Int32) μ12) (fun (v35 : Int32) (μ36 : zMem) => if v35 = 0 then j32 μ36 else bnd0 (f9_in x4 (1 : Int32) (99 : Int32) μ36) (fun (v39 : Int32) (μ40 : zMem) => if v39 = 0 then j32 μ40 else bnd0 (f9_in x5 (1 : Int32) (99 : Int32) μ40) (fun (v43 : Int32) (μ44 : zMem) => if v43 = 0 then j32 μ44 else bnd0 (f9_in x6 (0 : Int32) (1 : Int32) μ44) (fun (v47 : Int32) (μ48 : zMem) => if v47 = 0 then j32 μ48 else j30 (0 : Int32) μ48))))))) else j8 μ6))) (fun j51 => if v2 = 0 then j51 (1 : Int32) else j51 (0 : Int32))))
set_option maxHeartbeats 1000000 in
theorem t9_rest (x1 : Int32) (x2 : Int32) (x3 : Int32) (x4 : Int32) (x5 : Int32) (x6 : Int32) (μ : zMem) : zMR yX9_rest cX9_rest 8 (some .int) 3 [.ref 0, .int x1, .int x2, .int x3, .int x4, .int x5, .int x6] 1134 SM μ (f9_rest x1 x2 x3 x4 x5 x6 μ) := by
  refine zMR_of (by decide +kernel) rfl (Nat.le_of_ble_eq_true rfl) (L := [.ref 0, .int x1, .int x2, .int x3, .int x4, .int x5, .int x6, .null]) rfl ?_
  unfold f9_rest
  refine z_aload_n (pc := 0) dX9_rest_0 rfl ?_
  refine z_iconst (pc := 1) (0 : Int32) dX9_rest_1 (by decide) ?_
  refine z_puti (pc := 2) fdX9_106 (by decide) sm_0 rfl rfl dX9_rest_2 ?_
  refine z_mem (fun μ1 => ?_)
  refine z_aload_n (pc := 5) dX9_rest_5 rfl ?_
  refine z_aload_n (pc := 6) dX9_rest_6 rfl ?_
  refine z_iload_n (pc := 7) dX9_rest_7 rfl ?_
  refine z_callV (As := [.int x1]) (pc := 8) (ret' := some .boolean) kvX9_214 (t9_isPerson _ _) (by decide) (by decide) sm_0  rfl rfl (Nat.le_of_ble_eq_true rfl) dX9_rest_8 (fun v2 μ3 => ?_)
  refine z_let (fun (j : Int32 → zRes) => ∀ (s4 : Int32), zR yX9_rest cX9_rest 8 (some .int) 3 19 [.ref 0, .int x1, .int x2, .int x3, .int x4, .int x5, .int x6, .null] [.int s4, .ref 0] 1134 SM μ3 (j s4)) ?_ (fun j51 hj51 => ?_)
  · intro s4
    refine z_iconst (pc := 19) (1 : Int32) dX9_rest_19 (by decide) ?_
    refine z_callV (As := [.int s4, .int (1 : Int32)]) (pc := 20) (ret' := some .boolean) kvX9_188 (t9_bad _ _ _) (by decide) (by decide) sm_0  rfl rfl (Nat.le_of_ble_eq_true rfl) dX9_rest_20 (fun v5 μ6 => ?_)
    refine z_let (fun (j : zMem → zRes) => ∀ (μ7 : zMem), zR yX9_rest cX9_rest 8 (some .int) 3 91 [.null, .null, .null, .null, .null, .null, .null, .null] [] 1134 SM μ7 (j μ7)) ?_ (fun j8 hj8 => ?_)
    · intro μ7
      refine z_iconst (pc := 91) (0 : Int32) dX9_rest_91 (by decide) ?_
      exact z_iret (pc := 92) rfl dX9_rest_92
    · refine z_if_ne (pc := 23) (tgt := 91) dX9_rest_23 (by decide) (fun c9 => ?_) (fun c10 => ?_)
      · refine z_loc (L' := [.null, .null, .null, .null, .null, .null, .null, .null]) ⟨Or.inl rfl, ⟨Or.inl rfl, ⟨Or.inl rfl, ⟨Or.inl rfl, ⟨Or.inl rfl, ⟨Or.inl rfl, ⟨Or.inl rfl, ⟨Or.inl rfl, trivial⟩⟩⟩⟩⟩⟩⟩⟩ ?_
        exact hj8 μ6
      · refine z_aload_n (pc := 26) dX9_rest_26 rfl ?_
        refine z_iload_n (pc := 27) dX9_rest_27 rfl ?_
        refine z_iconst (pc := 28) (1 : Int32) dX9_rest_28 (by decide) ?_
        refine z_bipush (pc := 29) (99 : Int32) dX9_rest_29 (by decide) ?_
        refine z_callS (As := [.int x2, .int (1 : Int32), .int (99 : Int32)]) (pc := 31) (ret' := some .boolean) ksX9_140 (t9_in _ _ _ _) (by decide)  rfl rfl (Nat.le_of_ble_eq_true rfl) dX9_rest_31 (fun v11 μ12 => ?_)
        refine z_let (fun (j : Int32 → zMem → zRes) => ∀ (s13 : Int32) (μ14 : zMem), zR yX9_rest cX9_rest 8 (some .int) 3 84 [.ref 0, .int x1, .int x2, .int x3, .int x4, .int x5, .int x6, .null] [.int s13, .ref 0] 1134 SM μ14 (j s13 μ14)) ?_ (fun j30 hj30 => ?_)
        · intro s13 μ14
          refine z_iconst (pc := 84) (2 : Int32) dX9_rest_84 (by decide) ?_
          refine z_callV (As := [.int s13, .int (2 : Int32)]) (pc := 85) (ret' := some .boolean) kvX9_188 (t9_bad _ _ _) (by decide) (by decide) sm_0  rfl rfl (Nat.le_of_ble_eq_true rfl) dX9_rest_85 (fun v15 μ16 => ?_)
          refine z_if_eq (pc := 88) (tgt := 93) dX9_rest_88 (by decide) (fun c17 => ?_) (fun c18 => ?_)
          · refine z_bipush (pc := 93) (10 : Int32) dX9_rest_93 (by decide) ?_
            refine z_aload_n (pc := 95) dX9_rest_95 rfl ?_
            refine z_getr (pc := 96) fdX9_31 (by decide) sm_0 rfl rfl dX9_rest_96 ?_
            refine z_iload_n (pc := 99) dX9_rest_99 rfl ?_
            refine z_aald (pc := 100) (fun j => 15 + j) (by decide) sm_14 (Or.inl rfl) smg_14 dX9_rest_100 (fun h19 => ?_)
            refine z_iconst (pc := 101) (5 : Int32) dX9_rest_101 (by decide) ?_
            refine z_iald (pc := 102) (smr_14 h19).2 (smr_14 h19).1 rfl dX9_rest_102 (fun h20 => ?_)
            refine z_isub (pc := 103) dX9_rest_103 ?_
            refine z_val (fun v21 => ?_)
            refine z_istore (pc := 104) (L' := [.ref 0, .int x1, .int x2, .int x3, .int x4, .int x5, .int x6, .int v21]) dX9_rest_104 (by decide) rfl ?_
            refine z_sipush (pc := 106) (1000 : Int32) dX9_rest_106 (by decide) ?_
            refine z_iload (pc := 109) dX9_rest_109 rfl ?_
            refine z_let (fun (j : Int32 → zRes) => ∀ (s22 : Int32), zR yX9_rest cX9_rest 8 (some .int) 3 141 [.null, .null, .null, .null, .null, .null, .null, .null] [.int s22, .int (1000 : Int32)] 1134 SM μ16 (j s22)) ?_ (fun j25 hj25 => ?_)
            · intro s22
              refine z_callS (As := [.int (1000 : Int32), .int s22]) (pc := 141) (ret' := some .int) ksX9_355 (t9_less _ _ _) (by decide)  rfl rfl (Nat.le_of_ble_eq_true rfl) dX9_rest_141 (fun v23 μ24 => ?_)
              exact z_iret (pc := 144) rfl dX9_rest_144
            · refine z_if_ne (pc := 111) (tgt := 129) dX9_rest_111 (by decide) (fun c26 => ?_) (fun c27 => ?_)
              · refine z_sipush (pc := 129) (10000 : Int32) dX9_rest_129 (by decide) ?_
                refine z_iload (pc := 132) dX9_rest_132 rfl ?_
                refine z_imul (pc := 134) dX9_rest_134 ?_
                refine z_iload (pc := 135) dX9_rest_135 rfl ?_
                refine z_iload (pc := 137) dX9_rest_137 rfl ?_
                refine z_imul (pc := 139) dX9_rest_139 ?_
                refine z_idiv (pc := 140) dX9_rest_140 (fun h28 => ?_)
                refine z_loc (L' := [.null, .null, .null, .null, .null, .null, .null, .null]) ⟨Or.inl rfl, ⟨Or.inl rfl, ⟨Or.inl rfl, ⟨Or.inl rfl, ⟨Or.inl rfl, ⟨Or.inl rfl, ⟨Or.inl rfl, ⟨Or.inl rfl, trivial⟩⟩⟩⟩⟩⟩⟩⟩ ?_
                exact hj25 (((10000 : Int32) * x4) / (v21 * x5))
              · refine z_sipush (pc := 114) (10000 : Int32) dX9_rest_114 (by decide) ?_
                refine z_iload_n (pc := 117) dX9_rest_117 rfl ?_
                refine z_imul (pc := 118) dX9_rest_118 ?_
                refine z_iload (pc := 119) dX9_rest_119 rfl ?_
                refine z_iload_n (pc := 121) dX9_rest_121 rfl ?_
                refine z_iload_n (pc := 122) dX9_rest_122 rfl ?_
                refine z_iadd (pc := 123) dX9_rest_123 ?_
                refine z_imul (pc := 124) dX9_rest_124 ?_
                refine z_idiv (pc := 125) dX9_rest_125 (fun h29 => ?_)
                refine z_goto (pc := 126) (tgt := 141) dX9_rest_126 (by decide) ?_
                refine z_loc (L' := [.null, .null, .null, .null, .null, .null, .null, .null]) ⟨Or.inl rfl, ⟨Or.inl rfl, ⟨Or.inl rfl, ⟨Or.inl rfl, ⟨Or.inl rfl, ⟨Or.inl rfl, ⟨Or.inl rfl, ⟨Or.inl rfl, trivial⟩⟩⟩⟩⟩⟩⟩⟩ ?_
                exact hj25 (((10000 : Int32) * x2) / (v21 * (x2 + x3)))
          · refine z_loc (L' := [.null, .null, .null, .null, .null, .null, .null, .null]) ⟨Or.inl rfl, ⟨Or.inl rfl, ⟨Or.inl rfl, ⟨Or.inl rfl, ⟨Or.inl rfl, ⟨Or.inl rfl, ⟨Or.inl rfl, ⟨Or.inl rfl, trivial⟩⟩⟩⟩⟩⟩⟩⟩ ?_
            exact hj8 μ16
        · refine z_let (fun (j : zMem → zRes) => ∀ (μ31 : zMem), zR yX9_rest cX9_rest 8 (some .int) 3 79 [.ref 0, .int x1, .int x2, .int x3, .int x4, .int x5, .int x6, .null] [.ref 0] 1134 SM μ31 (j μ31)) ?_ (fun j32 hj32 => ?_)
          · intro μ31
            refine z_iconst (pc := 79) (1 : Int32) dX9_rest_79 (by decide) ?_
            refine z_goto (pc := 80) (tgt := 84) dX9_rest_80 (by decide) ?_
            exact hj30 (1 : Int32) μ31
          · refine z_if_eq (pc := 34) (tgt := 79) dX9_rest_34 (by decide) (fun c33 => ?_) (fun c34 => ?_)
            · exact hj32 μ12
            · refine z_iload_n (pc := 37) dX9_rest_37 rfl ?_
              refine z_iconst (pc := 38) (1 : Int32) dX9_rest_38 (by decide) ?_
              refine z_bipush (pc := 39) (99 : Int32) dX9_rest_39 (by decide) ?_
              refine z_callS (As := [.int x3, .int (1 : Int32), .int (99 : Int32)]) (pc := 41) (ret' := some .boolean) ksX9_140 (t9_in _ _ _ _) (by decide)  rfl rfl (Nat.le_of_ble_eq_true rfl) dX9_rest_41 (fun v35 μ36 => ?_)
              refine z_if_eq (pc := 44) (tgt := 79) dX9_rest_44 (by decide) (fun c37 => ?_) (fun c38 => ?_)
              · exact hj32 μ36
              · refine z_iload (pc := 47) dX9_rest_47 rfl ?_
                refine z_iconst (pc := 49) (1 : Int32) dX9_rest_49 (by decide) ?_
                refine z_bipush (pc := 50) (99 : Int32) dX9_rest_50 (by decide) ?_
                refine z_callS (As := [.int x4, .int (1 : Int32), .int (99 : Int32)]) (pc := 52) (ret' := some .boolean) ksX9_140 (t9_in _ _ _ _) (by decide)  rfl rfl (Nat.le_of_ble_eq_true rfl) dX9_rest_52 (fun v39 μ40 => ?_)
                refine z_if_eq (pc := 55) (tgt := 79) dX9_rest_55 (by decide) (fun c41 => ?_) (fun c42 => ?_)
                · exact hj32 μ40
                · refine z_iload (pc := 58) dX9_rest_58 rfl ?_
                  refine z_iconst (pc := 60) (1 : Int32) dX9_rest_60 (by decide) ?_
                  refine z_bipush (pc := 61) (99 : Int32) dX9_rest_61 (by decide) ?_
                  refine z_callS (As := [.int x5, .int (1 : Int32), .int (99 : Int32)]) (pc := 63) (ret' := some .boolean) ksX9_140 (t9_in _ _ _ _) (by decide)  rfl rfl (Nat.le_of_ble_eq_true rfl) dX9_rest_63 (fun v43 μ44 => ?_)
                  refine z_if_eq (pc := 66) (tgt := 79) dX9_rest_66 (by decide) (fun c45 => ?_) (fun c46 => ?_)
                  · exact hj32 μ44
                  · refine z_iload (pc := 69) dX9_rest_69 rfl ?_
                    refine z_iconst (pc := 71) (0 : Int32) dX9_rest_71 (by decide) ?_
                    refine z_iconst (pc := 72) (1 : Int32) dX9_rest_72 (by decide) ?_
                    refine z_callS (As := [.int x6, .int (0 : Int32), .int (1 : Int32)]) (pc := 73) (ret' := some .boolean) ksX9_140 (t9_in _ _ _ _) (by decide)  rfl rfl (Nat.le_of_ble_eq_true rfl) dX9_rest_73 (fun v47 μ48 => ?_)
                    refine z_if_ne (pc := 76) (tgt := 83) dX9_rest_76 (by decide) (fun c49 => ?_) (fun c50 => ?_)
                    · refine z_iconst (pc := 83) (0 : Int32) dX9_rest_83 (by decide) ?_
                      exact hj30 (0 : Int32) μ48
                    · exact hj32 μ48
  · refine z_if_ne (pc := 11) (tgt := 18) dX9_rest_11 (by decide) (fun c52 => ?_) (fun c53 => ?_)
    · refine z_iconst (pc := 18) (0 : Int32) dX9_rest_18 (by decide) ?_
      exact hj51 (0 : Int32)
    · refine z_iconst (pc := 14) (1 : Int32) dX9_rest_14 (by decide) ?_
      refine z_goto (pc := 15) (tgt := 19) dX9_rest_15 (by decide) ?_
      exact hj51 (1 : Int32)
def f9_pairsIn_L61 (F : Int32 → Int32 → zMem → zRes) (x2 : Int32) (x3 : Int32) (x4 : Int32) (K129 : Int32 → zMem → zRes) : Nat → Int32 → Int32 → zMem → zRes
  | 0, _, _, _ => none
  | n + 1, x5, x6, μ => zin (1 : Int32) 6 (if (μ 4 (1 : Int32).toNatClampNeg) ≤ x6 then K129 x5 μ else zlet (fun (x5_12 : Int32) (μ13 : zMem) => f9_pairsIn_L61 F x2 x3 x4 K129 n x5_12 (x6 + (1 : Int32)) μ13) (fun j14 => if ((zshr x4 x6) &&& (1 : Int32)) = (1 : Int32) then zin (3 : Int32) 6 (bnd0 (f9_isTwo x3 x6 x2 (μ 4 (3 : Int32).toNatClampNeg) μ) (fun (v18 : Int32) (μ19 : zMem) => if v18 = 0 then j14 x5 μ19 else bnd0 (F (x4 &&& ((zshl (1 : Int32) x6) ^^^ (-1 : Int32))) x2 μ19) (fun (v22 : Int32) (μ23 : zMem) => bnd0 (f9_more x5 ((1 : Int32) + v22) μ23) (fun (v24 : Int32) (μ25 : zMem) => j14 v24 μ25)))) else j14 x5 μ))
def f9_pairsIn_L2 (F : Int32 → Int32 → zMem → zRes) (x1 : Int32) (μ : zMem) (K26 : Int32 → zRes) : Nat → Int32 → zRes
  | 0, _ => none
  | n + 1, x3 => zin (1 : Int32) 6 (if (μ 4 (1 : Int32).toNatClampNeg) ≤ x3 then K26 x3 else if ((zshr x1 x3) &&& (1 : Int32)) = 0 then f9_pairsIn_L2 F x1 μ K26 n (x3 + (1 : Int32)) else K26 x3)
def f9_pairsInB (F : Int32 → Int32 → zMem → zRes) (x1 : Int32) (x2 : Int32) (μ : zMem) : zRes := zlet (fun (x3_1 : Int32) => zin (1 : Int32) 6 (if x3_1 = (μ 4 (1 : Int32).toNatClampNeg) then some (0, (0 : Int32), μ) else zlet (x1 &&& ((zshl (1 : Int32) x3_1) ^^^ (-1 : Int32))) (fun (v5 : Int32) => bnd0 (F v5 x2 μ) (fun (v6 : Int32) (μ7 : zMem) => zlet (x3_1 + (1 : Int32)) (fun (v8 : Int32) => f9_pairsIn_L61 F x2 x3_1 v5 (fun (x5_26 : Int32) (μ27 : zMem) => some (0, x5_26, μ27)) zF v6 v8 μ7))))) (fun j28 => f9_pairsIn_L2 F x1 μ (fun (x3_34 : Int32) => j28 x3_34) zF (0 : Int32))
def f9_pairsIn : Nat → Int32 → Int32 → zMem → zRes
  | 0, _, _, _ => none
  | n + 1, x1, x2, μ => f9_pairsInB  (f9_pairsIn n) x1 x2 μ
set_option maxHeartbeats 1000000 in
theorem t9_pairsIn_L61 {d dd : Nat} (hd1 : dd + 1 ≤ d) (hd2 : 3 ≤ d) (F : Int32 → Int32 → zMem → zRes) (hF : ∀ (x1 : Int32) (x2 : Int32) (μ : zMem), zMR yX9_pairsIn cX9_pairsIn 7 (some .int) dd [.ref 0, .int x1, .int x2] 1134 SM μ (F x1 x2 μ)) (x2 : Int32) (x3 : Int32) (x4 : Int32) (K129 : Int32 → zMem → zRes) (hK129 : ∀ (x5 : Int32) (μ : zMem), zR yX9_pairsIn cX9_pairsIn 7 (some .int) d 129 [.null, .null, .null, .null, .null, .int x5, .null] [] 1134 SM μ (K129 x5 μ)) : ∀ (n : Nat) (x5 : Int32) (x6 : Int32) (μ : zMem), zR yX9_pairsIn cX9_pairsIn 7 (some .int) d 61 [.ref 0, .null, .int x2, .int x3, .int x4, .int x5, .int x6] [] 1134 SM μ (f9_pairsIn_L61 F x2 x3 x4 K129 n x5 x6 μ) := by
  intro n
  induction n with
  | zero => intro x5 x6 μ; intro q hq; cases hq
  | succ n ih =>
    intro x5 x6 μ
    unfold f9_pairsIn_L61
    refine z_iload (pc := 61) dX9_pairsIn_61 rfl ?_
    refine z_aload_n (pc := 63) dX9_pairsIn_63 rfl ?_
    refine z_getr (pc := 64) fdX9_23 (by decide) sm_0 rfl rfl dX9_pairsIn_64 ?_
    refine z_iconst (pc := 67) (1 : Int32) dX9_pairsIn_67 (by decide) ?_
    refine z_iald (pc := 68) (by decide) sm_4 rfl dX9_pairsIn_68 (fun h9 => ?_)
    refine z_icmp_ge (pc := 69) (tgt := 129) dX9_pairsIn_69 (by decide) (fun c10 => ?_) (fun c11 => ?_)
    · refine z_loc (L' := [.null, .null, .null, .null, .null, .int x5, .null]) ⟨Or.inl rfl, ⟨Or.inl rfl, ⟨Or.inl rfl, ⟨Or.inl rfl, ⟨Or.inl rfl, ⟨Or.inr rfl, ⟨Or.inl rfl, trivial⟩⟩⟩⟩⟩⟩⟩ ?_
      exact hK129 x5 μ
    · refine z_iload (pc := 72) dX9_pairsIn_72 rfl ?_
      refine z_iload (pc := 74) dX9_pairsIn_74 rfl ?_
      refine z_ishr (pc := 76) dX9_pairsIn_76 ?_
      refine z_iconst (pc := 77) (1 : Int32) dX9_pairsIn_77 (by decide) ?_
      refine z_iand (pc := 78) dX9_pairsIn_78 ?_
      refine z_iconst (pc := 79) (1 : Int32) dX9_pairsIn_79 (by decide) ?_
      refine z_let (fun (j : Int32 → zMem → zRes) => ∀ (x5_12 : Int32) (μ13 : zMem), zR yX9_pairsIn cX9_pairsIn 7 (some .int) d 123 [.ref 0, .null, .int x2, .int x3, .int x4, .int x5_12, .int x6] [] 1134 SM μ13 (j x5_12 μ13)) ?_ (fun j14 hj14 => ?_)
      · intro x5_12 μ13
        refine z_iinc (pc := 123) (v := x6 + (1 : Int32)) (L' := [.ref 0, .null, .int x2, .int x3, .int x4, .int x5_12, .int (x6 + (1 : Int32))]) dX9_pairsIn_123 (by decide) rfl (congrArg _ (by decide)) rfl ?_
        refine z_goto (pc := 126) (tgt := 61) dX9_pairsIn_126 (by decide) ?_
        exact ih x5_12 (x6 + (1 : Int32)) μ13
      · refine z_icmp_ne (pc := 80) (tgt := 123) dX9_pairsIn_80 (by decide) (fun c15 => ?_) (fun c16 => ?_)
        · exact hj14 x5 μ
        · refine z_aload_n (pc := 83) dX9_pairsIn_83 rfl ?_
          refine z_iload_n (pc := 84) dX9_pairsIn_84 rfl ?_
          refine z_iload (pc := 85) dX9_pairsIn_85 rfl ?_
          refine z_iload_n (pc := 87) dX9_pairsIn_87 rfl ?_
          refine z_aload_n (pc := 88) dX9_pairsIn_88 rfl ?_
          refine z_getr (pc := 89) fdX9_23 (by decide) sm_0 rfl rfl dX9_pairsIn_89 ?_
          refine z_iconst (pc := 92) (3 : Int32) dX9_pairsIn_92 (by decide) ?_
          refine z_iald (pc := 93) (by decide) sm_4 rfl dX9_pairsIn_93 (fun h17 => ?_)
          refine z_callV (As := [.int x3, .int x6, .int x2, .int (μ 4 (3 : Int32).toNatClampNeg)]) (pc := 94) (ret' := some .boolean) kvX9_347 (t9_isTwo _ _ _ _ _) (Nat.le_trans (by decide) hd2) (by decide) sm_0  rfl rfl (Nat.le_of_ble_eq_true rfl) dX9_pairsIn_94 (fun v18 μ19 => ?_)
          refine z_if_eq (pc := 97) (tgt := 123) dX9_pairsIn_97 (by decide) (fun c20 => ?_) (fun c21 => ?_)
          · exact hj14 x5 μ19
          · refine z_iload (pc := 100) dX9_pairsIn_100 rfl ?_
            refine z_iconst (pc := 102) (1 : Int32) dX9_pairsIn_102 (by decide) ?_
            refine z_aload_n (pc := 103) dX9_pairsIn_103 rfl ?_
            refine z_iload (pc := 104) dX9_pairsIn_104 rfl ?_
            refine z_iconst (pc := 106) (1 : Int32) dX9_pairsIn_106 (by decide) ?_
            refine z_iload (pc := 107) dX9_pairsIn_107 rfl ?_
            refine z_ishl (pc := 109) dX9_pairsIn_109 ?_
            refine z_iconst (pc := 110) (-1 : Int32) dX9_pairsIn_110 (by decide) ?_
            refine z_ixor (pc := 111) dX9_pairsIn_111 ?_
            refine z_iand (pc := 112) dX9_pairsIn_112 ?_
            refine z_iload_n (pc := 113) dX9_pairsIn_113 rfl ?_
            refine z_callV (As := [.int (x4 &&& ((zshl (1 : Int32) x6) ^^^ (-1 : Int32))), .int x2]) (pc := 114) (ret' := some .int) kvX9_358 (hF _ _ _) hd1 (by decide) sm_0  rfl rfl (Nat.le_of_ble_eq_true rfl) dX9_pairsIn_114 (fun v22 μ23 => ?_)
            refine z_iadd (pc := 117) dX9_pairsIn_117 ?_
            refine z_callS (As := [.int x5, .int ((1 : Int32) + v22)]) (pc := 118) (ret' := some .int) ksX9_341 (t9_more _ _ _) (Nat.le_trans (by decide) hd2)  rfl rfl (Nat.le_of_ble_eq_true rfl) dX9_pairsIn_118 (fun v24 μ25 => ?_)
            refine z_istore (pc := 121) (L' := [.ref 0, .null, .int x2, .int x3, .int x4, .int v24, .int x6]) dX9_pairsIn_121 (by decide) rfl ?_
            exact hj14 v24 μ25
set_option maxHeartbeats 1000000 in
theorem t9_pairsIn_L2 {d dd : Nat} (hd1 : dd + 1 ≤ d) (hd2 : 3 ≤ d) (F : Int32 → Int32 → zMem → zRes) (hF : ∀ (x1 : Int32) (x2 : Int32) (μ : zMem), zMR yX9_pairsIn cX9_pairsIn 7 (some .int) dd [.ref 0, .int x1, .int x2] 1134 SM μ (F x1 x2 μ)) (x1 : Int32) (x2 : Int32) (μ : zMem) (K26 : Int32 → zRes) (hK26 : ∀ (x3 : Int32), zR yX9_pairsIn cX9_pairsIn 7 (some .int) d 26 [.ref 0, .int x1, .int x2, .int x3, .null, .null, .null] [] 1134 SM μ (K26 x3)) : ∀ (n : Nat) (x3 : Int32), zR yX9_pairsIn cX9_pairsIn 7 (some .int) d 2 [.ref 0, .int x1, .int x2, .int x3, .null, .null, .null] [] 1134 SM μ (f9_pairsIn_L2 F x1 μ K26 n x3) := by
  intro n
  induction n with
  | zero => intro x3; intro q hq; cases hq
  | succ n ih =>
    intro x3
    unfold f9_pairsIn_L2
    refine z_iload_n (pc := 2) dX9_pairsIn_2 rfl ?_
    refine z_aload_n (pc := 3) dX9_pairsIn_3 rfl ?_
    refine z_getr (pc := 4) fdX9_23 (by decide) sm_0 rfl rfl dX9_pairsIn_4 ?_
    refine z_iconst (pc := 7) (1 : Int32) dX9_pairsIn_7 (by decide) ?_
    refine z_iald (pc := 8) (by decide) sm_4 rfl dX9_pairsIn_8 (fun h29 => ?_)
    refine z_icmp_ge (pc := 9) (tgt := 26) dX9_pairsIn_9 (by decide) (fun c30 => ?_) (fun c31 => ?_)
    · exact hK26 x3
    · refine z_iload_n (pc := 12) dX9_pairsIn_12 rfl ?_
      refine z_iload_n (pc := 13) dX9_pairsIn_13 rfl ?_
      refine z_ishr (pc := 14) dX9_pairsIn_14 ?_
      refine z_iconst (pc := 15) (1 : Int32) dX9_pairsIn_15 (by decide) ?_
      refine z_iand (pc := 16) dX9_pairsIn_16 ?_
      refine z_if_ne (pc := 17) (tgt := 26) dX9_pairsIn_17 (by decide) (fun c32 => ?_) (fun c33 => ?_)
      · exact hK26 x3
      · refine z_iinc (pc := 20) (v := x3 + (1 : Int32)) (L' := [.ref 0, .int x1, .int x2, .int (x3 + (1 : Int32)), .null, .null, .null]) dX9_pairsIn_20 (by decide) rfl (congrArg _ (by decide)) rfl ?_
        refine z_goto (pc := 23) (tgt := 2) dX9_pairsIn_23 (by decide) ?_
        exact ih (x3 + (1 : Int32))
set_option maxHeartbeats 1000000 in
theorem t9_pairsInB {d dd : Nat} (hd1 : dd + 1 ≤ d) (hd2 : 3 ≤ d) (F : Int32 → Int32 → zMem → zRes) (hF : ∀ (x1 : Int32) (x2 : Int32) (μ : zMem), zMR yX9_pairsIn cX9_pairsIn 7 (some .int) dd [.ref 0, .int x1, .int x2] 1134 SM μ (F x1 x2 μ)) (x1 : Int32) (x2 : Int32) (μ : zMem) : zMR yX9_pairsIn cX9_pairsIn 7 (some .int) d [.ref 0, .int x1, .int x2] 1134 SM μ (f9_pairsInB F x1 x2 μ) := by
  refine zMR_of (by decide +kernel) rfl (Nat.le_of_ble_eq_true rfl) (L := [.ref 0, .int x1, .int x2, .null, .null, .null, .null]) rfl ?_
  unfold f9_pairsInB
  refine z_iconst (pc := 0) (0 : Int32) dX9_pairsIn_0 (by decide) ?_
  refine z_istore_n (pc := 1) (L' := [.ref 0, .int x1, .int x2, .int (0 : Int32), .null, .null, .null]) dX9_pairsIn_1 (by decide) rfl ?_
  refine z_let (fun (j : Int32 → zRes) => ∀ (x3_1 : Int32), zR yX9_pairsIn cX9_pairsIn 7 (some .int) d 26 [.ref 0, .int x1, .int x2, .int x3_1, .null, .null, .null] [] 1134 SM μ (j x3_1)) ?_ (fun j28 hj28 => ?_)
  · intro x3_1
    refine z_iload_n (pc := 26) dX9_pairsIn_26 rfl ?_
    refine z_aload_n (pc := 27) dX9_pairsIn_27 rfl ?_
    refine z_getr (pc := 28) fdX9_23 (by decide) sm_0 rfl rfl dX9_pairsIn_28 ?_
    refine z_iconst (pc := 31) (1 : Int32) dX9_pairsIn_31 (by decide) ?_
    refine z_iald (pc := 32) (by decide) sm_4 rfl dX9_pairsIn_32 (fun h2 => ?_)
    refine z_icmp_ne (pc := 33) (tgt := 38) dX9_pairsIn_33 (by decide) (fun c3 => ?_) (fun c4 => ?_)
    · refine z_iload_n (pc := 38) dX9_pairsIn_38 rfl ?_
      refine z_iconst (pc := 39) (1 : Int32) dX9_pairsIn_39 (by decide) ?_
      refine z_iload_n (pc := 40) dX9_pairsIn_40 rfl ?_
      refine z_ishl (pc := 41) dX9_pairsIn_41 ?_
      refine z_iconst (pc := 42) (-1 : Int32) dX9_pairsIn_42 (by decide) ?_
      refine z_ixor (pc := 43) dX9_pairsIn_43 ?_
      refine z_iand (pc := 44) dX9_pairsIn_44 ?_
      refine z_val (fun v5 => ?_)
      refine z_istore (pc := 45) (L' := [.ref 0, .int x1, .int x2, .int x3_1, .int v5, .null, .null]) dX9_pairsIn_45 (by decide) rfl ?_
      refine z_aload_n (pc := 47) dX9_pairsIn_47 rfl ?_
      refine z_iload (pc := 48) dX9_pairsIn_48 rfl ?_
      refine z_iload_n (pc := 50) dX9_pairsIn_50 rfl ?_
      refine z_callV (As := [.int v5, .int x2]) (pc := 51) (ret' := some .int) kvX9_358 (hF _ _ _) hd1 (by decide) sm_0  rfl rfl (Nat.le_of_ble_eq_true rfl) dX9_pairsIn_51 (fun v6 μ7 => ?_)
      refine z_istore (pc := 54) (L' := [.ref 0, .int x1, .int x2, .int x3_1, .int v5, .int v6, .null]) dX9_pairsIn_54 (by decide) rfl ?_
      refine z_iload_n (pc := 56) dX9_pairsIn_56 rfl ?_
      refine z_iconst (pc := 57) (1 : Int32) dX9_pairsIn_57 (by decide) ?_
      refine z_iadd (pc := 58) dX9_pairsIn_58 ?_
      refine z_val (fun v8 => ?_)
      refine z_istore (pc := 59) (L' := [.ref 0, .int x1, .int x2, .int x3_1, .int v5, .int v6, .int v8]) dX9_pairsIn_59 (by decide) rfl ?_
      refine z_loc (L' := [.ref 0, .null, .int x2, .int x3_1, .int v5, .int v6, .int v8]) ⟨Or.inr rfl, ⟨Or.inl rfl, ⟨Or.inr rfl, ⟨Or.inr rfl, ⟨Or.inr rfl, ⟨Or.inr rfl, ⟨Or.inr rfl, trivial⟩⟩⟩⟩⟩⟩⟩ ?_
      refine t9_pairsIn_L61 hd1 hd2 _ hF _ _ _ _ (fun x5_26 μ27 => ?_) zF _ _ _
      · refine z_iload (pc := 129) dX9_pairsIn_129 rfl ?_
        exact z_iret (pc := 131) rfl dX9_pairsIn_131
    · refine z_iconst (pc := 36) (0 : Int32) dX9_pairsIn_36 (by decide) ?_
      exact z_iret (pc := 37) rfl dX9_pairsIn_37
  · refine t9_pairsIn_L2 hd1 hd2 _ hF _ _ _ _ (fun x3_34 => ?_) zF _
    · exact hj28 x3_34
theorem t9_pairsIn : ∀ (n : Nat) (x1 : Int32) (x2 : Int32) (μ : zMem), zMR yX9_pairsIn cX9_pairsIn 7 (some .int) (n + 3) [.ref 0, .int x1, .int x2] 1134 SM μ (f9_pairsIn n x1 x2 μ) := by
  intro n
  induction n with
  | zero => intro x1 x2 μ q hq; cases hq
  | succ n ih =>
    intro x1 x2 μ
    exact t9_pairsInB (by omega) (by omega) _ ih x1 x2 μ
def f9_once (x1 : Int32) (μ : zMem) : zRes := zlet (zset μ 0 0 (0 : Int32)) (fun (μ1 : zMem) => bnd0 (f9_isAsked x1 μ1) (fun (v2 : Int32) (μ3 : zMem) => zlet (fun (s4 : Int32) => bnd0 (f9_bad s4 (1 : Int32) μ3) (fun (v5 : Int32) (μ6 : zMem) => if v5 = 0 then zin (1 : Int32) 6 (bnd0 (f9_pairsIn 10 ((zshl (1 : Int32) (μ6 4 (1 : Int32).toNatClampNeg)) - (1 : Int32)) x1 μ6) (fun (v10 : Int32) (μ11 : zMem) => some (0, v10, μ11))) else some (0, (0 : Int32), μ6))) (fun j12 => if v2 = 0 then j12 (1 : Int32) else j12 (0 : Int32))))
set_option maxHeartbeats 1000000 in
theorem t9_once (x1 : Int32) (μ : zMem) : zMR yX9_once cX9_once 2 (some .int) 14 [.ref 0, .int x1] 1134 SM μ (f9_once x1 μ) := by
  refine zMR_of (by decide +kernel) rfl (Nat.le_of_ble_eq_true rfl) (L := [.ref 0, .int x1]) rfl ?_
  unfold f9_once
  refine z_aload_n (pc := 0) dX9_once_0 rfl ?_
  refine z_iconst (pc := 1) (0 : Int32) dX9_once_1 (by decide) ?_
  refine z_puti (pc := 2) fdX9_106 (by decide) sm_0 rfl rfl dX9_once_2 ?_
  refine z_mem (fun μ1 => ?_)
  refine z_aload_n (pc := 5) dX9_once_5 rfl ?_
  refine z_aload_n (pc := 6) dX9_once_6 rfl ?_
  refine z_iload_n (pc := 7) dX9_once_7 rfl ?_
  refine z_callV (As := [.int x1]) (pc := 8) (ret' := some .boolean) kvX9_217 (t9_isAsked _ _) (by decide) (by decide) sm_0  rfl rfl (Nat.le_of_ble_eq_true rfl) dX9_once_8 (fun v2 μ3 => ?_)
  refine z_let (fun (j : Int32 → zRes) => ∀ (s4 : Int32), zR yX9_once cX9_once 2 (some .int) 14 19 [.ref 0, .int x1] [.int s4, .ref 0] 1134 SM μ3 (j s4)) ?_ (fun j12 hj12 => ?_)
  · intro s4
    refine z_iconst (pc := 19) (1 : Int32) dX9_once_19 (by decide) ?_
    refine z_callV (As := [.int s4, .int (1 : Int32)]) (pc := 20) (ret' := some .boolean) kvX9_188 (t9_bad _ _ _) (by decide) (by decide) sm_0  rfl rfl (Nat.le_of_ble_eq_true rfl) dX9_once_20 (fun v5 μ6 => ?_)
    refine z_if_eq (pc := 23) (tgt := 28) dX9_once_23 (by decide) (fun c7 => ?_) (fun c8 => ?_)
    · refine z_aload_n (pc := 28) dX9_once_28 rfl ?_
      refine z_iconst (pc := 29) (1 : Int32) dX9_once_29 (by decide) ?_
      refine z_aload_n (pc := 30) dX9_once_30 rfl ?_
      refine z_getr (pc := 31) fdX9_23 (by decide) sm_0 rfl rfl dX9_once_31 ?_
      refine z_iconst (pc := 34) (1 : Int32) dX9_once_34 (by decide) ?_
      refine z_iald (pc := 35) (by decide) sm_4 rfl dX9_once_35 (fun h9 => ?_)
      refine z_ishl (pc := 36) dX9_once_36 ?_
      refine z_iconst (pc := 37) (1 : Int32) dX9_once_37 (by decide) ?_
      refine z_isub (pc := 38) dX9_once_38 ?_
      refine z_iload_n (pc := 39) dX9_once_39 rfl ?_
      refine z_callV (As := [.int ((zshl (1 : Int32) (μ6 4 (1 : Int32).toNatClampNeg)) - (1 : Int32)), .int x1]) (pc := 40) (ret' := some .int) kvX9_358 (t9_pairsIn 10 _ _ _) (by decide) (by decide) sm_0  rfl rfl (Nat.le_of_ble_eq_true rfl) dX9_once_40 (fun v10 μ11 => ?_)
      exact z_iret (pc := 43) rfl dX9_once_43
    · refine z_iconst (pc := 26) (0 : Int32) dX9_once_26 (by decide) ?_
      exact z_iret (pc := 27) rfl dX9_once_27
  · refine z_if_ne (pc := 11) (tgt := 18) dX9_once_11 (by decide) (fun c13 => ?_) (fun c14 => ?_)
    · refine z_iconst (pc := 18) (0 : Int32) dX9_once_18 (by decide) ?_
      exact hj12 (0 : Int32)
    · refine z_iconst (pc := 14) (1 : Int32) dX9_once_14 (by decide) ?_
      refine z_goto (pc := 15) (tgt := 19) dX9_once_15 (by decide) ?_
      exact hj12 (1 : Int32)
def f9_calm_L75 (x1 : Int32) (x4 : Int32) (x6 : Int32) (K138 : Int32 → zMem → zRes) : Nat → Int32 → Int32 → zMem → zRes
  | 0, _, _, _ => none
  | n + 1, x5, x7, μ => if x6 ≤ x7 then K138 x5 μ else zlet (fun (s18 : Int32) (μ19 : zMem) => f9_calm_L75 x1 x4 x6 K138 n s18 (x7 + (1 : Int32)) μ19) (fun j20 => zlet (fun (μ21 : zMem) => j20 (0 : Int32) μ21) (fun j22 => if x5 = 0 then j22 μ else zlet (fun (μ25 : zMem) => j20 (1 : Int32) μ25) (fun j26 => if ((zshr x4 x6) &&& (1 : Int32)) = 0 then j26 μ else if ((zshr x4 x7) &&& (1 : Int32)) = 0 then j26 μ else zin (3 : Int32) 6 (bnd0 (f9_isTwo x6 x7 x1 (μ 4 (3 : Int32).toNatClampNeg) μ) (fun (v32 : Int32) (μ33 : zMem) => if v32 = 0 then j26 μ33 else j22 μ33)))))
def f9_calm_L61 (x1 : Int32) (x4 : Int32) (K144 : Int32 → zMem → zRes) : Nat → Int32 → Int32 → zMem → zRes
  | 0, _, _, _ => none
  | n + 1, x5, x6, μ => zin (1 : Int32) 6 (if (μ 4 (1 : Int32).toNatClampNeg) ≤ x6 then K144 x5 μ else f9_calm_L75 x1 x4 x6 (fun (x5_36 : Int32) (μ37 : zMem) => f9_calm_L61 x1 x4 K144 n x5_36 (x6 + (1 : Int32)) μ37) zF x5 (0 : Int32) μ)
def f9_calm_L42 (x1 : Int32) (K170 : Int32 → zMem → zRes) : Nat → Int32 → Int32 → zMem → zRes
  | 0, _, _, _ => none
  | n + 1, x3, x4, μ => zin (1 : Int32) 6 (if (zshl (1 : Int32) (μ 4 (1 : Int32).toNatClampNeg)) ≤ x4 then K170 x3 μ else f9_calm_L61 x1 x4 (fun (x5_38 : Int32) (μ39 : zMem) => zlet (fun (x3_40 : Int32) (μ41 : zMem) => f9_calm_L42 x1 K170 n x3_40 (x4 + (1 : Int32)) μ41) (fun j42 => if x5_38 = 0 then j42 x3 μ39 else bnd0 (f9_ones x4 μ39) (fun (v45 : Int32) (μ46 : zMem) => bnd0 (f9_ones x3 μ46) (fun (v47 : Int32) (μ48 : zMem) => if v45 ≤ v47 then j42 x3 μ48 else j42 x4 μ48)))) zF (1 : Int32) (0 : Int32) μ)
def f9_calm (x1 : Int32) (x2 : Int32) (μ : zMem) : zRes := zlet (zset μ 0 0 (0 : Int32)) (fun (μ1 : zMem) => bnd0 (f9_isAsked x1 μ1) (fun (v2 : Int32) (μ3 : zMem) => zlet (fun (s4 : Int32) (μ5 : zMem) => bnd0 (f9_bad s4 (1 : Int32) μ5) (fun (v6 : Int32) (μ7 : zMem) => if v6 = 0 then f9_calm_L42 x1 (fun (x3_51 : Int32) (μ52 : zMem) => zlet (fun (s53 : Int32) (μ54 : zMem) => some (0, s53, μ54)) (fun j55 => if x2 = 0 then bnd0 (f9_ones x3_51 μ52) (fun (v58 : Int32) (μ59 : zMem) => j55 v58 μ59) else j55 x3_51 μ52)) zF (0 : Int32) (1 : Int32) μ7 else some (0, (0 : Int32), μ7))) (fun j60 => zlet (fun (μ61 : zMem) => j60 (1 : Int32) μ61) (fun j62 => if v2 = 0 then j62 μ3 else bnd0 (f9_in x2 (0 : Int32) (1 : Int32) μ3) (fun (v65 : Int32) (μ66 : zMem) => if v65 = 0 then j62 μ66 else j60 (0 : Int32) μ66)))))
set_option maxHeartbeats 1000000 in
theorem t9_calm_L75 (x1 : Int32) (x2 : Int32) (x3 : Int32) (x4 : Int32) (x6 : Int32) (K138 : Int32 → zMem → zRes) (hK138 : ∀ (x5 : Int32) (μ : zMem), zR yX9_calm cX9_calm 8 (some .int) 3 138 [.ref 0, .int x1, .int x2, .int x3, .int x4, .int x5, .int x6, .null] [] 1134 SM μ (K138 x5 μ)) : ∀ (n : Nat) (x5 : Int32) (x7 : Int32) (μ : zMem), zR yX9_calm cX9_calm 8 (some .int) 3 75 [.ref 0, .int x1, .int x2, .int x3, .int x4, .int x5, .int x6, .int x7] [] 1134 SM μ (f9_calm_L75 x1 x4 x6 K138 n x5 x7 μ) := by
  intro n
  induction n with
  | zero => intro x5 x7 μ; intro q hq; cases hq
  | succ n ih =>
    intro x5 x7 μ
    unfold f9_calm_L75
    refine z_iload (pc := 75) dX9_calm_75 rfl ?_
    refine z_iload (pc := 77) dX9_calm_77 rfl ?_
    refine z_icmp_ge (pc := 79) (tgt := 138) dX9_calm_79 (by decide) (fun c16 => ?_) (fun c17 => ?_)
    · refine z_loc (L' := [.ref 0, .int x1, .int x2, .int x3, .int x4, .int x5, .int x6, .null]) ⟨Or.inr rfl, ⟨Or.inr rfl, ⟨Or.inr rfl, ⟨Or.inr rfl, ⟨Or.inr rfl, ⟨Or.inr rfl, ⟨Or.inr rfl, ⟨Or.inl rfl, trivial⟩⟩⟩⟩⟩⟩⟩⟩ ?_
      exact hK138 x5 μ
    · refine z_iload (pc := 82) dX9_calm_82 rfl ?_
      refine z_let (fun (j : Int32 → zMem → zRes) => ∀ (s18 : Int32) (μ19 : zMem), zR yX9_calm cX9_calm 8 (some .int) 3 130 [.ref 0, .int x1, .int x2, .int x3, .int x4, .null, .int x6, .int x7] [.int s18] 1134 SM μ19 (j s18 μ19)) ?_ (fun j20 hj20 => ?_)
      · intro s18 μ19
        refine z_istore (pc := 130) (L' := [.ref 0, .int x1, .int x2, .int x3, .int x4, .int s18, .int x6, .int x7]) dX9_calm_130 (by decide) rfl ?_
        refine z_iinc (pc := 132) (v := x7 + (1 : Int32)) (L' := [.ref 0, .int x1, .int x2, .int x3, .int x4, .int s18, .int x6, .int (x7 + (1 : Int32))]) dX9_calm_132 (by decide) rfl (congrArg _ (by decide)) rfl ?_
        refine z_goto (pc := 135) (tgt := 75) dX9_calm_135 (by decide) ?_
        exact ih s18 (x7 + (1 : Int32)) μ19
      · refine z_let (fun (j : zMem → zRes) => ∀ (μ21 : zMem), zR yX9_calm cX9_calm 8 (some .int) 3 129 [.ref 0, .int x1, .int x2, .int x3, .int x4, .null, .int x6, .int x7] [] 1134 SM μ21 (j μ21)) ?_ (fun j22 hj22 => ?_)
        · intro μ21
          refine z_iconst (pc := 129) (0 : Int32) dX9_calm_129 (by decide) ?_
          exact hj20 (0 : Int32) μ21
        · refine z_if_eq (pc := 84) (tgt := 129) dX9_calm_84 (by decide) (fun c23 => ?_) (fun c24 => ?_)
          · refine z_loc (L' := [.ref 0, .int x1, .int x2, .int x3, .int x4, .null, .int x6, .int x7]) ⟨Or.inr rfl, ⟨Or.inr rfl, ⟨Or.inr rfl, ⟨Or.inr rfl, ⟨Or.inr rfl, ⟨Or.inl rfl, ⟨Or.inr rfl, ⟨Or.inr rfl, trivial⟩⟩⟩⟩⟩⟩⟩⟩ ?_
            exact hj22 μ
          · refine z_iload (pc := 87) dX9_calm_87 rfl ?_
            refine z_iload (pc := 89) dX9_calm_89 rfl ?_
            refine z_ishr (pc := 91) dX9_calm_91 ?_
            refine z_iconst (pc := 92) (1 : Int32) dX9_calm_92 (by decide) ?_
            refine z_iand (pc := 93) dX9_calm_93 ?_
            refine z_let (fun (j : zMem → zRes) => ∀ (μ25 : zMem), zR yX9_calm cX9_calm 8 (some .int) 3 125 [.ref 0, .int x1, .int x2, .int x3, .int x4, .null, .int x6, .int x7] [] 1134 SM μ25 (j μ25)) ?_ (fun j26 hj26 => ?_)
            · intro μ25
              refine z_iconst (pc := 125) (1 : Int32) dX9_calm_125 (by decide) ?_
              refine z_goto (pc := 126) (tgt := 130) dX9_calm_126 (by decide) ?_
              exact hj20 (1 : Int32) μ25
            · refine z_if_eq (pc := 94) (tgt := 125) dX9_calm_94 (by decide) (fun c27 => ?_) (fun c28 => ?_)
              · refine z_loc (L' := [.ref 0, .int x1, .int x2, .int x3, .int x4, .null, .int x6, .int x7]) ⟨Or.inr rfl, ⟨Or.inr rfl, ⟨Or.inr rfl, ⟨Or.inr rfl, ⟨Or.inr rfl, ⟨Or.inl rfl, ⟨Or.inr rfl, ⟨Or.inr rfl, trivial⟩⟩⟩⟩⟩⟩⟩⟩ ?_
                exact hj26 μ
              · refine z_iload (pc := 97) dX9_calm_97 rfl ?_
                refine z_iload (pc := 99) dX9_calm_99 rfl ?_
                refine z_ishr (pc := 101) dX9_calm_101 ?_
                refine z_iconst (pc := 102) (1 : Int32) dX9_calm_102 (by decide) ?_
                refine z_iand (pc := 103) dX9_calm_103 ?_
                refine z_if_eq (pc := 104) (tgt := 125) dX9_calm_104 (by decide) (fun c29 => ?_) (fun c30 => ?_)
                · refine z_loc (L' := [.ref 0, .int x1, .int x2, .int x3, .int x4, .null, .int x6, .int x7]) ⟨Or.inr rfl, ⟨Or.inr rfl, ⟨Or.inr rfl, ⟨Or.inr rfl, ⟨Or.inr rfl, ⟨Or.inl rfl, ⟨Or.inr rfl, ⟨Or.inr rfl, trivial⟩⟩⟩⟩⟩⟩⟩⟩ ?_
                  exact hj26 μ
                · refine z_aload_n (pc := 107) dX9_calm_107 rfl ?_
                  refine z_iload (pc := 108) dX9_calm_108 rfl ?_
                  refine z_iload (pc := 110) dX9_calm_110 rfl ?_
                  refine z_iload_n (pc := 112) dX9_calm_112 rfl ?_
                  refine z_aload_n (pc := 113) dX9_calm_113 rfl ?_
                  refine z_getr (pc := 114) fdX9_23 (by decide) sm_0 rfl rfl dX9_calm_114 ?_
                  refine z_iconst (pc := 117) (3 : Int32) dX9_calm_117 (by decide) ?_
                  refine z_iald (pc := 118) (by decide) sm_4 rfl dX9_calm_118 (fun h31 => ?_)
                  refine z_callV (As := [.int x6, .int x7, .int x1, .int (μ 4 (3 : Int32).toNatClampNeg)]) (pc := 119) (ret' := some .boolean) kvX9_347 (t9_isTwo _ _ _ _ _) (by decide) (by decide) sm_0  rfl rfl (Nat.le_of_ble_eq_true rfl) dX9_calm_119 (fun v32 μ33 => ?_)
                  refine z_if_ne (pc := 122) (tgt := 129) dX9_calm_122 (by decide) (fun c34 => ?_) (fun c35 => ?_)
                  · refine z_loc (L' := [.ref 0, .int x1, .int x2, .int x3, .int x4, .null, .int x6, .int x7]) ⟨Or.inr rfl, ⟨Or.inr rfl, ⟨Or.inr rfl, ⟨Or.inr rfl, ⟨Or.inr rfl, ⟨Or.inl rfl, ⟨Or.inr rfl, ⟨Or.inr rfl, trivial⟩⟩⟩⟩⟩⟩⟩⟩ ?_
                    exact hj22 μ33
                  · refine z_loc (L' := [.ref 0, .int x1, .int x2, .int x3, .int x4, .null, .int x6, .int x7]) ⟨Or.inr rfl, ⟨Or.inr rfl, ⟨Or.inr rfl, ⟨Or.inr rfl, ⟨Or.inr rfl, ⟨Or.inl rfl, ⟨Or.inr rfl, ⟨Or.inr rfl, trivial⟩⟩⟩⟩⟩⟩⟩⟩ ?_
                    exact hj26 μ33
set_option maxHeartbeats 1000000 in
theorem t9_calm_L61 (x1 : Int32) (x2 : Int32) (x3 : Int32) (x4 : Int32) (K144 : Int32 → zMem → zRes) (hK144 : ∀ (x5 : Int32) (μ : zMem), zR yX9_calm cX9_calm 8 (some .int) 3 144 [.ref 0, .int x1, .int x2, .int x3, .int x4, .int x5, .null, .null] [] 1134 SM μ (K144 x5 μ)) : ∀ (n : Nat) (x5 : Int32) (x6 : Int32) (μ : zMem), zR yX9_calm cX9_calm 8 (some .int) 3 61 [.ref 0, .int x1, .int x2, .int x3, .int x4, .int x5, .int x6, .null] [] 1134 SM μ (f9_calm_L61 x1 x4 K144 n x5 x6 μ) := by
  intro n
  induction n with
  | zero => intro x5 x6 μ; intro q hq; cases hq
  | succ n ih =>
    intro x5 x6 μ
    unfold f9_calm_L61
    refine z_iload (pc := 61) dX9_calm_61 rfl ?_
    refine z_aload_n (pc := 63) dX9_calm_63 rfl ?_
    refine z_getr (pc := 64) fdX9_23 (by decide) sm_0 rfl rfl dX9_calm_64 ?_
    refine z_iconst (pc := 67) (1 : Int32) dX9_calm_67 (by decide) ?_
    refine z_iald (pc := 68) (by decide) sm_4 rfl dX9_calm_68 (fun h13 => ?_)
    refine z_icmp_ge (pc := 69) (tgt := 144) dX9_calm_69 (by decide) (fun c14 => ?_) (fun c15 => ?_)
    · refine z_loc (L' := [.ref 0, .int x1, .int x2, .int x3, .int x4, .int x5, .null, .null]) ⟨Or.inr rfl, ⟨Or.inr rfl, ⟨Or.inr rfl, ⟨Or.inr rfl, ⟨Or.inr rfl, ⟨Or.inr rfl, ⟨Or.inl rfl, ⟨Or.inl rfl, trivial⟩⟩⟩⟩⟩⟩⟩⟩ ?_
      exact hK144 x5 μ
    · refine z_iconst (pc := 72) (0 : Int32) dX9_calm_72 (by decide) ?_
      refine z_istore (pc := 73) (L' := [.ref 0, .int x1, .int x2, .int x3, .int x4, .int x5, .int x6, .int (0 : Int32)]) dX9_calm_73 (by decide) rfl ?_
      refine t9_calm_L75 _ _ _ _ _ _ (fun x5_36 μ37 => ?_) zF _ _ _
      · refine z_iinc (pc := 138) (v := x6 + (1 : Int32)) (L' := [.ref 0, .int x1, .int x2, .int x3, .int x4, .int x5_36, .int (x6 + (1 : Int32)), .null]) dX9_calm_138 (by decide) rfl (congrArg _ (by decide)) rfl ?_
        refine z_goto (pc := 141) (tgt := 61) dX9_calm_141 (by decide) ?_
        exact ih x5_36 (x6 + (1 : Int32)) μ37
set_option maxHeartbeats 1000000 in
theorem t9_calm_L42 (x1 : Int32) (x2 : Int32) (K170 : Int32 → zMem → zRes) (hK170 : ∀ (x3 : Int32) (μ : zMem), zR yX9_calm cX9_calm 8 (some .int) 3 170 [.null, .null, .int x2, .int x3, .null, .null, .null, .null] [] 1134 SM μ (K170 x3 μ)) : ∀ (n : Nat) (x3 : Int32) (x4 : Int32) (μ : zMem), zR yX9_calm cX9_calm 8 (some .int) 3 42 [.ref 0, .int x1, .int x2, .int x3, .int x4, .null, .null, .null] [] 1134 SM μ (f9_calm_L42 x1 K170 n x3 x4 μ) := by
  intro n
  induction n with
  | zero => intro x3 x4 μ; intro q hq; cases hq
  | succ n ih =>
    intro x3 x4 μ
    unfold f9_calm_L42
    refine z_iload (pc := 42) dX9_calm_42 rfl ?_
    refine z_iconst (pc := 44) (1 : Int32) dX9_calm_44 (by decide) ?_
    refine z_aload_n (pc := 45) dX9_calm_45 rfl ?_
    refine z_getr (pc := 46) fdX9_23 (by decide) sm_0 rfl rfl dX9_calm_46 ?_
    refine z_iconst (pc := 49) (1 : Int32) dX9_calm_49 (by decide) ?_
    refine z_iald (pc := 50) (by decide) sm_4 rfl dX9_calm_50 (fun h10 => ?_)
    refine z_ishl (pc := 51) dX9_calm_51 ?_
    refine z_icmp_ge (pc := 52) (tgt := 170) dX9_calm_52 (by decide) (fun c11 => ?_) (fun c12 => ?_)
    · refine z_loc (L' := [.null, .null, .int x2, .int x3, .null, .null, .null, .null]) ⟨Or.inl rfl, ⟨Or.inl rfl, ⟨Or.inr rfl, ⟨Or.inr rfl, ⟨Or.inl rfl, ⟨Or.inl rfl, ⟨Or.inl rfl, ⟨Or.inl rfl, trivial⟩⟩⟩⟩⟩⟩⟩⟩ ?_
      exact hK170 x3 μ
    · refine z_iconst (pc := 55) (1 : Int32) dX9_calm_55 (by decide) ?_
      refine z_istore (pc := 56) (L' := [.ref 0, .int x1, .int x2, .int x3, .int x4, .int (1 : Int32), .null, .null]) dX9_calm_56 (by decide) rfl ?_
      refine z_iconst (pc := 58) (0 : Int32) dX9_calm_58 (by decide) ?_
      refine z_istore (pc := 59) (L' := [.ref 0, .int x1, .int x2, .int x3, .int x4, .int (1 : Int32), .int (0 : Int32), .null]) dX9_calm_59 (by decide) rfl ?_
      refine t9_calm_L61 _ _ _ _ _ (fun x5_38 μ39 => ?_) zF _ _ _
      · refine z_iload (pc := 144) dX9_calm_144 rfl ?_
        refine z_let (fun (j : Int32 → zMem → zRes) => ∀ (x3_40 : Int32) (μ41 : zMem), zR yX9_calm cX9_calm 8 (some .int) 3 164 [.ref 0, .int x1, .int x2, .int x3_40, .int x4, .null, .null, .null] [] 1134 SM μ41 (j x3_40 μ41)) ?_ (fun j42 hj42 => ?_)
        · intro x3_40 μ41
          refine z_iinc (pc := 164) (v := x4 + (1 : Int32)) (L' := [.ref 0, .int x1, .int x2, .int x3_40, .int (x4 + (1 : Int32)), .null, .null, .null]) dX9_calm_164 (by decide) rfl (congrArg _ (by decide)) rfl ?_
          refine z_goto (pc := 167) (tgt := 42) dX9_calm_167 (by decide) ?_
          exact ih x3_40 (x4 + (1 : Int32)) μ41
        · refine z_if_eq (pc := 146) (tgt := 164) dX9_calm_146 (by decide) (fun c43 => ?_) (fun c44 => ?_)
          · refine z_loc (L' := [.ref 0, .int x1, .int x2, .int x3, .int x4, .null, .null, .null]) ⟨Or.inr rfl, ⟨Or.inr rfl, ⟨Or.inr rfl, ⟨Or.inr rfl, ⟨Or.inr rfl, ⟨Or.inl rfl, ⟨Or.inl rfl, ⟨Or.inl rfl, trivial⟩⟩⟩⟩⟩⟩⟩⟩ ?_
            exact hj42 x3 μ39
          · refine z_iload (pc := 149) dX9_calm_149 rfl ?_
            refine z_callS (As := [.int x4]) (pc := 151) (ret' := some .int) ksX9_290 (t9_ones _ _) (by decide)  rfl rfl (Nat.le_of_ble_eq_true rfl) dX9_calm_151 (fun v45 μ46 => ?_)
            refine z_iload_n (pc := 154) dX9_calm_154 rfl ?_
            refine z_callS (As := [.int x3]) (pc := 155) (ret' := some .int) ksX9_290 (t9_ones _ _) (by decide)  rfl rfl (Nat.le_of_ble_eq_true rfl) dX9_calm_155 (fun v47 μ48 => ?_)
            refine z_icmp_le (pc := 158) (tgt := 164) dX9_calm_158 (by decide) (fun c49 => ?_) (fun c50 => ?_)
            · refine z_loc (L' := [.ref 0, .int x1, .int x2, .int x3, .int x4, .null, .null, .null]) ⟨Or.inr rfl, ⟨Or.inr rfl, ⟨Or.inr rfl, ⟨Or.inr rfl, ⟨Or.inr rfl, ⟨Or.inl rfl, ⟨Or.inl rfl, ⟨Or.inl rfl, trivial⟩⟩⟩⟩⟩⟩⟩⟩ ?_
              exact hj42 x3 μ48
            · refine z_iload (pc := 161) dX9_calm_161 rfl ?_
              refine z_istore_n (pc := 163) (L' := [.ref 0, .int x1, .int x2, .int x4, .int x4, .int x5_38, .null, .null]) dX9_calm_163 (by decide) rfl ?_
              refine z_loc (L' := [.ref 0, .int x1, .int x2, .int x4, .int x4, .null, .null, .null]) ⟨Or.inr rfl, ⟨Or.inr rfl, ⟨Or.inr rfl, ⟨Or.inr rfl, ⟨Or.inr rfl, ⟨Or.inl rfl, ⟨Or.inl rfl, ⟨Or.inl rfl, trivial⟩⟩⟩⟩⟩⟩⟩⟩ ?_
              exact hj42 x4 μ48
set_option maxHeartbeats 1000000 in
theorem t9_calm (x1 : Int32) (x2 : Int32) (μ : zMem) : zMR yX9_calm cX9_calm 8 (some .int) 3 [.ref 0, .int x1, .int x2] 1134 SM μ (f9_calm x1 x2 μ) := by
  refine zMR_of (by decide +kernel) rfl (Nat.le_of_ble_eq_true rfl) (L := [.ref 0, .int x1, .int x2, .null, .null, .null, .null, .null]) rfl ?_
  unfold f9_calm
  refine z_aload_n (pc := 0) dX9_calm_0 rfl ?_
  refine z_iconst (pc := 1) (0 : Int32) dX9_calm_1 (by decide) ?_
  refine z_puti (pc := 2) fdX9_106 (by decide) sm_0 rfl rfl dX9_calm_2 ?_
  refine z_mem (fun μ1 => ?_)
  refine z_aload_n (pc := 5) dX9_calm_5 rfl ?_
  refine z_aload_n (pc := 6) dX9_calm_6 rfl ?_
  refine z_iload_n (pc := 7) dX9_calm_7 rfl ?_
  refine z_callV (As := [.int x1]) (pc := 8) (ret' := some .boolean) kvX9_217 (t9_isAsked _ _) (by decide) (by decide) sm_0  rfl rfl (Nat.le_of_ble_eq_true rfl) dX9_calm_8 (fun v2 μ3 => ?_)
  refine z_let (fun (j : Int32 → zMem → zRes) => ∀ (s4 : Int32) (μ5 : zMem), zR yX9_calm cX9_calm 8 (some .int) 3 28 [.ref 0, .int x1, .int x2, .null, .null, .null, .null, .null] [.int s4, .ref 0] 1134 SM μ5 (j s4 μ5)) ?_ (fun j60 hj60 => ?_)
  · intro s4 μ5
    refine z_iconst (pc := 28) (1 : Int32) dX9_calm_28 (by decide) ?_
    refine z_callV (As := [.int s4, .int (1 : Int32)]) (pc := 29) (ret' := some .boolean) kvX9_188 (t9_bad _ _ _) (by decide) (by decide) sm_0  rfl rfl (Nat.le_of_ble_eq_true rfl) dX9_calm_29 (fun v6 μ7 => ?_)
    refine z_if_eq (pc := 32) (tgt := 37) dX9_calm_32 (by decide) (fun c8 => ?_) (fun c9 => ?_)
    · refine z_iconst (pc := 37) (0 : Int32) dX9_calm_37 (by decide) ?_
      refine z_istore_n (pc := 38) (L' := [.ref 0, .int x1, .int x2, .int (0 : Int32), .null, .null, .null, .null]) dX9_calm_38 (by decide) rfl ?_
      refine z_iconst (pc := 39) (1 : Int32) dX9_calm_39 (by decide) ?_
      refine z_istore (pc := 40) (L' := [.ref 0, .int x1, .int x2, .int (0 : Int32), .int (1 : Int32), .null, .null, .null]) dX9_calm_40 (by decide) rfl ?_
      refine t9_calm_L42 _ _ _ (fun x3_51 μ52 => ?_) zF _ _ _
      · refine z_iload_n (pc := 170) dX9_calm_170 rfl ?_
        refine z_let (fun (j : Int32 → zMem → zRes) => ∀ (s53 : Int32) (μ54 : zMem), zR yX9_calm cX9_calm 8 (some .int) 3 182 [.null, .null, .null, .null, .null, .null, .null, .null] [.int s53] 1134 SM μ54 (j s53 μ54)) ?_ (fun j55 hj55 => ?_)
        · intro s53 μ54
          exact z_iret (pc := 182) rfl dX9_calm_182
        · refine z_if_ne (pc := 171) (tgt := 181) dX9_calm_171 (by decide) (fun c56 => ?_) (fun c57 => ?_)
          · refine z_iload_n (pc := 181) dX9_calm_181 rfl ?_
            refine z_loc (L' := [.null, .null, .null, .null, .null, .null, .null, .null]) ⟨Or.inl rfl, ⟨Or.inl rfl, ⟨Or.inl rfl, ⟨Or.inl rfl, ⟨Or.inl rfl, ⟨Or.inl rfl, ⟨Or.inl rfl, ⟨Or.inl rfl, trivial⟩⟩⟩⟩⟩⟩⟩⟩ ?_
            exact hj55 x3_51 μ52
          · refine z_iload_n (pc := 174) dX9_calm_174 rfl ?_
            refine z_callS (As := [.int x3_51]) (pc := 175) (ret' := some .int) ksX9_290 (t9_ones _ _) (by decide)  rfl rfl (Nat.le_of_ble_eq_true rfl) dX9_calm_175 (fun v58 μ59 => ?_)
            refine z_goto (pc := 178) (tgt := 182) dX9_calm_178 (by decide) ?_
            refine z_loc (L' := [.null, .null, .null, .null, .null, .null, .null, .null]) ⟨Or.inl rfl, ⟨Or.inl rfl, ⟨Or.inl rfl, ⟨Or.inl rfl, ⟨Or.inl rfl, ⟨Or.inl rfl, ⟨Or.inl rfl, ⟨Or.inl rfl, trivial⟩⟩⟩⟩⟩⟩⟩⟩ ?_
            exact hj55 v58 μ59
    · refine z_iconst (pc := 35) (0 : Int32) dX9_calm_35 (by decide) ?_
      exact z_iret (pc := 36) rfl dX9_calm_36
  · refine z_let (fun (j : zMem → zRes) => ∀ (μ61 : zMem), zR yX9_calm cX9_calm 8 (some .int) 3 23 [.ref 0, .int x1, .int x2, .null, .null, .null, .null, .null] [.ref 0] 1134 SM μ61 (j μ61)) ?_ (fun j62 hj62 => ?_)
    · intro μ61
      refine z_iconst (pc := 23) (1 : Int32) dX9_calm_23 (by decide) ?_
      refine z_goto (pc := 24) (tgt := 28) dX9_calm_24 (by decide) ?_
      exact hj60 (1 : Int32) μ61
    · refine z_if_eq (pc := 11) (tgt := 23) dX9_calm_11 (by decide) (fun c63 => ?_) (fun c64 => ?_)
      · exact hj62 μ3
      · refine z_iload_n (pc := 14) dX9_calm_14 rfl ?_
        refine z_iconst (pc := 15) (0 : Int32) dX9_calm_15 (by decide) ?_
        refine z_iconst (pc := 16) (1 : Int32) dX9_calm_16 (by decide) ?_
        refine z_callS (As := [.int x2, .int (0 : Int32), .int (1 : Int32)]) (pc := 17) (ret' := some .boolean) ksX9_140 (t9_in _ _ _ _) (by decide)  rfl rfl (Nat.le_of_ble_eq_true rfl) dX9_calm_17 (fun v65 μ66 => ?_)
        refine z_if_ne (pc := 20) (tgt := 27) dX9_calm_20 (by decide) (fun c67 => ?_) (fun c68 => ?_)
        · refine z_iconst (pc := 27) (0 : Int32) dX9_calm_27 (by decide) ?_
          exact hj60 (0 : Int32) μ66
        · exact hj62 μ66
def f9_familyOf_L16 (x3 : Int32) (μ : zMem) (K57 : Int32 → zRes) : Nat → Int32 → Int32 → zRes
  | 0, _, _ => none
  | n + 1, x2, x4 => zin (1 : Int32) 6 (if (μ 4 (1 : Int32).toNatClampNeg) ≤ x4 then K57 x2 else zlet (fun (s7 : Int32) => zlet (x2 ||| s7) (fun (v8 : Int32) => f9_familyOf_L16 x3 μ K57 n v8 (x4 + (1 : Int32)))) (fun j9 => if ((zshr x3 x4) &&& (1 : Int32)) = (1 : Int32) then zin x4 9 (j9 (μ 49 x4.toNatClampNeg)) else j9 (0 : Int32)))
def f9_familyOf_L6 (μ : zMem) (K60 : Int32 → zRes) : Nat → Int32 → Int32 → zRes
  | 0, _, _ => none
  | n + 1, x2, x3 => if x2 = x3 then K60 x2 else f9_familyOf_L16 x2 μ (fun (x2_13 : Int32) => f9_familyOf_L6 μ K60 n x2_13 x2) zF x2 (0 : Int32)
def f9_familyOf (x1 : Int32) (μ : zMem) : zRes := zlet (zshl (1 : Int32) x1) (fun (v1 : Int32) => f9_familyOf_L6 μ (fun (x2_14 : Int32) => some (0, x2_14, μ)) zF v1 (0 : Int32))
set_option maxHeartbeats 1000000 in
theorem t9_familyOf_L16 (x3 : Int32) (μ : zMem) (K57 : Int32 → zRes) (hK57 : ∀ (x2 : Int32), zR yX9_familyOf cX9_familyOf 5 (some .int) 1 57 [.ref 0, .null, .int x2, .int x3, .null] [] 1134 SM μ (K57 x2)) : ∀ (n : Nat) (x2 : Int32) (x4 : Int32), zR yX9_familyOf cX9_familyOf 5 (some .int) 1 16 [.ref 0, .null, .int x2, .int x3, .int x4] [] 1134 SM μ (f9_familyOf_L16 x3 μ K57 n x2 x4) := by
  intro n
  induction n with
  | zero => intro x2 x4; intro q hq; cases hq
  | succ n ih =>
    intro x2 x4
    unfold f9_familyOf_L16
    refine z_iload (pc := 16) dX9_familyOf_16 rfl ?_
    refine z_aload_n (pc := 18) dX9_familyOf_18 rfl ?_
    refine z_getr (pc := 19) fdX9_23 (by decide) sm_0 rfl rfl dX9_familyOf_19 ?_
    refine z_iconst (pc := 22) (1 : Int32) dX9_familyOf_22 (by decide) ?_
    refine z_iald (pc := 23) (by decide) sm_4 rfl dX9_familyOf_23 (fun h4 => ?_)
    refine z_icmp_ge (pc := 24) (tgt := 57) dX9_familyOf_24 (by decide) (fun c5 => ?_) (fun c6 => ?_)
    · refine z_loc (L' := [.ref 0, .null, .int x2, .int x3, .null]) ⟨Or.inr rfl, ⟨Or.inl rfl, ⟨Or.inr rfl, ⟨Or.inr rfl, ⟨Or.inl rfl, trivial⟩⟩⟩⟩⟩ ?_
      exact hK57 x2
    · refine z_iload_n (pc := 27) dX9_familyOf_27 rfl ?_
      refine z_iload_n (pc := 28) dX9_familyOf_28 rfl ?_
      refine z_iload (pc := 29) dX9_familyOf_29 rfl ?_
      refine z_ishr (pc := 31) dX9_familyOf_31 ?_
      refine z_iconst (pc := 32) (1 : Int32) dX9_familyOf_32 (by decide) ?_
      refine z_iand (pc := 33) dX9_familyOf_33 ?_
      refine z_iconst (pc := 34) (1 : Int32) dX9_familyOf_34 (by decide) ?_
      refine z_let (fun (j : Int32 → zRes) => ∀ (s7 : Int32), zR yX9_familyOf cX9_familyOf 5 (some .int) 1 49 [.ref 0, .null, .null, .int x3, .int x4] [.int s7, .int x2] 1134 SM μ (j s7)) ?_ (fun j9 hj9 => ?_)
      · intro s7
        refine z_ior (pc := 49) dX9_familyOf_49 ?_
        refine z_val (fun v8 => ?_)
        refine z_istore_n (pc := 50) (L' := [.ref 0, .null, .int v8, .int x3, .int x4]) dX9_familyOf_50 (by decide) rfl ?_
        refine z_iinc (pc := 51) (v := x4 + (1 : Int32)) (L' := [.ref 0, .null, .int v8, .int x3, .int (x4 + (1 : Int32))]) dX9_familyOf_51 (by decide) rfl (congrArg _ (by decide)) rfl ?_
        refine z_goto (pc := 54) (tgt := 16) dX9_familyOf_54 (by decide) ?_
        exact ih v8 (x4 + (1 : Int32))
      · refine z_icmp_ne (pc := 35) (tgt := 48) dX9_familyOf_35 (by decide) (fun c10 => ?_) (fun c11 => ?_)
        · refine z_iconst (pc := 48) (0 : Int32) dX9_familyOf_48 (by decide) ?_
          refine z_loc (L' := [.ref 0, .null, .null, .int x3, .int x4]) ⟨Or.inr rfl, ⟨Or.inl rfl, ⟨Or.inl rfl, ⟨Or.inr rfl, ⟨Or.inr rfl, trivial⟩⟩⟩⟩⟩ ?_
          exact hj9 (0 : Int32)
        · refine z_aload_n (pc := 38) dX9_familyOf_38 rfl ?_
          refine z_getr (pc := 39) fdX9_49 (by decide) sm_0 rfl rfl dX9_familyOf_39 ?_
          refine z_iload (pc := 42) dX9_familyOf_42 rfl ?_
          refine z_iald (pc := 44) (by decide) sm_49 rfl dX9_familyOf_44 (fun h12 => ?_)
          refine z_goto (pc := 45) (tgt := 49) dX9_familyOf_45 (by decide) ?_
          refine z_loc (L' := [.ref 0, .null, .null, .int x3, .int x4]) ⟨Or.inr rfl, ⟨Or.inl rfl, ⟨Or.inl rfl, ⟨Or.inr rfl, ⟨Or.inr rfl, trivial⟩⟩⟩⟩⟩ ?_
          exact hj9 (μ 49 x4.toNatClampNeg)
set_option maxHeartbeats 1000000 in
theorem t9_familyOf_L6 (μ : zMem) (K60 : Int32 → zRes) (hK60 : ∀ (x2 : Int32), zR yX9_familyOf cX9_familyOf 5 (some .int) 1 60 [.null, .null, .int x2, .null, .null] [] 1134 SM μ (K60 x2)) : ∀ (n : Nat) (x2 : Int32) (x3 : Int32), zR yX9_familyOf cX9_familyOf 5 (some .int) 1 6 [.ref 0, .null, .int x2, .int x3, .null] [] 1134 SM μ (f9_familyOf_L6 μ K60 n x2 x3) := by
  intro n
  induction n with
  | zero => intro x2 x3; intro q hq; cases hq
  | succ n ih =>
    intro x2 x3
    unfold f9_familyOf_L6
    refine z_iload_n (pc := 6) dX9_familyOf_6 rfl ?_
    refine z_iload_n (pc := 7) dX9_familyOf_7 rfl ?_
    refine z_icmp_eq (pc := 8) (tgt := 60) dX9_familyOf_8 (by decide) (fun c2 => ?_) (fun c3 => ?_)
    · refine z_loc (L' := [.null, .null, .int x2, .null, .null]) ⟨Or.inl rfl, ⟨Or.inl rfl, ⟨Or.inr rfl, ⟨Or.inl rfl, ⟨Or.inl rfl, trivial⟩⟩⟩⟩⟩ ?_
      exact hK60 x2
    · refine z_iload_n (pc := 11) dX9_familyOf_11 rfl ?_
      refine z_istore_n (pc := 12) (L' := [.ref 0, .null, .int x2, .int x2, .null]) dX9_familyOf_12 (by decide) rfl ?_
      refine z_iconst (pc := 13) (0 : Int32) dX9_familyOf_13 (by decide) ?_
      refine z_istore (pc := 14) (L' := [.ref 0, .null, .int x2, .int x2, .int (0 : Int32)]) dX9_familyOf_14 (by decide) rfl ?_
      refine t9_familyOf_L16 _ _ _ (fun x2_13 => ?_) zF _ _
      · refine z_goto (pc := 57) (tgt := 6) dX9_familyOf_57 (by decide) ?_
        exact ih x2_13 x2
set_option maxHeartbeats 1000000 in
theorem t9_familyOf (x1 : Int32) (μ : zMem) : zMR yX9_familyOf cX9_familyOf 5 (some .int) 1 [.ref 0, .int x1] 1134 SM μ (f9_familyOf x1 μ) := by
  refine zMR_of (by decide +kernel) rfl (Nat.le_of_ble_eq_true rfl) (L := [.ref 0, .int x1, .null, .null, .null]) rfl ?_
  unfold f9_familyOf
  refine z_iconst (pc := 0) (1 : Int32) dX9_familyOf_0 (by decide) ?_
  refine z_iload_n (pc := 1) dX9_familyOf_1 rfl ?_
  refine z_ishl (pc := 2) dX9_familyOf_2 ?_
  refine z_val (fun v1 => ?_)
  refine z_istore_n (pc := 3) (L' := [.ref 0, .int x1, .int v1, .null, .null]) dX9_familyOf_3 (by decide) rfl ?_
  refine z_iconst (pc := 4) (0 : Int32) dX9_familyOf_4 (by decide) ?_
  refine z_istore_n (pc := 5) (L' := [.ref 0, .int x1, .int v1, .int (0 : Int32), .null]) dX9_familyOf_5 (by decide) rfl ?_
  refine z_loc (L' := [.ref 0, .null, .int v1, .int (0 : Int32), .null]) ⟨Or.inr rfl, ⟨Or.inl rfl, ⟨Or.inr rfl, ⟨Or.inr rfl, ⟨Or.inl rfl, trivial⟩⟩⟩⟩⟩ ?_
  refine t9_familyOf_L6 _ _ (fun x2_14 => ?_) zF _ _
  · refine z_iload_n (pc := 60) dX9_familyOf_60 rfl ?_
    exact z_iret (pc := 61) rfl dX9_familyOf_61
def f9_family_L51 (K89 : Int32 → zMem → zRes) : Nat → Int32 → Int32 → zMem → zRes
  | 0, _, _, _ => none
  | n + 1, x2, x3, μ => zin (1 : Int32) 6 (if (μ 4 (1 : Int32).toNatClampNeg) ≤ x3 then K89 x2 μ else bnd0 (f9_familyOf x3 μ) (fun (v13 : Int32) (μ14 : zMem) => zlet (fun (s15 : Int32) => zlet (x2 + s15) (fun (v16 : Int32) => f9_family_L51 K89 n v16 (x3 + (1 : Int32)) μ14)) (fun j17 => if (v13 &&& ((zshl (1 : Int32) x3) - (1 : Int32))) = 0 then j17 (1 : Int32) else j17 (0 : Int32))))
def f9_family (x1 : Int32) (μ : zMem) : zRes := zlet (zset μ 0 0 (0 : Int32)) (fun (μ1 : zMem) => zlet (fun (s2 : Int32) (μ3 : zMem) => bnd0 (f9_bad s2 (1 : Int32) μ3) (fun (v4 : Int32) (μ5 : zMem) => if v4 = 0 then if x1 = (-1 : Int32) then f9_family_L51 (fun (x2_20 : Int32) (μ21 : zMem) => some (0, x2_20, μ21)) zF (0 : Int32) (0 : Int32) μ5 else bnd0 (f9_familyOf x1 μ5) (fun (v22 : Int32) (μ23 : zMem) => bnd0 (f9_ones v22 μ23) (fun (v24 : Int32) (μ25 : zMem) => some (0, v24, μ25))) else some (0, (0 : Int32), μ5))) (fun j26 => zlet (fun (μ27 : zMem) => j26 (0 : Int32) μ27) (fun j28 => if x1 = (-1 : Int32) then j28 μ1 else bnd0 (f9_isPerson x1 μ1) (fun (v31 : Int32) (μ32 : zMem) => if v31 = 0 then j26 (1 : Int32) μ32 else j28 μ32))))
set_option maxHeartbeats 1000000 in
theorem t9_family_L51 (K89 : Int32 → zMem → zRes) (hK89 : ∀ (x2 : Int32) (μ : zMem), zR yX9_family cX9_family 4 (some .int) 3 89 [.null, .null, .int x2, .null] [] 1134 SM μ (K89 x2 μ)) : ∀ (n : Nat) (x2 : Int32) (x3 : Int32) (μ : zMem), zR yX9_family cX9_family 4 (some .int) 3 51 [.ref 0, .null, .int x2, .int x3] [] 1134 SM μ (f9_family_L51 K89 n x2 x3 μ) := by
  intro n
  induction n with
  | zero => intro x2 x3 μ; intro q hq; cases hq
  | succ n ih =>
    intro x2 x3 μ
    unfold f9_family_L51
    refine z_iload_n (pc := 51) dX9_family_51 rfl ?_
    refine z_aload_n (pc := 52) dX9_family_52 rfl ?_
    refine z_getr (pc := 53) fdX9_23 (by decide) sm_0 rfl rfl dX9_family_53 ?_
    refine z_iconst (pc := 56) (1 : Int32) dX9_family_56 (by decide) ?_
    refine z_iald (pc := 57) (by decide) sm_4 rfl dX9_family_57 (fun h10 => ?_)
    refine z_icmp_ge (pc := 58) (tgt := 89) dX9_family_58 (by decide) (fun c11 => ?_) (fun c12 => ?_)
    · refine z_loc (L' := [.null, .null, .int x2, .null]) ⟨Or.inl rfl, ⟨Or.inl rfl, ⟨Or.inr rfl, ⟨Or.inl rfl, trivial⟩⟩⟩⟩ ?_
      exact hK89 x2 μ
    · refine z_iload_n (pc := 61) dX9_family_61 rfl ?_
      refine z_aload_n (pc := 62) dX9_family_62 rfl ?_
      refine z_iload_n (pc := 63) dX9_family_63 rfl ?_
      refine z_callV (As := [.int x3]) (pc := 64) (ret' := some .int) kvX9_361 (t9_familyOf _ _) (by decide) (by decide) sm_0  rfl rfl (Nat.le_of_ble_eq_true rfl) dX9_family_64 (fun v13 μ14 => ?_)
      refine z_iconst (pc := 67) (1 : Int32) dX9_family_67 (by decide) ?_
      refine z_iload_n (pc := 68) dX9_family_68 rfl ?_
      refine z_ishl (pc := 69) dX9_family_69 ?_
      refine z_iconst (pc := 70) (1 : Int32) dX9_family_70 (by decide) ?_
      refine z_isub (pc := 71) dX9_family_71 ?_
      refine z_iand (pc := 72) dX9_family_72 ?_
      refine z_let (fun (j : Int32 → zRes) => ∀ (s15 : Int32), zR yX9_family cX9_family 4 (some .int) 3 81 [.ref 0, .null, .null, .int x3] [.int s15, .int x2] 1134 SM μ14 (j s15)) ?_ (fun j17 hj17 => ?_)
      · intro s15
        refine z_iadd (pc := 81) dX9_family_81 ?_
        refine z_val (fun v16 => ?_)
        refine z_istore_n (pc := 82) (L' := [.ref 0, .null, .int v16, .int x3]) dX9_family_82 (by decide) rfl ?_
        refine z_iinc (pc := 83) (v := x3 + (1 : Int32)) (L' := [.ref 0, .null, .int v16, .int (x3 + (1 : Int32))]) dX9_family_83 (by decide) rfl (congrArg _ (by decide)) rfl ?_
        refine z_goto (pc := 86) (tgt := 51) dX9_family_86 (by decide) ?_
        exact ih v16 (x3 + (1 : Int32)) μ14
      · refine z_if_ne (pc := 73) (tgt := 80) dX9_family_73 (by decide) (fun c18 => ?_) (fun c19 => ?_)
        · refine z_iconst (pc := 80) (0 : Int32) dX9_family_80 (by decide) ?_
          refine z_loc (L' := [.ref 0, .null, .null, .int x3]) ⟨Or.inr rfl, ⟨Or.inl rfl, ⟨Or.inl rfl, ⟨Or.inr rfl, trivial⟩⟩⟩⟩ ?_
          exact hj17 (0 : Int32)
        · refine z_iconst (pc := 76) (1 : Int32) dX9_family_76 (by decide) ?_
          refine z_goto (pc := 77) (tgt := 81) dX9_family_77 (by decide) ?_
          refine z_loc (L' := [.ref 0, .null, .null, .int x3]) ⟨Or.inr rfl, ⟨Or.inl rfl, ⟨Or.inl rfl, ⟨Or.inr rfl, trivial⟩⟩⟩⟩ ?_
          exact hj17 (1 : Int32)
set_option maxHeartbeats 1000000 in
theorem t9_family (x1 : Int32) (μ : zMem) : zMR yX9_family cX9_family 4 (some .int) 3 [.ref 0, .int x1] 1134 SM μ (f9_family x1 μ) := by
  refine zMR_of (by decide +kernel) rfl (Nat.le_of_ble_eq_true rfl) (L := [.ref 0, .int x1, .null, .null]) rfl ?_
  unfold f9_family
  refine z_aload_n (pc := 0) dX9_family_0 rfl ?_
  refine z_iconst (pc := 1) (0 : Int32) dX9_family_1 (by decide) ?_
  refine z_puti (pc := 2) fdX9_106 (by decide) sm_0 rfl rfl dX9_family_2 ?_
  refine z_mem (fun μ1 => ?_)
  refine z_aload_n (pc := 5) dX9_family_5 rfl ?_
  refine z_iload_n (pc := 6) dX9_family_6 rfl ?_
  refine z_iconst (pc := 7) (-1 : Int32) dX9_family_7 (by decide) ?_
  refine z_let (fun (j : Int32 → zMem → zRes) => ∀ (s2 : Int32) (μ3 : zMem), zR yX9_family cX9_family 4 (some .int) 3 24 [.ref 0, .int x1, .null, .null] [.int s2, .ref 0] 1134 SM μ3 (j s2 μ3)) ?_ (fun j26 hj26 => ?_)
  · intro s2 μ3
    refine z_iconst (pc := 24) (1 : Int32) dX9_family_24 (by decide) ?_
    refine z_callV (As := [.int s2, .int (1 : Int32)]) (pc := 25) (ret' := some .boolean) kvX9_188 (t9_bad _ _ _) (by decide) (by decide) sm_0  rfl rfl (Nat.le_of_ble_eq_true rfl) dX9_family_25 (fun v4 μ5 => ?_)
    refine z_if_eq (pc := 28) (tgt := 33) dX9_family_28 (by decide) (fun c6 => ?_) (fun c7 => ?_)
    · refine z_iload_n (pc := 33) dX9_family_33 rfl ?_
      refine z_iconst (pc := 34) (-1 : Int32) dX9_family_34 (by decide) ?_
      refine z_icmp_eq (pc := 35) (tgt := 47) dX9_family_35 (by decide) (fun c8 => ?_) (fun c9 => ?_)
      · refine z_iconst (pc := 47) (0 : Int32) dX9_family_47 (by decide) ?_
        refine z_istore_n (pc := 48) (L' := [.ref 0, .int x1, .int (0 : Int32), .null]) dX9_family_48 (by decide) rfl ?_
        refine z_iconst (pc := 49) (0 : Int32) dX9_family_49 (by decide) ?_
        refine z_istore_n (pc := 50) (L' := [.ref 0, .int x1, .int (0 : Int32), .int (0 : Int32)]) dX9_family_50 (by decide) rfl ?_
        refine z_loc (L' := [.ref 0, .null, .int (0 : Int32), .int (0 : Int32)]) ⟨Or.inr rfl, ⟨Or.inl rfl, ⟨Or.inr rfl, ⟨Or.inr rfl, trivial⟩⟩⟩⟩ ?_
        refine t9_family_L51 _ (fun x2_20 μ21 => ?_) zF _ _ _
        · refine z_iload_n (pc := 89) dX9_family_89 rfl ?_
          exact z_iret (pc := 90) rfl dX9_family_90
      · refine z_aload_n (pc := 38) dX9_family_38 rfl ?_
        refine z_iload_n (pc := 39) dX9_family_39 rfl ?_
        refine z_callV (As := [.int x1]) (pc := 40) (ret' := some .int) kvX9_361 (t9_familyOf _ _) (by decide) (by decide) sm_0  rfl rfl (Nat.le_of_ble_eq_true rfl) dX9_family_40 (fun v22 μ23 => ?_)
        refine z_callS (As := [.int v22]) (pc := 43) (ret' := some .int) ksX9_290 (t9_ones _ _) (by decide)  rfl rfl (Nat.le_of_ble_eq_true rfl) dX9_family_43 (fun v24 μ25 => ?_)
        exact z_iret (pc := 46) rfl dX9_family_46
    · refine z_iconst (pc := 31) (0 : Int32) dX9_family_31 (by decide) ?_
      exact z_iret (pc := 32) rfl dX9_family_32
  · refine z_let (fun (j : zMem → zRes) => ∀ (μ27 : zMem), zR yX9_family cX9_family 4 (some .int) 3 23 [.ref 0, .int x1, .null, .null] [.ref 0] 1134 SM μ27 (j μ27)) ?_ (fun j28 hj28 => ?_)
    · intro μ27
      refine z_iconst (pc := 23) (0 : Int32) dX9_family_23 (by decide) ?_
      exact hj26 (0 : Int32) μ27
    · refine z_icmp_eq (pc := 8) (tgt := 23) dX9_family_8 (by decide) (fun c29 => ?_) (fun c30 => ?_)
      · exact hj28 μ1
      · refine z_aload_n (pc := 11) dX9_family_11 rfl ?_
        refine z_iload_n (pc := 12) dX9_family_12 rfl ?_
        refine z_callV (As := [.int x1]) (pc := 13) (ret' := some .boolean) kvX9_214 (t9_isPerson _ _) (by decide) (by decide) sm_0  rfl rfl (Nat.le_of_ble_eq_true rfl) dX9_family_13 (fun v31 μ32 => ?_)
        refine z_if_ne (pc := 16) (tgt := 23) dX9_family_16 (by decide) (fun c33 => ?_) (fun c34 => ?_)
        · exact hj28 μ32
        · refine z_iconst (pc := 19) (1 : Int32) dX9_family_19 (by decide) ?_
          refine z_goto (pc := 20) (tgt := 24) dX9_family_20 (by decide) ?_
          exact hj26 (1 : Int32) μ32
def f9_starved (x1 : Int32) (μ : zMem) : zRes := zlet (zset μ 0 0 (0 : Int32)) (fun (μ1 : zMem) => bnd0 (f9_in x1 (0 : Int32) (3 : Int32) μ1) (fun (v2 : Int32) (μ3 : zMem) => zlet (fun (s4 : Int32) => bnd0 (f9_bad s4 (1 : Int32) μ3) (fun (v5 : Int32) (μ6 : zMem) => if v5 = 0 then bnd0 (f9_runs x1 ((30 : Int32) - (μ6 0 20)) (0 : Int32) μ6) (fun (v9 : Int32) (μ10 : zMem) => some (0, μ10 0 31, μ10)) else some (0, (0 : Int32), μ6))) (fun j11 => if v2 = 0 then j11 (1 : Int32) else j11 (0 : Int32))))
set_option maxHeartbeats 1000000 in
theorem t9_starved (x1 : Int32) (μ : zMem) : zMR yX9_starved cX9_starved 2 (some .int) 7 [.ref 0, .int x1] 1134 SM μ (f9_starved x1 μ) := by
  refine zMR_of (by decide +kernel) rfl (Nat.le_of_ble_eq_true rfl) (L := [.ref 0, .int x1]) rfl ?_
  unfold f9_starved
  refine z_aload_n (pc := 0) dX9_starved_0 rfl ?_
  refine z_iconst (pc := 1) (0 : Int32) dX9_starved_1 (by decide) ?_
  refine z_puti (pc := 2) fdX9_106 (by decide) sm_0 rfl rfl dX9_starved_2 ?_
  refine z_mem (fun μ1 => ?_)
  refine z_aload_n (pc := 5) dX9_starved_5 rfl ?_
  refine z_iload_n (pc := 6) dX9_starved_6 rfl ?_
  refine z_iconst (pc := 7) (0 : Int32) dX9_starved_7 (by decide) ?_
  refine z_iconst (pc := 8) (3 : Int32) dX9_starved_8 (by decide) ?_
  refine z_callS (As := [.int x1, .int (0 : Int32), .int (3 : Int32)]) (pc := 9) (ret' := some .boolean) ksX9_140 (t9_in _ _ _ _) (by decide)  rfl rfl (Nat.le_of_ble_eq_true rfl) dX9_starved_9 (fun v2 μ3 => ?_)
  refine z_let (fun (j : Int32 → zRes) => ∀ (s4 : Int32), zR yX9_starved cX9_starved 2 (some .int) 7 20 [.ref 0, .int x1] [.int s4, .ref 0] 1134 SM μ3 (j s4)) ?_ (fun j11 hj11 => ?_)
  · intro s4
    refine z_iconst (pc := 20) (1 : Int32) dX9_starved_20 (by decide) ?_
    refine z_callV (As := [.int s4, .int (1 : Int32)]) (pc := 21) (ret' := some .boolean) kvX9_188 (t9_bad _ _ _) (by decide) (by decide) sm_0  rfl rfl (Nat.le_of_ble_eq_true rfl) dX9_starved_21 (fun v5 μ6 => ?_)
    refine z_if_eq (pc := 24) (tgt := 29) dX9_starved_24 (by decide) (fun c7 => ?_) (fun c8 => ?_)
    · refine z_aload_n (pc := 29) dX9_starved_29 rfl ?_
      refine z_iload_n (pc := 30) dX9_starved_30 rfl ?_
      refine z_bipush (pc := 31) (30 : Int32) dX9_starved_31 (by decide) ?_
      refine z_aload_n (pc := 33) dX9_starved_33 rfl ?_
      refine z_geti (pc := 34) fdX9_198 (by decide) sm_0 rfl dX9_starved_34 ?_
      refine z_isub (pc := 37) dX9_starved_37 ?_
      refine z_iconst (pc := 38) (0 : Int32) dX9_starved_38 (by decide) ?_
      refine z_callV (As := [.int x1, .int ((30 : Int32) - (μ6 0 20)), .int (0 : Int32)]) (pc := 39) (ret' := none) kvX9_318 (t9_runs _ _ _ _) (by decide) (by decide) sm_0  rfl rfl (Nat.le_of_ble_eq_true rfl) dX9_starved_39 (fun v9 μ10 => ?_)
      refine z_aload_n (pc := 42) dX9_starved_42 rfl ?_
      refine z_geti (pc := 43) fdX9_305 (by decide) sm_0 rfl dX9_starved_43 ?_
      exact z_iret (pc := 46) rfl dX9_starved_46
    · refine z_iconst (pc := 27) (0 : Int32) dX9_starved_27 (by decide) ?_
      exact z_iret (pc := 28) rfl dX9_starved_28
  · refine z_if_ne (pc := 12) (tgt := 19) dX9_starved_12 (by decide) (fun c12 => ?_) (fun c13 => ?_)
    · refine z_iconst (pc := 19) (0 : Int32) dX9_starved_19 (by decide) ?_
      exact hj11 (0 : Int32)
    · refine z_iconst (pc := 15) (1 : Int32) dX9_starved_15 (by decide) ?_
      refine z_goto (pc := 16) (tgt := 20) dX9_starved_16 (by decide) ?_
      exact hj11 (1 : Int32)
def f9_slack_L45 (x1 : Int32) (x2 : Int32) (K100 : Int32 → zMem → zRes) : Nat → Int32 → Int32 → zMem → zRes
  | 0, _, _, _ => none
  | n + 1, x4, x5, μ => if x5 ≤ 0 then K100 x4 μ else if x4 = 0 then if x2 ≤ 0 then K100 x4 μ else zin (3 : Int32) 6 (zlet (zset μ 4 (3 : Int32).toNatClampNeg x5) (fun (μ24 : zMem) => zin (1 : Int32) 6 (bnd0 (f9_findToday (μ24 4 (1 : Int32).toNatClampNeg) x1 μ24) (fun (v26 : Int32) (μ27 : zMem) => zlet (fun (s28 : Int32) => f9_slack_L45 x1 x2 K100 n s28 (x5 + (-1 : Int32)) μ27) (fun j29 => if (μ27 0 34) = x2 then j29 x5 else j29 (0 : Int32)))))) else K100 x4 μ
def f9_slack (x1 : Int32) (μ : zMem) : zRes := zlet (zset μ 0 0 (0 : Int32)) (fun (μ1 : zMem) => bnd0 (f9_badAsked x1 μ1) (fun (v2 : Int32) (μ3 : zMem) => if v2 = 0 then zin (1 : Int32) 6 (bnd0 (f9_findToday (μ3 4 (1 : Int32).toNatClampNeg) x1 μ3) (fun (v7 : Int32) (μ8 : zMem) => zlet (μ8 0 34) (fun (v9 : Int32) => zin (3 : Int32) 6 (zlet (μ8 4 (3 : Int32).toNatClampNeg) (fun (v11 : Int32) => zlet (fun (x4_12 : Int32) (μ13 : zMem) => zin (3 : Int32) 6 (zlet (zset μ13 4 (3 : Int32).toNatClampNeg v11) (fun (μ15 : zMem) => some (0, x4_12, μ15)))) (fun j16 => f9_slack_L45 x1 v9 (fun (x4_32 : Int32) (μ33 : zMem) => j16 x4_32 μ33) zF (0 : Int32) (8 : Int32) μ8)))))) else some (0, (0 : Int32), μ3)))
set_option maxHeartbeats 1000000 in
theorem t9_slack_L45 (x1 : Int32) (x2 : Int32) (x3 : Int32) (K100 : Int32 → zMem → zRes) (hK100 : ∀ (x4 : Int32) (μ : zMem), zR yX9_slack cX9_slack 6 (some .int) 7 100 [.ref 0, .null, .null, .int x3, .int x4, .null] [] 1134 SM μ (K100 x4 μ)) : ∀ (n : Nat) (x4 : Int32) (x5 : Int32) (μ : zMem), zR yX9_slack cX9_slack 6 (some .int) 7 45 [.ref 0, .int x1, .int x2, .int x3, .int x4, .int x5] [] 1134 SM μ (f9_slack_L45 x1 x2 K100 n x4 x5 μ) := by
  intro n
  induction n with
  | zero => intro x4 x5 μ; intro q hq; cases hq
  | succ n ih =>
    intro x4 x5 μ
    unfold f9_slack_L45
    refine z_iload (pc := 45) dX9_slack_45 rfl ?_
    refine z_if_le (pc := 47) (tgt := 100) dX9_slack_47 (by decide) (fun c17 => ?_) (fun c18 => ?_)
    · refine z_loc (L' := [.ref 0, .null, .null, .int x3, .int x4, .null]) ⟨Or.inr rfl, ⟨Or.inl rfl, ⟨Or.inl rfl, ⟨Or.inr rfl, ⟨Or.inr rfl, ⟨Or.inl rfl, trivial⟩⟩⟩⟩⟩⟩ ?_
      exact hK100 x4 μ
    · refine z_iload (pc := 50) dX9_slack_50 rfl ?_
      refine z_if_ne (pc := 52) (tgt := 100) dX9_slack_52 (by decide) (fun c19 => ?_) (fun c20 => ?_)
      · refine z_loc (L' := [.ref 0, .null, .null, .int x3, .int x4, .null]) ⟨Or.inr rfl, ⟨Or.inl rfl, ⟨Or.inl rfl, ⟨Or.inr rfl, ⟨Or.inr rfl, ⟨Or.inl rfl, trivial⟩⟩⟩⟩⟩⟩ ?_
        exact hK100 x4 μ
      · refine z_iload_n (pc := 55) dX9_slack_55 rfl ?_
        refine z_if_le (pc := 56) (tgt := 100) dX9_slack_56 (by decide) (fun c21 => ?_) (fun c22 => ?_)
        · refine z_loc (L' := [.ref 0, .null, .null, .int x3, .int x4, .null]) ⟨Or.inr rfl, ⟨Or.inl rfl, ⟨Or.inl rfl, ⟨Or.inr rfl, ⟨Or.inr rfl, ⟨Or.inl rfl, trivial⟩⟩⟩⟩⟩⟩ ?_
          exact hK100 x4 μ
        · refine z_aload_n (pc := 59) dX9_slack_59 rfl ?_
          refine z_getr (pc := 60) fdX9_23 (by decide) sm_0 rfl rfl dX9_slack_60 ?_
          refine z_iconst (pc := 63) (3 : Int32) dX9_slack_63 (by decide) ?_
          refine z_iload (pc := 64) dX9_slack_64 rfl ?_
          refine z_iast (pc := 66) (by decide) sm_4 rfl dX9_slack_66 (fun h23 => ?_)
          refine z_mem (fun μ24 => ?_)
          refine z_aload_n (pc := 67) dX9_slack_67 rfl ?_
          refine z_aload_n (pc := 68) dX9_slack_68 rfl ?_
          refine z_getr (pc := 69) fdX9_23 (by decide) sm_0 rfl rfl dX9_slack_69 ?_
          refine z_iconst (pc := 72) (1 : Int32) dX9_slack_72 (by decide) ?_
          refine z_iald (pc := 73) (by decide) sm_4 rfl dX9_slack_73 (fun h25 => ?_)
          refine z_iload_n (pc := 74) dX9_slack_74 rfl ?_
          refine z_callV (As := [.int (μ24 4 (1 : Int32).toNatClampNeg), .int x1]) (pc := 75) (ret' := none) kvX9_281 (t9_findToday _ _ _) (by decide) (by decide) sm_0  rfl rfl (Nat.le_of_ble_eq_true rfl) dX9_slack_75 (fun v26 μ27 => ?_)
          refine z_aload_n (pc := 78) dX9_slack_78 rfl ?_
          refine z_geti (pc := 79) fdX9_263 (by decide) sm_0 rfl dX9_slack_79 ?_
          refine z_iload_n (pc := 82) dX9_slack_82 rfl ?_
          refine z_let (fun (j : Int32 → zRes) => ∀ (s28 : Int32), zR yX9_slack cX9_slack 6 (some .int) 7 92 [.ref 0, .int x1, .int x2, .int x3, .null, .int x5] [.int s28] 1134 SM μ27 (j s28)) ?_ (fun j29 hj29 => ?_)
          · intro s28
            refine z_istore (pc := 92) (L' := [.ref 0, .int x1, .int x2, .int x3, .int s28, .int x5]) dX9_slack_92 (by decide) rfl ?_
            refine z_iinc (pc := 94) (v := x5 + (-1 : Int32)) (L' := [.ref 0, .int x1, .int x2, .int x3, .int s28, .int (x5 + (-1 : Int32))]) dX9_slack_94 (by decide) rfl (congrArg _ (by decide)) rfl ?_
            refine z_goto (pc := 97) (tgt := 45) dX9_slack_97 (by decide) ?_
            exact ih s28 (x5 + (-1 : Int32)) μ27
          · refine z_icmp_ne (pc := 83) (tgt := 91) dX9_slack_83 (by decide) (fun c30 => ?_) (fun c31 => ?_)
            · refine z_iconst (pc := 91) (0 : Int32) dX9_slack_91 (by decide) ?_
              refine z_loc (L' := [.ref 0, .int x1, .int x2, .int x3, .null, .int x5]) ⟨Or.inr rfl, ⟨Or.inr rfl, ⟨Or.inr rfl, ⟨Or.inr rfl, ⟨Or.inl rfl, ⟨Or.inr rfl, trivial⟩⟩⟩⟩⟩⟩ ?_
              exact hj29 (0 : Int32)
            · refine z_iload (pc := 86) dX9_slack_86 rfl ?_
              refine z_goto (pc := 88) (tgt := 92) dX9_slack_88 (by decide) ?_
              refine z_loc (L' := [.ref 0, .int x1, .int x2, .int x3, .null, .int x5]) ⟨Or.inr rfl, ⟨Or.inr rfl, ⟨Or.inr rfl, ⟨Or.inr rfl, ⟨Or.inl rfl, ⟨Or.inr rfl, trivial⟩⟩⟩⟩⟩⟩ ?_
              exact hj29 x5
set_option maxHeartbeats 1000000 in
theorem t9_slack (x1 : Int32) (μ : zMem) : zMR yX9_slack cX9_slack 6 (some .int) 7 [.ref 0, .int x1] 1134 SM μ (f9_slack x1 μ) := by
  refine zMR_of (by decide +kernel) rfl (Nat.le_of_ble_eq_true rfl) (L := [.ref 0, .int x1, .null, .null, .null, .null]) rfl ?_
  unfold f9_slack
  refine z_aload_n (pc := 0) dX9_slack_0 rfl ?_
  refine z_iconst (pc := 1) (0 : Int32) dX9_slack_1 (by decide) ?_
  refine z_puti (pc := 2) fdX9_106 (by decide) sm_0 rfl rfl dX9_slack_2 ?_
  refine z_mem (fun μ1 => ?_)
  refine z_aload_n (pc := 5) dX9_slack_5 rfl ?_
  refine z_iload_n (pc := 6) dX9_slack_6 rfl ?_
  refine z_callV (As := [.int x1]) (pc := 7) (ret' := some .boolean) kvX9_278 (t9_badAsked _ _) (by decide) (by decide) sm_0  rfl rfl (Nat.le_of_ble_eq_true rfl) dX9_slack_7 (fun v2 μ3 => ?_)
  refine z_if_eq (pc := 10) (tgt := 15) dX9_slack_10 (by decide) (fun c4 => ?_) (fun c5 => ?_)
  · refine z_aload_n (pc := 15) dX9_slack_15 rfl ?_
    refine z_aload_n (pc := 16) dX9_slack_16 rfl ?_
    refine z_getr (pc := 17) fdX9_23 (by decide) sm_0 rfl rfl dX9_slack_17 ?_
    refine z_iconst (pc := 20) (1 : Int32) dX9_slack_20 (by decide) ?_
    refine z_iald (pc := 21) (by decide) sm_4 rfl dX9_slack_21 (fun h6 => ?_)
    refine z_iload_n (pc := 22) dX9_slack_22 rfl ?_
    refine z_callV (As := [.int (μ3 4 (1 : Int32).toNatClampNeg), .int x1]) (pc := 23) (ret' := none) kvX9_281 (t9_findToday _ _ _) (by decide) (by decide) sm_0  rfl rfl (Nat.le_of_ble_eq_true rfl) dX9_slack_23 (fun v7 μ8 => ?_)
    refine z_aload_n (pc := 26) dX9_slack_26 rfl ?_
    refine z_geti (pc := 27) fdX9_263 (by decide) sm_0 rfl dX9_slack_27 ?_
    refine z_val (fun v9 => ?_)
    refine z_istore_n (pc := 30) (L' := [.ref 0, .int x1, .int v9, .null, .null, .null]) dX9_slack_30 (by decide) rfl ?_
    refine z_aload_n (pc := 31) dX9_slack_31 rfl ?_
    refine z_getr (pc := 32) fdX9_23 (by decide) sm_0 rfl rfl dX9_slack_32 ?_
    refine z_iconst (pc := 35) (3 : Int32) dX9_slack_35 (by decide) ?_
    refine z_iald (pc := 36) (by decide) sm_4 rfl dX9_slack_36 (fun h10 => ?_)
    refine z_val (fun v11 => ?_)
    refine z_istore_n (pc := 37) (L' := [.ref 0, .int x1, .int v9, .int v11, .null, .null]) dX9_slack_37 (by decide) rfl ?_
    refine z_iconst (pc := 38) (0 : Int32) dX9_slack_38 (by decide) ?_
    refine z_istore (pc := 39) (L' := [.ref 0, .int x1, .int v9, .int v11, .int (0 : Int32), .null]) dX9_slack_39 (by decide) rfl ?_
    refine z_bipush (pc := 41) (8 : Int32) dX9_slack_41 (by decide) ?_
    refine z_istore (pc := 43) (L' := [.ref 0, .int x1, .int v9, .int v11, .int (0 : Int32), .int (8 : Int32)]) dX9_slack_43 (by decide) rfl ?_
    refine z_let (fun (j : Int32 → zMem → zRes) => ∀ (x4_12 : Int32) (μ13 : zMem), zR yX9_slack cX9_slack 6 (some .int) 7 100 [.ref 0, .null, .null, .int v11, .int x4_12, .null] [] 1134 SM μ13 (j x4_12 μ13)) ?_ (fun j16 hj16 => ?_)
    · intro x4_12 μ13
      refine z_aload_n (pc := 100) dX9_slack_100 rfl ?_
      refine z_getr (pc := 101) fdX9_23 (by decide) sm_0 rfl rfl dX9_slack_101 ?_
      refine z_iconst (pc := 104) (3 : Int32) dX9_slack_104 (by decide) ?_
      refine z_iload_n (pc := 105) dX9_slack_105 rfl ?_
      refine z_iast (pc := 106) (by decide) sm_4 rfl dX9_slack_106 (fun h14 => ?_)
      refine z_mem (fun μ15 => ?_)
      refine z_iload (pc := 107) dX9_slack_107 rfl ?_
      exact z_iret (pc := 109) rfl dX9_slack_109
    · refine t9_slack_L45 _ _ _ _ (fun x4_32 μ33 => ?_) zF _ _ _
      · exact hj16 x4_32 μ33
  · refine z_iconst (pc := 13) (0 : Int32) dX9_slack_13 (by decide) ?_
    exact z_iret (pc := 14) rfl dX9_slack_14
def f9_firm (x1 : Int32) (x2 : Int32) (x3 : Int32) (μ : zMem) : zRes := zlet (zset μ 0 0 (0 : Int32)) (fun (μ1 : zMem) => bnd0 (f9_isPerson x1 μ1) (fun (v2 : Int32) (μ3 : zMem) => zlet (fun (s4 : Int32) => bnd0 (f9_bad s4 (1 : Int32) μ3) (fun (v5 : Int32) (μ6 : zMem) => zlet (fun (μ7 : zMem) => some (0, (0 : Int32), μ7)) (fun j8 => if v5 = 0 then bnd0 (f9_in x2 (0 : Int32) (3 : Int32) μ6) (fun (v11 : Int32) (μ12 : zMem) => zlet (fun (s13 : Int32) (μ14 : zMem) => bnd0 (f9_bad s13 (2 : Int32) μ14) (fun (v15 : Int32) (μ16 : zMem) => if v15 = 0 then bnd0 (f9_runs x2 x3 (0 : Int32) μ16) (fun (v19 : Int32) (μ20 : zMem) => zin (0 : Int32) 4 (zlet (μ20 1128 (0 : Int32).toNatClampNeg) (fun (v22 : Int32) => zin x1 9 (zin (4 : Int32) 6 (zlet (μ20 (15 + x1.toNatClampNeg) (4 : Int32).toNatClampNeg) (fun (v25 : Int32) => zin x1 9 (zin (4 : Int32) 6 (zlet (zset μ20 (15 + x1.toNatClampNeg) (4 : Int32).toNatClampNeg (0 : Int32)) (fun (μ28 : zMem) => bnd0 (f9_runs x2 x3 (0 : Int32) μ28) (fun (v29 : Int32) (μ30 : zMem) => zin x1 9 (zin (4 : Int32) 6 (zlet (zset μ30 (15 + x1.toNatClampNeg) (4 : Int32).toNatClampNeg v25) (fun (μ33 : zMem) => zin (0 : Int32) 4 (some (0, (μ33 1128 (0 : Int32).toNatClampNeg) - v22, μ33))))))))))))))) else j8 μ16)) (fun j35 => zlet (fun (μ36 : zMem) => j35 (1 : Int32) μ36) (fun j37 => if v11 = 0 then j37 μ12 else bnd0 (f9_areDays x3 μ12) (fun (v40 : Int32) (μ41 : zMem) => if v40 = 0 then j37 μ41 else j35 (0 : Int32) μ41)))) else j8 μ6))) (fun j44 => if v2 = 0 then j44 (1 : Int32) else j44 (0 : Int32))))
set_option maxHeartbeats 1000000 in
theorem t9_firm (x1 : Int32) (x2 : Int32) (x3 : Int32) (μ : zMem) : zMR yX9_firm cX9_firm 6 (some .int) 7 [.ref 0, .int x1, .int x2, .int x3] 1134 SM μ (f9_firm x1 x2 x3 μ) := by
  refine zMR_of (by decide +kernel) rfl (Nat.le_of_ble_eq_true rfl) (L := [.ref 0, .int x1, .int x2, .int x3, .null, .null]) rfl ?_
  unfold f9_firm
  refine z_aload_n (pc := 0) dX9_firm_0 rfl ?_
  refine z_iconst (pc := 1) (0 : Int32) dX9_firm_1 (by decide) ?_
  refine z_puti (pc := 2) fdX9_106 (by decide) sm_0 rfl rfl dX9_firm_2 ?_
  refine z_mem (fun μ1 => ?_)
  refine z_aload_n (pc := 5) dX9_firm_5 rfl ?_
  refine z_aload_n (pc := 6) dX9_firm_6 rfl ?_
  refine z_iload_n (pc := 7) dX9_firm_7 rfl ?_
  refine z_callV (As := [.int x1]) (pc := 8) (ret' := some .boolean) kvX9_214 (t9_isPerson _ _) (by decide) (by decide) sm_0  rfl rfl (Nat.le_of_ble_eq_true rfl) dX9_firm_8 (fun v2 μ3 => ?_)
  refine z_let (fun (j : Int32 → zRes) => ∀ (s4 : Int32), zR yX9_firm cX9_firm 6 (some .int) 7 19 [.ref 0, .int x1, .int x2, .int x3, .null, .null] [.int s4, .ref 0] 1134 SM μ3 (j s4)) ?_ (fun j44 hj44 => ?_)
  · intro s4
    refine z_iconst (pc := 19) (1 : Int32) dX9_firm_19 (by decide) ?_
    refine z_callV (As := [.int s4, .int (1 : Int32)]) (pc := 20) (ret' := some .boolean) kvX9_188 (t9_bad _ _ _) (by decide) (by decide) sm_0  rfl rfl (Nat.le_of_ble_eq_true rfl) dX9_firm_20 (fun v5 μ6 => ?_)
    refine z_let (fun (j : zMem → zRes) => ∀ (μ7 : zMem), zR yX9_firm cX9_firm 6 (some .int) 7 56 [.null, .null, .null, .null, .null, .null] [] 1134 SM μ7 (j μ7)) ?_ (fun j8 hj8 => ?_)
    · intro μ7
      refine z_iconst (pc := 56) (0 : Int32) dX9_firm_56 (by decide) ?_
      exact z_iret (pc := 57) rfl dX9_firm_57
    · refine z_if_ne (pc := 23) (tgt := 56) dX9_firm_23 (by decide) (fun c9 => ?_) (fun c10 => ?_)
      · refine z_loc (L' := [.null, .null, .null, .null, .null, .null]) ⟨Or.inl rfl, ⟨Or.inl rfl, ⟨Or.inl rfl, ⟨Or.inl rfl, ⟨Or.inl rfl, ⟨Or.inl rfl, trivial⟩⟩⟩⟩⟩⟩ ?_
        exact hj8 μ6
      · refine z_aload_n (pc := 26) dX9_firm_26 rfl ?_
        refine z_iload_n (pc := 27) dX9_firm_27 rfl ?_
        refine z_iconst (pc := 28) (0 : Int32) dX9_firm_28 (by decide) ?_
        refine z_iconst (pc := 29) (3 : Int32) dX9_firm_29 (by decide) ?_
        refine z_callS (As := [.int x2, .int (0 : Int32), .int (3 : Int32)]) (pc := 30) (ret' := some .boolean) ksX9_140 (t9_in _ _ _ _) (by decide)  rfl rfl (Nat.le_of_ble_eq_true rfl) dX9_firm_30 (fun v11 μ12 => ?_)
        refine z_let (fun (j : Int32 → zMem → zRes) => ∀ (s13 : Int32) (μ14 : zMem), zR yX9_firm cX9_firm 6 (some .int) 7 49 [.ref 0, .int x1, .int x2, .int x3, .null, .null] [.int s13, .ref 0] 1134 SM μ14 (j s13 μ14)) ?_ (fun j35 hj35 => ?_)
        · intro s13 μ14
          refine z_iconst (pc := 49) (2 : Int32) dX9_firm_49 (by decide) ?_
          refine z_callV (As := [.int s13, .int (2 : Int32)]) (pc := 50) (ret' := some .boolean) kvX9_188 (t9_bad _ _ _) (by decide) (by decide) sm_0  rfl rfl (Nat.le_of_ble_eq_true rfl) dX9_firm_50 (fun v15 μ16 => ?_)
          refine z_if_eq (pc := 53) (tgt := 58) dX9_firm_53 (by decide) (fun c17 => ?_) (fun c18 => ?_)
          · refine z_aload_n (pc := 58) dX9_firm_58 rfl ?_
            refine z_iload_n (pc := 59) dX9_firm_59 rfl ?_
            refine z_iload_n (pc := 60) dX9_firm_60 rfl ?_
            refine z_iconst (pc := 61) (0 : Int32) dX9_firm_61 (by decide) ?_
            refine z_callV (As := [.int x2, .int x3, .int (0 : Int32)]) (pc := 62) (ret' := none) kvX9_318 (t9_runs _ _ _ _) (by decide) (by decide) sm_0  rfl rfl (Nat.le_of_ble_eq_true rfl) dX9_firm_62 (fun v19 μ20 => ?_)
            refine z_aload_n (pc := 65) dX9_firm_65 rfl ?_
            refine z_getr (pc := 66) fdX9_88 (by decide) sm_0 rfl rfl dX9_firm_66 ?_
            refine z_iconst (pc := 69) (0 : Int32) dX9_firm_69 (by decide) ?_
            refine z_iald (pc := 70) (by decide) sm_1128 rfl dX9_firm_70 (fun h21 => ?_)
            refine z_val (fun v22 => ?_)
            refine z_istore (pc := 71) (L' := [.ref 0, .int x1, .int x2, .int x3, .int v22, .null]) dX9_firm_71 (by decide) rfl ?_
            refine z_aload_n (pc := 73) dX9_firm_73 rfl ?_
            refine z_getr (pc := 74) fdX9_31 (by decide) sm_0 rfl rfl dX9_firm_74 ?_
            refine z_iload_n (pc := 77) dX9_firm_77 rfl ?_
            refine z_aald (pc := 78) (fun j => 15 + j) (by decide) sm_14 (Or.inl rfl) smg_14 dX9_firm_78 (fun h23 => ?_)
            refine z_iconst (pc := 79) (4 : Int32) dX9_firm_79 (by decide) ?_
            refine z_iald (pc := 80) (smr_14 h23).2 (smr_14 h23).1 rfl dX9_firm_80 (fun h24 => ?_)
            refine z_val (fun v25 => ?_)
            refine z_istore (pc := 81) (L' := [.ref 0, .int x1, .int x2, .int x3, .int v22, .int v25]) dX9_firm_81 (by decide) rfl ?_
            refine z_aload_n (pc := 83) dX9_firm_83 rfl ?_
            refine z_getr (pc := 84) fdX9_31 (by decide) sm_0 rfl rfl dX9_firm_84 ?_
            refine z_iload_n (pc := 87) dX9_firm_87 rfl ?_
            refine z_aald (pc := 88) (fun j => 15 + j) (by decide) sm_14 (Or.inl rfl) smg_14 dX9_firm_88 (fun h26 => ?_)
            refine z_iconst (pc := 89) (4 : Int32) dX9_firm_89 (by decide) ?_
            refine z_iconst (pc := 90) (0 : Int32) dX9_firm_90 (by decide) ?_
            refine z_iast (pc := 91) (smr_14 h26).2 (smr_14 h26).1 rfl dX9_firm_91 (fun h27 => ?_)
            refine z_mem (fun μ28 => ?_)
            refine z_aload_n (pc := 92) dX9_firm_92 rfl ?_
            refine z_iload_n (pc := 93) dX9_firm_93 rfl ?_
            refine z_iload_n (pc := 94) dX9_firm_94 rfl ?_
            refine z_iconst (pc := 95) (0 : Int32) dX9_firm_95 (by decide) ?_
            refine z_callV (As := [.int x2, .int x3, .int (0 : Int32)]) (pc := 96) (ret' := none) kvX9_318 (t9_runs _ _ _ _) (by decide) (by decide) sm_0  rfl rfl (Nat.le_of_ble_eq_true rfl) dX9_firm_96 (fun v29 μ30 => ?_)
            refine z_aload_n (pc := 99) dX9_firm_99 rfl ?_
            refine z_getr (pc := 100) fdX9_31 (by decide) sm_0 rfl rfl dX9_firm_100 ?_
            refine z_iload_n (pc := 103) dX9_firm_103 rfl ?_
            refine z_aald (pc := 104) (fun j => 15 + j) (by decide) sm_14 (Or.inl rfl) smg_14 dX9_firm_104 (fun h31 => ?_)
            refine z_iconst (pc := 105) (4 : Int32) dX9_firm_105 (by decide) ?_
            refine z_iload (pc := 106) dX9_firm_106 rfl ?_
            refine z_iast (pc := 108) (smr_14 h31).2 (smr_14 h31).1 rfl dX9_firm_108 (fun h32 => ?_)
            refine z_mem (fun μ33 => ?_)
            refine z_aload_n (pc := 109) dX9_firm_109 rfl ?_
            refine z_getr (pc := 110) fdX9_88 (by decide) sm_0 rfl rfl dX9_firm_110 ?_
            refine z_iconst (pc := 113) (0 : Int32) dX9_firm_113 (by decide) ?_
            refine z_iald (pc := 114) (by decide) sm_1128 rfl dX9_firm_114 (fun h34 => ?_)
            refine z_iload (pc := 115) dX9_firm_115 rfl ?_
            refine z_isub (pc := 117) dX9_firm_117 ?_
            exact z_iret (pc := 118) rfl dX9_firm_118
          · refine z_loc (L' := [.null, .null, .null, .null, .null, .null]) ⟨Or.inl rfl, ⟨Or.inl rfl, ⟨Or.inl rfl, ⟨Or.inl rfl, ⟨Or.inl rfl, ⟨Or.inl rfl, trivial⟩⟩⟩⟩⟩⟩ ?_
            exact hj8 μ16
        · refine z_let (fun (j : zMem → zRes) => ∀ (μ36 : zMem), zR yX9_firm cX9_firm 6 (some .int) 7 44 [.ref 0, .int x1, .int x2, .int x3, .null, .null] [.ref 0] 1134 SM μ36 (j μ36)) ?_ (fun j37 hj37 => ?_)
          · intro μ36
            refine z_iconst (pc := 44) (1 : Int32) dX9_firm_44 (by decide) ?_
            refine z_goto (pc := 45) (tgt := 49) dX9_firm_45 (by decide) ?_
            exact hj35 (1 : Int32) μ36
          · refine z_if_eq (pc := 33) (tgt := 44) dX9_firm_33 (by decide) (fun c38 => ?_) (fun c39 => ?_)
            · exact hj37 μ12
            · refine z_aload_n (pc := 36) dX9_firm_36 rfl ?_
              refine z_iload_n (pc := 37) dX9_firm_37 rfl ?_
              refine z_callV (As := [.int x3]) (pc := 38) (ret' := some .boolean) kvX9_315 (t9_areDays _ _) (by decide) (by decide) sm_0  rfl rfl (Nat.le_of_ble_eq_true rfl) dX9_firm_38 (fun v40 μ41 => ?_)
              refine z_if_ne (pc := 41) (tgt := 48) dX9_firm_41 (by decide) (fun c42 => ?_) (fun c43 => ?_)
              · refine z_iconst (pc := 48) (0 : Int32) dX9_firm_48 (by decide) ?_
                exact hj35 (0 : Int32) μ41
              · exact hj37 μ41
  · refine z_if_ne (pc := 11) (tgt := 18) dX9_firm_11 (by decide) (fun c45 => ?_) (fun c46 => ?_)
    · refine z_iconst (pc := 18) (0 : Int32) dX9_firm_18 (by decide) ?_
      exact hj44 (0 : Int32)
    · refine z_iconst (pc := 14) (1 : Int32) dX9_firm_14 (by decide) ?_
      refine z_goto (pc := 15) (tgt := 19) dX9_firm_15 (by decide) ?_
      exact hj44 (1 : Int32)
def f9_thenBest (x1 : Int32) (μ : zMem) : zRes := bnd0 (f9_lays (1 : Int32) (0 : Int32) μ) (fun (v1 : Int32) (μ2 : zMem) => zlet (fun (μ3 : zMem) => zlet (zset μ3 0 20 ((μ3 0 20) + (1 : Int32))) (fun (μ4 : zMem) => bnd0 (f9_dawns μ4) (fun (v5 : Int32) (μ6 : zMem) => zlet (fun (s7 : Int32) (μ8 : zMem) => bnd0 (f9_lays (1 : Int32) (1 : Int32) μ8) (fun (v9 : Int32) (μ10 : zMem) => some (0, s7, μ10))) (fun j11 => if (μ6 0 20) ≤ (29 : Int32) then bnd0 (f9_bestNow μ6) (fun (v14 : Int32) (μ15 : zMem) => j11 v14 μ15) else j11 (-1 : Int32) μ6)))) (fun j16 => if x1 = (-1 : Int32) then j16 μ2 else bnd0 (f9_works (x1 / (100 : Int32)) (zrem (x1 / (10 : Int32)) (10 : Int32)) (zrem x1 (10 : Int32)) μ2) (fun (v19 : Int32) (μ20 : zMem) => j16 μ20)))
set_option maxHeartbeats 1000000 in
theorem t9_thenBest (x1 : Int32) (μ : zMem) : zMR yX9_thenBest cX9_thenBest 3 (some .int) 6 [.ref 0, .int x1] 1134 SM μ (f9_thenBest x1 μ) := by
  refine zMR_of (by decide +kernel) rfl (Nat.le_of_ble_eq_true rfl) (L := [.ref 0, .int x1, .null]) rfl ?_
  unfold f9_thenBest
  refine z_aload_n (pc := 0) dX9_thenBest_0 rfl ?_
  refine z_iconst (pc := 1) (1 : Int32) dX9_thenBest_1 (by decide) ?_
  refine z_iconst (pc := 2) (0 : Int32) dX9_thenBest_2 (by decide) ?_
  refine z_callV (As := [.int (1 : Int32), .int (0 : Int32)]) (pc := 3) (ret' := none) kvX9_248 (t9_lays _ _ _) (by decide) (by decide) sm_0  rfl rfl (Nat.le_of_ble_eq_true rfl) dX9_thenBest_3 (fun v1 μ2 => ?_)
  refine z_iload_n (pc := 6) dX9_thenBest_6 rfl ?_
  refine z_iconst (pc := 7) (-1 : Int32) dX9_thenBest_7 (by decide) ?_
  refine z_let (fun (j : zMem → zRes) => ∀ (μ3 : zMem), zR yX9_thenBest cX9_thenBest 3 (some .int) 6 30 [.ref 0, .null, .null] [] 1134 SM μ3 (j μ3)) ?_ (fun j16 hj16 => ?_)
  · intro μ3
    refine z_aload_n (pc := 30) dX9_thenBest_30 rfl ?_
    refine z_dup (pc := 31) dX9_thenBest_31 rfl ?_
    refine z_geti (pc := 32) fdX9_198 (by decide) sm_0 rfl dX9_thenBest_32 ?_
    refine z_iconst (pc := 35) (1 : Int32) dX9_thenBest_35 (by decide) ?_
    refine z_iadd (pc := 36) dX9_thenBest_36 ?_
    refine z_puti (pc := 37) fdX9_198 (by decide) sm_0 rfl rfl dX9_thenBest_37 ?_
    refine z_mem (fun μ4 => ?_)
    refine z_aload_n (pc := 40) dX9_thenBest_40 rfl ?_
    refine z_callV (As := []) (pc := 41) (ret' := none) kvX9_207 (t9_dawns _) (by decide) (by decide) sm_0  rfl rfl (Nat.le_of_ble_eq_true rfl) dX9_thenBest_41 (fun v5 μ6 => ?_)
    refine z_aload_n (pc := 44) dX9_thenBest_44 rfl ?_
    refine z_geti (pc := 45) fdX9_198 (by decide) sm_0 rfl dX9_thenBest_45 ?_
    refine z_bipush (pc := 48) (29 : Int32) dX9_thenBest_48 (by decide) ?_
    refine z_let (fun (j : Int32 → zMem → zRes) => ∀ (s7 : Int32) (μ8 : zMem), zR yX9_thenBest cX9_thenBest 3 (some .int) 6 61 [.ref 0, .null, .null] [.int s7] 1134 SM μ8 (j s7 μ8)) ?_ (fun j11 hj11 => ?_)
    · intro s7 μ8
      refine z_istore_n (pc := 61) (L' := [.ref 0, .null, .int s7]) dX9_thenBest_61 (by decide) rfl ?_
      refine z_aload_n (pc := 62) dX9_thenBest_62 rfl ?_
      refine z_iconst (pc := 63) (1 : Int32) dX9_thenBest_63 (by decide) ?_
      refine z_iconst (pc := 64) (1 : Int32) dX9_thenBest_64 (by decide) ?_
      refine z_callV (As := [.int (1 : Int32), .int (1 : Int32)]) (pc := 65) (ret' := none) kvX9_248 (t9_lays _ _ _) (by decide) (by decide) sm_0  rfl rfl (Nat.le_of_ble_eq_true rfl) dX9_thenBest_65 (fun v9 μ10 => ?_)
      refine z_iload_n (pc := 68) dX9_thenBest_68 rfl ?_
      exact z_iret (pc := 69) rfl dX9_thenBest_69
    · refine z_icmp_le (pc := 50) (tgt := 57) dX9_thenBest_50 (by decide) (fun c12 => ?_) (fun c13 => ?_)
      · refine z_aload_n (pc := 57) dX9_thenBest_57 rfl ?_
        refine z_callV (As := []) (pc := 58) (ret' := some .int) kvX9_299 (t9_bestNow _) (by decide) (by decide) sm_0  rfl rfl (Nat.le_of_ble_eq_true rfl) dX9_thenBest_58 (fun v14 μ15 => ?_)
        exact hj11 v14 μ15
      · refine z_iconst (pc := 53) (-1 : Int32) dX9_thenBest_53 (by decide) ?_
        refine z_goto (pc := 54) (tgt := 61) dX9_thenBest_54 (by decide) ?_
        exact hj11 (-1 : Int32) μ6
  · refine z_icmp_eq (pc := 8) (tgt := 30) dX9_thenBest_8 (by decide) (fun c17 => ?_) (fun c18 => ?_)
    · refine z_loc (L' := [.ref 0, .null, .null]) ⟨Or.inr rfl, ⟨Or.inl rfl, ⟨Or.inl rfl, trivial⟩⟩⟩ ?_
      exact hj16 μ2
    · refine z_aload_n (pc := 11) dX9_thenBest_11 rfl ?_
      refine z_iload_n (pc := 12) dX9_thenBest_12 rfl ?_
      refine z_bipush (pc := 13) (100 : Int32) dX9_thenBest_13 (by decide) ?_
      refine z_idivc (pc := 15) dX9_thenBest_15 (by decide) ?_
      refine z_iload_n (pc := 16) dX9_thenBest_16 rfl ?_
      refine z_bipush (pc := 17) (10 : Int32) dX9_thenBest_17 (by decide) ?_
      refine z_idivc (pc := 19) dX9_thenBest_19 (by decide) ?_
      refine z_bipush (pc := 20) (10 : Int32) dX9_thenBest_20 (by decide) ?_
      refine z_iremc (pc := 22) dX9_thenBest_22 (by decide) ?_
      refine z_iload_n (pc := 23) dX9_thenBest_23 rfl ?_
      refine z_bipush (pc := 24) (10 : Int32) dX9_thenBest_24 (by decide) ?_
      refine z_iremc (pc := 26) dX9_thenBest_26 (by decide) ?_
      refine z_callV (As := [.int (x1 / (100 : Int32)), .int (zrem (x1 / (10 : Int32)) (10 : Int32)), .int (zrem x1 (10 : Int32))]) (pc := 27) (ret' := none) kvX9_242 (t9_works _ _ _ _) (by decide) (by decide) sm_0  rfl rfl (Nat.le_of_ble_eq_true rfl) dX9_thenBest_27 (fun v19 μ20 => ?_)
      refine z_loc (L' := [.ref 0, .null, .null]) ⟨Or.inr rfl, ⟨Or.inl rfl, ⟨Or.inl rfl, trivial⟩⟩⟩ ?_
      exact hj16 μ20
def f9_twoDays_L132 (K306 : Int32 → zMem → zRes) : Nat → Int32 → Int32 → zMem → zRes
  | 0, _, _, _ => none
  | n + 1, x2, x4, μ => zin (2 : Int32) 6 (if ((64 : Int32) * (μ 4 (2 : Int32).toNatClampNeg)) ≤ x4 then K306 x2 μ else zlet (x4 / (64 : Int32)) (fun (v24 : Int32) => zlet (zrem (x4 / (8 : Int32)) (8 : Int32)) (fun (v25 : Int32) => zlet (zrem x4 (8 : Int32)) (fun (v26 : Int32) => zlet (fun (x2_27 : Int32) (μ28 : zMem) => f9_twoDays_L132 K306 n x2_27 (x4 + (1 : Int32)) μ28) (fun j29 => if v26 ≤ v25 then j29 x2 μ else zin (1 : Int32) 6 (if (μ 4 (1 : Int32).toNatClampNeg) ≤ v26 then j29 x2 μ else bnd0 (f9_canBe v24 v25 v26 μ) (fun (v35 : Int32) (μ36 : zMem) => if v35 = 0 then j29 x2 μ36 else bnd0 (f9_coded v24 v25 v26 μ36) (fun (v39 : Int32) (μ40 : zMem) => bnd0 (f9_thenBest v39 μ40) (fun (v41 : Int32) (μ42 : zMem) => if v41 = (-1 : Int32) then j29 x2 μ42 else zin v24 10 (zin (0 : Int32) 4 (zin (v41 / (100 : Int32)) 10 (zin (0 : Int32) 4 (if x2 < ((μ42 (36 + v24.toNatClampNeg) (0 : Int32).toNatClampNeg) + (μ42 (36 + (v41 / (100 : Int32)).toNatClampNeg) (0 : Int32).toNatClampNeg)) then zin v24 10 (zin (0 : Int32) 4 (zin (v41 / (100 : Int32)) 10 (zin (0 : Int32) 4 (zlet ((μ42 (36 + v24.toNatClampNeg) (0 : Int32).toNatClampNeg) + (μ42 (36 + (v41 / (100 : Int32)).toNatClampNeg) (0 : Int32).toNatClampNeg)) (fun (v55 : Int32) => bnd0 (f9_coded v24 v25 v26 μ42) (fun (v56 : Int32) (μ57 : zMem) => zin (0 : Int32) 2 (zlet (zset μ57 1127 (0 : Int32).toNatClampNeg v56) (fun (μ59 : zMem) => zin (1 : Int32) 2 (zlet (zset μ59 1127 (1 : Int32).toNatClampNeg v41) (fun (μ61 : zMem) => j29 v55 μ61)))))))))) else j29 x2 μ42)))))))))))))
def f9_twoDays (x1 : Int32) (μ : zMem) : zRes := zlet (zset μ 0 0 (0 : Int32)) (fun (μ1 : zMem) => bnd0 (f9_in x1 (0 : Int32) (2 : Int32) μ1) (fun (v2 : Int32) (μ3 : zMem) => zlet (fun (s4 : Int32) => bnd0 (f9_bad s4 (1 : Int32) μ3) (fun (v5 : Int32) (μ6 : zMem) => if v5 = 0 then bnd0 (f9_bestNow μ6) (fun (v9 : Int32) (μ10 : zMem) => zin (0 : Int32) 2 (zlet (zset μ10 1127 (0 : Int32).toNatClampNeg v9) (fun (μ12 : zMem) => zin (1 : Int32) 2 (zlet (zset μ12 1127 (1 : Int32).toNatClampNeg (-1 : Int32)) (fun (μ14 : zMem) => zin (0 : Int32) 2 (zlet (fun (s16 : Int32) => bnd0 (f9_thenBest (-1 : Int32) μ14) (fun (v17 : Int32) (μ18 : zMem) => zlet (fun (x2_19 : Int32) (μ20 : zMem) => f9_twoDays_L132 (fun (x2_62 : Int32) (μ63 : zMem) => zlet (fun (s64 : Int32) => some (0, s64, μ63)) (fun j65 => if x1 = 0 then j65 x2_62 else zin (x1 - (1 : Int32)) 2 (j65 (μ63 1127 (x1 - (1 : Int32)).toNatClampNeg)))) zF x2_19 (0 : Int32) μ20) (fun j69 => if v17 = (-1 : Int32) then j69 s16 μ18 else zin (v17 / (100 : Int32)) 10 (zin (0 : Int32) 4 (if (μ18 (36 + (v17 / (100 : Int32)).toNatClampNeg) (0 : Int32).toNatClampNeg) ≤ s16 then j69 s16 μ18 else zin (0 : Int32) 2 (zlet (zset μ18 1127 (0 : Int32).toNatClampNeg (-1 : Int32)) (fun (μ77 : zMem) => zin (1 : Int32) 2 (zlet (zset μ77 1127 (1 : Int32).toNatClampNeg v17) (fun (μ79 : zMem) => zin (v17 / (100 : Int32)) 10 (zin (0 : Int32) 4 (zlet (μ79 (36 + (v17 / (100 : Int32)).toNatClampNeg) (0 : Int32).toNatClampNeg) (fun (v82 : Int32) => j69 v82 μ79)))))))))))) (fun j83 => if (μ14 1127 (0 : Int32).toNatClampNeg) = (-1 : Int32) then j83 (0 : Int32) else zin (0 : Int32) 2 (zin ((μ14 1127 (0 : Int32).toNatClampNeg) / (100 : Int32)) 10 (zin (0 : Int32) 4 (j83 (μ14 (36 + ((μ14 1127 (0 : Int32).toNatClampNeg) / (100 : Int32)).toNatClampNeg) (0 : Int32).toNatClampNeg))))))))))) else some (0, (0 : Int32), μ6))) (fun j89 => if v2 = 0 then j89 (1 : Int32) else j89 (0 : Int32))))
set_option maxHeartbeats 1000000 in
theorem t9_twoDays_L132 (x1 : Int32) (K306 : Int32 → zMem → zRes) (hK306 : ∀ (x2 : Int32) (μ : zMem), zR yX9_twoDays cX9_twoDays 9 (some .int) 7 306 [.ref 0, .int x1, .int x2, .null, .null, .null, .null, .null, .null] [] 1134 SM μ (K306 x2 μ)) : ∀ (n : Nat) (x2 : Int32) (x4 : Int32) (μ : zMem), zR yX9_twoDays cX9_twoDays 9 (some .int) 7 132 [.ref 0, .int x1, .int x2, .null, .int x4, .null, .null, .null, .null] [] 1134 SM μ (f9_twoDays_L132 K306 n x2 x4 μ) := by
  intro n
  induction n with
  | zero => intro x2 x4 μ; intro q hq; cases hq
  | succ n ih =>
    intro x2 x4 μ
    unfold f9_twoDays_L132
    refine z_iload (pc := 132) dX9_twoDays_132 rfl ?_
    refine z_bipush (pc := 134) (64 : Int32) dX9_twoDays_134 (by decide) ?_
    refine z_aload_n (pc := 136) dX9_twoDays_136 rfl ?_
    refine z_getr (pc := 137) fdX9_23 (by decide) sm_0 rfl rfl dX9_twoDays_137 ?_
    refine z_iconst (pc := 140) (2 : Int32) dX9_twoDays_140 (by decide) ?_
    refine z_iald (pc := 141) (by decide) sm_4 rfl dX9_twoDays_141 (fun h21 => ?_)
    refine z_imul (pc := 142) dX9_twoDays_142 ?_
    refine z_icmp_ge (pc := 143) (tgt := 306) dX9_twoDays_143 (by decide) (fun c22 => ?_) (fun c23 => ?_)
    · refine z_loc (L' := [.ref 0, .int x1, .int x2, .null, .null, .null, .null, .null, .null]) ⟨Or.inr rfl, ⟨Or.inr rfl, ⟨Or.inr rfl, ⟨Or.inl rfl, ⟨Or.inl rfl, ⟨Or.inl rfl, ⟨Or.inl rfl, ⟨Or.inl rfl, ⟨Or.inl rfl, trivial⟩⟩⟩⟩⟩⟩⟩⟩⟩ ?_
      exact hK306 x2 μ
    · refine z_iload (pc := 146) dX9_twoDays_146 rfl ?_
      refine z_bipush (pc := 148) (64 : Int32) dX9_twoDays_148 (by decide) ?_
      refine z_idivc (pc := 150) dX9_twoDays_150 (by decide) ?_
      refine z_val (fun v24 => ?_)
      refine z_istore (pc := 151) (L' := [.ref 0, .int x1, .int x2, .null, .int x4, .int v24, .null, .null, .null]) dX9_twoDays_151 (by decide) rfl ?_
      refine z_iload (pc := 153) dX9_twoDays_153 rfl ?_
      refine z_bipush (pc := 155) (8 : Int32) dX9_twoDays_155 (by decide) ?_
      refine z_idivc (pc := 157) dX9_twoDays_157 (by decide) ?_
      refine z_bipush (pc := 158) (8 : Int32) dX9_twoDays_158 (by decide) ?_
      refine z_iremc (pc := 160) dX9_twoDays_160 (by decide) ?_
      refine z_val (fun v25 => ?_)
      refine z_istore (pc := 161) (L' := [.ref 0, .int x1, .int x2, .null, .int x4, .int v24, .int v25, .null, .null]) dX9_twoDays_161 (by decide) rfl ?_
      refine z_iload (pc := 163) dX9_twoDays_163 rfl ?_
      refine z_bipush (pc := 165) (8 : Int32) dX9_twoDays_165 (by decide) ?_
      refine z_iremc (pc := 167) dX9_twoDays_167 (by decide) ?_
      refine z_val (fun v26 => ?_)
      refine z_istore (pc := 168) (L' := [.ref 0, .int x1, .int x2, .null, .int x4, .int v24, .int v25, .int v26, .null]) dX9_twoDays_168 (by decide) rfl ?_
      refine z_iload (pc := 170) dX9_twoDays_170 rfl ?_
      refine z_iload (pc := 172) dX9_twoDays_172 rfl ?_
      refine z_let (fun (j : Int32 → zMem → zRes) => ∀ (x2_27 : Int32) (μ28 : zMem), zR yX9_twoDays cX9_twoDays 9 (some .int) 7 300 [.ref 0, .int x1, .int x2_27, .null, .int x4, .null, .null, .null, .null] [] 1134 SM μ28 (j x2_27 μ28)) ?_ (fun j29 hj29 => ?_)
      · intro x2_27 μ28
        refine z_iinc (pc := 300) (v := x4 + (1 : Int32)) (L' := [.ref 0, .int x1, .int x2_27, .null, .int (x4 + (1 : Int32)), .null, .null, .null, .null]) dX9_twoDays_300 (by decide) rfl (congrArg _ (by decide)) rfl ?_
        refine z_goto (pc := 303) (tgt := 132) dX9_twoDays_303 (by decide) ?_
        exact ih x2_27 (x4 + (1 : Int32)) μ28
      · refine z_icmp_ge (pc := 174) (tgt := 300) dX9_twoDays_174 (by decide) (fun c30 => ?_) (fun c31 => ?_)
        · refine z_loc (L' := [.ref 0, .int x1, .int x2, .null, .int x4, .null, .null, .null, .null]) ⟨Or.inr rfl, ⟨Or.inr rfl, ⟨Or.inr rfl, ⟨Or.inl rfl, ⟨Or.inr rfl, ⟨Or.inl rfl, ⟨Or.inl rfl, ⟨Or.inl rfl, ⟨Or.inl rfl, trivial⟩⟩⟩⟩⟩⟩⟩⟩⟩ ?_
          exact hj29 x2 μ
        · refine z_iload (pc := 177) dX9_twoDays_177 rfl ?_
          refine z_aload_n (pc := 179) dX9_twoDays_179 rfl ?_
          refine z_getr (pc := 180) fdX9_23 (by decide) sm_0 rfl rfl dX9_twoDays_180 ?_
          refine z_iconst (pc := 183) (1 : Int32) dX9_twoDays_183 (by decide) ?_
          refine z_iald (pc := 184) (by decide) sm_4 rfl dX9_twoDays_184 (fun h32 => ?_)
          refine z_icmp_ge (pc := 185) (tgt := 300) dX9_twoDays_185 (by decide) (fun c33 => ?_) (fun c34 => ?_)
          · refine z_loc (L' := [.ref 0, .int x1, .int x2, .null, .int x4, .null, .null, .null, .null]) ⟨Or.inr rfl, ⟨Or.inr rfl, ⟨Or.inr rfl, ⟨Or.inl rfl, ⟨Or.inr rfl, ⟨Or.inl rfl, ⟨Or.inl rfl, ⟨Or.inl rfl, ⟨Or.inl rfl, trivial⟩⟩⟩⟩⟩⟩⟩⟩⟩ ?_
            exact hj29 x2 μ
          · refine z_aload_n (pc := 188) dX9_twoDays_188 rfl ?_
            refine z_iload (pc := 189) dX9_twoDays_189 rfl ?_
            refine z_iload (pc := 191) dX9_twoDays_191 rfl ?_
            refine z_iload (pc := 193) dX9_twoDays_193 rfl ?_
            refine z_callV (As := [.int v24, .int v25, .int v26]) (pc := 195) (ret' := some .boolean) kvX9_275 (t9_canBe _ _ _ _) (by decide) (by decide) sm_0  rfl rfl (Nat.le_of_ble_eq_true rfl) dX9_twoDays_195 (fun v35 μ36 => ?_)
            refine z_if_ne (pc := 198) (tgt := 204) dX9_twoDays_198 (by decide) (fun c37 => ?_) (fun c38 => ?_)
            · refine z_aload_n (pc := 204) dX9_twoDays_204 rfl ?_
              refine z_iload (pc := 205) dX9_twoDays_205 rfl ?_
              refine z_iload (pc := 207) dX9_twoDays_207 rfl ?_
              refine z_iload (pc := 209) dX9_twoDays_209 rfl ?_
              refine z_callS (As := [.int v24, .int v25, .int v26]) (pc := 211) (ret' := some .int) ksX9_296 (t9_coded _ _ _ _) (by decide)  rfl rfl (Nat.le_of_ble_eq_true rfl) dX9_twoDays_211 (fun v39 μ40 => ?_)
              refine z_callV (As := [.int v39]) (pc := 214) (ret' := some .int) kvX9_364 (t9_thenBest _ _) (by decide) (by decide) sm_0  rfl rfl (Nat.le_of_ble_eq_true rfl) dX9_twoDays_214 (fun v41 μ42 => ?_)
              refine z_istore (pc := 217) (L' := [.ref 0, .int x1, .int x2, .null, .int x4, .int v24, .int v25, .int v26, .int v41]) dX9_twoDays_217 (by decide) rfl ?_
              refine z_iload (pc := 219) dX9_twoDays_219 rfl ?_
              refine z_iconst (pc := 221) (-1 : Int32) dX9_twoDays_221 (by decide) ?_
              refine z_icmp_eq (pc := 222) (tgt := 300) dX9_twoDays_222 (by decide) (fun c43 => ?_) (fun c44 => ?_)
              · refine z_loc (L' := [.ref 0, .int x1, .int x2, .null, .int x4, .null, .null, .null, .null]) ⟨Or.inr rfl, ⟨Or.inr rfl, ⟨Or.inr rfl, ⟨Or.inl rfl, ⟨Or.inr rfl, ⟨Or.inl rfl, ⟨Or.inl rfl, ⟨Or.inl rfl, ⟨Or.inl rfl, trivial⟩⟩⟩⟩⟩⟩⟩⟩⟩ ?_
                exact hj29 x2 μ42
              · refine z_aload_n (pc := 225) dX9_twoDays_225 rfl ?_
                refine z_getr (pc := 226) fdX9_37 (by decide) sm_0 rfl rfl dX9_twoDays_226 ?_
                refine z_iload (pc := 229) dX9_twoDays_229 rfl ?_
                refine z_aald (pc := 231) (fun j => 36 + j) (by decide) sm_35 (Or.inl rfl) smg_35 dX9_twoDays_231 (fun h45 => ?_)
                refine z_iconst (pc := 232) (0 : Int32) dX9_twoDays_232 (by decide) ?_
                refine z_iald (pc := 233) (smr_35 h45).2 (smr_35 h45).1 rfl dX9_twoDays_233 (fun h46 => ?_)
                refine z_aload_n (pc := 234) dX9_twoDays_234 rfl ?_
                refine z_getr (pc := 235) fdX9_37 (by decide) sm_0 rfl rfl dX9_twoDays_235 ?_
                refine z_iload (pc := 238) dX9_twoDays_238 rfl ?_
                refine z_bipush (pc := 240) (100 : Int32) dX9_twoDays_240 (by decide) ?_
                refine z_idivc (pc := 242) dX9_twoDays_242 (by decide) ?_
                refine z_aald (pc := 243) (fun j => 36 + j) (by decide) sm_35 (Or.inl rfl) smg_35 dX9_twoDays_243 (fun h47 => ?_)
                refine z_iconst (pc := 244) (0 : Int32) dX9_twoDays_244 (by decide) ?_
                refine z_iald (pc := 245) (smr_35 h47).2 (smr_35 h47).1 rfl dX9_twoDays_245 (fun h48 => ?_)
                refine z_iadd (pc := 246) dX9_twoDays_246 ?_
                refine z_iload_n (pc := 247) dX9_twoDays_247 rfl ?_
                refine z_icmp_gt (pc := 248) (tgt := 254) dX9_twoDays_248 (by decide) (fun c49 => ?_) (fun c50 => ?_)
                · refine z_aload_n (pc := 254) dX9_twoDays_254 rfl ?_
                  refine z_getr (pc := 255) fdX9_37 (by decide) sm_0 rfl rfl dX9_twoDays_255 ?_
                  refine z_iload (pc := 258) dX9_twoDays_258 rfl ?_
                  refine z_aald (pc := 260) (fun j => 36 + j) (by decide) sm_35 (Or.inl rfl) smg_35 dX9_twoDays_260 (fun h51 => ?_)
                  refine z_iconst (pc := 261) (0 : Int32) dX9_twoDays_261 (by decide) ?_
                  refine z_iald (pc := 262) (smr_35 h51).2 (smr_35 h51).1 rfl dX9_twoDays_262 (fun h52 => ?_)
                  refine z_aload_n (pc := 263) dX9_twoDays_263 rfl ?_
                  refine z_getr (pc := 264) fdX9_37 (by decide) sm_0 rfl rfl dX9_twoDays_264 ?_
                  refine z_iload (pc := 267) dX9_twoDays_267 rfl ?_
                  refine z_bipush (pc := 269) (100 : Int32) dX9_twoDays_269 (by decide) ?_
                  refine z_idivc (pc := 271) dX9_twoDays_271 (by decide) ?_
                  refine z_aald (pc := 272) (fun j => 36 + j) (by decide) sm_35 (Or.inl rfl) smg_35 dX9_twoDays_272 (fun h53 => ?_)
                  refine z_iconst (pc := 273) (0 : Int32) dX9_twoDays_273 (by decide) ?_
                  refine z_iald (pc := 274) (smr_35 h53).2 (smr_35 h53).1 rfl dX9_twoDays_274 (fun h54 => ?_)
                  refine z_iadd (pc := 275) dX9_twoDays_275 ?_
                  refine z_val (fun v55 => ?_)
                  refine z_istore_n (pc := 276) (L' := [.ref 0, .int x1, .int v55, .null, .int x4, .int v24, .int v25, .int v26, .int v41]) dX9_twoDays_276 (by decide) rfl ?_
                  refine z_aload_n (pc := 277) dX9_twoDays_277 rfl ?_
                  refine z_getr (pc := 278) fdX9_85 (by decide) sm_0 rfl rfl dX9_twoDays_278 ?_
                  refine z_iconst (pc := 281) (0 : Int32) dX9_twoDays_281 (by decide) ?_
                  refine z_iload (pc := 282) dX9_twoDays_282 rfl ?_
                  refine z_iload (pc := 284) dX9_twoDays_284 rfl ?_
                  refine z_iload (pc := 286) dX9_twoDays_286 rfl ?_
                  refine z_callS (As := [.int v24, .int v25, .int v26]) (pc := 288) (ret' := some .int) ksX9_296 (t9_coded _ _ _ _) (by decide)  rfl rfl (Nat.le_of_ble_eq_true rfl) dX9_twoDays_288 (fun v56 μ57 => ?_)
                  refine z_iast (pc := 291) (by decide) sm_1127 rfl dX9_twoDays_291 (fun h58 => ?_)
                  refine z_mem (fun μ59 => ?_)
                  refine z_aload_n (pc := 292) dX9_twoDays_292 rfl ?_
                  refine z_getr (pc := 293) fdX9_85 (by decide) sm_0 rfl rfl dX9_twoDays_293 ?_
                  refine z_iconst (pc := 296) (1 : Int32) dX9_twoDays_296 (by decide) ?_
                  refine z_iload (pc := 297) dX9_twoDays_297 rfl ?_
                  refine z_iast (pc := 299) (by decide) sm_1127 rfl dX9_twoDays_299 (fun h60 => ?_)
                  refine z_mem (fun μ61 => ?_)
                  refine z_loc (L' := [.ref 0, .int x1, .int v55, .null, .int x4, .null, .null, .null, .null]) ⟨Or.inr rfl, ⟨Or.inr rfl, ⟨Or.inr rfl, ⟨Or.inl rfl, ⟨Or.inr rfl, ⟨Or.inl rfl, ⟨Or.inl rfl, ⟨Or.inl rfl, ⟨Or.inl rfl, trivial⟩⟩⟩⟩⟩⟩⟩⟩⟩ ?_
                  exact hj29 v55 μ61
                · refine z_goto (pc := 251) (tgt := 300) dX9_twoDays_251 (by decide) ?_
                  refine z_loc (L' := [.ref 0, .int x1, .int x2, .null, .int x4, .null, .null, .null, .null]) ⟨Or.inr rfl, ⟨Or.inr rfl, ⟨Or.inr rfl, ⟨Or.inl rfl, ⟨Or.inr rfl, ⟨Or.inl rfl, ⟨Or.inl rfl, ⟨Or.inl rfl, ⟨Or.inl rfl, trivial⟩⟩⟩⟩⟩⟩⟩⟩⟩ ?_
                  exact hj29 x2 μ42
            · refine z_goto (pc := 201) (tgt := 300) dX9_twoDays_201 (by decide) ?_
              refine z_loc (L' := [.ref 0, .int x1, .int x2, .null, .int x4, .null, .null, .null, .null]) ⟨Or.inr rfl, ⟨Or.inr rfl, ⟨Or.inr rfl, ⟨Or.inl rfl, ⟨Or.inr rfl, ⟨Or.inl rfl, ⟨Or.inl rfl, ⟨Or.inl rfl, ⟨Or.inl rfl, trivial⟩⟩⟩⟩⟩⟩⟩⟩⟩ ?_
              exact hj29 x2 μ36
set_option maxHeartbeats 1000000 in
theorem t9_twoDays (x1 : Int32) (μ : zMem) : zMR yX9_twoDays cX9_twoDays 9 (some .int) 7 [.ref 0, .int x1] 1134 SM μ (f9_twoDays x1 μ) := by
  refine zMR_of (by decide +kernel) rfl (Nat.le_of_ble_eq_true rfl) (L := [.ref 0, .int x1, .null, .null, .null, .null, .null, .null, .null]) rfl ?_
  unfold f9_twoDays
  refine z_aload_n (pc := 0) dX9_twoDays_0 rfl ?_
  refine z_iconst (pc := 1) (0 : Int32) dX9_twoDays_1 (by decide) ?_
  refine z_puti (pc := 2) fdX9_106 (by decide) sm_0 rfl rfl dX9_twoDays_2 ?_
  refine z_mem (fun μ1 => ?_)
  refine z_aload_n (pc := 5) dX9_twoDays_5 rfl ?_
  refine z_iload_n (pc := 6) dX9_twoDays_6 rfl ?_
  refine z_iconst (pc := 7) (0 : Int32) dX9_twoDays_7 (by decide) ?_
  refine z_iconst (pc := 8) (2 : Int32) dX9_twoDays_8 (by decide) ?_
  refine z_callS (As := [.int x1, .int (0 : Int32), .int (2 : Int32)]) (pc := 9) (ret' := some .boolean) ksX9_140 (t9_in _ _ _ _) (by decide)  rfl rfl (Nat.le_of_ble_eq_true rfl) dX9_twoDays_9 (fun v2 μ3 => ?_)
  refine z_let (fun (j : Int32 → zRes) => ∀ (s4 : Int32), zR yX9_twoDays cX9_twoDays 9 (some .int) 7 20 [.ref 0, .int x1, .null, .null, .null, .null, .null, .null, .null] [.int s4, .ref 0] 1134 SM μ3 (j s4)) ?_ (fun j89 hj89 => ?_)
  · intro s4
    refine z_iconst (pc := 20) (1 : Int32) dX9_twoDays_20 (by decide) ?_
    refine z_callV (As := [.int s4, .int (1 : Int32)]) (pc := 21) (ret' := some .boolean) kvX9_188 (t9_bad _ _ _) (by decide) (by decide) sm_0  rfl rfl (Nat.le_of_ble_eq_true rfl) dX9_twoDays_21 (fun v5 μ6 => ?_)
    refine z_if_eq (pc := 24) (tgt := 29) dX9_twoDays_24 (by decide) (fun c7 => ?_) (fun c8 => ?_)
    · refine z_aload_n (pc := 29) dX9_twoDays_29 rfl ?_
      refine z_getr (pc := 30) fdX9_85 (by decide) sm_0 rfl rfl dX9_twoDays_30 ?_
      refine z_iconst (pc := 33) (0 : Int32) dX9_twoDays_33 (by decide) ?_
      refine z_aload_n (pc := 34) dX9_twoDays_34 rfl ?_
      refine z_callV (As := []) (pc := 35) (ret' := some .int) kvX9_299 (t9_bestNow _) (by decide) (by decide) sm_0  rfl rfl (Nat.le_of_ble_eq_true rfl) dX9_twoDays_35 (fun v9 μ10 => ?_)
      refine z_iast (pc := 38) (by decide) sm_1127 rfl dX9_twoDays_38 (fun h11 => ?_)
      refine z_mem (fun μ12 => ?_)
      refine z_aload_n (pc := 39) dX9_twoDays_39 rfl ?_
      refine z_getr (pc := 40) fdX9_85 (by decide) sm_0 rfl rfl dX9_twoDays_40 ?_
      refine z_iconst (pc := 43) (1 : Int32) dX9_twoDays_43 (by decide) ?_
      refine z_iconst (pc := 44) (-1 : Int32) dX9_twoDays_44 (by decide) ?_
      refine z_iast (pc := 45) (by decide) sm_1127 rfl dX9_twoDays_45 (fun h13 => ?_)
      refine z_mem (fun μ14 => ?_)
      refine z_aload_n (pc := 46) dX9_twoDays_46 rfl ?_
      refine z_getr (pc := 47) fdX9_85 (by decide) sm_0 rfl rfl dX9_twoDays_47 ?_
      refine z_iconst (pc := 50) (0 : Int32) dX9_twoDays_50 (by decide) ?_
      refine z_iald (pc := 51) (by decide) sm_1127 rfl dX9_twoDays_51 (fun h15 => ?_)
      refine z_iconst (pc := 52) (-1 : Int32) dX9_twoDays_52 (by decide) ?_
      refine z_let (fun (j : Int32 → zRes) => ∀ (s16 : Int32), zR yX9_twoDays cX9_twoDays 9 (some .int) 7 76 [.ref 0, .int x1, .null, .null, .null, .null, .null, .null, .null] [.int s16] 1134 SM μ14 (j s16)) ?_ (fun j83 hj83 => ?_)
      · intro s16
        refine z_istore_n (pc := 76) (L' := [.ref 0, .int x1, .int s16, .null, .null, .null, .null, .null, .null]) dX9_twoDays_76 (by decide) rfl ?_
        refine z_aload_n (pc := 77) dX9_twoDays_77 rfl ?_
        refine z_iconst (pc := 78) (-1 : Int32) dX9_twoDays_78 (by decide) ?_
        refine z_callV (As := [.int (-1 : Int32)]) (pc := 79) (ret' := some .int) kvX9_364 (t9_thenBest _ _) (by decide) (by decide) sm_0  rfl rfl (Nat.le_of_ble_eq_true rfl) dX9_twoDays_79 (fun v17 μ18 => ?_)
        refine z_istore_n (pc := 82) (L' := [.ref 0, .int x1, .int s16, .int v17, .null, .null, .null, .null, .null]) dX9_twoDays_82 (by decide) rfl ?_
        refine z_iload_n (pc := 83) dX9_twoDays_83 rfl ?_
        refine z_iconst (pc := 84) (-1 : Int32) dX9_twoDays_84 (by decide) ?_
        refine z_let (fun (j : Int32 → zMem → zRes) => ∀ (x2_19 : Int32) (μ20 : zMem), zR yX9_twoDays cX9_twoDays 9 (some .int) 7 129 [.ref 0, .int x1, .int x2_19, .null, .null, .null, .null, .null, .null] [] 1134 SM μ20 (j x2_19 μ20)) ?_ (fun j69 hj69 => ?_)
        · intro x2_19 μ20
          refine z_iconst (pc := 129) (0 : Int32) dX9_twoDays_129 (by decide) ?_
          refine z_istore (pc := 130) (L' := [.ref 0, .int x1, .int x2_19, .null, .int (0 : Int32), .null, .null, .null, .null]) dX9_twoDays_130 (by decide) rfl ?_
          refine t9_twoDays_L132 _ _ (fun x2_62 μ63 => ?_) zF _ _ _
          · refine z_iload_n (pc := 306) dX9_twoDays_306 rfl ?_
            refine z_let (fun (j : Int32 → zRes) => ∀ (s64 : Int32), zR yX9_twoDays cX9_twoDays 9 (some .int) 7 322 [.null, .null, .null, .null, .null, .null, .null, .null, .null] [.int s64] 1134 SM μ63 (j s64)) ?_ (fun j65 hj65 => ?_)
            · intro s64
              exact z_iret (pc := 322) rfl dX9_twoDays_322
            · refine z_if_ne (pc := 307) (tgt := 314) dX9_twoDays_307 (by decide) (fun c66 => ?_) (fun c67 => ?_)
              · refine z_aload_n (pc := 314) dX9_twoDays_314 rfl ?_
                refine z_getr (pc := 315) fdX9_85 (by decide) sm_0 rfl rfl dX9_twoDays_315 ?_
                refine z_iload_n (pc := 318) dX9_twoDays_318 rfl ?_
                refine z_iconst (pc := 319) (1 : Int32) dX9_twoDays_319 (by decide) ?_
                refine z_isub (pc := 320) dX9_twoDays_320 ?_
                refine z_iald (pc := 321) (by decide) sm_1127 rfl dX9_twoDays_321 (fun h68 => ?_)
                refine z_loc (L' := [.null, .null, .null, .null, .null, .null, .null, .null, .null]) ⟨Or.inl rfl, ⟨Or.inl rfl, ⟨Or.inl rfl, ⟨Or.inl rfl, ⟨Or.inl rfl, ⟨Or.inl rfl, ⟨Or.inl rfl, ⟨Or.inl rfl, ⟨Or.inl rfl, trivial⟩⟩⟩⟩⟩⟩⟩⟩⟩ ?_
                exact hj65 (μ63 1127 (x1 - (1 : Int32)).toNatClampNeg)
              · refine z_iload_n (pc := 310) dX9_twoDays_310 rfl ?_
                refine z_goto (pc := 311) (tgt := 322) dX9_twoDays_311 (by decide) ?_
                refine z_loc (L' := [.null, .null, .null, .null, .null, .null, .null, .null, .null]) ⟨Or.inl rfl, ⟨Or.inl rfl, ⟨Or.inl rfl, ⟨Or.inl rfl, ⟨Or.inl rfl, ⟨Or.inl rfl, ⟨Or.inl rfl, ⟨Or.inl rfl, ⟨Or.inl rfl, trivial⟩⟩⟩⟩⟩⟩⟩⟩⟩ ?_
                exact hj65 x2_62
        · refine z_icmp_eq (pc := 85) (tgt := 129) dX9_twoDays_85 (by decide) (fun c70 => ?_) (fun c71 => ?_)
          · refine z_loc (L' := [.ref 0, .int x1, .int s16, .null, .null, .null, .null, .null, .null]) ⟨Or.inr rfl, ⟨Or.inr rfl, ⟨Or.inr rfl, ⟨Or.inl rfl, ⟨Or.inl rfl, ⟨Or.inl rfl, ⟨Or.inl rfl, ⟨Or.inl rfl, ⟨Or.inl rfl, trivial⟩⟩⟩⟩⟩⟩⟩⟩⟩ ?_
            exact hj69 s16 μ18
          · refine z_aload_n (pc := 88) dX9_twoDays_88 rfl ?_
            refine z_getr (pc := 89) fdX9_37 (by decide) sm_0 rfl rfl dX9_twoDays_89 ?_
            refine z_iload_n (pc := 92) dX9_twoDays_92 rfl ?_
            refine z_bipush (pc := 93) (100 : Int32) dX9_twoDays_93 (by decide) ?_
            refine z_idivc (pc := 95) dX9_twoDays_95 (by decide) ?_
            refine z_aald (pc := 96) (fun j => 36 + j) (by decide) sm_35 (Or.inl rfl) smg_35 dX9_twoDays_96 (fun h72 => ?_)
            refine z_iconst (pc := 97) (0 : Int32) dX9_twoDays_97 (by decide) ?_
            refine z_iald (pc := 98) (smr_35 h72).2 (smr_35 h72).1 rfl dX9_twoDays_98 (fun h73 => ?_)
            refine z_iload_n (pc := 99) dX9_twoDays_99 rfl ?_
            refine z_icmp_le (pc := 100) (tgt := 129) dX9_twoDays_100 (by decide) (fun c74 => ?_) (fun c75 => ?_)
            · refine z_loc (L' := [.ref 0, .int x1, .int s16, .null, .null, .null, .null, .null, .null]) ⟨Or.inr rfl, ⟨Or.inr rfl, ⟨Or.inr rfl, ⟨Or.inl rfl, ⟨Or.inl rfl, ⟨Or.inl rfl, ⟨Or.inl rfl, ⟨Or.inl rfl, ⟨Or.inl rfl, trivial⟩⟩⟩⟩⟩⟩⟩⟩⟩ ?_
              exact hj69 s16 μ18
            · refine z_aload_n (pc := 103) dX9_twoDays_103 rfl ?_
              refine z_getr (pc := 104) fdX9_85 (by decide) sm_0 rfl rfl dX9_twoDays_104 ?_
              refine z_iconst (pc := 107) (0 : Int32) dX9_twoDays_107 (by decide) ?_
              refine z_iconst (pc := 108) (-1 : Int32) dX9_twoDays_108 (by decide) ?_
              refine z_iast (pc := 109) (by decide) sm_1127 rfl dX9_twoDays_109 (fun h76 => ?_)
              refine z_mem (fun μ77 => ?_)
              refine z_aload_n (pc := 110) dX9_twoDays_110 rfl ?_
              refine z_getr (pc := 111) fdX9_85 (by decide) sm_0 rfl rfl dX9_twoDays_111 ?_
              refine z_iconst (pc := 114) (1 : Int32) dX9_twoDays_114 (by decide) ?_
              refine z_iload_n (pc := 115) dX9_twoDays_115 rfl ?_
              refine z_iast (pc := 116) (by decide) sm_1127 rfl dX9_twoDays_116 (fun h78 => ?_)
              refine z_mem (fun μ79 => ?_)
              refine z_aload_n (pc := 117) dX9_twoDays_117 rfl ?_
              refine z_getr (pc := 118) fdX9_37 (by decide) sm_0 rfl rfl dX9_twoDays_118 ?_
              refine z_iload_n (pc := 121) dX9_twoDays_121 rfl ?_
              refine z_bipush (pc := 122) (100 : Int32) dX9_twoDays_122 (by decide) ?_
              refine z_idivc (pc := 124) dX9_twoDays_124 (by decide) ?_
              refine z_aald (pc := 125) (fun j => 36 + j) (by decide) sm_35 (Or.inl rfl) smg_35 dX9_twoDays_125 (fun h80 => ?_)
              refine z_iconst (pc := 126) (0 : Int32) dX9_twoDays_126 (by decide) ?_
              refine z_iald (pc := 127) (smr_35 h80).2 (smr_35 h80).1 rfl dX9_twoDays_127 (fun h81 => ?_)
              refine z_val (fun v82 => ?_)
              refine z_istore_n (pc := 128) (L' := [.ref 0, .int x1, .int v82, .int v17, .null, .null, .null, .null, .null]) dX9_twoDays_128 (by decide) rfl ?_
              refine z_loc (L' := [.ref 0, .int x1, .int v82, .null, .null, .null, .null, .null, .null]) ⟨Or.inr rfl, ⟨Or.inr rfl, ⟨Or.inr rfl, ⟨Or.inl rfl, ⟨Or.inl rfl, ⟨Or.inl rfl, ⟨Or.inl rfl, ⟨Or.inl rfl, ⟨Or.inl rfl, trivial⟩⟩⟩⟩⟩⟩⟩⟩⟩ ?_
              exact hj69 v82 μ79
      · refine z_icmp_ne (pc := 53) (tgt := 60) dX9_twoDays_53 (by decide) (fun c84 => ?_) (fun c85 => ?_)
        · refine z_aload_n (pc := 60) dX9_twoDays_60 rfl ?_
          refine z_getr (pc := 61) fdX9_37 (by decide) sm_0 rfl rfl dX9_twoDays_61 ?_
          refine z_aload_n (pc := 64) dX9_twoDays_64 rfl ?_
          refine z_getr (pc := 65) fdX9_85 (by decide) sm_0 rfl rfl dX9_twoDays_65 ?_
          refine z_iconst (pc := 68) (0 : Int32) dX9_twoDays_68 (by decide) ?_
          refine z_iald (pc := 69) (by decide) sm_1127 rfl dX9_twoDays_69 (fun h86 => ?_)
          refine z_bipush (pc := 70) (100 : Int32) dX9_twoDays_70 (by decide) ?_
          refine z_idivc (pc := 72) dX9_twoDays_72 (by decide) ?_
          refine z_aald (pc := 73) (fun j => 36 + j) (by decide) sm_35 (Or.inl rfl) smg_35 dX9_twoDays_73 (fun h87 => ?_)
          refine z_iconst (pc := 74) (0 : Int32) dX9_twoDays_74 (by decide) ?_
          refine z_iald (pc := 75) (smr_35 h87).2 (smr_35 h87).1 rfl dX9_twoDays_75 (fun h88 => ?_)
          exact hj83 (μ14 (36 + ((μ14 1127 (0 : Int32).toNatClampNeg) / (100 : Int32)).toNatClampNeg) (0 : Int32).toNatClampNeg)
        · refine z_iconst (pc := 56) (0 : Int32) dX9_twoDays_56 (by decide) ?_
          refine z_goto (pc := 57) (tgt := 76) dX9_twoDays_57 (by decide) ?_
          exact hj83 (0 : Int32)
    · refine z_iconst (pc := 27) (0 : Int32) dX9_twoDays_27 (by decide) ?_
      exact z_iret (pc := 28) rfl dX9_twoDays_28
  · refine z_if_ne (pc := 12) (tgt := 19) dX9_twoDays_12 (by decide) (fun c90 => ?_) (fun c91 => ?_)
    · refine z_iconst (pc := 19) (0 : Int32) dX9_twoDays_19 (by decide) ?_
      exact hj89 (0 : Int32)
    · refine z_iconst (pc := 15) (1 : Int32) dX9_twoDays_15 (by decide) ?_
      refine z_goto (pc := 16) (tgt := 20) dX9_twoDays_16 (by decide) ?_
      exact hj89 (1 : Int32)
def f9_image (μ : zMem) : zRes := zlet (zset μ 0 0 (0 : Int32)) (fun (μ1 : zMem) => if (μ1 0 22) = (3 : Int32) then some (0, (-1 : Int32), μ1) else zin (μ1 0 22) 3 (bnd0 (f9_movesAll (94 + (μ1 0 22).toNatClampNeg) (0 : Int32) μ1) (fun (v5 : Int32) (μ6 : zMem) => zlet (zset μ6 0 22 ((μ6 0 22) + (1 : Int32))) (fun (μ7 : zMem) => some (0, μ7 0 22, μ7)))))
set_option maxHeartbeats 1000000 in
theorem t9_image (μ : zMem) : zMR yX9_image cX9_image 1 (some .int) 3 [.ref 0] 1134 SM μ (f9_image μ) := by
  refine zMR_of (by decide +kernel) rfl (Nat.le_of_ble_eq_true rfl) (L := [.ref 0]) rfl ?_
  unfold f9_image
  refine z_aload_n (pc := 0) dX9_image_0 rfl ?_
  refine z_iconst (pc := 1) (0 : Int32) dX9_image_1 (by decide) ?_
  refine z_puti (pc := 2) fdX9_106 (by decide) sm_0 rfl rfl dX9_image_2 ?_
  refine z_mem (fun μ1 => ?_)
  refine z_aload_n (pc := 5) dX9_image_5 rfl ?_
  refine z_geti (pc := 6) fdX9_204 (by decide) sm_0 rfl dX9_image_6 ?_
  refine z_iconst (pc := 9) (3 : Int32) dX9_image_9 (by decide) ?_
  refine z_icmp_ne (pc := 10) (tgt := 15) dX9_image_10 (by decide) (fun c2 => ?_) (fun c3 => ?_)
  · refine z_aload_n (pc := 15) dX9_image_15 rfl ?_
    refine z_aload_n (pc := 16) dX9_image_16 rfl ?_
    refine z_getr (pc := 17) fdX9_64 (by decide) sm_0 rfl rfl dX9_image_17 ?_
    refine z_aload_n (pc := 20) dX9_image_20 rfl ?_
    refine z_geti (pc := 21) fdX9_204 (by decide) sm_0 rfl dX9_image_21 ?_
    refine z_aald (pc := 24) (fun j => 94 + j) (by decide) sm_93 (Or.inl rfl) smg_93 dX9_image_24 (fun h4 => ?_)
    refine z_iconst (pc := 25) (0 : Int32) dX9_image_25 (by decide) ?_
    refine z_callV (As := [.ref (94 + (μ1 0 22).toNatClampNeg), .int (0 : Int32)]) (pc := 26) (ret' := none) kvX9_259 (t9_movesAll (smr_93 h4) _ _) (by decide) (by decide) sm_0  rfl rfl (Nat.le_of_ble_eq_true rfl) dX9_image_26 (fun v5 μ6 => ?_)
    refine z_aload_n (pc := 29) dX9_image_29 rfl ?_
    refine z_dup (pc := 30) dX9_image_30 rfl ?_
    refine z_geti (pc := 31) fdX9_204 (by decide) sm_0 rfl dX9_image_31 ?_
    refine z_iconst (pc := 34) (1 : Int32) dX9_image_34 (by decide) ?_
    refine z_iadd (pc := 35) dX9_image_35 ?_
    refine z_puti (pc := 36) fdX9_204 (by decide) sm_0 rfl rfl dX9_image_36 ?_
    refine z_mem (fun μ7 => ?_)
    refine z_aload_n (pc := 39) dX9_image_39 rfl ?_
    refine z_geti (pc := 40) fdX9_204 (by decide) sm_0 rfl dX9_image_40 ?_
    exact z_iret (pc := 43) rfl dX9_image_43
  · refine z_iconst (pc := 13) (-1 : Int32) dX9_image_13 (by decide) ?_
    exact z_iret (pc := 14) rfl dX9_image_14
def f9_restore (μ : zMem) : zRes := zlet (zset μ 0 0 (0 : Int32)) (fun (μ1 : zMem) => if (μ1 0 22) = 0 then some (0, (-1 : Int32), μ1) else zlet (zset μ1 0 22 ((μ1 0 22) - (1 : Int32))) (fun (μ4 : zMem) => zin (μ4 0 22) 3 (bnd0 (f9_movesAll (94 + (μ4 0 22).toNatClampNeg) (1 : Int32) μ4) (fun (v6 : Int32) (μ7 : zMem) => some (0, μ7 0 22, μ7)))))
set_option maxHeartbeats 1000000 in
theorem t9_restore (μ : zMem) : zMR yX9_restore cX9_restore 1 (some .int) 3 [.ref 0] 1134 SM μ (f9_restore μ) := by
  refine zMR_of (by decide +kernel) rfl (Nat.le_of_ble_eq_true rfl) (L := [.ref 0]) rfl ?_
  unfold f9_restore
  refine z_aload_n (pc := 0) dX9_restore_0 rfl ?_
  refine z_iconst (pc := 1) (0 : Int32) dX9_restore_1 (by decide) ?_
  refine z_puti (pc := 2) fdX9_106 (by decide) sm_0 rfl rfl dX9_restore_2 ?_
  refine z_mem (fun μ1 => ?_)
  refine z_aload_n (pc := 5) dX9_restore_5 rfl ?_
  refine z_geti (pc := 6) fdX9_204 (by decide) sm_0 rfl dX9_restore_6 ?_
  refine z_if_ne (pc := 9) (tgt := 14) dX9_restore_9 (by decide) (fun c2 => ?_) (fun c3 => ?_)
  · refine z_aload_n (pc := 14) dX9_restore_14 rfl ?_
    refine z_dup (pc := 15) dX9_restore_15 rfl ?_
    refine z_geti (pc := 16) fdX9_204 (by decide) sm_0 rfl dX9_restore_16 ?_
    refine z_iconst (pc := 19) (1 : Int32) dX9_restore_19 (by decide) ?_
    refine z_isub (pc := 20) dX9_restore_20 ?_
    refine z_puti (pc := 21) fdX9_204 (by decide) sm_0 rfl rfl dX9_restore_21 ?_
    refine z_mem (fun μ4 => ?_)
    refine z_aload_n (pc := 24) dX9_restore_24 rfl ?_
    refine z_aload_n (pc := 25) dX9_restore_25 rfl ?_
    refine z_getr (pc := 26) fdX9_64 (by decide) sm_0 rfl rfl dX9_restore_26 ?_
    refine z_aload_n (pc := 29) dX9_restore_29 rfl ?_
    refine z_geti (pc := 30) fdX9_204 (by decide) sm_0 rfl dX9_restore_30 ?_
    refine z_aald (pc := 33) (fun j => 94 + j) (by decide) sm_93 (Or.inl rfl) smg_93 dX9_restore_33 (fun h5 => ?_)
    refine z_iconst (pc := 34) (1 : Int32) dX9_restore_34 (by decide) ?_
    refine z_callV (As := [.ref (94 + (μ4 0 22).toNatClampNeg), .int (1 : Int32)]) (pc := 35) (ret' := none) kvX9_259 (t9_movesAll (smr_93 h5) _ _) (by decide) (by decide) sm_0  rfl rfl (Nat.le_of_ble_eq_true rfl) dX9_restore_35 (fun v6 μ7 => ?_)
    refine z_aload_n (pc := 38) dX9_restore_38 rfl ?_
    refine z_geti (pc := 39) fdX9_204 (by decide) sm_0 rfl dX9_restore_39 ?_
    exact z_iret (pc := 42) rfl dX9_restore_42
  · refine z_iconst (pc := 12) (-1 : Int32) dX9_restore_12 (by decide) ?_
    exact z_iret (pc := 13) rfl dX9_restore_13
def f9_count_L9 (μ : zMem) (K34 : Int32 → zRes) : Nat → Int32 → Int32 → zRes
  | 0, _, _ => none
  | n + 1, x2, x3 => zin (2 : Int32) 6 (if (μ 4 (2 : Int32).toNatClampNeg) ≤ x3 then K34 x2 else zin x3 10 (zlet (x2 + (μ 92 x3.toNatClampNeg)) (fun (v6 : Int32) => f9_count_L9 μ K34 n v6 (x3 + (1 : Int32)))))
def f9_count (x1 : Int32) (μ : zMem) : zRes := zlet (zset μ 0 0 (0 : Int32)) (fun (μ1 : zMem) => f9_count_L9 μ1 (fun (x2_7 : Int32) => if x1 = (0 : Int32) then some (0, μ1 0 20, μ1) else if x1 = (1 : Int32) then some (0, x2_7, μ1) else if x1 = (2 : Int32) then some (0, μ1 0 21, μ1) else if x1 = (3 : Int32) then some (0, μ1 0 22, μ1) else if x1 = (4 : Int32) then some (0, μ1 0 1, μ1) else some (0, (-1 : Int32), μ1)) zF (0 : Int32) (0 : Int32))
set_option maxHeartbeats 1000000 in
theorem t9_count_L9 (x1 : Int32) (μ : zMem) (K34 : Int32 → zRes) (hK34 : ∀ (x2 : Int32), zR yX9_count cX9_count 4 (some .int) 1 34 [.ref 0, .int x1, .int x2, .null] [] 1134 SM μ (K34 x2)) : ∀ (n : Nat) (x2 : Int32) (x3 : Int32), zR yX9_count cX9_count 4 (some .int) 1 9 [.ref 0, .int x1, .int x2, .int x3] [] 1134 SM μ (f9_count_L9 μ K34 n x2 x3) := by
  intro n
  induction n with
  | zero => intro x2 x3; intro q hq; cases hq
  | succ n ih =>
    intro x2 x3
    unfold f9_count_L9
    refine z_iload_n (pc := 9) dX9_count_9 rfl ?_
    refine z_aload_n (pc := 10) dX9_count_10 rfl ?_
    refine z_getr (pc := 11) fdX9_23 (by decide) sm_0 rfl rfl dX9_count_11 ?_
    refine z_iconst (pc := 14) (2 : Int32) dX9_count_14 (by decide) ?_
    refine z_iald (pc := 15) (by decide) sm_4 rfl dX9_count_15 (fun h2 => ?_)
    refine z_icmp_ge (pc := 16) (tgt := 34) dX9_count_16 (by decide) (fun c3 => ?_) (fun c4 => ?_)
    · refine z_loc (L' := [.ref 0, .int x1, .int x2, .null]) ⟨Or.inr rfl, ⟨Or.inr rfl, ⟨Or.inr rfl, ⟨Or.inl rfl, trivial⟩⟩⟩⟩ ?_
      exact hK34 x2
    · refine z_iload_n (pc := 19) dX9_count_19 rfl ?_
      refine z_aload_n (pc := 20) dX9_count_20 rfl ?_
      refine z_getr (pc := 21) fdX9_61 (by decide) sm_0 rfl rfl dX9_count_21 ?_
      refine z_iload_n (pc := 24) dX9_count_24 rfl ?_
      refine z_iald (pc := 25) (by decide) sm_92 rfl dX9_count_25 (fun h5 => ?_)
      refine z_iadd (pc := 26) dX9_count_26 ?_
      refine z_val (fun v6 => ?_)
      refine z_istore_n (pc := 27) (L' := [.ref 0, .int x1, .int v6, .int x3]) dX9_count_27 (by decide) rfl ?_
      refine z_iinc (pc := 28) (v := x3 + (1 : Int32)) (L' := [.ref 0, .int x1, .int v6, .int (x3 + (1 : Int32))]) dX9_count_28 (by decide) rfl (congrArg _ (by decide)) rfl ?_
      refine z_goto (pc := 31) (tgt := 9) dX9_count_31 (by decide) ?_
      exact ih v6 (x3 + (1 : Int32))
set_option maxHeartbeats 1000000 in
theorem t9_count (x1 : Int32) (μ : zMem) : zMR yX9_count cX9_count 4 (some .int) 1 [.ref 0, .int x1] 1134 SM μ (f9_count x1 μ) := by
  refine zMR_of (by decide +kernel) rfl (Nat.le_of_ble_eq_true rfl) (L := [.ref 0, .int x1, .null, .null]) rfl ?_
  unfold f9_count
  refine z_aload_n (pc := 0) dX9_count_0 rfl ?_
  refine z_iconst (pc := 1) (0 : Int32) dX9_count_1 (by decide) ?_
  refine z_puti (pc := 2) fdX9_106 (by decide) sm_0 rfl rfl dX9_count_2 ?_
  refine z_mem (fun μ1 => ?_)
  refine z_iconst (pc := 5) (0 : Int32) dX9_count_5 (by decide) ?_
  refine z_istore_n (pc := 6) (L' := [.ref 0, .int x1, .int (0 : Int32), .null]) dX9_count_6 (by decide) rfl ?_
  refine z_iconst (pc := 7) (0 : Int32) dX9_count_7 (by decide) ?_
  refine z_istore_n (pc := 8) (L' := [.ref 0, .int x1, .int (0 : Int32), .int (0 : Int32)]) dX9_count_8 (by decide) rfl ?_
  refine t9_count_L9 _ _ _ (fun x2_7 => ?_) zF _ _
  · refine z_iload_n (pc := 34) dX9_count_34 rfl ?_
    refine z_tabC (pc := 35) (tgt := 68) (0 : Int32) dX9_count_35 (by decide) (by decide) rfl (by decide) ?_ (fun c8 => ?_)
    · refine z_aload_n (pc := 68) dX9_count_68 rfl ?_
      refine z_geti (pc := 69) fdX9_198 (by decide) sm_0 rfl dX9_count_69 ?_
      exact z_iret (pc := 72) rfl dX9_count_72
    · refine z_tabC (pc := 35) (tgt := 73) (1 : Int32) dX9_count_35 (by decide) (by decide) rfl (by decide) ?_ (fun c9 => ?_)
      · refine z_iload_n (pc := 73) dX9_count_73 rfl ?_
        exact z_iret (pc := 74) rfl dX9_count_74
      · refine z_tabC (pc := 35) (tgt := 75) (2 : Int32) dX9_count_35 (by decide) (by decide) rfl (by decide) ?_ (fun c10 => ?_)
        · refine z_aload_n (pc := 75) dX9_count_75 rfl ?_
          refine z_geti (pc := 76) fdX9_201 (by decide) sm_0 rfl dX9_count_76 ?_
          exact z_iret (pc := 79) rfl dX9_count_79
        · refine z_tabC (pc := 35) (tgt := 80) (3 : Int32) dX9_count_35 (by decide) (by decide) rfl (by decide) ?_ (fun c11 => ?_)
          · refine z_aload_n (pc := 80) dX9_count_80 rfl ?_
            refine z_geti (pc := 81) fdX9_204 (by decide) sm_0 rfl dX9_count_81 ?_
            exact z_iret (pc := 84) rfl dX9_count_84
          · refine z_tabC (pc := 35) (tgt := 85) (4 : Int32) dX9_count_35 (by decide) (by decide) rfl (by decide) ?_ (fun c12 => ?_)
            · refine z_aload_n (pc := 85) dX9_count_85 rfl ?_
              refine z_geti (pc := 86) fdX9_109 (by decide) sm_0 rfl dX9_count_86 ?_
              exact z_iret (pc := 89) rfl dX9_count_89
            · refine z_tabD (pc := 35) (tgt := 90) dX9_count_35 (by have q0 := z_i32 c8 (z := 0) (by decide); have q1 := z_i32 c9 (z := 1) (by decide); have q2 := z_i32 c10 (z := 2) (by decide); have q3 := z_i32 c11 (z := 3) (by decide); have q4 := z_i32 c12 (z := 4) (by decide); omega) (by decide) ?_
              refine z_iconst (pc := 90) (-1 : Int32) dX9_count_90 (by decide) ?_
              exact z_iret (pc := 91) rfl dX9_count_91
