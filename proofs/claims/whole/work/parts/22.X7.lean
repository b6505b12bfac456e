theorem dX7_areKin_0 : decode cX7_areKin 0 = .ok (.aload_n 0, 1) := by decide +kernel
theorem dX7_areKin_1 : decode cX7_areKin 1 = .ok (.getfield 43, 3) := by decide +kernel
theorem dX7_areKin_4 : decode cX7_areKin 4 = .ok (.iload_n 1, 1) := by decide +kernel
theorem dX7_areKin_5 : decode cX7_areKin 5 = .ok (.iaload, 1) := by decide +kernel
theorem dX7_areKin_6 : decode cX7_areKin 6 = .ok (.iload_n 2, 1) := by decide +kernel
theorem dX7_areKin_7 : decode cX7_areKin 7 = .ok (.ishr, 1) := by decide +kernel
theorem dX7_areKin_8 : decode cX7_areKin 8 = .ok (.iconst 1, 1) := by decide +kernel
theorem dX7_areKin_9 : decode cX7_areKin 9 = .ok (.iand, 1) := by decide +kernel
theorem dX7_areKin_10 : decode cX7_areKin 10 = .ok (.ifCond .eq 7, 3) := by decide +kernel
theorem dX7_areKin_13 : decode cX7_areKin 13 = .ok (.iconst 1, 1) := by decide +kernel
theorem dX7_areKin_14 : decode cX7_areKin 14 = .ok (.goto 4, 3) := by decide +kernel
theorem dX7_areKin_17 : decode cX7_areKin 17 = .ok (.iconst 0, 1) := by decide +kernel
theorem dX7_areKin_18 : decode cX7_areKin 18 = .ok (.ireturn, 1) := by decide +kernel
theorem dX7_startAnew_0 : decode cX7_startAnew 0 = .ok (.aload_n 0, 1) := by decide +kernel
theorem dX7_startAnew_1 : decode cX7_startAnew 1 = .ok (.iconst 0, 1) := by decide +kernel
theorem dX7_startAnew_2 : decode cX7_startAnew 2 = .ok (.putfield 9, 3) := by decide +kernel
theorem dX7_startAnew_5 : decode cX7_startAnew 5 = .ok (.aload_n 0, 1) := by decide +kernel
theorem dX7_startAnew_6 : decode cX7_startAnew 6 = .ok (.iconst 0, 1) := by decide +kernel
theorem dX7_startAnew_7 : decode cX7_startAnew 7 = .ok (.putfield 15, 3) := by decide +kernel
theorem dX7_startAnew_10 : decode cX7_startAnew 10 = .ok (.aload_n 0, 1) := by decide +kernel
theorem dX7_startAnew_11 : decode cX7_startAnew 11 = .ok (.iconst 0, 1) := by decide +kernel
theorem dX7_startAnew_12 : decode cX7_startAnew 12 = .ok (.putfield 18, 3) := by decide +kernel
theorem dX7_startAnew_15 : decode cX7_startAnew 15 = .ok (.aload_n 0, 1) := by decide +kernel
theorem dX7_startAnew_16 : decode cX7_startAnew 16 = .ok (.iconst 4, 1) := by decide +kernel
theorem dX7_startAnew_17 : decode cX7_startAnew 17 = .ok (.putfield 21, 3) := by decide +kernel
theorem dX7_startAnew_20 : decode cX7_startAnew 20 = .ok (.aload_n 0, 1) := by decide +kernel
theorem dX7_startAnew_21 : decode cX7_startAnew 21 = .ok (.sipush 480, 3) := by decide +kernel
theorem dX7_startAnew_24 : decode cX7_startAnew 24 = .ok (.putfield 24, 3) := by decide +kernel
theorem dX7_startAnew_27 : decode cX7_startAnew 27 = .ok (.aload_n 0, 1) := by decide +kernel
theorem dX7_startAnew_28 : decode cX7_startAnew 28 = .ok (.iconst 0, 1) := by decide +kernel
theorem dX7_startAnew_29 : decode cX7_startAnew 29 = .ok (.putfield 27, 3) := by decide +kernel
theorem dX7_startAnew_32 : decode cX7_startAnew 32 = .ok (.aload_n 0, 1) := by decide +kernel
theorem dX7_startAnew_33 : decode cX7_startAnew 33 = .ok (.getfield 40, 3) := by decide +kernel
theorem dX7_startAnew_36 : decode cX7_startAnew 36 = .ok (.iconst 0, 1) := by decide +kernel
theorem dX7_startAnew_37 : decode cX7_startAnew 37 = .ok (.invokestatic 58, 3) := by decide +kernel
theorem dX7_startAnew_40 : decode cX7_startAnew 40 = .ok (.aload_n 0, 1) := by decide +kernel
theorem dX7_startAnew_41 : decode cX7_startAnew 41 = .ok (.getfield 43, 3) := by decide +kernel
theorem dX7_startAnew_44 : decode cX7_startAnew 44 = .ok (.iconst 0, 1) := by decide +kernel
theorem dX7_startAnew_45 : decode cX7_startAnew 45 = .ok (.invokestatic 58, 3) := by decide +kernel
theorem dX7_startAnew_48 : decode cX7_startAnew 48 = .ok (.return_, 1) := by decide +kernel
theorem dX7_makeKin_0 : decode cX7_makeKin 0 = .ok (.aload_n 0, 1) := by decide +kernel
theorem dX7_makeKin_1 : decode cX7_makeKin 1 = .ok (.getfield 43, 3) := by decide +kernel
theorem dX7_makeKin_4 : decode cX7_makeKin 4 = .ok (.iload_n 1, 1) := by decide +kernel
theorem dX7_makeKin_5 : decode cX7_makeKin 5 = .ok (.dup2, 1) := by decide +kernel
theorem dX7_makeKin_6 : decode cX7_makeKin 6 = .ok (.iaload, 1) := by decide +kernel
theorem dX7_makeKin_7 : decode cX7_makeKin 7 = .ok (.iconst 1, 1) := by decide +kernel
theorem dX7_makeKin_8 : decode cX7_makeKin 8 = .ok (.iload_n 2, 1) := by decide +kernel
theorem dX7_makeKin_9 : decode cX7_makeKin 9 = .ok (.ishl, 1) := by decide +kernel
theorem dX7_makeKin_10 : decode cX7_makeKin 10 = .ok (.ior, 1) := by decide +kernel
theorem dX7_makeKin_11 : decode cX7_makeKin 11 = .ok (.iastore, 1) := by decide +kernel
theorem dX7_makeKin_12 : decode cX7_makeKin 12 = .ok (.aload_n 0, 1) := by decide +kernel
theorem dX7_makeKin_13 : decode cX7_makeKin 13 = .ok (.getfield 43, 3) := by decide +kernel
theorem dX7_makeKin_16 : decode cX7_makeKin 16 = .ok (.iload_n 2, 1) := by decide +kernel
theorem dX7_makeKin_17 : decode cX7_makeKin 17 = .ok (.dup2, 1) := by decide +kernel
theorem dX7_makeKin_18 : decode cX7_makeKin 18 = .ok (.iaload, 1) := by decide +kernel
theorem dX7_makeKin_19 : decode cX7_makeKin 19 = .ok (.iconst 1, 1) := by decide +kernel
theorem dX7_makeKin_20 : decode cX7_makeKin 20 = .ok (.iload_n 1, 1) := by decide +kernel
theorem dX7_makeKin_21 : decode cX7_makeKin 21 = .ok (.ishl, 1) := by decide +kernel
theorem dX7_makeKin_22 : decode cX7_makeKin 22 = .ok (.ior, 1) := by decide +kernel
theorem dX7_makeKin_23 : decode cX7_makeKin 23 = .ok (.iastore, 1) := by decide +kernel
theorem dX7_makeKin_24 : decode cX7_makeKin 24 = .ok (.return_, 1) := by decide +kernel
theorem dX7_copyFrom_0 : decode cX7_copyFrom 0 = .ok (.aload_n 0, 1) := by decide +kernel
theorem dX7_copyFrom_1 : decode cX7_copyFrom 1 = .ok (.aload_n 1, 1) := by decide +kernel
theorem dX7_copyFrom_2 : decode cX7_copyFrom 2 = .ok (.getfield 9, 3) := by decide +kernel
theorem dX7_copyFrom_5 : decode cX7_copyFrom 5 = .ok (.putfield 9, 3) := by decide +kernel
theorem dX7_copyFrom_8 : decode cX7_copyFrom 8 = .ok (.aload_n 0, 1) := by decide +kernel
theorem dX7_copyFrom_9 : decode cX7_copyFrom 9 = .ok (.aload_n 1, 1) := by decide +kernel
theorem dX7_copyFrom_10 : decode cX7_copyFrom 10 = .ok (.getfield 15, 3) := by decide +kernel
theorem dX7_copyFrom_13 : decode cX7_copyFrom 13 = .ok (.putfield 15, 3) := by decide +kernel
theorem dX7_copyFrom_16 : decode cX7_copyFrom 16 = .ok (.aload_n 0, 1) := by decide +kernel
theorem dX7_copyFrom_17 : decode cX7_copyFrom 17 = .ok (.aload_n 1, 1) := by decide +kernel
theorem dX7_copyFrom_18 : decode cX7_copyFrom 18 = .ok (.getfield 18, 3) := by decide +kernel
theorem dX7_copyFrom_21 : decode cX7_copyFrom 21 = .ok (.putfield 18, 3) := by decide +kernel
theorem dX7_copyFrom_24 : decode cX7_copyFrom 24 = .ok (.aload_n 0, 1) := by decide +kernel
theorem dX7_copyFrom_25 : decode cX7_copyFrom 25 = .ok (.aload_n 1, 1) := by decide +kernel
theorem dX7_copyFrom_26 : decode cX7_copyFrom 26 = .ok (.getfield 21, 3) := by decide +kernel
theorem dX7_copyFrom_29 : decode cX7_copyFrom 29 = .ok (.putfield 21, 3) := by decide +kernel
theorem dX7_copyFrom_32 : decode cX7_copyFrom 32 = .ok (.aload_n 0, 1) := by decide +kernel
theorem dX7_copyFrom_33 : decode cX7_copyFrom 33 = .ok (.aload_n 1, 1) := by decide +kernel
theorem dX7_copyFrom_34 : decode cX7_copyFrom 34 = .ok (.getfield 24, 3) := by decide +kernel
theorem dX7_copyFrom_37 : decode cX7_copyFrom 37 = .ok (.putfield 24, 3) := by decide +kernel
theorem dX7_copyFrom_40 : decode cX7_copyFrom 40 = .ok (.aload_n 0, 1) := by decide +kernel
theorem dX7_copyFrom_41 : decode cX7_copyFrom 41 = .ok (.aload_n 1, 1) := by decide +kernel
theorem dX7_copyFrom_42 : decode cX7_copyFrom 42 = .ok (.getfield 27, 3) := by decide +kernel
theorem dX7_copyFrom_45 : decode cX7_copyFrom 45 = .ok (.putfield 27, 3) := by decide +kernel
theorem dX7_copyFrom_48 : decode cX7_copyFrom 48 = .ok (.aload_n 1, 1) := by decide +kernel
theorem dX7_copyFrom_49 : decode cX7_copyFrom 49 = .ok (.getfield 30, 3) := by decide +kernel
theorem dX7_copyFrom_52 : decode cX7_copyFrom 52 = .ok (.iconst 0, 1) := by decide +kernel
theorem dX7_copyFrom_53 : decode cX7_copyFrom 53 = .ok (.aload_n 0, 1) := by decide +kernel
theorem dX7_copyFrom_54 : decode cX7_copyFrom 54 = .ok (.getfield 30, 3) := by decide +kernel
theorem dX7_copyFrom_57 : decode cX7_copyFrom 57 = .ok (.iconst 0, 1) := by decide +kernel
theorem dX7_copyFrom_58 : decode cX7_copyFrom 58 = .ok (.bipush 7, 2) := by decide +kernel
theorem dX7_copyFrom_60 : decode cX7_copyFrom 60 = .ok (.invokestatic 64, 3) := by decide +kernel
theorem dX7_copyFrom_63 : decode cX7_copyFrom 63 = .ok (.aload_n 1, 1) := by decide +kernel
theorem dX7_copyFrom_64 : decode cX7_copyFrom 64 = .ok (.getfield 34, 3) := by decide +kernel
theorem dX7_copyFrom_67 : decode cX7_copyFrom 67 = .ok (.iconst 0, 1) := by decide +kernel
theorem dX7_copyFrom_68 : decode cX7_copyFrom 68 = .ok (.aload_n 0, 1) := by decide +kernel
theorem dX7_copyFrom_69 : decode cX7_copyFrom 69 = .ok (.getfield 34, 3) := by decide +kernel
theorem dX7_copyFrom_72 : decode cX7_copyFrom 72 = .ok (.iconst 0, 1) := by decide +kernel
theorem dX7_copyFrom_73 : decode cX7_copyFrom 73 = .ok (.bipush 36, 2) := by decide +kernel
theorem dX7_copyFrom_75 : decode cX7_copyFrom 75 = .ok (.invokestatic 64, 3) := by decide +kernel
theorem dX7_copyFrom_78 : decode cX7_copyFrom 78 = .ok (.aload_n 1, 1) := by decide +kernel
theorem dX7_copyFrom_79 : decode cX7_copyFrom 79 = .ok (.getfield 37, 3) := by decide +kernel
theorem dX7_copyFrom_82 : decode cX7_copyFrom 82 = .ok (.iconst 0, 1) := by decide +kernel
theorem dX7_copyFrom_83 : decode cX7_copyFrom 83 = .ok (.aload_n 0, 1) := by decide +kernel
theorem dX7_copyFrom_84 : decode cX7_copyFrom 84 = .ok (.getfield 37, 3) := by decide +kernel
theorem dX7_copyFrom_87 : decode cX7_copyFrom 87 = .ok (.iconst 0, 1) := by decide +kernel
theorem dX7_copyFrom_88 : decode cX7_copyFrom 88 = .ok (.bipush 9, 2) := by decide +kernel
theorem dX7_copyFrom_90 : decode cX7_copyFrom 90 = .ok (.invokestatic 64, 3) := by decide +kernel
theorem dX7_copyFrom_93 : decode cX7_copyFrom 93 = .ok (.aload_n 1, 1) := by decide +kernel
theorem dX7_copyFrom_94 : decode cX7_copyFrom 94 = .ok (.getfield 40, 3) := by decide +kernel
theorem dX7_copyFrom_97 : decode cX7_copyFrom 97 = .ok (.iconst 0, 1) := by decide +kernel
theorem dX7_copyFrom_98 : decode cX7_copyFrom 98 = .ok (.aload_n 0, 1) := by decide +kernel
theorem dX7_copyFrom_99 : decode cX7_copyFrom 99 = .ok (.getfield 40, 3) := by decide +kernel
theorem dX7_copyFrom_102 : decode cX7_copyFrom 102 = .ok (.iconst 0, 1) := by decide +kernel
theorem dX7_copyFrom_103 : decode cX7_copyFrom 103 = .ok (.bipush 9, 2) := by decide +kernel
theorem dX7_copyFrom_105 : decode cX7_copyFrom 105 = .ok (.invokestatic 64, 3) := by decide +kernel
theorem dX7_copyFrom_108 : decode cX7_copyFrom 108 = .ok (.aload_n 1, 1) := by decide +kernel
theorem dX7_copyFrom_109 : decode cX7_copyFrom 109 = .ok (.getfield 43, 3) := by decide +kernel
theorem dX7_copyFrom_112 : decode cX7_copyFrom 112 = .ok (.iconst 0, 1) := by decide +kernel
theorem dX7_copyFrom_113 : decode cX7_copyFrom 113 = .ok (.aload_n 0, 1) := by decide +kernel
theorem dX7_copyFrom_114 : decode cX7_copyFrom 114 = .ok (.getfield 43, 3) := by decide +kernel
theorem dX7_copyFrom_117 : decode cX7_copyFrom 117 = .ok (.iconst 0, 1) := by decide +kernel
theorem dX7_copyFrom_118 : decode cX7_copyFrom 118 = .ok (.bipush 9, 2) := by decide +kernel
theorem dX7_copyFrom_120 : decode cX7_copyFrom 120 = .ok (.invokestatic 64, 3) := by decide +kernel
theorem dX7_copyFrom_123 : decode cX7_copyFrom 123 = .ok (.aload_n 1, 1) := by decide +kernel
theorem dX7_copyFrom_124 : decode cX7_copyFrom 124 = .ok (.getfield 46, 3) := by decide +kernel
theorem dX7_copyFrom_127 : decode cX7_copyFrom 127 = .ok (.iconst 0, 1) := by decide +kernel
theorem dX7_copyFrom_128 : decode cX7_copyFrom 128 = .ok (.aload_n 0, 1) := by decide +kernel
theorem dX7_copyFrom_129 : decode cX7_copyFrom 129 = .ok (.getfield 46, 3) := by decide +kernel
theorem dX7_copyFrom_132 : decode cX7_copyFrom 132 = .ok (.iconst 0, 1) := by decide +kernel
theorem dX7_copyFrom_133 : decode cX7_copyFrom 133 = .ok (.bipush 10, 2) := by decide +kernel
theorem dX7_copyFrom_135 : decode cX7_copyFrom 135 = .ok (.invokestatic 64, 3) := by decide +kernel
theorem dX7_copyFrom_138 : decode cX7_copyFrom 138 = .ok (.aload_n 1, 1) := by decide +kernel
theorem dX7_copyFrom_139 : decode cX7_copyFrom 139 = .ok (.getfield 49, 3) := by decide +kernel
theorem dX7_copyFrom_142 : decode cX7_copyFrom 142 = .ok (.iconst 0, 1) := by decide +kernel
theorem dX7_copyFrom_143 : decode cX7_copyFrom 143 = .ok (.aload_n 0, 1) := by decide +kernel
theorem dX7_copyFrom_144 : decode cX7_copyFrom 144 = .ok (.getfield 49, 3) := by decide +kernel
theorem dX7_copyFrom_147 : decode cX7_copyFrom 147 = .ok (.iconst 0, 1) := by decide +kernel
theorem dX7_copyFrom_148 : decode cX7_copyFrom 148 = .ok (.bipush 10, 2) := by decide +kernel
theorem dX7_copyFrom_150 : decode cX7_copyFrom 150 = .ok (.invokestatic 64, 3) := by decide +kernel
theorem dX7_copyFrom_153 : decode cX7_copyFrom 153 = .ok (.aload_n 1, 1) := by decide +kernel
theorem dX7_copyFrom_154 : decode cX7_copyFrom 154 = .ok (.getfield 52, 3) := by decide +kernel
theorem dX7_copyFrom_157 : decode cX7_copyFrom 157 = .ok (.iconst 0, 1) := by decide +kernel
theorem dX7_copyFrom_158 : decode cX7_copyFrom 158 = .ok (.aload_n 0, 1) := by decide +kernel
theorem dX7_copyFrom_159 : decode cX7_copyFrom 159 = .ok (.getfield 52, 3) := by decide +kernel
theorem dX7_copyFrom_162 : decode cX7_copyFrom 162 = .ok (.iconst 0, 1) := by decide +kernel
theorem dX7_copyFrom_163 : decode cX7_copyFrom 163 = .ok (.bipush 10, 2) := by decide +kernel
theorem dX7_copyFrom_165 : decode cX7_copyFrom 165 = .ok (.invokestatic 64, 3) := by decide +kernel
theorem dX7_copyFrom_168 : decode cX7_copyFrom 168 = .ok (.aload_n 1, 1) := by decide +kernel
theorem dX7_copyFrom_169 : decode cX7_copyFrom 169 = .ok (.getfield 55, 3) := by decide +kernel
theorem dX7_copyFrom_172 : decode cX7_copyFrom 172 = .ok (.iconst 0, 1) := by decide +kernel
theorem dX7_copyFrom_173 : decode cX7_copyFrom 173 = .ok (.aload_n 0, 1) := by decide +kernel
theorem dX7_copyFrom_174 : decode cX7_copyFrom 174 = .ok (.getfield 55, 3) := by decide +kernel
theorem dX7_copyFrom_177 : decode cX7_copyFrom 177 = .ok (.iconst 0, 1) := by decide +kernel
theorem dX7_copyFrom_178 : decode cX7_copyFrom 178 = .ok (.bipush 10, 2) := by decide +kernel
theorem dX7_copyFrom_180 : decode cX7_copyFrom 180 = .ok (.invokestatic 64, 3) := by decide +kernel
theorem dX7_copyFrom_183 : decode cX7_copyFrom 183 = .ok (.return_, 1) := by decide +kernel
theorem dX7_slateOf_0 : decode cX7_slateOf 0 = .ok (.aload_n 0, 1) := by decide +kernel
theorem dX7_slateOf_1 : decode cX7_slateOf 1 = .ok (.getfield 27, 3) := by decide +kernel
theorem dX7_slateOf_4 : decode cX7_slateOf 4 = .ok (.ifCond .le 7, 3) := by decide +kernel
theorem dX7_slateOf_7 : decode cX7_slateOf 7 = .ok (.iload_n 1, 1) := by decide +kernel
theorem dX7_slateOf_8 : decode cX7_slateOf 8 = .ok (.ifCond .ge 5, 3) := by decide +kernel
theorem dX7_slateOf_11 : decode cX7_slateOf 11 = .ok (.iconst 0, 1) := by decide +kernel
theorem dX7_slateOf_12 : decode cX7_slateOf 12 = .ok (.ireturn, 1) := by decide +kernel
theorem dX7_slateOf_13 : decode cX7_slateOf 13 = .ok (.aload_n 0, 1) := by decide +kernel
theorem dX7_slateOf_14 : decode cX7_slateOf 14 = .ok (.getfield 30, 3) := by decide +kernel
theorem dX7_slateOf_17 : decode cX7_slateOf 17 = .ok (.iload_n 1, 1) := by decide +kernel
theorem dX7_slateOf_18 : decode cX7_slateOf 18 = .ok (.aload_n 0, 1) := by decide +kernel
theorem dX7_slateOf_19 : decode cX7_slateOf 19 = .ok (.getfield 27, 3) := by decide +kernel
theorem dX7_slateOf_22 : decode cX7_slateOf 22 = .ok (.irem, 1) := by decide +kernel
theorem dX7_slateOf_23 : decode cX7_slateOf 23 = .ok (.iaload, 1) := by decide +kernel
theorem dX7_slateOf_24 : decode cX7_slateOf 24 = .ok (.ireturn, 1) := by decide +kernel
theorem dX7_kinPairs_0 : decode cX7_kinPairs 0 = .ok (.iconst 0, 1) := by decide +kernel
theorem dX7_kinPairs_1 : decode cX7_kinPairs 1 = .ok (.istore_n 1, 1) := by decide +kernel
theorem dX7_kinPairs_2 : decode cX7_kinPairs 2 = .ok (.iconst 0, 1) := by decide +kernel
theorem dX7_kinPairs_3 : decode cX7_kinPairs 3 = .ok (.istore_n 2, 1) := by decide +kernel
theorem dX7_kinPairs_4 : decode cX7_kinPairs 4 = .ok (.iload_n 2, 1) := by decide +kernel
theorem dX7_kinPairs_5 : decode cX7_kinPairs 5 = .ok (.aload_n 0, 1) := by decide +kernel
theorem dX7_kinPairs_6 : decode cX7_kinPairs 6 = .ok (.getfield 15, 3) := by decide +kernel
theorem dX7_kinPairs_9 : decode cX7_kinPairs 9 = .ok (.if_icmp .ge 21, 3) := by decide +kernel
theorem dX7_kinPairs_12 : decode cX7_kinPairs 12 = .ok (.iload_n 1, 1) := by decide +kernel
theorem dX7_kinPairs_13 : decode cX7_kinPairs 13 = .ok (.aload_n 0, 1) := by decide +kernel
theorem dX7_kinPairs_14 : decode cX7_kinPairs 14 = .ok (.getfield 43, 3) := by decide +kernel
theorem dX7_kinPairs_17 : decode cX7_kinPairs 17 = .ok (.iload_n 2, 1) := by decide +kernel
theorem dX7_kinPairs_18 : decode cX7_kinPairs 18 = .ok (.iaload, 1) := by decide +kernel
theorem dX7_kinPairs_19 : decode cX7_kinPairs 19 = .ok (.invokestatic 70, 3) := by decide +kernel
theorem dX7_kinPairs_22 : decode cX7_kinPairs 22 = .ok (.iadd, 1) := by decide +kernel
theorem dX7_kinPairs_23 : decode cX7_kinPairs 23 = .ok (.istore_n 1, 1) := by decide +kernel
theorem dX7_kinPairs_24 : decode cX7_kinPairs 24 = .ok (.iinc 2 1, 3) := by decide +kernel
theorem dX7_kinPairs_27 : decode cX7_kinPairs 27 = .ok (.goto (-23), 3) := by decide +kernel
theorem dX7_kinPairs_30 : decode cX7_kinPairs 30 = .ok (.iload_n 1, 1) := by decide +kernel
theorem dX7_kinPairs_31 : decode cX7_kinPairs 31 = .ok (.iconst 2, 1) := by decide +kernel
theorem dX7_kinPairs_32 : decode cX7_kinPairs 32 = .ok (.idiv, 1) := by decide +kernel
theorem dX7_kinPairs_33 : decode cX7_kinPairs 33 = .ok (.ireturn, 1) := by decide +kernel
theorem dX7_familyOf_0 : decode cX7_familyOf 0 = .ok (.iconst 1, 1) := by decide +kernel
theorem dX7_familyOf_1 : decode cX7_familyOf 1 = .ok (.iload_n 1, 1) := by decide +kernel
theorem dX7_familyOf_2 : decode cX7_familyOf 2 = .ok (.ishl, 1) := by decide +kernel
theorem dX7_familyOf_3 : decode cX7_familyOf 3 = .ok (.istore_n 2, 1) := by decide +kernel
theorem dX7_familyOf_4 : decode cX7_familyOf 4 = .ok (.iconst 0, 1) := by decide +kernel
theorem dX7_familyOf_5 : decode cX7_familyOf 5 = .ok (.istore_n 3, 1) := by decide +kernel
theorem dX7_familyOf_6 : decode cX7_familyOf 6 = .ok (.iload_n 3, 1) := by decide +kernel
theorem dX7_familyOf_7 : decode cX7_familyOf 7 = .ok (.aload_n 0, 1) := by decide +kernel
theorem dX7_familyOf_8 : decode cX7_familyOf 8 = .ok (.getfield 15, 3) := by decide +kernel
theorem dX7_familyOf_11 : decode cX7_familyOf 11 = .ok (.if_icmp .ge 50, 3) := by decide +kernel
theorem dX7_familyOf_14 : decode cX7_familyOf 14 = .ok (.iconst 0, 1) := by decide +kernel
theorem dX7_familyOf_15 : decode cX7_familyOf 15 = .ok (.istore 4, 2) := by decide +kernel
theorem dX7_familyOf_17 : decode cX7_familyOf 17 = .ok (.iload 4, 2) := by decide +kernel
theorem dX7_familyOf_19 : decode cX7_familyOf 19 = .ok (.aload_n 0, 1) := by decide +kernel
theorem dX7_familyOf_20 : decode cX7_familyOf 20 = .ok (.getfield 15, 3) := by decide +kernel
theorem dX7_familyOf_23 : decode cX7_familyOf 23 = .ok (.if_icmp .ge 32, 3) := by decide +kernel
theorem dX7_familyOf_26 : decode cX7_familyOf 26 = .ok (.iload_n 2, 1) := by decide +kernel
theorem dX7_familyOf_27 : decode cX7_familyOf 27 = .ok (.iload_n 2, 1) := by decide +kernel
theorem dX7_familyOf_28 : decode cX7_familyOf 28 = .ok (.iload 4, 2) := by decide +kernel
theorem dX7_familyOf_30 : decode cX7_familyOf 30 = .ok (.ishr, 1) := by decide +kernel
theorem dX7_familyOf_31 : decode cX7_familyOf 31 = .ok (.iconst 1, 1) := by decide +kernel
theorem dX7_familyOf_32 : decode cX7_familyOf 32 = .ok (.iand, 1) := by decide +kernel
theorem dX7_familyOf_33 : decode cX7_familyOf 33 = .ok (.ifCond .eq 13, 3) := by decide +kernel
theorem dX7_familyOf_36 : decode cX7_familyOf 36 = .ok (.aload_n 0, 1) := by decide +kernel
theorem dX7_familyOf_37 : decode cX7_familyOf 37 = .ok (.getfield 43, 3) := by decide +kernel
theorem dX7_familyOf_40 : decode cX7_familyOf 40 = .ok (.iload 4, 2) := by decide +kernel
theorem dX7_familyOf_42 : decode cX7_familyOf 42 = .ok (.iaload, 1) := by decide +kernel
theorem dX7_familyOf_43 : decode cX7_familyOf 43 = .ok (.goto 4, 3) := by decide +kernel
theorem dX7_familyOf_46 : decode cX7_familyOf 46 = .ok (.iconst 0, 1) := by decide +kernel
theorem dX7_familyOf_47 : decode cX7_familyOf 47 = .ok (.ior, 1) := by decide +kernel
theorem dX7_familyOf_48 : decode cX7_familyOf 48 = .ok (.istore_n 2, 1) := by decide +kernel
theorem dX7_familyOf_49 : decode cX7_familyOf 49 = .ok (.iinc 4 1, 3) := by decide +kernel
theorem dX7_familyOf_52 : decode cX7_familyOf 52 = .ok (.goto (-35), 3) := by decide +kernel
theorem dX7_familyOf_55 : decode cX7_familyOf 55 = .ok (.iinc 3 1, 3) := by decide +kernel
theorem dX7_familyOf_58 : decode cX7_familyOf 58 = .ok (.goto (-52), 3) := by decide +kernel
theorem dX7_familyOf_61 : decode cX7_familyOf 61 = .ok (.iload_n 2, 1) := by decide +kernel
theorem dX7_familyOf_62 : decode cX7_familyOf 62 = .ok (.ireturn, 1) := by decide +kernel
theorem dX7_families_0 : decode cX7_families 0 = .ok (.iconst 0, 1) := by decide +kernel
theorem dX7_families_1 : decode cX7_families 1 = .ok (.istore_n 1, 1) := by decide +kernel
theorem dX7_families_2 : decode cX7_families 2 = .ok (.iconst 0, 1) := by decide +kernel
theorem dX7_families_3 : decode cX7_families 3 = .ok (.istore_n 2, 1) := by decide +kernel
theorem dX7_families_4 : decode cX7_families 4 = .ok (.iload_n 2, 1) := by decide +kernel
theorem dX7_families_5 : decode cX7_families 5 = .ok (.aload_n 0, 1) := by decide +kernel
theorem dX7_families_6 : decode cX7_families 6 = .ok (.getfield 15, 3) := by decide +kernel
theorem dX7_families_9 : decode cX7_families 9 = .ok (.if_icmp .ge 29, 3) := by decide +kernel
theorem dX7_families_12 : decode cX7_families 12 = .ok (.iload_n 1, 1) := by decide +kernel
theorem dX7_families_13 : decode cX7_families 13 = .ok (.aload_n 0, 1) := by decide +kernel
theorem dX7_families_14 : decode cX7_families 14 = .ok (.iload_n 2, 1) := by decide +kernel
theorem dX7_families_15 : decode cX7_families 15 = .ok (.invokevirtual 76, 3) := by decide +kernel
theorem dX7_families_18 : decode cX7_families 18 = .ok (.invokestatic 79, 3) := by decide +kernel
theorem dX7_families_21 : decode cX7_families 21 = .ok (.iload_n 2, 1) := by decide +kernel
theorem dX7_families_22 : decode cX7_families 22 = .ok (.if_icmp .ne 7, 3) := by decide +kernel
theorem dX7_families_25 : decode cX7_families 25 = .ok (.iconst 1, 1) := by decide +kernel
theorem dX7_families_26 : decode cX7_families 26 = .ok (.goto 4, 3) := by decide +kernel
theorem dX7_families_29 : decode cX7_families 29 = .ok (.iconst 0, 1) := by decide +kernel
theorem dX7_families_30 : decode cX7_families 30 = .ok (.iadd, 1) := by decide +kernel
theorem dX7_families_31 : decode cX7_families 31 = .ok (.istore_n 1, 1) := by decide +kernel
theorem dX7_families_32 : decode cX7_families 32 = .ok (.iinc 2 1, 3) := by decide +kernel
theorem dX7_families_35 : decode cX7_families 35 = .ok (.goto (-31), 3) := by decide +kernel
theorem dX7_families_38 : decode cX7_families 38 = .ok (.iload_n 1, 1) := by decide +kernel
theorem dX7_families_39 : decode cX7_families 39 = .ok (.ireturn, 1) := by decide +kernel
def f7_areKin (x1 : Int32) (x2 : Int32) (μ : zMem) : zRes := zin x1 9 (zlet (fun (s2 : Int32) => zbl s2 (some (0, s2, μ))) (fun j3 => if ((zshr (μ 7 x1.toNatClampNeg) x2) &&& (1 : Int32)) = 0 then j3 (0 : Int32) else j3 (1 : Int32)))
set_option maxHeartbeats 1000000 in
theorem t7_areKin {g : Bool} (x1 : Int32) (x2 : Int32) (μ : zMem) : zMR yX7_areKin cX7_areKin 3 (some .boolean) 1 [.ref 2, .int x1, .int x2] (nX g) (SX g) μ (f7_areKin x1 x2 μ) := by
  refine zMR_of (by decide +kernel) rfl (Nat.le_of_ble_eq_true rfl) (L := [.ref 2, .int x1, .int x2]) rfl ?_
  unfold f7_areKin
  refine z_aload_n (pc := 0) dX7_areKin_0 rfl ?_
  refine z_getr (pc := 1) fdX7_43 (nx_lt (by decide)) (sx_2 g) rfl rfl dX7_areKin_1 ?_
  refine z_iload_n (pc := 4) dX7_areKin_4 rfl ?_
  refine z_iald (pc := 5) (nx_lt (by decide)) (sx_7 g) rfl dX7_areKin_5 (fun h1 => ?_)
  refine z_iload_n (pc := 6) dX7_areKin_6 rfl ?_
  refine z_ishr (pc := 7) dX7_areKin_7 ?_
  refine z_iconst (pc := 8) (1 : Int32) dX7_areKin_8 (by decide) ?_
  refine z_iand (pc := 9) dX7_areKin_9 ?_
  refine z_let (fun (j : Int32 → zRes) => ∀ (s2 : Int32), zR yX7_areKin cX7_areKin 3 (some .boolean) 1 18 [.null, .null, .null] [.int s2] (nX g) (SX g) μ (j s2)) ?_ (fun j3 hj3 => ?_)
  · intro s2
    exact z_zret (pc := 18) rfl dX7_areKin_18
  · refine z_if_eq (pc := 10) (tgt := 17) dX7_areKin_10 (by decide) (fun c4 => ?_) (fun c5 => ?_)
    · refine z_iconst (pc := 17) (0 : Int32) dX7_areKin_17 (by decide) ?_
      refine z_loc (L' := [.null, .null, .null]) ⟨Or.inl rfl, ⟨Or.inl rfl, ⟨Or.inl rfl, trivial⟩⟩⟩ ?_
      exact hj3 (0 : Int32)
    · refine z_iconst (pc := 13) (1 : Int32) dX7_areKin_13 (by decide) ?_
      refine z_goto (pc := 14) (tgt := 18) dX7_areKin_14 (by decide) ?_
      refine z_loc (L' := [.null, .null, .null]) ⟨Or.inl rfl, ⟨Or.inl rfl, ⟨Or.inl rfl, trivial⟩⟩⟩ ?_
      exact hj3 (1 : Int32)
def f7_startAnew (μ : zMem) : zRes := zlet (zset μ 12 0 (0 : Int32)) (fun (μ1 : zMem) => zlet (zset μ1 12 1 (0 : Int32)) (fun (μ2 : zMem) => zlet (zset μ2 12 2 (0 : Int32)) (fun (μ3 : zMem) => zlet (zset μ3 12 3 (4 : Int32)) (fun (μ4 : zMem) => zlet (zset μ4 12 4 (480 : Int32)) (fun (μ5 : zMem) => zlet (zset μ5 12 5 (0 : Int32)) (fun (μ6 : zMem) => bnd0 (fJ7_fill_53178 16 9 (0 : Int32) μ6) (fun (v7 : Int32) (μ8 : zMem) => bnd0 (fJ7_fill_53178 17 9 (0 : Int32) μ8) (fun (v9 : Int32) (μ10 : zMem) => some (0, 0, μ10)))))))))
set_option maxHeartbeats 1000000 in
theorem t7_startAnew {g : Bool} (μ : zMem) : zMR yX7_startAnew cX7_startAnew 1 (none) 2 [.ref 12] (nX g) (SX g) μ (f7_startAnew μ) := by
  refine zMR_of (by decide +kernel) rfl (Nat.le_of_ble_eq_true rfl) (L := [.ref 12]) rfl ?_
  unfold f7_startAnew
  refine z_aload_n (pc := 0) dX7_startAnew_0 rfl ?_
  refine z_iconst (pc := 1) (0 : Int32) dX7_startAnew_1 (by decide) ?_
  refine z_puti (pc := 2) fdX7_9 (nx_lt (by decide)) (sx_12 g) rfl rfl dX7_startAnew_2 ?_
  refine z_mem (fun μ1 => ?_)
  refine z_aload_n (pc := 5) dX7_startAnew_5 rfl ?_
  refine z_iconst (pc := 6) (0 : Int32) dX7_startAnew_6 (by decide) ?_
  refine z_puti (pc := 7) fdX7_15 (nx_lt (by decide)) (sx_12 g) rfl rfl dX7_startAnew_7 ?_
  refine z_mem (fun μ2 => ?_)
  refine z_aload_n (pc := 10) dX7_startAnew_10 rfl ?_
  refine z_iconst (pc := 11) (0 : Int32) dX7_startAnew_11 (by decide) ?_
  refine z_puti (pc := 12) fdX7_18 (nx_lt (by decide)) (sx_12 g) rfl rfl dX7_startAnew_12 ?_
  refine z_mem (fun μ3 => ?_)
  refine z_aload_n (pc := 15) dX7_startAnew_15 rfl ?_
  refine z_iconst (pc := 16) (4 : Int32) dX7_startAnew_16 (by decide) ?_
  refine z_puti (pc := 17) fdX7_21 (nx_lt (by decide)) (sx_12 g) rfl rfl dX7_startAnew_17 ?_
  refine z_mem (fun μ4 => ?_)
  refine z_aload_n (pc := 20) dX7_startAnew_20 rfl ?_
  refine z_sipush (pc := 21) (480 : Int32) dX7_startAnew_21 (by decide) ?_
  refine z_puti (pc := 24) fdX7_24 (nx_lt (by decide)) (sx_12 g) rfl rfl dX7_startAnew_24 ?_
  refine z_mem (fun μ5 => ?_)
  refine z_aload_n (pc := 27) dX7_startAnew_27 rfl ?_
  refine z_iconst (pc := 28) (0 : Int32) dX7_startAnew_28 (by decide) ?_
  refine z_puti (pc := 29) fdX7_27 (nx_lt (by decide)) (sx_12 g) rfl rfl dX7_startAnew_29 ?_
  refine z_mem (fun μ6 => ?_)
  refine z_aload_n (pc := 32) dX7_startAnew_32 rfl ?_
  refine z_getr (pc := 33) fdX7_40 (nx_lt (by decide)) (sx_12 g) rfl rfl dX7_startAnew_33 ?_
  refine z_iconst (pc := 36) (0 : Int32) dX7_startAnew_36 (by decide) ?_
  refine z_callS (As := [.ref 16, .int (0 : Int32)]) (pc := 37) (ret' := none) ksX7_58 (tJ7_fill_53178 (nx_lt (by decide)) (sx_16 g) _ _) (by decide)  rfl rfl (Nat.le_of_ble_eq_true rfl) dX7_startAnew_37 (fun v7 μ8 => ?_)
  refine z_aload_n (pc := 40) dX7_startAnew_40 rfl ?_
  refine z_getr (pc := 41) fdX7_43 (nx_lt (by decide)) (sx_12 g) rfl rfl dX7_startAnew_41 ?_
  refine z_iconst (pc := 44) (0 : Int32) dX7_startAnew_44 (by decide) ?_
  refine z_callS (As := [.ref 17, .int (0 : Int32)]) (pc := 45) (ret' := none) ksX7_58 (tJ7_fill_53178 (nx_lt (by decide)) (sx_17 g) _ _) (by decide)  rfl rfl (Nat.le_of_ble_eq_true rfl) dX7_startAnew_45 (fun v9 μ10 => ?_)
  exact z_vret (pc := 48) rfl dX7_startAnew_48
def f7_makeKin (x1 : Int32) (x2 : Int32) (μ : zMem) : zRes := zin x1 9 (zin x1 9 (zlet (zset μ 17 x1.toNatClampNeg ((μ 17 x1.toNatClampNeg) ||| (zshl (1 : Int32) x2))) (fun (μ3 : zMem) => zin x2 9 (zin x2 9 (zlet (zset μ3 17 x2.toNatClampNeg ((μ3 17 x2.toNatClampNeg) ||| (zshl (1 : Int32) x1))) (fun (μ6 : zMem) => some (0, 0, μ6)))))))
set_option maxHeartbeats 1000000 in
theorem t7_makeKin {g : Bool} (x1 : Int32) (x2 : Int32) (μ : zMem) : zMR yX7_makeKin cX7_makeKin 3 (none) 1 [.ref 12, .int x1, .int x2] (nX g) (SX g) μ (f7_makeKin x1 x2 μ) := by
  refine zMR_of (by decide +kernel) rfl (Nat.le_of_ble_eq_true rfl) (L := [.ref 12, .int x1, .int x2]) rfl ?_
  unfold f7_makeKin
  refine z_aload_n (pc := 0) dX7_makeKin_0 rfl ?_
  refine z_getr (pc := 1) fdX7_43 (nx_lt (by decide)) (sx_12 g) rfl rfl dX7_makeKin_1 ?_
  refine z_iload_n (pc := 4) dX7_makeKin_4 rfl ?_
  refine z_dup2 (pc := 5) dX7_makeKin_5 rfl rfl ?_
  refine z_iald (pc := 6) (nx_lt (by decide)) (sx_17 g) rfl dX7_makeKin_6 (fun h1 => ?_)
  refine z_iconst (pc := 7) (1 : Int32) dX7_makeKin_7 (by decide) ?_
  refine z_iload_n (pc := 8) dX7_makeKin_8 rfl ?_
  refine z_ishl (pc := 9) dX7_makeKin_9 ?_
  refine z_ior (pc := 10) dX7_makeKin_10 ?_
  refine z_iast (pc := 11) (nx_lt (by decide)) (sx_17 g) rfl dX7_makeKin_11 (fun h2 => ?_)
  refine z_mem (fun μ3 => ?_)
  refine z_aload_n (pc := 12) dX7_makeKin_12 rfl ?_
  refine z_getr (pc := 13) fdX7_43 (nx_lt (by decide)) (sx_12 g) rfl rfl dX7_makeKin_13 ?_
  refine z_iload_n (pc := 16) dX7_makeKin_16 rfl ?_
  refine z_dup2 (pc := 17) dX7_makeKin_17 rfl rfl ?_
  refine z_iald (pc := 18) (nx_lt (by decide)) (sx_17 g) rfl dX7_makeKin_18 (fun h4 => ?_)
  refine z_iconst (pc := 19) (1 : Int32) dX7_makeKin_19 (by decide) ?_
  refine z_iload_n (pc := 20) dX7_makeKin_20 rfl ?_
  refine z_ishl (pc := 21) dX7_makeKin_21 ?_
  refine z_ior (pc := 22) dX7_makeKin_22 ?_
  refine z_iast (pc := 23) (nx_lt (by decide)) (sx_17 g) rfl dX7_makeKin_23 (fun h5 => ?_)
  refine z_mem (fun μ6 => ?_)
  exact z_vret (pc := 24) rfl dX7_makeKin_24
def f7_copyFrom (μ : zMem) : zRes := zlet (zset μ 2 0 (μ 12 0)) (fun (μ1 : zMem) => zlet (zset μ1 2 1 (μ1 12 1)) (fun (μ2 : zMem) => zlet (zset μ2 2 2 (μ2 12 2)) (fun (μ3 : zMem) => zlet (zset μ3 2 3 (μ3 12 3)) (fun (μ4 : zMem) => zlet (zset μ4 2 4 (μ4 12 4)) (fun (μ5 : zMem) => zlet (zset μ5 2 5 (μ5 12 5)) (fun (μ6 : zMem) => zlet (zcpy μ6 13 3 7) (fun (μ7 : zMem) => zlet (zcpy μ7 14 4 36) (fun (μ8 : zMem) => zlet (zcpy μ8 15 5 9) (fun (μ9 : zMem) => zlet (zcpy μ9 16 6 9) (fun (μ10 : zMem) => zlet (zcpy μ10 17 7 9) (fun (μ11 : zMem) => zlet (zcpy μ11 18 8 10) (fun (μ12 : zMem) => zlet (zcpy μ12 19 9 10) (fun (μ13 : zMem) => zlet (zcpy μ13 20 10 10) (fun (μ14 : zMem) => zlet (zcpy μ14 21 11 10) (fun (μ15 : zMem) => some (0, 0, μ15))))))))))))))))
set_option maxHeartbeats 1000000 in
theorem t7_copyFrom {g : Bool} (μ : zMem) : zMR yX7_copyFrom cX7_copyFrom 2 (none) 1 [.ref 2, .ref 12] (nX g) (SX g) μ (f7_copyFrom μ) := by
  refine zMR_of (by decide +kernel) rfl (Nat.le_of_ble_eq_true rfl) (L := [.ref 2, .ref 12]) rfl ?_
  unfold f7_copyFrom
  refine z_aload_n (pc := 0) dX7_copyFrom_0 rfl ?_
  refine z_aload_n (pc := 1) dX7_copyFrom_1 rfl ?_
  refine z_geti (pc := 2) fdX7_9 (nx_lt (by decide)) (sx_12 g) rfl dX7_copyFrom_2 ?_
  refine z_puti (pc := 5) fdX7_9 (nx_lt (by decide)) (sx_2 g) rfl rfl dX7_copyFrom_5 ?_
  refine z_mem (fun μ1 => ?_)
  refine z_aload_n (pc := 8) dX7_copyFrom_8 rfl ?_
  refine z_aload_n (pc := 9) dX7_copyFrom_9 rfl ?_
  refine z_geti (pc := 10) fdX7_15 (nx_lt (by decide)) (sx_12 g) rfl dX7_copyFrom_10 ?_
  refine z_puti (pc := 13) fdX7_15 (nx_lt (by decide)) (sx_2 g) rfl rfl dX7_copyFrom_13 ?_
  refine z_mem (fun μ2 => ?_)
  refine z_aload_n (pc := 16) dX7_copyFrom_16 rfl ?_
  refine z_aload_n (pc := 17) dX7_copyFrom_17 rfl ?_
  refine z_geti (pc := 18) fdX7_18 (nx_lt (by decide)) (sx_12 g) rfl dX7_copyFrom_18 ?_
  refine z_puti (pc := 21) fdX7_18 (nx_lt (by decide)) (sx_2 g) rfl rfl dX7_copyFrom_21 ?_
  refine z_mem (fun μ3 => ?_)
  refine z_aload_n (pc := 24) dX7_copyFrom_24 rfl ?_
  refine z_aload_n (pc := 25) dX7_copyFrom_25 rfl ?_
  refine z_geti (pc := 26) fdX7_21 (nx_lt (by decide)) (sx_12 g) rfl dX7_copyFrom_26 ?_
  refine z_puti (pc := 29) fdX7_21 (nx_lt (by decide)) (sx_2 g) rfl rfl dX7_copyFrom_29 ?_
  refine z_mem (fun μ4 => ?_)
  refine z_aload_n (pc := 32) dX7_copyFrom_32 rfl ?_
  refine z_aload_n (pc := 33) dX7_copyFrom_33 rfl ?_
  refine z_geti (pc := 34) fdX7_24 (nx_lt (by decide)) (sx_12 g) rfl dX7_copyFrom_34 ?_
  refine z_puti (pc := 37) fdX7_24 (nx_lt (by decide)) (sx_2 g) rfl rfl dX7_copyFrom_37 ?_
  refine z_mem (fun μ5 => ?_)
  refine z_aload_n (pc := 40) dX7_copyFrom_40 rfl ?_
  refine z_aload_n (pc := 41) dX7_copyFrom_41 rfl ?_
  refine z_geti (pc := 42) fdX7_27 (nx_lt (by decide)) (sx_12 g) rfl dX7_copyFrom_42 ?_
  refine z_puti (pc := 45) fdX7_27 (nx_lt (by decide)) (sx_2 g) rfl rfl dX7_copyFrom_45 ?_
  refine z_mem (fun μ6 => ?_)
  refine z_aload_n (pc := 48) dX7_copyFrom_48 rfl ?_
  refine z_getr (pc := 49) fdX7_30 (nx_lt (by decide)) (sx_12 g) rfl rfl dX7_copyFrom_49 ?_
  refine z_iconst (pc := 52) (0 : Int32) dX7_copyFrom_52 (by decide) ?_
  refine z_aload_n (pc := 53) dX7_copyFrom_53 rfl ?_
  refine z_getr (pc := 54) fdX7_30 (nx_lt (by decide)) (sx_2 g) rfl rfl dX7_copyFrom_54 ?_
  refine z_iconst (pc := 57) (0 : Int32) dX7_copyFrom_57 (by decide) ?_
  refine z_bipush (pc := 58) (7 : Int32) dX7_copyFrom_58 (by decide) ?_
  refine z_copy (pc := 60) (N := 7) kaX7_64 (by decide) (nx_lt (by decide)) (nx_lt (by decide)) (sx_13 g) (sx_3 g) (by decide) (by decide) (by decide) (by decide) (Nat.le_of_ble_eq_true rfl) dX7_copyFrom_60 ?_
  refine z_mem (fun μ7 => ?_)
  refine z_aload_n (pc := 63) dX7_copyFrom_63 rfl ?_
  refine z_getr (pc := 64) fdX7_34 (nx_lt (by decide)) (sx_12 g) rfl rfl dX7_copyFrom_64 ?_
  refine z_iconst (pc := 67) (0 : Int32) dX7_copyFrom_67 (by decide) ?_
  refine z_aload_n (pc := 68) dX7_copyFrom_68 rfl ?_
  refine z_getr (pc := 69) fdX7_34 (nx_lt (by decide)) (sx_2 g) rfl rfl dX7_copyFrom_69 ?_
  refine z_iconst (pc := 72) (0 : Int32) dX7_copyFrom_72 (by decide) ?_
  refine z_bipush (pc := 73) (36 : Int32) dX7_copyFrom_73 (by decide) ?_
  refine z_copy (pc := 75) (N := 36) kaX7_64 (by decide) (nx_lt (by decide)) (nx_lt (by decide)) (sx_14 g) (sx_4 g) (by decide) (by decide) (by decide) (by decide) (Nat.le_of_ble_eq_true rfl) dX7_copyFrom_75 ?_
  refine z_mem (fun μ8 => ?_)
  refine z_aload_n (pc := 78) dX7_copyFrom_78 rfl ?_
  refine z_getr (pc := 79) fdX7_37 (nx_lt (by decide)) (sx_12 g) rfl rfl dX7_copyFrom_79 ?_
  refine z_iconst (pc := 82) (0 : Int32) dX7_copyFrom_82 (by decide) ?_
  refine z_aload_n (pc := 83) dX7_copyFrom_83 rfl ?_
  refine z_getr (pc := 84) fdX7_37 (nx_lt (by decide)) (sx_2 g) rfl rfl dX7_copyFrom_84 ?_
  refine z_iconst (pc := 87) (0 : Int32) dX7_copyFrom_87 (by decide) ?_
  refine z_bipush (pc := 88) (9 : Int32) dX7_copyFrom_88 (by decide) ?_
  refine z_copy (pc := 90) (N := 9) kaX7_64 (by decide) (nx_lt (by decide)) (nx_lt (by decide)) (sx_15 g) (sx_5 g) (by decide) (by decide) (by decide) (by decide) (Nat.le_of_ble_eq_true rfl) dX7_copyFrom_90 ?_
  refine z_mem (fun μ9 => ?_)
  refine z_aload_n (pc := 93) dX7_copyFrom_93 rfl ?_
  refine z_getr (pc := 94) fdX7_40 (nx_lt (by decide)) (sx_12 g) rfl rfl dX7_copyFrom_94 ?_
  refine z_iconst (pc := 97) (0 : Int32) dX7_copyFrom_97 (by decide) ?_
  refine z_aload_n (pc := 98) dX7_copyFrom_98 rfl ?_
  refine z_getr (pc := 99) fdX7_40 (nx_lt (by decide)) (sx_2 g) rfl rfl dX7_copyFrom_99 ?_
  refine z_iconst (pc := 102) (0 : Int32) dX7_copyFrom_102 (by decide) ?_
  refine z_bipush (pc := 103) (9 : Int32) dX7_copyFrom_103 (by decide) ?_
  refine z_copy (pc := 105) (N := 9) kaX7_64 (by decide) (nx_lt (by decide)) (nx_lt (by decide)) (sx_16 g) (sx_6 g) (by decide) (by decide) (by decide) (by decide) (Nat.le_of_ble_eq_true rfl) dX7_copyFrom_105 ?_
  refine z_mem (fun μ10 => ?_)
  refine z_aload_n (pc := 108) dX7_copyFrom_108 rfl ?_
  refine z_getr (pc := 109) fdX7_43 (nx_lt (by decide)) (sx_12 g) rfl rfl dX7_copyFrom_109 ?_
  refine z_iconst (pc := 112) (0 : Int32) dX7_copyFrom_112 (by decide) ?_
  refine z_aload_n (pc := 113) dX7_copyFrom_113 rfl ?_
  refine z_getr (pc := 114) fdX7_43 (nx_lt (by decide)) (sx_2 g) rfl rfl dX7_copyFrom_114 ?_
  refine z_iconst (pc := 117) (0 : Int32) dX7_copyFrom_117 (by decide) ?_
  refine z_bipush (pc := 118) (9 : Int32) dX7_copyFrom_118 (by decide) ?_
  refine z_copy (pc := 120) (N := 9) kaX7_64 (by decide) (nx_lt (by decide)) (nx_lt (by decide)) (sx_17 g) (sx_7 g) (by decide) (by decide) (by decide) (by decide) (Nat.le_of_ble_eq_true rfl) dX7_copyFrom_120 ?_
  refine z_mem (fun μ11 => ?_)
  refine z_aload_n (pc := 123) dX7_copyFrom_123 rfl ?_
  refine z_getr (pc := 124) fdX7_46 (nx_lt (by decide)) (sx_12 g) rfl rfl dX7_copyFrom_124 ?_
  refine z_iconst (pc := 127) (0 : Int32) dX7_copyFrom_127 (by decide) ?_
  refine z_aload_n (pc := 128) dX7_copyFrom_128 rfl ?_
  refine z_getr (pc := 129) fdX7_46 (nx_lt (by decide)) (sx_2 g) rfl rfl dX7_copyFrom_129 ?_
  refine z_iconst (pc := 132) (0 : Int32) dX7_copyFrom_132 (by decide) ?_
  refine z_bipush (pc := 133) (10 : Int32) dX7_copyFrom_133 (by decide) ?_
  refine z_copy (pc := 135) (N := 10) kaX7_64 (by decide) (nx_lt (by decide)) (nx_lt (by decide)) (sx_18 g) (sx_8 g) (by decide) (by decide) (by decide) (by decide) (Nat.le_of_ble_eq_true rfl) dX7_copyFrom_135 ?_
  refine z_mem (fun μ12 => ?_)
  refine z_aload_n (pc := 138) dX7_copyFrom_138 rfl ?_
  refine z_getr (pc := 139) fdX7_49 (nx_lt (by decide)) (sx_12 g) rfl rfl dX7_copyFrom_139 ?_
  refine z_iconst (pc := 142) (0 : Int32) dX7_copyFrom_142 (by decide) ?_
  refine z_aload_n (pc := 143) dX7_copyFrom_143 rfl ?_
  refine z_getr (pc := 144) fdX7_49 (nx_lt (by decide)) (sx_2 g) rfl rfl dX7_copyFrom_144 ?_
  refine z_iconst (pc := 147) (0 : Int32) dX7_copyFrom_147 (by decide) ?_
  refine z_bipush (pc := 148) (10 : Int32) dX7_copyFrom_148 (by decide) ?_
  refine z_copy (pc := 150) (N := 10) kaX7_64 (by decide) (nx_lt (by decide)) (nx_lt (by decide)) (sx_19 g) (sx_9 g) (by decide) (by decide) (by decide) (by decide) (Nat.le_of_ble_eq_true rfl) dX7_copyFrom_150 ?_
  refine z_mem (fun μ13 => ?_)
  refine z_aload_n (pc := 153) dX7_copyFrom_153 rfl ?_
  refine z_getr (pc := 154) fdX7_52 (nx_lt (by decide)) (sx_12 g) rfl rfl dX7_copyFrom_154 ?_
  refine z_iconst (pc := 157) (0 : Int32) dX7_copyFrom_157 (by decide) ?_
  refine z_aload_n (pc := 158) dX7_copyFrom_158 rfl ?_
  refine z_getr (pc := 159) fdX7_52 (nx_lt (by decide)) (sx_2 g) rfl rfl dX7_copyFrom_159 ?_
  refine z_iconst (pc := 162) (0 : Int32) dX7_copyFrom_162 (by decide) ?_
  refine z_bipush (pc := 163) (10 : Int32) dX7_copyFrom_163 (by decide) ?_
  refine z_copy (pc := 165) (N := 10) kaX7_64 (by decide) (nx_lt (by decide)) (nx_lt (by decide)) (sx_20 g) (sx_10 g) (by decide) (by decide) (by decide) (by decide) (Nat.le_of_ble_eq_true rfl) dX7_copyFrom_165 ?_
  refine z_mem (fun μ14 => ?_)
  refine z_aload_n (pc := 168) dX7_copyFrom_168 rfl ?_
  refine z_getr (pc := 169) fdX7_55 (nx_lt (by decide)) (sx_12 g) rfl rfl dX7_copyFrom_169 ?_
  refine z_iconst (pc := 172) (0 : Int32) dX7_copyFrom_172 (by decide) ?_
  refine z_aload_n (pc := 173) dX7_copyFrom_173 rfl ?_
  refine z_getr (pc := 174) fdX7_55 (nx_lt (by decide)) (sx_2 g) rfl rfl dX7_copyFrom_174 ?_
  refine z_iconst (pc := 177) (0 : Int32) dX7_copyFrom_177 (by decide) ?_
  refine z_bipush (pc := 178) (10 : Int32) dX7_copyFrom_178 (by decide) ?_
  refine z_copy (pc := 180) (N := 10) kaX7_64 (by decide) (nx_lt (by decide)) (nx_lt (by decide)) (sx_21 g) (sx_11 g) (by decide) (by decide) (by decide) (by decide) (Nat.le_of_ble_eq_true rfl) dX7_copyFrom_180 ?_
  refine z_mem (fun μ15 => ?_)
  exact z_vret (pc := 183) rfl dX7_copyFrom_183
def f7_slateOf (x1 : Int32) (μ : zMem) : zRes := zlet (some (0, (0 : Int32), μ)) (fun j1 => if (μ 2 5) ≤ 0 then j1 else if 0 ≤ x1 then znz (μ 2 5) (zin (zrem x1 (μ 2 5)) 7 (some (0, μ 3 (zrem x1 (μ 2 5)).toNatClampNeg, μ))) else j1)
set_option maxHeartbeats 1000000 in
theorem t7_slateOf {g : Bool} (x1 : Int32) (μ : zMem) : zMR yX7_slateOf cX7_slateOf 2 (some .int) 1 [.ref 2, .int x1] (nX g) (SX g) μ (f7_slateOf x1 μ) := by
  refine zMR_of (by decide +kernel) rfl (Nat.le_of_ble_eq_true rfl) (L := [.ref 2, .int x1]) rfl ?_
  unfold f7_slateOf
  refine z_aload_n (pc := 0) dX7_slateOf_0 rfl ?_
  refine z_geti (pc := 1) fdX7_27 (nx_lt (by decide)) (sx_2 g) rfl dX7_slateOf_1 ?_
  refine z_let (fun (j : zRes) => zR yX7_slateOf cX7_slateOf 2 (some .int) 1 11 [.null, .null] [] (nX g) (SX g) μ (j)) ?_ (fun j1 hj1 => ?_)
  · refine z_iconst (pc := 11) (0 : Int32) dX7_slateOf_11 (by decide) ?_
    exact z_iret (pc := 12) rfl dX7_slateOf_12
  · refine z_if_le (pc := 4) (tgt := 11) dX7_slateOf_4 (by decide) (fun c2 => ?_) (fun c3 => ?_)
    · refine z_loc (L' := [.null, .null]) ⟨Or.inl rfl, ⟨Or.inl rfl, trivial⟩⟩ ?_
      exact hj1
    · refine z_iload_n (pc := 7) dX7_slateOf_7 rfl ?_
      refine z_if_ge (pc := 8) (tgt := 13) dX7_slateOf_8 (by decide) (fun c4 => ?_) (fun c5 => ?_)
      · refine z_aload_n (pc := 13) dX7_slateOf_13 rfl ?_
        refine z_getr (pc := 14) fdX7_30 (nx_lt (by decide)) (sx_2 g) rfl rfl dX7_slateOf_14 ?_
        refine z_iload_n (pc := 17) dX7_slateOf_17 rfl ?_
        refine z_aload_n (pc := 18) dX7_slateOf_18 rfl ?_
        refine z_geti (pc := 19) fdX7_27 (nx_lt (by decide)) (sx_2 g) rfl dX7_slateOf_19 ?_
        refine z_irem (pc := 22) dX7_slateOf_22 (fun h6 => ?_)
        refine z_iald (pc := 23) (nx_lt (by decide)) (sx_3 g) rfl dX7_slateOf_23 (fun h7 => ?_)
        exact z_iret (pc := 24) rfl dX7_slateOf_24
      · refine z_loc (L' := [.null, .null]) ⟨Or.inl rfl, ⟨Or.inl rfl, trivial⟩⟩ ?_
        exact hj1
def f7_kinPairs_L4 (K30 : Int32 → zMem → zRes) : Nat → Int32 → Int32 → zMem → zRes
  | 0, _, _, _ => none
  | n + 1, x1, x2, μ => if (μ 2 1) ≤ x2 then K30 x1 μ else zin x2 9 (bnd0 (fJ6_bitCount_0f7a4 (μ 7 x2.toNatClampNeg) μ) (fun (v4 : Int32) (μ5 : zMem) => zlet (x1 + v4) (fun (v6 : Int32) => f7_kinPairs_L4 K30 n v6 (x2 + (1 : Int32)) μ5)))
def f7_kinPairs (μ : zMem) : zRes := f7_kinPairs_L4 (fun (x1_7 : Int32) (μ8 : zMem) => some (0, x1_7 / (2 : Int32), μ8)) zF (0 : Int32) (0 : Int32) μ
set_option maxHeartbeats 1000000 in
theorem t7_kinPairs_L4 {g : Bool} (K30 : Int32 → zMem → zRes) (hK30 : ∀ (x1 : Int32) (μ : zMem), zR yX7_kinPairs cX7_kinPairs 3 (some .int) 2 30 [.null, .int x1, .null] [] (nX g) (SX g) μ (K30 x1 μ)) : ∀ (n : Nat) (x1 : Int32) (x2 : Int32) (μ : zMem), zR yX7_kinPairs cX7_kinPairs 3 (some .int) 2 4 [.ref 2, .int x1, .int x2] [] (nX g) (SX g) μ (f7_kinPairs_L4 K30 n x1 x2 μ) := by
  intro n
  induction n with
  | zero => intro x1 x2 μ; intro q hq; cases hq
  | succ n ih =>
    intro x1 x2 μ
    unfold f7_kinPairs_L4
    refine z_iload_n (pc := 4) dX7_kinPairs_4 rfl ?_
    refine z_aload_n (pc := 5) dX7_kinPairs_5 rfl ?_
    refine z_geti (pc := 6) fdX7_15 (nx_lt (by decide)) (sx_2 g) rfl dX7_kinPairs_6 ?_
    refine z_icmp_ge (pc := 9) (tgt := 30) dX7_kinPairs_9 (by decide) (fun c1 => ?_) (fun c2 => ?_)
    · refine z_loc (L' := [.null, .int x1, .null]) ⟨Or.inl rfl, ⟨Or.inr rfl, ⟨Or.inl rfl, trivial⟩⟩⟩ ?_
      exact hK30 x1 μ
    · refine z_iload_n (pc := 12) dX7_kinPairs_12 rfl ?_
      refine z_aload_n (pc := 13) dX7_kinPairs_13 rfl ?_
      refine z_getr (pc := 14) fdX7_43 (nx_lt (by decide)) (sx_2 g) rfl rfl dX7_kinPairs_14 ?_
      refine z_iload_n (pc := 17) dX7_kinPairs_17 rfl ?_
      refine z_iald (pc := 18) (nx_lt (by decide)) (sx_7 g) rfl dX7_kinPairs_18 (fun h3 => ?_)
      refine z_callS (As := [.int (μ 7 x2.toNatClampNeg)]) (pc := 19) (ret' := some .int) ksX7_70 (tJ6_bitCount_0f7a4 _ _) (by decide)  rfl rfl (Nat.le_of_ble_eq_true rfl) dX7_kinPairs_19 (fun v4 μ5 => ?_)
      refine z_iadd (pc := 22) dX7_kinPairs_22 ?_
      refine z_val (fun v6 => ?_)
      refine z_istore_n (pc := 23) (L' := [.ref 2, .int v6, .int x2]) dX7_kinPairs_23 (by decide) rfl ?_
      refine z_iinc (pc := 24) (v := x2 + (1 : Int32)) (L' := [.ref 2, .int v6, .int (x2 + (1 : Int32))]) dX7_kinPairs_24 (by decide) rfl (congrArg _ (by decide)) rfl ?_
      refine z_goto (pc := 27) (tgt := 4) dX7_kinPairs_27 (by decide) ?_
      exact ih v6 (x2 + (1 : Int32)) μ5
set_option maxHeartbeats 1000000 in
theorem t7_kinPairs {g : Bool} (μ : zMem) : zMR yX7_kinPairs cX7_kinPairs 3 (some .int) 2 [.ref 2] (nX g) (SX g) μ (f7_kinPairs μ) := by
  refine zMR_of (by decide +kernel) rfl (Nat.le_of_ble_eq_true rfl) (L := [.ref 2, .null, .null]) rfl ?_
  unfold f7_kinPairs
  refine z_iconst (pc := 0) (0 : Int32) dX7_kinPairs_0 (by decide) ?_
  refine z_istore_n (pc := 1) (L' := [.ref 2, .int (0 : Int32), .null]) dX7_kinPairs_1 (by decide) rfl ?_
  refine z_iconst (pc := 2) (0 : Int32) dX7_kinPairs_2 (by decide) ?_
  refine z_istore_n (pc := 3) (L' := [.ref 2, .int (0 : Int32), .int (0 : Int32)]) dX7_kinPairs_3 (by decide) rfl ?_
  refine t7_kinPairs_L4 _ (fun x1_7 μ8 => ?_) zF _ _ _
  · refine z_iload_n (pc := 30) dX7_kinPairs_30 rfl ?_
    refine z_iconst (pc := 31) (2 : Int32) dX7_kinPairs_31 (by decide) ?_
    refine z_idivc (pc := 32) dX7_kinPairs_32 (by decide) ?_
    exact z_iret (pc := 33) rfl dX7_kinPairs_33
def f7_familyOf_L17 (μ : zMem) (K55 : Int32 → zRes) : Nat → Int32 → Int32 → zRes
  | 0, _, _ => none
  | n + 1, x2, x4 => if (μ 2 1) ≤ x4 then K55 x2 else zlet (fun (s6 : Int32) => zlet (x2 ||| s6) (fun (v7 : Int32) => f7_familyOf_L17 μ K55 n v7 (x4 + (1 : Int32)))) (fun j8 => if ((zshr x2 x4) &&& (1 : Int32)) = 0 then j8 (0 : Int32) else zin x4 9 (j8 (μ 7 x4.toNatClampNeg)))
def f7_familyOf_L6 (μ : zMem) (K61 : Int32 → zRes) : Nat → Int32 → Int32 → zRes
  | 0, _, _ => none
  | n + 1, x2, x3 => if (μ 2 1) ≤ x3 then K61 x2 else f7_familyOf_L17 μ (fun (x2_12 : Int32) => f7_familyOf_L6 μ K61 n x2_12 (x3 + (1 : Int32))) zF x2 (0 : Int32)
def f7_familyOf (x1 : Int32) (μ : zMem) : zRes := zlet (zshl (1 : Int32) x1) (fun (v1 : Int32) => f7_familyOf_L6 μ (fun (x2_13 : Int32) => some (0, x2_13, μ)) zF v1 (0 : Int32))
set_option maxHeartbeats 1000000 in
theorem t7_familyOf_L17 {g : Bool} (x3 : Int32) (μ : zMem) (K55 : Int32 → zRes) (hK55 : ∀ (x2 : Int32), zR yX7_familyOf cX7_familyOf 5 (some .int) 1 55 [.ref 2, .null, .int x2, .int x3, .null] [] (nX g) (SX g) μ (K55 x2)) : ∀ (n : Nat) (x2 : Int32) (x4 : Int32), zR yX7_familyOf cX7_familyOf 5 (some .int) 1 17 [.ref 2, .null, .int x2, .int x3, .int x4] [] (nX g) (SX g) μ (f7_familyOf_L17 μ K55 n x2 x4) := by
  intro n
  induction n with
  | zero => intro x2 x4; intro q hq; cases hq
  | succ n ih =>
    intro x2 x4
    unfold f7_familyOf_L17
    refine z_iload (pc := 17) dX7_familyOf_17 rfl ?_
    refine z_aload_n (pc := 19) dX7_familyOf_19 rfl ?_
    refine z_geti (pc := 20) fdX7_15 (nx_lt (by decide)) (sx_2 g) rfl dX7_familyOf_20 ?_
    refine z_icmp_ge (pc := 23) (tgt := 55) dX7_familyOf_23 (by decide) (fun c4 => ?_) (fun c5 => ?_)
    · refine z_loc (L' := [.ref 2, .null, .int x2, .int x3, .null]) ⟨Or.inr rfl, ⟨Or.inl rfl, ⟨Or.inr rfl, ⟨Or.inr rfl, ⟨Or.inl rfl, trivial⟩⟩⟩⟩⟩ ?_
      exact hK55 x2
    · refine z_iload_n (pc := 26) dX7_familyOf_26 rfl ?_
      refine z_iload_n (pc := 27) dX7_familyOf_27 rfl ?_
      refine z_iload (pc := 28) dX7_familyOf_28 rfl ?_
      refine z_ishr (pc := 30) dX7_familyOf_30 ?_
      refine z_iconst (pc := 31) (1 : Int32) dX7_familyOf_31 (by decide) ?_
      refine z_iand (pc := 32) dX7_familyOf_32 ?_
      refine z_let (fun (j : Int32 → zRes) => ∀ (s6 : Int32), zR yX7_familyOf cX7_familyOf 5 (some .int) 1 47 [.ref 2, .null, .null, .int x3, .int x4] [.int s6, .int x2] (nX g) (SX g) μ (j s6)) ?_ (fun j8 hj8 => ?_)
      · intro s6
        refine z_ior (pc := 47) dX7_familyOf_47 ?_
        refine z_val (fun v7 => ?_)
        refine z_istore_n (pc := 48) (L' := [.ref 2, .null, .int v7, .int x3, .int x4]) dX7_familyOf_48 (by decide) rfl ?_
        refine z_iinc (pc := 49) (v := x4 + (1 : Int32)) (L' := [.ref 2, .null, .int v7, .int x3, .int (x4 + (1 : Int32))]) dX7_familyOf_49 (by decide) rfl (congrArg _ (by decide)) rfl ?_
        refine z_goto (pc := 52) (tgt := 17) dX7_familyOf_52 (by decide) ?_
        exact ih v7 (x4 + (1 : Int32))
      · refine z_if_eq (pc := 33) (tgt := 46) dX7_familyOf_33 (by decide) (fun c9 => ?_) (fun c10 => ?_)
        · refine z_iconst (pc := 46) (0 : Int32) dX7_familyOf_46 (by decide) ?_
          refine z_loc (L' := [.ref 2, .null, .null, .int x3, .int x4]) ⟨Or.inr rfl, ⟨Or.inl rfl, ⟨Or.inl rfl, ⟨Or.inr rfl, ⟨Or.inr rfl, trivial⟩⟩⟩⟩⟩ ?_
          exact hj8 (0 : Int32)
        · refine z_aload_n (pc := 36) dX7_familyOf_36 rfl ?_
          refine z_getr (pc := 37) fdX7_43 (nx_lt (by decide)) (sx_2 g) rfl rfl dX7_familyOf_37 ?_
          refine z_iload (pc := 40) dX7_familyOf_40 rfl ?_
          refine z_iald (pc := 42) (nx_lt (by decide)) (sx_7 g) rfl dX7_familyOf_42 (fun h11 => ?_)
          refine z_goto (pc := 43) (tgt := 47) dX7_familyOf_43 (by decide) ?_
          refine z_loc (L' := [.ref 2, .null, .null, .int x3, .int x4]) ⟨Or.inr rfl, ⟨Or.inl rfl, ⟨Or.inl rfl, ⟨Or.inr rfl, ⟨Or.inr rfl, trivial⟩⟩⟩⟩⟩ ?_
          exact hj8 (μ 7 x4.toNatClampNeg)
set_option maxHeartbeats 1000000 in
theorem t7_familyOf_L6 {g : Bool} (μ : zMem) (K61 : Int32 → zRes) (hK61 : ∀ (x2 : Int32), zR yX7_familyOf cX7_familyOf 5 (some .int) 1 61 [.null, .null, .int x2, .null, .null] [] (nX g) (SX g) μ (K61 x2)) : ∀ (n : Nat) (x2 : Int32) (x3 : Int32), zR yX7_familyOf cX7_familyOf 5 (some .int) 1 6 [.ref 2, .null, .int x2, .int x3, .null] [] (nX g) (SX g) μ (f7_familyOf_L6 μ K61 n x2 x3) := by
  intro n
  induction n with
  | zero => intro x2 x3; intro q hq; cases hq
  | succ n ih =>
    intro x2 x3
    unfold f7_familyOf_L6
    refine z_iload_n (pc := 6) dX7_familyOf_6 rfl ?_
    refine z_aload_n (pc := 7) dX7_familyOf_7 rfl ?_
    refine z_geti (pc := 8) fdX7_15 (nx_lt (by decide)) (sx_2 g) rfl dX7_familyOf_8 ?_
    refine z_icmp_ge (pc := 11) (tgt := 61) dX7_familyOf_11 (by decide) (fun c2 => ?_) (fun c3 => ?_)
    · refine z_loc (L' := [.null, .null, .int x2, .null, .null]) ⟨Or.inl rfl, ⟨Or.inl rfl, ⟨Or.inr rfl, ⟨Or.inl rfl, ⟨Or.inl rfl, trivial⟩⟩⟩⟩⟩ ?_
      exact hK61 x2
    · refine z_iconst (pc := 14) (0 : Int32) dX7_familyOf_14 (by decide) ?_
      refine z_istore (pc := 15) (L' := [.ref 2, .null, .int x2, .int x3, .int (0 : Int32)]) dX7_familyOf_15 (by decide) rfl ?_
      refine t7_familyOf_L17 _ _ _ (fun x2_12 => ?_) zF _ _
      · refine z_iinc (pc := 55) (v := x3 + (1 : Int32)) (L' := [.ref 2, .null, .int x2_12, .int (x3 + (1 : Int32)), .null]) dX7_familyOf_55 (by decide) rfl (congrArg _ (by decide)) rfl ?_
        refine z_goto (pc := 58) (tgt := 6) dX7_familyOf_58 (by decide) ?_
        exact ih x2_12 (x3 + (1 : Int32))
set_option maxHeartbeats 1000000 in
theorem t7_familyOf {g : Bool} (x1 : Int32) (μ : zMem) : zMR yX7_familyOf cX7_familyOf 5 (some .int) 1 [.ref 2, .int x1] (nX g) (SX g) μ (f7_familyOf x1 μ) := by
  refine zMR_of (by decide +kernel) rfl (Nat.le_of_ble_eq_true rfl) (L := [.ref 2, .int x1, .null, .null, .null]) rfl ?_
  unfold f7_familyOf
  refine z_iconst (pc := 0) (1 : Int32) dX7_familyOf_0 (by decide) ?_
  refine z_iload_n (pc := 1) dX7_familyOf_1 rfl ?_
  refine z_ishl (pc := 2) dX7_familyOf_2 ?_
  refine z_val (fun v1 => ?_)
  refine z_istore_n (pc := 3) (L' := [.ref 2, .int x1, .int v1, .null, .null]) dX7_familyOf_3 (by decide) rfl ?_
  refine z_iconst (pc := 4) (0 : Int32) dX7_familyOf_4 (by decide) ?_
  refine z_istore_n (pc := 5) (L' := [.ref 2, .int x1, .int v1, .int (0 : Int32), .null]) dX7_familyOf_5 (by decide) rfl ?_
  refine z_loc (L' := [.ref 2, .null, .int v1, .int (0 : Int32), .null]) ⟨Or.inr rfl, ⟨Or.inl rfl, ⟨Or.inr rfl, ⟨Or.inr rfl, ⟨Or.inl rfl, trivial⟩⟩⟩⟩⟩ ?_
  refine t7_familyOf_L6 _ _ (fun x2_13 => ?_) zF _ _
  · refine z_iload_n (pc := 61) dX7_familyOf_61 rfl ?_
    exact z_iret (pc := 62) rfl dX7_familyOf_62
def f7_families_L4 (K38 : Int32 → zMem → zRes) : Nat → Int32 → Int32 → zMem → zRes
  | 0, _, _, _ => none
  | n + 1, x1, x2, μ => if (μ 2 1) ≤ x2 then K38 x1 μ else bnd0 (f7_familyOf x2 μ) (fun (v3 : Int32) (μ4 : zMem) => bnd0 (fJ6_numberOfTrailingZeros_0f7a4 v3 μ4) (fun (v5 : Int32) (μ6 : zMem) => zlet (fun (s7 : Int32) => zlet (x1 + s7) (fun (v8 : Int32) => f7_families_L4 K38 n v8 (x2 + (1 : Int32)) μ6)) (fun j9 => if v5 = x2 then j9 (1 : Int32) else j9 (0 : Int32))))
def f7_families (μ : zMem) : zRes := f7_families_L4 (fun (x1_12 : Int32) (μ13 : zMem) => some (0, x1_12, μ13)) zF (0 : Int32) (0 : Int32) μ
set_option maxHeartbeats 1000000 in
theorem t7_families_L4 {g : Bool} (K38 : Int32 → zMem → zRes) (hK38 : ∀ (x1 : Int32) (μ : zMem), zR yX7_families cX7_families 3 (some .int) 2 38 [.null, .int x1, .null] [] (nX g) (SX g) μ (K38 x1 μ)) : ∀ (n : Nat) (x1 : Int32) (x2 : Int32) (μ : zMem), zR yX7_families cX7_families 3 (some .int) 2 4 [.ref 2, .int x1, .int x2] [] (nX g) (SX g) μ (f7_families_L4 K38 n x1 x2 μ) := by
  intro n
  induction n with
  | zero => intro x1 x2 μ; intro q hq; cases hq
  | succ n ih =>
    intro x1 x2 μ
    unfold f7_families_L4
    refine z_iload_n (pc := 4) dX7_families_4 rfl ?_
    refine z_aload_n (pc := 5) dX7_families_5 rfl ?_
    refine z_geti (pc := 6) fdX7_15 (nx_lt (by decide)) (sx_2 g) rfl dX7_families_6 ?_
    refine z_icmp_ge (pc := 9) (tgt := 38) dX7_families_9 (by decide) (fun c1 => ?_) (fun c2 => ?_)
    · refine z_loc (L' := [.null, .int x1, .null]) ⟨Or.inl rfl, ⟨Or.inr rfl, ⟨Or.inl rfl, trivial⟩⟩⟩ ?_
      exact hK38 x1 μ
    · refine z_iload_n (pc := 12) dX7_families_12 rfl ?_
      refine z_aload_n (pc := 13) dX7_families_13 rfl ?_
      refine z_iload_n (pc := 14) dX7_families_14 rfl ?_
      refine z_callV (As := [.int x2]) (pc := 15) (ret' := some .int) kvX7_76 (t7_familyOf _ _) (by decide) (nx_lt (by decide)) (sx_2 g)  rfl rfl (Nat.le_of_ble_eq_true rfl) dX7_families_15 (fun v3 μ4 => ?_)
      refine z_callS (As := [.int v3]) (pc := 18) (ret' := some .int) ksX7_79 (tJ6_numberOfTrailingZeros_0f7a4 _ _) (by decide)  rfl rfl (Nat.le_of_ble_eq_true rfl) dX7_families_18 (fun v5 μ6 => ?_)
      refine z_iload_n (pc := 21) dX7_families_21 rfl ?_
      refine z_let (fun (j : Int32 → zRes) => ∀ (s7 : Int32), zR yX7_families cX7_families 3 (some .int) 2 30 [.ref 2, .null, .int x2] [.int s7, .int x1] (nX g) (SX g) μ6 (j s7)) ?_ (fun j9 hj9 => ?_)
      · intro s7
        refine z_iadd (pc := 30) dX7_families_30 ?_
        refine z_val (fun v8 => ?_)
        refine z_istore_n (pc := 31) (L' := [.ref 2, .int v8, .int x2]) dX7_families_31 (by decide) rfl ?_
        refine z_iinc (pc := 32) (v := x2 + (1 : Int32)) (L' := [.ref 2, .int v8, .int (x2 + (1 : Int32))]) dX7_families_32 (by decide) rfl (congrArg _ (by decide)) rfl ?_
        refine z_goto (pc := 35) (tgt := 4) dX7_families_35 (by decide) ?_
        exact ih v8 (x2 + (1 : Int32)) μ6
      · refine z_icmp_ne (pc := 22) (tgt := 29) dX7_families_22 (by decide) (fun c10 => ?_) (fun c11 => ?_)
        · refine z_iconst (pc := 29) (0 : Int32) dX7_families_29 (by decide) ?_
          refine z_loc (L' := [.ref 2, .null, .int x2]) ⟨Or.inr rfl, ⟨Or.inl rfl, ⟨Or.inr rfl, trivial⟩⟩⟩ ?_
          exact hj9 (0 : Int32)
        · refine z_iconst (pc := 25) (1 : Int32) dX7_families_25 (by decide) ?_
          refine z_goto (pc := 26) (tgt := 30) dX7_families_26 (by decide) ?_
          refine z_loc (L' := [.ref 2, .null, .int x2]) ⟨Or.inr rfl, ⟨Or.inl rfl, ⟨Or.inr rfl, trivial⟩⟩⟩ ?_
          exact hj9 (1 : Int32)
set_option maxHeartbeats 1000000 in
theorem t7_families {g : Bool} (μ : zMem) : zMR yX7_families cX7_families 3 (some .int) 2 [.ref 2] (nX g) (SX g) μ (f7_families μ) := by
  refine zMR_of (by decide +kernel) rfl (Nat.le_of_ble_eq_true rfl) (L := [.ref 2, .null, .null]) rfl ?_
  unfold f7_families
  refine z_iconst (pc := 0) (0 : Int32) dX7_families_0 (by decide) ?_
  refine z_istore_n (pc := 1) (L' := [.ref 2, .int (0 : Int32), .null]) dX7_families_1 (by decide) rfl ?_
  refine z_iconst (pc := 2) (0 : Int32) dX7_families_2 (by decide) ?_
  refine z_istore_n (pc := 3) (L' := [.ref 2, .int (0 : Int32), .int (0 : Int32)]) dX7_families_3 (by decide) rfl ?_
  refine t7_families_L4 _ (fun x1_12 μ13 => ?_) zF _ _ _
  · refine z_iload_n (pc := 38) dX7_families_38 rfl ?_
    exact z_iret (pc := 39) rfl dX7_families_39
