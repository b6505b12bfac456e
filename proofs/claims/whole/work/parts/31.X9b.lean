theorem dX9_asked_0 : decode cX9_asked 0 = .ok (.aload_n 0, 1) := by decide +kernel
theorem dX9_asked_1 : decode cX9_asked 1 = .ok (.getfield 37, 3) := by decide +kernel
theorem dX9_asked_4 : decode cX9_asked 4 = .ok (.iload_n 1, 1) := by decide +kernel
theorem dX9_asked_5 : decode cX9_asked 5 = .ok (.aaload, 1) := by decide +kernel
theorem dX9_asked_6 : decode cX9_asked 6 = .ok (.iconst 3, 1) := by decide +kernel
theorem dX9_asked_7 : decode cX9_asked 7 = .ok (.iaload, 1) := by decide +kernel
theorem dX9_asked_8 : decode cX9_asked 8 = .ok (.iconst (-1), 1) := by decide +kernel
theorem dX9_asked_9 : decode cX9_asked 9 = .ok (.if_icmp .ne 14, 3) := by decide +kernel
theorem dX9_asked_12 : decode cX9_asked 12 = .ok (.aload_n 0, 1) := by decide +kernel
theorem dX9_asked_13 : decode cX9_asked 13 = .ok (.aload_n 0, 1) := by decide +kernel
theorem dX9_asked_14 : decode cX9_asked 14 = .ok (.getfield 198, 3) := by decide +kernel
theorem dX9_asked_17 : decode cX9_asked 17 = .ok (.invokevirtual 223, 3) := by decide +kernel
theorem dX9_asked_20 : decode cX9_asked 20 = .ok (.goto 11, 3) := by decide +kernel
theorem dX9_asked_23 : decode cX9_asked 23 = .ok (.aload_n 0, 1) := by decide +kernel
theorem dX9_asked_24 : decode cX9_asked 24 = .ok (.getfield 37, 3) := by decide +kernel
theorem dX9_asked_27 : decode cX9_asked 27 = .ok (.iload_n 1, 1) := by decide +kernel
theorem dX9_asked_28 : decode cX9_asked 28 = .ok (.aaload, 1) := by decide +kernel
theorem dX9_asked_29 : decode cX9_asked 29 = .ok (.iconst 3, 1) := by decide +kernel
theorem dX9_asked_30 : decode cX9_asked 30 = .ok (.iaload, 1) := by decide +kernel
theorem dX9_asked_31 : decode cX9_asked 31 = .ok (.ireturn, 1) := by decide +kernel
theorem dX9_amount_0 : decode cX9_amount 0 = .ok (.iload_n 0, 1) := by decide +kernel
theorem dX9_amount_1 : decode cX9_amount 1 = .ok (.ifCond .ge 8, 3) := by decide +kernel
theorem dX9_amount_4 : decode cX9_amount 4 = .ok (.iload_n 0, 1) := by decide +kernel
theorem dX9_amount_5 : decode cX9_amount 5 = .ok (.ineg, 1) := by decide +kernel
theorem dX9_amount_6 : decode cX9_amount 6 = .ok (.goto 4, 3) := by decide +kernel
theorem dX9_amount_9 : decode cX9_amount 9 = .ok (.iload_n 0, 1) := by decide +kernel
theorem dX9_amount_10 : decode cX9_amount 10 = .ok (.ireturn, 1) := by decide +kernel
theorem dX9_errs_0 : decode cX9_errs 0 = .ok (.aload_n 0, 1) := by decide +kernel
theorem dX9_errs_1 : decode cX9_errs 1 = .ok (.getfield 61, 3) := by decide +kernel
theorem dX9_errs_4 : decode cX9_errs 4 = .ok (.iload_n 1, 1) := by decide +kernel
theorem dX9_errs_5 : decode cX9_errs 5 = .ok (.iaload, 1) := by decide +kernel
theorem dX9_errs_6 : decode cX9_errs 6 = .ok (.iconst 1, 1) := by decide +kernel
theorem dX9_errs_7 : decode cX9_errs 7 = .ok (.if_icmp .ne 5, 3) := by decide +kernel
theorem dX9_errs_10 : decode cX9_errs 10 = .ok (.iconst 1, 1) := by decide +kernel
theorem dX9_errs_11 : decode cX9_errs 11 = .ok (.ireturn, 1) := by decide +kernel
theorem dX9_errs_12 : decode cX9_errs 12 = .ok (.aload_n 0, 1) := by decide +kernel
theorem dX9_errs_13 : decode cX9_errs 13 = .ok (.getfield 198, 3) := by decide +kernel
theorem dX9_errs_16 : decode cX9_errs 16 = .ok (.aload_n 0, 1) := by decide +kernel
theorem dX9_errs_17 : decode cX9_errs 17 = .ok (.getfield 37, 3) := by decide +kernel
theorem dX9_errs_20 : decode cX9_errs 20 = .ok (.iload_n 1, 1) := by decide +kernel
theorem dX9_errs_21 : decode cX9_errs 21 = .ok (.aaload, 1) := by decide +kernel
theorem dX9_errs_22 : decode cX9_errs 22 = .ok (.iconst 2, 1) := by decide +kernel
theorem dX9_errs_23 : decode cX9_errs 23 = .ok (.iaload, 1) := by decide +kernel
theorem dX9_errs_24 : decode cX9_errs 24 = .ok (.if_icmp .le 5, 3) := by decide +kernel
theorem dX9_errs_27 : decode cX9_errs 27 = .ok (.iconst 2, 1) := by decide +kernel
theorem dX9_errs_28 : decode cX9_errs 28 = .ok (.ireturn, 1) := by decide +kernel
theorem dX9_errs_29 : decode cX9_errs 29 = .ok (.iload_n 2, 1) := by decide +kernel
theorem dX9_errs_30 : decode cX9_errs 30 = .ok (.iload_n 3, 1) := by decide +kernel
theorem dX9_errs_31 : decode cX9_errs 31 = .ok (.if_icmp .eq 12, 3) := by decide +kernel
theorem dX9_errs_34 : decode cX9_errs 34 = .ok (.aload_n 0, 1) := by decide +kernel
theorem dX9_errs_35 : decode cX9_errs 35 = .ok (.iload_n 2, 1) := by decide +kernel
theorem dX9_errs_36 : decode cX9_errs 36 = .ok (.iload_n 3, 1) := by decide +kernel
theorem dX9_errs_37 : decode cX9_errs 37 = .ok (.invokevirtual 210, 3) := by decide +kernel
theorem dX9_errs_40 : decode cX9_errs 40 = .ok (.ifCond .eq 5, 3) := by decide +kernel
theorem dX9_errs_43 : decode cX9_errs 43 = .ok (.iconst 3, 1) := by decide +kernel
theorem dX9_errs_44 : decode cX9_errs 44 = .ok (.ireturn, 1) := by decide +kernel
theorem dX9_errs_45 : decode cX9_errs 45 = .ok (.aload_n 0, 1) := by decide +kernel
theorem dX9_errs_46 : decode cX9_errs 46 = .ok (.getfield 58, 3) := by decide +kernel
theorem dX9_errs_49 : decode cX9_errs 49 = .ok (.iload_n 2, 1) := by decide +kernel
theorem dX9_errs_50 : decode cX9_errs 50 = .ok (.iaload, 1) := by decide +kernel
theorem dX9_errs_51 : decode cX9_errs 51 = .ok (.aload_n 0, 1) := by decide +kernel
theorem dX9_errs_52 : decode cX9_errs 52 = .ok (.getfield 37, 3) := by decide +kernel
theorem dX9_errs_55 : decode cX9_errs 55 = .ok (.iload_n 1, 1) := by decide +kernel
theorem dX9_errs_56 : decode cX9_errs 56 = .ok (.aaload, 1) := by decide +kernel
theorem dX9_errs_57 : decode cX9_errs 57 = .ok (.iconst 1, 1) := by decide +kernel
theorem dX9_errs_58 : decode cX9_errs 58 = .ok (.iaload, 1) := by decide +kernel
theorem dX9_errs_59 : decode cX9_errs 59 = .ok (.if_icmp .lt 20, 3) := by decide +kernel
theorem dX9_errs_62 : decode cX9_errs 62 = .ok (.aload_n 0, 1) := by decide +kernel
theorem dX9_errs_63 : decode cX9_errs 63 = .ok (.getfield 58, 3) := by decide +kernel
theorem dX9_errs_66 : decode cX9_errs 66 = .ok (.iload_n 3, 1) := by decide +kernel
theorem dX9_errs_67 : decode cX9_errs 67 = .ok (.iaload, 1) := by decide +kernel
theorem dX9_errs_68 : decode cX9_errs 68 = .ok (.aload_n 0, 1) := by decide +kernel
theorem dX9_errs_69 : decode cX9_errs 69 = .ok (.getfield 37, 3) := by decide +kernel
theorem dX9_errs_72 : decode cX9_errs 72 = .ok (.iload_n 1, 1) := by decide +kernel
theorem dX9_errs_73 : decode cX9_errs 73 = .ok (.aaload, 1) := by decide +kernel
theorem dX9_errs_74 : decode cX9_errs 74 = .ok (.iconst 1, 1) := by decide +kernel
theorem dX9_errs_75 : decode cX9_errs 75 = .ok (.iaload, 1) := by decide +kernel
theorem dX9_errs_76 : decode cX9_errs 76 = .ok (.if_icmp .ge 5, 3) := by decide +kernel
theorem dX9_errs_79 : decode cX9_errs 79 = .ok (.iconst 4, 1) := by decide +kernel
theorem dX9_errs_80 : decode cX9_errs 80 = .ok (.ireturn, 1) := by decide +kernel
theorem dX9_errs_81 : decode cX9_errs 81 = .ok (.aload_n 0, 1) := by decide +kernel
theorem dX9_errs_82 : decode cX9_errs 82 = .ok (.getfield 52, 3) := by decide +kernel
theorem dX9_errs_85 : decode cX9_errs 85 = .ok (.iload_n 2, 1) := by decide +kernel
theorem dX9_errs_86 : decode cX9_errs 86 = .ok (.aaload, 1) := by decide +kernel
theorem dX9_errs_87 : decode cX9_errs 87 = .ok (.aload_n 0, 1) := by decide +kernel
theorem dX9_errs_88 : decode cX9_errs 88 = .ok (.iload_n 1, 1) := by decide +kernel
theorem dX9_errs_89 : decode cX9_errs 89 = .ok (.invokevirtual 226, 3) := by decide +kernel
theorem dX9_errs_92 : decode cX9_errs 92 = .ok (.iaload, 1) := by decide +kernel
theorem dX9_errs_93 : decode cX9_errs 93 = .ok (.aload_n 0, 1) := by decide +kernel
theorem dX9_errs_94 : decode cX9_errs 94 = .ok (.getfield 52, 3) := by decide +kernel
theorem dX9_errs_97 : decode cX9_errs 97 = .ok (.iload_n 3, 1) := by decide +kernel
theorem dX9_errs_98 : decode cX9_errs 98 = .ok (.aaload, 1) := by decide +kernel
theorem dX9_errs_99 : decode cX9_errs 99 = .ok (.aload_n 0, 1) := by decide +kernel
theorem dX9_errs_100 : decode cX9_errs 100 = .ok (.iload_n 1, 1) := by decide +kernel
theorem dX9_errs_101 : decode cX9_errs 101 = .ok (.invokevirtual 226, 3) := by decide +kernel
theorem dX9_errs_104 : decode cX9_errs 104 = .ok (.iaload, 1) := by decide +kernel
theorem dX9_errs_105 : decode cX9_errs 105 = .ok (.isub, 1) := by decide +kernel
theorem dX9_errs_106 : decode cX9_errs 106 = .ok (.invokestatic 229, 3) := by decide +kernel
theorem dX9_errs_109 : decode cX9_errs 109 = .ok (.aload_n 0, 1) := by decide +kernel
theorem dX9_errs_110 : decode cX9_errs 110 = .ok (.getfield 23, 3) := by decide +kernel
theorem dX9_errs_113 : decode cX9_errs 113 = .ok (.iconst 3, 1) := by decide +kernel
theorem dX9_errs_114 : decode cX9_errs 114 = .ok (.iaload, 1) := by decide +kernel
theorem dX9_errs_115 : decode cX9_errs 115 = .ok (.if_icmp .ge 7, 3) := by decide +kernel
theorem dX9_errs_118 : decode cX9_errs 118 = .ok (.iconst 5, 1) := by decide +kernel
theorem dX9_errs_119 : decode cX9_errs 119 = .ok (.goto 4, 3) := by decide +kernel
theorem dX9_errs_122 : decode cX9_errs 122 = .ok (.iconst 0, 1) := by decide +kernel
theorem dX9_errs_123 : decode cX9_errs 123 = .ok (.ireturn, 1) := by decide +kernel
theorem dX9_nears_0 : decode cX9_nears 0 = .ok (.aload_n 0, 1) := by decide +kernel
theorem dX9_nears_1 : decode cX9_nears 1 = .ok (.getfield 52, 3) := by decide +kernel
theorem dX9_nears_4 : decode cX9_nears 4 = .ok (.iload_n 1, 1) := by decide +kernel
theorem dX9_nears_5 : decode cX9_nears 5 = .ok (.aaload, 1) := by decide +kernel
theorem dX9_nears_6 : decode cX9_nears 6 = .ok (.iload_n 3, 1) := by decide +kernel
theorem dX9_nears_7 : decode cX9_nears 7 = .ok (.iaload, 1) := by decide +kernel
theorem dX9_nears_8 : decode cX9_nears 8 = .ok (.aload_n 0, 1) := by decide +kernel
theorem dX9_nears_9 : decode cX9_nears 9 = .ok (.getfield 52, 3) := by decide +kernel
theorem dX9_nears_12 : decode cX9_nears 12 = .ok (.iload_n 2, 1) := by decide +kernel
theorem dX9_nears_13 : decode cX9_nears 13 = .ok (.aaload, 1) := by decide +kernel
theorem dX9_nears_14 : decode cX9_nears 14 = .ok (.iload_n 3, 1) := by decide +kernel
theorem dX9_nears_15 : decode cX9_nears 15 = .ok (.iaload, 1) := by decide +kernel
theorem dX9_nears_16 : decode cX9_nears 16 = .ok (.if_icmp .gt 7, 3) := by decide +kernel
theorem dX9_nears_19 : decode cX9_nears 19 = .ok (.iload_n 1, 1) := by decide +kernel
theorem dX9_nears_20 : decode cX9_nears 20 = .ok (.goto 4, 3) := by decide +kernel
theorem dX9_nears_23 : decode cX9_nears 23 = .ok (.iload_n 2, 1) := by decide +kernel
theorem dX9_nears_24 : decode cX9_nears 24 = .ok (.istore 4, 2) := by decide +kernel
theorem dX9_nears_26 : decode cX9_nears 26 = .ok (.iload_n 1, 1) := by decide +kernel
theorem dX9_nears_27 : decode cX9_nears 27 = .ok (.iload_n 2, 1) := by decide +kernel
theorem dX9_nears_28 : decode cX9_nears 28 = .ok (.iadd, 1) := by decide +kernel
theorem dX9_nears_29 : decode cX9_nears 29 = .ok (.iload 4, 2) := by decide +kernel
theorem dX9_nears_31 : decode cX9_nears 31 = .ok (.isub, 1) := by decide +kernel
theorem dX9_nears_32 : decode cX9_nears 32 = .ok (.istore 5, 2) := by decide +kernel
theorem dX9_nears_34 : decode cX9_nears 34 = .ok (.aload_n 0, 1) := by decide +kernel
theorem dX9_nears_35 : decode cX9_nears 35 = .ok (.getfield 52, 3) := by decide +kernel
theorem dX9_nears_38 : decode cX9_nears 38 = .ok (.iload 5, 2) := by decide +kernel
theorem dX9_nears_40 : decode cX9_nears 40 = .ok (.aaload, 1) := by decide +kernel
theorem dX9_nears_41 : decode cX9_nears 41 = .ok (.iload_n 3, 1) := by decide +kernel
theorem dX9_nears_42 : decode cX9_nears 42 = .ok (.iaload, 1) := by decide +kernel
theorem dX9_nears_43 : decode cX9_nears 43 = .ok (.aload_n 0, 1) := by decide +kernel
theorem dX9_nears_44 : decode cX9_nears 44 = .ok (.getfield 52, 3) := by decide +kernel
theorem dX9_nears_47 : decode cX9_nears 47 = .ok (.iload 4, 2) := by decide +kernel
theorem dX9_nears_49 : decode cX9_nears 49 = .ok (.aaload, 1) := by decide +kernel
theorem dX9_nears_50 : decode cX9_nears 50 = .ok (.iload_n 3, 1) := by decide +kernel
theorem dX9_nears_51 : decode cX9_nears 51 = .ok (.iaload, 1) := by decide +kernel
theorem dX9_nears_52 : decode cX9_nears 52 = .ok (.isub, 1) := by decide +kernel
theorem dX9_nears_53 : decode cX9_nears 53 = .ok (.istore 6, 2) := by decide +kernel
theorem dX9_nears_55 : decode cX9_nears 55 = .ok (.aload_n 0, 1) := by decide +kernel
theorem dX9_nears_56 : decode cX9_nears 56 = .ok (.getfield 31, 3) := by decide +kernel
theorem dX9_nears_59 : decode cX9_nears 59 = .ok (.iload 4, 2) := by decide +kernel
theorem dX9_nears_61 : decode cX9_nears 61 = .ok (.aaload, 1) := by decide +kernel
theorem dX9_nears_62 : decode cX9_nears 62 = .ok (.iconst 4, 1) := by decide +kernel
theorem dX9_nears_63 : decode cX9_nears 63 = .ok (.iaload, 1) := by decide +kernel
theorem dX9_nears_64 : decode cX9_nears 64 = .ok (.istore 7, 2) := by decide +kernel
theorem dX9_nears_66 : decode cX9_nears 66 = .ok (.aload_n 0, 1) := by decide +kernel
theorem dX9_nears_67 : decode cX9_nears 67 = .ok (.getfield 31, 3) := by decide +kernel
theorem dX9_nears_70 : decode cX9_nears 70 = .ok (.iload 5, 2) := by decide +kernel
theorem dX9_nears_72 : decode cX9_nears 72 = .ok (.aaload, 1) := by decide +kernel
theorem dX9_nears_73 : decode cX9_nears 73 = .ok (.iconst 4, 1) := by decide +kernel
theorem dX9_nears_74 : decode cX9_nears 74 = .ok (.iaload, 1) := by decide +kernel
theorem dX9_nears_75 : decode cX9_nears 75 = .ok (.istore 8, 2) := by decide +kernel
theorem dX9_nears_77 : decode cX9_nears 77 = .ok (.iload 7, 2) := by decide +kernel
theorem dX9_nears_79 : decode cX9_nears 79 = .ok (.iload 8, 2) := by decide +kernel
theorem dX9_nears_81 : decode cX9_nears 81 = .ok (.iadd, 1) := by decide +kernel
theorem dX9_nears_82 : decode cX9_nears 82 = .ok (.iload 6, 2) := by decide +kernel
theorem dX9_nears_84 : decode cX9_nears 84 = .ok (.if_icmp .gt 34, 3) := by decide +kernel
theorem dX9_nears_87 : decode cX9_nears 87 = .ok (.aload_n 0, 1) := by decide +kernel
theorem dX9_nears_88 : decode cX9_nears 88 = .ok (.getfield 52, 3) := by decide +kernel
theorem dX9_nears_91 : decode cX9_nears 91 = .ok (.iload 4, 2) := by decide +kernel
theorem dX9_nears_93 : decode cX9_nears 93 = .ok (.aaload, 1) := by decide +kernel
theorem dX9_nears_94 : decode cX9_nears 94 = .ok (.iload_n 3, 1) := by decide +kernel
theorem dX9_nears_95 : decode cX9_nears 95 = .ok (.dup2, 1) := by decide +kernel
theorem dX9_nears_96 : decode cX9_nears 96 = .ok (.iaload, 1) := by decide +kernel
theorem dX9_nears_97 : decode cX9_nears 97 = .ok (.iload 7, 2) := by decide +kernel
theorem dX9_nears_99 : decode cX9_nears 99 = .ok (.iadd, 1) := by decide +kernel
theorem dX9_nears_100 : decode cX9_nears 100 = .ok (.iastore, 1) := by decide +kernel
theorem dX9_nears_101 : decode cX9_nears 101 = .ok (.aload_n 0, 1) := by decide +kernel
theorem dX9_nears_102 : decode cX9_nears 102 = .ok (.getfield 52, 3) := by decide +kernel
theorem dX9_nears_105 : decode cX9_nears 105 = .ok (.iload 5, 2) := by decide +kernel
theorem dX9_nears_107 : decode cX9_nears 107 = .ok (.aaload, 1) := by decide +kernel
theorem dX9_nears_108 : decode cX9_nears 108 = .ok (.iload_n 3, 1) := by decide +kernel
theorem dX9_nears_109 : decode cX9_nears 109 = .ok (.dup2, 1) := by decide +kernel
theorem dX9_nears_110 : decode cX9_nears 110 = .ok (.iaload, 1) := by decide +kernel
theorem dX9_nears_111 : decode cX9_nears 111 = .ok (.iload 8, 2) := by decide +kernel
theorem dX9_nears_113 : decode cX9_nears 113 = .ok (.isub, 1) := by decide +kernel
theorem dX9_nears_114 : decode cX9_nears 114 = .ok (.iastore, 1) := by decide +kernel
theorem dX9_nears_115 : decode cX9_nears 115 = .ok (.goto 44, 3) := by decide +kernel
theorem dX9_nears_118 : decode cX9_nears 118 = .ok (.aload_n 0, 1) := by decide +kernel
theorem dX9_nears_119 : decode cX9_nears 119 = .ok (.getfield 52, 3) := by decide +kernel
theorem dX9_nears_122 : decode cX9_nears 122 = .ok (.iload 4, 2) := by decide +kernel
theorem dX9_nears_124 : decode cX9_nears 124 = .ok (.aaload, 1) := by decide +kernel
theorem dX9_nears_125 : decode cX9_nears 125 = .ok (.iload_n 3, 1) := by decide +kernel
theorem dX9_nears_126 : decode cX9_nears 126 = .ok (.dup2, 1) := by decide +kernel
theorem dX9_nears_127 : decode cX9_nears 127 = .ok (.iaload, 1) := by decide +kernel
theorem dX9_nears_128 : decode cX9_nears 128 = .ok (.iload 6, 2) := by decide +kernel
theorem dX9_nears_130 : decode cX9_nears 130 = .ok (.iload 7, 2) := by decide +kernel
theorem dX9_nears_132 : decode cX9_nears 132 = .ok (.imul, 1) := by decide +kernel
theorem dX9_nears_133 : decode cX9_nears 133 = .ok (.iload 7, 2) := by decide +kernel
theorem dX9_nears_135 : decode cX9_nears 135 = .ok (.iload 8, 2) := by decide +kernel
theorem dX9_nears_137 : decode cX9_nears 137 = .ok (.iadd, 1) := by decide +kernel
theorem dX9_nears_138 : decode cX9_nears 138 = .ok (.idiv, 1) := by decide +kernel
theorem dX9_nears_139 : decode cX9_nears 139 = .ok (.iadd, 1) := by decide +kernel
theorem dX9_nears_140 : decode cX9_nears 140 = .ok (.iastore, 1) := by decide +kernel
theorem dX9_nears_141 : decode cX9_nears 141 = .ok (.aload_n 0, 1) := by decide +kernel
theorem dX9_nears_142 : decode cX9_nears 142 = .ok (.getfield 52, 3) := by decide +kernel
theorem dX9_nears_145 : decode cX9_nears 145 = .ok (.iload 5, 2) := by decide +kernel
theorem dX9_nears_147 : decode cX9_nears 147 = .ok (.aaload, 1) := by decide +kernel
theorem dX9_nears_148 : decode cX9_nears 148 = .ok (.iload_n 3, 1) := by decide +kernel
theorem dX9_nears_149 : decode cX9_nears 149 = .ok (.aload_n 0, 1) := by decide +kernel
theorem dX9_nears_150 : decode cX9_nears 150 = .ok (.getfield 52, 3) := by decide +kernel
theorem dX9_nears_153 : decode cX9_nears 153 = .ok (.iload 4, 2) := by decide +kernel
theorem dX9_nears_155 : decode cX9_nears 155 = .ok (.aaload, 1) := by decide +kernel
theorem dX9_nears_156 : decode cX9_nears 156 = .ok (.iload_n 3, 1) := by decide +kernel
theorem dX9_nears_157 : decode cX9_nears 157 = .ok (.iaload, 1) := by decide +kernel
theorem dX9_nears_158 : decode cX9_nears 158 = .ok (.iastore, 1) := by decide +kernel
theorem dX9_nears_159 : decode cX9_nears 159 = .ok (.return_, 1) := by decide +kernel
theorem dX9_works_0 : decode cX9_works 0 = .ok (.aload_n 0, 1) := by decide +kernel
theorem dX9_works_1 : decode cX9_works 1 = .ok (.getfield 61, 3) := by decide +kernel
theorem dX9_works_4 : decode cX9_works 4 = .ok (.iload_n 1, 1) := by decide +kernel
theorem dX9_works_5 : decode cX9_works 5 = .ok (.iconst 1, 1) := by decide +kernel
theorem dX9_works_6 : decode cX9_works 6 = .ok (.iastore, 1) := by decide +kernel
theorem dX9_works_7 : decode cX9_works 7 = .ok (.aload_n 0, 1) := by decide +kernel
theorem dX9_works_8 : decode cX9_works 8 = .ok (.getfield 58, 3) := by decide +kernel
theorem dX9_works_11 : decode cX9_works 11 = .ok (.iload_n 2, 1) := by decide +kernel
theorem dX9_works_12 : decode cX9_works 12 = .ok (.dup2, 1) := by decide +kernel
theorem dX9_works_13 : decode cX9_works 13 = .ok (.iaload, 1) := by decide +kernel
theorem dX9_works_14 : decode cX9_works 14 = .ok (.aload_n 0, 1) := by decide +kernel
theorem dX9_works_15 : decode cX9_works 15 = .ok (.getfield 37, 3) := by decide +kernel
theorem dX9_works_18 : decode cX9_works 18 = .ok (.iload_n 1, 1) := by decide +kernel
theorem dX9_works_19 : decode cX9_works 19 = .ok (.aaload, 1) := by decide +kernel
theorem dX9_works_20 : decode cX9_works 20 = .ok (.iconst 1, 1) := by decide +kernel
theorem dX9_works_21 : decode cX9_works 21 = .ok (.iaload, 1) := by decide +kernel
theorem dX9_works_22 : decode cX9_works 22 = .ok (.isub, 1) := by decide +kernel
theorem dX9_works_23 : decode cX9_works 23 = .ok (.iastore, 1) := by decide +kernel
theorem dX9_works_24 : decode cX9_works 24 = .ok (.aload_n 0, 1) := by decide +kernel
theorem dX9_works_25 : decode cX9_works 25 = .ok (.getfield 58, 3) := by decide +kernel
theorem dX9_works_28 : decode cX9_works 28 = .ok (.iload_n 3, 1) := by decide +kernel
theorem dX9_works_29 : decode cX9_works 29 = .ok (.dup2, 1) := by decide +kernel
theorem dX9_works_30 : decode cX9_works 30 = .ok (.iaload, 1) := by decide +kernel
theorem dX9_works_31 : decode cX9_works 31 = .ok (.aload_n 0, 1) := by decide +kernel
theorem dX9_works_32 : decode cX9_works 32 = .ok (.getfield 37, 3) := by decide +kernel
theorem dX9_works_35 : decode cX9_works 35 = .ok (.iload_n 1, 1) := by decide +kernel
theorem dX9_works_36 : decode cX9_works 36 = .ok (.aaload, 1) := by decide +kernel
theorem dX9_works_37 : decode cX9_works 37 = .ok (.iconst 1, 1) := by decide +kernel
theorem dX9_works_38 : decode cX9_works 38 = .ok (.iaload, 1) := by decide +kernel
theorem dX9_works_39 : decode cX9_works 39 = .ok (.isub, 1) := by decide +kernel
theorem dX9_works_40 : decode cX9_works 40 = .ok (.iastore, 1) := by decide +kernel
theorem dX9_works_41 : decode cX9_works 41 = .ok (.aload_n 0, 1) := by decide +kernel
theorem dX9_works_42 : decode cX9_works 42 = .ok (.iload_n 2, 1) := by decide +kernel
theorem dX9_works_43 : decode cX9_works 43 = .ok (.iload_n 3, 1) := by decide +kernel
theorem dX9_works_44 : decode cX9_works 44 = .ok (.aload_n 0, 1) := by decide +kernel
theorem dX9_works_45 : decode cX9_works 45 = .ok (.iload_n 1, 1) := by decide +kernel
theorem dX9_works_46 : decode cX9_works 46 = .ok (.invokevirtual 226, 3) := by decide +kernel
theorem dX9_works_49 : decode cX9_works 49 = .ok (.invokevirtual 232, 3) := by decide +kernel
theorem dX9_works_52 : decode cX9_works 52 = .ok (.return_, 1) := by decide +kernel
theorem dX9_work_0 : decode cX9_work 0 = .ok (.aload_n 0, 1) := by decide +kernel
theorem dX9_work_1 : decode cX9_work 1 = .ok (.iconst 0, 1) := by decide +kernel
theorem dX9_work_2 : decode cX9_work 2 = .ok (.putfield 106, 3) := by decide +kernel
theorem dX9_work_5 : decode cX9_work 5 = .ok (.aload_n 0, 1) := by decide +kernel
theorem dX9_work_6 : decode cX9_work 6 = .ok (.iload_n 1, 1) := by decide +kernel
theorem dX9_work_7 : decode cX9_work 7 = .ok (.iload_n 2, 1) := by decide +kernel
theorem dX9_work_8 : decode cX9_work 8 = .ok (.iload_n 3, 1) := by decide +kernel
theorem dX9_work_9 : decode cX9_work 9 = .ok (.invokevirtual 236, 3) := by decide +kernel
theorem dX9_work_12 : decode cX9_work 12 = .ok (.ifCond .eq 5, 3) := by decide +kernel
theorem dX9_work_15 : decode cX9_work 15 = .ok (.iconst 0, 1) := by decide +kernel
theorem dX9_work_16 : decode cX9_work 16 = .ok (.ireturn, 1) := by decide +kernel
theorem dX9_work_17 : decode cX9_work 17 = .ok (.aload_n 0, 1) := by decide +kernel
theorem dX9_work_18 : decode cX9_work 18 = .ok (.iload_n 1, 1) := by decide +kernel
theorem dX9_work_19 : decode cX9_work 19 = .ok (.iload_n 2, 1) := by decide +kernel
theorem dX9_work_20 : decode cX9_work 20 = .ok (.iload_n 3, 1) := by decide +kernel
theorem dX9_work_21 : decode cX9_work 21 = .ok (.invokevirtual 239, 3) := by decide +kernel
theorem dX9_work_24 : decode cX9_work 24 = .ok (.istore 4, 2) := by decide +kernel
theorem dX9_work_26 : decode cX9_work 26 = .ok (.iload 4, 2) := by decide +kernel
theorem dX9_work_28 : decode cX9_work 28 = .ok (.ifCond .le 7, 3) := by decide +kernel
theorem dX9_work_31 : decode cX9_work 31 = .ok (.iload 4, 2) := by decide +kernel
theorem dX9_work_33 : decode cX9_work 33 = .ok (.ineg, 1) := by decide +kernel
theorem dX9_work_34 : decode cX9_work 34 = .ok (.ireturn, 1) := by decide +kernel
theorem dX9_work_35 : decode cX9_work 35 = .ok (.aload_n 0, 1) := by decide +kernel
theorem dX9_work_36 : decode cX9_work 36 = .ok (.iload_n 1, 1) := by decide +kernel
theorem dX9_work_37 : decode cX9_work 37 = .ok (.iload_n 2, 1) := by decide +kernel
theorem dX9_work_38 : decode cX9_work 38 = .ok (.iload_n 3, 1) := by decide +kernel
theorem dX9_work_39 : decode cX9_work 39 = .ok (.invokevirtual 242, 3) := by decide +kernel
theorem dX9_work_42 : decode cX9_work 42 = .ok (.aload_n 0, 1) := by decide +kernel
theorem dX9_work_43 : decode cX9_work 43 = .ok (.getfield 52, 3) := by decide +kernel
theorem dX9_work_46 : decode cX9_work 46 = .ok (.iload_n 2, 1) := by decide +kernel
theorem dX9_work_47 : decode cX9_work 47 = .ok (.aaload, 1) := by decide +kernel
theorem dX9_work_48 : decode cX9_work 48 = .ok (.aload_n 0, 1) := by decide +kernel
theorem dX9_work_49 : decode cX9_work 49 = .ok (.iload_n 1, 1) := by decide +kernel
theorem dX9_work_50 : decode cX9_work 50 = .ok (.invokevirtual 226, 3) := by decide +kernel
theorem dX9_work_53 : decode cX9_work 53 = .ok (.iaload, 1) := by decide +kernel
theorem dX9_work_54 : decode cX9_work 54 = .ok (.aload_n 0, 1) := by decide +kernel
theorem dX9_work_55 : decode cX9_work 55 = .ok (.getfield 52, 3) := by decide +kernel
theorem dX9_work_58 : decode cX9_work 58 = .ok (.iload_n 3, 1) := by decide +kernel
theorem dX9_work_59 : decode cX9_work 59 = .ok (.aaload, 1) := by decide +kernel
theorem dX9_work_60 : decode cX9_work 60 = .ok (.aload_n 0, 1) := by decide +kernel
theorem dX9_work_61 : decode cX9_work 61 = .ok (.iload_n 1, 1) := by decide +kernel
theorem dX9_work_62 : decode cX9_work 62 = .ok (.invokevirtual 226, 3) := by decide +kernel
theorem dX9_work_65 : decode cX9_work 65 = .ok (.iaload, 1) := by decide +kernel
theorem dX9_work_66 : decode cX9_work 66 = .ok (.isub, 1) := by decide +kernel
theorem dX9_work_67 : decode cX9_work 67 = .ok (.invokestatic 229, 3) := by decide +kernel
theorem dX9_work_70 : decode cX9_work 70 = .ok (.ireturn, 1) := by decide +kernel
theorem dX9_may_0 : decode cX9_may 0 = .ok (.aload_n 0, 1) := by decide +kernel
theorem dX9_may_1 : decode cX9_may 1 = .ok (.iconst 0, 1) := by decide +kernel
theorem dX9_may_2 : decode cX9_may 2 = .ok (.putfield 106, 3) := by decide +kernel
theorem dX9_may_5 : decode cX9_may 5 = .ok (.aload_n 0, 1) := by decide +kernel
theorem dX9_may_6 : decode cX9_may 6 = .ok (.iload_n 1, 1) := by decide +kernel
theorem dX9_may_7 : decode cX9_may 7 = .ok (.iload_n 2, 1) := by decide +kernel
theorem dX9_may_8 : decode cX9_may 8 = .ok (.iload_n 3, 1) := by decide +kernel
theorem dX9_may_9 : decode cX9_may 9 = .ok (.invokevirtual 236, 3) := by decide +kernel
theorem dX9_may_12 : decode cX9_may 12 = .ok (.ifCond .eq 5, 3) := by decide +kernel
theorem dX9_may_15 : decode cX9_may 15 = .ok (.iconst 0, 1) := by decide +kernel
theorem dX9_may_16 : decode cX9_may 16 = .ok (.ireturn, 1) := by decide +kernel
theorem dX9_may_17 : decode cX9_may 17 = .ok (.aload_n 0, 1) := by decide +kernel
theorem dX9_may_18 : decode cX9_may 18 = .ok (.iload_n 1, 1) := by decide +kernel
theorem dX9_may_19 : decode cX9_may 19 = .ok (.iload_n 2, 1) := by decide +kernel
theorem dX9_may_20 : decode cX9_may 20 = .ok (.iload_n 3, 1) := by decide +kernel
theorem dX9_may_21 : decode cX9_may 21 = .ok (.invokevirtual 239, 3) := by decide +kernel
theorem dX9_may_24 : decode cX9_may 24 = .ok (.ireturn, 1) := by decide +kernel
theorem dX9_next_0 : decode cX9_next 0 = .ok (.aload_n 0, 1) := by decide +kernel
theorem dX9_next_1 : decode cX9_next 1 = .ok (.iconst 0, 1) := by decide +kernel
theorem dX9_next_2 : decode cX9_next 2 = .ok (.putfield 106, 3) := by decide +kernel
theorem dX9_next_5 : decode cX9_next 5 = .ok (.aload_n 0, 1) := by decide +kernel
theorem dX9_next_6 : decode cX9_next 6 = .ok (.aload_n 0, 1) := by decide +kernel
theorem dX9_next_7 : decode cX9_next 7 = .ok (.getfield 23, 3) := by decide +kernel
theorem dX9_next_10 : decode cX9_next 10 = .ok (.iconst 0, 1) := by decide +kernel
theorem dX9_next_11 : decode cX9_next 11 = .ok (.iaload, 1) := by decide +kernel
theorem dX9_next_12 : decode cX9_next 12 = .ok (.ifCond .ne 7, 3) := by decide +kernel
theorem dX9_next_15 : decode cX9_next 15 = .ok (.iconst 1, 1) := by decide +kernel
theorem dX9_next_16 : decode cX9_next 16 = .ok (.goto 4, 3) := by decide +kernel
theorem dX9_next_19 : decode cX9_next 19 = .ok (.iconst 0, 1) := by decide +kernel
theorem dX9_next_20 : decode cX9_next 20 = .ok (.iconst 1, 1) := by decide +kernel
theorem dX9_next_21 : decode cX9_next 21 = .ok (.invokevirtual 188, 3) := by decide +kernel
theorem dX9_next_24 : decode cX9_next 24 = .ok (.ifCond .eq 5, 3) := by decide +kernel
theorem dX9_next_27 : decode cX9_next 27 = .ok (.iconst 0, 1) := by decide +kernel
theorem dX9_next_28 : decode cX9_next 28 = .ok (.ireturn, 1) := by decide +kernel
theorem dX9_next_29 : decode cX9_next 29 = .ok (.aload_n 0, 1) := by decide +kernel
theorem dX9_next_30 : decode cX9_next 30 = .ok (.getfield 198, 3) := by decide +kernel
theorem dX9_next_33 : decode cX9_next 33 = .ok (.bipush 29, 2) := by decide +kernel
theorem dX9_next_35 : decode cX9_next 35 = .ok (.if_icmp .ne 5, 3) := by decide +kernel
theorem dX9_next_38 : decode cX9_next 38 = .ok (.iconst (-1), 1) := by decide +kernel
theorem dX9_next_39 : decode cX9_next 39 = .ok (.ireturn, 1) := by decide +kernel
theorem dX9_next_40 : decode cX9_next 40 = .ok (.aload_n 0, 1) := by decide +kernel
theorem dX9_next_41 : decode cX9_next 41 = .ok (.dup, 1) := by decide +kernel
theorem dX9_next_42 : decode cX9_next 42 = .ok (.getfield 198, 3) := by decide +kernel
theorem dX9_next_45 : decode cX9_next 45 = .ok (.iconst 1, 1) := by decide +kernel
theorem dX9_next_46 : decode cX9_next 46 = .ok (.iadd, 1) := by decide +kernel
theorem dX9_next_47 : decode cX9_next 47 = .ok (.putfield 198, 3) := by decide +kernel
theorem dX9_next_50 : decode cX9_next 50 = .ok (.aload_n 0, 1) := by decide +kernel
theorem dX9_next_51 : decode cX9_next 51 = .ok (.invokevirtual 207, 3) := by decide +kernel
theorem dX9_next_54 : decode cX9_next 54 = .ok (.aload_n 0, 1) := by decide +kernel
theorem dX9_next_55 : decode cX9_next 55 = .ok (.getfield 198, 3) := by decide +kernel
theorem dX9_next_58 : decode cX9_next 58 = .ok (.ireturn, 1) := by decide +kernel
theorem dX9_talks_0 : decode cX9_talks 0 = .ok (.aload_n 0, 1) := by decide +kernel
theorem dX9_talks_1 : decode cX9_talks 1 = .ok (.getfield 52, 3) := by decide +kernel
theorem dX9_talks_4 : decode cX9_talks 4 = .ok (.iload_n 1, 1) := by decide +kernel
theorem dX9_talks_5 : decode cX9_talks 5 = .ok (.aaload, 1) := by decide +kernel
theorem dX9_talks_6 : decode cX9_talks 6 = .ok (.iload_n 3, 1) := by decide +kernel
theorem dX9_talks_7 : decode cX9_talks 7 = .ok (.dup2, 1) := by decide +kernel
theorem dX9_talks_8 : decode cX9_talks 8 = .ok (.iaload, 1) := by decide +kernel
theorem dX9_talks_9 : decode cX9_talks 9 = .ok (.aload_n 0, 1) := by decide +kernel
theorem dX9_talks_10 : decode cX9_talks 10 = .ok (.getfield 52, 3) := by decide +kernel
theorem dX9_talks_13 : decode cX9_talks 13 = .ok (.iload_n 2, 1) := by decide +kernel
theorem dX9_talks_14 : decode cX9_talks 14 = .ok (.aaload, 1) := by decide +kernel
theorem dX9_talks_15 : decode cX9_talks 15 = .ok (.iload_n 3, 1) := by decide +kernel
theorem dX9_talks_16 : decode cX9_talks 16 = .ok (.iaload, 1) := by decide +kernel
theorem dX9_talks_17 : decode cX9_talks 17 = .ok (.aload_n 0, 1) := by decide +kernel
theorem dX9_talks_18 : decode cX9_talks 18 = .ok (.getfield 52, 3) := by decide +kernel
theorem dX9_talks_21 : decode cX9_talks 21 = .ok (.iload_n 1, 1) := by decide +kernel
theorem dX9_talks_22 : decode cX9_talks 22 = .ok (.aaload, 1) := by decide +kernel
theorem dX9_talks_23 : decode cX9_talks 23 = .ok (.iload_n 3, 1) := by decide +kernel
theorem dX9_talks_24 : decode cX9_talks 24 = .ok (.iaload, 1) := by decide +kernel
theorem dX9_talks_25 : decode cX9_talks 25 = .ok (.if_icmp .le 7, 3) := by decide +kernel
theorem dX9_talks_28 : decode cX9_talks 28 = .ok (.iconst 1, 1) := by decide +kernel
theorem dX9_talks_29 : decode cX9_talks 29 = .ok (.goto 27, 3) := by decide +kernel
theorem dX9_talks_32 : decode cX9_talks 32 = .ok (.aload_n 0, 1) := by decide +kernel
theorem dX9_talks_33 : decode cX9_talks 33 = .ok (.getfield 52, 3) := by decide +kernel
theorem dX9_talks_36 : decode cX9_talks 36 = .ok (.iload_n 2, 1) := by decide +kernel
theorem dX9_talks_37 : decode cX9_talks 37 = .ok (.aaload, 1) := by decide +kernel
theorem dX9_talks_38 : decode cX9_talks 38 = .ok (.iload_n 3, 1) := by decide +kernel
theorem dX9_talks_39 : decode cX9_talks 39 = .ok (.iaload, 1) := by decide +kernel
theorem dX9_talks_40 : decode cX9_talks 40 = .ok (.aload_n 0, 1) := by decide +kernel
theorem dX9_talks_41 : decode cX9_talks 41 = .ok (.getfield 52, 3) := by decide +kernel
theorem dX9_talks_44 : decode cX9_talks 44 = .ok (.iload_n 1, 1) := by decide +kernel
theorem dX9_talks_45 : decode cX9_talks 45 = .ok (.aaload, 1) := by decide +kernel
theorem dX9_talks_46 : decode cX9_talks 46 = .ok (.iload_n 3, 1) := by decide +kernel
theorem dX9_talks_47 : decode cX9_talks 47 = .ok (.iaload, 1) := by decide +kernel
theorem dX9_talks_48 : decode cX9_talks 48 = .ok (.if_icmp .ge 7, 3) := by decide +kernel
theorem dX9_talks_51 : decode cX9_talks 51 = .ok (.iconst (-1), 1) := by decide +kernel
theorem dX9_talks_52 : decode cX9_talks 52 = .ok (.goto 4, 3) := by decide +kernel
theorem dX9_talks_55 : decode cX9_talks 55 = .ok (.iconst 0, 1) := by decide +kernel
theorem dX9_talks_56 : decode cX9_talks 56 = .ok (.iadd, 1) := by decide +kernel
theorem dX9_talks_57 : decode cX9_talks 57 = .ok (.iastore, 1) := by decide +kernel
theorem dX9_talks_58 : decode cX9_talks 58 = .ok (.return_, 1) := by decide +kernel
theorem dX9_talk_0 : decode cX9_talk 0 = .ok (.aload_n 0, 1) := by decide +kernel
theorem dX9_talk_1 : decode cX9_talk 1 = .ok (.iconst 0, 1) := by decide +kernel
theorem dX9_talk_2 : decode cX9_talk 2 = .ok (.putfield 106, 3) := by decide +kernel
theorem dX9_talk_5 : decode cX9_talk 5 = .ok (.aload_n 0, 1) := by decide +kernel
theorem dX9_talk_6 : decode cX9_talk 6 = .ok (.aload_n 0, 1) := by decide +kernel
theorem dX9_talk_7 : decode cX9_talk 7 = .ok (.iload_n 1, 1) := by decide +kernel
theorem dX9_talk_8 : decode cX9_talk 8 = .ok (.invokevirtual 214, 3) := by decide +kernel
theorem dX9_talk_11 : decode cX9_talk 11 = .ok (.ifCond .eq 11, 3) := by decide +kernel
theorem dX9_talk_14 : decode cX9_talk 14 = .ok (.aload_n 0, 1) := by decide +kernel
theorem dX9_talk_15 : decode cX9_talk 15 = .ok (.iload_n 2, 1) := by decide +kernel
theorem dX9_talk_16 : decode cX9_talk 16 = .ok (.invokevirtual 214, 3) := by decide +kernel
theorem dX9_talk_19 : decode cX9_talk 19 = .ok (.ifCond .ne 7, 3) := by decide +kernel
theorem dX9_talk_22 : decode cX9_talk 22 = .ok (.iconst 1, 1) := by decide +kernel
theorem dX9_talk_23 : decode cX9_talk 23 = .ok (.goto 4, 3) := by decide +kernel
theorem dX9_talk_26 : decode cX9_talk 26 = .ok (.iconst 0, 1) := by decide +kernel
theorem dX9_talk_27 : decode cX9_talk 27 = .ok (.iconst 1, 1) := by decide +kernel
theorem dX9_talk_28 : decode cX9_talk 28 = .ok (.invokevirtual 188, 3) := by decide +kernel
theorem dX9_talk_31 : decode cX9_talk 31 = .ok (.ifCond .ne 29, 3) := by decide +kernel
theorem dX9_talk_34 : decode cX9_talk 34 = .ok (.aload_n 0, 1) := by decide +kernel
theorem dX9_talk_35 : decode cX9_talk 35 = .ok (.aload_n 0, 1) := by decide +kernel
theorem dX9_talk_36 : decode cX9_talk 36 = .ok (.iload_n 3, 1) := by decide +kernel
theorem dX9_talk_37 : decode cX9_talk 37 = .ok (.invokevirtual 217, 3) := by decide +kernel
theorem dX9_talk_40 : decode cX9_talk 40 = .ok (.ifCond .eq 8, 3) := by decide +kernel
theorem dX9_talk_43 : decode cX9_talk 43 = .ok (.iload_n 1, 1) := by decide +kernel
theorem dX9_talk_44 : decode cX9_talk 44 = .ok (.iload_n 2, 1) := by decide +kernel
theorem dX9_talk_45 : decode cX9_talk 45 = .ok (.if_icmp .ne 7, 3) := by decide +kernel
theorem dX9_talk_48 : decode cX9_talk 48 = .ok (.iconst 1, 1) := by decide +kernel
theorem dX9_talk_49 : decode cX9_talk 49 = .ok (.goto 4, 3) := by decide +kernel
theorem dX9_talk_52 : decode cX9_talk 52 = .ok (.iconst 0, 1) := by decide +kernel
theorem dX9_talk_53 : decode cX9_talk 53 = .ok (.iconst 2, 1) := by decide +kernel
theorem dX9_talk_54 : decode cX9_talk 54 = .ok (.invokevirtual 188, 3) := by decide +kernel
theorem dX9_talk_57 : decode cX9_talk 57 = .ok (.ifCond .eq 5, 3) := by decide +kernel
theorem dX9_talk_60 : decode cX9_talk 60 = .ok (.iconst 0, 1) := by decide +kernel
theorem dX9_talk_61 : decode cX9_talk 61 = .ok (.ireturn, 1) := by decide +kernel
theorem dX9_talk_62 : decode cX9_talk 62 = .ok (.aload_n 0, 1) := by decide +kernel
theorem dX9_talk_63 : decode cX9_talk 63 = .ok (.iload_n 1, 1) := by decide +kernel
theorem dX9_talk_64 : decode cX9_talk 64 = .ok (.iload_n 2, 1) := by decide +kernel
theorem dX9_talk_65 : decode cX9_talk 65 = .ok (.iload_n 3, 1) := by decide +kernel
theorem dX9_talk_66 : decode cX9_talk 66 = .ok (.invokevirtual 245, 3) := by decide +kernel
theorem dX9_talk_69 : decode cX9_talk 69 = .ok (.aload_n 0, 1) := by decide +kernel
theorem dX9_talk_70 : decode cX9_talk 70 = .ok (.getfield 52, 3) := by decide +kernel
theorem dX9_talk_73 : decode cX9_talk 73 = .ok (.iload_n 1, 1) := by decide +kernel
theorem dX9_talk_74 : decode cX9_talk 74 = .ok (.aaload, 1) := by decide +kernel
theorem dX9_talk_75 : decode cX9_talk 75 = .ok (.iload_n 3, 1) := by decide +kernel
theorem dX9_talk_76 : decode cX9_talk 76 = .ok (.iaload, 1) := by decide +kernel
theorem dX9_talk_77 : decode cX9_talk 77 = .ok (.ireturn, 1) := by decide +kernel
theorem dX9_earned_0 : decode cX9_earned 0 = .ok (.aload_n 0, 1) := by decide +kernel
theorem dX9_earned_1 : decode cX9_earned 1 = .ok (.iconst 0, 1) := by decide +kernel
theorem dX9_earned_2 : decode cX9_earned 2 = .ok (.putfield 106, 3) := by decide +kernel
theorem dX9_earned_5 : decode cX9_earned 5 = .ok (.aload_n 0, 1) := by decide +kernel
theorem dX9_earned_6 : decode cX9_earned 6 = .ok (.iload_n 1, 1) := by decide +kernel
theorem dX9_earned_7 : decode cX9_earned 7 = .ok (.iconst 0, 1) := by decide +kernel
theorem dX9_earned_8 : decode cX9_earned 8 = .ok (.iconst 1, 1) := by decide +kernel
theorem dX9_earned_9 : decode cX9_earned 9 = .ok (.invokestatic 140, 3) := by decide +kernel
theorem dX9_earned_12 : decode cX9_earned 12 = .ok (.ifCond .ne 7, 3) := by decide +kernel
theorem dX9_earned_15 : decode cX9_earned 15 = .ok (.iconst 1, 1) := by decide +kernel
theorem dX9_earned_16 : decode cX9_earned 16 = .ok (.goto 4, 3) := by decide +kernel
theorem dX9_earned_19 : decode cX9_earned 19 = .ok (.iconst 0, 1) := by decide +kernel
theorem dX9_earned_20 : decode cX9_earned 20 = .ok (.iconst 1, 1) := by decide +kernel
theorem dX9_earned_21 : decode cX9_earned 21 = .ok (.invokevirtual 188, 3) := by decide +kernel
theorem dX9_earned_24 : decode cX9_earned 24 = .ok (.ifCond .eq 5, 3) := by decide +kernel
theorem dX9_earned_27 : decode cX9_earned 27 = .ok (.iconst 0, 1) := by decide +kernel
theorem dX9_earned_28 : decode cX9_earned 28 = .ok (.ireturn, 1) := by decide +kernel
theorem dX9_earned_29 : decode cX9_earned 29 = .ok (.iconst 0, 1) := by decide +kernel
theorem dX9_earned_30 : decode cX9_earned 30 = .ok (.istore_n 2, 1) := by decide +kernel
theorem dX9_earned_31 : decode cX9_earned 31 = .ok (.iconst 0, 1) := by decide +kernel
theorem dX9_earned_32 : decode cX9_earned 32 = .ok (.istore_n 3, 1) := by decide +kernel
theorem dX9_earned_33 : decode cX9_earned 33 = .ok (.iload_n 3, 1) := by decide +kernel
theorem dX9_earned_34 : decode cX9_earned 34 = .ok (.aload_n 0, 1) := by decide +kernel
theorem dX9_earned_35 : decode cX9_earned 35 = .ok (.getfield 23, 3) := by decide +kernel
theorem dX9_earned_38 : decode cX9_earned 38 = .ok (.iconst 2, 1) := by decide +kernel
theorem dX9_earned_39 : decode cX9_earned 39 = .ok (.iaload, 1) := by decide +kernel
theorem dX9_earned_40 : decode cX9_earned 40 = .ok (.if_icmp .ge 67, 3) := by decide +kernel
theorem dX9_earned_43 : decode cX9_earned 43 = .ok (.iload_n 2, 1) := by decide +kernel
theorem dX9_earned_44 : decode cX9_earned 44 = .ok (.iload_n 1, 1) := by decide +kernel
theorem dX9_earned_45 : decode cX9_earned 45 = .ok (.ifCond .ne 13, 3) := by decide +kernel
theorem dX9_earned_48 : decode cX9_earned 48 = .ok (.aload_n 0, 1) := by decide +kernel
theorem dX9_earned_49 : decode cX9_earned 49 = .ok (.getfield 61, 3) := by decide +kernel
theorem dX9_earned_52 : decode cX9_earned 52 = .ok (.iload_n 3, 1) := by decide +kernel
theorem dX9_earned_53 : decode cX9_earned 53 = .ok (.iaload, 1) := by decide +kernel
theorem dX9_earned_54 : decode cX9_earned 54 = .ok (.iconst 1, 1) := by decide +kernel
theorem dX9_earned_55 : decode cX9_earned 55 = .ok (.if_icmp .eq 32, 3) := by decide +kernel
theorem dX9_earned_58 : decode cX9_earned 58 = .ok (.iload_n 1, 1) := by decide +kernel
theorem dX9_earned_59 : decode cX9_earned 59 = .ok (.iconst 1, 1) := by decide +kernel
theorem dX9_earned_60 : decode cX9_earned 60 = .ok (.if_icmp .ne 38, 3) := by decide +kernel
theorem dX9_earned_63 : decode cX9_earned 63 = .ok (.aload_n 0, 1) := by decide +kernel
theorem dX9_earned_64 : decode cX9_earned 64 = .ok (.getfield 61, 3) := by decide +kernel
theorem dX9_earned_67 : decode cX9_earned 67 = .ok (.iload_n 3, 1) := by decide +kernel
theorem dX9_earned_68 : decode cX9_earned 68 = .ok (.iaload, 1) := by decide +kernel
theorem dX9_earned_69 : decode cX9_earned 69 = .ok (.ifCond .ne 29, 3) := by decide +kernel
theorem dX9_earned_72 : decode cX9_earned 72 = .ok (.aload_n 0, 1) := by decide +kernel
theorem dX9_earned_73 : decode cX9_earned 73 = .ok (.getfield 198, 3) := by decide +kernel
theorem dX9_earned_76 : decode cX9_earned 76 = .ok (.aload_n 0, 1) := by decide +kernel
theorem dX9_earned_77 : decode cX9_earned 77 = .ok (.getfield 37, 3) := by decide +kernel
theorem dX9_earned_80 : decode cX9_earned 80 = .ok (.iload_n 3, 1) := by decide +kernel
theorem dX9_earned_81 : decode cX9_earned 81 = .ok (.aaload, 1) := by decide +kernel
theorem dX9_earned_82 : decode cX9_earned 82 = .ok (.iconst 2, 1) := by decide +kernel
theorem dX9_earned_83 : decode cX9_earned 83 = .ok (.iaload, 1) := by decide +kernel
theorem dX9_earned_84 : decode cX9_earned 84 = .ok (.if_icmp .le 14, 3) := by decide +kernel
theorem dX9_earned_87 : decode cX9_earned 87 = .ok (.aload_n 0, 1) := by decide +kernel
theorem dX9_earned_88 : decode cX9_earned 88 = .ok (.getfield 37, 3) := by decide +kernel
theorem dX9_earned_91 : decode cX9_earned 91 = .ok (.iload_n 3, 1) := by decide +kernel
theorem dX9_earned_92 : decode cX9_earned 92 = .ok (.aaload, 1) := by decide +kernel
theorem dX9_earned_93 : decode cX9_earned 93 = .ok (.iconst 0, 1) := by decide +kernel
theorem dX9_earned_94 : decode cX9_earned 94 = .ok (.iaload, 1) := by decide +kernel
theorem dX9_earned_95 : decode cX9_earned 95 = .ok (.goto 4, 3) := by decide +kernel
theorem dX9_earned_98 : decode cX9_earned 98 = .ok (.iconst 0, 1) := by decide +kernel
theorem dX9_earned_99 : decode cX9_earned 99 = .ok (.iadd, 1) := by decide +kernel
theorem dX9_earned_100 : decode cX9_earned 100 = .ok (.istore_n 2, 1) := by decide +kernel
theorem dX9_earned_101 : decode cX9_earned 101 = .ok (.iinc 3 1, 3) := by decide +kernel
theorem dX9_earned_104 : decode cX9_earned 104 = .ok (.goto (-71), 3) := by decide +kernel
theorem dX9_earned_107 : decode cX9_earned 107 = .ok (.iload_n 2, 1) := by decide +kernel
theorem dX9_earned_108 : decode cX9_earned 108 = .ok (.ireturn, 1) := by decide +kernel
theorem dX9_row_0 : decode cX9_row 0 = .ok (.aload_n 0, 1) := by decide +kernel
theorem dX9_row_1 : decode cX9_row 1 = .ok (.iconst 0, 1) := by decide +kernel
theorem dX9_row_2 : decode cX9_row 2 = .ok (.putfield 106, 3) := by decide +kernel
theorem dX9_row_5 : decode cX9_row 5 = .ok (.aload_n 0, 1) := by decide +kernel
theorem dX9_row_6 : decode cX9_row 6 = .ok (.iload_n 2, 1) := by decide +kernel
theorem dX9_row_7 : decode cX9_row 7 = .ok (.iload_n 3, 1) := by decide +kernel
theorem dX9_row_8 : decode cX9_row 8 = .ok (.iload 4, 2) := by decide +kernel
theorem dX9_row_10 : decode cX9_row 10 = .ok (.invokevirtual 236, 3) := by decide +kernel
theorem dX9_row_13 : decode cX9_row 13 = .ok (.ifCond .ne 26, 3) := by decide +kernel
theorem dX9_row_16 : decode cX9_row 16 = .ok (.aload_n 0, 1) := by decide +kernel
theorem dX9_row_17 : decode cX9_row 17 = .ok (.iload_n 1, 1) := by decide +kernel
theorem dX9_row_18 : decode cX9_row 18 = .ok (.iconst 0, 1) := by decide +kernel
theorem dX9_row_19 : decode cX9_row 19 = .ok (.bipush 29, 2) := by decide +kernel
theorem dX9_row_21 : decode cX9_row 21 = .ok (.invokestatic 140, 3) := by decide +kernel
theorem dX9_row_24 : decode cX9_row 24 = .ok (.ifCond .ne 7, 3) := by decide +kernel
theorem dX9_row_27 : decode cX9_row 27 = .ok (.iconst 1, 1) := by decide +kernel
theorem dX9_row_28 : decode cX9_row 28 = .ok (.goto 4, 3) := by decide +kernel
theorem dX9_row_31 : decode cX9_row 31 = .ok (.iconst 0, 1) := by decide +kernel
theorem dX9_row_32 : decode cX9_row 32 = .ok (.iconst 3, 1) := by decide +kernel
theorem dX9_row_33 : decode cX9_row 33 = .ok (.invokevirtual 188, 3) := by decide +kernel
theorem dX9_row_36 : decode cX9_row 36 = .ok (.ifCond .eq 5, 3) := by decide +kernel
theorem dX9_row_39 : decode cX9_row 39 = .ok (.iconst 0, 1) := by decide +kernel
theorem dX9_row_40 : decode cX9_row 40 = .ok (.ireturn, 1) := by decide +kernel
theorem dX9_row_41 : decode cX9_row 41 = .ok (.aload_n 0, 1) := by decide +kernel
theorem dX9_row_42 : decode cX9_row 42 = .ok (.getfield 201, 3) := by decide +kernel
theorem dX9_row_45 : decode cX9_row 45 = .ok (.bipush 30, 2) := by decide +kernel
theorem dX9_row_47 : decode cX9_row 47 = .ok (.if_icmp .ne 5, 3) := by decide +kernel
theorem dX9_row_50 : decode cX9_row 50 = .ok (.iconst (-1), 1) := by decide +kernel
theorem dX9_row_51 : decode cX9_row 51 = .ok (.ireturn, 1) := by decide +kernel
theorem dX9_row_52 : decode cX9_row 52 = .ok (.aload_n 0, 1) := by decide +kernel
theorem dX9_row_53 : decode cX9_row 53 = .ok (.getfield 55, 3) := by decide +kernel
theorem dX9_row_56 : decode cX9_row 56 = .ok (.aload_n 0, 1) := by decide +kernel
theorem dX9_row_57 : decode cX9_row 57 = .ok (.getfield 201, 3) := by decide +kernel
theorem dX9_row_60 : decode cX9_row 60 = .ok (.aaload, 1) := by decide +kernel
theorem dX9_row_61 : decode cX9_row 61 = .ok (.iconst 0, 1) := by decide +kernel
theorem dX9_row_62 : decode cX9_row 62 = .ok (.iload_n 1, 1) := by decide +kernel
theorem dX9_row_63 : decode cX9_row 63 = .ok (.iastore, 1) := by decide +kernel
theorem dX9_row_64 : decode cX9_row 64 = .ok (.aload_n 0, 1) := by decide +kernel
theorem dX9_row_65 : decode cX9_row 65 = .ok (.getfield 55, 3) := by decide +kernel
theorem dX9_row_68 : decode cX9_row 68 = .ok (.aload_n 0, 1) := by decide +kernel
theorem dX9_row_69 : decode cX9_row 69 = .ok (.getfield 201, 3) := by decide +kernel
theorem dX9_row_72 : decode cX9_row 72 = .ok (.aaload, 1) := by decide +kernel
theorem dX9_row_73 : decode cX9_row 73 = .ok (.iconst 1, 1) := by decide +kernel
theorem dX9_row_74 : decode cX9_row 74 = .ok (.iload_n 2, 1) := by decide +kernel
theorem dX9_row_75 : decode cX9_row 75 = .ok (.iastore, 1) := by decide +kernel
theorem dX9_row_76 : decode cX9_row 76 = .ok (.aload_n 0, 1) := by decide +kernel
theorem dX9_row_77 : decode cX9_row 77 = .ok (.getfield 55, 3) := by decide +kernel
theorem dX9_row_80 : decode cX9_row 80 = .ok (.aload_n 0, 1) := by decide +kernel
theorem dX9_row_81 : decode cX9_row 81 = .ok (.getfield 201, 3) := by decide +kernel
theorem dX9_row_84 : decode cX9_row 84 = .ok (.aaload, 1) := by decide +kernel
theorem dX9_row_85 : decode cX9_row 85 = .ok (.iconst 2, 1) := by decide +kernel
theorem dX9_row_86 : decode cX9_row 86 = .ok (.iload_n 3, 1) := by decide +kernel
theorem dX9_row_87 : decode cX9_row 87 = .ok (.iastore, 1) := by decide +kernel
theorem dX9_row_88 : decode cX9_row 88 = .ok (.aload_n 0, 1) := by decide +kernel
theorem dX9_row_89 : decode cX9_row 89 = .ok (.getfield 55, 3) := by decide +kernel
theorem dX9_row_92 : decode cX9_row 92 = .ok (.aload_n 0, 1) := by decide +kernel
theorem dX9_row_93 : decode cX9_row 93 = .ok (.getfield 201, 3) := by decide +kernel
theorem dX9_row_96 : decode cX9_row 96 = .ok (.aaload, 1) := by decide +kernel
theorem dX9_row_97 : decode cX9_row 97 = .ok (.iconst 3, 1) := by decide +kernel
theorem dX9_row_98 : decode cX9_row 98 = .ok (.iload 4, 2) := by decide +kernel
theorem dX9_row_100 : decode cX9_row 100 = .ok (.iastore, 1) := by decide +kernel
theorem dX9_row_101 : decode cX9_row 101 = .ok (.aload_n 0, 1) := by decide +kernel
theorem dX9_row_102 : decode cX9_row 102 = .ok (.dup, 1) := by decide +kernel
theorem dX9_row_103 : decode cX9_row 103 = .ok (.getfield 201, 3) := by decide +kernel
theorem dX9_row_106 : decode cX9_row 106 = .ok (.iconst 1, 1) := by decide +kernel
theorem dX9_row_107 : decode cX9_row 107 = .ok (.iadd, 1) := by decide +kernel
theorem dX9_row_108 : decode cX9_row 108 = .ok (.putfield 201, 3) := by decide +kernel
theorem dX9_row_111 : decode cX9_row 111 = .ok (.aload_n 0, 1) := by decide +kernel
theorem dX9_row_112 : decode cX9_row 112 = .ok (.getfield 201, 3) := by decide +kernel
theorem dX9_row_115 : decode cX9_row 115 = .ok (.ireturn, 1) := by decide +kernel
theorem dX9_clear_0 : decode cX9_clear 0 = .ok (.aload_n 0, 1) := by decide +kernel
theorem dX9_clear_1 : decode cX9_clear 1 = .ok (.iconst 0, 1) := by decide +kernel
theorem dX9_clear_2 : decode cX9_clear 2 = .ok (.putfield 106, 3) := by decide +kernel
theorem dX9_clear_5 : decode cX9_clear 5 = .ok (.aload_n 0, 1) := by decide +kernel
theorem dX9_clear_6 : decode cX9_clear 6 = .ok (.getfield 201, 3) := by decide +kernel
theorem dX9_clear_9 : decode cX9_clear 9 = .ok (.istore_n 1, 1) := by decide +kernel
theorem dX9_clear_10 : decode cX9_clear 10 = .ok (.aload_n 0, 1) := by decide +kernel
theorem dX9_clear_11 : decode cX9_clear 11 = .ok (.iconst 0, 1) := by decide +kernel
theorem dX9_clear_12 : decode cX9_clear 12 = .ok (.putfield 201, 3) := by decide +kernel
theorem dX9_clear_15 : decode cX9_clear 15 = .ok (.iload_n 1, 1) := by decide +kernel
theorem dX9_clear_16 : decode cX9_clear 16 = .ok (.ireturn, 1) := by decide +kernel
theorem dX9_moves_0 : decode cX9_moves 0 = .ok (.iload_n 3, 1) := by decide +kernel
theorem dX9_moves_1 : decode cX9_moves 1 = .ok (.ifCond .ne 10, 3) := by decide +kernel
theorem dX9_moves_4 : decode cX9_moves 4 = .ok (.aload_n 1, 1) := by decide +kernel
theorem dX9_moves_5 : decode cX9_moves 5 = .ok (.aload_n 0, 1) := by decide +kernel
theorem dX9_moves_6 : decode cX9_moves 6 = .ok (.getfield 252, 3) := by decide +kernel
theorem dX9_moves_9 : decode cX9_moves 9 = .ok (.iload_n 2, 1) := by decide +kernel
theorem dX9_moves_10 : decode cX9_moves 10 = .ok (.iastore, 1) := by decide +kernel
theorem dX9_moves_11 : decode cX9_moves 11 = .ok (.aload_n 0, 1) := by decide +kernel
theorem dX9_moves_12 : decode cX9_moves 12 = .ok (.dup, 1) := by decide +kernel
theorem dX9_moves_13 : decode cX9_moves 13 = .ok (.getfield 252, 3) := by decide +kernel
theorem dX9_moves_16 : decode cX9_moves 16 = .ok (.iconst 1, 1) := by decide +kernel
theorem dX9_moves_17 : decode cX9_moves 17 = .ok (.iadd, 1) := by decide +kernel
theorem dX9_moves_18 : decode cX9_moves 18 = .ok (.putfield 252, 3) := by decide +kernel
theorem dX9_moves_21 : decode cX9_moves 21 = .ok (.aload_n 1, 1) := by decide +kernel
theorem dX9_moves_22 : decode cX9_moves 22 = .ok (.aload_n 0, 1) := by decide +kernel
theorem dX9_moves_23 : decode cX9_moves 23 = .ok (.getfield 252, 3) := by decide +kernel
theorem dX9_moves_26 : decode cX9_moves 26 = .ok (.iconst 1, 1) := by decide +kernel
theorem dX9_moves_27 : decode cX9_moves 27 = .ok (.isub, 1) := by decide +kernel
theorem dX9_moves_28 : decode cX9_moves 28 = .ok (.iaload, 1) := by decide +kernel
theorem dX9_moves_29 : decode cX9_moves 29 = .ok (.ireturn, 1) := by decide +kernel
theorem dX9_movesAll_0 : decode cX9_movesAll 0 = .ok (.aload_n 0, 1) := by decide +kernel
theorem dX9_movesAll_1 : decode cX9_movesAll 1 = .ok (.iconst 0, 1) := by decide +kernel
theorem dX9_movesAll_2 : decode cX9_movesAll 2 = .ok (.putfield 252, 3) := by decide +kernel
theorem dX9_movesAll_5 : decode cX9_movesAll 5 = .ok (.aload_n 0, 1) := by decide +kernel
theorem dX9_movesAll_6 : decode cX9_movesAll 6 = .ok (.aload_n 0, 1) := by decide +kernel
theorem dX9_movesAll_7 : decode cX9_movesAll 7 = .ok (.aload_n 1, 1) := by decide +kernel
theorem dX9_movesAll_8 : decode cX9_movesAll 8 = .ok (.aload_n 0, 1) := by decide +kernel
theorem dX9_movesAll_9 : decode cX9_movesAll 9 = .ok (.getfield 198, 3) := by decide +kernel
theorem dX9_movesAll_12 : decode cX9_movesAll 12 = .ok (.iload_n 2, 1) := by decide +kernel
theorem dX9_movesAll_13 : decode cX9_movesAll 13 = .ok (.invokevirtual 255, 3) := by decide +kernel
theorem dX9_movesAll_16 : decode cX9_movesAll 16 = .ok (.putfield 198, 3) := by decide +kernel
theorem dX9_movesAll_19 : decode cX9_movesAll 19 = .ok (.aload_n 0, 1) := by decide +kernel
theorem dX9_movesAll_20 : decode cX9_movesAll 20 = .ok (.aload_n 0, 1) := by decide +kernel
theorem dX9_movesAll_21 : decode cX9_movesAll 21 = .ok (.aload_n 1, 1) := by decide +kernel
theorem dX9_movesAll_22 : decode cX9_movesAll 22 = .ok (.aload_n 0, 1) := by decide +kernel
theorem dX9_movesAll_23 : decode cX9_movesAll 23 = .ok (.getfield 201, 3) := by decide +kernel
theorem dX9_movesAll_26 : decode cX9_movesAll 26 = .ok (.iload_n 2, 1) := by decide +kernel
theorem dX9_movesAll_27 : decode cX9_movesAll 27 = .ok (.invokevirtual 255, 3) := by decide +kernel
theorem dX9_movesAll_30 : decode cX9_movesAll 30 = .ok (.putfield 201, 3) := by decide +kernel
theorem dX9_movesAll_33 : decode cX9_movesAll 33 = .ok (.iconst 0, 1) := by decide +kernel
theorem dX9_movesAll_34 : decode cX9_movesAll 34 = .ok (.istore_n 3, 1) := by decide +kernel
theorem dX9_movesAll_35 : decode cX9_movesAll 35 = .ok (.iload_n 3, 1) := by decide +kernel
theorem dX9_movesAll_36 : decode cX9_movesAll 36 = .ok (.bipush 9, 2) := by decide +kernel
theorem dX9_movesAll_38 : decode cX9_movesAll 38 = .ok (.if_icmp .ge 48, 3) := by decide +kernel
theorem dX9_movesAll_41 : decode cX9_movesAll 41 = .ok (.iconst 0, 1) := by decide +kernel
theorem dX9_movesAll_42 : decode cX9_movesAll 42 = .ok (.istore 4, 2) := by decide +kernel
theorem dX9_movesAll_44 : decode cX9_movesAll 44 = .ok (.iload 4, 2) := by decide +kernel
theorem dX9_movesAll_46 : decode cX9_movesAll 46 = .ok (.iconst 4, 1) := by decide +kernel
theorem dX9_movesAll_47 : decode cX9_movesAll 47 = .ok (.if_icmp .ge 33, 3) := by decide +kernel
theorem dX9_movesAll_50 : decode cX9_movesAll 50 = .ok (.aload_n 0, 1) := by decide +kernel
theorem dX9_movesAll_51 : decode cX9_movesAll 51 = .ok (.getfield 52, 3) := by decide +kernel
theorem dX9_movesAll_54 : decode cX9_movesAll 54 = .ok (.iload_n 3, 1) := by decide +kernel
theorem dX9_movesAll_55 : decode cX9_movesAll 55 = .ok (.aaload, 1) := by decide +kernel
theorem dX9_movesAll_56 : decode cX9_movesAll 56 = .ok (.iload 4, 2) := by decide +kernel
theorem dX9_movesAll_58 : decode cX9_movesAll 58 = .ok (.aload_n 0, 1) := by decide +kernel
theorem dX9_movesAll_59 : decode cX9_movesAll 59 = .ok (.aload_n 1, 1) := by decide +kernel
theorem dX9_movesAll_60 : decode cX9_movesAll 60 = .ok (.aload_n 0, 1) := by decide +kernel
theorem dX9_movesAll_61 : decode cX9_movesAll 61 = .ok (.getfield 52, 3) := by decide +kernel
theorem dX9_movesAll_64 : decode cX9_movesAll 64 = .ok (.iload_n 3, 1) := by decide +kernel
theorem dX9_movesAll_65 : decode cX9_movesAll 65 = .ok (.aaload, 1) := by decide +kernel
theorem dX9_movesAll_66 : decode cX9_movesAll 66 = .ok (.iload 4, 2) := by decide +kernel
theorem dX9_movesAll_68 : decode cX9_movesAll 68 = .ok (.iaload, 1) := by decide +kernel
theorem dX9_movesAll_69 : decode cX9_movesAll 69 = .ok (.iload_n 2, 1) := by decide +kernel
theorem dX9_movesAll_70 : decode cX9_movesAll 70 = .ok (.invokevirtual 255, 3) := by decide +kernel
theorem dX9_movesAll_73 : decode cX9_movesAll 73 = .ok (.iastore, 1) := by decide +kernel
theorem dX9_movesAll_74 : decode cX9_movesAll 74 = .ok (.iinc 4 1, 3) := by decide +kernel
theorem dX9_movesAll_77 : decode cX9_movesAll 77 = .ok (.goto (-33), 3) := by decide +kernel
theorem dX9_movesAll_80 : decode cX9_movesAll 80 = .ok (.iinc 3 1, 3) := by decide +kernel
theorem dX9_movesAll_83 : decode cX9_movesAll 83 = .ok (.goto (-48), 3) := by decide +kernel
theorem dX9_movesAll_86 : decode cX9_movesAll 86 = .ok (.iconst 0, 1) := by decide +kernel
theorem dX9_movesAll_87 : decode cX9_movesAll 87 = .ok (.istore_n 3, 1) := by decide +kernel
theorem dX9_movesAll_88 : decode cX9_movesAll 88 = .ok (.iload_n 3, 1) := by decide +kernel
theorem dX9_movesAll_89 : decode cX9_movesAll 89 = .ok (.bipush 9, 2) := by decide +kernel
theorem dX9_movesAll_91 : decode cX9_movesAll 91 = .ok (.if_icmp .ge 27, 3) := by decide +kernel
theorem dX9_movesAll_94 : decode cX9_movesAll 94 = .ok (.aload_n 0, 1) := by decide +kernel
theorem dX9_movesAll_95 : decode cX9_movesAll 95 = .ok (.getfield 58, 3) := by decide +kernel
theorem dX9_movesAll_98 : decode cX9_movesAll 98 = .ok (.iload_n 3, 1) := by decide +kernel
theorem dX9_movesAll_99 : decode cX9_movesAll 99 = .ok (.aload_n 0, 1) := by decide +kernel
theorem dX9_movesAll_100 : decode cX9_movesAll 100 = .ok (.aload_n 1, 1) := by decide +kernel
theorem dX9_movesAll_101 : decode cX9_movesAll 101 = .ok (.aload_n 0, 1) := by decide +kernel
theorem dX9_movesAll_102 : decode cX9_movesAll 102 = .ok (.getfield 58, 3) := by decide +kernel
theorem dX9_movesAll_105 : decode cX9_movesAll 105 = .ok (.iload_n 3, 1) := by decide +kernel
theorem dX9_movesAll_106 : decode cX9_movesAll 106 = .ok (.iaload, 1) := by decide +kernel
theorem dX9_movesAll_107 : decode cX9_movesAll 107 = .ok (.iload_n 2, 1) := by decide +kernel
theorem dX9_movesAll_108 : decode cX9_movesAll 108 = .ok (.invokevirtual 255, 3) := by decide +kernel
theorem dX9_movesAll_111 : decode cX9_movesAll 111 = .ok (.iastore, 1) := by decide +kernel
theorem dX9_movesAll_112 : decode cX9_movesAll 112 = .ok (.iinc 3 1, 3) := by decide +kernel
theorem dX9_movesAll_115 : decode cX9_movesAll 115 = .ok (.goto (-27), 3) := by decide +kernel
theorem dX9_movesAll_118 : decode cX9_movesAll 118 = .ok (.iconst 0, 1) := by decide +kernel
theorem dX9_movesAll_119 : decode cX9_movesAll 119 = .ok (.istore_n 3, 1) := by decide +kernel
theorem dX9_movesAll_120 : decode cX9_movesAll 120 = .ok (.iload_n 3, 1) := by decide +kernel
theorem dX9_movesAll_121 : decode cX9_movesAll 121 = .ok (.bipush 10, 2) := by decide +kernel
theorem dX9_movesAll_123 : decode cX9_movesAll 123 = .ok (.if_icmp .ge 27, 3) := by decide +kernel
theorem dX9_movesAll_126 : decode cX9_movesAll 126 = .ok (.aload_n 0, 1) := by decide +kernel
theorem dX9_movesAll_127 : decode cX9_movesAll 127 = .ok (.getfield 61, 3) := by decide +kernel
theorem dX9_movesAll_130 : decode cX9_movesAll 130 = .ok (.iload_n 3, 1) := by decide +kernel
theorem dX9_movesAll_131 : decode cX9_movesAll 131 = .ok (.aload_n 0, 1) := by decide +kernel
theorem dX9_movesAll_132 : decode cX9_movesAll 132 = .ok (.aload_n 1, 1) := by decide +kernel
theorem dX9_movesAll_133 : decode cX9_movesAll 133 = .ok (.aload_n 0, 1) := by decide +kernel
theorem dX9_movesAll_134 : decode cX9_movesAll 134 = .ok (.getfield 61, 3) := by decide +kernel
theorem dX9_movesAll_137 : decode cX9_movesAll 137 = .ok (.iload_n 3, 1) := by decide +kernel
theorem dX9_movesAll_138 : decode cX9_movesAll 138 = .ok (.iaload, 1) := by decide +kernel
theorem dX9_movesAll_139 : decode cX9_movesAll 139 = .ok (.iload_n 2, 1) := by decide +kernel
theorem dX9_movesAll_140 : decode cX9_movesAll 140 = .ok (.invokevirtual 255, 3) := by decide +kernel
theorem dX9_movesAll_143 : decode cX9_movesAll 143 = .ok (.iastore, 1) := by decide +kernel
theorem dX9_movesAll_144 : decode cX9_movesAll 144 = .ok (.iinc 3 1, 3) := by decide +kernel
theorem dX9_movesAll_147 : decode cX9_movesAll 147 = .ok (.goto (-27), 3) := by decide +kernel
theorem dX9_movesAll_150 : decode cX9_movesAll 150 = .ok (.iconst 0, 1) := by decide +kernel
theorem dX9_movesAll_151 : decode cX9_movesAll 151 = .ok (.istore_n 3, 1) := by decide +kernel
theorem dX9_movesAll_152 : decode cX9_movesAll 152 = .ok (.iload_n 3, 1) := by decide +kernel
theorem dX9_movesAll_153 : decode cX9_movesAll 153 = .ok (.bipush 30, 2) := by decide +kernel
theorem dX9_movesAll_155 : decode cX9_movesAll 155 = .ok (.if_icmp .ge 48, 3) := by decide +kernel
theorem dX9_movesAll_158 : decode cX9_movesAll 158 = .ok (.iconst 0, 1) := by decide +kernel
theorem dX9_movesAll_159 : decode cX9_movesAll 159 = .ok (.istore 4, 2) := by decide +kernel
theorem dX9_movesAll_161 : decode cX9_movesAll 161 = .ok (.iload 4, 2) := by decide +kernel
theorem dX9_movesAll_163 : decode cX9_movesAll 163 = .ok (.iconst 4, 1) := by decide +kernel
theorem dX9_movesAll_164 : decode cX9_movesAll 164 = .ok (.if_icmp .ge 33, 3) := by decide +kernel
theorem dX9_movesAll_167 : decode cX9_movesAll 167 = .ok (.aload_n 0, 1) := by decide +kernel
theorem dX9_movesAll_168 : decode cX9_movesAll 168 = .ok (.getfield 55, 3) := by decide +kernel
theorem dX9_movesAll_171 : decode cX9_movesAll 171 = .ok (.iload_n 3, 1) := by decide +kernel
theorem dX9_movesAll_172 : decode cX9_movesAll 172 = .ok (.aaload, 1) := by decide +kernel
theorem dX9_movesAll_173 : decode cX9_movesAll 173 = .ok (.iload 4, 2) := by decide +kernel
theorem dX9_movesAll_175 : decode cX9_movesAll 175 = .ok (.aload_n 0, 1) := by decide +kernel
theorem dX9_movesAll_176 : decode cX9_movesAll 176 = .ok (.aload_n 1, 1) := by decide +kernel
theorem dX9_movesAll_177 : decode cX9_movesAll 177 = .ok (.aload_n 0, 1) := by decide +kernel
theorem dX9_movesAll_178 : decode cX9_movesAll 178 = .ok (.getfield 55, 3) := by decide +kernel
theorem dX9_movesAll_181 : decode cX9_movesAll 181 = .ok (.iload_n 3, 1) := by decide +kernel
theorem dX9_movesAll_182 : decode cX9_movesAll 182 = .ok (.aaload, 1) := by decide +kernel
theorem dX9_movesAll_183 : decode cX9_movesAll 183 = .ok (.iload 4, 2) := by decide +kernel
theorem dX9_movesAll_185 : decode cX9_movesAll 185 = .ok (.iaload, 1) := by decide +kernel
theorem dX9_movesAll_186 : decode cX9_movesAll 186 = .ok (.iload_n 2, 1) := by decide +kernel
theorem dX9_movesAll_187 : decode cX9_movesAll 187 = .ok (.invokevirtual 255, 3) := by decide +kernel
theorem dX9_movesAll_190 : decode cX9_movesAll 190 = .ok (.iastore, 1) := by decide +kernel
theorem dX9_movesAll_191 : decode cX9_movesAll 191 = .ok (.iinc 4 1, 3) := by decide +kernel
theorem dX9_movesAll_194 : decode cX9_movesAll 194 = .ok (.goto (-33), 3) := by decide +kernel
theorem dX9_movesAll_197 : decode cX9_movesAll 197 = .ok (.iinc 3 1, 3) := by decide +kernel
theorem dX9_movesAll_200 : decode cX9_movesAll 200 = .ok (.goto (-48), 3) := by decide +kernel
theorem dX9_movesAll_203 : decode cX9_movesAll 203 = .ok (.return_, 1) := by decide +kernel
theorem dX9_lays_0 : decode cX9_lays 0 = .ok (.aload_n 0, 1) := by decide +kernel
theorem dX9_lays_1 : decode cX9_lays 1 = .ok (.aload_n 0, 1) := by decide +kernel
theorem dX9_lays_2 : decode cX9_lays 2 = .ok (.getfield 67, 3) := by decide +kernel
theorem dX9_lays_5 : decode cX9_lays 5 = .ok (.iload_n 1, 1) := by decide +kernel
theorem dX9_lays_6 : decode cX9_lays 6 = .ok (.aaload, 1) := by decide +kernel
theorem dX9_lays_7 : decode cX9_lays 7 = .ok (.iload_n 2, 1) := by decide +kernel
theorem dX9_lays_8 : decode cX9_lays 8 = .ok (.invokevirtual 259, 3) := by decide +kernel
theorem dX9_lays_11 : decode cX9_lays 11 = .ok (.return_, 1) := by decide +kernel
theorem dX9_judge_0 : decode cX9_judge 0 = .ok (.aload_n 0, 1) := by decide +kernel
theorem dX9_judge_1 : decode cX9_judge 1 = .ok (.iconst 0, 1) := by decide +kernel
theorem dX9_judge_2 : decode cX9_judge 2 = .ok (.putfield 106, 3) := by decide +kernel
theorem dX9_judge_5 : decode cX9_judge 5 = .ok (.aload_n 0, 1) := by decide +kernel
theorem dX9_judge_6 : decode cX9_judge 6 = .ok (.iload_n 1, 1) := by decide +kernel
theorem dX9_judge_7 : decode cX9_judge 7 = .ok (.iconst 0, 1) := by decide +kernel
theorem dX9_judge_8 : decode cX9_judge 8 = .ok (.iconst 1, 1) := by decide +kernel
theorem dX9_judge_9 : decode cX9_judge 9 = .ok (.invokestatic 140, 3) := by decide +kernel
theorem dX9_judge_12 : decode cX9_judge 12 = .ok (.ifCond .ne 7, 3) := by decide +kernel
theorem dX9_judge_15 : decode cX9_judge 15 = .ok (.iconst 1, 1) := by decide +kernel
theorem dX9_judge_16 : decode cX9_judge 16 = .ok (.goto 4, 3) := by decide +kernel
theorem dX9_judge_19 : decode cX9_judge 19 = .ok (.iconst 0, 1) := by decide +kernel
theorem dX9_judge_20 : decode cX9_judge 20 = .ok (.iconst 1, 1) := by decide +kernel
theorem dX9_judge_21 : decode cX9_judge 21 = .ok (.invokevirtual 188, 3) := by decide +kernel
theorem dX9_judge_24 : decode cX9_judge 24 = .ok (.ifCond .eq 5, 3) := by decide +kernel
theorem dX9_judge_27 : decode cX9_judge 27 = .ok (.iconst 0, 1) := by decide +kernel
theorem dX9_judge_28 : decode cX9_judge 28 = .ok (.ireturn, 1) := by decide +kernel
theorem dX9_judge_29 : decode cX9_judge 29 = .ok (.iconst (-1), 1) := by decide +kernel
theorem dX9_judge_30 : decode cX9_judge 30 = .ok (.istore_n 2, 1) := by decide +kernel
theorem dX9_judge_31 : decode cX9_judge 31 = .ok (.iconst 0, 1) := by decide +kernel
theorem dX9_judge_32 : decode cX9_judge 32 = .ok (.istore_n 3, 1) := by decide +kernel
theorem dX9_judge_33 : decode cX9_judge 33 = .ok (.aload_n 0, 1) := by decide +kernel
theorem dX9_judge_34 : decode cX9_judge 34 = .ok (.iconst 0, 1) := by decide +kernel
theorem dX9_judge_35 : decode cX9_judge 35 = .ok (.iconst 0, 1) := by decide +kernel
theorem dX9_judge_36 : decode cX9_judge 36 = .ok (.invokevirtual 248, 3) := by decide +kernel
theorem dX9_judge_39 : decode cX9_judge 39 = .ok (.iconst 0, 1) := by decide +kernel
theorem dX9_judge_40 : decode cX9_judge 40 = .ok (.istore 4, 2) := by decide +kernel
theorem dX9_judge_42 : decode cX9_judge 42 = .ok (.iload 4, 2) := by decide +kernel
theorem dX9_judge_44 : decode cX9_judge 44 = .ok (.aload_n 0, 1) := by decide +kernel
theorem dX9_judge_45 : decode cX9_judge 45 = .ok (.getfield 201, 3) := by decide +kernel
theorem dX9_judge_48 : decode cX9_judge 48 = .ok (.if_icmp .ge 144, 3) := by decide +kernel
theorem dX9_judge_51 : decode cX9_judge 51 = .ok (.aload_n 0, 1) := by decide +kernel
theorem dX9_judge_52 : decode cX9_judge 52 = .ok (.getfield 55, 3) := by decide +kernel
theorem dX9_judge_55 : decode cX9_judge 55 = .ok (.iload 4, 2) := by decide +kernel
theorem dX9_judge_57 : decode cX9_judge 57 = .ok (.aaload, 1) := by decide +kernel
theorem dX9_judge_58 : decode cX9_judge 58 = .ok (.astore 5, 2) := by decide +kernel
theorem dX9_judge_60 : decode cX9_judge 60 = .ok (.aload 5, 2) := by decide +kernel
theorem dX9_judge_62 : decode cX9_judge 62 = .ok (.iconst 0, 1) := by decide +kernel
theorem dX9_judge_63 : decode cX9_judge 63 = .ok (.iaload, 1) := by decide +kernel
theorem dX9_judge_64 : decode cX9_judge 64 = .ok (.aload_n 0, 1) := by decide +kernel
theorem dX9_judge_65 : decode cX9_judge 65 = .ok (.getfield 198, 3) := by decide +kernel
theorem dX9_judge_68 : decode cX9_judge 68 = .ok (.if_icmp .ge 8, 3) := by decide +kernel
theorem dX9_judge_71 : decode cX9_judge 71 = .ok (.bipush 6, 2) := by decide +kernel
theorem dX9_judge_73 : decode cX9_judge 73 = .ok (.goto 4, 3) := by decide +kernel
theorem dX9_judge_76 : decode cX9_judge 76 = .ok (.iconst 0, 1) := by decide +kernel
theorem dX9_judge_77 : decode cX9_judge 77 = .ok (.istore 6, 2) := by decide +kernel
theorem dX9_judge_79 : decode cX9_judge 79 = .ok (.aload 5, 2) := by decide +kernel
theorem dX9_judge_81 : decode cX9_judge 81 = .ok (.iconst 0, 1) := by decide +kernel
theorem dX9_judge_82 : decode cX9_judge 82 = .ok (.iaload, 1) := by decide +kernel
theorem dX9_judge_83 : decode cX9_judge 83 = .ok (.aload_n 0, 1) := by decide +kernel
theorem dX9_judge_84 : decode cX9_judge 84 = .ok (.getfield 198, 3) := by decide +kernel
theorem dX9_judge_87 : decode cX9_judge 87 = .ok (.if_icmp .le 15, 3) := by decide +kernel
theorem dX9_judge_90 : decode cX9_judge 90 = .ok (.aload_n 0, 1) := by decide +kernel
theorem dX9_judge_91 : decode cX9_judge 91 = .ok (.aload 5, 2) := by decide +kernel
theorem dX9_judge_93 : decode cX9_judge 93 = .ok (.iconst 0, 1) := by decide +kernel
theorem dX9_judge_94 : decode cX9_judge 94 = .ok (.iaload, 1) := by decide +kernel
theorem dX9_judge_95 : decode cX9_judge 95 = .ok (.putfield 198, 3) := by decide +kernel
theorem dX9_judge_98 : decode cX9_judge 98 = .ok (.aload_n 0, 1) := by decide +kernel
theorem dX9_judge_99 : decode cX9_judge 99 = .ok (.invokevirtual 207, 3) := by decide +kernel
theorem dX9_judge_102 : decode cX9_judge 102 = .ok (.iload 6, 2) := by decide +kernel
theorem dX9_judge_104 : decode cX9_judge 104 = .ok (.ifCond .ne 22, 3) := by decide +kernel
theorem dX9_judge_107 : decode cX9_judge 107 = .ok (.aload_n 0, 1) := by decide +kernel
theorem dX9_judge_108 : decode cX9_judge 108 = .ok (.aload 5, 2) := by decide +kernel
theorem dX9_judge_110 : decode cX9_judge 110 = .ok (.iconst 1, 1) := by decide +kernel
theorem dX9_judge_111 : decode cX9_judge 111 = .ok (.iaload, 1) := by decide +kernel
theorem dX9_judge_112 : decode cX9_judge 112 = .ok (.aload 5, 2) := by decide +kernel
theorem dX9_judge_114 : decode cX9_judge 114 = .ok (.iconst 2, 1) := by decide +kernel
theorem dX9_judge_115 : decode cX9_judge 115 = .ok (.iaload, 1) := by decide +kernel
theorem dX9_judge_116 : decode cX9_judge 116 = .ok (.aload 5, 2) := by decide +kernel
theorem dX9_judge_118 : decode cX9_judge 118 = .ok (.iconst 3, 1) := by decide +kernel
theorem dX9_judge_119 : decode cX9_judge 119 = .ok (.iaload, 1) := by decide +kernel
theorem dX9_judge_120 : decode cX9_judge 120 = .ok (.invokevirtual 239, 3) := by decide +kernel
theorem dX9_judge_123 : decode cX9_judge 123 = .ok (.goto 5, 3) := by decide +kernel
theorem dX9_judge_126 : decode cX9_judge 126 = .ok (.iload 6, 2) := by decide +kernel
theorem dX9_judge_128 : decode cX9_judge 128 = .ok (.istore 6, 2) := by decide +kernel
theorem dX9_judge_130 : decode cX9_judge 130 = .ok (.iload 6, 2) := by decide +kernel
theorem dX9_judge_132 : decode cX9_judge 132 = .ok (.ifCond .le 24, 3) := by decide +kernel
theorem dX9_judge_135 : decode cX9_judge 135 = .ok (.iload_n 2, 1) := by decide +kernel
theorem dX9_judge_136 : decode cX9_judge 136 = .ok (.iconst (-1), 1) := by decide +kernel
theorem dX9_judge_137 : decode cX9_judge 137 = .ok (.if_icmp .ne 14, 3) := by decide +kernel
theorem dX9_judge_140 : decode cX9_judge 140 = .ok (.bipush 10, 2) := by decide +kernel
theorem dX9_judge_142 : decode cX9_judge 142 = .ok (.iload 4, 2) := by decide +kernel
theorem dX9_judge_144 : decode cX9_judge 144 = .ok (.imul, 1) := by decide +kernel
theorem dX9_judge_145 : decode cX9_judge 145 = .ok (.iload 6, 2) := by decide +kernel
theorem dX9_judge_147 : decode cX9_judge 147 = .ok (.iadd, 1) := by decide +kernel
theorem dX9_judge_148 : decode cX9_judge 148 = .ok (.goto 4, 3) := by decide +kernel
theorem dX9_judge_151 : decode cX9_judge 151 = .ok (.iload_n 2, 1) := by decide +kernel
theorem dX9_judge_152 : decode cX9_judge 152 = .ok (.istore_n 2, 1) := by decide +kernel
theorem dX9_judge_153 : decode cX9_judge 153 = .ok (.goto 33, 3) := by decide +kernel
theorem dX9_judge_156 : decode cX9_judge 156 = .ok (.aload_n 0, 1) := by decide +kernel
theorem dX9_judge_157 : decode cX9_judge 157 = .ok (.aload 5, 2) := by decide +kernel
theorem dX9_judge_159 : decode cX9_judge 159 = .ok (.iconst 1, 1) := by decide +kernel
theorem dX9_judge_160 : decode cX9_judge 160 = .ok (.iaload, 1) := by decide +kernel
theorem dX9_judge_161 : decode cX9_judge 161 = .ok (.aload 5, 2) := by decide +kernel
theorem dX9_judge_163 : decode cX9_judge 163 = .ok (.iconst 2, 1) := by decide +kernel
theorem dX9_judge_164 : decode cX9_judge 164 = .ok (.iaload, 1) := by decide +kernel
theorem dX9_judge_165 : decode cX9_judge 165 = .ok (.aload 5, 2) := by decide +kernel
theorem dX9_judge_167 : decode cX9_judge 167 = .ok (.iconst 3, 1) := by decide +kernel
theorem dX9_judge_168 : decode cX9_judge 168 = .ok (.iaload, 1) := by decide +kernel
theorem dX9_judge_169 : decode cX9_judge 169 = .ok (.invokevirtual 242, 3) := by decide +kernel
theorem dX9_judge_172 : decode cX9_judge 172 = .ok (.iload_n 3, 1) := by decide +kernel
theorem dX9_judge_173 : decode cX9_judge 173 = .ok (.aload_n 0, 1) := by decide +kernel
theorem dX9_judge_174 : decode cX9_judge 174 = .ok (.getfield 37, 3) := by decide +kernel
theorem dX9_judge_177 : decode cX9_judge 177 = .ok (.aload 5, 2) := by decide +kernel
theorem dX9_judge_179 : decode cX9_judge 179 = .ok (.iconst 1, 1) := by decide +kernel
theorem dX9_judge_180 : decode cX9_judge 180 = .ok (.iaload, 1) := by decide +kernel
theorem dX9_judge_181 : decode cX9_judge 181 = .ok (.aaload, 1) := by decide +kernel
theorem dX9_judge_182 : decode cX9_judge 182 = .ok (.iconst 0, 1) := by decide +kernel
theorem dX9_judge_183 : decode cX9_judge 183 = .ok (.iaload, 1) := by decide +kernel
theorem dX9_judge_184 : decode cX9_judge 184 = .ok (.iadd, 1) := by decide +kernel
theorem dX9_judge_185 : decode cX9_judge 185 = .ok (.istore_n 3, 1) := by decide +kernel
theorem dX9_judge_186 : decode cX9_judge 186 = .ok (.iinc 4 1, 3) := by decide +kernel
theorem dX9_judge_189 : decode cX9_judge 189 = .ok (.goto (-147), 3) := by decide +kernel
theorem dX9_judge_192 : decode cX9_judge 192 = .ok (.aload_n 0, 1) := by decide +kernel
theorem dX9_judge_193 : decode cX9_judge 193 = .ok (.iconst 0, 1) := by decide +kernel
theorem dX9_judge_194 : decode cX9_judge 194 = .ok (.iconst 1, 1) := by decide +kernel
theorem dX9_judge_195 : decode cX9_judge 195 = .ok (.invokevirtual 248, 3) := by decide +kernel
theorem dX9_judge_198 : decode cX9_judge 198 = .ok (.iload_n 1, 1) := by decide +kernel
theorem dX9_judge_199 : decode cX9_judge 199 = .ok (.ifCond .ne 7, 3) := by decide +kernel
theorem dX9_judge_202 : decode cX9_judge 202 = .ok (.iload_n 2, 1) := by decide +kernel
theorem dX9_judge_203 : decode cX9_judge 203 = .ok (.goto 4, 3) := by decide +kernel
theorem dX9_judge_206 : decode cX9_judge 206 = .ok (.iload_n 3, 1) := by decide +kernel
theorem dX9_judge_207 : decode cX9_judge 207 = .ok (.ireturn, 1) := by decide +kernel
theorem dX9_badAsked_0 : decode cX9_badAsked 0 = .ok (.aload_n 0, 1) := by decide +kernel
theorem dX9_badAsked_1 : decode cX9_badAsked 1 = .ok (.iload_n 1, 1) := by decide +kernel
theorem dX9_badAsked_2 : decode cX9_badAsked 2 = .ok (.iconst (-1), 1) := by decide +kernel
theorem dX9_badAsked_3 : decode cX9_badAsked 3 = .ok (.if_icmp .eq 15, 3) := by decide +kernel
theorem dX9_badAsked_6 : decode cX9_badAsked 6 = .ok (.aload_n 0, 1) := by decide +kernel
theorem dX9_badAsked_7 : decode cX9_badAsked 7 = .ok (.iload_n 1, 1) := by decide +kernel
theorem dX9_badAsked_8 : decode cX9_badAsked 8 = .ok (.invokevirtual 217, 3) := by decide +kernel
theorem dX9_badAsked_11 : decode cX9_badAsked 11 = .ok (.ifCond .ne 7, 3) := by decide +kernel
theorem dX9_badAsked_14 : decode cX9_badAsked 14 = .ok (.iconst 1, 1) := by decide +kernel
theorem dX9_badAsked_15 : decode cX9_badAsked 15 = .ok (.goto 4, 3) := by decide +kernel
theorem dX9_badAsked_18 : decode cX9_badAsked 18 = .ok (.iconst 0, 1) := by decide +kernel
theorem dX9_badAsked_19 : decode cX9_badAsked 19 = .ok (.iconst 1, 1) := by decide +kernel
theorem dX9_badAsked_20 : decode cX9_badAsked 20 = .ok (.invokevirtual 188, 3) := by decide +kernel
theorem dX9_badAsked_23 : decode cX9_badAsked 23 = .ok (.ireturn, 1) := by decide +kernel
theorem dX9_canBe_0 : decode cX9_canBe 0 = .ok (.aload_n 0, 1) := by decide +kernel
theorem dX9_canBe_1 : decode cX9_canBe 1 = .ok (.iload_n 1, 1) := by decide +kernel
theorem dX9_canBe_2 : decode cX9_canBe 2 = .ok (.iload_n 2, 1) := by decide +kernel
theorem dX9_canBe_3 : decode cX9_canBe 3 = .ok (.iload_n 3, 1) := by decide +kernel
theorem dX9_canBe_4 : decode cX9_canBe 4 = .ok (.invokevirtual 239, 3) := by decide +kernel
theorem dX9_canBe_7 : decode cX9_canBe 7 = .ok (.ifCond .ne 7, 3) := by decide +kernel
theorem dX9_canBe_10 : decode cX9_canBe 10 = .ok (.iconst 1, 1) := by decide +kernel
theorem dX9_canBe_11 : decode cX9_canBe 11 = .ok (.goto 4, 3) := by decide +kernel
theorem dX9_canBe_14 : decode cX9_canBe 14 = .ok (.iconst 0, 1) := by decide +kernel
theorem dX9_canBe_15 : decode cX9_canBe 15 = .ok (.ireturn, 1) := by decide +kernel
theorem dX9_adds_0 : decode cX9_adds 0 = .ok (.iconst 0, 1) := by decide +kernel
theorem dX9_adds_1 : decode cX9_adds 1 = .ok (.istore_n 3, 1) := by decide +kernel
theorem dX9_adds_2 : decode cX9_adds 2 = .ok (.iload_n 3, 1) := by decide +kernel
theorem dX9_adds_3 : decode cX9_adds 3 = .ok (.iload_n 2, 1) := by decide +kernel
theorem dX9_adds_4 : decode cX9_adds 4 = .ok (.if_icmp .ge 123, 3) := by decide +kernel
theorem dX9_adds_7 : decode cX9_adds 7 = .ok (.iload_n 3, 1) := by decide +kernel
theorem dX9_adds_8 : decode cX9_adds 8 = .ok (.iconst 1, 1) := by decide +kernel
theorem dX9_adds_9 : decode cX9_adds 9 = .ok (.iadd, 1) := by decide +kernel
theorem dX9_adds_10 : decode cX9_adds 10 = .ok (.istore 4, 2) := by decide +kernel
theorem dX9_adds_12 : decode cX9_adds 12 = .ok (.iload 4, 2) := by decide +kernel
theorem dX9_adds_14 : decode cX9_adds 14 = .ok (.iload_n 2, 1) := by decide +kernel
theorem dX9_adds_15 : decode cX9_adds 15 = .ok (.if_icmp .ge 106, 3) := by decide +kernel
theorem dX9_adds_18 : decode cX9_adds 18 = .ok (.aload_n 0, 1) := by decide +kernel
theorem dX9_adds_19 : decode cX9_adds 19 = .ok (.iload_n 1, 1) := by decide +kernel
theorem dX9_adds_20 : decode cX9_adds 20 = .ok (.iload_n 3, 1) := by decide +kernel
theorem dX9_adds_21 : decode cX9_adds 21 = .ok (.iload 4, 2) := by decide +kernel
theorem dX9_adds_23 : decode cX9_adds 23 = .ok (.invokevirtual 275, 3) := by decide +kernel
theorem dX9_adds_26 : decode cX9_adds 26 = .ok (.ifCond .ne 6, 3) := by decide +kernel
theorem dX9_adds_29 : decode cX9_adds 29 = .ok (.goto 86, 3) := by decide +kernel
theorem dX9_adds_32 : decode cX9_adds 32 = .ok (.iconst 1, 1) := by decide +kernel
theorem dX9_adds_33 : decode cX9_adds 33 = .ok (.iload_n 3, 1) := by decide +kernel
theorem dX9_adds_34 : decode cX9_adds 34 = .ok (.ishl, 1) := by decide +kernel
theorem dX9_adds_35 : decode cX9_adds 35 = .ok (.iconst 1, 1) := by decide +kernel
theorem dX9_adds_36 : decode cX9_adds 36 = .ok (.iload 4, 2) := by decide +kernel
theorem dX9_adds_38 : decode cX9_adds 38 = .ok (.ishl, 1) := by decide +kernel
theorem dX9_adds_39 : decode cX9_adds 39 = .ok (.ior, 1) := by decide +kernel
theorem dX9_adds_40 : decode cX9_adds 40 = .ok (.istore 5, 2) := by decide +kernel
theorem dX9_adds_42 : decode cX9_adds 42 = .ok (.iconst 0, 1) := by decide +kernel
theorem dX9_adds_43 : decode cX9_adds 43 = .ok (.istore 6, 2) := by decide +kernel
theorem dX9_adds_45 : decode cX9_adds 45 = .ok (.iload 6, 2) := by decide +kernel
theorem dX9_adds_47 : decode cX9_adds 47 = .ok (.iconst 1, 1) := by decide +kernel
theorem dX9_adds_48 : decode cX9_adds 48 = .ok (.iload_n 1, 1) := by decide +kernel
theorem dX9_adds_49 : decode cX9_adds 49 = .ok (.ishl, 1) := by decide +kernel
theorem dX9_adds_50 : decode cX9_adds 50 = .ok (.if_icmp .ge 65, 3) := by decide +kernel
theorem dX9_adds_53 : decode cX9_adds 53 = .ok (.iconst 0, 1) := by decide +kernel
theorem dX9_adds_54 : decode cX9_adds 54 = .ok (.istore 7, 2) := by decide +kernel
theorem dX9_adds_56 : decode cX9_adds 56 = .ok (.iload 7, 2) := by decide +kernel
theorem dX9_adds_58 : decode cX9_adds 58 = .ok (.iconst 1, 1) := by decide +kernel
theorem dX9_adds_59 : decode cX9_adds 59 = .ok (.iload_n 2, 1) := by decide +kernel
theorem dX9_adds_60 : decode cX9_adds 60 = .ok (.ishl, 1) := by decide +kernel
theorem dX9_adds_61 : decode cX9_adds 61 = .ok (.if_icmp .ge 48, 3) := by decide +kernel
theorem dX9_adds_64 : decode cX9_adds 64 = .ok (.aload_n 0, 1) := by decide +kernel
theorem dX9_adds_65 : decode cX9_adds 65 = .ok (.getfield 75, 3) := by decide +kernel
theorem dX9_adds_68 : decode cX9_adds 68 = .ok (.iload 6, 2) := by decide +kernel
theorem dX9_adds_70 : decode cX9_adds 70 = .ok (.aaload, 1) := by decide +kernel
theorem dX9_adds_71 : decode cX9_adds 71 = .ok (.iload 7, 2) := by decide +kernel
theorem dX9_adds_73 : decode cX9_adds 73 = .ok (.baload, 1) := by decide +kernel
theorem dX9_adds_74 : decode cX9_adds 74 = .ok (.ifCond .eq 29, 3) := by decide +kernel
theorem dX9_adds_77 : decode cX9_adds 77 = .ok (.iload 7, 2) := by decide +kernel
theorem dX9_adds_79 : decode cX9_adds 79 = .ok (.iload 5, 2) := by decide +kernel
theorem dX9_adds_81 : decode cX9_adds 81 = .ok (.iand, 1) := by decide +kernel
theorem dX9_adds_82 : decode cX9_adds 82 = .ok (.ifCond .ne 21, 3) := by decide +kernel
theorem dX9_adds_85 : decode cX9_adds 85 = .ok (.aload_n 0, 1) := by decide +kernel
theorem dX9_adds_86 : decode cX9_adds 86 = .ok (.getfield 75, 3) := by decide +kernel
theorem dX9_adds_89 : decode cX9_adds 89 = .ok (.iload 6, 2) := by decide +kernel
theorem dX9_adds_91 : decode cX9_adds 91 = .ok (.iconst 1, 1) := by decide +kernel
theorem dX9_adds_92 : decode cX9_adds 92 = .ok (.iload_n 1, 1) := by decide +kernel
theorem dX9_adds_93 : decode cX9_adds 93 = .ok (.ishl, 1) := by decide +kernel
theorem dX9_adds_94 : decode cX9_adds 94 = .ok (.ior, 1) := by decide +kernel
theorem dX9_adds_95 : decode cX9_adds 95 = .ok (.aaload, 1) := by decide +kernel
theorem dX9_adds_96 : decode cX9_adds 96 = .ok (.iload 7, 2) := by decide +kernel
theorem dX9_adds_98 : decode cX9_adds 98 = .ok (.iload 5, 2) := by decide +kernel
theorem dX9_adds_100 : decode cX9_adds 100 = .ok (.ior, 1) := by decide +kernel
theorem dX9_adds_101 : decode cX9_adds 101 = .ok (.iconst 1, 1) := by decide +kernel
theorem dX9_adds_102 : decode cX9_adds 102 = .ok (.bastore, 1) := by decide +kernel
theorem dX9_adds_103 : decode cX9_adds 103 = .ok (.iinc 7 1, 3) := by decide +kernel
theorem dX9_adds_106 : decode cX9_adds 106 = .ok (.goto (-50), 3) := by decide +kernel
theorem dX9_adds_109 : decode cX9_adds 109 = .ok (.iinc 6 1, 3) := by decide +kernel
theorem dX9_adds_112 : decode cX9_adds 112 = .ok (.goto (-67), 3) := by decide +kernel
theorem dX9_adds_115 : decode cX9_adds 115 = .ok (.iinc 4 1, 3) := by decide +kernel
theorem dX9_adds_118 : decode cX9_adds 118 = .ok (.goto (-106), 3) := by decide +kernel
theorem dX9_adds_121 : decode cX9_adds 121 = .ok (.iinc 3 1, 3) := by decide +kernel
theorem dX9_adds_124 : decode cX9_adds 124 = .ok (.goto (-122), 3) := by decide +kernel
theorem dX9_adds_127 : decode cX9_adds 127 = .ok (.return_, 1) := by decide +kernel
theorem dX9_worthOf_0 : decode cX9_worthOf 0 = .ok (.iconst 0, 1) := by decide +kernel
theorem dX9_worthOf_1 : decode cX9_worthOf 1 = .ok (.istore_n 2, 1) := by decide +kernel
theorem dX9_worthOf_2 : decode cX9_worthOf 2 = .ok (.iconst 0, 1) := by decide +kernel
theorem dX9_worthOf_3 : decode cX9_worthOf 3 = .ok (.istore_n 3, 1) := by decide +kernel
theorem dX9_worthOf_4 : decode cX9_worthOf 4 = .ok (.iload_n 3, 1) := by decide +kernel
theorem dX9_worthOf_5 : decode cX9_worthOf 5 = .ok (.aload_n 0, 1) := by decide +kernel
theorem dX9_worthOf_6 : decode cX9_worthOf 6 = .ok (.getfield 23, 3) := by decide +kernel
theorem dX9_worthOf_9 : decode cX9_worthOf 9 = .ok (.iconst 2, 1) := by decide +kernel
theorem dX9_worthOf_10 : decode cX9_worthOf 10 = .ok (.iaload, 1) := by decide +kernel
theorem dX9_worthOf_11 : decode cX9_worthOf 11 = .ok (.if_icmp .ge 33, 3) := by decide +kernel
theorem dX9_worthOf_14 : decode cX9_worthOf 14 = .ok (.iload_n 2, 1) := by decide +kernel
theorem dX9_worthOf_15 : decode cX9_worthOf 15 = .ok (.iload_n 1, 1) := by decide +kernel
theorem dX9_worthOf_16 : decode cX9_worthOf 16 = .ok (.iload_n 3, 1) := by decide +kernel
theorem dX9_worthOf_17 : decode cX9_worthOf 17 = .ok (.ishr, 1) := by decide +kernel
theorem dX9_worthOf_18 : decode cX9_worthOf 18 = .ok (.iconst 1, 1) := by decide +kernel
theorem dX9_worthOf_19 : decode cX9_worthOf 19 = .ok (.iand, 1) := by decide +kernel
theorem dX9_worthOf_20 : decode cX9_worthOf 20 = .ok (.iconst 1, 1) := by decide +kernel
theorem dX9_worthOf_21 : decode cX9_worthOf 21 = .ok (.if_icmp .ne 14, 3) := by decide +kernel
theorem dX9_worthOf_24 : decode cX9_worthOf 24 = .ok (.aload_n 0, 1) := by decide +kernel
theorem dX9_worthOf_25 : decode cX9_worthOf 25 = .ok (.getfield 37, 3) := by decide +kernel
theorem dX9_worthOf_28 : decode cX9_worthOf 28 = .ok (.iload_n 3, 1) := by decide +kernel
theorem dX9_worthOf_29 : decode cX9_worthOf 29 = .ok (.aaload, 1) := by decide +kernel
theorem dX9_worthOf_30 : decode cX9_worthOf 30 = .ok (.iconst 0, 1) := by decide +kernel
theorem dX9_worthOf_31 : decode cX9_worthOf 31 = .ok (.iaload, 1) := by decide +kernel
theorem dX9_worthOf_32 : decode cX9_worthOf 32 = .ok (.goto 4, 3) := by decide +kernel
theorem dX9_worthOf_35 : decode cX9_worthOf 35 = .ok (.iconst 0, 1) := by decide +kernel
theorem dX9_worthOf_36 : decode cX9_worthOf 36 = .ok (.iadd, 1) := by decide +kernel
theorem dX9_worthOf_37 : decode cX9_worthOf 37 = .ok (.istore_n 2, 1) := by decide +kernel
theorem dX9_worthOf_38 : decode cX9_worthOf 38 = .ok (.iinc 3 1, 3) := by decide +kernel
theorem dX9_worthOf_41 : decode cX9_worthOf 41 = .ok (.goto (-37), 3) := by decide +kernel
theorem dX9_worthOf_44 : decode cX9_worthOf 44 = .ok (.iload_n 2, 1) := by decide +kernel
theorem dX9_worthOf_45 : decode cX9_worthOf 45 = .ok (.ireturn, 1) := by decide +kernel
theorem dX9_findToday_0 : decode cX9_findToday 0 = .ok (.aload_n 0, 1) := by decide +kernel
theorem dX9_findToday_1 : decode cX9_findToday 1 = .ok (.getfield 70, 3) := by decide +kernel
theorem dX9_findToday_4 : decode cX9_findToday 4 = .ok (.istore_n 3, 1) := by decide +kernel
theorem dX9_findToday_5 : decode cX9_findToday 5 = .ok (.aload_n 0, 1) := by decide +kernel
theorem dX9_findToday_6 : decode cX9_findToday 6 = .ok (.iload_n 2, 1) := by decide +kernel
theorem dX9_findToday_7 : decode cX9_findToday 7 = .ok (.iconst (-1), 1) := by decide +kernel
theorem dX9_findToday_8 : decode cX9_findToday 8 = .ok (.if_icmp .ne 10, 3) := by decide +kernel
theorem dX9_findToday_11 : decode cX9_findToday 11 = .ok (.aload_n 0, 1) := by decide +kernel
theorem dX9_findToday_12 : decode cX9_findToday 12 = .ok (.getfield 70, 3) := by decide +kernel
theorem dX9_findToday_15 : decode cX9_findToday 15 = .ok (.goto 4, 3) := by decide +kernel
theorem dX9_findToday_18 : decode cX9_findToday 18 = .ok (.iload_n 2, 1) := by decide +kernel
theorem dX9_findToday_19 : decode cX9_findToday 19 = .ok (.putfield 70, 3) := by decide +kernel
theorem dX9_findToday_22 : decode cX9_findToday 22 = .ok (.iconst 1, 1) := by decide +kernel
theorem dX9_findToday_23 : decode cX9_findToday 23 = .ok (.iload_n 1, 1) := by decide +kernel
theorem dX9_findToday_24 : decode cX9_findToday 24 = .ok (.ishl, 1) := by decide +kernel
theorem dX9_findToday_25 : decode cX9_findToday 25 = .ok (.istore 4, 2) := by decide +kernel
theorem dX9_findToday_27 : decode cX9_findToday 27 = .ok (.iconst 1, 1) := by decide +kernel
theorem dX9_findToday_28 : decode cX9_findToday 28 = .ok (.aload_n 0, 1) := by decide +kernel
theorem dX9_findToday_29 : decode cX9_findToday 29 = .ok (.getfield 23, 3) := by decide +kernel
theorem dX9_findToday_32 : decode cX9_findToday 32 = .ok (.iconst 2, 1) := by decide +kernel
theorem dX9_findToday_33 : decode cX9_findToday 33 = .ok (.iaload, 1) := by decide +kernel
theorem dX9_findToday_34 : decode cX9_findToday 34 = .ok (.ishl, 1) := by decide +kernel
theorem dX9_findToday_35 : decode cX9_findToday 35 = .ok (.istore 5, 2) := by decide +kernel
theorem dX9_findToday_37 : decode cX9_findToday 37 = .ok (.iconst 0, 1) := by decide +kernel
theorem dX9_findToday_38 : decode cX9_findToday 38 = .ok (.istore 6, 2) := by decide +kernel
theorem dX9_findToday_40 : decode cX9_findToday 40 = .ok (.iload 6, 2) := by decide +kernel
theorem dX9_findToday_42 : decode cX9_findToday 42 = .ok (.iload 5, 2) := by decide +kernel
theorem dX9_findToday_44 : decode cX9_findToday 44 = .ok (.if_icmp .ge 50, 3) := by decide +kernel
theorem dX9_findToday_47 : decode cX9_findToday 47 = .ok (.iconst 0, 1) := by decide +kernel
theorem dX9_findToday_48 : decode cX9_findToday 48 = .ok (.istore 7, 2) := by decide +kernel
theorem dX9_findToday_50 : decode cX9_findToday 50 = .ok (.iload 7, 2) := by decide +kernel
theorem dX9_findToday_52 : decode cX9_findToday 52 = .ok (.iload 4, 2) := by decide +kernel
theorem dX9_findToday_54 : decode cX9_findToday 54 = .ok (.if_icmp .ge 34, 3) := by decide +kernel
theorem dX9_findToday_57 : decode cX9_findToday 57 = .ok (.aload_n 0, 1) := by decide +kernel
theorem dX9_findToday_58 : decode cX9_findToday 58 = .ok (.getfield 75, 3) := by decide +kernel
theorem dX9_findToday_61 : decode cX9_findToday 61 = .ok (.iload 6, 2) := by decide +kernel
theorem dX9_findToday_63 : decode cX9_findToday 63 = .ok (.aaload, 1) := by decide +kernel
theorem dX9_findToday_64 : decode cX9_findToday 64 = .ok (.iload 7, 2) := by decide +kernel
theorem dX9_findToday_66 : decode cX9_findToday 66 = .ok (.iload 6, 2) := by decide +kernel
theorem dX9_findToday_68 : decode cX9_findToday 68 = .ok (.ifCond .ne 12, 3) := by decide +kernel
theorem dX9_findToday_71 : decode cX9_findToday 71 = .ok (.iload 7, 2) := by decide +kernel
theorem dX9_findToday_73 : decode cX9_findToday 73 = .ok (.ifCond .ne 7, 3) := by decide +kernel
theorem dX9_findToday_76 : decode cX9_findToday 76 = .ok (.iconst 1, 1) := by decide +kernel
theorem dX9_findToday_77 : decode cX9_findToday 77 = .ok (.goto 4, 3) := by decide +kernel
theorem dX9_findToday_80 : decode cX9_findToday 80 = .ok (.iconst 0, 1) := by decide +kernel
theorem dX9_findToday_81 : decode cX9_findToday 81 = .ok (.bastore, 1) := by decide +kernel
theorem dX9_findToday_82 : decode cX9_findToday 82 = .ok (.iinc 7 1, 3) := by decide +kernel
theorem dX9_findToday_85 : decode cX9_findToday 85 = .ok (.goto (-35), 3) := by decide +kernel
theorem dX9_findToday_88 : decode cX9_findToday 88 = .ok (.iinc 6 1, 3) := by decide +kernel
theorem dX9_findToday_91 : decode cX9_findToday 91 = .ok (.goto (-51), 3) := by decide +kernel
theorem dX9_findToday_94 : decode cX9_findToday 94 = .ok (.aload_n 0, 1) := by decide +kernel
theorem dX9_findToday_95 : decode cX9_findToday 95 = .ok (.iconst 0, 1) := by decide +kernel
theorem dX9_findToday_96 : decode cX9_findToday 96 = .ok (.putfield 263, 3) := by decide +kernel
theorem dX9_findToday_99 : decode cX9_findToday 99 = .ok (.aload_n 0, 1) := by decide +kernel
theorem dX9_findToday_100 : decode cX9_findToday 100 = .ok (.iconst 0, 1) := by decide +kernel
theorem dX9_findToday_101 : decode cX9_findToday 101 = .ok (.putfield 266, 3) := by decide +kernel
theorem dX9_findToday_104 : decode cX9_findToday 104 = .ok (.iconst 0, 1) := by decide +kernel
theorem dX9_findToday_105 : decode cX9_findToday 105 = .ok (.istore 6, 2) := by decide +kernel
theorem dX9_findToday_107 : decode cX9_findToday 107 = .ok (.iload 6, 2) := by decide +kernel
theorem dX9_findToday_109 : decode cX9_findToday 109 = .ok (.aload_n 0, 1) := by decide +kernel
theorem dX9_findToday_110 : decode cX9_findToday 110 = .ok (.getfield 23, 3) := by decide +kernel
theorem dX9_findToday_113 : decode cX9_findToday 113 = .ok (.iconst 2, 1) := by decide +kernel
theorem dX9_findToday_114 : decode cX9_findToday 114 = .ok (.iaload, 1) := by decide +kernel
theorem dX9_findToday_115 : decode cX9_findToday 115 = .ok (.if_icmp .ge 16, 3) := by decide +kernel
theorem dX9_findToday_118 : decode cX9_findToday 118 = .ok (.aload_n 0, 1) := by decide +kernel
theorem dX9_findToday_119 : decode cX9_findToday 119 = .ok (.iload 6, 2) := by decide +kernel
theorem dX9_findToday_121 : decode cX9_findToday 121 = .ok (.iload_n 1, 1) := by decide +kernel
theorem dX9_findToday_122 : decode cX9_findToday 122 = .ok (.invokevirtual 269, 3) := by decide +kernel
theorem dX9_findToday_125 : decode cX9_findToday 125 = .ok (.iinc 6 1, 3) := by decide +kernel
theorem dX9_findToday_128 : decode cX9_findToday 128 = .ok (.goto (-21), 3) := by decide +kernel
theorem dX9_findToday_131 : decode cX9_findToday 131 = .ok (.iconst 1, 1) := by decide +kernel
theorem dX9_findToday_132 : decode cX9_findToday 132 = .ok (.istore 6, 2) := by decide +kernel
theorem dX9_findToday_134 : decode cX9_findToday 134 = .ok (.iload 6, 2) := by decide +kernel
theorem dX9_findToday_136 : decode cX9_findToday 136 = .ok (.iload 5, 2) := by decide +kernel
theorem dX9_findToday_138 : decode cX9_findToday 138 = .ok (.if_icmp .ge 82, 3) := by decide +kernel
theorem dX9_findToday_141 : decode cX9_findToday 141 = .ok (.iconst 0, 1) := by decide +kernel
theorem dX9_findToday_142 : decode cX9_findToday 142 = .ok (.istore 7, 2) := by decide +kernel
theorem dX9_findToday_144 : decode cX9_findToday 144 = .ok (.iconst 0, 1) := by decide +kernel
theorem dX9_findToday_145 : decode cX9_findToday 145 = .ok (.istore 8, 2) := by decide +kernel
theorem dX9_findToday_147 : decode cX9_findToday 147 = .ok (.iload 8, 2) := by decide +kernel
theorem dX9_findToday_149 : decode cX9_findToday 149 = .ok (.iload 4, 2) := by decide +kernel
theorem dX9_findToday_151 : decode cX9_findToday 151 = .ok (.if_icmp .ge 26, 3) := by decide +kernel
theorem dX9_findToday_154 : decode cX9_findToday 154 = .ok (.iload 7, 2) := by decide +kernel
theorem dX9_findToday_156 : decode cX9_findToday 156 = .ok (.ifCond .ne 21, 3) := by decide +kernel
theorem dX9_findToday_159 : decode cX9_findToday 159 = .ok (.aload_n 0, 1) := by decide +kernel
theorem dX9_findToday_160 : decode cX9_findToday 160 = .ok (.getfield 75, 3) := by decide +kernel
theorem dX9_findToday_163 : decode cX9_findToday 163 = .ok (.iload 6, 2) := by decide +kernel
theorem dX9_findToday_165 : decode cX9_findToday 165 = .ok (.aaload, 1) := by decide +kernel
theorem dX9_findToday_166 : decode cX9_findToday 166 = .ok (.iload 8, 2) := by decide +kernel
theorem dX9_findToday_168 : decode cX9_findToday 168 = .ok (.baload, 1) := by decide +kernel
theorem dX9_findToday_169 : decode cX9_findToday 169 = .ok (.istore 7, 2) := by decide +kernel
theorem dX9_findToday_171 : decode cX9_findToday 171 = .ok (.iinc 8 1, 3) := by decide +kernel
theorem dX9_findToday_174 : decode cX9_findToday 174 = .ok (.goto (-27), 3) := by decide +kernel
theorem dX9_findToday_177 : decode cX9_findToday 177 = .ok (.iload 7, 2) := by decide +kernel
theorem dX9_findToday_179 : decode cX9_findToday 179 = .ok (.ifCond .eq 35, 3) := by decide +kernel
theorem dX9_findToday_182 : decode cX9_findToday 182 = .ok (.aload_n 0, 1) := by decide +kernel
theorem dX9_findToday_183 : decode cX9_findToday 183 = .ok (.iload 6, 2) := by decide +kernel
theorem dX9_findToday_185 : decode cX9_findToday 185 = .ok (.invokevirtual 272, 3) := by decide +kernel
theorem dX9_findToday_188 : decode cX9_findToday 188 = .ok (.aload_n 0, 1) := by decide +kernel
theorem dX9_findToday_189 : decode cX9_findToday 189 = .ok (.getfield 263, 3) := by decide +kernel
theorem dX9_findToday_192 : decode cX9_findToday 192 = .ok (.if_icmp .gt 6, 3) := by decide +kernel
theorem dX9_findToday_195 : decode cX9_findToday 195 = .ok (.goto 19, 3) := by decide +kernel
theorem dX9_findToday_198 : decode cX9_findToday 198 = .ok (.aload_n 0, 1) := by decide +kernel
theorem dX9_findToday_199 : decode cX9_findToday 199 = .ok (.aload_n 0, 1) := by decide +kernel
theorem dX9_findToday_200 : decode cX9_findToday 200 = .ok (.iload 6, 2) := by decide +kernel
theorem dX9_findToday_202 : decode cX9_findToday 202 = .ok (.invokevirtual 272, 3) := by decide +kernel
theorem dX9_findToday_205 : decode cX9_findToday 205 = .ok (.putfield 263, 3) := by decide +kernel
theorem dX9_findToday_208 : decode cX9_findToday 208 = .ok (.aload_n 0, 1) := by decide +kernel
theorem dX9_findToday_209 : decode cX9_findToday 209 = .ok (.iload 6, 2) := by decide +kernel
theorem dX9_findToday_211 : decode cX9_findToday 211 = .ok (.putfield 266, 3) := by decide +kernel
theorem dX9_findToday_214 : decode cX9_findToday 214 = .ok (.iinc 6 1, 3) := by decide +kernel
theorem dX9_findToday_217 : decode cX9_findToday 217 = .ok (.goto (-83), 3) := by decide +kernel
theorem dX9_findToday_220 : decode cX9_findToday 220 = .ok (.aload_n 0, 1) := by decide +kernel
theorem dX9_findToday_221 : decode cX9_findToday 221 = .ok (.iload_n 3, 1) := by decide +kernel
theorem dX9_findToday_222 : decode cX9_findToday 222 = .ok (.putfield 70, 3) := by decide +kernel
theorem dX9_findToday_225 : decode cX9_findToday 225 = .ok (.return_, 1) := by decide +kernel
theorem dX9_today_0 : decode cX9_today 0 = .ok (.aload_n 0, 1) := by decide +kernel
theorem dX9_today_1 : decode cX9_today 1 = .ok (.iconst 0, 1) := by decide +kernel
theorem dX9_today_2 : decode cX9_today 2 = .ok (.putfield 106, 3) := by decide +kernel
theorem dX9_today_5 : decode cX9_today 5 = .ok (.aload_n 0, 1) := by decide +kernel
theorem dX9_today_6 : decode cX9_today 6 = .ok (.iload_n 1, 1) := by decide +kernel
theorem dX9_today_7 : decode cX9_today 7 = .ok (.invokevirtual 278, 3) := by decide +kernel
theorem dX9_today_10 : decode cX9_today 10 = .ok (.ifCond .ne 25, 3) := by decide +kernel
theorem dX9_today_13 : decode cX9_today 13 = .ok (.aload_n 0, 1) := by decide +kernel
theorem dX9_today_14 : decode cX9_today 14 = .ok (.iload_n 2, 1) := by decide +kernel
theorem dX9_today_15 : decode cX9_today 15 = .ok (.iconst 0, 1) := by decide +kernel
theorem dX9_today_16 : decode cX9_today 16 = .ok (.iconst 1, 1) := by decide +kernel
theorem dX9_today_17 : decode cX9_today 17 = .ok (.invokestatic 140, 3) := by decide +kernel
theorem dX9_today_20 : decode cX9_today 20 = .ok (.ifCond .ne 7, 3) := by decide +kernel
theorem dX9_today_23 : decode cX9_today 23 = .ok (.iconst 1, 1) := by decide +kernel
theorem dX9_today_24 : decode cX9_today 24 = .ok (.goto 4, 3) := by decide +kernel
theorem dX9_today_27 : decode cX9_today 27 = .ok (.iconst 0, 1) := by decide +kernel
theorem dX9_today_28 : decode cX9_today 28 = .ok (.iconst 1, 1) := by decide +kernel
theorem dX9_today_29 : decode cX9_today 29 = .ok (.invokevirtual 188, 3) := by decide +kernel
theorem dX9_today_32 : decode cX9_today 32 = .ok (.ifCond .eq 5, 3) := by decide +kernel
theorem dX9_today_35 : decode cX9_today 35 = .ok (.iconst 0, 1) := by decide +kernel
theorem dX9_today_36 : decode cX9_today 36 = .ok (.ireturn, 1) := by decide +kernel
theorem dX9_today_37 : decode cX9_today 37 = .ok (.aload_n 0, 1) := by decide +kernel
theorem dX9_today_38 : decode cX9_today 38 = .ok (.aload_n 0, 1) := by decide +kernel
theorem dX9_today_39 : decode cX9_today 39 = .ok (.getfield 23, 3) := by decide +kernel
theorem dX9_today_42 : decode cX9_today 42 = .ok (.iconst 1, 1) := by decide +kernel
theorem dX9_today_43 : decode cX9_today 43 = .ok (.iaload, 1) := by decide +kernel
theorem dX9_today_44 : decode cX9_today 44 = .ok (.iload_n 1, 1) := by decide +kernel
theorem dX9_today_45 : decode cX9_today 45 = .ok (.invokevirtual 281, 3) := by decide +kernel
theorem dX9_today_48 : decode cX9_today 48 = .ok (.iload_n 2, 1) := by decide +kernel
theorem dX9_today_49 : decode cX9_today 49 = .ok (.ifCond .ne 10, 3) := by decide +kernel
theorem dX9_today_52 : decode cX9_today 52 = .ok (.aload_n 0, 1) := by decide +kernel
theorem dX9_today_53 : decode cX9_today 53 = .ok (.getfield 263, 3) := by decide +kernel
theorem dX9_today_56 : decode cX9_today 56 = .ok (.goto 7, 3) := by decide +kernel
theorem dX9_today_59 : decode cX9_today 59 = .ok (.aload_n 0, 1) := by decide +kernel
theorem dX9_today_60 : decode cX9_today 60 = .ok (.getfield 266, 3) := by decide +kernel
theorem dX9_today_63 : decode cX9_today 63 = .ok (.ireturn, 1) := by decide +kernel
theorem dX9_canAll_0 : decode cX9_canAll 0 = .ok (.iload_n 2, 1) := by decide +kernel
theorem dX9_canAll_1 : decode cX9_canAll 1 = .ok (.istore 4, 2) := by decide +kernel
theorem dX9_canAll_3 : decode cX9_canAll 3 = .ok (.iload 4, 2) := by decide +kernel
theorem dX9_canAll_5 : decode cX9_canAll 5 = .ok (.aload_n 0, 1) := by decide +kernel
theorem dX9_canAll_6 : decode cX9_canAll 6 = .ok (.getfield 23, 3) := by decide +kernel
theorem dX9_canAll_9 : decode cX9_canAll 9 = .ok (.iconst 2, 1) := by decide +kernel
theorem dX9_canAll_10 : decode cX9_canAll 10 = .ok (.iaload, 1) := by decide +kernel
theorem dX9_canAll_11 : decode cX9_canAll 11 = .ok (.if_icmp .ge 18, 3) := by decide +kernel
theorem dX9_canAll_14 : decode cX9_canAll 14 = .ok (.iload_n 1, 1) := by decide +kernel
theorem dX9_canAll_15 : decode cX9_canAll 15 = .ok (.iload 4, 2) := by decide +kernel
theorem dX9_canAll_17 : decode cX9_canAll 17 = .ok (.ishr, 1) := by decide +kernel
theorem dX9_canAll_18 : decode cX9_canAll 18 = .ok (.iconst 1, 1) := by decide +kernel
theorem dX9_canAll_19 : decode cX9_canAll 19 = .ok (.iand, 1) := by decide +kernel
theorem dX9_canAll_20 : decode cX9_canAll 20 = .ok (.ifCond .ne 9, 3) := by decide +kernel
theorem dX9_canAll_23 : decode cX9_canAll 23 = .ok (.iinc 4 1, 3) := by decide +kernel
theorem dX9_canAll_26 : decode cX9_canAll 26 = .ok (.goto (-23), 3) := by decide +kernel
theorem dX9_canAll_29 : decode cX9_canAll 29 = .ok (.iload 4, 2) := by decide +kernel
theorem dX9_canAll_31 : decode cX9_canAll 31 = .ok (.aload_n 0, 1) := by decide +kernel
theorem dX9_canAll_32 : decode cX9_canAll 32 = .ok (.getfield 23, 3) := by decide +kernel
theorem dX9_canAll_35 : decode cX9_canAll 35 = .ok (.iconst 2, 1) := by decide +kernel
theorem dX9_canAll_36 : decode cX9_canAll 36 = .ok (.iaload, 1) := by decide +kernel
theorem dX9_canAll_37 : decode cX9_canAll 37 = .ok (.if_icmp .ne 5, 3) := by decide +kernel
theorem dX9_canAll_40 : decode cX9_canAll 40 = .ok (.iconst 1, 1) := by decide +kernel
theorem dX9_canAll_41 : decode cX9_canAll 41 = .ok (.ireturn, 1) := by decide +kernel
theorem dX9_canAll_42 : decode cX9_canAll 42 = .ok (.iconst 0, 1) := by decide +kernel
theorem dX9_canAll_43 : decode cX9_canAll 43 = .ok (.istore 5, 2) := by decide +kernel
theorem dX9_canAll_45 : decode cX9_canAll 45 = .ok (.iload 5, 2) := by decide +kernel
theorem dX9_canAll_47 : decode cX9_canAll 47 = .ok (.aload_n 0, 1) := by decide +kernel
theorem dX9_canAll_48 : decode cX9_canAll 48 = .ok (.getfield 23, 3) := by decide +kernel
theorem dX9_canAll_51 : decode cX9_canAll 51 = .ok (.iconst 1, 1) := by decide +kernel
theorem dX9_canAll_52 : decode cX9_canAll 52 = .ok (.iaload, 1) := by decide +kernel
theorem dX9_canAll_53 : decode cX9_canAll 53 = .ok (.if_icmp .ge 81, 3) := by decide +kernel
theorem dX9_canAll_56 : decode cX9_canAll 56 = .ok (.iload 5, 2) := by decide +kernel
theorem dX9_canAll_58 : decode cX9_canAll 58 = .ok (.iconst 1, 1) := by decide +kernel
theorem dX9_canAll_59 : decode cX9_canAll 59 = .ok (.iadd, 1) := by decide +kernel
theorem dX9_canAll_60 : decode cX9_canAll 60 = .ok (.istore 6, 2) := by decide +kernel
theorem dX9_canAll_62 : decode cX9_canAll 62 = .ok (.iload 6, 2) := by decide +kernel
theorem dX9_canAll_64 : decode cX9_canAll 64 = .ok (.aload_n 0, 1) := by decide +kernel
theorem dX9_canAll_65 : decode cX9_canAll 65 = .ok (.getfield 23, 3) := by decide +kernel
theorem dX9_canAll_68 : decode cX9_canAll 68 = .ok (.iconst 1, 1) := by decide +kernel
theorem dX9_canAll_69 : decode cX9_canAll 69 = .ok (.iaload, 1) := by decide +kernel
theorem dX9_canAll_70 : decode cX9_canAll 70 = .ok (.if_icmp .ge 58, 3) := by decide +kernel
theorem dX9_canAll_73 : decode cX9_canAll 73 = .ok (.iconst 1, 1) := by decide +kernel
theorem dX9_canAll_74 : decode cX9_canAll 74 = .ok (.iload 5, 2) := by decide +kernel
theorem dX9_canAll_76 : decode cX9_canAll 76 = .ok (.ishl, 1) := by decide +kernel
theorem dX9_canAll_77 : decode cX9_canAll 77 = .ok (.iconst 1, 1) := by decide +kernel
theorem dX9_canAll_78 : decode cX9_canAll 78 = .ok (.iload 6, 2) := by decide +kernel
theorem dX9_canAll_80 : decode cX9_canAll 80 = .ok (.ishl, 1) := by decide +kernel
theorem dX9_canAll_81 : decode cX9_canAll 81 = .ok (.ior, 1) := by decide +kernel
theorem dX9_canAll_82 : decode cX9_canAll 82 = .ok (.istore 7, 2) := by decide +kernel
theorem dX9_canAll_84 : decode cX9_canAll 84 = .ok (.iload_n 3, 1) := by decide +kernel
theorem dX9_canAll_85 : decode cX9_canAll 85 = .ok (.iload 7, 2) := by decide +kernel
theorem dX9_canAll_87 : decode cX9_canAll 87 = .ok (.iand, 1) := by decide +kernel
theorem dX9_canAll_88 : decode cX9_canAll 88 = .ok (.ifCond .ne 34, 3) := by decide +kernel
theorem dX9_canAll_91 : decode cX9_canAll 91 = .ok (.aload_n 0, 1) := by decide +kernel
theorem dX9_canAll_92 : decode cX9_canAll 92 = .ok (.iload 4, 2) := by decide +kernel
theorem dX9_canAll_94 : decode cX9_canAll 94 = .ok (.iload 5, 2) := by decide +kernel
theorem dX9_canAll_96 : decode cX9_canAll 96 = .ok (.iload 6, 2) := by decide +kernel
theorem dX9_canAll_98 : decode cX9_canAll 98 = .ok (.invokevirtual 275, 3) := by decide +kernel
theorem dX9_canAll_101 : decode cX9_canAll 101 = .ok (.ifCond .eq 21, 3) := by decide +kernel
theorem dX9_canAll_104 : decode cX9_canAll 104 = .ok (.aload_n 0, 1) := by decide +kernel
theorem dX9_canAll_105 : decode cX9_canAll 105 = .ok (.iload_n 1, 1) := by decide +kernel
theorem dX9_canAll_106 : decode cX9_canAll 106 = .ok (.iload 4, 2) := by decide +kernel
theorem dX9_canAll_108 : decode cX9_canAll 108 = .ok (.iconst 1, 1) := by decide +kernel
theorem dX9_canAll_109 : decode cX9_canAll 109 = .ok (.iadd, 1) := by decide +kernel
theorem dX9_canAll_110 : decode cX9_canAll 110 = .ok (.iload_n 3, 1) := by decide +kernel
theorem dX9_canAll_111 : decode cX9_canAll 111 = .ok (.iload 7, 2) := by decide +kernel
theorem dX9_canAll_113 : decode cX9_canAll 113 = .ok (.ior, 1) := by decide +kernel
theorem dX9_canAll_114 : decode cX9_canAll 114 = .ok (.invokevirtual 284, 3) := by decide +kernel
theorem dX9_canAll_117 : decode cX9_canAll 117 = .ok (.ifCond .eq 5, 3) := by decide +kernel
theorem dX9_canAll_120 : decode cX9_canAll 120 = .ok (.iconst 1, 1) := by decide +kernel
theorem dX9_canAll_121 : decode cX9_canAll 121 = .ok (.ireturn, 1) := by decide +kernel
theorem dX9_canAll_122 : decode cX9_canAll 122 = .ok (.iinc 6 1, 3) := by decide +kernel
theorem dX9_canAll_125 : decode cX9_canAll 125 = .ok (.goto (-63), 3) := by decide +kernel
theorem dX9_canAll_128 : decode cX9_canAll 128 = .ok (.iinc 5 1, 3) := by decide +kernel
theorem dX9_canAll_131 : decode cX9_canAll 131 = .ok (.goto (-86), 3) := by decide +kernel
theorem dX9_canAll_134 : decode cX9_canAll 134 = .ok (.iconst 0, 1) := by decide +kernel
theorem dX9_canAll_135 : decode cX9_canAll 135 = .ok (.ireturn, 1) := by decide +kernel
theorem dX9_findPairs_0 : decode cX9_findPairs 0 = .ok (.iconst 0, 1) := by decide +kernel
theorem dX9_findPairs_1 : decode cX9_findPairs 1 = .ok (.istore_n 2, 1) := by decide +kernel
theorem dX9_findPairs_2 : decode cX9_findPairs 2 = .ok (.iconst 0, 1) := by decide +kernel
theorem dX9_findPairs_3 : decode cX9_findPairs 3 = .ok (.istore_n 3, 1) := by decide +kernel
theorem dX9_findPairs_4 : decode cX9_findPairs 4 = .ok (.iload_n 3, 1) := by decide +kernel
theorem dX9_findPairs_5 : decode cX9_findPairs 5 = .ok (.aload_n 0, 1) := by decide +kernel
theorem dX9_findPairs_6 : decode cX9_findPairs 6 = .ok (.getfield 23, 3) := by decide +kernel
theorem dX9_findPairs_9 : decode cX9_findPairs 9 = .ok (.iconst 2, 1) := by decide +kernel
theorem dX9_findPairs_10 : decode cX9_findPairs 10 = .ok (.iaload, 1) := by decide +kernel
theorem dX9_findPairs_11 : decode cX9_findPairs 11 = .ok (.if_icmp .ge 181, 3) := by decide +kernel
theorem dX9_findPairs_14 : decode cX9_findPairs 14 = .ok (.aload_n 0, 1) := by decide +kernel
theorem dX9_findPairs_15 : decode cX9_findPairs 15 = .ok (.getfield 82, 3) := by decide +kernel
theorem dX9_findPairs_18 : decode cX9_findPairs 18 = .ok (.iload_n 3, 1) := by decide +kernel
theorem dX9_findPairs_19 : decode cX9_findPairs 19 = .ok (.iconst (-1), 1) := by decide +kernel
theorem dX9_findPairs_20 : decode cX9_findPairs 20 = .ok (.iastore, 1) := by decide +kernel
theorem dX9_findPairs_21 : decode cX9_findPairs 21 = .ok (.iconst 0, 1) := by decide +kernel
theorem dX9_findPairs_22 : decode cX9_findPairs 22 = .ok (.istore 4, 2) := by decide +kernel
theorem dX9_findPairs_24 : decode cX9_findPairs 24 = .ok (.iload 4, 2) := by decide +kernel
theorem dX9_findPairs_26 : decode cX9_findPairs 26 = .ok (.bipush 64, 2) := by decide +kernel
theorem dX9_findPairs_28 : decode cX9_findPairs 28 = .ok (.if_icmp .ge 122, 3) := by decide +kernel
theorem dX9_findPairs_31 : decode cX9_findPairs 31 = .ok (.iload_n 1, 1) := by decide +kernel
theorem dX9_findPairs_32 : decode cX9_findPairs 32 = .ok (.iload_n 3, 1) := by decide +kernel
theorem dX9_findPairs_33 : decode cX9_findPairs 33 = .ok (.ishr, 1) := by decide +kernel
theorem dX9_findPairs_34 : decode cX9_findPairs 34 = .ok (.iconst 1, 1) := by decide +kernel
theorem dX9_findPairs_35 : decode cX9_findPairs 35 = .ok (.iand, 1) := by decide +kernel
theorem dX9_findPairs_36 : decode cX9_findPairs 36 = .ok (.iconst 1, 1) := by decide +kernel
theorem dX9_findPairs_37 : decode cX9_findPairs 37 = .ok (.if_icmp .ne 113, 3) := by decide +kernel
theorem dX9_findPairs_40 : decode cX9_findPairs 40 = .ok (.aload_n 0, 1) := by decide +kernel
theorem dX9_findPairs_41 : decode cX9_findPairs 41 = .ok (.getfield 82, 3) := by decide +kernel
theorem dX9_findPairs_44 : decode cX9_findPairs 44 = .ok (.iload_n 3, 1) := by decide +kernel
theorem dX9_findPairs_45 : decode cX9_findPairs 45 = .ok (.iaload, 1) := by decide +kernel
theorem dX9_findPairs_46 : decode cX9_findPairs 46 = .ok (.iconst (-1), 1) := by decide +kernel
theorem dX9_findPairs_47 : decode cX9_findPairs 47 = .ok (.if_icmp .ne 103, 3) := by decide +kernel
theorem dX9_findPairs_50 : decode cX9_findPairs 50 = .ok (.iload 4, 2) := by decide +kernel
theorem dX9_findPairs_52 : decode cX9_findPairs 52 = .ok (.bipush 8, 2) := by decide +kernel
theorem dX9_findPairs_54 : decode cX9_findPairs 54 = .ok (.idiv, 1) := by decide +kernel
theorem dX9_findPairs_55 : decode cX9_findPairs 55 = .ok (.istore 5, 2) := by decide +kernel
theorem dX9_findPairs_57 : decode cX9_findPairs 57 = .ok (.iload 4, 2) := by decide +kernel
theorem dX9_findPairs_59 : decode cX9_findPairs 59 = .ok (.bipush 8, 2) := by decide +kernel
theorem dX9_findPairs_61 : decode cX9_findPairs 61 = .ok (.irem, 1) := by decide +kernel
theorem dX9_findPairs_62 : decode cX9_findPairs 62 = .ok (.istore 6, 2) := by decide +kernel
theorem dX9_findPairs_64 : decode cX9_findPairs 64 = .ok (.iconst 1, 1) := by decide +kernel
theorem dX9_findPairs_65 : decode cX9_findPairs 65 = .ok (.iload 5, 2) := by decide +kernel
theorem dX9_findPairs_67 : decode cX9_findPairs 67 = .ok (.ishl, 1) := by decide +kernel
theorem dX9_findPairs_68 : decode cX9_findPairs 68 = .ok (.iconst 1, 1) := by decide +kernel
theorem dX9_findPairs_69 : decode cX9_findPairs 69 = .ok (.iload 6, 2) := by decide +kernel
theorem dX9_findPairs_71 : decode cX9_findPairs 71 = .ok (.ishl, 1) := by decide +kernel
theorem dX9_findPairs_72 : decode cX9_findPairs 72 = .ok (.ior, 1) := by decide +kernel
theorem dX9_findPairs_73 : decode cX9_findPairs 73 = .ok (.istore 7, 2) := by decide +kernel
theorem dX9_findPairs_75 : decode cX9_findPairs 75 = .ok (.iload 5, 2) := by decide +kernel
theorem dX9_findPairs_77 : decode cX9_findPairs 77 = .ok (.iload 6, 2) := by decide +kernel
theorem dX9_findPairs_79 : decode cX9_findPairs 79 = .ok (.if_icmp .ge 65, 3) := by decide +kernel
theorem dX9_findPairs_82 : decode cX9_findPairs 82 = .ok (.iload 6, 2) := by decide +kernel
theorem dX9_findPairs_84 : decode cX9_findPairs 84 = .ok (.aload_n 0, 1) := by decide +kernel
theorem dX9_findPairs_85 : decode cX9_findPairs 85 = .ok (.getfield 23, 3) := by decide +kernel
theorem dX9_findPairs_88 : decode cX9_findPairs 88 = .ok (.iconst 1, 1) := by decide +kernel
theorem dX9_findPairs_89 : decode cX9_findPairs 89 = .ok (.iaload, 1) := by decide +kernel
theorem dX9_findPairs_90 : decode cX9_findPairs 90 = .ok (.if_icmp .ge 54, 3) := by decide +kernel
theorem dX9_findPairs_93 : decode cX9_findPairs 93 = .ok (.iload_n 2, 1) := by decide +kernel
theorem dX9_findPairs_94 : decode cX9_findPairs 94 = .ok (.iload 7, 2) := by decide +kernel
theorem dX9_findPairs_96 : decode cX9_findPairs 96 = .ok (.iand, 1) := by decide +kernel
theorem dX9_findPairs_97 : decode cX9_findPairs 97 = .ok (.ifCond .ne 47, 3) := by decide +kernel
theorem dX9_findPairs_100 : decode cX9_findPairs 100 = .ok (.aload_n 0, 1) := by decide +kernel
theorem dX9_findPairs_101 : decode cX9_findPairs 101 = .ok (.iload_n 3, 1) := by decide +kernel
theorem dX9_findPairs_102 : decode cX9_findPairs 102 = .ok (.iload 5, 2) := by decide +kernel
theorem dX9_findPairs_104 : decode cX9_findPairs 104 = .ok (.iload 6, 2) := by decide +kernel
theorem dX9_findPairs_106 : decode cX9_findPairs 106 = .ok (.invokevirtual 275, 3) := by decide +kernel
theorem dX9_findPairs_109 : decode cX9_findPairs 109 = .ok (.ifCond .eq 35, 3) := by decide +kernel
theorem dX9_findPairs_112 : decode cX9_findPairs 112 = .ok (.aload_n 0, 1) := by decide +kernel
theorem dX9_findPairs_113 : decode cX9_findPairs 113 = .ok (.iload_n 1, 1) := by decide +kernel
theorem dX9_findPairs_114 : decode cX9_findPairs 114 = .ok (.iload_n 3, 1) := by decide +kernel
theorem dX9_findPairs_115 : decode cX9_findPairs 115 = .ok (.iconst 1, 1) := by decide +kernel
theorem dX9_findPairs_116 : decode cX9_findPairs 116 = .ok (.iadd, 1) := by decide +kernel
theorem dX9_findPairs_117 : decode cX9_findPairs 117 = .ok (.iload_n 2, 1) := by decide +kernel
theorem dX9_findPairs_118 : decode cX9_findPairs 118 = .ok (.iload 7, 2) := by decide +kernel
theorem dX9_findPairs_120 : decode cX9_findPairs 120 = .ok (.ior, 1) := by decide +kernel
theorem dX9_findPairs_121 : decode cX9_findPairs 121 = .ok (.invokevirtual 284, 3) := by decide +kernel
theorem dX9_findPairs_124 : decode cX9_findPairs 124 = .ok (.ifCond .ne 6, 3) := by decide +kernel
theorem dX9_findPairs_127 : decode cX9_findPairs 127 = .ok (.goto 17, 3) := by decide +kernel
theorem dX9_findPairs_130 : decode cX9_findPairs 130 = .ok (.aload_n 0, 1) := by decide +kernel
theorem dX9_findPairs_131 : decode cX9_findPairs 131 = .ok (.getfield 82, 3) := by decide +kernel
theorem dX9_findPairs_134 : decode cX9_findPairs 134 = .ok (.iload_n 3, 1) := by decide +kernel
theorem dX9_findPairs_135 : decode cX9_findPairs 135 = .ok (.bipush 10, 2) := by decide +kernel
theorem dX9_findPairs_137 : decode cX9_findPairs 137 = .ok (.iload 5, 2) := by decide +kernel
theorem dX9_findPairs_139 : decode cX9_findPairs 139 = .ok (.imul, 1) := by decide +kernel
theorem dX9_findPairs_140 : decode cX9_findPairs 140 = .ok (.iload 6, 2) := by decide +kernel
theorem dX9_findPairs_142 : decode cX9_findPairs 142 = .ok (.iadd, 1) := by decide +kernel
theorem dX9_findPairs_143 : decode cX9_findPairs 143 = .ok (.iastore, 1) := by decide +kernel
theorem dX9_findPairs_144 : decode cX9_findPairs 144 = .ok (.iinc 4 1, 3) := by decide +kernel
theorem dX9_findPairs_147 : decode cX9_findPairs 147 = .ok (.goto (-123), 3) := by decide +kernel
theorem dX9_findPairs_150 : decode cX9_findPairs 150 = .ok (.aload_n 0, 1) := by decide +kernel
theorem dX9_findPairs_151 : decode cX9_findPairs 151 = .ok (.getfield 82, 3) := by decide +kernel
theorem dX9_findPairs_154 : decode cX9_findPairs 154 = .ok (.iload_n 3, 1) := by decide +kernel
theorem dX9_findPairs_155 : decode cX9_findPairs 155 = .ok (.iaload, 1) := by decide +kernel
theorem dX9_findPairs_156 : decode cX9_findPairs 156 = .ok (.iconst (-1), 1) := by decide +kernel
theorem dX9_findPairs_157 : decode cX9_findPairs 157 = .ok (.if_icmp .eq 29, 3) := by decide +kernel
theorem dX9_findPairs_160 : decode cX9_findPairs 160 = .ok (.iload_n 2, 1) := by decide +kernel
theorem dX9_findPairs_161 : decode cX9_findPairs 161 = .ok (.iconst 1, 1) := by decide +kernel
theorem dX9_findPairs_162 : decode cX9_findPairs 162 = .ok (.aload_n 0, 1) := by decide +kernel
theorem dX9_findPairs_163 : decode cX9_findPairs 163 = .ok (.getfield 82, 3) := by decide +kernel
theorem dX9_findPairs_166 : decode cX9_findPairs 166 = .ok (.iload_n 3, 1) := by decide +kernel
theorem dX9_findPairs_167 : decode cX9_findPairs 167 = .ok (.iaload, 1) := by decide +kernel
theorem dX9_findPairs_168 : decode cX9_findPairs 168 = .ok (.bipush 10, 2) := by decide +kernel
theorem dX9_findPairs_170 : decode cX9_findPairs 170 = .ok (.idiv, 1) := by decide +kernel
theorem dX9_findPairs_171 : decode cX9_findPairs 171 = .ok (.ishl, 1) := by decide +kernel
theorem dX9_findPairs_172 : decode cX9_findPairs 172 = .ok (.iconst 1, 1) := by decide +kernel
theorem dX9_findPairs_173 : decode cX9_findPairs 173 = .ok (.aload_n 0, 1) := by decide +kernel
theorem dX9_findPairs_174 : decode cX9_findPairs 174 = .ok (.getfield 82, 3) := by decide +kernel
theorem dX9_findPairs_177 : decode cX9_findPairs 177 = .ok (.iload_n 3, 1) := by decide +kernel
theorem dX9_findPairs_178 : decode cX9_findPairs 178 = .ok (.iaload, 1) := by decide +kernel
theorem dX9_findPairs_179 : decode cX9_findPairs 179 = .ok (.bipush 10, 2) := by decide +kernel
theorem dX9_findPairs_181 : decode cX9_findPairs 181 = .ok (.irem, 1) := by decide +kernel
theorem dX9_findPairs_182 : decode cX9_findPairs 182 = .ok (.ishl, 1) := by decide +kernel
theorem dX9_findPairs_183 : decode cX9_findPairs 183 = .ok (.ior, 1) := by decide +kernel
theorem dX9_findPairs_184 : decode cX9_findPairs 184 = .ok (.ior, 1) := by decide +kernel
theorem dX9_findPairs_185 : decode cX9_findPairs 185 = .ok (.istore_n 2, 1) := by decide +kernel
theorem dX9_findPairs_186 : decode cX9_findPairs 186 = .ok (.iinc 3 1, 3) := by decide +kernel
theorem dX9_findPairs_189 : decode cX9_findPairs 189 = .ok (.goto (-185), 3) := by decide +kernel
theorem dX9_findPairs_192 : decode cX9_findPairs 192 = .ok (.return_, 1) := by decide +kernel
theorem dX9_pair_0 : decode cX9_pair 0 = .ok (.aload_n 0, 1) := by decide +kernel
theorem dX9_pair_1 : decode cX9_pair 1 = .ok (.iconst 0, 1) := by decide +kernel
theorem dX9_pair_2 : decode cX9_pair 2 = .ok (.putfield 106, 3) := by decide +kernel
theorem dX9_pair_5 : decode cX9_pair 5 = .ok (.aload_n 0, 1) := by decide +kernel
theorem dX9_pair_6 : decode cX9_pair 6 = .ok (.iload_n 1, 1) := by decide +kernel
theorem dX9_pair_7 : decode cX9_pair 7 = .ok (.invokevirtual 278, 3) := by decide +kernel
theorem dX9_pair_10 : decode cX9_pair 10 = .ok (.ifCond .ne 24, 3) := by decide +kernel
theorem dX9_pair_13 : decode cX9_pair 13 = .ok (.aload_n 0, 1) := by decide +kernel
theorem dX9_pair_14 : decode cX9_pair 14 = .ok (.aload_n 0, 1) := by decide +kernel
theorem dX9_pair_15 : decode cX9_pair 15 = .ok (.iload_n 2, 1) := by decide +kernel
theorem dX9_pair_16 : decode cX9_pair 16 = .ok (.invokevirtual 220, 3) := by decide +kernel
theorem dX9_pair_19 : decode cX9_pair 19 = .ok (.ifCond .ne 7, 3) := by decide +kernel
theorem dX9_pair_22 : decode cX9_pair 22 = .ok (.iconst 1, 1) := by decide +kernel
theorem dX9_pair_23 : decode cX9_pair 23 = .ok (.goto 4, 3) := by decide +kernel
theorem dX9_pair_26 : decode cX9_pair 26 = .ok (.iconst 0, 1) := by decide +kernel
theorem dX9_pair_27 : decode cX9_pair 27 = .ok (.iconst 2, 1) := by decide +kernel
theorem dX9_pair_28 : decode cX9_pair 28 = .ok (.invokevirtual 188, 3) := by decide +kernel
theorem dX9_pair_31 : decode cX9_pair 31 = .ok (.ifCond .eq 5, 3) := by decide +kernel
theorem dX9_pair_34 : decode cX9_pair 34 = .ok (.iconst 0, 1) := by decide +kernel
theorem dX9_pair_35 : decode cX9_pair 35 = .ok (.ireturn, 1) := by decide +kernel
theorem dX9_pair_36 : decode cX9_pair 36 = .ok (.aload_n 0, 1) := by decide +kernel
theorem dX9_pair_37 : decode cX9_pair 37 = .ok (.aload_n 0, 1) := by decide +kernel
theorem dX9_pair_38 : decode cX9_pair 38 = .ok (.getfield 23, 3) := by decide +kernel
theorem dX9_pair_41 : decode cX9_pair 41 = .ok (.iconst 1, 1) := by decide +kernel
theorem dX9_pair_42 : decode cX9_pair 42 = .ok (.iaload, 1) := by decide +kernel
theorem dX9_pair_43 : decode cX9_pair 43 = .ok (.iload_n 1, 1) := by decide +kernel
theorem dX9_pair_44 : decode cX9_pair 44 = .ok (.invokevirtual 281, 3) := by decide +kernel
theorem dX9_pair_47 : decode cX9_pair 47 = .ok (.aload_n 0, 1) := by decide +kernel
theorem dX9_pair_48 : decode cX9_pair 48 = .ok (.getfield 70, 3) := by decide +kernel
theorem dX9_pair_51 : decode cX9_pair 51 = .ok (.istore_n 3, 1) := by decide +kernel
theorem dX9_pair_52 : decode cX9_pair 52 = .ok (.aload_n 0, 1) := by decide +kernel
theorem dX9_pair_53 : decode cX9_pair 53 = .ok (.iload_n 1, 1) := by decide +kernel
theorem dX9_pair_54 : decode cX9_pair 54 = .ok (.iconst (-1), 1) := by decide +kernel
theorem dX9_pair_55 : decode cX9_pair 55 = .ok (.if_icmp .ne 10, 3) := by decide +kernel
theorem dX9_pair_58 : decode cX9_pair 58 = .ok (.aload_n 0, 1) := by decide +kernel
theorem dX9_pair_59 : decode cX9_pair 59 = .ok (.getfield 70, 3) := by decide +kernel
theorem dX9_pair_62 : decode cX9_pair 62 = .ok (.goto 4, 3) := by decide +kernel
theorem dX9_pair_65 : decode cX9_pair 65 = .ok (.iload_n 1, 1) := by decide +kernel
theorem dX9_pair_66 : decode cX9_pair 66 = .ok (.putfield 70, 3) := by decide +kernel
theorem dX9_pair_69 : decode cX9_pair 69 = .ok (.aload_n 0, 1) := by decide +kernel
theorem dX9_pair_70 : decode cX9_pair 70 = .ok (.aload_n 0, 1) := by decide +kernel
theorem dX9_pair_71 : decode cX9_pair 71 = .ok (.getfield 266, 3) := by decide +kernel
theorem dX9_pair_74 : decode cX9_pair 74 = .ok (.invokevirtual 287, 3) := by decide +kernel
theorem dX9_pair_77 : decode cX9_pair 77 = .ok (.aload_n 0, 1) := by decide +kernel
theorem dX9_pair_78 : decode cX9_pair 78 = .ok (.iload_n 3, 1) := by decide +kernel
theorem dX9_pair_79 : decode cX9_pair 79 = .ok (.putfield 70, 3) := by decide +kernel
theorem dX9_pair_82 : decode cX9_pair 82 = .ok (.aload_n 0, 1) := by decide +kernel
theorem dX9_pair_83 : decode cX9_pair 83 = .ok (.getfield 82, 3) := by decide +kernel
theorem dX9_pair_86 : decode cX9_pair 86 = .ok (.iload_n 2, 1) := by decide +kernel
theorem dX9_pair_87 : decode cX9_pair 87 = .ok (.iaload, 1) := by decide +kernel
theorem dX9_pair_88 : decode cX9_pair 88 = .ok (.ireturn, 1) := by decide +kernel
theorem dX9_bound_0 : decode cX9_bound 0 = .ok (.aload_n 0, 1) := by decide +kernel
theorem dX9_bound_1 : decode cX9_bound 1 = .ok (.iconst 0, 1) := by decide +kernel
theorem dX9_bound_2 : decode cX9_bound 2 = .ok (.putfield 106, 3) := by decide +kernel
theorem dX9_bound_5 : decode cX9_bound 5 = .ok (.aload_n 0, 1) := by decide +kernel
theorem dX9_bound_6 : decode cX9_bound 6 = .ok (.iload_n 1, 1) := by decide +kernel
theorem dX9_bound_7 : decode cX9_bound 7 = .ok (.invokevirtual 278, 3) := by decide +kernel
theorem dX9_bound_10 : decode cX9_bound 10 = .ok (.ifCond .eq 5, 3) := by decide +kernel
theorem dX9_bound_13 : decode cX9_bound 13 = .ok (.iconst 0, 1) := by decide +kernel
theorem dX9_bound_14 : decode cX9_bound 14 = .ok (.ireturn, 1) := by decide +kernel
theorem dX9_bound_15 : decode cX9_bound 15 = .ok (.aload_n 0, 1) := by decide +kernel
theorem dX9_bound_16 : decode cX9_bound 16 = .ok (.getfield 70, 3) := by decide +kernel
theorem dX9_bound_19 : decode cX9_bound 19 = .ok (.istore_n 2, 1) := by decide +kernel
theorem dX9_bound_20 : decode cX9_bound 20 = .ok (.iconst 0, 1) := by decide +kernel
theorem dX9_bound_21 : decode cX9_bound 21 = .ok (.istore_n 3, 1) := by decide +kernel
theorem dX9_bound_22 : decode cX9_bound 22 = .ok (.iconst 0, 1) := by decide +kernel
theorem dX9_bound_23 : decode cX9_bound 23 = .ok (.istore 4, 2) := by decide +kernel
theorem dX9_bound_25 : decode cX9_bound 25 = .ok (.aload_n 0, 1) := by decide +kernel
theorem dX9_bound_26 : decode cX9_bound 26 = .ok (.iload_n 1, 1) := by decide +kernel
theorem dX9_bound_27 : decode cX9_bound 27 = .ok (.iconst (-1), 1) := by decide +kernel
theorem dX9_bound_28 : decode cX9_bound 28 = .ok (.if_icmp .ne 10, 3) := by decide +kernel
theorem dX9_bound_31 : decode cX9_bound 31 = .ok (.aload_n 0, 1) := by decide +kernel
theorem dX9_bound_32 : decode cX9_bound 32 = .ok (.getfield 70, 3) := by decide +kernel
theorem dX9_bound_35 : decode cX9_bound 35 = .ok (.goto 4, 3) := by decide +kernel
theorem dX9_bound_38 : decode cX9_bound 38 = .ok (.iload_n 1, 1) := by decide +kernel
theorem dX9_bound_39 : decode cX9_bound 39 = .ok (.putfield 70, 3) := by decide +kernel
theorem dX9_bound_42 : decode cX9_bound 42 = .ok (.iconst 0, 1) := by decide +kernel
theorem dX9_bound_43 : decode cX9_bound 43 = .ok (.istore 5, 2) := by decide +kernel
theorem dX9_bound_45 : decode cX9_bound 45 = .ok (.iload 5, 2) := by decide +kernel
theorem dX9_bound_47 : decode cX9_bound 47 = .ok (.aload_n 0, 1) := by decide +kernel
theorem dX9_bound_48 : decode cX9_bound 48 = .ok (.getfield 23, 3) := by decide +kernel
theorem dX9_bound_51 : decode cX9_bound 51 = .ok (.iconst 2, 1) := by decide +kernel
theorem dX9_bound_52 : decode cX9_bound 52 = .ok (.iaload, 1) := by decide +kernel
theorem dX9_bound_53 : decode cX9_bound 53 = .ok (.if_icmp .ge 88, 3) := by decide +kernel
theorem dX9_bound_56 : decode cX9_bound 56 = .ok (.aload_n 0, 1) := by decide +kernel
theorem dX9_bound_57 : decode cX9_bound 57 = .ok (.getfield 78, 3) := by decide +kernel
theorem dX9_bound_60 : decode cX9_bound 60 = .ok (.iload 5, 2) := by decide +kernel
theorem dX9_bound_62 : decode cX9_bound 62 = .ok (.iconst 0, 1) := by decide +kernel
theorem dX9_bound_63 : decode cX9_bound 63 = .ok (.bastore, 1) := by decide +kernel
theorem dX9_bound_64 : decode cX9_bound 64 = .ok (.iconst 0, 1) := by decide +kernel
theorem dX9_bound_65 : decode cX9_bound 65 = .ok (.istore 6, 2) := by decide +kernel
theorem dX9_bound_67 : decode cX9_bound 67 = .ok (.iload 6, 2) := by decide +kernel
theorem dX9_bound_69 : decode cX9_bound 69 = .ok (.aload_n 0, 1) := by decide +kernel
theorem dX9_bound_70 : decode cX9_bound 70 = .ok (.getfield 23, 3) := by decide +kernel
theorem dX9_bound_73 : decode cX9_bound 73 = .ok (.iconst 1, 1) := by decide +kernel
theorem dX9_bound_74 : decode cX9_bound 74 = .ok (.iaload, 1) := by decide +kernel
theorem dX9_bound_75 : decode cX9_bound 75 = .ok (.if_icmp .ge 60, 3) := by decide +kernel
theorem dX9_bound_78 : decode cX9_bound 78 = .ok (.iconst 0, 1) := by decide +kernel
theorem dX9_bound_79 : decode cX9_bound 79 = .ok (.istore 7, 2) := by decide +kernel
theorem dX9_bound_81 : decode cX9_bound 81 = .ok (.iload 7, 2) := by decide +kernel
theorem dX9_bound_83 : decode cX9_bound 83 = .ok (.iload 6, 2) := by decide +kernel
theorem dX9_bound_85 : decode cX9_bound 85 = .ok (.if_icmp .ge 44, 3) := by decide +kernel
theorem dX9_bound_88 : decode cX9_bound 88 = .ok (.aload_n 0, 1) := by decide +kernel
theorem dX9_bound_89 : decode cX9_bound 89 = .ok (.getfield 78, 3) := by decide +kernel
theorem dX9_bound_92 : decode cX9_bound 92 = .ok (.iload 5, 2) := by decide +kernel
theorem dX9_bound_94 : decode cX9_bound 94 = .ok (.aload_n 0, 1) := by decide +kernel
theorem dX9_bound_95 : decode cX9_bound 95 = .ok (.getfield 78, 3) := by decide +kernel
theorem dX9_bound_98 : decode cX9_bound 98 = .ok (.iload 5, 2) := by decide +kernel
theorem dX9_bound_100 : decode cX9_bound 100 = .ok (.baload, 1) := by decide +kernel
theorem dX9_bound_101 : decode cX9_bound 101 = .ok (.ifCond .ne 16, 3) := by decide +kernel
theorem dX9_bound_104 : decode cX9_bound 104 = .ok (.aload_n 0, 1) := by decide +kernel
theorem dX9_bound_105 : decode cX9_bound 105 = .ok (.iload 5, 2) := by decide +kernel
theorem dX9_bound_107 : decode cX9_bound 107 = .ok (.iload 6, 2) := by decide +kernel
theorem dX9_bound_109 : decode cX9_bound 109 = .ok (.iload 7, 2) := by decide +kernel
theorem dX9_bound_111 : decode cX9_bound 111 = .ok (.invokevirtual 275, 3) := by decide +kernel
theorem dX9_bound_114 : decode cX9_bound 114 = .ok (.ifCond .eq 7, 3) := by decide +kernel
theorem dX9_bound_117 : decode cX9_bound 117 = .ok (.iconst 1, 1) := by decide +kernel
theorem dX9_bound_118 : decode cX9_bound 118 = .ok (.goto 4, 3) := by decide +kernel
theorem dX9_bound_121 : decode cX9_bound 121 = .ok (.iconst 0, 1) := by decide +kernel
theorem dX9_bound_122 : decode cX9_bound 122 = .ok (.bastore, 1) := by decide +kernel
theorem dX9_bound_123 : decode cX9_bound 123 = .ok (.iinc 7 1, 3) := by decide +kernel
theorem dX9_bound_126 : decode cX9_bound 126 = .ok (.goto (-45), 3) := by decide +kernel
theorem dX9_bound_129 : decode cX9_bound 129 = .ok (.iinc 6 1, 3) := by decide +kernel
theorem dX9_bound_132 : decode cX9_bound 132 = .ok (.goto (-65), 3) := by decide +kernel
theorem dX9_bound_135 : decode cX9_bound 135 = .ok (.iinc 5 1, 3) := by decide +kernel
theorem dX9_bound_138 : decode cX9_bound 138 = .ok (.goto (-93), 3) := by decide +kernel
theorem dX9_bound_141 : decode cX9_bound 141 = .ok (.iconst 0, 1) := by decide +kernel
theorem dX9_bound_142 : decode cX9_bound 142 = .ok (.istore 5, 2) := by decide +kernel
theorem dX9_bound_144 : decode cX9_bound 144 = .ok (.iload 5, 2) := by decide +kernel
theorem dX9_bound_146 : decode cX9_bound 146 = .ok (.aload_n 0, 1) := by decide +kernel
theorem dX9_bound_147 : decode cX9_bound 147 = .ok (.getfield 23, 3) := by decide +kernel
theorem dX9_bound_150 : decode cX9_bound 150 = .ok (.iconst 1, 1) := by decide +kernel
theorem dX9_bound_151 : decode cX9_bound 151 = .ok (.iaload, 1) := by decide +kernel
theorem dX9_bound_152 : decode cX9_bound 152 = .ok (.iconst 2, 1) := by decide +kernel
theorem dX9_bound_153 : decode cX9_bound 153 = .ok (.idiv, 1) := by decide +kernel
theorem dX9_bound_154 : decode cX9_bound 154 = .ok (.if_icmp .ge 113, 3) := by decide +kernel
theorem dX9_bound_157 : decode cX9_bound 157 = .ok (.iconst (-1), 1) := by decide +kernel
theorem dX9_bound_158 : decode cX9_bound 158 = .ok (.istore 6, 2) := by decide +kernel
theorem dX9_bound_160 : decode cX9_bound 160 = .ok (.iconst 0, 1) := by decide +kernel
theorem dX9_bound_161 : decode cX9_bound 161 = .ok (.istore 7, 2) := by decide +kernel
theorem dX9_bound_163 : decode cX9_bound 163 = .ok (.iload 7, 2) := by decide +kernel
theorem dX9_bound_165 : decode cX9_bound 165 = .ok (.aload_n 0, 1) := by decide +kernel
theorem dX9_bound_166 : decode cX9_bound 166 = .ok (.getfield 23, 3) := by decide +kernel
theorem dX9_bound_169 : decode cX9_bound 169 = .ok (.iconst 2, 1) := by decide +kernel
theorem dX9_bound_170 : decode cX9_bound 170 = .ok (.iaload, 1) := by decide +kernel
theorem dX9_bound_171 : decode cX9_bound 171 = .ok (.if_icmp .ge 60, 3) := by decide +kernel
theorem dX9_bound_174 : decode cX9_bound 174 = .ok (.aload_n 0, 1) := by decide +kernel
theorem dX9_bound_175 : decode cX9_bound 175 = .ok (.getfield 78, 3) := by decide +kernel
theorem dX9_bound_178 : decode cX9_bound 178 = .ok (.iload 7, 2) := by decide +kernel
theorem dX9_bound_180 : decode cX9_bound 180 = .ok (.baload, 1) := by decide +kernel
theorem dX9_bound_181 : decode cX9_bound 181 = .ok (.ifCond .eq 44, 3) := by decide +kernel
theorem dX9_bound_184 : decode cX9_bound 184 = .ok (.iload 4, 2) := by decide +kernel
theorem dX9_bound_186 : decode cX9_bound 186 = .ok (.iload 7, 2) := by decide +kernel
theorem dX9_bound_188 : decode cX9_bound 188 = .ok (.ishr, 1) := by decide +kernel
theorem dX9_bound_189 : decode cX9_bound 189 = .ok (.iconst 1, 1) := by decide +kernel
theorem dX9_bound_190 : decode cX9_bound 190 = .ok (.iand, 1) := by decide +kernel
theorem dX9_bound_191 : decode cX9_bound 191 = .ok (.ifCond .ne 34, 3) := by decide +kernel
theorem dX9_bound_194 : decode cX9_bound 194 = .ok (.iload 6, 2) := by decide +kernel
theorem dX9_bound_196 : decode cX9_bound 196 = .ok (.iconst (-1), 1) := by decide +kernel
theorem dX9_bound_197 : decode cX9_bound 197 = .ok (.if_icmp .eq 24, 3) := by decide +kernel
theorem dX9_bound_200 : decode cX9_bound 200 = .ok (.aload_n 0, 1) := by decide +kernel
theorem dX9_bound_201 : decode cX9_bound 201 = .ok (.getfield 37, 3) := by decide +kernel
theorem dX9_bound_204 : decode cX9_bound 204 = .ok (.iload 7, 2) := by decide +kernel
theorem dX9_bound_206 : decode cX9_bound 206 = .ok (.aaload, 1) := by decide +kernel
theorem dX9_bound_207 : decode cX9_bound 207 = .ok (.iconst 0, 1) := by decide +kernel
theorem dX9_bound_208 : decode cX9_bound 208 = .ok (.iaload, 1) := by decide +kernel
theorem dX9_bound_209 : decode cX9_bound 209 = .ok (.aload_n 0, 1) := by decide +kernel
theorem dX9_bound_210 : decode cX9_bound 210 = .ok (.getfield 37, 3) := by decide +kernel
theorem dX9_bound_213 : decode cX9_bound 213 = .ok (.iload 6, 2) := by decide +kernel
theorem dX9_bound_215 : decode cX9_bound 215 = .ok (.aaload, 1) := by decide +kernel
theorem dX9_bound_216 : decode cX9_bound 216 = .ok (.iconst 0, 1) := by decide +kernel
theorem dX9_bound_217 : decode cX9_bound 217 = .ok (.iaload, 1) := by decide +kernel
theorem dX9_bound_218 : decode cX9_bound 218 = .ok (.if_icmp .le 7, 3) := by decide +kernel
theorem dX9_bound_221 : decode cX9_bound 221 = .ok (.iload 7, 2) := by decide +kernel
theorem dX9_bound_223 : decode cX9_bound 223 = .ok (.istore 6, 2) := by decide +kernel
theorem dX9_bound_225 : decode cX9_bound 225 = .ok (.iinc 7 1, 3) := by decide +kernel
theorem dX9_bound_228 : decode cX9_bound 228 = .ok (.goto (-65), 3) := by decide +kernel
theorem dX9_bound_231 : decode cX9_bound 231 = .ok (.iload 6, 2) := by decide +kernel
theorem dX9_bound_233 : decode cX9_bound 233 = .ok (.iconst (-1), 1) := by decide +kernel
theorem dX9_bound_234 : decode cX9_bound 234 = .ok (.if_icmp .ne 6, 3) := by decide +kernel
theorem dX9_bound_237 : decode cX9_bound 237 = .ok (.goto 24, 3) := by decide +kernel
theorem dX9_bound_240 : decode cX9_bound 240 = .ok (.iload 4, 2) := by decide +kernel
theorem dX9_bound_242 : decode cX9_bound 242 = .ok (.iconst 1, 1) := by decide +kernel
theorem dX9_bound_243 : decode cX9_bound 243 = .ok (.iload 6, 2) := by decide +kernel
theorem dX9_bound_245 : decode cX9_bound 245 = .ok (.ishl, 1) := by decide +kernel
theorem dX9_bound_246 : decode cX9_bound 246 = .ok (.ior, 1) := by decide +kernel
theorem dX9_bound_247 : decode cX9_bound 247 = .ok (.istore 4, 2) := by decide +kernel
theorem dX9_bound_249 : decode cX9_bound 249 = .ok (.iload_n 3, 1) := by decide +kernel
theorem dX9_bound_250 : decode cX9_bound 250 = .ok (.aload_n 0, 1) := by decide +kernel
theorem dX9_bound_251 : decode cX9_bound 251 = .ok (.getfield 37, 3) := by decide +kernel
theorem dX9_bound_254 : decode cX9_bound 254 = .ok (.iload 6, 2) := by decide +kernel
theorem dX9_bound_256 : decode cX9_bound 256 = .ok (.aaload, 1) := by decide +kernel
theorem dX9_bound_257 : decode cX9_bound 257 = .ok (.iconst 0, 1) := by decide +kernel
theorem dX9_bound_258 : decode cX9_bound 258 = .ok (.iaload, 1) := by decide +kernel
theorem dX9_bound_259 : decode cX9_bound 259 = .ok (.iadd, 1) := by decide +kernel
theorem dX9_bound_260 : decode cX9_bound 260 = .ok (.istore_n 3, 1) := by decide +kernel
theorem dX9_bound_261 : decode cX9_bound 261 = .ok (.iinc 5 1, 3) := by decide +kernel
theorem dX9_bound_264 : decode cX9_bound 264 = .ok (.goto (-120), 3) := by decide +kernel
theorem dX9_bound_267 : decode cX9_bound 267 = .ok (.aload_n 0, 1) := by decide +kernel
theorem dX9_bound_268 : decode cX9_bound 268 = .ok (.iload_n 2, 1) := by decide +kernel
theorem dX9_bound_269 : decode cX9_bound 269 = .ok (.putfield 70, 3) := by decide +kernel
theorem dX9_bound_272 : decode cX9_bound 272 = .ok (.iload_n 3, 1) := by decide +kernel
theorem dX9_bound_273 : decode cX9_bound 273 = .ok (.ireturn, 1) := by decide +kernel
def f9_asked (x1 : Int32) (μ : zMem) : zRes := zin x1 10 (zin (3 : Int32) 4 (zlet (fun (s3 : Int32) (μ4 : zMem) => some (0, s3, μ4)) (fun j5 => if (μ (36 + x1.toNatClampNeg) (3 : Int32).toNatClampNeg) = (-1 : Int32) then bnd0 (f9_slateOf (μ 0 20) μ) (fun (v10 : Int32) (μ11 : zMem) => j5 v10 μ11) else zin x1 10 (zin (3 : Int32) 4 (j5 (μ (36 + x1.toNatClampNeg) (3 : Int32).toNatClampNeg) μ)))))
set_option maxHeartbeats 1000000 in
theorem t9_asked (x1 : Int32) (μ : zMem) : zMR yX9_asked cX9_asked 2 (some .int) 2 [.ref 0, .int x1] 1134 SM μ (f9_asked x1 μ) := by
  refine zMR_of (by decide +kernel) rfl (Nat.le_of_ble_eq_true rfl) (L := [.ref 0, .int x1]) rfl ?_
  unfold f9_asked
  refine z_aload_n (pc := 0) dX9_asked_0 rfl ?_
  refine z_getr (pc := 1) fdX9_37 (by decide) sm_0 rfl rfl dX9_asked_1 ?_
  refine z_iload_n (pc := 4) dX9_asked_4 rfl ?_
  refine z_aald (pc := 5) (fun j => 36 + j) (by decide) sm_35 (Or.inl rfl) smg_35 dX9_asked_5 (fun h1 => ?_)
  refine z_iconst (pc := 6) (3 : Int32) dX9_asked_6 (by decide) ?_
  refine z_iald (pc := 7) (smr_35 h1).2 (smr_35 h1).1 rfl dX9_asked_7 (fun h2 => ?_)
  refine z_iconst (pc := 8) (-1 : Int32) dX9_asked_8 (by decide) ?_
  refine z_let (fun (j : Int32 → zMem → zRes) => ∀ (s3 : Int32) (μ4 : zMem), zR yX9_asked cX9_asked 2 (some .int) 2 31 [.null, .null] [.int s3] 1134 SM μ4 (j s3 μ4)) ?_ (fun j5 hj5 => ?_)
  · intro s3 μ4
    exact z_iret (pc := 31) rfl dX9_asked_31
  · refine z_icmp_ne (pc := 9) (tgt := 23) dX9_asked_9 (by decide) (fun c6 => ?_) (fun c7 => ?_)
    · refine z_aload_n (pc := 23) dX9_asked_23 rfl ?_
      refine z_getr (pc := 24) fdX9_37 (by decide) sm_0 rfl rfl dX9_asked_24 ?_
      refine z_iload_n (pc := 27) dX9_asked_27 rfl ?_
      refine z_aald (pc := 28) (fun j => 36 + j) (by decide) sm_35 (Or.inl rfl) smg_35 dX9_asked_28 (fun h8 => ?_)
      refine z_iconst (pc := 29) (3 : Int32) dX9_asked_29 (by decide) ?_
      refine z_iald (pc := 30) (smr_35 h8).2 (smr_35 h8).1 rfl dX9_asked_30 (fun h9 => ?_)
      refine z_loc (L' := [.null, .null]) ⟨Or.inl rfl, ⟨Or.inl rfl, trivial⟩⟩ ?_
      exact hj5 (μ (36 + x1.toNatClampNeg) (3 : Int32).toNatClampNeg) μ
    · refine z_aload_n (pc := 12) dX9_asked_12 rfl ?_
      refine z_aload_n (pc := 13) dX9_asked_13 rfl ?_
      refine z_geti (pc := 14) fdX9_198 (by decide) sm_0 rfl dX9_asked_14 ?_
      refine z_callV (As := [.int (μ 0 20)]) (pc := 17) (ret' := some .int) kvX9_223 (t9_slateOf _ _) (by decide) (by decide) sm_0  rfl rfl (Nat.le_of_ble_eq_true rfl) dX9_asked_17 (fun v10 μ11 => ?_)
      refine z_goto (pc := 20) (tgt := 31) dX9_asked_20 (by decide) ?_
      refine z_loc (L' := [.null, .null]) ⟨Or.inl rfl, ⟨Or.inl rfl, trivial⟩⟩ ?_
      exact hj5 v10 μ11
def f9_amount (x0 : Int32) (μ : zMem) : zRes := zlet (fun (s1 : Int32) => some (0, s1, μ)) (fun j2 => if 0 ≤ x0 then j2 x0 else j2 (-x0))
set_option maxHeartbeats 1000000 in
theorem t9_amount (x0 : Int32) (μ : zMem) : zMR yX9_amount cX9_amount 1 (some .int) 1 [.int x0] 1134 SM μ (f9_amount x0 μ) := by
  refine zMR_of (by decide +kernel) rfl (Nat.le_of_ble_eq_true rfl) (L := [.int x0]) rfl ?_
  unfold f9_amount
  refine z_iload_n (pc := 0) dX9_amount_0 rfl ?_
  refine z_let (fun (j : Int32 → zRes) => ∀ (s1 : Int32), zR yX9_amount cX9_amount 1 (some .int) 1 10 [.null] [.int s1] 1134 SM μ (j s1)) ?_ (fun j2 hj2 => ?_)
  · intro s1
    exact z_iret (pc := 10) rfl dX9_amount_10
  · refine z_if_ge (pc := 1) (tgt := 9) dX9_amount_1 (by decide) (fun c3 => ?_) (fun c4 => ?_)
    · refine z_iload_n (pc := 9) dX9_amount_9 rfl ?_
      refine z_loc (L' := [.null]) ⟨Or.inl rfl, trivial⟩ ?_
      exact hj2 x0
    · refine z_iload_n (pc := 4) dX9_amount_4 rfl ?_
      refine z_ineg (pc := 5) dX9_amount_5 ?_
      refine z_goto (pc := 6) (tgt := 10) dX9_amount_6 (by decide) ?_
      refine z_loc (L' := [.null]) ⟨Or.inl rfl, trivial⟩ ?_
      exact hj2 (-x0)
def f9_errs (x1 : Int32) (x2 : Int32) (x3 : Int32) (μ : zMem) : zRes := zin x1 10 (if (μ 92 x1.toNatClampNeg) = (1 : Int32) then some (0, (1 : Int32), μ) else zin x1 10 (zin (2 : Int32) 4 (if (μ 0 20) ≤ (μ (36 + x1.toNatClampNeg) (2 : Int32).toNatClampNeg) then zlet (fun (μ8 : zMem) => some (0, (3 : Int32), μ8)) (fun j9 => if x2 = x3 then j9 μ else bnd0 (f9_isKin x2 x3 μ) (fun (v12 : Int32) (μ13 : zMem) => if v12 = 0 then zin x2 9 (zin x1 10 (zin (1 : Int32) 4 (zlet (some (0, (4 : Int32), μ13)) (fun j19 => if (μ13 91 x2.toNatClampNeg) < (μ13 (36 + x1.toNatClampNeg) (1 : Int32).toNatClampNeg) then j19 else zin x3 9 (zin x1 10 (zin (1 : Int32) 4 (if (μ13 (36 + x1.toNatClampNeg) (1 : Int32).toNatClampNeg) ≤ (μ13 91 x3.toNatClampNeg) then zin x2 9 (bnd0 (f9_asked x1 μ13) (fun (v28 : Int32) (μ29 : zMem) => zin v28 4 (zin x3 9 (bnd0 (f9_asked x1 μ29) (fun (v32 : Int32) (μ33 : zMem) => zin v32 4 (bnd0 (f9_amount ((μ29 (51 + x2.toNatClampNeg) v28.toNatClampNeg) - (μ33 (51 + x3.toNatClampNeg) v32.toNatClampNeg)) μ33) (fun (v35 : Int32) (μ36 : zMem) => zin (3 : Int32) 6 (zlet (fun (s38 : Int32) => some (0, s38, μ36)) (fun j39 => if (μ36 4 (3 : Int32).toNatClampNeg) ≤ v35 then j39 (0 : Int32) else j39 (5 : Int32)))))))))) else j19))))))) else j9 μ13)) else some (0, (2 : Int32), μ))))
set_option maxHeartbeats 1000000 in
theorem t9_errs (x1 : Int32) (x2 : Int32) (x3 : Int32) (μ : zMem) : zMR yX9_errs cX9_errs 4 (some .int) 3 [.ref 0, .int x1, .int x2, .int x3] 1134 SM μ (f9_errs x1 x2 x3 μ) := by
  refine zMR_of (by decide +kernel) rfl (Nat.le_of_ble_eq_true rfl) (L := [.ref 0, .int x1, .int x2, .int x3]) rfl ?_
  unfold f9_errs
  refine z_aload_n (pc := 0) dX9_errs_0 rfl ?_
  refine z_getr (pc := 1) fdX9_61 (by decide) sm_0 rfl rfl dX9_errs_1 ?_
  refine z_iload_n (pc := 4) dX9_errs_4 rfl ?_
  refine z_iald (pc := 5) (by decide) sm_92 rfl dX9_errs_5 (fun h1 => ?_)
  refine z_iconst (pc := 6) (1 : Int32) dX9_errs_6 (by decide) ?_
  refine z_icmp_ne (pc := 7) (tgt := 12) dX9_errs_7 (by decide) (fun c2 => ?_) (fun c3 => ?_)
  · refine z_aload_n (pc := 12) dX9_errs_12 rfl ?_
    refine z_geti (pc := 13) fdX9_198 (by decide) sm_0 rfl dX9_errs_13 ?_
    refine z_aload_n (pc := 16) dX9_errs_16 rfl ?_
    refine z_getr (pc := 17) fdX9_37 (by decide) sm_0 rfl rfl dX9_errs_17 ?_
    refine z_iload_n (pc := 20) dX9_errs_20 rfl ?_
    refine z_aald (pc := 21) (fun j => 36 + j) (by decide) sm_35 (Or.inl rfl) smg_35 dX9_errs_21 (fun h4 => ?_)
    refine z_iconst (pc := 22) (2 : Int32) dX9_errs_22 (by decide) ?_
    refine z_iald (pc := 23) (smr_35 h4).2 (smr_35 h4).1 rfl dX9_errs_23 (fun h5 => ?_)
    refine z_icmp_le (pc := 24) (tgt := 29) dX9_errs_24 (by decide) (fun c6 => ?_) (fun c7 => ?_)
    · refine z_iload_n (pc := 29) dX9_errs_29 rfl ?_
      refine z_iload_n (pc := 30) dX9_errs_30 rfl ?_
      refine z_let (fun (j : zMem → zRes) => ∀ (μ8 : zMem), zR yX9_errs cX9_errs 4 (some .int) 3 43 [.null, .null, .null, .null] [] 1134 SM μ8 (j μ8)) ?_ (fun j9 hj9 => ?_)
      · intro μ8
        refine z_iconst (pc := 43) (3 : Int32) dX9_errs_43 (by decide) ?_
        exact z_iret (pc := 44) rfl dX9_errs_44
      · refine z_icmp_eq (pc := 31) (tgt := 43) dX9_errs_31 (by decide) (fun c10 => ?_) (fun c11 => ?_)
        · refine z_loc (L' := [.null, .null, .null, .null]) ⟨Or.inl rfl, ⟨Or.inl rfl, ⟨Or.inl rfl, ⟨Or.inl rfl, trivial⟩⟩⟩⟩ ?_
          exact hj9 μ
        · refine z_aload_n (pc := 34) dX9_errs_34 rfl ?_
          refine z_iload_n (pc := 35) dX9_errs_35 rfl ?_
          refine z_iload_n (pc := 36) dX9_errs_36 rfl ?_
          refine z_callV (As := [.int x2, .int x3]) (pc := 37) (ret' := some .boolean) kvX9_210 (t9_isKin _ _ _) (by decide) (by decide) sm_0  rfl rfl (Nat.le_of_ble_eq_true rfl) dX9_errs_37 (fun v12 μ13 => ?_)
          refine z_if_eq (pc := 40) (tgt := 45) dX9_errs_40 (by decide) (fun c14 => ?_) (fun c15 => ?_)
          · refine z_aload_n (pc := 45) dX9_errs_45 rfl ?_
            refine z_getr (pc := 46) fdX9_58 (by decide) sm_0 rfl rfl dX9_errs_46 ?_
            refine z_iload_n (pc := 49) dX9_errs_49 rfl ?_
            refine z_iald (pc := 50) (by decide) sm_91 rfl dX9_errs_50 (fun h16 => ?_)
            refine z_aload_n (pc := 51) dX9_errs_51 rfl ?_
            refine z_getr (pc := 52) fdX9_37 (by decide) sm_0 rfl rfl dX9_errs_52 ?_
            refine z_iload_n (pc := 55) dX9_errs_55 rfl ?_
            refine z_aald (pc := 56) (fun j => 36 + j) (by decide) sm_35 (Or.inl rfl) smg_35 dX9_errs_56 (fun h17 => ?_)
            refine z_iconst (pc := 57) (1 : Int32) dX9_errs_57 (by decide) ?_
            refine z_iald (pc := 58) (smr_35 h17).2 (smr_35 h17).1 rfl dX9_errs_58 (fun h18 => ?_)
            refine z_let (fun (j : zRes) => zR yX9_errs cX9_errs 4 (some .int) 3 79 [.null, .null, .null, .null] [] 1134 SM μ13 (j)) ?_ (fun j19 hj19 => ?_)
            · refine z_iconst (pc := 79) (4 : Int32) dX9_errs_79 (by decide) ?_
              exact z_iret (pc := 80) rfl dX9_errs_80
            · refine z_icmp_lt (pc := 59) (tgt := 79) dX9_errs_59 (by decide) (fun c20 => ?_) (fun c21 => ?_)
              · refine z_loc (L' := [.null, .null, .null, .null]) ⟨Or.inl rfl, ⟨Or.inl rfl, ⟨Or.inl rfl, ⟨Or.inl rfl, trivial⟩⟩⟩⟩ ?_
                exact hj19
              · refine z_aload_n (pc := 62) dX9_errs_62 rfl ?_
                refine z_getr (pc := 63) fdX9_58 (by decide) sm_0 rfl rfl dX9_errs_63 ?_
                refine z_iload_n (pc := 66) dX9_errs_66 rfl ?_
                refine z_iald (pc := 67) (by decide) sm_91 rfl dX9_errs_67 (fun h22 => ?_)
                refine z_aload_n (pc := 68) dX9_errs_68 rfl ?_
                refine z_getr (pc := 69) fdX9_37 (by decide) sm_0 rfl rfl dX9_errs_69 ?_
                refine z_iload_n (pc := 72) dX9_errs_72 rfl ?_
                refine z_aald (pc := 73) (fun j => 36 + j) (by decide) sm_35 (Or.inl rfl) smg_35 dX9_errs_73 (fun h23 => ?_)
                refine z_iconst (pc := 74) (1 : Int32) dX9_errs_74 (by decide) ?_
                refine z_iald (pc := 75) (smr_35 h23).2 (smr_35 h23).1 rfl dX9_errs_75 (fun h24 => ?_)
                refine z_icmp_ge (pc := 76) (tgt := 81) dX9_errs_76 (by decide) (fun c25 => ?_) (fun c26 => ?_)
                · refine z_aload_n (pc := 81) dX9_errs_81 rfl ?_
                  refine z_getr (pc := 82) fdX9_52 (by decide) sm_0 rfl rfl dX9_errs_82 ?_
                  refine z_iload_n (pc := 85) dX9_errs_85 rfl ?_
                  refine z_aald (pc := 86) (fun j => 51 + j) (by decide) sm_50 (Or.inl rfl) smg_50 dX9_errs_86 (fun h27 => ?_)
                  refine z_aload_n (pc := 87) dX9_errs_87 rfl ?_
                  refine z_iload_n (pc := 88) dX9_errs_88 rfl ?_
                  refine z_callV (As := [.int x1]) (pc := 89) (ret' := some .int) kvX9_226 (t9_asked _ _) (by decide) (by decide) sm_0  rfl rfl (Nat.le_of_ble_eq_true rfl) dX9_errs_89 (fun v28 μ29 => ?_)
                  refine z_iald (pc := 92) (smr_50 h27).2 (smr_50 h27).1 rfl dX9_errs_92 (fun h30 => ?_)
                  refine z_aload_n (pc := 93) dX9_errs_93 rfl ?_
                  refine z_getr (pc := 94) fdX9_52 (by decide) sm_0 rfl rfl dX9_errs_94 ?_
                  refine z_iload_n (pc := 97) dX9_errs_97 rfl ?_
                  refine z_aald (pc := 98) (fun j => 51 + j) (by decide) sm_50 (Or.inl rfl) smg_50 dX9_errs_98 (fun h31 => ?_)
                  refine z_aload_n (pc := 99) dX9_errs_99 rfl ?_
                  refine z_iload_n (pc := 100) dX9_errs_100 rfl ?_
                  refine z_callV (As := [.int x1]) (pc := 101) (ret' := some .int) kvX9_226 (t9_asked _ _) (by decide) (by decide) sm_0  rfl rfl (Nat.le_of_ble_eq_true rfl) dX9_errs_101 (fun v32 μ33 => ?_)
                  refine z_iald (pc := 104) (smr_50 h31).2 (smr_50 h31).1 rfl dX9_errs_104 (fun h34 => ?_)
                  refine z_isub (pc := 105) dX9_errs_105 ?_
                  refine z_callS (As := [.int ((μ29 (51 + x2.toNatClampNeg) v28.toNatClampNeg) - (μ33 (51 + x3.toNatClampNeg) v32.toNatClampNeg))]) (pc := 106) (ret' := some .int) ksX9_229 (t9_amount _ _) (by decide)  rfl rfl (Nat.le_of_ble_eq_true rfl) dX9_errs_106 (fun v35 μ36 => ?_)
                  refine z_aload_n (pc := 109) dX9_errs_109 rfl ?_
                  refine z_getr (pc := 110) fdX9_23 (by decide) sm_0 rfl rfl dX9_errs_110 ?_
                  refine z_iconst (pc := 113) (3 : Int32) dX9_errs_113 (by decide) ?_
                  refine z_iald (pc := 114) (by decide) sm_4 rfl dX9_errs_114 (fun h37 => ?_)
                  refine z_let (fun (j : Int32 → zRes) => ∀ (s38 : Int32), zR yX9_errs cX9_errs 4 (some .int) 3 123 [.null, .null, .null, .null] [.int s38] 1134 SM μ36 (j s38)) ?_ (fun j39 hj39 => ?_)
                  · intro s38
                    exact z_iret (pc := 123) rfl dX9_errs_123
                  · refine z_icmp_ge (pc := 115) (tgt := 122) dX9_errs_115 (by decide) (fun c40 => ?_) (fun c41 => ?_)
                    · refine z_iconst (pc := 122) (0 : Int32) dX9_errs_122 (by decide) ?_
                      refine z_loc (L' := [.null, .null, .null, .null]) ⟨Or.inl rfl, ⟨Or.inl rfl, ⟨Or.inl rfl, ⟨Or.inl rfl, trivial⟩⟩⟩⟩ ?_
                      exact hj39 (0 : Int32)
                    · refine z_iconst (pc := 118) (5 : Int32) dX9_errs_118 (by decide) ?_
                      refine z_goto (pc := 119) (tgt := 123) dX9_errs_119 (by decide) ?_
                      refine z_loc (L' := [.null, .null, .null, .null]) ⟨Or.inl rfl, ⟨Or.inl rfl, ⟨Or.inl rfl, ⟨Or.inl rfl, trivial⟩⟩⟩⟩ ?_
                      exact hj39 (5 : Int32)
                · refine z_loc (L' := [.null, .null, .null, .null]) ⟨Or.inl rfl, ⟨Or.inl rfl, ⟨Or.inl rfl, ⟨Or.inl rfl, trivial⟩⟩⟩⟩ ?_
                  exact hj19
          · refine z_loc (L' := [.null, .null, .null, .null]) ⟨Or.inl rfl, ⟨Or.inl rfl, ⟨Or.inl rfl, ⟨Or.inl rfl, trivial⟩⟩⟩⟩ ?_
            exact hj9 μ13
    · refine z_iconst (pc := 27) (2 : Int32) dX9_errs_27 (by decide) ?_
      exact z_iret (pc := 28) rfl dX9_errs_28
  · refine z_iconst (pc := 10) (1 : Int32) dX9_errs_10 (by decide) ?_
    exact z_iret (pc := 11) rfl dX9_errs_11
def f9_nears (x1 : Int32) (x2 : Int32) (x3 : Int32) (μ : zMem) : zRes := zin x1 9 (zin x3 4 (zin x2 9 (zin x3 4 (zlet (fun (s5 : Int32) => zlet ((x1 + x2) - s5) (fun (v6 : Int32) => zin v6 9 (zin x3 4 (zin s5 9 (zin x3 4 (zlet ((μ (51 + v6.toNatClampNeg) x3.toNatClampNeg) - (μ (51 + s5.toNatClampNeg) x3.toNatClampNeg)) (fun (v11 : Int32) => zin s5 9 (zin (4 : Int32) 6 (zlet (μ (15 + s5.toNatClampNeg) (4 : Int32).toNatClampNeg) (fun (v14 : Int32) => zin v6 9 (zin (4 : Int32) 6 (zlet (μ (15 + v6.toNatClampNeg) (4 : Int32).toNatClampNeg) (fun (v17 : Int32) => zlet (fun (μ18 : zMem) => some (0, 0, μ18)) (fun j19 => if v11 < (v14 + v17) then zin s5 9 (zin x3 4 (znz (v14 + v17) (zin x3 4 (zlet (zset μ (51 + s5.toNatClampNeg) x3.toNatClampNeg ((μ (51 + s5.toNatClampNeg) x3.toNatClampNeg) + ((v11 * v14) / (v14 + v17)))) (fun (μ26 : zMem) => zin v6 9 (zin s5 9 (zin x3 4 (zin x3 4 (zlet (zset μ26 (51 + v6.toNatClampNeg) x3.toNatClampNeg (μ26 (51 + s5.toNatClampNeg) x3.toNatClampNeg)) (fun (μ31 : zMem) => j19 μ31)))))))))) else zin s5 9 (zin x3 4 (zin x3 4 (zlet (zset μ (51 + s5.toNatClampNeg) x3.toNatClampNeg ((μ (51 + s5.toNatClampNeg) x3.toNatClampNeg) + v14)) (fun (μ35 : zMem) => zin v6 9 (zin x3 4 (zin x3 4 (zlet (zset μ35 (51 + v6.toNatClampNeg) x3.toNatClampNeg ((μ35 (51 + v6.toNatClampNeg) x3.toNatClampNeg) - v17)) (fun (μ39 : zMem) => j19 μ39)))))))))))))))))))))) (fun j40 => if (μ (51 + x2.toNatClampNeg) x3.toNatClampNeg) < (μ (51 + x1.toNatClampNeg) x3.toNatClampNeg) then j40 x2 else j40 x1)))))
set_option maxHeartbeats 1000000 in
theorem t9_nears (x1 : Int32) (x2 : Int32) (x3 : Int32) (μ : zMem) : zMR yX9_nears cX9_nears 9 (none) 1 [.ref 0, .int x1, .int x2, .int x3] 1134 SM μ (f9_nears x1 x2 x3 μ) := by
  refine zMR_of (by decide +kernel) rfl (Nat.le_of_ble_eq_true rfl) (L := [.ref 0, .int x1, .int x2, .int x3, .null, .null, .null, .null, .null]) rfl ?_
  unfold f9_nears
  refine z_aload_n (pc := 0) dX9_nears_0 rfl ?_
  refine z_getr (pc := 1) fdX9_52 (by decide) sm_0 rfl rfl dX9_nears_1 ?_
  refine z_iload_n (pc := 4) dX9_nears_4 rfl ?_
  refine z_aald (pc := 5) (fun j => 51 + j) (by decide) sm_50 (Or.inl rfl) smg_50 dX9_nears_5 (fun h1 => ?_)
  refine z_iload_n (pc := 6) dX9_nears_6 rfl ?_
  refine z_iald (pc := 7) (smr_50 h1).2 (smr_50 h1).1 rfl dX9_nears_7 (fun h2 => ?_)
  refine z_aload_n (pc := 8) dX9_nears_8 rfl ?_
  refine z_getr (pc := 9) fdX9_52 (by decide) sm_0 rfl rfl dX9_nears_9 ?_
  refine z_iload_n (pc := 12) dX9_nears_12 rfl ?_
  refine z_aald (pc := 13) (fun j => 51 + j) (by decide) sm_50 (Or.inl rfl) smg_50 dX9_nears_13 (fun h3 => ?_)
  refine z_iload_n (pc := 14) dX9_nears_14 rfl ?_
  refine z_iald (pc := 15) (smr_50 h3).2 (smr_50 h3).1 rfl dX9_nears_15 (fun h4 => ?_)
  refine z_let (fun (j : Int32 → zRes) => ∀ (s5 : Int32), zR yX9_nears cX9_nears 9 (none) 1 24 [.ref 0, .int x1, .int x2, .int x3, .null, .null, .null, .null, .null] [.int s5] 1134 SM μ (j s5)) ?_ (fun j40 hj40 => ?_)
  · intro s5
    refine z_istore (pc := 24) (L' := [.ref 0, .int x1, .int x2, .int x3, .int s5, .null, .null, .null, .null]) dX9_nears_24 (by decide) rfl ?_
    refine z_iload_n (pc := 26) dX9_nears_26 rfl ?_
    refine z_iload_n (pc := 27) dX9_nears_27 rfl ?_
    refine z_iadd (pc := 28) dX9_nears_28 ?_
    refine z_iload (pc := 29) dX9_nears_29 rfl ?_
    refine z_isub (pc := 31) dX9_nears_31 ?_
    refine z_val (fun v6 => ?_)
    refine z_istore (pc := 32) (L' := [.ref 0, .int x1, .int x2, .int x3, .int s5, .int v6, .null, .null, .null]) dX9_nears_32 (by decide) rfl ?_
    refine z_aload_n (pc := 34) dX9_nears_34 rfl ?_
    refine z_getr (pc := 35) fdX9_52 (by decide) sm_0 rfl rfl dX9_nears_35 ?_
    refine z_iload (pc := 38) dX9_nears_38 rfl ?_
    refine z_aald (pc := 40) (fun j => 51 + j) (by decide) sm_50 (Or.inl rfl) smg_50 dX9_nears_40 (fun h7 => ?_)
    refine z_iload_n (pc := 41) dX9_nears_41 rfl ?_
    refine z_iald (pc := 42) (smr_50 h7).2 (smr_50 h7).1 rfl dX9_nears_42 (fun h8 => ?_)
    refine z_aload_n (pc := 43) dX9_nears_43 rfl ?_
    refine z_getr (pc := 44) fdX9_52 (by decide) sm_0 rfl rfl dX9_nears_44 ?_
    refine z_iload (pc := 47) dX9_nears_47 rfl ?_
    refine z_aald (pc := 49) (fun j => 51 + j) (by decide) sm_50 (Or.inl rfl) smg_50 dX9_nears_49 (fun h9 => ?_)
    refine z_iload_n (pc := 50) dX9_nears_50 rfl ?_
    refine z_iald (pc := 51) (smr_50 h9).2 (smr_50 h9).1 rfl dX9_nears_51 (fun h10 => ?_)
    refine z_isub (pc := 52) dX9_nears_52 ?_
    refine z_val (fun v11 => ?_)
    refine z_istore (pc := 53) (L' := [.ref 0, .int x1, .int x2, .int x3, .int s5, .int v6, .int v11, .null, .null]) dX9_nears_53 (by decide) rfl ?_
    refine z_aload_n (pc := 55) dX9_nears_55 rfl ?_
    refine z_getr (pc := 56) fdX9_31 (by decide) sm_0 rfl rfl dX9_nears_56 ?_
    refine z_iload (pc := 59) dX9_nears_59 rfl ?_
    refine z_aald (pc := 61) (fun j => 15 + j) (by decide) sm_14 (Or.inl rfl) smg_14 dX9_nears_61 (fun h12 => ?_)
    refine z_iconst (pc := 62) (4 : Int32) dX9_nears_62 (by decide) ?_
    refine z_iald (pc := 63) (smr_14 h12).2 (smr_14 h12).1 rfl dX9_nears_63 (fun h13 => ?_)
    refine z_val (fun v14 => ?_)
    refine z_istore (pc := 64) (L' := [.ref 0, .int x1, .int x2, .int x3, .int s5, .int v6, .int v11, .int v14, .null]) dX9_nears_64 (by decide) rfl ?_
    refine z_aload_n (pc := 66) dX9_nears_66 rfl ?_
    refine z_getr (pc := 67) fdX9_31 (by decide) sm_0 rfl rfl dX9_nears_67 ?_
    refine z_iload (pc := 70) dX9_nears_70 rfl ?_
    refine z_aald (pc := 72) (fun j => 15 + j) (by decide) sm_14 (Or.inl rfl) smg_14 dX9_nears_72 (fun h15 => ?_)
    refine z_iconst (pc := 73) (4 : Int32) dX9_nears_73 (by decide) ?_
    refine z_iald (pc := 74) (smr_14 h15).2 (smr_14 h15).1 rfl dX9_nears_74 (fun h16 => ?_)
    refine z_val (fun v17 => ?_)
    refine z_istore (pc := 75) (L' := [.ref 0, .int x1, .int x2, .int x3, .int s5, .int v6, .int v11, .int v14, .int v17]) dX9_nears_75 (by decide) rfl ?_
    refine z_iload (pc := 77) dX9_nears_77 rfl ?_
    refine z_iload (pc := 79) dX9_nears_79 rfl ?_
    refine z_iadd (pc := 81) dX9_nears_81 ?_
    refine z_iload (pc := 82) dX9_nears_82 rfl ?_
    refine z_let (fun (j : zMem → zRes) => ∀ (μ18 : zMem), zR yX9_nears cX9_nears 9 (none) 1 159 [.null, .null, .null, .null, .null, .null, .null, .null, .null] [] 1134 SM μ18 (j μ18)) ?_ (fun j19 hj19 => ?_)
    · intro μ18
      exact z_vret (pc := 159) rfl dX9_nears_159
    · refine z_icmp_gt (pc := 84) (tgt := 118) dX9_nears_84 (by decide) (fun c20 => ?_) (fun c21 => ?_)
      · refine z_aload_n (pc := 118) dX9_nears_118 rfl ?_
        refine z_getr (pc := 119) fdX9_52 (by decide) sm_0 rfl rfl dX9_nears_119 ?_
        refine z_iload (pc := 122) dX9_nears_122 rfl ?_
        refine z_aald (pc := 124) (fun j => 51 + j) (by decide) sm_50 (Or.inl rfl) smg_50 dX9_nears_124 (fun h22 => ?_)
        refine z_iload_n (pc := 125) dX9_nears_125 rfl ?_
        refine z_dup2 (pc := 126) dX9_nears_126 rfl rfl ?_
        refine z_iald (pc := 127) (smr_50 h22).2 (smr_50 h22).1 rfl dX9_nears_127 (fun h23 => ?_)
        refine z_iload (pc := 128) dX9_nears_128 rfl ?_
        refine z_iload (pc := 130) dX9_nears_130 rfl ?_
        refine z_imul (pc := 132) dX9_nears_132 ?_
        refine z_iload (pc := 133) dX9_nears_133 rfl ?_
        refine z_iload (pc := 135) dX9_nears_135 rfl ?_
        refine z_iadd (pc := 137) dX9_nears_137 ?_
        refine z_idiv (pc := 138) dX9_nears_138 (fun h24 => ?_)
        refine z_iadd (pc := 139) dX9_nears_139 ?_
        refine z_iast (pc := 140) (smr_50 h22).2 (smr_50 h22).1 rfl dX9_nears_140 (fun h25 => ?_)
        refine z_mem (fun μ26 => ?_)
        refine z_aload_n (pc := 141) dX9_nears_141 rfl ?_
        refine z_getr (pc := 142) fdX9_52 (by decide) sm_0 rfl rfl dX9_nears_142 ?_
        refine z_iload (pc := 145) dX9_nears_145 rfl ?_
        refine z_aald (pc := 147) (fun j => 51 + j) (by decide) sm_50 (Or.inl rfl) smg_50 dX9_nears_147 (fun h27 => ?_)
        refine z_iload_n (pc := 148) dX9_nears_148 rfl ?_
        refine z_aload_n (pc := 149) dX9_nears_149 rfl ?_
        refine z_getr (pc := 150) fdX9_52 (by decide) sm_0 rfl rfl dX9_nears_150 ?_
        refine z_iload (pc := 153) dX9_nears_153 rfl ?_
        refine z_aald (pc := 155) (fun j => 51 + j) (by decide) sm_50 (Or.inl rfl) smg_50 dX9_nears_155 (fun h28 => ?_)
        refine z_iload_n (pc := 156) dX9_nears_156 rfl ?_
        refine z_iald (pc := 157) (smr_50 h28).2 (smr_50 h28).1 rfl dX9_nears_157 (fun h29 => ?_)
        refine z_iast (pc := 158) (smr_50 h27).2 (smr_50 h27).1 rfl dX9_nears_158 (fun h30 => ?_)
        refine z_mem (fun μ31 => ?_)
        refine z_loc (L' := [.null, .null, .null, .null, .null, .null, .null, .null, .null]) ⟨Or.inl rfl, ⟨Or.inl rfl, ⟨Or.inl rfl, ⟨Or.inl rfl, ⟨Or.inl rfl, ⟨Or.inl rfl, ⟨Or.inl rfl, ⟨Or.inl rfl, ⟨Or.inl rfl, trivial⟩⟩⟩⟩⟩⟩⟩⟩⟩ ?_
        exact hj19 μ31
      · refine z_aload_n (pc := 87) dX9_nears_87 rfl ?_
        refine z_getr (pc := 88) fdX9_52 (by decide) sm_0 rfl rfl dX9_nears_88 ?_
        refine z_iload (pc := 91) dX9_nears_91 rfl ?_
        refine z_aald (pc := 93) (fun j => 51 + j) (by decide) sm_50 (Or.inl rfl) smg_50 dX9_nears_93 (fun h32 => ?_)
        refine z_iload_n (pc := 94) dX9_nears_94 rfl ?_
        refine z_dup2 (pc := 95) dX9_nears_95 rfl rfl ?_
        refine z_iald (pc := 96) (smr_50 h32).2 (smr_50 h32).1 rfl dX9_nears_96 (fun h33 => ?_)
        refine z_iload (pc := 97) dX9_nears_97 rfl ?_
        refine z_iadd (pc := 99) dX9_nears_99 ?_
        refine z_iast (pc := 100) (smr_50 h32).2 (smr_50 h32).1 rfl dX9_nears_100 (fun h34 => ?_)
        refine z_mem (fun μ35 => ?_)
        refine z_aload_n (pc := 101) dX9_nears_101 rfl ?_
        refine z_getr (pc := 102) fdX9_52 (by decide) sm_0 rfl rfl dX9_nears_102 ?_
        refine z_iload (pc := 105) dX9_nears_105 rfl ?_
        refine z_aald (pc := 107) (fun j => 51 + j) (by decide) sm_50 (Or.inl rfl) smg_50 dX9_nears_107 (fun h36 => ?_)
        refine z_iload_n (pc := 108) dX9_nears_108 rfl ?_
        refine z_dup2 (pc := 109) dX9_nears_109 rfl rfl ?_
        refine z_iald (pc := 110) (smr_50 h36).2 (smr_50 h36).1 rfl dX9_nears_110 (fun h37 => ?_)
        refine z_iload (pc := 111) dX9_nears_111 rfl ?_
        refine z_isub (pc := 113) dX9_nears_113 ?_
        refine z_iast (pc := 114) (smr_50 h36).2 (smr_50 h36).1 rfl dX9_nears_114 (fun h38 => ?_)
        refine z_mem (fun μ39 => ?_)
        refine z_goto (pc := 115) (tgt := 159) dX9_nears_115 (by decide) ?_
        refine z_loc (L' := [.null, .null, .null, .null, .null, .null, .null, .null, .null]) ⟨Or.inl rfl, ⟨Or.inl rfl, ⟨Or.inl rfl, ⟨Or.inl rfl, ⟨Or.inl rfl, ⟨Or.inl rfl, ⟨Or.inl rfl, ⟨Or.inl rfl, ⟨Or.inl rfl, trivial⟩⟩⟩⟩⟩⟩⟩⟩⟩ ?_
        exact hj19 μ39
  · refine z_icmp_gt (pc := 16) (tgt := 23) dX9_nears_16 (by decide) (fun c41 => ?_) (fun c42 => ?_)
    · refine z_iload_n (pc := 23) dX9_nears_23 rfl ?_
      exact hj40 x2
    · refine z_iload_n (pc := 19) dX9_nears_19 rfl ?_
      refine z_goto (pc := 20) (tgt := 24) dX9_nears_20 (by decide) ?_
      exact hj40 x1
def f9_works (x1 : Int32) (x2 : Int32) (x3 : Int32) (μ : zMem) : zRes := zin x1 10 (zlet (zset μ 92 x1.toNatClampNeg (1 : Int32)) (fun (μ2 : zMem) => zin x2 9 (zin x1 10 (zin (1 : Int32) 4 (zin x2 9 (zlet (zset μ2 91 x2.toNatClampNeg ((μ2 91 x2.toNatClampNeg) - (μ2 (36 + x1.toNatClampNeg) (1 : Int32).toNatClampNeg))) (fun (μ7 : zMem) => zin x3 9 (zin x1 10 (zin (1 : Int32) 4 (zin x3 9 (zlet (zset μ7 91 x3.toNatClampNeg ((μ7 91 x3.toNatClampNeg) - (μ7 (36 + x1.toNatClampNeg) (1 : Int32).toNatClampNeg))) (fun (μ12 : zMem) => bnd0 (f9_asked x1 μ12) (fun (v13 : Int32) (μ14 : zMem) => bnd0 (f9_nears x2 x3 v13 μ14) (fun (v15 : Int32) (μ16 : zMem) => some (0, 0, μ16)))))))))))))))
set_option maxHeartbeats 1000000 in
theorem t9_works (x1 : Int32) (x2 : Int32) (x3 : Int32) (μ : zMem) : zMR yX9_works cX9_works 4 (none) 3 [.ref 0, .int x1, .int x2, .int x3] 1134 SM μ (f9_works x1 x2 x3 μ) := by
  refine zMR_of (by decide +kernel) rfl (Nat.le_of_ble_eq_true rfl) (L := [.ref 0, .int x1, .int x2, .int x3]) rfl ?_
  unfold f9_works
  refine z_aload_n (pc := 0) dX9_works_0 rfl ?_
  refine z_getr (pc := 1) fdX9_61 (by decide) sm_0 rfl rfl dX9_works_1 ?_
  refine z_iload_n (pc := 4) dX9_works_4 rfl ?_
  refine z_iconst (pc := 5) (1 : Int32) dX9_works_5 (by decide) ?_
  refine z_iast (pc := 6) (by decide) sm_92 rfl dX9_works_6 (fun h1 => ?_)
  refine z_mem (fun μ2 => ?_)
  refine z_aload_n (pc := 7) dX9_works_7 rfl ?_
  refine z_getr (pc := 8) fdX9_58 (by decide) sm_0 rfl rfl dX9_works_8 ?_
  refine z_iload_n (pc := 11) dX9_works_11 rfl ?_
  refine z_dup2 (pc := 12) dX9_works_12 rfl rfl ?_
  refine z_iald (pc := 13) (by decide) sm_91 rfl dX9_works_13 (fun h3 => ?_)
  refine z_aload_n (pc := 14) dX9_works_14 rfl ?_
  refine z_getr (pc := 15) fdX9_37 (by decide) sm_0 rfl rfl dX9_works_15 ?_
  refine z_iload_n (pc := 18) dX9_works_18 rfl ?_
  refine z_aald (pc := 19) (fun j => 36 + j) (by decide) sm_35 (Or.inl rfl) smg_35 dX9_works_19 (fun h4 => ?_)
  refine z_iconst (pc := 20) (1 : Int32) dX9_works_20 (by decide) ?_
  refine z_iald (pc := 21) (smr_35 h4).2 (smr_35 h4).1 rfl dX9_works_21 (fun h5 => ?_)
  refine z_isub (pc := 22) dX9_works_22 ?_
  refine z_iast (pc := 23) (by decide) sm_91 rfl dX9_works_23 (fun h6 => ?_)
  refine z_mem (fun μ7 => ?_)
  refine z_aload_n (pc := 24) dX9_works_24 rfl ?_
  refine z_getr (pc := 25) fdX9_58 (by decide) sm_0 rfl rfl dX9_works_25 ?_
  refine z_iload_n (pc := 28) dX9_works_28 rfl ?_
  refine z_dup2 (pc := 29) dX9_works_29 rfl rfl ?_
  refine z_iald (pc := 30) (by decide) sm_91 rfl dX9_works_30 (fun h8 => ?_)
  refine z_aload_n (pc := 31) dX9_works_31 rfl ?_
  refine z_getr (pc := 32) fdX9_37 (by decide) sm_0 rfl rfl dX9_works_32 ?_
  refine z_iload_n (pc := 35) dX9_works_35 rfl ?_
  refine z_aald (pc := 36) (fun j => 36 + j) (by decide) sm_35 (Or.inl rfl) smg_35 dX9_works_36 (fun h9 => ?_)
  refine z_iconst (pc := 37) (1 : Int32) dX9_works_37 (by decide) ?_
  refine z_iald (pc := 38) (smr_35 h9).2 (smr_35 h9).1 rfl dX9_works_38 (fun h10 => ?_)
  refine z_isub (pc := 39) dX9_works_39 ?_
  refine z_iast (pc := 40) (by decide) sm_91 rfl dX9_works_40 (fun h11 => ?_)
  refine z_mem (fun μ12 => ?_)
  refine z_aload_n (pc := 41) dX9_works_41 rfl ?_
  refine z_iload_n (pc := 42) dX9_works_42 rfl ?_
  refine z_iload_n (pc := 43) dX9_works_43 rfl ?_
  refine z_aload_n (pc := 44) dX9_works_44 rfl ?_
  refine z_iload_n (pc := 45) dX9_works_45 rfl ?_
  refine z_callV (As := [.int x1]) (pc := 46) (ret' := some .int) kvX9_226 (t9_asked _ _) (by decide) (by decide) sm_0  rfl rfl (Nat.le_of_ble_eq_true rfl) dX9_works_46 (fun v13 μ14 => ?_)
  refine z_callV (As := [.int x2, .int x3, .int v13]) (pc := 49) (ret' := none) kvX9_232 (t9_nears _ _ _ _) (by decide) (by decide) sm_0  rfl rfl (Nat.le_of_ble_eq_true rfl) dX9_works_49 (fun v15 μ16 => ?_)
  exact z_vret (pc := 52) rfl dX9_works_52
def f9_work (x1 : Int32) (x2 : Int32) (x3 : Int32) (μ : zMem) : zRes := zlet (zset μ 0 0 (0 : Int32)) (fun (μ1 : zMem) => bnd0 (f9_badWork x1 x2 x3 μ1) (fun (v2 : Int32) (μ3 : zMem) => if v2 = 0 then bnd0 (f9_errs x1 x2 x3 μ3) (fun (v6 : Int32) (μ7 : zMem) => if v6 ≤ 0 then bnd0 (f9_works x1 x2 x3 μ7) (fun (v10 : Int32) (μ11 : zMem) => zin x2 9 (bnd0 (f9_asked x1 μ11) (fun (v13 : Int32) (μ14 : zMem) => zin v13 4 (zin x3 9 (bnd0 (f9_asked x1 μ14) (fun (v17 : Int32) (μ18 : zMem) => zin v17 4 (bnd0 (f9_amount ((μ14 (51 + x2.toNatClampNeg) v13.toNatClampNeg) - (μ18 (51 + x3.toNatClampNeg) v17.toNatClampNeg)) μ18) (fun (v20 : Int32) (μ21 : zMem) => some (0, v20, μ21))))))))) else some (0, -v6, μ7)) else some (0, (0 : Int32), μ3)))
set_option maxHeartbeats 1000000 in
theorem t9_work (x1 : Int32) (x2 : Int32) (x3 : Int32) (μ : zMem) : zMR yX9_work cX9_work 5 (some .int) 4 [.ref 0, .int x1, .int x2, .int x3] 1134 SM μ (f9_work x1 x2 x3 μ) := by
  refine zMR_of (by decide +kernel) rfl (Nat.le_of_ble_eq_true rfl) (L := [.ref 0, .int x1, .int x2, .int x3, .null]) rfl ?_
  unfold f9_work
  refine z_aload_n (pc := 0) dX9_work_0 rfl ?_
  refine z_iconst (pc := 1) (0 : Int32) dX9_work_1 (by decide) ?_
  refine z_puti (pc := 2) fdX9_106 (by decide) sm_0 rfl rfl dX9_work_2 ?_
  refine z_mem (fun μ1 => ?_)
  refine z_aload_n (pc := 5) dX9_work_5 rfl ?_
  refine z_iload_n (pc := 6) dX9_work_6 rfl ?_
  refine z_iload_n (pc := 7) dX9_work_7 rfl ?_
  refine z_iload_n (pc := 8) dX9_work_8 rfl ?_
  refine z_callV (As := [.int x1, .int x2, .int x3]) (pc := 9) (ret' := some .boolean) kvX9_236 (t9_badWork _ _ _ _) (by decide) (by decide) sm_0  rfl rfl (Nat.le_of_ble_eq_true rfl) dX9_work_9 (fun v2 μ3 => ?_)
  refine z_if_eq (pc := 12) (tgt := 17) dX9_work_12 (by decide) (fun c4 => ?_) (fun c5 => ?_)
  · refine z_aload_n (pc := 17) dX9_work_17 rfl ?_
    refine z_iload_n (pc := 18) dX9_work_18 rfl ?_
    refine z_iload_n (pc := 19) dX9_work_19 rfl ?_
    refine z_iload_n (pc := 20) dX9_work_20 rfl ?_
    refine z_callV (As := [.int x1, .int x2, .int x3]) (pc := 21) (ret' := some .int) kvX9_239 (t9_errs _ _ _ _) (by decide) (by decide) sm_0  rfl rfl (Nat.le_of_ble_eq_true rfl) dX9_work_21 (fun v6 μ7 => ?_)
    refine z_istore (pc := 24) (L' := [.ref 0, .int x1, .int x2, .int x3, .int v6]) dX9_work_24 (by decide) rfl ?_
    refine z_iload (pc := 26) dX9_work_26 rfl ?_
    refine z_if_le (pc := 28) (tgt := 35) dX9_work_28 (by decide) (fun c8 => ?_) (fun c9 => ?_)
    · refine z_aload_n (pc := 35) dX9_work_35 rfl ?_
      refine z_iload_n (pc := 36) dX9_work_36 rfl ?_
      refine z_iload_n (pc := 37) dX9_work_37 rfl ?_
      refine z_iload_n (pc := 38) dX9_work_38 rfl ?_
      refine z_callV (As := [.int x1, .int x2, .int x3]) (pc := 39) (ret' := none) kvX9_242 (t9_works _ _ _ _) (by decide) (by decide) sm_0  rfl rfl (Nat.le_of_ble_eq_true rfl) dX9_work_39 (fun v10 μ11 => ?_)
      refine z_aload_n (pc := 42) dX9_work_42 rfl ?_
      refine z_getr (pc := 43) fdX9_52 (by decide) sm_0 rfl rfl dX9_work_43 ?_
      refine z_iload_n (pc := 46) dX9_work_46 rfl ?_
      refine z_aald (pc := 47) (fun j => 51 + j) (by decide) sm_50 (Or.inl rfl) smg_50 dX9_work_47 (fun h12 => ?_)
      refine z_aload_n (pc := 48) dX9_work_48 rfl ?_
      refine z_iload_n (pc := 49) dX9_work_49 rfl ?_
      refine z_callV (As := [.int x1]) (pc := 50) (ret' := some .int) kvX9_226 (t9_asked _ _) (by decide) (by decide) sm_0  rfl rfl (Nat.le_of_ble_eq_true rfl) dX9_work_50 (fun v13 μ14 => ?_)
      refine z_iald (pc := 53) (smr_50 h12).2 (smr_50 h12).1 rfl dX9_work_53 (fun h15 => ?_)
      refine z_aload_n (pc := 54) dX9_work_54 rfl ?_
      refine z_getr (pc := 55) fdX9_52 (by decide) sm_0 rfl rfl dX9_work_55 ?_
      refine z_iload_n (pc := 58) dX9_work_58 rfl ?_
      refine z_aald (pc := 59) (fun j => 51 + j) (by decide) sm_50 (Or.inl rfl) smg_50 dX9_work_59 (fun h16 => ?_)
      refine z_aload_n (pc := 60) dX9_work_60 rfl ?_
      refine z_iload_n (pc := 61) dX9_work_61 rfl ?_
      refine z_callV (As := [.int x1]) (pc := 62) (ret' := some .int) kvX9_226 (t9_asked _ _) (by decide) (by decide) sm_0  rfl rfl (Nat.le_of_ble_eq_true rfl) dX9_work_62 (fun v17 μ18 => ?_)
      refine z_iald (pc := 65) (smr_50 h16).2 (smr_50 h16).1 rfl dX9_work_65 (fun h19 => ?_)
      refine z_isub (pc := 66) dX9_work_66 ?_
      refine z_callS (As := [.int ((μ14 (51 + x2.toNatClampNeg) v13.toNatClampNeg) - (μ18 (51 + x3.toNatClampNeg) v17.toNatClampNeg))]) (pc := 67) (ret' := some .int) ksX9_229 (t9_amount _ _) (by decide)  rfl rfl (Nat.le_of_ble_eq_true rfl) dX9_work_67 (fun v20 μ21 => ?_)
      exact z_iret (pc := 70) rfl dX9_work_70
    · refine z_iload (pc := 31) dX9_work_31 rfl ?_
      refine z_ineg (pc := 33) dX9_work_33 ?_
      exact z_iret (pc := 34) rfl dX9_work_34
  · refine z_iconst (pc := 15) (0 : Int32) dX9_work_15 (by decide) ?_
    exact z_iret (pc := 16) rfl dX9_work_16
def f9_may (x1 : Int32) (x2 : Int32) (x3 : Int32) (μ : zMem) : zRes := zlet (zset μ 0 0 (0 : Int32)) (fun (μ1 : zMem) => bnd0 (f9_badWork x1 x2 x3 μ1) (fun (v2 : Int32) (μ3 : zMem) => if v2 = 0 then bnd0 (f9_errs x1 x2 x3 μ3) (fun (v6 : Int32) (μ7 : zMem) => some (0, v6, μ7)) else some (0, (0 : Int32), μ3)))
set_option maxHeartbeats 1000000 in
theorem t9_may (x1 : Int32) (x2 : Int32) (x3 : Int32) (μ : zMem) : zMR yX9_may cX9_may 4 (some .int) 4 [.ref 0, .int x1, .int x2, .int x3] 1134 SM μ (f9_may x1 x2 x3 μ) := by
  refine zMR_of (by decide +kernel) rfl (Nat.le_of_ble_eq_true rfl) (L := [.ref 0, .int x1, .int x2, .int x3]) rfl ?_
  unfold f9_may
  refine z_aload_n (pc := 0) dX9_may_0 rfl ?_
  refine z_iconst (pc := 1) (0 : Int32) dX9_may_1 (by decide) ?_
  refine z_puti (pc := 2) fdX9_106 (by decide) sm_0 rfl rfl dX9_may_2 ?_
  refine z_mem (fun μ1 => ?_)
  refine z_aload_n (pc := 5) dX9_may_5 rfl ?_
  refine z_iload_n (pc := 6) dX9_may_6 rfl ?_
  refine z_iload_n (pc := 7) dX9_may_7 rfl ?_
  refine z_iload_n (pc := 8) dX9_may_8 rfl ?_
  refine z_callV (As := [.int x1, .int x2, .int x3]) (pc := 9) (ret' := some .boolean) kvX9_236 (t9_badWork _ _ _ _) (by decide) (by decide) sm_0  rfl rfl (Nat.le_of_ble_eq_true rfl) dX9_may_9 (fun v2 μ3 => ?_)
  refine z_if_eq (pc := 12) (tgt := 17) dX9_may_12 (by decide) (fun c4 => ?_) (fun c5 => ?_)
  · refine z_aload_n (pc := 17) dX9_may_17 rfl ?_
    refine z_iload_n (pc := 18) dX9_may_18 rfl ?_
    refine z_iload_n (pc := 19) dX9_may_19 rfl ?_
    refine z_iload_n (pc := 20) dX9_may_20 rfl ?_
    refine z_callV (As := [.int x1, .int x2, .int x3]) (pc := 21) (ret' := some .int) kvX9_239 (t9_errs _ _ _ _) (by decide) (by decide) sm_0  rfl rfl (Nat.le_of_ble_eq_true rfl) dX9_may_21 (fun v6 μ7 => ?_)
    exact z_iret (pc := 24) rfl dX9_may_24
  · refine z_iconst (pc := 15) (0 : Int32) dX9_may_15 (by decide) ?_
    exact z_iret (pc := 16) rfl dX9_may_16
def f9_next (μ : zMem) : zRes := zlet (zset μ 0 0 (0 : Int32)) (fun (μ1 : zMem) => zin (0 : Int32) 6 (zlet (fun (s3 : Int32) => bnd0 (f9_bad s3 (1 : Int32) μ1) (fun (v4 : Int32) (μ5 : zMem) => if v4 = 0 then if (μ5 0 20) = (29 : Int32) then some (0, (-1 : Int32), μ5) else zlet (zset μ5 0 20 ((μ5 0 20) + (1 : Int32))) (fun (μ10 : zMem) => bnd0 (f9_dawns μ10) (fun (v11 : Int32) (μ12 : zMem) => some (0, μ12 0 20, μ12))) else some (0, (0 : Int32), μ5))) (fun j13 => if (μ1 4 (0 : Int32).toNatClampNeg) = 0 then j13 (1 : Int32) else j13 (0 : Int32))))
set_option maxHeartbeats 1000000 in
theorem t9_next (μ : zMem) : zMR yX9_next cX9_next 1 (some .int) 2 [.ref 0] 1134 SM μ (f9_next μ) := by
  refine zMR_of (by decide +kernel) rfl (Nat.le_of_ble_eq_true rfl) (L := [.ref 0]) rfl ?_
  unfold f9_next
  refine z_aload_n (pc := 0) dX9_next_0 rfl ?_
  refine z_iconst (pc := 1) (0 : Int32) dX9_next_1 (by decide) ?_
  refine z_puti (pc := 2) fdX9_106 (by decide) sm_0 rfl rfl dX9_next_2 ?_
  refine z_mem (fun μ1 => ?_)
  refine z_aload_n (pc := 5) dX9_next_5 rfl ?_
  refine z_aload_n (pc := 6) dX9_next_6 rfl ?_
  refine z_getr (pc := 7) fdX9_23 (by decide) sm_0 rfl rfl dX9_next_7 ?_
  refine z_iconst (pc := 10) (0 : Int32) dX9_next_10 (by decide) ?_
  refine z_iald (pc := 11) (by decide) sm_4 rfl dX9_next_11 (fun h2 => ?_)
  refine z_let (fun (j : Int32 → zRes) => ∀ (s3 : Int32), zR yX9_next cX9_next 1 (some .int) 2 20 [.ref 0] [.int s3, .ref 0] 1134 SM μ1 (j s3)) ?_ (fun j13 hj13 => ?_)
  · intro s3
    refine z_iconst (pc := 20) (1 : Int32) dX9_next_20 (by decide) ?_
    refine z_callV (As := [.int s3, .int (1 : Int32)]) (pc := 21) (ret' := some .boolean) kvX9_188 (t9_bad _ _ _) (by decide) (by decide) sm_0  rfl rfl (Nat.le_of_ble_eq_true rfl) dX9_next_21 (fun v4 μ5 => ?_)
    refine z_if_eq (pc := 24) (tgt := 29) dX9_next_24 (by decide) (fun c6 => ?_) (fun c7 => ?_)
    · refine z_aload_n (pc := 29) dX9_next_29 rfl ?_
      refine z_geti (pc := 30) fdX9_198 (by decide) sm_0 rfl dX9_next_30 ?_
      refine z_bipush (pc := 33) (29 : Int32) dX9_next_33 (by decide) ?_
      refine z_icmp_ne (pc := 35) (tgt := 40) dX9_next_35 (by decide) (fun c8 => ?_) (fun c9 => ?_)
      · refine z_aload_n (pc := 40) dX9_next_40 rfl ?_
        refine z_dup (pc := 41) dX9_next_41 rfl ?_
        refine z_geti (pc := 42) fdX9_198 (by decide) sm_0 rfl dX9_next_42 ?_
        refine z_iconst (pc := 45) (1 : Int32) dX9_next_45 (by decide) ?_
        refine z_iadd (pc := 46) dX9_next_46 ?_
        refine z_puti (pc := 47) fdX9_198 (by decide) sm_0 rfl rfl dX9_next_47 ?_
        refine z_mem (fun μ10 => ?_)
        refine z_aload_n (pc := 50) dX9_next_50 rfl ?_
        refine z_callV (As := []) (pc := 51) (ret' := none) kvX9_207 (t9_dawns _) (by decide) (by decide) sm_0  rfl rfl (Nat.le_of_ble_eq_true rfl) dX9_next_51 (fun v11 μ12 => ?_)
        refine z_aload_n (pc := 54) dX9_next_54 rfl ?_
        refine z_geti (pc := 55) fdX9_198 (by decide) sm_0 rfl dX9_next_55 ?_
        exact z_iret (pc := 58) rfl dX9_next_58
      · refine z_iconst (pc := 38) (-1 : Int32) dX9_next_38 (by decide) ?_
        exact z_iret (pc := 39) rfl dX9_next_39
    · refine z_iconst (pc := 27) (0 : Int32) dX9_next_27 (by decide) ?_
      exact z_iret (pc := 28) rfl dX9_next_28
  · refine z_if_ne (pc := 12) (tgt := 19) dX9_next_12 (by decide) (fun c14 => ?_) (fun c15 => ?_)
    · refine z_iconst (pc := 19) (0 : Int32) dX9_next_19 (by decide) ?_
      exact hj13 (0 : Int32)
    · refine z_iconst (pc := 15) (1 : Int32) dX9_next_15 (by decide) ?_
      refine z_goto (pc := 16) (tgt := 20) dX9_next_16 (by decide) ?_
      exact hj13 (1 : Int32)
def f9_talks (x1 : Int32) (x2 : Int32) (x3 : Int32) (μ : zMem) : zRes := zin x1 9 (zin x3 4 (zin x2 9 (zin x3 4 (zin x1 9 (zin x3 4 (zlet (fun (s7 : Int32) => zin x3 4 (zlet (zset μ (51 + x1.toNatClampNeg) x3.toNatClampNeg ((μ (51 + x1.toNatClampNeg) x3.toNatClampNeg) + s7)) (fun (μ9 : zMem) => some (0, 0, μ9)))) (fun j10 => if (μ (51 + x2.toNatClampNeg) x3.toNatClampNeg) ≤ (μ (51 + x1.toNatClampNeg) x3.toNatClampNeg) then zin x2 9 (zin x3 4 (zin x1 9 (zin x3 4 (if (μ (51 + x1.toNatClampNeg) x3.toNatClampNeg) ≤ (μ (51 + x2.toNatClampNeg) x3.toNatClampNeg) then j10 (0 : Int32) else j10 (-1 : Int32))))) else j10 (1 : Int32))))))))
set_option maxHeartbeats 1000000 in
theorem t9_talks (x1 : Int32) (x2 : Int32) (x3 : Int32) (μ : zMem) : zMR yX9_talks cX9_talks 4 (none) 1 [.ref 0, .int x1, .int x2, .int x3] 1134 SM μ (f9_talks x1 x2 x3 μ) := by
  refine zMR_of (by decide +kernel) rfl (Nat.le_of_ble_eq_true rfl) (L := [.ref 0, .int x1, .int x2, .int x3]) rfl ?_
  unfold f9_talks
  refine z_aload_n (pc := 0) dX9_talks_0 rfl ?_
  refine z_getr (pc := 1) fdX9_52 (by decide) sm_0 rfl rfl dX9_talks_1 ?_
  refine z_iload_n (pc := 4) dX9_talks_4 rfl ?_
  refine z_aald (pc := 5) (fun j => 51 + j) (by decide) sm_50 (Or.inl rfl) smg_50 dX9_talks_5 (fun h1 => ?_)
  refine z_iload_n (pc := 6) dX9_talks_6 rfl ?_
  refine z_dup2 (pc := 7) dX9_talks_7 rfl rfl ?_
  refine z_iald (pc := 8) (smr_50 h1).2 (smr_50 h1).1 rfl dX9_talks_8 (fun h2 => ?_)
  refine z_aload_n (pc := 9) dX9_talks_9 rfl ?_
  refine z_getr (pc := 10) fdX9_52 (by decide) sm_0 rfl rfl dX9_talks_10 ?_
  refine z_iload_n (pc := 13) dX9_talks_13 rfl ?_
  refine z_aald (pc := 14) (fun j => 51 + j) (by decide) sm_50 (Or.inl rfl) smg_50 dX9_talks_14 (fun h3 => ?_)
  refine z_iload_n (pc := 15) dX9_talks_15 rfl ?_
  refine z_iald (pc := 16) (smr_50 h3).2 (smr_50 h3).1 rfl dX9_talks_16 (fun h4 => ?_)
  refine z_aload_n (pc := 17) dX9_talks_17 rfl ?_
  refine z_getr (pc := 18) fdX9_52 (by decide) sm_0 rfl rfl dX9_talks_18 ?_
  refine z_iload_n (pc := 21) dX9_talks_21 rfl ?_
  refine z_aald (pc := 22) (fun j => 51 + j) (by decide) sm_50 (Or.inl rfl) smg_50 dX9_talks_22 (fun h5 => ?_)
  refine z_iload_n (pc := 23) dX9_talks_23 rfl ?_
  refine z_iald (pc := 24) (smr_50 h5).2 (smr_50 h5).1 rfl dX9_talks_24 (fun h6 => ?_)
  refine z_let (fun (j : Int32 → zRes) => ∀ (s7 : Int32), zR yX9_talks cX9_talks 4 (none) 1 56 [.null, .null, .null, .null] [.int s7, .int (μ (51 + x1.toNatClampNeg) x3.toNatClampNeg), .int x3, .ref (51 + x1.toNatClampNeg)] 1134 SM μ (j s7)) ?_ (fun j10 hj10 => ?_)
  · intro s7
    refine z_iadd (pc := 56) dX9_talks_56 ?_
    refine z_iast (pc := 57) (smr_50 h1).2 (smr_50 h1).1 rfl dX9_talks_57 (fun h8 => ?_)
    refine z_mem (fun μ9 => ?_)
    exact z_vret (pc := 58) rfl dX9_talks_58
  · refine z_icmp_le (pc := 25) (tgt := 32) dX9_talks_25 (by decide) (fun c11 => ?_) (fun c12 => ?_)
    · refine z_aload_n (pc := 32) dX9_talks_32 rfl ?_
      refine z_getr (pc := 33) fdX9_52 (by decide) sm_0 rfl rfl dX9_talks_33 ?_
      refine z_iload_n (pc := 36) dX9_talks_36 rfl ?_
      refine z_aald (pc := 37) (fun j => 51 + j) (by decide) sm_50 (Or.inl rfl) smg_50 dX9_talks_37 (fun h13 => ?_)
      refine z_iload_n (pc := 38) dX9_talks_38 rfl ?_
      refine z_iald (pc := 39) (smr_50 h13).2 (smr_50 h13).1 rfl dX9_talks_39 (fun h14 => ?_)
      refine z_aload_n (pc := 40) dX9_talks_40 rfl ?_
      refine z_getr (pc := 41) fdX9_52 (by decide) sm_0 rfl rfl dX9_talks_41 ?_
      refine z_iload_n (pc := 44) dX9_talks_44 rfl ?_
      refine z_aald (pc := 45) (fun j => 51 + j) (by decide) sm_50 (Or.inl rfl) smg_50 dX9_talks_45 (fun h15 => ?_)
      refine z_iload_n (pc := 46) dX9_talks_46 rfl ?_
      refine z_iald (pc := 47) (smr_50 h15).2 (smr_50 h15).1 rfl dX9_talks_47 (fun h16 => ?_)
      refine z_icmp_ge (pc := 48) (tgt := 55) dX9_talks_48 (by decide) (fun c17 => ?_) (fun c18 => ?_)
      · refine z_iconst (pc := 55) (0 : Int32) dX9_talks_55 (by decide) ?_
        refine z_loc (L' := [.null, .null, .null, .null]) ⟨Or.inl rfl, ⟨Or.inl rfl, ⟨Or.inl rfl, ⟨Or.inl rfl, trivial⟩⟩⟩⟩ ?_
        exact hj10 (0 : Int32)
      · refine z_iconst (pc := 51) (-1 : Int32) dX9_talks_51 (by decide) ?_
        refine z_goto (pc := 52) (tgt := 56) dX9_talks_52 (by decide) ?_
        refine z_loc (L' := [.null, .null, .null, .null]) ⟨Or.inl rfl, ⟨Or.inl rfl, ⟨Or.inl rfl, ⟨Or.inl rfl, trivial⟩⟩⟩⟩ ?_
        exact hj10 (-1 : Int32)
    · refine z_iconst (pc := 28) (1 : Int32) dX9_talks_28 (by decide) ?_
      refine z_goto (pc := 29) (tgt := 56) dX9_talks_29 (by decide) ?_
      refine z_loc (L' := [.null, .null, .null, .null]) ⟨Or.inl rfl, ⟨Or.inl rfl, ⟨Or.inl rfl, ⟨Or.inl rfl, trivial⟩⟩⟩⟩ ?_
      exact hj10 (1 : Int32)
def f9_talk (x1 : Int32) (x2 : Int32) (x3 : Int32) (μ : zMem) : zRes := zlet (zset μ 0 0 (0 : Int32)) (fun (μ1 : zMem) => bnd0 (f9_isPerson x1 μ1) (fun (v2 : Int32) (μ3 : zMem) => zlet (fun (s4 : Int32) (μ5 : zMem) => bnd0 (f9_bad s4 (1 : Int32) μ5) (fun (v6 : Int32) (μ7 : zMem) => zlet (fun (μ8 : zMem) => some (0, (0 : Int32), μ8)) (fun j9 => if v6 = 0 then bnd0 (f9_isAsked x3 μ7) (fun (v12 : Int32) (μ13 : zMem) => zlet (fun (s14 : Int32) => bnd0 (f9_bad s14 (2 : Int32) μ13) (fun (v15 : Int32) (μ16 : zMem) => if v15 = 0 then bnd0 (f9_talks x1 x2 x3 μ16) (fun (v19 : Int32) (μ20 : zMem) => zin x1 9 (zin x3 4 (some (0, μ20 (51 + x1.toNatClampNeg) x3.toNatClampNeg, μ20)))) else j9 μ16)) (fun j23 => zlet (j23 (1 : Int32)) (fun j24 => if v12 = 0 then j24 else if x1 = x2 then j24 else j23 (0 : Int32)))) else j9 μ7))) (fun j29 => zlet (fun (μ30 : zMem) => j29 (1 : Int32) μ30) (fun j31 => if v2 = 0 then j31 μ3 else bnd0 (f9_isPerson x2 μ3) (fun (v34 : Int32) (μ35 : zMem) => if v34 = 0 then j31 μ35 else j29 (0 : Int32) μ35)))))
set_option maxHeartbeats 1000000 in
theorem t9_talk (x1 : Int32) (x2 : Int32) (x3 : Int32) (μ : zMem) : zMR yX9_talk cX9_talk 4 (some .int) 3 [.ref 0, .int x1, .int x2, .int x3] 1134 SM μ (f9_talk x1 x2 x3 μ) := by
  refine zMR_of (by decide +kernel) rfl (Nat.le_of_ble_eq_true rfl) (L := [.ref 0, .int x1, .int x2, .int x3]) rfl ?_
  unfold f9_talk
  refine z_aload_n (pc := 0) dX9_talk_0 rfl ?_
  refine z_iconst (pc := 1) (0 : Int32) dX9_talk_1 (by decide) ?_
  refine z_puti (pc := 2) fdX9_106 (by decide) sm_0 rfl rfl dX9_talk_2 ?_
  refine z_mem (fun μ1 => ?_)
  refine z_aload_n (pc := 5) dX9_talk_5 rfl ?_
  refine z_aload_n (pc := 6) dX9_talk_6 rfl ?_
  refine z_iload_n (pc := 7) dX9_talk_7 rfl ?_
  refine z_callV (As := [.int x1]) (pc := 8) (ret' := some .boolean) kvX9_214 (t9_isPerson _ _) (by decide) (by decide) sm_0  rfl rfl (Nat.le_of_ble_eq_true rfl) dX9_talk_8 (fun v2 μ3 => ?_)
  refine z_let (fun (j : Int32 → zMem → zRes) => ∀ (s4 : Int32) (μ5 : zMem), zR yX9_talk cX9_talk 4 (some .int) 3 27 [.ref 0, .int x1, .int x2, .int x3] [.int s4, .ref 0] 1134 SM μ5 (j s4 μ5)) ?_ (fun j29 hj29 => ?_)
  · intro s4 μ5
    refine z_iconst (pc := 27) (1 : Int32) dX9_talk_27 (by decide) ?_
    refine z_callV (As := [.int s4, .int (1 : Int32)]) (pc := 28) (ret' := some .boolean) kvX9_188 (t9_bad _ _ _) (by decide) (by decide) sm_0  rfl rfl (Nat.le_of_ble_eq_true rfl) dX9_talk_28 (fun v6 μ7 => ?_)
    refine z_let (fun (j : zMem → zRes) => ∀ (μ8 : zMem), zR yX9_talk cX9_talk 4 (some .int) 3 60 [.null, .null, .null, .null] [] 1134 SM μ8 (j μ8)) ?_ (fun j9 hj9 => ?_)
    · intro μ8
      refine z_iconst (pc := 60) (0 : Int32) dX9_talk_60 (by decide) ?_
      exact z_iret (pc := 61) rfl dX9_talk_61
    · refine z_if_ne (pc := 31) (tgt := 60) dX9_talk_31 (by decide) (fun c10 => ?_) (fun c11 => ?_)
      · refine z_loc (L' := [.null, .null, .null, .null]) ⟨Or.inl rfl, ⟨Or.inl rfl, ⟨Or.inl rfl, ⟨Or.inl rfl, trivial⟩⟩⟩⟩ ?_
        exact hj9 μ7
      · refine z_aload_n (pc := 34) dX9_talk_34 rfl ?_
        refine z_aload_n (pc := 35) dX9_talk_35 rfl ?_
        refine z_iload_n (pc := 36) dX9_talk_36 rfl ?_
        refine z_callV (As := [.int x3]) (pc := 37) (ret' := some .boolean) kvX9_217 (t9_isAsked _ _) (by decide) (by decide) sm_0  rfl rfl (Nat.le_of_ble_eq_true rfl) dX9_talk_37 (fun v12 μ13 => ?_)
        refine z_let (fun (j : Int32 → zRes) => ∀ (s14 : Int32), zR yX9_talk cX9_talk 4 (some .int) 3 53 [.ref 0, .int x1, .int x2, .int x3] [.int s14, .ref 0] 1134 SM μ13 (j s14)) ?_ (fun j23 hj23 => ?_)
        · intro s14
          refine z_iconst (pc := 53) (2 : Int32) dX9_talk_53 (by decide) ?_
          refine z_callV (As := [.int s14, .int (2 : Int32)]) (pc := 54) (ret' := some .boolean) kvX9_188 (t9_bad _ _ _) (by decide) (by decide) sm_0  rfl rfl (Nat.le_of_ble_eq_true rfl) dX9_talk_54 (fun v15 μ16 => ?_)
          refine z_if_eq (pc := 57) (tgt := 62) dX9_talk_57 (by decide) (fun c17 => ?_) (fun c18 => ?_)
          · refine z_aload_n (pc := 62) dX9_talk_62 rfl ?_
            refine z_iload_n (pc := 63) dX9_talk_63 rfl ?_
            refine z_iload_n (pc := 64) dX9_talk_64 rfl ?_
            refine z_iload_n (pc := 65) dX9_talk_65 rfl ?_
            refine z_callV (As := [.int x1, .int x2, .int x3]) (pc := 66) (ret' := none) kvX9_245 (t9_talks _ _ _ _) (by decide) (by decide) sm_0  rfl rfl (Nat.le_of_ble_eq_true rfl) dX9_talk_66 (fun v19 μ20 => ?_)
            refine z_aload_n (pc := 69) dX9_talk_69 rfl ?_
            refine z_getr (pc := 70) fdX9_52 (by decide) sm_0 rfl rfl dX9_talk_70 ?_
            refine z_iload_n (pc := 73) dX9_talk_73 rfl ?_
            refine z_aald (pc := 74) (fun j => 51 + j) (by decide) sm_50 (Or.inl rfl) smg_50 dX9_talk_74 (fun h21 => ?_)
            refine z_iload_n (pc := 75) dX9_talk_75 rfl ?_
            refine z_iald (pc := 76) (smr_50 h21).2 (smr_50 h21).1 rfl dX9_talk_76 (fun h22 => ?_)
            exact z_iret (pc := 77) rfl dX9_talk_77
          · refine z_loc (L' := [.null, .null, .null, .null]) ⟨Or.inl rfl, ⟨Or.inl rfl, ⟨Or.inl rfl, ⟨Or.inl rfl, trivial⟩⟩⟩⟩ ?_
            exact hj9 μ16
        · refine z_let (fun (j : zRes) => zR yX9_talk cX9_talk 4 (some .int) 3 48 [.ref 0, .int x1, .int x2, .int x3] [.ref 0] 1134 SM μ13 (j)) ?_ (fun j24 hj24 => ?_)
          · refine z_iconst (pc := 48) (1 : Int32) dX9_talk_48 (by decide) ?_
            refine z_goto (pc := 49) (tgt := 53) dX9_talk_49 (by decide) ?_
            exact hj23 (1 : Int32)
          · refine z_if_eq (pc := 40) (tgt := 48) dX9_talk_40 (by decide) (fun c25 => ?_) (fun c26 => ?_)
            · exact hj24
            · refine z_iload_n (pc := 43) dX9_talk_43 rfl ?_
              refine z_iload_n (pc := 44) dX9_talk_44 rfl ?_
              refine z_icmp_ne (pc := 45) (tgt := 52) dX9_talk_45 (by decide) (fun c27 => ?_) (fun c28 => ?_)
              · refine z_iconst (pc := 52) (0 : Int32) dX9_talk_52 (by decide) ?_
                exact hj23 (0 : Int32)
              · exact hj24
  · refine z_let (fun (j : zMem → zRes) => ∀ (μ30 : zMem), zR yX9_talk cX9_talk 4 (some .int) 3 22 [.ref 0, .int x1, .int x2, .int x3] [.ref 0] 1134 SM μ30 (j μ30)) ?_ (fun j31 hj31 => ?_)
    · intro μ30
      refine z_iconst (pc := 22) (1 : Int32) dX9_talk_22 (by decide) ?_
      refine z_goto (pc := 23) (tgt := 27) dX9_talk_23 (by decide) ?_
      exact hj29 (1 : Int32) μ30
    · refine z_if_eq (pc := 11) (tgt := 22) dX9_talk_11 (by decide) (fun c32 => ?_) (fun c33 => ?_)
      · exact hj31 μ3
      · refine z_aload_n (pc := 14) dX9_talk_14 rfl ?_
        refine z_iload_n (pc := 15) dX9_talk_15 rfl ?_
        refine z_callV (As := [.int x2]) (pc := 16) (ret' := some .boolean) kvX9_214 (t9_isPerson _ _) (by decide) (by decide) sm_0  rfl rfl (Nat.le_of_ble_eq_true rfl) dX9_talk_16 (fun v34 μ35 => ?_)
        refine z_if_ne (pc := 19) (tgt := 26) dX9_talk_19 (by decide) (fun c36 => ?_) (fun c37 => ?_)
        · refine z_iconst (pc := 26) (0 : Int32) dX9_talk_26 (by decide) ?_
          exact hj29 (0 : Int32) μ35
        · exact hj31 μ35
def f9_earned_L33 (x1 : Int32) (μ : zMem) (K107 : Int32 → zRes) : Nat → Int32 → Int32 → zRes
  | 0, _, _ => none
  | n + 1, x2, x3 => zin (2 : Int32) 6 (if (μ 4 (2 : Int32).toNatClampNeg) ≤ x3 then K107 x2 else zlet (fun (s12 : Int32) => zlet (x2 + s12) (fun (v13 : Int32) => f9_earned_L33 x1 μ K107 n v13 (x3 + (1 : Int32)))) (fun j14 => zlet (zin x3 10 (zin (0 : Int32) 4 (j14 (μ (36 + x3.toNatClampNeg) (0 : Int32).toNatClampNeg)))) (fun j17 => zlet (zlet (j14 (0 : Int32)) (fun j18 => if x1 = (1 : Int32) then zin x3 10 (if (μ 92 x3.toNatClampNeg) = 0 then zin x3 10 (zin (2 : Int32) 4 (if (μ 0 20) ≤ (μ (36 + x3.toNatClampNeg) (2 : Int32).toNatClampNeg) then j18 else j17)) else j18) else j18)) (fun j28 => if x1 = 0 then zin x3 10 (if (μ 92 x3.toNatClampNeg) = (1 : Int32) then j17 else j28) else j28))))
def f9_earned (x1 : Int32) (μ : zMem) : zRes := zlet (zset μ 0 0 (0 : Int32)) (fun (μ1 : zMem) => bnd0 (f9_in x1 (0 : Int32) (1 : Int32) μ1) (fun (v2 : Int32) (μ3 : zMem) => zlet (fun (s4 : Int32) => bnd0 (f9_bad s4 (1 : Int32) μ3) (fun (v5 : Int32) (μ6 : zMem) => if v5 = 0 then f9_earned_L33 x1 μ6 (fun (x2_34 : Int32) => some (0, x2_34, μ6)) zF (0 : Int32) (0 : Int32) else some (0, (0 : Int32), μ6))) (fun j35 => if v2 = 0 then j35 (1 : Int32) else j35 (0 : Int32))))
set_option maxHeartbeats 1000000 in
theorem t9_earned_L33 (x1 : Int32) (μ : zMem) (K107 : Int32 → zRes) (hK107 : ∀ (x2 : Int32), zR yX9_earned cX9_earned 4 (some .int) 2 107 [.null, .null, .int x2, .null] [] 1134 SM μ (K107 x2)) : ∀ (n : Nat) (x2 : Int32) (x3 : Int32), zR yX9_earned cX9_earned 4 (some .int) 2 33 [.ref 0, .int x1, .int x2, .int x3] [] 1134 SM μ (f9_earned_L33 x1 μ K107 n x2 x3) := by
  intro n
  induction n with
  | zero => intro x2 x3; intro q hq; cases hq
  | succ n ih =>
    intro x2 x3
    unfold f9_earned_L33
    refine z_iload_n (pc := 33) dX9_earned_33 rfl ?_
    refine z_aload_n (pc := 34) dX9_earned_34 rfl ?_
    refine z_getr (pc := 35) fdX9_23 (by decide) sm_0 rfl rfl dX9_earned_35 ?_
    refine z_iconst (pc := 38) (2 : Int32) dX9_earned_38 (by decide) ?_
    refine z_iald (pc := 39) (by decide) sm_4 rfl dX9_earned_39 (fun h9 => ?_)
    refine z_icmp_ge (pc := 40) (tgt := 107) dX9_earned_40 (by decide) (fun c10 => ?_) (fun c11 => ?_)
    · refine z_loc (L' := [.null, .null, .int x2, .null]) ⟨Or.inl rfl, ⟨Or.inl rfl, ⟨Or.inr rfl, ⟨Or.inl rfl, trivial⟩⟩⟩⟩ ?_
      exact hK107 x2
    · refine z_iload_n (pc := 43) dX9_earned_43 rfl ?_
      refine z_iload_n (pc := 44) dX9_earned_44 rfl ?_
      refine z_let (fun (j : Int32 → zRes) => ∀ (s12 : Int32), zR yX9_earned cX9_earned 4 (some .int) 2 99 [.ref 0, .int x1, .null, .int x3] [.int s12, .int x2] 1134 SM μ (j s12)) ?_ (fun j14 hj14 => ?_)
      · intro s12
        refine z_iadd (pc := 99) dX9_earned_99 ?_
        refine z_val (fun v13 => ?_)
        refine z_istore_n (pc := 100) (L' := [.ref 0, .int x1, .int v13, .int x3]) dX9_earned_100 (by decide) rfl ?_
        refine z_iinc (pc := 101) (v := x3 + (1 : Int32)) (L' := [.ref 0, .int x1, .int v13, .int (x3 + (1 : Int32))]) dX9_earned_101 (by decide) rfl (congrArg _ (by decide)) rfl ?_
        refine z_goto (pc := 104) (tgt := 33) dX9_earned_104 (by decide) ?_
        exact ih v13 (x3 + (1 : Int32))
      · refine z_let (fun (j : zRes) => zR yX9_earned cX9_earned 4 (some .int) 2 87 [.ref 0, .int x1, .null, .int x3] [.int x2] 1134 SM μ (j)) ?_ (fun j17 hj17 => ?_)
        · refine z_aload_n (pc := 87) dX9_earned_87 rfl ?_
          refine z_getr (pc := 88) fdX9_37 (by decide) sm_0 rfl rfl dX9_earned_88 ?_
          refine z_iload_n (pc := 91) dX9_earned_91 rfl ?_
          refine z_aald (pc := 92) (fun j => 36 + j) (by decide) sm_35 (Or.inl rfl) smg_35 dX9_earned_92 (fun h15 => ?_)
          refine z_iconst (pc := 93) (0 : Int32) dX9_earned_93 (by decide) ?_
          refine z_iald (pc := 94) (smr_35 h15).2 (smr_35 h15).1 rfl dX9_earned_94 (fun h16 => ?_)
          refine z_goto (pc := 95) (tgt := 99) dX9_earned_95 (by decide) ?_
          exact hj14 (μ (36 + x3.toNatClampNeg) (0 : Int32).toNatClampNeg)
        · refine z_let (fun (j : zRes) => zR yX9_earned cX9_earned 4 (some .int) 2 58 [.ref 0, .int x1, .null, .int x3] [.int x2] 1134 SM μ (j)) ?_ (fun j28 hj28 => ?_)
          · refine z_iload_n (pc := 58) dX9_earned_58 rfl ?_
            refine z_iconst (pc := 59) (1 : Int32) dX9_earned_59 (by decide) ?_
            refine z_let (fun (j : zRes) => zR yX9_earned cX9_earned 4 (some .int) 2 98 [.ref 0, .int x1, .null, .int x3] [.int x2] 1134 SM μ (j)) ?_ (fun j18 hj18 => ?_)
            · refine z_iconst (pc := 98) (0 : Int32) dX9_earned_98 (by decide) ?_
              exact hj14 (0 : Int32)
            · refine z_icmp_ne (pc := 60) (tgt := 98) dX9_earned_60 (by decide) (fun c19 => ?_) (fun c20 => ?_)
              · exact hj18
              · refine z_aload_n (pc := 63) dX9_earned_63 rfl ?_
                refine z_getr (pc := 64) fdX9_61 (by decide) sm_0 rfl rfl dX9_earned_64 ?_
                refine z_iload_n (pc := 67) dX9_earned_67 rfl ?_
                refine z_iald (pc := 68) (by decide) sm_92 rfl dX9_earned_68 (fun h21 => ?_)
                refine z_if_ne (pc := 69) (tgt := 98) dX9_earned_69 (by decide) (fun c22 => ?_) (fun c23 => ?_)
                · exact hj18
                · refine z_aload_n (pc := 72) dX9_earned_72 rfl ?_
                  refine z_geti (pc := 73) fdX9_198 (by decide) sm_0 rfl dX9_earned_73 ?_
                  refine z_aload_n (pc := 76) dX9_earned_76 rfl ?_
                  refine z_getr (pc := 77) fdX9_37 (by decide) sm_0 rfl rfl dX9_earned_77 ?_
                  refine z_iload_n (pc := 80) dX9_earned_80 rfl ?_
                  refine z_aald (pc := 81) (fun j => 36 + j) (by decide) sm_35 (Or.inl rfl) smg_35 dX9_earned_81 (fun h24 => ?_)
                  refine z_iconst (pc := 82) (2 : Int32) dX9_earned_82 (by decide) ?_
                  refine z_iald (pc := 83) (smr_35 h24).2 (smr_35 h24).1 rfl dX9_earned_83 (fun h25 => ?_)
                  refine z_icmp_le (pc := 84) (tgt := 98) dX9_earned_84 (by decide) (fun c26 => ?_) (fun c27 => ?_)
                  · exact hj18
                  · exact hj17
          · refine z_if_ne (pc := 45) (tgt := 58) dX9_earned_45 (by decide) (fun c29 => ?_) (fun c30 => ?_)
            · refine z_loc (L' := [.ref 0, .int x1, .null, .int x3]) ⟨Or.inr rfl, ⟨Or.inr rfl, ⟨Or.inl rfl, ⟨Or.inr rfl, trivial⟩⟩⟩⟩ ?_
              exact hj28
            · refine z_aload_n (pc := 48) dX9_earned_48 rfl ?_
              refine z_getr (pc := 49) fdX9_61 (by decide) sm_0 rfl rfl dX9_earned_49 ?_
              refine z_iload_n (pc := 52) dX9_earned_52 rfl ?_
              refine z_iald (pc := 53) (by decide) sm_92 rfl dX9_earned_53 (fun h31 => ?_)
              refine z_iconst (pc := 54) (1 : Int32) dX9_earned_54 (by decide) ?_
              refine z_icmp_eq (pc := 55) (tgt := 87) dX9_earned_55 (by decide) (fun c32 => ?_) (fun c33 => ?_)
              · refine z_loc (L' := [.ref 0, .int x1, .null, .int x3]) ⟨Or.inr rfl, ⟨Or.inr rfl, ⟨Or.inl rfl, ⟨Or.inr rfl, trivial⟩⟩⟩⟩ ?_
                exact hj17
              · refine z_loc (L' := [.ref 0, .int x1, .null, .int x3]) ⟨Or.inr rfl, ⟨Or.inr rfl, ⟨Or.inl rfl, ⟨Or.inr rfl, trivial⟩⟩⟩⟩ ?_
                exact hj28
set_option maxHeartbeats 1000000 in
theorem t9_earned (x1 : Int32) (μ : zMem) : zMR yX9_earned cX9_earned 4 (some .int) 2 [.ref 0, .int x1] 1134 SM μ (f9_earned x1 μ) := by
  refine zMR_of (by decide +kernel) rfl (Nat.le_of_ble_eq_true rfl) (L := [.ref 0, .int x1, .null, .null]) rfl ?_
  unfold f9_earned
  refine z_aload_n (pc := 0) dX9_earned_0 rfl ?_
  refine z_iconst (pc := 1) (0 : Int32) dX9_earned_1 (by decide) ?_
  refine z_puti (pc := 2) fdX9_106 (by decide) sm_0 rfl rfl dX9_earned_2 ?_
  refine z_mem (fun μ1 => ?_)
  refine z_aload_n (pc := 5) dX9_earned_5 rfl ?_
  refine z_iload_n (pc := 6) dX9_earned_6 rfl ?_
  refine z_iconst (pc := 7) (0 : Int32) dX9_earned_7 (by decide) ?_
  refine z_iconst (pc := 8) (1 : Int32) dX9_earned_8 (by decide) ?_
  refine z_callS (As := [.int x1, .int (0 : Int32), .int (1 : Int32)]) (pc := 9) (ret' := some .boolean) ksX9_140 (t9_in _ _ _ _) (by decide)  rfl rfl (Nat.le_of_ble_eq_true rfl) dX9_earned_9 (fun v2 μ3 => ?_)
  refine z_let (fun (j : Int32 → zRes) => ∀ (s4 : Int32), zR yX9_earned cX9_earned 4 (some .int) 2 20 [.ref 0, .int x1, .null, .null] [.int s4, .ref 0] 1134 SM μ3 (j s4)) ?_ (fun j35 hj35 => ?_)
  · intro s4
    refine z_iconst (pc := 20) (1 : Int32) dX9_earned_20 (by decide) ?_
    refine z_callV (As := [.int s4, .int (1 : Int32)]) (pc := 21) (ret' := some .boolean) kvX9_188 (t9_bad _ _ _) (by decide) (by decide) sm_0  rfl rfl (Nat.le_of_ble_eq_true rfl) dX9_earned_21 (fun v5 μ6 => ?_)
    refine z_if_eq (pc := 24) (tgt := 29) dX9_earned_24 (by decide) (fun c7 => ?_) (fun c8 => ?_)
    · refine z_iconst (pc := 29) (0 : Int32) dX9_earned_29 (by decide) ?_
      refine z_istore_n (pc := 30) (L' := [.ref 0, .int x1, .int (0 : Int32), .null]) dX9_earned_30 (by decide) rfl ?_
      refine z_iconst (pc := 31) (0 : Int32) dX9_earned_31 (by decide) ?_
      refine z_istore_n (pc := 32) (L' := [.ref 0, .int x1, .int (0 : Int32), .int (0 : Int32)]) dX9_earned_32 (by decide) rfl ?_
      refine t9_earned_L33 _ _ _ (fun x2_34 => ?_) zF _ _
      · refine z_iload_n (pc := 107) dX9_earned_107 rfl ?_
        exact z_iret (pc := 108) rfl dX9_earned_108
    · refine z_iconst (pc := 27) (0 : Int32) dX9_earned_27 (by decide) ?_
      exact z_iret (pc := 28) rfl dX9_earned_28
  · refine z_if_ne (pc := 12) (tgt := 19) dX9_earned_12 (by decide) (fun c36 => ?_) (fun c37 => ?_)
    · refine z_iconst (pc := 19) (0 : Int32) dX9_earned_19 (by decide) ?_
      exact hj35 (0 : Int32)
    · refine z_iconst (pc := 15) (1 : Int32) dX9_earned_15 (by decide) ?_
      refine z_goto (pc := 16) (tgt := 20) dX9_earned_16 (by decide) ?_
      exact hj35 (1 : Int32)
def f9_row (x1 : Int32) (x2 : Int32) (x3 : Int32) (x4 : Int32) (μ : zMem) : zRes := zlet (zset μ 0 0 (0 : Int32)) (fun (μ1 : zMem) => bnd0 (f9_badWork x2 x3 x4 μ1) (fun (v2 : Int32) (μ3 : zMem) => zlet (fun (μ4 : zMem) => some (0, (0 : Int32), μ4)) (fun j5 => if v2 = 0 then bnd0 (f9_in x1 (0 : Int32) (29 : Int32) μ3) (fun (v8 : Int32) (μ9 : zMem) => zlet (fun (s10 : Int32) => bnd0 (f9_bad s10 (3 : Int32) μ9) (fun (v11 : Int32) (μ12 : zMem) => if v11 = 0 then if (μ12 0 21) = (30 : Int32) then some (0, (-1 : Int32), μ12) else zin (μ12 0 21) 30 (zin (0 : Int32) 4 (zlet (zset μ12 (61 + (μ12 0 21).toNatClampNeg) (0 : Int32).toNatClampNeg x1) (fun (μ19 : zMem) => zin (μ19 0 21) 30 (zin (1 : Int32) 4 (zlet (zset μ19 (61 + (μ19 0 21).toNatClampNeg) (1 : Int32).toNatClampNeg x2) (fun (μ22 : zMem) => zin (μ22 0 21) 30 (zin (2 : Int32) 4 (zlet (zset μ22 (61 + (μ22 0 21).toNatClampNeg) (2 : Int32).toNatClampNeg x3) (fun (μ25 : zMem) => zin (μ25 0 21) 30 (zin (3 : Int32) 4 (zlet (zset μ25 (61 + (μ25 0 21).toNatClampNeg) (3 : Int32).toNatClampNeg x4) (fun (μ28 : zMem) => zlet (zset μ28 0 21 ((μ28 0 21) + (1 : Int32))) (fun (μ29 : zMem) => some (0, μ29 0 21, μ29)))))))))))))) else j5 μ12)) (fun j30 => if v8 = 0 then j30 (1 : Int32) else j30 (0 : Int32))) else j5 μ3)))
set_option maxHeartbeats 1000000 in
theorem t9_row (x1 : Int32) (x2 : Int32) (x3 : Int32) (x4 : Int32) (μ : zMem) : zMR yX9_row cX9_row 5 (some .int) 4 [.ref 0, .int x1, .int x2, .int x3, .int x4] 1134 SM μ (f9_row x1 x2 x3 x4 μ) := by
  refine zMR_of (by decide +kernel) rfl (Nat.le_of_ble_eq_true rfl) (L := [.ref 0, .int x1, .int x2, .int x3, .int x4]) rfl ?_
  unfold f9_row
  refine z_aload_n (pc := 0) dX9_row_0 rfl ?_
  refine z_iconst (pc := 1) (0 : Int32) dX9_row_1 (by decide) ?_
  refine z_puti (pc := 2) fdX9_106 (by decide) sm_0 rfl rfl dX9_row_2 ?_
  refine z_mem (fun μ1 => ?_)
  refine z_aload_n (pc := 5) dX9_row_5 rfl ?_
  refine z_iload_n (pc := 6) dX9_row_6 rfl ?_
  refine z_iload_n (pc := 7) dX9_row_7 rfl ?_
  refine z_iload (pc := 8) dX9_row_8 rfl ?_
  refine z_callV (As := [.int x2, .int x3, .int x4]) (pc := 10) (ret' := some .boolean) kvX9_236 (t9_badWork _ _ _ _) (by decide) (by decide) sm_0  rfl rfl (Nat.le_of_ble_eq_true rfl) dX9_row_10 (fun v2 μ3 => ?_)
  refine z_let (fun (j : zMem → zRes) => ∀ (μ4 : zMem), zR yX9_row cX9_row 5 (some .int) 4 39 [.null, .null, .null, .null, .null] [] 1134 SM μ4 (j μ4)) ?_ (fun j5 hj5 => ?_)
  · intro μ4
    refine z_iconst (pc := 39) (0 : Int32) dX9_row_39 (by decide) ?_
    exact z_iret (pc := 40) rfl dX9_row_40
  · refine z_if_ne (pc := 13) (tgt := 39) dX9_row_13 (by decide) (fun c6 => ?_) (fun c7 => ?_)
    · refine z_loc (L' := [.null, .null, .null, .null, .null]) ⟨Or.inl rfl, ⟨Or.inl rfl, ⟨Or.inl rfl, ⟨Or.inl rfl, ⟨Or.inl rfl, trivial⟩⟩⟩⟩⟩ ?_
      exact hj5 μ3
    · refine z_aload_n (pc := 16) dX9_row_16 rfl ?_
      refine z_iload_n (pc := 17) dX9_row_17 rfl ?_
      refine z_iconst (pc := 18) (0 : Int32) dX9_row_18 (by decide) ?_
      refine z_bipush (pc := 19) (29 : Int32) dX9_row_19 (by decide) ?_
      refine z_callS (As := [.int x1, .int (0 : Int32), .int (29 : Int32)]) (pc := 21) (ret' := some .boolean) ksX9_140 (t9_in _ _ _ _) (by decide)  rfl rfl (Nat.le_of_ble_eq_true rfl) dX9_row_21 (fun v8 μ9 => ?_)
      refine z_let (fun (j : Int32 → zRes) => ∀ (s10 : Int32), zR yX9_row cX9_row 5 (some .int) 4 32 [.ref 0, .int x1, .int x2, .int x3, .int x4] [.int s10, .ref 0] 1134 SM μ9 (j s10)) ?_ (fun j30 hj30 => ?_)
      · intro s10
        refine z_iconst (pc := 32) (3 : Int32) dX9_row_32 (by decide) ?_
        refine z_callV (As := [.int s10, .int (3 : Int32)]) (pc := 33) (ret' := some .boolean) kvX9_188 (t9_bad _ _ _) (by decide) (by decide) sm_0  rfl rfl (Nat.le_of_ble_eq_true rfl) dX9_row_33 (fun v11 μ12 => ?_)
        refine z_if_eq (pc := 36) (tgt := 41) dX9_row_36 (by decide) (fun c13 => ?_) (fun c14 => ?_)
        · refine z_aload_n (pc := 41) dX9_row_41 rfl ?_
          refine z_geti (pc := 42) fdX9_201 (by decide) sm_0 rfl dX9_row_42 ?_
          refine z_bipush (pc := 45) (30 : Int32) dX9_row_45 (by decide) ?_
          refine z_icmp_ne (pc := 47) (tgt := 52) dX9_row_47 (by decide) (fun c15 => ?_) (fun c16 => ?_)
          · refine z_aload_n (pc := 52) dX9_row_52 rfl ?_
            refine z_getr (pc := 53) fdX9_55 (by decide) sm_0 rfl rfl dX9_row_53 ?_
            refine z_aload_n (pc := 56) dX9_row_56 rfl ?_
            refine z_geti (pc := 57) fdX9_201 (by decide) sm_0 rfl dX9_row_57 ?_
            refine z_aald (pc := 60) (fun j => 61 + j) (by decide) sm_60 (Or.inl rfl) smg_60 dX9_row_60 (fun h17 => ?_)
            refine z_iconst (pc := 61) (0 : Int32) dX9_row_61 (by decide) ?_
            refine z_iload_n (pc := 62) dX9_row_62 rfl ?_
            refine z_iast (pc := 63) (smr_60 h17).2 (smr_60 h17).1 rfl dX9_row_63 (fun h18 => ?_)
            refine z_mem (fun μ19 => ?_)
            refine z_aload_n (pc := 64) dX9_row_64 rfl ?_
            refine z_getr (pc := 65) fdX9_55 (by decide) sm_0 rfl rfl dX9_row_65 ?_
            refine z_aload_n (pc := 68) dX9_row_68 rfl ?_
            refine z_geti (pc := 69) fdX9_201 (by decide) sm_0 rfl dX9_row_69 ?_
            refine z_aald (pc := 72) (fun j => 61 + j) (by decide) sm_60 (Or.inl rfl) smg_60 dX9_row_72 (fun h20 => ?_)
            refine z_iconst (pc := 73) (1 : Int32) dX9_row_73 (by decide) ?_
            refine z_iload_n (pc := 74) dX9_row_74 rfl ?_
            refine z_iast (pc := 75) (smr_60 h20).2 (smr_60 h20).1 rfl dX9_row_75 (fun h21 => ?_)
            refine z_mem (fun μ22 => ?_)
            refine z_aload_n (pc := 76) dX9_row_76 rfl ?_
            refine z_getr (pc := 77) fdX9_55 (by decide) sm_0 rfl rfl dX9_row_77 ?_
            refine z_aload_n (pc := 80) dX9_row_80 rfl ?_
            refine z_geti (pc := 81) fdX9_201 (by decide) sm_0 rfl dX9_row_81 ?_
            refine z_aald (pc := 84) (fun j => 61 + j) (by decide) sm_60 (Or.inl rfl) smg_60 dX9_row_84 (fun h23 => ?_)
            refine z_iconst (pc := 85) (2 : Int32) dX9_row_85 (by decide) ?_
            refine z_iload_n (pc := 86) dX9_row_86 rfl ?_
            refine z_iast (pc := 87) (smr_60 h23).2 (smr_60 h23).1 rfl dX9_row_87 (fun h24 => ?_)
            refine z_mem (fun μ25 => ?_)
            refine z_aload_n (pc := 88) dX9_row_88 rfl ?_
            refine z_getr (pc := 89) fdX9_55 (by decide) sm_0 rfl rfl dX9_row_89 ?_
            refine z_aload_n (pc := 92) dX9_row_92 rfl ?_
            refine z_geti (pc := 93) fdX9_201 (by decide) sm_0 rfl dX9_row_93 ?_
            refine z_aald (pc := 96) (fun j => 61 + j) (by decide) sm_60 (Or.inl rfl) smg_60 dX9_row_96 (fun h26 => ?_)
            refine z_iconst (pc := 97) (3 : Int32) dX9_row_97 (by decide) ?_
            refine z_iload (pc := 98) dX9_row_98 rfl ?_
            refine z_iast (pc := 100) (smr_60 h26).2 (smr_60 h26).1 rfl dX9_row_100 (fun h27 => ?_)
            refine z_mem (fun μ28 => ?_)
            refine z_aload_n (pc := 101) dX9_row_101 rfl ?_
            refine z_dup (pc := 102) dX9_row_102 rfl ?_
            refine z_geti (pc := 103) fdX9_201 (by decide) sm_0 rfl dX9_row_103 ?_
            refine z_iconst (pc := 106) (1 : Int32) dX9_row_106 (by decide) ?_
            refine z_iadd (pc := 107) dX9_row_107 ?_
            refine z_puti (pc := 108) fdX9_201 (by decide) sm_0 rfl rfl dX9_row_108 ?_
            refine z_mem (fun μ29 => ?_)
            refine z_aload_n (pc := 111) dX9_row_111 rfl ?_
            refine z_geti (pc := 112) fdX9_201 (by decide) sm_0 rfl dX9_row_112 ?_
            exact z_iret (pc := 115) rfl dX9_row_115
          · refine z_iconst (pc := 50) (-1 : Int32) dX9_row_50 (by decide) ?_
            exact z_iret (pc := 51) rfl dX9_row_51
        · refine z_loc (L' := [.null, .null, .null, .null, .null]) ⟨Or.inl rfl, ⟨Or.inl rfl, ⟨Or.inl rfl, ⟨Or.inl rfl, ⟨Or.inl rfl, trivial⟩⟩⟩⟩⟩ ?_
          exact hj5 μ12
      · refine z_if_ne (pc := 24) (tgt := 31) dX9_row_24 (by decide) (fun c31 => ?_) (fun c32 => ?_)
        · refine z_iconst (pc := 31) (0 : Int32) dX9_row_31 (by decide) ?_
          exact hj30 (0 : Int32)
        · refine z_iconst (pc := 27) (1 : Int32) dX9_row_27 (by decide) ?_
          refine z_goto (pc := 28) (tgt := 32) dX9_row_28 (by decide) ?_
          exact hj30 (1 : Int32)
def f9_clear (μ : zMem) : zRes := zlet (zset μ 0 0 (0 : Int32)) (fun (μ1 : zMem) => zlet (μ1 0 21) (fun (v2 : Int32) => zlet (zset μ1 0 21 (0 : Int32)) (fun (μ3 : zMem) => some (0, v2, μ3))))
set_option maxHeartbeats 1000000 in
theorem t9_clear (μ : zMem) : zMR yX9_clear cX9_clear 2 (some .int) 1 [.ref 0] 1134 SM μ (f9_clear μ) := by
  refine zMR_of (by decide +kernel) rfl (Nat.le_of_ble_eq_true rfl) (L := [.ref 0, .null]) rfl ?_
  unfold f9_clear
  refine z_aload_n (pc := 0) dX9_clear_0 rfl ?_
  refine z_iconst (pc := 1) (0 : Int32) dX9_clear_1 (by decide) ?_
  refine z_puti (pc := 2) fdX9_106 (by decide) sm_0 rfl rfl dX9_clear_2 ?_
  refine z_mem (fun μ1 => ?_)
  refine z_aload_n (pc := 5) dX9_clear_5 rfl ?_
  refine z_geti (pc := 6) fdX9_201 (by decide) sm_0 rfl dX9_clear_6 ?_
  refine z_val (fun v2 => ?_)
  refine z_istore_n (pc := 9) (L' := [.ref 0, .int v2]) dX9_clear_9 (by decide) rfl ?_
  refine z_aload_n (pc := 10) dX9_clear_10 rfl ?_
  refine z_iconst (pc := 11) (0 : Int32) dX9_clear_11 (by decide) ?_
  refine z_puti (pc := 12) fdX9_201 (by decide) sm_0 rfl rfl dX9_clear_12 ?_
  refine z_mem (fun μ3 => ?_)
  refine z_iload_n (pc := 15) dX9_clear_15 rfl ?_
  exact z_iret (pc := 16) rfl dX9_clear_16
def f9_moves (kt : Nat) (x2 : Int32) (x3 : Int32) (μ : zMem) : zRes := zlet (fun (μ1 : zMem) => zlet (zset μ1 0 29 ((μ1 0 29) + (1 : Int32))) (fun (μ2 : zMem) => zin ((μ2 0 29) - (1 : Int32)) 190 (some (0, μ2 kt ((μ2 0 29) - (1 : Int32)).toNatClampNeg, μ2)))) (fun j4 => if x3 = 0 then zin (μ 0 29) 190 (zlet (zset μ kt (μ 0 29).toNatClampNeg x2) (fun (μ8 : zMem) => j4 μ8)) else j4 μ)
set_option maxHeartbeats 1000000 in
theorem t9_moves {kt : Nat} (ht : SM kt = (1, 0, 190, zn) ∧ kt < 1134) (x2 : Int32) (x3 : Int32) (μ : zMem) : zMR yX9_moves cX9_moves 4 (some .int) 1 [.ref 0, .ref kt, .int x2, .int x3] 1134 SM μ (f9_moves kt x2 x3 μ) := by
  refine zMR_of (by decide +kernel) rfl (Nat.le_of_ble_eq_true rfl) (L := [.ref 0, .ref kt, .int x2, .int x3]) rfl ?_
  unfold f9_moves
  refine z_iload_n (pc := 0) dX9_moves_0 rfl ?_
  refine z_let (fun (j : zMem → zRes) => ∀ (μ1 : zMem), zR yX9_moves cX9_moves 4 (some .int) 1 11 [.ref 0, .ref kt, .null, .null] [] 1134 SM μ1 (j μ1)) ?_ (fun j4 hj4 => ?_)
  · intro μ1
    refine z_aload_n (pc := 11) dX9_moves_11 rfl ?_
    refine z_dup (pc := 12) dX9_moves_12 rfl ?_
    refine z_geti (pc := 13) fdX9_252 (by decide) sm_0 rfl dX9_moves_13 ?_
    refine z_iconst (pc := 16) (1 : Int32) dX9_moves_16 (by decide) ?_
    refine z_iadd (pc := 17) dX9_moves_17 ?_
    refine z_puti (pc := 18) fdX9_252 (by decide) sm_0 rfl rfl dX9_moves_18 ?_
    refine z_mem (fun μ2 => ?_)
    refine z_aload_n (pc := 21) dX9_moves_21 rfl ?_
    refine z_aload_n (pc := 22) dX9_moves_22 rfl ?_
    refine z_geti (pc := 23) fdX9_252 (by decide) sm_0 rfl dX9_moves_23 ?_
    refine z_iconst (pc := 26) (1 : Int32) dX9_moves_26 (by decide) ?_
    refine z_isub (pc := 27) dX9_moves_27 ?_
    refine z_iald (pc := 28) ht.2 ht.1 rfl dX9_moves_28 (fun h3 => ?_)
    exact z_iret (pc := 29) rfl dX9_moves_29
  · refine z_if_ne (pc := 1) (tgt := 11) dX9_moves_1 (by decide) (fun c5 => ?_) (fun c6 => ?_)
    · refine z_loc (L' := [.ref 0, .ref kt, .null, .null]) ⟨Or.inr rfl, ⟨Or.inr rfl, ⟨Or.inl rfl, ⟨Or.inl rfl, trivial⟩⟩⟩⟩ ?_
      exact hj4 μ
    · refine z_aload_n (pc := 4) dX9_moves_4 rfl ?_
      refine z_aload_n (pc := 5) dX9_moves_5 rfl ?_
      refine z_geti (pc := 6) fdX9_252 (by decide) sm_0 rfl dX9_moves_6 ?_
      refine z_iload_n (pc := 9) dX9_moves_9 rfl ?_
      refine z_iast (pc := 10) ht.2 ht.1 rfl dX9_moves_10 (fun h7 => ?_)
      refine z_mem (fun μ8 => ?_)
      refine z_loc (L' := [.ref 0, .ref kt, .null, .null]) ⟨Or.inr rfl, ⟨Or.inr rfl, ⟨Or.inl rfl, ⟨Or.inl rfl, trivial⟩⟩⟩⟩ ?_
      exact hj4 μ8
def f9_movesAll_L44 (kt : Nat) (x2 : Int32) (x3 : Int32) (K80 : zMem → zRes) : Nat → Int32 → zMem → zRes
  | 0, _, _ => none
  | n + 1, x4, μ => if (4 : Int32) ≤ x4 then K80 μ else zin x3 9 (zin x3 9 (zin x4 4 (bnd0 (f9_moves kt (μ (51 + x3.toNatClampNeg) x4.toNatClampNeg) x2 μ) (fun (v15 : Int32) (μ16 : zMem) => zin x4 4 (zlet (zset μ16 (51 + x3.toNatClampNeg) x4.toNatClampNeg v15) (fun (μ18 : zMem) => f9_movesAll_L44 kt x2 x3 K80 n (x4 + (1 : Int32)) μ18))))))
def f9_movesAll_L35 (kt : Nat) (x2 : Int32) (K86 : zMem → zRes) : Nat → Int32 → zMem → zRes
  | 0, _, _ => none
  | n + 1, x3, μ => if (9 : Int32) ≤ x3 then K86 μ else f9_movesAll_L44 kt x2 x3 (fun (μ19 : zMem) => f9_movesAll_L35 kt x2 K86 n (x3 + (1 : Int32)) μ19) zF (0 : Int32) μ
def f9_movesAll_L88 (kt : Nat) (x2 : Int32) (K118 : zMem → zRes) : Nat → Int32 → zMem → zRes
  | 0, _, _ => none
  | n + 1, x3, μ => if (9 : Int32) ≤ x3 then K118 μ else zin x3 9 (bnd0 (f9_moves kt (μ 91 x3.toNatClampNeg) x2 μ) (fun (v24 : Int32) (μ25 : zMem) => zin x3 9 (zlet (zset μ25 91 x3.toNatClampNeg v24) (fun (μ27 : zMem) => f9_movesAll_L88 kt x2 K118 n (x3 + (1 : Int32)) μ27))))
def f9_movesAll_L120 (kt : Nat) (x2 : Int32) (K150 : zMem → zRes) : Nat → Int32 → zMem → zRes
  | 0, _, _ => none
  | n + 1, x3, μ => if (10 : Int32) ≤ x3 then K150 μ else zin x3 10 (bnd0 (f9_moves kt (μ 92 x3.toNatClampNeg) x2 μ) (fun (v32 : Int32) (μ33 : zMem) => zin x3 10 (zlet (zset μ33 92 x3.toNatClampNeg v32) (fun (μ35 : zMem) => f9_movesAll_L120 kt x2 K150 n (x3 + (1 : Int32)) μ35))))
def f9_movesAll_L161 (kt : Nat) (x2 : Int32) (x3 : Int32) (K197 : zMem → zRes) : Nat → Int32 → zMem → zRes
  | 0, _, _ => none
  | n + 1, x4, μ => if (4 : Int32) ≤ x4 then K197 μ else zin x3 30 (zin x3 30 (zin x4 4 (bnd0 (f9_moves kt (μ (61 + x3.toNatClampNeg) x4.toNatClampNeg) x2 μ) (fun (v44 : Int32) (μ45 : zMem) => zin x4 4 (zlet (zset μ45 (61 + x3.toNatClampNeg) x4.toNatClampNeg v44) (fun (μ47 : zMem) => f9_movesAll_L161 kt x2 x3 K197 n (x4 + (1 : Int32)) μ47))))))
def f9_movesAll_L152 (kt : Nat) (x2 : Int32) (K203 : zMem → zRes) : Nat → Int32 → zMem → zRes
  | 0, _, _ => none
  | n + 1, x3, μ => if (30 : Int32) ≤ x3 then K203 μ else f9_movesAll_L161 kt x2 x3 (fun (μ48 : zMem) => f9_movesAll_L152 kt x2 K203 n (x3 + (1 : Int32)) μ48) zF (0 : Int32) μ
def f9_movesAll (kt : Nat) (x2 : Int32) (μ : zMem) : zRes := zlet (zset μ 0 29 (0 : Int32)) (fun (μ1 : zMem) => bnd0 (f9_moves kt (μ1 0 20) x2 μ1) (fun (v2 : Int32) (μ3 : zMem) => zlet (zset μ3 0 20 v2) (fun (μ4 : zMem) => bnd0 (f9_moves kt (μ4 0 21) x2 μ4) (fun (v5 : Int32) (μ6 : zMem) => zlet (zset μ6 0 21 v5) (fun (μ7 : zMem) => f9_movesAll_L35 kt x2 (fun (μ20 : zMem) => f9_movesAll_L88 kt x2 (fun (μ28 : zMem) => f9_movesAll_L120 kt x2 (fun (μ36 : zMem) => f9_movesAll_L152 kt x2 (fun (μ49 : zMem) => some (0, 0, μ49)) zF (0 : Int32) μ36) zF (0 : Int32) μ28) zF (0 : Int32) μ20) zF (0 : Int32) μ7)))))
set_option maxHeartbeats 1000000 in
theorem t9_movesAll_L44 {kt : Nat} (ht : SM kt = (1, 0, 190, zn) ∧ kt < 1134) (x2 : Int32) (x3 : Int32) (K80 : zMem → zRes) (hK80 : ∀ (μ : zMem), zR yX9_movesAll cX9_movesAll 5 (none) 2 80 [.ref 0, .ref kt, .int x2, .int x3, .null] [] 1134 SM μ (K80 μ)) : ∀ (n : Nat) (x4 : Int32) (μ : zMem), zR yX9_movesAll cX9_movesAll 5 (none) 2 44 [.ref 0, .ref kt, .int x2, .int x3, .int x4] [] 1134 SM μ (f9_movesAll_L44 kt x2 x3 K80 n x4 μ) := by
  intro n
  induction n with
  | zero => intro x4 μ; intro q hq; cases hq
  | succ n ih =>
    intro x4 μ
    unfold f9_movesAll_L44
    refine z_iload (pc := 44) dX9_movesAll_44 rfl ?_
    refine z_iconst (pc := 46) (4 : Int32) dX9_movesAll_46 (by decide) ?_
    refine z_icmp_ge (pc := 47) (tgt := 80) dX9_movesAll_47 (by decide) (fun c10 => ?_) (fun c11 => ?_)
    · refine z_loc (L' := [.ref 0, .ref kt, .int x2, .int x3, .null]) ⟨Or.inr rfl, ⟨Or.inr rfl, ⟨Or.inr rfl, ⟨Or.inr rfl, ⟨Or.inl rfl, trivial⟩⟩⟩⟩⟩ ?_
      exact hK80 μ
    · refine z_aload_n (pc := 50) dX9_movesAll_50 rfl ?_
      refine z_getr (pc := 51) fdX9_52 (by decide) sm_0 rfl rfl dX9_movesAll_51 ?_
      refine z_iload_n (pc := 54) dX9_movesAll_54 rfl ?_
      refine z_aald (pc := 55) (fun j => 51 + j) (by decide) sm_50 (Or.inl rfl) smg_50 dX9_movesAll_55 (fun h12 => ?_)
      refine z_iload (pc := 56) dX9_movesAll_56 rfl ?_
      refine z_aload_n (pc := 58) dX9_movesAll_58 rfl ?_
      refine z_aload_n (pc := 59) dX9_movesAll_59 rfl ?_
      refine z_aload_n (pc := 60) dX9_movesAll_60 rfl ?_
      refine z_getr (pc := 61) fdX9_52 (by decide) sm_0 rfl rfl dX9_movesAll_61 ?_
      refine z_iload_n (pc := 64) dX9_movesAll_64 rfl ?_
      refine z_aald (pc := 65) (fun j => 51 + j) (by decide) sm_50 (Or.inl rfl) smg_50 dX9_movesAll_65 (fun h13 => ?_)
      refine z_iload (pc := 66) dX9_movesAll_66 rfl ?_
      refine z_iald (pc := 68) (smr_50 h13).2 (smr_50 h13).1 rfl dX9_movesAll_68 (fun h14 => ?_)
      refine z_iload_n (pc := 69) dX9_movesAll_69 rfl ?_
      refine z_callV (As := [.ref kt, .int (μ (51 + x3.toNatClampNeg) x4.toNatClampNeg), .int x2]) (pc := 70) (ret' := some .int) kvX9_255 (t9_moves ht _ _ _) (by decide) (by decide) sm_0  rfl rfl (Nat.le_of_ble_eq_true rfl) dX9_movesAll_70 (fun v15 μ16 => ?_)
      refine z_iast (pc := 73) (smr_50 h12).2 (smr_50 h12).1 rfl dX9_movesAll_73 (fun h17 => ?_)
      refine z_mem (fun μ18 => ?_)
      refine z_iinc (pc := 74) (v := x4 + (1 : Int32)) (L' := [.ref 0, .ref kt, .int x2, .int x3, .int (x4 + (1 : Int32))]) dX9_movesAll_74 (by decide) rfl (congrArg _ (by decide)) rfl ?_
      refine z_goto (pc := 77) (tgt := 44) dX9_movesAll_77 (by decide) ?_
      exact ih (x4 + (1 : Int32)) μ18
set_option maxHeartbeats 1000000 in
theorem t9_movesAll_L35 {kt : Nat} (ht : SM kt = (1, 0, 190, zn) ∧ kt < 1134) (x2 : Int32) (K86 : zMem → zRes) (hK86 : ∀ (μ : zMem), zR yX9_movesAll cX9_movesAll 5 (none) 2 86 [.ref 0, .ref kt, .int x2, .null, .null] [] 1134 SM μ (K86 μ)) : ∀ (n : Nat) (x3 : Int32) (μ : zMem), zR yX9_movesAll cX9_movesAll 5 (none) 2 35 [.ref 0, .ref kt, .int x2, .int x3, .null] [] 1134 SM μ (f9_movesAll_L35 kt x2 K86 n x3 μ) := by
  intro n
  induction n with
  | zero => intro x3 μ; intro q hq; cases hq
  | succ n ih =>
    intro x3 μ
    unfold f9_movesAll_L35
    refine z_iload_n (pc := 35) dX9_movesAll_35 rfl ?_
    refine z_bipush (pc := 36) (9 : Int32) dX9_movesAll_36 (by decide) ?_
    refine z_icmp_ge (pc := 38) (tgt := 86) dX9_movesAll_38 (by decide) (fun c8 => ?_) (fun c9 => ?_)
    · refine z_loc (L' := [.ref 0, .ref kt, .int x2, .null, .null]) ⟨Or.inr rfl, ⟨Or.inr rfl, ⟨Or.inr rfl, ⟨Or.inl rfl, ⟨Or.inl rfl, trivial⟩⟩⟩⟩⟩ ?_
      exact hK86 μ
    · refine z_iconst (pc := 41) (0 : Int32) dX9_movesAll_41 (by decide) ?_
      refine z_istore (pc := 42) (L' := [.ref 0, .ref kt, .int x2, .int x3, .int (0 : Int32)]) dX9_movesAll_42 (by decide) rfl ?_
      refine t9_movesAll_L44 ht _ _ _ (fun μ19 => ?_) zF _ _
      · refine z_iinc (pc := 80) (v := x3 + (1 : Int32)) (L' := [.ref 0, .ref kt, .int x2, .int (x3 + (1 : Int32)), .null]) dX9_movesAll_80 (by decide) rfl (congrArg _ (by decide)) rfl ?_
        refine z_goto (pc := 83) (tgt := 35) dX9_movesAll_83 (by decide) ?_
        exact ih (x3 + (1 : Int32)) μ19
set_option maxHeartbeats 1000000 in
theorem t9_movesAll_L88 {kt : Nat} (ht : SM kt = (1, 0, 190, zn) ∧ kt < 1134) (x2 : Int32) (K118 : zMem → zRes) (hK118 : ∀ (μ : zMem), zR yX9_movesAll cX9_movesAll 5 (none) 2 118 [.ref 0, .ref kt, .int x2, .null, .null] [] 1134 SM μ (K118 μ)) : ∀ (n : Nat) (x3 : Int32) (μ : zMem), zR yX9_movesAll cX9_movesAll 5 (none) 2 88 [.ref 0, .ref kt, .int x2, .int x3, .null] [] 1134 SM μ (f9_movesAll_L88 kt x2 K118 n x3 μ) := by
  intro n
  induction n with
  | zero => intro x3 μ; intro q hq; cases hq
  | succ n ih =>
    intro x3 μ
    unfold f9_movesAll_L88
    refine z_iload_n (pc := 88) dX9_movesAll_88 rfl ?_
    refine z_bipush (pc := 89) (9 : Int32) dX9_movesAll_89 (by decide) ?_
    refine z_icmp_ge (pc := 91) (tgt := 118) dX9_movesAll_91 (by decide) (fun c21 => ?_) (fun c22 => ?_)
    · refine z_loc (L' := [.ref 0, .ref kt, .int x2, .null, .null]) ⟨Or.inr rfl, ⟨Or.inr rfl, ⟨Or.inr rfl, ⟨Or.inl rfl, ⟨Or.inl rfl, trivial⟩⟩⟩⟩⟩ ?_
      exact hK118 μ
    · refine z_aload_n (pc := 94) dX9_movesAll_94 rfl ?_
      refine z_getr (pc := 95) fdX9_58 (by decide) sm_0 rfl rfl dX9_movesAll_95 ?_
      refine z_iload_n (pc := 98) dX9_movesAll_98 rfl ?_
      refine z_aload_n (pc := 99) dX9_movesAll_99 rfl ?_
      refine z_aload_n (pc := 100) dX9_movesAll_100 rfl ?_
      refine z_aload_n (pc := 101) dX9_movesAll_101 rfl ?_
      refine z_getr (pc := 102) fdX9_58 (by decide) sm_0 rfl rfl dX9_movesAll_102 ?_
      refine z_iload_n (pc := 105) dX9_movesAll_105 rfl ?_
      refine z_iald (pc := 106) (by decide) sm_91 rfl dX9_movesAll_106 (fun h23 => ?_)
      refine z_iload_n (pc := 107) dX9_movesAll_107 rfl ?_
      refine z_callV (As := [.ref kt, .int (μ 91 x3.toNatClampNeg), .int x2]) (pc := 108) (ret' := some .int) kvX9_255 (t9_moves ht _ _ _) (by decide) (by decide) sm_0  rfl rfl (Nat.le_of_ble_eq_true rfl) dX9_movesAll_108 (fun v24 μ25 => ?_)
      refine z_iast (pc := 111) (by decide) sm_91 rfl dX9_movesAll_111 (fun h26 => ?_)
      refine z_mem (fun μ27 => ?_)
      refine z_iinc (pc := 112) (v := x3 + (1 : Int32)) (L' := [.ref 0, .ref kt, .int x2, .int (x3 + (1 : Int32)), .null]) dX9_movesAll_112 (by decide) rfl (congrArg _ (by decide)) rfl ?_
      refine z_goto (pc := 115) (tgt := 88) dX9_movesAll_115 (by decide) ?_
      exact ih (x3 + (1 : Int32)) μ27
set_option maxHeartbeats 1000000 in
theorem t9_movesAll_L120 {kt : Nat} (ht : SM kt = (1, 0, 190, zn) ∧ kt < 1134) (x2 : Int32) (K150 : zMem → zRes) (hK150 : ∀ (μ : zMem), zR yX9_movesAll cX9_movesAll 5 (none) 2 150 [.ref 0, .ref kt, .int x2, .null, .null] [] 1134 SM μ (K150 μ)) : ∀ (n : Nat) (x3 : Int32) (μ : zMem), zR yX9_movesAll cX9_movesAll 5 (none) 2 120 [.ref 0, .ref kt, .int x2, .int x3, .null] [] 1134 SM μ (f9_movesAll_L120 kt x2 K150 n x3 μ) := by
  intro n
  induction n with
  | zero => intro x3 μ; intro q hq; cases hq
  | succ n ih =>
    intro x3 μ
    unfold f9_movesAll_L120
    refine z_iload_n (pc := 120) dX9_movesAll_120 rfl ?_
    refine z_bipush (pc := 121) (10 : Int32) dX9_movesAll_121 (by decide) ?_
    refine z_icmp_ge (pc := 123) (tgt := 150) dX9_movesAll_123 (by decide) (fun c29 => ?_) (fun c30 => ?_)
    · refine z_loc (L' := [.ref 0, .ref kt, .int x2, .null, .null]) ⟨Or.inr rfl, ⟨Or.inr rfl, ⟨Or.inr rfl, ⟨Or.inl rfl, ⟨Or.inl rfl, trivial⟩⟩⟩⟩⟩ ?_
      exact hK150 μ
    · refine z_aload_n (pc := 126) dX9_movesAll_126 rfl ?_
      refine z_getr (pc := 127) fdX9_61 (by decide) sm_0 rfl rfl dX9_movesAll_127 ?_
      refine z_iload_n (pc := 130) dX9_movesAll_130 rfl ?_
      refine z_aload_n (pc := 131) dX9_movesAll_131 rfl ?_
      refine z_aload_n (pc := 132) dX9_movesAll_132 rfl ?_
      refine z_aload_n (pc := 133) dX9_movesAll_133 rfl ?_
      refine z_getr (pc := 134) fdX9_61 (by decide) sm_0 rfl rfl dX9_movesAll_134 ?_
      refine z_iload_n (pc := 137) dX9_movesAll_137 rfl ?_
      refine z_iald (pc := 138) (by decide) sm_92 rfl dX9_movesAll_138 (fun h31 => ?_)
      refine z_iload_n (pc := 139) dX9_movesAll_139 rfl ?_
      refine z_callV (As := [.ref kt, .int (μ 92 x3.toNatClampNeg), .int x2]) (pc := 140) (ret' := some .int) kvX9_255 (t9_moves ht _ _ _) (by decide) (by decide) sm_0  rfl rfl (Nat.le_of_ble_eq_true rfl) dX9_movesAll_140 (fun v32 μ33 => ?_)
      refine z_iast (pc := 143) (by decide) sm_92 rfl dX9_movesAll_143 (fun h34 => ?_)
      refine z_mem (fun μ35 => ?_)
      refine z_iinc (pc := 144) (v := x3 + (1 : Int32)) (L' := [.ref 0, .ref kt, .int x2, .int (x3 + (1 : Int32)), .null]) dX9_movesAll_144 (by decide) rfl (congrArg _ (by decide)) rfl ?_
      refine z_goto (pc := 147) (tgt := 120) dX9_movesAll_147 (by decide) ?_
      exact ih (x3 + (1 : Int32)) μ35
set_option maxHeartbeats 1000000 in
theorem t9_movesAll_L161 {kt : Nat} (ht : SM kt = (1, 0, 190, zn) ∧ kt < 1134) (x2 : Int32) (x3 : Int32) (K197 : zMem → zRes) (hK197 : ∀ (μ : zMem), zR yX9_movesAll cX9_movesAll 5 (none) 2 197 [.ref 0, .ref kt, .int x2, .int x3, .null] [] 1134 SM μ (K197 μ)) : ∀ (n : Nat) (x4 : Int32) (μ : zMem), zR yX9_movesAll cX9_movesAll 5 (none) 2 161 [.ref 0, .ref kt, .int x2, .int x3, .int x4] [] 1134 SM μ (f9_movesAll_L161 kt x2 x3 K197 n x4 μ) := by
  intro n
  induction n with
  | zero => intro x4 μ; intro q hq; cases hq
  | succ n ih =>
    intro x4 μ
    unfold f9_movesAll_L161
    refine z_iload (pc := 161) dX9_movesAll_161 rfl ?_
    refine z_iconst (pc := 163) (4 : Int32) dX9_movesAll_163 (by decide) ?_
    refine z_icmp_ge (pc := 164) (tgt := 197) dX9_movesAll_164 (by decide) (fun c39 => ?_) (fun c40 => ?_)
    · refine z_loc (L' := [.ref 0, .ref kt, .int x2, .int x3, .null]) ⟨Or.inr rfl, ⟨Or.inr rfl, ⟨Or.inr rfl, ⟨Or.inr rfl, ⟨Or.inl rfl, trivial⟩⟩⟩⟩⟩ ?_
      exact hK197 μ
    · refine z_aload_n (pc := 167) dX9_movesAll_167 rfl ?_
      refine z_getr (pc := 168) fdX9_55 (by decide) sm_0 rfl rfl dX9_movesAll_168 ?_
      refine z_iload_n (pc := 171) dX9_movesAll_171 rfl ?_
      refine z_aald (pc := 172) (fun j => 61 + j) (by decide) sm_60 (Or.inl rfl) smg_60 dX9_movesAll_172 (fun h41 => ?_)
      refine z_iload (pc := 173) dX9_movesAll_173 rfl ?_
      refine z_aload_n (pc := 175) dX9_movesAll_175 rfl ?_
      refine z_aload_n (pc := 176) dX9_movesAll_176 rfl ?_
      refine z_aload_n (pc := 177) dX9_movesAll_177 rfl ?_
      refine z_getr (pc := 178) fdX9_55 (by decide) sm_0 rfl rfl dX9_movesAll_178 ?_
      refine z_iload_n (pc := 181) dX9_movesAll_181 rfl ?_
      refine z_aald (pc := 182) (fun j => 61 + j) (by decide) sm_60 (Or.inl rfl) smg_60 dX9_movesAll_182 (fun h42 => ?_)
      refine z_iload (pc := 183) dX9_movesAll_183 rfl ?_
      refine z_iald (pc := 185) (smr_60 h42).2 (smr_60 h42).1 rfl dX9_movesAll_185 (fun h43 => ?_)
      refine z_iload_n (pc := 186) dX9_movesAll_186 rfl ?_
      refine z_callV (As := [.ref kt, .int (μ (61 + x3.toNatClampNeg) x4.toNatClampNeg), .int x2]) (pc := 187) (ret' := some .int) kvX9_255 (t9_moves ht _ _ _) (by decide) (by decide) sm_0  rfl rfl (Nat.le_of_ble_eq_true rfl) dX9_movesAll_187 (fun v44 μ45 => ?_)
      refine z_iast (pc := 190) (smr_60 h41).2 (smr_60 h41).1 rfl dX9_movesAll_190 (fun h46 => ?_)
      refine z_mem (fun μ47 => ?_)
      refine z_iinc (pc := 191) (v := x4 + (1 : Int32)) (L' := [.ref 0, .ref kt, .int x2, .int x3, .int (x4 + (1 : Int32))]) dX9_movesAll_191 (by decide) rfl (congrArg _ (by decide)) rfl ?_
      refine z_goto (pc := 194) (tgt := 161) dX9_movesAll_194 (by decide) ?_
      exact ih (x4 + (1 : Int32)) μ47
set_option maxHeartbeats 1000000 in
theorem t9_movesAll_L152 {kt : Nat} (ht : SM kt = (1, 0, 190, zn) ∧ kt < 1134) (x2 : Int32) (K203 : zMem → zRes) (hK203 : ∀ (μ : zMem), zR yX9_movesAll cX9_movesAll 5 (none) 2 203 [.null, .null, .null, .null, .null] [] 1134 SM μ (K203 μ)) : ∀ (n : Nat) (x3 : Int32) (μ : zMem), zR yX9_movesAll cX9_movesAll 5 (none) 2 152 [.ref 0, .ref kt, .int x2, .int x3, .null] [] 1134 SM μ (f9_movesAll_L152 kt x2 K203 n x3 μ) := by
  intro n
  induction n with
  | zero => intro x3 μ; intro q hq; cases hq
  | succ n ih =>
    intro x3 μ
    unfold f9_movesAll_L152
    refine z_iload_n (pc := 152) dX9_movesAll_152 rfl ?_
    refine z_bipush (pc := 153) (30 : Int32) dX9_movesAll_153 (by decide) ?_
    refine z_icmp_ge (pc := 155) (tgt := 203) dX9_movesAll_155 (by decide) (fun c37 => ?_) (fun c38 => ?_)
    · refine z_loc (L' := [.null, .null, .null, .null, .null]) ⟨Or.inl rfl, ⟨Or.inl rfl, ⟨Or.inl rfl, ⟨Or.inl rfl, ⟨Or.inl rfl, trivial⟩⟩⟩⟩⟩ ?_
      exact hK203 μ
    · refine z_iconst (pc := 158) (0 : Int32) dX9_movesAll_158 (by decide) ?_
      refine z_istore (pc := 159) (L' := [.ref 0, .ref kt, .int x2, .int x3, .int (0 : Int32)]) dX9_movesAll_159 (by decide) rfl ?_
      refine t9_movesAll_L161 ht _ _ _ (fun μ48 => ?_) zF _ _
      · refine z_iinc (pc := 197) (v := x3 + (1 : Int32)) (L' := [.ref 0, .ref kt, .int x2, .int (x3 + (1 : Int32)), .null]) dX9_movesAll_197 (by decide) rfl (congrArg _ (by decide)) rfl ?_
        refine z_goto (pc := 200) (tgt := 152) dX9_movesAll_200 (by decide) ?_
        exact ih (x3 + (1 : Int32)) μ48
set_option maxHeartbeats 1000000 in
theorem t9_movesAll {kt : Nat} (ht : SM kt = (1, 0, 190, zn) ∧ kt < 1134) (x2 : Int32) (μ : zMem) : zMR yX9_movesAll cX9_movesAll 5 (none) 2 [.ref 0, .ref kt, .int x2] 1134 SM μ (f9_movesAll kt x2 μ) := by
  refine zMR_of (by decide +kernel) rfl (Nat.le_of_ble_eq_true rfl) (L := [.ref 0, .ref kt, .int x2, .null, .null]) rfl ?_
  unfold f9_movesAll
  refine z_aload_n (pc := 0) dX9_movesAll_0 rfl ?_
  refine z_iconst (pc := 1) (0 : Int32) dX9_movesAll_1 (by decide) ?_
  refine z_puti (pc := 2) fdX9_252 (by decide) sm_0 rfl rfl dX9_movesAll_2 ?_
  refine z_mem (fun μ1 => ?_)
  refine z_aload_n (pc := 5) dX9_movesAll_5 rfl ?_
  refine z_aload_n (pc := 6) dX9_movesAll_6 rfl ?_
  refine z_aload_n (pc := 7) dX9_movesAll_7 rfl ?_
  refine z_aload_n (pc := 8) dX9_movesAll_8 rfl ?_
  refine z_geti (pc := 9) fdX9_198 (by decide) sm_0 rfl dX9_movesAll_9 ?_
  refine z_iload_n (pc := 12) dX9_movesAll_12 rfl ?_
  refine z_callV (As := [.ref kt, .int (μ1 0 20), .int x2]) (pc := 13) (ret' := some .int) kvX9_255 (t9_moves ht _ _ _) (by decide) (by decide) sm_0  rfl rfl (Nat.le_of_ble_eq_true rfl) dX9_movesAll_13 (fun v2 μ3 => ?_)
  refine z_puti (pc := 16) fdX9_198 (by decide) sm_0 rfl rfl dX9_movesAll_16 ?_
  refine z_mem (fun μ4 => ?_)
  refine z_aload_n (pc := 19) dX9_movesAll_19 rfl ?_
  refine z_aload_n (pc := 20) dX9_movesAll_20 rfl ?_
  refine z_aload_n (pc := 21) dX9_movesAll_21 rfl ?_
  refine z_aload_n (pc := 22) dX9_movesAll_22 rfl ?_
  refine z_geti (pc := 23) fdX9_201 (by decide) sm_0 rfl dX9_movesAll_23 ?_
  refine z_iload_n (pc := 26) dX9_movesAll_26 rfl ?_
  refine z_callV (As := [.ref kt, .int (μ4 0 21), .int x2]) (pc := 27) (ret' := some .int) kvX9_255 (t9_moves ht _ _ _) (by decide) (by decide) sm_0  rfl rfl (Nat.le_of_ble_eq_true rfl) dX9_movesAll_27 (fun v5 μ6 => ?_)
  refine z_puti (pc := 30) fdX9_201 (by decide) sm_0 rfl rfl dX9_movesAll_30 ?_
  refine z_mem (fun μ7 => ?_)
  refine z_iconst (pc := 33) (0 : Int32) dX9_movesAll_33 (by decide) ?_
  refine z_istore_n (pc := 34) (L' := [.ref 0, .ref kt, .int x2, .int (0 : Int32), .null]) dX9_movesAll_34 (by decide) rfl ?_
  refine t9_movesAll_L35 ht _ _ (fun μ20 => ?_) zF _ _
  · refine z_iconst (pc := 86) (0 : Int32) dX9_movesAll_86 (by decide) ?_
    refine z_istore_n (pc := 87) (L' := [.ref 0, .ref kt, .int x2, .int (0 : Int32), .null]) dX9_movesAll_87 (by decide) rfl ?_
    refine t9_movesAll_L88 ht _ _ (fun μ28 => ?_) zF _ _
    · refine z_iconst (pc := 118) (0 : Int32) dX9_movesAll_118 (by decide) ?_
      refine z_istore_n (pc := 119) (L' := [.ref 0, .ref kt, .int x2, .int (0 : Int32), .null]) dX9_movesAll_119 (by decide) rfl ?_
      refine t9_movesAll_L120 ht _ _ (fun μ36 => ?_) zF _ _
      · refine z_iconst (pc := 150) (0 : Int32) dX9_movesAll_150 (by decide) ?_
        refine z_istore_n (pc := 151) (L' := [.ref 0, .ref kt, .int x2, .int (0 : Int32), .null]) dX9_movesAll_151 (by decide) rfl ?_
        refine t9_movesAll_L152 ht _ _ (fun μ49 => ?_) zF _ _
        · exact z_vret (pc := 203) rfl dX9_movesAll_203
def f9_lays (x1 : Int32) (x2 : Int32) (μ : zMem) : zRes := zin x1 2 (bnd0 (f9_movesAll (98 + x1.toNatClampNeg) x2 μ) (fun (v2 : Int32) (μ3 : zMem) => some (0, 0, μ3)))
set_option maxHeartbeats 1000000 in
theorem t9_lays (x1 : Int32) (x2 : Int32) (μ : zMem) : zMR yX9_lays cX9_lays 3 (none) 3 [.ref 0, .int x1, .int x2] 1134 SM μ (f9_lays x1 x2 μ) := by
  refine zMR_of (by decide +kernel) rfl (Nat.le_of_ble_eq_true rfl) (L := [.ref 0, .int x1, .int x2]) rfl ?_
  unfold f9_lays
  refine z_aload_n (pc := 0) dX9_lays_0 rfl ?_
  refine z_aload_n (pc := 1) dX9_lays_1 rfl ?_
  refine z_getr (pc := 2) fdX9_67 (by decide) sm_0 rfl rfl dX9_lays_2 ?_
  refine z_iload_n (pc := 5) dX9_lays_5 rfl ?_
  refine z_aald (pc := 6) (fun j => 98 + j) (by decide) sm_97 (Or.inl rfl) smg_97 dX9_lays_6 (fun h1 => ?_)
  refine z_iload_n (pc := 7) dX9_lays_7 rfl ?_
  refine z_callV (As := [.ref (98 + x1.toNatClampNeg), .int x2]) (pc := 8) (ret' := none) kvX9_259 (t9_movesAll (smr_97 h1) _ _) (by decide) (by decide) sm_0  rfl rfl (Nat.le_of_ble_eq_true rfl) dX9_lays_8 (fun v2 μ3 => ?_)
  exact z_vret (pc := 11) rfl dX9_lays_11
def f9_judge_L42 (K192 : Int32 → Int32 → zMem → zRes) : Nat → Int32 → Int32 → Int32 → zMem → zRes
  | 0, _, _, _, _ => none
  | n + 1, x2, x3, x4, μ => if (μ 0 21) ≤ x4 then K192 x2 x3 μ else zin x4 30 (zin (0 : Int32) 4 (zlet (fun (s15 : Int32) => zin (0 : Int32) 4 (zlet (fun (μ17 : zMem) => zlet (fun (s18 : Int32) (μ19 : zMem) => zlet (fun (x2_20 : Int32) (x3_21 : Int32) (μ22 : zMem) => f9_judge_L42 K192 n x2_20 x3_21 (x4 + (1 : Int32)) μ22) (fun j23 => if s18 ≤ 0 then zin (1 : Int32) 4 (zin (2 : Int32) 4 (zin (3 : Int32) 4 (bnd0 (f9_works (μ19 (61 + x4.toNatClampNeg) (1 : Int32).toNatClampNeg) (μ19 (61 + x4.toNatClampNeg) (2 : Int32).toNatClampNeg) (μ19 (61 + x4.toNatClampNeg) (3 : Int32).toNatClampNeg) μ19) (fun (v29 : Int32) (μ30 : zMem) => zin (1 : Int32) 4 (zin (μ30 (61 + x4.toNatClampNeg) (1 : Int32).toNatClampNeg) 10 (zin (0 : Int32) 4 (zlet (x3 + (μ30 (36 + (μ30 (61 + x4.toNatClampNeg) (1 : Int32).toNatClampNeg).toNatClampNeg) (0 : Int32).toNatClampNeg)) (fun (v34 : Int32) => j23 x2 v34 μ30)))))))) else zlet (fun (s35 : Int32) => j23 s35 x3 μ19) (fun j36 => if x2 = (-1 : Int32) then j36 (((10 : Int32) * x4) + s18) else j36 x2))) (fun j39 => if s15 = 0 then zin (1 : Int32) 4 (zin (2 : Int32) 4 (zin (3 : Int32) 4 (bnd0 (f9_errs (μ17 (61 + x4.toNatClampNeg) (1 : Int32).toNatClampNeg) (μ17 (61 + x4.toNatClampNeg) (2 : Int32).toNatClampNeg) (μ17 (61 + x4.toNatClampNeg) (3 : Int32).toNatClampNeg) μ17) (fun (v45 : Int32) (μ46 : zMem) => j39 v45 μ46)))) else j39 s15 μ17)) (fun j47 => if (μ (61 + x4.toNatClampNeg) (0 : Int32).toNatClampNeg) ≤ (μ 0 20) then j47 μ else zin (0 : Int32) 4 (zlet (zset μ 0 20 (μ (61 + x4.toNatClampNeg) (0 : Int32).toNatClampNeg)) (fun (μ51 : zMem) => bnd0 (f9_dawns μ51) (fun (v52 : Int32) (μ53 : zMem) => j47 μ53)))))) (fun j54 => if (μ 0 20) ≤ (μ (61 + x4.toNatClampNeg) (0 : Int32).toNatClampNeg) then j54 (0 : Int32) else j54 (6 : Int32))))
def f9_judge (x1 : Int32) (μ : zMem) : zRes := zlet (zset μ 0 0 (0 : Int32)) (fun (μ1 : zMem) => bnd0 (f9_in x1 (0 : Int32) (1 : Int32) μ1) (fun (v2 : Int32) (μ3 : zMem) => zlet (fun (s4 : Int32) => bnd0 (f9_bad s4 (1 : Int32) μ3) (fun (v5 : Int32) (μ6 : zMem) => if v5 = 0 then bnd0 (f9_lays (0 : Int32) (0 : Int32) μ6) (fun (v9 : Int32) (μ10 : zMem) => f9_judge_L42 (fun (x2_57 : Int32) (x3_58 : Int32) (μ59 : zMem) => bnd0 (f9_lays (0 : Int32) (1 : Int32) μ59) (fun (v60 : Int32) (μ61 : zMem) => zlet (fun (s62 : Int32) => some (0, s62, μ61)) (fun j63 => if x1 = 0 then j63 x2_57 else j63 x3_58))) zF (-1 : Int32) (0 : Int32) (0 : Int32) μ10) else some (0, (0 : Int32), μ6))) (fun j66 => if v2 = 0 then j66 (1 : Int32) else j66 (0 : Int32))))
set_option maxHeartbeats 1000000 in
theorem t9_judge_L42 (x1 : Int32) (K192 : Int32 → Int32 → zMem → zRes) (hK192 : ∀ (x2 : Int32) (x3 : Int32) (μ : zMem), zR yX9_judge cX9_judge 7 (some .int) 4 192 [.ref 0, .int x1, .int x2, .int x3, .null, .null, .null] [] 1134 SM μ (K192 x2 x3 μ)) : ∀ (n : Nat) (x2 : Int32) (x3 : Int32) (x4 : Int32) (μ : zMem), zR yX9_judge cX9_judge 7 (some .int) 4 42 [.ref 0, .int x1, .int x2, .int x3, .int x4, .null, .null] [] 1134 SM μ (f9_judge_L42 K192 n x2 x3 x4 μ) := by
  intro n
  induction n with
  | zero => intro x2 x3 x4 μ; intro q hq; cases hq
  | succ n ih =>
    intro x2 x3 x4 μ
    unfold f9_judge_L42
    refine z_iload (pc := 42) dX9_judge_42 rfl ?_
    refine z_aload_n (pc := 44) dX9_judge_44 rfl ?_
    refine z_geti (pc := 45) fdX9_201 (by decide) sm_0 rfl dX9_judge_45 ?_
    refine z_icmp_ge (pc := 48) (tgt := 192) dX9_judge_48 (by decide) (fun c11 => ?_) (fun c12 => ?_)
    · refine z_loc (L' := [.ref 0, .int x1, .int x2, .int x3, .null, .null, .null]) ⟨Or.inr rfl, ⟨Or.inr rfl, ⟨Or.inr rfl, ⟨Or.inr rfl, ⟨Or.inl rfl, ⟨Or.inl rfl, ⟨Or.inl rfl, trivial⟩⟩⟩⟩⟩⟩⟩ ?_
      exact hK192 x2 x3 μ
    · refine z_aload_n (pc := 51) dX9_judge_51 rfl ?_
      refine z_getr (pc := 52) fdX9_55 (by decide) sm_0 rfl rfl dX9_judge_52 ?_
      refine z_iload (pc := 55) dX9_judge_55 rfl ?_
      refine z_aald (pc := 57) (fun j => 61 + j) (by decide) sm_60 (Or.inl rfl) smg_60 dX9_judge_57 (fun h13 => ?_)
      refine z_astore (pc := 58) (L' := [.ref 0, .int x1, .int x2, .int x3, .int x4, .ref (61 + x4.toNatClampNeg), .null]) dX9_judge_58 (by decide) rfl ?_
      refine z_aload (pc := 60) dX9_judge_60 rfl ?_
      refine z_iconst (pc := 62) (0 : Int32) dX9_judge_62 (by decide) ?_
      refine z_iald (pc := 63) (smr_60 h13).2 (smr_60 h13).1 rfl dX9_judge_63 (fun h14 => ?_)
      refine z_aload_n (pc := 64) dX9_judge_64 rfl ?_
      refine z_geti (pc := 65) fdX9_198 (by decide) sm_0 rfl dX9_judge_65 ?_
      refine z_let (fun (j : Int32 → zRes) => ∀ (s15 : Int32), zR yX9_judge cX9_judge 7 (some .int) 4 77 [.ref 0, .int x1, .int x2, .int x3, .int x4, .ref (61 + x4.toNatClampNeg), .null] [.int s15] 1134 SM μ (j s15)) ?_ (fun j54 hj54 => ?_)
      · intro s15
        refine z_istore (pc := 77) (L' := [.ref 0, .int x1, .int x2, .int x3, .int x4, .ref (61 + x4.toNatClampNeg), .int s15]) dX9_judge_77 (by decide) rfl ?_
        refine z_aload (pc := 79) dX9_judge_79 rfl ?_
        refine z_iconst (pc := 81) (0 : Int32) dX9_judge_81 (by decide) ?_
        refine z_iald (pc := 82) (smr_60 h13).2 (smr_60 h13).1 rfl dX9_judge_82 (fun h16 => ?_)
        refine z_aload_n (pc := 83) dX9_judge_83 rfl ?_
        refine z_geti (pc := 84) fdX9_198 (by decide) sm_0 rfl dX9_judge_84 ?_
        refine z_let (fun (j : zMem → zRes) => ∀ (μ17 : zMem), zR yX9_judge cX9_judge 7 (some .int) 4 102 [.ref 0, .int x1, .int x2, .int x3, .int x4, .ref (61 + x4.toNatClampNeg), .int s15] [] 1134 SM μ17 (j μ17)) ?_ (fun j47 hj47 => ?_)
        · intro μ17
          refine z_iload (pc := 102) dX9_judge_102 rfl ?_
          refine z_let (fun (j : Int32 → zMem → zRes) => ∀ (s18 : Int32) (μ19 : zMem), zR yX9_judge cX9_judge 7 (some .int) 4 128 [.ref 0, .int x1, .int x2, .int x3, .int x4, .ref (61 + x4.toNatClampNeg), .null] [.int s18] 1134 SM μ19 (j s18 μ19)) ?_ (fun j39 hj39 => ?_)
          · intro s18 μ19
            refine z_istore (pc := 128) (L' := [.ref 0, .int x1, .int x2, .int x3, .int x4, .ref (61 + x4.toNatClampNeg), .int s18]) dX9_judge_128 (by decide) rfl ?_
            refine z_iload (pc := 130) dX9_judge_130 rfl ?_
            refine z_let (fun (j : Int32 → Int32 → zMem → zRes) => ∀ (x2_20 : Int32) (x3_21 : Int32) (μ22 : zMem), zR yX9_judge cX9_judge 7 (some .int) 4 186 [.ref 0, .int x1, .int x2_20, .int x3_21, .int x4, .null, .null] [] 1134 SM μ22 (j x2_20 x3_21 μ22)) ?_ (fun j23 hj23 => ?_)
            · intro x2_20 x3_21 μ22
              refine z_iinc (pc := 186) (v := x4 + (1 : Int32)) (L' := [.ref 0, .int x1, .int x2_20, .int x3_21, .int (x4 + (1 : Int32)), .null, .null]) dX9_judge_186 (by decide) rfl (congrArg _ (by decide)) rfl ?_
              refine z_goto (pc := 189) (tgt := 42) dX9_judge_189 (by decide) ?_
              exact ih x2_20 x3_21 (x4 + (1 : Int32)) μ22
            · refine z_if_le (pc := 132) (tgt := 156) dX9_judge_132 (by decide) (fun c24 => ?_) (fun c25 => ?_)
              · refine z_aload_n (pc := 156) dX9_judge_156 rfl ?_
                refine z_aload (pc := 157) dX9_judge_157 rfl ?_
                refine z_iconst (pc := 159) (1 : Int32) dX9_judge_159 (by decide) ?_
                refine z_iald (pc := 160) (smr_60 h13).2 (smr_60 h13).1 rfl dX9_judge_160 (fun h26 => ?_)
                refine z_aload (pc := 161) dX9_judge_161 rfl ?_
                refine z_iconst (pc := 163) (2 : Int32) dX9_judge_163 (by decide) ?_
                refine z_iald (pc := 164) (smr_60 h13).2 (smr_60 h13).1 rfl dX9_judge_164 (fun h27 => ?_)
                refine z_aload (pc := 165) dX9_judge_165 rfl ?_
                refine z_iconst (pc := 167) (3 : Int32) dX9_judge_167 (by decide) ?_
                refine z_iald (pc := 168) (smr_60 h13).2 (smr_60 h13).1 rfl dX9_judge_168 (fun h28 => ?_)
                refine z_callV (As := [.int (μ19 (61 + x4.toNatClampNeg) (1 : Int32).toNatClampNeg), .int (μ19 (61 + x4.toNatClampNeg) (2 : Int32).toNatClampNeg), .int (μ19 (61 + x4.toNatClampNeg) (3 : Int32).toNatClampNeg)]) (pc := 169) (ret' := none) kvX9_242 (t9_works _ _ _ _) (by decide) (by decide) sm_0  rfl rfl (Nat.le_of_ble_eq_true rfl) dX9_judge_169 (fun v29 μ30 => ?_)
                refine z_iload_n (pc := 172) dX9_judge_172 rfl ?_
                refine z_aload_n (pc := 173) dX9_judge_173 rfl ?_
                refine z_getr (pc := 174) fdX9_37 (by decide) sm_0 rfl rfl dX9_judge_174 ?_
                refine z_aload (pc := 177) dX9_judge_177 rfl ?_
                refine z_iconst (pc := 179) (1 : Int32) dX9_judge_179 (by decide) ?_
                refine z_iald (pc := 180) (smr_60 h13).2 (smr_60 h13).1 rfl dX9_judge_180 (fun h31 => ?_)
                refine z_aald (pc := 181) (fun j => 36 + j) (by decide) sm_35 (Or.inl rfl) smg_35 dX9_judge_181 (fun h32 => ?_)
                refine z_iconst (pc := 182) (0 : Int32) dX9_judge_182 (by decide) ?_
                refine z_iald (pc := 183) (smr_35 h32).2 (smr_35 h32).1 rfl dX9_judge_183 (fun h33 => ?_)
                refine z_iadd (pc := 184) dX9_judge_184 ?_
                refine z_val (fun v34 => ?_)
                refine z_istore_n (pc := 185) (L' := [.ref 0, .int x1, .int x2, .int v34, .int x4, .ref (61 + x4.toNatClampNeg), .int s18]) dX9_judge_185 (by decide) rfl ?_
                refine z_loc (L' := [.ref 0, .int x1, .int x2, .int v34, .int x4, .null, .null]) ⟨Or.inr rfl, ⟨Or.inr rfl, ⟨Or.inr rfl, ⟨Or.inr rfl, ⟨Or.inr rfl, ⟨Or.inl rfl, ⟨Or.inl rfl, trivial⟩⟩⟩⟩⟩⟩⟩ ?_
                exact hj23 x2 v34 μ30
              · refine z_iload_n (pc := 135) dX9_judge_135 rfl ?_
                refine z_iconst (pc := 136) (-1 : Int32) dX9_judge_136 (by decide) ?_
                refine z_let (fun (j : Int32 → zRes) => ∀ (s35 : Int32), zR yX9_judge cX9_judge 7 (some .int) 4 152 [.ref 0, .int x1, .null, .int x3, .int x4, .null, .null] [.int s35] 1134 SM μ19 (j s35)) ?_ (fun j36 hj36 => ?_)
                · intro s35
                  refine z_istore_n (pc := 152) (L' := [.ref 0, .int x1, .int s35, .int x3, .int x4, .null, .null]) dX9_judge_152 (by decide) rfl ?_
                  refine z_goto (pc := 153) (tgt := 186) dX9_judge_153 (by decide) ?_
                  exact hj23 s35 x3 μ19
                · refine z_icmp_ne (pc := 137) (tgt := 151) dX9_judge_137 (by decide) (fun c37 => ?_) (fun c38 => ?_)
                  · refine z_iload_n (pc := 151) dX9_judge_151 rfl ?_
                    refine z_loc (L' := [.ref 0, .int x1, .null, .int x3, .int x4, .null, .null]) ⟨Or.inr rfl, ⟨Or.inr rfl, ⟨Or.inl rfl, ⟨Or.inr rfl, ⟨Or.inr rfl, ⟨Or.inl rfl, ⟨Or.inl rfl, trivial⟩⟩⟩⟩⟩⟩⟩ ?_
                    exact hj36 x2
                  · refine z_bipush (pc := 140) (10 : Int32) dX9_judge_140 (by decide) ?_
                    refine z_iload (pc := 142) dX9_judge_142 rfl ?_
                    refine z_imul (pc := 144) dX9_judge_144 ?_
                    refine z_iload (pc := 145) dX9_judge_145 rfl ?_
                    refine z_iadd (pc := 147) dX9_judge_147 ?_
                    refine z_goto (pc := 148) (tgt := 152) dX9_judge_148 (by decide) ?_
                    refine z_loc (L' := [.ref 0, .int x1, .null, .int x3, .int x4, .null, .null]) ⟨Or.inr rfl, ⟨Or.inr rfl, ⟨Or.inl rfl, ⟨Or.inr rfl, ⟨Or.inr rfl, ⟨Or.inl rfl, ⟨Or.inl rfl, trivial⟩⟩⟩⟩⟩⟩⟩ ?_
                    exact hj36 (((10 : Int32) * x4) + s18)
          · refine z_if_ne (pc := 104) (tgt := 126) dX9_judge_104 (by decide) (fun c40 => ?_) (fun c41 => ?_)
            · refine z_iload (pc := 126) dX9_judge_126 rfl ?_
              refine z_loc (L' := [.ref 0, .int x1, .int x2, .int x3, .int x4, .ref (61 + x4.toNatClampNeg), .null]) ⟨Or.inr rfl, ⟨Or.inr rfl, ⟨Or.inr rfl, ⟨Or.inr rfl, ⟨Or.inr rfl, ⟨Or.inr rfl, ⟨Or.inl rfl, trivial⟩⟩⟩⟩⟩⟩⟩ ?_
              exact hj39 s15 μ17
            · refine z_aload_n (pc := 107) dX9_judge_107 rfl ?_
              refine z_aload (pc := 108) dX9_judge_108 rfl ?_
              refine z_iconst (pc := 110) (1 : Int32) dX9_judge_110 (by decide) ?_
              refine z_iald (pc := 111) (smr_60 h13).2 (smr_60 h13).1 rfl dX9_judge_111 (fun h42 => ?_)
              refine z_aload (pc := 112) dX9_judge_112 rfl ?_
              refine z_iconst (pc := 114) (2 : Int32) dX9_judge_114 (by decide) ?_
              refine z_iald (pc := 115) (smr_60 h13).2 (smr_60 h13).1 rfl dX9_judge_115 (fun h43 => ?_)
              refine z_aload (pc := 116) dX9_judge_116 rfl ?_
              refine z_iconst (pc := 118) (3 : Int32) dX9_judge_118 (by decide) ?_
              refine z_iald (pc := 119) (smr_60 h13).2 (smr_60 h13).1 rfl dX9_judge_119 (fun h44 => ?_)
              refine z_callV (As := [.int (μ17 (61 + x4.toNatClampNeg) (1 : Int32).toNatClampNeg), .int (μ17 (61 + x4.toNatClampNeg) (2 : Int32).toNatClampNeg), .int (μ17 (61 + x4.toNatClampNeg) (3 : Int32).toNatClampNeg)]) (pc := 120) (ret' := some .int) kvX9_239 (t9_errs _ _ _ _) (by decide) (by decide) sm_0  rfl rfl (Nat.le_of_ble_eq_true rfl) dX9_judge_120 (fun v45 μ46 => ?_)
              refine z_goto (pc := 123) (tgt := 128) dX9_judge_123 (by decide) ?_
              refine z_loc (L' := [.ref 0, .int x1, .int x2, .int x3, .int x4, .ref (61 + x4.toNatClampNeg), .null]) ⟨Or.inr rfl, ⟨Or.inr rfl, ⟨Or.inr rfl, ⟨Or.inr rfl, ⟨Or.inr rfl, ⟨Or.inr rfl, ⟨Or.inl rfl, trivial⟩⟩⟩⟩⟩⟩⟩ ?_
              exact hj39 v45 μ46
        · refine z_icmp_le (pc := 87) (tgt := 102) dX9_judge_87 (by decide) (fun c48 => ?_) (fun c49 => ?_)
          · exact hj47 μ
          · refine z_aload_n (pc := 90) dX9_judge_90 rfl ?_
            refine z_aload (pc := 91) dX9_judge_91 rfl ?_
            refine z_iconst (pc := 93) (0 : Int32) dX9_judge_93 (by decide) ?_
            refine z_iald (pc := 94) (smr_60 h13).2 (smr_60 h13).1 rfl dX9_judge_94 (fun h50 => ?_)
            refine z_puti (pc := 95) fdX9_198 (by decide) sm_0 rfl rfl dX9_judge_95 ?_
            refine z_mem (fun μ51 => ?_)
            refine z_aload_n (pc := 98) dX9_judge_98 rfl ?_
            refine z_callV (As := []) (pc := 99) (ret' := none) kvX9_207 (t9_dawns _) (by decide) (by decide) sm_0  rfl rfl (Nat.le_of_ble_eq_true rfl) dX9_judge_99 (fun v52 μ53 => ?_)
            exact hj47 μ53
      · refine z_icmp_ge (pc := 68) (tgt := 76) dX9_judge_68 (by decide) (fun c55 => ?_) (fun c56 => ?_)
        · refine z_iconst (pc := 76) (0 : Int32) dX9_judge_76 (by decide) ?_
          exact hj54 (0 : Int32)
        · refine z_bipush (pc := 71) (6 : Int32) dX9_judge_71 (by decide) ?_
          refine z_goto (pc := 73) (tgt := 77) dX9_judge_73 (by decide) ?_
          exact hj54 (6 : Int32)
set_option maxHeartbeats 1000000 in
theorem t9_judge (x1 : Int32) (μ : zMem) : zMR yX9_judge cX9_judge 7 (some .int) 4 [.ref 0, .int x1] 1134 SM μ (f9_judge x1 μ) := by
  refine zMR_of (by decide +kernel) rfl (Nat.le_of_ble_eq_true rfl) (L := [.ref 0, .int x1, .null, .null, .null, .null, .null]) rfl ?_
  unfold f9_judge
  refine z_aload_n (pc := 0) dX9_judge_0 rfl ?_
  refine z_iconst (pc := 1) (0 : Int32) dX9_judge_1 (by decide) ?_
  refine z_puti (pc := 2) fdX9_106 (by decide) sm_0 rfl rfl dX9_judge_2 ?_
  refine z_mem (fun μ1 => ?_)
  refine z_aload_n (pc := 5) dX9_judge_5 rfl ?_
  refine z_iload_n (pc := 6) dX9_judge_6 rfl ?_
  refine z_iconst (pc := 7) (0 : Int32) dX9_judge_7 (by decide) ?_
  refine z_iconst (pc := 8) (1 : Int32) dX9_judge_8 (by decide) ?_
  refine z_callS (As := [.int x1, .int (0 : Int32), .int (1 : Int32)]) (pc := 9) (ret' := some .boolean) ksX9_140 (t9_in _ _ _ _) (by decide)  rfl rfl (Nat.le_of_ble_eq_true rfl) dX9_judge_9 (fun v2 μ3 => ?_)
  refine z_let (fun (j : Int32 → zRes) => ∀ (s4 : Int32), zR yX9_judge cX9_judge 7 (some .int) 4 20 [.ref 0, .int x1, .null, .null, .null, .null, .null] [.int s4, .ref 0] 1134 SM μ3 (j s4)) ?_ (fun j66 hj66 => ?_)
  · intro s4
    refine z_iconst (pc := 20) (1 : Int32) dX9_judge_20 (by decide) ?_
    refine z_callV (As := [.int s4, .int (1 : Int32)]) (pc := 21) (ret' := some .boolean) kvX9_188 (t9_bad _ _ _) (by decide) (by decide) sm_0  rfl rfl (Nat.le_of_ble_eq_true rfl) dX9_judge_21 (fun v5 μ6 => ?_)
    refine z_if_eq (pc := 24) (tgt := 29) dX9_judge_24 (by decide) (fun c7 => ?_) (fun c8 => ?_)
    · refine z_iconst (pc := 29) (-1 : Int32) dX9_judge_29 (by decide) ?_
      refine z_istore_n (pc := 30) (L' := [.ref 0, .int x1, .int (-1 : Int32), .null, .null, .null, .null]) dX9_judge_30 (by decide) rfl ?_
      refine z_iconst (pc := 31) (0 : Int32) dX9_judge_31 (by decide) ?_
      refine z_istore_n (pc := 32) (L' := [.ref 0, .int x1, .int (-1 : Int32), .int (0 : Int32), .null, .null, .null]) dX9_judge_32 (by decide) rfl ?_
      refine z_aload_n (pc := 33) dX9_judge_33 rfl ?_
      refine z_iconst (pc := 34) (0 : Int32) dX9_judge_34 (by decide) ?_
      refine z_iconst (pc := 35) (0 : Int32) dX9_judge_35 (by decide) ?_
      refine z_callV (As := [.int (0 : Int32), .int (0 : Int32)]) (pc := 36) (ret' := none) kvX9_248 (t9_lays _ _ _) (by decide) (by decide) sm_0  rfl rfl (Nat.le_of_ble_eq_true rfl) dX9_judge_36 (fun v9 μ10 => ?_)
      refine z_iconst (pc := 39) (0 : Int32) dX9_judge_39 (by decide) ?_
      refine z_istore (pc := 40) (L' := [.ref 0, .int x1, .int (-1 : Int32), .int (0 : Int32), .int (0 : Int32), .null, .null]) dX9_judge_40 (by decide) rfl ?_
      refine t9_judge_L42 _ _ (fun x2_57 x3_58 μ59 => ?_) zF _ _ _ _
      · refine z_aload_n (pc := 192) dX9_judge_192 rfl ?_
        refine z_iconst (pc := 193) (0 : Int32) dX9_judge_193 (by decide) ?_
        refine z_iconst (pc := 194) (1 : Int32) dX9_judge_194 (by decide) ?_
        refine z_callV (As := [.int (0 : Int32), .int (1 : Int32)]) (pc := 195) (ret' := none) kvX9_248 (t9_lays _ _ _) (by decide) (by decide) sm_0  rfl rfl (Nat.le_of_ble_eq_true rfl) dX9_judge_195 (fun v60 μ61 => ?_)
        refine z_iload_n (pc := 198) dX9_judge_198 rfl ?_
        refine z_let (fun (j : Int32 → zRes) => ∀ (s62 : Int32), zR yX9_judge cX9_judge 7 (some .int) 4 207 [.null, .null, .null, .null, .null, .null, .null] [.int s62] 1134 SM μ61 (j s62)) ?_ (fun j63 hj63 => ?_)
        · intro s62
          exact z_iret (pc := 207) rfl dX9_judge_207
        · refine z_if_ne (pc := 199) (tgt := 206) dX9_judge_199 (by decide) (fun c64 => ?_) (fun c65 => ?_)
          · refine z_iload_n (pc := 206) dX9_judge_206 rfl ?_
            refine z_loc (L' := [.null, .null, .null, .null, .null, .null, .null]) ⟨Or.inl rfl, ⟨Or.inl rfl, ⟨Or.inl rfl, ⟨Or.inl rfl, ⟨Or.inl rfl, ⟨Or.inl rfl, ⟨Or.inl rfl, trivial⟩⟩⟩⟩⟩⟩⟩ ?_
            exact hj63 x3_58
          · refine z_iload_n (pc := 202) dX9_judge_202 rfl ?_
            refine z_goto (pc := 203) (tgt := 207) dX9_judge_203 (by decide) ?_
            refine z_loc (L' := [.null, .null, .null, .null, .null, .null, .null]) ⟨Or.inl rfl, ⟨Or.inl rfl, ⟨Or.inl rfl, ⟨Or.inl rfl, ⟨Or.inl rfl, ⟨Or.inl rfl, ⟨Or.inl rfl, trivial⟩⟩⟩⟩⟩⟩⟩ ?_
            exact hj63 x2_57
    · refine z_iconst (pc := 27) (0 : Int32) dX9_judge_27 (by decide) ?_
      exact z_iret (pc := 28) rfl dX9_judge_28
  · refine z_if_ne (pc := 12) (tgt := 19) dX9_judge_12 (by decide) (fun c67 => ?_) (fun c68 => ?_)
    · refine z_iconst (pc := 19) (0 : Int32) dX9_judge_19 (by decide) ?_
      exact hj66 (0 : Int32)
    · refine z_iconst (pc := 15) (1 : Int32) dX9_judge_15 (by decide) ?_
      refine z_goto (pc := 16) (tgt := 20) dX9_judge_16 (by decide) ?_
      exact hj66 (1 : Int32)
def f9_badAsked (x1 : Int32) (μ : zMem) : zRes := zlet (fun (s1 : Int32) (μ2 : zMem) => bnd0 (f9_bad s1 (1 : Int32) μ2) (fun (v3 : Int32) (μ4 : zMem) => zbl v3 (some (0, v3, μ4)))) (fun j5 => zlet (fun (μ6 : zMem) => j5 (0 : Int32) μ6) (fun j7 => if x1 = (-1 : Int32) then j7 μ else bnd0 (f9_isAsked x1 μ) (fun (v10 : Int32) (μ11 : zMem) => if v10 = 0 then j5 (1 : Int32) μ11 else j7 μ11)))
set_option maxHeartbeats 1000000 in
theorem t9_badAsked (x1 : Int32) (μ : zMem) : zMR yX9_badAsked cX9_badAsked 2 (some .boolean) 3 [.ref 0, .int x1] 1134 SM μ (f9_badAsked x1 μ) := by
  refine zMR_of (by decide +kernel) rfl (Nat.le_of_ble_eq_true rfl) (L := [.ref 0, .int x1]) rfl ?_
  unfold f9_badAsked
  refine z_aload_n (pc := 0) dX9_badAsked_0 rfl ?_
  refine z_iload_n (pc := 1) dX9_badAsked_1 rfl ?_
  refine z_iconst (pc := 2) (-1 : Int32) dX9_badAsked_2 (by decide) ?_
  refine z_let (fun (j : Int32 → zMem → zRes) => ∀ (s1 : Int32) (μ2 : zMem), zR yX9_badAsked cX9_badAsked 2 (some .boolean) 3 19 [.null, .null] [.int s1, .ref 0] 1134 SM μ2 (j s1 μ2)) ?_ (fun j5 hj5 => ?_)
  · intro s1 μ2
    refine z_iconst (pc := 19) (1 : Int32) dX9_badAsked_19 (by decide) ?_
    refine z_callV (As := [.int s1, .int (1 : Int32)]) (pc := 20) (ret' := some .boolean) kvX9_188 (t9_bad _ _ _) (by decide) (by decide) sm_0  rfl rfl (Nat.le_of_ble_eq_true rfl) dX9_badAsked_20 (fun v3 μ4 => ?_)
    exact z_zret (pc := 23) rfl dX9_badAsked_23
  · refine z_let (fun (j : zMem → zRes) => ∀ (μ6 : zMem), zR yX9_badAsked cX9_badAsked 2 (some .boolean) 3 18 [.null, .null] [.ref 0] 1134 SM μ6 (j μ6)) ?_ (fun j7 hj7 => ?_)
    · intro μ6
      refine z_iconst (pc := 18) (0 : Int32) dX9_badAsked_18 (by decide) ?_
      exact hj5 (0 : Int32) μ6
    · refine z_icmp_eq (pc := 3) (tgt := 18) dX9_badAsked_3 (by decide) (fun c8 => ?_) (fun c9 => ?_)
      · refine z_loc (L' := [.null, .null]) ⟨Or.inl rfl, ⟨Or.inl rfl, trivial⟩⟩ ?_
        exact hj7 μ
      · refine z_aload_n (pc := 6) dX9_badAsked_6 rfl ?_
        refine z_iload_n (pc := 7) dX9_badAsked_7 rfl ?_
        refine z_callV (As := [.int x1]) (pc := 8) (ret' := some .boolean) kvX9_217 (t9_isAsked _ _) (by decide) (by decide) sm_0  rfl rfl (Nat.le_of_ble_eq_true rfl) dX9_badAsked_8 (fun v10 μ11 => ?_)
        refine z_if_ne (pc := 11) (tgt := 18) dX9_badAsked_11 (by decide) (fun c12 => ?_) (fun c13 => ?_)
        · refine z_loc (L' := [.null, .null]) ⟨Or.inl rfl, ⟨Or.inl rfl, trivial⟩⟩ ?_
          exact hj7 μ11
        · refine z_iconst (pc := 14) (1 : Int32) dX9_badAsked_14 (by decide) ?_
          refine z_goto (pc := 15) (tgt := 19) dX9_badAsked_15 (by decide) ?_
          refine z_loc (L' := [.null, .null]) ⟨Or.inl rfl, ⟨Or.inl rfl, trivial⟩⟩ ?_
          exact hj5 (1 : Int32) μ11
def f9_canBe (x1 : Int32) (x2 : Int32) (x3 : Int32) (μ : zMem) : zRes := bnd0 (f9_errs x1 x2 x3 μ) (fun (v1 : Int32) (μ2 : zMem) => zlet (fun (s3 : Int32) => zbl s3 (some (0, s3, μ2))) (fun j4 => if v1 = 0 then j4 (1 : Int32) else j4 (0 : Int32)))
set_option maxHeartbeats 1000000 in
theorem t9_canBe (x1 : Int32) (x2 : Int32) (x3 : Int32) (μ : zMem) : zMR yX9_canBe cX9_canBe 4 (some .boolean) 4 [.ref 0, .int x1, .int x2, .int x3] 1134 SM μ (f9_canBe x1 x2 x3 μ) := by
  refine zMR_of (by decide +kernel) rfl (Nat.le_of_ble_eq_true rfl) (L := [.ref 0, .int x1, .int x2, .int x3]) rfl ?_
  unfold f9_canBe
  refine z_aload_n (pc := 0) dX9_canBe_0 rfl ?_
  refine z_iload_n (pc := 1) dX9_canBe_1 rfl ?_
  refine z_iload_n (pc := 2) dX9_canBe_2 rfl ?_
  refine z_iload_n (pc := 3) dX9_canBe_3 rfl ?_
  refine z_callV (As := [.int x1, .int x2, .int x3]) (pc := 4) (ret' := some .int) kvX9_239 (t9_errs _ _ _ _) (by decide) (by decide) sm_0  rfl rfl (Nat.le_of_ble_eq_true rfl) dX9_canBe_4 (fun v1 μ2 => ?_)
  refine z_let (fun (j : Int32 → zRes) => ∀ (s3 : Int32), zR yX9_canBe cX9_canBe 4 (some .boolean) 4 15 [.null, .null, .null, .null] [.int s3] 1134 SM μ2 (j s3)) ?_ (fun j4 hj4 => ?_)
  · intro s3
    exact z_zret (pc := 15) rfl dX9_canBe_15
  · refine z_if_ne (pc := 7) (tgt := 14) dX9_canBe_7 (by decide) (fun c5 => ?_) (fun c6 => ?_)
    · refine z_iconst (pc := 14) (0 : Int32) dX9_canBe_14 (by decide) ?_
      refine z_loc (L' := [.null, .null, .null, .null]) ⟨Or.inl rfl, ⟨Or.inl rfl, ⟨Or.inl rfl, ⟨Or.inl rfl, trivial⟩⟩⟩⟩ ?_
      exact hj4 (0 : Int32)
    · refine z_iconst (pc := 10) (1 : Int32) dX9_canBe_10 (by decide) ?_
      refine z_goto (pc := 11) (tgt := 15) dX9_canBe_11 (by decide) ?_
      refine z_loc (L' := [.null, .null, .null, .null]) ⟨Or.inl rfl, ⟨Or.inl rfl, ⟨Or.inl rfl, ⟨Or.inl rfl, trivial⟩⟩⟩⟩ ?_
      exact hj4 (1 : Int32)
def f9_adds_L56 (x1 : Int32) (x2 : Int32) (x5 : Int32) (x6 : Int32) (K109 : zMem → zRes) : Nat → Int32 → zMem → zRes
  | 0, _, _ => none
  | n + 1, x7, μ => if (zshl (1 : Int32) x2) ≤ x7 then K109 μ else zin x6 1024 (zin x7 512 (zlet (fun (μ19 : zMem) => f9_adds_L56 x1 x2 x5 x6 K109 n (x7 + (1 : Int32)) μ19) (fun j20 => if (μ (101 + x6.toNatClampNeg) x7.toNatClampNeg) = 0 then j20 μ else if (x7 &&& x5) = 0 then zin (x6 ||| (zshl (1 : Int32) x1)) 1024 (zin (x7 ||| x5) 512 (zlet (zset μ (101 + (x6 ||| (zshl (1 : Int32) x1)).toNatClampNeg) (x7 ||| x5).toNatClampNeg (1 : Int32)) (fun (μ27 : zMem) => j20 μ27))) else j20 μ)))
def f9_adds_L45 (x1 : Int32) (x2 : Int32) (x5 : Int32) (K115 : zMem → zRes) : Nat → Int32 → zMem → zRes
  | 0, _, _ => none
  | n + 1, x6, μ => if (zshl (1 : Int32) x1) ≤ x6 then K115 μ else f9_adds_L56 x1 x2 x5 x6 (fun (μ28 : zMem) => f9_adds_L45 x1 x2 x5 K115 n (x6 + (1 : Int32)) μ28) zF (0 : Int32) μ
def f9_adds_L12 (x1 : Int32) (x2 : Int32) (x3 : Int32) (K121 : zMem → zRes) : Nat → Int32 → zMem → zRes
  | 0, _, _ => none
  | n + 1, x4, μ => if x2 ≤ x4 then K121 μ else bnd0 (f9_canBe x1 x3 x4 μ) (fun (v6 : Int32) (μ7 : zMem) => zlet (fun (μ8 : zMem) => f9_adds_L12 x1 x2 x3 K121 n (x4 + (1 : Int32)) μ8) (fun j9 => if v6 = 0 then j9 μ7 else zlet ((zshl (1 : Int32) x3) ||| (zshl (1 : Int32) x4)) (fun (v12 : Int32) => f9_adds_L45 x1 x2 v12 (fun (μ29 : zMem) => j9 μ29) zF (0 : Int32) μ7)))
def f9_adds_L2 (x1 : Int32) (x2 : Int32) (K127 : zMem → zRes) : Nat → Int32 → zMem → zRes
  | 0, _, _ => none
  | n + 1, x3, μ => if x2 ≤ x3 then K127 μ else zlet (x3 + (1 : Int32)) (fun (v3 : Int32) => f9_adds_L12 x1 x2 x3 (fun (μ30 : zMem) => f9_adds_L2 x1 x2 K127 n (x3 + (1 : Int32)) μ30) zF v3 μ)
def f9_adds (x1 : Int32) (x2 : Int32) (μ : zMem) : zRes := f9_adds_L2 x1 x2 (fun (μ31 : zMem) => some (0, 0, μ31)) zF (0 : Int32) μ
set_option maxHeartbeats 1000000 in
theorem t9_adds_L56 (x1 : Int32) (x2 : Int32) (x3 : Int32) (x4 : Int32) (x5 : Int32) (x6 : Int32) (K109 : zMem → zRes) (hK109 : ∀ (μ : zMem), zR yX9_adds cX9_adds 8 (none) 5 109 [.ref 0, .int x1, .int x2, .int x3, .int x4, .int x5, .int x6, .null] [] 1134 SM μ (K109 μ)) : ∀ (n : Nat) (x7 : Int32) (μ : zMem), zR yX9_adds cX9_adds 8 (none) 5 56 [.ref 0, .int x1, .int x2, .int x3, .int x4, .int x5, .int x6, .int x7] [] 1134 SM μ (f9_adds_L56 x1 x2 x5 x6 K109 n x7 μ) := by
  intro n
  induction n with
  | zero => intro x7 μ; intro q hq; cases hq
  | succ n ih =>
    intro x7 μ
    unfold f9_adds_L56
    refine z_iload (pc := 56) dX9_adds_56 rfl ?_
    refine z_iconst (pc := 58) (1 : Int32) dX9_adds_58 (by decide) ?_
    refine z_iload_n (pc := 59) dX9_adds_59 rfl ?_
    refine z_ishl (pc := 60) dX9_adds_60 ?_
    refine z_icmp_ge (pc := 61) (tgt := 109) dX9_adds_61 (by decide) (fun c15 => ?_) (fun c16 => ?_)
    · refine z_loc (L' := [.ref 0, .int x1, .int x2, .int x3, .int x4, .int x5, .int x6, .null]) ⟨Or.inr rfl, ⟨Or.inr rfl, ⟨Or.inr rfl, ⟨Or.inr rfl, ⟨Or.inr rfl, ⟨Or.inr rfl, ⟨Or.inr rfl, ⟨Or.inl rfl, trivial⟩⟩⟩⟩⟩⟩⟩⟩ ?_
      exact hK109 μ
    · refine z_aload_n (pc := 64) dX9_adds_64 rfl ?_
      refine z_getr (pc := 65) fdX9_75 (by decide) sm_0 rfl rfl dX9_adds_65 ?_
      refine z_iload (pc := 68) dX9_adds_68 rfl ?_
      refine z_aald (pc := 70) (fun j => 101 + j) (by decide) sm_100 (Or.inr (Or.inl rfl)) smg_100 dX9_adds_70 (fun h17 => ?_)
      refine z_iload (pc := 71) dX9_adds_71 rfl ?_
      refine z_zald (pc := 73) (smr_100 h17).2 (smr_100 h17).1 rfl dX9_adds_73 (fun h18 => ?_)
      refine z_let (fun (j : zMem → zRes) => ∀ (μ19 : zMem), zR yX9_adds cX9_adds 8 (none) 5 103 [.ref 0, .int x1, .int x2, .int x3, .int x4, .int x5, .int x6, .int x7] [] 1134 SM μ19 (j μ19)) ?_ (fun j20 hj20 => ?_)
      · intro μ19
        refine z_iinc (pc := 103) (v := x7 + (1 : Int32)) (L' := [.ref 0, .int x1, .int x2, .int x3, .int x4, .int x5, .int x6, .int (x7 + (1 : Int32))]) dX9_adds_103 (by decide) rfl (congrArg _ (by decide)) rfl ?_
        refine z_goto (pc := 106) (tgt := 56) dX9_adds_106 (by decide) ?_
        exact ih (x7 + (1 : Int32)) μ19
      · refine z_if_eq (pc := 74) (tgt := 103) dX9_adds_74 (by decide) (fun c21 => ?_) (fun c22 => ?_)
        · exact hj20 μ
        · refine z_iload (pc := 77) dX9_adds_77 rfl ?_
          refine z_iload (pc := 79) dX9_adds_79 rfl ?_
          refine z_iand (pc := 81) dX9_adds_81 ?_
          refine z_if_ne (pc := 82) (tgt := 103) dX9_adds_82 (by decide) (fun c23 => ?_) (fun c24 => ?_)
          · exact hj20 μ
          · refine z_aload_n (pc := 85) dX9_adds_85 rfl ?_
            refine z_getr (pc := 86) fdX9_75 (by decide) sm_0 rfl rfl dX9_adds_86 ?_
            refine z_iload (pc := 89) dX9_adds_89 rfl ?_
            refine z_iconst (pc := 91) (1 : Int32) dX9_adds_91 (by decide) ?_
            refine z_iload_n (pc := 92) dX9_adds_92 rfl ?_
            refine z_ishl (pc := 93) dX9_adds_93 ?_
            refine z_ior (pc := 94) dX9_adds_94 ?_
            refine z_aald (pc := 95) (fun j => 101 + j) (by decide) sm_100 (Or.inr (Or.inl rfl)) smg_100 dX9_adds_95 (fun h25 => ?_)
            refine z_iload (pc := 96) dX9_adds_96 rfl ?_
            refine z_iload (pc := 98) dX9_adds_98 rfl ?_
            refine z_ior (pc := 100) dX9_adds_100 ?_
            refine z_iconst (pc := 101) (1 : Int32) dX9_adds_101 (by decide) ?_
            refine z_zast (pc := 102) (smr_100 h25).2 (smr_100 h25).1 rfl (Or.inr rfl) dX9_adds_102 (fun h26 => ?_)
            refine z_mem (fun μ27 => ?_)
            exact hj20 μ27
set_option maxHeartbeats 1000000 in
theorem t9_adds_L45 (x1 : Int32) (x2 : Int32) (x3 : Int32) (x4 : Int32) (x5 : Int32) (K115 : zMem → zRes) (hK115 : ∀ (μ : zMem), zR yX9_adds cX9_adds 8 (none) 5 115 [.ref 0, .int x1, .int x2, .int x3, .int x4, .null, .null, .null] [] 1134 SM μ (K115 μ)) : ∀ (n : Nat) (x6 : Int32) (μ : zMem), zR yX9_adds cX9_adds 8 (none) 5 45 [.ref 0, .int x1, .int x2, .int x3, .int x4, .int x5, .int x6, .null] [] 1134 SM μ (f9_adds_L45 x1 x2 x5 K115 n x6 μ) := by
  intro n
  induction n with
  | zero => intro x6 μ; intro q hq; cases hq
  | succ n ih =>
    intro x6 μ
    unfold f9_adds_L45
    refine z_iload (pc := 45) dX9_adds_45 rfl ?_
    refine z_iconst (pc := 47) (1 : Int32) dX9_adds_47 (by decide) ?_
    refine z_iload_n (pc := 48) dX9_adds_48 rfl ?_
    refine z_ishl (pc := 49) dX9_adds_49 ?_
    refine z_icmp_ge (pc := 50) (tgt := 115) dX9_adds_50 (by decide) (fun c13 => ?_) (fun c14 => ?_)
    · refine z_loc (L' := [.ref 0, .int x1, .int x2, .int x3, .int x4, .null, .null, .null]) ⟨Or.inr rfl, ⟨Or.inr rfl, ⟨Or.inr rfl, ⟨Or.inr rfl, ⟨Or.inr rfl, ⟨Or.inl rfl, ⟨Or.inl rfl, ⟨Or.inl rfl, trivial⟩⟩⟩⟩⟩⟩⟩⟩ ?_
      exact hK115 μ
    · refine z_iconst (pc := 53) (0 : Int32) dX9_adds_53 (by decide) ?_
      refine z_istore (pc := 54) (L' := [.ref 0, .int x1, .int x2, .int x3, .int x4, .int x5, .int x6, .int (0 : Int32)]) dX9_adds_54 (by decide) rfl ?_
      refine t9_adds_L56 _ _ _ _ _ _ _ (fun μ28 => ?_) zF _ _
      · refine z_iinc (pc := 109) (v := x6 + (1 : Int32)) (L' := [.ref 0, .int x1, .int x2, .int x3, .int x4, .int x5, .int (x6 + (1 : Int32)), .null]) dX9_adds_109 (by decide) rfl (congrArg _ (by decide)) rfl ?_
        refine z_goto (pc := 112) (tgt := 45) dX9_adds_112 (by decide) ?_
        exact ih (x6 + (1 : Int32)) μ28
set_option maxHeartbeats 1000000 in
theorem t9_adds_L12 (x1 : Int32) (x2 : Int32) (x3 : Int32) (K121 : zMem → zRes) (hK121 : ∀ (μ : zMem), zR yX9_adds cX9_adds 8 (none) 5 121 [.ref 0, .int x1, .int x2, .int x3, .null, .null, .null, .null] [] 1134 SM μ (K121 μ)) : ∀ (n : Nat) (x4 : Int32) (μ : zMem), zR yX9_adds cX9_adds 8 (none) 5 12 [.ref 0, .int x1, .int x2, .int x3, .int x4, .null, .null, .null] [] 1134 SM μ (f9_adds_L12 x1 x2 x3 K121 n x4 μ) := by
  intro n
  induction n with
  | zero => intro x4 μ; intro q hq; cases hq
  | succ n ih =>
    intro x4 μ
    unfold f9_adds_L12
    refine z_iload (pc := 12) dX9_adds_12 rfl ?_
    refine z_iload_n (pc := 14) dX9_adds_14 rfl ?_
    refine z_icmp_ge (pc := 15) (tgt := 121) dX9_adds_15 (by decide) (fun c4 => ?_) (fun c5 => ?_)
    · refine z_loc (L' := [.ref 0, .int x1, .int x2, .int x3, .null, .null, .null, .null]) ⟨Or.inr rfl, ⟨Or.inr rfl, ⟨Or.inr rfl, ⟨Or.inr rfl, ⟨Or.inl rfl, ⟨Or.inl rfl, ⟨Or.inl rfl, ⟨Or.inl rfl, trivial⟩⟩⟩⟩⟩⟩⟩⟩ ?_
      exact hK121 μ
    · refine z_aload_n (pc := 18) dX9_adds_18 rfl ?_
      refine z_iload_n (pc := 19) dX9_adds_19 rfl ?_
      refine z_iload_n (pc := 20) dX9_adds_20 rfl ?_
      refine z_iload (pc := 21) dX9_adds_21 rfl ?_
      refine z_callV (As := [.int x1, .int x3, .int x4]) (pc := 23) (ret' := some .boolean) kvX9_275 (t9_canBe _ _ _ _) (by decide) (by decide) sm_0  rfl rfl (Nat.le_of_ble_eq_true rfl) dX9_adds_23 (fun v6 μ7 => ?_)
      refine z_let (fun (j : zMem → zRes) => ∀ (μ8 : zMem), zR yX9_adds cX9_adds 8 (none) 5 115 [.ref 0, .int x1, .int x2, .int x3, .int x4, .null, .null, .null] [] 1134 SM μ8 (j μ8)) ?_ (fun j9 hj9 => ?_)
      · intro μ8
        refine z_iinc (pc := 115) (v := x4 + (1 : Int32)) (L' := [.ref 0, .int x1, .int x2, .int x3, .int (x4 + (1 : Int32)), .null, .null, .null]) dX9_adds_115 (by decide) rfl (congrArg _ (by decide)) rfl ?_
        refine z_goto (pc := 118) (tgt := 12) dX9_adds_118 (by decide) ?_
        exact ih (x4 + (1 : Int32)) μ8
      · refine z_if_ne (pc := 26) (tgt := 32) dX9_adds_26 (by decide) (fun c10 => ?_) (fun c11 => ?_)
        · refine z_iconst (pc := 32) (1 : Int32) dX9_adds_32 (by decide) ?_
          refine z_iload_n (pc := 33) dX9_adds_33 rfl ?_
          refine z_ishl (pc := 34) dX9_adds_34 ?_
          refine z_iconst (pc := 35) (1 : Int32) dX9_adds_35 (by decide) ?_
          refine z_iload (pc := 36) dX9_adds_36 rfl ?_
          refine z_ishl (pc := 38) dX9_adds_38 ?_
          refine z_ior (pc := 39) dX9_adds_39 ?_
          refine z_val (fun v12 => ?_)
          refine z_istore (pc := 40) (L' := [.ref 0, .int x1, .int x2, .int x3, .int x4, .int v12, .null, .null]) dX9_adds_40 (by decide) rfl ?_
          refine z_iconst (pc := 42) (0 : Int32) dX9_adds_42 (by decide) ?_
          refine z_istore (pc := 43) (L' := [.ref 0, .int x1, .int x2, .int x3, .int x4, .int v12, .int (0 : Int32), .null]) dX9_adds_43 (by decide) rfl ?_
          refine t9_adds_L45 _ _ _ _ _ _ (fun μ29 => ?_) zF _ _
          · exact hj9 μ29
        · refine z_goto (pc := 29) (tgt := 115) dX9_adds_29 (by decide) ?_
          exact hj9 μ7
set_option maxHeartbeats 1000000 in
theorem t9_adds_L2 (x1 : Int32) (x2 : Int32) (K127 : zMem → zRes) (hK127 : ∀ (μ : zMem), zR yX9_adds cX9_adds 8 (none) 5 127 [.null, .null, .null, .null, .null, .null, .null, .null] [] 1134 SM μ (K127 μ)) : ∀ (n : Nat) (x3 : Int32) (μ : zMem), zR yX9_adds cX9_adds 8 (none) 5 2 [.ref 0, .int x1, .int x2, .int x3, .null, .null, .null, .null] [] 1134 SM μ (f9_adds_L2 x1 x2 K127 n x3 μ) := by
  intro n
  induction n with
  | zero => intro x3 μ; intro q hq; cases hq
  | succ n ih =>
    intro x3 μ
    unfold f9_adds_L2
    refine z_iload_n (pc := 2) dX9_adds_2 rfl ?_
    refine z_iload_n (pc := 3) dX9_adds_3 rfl ?_
    refine z_icmp_ge (pc := 4) (tgt := 127) dX9_adds_4 (by decide) (fun c1 => ?_) (fun c2 => ?_)
    · refine z_loc (L' := [.null, .null, .null, .null, .null, .null, .null, .null]) ⟨Or.inl rfl, ⟨Or.inl rfl, ⟨Or.inl rfl, ⟨Or.inl rfl, ⟨Or.inl rfl, ⟨Or.inl rfl, ⟨Or.inl rfl, ⟨Or.inl rfl, trivial⟩⟩⟩⟩⟩⟩⟩⟩ ?_
      exact hK127 μ
    · refine z_iload_n (pc := 7) dX9_adds_7 rfl ?_
      refine z_iconst (pc := 8) (1 : Int32) dX9_adds_8 (by decide) ?_
      refine z_iadd (pc := 9) dX9_adds_9 ?_
      refine z_val (fun v3 => ?_)
      refine z_istore (pc := 10) (L' := [.ref 0, .int x1, .int x2, .int x3, .int v3, .null, .null, .null]) dX9_adds_10 (by decide) rfl ?_
      refine t9_adds_L12 _ _ _ _ (fun μ30 => ?_) zF _ _
      · refine z_iinc (pc := 121) (v := x3 + (1 : Int32)) (L' := [.ref 0, .int x1, .int x2, .int (x3 + (1 : Int32)), .null, .null, .null, .null]) dX9_adds_121 (by decide) rfl (congrArg _ (by decide)) rfl ?_
        refine z_goto (pc := 124) (tgt := 2) dX9_adds_124 (by decide) ?_
        exact ih (x3 + (1 : Int32)) μ30
set_option maxHeartbeats 1000000 in
theorem t9_adds (x1 : Int32) (x2 : Int32) (μ : zMem) : zMR yX9_adds cX9_adds 8 (none) 5 [.ref 0, .int x1, .int x2] 1134 SM μ (f9_adds x1 x2 μ) := by
  refine zMR_of (by decide +kernel) rfl (Nat.le_of_ble_eq_true rfl) (L := [.ref 0, .int x1, .int x2, .null, .null, .null, .null, .null]) rfl ?_
  unfold f9_adds
  refine z_iconst (pc := 0) (0 : Int32) dX9_adds_0 (by decide) ?_
  refine z_istore_n (pc := 1) (L' := [.ref 0, .int x1, .int x2, .int (0 : Int32), .null, .null, .null, .null]) dX9_adds_1 (by decide) rfl ?_
  refine t9_adds_L2 _ _ _ (fun μ31 => ?_) zF _ _
  · exact z_vret (pc := 127) rfl dX9_adds_127
def f9_worthOf_L4 (x1 : Int32) (μ : zMem) (K44 : Int32 → zRes) : Nat → Int32 → Int32 → zRes
  | 0, _, _ => none
  | n + 1, x2, x3 => zin (2 : Int32) 6 (if (μ 4 (2 : Int32).toNatClampNeg) ≤ x3 then K44 x2 else zlet (fun (s4 : Int32) => zlet (x2 + s4) (fun (v5 : Int32) => f9_worthOf_L4 x1 μ K44 n v5 (x3 + (1 : Int32)))) (fun j6 => if ((zshr x1 x3) &&& (1 : Int32)) = (1 : Int32) then zin x3 10 (zin (0 : Int32) 4 (j6 (μ (36 + x3.toNatClampNeg) (0 : Int32).toNatClampNeg))) else j6 (0 : Int32)))
def f9_worthOf (x1 : Int32) (μ : zMem) : zRes := f9_worthOf_L4 x1 μ (fun (x2_11 : Int32) => some (0, x2_11, μ)) zF (0 : Int32) (0 : Int32)
set_option maxHeartbeats 1000000 in
theorem t9_worthOf_L4 (x1 : Int32) (μ : zMem) (K44 : Int32 → zRes) (hK44 : ∀ (x2 : Int32), zR yX9_worthOf cX9_worthOf 4 (some .int) 1 44 [.null, .null, .int x2, .null] [] 1134 SM μ (K44 x2)) : ∀ (n : Nat) (x2 : Int32) (x3 : Int32), zR yX9_worthOf cX9_worthOf 4 (some .int) 1 4 [.ref 0, .int x1, .int x2, .int x3] [] 1134 SM μ (f9_worthOf_L4 x1 μ K44 n x2 x3) := by
  intro n
  induction n with
  | zero => intro x2 x3; intro q hq; cases hq
  | succ n ih =>
    intro x2 x3
    unfold f9_worthOf_L4
    refine z_iload_n (pc := 4) dX9_worthOf_4 rfl ?_
    refine z_aload_n (pc := 5) dX9_worthOf_5 rfl ?_
    refine z_getr (pc := 6) fdX9_23 (by decide) sm_0 rfl rfl dX9_worthOf_6 ?_
    refine z_iconst (pc := 9) (2 : Int32) dX9_worthOf_9 (by decide) ?_
    refine z_iald (pc := 10) (by decide) sm_4 rfl dX9_worthOf_10 (fun h1 => ?_)
    refine z_icmp_ge (pc := 11) (tgt := 44) dX9_worthOf_11 (by decide) (fun c2 => ?_) (fun c3 => ?_)
    · refine z_loc (L' := [.null, .null, .int x2, .null]) ⟨Or.inl rfl, ⟨Or.inl rfl, ⟨Or.inr rfl, ⟨Or.inl rfl, trivial⟩⟩⟩⟩ ?_
      exact hK44 x2
    · refine z_iload_n (pc := 14) dX9_worthOf_14 rfl ?_
      refine z_iload_n (pc := 15) dX9_worthOf_15 rfl ?_
      refine z_iload_n (pc := 16) dX9_worthOf_16 rfl ?_
      refine z_ishr (pc := 17) dX9_worthOf_17 ?_
      refine z_iconst (pc := 18) (1 : Int32) dX9_worthOf_18 (by decide) ?_
      refine z_iand (pc := 19) dX9_worthOf_19 ?_
      refine z_iconst (pc := 20) (1 : Int32) dX9_worthOf_20 (by decide) ?_
      refine z_let (fun (j : Int32 → zRes) => ∀ (s4 : Int32), zR yX9_worthOf cX9_worthOf 4 (some .int) 1 36 [.ref 0, .int x1, .null, .int x3] [.int s4, .int x2] 1134 SM μ (j s4)) ?_ (fun j6 hj6 => ?_)
      · intro s4
        refine z_iadd (pc := 36) dX9_worthOf_36 ?_
        refine z_val (fun v5 => ?_)
        refine z_istore_n (pc := 37) (L' := [.ref 0, .int x1, .int v5, .int x3]) dX9_worthOf_37 (by decide) rfl ?_
        refine z_iinc (pc := 38) (v := x3 + (1 : Int32)) (L' := [.ref 0, .int x1, .int v5, .int (x3 + (1 : Int32))]) dX9_worthOf_38 (by decide) rfl (congrArg _ (by decide)) rfl ?_
        refine z_goto (pc := 41) (tgt := 4) dX9_worthOf_41 (by decide) ?_
        exact ih v5 (x3 + (1 : Int32))
      · refine z_icmp_ne (pc := 21) (tgt := 35) dX9_worthOf_21 (by decide) (fun c7 => ?_) (fun c8 => ?_)
        · refine z_iconst (pc := 35) (0 : Int32) dX9_worthOf_35 (by decide) ?_
          refine z_loc (L' := [.ref 0, .int x1, .null, .int x3]) ⟨Or.inr rfl, ⟨Or.inr rfl, ⟨Or.inl rfl, ⟨Or.inr rfl, trivial⟩⟩⟩⟩ ?_
          exact hj6 (0 : Int32)
        · refine z_aload_n (pc := 24) dX9_worthOf_24 rfl ?_
          refine z_getr (pc := 25) fdX9_37 (by decide) sm_0 rfl rfl dX9_worthOf_25 ?_
          refine z_iload_n (pc := 28) dX9_worthOf_28 rfl ?_
          refine z_aald (pc := 29) (fun j => 36 + j) (by decide) sm_35 (Or.inl rfl) smg_35 dX9_worthOf_29 (fun h9 => ?_)
          refine z_iconst (pc := 30) (0 : Int32) dX9_worthOf_30 (by decide) ?_
          refine z_iald (pc := 31) (smr_35 h9).2 (smr_35 h9).1 rfl dX9_worthOf_31 (fun h10 => ?_)
          refine z_goto (pc := 32) (tgt := 36) dX9_worthOf_32 (by decide) ?_
          refine z_loc (L' := [.ref 0, .int x1, .null, .int x3]) ⟨Or.inr rfl, ⟨Or.inr rfl, ⟨Or.inl rfl, ⟨Or.inr rfl, trivial⟩⟩⟩⟩ ?_
          exact hj6 (μ (36 + x3.toNatClampNeg) (0 : Int32).toNatClampNeg)
set_option maxHeartbeats 1000000 in
theorem t9_worthOf (x1 : Int32) (μ : zMem) : zMR yX9_worthOf cX9_worthOf 4 (some .int) 1 [.ref 0, .int x1] 1134 SM μ (f9_worthOf x1 μ) := by
  refine zMR_of (by decide +kernel) rfl (Nat.le_of_ble_eq_true rfl) (L := [.ref 0, .int x1, .null, .null]) rfl ?_
  unfold f9_worthOf
  refine z_iconst (pc := 0) (0 : Int32) dX9_worthOf_0 (by decide) ?_
  refine z_istore_n (pc := 1) (L' := [.ref 0, .int x1, .int (0 : Int32), .null]) dX9_worthOf_1 (by decide) rfl ?_
  refine z_iconst (pc := 2) (0 : Int32) dX9_worthOf_2 (by decide) ?_
  refine z_istore_n (pc := 3) (L' := [.ref 0, .int x1, .int (0 : Int32), .int (0 : Int32)]) dX9_worthOf_3 (by decide) rfl ?_
  refine t9_worthOf_L4 _ _ _ (fun x2_11 => ?_) zF _ _
  · refine z_iload_n (pc := 44) dX9_worthOf_44 rfl ?_
    exact z_iret (pc := 45) rfl dX9_worthOf_45
def f9_findToday_L50 (x4 : Int32) (x6 : Int32) (K88 : zMem → zRes) : Nat → Int32 → zMem → zRes
  | 0, _, _ => none
  | n + 1, x7, μ => if x4 ≤ x7 then K88 μ else zin x6 1024 (zlet (fun (s12 : Int32) => zbl s12 (zin x7 512 (zlet (zset μ (101 + x6.toNatClampNeg) x7.toNatClampNeg s12) (fun (μ14 : zMem) => f9_findToday_L50 x4 x6 K88 n (x7 + (1 : Int32)) μ14)))) (fun j16 => zlet (j16 (0 : Int32)) (fun j17 => if x6 = 0 then if x7 = 0 then j16 (1 : Int32) else j17 else j17)))
def f9_findToday_L40 (x4 : Int32) (x5 : Int32) (K94 : zMem → zRes) : Nat → Int32 → zMem → zRes
  | 0, _, _ => none
  | n + 1, x6, μ => if x5 ≤ x6 then K94 μ else f9_findToday_L50 x4 x6 (fun (μ22 : zMem) => f9_findToday_L40 x4 x5 K94 n (x6 + (1 : Int32)) μ22) zF (0 : Int32) μ
def f9_findToday_L107 (x1 : Int32) (K131 : zMem → zRes) : Nat → Int32 → zMem → zRes
  | 0, _, _ => none
  | n + 1, x6, μ => zin (2 : Int32) 6 (if (μ 4 (2 : Int32).toNatClampNeg) ≤ x6 then K131 μ else bnd0 (f9_adds x6 x1 μ) (fun (v29 : Int32) (μ30 : zMem) => f9_findToday_L107 x1 K131 n (x6 + (1 : Int32)) μ30))
def f9_findToday_L147 (x4 : Int32) (x6 : Int32) (μ : zMem) (K177 : Int32 → zRes) : Nat → Int32 → Int32 → zRes
  | 0, _, _ => none
  | n + 1, x7, x8 => if x4 ≤ x8 then K177 x7 else if x7 = 0 then zin x6 1024 (zin x8 512 (zlet (μ (101 + x6.toNatClampNeg) x8.toNatClampNeg) (fun (v54 : Int32) => f9_findToday_L147 x4 x6 μ K177 n v54 (x8 + (1 : Int32))))) else K177 x7
def f9_findToday_L134 (x4 : Int32) (x5 : Int32) (K220 : zMem → zRes) : Nat → Int32 → zMem → zRes
  | 0, _, _ => none
  | n + 1, x6, μ => if x5 ≤ x6 then K220 μ else zlet (fun (x7_34 : Int32) => zlet (fun (μ35 : zMem) => f9_findToday_L134 x4 x5 K220 n (x6 + (1 : Int32)) μ35) (fun j36 => if x7_34 = 0 then j36 μ else bnd0 (f9_worthOf x6 μ) (fun (v39 : Int32) (μ40 : zMem) => if (μ40 0 34) < v39 then bnd0 (f9_worthOf x6 μ40) (fun (v43 : Int32) (μ44 : zMem) => zlet (zset μ44 0 34 v43) (fun (μ45 : zMem) => zlet (zset μ45 0 35 x6) (fun (μ46 : zMem) => j36 μ46))) else j36 μ40))) (fun j47 => f9_findToday_L147 x4 x6 μ (fun (x7_55 : Int32) => j47 x7_55) zF (0 : Int32) (0 : Int32))
def f9_findToday (x1 : Int32) (x2 : Int32) (μ : zMem) : zRes := zlet (μ 0 30) (fun (v1 : Int32) => zlet (fun (s2 : Int32) => zlet (zset μ 0 30 s2) (fun (μ3 : zMem) => zlet (zshl (1 : Int32) x1) (fun (v4 : Int32) => zin (2 : Int32) 6 (zlet (zshl (1 : Int32) (μ3 4 (2 : Int32).toNatClampNeg)) (fun (v6 : Int32) => f9_findToday_L40 v4 v6 (fun (μ23 : zMem) => zlet (zset μ23 0 34 (0 : Int32)) (fun (μ24 : zMem) => zlet (zset μ24 0 35 (0 : Int32)) (fun (μ25 : zMem) => f9_findToday_L107 x1 (fun (μ31 : zMem) => f9_findToday_L134 v4 v6 (fun (μ56 : zMem) => zlet (zset μ56 0 30 v1) (fun (μ57 : zMem) => some (0, 0, μ57))) zF (1 : Int32) μ31) zF (0 : Int32) μ25))) zF (0 : Int32) μ3))))) (fun j58 => if x2 = (-1 : Int32) then j58 (μ 0 30) else j58 x2))
set_option maxHeartbeats 1000000 in
theorem t9_findToday_L50 (x1 : Int32) (x3 : Int32) (x4 : Int32) (x5 : Int32) (x6 : Int32) (K88 : zMem → zRes) (hK88 : ∀ (μ : zMem), zR yX9_findToday cX9_findToday 9 (none) 6 88 [.ref 0, .int x1, .null, .int x3, .int x4, .int x5, .int x6, .null, .null] [] 1134 SM μ (K88 μ)) : ∀ (n : Nat) (x7 : Int32) (μ : zMem), zR yX9_findToday cX9_findToday 9 (none) 6 50 [.ref 0, .int x1, .null, .int x3, .int x4, .int x5, .int x6, .int x7, .null] [] 1134 SM μ (f9_findToday_L50 x4 x6 K88 n x7 μ) := by
  intro n
  induction n with
  | zero => intro x7 μ; intro q hq; cases hq
  | succ n ih =>
    intro x7 μ
    unfold f9_findToday_L50
    refine z_iload (pc := 50) dX9_findToday_50 rfl ?_
    refine z_iload (pc := 52) dX9_findToday_52 rfl ?_
    refine z_icmp_ge (pc := 54) (tgt := 88) dX9_findToday_54 (by decide) (fun c9 => ?_) (fun c10 => ?_)
    · refine z_loc (L' := [.ref 0, .int x1, .null, .int x3, .int x4, .int x5, .int x6, .null, .null]) ⟨Or.inr rfl, ⟨Or.inr rfl, ⟨Or.inl rfl, ⟨Or.inr rfl, ⟨Or.inr rfl, ⟨Or.inr rfl, ⟨Or.inr rfl, ⟨Or.inl rfl, ⟨Or.inl rfl, trivial⟩⟩⟩⟩⟩⟩⟩⟩⟩ ?_
      exact hK88 μ
    · refine z_aload_n (pc := 57) dX9_findToday_57 rfl ?_
      refine z_getr (pc := 58) fdX9_75 (by decide) sm_0 rfl rfl dX9_findToday_58 ?_
      refine z_iload (pc := 61) dX9_findToday_61 rfl ?_
      refine z_aald (pc := 63) (fun j => 101 + j) (by decide) sm_100 (Or.inr (Or.inl rfl)) smg_100 dX9_findToday_63 (fun h11 => ?_)
      refine z_iload (pc := 64) dX9_findToday_64 rfl ?_
      refine z_iload (pc := 66) dX9_findToday_66 rfl ?_
      refine z_let (fun (j : Int32 → zRes) => ∀ (s12 : Int32), zR yX9_findToday cX9_findToday 9 (none) 6 81 [.ref 0, .int x1, .null, .int x3, .int x4, .int x5, .int x6, .int x7, .null] [.int s12, .int x7, .ref (101 + x6.toNatClampNeg)] 1134 SM μ (j s12)) ?_ (fun j16 hj16 => ?_)
      · intro s12
        refine z_bl (fun h15 => ?_)
        refine z_zast (pc := 81) (smr_100 h11).2 (smr_100 h11).1 rfl h15 dX9_findToday_81 (fun h13 => ?_)
        refine z_mem (fun μ14 => ?_)
        refine z_iinc (pc := 82) (v := x7 + (1 : Int32)) (L' := [.ref 0, .int x1, .null, .int x3, .int x4, .int x5, .int x6, .int (x7 + (1 : Int32)), .null]) dX9_findToday_82 (by decide) rfl (congrArg _ (by decide)) rfl ?_
        refine z_goto (pc := 85) (tgt := 50) dX9_findToday_85 (by decide) ?_
        exact ih (x7 + (1 : Int32)) μ14
      · refine z_let (fun (j : zRes) => zR yX9_findToday cX9_findToday 9 (none) 6 80 [.ref 0, .int x1, .null, .int x3, .int x4, .int x5, .int x6, .int x7, .null] [.int x7, .ref (101 + x6.toNatClampNeg)] 1134 SM μ (j)) ?_ (fun j17 hj17 => ?_)
        · refine z_iconst (pc := 80) (0 : Int32) dX9_findToday_80 (by decide) ?_
          exact hj16 (0 : Int32)
        · refine z_if_ne (pc := 68) (tgt := 80) dX9_findToday_68 (by decide) (fun c18 => ?_) (fun c19 => ?_)
          · exact hj17
          · refine z_iload (pc := 71) dX9_findToday_71 rfl ?_
            refine z_if_ne (pc := 73) (tgt := 80) dX9_findToday_73 (by decide) (fun c20 => ?_) (fun c21 => ?_)
            · exact hj17
            · refine z_iconst (pc := 76) (1 : Int32) dX9_findToday_76 (by decide) ?_
              refine z_goto (pc := 77) (tgt := 81) dX9_findToday_77 (by decide) ?_
              exact hj16 (1 : Int32)
set_option maxHeartbeats 1000000 in
theorem t9_findToday_L40 (x1 : Int32) (x3 : Int32) (x4 : Int32) (x5 : Int32) (K94 : zMem → zRes) (hK94 : ∀ (μ : zMem), zR yX9_findToday cX9_findToday 9 (none) 6 94 [.ref 0, .int x1, .null, .int x3, .int x4, .int x5, .null, .null, .null] [] 1134 SM μ (K94 μ)) : ∀ (n : Nat) (x6 : Int32) (μ : zMem), zR yX9_findToday cX9_findToday 9 (none) 6 40 [.ref 0, .int x1, .null, .int x3, .int x4, .int x5, .int x6, .null, .null] [] 1134 SM μ (f9_findToday_L40 x4 x5 K94 n x6 μ) := by
  intro n
  induction n with
  | zero => intro x6 μ; intro q hq; cases hq
  | succ n ih =>
    intro x6 μ
    unfold f9_findToday_L40
    refine z_iload (pc := 40) dX9_findToday_40 rfl ?_
    refine z_iload (pc := 42) dX9_findToday_42 rfl ?_
    refine z_icmp_ge (pc := 44) (tgt := 94) dX9_findToday_44 (by decide) (fun c7 => ?_) (fun c8 => ?_)
    · refine z_loc (L' := [.ref 0, .int x1, .null, .int x3, .int x4, .int x5, .null, .null, .null]) ⟨Or.inr rfl, ⟨Or.inr rfl, ⟨Or.inl rfl, ⟨Or.inr rfl, ⟨Or.inr rfl, ⟨Or.inr rfl, ⟨Or.inl rfl, ⟨Or.inl rfl, ⟨Or.inl rfl, trivial⟩⟩⟩⟩⟩⟩⟩⟩⟩ ?_
      exact hK94 μ
    · refine z_iconst (pc := 47) (0 : Int32) dX9_findToday_47 (by decide) ?_
      refine z_istore (pc := 48) (L' := [.ref 0, .int x1, .null, .int x3, .int x4, .int x5, .int x6, .int (0 : Int32), .null]) dX9_findToday_48 (by decide) rfl ?_
      refine t9_findToday_L50 _ _ _ _ _ _ (fun μ22 => ?_) zF _ _
      · refine z_iinc (pc := 88) (v := x6 + (1 : Int32)) (L' := [.ref 0, .int x1, .null, .int x3, .int x4, .int x5, .int (x6 + (1 : Int32)), .null, .null]) dX9_findToday_88 (by decide) rfl (congrArg _ (by decide)) rfl ?_
        refine z_goto (pc := 91) (tgt := 40) dX9_findToday_91 (by decide) ?_
        exact ih (x6 + (1 : Int32)) μ22
set_option maxHeartbeats 1000000 in
theorem t9_findToday_L107 (x1 : Int32) (x3 : Int32) (x4 : Int32) (x5 : Int32) (K131 : zMem → zRes) (hK131 : ∀ (μ : zMem), zR yX9_findToday cX9_findToday 9 (none) 6 131 [.ref 0, .null, .null, .int x3, .int x4, .int x5, .null, .null, .null] [] 1134 SM μ (K131 μ)) : ∀ (n : Nat) (x6 : Int32) (μ : zMem), zR yX9_findToday cX9_findToday 9 (none) 6 107 [.ref 0, .int x1, .null, .int x3, .int x4, .int x5, .int x6, .null, .null] [] 1134 SM μ (f9_findToday_L107 x1 K131 n x6 μ) := by
  intro n
  induction n with
  | zero => intro x6 μ; intro q hq; cases hq
  | succ n ih =>
    intro x6 μ
    unfold f9_findToday_L107
    refine z_iload (pc := 107) dX9_findToday_107 rfl ?_
    refine z_aload_n (pc := 109) dX9_findToday_109 rfl ?_
    refine z_getr (pc := 110) fdX9_23 (by decide) sm_0 rfl rfl dX9_findToday_110 ?_
    refine z_iconst (pc := 113) (2 : Int32) dX9_findToday_113 (by decide) ?_
    refine z_iald (pc := 114) (by decide) sm_4 rfl dX9_findToday_114 (fun h26 => ?_)
    refine z_icmp_ge (pc := 115) (tgt := 131) dX9_findToday_115 (by decide) (fun c27 => ?_) (fun c28 => ?_)
    · refine z_loc (L' := [.ref 0, .null, .null, .int x3, .int x4, .int x5, .null, .null, .null]) ⟨Or.inr rfl, ⟨Or.inl rfl, ⟨Or.inl rfl, ⟨Or.inr rfl, ⟨Or.inr rfl, ⟨Or.inr rfl, ⟨Or.inl rfl, ⟨Or.inl rfl, ⟨Or.inl rfl, trivial⟩⟩⟩⟩⟩⟩⟩⟩⟩ ?_
      exact hK131 μ
    · refine z_aload_n (pc := 118) dX9_findToday_118 rfl ?_
      refine z_iload (pc := 119) dX9_findToday_119 rfl ?_
      refine z_iload_n (pc := 121) dX9_findToday_121 rfl ?_
      refine z_callV (As := [.int x6, .int x1]) (pc := 122) (ret' := none) kvX9_269 (t9_adds _ _ _) (by decide) (by decide) sm_0  rfl rfl (Nat.le_of_ble_eq_true rfl) dX9_findToday_122 (fun v29 μ30 => ?_)
      refine z_iinc (pc := 125) (v := x6 + (1 : Int32)) (L' := [.ref 0, .int x1, .null, .int x3, .int x4, .int x5, .int (x6 + (1 : Int32)), .null, .null]) dX9_findToday_125 (by decide) rfl (congrArg _ (by decide)) rfl ?_
      refine z_goto (pc := 128) (tgt := 107) dX9_findToday_128 (by decide) ?_
      exact ih (x6 + (1 : Int32)) μ30
set_option maxHeartbeats 1000000 in
theorem t9_findToday_L147 (x3 : Int32) (x4 : Int32) (x5 : Int32) (x6 : Int32) (μ : zMem) (K177 : Int32 → zRes) (hK177 : ∀ (x7 : Int32), zR yX9_findToday cX9_findToday 9 (none) 6 177 [.ref 0, .null, .null, .int x3, .int x4, .int x5, .int x6, .int x7, .null] [] 1134 SM μ (K177 x7)) : ∀ (n : Nat) (x7 : Int32) (x8 : Int32), zR yX9_findToday cX9_findToday 9 (none) 6 147 [.ref 0, .null, .null, .int x3, .int x4, .int x5, .int x6, .int x7, .int x8] [] 1134 SM μ (f9_findToday_L147 x4 x6 μ K177 n x7 x8) := by
  intro n
  induction n with
  | zero => intro x7 x8; intro q hq; cases hq
  | succ n ih =>
    intro x7 x8
    unfold f9_findToday_L147
    refine z_iload (pc := 147) dX9_findToday_147 rfl ?_
    refine z_iload (pc := 149) dX9_findToday_149 rfl ?_
    refine z_icmp_ge (pc := 151) (tgt := 177) dX9_findToday_151 (by decide) (fun c48 => ?_) (fun c49 => ?_)
    · refine z_loc (L' := [.ref 0, .null, .null, .int x3, .int x4, .int x5, .int x6, .int x7, .null]) ⟨Or.inr rfl, ⟨Or.inl rfl, ⟨Or.inl rfl, ⟨Or.inr rfl, ⟨Or.inr rfl, ⟨Or.inr rfl, ⟨Or.inr rfl, ⟨Or.inr rfl, ⟨Or.inl rfl, trivial⟩⟩⟩⟩⟩⟩⟩⟩⟩ ?_
      exact hK177 x7
    · refine z_iload (pc := 154) dX9_findToday_154 rfl ?_
      refine z_if_ne (pc := 156) (tgt := 177) dX9_findToday_156 (by decide) (fun c50 => ?_) (fun c51 => ?_)
      · refine z_loc (L' := [.ref 0, .null, .null, .int x3, .int x4, .int x5, .int x6, .int x7, .null]) ⟨Or.inr rfl, ⟨Or.inl rfl, ⟨Or.inl rfl, ⟨Or.inr rfl, ⟨Or.inr rfl, ⟨Or.inr rfl, ⟨Or.inr rfl, ⟨Or.inr rfl, ⟨Or.inl rfl, trivial⟩⟩⟩⟩⟩⟩⟩⟩⟩ ?_
        exact hK177 x7
      · refine z_aload_n (pc := 159) dX9_findToday_159 rfl ?_
        refine z_getr (pc := 160) fdX9_75 (by decide) sm_0 rfl rfl dX9_findToday_160 ?_
        refine z_iload (pc := 163) dX9_findToday_163 rfl ?_
        refine z_aald (pc := 165) (fun j => 101 + j) (by decide) sm_100 (Or.inr (Or.inl rfl)) smg_100 dX9_findToday_165 (fun h52 => ?_)
        refine z_iload (pc := 166) dX9_findToday_166 rfl ?_
        refine z_zald (pc := 168) (smr_100 h52).2 (smr_100 h52).1 rfl dX9_findToday_168 (fun h53 => ?_)
        refine z_val (fun v54 => ?_)
        refine z_istore (pc := 169) (L' := [.ref 0, .null, .null, .int x3, .int x4, .int x5, .int x6, .int v54, .int x8]) dX9_findToday_169 (by decide) rfl ?_
        refine z_iinc (pc := 171) (v := x8 + (1 : Int32)) (L' := [.ref 0, .null, .null, .int x3, .int x4, .int x5, .int x6, .int v54, .int (x8 + (1 : Int32))]) dX9_findToday_171 (by decide) rfl (congrArg _ (by decide)) rfl ?_
        refine z_goto (pc := 174) (tgt := 147) dX9_findToday_174 (by decide) ?_
        exact ih v54 (x8 + (1 : Int32))
set_option maxHeartbeats 1000000 in
theorem t9_findToday_L134 (x3 : Int32) (x4 : Int32) (x5 : Int32) (K220 : zMem → zRes) (hK220 : ∀ (μ : zMem), zR yX9_findToday cX9_findToday 9 (none) 6 220 [.ref 0, .null, .null, .int x3, .null, .null, .null, .null, .null] [] 1134 SM μ (K220 μ)) : ∀ (n : Nat) (x6 : Int32) (μ : zMem), zR yX9_findToday cX9_findToday 9 (none) 6 134 [.ref 0, .null, .null, .int x3, .int x4, .int x5, .int x6, .null, .null] [] 1134 SM μ (f9_findToday_L134 x4 x5 K220 n x6 μ) := by
  intro n
  induction n with
  | zero => intro x6 μ; intro q hq; cases hq
  | succ n ih =>
    intro x6 μ
    unfold f9_findToday_L134
    refine z_iload (pc := 134) dX9_findToday_134 rfl ?_
    refine z_iload (pc := 136) dX9_findToday_136 rfl ?_
    refine z_icmp_ge (pc := 138) (tgt := 220) dX9_findToday_138 (by decide) (fun c32 => ?_) (fun c33 => ?_)
    · refine z_loc (L' := [.ref 0, .null, .null, .int x3, .null, .null, .null, .null, .null]) ⟨Or.inr rfl, ⟨Or.inl rfl, ⟨Or.inl rfl, ⟨Or.inr rfl, ⟨Or.inl rfl, ⟨Or.inl rfl, ⟨Or.inl rfl, ⟨Or.inl rfl, ⟨Or.inl rfl, trivial⟩⟩⟩⟩⟩⟩⟩⟩⟩ ?_
      exact hK220 μ
    · refine z_iconst (pc := 141) (0 : Int32) dX9_findToday_141 (by decide) ?_
      refine z_istore (pc := 142) (L' := [.ref 0, .null, .null, .int x3, .int x4, .int x5, .int x6, .int (0 : Int32), .null]) dX9_findToday_142 (by decide) rfl ?_
      refine z_iconst (pc := 144) (0 : Int32) dX9_findToday_144 (by decide) ?_
      refine z_istore (pc := 145) (L' := [.ref 0, .null, .null, .int x3, .int x4, .int x5, .int x6, .int (0 : Int32), .int (0 : Int32)]) dX9_findToday_145 (by decide) rfl ?_
      refine z_let (fun (j : Int32 → zRes) => ∀ (x7_34 : Int32), zR yX9_findToday cX9_findToday 9 (none) 6 177 [.ref 0, .null, .null, .int x3, .int x4, .int x5, .int x6, .int x7_34, .null] [] 1134 SM μ (j x7_34)) ?_ (fun j47 hj47 => ?_)
      · intro x7_34
        refine z_iload (pc := 177) dX9_findToday_177 rfl ?_
        refine z_let (fun (j : zMem → zRes) => ∀ (μ35 : zMem), zR yX9_findToday cX9_findToday 9 (none) 6 214 [.ref 0, .null, .null, .int x3, .int x4, .int x5, .int x6, .null, .null] [] 1134 SM μ35 (j μ35)) ?_ (fun j36 hj36 => ?_)
        · intro μ35
          refine z_iinc (pc := 214) (v := x6 + (1 : Int32)) (L' := [.ref 0, .null, .null, .int x3, .int x4, .int x5, .int (x6 + (1 : Int32)), .null, .null]) dX9_findToday_214 (by decide) rfl (congrArg _ (by decide)) rfl ?_
          refine z_goto (pc := 217) (tgt := 134) dX9_findToday_217 (by decide) ?_
          exact ih (x6 + (1 : Int32)) μ35
        · refine z_if_eq (pc := 179) (tgt := 214) dX9_findToday_179 (by decide) (fun c37 => ?_) (fun c38 => ?_)
          · refine z_loc (L' := [.ref 0, .null, .null, .int x3, .int x4, .int x5, .int x6, .null, .null]) ⟨Or.inr rfl, ⟨Or.inl rfl, ⟨Or.inl rfl, ⟨Or.inr rfl, ⟨Or.inr rfl, ⟨Or.inr rfl, ⟨Or.inr rfl, ⟨Or.inl rfl, ⟨Or.inl rfl, trivial⟩⟩⟩⟩⟩⟩⟩⟩⟩ ?_
            exact hj36 μ
          · refine z_aload_n (pc := 182) dX9_findToday_182 rfl ?_
            refine z_iload (pc := 183) dX9_findToday_183 rfl ?_
            refine z_callV (As := [.int x6]) (pc := 185) (ret' := some .int) kvX9_272 (t9_worthOf _ _) (by decide) (by decide) sm_0  rfl rfl (Nat.le_of_ble_eq_true rfl) dX9_findToday_185 (fun v39 μ40 => ?_)
            refine z_aload_n (pc := 188) dX9_findToday_188 rfl ?_
            refine z_geti (pc := 189) fdX9_263 (by decide) sm_0 rfl dX9_findToday_189 ?_
            refine z_icmp_gt (pc := 192) (tgt := 198) dX9_findToday_192 (by decide) (fun c41 => ?_) (fun c42 => ?_)
            · refine z_aload_n (pc := 198) dX9_findToday_198 rfl ?_
              refine z_aload_n (pc := 199) dX9_findToday_199 rfl ?_
              refine z_iload (pc := 200) dX9_findToday_200 rfl ?_
              refine z_callV (As := [.int x6]) (pc := 202) (ret' := some .int) kvX9_272 (t9_worthOf _ _) (by decide) (by decide) sm_0  rfl rfl (Nat.le_of_ble_eq_true rfl) dX9_findToday_202 (fun v43 μ44 => ?_)
              refine z_puti (pc := 205) fdX9_263 (by decide) sm_0 rfl rfl dX9_findToday_205 ?_
              refine z_mem (fun μ45 => ?_)
              refine z_aload_n (pc := 208) dX9_findToday_208 rfl ?_
              refine z_iload (pc := 209) dX9_findToday_209 rfl ?_
              refine z_puti (pc := 211) fdX9_266 (by decide) sm_0 rfl rfl dX9_findToday_211 ?_
              refine z_mem (fun μ46 => ?_)
              refine z_loc (L' := [.ref 0, .null, .null, .int x3, .int x4, .int x5, .int x6, .null, .null]) ⟨Or.inr rfl, ⟨Or.inl rfl, ⟨Or.inl rfl, ⟨Or.inr rfl, ⟨Or.inr rfl, ⟨Or.inr rfl, ⟨Or.inr rfl, ⟨Or.inl rfl, ⟨Or.inl rfl, trivial⟩⟩⟩⟩⟩⟩⟩⟩⟩ ?_
              exact hj36 μ46
            · refine z_goto (pc := 195) (tgt := 214) dX9_findToday_195 (by decide) ?_
              refine z_loc (L' := [.ref 0, .null, .null, .int x3, .int x4, .int x5, .int x6, .null, .null]) ⟨Or.inr rfl, ⟨Or.inl rfl, ⟨Or.inl rfl, ⟨Or.inr rfl, ⟨Or.inr rfl, ⟨Or.inr rfl, ⟨Or.inr rfl, ⟨Or.inl rfl, ⟨Or.inl rfl, trivial⟩⟩⟩⟩⟩⟩⟩⟩⟩ ?_
              exact hj36 μ40
      · refine t9_findToday_L147 _ _ _ _ _ _ (fun x7_55 => ?_) zF _ _
        · exact hj47 x7_55
set_option maxHeartbeats 1000000 in
theorem t9_findToday (x1 : Int32) (x2 : Int32) (μ : zMem) : zMR yX9_findToday cX9_findToday 9 (none) 6 [.ref 0, .int x1, .int x2] 1134 SM μ (f9_findToday x1 x2 μ) := by
  refine zMR_of (by decide +kernel) rfl (Nat.le_of_ble_eq_true rfl) (L := [.ref 0, .int x1, .int x2, .null, .null, .null, .null, .null, .null]) rfl ?_
  unfold f9_findToday
  refine z_aload_n (pc := 0) dX9_findToday_0 rfl ?_
  refine z_geti (pc := 1) fdX9_70 (by decide) sm_0 rfl dX9_findToday_1 ?_
  refine z_val (fun v1 => ?_)
  refine z_istore_n (pc := 4) (L' := [.ref 0, .int x1, .int x2, .int v1, .null, .null, .null, .null, .null]) dX9_findToday_4 (by decide) rfl ?_
  refine z_aload_n (pc := 5) dX9_findToday_5 rfl ?_
  refine z_iload_n (pc := 6) dX9_findToday_6 rfl ?_
  refine z_iconst (pc := 7) (-1 : Int32) dX9_findToday_7 (by decide) ?_
  refine z_let (fun (j : Int32 → zRes) => ∀ (s2 : Int32), zR yX9_findToday cX9_findToday 9 (none) 6 19 [.ref 0, .int x1, .null, .int v1, .null, .null, .null, .null, .null] [.int s2, .ref 0] 1134 SM μ (j s2)) ?_ (fun j58 hj58 => ?_)
  · intro s2
    refine z_puti (pc := 19) fdX9_70 (by decide) sm_0 rfl rfl dX9_findToday_19 ?_
    refine z_mem (fun μ3 => ?_)
    refine z_iconst (pc := 22) (1 : Int32) dX9_findToday_22 (by decide) ?_
    refine z_iload_n (pc := 23) dX9_findToday_23 rfl ?_
    refine z_ishl (pc := 24) dX9_findToday_24 ?_
    refine z_val (fun v4 => ?_)
    refine z_istore (pc := 25) (L' := [.ref 0, .int x1, .null, .int v1, .int v4, .null, .null, .null, .null]) dX9_findToday_25 (by decide) rfl ?_
    refine z_iconst (pc := 27) (1 : Int32) dX9_findToday_27 (by decide) ?_
    refine z_aload_n (pc := 28) dX9_findToday_28 rfl ?_
    refine z_getr (pc := 29) fdX9_23 (by decide) sm_0 rfl rfl dX9_findToday_29 ?_
    refine z_iconst (pc := 32) (2 : Int32) dX9_findToday_32 (by decide) ?_
    refine z_iald (pc := 33) (by decide) sm_4 rfl dX9_findToday_33 (fun h5 => ?_)
    refine z_ishl (pc := 34) dX9_findToday_34 ?_
    refine z_val (fun v6 => ?_)
    refine z_istore (pc := 35) (L' := [.ref 0, .int x1, .null, .int v1, .int v4, .int v6, .null, .null, .null]) dX9_findToday_35 (by decide) rfl ?_
    refine z_iconst (pc := 37) (0 : Int32) dX9_findToday_37 (by decide) ?_
    refine z_istore (pc := 38) (L' := [.ref 0, .int x1, .null, .int v1, .int v4, .int v6, .int (0 : Int32), .null, .null]) dX9_findToday_38 (by decide) rfl ?_
    refine t9_findToday_L40 _ _ _ _ _ (fun μ23 => ?_) zF _ _
    · refine z_aload_n (pc := 94) dX9_findToday_94 rfl ?_
      refine z_iconst (pc := 95) (0 : Int32) dX9_findToday_95 (by decide) ?_
      refine z_puti (pc := 96) fdX9_263 (by decide) sm_0 rfl rfl dX9_findToday_96 ?_
      refine z_mem (fun μ24 => ?_)
      refine z_aload_n (pc := 99) dX9_findToday_99 rfl ?_
      refine z_iconst (pc := 100) (0 : Int32) dX9_findToday_100 (by decide) ?_
      refine z_puti (pc := 101) fdX9_266 (by decide) sm_0 rfl rfl dX9_findToday_101 ?_
      refine z_mem (fun μ25 => ?_)
      refine z_iconst (pc := 104) (0 : Int32) dX9_findToday_104 (by decide) ?_
      refine z_istore (pc := 105) (L' := [.ref 0, .int x1, .null, .int v1, .int v4, .int v6, .int (0 : Int32), .null, .null]) dX9_findToday_105 (by decide) rfl ?_
      refine t9_findToday_L107 _ _ _ _ _ (fun μ31 => ?_) zF _ _
      · refine z_iconst (pc := 131) (1 : Int32) dX9_findToday_131 (by decide) ?_
        refine z_istore (pc := 132) (L' := [.ref 0, .null, .null, .int v1, .int v4, .int v6, .int (1 : Int32), .null, .null]) dX9_findToday_132 (by decide) rfl ?_
        refine t9_findToday_L134 _ _ _ _ (fun μ56 => ?_) zF _ _
        · refine z_aload_n (pc := 220) dX9_findToday_220 rfl ?_
          refine z_iload_n (pc := 221) dX9_findToday_221 rfl ?_
          refine z_puti (pc := 222) fdX9_70 (by decide) sm_0 rfl rfl dX9_findToday_222 ?_
          refine z_mem (fun μ57 => ?_)
          exact z_vret (pc := 225) rfl dX9_findToday_225
  · refine z_icmp_ne (pc := 8) (tgt := 18) dX9_findToday_8 (by decide) (fun c59 => ?_) (fun c60 => ?_)
    · refine z_iload_n (pc := 18) dX9_findToday_18 rfl ?_
      refine z_loc (L' := [.ref 0, .int x1, .null, .int v1, .null, .null, .null, .null, .null]) ⟨Or.inr rfl, ⟨Or.inr rfl, ⟨Or.inl rfl, ⟨Or.inr rfl, ⟨Or.inl rfl, ⟨Or.inl rfl, ⟨Or.inl rfl, ⟨Or.inl rfl, ⟨Or.inl rfl, trivial⟩⟩⟩⟩⟩⟩⟩⟩⟩ ?_
      exact hj58 x2
    · refine z_aload_n (pc := 11) dX9_findToday_11 rfl ?_
      refine z_geti (pc := 12) fdX9_70 (by decide) sm_0 rfl dX9_findToday_12 ?_
      refine z_goto (pc := 15) (tgt := 19) dX9_findToday_15 (by decide) ?_
      refine z_loc (L' := [.ref 0, .int x1, .null, .int v1, .null, .null, .null, .null, .null]) ⟨Or.inr rfl, ⟨Or.inr rfl, ⟨Or.inl rfl, ⟨Or.inr rfl, ⟨Or.inl rfl, ⟨Or.inl rfl, ⟨Or.inl rfl, ⟨Or.inl rfl, ⟨Or.inl rfl, trivial⟩⟩⟩⟩⟩⟩⟩⟩⟩ ?_
      exact hj58 (μ 0 30)
def f9_today (x1 : Int32) (x2 : Int32) (μ : zMem) : zRes := zlet (zset μ 0 0 (0 : Int32)) (fun (μ1 : zMem) => bnd0 (f9_badAsked x1 μ1) (fun (v2 : Int32) (μ3 : zMem) => zlet (fun (μ4 : zMem) => some (0, (0 : Int32), μ4)) (fun j5 => if v2 = 0 then bnd0 (f9_in x2 (0 : Int32) (1 : Int32) μ3) (fun (v8 : Int32) (μ9 : zMem) => zlet (fun (s10 : Int32) => bnd0 (f9_bad s10 (1 : Int32) μ9) (fun (v11 : Int32) (μ12 : zMem) => if v11 = 0 then zin (1 : Int32) 6 (bnd0 (f9_findToday (μ12 4 (1 : Int32).toNatClampNeg) x1 μ12) (fun (v16 : Int32) (μ17 : zMem) => zlet (fun (s18 : Int32) => some (0, s18, μ17)) (fun j19 => if x2 = 0 then j19 (μ17 0 34) else j19 (μ17 0 35)))) else j5 μ12)) (fun j22 => if v8 = 0 then j22 (1 : Int32) else j22 (0 : Int32))) else j5 μ3)))
set_option maxHeartbeats 1000000 in
theorem t9_today (x1 : Int32) (x2 : Int32) (μ : zMem) : zMR yX9_today cX9_today 3 (some .int) 7 [.ref 0, .int x1, .int x2] 1134 SM μ (f9_today x1 x2 μ) := by
  refine zMR_of (by decide +kernel) rfl (Nat.le_of_ble_eq_true rfl) (L := [.ref 0, .int x1, .int x2]) rfl ?_
  unfold f9_today
  refine z_aload_n (pc := 0) dX9_today_0 rfl ?_
  refine z_iconst (pc := 1) (0 : Int32) dX9_today_1 (by decide) ?_
  refine z_puti (pc := 2) fdX9_106 (by decide) sm_0 rfl rfl dX9_today_2 ?_
  refine z_mem (fun μ1 => ?_)
  refine z_aload_n (pc := 5) dX9_today_5 rfl ?_
  refine z_iload_n (pc := 6) dX9_today_6 rfl ?_
  refine z_callV (As := [.int x1]) (pc := 7) (ret' := some .boolean) kvX9_278 (t9_badAsked _ _) (by decide) (by decide) sm_0  rfl rfl (Nat.le_of_ble_eq_true rfl) dX9_today_7 (fun v2 μ3 => ?_)
  refine z_let (fun (j : zMem → zRes) => ∀ (μ4 : zMem), zR yX9_today cX9_today 3 (some .int) 7 35 [.null, .null, .null] [] 1134 SM μ4 (j μ4)) ?_ (fun j5 hj5 => ?_)
  · intro μ4
    refine z_iconst (pc := 35) (0 : Int32) dX9_today_35 (by decide) ?_
    exact z_iret (pc := 36) rfl dX9_today_36
  · refine z_if_ne (pc := 10) (tgt := 35) dX9_today_10 (by decide) (fun c6 => ?_) (fun c7 => ?_)
    · refine z_loc (L' := [.null, .null, .null]) ⟨Or.inl rfl, ⟨Or.inl rfl, ⟨Or.inl rfl, trivial⟩⟩⟩ ?_
      exact hj5 μ3
    · refine z_aload_n (pc := 13) dX9_today_13 rfl ?_
      refine z_iload_n (pc := 14) dX9_today_14 rfl ?_
      refine z_iconst (pc := 15) (0 : Int32) dX9_today_15 (by decide) ?_
      refine z_iconst (pc := 16) (1 : Int32) dX9_today_16 (by decide) ?_
      refine z_callS (As := [.int x2, .int (0 : Int32), .int (1 : Int32)]) (pc := 17) (ret' := some .boolean) ksX9_140 (t9_in _ _ _ _) (by decide)  rfl rfl (Nat.le_of_ble_eq_true rfl) dX9_today_17 (fun v8 μ9 => ?_)
      refine z_let (fun (j : Int32 → zRes) => ∀ (s10 : Int32), zR yX9_today cX9_today 3 (some .int) 7 28 [.ref 0, .int x1, .int x2] [.int s10, .ref 0] 1134 SM μ9 (j s10)) ?_ (fun j22 hj22 => ?_)
      · intro s10
        refine z_iconst (pc := 28) (1 : Int32) dX9_today_28 (by decide) ?_
        refine z_callV (As := [.int s10, .int (1 : Int32)]) (pc := 29) (ret' := some .boolean) kvX9_188 (t9_bad _ _ _) (by decide) (by decide) sm_0  rfl rfl (Nat.le_of_ble_eq_true rfl) dX9_today_29 (fun v11 μ12 => ?_)
        refine z_if_eq (pc := 32) (tgt := 37) dX9_today_32 (by decide) (fun c13 => ?_) (fun c14 => ?_)
        · refine z_aload_n (pc := 37) dX9_today_37 rfl ?_
          refine z_aload_n (pc := 38) dX9_today_38 rfl ?_
          refine z_getr (pc := 39) fdX9_23 (by decide) sm_0 rfl rfl dX9_today_39 ?_
          refine z_iconst (pc := 42) (1 : Int32) dX9_today_42 (by decide) ?_
          refine z_iald (pc := 43) (by decide) sm_4 rfl dX9_today_43 (fun h15 => ?_)
          refine z_iload_n (pc := 44) dX9_today_44 rfl ?_
          refine z_callV (As := [.int (μ12 4 (1 : Int32).toNatClampNeg), .int x1]) (pc := 45) (ret' := none) kvX9_281 (t9_findToday _ _ _) (by decide) (by decide) sm_0  rfl rfl (Nat.le_of_ble_eq_true rfl) dX9_today_45 (fun v16 μ17 => ?_)
          refine z_iload_n (pc := 48) dX9_today_48 rfl ?_
          refine z_let (fun (j : Int32 → zRes) => ∀ (s18 : Int32), zR yX9_today cX9_today 3 (some .int) 7 63 [.null, .null, .null] [.int s18] 1134 SM μ17 (j s18)) ?_ (fun j19 hj19 => ?_)
          · intro s18
            exact z_iret (pc := 63) rfl dX9_today_63
          · refine z_if_ne (pc := 49) (tgt := 59) dX9_today_49 (by decide) (fun c20 => ?_) (fun c21 => ?_)
            · refine z_aload_n (pc := 59) dX9_today_59 rfl ?_
              refine z_geti (pc := 60) fdX9_266 (by decide) sm_0 rfl dX9_today_60 ?_
              refine z_loc (L' := [.null, .null, .null]) ⟨Or.inl rfl, ⟨Or.inl rfl, ⟨Or.inl rfl, trivial⟩⟩⟩ ?_
              exact hj19 (μ17 0 35)
            · refine z_aload_n (pc := 52) dX9_today_52 rfl ?_
              refine z_geti (pc := 53) fdX9_263 (by decide) sm_0 rfl dX9_today_53 ?_
              refine z_goto (pc := 56) (tgt := 63) dX9_today_56 (by decide) ?_
              refine z_loc (L' := [.null, .null, .null]) ⟨Or.inl rfl, ⟨Or.inl rfl, ⟨Or.inl rfl, trivial⟩⟩⟩ ?_
              exact hj19 (μ17 0 34)
        · refine z_loc (L' := [.null, .null, .null]) ⟨Or.inl rfl, ⟨Or.inl rfl, ⟨Or.inl rfl, trivial⟩⟩⟩ ?_
          exact hj5 μ12
      · refine z_if_ne (pc := 20) (tgt := 27) dX9_today_20 (by decide) (fun c23 => ?_) (fun c24 => ?_)
        · refine z_iconst (pc := 27) (0 : Int32) dX9_today_27 (by decide) ?_
          exact hj22 (0 : Int32)
        · refine z_iconst (pc := 23) (1 : Int32) dX9_today_23 (by decide) ?_
          refine z_goto (pc := 24) (tgt := 28) dX9_today_24 (by decide) ?_
          exact hj22 (1 : Int32)
def f9_canAll_L62 (F : Int32 → Int32 → Int32 → zMem → zRes) (x1 : Int32) (x3 : Int32) (x4 : Int32) (x5 : Int32) (K128 : zMem → zRes) (K120 : zMem → zRes) : Nat → Int32 → zMem → zRes
  | 0, _, _ => none
  | n + 1, x6, μ => zin (1 : Int32) 6 (if (μ 4 (1 : Int32).toNatClampNeg) ≤ x6 then K128 μ else zlet ((zshl (1 : Int32) x5) ||| (zshl (1 : Int32) x6)) (fun (v12 : Int32) => zlet (fun (μ13 : zMem) => f9_canAll_L62 F x1 x3 x4 x5 K128 K120 n (x6 + (1 : Int32)) μ13) (fun j14 => if (x3 &&& v12) = 0 then bnd0 (f9_canBe x4 x5 x6 μ) (fun (v17 : Int32) (μ18 : zMem) => if v17 = 0 then j14 μ18 else bnd0 (F x1 (x4 + (1 : Int32)) (x3 ||| v12) μ18) (fun (v21 : Int32) (μ22 : zMem) => if v21 = 0 then j14 μ22 else K120 μ22)) else j14 μ)))
def f9_canAll_L45 (F : Int32 → Int32 → Int32 → zMem → zRes) (x1 : Int32) (x3 : Int32) (x4 : Int32) (K134 : zMem → zRes) (K120 : zMem → zRes) : Nat → Int32 → zMem → zRes
  | 0, _, _ => none
  | n + 1, x5, μ => zin (1 : Int32) 6 (if (μ 4 (1 : Int32).toNatClampNeg) ≤ x5 then K134 μ else zlet (x5 + (1 : Int32)) (fun (v8 : Int32) => f9_canAll_L62 F x1 x3 x4 x5 (fun (μ25 : zMem) => f9_canAll_L45 F x1 x3 x4 K134 K120 n (x5 + (1 : Int32)) μ25) (fun (μ26 : zMem) => K120 μ26) zF v8 μ))
def f9_canAll_L3 (F : Int32 → Int32 → Int32 → zMem → zRes) (x1 : Int32) (μ : zMem) (K29 : Int32 → zRes) : Nat → Int32 → zRes
  | 0, _ => none
  | n + 1, x4 => zin (2 : Int32) 6 (if (μ 4 (2 : Int32).toNatClampNeg) ≤ x4 then K29 x4 else if ((zshr x1 x4) &&& (1 : Int32)) = 0 then f9_canAll_L3 F x1 μ K29 n (x4 + (1 : Int32)) else K29 x4)
def f9_canAllB (F : Int32 → Int32 → Int32 → zMem → zRes) (x1 : Int32) (x2 : Int32) (x3 : Int32) (μ : zMem) : zRes := zlet (fun (x4_1 : Int32) => zin (2 : Int32) 6 (if x4_1 = (μ 4 (2 : Int32).toNatClampNeg) then some (0, (1 : Int32), μ) else f9_canAll_L45 F x1 x3 x4_1 (fun (μ27 : zMem) => some (0, (0 : Int32), μ27)) (fun (μ28 : zMem) => some (0, (1 : Int32), μ28)) zF (0 : Int32) μ)) (fun j29 => f9_canAll_L3 F x1 μ (fun (x4_35 : Int32) => j29 x4_35) zF x2)
def f9_canAll : Nat → Int32 → Int32 → Int32 → zMem → zRes
  | 0, _, _, _, _ => none
  | n + 1, x1, x2, x3, μ => f9_canAllB  (f9_canAll n) x1 x2 x3 μ
set_option maxHeartbeats 1000000 in
theorem t9_canAll_L62 {d dd : Nat} (hd1 : dd + 1 ≤ d) (hd2 : 5 ≤ d) (F : Int32 → Int32 → Int32 → zMem → zRes) (hF : ∀ (x1 : Int32) (x2 : Int32) (x3 : Int32) (μ : zMem), zMR yX9_canAll cX9_canAll 8 (some .boolean) dd [.ref 0, .int x1, .int x2, .int x3] 1134 SM μ (F x1 x2 x3 μ)) (x1 : Int32) (x3 : Int32) (x4 : Int32) (x5 : Int32) (K128 : zMem → zRes) (K120 : zMem → zRes) (hK128 : ∀ (μ : zMem), zR yX9_canAll cX9_canAll 8 (some .boolean) d 128 [.ref 0, .int x1, .null, .int x3, .int x4, .int x5, .null, .null] [] 1134 SM μ (K128 μ)) (hK120 : ∀ (μ : zMem), zR yX9_canAll cX9_canAll 8 (some .boolean) d 120 [.null, .null, .null, .null, .null, .null, .null, .null] [] 1134 SM μ (K120 μ)) : ∀ (n : Nat) (x6 : Int32) (μ : zMem), zR yX9_canAll cX9_canAll 8 (some .boolean) d 62 [.ref 0, .int x1, .null, .int x3, .int x4, .int x5, .int x6, .null] [] 1134 SM μ (f9_canAll_L62 F x1 x3 x4 x5 K128 K120 n x6 μ) := by
  intro n
  induction n with
  | zero => intro x6 μ; intro q hq; cases hq
  | succ n ih =>
    intro x6 μ
    unfold f9_canAll_L62
    refine z_iload (pc := 62) dX9_canAll_62 rfl ?_
    refine z_aload_n (pc := 64) dX9_canAll_64 rfl ?_
    refine z_getr (pc := 65) fdX9_23 (by decide) sm_0 rfl rfl dX9_canAll_65 ?_
    refine z_iconst (pc := 68) (1 : Int32) dX9_canAll_68 (by decide) ?_
    refine z_iald (pc := 69) (by decide) sm_4 rfl dX9_canAll_69 (fun h9 => ?_)
    refine z_icmp_ge (pc := 70) (tgt := 128) dX9_canAll_70 (by decide) (fun c10 => ?_) (fun c11 => ?_)
    · refine z_loc (L' := [.ref 0, .int x1, .null, .int x3, .int x4, .int x5, .null, .null]) ⟨Or.inr rfl, ⟨Or.inr rfl, ⟨Or.inl rfl, ⟨Or.inr rfl, ⟨Or.inr rfl, ⟨Or.inr rfl, ⟨Or.inl rfl, ⟨Or.inl rfl, trivial⟩⟩⟩⟩⟩⟩⟩⟩ ?_
      exact hK128 μ
    · refine z_iconst (pc := 73) (1 : Int32) dX9_canAll_73 (by decide) ?_
      refine z_iload (pc := 74) dX9_canAll_74 rfl ?_
      refine z_ishl (pc := 76) dX9_canAll_76 ?_
      refine z_iconst (pc := 77) (1 : Int32) dX9_canAll_77 (by decide) ?_
      refine z_iload (pc := 78) dX9_canAll_78 rfl ?_
      refine z_ishl (pc := 80) dX9_canAll_80 ?_
      refine z_ior (pc := 81) dX9_canAll_81 ?_
      refine z_val (fun v12 => ?_)
      refine z_istore (pc := 82) (L' := [.ref 0, .int x1, .null, .int x3, .int x4, .int x5, .int x6, .int v12]) dX9_canAll_82 (by decide) rfl ?_
      refine z_iload_n (pc := 84) dX9_canAll_84 rfl ?_
      refine z_iload (pc := 85) dX9_canAll_85 rfl ?_
      refine z_iand (pc := 87) dX9_canAll_87 ?_
      refine z_let (fun (j : zMem → zRes) => ∀ (μ13 : zMem), zR yX9_canAll cX9_canAll 8 (some .boolean) d 122 [.ref 0, .int x1, .null, .int x3, .int x4, .int x5, .int x6, .null] [] 1134 SM μ13 (j μ13)) ?_ (fun j14 hj14 => ?_)
      · intro μ13
        refine z_iinc (pc := 122) (v := x6 + (1 : Int32)) (L' := [.ref 0, .int x1, .null, .int x3, .int x4, .int x5, .int (x6 + (1 : Int32)), .null]) dX9_canAll_122 (by decide) rfl (congrArg _ (by decide)) rfl ?_
        refine z_goto (pc := 125) (tgt := 62) dX9_canAll_125 (by decide) ?_
        exact ih (x6 + (1 : Int32)) μ13
      · refine z_if_ne (pc := 88) (tgt := 122) dX9_canAll_88 (by decide) (fun c15 => ?_) (fun c16 => ?_)
        · refine z_loc (L' := [.ref 0, .int x1, .null, .int x3, .int x4, .int x5, .int x6, .null]) ⟨Or.inr rfl, ⟨Or.inr rfl, ⟨Or.inl rfl, ⟨Or.inr rfl, ⟨Or.inr rfl, ⟨Or.inr rfl, ⟨Or.inr rfl, ⟨Or.inl rfl, trivial⟩⟩⟩⟩⟩⟩⟩⟩ ?_
          exact hj14 μ
        · refine z_aload_n (pc := 91) dX9_canAll_91 rfl ?_
          refine z_iload (pc := 92) dX9_canAll_92 rfl ?_
          refine z_iload (pc := 94) dX9_canAll_94 rfl ?_
          refine z_iload (pc := 96) dX9_canAll_96 rfl ?_
          refine z_callV (As := [.int x4, .int x5, .int x6]) (pc := 98) (ret' := some .boolean) kvX9_275 (t9_canBe _ _ _ _) (Nat.le_trans (by decide) hd2) (by decide) sm_0  rfl rfl (Nat.le_of_ble_eq_true rfl) dX9_canAll_98 (fun v17 μ18 => ?_)
          refine z_if_eq (pc := 101) (tgt := 122) dX9_canAll_101 (by decide) (fun c19 => ?_) (fun c20 => ?_)
          · refine z_loc (L' := [.ref 0, .int x1, .null, .int x3, .int x4, .int x5, .int x6, .null]) ⟨Or.inr rfl, ⟨Or.inr rfl, ⟨Or.inl rfl, ⟨Or.inr rfl, ⟨Or.inr rfl, ⟨Or.inr rfl, ⟨Or.inr rfl, ⟨Or.inl rfl, trivial⟩⟩⟩⟩⟩⟩⟩⟩ ?_
            exact hj14 μ18
          · refine z_aload_n (pc := 104) dX9_canAll_104 rfl ?_
            refine z_iload_n (pc := 105) dX9_canAll_105 rfl ?_
            refine z_iload (pc := 106) dX9_canAll_106 rfl ?_
            refine z_iconst (pc := 108) (1 : Int32) dX9_canAll_108 (by decide) ?_
            refine z_iadd (pc := 109) dX9_canAll_109 ?_
            refine z_iload_n (pc := 110) dX9_canAll_110 rfl ?_
            refine z_iload (pc := 111) dX9_canAll_111 rfl ?_
            refine z_ior (pc := 113) dX9_canAll_113 ?_
            refine z_callV (As := [.int x1, .int (x4 + (1 : Int32)), .int (x3 ||| v12)]) (pc := 114) (ret' := some .boolean) kvX9_284 (hF _ _ _ _) hd1 (by decide) sm_0  rfl rfl (Nat.le_of_ble_eq_true rfl) dX9_canAll_114 (fun v21 μ22 => ?_)
            refine z_if_eq (pc := 117) (tgt := 122) dX9_canAll_117 (by decide) (fun c23 => ?_) (fun c24 => ?_)
            · refine z_loc (L' := [.ref 0, .int x1, .null, .int x3, .int x4, .int x5, .int x6, .null]) ⟨Or.inr rfl, ⟨Or.inr rfl, ⟨Or.inl rfl, ⟨Or.inr rfl, ⟨Or.inr rfl, ⟨Or.inr rfl, ⟨Or.inr rfl, ⟨Or.inl rfl, trivial⟩⟩⟩⟩⟩⟩⟩⟩ ?_
              exact hj14 μ22
            · refine z_loc (L' := [.null, .null, .null, .null, .null, .null, .null, .null]) ⟨Or.inl rfl, ⟨Or.inl rfl, ⟨Or.inl rfl, ⟨Or.inl rfl, ⟨Or.inl rfl, ⟨Or.inl rfl, ⟨Or.inl rfl, ⟨Or.inl rfl, trivial⟩⟩⟩⟩⟩⟩⟩⟩ ?_
              exact hK120 μ22
set_option maxHeartbeats 1000000 in
theorem t9_canAll_L45 {d dd : Nat} (hd1 : dd + 1 ≤ d) (hd2 : 5 ≤ d) (F : Int32 → Int32 → Int32 → zMem → zRes) (hF : ∀ (x1 : Int32) (x2 : Int32) (x3 : Int32) (μ : zMem), zMR yX9_canAll cX9_canAll 8 (some .boolean) dd [.ref 0, .int x1, .int x2, .int x3] 1134 SM μ (F x1 x2 x3 μ)) (x1 : Int32) (x3 : Int32) (x4 : Int32) (K134 : zMem → zRes) (K120 : zMem → zRes) (hK134 : ∀ (μ : zMem), zR yX9_canAll cX9_canAll 8 (some .boolean) d 134 [.null, .null, .null, .null, .null, .null, .null, .null] [] 1134 SM μ (K134 μ)) (hK120 : ∀ (μ : zMem), zR yX9_canAll cX9_canAll 8 (some .boolean) d 120 [.null, .null, .null, .null, .null, .null, .null, .null] [] 1134 SM μ (K120 μ)) : ∀ (n : Nat) (x5 : Int32) (μ : zMem), zR yX9_canAll cX9_canAll 8 (some .boolean) d 45 [.ref 0, .int x1, .null, .int x3, .int x4, .int x5, .null, .null] [] 1134 SM μ (f9_canAll_L45 F x1 x3 x4 K134 K120 n x5 μ) := by
  intro n
  induction n with
  | zero => intro x5 μ; intro q hq; cases hq
  | succ n ih =>
    intro x5 μ
    unfold f9_canAll_L45
    refine z_iload (pc := 45) dX9_canAll_45 rfl ?_
    refine z_aload_n (pc := 47) dX9_canAll_47 rfl ?_
    refine z_getr (pc := 48) fdX9_23 (by decide) sm_0 rfl rfl dX9_canAll_48 ?_
    refine z_iconst (pc := 51) (1 : Int32) dX9_canAll_51 (by decide) ?_
    refine z_iald (pc := 52) (by decide) sm_4 rfl dX9_canAll_52 (fun h5 => ?_)
    refine z_icmp_ge (pc := 53) (tgt := 134) dX9_canAll_53 (by decide) (fun c6 => ?_) (fun c7 => ?_)
    · refine z_loc (L' := [.null, .null, .null, .null, .null, .null, .null, .null]) ⟨Or.inl rfl, ⟨Or.inl rfl, ⟨Or.inl rfl, ⟨Or.inl rfl, ⟨Or.inl rfl, ⟨Or.inl rfl, ⟨Or.inl rfl, ⟨Or.inl rfl, trivial⟩⟩⟩⟩⟩⟩⟩⟩ ?_
      exact hK134 μ
    · refine z_iload (pc := 56) dX9_canAll_56 rfl ?_
      refine z_iconst (pc := 58) (1 : Int32) dX9_canAll_58 (by decide) ?_
      refine z_iadd (pc := 59) dX9_canAll_59 ?_
      refine z_val (fun v8 => ?_)
      refine z_istore (pc := 60) (L' := [.ref 0, .int x1, .null, .int x3, .int x4, .int x5, .int v8, .null]) dX9_canAll_60 (by decide) rfl ?_
      refine t9_canAll_L62 hd1 hd2 _ hF _ _ _ _ _ _ (fun μ25 => ?_) (fun μ26 => ?_) zF _ _
      · refine z_iinc (pc := 128) (v := x5 + (1 : Int32)) (L' := [.ref 0, .int x1, .null, .int x3, .int x4, .int (x5 + (1 : Int32)), .null, .null]) dX9_canAll_128 (by decide) rfl (congrArg _ (by decide)) rfl ?_
        refine z_goto (pc := 131) (tgt := 45) dX9_canAll_131 (by decide) ?_
        exact ih (x5 + (1 : Int32)) μ25
      · exact hK120 μ26
set_option maxHeartbeats 1000000 in
theorem t9_canAll_L3 {d dd : Nat} (hd1 : dd + 1 ≤ d) (hd2 : 5 ≤ d) (F : Int32 → Int32 → Int32 → zMem → zRes) (hF : ∀ (x1 : Int32) (x2 : Int32) (x3 : Int32) (μ : zMem), zMR yX9_canAll cX9_canAll 8 (some .boolean) dd [.ref 0, .int x1, .int x2, .int x3] 1134 SM μ (F x1 x2 x3 μ)) (x1 : Int32) (x3 : Int32) (μ : zMem) (K29 : Int32 → zRes) (hK29 : ∀ (x4 : Int32), zR yX9_canAll cX9_canAll 8 (some .boolean) d 29 [.ref 0, .int x1, .null, .int x3, .int x4, .null, .null, .null] [] 1134 SM μ (K29 x4)) : ∀ (n : Nat) (x4 : Int32), zR yX9_canAll cX9_canAll 8 (some .boolean) d 3 [.ref 0, .int x1, .null, .int x3, .int x4, .null, .null, .null] [] 1134 SM μ (f9_canAll_L3 F x1 μ K29 n x4) := by
  intro n
  induction n with
  | zero => intro x4; intro q hq; cases hq
  | succ n ih =>
    intro x4
    unfold f9_canAll_L3
    refine z_iload (pc := 3) dX9_canAll_3 rfl ?_
    refine z_aload_n (pc := 5) dX9_canAll_5 rfl ?_
    refine z_getr (pc := 6) fdX9_23 (by decide) sm_0 rfl rfl dX9_canAll_6 ?_
    refine z_iconst (pc := 9) (2 : Int32) dX9_canAll_9 (by decide) ?_
    refine z_iald (pc := 10) (by decide) sm_4 rfl dX9_canAll_10 (fun h30 => ?_)
    refine z_icmp_ge (pc := 11) (tgt := 29) dX9_canAll_11 (by decide) (fun c31 => ?_) (fun c32 => ?_)
    · exact hK29 x4
    · refine z_iload_n (pc := 14) dX9_canAll_14 rfl ?_
      refine z_iload (pc := 15) dX9_canAll_15 rfl ?_
      refine z_ishr (pc := 17) dX9_canAll_17 ?_
      refine z_iconst (pc := 18) (1 : Int32) dX9_canAll_18 (by decide) ?_
      refine z_iand (pc := 19) dX9_canAll_19 ?_
      refine z_if_ne (pc := 20) (tgt := 29) dX9_canAll_20 (by decide) (fun c33 => ?_) (fun c34 => ?_)
      · exact hK29 x4
      · refine z_iinc (pc := 23) (v := x4 + (1 : Int32)) (L' := [.ref 0, .int x1, .null, .int x3, .int (x4 + (1 : Int32)), .null, .null, .null]) dX9_canAll_23 (by decide) rfl (congrArg _ (by decide)) rfl ?_
        refine z_goto (pc := 26) (tgt := 3) dX9_canAll_26 (by decide) ?_
        exact ih (x4 + (1 : Int32))
set_option maxHeartbeats 1000000 in
theorem t9_canAllB {d dd : Nat} (hd1 : dd + 1 ≤ d) (hd2 : 5 ≤ d) (F : Int32 → Int32 → Int32 → zMem → zRes) (hF : ∀ (x1 : Int32) (x2 : Int32) (x3 : Int32) (μ : zMem), zMR yX9_canAll cX9_canAll 8 (some .boolean) dd [.ref 0, .int x1, .int x2, .int x3] 1134 SM μ (F x1 x2 x3 μ)) (x1 : Int32) (x2 : Int32) (x3 : Int32) (μ : zMem) : zMR yX9_canAll cX9_canAll 8 (some .boolean) d [.ref 0, .int x1, .int x2, .int x3] 1134 SM μ (f9_canAllB F x1 x2 x3 μ) := by
  refine zMR_of (by decide +kernel) rfl (Nat.le_of_ble_eq_true rfl) (L := [.ref 0, .int x1, .int x2, .int x3, .null, .null, .null, .null]) rfl ?_
  unfold f9_canAllB
  refine z_iload_n (pc := 0) dX9_canAll_0 rfl ?_
  refine z_istore (pc := 1) (L' := [.ref 0, .int x1, .int x2, .int x3, .int x2, .null, .null, .null]) dX9_canAll_1 (by decide) rfl ?_
  refine z_let (fun (j : Int32 → zRes) => ∀ (x4_1 : Int32), zR yX9_canAll cX9_canAll 8 (some .boolean) d 29 [.ref 0, .int x1, .null, .int x3, .int x4_1, .null, .null, .null] [] 1134 SM μ (j x4_1)) ?_ (fun j29 hj29 => ?_)
  · intro x4_1
    refine z_iload (pc := 29) dX9_canAll_29 rfl ?_
    refine z_aload_n (pc := 31) dX9_canAll_31 rfl ?_
    refine z_getr (pc := 32) fdX9_23 (by decide) sm_0 rfl rfl dX9_canAll_32 ?_
    refine z_iconst (pc := 35) (2 : Int32) dX9_canAll_35 (by decide) ?_
    refine z_iald (pc := 36) (by decide) sm_4 rfl dX9_canAll_36 (fun h2 => ?_)
    refine z_icmp_ne (pc := 37) (tgt := 42) dX9_canAll_37 (by decide) (fun c3 => ?_) (fun c4 => ?_)
    · refine z_iconst (pc := 42) (0 : Int32) dX9_canAll_42 (by decide) ?_
      refine z_istore (pc := 43) (L' := [.ref 0, .int x1, .null, .int x3, .int x4_1, .int (0 : Int32), .null, .null]) dX9_canAll_43 (by decide) rfl ?_
      refine t9_canAll_L45 hd1 hd2 _ hF _ _ _ _ _ (fun μ27 => ?_) (fun μ28 => ?_) zF _ _
      · refine z_iconst (pc := 134) (0 : Int32) dX9_canAll_134 (by decide) ?_
        exact z_zretc (pc := 135) rfl (Or.inl rfl) dX9_canAll_135
      · refine z_iconst (pc := 120) (1 : Int32) dX9_canAll_120 (by decide) ?_
        exact z_zretc (pc := 121) rfl (Or.inr rfl) dX9_canAll_121
    · refine z_iconst (pc := 40) (1 : Int32) dX9_canAll_40 (by decide) ?_
      exact z_zretc (pc := 41) rfl (Or.inr rfl) dX9_canAll_41
  · refine z_loc (L' := [.ref 0, .int x1, .null, .int x3, .int x2, .null, .null, .null]) ⟨Or.inr rfl, ⟨Or.inr rfl, ⟨Or.inl rfl, ⟨Or.inr rfl, ⟨Or.inr rfl, ⟨Or.inl rfl, ⟨Or.inl rfl, ⟨Or.inl rfl, trivial⟩⟩⟩⟩⟩⟩⟩⟩ ?_
    refine t9_canAll_L3 hd1 hd2 _ hF _ _ _ _ (fun x4_35 => ?_) zF _
    · exact hj29 x4_35
theorem t9_canAll : ∀ (n : Nat) (x1 : Int32) (x2 : Int32) (x3 : Int32) (μ : zMem), zMR yX9_canAll cX9_canAll 8 (some .boolean) (n + 5) [.ref 0, .int x1, .int x2, .int x3] 1134 SM μ (f9_canAll n x1 x2 x3 μ) := by
  intro n
  induction n with
  | zero => intro x1 x2 x3 μ q hq; cases hq
  | succ n ih =>
    intro x1 x2 x3 μ
    exact t9_canAllB (by omega) (by omega) _ ih x1 x2 x3 μ
def f9_findPairs_L24 (x1 : Int32) (x2 : Int32) (x3 : Int32) (K150 : zMem → zRes) : Nat → Int32 → zMem → zRes
  | 0, _, _ => none
  | n + 1, x4, μ => if (64 : Int32) ≤ x4 then K150 μ else if ((zshr x1 x3) &&& (1 : Int32)) = (1 : Int32) then zin x3 10 (if (μ 1126 x3.toNatClampNeg) = (-1 : Int32) then zlet (x4 / (8 : Int32)) (fun (v23 : Int32) => zlet (zrem x4 (8 : Int32)) (fun (v24 : Int32) => zlet ((zshl (1 : Int32) v23) ||| (zshl (1 : Int32) v24)) (fun (v25 : Int32) => zlet (fun (μ26 : zMem) => f9_findPairs_L24 x1 x2 x3 K150 n (x4 + (1 : Int32)) μ26) (fun j27 => if v24 ≤ v23 then j27 μ else zin (1 : Int32) 6 (if (μ 4 (1 : Int32).toNatClampNeg) ≤ v24 then j27 μ else if (x2 &&& v25) = 0 then bnd0 (f9_canBe x3 v23 v24 μ) (fun (v35 : Int32) (μ36 : zMem) => if v35 = 0 then j27 μ36 else bnd0 (f9_canAll 12 x1 (x3 + (1 : Int32)) (x2 ||| v25) μ36) (fun (v39 : Int32) (μ40 : zMem) => if v39 = 0 then j27 μ40 else zin x3 10 (zlet (zset μ40 1126 x3.toNatClampNeg (((10 : Int32) * v23) + v24)) (fun (μ44 : zMem) => j27 μ44)))) else j27 μ))))) else K150 μ) else K150 μ
def f9_findPairs_L4 (x1 : Int32) (K192 : zMem → zRes) : Nat → Int32 → Int32 → zMem → zRes
  | 0, _, _, _ => none
  | n + 1, x2, x3, μ => zin (2 : Int32) 6 (if (μ 4 (2 : Int32).toNatClampNeg) ≤ x3 then K192 μ else zin x3 10 (zlet (zset μ 1126 x3.toNatClampNeg (-1 : Int32)) (fun (μ5 : zMem) => zlet (fun (μ6 : zMem) => zin x3 10 (zlet (fun (x2_8 : Int32) => f9_findPairs_L4 x1 K192 n x2_8 (x3 + (1 : Int32)) μ6) (fun j9 => if (μ6 1126 x3.toNatClampNeg) = (-1 : Int32) then j9 x2 else zin x3 10 (zin x3 10 (zlet (x2 ||| ((zshl (1 : Int32) ((μ6 1126 x3.toNatClampNeg) / (10 : Int32))) ||| (zshl (1 : Int32) (zrem (μ6 1126 x3.toNatClampNeg) (10 : Int32))))) (fun (v14 : Int32) => j9 v14)))))) (fun j15 => f9_findPairs_L24 x1 x2 x3 (fun (μ45 : zMem) => j15 μ45) zF (0 : Int32) μ5))))
def f9_findPairs (x1 : Int32) (μ : zMem) : zRes := f9_findPairs_L4 x1 (fun (μ46 : zMem) => some (0, 0, μ46)) zF (0 : Int32) (0 : Int32) μ
set_option maxHeartbeats 1000000 in
theorem t9_findPairs_L24 (x1 : Int32) (x2 : Int32) (x3 : Int32) (K150 : zMem → zRes) (hK150 : ∀ (μ : zMem), zR yX9_findPairs cX9_findPairs 8 (none) 18 150 [.ref 0, .int x1, .int x2, .int x3, .null, .null, .null, .null] [] 1134 SM μ (K150 μ)) : ∀ (n : Nat) (x4 : Int32) (μ : zMem), zR yX9_findPairs cX9_findPairs 8 (none) 18 24 [.ref 0, .int x1, .int x2, .int x3, .int x4, .null, .null, .null] [] 1134 SM μ (f9_findPairs_L24 x1 x2 x3 K150 n x4 μ) := by
  intro n
  induction n with
  | zero => intro x4 μ; intro q hq; cases hq
  | succ n ih =>
    intro x4 μ
    unfold f9_findPairs_L24
    refine z_iload (pc := 24) dX9_findPairs_24 rfl ?_
    refine z_bipush (pc := 26) (64 : Int32) dX9_findPairs_26 (by decide) ?_
    refine z_icmp_ge (pc := 28) (tgt := 150) dX9_findPairs_28 (by decide) (fun c16 => ?_) (fun c17 => ?_)
    · refine z_loc (L' := [.ref 0, .int x1, .int x2, .int x3, .null, .null, .null, .null]) ⟨Or.inr rfl, ⟨Or.inr rfl, ⟨Or.inr rfl, ⟨Or.inr rfl, ⟨Or.inl rfl, ⟨Or.inl rfl, ⟨Or.inl rfl, ⟨Or.inl rfl, trivial⟩⟩⟩⟩⟩⟩⟩⟩ ?_
      exact hK150 μ
    · refine z_iload_n (pc := 31) dX9_findPairs_31 rfl ?_
      refine z_iload_n (pc := 32) dX9_findPairs_32 rfl ?_
      refine z_ishr (pc := 33) dX9_findPairs_33 ?_
      refine z_iconst (pc := 34) (1 : Int32) dX9_findPairs_34 (by decide) ?_
      refine z_iand (pc := 35) dX9_findPairs_35 ?_
      refine z_iconst (pc := 36) (1 : Int32) dX9_findPairs_36 (by decide) ?_
      refine z_icmp_ne (pc := 37) (tgt := 150) dX9_findPairs_37 (by decide) (fun c18 => ?_) (fun c19 => ?_)
      · refine z_loc (L' := [.ref 0, .int x1, .int x2, .int x3, .null, .null, .null, .null]) ⟨Or.inr rfl, ⟨Or.inr rfl, ⟨Or.inr rfl, ⟨Or.inr rfl, ⟨Or.inl rfl, ⟨Or.inl rfl, ⟨Or.inl rfl, ⟨Or.inl rfl, trivial⟩⟩⟩⟩⟩⟩⟩⟩ ?_
        exact hK150 μ
      · refine z_aload_n (pc := 40) dX9_findPairs_40 rfl ?_
        refine z_getr (pc := 41) fdX9_82 (by decide) sm_0 rfl rfl dX9_findPairs_41 ?_
        refine z_iload_n (pc := 44) dX9_findPairs_44 rfl ?_
        refine z_iald (pc := 45) (by decide) sm_1126 rfl dX9_findPairs_45 (fun h20 => ?_)
        refine z_iconst (pc := 46) (-1 : Int32) dX9_findPairs_46 (by decide) ?_
        refine z_icmp_ne (pc := 47) (tgt := 150) dX9_findPairs_47 (by decide) (fun c21 => ?_) (fun c22 => ?_)
        · refine z_loc (L' := [.ref 0, .int x1, .int x2, .int x3, .null, .null, .null, .null]) ⟨Or.inr rfl, ⟨Or.inr rfl, ⟨Or.inr rfl, ⟨Or.inr rfl, ⟨Or.inl rfl, ⟨Or.inl rfl, ⟨Or.inl rfl, ⟨Or.inl rfl, trivial⟩⟩⟩⟩⟩⟩⟩⟩ ?_
          exact hK150 μ
        · refine z_iload (pc := 50) dX9_findPairs_50 rfl ?_
          refine z_bipush (pc := 52) (8 : Int32) dX9_findPairs_52 (by decide) ?_
          refine z_idivc (pc := 54) dX9_findPairs_54 (by decide) ?_
          refine z_val (fun v23 => ?_)
          refine z_istore (pc := 55) (L' := [.ref 0, .int x1, .int x2, .int x3, .int x4, .int v23, .null, .null]) dX9_findPairs_55 (by decide) rfl ?_
          refine z_iload (pc := 57) dX9_findPairs_57 rfl ?_
          refine z_bipush (pc := 59) (8 : Int32) dX9_findPairs_59 (by decide) ?_
          refine z_iremc (pc := 61) dX9_findPairs_61 (by decide) ?_
          refine z_val (fun v24 => ?_)
          refine z_istore (pc := 62) (L' := [.ref 0, .int x1, .int x2, .int x3, .int x4, .int v23, .int v24, .null]) dX9_findPairs_62 (by decide) rfl ?_
          refine z_iconst (pc := 64) (1 : Int32) dX9_findPairs_64 (by decide) ?_
          refine z_iload (pc := 65) dX9_findPairs_65 rfl ?_
          refine z_ishl (pc := 67) dX9_findPairs_67 ?_
          refine z_iconst (pc := 68) (1 : Int32) dX9_findPairs_68 (by decide) ?_
          refine z_iload (pc := 69) dX9_findPairs_69 rfl ?_
          refine z_ishl (pc := 71) dX9_findPairs_71 ?_
          refine z_ior (pc := 72) dX9_findPairs_72 ?_
          refine z_val (fun v25 => ?_)
          refine z_istore (pc := 73) (L' := [.ref 0, .int x1, .int x2, .int x3, .int x4, .int v23, .int v24, .int v25]) dX9_findPairs_73 (by decide) rfl ?_
          refine z_iload (pc := 75) dX9_findPairs_75 rfl ?_
          refine z_iload (pc := 77) dX9_findPairs_77 rfl ?_
          refine z_let (fun (j : zMem → zRes) => ∀ (μ26 : zMem), zR yX9_findPairs cX9_findPairs 8 (none) 18 144 [.ref 0, .int x1, .int x2, .int x3, .int x4, .null, .null, .null] [] 1134 SM μ26 (j μ26)) ?_ (fun j27 hj27 => ?_)
          · intro μ26
            refine z_iinc (pc := 144) (v := x4 + (1 : Int32)) (L' := [.ref 0, .int x1, .int x2, .int x3, .int (x4 + (1 : Int32)), .null, .null, .null]) dX9_findPairs_144 (by decide) rfl (congrArg _ (by decide)) rfl ?_
            refine z_goto (pc := 147) (tgt := 24) dX9_findPairs_147 (by decide) ?_
            exact ih (x4 + (1 : Int32)) μ26
          · refine z_icmp_ge (pc := 79) (tgt := 144) dX9_findPairs_79 (by decide) (fun c28 => ?_) (fun c29 => ?_)
            · refine z_loc (L' := [.ref 0, .int x1, .int x2, .int x3, .int x4, .null, .null, .null]) ⟨Or.inr rfl, ⟨Or.inr rfl, ⟨Or.inr rfl, ⟨Or.inr rfl, ⟨Or.inr rfl, ⟨Or.inl rfl, ⟨Or.inl rfl, ⟨Or.inl rfl, trivial⟩⟩⟩⟩⟩⟩⟩⟩ ?_
              exact hj27 μ
            · refine z_iload (pc := 82) dX9_findPairs_82 rfl ?_
              refine z_aload_n (pc := 84) dX9_findPairs_84 rfl ?_
              refine z_getr (pc := 85) fdX9_23 (by decide) sm_0 rfl rfl dX9_findPairs_85 ?_
              refine z_iconst (pc := 88) (1 : Int32) dX9_findPairs_88 (by decide) ?_
              refine z_iald (pc := 89) (by decide) sm_4 rfl dX9_findPairs_89 (fun h30 => ?_)
              refine z_icmp_ge (pc := 90) (tgt := 144) dX9_findPairs_90 (by decide) (fun c31 => ?_) (fun c32 => ?_)
              · refine z_loc (L' := [.ref 0, .int x1, .int x2, .int x3, .int x4, .null, .null, .null]) ⟨Or.inr rfl, ⟨Or.inr rfl, ⟨Or.inr rfl, ⟨Or.inr rfl, ⟨Or.inr rfl, ⟨Or.inl rfl, ⟨Or.inl rfl, ⟨Or.inl rfl, trivial⟩⟩⟩⟩⟩⟩⟩⟩ ?_
                exact hj27 μ
              · refine z_iload_n (pc := 93) dX9_findPairs_93 rfl ?_
                refine z_iload (pc := 94) dX9_findPairs_94 rfl ?_
                refine z_iand (pc := 96) dX9_findPairs_96 ?_
                refine z_if_ne (pc := 97) (tgt := 144) dX9_findPairs_97 (by decide) (fun c33 => ?_) (fun c34 => ?_)
                · refine z_loc (L' := [.ref 0, .int x1, .int x2, .int x3, .int x4, .null, .null, .null]) ⟨Or.inr rfl, ⟨Or.inr rfl, ⟨Or.inr rfl, ⟨Or.inr rfl, ⟨Or.inr rfl, ⟨Or.inl rfl, ⟨Or.inl rfl, ⟨Or.inl rfl, trivial⟩⟩⟩⟩⟩⟩⟩⟩ ?_
                  exact hj27 μ
                · refine z_aload_n (pc := 100) dX9_findPairs_100 rfl ?_
                  refine z_iload_n (pc := 101) dX9_findPairs_101 rfl ?_
                  refine z_iload (pc := 102) dX9_findPairs_102 rfl ?_
                  refine z_iload (pc := 104) dX9_findPairs_104 rfl ?_
                  refine z_callV (As := [.int x3, .int v23, .int v24]) (pc := 106) (ret' := some .boolean) kvX9_275 (t9_canBe _ _ _ _) (by decide) (by decide) sm_0  rfl rfl (Nat.le_of_ble_eq_true rfl) dX9_findPairs_106 (fun v35 μ36 => ?_)
                  refine z_if_eq (pc := 109) (tgt := 144) dX9_findPairs_109 (by decide) (fun c37 => ?_) (fun c38 => ?_)
                  · refine z_loc (L' := [.ref 0, .int x1, .int x2, .int x3, .int x4, .null, .null, .null]) ⟨Or.inr rfl, ⟨Or.inr rfl, ⟨Or.inr rfl, ⟨Or.inr rfl, ⟨Or.inr rfl, ⟨Or.inl rfl, ⟨Or.inl rfl, ⟨Or.inl rfl, trivial⟩⟩⟩⟩⟩⟩⟩⟩ ?_
                    exact hj27 μ36
                  · refine z_aload_n (pc := 112) dX9_findPairs_112 rfl ?_
                    refine z_iload_n (pc := 113) dX9_findPairs_113 rfl ?_
                    refine z_iload_n (pc := 114) dX9_findPairs_114 rfl ?_
                    refine z_iconst (pc := 115) (1 : Int32) dX9_findPairs_115 (by decide) ?_
                    refine z_iadd (pc := 116) dX9_findPairs_116 ?_
                    refine z_iload_n (pc := 117) dX9_findPairs_117 rfl ?_
                    refine z_iload (pc := 118) dX9_findPairs_118 rfl ?_
                    refine z_ior (pc := 120) dX9_findPairs_120 ?_
                    refine z_callV (As := [.int x1, .int (x3 + (1 : Int32)), .int (x2 ||| v25)]) (pc := 121) (ret' := some .boolean) kvX9_284 (t9_canAll 12 _ _ _ _) (by decide) (by decide) sm_0  rfl rfl (Nat.le_of_ble_eq_true rfl) dX9_findPairs_121 (fun v39 μ40 => ?_)
                    refine z_if_ne (pc := 124) (tgt := 130) dX9_findPairs_124 (by decide) (fun c41 => ?_) (fun c42 => ?_)
                    · refine z_aload_n (pc := 130) dX9_findPairs_130 rfl ?_
                      refine z_getr (pc := 131) fdX9_82 (by decide) sm_0 rfl rfl dX9_findPairs_131 ?_
                      refine z_iload_n (pc := 134) dX9_findPairs_134 rfl ?_
                      refine z_bipush (pc := 135) (10 : Int32) dX9_findPairs_135 (by decide) ?_
                      refine z_iload (pc := 137) dX9_findPairs_137 rfl ?_
                      refine z_imul (pc := 139) dX9_findPairs_139 ?_
                      refine z_iload (pc := 140) dX9_findPairs_140 rfl ?_
                      refine z_iadd (pc := 142) dX9_findPairs_142 ?_
                      refine z_iast (pc := 143) (by decide) sm_1126 rfl dX9_findPairs_143 (fun h43 => ?_)
                      refine z_mem (fun μ44 => ?_)
                      refine z_loc (L' := [.ref 0, .int x1, .int x2, .int x3, .int x4, .null, .null, .null]) ⟨Or.inr rfl, ⟨Or.inr rfl, ⟨Or.inr rfl, ⟨Or.inr rfl, ⟨Or.inr rfl, ⟨Or.inl rfl, ⟨Or.inl rfl, ⟨Or.inl rfl, trivial⟩⟩⟩⟩⟩⟩⟩⟩ ?_
                      exact hj27 μ44
                    · refine z_goto (pc := 127) (tgt := 144) dX9_findPairs_127 (by decide) ?_
                      refine z_loc (L' := [.ref 0, .int x1, .int x2, .int x3, .int x4, .null, .null, .null]) ⟨Or.inr rfl, ⟨Or.inr rfl, ⟨Or.inr rfl, ⟨Or.inr rfl, ⟨Or.inr rfl, ⟨Or.inl rfl, ⟨Or.inl rfl, ⟨Or.inl rfl, trivial⟩⟩⟩⟩⟩⟩⟩⟩ ?_
                      exact hj27 μ40
set_option maxHeartbeats 1000000 in
theorem t9_findPairs_L4 (x1 : Int32) (K192 : zMem → zRes) (hK192 : ∀ (μ : zMem), zR yX9_findPairs cX9_findPairs 8 (none) 18 192 [.null, .null, .null, .null, .null, .null, .null, .null] [] 1134 SM μ (K192 μ)) : ∀ (n : Nat) (x2 : Int32) (x3 : Int32) (μ : zMem), zR yX9_findPairs cX9_findPairs 8 (none) 18 4 [.ref 0, .int x1, .int x2, .int x3, .null, .null, .null, .null] [] 1134 SM μ (f9_findPairs_L4 x1 K192 n x2 x3 μ) := by
  intro n
  induction n with
  | zero => intro x2 x3 μ; intro q hq; cases hq
  | succ n ih =>
    intro x2 x3 μ
    unfold f9_findPairs_L4
    refine z_iload_n (pc := 4) dX9_findPairs_4 rfl ?_
    refine z_aload_n (pc := 5) dX9_findPairs_5 rfl ?_
    refine z_getr (pc := 6) fdX9_23 (by decide) sm_0 rfl rfl dX9_findPairs_6 ?_
    refine z_iconst (pc := 9) (2 : Int32) dX9_findPairs_9 (by decide) ?_
    refine z_iald (pc := 10) (by decide) sm_4 rfl dX9_findPairs_10 (fun h1 => ?_)
    refine z_icmp_ge (pc := 11) (tgt := 192) dX9_findPairs_11 (by decide) (fun c2 => ?_) (fun c3 => ?_)
    · refine z_loc (L' := [.null, .null, .null, .null, .null, .null, .null, .null]) ⟨Or.inl rfl, ⟨Or.inl rfl, ⟨Or.inl rfl, ⟨Or.inl rfl, ⟨Or.inl rfl, ⟨Or.inl rfl, ⟨Or.inl rfl, ⟨Or.inl rfl, trivial⟩⟩⟩⟩⟩⟩⟩⟩ ?_
      exact hK192 μ
    · refine z_aload_n (pc := 14) dX9_findPairs_14 rfl ?_
      refine z_getr (pc := 15) fdX9_82 (by decide) sm_0 rfl rfl dX9_findPairs_15 ?_
      refine z_iload_n (pc := 18) dX9_findPairs_18 rfl ?_
      refine z_iconst (pc := 19) (-1 : Int32) dX9_findPairs_19 (by decide) ?_
      refine z_iast (pc := 20) (by decide) sm_1126 rfl dX9_findPairs_20 (fun h4 => ?_)
      refine z_mem (fun μ5 => ?_)
      refine z_iconst (pc := 21) (0 : Int32) dX9_findPairs_21 (by decide) ?_
      refine z_istore (pc := 22) (L' := [.ref 0, .int x1, .int x2, .int x3, .int (0 : Int32), .null, .null, .null]) dX9_findPairs_22 (by decide) rfl ?_
      refine z_let (fun (j : zMem → zRes) => ∀ (μ6 : zMem), zR yX9_findPairs cX9_findPairs 8 (none) 18 150 [.ref 0, .int x1, .int x2, .int x3, .null, .null, .null, .null] [] 1134 SM μ6 (j μ6)) ?_ (fun j15 hj15 => ?_)
      · intro μ6
        refine z_aload_n (pc := 150) dX9_findPairs_150 rfl ?_
        refine z_getr (pc := 151) fdX9_82 (by decide) sm_0 rfl rfl dX9_findPairs_151 ?_
        refine z_iload_n (pc := 154) dX9_findPairs_154 rfl ?_
        refine z_iald (pc := 155) (by decide) sm_1126 rfl dX9_findPairs_155 (fun h7 => ?_)
        refine z_iconst (pc := 156) (-1 : Int32) dX9_findPairs_156 (by decide) ?_
        refine z_let (fun (j : Int32 → zRes) => ∀ (x2_8 : Int32), zR yX9_findPairs cX9_findPairs 8 (none) 18 186 [.ref 0, .int x1, .int x2_8, .int x3, .null, .null, .null, .null] [] 1134 SM μ6 (j x2_8)) ?_ (fun j9 hj9 => ?_)
        · intro x2_8
          refine z_iinc (pc := 186) (v := x3 + (1 : Int32)) (L' := [.ref 0, .int x1, .int x2_8, .int (x3 + (1 : Int32)), .null, .null, .null, .null]) dX9_findPairs_186 (by decide) rfl (congrArg _ (by decide)) rfl ?_
          refine z_goto (pc := 189) (tgt := 4) dX9_findPairs_189 (by decide) ?_
          exact ih x2_8 (x3 + (1 : Int32)) μ6
        · refine z_icmp_eq (pc := 157) (tgt := 186) dX9_findPairs_157 (by decide) (fun c10 => ?_) (fun c11 => ?_)
          · exact hj9 x2
          · refine z_iload_n (pc := 160) dX9_findPairs_160 rfl ?_
            refine z_iconst (pc := 161) (1 : Int32) dX9_findPairs_161 (by decide) ?_
            refine z_aload_n (pc := 162) dX9_findPairs_162 rfl ?_
            refine z_getr (pc := 163) fdX9_82 (by decide) sm_0 rfl rfl dX9_findPairs_163 ?_
            refine z_iload_n (pc := 166) dX9_findPairs_166 rfl ?_
            refine z_iald (pc := 167) (by decide) sm_1126 rfl dX9_findPairs_167 (fun h12 => ?_)
            refine z_bipush (pc := 168) (10 : Int32) dX9_findPairs_168 (by decide) ?_
            refine z_idivc (pc := 170) dX9_findPairs_170 (by decide) ?_
            refine z_ishl (pc := 171) dX9_findPairs_171 ?_
            refine z_iconst (pc := 172) (1 : Int32) dX9_findPairs_172 (by decide) ?_
            refine z_aload_n (pc := 173) dX9_findPairs_173 rfl ?_
            refine z_getr (pc := 174) fdX9_82 (by decide) sm_0 rfl rfl dX9_findPairs_174 ?_
            refine z_iload_n (pc := 177) dX9_findPairs_177 rfl ?_
            refine z_iald (pc := 178) (by decide) sm_1126 rfl dX9_findPairs_178 (fun h13 => ?_)
            refine z_bipush (pc := 179) (10 : Int32) dX9_findPairs_179 (by decide) ?_
            refine z_iremc (pc := 181) dX9_findPairs_181 (by decide) ?_
            refine z_ishl (pc := 182) dX9_findPairs_182 ?_
            refine z_ior (pc := 183) dX9_findPairs_183 ?_
            refine z_ior (pc := 184) dX9_findPairs_184 ?_
            refine z_val (fun v14 => ?_)
            refine z_istore_n (pc := 185) (L' := [.ref 0, .int x1, .int v14, .int x3, .null, .null, .null, .null]) dX9_findPairs_185 (by decide) rfl ?_
            exact hj9 v14
      · refine t9_findPairs_L24 _ _ _ _ (fun μ45 => ?_) zF _ _
        · exact hj15 μ45
set_option maxHeartbeats 1000000 in
theorem t9_findPairs (x1 : Int32) (μ : zMem) : zMR yX9_findPairs cX9_findPairs 8 (none) 18 [.ref 0, .int x1] 1134 SM μ (f9_findPairs x1 μ) := by
  refine zMR_of (by decide +kernel) rfl (Nat.le_of_ble_eq_true rfl) (L := [.ref 0, .int x1, .null, .null, .null, .null, .null, .null]) rfl ?_
  unfold f9_findPairs
  refine z_iconst (pc := 0) (0 : Int32) dX9_findPairs_0 (by decide) ?_
  refine z_istore_n (pc := 1) (L' := [.ref 0, .int x1, .int (0 : Int32), .null, .null, .null, .null, .null]) dX9_findPairs_1 (by decide) rfl ?_
  refine z_iconst (pc := 2) (0 : Int32) dX9_findPairs_2 (by decide) ?_
  refine z_istore_n (pc := 3) (L' := [.ref 0, .int x1, .int (0 : Int32), .int (0 : Int32), .null, .null, .null, .null]) dX9_findPairs_3 (by decide) rfl ?_
  refine t9_findPairs_L4 _ _ (fun μ46 => ?_) zF _ _ _
  · exact z_vret (pc := 192) rfl dX9_findPairs_192
def f9_pair (x1 : Int32) (x2 : Int32) (μ : zMem) : zRes := zlet (zset μ 0 0 (0 : Int32)) (fun (μ1 : zMem) => bnd0 (f9_badAsked x1 μ1) (fun (v2 : Int32) (μ3 : zMem) => zlet (fun (μ4 : zMem) => some (0, (0 : Int32), μ4)) (fun j5 => if v2 = 0 then bnd0 (f9_isDoor x2 μ3) (fun (v8 : Int32) (μ9 : zMem) => zlet (fun (s10 : Int32) => bnd0 (f9_bad s10 (2 : Int32) μ9) (fun (v11 : Int32) (μ12 : zMem) => if v11 = 0 then zin (1 : Int32) 6 (bnd0 (f9_findToday (μ12 4 (1 : Int32).toNatClampNeg) x1 μ12) (fun (v16 : Int32) (μ17 : zMem) => zlet (μ17 0 30) (fun (v18 : Int32) => zlet (fun (s19 : Int32) => zlet (zset μ17 0 30 s19) (fun (μ20 : zMem) => bnd0 (f9_findPairs (μ20 0 35) μ20) (fun (v21 : Int32) (μ22 : zMem) => zlet (zset μ22 0 30 v18) (fun (μ23 : zMem) => zin x2 10 (some (0, μ23 1126 x2.toNatClampNeg, μ23)))))) (fun j25 => if x1 = (-1 : Int32) then j25 (μ17 0 30) else j25 x1)))) else j5 μ12)) (fun j28 => if v8 = 0 then j28 (1 : Int32) else j28 (0 : Int32))) else j5 μ3)))
set_option maxHeartbeats 1000000 in
theorem t9_pair (x1 : Int32) (x2 : Int32) (μ : zMem) : zMR yX9_pair cX9_pair 4 (some .int) 19 [.ref 0, .int x1, .int x2] 1134 SM μ (f9_pair x1 x2 μ) := by
  refine zMR_of (by decide +kernel) rfl (Nat.le_of_ble_eq_true rfl) (L := [.ref 0, .int x1, .int x2, .null]) rfl ?_
  unfold f9_pair
  refine z_aload_n (pc := 0) dX9_pair_0 rfl ?_
  refine z_iconst (pc := 1) (0 : Int32) dX9_pair_1 (by decide) ?_
  refine z_puti (pc := 2) fdX9_106 (by decide) sm_0 rfl rfl dX9_pair_2 ?_
  refine z_mem (fun μ1 => ?_)
  refine z_aload_n (pc := 5) dX9_pair_5 rfl ?_
  refine z_iload_n (pc := 6) dX9_pair_6 rfl ?_
  refine z_callV (As := [.int x1]) (pc := 7) (ret' := some .boolean) kvX9_278 (t9_badAsked _ _) (by decide) (by decide) sm_0  rfl rfl (Nat.le_of_ble_eq_true rfl) dX9_pair_7 (fun v2 μ3 => ?_)
  refine z_let (fun (j : zMem → zRes) => ∀ (μ4 : zMem), zR yX9_pair cX9_pair 4 (some .int) 19 34 [.null, .null, .null, .null] [] 1134 SM μ4 (j μ4)) ?_ (fun j5 hj5 => ?_)
  · intro μ4
    refine z_iconst (pc := 34) (0 : Int32) dX9_pair_34 (by decide) ?_
    exact z_iret (pc := 35) rfl dX9_pair_35
  · refine z_if_ne (pc := 10) (tgt := 34) dX9_pair_10 (by decide) (fun c6 => ?_) (fun c7 => ?_)
    · refine z_loc (L' := [.null, .null, .null, .null]) ⟨Or.inl rfl, ⟨Or.inl rfl, ⟨Or.inl rfl, ⟨Or.inl rfl, trivial⟩⟩⟩⟩ ?_
      exact hj5 μ3
    · refine z_aload_n (pc := 13) dX9_pair_13 rfl ?_
      refine z_aload_n (pc := 14) dX9_pair_14 rfl ?_
      refine z_iload_n (pc := 15) dX9_pair_15 rfl ?_
      refine z_callV (As := [.int x2]) (pc := 16) (ret' := some .boolean) kvX9_220 (t9_isDoor _ _) (by decide) (by decide) sm_0  rfl rfl (Nat.le_of_ble_eq_true rfl) dX9_pair_16 (fun v8 μ9 => ?_)
      refine z_let (fun (j : Int32 → zRes) => ∀ (s10 : Int32), zR yX9_pair cX9_pair 4 (some .int) 19 27 [.ref 0, .int x1, .int x2, .null] [.int s10, .ref 0] 1134 SM μ9 (j s10)) ?_ (fun j28 hj28 => ?_)
      · intro s10
        refine z_iconst (pc := 27) (2 : Int32) dX9_pair_27 (by decide) ?_
        refine z_callV (As := [.int s10, .int (2 : Int32)]) (pc := 28) (ret' := some .boolean) kvX9_188 (t9_bad _ _ _) (by decide) (by decide) sm_0  rfl rfl (Nat.le_of_ble_eq_true rfl) dX9_pair_28 (fun v11 μ12 => ?_)
        refine z_if_eq (pc := 31) (tgt := 36) dX9_pair_31 (by decide) (fun c13 => ?_) (fun c14 => ?_)
        · refine z_aload_n (pc := 36) dX9_pair_36 rfl ?_
          refine z_aload_n (pc := 37) dX9_pair_37 rfl ?_
          refine z_getr (pc := 38) fdX9_23 (by decide) sm_0 rfl rfl dX9_pair_38 ?_
          refine z_iconst (pc := 41) (1 : Int32) dX9_pair_41 (by decide) ?_
          refine z_iald (pc := 42) (by decide) sm_4 rfl dX9_pair_42 (fun h15 => ?_)
          refine z_iload_n (pc := 43) dX9_pair_43 rfl ?_
          refine z_callV (As := [.int (μ12 4 (1 : Int32).toNatClampNeg), .int x1]) (pc := 44) (ret' := none) kvX9_281 (t9_findToday _ _ _) (by decide) (by decide) sm_0  rfl rfl (Nat.le_of_ble_eq_true rfl) dX9_pair_44 (fun v16 μ17 => ?_)
          refine z_aload_n (pc := 47) dX9_pair_47 rfl ?_
          refine z_geti (pc := 48) fdX9_70 (by decide) sm_0 rfl dX9_pair_48 ?_
          refine z_val (fun v18 => ?_)
          refine z_istore_n (pc := 51) (L' := [.ref 0, .int x1, .int x2, .int v18]) dX9_pair_51 (by decide) rfl ?_
          refine z_aload_n (pc := 52) dX9_pair_52 rfl ?_
          refine z_iload_n (pc := 53) dX9_pair_53 rfl ?_
          refine z_iconst (pc := 54) (-1 : Int32) dX9_pair_54 (by decide) ?_
          refine z_let (fun (j : Int32 → zRes) => ∀ (s19 : Int32), zR yX9_pair cX9_pair 4 (some .int) 19 66 [.ref 0, .null, .int x2, .int v18] [.int s19, .ref 0] 1134 SM μ17 (j s19)) ?_ (fun j25 hj25 => ?_)
          · intro s19
            refine z_puti (pc := 66) fdX9_70 (by decide) sm_0 rfl rfl dX9_pair_66 ?_
            refine z_mem (fun μ20 => ?_)
            refine z_aload_n (pc := 69) dX9_pair_69 rfl ?_
            refine z_aload_n (pc := 70) dX9_pair_70 rfl ?_
            refine z_geti (pc := 71) fdX9_266 (by decide) sm_0 rfl dX9_pair_71 ?_
            refine z_callV (As := [.int (μ20 0 35)]) (pc := 74) (ret' := none) kvX9_287 (t9_findPairs _ _) (by decide) (by decide) sm_0  rfl rfl (Nat.le_of_ble_eq_true rfl) dX9_pair_74 (fun v21 μ22 => ?_)
            refine z_aload_n (pc := 77) dX9_pair_77 rfl ?_
            refine z_iload_n (pc := 78) dX9_pair_78 rfl ?_
            refine z_puti (pc := 79) fdX9_70 (by decide) sm_0 rfl rfl dX9_pair_79 ?_
            refine z_mem (fun μ23 => ?_)
            refine z_aload_n (pc := 82) dX9_pair_82 rfl ?_
            refine z_getr (pc := 83) fdX9_82 (by decide) sm_0 rfl rfl dX9_pair_83 ?_
            refine z_iload_n (pc := 86) dX9_pair_86 rfl ?_
            refine z_iald (pc := 87) (by decide) sm_1126 rfl dX9_pair_87 (fun h24 => ?_)
            exact z_iret (pc := 88) rfl dX9_pair_88
          · refine z_icmp_ne (pc := 55) (tgt := 65) dX9_pair_55 (by decide) (fun c26 => ?_) (fun c27 => ?_)
            · refine z_iload_n (pc := 65) dX9_pair_65 rfl ?_
              refine z_loc (L' := [.ref 0, .null, .int x2, .int v18]) ⟨Or.inr rfl, ⟨Or.inl rfl, ⟨Or.inr rfl, ⟨Or.inr rfl, trivial⟩⟩⟩⟩ ?_
              exact hj25 x1
            · refine z_aload_n (pc := 58) dX9_pair_58 rfl ?_
              refine z_geti (pc := 59) fdX9_70 (by decide) sm_0 rfl dX9_pair_59 ?_
              refine z_goto (pc := 62) (tgt := 66) dX9_pair_62 (by decide) ?_
              refine z_loc (L' := [.ref 0, .null, .int x2, .int v18]) ⟨Or.inr rfl, ⟨Or.inl rfl, ⟨Or.inr rfl, ⟨Or.inr rfl, trivial⟩⟩⟩⟩ ?_
              exact hj25 (μ17 0 30)
        · refine z_loc (L' := [.null, .null, .null, .null]) ⟨Or.inl rfl, ⟨Or.inl rfl, ⟨Or.inl rfl, ⟨Or.inl rfl, trivial⟩⟩⟩⟩ ?_
          exact hj5 μ12
      · refine z_if_ne (pc := 19) (tgt := 26) dX9_pair_19 (by decide) (fun c29 => ?_) (fun c30 => ?_)
        · refine z_iconst (pc := 26) (0 : Int32) dX9_pair_26 (by decide) ?_
          exact hj28 (0 : Int32)
        · refine z_iconst (pc := 22) (1 : Int32) dX9_pair_22 (by decide) ?_
          refine z_goto (pc := 23) (tgt := 27) dX9_pair_23 (by decide) ?_
          exact hj28 (1 : Int32)
def f9_bound_L81 (x5 : Int32) (x6 : Int32) (K129 : zMem → zRes) : Nat → Int32 → zMem → zRes
  | 0, _, _ => none
  | n + 1, x7, μ => if x6 ≤ x7 then K129 μ else zin x5 10 (zlet (fun (s20 : Int32) (μ21 : zMem) => zbl s20 (zin x5 10 (zlet (zset μ21 1125 x5.toNatClampNeg s20) (fun (μ23 : zMem) => f9_bound_L81 x5 x6 K129 n (x7 + (1 : Int32)) μ23)))) (fun j25 => zlet (fun (μ26 : zMem) => j25 (1 : Int32) μ26) (fun j27 => if (μ 1125 x5.toNatClampNeg) = 0 then bnd0 (f9_canBe x5 x6 x7 μ) (fun (v30 : Int32) (μ31 : zMem) => if v30 = 0 then j25 (0 : Int32) μ31 else j27 μ31) else j27 μ)))
def f9_bound_L67 (x5 : Int32) (K135 : zMem → zRes) : Nat → Int32 → zMem → zRes
  | 0, _, _ => none
  | n + 1, x6, μ => zin (1 : Int32) 6 (if (μ 4 (1 : Int32).toNatClampNeg) ≤ x6 then K135 μ else f9_bound_L81 x5 x6 (fun (μ34 : zMem) => f9_bound_L67 x5 K135 n (x6 + (1 : Int32)) μ34) zF (0 : Int32) μ)
def f9_bound_L45 (K141 : zMem → zRes) : Nat → Int32 → zMem → zRes
  | 0, _, _ => none
  | n + 1, x5, μ => zin (2 : Int32) 6 (if (μ 4 (2 : Int32).toNatClampNeg) ≤ x5 then K141 μ else zin x5 10 (zlet (zset μ 1125 x5.toNatClampNeg (0 : Int32)) (fun (μ13 : zMem) => f9_bound_L67 x5 (fun (μ35 : zMem) => f9_bound_L45 K141 n (x5 + (1 : Int32)) μ35) zF (0 : Int32) μ13)))
def f9_bound_L163 (x4 : Int32) (μ : zMem) (K231 : Int32 → zRes) : Nat → Int32 → Int32 → zRes
  | 0, _, _ => none
  | n + 1, x6, x7 => zin (2 : Int32) 6 (if (μ 4 (2 : Int32).toNatClampNeg) ≤ x7 then K231 x6 else zin x7 10 (zlet (fun (x6_44 : Int32) => f9_bound_L163 x4 μ K231 n x6_44 (x7 + (1 : Int32))) (fun j45 => if (μ 1125 x7.toNatClampNeg) = 0 then j45 x6 else if ((zshr x4 x7) &&& (1 : Int32)) = 0 then zlet (j45 x7) (fun j50 => if x6 = (-1 : Int32) then j50 else zin x7 10 (zin (0 : Int32) 4 (zin x6 10 (zin (0 : Int32) 4 (if (μ (36 + x7.toNatClampNeg) (0 : Int32).toNatClampNeg) ≤ (μ (36 + x6.toNatClampNeg) (0 : Int32).toNatClampNeg) then j45 x6 else j50))))) else j45 x6)))
def f9_bound_L144 (μ : zMem) (K267 : Int32 → zRes) : Nat → Int32 → Int32 → Int32 → zRes
  | 0, _, _, _ => none
  | n + 1, x3, x4, x5 => zin (1 : Int32) 6 (if ((μ 4 (1 : Int32).toNatClampNeg) / (2 : Int32)) ≤ x5 then K267 x3 else f9_bound_L163 x4 μ (fun (x6_59 : Int32) => zlet (fun (x3_60 : Int32) (x4_61 : Int32) => f9_bound_L144 μ K267 n x3_60 x4_61 (x5 + (1 : Int32))) (fun j62 => if x6_59 = (-1 : Int32) then j62 x3 x4 else zlet (x4 ||| (zshl (1 : Int32) x6_59)) (fun (v65 : Int32) => zin x6_59 10 (zin (0 : Int32) 4 (zlet (x3 + (μ (36 + x6_59.toNatClampNeg) (0 : Int32).toNatClampNeg)) (fun (v68 : Int32) => j62 v68 v65)))))) zF (-1 : Int32) (0 : Int32))
def f9_bound (x1 : Int32) (μ : zMem) : zRes := zlet (zset μ 0 0 (0 : Int32)) (fun (μ1 : zMem) => bnd0 (f9_badAsked x1 μ1) (fun (v2 : Int32) (μ3 : zMem) => if v2 = 0 then zlet (μ3 0 30) (fun (v6 : Int32) => zlet (fun (s7 : Int32) => zlet (zset μ3 0 30 s7) (fun (μ8 : zMem) => f9_bound_L45 (fun (μ36 : zMem) => f9_bound_L144 μ36 (fun (x3_69 : Int32) => zlet (zset μ36 0 30 v6) (fun (μ70 : zMem) => some (0, x3_69, μ70))) zF (0 : Int32) (0 : Int32) (0 : Int32)) zF (0 : Int32) μ8)) (fun j71 => if x1 = (-1 : Int32) then j71 (μ3 0 30) else j71 x1)) else some (0, (0 : Int32), μ3)))
set_option maxHeartbeats 1000000 in
theorem t9_bound_L81 (x2 : Int32) (x3 : Int32) (x4 : Int32) (x5 : Int32) (x6 : Int32) (K129 : zMem → zRes) (hK129 : ∀ (μ : zMem), zR yX9_bound cX9_bound 8 (some .int) 5 129 [.ref 0, .null, .int x2, .int x3, .int x4, .int x5, .int x6, .null] [] 1134 SM μ (K129 μ)) : ∀ (n : Nat) (x7 : Int32) (μ : zMem), zR yX9_bound cX9_bound 8 (some .int) 5 81 [.ref 0, .null, .int x2, .int x3, .int x4, .int x5, .int x6, .int x7] [] 1134 SM μ (f9_bound_L81 x5 x6 K129 n x7 μ) := by
  intro n
  induction n with
  | zero => intro x7 μ; intro q hq; cases hq
  | succ n ih =>
    intro x7 μ
    unfold f9_bound_L81
    refine z_iload (pc := 81) dX9_bound_81 rfl ?_
    refine z_iload (pc := 83) dX9_bound_83 rfl ?_
    refine z_icmp_ge (pc := 85) (tgt := 129) dX9_bound_85 (by decide) (fun c17 => ?_) (fun c18 => ?_)
    · refine z_loc (L' := [.ref 0, .null, .int x2, .int x3, .int x4, .int x5, .int x6, .null]) ⟨Or.inr rfl, ⟨Or.inl rfl, ⟨Or.inr rfl, ⟨Or.inr rfl, ⟨Or.inr rfl, ⟨Or.inr rfl, ⟨Or.inr rfl, ⟨Or.inl rfl, trivial⟩⟩⟩⟩⟩⟩⟩⟩ ?_
      exact hK129 μ
    · refine z_aload_n (pc := 88) dX9_bound_88 rfl ?_
      refine z_getr (pc := 89) fdX9_78 (by decide) sm_0 rfl rfl dX9_bound_89 ?_
      refine z_iload (pc := 92) dX9_bound_92 rfl ?_
      refine z_aload_n (pc := 94) dX9_bound_94 rfl ?_
      refine z_getr (pc := 95) fdX9_78 (by decide) sm_0 rfl rfl dX9_bound_95 ?_
      refine z_iload (pc := 98) dX9_bound_98 rfl ?_
      refine z_zald (pc := 100) (by decide) sm_1125 rfl dX9_bound_100 (fun h19 => ?_)
      refine z_let (fun (j : Int32 → zMem → zRes) => ∀ (s20 : Int32) (μ21 : zMem), zR yX9_bound cX9_bound 8 (some .int) 5 122 [.ref 0, .null, .int x2, .int x3, .int x4, .int x5, .int x6, .int x7] [.int s20, .int x5, .ref 1125] 1134 SM μ21 (j s20 μ21)) ?_ (fun j25 hj25 => ?_)
      · intro s20 μ21
        refine z_bl (fun h24 => ?_)
        refine z_zast (pc := 122) (by decide) sm_1125 rfl h24 dX9_bound_122 (fun h22 => ?_)
        refine z_mem (fun μ23 => ?_)
        refine z_iinc (pc := 123) (v := x7 + (1 : Int32)) (L' := [.ref 0, .null, .int x2, .int x3, .int x4, .int x5, .int x6, .int (x7 + (1 : Int32))]) dX9_bound_123 (by decide) rfl (congrArg _ (by decide)) rfl ?_
        refine z_goto (pc := 126) (tgt := 81) dX9_bound_126 (by decide) ?_
        exact ih (x7 + (1 : Int32)) μ23
      · refine z_let (fun (j : zMem → zRes) => ∀ (μ26 : zMem), zR yX9_bound cX9_bound 8 (some .int) 5 117 [.ref 0, .null, .int x2, .int x3, .int x4, .int x5, .int x6, .int x7] [.int x5, .ref 1125] 1134 SM μ26 (j μ26)) ?_ (fun j27 hj27 => ?_)
        · intro μ26
          refine z_iconst (pc := 117) (1 : Int32) dX9_bound_117 (by decide) ?_
          refine z_goto (pc := 118) (tgt := 122) dX9_bound_118 (by decide) ?_
          exact hj25 (1 : Int32) μ26
        · refine z_if_ne (pc := 101) (tgt := 117) dX9_bound_101 (by decide) (fun c28 => ?_) (fun c29 => ?_)
          · exact hj27 μ
          · refine z_aload_n (pc := 104) dX9_bound_104 rfl ?_
            refine z_iload (pc := 105) dX9_bound_105 rfl ?_
            refine z_iload (pc := 107) dX9_bound_107 rfl ?_
            refine z_iload (pc := 109) dX9_bound_109 rfl ?_
            refine z_callV (As := [.int x5, .int x6, .int x7]) (pc := 111) (ret' := some .boolean) kvX9_275 (t9_canBe _ _ _ _) (by decide) (by decide) sm_0  rfl rfl (Nat.le_of_ble_eq_true rfl) dX9_bound_111 (fun v30 μ31 => ?_)
            refine z_if_eq (pc := 114) (tgt := 121) dX9_bound_114 (by decide) (fun c32 => ?_) (fun c33 => ?_)
            · refine z_iconst (pc := 121) (0 : Int32) dX9_bound_121 (by decide) ?_
              exact hj25 (0 : Int32) μ31
            · exact hj27 μ31
set_option maxHeartbeats 1000000 in
theorem t9_bound_L67 (x2 : Int32) (x3 : Int32) (x4 : Int32) (x5 : Int32) (K135 : zMem → zRes) (hK135 : ∀ (μ : zMem), zR yX9_bound cX9_bound 8 (some .int) 5 135 [.ref 0, .null, .int x2, .int x3, .int x4, .int x5, .null, .null] [] 1134 SM μ (K135 μ)) : ∀ (n : Nat) (x6 : Int32) (μ : zMem), zR yX9_bound cX9_bound 8 (some .int) 5 67 [.ref 0, .null, .int x2, .int x3, .int x4, .int x5, .int x6, .null] [] 1134 SM μ (f9_bound_L67 x5 K135 n x6 μ) := by
  intro n
  induction n with
  | zero => intro x6 μ; intro q hq; cases hq
  | succ n ih =>
    intro x6 μ
    unfold f9_bound_L67
    refine z_iload (pc := 67) dX9_bound_67 rfl ?_
    refine z_aload_n (pc := 69) dX9_bound_69 rfl ?_
    refine z_getr (pc := 70) fdX9_23 (by decide) sm_0 rfl rfl dX9_bound_70 ?_
    refine z_iconst (pc := 73) (1 : Int32) dX9_bound_73 (by decide) ?_
    refine z_iald (pc := 74) (by decide) sm_4 rfl dX9_bound_74 (fun h14 => ?_)
    refine z_icmp_ge (pc := 75) (tgt := 135) dX9_bound_75 (by decide) (fun c15 => ?_) (fun c16 => ?_)
    · refine z_loc (L' := [.ref 0, .null, .int x2, .int x3, .int x4, .int x5, .null, .null]) ⟨Or.inr rfl, ⟨Or.inl rfl, ⟨Or.inr rfl, ⟨Or.inr rfl, ⟨Or.inr rfl, ⟨Or.inr rfl, ⟨Or.inl rfl, ⟨Or.inl rfl, trivial⟩⟩⟩⟩⟩⟩⟩⟩ ?_
      exact hK135 μ
    · refine z_iconst (pc := 78) (0 : Int32) dX9_bound_78 (by decide) ?_
      refine z_istore (pc := 79) (L' := [.ref 0, .null, .int x2, .int x3, .int x4, .int x5, .int x6, .int (0 : Int32)]) dX9_bound_79 (by decide) rfl ?_
      refine t9_bound_L81 _ _ _ _ _ _ (fun μ34 => ?_) zF _ _
      · refine z_iinc (pc := 129) (v := x6 + (1 : Int32)) (L' := [.ref 0, .null, .int x2, .int x3, .int x4, .int x5, .int (x6 + (1 : Int32)), .null]) dX9_bound_129 (by decide) rfl (congrArg _ (by decide)) rfl ?_
        refine z_goto (pc := 132) (tgt := 67) dX9_bound_132 (by decide) ?_
        exact ih (x6 + (1 : Int32)) μ34
set_option maxHeartbeats 1000000 in
theorem t9_bound_L45 (x2 : Int32) (x3 : Int32) (x4 : Int32) (K141 : zMem → zRes) (hK141 : ∀ (μ : zMem), zR yX9_bound cX9_bound 8 (some .int) 5 141 [.ref 0, .null, .int x2, .int x3, .int x4, .null, .null, .null] [] 1134 SM μ (K141 μ)) : ∀ (n : Nat) (x5 : Int32) (μ : zMem), zR yX9_bound cX9_bound 8 (some .int) 5 45 [.ref 0, .null, .int x2, .int x3, .int x4, .int x5, .null, .null] [] 1134 SM μ (f9_bound_L45 K141 n x5 μ) := by
  intro n
  induction n with
  | zero => intro x5 μ; intro q hq; cases hq
  | succ n ih =>
    intro x5 μ
    unfold f9_bound_L45
    refine z_iload (pc := 45) dX9_bound_45 rfl ?_
    refine z_aload_n (pc := 47) dX9_bound_47 rfl ?_
    refine z_getr (pc := 48) fdX9_23 (by decide) sm_0 rfl rfl dX9_bound_48 ?_
    refine z_iconst (pc := 51) (2 : Int32) dX9_bound_51 (by decide) ?_
    refine z_iald (pc := 52) (by decide) sm_4 rfl dX9_bound_52 (fun h9 => ?_)
    refine z_icmp_ge (pc := 53) (tgt := 141) dX9_bound_53 (by decide) (fun c10 => ?_) (fun c11 => ?_)
    · refine z_loc (L' := [.ref 0, .null, .int x2, .int x3, .int x4, .null, .null, .null]) ⟨Or.inr rfl, ⟨Or.inl rfl, ⟨Or.inr rfl, ⟨Or.inr rfl, ⟨Or.inr rfl, ⟨Or.inl rfl, ⟨Or.inl rfl, ⟨Or.inl rfl, trivial⟩⟩⟩⟩⟩⟩⟩⟩ ?_
      exact hK141 μ
    · refine z_aload_n (pc := 56) dX9_bound_56 rfl ?_
      refine z_getr (pc := 57) fdX9_78 (by decide) sm_0 rfl rfl dX9_bound_57 ?_
      refine z_iload (pc := 60) dX9_bound_60 rfl ?_
      refine z_iconst (pc := 62) (0 : Int32) dX9_bound_62 (by decide) ?_
      refine z_zast (pc := 63) (by decide) sm_1125 rfl (Or.inl rfl) dX9_bound_63 (fun h12 => ?_)
      refine z_mem (fun μ13 => ?_)
      refine z_iconst (pc := 64) (0 : Int32) dX9_bound_64 (by decide) ?_
      refine z_istore (pc := 65) (L' := [.ref 0, .null, .int x2, .int x3, .int x4, .int x5, .int (0 : Int32), .null]) dX9_bound_65 (by decide) rfl ?_
      refine t9_bound_L67 _ _ _ _ _ (fun μ35 => ?_) zF _ _
      · refine z_iinc (pc := 135) (v := x5 + (1 : Int32)) (L' := [.ref 0, .null, .int x2, .int x3, .int x4, .int (x5 + (1 : Int32)), .null, .null]) dX9_bound_135 (by decide) rfl (congrArg _ (by decide)) rfl ?_
        refine z_goto (pc := 138) (tgt := 45) dX9_bound_138 (by decide) ?_
        exact ih (x5 + (1 : Int32)) μ35
set_option maxHeartbeats 1000000 in
theorem t9_bound_L163 (x2 : Int32) (x3 : Int32) (x4 : Int32) (x5 : Int32) (μ : zMem) (K231 : Int32 → zRes) (hK231 : ∀ (x6 : Int32), zR yX9_bound cX9_bound 8 (some .int) 5 231 [.ref 0, .null, .int x2, .int x3, .int x4, .int x5, .int x6, .null] [] 1134 SM μ (K231 x6)) : ∀ (n : Nat) (x6 : Int32) (x7 : Int32), zR yX9_bound cX9_bound 8 (some .int) 5 163 [.ref 0, .null, .int x2, .int x3, .int x4, .int x5, .int x6, .int x7] [] 1134 SM μ (f9_bound_L163 x4 μ K231 n x6 x7) := by
  intro n
  induction n with
  | zero => intro x6 x7; intro q hq; cases hq
  | succ n ih =>
    intro x6 x7
    unfold f9_bound_L163
    refine z_iload (pc := 163) dX9_bound_163 rfl ?_
    refine z_aload_n (pc := 165) dX9_bound_165 rfl ?_
    refine z_getr (pc := 166) fdX9_23 (by decide) sm_0 rfl rfl dX9_bound_166 ?_
    refine z_iconst (pc := 169) (2 : Int32) dX9_bound_169 (by decide) ?_
    refine z_iald (pc := 170) (by decide) sm_4 rfl dX9_bound_170 (fun h40 => ?_)
    refine z_icmp_ge (pc := 171) (tgt := 231) dX9_bound_171 (by decide) (fun c41 => ?_) (fun c42 => ?_)
    · refine z_loc (L' := [.ref 0, .null, .int x2, .int x3, .int x4, .int x5, .int x6, .null]) ⟨Or.inr rfl, ⟨Or.inl rfl, ⟨Or.inr rfl, ⟨Or.inr rfl, ⟨Or.inr rfl, ⟨Or.inr rfl, ⟨Or.inr rfl, ⟨Or.inl rfl, trivial⟩⟩⟩⟩⟩⟩⟩⟩ ?_
      exact hK231 x6
    · refine z_aload_n (pc := 174) dX9_bound_174 rfl ?_
      refine z_getr (pc := 175) fdX9_78 (by decide) sm_0 rfl rfl dX9_bound_175 ?_
      refine z_iload (pc := 178) dX9_bound_178 rfl ?_
      refine z_zald (pc := 180) (by decide) sm_1125 rfl dX9_bound_180 (fun h43 => ?_)
      refine z_let (fun (j : Int32 → zRes) => ∀ (x6_44 : Int32), zR yX9_bound cX9_bound 8 (some .int) 5 225 [.ref 0, .null, .int x2, .int x3, .int x4, .int x5, .int x6_44, .int x7] [] 1134 SM μ (j x6_44)) ?_ (fun j45 hj45 => ?_)
      · intro x6_44
        refine z_iinc (pc := 225) (v := x7 + (1 : Int32)) (L' := [.ref 0, .null, .int x2, .int x3, .int x4, .int x5, .int x6_44, .int (x7 + (1 : Int32))]) dX9_bound_225 (by decide) rfl (congrArg _ (by decide)) rfl ?_
        refine z_goto (pc := 228) (tgt := 163) dX9_bound_228 (by decide) ?_
        exact ih x6_44 (x7 + (1 : Int32))
      · refine z_if_eq (pc := 181) (tgt := 225) dX9_bound_181 (by decide) (fun c46 => ?_) (fun c47 => ?_)
        · exact hj45 x6
        · refine z_iload (pc := 184) dX9_bound_184 rfl ?_
          refine z_iload (pc := 186) dX9_bound_186 rfl ?_
          refine z_ishr (pc := 188) dX9_bound_188 ?_
          refine z_iconst (pc := 189) (1 : Int32) dX9_bound_189 (by decide) ?_
          refine z_iand (pc := 190) dX9_bound_190 ?_
          refine z_if_ne (pc := 191) (tgt := 225) dX9_bound_191 (by decide) (fun c48 => ?_) (fun c49 => ?_)
          · exact hj45 x6
          · refine z_iload (pc := 194) dX9_bound_194 rfl ?_
            refine z_iconst (pc := 196) (-1 : Int32) dX9_bound_196 (by decide) ?_
            refine z_let (fun (j : zRes) => zR yX9_bound cX9_bound 8 (some .int) 5 221 [.ref 0, .null, .int x2, .int x3, .int x4, .int x5, .null, .int x7] [] 1134 SM μ (j)) ?_ (fun j50 hj50 => ?_)
            · refine z_iload (pc := 221) dX9_bound_221 rfl ?_
              refine z_istore (pc := 223) (L' := [.ref 0, .null, .int x2, .int x3, .int x4, .int x5, .int x7, .int x7]) dX9_bound_223 (by decide) rfl ?_
              exact hj45 x7
            · refine z_icmp_eq (pc := 197) (tgt := 221) dX9_bound_197 (by decide) (fun c51 => ?_) (fun c52 => ?_)
              · refine z_loc (L' := [.ref 0, .null, .int x2, .int x3, .int x4, .int x5, .null, .int x7]) ⟨Or.inr rfl, ⟨Or.inl rfl, ⟨Or.inr rfl, ⟨Or.inr rfl, ⟨Or.inr rfl, ⟨Or.inr rfl, ⟨Or.inl rfl, ⟨Or.inr rfl, trivial⟩⟩⟩⟩⟩⟩⟩⟩ ?_
                exact hj50
              · refine z_aload_n (pc := 200) dX9_bound_200 rfl ?_
                refine z_getr (pc := 201) fdX9_37 (by decide) sm_0 rfl rfl dX9_bound_201 ?_
                refine z_iload (pc := 204) dX9_bound_204 rfl ?_
                refine z_aald (pc := 206) (fun j => 36 + j) (by decide) sm_35 (Or.inl rfl) smg_35 dX9_bound_206 (fun h53 => ?_)
                refine z_iconst (pc := 207) (0 : Int32) dX9_bound_207 (by decide) ?_
                refine z_iald (pc := 208) (smr_35 h53).2 (smr_35 h53).1 rfl dX9_bound_208 (fun h54 => ?_)
                refine z_aload_n (pc := 209) dX9_bound_209 rfl ?_
                refine z_getr (pc := 210) fdX9_37 (by decide) sm_0 rfl rfl dX9_bound_210 ?_
                refine z_iload (pc := 213) dX9_bound_213 rfl ?_
                refine z_aald (pc := 215) (fun j => 36 + j) (by decide) sm_35 (Or.inl rfl) smg_35 dX9_bound_215 (fun h55 => ?_)
                refine z_iconst (pc := 216) (0 : Int32) dX9_bound_216 (by decide) ?_
                refine z_iald (pc := 217) (smr_35 h55).2 (smr_35 h55).1 rfl dX9_bound_217 (fun h56 => ?_)
                refine z_icmp_le (pc := 218) (tgt := 225) dX9_bound_218 (by decide) (fun c57 => ?_) (fun c58 => ?_)
                · exact hj45 x6
                · refine z_loc (L' := [.ref 0, .null, .int x2, .int x3, .int x4, .int x5, .null, .int x7]) ⟨Or.inr rfl, ⟨Or.inl rfl, ⟨Or.inr rfl, ⟨Or.inr rfl, ⟨Or.inr rfl, ⟨Or.inr rfl, ⟨Or.inl rfl, ⟨Or.inr rfl, trivial⟩⟩⟩⟩⟩⟩⟩⟩ ?_
                  exact hj50
set_option maxHeartbeats 1000000 in
theorem t9_bound_L144 (x2 : Int32) (μ : zMem) (K267 : Int32 → zRes) (hK267 : ∀ (x3 : Int32), zR yX9_bound cX9_bound 8 (some .int) 5 267 [.ref 0, .null, .int x2, .int x3, .null, .null, .null, .null] [] 1134 SM μ (K267 x3)) : ∀ (n : Nat) (x3 : Int32) (x4 : Int32) (x5 : Int32), zR yX9_bound cX9_bound 8 (some .int) 5 144 [.ref 0, .null, .int x2, .int x3, .int x4, .int x5, .null, .null] [] 1134 SM μ (f9_bound_L144 μ K267 n x3 x4 x5) := by
  intro n
  induction n with
  | zero => intro x3 x4 x5; intro q hq; cases hq
  | succ n ih =>
    intro x3 x4 x5
    unfold f9_bound_L144
    refine z_iload (pc := 144) dX9_bound_144 rfl ?_
    refine z_aload_n (pc := 146) dX9_bound_146 rfl ?_
    refine z_getr (pc := 147) fdX9_23 (by decide) sm_0 rfl rfl dX9_bound_147 ?_
    refine z_iconst (pc := 150) (1 : Int32) dX9_bound_150 (by decide) ?_
    refine z_iald (pc := 151) (by decide) sm_4 rfl dX9_bound_151 (fun h37 => ?_)
    refine z_iconst (pc := 152) (2 : Int32) dX9_bound_152 (by decide) ?_
    refine z_idivc (pc := 153) dX9_bound_153 (by decide) ?_
    refine z_icmp_ge (pc := 154) (tgt := 267) dX9_bound_154 (by decide) (fun c38 => ?_) (fun c39 => ?_)
    · refine z_loc (L' := [.ref 0, .null, .int x2, .int x3, .null, .null, .null, .null]) ⟨Or.inr rfl, ⟨Or.inl rfl, ⟨Or.inr rfl, ⟨Or.inr rfl, ⟨Or.inl rfl, ⟨Or.inl rfl, ⟨Or.inl rfl, ⟨Or.inl rfl, trivial⟩⟩⟩⟩⟩⟩⟩⟩ ?_
      exact hK267 x3
    · refine z_iconst (pc := 157) (-1 : Int32) dX9_bound_157 (by decide) ?_
      refine z_istore (pc := 158) (L' := [.ref 0, .null, .int x2, .int x3, .int x4, .int x5, .int (-1 : Int32), .null]) dX9_bound_158 (by decide) rfl ?_
      refine z_iconst (pc := 160) (0 : Int32) dX9_bound_160 (by decide) ?_
      refine z_istore (pc := 161) (L' := [.ref 0, .null, .int x2, .int x3, .int x4, .int x5, .int (-1 : Int32), .int (0 : Int32)]) dX9_bound_161 (by decide) rfl ?_
      refine t9_bound_L163 _ _ _ _ _ _ (fun x6_59 => ?_) zF _ _
      · refine z_iload (pc := 231) dX9_bound_231 rfl ?_
        refine z_iconst (pc := 233) (-1 : Int32) dX9_bound_233 (by decide) ?_
        refine z_let (fun (j : Int32 → Int32 → zRes) => ∀ (x3_60 : Int32) (x4_61 : Int32), zR yX9_bound cX9_bound 8 (some .int) 5 261 [.ref 0, .null, .int x2, .int x3_60, .int x4_61, .int x5, .null, .null] [] 1134 SM μ (j x3_60 x4_61)) ?_ (fun j62 hj62 => ?_)
        · intro x3_60 x4_61
          refine z_iinc (pc := 261) (v := x5 + (1 : Int32)) (L' := [.ref 0, .null, .int x2, .int x3_60, .int x4_61, .int (x5 + (1 : Int32)), .null, .null]) dX9_bound_261 (by decide) rfl (congrArg _ (by decide)) rfl ?_
          refine z_goto (pc := 264) (tgt := 144) dX9_bound_264 (by decide) ?_
          exact ih x3_60 x4_61 (x5 + (1 : Int32))
        · refine z_icmp_ne (pc := 234) (tgt := 240) dX9_bound_234 (by decide) (fun c63 => ?_) (fun c64 => ?_)
          · refine z_iload (pc := 240) dX9_bound_240 rfl ?_
            refine z_iconst (pc := 242) (1 : Int32) dX9_bound_242 (by decide) ?_
            refine z_iload (pc := 243) dX9_bound_243 rfl ?_
            refine z_ishl (pc := 245) dX9_bound_245 ?_
            refine z_ior (pc := 246) dX9_bound_246 ?_
            refine z_val (fun v65 => ?_)
            refine z_istore (pc := 247) (L' := [.ref 0, .null, .int x2, .int x3, .int v65, .int x5, .int x6_59, .null]) dX9_bound_247 (by decide) rfl ?_
            refine z_iload_n (pc := 249) dX9_bound_249 rfl ?_
            refine z_aload_n (pc := 250) dX9_bound_250 rfl ?_
            refine z_getr (pc := 251) fdX9_37 (by decide) sm_0 rfl rfl dX9_bound_251 ?_
            refine z_iload (pc := 254) dX9_bound_254 rfl ?_
            refine z_aald (pc := 256) (fun j => 36 + j) (by decide) sm_35 (Or.inl rfl) smg_35 dX9_bound_256 (fun h66 => ?_)
            refine z_iconst (pc := 257) (0 : Int32) dX9_bound_257 (by decide) ?_
            refine z_iald (pc := 258) (smr_35 h66).2 (smr_35 h66).1 rfl dX9_bound_258 (fun h67 => ?_)
            refine z_iadd (pc := 259) dX9_bound_259 ?_
            refine z_val (fun v68 => ?_)
            refine z_istore_n (pc := 260) (L' := [.ref 0, .null, .int x2, .int v68, .int v65, .int x5, .int x6_59, .null]) dX9_bound_260 (by decide) rfl ?_
            refine z_loc (L' := [.ref 0, .null, .int x2, .int v68, .int v65, .int x5, .null, .null]) ⟨Or.inr rfl, ⟨Or.inl rfl, ⟨Or.inr rfl, ⟨Or.inr rfl, ⟨Or.inr rfl, ⟨Or.inr rfl, ⟨Or.inl rfl, ⟨Or.inl rfl, trivial⟩⟩⟩⟩⟩⟩⟩⟩ ?_
            exact hj62 v68 v65
          · refine z_goto (pc := 237) (tgt := 261) dX9_bound_237 (by decide) ?_
            refine z_loc (L' := [.ref 0, .null, .int x2, .int x3, .int x4, .int x5, .null, .null]) ⟨Or.inr rfl, ⟨Or.inl rfl, ⟨Or.inr rfl, ⟨Or.inr rfl, ⟨Or.inr rfl, ⟨Or.inr rfl, ⟨Or.inl rfl, ⟨Or.inl rfl, trivial⟩⟩⟩⟩⟩⟩⟩⟩ ?_
            exact hj62 x3 x4
set_option maxHeartbeats 1000000 in
theorem t9_bound (x1 : Int32) (μ : zMem) : zMR yX9_bound cX9_bound 8 (some .int) 5 [.ref 0, .int x1] 1134 SM μ (f9_bound x1 μ) := by
  refine zMR_of (by decide +kernel) rfl (Nat.le_of_ble_eq_true rfl) (L := [.ref 0, .int x1, .null, .null, .null, .null, .null, .null]) rfl ?_
  unfold f9_bound
  refine z_aload_n (pc := 0) dX9_bound_0 rfl ?_
  refine z_iconst (pc := 1) (0 : Int32) dX9_bound_1 (by decide) ?_
  refine z_puti (pc := 2) fdX9_106 (by decide) sm_0 rfl rfl dX9_bound_2 ?_
  refine z_mem (fun μ1 => ?_)
  refine z_aload_n (pc := 5) dX9_bound_5 rfl ?_
  refine z_iload_n (pc := 6) dX9_bound_6 rfl ?_
  refine z_callV (As := [.int x1]) (pc := 7) (ret' := some .boolean) kvX9_278 (t9_badAsked _ _) (by decide) (by decide) sm_0  rfl rfl (Nat.le_of_ble_eq_true rfl) dX9_bound_7 (fun v2 μ3 => ?_)
  refine z_if_eq (pc := 10) (tgt := 15) dX9_bound_10 (by decide) (fun c4 => ?_) (fun c5 => ?_)
  · refine z_aload_n (pc := 15) dX9_bound_15 rfl ?_
    refine z_geti (pc := 16) fdX9_70 (by decide) sm_0 rfl dX9_bound_16 ?_
    refine z_val (fun v6 => ?_)
    refine z_istore_n (pc := 19) (L' := [.ref 0, .int x1, .int v6, .null, .null, .null, .null, .null]) dX9_bound_19 (by decide) rfl ?_
    refine z_iconst (pc := 20) (0 : Int32) dX9_bound_20 (by decide) ?_
    refine z_istore_n (pc := 21) (L' := [.ref 0, .int x1, .int v6, .int (0 : Int32), .null, .null, .null, .null]) dX9_bound_21 (by decide) rfl ?_
    refine z_iconst (pc := 22) (0 : Int32) dX9_bound_22 (by decide) ?_
    refine z_istore (pc := 23) (L' := [.ref 0, .int x1, .int v6, .int (0 : Int32), .int (0 : Int32), .null, .null, .null]) dX9_bound_23 (by decide) rfl ?_
    refine z_aload_n (pc := 25) dX9_bound_25 rfl ?_
    refine z_iload_n (pc := 26) dX9_bound_26 rfl ?_
    refine z_iconst (pc := 27) (-1 : Int32) dX9_bound_27 (by decide) ?_
    refine z_let (fun (j : Int32 → zRes) => ∀ (s7 : Int32), zR yX9_bound cX9_bound 8 (some .int) 5 39 [.ref 0, .null, .int v6, .int (0 : Int32), .int (0 : Int32), .null, .null, .null] [.int s7, .ref 0] 1134 SM μ3 (j s7)) ?_ (fun j71 hj71 => ?_)
    · intro s7
      refine z_puti (pc := 39) fdX9_70 (by decide) sm_0 rfl rfl dX9_bound_39 ?_
      refine z_mem (fun μ8 => ?_)
      refine z_iconst (pc := 42) (0 : Int32) dX9_bound_42 (by decide) ?_
      refine z_istore (pc := 43) (L' := [.ref 0, .null, .int v6, .int (0 : Int32), .int (0 : Int32), .int (0 : Int32), .null, .null]) dX9_bound_43 (by decide) rfl ?_
      refine t9_bound_L45 _ _ _ _ (fun μ36 => ?_) zF _ _
      · refine z_iconst (pc := 141) (0 : Int32) dX9_bound_141 (by decide) ?_
        refine z_istore (pc := 142) (L' := [.ref 0, .null, .int v6, .int (0 : Int32), .int (0 : Int32), .int (0 : Int32), .null, .null]) dX9_bound_142 (by decide) rfl ?_
        refine t9_bound_L144 _ _ _ (fun x3_69 => ?_) zF _ _ _
        · refine z_aload_n (pc := 267) dX9_bound_267 rfl ?_
          refine z_iload_n (pc := 268) dX9_bound_268 rfl ?_
          refine z_puti (pc := 269) fdX9_70 (by decide) sm_0 rfl rfl dX9_bound_269 ?_
          refine z_mem (fun μ70 => ?_)
          refine z_iload_n (pc := 272) dX9_bound_272 rfl ?_
          exact z_iret (pc := 273) rfl dX9_bound_273
    · refine z_icmp_ne (pc := 28) (tgt := 38) dX9_bound_28 (by decide) (fun c72 => ?_) (fun c73 => ?_)
      · refine z_iload_n (pc := 38) dX9_bound_38 rfl ?_
        refine z_loc (L' := [.ref 0, .null, .int v6, .int (0 : Int32), .int (0 : Int32), .null, .null, .null]) ⟨Or.inr rfl, ⟨Or.inl rfl, ⟨Or.inr rfl, ⟨Or.inr rfl, ⟨Or.inr rfl, ⟨Or.inl rfl, ⟨Or.inl rfl, ⟨Or.inl rfl, trivial⟩⟩⟩⟩⟩⟩⟩⟩ ?_
        exact hj71 x1
      · refine z_aload_n (pc := 31) dX9_bound_31 rfl ?_
        refine z_geti (pc := 32) fdX9_70 (by decide) sm_0 rfl dX9_bound_32 ?_
        refine z_goto (pc := 35) (tgt := 39) dX9_bound_35 (by decide) ?_
        refine z_loc (L' := [.ref 0, .null, .int v6, .int (0 : Int32), .int (0 : Int32), .null, .null, .null]) ⟨Or.inr rfl, ⟨Or.inl rfl, ⟨Or.inr rfl, ⟨Or.inr rfl, ⟨Or.inr rfl, ⟨Or.inl rfl, ⟨Or.inl rfl, ⟨Or.inl rfl, trivial⟩⟩⟩⟩⟩⟩⟩⟩ ?_
        exact hj71 (μ3 0 30)
  · refine z_iconst (pc := 13) (0 : Int32) dX9_bound_13 (by decide) ?_
    exact z_iret (pc := 14) rfl dX9_bound_14
