theorem dX2_findMates_0 : decode cX2_findMates 0 = .ok (.aload_n 1, 1) := by decide +kernel
theorem dX2_findMates_1 : decode cX2_findMates 1 = .ok (.iload_n 2, 1) := by decide +kernel
theorem dX2_findMates_2 : decode cX2_findMates 2 = .ok (.invokevirtual 54, 3) := by decide +kernel
theorem dX2_findMates_5 : decode cX2_findMates 5 = .ok (.ifCond .ne 11, 3) := by decide +kernel
theorem dX2_findMates_8 : decode cX2_findMates 8 = .ok (.aload_n 1, 1) := by decide +kernel
theorem dX2_findMates_9 : decode cX2_findMates 9 = .ok (.iload_n 2, 1) := by decide +kernel
theorem dX2_findMates_10 : decode cX2_findMates 10 = .ok (.invokevirtual 58, 3) := by decide +kernel
theorem dX2_findMates_13 : decode cX2_findMates 13 = .ok (.ifCond .eq 5, 3) := by decide +kernel
theorem dX2_findMates_16 : decode cX2_findMates 16 = .ok (.iconst 0, 1) := by decide +kernel
theorem dX2_findMates_17 : decode cX2_findMates 17 = .ok (.ireturn, 1) := by decide +kernel
theorem dX2_findMates_18 : decode cX2_findMates 18 = .ok (.iconst 0, 1) := by decide +kernel
theorem dX2_findMates_19 : decode cX2_findMates 19 = .ok (.istore_n 3, 1) := by decide +kernel
theorem dX2_findMates_20 : decode cX2_findMates 20 = .ok (.iconst 0, 1) := by decide +kernel
theorem dX2_findMates_21 : decode cX2_findMates 21 = .ok (.istore 4, 2) := by decide +kernel
theorem dX2_findMates_23 : decode cX2_findMates 23 = .ok (.iload 4, 2) := by decide +kernel
theorem dX2_findMates_25 : decode cX2_findMates 25 = .ok (.aload_n 0, 1) := by decide +kernel
theorem dX2_findMates_26 : decode cX2_findMates 26 = .ok (.getfield 21, 3) := by decide +kernel
theorem dX2_findMates_29 : decode cX2_findMates 29 = .ok (.if_icmp .ge 63, 3) := by decide +kernel
theorem dX2_findMates_32 : decode cX2_findMates 32 = .ok (.iload 4, 2) := by decide +kernel
theorem dX2_findMates_34 : decode cX2_findMates 34 = .ok (.iconst 1, 1) := by decide +kernel
theorem dX2_findMates_35 : decode cX2_findMates 35 = .ok (.iadd, 1) := by decide +kernel
theorem dX2_findMates_36 : decode cX2_findMates 36 = .ok (.istore 5, 2) := by decide +kernel
theorem dX2_findMates_38 : decode cX2_findMates 38 = .ok (.iload 5, 2) := by decide +kernel
theorem dX2_findMates_40 : decode cX2_findMates 40 = .ok (.aload_n 0, 1) := by decide +kernel
theorem dX2_findMates_41 : decode cX2_findMates 41 = .ok (.getfield 21, 3) := by decide +kernel
theorem dX2_findMates_44 : decode cX2_findMates 44 = .ok (.if_icmp .ge 42, 3) := by decide +kernel
theorem dX2_findMates_47 : decode cX2_findMates 47 = .ok (.aload_n 1, 1) := by decide +kernel
theorem dX2_findMates_48 : decode cX2_findMates 48 = .ok (.iload_n 2, 1) := by decide +kernel
theorem dX2_findMates_49 : decode cX2_findMates 49 = .ok (.iload 4, 2) := by decide +kernel
theorem dX2_findMates_51 : decode cX2_findMates 51 = .ok (.iload 5, 2) := by decide +kernel
theorem dX2_findMates_53 : decode cX2_findMates 53 = .ok (.invokevirtual 61, 3) := by decide +kernel
theorem dX2_findMates_56 : decode cX2_findMates 56 = .ok (.ifCond .ne 24, 3) := by decide +kernel
theorem dX2_findMates_59 : decode cX2_findMates 59 = .ok (.aload_n 0, 1) := by decide +kernel
theorem dX2_findMates_60 : decode cX2_findMates 60 = .ok (.getfield 9, 3) := by decide +kernel
theorem dX2_findMates_63 : decode cX2_findMates 63 = .ok (.iload_n 2, 1) := by decide +kernel
theorem dX2_findMates_64 : decode cX2_findMates 64 = .ok (.bipush 9, 2) := by decide +kernel
theorem dX2_findMates_66 : decode cX2_findMates 66 = .ok (.imul, 1) := by decide +kernel
theorem dX2_findMates_67 : decode cX2_findMates 67 = .ok (.iload 4, 2) := by decide +kernel
theorem dX2_findMates_69 : decode cX2_findMates 69 = .ok (.iadd, 1) := by decide +kernel
theorem dX2_findMates_70 : decode cX2_findMates 70 = .ok (.dup2, 1) := by decide +kernel
theorem dX2_findMates_71 : decode cX2_findMates 71 = .ok (.iaload, 1) := by decide +kernel
theorem dX2_findMates_72 : decode cX2_findMates 72 = .ok (.iconst 1, 1) := by decide +kernel
theorem dX2_findMates_73 : decode cX2_findMates 73 = .ok (.iload 5, 2) := by decide +kernel
theorem dX2_findMates_75 : decode cX2_findMates 75 = .ok (.ishl, 1) := by decide +kernel
theorem dX2_findMates_76 : decode cX2_findMates 76 = .ok (.ior, 1) := by decide +kernel
theorem dX2_findMates_77 : decode cX2_findMates 77 = .ok (.iastore, 1) := by decide +kernel
theorem dX2_findMates_78 : decode cX2_findMates 78 = .ok (.iconst 1, 1) := by decide +kernel
theorem dX2_findMates_79 : decode cX2_findMates 79 = .ok (.istore_n 3, 1) := by decide +kernel
theorem dX2_findMates_80 : decode cX2_findMates 80 = .ok (.iinc 5 1, 3) := by decide +kernel
theorem dX2_findMates_83 : decode cX2_findMates 83 = .ok (.goto (-45), 3) := by decide +kernel
theorem dX2_findMates_86 : decode cX2_findMates 86 = .ok (.iinc 4 1, 3) := by decide +kernel
theorem dX2_findMates_89 : decode cX2_findMates 89 = .ok (.goto (-66), 3) := by decide +kernel
theorem dX2_findMates_92 : decode cX2_findMates 92 = .ok (.iload_n 3, 1) := by decide +kernel
theorem dX2_findMates_93 : decode cX2_findMates 93 = .ok (.ireturn, 1) := by decide +kernel
theorem dX2_offer_0 : decode cX2_offer 0 = .ok (.aload_n 0, 1) := by decide +kernel
theorem dX2_offer_1 : decode cX2_offer 1 = .ok (.getfield 25, 3) := by decide +kernel
theorem dX2_offer_4 : decode cX2_offer 4 = .ok (.getfield 65, 3) := by decide +kernel
theorem dX2_offer_7 : decode cX2_offer 7 = .ok (.iload_n 1, 1) := by decide +kernel
theorem dX2_offer_8 : decode cX2_offer 8 = .ok (.iaload, 1) := by decide +kernel
theorem dX2_offer_9 : decode cX2_offer 9 = .ok (.sipush 1024, 3) := by decide +kernel
theorem dX2_offer_12 : decode cX2_offer 12 = .ok (.imul, 1) := by decide +kernel
theorem dX2_offer_13 : decode cX2_offer 13 = .ok (.iconst 1, 1) := by decide +kernel
theorem dX2_offer_14 : decode cX2_offer 14 = .ok (.iload_n 1, 1) := by decide +kernel
theorem dX2_offer_15 : decode cX2_offer 15 = .ok (.ishl, 1) := by decide +kernel
theorem dX2_offer_16 : decode cX2_offer 16 = .ok (.isub, 1) := by decide +kernel
theorem dX2_offer_17 : decode cX2_offer 17 = .ok (.istore_n 2, 1) := by decide +kernel
theorem dX2_offer_18 : decode cX2_offer 18 = .ok (.iconst 1, 1) := by decide +kernel
theorem dX2_offer_19 : decode cX2_offer 19 = .ok (.aload_n 0, 1) := by decide +kernel
theorem dX2_offer_20 : decode cX2_offer 20 = .ok (.getfield 21, 3) := by decide +kernel
theorem dX2_offer_23 : decode cX2_offer 23 = .ok (.ishl, 1) := by decide +kernel
theorem dX2_offer_24 : decode cX2_offer 24 = .ok (.iconst 1, 1) := by decide +kernel
theorem dX2_offer_25 : decode cX2_offer 25 = .ok (.isub, 1) := by decide +kernel
theorem dX2_offer_26 : decode cX2_offer 26 = .ok (.istore_n 3, 1) := by decide +kernel
theorem dX2_offer_27 : decode cX2_offer 27 = .ok (.iload_n 3, 1) := by decide +kernel
theorem dX2_offer_28 : decode cX2_offer 28 = .ok (.ifCond .le 133, 3) := by decide +kernel
theorem dX2_offer_31 : decode cX2_offer 31 = .ok (.aload_n 0, 1) := by decide +kernel
theorem dX2_offer_32 : decode cX2_offer 32 = .ok (.getfield 15, 3) := by decide +kernel
theorem dX2_offer_35 : decode cX2_offer 35 = .ok (.iload_n 3, 1) := by decide +kernel
theorem dX2_offer_36 : decode cX2_offer 36 = .ok (.iaload, 1) := by decide +kernel
theorem dX2_offer_37 : decode cX2_offer 37 = .ok (.istore 4, 2) := by decide +kernel
theorem dX2_offer_39 : decode cX2_offer 39 = .ok (.iconst 0, 1) := by decide +kernel
theorem dX2_offer_40 : decode cX2_offer 40 = .ok (.istore 5, 2) := by decide +kernel
theorem dX2_offer_42 : decode cX2_offer 42 = .ok (.iload 5, 2) := by decide +kernel
theorem dX2_offer_44 : decode cX2_offer 44 = .ok (.aload_n 0, 1) := by decide +kernel
theorem dX2_offer_45 : decode cX2_offer 45 = .ok (.getfield 21, 3) := by decide +kernel
theorem dX2_offer_48 : decode cX2_offer 48 = .ok (.if_icmp .ge 99, 3) := by decide +kernel
theorem dX2_offer_51 : decode cX2_offer 51 = .ok (.iload_n 3, 1) := by decide +kernel
theorem dX2_offer_52 : decode cX2_offer 52 = .ok (.iload 5, 2) := by decide +kernel
theorem dX2_offer_54 : decode cX2_offer 54 = .ok (.ishr, 1) := by decide +kernel
theorem dX2_offer_55 : decode cX2_offer 55 = .ok (.iconst 1, 1) := by decide +kernel
theorem dX2_offer_56 : decode cX2_offer 56 = .ok (.iand, 1) := by decide +kernel
theorem dX2_offer_57 : decode cX2_offer 57 = .ok (.ifCond .eq 20, 3) := by decide +kernel
theorem dX2_offer_60 : decode cX2_offer 60 = .ok (.aload_n 0, 1) := by decide +kernel
theorem dX2_offer_61 : decode cX2_offer 61 = .ok (.getfield 9, 3) := by decide +kernel
theorem dX2_offer_64 : decode cX2_offer 64 = .ok (.iload_n 1, 1) := by decide +kernel
theorem dX2_offer_65 : decode cX2_offer 65 = .ok (.bipush 9, 2) := by decide +kernel
theorem dX2_offer_67 : decode cX2_offer 67 = .ok (.imul, 1) := by decide +kernel
theorem dX2_offer_68 : decode cX2_offer 68 = .ok (.iload 5, 2) := by decide +kernel
theorem dX2_offer_70 : decode cX2_offer 70 = .ok (.iadd, 1) := by decide +kernel
theorem dX2_offer_71 : decode cX2_offer 71 = .ok (.iaload, 1) := by decide +kernel
theorem dX2_offer_72 : decode cX2_offer 72 = .ok (.iload_n 3, 1) := by decide +kernel
theorem dX2_offer_73 : decode cX2_offer 73 = .ok (.iand, 1) := by decide +kernel
theorem dX2_offer_74 : decode cX2_offer 74 = .ok (.goto 4, 3) := by decide +kernel
theorem dX2_offer_77 : decode cX2_offer 77 = .ok (.iconst 0, 1) := by decide +kernel
theorem dX2_offer_78 : decode cX2_offer 78 = .ok (.istore 6, 2) := by decide +kernel
theorem dX2_offer_80 : decode cX2_offer 80 = .ok (.iload 5, 2) := by decide +kernel
theorem dX2_offer_82 : decode cX2_offer 82 = .ok (.iconst 1, 1) := by decide +kernel
theorem dX2_offer_83 : decode cX2_offer 83 = .ok (.iadd, 1) := by decide +kernel
theorem dX2_offer_84 : decode cX2_offer 84 = .ok (.istore 7, 2) := by decide +kernel
theorem dX2_offer_86 : decode cX2_offer 86 = .ok (.iload 6, 2) := by decide +kernel
theorem dX2_offer_88 : decode cX2_offer 88 = .ok (.ifCond .eq 53, 3) := by decide +kernel
theorem dX2_offer_91 : decode cX2_offer 91 = .ok (.iload 7, 2) := by decide +kernel
theorem dX2_offer_93 : decode cX2_offer 93 = .ok (.aload_n 0, 1) := by decide +kernel
theorem dX2_offer_94 : decode cX2_offer 94 = .ok (.getfield 21, 3) := by decide +kernel
theorem dX2_offer_97 : decode cX2_offer 97 = .ok (.if_icmp .ge 44, 3) := by decide +kernel
theorem dX2_offer_100 : decode cX2_offer 100 = .ok (.iload 6, 2) := by decide +kernel
theorem dX2_offer_102 : decode cX2_offer 102 = .ok (.iload 7, 2) := by decide +kernel
theorem dX2_offer_104 : decode cX2_offer 104 = .ok (.ishr, 1) := by decide +kernel
theorem dX2_offer_105 : decode cX2_offer 105 = .ok (.iconst 1, 1) := by decide +kernel
theorem dX2_offer_106 : decode cX2_offer 106 = .ok (.iand, 1) := by decide +kernel
theorem dX2_offer_107 : decode cX2_offer 107 = .ok (.ifCond .eq 28, 3) := by decide +kernel
theorem dX2_offer_110 : decode cX2_offer 110 = .ok (.iload 4, 2) := by decide +kernel
theorem dX2_offer_112 : decode cX2_offer 112 = .ok (.aload_n 0, 1) := by decide +kernel
theorem dX2_offer_113 : decode cX2_offer 113 = .ok (.getfield 15, 3) := by decide +kernel
theorem dX2_offer_116 : decode cX2_offer 116 = .ok (.iload_n 3, 1) := by decide +kernel
theorem dX2_offer_117 : decode cX2_offer 117 = .ok (.iconst 1, 1) := by decide +kernel
theorem dX2_offer_118 : decode cX2_offer 118 = .ok (.iload 5, 2) := by decide +kernel
theorem dX2_offer_120 : decode cX2_offer 120 = .ok (.ishl, 1) := by decide +kernel
theorem dX2_offer_121 : decode cX2_offer 121 = .ok (.ixor, 1) := by decide +kernel
theorem dX2_offer_122 : decode cX2_offer 122 = .ok (.iconst 1, 1) := by decide +kernel
theorem dX2_offer_123 : decode cX2_offer 123 = .ok (.iload 7, 2) := by decide +kernel
theorem dX2_offer_125 : decode cX2_offer 125 = .ok (.ishl, 1) := by decide +kernel
theorem dX2_offer_126 : decode cX2_offer 126 = .ok (.ixor, 1) := by decide +kernel
theorem dX2_offer_127 : decode cX2_offer 127 = .ok (.iaload, 1) := by decide +kernel
theorem dX2_offer_128 : decode cX2_offer 128 = .ok (.iload_n 2, 1) := by decide +kernel
theorem dX2_offer_129 : decode cX2_offer 129 = .ok (.iadd, 1) := by decide +kernel
theorem dX2_offer_130 : decode cX2_offer 130 = .ok (.invokestatic 68, 3) := by decide +kernel
theorem dX2_offer_133 : decode cX2_offer 133 = .ok (.istore 4, 2) := by decide +kernel
theorem dX2_offer_135 : decode cX2_offer 135 = .ok (.iinc 7 1, 3) := by decide +kernel
theorem dX2_offer_138 : decode cX2_offer 138 = .ok (.goto (-52), 3) := by decide +kernel
theorem dX2_offer_141 : decode cX2_offer 141 = .ok (.iinc 5 1, 3) := by decide +kernel
theorem dX2_offer_144 : decode cX2_offer 144 = .ok (.goto (-102), 3) := by decide +kernel
theorem dX2_offer_147 : decode cX2_offer 147 = .ok (.aload_n 0, 1) := by decide +kernel
theorem dX2_offer_148 : decode cX2_offer 148 = .ok (.getfield 15, 3) := by decide +kernel
theorem dX2_offer_151 : decode cX2_offer 151 = .ok (.iload_n 3, 1) := by decide +kernel
theorem dX2_offer_152 : decode cX2_offer 152 = .ok (.iload 4, 2) := by decide +kernel
theorem dX2_offer_154 : decode cX2_offer 154 = .ok (.iastore, 1) := by decide +kernel
theorem dX2_offer_155 : decode cX2_offer 155 = .ok (.iinc 3 (-1), 3) := by decide +kernel
theorem dX2_offer_158 : decode cX2_offer 158 = .ok (.goto (-131), 3) := by decide +kernel
theorem dX2_offer_161 : decode cX2_offer 161 = .ok (.return_, 1) := by decide +kernel
theorem dX2_make_0 : decode cX2_make 0 = .ok (.aload_n 0, 1) := by decide +kernel
theorem dX2_make_1 : decode cX2_make 1 = .ok (.aload_n 1, 1) := by decide +kernel
theorem dX2_make_2 : decode cX2_make 2 = .ok (.getfield 29, 3) := by decide +kernel
theorem dX2_make_5 : decode cX2_make 5 = .ok (.putfield 21, 3) := by decide +kernel
theorem dX2_make_8 : decode cX2_make 8 = .ok (.aload_n 0, 1) := by decide +kernel
theorem dX2_make_9 : decode cX2_make 9 = .ok (.getfield 9, 3) := by decide +kernel
theorem dX2_make_12 : decode cX2_make 12 = .ok (.iconst 0, 1) := by decide +kernel
theorem dX2_make_13 : decode cX2_make 13 = .ok (.invokestatic 32, 3) := by decide +kernel
theorem dX2_make_16 : decode cX2_make 16 = .ok (.aload_n 0, 1) := by decide +kernel
theorem dX2_make_17 : decode cX2_make 17 = .ok (.getfield 15, 3) := by decide +kernel
theorem dX2_make_20 : decode cX2_make 20 = .ok (.iconst 0, 1) := by decide +kernel
theorem dX2_make_21 : decode cX2_make 21 = .ok (.iconst 1, 1) := by decide +kernel
theorem dX2_make_22 : decode cX2_make 22 = .ok (.aload_n 0, 1) := by decide +kernel
theorem dX2_make_23 : decode cX2_make 23 = .ok (.getfield 21, 3) := by decide +kernel
theorem dX2_make_26 : decode cX2_make 26 = .ok (.ishl, 1) := by decide +kernel
theorem dX2_make_27 : decode cX2_make 27 = .ok (.iconst 0, 1) := by decide +kernel
theorem dX2_make_28 : decode cX2_make 28 = .ok (.invokestatic 38, 3) := by decide +kernel
theorem dX2_make_31 : decode cX2_make 31 = .ok (.iconst 0, 1) := by decide +kernel
theorem dX2_make_32 : decode cX2_make 32 = .ok (.istore_n 2, 1) := by decide +kernel
theorem dX2_make_33 : decode cX2_make 33 = .ok (.iload_n 2, 1) := by decide +kernel
theorem dX2_make_34 : decode cX2_make 34 = .ok (.aload_n 0, 1) := by decide +kernel
theorem dX2_make_35 : decode cX2_make 35 = .ok (.getfield 25, 3) := by decide +kernel
theorem dX2_make_38 : decode cX2_make 38 = .ok (.getfield 41, 3) := by decide +kernel
theorem dX2_make_41 : decode cX2_make 41 = .ok (.if_icmp .ge 23, 3) := by decide +kernel
theorem dX2_make_44 : decode cX2_make 44 = .ok (.aload_n 0, 1) := by decide +kernel
theorem dX2_make_45 : decode cX2_make 45 = .ok (.aload_n 1, 1) := by decide +kernel
theorem dX2_make_46 : decode cX2_make 46 = .ok (.iload_n 2, 1) := by decide +kernel
theorem dX2_make_47 : decode cX2_make 47 = .ok (.invokevirtual 46, 3) := by decide +kernel
theorem dX2_make_50 : decode cX2_make 50 = .ok (.ifCond .eq 8, 3) := by decide +kernel
theorem dX2_make_53 : decode cX2_make 53 = .ok (.aload_n 0, 1) := by decide +kernel
theorem dX2_make_54 : decode cX2_make 54 = .ok (.iload_n 2, 1) := by decide +kernel
theorem dX2_make_55 : decode cX2_make 55 = .ok (.invokevirtual 50, 3) := by decide +kernel
theorem dX2_make_58 : decode cX2_make 58 = .ok (.iinc 2 1, 3) := by decide +kernel
theorem dX2_make_61 : decode cX2_make 61 = .ok (.goto (-28), 3) := by decide +kernel
theorem dX2_make_64 : decode cX2_make 64 = .ok (.return_, 1) := by decide +kernel
theorem dX2_worthIn_0 : decode cX2_worthIn 0 = .ok (.iload_n 0, 1) := by decide +kernel
theorem dX2_worthIn_1 : decode cX2_worthIn 1 = .ok (.sipush 1024, 3) := by decide +kernel
theorem dX2_worthIn_4 : decode cX2_worthIn 4 = .ok (.iadd, 1) := by decide +kernel
theorem dX2_worthIn_5 : decode cX2_worthIn 5 = .ok (.iconst 1, 1) := by decide +kernel
theorem dX2_worthIn_6 : decode cX2_worthIn 6 = .ok (.isub, 1) := by decide +kernel
theorem dX2_worthIn_7 : decode cX2_worthIn 7 = .ok (.sipush 1024, 3) := by decide +kernel
theorem dX2_worthIn_10 : decode cX2_worthIn 10 = .ok (.idiv, 1) := by decide +kernel
theorem dX2_worthIn_11 : decode cX2_worthIn 11 = .ok (.ireturn, 1) := by decide +kernel
theorem dX2_worthAtMost_0 : decode cX2_worthAtMost 0 = .ok (.aload_n 0, 1) := by decide +kernel
theorem dX2_worthAtMost_1 : decode cX2_worthAtMost 1 = .ok (.getfield 15, 3) := by decide +kernel
theorem dX2_worthAtMost_4 : decode cX2_worthAtMost 4 = .ok (.iconst 1, 1) := by decide +kernel
theorem dX2_worthAtMost_5 : decode cX2_worthAtMost 5 = .ok (.aload_n 0, 1) := by decide +kernel
theorem dX2_worthAtMost_6 : decode cX2_worthAtMost 6 = .ok (.getfield 21, 3) := by decide +kernel
theorem dX2_worthAtMost_9 : decode cX2_worthAtMost 9 = .ok (.ishl, 1) := by decide +kernel
theorem dX2_worthAtMost_10 : decode cX2_worthAtMost 10 = .ok (.iconst 1, 1) := by decide +kernel
theorem dX2_worthAtMost_11 : decode cX2_worthAtMost 11 = .ok (.isub, 1) := by decide +kernel
theorem dX2_worthAtMost_12 : decode cX2_worthAtMost 12 = .ok (.iaload, 1) := by decide +kernel
theorem dX2_worthAtMost_13 : decode cX2_worthAtMost 13 = .ok (.invokestatic 74, 3) := by decide +kernel
theorem dX2_worthAtMost_16 : decode cX2_worthAtMost 16 = .ok (.ireturn, 1) := by decide +kernel
theorem dX2_doorsAtMost_0 : decode cX2_doorsAtMost 0 = .ok (.aload_n 0, 1) := by decide +kernel
theorem dX2_doorsAtMost_1 : decode cX2_doorsAtMost 1 = .ok (.invokevirtual 78, 3) := by decide +kernel
theorem dX2_doorsAtMost_4 : decode cX2_doorsAtMost 4 = .ok (.sipush 1024, 3) := by decide +kernel
theorem dX2_doorsAtMost_7 : decode cX2_doorsAtMost 7 = .ok (.imul, 1) := by decide +kernel
theorem dX2_doorsAtMost_8 : decode cX2_doorsAtMost 8 = .ok (.aload_n 0, 1) := by decide +kernel
theorem dX2_doorsAtMost_9 : decode cX2_doorsAtMost 9 = .ok (.getfield 15, 3) := by decide +kernel
theorem dX2_doorsAtMost_12 : decode cX2_doorsAtMost 12 = .ok (.iconst 1, 1) := by decide +kernel
theorem dX2_doorsAtMost_13 : decode cX2_doorsAtMost 13 = .ok (.aload_n 0, 1) := by decide +kernel
theorem dX2_doorsAtMost_14 : decode cX2_doorsAtMost 14 = .ok (.getfield 21, 3) := by decide +kernel
theorem dX2_doorsAtMost_17 : decode cX2_doorsAtMost 17 = .ok (.ishl, 1) := by decide +kernel
theorem dX2_doorsAtMost_18 : decode cX2_doorsAtMost 18 = .ok (.iconst 1, 1) := by decide +kernel
theorem dX2_doorsAtMost_19 : decode cX2_doorsAtMost 19 = .ok (.isub, 1) := by decide +kernel
theorem dX2_doorsAtMost_20 : decode cX2_doorsAtMost 20 = .ok (.iaload, 1) := by decide +kernel
theorem dX2_doorsAtMost_21 : decode cX2_doorsAtMost 21 = .ok (.isub, 1) := by decide +kernel
theorem dX2_doorsAtMost_22 : decode cX2_doorsAtMost 22 = .ok (.ireturn, 1) := by decide +kernel
theorem dX2_seat_0 : decode cX2_seat 0 = .ok (.iload_n 3, 1) := by decide +kernel
theorem dX2_seat_1 : decode cX2_seat 1 = .ok (.aload_n 0, 1) := by decide +kernel
theorem dX2_seat_2 : decode cX2_seat 2 = .ok (.getfield 25, 3) := by decide +kernel
theorem dX2_seat_5 : decode cX2_seat 5 = .ok (.getfield 41, 3) := by decide +kernel
theorem dX2_seat_8 : decode cX2_seat 8 = .ok (.if_icmp .lt 5, 3) := by decide +kernel
theorem dX2_seat_11 : decode cX2_seat 11 = .ok (.iconst 1, 1) := by decide +kernel
theorem dX2_seat_12 : decode cX2_seat 12 = .ok (.ireturn, 1) := by decide +kernel
theorem dX2_seat_13 : decode cX2_seat 13 = .ok (.iload_n 1, 1) := by decide +kernel
theorem dX2_seat_14 : decode cX2_seat 14 = .ok (.iload_n 3, 1) := by decide +kernel
theorem dX2_seat_15 : decode cX2_seat 15 = .ok (.ishr, 1) := by decide +kernel
theorem dX2_seat_16 : decode cX2_seat 16 = .ok (.iconst 1, 1) := by decide +kernel
theorem dX2_seat_17 : decode cX2_seat 17 = .ok (.iand, 1) := by decide +kernel
theorem dX2_seat_18 : decode cX2_seat 18 = .ok (.ifCond .ne 13, 3) := by decide +kernel
theorem dX2_seat_21 : decode cX2_seat 21 = .ok (.aload_n 0, 1) := by decide +kernel
theorem dX2_seat_22 : decode cX2_seat 22 = .ok (.iload_n 1, 1) := by decide +kernel
theorem dX2_seat_23 : decode cX2_seat 23 = .ok (.iload_n 2, 1) := by decide +kernel
theorem dX2_seat_24 : decode cX2_seat 24 = .ok (.iload_n 3, 1) := by decide +kernel
theorem dX2_seat_25 : decode cX2_seat 25 = .ok (.iconst 1, 1) := by decide +kernel
theorem dX2_seat_26 : decode cX2_seat 26 = .ok (.iadd, 1) := by decide +kernel
theorem dX2_seat_27 : decode cX2_seat 27 = .ok (.invokestatic 90, 3) := by decide +kernel
theorem dX2_seat_30 : decode cX2_seat 30 = .ok (.ireturn, 1) := by decide +kernel
theorem dX2_seat_31 : decode cX2_seat 31 = .ok (.iconst 0, 1) := by decide +kernel
theorem dX2_seat_32 : decode cX2_seat 32 = .ok (.istore 4, 2) := by decide +kernel
theorem dX2_seat_34 : decode cX2_seat 34 = .ok (.iload 4, 2) := by decide +kernel
theorem dX2_seat_36 : decode cX2_seat 36 = .ok (.aload_n 0, 1) := by decide +kernel
theorem dX2_seat_37 : decode cX2_seat 37 = .ok (.getfield 21, 3) := by decide +kernel
theorem dX2_seat_40 : decode cX2_seat 40 = .ok (.if_icmp .ge 118, 3) := by decide +kernel
theorem dX2_seat_43 : decode cX2_seat 43 = .ok (.iload_n 2, 1) := by decide +kernel
theorem dX2_seat_44 : decode cX2_seat 44 = .ok (.iload 4, 2) := by decide +kernel
theorem dX2_seat_46 : decode cX2_seat 46 = .ok (.ishr, 1) := by decide +kernel
theorem dX2_seat_47 : decode cX2_seat 47 = .ok (.iconst 1, 1) := by decide +kernel
theorem dX2_seat_48 : decode cX2_seat 48 = .ok (.iand, 1) := by decide +kernel
theorem dX2_seat_49 : decode cX2_seat 49 = .ok (.ifCond .eq 20, 3) := by decide +kernel
theorem dX2_seat_52 : decode cX2_seat 52 = .ok (.aload_n 0, 1) := by decide +kernel
theorem dX2_seat_53 : decode cX2_seat 53 = .ok (.getfield 9, 3) := by decide +kernel
theorem dX2_seat_56 : decode cX2_seat 56 = .ok (.iload_n 3, 1) := by decide +kernel
theorem dX2_seat_57 : decode cX2_seat 57 = .ok (.bipush 9, 2) := by decide +kernel
theorem dX2_seat_59 : decode cX2_seat 59 = .ok (.imul, 1) := by decide +kernel
theorem dX2_seat_60 : decode cX2_seat 60 = .ok (.iload 4, 2) := by decide +kernel
theorem dX2_seat_62 : decode cX2_seat 62 = .ok (.iadd, 1) := by decide +kernel
theorem dX2_seat_63 : decode cX2_seat 63 = .ok (.iaload, 1) := by decide +kernel
theorem dX2_seat_64 : decode cX2_seat 64 = .ok (.iload_n 2, 1) := by decide +kernel
theorem dX2_seat_65 : decode cX2_seat 65 = .ok (.iand, 1) := by decide +kernel
theorem dX2_seat_66 : decode cX2_seat 66 = .ok (.goto 4, 3) := by decide +kernel
theorem dX2_seat_69 : decode cX2_seat 69 = .ok (.iconst 0, 1) := by decide +kernel
theorem dX2_seat_70 : decode cX2_seat 70 = .ok (.istore 5, 2) := by decide +kernel
theorem dX2_seat_72 : decode cX2_seat 72 = .ok (.iload 4, 2) := by decide +kernel
theorem dX2_seat_74 : decode cX2_seat 74 = .ok (.iconst 1, 1) := by decide +kernel
theorem dX2_seat_75 : decode cX2_seat 75 = .ok (.iadd, 1) := by decide +kernel
theorem dX2_seat_76 : decode cX2_seat 76 = .ok (.istore 6, 2) := by decide +kernel
theorem dX2_seat_78 : decode cX2_seat 78 = .ok (.iload 5, 2) := by decide +kernel
theorem dX2_seat_80 : decode cX2_seat 80 = .ok (.ifCond .eq 72, 3) := by decide +kernel
theorem dX2_seat_83 : decode cX2_seat 83 = .ok (.iload 6, 2) := by decide +kernel
theorem dX2_seat_85 : decode cX2_seat 85 = .ok (.aload_n 0, 1) := by decide +kernel
theorem dX2_seat_86 : decode cX2_seat 86 = .ok (.getfield 21, 3) := by decide +kernel
theorem dX2_seat_89 : decode cX2_seat 89 = .ok (.if_icmp .ge 63, 3) := by decide +kernel
theorem dX2_seat_92 : decode cX2_seat 92 = .ok (.iload_n 2, 1) := by decide +kernel
theorem dX2_seat_93 : decode cX2_seat 93 = .ok (.iconst 1, 1) := by decide +kernel
theorem dX2_seat_94 : decode cX2_seat 94 = .ok (.iload 4, 2) := by decide +kernel
theorem dX2_seat_96 : decode cX2_seat 96 = .ok (.ishl, 1) := by decide +kernel
theorem dX2_seat_97 : decode cX2_seat 97 = .ok (.iconst 1, 1) := by decide +kernel
theorem dX2_seat_98 : decode cX2_seat 98 = .ok (.iload 6, 2) := by decide +kernel
theorem dX2_seat_100 : decode cX2_seat 100 = .ok (.ishl, 1) := by decide +kernel
theorem dX2_seat_101 : decode cX2_seat 101 = .ok (.ior, 1) := by decide +kernel
theorem dX2_seat_102 : decode cX2_seat 102 = .ok (.iconst (-1), 1) := by decide +kernel
theorem dX2_seat_103 : decode cX2_seat 103 = .ok (.ixor, 1) := by decide +kernel
theorem dX2_seat_104 : decode cX2_seat 104 = .ok (.iand, 1) := by decide +kernel
theorem dX2_seat_105 : decode cX2_seat 105 = .ok (.istore 7, 2) := by decide +kernel
theorem dX2_seat_107 : decode cX2_seat 107 = .ok (.iload 5, 2) := by decide +kernel
theorem dX2_seat_109 : decode cX2_seat 109 = .ok (.iload 6, 2) := by decide +kernel
theorem dX2_seat_111 : decode cX2_seat 111 = .ok (.ishr, 1) := by decide +kernel
theorem dX2_seat_112 : decode cX2_seat 112 = .ok (.iconst 1, 1) := by decide +kernel
theorem dX2_seat_113 : decode cX2_seat 113 = .ok (.iand, 1) := by decide +kernel
theorem dX2_seat_114 : decode cX2_seat 114 = .ok (.ifCond .eq 32, 3) := by decide +kernel
theorem dX2_seat_117 : decode cX2_seat 117 = .ok (.aload_n 0, 1) := by decide +kernel
theorem dX2_seat_118 : decode cX2_seat 118 = .ok (.iload_n 1, 1) := by decide +kernel
theorem dX2_seat_119 : decode cX2_seat 119 = .ok (.iload 7, 2) := by decide +kernel
theorem dX2_seat_121 : decode cX2_seat 121 = .ok (.iload_n 3, 1) := by decide +kernel
theorem dX2_seat_122 : decode cX2_seat 122 = .ok (.iconst 1, 1) := by decide +kernel
theorem dX2_seat_123 : decode cX2_seat 123 = .ok (.iadd, 1) := by decide +kernel
theorem dX2_seat_124 : decode cX2_seat 124 = .ok (.invokestatic 90, 3) := by decide +kernel
theorem dX2_seat_127 : decode cX2_seat 127 = .ok (.ifCond .eq 19, 3) := by decide +kernel
theorem dX2_seat_130 : decode cX2_seat 130 = .ok (.aload_n 0, 1) := by decide +kernel
theorem dX2_seat_131 : decode cX2_seat 131 = .ok (.getfield 18, 3) := by decide +kernel
theorem dX2_seat_134 : decode cX2_seat 134 = .ok (.iload_n 3, 1) := by decide +kernel
theorem dX2_seat_135 : decode cX2_seat 135 = .ok (.bipush 10, 2) := by decide +kernel
theorem dX2_seat_137 : decode cX2_seat 137 = .ok (.iload 4, 2) := by decide +kernel
theorem dX2_seat_139 : decode cX2_seat 139 = .ok (.imul, 1) := by decide +kernel
theorem dX2_seat_140 : decode cX2_seat 140 = .ok (.iload 6, 2) := by decide +kernel
theorem dX2_seat_142 : decode cX2_seat 142 = .ok (.iadd, 1) := by decide +kernel
theorem dX2_seat_143 : decode cX2_seat 143 = .ok (.iastore, 1) := by decide +kernel
theorem dX2_seat_144 : decode cX2_seat 144 = .ok (.iconst 1, 1) := by decide +kernel
theorem dX2_seat_145 : decode cX2_seat 145 = .ok (.ireturn, 1) := by decide +kernel
theorem dX2_seat_146 : decode cX2_seat 146 = .ok (.iinc 6 1, 3) := by decide +kernel
theorem dX2_seat_149 : decode cX2_seat 149 = .ok (.goto (-71), 3) := by decide +kernel
theorem dX2_seat_152 : decode cX2_seat 152 = .ok (.iinc 4 1, 3) := by decide +kernel
theorem dX2_seat_155 : decode cX2_seat 155 = .ok (.goto (-121), 3) := by decide +kernel
theorem dX2_seat_158 : decode cX2_seat 158 = .ok (.iconst 0, 1) := by decide +kernel
theorem dX2_seat_159 : decode cX2_seat 159 = .ok (.ireturn, 1) := by decide +kernel
theorem dX2_seatedAt_0 : decode cX2_seatedAt 0 = .ok (.aload_n 0, 1) := by decide +kernel
theorem dX2_seatedAt_1 : decode cX2_seatedAt 1 = .ok (.getfield 18, 3) := by decide +kernel
theorem dX2_seatedAt_4 : decode cX2_seatedAt 4 = .ok (.iconst (-1), 1) := by decide +kernel
theorem dX2_seatedAt_5 : decode cX2_seatedAt 5 = .ok (.invokestatic 32, 3) := by decide +kernel
theorem dX2_seatedAt_8 : decode cX2_seatedAt 8 = .ok (.aload_n 0, 1) := by decide +kernel
theorem dX2_seatedAt_9 : decode cX2_seatedAt 9 = .ok (.aload_n 0, 1) := by decide +kernel
theorem dX2_seatedAt_10 : decode cX2_seatedAt 10 = .ok (.invokevirtual 87, 3) := by decide +kernel
theorem dX2_seatedAt_13 : decode cX2_seatedAt 13 = .ok (.iconst 1, 1) := by decide +kernel
theorem dX2_seatedAt_14 : decode cX2_seatedAt 14 = .ok (.aload_n 0, 1) := by decide +kernel
theorem dX2_seatedAt_15 : decode cX2_seatedAt 15 = .ok (.getfield 21, 3) := by decide +kernel
theorem dX2_seatedAt_18 : decode cX2_seatedAt 18 = .ok (.ishl, 1) := by decide +kernel
theorem dX2_seatedAt_19 : decode cX2_seatedAt 19 = .ok (.iconst 1, 1) := by decide +kernel
theorem dX2_seatedAt_20 : decode cX2_seatedAt 20 = .ok (.isub, 1) := by decide +kernel
theorem dX2_seatedAt_21 : decode cX2_seatedAt 21 = .ok (.iconst 0, 1) := by decide +kernel
theorem dX2_seatedAt_22 : decode cX2_seatedAt 22 = .ok (.invokestatic 90, 3) := by decide +kernel
theorem dX2_seatedAt_25 : decode cX2_seatedAt 25 = .ok (.pop, 1) := by decide +kernel
theorem dX2_seatedAt_26 : decode cX2_seatedAt 26 = .ok (.aload_n 0, 1) := by decide +kernel
theorem dX2_seatedAt_27 : decode cX2_seatedAt 27 = .ok (.getfield 18, 3) := by decide +kernel
theorem dX2_seatedAt_30 : decode cX2_seatedAt 30 = .ok (.iload_n 1, 1) := by decide +kernel
theorem dX2_seatedAt_31 : decode cX2_seatedAt 31 = .ok (.iaload, 1) := by decide +kernel
theorem dX2_seatedAt_32 : decode cX2_seatedAt 32 = .ok (.ireturn, 1) := by decide +kernel
theorem dX2_canOpen_0 : decode cX2_canOpen 0 = .ok (.iconst 0, 1) := by decide +kernel
theorem dX2_canOpen_1 : decode cX2_canOpen 1 = .ok (.istore_n 2, 1) := by decide +kernel
theorem dX2_canOpen_2 : decode cX2_canOpen 2 = .ok (.iload_n 2, 1) := by decide +kernel
theorem dX2_canOpen_3 : decode cX2_canOpen 3 = .ok (.aload_n 0, 1) := by decide +kernel
theorem dX2_canOpen_4 : decode cX2_canOpen 4 = .ok (.getfield 21, 3) := by decide +kernel
theorem dX2_canOpen_7 : decode cX2_canOpen 7 = .ok (.if_icmp .ge 25, 3) := by decide +kernel
theorem dX2_canOpen_10 : decode cX2_canOpen 10 = .ok (.aload_n 0, 1) := by decide +kernel
theorem dX2_canOpen_11 : decode cX2_canOpen 11 = .ok (.getfield 9, 3) := by decide +kernel
theorem dX2_canOpen_14 : decode cX2_canOpen 14 = .ok (.iload_n 1, 1) := by decide +kernel
theorem dX2_canOpen_15 : decode cX2_canOpen 15 = .ok (.bipush 9, 2) := by decide +kernel
theorem dX2_canOpen_17 : decode cX2_canOpen 17 = .ok (.imul, 1) := by decide +kernel
theorem dX2_canOpen_18 : decode cX2_canOpen 18 = .ok (.iload_n 2, 1) := by decide +kernel
theorem dX2_canOpen_19 : decode cX2_canOpen 19 = .ok (.iadd, 1) := by decide +kernel
theorem dX2_canOpen_20 : decode cX2_canOpen 20 = .ok (.iaload, 1) := by decide +kernel
theorem dX2_canOpen_21 : decode cX2_canOpen 21 = .ok (.ifCond .eq 5, 3) := by decide +kernel
theorem dX2_canOpen_24 : decode cX2_canOpen 24 = .ok (.iconst 1, 1) := by decide +kernel
theorem dX2_canOpen_25 : decode cX2_canOpen 25 = .ok (.ireturn, 1) := by decide +kernel
theorem dX2_canOpen_26 : decode cX2_canOpen 26 = .ok (.iinc 2 1, 3) := by decide +kernel
theorem dX2_canOpen_29 : decode cX2_canOpen 29 = .ok (.goto (-27), 3) := by decide +kernel
theorem dX2_canOpen_32 : decode cX2_canOpen 32 = .ok (.iconst 0, 1) := by decide +kernel
theorem dX2_canOpen_33 : decode cX2_canOpen 33 = .ok (.ireturn, 1) := by decide +kernel
theorem dX2_greatestWorths_0 : decode cX2_greatestWorths 0 = .ok (.iconst 0, 1) := by decide +kernel
theorem dX2_greatestWorths_1 : decode cX2_greatestWorths 1 = .ok (.istore_n 2, 1) := by decide +kernel
theorem dX2_greatestWorths_2 : decode cX2_greatestWorths 2 = .ok (.iconst 0, 1) := by decide +kernel
theorem dX2_greatestWorths_3 : decode cX2_greatestWorths 3 = .ok (.istore_n 3, 1) := by decide +kernel
theorem dX2_greatestWorths_4 : decode cX2_greatestWorths 4 = .ok (.iconst 0, 1) := by decide +kernel
theorem dX2_greatestWorths_5 : decode cX2_greatestWorths 5 = .ok (.istore 4, 2) := by decide +kernel
theorem dX2_greatestWorths_7 : decode cX2_greatestWorths 7 = .ok (.iload 4, 2) := by decide +kernel
theorem dX2_greatestWorths_9 : decode cX2_greatestWorths 9 = .ok (.iload_n 1, 1) := by decide +kernel
theorem dX2_greatestWorths_10 : decode cX2_greatestWorths 10 = .ok (.if_icmp .ge 122, 3) := by decide +kernel
theorem dX2_greatestWorths_13 : decode cX2_greatestWorths 13 = .ok (.iconst (-1), 1) := by decide +kernel
theorem dX2_greatestWorths_14 : decode cX2_greatestWorths 14 = .ok (.istore 5, 2) := by decide +kernel
theorem dX2_greatestWorths_16 : decode cX2_greatestWorths 16 = .ok (.iconst 0, 1) := by decide +kernel
theorem dX2_greatestWorths_17 : decode cX2_greatestWorths 17 = .ok (.istore 6, 2) := by decide +kernel
theorem dX2_greatestWorths_19 : decode cX2_greatestWorths 19 = .ok (.iload 6, 2) := by decide +kernel
theorem dX2_greatestWorths_21 : decode cX2_greatestWorths 21 = .ok (.aload_n 0, 1) := by decide +kernel
theorem dX2_greatestWorths_22 : decode cX2_greatestWorths 22 = .ok (.getfield 25, 3) := by decide +kernel
theorem dX2_greatestWorths_25 : decode cX2_greatestWorths 25 = .ok (.getfield 41, 3) := by decide +kernel
theorem dX2_greatestWorths_28 : decode cX2_greatestWorths 28 = .ok (.if_icmp .ge 72, 3) := by decide +kernel
theorem dX2_greatestWorths_31 : decode cX2_greatestWorths 31 = .ok (.iload_n 2, 1) := by decide +kernel
theorem dX2_greatestWorths_32 : decode cX2_greatestWorths 32 = .ok (.iload 6, 2) := by decide +kernel
theorem dX2_greatestWorths_34 : decode cX2_greatestWorths 34 = .ok (.ishr, 1) := by decide +kernel
theorem dX2_greatestWorths_35 : decode cX2_greatestWorths 35 = .ok (.iconst 1, 1) := by decide +kernel
theorem dX2_greatestWorths_36 : decode cX2_greatestWorths 36 = .ok (.iand, 1) := by decide +kernel
theorem dX2_greatestWorths_37 : decode cX2_greatestWorths 37 = .ok (.ifCond .ne 16, 3) := by decide +kernel
theorem dX2_greatestWorths_40 : decode cX2_greatestWorths 40 = .ok (.aload_n 0, 1) := by decide +kernel
theorem dX2_greatestWorths_41 : decode cX2_greatestWorths 41 = .ok (.iload 6, 2) := by decide +kernel
theorem dX2_greatestWorths_43 : decode cX2_greatestWorths 43 = .ok (.invokevirtual 94, 3) := by decide +kernel
theorem dX2_greatestWorths_46 : decode cX2_greatestWorths 46 = .ok (.ifCond .eq 7, 3) := by decide +kernel
theorem dX2_greatestWorths_49 : decode cX2_greatestWorths 49 = .ok (.iconst 1, 1) := by decide +kernel
theorem dX2_greatestWorths_50 : decode cX2_greatestWorths 50 = .ok (.goto 4, 3) := by decide +kernel
theorem dX2_greatestWorths_53 : decode cX2_greatestWorths 53 = .ok (.iconst 0, 1) := by decide +kernel
theorem dX2_greatestWorths_54 : decode cX2_greatestWorths 54 = .ok (.istore 7, 2) := by decide +kernel
theorem dX2_greatestWorths_56 : decode cX2_greatestWorths 56 = .ok (.iload 7, 2) := by decide +kernel
theorem dX2_greatestWorths_58 : decode cX2_greatestWorths 58 = .ok (.ifCond .eq 36, 3) := by decide +kernel
theorem dX2_greatestWorths_61 : decode cX2_greatestWorths 61 = .ok (.iload 5, 2) := by decide +kernel
theorem dX2_greatestWorths_63 : decode cX2_greatestWorths 63 = .ok (.iconst (-1), 1) := by decide +kernel
theorem dX2_greatestWorths_64 : decode cX2_greatestWorths 64 = .ok (.if_icmp .eq 26, 3) := by decide +kernel
theorem dX2_greatestWorths_67 : decode cX2_greatestWorths 67 = .ok (.aload_n 0, 1) := by decide +kernel
theorem dX2_greatestWorths_68 : decode cX2_greatestWorths 68 = .ok (.getfield 25, 3) := by decide +kernel
theorem dX2_greatestWorths_71 : decode cX2_greatestWorths 71 = .ok (.getfield 65, 3) := by decide +kernel
theorem dX2_greatestWorths_74 : decode cX2_greatestWorths 74 = .ok (.iload 6, 2) := by decide +kernel
theorem dX2_greatestWorths_76 : decode cX2_greatestWorths 76 = .ok (.iaload, 1) := by decide +kernel
theorem dX2_greatestWorths_77 : decode cX2_greatestWorths 77 = .ok (.aload_n 0, 1) := by decide +kernel
theorem dX2_greatestWorths_78 : decode cX2_greatestWorths 78 = .ok (.getfield 25, 3) := by decide +kernel
theorem dX2_greatestWorths_81 : decode cX2_greatestWorths 81 = .ok (.getfield 65, 3) := by decide +kernel
theorem dX2_greatestWorths_84 : decode cX2_greatestWorths 84 = .ok (.iload 5, 2) := by decide +kernel
theorem dX2_greatestWorths_86 : decode cX2_greatestWorths 86 = .ok (.iaload, 1) := by decide +kernel
theorem dX2_greatestWorths_87 : decode cX2_greatestWorths 87 = .ok (.if_icmp .le 7, 3) := by decide +kernel
theorem dX2_greatestWorths_90 : decode cX2_greatestWorths 90 = .ok (.iload 6, 2) := by decide +kernel
theorem dX2_greatestWorths_92 : decode cX2_greatestWorths 92 = .ok (.istore 5, 2) := by decide +kernel
theorem dX2_greatestWorths_94 : decode cX2_greatestWorths 94 = .ok (.iinc 6 1, 3) := by decide +kernel
theorem dX2_greatestWorths_97 : decode cX2_greatestWorths 97 = .ok (.goto (-78), 3) := by decide +kernel
theorem dX2_greatestWorths_100 : decode cX2_greatestWorths 100 = .ok (.iload 5, 2) := by decide +kernel
theorem dX2_greatestWorths_102 : decode cX2_greatestWorths 102 = .ok (.iconst (-1), 1) := by decide +kernel
theorem dX2_greatestWorths_103 : decode cX2_greatestWorths 103 = .ok (.if_icmp .eq 23, 3) := by decide +kernel
theorem dX2_greatestWorths_106 : decode cX2_greatestWorths 106 = .ok (.iload_n 2, 1) := by decide +kernel
theorem dX2_greatestWorths_107 : decode cX2_greatestWorths 107 = .ok (.iconst 1, 1) := by decide +kernel
theorem dX2_greatestWorths_108 : decode cX2_greatestWorths 108 = .ok (.iload 5, 2) := by decide +kernel
theorem dX2_greatestWorths_110 : decode cX2_greatestWorths 110 = .ok (.ishl, 1) := by decide +kernel
theorem dX2_greatestWorths_111 : decode cX2_greatestWorths 111 = .ok (.ior, 1) := by decide +kernel
theorem dX2_greatestWorths_112 : decode cX2_greatestWorths 112 = .ok (.istore_n 2, 1) := by decide +kernel
theorem dX2_greatestWorths_113 : decode cX2_greatestWorths 113 = .ok (.iload_n 3, 1) := by decide +kernel
theorem dX2_greatestWorths_114 : decode cX2_greatestWorths 114 = .ok (.aload_n 0, 1) := by decide +kernel
theorem dX2_greatestWorths_115 : decode cX2_greatestWorths 115 = .ok (.getfield 25, 3) := by decide +kernel
theorem dX2_greatestWorths_118 : decode cX2_greatestWorths 118 = .ok (.getfield 65, 3) := by decide +kernel
theorem dX2_greatestWorths_121 : decode cX2_greatestWorths 121 = .ok (.iload 5, 2) := by decide +kernel
theorem dX2_greatestWorths_123 : decode cX2_greatestWorths 123 = .ok (.iaload, 1) := by decide +kernel
theorem dX2_greatestWorths_124 : decode cX2_greatestWorths 124 = .ok (.iadd, 1) := by decide +kernel
theorem dX2_greatestWorths_125 : decode cX2_greatestWorths 125 = .ok (.istore_n 3, 1) := by decide +kernel
theorem dX2_greatestWorths_126 : decode cX2_greatestWorths 126 = .ok (.iinc 4 1, 3) := by decide +kernel
theorem dX2_greatestWorths_129 : decode cX2_greatestWorths 129 = .ok (.goto (-122), 3) := by decide +kernel
theorem dX2_greatestWorths_132 : decode cX2_greatestWorths 132 = .ok (.iload_n 3, 1) := by decide +kernel
theorem dX2_greatestWorths_133 : decode cX2_greatestWorths 133 = .ok (.ireturn, 1) := by decide +kernel
theorem dX2_fewestPersons_0 : decode cX2_fewestPersons 0 = .ok (.iconst 1, 1) := by decide +kernel
theorem dX2_fewestPersons_1 : decode cX2_fewestPersons 1 = .ok (.aload_n 0, 1) := by decide +kernel
theorem dX2_fewestPersons_2 : decode cX2_fewestPersons 2 = .ok (.getfield 21, 3) := by decide +kernel
theorem dX2_fewestPersons_5 : decode cX2_fewestPersons 5 = .ok (.ishl, 1) := by decide +kernel
theorem dX2_fewestPersons_6 : decode cX2_fewestPersons 6 = .ok (.iconst 1, 1) := by decide +kernel
theorem dX2_fewestPersons_7 : decode cX2_fewestPersons 7 = .ok (.isub, 1) := by decide +kernel
theorem dX2_fewestPersons_8 : decode cX2_fewestPersons 8 = .ok (.istore_n 1, 1) := by decide +kernel
theorem dX2_fewestPersons_9 : decode cX2_fewestPersons 9 = .ok (.iload_n 1, 1) := by decide +kernel
theorem dX2_fewestPersons_10 : decode cX2_fewestPersons 10 = .ok (.istore_n 2, 1) := by decide +kernel
theorem dX2_fewestPersons_11 : decode cX2_fewestPersons 11 = .ok (.iload_n 1, 1) := by decide +kernel
theorem dX2_fewestPersons_12 : decode cX2_fewestPersons 12 = .ok (.istore_n 3, 1) := by decide +kernel
theorem dX2_fewestPersons_13 : decode cX2_fewestPersons 13 = .ok (.iload_n 3, 1) := by decide +kernel
theorem dX2_fewestPersons_14 : decode cX2_fewestPersons 14 = .ok (.ifCond .lt 50, 3) := by decide +kernel
theorem dX2_fewestPersons_17 : decode cX2_fewestPersons 17 = .ok (.aload_n 0, 1) := by decide +kernel
theorem dX2_fewestPersons_18 : decode cX2_fewestPersons 18 = .ok (.getfield 15, 3) := by decide +kernel
theorem dX2_fewestPersons_21 : decode cX2_fewestPersons 21 = .ok (.iload_n 3, 1) := by decide +kernel
theorem dX2_fewestPersons_22 : decode cX2_fewestPersons 22 = .ok (.iaload, 1) := by decide +kernel
theorem dX2_fewestPersons_23 : decode cX2_fewestPersons 23 = .ok (.invokestatic 74, 3) := by decide +kernel
theorem dX2_fewestPersons_26 : decode cX2_fewestPersons 26 = .ok (.aload_n 0, 1) := by decide +kernel
theorem dX2_fewestPersons_27 : decode cX2_fewestPersons 27 = .ok (.invokevirtual 78, 3) := by decide +kernel
theorem dX2_fewestPersons_30 : decode cX2_fewestPersons 30 = .ok (.if_icmp .ne 7, 3) := by decide +kernel
theorem dX2_fewestPersons_33 : decode cX2_fewestPersons 33 = .ok (.iconst 1, 1) := by decide +kernel
theorem dX2_fewestPersons_34 : decode cX2_fewestPersons 34 = .ok (.goto 4, 3) := by decide +kernel
theorem dX2_fewestPersons_37 : decode cX2_fewestPersons 37 = .ok (.iconst 0, 1) := by decide +kernel
theorem dX2_fewestPersons_38 : decode cX2_fewestPersons 38 = .ok (.istore 4, 2) := by decide +kernel
theorem dX2_fewestPersons_40 : decode cX2_fewestPersons 40 = .ok (.iload 4, 2) := by decide +kernel
theorem dX2_fewestPersons_42 : decode cX2_fewestPersons 42 = .ok (.ifCond .eq 16, 3) := by decide +kernel
theorem dX2_fewestPersons_45 : decode cX2_fewestPersons 45 = .ok (.iload_n 3, 1) := by decide +kernel
theorem dX2_fewestPersons_46 : decode cX2_fewestPersons 46 = .ok (.invokestatic 82, 3) := by decide +kernel
theorem dX2_fewestPersons_49 : decode cX2_fewestPersons 49 = .ok (.iload_n 2, 1) := by decide +kernel
theorem dX2_fewestPersons_50 : decode cX2_fewestPersons 50 = .ok (.invokestatic 82, 3) := by decide +kernel
theorem dX2_fewestPersons_53 : decode cX2_fewestPersons 53 = .ok (.if_icmp .gt 5, 3) := by decide +kernel
theorem dX2_fewestPersons_56 : decode cX2_fewestPersons 56 = .ok (.iload_n 3, 1) := by decide +kernel
theorem dX2_fewestPersons_57 : decode cX2_fewestPersons 57 = .ok (.istore_n 2, 1) := by decide +kernel
theorem dX2_fewestPersons_58 : decode cX2_fewestPersons 58 = .ok (.iinc 3 (-1), 3) := by decide +kernel
theorem dX2_fewestPersons_61 : decode cX2_fewestPersons 61 = .ok (.goto (-48), 3) := by decide +kernel
theorem dX2_fewestPersons_64 : decode cX2_fewestPersons 64 = .ok (.iload_n 2, 1) := by decide +kernel
theorem dX2_fewestPersons_65 : decode cX2_fewestPersons 65 = .ok (.ireturn, 1) := by decide +kernel
def f2_findMates_L38 (x2 : Int32) (x4 : Int32) (K86 : Int32 → zMem → zRes) : Nat → Int32 → Int32 → zMem → zRes
  | 0, _, _, _ => none
  | n + 1, x3, x5, μ => if (μ 49 4) ≤ x5 then K86 x3 μ else bnd0 (f5_errs 28 x2 x4 x5 μ) (fun (v16 : Int32) (μ17 : zMem) => zlet (fun (x3_18 : Int32) (μ19 : zMem) => f2_findMates_L38 x2 x4 K86 n x3_18 (x5 + (1 : Int32)) μ19) (fun j20 => if v16 = 0 then zin ((x2 * (9 : Int32)) + x4) 90 (zin ((x2 * (9 : Int32)) + x4) 90 (zlet (zset μ17 50 ((x2 * (9 : Int32)) + x4).toNatClampNeg ((μ17 50 ((x2 * (9 : Int32)) + x4).toNatClampNeg) ||| (zshl (1 : Int32) x5))) (fun (μ25 : zMem) => j20 (1 : Int32) μ25))) else j20 x3 μ17))
def f2_findMates_L23 (x2 : Int32) (K92 : Int32 → zMem → zRes) : Nat → Int32 → Int32 → zMem → zRes
  | 0, _, _, _ => none
  | n + 1, x3, x4, μ => if (μ 49 4) ≤ x4 then K92 x3 μ else zlet (x4 + (1 : Int32)) (fun (v13 : Int32) => f2_findMates_L38 x2 x4 (fun (x3_26 : Int32) (μ27 : zMem) => f2_findMates_L23 x2 K92 n x3_26 (x4 + (1 : Int32)) μ27) zF x3 v13 μ)
def f2_findMates (x2 : Int32) (μ : zMem) : zRes := bnd0 (f5_isOpen 28 x2 μ) (fun (v1 : Int32) (μ2 : zMem) => zlet (fun (μ3 : zMem) => some (0, (0 : Int32), μ3)) (fun j4 => if v1 = 0 then bnd0 (f5_isTooLate 28 x2 μ2) (fun (v7 : Int32) (μ8 : zMem) => if v7 = 0 then f2_findMates_L23 x2 (fun (x3_28 : Int32) (μ29 : zMem) => zbl x3_28 (some (0, x3_28, μ29))) zF (0 : Int32) (0 : Int32) μ8 else j4 μ8) else j4 μ2))
set_option maxHeartbeats 1000000 in
theorem t2_findMates_L38 {g : Bool} (x2 : Int32) (x4 : Int32) (K86 : Int32 → zMem → zRes) (hK86 : ∀ (x3 : Int32) (μ : zMem), zR yX2_findMates cX2_findMates 6 (some .boolean) 3 86 [.ref 49, .ref 28, .int x2, .int x3, .int x4, .null] [] (nX g) (SX g) μ (K86 x3 μ)) : ∀ (n : Nat) (x3 : Int32) (x5 : Int32) (μ : zMem), zR yX2_findMates cX2_findMates 6 (some .boolean) 3 38 [.ref 49, .ref 28, .int x2, .int x3, .int x4, .int x5] [] (nX g) (SX g) μ (f2_findMates_L38 x2 x4 K86 n x3 x5 μ) := by
  intro n
  induction n with
  | zero => intro x3 x5 μ; intro q hq; cases hq
  | succ n ih =>
    intro x3 x5 μ
    unfold f2_findMates_L38
    refine z_iload (pc := 38) dX2_findMates_38 rfl ?_
    refine z_aload_n (pc := 40) dX2_findMates_40 rfl ?_
    refine z_geti (pc := 41) fdX2_21 (nx_lt (by decide)) (sx_49 g) rfl dX2_findMates_41 ?_
    refine z_icmp_ge (pc := 44) (tgt := 86) dX2_findMates_44 (by decide) (fun c14 => ?_) (fun c15 => ?_)
    · refine z_loc (L' := [.ref 49, .ref 28, .int x2, .int x3, .int x4, .null]) ⟨Or.inr rfl, ⟨Or.inr rfl, ⟨Or.inr rfl, ⟨Or.inr rfl, ⟨Or.inr rfl, ⟨Or.inl rfl, trivial⟩⟩⟩⟩⟩⟩ ?_
      exact hK86 x3 μ
    · refine z_aload_n (pc := 47) dX2_findMates_47 rfl ?_
      refine z_iload_n (pc := 48) dX2_findMates_48 rfl ?_
      refine z_iload (pc := 49) dX2_findMates_49 rfl ?_
      refine z_iload (pc := 51) dX2_findMates_51 rfl ?_
      refine z_callV (As := [.int x2, .int x4, .int x5]) (pc := 53) (ret' := some .int) kvX2_61 (t5_errs zSc_28 _ _ _ _) (by decide) (nx_lt (by decide)) (sx_28 g)  rfl rfl (Nat.le_of_ble_eq_true rfl) dX2_findMates_53 (fun v16 μ17 => ?_)
      refine z_let (fun (j : Int32 → zMem → zRes) => ∀ (x3_18 : Int32) (μ19 : zMem), zR yX2_findMates cX2_findMates 6 (some .boolean) 3 80 [.ref 49, .ref 28, .int x2, .int x3_18, .int x4, .int x5] [] (nX g) (SX g) μ19 (j x3_18 μ19)) ?_ (fun j20 hj20 => ?_)
      · intro x3_18 μ19
        refine z_iinc (pc := 80) (v := x5 + (1 : Int32)) (L' := [.ref 49, .ref 28, .int x2, .int x3_18, .int x4, .int (x5 + (1 : Int32))]) dX2_findMates_80 (by decide) rfl (congrArg _ (by decide)) rfl ?_
        refine z_goto (pc := 83) (tgt := 38) dX2_findMates_83 (by decide) ?_
        exact ih x3_18 (x5 + (1 : Int32)) μ19
      · refine z_if_ne (pc := 56) (tgt := 80) dX2_findMates_56 (by decide) (fun c21 => ?_) (fun c22 => ?_)
        · exact hj20 x3 μ17
        · refine z_aload_n (pc := 59) dX2_findMates_59 rfl ?_
          refine z_getr (pc := 60) fdX2_9 (nx_lt (by decide)) (sx_49 g) rfl rfl dX2_findMates_60 ?_
          refine z_iload_n (pc := 63) dX2_findMates_63 rfl ?_
          refine z_bipush (pc := 64) (9 : Int32) dX2_findMates_64 (by decide) ?_
          refine z_imul (pc := 66) dX2_findMates_66 ?_
          refine z_iload (pc := 67) dX2_findMates_67 rfl ?_
          refine z_iadd (pc := 69) dX2_findMates_69 ?_
          refine z_dup2 (pc := 70) dX2_findMates_70 rfl rfl ?_
          refine z_iald (pc := 71) (nx_lt (by decide)) (sx_50 g) rfl dX2_findMates_71 (fun h23 => ?_)
          refine z_iconst (pc := 72) (1 : Int32) dX2_findMates_72 (by decide) ?_
          refine z_iload (pc := 73) dX2_findMates_73 rfl ?_
          refine z_ishl (pc := 75) dX2_findMates_75 ?_
          refine z_ior (pc := 76) dX2_findMates_76 ?_
          refine z_iast (pc := 77) (nx_lt (by decide)) (sx_50 g) rfl dX2_findMates_77 (fun h24 => ?_)
          refine z_mem (fun μ25 => ?_)
          refine z_iconst (pc := 78) (1 : Int32) dX2_findMates_78 (by decide) ?_
          refine z_istore_n (pc := 79) (L' := [.ref 49, .ref 28, .int x2, .int (1 : Int32), .int x4, .int x5]) dX2_findMates_79 (by decide) rfl ?_
          exact hj20 (1 : Int32) μ25
set_option maxHeartbeats 1000000 in
theorem t2_findMates_L23 {g : Bool} (x2 : Int32) (K92 : Int32 → zMem → zRes) (hK92 : ∀ (x3 : Int32) (μ : zMem), zR yX2_findMates cX2_findMates 6 (some .boolean) 3 92 [.null, .null, .null, .int x3, .null, .null] [] (nX g) (SX g) μ (K92 x3 μ)) : ∀ (n : Nat) (x3 : Int32) (x4 : Int32) (μ : zMem), zR yX2_findMates cX2_findMates 6 (some .boolean) 3 23 [.ref 49, .ref 28, .int x2, .int x3, .int x4, .null] [] (nX g) (SX g) μ (f2_findMates_L23 x2 K92 n x3 x4 μ) := by
  intro n
  induction n with
  | zero => intro x3 x4 μ; intro q hq; cases hq
  | succ n ih =>
    intro x3 x4 μ
    unfold f2_findMates_L23
    refine z_iload (pc := 23) dX2_findMates_23 rfl ?_
    refine z_aload_n (pc := 25) dX2_findMates_25 rfl ?_
    refine z_geti (pc := 26) fdX2_21 (nx_lt (by decide)) (sx_49 g) rfl dX2_findMates_26 ?_
    refine z_icmp_ge (pc := 29) (tgt := 92) dX2_findMates_29 (by decide) (fun c11 => ?_) (fun c12 => ?_)
    · refine z_loc (L' := [.null, .null, .null, .int x3, .null, .null]) ⟨Or.inl rfl, ⟨Or.inl rfl, ⟨Or.inl rfl, ⟨Or.inr rfl, ⟨Or.inl rfl, ⟨Or.inl rfl, trivial⟩⟩⟩⟩⟩⟩ ?_
      exact hK92 x3 μ
    · refine z_iload (pc := 32) dX2_findMates_32 rfl ?_
      refine z_iconst (pc := 34) (1 : Int32) dX2_findMates_34 (by decide) ?_
      refine z_iadd (pc := 35) dX2_findMates_35 ?_
      refine z_val (fun v13 => ?_)
      refine z_istore (pc := 36) (L' := [.ref 49, .ref 28, .int x2, .int x3, .int x4, .int v13]) dX2_findMates_36 (by decide) rfl ?_
      refine t2_findMates_L38 _ _ _ (fun x3_26 μ27 => ?_) zF _ _ _
      · refine z_iinc (pc := 86) (v := x4 + (1 : Int32)) (L' := [.ref 49, .ref 28, .int x2, .int x3_26, .int (x4 + (1 : Int32)), .null]) dX2_findMates_86 (by decide) rfl (congrArg _ (by decide)) rfl ?_
        refine z_goto (pc := 89) (tgt := 23) dX2_findMates_89 (by decide) ?_
        exact ih x3_26 (x4 + (1 : Int32)) μ27
set_option maxHeartbeats 1000000 in
theorem t2_findMates {g : Bool} (x2 : Int32) (μ : zMem) : zMR yX2_findMates cX2_findMates 6 (some .boolean) 3 [.ref 49, .ref 28, .int x2] (nX g) (SX g) μ (f2_findMates x2 μ) := by
  refine zMR_of (by decide +kernel) rfl (Nat.le_of_ble_eq_true rfl) (L := [.ref 49, .ref 28, .int x2, .null, .null, .null]) rfl ?_
  unfold f2_findMates
  refine z_aload_n (pc := 0) dX2_findMates_0 rfl ?_
  refine z_iload_n (pc := 1) dX2_findMates_1 rfl ?_
  refine z_callV (As := [.int x2]) (pc := 2) (ret' := some .boolean) kvX2_54 (t5_isOpen zSc_28 _ _) (by decide) (nx_lt (by decide)) (sx_28 g)  rfl rfl (Nat.le_of_ble_eq_true rfl) dX2_findMates_2 (fun v1 μ2 => ?_)
  refine z_let (fun (j : zMem → zRes) => ∀ (μ3 : zMem), zR yX2_findMates cX2_findMates 6 (some .boolean) 3 16 [.null, .null, .null, .null, .null, .null] [] (nX g) (SX g) μ3 (j μ3)) ?_ (fun j4 hj4 => ?_)
  · intro μ3
    refine z_iconst (pc := 16) (0 : Int32) dX2_findMates_16 (by decide) ?_
    exact z_zretc (pc := 17) rfl (Or.inl rfl) dX2_findMates_17
  · refine z_if_ne (pc := 5) (tgt := 16) dX2_findMates_5 (by decide) (fun c5 => ?_) (fun c6 => ?_)
    · refine z_loc (L' := [.null, .null, .null, .null, .null, .null]) ⟨Or.inl rfl, ⟨Or.inl rfl, ⟨Or.inl rfl, ⟨Or.inl rfl, ⟨Or.inl rfl, ⟨Or.inl rfl, trivial⟩⟩⟩⟩⟩⟩ ?_
      exact hj4 μ2
    · refine z_aload_n (pc := 8) dX2_findMates_8 rfl ?_
      refine z_iload_n (pc := 9) dX2_findMates_9 rfl ?_
      refine z_callV (As := [.int x2]) (pc := 10) (ret' := some .boolean) kvX2_58 (t5_isTooLate zSc_28 _ _) (by decide) (nx_lt (by decide)) (sx_28 g)  rfl rfl (Nat.le_of_ble_eq_true rfl) dX2_findMates_10 (fun v7 μ8 => ?_)
      refine z_if_eq (pc := 13) (tgt := 18) dX2_findMates_13 (by decide) (fun c9 => ?_) (fun c10 => ?_)
      · refine z_iconst (pc := 18) (0 : Int32) dX2_findMates_18 (by decide) ?_
        refine z_istore_n (pc := 19) (L' := [.ref 49, .ref 28, .int x2, .int (0 : Int32), .null, .null]) dX2_findMates_19 (by decide) rfl ?_
        refine z_iconst (pc := 20) (0 : Int32) dX2_findMates_20 (by decide) ?_
        refine z_istore (pc := 21) (L' := [.ref 49, .ref 28, .int x2, .int (0 : Int32), .int (0 : Int32), .null]) dX2_findMates_21 (by decide) rfl ?_
        refine t2_findMates_L23 _ _ (fun x3_28 μ29 => ?_) zF _ _ _
        · refine z_iload_n (pc := 92) dX2_findMates_92 rfl ?_
          exact z_zret (pc := 93) rfl dX2_findMates_93
      · refine z_loc (L' := [.null, .null, .null, .null, .null, .null]) ⟨Or.inl rfl, ⟨Or.inl rfl, ⟨Or.inl rfl, ⟨Or.inl rfl, ⟨Or.inl rfl, ⟨Or.inl rfl, trivial⟩⟩⟩⟩⟩⟩ ?_
        exact hj4 μ8
def f2_offer_L86 (x2 : Int32) (x3 : Int32) (x5 : Int32) (x6 : Int32) (K141 : Int32 → zMem → zRes) : Nat → Int32 → Int32 → zMem → zRes
  | 0, _, _, _ => none
  | n + 1, x4, x7, μ => if x6 = 0 then K141 x4 μ else if (μ 49 4) ≤ x7 then K141 x4 μ else zlet (fun (x4_19 : Int32) (μ20 : zMem) => f2_offer_L86 x2 x3 x5 x6 K141 n x4_19 (x7 + (1 : Int32)) μ20) (fun j21 => if ((zshr x6 x7) &&& (1 : Int32)) = 0 then j21 x4 μ else zin ((x3 ^^^ (zshl (1 : Int32) x5)) ^^^ (zshl (1 : Int32) x7)) 512 (zlet (zmax x4 ((μ 51 ((x3 ^^^ (zshl (1 : Int32) x5)) ^^^ (zshl (1 : Int32) x7)).toNatClampNeg) + x2)) (fun (v25 : Int32) => j21 v25 μ)))
def f2_offer_L42 (x1 : Int32) (x2 : Int32) (x3 : Int32) (K147 : Int32 → zMem → zRes) : Nat → Int32 → Int32 → zMem → zRes
  | 0, _, _, _ => none
  | n + 1, x4, x5, μ => if (μ 49 4) ≤ x5 then K147 x4 μ else zlet (fun (s10 : Int32) => zlet (x5 + (1 : Int32)) (fun (v11 : Int32) => zlet (fun (x4_12 : Int32) (μ13 : zMem) => f2_offer_L42 x1 x2 x3 K147 n x4_12 (x5 + (1 : Int32)) μ13) (fun j14 => f2_offer_L86 x2 x3 x5 s10 (fun (x4_26 : Int32) (μ27 : zMem) => j14 x4_26 μ27) zF x4 v11 μ))) (fun j28 => if ((zshr x3 x5) &&& (1 : Int32)) = 0 then j28 (0 : Int32) else zin ((x1 * (9 : Int32)) + x5) 90 (j28 ((μ 50 ((x1 * (9 : Int32)) + x5).toNatClampNeg) &&& x3)))
def f2_offer_L27 (x1 : Int32) (x2 : Int32) (K161 : zMem → zRes) : Nat → Int32 → zMem → zRes
  | 0, _, _ => none
  | n + 1, x3, μ => if x3 ≤ 0 then K161 μ else zin x3 512 (zlet (μ 51 x3.toNatClampNeg) (fun (v7 : Int32) => f2_offer_L42 x1 x2 x3 (fun (x4_32 : Int32) (μ33 : zMem) => zin x3 512 (zlet (zset μ33 51 x3.toNatClampNeg x4_32) (fun (μ35 : zMem) => f2_offer_L27 x1 x2 K161 n (x3 + (-1 : Int32)) μ35))) zF v7 (0 : Int32) μ))
def f2_offer (x1 : Int32) (μ : zMem) : zRes := zin x1 10 (zlet (((μ 8 x1.toNatClampNeg) * (1024 : Int32)) - (zshl (1 : Int32) x1)) (fun (v2 : Int32) => zlet ((zshl (1 : Int32) (μ 49 4)) - (1 : Int32)) (fun (v3 : Int32) => f2_offer_L27 x1 v2 (fun (μ36 : zMem) => some (0, 0, μ36)) zF v3 μ)))
set_option maxHeartbeats 1000000 in
theorem t2_offer_L86 {g : Bool} (x1 : Int32) (x2 : Int32) (x3 : Int32) (x5 : Int32) (x6 : Int32) (K141 : Int32 → zMem → zRes) (hK141 : ∀ (x4 : Int32) (μ : zMem), zR yX2_offer cX2_offer 8 (none) 1 141 [.ref 49, .int x1, .int x2, .int x3, .int x4, .int x5, .null, .null] [] (nX g) (SX g) μ (K141 x4 μ)) : ∀ (n : Nat) (x4 : Int32) (x7 : Int32) (μ : zMem), zR yX2_offer cX2_offer 8 (none) 1 86 [.ref 49, .int x1, .int x2, .int x3, .int x4, .int x5, .int x6, .int x7] [] (nX g) (SX g) μ (f2_offer_L86 x2 x3 x5 x6 K141 n x4 x7 μ) := by
  intro n
  induction n with
  | zero => intro x4 x7 μ; intro q hq; cases hq
  | succ n ih =>
    intro x4 x7 μ
    unfold f2_offer_L86
    refine z_iload (pc := 86) dX2_offer_86 rfl ?_
    refine z_if_eq (pc := 88) (tgt := 141) dX2_offer_88 (by decide) (fun c15 => ?_) (fun c16 => ?_)
    · refine z_loc (L' := [.ref 49, .int x1, .int x2, .int x3, .int x4, .int x5, .null, .null]) ⟨Or.inr rfl, ⟨Or.inr rfl, ⟨Or.inr rfl, ⟨Or.inr rfl, ⟨Or.inr rfl, ⟨Or.inr rfl, ⟨Or.inl rfl, ⟨Or.inl rfl, trivial⟩⟩⟩⟩⟩⟩⟩⟩ ?_
      exact hK141 x4 μ
    · refine z_iload (pc := 91) dX2_offer_91 rfl ?_
      refine z_aload_n (pc := 93) dX2_offer_93 rfl ?_
      refine z_geti (pc := 94) fdX2_21 (nx_lt (by decide)) (sx_49 g) rfl dX2_offer_94 ?_
      refine z_icmp_ge (pc := 97) (tgt := 141) dX2_offer_97 (by decide) (fun c17 => ?_) (fun c18 => ?_)
      · refine z_loc (L' := [.ref 49, .int x1, .int x2, .int x3, .int x4, .int x5, .null, .null]) ⟨Or.inr rfl, ⟨Or.inr rfl, ⟨Or.inr rfl, ⟨Or.inr rfl, ⟨Or.inr rfl, ⟨Or.inr rfl, ⟨Or.inl rfl, ⟨Or.inl rfl, trivial⟩⟩⟩⟩⟩⟩⟩⟩ ?_
        exact hK141 x4 μ
      · refine z_iload (pc := 100) dX2_offer_100 rfl ?_
        refine z_iload (pc := 102) dX2_offer_102 rfl ?_
        refine z_ishr (pc := 104) dX2_offer_104 ?_
        refine z_iconst (pc := 105) (1 : Int32) dX2_offer_105 (by decide) ?_
        refine z_iand (pc := 106) dX2_offer_106 ?_
        refine z_let (fun (j : Int32 → zMem → zRes) => ∀ (x4_19 : Int32) (μ20 : zMem), zR yX2_offer cX2_offer 8 (none) 1 135 [.ref 49, .int x1, .int x2, .int x3, .int x4_19, .int x5, .int x6, .int x7] [] (nX g) (SX g) μ20 (j x4_19 μ20)) ?_ (fun j21 hj21 => ?_)
        · intro x4_19 μ20
          refine z_iinc (pc := 135) (v := x7 + (1 : Int32)) (L' := [.ref 49, .int x1, .int x2, .int x3, .int x4_19, .int x5, .int x6, .int (x7 + (1 : Int32))]) dX2_offer_135 (by decide) rfl (congrArg _ (by decide)) rfl ?_
          refine z_goto (pc := 138) (tgt := 86) dX2_offer_138 (by decide) ?_
          exact ih x4_19 (x7 + (1 : Int32)) μ20
        · refine z_if_eq (pc := 107) (tgt := 135) dX2_offer_107 (by decide) (fun c22 => ?_) (fun c23 => ?_)
          · exact hj21 x4 μ
          · refine z_iload (pc := 110) dX2_offer_110 rfl ?_
            refine z_aload_n (pc := 112) dX2_offer_112 rfl ?_
            refine z_getr (pc := 113) fdX2_15 (nx_lt (by decide)) (sx_49 g) rfl rfl dX2_offer_113 ?_
            refine z_iload_n (pc := 116) dX2_offer_116 rfl ?_
            refine z_iconst (pc := 117) (1 : Int32) dX2_offer_117 (by decide) ?_
            refine z_iload (pc := 118) dX2_offer_118 rfl ?_
            refine z_ishl (pc := 120) dX2_offer_120 ?_
            refine z_ixor (pc := 121) dX2_offer_121 ?_
            refine z_iconst (pc := 122) (1 : Int32) dX2_offer_122 (by decide) ?_
            refine z_iload (pc := 123) dX2_offer_123 rfl ?_
            refine z_ishl (pc := 125) dX2_offer_125 ?_
            refine z_ixor (pc := 126) dX2_offer_126 ?_
            refine z_iald (pc := 127) (nx_lt (by decide)) (sx_51 g) rfl dX2_offer_127 (fun h24 => ?_)
            refine z_iload_n (pc := 128) dX2_offer_128 rfl ?_
            refine z_iadd (pc := 129) dX2_offer_129 ?_
            refine z_mmax (pc := 130) kmX2_68 (by decide) (Nat.le_of_ble_eq_true rfl) dX2_offer_130 ?_
            refine z_val (fun v25 => ?_)
            refine z_istore (pc := 133) (L' := [.ref 49, .int x1, .int x2, .int x3, .int v25, .int x5, .int x6, .int x7]) dX2_offer_133 (by decide) rfl ?_
            exact hj21 v25 μ
set_option maxHeartbeats 1000000 in
theorem t2_offer_L42 {g : Bool} (x1 : Int32) (x2 : Int32) (x3 : Int32) (K147 : Int32 → zMem → zRes) (hK147 : ∀ (x4 : Int32) (μ : zMem), zR yX2_offer cX2_offer 8 (none) 1 147 [.ref 49, .int x1, .int x2, .int x3, .int x4, .null, .null, .null] [] (nX g) (SX g) μ (K147 x4 μ)) : ∀ (n : Nat) (x4 : Int32) (x5 : Int32) (μ : zMem), zR yX2_offer cX2_offer 8 (none) 1 42 [.ref 49, .int x1, .int x2, .int x3, .int x4, .int x5, .null, .null] [] (nX g) (SX g) μ (f2_offer_L42 x1 x2 x3 K147 n x4 x5 μ) := by
  intro n
  induction n with
  | zero => intro x4 x5 μ; intro q hq; cases hq
  | succ n ih =>
    intro x4 x5 μ
    unfold f2_offer_L42
    refine z_iload (pc := 42) dX2_offer_42 rfl ?_
    refine z_aload_n (pc := 44) dX2_offer_44 rfl ?_
    refine z_geti (pc := 45) fdX2_21 (nx_lt (by decide)) (sx_49 g) rfl dX2_offer_45 ?_
    refine z_icmp_ge (pc := 48) (tgt := 147) dX2_offer_48 (by decide) (fun c8 => ?_) (fun c9 => ?_)
    · refine z_loc (L' := [.ref 49, .int x1, .int x2, .int x3, .int x4, .null, .null, .null]) ⟨Or.inr rfl, ⟨Or.inr rfl, ⟨Or.inr rfl, ⟨Or.inr rfl, ⟨Or.inr rfl, ⟨Or.inl rfl, ⟨Or.inl rfl, ⟨Or.inl rfl, trivial⟩⟩⟩⟩⟩⟩⟩⟩ ?_
      exact hK147 x4 μ
    · refine z_iload_n (pc := 51) dX2_offer_51 rfl ?_
      refine z_iload (pc := 52) dX2_offer_52 rfl ?_
      refine z_ishr (pc := 54) dX2_offer_54 ?_
      refine z_iconst (pc := 55) (1 : Int32) dX2_offer_55 (by decide) ?_
      refine z_iand (pc := 56) dX2_offer_56 ?_
      refine z_let (fun (j : Int32 → zRes) => ∀ (s10 : Int32), zR yX2_offer cX2_offer 8 (none) 1 78 [.ref 49, .int x1, .int x2, .int x3, .int x4, .int x5, .null, .null] [.int s10] (nX g) (SX g) μ (j s10)) ?_ (fun j28 hj28 => ?_)
      · intro s10
        refine z_istore (pc := 78) (L' := [.ref 49, .int x1, .int x2, .int x3, .int x4, .int x5, .int s10, .null]) dX2_offer_78 (by decide) rfl ?_
        refine z_iload (pc := 80) dX2_offer_80 rfl ?_
        refine z_iconst (pc := 82) (1 : Int32) dX2_offer_82 (by decide) ?_
        refine z_iadd (pc := 83) dX2_offer_83 ?_
        refine z_val (fun v11 => ?_)
        refine z_istore (pc := 84) (L' := [.ref 49, .int x1, .int x2, .int x3, .int x4, .int x5, .int s10, .int v11]) dX2_offer_84 (by decide) rfl ?_
        refine z_let (fun (j : Int32 → zMem → zRes) => ∀ (x4_12 : Int32) (μ13 : zMem), zR yX2_offer cX2_offer 8 (none) 1 141 [.ref 49, .int x1, .int x2, .int x3, .int x4_12, .int x5, .null, .null] [] (nX g) (SX g) μ13 (j x4_12 μ13)) ?_ (fun j14 hj14 => ?_)
        · intro x4_12 μ13
          refine z_iinc (pc := 141) (v := x5 + (1 : Int32)) (L' := [.ref 49, .int x1, .int x2, .int x3, .int x4_12, .int (x5 + (1 : Int32)), .null, .null]) dX2_offer_141 (by decide) rfl (congrArg _ (by decide)) rfl ?_
          refine z_goto (pc := 144) (tgt := 42) dX2_offer_144 (by decide) ?_
          exact ih x4_12 (x5 + (1 : Int32)) μ13
        · refine t2_offer_L86 _ _ _ _ _ _ (fun x4_26 μ27 => ?_) zF _ _ _
          · exact hj14 x4_26 μ27
      · refine z_if_eq (pc := 57) (tgt := 77) dX2_offer_57 (by decide) (fun c29 => ?_) (fun c30 => ?_)
        · refine z_iconst (pc := 77) (0 : Int32) dX2_offer_77 (by decide) ?_
          exact hj28 (0 : Int32)
        · refine z_aload_n (pc := 60) dX2_offer_60 rfl ?_
          refine z_getr (pc := 61) fdX2_9 (nx_lt (by decide)) (sx_49 g) rfl rfl dX2_offer_61 ?_
          refine z_iload_n (pc := 64) dX2_offer_64 rfl ?_
          refine z_bipush (pc := 65) (9 : Int32) dX2_offer_65 (by decide) ?_
          refine z_imul (pc := 67) dX2_offer_67 ?_
          refine z_iload (pc := 68) dX2_offer_68 rfl ?_
          refine z_iadd (pc := 70) dX2_offer_70 ?_
          refine z_iald (pc := 71) (nx_lt (by decide)) (sx_50 g) rfl dX2_offer_71 (fun h31 => ?_)
          refine z_iload_n (pc := 72) dX2_offer_72 rfl ?_
          refine z_iand (pc := 73) dX2_offer_73 ?_
          refine z_goto (pc := 74) (tgt := 78) dX2_offer_74 (by decide) ?_
          exact hj28 ((μ 50 ((x1 * (9 : Int32)) + x5).toNatClampNeg) &&& x3)
set_option maxHeartbeats 1000000 in
theorem t2_offer_L27 {g : Bool} (x1 : Int32) (x2 : Int32) (K161 : zMem → zRes) (hK161 : ∀ (μ : zMem), zR yX2_offer cX2_offer 8 (none) 1 161 [.null, .null, .null, .null, .null, .null, .null, .null] [] (nX g) (SX g) μ (K161 μ)) : ∀ (n : Nat) (x3 : Int32) (μ : zMem), zR yX2_offer cX2_offer 8 (none) 1 27 [.ref 49, .int x1, .int x2, .int x3, .null, .null, .null, .null] [] (nX g) (SX g) μ (f2_offer_L27 x1 x2 K161 n x3 μ) := by
  intro n
  induction n with
  | zero => intro x3 μ; intro q hq; cases hq
  | succ n ih =>
    intro x3 μ
    unfold f2_offer_L27
    refine z_iload_n (pc := 27) dX2_offer_27 rfl ?_
    refine z_if_le (pc := 28) (tgt := 161) dX2_offer_28 (by decide) (fun c4 => ?_) (fun c5 => ?_)
    · refine z_loc (L' := [.null, .null, .null, .null, .null, .null, .null, .null]) ⟨Or.inl rfl, ⟨Or.inl rfl, ⟨Or.inl rfl, ⟨Or.inl rfl, ⟨Or.inl rfl, ⟨Or.inl rfl, ⟨Or.inl rfl, ⟨Or.inl rfl, trivial⟩⟩⟩⟩⟩⟩⟩⟩ ?_
      exact hK161 μ
    · refine z_aload_n (pc := 31) dX2_offer_31 rfl ?_
      refine z_getr (pc := 32) fdX2_15 (nx_lt (by decide)) (sx_49 g) rfl rfl dX2_offer_32 ?_
      refine z_iload_n (pc := 35) dX2_offer_35 rfl ?_
      refine z_iald (pc := 36) (nx_lt (by decide)) (sx_51 g) rfl dX2_offer_36 (fun h6 => ?_)
      refine z_val (fun v7 => ?_)
      refine z_istore (pc := 37) (L' := [.ref 49, .int x1, .int x2, .int x3, .int v7, .null, .null, .null]) dX2_offer_37 (by decide) rfl ?_
      refine z_iconst (pc := 39) (0 : Int32) dX2_offer_39 (by decide) ?_
      refine z_istore (pc := 40) (L' := [.ref 49, .int x1, .int x2, .int x3, .int v7, .int (0 : Int32), .null, .null]) dX2_offer_40 (by decide) rfl ?_
      refine t2_offer_L42 _ _ _ _ (fun x4_32 μ33 => ?_) zF _ _ _
      · refine z_aload_n (pc := 147) dX2_offer_147 rfl ?_
        refine z_getr (pc := 148) fdX2_15 (nx_lt (by decide)) (sx_49 g) rfl rfl dX2_offer_148 ?_
        refine z_iload_n (pc := 151) dX2_offer_151 rfl ?_
        refine z_iload (pc := 152) dX2_offer_152 rfl ?_
        refine z_iast (pc := 154) (nx_lt (by decide)) (sx_51 g) rfl dX2_offer_154 (fun h34 => ?_)
        refine z_mem (fun μ35 => ?_)
        refine z_iinc (pc := 155) (v := x3 + (-1 : Int32)) (L' := [.ref 49, .int x1, .int x2, .int (x3 + (-1 : Int32)), .int x4_32, .null, .null, .null]) dX2_offer_155 (by decide) rfl (congrArg _ (by decide)) rfl ?_
        refine z_goto (pc := 158) (tgt := 27) dX2_offer_158 (by decide) ?_
        refine z_loc (L' := [.ref 49, .int x1, .int x2, .int (x3 + (-1 : Int32)), .null, .null, .null, .null]) ⟨Or.inr rfl, ⟨Or.inr rfl, ⟨Or.inr rfl, ⟨Or.inr rfl, ⟨Or.inl rfl, ⟨Or.inl rfl, ⟨Or.inl rfl, ⟨Or.inl rfl, trivial⟩⟩⟩⟩⟩⟩⟩⟩ ?_
        exact ih (x3 + (-1 : Int32)) μ35
set_option maxHeartbeats 1000000 in
theorem t2_offer {g : Bool} (x1 : Int32) (μ : zMem) : zMR yX2_offer cX2_offer 8 (none) 1 [.ref 49, .int x1] (nX g) (SX g) μ (f2_offer x1 μ) := by
  refine zMR_of (by decide +kernel) rfl (Nat.le_of_ble_eq_true rfl) (L := [.ref 49, .int x1, .null, .null, .null, .null, .null, .null]) rfl ?_
  unfold f2_offer
  refine z_aload_n (pc := 0) dX2_offer_0 rfl ?_
  refine z_getr (pc := 1) fdX2_25 (nx_lt (by decide)) (sx_49 g) rfl rfl dX2_offer_1 ?_
  refine z_getr (pc := 4) fdX2_65 (nx_lt (by decide)) (sx_2 g) rfl rfl dX2_offer_4 ?_
  refine z_iload_n (pc := 7) dX2_offer_7 rfl ?_
  refine z_iald (pc := 8) (nx_lt (by decide)) (sx_8 g) rfl dX2_offer_8 (fun h1 => ?_)
  refine z_sipush (pc := 9) (1024 : Int32) dX2_offer_9 (by decide) ?_
  refine z_imul (pc := 12) dX2_offer_12 ?_
  refine z_iconst (pc := 13) (1 : Int32) dX2_offer_13 (by decide) ?_
  refine z_iload_n (pc := 14) dX2_offer_14 rfl ?_
  refine z_ishl (pc := 15) dX2_offer_15 ?_
  refine z_isub (pc := 16) dX2_offer_16 ?_
  refine z_val (fun v2 => ?_)
  refine z_istore_n (pc := 17) (L' := [.ref 49, .int x1, .int v2, .null, .null, .null, .null, .null]) dX2_offer_17 (by decide) rfl ?_
  refine z_iconst (pc := 18) (1 : Int32) dX2_offer_18 (by decide) ?_
  refine z_aload_n (pc := 19) dX2_offer_19 rfl ?_
  refine z_geti (pc := 20) fdX2_21 (nx_lt (by decide)) (sx_49 g) rfl dX2_offer_20 ?_
  refine z_ishl (pc := 23) dX2_offer_23 ?_
  refine z_iconst (pc := 24) (1 : Int32) dX2_offer_24 (by decide) ?_
  refine z_isub (pc := 25) dX2_offer_25 ?_
  refine z_val (fun v3 => ?_)
  refine z_istore_n (pc := 26) (L' := [.ref 49, .int x1, .int v2, .int v3, .null, .null, .null, .null]) dX2_offer_26 (by decide) rfl ?_
  refine t2_offer_L27 _ _ _ (fun μ36 => ?_) zF _ _
  · exact z_vret (pc := 161) rfl dX2_offer_161
def f2_make_L33 (K64 : zMem → zRes) : Nat → Int32 → zMem → zRes
  | 0, _, _ => none
  | n + 1, x2, μ => if (μ 2 2) ≤ x2 then K64 μ else bnd0 (f2_findMates x2 μ) (fun (v8 : Int32) (μ9 : zMem) => zlet (fun (μ10 : zMem) => f2_make_L33 K64 n (x2 + (1 : Int32)) μ10) (fun j11 => if v8 = 0 then j11 μ9 else bnd0 (f2_offer x2 μ9) (fun (v14 : Int32) (μ15 : zMem) => j11 μ15)))
def f2_make (μ : zMem) : zRes := zlet (zset μ 49 4 (μ 28 4)) (fun (μ1 : zMem) => bnd0 (fJ7_fill_53178 50 90 (0 : Int32) μ1) (fun (v2 : Int32) (μ3 : zMem) => bnd0 (fJ7_fill_fda19 51 512 (0 : Int32) (zshl (1 : Int32) (μ3 49 4)) (0 : Int32) μ3) (fun (v4 : Int32) (μ5 : zMem) => f2_make_L33 (fun (μ16 : zMem) => some (0, 0, μ16)) zF (0 : Int32) μ5)))
set_option maxHeartbeats 1000000 in
theorem t2_make_L33 {g : Bool} (K64 : zMem → zRes) (hK64 : ∀ (μ : zMem), zR yX2_make cX2_make 3 (none) 4 64 [.null, .null, .null] [] (nX g) (SX g) μ (K64 μ)) : ∀ (n : Nat) (x2 : Int32) (μ : zMem), zR yX2_make cX2_make 3 (none) 4 33 [.ref 49, .ref 28, .int x2] [] (nX g) (SX g) μ (f2_make_L33 K64 n x2 μ) := by
  intro n
  induction n with
  | zero => intro x2 μ; intro q hq; cases hq
  | succ n ih =>
    intro x2 μ
    unfold f2_make_L33
    refine z_iload_n (pc := 33) dX2_make_33 rfl ?_
    refine z_aload_n (pc := 34) dX2_make_34 rfl ?_
    refine z_getr (pc := 35) fdX2_25 (nx_lt (by decide)) (sx_49 g) rfl rfl dX2_make_35 ?_
    refine z_geti (pc := 38) fdX2_41 (nx_lt (by decide)) (sx_2 g) rfl dX2_make_38 ?_
    refine z_icmp_ge (pc := 41) (tgt := 64) dX2_make_41 (by decide) (fun c6 => ?_) (fun c7 => ?_)
    · refine z_loc (L' := [.null, .null, .null]) ⟨Or.inl rfl, ⟨Or.inl rfl, ⟨Or.inl rfl, trivial⟩⟩⟩ ?_
      exact hK64 μ
    · refine z_aload_n (pc := 44) dX2_make_44 rfl ?_
      refine z_aload_n (pc := 45) dX2_make_45 rfl ?_
      refine z_iload_n (pc := 46) dX2_make_46 rfl ?_
      refine z_callV (As := [.ref 28, .int x2]) (pc := 47) (ret' := some .boolean) kvX2_46 (t2_findMates _ _) (by decide) (nx_lt (by decide)) (sx_49 g)  rfl rfl (Nat.le_of_ble_eq_true rfl) dX2_make_47 (fun v8 μ9 => ?_)
      refine z_let (fun (j : zMem → zRes) => ∀ (μ10 : zMem), zR yX2_make cX2_make 3 (none) 4 58 [.ref 49, .ref 28, .int x2] [] (nX g) (SX g) μ10 (j μ10)) ?_ (fun j11 hj11 => ?_)
      · intro μ10
        refine z_iinc (pc := 58) (v := x2 + (1 : Int32)) (L' := [.ref 49, .ref 28, .int (x2 + (1 : Int32))]) dX2_make_58 (by decide) rfl (congrArg _ (by decide)) rfl ?_
        refine z_goto (pc := 61) (tgt := 33) dX2_make_61 (by decide) ?_
        exact ih (x2 + (1 : Int32)) μ10
      · refine z_if_eq (pc := 50) (tgt := 58) dX2_make_50 (by decide) (fun c12 => ?_) (fun c13 => ?_)
        · exact hj11 μ9
        · refine z_aload_n (pc := 53) dX2_make_53 rfl ?_
          refine z_iload_n (pc := 54) dX2_make_54 rfl ?_
          refine z_callV (As := [.int x2]) (pc := 55) (ret' := none) kvX2_50 (t2_offer _ _) (by decide) (nx_lt (by decide)) (sx_49 g)  rfl rfl (Nat.le_of_ble_eq_true rfl) dX2_make_55 (fun v14 μ15 => ?_)
          exact hj11 μ15
set_option maxHeartbeats 1000000 in
theorem t2_make {g : Bool} (μ : zMem) : zMR yX2_make cX2_make 3 (none) 4 [.ref 49, .ref 28] (nX g) (SX g) μ (f2_make μ) := by
  refine zMR_of (by decide +kernel) rfl (Nat.le_of_ble_eq_true rfl) (L := [.ref 49, .ref 28, .null]) rfl ?_
  unfold f2_make
  refine z_aload_n (pc := 0) dX2_make_0 rfl ?_
  refine z_aload_n (pc := 1) dX2_make_1 rfl ?_
  refine z_geti (pc := 2) fdX2_29 (nx_lt (by decide)) (sx_28 g) rfl dX2_make_2 ?_
  refine z_puti (pc := 5) fdX2_21 (nx_lt (by decide)) (sx_49 g) rfl rfl dX2_make_5 ?_
  refine z_mem (fun μ1 => ?_)
  refine z_aload_n (pc := 8) dX2_make_8 rfl ?_
  refine z_getr (pc := 9) fdX2_9 (nx_lt (by decide)) (sx_49 g) rfl rfl dX2_make_9 ?_
  refine z_iconst (pc := 12) (0 : Int32) dX2_make_12 (by decide) ?_
  refine z_callS (As := [.ref 50, .int (0 : Int32)]) (pc := 13) (ret' := none) ksX2_32 (tJ7_fill_53178 (nx_lt (by decide)) (sx_50 g) _ _) (by decide)  rfl rfl (Nat.le_of_ble_eq_true rfl) dX2_make_13 (fun v2 μ3 => ?_)
  refine z_aload_n (pc := 16) dX2_make_16 rfl ?_
  refine z_getr (pc := 17) fdX2_15 (nx_lt (by decide)) (sx_49 g) rfl rfl dX2_make_17 ?_
  refine z_iconst (pc := 20) (0 : Int32) dX2_make_20 (by decide) ?_
  refine z_iconst (pc := 21) (1 : Int32) dX2_make_21 (by decide) ?_
  refine z_aload_n (pc := 22) dX2_make_22 rfl ?_
  refine z_geti (pc := 23) fdX2_21 (nx_lt (by decide)) (sx_49 g) rfl dX2_make_23 ?_
  refine z_ishl (pc := 26) dX2_make_26 ?_
  refine z_iconst (pc := 27) (0 : Int32) dX2_make_27 (by decide) ?_
  refine z_callS (As := [.ref 51, .int (0 : Int32), .int (zshl (1 : Int32) (μ3 49 4)), .int (0 : Int32)]) (pc := 28) (ret' := none) ksX2_38 (tJ7_fill_fda19 (nx_lt (by decide)) (sx_51 g) _ _ _ _) (by decide)  rfl rfl (Nat.le_of_ble_eq_true rfl) dX2_make_28 (fun v4 μ5 => ?_)
  refine z_iconst (pc := 31) (0 : Int32) dX2_make_31 (by decide) ?_
  refine z_istore_n (pc := 32) (L' := [.ref 49, .ref 28, .int (0 : Int32)]) dX2_make_32 (by decide) rfl ?_
  refine t2_make_L33 _ (fun μ16 => ?_) zF _ _
  · exact z_vret (pc := 64) rfl dX2_make_64
def f2_worthIn (x0 : Int32) (μ : zMem) : zRes := some (0, ((x0 + (1024 : Int32)) - (1 : Int32)) / (1024 : Int32), μ)
set_option maxHeartbeats 1000000 in
theorem t2_worthIn {g : Bool} (x0 : Int32) (μ : zMem) : zMR yX2_worthIn cX2_worthIn 1 (some .int) 1 [.int x0] (nX g) (SX g) μ (f2_worthIn x0 μ) := by
  refine zMR_of (by decide +kernel) rfl (Nat.le_of_ble_eq_true rfl) (L := [.int x0]) rfl ?_
  unfold f2_worthIn
  refine z_iload_n (pc := 0) dX2_worthIn_0 rfl ?_
  refine z_sipush (pc := 1) (1024 : Int32) dX2_worthIn_1 (by decide) ?_
  refine z_iadd (pc := 4) dX2_worthIn_4 ?_
  refine z_iconst (pc := 5) (1 : Int32) dX2_worthIn_5 (by decide) ?_
  refine z_isub (pc := 6) dX2_worthIn_6 ?_
  refine z_sipush (pc := 7) (1024 : Int32) dX2_worthIn_7 (by decide) ?_
  refine z_idivc (pc := 10) dX2_worthIn_10 (by decide) ?_
  exact z_iret (pc := 11) rfl dX2_worthIn_11
def f2_worthAtMost (μ : zMem) : zRes := zin ((zshl (1 : Int32) (μ 49 4)) - (1 : Int32)) 512 (bnd0 (f2_worthIn (μ 51 ((zshl (1 : Int32) (μ 49 4)) - (1 : Int32)).toNatClampNeg) μ) (fun (v2 : Int32) (μ3 : zMem) => some (0, v2, μ3)))
set_option maxHeartbeats 1000000 in
theorem t2_worthAtMost {g : Bool} (μ : zMem) : zMR yX2_worthAtMost cX2_worthAtMost 1 (some .int) 2 [.ref 49] (nX g) (SX g) μ (f2_worthAtMost μ) := by
  refine zMR_of (by decide +kernel) rfl (Nat.le_of_ble_eq_true rfl) (L := [.ref 49]) rfl ?_
  unfold f2_worthAtMost
  refine z_aload_n (pc := 0) dX2_worthAtMost_0 rfl ?_
  refine z_getr (pc := 1) fdX2_15 (nx_lt (by decide)) (sx_49 g) rfl rfl dX2_worthAtMost_1 ?_
  refine z_iconst (pc := 4) (1 : Int32) dX2_worthAtMost_4 (by decide) ?_
  refine z_aload_n (pc := 5) dX2_worthAtMost_5 rfl ?_
  refine z_geti (pc := 6) fdX2_21 (nx_lt (by decide)) (sx_49 g) rfl dX2_worthAtMost_6 ?_
  refine z_ishl (pc := 9) dX2_worthAtMost_9 ?_
  refine z_iconst (pc := 10) (1 : Int32) dX2_worthAtMost_10 (by decide) ?_
  refine z_isub (pc := 11) dX2_worthAtMost_11 ?_
  refine z_iald (pc := 12) (nx_lt (by decide)) (sx_51 g) rfl dX2_worthAtMost_12 (fun h1 => ?_)
  refine z_callS (As := [.int (μ 51 ((zshl (1 : Int32) (μ 49 4)) - (1 : Int32)).toNatClampNeg)]) (pc := 13) (ret' := some .int) ksX2_74 (t2_worthIn _ _) (by decide)  rfl rfl (Nat.le_of_ble_eq_true rfl) dX2_worthAtMost_13 (fun v2 μ3 => ?_)
  exact z_iret (pc := 16) rfl dX2_worthAtMost_16
def f2_doorsAtMost (μ : zMem) : zRes := bnd0 (f2_worthAtMost μ) (fun (v1 : Int32) (μ2 : zMem) => zin ((zshl (1 : Int32) (μ2 49 4)) - (1 : Int32)) 512 (some (0, (v1 * (1024 : Int32)) - (μ2 51 ((zshl (1 : Int32) (μ2 49 4)) - (1 : Int32)).toNatClampNeg), μ2)))
set_option maxHeartbeats 1000000 in
theorem t2_doorsAtMost {g : Bool} (μ : zMem) : zMR yX2_doorsAtMost cX2_doorsAtMost 1 (some .int) 3 [.ref 49] (nX g) (SX g) μ (f2_doorsAtMost μ) := by
  refine zMR_of (by decide +kernel) rfl (Nat.le_of_ble_eq_true rfl) (L := [.ref 49]) rfl ?_
  unfold f2_doorsAtMost
  refine z_aload_n (pc := 0) dX2_doorsAtMost_0 rfl ?_
  refine z_callV (As := []) (pc := 1) (ret' := some .int) kvX2_78 (t2_worthAtMost _) (by decide) (nx_lt (by decide)) (sx_49 g)  rfl rfl (Nat.le_of_ble_eq_true rfl) dX2_doorsAtMost_1 (fun v1 μ2 => ?_)
  refine z_sipush (pc := 4) (1024 : Int32) dX2_doorsAtMost_4 (by decide) ?_
  refine z_imul (pc := 7) dX2_doorsAtMost_7 ?_
  refine z_aload_n (pc := 8) dX2_doorsAtMost_8 rfl ?_
  refine z_getr (pc := 9) fdX2_15 (nx_lt (by decide)) (sx_49 g) rfl rfl dX2_doorsAtMost_9 ?_
  refine z_iconst (pc := 12) (1 : Int32) dX2_doorsAtMost_12 (by decide) ?_
  refine z_aload_n (pc := 13) dX2_doorsAtMost_13 rfl ?_
  refine z_geti (pc := 14) fdX2_21 (nx_lt (by decide)) (sx_49 g) rfl dX2_doorsAtMost_14 ?_
  refine z_ishl (pc := 17) dX2_doorsAtMost_17 ?_
  refine z_iconst (pc := 18) (1 : Int32) dX2_doorsAtMost_18 (by decide) ?_
  refine z_isub (pc := 19) dX2_doorsAtMost_19 ?_
  refine z_iald (pc := 20) (nx_lt (by decide)) (sx_51 g) rfl dX2_doorsAtMost_20 (fun h3 => ?_)
  refine z_isub (pc := 21) dX2_doorsAtMost_21 ?_
  exact z_iret (pc := 22) rfl dX2_doorsAtMost_22
def f2_seat_L78 (F : Int32 → Int32 → Int32 → zMem → zRes) (x1 : Int32) (x2 : Int32) (x3 : Int32) (x4 : Int32) (x5 : Int32) (K152 : zMem → zRes) (K130 : Int32 → zMem → zRes) : Nat → Int32 → zMem → zRes
  | 0, _, _ => none
  | n + 1, x6, μ => if x5 = 0 then K152 μ else if (μ 49 4) ≤ x6 then K152 μ else zlet (x2 &&& (((zshl (1 : Int32) x4) ||| (zshl (1 : Int32) x6)) ^^^ (-1 : Int32))) (fun (v15 : Int32) => zlet (fun (μ16 : zMem) => f2_seat_L78 F x1 x2 x3 x4 x5 K152 K130 n (x6 + (1 : Int32)) μ16) (fun j17 => if ((zshr x5 x6) &&& (1 : Int32)) = 0 then j17 μ else bnd0 (F x1 v15 (x3 + (1 : Int32)) μ) (fun (v20 : Int32) (μ21 : zMem) => if v20 = 0 then j17 μ21 else K130 x6 μ21)))
def f2_seat_L34 (F : Int32 → Int32 → Int32 → zMem → zRes) (x1 : Int32) (x2 : Int32) (x3 : Int32) (K158 : zMem → zRes) (K130 : Int32 → Int32 → zMem → zRes) : Nat → Int32 → zMem → zRes
  | 0, _, _ => none
  | n + 1, x4, μ => if (μ 49 4) ≤ x4 then K158 μ else zlet (fun (s7 : Int32) => zlet (x4 + (1 : Int32)) (fun (v8 : Int32) => zlet (fun (μ9 : zMem) => f2_seat_L34 F x1 x2 x3 K158 K130 n (x4 + (1 : Int32)) μ9) (fun j10 => f2_seat_L78 F x1 x2 x3 x4 s7 (fun (μ24 : zMem) => j10 μ24) (fun (x6_25 : Int32) (μ26 : zMem) => K130 x4 x6_25 μ26) zF v8 μ))) (fun j27 => if ((zshr x2 x4) &&& (1 : Int32)) = 0 then j27 (0 : Int32) else zin ((x3 * (9 : Int32)) + x4) 90 (j27 ((μ 50 ((x3 * (9 : Int32)) + x4).toNatClampNeg) &&& x2)))
def f2_seatB (F : Int32 → Int32 → Int32 → zMem → zRes) (x1 : Int32) (x2 : Int32) (x3 : Int32) (μ : zMem) : zRes := if x3 < (μ 2 2) then if ((zshr x1 x3) &&& (1 : Int32)) = 0 then bnd0 (F x1 x2 (x3 + (1 : Int32)) μ) (fun (v37 : Int32) (μ38 : zMem) => zbl v37 (some (0, v37, μ38))) else f2_seat_L34 F x1 x2 x3 (fun (μ31 : zMem) => some (0, (0 : Int32), μ31)) (fun (x4_32 : Int32) (x6_33 : Int32) (μ34 : zMem) => zin x3 10 (zlet (zset μ34 52 x3.toNatClampNeg (((10 : Int32) * x4_32) + x6_33)) (fun (μ36 : zMem) => some (0, (1 : Int32), μ36)))) zF (0 : Int32) μ else some (0, (1 : Int32), μ)
def f2_seat : Nat → Int32 → Int32 → Int32 → zMem → zRes
  | 0, _, _, _, _ => none
  | n + 1, x1, x2, x3, μ => f2_seatB  (f2_seat n) x1 x2 x3 μ
set_option maxHeartbeats 1000000 in
theorem t2_seat_L78 {g : Bool} {d dd : Nat} (hd1 : dd + 1 ≤ d) (hd2 : 1 ≤ d) (F : Int32 → Int32 → Int32 → zMem → zRes) (hF : ∀ (x1 : Int32) (x2 : Int32) (x3 : Int32) (μ : zMem), zMR yX2_seat cX2_seat 8 (some .boolean) dd [.ref 49, .int x1, .int x2, .int x3] (nX g) (SX g) μ (F x1 x2 x3 μ)) (x1 : Int32) (x2 : Int32) (x3 : Int32) (x4 : Int32) (x5 : Int32) (K152 : zMem → zRes) (K130 : Int32 → zMem → zRes) (hK152 : ∀ (μ : zMem), zR yX2_seat cX2_seat 8 (some .boolean) d 152 [.ref 49, .int x1, .int x2, .int x3, .int x4, .null, .null, .null] [] (nX g) (SX g) μ (K152 μ)) (hK130 : ∀ (x6 : Int32) (μ : zMem), zR yX2_seat cX2_seat 8 (some .boolean) d 130 [.ref 49, .null, .null, .int x3, .int x4, .null, .int x6, .null] [] (nX g) (SX g) μ (K130 x6 μ)) : ∀ (n : Nat) (x6 : Int32) (μ : zMem), zR yX2_seat cX2_seat 8 (some .boolean) d 78 [.ref 49, .int x1, .int x2, .int x3, .int x4, .int x5, .int x6, .null] [] (nX g) (SX g) μ (f2_seat_L78 F x1 x2 x3 x4 x5 K152 K130 n x6 μ) := by
  intro n
  induction n with
  | zero => intro x6 μ; intro q hq; cases hq
  | succ n ih =>
    intro x6 μ
    unfold f2_seat_L78
    refine z_iload (pc := 78) dX2_seat_78 rfl ?_
    refine z_if_eq (pc := 80) (tgt := 152) dX2_seat_80 (by decide) (fun c11 => ?_) (fun c12 => ?_)
    · refine z_loc (L' := [.ref 49, .int x1, .int x2, .int x3, .int x4, .null, .null, .null]) ⟨Or.inr rfl, ⟨Or.inr rfl, ⟨Or.inr rfl, ⟨Or.inr rfl, ⟨Or.inr rfl, ⟨Or.inl rfl, ⟨Or.inl rfl, ⟨Or.inl rfl, trivial⟩⟩⟩⟩⟩⟩⟩⟩ ?_
      exact hK152 μ
    · refine z_iload (pc := 83) dX2_seat_83 rfl ?_
      refine z_aload_n (pc := 85) dX2_seat_85 rfl ?_
      refine z_geti (pc := 86) fdX2_21 (nx_lt (by decide)) (sx_49 g) rfl dX2_seat_86 ?_
      refine z_icmp_ge (pc := 89) (tgt := 152) dX2_seat_89 (by decide) (fun c13 => ?_) (fun c14 => ?_)
      · refine z_loc (L' := [.ref 49, .int x1, .int x2, .int x3, .int x4, .null, .null, .null]) ⟨Or.inr rfl, ⟨Or.inr rfl, ⟨Or.inr rfl, ⟨Or.inr rfl, ⟨Or.inr rfl, ⟨Or.inl rfl, ⟨Or.inl rfl, ⟨Or.inl rfl, trivial⟩⟩⟩⟩⟩⟩⟩⟩ ?_
        exact hK152 μ
      · refine z_iload_n (pc := 92) dX2_seat_92 rfl ?_
        refine z_iconst (pc := 93) (1 : Int32) dX2_seat_93 (by decide) ?_
        refine z_iload (pc := 94) dX2_seat_94 rfl ?_
        refine z_ishl (pc := 96) dX2_seat_96 ?_
        refine z_iconst (pc := 97) (1 : Int32) dX2_seat_97 (by decide) ?_
        refine z_iload (pc := 98) dX2_seat_98 rfl ?_
        refine z_ishl (pc := 100) dX2_seat_100 ?_
        refine z_ior (pc := 101) dX2_seat_101 ?_
        refine z_iconst (pc := 102) (-1 : Int32) dX2_seat_102 (by decide) ?_
        refine z_ixor (pc := 103) dX2_seat_103 ?_
        refine z_iand (pc := 104) dX2_seat_104 ?_
        refine z_val (fun v15 => ?_)
        refine z_istore (pc := 105) (L' := [.ref 49, .int x1, .int x2, .int x3, .int x4, .int x5, .int x6, .int v15]) dX2_seat_105 (by decide) rfl ?_
        refine z_iload (pc := 107) dX2_seat_107 rfl ?_
        refine z_iload (pc := 109) dX2_seat_109 rfl ?_
        refine z_ishr (pc := 111) dX2_seat_111 ?_
        refine z_iconst (pc := 112) (1 : Int32) dX2_seat_112 (by decide) ?_
        refine z_iand (pc := 113) dX2_seat_113 ?_
        refine z_let (fun (j : zMem → zRes) => ∀ (μ16 : zMem), zR yX2_seat cX2_seat 8 (some .boolean) d 146 [.ref 49, .int x1, .int x2, .int x3, .int x4, .int x5, .int x6, .null] [] (nX g) (SX g) μ16 (j μ16)) ?_ (fun j17 hj17 => ?_)
        · intro μ16
          refine z_iinc (pc := 146) (v := x6 + (1 : Int32)) (L' := [.ref 49, .int x1, .int x2, .int x3, .int x4, .int x5, .int (x6 + (1 : Int32)), .null]) dX2_seat_146 (by decide) rfl (congrArg _ (by decide)) rfl ?_
          refine z_goto (pc := 149) (tgt := 78) dX2_seat_149 (by decide) ?_
          exact ih (x6 + (1 : Int32)) μ16
        · refine z_if_eq (pc := 114) (tgt := 146) dX2_seat_114 (by decide) (fun c18 => ?_) (fun c19 => ?_)
          · refine z_loc (L' := [.ref 49, .int x1, .int x2, .int x3, .int x4, .int x5, .int x6, .null]) ⟨Or.inr rfl, ⟨Or.inr rfl, ⟨Or.inr rfl, ⟨Or.inr rfl, ⟨Or.inr rfl, ⟨Or.inr rfl, ⟨Or.inr rfl, ⟨Or.inl rfl, trivial⟩⟩⟩⟩⟩⟩⟩⟩ ?_
            exact hj17 μ
          · refine z_aload_n (pc := 117) dX2_seat_117 rfl ?_
            refine z_iload_n (pc := 118) dX2_seat_118 rfl ?_
            refine z_iload (pc := 119) dX2_seat_119 rfl ?_
            refine z_iload_n (pc := 121) dX2_seat_121 rfl ?_
            refine z_iconst (pc := 122) (1 : Int32) dX2_seat_122 (by decide) ?_
            refine z_iadd (pc := 123) dX2_seat_123 ?_
            refine z_callS (As := [.ref 49, .int x1, .int v15, .int (x3 + (1 : Int32))]) (pc := 124) (ret' := some .boolean) ksX2_90 (hF _ _ _ _) hd1  rfl rfl (Nat.le_of_ble_eq_true rfl) dX2_seat_124 (fun v20 μ21 => ?_)
            refine z_if_eq (pc := 127) (tgt := 146) dX2_seat_127 (by decide) (fun c22 => ?_) (fun c23 => ?_)
            · refine z_loc (L' := [.ref 49, .int x1, .int x2, .int x3, .int x4, .int x5, .int x6, .null]) ⟨Or.inr rfl, ⟨Or.inr rfl, ⟨Or.inr rfl, ⟨Or.inr rfl, ⟨Or.inr rfl, ⟨Or.inr rfl, ⟨Or.inr rfl, ⟨Or.inl rfl, trivial⟩⟩⟩⟩⟩⟩⟩⟩ ?_
              exact hj17 μ21
            · refine z_loc (L' := [.ref 49, .null, .null, .int x3, .int x4, .null, .int x6, .null]) ⟨Or.inr rfl, ⟨Or.inl rfl, ⟨Or.inl rfl, ⟨Or.inr rfl, ⟨Or.inr rfl, ⟨Or.inl rfl, ⟨Or.inr rfl, ⟨Or.inl rfl, trivial⟩⟩⟩⟩⟩⟩⟩⟩ ?_
              exact hK130 x6 μ21
set_option maxHeartbeats 1000000 in
theorem t2_seat_L34 {g : Bool} {d dd : Nat} (hd1 : dd + 1 ≤ d) (hd2 : 1 ≤ d) (F : Int32 → Int32 → Int32 → zMem → zRes) (hF : ∀ (x1 : Int32) (x2 : Int32) (x3 : Int32) (μ : zMem), zMR yX2_seat cX2_seat 8 (some .boolean) dd [.ref 49, .int x1, .int x2, .int x3] (nX g) (SX g) μ (F x1 x2 x3 μ)) (x1 : Int32) (x2 : Int32) (x3 : Int32) (K158 : zMem → zRes) (K130 : Int32 → Int32 → zMem → zRes) (hK158 : ∀ (μ : zMem), zR yX2_seat cX2_seat 8 (some .boolean) d 158 [.null, .null, .null, .null, .null, .null, .null, .null] [] (nX g) (SX g) μ (K158 μ)) (hK130 : ∀ (x4 : Int32) (x6 : Int32) (μ : zMem), zR yX2_seat cX2_seat 8 (some .boolean) d 130 [.ref 49, .null, .null, .int x3, .int x4, .null, .int x6, .null] [] (nX g) (SX g) μ (K130 x4 x6 μ)) : ∀ (n : Nat) (x4 : Int32) (μ : zMem), zR yX2_seat cX2_seat 8 (some .boolean) d 34 [.ref 49, .int x1, .int x2, .int x3, .int x4, .null, .null, .null] [] (nX g) (SX g) μ (f2_seat_L34 F x1 x2 x3 K158 K130 n x4 μ) := by
  intro n
  induction n with
  | zero => intro x4 μ; intro q hq; cases hq
  | succ n ih =>
    intro x4 μ
    unfold f2_seat_L34
    refine z_iload (pc := 34) dX2_seat_34 rfl ?_
    refine z_aload_n (pc := 36) dX2_seat_36 rfl ?_
    refine z_geti (pc := 37) fdX2_21 (nx_lt (by decide)) (sx_49 g) rfl dX2_seat_37 ?_
    refine z_icmp_ge (pc := 40) (tgt := 158) dX2_seat_40 (by decide) (fun c5 => ?_) (fun c6 => ?_)
    · refine z_loc (L' := [.null, .null, .null, .null, .null, .null, .null, .null]) ⟨Or.inl rfl, ⟨Or.inl rfl, ⟨Or.inl rfl, ⟨Or.inl rfl, ⟨Or.inl rfl, ⟨Or.inl rfl, ⟨Or.inl rfl, ⟨Or.inl rfl, trivial⟩⟩⟩⟩⟩⟩⟩⟩ ?_
      exact hK158 μ
    · refine z_iload_n (pc := 43) dX2_seat_43 rfl ?_
      refine z_iload (pc := 44) dX2_seat_44 rfl ?_
      refine z_ishr (pc := 46) dX2_seat_46 ?_
      refine z_iconst (pc := 47) (1 : Int32) dX2_seat_47 (by decide) ?_
      refine z_iand (pc := 48) dX2_seat_48 ?_
      refine z_let (fun (j : Int32 → zRes) => ∀ (s7 : Int32), zR yX2_seat cX2_seat 8 (some .boolean) d 70 [.ref 49, .int x1, .int x2, .int x3, .int x4, .null, .null, .null] [.int s7] (nX g) (SX g) μ (j s7)) ?_ (fun j27 hj27 => ?_)
      · intro s7
        refine z_istore (pc := 70) (L' := [.ref 49, .int x1, .int x2, .int x3, .int x4, .int s7, .null, .null]) dX2_seat_70 (by decide) rfl ?_
        refine z_iload (pc := 72) dX2_seat_72 rfl ?_
        refine z_iconst (pc := 74) (1 : Int32) dX2_seat_74 (by decide) ?_
        refine z_iadd (pc := 75) dX2_seat_75 ?_
        refine z_val (fun v8 => ?_)
        refine z_istore (pc := 76) (L' := [.ref 49, .int x1, .int x2, .int x3, .int x4, .int s7, .int v8, .null]) dX2_seat_76 (by decide) rfl ?_
        refine z_let (fun (j : zMem → zRes) => ∀ (μ9 : zMem), zR yX2_seat cX2_seat 8 (some .boolean) d 152 [.ref 49, .int x1, .int x2, .int x3, .int x4, .null, .null, .null] [] (nX g) (SX g) μ9 (j μ9)) ?_ (fun j10 hj10 => ?_)
        · intro μ9
          refine z_iinc (pc := 152) (v := x4 + (1 : Int32)) (L' := [.ref 49, .int x1, .int x2, .int x3, .int (x4 + (1 : Int32)), .null, .null, .null]) dX2_seat_152 (by decide) rfl (congrArg _ (by decide)) rfl ?_
          refine z_goto (pc := 155) (tgt := 34) dX2_seat_155 (by decide) ?_
          exact ih (x4 + (1 : Int32)) μ9
        · refine t2_seat_L78 hd1 hd2 _ hF _ _ _ _ _ _ _ (fun μ24 => ?_) (fun x6_25 μ26 => ?_) zF _ _
          · exact hj10 μ24
          · exact hK130 x4 x6_25 μ26
      · refine z_if_eq (pc := 49) (tgt := 69) dX2_seat_49 (by decide) (fun c28 => ?_) (fun c29 => ?_)
        · refine z_iconst (pc := 69) (0 : Int32) dX2_seat_69 (by decide) ?_
          exact hj27 (0 : Int32)
        · refine z_aload_n (pc := 52) dX2_seat_52 rfl ?_
          refine z_getr (pc := 53) fdX2_9 (nx_lt (by decide)) (sx_49 g) rfl rfl dX2_seat_53 ?_
          refine z_iload_n (pc := 56) dX2_seat_56 rfl ?_
          refine z_bipush (pc := 57) (9 : Int32) dX2_seat_57 (by decide) ?_
          refine z_imul (pc := 59) dX2_seat_59 ?_
          refine z_iload (pc := 60) dX2_seat_60 rfl ?_
          refine z_iadd (pc := 62) dX2_seat_62 ?_
          refine z_iald (pc := 63) (nx_lt (by decide)) (sx_50 g) rfl dX2_seat_63 (fun h30 => ?_)
          refine z_iload_n (pc := 64) dX2_seat_64 rfl ?_
          refine z_iand (pc := 65) dX2_seat_65 ?_
          refine z_goto (pc := 66) (tgt := 70) dX2_seat_66 (by decide) ?_
          exact hj27 ((μ 50 ((x3 * (9 : Int32)) + x4).toNatClampNeg) &&& x2)
set_option maxHeartbeats 1000000 in
theorem t2_seatB {g : Bool} {d dd : Nat} (hd1 : dd + 1 ≤ d) (hd2 : 1 ≤ d) (F : Int32 → Int32 → Int32 → zMem → zRes) (hF : ∀ (x1 : Int32) (x2 : Int32) (x3 : Int32) (μ : zMem), zMR yX2_seat cX2_seat 8 (some .boolean) dd [.ref 49, .int x1, .int x2, .int x3] (nX g) (SX g) μ (F x1 x2 x3 μ)) (x1 : Int32) (x2 : Int32) (x3 : Int32) (μ : zMem) : zMR yX2_seat cX2_seat 8 (some .boolean) d [.ref 49, .int x1, .int x2, .int x3] (nX g) (SX g) μ (f2_seatB F x1 x2 x3 μ) := by
  refine zMR_of (by decide +kernel) rfl (Nat.le_of_ble_eq_true rfl) (L := [.ref 49, .int x1, .int x2, .int x3, .null, .null, .null, .null]) rfl ?_
  unfold f2_seatB
  refine z_iload_n (pc := 0) dX2_seat_0 rfl ?_
  refine z_aload_n (pc := 1) dX2_seat_1 rfl ?_
  refine z_getr (pc := 2) fdX2_25 (nx_lt (by decide)) (sx_49 g) rfl rfl dX2_seat_2 ?_
  refine z_geti (pc := 5) fdX2_41 (nx_lt (by decide)) (sx_2 g) rfl dX2_seat_5 ?_
  refine z_icmp_lt (pc := 8) (tgt := 13) dX2_seat_8 (by decide) (fun c1 => ?_) (fun c2 => ?_)
  · refine z_iload_n (pc := 13) dX2_seat_13 rfl ?_
    refine z_iload_n (pc := 14) dX2_seat_14 rfl ?_
    refine z_ishr (pc := 15) dX2_seat_15 ?_
    refine z_iconst (pc := 16) (1 : Int32) dX2_seat_16 (by decide) ?_
    refine z_iand (pc := 17) dX2_seat_17 ?_
    refine z_if_ne (pc := 18) (tgt := 31) dX2_seat_18 (by decide) (fun c3 => ?_) (fun c4 => ?_)
    · refine z_iconst (pc := 31) (0 : Int32) dX2_seat_31 (by decide) ?_
      refine z_istore (pc := 32) (L' := [.ref 49, .int x1, .int x2, .int x3, .int (0 : Int32), .null, .null, .null]) dX2_seat_32 (by decide) rfl ?_
      refine t2_seat_L34 hd1 hd2 _ hF _ _ _ _ _ (fun μ31 => ?_) (fun x4_32 x6_33 μ34 => ?_) zF _ _
      · refine z_iconst (pc := 158) (0 : Int32) dX2_seat_158 (by decide) ?_
        exact z_zretc (pc := 159) rfl (Or.inl rfl) dX2_seat_159
      · refine z_aload_n (pc := 130) dX2_seat_130 rfl ?_
        refine z_getr (pc := 131) fdX2_18 (nx_lt (by decide)) (sx_49 g) rfl rfl dX2_seat_131 ?_
        refine z_iload_n (pc := 134) dX2_seat_134 rfl ?_
        refine z_bipush (pc := 135) (10 : Int32) dX2_seat_135 (by decide) ?_
        refine z_iload (pc := 137) dX2_seat_137 rfl ?_
        refine z_imul (pc := 139) dX2_seat_139 ?_
        refine z_iload (pc := 140) dX2_seat_140 rfl ?_
        refine z_iadd (pc := 142) dX2_seat_142 ?_
        refine z_iast (pc := 143) (nx_lt (by decide)) (sx_52 g) rfl dX2_seat_143 (fun h35 => ?_)
        refine z_mem (fun μ36 => ?_)
        refine z_iconst (pc := 144) (1 : Int32) dX2_seat_144 (by decide) ?_
        exact z_zretc (pc := 145) rfl (Or.inr rfl) dX2_seat_145
    · refine z_aload_n (pc := 21) dX2_seat_21 rfl ?_
      refine z_iload_n (pc := 22) dX2_seat_22 rfl ?_
      refine z_iload_n (pc := 23) dX2_seat_23 rfl ?_
      refine z_iload_n (pc := 24) dX2_seat_24 rfl ?_
      refine z_iconst (pc := 25) (1 : Int32) dX2_seat_25 (by decide) ?_
      refine z_iadd (pc := 26) dX2_seat_26 ?_
      refine z_callS (As := [.ref 49, .int x1, .int x2, .int (x3 + (1 : Int32))]) (pc := 27) (ret' := some .boolean) ksX2_90 (hF _ _ _ _) hd1  rfl rfl (Nat.le_of_ble_eq_true rfl) dX2_seat_27 (fun v37 μ38 => ?_)
      exact z_zret (pc := 30) rfl dX2_seat_30
  · refine z_iconst (pc := 11) (1 : Int32) dX2_seat_11 (by decide) ?_
    exact z_zretc (pc := 12) rfl (Or.inr rfl) dX2_seat_12
theorem t2_seat {g : Bool} : ∀ (n : Nat) (x1 : Int32) (x2 : Int32) (x3 : Int32) (μ : zMem), zMR yX2_seat cX2_seat 8 (some .boolean) (n + 1) [.ref 49, .int x1, .int x2, .int x3] (nX g) (SX g) μ (f2_seat n x1 x2 x3 μ) := by
  intro n
  induction n with
  | zero => intro x1 x2 x3 μ q hq; cases hq
  | succ n ih =>
    intro x1 x2 x3 μ
    exact t2_seatB (by omega) (by omega) _ ih x1 x2 x3 μ
def f2_seatedAt (x1 : Int32) (μ : zMem) : zRes := bnd0 (fJ7_fill_53178 52 10 (-1 : Int32) μ) (fun (v1 : Int32) (μ2 : zMem) => bnd0 (f2_doorsAtMost μ2) (fun (v3 : Int32) (μ4 : zMem) => bnd0 (f2_seat 12 v3 ((zshl (1 : Int32) (μ4 49 4)) - (1 : Int32)) (0 : Int32) μ4) (fun (v5 : Int32) (μ6 : zMem) => zin x1 10 (some (0, μ6 52 x1.toNatClampNeg, μ6)))))
set_option maxHeartbeats 1000000 in
theorem t2_seatedAt {g : Bool} (x1 : Int32) (μ : zMem) : zMR yX2_seatedAt cX2_seatedAt 2 (some .int) 14 [.ref 49, .int x1] (nX g) (SX g) μ (f2_seatedAt x1 μ) := by
  refine zMR_of (by decide +kernel) rfl (Nat.le_of_ble_eq_true rfl) (L := [.ref 49, .int x1]) rfl ?_
  unfold f2_seatedAt
  refine z_aload_n (pc := 0) dX2_seatedAt_0 rfl ?_
  refine z_getr (pc := 1) fdX2_18 (nx_lt (by decide)) (sx_49 g) rfl rfl dX2_seatedAt_1 ?_
  refine z_iconst (pc := 4) (-1 : Int32) dX2_seatedAt_4 (by decide) ?_
  refine z_callS (As := [.ref 52, .int (-1 : Int32)]) (pc := 5) (ret' := none) ksX2_32 (tJ7_fill_53178 (nx_lt (by decide)) (sx_52 g) _ _) (by decide)  rfl rfl (Nat.le_of_ble_eq_true rfl) dX2_seatedAt_5 (fun v1 μ2 => ?_)
  refine z_aload_n (pc := 8) dX2_seatedAt_8 rfl ?_
  refine z_aload_n (pc := 9) dX2_seatedAt_9 rfl ?_
  refine z_callV (As := []) (pc := 10) (ret' := some .int) kvX2_87 (t2_doorsAtMost _) (by decide) (nx_lt (by decide)) (sx_49 g)  rfl rfl (Nat.le_of_ble_eq_true rfl) dX2_seatedAt_10 (fun v3 μ4 => ?_)
  refine z_iconst (pc := 13) (1 : Int32) dX2_seatedAt_13 (by decide) ?_
  refine z_aload_n (pc := 14) dX2_seatedAt_14 rfl ?_
  refine z_geti (pc := 15) fdX2_21 (nx_lt (by decide)) (sx_49 g) rfl dX2_seatedAt_15 ?_
  refine z_ishl (pc := 18) dX2_seatedAt_18 ?_
  refine z_iconst (pc := 19) (1 : Int32) dX2_seatedAt_19 (by decide) ?_
  refine z_isub (pc := 20) dX2_seatedAt_20 ?_
  refine z_iconst (pc := 21) (0 : Int32) dX2_seatedAt_21 (by decide) ?_
  refine z_callS (As := [.ref 49, .int v3, .int ((zshl (1 : Int32) (μ4 49 4)) - (1 : Int32)), .int (0 : Int32)]) (pc := 22) (ret' := some .boolean) ksX2_90 (t2_seat 12 _ _ _ _) (by decide)  rfl rfl (Nat.le_of_ble_eq_true rfl) dX2_seatedAt_22 (fun v5 μ6 => ?_)
  refine z_pop (pc := 25) dX2_seatedAt_25 rfl ?_
  refine z_aload_n (pc := 26) dX2_seatedAt_26 rfl ?_
  refine z_getr (pc := 27) fdX2_18 (nx_lt (by decide)) (sx_49 g) rfl rfl dX2_seatedAt_27 ?_
  refine z_iload_n (pc := 30) dX2_seatedAt_30 rfl ?_
  refine z_iald (pc := 31) (nx_lt (by decide)) (sx_52 g) rfl dX2_seatedAt_31 (fun h7 => ?_)
  exact z_iret (pc := 32) rfl dX2_seatedAt_32
def f2_canOpen_L2 (x1 : Int32) (μ : zMem) (K32 : zRes) (K24 : zRes) : Nat → Int32 → zRes
  | 0, _ => none
  | n + 1, x2 => if (μ 49 4) ≤ x2 then K32 else zin ((x1 * (9 : Int32)) + x2) 90 (if (μ 50 ((x1 * (9 : Int32)) + x2).toNatClampNeg) = 0 then f2_canOpen_L2 x1 μ K32 K24 n (x2 + (1 : Int32)) else K24)
def f2_canOpen (x1 : Int32) (μ : zMem) : zRes := f2_canOpen_L2 x1 μ (some (0, (0 : Int32), μ)) (some (0, (1 : Int32), μ)) zF (0 : Int32)
set_option maxHeartbeats 1000000 in
theorem t2_canOpen_L2 {g : Bool} (x1 : Int32) (μ : zMem) (K32 : zRes) (K24 : zRes) (hK32 : zR yX2_canOpen cX2_canOpen 3 (some .boolean) 1 32 [.null, .null, .null] [] (nX g) (SX g) μ (K32)) (hK24 : zR yX2_canOpen cX2_canOpen 3 (some .boolean) 1 24 [.null, .null, .null] [] (nX g) (SX g) μ (K24)) : ∀ (n : Nat) (x2 : Int32), zR yX2_canOpen cX2_canOpen 3 (some .boolean) 1 2 [.ref 49, .int x1, .int x2] [] (nX g) (SX g) μ (f2_canOpen_L2 x1 μ K32 K24 n x2) := by
  intro n
  induction n with
  | zero => intro x2; intro q hq; cases hq
  | succ n ih =>
    intro x2
    unfold f2_canOpen_L2
    refine z_iload_n (pc := 2) dX2_canOpen_2 rfl ?_
    refine z_aload_n (pc := 3) dX2_canOpen_3 rfl ?_
    refine z_geti (pc := 4) fdX2_21 (nx_lt (by decide)) (sx_49 g) rfl dX2_canOpen_4 ?_
    refine z_icmp_ge (pc := 7) (tgt := 32) dX2_canOpen_7 (by decide) (fun c1 => ?_) (fun c2 => ?_)
    · refine z_loc (L' := [.null, .null, .null]) ⟨Or.inl rfl, ⟨Or.inl rfl, ⟨Or.inl rfl, trivial⟩⟩⟩ ?_
      exact hK32
    · refine z_aload_n (pc := 10) dX2_canOpen_10 rfl ?_
      refine z_getr (pc := 11) fdX2_9 (nx_lt (by decide)) (sx_49 g) rfl rfl dX2_canOpen_11 ?_
      refine z_iload_n (pc := 14) dX2_canOpen_14 rfl ?_
      refine z_bipush (pc := 15) (9 : Int32) dX2_canOpen_15 (by decide) ?_
      refine z_imul (pc := 17) dX2_canOpen_17 ?_
      refine z_iload_n (pc := 18) dX2_canOpen_18 rfl ?_
      refine z_iadd (pc := 19) dX2_canOpen_19 ?_
      refine z_iald (pc := 20) (nx_lt (by decide)) (sx_50 g) rfl dX2_canOpen_20 (fun h3 => ?_)
      refine z_if_eq (pc := 21) (tgt := 26) dX2_canOpen_21 (by decide) (fun c4 => ?_) (fun c5 => ?_)
      · refine z_iinc (pc := 26) (v := x2 + (1 : Int32)) (L' := [.ref 49, .int x1, .int (x2 + (1 : Int32))]) dX2_canOpen_26 (by decide) rfl (congrArg _ (by decide)) rfl ?_
        refine z_goto (pc := 29) (tgt := 2) dX2_canOpen_29 (by decide) ?_
        exact ih (x2 + (1 : Int32))
      · refine z_loc (L' := [.null, .null, .null]) ⟨Or.inl rfl, ⟨Or.inl rfl, ⟨Or.inl rfl, trivial⟩⟩⟩ ?_
        exact hK24
set_option maxHeartbeats 1000000 in
theorem t2_canOpen {g : Bool} (x1 : Int32) (μ : zMem) : zMR yX2_canOpen cX2_canOpen 3 (some .boolean) 1 [.ref 49, .int x1] (nX g) (SX g) μ (f2_canOpen x1 μ) := by
  refine zMR_of (by decide +kernel) rfl (Nat.le_of_ble_eq_true rfl) (L := [.ref 49, .int x1, .null]) rfl ?_
  unfold f2_canOpen
  refine z_iconst (pc := 0) (0 : Int32) dX2_canOpen_0 (by decide) ?_
  refine z_istore_n (pc := 1) (L' := [.ref 49, .int x1, .int (0 : Int32)]) dX2_canOpen_1 (by decide) rfl ?_
  refine t2_canOpen_L2 _ _ _ _ (?_) (?_) zF _
  · refine z_iconst (pc := 32) (0 : Int32) dX2_canOpen_32 (by decide) ?_
    exact z_zretc (pc := 33) rfl (Or.inl rfl) dX2_canOpen_33
  · refine z_iconst (pc := 24) (1 : Int32) dX2_canOpen_24 (by decide) ?_
    exact z_zretc (pc := 25) rfl (Or.inr rfl) dX2_canOpen_25
def f2_greatestWorths_L19 (x2 : Int32) (K100 : Int32 → zMem → zRes) : Nat → Int32 → Int32 → zMem → zRes
  | 0, _, _, _ => none
  | n + 1, x5, x6, μ => if (μ 2 2) ≤ x6 then K100 x5 μ else zlet (fun (s5 : Int32) (μ6 : zMem) => zlet (fun (x5_7 : Int32) => f2_greatestWorths_L19 x2 K100 n x5_7 (x6 + (1 : Int32)) μ6) (fun j8 => if s5 = 0 then j8 x5 else zlet (j8 x6) (fun j11 => if x5 = (-1 : Int32) then j11 else zin x6 10 (zin x5 10 (if (μ6 8 x6.toNatClampNeg) ≤ (μ6 8 x5.toNatClampNeg) then j8 x5 else j11))))) (fun j18 => zlet (fun (μ19 : zMem) => j18 (0 : Int32) μ19) (fun j20 => if ((zshr x2 x6) &&& (1 : Int32)) = 0 then bnd0 (f2_canOpen x6 μ) (fun (v23 : Int32) (μ24 : zMem) => if v23 = 0 then j20 μ24 else j18 (1 : Int32) μ24) else j20 μ))
def f2_greatestWorths_L7 (x1 : Int32) (K132 : Int32 → zMem → zRes) : Nat → Int32 → Int32 → Int32 → zMem → zRes
  | 0, _, _, _, _ => none
  | n + 1, x2, x3, x4, μ => if x1 ≤ x4 then K132 x3 μ else f2_greatestWorths_L19 x2 (fun (x5_27 : Int32) (μ28 : zMem) => zlet (fun (x2_29 : Int32) (x3_30 : Int32) => f2_greatestWorths_L7 x1 K132 n x2_29 x3_30 (x4 + (1 : Int32)) μ28) (fun j31 => if x5_27 = (-1 : Int32) then j31 x2 x3 else zlet (x2 ||| (zshl (1 : Int32) x5_27)) (fun (v34 : Int32) => zin x5_27 10 (zlet (x3 + (μ28 8 x5_27.toNatClampNeg)) (fun (v36 : Int32) => j31 v34 v36))))) zF (-1 : Int32) (0 : Int32) μ
def f2_greatestWorths (x1 : Int32) (μ : zMem) : zRes := f2_greatestWorths_L7 x1 (fun (x3_37 : Int32) (μ38 : zMem) => some (0, x3_37, μ38)) zF (0 : Int32) (0 : Int32) (0 : Int32) μ
set_option maxHeartbeats 1000000 in
theorem t2_greatestWorths_L19 {g : Bool} (x1 : Int32) (x2 : Int32) (x3 : Int32) (x4 : Int32) (K100 : Int32 → zMem → zRes) (hK100 : ∀ (x5 : Int32) (μ : zMem), zR yX2_greatestWorths cX2_greatestWorths 8 (some .int) 2 100 [.ref 49, .int x1, .int x2, .int x3, .int x4, .int x5, .null, .null] [] (nX g) (SX g) μ (K100 x5 μ)) : ∀ (n : Nat) (x5 : Int32) (x6 : Int32) (μ : zMem), zR yX2_greatestWorths cX2_greatestWorths 8 (some .int) 2 19 [.ref 49, .int x1, .int x2, .int x3, .int x4, .int x5, .int x6, .null] [] (nX g) (SX g) μ (f2_greatestWorths_L19 x2 K100 n x5 x6 μ) := by
  intro n
  induction n with
  | zero => intro x5 x6 μ; intro q hq; cases hq
  | succ n ih =>
    intro x5 x6 μ
    unfold f2_greatestWorths_L19
    refine z_iload (pc := 19) dX2_greatestWorths_19 rfl ?_
    refine z_aload_n (pc := 21) dX2_greatestWorths_21 rfl ?_
    refine z_getr (pc := 22) fdX2_25 (nx_lt (by decide)) (sx_49 g) rfl rfl dX2_greatestWorths_22 ?_
    refine z_geti (pc := 25) fdX2_41 (nx_lt (by decide)) (sx_2 g) rfl dX2_greatestWorths_25 ?_
    refine z_icmp_ge (pc := 28) (tgt := 100) dX2_greatestWorths_28 (by decide) (fun c3 => ?_) (fun c4 => ?_)
    · refine z_loc (L' := [.ref 49, .int x1, .int x2, .int x3, .int x4, .int x5, .null, .null]) ⟨Or.inr rfl, ⟨Or.inr rfl, ⟨Or.inr rfl, ⟨Or.inr rfl, ⟨Or.inr rfl, ⟨Or.inr rfl, ⟨Or.inl rfl, ⟨Or.inl rfl, trivial⟩⟩⟩⟩⟩⟩⟩⟩ ?_
      exact hK100 x5 μ
    · refine z_iload_n (pc := 31) dX2_greatestWorths_31 rfl ?_
      refine z_iload (pc := 32) dX2_greatestWorths_32 rfl ?_
      refine z_ishr (pc := 34) dX2_greatestWorths_34 ?_
      refine z_iconst (pc := 35) (1 : Int32) dX2_greatestWorths_35 (by decide) ?_
      refine z_iand (pc := 36) dX2_greatestWorths_36 ?_
      refine z_let (fun (j : Int32 → zMem → zRes) => ∀ (s5 : Int32) (μ6 : zMem), zR yX2_greatestWorths cX2_greatestWorths 8 (some .int) 2 54 [.ref 49, .int x1, .int x2, .int x3, .int x4, .int x5, .int x6, .null] [.int s5] (nX g) (SX g) μ6 (j s5 μ6)) ?_ (fun j18 hj18 => ?_)
      · intro s5 μ6
        refine z_istore (pc := 54) (L' := [.ref 49, .int x1, .int x2, .int x3, .int x4, .int x5, .int x6, .int s5]) dX2_greatestWorths_54 (by decide) rfl ?_
        refine z_iload (pc := 56) dX2_greatestWorths_56 rfl ?_
        refine z_let (fun (j : Int32 → zRes) => ∀ (x5_7 : Int32), zR yX2_greatestWorths cX2_greatestWorths 8 (some .int) 2 94 [.ref 49, .int x1, .int x2, .int x3, .int x4, .int x5_7, .int x6, .null] [] (nX g) (SX g) μ6 (j x5_7)) ?_ (fun j8 hj8 => ?_)
        · intro x5_7
          refine z_iinc (pc := 94) (v := x6 + (1 : Int32)) (L' := [.ref 49, .int x1, .int x2, .int x3, .int x4, .int x5_7, .int (x6 + (1 : Int32)), .null]) dX2_greatestWorths_94 (by decide) rfl (congrArg _ (by decide)) rfl ?_
          refine z_goto (pc := 97) (tgt := 19) dX2_greatestWorths_97 (by decide) ?_
          exact ih x5_7 (x6 + (1 : Int32)) μ6
        · refine z_if_eq (pc := 58) (tgt := 94) dX2_greatestWorths_58 (by decide) (fun c9 => ?_) (fun c10 => ?_)
          · refine z_loc (L' := [.ref 49, .int x1, .int x2, .int x3, .int x4, .int x5, .int x6, .null]) ⟨Or.inr rfl, ⟨Or.inr rfl, ⟨Or.inr rfl, ⟨Or.inr rfl, ⟨Or.inr rfl, ⟨Or.inr rfl, ⟨Or.inr rfl, ⟨Or.inl rfl, trivial⟩⟩⟩⟩⟩⟩⟩⟩ ?_
            exact hj8 x5
          · refine z_iload (pc := 61) dX2_greatestWorths_61 rfl ?_
            refine z_iconst (pc := 63) (-1 : Int32) dX2_greatestWorths_63 (by decide) ?_
            refine z_let (fun (j : zRes) => zR yX2_greatestWorths cX2_greatestWorths 8 (some .int) 2 90 [.ref 49, .int x1, .int x2, .int x3, .int x4, .null, .int x6, .null] [] (nX g) (SX g) μ6 (j)) ?_ (fun j11 hj11 => ?_)
            · refine z_iload (pc := 90) dX2_greatestWorths_90 rfl ?_
              refine z_istore (pc := 92) (L' := [.ref 49, .int x1, .int x2, .int x3, .int x4, .int x6, .int x6, .null]) dX2_greatestWorths_92 (by decide) rfl ?_
              exact hj8 x6
            · refine z_icmp_eq (pc := 64) (tgt := 90) dX2_greatestWorths_64 (by decide) (fun c12 => ?_) (fun c13 => ?_)
              · refine z_loc (L' := [.ref 49, .int x1, .int x2, .int x3, .int x4, .null, .int x6, .null]) ⟨Or.inr rfl, ⟨Or.inr rfl, ⟨Or.inr rfl, ⟨Or.inr rfl, ⟨Or.inr rfl, ⟨Or.inl rfl, ⟨Or.inr rfl, ⟨Or.inl rfl, trivial⟩⟩⟩⟩⟩⟩⟩⟩ ?_
                exact hj11
              · refine z_aload_n (pc := 67) dX2_greatestWorths_67 rfl ?_
                refine z_getr (pc := 68) fdX2_25 (nx_lt (by decide)) (sx_49 g) rfl rfl dX2_greatestWorths_68 ?_
                refine z_getr (pc := 71) fdX2_65 (nx_lt (by decide)) (sx_2 g) rfl rfl dX2_greatestWorths_71 ?_
                refine z_iload (pc := 74) dX2_greatestWorths_74 rfl ?_
                refine z_iald (pc := 76) (nx_lt (by decide)) (sx_8 g) rfl dX2_greatestWorths_76 (fun h14 => ?_)
                refine z_aload_n (pc := 77) dX2_greatestWorths_77 rfl ?_
                refine z_getr (pc := 78) fdX2_25 (nx_lt (by decide)) (sx_49 g) rfl rfl dX2_greatestWorths_78 ?_
                refine z_getr (pc := 81) fdX2_65 (nx_lt (by decide)) (sx_2 g) rfl rfl dX2_greatestWorths_81 ?_
                refine z_iload (pc := 84) dX2_greatestWorths_84 rfl ?_
                refine z_iald (pc := 86) (nx_lt (by decide)) (sx_8 g) rfl dX2_greatestWorths_86 (fun h15 => ?_)
                refine z_icmp_le (pc := 87) (tgt := 94) dX2_greatestWorths_87 (by decide) (fun c16 => ?_) (fun c17 => ?_)
                · refine z_loc (L' := [.ref 49, .int x1, .int x2, .int x3, .int x4, .int x5, .int x6, .null]) ⟨Or.inr rfl, ⟨Or.inr rfl, ⟨Or.inr rfl, ⟨Or.inr rfl, ⟨Or.inr rfl, ⟨Or.inr rfl, ⟨Or.inr rfl, ⟨Or.inl rfl, trivial⟩⟩⟩⟩⟩⟩⟩⟩ ?_
                  exact hj8 x5
                · refine z_loc (L' := [.ref 49, .int x1, .int x2, .int x3, .int x4, .null, .int x6, .null]) ⟨Or.inr rfl, ⟨Or.inr rfl, ⟨Or.inr rfl, ⟨Or.inr rfl, ⟨Or.inr rfl, ⟨Or.inl rfl, ⟨Or.inr rfl, ⟨Or.inl rfl, trivial⟩⟩⟩⟩⟩⟩⟩⟩ ?_
                  exact hj11
      · refine z_let (fun (j : zMem → zRes) => ∀ (μ19 : zMem), zR yX2_greatestWorths cX2_greatestWorths 8 (some .int) 2 53 [.ref 49, .int x1, .int x2, .int x3, .int x4, .int x5, .int x6, .null] [] (nX g) (SX g) μ19 (j μ19)) ?_ (fun j20 hj20 => ?_)
        · intro μ19
          refine z_iconst (pc := 53) (0 : Int32) dX2_greatestWorths_53 (by decide) ?_
          exact hj18 (0 : Int32) μ19
        · refine z_if_ne (pc := 37) (tgt := 53) dX2_greatestWorths_37 (by decide) (fun c21 => ?_) (fun c22 => ?_)
          · exact hj20 μ
          · refine z_aload_n (pc := 40) dX2_greatestWorths_40 rfl ?_
            refine z_iload (pc := 41) dX2_greatestWorths_41 rfl ?_
            refine z_callV (As := [.int x6]) (pc := 43) (ret' := some .boolean) kvX2_94 (t2_canOpen _ _) (by decide) (nx_lt (by decide)) (sx_49 g)  rfl rfl (Nat.le_of_ble_eq_true rfl) dX2_greatestWorths_43 (fun v23 μ24 => ?_)
            refine z_if_eq (pc := 46) (tgt := 53) dX2_greatestWorths_46 (by decide) (fun c25 => ?_) (fun c26 => ?_)
            · exact hj20 μ24
            · refine z_iconst (pc := 49) (1 : Int32) dX2_greatestWorths_49 (by decide) ?_
              refine z_goto (pc := 50) (tgt := 54) dX2_greatestWorths_50 (by decide) ?_
              exact hj18 (1 : Int32) μ24
set_option maxHeartbeats 1000000 in
theorem t2_greatestWorths_L7 {g : Bool} (x1 : Int32) (K132 : Int32 → zMem → zRes) (hK132 : ∀ (x3 : Int32) (μ : zMem), zR yX2_greatestWorths cX2_greatestWorths 8 (some .int) 2 132 [.null, .null, .null, .int x3, .null, .null, .null, .null] [] (nX g) (SX g) μ (K132 x3 μ)) : ∀ (n : Nat) (x2 : Int32) (x3 : Int32) (x4 : Int32) (μ : zMem), zR yX2_greatestWorths cX2_greatestWorths 8 (some .int) 2 7 [.ref 49, .int x1, .int x2, .int x3, .int x4, .null, .null, .null] [] (nX g) (SX g) μ (f2_greatestWorths_L7 x1 K132 n x2 x3 x4 μ) := by
  intro n
  induction n with
  | zero => intro x2 x3 x4 μ; intro q hq; cases hq
  | succ n ih =>
    intro x2 x3 x4 μ
    unfold f2_greatestWorths_L7
    refine z_iload (pc := 7) dX2_greatestWorths_7 rfl ?_
    refine z_iload_n (pc := 9) dX2_greatestWorths_9 rfl ?_
    refine z_icmp_ge (pc := 10) (tgt := 132) dX2_greatestWorths_10 (by decide) (fun c1 => ?_) (fun c2 => ?_)
    · refine z_loc (L' := [.null, .null, .null, .int x3, .null, .null, .null, .null]) ⟨Or.inl rfl, ⟨Or.inl rfl, ⟨Or.inl rfl, ⟨Or.inr rfl, ⟨Or.inl rfl, ⟨Or.inl rfl, ⟨Or.inl rfl, ⟨Or.inl rfl, trivial⟩⟩⟩⟩⟩⟩⟩⟩ ?_
      exact hK132 x3 μ
    · refine z_iconst (pc := 13) (-1 : Int32) dX2_greatestWorths_13 (by decide) ?_
      refine z_istore (pc := 14) (L' := [.ref 49, .int x1, .int x2, .int x3, .int x4, .int (-1 : Int32), .null, .null]) dX2_greatestWorths_14 (by decide) rfl ?_
      refine z_iconst (pc := 16) (0 : Int32) dX2_greatestWorths_16 (by decide) ?_
      refine z_istore (pc := 17) (L' := [.ref 49, .int x1, .int x2, .int x3, .int x4, .int (-1 : Int32), .int (0 : Int32), .null]) dX2_greatestWorths_17 (by decide) rfl ?_
      refine t2_greatestWorths_L19 _ _ _ _ _ (fun x5_27 μ28 => ?_) zF _ _ _
      · refine z_iload (pc := 100) dX2_greatestWorths_100 rfl ?_
        refine z_iconst (pc := 102) (-1 : Int32) dX2_greatestWorths_102 (by decide) ?_
        refine z_let (fun (j : Int32 → Int32 → zRes) => ∀ (x2_29 : Int32) (x3_30 : Int32), zR yX2_greatestWorths cX2_greatestWorths 8 (some .int) 2 126 [.ref 49, .int x1, .int x2_29, .int x3_30, .int x4, .null, .null, .null] [] (nX g) (SX g) μ28 (j x2_29 x3_30)) ?_ (fun j31 hj31 => ?_)
        · intro x2_29 x3_30
          refine z_iinc (pc := 126) (v := x4 + (1 : Int32)) (L' := [.ref 49, .int x1, .int x2_29, .int x3_30, .int (x4 + (1 : Int32)), .null, .null, .null]) dX2_greatestWorths_126 (by decide) rfl (congrArg _ (by decide)) rfl ?_
          refine z_goto (pc := 129) (tgt := 7) dX2_greatestWorths_129 (by decide) ?_
          exact ih x2_29 x3_30 (x4 + (1 : Int32)) μ28
        · refine z_icmp_eq (pc := 103) (tgt := 126) dX2_greatestWorths_103 (by decide) (fun c32 => ?_) (fun c33 => ?_)
          · refine z_loc (L' := [.ref 49, .int x1, .int x2, .int x3, .int x4, .null, .null, .null]) ⟨Or.inr rfl, ⟨Or.inr rfl, ⟨Or.inr rfl, ⟨Or.inr rfl, ⟨Or.inr rfl, ⟨Or.inl rfl, ⟨Or.inl rfl, ⟨Or.inl rfl, trivial⟩⟩⟩⟩⟩⟩⟩⟩ ?_
            exact hj31 x2 x3
          · refine z_iload_n (pc := 106) dX2_greatestWorths_106 rfl ?_
            refine z_iconst (pc := 107) (1 : Int32) dX2_greatestWorths_107 (by decide) ?_
            refine z_iload (pc := 108) dX2_greatestWorths_108 rfl ?_
            refine z_ishl (pc := 110) dX2_greatestWorths_110 ?_
            refine z_ior (pc := 111) dX2_greatestWorths_111 ?_
            refine z_val (fun v34 => ?_)
            refine z_istore_n (pc := 112) (L' := [.ref 49, .int x1, .int v34, .int x3, .int x4, .int x5_27, .null, .null]) dX2_greatestWorths_112 (by decide) rfl ?_
            refine z_iload_n (pc := 113) dX2_greatestWorths_113 rfl ?_
            refine z_aload_n (pc := 114) dX2_greatestWorths_114 rfl ?_
            refine z_getr (pc := 115) fdX2_25 (nx_lt (by decide)) (sx_49 g) rfl rfl dX2_greatestWorths_115 ?_
            refine z_getr (pc := 118) fdX2_65 (nx_lt (by decide)) (sx_2 g) rfl rfl dX2_greatestWorths_118 ?_
            refine z_iload (pc := 121) dX2_greatestWorths_121 rfl ?_
            refine z_iald (pc := 123) (nx_lt (by decide)) (sx_8 g) rfl dX2_greatestWorths_123 (fun h35 => ?_)
            refine z_iadd (pc := 124) dX2_greatestWorths_124 ?_
            refine z_val (fun v36 => ?_)
            refine z_istore_n (pc := 125) (L' := [.ref 49, .int x1, .int v34, .int v36, .int x4, .int x5_27, .null, .null]) dX2_greatestWorths_125 (by decide) rfl ?_
            refine z_loc (L' := [.ref 49, .int x1, .int v34, .int v36, .int x4, .null, .null, .null]) ⟨Or.inr rfl, ⟨Or.inr rfl, ⟨Or.inr rfl, ⟨Or.inr rfl, ⟨Or.inr rfl, ⟨Or.inl rfl, ⟨Or.inl rfl, ⟨Or.inl rfl, trivial⟩⟩⟩⟩⟩⟩⟩⟩ ?_
            exact hj31 v34 v36
set_option maxHeartbeats 1000000 in
theorem t2_greatestWorths {g : Bool} (x1 : Int32) (μ : zMem) : zMR yX2_greatestWorths cX2_greatestWorths 8 (some .int) 2 [.ref 49, .int x1] (nX g) (SX g) μ (f2_greatestWorths x1 μ) := by
  refine zMR_of (by decide +kernel) rfl (Nat.le_of_ble_eq_true rfl) (L := [.ref 49, .int x1, .null, .null, .null, .null, .null, .null]) rfl ?_
  unfold f2_greatestWorths
  refine z_iconst (pc := 0) (0 : Int32) dX2_greatestWorths_0 (by decide) ?_
  refine z_istore_n (pc := 1) (L' := [.ref 49, .int x1, .int (0 : Int32), .null, .null, .null, .null, .null]) dX2_greatestWorths_1 (by decide) rfl ?_
  refine z_iconst (pc := 2) (0 : Int32) dX2_greatestWorths_2 (by decide) ?_
  refine z_istore_n (pc := 3) (L' := [.ref 49, .int x1, .int (0 : Int32), .int (0 : Int32), .null, .null, .null, .null]) dX2_greatestWorths_3 (by decide) rfl ?_
  refine z_iconst (pc := 4) (0 : Int32) dX2_greatestWorths_4 (by decide) ?_
  refine z_istore (pc := 5) (L' := [.ref 49, .int x1, .int (0 : Int32), .int (0 : Int32), .int (0 : Int32), .null, .null, .null]) dX2_greatestWorths_5 (by decide) rfl ?_
  refine t2_greatestWorths_L7 _ _ (fun x3_37 μ38 => ?_) zF _ _ _ _
  · refine z_iload_n (pc := 132) dX2_greatestWorths_132 rfl ?_
    exact z_iret (pc := 133) rfl dX2_greatestWorths_133
def f2_fewestPersons_L13 (K64 : Int32 → zMem → zRes) : Nat → Int32 → Int32 → zMem → zRes
  | 0, _, _, _ => none
  | n + 1, x2, x3, μ => if x3 < 0 then K64 x2 μ else zin x3 512 (bnd0 (f2_worthIn (μ 51 x3.toNatClampNeg) μ) (fun (v5 : Int32) (μ6 : zMem) => bnd0 (f2_worthAtMost μ6) (fun (v7 : Int32) (μ8 : zMem) => zlet (fun (s9 : Int32) => zlet (fun (x2_10 : Int32) (μ11 : zMem) => f2_fewestPersons_L13 K64 n x2_10 (x3 + (-1 : Int32)) μ11) (fun j12 => if s9 = 0 then j12 x2 μ8 else bnd0 (fJ6_bitCount_0f7a4 x3 μ8) (fun (v15 : Int32) (μ16 : zMem) => bnd0 (fJ6_bitCount_0f7a4 x2 μ16) (fun (v17 : Int32) (μ18 : zMem) => if v17 < v15 then j12 x2 μ18 else j12 x3 μ18)))) (fun j21 => if v5 = v7 then j21 (1 : Int32) else j21 (0 : Int32)))))
def f2_fewestPersons (μ : zMem) : zRes := zlet ((zshl (1 : Int32) (μ 49 4)) - (1 : Int32)) (fun (v1 : Int32) => f2_fewestPersons_L13 (fun (x2_24 : Int32) (μ25 : zMem) => some (0, x2_24, μ25)) zF v1 v1 μ)
set_option maxHeartbeats 1000000 in
theorem t2_fewestPersons_L13 {g : Bool} (K64 : Int32 → zMem → zRes) (hK64 : ∀ (x2 : Int32) (μ : zMem), zR yX2_fewestPersons cX2_fewestPersons 5 (some .int) 3 64 [.null, .null, .int x2, .null, .null] [] (nX g) (SX g) μ (K64 x2 μ)) : ∀ (n : Nat) (x2 : Int32) (x3 : Int32) (μ : zMem), zR yX2_fewestPersons cX2_fewestPersons 5 (some .int) 3 13 [.ref 49, .null, .int x2, .int x3, .null] [] (nX g) (SX g) μ (f2_fewestPersons_L13 K64 n x2 x3 μ) := by
  intro n
  induction n with
  | zero => intro x2 x3 μ; intro q hq; cases hq
  | succ n ih =>
    intro x2 x3 μ
    unfold f2_fewestPersons_L13
    refine z_iload_n (pc := 13) dX2_fewestPersons_13 rfl ?_
    refine z_if_lt (pc := 14) (tgt := 64) dX2_fewestPersons_14 (by decide) (fun c2 => ?_) (fun c3 => ?_)
    · refine z_loc (L' := [.null, .null, .int x2, .null, .null]) ⟨Or.inl rfl, ⟨Or.inl rfl, ⟨Or.inr rfl, ⟨Or.inl rfl, ⟨Or.inl rfl, trivial⟩⟩⟩⟩⟩ ?_
      exact hK64 x2 μ
    · refine z_aload_n (pc := 17) dX2_fewestPersons_17 rfl ?_
      refine z_getr (pc := 18) fdX2_15 (nx_lt (by decide)) (sx_49 g) rfl rfl dX2_fewestPersons_18 ?_
      refine z_iload_n (pc := 21) dX2_fewestPersons_21 rfl ?_
      refine z_iald (pc := 22) (nx_lt (by decide)) (sx_51 g) rfl dX2_fewestPersons_22 (fun h4 => ?_)
      refine z_callS (As := [.int (μ 51 x3.toNatClampNeg)]) (pc := 23) (ret' := some .int) ksX2_74 (t2_worthIn _ _) (by decide)  rfl rfl (Nat.le_of_ble_eq_true rfl) dX2_fewestPersons_23 (fun v5 μ6 => ?_)
      refine z_aload_n (pc := 26) dX2_fewestPersons_26 rfl ?_
      refine z_callV (As := []) (pc := 27) (ret' := some .int) kvX2_78 (t2_worthAtMost _) (by decide) (nx_lt (by decide)) (sx_49 g)  rfl rfl (Nat.le_of_ble_eq_true rfl) dX2_fewestPersons_27 (fun v7 μ8 => ?_)
      refine z_let (fun (j : Int32 → zRes) => ∀ (s9 : Int32), zR yX2_fewestPersons cX2_fewestPersons 5 (some .int) 3 38 [.ref 49, .null, .int x2, .int x3, .null] [.int s9] (nX g) (SX g) μ8 (j s9)) ?_ (fun j21 hj21 => ?_)
      · intro s9
        refine z_istore (pc := 38) (L' := [.ref 49, .null, .int x2, .int x3, .int s9]) dX2_fewestPersons_38 (by decide) rfl ?_
        refine z_iload (pc := 40) dX2_fewestPersons_40 rfl ?_
        refine z_let (fun (j : Int32 → zMem → zRes) => ∀ (x2_10 : Int32) (μ11 : zMem), zR yX2_fewestPersons cX2_fewestPersons 5 (some .int) 3 58 [.ref 49, .null, .int x2_10, .int x3, .null] [] (nX g) (SX g) μ11 (j x2_10 μ11)) ?_ (fun j12 hj12 => ?_)
        · intro x2_10 μ11
          refine z_iinc (pc := 58) (v := x3 + (-1 : Int32)) (L' := [.ref 49, .null, .int x2_10, .int (x3 + (-1 : Int32)), .null]) dX2_fewestPersons_58 (by decide) rfl (congrArg _ (by decide)) rfl ?_
          refine z_goto (pc := 61) (tgt := 13) dX2_fewestPersons_61 (by decide) ?_
          exact ih x2_10 (x3 + (-1 : Int32)) μ11
        · refine z_if_eq (pc := 42) (tgt := 58) dX2_fewestPersons_42 (by decide) (fun c13 => ?_) (fun c14 => ?_)
          · refine z_loc (L' := [.ref 49, .null, .int x2, .int x3, .null]) ⟨Or.inr rfl, ⟨Or.inl rfl, ⟨Or.inr rfl, ⟨Or.inr rfl, ⟨Or.inl rfl, trivial⟩⟩⟩⟩⟩ ?_
            exact hj12 x2 μ8
          · refine z_iload_n (pc := 45) dX2_fewestPersons_45 rfl ?_
            refine z_callS (As := [.int x3]) (pc := 46) (ret' := some .int) ksX2_82 (tJ6_bitCount_0f7a4 _ _) (by decide)  rfl rfl (Nat.le_of_ble_eq_true rfl) dX2_fewestPersons_46 (fun v15 μ16 => ?_)
            refine z_iload_n (pc := 49) dX2_fewestPersons_49 rfl ?_
            refine z_callS (As := [.int x2]) (pc := 50) (ret' := some .int) ksX2_82 (tJ6_bitCount_0f7a4 _ _) (by decide)  rfl rfl (Nat.le_of_ble_eq_true rfl) dX2_fewestPersons_50 (fun v17 μ18 => ?_)
            refine z_icmp_gt (pc := 53) (tgt := 58) dX2_fewestPersons_53 (by decide) (fun c19 => ?_) (fun c20 => ?_)
            · refine z_loc (L' := [.ref 49, .null, .int x2, .int x3, .null]) ⟨Or.inr rfl, ⟨Or.inl rfl, ⟨Or.inr rfl, ⟨Or.inr rfl, ⟨Or.inl rfl, trivial⟩⟩⟩⟩⟩ ?_
              exact hj12 x2 μ18
            · refine z_iload_n (pc := 56) dX2_fewestPersons_56 rfl ?_
              refine z_istore_n (pc := 57) (L' := [.ref 49, .null, .int x3, .int x3, .int s9]) dX2_fewestPersons_57 (by decide) rfl ?_
              refine z_loc (L' := [.ref 49, .null, .int x3, .int x3, .null]) ⟨Or.inr rfl, ⟨Or.inl rfl, ⟨Or.inr rfl, ⟨Or.inr rfl, ⟨Or.inl rfl, trivial⟩⟩⟩⟩⟩ ?_
              exact hj12 x3 μ18
      · refine z_icmp_ne (pc := 30) (tgt := 37) dX2_fewestPersons_30 (by decide) (fun c22 => ?_) (fun c23 => ?_)
        · refine z_iconst (pc := 37) (0 : Int32) dX2_fewestPersons_37 (by decide) ?_
          exact hj21 (0 : Int32)
        · refine z_iconst (pc := 33) (1 : Int32) dX2_fewestPersons_33 (by decide) ?_
          refine z_goto (pc := 34) (tgt := 38) dX2_fewestPersons_34 (by decide) ?_
          exact hj21 (1 : Int32)
set_option maxHeartbeats 1000000 in
theorem t2_fewestPersons {g : Bool} (μ : zMem) : zMR yX2_fewestPersons cX2_fewestPersons 5 (some .int) 3 [.ref 49] (nX g) (SX g) μ (f2_fewestPersons μ) := by
  refine zMR_of (by decide +kernel) rfl (Nat.le_of_ble_eq_true rfl) (L := [.ref 49, .null, .null, .null, .null]) rfl ?_
  unfold f2_fewestPersons
  refine z_iconst (pc := 0) (1 : Int32) dX2_fewestPersons_0 (by decide) ?_
  refine z_aload_n (pc := 1) dX2_fewestPersons_1 rfl ?_
  refine z_geti (pc := 2) fdX2_21 (nx_lt (by decide)) (sx_49 g) rfl dX2_fewestPersons_2 ?_
  refine z_ishl (pc := 5) dX2_fewestPersons_5 ?_
  refine z_iconst (pc := 6) (1 : Int32) dX2_fewestPersons_6 (by decide) ?_
  refine z_isub (pc := 7) dX2_fewestPersons_7 ?_
  refine z_val (fun v1 => ?_)
  refine z_istore_n (pc := 8) (L' := [.ref 49, .int v1, .null, .null, .null]) dX2_fewestPersons_8 (by decide) rfl ?_
  refine z_iload_n (pc := 9) dX2_fewestPersons_9 rfl ?_
  refine z_istore_n (pc := 10) (L' := [.ref 49, .int v1, .int v1, .null, .null]) dX2_fewestPersons_10 (by decide) rfl ?_
  refine z_iload_n (pc := 11) dX2_fewestPersons_11 rfl ?_
  refine z_istore_n (pc := 12) (L' := [.ref 49, .int v1, .int v1, .int v1, .null]) dX2_fewestPersons_12 (by decide) rfl ?_
  refine z_loc (L' := [.ref 49, .null, .int v1, .int v1, .null]) ⟨Or.inr rfl, ⟨Or.inl rfl, ⟨Or.inr rfl, ⟨Or.inr rfl, ⟨Or.inl rfl, trivial⟩⟩⟩⟩⟩ ?_
  refine t2_fewestPersons_L13 _ (fun x2_24 μ25 => ?_) zF _ _ _
  · refine z_iload_n (pc := 64) dX2_fewestPersons_64 rfl ?_
    exact z_iret (pc := 65) rfl dX2_fewestPersons_65
