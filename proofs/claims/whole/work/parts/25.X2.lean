theorem dX2_findTwos_0 : decode cX2_findTwos 0 = .ok (.iconst 0, 1) := by decide +kernel
theorem dX2_findTwos_1 : decode cX2_findTwos 1 = .ok (.istore_n 3, 1) := by decide +kernel
theorem dX2_findTwos_2 : decode cX2_findTwos 2 = .ok (.iconst 0, 1) := by decide +kernel
theorem dX2_findTwos_3 : decode cX2_findTwos 3 = .ok (.istore 4, 2) := by decide +kernel
theorem dX2_findTwos_5 : decode cX2_findTwos 5 = .ok (.iload 4, 2) := by decide +kernel
theorem dX2_findTwos_7 : decode cX2_findTwos 7 = .ok (.aload_n 0, 1) := by decide +kernel
theorem dX2_findTwos_8 : decode cX2_findTwos 8 = .ok (.getfield 24, 3) := by decide +kernel
theorem dX2_findTwos_11 : decode cX2_findTwos 11 = .ok (.if_icmp .ge 71, 3) := by decide +kernel
theorem dX2_findTwos_14 : decode cX2_findTwos 14 = .ok (.iload 4, 2) := by decide +kernel
theorem dX2_findTwos_16 : decode cX2_findTwos 16 = .ok (.iconst 1, 1) := by decide +kernel
theorem dX2_findTwos_17 : decode cX2_findTwos 17 = .ok (.iadd, 1) := by decide +kernel
theorem dX2_findTwos_18 : decode cX2_findTwos 18 = .ok (.istore 5, 2) := by decide +kernel
theorem dX2_findTwos_20 : decode cX2_findTwos 20 = .ok (.iload 5, 2) := by decide +kernel
theorem dX2_findTwos_22 : decode cX2_findTwos 22 = .ok (.aload_n 0, 1) := by decide +kernel
theorem dX2_findTwos_23 : decode cX2_findTwos 23 = .ok (.getfield 24, 3) := by decide +kernel
theorem dX2_findTwos_26 : decode cX2_findTwos 26 = .ok (.if_icmp .ge 50, 3) := by decide +kernel
theorem dX2_findTwos_29 : decode cX2_findTwos 29 = .ok (.aload_n 1, 1) := by decide +kernel
theorem dX2_findTwos_30 : decode cX2_findTwos 30 = .ok (.iload_n 2, 1) := by decide +kernel
theorem dX2_findTwos_31 : decode cX2_findTwos 31 = .ok (.iload 4, 2) := by decide +kernel
theorem dX2_findTwos_33 : decode cX2_findTwos 33 = .ok (.iload 5, 2) := by decide +kernel
theorem dX2_findTwos_35 : decode cX2_findTwos 35 = .ok (.invokevirtual 64, 3) := by decide +kernel
theorem dX2_findTwos_38 : decode cX2_findTwos 38 = .ok (.ifCond .ne 32, 3) := by decide +kernel
theorem dX2_findTwos_41 : decode cX2_findTwos 41 = .ok (.iload_n 3, 1) := by decide +kernel
theorem dX2_findTwos_42 : decode cX2_findTwos 42 = .ok (.bipush 36, 2) := by decide +kernel
theorem dX2_findTwos_44 : decode cX2_findTwos 44 = .ok (.if_icmp .ge 26, 3) := by decide +kernel
theorem dX2_findTwos_47 : decode cX2_findTwos 47 = .ok (.aload_n 0, 1) := by decide +kernel
theorem dX2_findTwos_48 : decode cX2_findTwos 48 = .ok (.getfield 11, 3) := by decide +kernel
theorem dX2_findTwos_51 : decode cX2_findTwos 51 = .ok (.iload_n 2, 1) := by decide +kernel
theorem dX2_findTwos_52 : decode cX2_findTwos 52 = .ok (.bipush 36, 2) := by decide +kernel
theorem dX2_findTwos_54 : decode cX2_findTwos 54 = .ok (.imul, 1) := by decide +kernel
theorem dX2_findTwos_55 : decode cX2_findTwos 55 = .ok (.iload_n 3, 1) := by decide +kernel
theorem dX2_findTwos_56 : decode cX2_findTwos 56 = .ok (.iadd, 1) := by decide +kernel
theorem dX2_findTwos_57 : decode cX2_findTwos 57 = .ok (.iconst 1, 1) := by decide +kernel
theorem dX2_findTwos_58 : decode cX2_findTwos 58 = .ok (.iload 4, 2) := by decide +kernel
theorem dX2_findTwos_60 : decode cX2_findTwos 60 = .ok (.ishl, 1) := by decide +kernel
theorem dX2_findTwos_61 : decode cX2_findTwos 61 = .ok (.iconst 1, 1) := by decide +kernel
theorem dX2_findTwos_62 : decode cX2_findTwos 62 = .ok (.iload 5, 2) := by decide +kernel
theorem dX2_findTwos_64 : decode cX2_findTwos 64 = .ok (.ishl, 1) := by decide +kernel
theorem dX2_findTwos_65 : decode cX2_findTwos 65 = .ok (.ior, 1) := by decide +kernel
theorem dX2_findTwos_66 : decode cX2_findTwos 66 = .ok (.iastore, 1) := by decide +kernel
theorem dX2_findTwos_67 : decode cX2_findTwos 67 = .ok (.iinc 3 1, 3) := by decide +kernel
theorem dX2_findTwos_70 : decode cX2_findTwos 70 = .ok (.iinc 5 1, 3) := by decide +kernel
theorem dX2_findTwos_73 : decode cX2_findTwos 73 = .ok (.goto (-53), 3) := by decide +kernel
theorem dX2_findTwos_76 : decode cX2_findTwos 76 = .ok (.iinc 4 1, 3) := by decide +kernel
theorem dX2_findTwos_79 : decode cX2_findTwos 79 = .ok (.goto (-74), 3) := by decide +kernel
theorem dX2_findTwos_82 : decode cX2_findTwos 82 = .ok (.aload_n 0, 1) := by decide +kernel
theorem dX2_findTwos_83 : decode cX2_findTwos 83 = .ok (.getfield 15, 3) := by decide +kernel
theorem dX2_findTwos_86 : decode cX2_findTwos 86 = .ok (.iload_n 2, 1) := by decide +kernel
theorem dX2_findTwos_87 : decode cX2_findTwos 87 = .ok (.iload_n 3, 1) := by decide +kernel
theorem dX2_findTwos_88 : decode cX2_findTwos 88 = .ok (.iastore, 1) := by decide +kernel
theorem dX2_findTwos_89 : decode cX2_findTwos 89 = .ok (.return_, 1) := by decide +kernel
theorem dX2_offer_0 : decode cX2_offer 0 = .ok (.aload_n 0, 1) := by decide +kernel
theorem dX2_offer_1 : decode cX2_offer 1 = .ok (.getfield 28, 3) := by decide +kernel
theorem dX2_offer_4 : decode cX2_offer 4 = .ok (.getfield 68, 3) := by decide +kernel
theorem dX2_offer_7 : decode cX2_offer 7 = .ok (.iload_n 1, 1) := by decide +kernel
theorem dX2_offer_8 : decode cX2_offer 8 = .ok (.iaload, 1) := by decide +kernel
theorem dX2_offer_9 : decode cX2_offer 9 = .ok (.sipush 1024, 3) := by decide +kernel
theorem dX2_offer_12 : decode cX2_offer 12 = .ok (.imul, 1) := by decide +kernel
theorem dX2_offer_13 : decode cX2_offer 13 = .ok (.iconst 1, 1) := by decide +kernel
theorem dX2_offer_14 : decode cX2_offer 14 = .ok (.iload_n 1, 1) := by decide +kernel
theorem dX2_offer_15 : decode cX2_offer 15 = .ok (.ishl, 1) := by decide +kernel
theorem dX2_offer_16 : decode cX2_offer 16 = .ok (.isub, 1) := by decide +kernel
theorem dX2_offer_17 : decode cX2_offer 17 = .ok (.istore_n 2, 1) := by decide +kernel
theorem dX2_offer_18 : decode cX2_offer 18 = .ok (.iload_n 1, 1) := by decide +kernel
theorem dX2_offer_19 : decode cX2_offer 19 = .ok (.bipush 36, 2) := by decide +kernel
theorem dX2_offer_21 : decode cX2_offer 21 = .ok (.imul, 1) := by decide +kernel
theorem dX2_offer_22 : decode cX2_offer 22 = .ok (.istore_n 3, 1) := by decide +kernel
theorem dX2_offer_23 : decode cX2_offer 23 = .ok (.iload_n 3, 1) := by decide +kernel
theorem dX2_offer_24 : decode cX2_offer 24 = .ok (.aload_n 0, 1) := by decide +kernel
theorem dX2_offer_25 : decode cX2_offer 25 = .ok (.getfield 15, 3) := by decide +kernel
theorem dX2_offer_28 : decode cX2_offer 28 = .ok (.iload_n 1, 1) := by decide +kernel
theorem dX2_offer_29 : decode cX2_offer 29 = .ok (.iaload, 1) := by decide +kernel
theorem dX2_offer_30 : decode cX2_offer 30 = .ok (.iadd, 1) := by decide +kernel
theorem dX2_offer_31 : decode cX2_offer 31 = .ok (.istore 4, 2) := by decide +kernel
theorem dX2_offer_33 : decode cX2_offer 33 = .ok (.iload 4, 2) := by decide +kernel
theorem dX2_offer_35 : decode cX2_offer 35 = .ok (.iload_n 3, 1) := by decide +kernel
theorem dX2_offer_36 : decode cX2_offer 36 = .ok (.if_icmp .le 14, 3) := by decide +kernel
theorem dX2_offer_39 : decode cX2_offer 39 = .ok (.iconst 1, 1) := by decide +kernel
theorem dX2_offer_40 : decode cX2_offer 40 = .ok (.aload_n 0, 1) := by decide +kernel
theorem dX2_offer_41 : decode cX2_offer 41 = .ok (.getfield 24, 3) := by decide +kernel
theorem dX2_offer_44 : decode cX2_offer 44 = .ok (.ishl, 1) := by decide +kernel
theorem dX2_offer_45 : decode cX2_offer 45 = .ok (.iconst 1, 1) := by decide +kernel
theorem dX2_offer_46 : decode cX2_offer 46 = .ok (.isub, 1) := by decide +kernel
theorem dX2_offer_47 : decode cX2_offer 47 = .ok (.goto 4, 3) := by decide +kernel
theorem dX2_offer_50 : decode cX2_offer 50 = .ok (.iconst 0, 1) := by decide +kernel
theorem dX2_offer_51 : decode cX2_offer 51 = .ok (.istore 5, 2) := by decide +kernel
theorem dX2_offer_53 : decode cX2_offer 53 = .ok (.iload 5, 2) := by decide +kernel
theorem dX2_offer_55 : decode cX2_offer 55 = .ok (.ifCond .le 93, 3) := by decide +kernel
theorem dX2_offer_58 : decode cX2_offer 58 = .ok (.aload_n 0, 1) := by decide +kernel
theorem dX2_offer_59 : decode cX2_offer 59 = .ok (.getfield 18, 3) := by decide +kernel
theorem dX2_offer_62 : decode cX2_offer 62 = .ok (.iload 5, 2) := by decide +kernel
theorem dX2_offer_64 : decode cX2_offer 64 = .ok (.iaload, 1) := by decide +kernel
theorem dX2_offer_65 : decode cX2_offer 65 = .ok (.istore 6, 2) := by decide +kernel
theorem dX2_offer_67 : decode cX2_offer 67 = .ok (.iload_n 3, 1) := by decide +kernel
theorem dX2_offer_68 : decode cX2_offer 68 = .ok (.istore 7, 2) := by decide +kernel
theorem dX2_offer_70 : decode cX2_offer 70 = .ok (.iload 7, 2) := by decide +kernel
theorem dX2_offer_72 : decode cX2_offer 72 = .ok (.iload 4, 2) := by decide +kernel
theorem dX2_offer_74 : decode cX2_offer 74 = .ok (.if_icmp .ge 59, 3) := by decide +kernel
theorem dX2_offer_77 : decode cX2_offer 77 = .ok (.aload_n 0, 1) := by decide +kernel
theorem dX2_offer_78 : decode cX2_offer 78 = .ok (.getfield 11, 3) := by decide +kernel
theorem dX2_offer_81 : decode cX2_offer 81 = .ok (.iload 7, 2) := by decide +kernel
theorem dX2_offer_83 : decode cX2_offer 83 = .ok (.iaload, 1) := by decide +kernel
theorem dX2_offer_84 : decode cX2_offer 84 = .ok (.istore 8, 2) := by decide +kernel
theorem dX2_offer_86 : decode cX2_offer 86 = .ok (.iload 5, 2) := by decide +kernel
theorem dX2_offer_88 : decode cX2_offer 88 = .ok (.iload 8, 2) := by decide +kernel
theorem dX2_offer_90 : decode cX2_offer 90 = .ok (.iand, 1) := by decide +kernel
theorem dX2_offer_91 : decode cX2_offer 91 = .ok (.iload 8, 2) := by decide +kernel
theorem dX2_offer_93 : decode cX2_offer 93 = .ok (.if_icmp .ne 34, 3) := by decide +kernel
theorem dX2_offer_96 : decode cX2_offer 96 = .ok (.aload_n 0, 1) := by decide +kernel
theorem dX2_offer_97 : decode cX2_offer 97 = .ok (.getfield 18, 3) := by decide +kernel
theorem dX2_offer_100 : decode cX2_offer 100 = .ok (.iload 5, 2) := by decide +kernel
theorem dX2_offer_102 : decode cX2_offer 102 = .ok (.iload 8, 2) := by decide +kernel
theorem dX2_offer_104 : decode cX2_offer 104 = .ok (.ixor, 1) := by decide +kernel
theorem dX2_offer_105 : decode cX2_offer 105 = .ok (.iaload, 1) := by decide +kernel
theorem dX2_offer_106 : decode cX2_offer 106 = .ok (.iload_n 2, 1) := by decide +kernel
theorem dX2_offer_107 : decode cX2_offer 107 = .ok (.iadd, 1) := by decide +kernel
theorem dX2_offer_108 : decode cX2_offer 108 = .ok (.iload 6, 2) := by decide +kernel
theorem dX2_offer_110 : decode cX2_offer 110 = .ok (.if_icmp .le 17, 3) := by decide +kernel
theorem dX2_offer_113 : decode cX2_offer 113 = .ok (.aload_n 0, 1) := by decide +kernel
theorem dX2_offer_114 : decode cX2_offer 114 = .ok (.getfield 18, 3) := by decide +kernel
theorem dX2_offer_117 : decode cX2_offer 117 = .ok (.iload 5, 2) := by decide +kernel
theorem dX2_offer_119 : decode cX2_offer 119 = .ok (.iload 8, 2) := by decide +kernel
theorem dX2_offer_121 : decode cX2_offer 121 = .ok (.ixor, 1) := by decide +kernel
theorem dX2_offer_122 : decode cX2_offer 122 = .ok (.iaload, 1) := by decide +kernel
theorem dX2_offer_123 : decode cX2_offer 123 = .ok (.iload_n 2, 1) := by decide +kernel
theorem dX2_offer_124 : decode cX2_offer 124 = .ok (.iadd, 1) := by decide +kernel
theorem dX2_offer_125 : decode cX2_offer 125 = .ok (.istore 6, 2) := by decide +kernel
theorem dX2_offer_127 : decode cX2_offer 127 = .ok (.iinc 7 1, 3) := by decide +kernel
theorem dX2_offer_130 : decode cX2_offer 130 = .ok (.goto (-60), 3) := by decide +kernel
theorem dX2_offer_133 : decode cX2_offer 133 = .ok (.aload_n 0, 1) := by decide +kernel
theorem dX2_offer_134 : decode cX2_offer 134 = .ok (.getfield 18, 3) := by decide +kernel
theorem dX2_offer_137 : decode cX2_offer 137 = .ok (.iload 5, 2) := by decide +kernel
theorem dX2_offer_139 : decode cX2_offer 139 = .ok (.iload 6, 2) := by decide +kernel
theorem dX2_offer_141 : decode cX2_offer 141 = .ok (.iastore, 1) := by decide +kernel
theorem dX2_offer_142 : decode cX2_offer 142 = .ok (.iinc 5 (-1), 3) := by decide +kernel
theorem dX2_offer_145 : decode cX2_offer 145 = .ok (.goto (-92), 3) := by decide +kernel
theorem dX2_offer_148 : decode cX2_offer 148 = .ok (.return_, 1) := by decide +kernel
theorem dX2_make_0 : decode cX2_make 0 = .ok (.aload_n 0, 1) := by decide +kernel
theorem dX2_make_1 : decode cX2_make 1 = .ok (.aload_n 1, 1) := by decide +kernel
theorem dX2_make_2 : decode cX2_make 2 = .ok (.getfield 32, 3) := by decide +kernel
theorem dX2_make_5 : decode cX2_make 5 = .ok (.putfield 24, 3) := by decide +kernel
theorem dX2_make_8 : decode cX2_make 8 = .ok (.aload_n 0, 1) := by decide +kernel
theorem dX2_make_9 : decode cX2_make 9 = .ok (.getfield 15, 3) := by decide +kernel
theorem dX2_make_12 : decode cX2_make 12 = .ok (.iconst 0, 1) := by decide +kernel
theorem dX2_make_13 : decode cX2_make 13 = .ok (.invokestatic 35, 3) := by decide +kernel
theorem dX2_make_16 : decode cX2_make 16 = .ok (.aload_n 0, 1) := by decide +kernel
theorem dX2_make_17 : decode cX2_make 17 = .ok (.getfield 18, 3) := by decide +kernel
theorem dX2_make_20 : decode cX2_make 20 = .ok (.iconst 0, 1) := by decide +kernel
theorem dX2_make_21 : decode cX2_make 21 = .ok (.iconst 1, 1) := by decide +kernel
theorem dX2_make_22 : decode cX2_make 22 = .ok (.aload_n 0, 1) := by decide +kernel
theorem dX2_make_23 : decode cX2_make 23 = .ok (.getfield 24, 3) := by decide +kernel
theorem dX2_make_26 : decode cX2_make 26 = .ok (.ishl, 1) := by decide +kernel
theorem dX2_make_27 : decode cX2_make 27 = .ok (.iconst 0, 1) := by decide +kernel
theorem dX2_make_28 : decode cX2_make 28 = .ok (.invokestatic 41, 3) := by decide +kernel
theorem dX2_make_31 : decode cX2_make 31 = .ok (.iconst 0, 1) := by decide +kernel
theorem dX2_make_32 : decode cX2_make 32 = .ok (.istore_n 2, 1) := by decide +kernel
theorem dX2_make_33 : decode cX2_make 33 = .ok (.iload_n 2, 1) := by decide +kernel
theorem dX2_make_34 : decode cX2_make 34 = .ok (.aload_n 0, 1) := by decide +kernel
theorem dX2_make_35 : decode cX2_make 35 = .ok (.getfield 28, 3) := by decide +kernel
theorem dX2_make_38 : decode cX2_make 38 = .ok (.getfield 44, 3) := by decide +kernel
theorem dX2_make_41 : decode cX2_make 41 = .ok (.if_icmp .ge 36, 3) := by decide +kernel
theorem dX2_make_44 : decode cX2_make 44 = .ok (.aload_n 1, 1) := by decide +kernel
theorem dX2_make_45 : decode cX2_make 45 = .ok (.iload_n 2, 1) := by decide +kernel
theorem dX2_make_46 : decode cX2_make 46 = .ok (.invokevirtual 49, 3) := by decide +kernel
theorem dX2_make_49 : decode cX2_make 49 = .ok (.ifCond .ne 22, 3) := by decide +kernel
theorem dX2_make_52 : decode cX2_make 52 = .ok (.aload_n 1, 1) := by decide +kernel
theorem dX2_make_53 : decode cX2_make 53 = .ok (.iload_n 2, 1) := by decide +kernel
theorem dX2_make_54 : decode cX2_make 54 = .ok (.invokevirtual 53, 3) := by decide +kernel
theorem dX2_make_57 : decode cX2_make 57 = .ok (.ifCond .ne 14, 3) := by decide +kernel
theorem dX2_make_60 : decode cX2_make 60 = .ok (.aload_n 0, 1) := by decide +kernel
theorem dX2_make_61 : decode cX2_make 61 = .ok (.aload_n 1, 1) := by decide +kernel
theorem dX2_make_62 : decode cX2_make 62 = .ok (.iload_n 2, 1) := by decide +kernel
theorem dX2_make_63 : decode cX2_make 63 = .ok (.invokevirtual 56, 3) := by decide +kernel
theorem dX2_make_66 : decode cX2_make 66 = .ok (.aload_n 0, 1) := by decide +kernel
theorem dX2_make_67 : decode cX2_make 67 = .ok (.iload_n 2, 1) := by decide +kernel
theorem dX2_make_68 : decode cX2_make 68 = .ok (.invokevirtual 60, 3) := by decide +kernel
theorem dX2_make_71 : decode cX2_make 71 = .ok (.iinc 2 1, 3) := by decide +kernel
theorem dX2_make_74 : decode cX2_make 74 = .ok (.goto (-41), 3) := by decide +kernel
theorem dX2_make_77 : decode cX2_make 77 = .ok (.return_, 1) := by decide +kernel
theorem dX2_worthIn_0 : decode cX2_worthIn 0 = .ok (.iload_n 0, 1) := by decide +kernel
theorem dX2_worthIn_1 : decode cX2_worthIn 1 = .ok (.sipush 1024, 3) := by decide +kernel
theorem dX2_worthIn_4 : decode cX2_worthIn 4 = .ok (.iadd, 1) := by decide +kernel
theorem dX2_worthIn_5 : decode cX2_worthIn 5 = .ok (.iconst 1, 1) := by decide +kernel
theorem dX2_worthIn_6 : decode cX2_worthIn 6 = .ok (.isub, 1) := by decide +kernel
theorem dX2_worthIn_7 : decode cX2_worthIn 7 = .ok (.sipush 1024, 3) := by decide +kernel
theorem dX2_worthIn_10 : decode cX2_worthIn 10 = .ok (.idiv, 1) := by decide +kernel
theorem dX2_worthIn_11 : decode cX2_worthIn 11 = .ok (.ireturn, 1) := by decide +kernel
theorem dX2_worthAtMost_0 : decode cX2_worthAtMost 0 = .ok (.aload_n 0, 1) := by decide +kernel
theorem dX2_worthAtMost_1 : decode cX2_worthAtMost 1 = .ok (.getfield 18, 3) := by decide +kernel
theorem dX2_worthAtMost_4 : decode cX2_worthAtMost 4 = .ok (.iconst 1, 1) := by decide +kernel
theorem dX2_worthAtMost_5 : decode cX2_worthAtMost 5 = .ok (.aload_n 0, 1) := by decide +kernel
theorem dX2_worthAtMost_6 : decode cX2_worthAtMost 6 = .ok (.getfield 24, 3) := by decide +kernel
theorem dX2_worthAtMost_9 : decode cX2_worthAtMost 9 = .ok (.ishl, 1) := by decide +kernel
theorem dX2_worthAtMost_10 : decode cX2_worthAtMost 10 = .ok (.iconst 1, 1) := by decide +kernel
theorem dX2_worthAtMost_11 : decode cX2_worthAtMost 11 = .ok (.isub, 1) := by decide +kernel
theorem dX2_worthAtMost_12 : decode cX2_worthAtMost 12 = .ok (.iaload, 1) := by decide +kernel
theorem dX2_worthAtMost_13 : decode cX2_worthAtMost 13 = .ok (.invokestatic 71, 3) := by decide +kernel
theorem dX2_worthAtMost_16 : decode cX2_worthAtMost 16 = .ok (.ireturn, 1) := by decide +kernel
theorem dX2_doorsAtMost_0 : decode cX2_doorsAtMost 0 = .ok (.aload_n 0, 1) := by decide +kernel
theorem dX2_doorsAtMost_1 : decode cX2_doorsAtMost 1 = .ok (.invokevirtual 75, 3) := by decide +kernel
theorem dX2_doorsAtMost_4 : decode cX2_doorsAtMost 4 = .ok (.sipush 1024, 3) := by decide +kernel
theorem dX2_doorsAtMost_7 : decode cX2_doorsAtMost 7 = .ok (.imul, 1) := by decide +kernel
theorem dX2_doorsAtMost_8 : decode cX2_doorsAtMost 8 = .ok (.aload_n 0, 1) := by decide +kernel
theorem dX2_doorsAtMost_9 : decode cX2_doorsAtMost 9 = .ok (.getfield 18, 3) := by decide +kernel
theorem dX2_doorsAtMost_12 : decode cX2_doorsAtMost 12 = .ok (.iconst 1, 1) := by decide +kernel
theorem dX2_doorsAtMost_13 : decode cX2_doorsAtMost 13 = .ok (.aload_n 0, 1) := by decide +kernel
theorem dX2_doorsAtMost_14 : decode cX2_doorsAtMost 14 = .ok (.getfield 24, 3) := by decide +kernel
theorem dX2_doorsAtMost_17 : decode cX2_doorsAtMost 17 = .ok (.ishl, 1) := by decide +kernel
theorem dX2_doorsAtMost_18 : decode cX2_doorsAtMost 18 = .ok (.iconst 1, 1) := by decide +kernel
theorem dX2_doorsAtMost_19 : decode cX2_doorsAtMost 19 = .ok (.isub, 1) := by decide +kernel
theorem dX2_doorsAtMost_20 : decode cX2_doorsAtMost 20 = .ok (.iaload, 1) := by decide +kernel
theorem dX2_doorsAtMost_21 : decode cX2_doorsAtMost 21 = .ok (.isub, 1) := by decide +kernel
theorem dX2_doorsAtMost_22 : decode cX2_doorsAtMost 22 = .ok (.ireturn, 1) := by decide +kernel
theorem dX2_asPair_0 : decode cX2_asPair 0 = .ok (.iload_n 0, 1) := by decide +kernel
theorem dX2_asPair_1 : decode cX2_asPair 1 = .ok (.iload_n 0, 1) := by decide +kernel
theorem dX2_asPair_2 : decode cX2_asPair 2 = .ok (.iconst 1, 1) := by decide +kernel
theorem dX2_asPair_3 : decode cX2_asPair 3 = .ok (.isub, 1) := by decide +kernel
theorem dX2_asPair_4 : decode cX2_asPair 4 = .ok (.iand, 1) := by decide +kernel
theorem dX2_asPair_5 : decode cX2_asPair 5 = .ok (.istore_n 1, 1) := by decide +kernel
theorem dX2_asPair_6 : decode cX2_asPair 6 = .ok (.bipush 10, 2) := by decide +kernel
theorem dX2_asPair_8 : decode cX2_asPair 8 = .ok (.iload_n 0, 1) := by decide +kernel
theorem dX2_asPair_9 : decode cX2_asPair 9 = .ok (.invokestatic 94, 3) := by decide +kernel
theorem dX2_asPair_12 : decode cX2_asPair 12 = .ok (.imul, 1) := by decide +kernel
theorem dX2_asPair_13 : decode cX2_asPair 13 = .ok (.iload_n 1, 1) := by decide +kernel
theorem dX2_asPair_14 : decode cX2_asPair 14 = .ok (.invokestatic 94, 3) := by decide +kernel
theorem dX2_asPair_17 : decode cX2_asPair 17 = .ok (.iadd, 1) := by decide +kernel
theorem dX2_asPair_18 : decode cX2_asPair 18 = .ok (.ireturn, 1) := by decide +kernel
theorem dX2_seat_0 : decode cX2_seat 0 = .ok (.iload_n 3, 1) := by decide +kernel
theorem dX2_seat_1 : decode cX2_seat 1 = .ok (.aload_n 0, 1) := by decide +kernel
theorem dX2_seat_2 : decode cX2_seat 2 = .ok (.getfield 28, 3) := by decide +kernel
theorem dX2_seat_5 : decode cX2_seat 5 = .ok (.getfield 44, 3) := by decide +kernel
theorem dX2_seat_8 : decode cX2_seat 8 = .ok (.if_icmp .lt 5, 3) := by decide +kernel
theorem dX2_seat_11 : decode cX2_seat 11 = .ok (.iconst 1, 1) := by decide +kernel
theorem dX2_seat_12 : decode cX2_seat 12 = .ok (.ireturn, 1) := by decide +kernel
theorem dX2_seat_13 : decode cX2_seat 13 = .ok (.iload_n 1, 1) := by decide +kernel
theorem dX2_seat_14 : decode cX2_seat 14 = .ok (.iload_n 3, 1) := by decide +kernel
theorem dX2_seat_15 : decode cX2_seat 15 = .ok (.ishr, 1) := by decide +kernel
theorem dX2_seat_16 : decode cX2_seat 16 = .ok (.iconst 1, 1) := by decide +kernel
theorem dX2_seat_17 : decode cX2_seat 17 = .ok (.iand, 1) := by decide +kernel
theorem dX2_seat_18 : decode cX2_seat 18 = .ok (.ifCond .ne 13, 3) := by decide +kernel
theorem dX2_seat_21 : decode cX2_seat 21 = .ok (.aload_n 0, 1) := by decide +kernel
theorem dX2_seat_22 : decode cX2_seat 22 = .ok (.iload_n 1, 1) := by decide +kernel
theorem dX2_seat_23 : decode cX2_seat 23 = .ok (.iload_n 2, 1) := by decide +kernel
theorem dX2_seat_24 : decode cX2_seat 24 = .ok (.iload_n 3, 1) := by decide +kernel
theorem dX2_seat_25 : decode cX2_seat 25 = .ok (.iconst 1, 1) := by decide +kernel
theorem dX2_seat_26 : decode cX2_seat 26 = .ok (.iadd, 1) := by decide +kernel
theorem dX2_seat_27 : decode cX2_seat 27 = .ok (.invokestatic 87, 3) := by decide +kernel
theorem dX2_seat_30 : decode cX2_seat 30 = .ok (.ireturn, 1) := by decide +kernel
theorem dX2_seat_31 : decode cX2_seat 31 = .ok (.iconst 0, 1) := by decide +kernel
theorem dX2_seat_32 : decode cX2_seat 32 = .ok (.istore 4, 2) := by decide +kernel
theorem dX2_seat_34 : decode cX2_seat 34 = .ok (.iload 4, 2) := by decide +kernel
theorem dX2_seat_36 : decode cX2_seat 36 = .ok (.aload_n 0, 1) := by decide +kernel
theorem dX2_seat_37 : decode cX2_seat 37 = .ok (.getfield 15, 3) := by decide +kernel
theorem dX2_seat_40 : decode cX2_seat 40 = .ok (.iload_n 3, 1) := by decide +kernel
theorem dX2_seat_41 : decode cX2_seat 41 = .ok (.iaload, 1) := by decide +kernel
theorem dX2_seat_42 : decode cX2_seat 42 = .ok (.if_icmp .ge 60, 3) := by decide +kernel
theorem dX2_seat_45 : decode cX2_seat 45 = .ok (.aload_n 0, 1) := by decide +kernel
theorem dX2_seat_46 : decode cX2_seat 46 = .ok (.getfield 11, 3) := by decide +kernel
theorem dX2_seat_49 : decode cX2_seat 49 = .ok (.iload_n 3, 1) := by decide +kernel
theorem dX2_seat_50 : decode cX2_seat 50 = .ok (.bipush 36, 2) := by decide +kernel
theorem dX2_seat_52 : decode cX2_seat 52 = .ok (.imul, 1) := by decide +kernel
theorem dX2_seat_53 : decode cX2_seat 53 = .ok (.iload 4, 2) := by decide +kernel
theorem dX2_seat_55 : decode cX2_seat 55 = .ok (.iadd, 1) := by decide +kernel
theorem dX2_seat_56 : decode cX2_seat 56 = .ok (.iaload, 1) := by decide +kernel
theorem dX2_seat_57 : decode cX2_seat 57 = .ok (.istore 5, 2) := by decide +kernel
theorem dX2_seat_59 : decode cX2_seat 59 = .ok (.iload_n 2, 1) := by decide +kernel
theorem dX2_seat_60 : decode cX2_seat 60 = .ok (.iload 5, 2) := by decide +kernel
theorem dX2_seat_62 : decode cX2_seat 62 = .ok (.iand, 1) := by decide +kernel
theorem dX2_seat_63 : decode cX2_seat 63 = .ok (.iload 5, 2) := by decide +kernel
theorem dX2_seat_65 : decode cX2_seat 65 = .ok (.if_icmp .ne 31, 3) := by decide +kernel
theorem dX2_seat_68 : decode cX2_seat 68 = .ok (.aload_n 0, 1) := by decide +kernel
theorem dX2_seat_69 : decode cX2_seat 69 = .ok (.iload_n 1, 1) := by decide +kernel
theorem dX2_seat_70 : decode cX2_seat 70 = .ok (.iload_n 2, 1) := by decide +kernel
theorem dX2_seat_71 : decode cX2_seat 71 = .ok (.iload 5, 2) := by decide +kernel
theorem dX2_seat_73 : decode cX2_seat 73 = .ok (.ixor, 1) := by decide +kernel
theorem dX2_seat_74 : decode cX2_seat 74 = .ok (.iload_n 3, 1) := by decide +kernel
theorem dX2_seat_75 : decode cX2_seat 75 = .ok (.iconst 1, 1) := by decide +kernel
theorem dX2_seat_76 : decode cX2_seat 76 = .ok (.iadd, 1) := by decide +kernel
theorem dX2_seat_77 : decode cX2_seat 77 = .ok (.invokestatic 87, 3) := by decide +kernel
theorem dX2_seat_80 : decode cX2_seat 80 = .ok (.ifCond .eq 16, 3) := by decide +kernel
theorem dX2_seat_83 : decode cX2_seat 83 = .ok (.aload_n 0, 1) := by decide +kernel
theorem dX2_seat_84 : decode cX2_seat 84 = .ok (.getfield 21, 3) := by decide +kernel
theorem dX2_seat_87 : decode cX2_seat 87 = .ok (.iload_n 3, 1) := by decide +kernel
theorem dX2_seat_88 : decode cX2_seat 88 = .ok (.iload 5, 2) := by decide +kernel
theorem dX2_seat_90 : decode cX2_seat 90 = .ok (.invokestatic 91, 3) := by decide +kernel
theorem dX2_seat_93 : decode cX2_seat 93 = .ok (.iastore, 1) := by decide +kernel
theorem dX2_seat_94 : decode cX2_seat 94 = .ok (.iconst 1, 1) := by decide +kernel
theorem dX2_seat_95 : decode cX2_seat 95 = .ok (.ireturn, 1) := by decide +kernel
theorem dX2_seat_96 : decode cX2_seat 96 = .ok (.iinc 4 1, 3) := by decide +kernel
theorem dX2_seat_99 : decode cX2_seat 99 = .ok (.goto (-65), 3) := by decide +kernel
theorem dX2_seat_102 : decode cX2_seat 102 = .ok (.iconst 0, 1) := by decide +kernel
theorem dX2_seat_103 : decode cX2_seat 103 = .ok (.ireturn, 1) := by decide +kernel
theorem dX2_seatedAt_0 : decode cX2_seatedAt 0 = .ok (.aload_n 0, 1) := by decide +kernel
theorem dX2_seatedAt_1 : decode cX2_seatedAt 1 = .ok (.getfield 21, 3) := by decide +kernel
theorem dX2_seatedAt_4 : decode cX2_seatedAt 4 = .ok (.iconst (-1), 1) := by decide +kernel
theorem dX2_seatedAt_5 : decode cX2_seatedAt 5 = .ok (.invokestatic 35, 3) := by decide +kernel
theorem dX2_seatedAt_8 : decode cX2_seatedAt 8 = .ok (.aload_n 0, 1) := by decide +kernel
theorem dX2_seatedAt_9 : decode cX2_seatedAt 9 = .ok (.aload_n 0, 1) := by decide +kernel
theorem dX2_seatedAt_10 : decode cX2_seatedAt 10 = .ok (.invokevirtual 84, 3) := by decide +kernel
theorem dX2_seatedAt_13 : decode cX2_seatedAt 13 = .ok (.iconst 1, 1) := by decide +kernel
theorem dX2_seatedAt_14 : decode cX2_seatedAt 14 = .ok (.aload_n 0, 1) := by decide +kernel
theorem dX2_seatedAt_15 : decode cX2_seatedAt 15 = .ok (.getfield 24, 3) := by decide +kernel
theorem dX2_seatedAt_18 : decode cX2_seatedAt 18 = .ok (.ishl, 1) := by decide +kernel
theorem dX2_seatedAt_19 : decode cX2_seatedAt 19 = .ok (.iconst 1, 1) := by decide +kernel
theorem dX2_seatedAt_20 : decode cX2_seatedAt 20 = .ok (.isub, 1) := by decide +kernel
theorem dX2_seatedAt_21 : decode cX2_seatedAt 21 = .ok (.iconst 0, 1) := by decide +kernel
theorem dX2_seatedAt_22 : decode cX2_seatedAt 22 = .ok (.invokestatic 87, 3) := by decide +kernel
theorem dX2_seatedAt_25 : decode cX2_seatedAt 25 = .ok (.pop, 1) := by decide +kernel
theorem dX2_seatedAt_26 : decode cX2_seatedAt 26 = .ok (.aload_n 0, 1) := by decide +kernel
theorem dX2_seatedAt_27 : decode cX2_seatedAt 27 = .ok (.getfield 21, 3) := by decide +kernel
theorem dX2_seatedAt_30 : decode cX2_seatedAt 30 = .ok (.iload_n 1, 1) := by decide +kernel
theorem dX2_seatedAt_31 : decode cX2_seatedAt 31 = .ok (.iaload, 1) := by decide +kernel
theorem dX2_seatedAt_32 : decode cX2_seatedAt 32 = .ok (.ireturn, 1) := by decide +kernel
theorem dX2_greatestWorths_0 : decode cX2_greatestWorths 0 = .ok (.iconst 0, 1) := by decide +kernel
theorem dX2_greatestWorths_1 : decode cX2_greatestWorths 1 = .ok (.istore_n 2, 1) := by decide +kernel
theorem dX2_greatestWorths_2 : decode cX2_greatestWorths 2 = .ok (.iconst 0, 1) := by decide +kernel
theorem dX2_greatestWorths_3 : decode cX2_greatestWorths 3 = .ok (.istore_n 3, 1) := by decide +kernel
theorem dX2_greatestWorths_4 : decode cX2_greatestWorths 4 = .ok (.iconst 0, 1) := by decide +kernel
theorem dX2_greatestWorths_5 : decode cX2_greatestWorths 5 = .ok (.istore 4, 2) := by decide +kernel
theorem dX2_greatestWorths_7 : decode cX2_greatestWorths 7 = .ok (.iload 4, 2) := by decide +kernel
theorem dX2_greatestWorths_9 : decode cX2_greatestWorths 9 = .ok (.iload_n 1, 1) := by decide +kernel
theorem dX2_greatestWorths_10 : decode cX2_greatestWorths 10 = .ok (.if_icmp .ge 123, 3) := by decide +kernel
theorem dX2_greatestWorths_13 : decode cX2_greatestWorths 13 = .ok (.iconst (-1), 1) := by decide +kernel
theorem dX2_greatestWorths_14 : decode cX2_greatestWorths 14 = .ok (.istore 5, 2) := by decide +kernel
theorem dX2_greatestWorths_16 : decode cX2_greatestWorths 16 = .ok (.iconst 0, 1) := by decide +kernel
theorem dX2_greatestWorths_17 : decode cX2_greatestWorths 17 = .ok (.istore 6, 2) := by decide +kernel
theorem dX2_greatestWorths_19 : decode cX2_greatestWorths 19 = .ok (.iload 6, 2) := by decide +kernel
theorem dX2_greatestWorths_21 : decode cX2_greatestWorths 21 = .ok (.aload_n 0, 1) := by decide +kernel
theorem dX2_greatestWorths_22 : decode cX2_greatestWorths 22 = .ok (.getfield 28, 3) := by decide +kernel
theorem dX2_greatestWorths_25 : decode cX2_greatestWorths 25 = .ok (.getfield 44, 3) := by decide +kernel
theorem dX2_greatestWorths_28 : decode cX2_greatestWorths 28 = .ok (.if_icmp .ge 73, 3) := by decide +kernel
theorem dX2_greatestWorths_31 : decode cX2_greatestWorths 31 = .ok (.iload_n 2, 1) := by decide +kernel
theorem dX2_greatestWorths_32 : decode cX2_greatestWorths 32 = .ok (.iload 6, 2) := by decide +kernel
theorem dX2_greatestWorths_34 : decode cX2_greatestWorths 34 = .ok (.ishr, 1) := by decide +kernel
theorem dX2_greatestWorths_35 : decode cX2_greatestWorths 35 = .ok (.iconst 1, 1) := by decide +kernel
theorem dX2_greatestWorths_36 : decode cX2_greatestWorths 36 = .ok (.iand, 1) := by decide +kernel
theorem dX2_greatestWorths_37 : decode cX2_greatestWorths 37 = .ok (.ifCond .ne 17, 3) := by decide +kernel
theorem dX2_greatestWorths_40 : decode cX2_greatestWorths 40 = .ok (.aload_n 0, 1) := by decide +kernel
theorem dX2_greatestWorths_41 : decode cX2_greatestWorths 41 = .ok (.getfield 15, 3) := by decide +kernel
theorem dX2_greatestWorths_44 : decode cX2_greatestWorths 44 = .ok (.iload 6, 2) := by decide +kernel
theorem dX2_greatestWorths_46 : decode cX2_greatestWorths 46 = .ok (.iaload, 1) := by decide +kernel
theorem dX2_greatestWorths_47 : decode cX2_greatestWorths 47 = .ok (.ifCond .le 7, 3) := by decide +kernel
theorem dX2_greatestWorths_50 : decode cX2_greatestWorths 50 = .ok (.iconst 1, 1) := by decide +kernel
theorem dX2_greatestWorths_51 : decode cX2_greatestWorths 51 = .ok (.goto 4, 3) := by decide +kernel
theorem dX2_greatestWorths_54 : decode cX2_greatestWorths 54 = .ok (.iconst 0, 1) := by decide +kernel
theorem dX2_greatestWorths_55 : decode cX2_greatestWorths 55 = .ok (.istore 7, 2) := by decide +kernel
theorem dX2_greatestWorths_57 : decode cX2_greatestWorths 57 = .ok (.iload 7, 2) := by decide +kernel
theorem dX2_greatestWorths_59 : decode cX2_greatestWorths 59 = .ok (.ifCond .eq 36, 3) := by decide +kernel
theorem dX2_greatestWorths_62 : decode cX2_greatestWorths 62 = .ok (.iload 5, 2) := by decide +kernel
theorem dX2_greatestWorths_64 : decode cX2_greatestWorths 64 = .ok (.iconst (-1), 1) := by decide +kernel
theorem dX2_greatestWorths_65 : decode cX2_greatestWorths 65 = .ok (.if_icmp .eq 26, 3) := by decide +kernel
theorem dX2_greatestWorths_68 : decode cX2_greatestWorths 68 = .ok (.aload_n 0, 1) := by decide +kernel
theorem dX2_greatestWorths_69 : decode cX2_greatestWorths 69 = .ok (.getfield 28, 3) := by decide +kernel
theorem dX2_greatestWorths_72 : decode cX2_greatestWorths 72 = .ok (.getfield 68, 3) := by decide +kernel
theorem dX2_greatestWorths_75 : decode cX2_greatestWorths 75 = .ok (.iload 6, 2) := by decide +kernel
theorem dX2_greatestWorths_77 : decode cX2_greatestWorths 77 = .ok (.iaload, 1) := by decide +kernel
theorem dX2_greatestWorths_78 : decode cX2_greatestWorths 78 = .ok (.aload_n 0, 1) := by decide +kernel
theorem dX2_greatestWorths_79 : decode cX2_greatestWorths 79 = .ok (.getfield 28, 3) := by decide +kernel
theorem dX2_greatestWorths_82 : decode cX2_greatestWorths 82 = .ok (.getfield 68, 3) := by decide +kernel
theorem dX2_greatestWorths_85 : decode cX2_greatestWorths 85 = .ok (.iload 5, 2) := by decide +kernel
theorem dX2_greatestWorths_87 : decode cX2_greatestWorths 87 = .ok (.iaload, 1) := by decide +kernel
theorem dX2_greatestWorths_88 : decode cX2_greatestWorths 88 = .ok (.if_icmp .le 7, 3) := by decide +kernel
theorem dX2_greatestWorths_91 : decode cX2_greatestWorths 91 = .ok (.iload 6, 2) := by decide +kernel
theorem dX2_greatestWorths_93 : decode cX2_greatestWorths 93 = .ok (.istore 5, 2) := by decide +kernel
theorem dX2_greatestWorths_95 : decode cX2_greatestWorths 95 = .ok (.iinc 6 1, 3) := by decide +kernel
theorem dX2_greatestWorths_98 : decode cX2_greatestWorths 98 = .ok (.goto (-79), 3) := by decide +kernel
theorem dX2_greatestWorths_101 : decode cX2_greatestWorths 101 = .ok (.iload 5, 2) := by decide +kernel
theorem dX2_greatestWorths_103 : decode cX2_greatestWorths 103 = .ok (.iconst (-1), 1) := by decide +kernel
theorem dX2_greatestWorths_104 : decode cX2_greatestWorths 104 = .ok (.if_icmp .eq 23, 3) := by decide +kernel
theorem dX2_greatestWorths_107 : decode cX2_greatestWorths 107 = .ok (.iload_n 2, 1) := by decide +kernel
theorem dX2_greatestWorths_108 : decode cX2_greatestWorths 108 = .ok (.iconst 1, 1) := by decide +kernel
theorem dX2_greatestWorths_109 : decode cX2_greatestWorths 109 = .ok (.iload 5, 2) := by decide +kernel
theorem dX2_greatestWorths_111 : decode cX2_greatestWorths 111 = .ok (.ishl, 1) := by decide +kernel
theorem dX2_greatestWorths_112 : decode cX2_greatestWorths 112 = .ok (.ior, 1) := by decide +kernel
theorem dX2_greatestWorths_113 : decode cX2_greatestWorths 113 = .ok (.istore_n 2, 1) := by decide +kernel
theorem dX2_greatestWorths_114 : decode cX2_greatestWorths 114 = .ok (.iload_n 3, 1) := by decide +kernel
theorem dX2_greatestWorths_115 : decode cX2_greatestWorths 115 = .ok (.aload_n 0, 1) := by decide +kernel
theorem dX2_greatestWorths_116 : decode cX2_greatestWorths 116 = .ok (.getfield 28, 3) := by decide +kernel
theorem dX2_greatestWorths_119 : decode cX2_greatestWorths 119 = .ok (.getfield 68, 3) := by decide +kernel
theorem dX2_greatestWorths_122 : decode cX2_greatestWorths 122 = .ok (.iload 5, 2) := by decide +kernel
theorem dX2_greatestWorths_124 : decode cX2_greatestWorths 124 = .ok (.iaload, 1) := by decide +kernel
theorem dX2_greatestWorths_125 : decode cX2_greatestWorths 125 = .ok (.iadd, 1) := by decide +kernel
theorem dX2_greatestWorths_126 : decode cX2_greatestWorths 126 = .ok (.istore_n 3, 1) := by decide +kernel
theorem dX2_greatestWorths_127 : decode cX2_greatestWorths 127 = .ok (.iinc 4 1, 3) := by decide +kernel
theorem dX2_greatestWorths_130 : decode cX2_greatestWorths 130 = .ok (.goto (-123), 3) := by decide +kernel
theorem dX2_greatestWorths_133 : decode cX2_greatestWorths 133 = .ok (.iload_n 3, 1) := by decide +kernel
theorem dX2_greatestWorths_134 : decode cX2_greatestWorths 134 = .ok (.ireturn, 1) := by decide +kernel
theorem dX2_fewestPersons_0 : decode cX2_fewestPersons 0 = .ok (.iconst 1, 1) := by decide +kernel
theorem dX2_fewestPersons_1 : decode cX2_fewestPersons 1 = .ok (.aload_n 0, 1) := by decide +kernel
theorem dX2_fewestPersons_2 : decode cX2_fewestPersons 2 = .ok (.getfield 24, 3) := by decide +kernel
theorem dX2_fewestPersons_5 : decode cX2_fewestPersons 5 = .ok (.ishl, 1) := by decide +kernel
theorem dX2_fewestPersons_6 : decode cX2_fewestPersons 6 = .ok (.iconst 1, 1) := by decide +kernel
theorem dX2_fewestPersons_7 : decode cX2_fewestPersons 7 = .ok (.isub, 1) := by decide +kernel
theorem dX2_fewestPersons_8 : decode cX2_fewestPersons 8 = .ok (.istore_n 1, 1) := by decide +kernel
theorem dX2_fewestPersons_9 : decode cX2_fewestPersons 9 = .ok (.iload_n 1, 1) := by decide +kernel
theorem dX2_fewestPersons_10 : decode cX2_fewestPersons 10 = .ok (.istore_n 2, 1) := by decide +kernel
theorem dX2_fewestPersons_11 : decode cX2_fewestPersons 11 = .ok (.iload_n 1, 1) := by decide +kernel
theorem dX2_fewestPersons_12 : decode cX2_fewestPersons 12 = .ok (.istore_n 3, 1) := by decide +kernel
theorem dX2_fewestPersons_13 : decode cX2_fewestPersons 13 = .ok (.iload_n 3, 1) := by decide +kernel
theorem dX2_fewestPersons_14 : decode cX2_fewestPersons 14 = .ok (.ifCond .lt 50, 3) := by decide +kernel
theorem dX2_fewestPersons_17 : decode cX2_fewestPersons 17 = .ok (.aload_n 0, 1) := by decide +kernel
theorem dX2_fewestPersons_18 : decode cX2_fewestPersons 18 = .ok (.getfield 18, 3) := by decide +kernel
theorem dX2_fewestPersons_21 : decode cX2_fewestPersons 21 = .ok (.iload_n 3, 1) := by decide +kernel
theorem dX2_fewestPersons_22 : decode cX2_fewestPersons 22 = .ok (.iaload, 1) := by decide +kernel
theorem dX2_fewestPersons_23 : decode cX2_fewestPersons 23 = .ok (.invokestatic 71, 3) := by decide +kernel
theorem dX2_fewestPersons_26 : decode cX2_fewestPersons 26 = .ok (.aload_n 0, 1) := by decide +kernel
theorem dX2_fewestPersons_27 : decode cX2_fewestPersons 27 = .ok (.invokevirtual 75, 3) := by decide +kernel
theorem dX2_fewestPersons_30 : decode cX2_fewestPersons 30 = .ok (.if_icmp .ne 7, 3) := by decide +kernel
theorem dX2_fewestPersons_33 : decode cX2_fewestPersons 33 = .ok (.iconst 1, 1) := by decide +kernel
theorem dX2_fewestPersons_34 : decode cX2_fewestPersons 34 = .ok (.goto 4, 3) := by decide +kernel
theorem dX2_fewestPersons_37 : decode cX2_fewestPersons 37 = .ok (.iconst 0, 1) := by decide +kernel
theorem dX2_fewestPersons_38 : decode cX2_fewestPersons 38 = .ok (.istore 4, 2) := by decide +kernel
theorem dX2_fewestPersons_40 : decode cX2_fewestPersons 40 = .ok (.iload 4, 2) := by decide +kernel
theorem dX2_fewestPersons_42 : decode cX2_fewestPersons 42 = .ok (.ifCond .eq 16, 3) := by decide +kernel
theorem dX2_fewestPersons_45 : decode cX2_fewestPersons 45 = .ok (.iload_n 3, 1) := by decide +kernel
theorem dX2_fewestPersons_46 : decode cX2_fewestPersons 46 = .ok (.invokestatic 79, 3) := by decide +kernel
theorem dX2_fewestPersons_49 : decode cX2_fewestPersons 49 = .ok (.iload_n 2, 1) := by decide +kernel
theorem dX2_fewestPersons_50 : decode cX2_fewestPersons 50 = .ok (.invokestatic 79, 3) := by decide +kernel
theorem dX2_fewestPersons_53 : decode cX2_fewestPersons 53 = .ok (.if_icmp .gt 5, 3) := by decide +kernel
theorem dX2_fewestPersons_56 : decode cX2_fewestPersons 56 = .ok (.iload_n 3, 1) := by decide +kernel
theorem dX2_fewestPersons_57 : decode cX2_fewestPersons 57 = .ok (.istore_n 2, 1) := by decide +kernel
theorem dX2_fewestPersons_58 : decode cX2_fewestPersons 58 = .ok (.iinc 3 (-1), 3) := by decide +kernel
theorem dX2_fewestPersons_61 : decode cX2_fewestPersons 61 = .ok (.goto (-48), 3) := by decide +kernel
theorem dX2_fewestPersons_64 : decode cX2_fewestPersons 64 = .ok (.iload_n 2, 1) := by decide +kernel
theorem dX2_fewestPersons_65 : decode cX2_fewestPersons 65 = .ok (.ireturn, 1) := by decide +kernel
def f2_findTwos_L20 (x2 : Int32) (x4 : Int32) (K76 : Int32 → zMem → zRes) : Nat → Int32 → Int32 → zMem → zRes
  | 0, _, _, _ => none
  | n + 1, x3, x5, μ => if (μ 49 5) ≤ x5 then K76 x3 μ else bnd0 (f5_errs 28 x2 x4 x5 μ) (fun (v6 : Int32) (μ7 : zMem) => zlet (fun (x3_8 : Int32) (μ9 : zMem) => f2_findTwos_L20 x2 x4 K76 n x3_8 (x5 + (1 : Int32)) μ9) (fun j10 => if v6 = 0 then if (36 : Int32) ≤ x3 then j10 x3 μ7 else zin ((x2 * (36 : Int32)) + x3) 360 (zlet (zset μ7 50 ((x2 * (36 : Int32)) + x3).toNatClampNeg ((zshl (1 : Int32) x4) ||| (zshl (1 : Int32) x5))) (fun (μ16 : zMem) => j10 (x3 + (1 : Int32)) μ16)) else j10 x3 μ7))
def f2_findTwos_L5 (x2 : Int32) (K82 : Int32 → zMem → zRes) : Nat → Int32 → Int32 → zMem → zRes
  | 0, _, _, _ => none
  | n + 1, x3, x4, μ => if (μ 49 5) ≤ x4 then K82 x3 μ else zlet (x4 + (1 : Int32)) (fun (v3 : Int32) => f2_findTwos_L20 x2 x4 (fun (x3_17 : Int32) (μ18 : zMem) => f2_findTwos_L5 x2 K82 n x3_17 (x4 + (1 : Int32)) μ18) zF x3 v3 μ)
def f2_findTwos (x2 : Int32) (μ : zMem) : zRes := f2_findTwos_L5 x2 (fun (x3_19 : Int32) (μ20 : zMem) => zin x2 10 (zlet (zset μ20 51 x2.toNatClampNeg x3_19) (fun (μ22 : zMem) => some (0, 0, μ22)))) zF (0 : Int32) (0 : Int32) μ
set_option maxHeartbeats 1000000 in
theorem t2_findTwos_L20 {g : Bool} (x2 : Int32) (x4 : Int32) (K76 : Int32 → zMem → zRes) (hK76 : ∀ (x3 : Int32) (μ : zMem), zR yX2_findTwos cX2_findTwos 6 (none) 3 76 [.ref 49, .ref 28, .int x2, .int x3, .int x4, .null] [] (nX g) (SX g) μ (K76 x3 μ)) : ∀ (n : Nat) (x3 : Int32) (x5 : Int32) (μ : zMem), zR yX2_findTwos cX2_findTwos 6 (none) 3 20 [.ref 49, .ref 28, .int x2, .int x3, .int x4, .int x5] [] (nX g) (SX g) μ (f2_findTwos_L20 x2 x4 K76 n x3 x5 μ) := by
  intro n
  induction n with
  | zero => intro x3 x5 μ; intro q hq; cases hq
  | succ n ih =>
    intro x3 x5 μ
    unfold f2_findTwos_L20
    refine z_iload (pc := 20) dX2_findTwos_20 rfl ?_
    refine z_aload_n (pc := 22) dX2_findTwos_22 rfl ?_
    refine z_geti (pc := 23) fdX2_24 (nx_lt (by decide)) (sx_49 g) rfl dX2_findTwos_23 ?_
    refine z_icmp_ge (pc := 26) (tgt := 76) dX2_findTwos_26 (by decide) (fun c4 => ?_) (fun c5 => ?_)
    · refine z_loc (L' := [.ref 49, .ref 28, .int x2, .int x3, .int x4, .null]) ⟨Or.inr rfl, ⟨Or.inr rfl, ⟨Or.inr rfl, ⟨Or.inr rfl, ⟨Or.inr rfl, ⟨Or.inl rfl, trivial⟩⟩⟩⟩⟩⟩ ?_
      exact hK76 x3 μ
    · refine z_aload_n (pc := 29) dX2_findTwos_29 rfl ?_
      refine z_iload_n (pc := 30) dX2_findTwos_30 rfl ?_
      refine z_iload (pc := 31) dX2_findTwos_31 rfl ?_
      refine z_iload (pc := 33) dX2_findTwos_33 rfl ?_
      refine z_callV (As := [.int x2, .int x4, .int x5]) (pc := 35) (ret' := some .int) kvX2_64 (t5_errs zSc_28 _ _ _ _) (by decide) (nx_lt (by decide)) (sx_28 g)  rfl rfl (Nat.le_of_ble_eq_true rfl) dX2_findTwos_35 (fun v6 μ7 => ?_)
      refine z_let (fun (j : Int32 → zMem → zRes) => ∀ (x3_8 : Int32) (μ9 : zMem), zR yX2_findTwos cX2_findTwos 6 (none) 3 70 [.ref 49, .ref 28, .int x2, .int x3_8, .int x4, .int x5] [] (nX g) (SX g) μ9 (j x3_8 μ9)) ?_ (fun j10 hj10 => ?_)
      · intro x3_8 μ9
        refine z_iinc (pc := 70) (v := x5 + (1 : Int32)) (L' := [.ref 49, .ref 28, .int x2, .int x3_8, .int x4, .int (x5 + (1 : Int32))]) dX2_findTwos_70 (by decide) rfl (congrArg _ (by decide)) rfl ?_
        refine z_goto (pc := 73) (tgt := 20) dX2_findTwos_73 (by decide) ?_
        exact ih x3_8 (x5 + (1 : Int32)) μ9
      · refine z_if_ne (pc := 38) (tgt := 70) dX2_findTwos_38 (by decide) (fun c11 => ?_) (fun c12 => ?_)
        · exact hj10 x3 μ7
        · refine z_iload_n (pc := 41) dX2_findTwos_41 rfl ?_
          refine z_bipush (pc := 42) (36 : Int32) dX2_findTwos_42 (by decide) ?_
          refine z_icmp_ge (pc := 44) (tgt := 70) dX2_findTwos_44 (by decide) (fun c13 => ?_) (fun c14 => ?_)
          · exact hj10 x3 μ7
          · refine z_aload_n (pc := 47) dX2_findTwos_47 rfl ?_
            refine z_getr (pc := 48) fdX2_11 (nx_lt (by decide)) (sx_49 g) rfl rfl dX2_findTwos_48 ?_
            refine z_iload_n (pc := 51) dX2_findTwos_51 rfl ?_
            refine z_bipush (pc := 52) (36 : Int32) dX2_findTwos_52 (by decide) ?_
            refine z_imul (pc := 54) dX2_findTwos_54 ?_
            refine z_iload_n (pc := 55) dX2_findTwos_55 rfl ?_
            refine z_iadd (pc := 56) dX2_findTwos_56 ?_
            refine z_iconst (pc := 57) (1 : Int32) dX2_findTwos_57 (by decide) ?_
            refine z_iload (pc := 58) dX2_findTwos_58 rfl ?_
            refine z_ishl (pc := 60) dX2_findTwos_60 ?_
            refine z_iconst (pc := 61) (1 : Int32) dX2_findTwos_61 (by decide) ?_
            refine z_iload (pc := 62) dX2_findTwos_62 rfl ?_
            refine z_ishl (pc := 64) dX2_findTwos_64 ?_
            refine z_ior (pc := 65) dX2_findTwos_65 ?_
            refine z_iast (pc := 66) (nx_lt (by decide)) (sx_50 g) rfl dX2_findTwos_66 (fun h15 => ?_)
            refine z_mem (fun μ16 => ?_)
            refine z_iinc (pc := 67) (v := x3 + (1 : Int32)) (L' := [.ref 49, .ref 28, .int x2, .int (x3 + (1 : Int32)), .int x4, .int x5]) dX2_findTwos_67 (by decide) rfl (congrArg _ (by decide)) rfl ?_
            exact hj10 (x3 + (1 : Int32)) μ16
set_option maxHeartbeats 1000000 in
theorem t2_findTwos_L5 {g : Bool} (x2 : Int32) (K82 : Int32 → zMem → zRes) (hK82 : ∀ (x3 : Int32) (μ : zMem), zR yX2_findTwos cX2_findTwos 6 (none) 3 82 [.ref 49, .null, .int x2, .int x3, .null, .null] [] (nX g) (SX g) μ (K82 x3 μ)) : ∀ (n : Nat) (x3 : Int32) (x4 : Int32) (μ : zMem), zR yX2_findTwos cX2_findTwos 6 (none) 3 5 [.ref 49, .ref 28, .int x2, .int x3, .int x4, .null] [] (nX g) (SX g) μ (f2_findTwos_L5 x2 K82 n x3 x4 μ) := by
  intro n
  induction n with
  | zero => intro x3 x4 μ; intro q hq; cases hq
  | succ n ih =>
    intro x3 x4 μ
    unfold f2_findTwos_L5
    refine z_iload (pc := 5) dX2_findTwos_5 rfl ?_
    refine z_aload_n (pc := 7) dX2_findTwos_7 rfl ?_
    refine z_geti (pc := 8) fdX2_24 (nx_lt (by decide)) (sx_49 g) rfl dX2_findTwos_8 ?_
    refine z_icmp_ge (pc := 11) (tgt := 82) dX2_findTwos_11 (by decide) (fun c1 => ?_) (fun c2 => ?_)
    · refine z_loc (L' := [.ref 49, .null, .int x2, .int x3, .null, .null]) ⟨Or.inr rfl, ⟨Or.inl rfl, ⟨Or.inr rfl, ⟨Or.inr rfl, ⟨Or.inl rfl, ⟨Or.inl rfl, trivial⟩⟩⟩⟩⟩⟩ ?_
      exact hK82 x3 μ
    · refine z_iload (pc := 14) dX2_findTwos_14 rfl ?_
      refine z_iconst (pc := 16) (1 : Int32) dX2_findTwos_16 (by decide) ?_
      refine z_iadd (pc := 17) dX2_findTwos_17 ?_
      refine z_val (fun v3 => ?_)
      refine z_istore (pc := 18) (L' := [.ref 49, .ref 28, .int x2, .int x3, .int x4, .int v3]) dX2_findTwos_18 (by decide) rfl ?_
      refine t2_findTwos_L20 _ _ _ (fun x3_17 μ18 => ?_) zF _ _ _
      · refine z_iinc (pc := 76) (v := x4 + (1 : Int32)) (L' := [.ref 49, .ref 28, .int x2, .int x3_17, .int (x4 + (1 : Int32)), .null]) dX2_findTwos_76 (by decide) rfl (congrArg _ (by decide)) rfl ?_
        refine z_goto (pc := 79) (tgt := 5) dX2_findTwos_79 (by decide) ?_
        exact ih x3_17 (x4 + (1 : Int32)) μ18
set_option maxHeartbeats 1000000 in
theorem t2_findTwos {g : Bool} (x2 : Int32) (μ : zMem) : zMR yX2_findTwos cX2_findTwos 6 (none) 3 [.ref 49, .ref 28, .int x2] (nX g) (SX g) μ (f2_findTwos x2 μ) := by
  refine zMR_of (by decide +kernel) rfl (Nat.le_of_ble_eq_true rfl) (L := [.ref 49, .ref 28, .int x2, .null, .null, .null]) rfl ?_
  unfold f2_findTwos
  refine z_iconst (pc := 0) (0 : Int32) dX2_findTwos_0 (by decide) ?_
  refine z_istore_n (pc := 1) (L' := [.ref 49, .ref 28, .int x2, .int (0 : Int32), .null, .null]) dX2_findTwos_1 (by decide) rfl ?_
  refine z_iconst (pc := 2) (0 : Int32) dX2_findTwos_2 (by decide) ?_
  refine z_istore (pc := 3) (L' := [.ref 49, .ref 28, .int x2, .int (0 : Int32), .int (0 : Int32), .null]) dX2_findTwos_3 (by decide) rfl ?_
  refine t2_findTwos_L5 _ _ (fun x3_19 μ20 => ?_) zF _ _ _
  · refine z_aload_n (pc := 82) dX2_findTwos_82 rfl ?_
    refine z_getr (pc := 83) fdX2_15 (nx_lt (by decide)) (sx_49 g) rfl rfl dX2_findTwos_83 ?_
    refine z_iload_n (pc := 86) dX2_findTwos_86 rfl ?_
    refine z_iload_n (pc := 87) dX2_findTwos_87 rfl ?_
    refine z_iast (pc := 88) (nx_lt (by decide)) (sx_51 g) rfl dX2_findTwos_88 (fun h21 => ?_)
    refine z_mem (fun μ22 => ?_)
    exact z_vret (pc := 89) rfl dX2_findTwos_89
def f2_offer_L70 (x2 : Int32) (x4 : Int32) (x5 : Int32) (μ : zMem) (K133 : Int32 → zRes) : Nat → Int32 → Int32 → zRes
  | 0, _, _ => none
  | n + 1, x6, x7 => if x4 ≤ x7 then K133 x6 else zin x7 360 (zlet (μ 50 x7.toNatClampNeg) (fun (v14 : Int32) => zlet (fun (x6_15 : Int32) => f2_offer_L70 x2 x4 x5 μ K133 n x6_15 (x7 + (1 : Int32))) (fun j16 => if (x5 &&& v14) = v14 then zin (x5 ^^^ v14) 512 (if ((μ 52 (x5 ^^^ v14).toNatClampNeg) + x2) ≤ x6 then j16 x6 else zin (x5 ^^^ v14) 512 (zlet ((μ 52 (x5 ^^^ v14).toNatClampNeg) + x2) (fun (v23 : Int32) => j16 v23))) else j16 x6)))
def f2_offer_L53 (x2 : Int32) (x3 : Int32) (x4 : Int32) (K148 : zMem → zRes) : Nat → Int32 → zMem → zRes
  | 0, _, _ => none
  | n + 1, x5, μ => if x5 ≤ 0 then K148 μ else zin x5 512 (zlet (μ 52 x5.toNatClampNeg) (fun (v10 : Int32) => f2_offer_L70 x2 x4 x5 μ (fun (x6_24 : Int32) => zin x5 512 (zlet (zset μ 52 x5.toNatClampNeg x6_24) (fun (μ26 : zMem) => f2_offer_L53 x2 x3 x4 K148 n (x5 + (-1 : Int32)) μ26))) zF v10 x3))
def f2_offer (x1 : Int32) (μ : zMem) : zRes := zin x1 10 (zlet (((μ 8 x1.toNatClampNeg) * (1024 : Int32)) - (zshl (1 : Int32) x1)) (fun (v2 : Int32) => zlet (x1 * (36 : Int32)) (fun (v3 : Int32) => zin x1 10 (zlet (v3 + (μ 51 x1.toNatClampNeg)) (fun (v5 : Int32) => zlet (fun (s6 : Int32) => f2_offer_L53 v2 v3 v5 (fun (μ27 : zMem) => some (0, 0, μ27)) zF s6 μ) (fun j28 => if v5 ≤ v3 then j28 (0 : Int32) else j28 ((zshl (1 : Int32) (μ 49 5)) - (1 : Int32))))))))
set_option maxHeartbeats 1000000 in
theorem t2_offer_L70 {g : Bool} (x2 : Int32) (x3 : Int32) (x4 : Int32) (x5 : Int32) (μ : zMem) (K133 : Int32 → zRes) (hK133 : ∀ (x6 : Int32), zR yX2_offer cX2_offer 9 (none) 1 133 [.ref 49, .null, .int x2, .int x3, .int x4, .int x5, .int x6, .null, .null] [] (nX g) (SX g) μ (K133 x6)) : ∀ (n : Nat) (x6 : Int32) (x7 : Int32), zR yX2_offer cX2_offer 9 (none) 1 70 [.ref 49, .null, .int x2, .int x3, .int x4, .int x5, .int x6, .int x7, .null] [] (nX g) (SX g) μ (f2_offer_L70 x2 x4 x5 μ K133 n x6 x7) := by
  intro n
  induction n with
  | zero => intro x6 x7; intro q hq; cases hq
  | succ n ih =>
    intro x6 x7
    unfold f2_offer_L70
    refine z_iload (pc := 70) dX2_offer_70 rfl ?_
    refine z_iload (pc := 72) dX2_offer_72 rfl ?_
    refine z_icmp_ge (pc := 74) (tgt := 133) dX2_offer_74 (by decide) (fun c11 => ?_) (fun c12 => ?_)
    · refine z_loc (L' := [.ref 49, .null, .int x2, .int x3, .int x4, .int x5, .int x6, .null, .null]) ⟨Or.inr rfl, ⟨Or.inl rfl, ⟨Or.inr rfl, ⟨Or.inr rfl, ⟨Or.inr rfl, ⟨Or.inr rfl, ⟨Or.inr rfl, ⟨Or.inl rfl, ⟨Or.inl rfl, trivial⟩⟩⟩⟩⟩⟩⟩⟩⟩ ?_
      exact hK133 x6
    · refine z_aload_n (pc := 77) dX2_offer_77 rfl ?_
      refine z_getr (pc := 78) fdX2_11 (nx_lt (by decide)) (sx_49 g) rfl rfl dX2_offer_78 ?_
      refine z_iload (pc := 81) dX2_offer_81 rfl ?_
      refine z_iald (pc := 83) (nx_lt (by decide)) (sx_50 g) rfl dX2_offer_83 (fun h13 => ?_)
      refine z_val (fun v14 => ?_)
      refine z_istore (pc := 84) (L' := [.ref 49, .null, .int x2, .int x3, .int x4, .int x5, .int x6, .int x7, .int v14]) dX2_offer_84 (by decide) rfl ?_
      refine z_iload (pc := 86) dX2_offer_86 rfl ?_
      refine z_iload (pc := 88) dX2_offer_88 rfl ?_
      refine z_iand (pc := 90) dX2_offer_90 ?_
      refine z_iload (pc := 91) dX2_offer_91 rfl ?_
      refine z_let (fun (j : Int32 → zRes) => ∀ (x6_15 : Int32), zR yX2_offer cX2_offer 9 (none) 1 127 [.ref 49, .null, .int x2, .int x3, .int x4, .int x5, .int x6_15, .int x7, .null] [] (nX g) (SX g) μ (j x6_15)) ?_ (fun j16 hj16 => ?_)
      · intro x6_15
        refine z_iinc (pc := 127) (v := x7 + (1 : Int32)) (L' := [.ref 49, .null, .int x2, .int x3, .int x4, .int x5, .int x6_15, .int (x7 + (1 : Int32)), .null]) dX2_offer_127 (by decide) rfl (congrArg _ (by decide)) rfl ?_
        refine z_goto (pc := 130) (tgt := 70) dX2_offer_130 (by decide) ?_
        exact ih x6_15 (x7 + (1 : Int32))
      · refine z_icmp_ne (pc := 93) (tgt := 127) dX2_offer_93 (by decide) (fun c17 => ?_) (fun c18 => ?_)
        · refine z_loc (L' := [.ref 49, .null, .int x2, .int x3, .int x4, .int x5, .int x6, .int x7, .null]) ⟨Or.inr rfl, ⟨Or.inl rfl, ⟨Or.inr rfl, ⟨Or.inr rfl, ⟨Or.inr rfl, ⟨Or.inr rfl, ⟨Or.inr rfl, ⟨Or.inr rfl, ⟨Or.inl rfl, trivial⟩⟩⟩⟩⟩⟩⟩⟩⟩ ?_
          exact hj16 x6
        · refine z_aload_n (pc := 96) dX2_offer_96 rfl ?_
          refine z_getr (pc := 97) fdX2_18 (nx_lt (by decide)) (sx_49 g) rfl rfl dX2_offer_97 ?_
          refine z_iload (pc := 100) dX2_offer_100 rfl ?_
          refine z_iload (pc := 102) dX2_offer_102 rfl ?_
          refine z_ixor (pc := 104) dX2_offer_104 ?_
          refine z_iald (pc := 105) (nx_lt (by decide)) (sx_52 g) rfl dX2_offer_105 (fun h19 => ?_)
          refine z_iload_n (pc := 106) dX2_offer_106 rfl ?_
          refine z_iadd (pc := 107) dX2_offer_107 ?_
          refine z_iload (pc := 108) dX2_offer_108 rfl ?_
          refine z_icmp_le (pc := 110) (tgt := 127) dX2_offer_110 (by decide) (fun c20 => ?_) (fun c21 => ?_)
          · refine z_loc (L' := [.ref 49, .null, .int x2, .int x3, .int x4, .int x5, .int x6, .int x7, .null]) ⟨Or.inr rfl, ⟨Or.inl rfl, ⟨Or.inr rfl, ⟨Or.inr rfl, ⟨Or.inr rfl, ⟨Or.inr rfl, ⟨Or.inr rfl, ⟨Or.inr rfl, ⟨Or.inl rfl, trivial⟩⟩⟩⟩⟩⟩⟩⟩⟩ ?_
            exact hj16 x6
          · refine z_aload_n (pc := 113) dX2_offer_113 rfl ?_
            refine z_getr (pc := 114) fdX2_18 (nx_lt (by decide)) (sx_49 g) rfl rfl dX2_offer_114 ?_
            refine z_iload (pc := 117) dX2_offer_117 rfl ?_
            refine z_iload (pc := 119) dX2_offer_119 rfl ?_
            refine z_ixor (pc := 121) dX2_offer_121 ?_
            refine z_iald (pc := 122) (nx_lt (by decide)) (sx_52 g) rfl dX2_offer_122 (fun h22 => ?_)
            refine z_iload_n (pc := 123) dX2_offer_123 rfl ?_
            refine z_iadd (pc := 124) dX2_offer_124 ?_
            refine z_val (fun v23 => ?_)
            refine z_istore (pc := 125) (L' := [.ref 49, .null, .int x2, .int x3, .int x4, .int x5, .int v23, .int x7, .int v14]) dX2_offer_125 (by decide) rfl ?_
            refine z_loc (L' := [.ref 49, .null, .int x2, .int x3, .int x4, .int x5, .int v23, .int x7, .null]) ⟨Or.inr rfl, ⟨Or.inl rfl, ⟨Or.inr rfl, ⟨Or.inr rfl, ⟨Or.inr rfl, ⟨Or.inr rfl, ⟨Or.inr rfl, ⟨Or.inr rfl, ⟨Or.inl rfl, trivial⟩⟩⟩⟩⟩⟩⟩⟩⟩ ?_
            exact hj16 v23
set_option maxHeartbeats 1000000 in
theorem t2_offer_L53 {g : Bool} (x2 : Int32) (x3 : Int32) (x4 : Int32) (K148 : zMem → zRes) (hK148 : ∀ (μ : zMem), zR yX2_offer cX2_offer 9 (none) 1 148 [.null, .null, .null, .null, .null, .null, .null, .null, .null] [] (nX g) (SX g) μ (K148 μ)) : ∀ (n : Nat) (x5 : Int32) (μ : zMem), zR yX2_offer cX2_offer 9 (none) 1 53 [.ref 49, .null, .int x2, .int x3, .int x4, .int x5, .null, .null, .null] [] (nX g) (SX g) μ (f2_offer_L53 x2 x3 x4 K148 n x5 μ) := by
  intro n
  induction n with
  | zero => intro x5 μ; intro q hq; cases hq
  | succ n ih =>
    intro x5 μ
    unfold f2_offer_L53
    refine z_iload (pc := 53) dX2_offer_53 rfl ?_
    refine z_if_le (pc := 55) (tgt := 148) dX2_offer_55 (by decide) (fun c7 => ?_) (fun c8 => ?_)
    · refine z_loc (L' := [.null, .null, .null, .null, .null, .null, .null, .null, .null]) ⟨Or.inl rfl, ⟨Or.inl rfl, ⟨Or.inl rfl, ⟨Or.inl rfl, ⟨Or.inl rfl, ⟨Or.inl rfl, ⟨Or.inl rfl, ⟨Or.inl rfl, ⟨Or.inl rfl, trivial⟩⟩⟩⟩⟩⟩⟩⟩⟩ ?_
      exact hK148 μ
    · refine z_aload_n (pc := 58) dX2_offer_58 rfl ?_
      refine z_getr (pc := 59) fdX2_18 (nx_lt (by decide)) (sx_49 g) rfl rfl dX2_offer_59 ?_
      refine z_iload (pc := 62) dX2_offer_62 rfl ?_
      refine z_iald (pc := 64) (nx_lt (by decide)) (sx_52 g) rfl dX2_offer_64 (fun h9 => ?_)
      refine z_val (fun v10 => ?_)
      refine z_istore (pc := 65) (L' := [.ref 49, .null, .int x2, .int x3, .int x4, .int x5, .int v10, .null, .null]) dX2_offer_65 (by decide) rfl ?_
      refine z_iload_n (pc := 67) dX2_offer_67 rfl ?_
      refine z_istore (pc := 68) (L' := [.ref 49, .null, .int x2, .int x3, .int x4, .int x5, .int v10, .int x3, .null]) dX2_offer_68 (by decide) rfl ?_
      refine t2_offer_L70 _ _ _ _ _ _ (fun x6_24 => ?_) zF _ _
      · refine z_aload_n (pc := 133) dX2_offer_133 rfl ?_
        refine z_getr (pc := 134) fdX2_18 (nx_lt (by decide)) (sx_49 g) rfl rfl dX2_offer_134 ?_
        refine z_iload (pc := 137) dX2_offer_137 rfl ?_
        refine z_iload (pc := 139) dX2_offer_139 rfl ?_
        refine z_iast (pc := 141) (nx_lt (by decide)) (sx_52 g) rfl dX2_offer_141 (fun h25 => ?_)
        refine z_mem (fun μ26 => ?_)
        refine z_iinc (pc := 142) (v := x5 + (-1 : Int32)) (L' := [.ref 49, .null, .int x2, .int x3, .int x4, .int (x5 + (-1 : Int32)), .int x6_24, .null, .null]) dX2_offer_142 (by decide) rfl (congrArg _ (by decide)) rfl ?_
        refine z_goto (pc := 145) (tgt := 53) dX2_offer_145 (by decide) ?_
        refine z_loc (L' := [.ref 49, .null, .int x2, .int x3, .int x4, .int (x5 + (-1 : Int32)), .null, .null, .null]) ⟨Or.inr rfl, ⟨Or.inl rfl, ⟨Or.inr rfl, ⟨Or.inr rfl, ⟨Or.inr rfl, ⟨Or.inr rfl, ⟨Or.inl rfl, ⟨Or.inl rfl, ⟨Or.inl rfl, trivial⟩⟩⟩⟩⟩⟩⟩⟩⟩ ?_
        exact ih (x5 + (-1 : Int32)) μ26
set_option maxHeartbeats 1000000 in
theorem t2_offer {g : Bool} (x1 : Int32) (μ : zMem) : zMR yX2_offer cX2_offer 9 (none) 1 [.ref 49, .int x1] (nX g) (SX g) μ (f2_offer x1 μ) := by
  refine zMR_of (by decide +kernel) rfl (Nat.le_of_ble_eq_true rfl) (L := [.ref 49, .int x1, .null, .null, .null, .null, .null, .null, .null]) rfl ?_
  unfold f2_offer
  refine z_aload_n (pc := 0) dX2_offer_0 rfl ?_
  refine z_getr (pc := 1) fdX2_28 (nx_lt (by decide)) (sx_49 g) rfl rfl dX2_offer_1 ?_
  refine z_getr (pc := 4) fdX2_68 (nx_lt (by decide)) (sx_2 g) rfl rfl dX2_offer_4 ?_
  refine z_iload_n (pc := 7) dX2_offer_7 rfl ?_
  refine z_iald (pc := 8) (nx_lt (by decide)) (sx_8 g) rfl dX2_offer_8 (fun h1 => ?_)
  refine z_sipush (pc := 9) (1024 : Int32) dX2_offer_9 (by decide) ?_
  refine z_imul (pc := 12) dX2_offer_12 ?_
  refine z_iconst (pc := 13) (1 : Int32) dX2_offer_13 (by decide) ?_
  refine z_iload_n (pc := 14) dX2_offer_14 rfl ?_
  refine z_ishl (pc := 15) dX2_offer_15 ?_
  refine z_isub (pc := 16) dX2_offer_16 ?_
  refine z_val (fun v2 => ?_)
  refine z_istore_n (pc := 17) (L' := [.ref 49, .int x1, .int v2, .null, .null, .null, .null, .null, .null]) dX2_offer_17 (by decide) rfl ?_
  refine z_iload_n (pc := 18) dX2_offer_18 rfl ?_
  refine z_bipush (pc := 19) (36 : Int32) dX2_offer_19 (by decide) ?_
  refine z_imul (pc := 21) dX2_offer_21 ?_
  refine z_val (fun v3 => ?_)
  refine z_istore_n (pc := 22) (L' := [.ref 49, .int x1, .int v2, .int v3, .null, .null, .null, .null, .null]) dX2_offer_22 (by decide) rfl ?_
  refine z_iload_n (pc := 23) dX2_offer_23 rfl ?_
  refine z_aload_n (pc := 24) dX2_offer_24 rfl ?_
  refine z_getr (pc := 25) fdX2_15 (nx_lt (by decide)) (sx_49 g) rfl rfl dX2_offer_25 ?_
  refine z_iload_n (pc := 28) dX2_offer_28 rfl ?_
  refine z_iald (pc := 29) (nx_lt (by decide)) (sx_51 g) rfl dX2_offer_29 (fun h4 => ?_)
  refine z_iadd (pc := 30) dX2_offer_30 ?_
  refine z_val (fun v5 => ?_)
  refine z_istore (pc := 31) (L' := [.ref 49, .int x1, .int v2, .int v3, .int v5, .null, .null, .null, .null]) dX2_offer_31 (by decide) rfl ?_
  refine z_iload (pc := 33) dX2_offer_33 rfl ?_
  refine z_iload_n (pc := 35) dX2_offer_35 rfl ?_
  refine z_let (fun (j : Int32 → zRes) => ∀ (s6 : Int32), zR yX2_offer cX2_offer 9 (none) 1 51 [.ref 49, .null, .int v2, .int v3, .int v5, .null, .null, .null, .null] [.int s6] (nX g) (SX g) μ (j s6)) ?_ (fun j28 hj28 => ?_)
  · intro s6
    refine z_istore (pc := 51) (L' := [.ref 49, .null, .int v2, .int v3, .int v5, .int s6, .null, .null, .null]) dX2_offer_51 (by decide) rfl ?_
    refine t2_offer_L53 _ _ _ _ (fun μ27 => ?_) zF _ _
    · exact z_vret (pc := 148) rfl dX2_offer_148
  · refine z_icmp_le (pc := 36) (tgt := 50) dX2_offer_36 (by decide) (fun c29 => ?_) (fun c30 => ?_)
    · refine z_iconst (pc := 50) (0 : Int32) dX2_offer_50 (by decide) ?_
      refine z_loc (L' := [.ref 49, .null, .int v2, .int v3, .int v5, .null, .null, .null, .null]) ⟨Or.inr rfl, ⟨Or.inl rfl, ⟨Or.inr rfl, ⟨Or.inr rfl, ⟨Or.inr rfl, ⟨Or.inl rfl, ⟨Or.inl rfl, ⟨Or.inl rfl, ⟨Or.inl rfl, trivial⟩⟩⟩⟩⟩⟩⟩⟩⟩ ?_
      exact hj28 (0 : Int32)
    · refine z_iconst (pc := 39) (1 : Int32) dX2_offer_39 (by decide) ?_
      refine z_aload_n (pc := 40) dX2_offer_40 rfl ?_
      refine z_geti (pc := 41) fdX2_24 (nx_lt (by decide)) (sx_49 g) rfl dX2_offer_41 ?_
      refine z_ishl (pc := 44) dX2_offer_44 ?_
      refine z_iconst (pc := 45) (1 : Int32) dX2_offer_45 (by decide) ?_
      refine z_isub (pc := 46) dX2_offer_46 ?_
      refine z_goto (pc := 47) (tgt := 51) dX2_offer_47 (by decide) ?_
      refine z_loc (L' := [.ref 49, .null, .int v2, .int v3, .int v5, .null, .null, .null, .null]) ⟨Or.inr rfl, ⟨Or.inl rfl, ⟨Or.inr rfl, ⟨Or.inr rfl, ⟨Or.inr rfl, ⟨Or.inl rfl, ⟨Or.inl rfl, ⟨Or.inl rfl, ⟨Or.inl rfl, trivial⟩⟩⟩⟩⟩⟩⟩⟩⟩ ?_
      exact hj28 ((zshl (1 : Int32) (μ 49 5)) - (1 : Int32))
def f2_make_L33 (K77 : zMem → zRes) : Nat → Int32 → zMem → zRes
  | 0, _, _ => none
  | n + 1, x2, μ => if (μ 2 2) ≤ x2 then K77 μ else bnd0 (f5_isOpen 28 x2 μ) (fun (v8 : Int32) (μ9 : zMem) => zlet (fun (μ10 : zMem) => f2_make_L33 K77 n (x2 + (1 : Int32)) μ10) (fun j11 => if v8 = 0 then bnd0 (f5_isTooLate 28 x2 μ9) (fun (v14 : Int32) (μ15 : zMem) => if v14 = 0 then bnd0 (f2_findTwos x2 μ15) (fun (v18 : Int32) (μ19 : zMem) => bnd0 (f2_offer x2 μ19) (fun (v20 : Int32) (μ21 : zMem) => j11 μ21)) else j11 μ15) else j11 μ9))
def f2_make (μ : zMem) : zRes := zlet (zset μ 49 5 (μ 28 4)) (fun (μ1 : zMem) => bnd0 (fJ7_fill_53178 51 10 (0 : Int32) μ1) (fun (v2 : Int32) (μ3 : zMem) => bnd0 (fJ7_fill_fda19 52 512 (0 : Int32) (zshl (1 : Int32) (μ3 49 5)) (0 : Int32) μ3) (fun (v4 : Int32) (μ5 : zMem) => f2_make_L33 (fun (μ22 : zMem) => some (0, 0, μ22)) zF (0 : Int32) μ5)))
set_option maxHeartbeats 1000000 in
theorem t2_make_L33 {g : Bool} (K77 : zMem → zRes) (hK77 : ∀ (μ : zMem), zR yX2_make cX2_make 3 (none) 4 77 [.null, .null, .null] [] (nX g) (SX g) μ (K77 μ)) : ∀ (n : Nat) (x2 : Int32) (μ : zMem), zR yX2_make cX2_make 3 (none) 4 33 [.ref 49, .ref 28, .int x2] [] (nX g) (SX g) μ (f2_make_L33 K77 n x2 μ) := by
  intro n
  induction n with
  | zero => intro x2 μ; intro q hq; cases hq
  | succ n ih =>
    intro x2 μ
    unfold f2_make_L33
    refine z_iload_n (pc := 33) dX2_make_33 rfl ?_
    refine z_aload_n (pc := 34) dX2_make_34 rfl ?_
    refine z_getr (pc := 35) fdX2_28 (nx_lt (by decide)) (sx_49 g) rfl rfl dX2_make_35 ?_
    refine z_geti (pc := 38) fdX2_44 (nx_lt (by decide)) (sx_2 g) rfl dX2_make_38 ?_
    refine z_icmp_ge (pc := 41) (tgt := 77) dX2_make_41 (by decide) (fun c6 => ?_) (fun c7 => ?_)
    · refine z_loc (L' := [.null, .null, .null]) ⟨Or.inl rfl, ⟨Or.inl rfl, ⟨Or.inl rfl, trivial⟩⟩⟩ ?_
      exact hK77 μ
    · refine z_aload_n (pc := 44) dX2_make_44 rfl ?_
      refine z_iload_n (pc := 45) dX2_make_45 rfl ?_
      refine z_callV (As := [.int x2]) (pc := 46) (ret' := some .boolean) kvX2_49 (t5_isOpen zSc_28 _ _) (by decide) (nx_lt (by decide)) (sx_28 g)  rfl rfl (Nat.le_of_ble_eq_true rfl) dX2_make_46 (fun v8 μ9 => ?_)
      refine z_let (fun (j : zMem → zRes) => ∀ (μ10 : zMem), zR yX2_make cX2_make 3 (none) 4 71 [.ref 49, .ref 28, .int x2] [] (nX g) (SX g) μ10 (j μ10)) ?_ (fun j11 hj11 => ?_)
      · intro μ10
        refine z_iinc (pc := 71) (v := x2 + (1 : Int32)) (L' := [.ref 49, .ref 28, .int (x2 + (1 : Int32))]) dX2_make_71 (by decide) rfl (congrArg _ (by decide)) rfl ?_
        refine z_goto (pc := 74) (tgt := 33) dX2_make_74 (by decide) ?_
        exact ih (x2 + (1 : Int32)) μ10
      · refine z_if_ne (pc := 49) (tgt := 71) dX2_make_49 (by decide) (fun c12 => ?_) (fun c13 => ?_)
        · exact hj11 μ9
        · refine z_aload_n (pc := 52) dX2_make_52 rfl ?_
          refine z_iload_n (pc := 53) dX2_make_53 rfl ?_
          refine z_callV (As := [.int x2]) (pc := 54) (ret' := some .boolean) kvX2_53 (t5_isTooLate zSc_28 _ _) (by decide) (nx_lt (by decide)) (sx_28 g)  rfl rfl (Nat.le_of_ble_eq_true rfl) dX2_make_54 (fun v14 μ15 => ?_)
          refine z_if_ne (pc := 57) (tgt := 71) dX2_make_57 (by decide) (fun c16 => ?_) (fun c17 => ?_)
          · exact hj11 μ15
          · refine z_aload_n (pc := 60) dX2_make_60 rfl ?_
            refine z_aload_n (pc := 61) dX2_make_61 rfl ?_
            refine z_iload_n (pc := 62) dX2_make_62 rfl ?_
            refine z_callV (As := [.ref 28, .int x2]) (pc := 63) (ret' := none) kvX2_56 (t2_findTwos _ _) (by decide) (nx_lt (by decide)) (sx_49 g)  rfl rfl (Nat.le_of_ble_eq_true rfl) dX2_make_63 (fun v18 μ19 => ?_)
            refine z_aload_n (pc := 66) dX2_make_66 rfl ?_
            refine z_iload_n (pc := 67) dX2_make_67 rfl ?_
            refine z_callV (As := [.int x2]) (pc := 68) (ret' := none) kvX2_60 (t2_offer _ _) (by decide) (nx_lt (by decide)) (sx_49 g)  rfl rfl (Nat.le_of_ble_eq_true rfl) dX2_make_68 (fun v20 μ21 => ?_)
            exact hj11 μ21
set_option maxHeartbeats 1000000 in
theorem t2_make {g : Bool} (μ : zMem) : zMR yX2_make cX2_make 3 (none) 4 [.ref 49, .ref 28] (nX g) (SX g) μ (f2_make μ) := by
  refine zMR_of (by decide +kernel) rfl (Nat.le_of_ble_eq_true rfl) (L := [.ref 49, .ref 28, .null]) rfl ?_
  unfold f2_make
  refine z_aload_n (pc := 0) dX2_make_0 rfl ?_
  refine z_aload_n (pc := 1) dX2_make_1 rfl ?_
  refine z_geti (pc := 2) fdX2_32 (nx_lt (by decide)) (sx_28 g) rfl dX2_make_2 ?_
  refine z_puti (pc := 5) fdX2_24 (nx_lt (by decide)) (sx_49 g) rfl rfl dX2_make_5 ?_
  refine z_mem (fun μ1 => ?_)
  refine z_aload_n (pc := 8) dX2_make_8 rfl ?_
  refine z_getr (pc := 9) fdX2_15 (nx_lt (by decide)) (sx_49 g) rfl rfl dX2_make_9 ?_
  refine z_iconst (pc := 12) (0 : Int32) dX2_make_12 (by decide) ?_
  refine z_callS (As := [.ref 51, .int (0 : Int32)]) (pc := 13) (ret' := none) ksX2_35 (tJ7_fill_53178 (nx_lt (by decide)) (sx_51 g) _ _) (by decide)  rfl rfl (Nat.le_of_ble_eq_true rfl) dX2_make_13 (fun v2 μ3 => ?_)
  refine z_aload_n (pc := 16) dX2_make_16 rfl ?_
  refine z_getr (pc := 17) fdX2_18 (nx_lt (by decide)) (sx_49 g) rfl rfl dX2_make_17 ?_
  refine z_iconst (pc := 20) (0 : Int32) dX2_make_20 (by decide) ?_
  refine z_iconst (pc := 21) (1 : Int32) dX2_make_21 (by decide) ?_
  refine z_aload_n (pc := 22) dX2_make_22 rfl ?_
  refine z_geti (pc := 23) fdX2_24 (nx_lt (by decide)) (sx_49 g) rfl dX2_make_23 ?_
  refine z_ishl (pc := 26) dX2_make_26 ?_
  refine z_iconst (pc := 27) (0 : Int32) dX2_make_27 (by decide) ?_
  refine z_callS (As := [.ref 52, .int (0 : Int32), .int (zshl (1 : Int32) (μ3 49 5)), .int (0 : Int32)]) (pc := 28) (ret' := none) ksX2_41 (tJ7_fill_fda19 (nx_lt (by decide)) (sx_52 g) _ _ _ _) (by decide)  rfl rfl (Nat.le_of_ble_eq_true rfl) dX2_make_28 (fun v4 μ5 => ?_)
  refine z_iconst (pc := 31) (0 : Int32) dX2_make_31 (by decide) ?_
  refine z_istore_n (pc := 32) (L' := [.ref 49, .ref 28, .int (0 : Int32)]) dX2_make_32 (by decide) rfl ?_
  refine t2_make_L33 _ (fun μ22 => ?_) zF _ _
  · exact z_vret (pc := 77) rfl dX2_make_77
def f2_worthIn (x0 : Int32) (μ : zMem) : zRes := some (0, ((x0 + (1024 : Int32)) - (1 : Int32)) / (1024 : Int32), μ)
set_option maxHeartbeats 1000000 in
theorem t2_worthIn {g : Bool} (x0 : Int32) (μ : zMem) : zMR yX2_worthIn cX2_worthIn 1 (some .int) 1 [.int x0] (nX g) (SX g) μ (f2_worthIn x0 μ) := by
  refine zMR_of (by decide +kernel) rfl (Nat.le_of_ble_eq_true rfl) (L := [.int x0]) rfl ?_
  unfold f2_worthIn
  refine z_iload_n (pc := 0) dX2_worthIn_0 rfl ?_
  refine z_sipush (pc := 1) (1024 : Int32) dX2_worthIn_1 (by decide) ?_
  refine z_iadd (pc := 4) dX2_worthIn_4 ?_
  refine z_iconst (pc := 5) (1 : Int32) dX2_worthIn_5 (by decide) ?_
  refine z_isub (pc := 6) dX2_worthIn_6 ?_
  refine z_sipush (pc := 7) (1024 : Int32) dX2_worthIn_7 (by decide) ?_
  refine z_idivc (pc := 10) dX2_worthIn_10 (by decide) ?_
  exact z_iret (pc := 11) rfl dX2_worthIn_11
def f2_worthAtMost (μ : zMem) : zRes := zin ((zshl (1 : Int32) (μ 49 5)) - (1 : Int32)) 512 (bnd0 (f2_worthIn (μ 52 ((zshl (1 : Int32) (μ 49 5)) - (1 : Int32)).toNatClampNeg) μ) (fun (v2 : Int32) (μ3 : zMem) => some (0, v2, μ3)))
set_option maxHeartbeats 1000000 in
theorem t2_worthAtMost {g : Bool} (μ : zMem) : zMR yX2_worthAtMost cX2_worthAtMost 1 (some .int) 2 [.ref 49] (nX g) (SX g) μ (f2_worthAtMost μ) := by
  refine zMR_of (by decide +kernel) rfl (Nat.le_of_ble_eq_true rfl) (L := [.ref 49]) rfl ?_
  unfold f2_worthAtMost
  refine z_aload_n (pc := 0) dX2_worthAtMost_0 rfl ?_
  refine z_getr (pc := 1) fdX2_18 (nx_lt (by decide)) (sx_49 g) rfl rfl dX2_worthAtMost_1 ?_
  refine z_iconst (pc := 4) (1 : Int32) dX2_worthAtMost_4 (by decide) ?_
  refine z_aload_n (pc := 5) dX2_worthAtMost_5 rfl ?_
  refine z_geti (pc := 6) fdX2_24 (nx_lt (by decide)) (sx_49 g) rfl dX2_worthAtMost_6 ?_
  refine z_ishl (pc := 9) dX2_worthAtMost_9 ?_
  refine z_iconst (pc := 10) (1 : Int32) dX2_worthAtMost_10 (by decide) ?_
  refine z_isub (pc := 11) dX2_worthAtMost_11 ?_
  refine z_iald (pc := 12) (nx_lt (by decide)) (sx_52 g) rfl dX2_worthAtMost_12 (fun h1 => ?_)
  refine z_callS (As := [.int (μ 52 ((zshl (1 : Int32) (μ 49 5)) - (1 : Int32)).toNatClampNeg)]) (pc := 13) (ret' := some .int) ksX2_71 (t2_worthIn _ _) (by decide)  rfl rfl (Nat.le_of_ble_eq_true rfl) dX2_worthAtMost_13 (fun v2 μ3 => ?_)
  exact z_iret (pc := 16) rfl dX2_worthAtMost_16
def f2_doorsAtMost (μ : zMem) : zRes := bnd0 (f2_worthAtMost μ) (fun (v1 : Int32) (μ2 : zMem) => zin ((zshl (1 : Int32) (μ2 49 5)) - (1 : Int32)) 512 (some (0, (v1 * (1024 : Int32)) - (μ2 52 ((zshl (1 : Int32) (μ2 49 5)) - (1 : Int32)).toNatClampNeg), μ2)))
set_option maxHeartbeats 1000000 in
theorem t2_doorsAtMost {g : Bool} (μ : zMem) : zMR yX2_doorsAtMost cX2_doorsAtMost 1 (some .int) 3 [.ref 49] (nX g) (SX g) μ (f2_doorsAtMost μ) := by
  refine zMR_of (by decide +kernel) rfl (Nat.le_of_ble_eq_true rfl) (L := [.ref 49]) rfl ?_
  unfold f2_doorsAtMost
  refine z_aload_n (pc := 0) dX2_doorsAtMost_0 rfl ?_
  refine z_callV (As := []) (pc := 1) (ret' := some .int) kvX2_75 (t2_worthAtMost _) (by decide) (nx_lt (by decide)) (sx_49 g)  rfl rfl (Nat.le_of_ble_eq_true rfl) dX2_doorsAtMost_1 (fun v1 μ2 => ?_)
  refine z_sipush (pc := 4) (1024 : Int32) dX2_doorsAtMost_4 (by decide) ?_
  refine z_imul (pc := 7) dX2_doorsAtMost_7 ?_
  refine z_aload_n (pc := 8) dX2_doorsAtMost_8 rfl ?_
  refine z_getr (pc := 9) fdX2_18 (nx_lt (by decide)) (sx_49 g) rfl rfl dX2_doorsAtMost_9 ?_
  refine z_iconst (pc := 12) (1 : Int32) dX2_doorsAtMost_12 (by decide) ?_
  refine z_aload_n (pc := 13) dX2_doorsAtMost_13 rfl ?_
  refine z_geti (pc := 14) fdX2_24 (nx_lt (by decide)) (sx_49 g) rfl dX2_doorsAtMost_14 ?_
  refine z_ishl (pc := 17) dX2_doorsAtMost_17 ?_
  refine z_iconst (pc := 18) (1 : Int32) dX2_doorsAtMost_18 (by decide) ?_
  refine z_isub (pc := 19) dX2_doorsAtMost_19 ?_
  refine z_iald (pc := 20) (nx_lt (by decide)) (sx_52 g) rfl dX2_doorsAtMost_20 (fun h3 => ?_)
  refine z_isub (pc := 21) dX2_doorsAtMost_21 ?_
  exact z_iret (pc := 22) rfl dX2_doorsAtMost_22
def f2_asPair (x0 : Int32) (μ : zMem) : zRes := zlet (x0 &&& (x0 - (1 : Int32))) (fun (v1 : Int32) => bnd0 (fJ6_numberOfTrailingZeros_0f7a4 x0 μ) (fun (v2 : Int32) (μ3 : zMem) => bnd0 (fJ6_numberOfTrailingZeros_0f7a4 v1 μ3) (fun (v4 : Int32) (μ5 : zMem) => some (0, ((10 : Int32) * v2) + v4, μ5))))
set_option maxHeartbeats 1000000 in
theorem t2_asPair {g : Bool} (x0 : Int32) (μ : zMem) : zMR yX2_asPair cX2_asPair 2 (some .int) 2 [.int x0] (nX g) (SX g) μ (f2_asPair x0 μ) := by
  refine zMR_of (by decide +kernel) rfl (Nat.le_of_ble_eq_true rfl) (L := [.int x0, .null]) rfl ?_
  unfold f2_asPair
  refine z_iload_n (pc := 0) dX2_asPair_0 rfl ?_
  refine z_iload_n (pc := 1) dX2_asPair_1 rfl ?_
  refine z_iconst (pc := 2) (1 : Int32) dX2_asPair_2 (by decide) ?_
  refine z_isub (pc := 3) dX2_asPair_3 ?_
  refine z_iand (pc := 4) dX2_asPair_4 ?_
  refine z_val (fun v1 => ?_)
  refine z_istore_n (pc := 5) (L' := [.int x0, .int v1]) dX2_asPair_5 (by decide) rfl ?_
  refine z_bipush (pc := 6) (10 : Int32) dX2_asPair_6 (by decide) ?_
  refine z_iload_n (pc := 8) dX2_asPair_8 rfl ?_
  refine z_callS (As := [.int x0]) (pc := 9) (ret' := some .int) ksX2_94 (tJ6_numberOfTrailingZeros_0f7a4 _ _) (by decide)  rfl rfl (Nat.le_of_ble_eq_true rfl) dX2_asPair_9 (fun v2 μ3 => ?_)
  refine z_imul (pc := 12) dX2_asPair_12 ?_
  refine z_iload_n (pc := 13) dX2_asPair_13 rfl ?_
  refine z_callS (As := [.int v1]) (pc := 14) (ret' := some .int) ksX2_94 (tJ6_numberOfTrailingZeros_0f7a4 _ _) (by decide)  rfl rfl (Nat.le_of_ble_eq_true rfl) dX2_asPair_14 (fun v4 μ5 => ?_)
  refine z_iadd (pc := 17) dX2_asPair_17 ?_
  exact z_iret (pc := 18) rfl dX2_asPair_18
def f2_seat_L34 (F : Int32 → Int32 → Int32 → zMem → zRes) (x1 : Int32) (x2 : Int32) (x3 : Int32) (K102 : zMem → zRes) (K83 : Int32 → zMem → zRes) : Nat → Int32 → zMem → zRes
  | 0, _, _ => none
  | n + 1, x4, μ => zin x3 10 (if (μ 51 x3.toNatClampNeg) ≤ x4 then K102 μ else zin ((x3 * (36 : Int32)) + x4) 360 (zlet (μ 50 ((x3 * (36 : Int32)) + x4).toNatClampNeg) (fun (v9 : Int32) => zlet (fun (μ10 : zMem) => f2_seat_L34 F x1 x2 x3 K102 K83 n (x4 + (1 : Int32)) μ10) (fun j11 => if (x2 &&& v9) = v9 then bnd0 (F x1 (x2 ^^^ v9) (x3 + (1 : Int32)) μ) (fun (v14 : Int32) (μ15 : zMem) => if v14 = 0 then j11 μ15 else K83 v9 μ15) else j11 μ))))
def f2_seatB (F : Int32 → Int32 → Int32 → zMem → zRes) (x1 : Int32) (x2 : Int32) (x3 : Int32) (μ : zMem) : zRes := if x3 < (μ 2 2) then if ((zshr x1 x3) &&& (1 : Int32)) = 0 then bnd0 (F x1 x2 (x3 + (1 : Int32)) μ) (fun (v25 : Int32) (μ26 : zMem) => zbl v25 (some (0, v25, μ26))) else f2_seat_L34 F x1 x2 x3 (fun (μ18 : zMem) => some (0, (0 : Int32), μ18)) (fun (x5_19 : Int32) (μ20 : zMem) => bnd0 (f2_asPair x5_19 μ20) (fun (v21 : Int32) (μ22 : zMem) => zin x3 10 (zlet (zset μ22 53 x3.toNatClampNeg v21) (fun (μ24 : zMem) => some (0, (1 : Int32), μ24))))) zF (0 : Int32) μ else some (0, (1 : Int32), μ)
def f2_seat : Nat → Int32 → Int32 → Int32 → zMem → zRes
  | 0, _, _, _, _ => none
  | n + 1, x1, x2, x3, μ => f2_seatB  (f2_seat n) x1 x2 x3 μ
set_option maxHeartbeats 1000000 in
theorem t2_seat_L34 {g : Bool} {d dd : Nat} (hd1 : dd + 1 ≤ d) (hd2 : 3 ≤ d) (F : Int32 → Int32 → Int32 → zMem → zRes) (hF : ∀ (x1 : Int32) (x2 : Int32) (x3 : Int32) (μ : zMem), zMR yX2_seat cX2_seat 6 (some .boolean) dd [.ref 49, .int x1, .int x2, .int x3] (nX g) (SX g) μ (F x1 x2 x3 μ)) (x1 : Int32) (x2 : Int32) (x3 : Int32) (K102 : zMem → zRes) (K83 : Int32 → zMem → zRes) (hK102 : ∀ (μ : zMem), zR yX2_seat cX2_seat 6 (some .boolean) d 102 [.null, .null, .null, .null, .null, .null] [] (nX g) (SX g) μ (K102 μ)) (hK83 : ∀ (x5 : Int32) (μ : zMem), zR yX2_seat cX2_seat 6 (some .boolean) d 83 [.ref 49, .null, .null, .int x3, .null, .int x5] [] (nX g) (SX g) μ (K83 x5 μ)) : ∀ (n : Nat) (x4 : Int32) (μ : zMem), zR yX2_seat cX2_seat 6 (some .boolean) d 34 [.ref 49, .int x1, .int x2, .int x3, .int x4, .null] [] (nX g) (SX g) μ (f2_seat_L34 F x1 x2 x3 K102 K83 n x4 μ) := by
  intro n
  induction n with
  | zero => intro x4 μ; intro q hq; cases hq
  | succ n ih =>
    intro x4 μ
    unfold f2_seat_L34
    refine z_iload (pc := 34) dX2_seat_34 rfl ?_
    refine z_aload_n (pc := 36) dX2_seat_36 rfl ?_
    refine z_getr (pc := 37) fdX2_15 (nx_lt (by decide)) (sx_49 g) rfl rfl dX2_seat_37 ?_
    refine z_iload_n (pc := 40) dX2_seat_40 rfl ?_
    refine z_iald (pc := 41) (nx_lt (by decide)) (sx_51 g) rfl dX2_seat_41 (fun h5 => ?_)
    refine z_icmp_ge (pc := 42) (tgt := 102) dX2_seat_42 (by decide) (fun c6 => ?_) (fun c7 => ?_)
    · refine z_loc (L' := [.null, .null, .null, .null, .null, .null]) ⟨Or.inl rfl, ⟨Or.inl rfl, ⟨Or.inl rfl, ⟨Or.inl rfl, ⟨Or.inl rfl, ⟨Or.inl rfl, trivial⟩⟩⟩⟩⟩⟩ ?_
      exact hK102 μ
    · refine z_aload_n (pc := 45) dX2_seat_45 rfl ?_
      refine z_getr (pc := 46) fdX2_11 (nx_lt (by decide)) (sx_49 g) rfl rfl dX2_seat_46 ?_
      refine z_iload_n (pc := 49) dX2_seat_49 rfl ?_
      refine z_bipush (pc := 50) (36 : Int32) dX2_seat_50 (by decide) ?_
      refine z_imul (pc := 52) dX2_seat_52 ?_
      refine z_iload (pc := 53) dX2_seat_53 rfl ?_
      refine z_iadd (pc := 55) dX2_seat_55 ?_
      refine z_iald (pc := 56) (nx_lt (by decide)) (sx_50 g) rfl dX2_seat_56 (fun h8 => ?_)
      refine z_val (fun v9 => ?_)
      refine z_istore (pc := 57) (L' := [.ref 49, .int x1, .int x2, .int x3, .int x4, .int v9]) dX2_seat_57 (by decide) rfl ?_
      refine z_iload_n (pc := 59) dX2_seat_59 rfl ?_
      refine z_iload (pc := 60) dX2_seat_60 rfl ?_
      refine z_iand (pc := 62) dX2_seat_62 ?_
      refine z_iload (pc := 63) dX2_seat_63 rfl ?_
      refine z_let (fun (j : zMem → zRes) => ∀ (μ10 : zMem), zR yX2_seat cX2_seat 6 (some .boolean) d 96 [.ref 49, .int x1, .int x2, .int x3, .int x4, .null] [] (nX g) (SX g) μ10 (j μ10)) ?_ (fun j11 hj11 => ?_)
      · intro μ10
        refine z_iinc (pc := 96) (v := x4 + (1 : Int32)) (L' := [.ref 49, .int x1, .int x2, .int x3, .int (x4 + (1 : Int32)), .null]) dX2_seat_96 (by decide) rfl (congrArg _ (by decide)) rfl ?_
        refine z_goto (pc := 99) (tgt := 34) dX2_seat_99 (by decide) ?_
        exact ih (x4 + (1 : Int32)) μ10
      · refine z_icmp_ne (pc := 65) (tgt := 96) dX2_seat_65 (by decide) (fun c12 => ?_) (fun c13 => ?_)
        · refine z_loc (L' := [.ref 49, .int x1, .int x2, .int x3, .int x4, .null]) ⟨Or.inr rfl, ⟨Or.inr rfl, ⟨Or.inr rfl, ⟨Or.inr rfl, ⟨Or.inr rfl, ⟨Or.inl rfl, trivial⟩⟩⟩⟩⟩⟩ ?_
          exact hj11 μ
        · refine z_aload_n (pc := 68) dX2_seat_68 rfl ?_
          refine z_iload_n (pc := 69) dX2_seat_69 rfl ?_
          refine z_iload_n (pc := 70) dX2_seat_70 rfl ?_
          refine z_iload (pc := 71) dX2_seat_71 rfl ?_
          refine z_ixor (pc := 73) dX2_seat_73 ?_
          refine z_iload_n (pc := 74) dX2_seat_74 rfl ?_
          refine z_iconst (pc := 75) (1 : Int32) dX2_seat_75 (by decide) ?_
          refine z_iadd (pc := 76) dX2_seat_76 ?_
          refine z_callS (As := [.ref 49, .int x1, .int (x2 ^^^ v9), .int (x3 + (1 : Int32))]) (pc := 77) (ret' := some .boolean) ksX2_87 (hF _ _ _ _) hd1  rfl rfl (Nat.le_of_ble_eq_true rfl) dX2_seat_77 (fun v14 μ15 => ?_)
          refine z_if_eq (pc := 80) (tgt := 96) dX2_seat_80 (by decide) (fun c16 => ?_) (fun c17 => ?_)
          · refine z_loc (L' := [.ref 49, .int x1, .int x2, .int x3, .int x4, .null]) ⟨Or.inr rfl, ⟨Or.inr rfl, ⟨Or.inr rfl, ⟨Or.inr rfl, ⟨Or.inr rfl, ⟨Or.inl rfl, trivial⟩⟩⟩⟩⟩⟩ ?_
            exact hj11 μ15
          · refine z_loc (L' := [.ref 49, .null, .null, .int x3, .null, .int v9]) ⟨Or.inr rfl, ⟨Or.inl rfl, ⟨Or.inl rfl, ⟨Or.inr rfl, ⟨Or.inl rfl, ⟨Or.inr rfl, trivial⟩⟩⟩⟩⟩⟩ ?_
            exact hK83 v9 μ15
set_option maxHeartbeats 1000000 in
theorem t2_seatB {g : Bool} {d dd : Nat} (hd1 : dd + 1 ≤ d) (hd2 : 3 ≤ d) (F : Int32 → Int32 → Int32 → zMem → zRes) (hF : ∀ (x1 : Int32) (x2 : Int32) (x3 : Int32) (μ : zMem), zMR yX2_seat cX2_seat 6 (some .boolean) dd [.ref 49, .int x1, .int x2, .int x3] (nX g) (SX g) μ (F x1 x2 x3 μ)) (x1 : Int32) (x2 : Int32) (x3 : Int32) (μ : zMem) : zMR yX2_seat cX2_seat 6 (some .boolean) d [.ref 49, .int x1, .int x2, .int x3] (nX g) (SX g) μ (f2_seatB F x1 x2 x3 μ) := by
  refine zMR_of (by decide +kernel) rfl (Nat.le_of_ble_eq_true rfl) (L := [.ref 49, .int x1, .int x2, .int x3, .null, .null]) rfl ?_
  unfold f2_seatB
  refine z_iload_n (pc := 0) dX2_seat_0 rfl ?_
  refine z_aload_n (pc := 1) dX2_seat_1 rfl ?_
  refine z_getr (pc := 2) fdX2_28 (nx_lt (by decide)) (sx_49 g) rfl rfl dX2_seat_2 ?_
  refine z_geti (pc := 5) fdX2_44 (nx_lt (by decide)) (sx_2 g) rfl dX2_seat_5 ?_
  refine z_icmp_lt (pc := 8) (tgt := 13) dX2_seat_8 (by decide) (fun c1 => ?_) (fun c2 => ?_)
  · refine z_iload_n (pc := 13) dX2_seat_13 rfl ?_
    refine z_iload_n (pc := 14) dX2_seat_14 rfl ?_
    refine z_ishr (pc := 15) dX2_seat_15 ?_
    refine z_iconst (pc := 16) (1 : Int32) dX2_seat_16 (by decide) ?_
    refine z_iand (pc := 17) dX2_seat_17 ?_
    refine z_if_ne (pc := 18) (tgt := 31) dX2_seat_18 (by decide) (fun c3 => ?_) (fun c4 => ?_)
    · refine z_iconst (pc := 31) (0 : Int32) dX2_seat_31 (by decide) ?_
      refine z_istore (pc := 32) (L' := [.ref 49, .int x1, .int x2, .int x3, .int (0 : Int32), .null]) dX2_seat_32 (by decide) rfl ?_
      refine t2_seat_L34 hd1 hd2 _ hF _ _ _ _ _ (fun μ18 => ?_) (fun x5_19 μ20 => ?_) zF _ _
      · refine z_iconst (pc := 102) (0 : Int32) dX2_seat_102 (by decide) ?_
        exact z_zretc (pc := 103) rfl (Or.inl rfl) dX2_seat_103
      · refine z_aload_n (pc := 83) dX2_seat_83 rfl ?_
        refine z_getr (pc := 84) fdX2_21 (nx_lt (by decide)) (sx_49 g) rfl rfl dX2_seat_84 ?_
        refine z_iload_n (pc := 87) dX2_seat_87 rfl ?_
        refine z_iload (pc := 88) dX2_seat_88 rfl ?_
        refine z_callS (As := [.int x5_19]) (pc := 90) (ret' := some .int) ksX2_91 (t2_asPair _ _) (Nat.le_trans (by decide) hd2)  rfl rfl (Nat.le_of_ble_eq_true rfl) dX2_seat_90 (fun v21 μ22 => ?_)
        refine z_iast (pc := 93) (nx_lt (by decide)) (sx_53 g) rfl dX2_seat_93 (fun h23 => ?_)
        refine z_mem (fun μ24 => ?_)
        refine z_iconst (pc := 94) (1 : Int32) dX2_seat_94 (by decide) ?_
        exact z_zretc (pc := 95) rfl (Or.inr rfl) dX2_seat_95
    · refine z_aload_n (pc := 21) dX2_seat_21 rfl ?_
      refine z_iload_n (pc := 22) dX2_seat_22 rfl ?_
      refine z_iload_n (pc := 23) dX2_seat_23 rfl ?_
      refine z_iload_n (pc := 24) dX2_seat_24 rfl ?_
      refine z_iconst (pc := 25) (1 : Int32) dX2_seat_25 (by decide) ?_
      refine z_iadd (pc := 26) dX2_seat_26 ?_
      refine z_callS (As := [.ref 49, .int x1, .int x2, .int (x3 + (1 : Int32))]) (pc := 27) (ret' := some .boolean) ksX2_87 (hF _ _ _ _) hd1  rfl rfl (Nat.le_of_ble_eq_true rfl) dX2_seat_27 (fun v25 μ26 => ?_)
      exact z_zret (pc := 30) rfl dX2_seat_30
  · refine z_iconst (pc := 11) (1 : Int32) dX2_seat_11 (by decide) ?_
    exact z_zretc (pc := 12) rfl (Or.inr rfl) dX2_seat_12
theorem t2_seat {g : Bool} : ∀ (n : Nat) (x1 : Int32) (x2 : Int32) (x3 : Int32) (μ : zMem), zMR yX2_seat cX2_seat 6 (some .boolean) (n + 3) [.ref 49, .int x1, .int x2, .int x3] (nX g) (SX g) μ (f2_seat n x1 x2 x3 μ) := by
  intro n
  induction n with
  | zero => intro x1 x2 x3 μ q hq; cases hq
  | succ n ih =>
    intro x1 x2 x3 μ
    exact t2_seatB (by omega) (by omega) _ ih x1 x2 x3 μ
def f2_seatedAt (x1 : Int32) (μ : zMem) : zRes := bnd0 (fJ7_fill_53178 53 10 (-1 : Int32) μ) (fun (v1 : Int32) (μ2 : zMem) => bnd0 (f2_doorsAtMost μ2) (fun (v3 : Int32) (μ4 : zMem) => bnd0 (f2_seat 12 v3 ((zshl (1 : Int32) (μ4 49 5)) - (1 : Int32)) (0 : Int32) μ4) (fun (v5 : Int32) (μ6 : zMem) => zin x1 10 (some (0, μ6 53 x1.toNatClampNeg, μ6)))))
set_option maxHeartbeats 1000000 in
theorem t2_seatedAt {g : Bool} (x1 : Int32) (μ : zMem) : zMR yX2_seatedAt cX2_seatedAt 2 (some .int) 16 [.ref 49, .int x1] (nX g) (SX g) μ (f2_seatedAt x1 μ) := by
  refine zMR_of (by decide +kernel) rfl (Nat.le_of_ble_eq_true rfl) (L := [.ref 49, .int x1]) rfl ?_
  unfold f2_seatedAt
  refine z_aload_n (pc := 0) dX2_seatedAt_0 rfl ?_
  refine z_getr (pc := 1) fdX2_21 (nx_lt (by decide)) (sx_49 g) rfl rfl dX2_seatedAt_1 ?_
  refine z_iconst (pc := 4) (-1 : Int32) dX2_seatedAt_4 (by decide) ?_
  refine z_callS (As := [.ref 53, .int (-1 : Int32)]) (pc := 5) (ret' := none) ksX2_35 (tJ7_fill_53178 (nx_lt (by decide)) (sx_53 g) _ _) (by decide)  rfl rfl (Nat.le_of_ble_eq_true rfl) dX2_seatedAt_5 (fun v1 μ2 => ?_)
  refine z_aload_n (pc := 8) dX2_seatedAt_8 rfl ?_
  refine z_aload_n (pc := 9) dX2_seatedAt_9 rfl ?_
  refine z_callV (As := []) (pc := 10) (ret' := some .int) kvX2_84 (t2_doorsAtMost _) (by decide) (nx_lt (by decide)) (sx_49 g)  rfl rfl (Nat.le_of_ble_eq_true rfl) dX2_seatedAt_10 (fun v3 μ4 => ?_)
  refine z_iconst (pc := 13) (1 : Int32) dX2_seatedAt_13 (by decide) ?_
  refine z_aload_n (pc := 14) dX2_seatedAt_14 rfl ?_
  refine z_geti (pc := 15) fdX2_24 (nx_lt (by decide)) (sx_49 g) rfl dX2_seatedAt_15 ?_
  refine z_ishl (pc := 18) dX2_seatedAt_18 ?_
  refine z_iconst (pc := 19) (1 : Int32) dX2_seatedAt_19 (by decide) ?_
  refine z_isub (pc := 20) dX2_seatedAt_20 ?_
  refine z_iconst (pc := 21) (0 : Int32) dX2_seatedAt_21 (by decide) ?_
  refine z_callS (As := [.ref 49, .int v3, .int ((zshl (1 : Int32) (μ4 49 5)) - (1 : Int32)), .int (0 : Int32)]) (pc := 22) (ret' := some .boolean) ksX2_87 (t2_seat 12 _ _ _ _) (by decide)  rfl rfl (Nat.le_of_ble_eq_true rfl) dX2_seatedAt_22 (fun v5 μ6 => ?_)
  refine z_pop (pc := 25) dX2_seatedAt_25 rfl ?_
  refine z_aload_n (pc := 26) dX2_seatedAt_26 rfl ?_
  refine z_getr (pc := 27) fdX2_21 (nx_lt (by decide)) (sx_49 g) rfl rfl dX2_seatedAt_27 ?_
  refine z_iload_n (pc := 30) dX2_seatedAt_30 rfl ?_
  refine z_iald (pc := 31) (nx_lt (by decide)) (sx_53 g) rfl dX2_seatedAt_31 (fun h7 => ?_)
  exact z_iret (pc := 32) rfl dX2_seatedAt_32
def f2_greatestWorths_L19 (x2 : Int32) (μ : zMem) (K101 : Int32 → zRes) : Nat → Int32 → Int32 → zRes
  | 0, _, _ => none
  | n + 1, x5, x6 => if (μ 2 2) ≤ x6 then K101 x5 else zlet (fun (s5 : Int32) => zlet (fun (x5_6 : Int32) => f2_greatestWorths_L19 x2 μ K101 n x5_6 (x6 + (1 : Int32))) (fun j7 => if s5 = 0 then j7 x5 else zlet (j7 x6) (fun j10 => if x5 = (-1 : Int32) then j10 else zin x6 10 (zin x5 10 (if (μ 8 x6.toNatClampNeg) ≤ (μ 8 x5.toNatClampNeg) then j7 x5 else j10))))) (fun j17 => zlet (j17 (0 : Int32)) (fun j18 => if ((zshr x2 x6) &&& (1 : Int32)) = 0 then zin x6 10 (if (μ 51 x6.toNatClampNeg) ≤ 0 then j18 else j17 (1 : Int32)) else j18))
def f2_greatestWorths_L7 (x1 : Int32) (μ : zMem) (K133 : Int32 → zRes) : Nat → Int32 → Int32 → Int32 → zRes
  | 0, _, _, _ => none
  | n + 1, x2, x3, x4 => if x1 ≤ x4 then K133 x3 else f2_greatestWorths_L19 x2 μ (fun (x5_24 : Int32) => zlet (fun (x2_25 : Int32) (x3_26 : Int32) => f2_greatestWorths_L7 x1 μ K133 n x2_25 x3_26 (x4 + (1 : Int32))) (fun j27 => if x5_24 = (-1 : Int32) then j27 x2 x3 else zlet (x2 ||| (zshl (1 : Int32) x5_24)) (fun (v30 : Int32) => zin x5_24 10 (zlet (x3 + (μ 8 x5_24.toNatClampNeg)) (fun (v32 : Int32) => j27 v30 v32))))) zF (-1 : Int32) (0 : Int32)
def f2_greatestWorths (x1 : Int32) (μ : zMem) : zRes := f2_greatestWorths_L7 x1 μ (fun (x3_33 : Int32) => some (0, x3_33, μ)) zF (0 : Int32) (0 : Int32) (0 : Int32)
set_option maxHeartbeats 1000000 in
theorem t2_greatestWorths_L19 {g : Bool} (x1 : Int32) (x2 : Int32) (x3 : Int32) (x4 : Int32) (μ : zMem) (K101 : Int32 → zRes) (hK101 : ∀ (x5 : Int32), zR yX2_greatestWorths cX2_greatestWorths 8 (some .int) 1 101 [.ref 49, .int x1, .int x2, .int x3, .int x4, .int x5, .null, .null] [] (nX g) (SX g) μ (K101 x5)) : ∀ (n : Nat) (x5 : Int32) (x6 : Int32), zR yX2_greatestWorths cX2_greatestWorths 8 (some .int) 1 19 [.ref 49, .int x1, .int x2, .int x3, .int x4, .int x5, .int x6, .null] [] (nX g) (SX g) μ (f2_greatestWorths_L19 x2 μ K101 n x5 x6) := by
  intro n
  induction n with
  | zero => intro x5 x6; intro q hq; cases hq
  | succ n ih =>
    intro x5 x6
    unfold f2_greatestWorths_L19
    refine z_iload (pc := 19) dX2_greatestWorths_19 rfl ?_
    refine z_aload_n (pc := 21) dX2_greatestWorths_21 rfl ?_
    refine z_getr (pc := 22) fdX2_28 (nx_lt (by decide)) (sx_49 g) rfl rfl dX2_greatestWorths_22 ?_
    refine z_geti (pc := 25) fdX2_44 (nx_lt (by decide)) (sx_2 g) rfl dX2_greatestWorths_25 ?_
    refine z_icmp_ge (pc := 28) (tgt := 101) dX2_greatestWorths_28 (by decide) (fun c3 => ?_) (fun c4 => ?_)
    · refine z_loc (L' := [.ref 49, .int x1, .int x2, .int x3, .int x4, .int x5, .null, .null]) ⟨Or.inr rfl, ⟨Or.inr rfl, ⟨Or.inr rfl, ⟨Or.inr rfl, ⟨Or.inr rfl, ⟨Or.inr rfl, ⟨Or.inl rfl, ⟨Or.inl rfl, trivial⟩⟩⟩⟩⟩⟩⟩⟩ ?_
      exact hK101 x5
    · refine z_iload_n (pc := 31) dX2_greatestWorths_31 rfl ?_
      refine z_iload (pc := 32) dX2_greatestWorths_32 rfl ?_
      refine z_ishr (pc := 34) dX2_greatestWorths_34 ?_
      refine z_iconst (pc := 35) (1 : Int32) dX2_greatestWorths_35 (by decide) ?_
      refine z_iand (pc := 36) dX2_greatestWorths_36 ?_
      refine z_let (fun (j : Int32 → zRes) => ∀ (s5 : Int32), zR yX2_greatestWorths cX2_greatestWorths 8 (some .int) 1 55 [.ref 49, .int x1, .int x2, .int x3, .int x4, .int x5, .int x6, .null] [.int s5] (nX g) (SX g) μ (j s5)) ?_ (fun j17 hj17 => ?_)
      · intro s5
        refine z_istore (pc := 55) (L' := [.ref 49, .int x1, .int x2, .int x3, .int x4, .int x5, .int x6, .int s5]) dX2_greatestWorths_55 (by decide) rfl ?_
        refine z_iload (pc := 57) dX2_greatestWorths_57 rfl ?_
        refine z_let (fun (j : Int32 → zRes) => ∀ (x5_6 : Int32), zR yX2_greatestWorths cX2_greatestWorths 8 (some .int) 1 95 [.ref 49, .int x1, .int x2, .int x3, .int x4, .int x5_6, .int x6, .null] [] (nX g) (SX g) μ (j x5_6)) ?_ (fun j7 hj7 => ?_)
        · intro x5_6
          refine z_iinc (pc := 95) (v := x6 + (1 : Int32)) (L' := [.ref 49, .int x1, .int x2, .int x3, .int x4, .int x5_6, .int (x6 + (1 : Int32)), .null]) dX2_greatestWorths_95 (by decide) rfl (congrArg _ (by decide)) rfl ?_
          refine z_goto (pc := 98) (tgt := 19) dX2_greatestWorths_98 (by decide) ?_
          exact ih x5_6 (x6 + (1 : Int32))
        · refine z_if_eq (pc := 59) (tgt := 95) dX2_greatestWorths_59 (by decide) (fun c8 => ?_) (fun c9 => ?_)
          · refine z_loc (L' := [.ref 49, .int x1, .int x2, .int x3, .int x4, .int x5, .int x6, .null]) ⟨Or.inr rfl, ⟨Or.inr rfl, ⟨Or.inr rfl, ⟨Or.inr rfl, ⟨Or.inr rfl, ⟨Or.inr rfl, ⟨Or.inr rfl, ⟨Or.inl rfl, trivial⟩⟩⟩⟩⟩⟩⟩⟩ ?_
            exact hj7 x5
          · refine z_iload (pc := 62) dX2_greatestWorths_62 rfl ?_
            refine z_iconst (pc := 64) (-1 : Int32) dX2_greatestWorths_64 (by decide) ?_
            refine z_let (fun (j : zRes) => zR yX2_greatestWorths cX2_greatestWorths 8 (some .int) 1 91 [.ref 49, .int x1, .int x2, .int x3, .int x4, .null, .int x6, .null] [] (nX g) (SX g) μ (j)) ?_ (fun j10 hj10 => ?_)
            · refine z_iload (pc := 91) dX2_greatestWorths_91 rfl ?_
              refine z_istore (pc := 93) (L' := [.ref 49, .int x1, .int x2, .int x3, .int x4, .int x6, .int x6, .null]) dX2_greatestWorths_93 (by decide) rfl ?_
              exact hj7 x6
            · refine z_icmp_eq (pc := 65) (tgt := 91) dX2_greatestWorths_65 (by decide) (fun c11 => ?_) (fun c12 => ?_)
              · refine z_loc (L' := [.ref 49, .int x1, .int x2, .int x3, .int x4, .null, .int x6, .null]) ⟨Or.inr rfl, ⟨Or.inr rfl, ⟨Or.inr rfl, ⟨Or.inr rfl, ⟨Or.inr rfl, ⟨Or.inl rfl, ⟨Or.inr rfl, ⟨Or.inl rfl, trivial⟩⟩⟩⟩⟩⟩⟩⟩ ?_
                exact hj10
              · refine z_aload_n (pc := 68) dX2_greatestWorths_68 rfl ?_
                refine z_getr (pc := 69) fdX2_28 (nx_lt (by decide)) (sx_49 g) rfl rfl dX2_greatestWorths_69 ?_
                refine z_getr (pc := 72) fdX2_68 (nx_lt (by decide)) (sx_2 g) rfl rfl dX2_greatestWorths_72 ?_
                refine z_iload (pc := 75) dX2_greatestWorths_75 rfl ?_
                refine z_iald (pc := 77) (nx_lt (by decide)) (sx_8 g) rfl dX2_greatestWorths_77 (fun h13 => ?_)
                refine z_aload_n (pc := 78) dX2_greatestWorths_78 rfl ?_
                refine z_getr (pc := 79) fdX2_28 (nx_lt (by decide)) (sx_49 g) rfl rfl dX2_greatestWorths_79 ?_
                refine z_getr (pc := 82) fdX2_68 (nx_lt (by decide)) (sx_2 g) rfl rfl dX2_greatestWorths_82 ?_
                refine z_iload (pc := 85) dX2_greatestWorths_85 rfl ?_
                refine z_iald (pc := 87) (nx_lt (by decide)) (sx_8 g) rfl dX2_greatestWorths_87 (fun h14 => ?_)
                refine z_icmp_le (pc := 88) (tgt := 95) dX2_greatestWorths_88 (by decide) (fun c15 => ?_) (fun c16 => ?_)
                · refine z_loc (L' := [.ref 49, .int x1, .int x2, .int x3, .int x4, .int x5, .int x6, .null]) ⟨Or.inr rfl, ⟨Or.inr rfl, ⟨Or.inr rfl, ⟨Or.inr rfl, ⟨Or.inr rfl, ⟨Or.inr rfl, ⟨Or.inr rfl, ⟨Or.inl rfl, trivial⟩⟩⟩⟩⟩⟩⟩⟩ ?_
                  exact hj7 x5
                · refine z_loc (L' := [.ref 49, .int x1, .int x2, .int x3, .int x4, .null, .int x6, .null]) ⟨Or.inr rfl, ⟨Or.inr rfl, ⟨Or.inr rfl, ⟨Or.inr rfl, ⟨Or.inr rfl, ⟨Or.inl rfl, ⟨Or.inr rfl, ⟨Or.inl rfl, trivial⟩⟩⟩⟩⟩⟩⟩⟩ ?_
                  exact hj10
      · refine z_let (fun (j : zRes) => zR yX2_greatestWorths cX2_greatestWorths 8 (some .int) 1 54 [.ref 49, .int x1, .int x2, .int x3, .int x4, .int x5, .int x6, .null] [] (nX g) (SX g) μ (j)) ?_ (fun j18 hj18 => ?_)
        · refine z_iconst (pc := 54) (0 : Int32) dX2_greatestWorths_54 (by decide) ?_
          exact hj17 (0 : Int32)
        · refine z_if_ne (pc := 37) (tgt := 54) dX2_greatestWorths_37 (by decide) (fun c19 => ?_) (fun c20 => ?_)
          · exact hj18
          · refine z_aload_n (pc := 40) dX2_greatestWorths_40 rfl ?_
            refine z_getr (pc := 41) fdX2_15 (nx_lt (by decide)) (sx_49 g) rfl rfl dX2_greatestWorths_41 ?_
            refine z_iload (pc := 44) dX2_greatestWorths_44 rfl ?_
            refine z_iald (pc := 46) (nx_lt (by decide)) (sx_51 g) rfl dX2_greatestWorths_46 (fun h21 => ?_)
            refine z_if_le (pc := 47) (tgt := 54) dX2_greatestWorths_47 (by decide) (fun c22 => ?_) (fun c23 => ?_)
            · exact hj18
            · refine z_iconst (pc := 50) (1 : Int32) dX2_greatestWorths_50 (by decide) ?_
              refine z_goto (pc := 51) (tgt := 55) dX2_greatestWorths_51 (by decide) ?_
              exact hj17 (1 : Int32)
set_option maxHeartbeats 1000000 in
theorem t2_greatestWorths_L7 {g : Bool} (x1 : Int32) (μ : zMem) (K133 : Int32 → zRes) (hK133 : ∀ (x3 : Int32), zR yX2_greatestWorths cX2_greatestWorths 8 (some .int) 1 133 [.null, .null, .null, .int x3, .null, .null, .null, .null] [] (nX g) (SX g) μ (K133 x3)) : ∀ (n : Nat) (x2 : Int32) (x3 : Int32) (x4 : Int32), zR yX2_greatestWorths cX2_greatestWorths 8 (some .int) 1 7 [.ref 49, .int x1, .int x2, .int x3, .int x4, .null, .null, .null] [] (nX g) (SX g) μ (f2_greatestWorths_L7 x1 μ K133 n x2 x3 x4) := by
  intro n
  induction n with
  | zero => intro x2 x3 x4; intro q hq; cases hq
  | succ n ih =>
    intro x2 x3 x4
    unfold f2_greatestWorths_L7
    refine z_iload (pc := 7) dX2_greatestWorths_7 rfl ?_
    refine z_iload_n (pc := 9) dX2_greatestWorths_9 rfl ?_
    refine z_icmp_ge (pc := 10) (tgt := 133) dX2_greatestWorths_10 (by decide) (fun c1 => ?_) (fun c2 => ?_)
    · refine z_loc (L' := [.null, .null, .null, .int x3, .null, .null, .null, .null]) ⟨Or.inl rfl, ⟨Or.inl rfl, ⟨Or.inl rfl, ⟨Or.inr rfl, ⟨Or.inl rfl, ⟨Or.inl rfl, ⟨Or.inl rfl, ⟨Or.inl rfl, trivial⟩⟩⟩⟩⟩⟩⟩⟩ ?_
      exact hK133 x3
    · refine z_iconst (pc := 13) (-1 : Int32) dX2_greatestWorths_13 (by decide) ?_
      refine z_istore (pc := 14) (L' := [.ref 49, .int x1, .int x2, .int x3, .int x4, .int (-1 : Int32), .null, .null]) dX2_greatestWorths_14 (by decide) rfl ?_
      refine z_iconst (pc := 16) (0 : Int32) dX2_greatestWorths_16 (by decide) ?_
      refine z_istore (pc := 17) (L' := [.ref 49, .int x1, .int x2, .int x3, .int x4, .int (-1 : Int32), .int (0 : Int32), .null]) dX2_greatestWorths_17 (by decide) rfl ?_
      refine t2_greatestWorths_L19 _ _ _ _ _ _ (fun x5_24 => ?_) zF _ _
      · refine z_iload (pc := 101) dX2_greatestWorths_101 rfl ?_
        refine z_iconst (pc := 103) (-1 : Int32) dX2_greatestWorths_103 (by decide) ?_
        refine z_let (fun (j : Int32 → Int32 → zRes) => ∀ (x2_25 : Int32) (x3_26 : Int32), zR yX2_greatestWorths cX2_greatestWorths 8 (some .int) 1 127 [.ref 49, .int x1, .int x2_25, .int x3_26, .int x4, .null, .null, .null] [] (nX g) (SX g) μ (j x2_25 x3_26)) ?_ (fun j27 hj27 => ?_)
        · intro x2_25 x3_26
          refine z_iinc (pc := 127) (v := x4 + (1 : Int32)) (L' := [.ref 49, .int x1, .int x2_25, .int x3_26, .int (x4 + (1 : Int32)), .null, .null, .null]) dX2_greatestWorths_127 (by decide) rfl (congrArg _ (by decide)) rfl ?_
          refine z_goto (pc := 130) (tgt := 7) dX2_greatestWorths_130 (by decide) ?_
          exact ih x2_25 x3_26 (x4 + (1 : Int32))
        · refine z_icmp_eq (pc := 104) (tgt := 127) dX2_greatestWorths_104 (by decide) (fun c28 => ?_) (fun c29 => ?_)
          · refine z_loc (L' := [.ref 49, .int x1, .int x2, .int x3, .int x4, .null, .null, .null]) ⟨Or.inr rfl, ⟨Or.inr rfl, ⟨Or.inr rfl, ⟨Or.inr rfl, ⟨Or.inr rfl, ⟨Or.inl rfl, ⟨Or.inl rfl, ⟨Or.inl rfl, trivial⟩⟩⟩⟩⟩⟩⟩⟩ ?_
            exact hj27 x2 x3
          · refine z_iload_n (pc := 107) dX2_greatestWorths_107 rfl ?_
            refine z_iconst (pc := 108) (1 : Int32) dX2_greatestWorths_108 (by decide) ?_
            refine z_iload (pc := 109) dX2_greatestWorths_109 rfl ?_
            refine z_ishl (pc := 111) dX2_greatestWorths_111 ?_
            refine z_ior (pc := 112) dX2_greatestWorths_112 ?_
            refine z_val (fun v30 => ?_)
            refine z_istore_n (pc := 113) (L' := [.ref 49, .int x1, .int v30, .int x3, .int x4, .int x5_24, .null, .null]) dX2_greatestWorths_113 (by decide) rfl ?_
            refine z_iload_n (pc := 114) dX2_greatestWorths_114 rfl ?_
            refine z_aload_n (pc := 115) dX2_greatestWorths_115 rfl ?_
            refine z_getr (pc := 116) fdX2_28 (nx_lt (by decide)) (sx_49 g) rfl rfl dX2_greatestWorths_116 ?_
            refine z_getr (pc := 119) fdX2_68 (nx_lt (by decide)) (sx_2 g) rfl rfl dX2_greatestWorths_119 ?_
            refine z_iload (pc := 122) dX2_greatestWorths_122 rfl ?_
            refine z_iald (pc := 124) (nx_lt (by decide)) (sx_8 g) rfl dX2_greatestWorths_124 (fun h31 => ?_)
            refine z_iadd (pc := 125) dX2_greatestWorths_125 ?_
            refine z_val (fun v32 => ?_)
            refine z_istore_n (pc := 126) (L' := [.ref 49, .int x1, .int v30, .int v32, .int x4, .int x5_24, .null, .null]) dX2_greatestWorths_126 (by decide) rfl ?_
            refine z_loc (L' := [.ref 49, .int x1, .int v30, .int v32, .int x4, .null, .null, .null]) ⟨Or.inr rfl, ⟨Or.inr rfl, ⟨Or.inr rfl, ⟨Or.inr rfl, ⟨Or.inr rfl, ⟨Or.inl rfl, ⟨Or.inl rfl, ⟨Or.inl rfl, trivial⟩⟩⟩⟩⟩⟩⟩⟩ ?_
            exact hj27 v30 v32
set_option maxHeartbeats 1000000 in
theorem t2_greatestWorths {g : Bool} (x1 : Int32) (μ : zMem) : zMR yX2_greatestWorths cX2_greatestWorths 8 (some .int) 1 [.ref 49, .int x1] (nX g) (SX g) μ (f2_greatestWorths x1 μ) := by
  refine zMR_of (by decide +kernel) rfl (Nat.le_of_ble_eq_true rfl) (L := [.ref 49, .int x1, .null, .null, .null, .null, .null, .null]) rfl ?_
  unfold f2_greatestWorths
  refine z_iconst (pc := 0) (0 : Int32) dX2_greatestWorths_0 (by decide) ?_
  refine z_istore_n (pc := 1) (L' := [.ref 49, .int x1, .int (0 : Int32), .null, .null, .null, .null, .null]) dX2_greatestWorths_1 (by decide) rfl ?_
  refine z_iconst (pc := 2) (0 : Int32) dX2_greatestWorths_2 (by decide) ?_
  refine z_istore_n (pc := 3) (L' := [.ref 49, .int x1, .int (0 : Int32), .int (0 : Int32), .null, .null, .null, .null]) dX2_greatestWorths_3 (by decide) rfl ?_
  refine z_iconst (pc := 4) (0 : Int32) dX2_greatestWorths_4 (by decide) ?_
  refine z_istore (pc := 5) (L' := [.ref 49, .int x1, .int (0 : Int32), .int (0 : Int32), .int (0 : Int32), .null, .null, .null]) dX2_greatestWorths_5 (by decide) rfl ?_
  refine t2_greatestWorths_L7 _ _ _ (fun x3_33 => ?_) zF _ _ _
  · refine z_iload_n (pc := 133) dX2_greatestWorths_133 rfl ?_
    exact z_iret (pc := 134) rfl dX2_greatestWorths_134
def f2_fewestPersons_L13 (K64 : Int32 → zMem → zRes) : Nat → Int32 → Int32 → zMem → zRes
  | 0, _, _, _ => none
  | n + 1, x2, x3, μ => if x3 < 0 then K64 x2 μ else zin x3 512 (bnd0 (f2_worthIn (μ 52 x3.toNatClampNeg) μ) (fun (v5 : Int32) (μ6 : zMem) => bnd0 (f2_worthAtMost μ6) (fun (v7 : Int32) (μ8 : zMem) => zlet (fun (s9 : Int32) => zlet (fun (x2_10 : Int32) (μ11 : zMem) => f2_fewestPersons_L13 K64 n x2_10 (x3 + (-1 : Int32)) μ11) (fun j12 => if s9 = 0 then j12 x2 μ8 else bnd0 (fJ6_bitCount_0f7a4 x3 μ8) (fun (v15 : Int32) (μ16 : zMem) => bnd0 (fJ6_bitCount_0f7a4 x2 μ16) (fun (v17 : Int32) (μ18 : zMem) => if v17 < v15 then j12 x2 μ18 else j12 x3 μ18)))) (fun j21 => if v5 = v7 then j21 (1 : Int32) else j21 (0 : Int32)))))
def f2_fewestPersons (μ : zMem) : zRes := zlet ((zshl (1 : Int32) (μ 49 5)) - (1 : Int32)) (fun (v1 : Int32) => f2_fewestPersons_L13 (fun (x2_24 : Int32) (μ25 : zMem) => some (0, x2_24, μ25)) zF v1 v1 μ)
set_option maxHeartbeats 1000000 in
theorem t2_fewestPersons_L13 {g : Bool} (K64 : Int32 → zMem → zRes) (hK64 : ∀ (x2 : Int32) (μ : zMem), zR yX2_fewestPersons cX2_fewestPersons 5 (some .int) 3 64 [.null, .null, .int x2, .null, .null] [] (nX g) (SX g) μ (K64 x2 μ)) : ∀ (n : Nat) (x2 : Int32) (x3 : Int32) (μ : zMem), zR yX2_fewestPersons cX2_fewestPersons 5 (some .int) 3 13 [.ref 49, .null, .int x2, .int x3, .null] [] (nX g) (SX g) μ (f2_fewestPersons_L13 K64 n x2 x3 μ) := by
  intro n
  induction n with
  | zero => intro x2 x3 μ; intro q hq; cases hq
  | succ n ih =>
    intro x2 x3 μ
    unfold f2_fewestPersons_L13
    refine z_iload_n (pc := 13) dX2_fewestPersons_13 rfl ?_
    refine z_if_lt (pc := 14) (tgt := 64) dX2_fewestPersons_14 (by decide) (fun c2 => ?_) (fun c3 => ?_)
    · refine z_loc (L' := [.null, .null, .int x2, .null, .null]) ⟨Or.inl rfl, ⟨Or.inl rfl, ⟨Or.inr rfl, ⟨Or.inl rfl, ⟨Or.inl rfl, trivial⟩⟩⟩⟩⟩ ?_
      exact hK64 x2 μ
    · refine z_aload_n (pc := 17) dX2_fewestPersons_17 rfl ?_
      refine z_getr (pc := 18) fdX2_18 (nx_lt (by decide)) (sx_49 g) rfl rfl dX2_fewestPersons_18 ?_
      refine z_iload_n (pc := 21) dX2_fewestPersons_21 rfl ?_
      refine z_iald (pc := 22) (nx_lt (by decide)) (sx_52 g) rfl dX2_fewestPersons_22 (fun h4 => ?_)
      refine z_callS (As := [.int (μ 52 x3.toNatClampNeg)]) (pc := 23) (ret' := some .int) ksX2_71 (t2_worthIn _ _) (by decide)  rfl rfl (Nat.le_of_ble_eq_true rfl) dX2_fewestPersons_23 (fun v5 μ6 => ?_)
      refine z_aload_n (pc := 26) dX2_fewestPersons_26 rfl ?_
      refine z_callV (As := []) (pc := 27) (ret' := some .int) kvX2_75 (t2_worthAtMost _) (by decide) (nx_lt (by decide)) (sx_49 g)  rfl rfl (Nat.le_of_ble_eq_true rfl) dX2_fewestPersons_27 (fun v7 μ8 => ?_)
      refine z_let (fun (j : Int32 → zRes) => ∀ (s9 : Int32), zR yX2_fewestPersons cX2_fewestPersons 5 (some .int) 3 38 [.ref 49, .null, .int x2, .int x3, .null] [.int s9] (nX g) (SX g) μ8 (j s9)) ?_ (fun j21 hj21 => ?_)
      · intro s9
        refine z_istore (pc := 38) (L' := [.ref 49, .null, .int x2, .int x3, .int s9]) dX2_fewestPersons_38 (by decide) rfl ?_
        refine z_iload (pc := 40) dX2_fewestPersons_40 rfl ?_
        refine z_let (fun (j : Int32 → zMem → zRes) => ∀ (x2_10 : Int32) (μ11 : zMem), zR yX2_fewestPersons cX2_fewestPersons 5 (some .int) 3 58 [.ref 49, .null, .int x2_10, .int x3, .null] [] (nX g) (SX g) μ11 (j x2_10 μ11)) ?_ (fun j12 hj12 => ?_)
        · intro x2_10 μ11
          refine z_iinc (pc := 58) (v := x3 + (-1 : Int32)) (L' := [.ref 49, .null, .int x2_10, .int (x3 + (-1 : Int32)), .null]) dX2_fewestPersons_58 (by decide) rfl (congrArg _ (by decide)) rfl ?_
          refine z_goto (pc := 61) (tgt := 13) dX2_fewestPersons_61 (by decide) ?_
          exact ih x2_10 (x3 + (-1 : Int32)) μ11
        · refine z_if_eq (pc := 42) (tgt := 58) dX2_fewestPersons_42 (by decide) (fun c13 => ?_) (fun c14 => ?_)
          · refine z_loc (L' := [.ref 49, .null, .int x2, .int x3, .null]) ⟨Or.inr rfl, ⟨Or.inl rfl, ⟨Or.inr rfl, ⟨Or.inr rfl, ⟨Or.inl rfl, trivial⟩⟩⟩⟩⟩ ?_
            exact hj12 x2 μ8
          · refine z_iload_n (pc := 45) dX2_fewestPersons_45 rfl ?_
            refine z_callS (As := [.int x3]) (pc := 46) (ret' := some .int) ksX2_79 (tJ6_bitCount_0f7a4 _ _) (by decide)  rfl rfl (Nat.le_of_ble_eq_true rfl) dX2_fewestPersons_46 (fun v15 μ16 => ?_)
            refine z_iload_n (pc := 49) dX2_fewestPersons_49 rfl ?_
            refine z_callS (As := [.int x2]) (pc := 50) (ret' := some .int) ksX2_79 (tJ6_bitCount_0f7a4 _ _) (by decide)  rfl rfl (Nat.le_of_ble_eq_true rfl) dX2_fewestPersons_50 (fun v17 μ18 => ?_)
            refine z_icmp_gt (pc := 53) (tgt := 58) dX2_fewestPersons_53 (by decide) (fun c19 => ?_) (fun c20 => ?_)
            · refine z_loc (L' := [.ref 49, .null, .int x2, .int x3, .null]) ⟨Or.inr rfl, ⟨Or.inl rfl, ⟨Or.inr rfl, ⟨Or.inr rfl, ⟨Or.inl rfl, trivial⟩⟩⟩⟩⟩ ?_
              exact hj12 x2 μ18
            · refine z_iload_n (pc := 56) dX2_fewestPersons_56 rfl ?_
              refine z_istore_n (pc := 57) (L' := [.ref 49, .null, .int x3, .int x3, .int s9]) dX2_fewestPersons_57 (by decide) rfl ?_
              refine z_loc (L' := [.ref 49, .null, .int x3, .int x3, .null]) ⟨Or.inr rfl, ⟨Or.inl rfl, ⟨Or.inr rfl, ⟨Or.inr rfl, ⟨Or.inl rfl, trivial⟩⟩⟩⟩⟩ ?_
              exact hj12 x3 μ18
      · refine z_icmp_ne (pc := 30) (tgt := 37) dX2_fewestPersons_30 (by decide) (fun c22 => ?_) (fun c23 => ?_)
        · refine z_iconst (pc := 37) (0 : Int32) dX2_fewestPersons_37 (by decide) ?_
          exact hj21 (0 : Int32)
        · refine z_iconst (pc := 33) (1 : Int32) dX2_fewestPersons_33 (by decide) ?_
          refine z_goto (pc := 34) (tgt := 38) dX2_fewestPersons_34 (by decide) ?_
          exact hj21 (1 : Int32)
set_option maxHeartbeats 1000000 in
theorem t2_fewestPersons {g : Bool} (μ : zMem) : zMR yX2_fewestPersons cX2_fewestPersons 5 (some .int) 3 [.ref 49] (nX g) (SX g) μ (f2_fewestPersons μ) := by
  refine zMR_of (by decide +kernel) rfl (Nat.le_of_ble_eq_true rfl) (L := [.ref 49, .null, .null, .null, .null]) rfl ?_
  unfold f2_fewestPersons
  refine z_iconst (pc := 0) (1 : Int32) dX2_fewestPersons_0 (by decide) ?_
  refine z_aload_n (pc := 1) dX2_fewestPersons_1 rfl ?_
  refine z_geti (pc := 2) fdX2_24 (nx_lt (by decide)) (sx_49 g) rfl dX2_fewestPersons_2 ?_
  refine z_ishl (pc := 5) dX2_fewestPersons_5 ?_
  refine z_iconst (pc := 6) (1 : Int32) dX2_fewestPersons_6 (by decide) ?_
  refine z_isub (pc := 7) dX2_fewestPersons_7 ?_
  refine z_val (fun v1 => ?_)
  refine z_istore_n (pc := 8) (L' := [.ref 49, .int v1, .null, .null, .null]) dX2_fewestPersons_8 (by decide) rfl ?_
  refine z_iload_n (pc := 9) dX2_fewestPersons_9 rfl ?_
  refine z_istore_n (pc := 10) (L' := [.ref 49, .int v1, .int v1, .null, .null]) dX2_fewestPersons_10 (by decide) rfl ?_
  refine z_iload_n (pc := 11) dX2_fewestPersons_11 rfl ?_
  refine z_istore_n (pc := 12) (L' := [.ref 49, .int v1, .int v1, .int v1, .null]) dX2_fewestPersons_12 (by decide) rfl ?_
  refine z_loc (L' := [.ref 49, .null, .int v1, .int v1, .null]) ⟨Or.inr rfl, ⟨Or.inl rfl, ⟨Or.inr rfl, ⟨Or.inr rfl, ⟨Or.inl rfl, trivial⟩⟩⟩⟩⟩ ?_
  refine t2_fewestPersons_L13 _ (fun x2_24 μ25 => ?_) zF _ _ _
  · refine z_iload_n (pc := 64) dX2_fewestPersons_64 rfl ?_
    exact z_iret (pc := 65) rfl dX2_fewestPersons_65
