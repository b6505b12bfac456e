theorem dX4_drawQuestion_0 : decode cX4_drawQuestion 0 = .ok (.aload_n 0, 1) := by decide +kernel
theorem dX4_drawQuestion_1 : decode cX4_drawQuestion 1 = .ok (.aload_n 0, 1) := by decide +kernel
theorem dX4_drawQuestion_2 : decode cX4_drawQuestion 2 = .ok (.getfield 24, 3) := by decide +kernel
theorem dX4_drawQuestion_5 : decode cX4_drawQuestion 5 = .ok (.ldc 79, 2) := by decide +kernel
theorem dX4_drawQuestion_7 : decode cX4_drawQuestion 7 = .ok (.imul, 1) := by decide +kernel
theorem dX4_drawQuestion_8 : decode cX4_drawQuestion 8 = .ok (.sipush 12345, 3) := by decide +kernel
theorem dX4_drawQuestion_11 : decode cX4_drawQuestion 11 = .ok (.iadd, 1) := by decide +kernel
theorem dX4_drawQuestion_12 : decode cX4_drawQuestion 12 = .ok (.putfield 24, 3) := by decide +kernel
theorem dX4_drawQuestion_15 : decode cX4_drawQuestion 15 = .ok (.aload_n 0, 1) := by decide +kernel
theorem dX4_drawQuestion_16 : decode cX4_drawQuestion 16 = .ok (.getfield 39, 3) := by decide +kernel
theorem dX4_drawQuestion_19 : decode cX4_drawQuestion 19 = .ok (.getfield 80, 3) := by decide +kernel
theorem dX4_drawQuestion_22 : decode cX4_drawQuestion 22 = .ok (.ifCond .gt 7, 3) := by decide +kernel
theorem dX4_drawQuestion_25 : decode cX4_drawQuestion 25 = .ok (.iconst 0, 1) := by decide +kernel
theorem dX4_drawQuestion_26 : decode cX4_drawQuestion 26 = .ok (.goto 22, 3) := by decide +kernel
theorem dX4_drawQuestion_29 : decode cX4_drawQuestion 29 = .ok (.aload_n 0, 1) := by decide +kernel
theorem dX4_drawQuestion_30 : decode cX4_drawQuestion 30 = .ok (.getfield 24, 3) := by decide +kernel
theorem dX4_drawQuestion_33 : decode cX4_drawQuestion 33 = .ok (.bipush 16, 2) := by decide +kernel
theorem dX4_drawQuestion_35 : decode cX4_drawQuestion 35 = .ok (.iushr, 1) := by decide +kernel
theorem dX4_drawQuestion_36 : decode cX4_drawQuestion 36 = .ok (.sipush 32767, 3) := by decide +kernel
theorem dX4_drawQuestion_39 : decode cX4_drawQuestion 39 = .ok (.iand, 1) := by decide +kernel
theorem dX4_drawQuestion_40 : decode cX4_drawQuestion 40 = .ok (.aload_n 0, 1) := by decide +kernel
theorem dX4_drawQuestion_41 : decode cX4_drawQuestion 41 = .ok (.getfield 39, 3) := by decide +kernel
theorem dX4_drawQuestion_44 : decode cX4_drawQuestion 44 = .ok (.getfield 80, 3) := by decide +kernel
theorem dX4_drawQuestion_47 : decode cX4_drawQuestion 47 = .ok (.irem, 1) := by decide +kernel
theorem dX4_drawQuestion_48 : decode cX4_drawQuestion 48 = .ok (.ireturn, 1) := by decide +kernel
theorem dX4_scoreOf_0 : decode cX4_scoreOf 0 = .ok (.iload_n 1, 1) := by decide +kernel
theorem dX4_scoreOf_1 : decode cX4_scoreOf 1 = .ok (.tableswitch 88 0 2 #[27, 46, 66], 27) := by decide +kernel
theorem dX4_scoreOf_28 : decode cX4_scoreOf 28 = .ok (.aload_n 0, 1) := by decide +kernel
theorem dX4_scoreOf_29 : decode cX4_scoreOf 29 = .ok (.getfield 43, 3) := by decide +kernel
theorem dX4_scoreOf_32 : decode cX4_scoreOf 32 = .ok (.iload_n 3, 1) := by decide +kernel
theorem dX4_scoreOf_33 : decode cX4_scoreOf 33 = .ok (.iload 4, 2) := by decide +kernel
theorem dX4_scoreOf_35 : decode cX4_scoreOf 35 = .ok (.aload_n 0, 1) := by decide +kernel
theorem dX4_scoreOf_36 : decode cX4_scoreOf 36 = .ok (.getfield 43, 3) := by decide +kernel
theorem dX4_scoreOf_39 : decode cX4_scoreOf 39 = .ok (.iload_n 2, 1) := by decide +kernel
theorem dX4_scoreOf_40 : decode cX4_scoreOf 40 = .ok (.invokevirtual 126, 3) := by decide +kernel
theorem dX4_scoreOf_43 : decode cX4_scoreOf 43 = .ok (.invokevirtual 129, 3) := by decide +kernel
theorem dX4_scoreOf_46 : decode cX4_scoreOf 46 = .ok (.ireturn, 1) := by decide +kernel
theorem dX4_scoreOf_47 : decode cX4_scoreOf 47 = .ok (.aload_n 0, 1) := by decide +kernel
theorem dX4_scoreOf_48 : decode cX4_scoreOf 48 = .ok (.getfield 43, 3) := by decide +kernel
theorem dX4_scoreOf_51 : decode cX4_scoreOf 51 = .ok (.iload_n 3, 1) := by decide +kernel
theorem dX4_scoreOf_52 : decode cX4_scoreOf 52 = .ok (.iload 4, 2) := by decide +kernel
theorem dX4_scoreOf_54 : decode cX4_scoreOf 54 = .ok (.aload_n 0, 1) := by decide +kernel
theorem dX4_scoreOf_55 : decode cX4_scoreOf 55 = .ok (.getfield 43, 3) := by decide +kernel
theorem dX4_scoreOf_58 : decode cX4_scoreOf 58 = .ok (.iload_n 2, 1) := by decide +kernel
theorem dX4_scoreOf_59 : decode cX4_scoreOf 59 = .ok (.invokevirtual 126, 3) := by decide +kernel
theorem dX4_scoreOf_62 : decode cX4_scoreOf 62 = .ok (.invokevirtual 129, 3) := by decide +kernel
theorem dX4_scoreOf_65 : decode cX4_scoreOf 65 = .ok (.ineg, 1) := by decide +kernel
theorem dX4_scoreOf_66 : decode cX4_scoreOf 66 = .ok (.ireturn, 1) := by decide +kernel
theorem dX4_scoreOf_67 : decode cX4_scoreOf 67 = .ok (.aload_n 0, 1) := by decide +kernel
theorem dX4_scoreOf_68 : decode cX4_scoreOf 68 = .ok (.getfield 43, 3) := by decide +kernel
theorem dX4_scoreOf_71 : decode cX4_scoreOf 71 = .ok (.getfield 132, 3) := by decide +kernel
theorem dX4_scoreOf_74 : decode cX4_scoreOf 74 = .ok (.iload_n 3, 1) := by decide +kernel
theorem dX4_scoreOf_75 : decode cX4_scoreOf 75 = .ok (.iaload, 1) := by decide +kernel
theorem dX4_scoreOf_76 : decode cX4_scoreOf 76 = .ok (.ineg, 1) := by decide +kernel
theorem dX4_scoreOf_77 : decode cX4_scoreOf 77 = .ok (.aload_n 0, 1) := by decide +kernel
theorem dX4_scoreOf_78 : decode cX4_scoreOf 78 = .ok (.getfield 43, 3) := by decide +kernel
theorem dX4_scoreOf_81 : decode cX4_scoreOf 81 = .ok (.getfield 132, 3) := by decide +kernel
theorem dX4_scoreOf_84 : decode cX4_scoreOf 84 = .ok (.iload 4, 2) := by decide +kernel
theorem dX4_scoreOf_86 : decode cX4_scoreOf 86 = .ok (.iaload, 1) := by decide +kernel
theorem dX4_scoreOf_87 : decode cX4_scoreOf 87 = .ok (.isub, 1) := by decide +kernel
theorem dX4_scoreOf_88 : decode cX4_scoreOf 88 = .ok (.ireturn, 1) := by decide +kernel
theorem dX4_scoreOf_89 : decode cX4_scoreOf 89 = .ok (.aload_n 0, 1) := by decide +kernel
theorem dX4_scoreOf_90 : decode cX4_scoreOf 90 = .ok (.getfield 39, 3) := by decide +kernel
theorem dX4_scoreOf_93 : decode cX4_scoreOf 93 = .ok (.getfield 95, 3) := by decide +kernel
theorem dX4_scoreOf_96 : decode cX4_scoreOf 96 = .ok (.iload_n 2, 1) := by decide +kernel
theorem dX4_scoreOf_97 : decode cX4_scoreOf 97 = .ok (.iaload, 1) := by decide +kernel
theorem dX4_scoreOf_98 : decode cX4_scoreOf 98 = .ok (.ireturn, 1) := by decide +kernel
theorem dX4_isBetter_0 : decode cX4_isBetter 0 = .ok (.aload_n 0, 1) := by decide +kernel
theorem dX4_isBetter_1 : decode cX4_isBetter 1 = .ok (.getfield 27, 3) := by decide +kernel
theorem dX4_isBetter_4 : decode cX4_isBetter 4 = .ok (.iconst (-1), 1) := by decide +kernel
theorem dX4_isBetter_5 : decode cX4_isBetter 5 = .ok (.if_icmp .ne 5, 3) := by decide +kernel
theorem dX4_isBetter_8 : decode cX4_isBetter 8 = .ok (.iconst 1, 1) := by decide +kernel
theorem dX4_isBetter_9 : decode cX4_isBetter 9 = .ok (.ireturn, 1) := by decide +kernel
theorem dX4_isBetter_10 : decode cX4_isBetter 10 = .ok (.iload_n 1, 1) := by decide +kernel
theorem dX4_isBetter_11 : decode cX4_isBetter 11 = .ok (.iconst 2, 1) := by decide +kernel
theorem dX4_isBetter_12 : decode cX4_isBetter 12 = .ok (.if_icmp .le 7, 3) := by decide +kernel
theorem dX4_isBetter_15 : decode cX4_isBetter 15 = .ok (.iconst 1, 1) := by decide +kernel
theorem dX4_isBetter_16 : decode cX4_isBetter 16 = .ok (.goto 4, 3) := by decide +kernel
theorem dX4_isBetter_19 : decode cX4_isBetter 19 = .ok (.iconst 0, 1) := by decide +kernel
theorem dX4_isBetter_20 : decode cX4_isBetter 20 = .ok (.istore 4, 2) := by decide +kernel
theorem dX4_isBetter_22 : decode cX4_isBetter 22 = .ok (.iload 4, 2) := by decide +kernel
theorem dX4_isBetter_24 : decode cX4_isBetter 24 = .ok (.ifCond .eq 20, 3) := by decide +kernel
theorem dX4_isBetter_27 : decode cX4_isBetter 27 = .ok (.iload_n 3, 1) := by decide +kernel
theorem dX4_isBetter_28 : decode cX4_isBetter 28 = .ok (.aload_n 0, 1) := by decide +kernel
theorem dX4_isBetter_29 : decode cX4_isBetter 29 = .ok (.getfield 39, 3) := by decide +kernel
theorem dX4_isBetter_32 : decode cX4_isBetter 32 = .ok (.getfield 135, 3) := by decide +kernel
theorem dX4_isBetter_35 : decode cX4_isBetter 35 = .ok (.aload_n 0, 1) := by decide +kernel
theorem dX4_isBetter_36 : decode cX4_isBetter 36 = .ok (.getfield 27, 3) := by decide +kernel
theorem dX4_isBetter_39 : decode cX4_isBetter 39 = .ok (.iaload, 1) := by decide +kernel
theorem dX4_isBetter_40 : decode cX4_isBetter 40 = .ok (.imul, 1) := by decide +kernel
theorem dX4_isBetter_41 : decode cX4_isBetter 41 = .ok (.goto 4, 3) := by decide +kernel
theorem dX4_isBetter_44 : decode cX4_isBetter 44 = .ok (.iload_n 3, 1) := by decide +kernel
theorem dX4_isBetter_45 : decode cX4_isBetter 45 = .ok (.istore 5, 2) := by decide +kernel
theorem dX4_isBetter_47 : decode cX4_isBetter 47 = .ok (.iload 4, 2) := by decide +kernel
theorem dX4_isBetter_49 : decode cX4_isBetter 49 = .ok (.ifCond .eq 20, 3) := by decide +kernel
theorem dX4_isBetter_52 : decode cX4_isBetter 52 = .ok (.aload_n 0, 1) := by decide +kernel
theorem dX4_isBetter_53 : decode cX4_isBetter 53 = .ok (.getfield 36, 3) := by decide +kernel
theorem dX4_isBetter_56 : decode cX4_isBetter 56 = .ok (.aload_n 0, 1) := by decide +kernel
theorem dX4_isBetter_57 : decode cX4_isBetter 57 = .ok (.getfield 39, 3) := by decide +kernel
theorem dX4_isBetter_60 : decode cX4_isBetter 60 = .ok (.getfield 135, 3) := by decide +kernel
theorem dX4_isBetter_63 : decode cX4_isBetter 63 = .ok (.iload_n 2, 1) := by decide +kernel
theorem dX4_isBetter_64 : decode cX4_isBetter 64 = .ok (.iaload, 1) := by decide +kernel
theorem dX4_isBetter_65 : decode cX4_isBetter 65 = .ok (.imul, 1) := by decide +kernel
theorem dX4_isBetter_66 : decode cX4_isBetter 66 = .ok (.goto 7, 3) := by decide +kernel
theorem dX4_isBetter_69 : decode cX4_isBetter 69 = .ok (.aload_n 0, 1) := by decide +kernel
theorem dX4_isBetter_70 : decode cX4_isBetter 70 = .ok (.getfield 36, 3) := by decide +kernel
theorem dX4_isBetter_73 : decode cX4_isBetter 73 = .ok (.istore 6, 2) := by decide +kernel
theorem dX4_isBetter_75 : decode cX4_isBetter 75 = .ok (.iload 5, 2) := by decide +kernel
theorem dX4_isBetter_77 : decode cX4_isBetter 77 = .ok (.iload 6, 2) := by decide +kernel
theorem dX4_isBetter_79 : decode cX4_isBetter 79 = .ok (.if_icmp .gt 34, 3) := by decide +kernel
theorem dX4_isBetter_82 : decode cX4_isBetter 82 = .ok (.iload 5, 2) := by decide +kernel
theorem dX4_isBetter_84 : decode cX4_isBetter 84 = .ok (.iload 6, 2) := by decide +kernel
theorem dX4_isBetter_86 : decode cX4_isBetter 86 = .ok (.if_icmp .ne 31, 3) := by decide +kernel
theorem dX4_isBetter_89 : decode cX4_isBetter 89 = .ok (.aload_n 0, 1) := by decide +kernel
theorem dX4_isBetter_90 : decode cX4_isBetter 90 = .ok (.getfield 39, 3) := by decide +kernel
theorem dX4_isBetter_93 : decode cX4_isBetter 93 = .ok (.getfield 95, 3) := by decide +kernel
theorem dX4_isBetter_96 : decode cX4_isBetter 96 = .ok (.iload_n 2, 1) := by decide +kernel
theorem dX4_isBetter_97 : decode cX4_isBetter 97 = .ok (.iaload, 1) := by decide +kernel
theorem dX4_isBetter_98 : decode cX4_isBetter 98 = .ok (.aload_n 0, 1) := by decide +kernel
theorem dX4_isBetter_99 : decode cX4_isBetter 99 = .ok (.getfield 39, 3) := by decide +kernel
theorem dX4_isBetter_102 : decode cX4_isBetter 102 = .ok (.getfield 95, 3) := by decide +kernel
theorem dX4_isBetter_105 : decode cX4_isBetter 105 = .ok (.aload_n 0, 1) := by decide +kernel
theorem dX4_isBetter_106 : decode cX4_isBetter 106 = .ok (.getfield 27, 3) := by decide +kernel
theorem dX4_isBetter_109 : decode cX4_isBetter 109 = .ok (.iaload, 1) := by decide +kernel
theorem dX4_isBetter_110 : decode cX4_isBetter 110 = .ok (.if_icmp .le 7, 3) := by decide +kernel
theorem dX4_isBetter_113 : decode cX4_isBetter 113 = .ok (.iconst 1, 1) := by decide +kernel
theorem dX4_isBetter_114 : decode cX4_isBetter 114 = .ok (.goto 4, 3) := by decide +kernel
theorem dX4_isBetter_117 : decode cX4_isBetter 117 = .ok (.iconst 0, 1) := by decide +kernel
theorem dX4_isBetter_118 : decode cX4_isBetter 118 = .ok (.ireturn, 1) := by decide +kernel
theorem dX4_keep_0 : decode cX4_keep 0 = .ok (.aload_n 0, 1) := by decide +kernel
theorem dX4_keep_1 : decode cX4_keep 1 = .ok (.iload_n 1, 1) := by decide +kernel
theorem dX4_keep_2 : decode cX4_keep 2 = .ok (.putfield 27, 3) := by decide +kernel
theorem dX4_keep_5 : decode cX4_keep 5 = .ok (.aload_n 0, 1) := by decide +kernel
theorem dX4_keep_6 : decode cX4_keep 6 = .ok (.iload_n 2, 1) := by decide +kernel
theorem dX4_keep_7 : decode cX4_keep 7 = .ok (.putfield 30, 3) := by decide +kernel
theorem dX4_keep_10 : decode cX4_keep 10 = .ok (.aload_n 0, 1) := by decide +kernel
theorem dX4_keep_11 : decode cX4_keep 11 = .ok (.iload_n 3, 1) := by decide +kernel
theorem dX4_keep_12 : decode cX4_keep 12 = .ok (.putfield 33, 3) := by decide +kernel
theorem dX4_keep_15 : decode cX4_keep 15 = .ok (.aload_n 0, 1) := by decide +kernel
theorem dX4_keep_16 : decode cX4_keep 16 = .ok (.iload 4, 2) := by decide +kernel
theorem dX4_keep_18 : decode cX4_keep 18 = .ok (.putfield 36, 3) := by decide +kernel
theorem dX4_keep_21 : decode cX4_keep 21 = .ok (.return_, 1) := by decide +kernel
theorem dX4_pick_0 : decode cX4_pick 0 = .ok (.aload_n 0, 1) := by decide +kernel
theorem dX4_pick_1 : decode cX4_pick 1 = .ok (.iconst (-1), 1) := by decide +kernel
theorem dX4_pick_2 : decode cX4_pick 2 = .ok (.putfield 27, 3) := by decide +kernel
theorem dX4_pick_5 : decode cX4_pick 5 = .ok (.iconst 0, 1) := by decide +kernel
theorem dX4_pick_6 : decode cX4_pick 6 = .ok (.istore_n 2, 1) := by decide +kernel
theorem dX4_pick_7 : decode cX4_pick 7 = .ok (.iload_n 2, 1) := by decide +kernel
theorem dX4_pick_8 : decode cX4_pick 8 = .ok (.aload_n 0, 1) := by decide +kernel
theorem dX4_pick_9 : decode cX4_pick 9 = .ok (.getfield 39, 3) := by decide +kernel
theorem dX4_pick_12 : decode cX4_pick 12 = .ok (.getfield 85, 3) := by decide +kernel
theorem dX4_pick_15 : decode cX4_pick 15 = .ok (.if_icmp .ge 147, 3) := by decide +kernel
theorem dX4_pick_18 : decode cX4_pick 18 = .ok (.aload_n 0, 1) := by decide +kernel
theorem dX4_pick_19 : decode cX4_pick 19 = .ok (.getfield 43, 3) := by decide +kernel
theorem dX4_pick_22 : decode cX4_pick 22 = .ok (.iload_n 2, 1) := by decide +kernel
theorem dX4_pick_23 : decode cX4_pick 23 = .ok (.invokevirtual 101, 3) := by decide +kernel
theorem dX4_pick_26 : decode cX4_pick 26 = .ok (.ifCond .ne 18, 3) := by decide +kernel
theorem dX4_pick_29 : decode cX4_pick 29 = .ok (.aload_n 0, 1) := by decide +kernel
theorem dX4_pick_30 : decode cX4_pick 30 = .ok (.getfield 43, 3) := by decide +kernel
theorem dX4_pick_33 : decode cX4_pick 33 = .ok (.iload_n 2, 1) := by decide +kernel
theorem dX4_pick_34 : decode cX4_pick 34 = .ok (.invokevirtual 105, 3) := by decide +kernel
theorem dX4_pick_37 : decode cX4_pick 37 = .ok (.ifCond .ne 7, 3) := by decide +kernel
theorem dX4_pick_40 : decode cX4_pick 40 = .ok (.iconst 1, 1) := by decide +kernel
theorem dX4_pick_41 : decode cX4_pick 41 = .ok (.goto 4, 3) := by decide +kernel
theorem dX4_pick_44 : decode cX4_pick 44 = .ok (.iconst 0, 1) := by decide +kernel
theorem dX4_pick_45 : decode cX4_pick 45 = .ok (.istore_n 3, 1) := by decide +kernel
theorem dX4_pick_46 : decode cX4_pick 46 = .ok (.iconst 0, 1) := by decide +kernel
theorem dX4_pick_47 : decode cX4_pick 47 = .ok (.istore 4, 2) := by decide +kernel
theorem dX4_pick_49 : decode cX4_pick 49 = .ok (.iload_n 3, 1) := by decide +kernel
theorem dX4_pick_50 : decode cX4_pick 50 = .ok (.ifCond .eq 106, 3) := by decide +kernel
theorem dX4_pick_53 : decode cX4_pick 53 = .ok (.iload 4, 2) := by decide +kernel
theorem dX4_pick_55 : decode cX4_pick 55 = .ok (.aload_n 0, 1) := by decide +kernel
theorem dX4_pick_56 : decode cX4_pick 56 = .ok (.getfield 43, 3) := by decide +kernel
theorem dX4_pick_59 : decode cX4_pick 59 = .ok (.getfield 108, 3) := by decide +kernel
theorem dX4_pick_62 : decode cX4_pick 62 = .ok (.if_icmp .ge 94, 3) := by decide +kernel
theorem dX4_pick_65 : decode cX4_pick 65 = .ok (.iload 4, 2) := by decide +kernel
theorem dX4_pick_67 : decode cX4_pick 67 = .ok (.iconst 1, 1) := by decide +kernel
theorem dX4_pick_68 : decode cX4_pick 68 = .ok (.iadd, 1) := by decide +kernel
theorem dX4_pick_69 : decode cX4_pick 69 = .ok (.istore 5, 2) := by decide +kernel
theorem dX4_pick_71 : decode cX4_pick 71 = .ok (.iload 5, 2) := by decide +kernel
theorem dX4_pick_73 : decode cX4_pick 73 = .ok (.aload_n 0, 1) := by decide +kernel
theorem dX4_pick_74 : decode cX4_pick 74 = .ok (.getfield 43, 3) := by decide +kernel
theorem dX4_pick_77 : decode cX4_pick 77 = .ok (.getfield 108, 3) := by decide +kernel
theorem dX4_pick_80 : decode cX4_pick 80 = .ok (.if_icmp .ge 70, 3) := by decide +kernel
theorem dX4_pick_83 : decode cX4_pick 83 = .ok (.aload_n 0, 1) := by decide +kernel
theorem dX4_pick_84 : decode cX4_pick 84 = .ok (.getfield 43, 3) := by decide +kernel
theorem dX4_pick_87 : decode cX4_pick 87 = .ok (.iload_n 2, 1) := by decide +kernel
theorem dX4_pick_88 : decode cX4_pick 88 = .ok (.iload 4, 2) := by decide +kernel
theorem dX4_pick_90 : decode cX4_pick 90 = .ok (.iload 5, 2) := by decide +kernel
theorem dX4_pick_92 : decode cX4_pick 92 = .ok (.invokevirtual 111, 3) := by decide +kernel
theorem dX4_pick_95 : decode cX4_pick 95 = .ok (.ifCond .ne 16, 3) := by decide +kernel
theorem dX4_pick_98 : decode cX4_pick 98 = .ok (.aload_n 0, 1) := by decide +kernel
theorem dX4_pick_99 : decode cX4_pick 99 = .ok (.iload_n 1, 1) := by decide +kernel
theorem dX4_pick_100 : decode cX4_pick 100 = .ok (.iload_n 2, 1) := by decide +kernel
theorem dX4_pick_101 : decode cX4_pick 101 = .ok (.iload 4, 2) := by decide +kernel
theorem dX4_pick_103 : decode cX4_pick 103 = .ok (.iload 5, 2) := by decide +kernel
theorem dX4_pick_105 : decode cX4_pick 105 = .ok (.invokevirtual 114, 3) := by decide +kernel
theorem dX4_pick_108 : decode cX4_pick 108 = .ok (.goto 5, 3) := by decide +kernel
theorem dX4_pick_111 : decode cX4_pick 111 = .ok (.bipush (-100), 2) := by decide +kernel
theorem dX4_pick_113 : decode cX4_pick 113 = .ok (.istore 6, 2) := by decide +kernel
theorem dX4_pick_115 : decode cX4_pick 115 = .ok (.iload 6, 2) := by decide +kernel
theorem dX4_pick_117 : decode cX4_pick 117 = .ok (.bipush (-100), 2) := by decide +kernel
theorem dX4_pick_119 : decode cX4_pick 119 = .ok (.if_icmp .eq 25, 3) := by decide +kernel
theorem dX4_pick_122 : decode cX4_pick 122 = .ok (.aload_n 0, 1) := by decide +kernel
theorem dX4_pick_123 : decode cX4_pick 123 = .ok (.iload_n 1, 1) := by decide +kernel
theorem dX4_pick_124 : decode cX4_pick 124 = .ok (.iload_n 2, 1) := by decide +kernel
theorem dX4_pick_125 : decode cX4_pick 125 = .ok (.iload 6, 2) := by decide +kernel
theorem dX4_pick_127 : decode cX4_pick 127 = .ok (.invokevirtual 118, 3) := by decide +kernel
theorem dX4_pick_130 : decode cX4_pick 130 = .ok (.ifCond .eq 14, 3) := by decide +kernel
theorem dX4_pick_133 : decode cX4_pick 133 = .ok (.aload_n 0, 1) := by decide +kernel
theorem dX4_pick_134 : decode cX4_pick 134 = .ok (.iload_n 2, 1) := by decide +kernel
theorem dX4_pick_135 : decode cX4_pick 135 = .ok (.iload 4, 2) := by decide +kernel
theorem dX4_pick_137 : decode cX4_pick 137 = .ok (.iload 5, 2) := by decide +kernel
theorem dX4_pick_139 : decode cX4_pick 139 = .ok (.iload 6, 2) := by decide +kernel
theorem dX4_pick_141 : decode cX4_pick 141 = .ok (.invokevirtual 122, 3) := by decide +kernel
theorem dX4_pick_144 : decode cX4_pick 144 = .ok (.iinc 5 1, 3) := by decide +kernel
theorem dX4_pick_147 : decode cX4_pick 147 = .ok (.goto (-76), 3) := by decide +kernel
theorem dX4_pick_150 : decode cX4_pick 150 = .ok (.iinc 4 1, 3) := by decide +kernel
theorem dX4_pick_153 : decode cX4_pick 153 = .ok (.goto (-104), 3) := by decide +kernel
theorem dX4_pick_156 : decode cX4_pick 156 = .ok (.iinc 2 1, 3) := by decide +kernel
theorem dX4_pick_159 : decode cX4_pick 159 = .ok (.goto (-152), 3) := by decide +kernel
theorem dX4_pick_162 : decode cX4_pick 162 = .ok (.return_, 1) := by decide +kernel
theorem dX4_workAllDay_0 : decode cX4_workAllDay 0 = .ok (.iconst 0, 1) := by decide +kernel
theorem dX4_workAllDay_1 : decode cX4_workAllDay 1 = .ok (.istore_n 2, 1) := by decide +kernel
theorem dX4_workAllDay_2 : decode cX4_workAllDay 2 = .ok (.iload_n 2, 1) := by decide +kernel
theorem dX4_workAllDay_3 : decode cX4_workAllDay 3 = .ok (.aload_n 0, 1) := by decide +kernel
theorem dX4_workAllDay_4 : decode cX4_workAllDay 4 = .ok (.getfield 39, 3) := by decide +kernel
theorem dX4_workAllDay_7 : decode cX4_workAllDay 7 = .ok (.getfield 85, 3) := by decide +kernel
theorem dX4_workAllDay_10 : decode cX4_workAllDay 10 = .ok (.if_icmp .ge 101, 3) := by decide +kernel
theorem dX4_workAllDay_13 : decode cX4_workAllDay 13 = .ok (.aload_n 0, 1) := by decide +kernel
theorem dX4_workAllDay_14 : decode cX4_workAllDay 14 = .ok (.iload_n 1, 1) := by decide +kernel
theorem dX4_workAllDay_15 : decode cX4_workAllDay 15 = .ok (.invokevirtual 88, 3) := by decide +kernel
theorem dX4_workAllDay_18 : decode cX4_workAllDay 18 = .ok (.aload_n 0, 1) := by decide +kernel
theorem dX4_workAllDay_19 : decode cX4_workAllDay 19 = .ok (.getfield 27, 3) := by decide +kernel
theorem dX4_workAllDay_22 : decode cX4_workAllDay 22 = .ok (.iconst (-1), 1) := by decide +kernel
theorem dX4_workAllDay_23 : decode cX4_workAllDay 23 = .ok (.if_icmp .ne 4, 3) := by decide +kernel
theorem dX4_workAllDay_26 : decode cX4_workAllDay 26 = .ok (.return_, 1) := by decide +kernel
theorem dX4_workAllDay_27 : decode cX4_workAllDay 27 = .ok (.aload_n 0, 1) := by decide +kernel
theorem dX4_workAllDay_28 : decode cX4_workAllDay 28 = .ok (.getfield 43, 3) := by decide +kernel
theorem dX4_workAllDay_31 : decode cX4_workAllDay 31 = .ok (.aload_n 0, 1) := by decide +kernel
theorem dX4_workAllDay_32 : decode cX4_workAllDay 32 = .ok (.getfield 27, 3) := by decide +kernel
theorem dX4_workAllDay_35 : decode cX4_workAllDay 35 = .ok (.aload_n 0, 1) := by decide +kernel
theorem dX4_workAllDay_36 : decode cX4_workAllDay 36 = .ok (.getfield 30, 3) := by decide +kernel
theorem dX4_workAllDay_39 : decode cX4_workAllDay 39 = .ok (.aload_n 0, 1) := by decide +kernel
theorem dX4_workAllDay_40 : decode cX4_workAllDay 40 = .ok (.getfield 33, 3) := by decide +kernel
theorem dX4_workAllDay_43 : decode cX4_workAllDay 43 = .ok (.invokevirtual 91, 3) := by decide +kernel
theorem dX4_workAllDay_46 : decode cX4_workAllDay 46 = .ok (.pop, 1) := by decide +kernel
theorem dX4_workAllDay_47 : decode cX4_workAllDay 47 = .ok (.aload_n 0, 1) := by decide +kernel
theorem dX4_workAllDay_48 : decode cX4_workAllDay 48 = .ok (.dup, 1) := by decide +kernel
theorem dX4_workAllDay_49 : decode cX4_workAllDay 49 = .ok (.getfield 9, 3) := by decide +kernel
theorem dX4_workAllDay_52 : decode cX4_workAllDay 52 = .ok (.aload_n 0, 1) := by decide +kernel
theorem dX4_workAllDay_53 : decode cX4_workAllDay 53 = .ok (.getfield 39, 3) := by decide +kernel
theorem dX4_workAllDay_56 : decode cX4_workAllDay 56 = .ok (.getfield 95, 3) := by decide +kernel
theorem dX4_workAllDay_59 : decode cX4_workAllDay 59 = .ok (.aload_n 0, 1) := by decide +kernel
theorem dX4_workAllDay_60 : decode cX4_workAllDay 60 = .ok (.getfield 27, 3) := by decide +kernel
theorem dX4_workAllDay_63 : decode cX4_workAllDay 63 = .ok (.iaload, 1) := by decide +kernel
theorem dX4_workAllDay_64 : decode cX4_workAllDay 64 = .ok (.iadd, 1) := by decide +kernel
theorem dX4_workAllDay_65 : decode cX4_workAllDay 65 = .ok (.putfield 9, 3) := by decide +kernel
theorem dX4_workAllDay_68 : decode cX4_workAllDay 68 = .ok (.aload_n 0, 1) := by decide +kernel
theorem dX4_workAllDay_69 : decode cX4_workAllDay 69 = .ok (.dup, 1) := by decide +kernel
theorem dX4_workAllDay_70 : decode cX4_workAllDay 70 = .ok (.getfield 15, 3) := by decide +kernel
theorem dX4_workAllDay_73 : decode cX4_workAllDay 73 = .ok (.iconst 1, 1) := by decide +kernel
theorem dX4_workAllDay_74 : decode cX4_workAllDay 74 = .ok (.iadd, 1) := by decide +kernel
theorem dX4_workAllDay_75 : decode cX4_workAllDay 75 = .ok (.putfield 15, 3) := by decide +kernel
theorem dX4_workAllDay_78 : decode cX4_workAllDay 78 = .ok (.aload_n 0, 1) := by decide +kernel
theorem dX4_workAllDay_79 : decode cX4_workAllDay 79 = .ok (.getfield 18, 3) := by decide +kernel
theorem dX4_workAllDay_82 : decode cX4_workAllDay 82 = .ok (.iconst (-1), 1) := by decide +kernel
theorem dX4_workAllDay_83 : decode cX4_workAllDay 83 = .ok (.if_icmp .ne 22, 3) := by decide +kernel
theorem dX4_workAllDay_86 : decode cX4_workAllDay 86 = .ok (.aload_n 0, 1) := by decide +kernel
theorem dX4_workAllDay_87 : decode cX4_workAllDay 87 = .ok (.aload_n 0, 1) := by decide +kernel
theorem dX4_workAllDay_88 : decode cX4_workAllDay 88 = .ok (.getfield 27, 3) := by decide +kernel
theorem dX4_workAllDay_91 : decode cX4_workAllDay 91 = .ok (.aload_n 0, 1) := by decide +kernel
theorem dX4_workAllDay_92 : decode cX4_workAllDay 92 = .ok (.getfield 30, 3) := by decide +kernel
theorem dX4_workAllDay_95 : decode cX4_workAllDay 95 = .ok (.aload_n 0, 1) := by decide +kernel
theorem dX4_workAllDay_96 : decode cX4_workAllDay 96 = .ok (.getfield 33, 3) := by decide +kernel
theorem dX4_workAllDay_99 : decode cX4_workAllDay 99 = .ok (.invokestatic 98, 3) := by decide +kernel
theorem dX4_workAllDay_102 : decode cX4_workAllDay 102 = .ok (.putfield 18, 3) := by decide +kernel
theorem dX4_workAllDay_105 : decode cX4_workAllDay 105 = .ok (.iinc 2 1, 3) := by decide +kernel
theorem dX4_workAllDay_108 : decode cX4_workAllDay 108 = .ok (.goto (-106), 3) := by decide +kernel
theorem dX4_workAllDay_111 : decode cX4_workAllDay 111 = .ok (.return_, 1) := by decide +kernel
theorem dX4_goOn_0 : decode cX4_goOn 0 = .ok (.aload_n 0, 1) := by decide +kernel
theorem dX4_goOn_1 : decode cX4_goOn 1 = .ok (.iconst 0, 1) := by decide +kernel
theorem dX4_goOn_2 : decode cX4_goOn 2 = .ok (.putfield 9, 3) := by decide +kernel
theorem dX4_goOn_5 : decode cX4_goOn 5 = .ok (.aload_n 0, 1) := by decide +kernel
theorem dX4_goOn_6 : decode cX4_goOn 6 = .ok (.iconst 0, 1) := by decide +kernel
theorem dX4_goOn_7 : decode cX4_goOn 7 = .ok (.putfield 15, 3) := by decide +kernel
theorem dX4_goOn_10 : decode cX4_goOn 10 = .ok (.aload_n 0, 1) := by decide +kernel
theorem dX4_goOn_11 : decode cX4_goOn 11 = .ok (.iconst (-1), 1) := by decide +kernel
theorem dX4_goOn_12 : decode cX4_goOn 12 = .ok (.putfield 18, 3) := by decide +kernel
theorem dX4_goOn_15 : decode cX4_goOn 15 = .ok (.aload_n 0, 1) := by decide +kernel
theorem dX4_goOn_16 : decode cX4_goOn 16 = .ok (.iconst (-1), 1) := by decide +kernel
theorem dX4_goOn_17 : decode cX4_goOn 17 = .ok (.putfield 21, 3) := by decide +kernel
theorem dX4_goOn_20 : decode cX4_goOn 20 = .ok (.aload_n 0, 1) := by decide +kernel
theorem dX4_goOn_21 : decode cX4_goOn 21 = .ok (.iload 4, 2) := by decide +kernel
theorem dX4_goOn_23 : decode cX4_goOn 23 = .ok (.putfield 24, 3) := by decide +kernel
theorem dX4_goOn_26 : decode cX4_goOn 26 = .ok (.aload_n 0, 1) := by decide +kernel
theorem dX4_goOn_27 : decode cX4_goOn 27 = .ok (.getfield 43, 3) := by decide +kernel
theorem dX4_goOn_30 : decode cX4_goOn 30 = .ok (.getfield 58, 3) := by decide +kernel
theorem dX4_goOn_33 : decode cX4_goOn 33 = .ok (.istore 5, 2) := by decide +kernel
theorem dX4_goOn_35 : decode cX4_goOn 35 = .ok (.iload 5, 2) := by decide +kernel
theorem dX4_goOn_37 : decode cX4_goOn 37 = .ok (.istore 6, 2) := by decide +kernel
theorem dX4_goOn_39 : decode cX4_goOn 39 = .ok (.iload 6, 2) := by decide +kernel
theorem dX4_goOn_41 : decode cX4_goOn 41 = .ok (.iload 5, 2) := by decide +kernel
theorem dX4_goOn_43 : decode cX4_goOn 43 = .ok (.iload_n 2, 1) := by decide +kernel
theorem dX4_goOn_44 : decode cX4_goOn 44 = .ok (.iadd, 1) := by decide +kernel
theorem dX4_goOn_45 : decode cX4_goOn 45 = .ok (.if_icmp .ge 88, 3) := by decide +kernel
theorem dX4_goOn_48 : decode cX4_goOn 48 = .ok (.iload 6, 2) := by decide +kernel
theorem dX4_goOn_50 : decode cX4_goOn 50 = .ok (.iload 5, 2) := by decide +kernel
theorem dX4_goOn_52 : decode cX4_goOn 52 = .ok (.if_icmp .le 12, 3) := by decide +kernel
theorem dX4_goOn_55 : decode cX4_goOn 55 = .ok (.aload_n 0, 1) := by decide +kernel
theorem dX4_goOn_56 : decode cX4_goOn 56 = .ok (.getfield 43, 3) := by decide +kernel
theorem dX4_goOn_59 : decode cX4_goOn 59 = .ok (.iload 6, 2) := by decide +kernel
theorem dX4_goOn_61 : decode cX4_goOn 61 = .ok (.invokevirtual 61, 3) := by decide +kernel
theorem dX4_goOn_64 : decode cX4_goOn 64 = .ok (.iload_n 3, 1) := by decide +kernel
theorem dX4_goOn_65 : decode cX4_goOn 65 = .ok (.ifCond .eq 14, 3) := by decide +kernel
theorem dX4_goOn_68 : decode cX4_goOn 68 = .ok (.aload_n 0, 1) := by decide +kernel
theorem dX4_goOn_69 : decode cX4_goOn 69 = .ok (.getfield 43, 3) := by decide +kernel
theorem dX4_goOn_72 : decode cX4_goOn 72 = .ok (.aload_n 0, 1) := by decide +kernel
theorem dX4_goOn_73 : decode cX4_goOn 73 = .ok (.invokevirtual 65, 3) := by decide +kernel
theorem dX4_goOn_76 : decode cX4_goOn 76 = .ok (.putfield 69, 3) := by decide +kernel
theorem dX4_goOn_79 : decode cX4_goOn 79 = .ok (.aload_n 0, 1) := by decide +kernel
theorem dX4_goOn_80 : decode cX4_goOn 80 = .ok (.getfield 43, 3) := by decide +kernel
theorem dX4_goOn_83 : decode cX4_goOn 83 = .ok (.invokevirtual 72, 3) := by decide +kernel
theorem dX4_goOn_86 : decode cX4_goOn 86 = .ok (.istore 7, 2) := by decide +kernel
theorem dX4_goOn_88 : decode cX4_goOn 88 = .ok (.aload_n 0, 1) := by decide +kernel
theorem dX4_goOn_89 : decode cX4_goOn 89 = .ok (.getfield 15, 3) := by decide +kernel
theorem dX4_goOn_92 : decode cX4_goOn 92 = .ok (.istore 8, 2) := by decide +kernel
theorem dX4_goOn_94 : decode cX4_goOn 94 = .ok (.aload_n 0, 1) := by decide +kernel
theorem dX4_goOn_95 : decode cX4_goOn 95 = .ok (.iload_n 1, 1) := by decide +kernel
theorem dX4_goOn_96 : decode cX4_goOn 96 = .ok (.invokevirtual 76, 3) := by decide +kernel
theorem dX4_goOn_99 : decode cX4_goOn 99 = .ok (.iload 7, 2) := by decide +kernel
theorem dX4_goOn_101 : decode cX4_goOn 101 = .ok (.ifCond .eq 26, 3) := by decide +kernel
theorem dX4_goOn_104 : decode cX4_goOn 104 = .ok (.aload_n 0, 1) := by decide +kernel
theorem dX4_goOn_105 : decode cX4_goOn 105 = .ok (.getfield 15, 3) := by decide +kernel
theorem dX4_goOn_108 : decode cX4_goOn 108 = .ok (.iload 8, 2) := by decide +kernel
theorem dX4_goOn_110 : decode cX4_goOn 110 = .ok (.if_icmp .ne 17, 3) := by decide +kernel
theorem dX4_goOn_113 : decode cX4_goOn 113 = .ok (.aload_n 0, 1) := by decide +kernel
theorem dX4_goOn_114 : decode cX4_goOn 114 = .ok (.getfield 21, 3) := by decide +kernel
theorem dX4_goOn_117 : decode cX4_goOn 117 = .ok (.iconst (-1), 1) := by decide +kernel
theorem dX4_goOn_118 : decode cX4_goOn 118 = .ok (.if_icmp .ne 9, 3) := by decide +kernel
theorem dX4_goOn_121 : decode cX4_goOn 121 = .ok (.aload_n 0, 1) := by decide +kernel
theorem dX4_goOn_122 : decode cX4_goOn 122 = .ok (.iload 6, 2) := by decide +kernel
theorem dX4_goOn_124 : decode cX4_goOn 124 = .ok (.putfield 21, 3) := by decide +kernel
theorem dX4_goOn_127 : decode cX4_goOn 127 = .ok (.iinc 6 1, 3) := by decide +kernel
theorem dX4_goOn_130 : decode cX4_goOn 130 = .ok (.goto (-91), 3) := by decide +kernel
theorem dX4_goOn_133 : decode cX4_goOn 133 = .ok (.return_, 1) := by decide +kernel
theorem dX4_answer_0 : decode cX4_answer 0 = .ok (.iload_n 1, 1) := by decide +kernel
theorem dX4_answer_1 : decode cX4_answer 1 = .ok (.tableswitch 48 0 2 #[27, 32, 37], 27) := by decide +kernel
theorem dX4_answer_28 : decode cX4_answer 28 = .ok (.aload_n 0, 1) := by decide +kernel
theorem dX4_answer_29 : decode cX4_answer 29 = .ok (.getfield 9, 3) := by decide +kernel
theorem dX4_answer_32 : decode cX4_answer 32 = .ok (.ireturn, 1) := by decide +kernel
theorem dX4_answer_33 : decode cX4_answer 33 = .ok (.aload_n 0, 1) := by decide +kernel
theorem dX4_answer_34 : decode cX4_answer 34 = .ok (.getfield 15, 3) := by decide +kernel
theorem dX4_answer_37 : decode cX4_answer 37 = .ok (.ireturn, 1) := by decide +kernel
theorem dX4_answer_38 : decode cX4_answer 38 = .ok (.aload_n 0, 1) := by decide +kernel
theorem dX4_answer_39 : decode cX4_answer 39 = .ok (.getfield 43, 3) := by decide +kernel
theorem dX4_answer_42 : decode cX4_answer 42 = .ok (.getfield 47, 3) := by decide +kernel
theorem dX4_answer_45 : decode cX4_answer 45 = .ok (.invokestatic 52, 3) := by decide +kernel
theorem dX4_answer_48 : decode cX4_answer 48 = .ok (.ireturn, 1) := by decide +kernel
theorem dX4_answer_49 : decode cX4_answer 49 = .ok (.aload_n 0, 1) := by decide +kernel
theorem dX4_answer_50 : decode cX4_answer 50 = .ok (.getfield 18, 3) := by decide +kernel
theorem dX4_answer_53 : decode cX4_answer 53 = .ok (.ireturn, 1) := by decide +kernel
def f4_drawQuestion (μ : zMem) : zRes := zlet (zset μ 57 6 (((μ 57 6) * (1103515245 : Int32)) + (12345 : Int32))) (fun (μ1 : zMem) => zlet (fun (s2 : Int32) => some (0, s2, μ1)) (fun j3 => if 0 < (μ1 2 0) then znz (μ1 2 0) (j3 (zrem ((zushr (μ1 57 6) (16 : Int32)) &&& (32767 : Int32)) (μ1 2 0))) else j3 (0 : Int32)))
set_option maxHeartbeats 1000000 in
theorem t4_drawQuestion {g : Bool} (μ : zMem) : zMR yX4_drawQuestion cX4_drawQuestion 1 (some .int) 1 [.ref 57] (nX g) (SX g) μ (f4_drawQuestion μ) := by
  refine zMR_of (by decide +kernel) rfl (Nat.le_of_ble_eq_true rfl) (L := [.ref 57]) rfl ?_
  unfold f4_drawQuestion
  refine z_aload_n (pc := 0) dX4_drawQuestion_0 rfl ?_
  refine z_aload_n (pc := 1) dX4_drawQuestion_1 rfl ?_
  refine z_geti (pc := 2) fdX4_24 (nx_lt (by decide)) (sx_57 g) rfl dX4_drawQuestion_2 ?_
  refine z_ldc (pc := 5) (1103515245 : Int32) kcX4_79 dX4_drawQuestion_5 ?_
  refine z_imul (pc := 7) dX4_drawQuestion_7 ?_
  refine z_sipush (pc := 8) (12345 : Int32) dX4_drawQuestion_8 (by decide) ?_
  refine z_iadd (pc := 11) dX4_drawQuestion_11 ?_
  refine z_puti (pc := 12) fdX4_24 (nx_lt (by decide)) (sx_57 g) rfl rfl dX4_drawQuestion_12 ?_
  refine z_mem (fun μ1 => ?_)
  refine z_aload_n (pc := 15) dX4_drawQuestion_15 rfl ?_
  refine z_getr (pc := 16) fdX4_39 (nx_lt (by decide)) (sx_57 g) rfl rfl dX4_drawQuestion_16 ?_
  refine z_geti (pc := 19) fdX4_80 (nx_lt (by decide)) (sx_2 g) rfl dX4_drawQuestion_19 ?_
  refine z_let (fun (j : Int32 → zRes) => ∀ (s2 : Int32), zR yX4_drawQuestion cX4_drawQuestion 1 (some .int) 1 48 [.null] [.int s2] (nX g) (SX g) μ1 (j s2)) ?_ (fun j3 hj3 => ?_)
  · intro s2
    exact z_iret (pc := 48) rfl dX4_drawQuestion_48
  · refine z_if_gt (pc := 22) (tgt := 29) dX4_drawQuestion_22 (by decide) (fun c4 => ?_) (fun c5 => ?_)
    · refine z_aload_n (pc := 29) dX4_drawQuestion_29 rfl ?_
      refine z_geti (pc := 30) fdX4_24 (nx_lt (by decide)) (sx_57 g) rfl dX4_drawQuestion_30 ?_
      refine z_bipush (pc := 33) (16 : Int32) dX4_drawQuestion_33 (by decide) ?_
      refine z_iushr (pc := 35) dX4_drawQuestion_35 ?_
      refine z_sipush (pc := 36) (32767 : Int32) dX4_drawQuestion_36 (by decide) ?_
      refine z_iand (pc := 39) dX4_drawQuestion_39 ?_
      refine z_aload_n (pc := 40) dX4_drawQuestion_40 rfl ?_
      refine z_getr (pc := 41) fdX4_39 (nx_lt (by decide)) (sx_57 g) rfl rfl dX4_drawQuestion_41 ?_
      refine z_geti (pc := 44) fdX4_80 (nx_lt (by decide)) (sx_2 g) rfl dX4_drawQuestion_44 ?_
      refine z_irem (pc := 47) dX4_drawQuestion_47 (fun h6 => ?_)
      refine z_loc (L' := [.null]) ⟨Or.inl rfl, trivial⟩ ?_
      exact hj3 (zrem ((zushr (μ1 57 6) (16 : Int32)) &&& (32767 : Int32)) (μ1 2 0))
    · refine z_iconst (pc := 25) (0 : Int32) dX4_drawQuestion_25 (by decide) ?_
      refine z_goto (pc := 26) (tgt := 48) dX4_drawQuestion_26 (by decide) ?_
      refine z_loc (L' := [.null]) ⟨Or.inl rfl, trivial⟩ ?_
      exact hj3 (0 : Int32)
def f4_scoreOf (x1 : Int32) (x2 : Int32) (x3 : Int32) (x4 : Int32) (μ : zMem) : zRes := if x1 = (0 : Int32) then bnd0 (f5_questionOf 28 x2 μ) (fun (v2 : Int32) (μ3 : zMem) => bnd0 (f5_apart 28 x3 x4 v2 μ3) (fun (v4 : Int32) (μ5 : zMem) => some (0, v4, μ5))) else if x1 = (1 : Int32) then bnd0 (f5_questionOf 28 x2 μ) (fun (v7 : Int32) (μ8 : zMem) => bnd0 (f5_apart 28 x3 x4 v7 μ8) (fun (v9 : Int32) (μ10 : zMem) => some (0, -v9, μ10))) else if x1 = (2 : Int32) then zin x3 9 (zin x4 9 (some (0, (-(μ 31 x3.toNatClampNeg)) - (μ 31 x4.toNatClampNeg), μ))) else zin x2 10 (some (0, μ 8 x2.toNatClampNeg, μ))
set_option maxHeartbeats 1000000 in
theorem t4_scoreOf {g : Bool} (x1 : Int32) (x2 : Int32) (x3 : Int32) (x4 : Int32) (μ : zMem) : zMR yX4_scoreOf cX4_scoreOf 5 (some .int) 2 [.ref 57, .int x1, .int x2, .int x3, .int x4] (nX g) (SX g) μ (f4_scoreOf x1 x2 x3 x4 μ) := by
  refine zMR_of (by decide +kernel) rfl (Nat.le_of_ble_eq_true rfl) (L := [.ref 57, .int x1, .int x2, .int x3, .int x4]) rfl ?_
  unfold f4_scoreOf
  refine z_iload_n (pc := 0) dX4_scoreOf_0 rfl ?_
  refine z_tabC (pc := 1) (tgt := 28) (0 : Int32) dX4_scoreOf_1 (by decide) (by decide) rfl (by decide) ?_ (fun c1 => ?_)
  · refine z_aload_n (pc := 28) dX4_scoreOf_28 rfl ?_
    refine z_getr (pc := 29) fdX4_43 (nx_lt (by decide)) (sx_57 g) rfl rfl dX4_scoreOf_29 ?_
    refine z_iload_n (pc := 32) dX4_scoreOf_32 rfl ?_
    refine z_iload (pc := 33) dX4_scoreOf_33 rfl ?_
    refine z_aload_n (pc := 35) dX4_scoreOf_35 rfl ?_
    refine z_getr (pc := 36) fdX4_43 (nx_lt (by decide)) (sx_57 g) rfl rfl dX4_scoreOf_36 ?_
    refine z_iload_n (pc := 39) dX4_scoreOf_39 rfl ?_
    refine z_callV (As := [.int x2]) (pc := 40) (ret' := some .int) kvX4_126 (t5_questionOf zSc_28 _ _) (by decide) (nx_lt (by decide)) (sx_28 g)  rfl rfl (Nat.le_of_ble_eq_true rfl) dX4_scoreOf_40 (fun v2 μ3 => ?_)
    refine z_callV (As := [.int x3, .int x4, .int v2]) (pc := 43) (ret' := some .int) kvX4_129 (t5_apart zSc_28 _ _ _ _) (by decide) (nx_lt (by decide)) (sx_28 g)  rfl rfl (Nat.le_of_ble_eq_true rfl) dX4_scoreOf_43 (fun v4 μ5 => ?_)
    exact z_iret (pc := 46) rfl dX4_scoreOf_46
  · refine z_tabC (pc := 1) (tgt := 47) (1 : Int32) dX4_scoreOf_1 (by decide) (by decide) rfl (by decide) ?_ (fun c6 => ?_)
    · refine z_aload_n (pc := 47) dX4_scoreOf_47 rfl ?_
      refine z_getr (pc := 48) fdX4_43 (nx_lt (by decide)) (sx_57 g) rfl rfl dX4_scoreOf_48 ?_
      refine z_iload_n (pc := 51) dX4_scoreOf_51 rfl ?_
      refine z_iload (pc := 52) dX4_scoreOf_52 rfl ?_
      refine z_aload_n (pc := 54) dX4_scoreOf_54 rfl ?_
      refine z_getr (pc := 55) fdX4_43 (nx_lt (by decide)) (sx_57 g) rfl rfl dX4_scoreOf_55 ?_
      refine z_iload_n (pc := 58) dX4_scoreOf_58 rfl ?_
      refine z_callV (As := [.int x2]) (pc := 59) (ret' := some .int) kvX4_126 (t5_questionOf zSc_28 _ _) (by decide) (nx_lt (by decide)) (sx_28 g)  rfl rfl (Nat.le_of_ble_eq_true rfl) dX4_scoreOf_59 (fun v7 μ8 => ?_)
      refine z_callV (As := [.int x3, .int x4, .int v7]) (pc := 62) (ret' := some .int) kvX4_129 (t5_apart zSc_28 _ _ _ _) (by decide) (nx_lt (by decide)) (sx_28 g)  rfl rfl (Nat.le_of_ble_eq_true rfl) dX4_scoreOf_62 (fun v9 μ10 => ?_)
      refine z_ineg (pc := 65) dX4_scoreOf_65 ?_
      exact z_iret (pc := 66) rfl dX4_scoreOf_66
    · refine z_tabC (pc := 1) (tgt := 67) (2 : Int32) dX4_scoreOf_1 (by decide) (by decide) rfl (by decide) ?_ (fun c11 => ?_)
      · refine z_aload_n (pc := 67) dX4_scoreOf_67 rfl ?_
        refine z_getr (pc := 68) fdX4_43 (nx_lt (by decide)) (sx_57 g) rfl rfl dX4_scoreOf_68 ?_
        refine z_getr (pc := 71) fdX4_132 (nx_lt (by decide)) (sx_28 g) rfl rfl dX4_scoreOf_71 ?_
        refine z_iload_n (pc := 74) dX4_scoreOf_74 rfl ?_
        refine z_iald (pc := 75) (nx_lt (by decide)) (sx_31 g) rfl dX4_scoreOf_75 (fun h12 => ?_)
        refine z_ineg (pc := 76) dX4_scoreOf_76 ?_
        refine z_aload_n (pc := 77) dX4_scoreOf_77 rfl ?_
        refine z_getr (pc := 78) fdX4_43 (nx_lt (by decide)) (sx_57 g) rfl rfl dX4_scoreOf_78 ?_
        refine z_getr (pc := 81) fdX4_132 (nx_lt (by decide)) (sx_28 g) rfl rfl dX4_scoreOf_81 ?_
        refine z_iload (pc := 84) dX4_scoreOf_84 rfl ?_
        refine z_iald (pc := 86) (nx_lt (by decide)) (sx_31 g) rfl dX4_scoreOf_86 (fun h13 => ?_)
        refine z_isub (pc := 87) dX4_scoreOf_87 ?_
        exact z_iret (pc := 88) rfl dX4_scoreOf_88
      · refine z_tabD (pc := 1) (tgt := 89) dX4_scoreOf_1 (by have q0 := z_i32 c1 (z := 0) (by decide); have q1 := z_i32 c6 (z := 1) (by decide); have q2 := z_i32 c11 (z := 2) (by decide); omega) (by decide) ?_
        refine z_aload_n (pc := 89) dX4_scoreOf_89 rfl ?_
        refine z_getr (pc := 90) fdX4_39 (nx_lt (by decide)) (sx_57 g) rfl rfl dX4_scoreOf_90 ?_
        refine z_getr (pc := 93) fdX4_95 (nx_lt (by decide)) (sx_2 g) rfl rfl dX4_scoreOf_93 ?_
        refine z_iload_n (pc := 96) dX4_scoreOf_96 rfl ?_
        refine z_iald (pc := 97) (nx_lt (by decide)) (sx_8 g) rfl dX4_scoreOf_97 (fun h14 => ?_)
        exact z_iret (pc := 98) rfl dX4_scoreOf_98
def f4_isBetter (x1 : Int32) (x2 : Int32) (x3 : Int32) (μ : zMem) : zRes := if (μ 57 7) = (-1 : Int32) then some (0, (1 : Int32), μ) else zlet (fun (s3 : Int32) => zlet (fun (s4 : Int32) => zlet (fun (s5 : Int32) => zlet (fun (s6 : Int32) => zbl s6 (some (0, s6, μ))) (fun j7 => zlet (j7 (1 : Int32)) (fun j8 => if s5 < s4 then j8 else zlet (j7 (0 : Int32)) (fun j11 => if s4 = s5 then zin x2 10 (zin (μ 57 7) 10 (if (μ 8 x2.toNatClampNeg) ≤ (μ 8 (μ 57 7).toNatClampNeg) then j11 else j8)) else j11)))) (fun j18 => if s3 = 0 then j18 (μ 57 10) else zin x2 10 (j18 ((μ 57 10) * (μ 9 x2.toNatClampNeg))))) (fun j22 => if s3 = 0 then j22 x3 else zin (μ 57 7) 10 (j22 (x3 * (μ 9 (μ 57 7).toNatClampNeg))))) (fun j26 => if x1 ≤ (2 : Int32) then j26 (0 : Int32) else j26 (1 : Int32))
set_option maxHeartbeats 1000000 in
theorem t4_isBetter {g : Bool} (x1 : Int32) (x2 : Int32) (x3 : Int32) (μ : zMem) : zMR yX4_isBetter cX4_isBetter 7 (some .boolean) 1 [.ref 57, .int x1, .int x2, .int x3] (nX g) (SX g) μ (f4_isBetter x1 x2 x3 μ) := by
  refine zMR_of (by decide +kernel) rfl (Nat.le_of_ble_eq_true rfl) (L := [.ref 57, .int x1, .int x2, .int x3, .null, .null, .null]) rfl ?_
  unfold f4_isBetter
  refine z_aload_n (pc := 0) dX4_isBetter_0 rfl ?_
  refine z_geti (pc := 1) fdX4_27 (nx_lt (by decide)) (sx_57 g) rfl dX4_isBetter_1 ?_
  refine z_iconst (pc := 4) (-1 : Int32) dX4_isBetter_4 (by decide) ?_
  refine z_icmp_ne (pc := 5) (tgt := 10) dX4_isBetter_5 (by decide) (fun c1 => ?_) (fun c2 => ?_)
  · refine z_iload_n (pc := 10) dX4_isBetter_10 rfl ?_
    refine z_iconst (pc := 11) (2 : Int32) dX4_isBetter_11 (by decide) ?_
    refine z_let (fun (j : Int32 → zRes) => ∀ (s3 : Int32), zR yX4_isBetter cX4_isBetter 7 (some .boolean) 1 20 [.ref 57, .null, .int x2, .int x3, .null, .null, .null] [.int s3] (nX g) (SX g) μ (j s3)) ?_ (fun j26 hj26 => ?_)
    · intro s3
      refine z_istore (pc := 20) (L' := [.ref 57, .null, .int x2, .int x3, .int s3, .null, .null]) dX4_isBetter_20 (by decide) rfl ?_
      refine z_iload (pc := 22) dX4_isBetter_22 rfl ?_
      refine z_let (fun (j : Int32 → zRes) => ∀ (s4 : Int32), zR yX4_isBetter cX4_isBetter 7 (some .boolean) 1 45 [.ref 57, .null, .int x2, .null, .int s3, .null, .null] [.int s4] (nX g) (SX g) μ (j s4)) ?_ (fun j22 hj22 => ?_)
      · intro s4
        refine z_istore (pc := 45) (L' := [.ref 57, .null, .int x2, .null, .int s3, .int s4, .null]) dX4_isBetter_45 (by decide) rfl ?_
        refine z_iload (pc := 47) dX4_isBetter_47 rfl ?_
        refine z_let (fun (j : Int32 → zRes) => ∀ (s5 : Int32), zR yX4_isBetter cX4_isBetter 7 (some .boolean) 1 73 [.ref 57, .null, .int x2, .null, .null, .int s4, .null] [.int s5] (nX g) (SX g) μ (j s5)) ?_ (fun j18 hj18 => ?_)
        · intro s5
          refine z_istore (pc := 73) (L' := [.ref 57, .null, .int x2, .null, .null, .int s4, .int s5]) dX4_isBetter_73 (by decide) rfl ?_
          refine z_iload (pc := 75) dX4_isBetter_75 rfl ?_
          refine z_iload (pc := 77) dX4_isBetter_77 rfl ?_
          refine z_let (fun (j : Int32 → zRes) => ∀ (s6 : Int32), zR yX4_isBetter cX4_isBetter 7 (some .boolean) 1 118 [.null, .null, .null, .null, .null, .null, .null] [.int s6] (nX g) (SX g) μ (j s6)) ?_ (fun j7 hj7 => ?_)
          · intro s6
            exact z_zret (pc := 118) rfl dX4_isBetter_118
          · refine z_let (fun (j : zRes) => zR yX4_isBetter cX4_isBetter 7 (some .boolean) 1 113 [.null, .null, .null, .null, .null, .null, .null] [] (nX g) (SX g) μ (j)) ?_ (fun j8 hj8 => ?_)
            · refine z_iconst (pc := 113) (1 : Int32) dX4_isBetter_113 (by decide) ?_
              refine z_goto (pc := 114) (tgt := 118) dX4_isBetter_114 (by decide) ?_
              exact hj7 (1 : Int32)
            · refine z_icmp_gt (pc := 79) (tgt := 113) dX4_isBetter_79 (by decide) (fun c9 => ?_) (fun c10 => ?_)
              · refine z_loc (L' := [.null, .null, .null, .null, .null, .null, .null]) ⟨Or.inl rfl, ⟨Or.inl rfl, ⟨Or.inl rfl, ⟨Or.inl rfl, ⟨Or.inl rfl, ⟨Or.inl rfl, ⟨Or.inl rfl, trivial⟩⟩⟩⟩⟩⟩⟩ ?_
                exact hj8
              · refine z_iload (pc := 82) dX4_isBetter_82 rfl ?_
                refine z_iload (pc := 84) dX4_isBetter_84 rfl ?_
                refine z_let (fun (j : zRes) => zR yX4_isBetter cX4_isBetter 7 (some .boolean) 1 117 [.null, .null, .null, .null, .null, .null, .null] [] (nX g) (SX g) μ (j)) ?_ (fun j11 hj11 => ?_)
                · refine z_iconst (pc := 117) (0 : Int32) dX4_isBetter_117 (by decide) ?_
                  exact hj7 (0 : Int32)
                · refine z_icmp_ne (pc := 86) (tgt := 117) dX4_isBetter_86 (by decide) (fun c12 => ?_) (fun c13 => ?_)
                  · refine z_loc (L' := [.null, .null, .null, .null, .null, .null, .null]) ⟨Or.inl rfl, ⟨Or.inl rfl, ⟨Or.inl rfl, ⟨Or.inl rfl, ⟨Or.inl rfl, ⟨Or.inl rfl, ⟨Or.inl rfl, trivial⟩⟩⟩⟩⟩⟩⟩ ?_
                    exact hj11
                  · refine z_aload_n (pc := 89) dX4_isBetter_89 rfl ?_
                    refine z_getr (pc := 90) fdX4_39 (nx_lt (by decide)) (sx_57 g) rfl rfl dX4_isBetter_90 ?_
                    refine z_getr (pc := 93) fdX4_95 (nx_lt (by decide)) (sx_2 g) rfl rfl dX4_isBetter_93 ?_
                    refine z_iload_n (pc := 96) dX4_isBetter_96 rfl ?_
                    refine z_iald (pc := 97) (nx_lt (by decide)) (sx_8 g) rfl dX4_isBetter_97 (fun h14 => ?_)
                    refine z_aload_n (pc := 98) dX4_isBetter_98 rfl ?_
                    refine z_getr (pc := 99) fdX4_39 (nx_lt (by decide)) (sx_57 g) rfl rfl dX4_isBetter_99 ?_
                    refine z_getr (pc := 102) fdX4_95 (nx_lt (by decide)) (sx_2 g) rfl rfl dX4_isBetter_102 ?_
                    refine z_aload_n (pc := 105) dX4_isBetter_105 rfl ?_
                    refine z_geti (pc := 106) fdX4_27 (nx_lt (by decide)) (sx_57 g) rfl dX4_isBetter_106 ?_
                    refine z_iald (pc := 109) (nx_lt (by decide)) (sx_8 g) rfl dX4_isBetter_109 (fun h15 => ?_)
                    refine z_icmp_le (pc := 110) (tgt := 117) dX4_isBetter_110 (by decide) (fun c16 => ?_) (fun c17 => ?_)
                    · refine z_loc (L' := [.null, .null, .null, .null, .null, .null, .null]) ⟨Or.inl rfl, ⟨Or.inl rfl, ⟨Or.inl rfl, ⟨Or.inl rfl, ⟨Or.inl rfl, ⟨Or.inl rfl, ⟨Or.inl rfl, trivial⟩⟩⟩⟩⟩⟩⟩ ?_
                      exact hj11
                    · refine z_loc (L' := [.null, .null, .null, .null, .null, .null, .null]) ⟨Or.inl rfl, ⟨Or.inl rfl, ⟨Or.inl rfl, ⟨Or.inl rfl, ⟨Or.inl rfl, ⟨Or.inl rfl, ⟨Or.inl rfl, trivial⟩⟩⟩⟩⟩⟩⟩ ?_
                      exact hj8
        · refine z_if_eq (pc := 49) (tgt := 69) dX4_isBetter_49 (by decide) (fun c19 => ?_) (fun c20 => ?_)
          · refine z_aload_n (pc := 69) dX4_isBetter_69 rfl ?_
            refine z_geti (pc := 70) fdX4_36 (nx_lt (by decide)) (sx_57 g) rfl dX4_isBetter_70 ?_
            refine z_loc (L' := [.ref 57, .null, .int x2, .null, .null, .int s4, .null]) ⟨Or.inr rfl, ⟨Or.inl rfl, ⟨Or.inr rfl, ⟨Or.inl rfl, ⟨Or.inl rfl, ⟨Or.inr rfl, ⟨Or.inl rfl, trivial⟩⟩⟩⟩⟩⟩⟩ ?_
            exact hj18 (μ 57 10)
          · refine z_aload_n (pc := 52) dX4_isBetter_52 rfl ?_
            refine z_geti (pc := 53) fdX4_36 (nx_lt (by decide)) (sx_57 g) rfl dX4_isBetter_53 ?_
            refine z_aload_n (pc := 56) dX4_isBetter_56 rfl ?_
            refine z_getr (pc := 57) fdX4_39 (nx_lt (by decide)) (sx_57 g) rfl rfl dX4_isBetter_57 ?_
            refine z_getr (pc := 60) fdX4_135 (nx_lt (by decide)) (sx_2 g) rfl rfl dX4_isBetter_60 ?_
            refine z_iload_n (pc := 63) dX4_isBetter_63 rfl ?_
            refine z_iald (pc := 64) (nx_lt (by decide)) (sx_9 g) rfl dX4_isBetter_64 (fun h21 => ?_)
            refine z_imul (pc := 65) dX4_isBetter_65 ?_
            refine z_goto (pc := 66) (tgt := 73) dX4_isBetter_66 (by decide) ?_
            refine z_loc (L' := [.ref 57, .null, .int x2, .null, .null, .int s4, .null]) ⟨Or.inr rfl, ⟨Or.inl rfl, ⟨Or.inr rfl, ⟨Or.inl rfl, ⟨Or.inl rfl, ⟨Or.inr rfl, ⟨Or.inl rfl, trivial⟩⟩⟩⟩⟩⟩⟩ ?_
            exact hj18 ((μ 57 10) * (μ 9 x2.toNatClampNeg))
      · refine z_if_eq (pc := 24) (tgt := 44) dX4_isBetter_24 (by decide) (fun c23 => ?_) (fun c24 => ?_)
        · refine z_iload_n (pc := 44) dX4_isBetter_44 rfl ?_
          refine z_loc (L' := [.ref 57, .null, .int x2, .null, .int s3, .null, .null]) ⟨Or.inr rfl, ⟨Or.inl rfl, ⟨Or.inr rfl, ⟨Or.inl rfl, ⟨Or.inr rfl, ⟨Or.inl rfl, ⟨Or.inl rfl, trivial⟩⟩⟩⟩⟩⟩⟩ ?_
          exact hj22 x3
        · refine z_iload_n (pc := 27) dX4_isBetter_27 rfl ?_
          refine z_aload_n (pc := 28) dX4_isBetter_28 rfl ?_
          refine z_getr (pc := 29) fdX4_39 (nx_lt (by decide)) (sx_57 g) rfl rfl dX4_isBetter_29 ?_
          refine z_getr (pc := 32) fdX4_135 (nx_lt (by decide)) (sx_2 g) rfl rfl dX4_isBetter_32 ?_
          refine z_aload_n (pc := 35) dX4_isBetter_35 rfl ?_
          refine z_geti (pc := 36) fdX4_27 (nx_lt (by decide)) (sx_57 g) rfl dX4_isBetter_36 ?_
          refine z_iald (pc := 39) (nx_lt (by decide)) (sx_9 g) rfl dX4_isBetter_39 (fun h25 => ?_)
          refine z_imul (pc := 40) dX4_isBetter_40 ?_
          refine z_goto (pc := 41) (tgt := 45) dX4_isBetter_41 (by decide) ?_
          refine z_loc (L' := [.ref 57, .null, .int x2, .null, .int s3, .null, .null]) ⟨Or.inr rfl, ⟨Or.inl rfl, ⟨Or.inr rfl, ⟨Or.inl rfl, ⟨Or.inr rfl, ⟨Or.inl rfl, ⟨Or.inl rfl, trivial⟩⟩⟩⟩⟩⟩⟩ ?_
          exact hj22 (x3 * (μ 9 (μ 57 7).toNatClampNeg))
    · refine z_icmp_le (pc := 12) (tgt := 19) dX4_isBetter_12 (by decide) (fun c27 => ?_) (fun c28 => ?_)
      · refine z_iconst (pc := 19) (0 : Int32) dX4_isBetter_19 (by decide) ?_
        refine z_loc (L' := [.ref 57, .null, .int x2, .int x3, .null, .null, .null]) ⟨Or.inr rfl, ⟨Or.inl rfl, ⟨Or.inr rfl, ⟨Or.inr rfl, ⟨Or.inl rfl, ⟨Or.inl rfl, ⟨Or.inl rfl, trivial⟩⟩⟩⟩⟩⟩⟩ ?_
        exact hj26 (0 : Int32)
      · refine z_iconst (pc := 15) (1 : Int32) dX4_isBetter_15 (by decide) ?_
        refine z_goto (pc := 16) (tgt := 20) dX4_isBetter_16 (by decide) ?_
        refine z_loc (L' := [.ref 57, .null, .int x2, .int x3, .null, .null, .null]) ⟨Or.inr rfl, ⟨Or.inl rfl, ⟨Or.inr rfl, ⟨Or.inr rfl, ⟨Or.inl rfl, ⟨Or.inl rfl, ⟨Or.inl rfl, trivial⟩⟩⟩⟩⟩⟩⟩ ?_
        exact hj26 (1 : Int32)
  · refine z_iconst (pc := 8) (1 : Int32) dX4_isBetter_8 (by decide) ?_
    exact z_zretc (pc := 9) rfl (Or.inr rfl) dX4_isBetter_9
def f4_keep (x1 : Int32) (x2 : Int32) (x3 : Int32) (x4 : Int32) (μ : zMem) : zRes := zlet (zset μ 57 7 x1) (fun (μ1 : zMem) => zlet (zset μ1 57 8 x2) (fun (μ2 : zMem) => zlet (zset μ2 57 9 x3) (fun (μ3 : zMem) => zlet (zset μ3 57 10 x4) (fun (μ4 : zMem) => some (0, 0, μ4)))))
set_option maxHeartbeats 1000000 in
theorem t4_keep {g : Bool} (x1 : Int32) (x2 : Int32) (x3 : Int32) (x4 : Int32) (μ : zMem) : zMR yX4_keep cX4_keep 5 (none) 1 [.ref 57, .int x1, .int x2, .int x3, .int x4] (nX g) (SX g) μ (f4_keep x1 x2 x3 x4 μ) := by
  refine zMR_of (by decide +kernel) rfl (Nat.le_of_ble_eq_true rfl) (L := [.ref 57, .int x1, .int x2, .int x3, .int x4]) rfl ?_
  unfold f4_keep
  refine z_aload_n (pc := 0) dX4_keep_0 rfl ?_
  refine z_iload_n (pc := 1) dX4_keep_1 rfl ?_
  refine z_puti (pc := 2) fdX4_27 (nx_lt (by decide)) (sx_57 g) rfl rfl dX4_keep_2 ?_
  refine z_mem (fun μ1 => ?_)
  refine z_aload_n (pc := 5) dX4_keep_5 rfl ?_
  refine z_iload_n (pc := 6) dX4_keep_6 rfl ?_
  refine z_puti (pc := 7) fdX4_30 (nx_lt (by decide)) (sx_57 g) rfl rfl dX4_keep_7 ?_
  refine z_mem (fun μ2 => ?_)
  refine z_aload_n (pc := 10) dX4_keep_10 rfl ?_
  refine z_iload_n (pc := 11) dX4_keep_11 rfl ?_
  refine z_puti (pc := 12) fdX4_33 (nx_lt (by decide)) (sx_57 g) rfl rfl dX4_keep_12 ?_
  refine z_mem (fun μ3 => ?_)
  refine z_aload_n (pc := 15) dX4_keep_15 rfl ?_
  refine z_iload (pc := 16) dX4_keep_16 rfl ?_
  refine z_puti (pc := 18) fdX4_36 (nx_lt (by decide)) (sx_57 g) rfl rfl dX4_keep_18 ?_
  refine z_mem (fun μ4 => ?_)
  exact z_vret (pc := 21) rfl dX4_keep_21
def f4_pick_L71 (x1 : Int32) (x2 : Int32) (x4 : Int32) (K150 : zMem → zRes) : Nat → Int32 → zMem → zRes
  | 0, _, _ => none
  | n + 1, x5, μ => if (μ 28 4) ≤ x5 then K150 μ else bnd0 (f5_errs 28 x2 x4 x5 μ) (fun (v17 : Int32) (μ18 : zMem) => zlet (fun (s19 : Int32) (μ20 : zMem) => zlet (fun (μ21 : zMem) => f4_pick_L71 x1 x2 x4 K150 n (x5 + (1 : Int32)) μ21) (fun j22 => if s19 = (-100 : Int32) then j22 μ20 else bnd0 (f4_isBetter x1 x2 s19 μ20) (fun (v25 : Int32) (μ26 : zMem) => if v25 = 0 then j22 μ26 else bnd0 (f4_keep x2 x4 x5 s19 μ26) (fun (v29 : Int32) (μ30 : zMem) => j22 μ30)))) (fun j31 => if v17 = 0 then bnd0 (f4_scoreOf x1 x2 x4 x5 μ18) (fun (v34 : Int32) (μ35 : zMem) => j31 v34 μ35) else j31 (-100 : Int32) μ18))
def f4_pick_L49 (x1 : Int32) (x2 : Int32) (x3 : Int32) (K156 : zMem → zRes) : Nat → Int32 → zMem → zRes
  | 0, _, _ => none
  | n + 1, x4, μ => if x3 = 0 then K156 μ else if (μ 28 4) ≤ x4 then K156 μ else zlet (x4 + (1 : Int32)) (fun (v14 : Int32) => f4_pick_L71 x1 x2 x4 (fun (μ36 : zMem) => f4_pick_L49 x1 x2 x3 K156 n (x4 + (1 : Int32)) μ36) zF v14 μ)
def f4_pick_L7 (x1 : Int32) (K162 : zMem → zRes) : Nat → Int32 → zMem → zRes
  | 0, _, _ => none
  | n + 1, x2, μ => if (μ 2 2) ≤ x2 then K162 μ else bnd0 (f5_isOpen 28 x2 μ) (fun (v4 : Int32) (μ5 : zMem) => zlet (fun (s6 : Int32) (μ7 : zMem) => zlet (fun (μ8 : zMem) => f4_pick_L7 x1 K162 n (x2 + (1 : Int32)) μ8) (fun j9 => f4_pick_L49 x1 x2 s6 (fun (μ37 : zMem) => j9 μ37) zF (0 : Int32) μ7)) (fun j38 => zlet (fun (μ39 : zMem) => j38 (0 : Int32) μ39) (fun j40 => if v4 = 0 then bnd0 (f5_isTooLate 28 x2 μ5) (fun (v43 : Int32) (μ44 : zMem) => if v43 = 0 then j38 (1 : Int32) μ44 else j40 μ44) else j40 μ5)))
def f4_pick (x1 : Int32) (μ : zMem) : zRes := zlet (zset μ 57 7 (-1 : Int32)) (fun (μ1 : zMem) => f4_pick_L7 x1 (fun (μ47 : zMem) => some (0, 0, μ47)) zF (0 : Int32) μ1)
set_option maxHeartbeats 1000000 in
theorem t4_pick_L71 {g : Bool} (x1 : Int32) (x2 : Int32) (x3 : Int32) (x4 : Int32) (K150 : zMem → zRes) (hK150 : ∀ (μ : zMem), zR yX4_pick cX4_pick 7 (none) 3 150 [.ref 57, .int x1, .int x2, .int x3, .int x4, .null, .null] [] (nX g) (SX g) μ (K150 μ)) : ∀ (n : Nat) (x5 : Int32) (μ : zMem), zR yX4_pick cX4_pick 7 (none) 3 71 [.ref 57, .int x1, .int x2, .int x3, .int x4, .int x5, .null] [] (nX g) (SX g) μ (f4_pick_L71 x1 x2 x4 K150 n x5 μ) := by
  intro n
  induction n with
  | zero => intro x5 μ; intro q hq; cases hq
  | succ n ih =>
    intro x5 μ
    unfold f4_pick_L71
    refine z_iload (pc := 71) dX4_pick_71 rfl ?_
    refine z_aload_n (pc := 73) dX4_pick_73 rfl ?_
    refine z_getr (pc := 74) fdX4_43 (nx_lt (by decide)) (sx_57 g) rfl rfl dX4_pick_74 ?_
    refine z_geti (pc := 77) fdX4_108 (nx_lt (by decide)) (sx_28 g) rfl dX4_pick_77 ?_
    refine z_icmp_ge (pc := 80) (tgt := 150) dX4_pick_80 (by decide) (fun c15 => ?_) (fun c16 => ?_)
    · refine z_loc (L' := [.ref 57, .int x1, .int x2, .int x3, .int x4, .null, .null]) ⟨Or.inr rfl, ⟨Or.inr rfl, ⟨Or.inr rfl, ⟨Or.inr rfl, ⟨Or.inr rfl, ⟨Or.inl rfl, ⟨Or.inl rfl, trivial⟩⟩⟩⟩⟩⟩⟩ ?_
      exact hK150 μ
    · refine z_aload_n (pc := 83) dX4_pick_83 rfl ?_
      refine z_getr (pc := 84) fdX4_43 (nx_lt (by decide)) (sx_57 g) rfl rfl dX4_pick_84 ?_
      refine z_iload_n (pc := 87) dX4_pick_87 rfl ?_
      refine z_iload (pc := 88) dX4_pick_88 rfl ?_
      refine z_iload (pc := 90) dX4_pick_90 rfl ?_
      refine z_callV (As := [.int x2, .int x4, .int x5]) (pc := 92) (ret' := some .int) kvX4_111 (t5_errs zSc_28 _ _ _ _) (by decide) (nx_lt (by decide)) (sx_28 g)  rfl rfl (Nat.le_of_ble_eq_true rfl) dX4_pick_92 (fun v17 μ18 => ?_)
      refine z_let (fun (j : Int32 → zMem → zRes) => ∀ (s19 : Int32) (μ20 : zMem), zR yX4_pick cX4_pick 7 (none) 3 113 [.ref 57, .int x1, .int x2, .int x3, .int x4, .int x5, .null] [.int s19] (nX g) (SX g) μ20 (j s19 μ20)) ?_ (fun j31 hj31 => ?_)
      · intro s19 μ20
        refine z_istore (pc := 113) (L' := [.ref 57, .int x1, .int x2, .int x3, .int x4, .int x5, .int s19]) dX4_pick_113 (by decide) rfl ?_
        refine z_iload (pc := 115) dX4_pick_115 rfl ?_
        refine z_bipush (pc := 117) (-100 : Int32) dX4_pick_117 (by decide) ?_
        refine z_let (fun (j : zMem → zRes) => ∀ (μ21 : zMem), zR yX4_pick cX4_pick 7 (none) 3 144 [.ref 57, .int x1, .int x2, .int x3, .int x4, .int x5, .null] [] (nX g) (SX g) μ21 (j μ21)) ?_ (fun j22 hj22 => ?_)
        · intro μ21
          refine z_iinc (pc := 144) (v := x5 + (1 : Int32)) (L' := [.ref 57, .int x1, .int x2, .int x3, .int x4, .int (x5 + (1 : Int32)), .null]) dX4_pick_144 (by decide) rfl (congrArg _ (by decide)) rfl ?_
          refine z_goto (pc := 147) (tgt := 71) dX4_pick_147 (by decide) ?_
          exact ih (x5 + (1 : Int32)) μ21
        · refine z_icmp_eq (pc := 119) (tgt := 144) dX4_pick_119 (by decide) (fun c23 => ?_) (fun c24 => ?_)
          · refine z_loc (L' := [.ref 57, .int x1, .int x2, .int x3, .int x4, .int x5, .null]) ⟨Or.inr rfl, ⟨Or.inr rfl, ⟨Or.inr rfl, ⟨Or.inr rfl, ⟨Or.inr rfl, ⟨Or.inr rfl, ⟨Or.inl rfl, trivial⟩⟩⟩⟩⟩⟩⟩ ?_
            exact hj22 μ20
          · refine z_aload_n (pc := 122) dX4_pick_122 rfl ?_
            refine z_iload_n (pc := 123) dX4_pick_123 rfl ?_
            refine z_iload_n (pc := 124) dX4_pick_124 rfl ?_
            refine z_iload (pc := 125) dX4_pick_125 rfl ?_
            refine z_callV (As := [.int x1, .int x2, .int s19]) (pc := 127) (ret' := some .boolean) kvX4_118 (t4_isBetter _ _ _ _) (by decide) (nx_lt (by decide)) (sx_57 g)  rfl rfl (Nat.le_of_ble_eq_true rfl) dX4_pick_127 (fun v25 μ26 => ?_)
            refine z_if_eq (pc := 130) (tgt := 144) dX4_pick_130 (by decide) (fun c27 => ?_) (fun c28 => ?_)
            · refine z_loc (L' := [.ref 57, .int x1, .int x2, .int x3, .int x4, .int x5, .null]) ⟨Or.inr rfl, ⟨Or.inr rfl, ⟨Or.inr rfl, ⟨Or.inr rfl, ⟨Or.inr rfl, ⟨Or.inr rfl, ⟨Or.inl rfl, trivial⟩⟩⟩⟩⟩⟩⟩ ?_
              exact hj22 μ26
            · refine z_aload_n (pc := 133) dX4_pick_133 rfl ?_
              refine z_iload_n (pc := 134) dX4_pick_134 rfl ?_
              refine z_iload (pc := 135) dX4_pick_135 rfl ?_
              refine z_iload (pc := 137) dX4_pick_137 rfl ?_
              refine z_iload (pc := 139) dX4_pick_139 rfl ?_
              refine z_callV (As := [.int x2, .int x4, .int x5, .int s19]) (pc := 141) (ret' := none) kvX4_122 (t4_keep _ _ _ _ _) (by decide) (nx_lt (by decide)) (sx_57 g)  rfl rfl (Nat.le_of_ble_eq_true rfl) dX4_pick_141 (fun v29 μ30 => ?_)
              refine z_loc (L' := [.ref 57, .int x1, .int x2, .int x3, .int x4, .int x5, .null]) ⟨Or.inr rfl, ⟨Or.inr rfl, ⟨Or.inr rfl, ⟨Or.inr rfl, ⟨Or.inr rfl, ⟨Or.inr rfl, ⟨Or.inl rfl, trivial⟩⟩⟩⟩⟩⟩⟩ ?_
              exact hj22 μ30
      · refine z_if_ne (pc := 95) (tgt := 111) dX4_pick_95 (by decide) (fun c32 => ?_) (fun c33 => ?_)
        · refine z_bipush (pc := 111) (-100 : Int32) dX4_pick_111 (by decide) ?_
          exact hj31 (-100 : Int32) μ18
        · refine z_aload_n (pc := 98) dX4_pick_98 rfl ?_
          refine z_iload_n (pc := 99) dX4_pick_99 rfl ?_
          refine z_iload_n (pc := 100) dX4_pick_100 rfl ?_
          refine z_iload (pc := 101) dX4_pick_101 rfl ?_
          refine z_iload (pc := 103) dX4_pick_103 rfl ?_
          refine z_callV (As := [.int x1, .int x2, .int x4, .int x5]) (pc := 105) (ret' := some .int) kvX4_114 (t4_scoreOf _ _ _ _ _) (by decide) (nx_lt (by decide)) (sx_57 g)  rfl rfl (Nat.le_of_ble_eq_true rfl) dX4_pick_105 (fun v34 μ35 => ?_)
          refine z_goto (pc := 108) (tgt := 113) dX4_pick_108 (by decide) ?_
          exact hj31 v34 μ35
set_option maxHeartbeats 1000000 in
theorem t4_pick_L49 {g : Bool} (x1 : Int32) (x2 : Int32) (x3 : Int32) (K156 : zMem → zRes) (hK156 : ∀ (μ : zMem), zR yX4_pick cX4_pick 7 (none) 3 156 [.ref 57, .int x1, .int x2, .null, .null, .null, .null] [] (nX g) (SX g) μ (K156 μ)) : ∀ (n : Nat) (x4 : Int32) (μ : zMem), zR yX4_pick cX4_pick 7 (none) 3 49 [.ref 57, .int x1, .int x2, .int x3, .int x4, .null, .null] [] (nX g) (SX g) μ (f4_pick_L49 x1 x2 x3 K156 n x4 μ) := by
  intro n
  induction n with
  | zero => intro x4 μ; intro q hq; cases hq
  | succ n ih =>
    intro x4 μ
    unfold f4_pick_L49
    refine z_iload_n (pc := 49) dX4_pick_49 rfl ?_
    refine z_if_eq (pc := 50) (tgt := 156) dX4_pick_50 (by decide) (fun c10 => ?_) (fun c11 => ?_)
    · refine z_loc (L' := [.ref 57, .int x1, .int x2, .null, .null, .null, .null]) ⟨Or.inr rfl, ⟨Or.inr rfl, ⟨Or.inr rfl, ⟨Or.inl rfl, ⟨Or.inl rfl, ⟨Or.inl rfl, ⟨Or.inl rfl, trivial⟩⟩⟩⟩⟩⟩⟩ ?_
      exact hK156 μ
    · refine z_iload (pc := 53) dX4_pick_53 rfl ?_
      refine z_aload_n (pc := 55) dX4_pick_55 rfl ?_
      refine z_getr (pc := 56) fdX4_43 (nx_lt (by decide)) (sx_57 g) rfl rfl dX4_pick_56 ?_
      refine z_geti (pc := 59) fdX4_108 (nx_lt (by decide)) (sx_28 g) rfl dX4_pick_59 ?_
      refine z_icmp_ge (pc := 62) (tgt := 156) dX4_pick_62 (by decide) (fun c12 => ?_) (fun c13 => ?_)
      · refine z_loc (L' := [.ref 57, .int x1, .int x2, .null, .null, .null, .null]) ⟨Or.inr rfl, ⟨Or.inr rfl, ⟨Or.inr rfl, ⟨Or.inl rfl, ⟨Or.inl rfl, ⟨Or.inl rfl, ⟨Or.inl rfl, trivial⟩⟩⟩⟩⟩⟩⟩ ?_
        exact hK156 μ
      · refine z_iload (pc := 65) dX4_pick_65 rfl ?_
        refine z_iconst (pc := 67) (1 : Int32) dX4_pick_67 (by decide) ?_
        refine z_iadd (pc := 68) dX4_pick_68 ?_
        refine z_val (fun v14 => ?_)
        refine z_istore (pc := 69) (L' := [.ref 57, .int x1, .int x2, .int x3, .int x4, .int v14, .null]) dX4_pick_69 (by decide) rfl ?_
        refine t4_pick_L71 _ _ _ _ _ (fun μ36 => ?_) zF _ _
        · refine z_iinc (pc := 150) (v := x4 + (1 : Int32)) (L' := [.ref 57, .int x1, .int x2, .int x3, .int (x4 + (1 : Int32)), .null, .null]) dX4_pick_150 (by decide) rfl (congrArg _ (by decide)) rfl ?_
          refine z_goto (pc := 153) (tgt := 49) dX4_pick_153 (by decide) ?_
          exact ih (x4 + (1 : Int32)) μ36
set_option maxHeartbeats 1000000 in
theorem t4_pick_L7 {g : Bool} (x1 : Int32) (K162 : zMem → zRes) (hK162 : ∀ (μ : zMem), zR yX4_pick cX4_pick 7 (none) 3 162 [.null, .null, .null, .null, .null, .null, .null] [] (nX g) (SX g) μ (K162 μ)) : ∀ (n : Nat) (x2 : Int32) (μ : zMem), zR yX4_pick cX4_pick 7 (none) 3 7 [.ref 57, .int x1, .int x2, .null, .null, .null, .null] [] (nX g) (SX g) μ (f4_pick_L7 x1 K162 n x2 μ) := by
  intro n
  induction n with
  | zero => intro x2 μ; intro q hq; cases hq
  | succ n ih =>
    intro x2 μ
    unfold f4_pick_L7
    refine z_iload_n (pc := 7) dX4_pick_7 rfl ?_
    refine z_aload_n (pc := 8) dX4_pick_8 rfl ?_
    refine z_getr (pc := 9) fdX4_39 (nx_lt (by decide)) (sx_57 g) rfl rfl dX4_pick_9 ?_
    refine z_geti (pc := 12) fdX4_85 (nx_lt (by decide)) (sx_2 g) rfl dX4_pick_12 ?_
    refine z_icmp_ge (pc := 15) (tgt := 162) dX4_pick_15 (by decide) (fun c2 => ?_) (fun c3 => ?_)
    · refine z_loc (L' := [.null, .null, .null, .null, .null, .null, .null]) ⟨Or.inl rfl, ⟨Or.inl rfl, ⟨Or.inl rfl, ⟨Or.inl rfl, ⟨Or.inl rfl, ⟨Or.inl rfl, ⟨Or.inl rfl, trivial⟩⟩⟩⟩⟩⟩⟩ ?_
      exact hK162 μ
    · refine z_aload_n (pc := 18) dX4_pick_18 rfl ?_
      refine z_getr (pc := 19) fdX4_43 (nx_lt (by decide)) (sx_57 g) rfl rfl dX4_pick_19 ?_
      refine z_iload_n (pc := 22) dX4_pick_22 rfl ?_
      refine z_callV (As := [.int x2]) (pc := 23) (ret' := some .boolean) kvX4_101 (t5_isOpen zSc_28 _ _) (by decide) (nx_lt (by decide)) (sx_28 g)  rfl rfl (Nat.le_of_ble_eq_true rfl) dX4_pick_23 (fun v4 μ5 => ?_)
      refine z_let (fun (j : Int32 → zMem → zRes) => ∀ (s6 : Int32) (μ7 : zMem), zR yX4_pick cX4_pick 7 (none) 3 45 [.ref 57, .int x1, .int x2, .null, .null, .null, .null] [.int s6] (nX g) (SX g) μ7 (j s6 μ7)) ?_ (fun j38 hj38 => ?_)
      · intro s6 μ7
        refine z_istore_n (pc := 45) (L' := [.ref 57, .int x1, .int x2, .int s6, .null, .null, .null]) dX4_pick_45 (by decide) rfl ?_
        refine z_iconst (pc := 46) (0 : Int32) dX4_pick_46 (by decide) ?_
        refine z_istore (pc := 47) (L' := [.ref 57, .int x1, .int x2, .int s6, .int (0 : Int32), .null, .null]) dX4_pick_47 (by decide) rfl ?_
        refine z_let (fun (j : zMem → zRes) => ∀ (μ8 : zMem), zR yX4_pick cX4_pick 7 (none) 3 156 [.ref 57, .int x1, .int x2, .null, .null, .null, .null] [] (nX g) (SX g) μ8 (j μ8)) ?_ (fun j9 hj9 => ?_)
        · intro μ8
          refine z_iinc (pc := 156) (v := x2 + (1 : Int32)) (L' := [.ref 57, .int x1, .int (x2 + (1 : Int32)), .null, .null, .null, .null]) dX4_pick_156 (by decide) rfl (congrArg _ (by decide)) rfl ?_
          refine z_goto (pc := 159) (tgt := 7) dX4_pick_159 (by decide) ?_
          exact ih (x2 + (1 : Int32)) μ8
        · refine t4_pick_L49 _ _ _ _ (fun μ37 => ?_) zF _ _
          · exact hj9 μ37
      · refine z_let (fun (j : zMem → zRes) => ∀ (μ39 : zMem), zR yX4_pick cX4_pick 7 (none) 3 44 [.ref 57, .int x1, .int x2, .null, .null, .null, .null] [] (nX g) (SX g) μ39 (j μ39)) ?_ (fun j40 hj40 => ?_)
        · intro μ39
          refine z_iconst (pc := 44) (0 : Int32) dX4_pick_44 (by decide) ?_
          exact hj38 (0 : Int32) μ39
        · refine z_if_ne (pc := 26) (tgt := 44) dX4_pick_26 (by decide) (fun c41 => ?_) (fun c42 => ?_)
          · exact hj40 μ5
          · refine z_aload_n (pc := 29) dX4_pick_29 rfl ?_
            refine z_getr (pc := 30) fdX4_43 (nx_lt (by decide)) (sx_57 g) rfl rfl dX4_pick_30 ?_
            refine z_iload_n (pc := 33) dX4_pick_33 rfl ?_
            refine z_callV (As := [.int x2]) (pc := 34) (ret' := some .boolean) kvX4_105 (t5_isTooLate zSc_28 _ _) (by decide) (nx_lt (by decide)) (sx_28 g)  rfl rfl (Nat.le_of_ble_eq_true rfl) dX4_pick_34 (fun v43 μ44 => ?_)
            refine z_if_ne (pc := 37) (tgt := 44) dX4_pick_37 (by decide) (fun c45 => ?_) (fun c46 => ?_)
            · exact hj40 μ44
            · refine z_iconst (pc := 40) (1 : Int32) dX4_pick_40 (by decide) ?_
              refine z_goto (pc := 41) (tgt := 45) dX4_pick_41 (by decide) ?_
              exact hj38 (1 : Int32) μ44
set_option maxHeartbeats 1000000 in
theorem t4_pick {g : Bool} (x1 : Int32) (μ : zMem) : zMR yX4_pick cX4_pick 7 (none) 3 [.ref 57, .int x1] (nX g) (SX g) μ (f4_pick x1 μ) := by
  refine zMR_of (by decide +kernel) rfl (Nat.le_of_ble_eq_true rfl) (L := [.ref 57, .int x1, .null, .null, .null, .null, .null]) rfl ?_
  unfold f4_pick
  refine z_aload_n (pc := 0) dX4_pick_0 rfl ?_
  refine z_iconst (pc := 1) (-1 : Int32) dX4_pick_1 (by decide) ?_
  refine z_puti (pc := 2) fdX4_27 (nx_lt (by decide)) (sx_57 g) rfl rfl dX4_pick_2 ?_
  refine z_mem (fun μ1 => ?_)
  refine z_iconst (pc := 5) (0 : Int32) dX4_pick_5 (by decide) ?_
  refine z_istore_n (pc := 6) (L' := [.ref 57, .int x1, .int (0 : Int32), .null, .null, .null, .null]) dX4_pick_6 (by decide) rfl ?_
  refine t4_pick_L7 _ _ (fun μ47 => ?_) zF _ _
  · exact z_vret (pc := 162) rfl dX4_pick_162
def f4_workAllDay_L2 (x1 : Int32) (K111 : zMem → zRes) (K26 : zMem → zRes) : Nat → Int32 → zMem → zRes
  | 0, _, _ => none
  | n + 1, x2, μ => if (μ 2 2) ≤ x2 then K111 μ else bnd0 (f4_pick x1 μ) (fun (v3 : Int32) (μ4 : zMem) => if (μ4 57 7) = (-1 : Int32) then K26 μ4 else bnd0 (f5_doWork 28 (μ4 57 7) (μ4 57 8) (μ4 57 9) μ4) (fun (v7 : Int32) (μ8 : zMem) => zin (μ8 57 7) 10 (zlet (zset μ8 57 2 ((μ8 57 2) + (μ8 8 (μ8 57 7).toNatClampNeg))) (fun (μ10 : zMem) => zlet (zset μ10 57 3 ((μ10 57 3) + (1 : Int32))) (fun (μ11 : zMem) => zlet (fun (μ12 : zMem) => f4_workAllDay_L2 x1 K111 K26 n (x2 + (1 : Int32)) μ12) (fun j13 => if (μ11 57 4) = (-1 : Int32) then bnd0 (f8_workCode (μ11 57 7) (μ11 57 8) (μ11 57 9) μ11) (fun (v16 : Int32) (μ17 : zMem) => zlet (zset μ17 57 4 v16) (fun (μ18 : zMem) => j13 μ18)) else j13 μ11))))))
def f4_workAllDay (x1 : Int32) (μ : zMem) : zRes := f4_workAllDay_L2 x1 (fun (μ19 : zMem) => some (0, 0, μ19)) (fun (μ20 : zMem) => some (0, 0, μ20)) zF (0 : Int32) μ
set_option maxHeartbeats 1000000 in
theorem t4_workAllDay_L2 {g : Bool} (x1 : Int32) (K111 : zMem → zRes) (K26 : zMem → zRes) (hK111 : ∀ (μ : zMem), zR yX4_workAllDay cX4_workAllDay 3 (none) 4 111 [.null, .null, .null] [] (nX g) (SX g) μ (K111 μ)) (hK26 : ∀ (μ : zMem), zR yX4_workAllDay cX4_workAllDay 3 (none) 4 26 [.null, .null, .null] [] (nX g) (SX g) μ (K26 μ)) : ∀ (n : Nat) (x2 : Int32) (μ : zMem), zR yX4_workAllDay cX4_workAllDay 3 (none) 4 2 [.ref 57, .int x1, .int x2] [] (nX g) (SX g) μ (f4_workAllDay_L2 x1 K111 K26 n x2 μ) := by
  intro n
  induction n with
  | zero => intro x2 μ; intro q hq; cases hq
  | succ n ih =>
    intro x2 μ
    unfold f4_workAllDay_L2
    refine z_iload_n (pc := 2) dX4_workAllDay_2 rfl ?_
    refine z_aload_n (pc := 3) dX4_workAllDay_3 rfl ?_
    refine z_getr (pc := 4) fdX4_39 (nx_lt (by decide)) (sx_57 g) rfl rfl dX4_workAllDay_4 ?_
    refine z_geti (pc := 7) fdX4_85 (nx_lt (by decide)) (sx_2 g) rfl dX4_workAllDay_7 ?_
    refine z_icmp_ge (pc := 10) (tgt := 111) dX4_workAllDay_10 (by decide) (fun c1 => ?_) (fun c2 => ?_)
    · refine z_loc (L' := [.null, .null, .null]) ⟨Or.inl rfl, ⟨Or.inl rfl, ⟨Or.inl rfl, trivial⟩⟩⟩ ?_
      exact hK111 μ
    · refine z_aload_n (pc := 13) dX4_workAllDay_13 rfl ?_
      refine z_iload_n (pc := 14) dX4_workAllDay_14 rfl ?_
      refine z_callV (As := [.int x1]) (pc := 15) (ret' := none) kvX4_88 (t4_pick _ _) (by decide) (nx_lt (by decide)) (sx_57 g)  rfl rfl (Nat.le_of_ble_eq_true rfl) dX4_workAllDay_15 (fun v3 μ4 => ?_)
      refine z_aload_n (pc := 18) dX4_workAllDay_18 rfl ?_
      refine z_geti (pc := 19) fdX4_27 (nx_lt (by decide)) (sx_57 g) rfl dX4_workAllDay_19 ?_
      refine z_iconst (pc := 22) (-1 : Int32) dX4_workAllDay_22 (by decide) ?_
      refine z_icmp_ne (pc := 23) (tgt := 27) dX4_workAllDay_23 (by decide) (fun c5 => ?_) (fun c6 => ?_)
      · refine z_aload_n (pc := 27) dX4_workAllDay_27 rfl ?_
        refine z_getr (pc := 28) fdX4_43 (nx_lt (by decide)) (sx_57 g) rfl rfl dX4_workAllDay_28 ?_
        refine z_aload_n (pc := 31) dX4_workAllDay_31 rfl ?_
        refine z_geti (pc := 32) fdX4_27 (nx_lt (by decide)) (sx_57 g) rfl dX4_workAllDay_32 ?_
        refine z_aload_n (pc := 35) dX4_workAllDay_35 rfl ?_
        refine z_geti (pc := 36) fdX4_30 (nx_lt (by decide)) (sx_57 g) rfl dX4_workAllDay_36 ?_
        refine z_aload_n (pc := 39) dX4_workAllDay_39 rfl ?_
        refine z_geti (pc := 40) fdX4_33 (nx_lt (by decide)) (sx_57 g) rfl dX4_workAllDay_40 ?_
        refine z_callV (As := [.int (μ4 57 7), .int (μ4 57 8), .int (μ4 57 9)]) (pc := 43) (ret' := some .int) kvX4_91 (t5_doWork zSc_28 _ _ _ _) (by decide) (nx_lt (by decide)) (sx_28 g)  rfl rfl (Nat.le_of_ble_eq_true rfl) dX4_workAllDay_43 (fun v7 μ8 => ?_)
        refine z_pop (pc := 46) dX4_workAllDay_46 rfl ?_
        refine z_aload_n (pc := 47) dX4_workAllDay_47 rfl ?_
        refine z_dup (pc := 48) dX4_workAllDay_48 rfl ?_
        refine z_geti (pc := 49) fdX4_9 (nx_lt (by decide)) (sx_57 g) rfl dX4_workAllDay_49 ?_
        refine z_aload_n (pc := 52) dX4_workAllDay_52 rfl ?_
        refine z_getr (pc := 53) fdX4_39 (nx_lt (by decide)) (sx_57 g) rfl rfl dX4_workAllDay_53 ?_
        refine z_getr (pc := 56) fdX4_95 (nx_lt (by decide)) (sx_2 g) rfl rfl dX4_workAllDay_56 ?_
        refine z_aload_n (pc := 59) dX4_workAllDay_59 rfl ?_
        refine z_geti (pc := 60) fdX4_27 (nx_lt (by decide)) (sx_57 g) rfl dX4_workAllDay_60 ?_
        refine z_iald (pc := 63) (nx_lt (by decide)) (sx_8 g) rfl dX4_workAllDay_63 (fun h9 => ?_)
        refine z_iadd (pc := 64) dX4_workAllDay_64 ?_
        refine z_puti (pc := 65) fdX4_9 (nx_lt (by decide)) (sx_57 g) rfl rfl dX4_workAllDay_65 ?_
        refine z_mem (fun μ10 => ?_)
        refine z_aload_n (pc := 68) dX4_workAllDay_68 rfl ?_
        refine z_dup (pc := 69) dX4_workAllDay_69 rfl ?_
        refine z_geti (pc := 70) fdX4_15 (nx_lt (by decide)) (sx_57 g) rfl dX4_workAllDay_70 ?_
        refine z_iconst (pc := 73) (1 : Int32) dX4_workAllDay_73 (by decide) ?_
        refine z_iadd (pc := 74) dX4_workAllDay_74 ?_
        refine z_puti (pc := 75) fdX4_15 (nx_lt (by decide)) (sx_57 g) rfl rfl dX4_workAllDay_75 ?_
        refine z_mem (fun μ11 => ?_)
        refine z_aload_n (pc := 78) dX4_workAllDay_78 rfl ?_
        refine z_geti (pc := 79) fdX4_18 (nx_lt (by decide)) (sx_57 g) rfl dX4_workAllDay_79 ?_
        refine z_iconst (pc := 82) (-1 : Int32) dX4_workAllDay_82 (by decide) ?_
        refine z_let (fun (j : zMem → zRes) => ∀ (μ12 : zMem), zR yX4_workAllDay cX4_workAllDay 3 (none) 4 105 [.ref 57, .int x1, .int x2] [] (nX g) (SX g) μ12 (j μ12)) ?_ (fun j13 hj13 => ?_)
        · intro μ12
          refine z_iinc (pc := 105) (v := x2 + (1 : Int32)) (L' := [.ref 57, .int x1, .int (x2 + (1 : Int32))]) dX4_workAllDay_105 (by decide) rfl (congrArg _ (by decide)) rfl ?_
          refine z_goto (pc := 108) (tgt := 2) dX4_workAllDay_108 (by decide) ?_
          exact ih (x2 + (1 : Int32)) μ12
        · refine z_icmp_ne (pc := 83) (tgt := 105) dX4_workAllDay_83 (by decide) (fun c14 => ?_) (fun c15 => ?_)
          · exact hj13 μ11
          · refine z_aload_n (pc := 86) dX4_workAllDay_86 rfl ?_
            refine z_aload_n (pc := 87) dX4_workAllDay_87 rfl ?_
            refine z_geti (pc := 88) fdX4_27 (nx_lt (by decide)) (sx_57 g) rfl dX4_workAllDay_88 ?_
            refine z_aload_n (pc := 91) dX4_workAllDay_91 rfl ?_
            refine z_geti (pc := 92) fdX4_30 (nx_lt (by decide)) (sx_57 g) rfl dX4_workAllDay_92 ?_
            refine z_aload_n (pc := 95) dX4_workAllDay_95 rfl ?_
            refine z_geti (pc := 96) fdX4_33 (nx_lt (by decide)) (sx_57 g) rfl dX4_workAllDay_96 ?_
            refine z_callS (As := [.int (μ11 57 7), .int (μ11 57 8), .int (μ11 57 9)]) (pc := 99) (ret' := some .int) ksX4_98 (t8_workCode _ _ _ _) (by decide)  rfl rfl (Nat.le_of_ble_eq_true rfl) dX4_workAllDay_99 (fun v16 μ17 => ?_)
            refine z_puti (pc := 102) fdX4_18 (nx_lt (by decide)) (sx_57 g) rfl rfl dX4_workAllDay_102 ?_
            refine z_mem (fun μ18 => ?_)
            exact hj13 μ18
      · refine z_loc (L' := [.null, .null, .null]) ⟨Or.inl rfl, ⟨Or.inl rfl, ⟨Or.inl rfl, trivial⟩⟩⟩ ?_
        exact hK26 μ4
set_option maxHeartbeats 1000000 in
theorem t4_workAllDay {g : Bool} (x1 : Int32) (μ : zMem) : zMR yX4_workAllDay cX4_workAllDay 3 (none) 4 [.ref 57, .int x1] (nX g) (SX g) μ (f4_workAllDay x1 μ) := by
  refine zMR_of (by decide +kernel) rfl (Nat.le_of_ble_eq_true rfl) (L := [.ref 57, .int x1, .null]) rfl ?_
  unfold f4_workAllDay
  refine z_iconst (pc := 0) (0 : Int32) dX4_workAllDay_0 (by decide) ?_
  refine z_istore_n (pc := 1) (L' := [.ref 57, .int x1, .int (0 : Int32)]) dX4_workAllDay_1 (by decide) rfl ?_
  refine t4_workAllDay_L2 _ _ _ (fun μ19 => ?_) (fun μ20 => ?_) zF _ _
  · exact z_vret (pc := 111) rfl dX4_workAllDay_111
  · exact z_vret (pc := 26) rfl dX4_workAllDay_26
def f4_goOn_L39 (x1 : Int32) (x2 : Int32) (x3 : Int32) (x5 : Int32) (K133 : zMem → zRes) : Nat → Int32 → zMem → zRes
  | 0, _, _ => none
  | n + 1, x6, μ => if (x5 + x2) ≤ x6 then K133 μ else zlet (fun (μ9 : zMem) => zlet (fun (μ10 : zMem) => bnd0 (f5_hasDoorInTime 28 μ10) (fun (v11 : Int32) (μ12 : zMem) => zlet (μ12 57 3) (fun (v13 : Int32) => bnd0 (f4_workAllDay x1 μ12) (fun (v14 : Int32) (μ15 : zMem) => zlet (fun (μ16 : zMem) => f4_goOn_L39 x1 x2 x3 x5 K133 n (x6 + (1 : Int32)) μ16) (fun j17 => if v11 = 0 then j17 μ15 else if (μ15 57 3) = v13 then if (μ15 57 5) = (-1 : Int32) then zlet (zset μ15 57 5 x6) (fun (μ24 : zMem) => j17 μ24) else j17 μ15 else j17 μ15))))) (fun j25 => if x3 = 0 then j25 μ9 else bnd0 (f4_drawQuestion μ9) (fun (v28 : Int32) (μ29 : zMem) => zlet (zset μ29 28 2 v28) (fun (μ30 : zMem) => j25 μ30)))) (fun j31 => if x6 ≤ x5 then j31 μ else bnd0 (f5_beginDay 28 x6 μ) (fun (v34 : Int32) (μ35 : zMem) => j31 μ35))
def f4_goOn (x1 : Int32) (x2 : Int32) (x3 : Int32) (x4 : Int32) (μ : zMem) : zRes := zlet (zset μ 57 2 (0 : Int32)) (fun (μ1 : zMem) => zlet (zset μ1 57 3 (0 : Int32)) (fun (μ2 : zMem) => zlet (zset μ2 57 4 (-1 : Int32)) (fun (μ3 : zMem) => zlet (zset μ3 57 5 (-1 : Int32)) (fun (μ4 : zMem) => zlet (zset μ4 57 6 x4) (fun (μ5 : zMem) => zlet (μ5 28 1) (fun (v6 : Int32) => f4_goOn_L39 x1 x2 x3 v6 (fun (μ36 : zMem) => some (0, 0, μ36)) zF v6 μ5))))))
set_option maxHeartbeats 1000000 in
theorem t4_goOn_L39 {g : Bool} (x1 : Int32) (x2 : Int32) (x3 : Int32) (x5 : Int32) (K133 : zMem → zRes) (hK133 : ∀ (μ : zMem), zR yX4_goOn cX4_goOn 9 (none) 5 133 [.null, .null, .null, .null, .null, .null, .null, .null, .null] [] (nX g) (SX g) μ (K133 μ)) : ∀ (n : Nat) (x6 : Int32) (μ : zMem), zR yX4_goOn cX4_goOn 9 (none) 5 39 [.ref 57, .int x1, .int x2, .int x3, .null, .int x5, .int x6, .null, .null] [] (nX g) (SX g) μ (f4_goOn_L39 x1 x2 x3 x5 K133 n x6 μ) := by
  intro n
  induction n with
  | zero => intro x6 μ; intro q hq; cases hq
  | succ n ih =>
    intro x6 μ
    unfold f4_goOn_L39
    refine z_iload (pc := 39) dX4_goOn_39 rfl ?_
    refine z_iload (pc := 41) dX4_goOn_41 rfl ?_
    refine z_iload_n (pc := 43) dX4_goOn_43 rfl ?_
    refine z_iadd (pc := 44) dX4_goOn_44 ?_
    refine z_icmp_ge (pc := 45) (tgt := 133) dX4_goOn_45 (by decide) (fun c7 => ?_) (fun c8 => ?_)
    · refine z_loc (L' := [.null, .null, .null, .null, .null, .null, .null, .null, .null]) ⟨Or.inl rfl, ⟨Or.inl rfl, ⟨Or.inl rfl, ⟨Or.inl rfl, ⟨Or.inl rfl, ⟨Or.inl rfl, ⟨Or.inl rfl, ⟨Or.inl rfl, ⟨Or.inl rfl, trivial⟩⟩⟩⟩⟩⟩⟩⟩⟩ ?_
      exact hK133 μ
    · refine z_iload (pc := 48) dX4_goOn_48 rfl ?_
      refine z_iload (pc := 50) dX4_goOn_50 rfl ?_
      refine z_let (fun (j : zMem → zRes) => ∀ (μ9 : zMem), zR yX4_goOn cX4_goOn 9 (none) 5 64 [.ref 57, .int x1, .int x2, .int x3, .null, .int x5, .int x6, .null, .null] [] (nX g) (SX g) μ9 (j μ9)) ?_ (fun j31 hj31 => ?_)
      · intro μ9
        refine z_iload_n (pc := 64) dX4_goOn_64 rfl ?_
        refine z_let (fun (j : zMem → zRes) => ∀ (μ10 : zMem), zR yX4_goOn cX4_goOn 9 (none) 5 79 [.ref 57, .int x1, .int x2, .int x3, .null, .int x5, .int x6, .null, .null] [] (nX g) (SX g) μ10 (j μ10)) ?_ (fun j25 hj25 => ?_)
        · intro μ10
          refine z_aload_n (pc := 79) dX4_goOn_79 rfl ?_
          refine z_getr (pc := 80) fdX4_43 (nx_lt (by decide)) (sx_57 g) rfl rfl dX4_goOn_80 ?_
          refine z_callV (As := []) (pc := 83) (ret' := some .boolean) kvX4_72 (t5_hasDoorInTime zSc_28 _) (by decide) (nx_lt (by decide)) (sx_28 g)  rfl rfl (Nat.le_of_ble_eq_true rfl) dX4_goOn_83 (fun v11 μ12 => ?_)
          refine z_istore (pc := 86) (L' := [.ref 57, .int x1, .int x2, .int x3, .null, .int x5, .int x6, .int v11, .null]) dX4_goOn_86 (by decide) rfl ?_
          refine z_aload_n (pc := 88) dX4_goOn_88 rfl ?_
          refine z_geti (pc := 89) fdX4_15 (nx_lt (by decide)) (sx_57 g) rfl dX4_goOn_89 ?_
          refine z_val (fun v13 => ?_)
          refine z_istore (pc := 92) (L' := [.ref 57, .int x1, .int x2, .int x3, .null, .int x5, .int x6, .int v11, .int v13]) dX4_goOn_92 (by decide) rfl ?_
          refine z_aload_n (pc := 94) dX4_goOn_94 rfl ?_
          refine z_iload_n (pc := 95) dX4_goOn_95 rfl ?_
          refine z_callV (As := [.int x1]) (pc := 96) (ret' := none) kvX4_76 (t4_workAllDay _ _) (by decide) (nx_lt (by decide)) (sx_57 g)  rfl rfl (Nat.le_of_ble_eq_true rfl) dX4_goOn_96 (fun v14 μ15 => ?_)
          refine z_iload (pc := 99) dX4_goOn_99 rfl ?_
          refine z_let (fun (j : zMem → zRes) => ∀ (μ16 : zMem), zR yX4_goOn cX4_goOn 9 (none) 5 127 [.ref 57, .int x1, .int x2, .int x3, .null, .int x5, .int x6, .null, .null] [] (nX g) (SX g) μ16 (j μ16)) ?_ (fun j17 hj17 => ?_)
          · intro μ16
            refine z_iinc (pc := 127) (v := x6 + (1 : Int32)) (L' := [.ref 57, .int x1, .int x2, .int x3, .null, .int x5, .int (x6 + (1 : Int32)), .null, .null]) dX4_goOn_127 (by decide) rfl (congrArg _ (by decide)) rfl ?_
            refine z_goto (pc := 130) (tgt := 39) dX4_goOn_130 (by decide) ?_
            exact ih (x6 + (1 : Int32)) μ16
          · refine z_if_eq (pc := 101) (tgt := 127) dX4_goOn_101 (by decide) (fun c18 => ?_) (fun c19 => ?_)
            · refine z_loc (L' := [.ref 57, .int x1, .int x2, .int x3, .null, .int x5, .int x6, .null, .null]) ⟨Or.inr rfl, ⟨Or.inr rfl, ⟨Or.inr rfl, ⟨Or.inr rfl, ⟨Or.inl rfl, ⟨Or.inr rfl, ⟨Or.inr rfl, ⟨Or.inl rfl, ⟨Or.inl rfl, trivial⟩⟩⟩⟩⟩⟩⟩⟩⟩ ?_
              exact hj17 μ15
            · refine z_aload_n (pc := 104) dX4_goOn_104 rfl ?_
              refine z_geti (pc := 105) fdX4_15 (nx_lt (by decide)) (sx_57 g) rfl dX4_goOn_105 ?_
              refine z_iload (pc := 108) dX4_goOn_108 rfl ?_
              refine z_icmp_ne (pc := 110) (tgt := 127) dX4_goOn_110 (by decide) (fun c20 => ?_) (fun c21 => ?_)
              · refine z_loc (L' := [.ref 57, .int x1, .int x2, .int x3, .null, .int x5, .int x6, .null, .null]) ⟨Or.inr rfl, ⟨Or.inr rfl, ⟨Or.inr rfl, ⟨Or.inr rfl, ⟨Or.inl rfl, ⟨Or.inr rfl, ⟨Or.inr rfl, ⟨Or.inl rfl, ⟨Or.inl rfl, trivial⟩⟩⟩⟩⟩⟩⟩⟩⟩ ?_
                exact hj17 μ15
              · refine z_aload_n (pc := 113) dX4_goOn_113 rfl ?_
                refine z_geti (pc := 114) fdX4_21 (nx_lt (by decide)) (sx_57 g) rfl dX4_goOn_114 ?_
                refine z_iconst (pc := 117) (-1 : Int32) dX4_goOn_117 (by decide) ?_
                refine z_icmp_ne (pc := 118) (tgt := 127) dX4_goOn_118 (by decide) (fun c22 => ?_) (fun c23 => ?_)
                · refine z_loc (L' := [.ref 57, .int x1, .int x2, .int x3, .null, .int x5, .int x6, .null, .null]) ⟨Or.inr rfl, ⟨Or.inr rfl, ⟨Or.inr rfl, ⟨Or.inr rfl, ⟨Or.inl rfl, ⟨Or.inr rfl, ⟨Or.inr rfl, ⟨Or.inl rfl, ⟨Or.inl rfl, trivial⟩⟩⟩⟩⟩⟩⟩⟩⟩ ?_
                  exact hj17 μ15
                · refine z_aload_n (pc := 121) dX4_goOn_121 rfl ?_
                  refine z_iload (pc := 122) dX4_goOn_122 rfl ?_
                  refine z_puti (pc := 124) fdX4_21 (nx_lt (by decide)) (sx_57 g) rfl rfl dX4_goOn_124 ?_
                  refine z_mem (fun μ24 => ?_)
                  refine z_loc (L' := [.ref 57, .int x1, .int x2, .int x3, .null, .int x5, .int x6, .null, .null]) ⟨Or.inr rfl, ⟨Or.inr rfl, ⟨Or.inr rfl, ⟨Or.inr rfl, ⟨Or.inl rfl, ⟨Or.inr rfl, ⟨Or.inr rfl, ⟨Or.inl rfl, ⟨Or.inl rfl, trivial⟩⟩⟩⟩⟩⟩⟩⟩⟩ ?_
                  exact hj17 μ24
        · refine z_if_eq (pc := 65) (tgt := 79) dX4_goOn_65 (by decide) (fun c26 => ?_) (fun c27 => ?_)
          · exact hj25 μ9
          · refine z_aload_n (pc := 68) dX4_goOn_68 rfl ?_
            refine z_getr (pc := 69) fdX4_43 (nx_lt (by decide)) (sx_57 g) rfl rfl dX4_goOn_69 ?_
            refine z_aload_n (pc := 72) dX4_goOn_72 rfl ?_
            refine z_callV (As := []) (pc := 73) (ret' := some .int) kvX4_65 (t4_drawQuestion _) (by decide) (nx_lt (by decide)) (sx_57 g)  rfl rfl (Nat.le_of_ble_eq_true rfl) dX4_goOn_73 (fun v28 μ29 => ?_)
            refine z_puti (pc := 76) fdX4_69 (nx_lt (by decide)) (sx_28 g) rfl rfl dX4_goOn_76 ?_
            refine z_mem (fun μ30 => ?_)
            exact hj25 μ30
      · refine z_icmp_le (pc := 52) (tgt := 64) dX4_goOn_52 (by decide) (fun c32 => ?_) (fun c33 => ?_)
        · exact hj31 μ
        · refine z_aload_n (pc := 55) dX4_goOn_55 rfl ?_
          refine z_getr (pc := 56) fdX4_43 (nx_lt (by decide)) (sx_57 g) rfl rfl dX4_goOn_56 ?_
          refine z_iload (pc := 59) dX4_goOn_59 rfl ?_
          refine z_callV (As := [.int x6]) (pc := 61) (ret' := none) kvX4_61 (t5_beginDay zSc_28 _ _) (by decide) (nx_lt (by decide)) (sx_28 g)  rfl rfl (Nat.le_of_ble_eq_true rfl) dX4_goOn_61 (fun v34 μ35 => ?_)
          exact hj31 μ35
set_option maxHeartbeats 1000000 in
theorem t4_goOn {g : Bool} (x1 : Int32) (x2 : Int32) (x3 : Int32) (x4 : Int32) (μ : zMem) : zMR yX4_goOn cX4_goOn 9 (none) 5 [.ref 57, .int x1, .int x2, .int x3, .int x4] (nX g) (SX g) μ (f4_goOn x1 x2 x3 x4 μ) := by
  refine zMR_of (by decide +kernel) rfl (Nat.le_of_ble_eq_true rfl) (L := [.ref 57, .int x1, .int x2, .int x3, .int x4, .null, .null, .null, .null]) rfl ?_
  unfold f4_goOn
  refine z_aload_n (pc := 0) dX4_goOn_0 rfl ?_
  refine z_iconst (pc := 1) (0 : Int32) dX4_goOn_1 (by decide) ?_
  refine z_puti (pc := 2) fdX4_9 (nx_lt (by decide)) (sx_57 g) rfl rfl dX4_goOn_2 ?_
  refine z_mem (fun μ1 => ?_)
  refine z_aload_n (pc := 5) dX4_goOn_5 rfl ?_
  refine z_iconst (pc := 6) (0 : Int32) dX4_goOn_6 (by decide) ?_
  refine z_puti (pc := 7) fdX4_15 (nx_lt (by decide)) (sx_57 g) rfl rfl dX4_goOn_7 ?_
  refine z_mem (fun μ2 => ?_)
  refine z_aload_n (pc := 10) dX4_goOn_10 rfl ?_
  refine z_iconst (pc := 11) (-1 : Int32) dX4_goOn_11 (by decide) ?_
  refine z_puti (pc := 12) fdX4_18 (nx_lt (by decide)) (sx_57 g) rfl rfl dX4_goOn_12 ?_
  refine z_mem (fun μ3 => ?_)
  refine z_aload_n (pc := 15) dX4_goOn_15 rfl ?_
  refine z_iconst (pc := 16) (-1 : Int32) dX4_goOn_16 (by decide) ?_
  refine z_puti (pc := 17) fdX4_21 (nx_lt (by decide)) (sx_57 g) rfl rfl dX4_goOn_17 ?_
  refine z_mem (fun μ4 => ?_)
  refine z_aload_n (pc := 20) dX4_goOn_20 rfl ?_
  refine z_iload (pc := 21) dX4_goOn_21 rfl ?_
  refine z_puti (pc := 23) fdX4_24 (nx_lt (by decide)) (sx_57 g) rfl rfl dX4_goOn_23 ?_
  refine z_mem (fun μ5 => ?_)
  refine z_aload_n (pc := 26) dX4_goOn_26 rfl ?_
  refine z_getr (pc := 27) fdX4_43 (nx_lt (by decide)) (sx_57 g) rfl rfl dX4_goOn_27 ?_
  refine z_geti (pc := 30) fdX4_58 (nx_lt (by decide)) (sx_28 g) rfl dX4_goOn_30 ?_
  refine z_val (fun v6 => ?_)
  refine z_istore (pc := 33) (L' := [.ref 57, .int x1, .int x2, .int x3, .int x4, .int v6, .null, .null, .null]) dX4_goOn_33 (by decide) rfl ?_
  refine z_iload (pc := 35) dX4_goOn_35 rfl ?_
  refine z_istore (pc := 37) (L' := [.ref 57, .int x1, .int x2, .int x3, .int x4, .int v6, .int v6, .null, .null]) dX4_goOn_37 (by decide) rfl ?_
  refine z_loc (L' := [.ref 57, .int x1, .int x2, .int x3, .null, .int v6, .int v6, .null, .null]) ⟨Or.inr rfl, ⟨Or.inr rfl, ⟨Or.inr rfl, ⟨Or.inr rfl, ⟨Or.inl rfl, ⟨Or.inr rfl, ⟨Or.inr rfl, ⟨Or.inl rfl, ⟨Or.inl rfl, trivial⟩⟩⟩⟩⟩⟩⟩⟩⟩ ?_
  refine t4_goOn_L39 _ _ _ _ _ (fun μ36 => ?_) zF _ _
  · exact z_vret (pc := 133) rfl dX4_goOn_133
def f4_answer (x1 : Int32) (μ : zMem) : zRes := if x1 = (0 : Int32) then some (0, μ 57 2, μ) else if x1 = (1 : Int32) then some (0, μ 57 3, μ) else if x1 = (2 : Int32) then bnd0 (fJ6_bitCount_0f7a4 (μ 28 5) μ) (fun (v4 : Int32) (μ5 : zMem) => some (0, v4, μ5)) else some (0, μ 57 4, μ)
set_option maxHeartbeats 1000000 in
theorem t4_answer {g : Bool} (x1 : Int32) (μ : zMem) : zMR yX4_answer cX4_answer 2 (some .int) 2 [.ref 57, .int x1] (nX g) (SX g) μ (f4_answer x1 μ) := by
  refine zMR_of (by decide +kernel) rfl (Nat.le_of_ble_eq_true rfl) (L := [.ref 57, .int x1]) rfl ?_
  unfold f4_answer
  refine z_iload_n (pc := 0) dX4_answer_0 rfl ?_
  refine z_tabC (pc := 1) (tgt := 28) (0 : Int32) dX4_answer_1 (by decide) (by decide) rfl (by decide) ?_ (fun c1 => ?_)
  · refine z_aload_n (pc := 28) dX4_answer_28 rfl ?_
    refine z_geti (pc := 29) fdX4_9 (nx_lt (by decide)) (sx_57 g) rfl dX4_answer_29 ?_
    exact z_iret (pc := 32) rfl dX4_answer_32
  · refine z_tabC (pc := 1) (tgt := 33) (1 : Int32) dX4_answer_1 (by decide) (by decide) rfl (by decide) ?_ (fun c2 => ?_)
    · refine z_aload_n (pc := 33) dX4_answer_33 rfl ?_
      refine z_geti (pc := 34) fdX4_15 (nx_lt (by decide)) (sx_57 g) rfl dX4_answer_34 ?_
      exact z_iret (pc := 37) rfl dX4_answer_37
    · refine z_tabC (pc := 1) (tgt := 38) (2 : Int32) dX4_answer_1 (by decide) (by decide) rfl (by decide) ?_ (fun c3 => ?_)
      · refine z_aload_n (pc := 38) dX4_answer_38 rfl ?_
        refine z_getr (pc := 39) fdX4_43 (nx_lt (by decide)) (sx_57 g) rfl rfl dX4_answer_39 ?_
        refine z_geti (pc := 42) fdX4_47 (nx_lt (by decide)) (sx_28 g) rfl dX4_answer_42 ?_
        refine z_callS (As := [.int (μ 28 5)]) (pc := 45) (ret' := some .int) ksX4_52 (tJ6_bitCount_0f7a4 _ _) (by decide)  rfl rfl (Nat.le_of_ble_eq_true rfl) dX4_answer_45 (fun v4 μ5 => ?_)
        exact z_iret (pc := 48) rfl dX4_answer_48
      · refine z_tabD (pc := 1) (tgt := 49) dX4_answer_1 (by have q0 := z_i32 c1 (z := 0) (by decide); have q1 := z_i32 c2 (z := 1) (by decide); have q2 := z_i32 c3 (z := 2) (by decide); omega) (by decide) ?_
        refine z_aload_n (pc := 49) dX4_answer_49 rfl ?_
        refine z_geti (pc := 50) fdX4_18 (nx_lt (by decide)) (sx_57 g) rfl dX4_answer_50 ?_
        exact z_iret (pc := 53) rfl dX4_answer_53
