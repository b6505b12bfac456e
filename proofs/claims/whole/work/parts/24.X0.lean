theorem dX0_draw_0 : decode cX0_draw 0 = .ok (.aload_n 0, 1) := by decide +kernel
theorem dX0_draw_1 : decode cX0_draw 1 = .ok (.aload_n 0, 1) := by decide +kernel
theorem dX0_draw_2 : decode cX0_draw 2 = .ok (.getfield 22, 3) := by decide +kernel
theorem dX0_draw_5 : decode cX0_draw 5 = .ok (.getfield 26, 3) := by decide +kernel
theorem dX0_draw_8 : decode cX0_draw 8 = .ok (.putfield 18, 3) := by decide +kernel
theorem dX0_draw_11 : decode cX0_draw 11 = .ok (.iconst 0, 1) := by decide +kernel
theorem dX0_draw_12 : decode cX0_draw 12 = .ok (.istore 4, 2) := by decide +kernel
theorem dX0_draw_14 : decode cX0_draw 14 = .ok (.iload 4, 2) := by decide +kernel
theorem dX0_draw_16 : decode cX0_draw 16 = .ok (.aload_n 0, 1) := by decide +kernel
theorem dX0_draw_17 : decode cX0_draw 17 = .ok (.getfield 18, 3) := by decide +kernel
theorem dX0_draw_20 : decode cX0_draw 20 = .ok (.if_icmp .ge 24, 3) := by decide +kernel
theorem dX0_draw_23 : decode cX0_draw 23 = .ok (.aload_n 0, 1) := by decide +kernel
theorem dX0_draw_24 : decode cX0_draw 24 = .ok (.getfield 9, 3) := by decide +kernel
theorem dX0_draw_27 : decode cX0_draw 27 = .ok (.iload 4, 2) := by decide +kernel
theorem dX0_draw_29 : decode cX0_draw 29 = .ok (.aload_n 1, 1) := by decide +kernel
theorem dX0_draw_30 : decode cX0_draw 30 = .ok (.iload 4, 2) := by decide +kernel
theorem dX0_draw_32 : decode cX0_draw 32 = .ok (.iload_n 2, 1) := by decide +kernel
theorem dX0_draw_33 : decode cX0_draw 33 = .ok (.iload_n 3, 1) := by decide +kernel
theorem dX0_draw_34 : decode cX0_draw 34 = .ok (.invokevirtual 29, 3) := by decide +kernel
theorem dX0_draw_37 : decode cX0_draw 37 = .ok (.iastore, 1) := by decide +kernel
theorem dX0_draw_38 : decode cX0_draw 38 = .ok (.iinc 4 1, 3) := by decide +kernel
theorem dX0_draw_41 : decode cX0_draw 41 = .ok (.goto (-27), 3) := by decide +kernel
theorem dX0_draw_44 : decode cX0_draw 44 = .ok (.return_, 1) := by decide +kernel
theorem dX0_twos_0 : decode cX0_twos 0 = .ok (.iconst 0, 1) := by decide +kernel
theorem dX0_twos_1 : decode cX0_twos 1 = .ok (.istore_n 1, 1) := by decide +kernel
theorem dX0_twos_2 : decode cX0_twos 2 = .ok (.iconst 0, 1) := by decide +kernel
theorem dX0_twos_3 : decode cX0_twos 3 = .ok (.istore_n 2, 1) := by decide +kernel
theorem dX0_twos_4 : decode cX0_twos 4 = .ok (.iload_n 2, 1) := by decide +kernel
theorem dX0_twos_5 : decode cX0_twos 5 = .ok (.aload_n 0, 1) := by decide +kernel
theorem dX0_twos_6 : decode cX0_twos 6 = .ok (.getfield 18, 3) := by decide +kernel
theorem dX0_twos_9 : decode cX0_twos 9 = .ok (.if_icmp .ge 21, 3) := by decide +kernel
theorem dX0_twos_12 : decode cX0_twos 12 = .ok (.iload_n 1, 1) := by decide +kernel
theorem dX0_twos_13 : decode cX0_twos 13 = .ok (.aload_n 0, 1) := by decide +kernel
theorem dX0_twos_14 : decode cX0_twos 14 = .ok (.getfield 9, 3) := by decide +kernel
theorem dX0_twos_17 : decode cX0_twos 17 = .ok (.iload_n 2, 1) := by decide +kernel
theorem dX0_twos_18 : decode cX0_twos 18 = .ok (.iaload, 1) := by decide +kernel
theorem dX0_twos_19 : decode cX0_twos 19 = .ok (.invokestatic 35, 3) := by decide +kernel
theorem dX0_twos_22 : decode cX0_twos 22 = .ok (.iadd, 1) := by decide +kernel
theorem dX0_twos_23 : decode cX0_twos 23 = .ok (.istore_n 1, 1) := by decide +kernel
theorem dX0_twos_24 : decode cX0_twos 24 = .ok (.iinc 2 1, 3) := by decide +kernel
theorem dX0_twos_27 : decode cX0_twos 27 = .ok (.goto (-23), 3) := by decide +kernel
theorem dX0_twos_30 : decode cX0_twos 30 = .ok (.iload_n 1, 1) := by decide +kernel
theorem dX0_twos_31 : decode cX0_twos 31 = .ok (.iconst 2, 1) := by decide +kernel
theorem dX0_twos_32 : decode cX0_twos 32 = .ok (.idiv, 1) := by decide +kernel
theorem dX0_twos_33 : decode cX0_twos 33 = .ok (.ireturn, 1) := by decide +kernel
theorem dX0_areRivals_0 : decode cX0_areRivals 0 = .ok (.aload_n 0, 1) := by decide +kernel
theorem dX0_areRivals_1 : decode cX0_areRivals 1 = .ok (.getfield 9, 3) := by decide +kernel
theorem dX0_areRivals_4 : decode cX0_areRivals 4 = .ok (.iload_n 1, 1) := by decide +kernel
theorem dX0_areRivals_5 : decode cX0_areRivals 5 = .ok (.iaload, 1) := by decide +kernel
theorem dX0_areRivals_6 : decode cX0_areRivals 6 = .ok (.iload_n 2, 1) := by decide +kernel
theorem dX0_areRivals_7 : decode cX0_areRivals 7 = .ok (.ishr, 1) := by decide +kernel
theorem dX0_areRivals_8 : decode cX0_areRivals 8 = .ok (.iconst 1, 1) := by decide +kernel
theorem dX0_areRivals_9 : decode cX0_areRivals 9 = .ok (.iand, 1) := by decide +kernel
theorem dX0_areRivals_10 : decode cX0_areRivals 10 = .ok (.ifCond .eq 7, 3) := by decide +kernel
theorem dX0_areRivals_13 : decode cX0_areRivals 13 = .ok (.iconst 1, 1) := by decide +kernel
theorem dX0_areRivals_14 : decode cX0_areRivals 14 = .ok (.goto 4, 3) := by decide +kernel
theorem dX0_areRivals_17 : decode cX0_areRivals 17 = .ok (.iconst 0, 1) := by decide +kernel
theorem dX0_areRivals_18 : decode cX0_areRivals 18 = .ok (.ireturn, 1) := by decide +kernel
theorem dX0_threes_0 : decode cX0_threes 0 = .ok (.iconst 0, 1) := by decide +kernel
theorem dX0_threes_1 : decode cX0_threes 1 = .ok (.istore_n 1, 1) := by decide +kernel
theorem dX0_threes_2 : decode cX0_threes 2 = .ok (.iconst 0, 1) := by decide +kernel
theorem dX0_threes_3 : decode cX0_threes 3 = .ok (.istore_n 2, 1) := by decide +kernel
theorem dX0_threes_4 : decode cX0_threes 4 = .ok (.iload_n 2, 1) := by decide +kernel
theorem dX0_threes_5 : decode cX0_threes 5 = .ok (.aload_n 0, 1) := by decide +kernel
theorem dX0_threes_6 : decode cX0_threes 6 = .ok (.getfield 18, 3) := by decide +kernel
theorem dX0_threes_9 : decode cX0_threes 9 = .ok (.if_icmp .ge 67, 3) := by decide +kernel
theorem dX0_threes_12 : decode cX0_threes 12 = .ok (.iload_n 2, 1) := by decide +kernel
theorem dX0_threes_13 : decode cX0_threes 13 = .ok (.iconst 1, 1) := by decide +kernel
theorem dX0_threes_14 : decode cX0_threes 14 = .ok (.iadd, 1) := by decide +kernel
theorem dX0_threes_15 : decode cX0_threes 15 = .ok (.istore_n 3, 1) := by decide +kernel
theorem dX0_threes_16 : decode cX0_threes 16 = .ok (.iload_n 3, 1) := by decide +kernel
theorem dX0_threes_17 : decode cX0_threes 17 = .ok (.aload_n 0, 1) := by decide +kernel
theorem dX0_threes_18 : decode cX0_threes 18 = .ok (.getfield 18, 3) := by decide +kernel
theorem dX0_threes_21 : decode cX0_threes 21 = .ok (.if_icmp .ge 49, 3) := by decide +kernel
theorem dX0_threes_24 : decode cX0_threes 24 = .ok (.aload_n 0, 1) := by decide +kernel
theorem dX0_threes_25 : decode cX0_threes 25 = .ok (.iload_n 2, 1) := by decide +kernel
theorem dX0_threes_26 : decode cX0_threes 26 = .ok (.iload_n 3, 1) := by decide +kernel
theorem dX0_threes_27 : decode cX0_threes 27 = .ok (.invokevirtual 41, 3) := by decide +kernel
theorem dX0_threes_30 : decode cX0_threes 30 = .ok (.ifCond .eq 23, 3) := by decide +kernel
theorem dX0_threes_33 : decode cX0_threes 33 = .ok (.aload_n 0, 1) := by decide +kernel
theorem dX0_threes_34 : decode cX0_threes 34 = .ok (.getfield 9, 3) := by decide +kernel
theorem dX0_threes_37 : decode cX0_threes 37 = .ok (.iload_n 2, 1) := by decide +kernel
theorem dX0_threes_38 : decode cX0_threes 38 = .ok (.iaload, 1) := by decide +kernel
theorem dX0_threes_39 : decode cX0_threes 39 = .ok (.aload_n 0, 1) := by decide +kernel
theorem dX0_threes_40 : decode cX0_threes 40 = .ok (.getfield 9, 3) := by decide +kernel
theorem dX0_threes_43 : decode cX0_threes 43 = .ok (.iload_n 3, 1) := by decide +kernel
theorem dX0_threes_44 : decode cX0_threes 44 = .ok (.iaload, 1) := by decide +kernel
theorem dX0_threes_45 : decode cX0_threes 45 = .ok (.iand, 1) := by decide +kernel
theorem dX0_threes_46 : decode cX0_threes 46 = .ok (.iload_n 3, 1) := by decide +kernel
theorem dX0_threes_47 : decode cX0_threes 47 = .ok (.iconst 1, 1) := by decide +kernel
theorem dX0_threes_48 : decode cX0_threes 48 = .ok (.iadd, 1) := by decide +kernel
theorem dX0_threes_49 : decode cX0_threes 49 = .ok (.ishr, 1) := by decide +kernel
theorem dX0_threes_50 : decode cX0_threes 50 = .ok (.goto 4, 3) := by decide +kernel
theorem dX0_threes_53 : decode cX0_threes 53 = .ok (.iconst 0, 1) := by decide +kernel
theorem dX0_threes_54 : decode cX0_threes 54 = .ok (.istore 4, 2) := by decide +kernel
theorem dX0_threes_56 : decode cX0_threes 56 = .ok (.iload_n 1, 1) := by decide +kernel
theorem dX0_threes_57 : decode cX0_threes 57 = .ok (.iload 4, 2) := by decide +kernel
theorem dX0_threes_59 : decode cX0_threes 59 = .ok (.invokestatic 35, 3) := by decide +kernel
theorem dX0_threes_62 : decode cX0_threes 62 = .ok (.iadd, 1) := by decide +kernel
theorem dX0_threes_63 : decode cX0_threes 63 = .ok (.istore_n 1, 1) := by decide +kernel
theorem dX0_threes_64 : decode cX0_threes 64 = .ok (.iinc 3 1, 3) := by decide +kernel
theorem dX0_threes_67 : decode cX0_threes 67 = .ok (.goto (-51), 3) := by decide +kernel
theorem dX0_threes_70 : decode cX0_threes 70 = .ok (.iinc 2 1, 3) := by decide +kernel
theorem dX0_threes_73 : decode cX0_threes 73 = .ok (.goto (-69), 3) := by decide +kernel
theorem dX0_threes_76 : decode cX0_threes 76 = .ok (.iload_n 1, 1) := by decide +kernel
theorem dX0_threes_77 : decode cX0_threes 77 = .ok (.ireturn, 1) := by decide +kernel
theorem dX0_mostAtOneTime_0 : decode cX0_mostAtOneTime 0 = .ok (.aload_n 0, 1) := by decide +kernel
theorem dX0_mostAtOneTime_1 : decode cX0_mostAtOneTime 1 = .ok (.getfield 15, 3) := by decide +kernel
theorem dX0_mostAtOneTime_4 : decode cX0_mostAtOneTime 4 = .ok (.iconst 0, 1) := by decide +kernel
theorem dX0_mostAtOneTime_5 : decode cX0_mostAtOneTime 5 = .ok (.iconst 0, 1) := by decide +kernel
theorem dX0_mostAtOneTime_6 : decode cX0_mostAtOneTime 6 = .ok (.iastore, 1) := by decide +kernel
theorem dX0_mostAtOneTime_7 : decode cX0_mostAtOneTime 7 = .ok (.iconst 1, 1) := by decide +kernel
theorem dX0_mostAtOneTime_8 : decode cX0_mostAtOneTime 8 = .ok (.istore_n 1, 1) := by decide +kernel
theorem dX0_mostAtOneTime_9 : decode cX0_mostAtOneTime 9 = .ok (.iload_n 1, 1) := by decide +kernel
theorem dX0_mostAtOneTime_10 : decode cX0_mostAtOneTime 10 = .ok (.iconst 1, 1) := by decide +kernel
theorem dX0_mostAtOneTime_11 : decode cX0_mostAtOneTime 11 = .ok (.aload_n 0, 1) := by decide +kernel
theorem dX0_mostAtOneTime_12 : decode cX0_mostAtOneTime 12 = .ok (.getfield 18, 3) := by decide +kernel
theorem dX0_mostAtOneTime_15 : decode cX0_mostAtOneTime 15 = .ok (.ishl, 1) := by decide +kernel
theorem dX0_mostAtOneTime_16 : decode cX0_mostAtOneTime 16 = .ok (.if_icmp .ge 95, 3) := by decide +kernel
theorem dX0_mostAtOneTime_19 : decode cX0_mostAtOneTime 19 = .ok (.iload_n 1, 1) := by decide +kernel
theorem dX0_mostAtOneTime_20 : decode cX0_mostAtOneTime 20 = .ok (.invokestatic 45, 3) := by decide +kernel
theorem dX0_mostAtOneTime_23 : decode cX0_mostAtOneTime 23 = .ok (.istore_n 2, 1) := by decide +kernel
theorem dX0_mostAtOneTime_24 : decode cX0_mostAtOneTime 24 = .ok (.iload_n 1, 1) := by decide +kernel
theorem dX0_mostAtOneTime_25 : decode cX0_mostAtOneTime 25 = .ok (.iload_n 1, 1) := by decide +kernel
theorem dX0_mostAtOneTime_26 : decode cX0_mostAtOneTime 26 = .ok (.iconst 1, 1) := by decide +kernel
theorem dX0_mostAtOneTime_27 : decode cX0_mostAtOneTime 27 = .ok (.isub, 1) := by decide +kernel
theorem dX0_mostAtOneTime_28 : decode cX0_mostAtOneTime 28 = .ok (.iand, 1) := by decide +kernel
theorem dX0_mostAtOneTime_29 : decode cX0_mostAtOneTime 29 = .ok (.istore_n 3, 1) := by decide +kernel
theorem dX0_mostAtOneTime_30 : decode cX0_mostAtOneTime 30 = .ok (.aload_n 0, 1) := by decide +kernel
theorem dX0_mostAtOneTime_31 : decode cX0_mostAtOneTime 31 = .ok (.getfield 15, 3) := by decide +kernel
theorem dX0_mostAtOneTime_34 : decode cX0_mostAtOneTime 34 = .ok (.iload_n 3, 1) := by decide +kernel
theorem dX0_mostAtOneTime_35 : decode cX0_mostAtOneTime 35 = .ok (.iaload, 1) := by decide +kernel
theorem dX0_mostAtOneTime_36 : decode cX0_mostAtOneTime 36 = .ok (.istore 4, 2) := by decide +kernel
theorem dX0_mostAtOneTime_38 : decode cX0_mostAtOneTime 38 = .ok (.iload_n 2, 1) := by decide +kernel
theorem dX0_mostAtOneTime_39 : decode cX0_mostAtOneTime 39 = .ok (.iconst 1, 1) := by decide +kernel
theorem dX0_mostAtOneTime_40 : decode cX0_mostAtOneTime 40 = .ok (.iadd, 1) := by decide +kernel
theorem dX0_mostAtOneTime_41 : decode cX0_mostAtOneTime 41 = .ok (.istore 5, 2) := by decide +kernel
theorem dX0_mostAtOneTime_43 : decode cX0_mostAtOneTime 43 = .ok (.iload 5, 2) := by decide +kernel
theorem dX0_mostAtOneTime_45 : decode cX0_mostAtOneTime 45 = .ok (.aload_n 0, 1) := by decide +kernel
theorem dX0_mostAtOneTime_46 : decode cX0_mostAtOneTime 46 = .ok (.getfield 18, 3) := by decide +kernel
theorem dX0_mostAtOneTime_49 : decode cX0_mostAtOneTime 49 = .ok (.if_icmp .ge 48, 3) := by decide +kernel
theorem dX0_mostAtOneTime_52 : decode cX0_mostAtOneTime 52 = .ok (.iload_n 3, 1) := by decide +kernel
theorem dX0_mostAtOneTime_53 : decode cX0_mostAtOneTime 53 = .ok (.iload 5, 2) := by decide +kernel
theorem dX0_mostAtOneTime_55 : decode cX0_mostAtOneTime 55 = .ok (.ishr, 1) := by decide +kernel
theorem dX0_mostAtOneTime_56 : decode cX0_mostAtOneTime 56 = .ok (.iconst 1, 1) := by decide +kernel
theorem dX0_mostAtOneTime_57 : decode cX0_mostAtOneTime 57 = .ok (.iand, 1) := by decide +kernel
theorem dX0_mostAtOneTime_58 : decode cX0_mostAtOneTime 58 = .ok (.ifCond .eq 33, 3) := by decide +kernel
theorem dX0_mostAtOneTime_61 : decode cX0_mostAtOneTime 61 = .ok (.aload_n 0, 1) := by decide +kernel
theorem dX0_mostAtOneTime_62 : decode cX0_mostAtOneTime 62 = .ok (.iload_n 2, 1) := by decide +kernel
theorem dX0_mostAtOneTime_63 : decode cX0_mostAtOneTime 63 = .ok (.iload 5, 2) := by decide +kernel
theorem dX0_mostAtOneTime_65 : decode cX0_mostAtOneTime 65 = .ok (.invokevirtual 41, 3) := by decide +kernel
theorem dX0_mostAtOneTime_68 : decode cX0_mostAtOneTime 68 = .ok (.ifCond .eq 23, 3) := by decide +kernel
theorem dX0_mostAtOneTime_71 : decode cX0_mostAtOneTime 71 = .ok (.iload 4, 2) := by decide +kernel
theorem dX0_mostAtOneTime_73 : decode cX0_mostAtOneTime 73 = .ok (.aload_n 0, 1) := by decide +kernel
theorem dX0_mostAtOneTime_74 : decode cX0_mostAtOneTime 74 = .ok (.getfield 15, 3) := by decide +kernel
theorem dX0_mostAtOneTime_77 : decode cX0_mostAtOneTime 77 = .ok (.iload_n 3, 1) := by decide +kernel
theorem dX0_mostAtOneTime_78 : decode cX0_mostAtOneTime 78 = .ok (.iconst 1, 1) := by decide +kernel
theorem dX0_mostAtOneTime_79 : decode cX0_mostAtOneTime 79 = .ok (.iload 5, 2) := by decide +kernel
theorem dX0_mostAtOneTime_81 : decode cX0_mostAtOneTime 81 = .ok (.ishl, 1) := by decide +kernel
theorem dX0_mostAtOneTime_82 : decode cX0_mostAtOneTime 82 = .ok (.ixor, 1) := by decide +kernel
theorem dX0_mostAtOneTime_83 : decode cX0_mostAtOneTime 83 = .ok (.iaload, 1) := by decide +kernel
theorem dX0_mostAtOneTime_84 : decode cX0_mostAtOneTime 84 = .ok (.iconst 1, 1) := by decide +kernel
theorem dX0_mostAtOneTime_85 : decode cX0_mostAtOneTime 85 = .ok (.iadd, 1) := by decide +kernel
theorem dX0_mostAtOneTime_86 : decode cX0_mostAtOneTime 86 = .ok (.invokestatic 48, 3) := by decide +kernel
theorem dX0_mostAtOneTime_89 : decode cX0_mostAtOneTime 89 = .ok (.istore 4, 2) := by decide +kernel
theorem dX0_mostAtOneTime_91 : decode cX0_mostAtOneTime 91 = .ok (.iinc 5 1, 3) := by decide +kernel
theorem dX0_mostAtOneTime_94 : decode cX0_mostAtOneTime 94 = .ok (.goto (-51), 3) := by decide +kernel
theorem dX0_mostAtOneTime_97 : decode cX0_mostAtOneTime 97 = .ok (.aload_n 0, 1) := by decide +kernel
theorem dX0_mostAtOneTime_98 : decode cX0_mostAtOneTime 98 = .ok (.getfield 15, 3) := by decide +kernel
theorem dX0_mostAtOneTime_101 : decode cX0_mostAtOneTime 101 = .ok (.iload_n 1, 1) := by decide +kernel
theorem dX0_mostAtOneTime_102 : decode cX0_mostAtOneTime 102 = .ok (.iload 4, 2) := by decide +kernel
theorem dX0_mostAtOneTime_104 : decode cX0_mostAtOneTime 104 = .ok (.iastore, 1) := by decide +kernel
theorem dX0_mostAtOneTime_105 : decode cX0_mostAtOneTime 105 = .ok (.iinc 1 1, 3) := by decide +kernel
theorem dX0_mostAtOneTime_108 : decode cX0_mostAtOneTime 108 = .ok (.goto (-99), 3) := by decide +kernel
theorem dX0_mostAtOneTime_111 : decode cX0_mostAtOneTime 111 = .ok (.aload_n 0, 1) := by decide +kernel
theorem dX0_mostAtOneTime_112 : decode cX0_mostAtOneTime 112 = .ok (.getfield 15, 3) := by decide +kernel
theorem dX0_mostAtOneTime_115 : decode cX0_mostAtOneTime 115 = .ok (.iconst 1, 1) := by decide +kernel
theorem dX0_mostAtOneTime_116 : decode cX0_mostAtOneTime 116 = .ok (.aload_n 0, 1) := by decide +kernel
theorem dX0_mostAtOneTime_117 : decode cX0_mostAtOneTime 117 = .ok (.getfield 18, 3) := by decide +kernel
theorem dX0_mostAtOneTime_120 : decode cX0_mostAtOneTime 120 = .ok (.ishl, 1) := by decide +kernel
theorem dX0_mostAtOneTime_121 : decode cX0_mostAtOneTime 121 = .ok (.iconst 1, 1) := by decide +kernel
theorem dX0_mostAtOneTime_122 : decode cX0_mostAtOneTime 122 = .ok (.isub, 1) := by decide +kernel
theorem dX0_mostAtOneTime_123 : decode cX0_mostAtOneTime 123 = .ok (.iaload, 1) := by decide +kernel
theorem dX0_mostAtOneTime_124 : decode cX0_mostAtOneTime 124 = .ok (.ireturn, 1) := by decide +kernel
theorem dX0_isCalm_0 : decode cX0_isCalm 0 = .ok (.iconst 0, 1) := by decide +kernel
theorem dX0_isCalm_1 : decode cX0_isCalm 1 = .ok (.istore_n 2, 1) := by decide +kernel
theorem dX0_isCalm_2 : decode cX0_isCalm 2 = .ok (.iload_n 2, 1) := by decide +kernel
theorem dX0_isCalm_3 : decode cX0_isCalm 3 = .ok (.aload_n 0, 1) := by decide +kernel
theorem dX0_isCalm_4 : decode cX0_isCalm 4 = .ok (.getfield 18, 3) := by decide +kernel
theorem dX0_isCalm_7 : decode cX0_isCalm 7 = .ok (.if_icmp .ge 30, 3) := by decide +kernel
theorem dX0_isCalm_10 : decode cX0_isCalm 10 = .ok (.iload_n 1, 1) := by decide +kernel
theorem dX0_isCalm_11 : decode cX0_isCalm 11 = .ok (.iload_n 2, 1) := by decide +kernel
theorem dX0_isCalm_12 : decode cX0_isCalm 12 = .ok (.ishr, 1) := by decide +kernel
theorem dX0_isCalm_13 : decode cX0_isCalm 13 = .ok (.iconst 1, 1) := by decide +kernel
theorem dX0_isCalm_14 : decode cX0_isCalm 14 = .ok (.iand, 1) := by decide +kernel
theorem dX0_isCalm_15 : decode cX0_isCalm 15 = .ok (.ifCond .eq 16, 3) := by decide +kernel
theorem dX0_isCalm_18 : decode cX0_isCalm 18 = .ok (.aload_n 0, 1) := by decide +kernel
theorem dX0_isCalm_19 : decode cX0_isCalm 19 = .ok (.getfield 9, 3) := by decide +kernel
theorem dX0_isCalm_22 : decode cX0_isCalm 22 = .ok (.iload_n 2, 1) := by decide +kernel
theorem dX0_isCalm_23 : decode cX0_isCalm 23 = .ok (.iaload, 1) := by decide +kernel
theorem dX0_isCalm_24 : decode cX0_isCalm 24 = .ok (.iload_n 1, 1) := by decide +kernel
theorem dX0_isCalm_25 : decode cX0_isCalm 25 = .ok (.iand, 1) := by decide +kernel
theorem dX0_isCalm_26 : decode cX0_isCalm 26 = .ok (.ifCond .eq 5, 3) := by decide +kernel
theorem dX0_isCalm_29 : decode cX0_isCalm 29 = .ok (.iconst 0, 1) := by decide +kernel
theorem dX0_isCalm_30 : decode cX0_isCalm 30 = .ok (.ireturn, 1) := by decide +kernel
theorem dX0_isCalm_31 : decode cX0_isCalm 31 = .ok (.iinc 2 1, 3) := by decide +kernel
theorem dX0_isCalm_34 : decode cX0_isCalm 34 = .ok (.goto (-32), 3) := by decide +kernel
theorem dX0_isCalm_37 : decode cX0_isCalm 37 = .ok (.iconst 1, 1) := by decide +kernel
theorem dX0_isCalm_38 : decode cX0_isCalm 38 = .ok (.ireturn, 1) := by decide +kernel
theorem dX0_greatestCalm_0 : decode cX0_greatestCalm 0 = .ok (.iconst 0, 1) := by decide +kernel
theorem dX0_greatestCalm_1 : decode cX0_greatestCalm 1 = .ok (.istore_n 1, 1) := by decide +kernel
theorem dX0_greatestCalm_2 : decode cX0_greatestCalm 2 = .ok (.iconst 0, 1) := by decide +kernel
theorem dX0_greatestCalm_3 : decode cX0_greatestCalm 3 = .ok (.istore_n 2, 1) := by decide +kernel
theorem dX0_greatestCalm_4 : decode cX0_greatestCalm 4 = .ok (.iload_n 2, 1) := by decide +kernel
theorem dX0_greatestCalm_5 : decode cX0_greatestCalm 5 = .ok (.iconst 1, 1) := by decide +kernel
theorem dX0_greatestCalm_6 : decode cX0_greatestCalm 6 = .ok (.aload_n 0, 1) := by decide +kernel
theorem dX0_greatestCalm_7 : decode cX0_greatestCalm 7 = .ok (.getfield 18, 3) := by decide +kernel
theorem dX0_greatestCalm_10 : decode cX0_greatestCalm 10 = .ok (.ishl, 1) := by decide +kernel
theorem dX0_greatestCalm_11 : decode cX0_greatestCalm 11 = .ok (.if_icmp .ge 30, 3) := by decide +kernel
theorem dX0_greatestCalm_14 : decode cX0_greatestCalm 14 = .ok (.iload_n 2, 1) := by decide +kernel
theorem dX0_greatestCalm_15 : decode cX0_greatestCalm 15 = .ok (.invokestatic 35, 3) := by decide +kernel
theorem dX0_greatestCalm_18 : decode cX0_greatestCalm 18 = .ok (.iload_n 1, 1) := by decide +kernel
theorem dX0_greatestCalm_19 : decode cX0_greatestCalm 19 = .ok (.invokestatic 35, 3) := by decide +kernel
theorem dX0_greatestCalm_22 : decode cX0_greatestCalm 22 = .ok (.if_icmp .le 13, 3) := by decide +kernel
theorem dX0_greatestCalm_25 : decode cX0_greatestCalm 25 = .ok (.aload_n 0, 1) := by decide +kernel
theorem dX0_greatestCalm_26 : decode cX0_greatestCalm 26 = .ok (.iload_n 2, 1) := by decide +kernel
theorem dX0_greatestCalm_27 : decode cX0_greatestCalm 27 = .ok (.invokevirtual 54, 3) := by decide +kernel
theorem dX0_greatestCalm_30 : decode cX0_greatestCalm 30 = .ok (.ifCond .eq 5, 3) := by decide +kernel
theorem dX0_greatestCalm_33 : decode cX0_greatestCalm 33 = .ok (.iload_n 2, 1) := by decide +kernel
theorem dX0_greatestCalm_34 : decode cX0_greatestCalm 34 = .ok (.istore_n 1, 1) := by decide +kernel
theorem dX0_greatestCalm_35 : decode cX0_greatestCalm 35 = .ok (.iinc 2 1, 3) := by decide +kernel
theorem dX0_greatestCalm_38 : decode cX0_greatestCalm 38 = .ok (.goto (-34), 3) := by decide +kernel
theorem dX0_greatestCalm_41 : decode cX0_greatestCalm 41 = .ok (.iload_n 1, 1) := by decide +kernel
theorem dX0_greatestCalm_42 : decode cX0_greatestCalm 42 = .ok (.ireturn, 1) := by decide +kernel
def f0_draw_L14 (x2 : Int32) (x3 : Int32) (K44 : zMem → zRes) : Nat → Int32 → zMem → zRes
  | 0, _, _ => none
  | n + 1, x4, μ => if (μ 54 3) ≤ x4 then K44 μ else bnd0 (f5_rivalsOf 23 x4 x2 x3 μ) (fun (v4 : Int32) (μ5 : zMem) => zin x4 8 (zlet (zset μ5 55 x4.toNatClampNeg v4) (fun (μ7 : zMem) => f0_draw_L14 x2 x3 K44 n (x4 + (1 : Int32)) μ7)))
def f0_draw (x2 : Int32) (x3 : Int32) (μ : zMem) : zRes := zlet (zset μ 54 3 (μ 2 1)) (fun (μ1 : zMem) => f0_draw_L14 x2 x3 (fun (μ8 : zMem) => some (0, 0, μ8)) zF (0 : Int32) μ1)
set_option maxHeartbeats 1000000 in
theorem t0_draw_L14 {g : Bool} (x2 : Int32) (x3 : Int32) (K44 : zMem → zRes) (hK44 : ∀ (μ : zMem), zR yX0_draw cX0_draw 5 (none) 3 44 [.null, .null, .null, .null, .null] [] (nX g) (SX g) μ (K44 μ)) : ∀ (n : Nat) (x4 : Int32) (μ : zMem), zR yX0_draw cX0_draw 5 (none) 3 14 [.ref 54, .ref 23, .int x2, .int x3, .int x4] [] (nX g) (SX g) μ (f0_draw_L14 x2 x3 K44 n x4 μ) := by
  intro n
  induction n with
  | zero => intro x4 μ; intro q hq; cases hq
  | succ n ih =>
    intro x4 μ
    unfold f0_draw_L14
    refine z_iload (pc := 14) dX0_draw_14 rfl ?_
    refine z_aload_n (pc := 16) dX0_draw_16 rfl ?_
    refine z_geti (pc := 17) fdX0_18 (nx_lt (by decide)) (sx_54 g) rfl dX0_draw_17 ?_
    refine z_icmp_ge (pc := 20) (tgt := 44) dX0_draw_20 (by decide) (fun c2 => ?_) (fun c3 => ?_)
    · refine z_loc (L' := [.null, .null, .null, .null, .null]) ⟨Or.inl rfl, ⟨Or.inl rfl, ⟨Or.inl rfl, ⟨Or.inl rfl, ⟨Or.inl rfl, trivial⟩⟩⟩⟩⟩ ?_
      exact hK44 μ
    · refine z_aload_n (pc := 23) dX0_draw_23 rfl ?_
      refine z_getr (pc := 24) fdX0_9 (nx_lt (by decide)) (sx_54 g) rfl rfl dX0_draw_24 ?_
      refine z_iload (pc := 27) dX0_draw_27 rfl ?_
      refine z_aload_n (pc := 29) dX0_draw_29 rfl ?_
      refine z_iload (pc := 30) dX0_draw_30 rfl ?_
      refine z_iload_n (pc := 32) dX0_draw_32 rfl ?_
      refine z_iload_n (pc := 33) dX0_draw_33 rfl ?_
      refine z_callV (As := [.int x4, .int x2, .int x3]) (pc := 34) (ret' := some .int) kvX0_29 (t5_rivalsOf zSc_23 _ _ _ _) (by decide) (nx_lt (by decide)) (sx_23 g)  rfl rfl (Nat.le_of_ble_eq_true rfl) dX0_draw_34 (fun v4 μ5 => ?_)
      refine z_iast (pc := 37) (nx_lt (by decide)) (sx_55 g) rfl dX0_draw_37 (fun h6 => ?_)
      refine z_mem (fun μ7 => ?_)
      refine z_iinc (pc := 38) (v := x4 + (1 : Int32)) (L' := [.ref 54, .ref 23, .int x2, .int x3, .int (x4 + (1 : Int32))]) dX0_draw_38 (by decide) rfl (congrArg _ (by decide)) rfl ?_
      refine z_goto (pc := 41) (tgt := 14) dX0_draw_41 (by decide) ?_
      exact ih (x4 + (1 : Int32)) μ7
set_option maxHeartbeats 1000000 in
theorem t0_draw {g : Bool} (x2 : Int32) (x3 : Int32) (μ : zMem) : zMR yX0_draw cX0_draw 5 (none) 3 [.ref 54, .ref 23, .int x2, .int x3] (nX g) (SX g) μ (f0_draw x2 x3 μ) := by
  refine zMR_of (by decide +kernel) rfl (Nat.le_of_ble_eq_true rfl) (L := [.ref 54, .ref 23, .int x2, .int x3, .null]) rfl ?_
  unfold f0_draw
  refine z_aload_n (pc := 0) dX0_draw_0 rfl ?_
  refine z_aload_n (pc := 1) dX0_draw_1 rfl ?_
  refine z_getr (pc := 2) fdX0_22 (nx_lt (by decide)) (sx_54 g) rfl rfl dX0_draw_2 ?_
  refine z_geti (pc := 5) fdX0_26 (nx_lt (by decide)) (sx_2 g) rfl dX0_draw_5 ?_
  refine z_puti (pc := 8) fdX0_18 (nx_lt (by decide)) (sx_54 g) rfl rfl dX0_draw_8 ?_
  refine z_mem (fun μ1 => ?_)
  refine z_iconst (pc := 11) (0 : Int32) dX0_draw_11 (by decide) ?_
  refine z_istore (pc := 12) (L' := [.ref 54, .ref 23, .int x2, .int x3, .int (0 : Int32)]) dX0_draw_12 (by decide) rfl ?_
  refine t0_draw_L14 _ _ _ (fun μ8 => ?_) zF _ _
  · exact z_vret (pc := 44) rfl dX0_draw_44
def f0_twos_L4 (K30 : Int32 → zMem → zRes) : Nat → Int32 → Int32 → zMem → zRes
  | 0, _, _, _ => none
  | n + 1, x1, x2, μ => if (μ 54 3) ≤ x2 then K30 x1 μ else zin x2 8 (bnd0 (fJ6_bitCount_0f7a4 (μ 55 x2.toNatClampNeg) μ) (fun (v4 : Int32) (μ5 : zMem) => zlet (x1 + v4) (fun (v6 : Int32) => f0_twos_L4 K30 n v6 (x2 + (1 : Int32)) μ5)))
def f0_twos (μ : zMem) : zRes := f0_twos_L4 (fun (x1_7 : Int32) (μ8 : zMem) => some (0, x1_7 / (2 : Int32), μ8)) zF (0 : Int32) (0 : Int32) μ
set_option maxHeartbeats 1000000 in
theorem t0_twos_L4 {g : Bool} (K30 : Int32 → zMem → zRes) (hK30 : ∀ (x1 : Int32) (μ : zMem), zR yX0_twos cX0_twos 3 (some .int) 2 30 [.null, .int x1, .null] [] (nX g) (SX g) μ (K30 x1 μ)) : ∀ (n : Nat) (x1 : Int32) (x2 : Int32) (μ : zMem), zR yX0_twos cX0_twos 3 (some .int) 2 4 [.ref 54, .int x1, .int x2] [] (nX g) (SX g) μ (f0_twos_L4 K30 n x1 x2 μ) := by
  intro n
  induction n with
  | zero => intro x1 x2 μ; intro q hq; cases hq
  | succ n ih =>
    intro x1 x2 μ
    unfold f0_twos_L4
    refine z_iload_n (pc := 4) dX0_twos_4 rfl ?_
    refine z_aload_n (pc := 5) dX0_twos_5 rfl ?_
    refine z_geti (pc := 6) fdX0_18 (nx_lt (by decide)) (sx_54 g) rfl dX0_twos_6 ?_
    refine z_icmp_ge (pc := 9) (tgt := 30) dX0_twos_9 (by decide) (fun c1 => ?_) (fun c2 => ?_)
    · refine z_loc (L' := [.null, .int x1, .null]) ⟨Or.inl rfl, ⟨Or.inr rfl, ⟨Or.inl rfl, trivial⟩⟩⟩ ?_
      exact hK30 x1 μ
    · refine z_iload_n (pc := 12) dX0_twos_12 rfl ?_
      refine z_aload_n (pc := 13) dX0_twos_13 rfl ?_
      refine z_getr (pc := 14) fdX0_9 (nx_lt (by decide)) (sx_54 g) rfl rfl dX0_twos_14 ?_
      refine z_iload_n (pc := 17) dX0_twos_17 rfl ?_
      refine z_iald (pc := 18) (nx_lt (by decide)) (sx_55 g) rfl dX0_twos_18 (fun h3 => ?_)
      refine z_callS (As := [.int (μ 55 x2.toNatClampNeg)]) (pc := 19) (ret' := some .int) ksX0_35 (tJ6_bitCount_0f7a4 _ _) (by decide)  rfl rfl (Nat.le_of_ble_eq_true rfl) dX0_twos_19 (fun v4 μ5 => ?_)
      refine z_iadd (pc := 22) dX0_twos_22 ?_
      refine z_val (fun v6 => ?_)
      refine z_istore_n (pc := 23) (L' := [.ref 54, .int v6, .int x2]) dX0_twos_23 (by decide) rfl ?_
      refine z_iinc (pc := 24) (v := x2 + (1 : Int32)) (L' := [.ref 54, .int v6, .int (x2 + (1 : Int32))]) dX0_twos_24 (by decide) rfl (congrArg _ (by decide)) rfl ?_
      refine z_goto (pc := 27) (tgt := 4) dX0_twos_27 (by decide) ?_
      exact ih v6 (x2 + (1 : Int32)) μ5
set_option maxHeartbeats 1000000 in
theorem t0_twos {g : Bool} (μ : zMem) : zMR yX0_twos cX0_twos 3 (some .int) 2 [.ref 54] (nX g) (SX g) μ (f0_twos μ) := by
  refine zMR_of (by decide +kernel) rfl (Nat.le_of_ble_eq_true rfl) (L := [.ref 54, .null, .null]) rfl ?_
  unfold f0_twos
  refine z_iconst (pc := 0) (0 : Int32) dX0_twos_0 (by decide) ?_
  refine z_istore_n (pc := 1) (L' := [.ref 54, .int (0 : Int32), .null]) dX0_twos_1 (by decide) rfl ?_
  refine z_iconst (pc := 2) (0 : Int32) dX0_twos_2 (by decide) ?_
  refine z_istore_n (pc := 3) (L' := [.ref 54, .int (0 : Int32), .int (0 : Int32)]) dX0_twos_3 (by decide) rfl ?_
  refine t0_twos_L4 _ (fun x1_7 μ8 => ?_) zF _ _ _
  · refine z_iload_n (pc := 30) dX0_twos_30 rfl ?_
    refine z_iconst (pc := 31) (2 : Int32) dX0_twos_31 (by decide) ?_
    refine z_idivc (pc := 32) dX0_twos_32 (by decide) ?_
    exact z_iret (pc := 33) rfl dX0_twos_33
def f0_areRivals (x1 : Int32) (x2 : Int32) (μ : zMem) : zRes := zin x1 8 (zlet (fun (s2 : Int32) => zbl s2 (some (0, s2, μ))) (fun j3 => if ((zshr (μ 55 x1.toNatClampNeg) x2) &&& (1 : Int32)) = 0 then j3 (0 : Int32) else j3 (1 : Int32)))
set_option maxHeartbeats 1000000 in
theorem t0_areRivals {g : Bool} (x1 : Int32) (x2 : Int32) (μ : zMem) : zMR yX0_areRivals cX0_areRivals 3 (some .boolean) 1 [.ref 54, .int x1, .int x2] (nX g) (SX g) μ (f0_areRivals x1 x2 μ) := by
  refine zMR_of (by decide +kernel) rfl (Nat.le_of_ble_eq_true rfl) (L := [.ref 54, .int x1, .int x2]) rfl ?_
  unfold f0_areRivals
  refine z_aload_n (pc := 0) dX0_areRivals_0 rfl ?_
  refine z_getr (pc := 1) fdX0_9 (nx_lt (by decide)) (sx_54 g) rfl rfl dX0_areRivals_1 ?_
  refine z_iload_n (pc := 4) dX0_areRivals_4 rfl ?_
  refine z_iald (pc := 5) (nx_lt (by decide)) (sx_55 g) rfl dX0_areRivals_5 (fun h1 => ?_)
  refine z_iload_n (pc := 6) dX0_areRivals_6 rfl ?_
  refine z_ishr (pc := 7) dX0_areRivals_7 ?_
  refine z_iconst (pc := 8) (1 : Int32) dX0_areRivals_8 (by decide) ?_
  refine z_iand (pc := 9) dX0_areRivals_9 ?_
  refine z_let (fun (j : Int32 → zRes) => ∀ (s2 : Int32), zR yX0_areRivals cX0_areRivals 3 (some .boolean) 1 18 [.null, .null, .null] [.int s2] (nX g) (SX g) μ (j s2)) ?_ (fun j3 hj3 => ?_)
  · intro s2
    exact z_zret (pc := 18) rfl dX0_areRivals_18
  · refine z_if_eq (pc := 10) (tgt := 17) dX0_areRivals_10 (by decide) (fun c4 => ?_) (fun c5 => ?_)
    · refine z_iconst (pc := 17) (0 : Int32) dX0_areRivals_17 (by decide) ?_
      refine z_loc (L' := [.null, .null, .null]) ⟨Or.inl rfl, ⟨Or.inl rfl, ⟨Or.inl rfl, trivial⟩⟩⟩ ?_
      exact hj3 (0 : Int32)
    · refine z_iconst (pc := 13) (1 : Int32) dX0_areRivals_13 (by decide) ?_
      refine z_goto (pc := 14) (tgt := 18) dX0_areRivals_14 (by decide) ?_
      refine z_loc (L' := [.null, .null, .null]) ⟨Or.inl rfl, ⟨Or.inl rfl, ⟨Or.inl rfl, trivial⟩⟩⟩ ?_
      exact hj3 (1 : Int32)
def f0_threes_L16 (x2 : Int32) (K70 : Int32 → zMem → zRes) : Nat → Int32 → Int32 → zMem → zRes
  | 0, _, _, _ => none
  | n + 1, x1, x3, μ => if (μ 54 3) ≤ x3 then K70 x1 μ else bnd0 (f0_areRivals x2 x3 μ) (fun (v6 : Int32) (μ7 : zMem) => zlet (fun (s8 : Int32) => bnd0 (fJ6_bitCount_0f7a4 s8 μ7) (fun (v9 : Int32) (μ10 : zMem) => zlet (x1 + v9) (fun (v11 : Int32) => f0_threes_L16 x2 K70 n v11 (x3 + (1 : Int32)) μ10))) (fun j12 => if v6 = 0 then j12 (0 : Int32) else zin x2 8 (zin x3 8 (j12 (zshr ((μ7 55 x2.toNatClampNeg) &&& (μ7 55 x3.toNatClampNeg)) (x3 + (1 : Int32)))))))
def f0_threes_L4 (K76 : Int32 → zMem → zRes) : Nat → Int32 → Int32 → zMem → zRes
  | 0, _, _, _ => none
  | n + 1, x1, x2, μ => if (μ 54 3) ≤ x2 then K76 x1 μ else zlet (x2 + (1 : Int32)) (fun (v3 : Int32) => f0_threes_L16 x2 (fun (x1_17 : Int32) (μ18 : zMem) => f0_threes_L4 K76 n x1_17 (x2 + (1 : Int32)) μ18) zF x1 v3 μ)
def f0_threes (μ : zMem) : zRes := f0_threes_L4 (fun (x1_19 : Int32) (μ20 : zMem) => some (0, x1_19, μ20)) zF (0 : Int32) (0 : Int32) μ
set_option maxHeartbeats 1000000 in
theorem t0_threes_L16 {g : Bool} (x2 : Int32) (K70 : Int32 → zMem → zRes) (hK70 : ∀ (x1 : Int32) (μ : zMem), zR yX0_threes cX0_threes 5 (some .int) 2 70 [.ref 54, .int x1, .int x2, .null, .null] [] (nX g) (SX g) μ (K70 x1 μ)) : ∀ (n : Nat) (x1 : Int32) (x3 : Int32) (μ : zMem), zR yX0_threes cX0_threes 5 (some .int) 2 16 [.ref 54, .int x1, .int x2, .int x3, .null] [] (nX g) (SX g) μ (f0_threes_L16 x2 K70 n x1 x3 μ) := by
  intro n
  induction n with
  | zero => intro x1 x3 μ; intro q hq; cases hq
  | succ n ih =>
    intro x1 x3 μ
    unfold f0_threes_L16
    refine z_iload_n (pc := 16) dX0_threes_16 rfl ?_
    refine z_aload_n (pc := 17) dX0_threes_17 rfl ?_
    refine z_geti (pc := 18) fdX0_18 (nx_lt (by decide)) (sx_54 g) rfl dX0_threes_18 ?_
    refine z_icmp_ge (pc := 21) (tgt := 70) dX0_threes_21 (by decide) (fun c4 => ?_) (fun c5 => ?_)
    · refine z_loc (L' := [.ref 54, .int x1, .int x2, .null, .null]) ⟨Or.inr rfl, ⟨Or.inr rfl, ⟨Or.inr rfl, ⟨Or.inl rfl, ⟨Or.inl rfl, trivial⟩⟩⟩⟩⟩ ?_
      exact hK70 x1 μ
    · refine z_aload_n (pc := 24) dX0_threes_24 rfl ?_
      refine z_iload_n (pc := 25) dX0_threes_25 rfl ?_
      refine z_iload_n (pc := 26) dX0_threes_26 rfl ?_
      refine z_callV (As := [.int x2, .int x3]) (pc := 27) (ret' := some .boolean) kvX0_41 (t0_areRivals _ _ _) (by decide) (nx_lt (by decide)) (sx_54 g)  rfl rfl (Nat.le_of_ble_eq_true rfl) dX0_threes_27 (fun v6 μ7 => ?_)
      refine z_let (fun (j : Int32 → zRes) => ∀ (s8 : Int32), zR yX0_threes cX0_threes 5 (some .int) 2 54 [.ref 54, .int x1, .int x2, .int x3, .null] [.int s8] (nX g) (SX g) μ7 (j s8)) ?_ (fun j12 hj12 => ?_)
      · intro s8
        refine z_istore (pc := 54) (L' := [.ref 54, .int x1, .int x2, .int x3, .int s8]) dX0_threes_54 (by decide) rfl ?_
        refine z_iload_n (pc := 56) dX0_threes_56 rfl ?_
        refine z_iload (pc := 57) dX0_threes_57 rfl ?_
        refine z_callS (As := [.int s8]) (pc := 59) (ret' := some .int) ksX0_35 (tJ6_bitCount_0f7a4 _ _) (by decide)  rfl rfl (Nat.le_of_ble_eq_true rfl) dX0_threes_59 (fun v9 μ10 => ?_)
        refine z_iadd (pc := 62) dX0_threes_62 ?_
        refine z_val (fun v11 => ?_)
        refine z_istore_n (pc := 63) (L' := [.ref 54, .int v11, .int x2, .int x3, .int s8]) dX0_threes_63 (by decide) rfl ?_
        refine z_iinc (pc := 64) (v := x3 + (1 : Int32)) (L' := [.ref 54, .int v11, .int x2, .int (x3 + (1 : Int32)), .int s8]) dX0_threes_64 (by decide) rfl (congrArg _ (by decide)) rfl ?_
        refine z_goto (pc := 67) (tgt := 16) dX0_threes_67 (by decide) ?_
        refine z_loc (L' := [.ref 54, .int v11, .int x2, .int (x3 + (1 : Int32)), .null]) ⟨Or.inr rfl, ⟨Or.inr rfl, ⟨Or.inr rfl, ⟨Or.inr rfl, ⟨Or.inl rfl, trivial⟩⟩⟩⟩⟩ ?_
        exact ih v11 (x3 + (1 : Int32)) μ10
      · refine z_if_eq (pc := 30) (tgt := 53) dX0_threes_30 (by decide) (fun c13 => ?_) (fun c14 => ?_)
        · refine z_iconst (pc := 53) (0 : Int32) dX0_threes_53 (by decide) ?_
          exact hj12 (0 : Int32)
        · refine z_aload_n (pc := 33) dX0_threes_33 rfl ?_
          refine z_getr (pc := 34) fdX0_9 (nx_lt (by decide)) (sx_54 g) rfl rfl dX0_threes_34 ?_
          refine z_iload_n (pc := 37) dX0_threes_37 rfl ?_
          refine z_iald (pc := 38) (nx_lt (by decide)) (sx_55 g) rfl dX0_threes_38 (fun h15 => ?_)
          refine z_aload_n (pc := 39) dX0_threes_39 rfl ?_
          refine z_getr (pc := 40) fdX0_9 (nx_lt (by decide)) (sx_54 g) rfl rfl dX0_threes_40 ?_
          refine z_iload_n (pc := 43) dX0_threes_43 rfl ?_
          refine z_iald (pc := 44) (nx_lt (by decide)) (sx_55 g) rfl dX0_threes_44 (fun h16 => ?_)
          refine z_iand (pc := 45) dX0_threes_45 ?_
          refine z_iload_n (pc := 46) dX0_threes_46 rfl ?_
          refine z_iconst (pc := 47) (1 : Int32) dX0_threes_47 (by decide) ?_
          refine z_iadd (pc := 48) dX0_threes_48 ?_
          refine z_ishr (pc := 49) dX0_threes_49 ?_
          refine z_goto (pc := 50) (tgt := 54) dX0_threes_50 (by decide) ?_
          exact hj12 (zshr ((μ7 55 x2.toNatClampNeg) &&& (μ7 55 x3.toNatClampNeg)) (x3 + (1 : Int32)))
set_option maxHeartbeats 1000000 in
theorem t0_threes_L4 {g : Bool} (K76 : Int32 → zMem → zRes) (hK76 : ∀ (x1 : Int32) (μ : zMem), zR yX0_threes cX0_threes 5 (some .int) 2 76 [.null, .int x1, .null, .null, .null] [] (nX g) (SX g) μ (K76 x1 μ)) : ∀ (n : Nat) (x1 : Int32) (x2 : Int32) (μ : zMem), zR yX0_threes cX0_threes 5 (some .int) 2 4 [.ref 54, .int x1, .int x2, .null, .null] [] (nX g) (SX g) μ (f0_threes_L4 K76 n x1 x2 μ) := by
  intro n
  induction n with
  | zero => intro x1 x2 μ; intro q hq; cases hq
  | succ n ih =>
    intro x1 x2 μ
    unfold f0_threes_L4
    refine z_iload_n (pc := 4) dX0_threes_4 rfl ?_
    refine z_aload_n (pc := 5) dX0_threes_5 rfl ?_
    refine z_geti (pc := 6) fdX0_18 (nx_lt (by decide)) (sx_54 g) rfl dX0_threes_6 ?_
    refine z_icmp_ge (pc := 9) (tgt := 76) dX0_threes_9 (by decide) (fun c1 => ?_) (fun c2 => ?_)
    · refine z_loc (L' := [.null, .int x1, .null, .null, .null]) ⟨Or.inl rfl, ⟨Or.inr rfl, ⟨Or.inl rfl, ⟨Or.inl rfl, ⟨Or.inl rfl, trivial⟩⟩⟩⟩⟩ ?_
      exact hK76 x1 μ
    · refine z_iload_n (pc := 12) dX0_threes_12 rfl ?_
      refine z_iconst (pc := 13) (1 : Int32) dX0_threes_13 (by decide) ?_
      refine z_iadd (pc := 14) dX0_threes_14 ?_
      refine z_val (fun v3 => ?_)
      refine z_istore_n (pc := 15) (L' := [.ref 54, .int x1, .int x2, .int v3, .null]) dX0_threes_15 (by decide) rfl ?_
      refine t0_threes_L16 _ _ (fun x1_17 μ18 => ?_) zF _ _ _
      · refine z_iinc (pc := 70) (v := x2 + (1 : Int32)) (L' := [.ref 54, .int x1_17, .int (x2 + (1 : Int32)), .null, .null]) dX0_threes_70 (by decide) rfl (congrArg _ (by decide)) rfl ?_
        refine z_goto (pc := 73) (tgt := 4) dX0_threes_73 (by decide) ?_
        exact ih x1_17 (x2 + (1 : Int32)) μ18
set_option maxHeartbeats 1000000 in
theorem t0_threes {g : Bool} (μ : zMem) : zMR yX0_threes cX0_threes 5 (some .int) 2 [.ref 54] (nX g) (SX g) μ (f0_threes μ) := by
  refine zMR_of (by decide +kernel) rfl (Nat.le_of_ble_eq_true rfl) (L := [.ref 54, .null, .null, .null, .null]) rfl ?_
  unfold f0_threes
  refine z_iconst (pc := 0) (0 : Int32) dX0_threes_0 (by decide) ?_
  refine z_istore_n (pc := 1) (L' := [.ref 54, .int (0 : Int32), .null, .null, .null]) dX0_threes_1 (by decide) rfl ?_
  refine z_iconst (pc := 2) (0 : Int32) dX0_threes_2 (by decide) ?_
  refine z_istore_n (pc := 3) (L' := [.ref 54, .int (0 : Int32), .int (0 : Int32), .null, .null]) dX0_threes_3 (by decide) rfl ?_
  refine t0_threes_L4 _ (fun x1_19 μ20 => ?_) zF _ _ _
  · refine z_iload_n (pc := 76) dX0_threes_76 rfl ?_
    exact z_iret (pc := 77) rfl dX0_threes_77
def f0_mostAtOneTime_L43 (x2 : Int32) (x3 : Int32) (K97 : Int32 → zMem → zRes) : Nat → Int32 → Int32 → zMem → zRes
  | 0, _, _, _ => none
  | n + 1, x4, x5, μ => if (μ 54 3) ≤ x5 then K97 x4 μ else zlet (fun (x4_13 : Int32) (μ14 : zMem) => f0_mostAtOneTime_L43 x2 x3 K97 n x4_13 (x5 + (1 : Int32)) μ14) (fun j15 => if ((zshr x3 x5) &&& (1 : Int32)) = 0 then j15 x4 μ else bnd0 (f0_areRivals x2 x5 μ) (fun (v18 : Int32) (μ19 : zMem) => if v18 = 0 then j15 x4 μ19 else zin (x3 ^^^ (zshl (1 : Int32) x5)) 256 (zlet (zmax x4 ((μ19 56 (x3 ^^^ (zshl (1 : Int32) x5)).toNatClampNeg) + (1 : Int32))) (fun (v23 : Int32) => j15 v23 μ19))))
def f0_mostAtOneTime_L9 (K111 : zMem → zRes) : Nat → Int32 → zMem → zRes
  | 0, _, _ => none
  | n + 1, x1, μ => if (zshl (1 : Int32) (μ 54 3)) ≤ x1 then K111 μ else bnd0 (fJ6_numberOfTrailingZeros_0f7a4 x1 μ) (fun (v5 : Int32) (μ6 : zMem) => zlet (x1 &&& (x1 - (1 : Int32))) (fun (v7 : Int32) => zin v7 256 (zlet (μ6 56 v7.toNatClampNeg) (fun (v9 : Int32) => zlet (v5 + (1 : Int32)) (fun (v10 : Int32) => f0_mostAtOneTime_L43 v5 v7 (fun (x4_24 : Int32) (μ25 : zMem) => zin x1 256 (zlet (zset μ25 56 x1.toNatClampNeg x4_24) (fun (μ27 : zMem) => f0_mostAtOneTime_L9 K111 n (x1 + (1 : Int32)) μ27))) zF v9 v10 μ6)))))
def f0_mostAtOneTime (μ : zMem) : zRes := zin (0 : Int32) 256 (zlet (zset μ 56 (0 : Int32).toNatClampNeg (0 : Int32)) (fun (μ2 : zMem) => f0_mostAtOneTime_L9 (fun (μ28 : zMem) => zin ((zshl (1 : Int32) (μ28 54 3)) - (1 : Int32)) 256 (some (0, μ28 56 ((zshl (1 : Int32) (μ28 54 3)) - (1 : Int32)).toNatClampNeg, μ28))) zF (1 : Int32) μ2))
set_option maxHeartbeats 1000000 in
theorem t0_mostAtOneTime_L43 {g : Bool} (x1 : Int32) (x2 : Int32) (x3 : Int32) (K97 : Int32 → zMem → zRes) (hK97 : ∀ (x4 : Int32) (μ : zMem), zR yX0_mostAtOneTime cX0_mostAtOneTime 6 (some .int) 2 97 [.ref 54, .int x1, .null, .null, .int x4, .null] [] (nX g) (SX g) μ (K97 x4 μ)) : ∀ (n : Nat) (x4 : Int32) (x5 : Int32) (μ : zMem), zR yX0_mostAtOneTime cX0_mostAtOneTime 6 (some .int) 2 43 [.ref 54, .int x1, .int x2, .int x3, .int x4, .int x5] [] (nX g) (SX g) μ (f0_mostAtOneTime_L43 x2 x3 K97 n x4 x5 μ) := by
  intro n
  induction n with
  | zero => intro x4 x5 μ; intro q hq; cases hq
  | succ n ih =>
    intro x4 x5 μ
    unfold f0_mostAtOneTime_L43
    refine z_iload (pc := 43) dX0_mostAtOneTime_43 rfl ?_
    refine z_aload_n (pc := 45) dX0_mostAtOneTime_45 rfl ?_
    refine z_geti (pc := 46) fdX0_18 (nx_lt (by decide)) (sx_54 g) rfl dX0_mostAtOneTime_46 ?_
    refine z_icmp_ge (pc := 49) (tgt := 97) dX0_mostAtOneTime_49 (by decide) (fun c11 => ?_) (fun c12 => ?_)
    · refine z_loc (L' := [.ref 54, .int x1, .null, .null, .int x4, .null]) ⟨Or.inr rfl, ⟨Or.inr rfl, ⟨Or.inl rfl, ⟨Or.inl rfl, ⟨Or.inr rfl, ⟨Or.inl rfl, trivial⟩⟩⟩⟩⟩⟩ ?_
      exact hK97 x4 μ
    · refine z_iload_n (pc := 52) dX0_mostAtOneTime_52 rfl ?_
      refine z_iload (pc := 53) dX0_mostAtOneTime_53 rfl ?_
      refine z_ishr (pc := 55) dX0_mostAtOneTime_55 ?_
      refine z_iconst (pc := 56) (1 : Int32) dX0_mostAtOneTime_56 (by decide) ?_
      refine z_iand (pc := 57) dX0_mostAtOneTime_57 ?_
      refine z_let (fun (j : Int32 → zMem → zRes) => ∀ (x4_13 : Int32) (μ14 : zMem), zR yX0_mostAtOneTime cX0_mostAtOneTime 6 (some .int) 2 91 [.ref 54, .int x1, .int x2, .int x3, .int x4_13, .int x5] [] (nX g) (SX g) μ14 (j x4_13 μ14)) ?_ (fun j15 hj15 => ?_)
      · intro x4_13 μ14
        refine z_iinc (pc := 91) (v := x5 + (1 : Int32)) (L' := [.ref 54, .int x1, .int x2, .int x3, .int x4_13, .int (x5 + (1 : Int32))]) dX0_mostAtOneTime_91 (by decide) rfl (congrArg _ (by decide)) rfl ?_
        refine z_goto (pc := 94) (tgt := 43) dX0_mostAtOneTime_94 (by decide) ?_
        exact ih x4_13 (x5 + (1 : Int32)) μ14
      · refine z_if_eq (pc := 58) (tgt := 91) dX0_mostAtOneTime_58 (by decide) (fun c16 => ?_) (fun c17 => ?_)
        · exact hj15 x4 μ
        · refine z_aload_n (pc := 61) dX0_mostAtOneTime_61 rfl ?_
          refine z_iload_n (pc := 62) dX0_mostAtOneTime_62 rfl ?_
          refine z_iload (pc := 63) dX0_mostAtOneTime_63 rfl ?_
          refine z_callV (As := [.int x2, .int x5]) (pc := 65) (ret' := some .boolean) kvX0_41 (t0_areRivals _ _ _) (by decide) (nx_lt (by decide)) (sx_54 g)  rfl rfl (Nat.le_of_ble_eq_true rfl) dX0_mostAtOneTime_65 (fun v18 μ19 => ?_)
          refine z_if_eq (pc := 68) (tgt := 91) dX0_mostAtOneTime_68 (by decide) (fun c20 => ?_) (fun c21 => ?_)
          · exact hj15 x4 μ19
          · refine z_iload (pc := 71) dX0_mostAtOneTime_71 rfl ?_
            refine z_aload_n (pc := 73) dX0_mostAtOneTime_73 rfl ?_
            refine z_getr (pc := 74) fdX0_15 (nx_lt (by decide)) (sx_54 g) rfl rfl dX0_mostAtOneTime_74 ?_
            refine z_iload_n (pc := 77) dX0_mostAtOneTime_77 rfl ?_
            refine z_iconst (pc := 78) (1 : Int32) dX0_mostAtOneTime_78 (by decide) ?_
            refine z_iload (pc := 79) dX0_mostAtOneTime_79 rfl ?_
            refine z_ishl (pc := 81) dX0_mostAtOneTime_81 ?_
            refine z_ixor (pc := 82) dX0_mostAtOneTime_82 ?_
            refine z_iald (pc := 83) (nx_lt (by decide)) (sx_56 g) rfl dX0_mostAtOneTime_83 (fun h22 => ?_)
            refine z_iconst (pc := 84) (1 : Int32) dX0_mostAtOneTime_84 (by decide) ?_
            refine z_iadd (pc := 85) dX0_mostAtOneTime_85 ?_
            refine z_mmax (pc := 86) kmX0_48 (by decide) (Nat.le_of_ble_eq_true rfl) dX0_mostAtOneTime_86 ?_
            refine z_val (fun v23 => ?_)
            refine z_istore (pc := 89) (L' := [.ref 54, .int x1, .int x2, .int x3, .int v23, .int x5]) dX0_mostAtOneTime_89 (by decide) rfl ?_
            exact hj15 v23 μ19
set_option maxHeartbeats 1000000 in
theorem t0_mostAtOneTime_L9 {g : Bool} (K111 : zMem → zRes) (hK111 : ∀ (μ : zMem), zR yX0_mostAtOneTime cX0_mostAtOneTime 6 (some .int) 2 111 [.ref 54, .null, .null, .null, .null, .null] [] (nX g) (SX g) μ (K111 μ)) : ∀ (n : Nat) (x1 : Int32) (μ : zMem), zR yX0_mostAtOneTime cX0_mostAtOneTime 6 (some .int) 2 9 [.ref 54, .int x1, .null, .null, .null, .null] [] (nX g) (SX g) μ (f0_mostAtOneTime_L9 K111 n x1 μ) := by
  intro n
  induction n with
  | zero => intro x1 μ; intro q hq; cases hq
  | succ n ih =>
    intro x1 μ
    unfold f0_mostAtOneTime_L9
    refine z_iload_n (pc := 9) dX0_mostAtOneTime_9 rfl ?_
    refine z_iconst (pc := 10) (1 : Int32) dX0_mostAtOneTime_10 (by decide) ?_
    refine z_aload_n (pc := 11) dX0_mostAtOneTime_11 rfl ?_
    refine z_geti (pc := 12) fdX0_18 (nx_lt (by decide)) (sx_54 g) rfl dX0_mostAtOneTime_12 ?_
    refine z_ishl (pc := 15) dX0_mostAtOneTime_15 ?_
    refine z_icmp_ge (pc := 16) (tgt := 111) dX0_mostAtOneTime_16 (by decide) (fun c3 => ?_) (fun c4 => ?_)
    · refine z_loc (L' := [.ref 54, .null, .null, .null, .null, .null]) ⟨Or.inr rfl, ⟨Or.inl rfl, ⟨Or.inl rfl, ⟨Or.inl rfl, ⟨Or.inl rfl, ⟨Or.inl rfl, trivial⟩⟩⟩⟩⟩⟩ ?_
      exact hK111 μ
    · refine z_iload_n (pc := 19) dX0_mostAtOneTime_19 rfl ?_
      refine z_callS (As := [.int x1]) (pc := 20) (ret' := some .int) ksX0_45 (tJ6_numberOfTrailingZeros_0f7a4 _ _) (by decide)  rfl rfl (Nat.le_of_ble_eq_true rfl) dX0_mostAtOneTime_20 (fun v5 μ6 => ?_)
      refine z_istore_n (pc := 23) (L' := [.ref 54, .int x1, .int v5, .null, .null, .null]) dX0_mostAtOneTime_23 (by decide) rfl ?_
      refine z_iload_n (pc := 24) dX0_mostAtOneTime_24 rfl ?_
      refine z_iload_n (pc := 25) dX0_mostAtOneTime_25 rfl ?_
      refine z_iconst (pc := 26) (1 : Int32) dX0_mostAtOneTime_26 (by decide) ?_
      refine z_isub (pc := 27) dX0_mostAtOneTime_27 ?_
      refine z_iand (pc := 28) dX0_mostAtOneTime_28 ?_
      refine z_val (fun v7 => ?_)
      refine z_istore_n (pc := 29) (L' := [.ref 54, .int x1, .int v5, .int v7, .null, .null]) dX0_mostAtOneTime_29 (by decide) rfl ?_
      refine z_aload_n (pc := 30) dX0_mostAtOneTime_30 rfl ?_
      refine z_getr (pc := 31) fdX0_15 (nx_lt (by decide)) (sx_54 g) rfl rfl dX0_mostAtOneTime_31 ?_
      refine z_iload_n (pc := 34) dX0_mostAtOneTime_34 rfl ?_
      refine z_iald (pc := 35) (nx_lt (by decide)) (sx_56 g) rfl dX0_mostAtOneTime_35 (fun h8 => ?_)
      refine z_val (fun v9 => ?_)
      refine z_istore (pc := 36) (L' := [.ref 54, .int x1, .int v5, .int v7, .int v9, .null]) dX0_mostAtOneTime_36 (by decide) rfl ?_
      refine z_iload_n (pc := 38) dX0_mostAtOneTime_38 rfl ?_
      refine z_iconst (pc := 39) (1 : Int32) dX0_mostAtOneTime_39 (by decide) ?_
      refine z_iadd (pc := 40) dX0_mostAtOneTime_40 ?_
      refine z_val (fun v10 => ?_)
      refine z_istore (pc := 41) (L' := [.ref 54, .int x1, .int v5, .int v7, .int v9, .int v10]) dX0_mostAtOneTime_41 (by decide) rfl ?_
      refine t0_mostAtOneTime_L43 _ _ _ _ (fun x4_24 μ25 => ?_) zF _ _ _
      · refine z_aload_n (pc := 97) dX0_mostAtOneTime_97 rfl ?_
        refine z_getr (pc := 98) fdX0_15 (nx_lt (by decide)) (sx_54 g) rfl rfl dX0_mostAtOneTime_98 ?_
        refine z_iload_n (pc := 101) dX0_mostAtOneTime_101 rfl ?_
        refine z_iload (pc := 102) dX0_mostAtOneTime_102 rfl ?_
        refine z_iast (pc := 104) (nx_lt (by decide)) (sx_56 g) rfl dX0_mostAtOneTime_104 (fun h26 => ?_)
        refine z_mem (fun μ27 => ?_)
        refine z_iinc (pc := 105) (v := x1 + (1 : Int32)) (L' := [.ref 54, .int (x1 + (1 : Int32)), .null, .null, .int x4_24, .null]) dX0_mostAtOneTime_105 (by decide) rfl (congrArg _ (by decide)) rfl ?_
        refine z_goto (pc := 108) (tgt := 9) dX0_mostAtOneTime_108 (by decide) ?_
        refine z_loc (L' := [.ref 54, .int (x1 + (1 : Int32)), .null, .null, .null, .null]) ⟨Or.inr rfl, ⟨Or.inr rfl, ⟨Or.inl rfl, ⟨Or.inl rfl, ⟨Or.inl rfl, ⟨Or.inl rfl, trivial⟩⟩⟩⟩⟩⟩ ?_
        exact ih (x1 + (1 : Int32)) μ27
set_option maxHeartbeats 1000000 in
theorem t0_mostAtOneTime {g : Bool} (μ : zMem) : zMR yX0_mostAtOneTime cX0_mostAtOneTime 6 (some .int) 2 [.ref 54] (nX g) (SX g) μ (f0_mostAtOneTime μ) := by
  refine zMR_of (by decide +kernel) rfl (Nat.le_of_ble_eq_true rfl) (L := [.ref 54, .null, .null, .null, .null, .null]) rfl ?_
  unfold f0_mostAtOneTime
  refine z_aload_n (pc := 0) dX0_mostAtOneTime_0 rfl ?_
  refine z_getr (pc := 1) fdX0_15 (nx_lt (by decide)) (sx_54 g) rfl rfl dX0_mostAtOneTime_1 ?_
  refine z_iconst (pc := 4) (0 : Int32) dX0_mostAtOneTime_4 (by decide) ?_
  refine z_iconst (pc := 5) (0 : Int32) dX0_mostAtOneTime_5 (by decide) ?_
  refine z_iast (pc := 6) (nx_lt (by decide)) (sx_56 g) rfl dX0_mostAtOneTime_6 (fun h1 => ?_)
  refine z_mem (fun μ2 => ?_)
  refine z_iconst (pc := 7) (1 : Int32) dX0_mostAtOneTime_7 (by decide) ?_
  refine z_istore_n (pc := 8) (L' := [.ref 54, .int (1 : Int32), .null, .null, .null, .null]) dX0_mostAtOneTime_8 (by decide) rfl ?_
  refine t0_mostAtOneTime_L9 _ (fun μ28 => ?_) zF _ _
  · refine z_aload_n (pc := 111) dX0_mostAtOneTime_111 rfl ?_
    refine z_getr (pc := 112) fdX0_15 (nx_lt (by decide)) (sx_54 g) rfl rfl dX0_mostAtOneTime_112 ?_
    refine z_iconst (pc := 115) (1 : Int32) dX0_mostAtOneTime_115 (by decide) ?_
    refine z_aload_n (pc := 116) dX0_mostAtOneTime_116 rfl ?_
    refine z_geti (pc := 117) fdX0_18 (nx_lt (by decide)) (sx_54 g) rfl dX0_mostAtOneTime_117 ?_
    refine z_ishl (pc := 120) dX0_mostAtOneTime_120 ?_
    refine z_iconst (pc := 121) (1 : Int32) dX0_mostAtOneTime_121 (by decide) ?_
    refine z_isub (pc := 122) dX0_mostAtOneTime_122 ?_
    refine z_iald (pc := 123) (nx_lt (by decide)) (sx_56 g) rfl dX0_mostAtOneTime_123 (fun h29 => ?_)
    exact z_iret (pc := 124) rfl dX0_mostAtOneTime_124
def f0_isCalm_L2 (x1 : Int32) (μ : zMem) (K37 : zRes) (K29 : zRes) : Nat → Int32 → zRes
  | 0, _ => none
  | n + 1, x2 => if (μ 54 3) ≤ x2 then K37 else zlet (f0_isCalm_L2 x1 μ K37 K29 n (x2 + (1 : Int32))) (fun j3 => if ((zshr x1 x2) &&& (1 : Int32)) = 0 then j3 else zin x2 8 (if ((μ 55 x2.toNatClampNeg) &&& x1) = 0 then j3 else K29))
def f0_isCalm (x1 : Int32) (μ : zMem) : zRes := f0_isCalm_L2 x1 μ (some (0, (1 : Int32), μ)) (some (0, (0 : Int32), μ)) zF (0 : Int32)
set_option maxHeartbeats 1000000 in
theorem t0_isCalm_L2 {g : Bool} (x1 : Int32) (μ : zMem) (K37 : zRes) (K29 : zRes) (hK37 : zR yX0_isCalm cX0_isCalm 3 (some .boolean) 1 37 [.null, .null, .null] [] (nX g) (SX g) μ (K37)) (hK29 : zR yX0_isCalm cX0_isCalm 3 (some .boolean) 1 29 [.null, .null, .null] [] (nX g) (SX g) μ (K29)) : ∀ (n : Nat) (x2 : Int32), zR yX0_isCalm cX0_isCalm 3 (some .boolean) 1 2 [.ref 54, .int x1, .int x2] [] (nX g) (SX g) μ (f0_isCalm_L2 x1 μ K37 K29 n x2) := by
  intro n
  induction n with
  | zero => intro x2; intro q hq; cases hq
  | succ n ih =>
    intro x2
    unfold f0_isCalm_L2
    refine z_iload_n (pc := 2) dX0_isCalm_2 rfl ?_
    refine z_aload_n (pc := 3) dX0_isCalm_3 rfl ?_
    refine z_geti (pc := 4) fdX0_18 (nx_lt (by decide)) (sx_54 g) rfl dX0_isCalm_4 ?_
    refine z_icmp_ge (pc := 7) (tgt := 37) dX0_isCalm_7 (by decide) (fun c1 => ?_) (fun c2 => ?_)
    · refine z_loc (L' := [.null, .null, .null]) ⟨Or.inl rfl, ⟨Or.inl rfl, ⟨Or.inl rfl, trivial⟩⟩⟩ ?_
      exact hK37
    · refine z_iload_n (pc := 10) dX0_isCalm_10 rfl ?_
      refine z_iload_n (pc := 11) dX0_isCalm_11 rfl ?_
      refine z_ishr (pc := 12) dX0_isCalm_12 ?_
      refine z_iconst (pc := 13) (1 : Int32) dX0_isCalm_13 (by decide) ?_
      refine z_iand (pc := 14) dX0_isCalm_14 ?_
      refine z_let (fun (j : zRes) => zR yX0_isCalm cX0_isCalm 3 (some .boolean) 1 31 [.ref 54, .int x1, .int x2] [] (nX g) (SX g) μ (j)) ?_ (fun j3 hj3 => ?_)
      · refine z_iinc (pc := 31) (v := x2 + (1 : Int32)) (L' := [.ref 54, .int x1, .int (x2 + (1 : Int32))]) dX0_isCalm_31 (by decide) rfl (congrArg _ (by decide)) rfl ?_
        refine z_goto (pc := 34) (tgt := 2) dX0_isCalm_34 (by decide) ?_
        exact ih (x2 + (1 : Int32))
      · refine z_if_eq (pc := 15) (tgt := 31) dX0_isCalm_15 (by decide) (fun c4 => ?_) (fun c5 => ?_)
        · exact hj3
        · refine z_aload_n (pc := 18) dX0_isCalm_18 rfl ?_
          refine z_getr (pc := 19) fdX0_9 (nx_lt (by decide)) (sx_54 g) rfl rfl dX0_isCalm_19 ?_
          refine z_iload_n (pc := 22) dX0_isCalm_22 rfl ?_
          refine z_iald (pc := 23) (nx_lt (by decide)) (sx_55 g) rfl dX0_isCalm_23 (fun h6 => ?_)
          refine z_iload_n (pc := 24) dX0_isCalm_24 rfl ?_
          refine z_iand (pc := 25) dX0_isCalm_25 ?_
          refine z_if_eq (pc := 26) (tgt := 31) dX0_isCalm_26 (by decide) (fun c7 => ?_) (fun c8 => ?_)
          · exact hj3
          · refine z_loc (L' := [.null, .null, .null]) ⟨Or.inl rfl, ⟨Or.inl rfl, ⟨Or.inl rfl, trivial⟩⟩⟩ ?_
            exact hK29
set_option maxHeartbeats 1000000 in
theorem t0_isCalm {g : Bool} (x1 : Int32) (μ : zMem) : zMR yX0_isCalm cX0_isCalm 3 (some .boolean) 1 [.ref 54, .int x1] (nX g) (SX g) μ (f0_isCalm x1 μ) := by
  refine zMR_of (by decide +kernel) rfl (Nat.le_of_ble_eq_true rfl) (L := [.ref 54, .int x1, .null]) rfl ?_
  unfold f0_isCalm
  refine z_iconst (pc := 0) (0 : Int32) dX0_isCalm_0 (by decide) ?_
  refine z_istore_n (pc := 1) (L' := [.ref 54, .int x1, .int (0 : Int32)]) dX0_isCalm_1 (by decide) rfl ?_
  refine t0_isCalm_L2 _ _ _ _ (?_) (?_) zF _
  · refine z_iconst (pc := 37) (1 : Int32) dX0_isCalm_37 (by decide) ?_
    exact z_zretc (pc := 38) rfl (Or.inr rfl) dX0_isCalm_38
  · refine z_iconst (pc := 29) (0 : Int32) dX0_isCalm_29 (by decide) ?_
    exact z_zretc (pc := 30) rfl (Or.inl rfl) dX0_isCalm_30
def f0_greatestCalm_L4 (K41 : Int32 → zMem → zRes) : Nat → Int32 → Int32 → zMem → zRes
  | 0, _, _, _ => none
  | n + 1, x1, x2, μ => if (zshl (1 : Int32) (μ 54 3)) ≤ x2 then K41 x1 μ else bnd0 (fJ6_bitCount_0f7a4 x2 μ) (fun (v3 : Int32) (μ4 : zMem) => bnd0 (fJ6_bitCount_0f7a4 x1 μ4) (fun (v5 : Int32) (μ6 : zMem) => zlet (fun (x1_7 : Int32) (μ8 : zMem) => f0_greatestCalm_L4 K41 n x1_7 (x2 + (1 : Int32)) μ8) (fun j9 => if v3 ≤ v5 then j9 x1 μ6 else bnd0 (f0_isCalm x2 μ6) (fun (v12 : Int32) (μ13 : zMem) => if v12 = 0 then j9 x1 μ13 else j9 x2 μ13))))
def f0_greatestCalm (μ : zMem) : zRes := f0_greatestCalm_L4 (fun (x1_16 : Int32) (μ17 : zMem) => some (0, x1_16, μ17)) zF (0 : Int32) (0 : Int32) μ
set_option maxHeartbeats 1000000 in
theorem t0_greatestCalm_L4 {g : Bool} (K41 : Int32 → zMem → zRes) (hK41 : ∀ (x1 : Int32) (μ : zMem), zR yX0_greatestCalm cX0_greatestCalm 3 (some .int) 2 41 [.null, .int x1, .null] [] (nX g) (SX g) μ (K41 x1 μ)) : ∀ (n : Nat) (x1 : Int32) (x2 : Int32) (μ : zMem), zR yX0_greatestCalm cX0_greatestCalm 3 (some .int) 2 4 [.ref 54, .int x1, .int x2] [] (nX g) (SX g) μ (f0_greatestCalm_L4 K41 n x1 x2 μ) := by
  intro n
  induction n with
  | zero => intro x1 x2 μ; intro q hq; cases hq
  | succ n ih =>
    intro x1 x2 μ
    unfold f0_greatestCalm_L4
    refine z_iload_n (pc := 4) dX0_greatestCalm_4 rfl ?_
    refine z_iconst (pc := 5) (1 : Int32) dX0_greatestCalm_5 (by decide) ?_
    refine z_aload_n (pc := 6) dX0_greatestCalm_6 rfl ?_
    refine z_geti (pc := 7) fdX0_18 (nx_lt (by decide)) (sx_54 g) rfl dX0_greatestCalm_7 ?_
    refine z_ishl (pc := 10) dX0_greatestCalm_10 ?_
    refine z_icmp_ge (pc := 11) (tgt := 41) dX0_greatestCalm_11 (by decide) (fun c1 => ?_) (fun c2 => ?_)
    · refine z_loc (L' := [.null, .int x1, .null]) ⟨Or.inl rfl, ⟨Or.inr rfl, ⟨Or.inl rfl, trivial⟩⟩⟩ ?_
      exact hK41 x1 μ
    · refine z_iload_n (pc := 14) dX0_greatestCalm_14 rfl ?_
      refine z_callS (As := [.int x2]) (pc := 15) (ret' := some .int) ksX0_35 (tJ6_bitCount_0f7a4 _ _) (by decide)  rfl rfl (Nat.le_of_ble_eq_true rfl) dX0_greatestCalm_15 (fun v3 μ4 => ?_)
      refine z_iload_n (pc := 18) dX0_greatestCalm_18 rfl ?_
      refine z_callS (As := [.int x1]) (pc := 19) (ret' := some .int) ksX0_35 (tJ6_bitCount_0f7a4 _ _) (by decide)  rfl rfl (Nat.le_of_ble_eq_true rfl) dX0_greatestCalm_19 (fun v5 μ6 => ?_)
      refine z_let (fun (j : Int32 → zMem → zRes) => ∀ (x1_7 : Int32) (μ8 : zMem), zR yX0_greatestCalm cX0_greatestCalm 3 (some .int) 2 35 [.ref 54, .int x1_7, .int x2] [] (nX g) (SX g) μ8 (j x1_7 μ8)) ?_ (fun j9 hj9 => ?_)
      · intro x1_7 μ8
        refine z_iinc (pc := 35) (v := x2 + (1 : Int32)) (L' := [.ref 54, .int x1_7, .int (x2 + (1 : Int32))]) dX0_greatestCalm_35 (by decide) rfl (congrArg _ (by decide)) rfl ?_
        refine z_goto (pc := 38) (tgt := 4) dX0_greatestCalm_38 (by decide) ?_
        exact ih x1_7 (x2 + (1 : Int32)) μ8
      · refine z_icmp_le (pc := 22) (tgt := 35) dX0_greatestCalm_22 (by decide) (fun c10 => ?_) (fun c11 => ?_)
        · exact hj9 x1 μ6
        · refine z_aload_n (pc := 25) dX0_greatestCalm_25 rfl ?_
          refine z_iload_n (pc := 26) dX0_greatestCalm_26 rfl ?_
          refine z_callV (As := [.int x2]) (pc := 27) (ret' := some .boolean) kvX0_54 (t0_isCalm _ _) (by decide) (nx_lt (by decide)) (sx_54 g)  rfl rfl (Nat.le_of_ble_eq_true rfl) dX0_greatestCalm_27 (fun v12 μ13 => ?_)
          refine z_if_eq (pc := 30) (tgt := 35) dX0_greatestCalm_30 (by decide) (fun c14 => ?_) (fun c15 => ?_)
          · exact hj9 x1 μ13
          · refine z_iload_n (pc := 33) dX0_greatestCalm_33 rfl ?_
            refine z_istore_n (pc := 34) (L' := [.ref 54, .int x2, .int x2]) dX0_greatestCalm_34 (by decide) rfl ?_
            exact hj9 x2 μ13
set_option maxHeartbeats 1000000 in
theorem t0_greatestCalm {g : Bool} (μ : zMem) : zMR yX0_greatestCalm cX0_greatestCalm 3 (some .int) 2 [.ref 54] (nX g) (SX g) μ (f0_greatestCalm μ) := by
  refine zMR_of (by decide +kernel) rfl (Nat.le_of_ble_eq_true rfl) (L := [.ref 54, .null, .null]) rfl ?_
  unfold f0_greatestCalm
  refine z_iconst (pc := 0) (0 : Int32) dX0_greatestCalm_0 (by decide) ?_
  refine z_istore_n (pc := 1) (L' := [.ref 54, .int (0 : Int32), .null]) dX0_greatestCalm_1 (by decide) rfl ?_
  refine z_iconst (pc := 2) (0 : Int32) dX0_greatestCalm_2 (by decide) ?_
  refine z_istore_n (pc := 3) (L' := [.ref 54, .int (0 : Int32), .int (0 : Int32)]) dX0_greatestCalm_3 (by decide) rfl ?_
  refine t0_greatestCalm_L4 _ (fun x1_16 μ17 => ?_) zF _ _ _
  · refine z_iload_n (pc := 41) dX0_greatestCalm_41 rfl ?_
    exact z_iret (pc := 42) rfl dX0_greatestCalm_42
