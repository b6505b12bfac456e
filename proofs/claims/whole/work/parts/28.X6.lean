theorem dX6_forget_0 : decode cX6_forget 0 = .ok (.aload_n 0, 1) := by decide +kernel
theorem dX6_forget_1 : decode cX6_forget 1 = .ok (.iconst 0, 1) := by decide +kernel
theorem dX6_forget_2 : decode cX6_forget 2 = .ok (.putfield 9, 3) := by decide +kernel
theorem dX6_forget_5 : decode cX6_forget 5 = .ok (.aload_n 0, 1) := by decide +kernel
theorem dX6_forget_6 : decode cX6_forget 6 = .ok (.iconst (-1), 1) := by decide +kernel
theorem dX6_forget_7 : decode cX6_forget 7 = .ok (.putfield 15, 3) := by decide +kernel
theorem dX6_forget_10 : decode cX6_forget 10 = .ok (.aload_n 0, 1) := by decide +kernel
theorem dX6_forget_11 : decode cX6_forget 11 = .ok (.iconst (-1), 1) := by decide +kernel
theorem dX6_forget_12 : decode cX6_forget 12 = .ok (.putfield 18, 3) := by decide +kernel
theorem dX6_forget_15 : decode cX6_forget 15 = .ok (.return_, 1) := by decide +kernel
theorem dX6_seekFirst_0 : decode cX6_seekFirst 0 = .ok (.iconst 0, 1) := by decide +kernel
theorem dX6_seekFirst_1 : decode cX6_seekFirst 1 = .ok (.istore_n 1, 1) := by decide +kernel
theorem dX6_seekFirst_2 : decode cX6_seekFirst 2 = .ok (.iload_n 1, 1) := by decide +kernel
theorem dX6_seekFirst_3 : decode cX6_seekFirst 3 = .ok (.aload_n 0, 1) := by decide +kernel
theorem dX6_seekFirst_4 : decode cX6_seekFirst 4 = .ok (.getfield 21, 3) := by decide +kernel
theorem dX6_seekFirst_7 : decode cX6_seekFirst 7 = .ok (.getfield 61, 3) := by decide +kernel
theorem dX6_seekFirst_10 : decode cX6_seekFirst 10 = .ok (.if_icmp .ge 66, 3) := by decide +kernel
theorem dX6_seekFirst_13 : decode cX6_seekFirst 13 = .ok (.aload_n 0, 1) := by decide +kernel
theorem dX6_seekFirst_14 : decode cX6_seekFirst 14 = .ok (.getfield 21, 3) := by decide +kernel
theorem dX6_seekFirst_17 : decode cX6_seekFirst 17 = .ok (.getfield 66, 3) := by decide +kernel
theorem dX6_seekFirst_20 : decode cX6_seekFirst 20 = .ok (.iload_n 1, 1) := by decide +kernel
theorem dX6_seekFirst_21 : decode cX6_seekFirst 21 = .ok (.iaload, 1) := by decide +kernel
theorem dX6_seekFirst_22 : decode cX6_seekFirst 22 = .ok (.aload_n 0, 1) := by decide +kernel
theorem dX6_seekFirst_23 : decode cX6_seekFirst 23 = .ok (.getfield 9, 3) := by decide +kernel
theorem dX6_seekFirst_26 : decode cX6_seekFirst 26 = .ok (.if_icmp .le 14, 3) := by decide +kernel
theorem dX6_seekFirst_29 : decode cX6_seekFirst 29 = .ok (.aload_n 0, 1) := by decide +kernel
theorem dX6_seekFirst_30 : decode cX6_seekFirst 30 = .ok (.getfield 30, 3) := by decide +kernel
theorem dX6_seekFirst_33 : decode cX6_seekFirst 33 = .ok (.iload_n 1, 1) := by decide +kernel
theorem dX6_seekFirst_34 : decode cX6_seekFirst 34 = .ok (.invokevirtual 69, 3) := by decide +kernel
theorem dX6_seekFirst_37 : decode cX6_seekFirst 37 = .ok (.goto 4, 3) := by decide +kernel
theorem dX6_seekFirst_40 : decode cX6_seekFirst 40 = .ok (.iconst (-1), 1) := by decide +kernel
theorem dX6_seekFirst_41 : decode cX6_seekFirst 41 = .ok (.istore_n 2, 1) := by decide +kernel
theorem dX6_seekFirst_42 : decode cX6_seekFirst 42 = .ok (.iload_n 2, 1) := by decide +kernel
theorem dX6_seekFirst_43 : decode cX6_seekFirst 43 = .ok (.iconst (-1), 1) := by decide +kernel
theorem dX6_seekFirst_44 : decode cX6_seekFirst 44 = .ok (.if_icmp .eq 26, 3) := by decide +kernel
theorem dX6_seekFirst_47 : decode cX6_seekFirst 47 = .ok (.aload_n 0, 1) := by decide +kernel
theorem dX6_seekFirst_48 : decode cX6_seekFirst 48 = .ok (.aload_n 0, 1) := by decide +kernel
theorem dX6_seekFirst_49 : decode cX6_seekFirst 49 = .ok (.getfield 21, 3) := by decide +kernel
theorem dX6_seekFirst_52 : decode cX6_seekFirst 52 = .ok (.getfield 66, 3) := by decide +kernel
theorem dX6_seekFirst_55 : decode cX6_seekFirst 55 = .ok (.iload_n 1, 1) := by decide +kernel
theorem dX6_seekFirst_56 : decode cX6_seekFirst 56 = .ok (.iaload, 1) := by decide +kernel
theorem dX6_seekFirst_57 : decode cX6_seekFirst 57 = .ok (.putfield 9, 3) := by decide +kernel
theorem dX6_seekFirst_60 : decode cX6_seekFirst 60 = .ok (.aload_n 0, 1) := by decide +kernel
theorem dX6_seekFirst_61 : decode cX6_seekFirst 61 = .ok (.bipush 100, 2) := by decide +kernel
theorem dX6_seekFirst_63 : decode cX6_seekFirst 63 = .ok (.iload_n 1, 1) := by decide +kernel
theorem dX6_seekFirst_64 : decode cX6_seekFirst 64 = .ok (.imul, 1) := by decide +kernel
theorem dX6_seekFirst_65 : decode cX6_seekFirst 65 = .ok (.iload_n 2, 1) := by decide +kernel
theorem dX6_seekFirst_66 : decode cX6_seekFirst 66 = .ok (.iadd, 1) := by decide +kernel
theorem dX6_seekFirst_67 : decode cX6_seekFirst 67 = .ok (.putfield 15, 3) := by decide +kernel
theorem dX6_seekFirst_70 : decode cX6_seekFirst 70 = .ok (.iinc 1 1, 3) := by decide +kernel
theorem dX6_seekFirst_73 : decode cX6_seekFirst 73 = .ok (.goto (-71), 3) := by decide +kernel
theorem dX6_seekFirst_76 : decode cX6_seekFirst 76 = .ok (.return_, 1) := by decide +kernel
theorem dX6_goBehind_0 : decode cX6_goBehind 0 = .ok (.aload_n 0, 1) := by decide +kernel
theorem dX6_goBehind_1 : decode cX6_goBehind 1 = .ok (.getfield 34, 3) := by decide +kernel
theorem dX6_goBehind_4 : decode cX6_goBehind 4 = .ok (.aload_n 0, 1) := by decide +kernel
theorem dX6_goBehind_5 : decode cX6_goBehind 5 = .ok (.getfield 30, 3) := by decide +kernel
theorem dX6_goBehind_8 : decode cX6_goBehind 8 = .ok (.invokevirtual 40, 3) := by decide +kernel
theorem dX6_goBehind_11 : decode cX6_goBehind 11 = .ok (.aload_n 0, 1) := by decide +kernel
theorem dX6_goBehind_12 : decode cX6_goBehind 12 = .ok (.getfield 34, 3) := by decide +kernel
theorem dX6_goBehind_15 : decode cX6_goBehind 15 = .ok (.iload_n 1, 1) := by decide +kernel
theorem dX6_goBehind_16 : decode cX6_goBehind 16 = .ok (.iload_n 2, 1) := by decide +kernel
theorem dX6_goBehind_17 : decode cX6_goBehind 17 = .ok (.iload_n 3, 1) := by decide +kernel
theorem dX6_goBehind_18 : decode cX6_goBehind 18 = .ok (.invokevirtual 87, 3) := by decide +kernel
theorem dX6_goBehind_21 : decode cX6_goBehind 21 = .ok (.pop, 1) := by decide +kernel
theorem dX6_goBehind_22 : decode cX6_goBehind 22 = .ok (.iload 4, 2) := by decide +kernel
theorem dX6_goBehind_24 : decode cX6_goBehind 24 = .ok (.ifCond .eq 19, 3) := by decide +kernel
theorem dX6_goBehind_27 : decode cX6_goBehind 27 = .ok (.aload_n 0, 1) := by decide +kernel
theorem dX6_goBehind_28 : decode cX6_goBehind 28 = .ok (.getfield 34, 3) := by decide +kernel
theorem dX6_goBehind_31 : decode cX6_goBehind 31 = .ok (.aload_n 0, 1) := by decide +kernel
theorem dX6_goBehind_32 : decode cX6_goBehind 32 = .ok (.getfield 30, 3) := by decide +kernel
theorem dX6_goBehind_35 : decode cX6_goBehind 35 = .ok (.getfield 51, 3) := by decide +kernel
theorem dX6_goBehind_38 : decode cX6_goBehind 38 = .ok (.iconst 1, 1) := by decide +kernel
theorem dX6_goBehind_39 : decode cX6_goBehind 39 = .ok (.iadd, 1) := by decide +kernel
theorem dX6_goBehind_40 : decode cX6_goBehind 40 = .ok (.invokevirtual 54, 3) := by decide +kernel
theorem dX6_goBehind_43 : decode cX6_goBehind 43 = .ok (.return_, 1) := by decide +kernel
theorem dX6_seekSecond_0 : decode cX6_seekSecond 0 = .ok (.iload_n 1, 1) := by decide +kernel
theorem dX6_seekSecond_1 : decode cX6_seekSecond 1 = .ok (.iconst (-1), 1) := by decide +kernel
theorem dX6_seekSecond_2 : decode cX6_seekSecond 2 = .ok (.if_icmp .ne 7, 3) := by decide +kernel
theorem dX6_seekSecond_5 : decode cX6_seekSecond 5 = .ok (.iconst 0, 1) := by decide +kernel
theorem dX6_seekSecond_6 : decode cX6_seekSecond 6 = .ok (.goto 15, 3) := by decide +kernel
theorem dX6_seekSecond_9 : decode cX6_seekSecond 9 = .ok (.aload_n 0, 1) := by decide +kernel
theorem dX6_seekSecond_10 : decode cX6_seekSecond 10 = .ok (.getfield 21, 3) := by decide +kernel
theorem dX6_seekSecond_13 : decode cX6_seekSecond 13 = .ok (.getfield 66, 3) := by decide +kernel
theorem dX6_seekSecond_16 : decode cX6_seekSecond 16 = .ok (.iload_n 1, 1) := by decide +kernel
theorem dX6_seekSecond_17 : decode cX6_seekSecond 17 = .ok (.invokestatic 90, 3) := by decide +kernel
theorem dX6_seekSecond_20 : decode cX6_seekSecond 20 = .ok (.iaload, 1) := by decide +kernel
theorem dX6_seekSecond_21 : decode cX6_seekSecond 21 = .ok (.istore_n 2, 1) := by decide +kernel
theorem dX6_seekSecond_22 : decode cX6_seekSecond 22 = .ok (.iconst 0, 1) := by decide +kernel
theorem dX6_seekSecond_23 : decode cX6_seekSecond 23 = .ok (.istore_n 3, 1) := by decide +kernel
theorem dX6_seekSecond_24 : decode cX6_seekSecond 24 = .ok (.iload_n 3, 1) := by decide +kernel
theorem dX6_seekSecond_25 : decode cX6_seekSecond 25 = .ok (.aload_n 0, 1) := by decide +kernel
theorem dX6_seekSecond_26 : decode cX6_seekSecond 26 = .ok (.getfield 21, 3) := by decide +kernel
theorem dX6_seekSecond_29 : decode cX6_seekSecond 29 = .ok (.getfield 61, 3) := by decide +kernel
theorem dX6_seekSecond_32 : decode cX6_seekSecond 32 = .ok (.if_icmp .ge 78, 3) := by decide +kernel
theorem dX6_seekSecond_35 : decode cX6_seekSecond 35 = .ok (.iload_n 2, 1) := by decide +kernel
theorem dX6_seekSecond_36 : decode cX6_seekSecond 36 = .ok (.aload_n 0, 1) := by decide +kernel
theorem dX6_seekSecond_37 : decode cX6_seekSecond 37 = .ok (.getfield 21, 3) := by decide +kernel
theorem dX6_seekSecond_40 : decode cX6_seekSecond 40 = .ok (.getfield 66, 3) := by decide +kernel
theorem dX6_seekSecond_43 : decode cX6_seekSecond 43 = .ok (.iload_n 3, 1) := by decide +kernel
theorem dX6_seekSecond_44 : decode cX6_seekSecond 44 = .ok (.iaload, 1) := by decide +kernel
theorem dX6_seekSecond_45 : decode cX6_seekSecond 45 = .ok (.iadd, 1) := by decide +kernel
theorem dX6_seekSecond_46 : decode cX6_seekSecond 46 = .ok (.aload_n 0, 1) := by decide +kernel
theorem dX6_seekSecond_47 : decode cX6_seekSecond 47 = .ok (.getfield 9, 3) := by decide +kernel
theorem dX6_seekSecond_50 : decode cX6_seekSecond 50 = .ok (.if_icmp .le 14, 3) := by decide +kernel
theorem dX6_seekSecond_53 : decode cX6_seekSecond 53 = .ok (.aload_n 0, 1) := by decide +kernel
theorem dX6_seekSecond_54 : decode cX6_seekSecond 54 = .ok (.getfield 34, 3) := by decide +kernel
theorem dX6_seekSecond_57 : decode cX6_seekSecond 57 = .ok (.iload_n 3, 1) := by decide +kernel
theorem dX6_seekSecond_58 : decode cX6_seekSecond 58 = .ok (.invokevirtual 69, 3) := by decide +kernel
theorem dX6_seekSecond_61 : decode cX6_seekSecond 61 = .ok (.goto 4, 3) := by decide +kernel
theorem dX6_seekSecond_64 : decode cX6_seekSecond 64 = .ok (.iconst (-1), 1) := by decide +kernel
theorem dX6_seekSecond_65 : decode cX6_seekSecond 65 = .ok (.istore 4, 2) := by decide +kernel
theorem dX6_seekSecond_67 : decode cX6_seekSecond 67 = .ok (.iload 4, 2) := by decide +kernel
theorem dX6_seekSecond_69 : decode cX6_seekSecond 69 = .ok (.iconst (-1), 1) := by decide +kernel
theorem dX6_seekSecond_70 : decode cX6_seekSecond 70 = .ok (.if_icmp .eq 34, 3) := by decide +kernel
theorem dX6_seekSecond_73 : decode cX6_seekSecond 73 = .ok (.aload_n 0, 1) := by decide +kernel
theorem dX6_seekSecond_74 : decode cX6_seekSecond 74 = .ok (.iload_n 2, 1) := by decide +kernel
theorem dX6_seekSecond_75 : decode cX6_seekSecond 75 = .ok (.aload_n 0, 1) := by decide +kernel
theorem dX6_seekSecond_76 : decode cX6_seekSecond 76 = .ok (.getfield 21, 3) := by decide +kernel
theorem dX6_seekSecond_79 : decode cX6_seekSecond 79 = .ok (.getfield 66, 3) := by decide +kernel
theorem dX6_seekSecond_82 : decode cX6_seekSecond 82 = .ok (.iload_n 3, 1) := by decide +kernel
theorem dX6_seekSecond_83 : decode cX6_seekSecond 83 = .ok (.iaload, 1) := by decide +kernel
theorem dX6_seekSecond_84 : decode cX6_seekSecond 84 = .ok (.iadd, 1) := by decide +kernel
theorem dX6_seekSecond_85 : decode cX6_seekSecond 85 = .ok (.putfield 9, 3) := by decide +kernel
theorem dX6_seekSecond_88 : decode cX6_seekSecond 88 = .ok (.aload_n 0, 1) := by decide +kernel
theorem dX6_seekSecond_89 : decode cX6_seekSecond 89 = .ok (.iload_n 1, 1) := by decide +kernel
theorem dX6_seekSecond_90 : decode cX6_seekSecond 90 = .ok (.putfield 15, 3) := by decide +kernel
theorem dX6_seekSecond_93 : decode cX6_seekSecond 93 = .ok (.aload_n 0, 1) := by decide +kernel
theorem dX6_seekSecond_94 : decode cX6_seekSecond 94 = .ok (.bipush 100, 2) := by decide +kernel
theorem dX6_seekSecond_96 : decode cX6_seekSecond 96 = .ok (.iload_n 3, 1) := by decide +kernel
theorem dX6_seekSecond_97 : decode cX6_seekSecond 97 = .ok (.imul, 1) := by decide +kernel
theorem dX6_seekSecond_98 : decode cX6_seekSecond 98 = .ok (.iload 4, 2) := by decide +kernel
theorem dX6_seekSecond_100 : decode cX6_seekSecond 100 = .ok (.iadd, 1) := by decide +kernel
theorem dX6_seekSecond_101 : decode cX6_seekSecond 101 = .ok (.putfield 18, 3) := by decide +kernel
theorem dX6_seekSecond_104 : decode cX6_seekSecond 104 = .ok (.iinc 3 1, 3) := by decide +kernel
theorem dX6_seekSecond_107 : decode cX6_seekSecond 107 = .ok (.goto (-83), 3) := by decide +kernel
theorem dX6_seekSecond_110 : decode cX6_seekSecond 110 = .ok (.return_, 1) := by decide +kernel
theorem dX6_seekTwo_0 : decode cX6_seekTwo 0 = .ok (.iconst 0, 1) := by decide +kernel
theorem dX6_seekTwo_1 : decode cX6_seekTwo 1 = .ok (.istore_n 2, 1) := by decide +kernel
theorem dX6_seekTwo_2 : decode cX6_seekTwo 2 = .ok (.iload_n 2, 1) := by decide +kernel
theorem dX6_seekTwo_3 : decode cX6_seekTwo 3 = .ok (.aload_n 0, 1) := by decide +kernel
theorem dX6_seekTwo_4 : decode cX6_seekTwo 4 = .ok (.getfield 21, 3) := by decide +kernel
theorem dX6_seekTwo_7 : decode cX6_seekTwo 7 = .ok (.getfield 61, 3) := by decide +kernel
theorem dX6_seekTwo_10 : decode cX6_seekTwo 10 = .ok (.if_icmp .ge 85, 3) := by decide +kernel
theorem dX6_seekTwo_13 : decode cX6_seekTwo 13 = .ok (.iconst 0, 1) := by decide +kernel
theorem dX6_seekTwo_14 : decode cX6_seekTwo 14 = .ok (.istore_n 3, 1) := by decide +kernel
theorem dX6_seekTwo_15 : decode cX6_seekTwo 15 = .ok (.iload_n 3, 1) := by decide +kernel
theorem dX6_seekTwo_16 : decode cX6_seekTwo 16 = .ok (.aload_n 0, 1) := by decide +kernel
theorem dX6_seekTwo_17 : decode cX6_seekTwo 17 = .ok (.getfield 30, 3) := by decide +kernel
theorem dX6_seekTwo_20 : decode cX6_seekTwo 20 = .ok (.getfield 73, 3) := by decide +kernel
theorem dX6_seekTwo_23 : decode cX6_seekTwo 23 = .ok (.if_icmp .ge 66, 3) := by decide +kernel
theorem dX6_seekTwo_26 : decode cX6_seekTwo 26 = .ok (.iload_n 3, 1) := by decide +kernel
theorem dX6_seekTwo_27 : decode cX6_seekTwo 27 = .ok (.iconst 1, 1) := by decide +kernel
theorem dX6_seekTwo_28 : decode cX6_seekTwo 28 = .ok (.iadd, 1) := by decide +kernel
theorem dX6_seekTwo_29 : decode cX6_seekTwo 29 = .ok (.istore 4, 2) := by decide +kernel
theorem dX6_seekTwo_31 : decode cX6_seekTwo 31 = .ok (.iload 4, 2) := by decide +kernel
theorem dX6_seekTwo_33 : decode cX6_seekTwo 33 = .ok (.aload_n 0, 1) := by decide +kernel
theorem dX6_seekTwo_34 : decode cX6_seekTwo 34 = .ok (.getfield 30, 3) := by decide +kernel
theorem dX6_seekTwo_37 : decode cX6_seekTwo 37 = .ok (.getfield 73, 3) := by decide +kernel
theorem dX6_seekTwo_40 : decode cX6_seekTwo 40 = .ok (.if_icmp .ge 43, 3) := by decide +kernel
theorem dX6_seekTwo_43 : decode cX6_seekTwo 43 = .ok (.aload_n 0, 1) := by decide +kernel
theorem dX6_seekTwo_44 : decode cX6_seekTwo 44 = .ok (.getfield 30, 3) := by decide +kernel
theorem dX6_seekTwo_47 : decode cX6_seekTwo 47 = .ok (.iload_n 2, 1) := by decide +kernel
theorem dX6_seekTwo_48 : decode cX6_seekTwo 48 = .ok (.iload_n 3, 1) := by decide +kernel
theorem dX6_seekTwo_49 : decode cX6_seekTwo 49 = .ok (.iload 4, 2) := by decide +kernel
theorem dX6_seekTwo_51 : decode cX6_seekTwo 51 = .ok (.invokevirtual 76, 3) := by decide +kernel
theorem dX6_seekTwo_54 : decode cX6_seekTwo 54 = .ok (.ifCond .ne 23, 3) := by decide +kernel
theorem dX6_seekTwo_57 : decode cX6_seekTwo 57 = .ok (.aload_n 0, 1) := by decide +kernel
theorem dX6_seekTwo_58 : decode cX6_seekTwo 58 = .ok (.iload_n 2, 1) := by decide +kernel
theorem dX6_seekTwo_59 : decode cX6_seekTwo 59 = .ok (.iload_n 3, 1) := by decide +kernel
theorem dX6_seekTwo_60 : decode cX6_seekTwo 60 = .ok (.iload 4, 2) := by decide +kernel
theorem dX6_seekTwo_62 : decode cX6_seekTwo 62 = .ok (.iload_n 1, 1) := by decide +kernel
theorem dX6_seekTwo_63 : decode cX6_seekTwo 63 = .ok (.invokevirtual 80, 3) := by decide +kernel
theorem dX6_seekTwo_66 : decode cX6_seekTwo 66 = .ok (.aload_n 0, 1) := by decide +kernel
theorem dX6_seekTwo_67 : decode cX6_seekTwo 67 = .ok (.iload_n 2, 1) := by decide +kernel
theorem dX6_seekTwo_68 : decode cX6_seekTwo 68 = .ok (.iload_n 3, 1) := by decide +kernel
theorem dX6_seekTwo_69 : decode cX6_seekTwo 69 = .ok (.iload 4, 2) := by decide +kernel
theorem dX6_seekTwo_71 : decode cX6_seekTwo 71 = .ok (.invokestatic 84, 3) := by decide +kernel
theorem dX6_seekTwo_74 : decode cX6_seekTwo 74 = .ok (.invokevirtual 58, 3) := by decide +kernel
theorem dX6_seekTwo_77 : decode cX6_seekTwo 77 = .ok (.iinc 4 1, 3) := by decide +kernel
theorem dX6_seekTwo_80 : decode cX6_seekTwo 80 = .ok (.goto (-49), 3) := by decide +kernel
theorem dX6_seekTwo_83 : decode cX6_seekTwo 83 = .ok (.iinc 3 1, 3) := by decide +kernel
theorem dX6_seekTwo_86 : decode cX6_seekTwo 86 = .ok (.goto (-71), 3) := by decide +kernel
theorem dX6_seekTwo_89 : decode cX6_seekTwo 89 = .ok (.iinc 2 1, 3) := by decide +kernel
theorem dX6_seekTwo_92 : decode cX6_seekTwo 92 = .ok (.goto (-90), 3) := by decide +kernel
theorem dX6_seekTwo_95 : decode cX6_seekTwo 95 = .ok (.return_, 1) := by decide +kernel
theorem dX6_seekBestRow_0 : decode cX6_seekBestRow 0 = .ok (.aload_n 0, 1) := by decide +kernel
theorem dX6_seekBestRow_1 : decode cX6_seekBestRow 1 = .ok (.invokevirtual 37, 3) := by decide +kernel
theorem dX6_seekBestRow_4 : decode cX6_seekBestRow 4 = .ok (.aload_n 0, 1) := by decide +kernel
theorem dX6_seekBestRow_5 : decode cX6_seekBestRow 5 = .ok (.getfield 30, 3) := by decide +kernel
theorem dX6_seekBestRow_8 : decode cX6_seekBestRow 8 = .ok (.aload_n 1, 1) := by decide +kernel
theorem dX6_seekBestRow_9 : decode cX6_seekBestRow 9 = .ok (.invokevirtual 40, 3) := by decide +kernel
theorem dX6_seekBestRow_12 : decode cX6_seekBestRow 12 = .ok (.aload_n 0, 1) := by decide +kernel
theorem dX6_seekBestRow_13 : decode cX6_seekBestRow 13 = .ok (.invokevirtual 44, 3) := by decide +kernel
theorem dX6_seekBestRow_16 : decode cX6_seekBestRow 16 = .ok (.aload_n 0, 1) := by decide +kernel
theorem dX6_seekBestRow_17 : decode cX6_seekBestRow 17 = .ok (.iconst 0, 1) := by decide +kernel
theorem dX6_seekBestRow_18 : decode cX6_seekBestRow 18 = .ok (.invokevirtual 47, 3) := by decide +kernel
theorem dX6_seekBestRow_21 : decode cX6_seekBestRow 21 = .ok (.return_, 1) := by decide +kernel
theorem dX6_answer_0 : decode cX6_answer 0 = .ok (.iload_n 1, 1) := by decide +kernel
theorem dX6_answer_1 : decode cX6_answer 1 = .ok (.lookupswitch 37 #[(0, 27), (1, 32)], 27) := by decide +kernel
theorem dX6_answer_28 : decode cX6_answer 28 = .ok (.aload_n 0, 1) := by decide +kernel
theorem dX6_answer_29 : decode cX6_answer 29 = .ok (.getfield 9, 3) := by decide +kernel
theorem dX6_answer_32 : decode cX6_answer 32 = .ok (.ireturn, 1) := by decide +kernel
theorem dX6_answer_33 : decode cX6_answer 33 = .ok (.aload_n 0, 1) := by decide +kernel
theorem dX6_answer_34 : decode cX6_answer 34 = .ok (.getfield 15, 3) := by decide +kernel
theorem dX6_answer_37 : decode cX6_answer 37 = .ok (.ireturn, 1) := by decide +kernel
theorem dX6_answer_38 : decode cX6_answer 38 = .ok (.aload_n 0, 1) := by decide +kernel
theorem dX6_answer_39 : decode cX6_answer 39 = .ok (.getfield 18, 3) := by decide +kernel
theorem dX6_answer_42 : decode cX6_answer 42 = .ok (.ireturn, 1) := by decide +kernel
theorem dX6_seekTwoDays_0 : decode cX6_seekTwoDays 0 = .ok (.aload_n 0, 1) := by decide +kernel
theorem dX6_seekTwoDays_1 : decode cX6_seekTwoDays 1 = .ok (.invokevirtual 37, 3) := by decide +kernel
theorem dX6_seekTwoDays_4 : decode cX6_seekTwoDays 4 = .ok (.aload_n 0, 1) := by decide +kernel
theorem dX6_seekTwoDays_5 : decode cX6_seekTwoDays 5 = .ok (.getfield 30, 3) := by decide +kernel
theorem dX6_seekTwoDays_8 : decode cX6_seekTwoDays 8 = .ok (.aload_n 1, 1) := by decide +kernel
theorem dX6_seekTwoDays_9 : decode cX6_seekTwoDays 9 = .ok (.invokevirtual 40, 3) := by decide +kernel
theorem dX6_seekTwoDays_12 : decode cX6_seekTwoDays 12 = .ok (.aload_n 0, 1) := by decide +kernel
theorem dX6_seekTwoDays_13 : decode cX6_seekTwoDays 13 = .ok (.invokevirtual 44, 3) := by decide +kernel
theorem dX6_seekTwoDays_16 : decode cX6_seekTwoDays 16 = .ok (.aload_n 1, 1) := by decide +kernel
theorem dX6_seekTwoDays_17 : decode cX6_seekTwoDays 17 = .ok (.getfield 51, 3) := by decide +kernel
theorem dX6_seekTwoDays_20 : decode cX6_seekTwoDays 20 = .ok (.bipush 29, 2) := by decide +kernel
theorem dX6_seekTwoDays_22 : decode cX6_seekTwoDays 22 = .ok (.if_icmp .lt 4, 3) := by decide +kernel
theorem dX6_seekTwoDays_25 : decode cX6_seekTwoDays 25 = .ok (.return_, 1) := by decide +kernel
theorem dX6_seekTwoDays_26 : decode cX6_seekTwoDays 26 = .ok (.aload_n 0, 1) := by decide +kernel
theorem dX6_seekTwoDays_27 : decode cX6_seekTwoDays 27 = .ok (.getfield 34, 3) := by decide +kernel
theorem dX6_seekTwoDays_30 : decode cX6_seekTwoDays 30 = .ok (.aload_n 1, 1) := by decide +kernel
theorem dX6_seekTwoDays_31 : decode cX6_seekTwoDays 31 = .ok (.invokevirtual 40, 3) := by decide +kernel
theorem dX6_seekTwoDays_34 : decode cX6_seekTwoDays 34 = .ok (.aload_n 0, 1) := by decide +kernel
theorem dX6_seekTwoDays_35 : decode cX6_seekTwoDays 35 = .ok (.getfield 34, 3) := by decide +kernel
theorem dX6_seekTwoDays_38 : decode cX6_seekTwoDays 38 = .ok (.aload_n 1, 1) := by decide +kernel
theorem dX6_seekTwoDays_39 : decode cX6_seekTwoDays 39 = .ok (.getfield 51, 3) := by decide +kernel
theorem dX6_seekTwoDays_42 : decode cX6_seekTwoDays 42 = .ok (.iconst 1, 1) := by decide +kernel
theorem dX6_seekTwoDays_43 : decode cX6_seekTwoDays 43 = .ok (.iadd, 1) := by decide +kernel
theorem dX6_seekTwoDays_44 : decode cX6_seekTwoDays 44 = .ok (.invokevirtual 54, 3) := by decide +kernel
theorem dX6_seekTwoDays_47 : decode cX6_seekTwoDays 47 = .ok (.aload_n 0, 1) := by decide +kernel
theorem dX6_seekTwoDays_48 : decode cX6_seekTwoDays 48 = .ok (.iconst (-1), 1) := by decide +kernel
theorem dX6_seekTwoDays_49 : decode cX6_seekTwoDays 49 = .ok (.invokevirtual 58, 3) := by decide +kernel
theorem dX6_seekTwoDays_52 : decode cX6_seekTwoDays 52 = .ok (.aload_n 0, 1) := by decide +kernel
theorem dX6_seekTwoDays_53 : decode cX6_seekTwoDays 53 = .ok (.iconst 1, 1) := by decide +kernel
theorem dX6_seekTwoDays_54 : decode cX6_seekTwoDays 54 = .ok (.invokevirtual 47, 3) := by decide +kernel
theorem dX6_seekTwoDays_57 : decode cX6_seekTwoDays 57 = .ok (.return_, 1) := by decide +kernel
def f6_forget (μ : zMem) : zRes := zlet (zset μ 58 3 (0 : Int32)) (fun (μ1 : zMem) => zlet (zset μ1 58 4 (-1 : Int32)) (fun (μ2 : zMem) => zlet (zset μ2 58 5 (-1 : Int32)) (fun (μ3 : zMem) => some (0, 0, μ3))))
set_option maxHeartbeats 1000000 in
theorem t6_forget {g : Bool} (μ : zMem) : zMR yX6_forget cX6_forget 1 (none) 1 [.ref 58] (nX g) (SX g) μ (f6_forget μ) := by
  refine zMR_of (by decide +kernel) rfl (Nat.le_of_ble_eq_true rfl) (L := [.ref 58]) rfl ?_
  unfold f6_forget
  refine z_aload_n (pc := 0) dX6_forget_0 rfl ?_
  refine z_iconst (pc := 1) (0 : Int32) dX6_forget_1 (by decide) ?_
  refine z_puti (pc := 2) fdX6_9 (nx_lt (by decide)) (sx_58 g) rfl rfl dX6_forget_2 ?_
  refine z_mem (fun μ1 => ?_)
  refine z_aload_n (pc := 5) dX6_forget_5 rfl ?_
  refine z_iconst (pc := 6) (-1 : Int32) dX6_forget_6 (by decide) ?_
  refine z_puti (pc := 7) fdX6_15 (nx_lt (by decide)) (sx_58 g) rfl rfl dX6_forget_7 ?_
  refine z_mem (fun μ2 => ?_)
  refine z_aload_n (pc := 10) dX6_forget_10 rfl ?_
  refine z_iconst (pc := 11) (-1 : Int32) dX6_forget_11 (by decide) ?_
  refine z_puti (pc := 12) fdX6_18 (nx_lt (by decide)) (sx_58 g) rfl rfl dX6_forget_12 ?_
  refine z_mem (fun μ3 => ?_)
  exact z_vret (pc := 15) rfl dX6_forget_15
def f6_seekFirst_L2 (K76 : zMem → zRes) : Nat → Int32 → zMem → zRes
  | 0, _, _ => none
  | n + 1, x1, μ => if (μ 2 2) ≤ x1 then K76 μ else zin x1 10 (zlet (fun (s4 : Int32) (μ5 : zMem) => zlet (fun (μ6 : zMem) => f6_seekFirst_L2 K76 n (x1 + (1 : Int32)) μ6) (fun j7 => if s4 = (-1 : Int32) then j7 μ5 else zin x1 10 (zlet (zset μ5 58 3 (μ5 8 x1.toNatClampNeg)) (fun (μ11 : zMem) => zlet (zset μ11 58 4 (((100 : Int32) * x1) + s4)) (fun (μ12 : zMem) => j7 μ12))))) (fun j13 => if (μ 8 x1.toNatClampNeg) ≤ (μ 58 3) then j13 (-1 : Int32) μ else bnd0 (f5_firstTwo 59 x1 μ) (fun (v16 : Int32) (μ17 : zMem) => j13 v16 μ17)))
def f6_seekFirst (μ : zMem) : zRes := f6_seekFirst_L2 (fun (μ18 : zMem) => some (0, 0, μ18)) zF (0 : Int32) μ
set_option maxHeartbeats 1000000 in
theorem t6_seekFirst_L2 {g : Bool} (K76 : zMem → zRes) (hK76 : ∀ (μ : zMem), zR yX6_seekFirst cX6_seekFirst 3 (none) 4 76 [.null, .null, .null] [] (nX g) (SX g) μ (K76 μ)) : ∀ (n : Nat) (x1 : Int32) (μ : zMem), zR yX6_seekFirst cX6_seekFirst 3 (none) 4 2 [.ref 58, .int x1, .null] [] (nX g) (SX g) μ (f6_seekFirst_L2 K76 n x1 μ) := by
  intro n
  induction n with
  | zero => intro x1 μ; intro q hq; cases hq
  | succ n ih =>
    intro x1 μ
    unfold f6_seekFirst_L2
    refine z_iload_n (pc := 2) dX6_seekFirst_2 rfl ?_
    refine z_aload_n (pc := 3) dX6_seekFirst_3 rfl ?_
    refine z_getr (pc := 4) fdX6_21 (nx_lt (by decide)) (sx_58 g) rfl rfl dX6_seekFirst_4 ?_
    refine z_geti (pc := 7) fdX6_61 (nx_lt (by decide)) (sx_2 g) rfl dX6_seekFirst_7 ?_
    refine z_icmp_ge (pc := 10) (tgt := 76) dX6_seekFirst_10 (by decide) (fun c1 => ?_) (fun c2 => ?_)
    · refine z_loc (L' := [.null, .null, .null]) ⟨Or.inl rfl, ⟨Or.inl rfl, ⟨Or.inl rfl, trivial⟩⟩⟩ ?_
      exact hK76 μ
    · refine z_aload_n (pc := 13) dX6_seekFirst_13 rfl ?_
      refine z_getr (pc := 14) fdX6_21 (nx_lt (by decide)) (sx_58 g) rfl rfl dX6_seekFirst_14 ?_
      refine z_getr (pc := 17) fdX6_66 (nx_lt (by decide)) (sx_2 g) rfl rfl dX6_seekFirst_17 ?_
      refine z_iload_n (pc := 20) dX6_seekFirst_20 rfl ?_
      refine z_iald (pc := 21) (nx_lt (by decide)) (sx_8 g) rfl dX6_seekFirst_21 (fun h3 => ?_)
      refine z_aload_n (pc := 22) dX6_seekFirst_22 rfl ?_
      refine z_geti (pc := 23) fdX6_9 (nx_lt (by decide)) (sx_58 g) rfl dX6_seekFirst_23 ?_
      refine z_let (fun (j : Int32 → zMem → zRes) => ∀ (s4 : Int32) (μ5 : zMem), zR yX6_seekFirst cX6_seekFirst 3 (none) 4 41 [.ref 58, .int x1, .null] [.int s4] (nX g) (SX g) μ5 (j s4 μ5)) ?_ (fun j13 hj13 => ?_)
      · intro s4 μ5
        refine z_istore_n (pc := 41) (L' := [.ref 58, .int x1, .int s4]) dX6_seekFirst_41 (by decide) rfl ?_
        refine z_iload_n (pc := 42) dX6_seekFirst_42 rfl ?_
        refine z_iconst (pc := 43) (-1 : Int32) dX6_seekFirst_43 (by decide) ?_
        refine z_let (fun (j : zMem → zRes) => ∀ (μ6 : zMem), zR yX6_seekFirst cX6_seekFirst 3 (none) 4 70 [.ref 58, .int x1, .null] [] (nX g) (SX g) μ6 (j μ6)) ?_ (fun j7 hj7 => ?_)
        · intro μ6
          refine z_iinc (pc := 70) (v := x1 + (1 : Int32)) (L' := [.ref 58, .int (x1 + (1 : Int32)), .null]) dX6_seekFirst_70 (by decide) rfl (congrArg _ (by decide)) rfl ?_
          refine z_goto (pc := 73) (tgt := 2) dX6_seekFirst_73 (by decide) ?_
          exact ih (x1 + (1 : Int32)) μ6
        · refine z_icmp_eq (pc := 44) (tgt := 70) dX6_seekFirst_44 (by decide) (fun c8 => ?_) (fun c9 => ?_)
          · refine z_loc (L' := [.ref 58, .int x1, .null]) ⟨Or.inr rfl, ⟨Or.inr rfl, ⟨Or.inl rfl, trivial⟩⟩⟩ ?_
            exact hj7 μ5
          · refine z_aload_n (pc := 47) dX6_seekFirst_47 rfl ?_
            refine z_aload_n (pc := 48) dX6_seekFirst_48 rfl ?_
            refine z_getr (pc := 49) fdX6_21 (nx_lt (by decide)) (sx_58 g) rfl rfl dX6_seekFirst_49 ?_
            refine z_getr (pc := 52) fdX6_66 (nx_lt (by decide)) (sx_2 g) rfl rfl dX6_seekFirst_52 ?_
            refine z_iload_n (pc := 55) dX6_seekFirst_55 rfl ?_
            refine z_iald (pc := 56) (nx_lt (by decide)) (sx_8 g) rfl dX6_seekFirst_56 (fun h10 => ?_)
            refine z_puti (pc := 57) fdX6_9 (nx_lt (by decide)) (sx_58 g) rfl rfl dX6_seekFirst_57 ?_
            refine z_mem (fun μ11 => ?_)
            refine z_aload_n (pc := 60) dX6_seekFirst_60 rfl ?_
            refine z_bipush (pc := 61) (100 : Int32) dX6_seekFirst_61 (by decide) ?_
            refine z_iload_n (pc := 63) dX6_seekFirst_63 rfl ?_
            refine z_imul (pc := 64) dX6_seekFirst_64 ?_
            refine z_iload_n (pc := 65) dX6_seekFirst_65 rfl ?_
            refine z_iadd (pc := 66) dX6_seekFirst_66 ?_
            refine z_puti (pc := 67) fdX6_15 (nx_lt (by decide)) (sx_58 g) rfl rfl dX6_seekFirst_67 ?_
            refine z_mem (fun μ12 => ?_)
            refine z_loc (L' := [.ref 58, .int x1, .null]) ⟨Or.inr rfl, ⟨Or.inr rfl, ⟨Or.inl rfl, trivial⟩⟩⟩ ?_
            exact hj7 μ12
      · refine z_icmp_le (pc := 26) (tgt := 40) dX6_seekFirst_26 (by decide) (fun c14 => ?_) (fun c15 => ?_)
        · refine z_iconst (pc := 40) (-1 : Int32) dX6_seekFirst_40 (by decide) ?_
          exact hj13 (-1 : Int32) μ
        · refine z_aload_n (pc := 29) dX6_seekFirst_29 rfl ?_
          refine z_getr (pc := 30) fdX6_30 (nx_lt (by decide)) (sx_58 g) rfl rfl dX6_seekFirst_30 ?_
          refine z_iload_n (pc := 33) dX6_seekFirst_33 rfl ?_
          refine z_callV (As := [.int x1]) (pc := 34) (ret' := some .int) kvX6_69 (t5_firstTwo zSc_59 _ _) (by decide) (nx_lt (by decide)) (sx_59 g)  rfl rfl (Nat.le_of_ble_eq_true rfl) dX6_seekFirst_34 (fun v16 μ17 => ?_)
          refine z_goto (pc := 37) (tgt := 41) dX6_seekFirst_37 (by decide) ?_
          exact hj13 v16 μ17
set_option maxHeartbeats 1000000 in
theorem t6_seekFirst {g : Bool} (μ : zMem) : zMR yX6_seekFirst cX6_seekFirst 3 (none) 4 [.ref 58] (nX g) (SX g) μ (f6_seekFirst μ) := by
  refine zMR_of (by decide +kernel) rfl (Nat.le_of_ble_eq_true rfl) (L := [.ref 58, .null, .null]) rfl ?_
  unfold f6_seekFirst
  refine z_iconst (pc := 0) (0 : Int32) dX6_seekFirst_0 (by decide) ?_
  refine z_istore_n (pc := 1) (L' := [.ref 58, .int (0 : Int32), .null]) dX6_seekFirst_1 (by decide) rfl ?_
  refine t6_seekFirst_L2 _ (fun μ18 => ?_) zF _ _
  · exact z_vret (pc := 76) rfl dX6_seekFirst_76
def f6_goBehind (x1 : Int32) (x2 : Int32) (x3 : Int32) (x4 : Int32) (μ : zMem) : zRes := bnd0 (f5_copyWorld 64 59 μ) (fun (v1 : Int32) (μ2 : zMem) => bnd0 (f5_doWork 64 x1 x2 x3 μ2) (fun (v3 : Int32) (μ4 : zMem) => zlet (fun (μ5 : zMem) => some (0, 0, μ5)) (fun j6 => if x4 = 0 then j6 μ4 else bnd0 (f5_beginDay 64 ((μ4 59 1) + (1 : Int32)) μ4) (fun (v9 : Int32) (μ10 : zMem) => j6 μ10))))
set_option maxHeartbeats 1000000 in
theorem t6_goBehind {g : Bool} (x1 : Int32) (x2 : Int32) (x3 : Int32) (x4 : Int32) (μ : zMem) : zMR yX6_goBehind cX6_goBehind 5 (none) 4 [.ref 58, .int x1, .int x2, .int x3, .int x4] (nX g) (SX g) μ (f6_goBehind x1 x2 x3 x4 μ) := by
  refine zMR_of (by decide +kernel) rfl (Nat.le_of_ble_eq_true rfl) (L := [.ref 58, .int x1, .int x2, .int x3, .int x4]) rfl ?_
  unfold f6_goBehind
  refine z_aload_n (pc := 0) dX6_goBehind_0 rfl ?_
  refine z_getr (pc := 1) fdX6_34 (nx_lt (by decide)) (sx_58 g) rfl rfl dX6_goBehind_1 ?_
  refine z_aload_n (pc := 4) dX6_goBehind_4 rfl ?_
  refine z_getr (pc := 5) fdX6_30 (nx_lt (by decide)) (sx_58 g) rfl rfl dX6_goBehind_5 ?_
  refine z_callV (As := [.ref 59]) (pc := 8) (ret' := none) kvX6_40 (t5_copyWorld zSc_64 zSc_59 _) (by decide) (nx_lt (by decide)) (sx_64 g)  rfl rfl (Nat.le_of_ble_eq_true rfl) dX6_goBehind_8 (fun v1 μ2 => ?_)
  refine z_aload_n (pc := 11) dX6_goBehind_11 rfl ?_
  refine z_getr (pc := 12) fdX6_34 (nx_lt (by decide)) (sx_58 g) rfl rfl dX6_goBehind_12 ?_
  refine z_iload_n (pc := 15) dX6_goBehind_15 rfl ?_
  refine z_iload_n (pc := 16) dX6_goBehind_16 rfl ?_
  refine z_iload_n (pc := 17) dX6_goBehind_17 rfl ?_
  refine z_callV (As := [.int x1, .int x2, .int x3]) (pc := 18) (ret' := some .int) kvX6_87 (t5_doWork zSc_64 _ _ _ _) (by decide) (nx_lt (by decide)) (sx_64 g)  rfl rfl (Nat.le_of_ble_eq_true rfl) dX6_goBehind_18 (fun v3 μ4 => ?_)
  refine z_pop (pc := 21) dX6_goBehind_21 rfl ?_
  refine z_iload (pc := 22) dX6_goBehind_22 rfl ?_
  refine z_let (fun (j : zMem → zRes) => ∀ (μ5 : zMem), zR yX6_goBehind cX6_goBehind 5 (none) 4 43 [.null, .null, .null, .null, .null] [] (nX g) (SX g) μ5 (j μ5)) ?_ (fun j6 hj6 => ?_)
  · intro μ5
    exact z_vret (pc := 43) rfl dX6_goBehind_43
  · refine z_if_eq (pc := 24) (tgt := 43) dX6_goBehind_24 (by decide) (fun c7 => ?_) (fun c8 => ?_)
    · refine z_loc (L' := [.null, .null, .null, .null, .null]) ⟨Or.inl rfl, ⟨Or.inl rfl, ⟨Or.inl rfl, ⟨Or.inl rfl, ⟨Or.inl rfl, trivial⟩⟩⟩⟩⟩ ?_
      exact hj6 μ4
    · refine z_aload_n (pc := 27) dX6_goBehind_27 rfl ?_
      refine z_getr (pc := 28) fdX6_34 (nx_lt (by decide)) (sx_58 g) rfl rfl dX6_goBehind_28 ?_
      refine z_aload_n (pc := 31) dX6_goBehind_31 rfl ?_
      refine z_getr (pc := 32) fdX6_30 (nx_lt (by decide)) (sx_58 g) rfl rfl dX6_goBehind_32 ?_
      refine z_geti (pc := 35) fdX6_51 (nx_lt (by decide)) (sx_59 g) rfl dX6_goBehind_35 ?_
      refine z_iconst (pc := 38) (1 : Int32) dX6_goBehind_38 (by decide) ?_
      refine z_iadd (pc := 39) dX6_goBehind_39 ?_
      refine z_callV (As := [.int ((μ4 59 1) + (1 : Int32))]) (pc := 40) (ret' := none) kvX6_54 (t5_beginDay zSc_64 _ _) (by decide) (nx_lt (by decide)) (sx_64 g)  rfl rfl (Nat.le_of_ble_eq_true rfl) dX6_goBehind_40 (fun v9 μ10 => ?_)
      refine z_loc (L' := [.null, .null, .null, .null, .null]) ⟨Or.inl rfl, ⟨Or.inl rfl, ⟨Or.inl rfl, ⟨Or.inl rfl, ⟨Or.inl rfl, trivial⟩⟩⟩⟩⟩ ?_
      exact hj6 μ10
def f6_seekSecond_L24 (x1 : Int32) (x2 : Int32) (K110 : zMem → zRes) : Nat → Int32 → zMem → zRes
  | 0, _, _ => none
  | n + 1, x3, μ => if (μ 2 2) ≤ x3 then K110 μ else zin x3 10 (zlet (fun (s6 : Int32) (μ7 : zMem) => zlet (fun (μ8 : zMem) => f6_seekSecond_L24 x1 x2 K110 n (x3 + (1 : Int32)) μ8) (fun j9 => if s6 = (-1 : Int32) then j9 μ7 else zin x3 10 (zlet (zset μ7 58 3 (x2 + (μ7 8 x3.toNatClampNeg))) (fun (μ13 : zMem) => zlet (zset μ13 58 4 x1) (fun (μ14 : zMem) => zlet (zset μ14 58 5 (((100 : Int32) * x3) + s6)) (fun (μ15 : zMem) => j9 μ15)))))) (fun j16 => if (x2 + (μ 8 x3.toNatClampNeg)) ≤ (μ 58 3) then j16 (-1 : Int32) μ else bnd0 (f5_firstTwo 64 x3 μ) (fun (v19 : Int32) (μ20 : zMem) => j16 v19 μ20)))
def f6_seekSecond (x1 : Int32) (μ : zMem) : zRes := zlet (fun (s1 : Int32) (μ2 : zMem) => f6_seekSecond_L24 x1 s1 (fun (μ21 : zMem) => some (0, 0, μ21)) zF (0 : Int32) μ2) (fun j22 => if x1 = (-1 : Int32) then j22 (0 : Int32) μ else bnd0 (f8_doorOfRow x1 μ) (fun (v25 : Int32) (μ26 : zMem) => zin v25 10 (j22 (μ26 8 v25.toNatClampNeg) μ26)))
set_option maxHeartbeats 1000000 in
theorem t6_seekSecond_L24 {g : Bool} (x1 : Int32) (x2 : Int32) (K110 : zMem → zRes) (hK110 : ∀ (μ : zMem), zR yX6_seekSecond cX6_seekSecond 5 (none) 4 110 [.null, .null, .null, .null, .null] [] (nX g) (SX g) μ (K110 μ)) : ∀ (n : Nat) (x3 : Int32) (μ : zMem), zR yX6_seekSecond cX6_seekSecond 5 (none) 4 24 [.ref 58, .int x1, .int x2, .int x3, .null] [] (nX g) (SX g) μ (f6_seekSecond_L24 x1 x2 K110 n x3 μ) := by
  intro n
  induction n with
  | zero => intro x3 μ; intro q hq; cases hq
  | succ n ih =>
    intro x3 μ
    unfold f6_seekSecond_L24
    refine z_iload_n (pc := 24) dX6_seekSecond_24 rfl ?_
    refine z_aload_n (pc := 25) dX6_seekSecond_25 rfl ?_
    refine z_getr (pc := 26) fdX6_21 (nx_lt (by decide)) (sx_58 g) rfl rfl dX6_seekSecond_26 ?_
    refine z_geti (pc := 29) fdX6_61 (nx_lt (by decide)) (sx_2 g) rfl dX6_seekSecond_29 ?_
    refine z_icmp_ge (pc := 32) (tgt := 110) dX6_seekSecond_32 (by decide) (fun c3 => ?_) (fun c4 => ?_)
    · refine z_loc (L' := [.null, .null, .null, .null, .null]) ⟨Or.inl rfl, ⟨Or.inl rfl, ⟨Or.inl rfl, ⟨Or.inl rfl, ⟨Or.inl rfl, trivial⟩⟩⟩⟩⟩ ?_
      exact hK110 μ
    · refine z_iload_n (pc := 35) dX6_seekSecond_35 rfl ?_
      refine z_aload_n (pc := 36) dX6_seekSecond_36 rfl ?_
      refine z_getr (pc := 37) fdX6_21 (nx_lt (by decide)) (sx_58 g) rfl rfl dX6_seekSecond_37 ?_
      refine z_getr (pc := 40) fdX6_66 (nx_lt (by decide)) (sx_2 g) rfl rfl dX6_seekSecond_40 ?_
      refine z_iload_n (pc := 43) dX6_seekSecond_43 rfl ?_
      refine z_iald (pc := 44) (nx_lt (by decide)) (sx_8 g) rfl dX6_seekSecond_44 (fun h5 => ?_)
      refine z_iadd (pc := 45) dX6_seekSecond_45 ?_
      refine z_aload_n (pc := 46) dX6_seekSecond_46 rfl ?_
      refine z_geti (pc := 47) fdX6_9 (nx_lt (by decide)) (sx_58 g) rfl dX6_seekSecond_47 ?_
      refine z_let (fun (j : Int32 → zMem → zRes) => ∀ (s6 : Int32) (μ7 : zMem), zR yX6_seekSecond cX6_seekSecond 5 (none) 4 65 [.ref 58, .int x1, .int x2, .int x3, .null] [.int s6] (nX g) (SX g) μ7 (j s6 μ7)) ?_ (fun j16 hj16 => ?_)
      · intro s6 μ7
        refine z_istore (pc := 65) (L' := [.ref 58, .int x1, .int x2, .int x3, .int s6]) dX6_seekSecond_65 (by decide) rfl ?_
        refine z_iload (pc := 67) dX6_seekSecond_67 rfl ?_
        refine z_iconst (pc := 69) (-1 : Int32) dX6_seekSecond_69 (by decide) ?_
        refine z_let (fun (j : zMem → zRes) => ∀ (μ8 : zMem), zR yX6_seekSecond cX6_seekSecond 5 (none) 4 104 [.ref 58, .int x1, .int x2, .int x3, .null] [] (nX g) (SX g) μ8 (j μ8)) ?_ (fun j9 hj9 => ?_)
        · intro μ8
          refine z_iinc (pc := 104) (v := x3 + (1 : Int32)) (L' := [.ref 58, .int x1, .int x2, .int (x3 + (1 : Int32)), .null]) dX6_seekSecond_104 (by decide) rfl (congrArg _ (by decide)) rfl ?_
          refine z_goto (pc := 107) (tgt := 24) dX6_seekSecond_107 (by decide) ?_
          exact ih (x3 + (1 : Int32)) μ8
        · refine z_icmp_eq (pc := 70) (tgt := 104) dX6_seekSecond_70 (by decide) (fun c10 => ?_) (fun c11 => ?_)
          · refine z_loc (L' := [.ref 58, .int x1, .int x2, .int x3, .null]) ⟨Or.inr rfl, ⟨Or.inr rfl, ⟨Or.inr rfl, ⟨Or.inr rfl, ⟨Or.inl rfl, trivial⟩⟩⟩⟩⟩ ?_
            exact hj9 μ7
          · refine z_aload_n (pc := 73) dX6_seekSecond_73 rfl ?_
            refine z_iload_n (pc := 74) dX6_seekSecond_74 rfl ?_
            refine z_aload_n (pc := 75) dX6_seekSecond_75 rfl ?_
            refine z_getr (pc := 76) fdX6_21 (nx_lt (by decide)) (sx_58 g) rfl rfl dX6_seekSecond_76 ?_
            refine z_getr (pc := 79) fdX6_66 (nx_lt (by decide)) (sx_2 g) rfl rfl dX6_seekSecond_79 ?_
            refine z_iload_n (pc := 82) dX6_seekSecond_82 rfl ?_
            refine z_iald (pc := 83) (nx_lt (by decide)) (sx_8 g) rfl dX6_seekSecond_83 (fun h12 => ?_)
            refine z_iadd (pc := 84) dX6_seekSecond_84 ?_
            refine z_puti (pc := 85) fdX6_9 (nx_lt (by decide)) (sx_58 g) rfl rfl dX6_seekSecond_85 ?_
            refine z_mem (fun μ13 => ?_)
            refine z_aload_n (pc := 88) dX6_seekSecond_88 rfl ?_
            refine z_iload_n (pc := 89) dX6_seekSecond_89 rfl ?_
            refine z_puti (pc := 90) fdX6_15 (nx_lt (by decide)) (sx_58 g) rfl rfl dX6_seekSecond_90 ?_
            refine z_mem (fun μ14 => ?_)
            refine z_aload_n (pc := 93) dX6_seekSecond_93 rfl ?_
            refine z_bipush (pc := 94) (100 : Int32) dX6_seekSecond_94 (by decide) ?_
            refine z_iload_n (pc := 96) dX6_seekSecond_96 rfl ?_
            refine z_imul (pc := 97) dX6_seekSecond_97 ?_
            refine z_iload (pc := 98) dX6_seekSecond_98 rfl ?_
            refine z_iadd (pc := 100) dX6_seekSecond_100 ?_
            refine z_puti (pc := 101) fdX6_18 (nx_lt (by decide)) (sx_58 g) rfl rfl dX6_seekSecond_101 ?_
            refine z_mem (fun μ15 => ?_)
            refine z_loc (L' := [.ref 58, .int x1, .int x2, .int x3, .null]) ⟨Or.inr rfl, ⟨Or.inr rfl, ⟨Or.inr rfl, ⟨Or.inr rfl, ⟨Or.inl rfl, trivial⟩⟩⟩⟩⟩ ?_
            exact hj9 μ15
      · refine z_icmp_le (pc := 50) (tgt := 64) dX6_seekSecond_50 (by decide) (fun c17 => ?_) (fun c18 => ?_)
        · refine z_iconst (pc := 64) (-1 : Int32) dX6_seekSecond_64 (by decide) ?_
          exact hj16 (-1 : Int32) μ
        · refine z_aload_n (pc := 53) dX6_seekSecond_53 rfl ?_
          refine z_getr (pc := 54) fdX6_34 (nx_lt (by decide)) (sx_58 g) rfl rfl dX6_seekSecond_54 ?_
          refine z_iload_n (pc := 57) dX6_seekSecond_57 rfl ?_
          refine z_callV (As := [.int x3]) (pc := 58) (ret' := some .int) kvX6_69 (t5_firstTwo zSc_64 _ _) (by decide) (nx_lt (by decide)) (sx_64 g)  rfl rfl (Nat.le_of_ble_eq_true rfl) dX6_seekSecond_58 (fun v19 μ20 => ?_)
          refine z_goto (pc := 61) (tgt := 65) dX6_seekSecond_61 (by decide) ?_
          exact hj16 v19 μ20
set_option maxHeartbeats 1000000 in
theorem t6_seekSecond {g : Bool} (x1 : Int32) (μ : zMem) : zMR yX6_seekSecond cX6_seekSecond 5 (none) 4 [.ref 58, .int x1] (nX g) (SX g) μ (f6_seekSecond x1 μ) := by
  refine zMR_of (by decide +kernel) rfl (Nat.le_of_ble_eq_true rfl) (L := [.ref 58, .int x1, .null, .null, .null]) rfl ?_
  unfold f6_seekSecond
  refine z_iload_n (pc := 0) dX6_seekSecond_0 rfl ?_
  refine z_iconst (pc := 1) (-1 : Int32) dX6_seekSecond_1 (by decide) ?_
  refine z_let (fun (j : Int32 → zMem → zRes) => ∀ (s1 : Int32) (μ2 : zMem), zR yX6_seekSecond cX6_seekSecond 5 (none) 4 21 [.ref 58, .int x1, .null, .null, .null] [.int s1] (nX g) (SX g) μ2 (j s1 μ2)) ?_ (fun j22 hj22 => ?_)
  · intro s1 μ2
    refine z_istore_n (pc := 21) (L' := [.ref 58, .int x1, .int s1, .null, .null]) dX6_seekSecond_21 (by decide) rfl ?_
    refine z_iconst (pc := 22) (0 : Int32) dX6_seekSecond_22 (by decide) ?_
    refine z_istore_n (pc := 23) (L' := [.ref 58, .int x1, .int s1, .int (0 : Int32), .null]) dX6_seekSecond_23 (by decide) rfl ?_
    refine t6_seekSecond_L24 _ _ _ (fun μ21 => ?_) zF _ _
    · exact z_vret (pc := 110) rfl dX6_seekSecond_110
  · refine z_icmp_ne (pc := 2) (tgt := 9) dX6_seekSecond_2 (by decide) (fun c23 => ?_) (fun c24 => ?_)
    · refine z_aload_n (pc := 9) dX6_seekSecond_9 rfl ?_
      refine z_getr (pc := 10) fdX6_21 (nx_lt (by decide)) (sx_58 g) rfl rfl dX6_seekSecond_10 ?_
      refine z_getr (pc := 13) fdX6_66 (nx_lt (by decide)) (sx_2 g) rfl rfl dX6_seekSecond_13 ?_
      refine z_iload_n (pc := 16) dX6_seekSecond_16 rfl ?_
      refine z_callS (As := [.int x1]) (pc := 17) (ret' := some .int) ksX6_90 (t8_doorOfRow _ _) (by decide)  rfl rfl (Nat.le_of_ble_eq_true rfl) dX6_seekSecond_17 (fun v25 μ26 => ?_)
      refine z_iald (pc := 20) (nx_lt (by decide)) (sx_8 g) rfl dX6_seekSecond_20 (fun h27 => ?_)
      exact hj22 (μ26 8 v25.toNatClampNeg) μ26
    · refine z_iconst (pc := 5) (0 : Int32) dX6_seekSecond_5 (by decide) ?_
      refine z_goto (pc := 6) (tgt := 21) dX6_seekSecond_6 (by decide) ?_
      exact hj22 (0 : Int32) μ
def f6_seekTwo_L31 (x1 : Int32) (x2 : Int32) (x3 : Int32) (K83 : zMem → zRes) : Nat → Int32 → zMem → zRes
  | 0, _, _ => none
  | n + 1, x4, μ => if (μ 59 4) ≤ x4 then K83 μ else bnd0 (f5_errs 59 x2 x3 x4 μ) (fun (v8 : Int32) (μ9 : zMem) => zlet (fun (μ10 : zMem) => f6_seekTwo_L31 x1 x2 x3 K83 n (x4 + (1 : Int32)) μ10) (fun j11 => if v8 = 0 then bnd0 (f6_goBehind x2 x3 x4 x1 μ9) (fun (v14 : Int32) (μ15 : zMem) => bnd0 (f8_workCode x2 x3 x4 μ15) (fun (v16 : Int32) (μ17 : zMem) => bnd0 (f6_seekSecond v16 μ17) (fun (v18 : Int32) (μ19 : zMem) => j11 μ19))) else j11 μ9))
def f6_seekTwo_L15 (x1 : Int32) (x2 : Int32) (K89 : zMem → zRes) : Nat → Int32 → zMem → zRes
  | 0, _, _ => none
  | n + 1, x3, μ => if (μ 59 4) ≤ x3 then K89 μ else zlet (x3 + (1 : Int32)) (fun (v5 : Int32) => f6_seekTwo_L31 x1 x2 x3 (fun (μ20 : zMem) => f6_seekTwo_L15 x1 x2 K89 n (x3 + (1 : Int32)) μ20) zF v5 μ)
def f6_seekTwo_L2 (x1 : Int32) (K95 : zMem → zRes) : Nat → Int32 → zMem → zRes
  | 0, _, _ => none
  | n + 1, x2, μ => if (μ 2 2) ≤ x2 then K95 μ else f6_seekTwo_L15 x1 x2 (fun (μ21 : zMem) => f6_seekTwo_L2 x1 K95 n (x2 + (1 : Int32)) μ21) zF (0 : Int32) μ
def f6_seekTwo (x1 : Int32) (μ : zMem) : zRes := f6_seekTwo_L2 x1 (fun (μ22 : zMem) => some (0, 0, μ22)) zF (0 : Int32) μ
set_option maxHeartbeats 1000000 in
theorem t6_seekTwo_L31 {g : Bool} (x1 : Int32) (x2 : Int32) (x3 : Int32) (K83 : zMem → zRes) (hK83 : ∀ (μ : zMem), zR yX6_seekTwo cX6_seekTwo 5 (none) 5 83 [.ref 58, .int x1, .int x2, .int x3, .null] [] (nX g) (SX g) μ (K83 μ)) : ∀ (n : Nat) (x4 : Int32) (μ : zMem), zR yX6_seekTwo cX6_seekTwo 5 (none) 5 31 [.ref 58, .int x1, .int x2, .int x3, .int x4] [] (nX g) (SX g) μ (f6_seekTwo_L31 x1 x2 x3 K83 n x4 μ) := by
  intro n
  induction n with
  | zero => intro x4 μ; intro q hq; cases hq
  | succ n ih =>
    intro x4 μ
    unfold f6_seekTwo_L31
    refine z_iload (pc := 31) dX6_seekTwo_31 rfl ?_
    refine z_aload_n (pc := 33) dX6_seekTwo_33 rfl ?_
    refine z_getr (pc := 34) fdX6_30 (nx_lt (by decide)) (sx_58 g) rfl rfl dX6_seekTwo_34 ?_
    refine z_geti (pc := 37) fdX6_73 (nx_lt (by decide)) (sx_59 g) rfl dX6_seekTwo_37 ?_
    refine z_icmp_ge (pc := 40) (tgt := 83) dX6_seekTwo_40 (by decide) (fun c6 => ?_) (fun c7 => ?_)
    · refine z_loc (L' := [.ref 58, .int x1, .int x2, .int x3, .null]) ⟨Or.inr rfl, ⟨Or.inr rfl, ⟨Or.inr rfl, ⟨Or.inr rfl, ⟨Or.inl rfl, trivial⟩⟩⟩⟩⟩ ?_
      exact hK83 μ
    · refine z_aload_n (pc := 43) dX6_seekTwo_43 rfl ?_
      refine z_getr (pc := 44) fdX6_30 (nx_lt (by decide)) (sx_58 g) rfl rfl dX6_seekTwo_44 ?_
      refine z_iload_n (pc := 47) dX6_seekTwo_47 rfl ?_
      refine z_iload_n (pc := 48) dX6_seekTwo_48 rfl ?_
      refine z_iload (pc := 49) dX6_seekTwo_49 rfl ?_
      refine z_callV (As := [.int x2, .int x3, .int x4]) (pc := 51) (ret' := some .int) kvX6_76 (t5_errs zSc_59 _ _ _ _) (by decide) (nx_lt (by decide)) (sx_59 g)  rfl rfl (Nat.le_of_ble_eq_true rfl) dX6_seekTwo_51 (fun v8 μ9 => ?_)
      refine z_let (fun (j : zMem → zRes) => ∀ (μ10 : zMem), zR yX6_seekTwo cX6_seekTwo 5 (none) 5 77 [.ref 58, .int x1, .int x2, .int x3, .int x4] [] (nX g) (SX g) μ10 (j μ10)) ?_ (fun j11 hj11 => ?_)
      · intro μ10
        refine z_iinc (pc := 77) (v := x4 + (1 : Int32)) (L' := [.ref 58, .int x1, .int x2, .int x3, .int (x4 + (1 : Int32))]) dX6_seekTwo_77 (by decide) rfl (congrArg _ (by decide)) rfl ?_
        refine z_goto (pc := 80) (tgt := 31) dX6_seekTwo_80 (by decide) ?_
        exact ih (x4 + (1 : Int32)) μ10
      · refine z_if_ne (pc := 54) (tgt := 77) dX6_seekTwo_54 (by decide) (fun c12 => ?_) (fun c13 => ?_)
        · exact hj11 μ9
        · refine z_aload_n (pc := 57) dX6_seekTwo_57 rfl ?_
          refine z_iload_n (pc := 58) dX6_seekTwo_58 rfl ?_
          refine z_iload_n (pc := 59) dX6_seekTwo_59 rfl ?_
          refine z_iload (pc := 60) dX6_seekTwo_60 rfl ?_
          refine z_iload_n (pc := 62) dX6_seekTwo_62 rfl ?_
          refine z_callV (As := [.int x2, .int x3, .int x4, .int x1]) (pc := 63) (ret' := none) kvX6_80 (t6_goBehind _ _ _ _ _) (by decide) (nx_lt (by decide)) (sx_58 g)  rfl rfl (Nat.le_of_ble_eq_true rfl) dX6_seekTwo_63 (fun v14 μ15 => ?_)
          refine z_aload_n (pc := 66) dX6_seekTwo_66 rfl ?_
          refine z_iload_n (pc := 67) dX6_seekTwo_67 rfl ?_
          refine z_iload_n (pc := 68) dX6_seekTwo_68 rfl ?_
          refine z_iload (pc := 69) dX6_seekTwo_69 rfl ?_
          refine z_callS (As := [.int x2, .int x3, .int x4]) (pc := 71) (ret' := some .int) ksX6_84 (t8_workCode _ _ _ _) (by decide)  rfl rfl (Nat.le_of_ble_eq_true rfl) dX6_seekTwo_71 (fun v16 μ17 => ?_)
          refine z_callV (As := [.int v16]) (pc := 74) (ret' := none) kvX6_58 (t6_seekSecond _ _) (by decide) (nx_lt (by decide)) (sx_58 g)  rfl rfl (Nat.le_of_ble_eq_true rfl) dX6_seekTwo_74 (fun v18 μ19 => ?_)
          exact hj11 μ19
set_option maxHeartbeats 1000000 in
theorem t6_seekTwo_L15 {g : Bool} (x1 : Int32) (x2 : Int32) (K89 : zMem → zRes) (hK89 : ∀ (μ : zMem), zR yX6_seekTwo cX6_seekTwo 5 (none) 5 89 [.ref 58, .int x1, .int x2, .null, .null] [] (nX g) (SX g) μ (K89 μ)) : ∀ (n : Nat) (x3 : Int32) (μ : zMem), zR yX6_seekTwo cX6_seekTwo 5 (none) 5 15 [.ref 58, .int x1, .int x2, .int x3, .null] [] (nX g) (SX g) μ (f6_seekTwo_L15 x1 x2 K89 n x3 μ) := by
  intro n
  induction n with
  | zero => intro x3 μ; intro q hq; cases hq
  | succ n ih =>
    intro x3 μ
    unfold f6_seekTwo_L15
    refine z_iload_n (pc := 15) dX6_seekTwo_15 rfl ?_
    refine z_aload_n (pc := 16) dX6_seekTwo_16 rfl ?_
    refine z_getr (pc := 17) fdX6_30 (nx_lt (by decide)) (sx_58 g) rfl rfl dX6_seekTwo_17 ?_
    refine z_geti (pc := 20) fdX6_73 (nx_lt (by decide)) (sx_59 g) rfl dX6_seekTwo_20 ?_
    refine z_icmp_ge (pc := 23) (tgt := 89) dX6_seekTwo_23 (by decide) (fun c3 => ?_) (fun c4 => ?_)
    · refine z_loc (L' := [.ref 58, .int x1, .int x2, .null, .null]) ⟨Or.inr rfl, ⟨Or.inr rfl, ⟨Or.inr rfl, ⟨Or.inl rfl, ⟨Or.inl rfl, trivial⟩⟩⟩⟩⟩ ?_
      exact hK89 μ
    · refine z_iload_n (pc := 26) dX6_seekTwo_26 rfl ?_
      refine z_iconst (pc := 27) (1 : Int32) dX6_seekTwo_27 (by decide) ?_
      refine z_iadd (pc := 28) dX6_seekTwo_28 ?_
      refine z_val (fun v5 => ?_)
      refine z_istore (pc := 29) (L' := [.ref 58, .int x1, .int x2, .int x3, .int v5]) dX6_seekTwo_29 (by decide) rfl ?_
      refine t6_seekTwo_L31 _ _ _ _ (fun μ20 => ?_) zF _ _
      · refine z_iinc (pc := 83) (v := x3 + (1 : Int32)) (L' := [.ref 58, .int x1, .int x2, .int (x3 + (1 : Int32)), .null]) dX6_seekTwo_83 (by decide) rfl (congrArg _ (by decide)) rfl ?_
        refine z_goto (pc := 86) (tgt := 15) dX6_seekTwo_86 (by decide) ?_
        exact ih (x3 + (1 : Int32)) μ20
set_option maxHeartbeats 1000000 in
theorem t6_seekTwo_L2 {g : Bool} (x1 : Int32) (K95 : zMem → zRes) (hK95 : ∀ (μ : zMem), zR yX6_seekTwo cX6_seekTwo 5 (none) 5 95 [.null, .null, .null, .null, .null] [] (nX g) (SX g) μ (K95 μ)) : ∀ (n : Nat) (x2 : Int32) (μ : zMem), zR yX6_seekTwo cX6_seekTwo 5 (none) 5 2 [.ref 58, .int x1, .int x2, .null, .null] [] (nX g) (SX g) μ (f6_seekTwo_L2 x1 K95 n x2 μ) := by
  intro n
  induction n with
  | zero => intro x2 μ; intro q hq; cases hq
  | succ n ih =>
    intro x2 μ
    unfold f6_seekTwo_L2
    refine z_iload_n (pc := 2) dX6_seekTwo_2 rfl ?_
    refine z_aload_n (pc := 3) dX6_seekTwo_3 rfl ?_
    refine z_getr (pc := 4) fdX6_21 (nx_lt (by decide)) (sx_58 g) rfl rfl dX6_seekTwo_4 ?_
    refine z_geti (pc := 7) fdX6_61 (nx_lt (by decide)) (sx_2 g) rfl dX6_seekTwo_7 ?_
    refine z_icmp_ge (pc := 10) (tgt := 95) dX6_seekTwo_10 (by decide) (fun c1 => ?_) (fun c2 => ?_)
    · refine z_loc (L' := [.null, .null, .null, .null, .null]) ⟨Or.inl rfl, ⟨Or.inl rfl, ⟨Or.inl rfl, ⟨Or.inl rfl, ⟨Or.inl rfl, trivial⟩⟩⟩⟩⟩ ?_
      exact hK95 μ
    · refine z_iconst (pc := 13) (0 : Int32) dX6_seekTwo_13 (by decide) ?_
      refine z_istore_n (pc := 14) (L' := [.ref 58, .int x1, .int x2, .int (0 : Int32), .null]) dX6_seekTwo_14 (by decide) rfl ?_
      refine t6_seekTwo_L15 _ _ _ (fun μ21 => ?_) zF _ _
      · refine z_iinc (pc := 89) (v := x2 + (1 : Int32)) (L' := [.ref 58, .int x1, .int (x2 + (1 : Int32)), .null, .null]) dX6_seekTwo_89 (by decide) rfl (congrArg _ (by decide)) rfl ?_
        refine z_goto (pc := 92) (tgt := 2) dX6_seekTwo_92 (by decide) ?_
        exact ih (x2 + (1 : Int32)) μ21
set_option maxHeartbeats 1000000 in
theorem t6_seekTwo {g : Bool} (x1 : Int32) (μ : zMem) : zMR yX6_seekTwo cX6_seekTwo 5 (none) 5 [.ref 58, .int x1] (nX g) (SX g) μ (f6_seekTwo x1 μ) := by
  refine zMR_of (by decide +kernel) rfl (Nat.le_of_ble_eq_true rfl) (L := [.ref 58, .int x1, .null, .null, .null]) rfl ?_
  unfold f6_seekTwo
  refine z_iconst (pc := 0) (0 : Int32) dX6_seekTwo_0 (by decide) ?_
  refine z_istore_n (pc := 1) (L' := [.ref 58, .int x1, .int (0 : Int32), .null, .null]) dX6_seekTwo_1 (by decide) rfl ?_
  refine t6_seekTwo_L2 _ _ (fun μ22 => ?_) zF _ _
  · exact z_vret (pc := 95) rfl dX6_seekTwo_95
def f6_seekBestRow (μ : zMem) : zRes := bnd0 (f6_forget μ) (fun (v1 : Int32) (μ2 : zMem) => bnd0 (f5_copyWorld 59 23 μ2) (fun (v3 : Int32) (μ4 : zMem) => bnd0 (f6_seekFirst μ4) (fun (v5 : Int32) (μ6 : zMem) => bnd0 (f6_seekTwo (0 : Int32) μ6) (fun (v7 : Int32) (μ8 : zMem) => some (0, 0, μ8)))))
set_option maxHeartbeats 1000000 in
theorem t6_seekBestRow {g : Bool} (μ : zMem) : zMR yX6_seekBestRow cX6_seekBestRow 2 (none) 6 [.ref 58, .ref 23] (nX g) (SX g) μ (f6_seekBestRow μ) := by
  refine zMR_of (by decide +kernel) rfl (Nat.le_of_ble_eq_true rfl) (L := [.ref 58, .ref 23]) rfl ?_
  unfold f6_seekBestRow
  refine z_aload_n (pc := 0) dX6_seekBestRow_0 rfl ?_
  refine z_callV (As := []) (pc := 1) (ret' := none) kvX6_37 (t6_forget _) (by decide) (nx_lt (by decide)) (sx_58 g)  rfl rfl (Nat.le_of_ble_eq_true rfl) dX6_seekBestRow_1 (fun v1 μ2 => ?_)
  refine z_aload_n (pc := 4) dX6_seekBestRow_4 rfl ?_
  refine z_getr (pc := 5) fdX6_30 (nx_lt (by decide)) (sx_58 g) rfl rfl dX6_seekBestRow_5 ?_
  refine z_aload_n (pc := 8) dX6_seekBestRow_8 rfl ?_
  refine z_callV (As := [.ref 23]) (pc := 9) (ret' := none) kvX6_40 (t5_copyWorld zSc_59 zSc_23 _) (by decide) (nx_lt (by decide)) (sx_59 g)  rfl rfl (Nat.le_of_ble_eq_true rfl) dX6_seekBestRow_9 (fun v3 μ4 => ?_)
  refine z_aload_n (pc := 12) dX6_seekBestRow_12 rfl ?_
  refine z_callV (As := []) (pc := 13) (ret' := none) kvX6_44 (t6_seekFirst _) (by decide) (nx_lt (by decide)) (sx_58 g)  rfl rfl (Nat.le_of_ble_eq_true rfl) dX6_seekBestRow_13 (fun v5 μ6 => ?_)
  refine z_aload_n (pc := 16) dX6_seekBestRow_16 rfl ?_
  refine z_iconst (pc := 17) (0 : Int32) dX6_seekBestRow_17 (by decide) ?_
  refine z_callV (As := [.int (0 : Int32)]) (pc := 18) (ret' := none) kvX6_47 (t6_seekTwo _ _) (by decide) (nx_lt (by decide)) (sx_58 g)  rfl rfl (Nat.le_of_ble_eq_true rfl) dX6_seekBestRow_18 (fun v7 μ8 => ?_)
  exact z_vret (pc := 21) rfl dX6_seekBestRow_21
def f6_answer (x1 : Int32) (μ : zMem) : zRes := if x1 = (0 : Int32) then some (0, μ 58 3, μ) else if x1 = (1 : Int32) then some (0, μ 58 4, μ) else some (0, μ 58 5, μ)
set_option maxHeartbeats 1000000 in
theorem t6_answer {g : Bool} (x1 : Int32) (μ : zMem) : zMR yX6_answer cX6_answer 2 (some .int) 1 [.ref 58, .int x1] (nX g) (SX g) μ (f6_answer x1 μ) := by
  refine zMR_of (by decide +kernel) rfl (Nat.le_of_ble_eq_true rfl) (L := [.ref 58, .int x1]) rfl ?_
  unfold f6_answer
  refine z_iload_n (pc := 0) dX6_answer_0 rfl ?_
  refine z_lkC (pc := 1) (tgt := 28) (off := 27) (0 : Int32) dX6_answer_1 (by decide) (by decide) (by decide) ?_ (fun c1 => ?_)
  · refine z_aload_n (pc := 28) dX6_answer_28 rfl ?_
    refine z_geti (pc := 29) fdX6_9 (nx_lt (by decide)) (sx_58 g) rfl dX6_answer_29 ?_
    exact z_iret (pc := 32) rfl dX6_answer_32
  · refine z_lkC (pc := 1) (tgt := 33) (off := 32) (1 : Int32) dX6_answer_1 (by decide) (by decide) (by decide) ?_ (fun c2 => ?_)
    · refine z_aload_n (pc := 33) dX6_answer_33 rfl ?_
      refine z_geti (pc := 34) fdX6_15 (nx_lt (by decide)) (sx_58 g) rfl dX6_answer_34 ?_
      exact z_iret (pc := 37) rfl dX6_answer_37
    · refine z_lkD (pc := 1) (tgt := 38) (off := 37) dX6_answer_1 (by decide) (by have q0 := z_i32 c1 (z := 0) (by decide); have q1 := z_i32 c2 (z := 1) (by decide); simp [Op.lookupswitch.offset, Ne.symm q0, Ne.symm q1]) (by decide) ?_
      refine z_aload_n (pc := 38) dX6_answer_38 rfl ?_
      refine z_geti (pc := 39) fdX6_18 (nx_lt (by decide)) (sx_58 g) rfl dX6_answer_39 ?_
      exact z_iret (pc := 42) rfl dX6_answer_42
def f6_seekTwoDays (μ : zMem) : zRes := bnd0 (f6_forget μ) (fun (v1 : Int32) (μ2 : zMem) => bnd0 (f5_copyWorld 59 23 μ2) (fun (v3 : Int32) (μ4 : zMem) => bnd0 (f6_seekFirst μ4) (fun (v5 : Int32) (μ6 : zMem) => if (μ6 23 1) < (29 : Int32) then bnd0 (f5_copyWorld 64 23 μ6) (fun (v9 : Int32) (μ10 : zMem) => bnd0 (f5_beginDay 64 ((μ10 23 1) + (1 : Int32)) μ10) (fun (v11 : Int32) (μ12 : zMem) => bnd0 (f6_seekSecond (-1 : Int32) μ12) (fun (v13 : Int32) (μ14 : zMem) => bnd0 (f6_seekTwo (1 : Int32) μ14) (fun (v15 : Int32) (μ16 : zMem) => some (0, 0, μ16))))) else some (0, 0, μ6))))
set_option maxHeartbeats 1000000 in
theorem t6_seekTwoDays {g : Bool} (μ : zMem) : zMR yX6_seekTwoDays cX6_seekTwoDays 2 (none) 6 [.ref 58, .ref 23] (nX g) (SX g) μ (f6_seekTwoDays μ) := by
  refine zMR_of (by decide +kernel) rfl (Nat.le_of_ble_eq_true rfl) (L := [.ref 58, .ref 23]) rfl ?_
  unfold f6_seekTwoDays
  refine z_aload_n (pc := 0) dX6_seekTwoDays_0 rfl ?_
  refine z_callV (As := []) (pc := 1) (ret' := none) kvX6_37 (t6_forget _) (by decide) (nx_lt (by decide)) (sx_58 g)  rfl rfl (Nat.le_of_ble_eq_true rfl) dX6_seekTwoDays_1 (fun v1 μ2 => ?_)
  refine z_aload_n (pc := 4) dX6_seekTwoDays_4 rfl ?_
  refine z_getr (pc := 5) fdX6_30 (nx_lt (by decide)) (sx_58 g) rfl rfl dX6_seekTwoDays_5 ?_
  refine z_aload_n (pc := 8) dX6_seekTwoDays_8 rfl ?_
  refine z_callV (As := [.ref 23]) (pc := 9) (ret' := none) kvX6_40 (t5_copyWorld zSc_59 zSc_23 _) (by decide) (nx_lt (by decide)) (sx_59 g)  rfl rfl (Nat.le_of_ble_eq_true rfl) dX6_seekTwoDays_9 (fun v3 μ4 => ?_)
  refine z_aload_n (pc := 12) dX6_seekTwoDays_12 rfl ?_
  refine z_callV (As := []) (pc := 13) (ret' := none) kvX6_44 (t6_seekFirst _) (by decide) (nx_lt (by decide)) (sx_58 g)  rfl rfl (Nat.le_of_ble_eq_true rfl) dX6_seekTwoDays_13 (fun v5 μ6 => ?_)
  refine z_aload_n (pc := 16) dX6_seekTwoDays_16 rfl ?_
  refine z_geti (pc := 17) fdX6_51 (nx_lt (by decide)) (sx_23 g) rfl dX6_seekTwoDays_17 ?_
  refine z_bipush (pc := 20) (29 : Int32) dX6_seekTwoDays_20 (by decide) ?_
  refine z_icmp_lt (pc := 22) (tgt := 26) dX6_seekTwoDays_22 (by decide) (fun c7 => ?_) (fun c8 => ?_)
  · refine z_aload_n (pc := 26) dX6_seekTwoDays_26 rfl ?_
    refine z_getr (pc := 27) fdX6_34 (nx_lt (by decide)) (sx_58 g) rfl rfl dX6_seekTwoDays_27 ?_
    refine z_aload_n (pc := 30) dX6_seekTwoDays_30 rfl ?_
    refine z_callV (As := [.ref 23]) (pc := 31) (ret' := none) kvX6_40 (t5_copyWorld zSc_64 zSc_23 _) (by decide) (nx_lt (by decide)) (sx_64 g)  rfl rfl (Nat.le_of_ble_eq_true rfl) dX6_seekTwoDays_31 (fun v9 μ10 => ?_)
    refine z_aload_n (pc := 34) dX6_seekTwoDays_34 rfl ?_
    refine z_getr (pc := 35) fdX6_34 (nx_lt (by decide)) (sx_58 g) rfl rfl dX6_seekTwoDays_35 ?_
    refine z_aload_n (pc := 38) dX6_seekTwoDays_38 rfl ?_
    refine z_geti (pc := 39) fdX6_51 (nx_lt (by decide)) (sx_23 g) rfl dX6_seekTwoDays_39 ?_
    refine z_iconst (pc := 42) (1 : Int32) dX6_seekTwoDays_42 (by decide) ?_
    refine z_iadd (pc := 43) dX6_seekTwoDays_43 ?_
    refine z_callV (As := [.int ((μ10 23 1) + (1 : Int32))]) (pc := 44) (ret' := none) kvX6_54 (t5_beginDay zSc_64 _ _) (by decide) (nx_lt (by decide)) (sx_64 g)  rfl rfl (Nat.le_of_ble_eq_true rfl) dX6_seekTwoDays_44 (fun v11 μ12 => ?_)
    refine z_aload_n (pc := 47) dX6_seekTwoDays_47 rfl ?_
    refine z_iconst (pc := 48) (-1 : Int32) dX6_seekTwoDays_48 (by decide) ?_
    refine z_callV (As := [.int (-1 : Int32)]) (pc := 49) (ret' := none) kvX6_58 (t6_seekSecond _ _) (by decide) (nx_lt (by decide)) (sx_58 g)  rfl rfl (Nat.le_of_ble_eq_true rfl) dX6_seekTwoDays_49 (fun v13 μ14 => ?_)
    refine z_aload_n (pc := 52) dX6_seekTwoDays_52 rfl ?_
    refine z_iconst (pc := 53) (1 : Int32) dX6_seekTwoDays_53 (by decide) ?_
    refine z_callV (As := [.int (1 : Int32)]) (pc := 54) (ret' := none) kvX6_47 (t6_seekTwo _ _) (by decide) (nx_lt (by decide)) (sx_58 g)  rfl rfl (Nat.le_of_ble_eq_true rfl) dX6_seekTwoDays_54 (fun v15 μ16 => ?_)
    exact z_vret (pc := 57) rfl dX6_seekTwoDays_57
  · exact z_vret (pc := 25) rfl dX6_seekTwoDays_25
