theorem dX1_unfold_0 : decode cX1_unfold 0 = .ok (.iload_n 1, 1) := by decide +kernel
theorem dX1_unfold_1 : decode cX1_unfold 1 = .ok (.istore_n 2, 1) := by decide +kernel
theorem dX1_unfold_2 : decode cX1_unfold 2 = .ok (.iconst 0, 1) := by decide +kernel
theorem dX1_unfold_3 : decode cX1_unfold 3 = .ok (.istore_n 3, 1) := by decide +kernel
theorem dX1_unfold_4 : decode cX1_unfold 4 = .ok (.iload_n 3, 1) := by decide +kernel
theorem dX1_unfold_5 : decode cX1_unfold 5 = .ok (.aload_n 0, 1) := by decide +kernel
theorem dX1_unfold_6 : decode cX1_unfold 6 = .ok (.getfield 30, 3) := by decide +kernel
theorem dX1_unfold_9 : decode cX1_unfold 9 = .ok (.if_icmp .ge 24, 3) := by decide +kernel
theorem dX1_unfold_12 : decode cX1_unfold 12 = .ok (.aload_n 0, 1) := by decide +kernel
theorem dX1_unfold_13 : decode cX1_unfold 13 = .ok (.getfield 18, 3) := by decide +kernel
theorem dX1_unfold_16 : decode cX1_unfold 16 = .ok (.iload_n 3, 1) := by decide +kernel
theorem dX1_unfold_17 : decode cX1_unfold 17 = .ok (.iload_n 2, 1) := by decide +kernel
theorem dX1_unfold_18 : decode cX1_unfold 18 = .ok (.bipush 9, 2) := by decide +kernel
theorem dX1_unfold_20 : decode cX1_unfold 20 = .ok (.irem, 1) := by decide +kernel
theorem dX1_unfold_21 : decode cX1_unfold 21 = .ok (.iastore, 1) := by decide +kernel
theorem dX1_unfold_22 : decode cX1_unfold 22 = .ok (.iload_n 2, 1) := by decide +kernel
theorem dX1_unfold_23 : decode cX1_unfold 23 = .ok (.bipush 9, 2) := by decide +kernel
theorem dX1_unfold_25 : decode cX1_unfold 25 = .ok (.idiv, 1) := by decide +kernel
theorem dX1_unfold_26 : decode cX1_unfold 26 = .ok (.istore_n 2, 1) := by decide +kernel
theorem dX1_unfold_27 : decode cX1_unfold 27 = .ok (.iinc 3 1, 3) := by decide +kernel
theorem dX1_unfold_30 : decode cX1_unfold 30 = .ok (.goto (-26), 3) := by decide +kernel
theorem dX1_unfold_33 : decode cX1_unfold 33 = .ok (.return_, 1) := by decide +kernel
theorem dX1_canWork_0 : decode cX1_canWork 0 = .ok (.aload_n 0, 1) := by decide +kernel
theorem dX1_canWork_1 : decode cX1_canWork 1 = .ok (.getfield 43, 3) := by decide +kernel
theorem dX1_canWork_4 : decode cX1_canWork 4 = .ok (.aload_n 0, 1) := by decide +kernel
theorem dX1_canWork_5 : decode cX1_canWork 5 = .ok (.getfield 11, 3) := by decide +kernel
theorem dX1_canWork_8 : decode cX1_canWork 8 = .ok (.iload_n 1, 1) := by decide +kernel
theorem dX1_canWork_9 : decode cX1_canWork 9 = .ok (.iaload, 1) := by decide +kernel
theorem dX1_canWork_10 : decode cX1_canWork 10 = .ok (.aload_n 0, 1) := by decide +kernel
theorem dX1_canWork_11 : decode cX1_canWork 11 = .ok (.getfield 11, 3) := by decide +kernel
theorem dX1_canWork_14 : decode cX1_canWork 14 = .ok (.iload_n 2, 1) := by decide +kernel
theorem dX1_canWork_15 : decode cX1_canWork 15 = .ok (.iaload, 1) := by decide +kernel
theorem dX1_canWork_16 : decode cX1_canWork 16 = .ok (.invokevirtual 95, 3) := by decide +kernel
theorem dX1_canWork_19 : decode cX1_canWork 19 = .ok (.ifCond .ne 30, 3) := by decide +kernel
theorem dX1_canWork_22 : decode cX1_canWork 22 = .ok (.aload_n 0, 1) := by decide +kernel
theorem dX1_canWork_23 : decode cX1_canWork 23 = .ok (.getfield 18, 3) := by decide +kernel
theorem dX1_canWork_26 : decode cX1_canWork 26 = .ok (.iload_n 1, 1) := by decide +kernel
theorem dX1_canWork_27 : decode cX1_canWork 27 = .ok (.iaload, 1) := by decide +kernel
theorem dX1_canWork_28 : decode cX1_canWork 28 = .ok (.aload_n 0, 1) := by decide +kernel
theorem dX1_canWork_29 : decode cX1_canWork 29 = .ok (.getfield 18, 3) := by decide +kernel
theorem dX1_canWork_32 : decode cX1_canWork 32 = .ok (.iload_n 2, 1) := by decide +kernel
theorem dX1_canWork_33 : decode cX1_canWork 33 = .ok (.iaload, 1) := by decide +kernel
theorem dX1_canWork_34 : decode cX1_canWork 34 = .ok (.isub, 1) := by decide +kernel
theorem dX1_canWork_35 : decode cX1_canWork 35 = .ok (.invokestatic 98, 3) := by decide +kernel
theorem dX1_canWork_38 : decode cX1_canWork 38 = .ok (.aload_n 0, 1) := by decide +kernel
theorem dX1_canWork_39 : decode cX1_canWork 39 = .ok (.getfield 34, 3) := by decide +kernel
theorem dX1_canWork_42 : decode cX1_canWork 42 = .ok (.if_icmp .lt 7, 3) := by decide +kernel
theorem dX1_canWork_45 : decode cX1_canWork 45 = .ok (.iconst 1, 1) := by decide +kernel
theorem dX1_canWork_46 : decode cX1_canWork 46 = .ok (.goto 4, 3) := by decide +kernel
theorem dX1_canWork_49 : decode cX1_canWork 49 = .ok (.iconst 0, 1) := by decide +kernel
theorem dX1_canWork_50 : decode cX1_canWork 50 = .ok (.ireturn, 1) := by decide +kernel
theorem dX1_weight_0 : decode cX1_weight 0 = .ok (.iconst 1, 1) := by decide +kernel
theorem dX1_weight_1 : decode cX1_weight 1 = .ok (.istore_n 1, 1) := by decide +kernel
theorem dX1_weight_2 : decode cX1_weight 2 = .ok (.iconst 0, 1) := by decide +kernel
theorem dX1_weight_3 : decode cX1_weight 3 = .ok (.istore_n 2, 1) := by decide +kernel
theorem dX1_weight_4 : decode cX1_weight 4 = .ok (.iload_n 2, 1) := by decide +kernel
theorem dX1_weight_5 : decode cX1_weight 5 = .ok (.iload_n 0, 1) := by decide +kernel
theorem dX1_weight_6 : decode cX1_weight 6 = .ok (.if_icmp .ge 14, 3) := by decide +kernel
theorem dX1_weight_9 : decode cX1_weight 9 = .ok (.iload_n 1, 1) := by decide +kernel
theorem dX1_weight_10 : decode cX1_weight 10 = .ok (.bipush 9, 2) := by decide +kernel
theorem dX1_weight_12 : decode cX1_weight 12 = .ok (.imul, 1) := by decide +kernel
theorem dX1_weight_13 : decode cX1_weight 13 = .ok (.istore_n 1, 1) := by decide +kernel
theorem dX1_weight_14 : decode cX1_weight 14 = .ok (.iinc 2 1, 3) := by decide +kernel
theorem dX1_weight_17 : decode cX1_weight 17 = .ok (.goto (-13), 3) := by decide +kernel
theorem dX1_weight_20 : decode cX1_weight 20 = .ok (.iload_n 1, 1) := by decide +kernel
theorem dX1_weight_21 : decode cX1_weight 21 = .ok (.ireturn, 1) := by decide +kernel
theorem dX1_stateBehind_0 : decode cX1_stateBehind 0 = .ok (.aload_n 0, 1) := by decide +kernel
theorem dX1_stateBehind_1 : decode cX1_stateBehind 1 = .ok (.getfield 18, 3) := by decide +kernel
theorem dX1_stateBehind_4 : decode cX1_stateBehind 4 = .ok (.iload_n 2, 1) := by decide +kernel
theorem dX1_stateBehind_5 : decode cX1_stateBehind 5 = .ok (.iaload, 1) := by decide +kernel
theorem dX1_stateBehind_6 : decode cX1_stateBehind 6 = .ok (.aload_n 0, 1) := by decide +kernel
theorem dX1_stateBehind_7 : decode cX1_stateBehind 7 = .ok (.getfield 18, 3) := by decide +kernel
theorem dX1_stateBehind_10 : decode cX1_stateBehind 10 = .ok (.iload_n 3, 1) := by decide +kernel
theorem dX1_stateBehind_11 : decode cX1_stateBehind 11 = .ok (.iaload, 1) := by decide +kernel
theorem dX1_stateBehind_12 : decode cX1_stateBehind 12 = .ok (.if_icmp .gt 7, 3) := by decide +kernel
theorem dX1_stateBehind_15 : decode cX1_stateBehind 15 = .ok (.iload_n 2, 1) := by decide +kernel
theorem dX1_stateBehind_16 : decode cX1_stateBehind 16 = .ok (.goto 4, 3) := by decide +kernel
theorem dX1_stateBehind_19 : decode cX1_stateBehind 19 = .ok (.iload_n 3, 1) := by decide +kernel
theorem dX1_stateBehind_20 : decode cX1_stateBehind 20 = .ok (.istore 4, 2) := by decide +kernel
theorem dX1_stateBehind_22 : decode cX1_stateBehind 22 = .ok (.iload_n 2, 1) := by decide +kernel
theorem dX1_stateBehind_23 : decode cX1_stateBehind 23 = .ok (.iload_n 3, 1) := by decide +kernel
theorem dX1_stateBehind_24 : decode cX1_stateBehind 24 = .ok (.iadd, 1) := by decide +kernel
theorem dX1_stateBehind_25 : decode cX1_stateBehind 25 = .ok (.iload 4, 2) := by decide +kernel
theorem dX1_stateBehind_27 : decode cX1_stateBehind 27 = .ok (.isub, 1) := by decide +kernel
theorem dX1_stateBehind_28 : decode cX1_stateBehind 28 = .ok (.istore 5, 2) := by decide +kernel
theorem dX1_stateBehind_30 : decode cX1_stateBehind 30 = .ok (.aload_n 0, 1) := by decide +kernel
theorem dX1_stateBehind_31 : decode cX1_stateBehind 31 = .ok (.getfield 18, 3) := by decide +kernel
theorem dX1_stateBehind_34 : decode cX1_stateBehind 34 = .ok (.iload 4, 2) := by decide +kernel
theorem dX1_stateBehind_36 : decode cX1_stateBehind 36 = .ok (.iaload, 1) := by decide +kernel
theorem dX1_stateBehind_37 : decode cX1_stateBehind 37 = .ok (.istore 6, 2) := by decide +kernel
theorem dX1_stateBehind_39 : decode cX1_stateBehind 39 = .ok (.aload_n 0, 1) := by decide +kernel
theorem dX1_stateBehind_40 : decode cX1_stateBehind 40 = .ok (.getfield 18, 3) := by decide +kernel
theorem dX1_stateBehind_43 : decode cX1_stateBehind 43 = .ok (.iload 5, 2) := by decide +kernel
theorem dX1_stateBehind_45 : decode cX1_stateBehind 45 = .ok (.iaload, 1) := by decide +kernel
theorem dX1_stateBehind_46 : decode cX1_stateBehind 46 = .ok (.istore 7, 2) := by decide +kernel
theorem dX1_stateBehind_48 : decode cX1_stateBehind 48 = .ok (.iload 6, 2) := by decide +kernel
theorem dX1_stateBehind_50 : decode cX1_stateBehind 50 = .ok (.iload 7, 2) := by decide +kernel
theorem dX1_stateBehind_52 : decode cX1_stateBehind 52 = .ok (.aload_n 0, 1) := by decide +kernel
theorem dX1_stateBehind_53 : decode cX1_stateBehind 53 = .ok (.getfield 15, 3) := by decide +kernel
theorem dX1_stateBehind_56 : decode cX1_stateBehind 56 = .ok (.iload 4, 2) := by decide +kernel
theorem dX1_stateBehind_58 : decode cX1_stateBehind 58 = .ok (.iaload, 1) := by decide +kernel
theorem dX1_stateBehind_59 : decode cX1_stateBehind 59 = .ok (.aload_n 0, 1) := by decide +kernel
theorem dX1_stateBehind_60 : decode cX1_stateBehind 60 = .ok (.getfield 15, 3) := by decide +kernel
theorem dX1_stateBehind_63 : decode cX1_stateBehind 63 = .ok (.iload 5, 2) := by decide +kernel
theorem dX1_stateBehind_65 : decode cX1_stateBehind 65 = .ok (.iaload, 1) := by decide +kernel
theorem dX1_stateBehind_66 : decode cX1_stateBehind 66 = .ok (.invokestatic 102, 3) := by decide +kernel
theorem dX1_stateBehind_69 : decode cX1_stateBehind 69 = .ok (.iload 6, 2) := by decide +kernel
theorem dX1_stateBehind_71 : decode cX1_stateBehind 71 = .ok (.isub, 1) := by decide +kernel
theorem dX1_stateBehind_72 : decode cX1_stateBehind 72 = .ok (.istore 8, 2) := by decide +kernel
theorem dX1_stateBehind_74 : decode cX1_stateBehind 74 = .ok (.iload 7, 2) := by decide +kernel
theorem dX1_stateBehind_76 : decode cX1_stateBehind 76 = .ok (.iload 6, 2) := by decide +kernel
theorem dX1_stateBehind_78 : decode cX1_stateBehind 78 = .ok (.iload 7, 2) := by decide +kernel
theorem dX1_stateBehind_80 : decode cX1_stateBehind 80 = .ok (.aload_n 0, 1) := by decide +kernel
theorem dX1_stateBehind_81 : decode cX1_stateBehind 81 = .ok (.getfield 15, 3) := by decide +kernel
theorem dX1_stateBehind_84 : decode cX1_stateBehind 84 = .ok (.iload 4, 2) := by decide +kernel
theorem dX1_stateBehind_86 : decode cX1_stateBehind 86 = .ok (.iaload, 1) := by decide +kernel
theorem dX1_stateBehind_87 : decode cX1_stateBehind 87 = .ok (.aload_n 0, 1) := by decide +kernel
theorem dX1_stateBehind_88 : decode cX1_stateBehind 88 = .ok (.getfield 15, 3) := by decide +kernel
theorem dX1_stateBehind_91 : decode cX1_stateBehind 91 = .ok (.iload 5, 2) := by decide +kernel
theorem dX1_stateBehind_93 : decode cX1_stateBehind 93 = .ok (.iaload, 1) := by decide +kernel
theorem dX1_stateBehind_94 : decode cX1_stateBehind 94 = .ok (.invokestatic 106, 3) := by decide +kernel
theorem dX1_stateBehind_97 : decode cX1_stateBehind 97 = .ok (.isub, 1) := by decide +kernel
theorem dX1_stateBehind_98 : decode cX1_stateBehind 98 = .ok (.istore 9, 2) := by decide +kernel
theorem dX1_stateBehind_100 : decode cX1_stateBehind 100 = .ok (.iload_n 1, 1) := by decide +kernel
theorem dX1_stateBehind_101 : decode cX1_stateBehind 101 = .ok (.iload 8, 2) := by decide +kernel
theorem dX1_stateBehind_103 : decode cX1_stateBehind 103 = .ok (.iload 4, 2) := by decide +kernel
theorem dX1_stateBehind_105 : decode cX1_stateBehind 105 = .ok (.invokestatic 109, 3) := by decide +kernel
theorem dX1_stateBehind_108 : decode cX1_stateBehind 108 = .ok (.imul, 1) := by decide +kernel
theorem dX1_stateBehind_109 : decode cX1_stateBehind 109 = .ok (.iadd, 1) := by decide +kernel
theorem dX1_stateBehind_110 : decode cX1_stateBehind 110 = .ok (.iload 9, 2) := by decide +kernel
theorem dX1_stateBehind_112 : decode cX1_stateBehind 112 = .ok (.iload 5, 2) := by decide +kernel
theorem dX1_stateBehind_114 : decode cX1_stateBehind 114 = .ok (.invokestatic 109, 3) := by decide +kernel
theorem dX1_stateBehind_117 : decode cX1_stateBehind 117 = .ok (.imul, 1) := by decide +kernel
theorem dX1_stateBehind_118 : decode cX1_stateBehind 118 = .ok (.isub, 1) := by decide +kernel
theorem dX1_stateBehind_119 : decode cX1_stateBehind 119 = .ok (.ireturn, 1) := by decide +kernel
theorem dX1_comeTo_0 : decode cX1_comeTo 0 = .ok (.aload_n 0, 1) := by decide +kernel
theorem dX1_comeTo_1 : decode cX1_comeTo 1 = .ok (.getfield 24, 3) := by decide +kernel
theorem dX1_comeTo_4 : decode cX1_comeTo 4 = .ok (.iload_n 1, 1) := by decide +kernel
theorem dX1_comeTo_5 : decode cX1_comeTo 5 = .ok (.dup2, 1) := by decide +kernel
theorem dX1_comeTo_6 : decode cX1_comeTo 6 = .ok (.iaload, 1) := by decide +kernel
theorem dX1_comeTo_7 : decode cX1_comeTo 7 = .ok (.iconst 1, 1) := by decide +kernel
theorem dX1_comeTo_8 : decode cX1_comeTo 8 = .ok (.iadd, 1) := by decide +kernel
theorem dX1_comeTo_9 : decode cX1_comeTo 9 = .ok (.iastore, 1) := by decide +kernel
theorem dX1_comeTo_10 : decode cX1_comeTo 10 = .ok (.aload_n 0, 1) := by decide +kernel
theorem dX1_comeTo_11 : decode cX1_comeTo 11 = .ok (.getfield 21, 3) := by decide +kernel
theorem dX1_comeTo_14 : decode cX1_comeTo 14 = .ok (.iload_n 1, 1) := by decide +kernel
theorem dX1_comeTo_15 : decode cX1_comeTo 15 = .ok (.iaload, 1) := by decide +kernel
theorem dX1_comeTo_16 : decode cX1_comeTo 16 = .ok (.ifCond .ne 40, 3) := by decide +kernel
theorem dX1_comeTo_19 : decode cX1_comeTo 19 = .ok (.aload_n 0, 1) := by decide +kernel
theorem dX1_comeTo_20 : decode cX1_comeTo 20 = .ok (.getfield 37, 3) := by decide +kernel
theorem dX1_comeTo_23 : decode cX1_comeTo 23 = .ok (.sipush 6561, 3) := by decide +kernel
theorem dX1_comeTo_26 : decode cX1_comeTo 26 = .ok (.if_icmp .ge 30, 3) := by decide +kernel
theorem dX1_comeTo_29 : decode cX1_comeTo 29 = .ok (.aload_n 0, 1) := by decide +kernel
theorem dX1_comeTo_30 : decode cX1_comeTo 30 = .ok (.getfield 21, 3) := by decide +kernel
theorem dX1_comeTo_33 : decode cX1_comeTo 33 = .ok (.iload_n 1, 1) := by decide +kernel
theorem dX1_comeTo_34 : decode cX1_comeTo 34 = .ok (.iload_n 2, 1) := by decide +kernel
theorem dX1_comeTo_35 : decode cX1_comeTo 35 = .ok (.iastore, 1) := by decide +kernel
theorem dX1_comeTo_36 : decode cX1_comeTo 36 = .ok (.aload_n 0, 1) := by decide +kernel
theorem dX1_comeTo_37 : decode cX1_comeTo 37 = .ok (.getfield 27, 3) := by decide +kernel
theorem dX1_comeTo_40 : decode cX1_comeTo 40 = .ok (.aload_n 0, 1) := by decide +kernel
theorem dX1_comeTo_41 : decode cX1_comeTo 41 = .ok (.getfield 37, 3) := by decide +kernel
theorem dX1_comeTo_44 : decode cX1_comeTo 44 = .ok (.iload_n 1, 1) := by decide +kernel
theorem dX1_comeTo_45 : decode cX1_comeTo 45 = .ok (.iastore, 1) := by decide +kernel
theorem dX1_comeTo_46 : decode cX1_comeTo 46 = .ok (.aload_n 0, 1) := by decide +kernel
theorem dX1_comeTo_47 : decode cX1_comeTo 47 = .ok (.dup, 1) := by decide +kernel
theorem dX1_comeTo_48 : decode cX1_comeTo 48 = .ok (.getfield 37, 3) := by decide +kernel
theorem dX1_comeTo_51 : decode cX1_comeTo 51 = .ok (.iconst 1, 1) := by decide +kernel
theorem dX1_comeTo_52 : decode cX1_comeTo 52 = .ok (.iadd, 1) := by decide +kernel
theorem dX1_comeTo_53 : decode cX1_comeTo 53 = .ok (.putfield 37, 3) := by decide +kernel
theorem dX1_comeTo_56 : decode cX1_comeTo 56 = .ok (.return_, 1) := by decide +kernel
theorem dX1_findAll_0 : decode cX1_findAll 0 = .ok (.aload_n 0, 1) := by decide +kernel
theorem dX1_findAll_1 : decode cX1_findAll 1 = .ok (.getfield 21, 3) := by decide +kernel
theorem dX1_findAll_4 : decode cX1_findAll 4 = .ok (.iconst 0, 1) := by decide +kernel
theorem dX1_findAll_5 : decode cX1_findAll 5 = .ok (.invokestatic 65, 3) := by decide +kernel
theorem dX1_findAll_8 : decode cX1_findAll 8 = .ok (.aload_n 0, 1) := by decide +kernel
theorem dX1_findAll_9 : decode cX1_findAll 9 = .ok (.getfield 24, 3) := by decide +kernel
theorem dX1_findAll_12 : decode cX1_findAll 12 = .ok (.iconst 0, 1) := by decide +kernel
theorem dX1_findAll_13 : decode cX1_findAll 13 = .ok (.invokestatic 65, 3) := by decide +kernel
theorem dX1_findAll_16 : decode cX1_findAll 16 = .ok (.aload_n 0, 1) := by decide +kernel
theorem dX1_findAll_17 : decode cX1_findAll 17 = .ok (.iconst (-1), 1) := by decide +kernel
theorem dX1_findAll_18 : decode cX1_findAll 18 = .ok (.putfield 40, 3) := by decide +kernel
theorem dX1_findAll_21 : decode cX1_findAll 21 = .ok (.aload_n 0, 1) := by decide +kernel
theorem dX1_findAll_22 : decode cX1_findAll 22 = .ok (.getfield 21, 3) := by decide +kernel
theorem dX1_findAll_25 : decode cX1_findAll 25 = .ok (.iload_n 1, 1) := by decide +kernel
theorem dX1_findAll_26 : decode cX1_findAll 26 = .ok (.iconst 1, 1) := by decide +kernel
theorem dX1_findAll_27 : decode cX1_findAll 27 = .ok (.iastore, 1) := by decide +kernel
theorem dX1_findAll_28 : decode cX1_findAll 28 = .ok (.aload_n 0, 1) := by decide +kernel
theorem dX1_findAll_29 : decode cX1_findAll 29 = .ok (.getfield 27, 3) := by decide +kernel
theorem dX1_findAll_32 : decode cX1_findAll 32 = .ok (.iconst 0, 1) := by decide +kernel
theorem dX1_findAll_33 : decode cX1_findAll 33 = .ok (.iload_n 1, 1) := by decide +kernel
theorem dX1_findAll_34 : decode cX1_findAll 34 = .ok (.iastore, 1) := by decide +kernel
theorem dX1_findAll_35 : decode cX1_findAll 35 = .ok (.aload_n 0, 1) := by decide +kernel
theorem dX1_findAll_36 : decode cX1_findAll 36 = .ok (.iconst 1, 1) := by decide +kernel
theorem dX1_findAll_37 : decode cX1_findAll 37 = .ok (.putfield 37, 3) := by decide +kernel
theorem dX1_findAll_40 : decode cX1_findAll 40 = .ok (.iconst 0, 1) := by decide +kernel
theorem dX1_findAll_41 : decode cX1_findAll 41 = .ok (.istore_n 2, 1) := by decide +kernel
theorem dX1_findAll_42 : decode cX1_findAll 42 = .ok (.iload_n 2, 1) := by decide +kernel
theorem dX1_findAll_43 : decode cX1_findAll 43 = .ok (.aload_n 0, 1) := by decide +kernel
theorem dX1_findAll_44 : decode cX1_findAll 44 = .ok (.getfield 37, 3) := by decide +kernel
theorem dX1_findAll_47 : decode cX1_findAll 47 = .ok (.if_icmp .ge 140, 3) := by decide +kernel
theorem dX1_findAll_50 : decode cX1_findAll 50 = .ok (.iload_n 2, 1) := by decide +kernel
theorem dX1_findAll_51 : decode cX1_findAll 51 = .ok (.sipush 6561, 3) := by decide +kernel
theorem dX1_findAll_54 : decode cX1_findAll 54 = .ok (.if_icmp .ge 133, 3) := by decide +kernel
theorem dX1_findAll_57 : decode cX1_findAll 57 = .ok (.aload_n 0, 1) := by decide +kernel
theorem dX1_findAll_58 : decode cX1_findAll 58 = .ok (.aload_n 0, 1) := by decide +kernel
theorem dX1_findAll_59 : decode cX1_findAll 59 = .ok (.getfield 27, 3) := by decide +kernel
theorem dX1_findAll_62 : decode cX1_findAll 62 = .ok (.iload_n 2, 1) := by decide +kernel
theorem dX1_findAll_63 : decode cX1_findAll 63 = .ok (.iaload, 1) := by decide +kernel
theorem dX1_findAll_64 : decode cX1_findAll 64 = .ok (.invokevirtual 71, 3) := by decide +kernel
theorem dX1_findAll_67 : decode cX1_findAll 67 = .ok (.iconst 1, 1) := by decide +kernel
theorem dX1_findAll_68 : decode cX1_findAll 68 = .ok (.istore_n 3, 1) := by decide +kernel
theorem dX1_findAll_69 : decode cX1_findAll 69 = .ok (.iconst 0, 1) := by decide +kernel
theorem dX1_findAll_70 : decode cX1_findAll 70 = .ok (.istore 4, 2) := by decide +kernel
theorem dX1_findAll_72 : decode cX1_findAll 72 = .ok (.iload 4, 2) := by decide +kernel
theorem dX1_findAll_74 : decode cX1_findAll 74 = .ok (.aload_n 0, 1) := by decide +kernel
theorem dX1_findAll_75 : decode cX1_findAll 75 = .ok (.getfield 30, 3) := by decide +kernel
theorem dX1_findAll_78 : decode cX1_findAll 78 = .ok (.if_icmp .ge 74, 3) := by decide +kernel
theorem dX1_findAll_81 : decode cX1_findAll 81 = .ok (.iload 4, 2) := by decide +kernel
theorem dX1_findAll_83 : decode cX1_findAll 83 = .ok (.iconst 1, 1) := by decide +kernel
theorem dX1_findAll_84 : decode cX1_findAll 84 = .ok (.iadd, 1) := by decide +kernel
theorem dX1_findAll_85 : decode cX1_findAll 85 = .ok (.istore 5, 2) := by decide +kernel
theorem dX1_findAll_87 : decode cX1_findAll 87 = .ok (.iload 5, 2) := by decide +kernel
theorem dX1_findAll_89 : decode cX1_findAll 89 = .ok (.aload_n 0, 1) := by decide +kernel
theorem dX1_findAll_90 : decode cX1_findAll 90 = .ok (.getfield 30, 3) := by decide +kernel
theorem dX1_findAll_93 : decode cX1_findAll 93 = .ok (.if_icmp .ge 53, 3) := by decide +kernel
theorem dX1_findAll_96 : decode cX1_findAll 96 = .ok (.aload_n 0, 1) := by decide +kernel
theorem dX1_findAll_97 : decode cX1_findAll 97 = .ok (.iload 4, 2) := by decide +kernel
theorem dX1_findAll_99 : decode cX1_findAll 99 = .ok (.iload 5, 2) := by decide +kernel
theorem dX1_findAll_101 : decode cX1_findAll 101 = .ok (.invokevirtual 74, 3) := by decide +kernel
theorem dX1_findAll_104 : decode cX1_findAll 104 = .ok (.ifCond .eq 36, 3) := by decide +kernel
theorem dX1_findAll_107 : decode cX1_findAll 107 = .ok (.iconst 0, 1) := by decide +kernel
theorem dX1_findAll_108 : decode cX1_findAll 108 = .ok (.istore_n 3, 1) := by decide +kernel
theorem dX1_findAll_109 : decode cX1_findAll 109 = .ok (.aload_n 0, 1) := by decide +kernel
theorem dX1_findAll_110 : decode cX1_findAll 110 = .ok (.aload_n 0, 1) := by decide +kernel
theorem dX1_findAll_111 : decode cX1_findAll 111 = .ok (.aload_n 0, 1) := by decide +kernel
theorem dX1_findAll_112 : decode cX1_findAll 112 = .ok (.getfield 27, 3) := by decide +kernel
theorem dX1_findAll_115 : decode cX1_findAll 115 = .ok (.iload_n 2, 1) := by decide +kernel
theorem dX1_findAll_116 : decode cX1_findAll 116 = .ok (.iaload, 1) := by decide +kernel
theorem dX1_findAll_117 : decode cX1_findAll 117 = .ok (.iload 4, 2) := by decide +kernel
theorem dX1_findAll_119 : decode cX1_findAll 119 = .ok (.iload 5, 2) := by decide +kernel
theorem dX1_findAll_121 : decode cX1_findAll 121 = .ok (.invokevirtual 78, 3) := by decide +kernel
theorem dX1_findAll_124 : decode cX1_findAll 124 = .ok (.aload_n 0, 1) := by decide +kernel
theorem dX1_findAll_125 : decode cX1_findAll 125 = .ok (.getfield 21, 3) := by decide +kernel
theorem dX1_findAll_128 : decode cX1_findAll 128 = .ok (.aload_n 0, 1) := by decide +kernel
theorem dX1_findAll_129 : decode cX1_findAll 129 = .ok (.getfield 27, 3) := by decide +kernel
theorem dX1_findAll_132 : decode cX1_findAll 132 = .ok (.iload_n 2, 1) := by decide +kernel
theorem dX1_findAll_133 : decode cX1_findAll 133 = .ok (.iaload, 1) := by decide +kernel
theorem dX1_findAll_134 : decode cX1_findAll 134 = .ok (.iaload, 1) := by decide +kernel
theorem dX1_findAll_135 : decode cX1_findAll 135 = .ok (.iconst 1, 1) := by decide +kernel
theorem dX1_findAll_136 : decode cX1_findAll 136 = .ok (.iadd, 1) := by decide +kernel
theorem dX1_findAll_137 : decode cX1_findAll 137 = .ok (.invokevirtual 82, 3) := by decide +kernel
theorem dX1_findAll_140 : decode cX1_findAll 140 = .ok (.iinc 5 1, 3) := by decide +kernel
theorem dX1_findAll_143 : decode cX1_findAll 143 = .ok (.goto (-56), 3) := by decide +kernel
theorem dX1_findAll_146 : decode cX1_findAll 146 = .ok (.iinc 4 1, 3) := by decide +kernel
theorem dX1_findAll_149 : decode cX1_findAll 149 = .ok (.goto (-77), 3) := by decide +kernel
theorem dX1_findAll_152 : decode cX1_findAll 152 = .ok (.iload_n 3, 1) := by decide +kernel
theorem dX1_findAll_153 : decode cX1_findAll 153 = .ok (.ifCond .eq 28, 3) := by decide +kernel
theorem dX1_findAll_156 : decode cX1_findAll 156 = .ok (.aload_n 0, 1) := by decide +kernel
theorem dX1_findAll_157 : decode cX1_findAll 157 = .ok (.getfield 40, 3) := by decide +kernel
theorem dX1_findAll_160 : decode cX1_findAll 160 = .ok (.iconst (-1), 1) := by decide +kernel
theorem dX1_findAll_161 : decode cX1_findAll 161 = .ok (.if_icmp .ne 20, 3) := by decide +kernel
theorem dX1_findAll_164 : decode cX1_findAll 164 = .ok (.aload_n 0, 1) := by decide +kernel
theorem dX1_findAll_165 : decode cX1_findAll 165 = .ok (.aload_n 0, 1) := by decide +kernel
theorem dX1_findAll_166 : decode cX1_findAll 166 = .ok (.getfield 21, 3) := by decide +kernel
theorem dX1_findAll_169 : decode cX1_findAll 169 = .ok (.aload_n 0, 1) := by decide +kernel
theorem dX1_findAll_170 : decode cX1_findAll 170 = .ok (.getfield 27, 3) := by decide +kernel
theorem dX1_findAll_173 : decode cX1_findAll 173 = .ok (.iload_n 2, 1) := by decide +kernel
theorem dX1_findAll_174 : decode cX1_findAll 174 = .ok (.iaload, 1) := by decide +kernel
theorem dX1_findAll_175 : decode cX1_findAll 175 = .ok (.iaload, 1) := by decide +kernel
theorem dX1_findAll_176 : decode cX1_findAll 176 = .ok (.iconst 1, 1) := by decide +kernel
theorem dX1_findAll_177 : decode cX1_findAll 177 = .ok (.isub, 1) := by decide +kernel
theorem dX1_findAll_178 : decode cX1_findAll 178 = .ok (.putfield 40, 3) := by decide +kernel
theorem dX1_findAll_181 : decode cX1_findAll 181 = .ok (.iinc 2 1, 3) := by decide +kernel
theorem dX1_findAll_184 : decode cX1_findAll 184 = .ok (.goto (-142), 3) := by decide +kernel
theorem dX1_findAll_187 : decode cX1_findAll 187 = .ok (.return_, 1) := by decide +kernel
theorem dX1_gather_0 : decode cX1_gather 0 = .ok (.aload_n 0, 1) := by decide +kernel
theorem dX1_gather_1 : decode cX1_gather 1 = .ok (.iconst 0, 1) := by decide +kernel
theorem dX1_gather_2 : decode cX1_gather 2 = .ok (.putfield 30, 3) := by decide +kernel
theorem dX1_gather_5 : decode cX1_gather 5 = .ok (.aload_n 0, 1) := by decide +kernel
theorem dX1_gather_6 : decode cX1_gather 6 = .ok (.aload_n 1, 1) := by decide +kernel
theorem dX1_gather_7 : decode cX1_gather 7 = .ok (.getfield 47, 3) := by decide +kernel
theorem dX1_gather_10 : decode cX1_gather 10 = .ok (.putfield 34, 3) := by decide +kernel
theorem dX1_gather_13 : decode cX1_gather 13 = .ok (.iconst 0, 1) := by decide +kernel
theorem dX1_gather_14 : decode cX1_gather 14 = .ok (.istore 4, 2) := by decide +kernel
theorem dX1_gather_16 : decode cX1_gather 16 = .ok (.aload_n 0, 1) := by decide +kernel
theorem dX1_gather_17 : decode cX1_gather 17 = .ok (.getfield 43, 3) := by decide +kernel
theorem dX1_gather_20 : decode cX1_gather 20 = .ok (.getfield 50, 3) := by decide +kernel
theorem dX1_gather_23 : decode cX1_gather 23 = .ok (.iconst 1, 1) := by decide +kernel
theorem dX1_gather_24 : decode cX1_gather 24 = .ok (.isub, 1) := by decide +kernel
theorem dX1_gather_25 : decode cX1_gather 25 = .ok (.istore 5, 2) := by decide +kernel
theorem dX1_gather_27 : decode cX1_gather 27 = .ok (.iload 5, 2) := by decide +kernel
theorem dX1_gather_29 : decode cX1_gather 29 = .ok (.ifCond .lt 63, 3) := by decide +kernel
theorem dX1_gather_32 : decode cX1_gather 32 = .ok (.iload_n 2, 1) := by decide +kernel
theorem dX1_gather_33 : decode cX1_gather 33 = .ok (.iload 5, 2) := by decide +kernel
theorem dX1_gather_35 : decode cX1_gather 35 = .ok (.ishr, 1) := by decide +kernel
theorem dX1_gather_36 : decode cX1_gather 36 = .ok (.iconst 1, 1) := by decide +kernel
theorem dX1_gather_37 : decode cX1_gather 37 = .ok (.iand, 1) := by decide +kernel
theorem dX1_gather_38 : decode cX1_gather 38 = .ok (.ifCond .eq 48, 3) := by decide +kernel
theorem dX1_gather_41 : decode cX1_gather 41 = .ok (.aload_n 0, 1) := by decide +kernel
theorem dX1_gather_42 : decode cX1_gather 42 = .ok (.getfield 30, 3) := by decide +kernel
theorem dX1_gather_45 : decode cX1_gather 45 = .ok (.iconst 4, 1) := by decide +kernel
theorem dX1_gather_46 : decode cX1_gather 46 = .ok (.if_icmp .ge 40, 3) := by decide +kernel
theorem dX1_gather_49 : decode cX1_gather 49 = .ok (.aload_n 0, 1) := by decide +kernel
theorem dX1_gather_50 : decode cX1_gather 50 = .ok (.getfield 11, 3) := by decide +kernel
theorem dX1_gather_53 : decode cX1_gather 53 = .ok (.aload_n 0, 1) := by decide +kernel
theorem dX1_gather_54 : decode cX1_gather 54 = .ok (.getfield 30, 3) := by decide +kernel
theorem dX1_gather_57 : decode cX1_gather 57 = .ok (.iload 5, 2) := by decide +kernel
theorem dX1_gather_59 : decode cX1_gather 59 = .ok (.iastore, 1) := by decide +kernel
theorem dX1_gather_60 : decode cX1_gather 60 = .ok (.aload_n 0, 1) := by decide +kernel
theorem dX1_gather_61 : decode cX1_gather 61 = .ok (.getfield 15, 3) := by decide +kernel
theorem dX1_gather_64 : decode cX1_gather 64 = .ok (.aload_n 0, 1) := by decide +kernel
theorem dX1_gather_65 : decode cX1_gather 65 = .ok (.getfield 30, 3) := by decide +kernel
theorem dX1_gather_68 : decode cX1_gather 68 = .ok (.aload_n 1, 1) := by decide +kernel
theorem dX1_gather_69 : decode cX1_gather 69 = .ok (.getfield 55, 3) := by decide +kernel
theorem dX1_gather_72 : decode cX1_gather 72 = .ok (.iload 5, 2) := by decide +kernel
theorem dX1_gather_74 : decode cX1_gather 74 = .ok (.iaload, 1) := by decide +kernel
theorem dX1_gather_75 : decode cX1_gather 75 = .ok (.iastore, 1) := by decide +kernel
theorem dX1_gather_76 : decode cX1_gather 76 = .ok (.aload_n 0, 1) := by decide +kernel
theorem dX1_gather_77 : decode cX1_gather 77 = .ok (.dup, 1) := by decide +kernel
theorem dX1_gather_78 : decode cX1_gather 78 = .ok (.getfield 30, 3) := by decide +kernel
theorem dX1_gather_81 : decode cX1_gather 81 = .ok (.iconst 1, 1) := by decide +kernel
theorem dX1_gather_82 : decode cX1_gather 82 = .ok (.iadd, 1) := by decide +kernel
theorem dX1_gather_83 : decode cX1_gather 83 = .ok (.putfield 30, 3) := by decide +kernel
theorem dX1_gather_86 : decode cX1_gather 86 = .ok (.iinc 5 (-1), 3) := by decide +kernel
theorem dX1_gather_89 : decode cX1_gather 89 = .ok (.goto (-62), 3) := by decide +kernel
theorem dX1_gather_92 : decode cX1_gather 92 = .ok (.aload_n 0, 1) := by decide +kernel
theorem dX1_gather_93 : decode cX1_gather 93 = .ok (.getfield 30, 3) := by decide +kernel
theorem dX1_gather_96 : decode cX1_gather 96 = .ok (.iconst 1, 1) := by decide +kernel
theorem dX1_gather_97 : decode cX1_gather 97 = .ok (.isub, 1) := by decide +kernel
theorem dX1_gather_98 : decode cX1_gather 98 = .ok (.istore 5, 2) := by decide +kernel
theorem dX1_gather_100 : decode cX1_gather 100 = .ok (.iload 5, 2) := by decide +kernel
theorem dX1_gather_102 : decode cX1_gather 102 = .ok (.ifCond .lt 29, 3) := by decide +kernel
theorem dX1_gather_105 : decode cX1_gather 105 = .ok (.iload 4, 2) := by decide +kernel
theorem dX1_gather_107 : decode cX1_gather 107 = .ok (.bipush 9, 2) := by decide +kernel
theorem dX1_gather_109 : decode cX1_gather 109 = .ok (.imul, 1) := by decide +kernel
theorem dX1_gather_110 : decode cX1_gather 110 = .ok (.aload_n 1, 1) := by decide +kernel
theorem dX1_gather_111 : decode cX1_gather 111 = .ok (.aload_n 0, 1) := by decide +kernel
theorem dX1_gather_112 : decode cX1_gather 112 = .ok (.getfield 11, 3) := by decide +kernel
theorem dX1_gather_115 : decode cX1_gather 115 = .ok (.iload 5, 2) := by decide +kernel
theorem dX1_gather_117 : decode cX1_gather 117 = .ok (.iaload, 1) := by decide +kernel
theorem dX1_gather_118 : decode cX1_gather 118 = .ok (.iload_n 3, 1) := by decide +kernel
theorem dX1_gather_119 : decode cX1_gather 119 = .ok (.invokevirtual 58, 3) := by decide +kernel
theorem dX1_gather_122 : decode cX1_gather 122 = .ok (.iadd, 1) := by decide +kernel
theorem dX1_gather_123 : decode cX1_gather 123 = .ok (.istore 4, 2) := by decide +kernel
theorem dX1_gather_125 : decode cX1_gather 125 = .ok (.iinc 5 (-1), 3) := by decide +kernel
theorem dX1_gather_128 : decode cX1_gather 128 = .ok (.goto (-28), 3) := by decide +kernel
theorem dX1_gather_131 : decode cX1_gather 131 = .ok (.aload_n 0, 1) := by decide +kernel
theorem dX1_gather_132 : decode cX1_gather 132 = .ok (.iload 4, 2) := by decide +kernel
theorem dX1_gather_134 : decode cX1_gather 134 = .ok (.invokevirtual 61, 3) := by decide +kernel
theorem dX1_gather_137 : decode cX1_gather 137 = .ok (.return_, 1) := by decide +kernel
theorem dX1_isReadyBehind_0 : decode cX1_isReadyBehind 0 = .ok (.aload_n 0, 1) := by decide +kernel
theorem dX1_isReadyBehind_1 : decode cX1_isReadyBehind 1 = .ok (.getfield 21, 3) := by decide +kernel
theorem dX1_isReadyBehind_4 : decode cX1_isReadyBehind 4 = .ok (.iload_n 2, 1) := by decide +kernel
theorem dX1_isReadyBehind_5 : decode cX1_isReadyBehind 5 = .ok (.aload_n 0, 1) := by decide +kernel
theorem dX1_isReadyBehind_6 : decode cX1_isReadyBehind 6 = .ok (.getfield 21, 3) := by decide +kernel
theorem dX1_isReadyBehind_9 : decode cX1_isReadyBehind 9 = .ok (.iload_n 2, 1) := by decide +kernel
theorem dX1_isReadyBehind_10 : decode cX1_isReadyBehind 10 = .ok (.iaload, 1) := by decide +kernel
theorem dX1_isReadyBehind_11 : decode cX1_isReadyBehind 11 = .ok (.aload_n 0, 1) := by decide +kernel
theorem dX1_isReadyBehind_12 : decode cX1_isReadyBehind 12 = .ok (.getfield 21, 3) := by decide +kernel
theorem dX1_isReadyBehind_15 : decode cX1_isReadyBehind 15 = .ok (.iload_n 1, 1) := by decide +kernel
theorem dX1_isReadyBehind_16 : decode cX1_isReadyBehind 16 = .ok (.iaload, 1) := by decide +kernel
theorem dX1_isReadyBehind_17 : decode cX1_isReadyBehind 17 = .ok (.iconst 1, 1) := by decide +kernel
theorem dX1_isReadyBehind_18 : decode cX1_isReadyBehind 18 = .ok (.iadd, 1) := by decide +kernel
theorem dX1_isReadyBehind_19 : decode cX1_isReadyBehind 19 = .ok (.invokestatic 86, 3) := by decide +kernel
theorem dX1_isReadyBehind_22 : decode cX1_isReadyBehind 22 = .ok (.iastore, 1) := by decide +kernel
theorem dX1_isReadyBehind_23 : decode cX1_isReadyBehind 23 = .ok (.aload_n 0, 1) := by decide +kernel
theorem dX1_isReadyBehind_24 : decode cX1_isReadyBehind 24 = .ok (.getfield 24, 3) := by decide +kernel
theorem dX1_isReadyBehind_27 : decode cX1_isReadyBehind 27 = .ok (.iload_n 2, 1) := by decide +kernel
theorem dX1_isReadyBehind_28 : decode cX1_isReadyBehind 28 = .ok (.dup2, 1) := by decide +kernel
theorem dX1_isReadyBehind_29 : decode cX1_isReadyBehind 29 = .ok (.iaload, 1) := by decide +kernel
theorem dX1_isReadyBehind_30 : decode cX1_isReadyBehind 30 = .ok (.iconst 1, 1) := by decide +kernel
theorem dX1_isReadyBehind_31 : decode cX1_isReadyBehind 31 = .ok (.isub, 1) := by decide +kernel
theorem dX1_isReadyBehind_32 : decode cX1_isReadyBehind 32 = .ok (.iastore, 1) := by decide +kernel
theorem dX1_isReadyBehind_33 : decode cX1_isReadyBehind 33 = .ok (.aload_n 0, 1) := by decide +kernel
theorem dX1_isReadyBehind_34 : decode cX1_isReadyBehind 34 = .ok (.getfield 24, 3) := by decide +kernel
theorem dX1_isReadyBehind_37 : decode cX1_isReadyBehind 37 = .ok (.iload_n 2, 1) := by decide +kernel
theorem dX1_isReadyBehind_38 : decode cX1_isReadyBehind 38 = .ok (.iaload, 1) := by decide +kernel
theorem dX1_isReadyBehind_39 : decode cX1_isReadyBehind 39 = .ok (.ifCond .ne 10, 3) := by decide +kernel
theorem dX1_isReadyBehind_42 : decode cX1_isReadyBehind 42 = .ok (.iload_n 3, 1) := by decide +kernel
theorem dX1_isReadyBehind_43 : decode cX1_isReadyBehind 43 = .ok (.sipush 6561, 3) := by decide +kernel
theorem dX1_isReadyBehind_46 : decode cX1_isReadyBehind 46 = .ok (.if_icmp .lt 5, 3) := by decide +kernel
theorem dX1_isReadyBehind_49 : decode cX1_isReadyBehind 49 = .ok (.iconst 0, 1) := by decide +kernel
theorem dX1_isReadyBehind_50 : decode cX1_isReadyBehind 50 = .ok (.ireturn, 1) := by decide +kernel
theorem dX1_isReadyBehind_51 : decode cX1_isReadyBehind 51 = .ok (.aload_n 0, 1) := by decide +kernel
theorem dX1_isReadyBehind_52 : decode cX1_isReadyBehind 52 = .ok (.getfield 27, 3) := by decide +kernel
theorem dX1_isReadyBehind_55 : decode cX1_isReadyBehind 55 = .ok (.iload_n 3, 1) := by decide +kernel
theorem dX1_isReadyBehind_56 : decode cX1_isReadyBehind 56 = .ok (.iload_n 2, 1) := by decide +kernel
theorem dX1_isReadyBehind_57 : decode cX1_isReadyBehind 57 = .ok (.iastore, 1) := by decide +kernel
theorem dX1_isReadyBehind_58 : decode cX1_isReadyBehind 58 = .ok (.iconst 1, 1) := by decide +kernel
theorem dX1_isReadyBehind_59 : decode cX1_isReadyBehind 59 = .ok (.ireturn, 1) := by decide +kernel
theorem dX1_mostWorks_0 : decode cX1_mostWorks 0 = .ok (.aload_n 0, 1) := by decide +kernel
theorem dX1_mostWorks_1 : decode cX1_mostWorks 1 = .ok (.getfield 24, 3) := by decide +kernel
theorem dX1_mostWorks_4 : decode cX1_mostWorks 4 = .ok (.aload_n 0, 1) := by decide +kernel
theorem dX1_mostWorks_5 : decode cX1_mostWorks 5 = .ok (.getfield 27, 3) := by decide +kernel
theorem dX1_mostWorks_8 : decode cX1_mostWorks 8 = .ok (.iconst 0, 1) := by decide +kernel
theorem dX1_mostWorks_9 : decode cX1_mostWorks 9 = .ok (.iaload, 1) := by decide +kernel
theorem dX1_mostWorks_10 : decode cX1_mostWorks 10 = .ok (.iaload, 1) := by decide +kernel
theorem dX1_mostWorks_11 : decode cX1_mostWorks 11 = .ok (.ifCond .ne 7, 3) := by decide +kernel
theorem dX1_mostWorks_14 : decode cX1_mostWorks 14 = .ok (.iconst 1, 1) := by decide +kernel
theorem dX1_mostWorks_15 : decode cX1_mostWorks 15 = .ok (.goto 4, 3) := by decide +kernel
theorem dX1_mostWorks_18 : decode cX1_mostWorks 18 = .ok (.iconst 0, 1) := by decide +kernel
theorem dX1_mostWorks_19 : decode cX1_mostWorks 19 = .ok (.istore_n 1, 1) := by decide +kernel
theorem dX1_mostWorks_20 : decode cX1_mostWorks 20 = .ok (.iconst 0, 1) := by decide +kernel
theorem dX1_mostWorks_21 : decode cX1_mostWorks 21 = .ok (.istore_n 2, 1) := by decide +kernel
theorem dX1_mostWorks_22 : decode cX1_mostWorks 22 = .ok (.iconst 0, 1) := by decide +kernel
theorem dX1_mostWorks_23 : decode cX1_mostWorks 23 = .ok (.istore_n 3, 1) := by decide +kernel
theorem dX1_mostWorks_24 : decode cX1_mostWorks 24 = .ok (.iload_n 3, 1) := by decide +kernel
theorem dX1_mostWorks_25 : decode cX1_mostWorks 25 = .ok (.iload_n 1, 1) := by decide +kernel
theorem dX1_mostWorks_26 : decode cX1_mostWorks 26 = .ok (.if_icmp .ge 122, 3) := by decide +kernel
theorem dX1_mostWorks_29 : decode cX1_mostWorks 29 = .ok (.iload_n 3, 1) := by decide +kernel
theorem dX1_mostWorks_30 : decode cX1_mostWorks 30 = .ok (.sipush 6561, 3) := by decide +kernel
theorem dX1_mostWorks_33 : decode cX1_mostWorks 33 = .ok (.if_icmp .ge 115, 3) := by decide +kernel
theorem dX1_mostWorks_36 : decode cX1_mostWorks 36 = .ok (.aload_n 0, 1) := by decide +kernel
theorem dX1_mostWorks_37 : decode cX1_mostWorks 37 = .ok (.getfield 27, 3) := by decide +kernel
theorem dX1_mostWorks_40 : decode cX1_mostWorks 40 = .ok (.iload_n 3, 1) := by decide +kernel
theorem dX1_mostWorks_41 : decode cX1_mostWorks 41 = .ok (.iaload, 1) := by decide +kernel
theorem dX1_mostWorks_42 : decode cX1_mostWorks 42 = .ok (.istore 4, 2) := by decide +kernel
theorem dX1_mostWorks_44 : decode cX1_mostWorks 44 = .ok (.iload_n 2, 1) := by decide +kernel
theorem dX1_mostWorks_45 : decode cX1_mostWorks 45 = .ok (.aload_n 0, 1) := by decide +kernel
theorem dX1_mostWorks_46 : decode cX1_mostWorks 46 = .ok (.getfield 21, 3) := by decide +kernel
theorem dX1_mostWorks_49 : decode cX1_mostWorks 49 = .ok (.iload 4, 2) := by decide +kernel
theorem dX1_mostWorks_51 : decode cX1_mostWorks 51 = .ok (.iaload, 1) := by decide +kernel
theorem dX1_mostWorks_52 : decode cX1_mostWorks 52 = .ok (.iconst 1, 1) := by decide +kernel
theorem dX1_mostWorks_53 : decode cX1_mostWorks 53 = .ok (.isub, 1) := by decide +kernel
theorem dX1_mostWorks_54 : decode cX1_mostWorks 54 = .ok (.invokestatic 86, 3) := by decide +kernel
theorem dX1_mostWorks_57 : decode cX1_mostWorks 57 = .ok (.istore_n 2, 1) := by decide +kernel
theorem dX1_mostWorks_58 : decode cX1_mostWorks 58 = .ok (.aload_n 0, 1) := by decide +kernel
theorem dX1_mostWorks_59 : decode cX1_mostWorks 59 = .ok (.iload 4, 2) := by decide +kernel
theorem dX1_mostWorks_61 : decode cX1_mostWorks 61 = .ok (.invokevirtual 71, 3) := by decide +kernel
theorem dX1_mostWorks_64 : decode cX1_mostWorks 64 = .ok (.iconst 0, 1) := by decide +kernel
theorem dX1_mostWorks_65 : decode cX1_mostWorks 65 = .ok (.istore 5, 2) := by decide +kernel
theorem dX1_mostWorks_67 : decode cX1_mostWorks 67 = .ok (.iload 5, 2) := by decide +kernel
theorem dX1_mostWorks_69 : decode cX1_mostWorks 69 = .ok (.aload_n 0, 1) := by decide +kernel
theorem dX1_mostWorks_70 : decode cX1_mostWorks 70 = .ok (.getfield 30, 3) := by decide +kernel
theorem dX1_mostWorks_73 : decode cX1_mostWorks 73 = .ok (.if_icmp .ge 69, 3) := by decide +kernel
theorem dX1_mostWorks_76 : decode cX1_mostWorks 76 = .ok (.iload 5, 2) := by decide +kernel
theorem dX1_mostWorks_78 : decode cX1_mostWorks 78 = .ok (.iconst 1, 1) := by decide +kernel
theorem dX1_mostWorks_79 : decode cX1_mostWorks 79 = .ok (.iadd, 1) := by decide +kernel
theorem dX1_mostWorks_80 : decode cX1_mostWorks 80 = .ok (.istore 6, 2) := by decide +kernel
theorem dX1_mostWorks_82 : decode cX1_mostWorks 82 = .ok (.iload 6, 2) := by decide +kernel
theorem dX1_mostWorks_84 : decode cX1_mostWorks 84 = .ok (.aload_n 0, 1) := by decide +kernel
theorem dX1_mostWorks_85 : decode cX1_mostWorks 85 = .ok (.getfield 30, 3) := by decide +kernel
theorem dX1_mostWorks_88 : decode cX1_mostWorks 88 = .ok (.if_icmp .ge 48, 3) := by decide +kernel
theorem dX1_mostWorks_91 : decode cX1_mostWorks 91 = .ok (.iload_n 1, 1) := by decide +kernel
theorem dX1_mostWorks_92 : decode cX1_mostWorks 92 = .ok (.aload_n 0, 1) := by decide +kernel
theorem dX1_mostWorks_93 : decode cX1_mostWorks 93 = .ok (.iload 5, 2) := by decide +kernel
theorem dX1_mostWorks_95 : decode cX1_mostWorks 95 = .ok (.iload 6, 2) := by decide +kernel
theorem dX1_mostWorks_97 : decode cX1_mostWorks 97 = .ok (.invokevirtual 74, 3) := by decide +kernel
theorem dX1_mostWorks_100 : decode cX1_mostWorks 100 = .ok (.ifCond .eq 27, 3) := by decide +kernel
theorem dX1_mostWorks_103 : decode cX1_mostWorks 103 = .ok (.aload_n 0, 1) := by decide +kernel
theorem dX1_mostWorks_104 : decode cX1_mostWorks 104 = .ok (.iload 4, 2) := by decide +kernel
theorem dX1_mostWorks_106 : decode cX1_mostWorks 106 = .ok (.aload_n 0, 1) := by decide +kernel
theorem dX1_mostWorks_107 : decode cX1_mostWorks 107 = .ok (.iload 4, 2) := by decide +kernel
theorem dX1_mostWorks_109 : decode cX1_mostWorks 109 = .ok (.iload 5, 2) := by decide +kernel
theorem dX1_mostWorks_111 : decode cX1_mostWorks 111 = .ok (.iload 6, 2) := by decide +kernel
theorem dX1_mostWorks_113 : decode cX1_mostWorks 113 = .ok (.invokevirtual 78, 3) := by decide +kernel
theorem dX1_mostWorks_116 : decode cX1_mostWorks 116 = .ok (.iload_n 1, 1) := by decide +kernel
theorem dX1_mostWorks_117 : decode cX1_mostWorks 117 = .ok (.invokevirtual 91, 3) := by decide +kernel
theorem dX1_mostWorks_120 : decode cX1_mostWorks 120 = .ok (.ifCond .eq 7, 3) := by decide +kernel
theorem dX1_mostWorks_123 : decode cX1_mostWorks 123 = .ok (.iconst 1, 1) := by decide +kernel
theorem dX1_mostWorks_124 : decode cX1_mostWorks 124 = .ok (.goto 4, 3) := by decide +kernel
theorem dX1_mostWorks_127 : decode cX1_mostWorks 127 = .ok (.iconst 0, 1) := by decide +kernel
theorem dX1_mostWorks_128 : decode cX1_mostWorks 128 = .ok (.iadd, 1) := by decide +kernel
theorem dX1_mostWorks_129 : decode cX1_mostWorks 129 = .ok (.istore_n 1, 1) := by decide +kernel
theorem dX1_mostWorks_130 : decode cX1_mostWorks 130 = .ok (.iinc 6 1, 3) := by decide +kernel
theorem dX1_mostWorks_133 : decode cX1_mostWorks 133 = .ok (.goto (-51), 3) := by decide +kernel
theorem dX1_mostWorks_136 : decode cX1_mostWorks 136 = .ok (.iinc 5 1, 3) := by decide +kernel
theorem dX1_mostWorks_139 : decode cX1_mostWorks 139 = .ok (.goto (-72), 3) := by decide +kernel
theorem dX1_mostWorks_142 : decode cX1_mostWorks 142 = .ok (.iinc 3 1, 3) := by decide +kernel
theorem dX1_mostWorks_145 : decode cX1_mostWorks 145 = .ok (.goto (-121), 3) := by decide +kernel
theorem dX1_mostWorks_148 : decode cX1_mostWorks 148 = .ok (.iload_n 1, 1) := by decide +kernel
theorem dX1_mostWorks_149 : decode cX1_mostWorks 149 = .ok (.aload_n 0, 1) := by decide +kernel
theorem dX1_mostWorks_150 : decode cX1_mostWorks 150 = .ok (.getfield 37, 3) := by decide +kernel
theorem dX1_mostWorks_153 : decode cX1_mostWorks 153 = .ok (.if_icmp .ne 7, 3) := by decide +kernel
theorem dX1_mostWorks_156 : decode cX1_mostWorks 156 = .ok (.iload_n 2, 1) := by decide +kernel
theorem dX1_mostWorks_157 : decode cX1_mostWorks 157 = .ok (.goto 4, 3) := by decide +kernel
theorem dX1_mostWorks_160 : decode cX1_mostWorks 160 = .ok (.iconst (-1), 1) := by decide +kernel
theorem dX1_mostWorks_161 : decode cX1_mostWorks 161 = .ok (.ireturn, 1) := by decide +kernel
def f1_unfold_L4 (K33 : zMem → zRes) : Nat → Int32 → Int32 → zMem → zRes
  | 0, _, _, _ => none
  | n + 1, x2, x3, μ => if (μ 69 7) ≤ x3 then K33 μ else zin x3 4 (zlet (zset μ 72 x3.toNatClampNeg (zrem x2 (9 : Int32))) (fun (μ4 : zMem) => zlet (x2 / (9 : Int32)) (fun (v5 : Int32) => f1_unfold_L4 K33 n v5 (x3 + (1 : Int32)) μ4)))
def f1_unfold (x1 : Int32) (μ : zMem) : zRes := f1_unfold_L4 (fun (μ6 : zMem) => some (0, 0, μ6)) zF x1 (0 : Int32) μ
set_option maxHeartbeats 1000000 in
theorem t1_unfold_L4 (K33 : zMem → zRes) (hK33 : ∀ (μ : zMem), zR yX1_unfold cX1_unfold 4 (none) 1 33 [.null, .null, .null, .null] [] (nX true) (SX true) μ (K33 μ)) : ∀ (n : Nat) (x2 : Int32) (x3 : Int32) (μ : zMem), zR yX1_unfold cX1_unfold 4 (none) 1 4 [.ref 69, .null, .int x2, .int x3] [] (nX true) (SX true) μ (f1_unfold_L4 K33 n x2 x3 μ) := by
  intro n
  induction n with
  | zero => intro x2 x3 μ; intro q hq; cases hq
  | succ n ih =>
    intro x2 x3 μ
    unfold f1_unfold_L4
    refine z_iload_n (pc := 4) dX1_unfold_4 rfl ?_
    refine z_aload_n (pc := 5) dX1_unfold_5 rfl ?_
    refine z_geti (pc := 6) fdX1_30 (by decide) (sx_69 true) rfl dX1_unfold_6 ?_
    refine z_icmp_ge (pc := 9) (tgt := 33) dX1_unfold_9 (by decide) (fun c1 => ?_) (fun c2 => ?_)
    · refine z_loc (L' := [.null, .null, .null, .null]) ⟨Or.inl rfl, ⟨Or.inl rfl, ⟨Or.inl rfl, ⟨Or.inl rfl, trivial⟩⟩⟩⟩ ?_
      exact hK33 μ
    · refine z_aload_n (pc := 12) dX1_unfold_12 rfl ?_
      refine z_getr (pc := 13) fdX1_18 (by decide) (sx_69 true) rfl rfl dX1_unfold_13 ?_
      refine z_iload_n (pc := 16) dX1_unfold_16 rfl ?_
      refine z_iload_n (pc := 17) dX1_unfold_17 rfl ?_
      refine z_bipush (pc := 18) (9 : Int32) dX1_unfold_18 (by decide) ?_
      refine z_iremc (pc := 20) dX1_unfold_20 (by decide) ?_
      refine z_iast (pc := 21) (by decide) (sx_72 true) rfl dX1_unfold_21 (fun h3 => ?_)
      refine z_mem (fun μ4 => ?_)
      refine z_iload_n (pc := 22) dX1_unfold_22 rfl ?_
      refine z_bipush (pc := 23) (9 : Int32) dX1_unfold_23 (by decide) ?_
      refine z_idivc (pc := 25) dX1_unfold_25 (by decide) ?_
      refine z_val (fun v5 => ?_)
      refine z_istore_n (pc := 26) (L' := [.ref 69, .null, .int v5, .int x3]) dX1_unfold_26 (by decide) rfl ?_
      refine z_iinc (pc := 27) (v := x3 + (1 : Int32)) (L' := [.ref 69, .null, .int v5, .int (x3 + (1 : Int32))]) dX1_unfold_27 (by decide) rfl (congrArg _ (by decide)) rfl ?_
      refine z_goto (pc := 30) (tgt := 4) dX1_unfold_30 (by decide) ?_
      exact ih v5 (x3 + (1 : Int32)) μ4
set_option maxHeartbeats 1000000 in
theorem t1_unfold (x1 : Int32) (μ : zMem) : zMR yX1_unfold cX1_unfold 4 (none) 1 [.ref 69, .int x1] (nX true) (SX true) μ (f1_unfold x1 μ) := by
  refine zMR_of (by decide +kernel) rfl (Nat.le_of_ble_eq_true rfl) (L := [.ref 69, .int x1, .null, .null]) rfl ?_
  unfold f1_unfold
  refine z_iload_n (pc := 0) dX1_unfold_0 rfl ?_
  refine z_istore_n (pc := 1) (L' := [.ref 69, .int x1, .int x1, .null]) dX1_unfold_1 (by decide) rfl ?_
  refine z_iconst (pc := 2) (0 : Int32) dX1_unfold_2 (by decide) ?_
  refine z_istore_n (pc := 3) (L' := [.ref 69, .int x1, .int x1, .int (0 : Int32)]) dX1_unfold_3 (by decide) rfl ?_
  refine z_loc (L' := [.ref 69, .null, .int x1, .int (0 : Int32)]) ⟨Or.inr rfl, ⟨Or.inl rfl, ⟨Or.inr rfl, ⟨Or.inr rfl, trivial⟩⟩⟩⟩ ?_
  refine t1_unfold_L4 _ (fun μ6 => ?_) zF _ _ _
  · exact z_vret (pc := 33) rfl dX1_unfold_33
def f1_canWork (x1 : Int32) (x2 : Int32) (μ : zMem) : zRes := zin x1 4 (zin x2 4 (bnd0 (f7_areKin (μ 70 x1.toNatClampNeg) (μ 70 x2.toNatClampNeg) μ) (fun (v3 : Int32) (μ4 : zMem) => zlet (fun (s5 : Int32) (μ6 : zMem) => zbl s5 (some (0, s5, μ6))) (fun j7 => zlet (fun (μ8 : zMem) => j7 (0 : Int32) μ8) (fun j9 => if v3 = 0 then zin x1 4 (zin x2 4 (if (zabs ((μ4 72 x1.toNatClampNeg) - (μ4 72 x2.toNatClampNeg))) < (μ4 69 8) then j9 μ4 else j7 (1 : Int32) μ4)) else j9 μ4)))))
set_option maxHeartbeats 1000000 in
theorem t1_canWork (x1 : Int32) (x2 : Int32) (μ : zMem) : zMR yX1_canWork cX1_canWork 3 (some .boolean) 2 [.ref 69, .int x1, .int x2] (nX true) (SX true) μ (f1_canWork x1 x2 μ) := by
  refine zMR_of (by decide +kernel) rfl (Nat.le_of_ble_eq_true rfl) (L := [.ref 69, .int x1, .int x2]) rfl ?_
  unfold f1_canWork
  refine z_aload_n (pc := 0) dX1_canWork_0 rfl ?_
  refine z_getr (pc := 1) fdX1_43 (by decide) (sx_69 true) rfl rfl dX1_canWork_1 ?_
  refine z_aload_n (pc := 4) dX1_canWork_4 rfl ?_
  refine z_getr (pc := 5) fdX1_11 (by decide) (sx_69 true) rfl rfl dX1_canWork_5 ?_
  refine z_iload_n (pc := 8) dX1_canWork_8 rfl ?_
  refine z_iald (pc := 9) (by decide) (sx_70 true) rfl dX1_canWork_9 (fun h1 => ?_)
  refine z_aload_n (pc := 10) dX1_canWork_10 rfl ?_
  refine z_getr (pc := 11) fdX1_11 (by decide) (sx_69 true) rfl rfl dX1_canWork_11 ?_
  refine z_iload_n (pc := 14) dX1_canWork_14 rfl ?_
  refine z_iald (pc := 15) (by decide) (sx_70 true) rfl dX1_canWork_15 (fun h2 => ?_)
  refine z_callV (As := [.int (μ 70 x1.toNatClampNeg), .int (μ 70 x2.toNatClampNeg)]) (pc := 16) (ret' := some .boolean) kvX1_95 (t7_areKin _ _ _) (by decide) (nx_lt (by decide)) (sx_2 true)  rfl rfl (Nat.le_of_ble_eq_true rfl) dX1_canWork_16 (fun v3 μ4 => ?_)
  refine z_let (fun (j : Int32 → zMem → zRes) => ∀ (s5 : Int32) (μ6 : zMem), zR yX1_canWork cX1_canWork 3 (some .boolean) 2 50 [.null, .null, .null] [.int s5] (nX true) (SX true) μ6 (j s5 μ6)) ?_ (fun j7 hj7 => ?_)
  · intro s5 μ6
    exact z_zret (pc := 50) rfl dX1_canWork_50
  · refine z_let (fun (j : zMem → zRes) => ∀ (μ8 : zMem), zR yX1_canWork cX1_canWork 3 (some .boolean) 2 49 [.null, .null, .null] [] (nX true) (SX true) μ8 (j μ8)) ?_ (fun j9 hj9 => ?_)
    · intro μ8
      refine z_iconst (pc := 49) (0 : Int32) dX1_canWork_49 (by decide) ?_
      exact hj7 (0 : Int32) μ8
    · refine z_if_ne (pc := 19) (tgt := 49) dX1_canWork_19 (by decide) (fun c10 => ?_) (fun c11 => ?_)
      · refine z_loc (L' := [.null, .null, .null]) ⟨Or.inl rfl, ⟨Or.inl rfl, ⟨Or.inl rfl, trivial⟩⟩⟩ ?_
        exact hj9 μ4
      · refine z_aload_n (pc := 22) dX1_canWork_22 rfl ?_
        refine z_getr (pc := 23) fdX1_18 (by decide) (sx_69 true) rfl rfl dX1_canWork_23 ?_
        refine z_iload_n (pc := 26) dX1_canWork_26 rfl ?_
        refine z_iald (pc := 27) (by decide) (sx_72 true) rfl dX1_canWork_27 (fun h12 => ?_)
        refine z_aload_n (pc := 28) dX1_canWork_28 rfl ?_
        refine z_getr (pc := 29) fdX1_18 (by decide) (sx_69 true) rfl rfl dX1_canWork_29 ?_
        refine z_iload_n (pc := 32) dX1_canWork_32 rfl ?_
        refine z_iald (pc := 33) (by decide) (sx_72 true) rfl dX1_canWork_33 (fun h13 => ?_)
        refine z_isub (pc := 34) dX1_canWork_34 ?_
        refine z_mabs (pc := 35) kmX1_98 (by decide) (Nat.le_of_ble_eq_true rfl) dX1_canWork_35 ?_
        refine z_aload_n (pc := 38) dX1_canWork_38 rfl ?_
        refine z_geti (pc := 39) fdX1_34 (by decide) (sx_69 true) rfl dX1_canWork_39 ?_
        refine z_icmp_lt (pc := 42) (tgt := 49) dX1_canWork_42 (by decide) (fun c14 => ?_) (fun c15 => ?_)
        · refine z_loc (L' := [.null, .null, .null]) ⟨Or.inl rfl, ⟨Or.inl rfl, ⟨Or.inl rfl, trivial⟩⟩⟩ ?_
          exact hj9 μ4
        · refine z_iconst (pc := 45) (1 : Int32) dX1_canWork_45 (by decide) ?_
          refine z_goto (pc := 46) (tgt := 50) dX1_canWork_46 (by decide) ?_
          refine z_loc (L' := [.null, .null, .null]) ⟨Or.inl rfl, ⟨Or.inl rfl, ⟨Or.inl rfl, trivial⟩⟩⟩ ?_
          exact hj7 (1 : Int32) μ4
def f1_weight_L4 (x0 : Int32) (μ : zMem) (K20 : Int32 → zRes) : Nat → Int32 → Int32 → zRes
  | 0, _, _ => none
  | n + 1, x1, x2 => if x0 ≤ x2 then K20 x1 else zlet (x1 * (9 : Int32)) (fun (v3 : Int32) => f1_weight_L4 x0 μ K20 n v3 (x2 + (1 : Int32)))
def f1_weight (x0 : Int32) (μ : zMem) : zRes := f1_weight_L4 x0 μ (fun (x1_4 : Int32) => some (0, x1_4, μ)) zF (1 : Int32) (0 : Int32)
set_option maxHeartbeats 1000000 in
theorem t1_weight_L4 (x0 : Int32) (μ : zMem) (K20 : Int32 → zRes) (hK20 : ∀ (x1 : Int32), zR yX1_weight cX1_weight 3 (some .int) 1 20 [.null, .int x1, .null] [] (nX true) (SX true) μ (K20 x1)) : ∀ (n : Nat) (x1 : Int32) (x2 : Int32), zR yX1_weight cX1_weight 3 (some .int) 1 4 [.int x0, .int x1, .int x2] [] (nX true) (SX true) μ (f1_weight_L4 x0 μ K20 n x1 x2) := by
  intro n
  induction n with
  | zero => intro x1 x2; intro q hq; cases hq
  | succ n ih =>
    intro x1 x2
    unfold f1_weight_L4
    refine z_iload_n (pc := 4) dX1_weight_4 rfl ?_
    refine z_iload_n (pc := 5) dX1_weight_5 rfl ?_
    refine z_icmp_ge (pc := 6) (tgt := 20) dX1_weight_6 (by decide) (fun c1 => ?_) (fun c2 => ?_)
    · refine z_loc (L' := [.null, .int x1, .null]) ⟨Or.inl rfl, ⟨Or.inr rfl, ⟨Or.inl rfl, trivial⟩⟩⟩ ?_
      exact hK20 x1
    · refine z_iload_n (pc := 9) dX1_weight_9 rfl ?_
      refine z_bipush (pc := 10) (9 : Int32) dX1_weight_10 (by decide) ?_
      refine z_imul (pc := 12) dX1_weight_12 ?_
      refine z_val (fun v3 => ?_)
      refine z_istore_n (pc := 13) (L' := [.int x0, .int v3, .int x2]) dX1_weight_13 (by decide) rfl ?_
      refine z_iinc (pc := 14) (v := x2 + (1 : Int32)) (L' := [.int x0, .int v3, .int (x2 + (1 : Int32))]) dX1_weight_14 (by decide) rfl (congrArg _ (by decide)) rfl ?_
      refine z_goto (pc := 17) (tgt := 4) dX1_weight_17 (by decide) ?_
      exact ih v3 (x2 + (1 : Int32))
set_option maxHeartbeats 1000000 in
theorem t1_weight (x0 : Int32) (μ : zMem) : zMR yX1_weight cX1_weight 3 (some .int) 1 [.int x0] (nX true) (SX true) μ (f1_weight x0 μ) := by
  refine zMR_of (by decide +kernel) rfl (Nat.le_of_ble_eq_true rfl) (L := [.int x0, .null, .null]) rfl ?_
  unfold f1_weight
  refine z_iconst (pc := 0) (1 : Int32) dX1_weight_0 (by decide) ?_
  refine z_istore_n (pc := 1) (L' := [.int x0, .int (1 : Int32), .null]) dX1_weight_1 (by decide) rfl ?_
  refine z_iconst (pc := 2) (0 : Int32) dX1_weight_2 (by decide) ?_
  refine z_istore_n (pc := 3) (L' := [.int x0, .int (1 : Int32), .int (0 : Int32)]) dX1_weight_3 (by decide) rfl ?_
  refine t1_weight_L4 _ _ _ (fun x1_4 => ?_) zF _ _
  · refine z_iload_n (pc := 20) dX1_weight_20 rfl ?_
    exact z_iret (pc := 21) rfl dX1_weight_21
def f1_stateBehind (x1 : Int32) (x2 : Int32) (x3 : Int32) (μ : zMem) : zRes := zin x2 4 (zin x3 4 (zlet (fun (s3 : Int32) => zlet ((x2 + x3) - s3) (fun (v4 : Int32) => zin s3 4 (zlet (μ 72 s3.toNatClampNeg) (fun (v6 : Int32) => zin v4 4 (zlet (μ 72 v4.toNatClampNeg) (fun (v8 : Int32) => zin s3 4 (zin v4 4 (bnd0 (f8_lesserBehind v6 v8 (μ 71 s3.toNatClampNeg) (μ 71 v4.toNatClampNeg) μ) (fun (v11 : Int32) (μ12 : zMem) => zlet (v11 - v6) (fun (v13 : Int32) => zin s3 4 (zin v4 4 (bnd0 (f8_greaterBehind v6 v8 (μ12 71 s3.toNatClampNeg) (μ12 71 v4.toNatClampNeg) μ12) (fun (v16 : Int32) (μ17 : zMem) => zlet (v8 - v16) (fun (v18 : Int32) => bnd0 (f1_weight s3 μ17) (fun (v19 : Int32) (μ20 : zMem) => bnd0 (f1_weight v4 μ20) (fun (v21 : Int32) (μ22 : zMem) => some (0, (x1 + (v13 * v19)) - (v18 * v21), μ22))))))))))))))))) (fun j23 => if (μ 72 x3.toNatClampNeg) < (μ 72 x2.toNatClampNeg) then j23 x3 else j23 x2)))
set_option maxHeartbeats 1000000 in
theorem t1_stateBehind (x1 : Int32) (x2 : Int32) (x3 : Int32) (μ : zMem) : zMR yX1_stateBehind cX1_stateBehind 10 (some .int) 3 [.ref 69, .int x1, .int x2, .int x3] (nX true) (SX true) μ (f1_stateBehind x1 x2 x3 μ) := by
  refine zMR_of (by decide +kernel) rfl (Nat.le_of_ble_eq_true rfl) (L := [.ref 69, .int x1, .int x2, .int x3, .null, .null, .null, .null, .null, .null]) rfl ?_
  unfold f1_stateBehind
  refine z_aload_n (pc := 0) dX1_stateBehind_0 rfl ?_
  refine z_getr (pc := 1) fdX1_18 (by decide) (sx_69 true) rfl rfl dX1_stateBehind_1 ?_
  refine z_iload_n (pc := 4) dX1_stateBehind_4 rfl ?_
  refine z_iald (pc := 5) (by decide) (sx_72 true) rfl dX1_stateBehind_5 (fun h1 => ?_)
  refine z_aload_n (pc := 6) dX1_stateBehind_6 rfl ?_
  refine z_getr (pc := 7) fdX1_18 (by decide) (sx_69 true) rfl rfl dX1_stateBehind_7 ?_
  refine z_iload_n (pc := 10) dX1_stateBehind_10 rfl ?_
  refine z_iald (pc := 11) (by decide) (sx_72 true) rfl dX1_stateBehind_11 (fun h2 => ?_)
  refine z_let (fun (j : Int32 → zRes) => ∀ (s3 : Int32), zR yX1_stateBehind cX1_stateBehind 10 (some .int) 3 20 [.ref 69, .int x1, .int x2, .int x3, .null, .null, .null, .null, .null, .null] [.int s3] (nX true) (SX true) μ (j s3)) ?_ (fun j23 hj23 => ?_)
  · intro s3
    refine z_istore (pc := 20) (L' := [.ref 69, .int x1, .int x2, .int x3, .int s3, .null, .null, .null, .null, .null]) dX1_stateBehind_20 (by decide) rfl ?_
    refine z_iload_n (pc := 22) dX1_stateBehind_22 rfl ?_
    refine z_iload_n (pc := 23) dX1_stateBehind_23 rfl ?_
    refine z_iadd (pc := 24) dX1_stateBehind_24 ?_
    refine z_iload (pc := 25) dX1_stateBehind_25 rfl ?_
    refine z_isub (pc := 27) dX1_stateBehind_27 ?_
    refine z_val (fun v4 => ?_)
    refine z_istore (pc := 28) (L' := [.ref 69, .int x1, .int x2, .int x3, .int s3, .int v4, .null, .null, .null, .null]) dX1_stateBehind_28 (by decide) rfl ?_
    refine z_aload_n (pc := 30) dX1_stateBehind_30 rfl ?_
    refine z_getr (pc := 31) fdX1_18 (by decide) (sx_69 true) rfl rfl dX1_stateBehind_31 ?_
    refine z_iload (pc := 34) dX1_stateBehind_34 rfl ?_
    refine z_iald (pc := 36) (by decide) (sx_72 true) rfl dX1_stateBehind_36 (fun h5 => ?_)
    refine z_val (fun v6 => ?_)
    refine z_istore (pc := 37) (L' := [.ref 69, .int x1, .int x2, .int x3, .int s3, .int v4, .int v6, .null, .null, .null]) dX1_stateBehind_37 (by decide) rfl ?_
    refine z_aload_n (pc := 39) dX1_stateBehind_39 rfl ?_
    refine z_getr (pc := 40) fdX1_18 (by decide) (sx_69 true) rfl rfl dX1_stateBehind_40 ?_
    refine z_iload (pc := 43) dX1_stateBehind_43 rfl ?_
    refine z_iald (pc := 45) (by decide) (sx_72 true) rfl dX1_stateBehind_45 (fun h7 => ?_)
    refine z_val (fun v8 => ?_)
    refine z_istore (pc := 46) (L' := [.ref 69, .int x1, .int x2, .int x3, .int s3, .int v4, .int v6, .int v8, .null, .null]) dX1_stateBehind_46 (by decide) rfl ?_
    refine z_iload (pc := 48) dX1_stateBehind_48 rfl ?_
    refine z_iload (pc := 50) dX1_stateBehind_50 rfl ?_
    refine z_aload_n (pc := 52) dX1_stateBehind_52 rfl ?_
    refine z_getr (pc := 53) fdX1_15 (by decide) (sx_69 true) rfl rfl dX1_stateBehind_53 ?_
    refine z_iload (pc := 56) dX1_stateBehind_56 rfl ?_
    refine z_iald (pc := 58) (by decide) (sx_71 true) rfl dX1_stateBehind_58 (fun h9 => ?_)
    refine z_aload_n (pc := 59) dX1_stateBehind_59 rfl ?_
    refine z_getr (pc := 60) fdX1_15 (by decide) (sx_69 true) rfl rfl dX1_stateBehind_60 ?_
    refine z_iload (pc := 63) dX1_stateBehind_63 rfl ?_
    refine z_iald (pc := 65) (by decide) (sx_71 true) rfl dX1_stateBehind_65 (fun h10 => ?_)
    refine z_callS (As := [.int v6, .int v8, .int (μ 71 s3.toNatClampNeg), .int (μ 71 v4.toNatClampNeg)]) (pc := 66) (ret' := some .int) ksX1_102 (t8_lesserBehind _ _ _ _ _) (by decide)  rfl rfl (Nat.le_of_ble_eq_true rfl) dX1_stateBehind_66 (fun v11 μ12 => ?_)
    refine z_iload (pc := 69) dX1_stateBehind_69 rfl ?_
    refine z_isub (pc := 71) dX1_stateBehind_71 ?_
    refine z_val (fun v13 => ?_)
    refine z_istore (pc := 72) (L' := [.ref 69, .int x1, .int x2, .int x3, .int s3, .int v4, .int v6, .int v8, .int v13, .null]) dX1_stateBehind_72 (by decide) rfl ?_
    refine z_iload (pc := 74) dX1_stateBehind_74 rfl ?_
    refine z_iload (pc := 76) dX1_stateBehind_76 rfl ?_
    refine z_iload (pc := 78) dX1_stateBehind_78 rfl ?_
    refine z_aload_n (pc := 80) dX1_stateBehind_80 rfl ?_
    refine z_getr (pc := 81) fdX1_15 (by decide) (sx_69 true) rfl rfl dX1_stateBehind_81 ?_
    refine z_iload (pc := 84) dX1_stateBehind_84 rfl ?_
    refine z_iald (pc := 86) (by decide) (sx_71 true) rfl dX1_stateBehind_86 (fun h14 => ?_)
    refine z_aload_n (pc := 87) dX1_stateBehind_87 rfl ?_
    refine z_getr (pc := 88) fdX1_15 (by decide) (sx_69 true) rfl rfl dX1_stateBehind_88 ?_
    refine z_iload (pc := 91) dX1_stateBehind_91 rfl ?_
    refine z_iald (pc := 93) (by decide) (sx_71 true) rfl dX1_stateBehind_93 (fun h15 => ?_)
    refine z_callS (As := [.int v6, .int v8, .int (μ12 71 s3.toNatClampNeg), .int (μ12 71 v4.toNatClampNeg)]) (pc := 94) (ret' := some .int) ksX1_106 (t8_greaterBehind _ _ _ _ _) (by decide)  rfl rfl (Nat.le_of_ble_eq_true rfl) dX1_stateBehind_94 (fun v16 μ17 => ?_)
    refine z_isub (pc := 97) dX1_stateBehind_97 ?_
    refine z_val (fun v18 => ?_)
    refine z_istore (pc := 98) (L' := [.ref 69, .int x1, .int x2, .int x3, .int s3, .int v4, .int v6, .int v8, .int v13, .int v18]) dX1_stateBehind_98 (by decide) rfl ?_
    refine z_iload_n (pc := 100) dX1_stateBehind_100 rfl ?_
    refine z_iload (pc := 101) dX1_stateBehind_101 rfl ?_
    refine z_iload (pc := 103) dX1_stateBehind_103 rfl ?_
    refine z_callS (As := [.int s3]) (pc := 105) (ret' := some .int) ksX1_109 (t1_weight _ _) (by decide)  rfl rfl (Nat.le_of_ble_eq_true rfl) dX1_stateBehind_105 (fun v19 μ20 => ?_)
    refine z_imul (pc := 108) dX1_stateBehind_108 ?_
    refine z_iadd (pc := 109) dX1_stateBehind_109 ?_
    refine z_iload (pc := 110) dX1_stateBehind_110 rfl ?_
    refine z_iload (pc := 112) dX1_stateBehind_112 rfl ?_
    refine z_callS (As := [.int v4]) (pc := 114) (ret' := some .int) ksX1_109 (t1_weight _ _) (by decide)  rfl rfl (Nat.le_of_ble_eq_true rfl) dX1_stateBehind_114 (fun v21 μ22 => ?_)
    refine z_imul (pc := 117) dX1_stateBehind_117 ?_
    refine z_isub (pc := 118) dX1_stateBehind_118 ?_
    exact z_iret (pc := 119) rfl dX1_stateBehind_119
  · refine z_icmp_gt (pc := 12) (tgt := 19) dX1_stateBehind_12 (by decide) (fun c24 => ?_) (fun c25 => ?_)
    · refine z_iload_n (pc := 19) dX1_stateBehind_19 rfl ?_
      exact hj23 x3
    · refine z_iload_n (pc := 15) dX1_stateBehind_15 rfl ?_
      refine z_goto (pc := 16) (tgt := 20) dX1_stateBehind_16 (by decide) ?_
      exact hj23 x2
def f1_comeTo (x1 : Int32) (x2 : Int32) (μ : zMem) : zRes := zin x1 6561 (zin x1 6561 (zlet (zset μ 74 x1.toNatClampNeg ((μ 74 x1.toNatClampNeg) + (1 : Int32))) (fun (μ3 : zMem) => zin x1 6561 (zlet (fun (μ5 : zMem) => some (0, 0, μ5)) (fun j6 => if (μ3 73 x1.toNatClampNeg) = 0 then if (6561 : Int32) ≤ (μ3 69 9) then j6 μ3 else zin x1 6561 (zlet (zset μ3 73 x1.toNatClampNeg x2) (fun (μ12 : zMem) => zin (μ12 69 9) 6561 (zlet (zset μ12 75 (μ12 69 9).toNatClampNeg x1) (fun (μ14 : zMem) => zlet (zset μ14 69 9 ((μ14 69 9) + (1 : Int32))) (fun (μ15 : zMem) => j6 μ15))))) else j6 μ3)))))
set_option maxHeartbeats 1000000 in
theorem t1_comeTo (x1 : Int32) (x2 : Int32) (μ : zMem) : zMR yX1_comeTo cX1_comeTo 3 (none) 1 [.ref 69, .int x1, .int x2] (nX true) (SX true) μ (f1_comeTo x1 x2 μ) := by
  refine zMR_of (by decide +kernel) rfl (Nat.le_of_ble_eq_true rfl) (L := [.ref 69, .int x1, .int x2]) rfl ?_
  unfold f1_comeTo
  refine z_aload_n (pc := 0) dX1_comeTo_0 rfl ?_
  refine z_getr (pc := 1) fdX1_24 (by decide) (sx_69 true) rfl rfl dX1_comeTo_1 ?_
  refine z_iload_n (pc := 4) dX1_comeTo_4 rfl ?_
  refine z_dup2 (pc := 5) dX1_comeTo_5 rfl rfl ?_
  refine z_iald (pc := 6) (by decide) (sx_74 true) rfl dX1_comeTo_6 (fun h1 => ?_)
  refine z_iconst (pc := 7) (1 : Int32) dX1_comeTo_7 (by decide) ?_
  refine z_iadd (pc := 8) dX1_comeTo_8 ?_
  refine z_iast (pc := 9) (by decide) (sx_74 true) rfl dX1_comeTo_9 (fun h2 => ?_)
  refine z_mem (fun μ3 => ?_)
  refine z_aload_n (pc := 10) dX1_comeTo_10 rfl ?_
  refine z_getr (pc := 11) fdX1_21 (by decide) (sx_69 true) rfl rfl dX1_comeTo_11 ?_
  refine z_iload_n (pc := 14) dX1_comeTo_14 rfl ?_
  refine z_iald (pc := 15) (by decide) (sx_73 true) rfl dX1_comeTo_15 (fun h4 => ?_)
  refine z_let (fun (j : zMem → zRes) => ∀ (μ5 : zMem), zR yX1_comeTo cX1_comeTo 3 (none) 1 56 [.null, .null, .null] [] (nX true) (SX true) μ5 (j μ5)) ?_ (fun j6 hj6 => ?_)
  · intro μ5
    exact z_vret (pc := 56) rfl dX1_comeTo_56
  · refine z_if_ne (pc := 16) (tgt := 56) dX1_comeTo_16 (by decide) (fun c7 => ?_) (fun c8 => ?_)
    · refine z_loc (L' := [.null, .null, .null]) ⟨Or.inl rfl, ⟨Or.inl rfl, ⟨Or.inl rfl, trivial⟩⟩⟩ ?_
      exact hj6 μ3
    · refine z_aload_n (pc := 19) dX1_comeTo_19 rfl ?_
      refine z_geti (pc := 20) fdX1_37 (by decide) (sx_69 true) rfl dX1_comeTo_20 ?_
      refine z_sipush (pc := 23) (6561 : Int32) dX1_comeTo_23 (by decide) ?_
      refine z_icmp_ge (pc := 26) (tgt := 56) dX1_comeTo_26 (by decide) (fun c9 => ?_) (fun c10 => ?_)
      · refine z_loc (L' := [.null, .null, .null]) ⟨Or.inl rfl, ⟨Or.inl rfl, ⟨Or.inl rfl, trivial⟩⟩⟩ ?_
        exact hj6 μ3
      · refine z_aload_n (pc := 29) dX1_comeTo_29 rfl ?_
        refine z_getr (pc := 30) fdX1_21 (by decide) (sx_69 true) rfl rfl dX1_comeTo_30 ?_
        refine z_iload_n (pc := 33) dX1_comeTo_33 rfl ?_
        refine z_iload_n (pc := 34) dX1_comeTo_34 rfl ?_
        refine z_iast (pc := 35) (by decide) (sx_73 true) rfl dX1_comeTo_35 (fun h11 => ?_)
        refine z_mem (fun μ12 => ?_)
        refine z_aload_n (pc := 36) dX1_comeTo_36 rfl ?_
        refine z_getr (pc := 37) fdX1_27 (by decide) (sx_69 true) rfl rfl dX1_comeTo_37 ?_
        refine z_aload_n (pc := 40) dX1_comeTo_40 rfl ?_
        refine z_geti (pc := 41) fdX1_37 (by decide) (sx_69 true) rfl dX1_comeTo_41 ?_
        refine z_iload_n (pc := 44) dX1_comeTo_44 rfl ?_
        refine z_iast (pc := 45) (by decide) (sx_75 true) rfl dX1_comeTo_45 (fun h13 => ?_)
        refine z_mem (fun μ14 => ?_)
        refine z_aload_n (pc := 46) dX1_comeTo_46 rfl ?_
        refine z_dup (pc := 47) dX1_comeTo_47 rfl ?_
        refine z_geti (pc := 48) fdX1_37 (by decide) (sx_69 true) rfl dX1_comeTo_48 ?_
        refine z_iconst (pc := 51) (1 : Int32) dX1_comeTo_51 (by decide) ?_
        refine z_iadd (pc := 52) dX1_comeTo_52 ?_
        refine z_puti (pc := 53) fdX1_37 (by decide) (sx_69 true) rfl rfl dX1_comeTo_53 ?_
        refine z_mem (fun μ15 => ?_)
        refine z_loc (L' := [.null, .null, .null]) ⟨Or.inl rfl, ⟨Or.inl rfl, ⟨Or.inl rfl, trivial⟩⟩⟩ ?_
        exact hj6 μ15
def f1_findAll_L87 (x2 : Int32) (x4 : Int32) (K146 : Int32 → zMem → zRes) : Nat → Int32 → Int32 → zMem → zRes
  | 0, _, _, _ => none
  | n + 1, x3, x5, μ => if (μ 69 7) ≤ x5 then K146 x3 μ else bnd0 (f1_canWork x4 x5 μ) (fun (v25 : Int32) (μ26 : zMem) => zlet (fun (x3_27 : Int32) (μ28 : zMem) => f1_findAll_L87 x2 x4 K146 n x3_27 (x5 + (1 : Int32)) μ28) (fun j29 => if v25 = 0 then j29 x3 μ26 else zin x2 6561 (bnd0 (f1_stateBehind (μ26 75 x2.toNatClampNeg) x4 x5 μ26) (fun (v33 : Int32) (μ34 : zMem) => zin x2 6561 (zin (μ34 75 x2.toNatClampNeg) 6561 (bnd0 (f1_comeTo v33 ((μ34 73 (μ34 75 x2.toNatClampNeg).toNatClampNeg) + (1 : Int32)) μ34) (fun (v37 : Int32) (μ38 : zMem) => j29 (0 : Int32) μ38)))))))
def f1_findAll_L72 (x2 : Int32) (K152 : Int32 → zMem → zRes) : Nat → Int32 → Int32 → zMem → zRes
  | 0, _, _, _ => none
  | n + 1, x3, x4, μ => if (μ 69 7) ≤ x4 then K152 x3 μ else zlet (x4 + (1 : Int32)) (fun (v22 : Int32) => f1_findAll_L87 x2 x4 (fun (x3_39 : Int32) (μ40 : zMem) => f1_findAll_L72 x2 K152 n x3_39 (x4 + (1 : Int32)) μ40) zF x3 v22 μ)
def f1_findAll_L42 (K187 : zMem → zRes) : Nat → Int32 → zMem → zRes
  | 0, _, _ => none
  | n + 1, x2, μ => if (μ 69 9) ≤ x2 then K187 μ else if (6561 : Int32) ≤ x2 then K187 μ else zin x2 6561 (bnd0 (f1_unfold (μ 75 x2.toNatClampNeg) μ) (fun (v18 : Int32) (μ19 : zMem) => f1_findAll_L72 x2 (fun (x3_41 : Int32) (μ42 : zMem) => zlet (fun (μ43 : zMem) => f1_findAll_L42 K187 n (x2 + (1 : Int32)) μ43) (fun j44 => if x3_41 = 0 then j44 μ42 else if (μ42 69 10) = (-1 : Int32) then zin x2 6561 (zin (μ42 75 x2.toNatClampNeg) 6561 (zlet (zset μ42 69 10 ((μ42 73 (μ42 75 x2.toNatClampNeg).toNatClampNeg) - (1 : Int32))) (fun (μ51 : zMem) => j44 μ51))) else j44 μ42)) zF (1 : Int32) (0 : Int32) μ19))
def f1_findAll (x1 : Int32) (μ : zMem) : zRes := bnd0 (fJ7_fill_53178 73 6561 (0 : Int32) μ) (fun (v1 : Int32) (μ2 : zMem) => bnd0 (fJ7_fill_53178 74 6561 (0 : Int32) μ2) (fun (v3 : Int32) (μ4 : zMem) => zlet (zset μ4 69 10 (-1 : Int32)) (fun (μ5 : zMem) => zin x1 6561 (zlet (zset μ5 73 x1.toNatClampNeg (1 : Int32)) (fun (μ7 : zMem) => zin (0 : Int32) 6561 (zlet (zset μ7 75 (0 : Int32).toNatClampNeg x1) (fun (μ9 : zMem) => zlet (zset μ9 69 9 (1 : Int32)) (fun (μ10 : zMem) => zlet (fun (μ11 : zMem) => some (0, 0, μ11)) (fun j12 => f1_findAll_L42 (fun (μ52 : zMem) => j12 μ52) zF (0 : Int32) μ10)))))))))
set_option maxHeartbeats 1000000 in
theorem t1_findAll_L87 (x2 : Int32) (x4 : Int32) (K146 : Int32 → zMem → zRes) (hK146 : ∀ (x3 : Int32) (μ : zMem), zR yX1_findAll cX1_findAll 6 (none) 4 146 [.ref 69, .null, .int x2, .int x3, .int x4, .null] [] (nX true) (SX true) μ (K146 x3 μ)) : ∀ (n : Nat) (x3 : Int32) (x5 : Int32) (μ : zMem), zR yX1_findAll cX1_findAll 6 (none) 4 87 [.ref 69, .null, .int x2, .int x3, .int x4, .int x5] [] (nX true) (SX true) μ (f1_findAll_L87 x2 x4 K146 n x3 x5 μ) := by
  intro n
  induction n with
  | zero => intro x3 x5 μ; intro q hq; cases hq
  | succ n ih =>
    intro x3 x5 μ
    unfold f1_findAll_L87
    refine z_iload (pc := 87) dX1_findAll_87 rfl ?_
    refine z_aload_n (pc := 89) dX1_findAll_89 rfl ?_
    refine z_geti (pc := 90) fdX1_30 (by decide) (sx_69 true) rfl dX1_findAll_90 ?_
    refine z_icmp_ge (pc := 93) (tgt := 146) dX1_findAll_93 (by decide) (fun c23 => ?_) (fun c24 => ?_)
    · refine z_loc (L' := [.ref 69, .null, .int x2, .int x3, .int x4, .null]) ⟨Or.inr rfl, ⟨Or.inl rfl, ⟨Or.inr rfl, ⟨Or.inr rfl, ⟨Or.inr rfl, ⟨Or.inl rfl, trivial⟩⟩⟩⟩⟩⟩ ?_
      exact hK146 x3 μ
    · refine z_aload_n (pc := 96) dX1_findAll_96 rfl ?_
      refine z_iload (pc := 97) dX1_findAll_97 rfl ?_
      refine z_iload (pc := 99) dX1_findAll_99 rfl ?_
      refine z_callV (As := [.int x4, .int x5]) (pc := 101) (ret' := some .boolean) kvX1_74 (t1_canWork _ _ _) (by decide) (by decide) (sx_69 true)  rfl rfl (Nat.le_of_ble_eq_true rfl) dX1_findAll_101 (fun v25 μ26 => ?_)
      refine z_let (fun (j : Int32 → zMem → zRes) => ∀ (x3_27 : Int32) (μ28 : zMem), zR yX1_findAll cX1_findAll 6 (none) 4 140 [.ref 69, .null, .int x2, .int x3_27, .int x4, .int x5] [] (nX true) (SX true) μ28 (j x3_27 μ28)) ?_ (fun j29 hj29 => ?_)
      · intro x3_27 μ28
        refine z_iinc (pc := 140) (v := x5 + (1 : Int32)) (L' := [.ref 69, .null, .int x2, .int x3_27, .int x4, .int (x5 + (1 : Int32))]) dX1_findAll_140 (by decide) rfl (congrArg _ (by decide)) rfl ?_
        refine z_goto (pc := 143) (tgt := 87) dX1_findAll_143 (by decide) ?_
        exact ih x3_27 (x5 + (1 : Int32)) μ28
      · refine z_if_eq (pc := 104) (tgt := 140) dX1_findAll_104 (by decide) (fun c30 => ?_) (fun c31 => ?_)
        · exact hj29 x3 μ26
        · refine z_iconst (pc := 107) (0 : Int32) dX1_findAll_107 (by decide) ?_
          refine z_istore_n (pc := 108) (L' := [.ref 69, .null, .int x2, .int (0 : Int32), .int x4, .int x5]) dX1_findAll_108 (by decide) rfl ?_
          refine z_aload_n (pc := 109) dX1_findAll_109 rfl ?_
          refine z_aload_n (pc := 110) dX1_findAll_110 rfl ?_
          refine z_aload_n (pc := 111) dX1_findAll_111 rfl ?_
          refine z_getr (pc := 112) fdX1_27 (by decide) (sx_69 true) rfl rfl dX1_findAll_112 ?_
          refine z_iload_n (pc := 115) dX1_findAll_115 rfl ?_
          refine z_iald (pc := 116) (by decide) (sx_75 true) rfl dX1_findAll_116 (fun h32 => ?_)
          refine z_iload (pc := 117) dX1_findAll_117 rfl ?_
          refine z_iload (pc := 119) dX1_findAll_119 rfl ?_
          refine z_callV (As := [.int (μ26 75 x2.toNatClampNeg), .int x4, .int x5]) (pc := 121) (ret' := some .int) kvX1_78 (t1_stateBehind _ _ _ _) (by decide) (by decide) (sx_69 true)  rfl rfl (Nat.le_of_ble_eq_true rfl) dX1_findAll_121 (fun v33 μ34 => ?_)
          refine z_aload_n (pc := 124) dX1_findAll_124 rfl ?_
          refine z_getr (pc := 125) fdX1_21 (by decide) (sx_69 true) rfl rfl dX1_findAll_125 ?_
          refine z_aload_n (pc := 128) dX1_findAll_128 rfl ?_
          refine z_getr (pc := 129) fdX1_27 (by decide) (sx_69 true) rfl rfl dX1_findAll_129 ?_
          refine z_iload_n (pc := 132) dX1_findAll_132 rfl ?_
          refine z_iald (pc := 133) (by decide) (sx_75 true) rfl dX1_findAll_133 (fun h35 => ?_)
          refine z_iald (pc := 134) (by decide) (sx_73 true) rfl dX1_findAll_134 (fun h36 => ?_)
          refine z_iconst (pc := 135) (1 : Int32) dX1_findAll_135 (by decide) ?_
          refine z_iadd (pc := 136) dX1_findAll_136 ?_
          refine z_callV (As := [.int v33, .int ((μ34 73 (μ34 75 x2.toNatClampNeg).toNatClampNeg) + (1 : Int32))]) (pc := 137) (ret' := none) kvX1_82 (t1_comeTo _ _ _) (by decide) (by decide) (sx_69 true)  rfl rfl (Nat.le_of_ble_eq_true rfl) dX1_findAll_137 (fun v37 μ38 => ?_)
          exact hj29 (0 : Int32) μ38
set_option maxHeartbeats 1000000 in
theorem t1_findAll_L72 (x2 : Int32) (K152 : Int32 → zMem → zRes) (hK152 : ∀ (x3 : Int32) (μ : zMem), zR yX1_findAll cX1_findAll 6 (none) 4 152 [.ref 69, .null, .int x2, .int x3, .null, .null] [] (nX true) (SX true) μ (K152 x3 μ)) : ∀ (n : Nat) (x3 : Int32) (x4 : Int32) (μ : zMem), zR yX1_findAll cX1_findAll 6 (none) 4 72 [.ref 69, .null, .int x2, .int x3, .int x4, .null] [] (nX true) (SX true) μ (f1_findAll_L72 x2 K152 n x3 x4 μ) := by
  intro n
  induction n with
  | zero => intro x3 x4 μ; intro q hq; cases hq
  | succ n ih =>
    intro x3 x4 μ
    unfold f1_findAll_L72
    refine z_iload (pc := 72) dX1_findAll_72 rfl ?_
    refine z_aload_n (pc := 74) dX1_findAll_74 rfl ?_
    refine z_geti (pc := 75) fdX1_30 (by decide) (sx_69 true) rfl dX1_findAll_75 ?_
    refine z_icmp_ge (pc := 78) (tgt := 152) dX1_findAll_78 (by decide) (fun c20 => ?_) (fun c21 => ?_)
    · refine z_loc (L' := [.ref 69, .null, .int x2, .int x3, .null, .null]) ⟨Or.inr rfl, ⟨Or.inl rfl, ⟨Or.inr rfl, ⟨Or.inr rfl, ⟨Or.inl rfl, ⟨Or.inl rfl, trivial⟩⟩⟩⟩⟩⟩ ?_
      exact hK152 x3 μ
    · refine z_iload (pc := 81) dX1_findAll_81 rfl ?_
      refine z_iconst (pc := 83) (1 : Int32) dX1_findAll_83 (by decide) ?_
      refine z_iadd (pc := 84) dX1_findAll_84 ?_
      refine z_val (fun v22 => ?_)
      refine z_istore (pc := 85) (L' := [.ref 69, .null, .int x2, .int x3, .int x4, .int v22]) dX1_findAll_85 (by decide) rfl ?_
      refine t1_findAll_L87 _ _ _ (fun x3_39 μ40 => ?_) zF _ _ _
      · refine z_iinc (pc := 146) (v := x4 + (1 : Int32)) (L' := [.ref 69, .null, .int x2, .int x3_39, .int (x4 + (1 : Int32)), .null]) dX1_findAll_146 (by decide) rfl (congrArg _ (by decide)) rfl ?_
        refine z_goto (pc := 149) (tgt := 72) dX1_findAll_149 (by decide) ?_
        exact ih x3_39 (x4 + (1 : Int32)) μ40
set_option maxHeartbeats 1000000 in
theorem t1_findAll_L42 (K187 : zMem → zRes) (hK187 : ∀ (μ : zMem), zR yX1_findAll cX1_findAll 6 (none) 4 187 [.null, .null, .null, .null, .null, .null] [] (nX true) (SX true) μ (K187 μ)) : ∀ (n : Nat) (x2 : Int32) (μ : zMem), zR yX1_findAll cX1_findAll 6 (none) 4 42 [.ref 69, .null, .int x2, .null, .null, .null] [] (nX true) (SX true) μ (f1_findAll_L42 K187 n x2 μ) := by
  intro n
  induction n with
  | zero => intro x2 μ; intro q hq; cases hq
  | succ n ih =>
    intro x2 μ
    unfold f1_findAll_L42
    refine z_iload_n (pc := 42) dX1_findAll_42 rfl ?_
    refine z_aload_n (pc := 43) dX1_findAll_43 rfl ?_
    refine z_geti (pc := 44) fdX1_37 (by decide) (sx_69 true) rfl dX1_findAll_44 ?_
    refine z_icmp_ge (pc := 47) (tgt := 187) dX1_findAll_47 (by decide) (fun c13 => ?_) (fun c14 => ?_)
    · refine z_loc (L' := [.null, .null, .null, .null, .null, .null]) ⟨Or.inl rfl, ⟨Or.inl rfl, ⟨Or.inl rfl, ⟨Or.inl rfl, ⟨Or.inl rfl, ⟨Or.inl rfl, trivial⟩⟩⟩⟩⟩⟩ ?_
      exact hK187 μ
    · refine z_iload_n (pc := 50) dX1_findAll_50 rfl ?_
      refine z_sipush (pc := 51) (6561 : Int32) dX1_findAll_51 (by decide) ?_
      refine z_icmp_ge (pc := 54) (tgt := 187) dX1_findAll_54 (by decide) (fun c15 => ?_) (fun c16 => ?_)
      · refine z_loc (L' := [.null, .null, .null, .null, .null, .null]) ⟨Or.inl rfl, ⟨Or.inl rfl, ⟨Or.inl rfl, ⟨Or.inl rfl, ⟨Or.inl rfl, ⟨Or.inl rfl, trivial⟩⟩⟩⟩⟩⟩ ?_
        exact hK187 μ
      · refine z_aload_n (pc := 57) dX1_findAll_57 rfl ?_
        refine z_aload_n (pc := 58) dX1_findAll_58 rfl ?_
        refine z_getr (pc := 59) fdX1_27 (by decide) (sx_69 true) rfl rfl dX1_findAll_59 ?_
        refine z_iload_n (pc := 62) dX1_findAll_62 rfl ?_
        refine z_iald (pc := 63) (by decide) (sx_75 true) rfl dX1_findAll_63 (fun h17 => ?_)
        refine z_callV (As := [.int (μ 75 x2.toNatClampNeg)]) (pc := 64) (ret' := none) kvX1_71 (t1_unfold _ _) (by decide) (by decide) (sx_69 true)  rfl rfl (Nat.le_of_ble_eq_true rfl) dX1_findAll_64 (fun v18 μ19 => ?_)
        refine z_iconst (pc := 67) (1 : Int32) dX1_findAll_67 (by decide) ?_
        refine z_istore_n (pc := 68) (L' := [.ref 69, .null, .int x2, .int (1 : Int32), .null, .null]) dX1_findAll_68 (by decide) rfl ?_
        refine z_iconst (pc := 69) (0 : Int32) dX1_findAll_69 (by decide) ?_
        refine z_istore (pc := 70) (L' := [.ref 69, .null, .int x2, .int (1 : Int32), .int (0 : Int32), .null]) dX1_findAll_70 (by decide) rfl ?_
        refine t1_findAll_L72 _ _ (fun x3_41 μ42 => ?_) zF _ _ _
        · refine z_iload_n (pc := 152) dX1_findAll_152 rfl ?_
          refine z_let (fun (j : zMem → zRes) => ∀ (μ43 : zMem), zR yX1_findAll cX1_findAll 6 (none) 4 181 [.ref 69, .null, .int x2, .null, .null, .null] [] (nX true) (SX true) μ43 (j μ43)) ?_ (fun j44 hj44 => ?_)
          · intro μ43
            refine z_iinc (pc := 181) (v := x2 + (1 : Int32)) (L' := [.ref 69, .null, .int (x2 + (1 : Int32)), .null, .null, .null]) dX1_findAll_181 (by decide) rfl (congrArg _ (by decide)) rfl ?_
            refine z_goto (pc := 184) (tgt := 42) dX1_findAll_184 (by decide) ?_
            exact ih (x2 + (1 : Int32)) μ43
          · refine z_if_eq (pc := 153) (tgt := 181) dX1_findAll_153 (by decide) (fun c45 => ?_) (fun c46 => ?_)
            · refine z_loc (L' := [.ref 69, .null, .int x2, .null, .null, .null]) ⟨Or.inr rfl, ⟨Or.inl rfl, ⟨Or.inr rfl, ⟨Or.inl rfl, ⟨Or.inl rfl, ⟨Or.inl rfl, trivial⟩⟩⟩⟩⟩⟩ ?_
              exact hj44 μ42
            · refine z_aload_n (pc := 156) dX1_findAll_156 rfl ?_
              refine z_geti (pc := 157) fdX1_40 (by decide) (sx_69 true) rfl dX1_findAll_157 ?_
              refine z_iconst (pc := 160) (-1 : Int32) dX1_findAll_160 (by decide) ?_
              refine z_icmp_ne (pc := 161) (tgt := 181) dX1_findAll_161 (by decide) (fun c47 => ?_) (fun c48 => ?_)
              · refine z_loc (L' := [.ref 69, .null, .int x2, .null, .null, .null]) ⟨Or.inr rfl, ⟨Or.inl rfl, ⟨Or.inr rfl, ⟨Or.inl rfl, ⟨Or.inl rfl, ⟨Or.inl rfl, trivial⟩⟩⟩⟩⟩⟩ ?_
                exact hj44 μ42
              · refine z_aload_n (pc := 164) dX1_findAll_164 rfl ?_
                refine z_aload_n (pc := 165) dX1_findAll_165 rfl ?_
                refine z_getr (pc := 166) fdX1_21 (by decide) (sx_69 true) rfl rfl dX1_findAll_166 ?_
                refine z_aload_n (pc := 169) dX1_findAll_169 rfl ?_
                refine z_getr (pc := 170) fdX1_27 (by decide) (sx_69 true) rfl rfl dX1_findAll_170 ?_
                refine z_iload_n (pc := 173) dX1_findAll_173 rfl ?_
                refine z_iald (pc := 174) (by decide) (sx_75 true) rfl dX1_findAll_174 (fun h49 => ?_)
                refine z_iald (pc := 175) (by decide) (sx_73 true) rfl dX1_findAll_175 (fun h50 => ?_)
                refine z_iconst (pc := 176) (1 : Int32) dX1_findAll_176 (by decide) ?_
                refine z_isub (pc := 177) dX1_findAll_177 ?_
                refine z_puti (pc := 178) fdX1_40 (by decide) (sx_69 true) rfl rfl dX1_findAll_178 ?_
                refine z_mem (fun μ51 => ?_)
                refine z_loc (L' := [.ref 69, .null, .int x2, .null, .null, .null]) ⟨Or.inr rfl, ⟨Or.inl rfl, ⟨Or.inr rfl, ⟨Or.inl rfl, ⟨Or.inl rfl, ⟨Or.inl rfl, trivial⟩⟩⟩⟩⟩⟩ ?_
                exact hj44 μ51
set_option maxHeartbeats 1000000 in
theorem t1_findAll (x1 : Int32) (μ : zMem) : zMR yX1_findAll cX1_findAll 6 (none) 4 [.ref 69, .int x1] (nX true) (SX true) μ (f1_findAll x1 μ) := by
  refine zMR_of (by decide +kernel) rfl (Nat.le_of_ble_eq_true rfl) (L := [.ref 69, .int x1, .null, .null, .null, .null]) rfl ?_
  unfold f1_findAll
  refine z_aload_n (pc := 0) dX1_findAll_0 rfl ?_
  refine z_getr (pc := 1) fdX1_21 (by decide) (sx_69 true) rfl rfl dX1_findAll_1 ?_
  refine z_iconst (pc := 4) (0 : Int32) dX1_findAll_4 (by decide) ?_
  refine z_callS (As := [.ref 73, .int (0 : Int32)]) (pc := 5) (ret' := none) ksX1_65 (tJ7_fill_53178 (by decide) (sx_73 true) _ _) (by decide)  rfl rfl (Nat.le_of_ble_eq_true rfl) dX1_findAll_5 (fun v1 μ2 => ?_)
  refine z_aload_n (pc := 8) dX1_findAll_8 rfl ?_
  refine z_getr (pc := 9) fdX1_24 (by decide) (sx_69 true) rfl rfl dX1_findAll_9 ?_
  refine z_iconst (pc := 12) (0 : Int32) dX1_findAll_12 (by decide) ?_
  refine z_callS (As := [.ref 74, .int (0 : Int32)]) (pc := 13) (ret' := none) ksX1_65 (tJ7_fill_53178 (by decide) (sx_74 true) _ _) (by decide)  rfl rfl (Nat.le_of_ble_eq_true rfl) dX1_findAll_13 (fun v3 μ4 => ?_)
  refine z_aload_n (pc := 16) dX1_findAll_16 rfl ?_
  refine z_iconst (pc := 17) (-1 : Int32) dX1_findAll_17 (by decide) ?_
  refine z_puti (pc := 18) fdX1_40 (by decide) (sx_69 true) rfl rfl dX1_findAll_18 ?_
  refine z_mem (fun μ5 => ?_)
  refine z_aload_n (pc := 21) dX1_findAll_21 rfl ?_
  refine z_getr (pc := 22) fdX1_21 (by decide) (sx_69 true) rfl rfl dX1_findAll_22 ?_
  refine z_iload_n (pc := 25) dX1_findAll_25 rfl ?_
  refine z_iconst (pc := 26) (1 : Int32) dX1_findAll_26 (by decide) ?_
  refine z_iast (pc := 27) (by decide) (sx_73 true) rfl dX1_findAll_27 (fun h6 => ?_)
  refine z_mem (fun μ7 => ?_)
  refine z_aload_n (pc := 28) dX1_findAll_28 rfl ?_
  refine z_getr (pc := 29) fdX1_27 (by decide) (sx_69 true) rfl rfl dX1_findAll_29 ?_
  refine z_iconst (pc := 32) (0 : Int32) dX1_findAll_32 (by decide) ?_
  refine z_iload_n (pc := 33) dX1_findAll_33 rfl ?_
  refine z_iast (pc := 34) (by decide) (sx_75 true) rfl dX1_findAll_34 (fun h8 => ?_)
  refine z_mem (fun μ9 => ?_)
  refine z_aload_n (pc := 35) dX1_findAll_35 rfl ?_
  refine z_iconst (pc := 36) (1 : Int32) dX1_findAll_36 (by decide) ?_
  refine z_puti (pc := 37) fdX1_37 (by decide) (sx_69 true) rfl rfl dX1_findAll_37 ?_
  refine z_mem (fun μ10 => ?_)
  refine z_iconst (pc := 40) (0 : Int32) dX1_findAll_40 (by decide) ?_
  refine z_istore_n (pc := 41) (L' := [.ref 69, .int x1, .int (0 : Int32), .null, .null, .null]) dX1_findAll_41 (by decide) rfl ?_
  refine z_let (fun (j : zMem → zRes) => ∀ (μ11 : zMem), zR yX1_findAll cX1_findAll 6 (none) 4 187 [.null, .null, .null, .null, .null, .null] [] (nX true) (SX true) μ11 (j μ11)) ?_ (fun j12 hj12 => ?_)
  · intro μ11
    exact z_vret (pc := 187) rfl dX1_findAll_187
  · refine z_loc (L' := [.ref 69, .null, .int (0 : Int32), .null, .null, .null]) ⟨Or.inr rfl, ⟨Or.inl rfl, ⟨Or.inr rfl, ⟨Or.inl rfl, ⟨Or.inl rfl, ⟨Or.inl rfl, trivial⟩⟩⟩⟩⟩⟩ ?_
    refine t1_findAll_L42 _ (fun μ52 => ?_) zF _ _
    · exact hj12 μ52
def f1_gather_L27 (x2 : Int32) (K92 : zMem → zRes) : Nat → Int32 → zMem → zRes
  | 0, _, _ => none
  | n + 1, x5, μ => if x5 < 0 then K92 μ else zlet (fun (μ6 : zMem) => f1_gather_L27 x2 K92 n (x5 + (-1 : Int32)) μ6) (fun j7 => if ((zshr x2 x5) &&& (1 : Int32)) = 0 then j7 μ else if (4 : Int32) ≤ (μ 69 7) then j7 μ else zin (μ 69 7) 4 (zlet (zset μ 70 (μ 69 7).toNatClampNeg x5) (fun (μ13 : zMem) => zin x5 9 (zin (μ13 69 7) 4 (zlet (zset μ13 71 (μ13 69 7).toNatClampNeg (μ13 26 x5.toNatClampNeg)) (fun (μ16 : zMem) => zlet (zset μ16 69 7 ((μ16 69 7) + (1 : Int32))) (fun (μ17 : zMem) => j7 μ17)))))))
def f1_gather_L100 (x3 : Int32) (K131 : Int32 → zMem → zRes) : Nat → Int32 → Int32 → zMem → zRes
  | 0, _, _, _ => none
  | n + 1, x4, x5, μ => if x5 < 0 then K131 x4 μ else zin x5 4 (bnd0 (f5_thought 23 (μ 70 x5.toNatClampNeg) x3 μ) (fun (v23 : Int32) (μ24 : zMem) => zlet ((x4 * (9 : Int32)) + v23) (fun (v25 : Int32) => f1_gather_L100 x3 K131 n v25 (x5 + (-1 : Int32)) μ24)))
def f1_gather (x2 : Int32) (x3 : Int32) (μ : zMem) : zRes := zlet (zset μ 69 7 (0 : Int32)) (fun (μ1 : zMem) => zlet (zset μ1 69 8 (μ1 23 3)) (fun (μ2 : zMem) => zlet ((μ2 2 1) - (1 : Int32)) (fun (v3 : Int32) => f1_gather_L27 x2 (fun (μ18 : zMem) => zlet ((μ18 69 7) - (1 : Int32)) (fun (v19 : Int32) => f1_gather_L100 x3 (fun (x4_26 : Int32) (μ27 : zMem) => bnd0 (f1_findAll x4_26 μ27) (fun (v28 : Int32) (μ29 : zMem) => some (0, 0, μ29))) zF (0 : Int32) v19 μ18)) zF v3 μ2)))
set_option maxHeartbeats 1000000 in
theorem t1_gather_L27 (x2 : Int32) (x3 : Int32) (x4 : Int32) (K92 : zMem → zRes) (hK92 : ∀ (μ : zMem), zR yX1_gather cX1_gather 6 (none) 5 92 [.ref 69, .ref 23, .null, .int x3, .int x4, .null] [] (nX true) (SX true) μ (K92 μ)) : ∀ (n : Nat) (x5 : Int32) (μ : zMem), zR yX1_gather cX1_gather 6 (none) 5 27 [.ref 69, .ref 23, .int x2, .int x3, .int x4, .int x5] [] (nX true) (SX true) μ (f1_gather_L27 x2 K92 n x5 μ) := by
  intro n
  induction n with
  | zero => intro x5 μ; intro q hq; cases hq
  | succ n ih =>
    intro x5 μ
    unfold f1_gather_L27
    refine z_iload (pc := 27) dX1_gather_27 rfl ?_
    refine z_if_lt (pc := 29) (tgt := 92) dX1_gather_29 (by decide) (fun c4 => ?_) (fun c5 => ?_)
    · refine z_loc (L' := [.ref 69, .ref 23, .null, .int x3, .int x4, .null]) ⟨Or.inr rfl, ⟨Or.inr rfl, ⟨Or.inl rfl, ⟨Or.inr rfl, ⟨Or.inr rfl, ⟨Or.inl rfl, trivial⟩⟩⟩⟩⟩⟩ ?_
      exact hK92 μ
    · refine z_iload_n (pc := 32) dX1_gather_32 rfl ?_
      refine z_iload (pc := 33) dX1_gather_33 rfl ?_
      refine z_ishr (pc := 35) dX1_gather_35 ?_
      refine z_iconst (pc := 36) (1 : Int32) dX1_gather_36 (by decide) ?_
      refine z_iand (pc := 37) dX1_gather_37 ?_
      refine z_let (fun (j : zMem → zRes) => ∀ (μ6 : zMem), zR yX1_gather cX1_gather 6 (none) 5 86 [.ref 69, .ref 23, .int x2, .int x3, .int x4, .int x5] [] (nX true) (SX true) μ6 (j μ6)) ?_ (fun j7 hj7 => ?_)
      · intro μ6
        refine z_iinc (pc := 86) (v := x5 + (-1 : Int32)) (L' := [.ref 69, .ref 23, .int x2, .int x3, .int x4, .int (x5 + (-1 : Int32))]) dX1_gather_86 (by decide) rfl (congrArg _ (by decide)) rfl ?_
        refine z_goto (pc := 89) (tgt := 27) dX1_gather_89 (by decide) ?_
        exact ih (x5 + (-1 : Int32)) μ6
      · refine z_if_eq (pc := 38) (tgt := 86) dX1_gather_38 (by decide) (fun c8 => ?_) (fun c9 => ?_)
        · exact hj7 μ
        · refine z_aload_n (pc := 41) dX1_gather_41 rfl ?_
          refine z_geti (pc := 42) fdX1_30 (by decide) (sx_69 true) rfl dX1_gather_42 ?_
          refine z_iconst (pc := 45) (4 : Int32) dX1_gather_45 (by decide) ?_
          refine z_icmp_ge (pc := 46) (tgt := 86) dX1_gather_46 (by decide) (fun c10 => ?_) (fun c11 => ?_)
          · exact hj7 μ
          · refine z_aload_n (pc := 49) dX1_gather_49 rfl ?_
            refine z_getr (pc := 50) fdX1_11 (by decide) (sx_69 true) rfl rfl dX1_gather_50 ?_
            refine z_aload_n (pc := 53) dX1_gather_53 rfl ?_
            refine z_geti (pc := 54) fdX1_30 (by decide) (sx_69 true) rfl dX1_gather_54 ?_
            refine z_iload (pc := 57) dX1_gather_57 rfl ?_
            refine z_iast (pc := 59) (by decide) (sx_70 true) rfl dX1_gather_59 (fun h12 => ?_)
            refine z_mem (fun μ13 => ?_)
            refine z_aload_n (pc := 60) dX1_gather_60 rfl ?_
            refine z_getr (pc := 61) fdX1_15 (by decide) (sx_69 true) rfl rfl dX1_gather_61 ?_
            refine z_aload_n (pc := 64) dX1_gather_64 rfl ?_
            refine z_geti (pc := 65) fdX1_30 (by decide) (sx_69 true) rfl dX1_gather_65 ?_
            refine z_aload_n (pc := 68) dX1_gather_68 rfl ?_
            refine z_getr (pc := 69) fdX1_55 (nx_lt (by decide)) (sx_23 true) rfl rfl dX1_gather_69 ?_
            refine z_iload (pc := 72) dX1_gather_72 rfl ?_
            refine z_iald (pc := 74) (nx_lt (by decide)) (sx_26 true) rfl dX1_gather_74 (fun h14 => ?_)
            refine z_iast (pc := 75) (by decide) (sx_71 true) rfl dX1_gather_75 (fun h15 => ?_)
            refine z_mem (fun μ16 => ?_)
            refine z_aload_n (pc := 76) dX1_gather_76 rfl ?_
            refine z_dup (pc := 77) dX1_gather_77 rfl ?_
            refine z_geti (pc := 78) fdX1_30 (by decide) (sx_69 true) rfl dX1_gather_78 ?_
            refine z_iconst (pc := 81) (1 : Int32) dX1_gather_81 (by decide) ?_
            refine z_iadd (pc := 82) dX1_gather_82 ?_
            refine z_puti (pc := 83) fdX1_30 (by decide) (sx_69 true) rfl rfl dX1_gather_83 ?_
            refine z_mem (fun μ17 => ?_)
            exact hj7 μ17
set_option maxHeartbeats 1000000 in
theorem t1_gather_L100 (x3 : Int32) (K131 : Int32 → zMem → zRes) (hK131 : ∀ (x4 : Int32) (μ : zMem), zR yX1_gather cX1_gather 6 (none) 5 131 [.ref 69, .null, .null, .null, .int x4, .null] [] (nX true) (SX true) μ (K131 x4 μ)) : ∀ (n : Nat) (x4 : Int32) (x5 : Int32) (μ : zMem), zR yX1_gather cX1_gather 6 (none) 5 100 [.ref 69, .ref 23, .null, .int x3, .int x4, .int x5] [] (nX true) (SX true) μ (f1_gather_L100 x3 K131 n x4 x5 μ) := by
  intro n
  induction n with
  | zero => intro x4 x5 μ; intro q hq; cases hq
  | succ n ih =>
    intro x4 x5 μ
    unfold f1_gather_L100
    refine z_iload (pc := 100) dX1_gather_100 rfl ?_
    refine z_if_lt (pc := 102) (tgt := 131) dX1_gather_102 (by decide) (fun c20 => ?_) (fun c21 => ?_)
    · refine z_loc (L' := [.ref 69, .null, .null, .null, .int x4, .null]) ⟨Or.inr rfl, ⟨Or.inl rfl, ⟨Or.inl rfl, ⟨Or.inl rfl, ⟨Or.inr rfl, ⟨Or.inl rfl, trivial⟩⟩⟩⟩⟩⟩ ?_
      exact hK131 x4 μ
    · refine z_iload (pc := 105) dX1_gather_105 rfl ?_
      refine z_bipush (pc := 107) (9 : Int32) dX1_gather_107 (by decide) ?_
      refine z_imul (pc := 109) dX1_gather_109 ?_
      refine z_aload_n (pc := 110) dX1_gather_110 rfl ?_
      refine z_aload_n (pc := 111) dX1_gather_111 rfl ?_
      refine z_getr (pc := 112) fdX1_11 (by decide) (sx_69 true) rfl rfl dX1_gather_112 ?_
      refine z_iload (pc := 115) dX1_gather_115 rfl ?_
      refine z_iald (pc := 117) (by decide) (sx_70 true) rfl dX1_gather_117 (fun h22 => ?_)
      refine z_iload_n (pc := 118) dX1_gather_118 rfl ?_
      refine z_callV (As := [.int (μ 70 x5.toNatClampNeg), .int x3]) (pc := 119) (ret' := some .int) kvX1_58 (t5_thought zSc_23 _ _ _) (by decide) (nx_lt (by decide)) (sx_23 true)  rfl rfl (Nat.le_of_ble_eq_true rfl) dX1_gather_119 (fun v23 μ24 => ?_)
      refine z_iadd (pc := 122) dX1_gather_122 ?_
      refine z_val (fun v25 => ?_)
      refine z_istore (pc := 123) (L' := [.ref 69, .ref 23, .null, .int x3, .int v25, .int x5]) dX1_gather_123 (by decide) rfl ?_
      refine z_iinc (pc := 125) (v := x5 + (-1 : Int32)) (L' := [.ref 69, .ref 23, .null, .int x3, .int v25, .int (x5 + (-1 : Int32))]) dX1_gather_125 (by decide) rfl (congrArg _ (by decide)) rfl ?_
      refine z_goto (pc := 128) (tgt := 100) dX1_gather_128 (by decide) ?_
      exact ih v25 (x5 + (-1 : Int32)) μ24
set_option maxHeartbeats 1000000 in
theorem t1_gather (x2 : Int32) (x3 : Int32) (μ : zMem) : zMR yX1_gather cX1_gather 6 (none) 5 [.ref 69, .ref 23, .int x2, .int x3] (nX true) (SX true) μ (f1_gather x2 x3 μ) := by
  refine zMR_of (by decide +kernel) rfl (Nat.le_of_ble_eq_true rfl) (L := [.ref 69, .ref 23, .int x2, .int x3, .null, .null]) rfl ?_
  unfold f1_gather
  refine z_aload_n (pc := 0) dX1_gather_0 rfl ?_
  refine z_iconst (pc := 1) (0 : Int32) dX1_gather_1 (by decide) ?_
  refine z_puti (pc := 2) fdX1_30 (by decide) (sx_69 true) rfl rfl dX1_gather_2 ?_
  refine z_mem (fun μ1 => ?_)
  refine z_aload_n (pc := 5) dX1_gather_5 rfl ?_
  refine z_aload_n (pc := 6) dX1_gather_6 rfl ?_
  refine z_geti (pc := 7) fdX1_47 (nx_lt (by decide)) (sx_23 true) rfl dX1_gather_7 ?_
  refine z_puti (pc := 10) fdX1_34 (by decide) (sx_69 true) rfl rfl dX1_gather_10 ?_
  refine z_mem (fun μ2 => ?_)
  refine z_iconst (pc := 13) (0 : Int32) dX1_gather_13 (by decide) ?_
  refine z_istore (pc := 14) (L' := [.ref 69, .ref 23, .int x2, .int x3, .int (0 : Int32), .null]) dX1_gather_14 (by decide) rfl ?_
  refine z_aload_n (pc := 16) dX1_gather_16 rfl ?_
  refine z_getr (pc := 17) fdX1_43 (by decide) (sx_69 true) rfl rfl dX1_gather_17 ?_
  refine z_geti (pc := 20) fdX1_50 (nx_lt (by decide)) (sx_2 true) rfl dX1_gather_20 ?_
  refine z_iconst (pc := 23) (1 : Int32) dX1_gather_23 (by decide) ?_
  refine z_isub (pc := 24) dX1_gather_24 ?_
  refine z_val (fun v3 => ?_)
  refine z_istore (pc := 25) (L' := [.ref 69, .ref 23, .int x2, .int x3, .int (0 : Int32), .int v3]) dX1_gather_25 (by decide) rfl ?_
  refine t1_gather_L27 _ _ _ _ (fun μ18 => ?_) zF _ _
  · refine z_aload_n (pc := 92) dX1_gather_92 rfl ?_
    refine z_geti (pc := 93) fdX1_30 (by decide) (sx_69 true) rfl dX1_gather_93 ?_
    refine z_iconst (pc := 96) (1 : Int32) dX1_gather_96 (by decide) ?_
    refine z_isub (pc := 97) dX1_gather_97 ?_
    refine z_val (fun v19 => ?_)
    refine z_istore (pc := 98) (L' := [.ref 69, .ref 23, .null, .int x3, .int (0 : Int32), .int v19]) dX1_gather_98 (by decide) rfl ?_
    refine t1_gather_L100 _ _ (fun x4_26 μ27 => ?_) zF _ _ _
    · refine z_aload_n (pc := 131) dX1_gather_131 rfl ?_
      refine z_iload (pc := 132) dX1_gather_132 rfl ?_
      refine z_callV (As := [.int x4_26]) (pc := 134) (ret' := none) kvX1_61 (t1_findAll _ _) (by decide) (by decide) (sx_69 true)  rfl rfl (Nat.le_of_ble_eq_true rfl) dX1_gather_134 (fun v28 μ29 => ?_)
      exact z_vret (pc := 137) rfl dX1_gather_137
def f1_isReadyBehind (x1 : Int32) (x2 : Int32) (x3 : Int32) (μ : zMem) : zRes := zin x2 6561 (zin x1 6561 (zin x2 6561 (zlet (zset μ 73 x2.toNatClampNeg (zmax (μ 73 x2.toNatClampNeg) ((μ 73 x1.toNatClampNeg) + (1 : Int32)))) (fun (μ4 : zMem) => zin x2 6561 (zin x2 6561 (zlet (zset μ4 74 x2.toNatClampNeg ((μ4 74 x2.toNatClampNeg) - (1 : Int32))) (fun (μ7 : zMem) => zin x2 6561 (zlet (some (0, (0 : Int32), μ7)) (fun j9 => if (μ7 74 x2.toNatClampNeg) = 0 then if x3 < (6561 : Int32) then zin x3 6561 (zlet (zset μ7 75 x3.toNatClampNeg x2) (fun (μ15 : zMem) => some (0, (1 : Int32), μ15))) else j9 else j9)))))))))
set_option maxHeartbeats 1000000 in
theorem t1_isReadyBehind (x1 : Int32) (x2 : Int32) (x3 : Int32) (μ : zMem) : zMR yX1_isReadyBehind cX1_isReadyBehind 4 (some .boolean) 1 [.ref 69, .int x1, .int x2, .int x3] (nX true) (SX true) μ (f1_isReadyBehind x1 x2 x3 μ) := by
  refine zMR_of (by decide +kernel) rfl (Nat.le_of_ble_eq_true rfl) (L := [.ref 69, .int x1, .int x2, .int x3]) rfl ?_
  unfold f1_isReadyBehind
  refine z_aload_n (pc := 0) dX1_isReadyBehind_0 rfl ?_
  refine z_getr (pc := 1) fdX1_21 (by decide) (sx_69 true) rfl rfl dX1_isReadyBehind_1 ?_
  refine z_iload_n (pc := 4) dX1_isReadyBehind_4 rfl ?_
  refine z_aload_n (pc := 5) dX1_isReadyBehind_5 rfl ?_
  refine z_getr (pc := 6) fdX1_21 (by decide) (sx_69 true) rfl rfl dX1_isReadyBehind_6 ?_
  refine z_iload_n (pc := 9) dX1_isReadyBehind_9 rfl ?_
  refine z_iald (pc := 10) (by decide) (sx_73 true) rfl dX1_isReadyBehind_10 (fun h1 => ?_)
  refine z_aload_n (pc := 11) dX1_isReadyBehind_11 rfl ?_
  refine z_getr (pc := 12) fdX1_21 (by decide) (sx_69 true) rfl rfl dX1_isReadyBehind_12 ?_
  refine z_iload_n (pc := 15) dX1_isReadyBehind_15 rfl ?_
  refine z_iald (pc := 16) (by decide) (sx_73 true) rfl dX1_isReadyBehind_16 (fun h2 => ?_)
  refine z_iconst (pc := 17) (1 : Int32) dX1_isReadyBehind_17 (by decide) ?_
  refine z_iadd (pc := 18) dX1_isReadyBehind_18 ?_
  refine z_mmax (pc := 19) kmX1_86 (by decide) (Nat.le_of_ble_eq_true rfl) dX1_isReadyBehind_19 ?_
  refine z_iast (pc := 22) (by decide) (sx_73 true) rfl dX1_isReadyBehind_22 (fun h3 => ?_)
  refine z_mem (fun μ4 => ?_)
  refine z_aload_n (pc := 23) dX1_isReadyBehind_23 rfl ?_
  refine z_getr (pc := 24) fdX1_24 (by decide) (sx_69 true) rfl rfl dX1_isReadyBehind_24 ?_
  refine z_iload_n (pc := 27) dX1_isReadyBehind_27 rfl ?_
  refine z_dup2 (pc := 28) dX1_isReadyBehind_28 rfl rfl ?_
  refine z_iald (pc := 29) (by decide) (sx_74 true) rfl dX1_isReadyBehind_29 (fun h5 => ?_)
  refine z_iconst (pc := 30) (1 : Int32) dX1_isReadyBehind_30 (by decide) ?_
  refine z_isub (pc := 31) dX1_isReadyBehind_31 ?_
  refine z_iast (pc := 32) (by decide) (sx_74 true) rfl dX1_isReadyBehind_32 (fun h6 => ?_)
  refine z_mem (fun μ7 => ?_)
  refine z_aload_n (pc := 33) dX1_isReadyBehind_33 rfl ?_
  refine z_getr (pc := 34) fdX1_24 (by decide) (sx_69 true) rfl rfl dX1_isReadyBehind_34 ?_
  refine z_iload_n (pc := 37) dX1_isReadyBehind_37 rfl ?_
  refine z_iald (pc := 38) (by decide) (sx_74 true) rfl dX1_isReadyBehind_38 (fun h8 => ?_)
  refine z_let (fun (j : zRes) => zR yX1_isReadyBehind cX1_isReadyBehind 4 (some .boolean) 1 49 [.null, .null, .null, .null] [] (nX true) (SX true) μ7 (j)) ?_ (fun j9 hj9 => ?_)
  · refine z_iconst (pc := 49) (0 : Int32) dX1_isReadyBehind_49 (by decide) ?_
    exact z_zretc (pc := 50) rfl (Or.inl rfl) dX1_isReadyBehind_50
  · refine z_if_ne (pc := 39) (tgt := 49) dX1_isReadyBehind_39 (by decide) (fun c10 => ?_) (fun c11 => ?_)
    · refine z_loc (L' := [.null, .null, .null, .null]) ⟨Or.inl rfl, ⟨Or.inl rfl, ⟨Or.inl rfl, ⟨Or.inl rfl, trivial⟩⟩⟩⟩ ?_
      exact hj9
    · refine z_iload_n (pc := 42) dX1_isReadyBehind_42 rfl ?_
      refine z_sipush (pc := 43) (6561 : Int32) dX1_isReadyBehind_43 (by decide) ?_
      refine z_icmp_lt (pc := 46) (tgt := 51) dX1_isReadyBehind_46 (by decide) (fun c12 => ?_) (fun c13 => ?_)
      · refine z_aload_n (pc := 51) dX1_isReadyBehind_51 rfl ?_
        refine z_getr (pc := 52) fdX1_27 (by decide) (sx_69 true) rfl rfl dX1_isReadyBehind_52 ?_
        refine z_iload_n (pc := 55) dX1_isReadyBehind_55 rfl ?_
        refine z_iload_n (pc := 56) dX1_isReadyBehind_56 rfl ?_
        refine z_iast (pc := 57) (by decide) (sx_75 true) rfl dX1_isReadyBehind_57 (fun h14 => ?_)
        refine z_mem (fun μ15 => ?_)
        refine z_iconst (pc := 58) (1 : Int32) dX1_isReadyBehind_58 (by decide) ?_
        exact z_zretc (pc := 59) rfl (Or.inr rfl) dX1_isReadyBehind_59
      · refine z_loc (L' := [.null, .null, .null, .null]) ⟨Or.inl rfl, ⟨Or.inl rfl, ⟨Or.inl rfl, ⟨Or.inl rfl, trivial⟩⟩⟩⟩ ?_
        exact hj9
def f1_mostWorks_L82 (x4 : Int32) (x5 : Int32) (K136 : Int32 → zMem → zRes) : Nat → Int32 → Int32 → zMem → zRes
  | 0, _, _, _ => none
  | n + 1, x1, x6, μ => if (μ 69 7) ≤ x6 then K136 x1 μ else bnd0 (f1_canWork x5 x6 μ) (fun (v27 : Int32) (μ28 : zMem) => zlet (fun (s29 : Int32) (μ30 : zMem) => zlet (x1 + s29) (fun (v31 : Int32) => f1_mostWorks_L82 x4 x5 K136 n v31 (x6 + (1 : Int32)) μ30)) (fun j32 => zlet (fun (μ33 : zMem) => j32 (0 : Int32) μ33) (fun j34 => if v27 = 0 then j34 μ28 else bnd0 (f1_stateBehind x4 x5 x6 μ28) (fun (v37 : Int32) (μ38 : zMem) => bnd0 (f1_isReadyBehind x4 v37 x1 μ38) (fun (v39 : Int32) (μ40 : zMem) => if v39 = 0 then j34 μ40 else j32 (1 : Int32) μ40)))))
def f1_mostWorks_L67 (x4 : Int32) (K142 : Int32 → zMem → zRes) : Nat → Int32 → Int32 → zMem → zRes
  | 0, _, _, _ => none
  | n + 1, x1, x5, μ => if (μ 69 7) ≤ x5 then K142 x1 μ else zlet (x5 + (1 : Int32)) (fun (v24 : Int32) => f1_mostWorks_L82 x4 x5 (fun (x1_43 : Int32) (μ44 : zMem) => f1_mostWorks_L67 x4 K142 n x1_43 (x5 + (1 : Int32)) μ44) zF x1 v24 μ)
def f1_mostWorks_L24 (K148 : Int32 → Int32 → zMem → zRes) : Nat → Int32 → Int32 → Int32 → zMem → zRes
  | 0, _, _, _, _ => none
  | n + 1, x1, x2, x3, μ => if x1 ≤ x3 then K148 x1 x2 μ else if (6561 : Int32) ≤ x3 then K148 x1 x2 μ else zin x3 6561 (zlet (μ 75 x3.toNatClampNeg) (fun (v17 : Int32) => zin v17 6561 (zlet (zmax x2 ((μ 73 v17.toNatClampNeg) - (1 : Int32))) (fun (v19 : Int32) => bnd0 (f1_unfold v17 μ) (fun (v20 : Int32) (μ21 : zMem) => f1_mostWorks_L67 v17 (fun (x1_45 : Int32) (μ46 : zMem) => f1_mostWorks_L24 K148 n x1_45 v19 (x3 + (1 : Int32)) μ46) zF x1 (0 : Int32) μ21)))))
def f1_mostWorks (μ : zMem) : zRes := zin (0 : Int32) 6561 (zin (μ 75 (0 : Int32).toNatClampNeg) 6561 (zlet (fun (s3 : Int32) => zlet (fun (x1_4 : Int32) (x2_5 : Int32) (μ6 : zMem) => zlet (fun (s7 : Int32) => some (0, s7, μ6)) (fun j8 => if x1_4 = (μ6 69 9) then j8 x2_5 else j8 (-1 : Int32))) (fun j11 => f1_mostWorks_L24 (fun (x1_47 : Int32) (x2_48 : Int32) (μ49 : zMem) => j11 x1_47 x2_48 μ49) zF s3 (0 : Int32) (0 : Int32) μ)) (fun j50 => if (μ 74 (μ 75 (0 : Int32).toNatClampNeg).toNatClampNeg) = 0 then j50 (1 : Int32) else j50 (0 : Int32))))
set_option maxHeartbeats 1000000 in
theorem t1_mostWorks_L82 (x2 : Int32) (x3 : Int32) (x4 : Int32) (x5 : Int32) (K136 : Int32 → zMem → zRes) (hK136 : ∀ (x1 : Int32) (μ : zMem), zR yX1_mostWorks cX1_mostWorks 7 (some .int) 4 136 [.ref 69, .int x1, .int x2, .int x3, .int x4, .int x5, .null] [] (nX true) (SX true) μ (K136 x1 μ)) : ∀ (n : Nat) (x1 : Int32) (x6 : Int32) (μ : zMem), zR yX1_mostWorks cX1_mostWorks 7 (some .int) 4 82 [.ref 69, .int x1, .int x2, .int x3, .int x4, .int x5, .int x6] [] (nX true) (SX true) μ (f1_mostWorks_L82 x4 x5 K136 n x1 x6 μ) := by
  intro n
  induction n with
  | zero => intro x1 x6 μ; intro q hq; cases hq
  | succ n ih =>
    intro x1 x6 μ
    unfold f1_mostWorks_L82
    refine z_iload (pc := 82) dX1_mostWorks_82 rfl ?_
    refine z_aload_n (pc := 84) dX1_mostWorks_84 rfl ?_
    refine z_geti (pc := 85) fdX1_30 (by decide) (sx_69 true) rfl dX1_mostWorks_85 ?_
    refine z_icmp_ge (pc := 88) (tgt := 136) dX1_mostWorks_88 (by decide) (fun c25 => ?_) (fun c26 => ?_)
    · refine z_loc (L' := [.ref 69, .int x1, .int x2, .int x3, .int x4, .int x5, .null]) ⟨Or.inr rfl, ⟨Or.inr rfl, ⟨Or.inr rfl, ⟨Or.inr rfl, ⟨Or.inr rfl, ⟨Or.inr rfl, ⟨Or.inl rfl, trivial⟩⟩⟩⟩⟩⟩⟩ ?_
      exact hK136 x1 μ
    · refine z_iload_n (pc := 91) dX1_mostWorks_91 rfl ?_
      refine z_aload_n (pc := 92) dX1_mostWorks_92 rfl ?_
      refine z_iload (pc := 93) dX1_mostWorks_93 rfl ?_
      refine z_iload (pc := 95) dX1_mostWorks_95 rfl ?_
      refine z_callV (As := [.int x5, .int x6]) (pc := 97) (ret' := some .boolean) kvX1_74 (t1_canWork _ _ _) (by decide) (by decide) (sx_69 true)  rfl rfl (Nat.le_of_ble_eq_true rfl) dX1_mostWorks_97 (fun v27 μ28 => ?_)
      refine z_let (fun (j : Int32 → zMem → zRes) => ∀ (s29 : Int32) (μ30 : zMem), zR yX1_mostWorks cX1_mostWorks 7 (some .int) 4 128 [.ref 69, .null, .int x2, .int x3, .int x4, .int x5, .int x6] [.int s29, .int x1] (nX true) (SX true) μ30 (j s29 μ30)) ?_ (fun j32 hj32 => ?_)
      · intro s29 μ30
        refine z_iadd (pc := 128) dX1_mostWorks_128 ?_
        refine z_val (fun v31 => ?_)
        refine z_istore_n (pc := 129) (L' := [.ref 69, .int v31, .int x2, .int x3, .int x4, .int x5, .int x6]) dX1_mostWorks_129 (by decide) rfl ?_
        refine z_iinc (pc := 130) (v := x6 + (1 : Int32)) (L' := [.ref 69, .int v31, .int x2, .int x3, .int x4, .int x5, .int (x6 + (1 : Int32))]) dX1_mostWorks_130 (by decide) rfl (congrArg _ (by decide)) rfl ?_
        refine z_goto (pc := 133) (tgt := 82) dX1_mostWorks_133 (by decide) ?_
        exact ih v31 (x6 + (1 : Int32)) μ30
      · refine z_let (fun (j : zMem → zRes) => ∀ (μ33 : zMem), zR yX1_mostWorks cX1_mostWorks 7 (some .int) 4 127 [.ref 69, .null, .int x2, .int x3, .int x4, .int x5, .int x6] [.int x1] (nX true) (SX true) μ33 (j μ33)) ?_ (fun j34 hj34 => ?_)
        · intro μ33
          refine z_iconst (pc := 127) (0 : Int32) dX1_mostWorks_127 (by decide) ?_
          exact hj32 (0 : Int32) μ33
        · refine z_if_eq (pc := 100) (tgt := 127) dX1_mostWorks_100 (by decide) (fun c35 => ?_) (fun c36 => ?_)
          · refine z_loc (L' := [.ref 69, .null, .int x2, .int x3, .int x4, .int x5, .int x6]) ⟨Or.inr rfl, ⟨Or.inl rfl, ⟨Or.inr rfl, ⟨Or.inr rfl, ⟨Or.inr rfl, ⟨Or.inr rfl, ⟨Or.inr rfl, trivial⟩⟩⟩⟩⟩⟩⟩ ?_
            exact hj34 μ28
          · refine z_aload_n (pc := 103) dX1_mostWorks_103 rfl ?_
            refine z_iload (pc := 104) dX1_mostWorks_104 rfl ?_
            refine z_aload_n (pc := 106) dX1_mostWorks_106 rfl ?_
            refine z_iload (pc := 107) dX1_mostWorks_107 rfl ?_
            refine z_iload (pc := 109) dX1_mostWorks_109 rfl ?_
            refine z_iload (pc := 111) dX1_mostWorks_111 rfl ?_
            refine z_callV (As := [.int x4, .int x5, .int x6]) (pc := 113) (ret' := some .int) kvX1_78 (t1_stateBehind _ _ _ _) (by decide) (by decide) (sx_69 true)  rfl rfl (Nat.le_of_ble_eq_true rfl) dX1_mostWorks_113 (fun v37 μ38 => ?_)
            refine z_iload_n (pc := 116) dX1_mostWorks_116 rfl ?_
            refine z_callV (As := [.int x4, .int v37, .int x1]) (pc := 117) (ret' := some .boolean) kvX1_91 (t1_isReadyBehind _ _ _ _) (by decide) (by decide) (sx_69 true)  rfl rfl (Nat.le_of_ble_eq_true rfl) dX1_mostWorks_117 (fun v39 μ40 => ?_)
            refine z_if_eq (pc := 120) (tgt := 127) dX1_mostWorks_120 (by decide) (fun c41 => ?_) (fun c42 => ?_)
            · refine z_loc (L' := [.ref 69, .null, .int x2, .int x3, .int x4, .int x5, .int x6]) ⟨Or.inr rfl, ⟨Or.inl rfl, ⟨Or.inr rfl, ⟨Or.inr rfl, ⟨Or.inr rfl, ⟨Or.inr rfl, ⟨Or.inr rfl, trivial⟩⟩⟩⟩⟩⟩⟩ ?_
              exact hj34 μ40
            · refine z_iconst (pc := 123) (1 : Int32) dX1_mostWorks_123 (by decide) ?_
              refine z_goto (pc := 124) (tgt := 128) dX1_mostWorks_124 (by decide) ?_
              refine z_loc (L' := [.ref 69, .null, .int x2, .int x3, .int x4, .int x5, .int x6]) ⟨Or.inr rfl, ⟨Or.inl rfl, ⟨Or.inr rfl, ⟨Or.inr rfl, ⟨Or.inr rfl, ⟨Or.inr rfl, ⟨Or.inr rfl, trivial⟩⟩⟩⟩⟩⟩⟩ ?_
              exact hj32 (1 : Int32) μ40
set_option maxHeartbeats 1000000 in
theorem t1_mostWorks_L67 (x2 : Int32) (x3 : Int32) (x4 : Int32) (K142 : Int32 → zMem → zRes) (hK142 : ∀ (x1 : Int32) (μ : zMem), zR yX1_mostWorks cX1_mostWorks 7 (some .int) 4 142 [.ref 69, .int x1, .int x2, .int x3, .null, .null, .null] [] (nX true) (SX true) μ (K142 x1 μ)) : ∀ (n : Nat) (x1 : Int32) (x5 : Int32) (μ : zMem), zR yX1_mostWorks cX1_mostWorks 7 (some .int) 4 67 [.ref 69, .int x1, .int x2, .int x3, .int x4, .int x5, .null] [] (nX true) (SX true) μ (f1_mostWorks_L67 x4 K142 n x1 x5 μ) := by
  intro n
  induction n with
  | zero => intro x1 x5 μ; intro q hq; cases hq
  | succ n ih =>
    intro x1 x5 μ
    unfold f1_mostWorks_L67
    refine z_iload (pc := 67) dX1_mostWorks_67 rfl ?_
    refine z_aload_n (pc := 69) dX1_mostWorks_69 rfl ?_
    refine z_geti (pc := 70) fdX1_30 (by decide) (sx_69 true) rfl dX1_mostWorks_70 ?_
    refine z_icmp_ge (pc := 73) (tgt := 142) dX1_mostWorks_73 (by decide) (fun c22 => ?_) (fun c23 => ?_)
    · refine z_loc (L' := [.ref 69, .int x1, .int x2, .int x3, .null, .null, .null]) ⟨Or.inr rfl, ⟨Or.inr rfl, ⟨Or.inr rfl, ⟨Or.inr rfl, ⟨Or.inl rfl, ⟨Or.inl rfl, ⟨Or.inl rfl, trivial⟩⟩⟩⟩⟩⟩⟩ ?_
      exact hK142 x1 μ
    · refine z_iload (pc := 76) dX1_mostWorks_76 rfl ?_
      refine z_iconst (pc := 78) (1 : Int32) dX1_mostWorks_78 (by decide) ?_
      refine z_iadd (pc := 79) dX1_mostWorks_79 ?_
      refine z_val (fun v24 => ?_)
      refine z_istore (pc := 80) (L' := [.ref 69, .int x1, .int x2, .int x3, .int x4, .int x5, .int v24]) dX1_mostWorks_80 (by decide) rfl ?_
      refine t1_mostWorks_L82 _ _ _ _ _ (fun x1_43 μ44 => ?_) zF _ _ _
      · refine z_iinc (pc := 136) (v := x5 + (1 : Int32)) (L' := [.ref 69, .int x1_43, .int x2, .int x3, .int x4, .int (x5 + (1 : Int32)), .null]) dX1_mostWorks_136 (by decide) rfl (congrArg _ (by decide)) rfl ?_
        refine z_goto (pc := 139) (tgt := 67) dX1_mostWorks_139 (by decide) ?_
        exact ih x1_43 (x5 + (1 : Int32)) μ44
set_option maxHeartbeats 1000000 in
theorem t1_mostWorks_L24 (K148 : Int32 → Int32 → zMem → zRes) (hK148 : ∀ (x1 : Int32) (x2 : Int32) (μ : zMem), zR yX1_mostWorks cX1_mostWorks 7 (some .int) 4 148 [.ref 69, .int x1, .int x2, .null, .null, .null, .null] [] (nX true) (SX true) μ (K148 x1 x2 μ)) : ∀ (n : Nat) (x1 : Int32) (x2 : Int32) (x3 : Int32) (μ : zMem), zR yX1_mostWorks cX1_mostWorks 7 (some .int) 4 24 [.ref 69, .int x1, .int x2, .int x3, .null, .null, .null] [] (nX true) (SX true) μ (f1_mostWorks_L24 K148 n x1 x2 x3 μ) := by
  intro n
  induction n with
  | zero => intro x1 x2 x3 μ; intro q hq; cases hq
  | succ n ih =>
    intro x1 x2 x3 μ
    unfold f1_mostWorks_L24
    refine z_iload_n (pc := 24) dX1_mostWorks_24 rfl ?_
    refine z_iload_n (pc := 25) dX1_mostWorks_25 rfl ?_
    refine z_icmp_ge (pc := 26) (tgt := 148) dX1_mostWorks_26 (by decide) (fun c12 => ?_) (fun c13 => ?_)
    · refine z_loc (L' := [.ref 69, .int x1, .int x2, .null, .null, .null, .null]) ⟨Or.inr rfl, ⟨Or.inr rfl, ⟨Or.inr rfl, ⟨Or.inl rfl, ⟨Or.inl rfl, ⟨Or.inl rfl, ⟨Or.inl rfl, trivial⟩⟩⟩⟩⟩⟩⟩ ?_
      exact hK148 x1 x2 μ
    · refine z_iload_n (pc := 29) dX1_mostWorks_29 rfl ?_
      refine z_sipush (pc := 30) (6561 : Int32) dX1_mostWorks_30 (by decide) ?_
      refine z_icmp_ge (pc := 33) (tgt := 148) dX1_mostWorks_33 (by decide) (fun c14 => ?_) (fun c15 => ?_)
      · refine z_loc (L' := [.ref 69, .int x1, .int x2, .null, .null, .null, .null]) ⟨Or.inr rfl, ⟨Or.inr rfl, ⟨Or.inr rfl, ⟨Or.inl rfl, ⟨Or.inl rfl, ⟨Or.inl rfl, ⟨Or.inl rfl, trivial⟩⟩⟩⟩⟩⟩⟩ ?_
        exact hK148 x1 x2 μ
      · refine z_aload_n (pc := 36) dX1_mostWorks_36 rfl ?_
        refine z_getr (pc := 37) fdX1_27 (by decide) (sx_69 true) rfl rfl dX1_mostWorks_37 ?_
        refine z_iload_n (pc := 40) dX1_mostWorks_40 rfl ?_
        refine z_iald (pc := 41) (by decide) (sx_75 true) rfl dX1_mostWorks_41 (fun h16 => ?_)
        refine z_val (fun v17 => ?_)
        refine z_istore (pc := 42) (L' := [.ref 69, .int x1, .int x2, .int x3, .int v17, .null, .null]) dX1_mostWorks_42 (by decide) rfl ?_
        refine z_iload_n (pc := 44) dX1_mostWorks_44 rfl ?_
        refine z_aload_n (pc := 45) dX1_mostWorks_45 rfl ?_
        refine z_getr (pc := 46) fdX1_21 (by decide) (sx_69 true) rfl rfl dX1_mostWorks_46 ?_
        refine z_iload (pc := 49) dX1_mostWorks_49 rfl ?_
        refine z_iald (pc := 51) (by decide) (sx_73 true) rfl dX1_mostWorks_51 (fun h18 => ?_)
        refine z_iconst (pc := 52) (1 : Int32) dX1_mostWorks_52 (by decide) ?_
        refine z_isub (pc := 53) dX1_mostWorks_53 ?_
        refine z_mmax (pc := 54) kmX1_86 (by decide) (Nat.le_of_ble_eq_true rfl) dX1_mostWorks_54 ?_
        refine z_val (fun v19 => ?_)
        refine z_istore_n (pc := 57) (L' := [.ref 69, .int x1, .int v19, .int x3, .int v17, .null, .null]) dX1_mostWorks_57 (by decide) rfl ?_
        refine z_aload_n (pc := 58) dX1_mostWorks_58 rfl ?_
        refine z_iload (pc := 59) dX1_mostWorks_59 rfl ?_
        refine z_callV (As := [.int v17]) (pc := 61) (ret' := none) kvX1_71 (t1_unfold _ _) (by decide) (by decide) (sx_69 true)  rfl rfl (Nat.le_of_ble_eq_true rfl) dX1_mostWorks_61 (fun v20 μ21 => ?_)
        refine z_iconst (pc := 64) (0 : Int32) dX1_mostWorks_64 (by decide) ?_
        refine z_istore (pc := 65) (L' := [.ref 69, .int x1, .int v19, .int x3, .int v17, .int (0 : Int32), .null]) dX1_mostWorks_65 (by decide) rfl ?_
        refine t1_mostWorks_L67 _ _ _ _ (fun x1_45 μ46 => ?_) zF _ _ _
        · refine z_iinc (pc := 142) (v := x3 + (1 : Int32)) (L' := [.ref 69, .int x1_45, .int v19, .int (x3 + (1 : Int32)), .null, .null, .null]) dX1_mostWorks_142 (by decide) rfl (congrArg _ (by decide)) rfl ?_
          refine z_goto (pc := 145) (tgt := 24) dX1_mostWorks_145 (by decide) ?_
          exact ih x1_45 v19 (x3 + (1 : Int32)) μ46
set_option maxHeartbeats 1000000 in
theorem t1_mostWorks (μ : zMem) : zMR yX1_mostWorks cX1_mostWorks 7 (some .int) 4 [.ref 69] (nX true) (SX true) μ (f1_mostWorks μ) := by
  refine zMR_of (by decide +kernel) rfl (Nat.le_of_ble_eq_true rfl) (L := [.ref 69, .null, .null, .null, .null, .null, .null]) rfl ?_
  unfold f1_mostWorks
  refine z_aload_n (pc := 0) dX1_mostWorks_0 rfl ?_
  refine z_getr (pc := 1) fdX1_24 (by decide) (sx_69 true) rfl rfl dX1_mostWorks_1 ?_
  refine z_aload_n (pc := 4) dX1_mostWorks_4 rfl ?_
  refine z_getr (pc := 5) fdX1_27 (by decide) (sx_69 true) rfl rfl dX1_mostWorks_5 ?_
  refine z_iconst (pc := 8) (0 : Int32) dX1_mostWorks_8 (by decide) ?_
  refine z_iald (pc := 9) (by decide) (sx_75 true) rfl dX1_mostWorks_9 (fun h1 => ?_)
  refine z_iald (pc := 10) (by decide) (sx_74 true) rfl dX1_mostWorks_10 (fun h2 => ?_)
  refine z_let (fun (j : Int32 → zRes) => ∀ (s3 : Int32), zR yX1_mostWorks cX1_mostWorks 7 (some .int) 4 19 [.ref 69, .null, .null, .null, .null, .null, .null] [.int s3] (nX true) (SX true) μ (j s3)) ?_ (fun j50 hj50 => ?_)
  · intro s3
    refine z_istore_n (pc := 19) (L' := [.ref 69, .int s3, .null, .null, .null, .null, .null]) dX1_mostWorks_19 (by decide) rfl ?_
    refine z_iconst (pc := 20) (0 : Int32) dX1_mostWorks_20 (by decide) ?_
    refine z_istore_n (pc := 21) (L' := [.ref 69, .int s3, .int (0 : Int32), .null, .null, .null, .null]) dX1_mostWorks_21 (by decide) rfl ?_
    refine z_iconst (pc := 22) (0 : Int32) dX1_mostWorks_22 (by decide) ?_
    refine z_istore_n (pc := 23) (L' := [.ref 69, .int s3, .int (0 : Int32), .int (0 : Int32), .null, .null, .null]) dX1_mostWorks_23 (by decide) rfl ?_
    refine z_let (fun (j : Int32 → Int32 → zMem → zRes) => ∀ (x1_4 : Int32) (x2_5 : Int32) (μ6 : zMem), zR yX1_mostWorks cX1_mostWorks 7 (some .int) 4 148 [.ref 69, .int x1_4, .int x2_5, .null, .null, .null, .null] [] (nX true) (SX true) μ6 (j x1_4 x2_5 μ6)) ?_ (fun j11 hj11 => ?_)
    · intro x1_4 x2_5 μ6
      refine z_iload_n (pc := 148) dX1_mostWorks_148 rfl ?_
      refine z_aload_n (pc := 149) dX1_mostWorks_149 rfl ?_
      refine z_geti (pc := 150) fdX1_37 (by decide) (sx_69 true) rfl dX1_mostWorks_150 ?_
      refine z_let (fun (j : Int32 → zRes) => ∀ (s7 : Int32), zR yX1_mostWorks cX1_mostWorks 7 (some .int) 4 161 [.null, .null, .null, .null, .null, .null, .null] [.int s7] (nX true) (SX true) μ6 (j s7)) ?_ (fun j8 hj8 => ?_)
      · intro s7
        exact z_iret (pc := 161) rfl dX1_mostWorks_161
      · refine z_icmp_ne (pc := 153) (tgt := 160) dX1_mostWorks_153 (by decide) (fun c9 => ?_) (fun c10 => ?_)
        · refine z_iconst (pc := 160) (-1 : Int32) dX1_mostWorks_160 (by decide) ?_
          refine z_loc (L' := [.null, .null, .null, .null, .null, .null, .null]) ⟨Or.inl rfl, ⟨Or.inl rfl, ⟨Or.inl rfl, ⟨Or.inl rfl, ⟨Or.inl rfl, ⟨Or.inl rfl, ⟨Or.inl rfl, trivial⟩⟩⟩⟩⟩⟩⟩ ?_
          exact hj8 (-1 : Int32)
        · refine z_iload_n (pc := 156) dX1_mostWorks_156 rfl ?_
          refine z_goto (pc := 157) (tgt := 161) dX1_mostWorks_157 (by decide) ?_
          refine z_loc (L' := [.null, .null, .null, .null, .null, .null, .null]) ⟨Or.inl rfl, ⟨Or.inl rfl, ⟨Or.inl rfl, ⟨Or.inl rfl, ⟨Or.inl rfl, ⟨Or.inl rfl, ⟨Or.inl rfl, trivial⟩⟩⟩⟩⟩⟩⟩ ?_
          exact hj8 x2_5
    · refine t1_mostWorks_L24 _ (fun x1_47 x2_48 μ49 => ?_) zF _ _ _ _
      · exact hj11 x1_47 x2_48 μ49
  · refine z_if_ne (pc := 11) (tgt := 18) dX1_mostWorks_11 (by decide) (fun c51 => ?_) (fun c52 => ?_)
    · refine z_iconst (pc := 18) (0 : Int32) dX1_mostWorks_18 (by decide) ?_
      exact hj50 (0 : Int32)
    · refine z_iconst (pc := 14) (1 : Int32) dX1_mostWorks_14 (by decide) ?_
      refine z_goto (pc := 15) (tgt := 19) dX1_mostWorks_15 (by decide) ?_
      exact hj50 (1 : Int32)
