theorem dX8_putBytes_0 : decode cX8_putBytes 0 = .ok (.bipush 24, 2) := by decide +kernel
theorem dX8_putBytes_2 : decode cX8_putBytes 2 = .ok (.istore_n 2, 1) := by decide +kernel
theorem dX8_putBytes_3 : decode cX8_putBytes 3 = .ok (.iload_n 2, 1) := by decide +kernel
theorem dX8_putBytes_4 : decode cX8_putBytes 4 = .ok (.ifCond .lt 45, 3) := by decide +kernel
theorem dX8_putBytes_7 : decode cX8_putBytes 7 = .ok (.aload_n 0, 1) := by decide +kernel
theorem dX8_putBytes_8 : decode cX8_putBytes 8 = .ok (.getfield 13, 3) := by decide +kernel
theorem dX8_putBytes_11 : decode cX8_putBytes 11 = .ok (.sipush 500, 3) := by decide +kernel
theorem dX8_putBytes_14 : decode cX8_putBytes 14 = .ok (.if_icmp .ge 29, 3) := by decide +kernel
theorem dX8_putBytes_17 : decode cX8_putBytes 17 = .ok (.aload_n 0, 1) := by decide +kernel
theorem dX8_putBytes_18 : decode cX8_putBytes 18 = .ok (.getfield 9, 3) := by decide +kernel
theorem dX8_putBytes_21 : decode cX8_putBytes 21 = .ok (.aload_n 0, 1) := by decide +kernel
theorem dX8_putBytes_22 : decode cX8_putBytes 22 = .ok (.getfield 13, 3) := by decide +kernel
theorem dX8_putBytes_25 : decode cX8_putBytes 25 = .ok (.iload_n 1, 1) := by decide +kernel
theorem dX8_putBytes_26 : decode cX8_putBytes 26 = .ok (.iload_n 2, 1) := by decide +kernel
theorem dX8_putBytes_27 : decode cX8_putBytes 27 = .ok (.iushr, 1) := by decide +kernel
theorem dX8_putBytes_28 : decode cX8_putBytes 28 = .ok (.sipush 255, 3) := by decide +kernel
theorem dX8_putBytes_31 : decode cX8_putBytes 31 = .ok (.iand, 1) := by decide +kernel
theorem dX8_putBytes_32 : decode cX8_putBytes 32 = .ok (.iastore, 1) := by decide +kernel
theorem dX8_putBytes_33 : decode cX8_putBytes 33 = .ok (.aload_n 0, 1) := by decide +kernel
theorem dX8_putBytes_34 : decode cX8_putBytes 34 = .ok (.dup, 1) := by decide +kernel
theorem dX8_putBytes_35 : decode cX8_putBytes 35 = .ok (.getfield 13, 3) := by decide +kernel
theorem dX8_putBytes_38 : decode cX8_putBytes 38 = .ok (.iconst 1, 1) := by decide +kernel
theorem dX8_putBytes_39 : decode cX8_putBytes 39 = .ok (.iadd, 1) := by decide +kernel
theorem dX8_putBytes_40 : decode cX8_putBytes 40 = .ok (.putfield 13, 3) := by decide +kernel
theorem dX8_putBytes_43 : decode cX8_putBytes 43 = .ok (.iinc 2 (-8), 3) := by decide +kernel
theorem dX8_putBytes_46 : decode cX8_putBytes 46 = .ok (.goto (-43), 3) := by decide +kernel
theorem dX8_putBytes_49 : decode cX8_putBytes 49 = .ok (.return_, 1) := by decide +kernel
theorem dX8_feed_0 : decode cX8_feed 0 = .ok (.aload_n 0, 1) := by decide +kernel
theorem dX8_feed_1 : decode cX8_feed 1 = .ok (.getfield 13, 3) := by decide +kernel
theorem dX8_feed_4 : decode cX8_feed 4 = .ok (.bipush 20, 2) := by decide +kernel
theorem dX8_feed_6 : decode cX8_feed 6 = .ok (.iadd, 1) := by decide +kernel
theorem dX8_feed_7 : decode cX8_feed 7 = .ok (.sipush 500, 3) := by decide +kernel
theorem dX8_feed_10 : decode cX8_feed 10 = .ok (.if_icmp .le 5, 3) := by decide +kernel
theorem dX8_feed_13 : decode cX8_feed 13 = .ok (.iconst (-1), 1) := by decide +kernel
theorem dX8_feed_14 : decode cX8_feed 14 = .ok (.ireturn, 1) := by decide +kernel
theorem dX8_feed_15 : decode cX8_feed 15 = .ok (.aload_n 0, 1) := by decide +kernel
theorem dX8_feed_16 : decode cX8_feed 16 = .ok (.iload_n 1, 1) := by decide +kernel
theorem dX8_feed_17 : decode cX8_feed 17 = .ok (.invokevirtual 92, 3) := by decide +kernel
theorem dX8_feed_20 : decode cX8_feed 20 = .ok (.aload_n 0, 1) := by decide +kernel
theorem dX8_feed_21 : decode cX8_feed 21 = .ok (.iload_n 2, 1) := by decide +kernel
theorem dX8_feed_22 : decode cX8_feed 22 = .ok (.invokevirtual 92, 3) := by decide +kernel
theorem dX8_feed_25 : decode cX8_feed 25 = .ok (.aload_n 0, 1) := by decide +kernel
theorem dX8_feed_26 : decode cX8_feed 26 = .ok (.iload_n 3, 1) := by decide +kernel
theorem dX8_feed_27 : decode cX8_feed 27 = .ok (.invokevirtual 92, 3) := by decide +kernel
theorem dX8_feed_30 : decode cX8_feed 30 = .ok (.aload_n 0, 1) := by decide +kernel
theorem dX8_feed_31 : decode cX8_feed 31 = .ok (.iload 4, 2) := by decide +kernel
theorem dX8_feed_33 : decode cX8_feed 33 = .ok (.invokevirtual 92, 3) := by decide +kernel
theorem dX8_feed_36 : decode cX8_feed 36 = .ok (.aload_n 0, 1) := by decide +kernel
theorem dX8_feed_37 : decode cX8_feed 37 = .ok (.iload 5, 2) := by decide +kernel
theorem dX8_feed_39 : decode cX8_feed 39 = .ok (.invokevirtual 92, 3) := by decide +kernel
theorem dX8_feed_42 : decode cX8_feed 42 = .ok (.aload_n 0, 1) := by decide +kernel
theorem dX8_feed_43 : decode cX8_feed 43 = .ok (.getfield 13, 3) := by decide +kernel
theorem dX8_feed_46 : decode cX8_feed 46 = .ok (.ireturn, 1) := by decide +kernel
theorem dX8_fault_0 : decode cX8_fault 0 = .ok (.aload_n 0, 1) := by decide +kernel
theorem dX8_fault_1 : decode cX8_fault 1 = .ok (.getfield 17, 3) := by decide +kernel
theorem dX8_fault_4 : decode cX8_fault 4 = .ok (.ireturn, 1) := by decide +kernel
theorem dX8_clear_0 : decode cX8_clear 0 = .ok (.aload_n 0, 1) := by decide +kernel
theorem dX8_clear_1 : decode cX8_clear 1 = .ok (.getfield 44, 3) := by decide +kernel
theorem dX8_clear_4 : decode cX8_clear 4 = .ok (.getfield 223, 3) := by decide +kernel
theorem dX8_clear_7 : decode cX8_clear 7 = .ok (.istore_n 1, 1) := by decide +kernel
theorem dX8_clear_8 : decode cX8_clear 8 = .ok (.aload_n 0, 1) := by decide +kernel
theorem dX8_clear_9 : decode cX8_clear 9 = .ok (.getfield 44, 3) := by decide +kernel
theorem dX8_clear_12 : decode cX8_clear 12 = .ok (.iconst 0, 1) := by decide +kernel
theorem dX8_clear_13 : decode cX8_clear 13 = .ok (.putfield 223, 3) := by decide +kernel
theorem dX8_clear_16 : decode cX8_clear 16 = .ok (.iload_n 1, 1) := by decide +kernel
theorem dX8_clear_17 : decode cX8_clear 17 = .ok (.ireturn, 1) := by decide +kernel
theorem dX8_planToday_0 : decode cX8_planToday 0 = .ok (.aload_n 0, 1) := by decide +kernel
theorem dX8_planToday_1 : decode cX8_planToday 1 = .ok (.getfield 48, 3) := by decide +kernel
theorem dX8_planToday_4 : decode cX8_planToday 4 = .ok (.aload_n 0, 1) := by decide +kernel
theorem dX8_planToday_5 : decode cX8_planToday 5 = .ok (.getfield 44, 3) := by decide +kernel
theorem dX8_planToday_8 : decode cX8_planToday 8 = .ok (.invokevirtual 232, 3) := by decide +kernel
theorem dX8_planToday_11 : decode cX8_planToday 11 = .ok (.iload_n 1, 1) := by decide +kernel
theorem dX8_planToday_12 : decode cX8_planToday 12 = .ok (.iconst (-1), 1) := by decide +kernel
theorem dX8_planToday_13 : decode cX8_planToday 13 = .ok (.if_icmp .eq 11, 3) := by decide +kernel
theorem dX8_planToday_16 : decode cX8_planToday 16 = .ok (.aload_n 0, 1) := by decide +kernel
theorem dX8_planToday_17 : decode cX8_planToday 17 = .ok (.getfield 48, 3) := by decide +kernel
theorem dX8_planToday_20 : decode cX8_planToday 20 = .ok (.iload_n 1, 1) := by decide +kernel
theorem dX8_planToday_21 : decode cX8_planToday 21 = .ok (.putfield 380, 3) := by decide +kernel
theorem dX8_planToday_24 : decode cX8_planToday 24 = .ok (.aload_n 0, 1) := by decide +kernel
theorem dX8_planToday_25 : decode cX8_planToday 25 = .ok (.getfield 61, 3) := by decide +kernel
theorem dX8_planToday_28 : decode cX8_planToday 28 = .ok (.aload_n 0, 1) := by decide +kernel
theorem dX8_planToday_29 : decode cX8_planToday 29 = .ok (.getfield 48, 3) := by decide +kernel
theorem dX8_planToday_32 : decode cX8_planToday 32 = .ok (.invokevirtual 271, 3) := by decide +kernel
theorem dX8_planToday_35 : decode cX8_planToday 35 = .ok (.return_, 1) := by decide +kernel
theorem dX8_choose_0 : decode cX8_choose 0 = .ok (.iconst (-1), 1) := by decide +kernel
theorem dX8_choose_1 : decode cX8_choose 1 = .ok (.istore_n 1, 1) := by decide +kernel
theorem dX8_choose_2 : decode cX8_choose 2 = .ok (.iconst (-1), 1) := by decide +kernel
theorem dX8_choose_3 : decode cX8_choose 3 = .ok (.istore_n 2, 1) := by decide +kernel
theorem dX8_choose_4 : decode cX8_choose 4 = .ok (.iconst 0, 1) := by decide +kernel
theorem dX8_choose_5 : decode cX8_choose 5 = .ok (.istore_n 3, 1) := by decide +kernel
theorem dX8_choose_6 : decode cX8_choose 6 = .ok (.iload_n 3, 1) := by decide +kernel
theorem dX8_choose_7 : decode cX8_choose 7 = .ok (.aload_n 0, 1) := by decide +kernel
theorem dX8_choose_8 : decode cX8_choose 8 = .ok (.getfield 23, 3) := by decide +kernel
theorem dX8_choose_11 : decode cX8_choose 11 = .ok (.getfield 119, 3) := by decide +kernel
theorem dX8_choose_14 : decode cX8_choose 14 = .ok (.if_icmp .ge 35, 3) := by decide +kernel
theorem dX8_choose_17 : decode cX8_choose 17 = .ok (.aload_n 0, 1) := by decide +kernel
theorem dX8_choose_18 : decode cX8_choose 18 = .ok (.iload_n 3, 1) := by decide +kernel
theorem dX8_choose_19 : decode cX8_choose 19 = .ok (.invokevirtual 245, 3) := by decide +kernel
theorem dX8_choose_22 : decode cX8_choose 22 = .ok (.aload_n 0, 1) := by decide +kernel
theorem dX8_choose_23 : decode cX8_choose 23 = .ok (.getfield 61, 3) := by decide +kernel
theorem dX8_choose_26 : decode cX8_choose 26 = .ok (.invokevirtual 248, 3) := by decide +kernel
theorem dX8_choose_29 : decode cX8_choose 29 = .ok (.iload_n 2, 1) := by decide +kernel
theorem dX8_choose_30 : decode cX8_choose 30 = .ok (.if_icmp .le 13, 3) := by decide +kernel
theorem dX8_choose_33 : decode cX8_choose 33 = .ok (.aload_n 0, 1) := by decide +kernel
theorem dX8_choose_34 : decode cX8_choose 34 = .ok (.getfield 61, 3) := by decide +kernel
theorem dX8_choose_37 : decode cX8_choose 37 = .ok (.invokevirtual 248, 3) := by decide +kernel
theorem dX8_choose_40 : decode cX8_choose 40 = .ok (.istore_n 2, 1) := by decide +kernel
theorem dX8_choose_41 : decode cX8_choose 41 = .ok (.iload_n 3, 1) := by decide +kernel
theorem dX8_choose_42 : decode cX8_choose 42 = .ok (.istore_n 1, 1) := by decide +kernel
theorem dX8_choose_43 : decode cX8_choose 43 = .ok (.iinc 3 1, 3) := by decide +kernel
theorem dX8_choose_46 : decode cX8_choose 46 = .ok (.goto (-40), 3) := by decide +kernel
theorem dX8_choose_49 : decode cX8_choose 49 = .ok (.iload_n 1, 1) := by decide +kernel
theorem dX8_choose_50 : decode cX8_choose 50 = .ok (.ireturn, 1) := by decide +kernel
theorem dX8_image_0 : decode cX8_image 0 = .ok (.aload_n 0, 1) := by decide +kernel
theorem dX8_image_1 : decode cX8_image 1 = .ok (.getfield 55, 3) := by decide +kernel
theorem dX8_image_4 : decode cX8_image 4 = .ok (.iconst 3, 1) := by decide +kernel
theorem dX8_image_5 : decode cX8_image 5 = .ok (.if_icmp .lt 5, 3) := by decide +kernel
theorem dX8_image_8 : decode cX8_image 8 = .ok (.iconst (-1), 1) := by decide +kernel
theorem dX8_image_9 : decode cX8_image 9 = .ok (.ireturn, 1) := by decide +kernel
theorem dX8_image_10 : decode cX8_image 10 = .ok (.aload_n 0, 1) := by decide +kernel
theorem dX8_image_11 : decode cX8_image 11 = .ok (.getfield 51, 3) := by decide +kernel
theorem dX8_image_14 : decode cX8_image 14 = .ok (.aload_n 0, 1) := by decide +kernel
theorem dX8_image_15 : decode cX8_image 15 = .ok (.getfield 55, 3) := by decide +kernel
theorem dX8_image_18 : decode cX8_image 18 = .ok (.aaload, 1) := by decide +kernel
theorem dX8_image_19 : decode cX8_image 19 = .ok (.aload_n 0, 1) := by decide +kernel
theorem dX8_image_20 : decode cX8_image 20 = .ok (.getfield 44, 3) := by decide +kernel
theorem dX8_image_23 : decode cX8_image 23 = .ok (.invokevirtual 232, 3) := by decide +kernel
theorem dX8_image_26 : decode cX8_image 26 = .ok (.aload_n 0, 1) := by decide +kernel
theorem dX8_image_27 : decode cX8_image 27 = .ok (.getfield 51, 3) := by decide +kernel
theorem dX8_image_30 : decode cX8_image 30 = .ok (.aload_n 0, 1) := by decide +kernel
theorem dX8_image_31 : decode cX8_image 31 = .ok (.getfield 55, 3) := by decide +kernel
theorem dX8_image_34 : decode cX8_image 34 = .ok (.aaload, 1) := by decide +kernel
theorem dX8_image_35 : decode cX8_image 35 = .ok (.aload_n 0, 1) := by decide +kernel
theorem dX8_image_36 : decode cX8_image 36 = .ok (.getfield 44, 3) := by decide +kernel
theorem dX8_image_39 : decode cX8_image 39 = .ok (.invokevirtual 356, 3) := by decide +kernel
theorem dX8_image_42 : decode cX8_image 42 = .ok (.aload_n 0, 1) := by decide +kernel
theorem dX8_image_43 : decode cX8_image 43 = .ok (.dup, 1) := by decide +kernel
theorem dX8_image_44 : decode cX8_image 44 = .ok (.getfield 55, 3) := by decide +kernel
theorem dX8_image_47 : decode cX8_image 47 = .ok (.iconst 1, 1) := by decide +kernel
theorem dX8_image_48 : decode cX8_image 48 = .ok (.iadd, 1) := by decide +kernel
theorem dX8_image_49 : decode cX8_image 49 = .ok (.putfield 55, 3) := by decide +kernel
theorem dX8_image_52 : decode cX8_image 52 = .ok (.aload_n 0, 1) := by decide +kernel
theorem dX8_image_53 : decode cX8_image 53 = .ok (.getfield 55, 3) := by decide +kernel
theorem dX8_image_56 : decode cX8_image 56 = .ok (.ireturn, 1) := by decide +kernel
theorem dX8_restore_0 : decode cX8_restore 0 = .ok (.aload_n 0, 1) := by decide +kernel
theorem dX8_restore_1 : decode cX8_restore 1 = .ok (.getfield 55, 3) := by decide +kernel
theorem dX8_restore_4 : decode cX8_restore 4 = .ok (.ifCond .gt 5, 3) := by decide +kernel
theorem dX8_restore_7 : decode cX8_restore 7 = .ok (.iconst (-1), 1) := by decide +kernel
theorem dX8_restore_8 : decode cX8_restore 8 = .ok (.ireturn, 1) := by decide +kernel
theorem dX8_restore_9 : decode cX8_restore 9 = .ok (.aload_n 0, 1) := by decide +kernel
theorem dX8_restore_10 : decode cX8_restore 10 = .ok (.dup, 1) := by decide +kernel
theorem dX8_restore_11 : decode cX8_restore 11 = .ok (.getfield 55, 3) := by decide +kernel
theorem dX8_restore_14 : decode cX8_restore 14 = .ok (.iconst 1, 1) := by decide +kernel
theorem dX8_restore_15 : decode cX8_restore 15 = .ok (.isub, 1) := by decide +kernel
theorem dX8_restore_16 : decode cX8_restore 16 = .ok (.putfield 55, 3) := by decide +kernel
theorem dX8_restore_19 : decode cX8_restore 19 = .ok (.aload_n 0, 1) := by decide +kernel
theorem dX8_restore_20 : decode cX8_restore 20 = .ok (.getfield 44, 3) := by decide +kernel
theorem dX8_restore_23 : decode cX8_restore 23 = .ok (.aload_n 0, 1) := by decide +kernel
theorem dX8_restore_24 : decode cX8_restore 24 = .ok (.getfield 51, 3) := by decide +kernel
theorem dX8_restore_27 : decode cX8_restore 27 = .ok (.aload_n 0, 1) := by decide +kernel
theorem dX8_restore_28 : decode cX8_restore 28 = .ok (.getfield 55, 3) := by decide +kernel
theorem dX8_restore_31 : decode cX8_restore 31 = .ok (.aaload, 1) := by decide +kernel
theorem dX8_restore_32 : decode cX8_restore 32 = .ok (.invokevirtual 232, 3) := by decide +kernel
theorem dX8_restore_35 : decode cX8_restore 35 = .ok (.aload_n 0, 1) := by decide +kernel
theorem dX8_restore_36 : decode cX8_restore 36 = .ok (.getfield 44, 3) := by decide +kernel
theorem dX8_restore_39 : decode cX8_restore 39 = .ok (.aload_n 0, 1) := by decide +kernel
theorem dX8_restore_40 : decode cX8_restore 40 = .ok (.getfield 51, 3) := by decide +kernel
theorem dX8_restore_43 : decode cX8_restore 43 = .ok (.aload_n 0, 1) := by decide +kernel
theorem dX8_restore_44 : decode cX8_restore 44 = .ok (.getfield 55, 3) := by decide +kernel
theorem dX8_restore_47 : decode cX8_restore 47 = .ok (.aaload, 1) := by decide +kernel
theorem dX8_restore_48 : decode cX8_restore 48 = .ok (.invokevirtual 356, 3) := by decide +kernel
theorem dX8_restore_51 : decode cX8_restore 51 = .ok (.aload_n 0, 1) := by decide +kernel
theorem dX8_restore_52 : decode cX8_restore 52 = .ok (.getfield 55, 3) := by decide +kernel
theorem dX8_restore_55 : decode cX8_restore 55 = .ok (.ireturn, 1) := by decide +kernel
theorem dX8_count_0 : decode cX8_count 0 = .ok (.iload_n 1, 1) := by decide +kernel
theorem dX8_count_1 : decode cX8_count 1 = .ok (.tableswitch 72 0 4 #[35, 43, 54, 62, 67], 35) := by decide +kernel
theorem dX8_count_36 : decode cX8_count 36 = .ok (.aload_n 0, 1) := by decide +kernel
theorem dX8_count_37 : decode cX8_count 37 = .ok (.getfield 44, 3) := by decide +kernel
theorem dX8_count_40 : decode cX8_count 40 = .ok (.getfield 204, 3) := by decide +kernel
theorem dX8_count_43 : decode cX8_count 43 = .ok (.ireturn, 1) := by decide +kernel
theorem dX8_count_44 : decode cX8_count 44 = .ok (.aload_n 0, 1) := by decide +kernel
theorem dX8_count_45 : decode cX8_count 45 = .ok (.getfield 44, 3) := by decide +kernel
theorem dX8_count_48 : decode cX8_count 48 = .ok (.getfield 359, 3) := by decide +kernel
theorem dX8_count_51 : decode cX8_count 51 = .ok (.invokestatic 162, 3) := by decide +kernel
theorem dX8_count_54 : decode cX8_count 54 = .ok (.ireturn, 1) := by decide +kernel
theorem dX8_count_55 : decode cX8_count 55 = .ok (.aload_n 0, 1) := by decide +kernel
theorem dX8_count_56 : decode cX8_count 56 = .ok (.getfield 44, 3) := by decide +kernel
theorem dX8_count_59 : decode cX8_count 59 = .ok (.getfield 223, 3) := by decide +kernel
theorem dX8_count_62 : decode cX8_count 62 = .ok (.ireturn, 1) := by decide +kernel
theorem dX8_count_63 : decode cX8_count 63 = .ok (.aload_n 0, 1) := by decide +kernel
theorem dX8_count_64 : decode cX8_count 64 = .ok (.getfield 55, 3) := by decide +kernel
theorem dX8_count_67 : decode cX8_count 67 = .ok (.ireturn, 1) := by decide +kernel
theorem dX8_count_68 : decode cX8_count 68 = .ok (.aload_n 0, 1) := by decide +kernel
theorem dX8_count_69 : decode cX8_count 69 = .ok (.getfield 13, 3) := by decide +kernel
theorem dX8_count_72 : decode cX8_count 72 = .ok (.ireturn, 1) := by decide +kernel
theorem dX8_count_73 : decode cX8_count 73 = .ok (.iconst (-1), 1) := by decide +kernel
theorem dX8_count_74 : decode cX8_count 74 = .ok (.ireturn, 1) := by decide +kernel
theorem dX8_town_0 : decode cX8_town 0 = .ok (.iload_n 1, 1) := by decide +kernel
theorem dX8_town_1 : decode cX8_town 1 = .ok (.ifCond .lt 11, 3) := by decide +kernel
theorem dX8_town_4 : decode cX8_town 4 = .ok (.iload_n 1, 1) := by decide +kernel
theorem dX8_town_5 : decode cX8_town 5 = .ok (.aload_n 0, 1) := by decide +kernel
theorem dX8_town_6 : decode cX8_town 6 = .ok (.getfield 13, 3) := by decide +kernel
theorem dX8_town_9 : decode cX8_town 9 = .ok (.if_icmp .le 13, 3) := by decide +kernel
theorem dX8_town_12 : decode cX8_town 12 = .ok (.new 96, 3) := by decide +kernel
theorem dX8_town_15 : decode cX8_town 15 = .ok (.dup, 1) := by decide +kernel
theorem dX8_town_16 : decode cX8_town 16 = .ok (.ldc 98, 2) := by decide +kernel
theorem dX8_town_18 : decode cX8_town 18 = .ok (.invokespecial 100, 3) := by decide +kernel
theorem dX8_town_21 : decode cX8_town 21 = .ok (.athrow, 1) := by decide +kernel
theorem dX8_town_22 : decode cX8_town 22 = .ok (.aload_n 0, 1) := by decide +kernel
theorem dX8_town_23 : decode cX8_town 23 = .ok (.iconst 0, 1) := by decide +kernel
theorem dX8_town_24 : decode cX8_town 24 = .ok (.putfield 13, 3) := by decide +kernel
theorem dX8_town_27 : decode cX8_town 27 = .ok (.aload_n 0, 1) := by decide +kernel
theorem dX8_town_28 : decode cX8_town 28 = .ok (.getfield 35, 3) := by decide +kernel
theorem dX8_town_31 : decode cX8_town 31 = .ok (.iload_n 1, 1) := by decide +kernel
theorem dX8_town_32 : decode cX8_town 32 = .ok (.invokevirtual 103, 3) := by decide +kernel
theorem dX8_town_35 : decode cX8_town 35 = .ok (.istore_n 2, 1) := by decide +kernel
theorem dX8_town_36 : decode cX8_town 36 = .ok (.iload_n 2, 1) := by decide +kernel
theorem dX8_town_37 : decode cX8_town 37 = .ok (.ifCond .eq 19, 3) := by decide +kernel
theorem dX8_town_40 : decode cX8_town 40 = .ok (.aload_n 0, 1) := by decide +kernel
theorem dX8_town_41 : decode cX8_town 41 = .ok (.aload_n 0, 1) := by decide +kernel
theorem dX8_town_42 : decode cX8_town 42 = .ok (.getfield 35, 3) := by decide +kernel
theorem dX8_town_45 : decode cX8_town 45 = .ok (.getfield 107, 3) := by decide +kernel
theorem dX8_town_48 : decode cX8_town 48 = .ok (.putfield 17, 3) := by decide +kernel
theorem dX8_town_51 : decode cX8_town 51 = .ok (.iload_n 2, 1) := by decide +kernel
theorem dX8_town_52 : decode cX8_town 52 = .ok (.bipush 10, 2) := by decide +kernel
theorem dX8_town_54 : decode cX8_town 54 = .ok (.isub, 1) := by decide +kernel
theorem dX8_town_55 : decode cX8_town 55 = .ok (.ireturn, 1) := by decide +kernel
theorem dX8_town_56 : decode cX8_town 56 = .ok (.aload_n 0, 1) := by decide +kernel
theorem dX8_town_57 : decode cX8_town 57 = .ok (.iconst (-1), 1) := by decide +kernel
theorem dX8_town_58 : decode cX8_town 58 = .ok (.putfield 17, 3) := by decide +kernel
theorem dX8_town_61 : decode cX8_town 61 = .ok (.aload_n 0, 1) := by decide +kernel
theorem dX8_town_62 : decode cX8_town 62 = .ok (.getfield 23, 3) := by decide +kernel
theorem dX8_town_65 : decode cX8_town 65 = .ok (.aload_n 0, 1) := by decide +kernel
theorem dX8_town_66 : decode cX8_town 66 = .ok (.getfield 27, 3) := by decide +kernel
theorem dX8_town_69 : decode cX8_town 69 = .ok (.invokevirtual 110, 3) := by decide +kernel
theorem dX8_town_72 : decode cX8_town 72 = .ok (.aload_n 0, 1) := by decide +kernel
theorem dX8_town_73 : decode cX8_town 73 = .ok (.getfield 44, 3) := by decide +kernel
theorem dX8_town_76 : decode cX8_town 76 = .ok (.invokevirtual 113, 3) := by decide +kernel
theorem dX8_town_79 : decode cX8_town 79 = .ok (.aload_n 0, 1) := by decide +kernel
theorem dX8_town_80 : decode cX8_town 80 = .ok (.iconst 0, 1) := by decide +kernel
theorem dX8_town_81 : decode cX8_town 81 = .ok (.putfield 55, 3) := by decide +kernel
theorem dX8_town_84 : decode cX8_town 84 = .ok (.aload_n 0, 1) := by decide +kernel
theorem dX8_town_85 : decode cX8_town 85 = .ok (.getfield 23, 3) := by decide +kernel
theorem dX8_town_88 : decode cX8_town 88 = .ok (.getfield 116, 3) := by decide +kernel
theorem dX8_town_91 : decode cX8_town 91 = .ok (.ireturn, 1) := by decide +kernel
theorem dX8_told_0 : decode cX8_told 0 = .ok (.iload_n 1, 1) := by decide +kernel
theorem dX8_told_1 : decode cX8_told 1 = .ok (.tableswitch 99 0 6 #[43, 51, 59, 67, 75, 83, 91], 43) := by decide +kernel
theorem dX8_told_44 : decode cX8_told 44 = .ok (.aload_n 0, 1) := by decide +kernel
theorem dX8_told_45 : decode cX8_told 45 = .ok (.getfield 23, 3) := by decide +kernel
theorem dX8_told_48 : decode cX8_told 48 = .ok (.getfield 119, 3) := by decide +kernel
theorem dX8_told_51 : decode cX8_told 51 = .ok (.ireturn, 1) := by decide +kernel
theorem dX8_told_52 : decode cX8_told 52 = .ok (.aload_n 0, 1) := by decide +kernel
theorem dX8_told_53 : decode cX8_told 53 = .ok (.getfield 23, 3) := by decide +kernel
theorem dX8_told_56 : decode cX8_told 56 = .ok (.getfield 116, 3) := by decide +kernel
theorem dX8_told_59 : decode cX8_told 59 = .ok (.ireturn, 1) := by decide +kernel
theorem dX8_told_60 : decode cX8_told 60 = .ok (.aload_n 0, 1) := by decide +kernel
theorem dX8_told_61 : decode cX8_told 61 = .ok (.getfield 23, 3) := by decide +kernel
theorem dX8_told_64 : decode cX8_told 64 = .ok (.getfield 122, 3) := by decide +kernel
theorem dX8_told_67 : decode cX8_told 67 = .ok (.ireturn, 1) := by decide +kernel
theorem dX8_told_68 : decode cX8_told 68 = .ok (.aload_n 0, 1) := by decide +kernel
theorem dX8_told_69 : decode cX8_told 69 = .ok (.getfield 23, 3) := by decide +kernel
theorem dX8_told_72 : decode cX8_told 72 = .ok (.getfield 125, 3) := by decide +kernel
theorem dX8_told_75 : decode cX8_told 75 = .ok (.ireturn, 1) := by decide +kernel
theorem dX8_told_76 : decode cX8_told 76 = .ok (.aload_n 0, 1) := by decide +kernel
theorem dX8_told_77 : decode cX8_told 77 = .ok (.getfield 23, 3) := by decide +kernel
theorem dX8_told_80 : decode cX8_told 80 = .ok (.getfield 128, 3) := by decide +kernel
theorem dX8_told_83 : decode cX8_told 83 = .ok (.ireturn, 1) := by decide +kernel
theorem dX8_told_84 : decode cX8_told 84 = .ok (.aload_n 0, 1) := by decide +kernel
theorem dX8_told_85 : decode cX8_told 85 = .ok (.getfield 23, 3) := by decide +kernel
theorem dX8_told_88 : decode cX8_told 88 = .ok (.invokevirtual 131, 3) := by decide +kernel
theorem dX8_told_91 : decode cX8_told 91 = .ok (.ireturn, 1) := by decide +kernel
theorem dX8_told_92 : decode cX8_told 92 = .ok (.aload_n 0, 1) := by decide +kernel
theorem dX8_told_93 : decode cX8_told 93 = .ok (.getfield 23, 3) := by decide +kernel
theorem dX8_told_96 : decode cX8_told 96 = .ok (.getfield 135, 3) := by decide +kernel
theorem dX8_told_99 : decode cX8_told 99 = .ok (.ireturn, 1) := by decide +kernel
theorem dX8_told_100 : decode cX8_told 100 = .ok (.new 96, 3) := by decide +kernel
theorem dX8_told_103 : decode cX8_told 103 = .ok (.dup, 1) := by decide +kernel
theorem dX8_told_104 : decode cX8_told 104 = .ok (.ldc 138, 2) := by decide +kernel
theorem dX8_told_106 : decode cX8_told 106 = .ok (.invokespecial 100, 3) := by decide +kernel
theorem dX8_told_109 : decode cX8_told 109 = .ok (.athrow, 1) := by decide +kernel
theorem dX8_isPerson_0 : decode cX8_isPerson 0 = .ok (.iload_n 1, 1) := by decide +kernel
theorem dX8_isPerson_1 : decode cX8_isPerson 1 = .ok (.ifCond .lt 18, 3) := by decide +kernel
theorem dX8_isPerson_4 : decode cX8_isPerson 4 = .ok (.iload_n 1, 1) := by decide +kernel
theorem dX8_isPerson_5 : decode cX8_isPerson 5 = .ok (.aload_n 0, 1) := by decide +kernel
theorem dX8_isPerson_6 : decode cX8_isPerson 6 = .ok (.getfield 23, 3) := by decide +kernel
theorem dX8_isPerson_9 : decode cX8_isPerson 9 = .ok (.getfield 116, 3) := by decide +kernel
theorem dX8_isPerson_12 : decode cX8_isPerson 12 = .ok (.if_icmp .ge 7, 3) := by decide +kernel
theorem dX8_isPerson_15 : decode cX8_isPerson 15 = .ok (.iconst 1, 1) := by decide +kernel
theorem dX8_isPerson_16 : decode cX8_isPerson 16 = .ok (.goto 4, 3) := by decide +kernel
theorem dX8_isPerson_19 : decode cX8_isPerson 19 = .ok (.iconst 0, 1) := by decide +kernel
theorem dX8_isPerson_20 : decode cX8_isPerson 20 = .ok (.ireturn, 1) := by decide +kernel
theorem dX8_needPerson_0 : decode cX8_needPerson 0 = .ok (.aload_n 0, 1) := by decide +kernel
theorem dX8_needPerson_1 : decode cX8_needPerson 1 = .ok (.iload_n 1, 1) := by decide +kernel
theorem dX8_needPerson_2 : decode cX8_needPerson 2 = .ok (.invokevirtual 339, 3) := by decide +kernel
theorem dX8_needPerson_5 : decode cX8_needPerson 5 = .ok (.ifCond .ne 14, 3) := by decide +kernel
theorem dX8_needPerson_8 : decode cX8_needPerson 8 = .ok (.new 362, 3) := by decide +kernel
theorem dX8_needPerson_11 : decode cX8_needPerson 11 = .ok (.dup, 1) := by decide +kernel
theorem dX8_needPerson_12 : decode cX8_needPerson 12 = .ok (.ldc_w 342, 3) := by decide +kernel
theorem dX8_needPerson_15 : decode cX8_needPerson 15 = .ok (.invokespecial 364, 3) := by decide +kernel
theorem dX8_needPerson_18 : decode cX8_needPerson 18 = .ok (.athrow, 1) := by decide +kernel
theorem dX8_needPerson_19 : decode cX8_needPerson 19 = .ok (.return_, 1) := by decide +kernel
theorem dX8_needQuestion_0 : decode cX8_needQuestion 0 = .ok (.iload_n 1, 1) := by decide +kernel
theorem dX8_needQuestion_1 : decode cX8_needQuestion 1 = .ok (.ifCond .lt 14, 3) := by decide +kernel
theorem dX8_needQuestion_4 : decode cX8_needQuestion 4 = .ok (.iload_n 1, 1) := by decide +kernel
theorem dX8_needQuestion_5 : decode cX8_needQuestion 5 = .ok (.aload_n 0, 1) := by decide +kernel
theorem dX8_needQuestion_6 : decode cX8_needQuestion 6 = .ok (.getfield 23, 3) := by decide +kernel
theorem dX8_needQuestion_9 : decode cX8_needQuestion 9 = .ok (.getfield 119, 3) := by decide +kernel
theorem dX8_needQuestion_12 : decode cX8_needQuestion 12 = .ok (.if_icmp .lt 14, 3) := by decide +kernel
theorem dX8_needQuestion_15 : decode cX8_needQuestion 15 = .ok (.new 96, 3) := by decide +kernel
theorem dX8_needQuestion_18 : decode cX8_needQuestion 18 = .ok (.dup, 1) := by decide +kernel
theorem dX8_needQuestion_19 : decode cX8_needQuestion 19 = .ok (.ldc_w 370, 3) := by decide +kernel
theorem dX8_needQuestion_22 : decode cX8_needQuestion 22 = .ok (.invokespecial 100, 3) := by decide +kernel
theorem dX8_needQuestion_25 : decode cX8_needQuestion 25 = .ok (.athrow, 1) := by decide +kernel
theorem dX8_needQuestion_26 : decode cX8_needQuestion 26 = .ok (.return_, 1) := by decide +kernel
theorem dX8_thinks_0 : decode cX8_thinks 0 = .ok (.aload_n 0, 1) := by decide +kernel
theorem dX8_thinks_1 : decode cX8_thinks 1 = .ok (.iload_n 1, 1) := by decide +kernel
theorem dX8_thinks_2 : decode cX8_thinks 2 = .ok (.invokevirtual 140, 3) := by decide +kernel
theorem dX8_thinks_5 : decode cX8_thinks 5 = .ok (.aload_n 0, 1) := by decide +kernel
theorem dX8_thinks_6 : decode cX8_thinks 6 = .ok (.iload_n 2, 1) := by decide +kernel
theorem dX8_thinks_7 : decode cX8_thinks 7 = .ok (.invokevirtual 143, 3) := by decide +kernel
theorem dX8_thinks_10 : decode cX8_thinks 10 = .ok (.aload_n 0, 1) := by decide +kernel
theorem dX8_thinks_11 : decode cX8_thinks 11 = .ok (.getfield 44, 3) := by decide +kernel
theorem dX8_thinks_14 : decode cX8_thinks 14 = .ok (.iload_n 1, 1) := by decide +kernel
theorem dX8_thinks_15 : decode cX8_thinks 15 = .ok (.iload_n 2, 1) := by decide +kernel
theorem dX8_thinks_16 : decode cX8_thinks 16 = .ok (.invokevirtual 146, 3) := by decide +kernel
theorem dX8_thinks_19 : decode cX8_thinks 19 = .ok (.ireturn, 1) := by decide +kernel
theorem dX8_person_0 : decode cX8_person 0 = .ok (.aload_n 0, 1) := by decide +kernel
theorem dX8_person_1 : decode cX8_person 1 = .ok (.iload_n 1, 1) := by decide +kernel
theorem dX8_person_2 : decode cX8_person 2 = .ok (.invokevirtual 140, 3) := by decide +kernel
theorem dX8_person_5 : decode cX8_person 5 = .ok (.iload_n 2, 1) := by decide +kernel
theorem dX8_person_6 : decode cX8_person 6 = .ok (.tableswitch 73 0 3 #[30, 40, 50, 60], 30) := by decide +kernel
theorem dX8_person_36 : decode cX8_person 36 = .ok (.aload_n 0, 1) := by decide +kernel
theorem dX8_person_37 : decode cX8_person 37 = .ok (.getfield 23, 3) := by decide +kernel
theorem dX8_person_40 : decode cX8_person 40 = .ok (.getfield 150, 3) := by decide +kernel
theorem dX8_person_43 : decode cX8_person 43 = .ok (.iload_n 1, 1) := by decide +kernel
theorem dX8_person_44 : decode cX8_person 44 = .ok (.iaload, 1) := by decide +kernel
theorem dX8_person_45 : decode cX8_person 45 = .ok (.ireturn, 1) := by decide +kernel
theorem dX8_person_46 : decode cX8_person 46 = .ok (.aload_n 0, 1) := by decide +kernel
theorem dX8_person_47 : decode cX8_person 47 = .ok (.getfield 44, 3) := by decide +kernel
theorem dX8_person_50 : decode cX8_person 50 = .ok (.getfield 153, 3) := by decide +kernel
theorem dX8_person_53 : decode cX8_person 53 = .ok (.iload_n 1, 1) := by decide +kernel
theorem dX8_person_54 : decode cX8_person 54 = .ok (.iaload, 1) := by decide +kernel
theorem dX8_person_55 : decode cX8_person 55 = .ok (.ireturn, 1) := by decide +kernel
theorem dX8_person_56 : decode cX8_person 56 = .ok (.aload_n 0, 1) := by decide +kernel
theorem dX8_person_57 : decode cX8_person 57 = .ok (.getfield 23, 3) := by decide +kernel
theorem dX8_person_60 : decode cX8_person 60 = .ok (.getfield 156, 3) := by decide +kernel
theorem dX8_person_63 : decode cX8_person 63 = .ok (.iload_n 1, 1) := by decide +kernel
theorem dX8_person_64 : decode cX8_person 64 = .ok (.iaload, 1) := by decide +kernel
theorem dX8_person_65 : decode cX8_person 65 = .ok (.ireturn, 1) := by decide +kernel
theorem dX8_person_66 : decode cX8_person 66 = .ok (.aload_n 0, 1) := by decide +kernel
theorem dX8_person_67 : decode cX8_person 67 = .ok (.getfield 23, 3) := by decide +kernel
theorem dX8_person_70 : decode cX8_person 70 = .ok (.getfield 159, 3) := by decide +kernel
theorem dX8_person_73 : decode cX8_person 73 = .ok (.iload_n 1, 1) := by decide +kernel
theorem dX8_person_74 : decode cX8_person 74 = .ok (.iaload, 1) := by decide +kernel
theorem dX8_person_75 : decode cX8_person 75 = .ok (.invokestatic 162, 3) := by decide +kernel
theorem dX8_person_78 : decode cX8_person 78 = .ok (.ireturn, 1) := by decide +kernel
theorem dX8_person_79 : decode cX8_person 79 = .ok (.new 96, 3) := by decide +kernel
theorem dX8_person_82 : decode cX8_person 82 = .ok (.dup, 1) := by decide +kernel
theorem dX8_person_83 : decode cX8_person 83 = .ok (.ldc 138, 2) := by decide +kernel
theorem dX8_person_85 : decode cX8_person 85 = .ok (.invokespecial 100, 3) := by decide +kernel
theorem dX8_person_88 : decode cX8_person 88 = .ok (.athrow, 1) := by decide +kernel
theorem dX8_needDoor_0 : decode cX8_needDoor 0 = .ok (.iload_n 1, 1) := by decide +kernel
theorem dX8_needDoor_1 : decode cX8_needDoor 1 = .ok (.ifCond .lt 14, 3) := by decide +kernel
theorem dX8_needDoor_4 : decode cX8_needDoor 4 = .ok (.iload_n 1, 1) := by decide +kernel
theorem dX8_needDoor_5 : decode cX8_needDoor 5 = .ok (.aload_n 0, 1) := by decide +kernel
theorem dX8_needDoor_6 : decode cX8_needDoor 6 = .ok (.getfield 23, 3) := by decide +kernel
theorem dX8_needDoor_9 : decode cX8_needDoor 9 = .ok (.getfield 122, 3) := by decide +kernel
theorem dX8_needDoor_12 : decode cX8_needDoor 12 = .ok (.if_icmp .lt 14, 3) := by decide +kernel
theorem dX8_needDoor_15 : decode cX8_needDoor 15 = .ok (.new 365, 3) := by decide +kernel
theorem dX8_needDoor_18 : decode cX8_needDoor 18 = .ok (.dup, 1) := by decide +kernel
theorem dX8_needDoor_19 : decode cX8_needDoor 19 = .ok (.ldc_w 367, 3) := by decide +kernel
theorem dX8_needDoor_22 : decode cX8_needDoor 22 = .ok (.invokespecial 369, 3) := by decide +kernel
theorem dX8_needDoor_25 : decode cX8_needDoor 25 = .ok (.athrow, 1) := by decide +kernel
theorem dX8_needDoor_26 : decode cX8_needDoor 26 = .ok (.return_, 1) := by decide +kernel
theorem dX8_door_0 : decode cX8_door 0 = .ok (.aload_n 0, 1) := by decide +kernel
theorem dX8_door_1 : decode cX8_door 1 = .ok (.iload_n 1, 1) := by decide +kernel
theorem dX8_door_2 : decode cX8_door 2 = .ok (.invokevirtual 167, 3) := by decide +kernel
theorem dX8_door_5 : decode cX8_door 5 = .ok (.iload_n 2, 1) := by decide +kernel
theorem dX8_door_6 : decode cX8_door 6 = .ok (.tableswitch 91 0 4 #[34, 44, 54, 64, 74], 34) := by decide +kernel
theorem dX8_door_40 : decode cX8_door 40 = .ok (.aload_n 0, 1) := by decide +kernel
theorem dX8_door_41 : decode cX8_door 41 = .ok (.getfield 23, 3) := by decide +kernel
theorem dX8_door_44 : decode cX8_door 44 = .ok (.getfield 170, 3) := by decide +kernel
theorem dX8_door_47 : decode cX8_door 47 = .ok (.iload_n 1, 1) := by decide +kernel
theorem dX8_door_48 : decode cX8_door 48 = .ok (.iaload, 1) := by decide +kernel
theorem dX8_door_49 : decode cX8_door 49 = .ok (.ireturn, 1) := by decide +kernel
theorem dX8_door_50 : decode cX8_door 50 = .ok (.aload_n 0, 1) := by decide +kernel
theorem dX8_door_51 : decode cX8_door 51 = .ok (.getfield 23, 3) := by decide +kernel
theorem dX8_door_54 : decode cX8_door 54 = .ok (.getfield 173, 3) := by decide +kernel
theorem dX8_door_57 : decode cX8_door 57 = .ok (.iload_n 1, 1) := by decide +kernel
theorem dX8_door_58 : decode cX8_door 58 = .ok (.iaload, 1) := by decide +kernel
theorem dX8_door_59 : decode cX8_door 59 = .ok (.ireturn, 1) := by decide +kernel
theorem dX8_door_60 : decode cX8_door 60 = .ok (.aload_n 0, 1) := by decide +kernel
theorem dX8_door_61 : decode cX8_door 61 = .ok (.getfield 23, 3) := by decide +kernel
theorem dX8_door_64 : decode cX8_door 64 = .ok (.getfield 176, 3) := by decide +kernel
theorem dX8_door_67 : decode cX8_door 67 = .ok (.iload_n 1, 1) := by decide +kernel
theorem dX8_door_68 : decode cX8_door 68 = .ok (.iaload, 1) := by decide +kernel
theorem dX8_door_69 : decode cX8_door 69 = .ok (.ireturn, 1) := by decide +kernel
theorem dX8_door_70 : decode cX8_door 70 = .ok (.aload_n 0, 1) := by decide +kernel
theorem dX8_door_71 : decode cX8_door 71 = .ok (.getfield 23, 3) := by decide +kernel
theorem dX8_door_74 : decode cX8_door 74 = .ok (.getfield 179, 3) := by decide +kernel
theorem dX8_door_77 : decode cX8_door 77 = .ok (.iload_n 1, 1) := by decide +kernel
theorem dX8_door_78 : decode cX8_door 78 = .ok (.iaload, 1) := by decide +kernel
theorem dX8_door_79 : decode cX8_door 79 = .ok (.ireturn, 1) := by decide +kernel
theorem dX8_door_80 : decode cX8_door 80 = .ok (.aload_n 0, 1) := by decide +kernel
theorem dX8_door_81 : decode cX8_door 81 = .ok (.getfield 44, 3) := by decide +kernel
theorem dX8_door_84 : decode cX8_door 84 = .ok (.iload_n 1, 1) := by decide +kernel
theorem dX8_door_85 : decode cX8_door 85 = .ok (.invokevirtual 182, 3) := by decide +kernel
theorem dX8_door_88 : decode cX8_door 88 = .ok (.ifCond .eq 7, 3) := by decide +kernel
theorem dX8_door_91 : decode cX8_door 91 = .ok (.iconst 1, 1) := by decide +kernel
theorem dX8_door_92 : decode cX8_door 92 = .ok (.goto 4, 3) := by decide +kernel
theorem dX8_door_95 : decode cX8_door 95 = .ok (.iconst 0, 1) := by decide +kernel
theorem dX8_door_96 : decode cX8_door 96 = .ok (.ireturn, 1) := by decide +kernel
theorem dX8_door_97 : decode cX8_door 97 = .ok (.new 96, 3) := by decide +kernel
theorem dX8_door_100 : decode cX8_door 100 = .ok (.dup, 1) := by decide +kernel
theorem dX8_door_101 : decode cX8_door 101 = .ok (.ldc 138, 2) := by decide +kernel
theorem dX8_door_103 : decode cX8_door 103 = .ok (.invokespecial 100, 3) := by decide +kernel
theorem dX8_door_106 : decode cX8_door 106 = .ok (.athrow, 1) := by decide +kernel
theorem dX8_needDay_0 : decode cX8_needDay 0 = .ok (.iload_n 1, 1) := by decide +kernel
theorem dX8_needDay_1 : decode cX8_needDay 1 = .ok (.ifCond .lt 9, 3) := by decide +kernel
theorem dX8_needDay_4 : decode cX8_needDay 4 = .ok (.iload_n 1, 1) := by decide +kernel
theorem dX8_needDay_5 : decode cX8_needDay 5 = .ok (.bipush 30, 2) := by decide +kernel
theorem dX8_needDay_7 : decode cX8_needDay 7 = .ok (.if_icmp .lt 14, 3) := by decide +kernel
theorem dX8_needDay_10 : decode cX8_needDay 10 = .ok (.new 96, 3) := by decide +kernel
theorem dX8_needDay_13 : decode cX8_needDay 13 = .ok (.dup, 1) := by decide +kernel
theorem dX8_needDay_14 : decode cX8_needDay 14 = .ok (.ldc_w 372, 3) := by decide +kernel
theorem dX8_needDay_17 : decode cX8_needDay 17 = .ok (.invokespecial 100, 3) := by decide +kernel
theorem dX8_needDay_20 : decode cX8_needDay 20 = .ok (.athrow, 1) := by decide +kernel
theorem dX8_needDay_21 : decode cX8_needDay 21 = .ok (.return_, 1) := by decide +kernel
theorem dX8_slate_0 : decode cX8_slate 0 = .ok (.aload_n 0, 1) := by decide +kernel
theorem dX8_slate_1 : decode cX8_slate 1 = .ok (.iload_n 1, 1) := by decide +kernel
theorem dX8_slate_2 : decode cX8_slate 2 = .ok (.invokevirtual 186, 3) := by decide +kernel
theorem dX8_slate_5 : decode cX8_slate 5 = .ok (.aload_n 0, 1) := by decide +kernel
theorem dX8_slate_6 : decode cX8_slate 6 = .ok (.getfield 23, 3) := by decide +kernel
theorem dX8_slate_9 : decode cX8_slate 9 = .ok (.iload_n 1, 1) := by decide +kernel
theorem dX8_slate_10 : decode cX8_slate 10 = .ok (.invokevirtual 189, 3) := by decide +kernel
theorem dX8_slate_13 : decode cX8_slate 13 = .ok (.ireturn, 1) := by decide +kernel
theorem dX8_work_0 : decode cX8_work 0 = .ok (.aload_n 0, 1) := by decide +kernel
theorem dX8_work_1 : decode cX8_work 1 = .ok (.iload_n 1, 1) := by decide +kernel
theorem dX8_work_2 : decode cX8_work 2 = .ok (.invokevirtual 167, 3) := by decide +kernel
theorem dX8_work_5 : decode cX8_work 5 = .ok (.aload_n 0, 1) := by decide +kernel
theorem dX8_work_6 : decode cX8_work 6 = .ok (.iload_n 2, 1) := by decide +kernel
theorem dX8_work_7 : decode cX8_work 7 = .ok (.invokevirtual 140, 3) := by decide +kernel
theorem dX8_work_10 : decode cX8_work 10 = .ok (.aload_n 0, 1) := by decide +kernel
theorem dX8_work_11 : decode cX8_work 11 = .ok (.iload_n 3, 1) := by decide +kernel
theorem dX8_work_12 : decode cX8_work 12 = .ok (.invokevirtual 140, 3) := by decide +kernel
theorem dX8_work_15 : decode cX8_work 15 = .ok (.aload_n 0, 1) := by decide +kernel
theorem dX8_work_16 : decode cX8_work 16 = .ok (.getfield 44, 3) := by decide +kernel
theorem dX8_work_19 : decode cX8_work 19 = .ok (.iload_n 1, 1) := by decide +kernel
theorem dX8_work_20 : decode cX8_work 20 = .ok (.iload_n 2, 1) := by decide +kernel
theorem dX8_work_21 : decode cX8_work 21 = .ok (.iload_n 3, 1) := by decide +kernel
theorem dX8_work_22 : decode cX8_work 22 = .ok (.invokevirtual 192, 3) := by decide +kernel
theorem dX8_work_25 : decode cX8_work 25 = .ok (.istore 4, 2) := by decide +kernel
theorem dX8_work_27 : decode cX8_work 27 = .ok (.iload 4, 2) := by decide +kernel
theorem dX8_work_29 : decode cX8_work 29 = .ok (.ifCond .eq 9, 3) := by decide +kernel
theorem dX8_work_32 : decode cX8_work 32 = .ok (.iload 4, 2) := by decide +kernel
theorem dX8_work_34 : decode cX8_work 34 = .ok (.ineg, 1) := by decide +kernel
theorem dX8_work_35 : decode cX8_work 35 = .ok (.goto 13, 3) := by decide +kernel
theorem dX8_work_38 : decode cX8_work 38 = .ok (.aload_n 0, 1) := by decide +kernel
theorem dX8_work_39 : decode cX8_work 39 = .ok (.getfield 44, 3) := by decide +kernel
theorem dX8_work_42 : decode cX8_work 42 = .ok (.iload_n 1, 1) := by decide +kernel
theorem dX8_work_43 : decode cX8_work 43 = .ok (.iload_n 2, 1) := by decide +kernel
theorem dX8_work_44 : decode cX8_work 44 = .ok (.iload_n 3, 1) := by decide +kernel
theorem dX8_work_45 : decode cX8_work 45 = .ok (.invokevirtual 196, 3) := by decide +kernel
theorem dX8_work_48 : decode cX8_work 48 = .ok (.ireturn, 1) := by decide +kernel
theorem dX8_may_0 : decode cX8_may 0 = .ok (.aload_n 0, 1) := by decide +kernel
theorem dX8_may_1 : decode cX8_may 1 = .ok (.iload_n 1, 1) := by decide +kernel
theorem dX8_may_2 : decode cX8_may 2 = .ok (.invokevirtual 167, 3) := by decide +kernel
theorem dX8_may_5 : decode cX8_may 5 = .ok (.aload_n 0, 1) := by decide +kernel
theorem dX8_may_6 : decode cX8_may 6 = .ok (.iload_n 2, 1) := by decide +kernel
theorem dX8_may_7 : decode cX8_may 7 = .ok (.invokevirtual 140, 3) := by decide +kernel
theorem dX8_may_10 : decode cX8_may 10 = .ok (.aload_n 0, 1) := by decide +kernel
theorem dX8_may_11 : decode cX8_may 11 = .ok (.iload_n 3, 1) := by decide +kernel
theorem dX8_may_12 : decode cX8_may 12 = .ok (.invokevirtual 140, 3) := by decide +kernel
theorem dX8_may_15 : decode cX8_may 15 = .ok (.aload_n 0, 1) := by decide +kernel
theorem dX8_may_16 : decode cX8_may 16 = .ok (.getfield 44, 3) := by decide +kernel
theorem dX8_may_19 : decode cX8_may 19 = .ok (.iload_n 1, 1) := by decide +kernel
theorem dX8_may_20 : decode cX8_may 20 = .ok (.iload_n 2, 1) := by decide +kernel
theorem dX8_may_21 : decode cX8_may 21 = .ok (.iload_n 3, 1) := by decide +kernel
theorem dX8_may_22 : decode cX8_may 22 = .ok (.invokevirtual 192, 3) := by decide +kernel
theorem dX8_may_25 : decode cX8_may 25 = .ok (.ireturn, 1) := by decide +kernel
theorem dX8_next_0 : decode cX8_next 0 = .ok (.aload_n 0, 1) := by decide +kernel
theorem dX8_next_1 : decode cX8_next 1 = .ok (.getfield 23, 3) := by decide +kernel
theorem dX8_next_4 : decode cX8_next 4 = .ok (.getfield 119, 3) := by decide +kernel
theorem dX8_next_7 : decode cX8_next 7 = .ok (.ifCond .ne 13, 3) := by decide +kernel
theorem dX8_next_10 : decode cX8_next 10 = .ok (.new 199, 3) := by decide +kernel
theorem dX8_next_13 : decode cX8_next 13 = .ok (.dup, 1) := by decide +kernel
theorem dX8_next_14 : decode cX8_next 14 = .ok (.ldc 201, 2) := by decide +kernel
theorem dX8_next_16 : decode cX8_next 16 = .ok (.invokespecial 203, 3) := by decide +kernel
theorem dX8_next_19 : decode cX8_next 19 = .ok (.athrow, 1) := by decide +kernel
theorem dX8_next_20 : decode cX8_next 20 = .ok (.aload_n 0, 1) := by decide +kernel
theorem dX8_next_21 : decode cX8_next 21 = .ok (.getfield 44, 3) := by decide +kernel
theorem dX8_next_24 : decode cX8_next 24 = .ok (.getfield 204, 3) := by decide +kernel
theorem dX8_next_27 : decode cX8_next 27 = .ok (.bipush 29, 2) := by decide +kernel
theorem dX8_next_29 : decode cX8_next 29 = .ok (.if_icmp .lt 5, 3) := by decide +kernel
theorem dX8_next_32 : decode cX8_next 32 = .ok (.iconst (-1), 1) := by decide +kernel
theorem dX8_next_33 : decode cX8_next 33 = .ok (.ireturn, 1) := by decide +kernel
theorem dX8_next_34 : decode cX8_next 34 = .ok (.aload_n 0, 1) := by decide +kernel
theorem dX8_next_35 : decode cX8_next 35 = .ok (.getfield 44, 3) := by decide +kernel
theorem dX8_next_38 : decode cX8_next 38 = .ok (.aload_n 0, 1) := by decide +kernel
theorem dX8_next_39 : decode cX8_next 39 = .ok (.getfield 44, 3) := by decide +kernel
theorem dX8_next_42 : decode cX8_next 42 = .ok (.getfield 204, 3) := by decide +kernel
theorem dX8_next_45 : decode cX8_next 45 = .ok (.iconst 1, 1) := by decide +kernel
theorem dX8_next_46 : decode cX8_next 46 = .ok (.iadd, 1) := by decide +kernel
theorem dX8_next_47 : decode cX8_next 47 = .ok (.invokevirtual 207, 3) := by decide +kernel
theorem dX8_next_50 : decode cX8_next 50 = .ok (.aload_n 0, 1) := by decide +kernel
theorem dX8_next_51 : decode cX8_next 51 = .ok (.getfield 44, 3) := by decide +kernel
theorem dX8_next_54 : decode cX8_next 54 = .ok (.getfield 204, 3) := by decide +kernel
theorem dX8_next_57 : decode cX8_next 57 = .ok (.ireturn, 1) := by decide +kernel
theorem dX8_talk_0 : decode cX8_talk 0 = .ok (.aload_n 0, 1) := by decide +kernel
theorem dX8_talk_1 : decode cX8_talk 1 = .ok (.iload_n 1, 1) := by decide +kernel
theorem dX8_talk_2 : decode cX8_talk 2 = .ok (.invokevirtual 140, 3) := by decide +kernel
theorem dX8_talk_5 : decode cX8_talk 5 = .ok (.aload_n 0, 1) := by decide +kernel
theorem dX8_talk_6 : decode cX8_talk 6 = .ok (.iload_n 2, 1) := by decide +kernel
theorem dX8_talk_7 : decode cX8_talk 7 = .ok (.invokevirtual 140, 3) := by decide +kernel
theorem dX8_talk_10 : decode cX8_talk 10 = .ok (.aload_n 0, 1) := by decide +kernel
theorem dX8_talk_11 : decode cX8_talk 11 = .ok (.iload_n 3, 1) := by decide +kernel
theorem dX8_talk_12 : decode cX8_talk 12 = .ok (.invokevirtual 143, 3) := by decide +kernel
theorem dX8_talk_15 : decode cX8_talk 15 = .ok (.iload_n 1, 1) := by decide +kernel
theorem dX8_talk_16 : decode cX8_talk 16 = .ok (.iload_n 2, 1) := by decide +kernel
theorem dX8_talk_17 : decode cX8_talk 17 = .ok (.if_icmp .ne 13, 3) := by decide +kernel
theorem dX8_talk_20 : decode cX8_talk 20 = .ok (.new 96, 3) := by decide +kernel
theorem dX8_talk_23 : decode cX8_talk 23 = .ok (.dup, 1) := by decide +kernel
theorem dX8_talk_24 : decode cX8_talk 24 = .ok (.ldc 210, 2) := by decide +kernel
theorem dX8_talk_26 : decode cX8_talk 26 = .ok (.invokespecial 100, 3) := by decide +kernel
theorem dX8_talk_29 : decode cX8_talk 29 = .ok (.athrow, 1) := by decide +kernel
theorem dX8_talk_30 : decode cX8_talk 30 = .ok (.aload_n 0, 1) := by decide +kernel
theorem dX8_talk_31 : decode cX8_talk 31 = .ok (.getfield 44, 3) := by decide +kernel
theorem dX8_talk_34 : decode cX8_talk 34 = .ok (.iload_n 1, 1) := by decide +kernel
theorem dX8_talk_35 : decode cX8_talk 35 = .ok (.iload_n 2, 1) := by decide +kernel
theorem dX8_talk_36 : decode cX8_talk 36 = .ok (.iload_n 3, 1) := by decide +kernel
theorem dX8_talk_37 : decode cX8_talk 37 = .ok (.invokevirtual 212, 3) := by decide +kernel
theorem dX8_talk_40 : decode cX8_talk 40 = .ok (.aload_n 0, 1) := by decide +kernel
theorem dX8_talk_41 : decode cX8_talk 41 = .ok (.getfield 44, 3) := by decide +kernel
theorem dX8_talk_44 : decode cX8_talk 44 = .ok (.iload_n 1, 1) := by decide +kernel
theorem dX8_talk_45 : decode cX8_talk 45 = .ok (.iload_n 3, 1) := by decide +kernel
theorem dX8_talk_46 : decode cX8_talk 46 = .ok (.invokevirtual 146, 3) := by decide +kernel
theorem dX8_talk_49 : decode cX8_talk 49 = .ok (.ireturn, 1) := by decide +kernel
theorem dX8_needWhat_0 : decode cX8_needWhat 0 = .ok (.iload_n 1, 1) := by decide +kernel
theorem dX8_needWhat_1 : decode cX8_needWhat 1 = .ok (.ifCond .lt 8, 3) := by decide +kernel
theorem dX8_needWhat_4 : decode cX8_needWhat 4 = .ok (.iload_n 1, 1) := by decide +kernel
theorem dX8_needWhat_5 : decode cX8_needWhat 5 = .ok (.iload_n 2, 1) := by decide +kernel
theorem dX8_needWhat_6 : decode cX8_needWhat 6 = .ok (.if_icmp .le 13, 3) := by decide +kernel
theorem dX8_needWhat_9 : decode cX8_needWhat 9 = .ok (.new 96, 3) := by decide +kernel
theorem dX8_needWhat_12 : decode cX8_needWhat 12 = .ok (.dup, 1) := by decide +kernel
theorem dX8_needWhat_13 : decode cX8_needWhat 13 = .ok (.ldc 138, 2) := by decide +kernel
theorem dX8_needWhat_15 : decode cX8_needWhat 15 = .ok (.invokespecial 100, 3) := by decide +kernel
theorem dX8_needWhat_18 : decode cX8_needWhat 18 = .ok (.athrow, 1) := by decide +kernel
theorem dX8_needWhat_19 : decode cX8_needWhat 19 = .ok (.return_, 1) := by decide +kernel
theorem dX8_earned_0 : decode cX8_earned 0 = .ok (.aload_n 0, 1) := by decide +kernel
theorem dX8_earned_1 : decode cX8_earned 1 = .ok (.iload_n 1, 1) := by decide +kernel
theorem dX8_earned_2 : decode cX8_earned 2 = .ok (.iconst 1, 1) := by decide +kernel
theorem dX8_earned_3 : decode cX8_earned 3 = .ok (.invokevirtual 216, 3) := by decide +kernel
theorem dX8_earned_6 : decode cX8_earned 6 = .ok (.iconst 0, 1) := by decide +kernel
theorem dX8_earned_7 : decode cX8_earned 7 = .ok (.istore_n 2, 1) := by decide +kernel
theorem dX8_earned_8 : decode cX8_earned 8 = .ok (.iconst 0, 1) := by decide +kernel
theorem dX8_earned_9 : decode cX8_earned 9 = .ok (.istore_n 3, 1) := by decide +kernel
theorem dX8_earned_10 : decode cX8_earned 10 = .ok (.iload_n 3, 1) := by decide +kernel
theorem dX8_earned_11 : decode cX8_earned 11 = .ok (.aload_n 0, 1) := by decide +kernel
theorem dX8_earned_12 : decode cX8_earned 12 = .ok (.getfield 23, 3) := by decide +kernel
theorem dX8_earned_15 : decode cX8_earned 15 = .ok (.getfield 122, 3) := by decide +kernel
theorem dX8_earned_18 : decode cX8_earned 18 = .ok (.if_icmp .ge 74, 3) := by decide +kernel
theorem dX8_earned_21 : decode cX8_earned 21 = .ok (.iload_n 1, 1) := by decide +kernel
theorem dX8_earned_22 : decode cX8_earned 22 = .ok (.ifCond .ne 14, 3) := by decide +kernel
theorem dX8_earned_25 : decode cX8_earned 25 = .ok (.aload_n 0, 1) := by decide +kernel
theorem dX8_earned_26 : decode cX8_earned 26 = .ok (.getfield 44, 3) := by decide +kernel
theorem dX8_earned_29 : decode cX8_earned 29 = .ok (.iload_n 3, 1) := by decide +kernel
theorem dX8_earned_30 : decode cX8_earned 30 = .ok (.invokevirtual 182, 3) := by decide +kernel
theorem dX8_earned_33 : decode cX8_earned 33 = .ok (.goto 30, 3) := by decide +kernel
theorem dX8_earned_36 : decode cX8_earned 36 = .ok (.aload_n 0, 1) := by decide +kernel
theorem dX8_earned_37 : decode cX8_earned 37 = .ok (.getfield 44, 3) := by decide +kernel
theorem dX8_earned_40 : decode cX8_earned 40 = .ok (.iload_n 3, 1) := by decide +kernel
theorem dX8_earned_41 : decode cX8_earned 41 = .ok (.invokevirtual 182, 3) := by decide +kernel
theorem dX8_earned_44 : decode cX8_earned 44 = .ok (.ifCond .ne 18, 3) := by decide +kernel
theorem dX8_earned_47 : decode cX8_earned 47 = .ok (.aload_n 0, 1) := by decide +kernel
theorem dX8_earned_48 : decode cX8_earned 48 = .ok (.getfield 44, 3) := by decide +kernel
theorem dX8_earned_51 : decode cX8_earned 51 = .ok (.iload_n 3, 1) := by decide +kernel
theorem dX8_earned_52 : decode cX8_earned 52 = .ok (.invokevirtual 220, 3) := by decide +kernel
theorem dX8_earned_55 : decode cX8_earned 55 = .ok (.ifCond .eq 7, 3) := by decide +kernel
theorem dX8_earned_58 : decode cX8_earned 58 = .ok (.iconst 1, 1) := by decide +kernel
theorem dX8_earned_59 : decode cX8_earned 59 = .ok (.goto 4, 3) := by decide +kernel
theorem dX8_earned_62 : decode cX8_earned 62 = .ok (.iconst 0, 1) := by decide +kernel
theorem dX8_earned_63 : decode cX8_earned 63 = .ok (.istore 4, 2) := by decide +kernel
theorem dX8_earned_65 : decode cX8_earned 65 = .ok (.iload_n 2, 1) := by decide +kernel
theorem dX8_earned_66 : decode cX8_earned 66 = .ok (.iload 4, 2) := by decide +kernel
theorem dX8_earned_68 : decode cX8_earned 68 = .ok (.ifCond .eq 15, 3) := by decide +kernel
theorem dX8_earned_71 : decode cX8_earned 71 = .ok (.aload_n 0, 1) := by decide +kernel
theorem dX8_earned_72 : decode cX8_earned 72 = .ok (.getfield 23, 3) := by decide +kernel
theorem dX8_earned_75 : decode cX8_earned 75 = .ok (.getfield 170, 3) := by decide +kernel
theorem dX8_earned_78 : decode cX8_earned 78 = .ok (.iload_n 3, 1) := by decide +kernel
theorem dX8_earned_79 : decode cX8_earned 79 = .ok (.iaload, 1) := by decide +kernel
theorem dX8_earned_80 : decode cX8_earned 80 = .ok (.goto 4, 3) := by decide +kernel
theorem dX8_earned_83 : decode cX8_earned 83 = .ok (.iconst 0, 1) := by decide +kernel
theorem dX8_earned_84 : decode cX8_earned 84 = .ok (.iadd, 1) := by decide +kernel
theorem dX8_earned_85 : decode cX8_earned 85 = .ok (.istore_n 2, 1) := by decide +kernel
theorem dX8_earned_86 : decode cX8_earned 86 = .ok (.iinc 3 1, 3) := by decide +kernel
theorem dX8_earned_89 : decode cX8_earned 89 = .ok (.goto (-79), 3) := by decide +kernel
theorem dX8_earned_92 : decode cX8_earned 92 = .ok (.iload_n 2, 1) := by decide +kernel
theorem dX8_earned_93 : decode cX8_earned 93 = .ok (.ireturn, 1) := by decide +kernel
theorem dX8_row_0 : decode cX8_row 0 = .ok (.aload_n 0, 1) := by decide +kernel
theorem dX8_row_1 : decode cX8_row 1 = .ok (.iload_n 2, 1) := by decide +kernel
theorem dX8_row_2 : decode cX8_row 2 = .ok (.invokevirtual 167, 3) := by decide +kernel
theorem dX8_row_5 : decode cX8_row 5 = .ok (.aload_n 0, 1) := by decide +kernel
theorem dX8_row_6 : decode cX8_row 6 = .ok (.iload_n 3, 1) := by decide +kernel
theorem dX8_row_7 : decode cX8_row 7 = .ok (.invokevirtual 140, 3) := by decide +kernel
theorem dX8_row_10 : decode cX8_row 10 = .ok (.aload_n 0, 1) := by decide +kernel
theorem dX8_row_11 : decode cX8_row 11 = .ok (.iload 4, 2) := by decide +kernel
theorem dX8_row_13 : decode cX8_row 13 = .ok (.invokevirtual 140, 3) := by decide +kernel
theorem dX8_row_16 : decode cX8_row 16 = .ok (.aload_n 0, 1) := by decide +kernel
theorem dX8_row_17 : decode cX8_row 17 = .ok (.iload_n 1, 1) := by decide +kernel
theorem dX8_row_18 : decode cX8_row 18 = .ok (.invokevirtual 186, 3) := by decide +kernel
theorem dX8_row_21 : decode cX8_row 21 = .ok (.aload_n 0, 1) := by decide +kernel
theorem dX8_row_22 : decode cX8_row 22 = .ok (.getfield 44, 3) := by decide +kernel
theorem dX8_row_25 : decode cX8_row 25 = .ok (.getfield 223, 3) := by decide +kernel
theorem dX8_row_28 : decode cX8_row 28 = .ok (.bipush 30, 2) := by decide +kernel
theorem dX8_row_30 : decode cX8_row 30 = .ok (.if_icmp .lt 5, 3) := by decide +kernel
theorem dX8_row_33 : decode cX8_row 33 = .ok (.iconst (-1), 1) := by decide +kernel
theorem dX8_row_34 : decode cX8_row 34 = .ok (.ireturn, 1) := by decide +kernel
theorem dX8_row_35 : decode cX8_row 35 = .ok (.aload_n 0, 1) := by decide +kernel
theorem dX8_row_36 : decode cX8_row 36 = .ok (.getfield 44, 3) := by decide +kernel
theorem dX8_row_39 : decode cX8_row 39 = .ok (.getfield 226, 3) := by decide +kernel
theorem dX8_row_42 : decode cX8_row 42 = .ok (.aload_n 0, 1) := by decide +kernel
theorem dX8_row_43 : decode cX8_row 43 = .ok (.getfield 44, 3) := by decide +kernel
theorem dX8_row_46 : decode cX8_row 46 = .ok (.getfield 223, 3) := by decide +kernel
theorem dX8_row_49 : decode cX8_row 49 = .ok (.sipush 1000, 3) := by decide +kernel
theorem dX8_row_52 : decode cX8_row 52 = .ok (.iload_n 1, 1) := by decide +kernel
theorem dX8_row_53 : decode cX8_row 53 = .ok (.imul, 1) := by decide +kernel
theorem dX8_row_54 : decode cX8_row 54 = .ok (.iload_n 2, 1) := by decide +kernel
theorem dX8_row_55 : decode cX8_row 55 = .ok (.iload_n 3, 1) := by decide +kernel
theorem dX8_row_56 : decode cX8_row 56 = .ok (.iload 4, 2) := by decide +kernel
theorem dX8_row_58 : decode cX8_row 58 = .ok (.invokestatic 229, 3) := by decide +kernel
theorem dX8_row_61 : decode cX8_row 61 = .ok (.iadd, 1) := by decide +kernel
theorem dX8_row_62 : decode cX8_row 62 = .ok (.iastore, 1) := by decide +kernel
theorem dX8_row_63 : decode cX8_row 63 = .ok (.aload_n 0, 1) := by decide +kernel
theorem dX8_row_64 : decode cX8_row 64 = .ok (.getfield 44, 3) := by decide +kernel
theorem dX8_row_67 : decode cX8_row 67 = .ok (.dup, 1) := by decide +kernel
theorem dX8_row_68 : decode cX8_row 68 = .ok (.getfield 223, 3) := by decide +kernel
theorem dX8_row_71 : decode cX8_row 71 = .ok (.iconst 1, 1) := by decide +kernel
theorem dX8_row_72 : decode cX8_row 72 = .ok (.iadd, 1) := by decide +kernel
theorem dX8_row_73 : decode cX8_row 73 = .ok (.putfield 223, 3) := by decide +kernel
theorem dX8_row_76 : decode cX8_row 76 = .ok (.aload_n 0, 1) := by decide +kernel
theorem dX8_row_77 : decode cX8_row 77 = .ok (.getfield 44, 3) := by decide +kernel
theorem dX8_row_80 : decode cX8_row 80 = .ok (.getfield 223, 3) := by decide +kernel
theorem dX8_row_83 : decode cX8_row 83 = .ok (.ireturn, 1) := by decide +kernel
theorem dX8_playRow_0 : decode cX8_playRow 0 = .ok (.iload_n 1, 1) := by decide +kernel
theorem dX8_playRow_1 : decode cX8_playRow 1 = .ok (.sipush 1000, 3) := by decide +kernel
theorem dX8_playRow_4 : decode cX8_playRow 4 = .ok (.idiv, 1) := by decide +kernel
theorem dX8_playRow_5 : decode cX8_playRow 5 = .ok (.istore_n 2, 1) := by decide +kernel
theorem dX8_playRow_6 : decode cX8_playRow 6 = .ok (.iload_n 1, 1) := by decide +kernel
theorem dX8_playRow_7 : decode cX8_playRow 7 = .ok (.invokestatic 239, 3) := by decide +kernel
theorem dX8_playRow_10 : decode cX8_playRow 10 = .ok (.istore_n 3, 1) := by decide +kernel
theorem dX8_playRow_11 : decode cX8_playRow 11 = .ok (.iload_n 1, 1) := by decide +kernel
theorem dX8_playRow_12 : decode cX8_playRow 12 = .ok (.bipush 10, 2) := by decide +kernel
theorem dX8_playRow_14 : decode cX8_playRow 14 = .ok (.idiv, 1) := by decide +kernel
theorem dX8_playRow_15 : decode cX8_playRow 15 = .ok (.bipush 10, 2) := by decide +kernel
theorem dX8_playRow_17 : decode cX8_playRow 17 = .ok (.irem, 1) := by decide +kernel
theorem dX8_playRow_18 : decode cX8_playRow 18 = .ok (.istore 4, 2) := by decide +kernel
theorem dX8_playRow_20 : decode cX8_playRow 20 = .ok (.iload_n 1, 1) := by decide +kernel
theorem dX8_playRow_21 : decode cX8_playRow 21 = .ok (.bipush 10, 2) := by decide +kernel
theorem dX8_playRow_23 : decode cX8_playRow 23 = .ok (.irem, 1) := by decide +kernel
theorem dX8_playRow_24 : decode cX8_playRow 24 = .ok (.istore 5, 2) := by decide +kernel
theorem dX8_playRow_26 : decode cX8_playRow 26 = .ok (.iload_n 2, 1) := by decide +kernel
theorem dX8_playRow_27 : decode cX8_playRow 27 = .ok (.aload_n 0, 1) := by decide +kernel
theorem dX8_playRow_28 : decode cX8_playRow 28 = .ok (.getfield 48, 3) := by decide +kernel
theorem dX8_playRow_31 : decode cX8_playRow 31 = .ok (.getfield 204, 3) := by decide +kernel
theorem dX8_playRow_34 : decode cX8_playRow 34 = .ok (.if_icmp .ge 6, 3) := by decide +kernel
theorem dX8_playRow_37 : decode cX8_playRow 37 = .ok (.bipush 6, 2) := by decide +kernel
theorem dX8_playRow_39 : decode cX8_playRow 39 = .ok (.ireturn, 1) := by decide +kernel
theorem dX8_playRow_40 : decode cX8_playRow 40 = .ok (.iload_n 2, 1) := by decide +kernel
theorem dX8_playRow_41 : decode cX8_playRow 41 = .ok (.aload_n 0, 1) := by decide +kernel
theorem dX8_playRow_42 : decode cX8_playRow 42 = .ok (.getfield 48, 3) := by decide +kernel
theorem dX8_playRow_45 : decode cX8_playRow 45 = .ok (.getfield 204, 3) := by decide +kernel
theorem dX8_playRow_48 : decode cX8_playRow 48 = .ok (.if_icmp .le 11, 3) := by decide +kernel
theorem dX8_playRow_51 : decode cX8_playRow 51 = .ok (.aload_n 0, 1) := by decide +kernel
theorem dX8_playRow_52 : decode cX8_playRow 52 = .ok (.getfield 48, 3) := by decide +kernel
theorem dX8_playRow_55 : decode cX8_playRow 55 = .ok (.iload_n 2, 1) := by decide +kernel
theorem dX8_playRow_56 : decode cX8_playRow 56 = .ok (.invokevirtual 207, 3) := by decide +kernel
theorem dX8_playRow_59 : decode cX8_playRow 59 = .ok (.aload_n 0, 1) := by decide +kernel
theorem dX8_playRow_60 : decode cX8_playRow 60 = .ok (.getfield 48, 3) := by decide +kernel
theorem dX8_playRow_63 : decode cX8_playRow 63 = .ok (.iload_n 3, 1) := by decide +kernel
theorem dX8_playRow_64 : decode cX8_playRow 64 = .ok (.iload 4, 2) := by decide +kernel
theorem dX8_playRow_66 : decode cX8_playRow 66 = .ok (.iload 5, 2) := by decide +kernel
theorem dX8_playRow_68 : decode cX8_playRow 68 = .ok (.invokevirtual 192, 3) := by decide +kernel
theorem dX8_playRow_71 : decode cX8_playRow 71 = .ok (.istore 6, 2) := by decide +kernel
theorem dX8_playRow_73 : decode cX8_playRow 73 = .ok (.iload 6, 2) := by decide +kernel
theorem dX8_playRow_75 : decode cX8_playRow 75 = .ok (.ifCond .ne 16, 3) := by decide +kernel
theorem dX8_playRow_78 : decode cX8_playRow 78 = .ok (.aload_n 0, 1) := by decide +kernel
theorem dX8_playRow_79 : decode cX8_playRow 79 = .ok (.getfield 48, 3) := by decide +kernel
theorem dX8_playRow_82 : decode cX8_playRow 82 = .ok (.iload_n 3, 1) := by decide +kernel
theorem dX8_playRow_83 : decode cX8_playRow 83 = .ok (.iload 4, 2) := by decide +kernel
theorem dX8_playRow_85 : decode cX8_playRow 85 = .ok (.iload 5, 2) := by decide +kernel
theorem dX8_playRow_87 : decode cX8_playRow 87 = .ok (.invokevirtual 196, 3) := by decide +kernel
theorem dX8_playRow_90 : decode cX8_playRow 90 = .ok (.pop, 1) := by decide +kernel
theorem dX8_playRow_91 : decode cX8_playRow 91 = .ok (.iload 6, 2) := by decide +kernel
theorem dX8_playRow_93 : decode cX8_playRow 93 = .ok (.ireturn, 1) := by decide +kernel
theorem dX8_judge_0 : decode cX8_judge 0 = .ok (.aload_n 0, 1) := by decide +kernel
theorem dX8_judge_1 : decode cX8_judge 1 = .ok (.iload_n 1, 1) := by decide +kernel
theorem dX8_judge_2 : decode cX8_judge 2 = .ok (.iconst 1, 1) := by decide +kernel
theorem dX8_judge_3 : decode cX8_judge 3 = .ok (.invokevirtual 216, 3) := by decide +kernel
theorem dX8_judge_6 : decode cX8_judge 6 = .ok (.aload_n 0, 1) := by decide +kernel
theorem dX8_judge_7 : decode cX8_judge 7 = .ok (.getfield 48, 3) := by decide +kernel
theorem dX8_judge_10 : decode cX8_judge 10 = .ok (.aload_n 0, 1) := by decide +kernel
theorem dX8_judge_11 : decode cX8_judge 11 = .ok (.getfield 44, 3) := by decide +kernel
theorem dX8_judge_14 : decode cX8_judge 14 = .ok (.invokevirtual 232, 3) := by decide +kernel
theorem dX8_judge_17 : decode cX8_judge 17 = .ok (.iconst (-1), 1) := by decide +kernel
theorem dX8_judge_18 : decode cX8_judge 18 = .ok (.istore_n 2, 1) := by decide +kernel
theorem dX8_judge_19 : decode cX8_judge 19 = .ok (.iconst 0, 1) := by decide +kernel
theorem dX8_judge_20 : decode cX8_judge 20 = .ok (.istore_n 3, 1) := by decide +kernel
theorem dX8_judge_21 : decode cX8_judge 21 = .ok (.iconst 0, 1) := by decide +kernel
theorem dX8_judge_22 : decode cX8_judge 22 = .ok (.istore 4, 2) := by decide +kernel
theorem dX8_judge_24 : decode cX8_judge 24 = .ok (.iload 4, 2) := by decide +kernel
theorem dX8_judge_26 : decode cX8_judge 26 = .ok (.aload_n 0, 1) := by decide +kernel
theorem dX8_judge_27 : decode cX8_judge 27 = .ok (.getfield 44, 3) := by decide +kernel
theorem dX8_judge_30 : decode cX8_judge 30 = .ok (.getfield 223, 3) := by decide +kernel
theorem dX8_judge_33 : decode cX8_judge 33 = .ok (.if_icmp .ge 71, 3) := by decide +kernel
theorem dX8_judge_36 : decode cX8_judge 36 = .ok (.aload_n 0, 1) := by decide +kernel
theorem dX8_judge_37 : decode cX8_judge 37 = .ok (.aload_n 0, 1) := by decide +kernel
theorem dX8_judge_38 : decode cX8_judge 38 = .ok (.getfield 44, 3) := by decide +kernel
theorem dX8_judge_41 : decode cX8_judge 41 = .ok (.getfield 226, 3) := by decide +kernel
theorem dX8_judge_44 : decode cX8_judge 44 = .ok (.iload 4, 2) := by decide +kernel
theorem dX8_judge_46 : decode cX8_judge 46 = .ok (.iaload, 1) := by decide +kernel
theorem dX8_judge_47 : decode cX8_judge 47 = .ok (.invokevirtual 236, 3) := by decide +kernel
theorem dX8_judge_50 : decode cX8_judge 50 = .ok (.istore 5, 2) := by decide +kernel
theorem dX8_judge_52 : decode cX8_judge 52 = .ok (.iload 5, 2) := by decide +kernel
theorem dX8_judge_54 : decode cX8_judge 54 = .ok (.ifCond .ne 30, 3) := by decide +kernel
theorem dX8_judge_57 : decode cX8_judge 57 = .ok (.iload_n 3, 1) := by decide +kernel
theorem dX8_judge_58 : decode cX8_judge 58 = .ok (.aload_n 0, 1) := by decide +kernel
theorem dX8_judge_59 : decode cX8_judge 59 = .ok (.getfield 23, 3) := by decide +kernel
theorem dX8_judge_62 : decode cX8_judge 62 = .ok (.getfield 170, 3) := by decide +kernel
theorem dX8_judge_65 : decode cX8_judge 65 = .ok (.aload_n 0, 1) := by decide +kernel
theorem dX8_judge_66 : decode cX8_judge 66 = .ok (.getfield 44, 3) := by decide +kernel
theorem dX8_judge_69 : decode cX8_judge 69 = .ok (.getfield 226, 3) := by decide +kernel
theorem dX8_judge_72 : decode cX8_judge 72 = .ok (.iload 4, 2) := by decide +kernel
theorem dX8_judge_74 : decode cX8_judge 74 = .ok (.iaload, 1) := by decide +kernel
theorem dX8_judge_75 : decode cX8_judge 75 = .ok (.invokestatic 239, 3) := by decide +kernel
theorem dX8_judge_78 : decode cX8_judge 78 = .ok (.iaload, 1) := by decide +kernel
theorem dX8_judge_79 : decode cX8_judge 79 = .ok (.iadd, 1) := by decide +kernel
theorem dX8_judge_80 : decode cX8_judge 80 = .ok (.istore_n 3, 1) := by decide +kernel
theorem dX8_judge_81 : decode cX8_judge 81 = .ok (.goto 17, 3) := by decide +kernel
theorem dX8_judge_84 : decode cX8_judge 84 = .ok (.iload_n 2, 1) := by decide +kernel
theorem dX8_judge_85 : decode cX8_judge 85 = .ok (.iconst (-1), 1) := by decide +kernel
theorem dX8_judge_86 : decode cX8_judge 86 = .ok (.if_icmp .ne 12, 3) := by decide +kernel
theorem dX8_judge_89 : decode cX8_judge 89 = .ok (.bipush 10, 2) := by decide +kernel
theorem dX8_judge_91 : decode cX8_judge 91 = .ok (.iload 4, 2) := by decide +kernel
theorem dX8_judge_93 : decode cX8_judge 93 = .ok (.imul, 1) := by decide +kernel
theorem dX8_judge_94 : decode cX8_judge 94 = .ok (.iload 5, 2) := by decide +kernel
theorem dX8_judge_96 : decode cX8_judge 96 = .ok (.iadd, 1) := by decide +kernel
theorem dX8_judge_97 : decode cX8_judge 97 = .ok (.istore_n 2, 1) := by decide +kernel
theorem dX8_judge_98 : decode cX8_judge 98 = .ok (.iinc 4 1, 3) := by decide +kernel
theorem dX8_judge_101 : decode cX8_judge 101 = .ok (.goto (-77), 3) := by decide +kernel
theorem dX8_judge_104 : decode cX8_judge 104 = .ok (.iload_n 1, 1) := by decide +kernel
theorem dX8_judge_105 : decode cX8_judge 105 = .ok (.ifCond .ne 7, 3) := by decide +kernel
theorem dX8_judge_108 : decode cX8_judge 108 = .ok (.iload_n 2, 1) := by decide +kernel
theorem dX8_judge_109 : decode cX8_judge 109 = .ok (.goto 4, 3) := by decide +kernel
theorem dX8_judge_112 : decode cX8_judge 112 = .ok (.iload_n 3, 1) := by decide +kernel
theorem dX8_judge_113 : decode cX8_judge 113 = .ok (.ireturn, 1) := by decide +kernel
theorem dX8_needQuestionOrNone_0 : decode cX8_needQuestionOrNone 0 = .ok (.iload_n 1, 1) := by decide +kernel
theorem dX8_needQuestionOrNone_1 : decode cX8_needQuestionOrNone 1 = .ok (.iconst (-1), 1) := by decide +kernel
theorem dX8_needQuestionOrNone_2 : decode cX8_needQuestionOrNone 2 = .ok (.if_icmp .eq 8, 3) := by decide +kernel
theorem dX8_needQuestionOrNone_5 : decode cX8_needQuestionOrNone 5 = .ok (.aload_n 0, 1) := by decide +kernel
theorem dX8_needQuestionOrNone_6 : decode cX8_needQuestionOrNone 6 = .ok (.iload_n 1, 1) := by decide +kernel
theorem dX8_needQuestionOrNone_7 : decode cX8_needQuestionOrNone 7 = .ok (.invokevirtual 143, 3) := by decide +kernel
theorem dX8_needQuestionOrNone_10 : decode cX8_needQuestionOrNone 10 = .ok (.return_, 1) := by decide +kernel
theorem dX8_today_0 : decode cX8_today 0 = .ok (.aload_n 0, 1) := by decide +kernel
theorem dX8_today_1 : decode cX8_today 1 = .ok (.iload_n 1, 1) := by decide +kernel
theorem dX8_today_2 : decode cX8_today 2 = .ok (.invokevirtual 242, 3) := by decide +kernel
theorem dX8_today_5 : decode cX8_today 5 = .ok (.aload_n 0, 1) := by decide +kernel
theorem dX8_today_6 : decode cX8_today 6 = .ok (.iload_n 2, 1) := by decide +kernel
theorem dX8_today_7 : decode cX8_today 7 = .ok (.iconst 1, 1) := by decide +kernel
theorem dX8_today_8 : decode cX8_today 8 = .ok (.invokevirtual 216, 3) := by decide +kernel
theorem dX8_today_11 : decode cX8_today 11 = .ok (.aload_n 0, 1) := by decide +kernel
theorem dX8_today_12 : decode cX8_today 12 = .ok (.iload_n 1, 1) := by decide +kernel
theorem dX8_today_13 : decode cX8_today 13 = .ok (.invokevirtual 245, 3) := by decide +kernel
theorem dX8_today_16 : decode cX8_today 16 = .ok (.iload_n 2, 1) := by decide +kernel
theorem dX8_today_17 : decode cX8_today 17 = .ok (.ifCond .ne 13, 3) := by decide +kernel
theorem dX8_today_20 : decode cX8_today 20 = .ok (.aload_n 0, 1) := by decide +kernel
theorem dX8_today_21 : decode cX8_today 21 = .ok (.getfield 61, 3) := by decide +kernel
theorem dX8_today_24 : decode cX8_today 24 = .ok (.invokevirtual 248, 3) := by decide +kernel
theorem dX8_today_27 : decode cX8_today 27 = .ok (.goto 10, 3) := by decide +kernel
theorem dX8_today_30 : decode cX8_today 30 = .ok (.aload_n 0, 1) := by decide +kernel
theorem dX8_today_31 : decode cX8_today 31 = .ok (.getfield 61, 3) := by decide +kernel
theorem dX8_today_34 : decode cX8_today 34 = .ok (.invokevirtual 251, 3) := by decide +kernel
theorem dX8_today_37 : decode cX8_today 37 = .ok (.ireturn, 1) := by decide +kernel
theorem dX8_pair_0 : decode cX8_pair 0 = .ok (.aload_n 0, 1) := by decide +kernel
theorem dX8_pair_1 : decode cX8_pair 1 = .ok (.iload_n 1, 1) := by decide +kernel
theorem dX8_pair_2 : decode cX8_pair 2 = .ok (.invokevirtual 242, 3) := by decide +kernel
theorem dX8_pair_5 : decode cX8_pair 5 = .ok (.aload_n 0, 1) := by decide +kernel
theorem dX8_pair_6 : decode cX8_pair 6 = .ok (.iload_n 2, 1) := by decide +kernel
theorem dX8_pair_7 : decode cX8_pair 7 = .ok (.invokevirtual 167, 3) := by decide +kernel
theorem dX8_pair_10 : decode cX8_pair 10 = .ok (.aload_n 0, 1) := by decide +kernel
theorem dX8_pair_11 : decode cX8_pair 11 = .ok (.iload_n 1, 1) := by decide +kernel
theorem dX8_pair_12 : decode cX8_pair 12 = .ok (.invokevirtual 245, 3) := by decide +kernel
theorem dX8_pair_15 : decode cX8_pair 15 = .ok (.aload_n 0, 1) := by decide +kernel
theorem dX8_pair_16 : decode cX8_pair 16 = .ok (.getfield 61, 3) := by decide +kernel
theorem dX8_pair_19 : decode cX8_pair 19 = .ok (.iload_n 2, 1) := by decide +kernel
theorem dX8_pair_20 : decode cX8_pair 20 = .ok (.invokevirtual 254, 3) := by decide +kernel
theorem dX8_pair_23 : decode cX8_pair 23 = .ok (.ireturn, 1) := by decide +kernel
theorem dX8_bound_0 : decode cX8_bound 0 = .ok (.aload_n 0, 1) := by decide +kernel
theorem dX8_bound_1 : decode cX8_bound 1 = .ok (.iload_n 1, 1) := by decide +kernel
theorem dX8_bound_2 : decode cX8_bound 2 = .ok (.invokevirtual 242, 3) := by decide +kernel
theorem dX8_bound_5 : decode cX8_bound 5 = .ok (.aload_n 0, 1) := by decide +kernel
theorem dX8_bound_6 : decode cX8_bound 6 = .ok (.iload_n 1, 1) := by decide +kernel
theorem dX8_bound_7 : decode cX8_bound 7 = .ok (.invokevirtual 245, 3) := by decide +kernel
theorem dX8_bound_10 : decode cX8_bound 10 = .ok (.aload_n 0, 1) := by decide +kernel
theorem dX8_bound_11 : decode cX8_bound 11 = .ok (.getfield 61, 3) := by decide +kernel
theorem dX8_bound_14 : decode cX8_bound 14 = .ok (.aload_n 0, 1) := by decide +kernel
theorem dX8_bound_15 : decode cX8_bound 15 = .ok (.getfield 23, 3) := by decide +kernel
theorem dX8_bound_18 : decode cX8_bound 18 = .ok (.getfield 116, 3) := by decide +kernel
theorem dX8_bound_21 : decode cX8_bound 21 = .ok (.iconst 2, 1) := by decide +kernel
theorem dX8_bound_22 : decode cX8_bound 22 = .ok (.idiv, 1) := by decide +kernel
theorem dX8_bound_23 : decode cX8_bound 23 = .ok (.invokevirtual 257, 3) := by decide +kernel
theorem dX8_bound_26 : decode cX8_bound 26 = .ok (.ireturn, 1) := by decide +kernel
theorem dX8_need_0 : decode cX8_need 0 = .ok (.aload_n 0, 1) := by decide +kernel
theorem dX8_need_1 : decode cX8_need 1 = .ok (.iload_n 1, 1) := by decide +kernel
theorem dX8_need_2 : decode cX8_need 2 = .ok (.invokevirtual 242, 3) := by decide +kernel
theorem dX8_need_5 : decode cX8_need 5 = .ok (.aload_n 0, 1) := by decide +kernel
theorem dX8_need_6 : decode cX8_need 6 = .ok (.iload_n 2, 1) := by decide +kernel
theorem dX8_need_7 : decode cX8_need 7 = .ok (.iconst 1, 1) := by decide +kernel
theorem dX8_need_8 : decode cX8_need 8 = .ok (.invokevirtual 216, 3) := by decide +kernel
theorem dX8_need_11 : decode cX8_need 11 = .ok (.aload_n 0, 1) := by decide +kernel
theorem dX8_need_12 : decode cX8_need 12 = .ok (.iload_n 1, 1) := by decide +kernel
theorem dX8_need_13 : decode cX8_need 13 = .ok (.invokevirtual 245, 3) := by decide +kernel
theorem dX8_need_16 : decode cX8_need 16 = .ok (.aload_n 0, 1) := by decide +kernel
theorem dX8_need_17 : decode cX8_need 17 = .ok (.getfield 61, 3) := by decide +kernel
theorem dX8_need_20 : decode cX8_need 20 = .ok (.invokevirtual 260, 3) := by decide +kernel
theorem dX8_need_23 : decode cX8_need 23 = .ok (.istore_n 3, 1) := by decide +kernel
theorem dX8_need_24 : decode cX8_need 24 = .ok (.iload_n 2, 1) := by decide +kernel
theorem dX8_need_25 : decode cX8_need 25 = .ok (.ifCond .ne 10, 3) := by decide +kernel
theorem dX8_need_28 : decode cX8_need 28 = .ok (.iload_n 3, 1) := by decide +kernel
theorem dX8_need_29 : decode cX8_need 29 = .ok (.invokestatic 162, 3) := by decide +kernel
theorem dX8_need_32 : decode cX8_need 32 = .ok (.goto 4, 3) := by decide +kernel
theorem dX8_need_35 : decode cX8_need 35 = .ok (.iload_n 3, 1) := by decide +kernel
theorem dX8_need_36 : decode cX8_need 36 = .ok (.ireturn, 1) := by decide +kernel
theorem dX8_areThoughts_0 : decode cX8_areThoughts 0 = .ok (.iload_n 1, 1) := by decide +kernel
theorem dX8_areThoughts_1 : decode cX8_areThoughts 1 = .ok (.istore_n 2, 1) := by decide +kernel
theorem dX8_areThoughts_2 : decode cX8_areThoughts 2 = .ok (.iconst 0, 1) := by decide +kernel
theorem dX8_areThoughts_3 : decode cX8_areThoughts 3 = .ok (.istore_n 3, 1) := by decide +kernel
theorem dX8_areThoughts_4 : decode cX8_areThoughts 4 = .ok (.iload_n 3, 1) := by decide +kernel
theorem dX8_areThoughts_5 : decode cX8_areThoughts 5 = .ok (.aload_n 0, 1) := by decide +kernel
theorem dX8_areThoughts_6 : decode cX8_areThoughts 6 = .ok (.getfield 23, 3) := by decide +kernel
theorem dX8_areThoughts_9 : decode cX8_areThoughts 9 = .ok (.getfield 119, 3) := by decide +kernel
theorem dX8_areThoughts_12 : decode cX8_areThoughts 12 = .ok (.if_icmp .ge 25, 3) := by decide +kernel
theorem dX8_areThoughts_15 : decode cX8_areThoughts 15 = .ok (.iload_n 2, 1) := by decide +kernel
theorem dX8_areThoughts_16 : decode cX8_areThoughts 16 = .ok (.bipush 10, 2) := by decide +kernel
theorem dX8_areThoughts_18 : decode cX8_areThoughts 18 = .ok (.irem, 1) := by decide +kernel
theorem dX8_areThoughts_19 : decode cX8_areThoughts 19 = .ok (.bipush 8, 2) := by decide +kernel
theorem dX8_areThoughts_21 : decode cX8_areThoughts 21 = .ok (.if_icmp .le 5, 3) := by decide +kernel
theorem dX8_areThoughts_24 : decode cX8_areThoughts 24 = .ok (.iconst 0, 1) := by decide +kernel
theorem dX8_areThoughts_25 : decode cX8_areThoughts 25 = .ok (.ireturn, 1) := by decide +kernel
theorem dX8_areThoughts_26 : decode cX8_areThoughts 26 = .ok (.iload_n 2, 1) := by decide +kernel
theorem dX8_areThoughts_27 : decode cX8_areThoughts 27 = .ok (.bipush 10, 2) := by decide +kernel
theorem dX8_areThoughts_29 : decode cX8_areThoughts 29 = .ok (.idiv, 1) := by decide +kernel
theorem dX8_areThoughts_30 : decode cX8_areThoughts 30 = .ok (.istore_n 2, 1) := by decide +kernel
theorem dX8_areThoughts_31 : decode cX8_areThoughts 31 = .ok (.iinc 3 1, 3) := by decide +kernel
theorem dX8_areThoughts_34 : decode cX8_areThoughts 34 = .ok (.goto (-30), 3) := by decide +kernel
theorem dX8_areThoughts_37 : decode cX8_areThoughts 37 = .ok (.iload_n 1, 1) := by decide +kernel
theorem dX8_areThoughts_38 : decode cX8_areThoughts 38 = .ok (.ifCond .lt 11, 3) := by decide +kernel
theorem dX8_areThoughts_41 : decode cX8_areThoughts 41 = .ok (.iload_n 2, 1) := by decide +kernel
theorem dX8_areThoughts_42 : decode cX8_areThoughts 42 = .ok (.ifCond .ne 7, 3) := by decide +kernel
theorem dX8_areThoughts_45 : decode cX8_areThoughts 45 = .ok (.iconst 1, 1) := by decide +kernel
theorem dX8_areThoughts_46 : decode cX8_areThoughts 46 = .ok (.goto 4, 3) := by decide +kernel
theorem dX8_areThoughts_49 : decode cX8_areThoughts 49 = .ok (.iconst 0, 1) := by decide +kernel
theorem dX8_areThoughts_50 : decode cX8_areThoughts 50 = .ok (.ireturn, 1) := by decide +kernel
theorem dX8_stranger_0 : decode cX8_stranger 0 = .ok (.aload_n 0, 1) := by decide +kernel
theorem dX8_stranger_1 : decode cX8_stranger 1 = .ok (.iload_n 1, 1) := by decide +kernel
theorem dX8_stranger_2 : decode cX8_stranger 2 = .ok (.invokevirtual 242, 3) := by decide +kernel
theorem dX8_stranger_5 : decode cX8_stranger 5 = .ok (.aload_n 0, 1) := by decide +kernel
theorem dX8_stranger_6 : decode cX8_stranger 6 = .ok (.getfield 23, 3) := by decide +kernel
theorem dX8_stranger_9 : decode cX8_stranger 9 = .ok (.getfield 119, 3) := by decide +kernel
theorem dX8_stranger_12 : decode cX8_stranger 12 = .ok (.ifCond .eq 20, 3) := by decide +kernel
theorem dX8_stranger_15 : decode cX8_stranger 15 = .ok (.iload_n 3, 1) := by decide +kernel
theorem dX8_stranger_16 : decode cX8_stranger 16 = .ok (.ifCond .lt 16, 3) := by decide +kernel
theorem dX8_stranger_19 : decode cX8_stranger 19 = .ok (.iload_n 3, 1) := by decide +kernel
theorem dX8_stranger_20 : decode cX8_stranger 20 = .ok (.iconst 4, 1) := by decide +kernel
theorem dX8_stranger_21 : decode cX8_stranger 21 = .ok (.if_icmp .gt 11, 3) := by decide +kernel
theorem dX8_stranger_24 : decode cX8_stranger 24 = .ok (.aload_n 0, 1) := by decide +kernel
theorem dX8_stranger_25 : decode cX8_stranger 25 = .ok (.iload_n 2, 1) := by decide +kernel
theorem dX8_stranger_26 : decode cX8_stranger 26 = .ok (.invokevirtual 263, 3) := by decide +kernel
theorem dX8_stranger_29 : decode cX8_stranger 29 = .ok (.ifCond .ne 14, 3) := by decide +kernel
theorem dX8_stranger_32 : decode cX8_stranger 32 = .ok (.new 96, 3) := by decide +kernel
theorem dX8_stranger_35 : decode cX8_stranger 35 = .ok (.dup, 1) := by decide +kernel
theorem dX8_stranger_36 : decode cX8_stranger 36 = .ok (.ldc_w 266, 3) := by decide +kernel
theorem dX8_stranger_39 : decode cX8_stranger 39 = .ok (.invokespecial 100, 3) := by decide +kernel
theorem dX8_stranger_42 : decode cX8_stranger 42 = .ok (.athrow, 1) := by decide +kernel
theorem dX8_stranger_43 : decode cX8_stranger 43 = .ok (.aload_n 0, 1) := by decide +kernel
theorem dX8_stranger_44 : decode cX8_stranger 44 = .ok (.iload_n 1, 1) := by decide +kernel
theorem dX8_stranger_45 : decode cX8_stranger 45 = .ok (.invokevirtual 245, 3) := by decide +kernel
theorem dX8_stranger_48 : decode cX8_stranger 48 = .ok (.aload_n 0, 1) := by decide +kernel
theorem dX8_stranger_49 : decode cX8_stranger 49 = .ok (.getfield 61, 3) := by decide +kernel
theorem dX8_stranger_52 : decode cX8_stranger 52 = .ok (.invokevirtual 248, 3) := by decide +kernel
theorem dX8_stranger_55 : decode cX8_stranger 55 = .ok (.istore 4, 2) := by decide +kernel
theorem dX8_stranger_57 : decode cX8_stranger 57 = .ok (.aload_n 0, 1) := by decide +kernel
theorem dX8_stranger_58 : decode cX8_stranger 58 = .ok (.getfield 48, 3) := by decide +kernel
theorem dX8_stranger_61 : decode cX8_stranger 61 = .ok (.iload_n 2, 1) := by decide +kernel
theorem dX8_stranger_62 : decode cX8_stranger 62 = .ok (.iload_n 3, 1) := by decide +kernel
theorem dX8_stranger_63 : decode cX8_stranger 63 = .ok (.invokevirtual 268, 3) := by decide +kernel
theorem dX8_stranger_66 : decode cX8_stranger 66 = .ok (.aload_n 0, 1) := by decide +kernel
theorem dX8_stranger_67 : decode cX8_stranger 67 = .ok (.getfield 61, 3) := by decide +kernel
theorem dX8_stranger_70 : decode cX8_stranger 70 = .ok (.aload_n 0, 1) := by decide +kernel
theorem dX8_stranger_71 : decode cX8_stranger 71 = .ok (.getfield 48, 3) := by decide +kernel
theorem dX8_stranger_74 : decode cX8_stranger 74 = .ok (.invokevirtual 271, 3) := by decide +kernel
theorem dX8_stranger_77 : decode cX8_stranger 77 = .ok (.aload_n 0, 1) := by decide +kernel
theorem dX8_stranger_78 : decode cX8_stranger 78 = .ok (.getfield 61, 3) := by decide +kernel
theorem dX8_stranger_81 : decode cX8_stranger 81 = .ok (.invokevirtual 248, 3) := by decide +kernel
theorem dX8_stranger_84 : decode cX8_stranger 84 = .ok (.iload 4, 2) := by decide +kernel
theorem dX8_stranger_86 : decode cX8_stranger 86 = .ok (.isub, 1) := by decide +kernel
theorem dX8_stranger_87 : decode cX8_stranger 87 = .ok (.ireturn, 1) := by decide +kernel
theorem dX8_worthBehindTalk_0 : decode cX8_worthBehindTalk 0 = .ok (.aload_n 0, 1) := by decide +kernel
theorem dX8_worthBehindTalk_1 : decode cX8_worthBehindTalk 1 = .ok (.getfield 48, 3) := by decide +kernel
theorem dX8_worthBehindTalk_4 : decode cX8_worthBehindTalk 4 = .ok (.iload_n 1, 1) := by decide +kernel
theorem dX8_worthBehindTalk_5 : decode cX8_worthBehindTalk 5 = .ok (.iload_n 3, 1) := by decide +kernel
theorem dX8_worthBehindTalk_6 : decode cX8_worthBehindTalk 6 = .ok (.invokevirtual 146, 3) := by decide +kernel
theorem dX8_worthBehindTalk_9 : decode cX8_worthBehindTalk 9 = .ok (.istore 4, 2) := by decide +kernel
theorem dX8_worthBehindTalk_11 : decode cX8_worthBehindTalk 11 = .ok (.aload_n 0, 1) := by decide +kernel
theorem dX8_worthBehindTalk_12 : decode cX8_worthBehindTalk 12 = .ok (.getfield 48, 3) := by decide +kernel
theorem dX8_worthBehindTalk_15 : decode cX8_worthBehindTalk 15 = .ok (.iload_n 1, 1) := by decide +kernel
theorem dX8_worthBehindTalk_16 : decode cX8_worthBehindTalk 16 = .ok (.iload_n 3, 1) := by decide +kernel
theorem dX8_worthBehindTalk_17 : decode cX8_worthBehindTalk 17 = .ok (.aload_n 0, 1) := by decide +kernel
theorem dX8_worthBehindTalk_18 : decode cX8_worthBehindTalk 18 = .ok (.getfield 48, 3) := by decide +kernel
theorem dX8_worthBehindTalk_21 : decode cX8_worthBehindTalk 21 = .ok (.getfield 315, 3) := by decide +kernel
theorem dX8_worthBehindTalk_24 : decode cX8_worthBehindTalk 24 = .ok (.invokevirtual 383, 3) := by decide +kernel
theorem dX8_worthBehindTalk_27 : decode cX8_worthBehindTalk 27 = .ok (.istore 5, 2) := by decide +kernel
theorem dX8_worthBehindTalk_29 : decode cX8_worthBehindTalk 29 = .ok (.iconst (-1), 1) := by decide +kernel
theorem dX8_worthBehindTalk_30 : decode cX8_worthBehindTalk 30 = .ok (.istore 6, 2) := by decide +kernel
theorem dX8_worthBehindTalk_32 : decode cX8_worthBehindTalk 32 = .ok (.aload_n 0, 1) := by decide +kernel
theorem dX8_worthBehindTalk_33 : decode cX8_worthBehindTalk 33 = .ok (.getfield 48, 3) := by decide +kernel
theorem dX8_worthBehindTalk_36 : decode cX8_worthBehindTalk 36 = .ok (.iload_n 1, 1) := by decide +kernel
theorem dX8_worthBehindTalk_37 : decode cX8_worthBehindTalk 37 = .ok (.iload_n 2, 1) := by decide +kernel
theorem dX8_worthBehindTalk_38 : decode cX8_worthBehindTalk 38 = .ok (.iload_n 3, 1) := by decide +kernel
theorem dX8_worthBehindTalk_39 : decode cX8_worthBehindTalk 39 = .ok (.invokevirtual 212, 3) := by decide +kernel
theorem dX8_worthBehindTalk_42 : decode cX8_worthBehindTalk 42 = .ok (.aload_n 0, 1) := by decide +kernel
theorem dX8_worthBehindTalk_43 : decode cX8_worthBehindTalk 43 = .ok (.getfield 48, 3) := by decide +kernel
theorem dX8_worthBehindTalk_46 : decode cX8_worthBehindTalk 46 = .ok (.iload_n 1, 1) := by decide +kernel
theorem dX8_worthBehindTalk_47 : decode cX8_worthBehindTalk 47 = .ok (.iload_n 3, 1) := by decide +kernel
theorem dX8_worthBehindTalk_48 : decode cX8_worthBehindTalk 48 = .ok (.aload_n 0, 1) := by decide +kernel
theorem dX8_worthBehindTalk_49 : decode cX8_worthBehindTalk 49 = .ok (.getfield 48, 3) := by decide +kernel
theorem dX8_worthBehindTalk_52 : decode cX8_worthBehindTalk 52 = .ok (.getfield 315, 3) := by decide +kernel
theorem dX8_worthBehindTalk_55 : decode cX8_worthBehindTalk 55 = .ok (.invokevirtual 383, 3) := by decide +kernel
theorem dX8_worthBehindTalk_58 : decode cX8_worthBehindTalk 58 = .ok (.iload 5, 2) := by decide +kernel
theorem dX8_worthBehindTalk_60 : decode cX8_worthBehindTalk 60 = .ok (.iconst (-1), 1) := by decide +kernel
theorem dX8_worthBehindTalk_61 : decode cX8_worthBehindTalk 61 = .ok (.ixor, 1) := by decide +kernel
theorem dX8_worthBehindTalk_62 : decode cX8_worthBehindTalk 62 = .ok (.iand, 1) := by decide +kernel
theorem dX8_worthBehindTalk_63 : decode cX8_worthBehindTalk 63 = .ok (.ifCond .eq 23, 3) := by decide +kernel
theorem dX8_worthBehindTalk_66 : decode cX8_worthBehindTalk 66 = .ok (.aload_n 0, 1) := by decide +kernel
theorem dX8_worthBehindTalk_67 : decode cX8_worthBehindTalk 67 = .ok (.getfield 61, 3) := by decide +kernel
theorem dX8_worthBehindTalk_70 : decode cX8_worthBehindTalk 70 = .ok (.aload_n 0, 1) := by decide +kernel
theorem dX8_worthBehindTalk_71 : decode cX8_worthBehindTalk 71 = .ok (.getfield 48, 3) := by decide +kernel
theorem dX8_worthBehindTalk_74 : decode cX8_worthBehindTalk 74 = .ok (.invokevirtual 271, 3) := by decide +kernel
theorem dX8_worthBehindTalk_77 : decode cX8_worthBehindTalk 77 = .ok (.aload_n 0, 1) := by decide +kernel
theorem dX8_worthBehindTalk_78 : decode cX8_worthBehindTalk 78 = .ok (.getfield 61, 3) := by decide +kernel
theorem dX8_worthBehindTalk_81 : decode cX8_worthBehindTalk 81 = .ok (.invokevirtual 248, 3) := by decide +kernel
theorem dX8_worthBehindTalk_84 : decode cX8_worthBehindTalk 84 = .ok (.istore 6, 2) := by decide +kernel
theorem dX8_worthBehindTalk_86 : decode cX8_worthBehindTalk 86 = .ok (.aload_n 0, 1) := by decide +kernel
theorem dX8_worthBehindTalk_87 : decode cX8_worthBehindTalk 87 = .ok (.getfield 48, 3) := by decide +kernel
theorem dX8_worthBehindTalk_90 : decode cX8_worthBehindTalk 90 = .ok (.iload_n 1, 1) := by decide +kernel
theorem dX8_worthBehindTalk_91 : decode cX8_worthBehindTalk 91 = .ok (.iload_n 3, 1) := by decide +kernel
theorem dX8_worthBehindTalk_92 : decode cX8_worthBehindTalk 92 = .ok (.iload 4, 2) := by decide +kernel
theorem dX8_worthBehindTalk_94 : decode cX8_worthBehindTalk 94 = .ok (.invokevirtual 386, 3) := by decide +kernel
theorem dX8_worthBehindTalk_97 : decode cX8_worthBehindTalk 97 = .ok (.iload 6, 2) := by decide +kernel
theorem dX8_worthBehindTalk_99 : decode cX8_worthBehindTalk 99 = .ok (.ireturn, 1) := by decide +kernel
theorem dX8_night_0 : decode cX8_night 0 = .ok (.aload_n 0, 1) := by decide +kernel
theorem dX8_night_1 : decode cX8_night 1 = .ok (.iload_n 1, 1) := by decide +kernel
theorem dX8_night_2 : decode cX8_night 2 = .ok (.invokevirtual 143, 3) := by decide +kernel
theorem dX8_night_5 : decode cX8_night 5 = .ok (.aload_n 0, 1) := by decide +kernel
theorem dX8_night_6 : decode cX8_night 6 = .ok (.getfield 44, 3) := by decide +kernel
theorem dX8_night_9 : decode cX8_night 9 = .ok (.getfield 204, 3) := by decide +kernel
theorem dX8_night_12 : decode cX8_night 12 = .ok (.bipush 29, 2) := by decide +kernel
theorem dX8_night_14 : decode cX8_night 14 = .ok (.if_icmp .lt 5, 3) := by decide +kernel
theorem dX8_night_17 : decode cX8_night 17 = .ok (.iconst (-1), 1) := by decide +kernel
theorem dX8_night_18 : decode cX8_night 18 = .ok (.ireturn, 1) := by decide +kernel
theorem dX8_night_19 : decode cX8_night 19 = .ok (.aload_n 0, 1) := by decide +kernel
theorem dX8_night_20 : decode cX8_night 20 = .ok (.getfield 48, 3) := by decide +kernel
theorem dX8_night_23 : decode cX8_night 23 = .ok (.aload_n 0, 1) := by decide +kernel
theorem dX8_night_24 : decode cX8_night 24 = .ok (.getfield 44, 3) := by decide +kernel
theorem dX8_night_27 : decode cX8_night 27 = .ok (.invokevirtual 232, 3) := by decide +kernel
theorem dX8_night_30 : decode cX8_night 30 = .ok (.aload_n 0, 1) := by decide +kernel
theorem dX8_night_31 : decode cX8_night 31 = .ok (.getfield 48, 3) := by decide +kernel
theorem dX8_night_34 : decode cX8_night 34 = .ok (.aload_n 0, 1) := by decide +kernel
theorem dX8_night_35 : decode cX8_night 35 = .ok (.getfield 44, 3) := by decide +kernel
theorem dX8_night_38 : decode cX8_night 38 = .ok (.getfield 204, 3) := by decide +kernel
theorem dX8_night_41 : decode cX8_night 41 = .ok (.iconst 1, 1) := by decide +kernel
theorem dX8_night_42 : decode cX8_night 42 = .ok (.iadd, 1) := by decide +kernel
theorem dX8_night_43 : decode cX8_night 43 = .ok (.invokevirtual 207, 3) := by decide +kernel
theorem dX8_night_46 : decode cX8_night 46 = .ok (.aload_n 0, 1) := by decide +kernel
theorem dX8_night_47 : decode cX8_night 47 = .ok (.getfield 61, 3) := by decide +kernel
theorem dX8_night_50 : decode cX8_night 50 = .ok (.aload_n 0, 1) := by decide +kernel
theorem dX8_night_51 : decode cX8_night 51 = .ok (.getfield 48, 3) := by decide +kernel
theorem dX8_night_54 : decode cX8_night 54 = .ok (.invokevirtual 271, 3) := by decide +kernel
theorem dX8_night_57 : decode cX8_night 57 = .ok (.aload_n 0, 1) := by decide +kernel
theorem dX8_night_58 : decode cX8_night 58 = .ok (.getfield 61, 3) := by decide +kernel
theorem dX8_night_61 : decode cX8_night 61 = .ok (.invokevirtual 248, 3) := by decide +kernel
theorem dX8_night_64 : decode cX8_night 64 = .ok (.istore_n 2, 1) := by decide +kernel
theorem dX8_night_65 : decode cX8_night 65 = .ok (.iconst (-1), 1) := by decide +kernel
theorem dX8_night_66 : decode cX8_night 66 = .ok (.istore_n 3, 1) := by decide +kernel
theorem dX8_night_67 : decode cX8_night 67 = .ok (.iconst 0, 1) := by decide +kernel
theorem dX8_night_68 : decode cX8_night 68 = .ok (.istore 4, 2) := by decide +kernel
theorem dX8_night_70 : decode cX8_night 70 = .ok (.iload 4, 2) := by decide +kernel
theorem dX8_night_72 : decode cX8_night 72 = .ok (.aload_n 0, 1) := by decide +kernel
theorem dX8_night_73 : decode cX8_night 73 = .ok (.getfield 23, 3) := by decide +kernel
theorem dX8_night_76 : decode cX8_night 76 = .ok (.getfield 116, 3) := by decide +kernel
theorem dX8_night_79 : decode cX8_night 79 = .ok (.if_icmp .ge 99, 3) := by decide +kernel
theorem dX8_night_82 : decode cX8_night 82 = .ok (.iconst 0, 1) := by decide +kernel
theorem dX8_night_83 : decode cX8_night 83 = .ok (.istore 5, 2) := by decide +kernel
theorem dX8_night_85 : decode cX8_night 85 = .ok (.iconst 0, 1) := by decide +kernel
theorem dX8_night_86 : decode cX8_night 86 = .ok (.istore 6, 2) := by decide +kernel
theorem dX8_night_88 : decode cX8_night 88 = .ok (.iload 6, 2) := by decide +kernel
theorem dX8_night_90 : decode cX8_night 90 = .ok (.aload_n 0, 1) := by decide +kernel
theorem dX8_night_91 : decode cX8_night 91 = .ok (.getfield 23, 3) := by decide +kernel
theorem dX8_night_94 : decode cX8_night 94 = .ok (.getfield 116, 3) := by decide +kernel
theorem dX8_night_97 : decode cX8_night 97 = .ok (.if_icmp .ge 75, 3) := by decide +kernel
theorem dX8_night_100 : decode cX8_night 100 = .ok (.iconst 1, 1) := by decide +kernel
theorem dX8_night_101 : decode cX8_night 101 = .ok (.aload_n 0, 1) := by decide +kernel
theorem dX8_night_102 : decode cX8_night 102 = .ok (.getfield 48, 3) := by decide +kernel
theorem dX8_night_105 : decode cX8_night 105 = .ok (.iload 4, 2) := by decide +kernel
theorem dX8_night_107 : decode cX8_night 107 = .ok (.iload 6, 2) := by decide +kernel
theorem dX8_night_109 : decode cX8_night 109 = .ok (.iload_n 1, 1) := by decide +kernel
theorem dX8_night_110 : decode cX8_night 110 = .ok (.invokevirtual 274, 3) := by decide +kernel
theorem dX8_night_113 : decode cX8_night 113 = .ok (.iconst 1, 1) := by decide +kernel
theorem dX8_night_114 : decode cX8_night 114 = .ok (.iadd, 1) := by decide +kernel
theorem dX8_night_115 : decode cX8_night 115 = .ok (.ishl, 1) := by decide +kernel
theorem dX8_night_116 : decode cX8_night 116 = .ok (.istore 7, 2) := by decide +kernel
theorem dX8_night_118 : decode cX8_night 118 = .ok (.iload 5, 2) := by decide +kernel
theorem dX8_night_120 : decode cX8_night 120 = .ok (.iload 7, 2) := by decide +kernel
theorem dX8_night_122 : decode cX8_night 122 = .ok (.iand, 1) := by decide +kernel
theorem dX8_night_123 : decode cX8_night 123 = .ok (.ifCond .ne 15, 3) := by decide +kernel
theorem dX8_night_126 : decode cX8_night 126 = .ok (.aload_n 0, 1) := by decide +kernel
theorem dX8_night_127 : decode cX8_night 127 = .ok (.iload 4, 2) := by decide +kernel
theorem dX8_night_129 : decode cX8_night 129 = .ok (.iload 6, 2) := by decide +kernel
theorem dX8_night_131 : decode cX8_night 131 = .ok (.iload_n 1, 1) := by decide +kernel
theorem dX8_night_132 : decode cX8_night 132 = .ok (.invokevirtual 277, 3) := by decide +kernel
theorem dX8_night_135 : decode cX8_night 135 = .ok (.goto 4, 3) := by decide +kernel
theorem dX8_night_138 : decode cX8_night 138 = .ok (.iconst (-1), 1) := by decide +kernel
theorem dX8_night_139 : decode cX8_night 139 = .ok (.istore 8, 2) := by decide +kernel
theorem dX8_night_141 : decode cX8_night 141 = .ok (.iload 5, 2) := by decide +kernel
theorem dX8_night_143 : decode cX8_night 143 = .ok (.iload 7, 2) := by decide +kernel
theorem dX8_night_145 : decode cX8_night 145 = .ok (.ior, 1) := by decide +kernel
theorem dX8_night_146 : decode cX8_night 146 = .ok (.istore 5, 2) := by decide +kernel
theorem dX8_night_148 : decode cX8_night 148 = .ok (.iload 8, 2) := by decide +kernel
theorem dX8_night_150 : decode cX8_night 150 = .ok (.iload_n 2, 1) := by decide +kernel
theorem dX8_night_151 : decode cX8_night 151 = .ok (.if_icmp .le 15, 3) := by decide +kernel
theorem dX8_night_154 : decode cX8_night 154 = .ok (.iload 8, 2) := by decide +kernel
theorem dX8_night_156 : decode cX8_night 156 = .ok (.istore_n 2, 1) := by decide +kernel
theorem dX8_night_157 : decode cX8_night 157 = .ok (.bipush 10, 2) := by decide +kernel
theorem dX8_night_159 : decode cX8_night 159 = .ok (.iload 4, 2) := by decide +kernel
theorem dX8_night_161 : decode cX8_night 161 = .ok (.imul, 1) := by decide +kernel
theorem dX8_night_162 : decode cX8_night 162 = .ok (.iload 6, 2) := by decide +kernel
theorem dX8_night_164 : decode cX8_night 164 = .ok (.iadd, 1) := by decide +kernel
theorem dX8_night_165 : decode cX8_night 165 = .ok (.istore_n 3, 1) := by decide +kernel
theorem dX8_night_166 : decode cX8_night 166 = .ok (.iinc 6 1, 3) := by decide +kernel
theorem dX8_night_169 : decode cX8_night 169 = .ok (.goto (-81), 3) := by decide +kernel
theorem dX8_night_172 : decode cX8_night 172 = .ok (.iinc 4 1, 3) := by decide +kernel
theorem dX8_night_175 : decode cX8_night 175 = .ok (.goto (-105), 3) := by decide +kernel
theorem dX8_night_178 : decode cX8_night 178 = .ok (.iload_n 3, 1) := by decide +kernel
theorem dX8_night_179 : decode cX8_night 179 = .ok (.ireturn, 1) := by decide +kernel
theorem dX8_best_0 : decode cX8_best 0 = .ok (.aload_n 0, 1) := by decide +kernel
theorem dX8_best_1 : decode cX8_best 1 = .ok (.iload_n 1, 1) := by decide +kernel
theorem dX8_best_2 : decode cX8_best 2 = .ok (.iconst 2, 1) := by decide +kernel
theorem dX8_best_3 : decode cX8_best 3 = .ok (.invokevirtual 216, 3) := by decide +kernel
theorem dX8_best_6 : decode cX8_best 6 = .ok (.aload_n 0, 1) := by decide +kernel
theorem dX8_best_7 : decode cX8_best 7 = .ok (.getfield 84, 3) := by decide +kernel
theorem dX8_best_10 : decode cX8_best 10 = .ok (.aload_n 0, 1) := by decide +kernel
theorem dX8_best_11 : decode cX8_best 11 = .ok (.getfield 44, 3) := by decide +kernel
theorem dX8_best_14 : decode cX8_best 14 = .ok (.invokevirtual 280, 3) := by decide +kernel
theorem dX8_best_17 : decode cX8_best 17 = .ok (.aload_n 0, 1) := by decide +kernel
theorem dX8_best_18 : decode cX8_best 18 = .ok (.getfield 84, 3) := by decide +kernel
theorem dX8_best_21 : decode cX8_best 21 = .ok (.iload_n 1, 1) := by decide +kernel
theorem dX8_best_22 : decode cX8_best 22 = .ok (.invokevirtual 283, 3) := by decide +kernel
theorem dX8_best_25 : decode cX8_best 25 = .ok (.ireturn, 1) := by decide +kernel
theorem dX8_needRule_0 : decode cX8_needRule 0 = .ok (.iload_n 1, 1) := by decide +kernel
theorem dX8_needRule_1 : decode cX8_needRule 1 = .ok (.ifCond .lt 8, 3) := by decide +kernel
theorem dX8_needRule_4 : decode cX8_needRule 4 = .ok (.iload_n 1, 1) := by decide +kernel
theorem dX8_needRule_5 : decode cX8_needRule 5 = .ok (.iconst 4, 1) := by decide +kernel
theorem dX8_needRule_6 : decode cX8_needRule 6 = .ok (.if_icmp .lt 14, 3) := by decide +kernel
theorem dX8_needRule_9 : decode cX8_needRule 9 = .ok (.new 96, 3) := by decide +kernel
theorem dX8_needRule_12 : decode cX8_needRule 12 = .ok (.dup, 1) := by decide +kernel
theorem dX8_needRule_13 : decode cX8_needRule 13 = .ok (.ldc_w 376, 3) := by decide +kernel
theorem dX8_needRule_16 : decode cX8_needRule 16 = .ok (.invokespecial 100, 3) := by decide +kernel
theorem dX8_needRule_19 : decode cX8_needRule 19 = .ok (.athrow, 1) := by decide +kernel
theorem dX8_needRule_20 : decode cX8_needRule 20 = .ok (.return_, 1) := by decide +kernel
theorem dX8_needDays_0 : decode cX8_needDays 0 = .ok (.iload_n 1, 1) := by decide +kernel
theorem dX8_needDays_1 : decode cX8_needDays 1 = .ok (.iconst 1, 1) := by decide +kernel
theorem dX8_needDays_2 : decode cX8_needDays 2 = .ok (.if_icmp .lt 17, 3) := by decide +kernel
theorem dX8_needDays_5 : decode cX8_needDays 5 = .ok (.iload_n 1, 1) := by decide +kernel
theorem dX8_needDays_6 : decode cX8_needDays 6 = .ok (.bipush 30, 2) := by decide +kernel
theorem dX8_needDays_8 : decode cX8_needDays 8 = .ok (.aload_n 0, 1) := by decide +kernel
theorem dX8_needDays_9 : decode cX8_needDays 9 = .ok (.getfield 44, 3) := by decide +kernel
theorem dX8_needDays_12 : decode cX8_needDays 12 = .ok (.getfield 204, 3) := by decide +kernel
theorem dX8_needDays_15 : decode cX8_needDays 15 = .ok (.isub, 1) := by decide +kernel
theorem dX8_needDays_16 : decode cX8_needDays 16 = .ok (.if_icmp .le 14, 3) := by decide +kernel
theorem dX8_needDays_19 : decode cX8_needDays 19 = .ok (.new 96, 3) := by decide +kernel
theorem dX8_needDays_22 : decode cX8_needDays 22 = .ok (.dup, 1) := by decide +kernel
theorem dX8_needDays_23 : decode cX8_needDays 23 = .ok (.ldc_w 374, 3) := by decide +kernel
theorem dX8_needDays_26 : decode cX8_needDays 26 = .ok (.invokespecial 100, 3) := by decide +kernel
theorem dX8_needDays_29 : decode cX8_needDays 29 = .ok (.athrow, 1) := by decide +kernel
theorem dX8_needDays_30 : decode cX8_needDays 30 = .ok (.return_, 1) := by decide +kernel
theorem dX8_run_0 : decode cX8_run 0 = .ok (.aload_n 0, 1) := by decide +kernel
theorem dX8_run_1 : decode cX8_run 1 = .ok (.iload_n 1, 1) := by decide +kernel
theorem dX8_run_2 : decode cX8_run 2 = .ok (.invokevirtual 286, 3) := by decide +kernel
theorem dX8_run_5 : decode cX8_run 5 = .ok (.aload_n 0, 1) := by decide +kernel
theorem dX8_run_6 : decode cX8_run 6 = .ok (.iload_n 2, 1) := by decide +kernel
theorem dX8_run_7 : decode cX8_run 7 = .ok (.invokevirtual 289, 3) := by decide +kernel
theorem dX8_run_10 : decode cX8_run 10 = .ok (.aload_n 0, 1) := by decide +kernel
theorem dX8_run_11 : decode cX8_run 11 = .ok (.iload_n 3, 1) := by decide +kernel
theorem dX8_run_12 : decode cX8_run 12 = .ok (.iconst 3, 1) := by decide +kernel
theorem dX8_run_13 : decode cX8_run 13 = .ok (.invokevirtual 216, 3) := by decide +kernel
theorem dX8_run_16 : decode cX8_run 16 = .ok (.aload_n 0, 1) := by decide +kernel
theorem dX8_run_17 : decode cX8_run 17 = .ok (.getfield 48, 3) := by decide +kernel
theorem dX8_run_20 : decode cX8_run 20 = .ok (.aload_n 0, 1) := by decide +kernel
theorem dX8_run_21 : decode cX8_run 21 = .ok (.getfield 44, 3) := by decide +kernel
theorem dX8_run_24 : decode cX8_run 24 = .ok (.invokevirtual 232, 3) := by decide +kernel
theorem dX8_run_27 : decode cX8_run 27 = .ok (.aload_n 0, 1) := by decide +kernel
theorem dX8_run_28 : decode cX8_run 28 = .ok (.getfield 77, 3) := by decide +kernel
theorem dX8_run_31 : decode cX8_run 31 = .ok (.iload_n 1, 1) := by decide +kernel
theorem dX8_run_32 : decode cX8_run 32 = .ok (.iload_n 2, 1) := by decide +kernel
theorem dX8_run_33 : decode cX8_run 33 = .ok (.iconst 0, 1) := by decide +kernel
theorem dX8_run_34 : decode cX8_run 34 = .ok (.iconst 0, 1) := by decide +kernel
theorem dX8_run_35 : decode cX8_run 35 = .ok (.invokevirtual 292, 3) := by decide +kernel
theorem dX8_run_38 : decode cX8_run 38 = .ok (.aload_n 0, 1) := by decide +kernel
theorem dX8_run_39 : decode cX8_run 39 = .ok (.getfield 77, 3) := by decide +kernel
theorem dX8_run_42 : decode cX8_run 42 = .ok (.iload_n 3, 1) := by decide +kernel
theorem dX8_run_43 : decode cX8_run 43 = .ok (.invokevirtual 296, 3) := by decide +kernel
theorem dX8_run_46 : decode cX8_run 46 = .ok (.ireturn, 1) := by decide +kernel
theorem dX8_lot_0 : decode cX8_lot 0 = .ok (.aload_n 0, 1) := by decide +kernel
theorem dX8_lot_1 : decode cX8_lot 1 = .ok (.iload_n 1, 1) := by decide +kernel
theorem dX8_lot_2 : decode cX8_lot 2 = .ok (.invokevirtual 286, 3) := by decide +kernel
theorem dX8_lot_5 : decode cX8_lot 5 = .ok (.aload_n 0, 1) := by decide +kernel
theorem dX8_lot_6 : decode cX8_lot 6 = .ok (.iload_n 2, 1) := by decide +kernel
theorem dX8_lot_7 : decode cX8_lot 7 = .ok (.invokevirtual 289, 3) := by decide +kernel
theorem dX8_lot_10 : decode cX8_lot 10 = .ok (.aload_n 0, 1) := by decide +kernel
theorem dX8_lot_11 : decode cX8_lot 11 = .ok (.iload_n 3, 1) := by decide +kernel
theorem dX8_lot_12 : decode cX8_lot 12 = .ok (.iconst 3, 1) := by decide +kernel
theorem dX8_lot_13 : decode cX8_lot 13 = .ok (.invokevirtual 216, 3) := by decide +kernel
theorem dX8_lot_16 : decode cX8_lot 16 = .ok (.aload_n 0, 1) := by decide +kernel
theorem dX8_lot_17 : decode cX8_lot 17 = .ok (.getfield 48, 3) := by decide +kernel
theorem dX8_lot_20 : decode cX8_lot 20 = .ok (.aload_n 0, 1) := by decide +kernel
theorem dX8_lot_21 : decode cX8_lot 21 = .ok (.getfield 44, 3) := by decide +kernel
theorem dX8_lot_24 : decode cX8_lot 24 = .ok (.invokevirtual 232, 3) := by decide +kernel
theorem dX8_lot_27 : decode cX8_lot 27 = .ok (.aload_n 0, 1) := by decide +kernel
theorem dX8_lot_28 : decode cX8_lot 28 = .ok (.getfield 77, 3) := by decide +kernel
theorem dX8_lot_31 : decode cX8_lot 31 = .ok (.iload_n 1, 1) := by decide +kernel
theorem dX8_lot_32 : decode cX8_lot 32 = .ok (.iload_n 2, 1) := by decide +kernel
theorem dX8_lot_33 : decode cX8_lot 33 = .ok (.iconst 1, 1) := by decide +kernel
theorem dX8_lot_34 : decode cX8_lot 34 = .ok (.iload 4, 2) := by decide +kernel
theorem dX8_lot_36 : decode cX8_lot 36 = .ok (.invokevirtual 292, 3) := by decide +kernel
theorem dX8_lot_39 : decode cX8_lot 39 = .ok (.aload_n 0, 1) := by decide +kernel
theorem dX8_lot_40 : decode cX8_lot 40 = .ok (.getfield 77, 3) := by decide +kernel
theorem dX8_lot_43 : decode cX8_lot 43 = .ok (.iload_n 3, 1) := by decide +kernel
theorem dX8_lot_44 : decode cX8_lot 44 = .ok (.invokevirtual 296, 3) := by decide +kernel
theorem dX8_lot_47 : decode cX8_lot 47 = .ok (.ireturn, 1) := by decide +kernel
theorem dX8_worthOfRun_0 : decode cX8_worthOfRun 0 = .ok (.aload_n 0, 1) := by decide +kernel
theorem dX8_worthOfRun_1 : decode cX8_worthOfRun 1 = .ok (.getfield 48, 3) := by decide +kernel
theorem dX8_worthOfRun_4 : decode cX8_worthOfRun 4 = .ok (.aload_n 0, 1) := by decide +kernel
theorem dX8_worthOfRun_5 : decode cX8_worthOfRun 5 = .ok (.getfield 44, 3) := by decide +kernel
theorem dX8_worthOfRun_8 : decode cX8_worthOfRun 8 = .ok (.invokevirtual 232, 3) := by decide +kernel
theorem dX8_worthOfRun_11 : decode cX8_worthOfRun 11 = .ok (.iload_n 3, 1) := by decide +kernel
theorem dX8_worthOfRun_12 : decode cX8_worthOfRun 12 = .ok (.iconst (-1), 1) := by decide +kernel
theorem dX8_worthOfRun_13 : decode cX8_worthOfRun 13 = .ok (.if_icmp .eq 13, 3) := by decide +kernel
theorem dX8_worthOfRun_16 : decode cX8_worthOfRun 16 = .ok (.aload_n 0, 1) := by decide +kernel
theorem dX8_worthOfRun_17 : decode cX8_worthOfRun 17 = .ok (.getfield 48, 3) := by decide +kernel
theorem dX8_worthOfRun_20 : decode cX8_worthOfRun 20 = .ok (.getfield 389, 3) := by decide +kernel
theorem dX8_worthOfRun_23 : decode cX8_worthOfRun 23 = .ok (.iload_n 3, 1) := by decide +kernel
theorem dX8_worthOfRun_24 : decode cX8_worthOfRun 24 = .ok (.iconst 0, 1) := by decide +kernel
theorem dX8_worthOfRun_25 : decode cX8_worthOfRun 25 = .ok (.iastore, 1) := by decide +kernel
theorem dX8_worthOfRun_26 : decode cX8_worthOfRun 26 = .ok (.aload_n 0, 1) := by decide +kernel
theorem dX8_worthOfRun_27 : decode cX8_worthOfRun 27 = .ok (.getfield 77, 3) := by decide +kernel
theorem dX8_worthOfRun_30 : decode cX8_worthOfRun 30 = .ok (.iload_n 1, 1) := by decide +kernel
theorem dX8_worthOfRun_31 : decode cX8_worthOfRun 31 = .ok (.iload_n 2, 1) := by decide +kernel
theorem dX8_worthOfRun_32 : decode cX8_worthOfRun 32 = .ok (.iconst 0, 1) := by decide +kernel
theorem dX8_worthOfRun_33 : decode cX8_worthOfRun 33 = .ok (.iconst 0, 1) := by decide +kernel
theorem dX8_worthOfRun_34 : decode cX8_worthOfRun 34 = .ok (.invokevirtual 292, 3) := by decide +kernel
theorem dX8_worthOfRun_37 : decode cX8_worthOfRun 37 = .ok (.aload_n 0, 1) := by decide +kernel
theorem dX8_worthOfRun_38 : decode cX8_worthOfRun 38 = .ok (.getfield 77, 3) := by decide +kernel
theorem dX8_worthOfRun_41 : decode cX8_worthOfRun 41 = .ok (.getfield 390, 3) := by decide +kernel
theorem dX8_worthOfRun_44 : decode cX8_worthOfRun 44 = .ok (.ireturn, 1) := by decide +kernel
theorem dX8_rule_0 : decode cX8_rule 0 = .ok (.aload_n 0, 1) := by decide +kernel
theorem dX8_rule_1 : decode cX8_rule 1 = .ok (.iload_n 1, 1) := by decide +kernel
theorem dX8_rule_2 : decode cX8_rule 2 = .ok (.invokevirtual 289, 3) := by decide +kernel
theorem dX8_rule_5 : decode cX8_rule 5 = .ok (.iconst 0, 1) := by decide +kernel
theorem dX8_rule_6 : decode cX8_rule 6 = .ok (.istore_n 2, 1) := by decide +kernel
theorem dX8_rule_7 : decode cX8_rule 7 = .ok (.iconst (-1), 1) := by decide +kernel
theorem dX8_rule_8 : decode cX8_rule 8 = .ok (.istore_n 3, 1) := by decide +kernel
theorem dX8_rule_9 : decode cX8_rule 9 = .ok (.iconst 0, 1) := by decide +kernel
theorem dX8_rule_10 : decode cX8_rule 10 = .ok (.istore 4, 2) := by decide +kernel
theorem dX8_rule_12 : decode cX8_rule 12 = .ok (.iload 4, 2) := by decide +kernel
theorem dX8_rule_14 : decode cX8_rule 14 = .ok (.iconst 4, 1) := by decide +kernel
theorem dX8_rule_15 : decode cX8_rule 15 = .ok (.if_icmp .ge 31, 3) := by decide +kernel
theorem dX8_rule_18 : decode cX8_rule 18 = .ok (.aload_n 0, 1) := by decide +kernel
theorem dX8_rule_19 : decode cX8_rule 19 = .ok (.iload 4, 2) := by decide +kernel
theorem dX8_rule_21 : decode cX8_rule 21 = .ok (.iload_n 1, 1) := by decide +kernel
theorem dX8_rule_22 : decode cX8_rule 22 = .ok (.iconst (-1), 1) := by decide +kernel
theorem dX8_rule_23 : decode cX8_rule 23 = .ok (.invokevirtual 297, 3) := by decide +kernel
theorem dX8_rule_26 : decode cX8_rule 26 = .ok (.istore 5, 2) := by decide +kernel
theorem dX8_rule_28 : decode cX8_rule 28 = .ok (.iload 5, 2) := by decide +kernel
theorem dX8_rule_30 : decode cX8_rule 30 = .ok (.iload_n 3, 1) := by decide +kernel
theorem dX8_rule_31 : decode cX8_rule 31 = .ok (.if_icmp .le 9, 3) := by decide +kernel
theorem dX8_rule_34 : decode cX8_rule 34 = .ok (.iload 5, 2) := by decide +kernel
theorem dX8_rule_36 : decode cX8_rule 36 = .ok (.istore_n 3, 1) := by decide +kernel
theorem dX8_rule_37 : decode cX8_rule 37 = .ok (.iload 4, 2) := by decide +kernel
theorem dX8_rule_39 : decode cX8_rule 39 = .ok (.istore_n 2, 1) := by decide +kernel
theorem dX8_rule_40 : decode cX8_rule 40 = .ok (.iinc 4 1, 3) := by decide +kernel
theorem dX8_rule_43 : decode cX8_rule 43 = .ok (.goto (-31), 3) := by decide +kernel
theorem dX8_rule_46 : decode cX8_rule 46 = .ok (.iload_n 2, 1) := by decide +kernel
theorem dX8_rule_47 : decode cX8_rule 47 = .ok (.ireturn, 1) := by decide +kernel
theorem dX8_few_0 : decode cX8_few 0 = .ok (.iload_n 1, 1) := by decide +kernel
theorem dX8_few_1 : decode cX8_few 1 = .ok (.invokestatic 162, 3) := by decide +kernel
theorem dX8_few_4 : decode cX8_few 4 = .ok (.istore 4, 2) := by decide +kernel
theorem dX8_few_6 : decode cX8_few 6 = .ok (.iload_n 1, 1) := by decide +kernel
theorem dX8_few_7 : decode cX8_few 7 = .ok (.ifCond .lt 28, 3) := by decide +kernel
theorem dX8_few_10 : decode cX8_few 10 = .ok (.iload_n 1, 1) := by decide +kernel
theorem dX8_few_11 : decode cX8_few 11 = .ok (.iconst 1, 1) := by decide +kernel
theorem dX8_few_12 : decode cX8_few 12 = .ok (.aload_n 0, 1) := by decide +kernel
theorem dX8_few_13 : decode cX8_few 13 = .ok (.getfield 23, 3) := by decide +kernel
theorem dX8_few_16 : decode cX8_few 16 = .ok (.getfield 116, 3) := by decide +kernel
theorem dX8_few_19 : decode cX8_few 19 = .ok (.ishl, 1) := by decide +kernel
theorem dX8_few_20 : decode cX8_few 20 = .ok (.if_icmp .ge 15, 3) := by decide +kernel
theorem dX8_few_23 : decode cX8_few 23 = .ok (.iload 4, 2) := by decide +kernel
theorem dX8_few_25 : decode cX8_few 25 = .ok (.iconst 2, 1) := by decide +kernel
theorem dX8_few_26 : decode cX8_few 26 = .ok (.if_icmp .lt 9, 3) := by decide +kernel
theorem dX8_few_29 : decode cX8_few 29 = .ok (.iload 4, 2) := by decide +kernel
theorem dX8_few_31 : decode cX8_few 31 = .ok (.iconst 4, 1) := by decide +kernel
theorem dX8_few_32 : decode cX8_few 32 = .ok (.if_icmp .le 14, 3) := by decide +kernel
theorem dX8_few_35 : decode cX8_few 35 = .ok (.new 96, 3) := by decide +kernel
theorem dX8_few_38 : decode cX8_few 38 = .ok (.dup, 1) := by decide +kernel
theorem dX8_few_39 : decode cX8_few 39 = .ok (.ldc_w 302, 3) := by decide +kernel
theorem dX8_few_42 : decode cX8_few 42 = .ok (.invokespecial 100, 3) := by decide +kernel
theorem dX8_few_45 : decode cX8_few 45 = .ok (.athrow, 1) := by decide +kernel
theorem dX8_few_46 : decode cX8_few 46 = .ok (.aload_n 0, 1) := by decide +kernel
theorem dX8_few_47 : decode cX8_few 47 = .ok (.iload_n 2, 1) := by decide +kernel
theorem dX8_few_48 : decode cX8_few 48 = .ok (.invokevirtual 143, 3) := by decide +kernel
theorem dX8_few_51 : decode cX8_few 51 = .ok (.aload_n 0, 1) := by decide +kernel
theorem dX8_few_52 : decode cX8_few 52 = .ok (.iload_n 3, 1) := by decide +kernel
theorem dX8_few_53 : decode cX8_few 53 = .ok (.iconst 1, 1) := by decide +kernel
theorem dX8_few_54 : decode cX8_few 54 = .ok (.invokevirtual 216, 3) := by decide +kernel
theorem dX8_few_57 : decode cX8_few 57 = .ok (.aload_n 0, 1) := by decide +kernel
theorem dX8_few_58 : decode cX8_few 58 = .ok (.getfield 88, 3) := by decide +kernel
theorem dX8_few_61 : decode cX8_few 61 = .ok (.ifnonnull 18, 3) := by decide +kernel
theorem dX8_few_64 : decode cX8_few 64 = .ok (.aload_n 0, 1) := by decide +kernel
theorem dX8_few_65 : decode cX8_few 65 = .ok (.new 300, 3) := by decide +kernel
theorem dX8_few_68 : decode cX8_few 68 = .ok (.dup, 1) := by decide +kernel
theorem dX8_few_69 : decode cX8_few 69 = .ok (.aload_n 0, 1) := by decide +kernel
theorem dX8_few_70 : decode cX8_few 70 = .ok (.getfield 23, 3) := by decide +kernel
theorem dX8_few_73 : decode cX8_few 73 = .ok (.invokespecial 304, 3) := by decide +kernel
theorem dX8_few_76 : decode cX8_few 76 = .ok (.putfield 88, 3) := by decide +kernel
theorem dX8_few_79 : decode cX8_few 79 = .ok (.aload_n 0, 1) := by decide +kernel
theorem dX8_few_80 : decode cX8_few 80 = .ok (.getfield 88, 3) := by decide +kernel
theorem dX8_few_83 : decode cX8_few 83 = .ok (.aload_n 0, 1) := by decide +kernel
theorem dX8_few_84 : decode cX8_few 84 = .ok (.getfield 44, 3) := by decide +kernel
theorem dX8_few_87 : decode cX8_few 87 = .ok (.iload_n 1, 1) := by decide +kernel
theorem dX8_few_88 : decode cX8_few 88 = .ok (.iload_n 2, 1) := by decide +kernel
theorem dX8_few_89 : decode cX8_few 89 = .ok (.invokevirtual 305, 3) := by decide +kernel
theorem dX8_few_92 : decode cX8_few 92 = .ok (.iload_n 3, 1) := by decide +kernel
theorem dX8_few_93 : decode cX8_few 93 = .ok (.ifCond .ne 13, 3) := by decide +kernel
theorem dX8_few_96 : decode cX8_few 96 = .ok (.aload_n 0, 1) := by decide +kernel
theorem dX8_few_97 : decode cX8_few 97 = .ok (.getfield 88, 3) := by decide +kernel
theorem dX8_few_100 : decode cX8_few 100 = .ok (.invokevirtual 309, 3) := by decide +kernel
theorem dX8_few_103 : decode cX8_few 103 = .ok (.goto 10, 3) := by decide +kernel
theorem dX8_few_106 : decode cX8_few 106 = .ok (.aload_n 0, 1) := by decide +kernel
theorem dX8_few_107 : decode cX8_few 107 = .ok (.getfield 88, 3) := by decide +kernel
theorem dX8_few_110 : decode cX8_few 110 = .ok (.getfield 312, 3) := by decide +kernel
theorem dX8_few_113 : decode cX8_few 113 = .ok (.ireturn, 1) := by decide +kernel
theorem dX8_pairs_0 : decode cX8_pairs 0 = .ok (.aload_n 0, 1) := by decide +kernel
theorem dX8_pairs_1 : decode cX8_pairs 1 = .ok (.iload_n 1, 1) := by decide +kernel
theorem dX8_pairs_2 : decode cX8_pairs 2 = .ok (.invokevirtual 143, 3) := by decide +kernel
theorem dX8_pairs_5 : decode cX8_pairs 5 = .ok (.aload_n 0, 1) := by decide +kernel
theorem dX8_pairs_6 : decode cX8_pairs 6 = .ok (.iload_n 2, 1) := by decide +kernel
theorem dX8_pairs_7 : decode cX8_pairs 7 = .ok (.iconst 1, 1) := by decide +kernel
theorem dX8_pairs_8 : decode cX8_pairs 8 = .ok (.invokevirtual 216, 3) := by decide +kernel
theorem dX8_pairs_11 : decode cX8_pairs 11 = .ok (.aload_n 0, 1) := by decide +kernel
theorem dX8_pairs_12 : decode cX8_pairs 12 = .ok (.getfield 68, 3) := by decide +kernel
theorem dX8_pairs_15 : decode cX8_pairs 15 = .ok (.aload_n 0, 1) := by decide +kernel
theorem dX8_pairs_16 : decode cX8_pairs 16 = .ok (.getfield 44, 3) := by decide +kernel
theorem dX8_pairs_19 : decode cX8_pairs 19 = .ok (.iload_n 1, 1) := by decide +kernel
theorem dX8_pairs_20 : decode cX8_pairs 20 = .ok (.aload_n 0, 1) := by decide +kernel
theorem dX8_pairs_21 : decode cX8_pairs 21 = .ok (.getfield 44, 3) := by decide +kernel
theorem dX8_pairs_24 : decode cX8_pairs 24 = .ok (.getfield 315, 3) := by decide +kernel
theorem dX8_pairs_27 : decode cX8_pairs 27 = .ok (.invokevirtual 316, 3) := by decide +kernel
theorem dX8_pairs_30 : decode cX8_pairs 30 = .ok (.iload_n 2, 1) := by decide +kernel
theorem dX8_pairs_31 : decode cX8_pairs 31 = .ok (.ifCond .ne 13, 3) := by decide +kernel
theorem dX8_pairs_34 : decode cX8_pairs 34 = .ok (.aload_n 0, 1) := by decide +kernel
theorem dX8_pairs_35 : decode cX8_pairs 35 = .ok (.getfield 68, 3) := by decide +kernel
theorem dX8_pairs_38 : decode cX8_pairs 38 = .ok (.invokevirtual 319, 3) := by decide +kernel
theorem dX8_pairs_41 : decode cX8_pairs 41 = .ok (.goto 10, 3) := by decide +kernel
theorem dX8_pairs_44 : decode cX8_pairs 44 = .ok (.aload_n 0, 1) := by decide +kernel
theorem dX8_pairs_45 : decode cX8_pairs 45 = .ok (.getfield 68, 3) := by decide +kernel
theorem dX8_pairs_48 : decode cX8_pairs 48 = .ok (.invokevirtual 322, 3) := by decide +kernel
theorem dX8_pairs_51 : decode cX8_pairs 51 = .ok (.ireturn, 1) := by decide +kernel
theorem dX8_edge_0 : decode cX8_edge 0 = .ok (.aload_n 0, 1) := by decide +kernel
theorem dX8_edge_1 : decode cX8_edge 1 = .ok (.iload_n 1, 1) := by decide +kernel
theorem dX8_edge_2 : decode cX8_edge 2 = .ok (.invokevirtual 143, 3) := by decide +kernel
theorem dX8_edge_5 : decode cX8_edge 5 = .ok (.aload_n 0, 1) := by decide +kernel
theorem dX8_edge_6 : decode cX8_edge 6 = .ok (.iload_n 2, 1) := by decide +kernel
theorem dX8_edge_7 : decode cX8_edge 7 = .ok (.iconst 1, 1) := by decide +kernel
theorem dX8_edge_8 : decode cX8_edge 8 = .ok (.invokevirtual 216, 3) := by decide +kernel
theorem dX8_edge_11 : decode cX8_edge 11 = .ok (.bipush 8, 2) := by decide +kernel
theorem dX8_edge_13 : decode cX8_edge 13 = .ok (.istore_n 3, 1) := by decide +kernel
theorem dX8_edge_14 : decode cX8_edge 14 = .ok (.iload_n 3, 1) := by decide +kernel
theorem dX8_edge_15 : decode cX8_edge 15 = .ok (.iconst 1, 1) := by decide +kernel
theorem dX8_edge_16 : decode cX8_edge 16 = .ok (.if_icmp .lt 48, 3) := by decide +kernel
theorem dX8_edge_19 : decode cX8_edge 19 = .ok (.aload_n 0, 1) := by decide +kernel
theorem dX8_edge_20 : decode cX8_edge 20 = .ok (.getfield 68, 3) := by decide +kernel
theorem dX8_edge_23 : decode cX8_edge 23 = .ok (.aload_n 0, 1) := by decide +kernel
theorem dX8_edge_24 : decode cX8_edge 24 = .ok (.getfield 44, 3) := by decide +kernel
theorem dX8_edge_27 : decode cX8_edge 27 = .ok (.iload_n 1, 1) := by decide +kernel
theorem dX8_edge_28 : decode cX8_edge 28 = .ok (.iload_n 3, 1) := by decide +kernel
theorem dX8_edge_29 : decode cX8_edge 29 = .ok (.invokevirtual 316, 3) := by decide +kernel
theorem dX8_edge_32 : decode cX8_edge 32 = .ok (.iload_n 2, 1) := by decide +kernel
theorem dX8_edge_33 : decode cX8_edge 33 = .ok (.ifCond .ne 13, 3) := by decide +kernel
theorem dX8_edge_36 : decode cX8_edge 36 = .ok (.aload_n 0, 1) := by decide +kernel
theorem dX8_edge_37 : decode cX8_edge 37 = .ok (.getfield 68, 3) := by decide +kernel
theorem dX8_edge_40 : decode cX8_edge 40 = .ok (.invokevirtual 319, 3) := by decide +kernel
theorem dX8_edge_43 : decode cX8_edge 43 = .ok (.goto 10, 3) := by decide +kernel
theorem dX8_edge_46 : decode cX8_edge 46 = .ok (.aload_n 0, 1) := by decide +kernel
theorem dX8_edge_47 : decode cX8_edge 47 = .ok (.getfield 68, 3) := by decide +kernel
theorem dX8_edge_50 : decode cX8_edge 50 = .ok (.invokevirtual 322, 3) := by decide +kernel
theorem dX8_edge_53 : decode cX8_edge 53 = .ok (.ifCond .le 5, 3) := by decide +kernel
theorem dX8_edge_56 : decode cX8_edge 56 = .ok (.iload_n 3, 1) := by decide +kernel
theorem dX8_edge_57 : decode cX8_edge 57 = .ok (.ireturn, 1) := by decide +kernel
theorem dX8_edge_58 : decode cX8_edge 58 = .ok (.iinc 3 (-1), 3) := by decide +kernel
theorem dX8_edge_61 : decode cX8_edge 61 = .ok (.goto (-47), 3) := by decide +kernel
theorem dX8_edge_64 : decode cX8_edge 64 = .ok (.iconst 0, 1) := by decide +kernel
theorem dX8_edge_65 : decode cX8_edge 65 = .ok (.ireturn, 1) := by decide +kernel
theorem dX8_needStake_0 : decode cX8_needStake 0 = .ok (.iload_n 1, 1) := by decide +kernel
theorem dX8_needStake_1 : decode cX8_needStake 1 = .ok (.iconst 1, 1) := by decide +kernel
theorem dX8_needStake_2 : decode cX8_needStake 2 = .ok (.if_icmp .lt 9, 3) := by decide +kernel
theorem dX8_needStake_5 : decode cX8_needStake 5 = .ok (.iload_n 1, 1) := by decide +kernel
theorem dX8_needStake_6 : decode cX8_needStake 6 = .ok (.bipush 99, 2) := by decide +kernel
theorem dX8_needStake_8 : decode cX8_needStake 8 = .ok (.if_icmp .le 14, 3) := by decide +kernel
theorem dX8_needStake_11 : decode cX8_needStake 11 = .ok (.new 96, 3) := by decide +kernel
theorem dX8_needStake_14 : decode cX8_needStake 14 = .ok (.dup, 1) := by decide +kernel
theorem dX8_needStake_15 : decode cX8_needStake 15 = .ok (.ldc_w 378, 3) := by decide +kernel
theorem dX8_needStake_18 : decode cX8_needStake 18 = .ok (.invokespecial 100, 3) := by decide +kernel
theorem dX8_needStake_21 : decode cX8_needStake 21 = .ok (.athrow, 1) := by decide +kernel
theorem dX8_needStake_22 : decode cX8_needStake 22 = .ok (.return_, 1) := by decide +kernel
theorem dX8_rest_0 : decode cX8_rest 0 = .ok (.aload_n 0, 1) := by decide +kernel
theorem dX8_rest_1 : decode cX8_rest 1 = .ok (.iload_n 1, 1) := by decide +kernel
theorem dX8_rest_2 : decode cX8_rest 2 = .ok (.invokevirtual 140, 3) := by decide +kernel
theorem dX8_rest_5 : decode cX8_rest 5 = .ok (.aload_n 0, 1) := by decide +kernel
theorem dX8_rest_6 : decode cX8_rest 6 = .ok (.iload_n 2, 1) := by decide +kernel
theorem dX8_rest_7 : decode cX8_rest 7 = .ok (.invokevirtual 325, 3) := by decide +kernel
theorem dX8_rest_10 : decode cX8_rest 10 = .ok (.aload_n 0, 1) := by decide +kernel
theorem dX8_rest_11 : decode cX8_rest 11 = .ok (.iload_n 3, 1) := by decide +kernel
theorem dX8_rest_12 : decode cX8_rest 12 = .ok (.invokevirtual 325, 3) := by decide +kernel
theorem dX8_rest_15 : decode cX8_rest 15 = .ok (.aload_n 0, 1) := by decide +kernel
theorem dX8_rest_16 : decode cX8_rest 16 = .ok (.iload 4, 2) := by decide +kernel
theorem dX8_rest_18 : decode cX8_rest 18 = .ok (.invokevirtual 325, 3) := by decide +kernel
theorem dX8_rest_21 : decode cX8_rest 21 = .ok (.aload_n 0, 1) := by decide +kernel
theorem dX8_rest_22 : decode cX8_rest 22 = .ok (.iload 5, 2) := by decide +kernel
theorem dX8_rest_24 : decode cX8_rest 24 = .ok (.invokevirtual 325, 3) := by decide +kernel
theorem dX8_rest_27 : decode cX8_rest 27 = .ok (.aload_n 0, 1) := by decide +kernel
theorem dX8_rest_28 : decode cX8_rest 28 = .ok (.iload 6, 2) := by decide +kernel
theorem dX8_rest_30 : decode cX8_rest 30 = .ok (.iconst 1, 1) := by decide +kernel
theorem dX8_rest_31 : decode cX8_rest 31 = .ok (.invokevirtual 216, 3) := by decide +kernel
theorem dX8_rest_34 : decode cX8_rest 34 = .ok (.bipush 10, 2) := by decide +kernel
theorem dX8_rest_36 : decode cX8_rest 36 = .ok (.aload_n 0, 1) := by decide +kernel
theorem dX8_rest_37 : decode cX8_rest 37 = .ok (.getfield 23, 3) := by decide +kernel
theorem dX8_rest_40 : decode cX8_rest 40 = .ok (.getfield 156, 3) := by decide +kernel
theorem dX8_rest_43 : decode cX8_rest 43 = .ok (.iload_n 1, 1) := by decide +kernel
theorem dX8_rest_44 : decode cX8_rest 44 = .ok (.iaload, 1) := by decide +kernel
theorem dX8_rest_45 : decode cX8_rest 45 = .ok (.isub, 1) := by decide +kernel
theorem dX8_rest_46 : decode cX8_rest 46 = .ok (.istore 7, 2) := by decide +kernel
theorem dX8_rest_48 : decode cX8_rest 48 = .ok (.iload 6, 2) := by decide +kernel
theorem dX8_rest_50 : decode cX8_rest 50 = .ok (.ifCond .ne 7, 3) := by decide +kernel
theorem dX8_rest_53 : decode cX8_rest 53 = .ok (.iload_n 2, 1) := by decide +kernel
theorem dX8_rest_54 : decode cX8_rest 54 = .ok (.goto 5, 3) := by decide +kernel
theorem dX8_rest_57 : decode cX8_rest 57 = .ok (.iload 4, 2) := by decide +kernel
theorem dX8_rest_59 : decode cX8_rest 59 = .ok (.istore 8, 2) := by decide +kernel
theorem dX8_rest_61 : decode cX8_rest 61 = .ok (.iload 7, 2) := by decide +kernel
theorem dX8_rest_63 : decode cX8_rest 63 = .ok (.iload 6, 2) := by decide +kernel
theorem dX8_rest_65 : decode cX8_rest 65 = .ok (.ifCond .ne 9, 3) := by decide +kernel
theorem dX8_rest_68 : decode cX8_rest 68 = .ok (.iload_n 2, 1) := by decide +kernel
theorem dX8_rest_69 : decode cX8_rest 69 = .ok (.iload_n 3, 1) := by decide +kernel
theorem dX8_rest_70 : decode cX8_rest 70 = .ok (.iadd, 1) := by decide +kernel
theorem dX8_rest_71 : decode cX8_rest 71 = .ok (.goto 5, 3) := by decide +kernel
theorem dX8_rest_74 : decode cX8_rest 74 = .ok (.iload 5, 2) := by decide +kernel
theorem dX8_rest_76 : decode cX8_rest 76 = .ok (.imul, 1) := by decide +kernel
theorem dX8_rest_77 : decode cX8_rest 77 = .ok (.istore 9, 2) := by decide +kernel
theorem dX8_rest_79 : decode cX8_rest 79 = .ok (.iload 9, 2) := by decide +kernel
theorem dX8_rest_81 : decode cX8_rest 81 = .ok (.ifCond .gt 9, 3) := by decide +kernel
theorem dX8_rest_84 : decode cX8_rest 84 = .ok (.sipush 1000, 3) := by decide +kernel
theorem dX8_rest_87 : decode cX8_rest 87 = .ok (.goto 18, 3) := by decide +kernel
theorem dX8_rest_90 : decode cX8_rest 90 = .ok (.sipush 1000, 3) := by decide +kernel
theorem dX8_rest_93 : decode cX8_rest 93 = .ok (.sipush 10000, 3) := by decide +kernel
theorem dX8_rest_96 : decode cX8_rest 96 = .ok (.iload 8, 2) := by decide +kernel
theorem dX8_rest_98 : decode cX8_rest 98 = .ok (.imul, 1) := by decide +kernel
theorem dX8_rest_99 : decode cX8_rest 99 = .ok (.iload 9, 2) := by decide +kernel
theorem dX8_rest_101 : decode cX8_rest 101 = .ok (.idiv, 1) := by decide +kernel
theorem dX8_rest_102 : decode cX8_rest 102 = .ok (.invokestatic 328, 3) := by decide +kernel
theorem dX8_rest_105 : decode cX8_rest 105 = .ok (.ireturn, 1) := by decide +kernel
theorem dX8_once_0 : decode cX8_once 0 = .ok (.aload_n 0, 1) := by decide +kernel
theorem dX8_once_1 : decode cX8_once 1 = .ok (.iload_n 1, 1) := by decide +kernel
theorem dX8_once_2 : decode cX8_once 2 = .ok (.invokevirtual 143, 3) := by decide +kernel
theorem dX8_once_5 : decode cX8_once 5 = .ok (.aload_n 0, 1) := by decide +kernel
theorem dX8_once_6 : decode cX8_once 6 = .ok (.getfield 68, 3) := by decide +kernel
theorem dX8_once_9 : decode cX8_once 9 = .ok (.aload_n 0, 1) := by decide +kernel
theorem dX8_once_10 : decode cX8_once 10 = .ok (.getfield 44, 3) := by decide +kernel
theorem dX8_once_13 : decode cX8_once 13 = .ok (.iload_n 1, 1) := by decide +kernel
theorem dX8_once_14 : decode cX8_once 14 = .ok (.aload_n 0, 1) := by decide +kernel
theorem dX8_once_15 : decode cX8_once 15 = .ok (.getfield 44, 3) := by decide +kernel
theorem dX8_once_18 : decode cX8_once 18 = .ok (.getfield 315, 3) := by decide +kernel
theorem dX8_once_21 : decode cX8_once 21 = .ok (.invokevirtual 316, 3) := by decide +kernel
theorem dX8_once_24 : decode cX8_once 24 = .ok (.aload_n 0, 1) := by decide +kernel
theorem dX8_once_25 : decode cX8_once 25 = .ok (.getfield 68, 3) := by decide +kernel
theorem dX8_once_28 : decode cX8_once 28 = .ok (.invokevirtual 333, 3) := by decide +kernel
theorem dX8_once_31 : decode cX8_once 31 = .ok (.ireturn, 1) := by decide +kernel
theorem dX8_calm_0 : decode cX8_calm 0 = .ok (.aload_n 0, 1) := by decide +kernel
theorem dX8_calm_1 : decode cX8_calm 1 = .ok (.iload_n 1, 1) := by decide +kernel
theorem dX8_calm_2 : decode cX8_calm 2 = .ok (.invokevirtual 143, 3) := by decide +kernel
theorem dX8_calm_5 : decode cX8_calm 5 = .ok (.aload_n 0, 1) := by decide +kernel
theorem dX8_calm_6 : decode cX8_calm 6 = .ok (.iload_n 2, 1) := by decide +kernel
theorem dX8_calm_7 : decode cX8_calm 7 = .ok (.iconst 1, 1) := by decide +kernel
theorem dX8_calm_8 : decode cX8_calm 8 = .ok (.invokevirtual 216, 3) := by decide +kernel
theorem dX8_calm_11 : decode cX8_calm 11 = .ok (.aload_n 0, 1) := by decide +kernel
theorem dX8_calm_12 : decode cX8_calm 12 = .ok (.getfield 68, 3) := by decide +kernel
theorem dX8_calm_15 : decode cX8_calm 15 = .ok (.aload_n 0, 1) := by decide +kernel
theorem dX8_calm_16 : decode cX8_calm 16 = .ok (.getfield 44, 3) := by decide +kernel
theorem dX8_calm_19 : decode cX8_calm 19 = .ok (.iload_n 1, 1) := by decide +kernel
theorem dX8_calm_20 : decode cX8_calm 20 = .ok (.aload_n 0, 1) := by decide +kernel
theorem dX8_calm_21 : decode cX8_calm 21 = .ok (.getfield 44, 3) := by decide +kernel
theorem dX8_calm_24 : decode cX8_calm 24 = .ok (.getfield 315, 3) := by decide +kernel
theorem dX8_calm_27 : decode cX8_calm 27 = .ok (.invokevirtual 316, 3) := by decide +kernel
theorem dX8_calm_30 : decode cX8_calm 30 = .ok (.aload_n 0, 1) := by decide +kernel
theorem dX8_calm_31 : decode cX8_calm 31 = .ok (.getfield 68, 3) := by decide +kernel
theorem dX8_calm_34 : decode cX8_calm 34 = .ok (.invokevirtual 336, 3) := by decide +kernel
theorem dX8_calm_37 : decode cX8_calm 37 = .ok (.istore_n 3, 1) := by decide +kernel
theorem dX8_calm_38 : decode cX8_calm 38 = .ok (.iload_n 2, 1) := by decide +kernel
theorem dX8_calm_39 : decode cX8_calm 39 = .ok (.ifCond .ne 10, 3) := by decide +kernel
theorem dX8_calm_42 : decode cX8_calm 42 = .ok (.iload_n 3, 1) := by decide +kernel
theorem dX8_calm_43 : decode cX8_calm 43 = .ok (.invokestatic 162, 3) := by decide +kernel
theorem dX8_calm_46 : decode cX8_calm 46 = .ok (.goto 4, 3) := by decide +kernel
theorem dX8_calm_49 : decode cX8_calm 49 = .ok (.iload_n 3, 1) := by decide +kernel
theorem dX8_calm_50 : decode cX8_calm 50 = .ok (.ireturn, 1) := by decide +kernel
theorem dX8_family_0 : decode cX8_family 0 = .ok (.iload_n 1, 1) := by decide +kernel
theorem dX8_family_1 : decode cX8_family 1 = .ok (.iconst (-1), 1) := by decide +kernel
theorem dX8_family_2 : decode cX8_family 2 = .ok (.if_icmp .eq 22, 3) := by decide +kernel
theorem dX8_family_5 : decode cX8_family 5 = .ok (.aload_n 0, 1) := by decide +kernel
theorem dX8_family_6 : decode cX8_family 6 = .ok (.iload_n 1, 1) := by decide +kernel
theorem dX8_family_7 : decode cX8_family 7 = .ok (.invokevirtual 339, 3) := by decide +kernel
theorem dX8_family_10 : decode cX8_family 10 = .ok (.ifCond .ne 14, 3) := by decide +kernel
theorem dX8_family_13 : decode cX8_family 13 = .ok (.new 96, 3) := by decide +kernel
theorem dX8_family_16 : decode cX8_family 16 = .ok (.dup, 1) := by decide +kernel
theorem dX8_family_17 : decode cX8_family 17 = .ok (.ldc_w 342, 3) := by decide +kernel
theorem dX8_family_20 : decode cX8_family 20 = .ok (.invokespecial 100, 3) := by decide +kernel
theorem dX8_family_23 : decode cX8_family 23 = .ok (.athrow, 1) := by decide +kernel
theorem dX8_family_24 : decode cX8_family 24 = .ok (.iload_n 1, 1) := by decide +kernel
theorem dX8_family_25 : decode cX8_family 25 = .ok (.iconst (-1), 1) := by decide +kernel
theorem dX8_family_26 : decode cX8_family 26 = .ok (.if_icmp .ne 13, 3) := by decide +kernel
theorem dX8_family_29 : decode cX8_family 29 = .ok (.aload_n 0, 1) := by decide +kernel
theorem dX8_family_30 : decode cX8_family 30 = .ok (.getfield 23, 3) := by decide +kernel
theorem dX8_family_33 : decode cX8_family 33 = .ok (.invokevirtual 344, 3) := by decide +kernel
theorem dX8_family_36 : decode cX8_family 36 = .ok (.goto 14, 3) := by decide +kernel
theorem dX8_family_39 : decode cX8_family 39 = .ok (.aload_n 0, 1) := by decide +kernel
theorem dX8_family_40 : decode cX8_family 40 = .ok (.getfield 23, 3) := by decide +kernel
theorem dX8_family_43 : decode cX8_family 43 = .ok (.iload_n 1, 1) := by decide +kernel
theorem dX8_family_44 : decode cX8_family 44 = .ok (.invokevirtual 347, 3) := by decide +kernel
theorem dX8_family_47 : decode cX8_family 47 = .ok (.invokestatic 162, 3) := by decide +kernel
theorem dX8_family_50 : decode cX8_family 50 = .ok (.ireturn, 1) := by decide +kernel
theorem dX8_starved_0 : decode cX8_starved 0 = .ok (.aload_n 0, 1) := by decide +kernel
theorem dX8_starved_1 : decode cX8_starved 1 = .ok (.iload_n 1, 1) := by decide +kernel
theorem dX8_starved_2 : decode cX8_starved 2 = .ok (.invokevirtual 286, 3) := by decide +kernel
theorem dX8_starved_5 : decode cX8_starved 5 = .ok (.aload_n 0, 1) := by decide +kernel
theorem dX8_starved_6 : decode cX8_starved 6 = .ok (.getfield 48, 3) := by decide +kernel
theorem dX8_starved_9 : decode cX8_starved 9 = .ok (.aload_n 0, 1) := by decide +kernel
theorem dX8_starved_10 : decode cX8_starved 10 = .ok (.getfield 44, 3) := by decide +kernel
theorem dX8_starved_13 : decode cX8_starved 13 = .ok (.invokevirtual 232, 3) := by decide +kernel
theorem dX8_starved_16 : decode cX8_starved 16 = .ok (.aload_n 0, 1) := by decide +kernel
theorem dX8_starved_17 : decode cX8_starved 17 = .ok (.getfield 77, 3) := by decide +kernel
theorem dX8_starved_20 : decode cX8_starved 20 = .ok (.iload_n 1, 1) := by decide +kernel
theorem dX8_starved_21 : decode cX8_starved 21 = .ok (.bipush 30, 2) := by decide +kernel
theorem dX8_starved_23 : decode cX8_starved 23 = .ok (.aload_n 0, 1) := by decide +kernel
theorem dX8_starved_24 : decode cX8_starved 24 = .ok (.getfield 44, 3) := by decide +kernel
theorem dX8_starved_27 : decode cX8_starved 27 = .ok (.getfield 204, 3) := by decide +kernel
theorem dX8_starved_30 : decode cX8_starved 30 = .ok (.isub, 1) := by decide +kernel
theorem dX8_starved_31 : decode cX8_starved 31 = .ok (.iconst 0, 1) := by decide +kernel
theorem dX8_starved_32 : decode cX8_starved 32 = .ok (.iconst 0, 1) := by decide +kernel
theorem dX8_starved_33 : decode cX8_starved 33 = .ok (.invokevirtual 292, 3) := by decide +kernel
theorem dX8_starved_36 : decode cX8_starved 36 = .ok (.aload_n 0, 1) := by decide +kernel
theorem dX8_starved_37 : decode cX8_starved 37 = .ok (.getfield 77, 3) := by decide +kernel
theorem dX8_starved_40 : decode cX8_starved 40 = .ok (.getfield 350, 3) := by decide +kernel
theorem dX8_starved_43 : decode cX8_starved 43 = .ok (.ireturn, 1) := by decide +kernel
theorem dX8_slack_0 : decode cX8_slack 0 = .ok (.aload_n 0, 1) := by decide +kernel
theorem dX8_slack_1 : decode cX8_slack 1 = .ok (.iload_n 1, 1) := by decide +kernel
theorem dX8_slack_2 : decode cX8_slack 2 = .ok (.invokevirtual 242, 3) := by decide +kernel
theorem dX8_slack_5 : decode cX8_slack 5 = .ok (.aload_n 0, 1) := by decide +kernel
theorem dX8_slack_6 : decode cX8_slack 6 = .ok (.iload_n 1, 1) := by decide +kernel
theorem dX8_slack_7 : decode cX8_slack 7 = .ok (.invokevirtual 245, 3) := by decide +kernel
theorem dX8_slack_10 : decode cX8_slack 10 = .ok (.aload_n 0, 1) := by decide +kernel
theorem dX8_slack_11 : decode cX8_slack 11 = .ok (.getfield 61, 3) := by decide +kernel
theorem dX8_slack_14 : decode cX8_slack 14 = .ok (.invokevirtual 248, 3) := by decide +kernel
theorem dX8_slack_17 : decode cX8_slack 17 = .ok (.istore_n 2, 1) := by decide +kernel
theorem dX8_slack_18 : decode cX8_slack 18 = .ok (.iload_n 2, 1) := by decide +kernel
theorem dX8_slack_19 : decode cX8_slack 19 = .ok (.ifCond .ne 5, 3) := by decide +kernel
theorem dX8_slack_22 : decode cX8_slack 22 = .ok (.iconst 0, 1) := by decide +kernel
theorem dX8_slack_23 : decode cX8_slack 23 = .ok (.ireturn, 1) := by decide +kernel
theorem dX8_slack_24 : decode cX8_slack 24 = .ok (.bipush 8, 2) := by decide +kernel
theorem dX8_slack_26 : decode cX8_slack 26 = .ok (.istore_n 3, 1) := by decide +kernel
theorem dX8_slack_27 : decode cX8_slack 27 = .ok (.iload_n 3, 1) := by decide +kernel
theorem dX8_slack_28 : decode cX8_slack 28 = .ok (.aload_n 0, 1) := by decide +kernel
theorem dX8_slack_29 : decode cX8_slack 29 = .ok (.getfield 23, 3) := by decide +kernel
theorem dX8_slack_32 : decode cX8_slack 32 = .ok (.getfield 125, 3) := by decide +kernel
theorem dX8_slack_35 : decode cX8_slack 35 = .ok (.if_icmp .le 41, 3) := by decide +kernel
theorem dX8_slack_38 : decode cX8_slack 38 = .ok (.aload_n 0, 1) := by decide +kernel
theorem dX8_slack_39 : decode cX8_slack 39 = .ok (.getfield 48, 3) := by decide +kernel
theorem dX8_slack_42 : decode cX8_slack 42 = .ok (.iload_n 3, 1) := by decide +kernel
theorem dX8_slack_43 : decode cX8_slack 43 = .ok (.putfield 315, 3) := by decide +kernel
theorem dX8_slack_46 : decode cX8_slack 46 = .ok (.aload_n 0, 1) := by decide +kernel
theorem dX8_slack_47 : decode cX8_slack 47 = .ok (.getfield 61, 3) := by decide +kernel
theorem dX8_slack_50 : decode cX8_slack 50 = .ok (.aload_n 0, 1) := by decide +kernel
theorem dX8_slack_51 : decode cX8_slack 51 = .ok (.getfield 48, 3) := by decide +kernel
theorem dX8_slack_54 : decode cX8_slack 54 = .ok (.invokevirtual 271, 3) := by decide +kernel
theorem dX8_slack_57 : decode cX8_slack 57 = .ok (.aload_n 0, 1) := by decide +kernel
theorem dX8_slack_58 : decode cX8_slack 58 = .ok (.getfield 61, 3) := by decide +kernel
theorem dX8_slack_61 : decode cX8_slack 61 = .ok (.invokevirtual 248, 3) := by decide +kernel
theorem dX8_slack_64 : decode cX8_slack 64 = .ok (.iload_n 2, 1) := by decide +kernel
theorem dX8_slack_65 : decode cX8_slack 65 = .ok (.if_icmp .ne 5, 3) := by decide +kernel
theorem dX8_slack_68 : decode cX8_slack 68 = .ok (.iload_n 3, 1) := by decide +kernel
theorem dX8_slack_69 : decode cX8_slack 69 = .ok (.ireturn, 1) := by decide +kernel
theorem dX8_slack_70 : decode cX8_slack 70 = .ok (.iinc 3 (-1), 3) := by decide +kernel
theorem dX8_slack_73 : decode cX8_slack 73 = .ok (.goto (-46), 3) := by decide +kernel
theorem dX8_slack_76 : decode cX8_slack 76 = .ok (.aload_n 0, 1) := by decide +kernel
theorem dX8_slack_77 : decode cX8_slack 77 = .ok (.getfield 23, 3) := by decide +kernel
theorem dX8_slack_80 : decode cX8_slack 80 = .ok (.getfield 125, 3) := by decide +kernel
theorem dX8_slack_83 : decode cX8_slack 83 = .ok (.ireturn, 1) := by decide +kernel
theorem dX8_firm_0 : decode cX8_firm 0 = .ok (.aload_n 0, 1) := by decide +kernel
theorem dX8_firm_1 : decode cX8_firm 1 = .ok (.iload_n 1, 1) := by decide +kernel
theorem dX8_firm_2 : decode cX8_firm 2 = .ok (.invokevirtual 140, 3) := by decide +kernel
theorem dX8_firm_5 : decode cX8_firm 5 = .ok (.aload_n 0, 1) := by decide +kernel
theorem dX8_firm_6 : decode cX8_firm 6 = .ok (.iload_n 2, 1) := by decide +kernel
theorem dX8_firm_7 : decode cX8_firm 7 = .ok (.invokevirtual 286, 3) := by decide +kernel
theorem dX8_firm_10 : decode cX8_firm 10 = .ok (.aload_n 0, 1) := by decide +kernel
theorem dX8_firm_11 : decode cX8_firm 11 = .ok (.iload_n 3, 1) := by decide +kernel
theorem dX8_firm_12 : decode cX8_firm 12 = .ok (.invokevirtual 289, 3) := by decide +kernel
theorem dX8_firm_15 : decode cX8_firm 15 = .ok (.aload_n 0, 1) := by decide +kernel
theorem dX8_firm_16 : decode cX8_firm 16 = .ok (.iload_n 2, 1) := by decide +kernel
theorem dX8_firm_17 : decode cX8_firm 17 = .ok (.iload_n 3, 1) := by decide +kernel
theorem dX8_firm_18 : decode cX8_firm 18 = .ok (.iload_n 1, 1) := by decide +kernel
theorem dX8_firm_19 : decode cX8_firm 19 = .ok (.invokevirtual 297, 3) := by decide +kernel
theorem dX8_firm_22 : decode cX8_firm 22 = .ok (.aload_n 0, 1) := by decide +kernel
theorem dX8_firm_23 : decode cX8_firm 23 = .ok (.iload_n 2, 1) := by decide +kernel
theorem dX8_firm_24 : decode cX8_firm 24 = .ok (.iload_n 3, 1) := by decide +kernel
theorem dX8_firm_25 : decode cX8_firm 25 = .ok (.iconst (-1), 1) := by decide +kernel
theorem dX8_firm_26 : decode cX8_firm 26 = .ok (.invokevirtual 297, 3) := by decide +kernel
theorem dX8_firm_29 : decode cX8_firm 29 = .ok (.isub, 1) := by decide +kernel
theorem dX8_firm_30 : decode cX8_firm 30 = .ok (.ireturn, 1) := by decide +kernel
theorem dX8_twoDays_0 : decode cX8_twoDays 0 = .ok (.aload_n 0, 1) := by decide +kernel
theorem dX8_twoDays_1 : decode cX8_twoDays 1 = .ok (.iload_n 1, 1) := by decide +kernel
theorem dX8_twoDays_2 : decode cX8_twoDays 2 = .ok (.iconst 2, 1) := by decide +kernel
theorem dX8_twoDays_3 : decode cX8_twoDays 3 = .ok (.invokevirtual 216, 3) := by decide +kernel
theorem dX8_twoDays_6 : decode cX8_twoDays 6 = .ok (.aload_n 0, 1) := by decide +kernel
theorem dX8_twoDays_7 : decode cX8_twoDays 7 = .ok (.getfield 84, 3) := by decide +kernel
theorem dX8_twoDays_10 : decode cX8_twoDays 10 = .ok (.aload_n 0, 1) := by decide +kernel
theorem dX8_twoDays_11 : decode cX8_twoDays 11 = .ok (.getfield 44, 3) := by decide +kernel
theorem dX8_twoDays_14 : decode cX8_twoDays 14 = .ok (.invokevirtual 353, 3) := by decide +kernel
theorem dX8_twoDays_17 : decode cX8_twoDays 17 = .ok (.aload_n 0, 1) := by decide +kernel
theorem dX8_twoDays_18 : decode cX8_twoDays 18 = .ok (.getfield 84, 3) := by decide +kernel
theorem dX8_twoDays_21 : decode cX8_twoDays 21 = .ok (.iload_n 1, 1) := by decide +kernel
theorem dX8_twoDays_22 : decode cX8_twoDays 22 = .ok (.invokevirtual 283, 3) := by decide +kernel
theorem dX8_twoDays_25 : decode cX8_twoDays 25 = .ok (.ireturn, 1) := by decide +kernel
def f8_putBytes_L3 (x1 : Int32) (K49 : zMem → zRes) : Nat → Int32 → zMem → zRes
  | 0, _, _ => none
  | n + 1, x2, μ => if x2 < 0 then K49 μ else zlet (fun (μ3 : zMem) => f8_putBytes_L3 x1 K49 n (x2 + (-8 : Int32)) μ3) (fun j4 => if (500 : Int32) ≤ (μ 0 1) then j4 μ else zin (μ 0 1) 500 (zlet (zset μ 1 (μ 0 1).toNatClampNeg ((zushr x1 x2) &&& (255 : Int32))) (fun (μ8 : zMem) => zlet (zset μ8 0 1 ((μ8 0 1) + (1 : Int32))) (fun (μ9 : zMem) => j4 μ9))))
def f8_putBytes (x1 : Int32) (μ : zMem) : zRes := f8_putBytes_L3 x1 (fun (μ10 : zMem) => some (0, 0, μ10)) zF (24 : Int32) μ
set_option maxHeartbeats 1000000 in
theorem t8_putBytes_L3 {g : Bool} (x1 : Int32) (K49 : zMem → zRes) (hK49 : ∀ (μ : zMem), zR yX8_putBytes cX8_putBytes 3 (none) 1 49 [.null, .null, .null] [] (nX g) (SX g) μ (K49 μ)) : ∀ (n : Nat) (x2 : Int32) (μ : zMem), zR yX8_putBytes cX8_putBytes 3 (none) 1 3 [.ref 0, .int x1, .int x2] [] (nX g) (SX g) μ (f8_putBytes_L3 x1 K49 n x2 μ) := by
  intro n
  induction n with
  | zero => intro x2 μ; intro q hq; cases hq
  | succ n ih =>
    intro x2 μ
    unfold f8_putBytes_L3
    refine z_iload_n (pc := 3) dX8_putBytes_3 rfl ?_
    refine z_if_lt (pc := 4) (tgt := 49) dX8_putBytes_4 (by decide) (fun c1 => ?_) (fun c2 => ?_)
    · refine z_loc (L' := [.null, .null, .null]) ⟨Or.inl rfl, ⟨Or.inl rfl, ⟨Or.inl rfl, trivial⟩⟩⟩ ?_
      exact hK49 μ
    · refine z_aload_n (pc := 7) dX8_putBytes_7 rfl ?_
      refine z_geti (pc := 8) fdX8_13 (nx_lt (by decide)) (sx_0 g) rfl dX8_putBytes_8 ?_
      refine z_sipush (pc := 11) (500 : Int32) dX8_putBytes_11 (by decide) ?_
      refine z_let (fun (j : zMem → zRes) => ∀ (μ3 : zMem), zR yX8_putBytes cX8_putBytes 3 (none) 1 43 [.ref 0, .int x1, .int x2] [] (nX g) (SX g) μ3 (j μ3)) ?_ (fun j4 hj4 => ?_)
      · intro μ3
        refine z_iinc (pc := 43) (v := x2 + (-8 : Int32)) (L' := [.ref 0, .int x1, .int (x2 + (-8 : Int32))]) dX8_putBytes_43 (by decide) rfl (congrArg _ (by decide)) rfl ?_
        refine z_goto (pc := 46) (tgt := 3) dX8_putBytes_46 (by decide) ?_
        exact ih (x2 + (-8 : Int32)) μ3
      · refine z_icmp_ge (pc := 14) (tgt := 43) dX8_putBytes_14 (by decide) (fun c5 => ?_) (fun c6 => ?_)
        · exact hj4 μ
        · refine z_aload_n (pc := 17) dX8_putBytes_17 rfl ?_
          refine z_getr (pc := 18) fdX8_9 (nx_lt (by decide)) (sx_0 g) rfl rfl dX8_putBytes_18 ?_
          refine z_aload_n (pc := 21) dX8_putBytes_21 rfl ?_
          refine z_geti (pc := 22) fdX8_13 (nx_lt (by decide)) (sx_0 g) rfl dX8_putBytes_22 ?_
          refine z_iload_n (pc := 25) dX8_putBytes_25 rfl ?_
          refine z_iload_n (pc := 26) dX8_putBytes_26 rfl ?_
          refine z_iushr (pc := 27) dX8_putBytes_27 ?_
          refine z_sipush (pc := 28) (255 : Int32) dX8_putBytes_28 (by decide) ?_
          refine z_iand (pc := 31) dX8_putBytes_31 ?_
          refine z_iast (pc := 32) (nx_lt (by decide)) (sx_1 g) rfl dX8_putBytes_32 (fun h7 => ?_)
          refine z_mem (fun μ8 => ?_)
          refine z_aload_n (pc := 33) dX8_putBytes_33 rfl ?_
          refine z_dup (pc := 34) dX8_putBytes_34 rfl ?_
          refine z_geti (pc := 35) fdX8_13 (nx_lt (by decide)) (sx_0 g) rfl dX8_putBytes_35 ?_
          refine z_iconst (pc := 38) (1 : Int32) dX8_putBytes_38 (by decide) ?_
          refine z_iadd (pc := 39) dX8_putBytes_39 ?_
          refine z_puti (pc := 40) fdX8_13 (nx_lt (by decide)) (sx_0 g) rfl rfl dX8_putBytes_40 ?_
          refine z_mem (fun μ9 => ?_)
          exact hj4 μ9
set_option maxHeartbeats 1000000 in
theorem t8_putBytes {g : Bool} (x1 : Int32) (μ : zMem) : zMR yX8_putBytes cX8_putBytes 3 (none) 1 [.ref 0, .int x1] (nX g) (SX g) μ (f8_putBytes x1 μ) := by
  refine zMR_of (by decide +kernel) rfl (Nat.le_of_ble_eq_true rfl) (L := [.ref 0, .int x1, .null]) rfl ?_
  unfold f8_putBytes
  refine z_bipush (pc := 0) (24 : Int32) dX8_putBytes_0 (by decide) ?_
  refine z_istore_n (pc := 2) (L' := [.ref 0, .int x1, .int (24 : Int32)]) dX8_putBytes_2 (by decide) rfl ?_
  refine t8_putBytes_L3 _ _ (fun μ10 => ?_) zF _ _
  · exact z_vret (pc := 49) rfl dX8_putBytes_49
def f8_feed (x1 : Int32) (x2 : Int32) (x3 : Int32) (x4 : Int32) (x5 : Int32) (μ : zMem) : zRes := if ((μ 0 1) + (20 : Int32)) ≤ (500 : Int32) then bnd0 (f8_putBytes x1 μ) (fun (v3 : Int32) (μ4 : zMem) => bnd0 (f8_putBytes x2 μ4) (fun (v5 : Int32) (μ6 : zMem) => bnd0 (f8_putBytes x3 μ6) (fun (v7 : Int32) (μ8 : zMem) => bnd0 (f8_putBytes x4 μ8) (fun (v9 : Int32) (μ10 : zMem) => bnd0 (f8_putBytes x5 μ10) (fun (v11 : Int32) (μ12 : zMem) => some (0, μ12 0 1, μ12)))))) else some (0, (-1 : Int32), μ)
set_option maxHeartbeats 1000000 in
theorem t8_feed {g : Bool} (x1 : Int32) (x2 : Int32) (x3 : Int32) (x4 : Int32) (x5 : Int32) (μ : zMem) : zMR yX8_feed cX8_feed 6 (some .int) 2 [.ref 0, .int x1, .int x2, .int x3, .int x4, .int x5] (nX g) (SX g) μ (f8_feed x1 x2 x3 x4 x5 μ) := by
  refine zMR_of (by decide +kernel) rfl (Nat.le_of_ble_eq_true rfl) (L := [.ref 0, .int x1, .int x2, .int x3, .int x4, .int x5]) rfl ?_
  unfold f8_feed
  refine z_aload_n (pc := 0) dX8_feed_0 rfl ?_
  refine z_geti (pc := 1) fdX8_13 (nx_lt (by decide)) (sx_0 g) rfl dX8_feed_1 ?_
  refine z_bipush (pc := 4) (20 : Int32) dX8_feed_4 (by decide) ?_
  refine z_iadd (pc := 6) dX8_feed_6 ?_
  refine z_sipush (pc := 7) (500 : Int32) dX8_feed_7 (by decide) ?_
  refine z_icmp_le (pc := 10) (tgt := 15) dX8_feed_10 (by decide) (fun c1 => ?_) (fun c2 => ?_)
  · refine z_aload_n (pc := 15) dX8_feed_15 rfl ?_
    refine z_iload_n (pc := 16) dX8_feed_16 rfl ?_
    refine z_callV (As := [.int x1]) (pc := 17) (ret' := none) kvX8_92 (t8_putBytes _ _) (by decide) (nx_lt (by decide)) (sx_0 g)  rfl rfl (Nat.le_of_ble_eq_true rfl) dX8_feed_17 (fun v3 μ4 => ?_)
    refine z_aload_n (pc := 20) dX8_feed_20 rfl ?_
    refine z_iload_n (pc := 21) dX8_feed_21 rfl ?_
    refine z_callV (As := [.int x2]) (pc := 22) (ret' := none) kvX8_92 (t8_putBytes _ _) (by decide) (nx_lt (by decide)) (sx_0 g)  rfl rfl (Nat.le_of_ble_eq_true rfl) dX8_feed_22 (fun v5 μ6 => ?_)
    refine z_aload_n (pc := 25) dX8_feed_25 rfl ?_
    refine z_iload_n (pc := 26) dX8_feed_26 rfl ?_
    refine z_callV (As := [.int x3]) (pc := 27) (ret' := none) kvX8_92 (t8_putBytes _ _) (by decide) (nx_lt (by decide)) (sx_0 g)  rfl rfl (Nat.le_of_ble_eq_true rfl) dX8_feed_27 (fun v7 μ8 => ?_)
    refine z_aload_n (pc := 30) dX8_feed_30 rfl ?_
    refine z_iload (pc := 31) dX8_feed_31 rfl ?_
    refine z_callV (As := [.int x4]) (pc := 33) (ret' := none) kvX8_92 (t8_putBytes _ _) (by decide) (nx_lt (by decide)) (sx_0 g)  rfl rfl (Nat.le_of_ble_eq_true rfl) dX8_feed_33 (fun v9 μ10 => ?_)
    refine z_aload_n (pc := 36) dX8_feed_36 rfl ?_
    refine z_iload (pc := 37) dX8_feed_37 rfl ?_
    refine z_callV (As := [.int x5]) (pc := 39) (ret' := none) kvX8_92 (t8_putBytes _ _) (by decide) (nx_lt (by decide)) (sx_0 g)  rfl rfl (Nat.le_of_ble_eq_true rfl) dX8_feed_39 (fun v11 μ12 => ?_)
    refine z_aload_n (pc := 42) dX8_feed_42 rfl ?_
    refine z_geti (pc := 43) fdX8_13 (nx_lt (by decide)) (sx_0 g) rfl dX8_feed_43 ?_
    exact z_iret (pc := 46) rfl dX8_feed_46
  · refine z_iconst (pc := 13) (-1 : Int32) dX8_feed_13 (by decide) ?_
    exact z_iret (pc := 14) rfl dX8_feed_14
def f8_fault (μ : zMem) : zRes := some (0, μ 0 2, μ)
set_option maxHeartbeats 1000000 in
theorem t8_fault {g : Bool} (μ : zMem) : zMR yX8_fault cX8_fault 1 (some .int) 1 [.ref 0] (nX g) (SX g) μ (f8_fault μ) := by
  refine zMR_of (by decide +kernel) rfl (Nat.le_of_ble_eq_true rfl) (L := [.ref 0]) rfl ?_
  unfold f8_fault
  refine z_aload_n (pc := 0) dX8_fault_0 rfl ?_
  refine z_geti (pc := 1) fdX8_17 (nx_lt (by decide)) (sx_0 g) rfl dX8_fault_1 ?_
  exact z_iret (pc := 4) rfl dX8_fault_4
def f8_clear (μ : zMem) : zRes := zlet (μ 23 9) (fun (v1 : Int32) => zlet (zset μ 23 9 (0 : Int32)) (fun (μ2 : zMem) => some (0, v1, μ2)))
set_option maxHeartbeats 1000000 in
theorem t8_clear {g : Bool} (μ : zMem) : zMR yX8_clear cX8_clear 2 (some .int) 1 [.ref 0] (nX g) (SX g) μ (f8_clear μ) := by
  refine zMR_of (by decide +kernel) rfl (Nat.le_of_ble_eq_true rfl) (L := [.ref 0, .null]) rfl ?_
  unfold f8_clear
  refine z_aload_n (pc := 0) dX8_clear_0 rfl ?_
  refine z_getr (pc := 1) fdX8_44 (nx_lt (by decide)) (sx_0 g) rfl rfl dX8_clear_1 ?_
  refine z_geti (pc := 4) fdX8_223 (nx_lt (by decide)) (sx_23 g) rfl dX8_clear_4 ?_
  refine z_val (fun v1 => ?_)
  refine z_istore_n (pc := 7) (L' := [.ref 0, .int v1]) dX8_clear_7 (by decide) rfl ?_
  refine z_aload_n (pc := 8) dX8_clear_8 rfl ?_
  refine z_getr (pc := 9) fdX8_44 (nx_lt (by decide)) (sx_0 g) rfl rfl dX8_clear_9 ?_
  refine z_iconst (pc := 12) (0 : Int32) dX8_clear_12 (by decide) ?_
  refine z_puti (pc := 13) fdX8_223 (nx_lt (by decide)) (sx_23 g) rfl rfl dX8_clear_13 ?_
  refine z_mem (fun μ2 => ?_)
  refine z_iload_n (pc := 16) dX8_clear_16 rfl ?_
  exact z_iret (pc := 17) rfl dX8_clear_17
def f8_planToday (x1 : Int32) (μ : zMem) : zRes := bnd0 (f5_copyWorld 28 23 μ) (fun (v1 : Int32) (μ2 : zMem) => zlet (fun (μ3 : zMem) => bnd0 (f2_make μ3) (fun (v4 : Int32) (μ5 : zMem) => some (0, 0, μ5))) (fun j6 => if x1 = (-1 : Int32) then j6 μ2 else zlet (zset μ2 28 2 x1) (fun (μ9 : zMem) => j6 μ9)))
set_option maxHeartbeats 1000000 in
theorem t8_planToday {g : Bool} (x1 : Int32) (μ : zMem) : zMR yX8_planToday cX8_planToday 2 (none) 5 [.ref 0, .int x1] (nX g) (SX g) μ (f8_planToday x1 μ) := by
  refine zMR_of (by decide +kernel) rfl (Nat.le_of_ble_eq_true rfl) (L := [.ref 0, .int x1]) rfl ?_
  unfold f8_planToday
  refine z_aload_n (pc := 0) dX8_planToday_0 rfl ?_
  refine z_getr (pc := 1) fdX8_48 (nx_lt (by decide)) (sx_0 g) rfl rfl dX8_planToday_1 ?_
  refine z_aload_n (pc := 4) dX8_planToday_4 rfl ?_
  refine z_getr (pc := 5) fdX8_44 (nx_lt (by decide)) (sx_0 g) rfl rfl dX8_planToday_5 ?_
  refine z_callV (As := [.ref 23]) (pc := 8) (ret' := none) kvX8_232 (t5_copyWorld zSc_28 zSc_23 _) (by decide) (nx_lt (by decide)) (sx_28 g)  rfl rfl (Nat.le_of_ble_eq_true rfl) dX8_planToday_8 (fun v1 μ2 => ?_)
  refine z_iload_n (pc := 11) dX8_planToday_11 rfl ?_
  refine z_iconst (pc := 12) (-1 : Int32) dX8_planToday_12 (by decide) ?_
  refine z_let (fun (j : zMem → zRes) => ∀ (μ3 : zMem), zR yX8_planToday cX8_planToday 2 (none) 5 24 [.ref 0, .null] [] (nX g) (SX g) μ3 (j μ3)) ?_ (fun j6 hj6 => ?_)
  · intro μ3
    refine z_aload_n (pc := 24) dX8_planToday_24 rfl ?_
    refine z_getr (pc := 25) fdX8_61 (nx_lt (by decide)) (sx_0 g) rfl rfl dX8_planToday_25 ?_
    refine z_aload_n (pc := 28) dX8_planToday_28 rfl ?_
    refine z_getr (pc := 29) fdX8_48 (nx_lt (by decide)) (sx_0 g) rfl rfl dX8_planToday_29 ?_
    refine z_callV (As := [.ref 28]) (pc := 32) (ret' := none) kvX8_271 (t2_make _) (by decide) (nx_lt (by decide)) (sx_49 g)  rfl rfl (Nat.le_of_ble_eq_true rfl) dX8_planToday_32 (fun v4 μ5 => ?_)
    exact z_vret (pc := 35) rfl dX8_planToday_35
  · refine z_icmp_eq (pc := 13) (tgt := 24) dX8_planToday_13 (by decide) (fun c7 => ?_) (fun c8 => ?_)
    · refine z_loc (L' := [.ref 0, .null]) ⟨Or.inr rfl, ⟨Or.inl rfl, trivial⟩⟩ ?_
      exact hj6 μ2
    · refine z_aload_n (pc := 16) dX8_planToday_16 rfl ?_
      refine z_getr (pc := 17) fdX8_48 (nx_lt (by decide)) (sx_0 g) rfl rfl dX8_planToday_17 ?_
      refine z_iload_n (pc := 20) dX8_planToday_20 rfl ?_
      refine z_puti (pc := 21) fdX8_380 (nx_lt (by decide)) (sx_28 g) rfl rfl dX8_planToday_21 ?_
      refine z_mem (fun μ9 => ?_)
      refine z_loc (L' := [.ref 0, .null]) ⟨Or.inr rfl, ⟨Or.inl rfl, trivial⟩⟩ ?_
      exact hj6 μ9
def f8_choose_L6 (K49 : Int32 → zMem → zRes) : Nat → Int32 → Int32 → Int32 → zMem → zRes
  | 0, _, _, _, _ => none
  | n + 1, x1, x2, x3, μ => if (μ 2 0) ≤ x3 then K49 x1 μ else bnd0 (f8_planToday x3 μ) (fun (v3 : Int32) (μ4 : zMem) => bnd0 (f2_worthAtMost μ4) (fun (v5 : Int32) (μ6 : zMem) => zlet (fun (x1_7 : Int32) (x2_8 : Int32) (μ9 : zMem) => f8_choose_L6 K49 n x1_7 x2_8 (x3 + (1 : Int32)) μ9) (fun j10 => if v5 ≤ x2 then j10 x1 x2 μ6 else bnd0 (f2_worthAtMost μ6) (fun (v13 : Int32) (μ14 : zMem) => j10 x3 v13 μ14))))
def f8_choose (μ : zMem) : zRes := f8_choose_L6 (fun (x1_15 : Int32) (μ16 : zMem) => some (0, x1_15, μ16)) zF (-1 : Int32) (-1 : Int32) (0 : Int32) μ
set_option maxHeartbeats 1000000 in
theorem t8_choose_L6 {g : Bool} (K49 : Int32 → zMem → zRes) (hK49 : ∀ (x1 : Int32) (μ : zMem), zR yX8_choose cX8_choose 4 (some .int) 6 49 [.null, .int x1, .null, .null] [] (nX g) (SX g) μ (K49 x1 μ)) : ∀ (n : Nat) (x1 : Int32) (x2 : Int32) (x3 : Int32) (μ : zMem), zR yX8_choose cX8_choose 4 (some .int) 6 6 [.ref 0, .int x1, .int x2, .int x3] [] (nX g) (SX g) μ (f8_choose_L6 K49 n x1 x2 x3 μ) := by
  intro n
  induction n with
  | zero => intro x1 x2 x3 μ; intro q hq; cases hq
  | succ n ih =>
    intro x1 x2 x3 μ
    unfold f8_choose_L6
    refine z_iload_n (pc := 6) dX8_choose_6 rfl ?_
    refine z_aload_n (pc := 7) dX8_choose_7 rfl ?_
    refine z_getr (pc := 8) fdX8_23 (nx_lt (by decide)) (sx_0 g) rfl rfl dX8_choose_8 ?_
    refine z_geti (pc := 11) fdX8_119 (nx_lt (by decide)) (sx_2 g) rfl dX8_choose_11 ?_
    refine z_icmp_ge (pc := 14) (tgt := 49) dX8_choose_14 (by decide) (fun c1 => ?_) (fun c2 => ?_)
    · refine z_loc (L' := [.null, .int x1, .null, .null]) ⟨Or.inl rfl, ⟨Or.inr rfl, ⟨Or.inl rfl, ⟨Or.inl rfl, trivial⟩⟩⟩⟩ ?_
      exact hK49 x1 μ
    · refine z_aload_n (pc := 17) dX8_choose_17 rfl ?_
      refine z_iload_n (pc := 18) dX8_choose_18 rfl ?_
      refine z_callV (As := [.int x3]) (pc := 19) (ret' := none) kvX8_245 (t8_planToday _ _) (by decide) (nx_lt (by decide)) (sx_0 g)  rfl rfl (Nat.le_of_ble_eq_true rfl) dX8_choose_19 (fun v3 μ4 => ?_)
      refine z_aload_n (pc := 22) dX8_choose_22 rfl ?_
      refine z_getr (pc := 23) fdX8_61 (nx_lt (by decide)) (sx_0 g) rfl rfl dX8_choose_23 ?_
      refine z_callV (As := []) (pc := 26) (ret' := some .int) kvX8_248 (t2_worthAtMost _) (by decide) (nx_lt (by decide)) (sx_49 g)  rfl rfl (Nat.le_of_ble_eq_true rfl) dX8_choose_26 (fun v5 μ6 => ?_)
      refine z_iload_n (pc := 29) dX8_choose_29 rfl ?_
      refine z_let (fun (j : Int32 → Int32 → zMem → zRes) => ∀ (x1_7 : Int32) (x2_8 : Int32) (μ9 : zMem), zR yX8_choose cX8_choose 4 (some .int) 6 43 [.ref 0, .int x1_7, .int x2_8, .int x3] [] (nX g) (SX g) μ9 (j x1_7 x2_8 μ9)) ?_ (fun j10 hj10 => ?_)
      · intro x1_7 x2_8 μ9
        refine z_iinc (pc := 43) (v := x3 + (1 : Int32)) (L' := [.ref 0, .int x1_7, .int x2_8, .int (x3 + (1 : Int32))]) dX8_choose_43 (by decide) rfl (congrArg _ (by decide)) rfl ?_
        refine z_goto (pc := 46) (tgt := 6) dX8_choose_46 (by decide) ?_
        exact ih x1_7 x2_8 (x3 + (1 : Int32)) μ9
      · refine z_icmp_le (pc := 30) (tgt := 43) dX8_choose_30 (by decide) (fun c11 => ?_) (fun c12 => ?_)
        · exact hj10 x1 x2 μ6
        · refine z_aload_n (pc := 33) dX8_choose_33 rfl ?_
          refine z_getr (pc := 34) fdX8_61 (nx_lt (by decide)) (sx_0 g) rfl rfl dX8_choose_34 ?_
          refine z_callV (As := []) (pc := 37) (ret' := some .int) kvX8_248 (t2_worthAtMost _) (by decide) (nx_lt (by decide)) (sx_49 g)  rfl rfl (Nat.le_of_ble_eq_true rfl) dX8_choose_37 (fun v13 μ14 => ?_)
          refine z_istore_n (pc := 40) (L' := [.ref 0, .int x1, .int v13, .int x3]) dX8_choose_40 (by decide) rfl ?_
          refine z_iload_n (pc := 41) dX8_choose_41 rfl ?_
          refine z_istore_n (pc := 42) (L' := [.ref 0, .int x3, .int v13, .int x3]) dX8_choose_42 (by decide) rfl ?_
          exact hj10 x3 v13 μ14
set_option maxHeartbeats 1000000 in
theorem t8_choose {g : Bool} (μ : zMem) : zMR yX8_choose cX8_choose 4 (some .int) 6 [.ref 0] (nX g) (SX g) μ (f8_choose μ) := by
  refine zMR_of (by decide +kernel) rfl (Nat.le_of_ble_eq_true rfl) (L := [.ref 0, .null, .null, .null]) rfl ?_
  unfold f8_choose
  refine z_iconst (pc := 0) (-1 : Int32) dX8_choose_0 (by decide) ?_
  refine z_istore_n (pc := 1) (L' := [.ref 0, .int (-1 : Int32), .null, .null]) dX8_choose_1 (by decide) rfl ?_
  refine z_iconst (pc := 2) (-1 : Int32) dX8_choose_2 (by decide) ?_
  refine z_istore_n (pc := 3) (L' := [.ref 0, .int (-1 : Int32), .int (-1 : Int32), .null]) dX8_choose_3 (by decide) rfl ?_
  refine z_iconst (pc := 4) (0 : Int32) dX8_choose_4 (by decide) ?_
  refine z_istore_n (pc := 5) (L' := [.ref 0, .int (-1 : Int32), .int (-1 : Int32), .int (0 : Int32)]) dX8_choose_5 (by decide) rfl ?_
  refine t8_choose_L6 _ (fun x1_15 μ16 => ?_) zF _ _ _ _
  · refine z_iload_n (pc := 49) dX8_choose_49 rfl ?_
    exact z_iret (pc := 50) rfl dX8_choose_50
def f8_image (μ : zMem) : zRes := if (μ 0 9) < (3 : Int32) then zin (μ 0 9) 3 (bnd0 (f5_copyWorld (34 + 5 * (μ 0 9).toNatClampNeg) 23 μ) (fun (v4 : Int32) (μ5 : zMem) => zin (μ5 0 9) 3 (bnd0 (f5_copyRows (34 + 5 * (μ5 0 9).toNatClampNeg) 23 μ5) (fun (v7 : Int32) (μ8 : zMem) => zlet (zset μ8 0 9 ((μ8 0 9) + (1 : Int32))) (fun (μ9 : zMem) => some (0, μ9 0 9, μ9)))))) else some (0, (-1 : Int32), μ)
set_option maxHeartbeats 1000000 in
theorem t8_image {g : Bool} (μ : zMem) : zMR yX8_image cX8_image 1 (some .int) 2 [.ref 0] (nX g) (SX g) μ (f8_image μ) := by
  refine zMR_of (by decide +kernel) rfl (Nat.le_of_ble_eq_true rfl) (L := [.ref 0]) rfl ?_
  unfold f8_image
  refine z_aload_n (pc := 0) dX8_image_0 rfl ?_
  refine z_geti (pc := 1) fdX8_55 (nx_lt (by decide)) (sx_0 g) rfl dX8_image_1 ?_
  refine z_iconst (pc := 4) (3 : Int32) dX8_image_4 (by decide) ?_
  refine z_icmp_lt (pc := 5) (tgt := 10) dX8_image_5 (by decide) (fun c1 => ?_) (fun c2 => ?_)
  · refine z_aload_n (pc := 10) dX8_image_10 rfl ?_
    refine z_getr (pc := 11) fdX8_51 (nx_lt (by decide)) (sx_0 g) rfl rfl dX8_image_11 ?_
    refine z_aload_n (pc := 14) dX8_image_14 rfl ?_
    refine z_geti (pc := 15) fdX8_55 (nx_lt (by decide)) (sx_0 g) rfl dX8_image_15 ?_
    refine z_aald (pc := 18) (fun j => 34 + 5 * j) (nx_lt (by decide)) (sx_33 g) (Or.inr (Or.inr rfl)) sx_33g dX8_image_18 (fun h3 => ?_)
    refine z_aload_n (pc := 19) dX8_image_19 rfl ?_
    refine z_getr (pc := 20) fdX8_44 (nx_lt (by decide)) (sx_0 g) rfl rfl dX8_image_20 ?_
    refine z_callV (As := [.ref 23]) (pc := 23) (ret' := none) kvX8_232 (t5_copyWorld (zSc_img h3) zSc_23 _) (by decide) (sxs_lt0 (zSc_img h3)) (sxs_0 g (zSc_img h3))  rfl rfl (Nat.le_of_ble_eq_true rfl) dX8_image_23 (fun v4 μ5 => ?_)
    refine z_aload_n (pc := 26) dX8_image_26 rfl ?_
    refine z_getr (pc := 27) fdX8_51 (nx_lt (by decide)) (sx_0 g) rfl rfl dX8_image_27 ?_
    refine z_aload_n (pc := 30) dX8_image_30 rfl ?_
    refine z_geti (pc := 31) fdX8_55 (nx_lt (by decide)) (sx_0 g) rfl dX8_image_31 ?_
    refine z_aald (pc := 34) (fun j => 34 + 5 * j) (nx_lt (by decide)) (sx_33 g) (Or.inr (Or.inr rfl)) sx_33g dX8_image_34 (fun h6 => ?_)
    refine z_aload_n (pc := 35) dX8_image_35 rfl ?_
    refine z_getr (pc := 36) fdX8_44 (nx_lt (by decide)) (sx_0 g) rfl rfl dX8_image_36 ?_
    refine z_callV (As := [.ref 23]) (pc := 39) (ret' := none) kvX8_356 (t5_copyRows (zSc_img h6) zSc_23 _) (by decide) (sxs_lt0 (zSc_img h6)) (sxs_0 g (zSc_img h6))  rfl rfl (Nat.le_of_ble_eq_true rfl) dX8_image_39 (fun v7 μ8 => ?_)
    refine z_aload_n (pc := 42) dX8_image_42 rfl ?_
    refine z_dup (pc := 43) dX8_image_43 rfl ?_
    refine z_geti (pc := 44) fdX8_55 (nx_lt (by decide)) (sx_0 g) rfl dX8_image_44 ?_
    refine z_iconst (pc := 47) (1 : Int32) dX8_image_47 (by decide) ?_
    refine z_iadd (pc := 48) dX8_image_48 ?_
    refine z_puti (pc := 49) fdX8_55 (nx_lt (by decide)) (sx_0 g) rfl rfl dX8_image_49 ?_
    refine z_mem (fun μ9 => ?_)
    refine z_aload_n (pc := 52) dX8_image_52 rfl ?_
    refine z_geti (pc := 53) fdX8_55 (nx_lt (by decide)) (sx_0 g) rfl dX8_image_53 ?_
    exact z_iret (pc := 56) rfl dX8_image_56
  · refine z_iconst (pc := 8) (-1 : Int32) dX8_image_8 (by decide) ?_
    exact z_iret (pc := 9) rfl dX8_image_9
def f8_restore (μ : zMem) : zRes := if 0 < (μ 0 9) then zlet (zset μ 0 9 ((μ 0 9) - (1 : Int32))) (fun (μ3 : zMem) => zin (μ3 0 9) 3 (bnd0 (f5_copyWorld 23 (34 + 5 * (μ3 0 9).toNatClampNeg) μ3) (fun (v5 : Int32) (μ6 : zMem) => zin (μ6 0 9) 3 (bnd0 (f5_copyRows 23 (34 + 5 * (μ6 0 9).toNatClampNeg) μ6) (fun (v8 : Int32) (μ9 : zMem) => some (0, μ9 0 9, μ9)))))) else some (0, (-1 : Int32), μ)
set_option maxHeartbeats 1000000 in
theorem t8_restore {g : Bool} (μ : zMem) : zMR yX8_restore cX8_restore 1 (some .int) 2 [.ref 0] (nX g) (SX g) μ (f8_restore μ) := by
  refine zMR_of (by decide +kernel) rfl (Nat.le_of_ble_eq_true rfl) (L := [.ref 0]) rfl ?_
  unfold f8_restore
  refine z_aload_n (pc := 0) dX8_restore_0 rfl ?_
  refine z_geti (pc := 1) fdX8_55 (nx_lt (by decide)) (sx_0 g) rfl dX8_restore_1 ?_
  refine z_if_gt (pc := 4) (tgt := 9) dX8_restore_4 (by decide) (fun c1 => ?_) (fun c2 => ?_)
  · refine z_aload_n (pc := 9) dX8_restore_9 rfl ?_
    refine z_dup (pc := 10) dX8_restore_10 rfl ?_
    refine z_geti (pc := 11) fdX8_55 (nx_lt (by decide)) (sx_0 g) rfl dX8_restore_11 ?_
    refine z_iconst (pc := 14) (1 : Int32) dX8_restore_14 (by decide) ?_
    refine z_isub (pc := 15) dX8_restore_15 ?_
    refine z_puti (pc := 16) fdX8_55 (nx_lt (by decide)) (sx_0 g) rfl rfl dX8_restore_16 ?_
    refine z_mem (fun μ3 => ?_)
    refine z_aload_n (pc := 19) dX8_restore_19 rfl ?_
    refine z_getr (pc := 20) fdX8_44 (nx_lt (by decide)) (sx_0 g) rfl rfl dX8_restore_20 ?_
    refine z_aload_n (pc := 23) dX8_restore_23 rfl ?_
    refine z_getr (pc := 24) fdX8_51 (nx_lt (by decide)) (sx_0 g) rfl rfl dX8_restore_24 ?_
    refine z_aload_n (pc := 27) dX8_restore_27 rfl ?_
    refine z_geti (pc := 28) fdX8_55 (nx_lt (by decide)) (sx_0 g) rfl dX8_restore_28 ?_
    refine z_aald (pc := 31) (fun j => 34 + 5 * j) (nx_lt (by decide)) (sx_33 g) (Or.inr (Or.inr rfl)) sx_33g dX8_restore_31 (fun h4 => ?_)
    refine z_callV (As := [.ref (34 + 5 * (μ3 0 9).toNatClampNeg)]) (pc := 32) (ret' := none) kvX8_232 (t5_copyWorld zSc_23 (zSc_img h4) _) (by decide) (nx_lt (by decide)) (sx_23 g)  rfl rfl (Nat.le_of_ble_eq_true rfl) dX8_restore_32 (fun v5 μ6 => ?_)
    refine z_aload_n (pc := 35) dX8_restore_35 rfl ?_
    refine z_getr (pc := 36) fdX8_44 (nx_lt (by decide)) (sx_0 g) rfl rfl dX8_restore_36 ?_
    refine z_aload_n (pc := 39) dX8_restore_39 rfl ?_
    refine z_getr (pc := 40) fdX8_51 (nx_lt (by decide)) (sx_0 g) rfl rfl dX8_restore_40 ?_
    refine z_aload_n (pc := 43) dX8_restore_43 rfl ?_
    refine z_geti (pc := 44) fdX8_55 (nx_lt (by decide)) (sx_0 g) rfl dX8_restore_44 ?_
    refine z_aald (pc := 47) (fun j => 34 + 5 * j) (nx_lt (by decide)) (sx_33 g) (Or.inr (Or.inr rfl)) sx_33g dX8_restore_47 (fun h7 => ?_)
    refine z_callV (As := [.ref (34 + 5 * (μ6 0 9).toNatClampNeg)]) (pc := 48) (ret' := none) kvX8_356 (t5_copyRows zSc_23 (zSc_img h7) _) (by decide) (nx_lt (by decide)) (sx_23 g)  rfl rfl (Nat.le_of_ble_eq_true rfl) dX8_restore_48 (fun v8 μ9 => ?_)
    refine z_aload_n (pc := 51) dX8_restore_51 rfl ?_
    refine z_geti (pc := 52) fdX8_55 (nx_lt (by decide)) (sx_0 g) rfl dX8_restore_52 ?_
    exact z_iret (pc := 55) rfl dX8_restore_55
  · refine z_iconst (pc := 7) (-1 : Int32) dX8_restore_7 (by decide) ?_
    exact z_iret (pc := 8) rfl dX8_restore_8
def f8_count (x1 : Int32) (μ : zMem) : zRes := if x1 = (0 : Int32) then some (0, μ 23 1, μ) else if x1 = (1 : Int32) then bnd0 (fJ6_bitCount_0f7a4 (μ 23 5) μ) (fun (v3 : Int32) (μ4 : zMem) => some (0, v3, μ4)) else if x1 = (2 : Int32) then some (0, μ 23 9, μ) else if x1 = (3 : Int32) then some (0, μ 0 9, μ) else if x1 = (4 : Int32) then some (0, μ 0 1, μ) else some (0, (-1 : Int32), μ)
set_option maxHeartbeats 1000000 in
theorem t8_count {g : Bool} (x1 : Int32) (μ : zMem) : zMR yX8_count cX8_count 2 (some .int) 2 [.ref 0, .int x1] (nX g) (SX g) μ (f8_count x1 μ) := by
  refine zMR_of (by decide +kernel) rfl (Nat.le_of_ble_eq_true rfl) (L := [.ref 0, .int x1]) rfl ?_
  unfold f8_count
  refine z_iload_n (pc := 0) dX8_count_0 rfl ?_
  refine z_tabC (pc := 1) (tgt := 36) (0 : Int32) dX8_count_1 (by decide) (by decide) rfl (by decide) ?_ (fun c1 => ?_)
  · refine z_aload_n (pc := 36) dX8_count_36 rfl ?_
    refine z_getr (pc := 37) fdX8_44 (nx_lt (by decide)) (sx_0 g) rfl rfl dX8_count_37 ?_
    refine z_geti (pc := 40) fdX8_204 (nx_lt (by decide)) (sx_23 g) rfl dX8_count_40 ?_
    exact z_iret (pc := 43) rfl dX8_count_43
  · refine z_tabC (pc := 1) (tgt := 44) (1 : Int32) dX8_count_1 (by decide) (by decide) rfl (by decide) ?_ (fun c2 => ?_)
    · refine z_aload_n (pc := 44) dX8_count_44 rfl ?_
      refine z_getr (pc := 45) fdX8_44 (nx_lt (by decide)) (sx_0 g) rfl rfl dX8_count_45 ?_
      refine z_geti (pc := 48) fdX8_359 (nx_lt (by decide)) (sx_23 g) rfl dX8_count_48 ?_
      refine z_callS (As := [.int (μ 23 5)]) (pc := 51) (ret' := some .int) ksX8_162 (tJ6_bitCount_0f7a4 _ _) (by decide)  rfl rfl (Nat.le_of_ble_eq_true rfl) dX8_count_51 (fun v3 μ4 => ?_)
      exact z_iret (pc := 54) rfl dX8_count_54
    · refine z_tabC (pc := 1) (tgt := 55) (2 : Int32) dX8_count_1 (by decide) (by decide) rfl (by decide) ?_ (fun c5 => ?_)
      · refine z_aload_n (pc := 55) dX8_count_55 rfl ?_
        refine z_getr (pc := 56) fdX8_44 (nx_lt (by decide)) (sx_0 g) rfl rfl dX8_count_56 ?_
        refine z_geti (pc := 59) fdX8_223 (nx_lt (by decide)) (sx_23 g) rfl dX8_count_59 ?_
        exact z_iret (pc := 62) rfl dX8_count_62
      · refine z_tabC (pc := 1) (tgt := 63) (3 : Int32) dX8_count_1 (by decide) (by decide) rfl (by decide) ?_ (fun c6 => ?_)
        · refine z_aload_n (pc := 63) dX8_count_63 rfl ?_
          refine z_geti (pc := 64) fdX8_55 (nx_lt (by decide)) (sx_0 g) rfl dX8_count_64 ?_
          exact z_iret (pc := 67) rfl dX8_count_67
        · refine z_tabC (pc := 1) (tgt := 68) (4 : Int32) dX8_count_1 (by decide) (by decide) rfl (by decide) ?_ (fun c7 => ?_)
          · refine z_aload_n (pc := 68) dX8_count_68 rfl ?_
            refine z_geti (pc := 69) fdX8_13 (nx_lt (by decide)) (sx_0 g) rfl dX8_count_69 ?_
            exact z_iret (pc := 72) rfl dX8_count_72
          · refine z_tabD (pc := 1) (tgt := 73) dX8_count_1 (by have q0 := z_i32 c1 (z := 0) (by decide); have q1 := z_i32 c2 (z := 1) (by decide); have q2 := z_i32 c5 (z := 2) (by decide); have q3 := z_i32 c6 (z := 3) (by decide); have q4 := z_i32 c7 (z := 4) (by decide); omega) (by decide) ?_
            refine z_iconst (pc := 73) (-1 : Int32) dX8_count_73 (by decide) ?_
            exact z_iret (pc := 74) rfl dX8_count_74
def f8_town (x1 : Int32) (μ : zMem) : zRes := zlet (some (1, 0, μ)) (fun j1 => if x1 < 0 then j1 else if x1 ≤ (μ 0 1) then zlet (zset μ 0 1 (0 : Int32)) (fun (μ6 : zMem) => bnd0 (f3_readTown x1 μ6) (fun (v7 : Int32) (μ8 : zMem) => if v7 = 0 then zlet (zset μ8 0 2 (-1 : Int32)) (fun (μ11 : zMem) => bnd0 (f7_copyFrom μ11) (fun (v12 : Int32) (μ13 : zMem) => bnd0 (f5_beginAnew 23 μ13) (fun (v14 : Int32) (μ15 : zMem) => zlet (zset μ15 0 9 (0 : Int32)) (fun (μ16 : zMem) => some (0, μ16 2 1, μ16))))) else zlet (zset μ8 0 2 (μ8 22 5)) (fun (μ17 : zMem) => some (0, v7 - (10 : Int32), μ17)))) else j1)
set_option maxHeartbeats 1000000 in
theorem t8_town {g : Bool} (x1 : Int32) (μ : zMem) : zMR yX8_town cX8_town 3 (some .int) 10 [.ref 0, .int x1] (nX g) (SX g) μ (f8_town x1 μ) := by
  refine zMR_of (by decide +kernel) rfl (Nat.le_of_ble_eq_true rfl) (L := [.ref 0, .int x1, .null]) rfl ?_
  unfold f8_town
  refine z_iload_n (pc := 0) dX8_town_0 rfl ?_
  refine z_let (fun (j : zRes) => zR yX8_town cX8_town 3 (some .int) 10 12 [.null, .null, .null] [] (nX g) (SX g) μ (j)) ?_ (fun j1 hj1 => ?_)
  · exact z_throw (pc := 12) (ex := 0) (i := 8) (names := zNm)  rfl rfl (by decide) (by decide) ztf_1 ztn ztX8_1.1 zti_1 ztX8_1.2.1 ztX8_1.2.2 (Nat.le_of_ble_eq_true rfl) dX8_town_12 dX8_town_15 dX8_town_16 dX8_town_18 dX8_town_21
  · refine z_if_lt (pc := 1) (tgt := 12) dX8_town_1 (by decide) (fun c2 => ?_) (fun c3 => ?_)
    · refine z_loc (L' := [.null, .null, .null]) ⟨Or.inl rfl, ⟨Or.inl rfl, ⟨Or.inl rfl, trivial⟩⟩⟩ ?_
      exact hj1
    · refine z_iload_n (pc := 4) dX8_town_4 rfl ?_
      refine z_aload_n (pc := 5) dX8_town_5 rfl ?_
      refine z_geti (pc := 6) fdX8_13 (nx_lt (by decide)) (sx_0 g) rfl dX8_town_6 ?_
      refine z_icmp_le (pc := 9) (tgt := 22) dX8_town_9 (by decide) (fun c4 => ?_) (fun c5 => ?_)
      · refine z_aload_n (pc := 22) dX8_town_22 rfl ?_
        refine z_iconst (pc := 23) (0 : Int32) dX8_town_23 (by decide) ?_
        refine z_puti (pc := 24) fdX8_13 (nx_lt (by decide)) (sx_0 g) rfl rfl dX8_town_24 ?_
        refine z_mem (fun μ6 => ?_)
        refine z_aload_n (pc := 27) dX8_town_27 rfl ?_
        refine z_getr (pc := 28) fdX8_35 (nx_lt (by decide)) (sx_0 g) rfl rfl dX8_town_28 ?_
        refine z_iload_n (pc := 31) dX8_town_31 rfl ?_
        refine z_callV (As := [.int x1]) (pc := 32) (ret' := some .int) kvX8_103 (t3_readTown _ _) (by decide) (nx_lt (by decide)) (sx_22 g)  rfl rfl (Nat.le_of_ble_eq_true rfl) dX8_town_32 (fun v7 μ8 => ?_)
        refine z_istore_n (pc := 35) (L' := [.ref 0, .int x1, .int v7]) dX8_town_35 (by decide) rfl ?_
        refine z_iload_n (pc := 36) dX8_town_36 rfl ?_
        refine z_if_eq (pc := 37) (tgt := 56) dX8_town_37 (by decide) (fun c9 => ?_) (fun c10 => ?_)
        · refine z_aload_n (pc := 56) dX8_town_56 rfl ?_
          refine z_iconst (pc := 57) (-1 : Int32) dX8_town_57 (by decide) ?_
          refine z_puti (pc := 58) fdX8_17 (nx_lt (by decide)) (sx_0 g) rfl rfl dX8_town_58 ?_
          refine z_mem (fun μ11 => ?_)
          refine z_aload_n (pc := 61) dX8_town_61 rfl ?_
          refine z_getr (pc := 62) fdX8_23 (nx_lt (by decide)) (sx_0 g) rfl rfl dX8_town_62 ?_
          refine z_aload_n (pc := 65) dX8_town_65 rfl ?_
          refine z_getr (pc := 66) fdX8_27 (nx_lt (by decide)) (sx_0 g) rfl rfl dX8_town_66 ?_
          refine z_callV (As := [.ref 12]) (pc := 69) (ret' := none) kvX8_110 (t7_copyFrom _) (by decide) (nx_lt (by decide)) (sx_2 g)  rfl rfl (Nat.le_of_ble_eq_true rfl) dX8_town_69 (fun v12 μ13 => ?_)
          refine z_aload_n (pc := 72) dX8_town_72 rfl ?_
          refine z_getr (pc := 73) fdX8_44 (nx_lt (by decide)) (sx_0 g) rfl rfl dX8_town_73 ?_
          refine z_callV (As := []) (pc := 76) (ret' := none) kvX8_113 (t5_beginAnew zSc_23 _) (by decide) (nx_lt (by decide)) (sx_23 g)  rfl rfl (Nat.le_of_ble_eq_true rfl) dX8_town_76 (fun v14 μ15 => ?_)
          refine z_aload_n (pc := 79) dX8_town_79 rfl ?_
          refine z_iconst (pc := 80) (0 : Int32) dX8_town_80 (by decide) ?_
          refine z_puti (pc := 81) fdX8_55 (nx_lt (by decide)) (sx_0 g) rfl rfl dX8_town_81 ?_
          refine z_mem (fun μ16 => ?_)
          refine z_aload_n (pc := 84) dX8_town_84 rfl ?_
          refine z_getr (pc := 85) fdX8_23 (nx_lt (by decide)) (sx_0 g) rfl rfl dX8_town_85 ?_
          refine z_geti (pc := 88) fdX8_116 (nx_lt (by decide)) (sx_2 g) rfl dX8_town_88 ?_
          exact z_iret (pc := 91) rfl dX8_town_91
        · refine z_aload_n (pc := 40) dX8_town_40 rfl ?_
          refine z_aload_n (pc := 41) dX8_town_41 rfl ?_
          refine z_getr (pc := 42) fdX8_35 (nx_lt (by decide)) (sx_0 g) rfl rfl dX8_town_42 ?_
          refine z_geti (pc := 45) fdX8_107 (nx_lt (by decide)) (sx_22 g) rfl dX8_town_45 ?_
          refine z_puti (pc := 48) fdX8_17 (nx_lt (by decide)) (sx_0 g) rfl rfl dX8_town_48 ?_
          refine z_mem (fun μ17 => ?_)
          refine z_iload_n (pc := 51) dX8_town_51 rfl ?_
          refine z_bipush (pc := 52) (10 : Int32) dX8_town_52 (by decide) ?_
          refine z_isub (pc := 54) dX8_town_54 ?_
          exact z_iret (pc := 55) rfl dX8_town_55
      · refine z_loc (L' := [.null, .null, .null]) ⟨Or.inl rfl, ⟨Or.inl rfl, ⟨Or.inl rfl, trivial⟩⟩⟩ ?_
        exact hj1
def f8_told (x1 : Int32) (μ : zMem) : zRes := if x1 = (0 : Int32) then some (0, μ 2 0, μ) else if x1 = (1 : Int32) then some (0, μ 2 1, μ) else if x1 = (2 : Int32) then some (0, μ 2 2, μ) else if x1 = (3 : Int32) then some (0, μ 2 3, μ) else if x1 = (4 : Int32) then some (0, μ 2 4, μ) else if x1 = (5 : Int32) then bnd0 (f7_kinPairs μ) (fun (v7 : Int32) (μ8 : zMem) => some (0, v7, μ8)) else if x1 = (6 : Int32) then some (0, μ 2 5, μ) else some (1, 0, μ)
set_option maxHeartbeats 1000000 in
theorem t8_told {g : Bool} (x1 : Int32) (μ : zMem) : zMR yX8_told cX8_told 2 (some .int) 6 [.ref 0, .int x1] (nX g) (SX g) μ (f8_told x1 μ) := by
  refine zMR_of (by decide +kernel) rfl (Nat.le_of_ble_eq_true rfl) (L := [.ref 0, .int x1]) rfl ?_
  unfold f8_told
  refine z_iload_n (pc := 0) dX8_told_0 rfl ?_
  refine z_tabC (pc := 1) (tgt := 44) (0 : Int32) dX8_told_1 (by decide) (by decide) rfl (by decide) ?_ (fun c1 => ?_)
  · refine z_aload_n (pc := 44) dX8_told_44 rfl ?_
    refine z_getr (pc := 45) fdX8_23 (nx_lt (by decide)) (sx_0 g) rfl rfl dX8_told_45 ?_
    refine z_geti (pc := 48) fdX8_119 (nx_lt (by decide)) (sx_2 g) rfl dX8_told_48 ?_
    exact z_iret (pc := 51) rfl dX8_told_51
  · refine z_tabC (pc := 1) (tgt := 52) (1 : Int32) dX8_told_1 (by decide) (by decide) rfl (by decide) ?_ (fun c2 => ?_)
    · refine z_aload_n (pc := 52) dX8_told_52 rfl ?_
      refine z_getr (pc := 53) fdX8_23 (nx_lt (by decide)) (sx_0 g) rfl rfl dX8_told_53 ?_
      refine z_geti (pc := 56) fdX8_116 (nx_lt (by decide)) (sx_2 g) rfl dX8_told_56 ?_
      exact z_iret (pc := 59) rfl dX8_told_59
    · refine z_tabC (pc := 1) (tgt := 60) (2 : Int32) dX8_told_1 (by decide) (by decide) rfl (by decide) ?_ (fun c3 => ?_)
      · refine z_aload_n (pc := 60) dX8_told_60 rfl ?_
        refine z_getr (pc := 61) fdX8_23 (nx_lt (by decide)) (sx_0 g) rfl rfl dX8_told_61 ?_
        refine z_geti (pc := 64) fdX8_122 (nx_lt (by decide)) (sx_2 g) rfl dX8_told_64 ?_
        exact z_iret (pc := 67) rfl dX8_told_67
      · refine z_tabC (pc := 1) (tgt := 68) (3 : Int32) dX8_told_1 (by decide) (by decide) rfl (by decide) ?_ (fun c4 => ?_)
        · refine z_aload_n (pc := 68) dX8_told_68 rfl ?_
          refine z_getr (pc := 69) fdX8_23 (nx_lt (by decide)) (sx_0 g) rfl rfl dX8_told_69 ?_
          refine z_geti (pc := 72) fdX8_125 (nx_lt (by decide)) (sx_2 g) rfl dX8_told_72 ?_
          exact z_iret (pc := 75) rfl dX8_told_75
        · refine z_tabC (pc := 1) (tgt := 76) (4 : Int32) dX8_told_1 (by decide) (by decide) rfl (by decide) ?_ (fun c5 => ?_)
          · refine z_aload_n (pc := 76) dX8_told_76 rfl ?_
            refine z_getr (pc := 77) fdX8_23 (nx_lt (by decide)) (sx_0 g) rfl rfl dX8_told_77 ?_
            refine z_geti (pc := 80) fdX8_128 (nx_lt (by decide)) (sx_2 g) rfl dX8_told_80 ?_
            exact z_iret (pc := 83) rfl dX8_told_83
          · refine z_tabC (pc := 1) (tgt := 84) (5 : Int32) dX8_told_1 (by decide) (by decide) rfl (by decide) ?_ (fun c6 => ?_)
            · refine z_aload_n (pc := 84) dX8_told_84 rfl ?_
              refine z_getr (pc := 85) fdX8_23 (nx_lt (by decide)) (sx_0 g) rfl rfl dX8_told_85 ?_
              refine z_callV (As := []) (pc := 88) (ret' := some .int) kvX8_131 (t7_kinPairs _) (by decide) (nx_lt (by decide)) (sx_2 g)  rfl rfl (Nat.le_of_ble_eq_true rfl) dX8_told_88 (fun v7 μ8 => ?_)
              exact z_iret (pc := 91) rfl dX8_told_91
            · refine z_tabC (pc := 1) (tgt := 92) (6 : Int32) dX8_told_1 (by decide) (by decide) rfl (by decide) ?_ (fun c9 => ?_)
              · refine z_aload_n (pc := 92) dX8_told_92 rfl ?_
                refine z_getr (pc := 93) fdX8_23 (nx_lt (by decide)) (sx_0 g) rfl rfl dX8_told_93 ?_
                refine z_geti (pc := 96) fdX8_135 (nx_lt (by decide)) (sx_2 g) rfl dX8_told_96 ?_
                exact z_iret (pc := 99) rfl dX8_told_99
              · refine z_tabD (pc := 1) (tgt := 100) dX8_told_1 (by have q0 := z_i32 c1 (z := 0) (by decide); have q1 := z_i32 c2 (z := 1) (by decide); have q2 := z_i32 c3 (z := 2) (by decide); have q3 := z_i32 c4 (z := 3) (by decide); have q4 := z_i32 c5 (z := 4) (by decide); have q5 := z_i32 c6 (z := 5) (by decide); have q6 := z_i32 c9 (z := 6) (by decide); omega) (by decide) ?_
                exact z_throw (pc := 100) (ex := 0) (i := 9) (names := zNm)  rfl rfl (by decide) (by decide) ztf_1 ztn ztX8_1.1 zti_1 ztX8_1.2.1 ztX8_1.2.2 (Nat.le_of_ble_eq_true rfl) dX8_told_100 dX8_told_103 dX8_told_104 dX8_told_106 dX8_told_109
def f8_isPerson (x1 : Int32) (μ : zMem) : zRes := zlet (fun (s1 : Int32) => zbl s1 (some (0, s1, μ))) (fun j2 => zlet (j2 (0 : Int32)) (fun j3 => if x1 < 0 then j3 else if (μ 2 1) ≤ x1 then j3 else j2 (1 : Int32)))
set_option maxHeartbeats 1000000 in
theorem t8_isPerson {g : Bool} (x1 : Int32) (μ : zMem) : zMR yX8_isPerson cX8_isPerson 2 (some .boolean) 1 [.ref 0, .int x1] (nX g) (SX g) μ (f8_isPerson x1 μ) := by
  refine zMR_of (by decide +kernel) rfl (Nat.le_of_ble_eq_true rfl) (L := [.ref 0, .int x1]) rfl ?_
  unfold f8_isPerson
  refine z_iload_n (pc := 0) dX8_isPerson_0 rfl ?_
  refine z_let (fun (j : Int32 → zRes) => ∀ (s1 : Int32), zR yX8_isPerson cX8_isPerson 2 (some .boolean) 1 20 [.null, .null] [.int s1] (nX g) (SX g) μ (j s1)) ?_ (fun j2 hj2 => ?_)
  · intro s1
    exact z_zret (pc := 20) rfl dX8_isPerson_20
  · refine z_let (fun (j : zRes) => zR yX8_isPerson cX8_isPerson 2 (some .boolean) 1 19 [.null, .null] [] (nX g) (SX g) μ (j)) ?_ (fun j3 hj3 => ?_)
    · refine z_iconst (pc := 19) (0 : Int32) dX8_isPerson_19 (by decide) ?_
      exact hj2 (0 : Int32)
    · refine z_if_lt (pc := 1) (tgt := 19) dX8_isPerson_1 (by decide) (fun c4 => ?_) (fun c5 => ?_)
      · refine z_loc (L' := [.null, .null]) ⟨Or.inl rfl, ⟨Or.inl rfl, trivial⟩⟩ ?_
        exact hj3
      · refine z_iload_n (pc := 4) dX8_isPerson_4 rfl ?_
        refine z_aload_n (pc := 5) dX8_isPerson_5 rfl ?_
        refine z_getr (pc := 6) fdX8_23 (nx_lt (by decide)) (sx_0 g) rfl rfl dX8_isPerson_6 ?_
        refine z_geti (pc := 9) fdX8_116 (nx_lt (by decide)) (sx_2 g) rfl dX8_isPerson_9 ?_
        refine z_icmp_ge (pc := 12) (tgt := 19) dX8_isPerson_12 (by decide) (fun c6 => ?_) (fun c7 => ?_)
        · refine z_loc (L' := [.null, .null]) ⟨Or.inl rfl, ⟨Or.inl rfl, trivial⟩⟩ ?_
          exact hj3
        · refine z_iconst (pc := 15) (1 : Int32) dX8_isPerson_15 (by decide) ?_
          refine z_goto (pc := 16) (tgt := 20) dX8_isPerson_16 (by decide) ?_
          refine z_loc (L' := [.null, .null]) ⟨Or.inl rfl, ⟨Or.inl rfl, trivial⟩⟩ ?_
          exact hj2 (1 : Int32)
def f8_needPerson (x1 : Int32) (μ : zMem) : zRes := bnd0 (f8_isPerson x1 μ) (fun (v1 : Int32) (μ2 : zMem) => if v1 = 0 then some (2, 0, μ2) else some (0, 0, μ2))
set_option maxHeartbeats 1000000 in
theorem t8_needPerson {g : Bool} (x1 : Int32) (μ : zMem) : zMR yX8_needPerson cX8_needPerson 2 (none) 6 [.ref 0, .int x1] (nX g) (SX g) μ (f8_needPerson x1 μ) := by
  refine zMR_of (by decide +kernel) rfl (Nat.le_of_ble_eq_true rfl) (L := [.ref 0, .int x1]) rfl ?_
  unfold f8_needPerson
  refine z_aload_n (pc := 0) dX8_needPerson_0 rfl ?_
  refine z_iload_n (pc := 1) dX8_needPerson_1 rfl ?_
  refine z_callV (As := [.int x1]) (pc := 2) (ret' := some .boolean) kvX8_339 (t8_isPerson _ _) (by decide) (nx_lt (by decide)) (sx_0 g)  rfl rfl (Nat.le_of_ble_eq_true rfl) dX8_needPerson_2 (fun v1 μ2 => ?_)
  refine z_if_ne (pc := 5) (tgt := 19) dX8_needPerson_5 (by decide) (fun c3 => ?_) (fun c4 => ?_)
  · exact z_vret (pc := 19) rfl dX8_needPerson_19
  · exact z_throwN (pc := 8) (rx := prog_36_method_4_code) (ex := 1) (i := 14) (names := zNm) znx.1 znx.2.1 znx.2.2.1 znx.2.2.2 rfl rfl (by decide) (by decide) ztf_2 ztn ztX8_2.1 zti_2 ztX8_2.2.1 ztX8_2.2.2 (Nat.le_of_ble_eq_true rfl) dX8_needPerson_8 dX8_needPerson_11 dX8_needPerson_12 dX8_needPerson_15 dX8_needPerson_18
def f8_needQuestion (x1 : Int32) (μ : zMem) : zRes := zlet (some (1, 0, μ)) (fun j1 => if x1 < 0 then j1 else if x1 < (μ 2 0) then some (0, 0, μ) else j1)
set_option maxHeartbeats 1000000 in
theorem t8_needQuestion {g : Bool} (x1 : Int32) (μ : zMem) : zMR yX8_needQuestion cX8_needQuestion 2 (none) 6 [.ref 0, .int x1] (nX g) (SX g) μ (f8_needQuestion x1 μ) := by
  refine zMR_of (by decide +kernel) rfl (Nat.le_of_ble_eq_true rfl) (L := [.ref 0, .int x1]) rfl ?_
  unfold f8_needQuestion
  refine z_iload_n (pc := 0) dX8_needQuestion_0 rfl ?_
  refine z_let (fun (j : zRes) => zR yX8_needQuestion cX8_needQuestion 2 (none) 6 15 [.null, .null] [] (nX g) (SX g) μ (j)) ?_ (fun j1 hj1 => ?_)
  · exact z_throwW (pc := 15) (ex := 0) (i := 16) (names := zNm)  rfl rfl (by decide) (by decide) ztf_1 ztn ztX8_1.1 zti_1 ztX8_1.2.1 ztX8_1.2.2 (Nat.le_of_ble_eq_true rfl) dX8_needQuestion_15 dX8_needQuestion_18 dX8_needQuestion_19 dX8_needQuestion_22 dX8_needQuestion_25
  · refine z_if_lt (pc := 1) (tgt := 15) dX8_needQuestion_1 (by decide) (fun c2 => ?_) (fun c3 => ?_)
    · refine z_loc (L' := [.null, .null]) ⟨Or.inl rfl, ⟨Or.inl rfl, trivial⟩⟩ ?_
      exact hj1
    · refine z_iload_n (pc := 4) dX8_needQuestion_4 rfl ?_
      refine z_aload_n (pc := 5) dX8_needQuestion_5 rfl ?_
      refine z_getr (pc := 6) fdX8_23 (nx_lt (by decide)) (sx_0 g) rfl rfl dX8_needQuestion_6 ?_
      refine z_geti (pc := 9) fdX8_119 (nx_lt (by decide)) (sx_2 g) rfl dX8_needQuestion_9 ?_
      refine z_icmp_lt (pc := 12) (tgt := 26) dX8_needQuestion_12 (by decide) (fun c4 => ?_) (fun c5 => ?_)
      · exact z_vret (pc := 26) rfl dX8_needQuestion_26
      · refine z_loc (L' := [.null, .null]) ⟨Or.inl rfl, ⟨Or.inl rfl, trivial⟩⟩ ?_
        exact hj1
def f8_thinks (x1 : Int32) (x2 : Int32) (μ : zMem) : zRes := bnd (f8_needPerson x1 μ) (fun (v1 : Int32) (μ2 : zMem) => bnd (f8_needQuestion x2 μ2) (fun (v3 : Int32) (μ4 : zMem) => bnd0 (f5_thought 23 x1 x2 μ4) (fun (v5 : Int32) (μ6 : zMem) => some (0, v5, μ6))))
set_option maxHeartbeats 1000000 in
theorem t8_thinks {g : Bool} (x1 : Int32) (x2 : Int32) (μ : zMem) : zMR yX8_thinks cX8_thinks 3 (some .int) 7 [.ref 0, .int x1, .int x2] (nX g) (SX g) μ (f8_thinks x1 x2 μ) := by
  refine zMR_of (by decide +kernel) rfl (Nat.le_of_ble_eq_true rfl) (L := [.ref 0, .int x1, .int x2]) rfl ?_
  unfold f8_thinks
  refine z_aload_n (pc := 0) dX8_thinks_0 rfl ?_
  refine z_iload_n (pc := 1) dX8_thinks_1 rfl ?_
  refine z_callX (As := [.int x1]) (pc := 2) (ret' := none) kvX8_140 klX8_140 (t8_needPerson _ _) (by decide) (nx_lt (by decide)) (sx_0 g)  rfl rfl (Nat.le_of_ble_eq_true rfl) dX8_thinks_2 (fun v1 μ2 => ?_)
  refine z_aload_n (pc := 5) dX8_thinks_5 rfl ?_
  refine z_iload_n (pc := 6) dX8_thinks_6 rfl ?_
  refine z_callX (As := [.int x2]) (pc := 7) (ret' := none) kvX8_143 klX8_143 (t8_needQuestion _ _) (by decide) (nx_lt (by decide)) (sx_0 g)  rfl rfl (Nat.le_of_ble_eq_true rfl) dX8_thinks_7 (fun v3 μ4 => ?_)
  refine z_aload_n (pc := 10) dX8_thinks_10 rfl ?_
  refine z_getr (pc := 11) fdX8_44 (nx_lt (by decide)) (sx_0 g) rfl rfl dX8_thinks_11 ?_
  refine z_iload_n (pc := 14) dX8_thinks_14 rfl ?_
  refine z_iload_n (pc := 15) dX8_thinks_15 rfl ?_
  refine z_callV (As := [.int x1, .int x2]) (pc := 16) (ret' := some .int) kvX8_146 (t5_thought zSc_23 _ _ _) (by decide) (nx_lt (by decide)) (sx_23 g)  rfl rfl (Nat.le_of_ble_eq_true rfl) dX8_thinks_16 (fun v5 μ6 => ?_)
  exact z_iret (pc := 19) rfl dX8_thinks_19
def f8_person (x1 : Int32) (x2 : Int32) (μ : zMem) : zRes := bnd (f8_needPerson x1 μ) (fun (v1 : Int32) (μ2 : zMem) => if x2 = (0 : Int32) then zin x1 9 (some (0, μ2 5 x1.toNatClampNeg, μ2)) else if x2 = (1 : Int32) then zin x1 9 (some (0, μ2 25 x1.toNatClampNeg, μ2)) else if x2 = (2 : Int32) then zin x1 9 (some (0, μ2 6 x1.toNatClampNeg, μ2)) else if x2 = (3 : Int32) then zin x1 9 (bnd0 (fJ6_bitCount_0f7a4 (μ2 7 x1.toNatClampNeg) μ2) (fun (v11 : Int32) (μ12 : zMem) => some (0, v11, μ12))) else some (1, 0, μ2))
set_option maxHeartbeats 1000000 in
theorem t8_person {g : Bool} (x1 : Int32) (x2 : Int32) (μ : zMem) : zMR yX8_person cX8_person 3 (some .int) 7 [.ref 0, .int x1, .int x2] (nX g) (SX g) μ (f8_person x1 x2 μ) := by
  refine zMR_of (by decide +kernel) rfl (Nat.le_of_ble_eq_true rfl) (L := [.ref 0, .int x1, .int x2]) rfl ?_
  unfold f8_person
  refine z_aload_n (pc := 0) dX8_person_0 rfl ?_
  refine z_iload_n (pc := 1) dX8_person_1 rfl ?_
  refine z_callX (As := [.int x1]) (pc := 2) (ret' := none) kvX8_140 klX8_140 (t8_needPerson _ _) (by decide) (nx_lt (by decide)) (sx_0 g)  rfl rfl (Nat.le_of_ble_eq_true rfl) dX8_person_2 (fun v1 μ2 => ?_)
  refine z_iload_n (pc := 5) dX8_person_5 rfl ?_
  refine z_tabC (pc := 6) (tgt := 36) (0 : Int32) dX8_person_6 (by decide) (by decide) rfl (by decide) ?_ (fun c3 => ?_)
  · refine z_aload_n (pc := 36) dX8_person_36 rfl ?_
    refine z_getr (pc := 37) fdX8_23 (nx_lt (by decide)) (sx_0 g) rfl rfl dX8_person_37 ?_
    refine z_getr (pc := 40) fdX8_150 (nx_lt (by decide)) (sx_2 g) rfl rfl dX8_person_40 ?_
    refine z_iload_n (pc := 43) dX8_person_43 rfl ?_
    refine z_iald (pc := 44) (nx_lt (by decide)) (sx_5 g) rfl dX8_person_44 (fun h4 => ?_)
    exact z_iret (pc := 45) rfl dX8_person_45
  · refine z_tabC (pc := 6) (tgt := 46) (1 : Int32) dX8_person_6 (by decide) (by decide) rfl (by decide) ?_ (fun c5 => ?_)
    · refine z_aload_n (pc := 46) dX8_person_46 rfl ?_
      refine z_getr (pc := 47) fdX8_44 (nx_lt (by decide)) (sx_0 g) rfl rfl dX8_person_47 ?_
      refine z_getr (pc := 50) fdX8_153 (nx_lt (by decide)) (sx_23 g) rfl rfl dX8_person_50 ?_
      refine z_iload_n (pc := 53) dX8_person_53 rfl ?_
      refine z_iald (pc := 54) (nx_lt (by decide)) (sx_25 g) rfl dX8_person_54 (fun h6 => ?_)
      exact z_iret (pc := 55) rfl dX8_person_55
    · refine z_tabC (pc := 6) (tgt := 56) (2 : Int32) dX8_person_6 (by decide) (by decide) rfl (by decide) ?_ (fun c7 => ?_)
      · refine z_aload_n (pc := 56) dX8_person_56 rfl ?_
        refine z_getr (pc := 57) fdX8_23 (nx_lt (by decide)) (sx_0 g) rfl rfl dX8_person_57 ?_
        refine z_getr (pc := 60) fdX8_156 (nx_lt (by decide)) (sx_2 g) rfl rfl dX8_person_60 ?_
        refine z_iload_n (pc := 63) dX8_person_63 rfl ?_
        refine z_iald (pc := 64) (nx_lt (by decide)) (sx_6 g) rfl dX8_person_64 (fun h8 => ?_)
        exact z_iret (pc := 65) rfl dX8_person_65
      · refine z_tabC (pc := 6) (tgt := 66) (3 : Int32) dX8_person_6 (by decide) (by decide) rfl (by decide) ?_ (fun c9 => ?_)
        · refine z_aload_n (pc := 66) dX8_person_66 rfl ?_
          refine z_getr (pc := 67) fdX8_23 (nx_lt (by decide)) (sx_0 g) rfl rfl dX8_person_67 ?_
          refine z_getr (pc := 70) fdX8_159 (nx_lt (by decide)) (sx_2 g) rfl rfl dX8_person_70 ?_
          refine z_iload_n (pc := 73) dX8_person_73 rfl ?_
          refine z_iald (pc := 74) (nx_lt (by decide)) (sx_7 g) rfl dX8_person_74 (fun h10 => ?_)
          refine z_callS (As := [.int (μ2 7 x1.toNatClampNeg)]) (pc := 75) (ret' := some .int) ksX8_162 (tJ6_bitCount_0f7a4 _ _) (by decide)  rfl rfl (Nat.le_of_ble_eq_true rfl) dX8_person_75 (fun v11 μ12 => ?_)
          exact z_iret (pc := 78) rfl dX8_person_78
        · refine z_tabD (pc := 6) (tgt := 79) dX8_person_6 (by have q0 := z_i32 c3 (z := 0) (by decide); have q1 := z_i32 c5 (z := 1) (by decide); have q2 := z_i32 c7 (z := 2) (by decide); have q3 := z_i32 c9 (z := 3) (by decide); omega) (by decide) ?_
          exact z_throw (pc := 79) (ex := 0) (i := 9) (names := zNm)  rfl rfl (by decide) (by decide) ztf_1 ztn ztX8_1.1 zti_1 ztX8_1.2.1 ztX8_1.2.2 (Nat.le_of_ble_eq_true rfl) dX8_person_79 dX8_person_82 dX8_person_83 dX8_person_85 dX8_person_88
def f8_needDoor (x1 : Int32) (μ : zMem) : zRes := zlet (some (3, 0, μ)) (fun j1 => if x1 < 0 then j1 else if x1 < (μ 2 2) then some (0, 0, μ) else j1)
set_option maxHeartbeats 1000000 in
theorem t8_needDoor {g : Bool} (x1 : Int32) (μ : zMem) : zMR yX8_needDoor cX8_needDoor 2 (none) 6 [.ref 0, .int x1] (nX g) (SX g) μ (f8_needDoor x1 μ) := by
  refine zMR_of (by decide +kernel) rfl (Nat.le_of_ble_eq_true rfl) (L := [.ref 0, .int x1]) rfl ?_
  unfold f8_needDoor
  refine z_iload_n (pc := 0) dX8_needDoor_0 rfl ?_
  refine z_let (fun (j : zRes) => zR yX8_needDoor cX8_needDoor 2 (none) 6 15 [.null, .null] [] (nX g) (SX g) μ (j)) ?_ (fun j1 hj1 => ?_)
  · exact z_throwW (pc := 15) (ex := 2) (i := 15) (names := zNm)  rfl rfl (by decide) (by decide) ztf_3 ztn ztX8_3.1 zti_3 ztX8_3.2.1 ztX8_3.2.2 (Nat.le_of_ble_eq_true rfl) dX8_needDoor_15 dX8_needDoor_18 dX8_needDoor_19 dX8_needDoor_22 dX8_needDoor_25
  · refine z_if_lt (pc := 1) (tgt := 15) dX8_needDoor_1 (by decide) (fun c2 => ?_) (fun c3 => ?_)
    · refine z_loc (L' := [.null, .null]) ⟨Or.inl rfl, ⟨Or.inl rfl, trivial⟩⟩ ?_
      exact hj1
    · refine z_iload_n (pc := 4) dX8_needDoor_4 rfl ?_
      refine z_aload_n (pc := 5) dX8_needDoor_5 rfl ?_
      refine z_getr (pc := 6) fdX8_23 (nx_lt (by decide)) (sx_0 g) rfl rfl dX8_needDoor_6 ?_
      refine z_geti (pc := 9) fdX8_122 (nx_lt (by decide)) (sx_2 g) rfl dX8_needDoor_9 ?_
      refine z_icmp_lt (pc := 12) (tgt := 26) dX8_needDoor_12 (by decide) (fun c4 => ?_) (fun c5 => ?_)
      · exact z_vret (pc := 26) rfl dX8_needDoor_26
      · refine z_loc (L' := [.null, .null]) ⟨Or.inl rfl, ⟨Or.inl rfl, trivial⟩⟩ ?_
        exact hj1
def f8_door (x1 : Int32) (x2 : Int32) (μ : zMem) : zRes := bnd (f8_needDoor x1 μ) (fun (v1 : Int32) (μ2 : zMem) => if x2 = (0 : Int32) then zin x1 10 (some (0, μ2 8 x1.toNatClampNeg, μ2)) else if x2 = (1 : Int32) then zin x1 10 (some (0, μ2 9 x1.toNatClampNeg, μ2)) else if x2 = (2 : Int32) then zin x1 10 (some (0, μ2 10 x1.toNatClampNeg, μ2)) else if x2 = (3 : Int32) then zin x1 10 (some (0, μ2 11 x1.toNatClampNeg, μ2)) else if x2 = (4 : Int32) then bnd0 (f5_isOpen 23 x1 μ2) (fun (v12 : Int32) (μ13 : zMem) => zlet (fun (s14 : Int32) => some (0, s14, μ13)) (fun j15 => if v12 = 0 then j15 (0 : Int32) else j15 (1 : Int32))) else some (1, 0, μ2))
set_option maxHeartbeats 1000000 in
theorem t8_door {g : Bool} (x1 : Int32) (x2 : Int32) (μ : zMem) : zMR yX8_door cX8_door 3 (some .int) 7 [.ref 0, .int x1, .int x2] (nX g) (SX g) μ (f8_door x1 x2 μ) := by
  refine zMR_of (by decide +kernel) rfl (Nat.le_of_ble_eq_true rfl) (L := [.ref 0, .int x1, .int x2]) rfl ?_
  unfold f8_door
  refine z_aload_n (pc := 0) dX8_door_0 rfl ?_
  refine z_iload_n (pc := 1) dX8_door_1 rfl ?_
  refine z_callX (As := [.int x1]) (pc := 2) (ret' := none) kvX8_167 klX8_167 (t8_needDoor _ _) (by decide) (nx_lt (by decide)) (sx_0 g)  rfl rfl (Nat.le_of_ble_eq_true rfl) dX8_door_2 (fun v1 μ2 => ?_)
  refine z_iload_n (pc := 5) dX8_door_5 rfl ?_
  refine z_tabC (pc := 6) (tgt := 40) (0 : Int32) dX8_door_6 (by decide) (by decide) rfl (by decide) ?_ (fun c3 => ?_)
  · refine z_aload_n (pc := 40) dX8_door_40 rfl ?_
    refine z_getr (pc := 41) fdX8_23 (nx_lt (by decide)) (sx_0 g) rfl rfl dX8_door_41 ?_
    refine z_getr (pc := 44) fdX8_170 (nx_lt (by decide)) (sx_2 g) rfl rfl dX8_door_44 ?_
    refine z_iload_n (pc := 47) dX8_door_47 rfl ?_
    refine z_iald (pc := 48) (nx_lt (by decide)) (sx_8 g) rfl dX8_door_48 (fun h4 => ?_)
    exact z_iret (pc := 49) rfl dX8_door_49
  · refine z_tabC (pc := 6) (tgt := 50) (1 : Int32) dX8_door_6 (by decide) (by decide) rfl (by decide) ?_ (fun c5 => ?_)
    · refine z_aload_n (pc := 50) dX8_door_50 rfl ?_
      refine z_getr (pc := 51) fdX8_23 (nx_lt (by decide)) (sx_0 g) rfl rfl dX8_door_51 ?_
      refine z_getr (pc := 54) fdX8_173 (nx_lt (by decide)) (sx_2 g) rfl rfl dX8_door_54 ?_
      refine z_iload_n (pc := 57) dX8_door_57 rfl ?_
      refine z_iald (pc := 58) (nx_lt (by decide)) (sx_9 g) rfl dX8_door_58 (fun h6 => ?_)
      exact z_iret (pc := 59) rfl dX8_door_59
    · refine z_tabC (pc := 6) (tgt := 60) (2 : Int32) dX8_door_6 (by decide) (by decide) rfl (by decide) ?_ (fun c7 => ?_)
      · refine z_aload_n (pc := 60) dX8_door_60 rfl ?_
        refine z_getr (pc := 61) fdX8_23 (nx_lt (by decide)) (sx_0 g) rfl rfl dX8_door_61 ?_
        refine z_getr (pc := 64) fdX8_176 (nx_lt (by decide)) (sx_2 g) rfl rfl dX8_door_64 ?_
        refine z_iload_n (pc := 67) dX8_door_67 rfl ?_
        refine z_iald (pc := 68) (nx_lt (by decide)) (sx_10 g) rfl dX8_door_68 (fun h8 => ?_)
        exact z_iret (pc := 69) rfl dX8_door_69
      · refine z_tabC (pc := 6) (tgt := 70) (3 : Int32) dX8_door_6 (by decide) (by decide) rfl (by decide) ?_ (fun c9 => ?_)
        · refine z_aload_n (pc := 70) dX8_door_70 rfl ?_
          refine z_getr (pc := 71) fdX8_23 (nx_lt (by decide)) (sx_0 g) rfl rfl dX8_door_71 ?_
          refine z_getr (pc := 74) fdX8_179 (nx_lt (by decide)) (sx_2 g) rfl rfl dX8_door_74 ?_
          refine z_iload_n (pc := 77) dX8_door_77 rfl ?_
          refine z_iald (pc := 78) (nx_lt (by decide)) (sx_11 g) rfl dX8_door_78 (fun h10 => ?_)
          exact z_iret (pc := 79) rfl dX8_door_79
        · refine z_tabC (pc := 6) (tgt := 80) (4 : Int32) dX8_door_6 (by decide) (by decide) rfl (by decide) ?_ (fun c11 => ?_)
          · refine z_aload_n (pc := 80) dX8_door_80 rfl ?_
            refine z_getr (pc := 81) fdX8_44 (nx_lt (by decide)) (sx_0 g) rfl rfl dX8_door_81 ?_
            refine z_iload_n (pc := 84) dX8_door_84 rfl ?_
            refine z_callV (As := [.int x1]) (pc := 85) (ret' := some .boolean) kvX8_182 (t5_isOpen zSc_23 _ _) (by decide) (nx_lt (by decide)) (sx_23 g)  rfl rfl (Nat.le_of_ble_eq_true rfl) dX8_door_85 (fun v12 μ13 => ?_)
            refine z_let (fun (j : Int32 → zRes) => ∀ (s14 : Int32), zR yX8_door cX8_door 3 (some .int) 7 96 [.null, .null, .null] [.int s14] (nX g) (SX g) μ13 (j s14)) ?_ (fun j15 hj15 => ?_)
            · intro s14
              exact z_iret (pc := 96) rfl dX8_door_96
            · refine z_if_eq (pc := 88) (tgt := 95) dX8_door_88 (by decide) (fun c16 => ?_) (fun c17 => ?_)
              · refine z_iconst (pc := 95) (0 : Int32) dX8_door_95 (by decide) ?_
                refine z_loc (L' := [.null, .null, .null]) ⟨Or.inl rfl, ⟨Or.inl rfl, ⟨Or.inl rfl, trivial⟩⟩⟩ ?_
                exact hj15 (0 : Int32)
              · refine z_iconst (pc := 91) (1 : Int32) dX8_door_91 (by decide) ?_
                refine z_goto (pc := 92) (tgt := 96) dX8_door_92 (by decide) ?_
                refine z_loc (L' := [.null, .null, .null]) ⟨Or.inl rfl, ⟨Or.inl rfl, ⟨Or.inl rfl, trivial⟩⟩⟩ ?_
                exact hj15 (1 : Int32)
          · refine z_tabD (pc := 6) (tgt := 97) dX8_door_6 (by have q0 := z_i32 c3 (z := 0) (by decide); have q1 := z_i32 c5 (z := 1) (by decide); have q2 := z_i32 c7 (z := 2) (by decide); have q3 := z_i32 c9 (z := 3) (by decide); have q4 := z_i32 c11 (z := 4) (by decide); omega) (by decide) ?_
            exact z_throw (pc := 97) (ex := 0) (i := 9) (names := zNm)  rfl rfl (by decide) (by decide) ztf_1 ztn ztX8_1.1 zti_1 ztX8_1.2.1 ztX8_1.2.2 (Nat.le_of_ble_eq_true rfl) dX8_door_97 dX8_door_100 dX8_door_101 dX8_door_103 dX8_door_106
def f8_needDay (x1 : Int32) (μ : zMem) : zRes := zlet (some (1, 0, μ)) (fun j1 => if x1 < 0 then j1 else if x1 < (30 : Int32) then some (0, 0, μ) else j1)
set_option maxHeartbeats 1000000 in
theorem t8_needDay {g : Bool} (x1 : Int32) (μ : zMem) : zMR yX8_needDay cX8_needDay 2 (none) 6 [.ref 0, .int x1] (nX g) (SX g) μ (f8_needDay x1 μ) := by
  refine zMR_of (by decide +kernel) rfl (Nat.le_of_ble_eq_true rfl) (L := [.ref 0, .int x1]) rfl ?_
  unfold f8_needDay
  refine z_iload_n (pc := 0) dX8_needDay_0 rfl ?_
  refine z_let (fun (j : zRes) => zR yX8_needDay cX8_needDay 2 (none) 6 10 [.null, .null] [] (nX g) (SX g) μ (j)) ?_ (fun j1 hj1 => ?_)
  · exact z_throwW (pc := 10) (ex := 0) (i := 17) (names := zNm)  rfl rfl (by decide) (by decide) ztf_1 ztn ztX8_1.1 zti_1 ztX8_1.2.1 ztX8_1.2.2 (Nat.le_of_ble_eq_true rfl) dX8_needDay_10 dX8_needDay_13 dX8_needDay_14 dX8_needDay_17 dX8_needDay_20
  · refine z_if_lt (pc := 1) (tgt := 10) dX8_needDay_1 (by decide) (fun c2 => ?_) (fun c3 => ?_)
    · refine z_loc (L' := [.null, .null]) ⟨Or.inl rfl, ⟨Or.inl rfl, trivial⟩⟩ ?_
      exact hj1
    · refine z_iload_n (pc := 4) dX8_needDay_4 rfl ?_
      refine z_bipush (pc := 5) (30 : Int32) dX8_needDay_5 (by decide) ?_
      refine z_icmp_lt (pc := 7) (tgt := 21) dX8_needDay_7 (by decide) (fun c4 => ?_) (fun c5 => ?_)
      · exact z_vret (pc := 21) rfl dX8_needDay_21
      · refine z_loc (L' := [.null, .null]) ⟨Or.inl rfl, ⟨Or.inl rfl, trivial⟩⟩ ?_
        exact hj1
def f8_slate (x1 : Int32) (μ : zMem) : zRes := bnd (f8_needDay x1 μ) (fun (v1 : Int32) (μ2 : zMem) => bnd0 (f7_slateOf x1 μ2) (fun (v3 : Int32) (μ4 : zMem) => some (0, v3, μ4)))
set_option maxHeartbeats 1000000 in
theorem t8_slate {g : Bool} (x1 : Int32) (μ : zMem) : zMR yX8_slate cX8_slate 2 (some .int) 7 [.ref 0, .int x1] (nX g) (SX g) μ (f8_slate x1 μ) := by
  refine zMR_of (by decide +kernel) rfl (Nat.le_of_ble_eq_true rfl) (L := [.ref 0, .int x1]) rfl ?_
  unfold f8_slate
  refine z_aload_n (pc := 0) dX8_slate_0 rfl ?_
  refine z_iload_n (pc := 1) dX8_slate_1 rfl ?_
  refine z_callX (As := [.int x1]) (pc := 2) (ret' := none) kvX8_186 klX8_186 (t8_needDay _ _) (by decide) (nx_lt (by decide)) (sx_0 g)  rfl rfl (Nat.le_of_ble_eq_true rfl) dX8_slate_2 (fun v1 μ2 => ?_)
  refine z_aload_n (pc := 5) dX8_slate_5 rfl ?_
  refine z_getr (pc := 6) fdX8_23 (nx_lt (by decide)) (sx_0 g) rfl rfl dX8_slate_6 ?_
  refine z_iload_n (pc := 9) dX8_slate_9 rfl ?_
  refine z_callV (As := [.int x1]) (pc := 10) (ret' := some .int) kvX8_189 (t7_slateOf _ _) (by decide) (nx_lt (by decide)) (sx_2 g)  rfl rfl (Nat.le_of_ble_eq_true rfl) dX8_slate_10 (fun v3 μ4 => ?_)
  exact z_iret (pc := 13) rfl dX8_slate_13
def f8_work (x1 : Int32) (x2 : Int32) (x3 : Int32) (μ : zMem) : zRes := bnd (f8_needDoor x1 μ) (fun (v1 : Int32) (μ2 : zMem) => bnd (f8_needPerson x2 μ2) (fun (v3 : Int32) (μ4 : zMem) => bnd (f8_needPerson x3 μ4) (fun (v5 : Int32) (μ6 : zMem) => bnd0 (f5_errs 23 x1 x2 x3 μ6) (fun (v7 : Int32) (μ8 : zMem) => zlet (fun (s9 : Int32) (μ10 : zMem) => some (0, s9, μ10)) (fun j11 => if v7 = 0 then bnd0 (f5_doWork 23 x1 x2 x3 μ8) (fun (v14 : Int32) (μ15 : zMem) => j11 v14 μ15) else j11 (-v7) μ8)))))
set_option maxHeartbeats 1000000 in
theorem t8_work {g : Bool} (x1 : Int32) (x2 : Int32) (x3 : Int32) (μ : zMem) : zMR yX8_work cX8_work 5 (some .int) 7 [.ref 0, .int x1, .int x2, .int x3] (nX g) (SX g) μ (f8_work x1 x2 x3 μ) := by
  refine zMR_of (by decide +kernel) rfl (Nat.le_of_ble_eq_true rfl) (L := [.ref 0, .int x1, .int x2, .int x3, .null]) rfl ?_
  unfold f8_work
  refine z_aload_n (pc := 0) dX8_work_0 rfl ?_
  refine z_iload_n (pc := 1) dX8_work_1 rfl ?_
  refine z_callX (As := [.int x1]) (pc := 2) (ret' := none) kvX8_167 klX8_167 (t8_needDoor _ _) (by decide) (nx_lt (by decide)) (sx_0 g)  rfl rfl (Nat.le_of_ble_eq_true rfl) dX8_work_2 (fun v1 μ2 => ?_)
  refine z_aload_n (pc := 5) dX8_work_5 rfl ?_
  refine z_iload_n (pc := 6) dX8_work_6 rfl ?_
  refine z_callX (As := [.int x2]) (pc := 7) (ret' := none) kvX8_140 klX8_140 (t8_needPerson _ _) (by decide) (nx_lt (by decide)) (sx_0 g)  rfl rfl (Nat.le_of_ble_eq_true rfl) dX8_work_7 (fun v3 μ4 => ?_)
  refine z_aload_n (pc := 10) dX8_work_10 rfl ?_
  refine z_iload_n (pc := 11) dX8_work_11 rfl ?_
  refine z_callX (As := [.int x3]) (pc := 12) (ret' := none) kvX8_140 klX8_140 (t8_needPerson _ _) (by decide) (nx_lt (by decide)) (sx_0 g)  rfl rfl (Nat.le_of_ble_eq_true rfl) dX8_work_12 (fun v5 μ6 => ?_)
  refine z_aload_n (pc := 15) dX8_work_15 rfl ?_
  refine z_getr (pc := 16) fdX8_44 (nx_lt (by decide)) (sx_0 g) rfl rfl dX8_work_16 ?_
  refine z_iload_n (pc := 19) dX8_work_19 rfl ?_
  refine z_iload_n (pc := 20) dX8_work_20 rfl ?_
  refine z_iload_n (pc := 21) dX8_work_21 rfl ?_
  refine z_callV (As := [.int x1, .int x2, .int x3]) (pc := 22) (ret' := some .int) kvX8_192 (t5_errs zSc_23 _ _ _ _) (by decide) (nx_lt (by decide)) (sx_23 g)  rfl rfl (Nat.le_of_ble_eq_true rfl) dX8_work_22 (fun v7 μ8 => ?_)
  refine z_istore (pc := 25) (L' := [.ref 0, .int x1, .int x2, .int x3, .int v7]) dX8_work_25 (by decide) rfl ?_
  refine z_iload (pc := 27) dX8_work_27 rfl ?_
  refine z_let (fun (j : Int32 → zMem → zRes) => ∀ (s9 : Int32) (μ10 : zMem), zR yX8_work cX8_work 5 (some .int) 7 48 [.null, .null, .null, .null, .null] [.int s9] (nX g) (SX g) μ10 (j s9 μ10)) ?_ (fun j11 hj11 => ?_)
  · intro s9 μ10
    exact z_iret (pc := 48) rfl dX8_work_48
  · refine z_if_eq (pc := 29) (tgt := 38) dX8_work_29 (by decide) (fun c12 => ?_) (fun c13 => ?_)
    · refine z_aload_n (pc := 38) dX8_work_38 rfl ?_
      refine z_getr (pc := 39) fdX8_44 (nx_lt (by decide)) (sx_0 g) rfl rfl dX8_work_39 ?_
      refine z_iload_n (pc := 42) dX8_work_42 rfl ?_
      refine z_iload_n (pc := 43) dX8_work_43 rfl ?_
      refine z_iload_n (pc := 44) dX8_work_44 rfl ?_
      refine z_callV (As := [.int x1, .int x2, .int x3]) (pc := 45) (ret' := some .int) kvX8_196 (t5_doWork zSc_23 _ _ _ _) (by decide) (nx_lt (by decide)) (sx_23 g)  rfl rfl (Nat.le_of_ble_eq_true rfl) dX8_work_45 (fun v14 μ15 => ?_)
      refine z_loc (L' := [.null, .null, .null, .null, .null]) ⟨Or.inl rfl, ⟨Or.inl rfl, ⟨Or.inl rfl, ⟨Or.inl rfl, ⟨Or.inl rfl, trivial⟩⟩⟩⟩⟩ ?_
      exact hj11 v14 μ15
    · refine z_iload (pc := 32) dX8_work_32 rfl ?_
      refine z_ineg (pc := 34) dX8_work_34 ?_
      refine z_goto (pc := 35) (tgt := 48) dX8_work_35 (by decide) ?_
      refine z_loc (L' := [.null, .null, .null, .null, .null]) ⟨Or.inl rfl, ⟨Or.inl rfl, ⟨Or.inl rfl, ⟨Or.inl rfl, ⟨Or.inl rfl, trivial⟩⟩⟩⟩⟩ ?_
      exact hj11 (-v7) μ8
def f8_may (x1 : Int32) (x2 : Int32) (x3 : Int32) (μ : zMem) : zRes := bnd (f8_needDoor x1 μ) (fun (v1 : Int32) (μ2 : zMem) => bnd (f8_needPerson x2 μ2) (fun (v3 : Int32) (μ4 : zMem) => bnd (f8_needPerson x3 μ4) (fun (v5 : Int32) (μ6 : zMem) => bnd0 (f5_errs 23 x1 x2 x3 μ6) (fun (v7 : Int32) (μ8 : zMem) => some (0, v7, μ8)))))
set_option maxHeartbeats 1000000 in
theorem t8_may {g : Bool} (x1 : Int32) (x2 : Int32) (x3 : Int32) (μ : zMem) : zMR yX8_may cX8_may 4 (some .int) 7 [.ref 0, .int x1, .int x2, .int x3] (nX g) (SX g) μ (f8_may x1 x2 x3 μ) := by
  refine zMR_of (by decide +kernel) rfl (Nat.le_of_ble_eq_true rfl) (L := [.ref 0, .int x1, .int x2, .int x3]) rfl ?_
  unfold f8_may
  refine z_aload_n (pc := 0) dX8_may_0 rfl ?_
  refine z_iload_n (pc := 1) dX8_may_1 rfl ?_
  refine z_callX (As := [.int x1]) (pc := 2) (ret' := none) kvX8_167 klX8_167 (t8_needDoor _ _) (by decide) (nx_lt (by decide)) (sx_0 g)  rfl rfl (Nat.le_of_ble_eq_true rfl) dX8_may_2 (fun v1 μ2 => ?_)
  refine z_aload_n (pc := 5) dX8_may_5 rfl ?_
  refine z_iload_n (pc := 6) dX8_may_6 rfl ?_
  refine z_callX (As := [.int x2]) (pc := 7) (ret' := none) kvX8_140 klX8_140 (t8_needPerson _ _) (by decide) (nx_lt (by decide)) (sx_0 g)  rfl rfl (Nat.le_of_ble_eq_true rfl) dX8_may_7 (fun v3 μ4 => ?_)
  refine z_aload_n (pc := 10) dX8_may_10 rfl ?_
  refine z_iload_n (pc := 11) dX8_may_11 rfl ?_
  refine z_callX (As := [.int x3]) (pc := 12) (ret' := none) kvX8_140 klX8_140 (t8_needPerson _ _) (by decide) (nx_lt (by decide)) (sx_0 g)  rfl rfl (Nat.le_of_ble_eq_true rfl) dX8_may_12 (fun v5 μ6 => ?_)
  refine z_aload_n (pc := 15) dX8_may_15 rfl ?_
  refine z_getr (pc := 16) fdX8_44 (nx_lt (by decide)) (sx_0 g) rfl rfl dX8_may_16 ?_
  refine z_iload_n (pc := 19) dX8_may_19 rfl ?_
  refine z_iload_n (pc := 20) dX8_may_20 rfl ?_
  refine z_iload_n (pc := 21) dX8_may_21 rfl ?_
  refine z_callV (As := [.int x1, .int x2, .int x3]) (pc := 22) (ret' := some .int) kvX8_192 (t5_errs zSc_23 _ _ _ _) (by decide) (nx_lt (by decide)) (sx_23 g)  rfl rfl (Nat.le_of_ble_eq_true rfl) dX8_may_22 (fun v7 μ8 => ?_)
  exact z_iret (pc := 25) rfl dX8_may_25
def f8_next (μ : zMem) : zRes := if (μ 2 0) = 0 then some (4, 0, μ) else if (μ 23 1) < (29 : Int32) then bnd0 (f5_beginDay 23 ((μ 23 1) + (1 : Int32)) μ) (fun (v5 : Int32) (μ6 : zMem) => some (0, μ6 23 1, μ6)) else some (0, (-1 : Int32), μ)
set_option maxHeartbeats 1000000 in
theorem t8_next {g : Bool} (μ : zMem) : zMR yX8_next cX8_next 1 (some .int) 6 [.ref 0] (nX g) (SX g) μ (f8_next μ) := by
  refine zMR_of (by decide +kernel) rfl (Nat.le_of_ble_eq_true rfl) (L := [.ref 0]) rfl ?_
  unfold f8_next
  refine z_aload_n (pc := 0) dX8_next_0 rfl ?_
  refine z_getr (pc := 1) fdX8_23 (nx_lt (by decide)) (sx_0 g) rfl rfl dX8_next_1 ?_
  refine z_geti (pc := 4) fdX8_119 (nx_lt (by decide)) (sx_2 g) rfl dX8_next_4 ?_
  refine z_if_ne (pc := 7) (tgt := 20) dX8_next_7 (by decide) (fun c1 => ?_) (fun c2 => ?_)
  · refine z_aload_n (pc := 20) dX8_next_20 rfl ?_
    refine z_getr (pc := 21) fdX8_44 (nx_lt (by decide)) (sx_0 g) rfl rfl dX8_next_21 ?_
    refine z_geti (pc := 24) fdX8_204 (nx_lt (by decide)) (sx_23 g) rfl dX8_next_24 ?_
    refine z_bipush (pc := 27) (29 : Int32) dX8_next_27 (by decide) ?_
    refine z_icmp_lt (pc := 29) (tgt := 34) dX8_next_29 (by decide) (fun c3 => ?_) (fun c4 => ?_)
    · refine z_aload_n (pc := 34) dX8_next_34 rfl ?_
      refine z_getr (pc := 35) fdX8_44 (nx_lt (by decide)) (sx_0 g) rfl rfl dX8_next_35 ?_
      refine z_aload_n (pc := 38) dX8_next_38 rfl ?_
      refine z_getr (pc := 39) fdX8_44 (nx_lt (by decide)) (sx_0 g) rfl rfl dX8_next_39 ?_
      refine z_geti (pc := 42) fdX8_204 (nx_lt (by decide)) (sx_23 g) rfl dX8_next_42 ?_
      refine z_iconst (pc := 45) (1 : Int32) dX8_next_45 (by decide) ?_
      refine z_iadd (pc := 46) dX8_next_46 ?_
      refine z_callV (As := [.int ((μ 23 1) + (1 : Int32))]) (pc := 47) (ret' := none) kvX8_207 (t5_beginDay zSc_23 _ _) (by decide) (nx_lt (by decide)) (sx_23 g)  rfl rfl (Nat.le_of_ble_eq_true rfl) dX8_next_47 (fun v5 μ6 => ?_)
      refine z_aload_n (pc := 50) dX8_next_50 rfl ?_
      refine z_getr (pc := 51) fdX8_44 (nx_lt (by decide)) (sx_0 g) rfl rfl dX8_next_51 ?_
      refine z_geti (pc := 54) fdX8_204 (nx_lt (by decide)) (sx_23 g) rfl dX8_next_54 ?_
      exact z_iret (pc := 57) rfl dX8_next_57
    · refine z_iconst (pc := 32) (-1 : Int32) dX8_next_32 (by decide) ?_
      exact z_iret (pc := 33) rfl dX8_next_33
  · exact z_throw (pc := 10) (ex := 3) (i := 10) (names := zNm)  rfl rfl (by decide) (by decide) ztf_4 ztn ztX8_4.1 zti_4 ztX8_4.2.1 ztX8_4.2.2 (Nat.le_of_ble_eq_true rfl) dX8_next_10 dX8_next_13 dX8_next_14 dX8_next_16 dX8_next_19
def f8_talk (x1 : Int32) (x2 : Int32) (x3 : Int32) (μ : zMem) : zRes := bnd (f8_needPerson x1 μ) (fun (v1 : Int32) (μ2 : zMem) => bnd (f8_needPerson x2 μ2) (fun (v3 : Int32) (μ4 : zMem) => bnd (f8_needQuestion x3 μ4) (fun (v5 : Int32) (μ6 : zMem) => if x1 = x2 then some (1, 0, μ6) else bnd0 (f5_stepTowards 23 x1 x2 x3 μ6) (fun (v9 : Int32) (μ10 : zMem) => bnd0 (f5_thought 23 x1 x3 μ10) (fun (v11 : Int32) (μ12 : zMem) => some (0, v11, μ12))))))
set_option maxHeartbeats 1000000 in
theorem t8_talk {g : Bool} (x1 : Int32) (x2 : Int32) (x3 : Int32) (μ : zMem) : zMR yX8_talk cX8_talk 4 (some .int) 7 [.ref 0, .int x1, .int x2, .int x3] (nX g) (SX g) μ (f8_talk x1 x2 x3 μ) := by
  refine zMR_of (by decide +kernel) rfl (Nat.le_of_ble_eq_true rfl) (L := [.ref 0, .int x1, .int x2, .int x3]) rfl ?_
  unfold f8_talk
  refine z_aload_n (pc := 0) dX8_talk_0 rfl ?_
  refine z_iload_n (pc := 1) dX8_talk_1 rfl ?_
  refine z_callX (As := [.int x1]) (pc := 2) (ret' := none) kvX8_140 klX8_140 (t8_needPerson _ _) (by decide) (nx_lt (by decide)) (sx_0 g)  rfl rfl (Nat.le_of_ble_eq_true rfl) dX8_talk_2 (fun v1 μ2 => ?_)
  refine z_aload_n (pc := 5) dX8_talk_5 rfl ?_
  refine z_iload_n (pc := 6) dX8_talk_6 rfl ?_
  refine z_callX (As := [.int x2]) (pc := 7) (ret' := none) kvX8_140 klX8_140 (t8_needPerson _ _) (by decide) (nx_lt (by decide)) (sx_0 g)  rfl rfl (Nat.le_of_ble_eq_true rfl) dX8_talk_7 (fun v3 μ4 => ?_)
  refine z_aload_n (pc := 10) dX8_talk_10 rfl ?_
  refine z_iload_n (pc := 11) dX8_talk_11 rfl ?_
  refine z_callX (As := [.int x3]) (pc := 12) (ret' := none) kvX8_143 klX8_143 (t8_needQuestion _ _) (by decide) (nx_lt (by decide)) (sx_0 g)  rfl rfl (Nat.le_of_ble_eq_true rfl) dX8_talk_12 (fun v5 μ6 => ?_)
  refine z_iload_n (pc := 15) dX8_talk_15 rfl ?_
  refine z_iload_n (pc := 16) dX8_talk_16 rfl ?_
  refine z_icmp_ne (pc := 17) (tgt := 30) dX8_talk_17 (by decide) (fun c7 => ?_) (fun c8 => ?_)
  · refine z_aload_n (pc := 30) dX8_talk_30 rfl ?_
    refine z_getr (pc := 31) fdX8_44 (nx_lt (by decide)) (sx_0 g) rfl rfl dX8_talk_31 ?_
    refine z_iload_n (pc := 34) dX8_talk_34 rfl ?_
    refine z_iload_n (pc := 35) dX8_talk_35 rfl ?_
    refine z_iload_n (pc := 36) dX8_talk_36 rfl ?_
    refine z_callV (As := [.int x1, .int x2, .int x3]) (pc := 37) (ret' := none) kvX8_212 (t5_stepTowards zSc_23 _ _ _ _) (by decide) (nx_lt (by decide)) (sx_23 g)  rfl rfl (Nat.le_of_ble_eq_true rfl) dX8_talk_37 (fun v9 μ10 => ?_)
    refine z_aload_n (pc := 40) dX8_talk_40 rfl ?_
    refine z_getr (pc := 41) fdX8_44 (nx_lt (by decide)) (sx_0 g) rfl rfl dX8_talk_41 ?_
    refine z_iload_n (pc := 44) dX8_talk_44 rfl ?_
    refine z_iload_n (pc := 45) dX8_talk_45 rfl ?_
    refine z_callV (As := [.int x1, .int x3]) (pc := 46) (ret' := some .int) kvX8_146 (t5_thought zSc_23 _ _ _) (by decide) (nx_lt (by decide)) (sx_23 g)  rfl rfl (Nat.le_of_ble_eq_true rfl) dX8_talk_46 (fun v11 μ12 => ?_)
    exact z_iret (pc := 49) rfl dX8_talk_49
  · exact z_throw (pc := 20) (ex := 0) (i := 11) (names := zNm)  rfl rfl (by decide) (by decide) ztf_1 ztn ztX8_1.1 zti_1 ztX8_1.2.1 ztX8_1.2.2 (Nat.le_of_ble_eq_true rfl) dX8_talk_20 dX8_talk_23 dX8_talk_24 dX8_talk_26 dX8_talk_29
def f8_needWhat (x1 : Int32) (x2 : Int32) (μ : zMem) : zRes := zlet (some (1, 0, μ)) (fun j1 => if x1 < 0 then j1 else if x1 ≤ x2 then some (0, 0, μ) else j1)
set_option maxHeartbeats 1000000 in
theorem t8_needWhat {g : Bool} (x1 : Int32) (x2 : Int32) (μ : zMem) : zMR yX8_needWhat cX8_needWhat 3 (none) 6 [.ref 0, .int x1, .int x2] (nX g) (SX g) μ (f8_needWhat x1 x2 μ) := by
  refine zMR_of (by decide +kernel) rfl (Nat.le_of_ble_eq_true rfl) (L := [.ref 0, .int x1, .int x2]) rfl ?_
  unfold f8_needWhat
  refine z_iload_n (pc := 0) dX8_needWhat_0 rfl ?_
  refine z_let (fun (j : zRes) => zR yX8_needWhat cX8_needWhat 3 (none) 6 9 [.null, .null, .null] [] (nX g) (SX g) μ (j)) ?_ (fun j1 hj1 => ?_)
  · exact z_throw (pc := 9) (ex := 0) (i := 9) (names := zNm)  rfl rfl (by decide) (by decide) ztf_1 ztn ztX8_1.1 zti_1 ztX8_1.2.1 ztX8_1.2.2 (Nat.le_of_ble_eq_true rfl) dX8_needWhat_9 dX8_needWhat_12 dX8_needWhat_13 dX8_needWhat_15 dX8_needWhat_18
  · refine z_if_lt (pc := 1) (tgt := 9) dX8_needWhat_1 (by decide) (fun c2 => ?_) (fun c3 => ?_)
    · refine z_loc (L' := [.null, .null, .null]) ⟨Or.inl rfl, ⟨Or.inl rfl, ⟨Or.inl rfl, trivial⟩⟩⟩ ?_
      exact hj1
    · refine z_iload_n (pc := 4) dX8_needWhat_4 rfl ?_
      refine z_iload_n (pc := 5) dX8_needWhat_5 rfl ?_
      refine z_icmp_le (pc := 6) (tgt := 19) dX8_needWhat_6 (by decide) (fun c4 => ?_) (fun c5 => ?_)
      · exact z_vret (pc := 19) rfl dX8_needWhat_19
      · refine z_loc (L' := [.null, .null, .null]) ⟨Or.inl rfl, ⟨Or.inl rfl, ⟨Or.inl rfl, trivial⟩⟩⟩ ?_
        exact hj1
def f8_earned_L10 (x1 : Int32) (K92 : Int32 → zMem → zRes) : Nat → Int32 → Int32 → zMem → zRes
  | 0, _, _, _ => none
  | n + 1, x2, x3, μ => if (μ 2 2) ≤ x3 then K92 x2 μ else zlet (fun (s5 : Int32) (μ6 : zMem) => zlet (fun (s7 : Int32) => zlet (x2 + s7) (fun (v8 : Int32) => f8_earned_L10 x1 K92 n v8 (x3 + (1 : Int32)) μ6)) (fun j9 => if s5 = 0 then j9 (0 : Int32) else zin x3 10 (j9 (μ6 8 x3.toNatClampNeg)))) (fun j13 => if x1 = 0 then bnd0 (f5_isOpen 23 x3 μ) (fun (v26 : Int32) (μ27 : zMem) => j13 v26 μ27) else bnd0 (f5_isOpen 23 x3 μ) (fun (v16 : Int32) (μ17 : zMem) => zlet (fun (μ18 : zMem) => j13 (0 : Int32) μ18) (fun j19 => if v16 = 0 then bnd0 (f5_isTooLate 23 x3 μ17) (fun (v22 : Int32) (μ23 : zMem) => if v22 = 0 then j19 μ23 else j13 (1 : Int32) μ23) else j19 μ17)))
def f8_earned (x1 : Int32) (μ : zMem) : zRes := bnd (f8_needWhat x1 (1 : Int32) μ) (fun (v1 : Int32) (μ2 : zMem) => f8_earned_L10 x1 (fun (x2_28 : Int32) (μ29 : zMem) => some (0, x2_28, μ29)) zF (0 : Int32) (0 : Int32) μ2)
set_option maxHeartbeats 1000000 in
theorem t8_earned_L10 {g : Bool} (x1 : Int32) (K92 : Int32 → zMem → zRes) (hK92 : ∀ (x2 : Int32) (μ : zMem), zR yX8_earned cX8_earned 5 (some .int) 7 92 [.null, .null, .int x2, .null, .null] [] (nX g) (SX g) μ (K92 x2 μ)) : ∀ (n : Nat) (x2 : Int32) (x3 : Int32) (μ : zMem), zR yX8_earned cX8_earned 5 (some .int) 7 10 [.ref 0, .int x1, .int x2, .int x3, .null] [] (nX g) (SX g) μ (f8_earned_L10 x1 K92 n x2 x3 μ) := by
  intro n
  induction n with
  | zero => intro x2 x3 μ; intro q hq; cases hq
  | succ n ih =>
    intro x2 x3 μ
    unfold f8_earned_L10
    refine z_iload_n (pc := 10) dX8_earned_10 rfl ?_
    refine z_aload_n (pc := 11) dX8_earned_11 rfl ?_
    refine z_getr (pc := 12) fdX8_23 (nx_lt (by decide)) (sx_0 g) rfl rfl dX8_earned_12 ?_
    refine z_geti (pc := 15) fdX8_122 (nx_lt (by decide)) (sx_2 g) rfl dX8_earned_15 ?_
    refine z_icmp_ge (pc := 18) (tgt := 92) dX8_earned_18 (by decide) (fun c3 => ?_) (fun c4 => ?_)
    · refine z_loc (L' := [.null, .null, .int x2, .null, .null]) ⟨Or.inl rfl, ⟨Or.inl rfl, ⟨Or.inr rfl, ⟨Or.inl rfl, ⟨Or.inl rfl, trivial⟩⟩⟩⟩⟩ ?_
      exact hK92 x2 μ
    · refine z_iload_n (pc := 21) dX8_earned_21 rfl ?_
      refine z_let (fun (j : Int32 → zMem → zRes) => ∀ (s5 : Int32) (μ6 : zMem), zR yX8_earned cX8_earned 5 (some .int) 7 63 [.ref 0, .int x1, .int x2, .int x3, .null] [.int s5] (nX g) (SX g) μ6 (j s5 μ6)) ?_ (fun j13 hj13 => ?_)
      · intro s5 μ6
        refine z_istore (pc := 63) (L' := [.ref 0, .int x1, .int x2, .int x3, .int s5]) dX8_earned_63 (by decide) rfl ?_
        refine z_iload_n (pc := 65) dX8_earned_65 rfl ?_
        refine z_iload (pc := 66) dX8_earned_66 rfl ?_
        refine z_let (fun (j : Int32 → zRes) => ∀ (s7 : Int32), zR yX8_earned cX8_earned 5 (some .int) 7 84 [.ref 0, .int x1, .null, .int x3, .null] [.int s7, .int x2] (nX g) (SX g) μ6 (j s7)) ?_ (fun j9 hj9 => ?_)
        · intro s7
          refine z_iadd (pc := 84) dX8_earned_84 ?_
          refine z_val (fun v8 => ?_)
          refine z_istore_n (pc := 85) (L' := [.ref 0, .int x1, .int v8, .int x3, .null]) dX8_earned_85 (by decide) rfl ?_
          refine z_iinc (pc := 86) (v := x3 + (1 : Int32)) (L' := [.ref 0, .int x1, .int v8, .int (x3 + (1 : Int32)), .null]) dX8_earned_86 (by decide) rfl (congrArg _ (by decide)) rfl ?_
          refine z_goto (pc := 89) (tgt := 10) dX8_earned_89 (by decide) ?_
          exact ih v8 (x3 + (1 : Int32)) μ6
        · refine z_if_eq (pc := 68) (tgt := 83) dX8_earned_68 (by decide) (fun c10 => ?_) (fun c11 => ?_)
          · refine z_iconst (pc := 83) (0 : Int32) dX8_earned_83 (by decide) ?_
            refine z_loc (L' := [.ref 0, .int x1, .null, .int x3, .null]) ⟨Or.inr rfl, ⟨Or.inr rfl, ⟨Or.inl rfl, ⟨Or.inr rfl, ⟨Or.inl rfl, trivial⟩⟩⟩⟩⟩ ?_
            exact hj9 (0 : Int32)
          · refine z_aload_n (pc := 71) dX8_earned_71 rfl ?_
            refine z_getr (pc := 72) fdX8_23 (nx_lt (by decide)) (sx_0 g) rfl rfl dX8_earned_72 ?_
            refine z_getr (pc := 75) fdX8_170 (nx_lt (by decide)) (sx_2 g) rfl rfl dX8_earned_75 ?_
            refine z_iload_n (pc := 78) dX8_earned_78 rfl ?_
            refine z_iald (pc := 79) (nx_lt (by decide)) (sx_8 g) rfl dX8_earned_79 (fun h12 => ?_)
            refine z_goto (pc := 80) (tgt := 84) dX8_earned_80 (by decide) ?_
            refine z_loc (L' := [.ref 0, .int x1, .null, .int x3, .null]) ⟨Or.inr rfl, ⟨Or.inr rfl, ⟨Or.inl rfl, ⟨Or.inr rfl, ⟨Or.inl rfl, trivial⟩⟩⟩⟩⟩ ?_
            exact hj9 (μ6 8 x3.toNatClampNeg)
      · refine z_if_ne (pc := 22) (tgt := 36) dX8_earned_22 (by decide) (fun c14 => ?_) (fun c15 => ?_)
        · refine z_aload_n (pc := 36) dX8_earned_36 rfl ?_
          refine z_getr (pc := 37) fdX8_44 (nx_lt (by decide)) (sx_0 g) rfl rfl dX8_earned_37 ?_
          refine z_iload_n (pc := 40) dX8_earned_40 rfl ?_
          refine z_callV (As := [.int x3]) (pc := 41) (ret' := some .boolean) kvX8_182 (t5_isOpen zSc_23 _ _) (by decide) (nx_lt (by decide)) (sx_23 g)  rfl rfl (Nat.le_of_ble_eq_true rfl) dX8_earned_41 (fun v16 μ17 => ?_)
          refine z_let (fun (j : zMem → zRes) => ∀ (μ18 : zMem), zR yX8_earned cX8_earned 5 (some .int) 7 62 [.ref 0, .int x1, .int x2, .int x3, .null] [] (nX g) (SX g) μ18 (j μ18)) ?_ (fun j19 hj19 => ?_)
          · intro μ18
            refine z_iconst (pc := 62) (0 : Int32) dX8_earned_62 (by decide) ?_
            exact hj13 (0 : Int32) μ18
          · refine z_if_ne (pc := 44) (tgt := 62) dX8_earned_44 (by decide) (fun c20 => ?_) (fun c21 => ?_)
            · exact hj19 μ17
            · refine z_aload_n (pc := 47) dX8_earned_47 rfl ?_
              refine z_getr (pc := 48) fdX8_44 (nx_lt (by decide)) (sx_0 g) rfl rfl dX8_earned_48 ?_
              refine z_iload_n (pc := 51) dX8_earned_51 rfl ?_
              refine z_callV (As := [.int x3]) (pc := 52) (ret' := some .boolean) kvX8_220 (t5_isTooLate zSc_23 _ _) (by decide) (nx_lt (by decide)) (sx_23 g)  rfl rfl (Nat.le_of_ble_eq_true rfl) dX8_earned_52 (fun v22 μ23 => ?_)
              refine z_if_eq (pc := 55) (tgt := 62) dX8_earned_55 (by decide) (fun c24 => ?_) (fun c25 => ?_)
              · exact hj19 μ23
              · refine z_iconst (pc := 58) (1 : Int32) dX8_earned_58 (by decide) ?_
                refine z_goto (pc := 59) (tgt := 63) dX8_earned_59 (by decide) ?_
                exact hj13 (1 : Int32) μ23
        · refine z_aload_n (pc := 25) dX8_earned_25 rfl ?_
          refine z_getr (pc := 26) fdX8_44 (nx_lt (by decide)) (sx_0 g) rfl rfl dX8_earned_26 ?_
          refine z_iload_n (pc := 29) dX8_earned_29 rfl ?_
          refine z_callV (As := [.int x3]) (pc := 30) (ret' := some .boolean) kvX8_182 (t5_isOpen zSc_23 _ _) (by decide) (nx_lt (by decide)) (sx_23 g)  rfl rfl (Nat.le_of_ble_eq_true rfl) dX8_earned_30 (fun v26 μ27 => ?_)
          refine z_goto (pc := 33) (tgt := 63) dX8_earned_33 (by decide) ?_
          exact hj13 v26 μ27
set_option maxHeartbeats 1000000 in
theorem t8_earned {g : Bool} (x1 : Int32) (μ : zMem) : zMR yX8_earned cX8_earned 5 (some .int) 7 [.ref 0, .int x1] (nX g) (SX g) μ (f8_earned x1 μ) := by
  refine zMR_of (by decide +kernel) rfl (Nat.le_of_ble_eq_true rfl) (L := [.ref 0, .int x1, .null, .null, .null]) rfl ?_
  unfold f8_earned
  refine z_aload_n (pc := 0) dX8_earned_0 rfl ?_
  refine z_iload_n (pc := 1) dX8_earned_1 rfl ?_
  refine z_iconst (pc := 2) (1 : Int32) dX8_earned_2 (by decide) ?_
  refine z_callX (As := [.int x1, .int (1 : Int32)]) (pc := 3) (ret' := none) kvX8_216 klX8_216 (t8_needWhat _ _ _) (by decide) (nx_lt (by decide)) (sx_0 g)  rfl rfl (Nat.le_of_ble_eq_true rfl) dX8_earned_3 (fun v1 μ2 => ?_)
  refine z_iconst (pc := 6) (0 : Int32) dX8_earned_6 (by decide) ?_
  refine z_istore_n (pc := 7) (L' := [.ref 0, .int x1, .int (0 : Int32), .null, .null]) dX8_earned_7 (by decide) rfl ?_
  refine z_iconst (pc := 8) (0 : Int32) dX8_earned_8 (by decide) ?_
  refine z_istore_n (pc := 9) (L' := [.ref 0, .int x1, .int (0 : Int32), .int (0 : Int32), .null]) dX8_earned_9 (by decide) rfl ?_
  refine t8_earned_L10 _ _ (fun x2_28 μ29 => ?_) zF _ _ _
  · refine z_iload_n (pc := 92) dX8_earned_92 rfl ?_
    exact z_iret (pc := 93) rfl dX8_earned_93
def f8_row (x1 : Int32) (x2 : Int32) (x3 : Int32) (x4 : Int32) (μ : zMem) : zRes := bnd (f8_needDoor x2 μ) (fun (v1 : Int32) (μ2 : zMem) => bnd (f8_needPerson x3 μ2) (fun (v3 : Int32) (μ4 : zMem) => bnd (f8_needPerson x4 μ4) (fun (v5 : Int32) (μ6 : zMem) => bnd (f8_needDay x1 μ6) (fun (v7 : Int32) (μ8 : zMem) => if (μ8 23 9) < (30 : Int32) then bnd0 (f8_workCode x2 x3 x4 μ8) (fun (v11 : Int32) (μ12 : zMem) => zin (μ8 23 9) 30 (zlet (zset μ12 27 (μ8 23 9).toNatClampNeg (((1000 : Int32) * x1) + v11)) (fun (μ14 : zMem) => zlet (zset μ14 23 9 ((μ14 23 9) + (1 : Int32))) (fun (μ15 : zMem) => some (0, μ15 23 9, μ15))))) else some (0, (-1 : Int32), μ8)))))
set_option maxHeartbeats 1000000 in
theorem t8_row {g : Bool} (x1 : Int32) (x2 : Int32) (x3 : Int32) (x4 : Int32) (μ : zMem) : zMR yX8_row cX8_row 5 (some .int) 7 [.ref 0, .int x1, .int x2, .int x3, .int x4] (nX g) (SX g) μ (f8_row x1 x2 x3 x4 μ) := by
  refine zMR_of (by decide +kernel) rfl (Nat.le_of_ble_eq_true rfl) (L := [.ref 0, .int x1, .int x2, .int x3, .int x4]) rfl ?_
  unfold f8_row
  refine z_aload_n (pc := 0) dX8_row_0 rfl ?_
  refine z_iload_n (pc := 1) dX8_row_1 rfl ?_
  refine z_callX (As := [.int x2]) (pc := 2) (ret' := none) kvX8_167 klX8_167 (t8_needDoor _ _) (by decide) (nx_lt (by decide)) (sx_0 g)  rfl rfl (Nat.le_of_ble_eq_true rfl) dX8_row_2 (fun v1 μ2 => ?_)
  refine z_aload_n (pc := 5) dX8_row_5 rfl ?_
  refine z_iload_n (pc := 6) dX8_row_6 rfl ?_
  refine z_callX (As := [.int x3]) (pc := 7) (ret' := none) kvX8_140 klX8_140 (t8_needPerson _ _) (by decide) (nx_lt (by decide)) (sx_0 g)  rfl rfl (Nat.le_of_ble_eq_true rfl) dX8_row_7 (fun v3 μ4 => ?_)
  refine z_aload_n (pc := 10) dX8_row_10 rfl ?_
  refine z_iload (pc := 11) dX8_row_11 rfl ?_
  refine z_callX (As := [.int x4]) (pc := 13) (ret' := none) kvX8_140 klX8_140 (t8_needPerson _ _) (by decide) (nx_lt (by decide)) (sx_0 g)  rfl rfl (Nat.le_of_ble_eq_true rfl) dX8_row_13 (fun v5 μ6 => ?_)
  refine z_aload_n (pc := 16) dX8_row_16 rfl ?_
  refine z_iload_n (pc := 17) dX8_row_17 rfl ?_
  refine z_callX (As := [.int x1]) (pc := 18) (ret' := none) kvX8_186 klX8_186 (t8_needDay _ _) (by decide) (nx_lt (by decide)) (sx_0 g)  rfl rfl (Nat.le_of_ble_eq_true rfl) dX8_row_18 (fun v7 μ8 => ?_)
  refine z_aload_n (pc := 21) dX8_row_21 rfl ?_
  refine z_getr (pc := 22) fdX8_44 (nx_lt (by decide)) (sx_0 g) rfl rfl dX8_row_22 ?_
  refine z_geti (pc := 25) fdX8_223 (nx_lt (by decide)) (sx_23 g) rfl dX8_row_25 ?_
  refine z_bipush (pc := 28) (30 : Int32) dX8_row_28 (by decide) ?_
  refine z_icmp_lt (pc := 30) (tgt := 35) dX8_row_30 (by decide) (fun c9 => ?_) (fun c10 => ?_)
  · refine z_aload_n (pc := 35) dX8_row_35 rfl ?_
    refine z_getr (pc := 36) fdX8_44 (nx_lt (by decide)) (sx_0 g) rfl rfl dX8_row_36 ?_
    refine z_getr (pc := 39) fdX8_226 (nx_lt (by decide)) (sx_23 g) rfl rfl dX8_row_39 ?_
    refine z_aload_n (pc := 42) dX8_row_42 rfl ?_
    refine z_getr (pc := 43) fdX8_44 (nx_lt (by decide)) (sx_0 g) rfl rfl dX8_row_43 ?_
    refine z_geti (pc := 46) fdX8_223 (nx_lt (by decide)) (sx_23 g) rfl dX8_row_46 ?_
    refine z_sipush (pc := 49) (1000 : Int32) dX8_row_49 (by decide) ?_
    refine z_iload_n (pc := 52) dX8_row_52 rfl ?_
    refine z_imul (pc := 53) dX8_row_53 ?_
    refine z_iload_n (pc := 54) dX8_row_54 rfl ?_
    refine z_iload_n (pc := 55) dX8_row_55 rfl ?_
    refine z_iload (pc := 56) dX8_row_56 rfl ?_
    refine z_callS (As := [.int x2, .int x3, .int x4]) (pc := 58) (ret' := some .int) ksX8_229 (t8_workCode _ _ _ _) (by decide)  rfl rfl (Nat.le_of_ble_eq_true rfl) dX8_row_58 (fun v11 μ12 => ?_)
    refine z_iadd (pc := 61) dX8_row_61 ?_
    refine z_iast (pc := 62) (nx_lt (by decide)) (sx_27 g) rfl dX8_row_62 (fun h13 => ?_)
    refine z_mem (fun μ14 => ?_)
    refine z_aload_n (pc := 63) dX8_row_63 rfl ?_
    refine z_getr (pc := 64) fdX8_44 (nx_lt (by decide)) (sx_0 g) rfl rfl dX8_row_64 ?_
    refine z_dup (pc := 67) dX8_row_67 rfl ?_
    refine z_geti (pc := 68) fdX8_223 (nx_lt (by decide)) (sx_23 g) rfl dX8_row_68 ?_
    refine z_iconst (pc := 71) (1 : Int32) dX8_row_71 (by decide) ?_
    refine z_iadd (pc := 72) dX8_row_72 ?_
    refine z_puti (pc := 73) fdX8_223 (nx_lt (by decide)) (sx_23 g) rfl rfl dX8_row_73 ?_
    refine z_mem (fun μ15 => ?_)
    refine z_aload_n (pc := 76) dX8_row_76 rfl ?_
    refine z_getr (pc := 77) fdX8_44 (nx_lt (by decide)) (sx_0 g) rfl rfl dX8_row_77 ?_
    refine z_geti (pc := 80) fdX8_223 (nx_lt (by decide)) (sx_23 g) rfl dX8_row_80 ?_
    exact z_iret (pc := 83) rfl dX8_row_83
  · refine z_iconst (pc := 33) (-1 : Int32) dX8_row_33 (by decide) ?_
    exact z_iret (pc := 34) rfl dX8_row_34
def f8_playRow (x1 : Int32) (μ : zMem) : zRes := zlet (x1 / (1000 : Int32)) (fun (v1 : Int32) => bnd0 (f8_doorOfRow x1 μ) (fun (v2 : Int32) (μ3 : zMem) => zlet (zrem (x1 / (10 : Int32)) (10 : Int32)) (fun (v4 : Int32) => zlet (zrem x1 (10 : Int32)) (fun (v5 : Int32) => if (μ3 28 1) ≤ v1 then zlet (fun (μ8 : zMem) => bnd0 (f5_errs 28 v2 v4 v5 μ8) (fun (v9 : Int32) (μ10 : zMem) => zlet (fun (μ11 : zMem) => some (0, v9, μ11)) (fun j12 => if v9 = 0 then bnd0 (f5_doWork 28 v2 v4 v5 μ10) (fun (v15 : Int32) (μ16 : zMem) => j12 μ16) else j12 μ10))) (fun j17 => if v1 ≤ (μ3 28 1) then j17 μ3 else bnd0 (f5_beginDay 28 v1 μ3) (fun (v20 : Int32) (μ21 : zMem) => j17 μ21)) else some (0, (6 : Int32), μ3)))))
set_option maxHeartbeats 1000000 in
theorem t8_playRow {g : Bool} (x1 : Int32) (μ : zMem) : zMR yX8_playRow cX8_playRow 7 (some .int) 4 [.ref 0, .int x1] (nX g) (SX g) μ (f8_playRow x1 μ) := by
  refine zMR_of (by decide +kernel) rfl (Nat.le_of_ble_eq_true rfl) (L := [.ref 0, .int x1, .null, .null, .null, .null, .null]) rfl ?_
  unfold f8_playRow
  refine z_iload_n (pc := 0) dX8_playRow_0 rfl ?_
  refine z_sipush (pc := 1) (1000 : Int32) dX8_playRow_1 (by decide) ?_
  refine z_idivc (pc := 4) dX8_playRow_4 (by decide) ?_
  refine z_val (fun v1 => ?_)
  refine z_istore_n (pc := 5) (L' := [.ref 0, .int x1, .int v1, .null, .null, .null, .null]) dX8_playRow_5 (by decide) rfl ?_
  refine z_iload_n (pc := 6) dX8_playRow_6 rfl ?_
  refine z_callS (As := [.int x1]) (pc := 7) (ret' := some .int) ksX8_239 (t8_doorOfRow _ _) (by decide)  rfl rfl (Nat.le_of_ble_eq_true rfl) dX8_playRow_7 (fun v2 μ3 => ?_)
  refine z_istore_n (pc := 10) (L' := [.ref 0, .int x1, .int v1, .int v2, .null, .null, .null]) dX8_playRow_10 (by decide) rfl ?_
  refine z_iload_n (pc := 11) dX8_playRow_11 rfl ?_
  refine z_bipush (pc := 12) (10 : Int32) dX8_playRow_12 (by decide) ?_
  refine z_idivc (pc := 14) dX8_playRow_14 (by decide) ?_
  refine z_bipush (pc := 15) (10 : Int32) dX8_playRow_15 (by decide) ?_
  refine z_iremc (pc := 17) dX8_playRow_17 (by decide) ?_
  refine z_val (fun v4 => ?_)
  refine z_istore (pc := 18) (L' := [.ref 0, .int x1, .int v1, .int v2, .int v4, .null, .null]) dX8_playRow_18 (by decide) rfl ?_
  refine z_iload_n (pc := 20) dX8_playRow_20 rfl ?_
  refine z_bipush (pc := 21) (10 : Int32) dX8_playRow_21 (by decide) ?_
  refine z_iremc (pc := 23) dX8_playRow_23 (by decide) ?_
  refine z_val (fun v5 => ?_)
  refine z_istore (pc := 24) (L' := [.ref 0, .int x1, .int v1, .int v2, .int v4, .int v5, .null]) dX8_playRow_24 (by decide) rfl ?_
  refine z_iload_n (pc := 26) dX8_playRow_26 rfl ?_
  refine z_aload_n (pc := 27) dX8_playRow_27 rfl ?_
  refine z_getr (pc := 28) fdX8_48 (nx_lt (by decide)) (sx_0 g) rfl rfl dX8_playRow_28 ?_
  refine z_geti (pc := 31) fdX8_204 (nx_lt (by decide)) (sx_28 g) rfl dX8_playRow_31 ?_
  refine z_icmp_ge (pc := 34) (tgt := 40) dX8_playRow_34 (by decide) (fun c6 => ?_) (fun c7 => ?_)
  · refine z_iload_n (pc := 40) dX8_playRow_40 rfl ?_
    refine z_aload_n (pc := 41) dX8_playRow_41 rfl ?_
    refine z_getr (pc := 42) fdX8_48 (nx_lt (by decide)) (sx_0 g) rfl rfl dX8_playRow_42 ?_
    refine z_geti (pc := 45) fdX8_204 (nx_lt (by decide)) (sx_28 g) rfl dX8_playRow_45 ?_
    refine z_let (fun (j : zMem → zRes) => ∀ (μ8 : zMem), zR yX8_playRow cX8_playRow 7 (some .int) 4 59 [.ref 0, .null, .null, .int v2, .int v4, .int v5, .null] [] (nX g) (SX g) μ8 (j μ8)) ?_ (fun j17 hj17 => ?_)
    · intro μ8
      refine z_aload_n (pc := 59) dX8_playRow_59 rfl ?_
      refine z_getr (pc := 60) fdX8_48 (nx_lt (by decide)) (sx_0 g) rfl rfl dX8_playRow_60 ?_
      refine z_iload_n (pc := 63) dX8_playRow_63 rfl ?_
      refine z_iload (pc := 64) dX8_playRow_64 rfl ?_
      refine z_iload (pc := 66) dX8_playRow_66 rfl ?_
      refine z_callV (As := [.int v2, .int v4, .int v5]) (pc := 68) (ret' := some .int) kvX8_192 (t5_errs zSc_28 _ _ _ _) (by decide) (nx_lt (by decide)) (sx_28 g)  rfl rfl (Nat.le_of_ble_eq_true rfl) dX8_playRow_68 (fun v9 μ10 => ?_)
      refine z_istore (pc := 71) (L' := [.ref 0, .null, .null, .int v2, .int v4, .int v5, .int v9]) dX8_playRow_71 (by decide) rfl ?_
      refine z_iload (pc := 73) dX8_playRow_73 rfl ?_
      refine z_let (fun (j : zMem → zRes) => ∀ (μ11 : zMem), zR yX8_playRow cX8_playRow 7 (some .int) 4 91 [.null, .null, .null, .null, .null, .null, .int v9] [] (nX g) (SX g) μ11 (j μ11)) ?_ (fun j12 hj12 => ?_)
      · intro μ11
        refine z_iload (pc := 91) dX8_playRow_91 rfl ?_
        exact z_iret (pc := 93) rfl dX8_playRow_93
      · refine z_if_ne (pc := 75) (tgt := 91) dX8_playRow_75 (by decide) (fun c13 => ?_) (fun c14 => ?_)
        · refine z_loc (L' := [.null, .null, .null, .null, .null, .null, .int v9]) ⟨Or.inl rfl, ⟨Or.inl rfl, ⟨Or.inl rfl, ⟨Or.inl rfl, ⟨Or.inl rfl, ⟨Or.inl rfl, ⟨Or.inr rfl, trivial⟩⟩⟩⟩⟩⟩⟩ ?_
          exact hj12 μ10
        · refine z_aload_n (pc := 78) dX8_playRow_78 rfl ?_
          refine z_getr (pc := 79) fdX8_48 (nx_lt (by decide)) (sx_0 g) rfl rfl dX8_playRow_79 ?_
          refine z_iload_n (pc := 82) dX8_playRow_82 rfl ?_
          refine z_iload (pc := 83) dX8_playRow_83 rfl ?_
          refine z_iload (pc := 85) dX8_playRow_85 rfl ?_
          refine z_callV (As := [.int v2, .int v4, .int v5]) (pc := 87) (ret' := some .int) kvX8_196 (t5_doWork zSc_28 _ _ _ _) (by decide) (nx_lt (by decide)) (sx_28 g)  rfl rfl (Nat.le_of_ble_eq_true rfl) dX8_playRow_87 (fun v15 μ16 => ?_)
          refine z_pop (pc := 90) dX8_playRow_90 rfl ?_
          refine z_loc (L' := [.null, .null, .null, .null, .null, .null, .int v9]) ⟨Or.inl rfl, ⟨Or.inl rfl, ⟨Or.inl rfl, ⟨Or.inl rfl, ⟨Or.inl rfl, ⟨Or.inl rfl, ⟨Or.inr rfl, trivial⟩⟩⟩⟩⟩⟩⟩ ?_
          exact hj12 μ16
    · refine z_icmp_le (pc := 48) (tgt := 59) dX8_playRow_48 (by decide) (fun c18 => ?_) (fun c19 => ?_)
      · refine z_loc (L' := [.ref 0, .null, .null, .int v2, .int v4, .int v5, .null]) ⟨Or.inr rfl, ⟨Or.inl rfl, ⟨Or.inl rfl, ⟨Or.inr rfl, ⟨Or.inr rfl, ⟨Or.inr rfl, ⟨Or.inl rfl, trivial⟩⟩⟩⟩⟩⟩⟩ ?_
        exact hj17 μ3
      · refine z_aload_n (pc := 51) dX8_playRow_51 rfl ?_
        refine z_getr (pc := 52) fdX8_48 (nx_lt (by decide)) (sx_0 g) rfl rfl dX8_playRow_52 ?_
        refine z_iload_n (pc := 55) dX8_playRow_55 rfl ?_
        refine z_callV (As := [.int v1]) (pc := 56) (ret' := none) kvX8_207 (t5_beginDay zSc_28 _ _) (by decide) (nx_lt (by decide)) (sx_28 g)  rfl rfl (Nat.le_of_ble_eq_true rfl) dX8_playRow_56 (fun v20 μ21 => ?_)
        refine z_loc (L' := [.ref 0, .null, .null, .int v2, .int v4, .int v5, .null]) ⟨Or.inr rfl, ⟨Or.inl rfl, ⟨Or.inl rfl, ⟨Or.inr rfl, ⟨Or.inr rfl, ⟨Or.inr rfl, ⟨Or.inl rfl, trivial⟩⟩⟩⟩⟩⟩⟩ ?_
        exact hj17 μ21
  · refine z_bipush (pc := 37) (6 : Int32) dX8_playRow_37 (by decide) ?_
    exact z_iret (pc := 39) rfl dX8_playRow_39
def f8_judge_L24 (K104 : Int32 → Int32 → zMem → zRes) : Nat → Int32 → Int32 → Int32 → zMem → zRes
  | 0, _, _, _, _ => none
  | n + 1, x2, x3, x4, μ => if (μ 23 9) ≤ x4 then K104 x2 x3 μ else zin x4 30 (bnd0 (f8_playRow (μ 27 x4.toNatClampNeg) μ) (fun (v8 : Int32) (μ9 : zMem) => zlet (fun (x2_10 : Int32) (x3_11 : Int32) (μ12 : zMem) => f8_judge_L24 K104 n x2_10 x3_11 (x4 + (1 : Int32)) μ12) (fun j13 => if v8 = 0 then zin x4 30 (bnd0 (f8_doorOfRow (μ9 27 x4.toNatClampNeg) μ9) (fun (v20 : Int32) (μ21 : zMem) => zin v20 10 (zlet (x3 + (μ21 8 v20.toNatClampNeg)) (fun (v23 : Int32) => j13 x2 v23 μ21)))) else if x2 = (-1 : Int32) then zlet (((10 : Int32) * x4) + v8) (fun (v18 : Int32) => j13 v18 x3 μ9) else j13 x2 x3 μ9)))
def f8_judge (x1 : Int32) (μ : zMem) : zRes := bnd (f8_needWhat x1 (1 : Int32) μ) (fun (v1 : Int32) (μ2 : zMem) => bnd0 (f5_copyWorld 28 23 μ2) (fun (v3 : Int32) (μ4 : zMem) => f8_judge_L24 (fun (x2_24 : Int32) (x3_25 : Int32) (μ26 : zMem) => zlet (fun (s27 : Int32) => some (0, s27, μ26)) (fun j28 => if x1 = 0 then j28 x2_24 else j28 x3_25)) zF (-1 : Int32) (0 : Int32) (0 : Int32) μ4))
set_option maxHeartbeats 1000000 in
theorem t8_judge_L24 {g : Bool} (x1 : Int32) (K104 : Int32 → Int32 → zMem → zRes) (hK104 : ∀ (x2 : Int32) (x3 : Int32) (μ : zMem), zR yX8_judge cX8_judge 6 (some .int) 7 104 [.null, .int x1, .int x2, .int x3, .null, .null] [] (nX g) (SX g) μ (K104 x2 x3 μ)) : ∀ (n : Nat) (x2 : Int32) (x3 : Int32) (x4 : Int32) (μ : zMem), zR yX8_judge cX8_judge 6 (some .int) 7 24 [.ref 0, .int x1, .int x2, .int x3, .int x4, .null] [] (nX g) (SX g) μ (f8_judge_L24 K104 n x2 x3 x4 μ) := by
  intro n
  induction n with
  | zero => intro x2 x3 x4 μ; intro q hq; cases hq
  | succ n ih =>
    intro x2 x3 x4 μ
    unfold f8_judge_L24
    refine z_iload (pc := 24) dX8_judge_24 rfl ?_
    refine z_aload_n (pc := 26) dX8_judge_26 rfl ?_
    refine z_getr (pc := 27) fdX8_44 (nx_lt (by decide)) (sx_0 g) rfl rfl dX8_judge_27 ?_
    refine z_geti (pc := 30) fdX8_223 (nx_lt (by decide)) (sx_23 g) rfl dX8_judge_30 ?_
    refine z_icmp_ge (pc := 33) (tgt := 104) dX8_judge_33 (by decide) (fun c5 => ?_) (fun c6 => ?_)
    · refine z_loc (L' := [.null, .int x1, .int x2, .int x3, .null, .null]) ⟨Or.inl rfl, ⟨Or.inr rfl, ⟨Or.inr rfl, ⟨Or.inr rfl, ⟨Or.inl rfl, ⟨Or.inl rfl, trivial⟩⟩⟩⟩⟩⟩ ?_
      exact hK104 x2 x3 μ
    · refine z_aload_n (pc := 36) dX8_judge_36 rfl ?_
      refine z_aload_n (pc := 37) dX8_judge_37 rfl ?_
      refine z_getr (pc := 38) fdX8_44 (nx_lt (by decide)) (sx_0 g) rfl rfl dX8_judge_38 ?_
      refine z_getr (pc := 41) fdX8_226 (nx_lt (by decide)) (sx_23 g) rfl rfl dX8_judge_41 ?_
      refine z_iload (pc := 44) dX8_judge_44 rfl ?_
      refine z_iald (pc := 46) (nx_lt (by decide)) (sx_27 g) rfl dX8_judge_46 (fun h7 => ?_)
      refine z_callV (As := [.int (μ 27 x4.toNatClampNeg)]) (pc := 47) (ret' := some .int) kvX8_236 (t8_playRow _ _) (by decide) (nx_lt (by decide)) (sx_0 g)  rfl rfl (Nat.le_of_ble_eq_true rfl) dX8_judge_47 (fun v8 μ9 => ?_)
      refine z_istore (pc := 50) (L' := [.ref 0, .int x1, .int x2, .int x3, .int x4, .int v8]) dX8_judge_50 (by decide) rfl ?_
      refine z_iload (pc := 52) dX8_judge_52 rfl ?_
      refine z_let (fun (j : Int32 → Int32 → zMem → zRes) => ∀ (x2_10 : Int32) (x3_11 : Int32) (μ12 : zMem), zR yX8_judge cX8_judge 6 (some .int) 7 98 [.ref 0, .int x1, .int x2_10, .int x3_11, .int x4, .null] [] (nX g) (SX g) μ12 (j x2_10 x3_11 μ12)) ?_ (fun j13 hj13 => ?_)
      · intro x2_10 x3_11 μ12
        refine z_iinc (pc := 98) (v := x4 + (1 : Int32)) (L' := [.ref 0, .int x1, .int x2_10, .int x3_11, .int (x4 + (1 : Int32)), .null]) dX8_judge_98 (by decide) rfl (congrArg _ (by decide)) rfl ?_
        refine z_goto (pc := 101) (tgt := 24) dX8_judge_101 (by decide) ?_
        exact ih x2_10 x3_11 (x4 + (1 : Int32)) μ12
      · refine z_if_ne (pc := 54) (tgt := 84) dX8_judge_54 (by decide) (fun c14 => ?_) (fun c15 => ?_)
        · refine z_iload_n (pc := 84) dX8_judge_84 rfl ?_
          refine z_iconst (pc := 85) (-1 : Int32) dX8_judge_85 (by decide) ?_
          refine z_icmp_ne (pc := 86) (tgt := 98) dX8_judge_86 (by decide) (fun c16 => ?_) (fun c17 => ?_)
          · refine z_loc (L' := [.ref 0, .int x1, .int x2, .int x3, .int x4, .null]) ⟨Or.inr rfl, ⟨Or.inr rfl, ⟨Or.inr rfl, ⟨Or.inr rfl, ⟨Or.inr rfl, ⟨Or.inl rfl, trivial⟩⟩⟩⟩⟩⟩ ?_
            exact hj13 x2 x3 μ9
          · refine z_bipush (pc := 89) (10 : Int32) dX8_judge_89 (by decide) ?_
            refine z_iload (pc := 91) dX8_judge_91 rfl ?_
            refine z_imul (pc := 93) dX8_judge_93 ?_
            refine z_iload (pc := 94) dX8_judge_94 rfl ?_
            refine z_iadd (pc := 96) dX8_judge_96 ?_
            refine z_val (fun v18 => ?_)
            refine z_istore_n (pc := 97) (L' := [.ref 0, .int x1, .int v18, .int x3, .int x4, .int v8]) dX8_judge_97 (by decide) rfl ?_
            refine z_loc (L' := [.ref 0, .int x1, .int v18, .int x3, .int x4, .null]) ⟨Or.inr rfl, ⟨Or.inr rfl, ⟨Or.inr rfl, ⟨Or.inr rfl, ⟨Or.inr rfl, ⟨Or.inl rfl, trivial⟩⟩⟩⟩⟩⟩ ?_
            exact hj13 v18 x3 μ9
        · refine z_iload_n (pc := 57) dX8_judge_57 rfl ?_
          refine z_aload_n (pc := 58) dX8_judge_58 rfl ?_
          refine z_getr (pc := 59) fdX8_23 (nx_lt (by decide)) (sx_0 g) rfl rfl dX8_judge_59 ?_
          refine z_getr (pc := 62) fdX8_170 (nx_lt (by decide)) (sx_2 g) rfl rfl dX8_judge_62 ?_
          refine z_aload_n (pc := 65) dX8_judge_65 rfl ?_
          refine z_getr (pc := 66) fdX8_44 (nx_lt (by decide)) (sx_0 g) rfl rfl dX8_judge_66 ?_
          refine z_getr (pc := 69) fdX8_226 (nx_lt (by decide)) (sx_23 g) rfl rfl dX8_judge_69 ?_
          refine z_iload (pc := 72) dX8_judge_72 rfl ?_
          refine z_iald (pc := 74) (nx_lt (by decide)) (sx_27 g) rfl dX8_judge_74 (fun h19 => ?_)
          refine z_callS (As := [.int (μ9 27 x4.toNatClampNeg)]) (pc := 75) (ret' := some .int) ksX8_239 (t8_doorOfRow _ _) (by decide)  rfl rfl (Nat.le_of_ble_eq_true rfl) dX8_judge_75 (fun v20 μ21 => ?_)
          refine z_iald (pc := 78) (nx_lt (by decide)) (sx_8 g) rfl dX8_judge_78 (fun h22 => ?_)
          refine z_iadd (pc := 79) dX8_judge_79 ?_
          refine z_val (fun v23 => ?_)
          refine z_istore_n (pc := 80) (L' := [.ref 0, .int x1, .int x2, .int v23, .int x4, .int v8]) dX8_judge_80 (by decide) rfl ?_
          refine z_goto (pc := 81) (tgt := 98) dX8_judge_81 (by decide) ?_
          refine z_loc (L' := [.ref 0, .int x1, .int x2, .int v23, .int x4, .null]) ⟨Or.inr rfl, ⟨Or.inr rfl, ⟨Or.inr rfl, ⟨Or.inr rfl, ⟨Or.inr rfl, ⟨Or.inl rfl, trivial⟩⟩⟩⟩⟩⟩ ?_
          exact hj13 x2 v23 μ21
set_option maxHeartbeats 1000000 in
theorem t8_judge {g : Bool} (x1 : Int32) (μ : zMem) : zMR yX8_judge cX8_judge 6 (some .int) 7 [.ref 0, .int x1] (nX g) (SX g) μ (f8_judge x1 μ) := by
  refine zMR_of (by decide +kernel) rfl (Nat.le_of_ble_eq_true rfl) (L := [.ref 0, .int x1, .null, .null, .null, .null]) rfl ?_
  unfold f8_judge
  refine z_aload_n (pc := 0) dX8_judge_0 rfl ?_
  refine z_iload_n (pc := 1) dX8_judge_1 rfl ?_
  refine z_iconst (pc := 2) (1 : Int32) dX8_judge_2 (by decide) ?_
  refine z_callX (As := [.int x1, .int (1 : Int32)]) (pc := 3) (ret' := none) kvX8_216 klX8_216 (t8_needWhat _ _ _) (by decide) (nx_lt (by decide)) (sx_0 g)  rfl rfl (Nat.le_of_ble_eq_true rfl) dX8_judge_3 (fun v1 μ2 => ?_)
  refine z_aload_n (pc := 6) dX8_judge_6 rfl ?_
  refine z_getr (pc := 7) fdX8_48 (nx_lt (by decide)) (sx_0 g) rfl rfl dX8_judge_7 ?_
  refine z_aload_n (pc := 10) dX8_judge_10 rfl ?_
  refine z_getr (pc := 11) fdX8_44 (nx_lt (by decide)) (sx_0 g) rfl rfl dX8_judge_11 ?_
  refine z_callV (As := [.ref 23]) (pc := 14) (ret' := none) kvX8_232 (t5_copyWorld zSc_28 zSc_23 _) (by decide) (nx_lt (by decide)) (sx_28 g)  rfl rfl (Nat.le_of_ble_eq_true rfl) dX8_judge_14 (fun v3 μ4 => ?_)
  refine z_iconst (pc := 17) (-1 : Int32) dX8_judge_17 (by decide) ?_
  refine z_istore_n (pc := 18) (L' := [.ref 0, .int x1, .int (-1 : Int32), .null, .null, .null]) dX8_judge_18 (by decide) rfl ?_
  refine z_iconst (pc := 19) (0 : Int32) dX8_judge_19 (by decide) ?_
  refine z_istore_n (pc := 20) (L' := [.ref 0, .int x1, .int (-1 : Int32), .int (0 : Int32), .null, .null]) dX8_judge_20 (by decide) rfl ?_
  refine z_iconst (pc := 21) (0 : Int32) dX8_judge_21 (by decide) ?_
  refine z_istore (pc := 22) (L' := [.ref 0, .int x1, .int (-1 : Int32), .int (0 : Int32), .int (0 : Int32), .null]) dX8_judge_22 (by decide) rfl ?_
  refine t8_judge_L24 _ _ (fun x2_24 x3_25 μ26 => ?_) zF _ _ _ _
  · refine z_iload_n (pc := 104) dX8_judge_104 rfl ?_
    refine z_let (fun (j : Int32 → zRes) => ∀ (s27 : Int32), zR yX8_judge cX8_judge 6 (some .int) 7 113 [.null, .null, .null, .null, .null, .null] [.int s27] (nX g) (SX g) μ26 (j s27)) ?_ (fun j28 hj28 => ?_)
    · intro s27
      exact z_iret (pc := 113) rfl dX8_judge_113
    · refine z_if_ne (pc := 105) (tgt := 112) dX8_judge_105 (by decide) (fun c29 => ?_) (fun c30 => ?_)
      · refine z_iload_n (pc := 112) dX8_judge_112 rfl ?_
        refine z_loc (L' := [.null, .null, .null, .null, .null, .null]) ⟨Or.inl rfl, ⟨Or.inl rfl, ⟨Or.inl rfl, ⟨Or.inl rfl, ⟨Or.inl rfl, ⟨Or.inl rfl, trivial⟩⟩⟩⟩⟩⟩ ?_
        exact hj28 x3_25
      · refine z_iload_n (pc := 108) dX8_judge_108 rfl ?_
        refine z_goto (pc := 109) (tgt := 113) dX8_judge_109 (by decide) ?_
        refine z_loc (L' := [.null, .null, .null, .null, .null, .null]) ⟨Or.inl rfl, ⟨Or.inl rfl, ⟨Or.inl rfl, ⟨Or.inl rfl, ⟨Or.inl rfl, ⟨Or.inl rfl, trivial⟩⟩⟩⟩⟩⟩ ?_
        exact hj28 x2_24
def f8_needQuestionOrNone (x1 : Int32) (μ : zMem) : zRes := zlet (fun (μ1 : zMem) => some (0, 0, μ1)) (fun j2 => if x1 = (-1 : Int32) then j2 μ else bnd (f8_needQuestion x1 μ) (fun (v5 : Int32) (μ6 : zMem) => j2 μ6))
set_option maxHeartbeats 1000000 in
theorem t8_needQuestionOrNone {g : Bool} (x1 : Int32) (μ : zMem) : zMR yX8_needQuestionOrNone cX8_needQuestionOrNone 2 (none) 7 [.ref 0, .int x1] (nX g) (SX g) μ (f8_needQuestionOrNone x1 μ) := by
  refine zMR_of (by decide +kernel) rfl (Nat.le_of_ble_eq_true rfl) (L := [.ref 0, .int x1]) rfl ?_
  unfold f8_needQuestionOrNone
  refine z_iload_n (pc := 0) dX8_needQuestionOrNone_0 rfl ?_
  refine z_iconst (pc := 1) (-1 : Int32) dX8_needQuestionOrNone_1 (by decide) ?_
  refine z_let (fun (j : zMem → zRes) => ∀ (μ1 : zMem), zR yX8_needQuestionOrNone cX8_needQuestionOrNone 2 (none) 7 10 [.null, .null] [] (nX g) (SX g) μ1 (j μ1)) ?_ (fun j2 hj2 => ?_)
  · intro μ1
    exact z_vret (pc := 10) rfl dX8_needQuestionOrNone_10
  · refine z_icmp_eq (pc := 2) (tgt := 10) dX8_needQuestionOrNone_2 (by decide) (fun c3 => ?_) (fun c4 => ?_)
    · refine z_loc (L' := [.null, .null]) ⟨Or.inl rfl, ⟨Or.inl rfl, trivial⟩⟩ ?_
      exact hj2 μ
    · refine z_aload_n (pc := 5) dX8_needQuestionOrNone_5 rfl ?_
      refine z_iload_n (pc := 6) dX8_needQuestionOrNone_6 rfl ?_
      refine z_callX (As := [.int x1]) (pc := 7) (ret' := none) kvX8_143 klX8_143 (t8_needQuestion _ _) (by decide) (nx_lt (by decide)) (sx_0 g)  rfl rfl (Nat.le_of_ble_eq_true rfl) dX8_needQuestionOrNone_7 (fun v5 μ6 => ?_)
      refine z_loc (L' := [.null, .null]) ⟨Or.inl rfl, ⟨Or.inl rfl, trivial⟩⟩ ?_
      exact hj2 μ6
def f8_today (x1 : Int32) (x2 : Int32) (μ : zMem) : zRes := bnd (f8_needQuestionOrNone x1 μ) (fun (v1 : Int32) (μ2 : zMem) => bnd (f8_needWhat x2 (1 : Int32) μ2) (fun (v3 : Int32) (μ4 : zMem) => bnd0 (f8_planToday x1 μ4) (fun (v5 : Int32) (μ6 : zMem) => zlet (fun (s7 : Int32) (μ8 : zMem) => some (0, s7, μ8)) (fun j9 => if x2 = 0 then bnd0 (f2_worthAtMost μ6) (fun (v14 : Int32) (μ15 : zMem) => j9 v14 μ15) else bnd0 (f2_doorsAtMost μ6) (fun (v12 : Int32) (μ13 : zMem) => j9 v12 μ13)))))
set_option maxHeartbeats 1000000 in
theorem t8_today {g : Bool} (x1 : Int32) (x2 : Int32) (μ : zMem) : zMR yX8_today cX8_today 3 (some .int) 8 [.ref 0, .int x1, .int x2] (nX g) (SX g) μ (f8_today x1 x2 μ) := by
  refine zMR_of (by decide +kernel) rfl (Nat.le_of_ble_eq_true rfl) (L := [.ref 0, .int x1, .int x2]) rfl ?_
  unfold f8_today
  refine z_aload_n (pc := 0) dX8_today_0 rfl ?_
  refine z_iload_n (pc := 1) dX8_today_1 rfl ?_
  refine z_callX (As := [.int x1]) (pc := 2) (ret' := none) kvX8_242 klX8_242 (t8_needQuestionOrNone _ _) (by decide) (nx_lt (by decide)) (sx_0 g)  rfl rfl (Nat.le_of_ble_eq_true rfl) dX8_today_2 (fun v1 μ2 => ?_)
  refine z_aload_n (pc := 5) dX8_today_5 rfl ?_
  refine z_iload_n (pc := 6) dX8_today_6 rfl ?_
  refine z_iconst (pc := 7) (1 : Int32) dX8_today_7 (by decide) ?_
  refine z_callX (As := [.int x2, .int (1 : Int32)]) (pc := 8) (ret' := none) kvX8_216 klX8_216 (t8_needWhat _ _ _) (by decide) (nx_lt (by decide)) (sx_0 g)  rfl rfl (Nat.le_of_ble_eq_true rfl) dX8_today_8 (fun v3 μ4 => ?_)
  refine z_aload_n (pc := 11) dX8_today_11 rfl ?_
  refine z_iload_n (pc := 12) dX8_today_12 rfl ?_
  refine z_callV (As := [.int x1]) (pc := 13) (ret' := none) kvX8_245 (t8_planToday _ _) (by decide) (nx_lt (by decide)) (sx_0 g)  rfl rfl (Nat.le_of_ble_eq_true rfl) dX8_today_13 (fun v5 μ6 => ?_)
  refine z_iload_n (pc := 16) dX8_today_16 rfl ?_
  refine z_let (fun (j : Int32 → zMem → zRes) => ∀ (s7 : Int32) (μ8 : zMem), zR yX8_today cX8_today 3 (some .int) 8 37 [.null, .null, .null] [.int s7] (nX g) (SX g) μ8 (j s7 μ8)) ?_ (fun j9 hj9 => ?_)
  · intro s7 μ8
    exact z_iret (pc := 37) rfl dX8_today_37
  · refine z_if_ne (pc := 17) (tgt := 30) dX8_today_17 (by decide) (fun c10 => ?_) (fun c11 => ?_)
    · refine z_aload_n (pc := 30) dX8_today_30 rfl ?_
      refine z_getr (pc := 31) fdX8_61 (nx_lt (by decide)) (sx_0 g) rfl rfl dX8_today_31 ?_
      refine z_callV (As := []) (pc := 34) (ret' := some .int) kvX8_251 (t2_doorsAtMost _) (by decide) (nx_lt (by decide)) (sx_49 g)  rfl rfl (Nat.le_of_ble_eq_true rfl) dX8_today_34 (fun v12 μ13 => ?_)
      refine z_loc (L' := [.null, .null, .null]) ⟨Or.inl rfl, ⟨Or.inl rfl, ⟨Or.inl rfl, trivial⟩⟩⟩ ?_
      exact hj9 v12 μ13
    · refine z_aload_n (pc := 20) dX8_today_20 rfl ?_
      refine z_getr (pc := 21) fdX8_61 (nx_lt (by decide)) (sx_0 g) rfl rfl dX8_today_21 ?_
      refine z_callV (As := []) (pc := 24) (ret' := some .int) kvX8_248 (t2_worthAtMost _) (by decide) (nx_lt (by decide)) (sx_49 g)  rfl rfl (Nat.le_of_ble_eq_true rfl) dX8_today_24 (fun v14 μ15 => ?_)
      refine z_goto (pc := 27) (tgt := 37) dX8_today_27 (by decide) ?_
      refine z_loc (L' := [.null, .null, .null]) ⟨Or.inl rfl, ⟨Or.inl rfl, ⟨Or.inl rfl, trivial⟩⟩⟩ ?_
      exact hj9 v14 μ15
def f8_pair (x1 : Int32) (x2 : Int32) (μ : zMem) : zRes := bnd (f8_needQuestionOrNone x1 μ) (fun (v1 : Int32) (μ2 : zMem) => bnd (f8_needDoor x2 μ2) (fun (v3 : Int32) (μ4 : zMem) => bnd0 (f8_planToday x1 μ4) (fun (v5 : Int32) (μ6 : zMem) => bnd0 (f2_seatedAt x2 μ6) (fun (v7 : Int32) (μ8 : zMem) => some (0, v7, μ8)))))
set_option maxHeartbeats 1000000 in
theorem t8_pair {g : Bool} (x1 : Int32) (x2 : Int32) (μ : zMem) : zMR yX8_pair cX8_pair 3 (some .int) 17 [.ref 0, .int x1, .int x2] (nX g) (SX g) μ (f8_pair x1 x2 μ) := by
  refine zMR_of (by decide +kernel) rfl (Nat.le_of_ble_eq_true rfl) (L := [.ref 0, .int x1, .int x2]) rfl ?_
  unfold f8_pair
  refine z_aload_n (pc := 0) dX8_pair_0 rfl ?_
  refine z_iload_n (pc := 1) dX8_pair_1 rfl ?_
  refine z_callX (As := [.int x1]) (pc := 2) (ret' := none) kvX8_242 klX8_242 (t8_needQuestionOrNone _ _) (by decide) (nx_lt (by decide)) (sx_0 g)  rfl rfl (Nat.le_of_ble_eq_true rfl) dX8_pair_2 (fun v1 μ2 => ?_)
  refine z_aload_n (pc := 5) dX8_pair_5 rfl ?_
  refine z_iload_n (pc := 6) dX8_pair_6 rfl ?_
  refine z_callX (As := [.int x2]) (pc := 7) (ret' := none) kvX8_167 klX8_167 (t8_needDoor _ _) (by decide) (nx_lt (by decide)) (sx_0 g)  rfl rfl (Nat.le_of_ble_eq_true rfl) dX8_pair_7 (fun v3 μ4 => ?_)
  refine z_aload_n (pc := 10) dX8_pair_10 rfl ?_
  refine z_iload_n (pc := 11) dX8_pair_11 rfl ?_
  refine z_callV (As := [.int x1]) (pc := 12) (ret' := none) kvX8_245 (t8_planToday _ _) (by decide) (nx_lt (by decide)) (sx_0 g)  rfl rfl (Nat.le_of_ble_eq_true rfl) dX8_pair_12 (fun v5 μ6 => ?_)
  refine z_aload_n (pc := 15) dX8_pair_15 rfl ?_
  refine z_getr (pc := 16) fdX8_61 (nx_lt (by decide)) (sx_0 g) rfl rfl dX8_pair_16 ?_
  refine z_iload_n (pc := 19) dX8_pair_19 rfl ?_
  refine z_callV (As := [.int x2]) (pc := 20) (ret' := some .int) kvX8_254 (t2_seatedAt _ _) (by decide) (nx_lt (by decide)) (sx_49 g)  rfl rfl (Nat.le_of_ble_eq_true rfl) dX8_pair_20 (fun v7 μ8 => ?_)
  exact z_iret (pc := 23) rfl dX8_pair_23
def f8_bound (x1 : Int32) (μ : zMem) : zRes := bnd (f8_needQuestionOrNone x1 μ) (fun (v1 : Int32) (μ2 : zMem) => bnd0 (f8_planToday x1 μ2) (fun (v3 : Int32) (μ4 : zMem) => bnd0 (f2_greatestWorths ((μ4 2 1) / (2 : Int32)) μ4) (fun (v5 : Int32) (μ6 : zMem) => some (0, v5, μ6))))
set_option maxHeartbeats 1000000 in
theorem t8_bound {g : Bool} (x1 : Int32) (μ : zMem) : zMR yX8_bound cX8_bound 2 (some .int) 8 [.ref 0, .int x1] (nX g) (SX g) μ (f8_bound x1 μ) := by
  refine zMR_of (by decide +kernel) rfl (Nat.le_of_ble_eq_true rfl) (L := [.ref 0, .int x1]) rfl ?_
  unfold f8_bound
  refine z_aload_n (pc := 0) dX8_bound_0 rfl ?_
  refine z_iload_n (pc := 1) dX8_bound_1 rfl ?_
  refine z_callX (As := [.int x1]) (pc := 2) (ret' := none) kvX8_242 klX8_242 (t8_needQuestionOrNone _ _) (by decide) (nx_lt (by decide)) (sx_0 g)  rfl rfl (Nat.le_of_ble_eq_true rfl) dX8_bound_2 (fun v1 μ2 => ?_)
  refine z_aload_n (pc := 5) dX8_bound_5 rfl ?_
  refine z_iload_n (pc := 6) dX8_bound_6 rfl ?_
  refine z_callV (As := [.int x1]) (pc := 7) (ret' := none) kvX8_245 (t8_planToday _ _) (by decide) (nx_lt (by decide)) (sx_0 g)  rfl rfl (Nat.le_of_ble_eq_true rfl) dX8_bound_7 (fun v3 μ4 => ?_)
  refine z_aload_n (pc := 10) dX8_bound_10 rfl ?_
  refine z_getr (pc := 11) fdX8_61 (nx_lt (by decide)) (sx_0 g) rfl rfl dX8_bound_11 ?_
  refine z_aload_n (pc := 14) dX8_bound_14 rfl ?_
  refine z_getr (pc := 15) fdX8_23 (nx_lt (by decide)) (sx_0 g) rfl rfl dX8_bound_15 ?_
  refine z_geti (pc := 18) fdX8_116 (nx_lt (by decide)) (sx_2 g) rfl dX8_bound_18 ?_
  refine z_iconst (pc := 21) (2 : Int32) dX8_bound_21 (by decide) ?_
  refine z_idivc (pc := 22) dX8_bound_22 (by decide) ?_
  refine z_callV (As := [.int ((μ4 2 1) / (2 : Int32))]) (pc := 23) (ret' := some .int) kvX8_257 (t2_greatestWorths _ _) (by decide) (nx_lt (by decide)) (sx_49 g)  rfl rfl (Nat.le_of_ble_eq_true rfl) dX8_bound_23 (fun v5 μ6 => ?_)
  exact z_iret (pc := 26) rfl dX8_bound_26
def f8_need (x1 : Int32) (x2 : Int32) (μ : zMem) : zRes := bnd (f8_needQuestionOrNone x1 μ) (fun (v1 : Int32) (μ2 : zMem) => bnd (f8_needWhat x2 (1 : Int32) μ2) (fun (v3 : Int32) (μ4 : zMem) => bnd0 (f8_planToday x1 μ4) (fun (v5 : Int32) (μ6 : zMem) => bnd0 (f2_fewestPersons μ6) (fun (v7 : Int32) (μ8 : zMem) => zlet (fun (s9 : Int32) (μ10 : zMem) => some (0, s9, μ10)) (fun j11 => if x2 = 0 then bnd0 (fJ6_bitCount_0f7a4 v7 μ8) (fun (v14 : Int32) (μ15 : zMem) => j11 v14 μ15) else j11 v7 μ8)))))
set_option maxHeartbeats 1000000 in
theorem t8_need {g : Bool} (x1 : Int32) (x2 : Int32) (μ : zMem) : zMR yX8_need cX8_need 4 (some .int) 8 [.ref 0, .int x1, .int x2] (nX g) (SX g) μ (f8_need x1 x2 μ) := by
  refine zMR_of (by decide +kernel) rfl (Nat.le_of_ble_eq_true rfl) (L := [.ref 0, .int x1, .int x2, .null]) rfl ?_
  unfold f8_need
  refine z_aload_n (pc := 0) dX8_need_0 rfl ?_
  refine z_iload_n (pc := 1) dX8_need_1 rfl ?_
  refine z_callX (As := [.int x1]) (pc := 2) (ret' := none) kvX8_242 klX8_242 (t8_needQuestionOrNone _ _) (by decide) (nx_lt (by decide)) (sx_0 g)  rfl rfl (Nat.le_of_ble_eq_true rfl) dX8_need_2 (fun v1 μ2 => ?_)
  refine z_aload_n (pc := 5) dX8_need_5 rfl ?_
  refine z_iload_n (pc := 6) dX8_need_6 rfl ?_
  refine z_iconst (pc := 7) (1 : Int32) dX8_need_7 (by decide) ?_
  refine z_callX (As := [.int x2, .int (1 : Int32)]) (pc := 8) (ret' := none) kvX8_216 klX8_216 (t8_needWhat _ _ _) (by decide) (nx_lt (by decide)) (sx_0 g)  rfl rfl (Nat.le_of_ble_eq_true rfl) dX8_need_8 (fun v3 μ4 => ?_)
  refine z_aload_n (pc := 11) dX8_need_11 rfl ?_
  refine z_iload_n (pc := 12) dX8_need_12 rfl ?_
  refine z_callV (As := [.int x1]) (pc := 13) (ret' := none) kvX8_245 (t8_planToday _ _) (by decide) (nx_lt (by decide)) (sx_0 g)  rfl rfl (Nat.le_of_ble_eq_true rfl) dX8_need_13 (fun v5 μ6 => ?_)
  refine z_aload_n (pc := 16) dX8_need_16 rfl ?_
  refine z_getr (pc := 17) fdX8_61 (nx_lt (by decide)) (sx_0 g) rfl rfl dX8_need_17 ?_
  refine z_callV (As := []) (pc := 20) (ret' := some .int) kvX8_260 (t2_fewestPersons _) (by decide) (nx_lt (by decide)) (sx_49 g)  rfl rfl (Nat.le_of_ble_eq_true rfl) dX8_need_20 (fun v7 μ8 => ?_)
  refine z_istore_n (pc := 23) (L' := [.ref 0, .int x1, .int x2, .int v7]) dX8_need_23 (by decide) rfl ?_
  refine z_iload_n (pc := 24) dX8_need_24 rfl ?_
  refine z_let (fun (j : Int32 → zMem → zRes) => ∀ (s9 : Int32) (μ10 : zMem), zR yX8_need cX8_need 4 (some .int) 8 36 [.null, .null, .null, .null] [.int s9] (nX g) (SX g) μ10 (j s9 μ10)) ?_ (fun j11 hj11 => ?_)
  · intro s9 μ10
    exact z_iret (pc := 36) rfl dX8_need_36
  · refine z_if_ne (pc := 25) (tgt := 35) dX8_need_25 (by decide) (fun c12 => ?_) (fun c13 => ?_)
    · refine z_iload_n (pc := 35) dX8_need_35 rfl ?_
      refine z_loc (L' := [.null, .null, .null, .null]) ⟨Or.inl rfl, ⟨Or.inl rfl, ⟨Or.inl rfl, ⟨Or.inl rfl, trivial⟩⟩⟩⟩ ?_
      exact hj11 v7 μ8
    · refine z_iload_n (pc := 28) dX8_need_28 rfl ?_
      refine z_callS (As := [.int v7]) (pc := 29) (ret' := some .int) ksX8_162 (tJ6_bitCount_0f7a4 _ _) (by decide)  rfl rfl (Nat.le_of_ble_eq_true rfl) dX8_need_29 (fun v14 μ15 => ?_)
      refine z_goto (pc := 32) (tgt := 36) dX8_need_32 (by decide) ?_
      refine z_loc (L' := [.null, .null, .null, .null]) ⟨Or.inl rfl, ⟨Or.inl rfl, ⟨Or.inl rfl, ⟨Or.inl rfl, trivial⟩⟩⟩⟩ ?_
      exact hj11 v14 μ15
def f8_areThoughts_L4 (μ : zMem) (K37 : Int32 → zRes) (K24 : zRes) : Nat → Int32 → Int32 → zRes
  | 0, _, _ => none
  | n + 1, x2, x3 => if (μ 2 0) ≤ x3 then K37 x2 else if (zrem x2 (10 : Int32)) ≤ (8 : Int32) then zlet (x2 / (10 : Int32)) (fun (v5 : Int32) => f8_areThoughts_L4 μ K37 K24 n v5 (x3 + (1 : Int32))) else K24
def f8_areThoughts (x1 : Int32) (μ : zMem) : zRes := f8_areThoughts_L4 μ (fun (x2_6 : Int32) => zlet (fun (s7 : Int32) => zbl s7 (some (0, s7, μ))) (fun j8 => zlet (j8 (0 : Int32)) (fun j9 => if x1 < 0 then j9 else if x2_6 = 0 then j8 (1 : Int32) else j9))) (some (0, (0 : Int32), μ)) zF x1 (0 : Int32)
set_option maxHeartbeats 1000000 in
theorem t8_areThoughts_L4 {g : Bool} (x1 : Int32) (μ : zMem) (K37 : Int32 → zRes) (K24 : zRes) (hK37 : ∀ (x2 : Int32), zR yX8_areThoughts cX8_areThoughts 4 (some .boolean) 1 37 [.null, .int x1, .int x2, .null] [] (nX g) (SX g) μ (K37 x2)) (hK24 : zR yX8_areThoughts cX8_areThoughts 4 (some .boolean) 1 24 [.null, .null, .null, .null] [] (nX g) (SX g) μ (K24)) : ∀ (n : Nat) (x2 : Int32) (x3 : Int32), zR yX8_areThoughts cX8_areThoughts 4 (some .boolean) 1 4 [.ref 0, .int x1, .int x2, .int x3] [] (nX g) (SX g) μ (f8_areThoughts_L4 μ K37 K24 n x2 x3) := by
  intro n
  induction n with
  | zero => intro x2 x3; intro q hq; cases hq
  | succ n ih =>
    intro x2 x3
    unfold f8_areThoughts_L4
    refine z_iload_n (pc := 4) dX8_areThoughts_4 rfl ?_
    refine z_aload_n (pc := 5) dX8_areThoughts_5 rfl ?_
    refine z_getr (pc := 6) fdX8_23 (nx_lt (by decide)) (sx_0 g) rfl rfl dX8_areThoughts_6 ?_
    refine z_geti (pc := 9) fdX8_119 (nx_lt (by decide)) (sx_2 g) rfl dX8_areThoughts_9 ?_
    refine z_icmp_ge (pc := 12) (tgt := 37) dX8_areThoughts_12 (by decide) (fun c1 => ?_) (fun c2 => ?_)
    · refine z_loc (L' := [.null, .int x1, .int x2, .null]) ⟨Or.inl rfl, ⟨Or.inr rfl, ⟨Or.inr rfl, ⟨Or.inl rfl, trivial⟩⟩⟩⟩ ?_
      exact hK37 x2
    · refine z_iload_n (pc := 15) dX8_areThoughts_15 rfl ?_
      refine z_bipush (pc := 16) (10 : Int32) dX8_areThoughts_16 (by decide) ?_
      refine z_iremc (pc := 18) dX8_areThoughts_18 (by decide) ?_
      refine z_bipush (pc := 19) (8 : Int32) dX8_areThoughts_19 (by decide) ?_
      refine z_icmp_le (pc := 21) (tgt := 26) dX8_areThoughts_21 (by decide) (fun c3 => ?_) (fun c4 => ?_)
      · refine z_iload_n (pc := 26) dX8_areThoughts_26 rfl ?_
        refine z_bipush (pc := 27) (10 : Int32) dX8_areThoughts_27 (by decide) ?_
        refine z_idivc (pc := 29) dX8_areThoughts_29 (by decide) ?_
        refine z_val (fun v5 => ?_)
        refine z_istore_n (pc := 30) (L' := [.ref 0, .int x1, .int v5, .int x3]) dX8_areThoughts_30 (by decide) rfl ?_
        refine z_iinc (pc := 31) (v := x3 + (1 : Int32)) (L' := [.ref 0, .int x1, .int v5, .int (x3 + (1 : Int32))]) dX8_areThoughts_31 (by decide) rfl (congrArg _ (by decide)) rfl ?_
        refine z_goto (pc := 34) (tgt := 4) dX8_areThoughts_34 (by decide) ?_
        exact ih v5 (x3 + (1 : Int32))
      · refine z_loc (L' := [.null, .null, .null, .null]) ⟨Or.inl rfl, ⟨Or.inl rfl, ⟨Or.inl rfl, ⟨Or.inl rfl, trivial⟩⟩⟩⟩ ?_
        exact hK24
set_option maxHeartbeats 1000000 in
theorem t8_areThoughts {g : Bool} (x1 : Int32) (μ : zMem) : zMR yX8_areThoughts cX8_areThoughts 4 (some .boolean) 1 [.ref 0, .int x1] (nX g) (SX g) μ (f8_areThoughts x1 μ) := by
  refine zMR_of (by decide +kernel) rfl (Nat.le_of_ble_eq_true rfl) (L := [.ref 0, .int x1, .null, .null]) rfl ?_
  unfold f8_areThoughts
  refine z_iload_n (pc := 0) dX8_areThoughts_0 rfl ?_
  refine z_istore_n (pc := 1) (L' := [.ref 0, .int x1, .int x1, .null]) dX8_areThoughts_1 (by decide) rfl ?_
  refine z_iconst (pc := 2) (0 : Int32) dX8_areThoughts_2 (by decide) ?_
  refine z_istore_n (pc := 3) (L' := [.ref 0, .int x1, .int x1, .int (0 : Int32)]) dX8_areThoughts_3 (by decide) rfl ?_
  refine t8_areThoughts_L4 _ _ _ _ (fun x2_6 => ?_) (?_) zF _ _
  · refine z_iload_n (pc := 37) dX8_areThoughts_37 rfl ?_
    refine z_let (fun (j : Int32 → zRes) => ∀ (s7 : Int32), zR yX8_areThoughts cX8_areThoughts 4 (some .boolean) 1 50 [.null, .null, .null, .null] [.int s7] (nX g) (SX g) μ (j s7)) ?_ (fun j8 hj8 => ?_)
    · intro s7
      exact z_zret (pc := 50) rfl dX8_areThoughts_50
    · refine z_let (fun (j : zRes) => zR yX8_areThoughts cX8_areThoughts 4 (some .boolean) 1 49 [.null, .null, .null, .null] [] (nX g) (SX g) μ (j)) ?_ (fun j9 hj9 => ?_)
      · refine z_iconst (pc := 49) (0 : Int32) dX8_areThoughts_49 (by decide) ?_
        exact hj8 (0 : Int32)
      · refine z_if_lt (pc := 38) (tgt := 49) dX8_areThoughts_38 (by decide) (fun c10 => ?_) (fun c11 => ?_)
        · refine z_loc (L' := [.null, .null, .null, .null]) ⟨Or.inl rfl, ⟨Or.inl rfl, ⟨Or.inl rfl, ⟨Or.inl rfl, trivial⟩⟩⟩⟩ ?_
          exact hj9
        · refine z_iload_n (pc := 41) dX8_areThoughts_41 rfl ?_
          refine z_if_ne (pc := 42) (tgt := 49) dX8_areThoughts_42 (by decide) (fun c12 => ?_) (fun c13 => ?_)
          · refine z_loc (L' := [.null, .null, .null, .null]) ⟨Or.inl rfl, ⟨Or.inl rfl, ⟨Or.inl rfl, ⟨Or.inl rfl, trivial⟩⟩⟩⟩ ?_
            exact hj9
          · refine z_iconst (pc := 45) (1 : Int32) dX8_areThoughts_45 (by decide) ?_
            refine z_goto (pc := 46) (tgt := 50) dX8_areThoughts_46 (by decide) ?_
            refine z_loc (L' := [.null, .null, .null, .null]) ⟨Or.inl rfl, ⟨Or.inl rfl, ⟨Or.inl rfl, ⟨Or.inl rfl, trivial⟩⟩⟩⟩ ?_
            exact hj8 (1 : Int32)
  · refine z_iconst (pc := 24) (0 : Int32) dX8_areThoughts_24 (by decide) ?_
    exact z_zretc (pc := 25) rfl (Or.inl rfl) dX8_areThoughts_25
def f8_stranger (x1 : Int32) (x2 : Int32) (x3 : Int32) (μ : zMem) : zRes := bnd (f8_needQuestionOrNone x1 μ) (fun (v1 : Int32) (μ2 : zMem) => zlet (fun (μ3 : zMem) => some (1, 0, μ3)) (fun j4 => if (μ2 2 0) = 0 then j4 μ2 else if x3 < 0 then j4 μ2 else if (4 : Int32) < x3 then j4 μ2 else bnd0 (f8_areThoughts x2 μ2) (fun (v11 : Int32) (μ12 : zMem) => if v11 = 0 then j4 μ12 else bnd0 (f8_planToday x1 μ12) (fun (v15 : Int32) (μ16 : zMem) => bnd0 (f2_worthAtMost μ16) (fun (v17 : Int32) (μ18 : zMem) => bnd0 (f5_addStranger 28 x2 x3 μ18) (fun (v19 : Int32) (μ20 : zMem) => bnd0 (f2_make μ20) (fun (v21 : Int32) (μ22 : zMem) => bnd0 (f2_worthAtMost μ22) (fun (v23 : Int32) (μ24 : zMem) => some (0, v23 - v17, μ24)))))))))
set_option maxHeartbeats 1000000 in
theorem t8_stranger {g : Bool} (x1 : Int32) (x2 : Int32) (x3 : Int32) (μ : zMem) : zMR yX8_stranger cX8_stranger 5 (some .int) 8 [.ref 0, .int x1, .int x2, .int x3] (nX g) (SX g) μ (f8_stranger x1 x2 x3 μ) := by
  refine zMR_of (by decide +kernel) rfl (Nat.le_of_ble_eq_true rfl) (L := [.ref 0, .int x1, .int x2, .int x3, .null]) rfl ?_
  unfold f8_stranger
  refine z_aload_n (pc := 0) dX8_stranger_0 rfl ?_
  refine z_iload_n (pc := 1) dX8_stranger_1 rfl ?_
  refine z_callX (As := [.int x1]) (pc := 2) (ret' := none) kvX8_242 klX8_242 (t8_needQuestionOrNone _ _) (by decide) (nx_lt (by decide)) (sx_0 g)  rfl rfl (Nat.le_of_ble_eq_true rfl) dX8_stranger_2 (fun v1 μ2 => ?_)
  refine z_aload_n (pc := 5) dX8_stranger_5 rfl ?_
  refine z_getr (pc := 6) fdX8_23 (nx_lt (by decide)) (sx_0 g) rfl rfl dX8_stranger_6 ?_
  refine z_geti (pc := 9) fdX8_119 (nx_lt (by decide)) (sx_2 g) rfl dX8_stranger_9 ?_
  refine z_let (fun (j : zMem → zRes) => ∀ (μ3 : zMem), zR yX8_stranger cX8_stranger 5 (some .int) 8 32 [.null, .null, .null, .null, .null] [] (nX g) (SX g) μ3 (j μ3)) ?_ (fun j4 hj4 => ?_)
  · intro μ3
    exact z_throwW (pc := 32) (ex := 0) (i := 12) (names := zNm)  rfl rfl (by decide) (by decide) ztf_1 ztn ztX8_1.1 zti_1 ztX8_1.2.1 ztX8_1.2.2 (Nat.le_of_ble_eq_true rfl) dX8_stranger_32 dX8_stranger_35 dX8_stranger_36 dX8_stranger_39 dX8_stranger_42
  · refine z_if_eq (pc := 12) (tgt := 32) dX8_stranger_12 (by decide) (fun c5 => ?_) (fun c6 => ?_)
    · refine z_loc (L' := [.null, .null, .null, .null, .null]) ⟨Or.inl rfl, ⟨Or.inl rfl, ⟨Or.inl rfl, ⟨Or.inl rfl, ⟨Or.inl rfl, trivial⟩⟩⟩⟩⟩ ?_
      exact hj4 μ2
    · refine z_iload_n (pc := 15) dX8_stranger_15 rfl ?_
      refine z_if_lt (pc := 16) (tgt := 32) dX8_stranger_16 (by decide) (fun c7 => ?_) (fun c8 => ?_)
      · refine z_loc (L' := [.null, .null, .null, .null, .null]) ⟨Or.inl rfl, ⟨Or.inl rfl, ⟨Or.inl rfl, ⟨Or.inl rfl, ⟨Or.inl rfl, trivial⟩⟩⟩⟩⟩ ?_
        exact hj4 μ2
      · refine z_iload_n (pc := 19) dX8_stranger_19 rfl ?_
        refine z_iconst (pc := 20) (4 : Int32) dX8_stranger_20 (by decide) ?_
        refine z_icmp_gt (pc := 21) (tgt := 32) dX8_stranger_21 (by decide) (fun c9 => ?_) (fun c10 => ?_)
        · refine z_loc (L' := [.null, .null, .null, .null, .null]) ⟨Or.inl rfl, ⟨Or.inl rfl, ⟨Or.inl rfl, ⟨Or.inl rfl, ⟨Or.inl rfl, trivial⟩⟩⟩⟩⟩ ?_
          exact hj4 μ2
        · refine z_aload_n (pc := 24) dX8_stranger_24 rfl ?_
          refine z_iload_n (pc := 25) dX8_stranger_25 rfl ?_
          refine z_callV (As := [.int x2]) (pc := 26) (ret' := some .boolean) kvX8_263 (t8_areThoughts _ _) (by decide) (nx_lt (by decide)) (sx_0 g)  rfl rfl (Nat.le_of_ble_eq_true rfl) dX8_stranger_26 (fun v11 μ12 => ?_)
          refine z_if_ne (pc := 29) (tgt := 43) dX8_stranger_29 (by decide) (fun c13 => ?_) (fun c14 => ?_)
          · refine z_aload_n (pc := 43) dX8_stranger_43 rfl ?_
            refine z_iload_n (pc := 44) dX8_stranger_44 rfl ?_
            refine z_callV (As := [.int x1]) (pc := 45) (ret' := none) kvX8_245 (t8_planToday _ _) (by decide) (nx_lt (by decide)) (sx_0 g)  rfl rfl (Nat.le_of_ble_eq_true rfl) dX8_stranger_45 (fun v15 μ16 => ?_)
            refine z_aload_n (pc := 48) dX8_stranger_48 rfl ?_
            refine z_getr (pc := 49) fdX8_61 (nx_lt (by decide)) (sx_0 g) rfl rfl dX8_stranger_49 ?_
            refine z_callV (As := []) (pc := 52) (ret' := some .int) kvX8_248 (t2_worthAtMost _) (by decide) (nx_lt (by decide)) (sx_49 g)  rfl rfl (Nat.le_of_ble_eq_true rfl) dX8_stranger_52 (fun v17 μ18 => ?_)
            refine z_istore (pc := 55) (L' := [.ref 0, .int x1, .int x2, .int x3, .int v17]) dX8_stranger_55 (by decide) rfl ?_
            refine z_aload_n (pc := 57) dX8_stranger_57 rfl ?_
            refine z_getr (pc := 58) fdX8_48 (nx_lt (by decide)) (sx_0 g) rfl rfl dX8_stranger_58 ?_
            refine z_iload_n (pc := 61) dX8_stranger_61 rfl ?_
            refine z_iload_n (pc := 62) dX8_stranger_62 rfl ?_
            refine z_callV (As := [.int x2, .int x3]) (pc := 63) (ret' := none) kvX8_268 (t5_addStranger zSc_28 _ _ _) (by decide) (nx_lt (by decide)) (sx_28 g)  rfl rfl (Nat.le_of_ble_eq_true rfl) dX8_stranger_63 (fun v19 μ20 => ?_)
            refine z_aload_n (pc := 66) dX8_stranger_66 rfl ?_
            refine z_getr (pc := 67) fdX8_61 (nx_lt (by decide)) (sx_0 g) rfl rfl dX8_stranger_67 ?_
            refine z_aload_n (pc := 70) dX8_stranger_70 rfl ?_
            refine z_getr (pc := 71) fdX8_48 (nx_lt (by decide)) (sx_0 g) rfl rfl dX8_stranger_71 ?_
            refine z_callV (As := [.ref 28]) (pc := 74) (ret' := none) kvX8_271 (t2_make _) (by decide) (nx_lt (by decide)) (sx_49 g)  rfl rfl (Nat.le_of_ble_eq_true rfl) dX8_stranger_74 (fun v21 μ22 => ?_)
            refine z_aload_n (pc := 77) dX8_stranger_77 rfl ?_
            refine z_getr (pc := 78) fdX8_61 (nx_lt (by decide)) (sx_0 g) rfl rfl dX8_stranger_78 ?_
            refine z_callV (As := []) (pc := 81) (ret' := some .int) kvX8_248 (t2_worthAtMost _) (by decide) (nx_lt (by decide)) (sx_49 g)  rfl rfl (Nat.le_of_ble_eq_true rfl) dX8_stranger_81 (fun v23 μ24 => ?_)
            refine z_iload (pc := 84) dX8_stranger_84 rfl ?_
            refine z_isub (pc := 86) dX8_stranger_86 ?_
            exact z_iret (pc := 87) rfl dX8_stranger_87
          · refine z_loc (L' := [.null, .null, .null, .null, .null]) ⟨Or.inl rfl, ⟨Or.inl rfl, ⟨Or.inl rfl, ⟨Or.inl rfl, ⟨Or.inl rfl, trivial⟩⟩⟩⟩⟩ ?_
            exact hj4 μ12
def f8_worthBehindTalk (x1 : Int32) (x2 : Int32) (x3 : Int32) (μ : zMem) : zRes := bnd0 (f5_thought 28 x1 x3 μ) (fun (v1 : Int32) (μ2 : zMem) => bnd0 (f5_rivalsOf 28 x1 x3 (μ2 28 3) μ2) (fun (v3 : Int32) (μ4 : zMem) => bnd0 (f5_stepTowards 28 x1 x2 x3 μ4) (fun (v5 : Int32) (μ6 : zMem) => bnd0 (f5_rivalsOf 28 x1 x3 (μ6 28 3) μ6) (fun (v7 : Int32) (μ8 : zMem) => zlet (fun (x6_9 : Int32) (μ10 : zMem) => bnd0 (f5_putThought 28 x1 x3 v1 μ10) (fun (v11 : Int32) (μ12 : zMem) => some (0, x6_9, μ12))) (fun j13 => if (v7 &&& (v3 ^^^ (-1 : Int32))) = 0 then j13 (-1 : Int32) μ8 else bnd0 (f2_make μ8) (fun (v16 : Int32) (μ17 : zMem) => bnd0 (f2_worthAtMost μ17) (fun (v18 : Int32) (μ19 : zMem) => j13 v18 μ19)))))))
set_option maxHeartbeats 1000000 in
theorem t8_worthBehindTalk {g : Bool} (x1 : Int32) (x2 : Int32) (x3 : Int32) (μ : zMem) : zMR yX8_worthBehindTalk cX8_worthBehindTalk 7 (some .int) 5 [.ref 0, .int x1, .int x2, .int x3] (nX g) (SX g) μ (f8_worthBehindTalk x1 x2 x3 μ) := by
  refine zMR_of (by decide +kernel) rfl (Nat.le_of_ble_eq_true rfl) (L := [.ref 0, .int x1, .int x2, .int x3, .null, .null, .null]) rfl ?_
  unfold f8_worthBehindTalk
  refine z_aload_n (pc := 0) dX8_worthBehindTalk_0 rfl ?_
  refine z_getr (pc := 1) fdX8_48 (nx_lt (by decide)) (sx_0 g) rfl rfl dX8_worthBehindTalk_1 ?_
  refine z_iload_n (pc := 4) dX8_worthBehindTalk_4 rfl ?_
  refine z_iload_n (pc := 5) dX8_worthBehindTalk_5 rfl ?_
  refine z_callV (As := [.int x1, .int x3]) (pc := 6) (ret' := some .int) kvX8_146 (t5_thought zSc_28 _ _ _) (by decide) (nx_lt (by decide)) (sx_28 g)  rfl rfl (Nat.le_of_ble_eq_true rfl) dX8_worthBehindTalk_6 (fun v1 μ2 => ?_)
  refine z_istore (pc := 9) (L' := [.ref 0, .int x1, .int x2, .int x3, .int v1, .null, .null]) dX8_worthBehindTalk_9 (by decide) rfl ?_
  refine z_aload_n (pc := 11) dX8_worthBehindTalk_11 rfl ?_
  refine z_getr (pc := 12) fdX8_48 (nx_lt (by decide)) (sx_0 g) rfl rfl dX8_worthBehindTalk_12 ?_
  refine z_iload_n (pc := 15) dX8_worthBehindTalk_15 rfl ?_
  refine z_iload_n (pc := 16) dX8_worthBehindTalk_16 rfl ?_
  refine z_aload_n (pc := 17) dX8_worthBehindTalk_17 rfl ?_
  refine z_getr (pc := 18) fdX8_48 (nx_lt (by decide)) (sx_0 g) rfl rfl dX8_worthBehindTalk_18 ?_
  refine z_geti (pc := 21) fdX8_315 (nx_lt (by decide)) (sx_28 g) rfl dX8_worthBehindTalk_21 ?_
  refine z_callV (As := [.int x1, .int x3, .int (μ2 28 3)]) (pc := 24) (ret' := some .int) kvX8_383 (t5_rivalsOf zSc_28 _ _ _ _) (by decide) (nx_lt (by decide)) (sx_28 g)  rfl rfl (Nat.le_of_ble_eq_true rfl) dX8_worthBehindTalk_24 (fun v3 μ4 => ?_)
  refine z_istore (pc := 27) (L' := [.ref 0, .int x1, .int x2, .int x3, .int v1, .int v3, .null]) dX8_worthBehindTalk_27 (by decide) rfl ?_
  refine z_iconst (pc := 29) (-1 : Int32) dX8_worthBehindTalk_29 (by decide) ?_
  refine z_istore (pc := 30) (L' := [.ref 0, .int x1, .int x2, .int x3, .int v1, .int v3, .int (-1 : Int32)]) dX8_worthBehindTalk_30 (by decide) rfl ?_
  refine z_aload_n (pc := 32) dX8_worthBehindTalk_32 rfl ?_
  refine z_getr (pc := 33) fdX8_48 (nx_lt (by decide)) (sx_0 g) rfl rfl dX8_worthBehindTalk_33 ?_
  refine z_iload_n (pc := 36) dX8_worthBehindTalk_36 rfl ?_
  refine z_iload_n (pc := 37) dX8_worthBehindTalk_37 rfl ?_
  refine z_iload_n (pc := 38) dX8_worthBehindTalk_38 rfl ?_
  refine z_callV (As := [.int x1, .int x2, .int x3]) (pc := 39) (ret' := none) kvX8_212 (t5_stepTowards zSc_28 _ _ _ _) (by decide) (nx_lt (by decide)) (sx_28 g)  rfl rfl (Nat.le_of_ble_eq_true rfl) dX8_worthBehindTalk_39 (fun v5 μ6 => ?_)
  refine z_aload_n (pc := 42) dX8_worthBehindTalk_42 rfl ?_
  refine z_getr (pc := 43) fdX8_48 (nx_lt (by decide)) (sx_0 g) rfl rfl dX8_worthBehindTalk_43 ?_
  refine z_iload_n (pc := 46) dX8_worthBehindTalk_46 rfl ?_
  refine z_iload_n (pc := 47) dX8_worthBehindTalk_47 rfl ?_
  refine z_aload_n (pc := 48) dX8_worthBehindTalk_48 rfl ?_
  refine z_getr (pc := 49) fdX8_48 (nx_lt (by decide)) (sx_0 g) rfl rfl dX8_worthBehindTalk_49 ?_
  refine z_geti (pc := 52) fdX8_315 (nx_lt (by decide)) (sx_28 g) rfl dX8_worthBehindTalk_52 ?_
  refine z_callV (As := [.int x1, .int x3, .int (μ6 28 3)]) (pc := 55) (ret' := some .int) kvX8_383 (t5_rivalsOf zSc_28 _ _ _ _) (by decide) (nx_lt (by decide)) (sx_28 g)  rfl rfl (Nat.le_of_ble_eq_true rfl) dX8_worthBehindTalk_55 (fun v7 μ8 => ?_)
  refine z_iload (pc := 58) dX8_worthBehindTalk_58 rfl ?_
  refine z_iconst (pc := 60) (-1 : Int32) dX8_worthBehindTalk_60 (by decide) ?_
  refine z_ixor (pc := 61) dX8_worthBehindTalk_61 ?_
  refine z_iand (pc := 62) dX8_worthBehindTalk_62 ?_
  refine z_let (fun (j : Int32 → zMem → zRes) => ∀ (x6_9 : Int32) (μ10 : zMem), zR yX8_worthBehindTalk cX8_worthBehindTalk 7 (some .int) 5 86 [.ref 0, .int x1, .null, .int x3, .int v1, .null, .int x6_9] [] (nX g) (SX g) μ10 (j x6_9 μ10)) ?_ (fun j13 hj13 => ?_)
  · intro x6_9 μ10
    refine z_aload_n (pc := 86) dX8_worthBehindTalk_86 rfl ?_
    refine z_getr (pc := 87) fdX8_48 (nx_lt (by decide)) (sx_0 g) rfl rfl dX8_worthBehindTalk_87 ?_
    refine z_iload_n (pc := 90) dX8_worthBehindTalk_90 rfl ?_
    refine z_iload_n (pc := 91) dX8_worthBehindTalk_91 rfl ?_
    refine z_iload (pc := 92) dX8_worthBehindTalk_92 rfl ?_
    refine z_callV (As := [.int x1, .int x3, .int v1]) (pc := 94) (ret' := none) kvX8_386 (t5_putThought zSc_28 _ _ _ _) (by decide) (nx_lt (by decide)) (sx_28 g)  rfl rfl (Nat.le_of_ble_eq_true rfl) dX8_worthBehindTalk_94 (fun v11 μ12 => ?_)
    refine z_iload (pc := 97) dX8_worthBehindTalk_97 rfl ?_
    exact z_iret (pc := 99) rfl dX8_worthBehindTalk_99
  · refine z_if_eq (pc := 63) (tgt := 86) dX8_worthBehindTalk_63 (by decide) (fun c14 => ?_) (fun c15 => ?_)
    · refine z_loc (L' := [.ref 0, .int x1, .null, .int x3, .int v1, .null, .int (-1 : Int32)]) ⟨Or.inr rfl, ⟨Or.inr rfl, ⟨Or.inl rfl, ⟨Or.inr rfl, ⟨Or.inr rfl, ⟨Or.inl rfl, ⟨Or.inr rfl, trivial⟩⟩⟩⟩⟩⟩⟩ ?_
      exact hj13 (-1 : Int32) μ8
    · refine z_aload_n (pc := 66) dX8_worthBehindTalk_66 rfl ?_
      refine z_getr (pc := 67) fdX8_61 (nx_lt (by decide)) (sx_0 g) rfl rfl dX8_worthBehindTalk_67 ?_
      refine z_aload_n (pc := 70) dX8_worthBehindTalk_70 rfl ?_
      refine z_getr (pc := 71) fdX8_48 (nx_lt (by decide)) (sx_0 g) rfl rfl dX8_worthBehindTalk_71 ?_
      refine z_callV (As := [.ref 28]) (pc := 74) (ret' := none) kvX8_271 (t2_make _) (by decide) (nx_lt (by decide)) (sx_49 g)  rfl rfl (Nat.le_of_ble_eq_true rfl) dX8_worthBehindTalk_74 (fun v16 μ17 => ?_)
      refine z_aload_n (pc := 77) dX8_worthBehindTalk_77 rfl ?_
      refine z_getr (pc := 78) fdX8_61 (nx_lt (by decide)) (sx_0 g) rfl rfl dX8_worthBehindTalk_78 ?_
      refine z_callV (As := []) (pc := 81) (ret' := some .int) kvX8_248 (t2_worthAtMost _) (by decide) (nx_lt (by decide)) (sx_49 g)  rfl rfl (Nat.le_of_ble_eq_true rfl) dX8_worthBehindTalk_81 (fun v18 μ19 => ?_)
      refine z_istore (pc := 84) (L' := [.ref 0, .int x1, .int x2, .int x3, .int v1, .int v3, .int v18]) dX8_worthBehindTalk_84 (by decide) rfl ?_
      refine z_loc (L' := [.ref 0, .int x1, .null, .int x3, .int v1, .null, .int v18]) ⟨Or.inr rfl, ⟨Or.inr rfl, ⟨Or.inl rfl, ⟨Or.inr rfl, ⟨Or.inr rfl, ⟨Or.inl rfl, ⟨Or.inr rfl, trivial⟩⟩⟩⟩⟩⟩⟩ ?_
      exact hj13 v18 μ19
def f8_night_L88 (x1 : Int32) (x4 : Int32) (K172 : Int32 → Int32 → zMem → zRes) : Nat → Int32 → Int32 → Int32 → Int32 → zMem → zRes
  | 0, _, _, _, _, _ => none
  | n + 1, x2, x3, x5, x6, μ => if (μ 2 1) ≤ x6 then K172 x2 x3 μ else bnd0 (f5_stepTo 28 x4 x6 x1 μ) (fun (v17 : Int32) (μ18 : zMem) => zlet (zshl (1 : Int32) (v17 + (1 : Int32))) (fun (v19 : Int32) => zlet (fun (s20 : Int32) (μ21 : zMem) => zlet (x5 ||| v19) (fun (v22 : Int32) => zlet (fun (x2_23 : Int32) (x3_24 : Int32) => f8_night_L88 x1 x4 K172 n x2_23 x3_24 v22 (x6 + (1 : Int32)) μ21) (fun j25 => if s20 ≤ x2 then j25 x2 x3 else zlet (((10 : Int32) * x4) + x6) (fun (v28 : Int32) => j25 s20 v28)))) (fun j29 => if (x5 &&& v19) = 0 then bnd0 (f8_worthBehindTalk x4 x6 x1 μ18) (fun (v32 : Int32) (μ33 : zMem) => j29 v32 μ33) else j29 (-1 : Int32) μ18)))
def f8_night_L70 (x1 : Int32) (K178 : Int32 → zMem → zRes) : Nat → Int32 → Int32 → Int32 → zMem → zRes
  | 0, _, _, _, _ => none
  | n + 1, x2, x3, x4, μ => if (μ 2 1) ≤ x4 then K178 x3 μ else f8_night_L88 x1 x4 (fun (x2_34 : Int32) (x3_35 : Int32) (μ36 : zMem) => f8_night_L70 x1 K178 n x2_34 x3_35 (x4 + (1 : Int32)) μ36) zF x2 x3 (0 : Int32) (0 : Int32) μ
def f8_night (x1 : Int32) (μ : zMem) : zRes := bnd (f8_needQuestion x1 μ) (fun (v1 : Int32) (μ2 : zMem) => if (μ2 23 1) < (29 : Int32) then bnd0 (f5_copyWorld 28 23 μ2) (fun (v5 : Int32) (μ6 : zMem) => bnd0 (f5_beginDay 28 ((μ6 23 1) + (1 : Int32)) μ6) (fun (v7 : Int32) (μ8 : zMem) => bnd0 (f2_make μ8) (fun (v9 : Int32) (μ10 : zMem) => bnd0 (f2_worthAtMost μ10) (fun (v11 : Int32) (μ12 : zMem) => f8_night_L70 x1 (fun (x3_37 : Int32) (μ38 : zMem) => some (0, x3_37, μ38)) zF v11 (-1 : Int32) (0 : Int32) μ12)))) else some (0, (-1 : Int32), μ2))
set_option maxHeartbeats 1000000 in
theorem t8_night_L88 {g : Bool} (x1 : Int32) (x4 : Int32) (K172 : Int32 → Int32 → zMem → zRes) (hK172 : ∀ (x2 : Int32) (x3 : Int32) (μ : zMem), zR yX8_night cX8_night 9 (some .int) 7 172 [.ref 0, .int x1, .int x2, .int x3, .int x4, .null, .null, .null, .null] [] (nX g) (SX g) μ (K172 x2 x3 μ)) : ∀ (n : Nat) (x2 : Int32) (x3 : Int32) (x5 : Int32) (x6 : Int32) (μ : zMem), zR yX8_night cX8_night 9 (some .int) 7 88 [.ref 0, .int x1, .int x2, .int x3, .int x4, .int x5, .int x6, .null, .null] [] (nX g) (SX g) μ (f8_night_L88 x1 x4 K172 n x2 x3 x5 x6 μ) := by
  intro n
  induction n with
  | zero => intro x2 x3 x5 x6 μ; intro q hq; cases hq
  | succ n ih =>
    intro x2 x3 x5 x6 μ
    unfold f8_night_L88
    refine z_iload (pc := 88) dX8_night_88 rfl ?_
    refine z_aload_n (pc := 90) dX8_night_90 rfl ?_
    refine z_getr (pc := 91) fdX8_23 (nx_lt (by decide)) (sx_0 g) rfl rfl dX8_night_91 ?_
    refine z_geti (pc := 94) fdX8_116 (nx_lt (by decide)) (sx_2 g) rfl dX8_night_94 ?_
    refine z_icmp_ge (pc := 97) (tgt := 172) dX8_night_97 (by decide) (fun c15 => ?_) (fun c16 => ?_)
    · refine z_loc (L' := [.ref 0, .int x1, .int x2, .int x3, .int x4, .null, .null, .null, .null]) ⟨Or.inr rfl, ⟨Or.inr rfl, ⟨Or.inr rfl, ⟨Or.inr rfl, ⟨Or.inr rfl, ⟨Or.inl rfl, ⟨Or.inl rfl, ⟨Or.inl rfl, ⟨Or.inl rfl, trivial⟩⟩⟩⟩⟩⟩⟩⟩⟩ ?_
      exact hK172 x2 x3 μ
    · refine z_iconst (pc := 100) (1 : Int32) dX8_night_100 (by decide) ?_
      refine z_aload_n (pc := 101) dX8_night_101 rfl ?_
      refine z_getr (pc := 102) fdX8_48 (nx_lt (by decide)) (sx_0 g) rfl rfl dX8_night_102 ?_
      refine z_iload (pc := 105) dX8_night_105 rfl ?_
      refine z_iload (pc := 107) dX8_night_107 rfl ?_
      refine z_iload_n (pc := 109) dX8_night_109 rfl ?_
      refine z_callV (As := [.int x4, .int x6, .int x1]) (pc := 110) (ret' := some .int) kvX8_274 (t5_stepTo zSc_28 _ _ _ _) (by decide) (nx_lt (by decide)) (sx_28 g)  rfl rfl (Nat.le_of_ble_eq_true rfl) dX8_night_110 (fun v17 μ18 => ?_)
      refine z_iconst (pc := 113) (1 : Int32) dX8_night_113 (by decide) ?_
      refine z_iadd (pc := 114) dX8_night_114 ?_
      refine z_ishl (pc := 115) dX8_night_115 ?_
      refine z_val (fun v19 => ?_)
      refine z_istore (pc := 116) (L' := [.ref 0, .int x1, .int x2, .int x3, .int x4, .int x5, .int x6, .int v19, .null]) dX8_night_116 (by decide) rfl ?_
      refine z_iload (pc := 118) dX8_night_118 rfl ?_
      refine z_iload (pc := 120) dX8_night_120 rfl ?_
      refine z_iand (pc := 122) dX8_night_122 ?_
      refine z_let (fun (j : Int32 → zMem → zRes) => ∀ (s20 : Int32) (μ21 : zMem), zR yX8_night cX8_night 9 (some .int) 7 139 [.ref 0, .int x1, .int x2, .int x3, .int x4, .int x5, .int x6, .int v19, .null] [.int s20] (nX g) (SX g) μ21 (j s20 μ21)) ?_ (fun j29 hj29 => ?_)
      · intro s20 μ21
        refine z_istore (pc := 139) (L' := [.ref 0, .int x1, .int x2, .int x3, .int x4, .int x5, .int x6, .int v19, .int s20]) dX8_night_139 (by decide) rfl ?_
        refine z_iload (pc := 141) dX8_night_141 rfl ?_
        refine z_iload (pc := 143) dX8_night_143 rfl ?_
        refine z_ior (pc := 145) dX8_night_145 ?_
        refine z_val (fun v22 => ?_)
        refine z_istore (pc := 146) (L' := [.ref 0, .int x1, .int x2, .int x3, .int x4, .int v22, .int x6, .int v19, .int s20]) dX8_night_146 (by decide) rfl ?_
        refine z_iload (pc := 148) dX8_night_148 rfl ?_
        refine z_iload_n (pc := 150) dX8_night_150 rfl ?_
        refine z_let (fun (j : Int32 → Int32 → zRes) => ∀ (x2_23 : Int32) (x3_24 : Int32), zR yX8_night cX8_night 9 (some .int) 7 166 [.ref 0, .int x1, .int x2_23, .int x3_24, .int x4, .int v22, .int x6, .null, .null] [] (nX g) (SX g) μ21 (j x2_23 x3_24)) ?_ (fun j25 hj25 => ?_)
        · intro x2_23 x3_24
          refine z_iinc (pc := 166) (v := x6 + (1 : Int32)) (L' := [.ref 0, .int x1, .int x2_23, .int x3_24, .int x4, .int v22, .int (x6 + (1 : Int32)), .null, .null]) dX8_night_166 (by decide) rfl (congrArg _ (by decide)) rfl ?_
          refine z_goto (pc := 169) (tgt := 88) dX8_night_169 (by decide) ?_
          exact ih x2_23 x3_24 v22 (x6 + (1 : Int32)) μ21
        · refine z_icmp_le (pc := 151) (tgt := 166) dX8_night_151 (by decide) (fun c26 => ?_) (fun c27 => ?_)
          · refine z_loc (L' := [.ref 0, .int x1, .int x2, .int x3, .int x4, .int v22, .int x6, .null, .null]) ⟨Or.inr rfl, ⟨Or.inr rfl, ⟨Or.inr rfl, ⟨Or.inr rfl, ⟨Or.inr rfl, ⟨Or.inr rfl, ⟨Or.inr rfl, ⟨Or.inl rfl, ⟨Or.inl rfl, trivial⟩⟩⟩⟩⟩⟩⟩⟩⟩ ?_
            exact hj25 x2 x3
          · refine z_iload (pc := 154) dX8_night_154 rfl ?_
            refine z_istore_n (pc := 156) (L' := [.ref 0, .int x1, .int s20, .int x3, .int x4, .int v22, .int x6, .int v19, .int s20]) dX8_night_156 (by decide) rfl ?_
            refine z_bipush (pc := 157) (10 : Int32) dX8_night_157 (by decide) ?_
            refine z_iload (pc := 159) dX8_night_159 rfl ?_
            refine z_imul (pc := 161) dX8_night_161 ?_
            refine z_iload (pc := 162) dX8_night_162 rfl ?_
            refine z_iadd (pc := 164) dX8_night_164 ?_
            refine z_val (fun v28 => ?_)
            refine z_istore_n (pc := 165) (L' := [.ref 0, .int x1, .int s20, .int v28, .int x4, .int v22, .int x6, .int v19, .int s20]) dX8_night_165 (by decide) rfl ?_
            refine z_loc (L' := [.ref 0, .int x1, .int s20, .int v28, .int x4, .int v22, .int x6, .null, .null]) ⟨Or.inr rfl, ⟨Or.inr rfl, ⟨Or.inr rfl, ⟨Or.inr rfl, ⟨Or.inr rfl, ⟨Or.inr rfl, ⟨Or.inr rfl, ⟨Or.inl rfl, ⟨Or.inl rfl, trivial⟩⟩⟩⟩⟩⟩⟩⟩⟩ ?_
            exact hj25 s20 v28
      · refine z_if_ne (pc := 123) (tgt := 138) dX8_night_123 (by decide) (fun c30 => ?_) (fun c31 => ?_)
        · refine z_iconst (pc := 138) (-1 : Int32) dX8_night_138 (by decide) ?_
          exact hj29 (-1 : Int32) μ18
        · refine z_aload_n (pc := 126) dX8_night_126 rfl ?_
          refine z_iload (pc := 127) dX8_night_127 rfl ?_
          refine z_iload (pc := 129) dX8_night_129 rfl ?_
          refine z_iload_n (pc := 131) dX8_night_131 rfl ?_
          refine z_callV (As := [.int x4, .int x6, .int x1]) (pc := 132) (ret' := some .int) kvX8_277 (t8_worthBehindTalk _ _ _ _) (by decide) (nx_lt (by decide)) (sx_0 g)  rfl rfl (Nat.le_of_ble_eq_true rfl) dX8_night_132 (fun v32 μ33 => ?_)
          refine z_goto (pc := 135) (tgt := 139) dX8_night_135 (by decide) ?_
          exact hj29 v32 μ33
set_option maxHeartbeats 1000000 in
theorem t8_night_L70 {g : Bool} (x1 : Int32) (K178 : Int32 → zMem → zRes) (hK178 : ∀ (x3 : Int32) (μ : zMem), zR yX8_night cX8_night 9 (some .int) 7 178 [.null, .null, .null, .int x3, .null, .null, .null, .null, .null] [] (nX g) (SX g) μ (K178 x3 μ)) : ∀ (n : Nat) (x2 : Int32) (x3 : Int32) (x4 : Int32) (μ : zMem), zR yX8_night cX8_night 9 (some .int) 7 70 [.ref 0, .int x1, .int x2, .int x3, .int x4, .null, .null, .null, .null] [] (nX g) (SX g) μ (f8_night_L70 x1 K178 n x2 x3 x4 μ) := by
  intro n
  induction n with
  | zero => intro x2 x3 x4 μ; intro q hq; cases hq
  | succ n ih =>
    intro x2 x3 x4 μ
    unfold f8_night_L70
    refine z_iload (pc := 70) dX8_night_70 rfl ?_
    refine z_aload_n (pc := 72) dX8_night_72 rfl ?_
    refine z_getr (pc := 73) fdX8_23 (nx_lt (by decide)) (sx_0 g) rfl rfl dX8_night_73 ?_
    refine z_geti (pc := 76) fdX8_116 (nx_lt (by decide)) (sx_2 g) rfl dX8_night_76 ?_
    refine z_icmp_ge (pc := 79) (tgt := 178) dX8_night_79 (by decide) (fun c13 => ?_) (fun c14 => ?_)
    · refine z_loc (L' := [.null, .null, .null, .int x3, .null, .null, .null, .null, .null]) ⟨Or.inl rfl, ⟨Or.inl rfl, ⟨Or.inl rfl, ⟨Or.inr rfl, ⟨Or.inl rfl, ⟨Or.inl rfl, ⟨Or.inl rfl, ⟨Or.inl rfl, ⟨Or.inl rfl, trivial⟩⟩⟩⟩⟩⟩⟩⟩⟩ ?_
      exact hK178 x3 μ
    · refine z_iconst (pc := 82) (0 : Int32) dX8_night_82 (by decide) ?_
      refine z_istore (pc := 83) (L' := [.ref 0, .int x1, .int x2, .int x3, .int x4, .int (0 : Int32), .null, .null, .null]) dX8_night_83 (by decide) rfl ?_
      refine z_iconst (pc := 85) (0 : Int32) dX8_night_85 (by decide) ?_
      refine z_istore (pc := 86) (L' := [.ref 0, .int x1, .int x2, .int x3, .int x4, .int (0 : Int32), .int (0 : Int32), .null, .null]) dX8_night_86 (by decide) rfl ?_
      refine t8_night_L88 _ _ _ (fun x2_34 x3_35 μ36 => ?_) zF _ _ _ _ _
      · refine z_iinc (pc := 172) (v := x4 + (1 : Int32)) (L' := [.ref 0, .int x1, .int x2_34, .int x3_35, .int (x4 + (1 : Int32)), .null, .null, .null, .null]) dX8_night_172 (by decide) rfl (congrArg _ (by decide)) rfl ?_
        refine z_goto (pc := 175) (tgt := 70) dX8_night_175 (by decide) ?_
        exact ih x2_34 x3_35 (x4 + (1 : Int32)) μ36
set_option maxHeartbeats 1000000 in
theorem t8_night {g : Bool} (x1 : Int32) (μ : zMem) : zMR yX8_night cX8_night 9 (some .int) 7 [.ref 0, .int x1] (nX g) (SX g) μ (f8_night x1 μ) := by
  refine zMR_of (by decide +kernel) rfl (Nat.le_of_ble_eq_true rfl) (L := [.ref 0, .int x1, .null, .null, .null, .null, .null, .null, .null]) rfl ?_
  unfold f8_night
  refine z_aload_n (pc := 0) dX8_night_0 rfl ?_
  refine z_iload_n (pc := 1) dX8_night_1 rfl ?_
  refine z_callX (As := [.int x1]) (pc := 2) (ret' := none) kvX8_143 klX8_143 (t8_needQuestion _ _) (by decide) (nx_lt (by decide)) (sx_0 g)  rfl rfl (Nat.le_of_ble_eq_true rfl) dX8_night_2 (fun v1 μ2 => ?_)
  refine z_aload_n (pc := 5) dX8_night_5 rfl ?_
  refine z_getr (pc := 6) fdX8_44 (nx_lt (by decide)) (sx_0 g) rfl rfl dX8_night_6 ?_
  refine z_geti (pc := 9) fdX8_204 (nx_lt (by decide)) (sx_23 g) rfl dX8_night_9 ?_
  refine z_bipush (pc := 12) (29 : Int32) dX8_night_12 (by decide) ?_
  refine z_icmp_lt (pc := 14) (tgt := 19) dX8_night_14 (by decide) (fun c3 => ?_) (fun c4 => ?_)
  · refine z_aload_n (pc := 19) dX8_night_19 rfl ?_
    refine z_getr (pc := 20) fdX8_48 (nx_lt (by decide)) (sx_0 g) rfl rfl dX8_night_20 ?_
    refine z_aload_n (pc := 23) dX8_night_23 rfl ?_
    refine z_getr (pc := 24) fdX8_44 (nx_lt (by decide)) (sx_0 g) rfl rfl dX8_night_24 ?_
    refine z_callV (As := [.ref 23]) (pc := 27) (ret' := none) kvX8_232 (t5_copyWorld zSc_28 zSc_23 _) (by decide) (nx_lt (by decide)) (sx_28 g)  rfl rfl (Nat.le_of_ble_eq_true rfl) dX8_night_27 (fun v5 μ6 => ?_)
    refine z_aload_n (pc := 30) dX8_night_30 rfl ?_
    refine z_getr (pc := 31) fdX8_48 (nx_lt (by decide)) (sx_0 g) rfl rfl dX8_night_31 ?_
    refine z_aload_n (pc := 34) dX8_night_34 rfl ?_
    refine z_getr (pc := 35) fdX8_44 (nx_lt (by decide)) (sx_0 g) rfl rfl dX8_night_35 ?_
    refine z_geti (pc := 38) fdX8_204 (nx_lt (by decide)) (sx_23 g) rfl dX8_night_38 ?_
    refine z_iconst (pc := 41) (1 : Int32) dX8_night_41 (by decide) ?_
    refine z_iadd (pc := 42) dX8_night_42 ?_
    refine z_callV (As := [.int ((μ6 23 1) + (1 : Int32))]) (pc := 43) (ret' := none) kvX8_207 (t5_beginDay zSc_28 _ _) (by decide) (nx_lt (by decide)) (sx_28 g)  rfl rfl (Nat.le_of_ble_eq_true rfl) dX8_night_43 (fun v7 μ8 => ?_)
    refine z_aload_n (pc := 46) dX8_night_46 rfl ?_
    refine z_getr (pc := 47) fdX8_61 (nx_lt (by decide)) (sx_0 g) rfl rfl dX8_night_47 ?_
    refine z_aload_n (pc := 50) dX8_night_50 rfl ?_
    refine z_getr (pc := 51) fdX8_48 (nx_lt (by decide)) (sx_0 g) rfl rfl dX8_night_51 ?_
    refine z_callV (As := [.ref 28]) (pc := 54) (ret' := none) kvX8_271 (t2_make _) (by decide) (nx_lt (by decide)) (sx_49 g)  rfl rfl (Nat.le_of_ble_eq_true rfl) dX8_night_54 (fun v9 μ10 => ?_)
    refine z_aload_n (pc := 57) dX8_night_57 rfl ?_
    refine z_getr (pc := 58) fdX8_61 (nx_lt (by decide)) (sx_0 g) rfl rfl dX8_night_58 ?_
    refine z_callV (As := []) (pc := 61) (ret' := some .int) kvX8_248 (t2_worthAtMost _) (by decide) (nx_lt (by decide)) (sx_49 g)  rfl rfl (Nat.le_of_ble_eq_true rfl) dX8_night_61 (fun v11 μ12 => ?_)
    refine z_istore_n (pc := 64) (L' := [.ref 0, .int x1, .int v11, .null, .null, .null, .null, .null, .null]) dX8_night_64 (by decide) rfl ?_
    refine z_iconst (pc := 65) (-1 : Int32) dX8_night_65 (by decide) ?_
    refine z_istore_n (pc := 66) (L' := [.ref 0, .int x1, .int v11, .int (-1 : Int32), .null, .null, .null, .null, .null]) dX8_night_66 (by decide) rfl ?_
    refine z_iconst (pc := 67) (0 : Int32) dX8_night_67 (by decide) ?_
    refine z_istore (pc := 68) (L' := [.ref 0, .int x1, .int v11, .int (-1 : Int32), .int (0 : Int32), .null, .null, .null, .null]) dX8_night_68 (by decide) rfl ?_
    refine t8_night_L70 _ _ (fun x3_37 μ38 => ?_) zF _ _ _ _
    · refine z_iload_n (pc := 178) dX8_night_178 rfl ?_
      exact z_iret (pc := 179) rfl dX8_night_179
  · refine z_iconst (pc := 17) (-1 : Int32) dX8_night_17 (by decide) ?_
    exact z_iret (pc := 18) rfl dX8_night_18
def f8_best (x1 : Int32) (μ : zMem) : zRes := bnd (f8_needWhat x1 (2 : Int32) μ) (fun (v1 : Int32) (μ2 : zMem) => bnd0 (f6_seekBestRow μ2) (fun (v3 : Int32) (μ4 : zMem) => bnd0 (f6_answer x1 μ4) (fun (v5 : Int32) (μ6 : zMem) => some (0, v5, μ6))))
set_option maxHeartbeats 1000000 in
theorem t8_best {g : Bool} (x1 : Int32) (μ : zMem) : zMR yX8_best cX8_best 2 (some .int) 7 [.ref 0, .int x1] (nX g) (SX g) μ (f8_best x1 μ) := by
  refine zMR_of (by decide +kernel) rfl (Nat.le_of_ble_eq_true rfl) (L := [.ref 0, .int x1]) rfl ?_
  unfold f8_best
  refine z_aload_n (pc := 0) dX8_best_0 rfl ?_
  refine z_iload_n (pc := 1) dX8_best_1 rfl ?_
  refine z_iconst (pc := 2) (2 : Int32) dX8_best_2 (by decide) ?_
  refine z_callX (As := [.int x1, .int (2 : Int32)]) (pc := 3) (ret' := none) kvX8_216 klX8_216 (t8_needWhat _ _ _) (by decide) (nx_lt (by decide)) (sx_0 g)  rfl rfl (Nat.le_of_ble_eq_true rfl) dX8_best_3 (fun v1 μ2 => ?_)
  refine z_aload_n (pc := 6) dX8_best_6 rfl ?_
  refine z_getr (pc := 7) fdX8_84 (nx_lt (by decide)) (sx_0 g) rfl rfl dX8_best_7 ?_
  refine z_aload_n (pc := 10) dX8_best_10 rfl ?_
  refine z_getr (pc := 11) fdX8_44 (nx_lt (by decide)) (sx_0 g) rfl rfl dX8_best_11 ?_
  refine z_callV (As := [.ref 23]) (pc := 14) (ret' := none) kvX8_280 (t6_seekBestRow _) (by decide) (nx_lt (by decide)) (sx_58 g)  rfl rfl (Nat.le_of_ble_eq_true rfl) dX8_best_14 (fun v3 μ4 => ?_)
  refine z_aload_n (pc := 17) dX8_best_17 rfl ?_
  refine z_getr (pc := 18) fdX8_84 (nx_lt (by decide)) (sx_0 g) rfl rfl dX8_best_18 ?_
  refine z_iload_n (pc := 21) dX8_best_21 rfl ?_
  refine z_callV (As := [.int x1]) (pc := 22) (ret' := some .int) kvX8_283 (t6_answer _ _) (by decide) (nx_lt (by decide)) (sx_58 g)  rfl rfl (Nat.le_of_ble_eq_true rfl) dX8_best_22 (fun v5 μ6 => ?_)
  exact z_iret (pc := 25) rfl dX8_best_25
def f8_needRule (x1 : Int32) (μ : zMem) : zRes := zlet (some (1, 0, μ)) (fun j1 => if x1 < 0 then j1 else if x1 < (4 : Int32) then some (0, 0, μ) else j1)
set_option maxHeartbeats 1000000 in
theorem t8_needRule {g : Bool} (x1 : Int32) (μ : zMem) : zMR yX8_needRule cX8_needRule 2 (none) 6 [.ref 0, .int x1] (nX g) (SX g) μ (f8_needRule x1 μ) := by
  refine zMR_of (by decide +kernel) rfl (Nat.le_of_ble_eq_true rfl) (L := [.ref 0, .int x1]) rfl ?_
  unfold f8_needRule
  refine z_iload_n (pc := 0) dX8_needRule_0 rfl ?_
  refine z_let (fun (j : zRes) => zR yX8_needRule cX8_needRule 2 (none) 6 9 [.null, .null] [] (nX g) (SX g) μ (j)) ?_ (fun j1 hj1 => ?_)
  · exact z_throwW (pc := 9) (ex := 0) (i := 19) (names := zNm)  rfl rfl (by decide) (by decide) ztf_1 ztn ztX8_1.1 zti_1 ztX8_1.2.1 ztX8_1.2.2 (Nat.le_of_ble_eq_true rfl) dX8_needRule_9 dX8_needRule_12 dX8_needRule_13 dX8_needRule_16 dX8_needRule_19
  · refine z_if_lt (pc := 1) (tgt := 9) dX8_needRule_1 (by decide) (fun c2 => ?_) (fun c3 => ?_)
    · refine z_loc (L' := [.null, .null]) ⟨Or.inl rfl, ⟨Or.inl rfl, trivial⟩⟩ ?_
      exact hj1
    · refine z_iload_n (pc := 4) dX8_needRule_4 rfl ?_
      refine z_iconst (pc := 5) (4 : Int32) dX8_needRule_5 (by decide) ?_
      refine z_icmp_lt (pc := 6) (tgt := 20) dX8_needRule_6 (by decide) (fun c4 => ?_) (fun c5 => ?_)
      · exact z_vret (pc := 20) rfl dX8_needRule_20
      · refine z_loc (L' := [.null, .null]) ⟨Or.inl rfl, ⟨Or.inl rfl, trivial⟩⟩ ?_
        exact hj1
def f8_needDays (x1 : Int32) (μ : zMem) : zRes := zlet (some (1, 0, μ)) (fun j1 => if x1 < (1 : Int32) then j1 else if x1 ≤ ((30 : Int32) - (μ 23 1)) then some (0, 0, μ) else j1)
set_option maxHeartbeats 1000000 in
theorem t8_needDays {g : Bool} (x1 : Int32) (μ : zMem) : zMR yX8_needDays cX8_needDays 2 (none) 6 [.ref 0, .int x1] (nX g) (SX g) μ (f8_needDays x1 μ) := by
  refine zMR_of (by decide +kernel) rfl (Nat.le_of_ble_eq_true rfl) (L := [.ref 0, .int x1]) rfl ?_
  unfold f8_needDays
  refine z_iload_n (pc := 0) dX8_needDays_0 rfl ?_
  refine z_iconst (pc := 1) (1 : Int32) dX8_needDays_1 (by decide) ?_
  refine z_let (fun (j : zRes) => zR yX8_needDays cX8_needDays 2 (none) 6 19 [.null, .null] [] (nX g) (SX g) μ (j)) ?_ (fun j1 hj1 => ?_)
  · exact z_throwW (pc := 19) (ex := 0) (i := 18) (names := zNm)  rfl rfl (by decide) (by decide) ztf_1 ztn ztX8_1.1 zti_1 ztX8_1.2.1 ztX8_1.2.2 (Nat.le_of_ble_eq_true rfl) dX8_needDays_19 dX8_needDays_22 dX8_needDays_23 dX8_needDays_26 dX8_needDays_29
  · refine z_icmp_lt (pc := 2) (tgt := 19) dX8_needDays_2 (by decide) (fun c2 => ?_) (fun c3 => ?_)
    · refine z_loc (L' := [.null, .null]) ⟨Or.inl rfl, ⟨Or.inl rfl, trivial⟩⟩ ?_
      exact hj1
    · refine z_iload_n (pc := 5) dX8_needDays_5 rfl ?_
      refine z_bipush (pc := 6) (30 : Int32) dX8_needDays_6 (by decide) ?_
      refine z_aload_n (pc := 8) dX8_needDays_8 rfl ?_
      refine z_getr (pc := 9) fdX8_44 (nx_lt (by decide)) (sx_0 g) rfl rfl dX8_needDays_9 ?_
      refine z_geti (pc := 12) fdX8_204 (nx_lt (by decide)) (sx_23 g) rfl dX8_needDays_12 ?_
      refine z_isub (pc := 15) dX8_needDays_15 ?_
      refine z_icmp_le (pc := 16) (tgt := 30) dX8_needDays_16 (by decide) (fun c4 => ?_) (fun c5 => ?_)
      · exact z_vret (pc := 30) rfl dX8_needDays_30
      · refine z_loc (L' := [.null, .null]) ⟨Or.inl rfl, ⟨Or.inl rfl, trivial⟩⟩ ?_
        exact hj1
def f8_run (x1 : Int32) (x2 : Int32) (x3 : Int32) (μ : zMem) : zRes := bnd (f8_needRule x1 μ) (fun (v1 : Int32) (μ2 : zMem) => bnd (f8_needDays x2 μ2) (fun (v3 : Int32) (μ4 : zMem) => bnd (f8_needWhat x3 (3 : Int32) μ4) (fun (v5 : Int32) (μ6 : zMem) => bnd0 (f5_copyWorld 28 23 μ6) (fun (v7 : Int32) (μ8 : zMem) => bnd0 (f4_goOn x1 x2 (0 : Int32) (0 : Int32) μ8) (fun (v9 : Int32) (μ10 : zMem) => bnd0 (f4_answer x3 μ10) (fun (v11 : Int32) (μ12 : zMem) => some (0, v11, μ12)))))))
set_option maxHeartbeats 1000000 in
theorem t8_run {g : Bool} (x1 : Int32) (x2 : Int32) (x3 : Int32) (μ : zMem) : zMR yX8_run cX8_run 4 (some .int) 7 [.ref 0, .int x1, .int x2, .int x3] (nX g) (SX g) μ (f8_run x1 x2 x3 μ) := by
  refine zMR_of (by decide +kernel) rfl (Nat.le_of_ble_eq_true rfl) (L := [.ref 0, .int x1, .int x2, .int x3]) rfl ?_
  unfold f8_run
  refine z_aload_n (pc := 0) dX8_run_0 rfl ?_
  refine z_iload_n (pc := 1) dX8_run_1 rfl ?_
  refine z_callX (As := [.int x1]) (pc := 2) (ret' := none) kvX8_286 klX8_286 (t8_needRule _ _) (by decide) (nx_lt (by decide)) (sx_0 g)  rfl rfl (Nat.le_of_ble_eq_true rfl) dX8_run_2 (fun v1 μ2 => ?_)
  refine z_aload_n (pc := 5) dX8_run_5 rfl ?_
  refine z_iload_n (pc := 6) dX8_run_6 rfl ?_
  refine z_callX (As := [.int x2]) (pc := 7) (ret' := none) kvX8_289 klX8_289 (t8_needDays _ _) (by decide) (nx_lt (by decide)) (sx_0 g)  rfl rfl (Nat.le_of_ble_eq_true rfl) dX8_run_7 (fun v3 μ4 => ?_)
  refine z_aload_n (pc := 10) dX8_run_10 rfl ?_
  refine z_iload_n (pc := 11) dX8_run_11 rfl ?_
  refine z_iconst (pc := 12) (3 : Int32) dX8_run_12 (by decide) ?_
  refine z_callX (As := [.int x3, .int (3 : Int32)]) (pc := 13) (ret' := none) kvX8_216 klX8_216 (t8_needWhat _ _ _) (by decide) (nx_lt (by decide)) (sx_0 g)  rfl rfl (Nat.le_of_ble_eq_true rfl) dX8_run_13 (fun v5 μ6 => ?_)
  refine z_aload_n (pc := 16) dX8_run_16 rfl ?_
  refine z_getr (pc := 17) fdX8_48 (nx_lt (by decide)) (sx_0 g) rfl rfl dX8_run_17 ?_
  refine z_aload_n (pc := 20) dX8_run_20 rfl ?_
  refine z_getr (pc := 21) fdX8_44 (nx_lt (by decide)) (sx_0 g) rfl rfl dX8_run_21 ?_
  refine z_callV (As := [.ref 23]) (pc := 24) (ret' := none) kvX8_232 (t5_copyWorld zSc_28 zSc_23 _) (by decide) (nx_lt (by decide)) (sx_28 g)  rfl rfl (Nat.le_of_ble_eq_true rfl) dX8_run_24 (fun v7 μ8 => ?_)
  refine z_aload_n (pc := 27) dX8_run_27 rfl ?_
  refine z_getr (pc := 28) fdX8_77 (nx_lt (by decide)) (sx_0 g) rfl rfl dX8_run_28 ?_
  refine z_iload_n (pc := 31) dX8_run_31 rfl ?_
  refine z_iload_n (pc := 32) dX8_run_32 rfl ?_
  refine z_iconst (pc := 33) (0 : Int32) dX8_run_33 (by decide) ?_
  refine z_iconst (pc := 34) (0 : Int32) dX8_run_34 (by decide) ?_
  refine z_callV (As := [.int x1, .int x2, .int (0 : Int32), .int (0 : Int32)]) (pc := 35) (ret' := none) kvX8_292 (t4_goOn _ _ _ _ _) (by decide) (nx_lt (by decide)) (sx_57 g)  rfl rfl (Nat.le_of_ble_eq_true rfl) dX8_run_35 (fun v9 μ10 => ?_)
  refine z_aload_n (pc := 38) dX8_run_38 rfl ?_
  refine z_getr (pc := 39) fdX8_77 (nx_lt (by decide)) (sx_0 g) rfl rfl dX8_run_39 ?_
  refine z_iload_n (pc := 42) dX8_run_42 rfl ?_
  refine z_callV (As := [.int x3]) (pc := 43) (ret' := some .int) kvX8_296 (t4_answer _ _) (by decide) (nx_lt (by decide)) (sx_57 g)  rfl rfl (Nat.le_of_ble_eq_true rfl) dX8_run_43 (fun v11 μ12 => ?_)
  exact z_iret (pc := 46) rfl dX8_run_46
def f8_lot (x1 : Int32) (x2 : Int32) (x3 : Int32) (x4 : Int32) (μ : zMem) : zRes := bnd (f8_needRule x1 μ) (fun (v1 : Int32) (μ2 : zMem) => bnd (f8_needDays x2 μ2) (fun (v3 : Int32) (μ4 : zMem) => bnd (f8_needWhat x3 (3 : Int32) μ4) (fun (v5 : Int32) (μ6 : zMem) => bnd0 (f5_copyWorld 28 23 μ6) (fun (v7 : Int32) (μ8 : zMem) => bnd0 (f4_goOn x1 x2 (1 : Int32) x4 μ8) (fun (v9 : Int32) (μ10 : zMem) => bnd0 (f4_answer x3 μ10) (fun (v11 : Int32) (μ12 : zMem) => some (0, v11, μ12)))))))
set_option maxHeartbeats 1000000 in
theorem t8_lot {g : Bool} (x1 : Int32) (x2 : Int32) (x3 : Int32) (x4 : Int32) (μ : zMem) : zMR yX8_lot cX8_lot 5 (some .int) 7 [.ref 0, .int x1, .int x2, .int x3, .int x4] (nX g) (SX g) μ (f8_lot x1 x2 x3 x4 μ) := by
  refine zMR_of (by decide +kernel) rfl (Nat.le_of_ble_eq_true rfl) (L := [.ref 0, .int x1, .int x2, .int x3, .int x4]) rfl ?_
  unfold f8_lot
  refine z_aload_n (pc := 0) dX8_lot_0 rfl ?_
  refine z_iload_n (pc := 1) dX8_lot_1 rfl ?_
  refine z_callX (As := [.int x1]) (pc := 2) (ret' := none) kvX8_286 klX8_286 (t8_needRule _ _) (by decide) (nx_lt (by decide)) (sx_0 g)  rfl rfl (Nat.le_of_ble_eq_true rfl) dX8_lot_2 (fun v1 μ2 => ?_)
  refine z_aload_n (pc := 5) dX8_lot_5 rfl ?_
  refine z_iload_n (pc := 6) dX8_lot_6 rfl ?_
  refine z_callX (As := [.int x2]) (pc := 7) (ret' := none) kvX8_289 klX8_289 (t8_needDays _ _) (by decide) (nx_lt (by decide)) (sx_0 g)  rfl rfl (Nat.le_of_ble_eq_true rfl) dX8_lot_7 (fun v3 μ4 => ?_)
  refine z_aload_n (pc := 10) dX8_lot_10 rfl ?_
  refine z_iload_n (pc := 11) dX8_lot_11 rfl ?_
  refine z_iconst (pc := 12) (3 : Int32) dX8_lot_12 (by decide) ?_
  refine z_callX (As := [.int x3, .int (3 : Int32)]) (pc := 13) (ret' := none) kvX8_216 klX8_216 (t8_needWhat _ _ _) (by decide) (nx_lt (by decide)) (sx_0 g)  rfl rfl (Nat.le_of_ble_eq_true rfl) dX8_lot_13 (fun v5 μ6 => ?_)
  refine z_aload_n (pc := 16) dX8_lot_16 rfl ?_
  refine z_getr (pc := 17) fdX8_48 (nx_lt (by decide)) (sx_0 g) rfl rfl dX8_lot_17 ?_
  refine z_aload_n (pc := 20) dX8_lot_20 rfl ?_
  refine z_getr (pc := 21) fdX8_44 (nx_lt (by decide)) (sx_0 g) rfl rfl dX8_lot_21 ?_
  refine z_callV (As := [.ref 23]) (pc := 24) (ret' := none) kvX8_232 (t5_copyWorld zSc_28 zSc_23 _) (by decide) (nx_lt (by decide)) (sx_28 g)  rfl rfl (Nat.le_of_ble_eq_true rfl) dX8_lot_24 (fun v7 μ8 => ?_)
  refine z_aload_n (pc := 27) dX8_lot_27 rfl ?_
  refine z_getr (pc := 28) fdX8_77 (nx_lt (by decide)) (sx_0 g) rfl rfl dX8_lot_28 ?_
  refine z_iload_n (pc := 31) dX8_lot_31 rfl ?_
  refine z_iload_n (pc := 32) dX8_lot_32 rfl ?_
  refine z_iconst (pc := 33) (1 : Int32) dX8_lot_33 (by decide) ?_
  refine z_iload (pc := 34) dX8_lot_34 rfl ?_
  refine z_callV (As := [.int x1, .int x2, .int (1 : Int32), .int x4]) (pc := 36) (ret' := none) kvX8_292 (t4_goOn _ _ _ _ _) (by decide) (nx_lt (by decide)) (sx_57 g)  rfl rfl (Nat.le_of_ble_eq_true rfl) dX8_lot_36 (fun v9 μ10 => ?_)
  refine z_aload_n (pc := 39) dX8_lot_39 rfl ?_
  refine z_getr (pc := 40) fdX8_77 (nx_lt (by decide)) (sx_0 g) rfl rfl dX8_lot_40 ?_
  refine z_iload_n (pc := 43) dX8_lot_43 rfl ?_
  refine z_callV (As := [.int x3]) (pc := 44) (ret' := some .int) kvX8_296 (t4_answer _ _) (by decide) (nx_lt (by decide)) (sx_57 g)  rfl rfl (Nat.le_of_ble_eq_true rfl) dX8_lot_44 (fun v11 μ12 => ?_)
  exact z_iret (pc := 47) rfl dX8_lot_47
def f8_worthOfRun (x1 : Int32) (x2 : Int32) (x3 : Int32) (μ : zMem) : zRes := bnd0 (f5_copyWorld 28 23 μ) (fun (v1 : Int32) (μ2 : zMem) => zlet (fun (μ3 : zMem) => bnd0 (f4_goOn x1 x2 (0 : Int32) (0 : Int32) μ3) (fun (v4 : Int32) (μ5 : zMem) => some (0, μ5 57 2, μ5))) (fun j6 => if x3 = (-1 : Int32) then j6 μ2 else zin x3 9 (zlet (zset μ2 31 x3.toNatClampNeg (0 : Int32)) (fun (μ10 : zMem) => j6 μ10))))
set_option maxHeartbeats 1000000 in
theorem t8_worthOfRun {g : Bool} (x1 : Int32) (x2 : Int32) (x3 : Int32) (μ : zMem) : zMR yX8_worthOfRun cX8_worthOfRun 4 (some .int) 6 [.ref 0, .int x1, .int x2, .int x3] (nX g) (SX g) μ (f8_worthOfRun x1 x2 x3 μ) := by
  refine zMR_of (by decide +kernel) rfl (Nat.le_of_ble_eq_true rfl) (L := [.ref 0, .int x1, .int x2, .int x3]) rfl ?_
  unfold f8_worthOfRun
  refine z_aload_n (pc := 0) dX8_worthOfRun_0 rfl ?_
  refine z_getr (pc := 1) fdX8_48 (nx_lt (by decide)) (sx_0 g) rfl rfl dX8_worthOfRun_1 ?_
  refine z_aload_n (pc := 4) dX8_worthOfRun_4 rfl ?_
  refine z_getr (pc := 5) fdX8_44 (nx_lt (by decide)) (sx_0 g) rfl rfl dX8_worthOfRun_5 ?_
  refine z_callV (As := [.ref 23]) (pc := 8) (ret' := none) kvX8_232 (t5_copyWorld zSc_28 zSc_23 _) (by decide) (nx_lt (by decide)) (sx_28 g)  rfl rfl (Nat.le_of_ble_eq_true rfl) dX8_worthOfRun_8 (fun v1 μ2 => ?_)
  refine z_iload_n (pc := 11) dX8_worthOfRun_11 rfl ?_
  refine z_iconst (pc := 12) (-1 : Int32) dX8_worthOfRun_12 (by decide) ?_
  refine z_let (fun (j : zMem → zRes) => ∀ (μ3 : zMem), zR yX8_worthOfRun cX8_worthOfRun 4 (some .int) 6 26 [.ref 0, .int x1, .int x2, .null] [] (nX g) (SX g) μ3 (j μ3)) ?_ (fun j6 hj6 => ?_)
  · intro μ3
    refine z_aload_n (pc := 26) dX8_worthOfRun_26 rfl ?_
    refine z_getr (pc := 27) fdX8_77 (nx_lt (by decide)) (sx_0 g) rfl rfl dX8_worthOfRun_27 ?_
    refine z_iload_n (pc := 30) dX8_worthOfRun_30 rfl ?_
    refine z_iload_n (pc := 31) dX8_worthOfRun_31 rfl ?_
    refine z_iconst (pc := 32) (0 : Int32) dX8_worthOfRun_32 (by decide) ?_
    refine z_iconst (pc := 33) (0 : Int32) dX8_worthOfRun_33 (by decide) ?_
    refine z_callV (As := [.int x1, .int x2, .int (0 : Int32), .int (0 : Int32)]) (pc := 34) (ret' := none) kvX8_292 (t4_goOn _ _ _ _ _) (by decide) (nx_lt (by decide)) (sx_57 g)  rfl rfl (Nat.le_of_ble_eq_true rfl) dX8_worthOfRun_34 (fun v4 μ5 => ?_)
    refine z_aload_n (pc := 37) dX8_worthOfRun_37 rfl ?_
    refine z_getr (pc := 38) fdX8_77 (nx_lt (by decide)) (sx_0 g) rfl rfl dX8_worthOfRun_38 ?_
    refine z_geti (pc := 41) fdX8_390 (nx_lt (by decide)) (sx_57 g) rfl dX8_worthOfRun_41 ?_
    exact z_iret (pc := 44) rfl dX8_worthOfRun_44
  · refine z_icmp_eq (pc := 13) (tgt := 26) dX8_worthOfRun_13 (by decide) (fun c7 => ?_) (fun c8 => ?_)
    · refine z_loc (L' := [.ref 0, .int x1, .int x2, .null]) ⟨Or.inr rfl, ⟨Or.inr rfl, ⟨Or.inr rfl, ⟨Or.inl rfl, trivial⟩⟩⟩⟩ ?_
      exact hj6 μ2
    · refine z_aload_n (pc := 16) dX8_worthOfRun_16 rfl ?_
      refine z_getr (pc := 17) fdX8_48 (nx_lt (by decide)) (sx_0 g) rfl rfl dX8_worthOfRun_17 ?_
      refine z_getr (pc := 20) fdX8_389 (nx_lt (by decide)) (sx_28 g) rfl rfl dX8_worthOfRun_20 ?_
      refine z_iload_n (pc := 23) dX8_worthOfRun_23 rfl ?_
      refine z_iconst (pc := 24) (0 : Int32) dX8_worthOfRun_24 (by decide) ?_
      refine z_iast (pc := 25) (nx_lt (by decide)) (sx_31 g) rfl dX8_worthOfRun_25 (fun h9 => ?_)
      refine z_mem (fun μ10 => ?_)
      refine z_loc (L' := [.ref 0, .int x1, .int x2, .null]) ⟨Or.inr rfl, ⟨Or.inr rfl, ⟨Or.inr rfl, ⟨Or.inl rfl, trivial⟩⟩⟩⟩ ?_
      exact hj6 μ10
def f8_rule_L12 (x1 : Int32) (K46 : Int32 → zMem → zRes) : Nat → Int32 → Int32 → Int32 → zMem → zRes
  | 0, _, _, _, _ => none
  | n + 1, x2, x3, x4, μ => if (4 : Int32) ≤ x4 then K46 x2 μ else bnd0 (f8_worthOfRun x4 x1 (-1 : Int32) μ) (fun (v5 : Int32) (μ6 : zMem) => zlet (fun (x2_7 : Int32) (x3_8 : Int32) => f8_rule_L12 x1 K46 n x2_7 x3_8 (x4 + (1 : Int32)) μ6) (fun j9 => if v5 ≤ x3 then j9 x2 x3 else j9 x4 v5))
def f8_rule (x1 : Int32) (μ : zMem) : zRes := bnd (f8_needDays x1 μ) (fun (v1 : Int32) (μ2 : zMem) => f8_rule_L12 x1 (fun (x2_12 : Int32) (μ13 : zMem) => some (0, x2_12, μ13)) zF (0 : Int32) (-1 : Int32) (0 : Int32) μ2)
set_option maxHeartbeats 1000000 in
theorem t8_rule_L12 {g : Bool} (x1 : Int32) (K46 : Int32 → zMem → zRes) (hK46 : ∀ (x2 : Int32) (μ : zMem), zR yX8_rule cX8_rule 6 (some .int) 7 46 [.null, .null, .int x2, .null, .null, .null] [] (nX g) (SX g) μ (K46 x2 μ)) : ∀ (n : Nat) (x2 : Int32) (x3 : Int32) (x4 : Int32) (μ : zMem), zR yX8_rule cX8_rule 6 (some .int) 7 12 [.ref 0, .int x1, .int x2, .int x3, .int x4, .null] [] (nX g) (SX g) μ (f8_rule_L12 x1 K46 n x2 x3 x4 μ) := by
  intro n
  induction n with
  | zero => intro x2 x3 x4 μ; intro q hq; cases hq
  | succ n ih =>
    intro x2 x3 x4 μ
    unfold f8_rule_L12
    refine z_iload (pc := 12) dX8_rule_12 rfl ?_
    refine z_iconst (pc := 14) (4 : Int32) dX8_rule_14 (by decide) ?_
    refine z_icmp_ge (pc := 15) (tgt := 46) dX8_rule_15 (by decide) (fun c3 => ?_) (fun c4 => ?_)
    · refine z_loc (L' := [.null, .null, .int x2, .null, .null, .null]) ⟨Or.inl rfl, ⟨Or.inl rfl, ⟨Or.inr rfl, ⟨Or.inl rfl, ⟨Or.inl rfl, ⟨Or.inl rfl, trivial⟩⟩⟩⟩⟩⟩ ?_
      exact hK46 x2 μ
    · refine z_aload_n (pc := 18) dX8_rule_18 rfl ?_
      refine z_iload (pc := 19) dX8_rule_19 rfl ?_
      refine z_iload_n (pc := 21) dX8_rule_21 rfl ?_
      refine z_iconst (pc := 22) (-1 : Int32) dX8_rule_22 (by decide) ?_
      refine z_callV (As := [.int x4, .int x1, .int (-1 : Int32)]) (pc := 23) (ret' := some .int) kvX8_297 (t8_worthOfRun _ _ _ _) (by decide) (nx_lt (by decide)) (sx_0 g)  rfl rfl (Nat.le_of_ble_eq_true rfl) dX8_rule_23 (fun v5 μ6 => ?_)
      refine z_istore (pc := 26) (L' := [.ref 0, .int x1, .int x2, .int x3, .int x4, .int v5]) dX8_rule_26 (by decide) rfl ?_
      refine z_iload (pc := 28) dX8_rule_28 rfl ?_
      refine z_iload_n (pc := 30) dX8_rule_30 rfl ?_
      refine z_let (fun (j : Int32 → Int32 → zRes) => ∀ (x2_7 : Int32) (x3_8 : Int32), zR yX8_rule cX8_rule 6 (some .int) 7 40 [.ref 0, .int x1, .int x2_7, .int x3_8, .int x4, .null] [] (nX g) (SX g) μ6 (j x2_7 x3_8)) ?_ (fun j9 hj9 => ?_)
      · intro x2_7 x3_8
        refine z_iinc (pc := 40) (v := x4 + (1 : Int32)) (L' := [.ref 0, .int x1, .int x2_7, .int x3_8, .int (x4 + (1 : Int32)), .null]) dX8_rule_40 (by decide) rfl (congrArg _ (by decide)) rfl ?_
        refine z_goto (pc := 43) (tgt := 12) dX8_rule_43 (by decide) ?_
        exact ih x2_7 x3_8 (x4 + (1 : Int32)) μ6
      · refine z_icmp_le (pc := 31) (tgt := 40) dX8_rule_31 (by decide) (fun c10 => ?_) (fun c11 => ?_)
        · refine z_loc (L' := [.ref 0, .int x1, .int x2, .int x3, .int x4, .null]) ⟨Or.inr rfl, ⟨Or.inr rfl, ⟨Or.inr rfl, ⟨Or.inr rfl, ⟨Or.inr rfl, ⟨Or.inl rfl, trivial⟩⟩⟩⟩⟩⟩ ?_
          exact hj9 x2 x3
        · refine z_iload (pc := 34) dX8_rule_34 rfl ?_
          refine z_istore_n (pc := 36) (L' := [.ref 0, .int x1, .int x2, .int v5, .int x4, .int v5]) dX8_rule_36 (by decide) rfl ?_
          refine z_iload (pc := 37) dX8_rule_37 rfl ?_
          refine z_istore_n (pc := 39) (L' := [.ref 0, .int x1, .int x4, .int v5, .int x4, .int v5]) dX8_rule_39 (by decide) rfl ?_
          refine z_loc (L' := [.ref 0, .int x1, .int x4, .int v5, .int x4, .null]) ⟨Or.inr rfl, ⟨Or.inr rfl, ⟨Or.inr rfl, ⟨Or.inr rfl, ⟨Or.inr rfl, ⟨Or.inl rfl, trivial⟩⟩⟩⟩⟩⟩ ?_
          exact hj9 x4 v5
set_option maxHeartbeats 1000000 in
theorem t8_rule {g : Bool} (x1 : Int32) (μ : zMem) : zMR yX8_rule cX8_rule 6 (some .int) 7 [.ref 0, .int x1] (nX g) (SX g) μ (f8_rule x1 μ) := by
  refine zMR_of (by decide +kernel) rfl (Nat.le_of_ble_eq_true rfl) (L := [.ref 0, .int x1, .null, .null, .null, .null]) rfl ?_
  unfold f8_rule
  refine z_aload_n (pc := 0) dX8_rule_0 rfl ?_
  refine z_iload_n (pc := 1) dX8_rule_1 rfl ?_
  refine z_callX (As := [.int x1]) (pc := 2) (ret' := none) kvX8_289 klX8_289 (t8_needDays _ _) (by decide) (nx_lt (by decide)) (sx_0 g)  rfl rfl (Nat.le_of_ble_eq_true rfl) dX8_rule_2 (fun v1 μ2 => ?_)
  refine z_iconst (pc := 5) (0 : Int32) dX8_rule_5 (by decide) ?_
  refine z_istore_n (pc := 6) (L' := [.ref 0, .int x1, .int (0 : Int32), .null, .null, .null]) dX8_rule_6 (by decide) rfl ?_
  refine z_iconst (pc := 7) (-1 : Int32) dX8_rule_7 (by decide) ?_
  refine z_istore_n (pc := 8) (L' := [.ref 0, .int x1, .int (0 : Int32), .int (-1 : Int32), .null, .null]) dX8_rule_8 (by decide) rfl ?_
  refine z_iconst (pc := 9) (0 : Int32) dX8_rule_9 (by decide) ?_
  refine z_istore (pc := 10) (L' := [.ref 0, .int x1, .int (0 : Int32), .int (-1 : Int32), .int (0 : Int32), .null]) dX8_rule_10 (by decide) rfl ?_
  refine t8_rule_L12 _ _ (fun x2_12 μ13 => ?_) zF _ _ _ _
  · refine z_iload_n (pc := 46) dX8_rule_46 rfl ?_
    exact z_iret (pc := 47) rfl dX8_rule_47
def f8_few (x1 : Int32) (x2 : Int32) (x3 : Int32) (μ : zMem) : zRes := bnd0 (fJ6_bitCount_0f7a4 x1 μ) (fun (v1 : Int32) (μ2 : zMem) => zlet (some (1, 0, μ2)) (fun j3 => if x1 < 0 then j3 else if (zshl (1 : Int32) (μ2 2 1)) ≤ x1 then j3 else if v1 < (2 : Int32) then j3 else if v1 ≤ (4 : Int32) then bnd (f8_needQuestion x2 μ2) (fun (v12 : Int32) (μ13 : zMem) => bnd (f8_needWhat x3 (1 : Int32) μ13) (fun (v14 : Int32) (μ15 : zMem) => bnd0 (f1_gather x1 x2 μ15) (fun (v16 : Int32) (μ17 : zMem) => zlet (fun (s18 : Int32) (μ19 : zMem) => some (0, s18, μ19)) (fun j20 => if x3 = 0 then bnd0 (f1_mostWorks μ17) (fun (v23 : Int32) (μ24 : zMem) => j20 v23 μ24) else j20 (μ17 69 10) μ17)))) else j3))
set_option maxHeartbeats 1000000 in
theorem t8_few (x1 : Int32) (x2 : Int32) (x3 : Int32) (μ : zMem) : zMR yX8_few cX8_few 5 (some .int) 7 [.ref 0, .int x1, .int x2, .int x3] (nX true) (SX true) μ (f8_few x1 x2 x3 μ) := by
  refine zMR_of (by decide +kernel) rfl (Nat.le_of_ble_eq_true rfl) (L := [.ref 0, .int x1, .int x2, .int x3, .null]) rfl ?_
  unfold f8_few
  refine z_iload_n (pc := 0) dX8_few_0 rfl ?_
  refine z_callS (As := [.int x1]) (pc := 1) (ret' := some .int) ksX8_162 (tJ6_bitCount_0f7a4 _ _) (by decide)  rfl rfl (Nat.le_of_ble_eq_true rfl) dX8_few_1 (fun v1 μ2 => ?_)
  refine z_istore (pc := 4) (L' := [.ref 0, .int x1, .int x2, .int x3, .int v1]) dX8_few_4 (by decide) rfl ?_
  refine z_iload_n (pc := 6) dX8_few_6 rfl ?_
  refine z_let (fun (j : zRes) => zR yX8_few cX8_few 5 (some .int) 7 35 [.null, .null, .null, .null, .null] [] (nX true) (SX true) μ2 (j)) ?_ (fun j3 hj3 => ?_)
  · exact z_throwW (pc := 35) (ex := 0) (i := 13) (names := zNm)  rfl rfl (by decide) (by decide) ztf_1 ztn ztX8_1.1 zti_1 ztX8_1.2.1 ztX8_1.2.2 (Nat.le_of_ble_eq_true rfl) dX8_few_35 dX8_few_38 dX8_few_39 dX8_few_42 dX8_few_45
  · refine z_if_lt (pc := 7) (tgt := 35) dX8_few_7 (by decide) (fun c4 => ?_) (fun c5 => ?_)
    · refine z_loc (L' := [.null, .null, .null, .null, .null]) ⟨Or.inl rfl, ⟨Or.inl rfl, ⟨Or.inl rfl, ⟨Or.inl rfl, ⟨Or.inl rfl, trivial⟩⟩⟩⟩⟩ ?_
      exact hj3
    · refine z_iload_n (pc := 10) dX8_few_10 rfl ?_
      refine z_iconst (pc := 11) (1 : Int32) dX8_few_11 (by decide) ?_
      refine z_aload_n (pc := 12) dX8_few_12 rfl ?_
      refine z_getr (pc := 13) fdX8_23 (nx_lt (by decide)) (sx_0 true) rfl rfl dX8_few_13 ?_
      refine z_geti (pc := 16) fdX8_116 (nx_lt (by decide)) (sx_2 true) rfl dX8_few_16 ?_
      refine z_ishl (pc := 19) dX8_few_19 ?_
      refine z_icmp_ge (pc := 20) (tgt := 35) dX8_few_20 (by decide) (fun c6 => ?_) (fun c7 => ?_)
      · refine z_loc (L' := [.null, .null, .null, .null, .null]) ⟨Or.inl rfl, ⟨Or.inl rfl, ⟨Or.inl rfl, ⟨Or.inl rfl, ⟨Or.inl rfl, trivial⟩⟩⟩⟩⟩ ?_
        exact hj3
      · refine z_iload (pc := 23) dX8_few_23 rfl ?_
        refine z_iconst (pc := 25) (2 : Int32) dX8_few_25 (by decide) ?_
        refine z_icmp_lt (pc := 26) (tgt := 35) dX8_few_26 (by decide) (fun c8 => ?_) (fun c9 => ?_)
        · refine z_loc (L' := [.null, .null, .null, .null, .null]) ⟨Or.inl rfl, ⟨Or.inl rfl, ⟨Or.inl rfl, ⟨Or.inl rfl, ⟨Or.inl rfl, trivial⟩⟩⟩⟩⟩ ?_
          exact hj3
        · refine z_iload (pc := 29) dX8_few_29 rfl ?_
          refine z_iconst (pc := 31) (4 : Int32) dX8_few_31 (by decide) ?_
          refine z_icmp_le (pc := 32) (tgt := 46) dX8_few_32 (by decide) (fun c10 => ?_) (fun c11 => ?_)
          · refine z_aload_n (pc := 46) dX8_few_46 rfl ?_
            refine z_iload_n (pc := 47) dX8_few_47 rfl ?_
            refine z_callX (As := [.int x2]) (pc := 48) (ret' := none) kvX8_143 klX8_143 (t8_needQuestion _ _) (by decide) (nx_lt (by decide)) (sx_0 true)  rfl rfl (Nat.le_of_ble_eq_true rfl) dX8_few_48 (fun v12 μ13 => ?_)
            refine z_aload_n (pc := 51) dX8_few_51 rfl ?_
            refine z_iload_n (pc := 52) dX8_few_52 rfl ?_
            refine z_iconst (pc := 53) (1 : Int32) dX8_few_53 (by decide) ?_
            refine z_callX (As := [.int x3, .int (1 : Int32)]) (pc := 54) (ret' := none) kvX8_216 klX8_216 (t8_needWhat _ _ _) (by decide) (nx_lt (by decide)) (sx_0 true)  rfl rfl (Nat.le_of_ble_eq_true rfl) dX8_few_54 (fun v14 μ15 => ?_)
            refine z_aload_n (pc := 57) dX8_few_57 rfl ?_
            refine z_getr (pc := 58) fdX8_88 (nx_lt (by decide)) (sx_0 true) rfl rfl dX8_few_58 ?_
            refine z_ifnonnull (pc := 61) (tgt := 79) dX8_few_61 (by decide) ?_
            refine z_aload_n (pc := 79) dX8_few_79 rfl ?_
            refine z_getr (pc := 80) fdX8_88 (nx_lt (by decide)) (sx_0 true) rfl rfl dX8_few_80 ?_
            refine z_aload_n (pc := 83) dX8_few_83 rfl ?_
            refine z_getr (pc := 84) fdX8_44 (nx_lt (by decide)) (sx_0 true) rfl rfl dX8_few_84 ?_
            refine z_iload_n (pc := 87) dX8_few_87 rfl ?_
            refine z_iload_n (pc := 88) dX8_few_88 rfl ?_
            refine z_callV (As := [.ref 23, .int x1, .int x2]) (pc := 89) (ret' := none) kvX8_305 (t1_gather _ _ _) (by decide) (by decide) (sx_69 true)  rfl rfl (Nat.le_of_ble_eq_true rfl) dX8_few_89 (fun v16 μ17 => ?_)
            refine z_iload_n (pc := 92) dX8_few_92 rfl ?_
            refine z_let (fun (j : Int32 → zMem → zRes) => ∀ (s18 : Int32) (μ19 : zMem), zR yX8_few cX8_few 5 (some .int) 7 113 [.null, .null, .null, .null, .null] [.int s18] (nX true) (SX true) μ19 (j s18 μ19)) ?_ (fun j20 hj20 => ?_)
            · intro s18 μ19
              exact z_iret (pc := 113) rfl dX8_few_113
            · refine z_if_ne (pc := 93) (tgt := 106) dX8_few_93 (by decide) (fun c21 => ?_) (fun c22 => ?_)
              · refine z_aload_n (pc := 106) dX8_few_106 rfl ?_
                refine z_getr (pc := 107) fdX8_88 (nx_lt (by decide)) (sx_0 true) rfl rfl dX8_few_107 ?_
                refine z_geti (pc := 110) fdX8_312 (by decide) (sx_69 true) rfl dX8_few_110 ?_
                refine z_loc (L' := [.null, .null, .null, .null, .null]) ⟨Or.inl rfl, ⟨Or.inl rfl, ⟨Or.inl rfl, ⟨Or.inl rfl, ⟨Or.inl rfl, trivial⟩⟩⟩⟩⟩ ?_
                exact hj20 (μ17 69 10) μ17
              · refine z_aload_n (pc := 96) dX8_few_96 rfl ?_
                refine z_getr (pc := 97) fdX8_88 (nx_lt (by decide)) (sx_0 true) rfl rfl dX8_few_97 ?_
                refine z_callV (As := []) (pc := 100) (ret' := some .int) kvX8_309 (t1_mostWorks _) (by decide) (by decide) (sx_69 true)  rfl rfl (Nat.le_of_ble_eq_true rfl) dX8_few_100 (fun v23 μ24 => ?_)
                refine z_goto (pc := 103) (tgt := 113) dX8_few_103 (by decide) ?_
                refine z_loc (L' := [.null, .null, .null, .null, .null]) ⟨Or.inl rfl, ⟨Or.inl rfl, ⟨Or.inl rfl, ⟨Or.inl rfl, ⟨Or.inl rfl, trivial⟩⟩⟩⟩⟩ ?_
                exact hj20 v23 μ24
          · refine z_loc (L' := [.null, .null, .null, .null, .null]) ⟨Or.inl rfl, ⟨Or.inl rfl, ⟨Or.inl rfl, ⟨Or.inl rfl, ⟨Or.inl rfl, trivial⟩⟩⟩⟩⟩ ?_
            exact hj3
def f8_pairs (x1 : Int32) (x2 : Int32) (μ : zMem) : zRes := bnd (f8_needQuestion x1 μ) (fun (v1 : Int32) (μ2 : zMem) => bnd (f8_needWhat x2 (1 : Int32) μ2) (fun (v3 : Int32) (μ4 : zMem) => bnd0 (f0_draw x1 (μ4 23 3) μ4) (fun (v5 : Int32) (μ6 : zMem) => zlet (fun (s7 : Int32) (μ8 : zMem) => some (0, s7, μ8)) (fun j9 => if x2 = 0 then bnd0 (f0_twos μ6) (fun (v14 : Int32) (μ15 : zMem) => j9 v14 μ15) else bnd0 (f0_threes μ6) (fun (v12 : Int32) (μ13 : zMem) => j9 v12 μ13)))))
set_option maxHeartbeats 1000000 in
theorem t8_pairs {g : Bool} (x1 : Int32) (x2 : Int32) (μ : zMem) : zMR yX8_pairs cX8_pairs 3 (some .int) 7 [.ref 0, .int x1, .int x2] (nX g) (SX g) μ (f8_pairs x1 x2 μ) := by
  refine zMR_of (by decide +kernel) rfl (Nat.le_of_ble_eq_true rfl) (L := [.ref 0, .int x1, .int x2]) rfl ?_
  unfold f8_pairs
  refine z_aload_n (pc := 0) dX8_pairs_0 rfl ?_
  refine z_iload_n (pc := 1) dX8_pairs_1 rfl ?_
  refine z_callX (As := [.int x1]) (pc := 2) (ret' := none) kvX8_143 klX8_143 (t8_needQuestion _ _) (by decide) (nx_lt (by decide)) (sx_0 g)  rfl rfl (Nat.le_of_ble_eq_true rfl) dX8_pairs_2 (fun v1 μ2 => ?_)
  refine z_aload_n (pc := 5) dX8_pairs_5 rfl ?_
  refine z_iload_n (pc := 6) dX8_pairs_6 rfl ?_
  refine z_iconst (pc := 7) (1 : Int32) dX8_pairs_7 (by decide) ?_
  refine z_callX (As := [.int x2, .int (1 : Int32)]) (pc := 8) (ret' := none) kvX8_216 klX8_216 (t8_needWhat _ _ _) (by decide) (nx_lt (by decide)) (sx_0 g)  rfl rfl (Nat.le_of_ble_eq_true rfl) dX8_pairs_8 (fun v3 μ4 => ?_)
  refine z_aload_n (pc := 11) dX8_pairs_11 rfl ?_
  refine z_getr (pc := 12) fdX8_68 (nx_lt (by decide)) (sx_0 g) rfl rfl dX8_pairs_12 ?_
  refine z_aload_n (pc := 15) dX8_pairs_15 rfl ?_
  refine z_getr (pc := 16) fdX8_44 (nx_lt (by decide)) (sx_0 g) rfl rfl dX8_pairs_16 ?_
  refine z_iload_n (pc := 19) dX8_pairs_19 rfl ?_
  refine z_aload_n (pc := 20) dX8_pairs_20 rfl ?_
  refine z_getr (pc := 21) fdX8_44 (nx_lt (by decide)) (sx_0 g) rfl rfl dX8_pairs_21 ?_
  refine z_geti (pc := 24) fdX8_315 (nx_lt (by decide)) (sx_23 g) rfl dX8_pairs_24 ?_
  refine z_callV (As := [.ref 23, .int x1, .int (μ4 23 3)]) (pc := 27) (ret' := none) kvX8_316 (t0_draw _ _ _) (by decide) (nx_lt (by decide)) (sx_54 g)  rfl rfl (Nat.le_of_ble_eq_true rfl) dX8_pairs_27 (fun v5 μ6 => ?_)
  refine z_iload_n (pc := 30) dX8_pairs_30 rfl ?_
  refine z_let (fun (j : Int32 → zMem → zRes) => ∀ (s7 : Int32) (μ8 : zMem), zR yX8_pairs cX8_pairs 3 (some .int) 7 51 [.null, .null, .null] [.int s7] (nX g) (SX g) μ8 (j s7 μ8)) ?_ (fun j9 hj9 => ?_)
  · intro s7 μ8
    exact z_iret (pc := 51) rfl dX8_pairs_51
  · refine z_if_ne (pc := 31) (tgt := 44) dX8_pairs_31 (by decide) (fun c10 => ?_) (fun c11 => ?_)
    · refine z_aload_n (pc := 44) dX8_pairs_44 rfl ?_
      refine z_getr (pc := 45) fdX8_68 (nx_lt (by decide)) (sx_0 g) rfl rfl dX8_pairs_45 ?_
      refine z_callV (As := []) (pc := 48) (ret' := some .int) kvX8_322 (t0_threes _) (by decide) (nx_lt (by decide)) (sx_54 g)  rfl rfl (Nat.le_of_ble_eq_true rfl) dX8_pairs_48 (fun v12 μ13 => ?_)
      refine z_loc (L' := [.null, .null, .null]) ⟨Or.inl rfl, ⟨Or.inl rfl, ⟨Or.inl rfl, trivial⟩⟩⟩ ?_
      exact hj9 v12 μ13
    · refine z_aload_n (pc := 34) dX8_pairs_34 rfl ?_
      refine z_getr (pc := 35) fdX8_68 (nx_lt (by decide)) (sx_0 g) rfl rfl dX8_pairs_35 ?_
      refine z_callV (As := []) (pc := 38) (ret' := some .int) kvX8_319 (t0_twos _) (by decide) (nx_lt (by decide)) (sx_54 g)  rfl rfl (Nat.le_of_ble_eq_true rfl) dX8_pairs_38 (fun v14 μ15 => ?_)
      refine z_goto (pc := 41) (tgt := 51) dX8_pairs_41 (by decide) ?_
      refine z_loc (L' := [.null, .null, .null]) ⟨Or.inl rfl, ⟨Or.inl rfl, ⟨Or.inl rfl, trivial⟩⟩⟩ ?_
      exact hj9 v14 μ15
def f8_edge_L14 (x1 : Int32) (x2 : Int32) (K64 : zMem → zRes) (K56 : Int32 → zMem → zRes) : Nat → Int32 → zMem → zRes
  | 0, _, _ => none
  | n + 1, x3, μ => if x3 < (1 : Int32) then K64 μ else bnd0 (f0_draw x1 x3 μ) (fun (v7 : Int32) (μ8 : zMem) => zlet (fun (s9 : Int32) (μ10 : zMem) => if s9 ≤ 0 then f8_edge_L14 x1 x2 K64 K56 n (x3 + (-1 : Int32)) μ10 else K56 x3 μ10) (fun j13 => if x2 = 0 then bnd0 (f0_twos μ8) (fun (v18 : Int32) (μ19 : zMem) => j13 v18 μ19) else bnd0 (f0_threes μ8) (fun (v16 : Int32) (μ17 : zMem) => j13 v16 μ17)))
def f8_edge (x1 : Int32) (x2 : Int32) (μ : zMem) : zRes := bnd (f8_needQuestion x1 μ) (fun (v1 : Int32) (μ2 : zMem) => bnd (f8_needWhat x2 (1 : Int32) μ2) (fun (v3 : Int32) (μ4 : zMem) => f8_edge_L14 x1 x2 (fun (μ20 : zMem) => some (0, (0 : Int32), μ20)) (fun (x3_21 : Int32) (μ22 : zMem) => some (0, x3_21, μ22)) zF (8 : Int32) μ4))
set_option maxHeartbeats 1000000 in
theorem t8_edge_L14 {g : Bool} (x1 : Int32) (x2 : Int32) (K64 : zMem → zRes) (K56 : Int32 → zMem → zRes) (hK64 : ∀ (μ : zMem), zR yX8_edge cX8_edge 4 (some .int) 7 64 [.null, .null, .null, .null] [] (nX g) (SX g) μ (K64 μ)) (hK56 : ∀ (x3 : Int32) (μ : zMem), zR yX8_edge cX8_edge 4 (some .int) 7 56 [.null, .null, .null, .int x3] [] (nX g) (SX g) μ (K56 x3 μ)) : ∀ (n : Nat) (x3 : Int32) (μ : zMem), zR yX8_edge cX8_edge 4 (some .int) 7 14 [.ref 0, .int x1, .int x2, .int x3] [] (nX g) (SX g) μ (f8_edge_L14 x1 x2 K64 K56 n x3 μ) := by
  intro n
  induction n with
  | zero => intro x3 μ; intro q hq; cases hq
  | succ n ih =>
    intro x3 μ
    unfold f8_edge_L14
    refine z_iload_n (pc := 14) dX8_edge_14 rfl ?_
    refine z_iconst (pc := 15) (1 : Int32) dX8_edge_15 (by decide) ?_
    refine z_icmp_lt (pc := 16) (tgt := 64) dX8_edge_16 (by decide) (fun c5 => ?_) (fun c6 => ?_)
    · refine z_loc (L' := [.null, .null, .null, .null]) ⟨Or.inl rfl, ⟨Or.inl rfl, ⟨Or.inl rfl, ⟨Or.inl rfl, trivial⟩⟩⟩⟩ ?_
      exact hK64 μ
    · refine z_aload_n (pc := 19) dX8_edge_19 rfl ?_
      refine z_getr (pc := 20) fdX8_68 (nx_lt (by decide)) (sx_0 g) rfl rfl dX8_edge_20 ?_
      refine z_aload_n (pc := 23) dX8_edge_23 rfl ?_
      refine z_getr (pc := 24) fdX8_44 (nx_lt (by decide)) (sx_0 g) rfl rfl dX8_edge_24 ?_
      refine z_iload_n (pc := 27) dX8_edge_27 rfl ?_
      refine z_iload_n (pc := 28) dX8_edge_28 rfl ?_
      refine z_callV (As := [.ref 23, .int x1, .int x3]) (pc := 29) (ret' := none) kvX8_316 (t0_draw _ _ _) (by decide) (nx_lt (by decide)) (sx_54 g)  rfl rfl (Nat.le_of_ble_eq_true rfl) dX8_edge_29 (fun v7 μ8 => ?_)
      refine z_iload_n (pc := 32) dX8_edge_32 rfl ?_
      refine z_let (fun (j : Int32 → zMem → zRes) => ∀ (s9 : Int32) (μ10 : zMem), zR yX8_edge cX8_edge 4 (some .int) 7 53 [.ref 0, .int x1, .int x2, .int x3] [.int s9] (nX g) (SX g) μ10 (j s9 μ10)) ?_ (fun j13 hj13 => ?_)
      · intro s9 μ10
        refine z_if_le (pc := 53) (tgt := 58) dX8_edge_53 (by decide) (fun c11 => ?_) (fun c12 => ?_)
        · refine z_iinc (pc := 58) (v := x3 + (-1 : Int32)) (L' := [.ref 0, .int x1, .int x2, .int (x3 + (-1 : Int32))]) dX8_edge_58 (by decide) rfl (congrArg _ (by decide)) rfl ?_
          refine z_goto (pc := 61) (tgt := 14) dX8_edge_61 (by decide) ?_
          exact ih (x3 + (-1 : Int32)) μ10
        · refine z_loc (L' := [.null, .null, .null, .int x3]) ⟨Or.inl rfl, ⟨Or.inl rfl, ⟨Or.inl rfl, ⟨Or.inr rfl, trivial⟩⟩⟩⟩ ?_
          exact hK56 x3 μ10
      · refine z_if_ne (pc := 33) (tgt := 46) dX8_edge_33 (by decide) (fun c14 => ?_) (fun c15 => ?_)
        · refine z_aload_n (pc := 46) dX8_edge_46 rfl ?_
          refine z_getr (pc := 47) fdX8_68 (nx_lt (by decide)) (sx_0 g) rfl rfl dX8_edge_47 ?_
          refine z_callV (As := []) (pc := 50) (ret' := some .int) kvX8_322 (t0_threes _) (by decide) (nx_lt (by decide)) (sx_54 g)  rfl rfl (Nat.le_of_ble_eq_true rfl) dX8_edge_50 (fun v16 μ17 => ?_)
          exact hj13 v16 μ17
        · refine z_aload_n (pc := 36) dX8_edge_36 rfl ?_
          refine z_getr (pc := 37) fdX8_68 (nx_lt (by decide)) (sx_0 g) rfl rfl dX8_edge_37 ?_
          refine z_callV (As := []) (pc := 40) (ret' := some .int) kvX8_319 (t0_twos _) (by decide) (nx_lt (by decide)) (sx_54 g)  rfl rfl (Nat.le_of_ble_eq_true rfl) dX8_edge_40 (fun v18 μ19 => ?_)
          refine z_goto (pc := 43) (tgt := 53) dX8_edge_43 (by decide) ?_
          exact hj13 v18 μ19
set_option maxHeartbeats 1000000 in
theorem t8_edge {g : Bool} (x1 : Int32) (x2 : Int32) (μ : zMem) : zMR yX8_edge cX8_edge 4 (some .int) 7 [.ref 0, .int x1, .int x2] (nX g) (SX g) μ (f8_edge x1 x2 μ) := by
  refine zMR_of (by decide +kernel) rfl (Nat.le_of_ble_eq_true rfl) (L := [.ref 0, .int x1, .int x2, .null]) rfl ?_
  unfold f8_edge
  refine z_aload_n (pc := 0) dX8_edge_0 rfl ?_
  refine z_iload_n (pc := 1) dX8_edge_1 rfl ?_
  refine z_callX (As := [.int x1]) (pc := 2) (ret' := none) kvX8_143 klX8_143 (t8_needQuestion _ _) (by decide) (nx_lt (by decide)) (sx_0 g)  rfl rfl (Nat.le_of_ble_eq_true rfl) dX8_edge_2 (fun v1 μ2 => ?_)
  refine z_aload_n (pc := 5) dX8_edge_5 rfl ?_
  refine z_iload_n (pc := 6) dX8_edge_6 rfl ?_
  refine z_iconst (pc := 7) (1 : Int32) dX8_edge_7 (by decide) ?_
  refine z_callX (As := [.int x2, .int (1 : Int32)]) (pc := 8) (ret' := none) kvX8_216 klX8_216 (t8_needWhat _ _ _) (by decide) (nx_lt (by decide)) (sx_0 g)  rfl rfl (Nat.le_of_ble_eq_true rfl) dX8_edge_8 (fun v3 μ4 => ?_)
  refine z_bipush (pc := 11) (8 : Int32) dX8_edge_11 (by decide) ?_
  refine z_istore_n (pc := 13) (L' := [.ref 0, .int x1, .int x2, .int (8 : Int32)]) dX8_edge_13 (by decide) rfl ?_
  refine t8_edge_L14 _ _ _ _ (fun μ20 => ?_) (fun x3_21 μ22 => ?_) zF _ _
  · refine z_iconst (pc := 64) (0 : Int32) dX8_edge_64 (by decide) ?_
    exact z_iret (pc := 65) rfl dX8_edge_65
  · refine z_iload_n (pc := 56) dX8_edge_56 rfl ?_
    exact z_iret (pc := 57) rfl dX8_edge_57
def f8_needStake (x1 : Int32) (μ : zMem) : zRes := zlet (some (1, 0, μ)) (fun j1 => if x1 < (1 : Int32) then j1 else if x1 ≤ (99 : Int32) then some (0, 0, μ) else j1)
set_option maxHeartbeats 1000000 in
theorem t8_needStake {g : Bool} (x1 : Int32) (μ : zMem) : zMR yX8_needStake cX8_needStake 2 (none) 6 [.ref 0, .int x1] (nX g) (SX g) μ (f8_needStake x1 μ) := by
  refine zMR_of (by decide +kernel) rfl (Nat.le_of_ble_eq_true rfl) (L := [.ref 0, .int x1]) rfl ?_
  unfold f8_needStake
  refine z_iload_n (pc := 0) dX8_needStake_0 rfl ?_
  refine z_iconst (pc := 1) (1 : Int32) dX8_needStake_1 (by decide) ?_
  refine z_let (fun (j : zRes) => zR yX8_needStake cX8_needStake 2 (none) 6 11 [.null, .null] [] (nX g) (SX g) μ (j)) ?_ (fun j1 hj1 => ?_)
  · exact z_throwW (pc := 11) (ex := 0) (i := 20) (names := zNm)  rfl rfl (by decide) (by decide) ztf_1 ztn ztX8_1.1 zti_1 ztX8_1.2.1 ztX8_1.2.2 (Nat.le_of_ble_eq_true rfl) dX8_needStake_11 dX8_needStake_14 dX8_needStake_15 dX8_needStake_18 dX8_needStake_21
  · refine z_icmp_lt (pc := 2) (tgt := 11) dX8_needStake_2 (by decide) (fun c2 => ?_) (fun c3 => ?_)
    · refine z_loc (L' := [.null, .null]) ⟨Or.inl rfl, ⟨Or.inl rfl, trivial⟩⟩ ?_
      exact hj1
    · refine z_iload_n (pc := 5) dX8_needStake_5 rfl ?_
      refine z_bipush (pc := 6) (99 : Int32) dX8_needStake_6 (by decide) ?_
      refine z_icmp_le (pc := 8) (tgt := 22) dX8_needStake_8 (by decide) (fun c4 => ?_) (fun c5 => ?_)
      · exact z_vret (pc := 22) rfl dX8_needStake_22
      · refine z_loc (L' := [.null, .null]) ⟨Or.inl rfl, ⟨Or.inl rfl, trivial⟩⟩ ?_
        exact hj1
def f8_rest (x1 : Int32) (x2 : Int32) (x3 : Int32) (x4 : Int32) (x5 : Int32) (x6 : Int32) (μ : zMem) : zRes := bnd (f8_needPerson x1 μ) (fun (v1 : Int32) (μ2 : zMem) => bnd (f8_needStake x2 μ2) (fun (v3 : Int32) (μ4 : zMem) => bnd (f8_needStake x3 μ4) (fun (v5 : Int32) (μ6 : zMem) => bnd (f8_needStake x4 μ6) (fun (v7 : Int32) (μ8 : zMem) => bnd (f8_needStake x5 μ8) (fun (v9 : Int32) (μ10 : zMem) => bnd (f8_needWhat x6 (1 : Int32) μ10) (fun (v11 : Int32) (μ12 : zMem) => zin x1 9 (zlet ((10 : Int32) - (μ12 6 x1.toNatClampNeg)) (fun (v14 : Int32) => zlet (fun (s15 : Int32) => zlet (fun (s16 : Int32) => zlet (v14 * s16) (fun (v17 : Int32) => zlet (fun (s18 : Int32) (μ19 : zMem) => some (0, s18, μ19)) (fun j20 => if 0 < v17 then znz v17 (j20 (zmin (1000 : Int32) (((10000 : Int32) * s15) / v17)) μ12) else j20 (1000 : Int32) μ12))) (fun j24 => if x6 = 0 then j24 (x2 + x3) else j24 x5)) (fun j27 => if x6 = 0 then j27 x2 else j27 x4)))))))))
set_option maxHeartbeats 1000000 in
theorem t8_rest {g : Bool} (x1 : Int32) (x2 : Int32) (x3 : Int32) (x4 : Int32) (x5 : Int32) (x6 : Int32) (μ : zMem) : zMR yX8_rest cX8_rest 10 (some .int) 7 [.ref 0, .int x1, .int x2, .int x3, .int x4, .int x5, .int x6] (nX g) (SX g) μ (f8_rest x1 x2 x3 x4 x5 x6 μ) := by
  refine zMR_of (by decide +kernel) rfl (Nat.le_of_ble_eq_true rfl) (L := [.ref 0, .int x1, .int x2, .int x3, .int x4, .int x5, .int x6, .null, .null, .null]) rfl ?_
  unfold f8_rest
  refine z_aload_n (pc := 0) dX8_rest_0 rfl ?_
  refine z_iload_n (pc := 1) dX8_rest_1 rfl ?_
  refine z_callX (As := [.int x1]) (pc := 2) (ret' := none) kvX8_140 klX8_140 (t8_needPerson _ _) (by decide) (nx_lt (by decide)) (sx_0 g)  rfl rfl (Nat.le_of_ble_eq_true rfl) dX8_rest_2 (fun v1 μ2 => ?_)
  refine z_aload_n (pc := 5) dX8_rest_5 rfl ?_
  refine z_iload_n (pc := 6) dX8_rest_6 rfl ?_
  refine z_callX (As := [.int x2]) (pc := 7) (ret' := none) kvX8_325 klX8_325 (t8_needStake _ _) (by decide) (nx_lt (by decide)) (sx_0 g)  rfl rfl (Nat.le_of_ble_eq_true rfl) dX8_rest_7 (fun v3 μ4 => ?_)
  refine z_aload_n (pc := 10) dX8_rest_10 rfl ?_
  refine z_iload_n (pc := 11) dX8_rest_11 rfl ?_
  refine z_callX (As := [.int x3]) (pc := 12) (ret' := none) kvX8_325 klX8_325 (t8_needStake _ _) (by decide) (nx_lt (by decide)) (sx_0 g)  rfl rfl (Nat.le_of_ble_eq_true rfl) dX8_rest_12 (fun v5 μ6 => ?_)
  refine z_aload_n (pc := 15) dX8_rest_15 rfl ?_
  refine z_iload (pc := 16) dX8_rest_16 rfl ?_
  refine z_callX (As := [.int x4]) (pc := 18) (ret' := none) kvX8_325 klX8_325 (t8_needStake _ _) (by decide) (nx_lt (by decide)) (sx_0 g)  rfl rfl (Nat.le_of_ble_eq_true rfl) dX8_rest_18 (fun v7 μ8 => ?_)
  refine z_aload_n (pc := 21) dX8_rest_21 rfl ?_
  refine z_iload (pc := 22) dX8_rest_22 rfl ?_
  refine z_callX (As := [.int x5]) (pc := 24) (ret' := none) kvX8_325 klX8_325 (t8_needStake _ _) (by decide) (nx_lt (by decide)) (sx_0 g)  rfl rfl (Nat.le_of_ble_eq_true rfl) dX8_rest_24 (fun v9 μ10 => ?_)
  refine z_aload_n (pc := 27) dX8_rest_27 rfl ?_
  refine z_iload (pc := 28) dX8_rest_28 rfl ?_
  refine z_iconst (pc := 30) (1 : Int32) dX8_rest_30 (by decide) ?_
  refine z_callX (As := [.int x6, .int (1 : Int32)]) (pc := 31) (ret' := none) kvX8_216 klX8_216 (t8_needWhat _ _ _) (by decide) (nx_lt (by decide)) (sx_0 g)  rfl rfl (Nat.le_of_ble_eq_true rfl) dX8_rest_31 (fun v11 μ12 => ?_)
  refine z_bipush (pc := 34) (10 : Int32) dX8_rest_34 (by decide) ?_
  refine z_aload_n (pc := 36) dX8_rest_36 rfl ?_
  refine z_getr (pc := 37) fdX8_23 (nx_lt (by decide)) (sx_0 g) rfl rfl dX8_rest_37 ?_
  refine z_getr (pc := 40) fdX8_156 (nx_lt (by decide)) (sx_2 g) rfl rfl dX8_rest_40 ?_
  refine z_iload_n (pc := 43) dX8_rest_43 rfl ?_
  refine z_iald (pc := 44) (nx_lt (by decide)) (sx_6 g) rfl dX8_rest_44 (fun h13 => ?_)
  refine z_isub (pc := 45) dX8_rest_45 ?_
  refine z_val (fun v14 => ?_)
  refine z_istore (pc := 46) (L' := [.ref 0, .int x1, .int x2, .int x3, .int x4, .int x5, .int x6, .int v14, .null, .null]) dX8_rest_46 (by decide) rfl ?_
  refine z_iload (pc := 48) dX8_rest_48 rfl ?_
  refine z_let (fun (j : Int32 → zRes) => ∀ (s15 : Int32), zR yX8_rest cX8_rest 10 (some .int) 7 59 [.null, .null, .int x2, .int x3, .null, .int x5, .int x6, .int v14, .null, .null] [.int s15] (nX g) (SX g) μ12 (j s15)) ?_ (fun j27 hj27 => ?_)
  · intro s15
    refine z_istore (pc := 59) (L' := [.null, .null, .int x2, .int x3, .null, .int x5, .int x6, .int v14, .int s15, .null]) dX8_rest_59 (by decide) rfl ?_
    refine z_iload (pc := 61) dX8_rest_61 rfl ?_
    refine z_iload (pc := 63) dX8_rest_63 rfl ?_
    refine z_let (fun (j : Int32 → zRes) => ∀ (s16 : Int32), zR yX8_rest cX8_rest 10 (some .int) 7 76 [.null, .null, .null, .null, .null, .null, .null, .null, .int s15, .null] [.int s16, .int v14] (nX g) (SX g) μ12 (j s16)) ?_ (fun j24 hj24 => ?_)
    · intro s16
      refine z_imul (pc := 76) dX8_rest_76 ?_
      refine z_val (fun v17 => ?_)
      refine z_istore (pc := 77) (L' := [.null, .null, .null, .null, .null, .null, .null, .null, .int s15, .int v17]) dX8_rest_77 (by decide) rfl ?_
      refine z_iload (pc := 79) dX8_rest_79 rfl ?_
      refine z_let (fun (j : Int32 → zMem → zRes) => ∀ (s18 : Int32) (μ19 : zMem), zR yX8_rest cX8_rest 10 (some .int) 7 105 [.null, .null, .null, .null, .null, .null, .null, .null, .null, .null] [.int s18] (nX g) (SX g) μ19 (j s18 μ19)) ?_ (fun j20 hj20 => ?_)
      · intro s18 μ19
        exact z_iret (pc := 105) rfl dX8_rest_105
      · refine z_if_gt (pc := 81) (tgt := 90) dX8_rest_81 (by decide) (fun c21 => ?_) (fun c22 => ?_)
        · refine z_sipush (pc := 90) (1000 : Int32) dX8_rest_90 (by decide) ?_
          refine z_sipush (pc := 93) (10000 : Int32) dX8_rest_93 (by decide) ?_
          refine z_iload (pc := 96) dX8_rest_96 rfl ?_
          refine z_imul (pc := 98) dX8_rest_98 ?_
          refine z_iload (pc := 99) dX8_rest_99 rfl ?_
          refine z_idiv (pc := 101) dX8_rest_101 (fun h23 => ?_)
          refine z_mmin (pc := 102) kmX8_328 (by decide) (Nat.le_of_ble_eq_true rfl) dX8_rest_102 ?_
          refine z_loc (L' := [.null, .null, .null, .null, .null, .null, .null, .null, .null, .null]) ⟨Or.inl rfl, ⟨Or.inl rfl, ⟨Or.inl rfl, ⟨Or.inl rfl, ⟨Or.inl rfl, ⟨Or.inl rfl, ⟨Or.inl rfl, ⟨Or.inl rfl, ⟨Or.inl rfl, ⟨Or.inl rfl, trivial⟩⟩⟩⟩⟩⟩⟩⟩⟩⟩ ?_
          exact hj20 (zmin (1000 : Int32) (((10000 : Int32) * s15) / v17)) μ12
        · refine z_sipush (pc := 84) (1000 : Int32) dX8_rest_84 (by decide) ?_
          refine z_goto (pc := 87) (tgt := 105) dX8_rest_87 (by decide) ?_
          refine z_loc (L' := [.null, .null, .null, .null, .null, .null, .null, .null, .null, .null]) ⟨Or.inl rfl, ⟨Or.inl rfl, ⟨Or.inl rfl, ⟨Or.inl rfl, ⟨Or.inl rfl, ⟨Or.inl rfl, ⟨Or.inl rfl, ⟨Or.inl rfl, ⟨Or.inl rfl, ⟨Or.inl rfl, trivial⟩⟩⟩⟩⟩⟩⟩⟩⟩⟩ ?_
          exact hj20 (1000 : Int32) μ12
    · refine z_if_ne (pc := 65) (tgt := 74) dX8_rest_65 (by decide) (fun c25 => ?_) (fun c26 => ?_)
      · refine z_iload (pc := 74) dX8_rest_74 rfl ?_
        refine z_loc (L' := [.null, .null, .null, .null, .null, .null, .null, .null, .int s15, .null]) ⟨Or.inl rfl, ⟨Or.inl rfl, ⟨Or.inl rfl, ⟨Or.inl rfl, ⟨Or.inl rfl, ⟨Or.inl rfl, ⟨Or.inl rfl, ⟨Or.inl rfl, ⟨Or.inr rfl, ⟨Or.inl rfl, trivial⟩⟩⟩⟩⟩⟩⟩⟩⟩⟩ ?_
        exact hj24 x5
      · refine z_iload_n (pc := 68) dX8_rest_68 rfl ?_
        refine z_iload_n (pc := 69) dX8_rest_69 rfl ?_
        refine z_iadd (pc := 70) dX8_rest_70 ?_
        refine z_goto (pc := 71) (tgt := 76) dX8_rest_71 (by decide) ?_
        refine z_loc (L' := [.null, .null, .null, .null, .null, .null, .null, .null, .int s15, .null]) ⟨Or.inl rfl, ⟨Or.inl rfl, ⟨Or.inl rfl, ⟨Or.inl rfl, ⟨Or.inl rfl, ⟨Or.inl rfl, ⟨Or.inl rfl, ⟨Or.inl rfl, ⟨Or.inr rfl, ⟨Or.inl rfl, trivial⟩⟩⟩⟩⟩⟩⟩⟩⟩⟩ ?_
        exact hj24 (x2 + x3)
  · refine z_if_ne (pc := 50) (tgt := 57) dX8_rest_50 (by decide) (fun c28 => ?_) (fun c29 => ?_)
    · refine z_iload (pc := 57) dX8_rest_57 rfl ?_
      refine z_loc (L' := [.null, .null, .int x2, .int x3, .null, .int x5, .int x6, .int v14, .null, .null]) ⟨Or.inl rfl, ⟨Or.inl rfl, ⟨Or.inr rfl, ⟨Or.inr rfl, ⟨Or.inl rfl, ⟨Or.inr rfl, ⟨Or.inr rfl, ⟨Or.inr rfl, ⟨Or.inl rfl, ⟨Or.inl rfl, trivial⟩⟩⟩⟩⟩⟩⟩⟩⟩⟩ ?_
      exact hj27 x4
    · refine z_iload_n (pc := 53) dX8_rest_53 rfl ?_
      refine z_goto (pc := 54) (tgt := 59) dX8_rest_54 (by decide) ?_
      refine z_loc (L' := [.null, .null, .int x2, .int x3, .null, .int x5, .int x6, .int v14, .null, .null]) ⟨Or.inl rfl, ⟨Or.inl rfl, ⟨Or.inr rfl, ⟨Or.inr rfl, ⟨Or.inl rfl, ⟨Or.inr rfl, ⟨Or.inr rfl, ⟨Or.inr rfl, ⟨Or.inl rfl, ⟨Or.inl rfl, trivial⟩⟩⟩⟩⟩⟩⟩⟩⟩⟩ ?_
      exact hj27 x2
def f8_once (x1 : Int32) (μ : zMem) : zRes := bnd (f8_needQuestion x1 μ) (fun (v1 : Int32) (μ2 : zMem) => bnd0 (f0_draw x1 (μ2 23 3) μ2) (fun (v3 : Int32) (μ4 : zMem) => bnd0 (f0_mostAtOneTime μ4) (fun (v5 : Int32) (μ6 : zMem) => some (0, v5, μ6))))
set_option maxHeartbeats 1000000 in
theorem t8_once {g : Bool} (x1 : Int32) (μ : zMem) : zMR yX8_once cX8_once 2 (some .int) 7 [.ref 0, .int x1] (nX g) (SX g) μ (f8_once x1 μ) := by
  refine zMR_of (by decide +kernel) rfl (Nat.le_of_ble_eq_true rfl) (L := [.ref 0, .int x1]) rfl ?_
  unfold f8_once
  refine z_aload_n (pc := 0) dX8_once_0 rfl ?_
  refine z_iload_n (pc := 1) dX8_once_1 rfl ?_
  refine z_callX (As := [.int x1]) (pc := 2) (ret' := none) kvX8_143 klX8_143 (t8_needQuestion _ _) (by decide) (nx_lt (by decide)) (sx_0 g)  rfl rfl (Nat.le_of_ble_eq_true rfl) dX8_once_2 (fun v1 μ2 => ?_)
  refine z_aload_n (pc := 5) dX8_once_5 rfl ?_
  refine z_getr (pc := 6) fdX8_68 (nx_lt (by decide)) (sx_0 g) rfl rfl dX8_once_6 ?_
  refine z_aload_n (pc := 9) dX8_once_9 rfl ?_
  refine z_getr (pc := 10) fdX8_44 (nx_lt (by decide)) (sx_0 g) rfl rfl dX8_once_10 ?_
  refine z_iload_n (pc := 13) dX8_once_13 rfl ?_
  refine z_aload_n (pc := 14) dX8_once_14 rfl ?_
  refine z_getr (pc := 15) fdX8_44 (nx_lt (by decide)) (sx_0 g) rfl rfl dX8_once_15 ?_
  refine z_geti (pc := 18) fdX8_315 (nx_lt (by decide)) (sx_23 g) rfl dX8_once_18 ?_
  refine z_callV (As := [.ref 23, .int x1, .int (μ2 23 3)]) (pc := 21) (ret' := none) kvX8_316 (t0_draw _ _ _) (by decide) (nx_lt (by decide)) (sx_54 g)  rfl rfl (Nat.le_of_ble_eq_true rfl) dX8_once_21 (fun v3 μ4 => ?_)
  refine z_aload_n (pc := 24) dX8_once_24 rfl ?_
  refine z_getr (pc := 25) fdX8_68 (nx_lt (by decide)) (sx_0 g) rfl rfl dX8_once_25 ?_
  refine z_callV (As := []) (pc := 28) (ret' := some .int) kvX8_333 (t0_mostAtOneTime _) (by decide) (nx_lt (by decide)) (sx_54 g)  rfl rfl (Nat.le_of_ble_eq_true rfl) dX8_once_28 (fun v5 μ6 => ?_)
  exact z_iret (pc := 31) rfl dX8_once_31
def f8_calm (x1 : Int32) (x2 : Int32) (μ : zMem) : zRes := bnd (f8_needQuestion x1 μ) (fun (v1 : Int32) (μ2 : zMem) => bnd (f8_needWhat x2 (1 : Int32) μ2) (fun (v3 : Int32) (μ4 : zMem) => bnd0 (f0_draw x1 (μ4 23 3) μ4) (fun (v5 : Int32) (μ6 : zMem) => bnd0 (f0_greatestCalm μ6) (fun (v7 : Int32) (μ8 : zMem) => zlet (fun (s9 : Int32) (μ10 : zMem) => some (0, s9, μ10)) (fun j11 => if x2 = 0 then bnd0 (fJ6_bitCount_0f7a4 v7 μ8) (fun (v14 : Int32) (μ15 : zMem) => j11 v14 μ15) else j11 v7 μ8)))))
set_option maxHeartbeats 1000000 in
theorem t8_calm {g : Bool} (x1 : Int32) (x2 : Int32) (μ : zMem) : zMR yX8_calm cX8_calm 4 (some .int) 7 [.ref 0, .int x1, .int x2] (nX g) (SX g) μ (f8_calm x1 x2 μ) := by
  refine zMR_of (by decide +kernel) rfl (Nat.le_of_ble_eq_true rfl) (L := [.ref 0, .int x1, .int x2, .null]) rfl ?_
  unfold f8_calm
  refine z_aload_n (pc := 0) dX8_calm_0 rfl ?_
  refine z_iload_n (pc := 1) dX8_calm_1 rfl ?_
  refine z_callX (As := [.int x1]) (pc := 2) (ret' := none) kvX8_143 klX8_143 (t8_needQuestion _ _) (by decide) (nx_lt (by decide)) (sx_0 g)  rfl rfl (Nat.le_of_ble_eq_true rfl) dX8_calm_2 (fun v1 μ2 => ?_)
  refine z_aload_n (pc := 5) dX8_calm_5 rfl ?_
  refine z_iload_n (pc := 6) dX8_calm_6 rfl ?_
  refine z_iconst (pc := 7) (1 : Int32) dX8_calm_7 (by decide) ?_
  refine z_callX (As := [.int x2, .int (1 : Int32)]) (pc := 8) (ret' := none) kvX8_216 klX8_216 (t8_needWhat _ _ _) (by decide) (nx_lt (by decide)) (sx_0 g)  rfl rfl (Nat.le_of_ble_eq_true rfl) dX8_calm_8 (fun v3 μ4 => ?_)
  refine z_aload_n (pc := 11) dX8_calm_11 rfl ?_
  refine z_getr (pc := 12) fdX8_68 (nx_lt (by decide)) (sx_0 g) rfl rfl dX8_calm_12 ?_
  refine z_aload_n (pc := 15) dX8_calm_15 rfl ?_
  refine z_getr (pc := 16) fdX8_44 (nx_lt (by decide)) (sx_0 g) rfl rfl dX8_calm_16 ?_
  refine z_iload_n (pc := 19) dX8_calm_19 rfl ?_
  refine z_aload_n (pc := 20) dX8_calm_20 rfl ?_
  refine z_getr (pc := 21) fdX8_44 (nx_lt (by decide)) (sx_0 g) rfl rfl dX8_calm_21 ?_
  refine z_geti (pc := 24) fdX8_315 (nx_lt (by decide)) (sx_23 g) rfl dX8_calm_24 ?_
  refine z_callV (As := [.ref 23, .int x1, .int (μ4 23 3)]) (pc := 27) (ret' := none) kvX8_316 (t0_draw _ _ _) (by decide) (nx_lt (by decide)) (sx_54 g)  rfl rfl (Nat.le_of_ble_eq_true rfl) dX8_calm_27 (fun v5 μ6 => ?_)
  refine z_aload_n (pc := 30) dX8_calm_30 rfl ?_
  refine z_getr (pc := 31) fdX8_68 (nx_lt (by decide)) (sx_0 g) rfl rfl dX8_calm_31 ?_
  refine z_callV (As := []) (pc := 34) (ret' := some .int) kvX8_336 (t0_greatestCalm _) (by decide) (nx_lt (by decide)) (sx_54 g)  rfl rfl (Nat.le_of_ble_eq_true rfl) dX8_calm_34 (fun v7 μ8 => ?_)
  refine z_istore_n (pc := 37) (L' := [.ref 0, .int x1, .int x2, .int v7]) dX8_calm_37 (by decide) rfl ?_
  refine z_iload_n (pc := 38) dX8_calm_38 rfl ?_
  refine z_let (fun (j : Int32 → zMem → zRes) => ∀ (s9 : Int32) (μ10 : zMem), zR yX8_calm cX8_calm 4 (some .int) 7 50 [.null, .null, .null, .null] [.int s9] (nX g) (SX g) μ10 (j s9 μ10)) ?_ (fun j11 hj11 => ?_)
  · intro s9 μ10
    exact z_iret (pc := 50) rfl dX8_calm_50
  · refine z_if_ne (pc := 39) (tgt := 49) dX8_calm_39 (by decide) (fun c12 => ?_) (fun c13 => ?_)
    · refine z_iload_n (pc := 49) dX8_calm_49 rfl ?_
      refine z_loc (L' := [.null, .null, .null, .null]) ⟨Or.inl rfl, ⟨Or.inl rfl, ⟨Or.inl rfl, ⟨Or.inl rfl, trivial⟩⟩⟩⟩ ?_
      exact hj11 v7 μ8
    · refine z_iload_n (pc := 42) dX8_calm_42 rfl ?_
      refine z_callS (As := [.int v7]) (pc := 43) (ret' := some .int) ksX8_162 (tJ6_bitCount_0f7a4 _ _) (by decide)  rfl rfl (Nat.le_of_ble_eq_true rfl) dX8_calm_43 (fun v14 μ15 => ?_)
      refine z_goto (pc := 46) (tgt := 50) dX8_calm_46 (by decide) ?_
      refine z_loc (L' := [.null, .null, .null, .null]) ⟨Or.inl rfl, ⟨Or.inl rfl, ⟨Or.inl rfl, ⟨Or.inl rfl, trivial⟩⟩⟩⟩ ?_
      exact hj11 v14 μ15
def f8_family (x1 : Int32) (μ : zMem) : zRes := zlet (fun (μ1 : zMem) => zlet (fun (s2 : Int32) (μ3 : zMem) => some (0, s2, μ3)) (fun j4 => if x1 = (-1 : Int32) then bnd0 (f7_families μ1) (fun (v11 : Int32) (μ12 : zMem) => j4 v11 μ12) else bnd0 (f7_familyOf x1 μ1) (fun (v7 : Int32) (μ8 : zMem) => bnd0 (fJ6_bitCount_0f7a4 v7 μ8) (fun (v9 : Int32) (μ10 : zMem) => j4 v9 μ10)))) (fun j13 => if x1 = (-1 : Int32) then j13 μ else bnd0 (f8_isPerson x1 μ) (fun (v16 : Int32) (μ17 : zMem) => if v16 = 0 then some (1, 0, μ17) else j13 μ17))
set_option maxHeartbeats 1000000 in
theorem t8_family {g : Bool} (x1 : Int32) (μ : zMem) : zMR yX8_family cX8_family 2 (some .int) 6 [.ref 0, .int x1] (nX g) (SX g) μ (f8_family x1 μ) := by
  refine zMR_of (by decide +kernel) rfl (Nat.le_of_ble_eq_true rfl) (L := [.ref 0, .int x1]) rfl ?_
  unfold f8_family
  refine z_iload_n (pc := 0) dX8_family_0 rfl ?_
  refine z_iconst (pc := 1) (-1 : Int32) dX8_family_1 (by decide) ?_
  refine z_let (fun (j : zMem → zRes) => ∀ (μ1 : zMem), zR yX8_family cX8_family 2 (some .int) 6 24 [.ref 0, .int x1] [] (nX g) (SX g) μ1 (j μ1)) ?_ (fun j13 hj13 => ?_)
  · intro μ1
    refine z_iload_n (pc := 24) dX8_family_24 rfl ?_
    refine z_iconst (pc := 25) (-1 : Int32) dX8_family_25 (by decide) ?_
    refine z_let (fun (j : Int32 → zMem → zRes) => ∀ (s2 : Int32) (μ3 : zMem), zR yX8_family cX8_family 2 (some .int) 6 50 [.null, .null] [.int s2] (nX g) (SX g) μ3 (j s2 μ3)) ?_ (fun j4 hj4 => ?_)
    · intro s2 μ3
      exact z_iret (pc := 50) rfl dX8_family_50
    · refine z_icmp_ne (pc := 26) (tgt := 39) dX8_family_26 (by decide) (fun c5 => ?_) (fun c6 => ?_)
      · refine z_aload_n (pc := 39) dX8_family_39 rfl ?_
        refine z_getr (pc := 40) fdX8_23 (nx_lt (by decide)) (sx_0 g) rfl rfl dX8_family_40 ?_
        refine z_iload_n (pc := 43) dX8_family_43 rfl ?_
        refine z_callV (As := [.int x1]) (pc := 44) (ret' := some .int) kvX8_347 (t7_familyOf _ _) (by decide) (nx_lt (by decide)) (sx_2 g)  rfl rfl (Nat.le_of_ble_eq_true rfl) dX8_family_44 (fun v7 μ8 => ?_)
        refine z_callS (As := [.int v7]) (pc := 47) (ret' := some .int) ksX8_162 (tJ6_bitCount_0f7a4 _ _) (by decide)  rfl rfl (Nat.le_of_ble_eq_true rfl) dX8_family_47 (fun v9 μ10 => ?_)
        refine z_loc (L' := [.null, .null]) ⟨Or.inl rfl, ⟨Or.inl rfl, trivial⟩⟩ ?_
        exact hj4 v9 μ10
      · refine z_aload_n (pc := 29) dX8_family_29 rfl ?_
        refine z_getr (pc := 30) fdX8_23 (nx_lt (by decide)) (sx_0 g) rfl rfl dX8_family_30 ?_
        refine z_callV (As := []) (pc := 33) (ret' := some .int) kvX8_344 (t7_families _) (by decide) (nx_lt (by decide)) (sx_2 g)  rfl rfl (Nat.le_of_ble_eq_true rfl) dX8_family_33 (fun v11 μ12 => ?_)
        refine z_goto (pc := 36) (tgt := 50) dX8_family_36 (by decide) ?_
        refine z_loc (L' := [.null, .null]) ⟨Or.inl rfl, ⟨Or.inl rfl, trivial⟩⟩ ?_
        exact hj4 v11 μ12
  · refine z_icmp_eq (pc := 2) (tgt := 24) dX8_family_2 (by decide) (fun c14 => ?_) (fun c15 => ?_)
    · exact hj13 μ
    · refine z_aload_n (pc := 5) dX8_family_5 rfl ?_
      refine z_iload_n (pc := 6) dX8_family_6 rfl ?_
      refine z_callV (As := [.int x1]) (pc := 7) (ret' := some .boolean) kvX8_339 (t8_isPerson _ _) (by decide) (nx_lt (by decide)) (sx_0 g)  rfl rfl (Nat.le_of_ble_eq_true rfl) dX8_family_7 (fun v16 μ17 => ?_)
      refine z_if_ne (pc := 10) (tgt := 24) dX8_family_10 (by decide) (fun c18 => ?_) (fun c19 => ?_)
      · exact hj13 μ17
      · exact z_throwW (pc := 13) (ex := 0) (i := 14) (names := zNm)  rfl rfl (by decide) (by decide) ztf_1 ztn ztX8_1.1 zti_1 ztX8_1.2.1 ztX8_1.2.2 (Nat.le_of_ble_eq_true rfl) dX8_family_13 dX8_family_16 dX8_family_17 dX8_family_20 dX8_family_23
def f8_starved (x1 : Int32) (μ : zMem) : zRes := bnd (f8_needRule x1 μ) (fun (v1 : Int32) (μ2 : zMem) => bnd0 (f5_copyWorld 28 23 μ2) (fun (v3 : Int32) (μ4 : zMem) => bnd0 (f4_goOn x1 ((30 : Int32) - (μ4 23 1)) (0 : Int32) (0 : Int32) μ4) (fun (v5 : Int32) (μ6 : zMem) => some (0, μ6 57 5, μ6))))
set_option maxHeartbeats 1000000 in
theorem t8_starved {g : Bool} (x1 : Int32) (μ : zMem) : zMR yX8_starved cX8_starved 2 (some .int) 7 [.ref 0, .int x1] (nX g) (SX g) μ (f8_starved x1 μ) := by
  refine zMR_of (by decide +kernel) rfl (Nat.le_of_ble_eq_true rfl) (L := [.ref 0, .int x1]) rfl ?_
  unfold f8_starved
  refine z_aload_n (pc := 0) dX8_starved_0 rfl ?_
  refine z_iload_n (pc := 1) dX8_starved_1 rfl ?_
  refine z_callX (As := [.int x1]) (pc := 2) (ret' := none) kvX8_286 klX8_286 (t8_needRule _ _) (by decide) (nx_lt (by decide)) (sx_0 g)  rfl rfl (Nat.le_of_ble_eq_true rfl) dX8_starved_2 (fun v1 μ2 => ?_)
  refine z_aload_n (pc := 5) dX8_starved_5 rfl ?_
  refine z_getr (pc := 6) fdX8_48 (nx_lt (by decide)) (sx_0 g) rfl rfl dX8_starved_6 ?_
  refine z_aload_n (pc := 9) dX8_starved_9 rfl ?_
  refine z_getr (pc := 10) fdX8_44 (nx_lt (by decide)) (sx_0 g) rfl rfl dX8_starved_10 ?_
  refine z_callV (As := [.ref 23]) (pc := 13) (ret' := none) kvX8_232 (t5_copyWorld zSc_28 zSc_23 _) (by decide) (nx_lt (by decide)) (sx_28 g)  rfl rfl (Nat.le_of_ble_eq_true rfl) dX8_starved_13 (fun v3 μ4 => ?_)
  refine z_aload_n (pc := 16) dX8_starved_16 rfl ?_
  refine z_getr (pc := 17) fdX8_77 (nx_lt (by decide)) (sx_0 g) rfl rfl dX8_starved_17 ?_
  refine z_iload_n (pc := 20) dX8_starved_20 rfl ?_
  refine z_bipush (pc := 21) (30 : Int32) dX8_starved_21 (by decide) ?_
  refine z_aload_n (pc := 23) dX8_starved_23 rfl ?_
  refine z_getr (pc := 24) fdX8_44 (nx_lt (by decide)) (sx_0 g) rfl rfl dX8_starved_24 ?_
  refine z_geti (pc := 27) fdX8_204 (nx_lt (by decide)) (sx_23 g) rfl dX8_starved_27 ?_
  refine z_isub (pc := 30) dX8_starved_30 ?_
  refine z_iconst (pc := 31) (0 : Int32) dX8_starved_31 (by decide) ?_
  refine z_iconst (pc := 32) (0 : Int32) dX8_starved_32 (by decide) ?_
  refine z_callV (As := [.int x1, .int ((30 : Int32) - (μ4 23 1)), .int (0 : Int32), .int (0 : Int32)]) (pc := 33) (ret' := none) kvX8_292 (t4_goOn _ _ _ _ _) (by decide) (nx_lt (by decide)) (sx_57 g)  rfl rfl (Nat.le_of_ble_eq_true rfl) dX8_starved_33 (fun v5 μ6 => ?_)
  refine z_aload_n (pc := 36) dX8_starved_36 rfl ?_
  refine z_getr (pc := 37) fdX8_77 (nx_lt (by decide)) (sx_0 g) rfl rfl dX8_starved_37 ?_
  refine z_geti (pc := 40) fdX8_350 (nx_lt (by decide)) (sx_57 g) rfl dX8_starved_40 ?_
  exact z_iret (pc := 43) rfl dX8_starved_43
def f8_slack_L27 (x2 : Int32) (K76 : zMem → zRes) (K68 : Int32 → zMem → zRes) : Nat → Int32 → zMem → zRes
  | 0, _, _ => none
  | n + 1, x3, μ => if x3 ≤ (μ 2 3) then K76 μ else zlet (zset μ 28 3 x3) (fun (μ11 : zMem) => bnd0 (f2_make μ11) (fun (v12 : Int32) (μ13 : zMem) => bnd0 (f2_worthAtMost μ13) (fun (v14 : Int32) (μ15 : zMem) => if v14 = x2 then K68 x3 μ15 else f8_slack_L27 x2 K76 K68 n (x3 + (-1 : Int32)) μ15)))
def f8_slack (x1 : Int32) (μ : zMem) : zRes := bnd (f8_needQuestionOrNone x1 μ) (fun (v1 : Int32) (μ2 : zMem) => bnd0 (f8_planToday x1 μ2) (fun (v3 : Int32) (μ4 : zMem) => bnd0 (f2_worthAtMost μ4) (fun (v5 : Int32) (μ6 : zMem) => if v5 = 0 then some (0, (0 : Int32), μ6) else f8_slack_L27 v5 (fun (μ18 : zMem) => some (0, μ18 2 3, μ18)) (fun (x3_19 : Int32) (μ20 : zMem) => some (0, x3_19, μ20)) zF (8 : Int32) μ6)))
set_option maxHeartbeats 1000000 in
theorem t8_slack_L27 {g : Bool} (x2 : Int32) (K76 : zMem → zRes) (K68 : Int32 → zMem → zRes) (hK76 : ∀ (μ : zMem), zR yX8_slack cX8_slack 4 (some .int) 8 76 [.ref 0, .null, .null, .null] [] (nX g) (SX g) μ (K76 μ)) (hK68 : ∀ (x3 : Int32) (μ : zMem), zR yX8_slack cX8_slack 4 (some .int) 8 68 [.null, .null, .null, .int x3] [] (nX g) (SX g) μ (K68 x3 μ)) : ∀ (n : Nat) (x3 : Int32) (μ : zMem), zR yX8_slack cX8_slack 4 (some .int) 8 27 [.ref 0, .null, .int x2, .int x3] [] (nX g) (SX g) μ (f8_slack_L27 x2 K76 K68 n x3 μ) := by
  intro n
  induction n with
  | zero => intro x3 μ; intro q hq; cases hq
  | succ n ih =>
    intro x3 μ
    unfold f8_slack_L27
    refine z_iload_n (pc := 27) dX8_slack_27 rfl ?_
    refine z_aload_n (pc := 28) dX8_slack_28 rfl ?_
    refine z_getr (pc := 29) fdX8_23 (nx_lt (by decide)) (sx_0 g) rfl rfl dX8_slack_29 ?_
    refine z_geti (pc := 32) fdX8_125 (nx_lt (by decide)) (sx_2 g) rfl dX8_slack_32 ?_
    refine z_icmp_le (pc := 35) (tgt := 76) dX8_slack_35 (by decide) (fun c9 => ?_) (fun c10 => ?_)
    · refine z_loc (L' := [.ref 0, .null, .null, .null]) ⟨Or.inr rfl, ⟨Or.inl rfl, ⟨Or.inl rfl, ⟨Or.inl rfl, trivial⟩⟩⟩⟩ ?_
      exact hK76 μ
    · refine z_aload_n (pc := 38) dX8_slack_38 rfl ?_
      refine z_getr (pc := 39) fdX8_48 (nx_lt (by decide)) (sx_0 g) rfl rfl dX8_slack_39 ?_
      refine z_iload_n (pc := 42) dX8_slack_42 rfl ?_
      refine z_puti (pc := 43) fdX8_315 (nx_lt (by decide)) (sx_28 g) rfl rfl dX8_slack_43 ?_
      refine z_mem (fun μ11 => ?_)
      refine z_aload_n (pc := 46) dX8_slack_46 rfl ?_
      refine z_getr (pc := 47) fdX8_61 (nx_lt (by decide)) (sx_0 g) rfl rfl dX8_slack_47 ?_
      refine z_aload_n (pc := 50) dX8_slack_50 rfl ?_
      refine z_getr (pc := 51) fdX8_48 (nx_lt (by decide)) (sx_0 g) rfl rfl dX8_slack_51 ?_
      refine z_callV (As := [.ref 28]) (pc := 54) (ret' := none) kvX8_271 (t2_make _) (by decide) (nx_lt (by decide)) (sx_49 g)  rfl rfl (Nat.le_of_ble_eq_true rfl) dX8_slack_54 (fun v12 μ13 => ?_)
      refine z_aload_n (pc := 57) dX8_slack_57 rfl ?_
      refine z_getr (pc := 58) fdX8_61 (nx_lt (by decide)) (sx_0 g) rfl rfl dX8_slack_58 ?_
      refine z_callV (As := []) (pc := 61) (ret' := some .int) kvX8_248 (t2_worthAtMost _) (by decide) (nx_lt (by decide)) (sx_49 g)  rfl rfl (Nat.le_of_ble_eq_true rfl) dX8_slack_61 (fun v14 μ15 => ?_)
      refine z_iload_n (pc := 64) dX8_slack_64 rfl ?_
      refine z_icmp_ne (pc := 65) (tgt := 70) dX8_slack_65 (by decide) (fun c16 => ?_) (fun c17 => ?_)
      · refine z_iinc (pc := 70) (v := x3 + (-1 : Int32)) (L' := [.ref 0, .null, .int x2, .int (x3 + (-1 : Int32))]) dX8_slack_70 (by decide) rfl (congrArg _ (by decide)) rfl ?_
        refine z_goto (pc := 73) (tgt := 27) dX8_slack_73 (by decide) ?_
        exact ih (x3 + (-1 : Int32)) μ15
      · refine z_loc (L' := [.null, .null, .null, .int x3]) ⟨Or.inl rfl, ⟨Or.inl rfl, ⟨Or.inl rfl, ⟨Or.inr rfl, trivial⟩⟩⟩⟩ ?_
        exact hK68 x3 μ15
set_option maxHeartbeats 1000000 in
theorem t8_slack {g : Bool} (x1 : Int32) (μ : zMem) : zMR yX8_slack cX8_slack 4 (some .int) 8 [.ref 0, .int x1] (nX g) (SX g) μ (f8_slack x1 μ) := by
  refine zMR_of (by decide +kernel) rfl (Nat.le_of_ble_eq_true rfl) (L := [.ref 0, .int x1, .null, .null]) rfl ?_
  unfold f8_slack
  refine z_aload_n (pc := 0) dX8_slack_0 rfl ?_
  refine z_iload_n (pc := 1) dX8_slack_1 rfl ?_
  refine z_callX (As := [.int x1]) (pc := 2) (ret' := none) kvX8_242 klX8_242 (t8_needQuestionOrNone _ _) (by decide) (nx_lt (by decide)) (sx_0 g)  rfl rfl (Nat.le_of_ble_eq_true rfl) dX8_slack_2 (fun v1 μ2 => ?_)
  refine z_aload_n (pc := 5) dX8_slack_5 rfl ?_
  refine z_iload_n (pc := 6) dX8_slack_6 rfl ?_
  refine z_callV (As := [.int x1]) (pc := 7) (ret' := none) kvX8_245 (t8_planToday _ _) (by decide) (nx_lt (by decide)) (sx_0 g)  rfl rfl (Nat.le_of_ble_eq_true rfl) dX8_slack_7 (fun v3 μ4 => ?_)
  refine z_aload_n (pc := 10) dX8_slack_10 rfl ?_
  refine z_getr (pc := 11) fdX8_61 (nx_lt (by decide)) (sx_0 g) rfl rfl dX8_slack_11 ?_
  refine z_callV (As := []) (pc := 14) (ret' := some .int) kvX8_248 (t2_worthAtMost _) (by decide) (nx_lt (by decide)) (sx_49 g)  rfl rfl (Nat.le_of_ble_eq_true rfl) dX8_slack_14 (fun v5 μ6 => ?_)
  refine z_istore_n (pc := 17) (L' := [.ref 0, .int x1, .int v5, .null]) dX8_slack_17 (by decide) rfl ?_
  refine z_iload_n (pc := 18) dX8_slack_18 rfl ?_
  refine z_if_ne (pc := 19) (tgt := 24) dX8_slack_19 (by decide) (fun c7 => ?_) (fun c8 => ?_)
  · refine z_bipush (pc := 24) (8 : Int32) dX8_slack_24 (by decide) ?_
    refine z_istore_n (pc := 26) (L' := [.ref 0, .int x1, .int v5, .int (8 : Int32)]) dX8_slack_26 (by decide) rfl ?_
    refine z_loc (L' := [.ref 0, .null, .int v5, .int (8 : Int32)]) ⟨Or.inr rfl, ⟨Or.inl rfl, ⟨Or.inr rfl, ⟨Or.inr rfl, trivial⟩⟩⟩⟩ ?_
    refine t8_slack_L27 _ _ _ (fun μ18 => ?_) (fun x3_19 μ20 => ?_) zF _ _
    · refine z_aload_n (pc := 76) dX8_slack_76 rfl ?_
      refine z_getr (pc := 77) fdX8_23 (nx_lt (by decide)) (sx_0 g) rfl rfl dX8_slack_77 ?_
      refine z_geti (pc := 80) fdX8_125 (nx_lt (by decide)) (sx_2 g) rfl dX8_slack_80 ?_
      exact z_iret (pc := 83) rfl dX8_slack_83
    · refine z_iload_n (pc := 68) dX8_slack_68 rfl ?_
      exact z_iret (pc := 69) rfl dX8_slack_69
  · refine z_iconst (pc := 22) (0 : Int32) dX8_slack_22 (by decide) ?_
    exact z_iret (pc := 23) rfl dX8_slack_23
def f8_firm (x1 : Int32) (x2 : Int32) (x3 : Int32) (μ : zMem) : zRes := bnd (f8_needPerson x1 μ) (fun (v1 : Int32) (μ2 : zMem) => bnd (f8_needRule x2 μ2) (fun (v3 : Int32) (μ4 : zMem) => bnd (f8_needDays x3 μ4) (fun (v5 : Int32) (μ6 : zMem) => bnd0 (f8_worthOfRun x2 x3 x1 μ6) (fun (v7 : Int32) (μ8 : zMem) => bnd0 (f8_worthOfRun x2 x3 (-1 : Int32) μ8) (fun (v9 : Int32) (μ10 : zMem) => some (0, v7 - v9, μ10))))))
set_option maxHeartbeats 1000000 in
theorem t8_firm {g : Bool} (x1 : Int32) (x2 : Int32) (x3 : Int32) (μ : zMem) : zMR yX8_firm cX8_firm 4 (some .int) 7 [.ref 0, .int x1, .int x2, .int x3] (nX g) (SX g) μ (f8_firm x1 x2 x3 μ) := by
  refine zMR_of (by decide +kernel) rfl (Nat.le_of_ble_eq_true rfl) (L := [.ref 0, .int x1, .int x2, .int x3]) rfl ?_
  unfold f8_firm
  refine z_aload_n (pc := 0) dX8_firm_0 rfl ?_
  refine z_iload_n (pc := 1) dX8_firm_1 rfl ?_
  refine z_callX (As := [.int x1]) (pc := 2) (ret' := none) kvX8_140 klX8_140 (t8_needPerson _ _) (by decide) (nx_lt (by decide)) (sx_0 g)  rfl rfl (Nat.le_of_ble_eq_true rfl) dX8_firm_2 (fun v1 μ2 => ?_)
  refine z_aload_n (pc := 5) dX8_firm_5 rfl ?_
  refine z_iload_n (pc := 6) dX8_firm_6 rfl ?_
  refine z_callX (As := [.int x2]) (pc := 7) (ret' := none) kvX8_286 klX8_286 (t8_needRule _ _) (by decide) (nx_lt (by decide)) (sx_0 g)  rfl rfl (Nat.le_of_ble_eq_true rfl) dX8_firm_7 (fun v3 μ4 => ?_)
  refine z_aload_n (pc := 10) dX8_firm_10 rfl ?_
  refine z_iload_n (pc := 11) dX8_firm_11 rfl ?_
  refine z_callX (As := [.int x3]) (pc := 12) (ret' := none) kvX8_289 klX8_289 (t8_needDays _ _) (by decide) (nx_lt (by decide)) (sx_0 g)  rfl rfl (Nat.le_of_ble_eq_true rfl) dX8_firm_12 (fun v5 μ6 => ?_)
  refine z_aload_n (pc := 15) dX8_firm_15 rfl ?_
  refine z_iload_n (pc := 16) dX8_firm_16 rfl ?_
  refine z_iload_n (pc := 17) dX8_firm_17 rfl ?_
  refine z_iload_n (pc := 18) dX8_firm_18 rfl ?_
  refine z_callV (As := [.int x2, .int x3, .int x1]) (pc := 19) (ret' := some .int) kvX8_297 (t8_worthOfRun _ _ _ _) (by decide) (nx_lt (by decide)) (sx_0 g)  rfl rfl (Nat.le_of_ble_eq_true rfl) dX8_firm_19 (fun v7 μ8 => ?_)
  refine z_aload_n (pc := 22) dX8_firm_22 rfl ?_
  refine z_iload_n (pc := 23) dX8_firm_23 rfl ?_
  refine z_iload_n (pc := 24) dX8_firm_24 rfl ?_
  refine z_iconst (pc := 25) (-1 : Int32) dX8_firm_25 (by decide) ?_
  refine z_callV (As := [.int x2, .int x3, .int (-1 : Int32)]) (pc := 26) (ret' := some .int) kvX8_297 (t8_worthOfRun _ _ _ _) (by decide) (nx_lt (by decide)) (sx_0 g)  rfl rfl (Nat.le_of_ble_eq_true rfl) dX8_firm_26 (fun v9 μ10 => ?_)
  refine z_isub (pc := 29) dX8_firm_29 ?_
  exact z_iret (pc := 30) rfl dX8_firm_30
def f8_twoDays (x1 : Int32) (μ : zMem) : zRes := bnd (f8_needWhat x1 (2 : Int32) μ) (fun (v1 : Int32) (μ2 : zMem) => bnd0 (f6_seekTwoDays μ2) (fun (v3 : Int32) (μ4 : zMem) => bnd0 (f6_answer x1 μ4) (fun (v5 : Int32) (μ6 : zMem) => some (0, v5, μ6))))
set_option maxHeartbeats 1000000 in
theorem t8_twoDays {g : Bool} (x1 : Int32) (μ : zMem) : zMR yX8_twoDays cX8_twoDays 2 (some .int) 7 [.ref 0, .int x1] (nX g) (SX g) μ (f8_twoDays x1 μ) := by
  refine zMR_of (by decide +kernel) rfl (Nat.le_of_ble_eq_true rfl) (L := [.ref 0, .int x1]) rfl ?_
  unfold f8_twoDays
  refine z_aload_n (pc := 0) dX8_twoDays_0 rfl ?_
  refine z_iload_n (pc := 1) dX8_twoDays_1 rfl ?_
  refine z_iconst (pc := 2) (2 : Int32) dX8_twoDays_2 (by decide) ?_
  refine z_callX (As := [.int x1, .int (2 : Int32)]) (pc := 3) (ret' := none) kvX8_216 klX8_216 (t8_needWhat _ _ _) (by decide) (nx_lt (by decide)) (sx_0 g)  rfl rfl (Nat.le_of_ble_eq_true rfl) dX8_twoDays_3 (fun v1 μ2 => ?_)
  refine z_aload_n (pc := 6) dX8_twoDays_6 rfl ?_
  refine z_getr (pc := 7) fdX8_84 (nx_lt (by decide)) (sx_0 g) rfl rfl dX8_twoDays_7 ?_
  refine z_aload_n (pc := 10) dX8_twoDays_10 rfl ?_
  refine z_getr (pc := 11) fdX8_44 (nx_lt (by decide)) (sx_0 g) rfl rfl dX8_twoDays_11 ?_
  refine z_callV (As := [.ref 23]) (pc := 14) (ret' := none) kvX8_353 (t6_seekTwoDays _) (by decide) (nx_lt (by decide)) (sx_58 g)  rfl rfl (Nat.le_of_ble_eq_true rfl) dX8_twoDays_14 (fun v3 μ4 => ?_)
  refine z_aload_n (pc := 17) dX8_twoDays_17 rfl ?_
  refine z_getr (pc := 18) fdX8_84 (nx_lt (by decide)) (sx_0 g) rfl rfl dX8_twoDays_18 ?_
  refine z_iload_n (pc := 21) dX8_twoDays_21 rfl ?_
  refine z_callV (As := [.int x1]) (pc := 22) (ret' := some .int) kvX8_283 (t6_answer _ _) (by decide) (nx_lt (by decide)) (sx_58 g)  rfl rfl (Nat.le_of_ble_eq_true rfl) dX8_twoDays_22 (fun v5 μ6 => ?_)
  exact z_iret (pc := 25) rfl dX8_twoDays_25
