theorem dL_town_0 : decode cL_town 0 = .ok (.aload_n 2, 1) := by decide +kernel
theorem dL_town_1 : decode cL_town 1 = .ok (.iconst 0, 1) := by decide +kernel
theorem dL_town_2 : decode cL_town 2 = .ok (.aload_n 0, 1) := by decide +kernel
theorem dL_town_3 : decode cL_town 3 = .ok (.iload_n 1, 1) := by decide +kernel
theorem dL_town_4 : decode cL_town 4 = .ok (.invokevirtual 7, 3) := by decide +kernel
theorem dL_town_7 : decode cL_town 7 = .ok (.i2l, 1) := by decide +kernel
theorem dL_town_8 : decode cL_town 8 = .ok (.lastore, 1) := by decide +kernel
theorem dL_town_9 : decode cL_town 9 = .ok (.goto 6, 3) := by decide +kernel
theorem dL_town_12 : decode cL_town 12 = .ok (.astore_n 3, 1) := by decide +kernel
theorem dL_town_13 : decode cL_town 13 = .ok (.iconst 1, 1) := by decide +kernel
theorem dL_town_14 : decode cL_town 14 = .ok (.ireturn, 1) := by decide +kernel
theorem dL_town_15 : decode cL_town 15 = .ok (.iconst 0, 1) := by decide +kernel
theorem dL_town_16 : decode cL_town 16 = .ok (.ireturn, 1) := by decide +kernel
theorem dL_told_0 : decode cL_told 0 = .ok (.aload_n 2, 1) := by decide +kernel
theorem dL_told_1 : decode cL_told 1 = .ok (.iconst 0, 1) := by decide +kernel
theorem dL_told_2 : decode cL_told 2 = .ok (.aload_n 0, 1) := by decide +kernel
theorem dL_told_3 : decode cL_told 3 = .ok (.iload_n 1, 1) := by decide +kernel
theorem dL_told_4 : decode cL_told 4 = .ok (.invokevirtual 15, 3) := by decide +kernel
theorem dL_told_7 : decode cL_told 7 = .ok (.i2l, 1) := by decide +kernel
theorem dL_told_8 : decode cL_told 8 = .ok (.lastore, 1) := by decide +kernel
theorem dL_told_9 : decode cL_told 9 = .ok (.goto 6, 3) := by decide +kernel
theorem dL_told_12 : decode cL_told 12 = .ok (.astore_n 3, 1) := by decide +kernel
theorem dL_told_13 : decode cL_told 13 = .ok (.iconst 1, 1) := by decide +kernel
theorem dL_told_14 : decode cL_told 14 = .ok (.ireturn, 1) := by decide +kernel
theorem dL_told_15 : decode cL_told 15 = .ok (.iconst 0, 1) := by decide +kernel
theorem dL_told_16 : decode cL_told 16 = .ok (.ireturn, 1) := by decide +kernel
theorem dL_thinks_0 : decode cL_thinks 0 = .ok (.aload_n 3, 1) := by decide +kernel
theorem dL_thinks_1 : decode cL_thinks 1 = .ok (.iconst 0, 1) := by decide +kernel
theorem dL_thinks_2 : decode cL_thinks 2 = .ok (.aload_n 0, 1) := by decide +kernel
theorem dL_thinks_3 : decode cL_thinks 3 = .ok (.iload_n 1, 1) := by decide +kernel
theorem dL_thinks_4 : decode cL_thinks 4 = .ok (.iload_n 2, 1) := by decide +kernel
theorem dL_thinks_5 : decode cL_thinks 5 = .ok (.invokevirtual 18, 3) := by decide +kernel
theorem dL_thinks_8 : decode cL_thinks 8 = .ok (.i2l, 1) := by decide +kernel
theorem dL_thinks_9 : decode cL_thinks 9 = .ok (.lastore, 1) := by decide +kernel
theorem dL_thinks_10 : decode cL_thinks 10 = .ok (.goto 11, 3) := by decide +kernel
theorem dL_thinks_13 : decode cL_thinks 13 = .ok (.astore 4, 2) := by decide +kernel
theorem dL_thinks_15 : decode cL_thinks 15 = .ok (.iconst 1, 1) := by decide +kernel
theorem dL_thinks_16 : decode cL_thinks 16 = .ok (.ireturn, 1) := by decide +kernel
theorem dL_thinks_17 : decode cL_thinks 17 = .ok (.astore 4, 2) := by decide +kernel
theorem dL_thinks_19 : decode cL_thinks 19 = .ok (.iconst 2, 1) := by decide +kernel
theorem dL_thinks_20 : decode cL_thinks 20 = .ok (.ireturn, 1) := by decide +kernel
theorem dL_thinks_21 : decode cL_thinks 21 = .ok (.iconst 0, 1) := by decide +kernel
theorem dL_thinks_22 : decode cL_thinks 22 = .ok (.ireturn, 1) := by decide +kernel
theorem dL_person_0 : decode cL_person 0 = .ok (.aload_n 3, 1) := by decide +kernel
theorem dL_person_1 : decode cL_person 1 = .ok (.iconst 0, 1) := by decide +kernel
theorem dL_person_2 : decode cL_person 2 = .ok (.aload_n 0, 1) := by decide +kernel
theorem dL_person_3 : decode cL_person 3 = .ok (.iload_n 1, 1) := by decide +kernel
theorem dL_person_4 : decode cL_person 4 = .ok (.iload_n 2, 1) := by decide +kernel
theorem dL_person_5 : decode cL_person 5 = .ok (.invokevirtual 24, 3) := by decide +kernel
theorem dL_person_8 : decode cL_person 8 = .ok (.i2l, 1) := by decide +kernel
theorem dL_person_9 : decode cL_person 9 = .ok (.lastore, 1) := by decide +kernel
theorem dL_person_10 : decode cL_person 10 = .ok (.goto 11, 3) := by decide +kernel
theorem dL_person_13 : decode cL_person 13 = .ok (.astore 4, 2) := by decide +kernel
theorem dL_person_15 : decode cL_person 15 = .ok (.iconst 1, 1) := by decide +kernel
theorem dL_person_16 : decode cL_person 16 = .ok (.ireturn, 1) := by decide +kernel
theorem dL_person_17 : decode cL_person 17 = .ok (.astore 4, 2) := by decide +kernel
theorem dL_person_19 : decode cL_person 19 = .ok (.iconst 2, 1) := by decide +kernel
theorem dL_person_20 : decode cL_person 20 = .ok (.ireturn, 1) := by decide +kernel
theorem dL_person_21 : decode cL_person 21 = .ok (.iconst 0, 1) := by decide +kernel
theorem dL_person_22 : decode cL_person 22 = .ok (.ireturn, 1) := by decide +kernel
theorem dL_door_0 : decode cL_door 0 = .ok (.aload_n 3, 1) := by decide +kernel
theorem dL_door_1 : decode cL_door 1 = .ok (.iconst 0, 1) := by decide +kernel
theorem dL_door_2 : decode cL_door 2 = .ok (.aload_n 0, 1) := by decide +kernel
theorem dL_door_3 : decode cL_door 3 = .ok (.iload_n 1, 1) := by decide +kernel
theorem dL_door_4 : decode cL_door 4 = .ok (.iload_n 2, 1) := by decide +kernel
theorem dL_door_5 : decode cL_door 5 = .ok (.invokevirtual 27, 3) := by decide +kernel
theorem dL_door_8 : decode cL_door 8 = .ok (.i2l, 1) := by decide +kernel
theorem dL_door_9 : decode cL_door 9 = .ok (.lastore, 1) := by decide +kernel
theorem dL_door_10 : decode cL_door 10 = .ok (.goto 11, 3) := by decide +kernel
theorem dL_door_13 : decode cL_door 13 = .ok (.astore 4, 2) := by decide +kernel
theorem dL_door_15 : decode cL_door 15 = .ok (.iconst 1, 1) := by decide +kernel
theorem dL_door_16 : decode cL_door 16 = .ok (.ireturn, 1) := by decide +kernel
theorem dL_door_17 : decode cL_door 17 = .ok (.astore 4, 2) := by decide +kernel
theorem dL_door_19 : decode cL_door 19 = .ok (.iconst 2, 1) := by decide +kernel
theorem dL_door_20 : decode cL_door 20 = .ok (.ireturn, 1) := by decide +kernel
theorem dL_door_21 : decode cL_door 21 = .ok (.iconst 0, 1) := by decide +kernel
theorem dL_door_22 : decode cL_door 22 = .ok (.ireturn, 1) := by decide +kernel
theorem dL_slate_0 : decode cL_slate 0 = .ok (.aload_n 2, 1) := by decide +kernel
theorem dL_slate_1 : decode cL_slate 1 = .ok (.iconst 0, 1) := by decide +kernel
theorem dL_slate_2 : decode cL_slate 2 = .ok (.aload_n 0, 1) := by decide +kernel
theorem dL_slate_3 : decode cL_slate 3 = .ok (.iload_n 1, 1) := by decide +kernel
theorem dL_slate_4 : decode cL_slate 4 = .ok (.invokevirtual 32, 3) := by decide +kernel
theorem dL_slate_7 : decode cL_slate 7 = .ok (.i2l, 1) := by decide +kernel
theorem dL_slate_8 : decode cL_slate 8 = .ok (.lastore, 1) := by decide +kernel
theorem dL_slate_9 : decode cL_slate 9 = .ok (.goto 6, 3) := by decide +kernel
theorem dL_slate_12 : decode cL_slate 12 = .ok (.astore_n 3, 1) := by decide +kernel
theorem dL_slate_13 : decode cL_slate 13 = .ok (.iconst 1, 1) := by decide +kernel
theorem dL_slate_14 : decode cL_slate 14 = .ok (.ireturn, 1) := by decide +kernel
theorem dL_slate_15 : decode cL_slate 15 = .ok (.iconst 0, 1) := by decide +kernel
theorem dL_slate_16 : decode cL_slate 16 = .ok (.ireturn, 1) := by decide +kernel
theorem dL_work_0 : decode cL_work 0 = .ok (.aload 4, 2) := by decide +kernel
theorem dL_work_2 : decode cL_work 2 = .ok (.iconst 0, 1) := by decide +kernel
theorem dL_work_3 : decode cL_work 3 = .ok (.aload_n 0, 1) := by decide +kernel
theorem dL_work_4 : decode cL_work 4 = .ok (.iload_n 1, 1) := by decide +kernel
theorem dL_work_5 : decode cL_work 5 = .ok (.iload_n 2, 1) := by decide +kernel
theorem dL_work_6 : decode cL_work 6 = .ok (.iload_n 3, 1) := by decide +kernel
theorem dL_work_7 : decode cL_work 7 = .ok (.invokevirtual 35, 3) := by decide +kernel
theorem dL_work_10 : decode cL_work 10 = .ok (.i2l, 1) := by decide +kernel
theorem dL_work_11 : decode cL_work 11 = .ok (.lastore, 1) := by decide +kernel
theorem dL_work_12 : decode cL_work 12 = .ok (.goto 11, 3) := by decide +kernel
theorem dL_work_15 : decode cL_work 15 = .ok (.astore 5, 2) := by decide +kernel
theorem dL_work_17 : decode cL_work 17 = .ok (.iconst 1, 1) := by decide +kernel
theorem dL_work_18 : decode cL_work 18 = .ok (.ireturn, 1) := by decide +kernel
theorem dL_work_19 : decode cL_work 19 = .ok (.astore 5, 2) := by decide +kernel
theorem dL_work_21 : decode cL_work 21 = .ok (.iconst 2, 1) := by decide +kernel
theorem dL_work_22 : decode cL_work 22 = .ok (.ireturn, 1) := by decide +kernel
theorem dL_work_23 : decode cL_work 23 = .ok (.iconst 0, 1) := by decide +kernel
theorem dL_work_24 : decode cL_work 24 = .ok (.ireturn, 1) := by decide +kernel
theorem dL_may_0 : decode cL_may 0 = .ok (.aload 4, 2) := by decide +kernel
theorem dL_may_2 : decode cL_may 2 = .ok (.iconst 0, 1) := by decide +kernel
theorem dL_may_3 : decode cL_may 3 = .ok (.aload_n 0, 1) := by decide +kernel
theorem dL_may_4 : decode cL_may 4 = .ok (.iload_n 1, 1) := by decide +kernel
theorem dL_may_5 : decode cL_may 5 = .ok (.iload_n 2, 1) := by decide +kernel
theorem dL_may_6 : decode cL_may 6 = .ok (.iload_n 3, 1) := by decide +kernel
theorem dL_may_7 : decode cL_may 7 = .ok (.invokevirtual 39, 3) := by decide +kernel
theorem dL_may_10 : decode cL_may 10 = .ok (.i2l, 1) := by decide +kernel
theorem dL_may_11 : decode cL_may 11 = .ok (.lastore, 1) := by decide +kernel
theorem dL_may_12 : decode cL_may 12 = .ok (.goto 11, 3) := by decide +kernel
theorem dL_may_15 : decode cL_may 15 = .ok (.astore 5, 2) := by decide +kernel
theorem dL_may_17 : decode cL_may 17 = .ok (.iconst 1, 1) := by decide +kernel
theorem dL_may_18 : decode cL_may 18 = .ok (.ireturn, 1) := by decide +kernel
theorem dL_may_19 : decode cL_may 19 = .ok (.astore 5, 2) := by decide +kernel
theorem dL_may_21 : decode cL_may 21 = .ok (.iconst 2, 1) := by decide +kernel
theorem dL_may_22 : decode cL_may 22 = .ok (.ireturn, 1) := by decide +kernel
theorem dL_may_23 : decode cL_may 23 = .ok (.iconst 0, 1) := by decide +kernel
theorem dL_may_24 : decode cL_may 24 = .ok (.ireturn, 1) := by decide +kernel
theorem dL_next_0 : decode cL_next 0 = .ok (.aload_n 1, 1) := by decide +kernel
theorem dL_next_1 : decode cL_next 1 = .ok (.iconst 0, 1) := by decide +kernel
theorem dL_next_2 : decode cL_next 2 = .ok (.aload_n 0, 1) := by decide +kernel
theorem dL_next_3 : decode cL_next 3 = .ok (.invokevirtual 42, 3) := by decide +kernel
theorem dL_next_6 : decode cL_next 6 = .ok (.i2l, 1) := by decide +kernel
theorem dL_next_7 : decode cL_next 7 = .ok (.lastore, 1) := by decide +kernel
theorem dL_next_8 : decode cL_next 8 = .ok (.goto 6, 3) := by decide +kernel
theorem dL_next_11 : decode cL_next 11 = .ok (.astore_n 2, 1) := by decide +kernel
theorem dL_next_12 : decode cL_next 12 = .ok (.iconst 1, 1) := by decide +kernel
theorem dL_next_13 : decode cL_next 13 = .ok (.ireturn, 1) := by decide +kernel
theorem dL_next_14 : decode cL_next 14 = .ok (.iconst 0, 1) := by decide +kernel
theorem dL_next_15 : decode cL_next 15 = .ok (.ireturn, 1) := by decide +kernel
theorem dL_talk_0 : decode cL_talk 0 = .ok (.aload 4, 2) := by decide +kernel
theorem dL_talk_2 : decode cL_talk 2 = .ok (.iconst 0, 1) := by decide +kernel
theorem dL_talk_3 : decode cL_talk 3 = .ok (.aload_n 0, 1) := by decide +kernel
theorem dL_talk_4 : decode cL_talk 4 = .ok (.iload_n 1, 1) := by decide +kernel
theorem dL_talk_5 : decode cL_talk 5 = .ok (.iload_n 2, 1) := by decide +kernel
theorem dL_talk_6 : decode cL_talk 6 = .ok (.iload_n 3, 1) := by decide +kernel
theorem dL_talk_7 : decode cL_talk 7 = .ok (.invokevirtual 48, 3) := by decide +kernel
theorem dL_talk_10 : decode cL_talk 10 = .ok (.i2l, 1) := by decide +kernel
theorem dL_talk_11 : decode cL_talk 11 = .ok (.lastore, 1) := by decide +kernel
theorem dL_talk_12 : decode cL_talk 12 = .ok (.goto 11, 3) := by decide +kernel
theorem dL_talk_15 : decode cL_talk 15 = .ok (.astore 5, 2) := by decide +kernel
theorem dL_talk_17 : decode cL_talk 17 = .ok (.iconst 1, 1) := by decide +kernel
theorem dL_talk_18 : decode cL_talk 18 = .ok (.ireturn, 1) := by decide +kernel
theorem dL_talk_19 : decode cL_talk 19 = .ok (.astore 5, 2) := by decide +kernel
theorem dL_talk_21 : decode cL_talk 21 = .ok (.iconst 2, 1) := by decide +kernel
theorem dL_talk_22 : decode cL_talk 22 = .ok (.ireturn, 1) := by decide +kernel
theorem dL_talk_23 : decode cL_talk 23 = .ok (.iconst 0, 1) := by decide +kernel
theorem dL_talk_24 : decode cL_talk 24 = .ok (.ireturn, 1) := by decide +kernel
theorem dL_earned_0 : decode cL_earned 0 = .ok (.aload_n 2, 1) := by decide +kernel
theorem dL_earned_1 : decode cL_earned 1 = .ok (.iconst 0, 1) := by decide +kernel
theorem dL_earned_2 : decode cL_earned 2 = .ok (.aload_n 0, 1) := by decide +kernel
theorem dL_earned_3 : decode cL_earned 3 = .ok (.iload_n 1, 1) := by decide +kernel
theorem dL_earned_4 : decode cL_earned 4 = .ok (.invokevirtual 51, 3) := by decide +kernel
theorem dL_earned_7 : decode cL_earned 7 = .ok (.i2l, 1) := by decide +kernel
theorem dL_earned_8 : decode cL_earned 8 = .ok (.lastore, 1) := by decide +kernel
theorem dL_earned_9 : decode cL_earned 9 = .ok (.goto 6, 3) := by decide +kernel
theorem dL_earned_12 : decode cL_earned 12 = .ok (.astore_n 3, 1) := by decide +kernel
theorem dL_earned_13 : decode cL_earned 13 = .ok (.iconst 1, 1) := by decide +kernel
theorem dL_earned_14 : decode cL_earned 14 = .ok (.ireturn, 1) := by decide +kernel
theorem dL_earned_15 : decode cL_earned 15 = .ok (.iconst 0, 1) := by decide +kernel
theorem dL_earned_16 : decode cL_earned 16 = .ok (.ireturn, 1) := by decide +kernel
theorem dL_row_0 : decode cL_row 0 = .ok (.aload 5, 2) := by decide +kernel
theorem dL_row_2 : decode cL_row 2 = .ok (.iconst 0, 1) := by decide +kernel
theorem dL_row_3 : decode cL_row 3 = .ok (.aload_n 0, 1) := by decide +kernel
theorem dL_row_4 : decode cL_row 4 = .ok (.iload_n 1, 1) := by decide +kernel
theorem dL_row_5 : decode cL_row 5 = .ok (.iload_n 2, 1) := by decide +kernel
theorem dL_row_6 : decode cL_row 6 = .ok (.iload_n 3, 1) := by decide +kernel
theorem dL_row_7 : decode cL_row 7 = .ok (.iload 4, 2) := by decide +kernel
theorem dL_row_9 : decode cL_row 9 = .ok (.invokevirtual 54, 3) := by decide +kernel
theorem dL_row_12 : decode cL_row 12 = .ok (.i2l, 1) := by decide +kernel
theorem dL_row_13 : decode cL_row 13 = .ok (.lastore, 1) := by decide +kernel
theorem dL_row_14 : decode cL_row 14 = .ok (.goto 15, 3) := by decide +kernel
theorem dL_row_17 : decode cL_row 17 = .ok (.astore 6, 2) := by decide +kernel
theorem dL_row_19 : decode cL_row 19 = .ok (.iconst 1, 1) := by decide +kernel
theorem dL_row_20 : decode cL_row 20 = .ok (.ireturn, 1) := by decide +kernel
theorem dL_row_21 : decode cL_row 21 = .ok (.astore 6, 2) := by decide +kernel
theorem dL_row_23 : decode cL_row 23 = .ok (.iconst 2, 1) := by decide +kernel
theorem dL_row_24 : decode cL_row 24 = .ok (.ireturn, 1) := by decide +kernel
theorem dL_row_25 : decode cL_row 25 = .ok (.astore 6, 2) := by decide +kernel
theorem dL_row_27 : decode cL_row 27 = .ok (.iconst 3, 1) := by decide +kernel
theorem dL_row_28 : decode cL_row 28 = .ok (.ireturn, 1) := by decide +kernel
theorem dL_row_29 : decode cL_row 29 = .ok (.iconst 0, 1) := by decide +kernel
theorem dL_row_30 : decode cL_row 30 = .ok (.ireturn, 1) := by decide +kernel
theorem dL_judge_0 : decode cL_judge 0 = .ok (.aload_n 2, 1) := by decide +kernel
theorem dL_judge_1 : decode cL_judge 1 = .ok (.iconst 0, 1) := by decide +kernel
theorem dL_judge_2 : decode cL_judge 2 = .ok (.aload_n 0, 1) := by decide +kernel
theorem dL_judge_3 : decode cL_judge 3 = .ok (.iload_n 1, 1) := by decide +kernel
theorem dL_judge_4 : decode cL_judge 4 = .ok (.invokevirtual 58, 3) := by decide +kernel
theorem dL_judge_7 : decode cL_judge 7 = .ok (.i2l, 1) := by decide +kernel
theorem dL_judge_8 : decode cL_judge 8 = .ok (.lastore, 1) := by decide +kernel
theorem dL_judge_9 : decode cL_judge 9 = .ok (.goto 6, 3) := by decide +kernel
theorem dL_judge_12 : decode cL_judge 12 = .ok (.astore_n 3, 1) := by decide +kernel
theorem dL_judge_13 : decode cL_judge 13 = .ok (.iconst 1, 1) := by decide +kernel
theorem dL_judge_14 : decode cL_judge 14 = .ok (.ireturn, 1) := by decide +kernel
theorem dL_judge_15 : decode cL_judge 15 = .ok (.iconst 0, 1) := by decide +kernel
theorem dL_judge_16 : decode cL_judge 16 = .ok (.ireturn, 1) := by decide +kernel
theorem dL_today_0 : decode cL_today 0 = .ok (.aload_n 3, 1) := by decide +kernel
theorem dL_today_1 : decode cL_today 1 = .ok (.iconst 0, 1) := by decide +kernel
theorem dL_today_2 : decode cL_today 2 = .ok (.aload_n 0, 1) := by decide +kernel
theorem dL_today_3 : decode cL_today 3 = .ok (.iload_n 1, 1) := by decide +kernel
theorem dL_today_4 : decode cL_today 4 = .ok (.iload_n 2, 1) := by decide +kernel
theorem dL_today_5 : decode cL_today 5 = .ok (.invokevirtual 61, 3) := by decide +kernel
theorem dL_today_8 : decode cL_today 8 = .ok (.i2l, 1) := by decide +kernel
theorem dL_today_9 : decode cL_today 9 = .ok (.lastore, 1) := by decide +kernel
theorem dL_today_10 : decode cL_today 10 = .ok (.goto 7, 3) := by decide +kernel
theorem dL_today_13 : decode cL_today 13 = .ok (.astore 4, 2) := by decide +kernel
theorem dL_today_15 : decode cL_today 15 = .ok (.iconst 1, 1) := by decide +kernel
theorem dL_today_16 : decode cL_today 16 = .ok (.ireturn, 1) := by decide +kernel
theorem dL_today_17 : decode cL_today 17 = .ok (.iconst 0, 1) := by decide +kernel
theorem dL_today_18 : decode cL_today 18 = .ok (.ireturn, 1) := by decide +kernel
theorem dL_pair_0 : decode cL_pair 0 = .ok (.aload_n 3, 1) := by decide +kernel
theorem dL_pair_1 : decode cL_pair 1 = .ok (.iconst 0, 1) := by decide +kernel
theorem dL_pair_2 : decode cL_pair 2 = .ok (.aload_n 0, 1) := by decide +kernel
theorem dL_pair_3 : decode cL_pair 3 = .ok (.iload_n 1, 1) := by decide +kernel
theorem dL_pair_4 : decode cL_pair 4 = .ok (.iload_n 2, 1) := by decide +kernel
theorem dL_pair_5 : decode cL_pair 5 = .ok (.invokevirtual 64, 3) := by decide +kernel
theorem dL_pair_8 : decode cL_pair 8 = .ok (.i2l, 1) := by decide +kernel
theorem dL_pair_9 : decode cL_pair 9 = .ok (.lastore, 1) := by decide +kernel
theorem dL_pair_10 : decode cL_pair 10 = .ok (.goto 11, 3) := by decide +kernel
theorem dL_pair_13 : decode cL_pair 13 = .ok (.astore 4, 2) := by decide +kernel
theorem dL_pair_15 : decode cL_pair 15 = .ok (.iconst 1, 1) := by decide +kernel
theorem dL_pair_16 : decode cL_pair 16 = .ok (.ireturn, 1) := by decide +kernel
theorem dL_pair_17 : decode cL_pair 17 = .ok (.astore 4, 2) := by decide +kernel
theorem dL_pair_19 : decode cL_pair 19 = .ok (.iconst 2, 1) := by decide +kernel
theorem dL_pair_20 : decode cL_pair 20 = .ok (.ireturn, 1) := by decide +kernel
theorem dL_pair_21 : decode cL_pair 21 = .ok (.iconst 0, 1) := by decide +kernel
theorem dL_pair_22 : decode cL_pair 22 = .ok (.ireturn, 1) := by decide +kernel
theorem dL_bound_0 : decode cL_bound 0 = .ok (.aload_n 2, 1) := by decide +kernel
theorem dL_bound_1 : decode cL_bound 1 = .ok (.iconst 0, 1) := by decide +kernel
theorem dL_bound_2 : decode cL_bound 2 = .ok (.aload_n 0, 1) := by decide +kernel
theorem dL_bound_3 : decode cL_bound 3 = .ok (.iload_n 1, 1) := by decide +kernel
theorem dL_bound_4 : decode cL_bound 4 = .ok (.invokevirtual 67, 3) := by decide +kernel
theorem dL_bound_7 : decode cL_bound 7 = .ok (.i2l, 1) := by decide +kernel
theorem dL_bound_8 : decode cL_bound 8 = .ok (.lastore, 1) := by decide +kernel
theorem dL_bound_9 : decode cL_bound 9 = .ok (.goto 6, 3) := by decide +kernel
theorem dL_bound_12 : decode cL_bound 12 = .ok (.astore_n 3, 1) := by decide +kernel
theorem dL_bound_13 : decode cL_bound 13 = .ok (.iconst 1, 1) := by decide +kernel
theorem dL_bound_14 : decode cL_bound 14 = .ok (.ireturn, 1) := by decide +kernel
theorem dL_bound_15 : decode cL_bound 15 = .ok (.iconst 0, 1) := by decide +kernel
theorem dL_bound_16 : decode cL_bound 16 = .ok (.ireturn, 1) := by decide +kernel
theorem dL_need_0 : decode cL_need 0 = .ok (.aload_n 3, 1) := by decide +kernel
theorem dL_need_1 : decode cL_need 1 = .ok (.iconst 0, 1) := by decide +kernel
theorem dL_need_2 : decode cL_need 2 = .ok (.aload_n 0, 1) := by decide +kernel
theorem dL_need_3 : decode cL_need 3 = .ok (.iload_n 1, 1) := by decide +kernel
theorem dL_need_4 : decode cL_need 4 = .ok (.iload_n 2, 1) := by decide +kernel
theorem dL_need_5 : decode cL_need 5 = .ok (.invokevirtual 70, 3) := by decide +kernel
theorem dL_need_8 : decode cL_need 8 = .ok (.i2l, 1) := by decide +kernel
theorem dL_need_9 : decode cL_need 9 = .ok (.lastore, 1) := by decide +kernel
theorem dL_need_10 : decode cL_need 10 = .ok (.goto 7, 3) := by decide +kernel
theorem dL_need_13 : decode cL_need 13 = .ok (.astore 4, 2) := by decide +kernel
theorem dL_need_15 : decode cL_need 15 = .ok (.iconst 1, 1) := by decide +kernel
theorem dL_need_16 : decode cL_need 16 = .ok (.ireturn, 1) := by decide +kernel
theorem dL_need_17 : decode cL_need 17 = .ok (.iconst 0, 1) := by decide +kernel
theorem dL_need_18 : decode cL_need 18 = .ok (.ireturn, 1) := by decide +kernel
theorem dL_stranger_0 : decode cL_stranger 0 = .ok (.aload 4, 2) := by decide +kernel
theorem dL_stranger_2 : decode cL_stranger 2 = .ok (.iconst 0, 1) := by decide +kernel
theorem dL_stranger_3 : decode cL_stranger 3 = .ok (.aload_n 0, 1) := by decide +kernel
theorem dL_stranger_4 : decode cL_stranger 4 = .ok (.iload_n 1, 1) := by decide +kernel
theorem dL_stranger_5 : decode cL_stranger 5 = .ok (.iload_n 2, 1) := by decide +kernel
theorem dL_stranger_6 : decode cL_stranger 6 = .ok (.iload_n 3, 1) := by decide +kernel
theorem dL_stranger_7 : decode cL_stranger 7 = .ok (.invokevirtual 73, 3) := by decide +kernel
theorem dL_stranger_10 : decode cL_stranger 10 = .ok (.i2l, 1) := by decide +kernel
theorem dL_stranger_11 : decode cL_stranger 11 = .ok (.lastore, 1) := by decide +kernel
theorem dL_stranger_12 : decode cL_stranger 12 = .ok (.goto 7, 3) := by decide +kernel
theorem dL_stranger_15 : decode cL_stranger 15 = .ok (.astore 5, 2) := by decide +kernel
theorem dL_stranger_17 : decode cL_stranger 17 = .ok (.iconst 1, 1) := by decide +kernel
theorem dL_stranger_18 : decode cL_stranger 18 = .ok (.ireturn, 1) := by decide +kernel
theorem dL_stranger_19 : decode cL_stranger 19 = .ok (.iconst 0, 1) := by decide +kernel
theorem dL_stranger_20 : decode cL_stranger 20 = .ok (.ireturn, 1) := by decide +kernel
theorem dL_night_0 : decode cL_night 0 = .ok (.aload_n 2, 1) := by decide +kernel
theorem dL_night_1 : decode cL_night 1 = .ok (.iconst 0, 1) := by decide +kernel
theorem dL_night_2 : decode cL_night 2 = .ok (.aload_n 0, 1) := by decide +kernel
theorem dL_night_3 : decode cL_night 3 = .ok (.iload_n 1, 1) := by decide +kernel
theorem dL_night_4 : decode cL_night 4 = .ok (.invokevirtual 76, 3) := by decide +kernel
theorem dL_night_7 : decode cL_night 7 = .ok (.i2l, 1) := by decide +kernel
theorem dL_night_8 : decode cL_night 8 = .ok (.lastore, 1) := by decide +kernel
theorem dL_night_9 : decode cL_night 9 = .ok (.goto 6, 3) := by decide +kernel
theorem dL_night_12 : decode cL_night 12 = .ok (.astore_n 3, 1) := by decide +kernel
theorem dL_night_13 : decode cL_night 13 = .ok (.iconst 1, 1) := by decide +kernel
theorem dL_night_14 : decode cL_night 14 = .ok (.ireturn, 1) := by decide +kernel
theorem dL_night_15 : decode cL_night 15 = .ok (.iconst 0, 1) := by decide +kernel
theorem dL_night_16 : decode cL_night 16 = .ok (.ireturn, 1) := by decide +kernel
theorem dL_best_0 : decode cL_best 0 = .ok (.aload_n 2, 1) := by decide +kernel
theorem dL_best_1 : decode cL_best 1 = .ok (.iconst 0, 1) := by decide +kernel
theorem dL_best_2 : decode cL_best 2 = .ok (.aload_n 0, 1) := by decide +kernel
theorem dL_best_3 : decode cL_best 3 = .ok (.iload_n 1, 1) := by decide +kernel
theorem dL_best_4 : decode cL_best 4 = .ok (.invokevirtual 79, 3) := by decide +kernel
theorem dL_best_7 : decode cL_best 7 = .ok (.i2l, 1) := by decide +kernel
theorem dL_best_8 : decode cL_best 8 = .ok (.lastore, 1) := by decide +kernel
theorem dL_best_9 : decode cL_best 9 = .ok (.goto 6, 3) := by decide +kernel
theorem dL_best_12 : decode cL_best 12 = .ok (.astore_n 3, 1) := by decide +kernel
theorem dL_best_13 : decode cL_best 13 = .ok (.iconst 1, 1) := by decide +kernel
theorem dL_best_14 : decode cL_best 14 = .ok (.ireturn, 1) := by decide +kernel
theorem dL_best_15 : decode cL_best 15 = .ok (.iconst 0, 1) := by decide +kernel
theorem dL_best_16 : decode cL_best 16 = .ok (.ireturn, 1) := by decide +kernel
theorem dL_run_0 : decode cL_run 0 = .ok (.aload 4, 2) := by decide +kernel
theorem dL_run_2 : decode cL_run 2 = .ok (.iconst 0, 1) := by decide +kernel
theorem dL_run_3 : decode cL_run 3 = .ok (.aload_n 0, 1) := by decide +kernel
theorem dL_run_4 : decode cL_run 4 = .ok (.iload_n 1, 1) := by decide +kernel
theorem dL_run_5 : decode cL_run 5 = .ok (.iload_n 2, 1) := by decide +kernel
theorem dL_run_6 : decode cL_run 6 = .ok (.iload_n 3, 1) := by decide +kernel
theorem dL_run_7 : decode cL_run 7 = .ok (.invokevirtual 82, 3) := by decide +kernel
theorem dL_run_10 : decode cL_run 10 = .ok (.i2l, 1) := by decide +kernel
theorem dL_run_11 : decode cL_run 11 = .ok (.lastore, 1) := by decide +kernel
theorem dL_run_12 : decode cL_run 12 = .ok (.goto 7, 3) := by decide +kernel
theorem dL_run_15 : decode cL_run 15 = .ok (.astore 5, 2) := by decide +kernel
theorem dL_run_17 : decode cL_run 17 = .ok (.iconst 1, 1) := by decide +kernel
theorem dL_run_18 : decode cL_run 18 = .ok (.ireturn, 1) := by decide +kernel
theorem dL_run_19 : decode cL_run 19 = .ok (.iconst 0, 1) := by decide +kernel
theorem dL_run_20 : decode cL_run 20 = .ok (.ireturn, 1) := by decide +kernel
theorem dL_lot_0 : decode cL_lot 0 = .ok (.aload 5, 2) := by decide +kernel
theorem dL_lot_2 : decode cL_lot 2 = .ok (.iconst 0, 1) := by decide +kernel
theorem dL_lot_3 : decode cL_lot 3 = .ok (.aload_n 0, 1) := by decide +kernel
theorem dL_lot_4 : decode cL_lot 4 = .ok (.iload_n 1, 1) := by decide +kernel
theorem dL_lot_5 : decode cL_lot 5 = .ok (.iload_n 2, 1) := by decide +kernel
theorem dL_lot_6 : decode cL_lot 6 = .ok (.iload_n 3, 1) := by decide +kernel
theorem dL_lot_7 : decode cL_lot 7 = .ok (.iload 4, 2) := by decide +kernel
theorem dL_lot_9 : decode cL_lot 9 = .ok (.invokevirtual 85, 3) := by decide +kernel
theorem dL_lot_12 : decode cL_lot 12 = .ok (.i2l, 1) := by decide +kernel
theorem dL_lot_13 : decode cL_lot 13 = .ok (.lastore, 1) := by decide +kernel
theorem dL_lot_14 : decode cL_lot 14 = .ok (.goto 7, 3) := by decide +kernel
theorem dL_lot_17 : decode cL_lot 17 = .ok (.astore 6, 2) := by decide +kernel
theorem dL_lot_19 : decode cL_lot 19 = .ok (.iconst 1, 1) := by decide +kernel
theorem dL_lot_20 : decode cL_lot 20 = .ok (.ireturn, 1) := by decide +kernel
theorem dL_lot_21 : decode cL_lot 21 = .ok (.iconst 0, 1) := by decide +kernel
theorem dL_lot_22 : decode cL_lot 22 = .ok (.ireturn, 1) := by decide +kernel
theorem dL_rule_0 : decode cL_rule 0 = .ok (.aload_n 2, 1) := by decide +kernel
theorem dL_rule_1 : decode cL_rule 1 = .ok (.iconst 0, 1) := by decide +kernel
theorem dL_rule_2 : decode cL_rule 2 = .ok (.aload_n 0, 1) := by decide +kernel
theorem dL_rule_3 : decode cL_rule 3 = .ok (.iload_n 1, 1) := by decide +kernel
theorem dL_rule_4 : decode cL_rule 4 = .ok (.invokevirtual 88, 3) := by decide +kernel
theorem dL_rule_7 : decode cL_rule 7 = .ok (.i2l, 1) := by decide +kernel
theorem dL_rule_8 : decode cL_rule 8 = .ok (.lastore, 1) := by decide +kernel
theorem dL_rule_9 : decode cL_rule 9 = .ok (.goto 6, 3) := by decide +kernel
theorem dL_rule_12 : decode cL_rule 12 = .ok (.astore_n 3, 1) := by decide +kernel
theorem dL_rule_13 : decode cL_rule 13 = .ok (.iconst 1, 1) := by decide +kernel
theorem dL_rule_14 : decode cL_rule 14 = .ok (.ireturn, 1) := by decide +kernel
theorem dL_rule_15 : decode cL_rule 15 = .ok (.iconst 0, 1) := by decide +kernel
theorem dL_rule_16 : decode cL_rule 16 = .ok (.ireturn, 1) := by decide +kernel
theorem dL_few_0 : decode cL_few 0 = .ok (.aload 4, 2) := by decide +kernel
theorem dL_few_2 : decode cL_few 2 = .ok (.iconst 0, 1) := by decide +kernel
theorem dL_few_3 : decode cL_few 3 = .ok (.aload_n 0, 1) := by decide +kernel
theorem dL_few_4 : decode cL_few 4 = .ok (.iload_n 1, 1) := by decide +kernel
theorem dL_few_5 : decode cL_few 5 = .ok (.iload_n 2, 1) := by decide +kernel
theorem dL_few_6 : decode cL_few 6 = .ok (.iload_n 3, 1) := by decide +kernel
theorem dL_few_7 : decode cL_few 7 = .ok (.invokevirtual 91, 3) := by decide +kernel
theorem dL_few_10 : decode cL_few 10 = .ok (.i2l, 1) := by decide +kernel
theorem dL_few_11 : decode cL_few 11 = .ok (.lastore, 1) := by decide +kernel
theorem dL_few_12 : decode cL_few 12 = .ok (.goto 7, 3) := by decide +kernel
theorem dL_few_15 : decode cL_few 15 = .ok (.astore 5, 2) := by decide +kernel
theorem dL_few_17 : decode cL_few 17 = .ok (.iconst 1, 1) := by decide +kernel
theorem dL_few_18 : decode cL_few 18 = .ok (.ireturn, 1) := by decide +kernel
theorem dL_few_19 : decode cL_few 19 = .ok (.iconst 0, 1) := by decide +kernel
theorem dL_few_20 : decode cL_few 20 = .ok (.ireturn, 1) := by decide +kernel
theorem dL_pairs_0 : decode cL_pairs 0 = .ok (.aload_n 3, 1) := by decide +kernel
theorem dL_pairs_1 : decode cL_pairs 1 = .ok (.iconst 0, 1) := by decide +kernel
theorem dL_pairs_2 : decode cL_pairs 2 = .ok (.aload_n 0, 1) := by decide +kernel
theorem dL_pairs_3 : decode cL_pairs 3 = .ok (.iload_n 1, 1) := by decide +kernel
theorem dL_pairs_4 : decode cL_pairs 4 = .ok (.iload_n 2, 1) := by decide +kernel
theorem dL_pairs_5 : decode cL_pairs 5 = .ok (.invokevirtual 94, 3) := by decide +kernel
theorem dL_pairs_8 : decode cL_pairs 8 = .ok (.i2l, 1) := by decide +kernel
theorem dL_pairs_9 : decode cL_pairs 9 = .ok (.lastore, 1) := by decide +kernel
theorem dL_pairs_10 : decode cL_pairs 10 = .ok (.goto 7, 3) := by decide +kernel
theorem dL_pairs_13 : decode cL_pairs 13 = .ok (.astore 4, 2) := by decide +kernel
theorem dL_pairs_15 : decode cL_pairs 15 = .ok (.iconst 1, 1) := by decide +kernel
theorem dL_pairs_16 : decode cL_pairs 16 = .ok (.ireturn, 1) := by decide +kernel
theorem dL_pairs_17 : decode cL_pairs 17 = .ok (.iconst 0, 1) := by decide +kernel
theorem dL_pairs_18 : decode cL_pairs 18 = .ok (.ireturn, 1) := by decide +kernel
theorem dL_edge_0 : decode cL_edge 0 = .ok (.aload_n 3, 1) := by decide +kernel
theorem dL_edge_1 : decode cL_edge 1 = .ok (.iconst 0, 1) := by decide +kernel
theorem dL_edge_2 : decode cL_edge 2 = .ok (.aload_n 0, 1) := by decide +kernel
theorem dL_edge_3 : decode cL_edge 3 = .ok (.iload_n 1, 1) := by decide +kernel
theorem dL_edge_4 : decode cL_edge 4 = .ok (.iload_n 2, 1) := by decide +kernel
theorem dL_edge_5 : decode cL_edge 5 = .ok (.invokevirtual 97, 3) := by decide +kernel
theorem dL_edge_8 : decode cL_edge 8 = .ok (.i2l, 1) := by decide +kernel
theorem dL_edge_9 : decode cL_edge 9 = .ok (.lastore, 1) := by decide +kernel
theorem dL_edge_10 : decode cL_edge 10 = .ok (.goto 7, 3) := by decide +kernel
theorem dL_edge_13 : decode cL_edge 13 = .ok (.astore 4, 2) := by decide +kernel
theorem dL_edge_15 : decode cL_edge 15 = .ok (.iconst 1, 1) := by decide +kernel
theorem dL_edge_16 : decode cL_edge 16 = .ok (.ireturn, 1) := by decide +kernel
theorem dL_edge_17 : decode cL_edge 17 = .ok (.iconst 0, 1) := by decide +kernel
theorem dL_edge_18 : decode cL_edge 18 = .ok (.ireturn, 1) := by decide +kernel
theorem dL_rest_0 : decode cL_rest 0 = .ok (.aload 7, 2) := by decide +kernel
theorem dL_rest_2 : decode cL_rest 2 = .ok (.iconst 0, 1) := by decide +kernel
theorem dL_rest_3 : decode cL_rest 3 = .ok (.aload_n 0, 1) := by decide +kernel
theorem dL_rest_4 : decode cL_rest 4 = .ok (.iload_n 1, 1) := by decide +kernel
theorem dL_rest_5 : decode cL_rest 5 = .ok (.iload_n 2, 1) := by decide +kernel
theorem dL_rest_6 : decode cL_rest 6 = .ok (.iload_n 3, 1) := by decide +kernel
theorem dL_rest_7 : decode cL_rest 7 = .ok (.iload 4, 2) := by decide +kernel
theorem dL_rest_9 : decode cL_rest 9 = .ok (.iload 5, 2) := by decide +kernel
theorem dL_rest_11 : decode cL_rest 11 = .ok (.iload 6, 2) := by decide +kernel
theorem dL_rest_13 : decode cL_rest 13 = .ok (.invokevirtual 100, 3) := by decide +kernel
theorem dL_rest_16 : decode cL_rest 16 = .ok (.i2l, 1) := by decide +kernel
theorem dL_rest_17 : decode cL_rest 17 = .ok (.lastore, 1) := by decide +kernel
theorem dL_rest_18 : decode cL_rest 18 = .ok (.goto 11, 3) := by decide +kernel
theorem dL_rest_21 : decode cL_rest 21 = .ok (.astore 8, 2) := by decide +kernel
theorem dL_rest_23 : decode cL_rest 23 = .ok (.iconst 1, 1) := by decide +kernel
theorem dL_rest_24 : decode cL_rest 24 = .ok (.ireturn, 1) := by decide +kernel
theorem dL_rest_25 : decode cL_rest 25 = .ok (.astore 8, 2) := by decide +kernel
theorem dL_rest_27 : decode cL_rest 27 = .ok (.iconst 2, 1) := by decide +kernel
theorem dL_rest_28 : decode cL_rest 28 = .ok (.ireturn, 1) := by decide +kernel
theorem dL_rest_29 : decode cL_rest 29 = .ok (.iconst 0, 1) := by decide +kernel
theorem dL_rest_30 : decode cL_rest 30 = .ok (.ireturn, 1) := by decide +kernel
theorem dL_once_0 : decode cL_once 0 = .ok (.aload_n 2, 1) := by decide +kernel
theorem dL_once_1 : decode cL_once 1 = .ok (.iconst 0, 1) := by decide +kernel
theorem dL_once_2 : decode cL_once 2 = .ok (.aload_n 0, 1) := by decide +kernel
theorem dL_once_3 : decode cL_once 3 = .ok (.iload_n 1, 1) := by decide +kernel
theorem dL_once_4 : decode cL_once 4 = .ok (.invokevirtual 104, 3) := by decide +kernel
theorem dL_once_7 : decode cL_once 7 = .ok (.i2l, 1) := by decide +kernel
theorem dL_once_8 : decode cL_once 8 = .ok (.lastore, 1) := by decide +kernel
theorem dL_once_9 : decode cL_once 9 = .ok (.goto 6, 3) := by decide +kernel
theorem dL_once_12 : decode cL_once 12 = .ok (.astore_n 3, 1) := by decide +kernel
theorem dL_once_13 : decode cL_once 13 = .ok (.iconst 1, 1) := by decide +kernel
theorem dL_once_14 : decode cL_once 14 = .ok (.ireturn, 1) := by decide +kernel
theorem dL_once_15 : decode cL_once 15 = .ok (.iconst 0, 1) := by decide +kernel
theorem dL_once_16 : decode cL_once 16 = .ok (.ireturn, 1) := by decide +kernel
theorem dL_calm_0 : decode cL_calm 0 = .ok (.aload_n 3, 1) := by decide +kernel
theorem dL_calm_1 : decode cL_calm 1 = .ok (.iconst 0, 1) := by decide +kernel
theorem dL_calm_2 : decode cL_calm 2 = .ok (.aload_n 0, 1) := by decide +kernel
theorem dL_calm_3 : decode cL_calm 3 = .ok (.iload_n 1, 1) := by decide +kernel
theorem dL_calm_4 : decode cL_calm 4 = .ok (.iload_n 2, 1) := by decide +kernel
theorem dL_calm_5 : decode cL_calm 5 = .ok (.invokevirtual 107, 3) := by decide +kernel
theorem dL_calm_8 : decode cL_calm 8 = .ok (.i2l, 1) := by decide +kernel
theorem dL_calm_9 : decode cL_calm 9 = .ok (.lastore, 1) := by decide +kernel
theorem dL_calm_10 : decode cL_calm 10 = .ok (.goto 7, 3) := by decide +kernel
theorem dL_calm_13 : decode cL_calm 13 = .ok (.astore 4, 2) := by decide +kernel
theorem dL_calm_15 : decode cL_calm 15 = .ok (.iconst 1, 1) := by decide +kernel
theorem dL_calm_16 : decode cL_calm 16 = .ok (.ireturn, 1) := by decide +kernel
theorem dL_calm_17 : decode cL_calm 17 = .ok (.iconst 0, 1) := by decide +kernel
theorem dL_calm_18 : decode cL_calm 18 = .ok (.ireturn, 1) := by decide +kernel
theorem dL_family_0 : decode cL_family 0 = .ok (.aload_n 2, 1) := by decide +kernel
theorem dL_family_1 : decode cL_family 1 = .ok (.iconst 0, 1) := by decide +kernel
theorem dL_family_2 : decode cL_family 2 = .ok (.aload_n 0, 1) := by decide +kernel
theorem dL_family_3 : decode cL_family 3 = .ok (.iload_n 1, 1) := by decide +kernel
theorem dL_family_4 : decode cL_family 4 = .ok (.invokevirtual 110, 3) := by decide +kernel
theorem dL_family_7 : decode cL_family 7 = .ok (.i2l, 1) := by decide +kernel
theorem dL_family_8 : decode cL_family 8 = .ok (.lastore, 1) := by decide +kernel
theorem dL_family_9 : decode cL_family 9 = .ok (.goto 6, 3) := by decide +kernel
theorem dL_family_12 : decode cL_family 12 = .ok (.astore_n 3, 1) := by decide +kernel
theorem dL_family_13 : decode cL_family 13 = .ok (.iconst 1, 1) := by decide +kernel
theorem dL_family_14 : decode cL_family 14 = .ok (.ireturn, 1) := by decide +kernel
theorem dL_family_15 : decode cL_family 15 = .ok (.iconst 0, 1) := by decide +kernel
theorem dL_family_16 : decode cL_family 16 = .ok (.ireturn, 1) := by decide +kernel
theorem dL_starved_0 : decode cL_starved 0 = .ok (.aload_n 2, 1) := by decide +kernel
theorem dL_starved_1 : decode cL_starved 1 = .ok (.iconst 0, 1) := by decide +kernel
theorem dL_starved_2 : decode cL_starved 2 = .ok (.aload_n 0, 1) := by decide +kernel
theorem dL_starved_3 : decode cL_starved 3 = .ok (.iload_n 1, 1) := by decide +kernel
theorem dL_starved_4 : decode cL_starved 4 = .ok (.invokevirtual 113, 3) := by decide +kernel
theorem dL_starved_7 : decode cL_starved 7 = .ok (.i2l, 1) := by decide +kernel
theorem dL_starved_8 : decode cL_starved 8 = .ok (.lastore, 1) := by decide +kernel
theorem dL_starved_9 : decode cL_starved 9 = .ok (.goto 6, 3) := by decide +kernel
theorem dL_starved_12 : decode cL_starved 12 = .ok (.astore_n 3, 1) := by decide +kernel
theorem dL_starved_13 : decode cL_starved 13 = .ok (.iconst 1, 1) := by decide +kernel
theorem dL_starved_14 : decode cL_starved 14 = .ok (.ireturn, 1) := by decide +kernel
theorem dL_starved_15 : decode cL_starved 15 = .ok (.iconst 0, 1) := by decide +kernel
theorem dL_starved_16 : decode cL_starved 16 = .ok (.ireturn, 1) := by decide +kernel
theorem dL_slack_0 : decode cL_slack 0 = .ok (.aload_n 2, 1) := by decide +kernel
theorem dL_slack_1 : decode cL_slack 1 = .ok (.iconst 0, 1) := by decide +kernel
theorem dL_slack_2 : decode cL_slack 2 = .ok (.aload_n 0, 1) := by decide +kernel
theorem dL_slack_3 : decode cL_slack 3 = .ok (.iload_n 1, 1) := by decide +kernel
theorem dL_slack_4 : decode cL_slack 4 = .ok (.invokevirtual 116, 3) := by decide +kernel
theorem dL_slack_7 : decode cL_slack 7 = .ok (.i2l, 1) := by decide +kernel
theorem dL_slack_8 : decode cL_slack 8 = .ok (.lastore, 1) := by decide +kernel
theorem dL_slack_9 : decode cL_slack 9 = .ok (.goto 6, 3) := by decide +kernel
theorem dL_slack_12 : decode cL_slack 12 = .ok (.astore_n 3, 1) := by decide +kernel
theorem dL_slack_13 : decode cL_slack 13 = .ok (.iconst 1, 1) := by decide +kernel
theorem dL_slack_14 : decode cL_slack 14 = .ok (.ireturn, 1) := by decide +kernel
theorem dL_slack_15 : decode cL_slack 15 = .ok (.iconst 0, 1) := by decide +kernel
theorem dL_slack_16 : decode cL_slack 16 = .ok (.ireturn, 1) := by decide +kernel
theorem dL_firm_0 : decode cL_firm 0 = .ok (.aload 4, 2) := by decide +kernel
theorem dL_firm_2 : decode cL_firm 2 = .ok (.iconst 0, 1) := by decide +kernel
theorem dL_firm_3 : decode cL_firm 3 = .ok (.aload_n 0, 1) := by decide +kernel
theorem dL_firm_4 : decode cL_firm 4 = .ok (.iload_n 1, 1) := by decide +kernel
theorem dL_firm_5 : decode cL_firm 5 = .ok (.iload_n 2, 1) := by decide +kernel
theorem dL_firm_6 : decode cL_firm 6 = .ok (.iload_n 3, 1) := by decide +kernel
theorem dL_firm_7 : decode cL_firm 7 = .ok (.invokevirtual 119, 3) := by decide +kernel
theorem dL_firm_10 : decode cL_firm 10 = .ok (.i2l, 1) := by decide +kernel
theorem dL_firm_11 : decode cL_firm 11 = .ok (.lastore, 1) := by decide +kernel
theorem dL_firm_12 : decode cL_firm 12 = .ok (.goto 11, 3) := by decide +kernel
theorem dL_firm_15 : decode cL_firm 15 = .ok (.astore 5, 2) := by decide +kernel
theorem dL_firm_17 : decode cL_firm 17 = .ok (.iconst 1, 1) := by decide +kernel
theorem dL_firm_18 : decode cL_firm 18 = .ok (.ireturn, 1) := by decide +kernel
theorem dL_firm_19 : decode cL_firm 19 = .ok (.astore 5, 2) := by decide +kernel
theorem dL_firm_21 : decode cL_firm 21 = .ok (.iconst 2, 1) := by decide +kernel
theorem dL_firm_22 : decode cL_firm 22 = .ok (.ireturn, 1) := by decide +kernel
theorem dL_firm_23 : decode cL_firm 23 = .ok (.iconst 0, 1) := by decide +kernel
theorem dL_firm_24 : decode cL_firm 24 = .ok (.ireturn, 1) := by decide +kernel
theorem dL_twoDays_0 : decode cL_twoDays 0 = .ok (.aload_n 2, 1) := by decide +kernel
theorem dL_twoDays_1 : decode cL_twoDays 1 = .ok (.iconst 0, 1) := by decide +kernel
theorem dL_twoDays_2 : decode cL_twoDays 2 = .ok (.aload_n 0, 1) := by decide +kernel
theorem dL_twoDays_3 : decode cL_twoDays 3 = .ok (.iload_n 1, 1) := by decide +kernel
theorem dL_twoDays_4 : decode cL_twoDays 4 = .ok (.invokevirtual 122, 3) := by decide +kernel
theorem dL_twoDays_7 : decode cL_twoDays 7 = .ok (.i2l, 1) := by decide +kernel
theorem dL_twoDays_8 : decode cL_twoDays 8 = .ok (.lastore, 1) := by decide +kernel
theorem dL_twoDays_9 : decode cL_twoDays 9 = .ok (.goto 6, 3) := by decide +kernel
theorem dL_twoDays_12 : decode cL_twoDays 12 = .ok (.astore_n 3, 1) := by decide +kernel
theorem dL_twoDays_13 : decode cL_twoDays 13 = .ok (.iconst 1, 1) := by decide +kernel
theorem dL_twoDays_14 : decode cL_twoDays 14 = .ok (.ireturn, 1) := by decide +kernel
theorem dL_twoDays_15 : decode cL_twoDays 15 = .ok (.iconst 0, 1) := by decide +kernel
theorem dL_twoDays_16 : decode cL_twoDays 16 = .ok (.ireturn, 1) := by decide +kernel
theorem zc_X8_town : Cond.code yX8_town cX8_town 3 (some .int) ∈ zTb := (zTb_mem (zm_4 (List.mem_of_getElem? (i := 114) (by decide +kernel))) rfl)
theorem zi_X8_town : Cond.initialized yX8_town.cls ∈ zTb := (zTb_mem (zm_1 (List.mem_of_getElem? (i := 1) (by decide +kernel))) rfl)
theorem zx_X8_town : Cond.instanceMethod yX8_town ∈ zTb := (zTb_mem (zm_4 (List.mem_of_getElem? (i := 112) (by decide +kernel))) rfl)
theorem zv_X8_town : Cond.selects yX8_town.cls yX8_town yX8_town ∈ zTb := (zTb_mem (zm_4 (List.mem_of_getElem? (i := 113) (by decide +kernel))) rfl)
theorem zd_X8_town : yX8_town.cls ≠ "java/lang/invoke/MethodHandle" ∧ yX8_town.cls ≠ "java/lang/invoke/VarHandle" ∧ (parseMethodDescriptor yX8_town.desc).map (fun d => d.parameters.length) = some 1 := by decide +kernel
theorem klL_7 : Cond.methodLink RL 7 yX8_town ∈ zTb := (zTb_mem (zm_4 (List.mem_of_getElem? (i := 111) (by decide +kernel))) rfl)
theorem kvL_7 : zCv RL 7 yX8_town cX8_town 3 (some .int) 1 8 := ⟨⟨zc_X8_town, zi_X8_town, by decide, zd_X8_town, (Or.inl klL_7)⟩, zx_X8_town, zv_X8_town, rfl⟩
theorem zc_X8_told : Cond.code yX8_told cX8_told 2 (some .int) ∈ zTb := (zTb_mem (zm_5 (List.mem_of_getElem? (i := 18) (by decide +kernel))) rfl)
theorem zi_X8_told : Cond.initialized yX8_told.cls ∈ zTb := (zTb_mem (zm_1 (List.mem_of_getElem? (i := 1) (by decide +kernel))) rfl)
theorem zx_X8_told : Cond.instanceMethod yX8_told ∈ zTb := (zTb_mem (zm_5 (List.mem_of_getElem? (i := 16) (by decide +kernel))) rfl)
theorem zv_X8_told : Cond.selects yX8_told.cls yX8_told yX8_told ∈ zTb := (zTb_mem (zm_5 (List.mem_of_getElem? (i := 17) (by decide +kernel))) rfl)
theorem zd_X8_told : yX8_told.cls ≠ "java/lang/invoke/MethodHandle" ∧ yX8_told.cls ≠ "java/lang/invoke/VarHandle" ∧ (parseMethodDescriptor yX8_told.desc).map (fun d => d.parameters.length) = some 1 := by decide +kernel
theorem klL_15 : Cond.methodLink RL 15 yX8_told ∈ zTb := (zTb_mem (zm_5 (List.mem_of_getElem? (i := 15) (by decide +kernel))) rfl)
theorem kvL_15 : zCv RL 15 yX8_told cX8_told 2 (some .int) 1 8 := ⟨⟨zc_X8_told, zi_X8_told, by decide, zd_X8_told, (Or.inl klL_15)⟩, zx_X8_told, zv_X8_told, rfl⟩
theorem zc_X8_thinks : Cond.code yX8_thinks cX8_thinks 3 (some .int) ∈ zTb := (zTb_mem (zm_5 (List.mem_of_getElem? (i := 32) (by decide +kernel))) rfl)
theorem zi_X8_thinks : Cond.initialized yX8_thinks.cls ∈ zTb := (zTb_mem (zm_1 (List.mem_of_getElem? (i := 1) (by decide +kernel))) rfl)
theorem zx_X8_thinks : Cond.instanceMethod yX8_thinks ∈ zTb := (zTb_mem (zm_5 (List.mem_of_getElem? (i := 30) (by decide +kernel))) rfl)
theorem zv_X8_thinks : Cond.selects yX8_thinks.cls yX8_thinks yX8_thinks ∈ zTb := (zTb_mem (zm_5 (List.mem_of_getElem? (i := 31) (by decide +kernel))) rfl)
theorem zd_X8_thinks : yX8_thinks.cls ≠ "java/lang/invoke/MethodHandle" ∧ yX8_thinks.cls ≠ "java/lang/invoke/VarHandle" ∧ (parseMethodDescriptor yX8_thinks.desc).map (fun d => d.parameters.length) = some 2 := by decide +kernel
theorem klL_18 : Cond.methodLink RL 18 yX8_thinks ∈ zTb := (zTb_mem (zm_5 (List.mem_of_getElem? (i := 29) (by decide +kernel))) rfl)
theorem kvL_18 : zCv RL 18 yX8_thinks cX8_thinks 3 (some .int) 2 8 := ⟨⟨zc_X8_thinks, zi_X8_thinks, by decide, zd_X8_thinks, (Or.inl klL_18)⟩, zx_X8_thinks, zv_X8_thinks, rfl⟩
theorem zc_X8_person : Cond.code yX8_person cX8_person 3 (some .int) ∈ zTb := (zTb_mem (zm_5 (List.mem_of_getElem? (i := 72) (by decide +kernel))) rfl)
theorem zi_X8_person : Cond.initialized yX8_person.cls ∈ zTb := (zTb_mem (zm_1 (List.mem_of_getElem? (i := 1) (by decide +kernel))) rfl)
theorem zx_X8_person : Cond.instanceMethod yX8_person ∈ zTb := (zTb_mem (zm_5 (List.mem_of_getElem? (i := 70) (by decide +kernel))) rfl)
theorem zv_X8_person : Cond.selects yX8_person.cls yX8_person yX8_person ∈ zTb := (zTb_mem (zm_5 (List.mem_of_getElem? (i := 71) (by decide +kernel))) rfl)
theorem zd_X8_person : yX8_person.cls ≠ "java/lang/invoke/MethodHandle" ∧ yX8_person.cls ≠ "java/lang/invoke/VarHandle" ∧ (parseMethodDescriptor yX8_person.desc).map (fun d => d.parameters.length) = some 2 := by decide +kernel
theorem klL_24 : Cond.methodLink RL 24 yX8_person ∈ zTb := (zTb_mem (zm_5 (List.mem_of_getElem? (i := 69) (by decide +kernel))) rfl)
theorem kvL_24 : zCv RL 24 yX8_person cX8_person 3 (some .int) 2 8 := ⟨⟨zc_X8_person, zi_X8_person, by decide, zd_X8_person, (Or.inl klL_24)⟩, zx_X8_person, zv_X8_person, rfl⟩
theorem zc_X8_door : Cond.code yX8_door cX8_door 3 (some .int) ∈ zTb := (zTb_mem (zm_5 (List.mem_of_getElem? (i := 80) (by decide +kernel))) rfl)
theorem zi_X8_door : Cond.initialized yX8_door.cls ∈ zTb := (zTb_mem (zm_1 (List.mem_of_getElem? (i := 1) (by decide +kernel))) rfl)
theorem zx_X8_door : Cond.instanceMethod yX8_door ∈ zTb := (zTb_mem (zm_5 (List.mem_of_getElem? (i := 78) (by decide +kernel))) rfl)
theorem zv_X8_door : Cond.selects yX8_door.cls yX8_door yX8_door ∈ zTb := (zTb_mem (zm_5 (List.mem_of_getElem? (i := 79) (by decide +kernel))) rfl)
theorem zd_X8_door : yX8_door.cls ≠ "java/lang/invoke/MethodHandle" ∧ yX8_door.cls ≠ "java/lang/invoke/VarHandle" ∧ (parseMethodDescriptor yX8_door.desc).map (fun d => d.parameters.length) = some 2 := by decide +kernel
theorem klL_27 : Cond.methodLink RL 27 yX8_door ∈ zTb := (zTb_mem (zm_5 (List.mem_of_getElem? (i := 77) (by decide +kernel))) rfl)
theorem kvL_27 : zCv RL 27 yX8_door cX8_door 3 (some .int) 2 8 := ⟨⟨zc_X8_door, zi_X8_door, by decide, zd_X8_door, (Or.inl klL_27)⟩, zx_X8_door, zv_X8_door, rfl⟩
theorem zc_X8_slate : Cond.code yX8_slate cX8_slate 2 (some .int) ∈ zTb := (zTb_mem (zm_5 (List.mem_of_getElem? (i := 105) (by decide +kernel))) rfl)
theorem zi_X8_slate : Cond.initialized yX8_slate.cls ∈ zTb := (zTb_mem (zm_1 (List.mem_of_getElem? (i := 1) (by decide +kernel))) rfl)
theorem zx_X8_slate : Cond.instanceMethod yX8_slate ∈ zTb := (zTb_mem (zm_5 (List.mem_of_getElem? (i := 103) (by decide +kernel))) rfl)
theorem zv_X8_slate : Cond.selects yX8_slate.cls yX8_slate yX8_slate ∈ zTb := (zTb_mem (zm_5 (List.mem_of_getElem? (i := 104) (by decide +kernel))) rfl)
theorem zd_X8_slate : yX8_slate.cls ≠ "java/lang/invoke/MethodHandle" ∧ yX8_slate.cls ≠ "java/lang/invoke/VarHandle" ∧ (parseMethodDescriptor yX8_slate.desc).map (fun d => d.parameters.length) = some 1 := by decide +kernel
theorem klL_32 : Cond.methodLink RL 32 yX8_slate ∈ zTb := (zTb_mem (zm_5 (List.mem_of_getElem? (i := 102) (by decide +kernel))) rfl)
theorem kvL_32 : zCv RL 32 yX8_slate cX8_slate 2 (some .int) 1 8 := ⟨⟨zc_X8_slate, zi_X8_slate, by decide, zd_X8_slate, (Or.inl klL_32)⟩, zx_X8_slate, zv_X8_slate, rfl⟩
theorem zc_X8_work : Cond.code yX8_work cX8_work 5 (some .int) ∈ zTb := (zTb_mem (zm_5 (List.mem_of_getElem? (i := 118) (by decide +kernel))) rfl)
theorem zi_X8_work : Cond.initialized yX8_work.cls ∈ zTb := (zTb_mem (zm_1 (List.mem_of_getElem? (i := 1) (by decide +kernel))) rfl)
theorem zx_X8_work : Cond.instanceMethod yX8_work ∈ zTb := (zTb_mem (zm_5 (List.mem_of_getElem? (i := 116) (by decide +kernel))) rfl)
theorem zv_X8_work : Cond.selects yX8_work.cls yX8_work yX8_work ∈ zTb := (zTb_mem (zm_5 (List.mem_of_getElem? (i := 117) (by decide +kernel))) rfl)
theorem zd_X8_work : yX8_work.cls ≠ "java/lang/invoke/MethodHandle" ∧ yX8_work.cls ≠ "java/lang/invoke/VarHandle" ∧ (parseMethodDescriptor yX8_work.desc).map (fun d => d.parameters.length) = some 3 := by decide +kernel
theorem klL_35 : Cond.methodLink RL 35 yX8_work ∈ zTb := (zTb_mem (zm_5 (List.mem_of_getElem? (i := 115) (by decide +kernel))) rfl)
theorem kvL_35 : zCv RL 35 yX8_work cX8_work 5 (some .int) 3 8 := ⟨⟨zc_X8_work, zi_X8_work, by decide, zd_X8_work, (Or.inl klL_35)⟩, zx_X8_work, zv_X8_work, rfl⟩
theorem zc_X8_may : Cond.code yX8_may cX8_may 4 (some .int) ∈ zTb := (zTb_mem (zm_5 (List.mem_of_getElem? (i := 142) (by decide +kernel))) rfl)
theorem zi_X8_may : Cond.initialized yX8_may.cls ∈ zTb := (zTb_mem (zm_1 (List.mem_of_getElem? (i := 1) (by decide +kernel))) rfl)
theorem zx_X8_may : Cond.instanceMethod yX8_may ∈ zTb := (zTb_mem (zm_5 (List.mem_of_getElem? (i := 140) (by decide +kernel))) rfl)
theorem zv_X8_may : Cond.selects yX8_may.cls yX8_may yX8_may ∈ zTb := (zTb_mem (zm_5 (List.mem_of_getElem? (i := 141) (by decide +kernel))) rfl)
theorem zd_X8_may : yX8_may.cls ≠ "java/lang/invoke/MethodHandle" ∧ yX8_may.cls ≠ "java/lang/invoke/VarHandle" ∧ (parseMethodDescriptor yX8_may.desc).map (fun d => d.parameters.length) = some 3 := by decide +kernel
theorem klL_39 : Cond.methodLink RL 39 yX8_may ∈ zTb := (zTb_mem (zm_5 (List.mem_of_getElem? (i := 139) (by decide +kernel))) rfl)
theorem kvL_39 : zCv RL 39 yX8_may cX8_may 4 (some .int) 3 8 := ⟨⟨zc_X8_may, zi_X8_may, by decide, zd_X8_may, (Or.inl klL_39)⟩, zx_X8_may, zv_X8_may, rfl⟩
theorem zc_X8_next : Cond.code yX8_next cX8_next 1 (some .int) ∈ zTb := (zTb_mem (zm_5 (List.mem_of_getElem? (i := 150) (by decide +kernel))) rfl)
theorem zi_X8_next : Cond.initialized yX8_next.cls ∈ zTb := (zTb_mem (zm_1 (List.mem_of_getElem? (i := 1) (by decide +kernel))) rfl)
theorem zx_X8_next : Cond.instanceMethod yX8_next ∈ zTb := (zTb_mem (zm_5 (List.mem_of_getElem? (i := 148) (by decide +kernel))) rfl)
theorem zv_X8_next : Cond.selects yX8_next.cls yX8_next yX8_next ∈ zTb := (zTb_mem (zm_5 (List.mem_of_getElem? (i := 149) (by decide +kernel))) rfl)
theorem zd_X8_next : yX8_next.cls ≠ "java/lang/invoke/MethodHandle" ∧ yX8_next.cls ≠ "java/lang/invoke/VarHandle" ∧ (parseMethodDescriptor yX8_next.desc).map (fun d => d.parameters.length) = some 0 := by decide +kernel
theorem klL_42 : Cond.methodLink RL 42 yX8_next ∈ zTb := (zTb_mem (zm_5 (List.mem_of_getElem? (i := 147) (by decide +kernel))) rfl)
theorem kvL_42 : zCv RL 42 yX8_next cX8_next 1 (some .int) 0 8 := ⟨⟨zc_X8_next, zi_X8_next, by decide, zd_X8_next, (Or.inl klL_42)⟩, zx_X8_next, zv_X8_next, rfl⟩
theorem zc_X8_talk : Cond.code yX8_talk cX8_talk 4 (some .int) ∈ zTb := (zTb_mem (zm_5 (List.mem_of_getElem? (i := 174) (by decide +kernel))) rfl)
theorem zi_X8_talk : Cond.initialized yX8_talk.cls ∈ zTb := (zTb_mem (zm_1 (List.mem_of_getElem? (i := 1) (by decide +kernel))) rfl)
theorem zx_X8_talk : Cond.instanceMethod yX8_talk ∈ zTb := (zTb_mem (zm_5 (List.mem_of_getElem? (i := 172) (by decide +kernel))) rfl)
theorem zv_X8_talk : Cond.selects yX8_talk.cls yX8_talk yX8_talk ∈ zTb := (zTb_mem (zm_5 (List.mem_of_getElem? (i := 173) (by decide +kernel))) rfl)
theorem zd_X8_talk : yX8_talk.cls ≠ "java/lang/invoke/MethodHandle" ∧ yX8_talk.cls ≠ "java/lang/invoke/VarHandle" ∧ (parseMethodDescriptor yX8_talk.desc).map (fun d => d.parameters.length) = some 3 := by decide +kernel
theorem klL_48 : Cond.methodLink RL 48 yX8_talk ∈ zTb := (zTb_mem (zm_5 (List.mem_of_getElem? (i := 171) (by decide +kernel))) rfl)
theorem kvL_48 : zCv RL 48 yX8_talk cX8_talk 4 (some .int) 3 8 := ⟨⟨zc_X8_talk, zi_X8_talk, by decide, zd_X8_talk, (Or.inl klL_48)⟩, zx_X8_talk, zv_X8_talk, rfl⟩
theorem zc_X8_earned : Cond.code yX8_earned cX8_earned 5 (some .int) ∈ zTb := (zTb_mem (zm_5 (List.mem_of_getElem? (i := 193) (by decide +kernel))) rfl)
theorem zi_X8_earned : Cond.initialized yX8_earned.cls ∈ zTb := (zTb_mem (zm_1 (List.mem_of_getElem? (i := 1) (by decide +kernel))) rfl)
theorem zx_X8_earned : Cond.instanceMethod yX8_earned ∈ zTb := (zTb_mem (zm_5 (List.mem_of_getElem? (i := 191) (by decide +kernel))) rfl)
theorem zv_X8_earned : Cond.selects yX8_earned.cls yX8_earned yX8_earned ∈ zTb := (zTb_mem (zm_5 (List.mem_of_getElem? (i := 192) (by decide +kernel))) rfl)
theorem zd_X8_earned : yX8_earned.cls ≠ "java/lang/invoke/MethodHandle" ∧ yX8_earned.cls ≠ "java/lang/invoke/VarHandle" ∧ (parseMethodDescriptor yX8_earned.desc).map (fun d => d.parameters.length) = some 1 := by decide +kernel
theorem klL_51 : Cond.methodLink RL 51 yX8_earned ∈ zTb := (zTb_mem (zm_5 (List.mem_of_getElem? (i := 190) (by decide +kernel))) rfl)
theorem kvL_51 : zCv RL 51 yX8_earned cX8_earned 5 (some .int) 1 8 := ⟨⟨zc_X8_earned, zi_X8_earned, by decide, zd_X8_earned, (Or.inl klL_51)⟩, zx_X8_earned, zv_X8_earned, rfl⟩
theorem zc_X8_row : Cond.code yX8_row cX8_row 5 (some .int) ∈ zTb := (zTb_mem (zm_5 (List.mem_of_getElem? (i := 205) (by decide +kernel))) rfl)
theorem zi_X8_row : Cond.initialized yX8_row.cls ∈ zTb := (zTb_mem (zm_1 (List.mem_of_getElem? (i := 1) (by decide +kernel))) rfl)
theorem zx_X8_row : Cond.instanceMethod yX8_row ∈ zTb := (zTb_mem (zm_5 (List.mem_of_getElem? (i := 203) (by decide +kernel))) rfl)
theorem zv_X8_row : Cond.selects yX8_row.cls yX8_row yX8_row ∈ zTb := (zTb_mem (zm_5 (List.mem_of_getElem? (i := 204) (by decide +kernel))) rfl)
theorem zd_X8_row : yX8_row.cls ≠ "java/lang/invoke/MethodHandle" ∧ yX8_row.cls ≠ "java/lang/invoke/VarHandle" ∧ (parseMethodDescriptor yX8_row.desc).map (fun d => d.parameters.length) = some 4 := by decide +kernel
theorem klL_54 : Cond.methodLink RL 54 yX8_row ∈ zTb := (zTb_mem (zm_5 (List.mem_of_getElem? (i := 202) (by decide +kernel))) rfl)
theorem kvL_54 : zCv RL 54 yX8_row cX8_row 5 (some .int) 4 8 := ⟨⟨zc_X8_row, zi_X8_row, by decide, zd_X8_row, (Or.inl klL_54)⟩, zx_X8_row, zv_X8_row, rfl⟩
theorem zc_X8_judge : Cond.code yX8_judge cX8_judge 6 (some .int) ∈ zTb := (zTb_mem (zm_5 (List.mem_of_getElem? (i := 215) (by decide +kernel))) rfl)
theorem zi_X8_judge : Cond.initialized yX8_judge.cls ∈ zTb := (zTb_mem (zm_1 (List.mem_of_getElem? (i := 1) (by decide +kernel))) rfl)
theorem zx_X8_judge : Cond.instanceMethod yX8_judge ∈ zTb := (zTb_mem (zm_5 (List.mem_of_getElem? (i := 213) (by decide +kernel))) rfl)
theorem zv_X8_judge : Cond.selects yX8_judge.cls yX8_judge yX8_judge ∈ zTb := (zTb_mem (zm_5 (List.mem_of_getElem? (i := 214) (by decide +kernel))) rfl)
theorem zd_X8_judge : yX8_judge.cls ≠ "java/lang/invoke/MethodHandle" ∧ yX8_judge.cls ≠ "java/lang/invoke/VarHandle" ∧ (parseMethodDescriptor yX8_judge.desc).map (fun d => d.parameters.length) = some 1 := by decide +kernel
theorem klL_58 : Cond.methodLink RL 58 yX8_judge ∈ zTb := (zTb_mem (zm_5 (List.mem_of_getElem? (i := 212) (by decide +kernel))) rfl)
theorem kvL_58 : zCv RL 58 yX8_judge cX8_judge 6 (some .int) 1 8 := ⟨⟨zc_X8_judge, zi_X8_judge, by decide, zd_X8_judge, (Or.inl klL_58)⟩, zx_X8_judge, zv_X8_judge, rfl⟩
theorem zc_X8_today : Cond.code yX8_today cX8_today 3 (some .int) ∈ zTb := (zTb_mem (zm_5 (List.mem_of_getElem? (i := 229) (by decide +kernel))) rfl)
theorem zi_X8_today : Cond.initialized yX8_today.cls ∈ zTb := (zTb_mem (zm_1 (List.mem_of_getElem? (i := 1) (by decide +kernel))) rfl)
theorem zx_X8_today : Cond.instanceMethod yX8_today ∈ zTb := (zTb_mem (zm_5 (List.mem_of_getElem? (i := 227) (by decide +kernel))) rfl)
theorem zv_X8_today : Cond.selects yX8_today.cls yX8_today yX8_today ∈ zTb := (zTb_mem (zm_5 (List.mem_of_getElem? (i := 228) (by decide +kernel))) rfl)
theorem zd_X8_today : yX8_today.cls ≠ "java/lang/invoke/MethodHandle" ∧ yX8_today.cls ≠ "java/lang/invoke/VarHandle" ∧ (parseMethodDescriptor yX8_today.desc).map (fun d => d.parameters.length) = some 2 := by decide +kernel
theorem klL_61 : Cond.methodLink RL 61 yX8_today ∈ zTb := (zTb_mem (zm_5 (List.mem_of_getElem? (i := 226) (by decide +kernel))) rfl)
theorem kvL_61 : zCv RL 61 yX8_today cX8_today 3 (some .int) 2 8 := ⟨⟨zc_X8_today, zi_X8_today, by decide, zd_X8_today, (Or.inl klL_61)⟩, zx_X8_today, zv_X8_today, rfl⟩
theorem zc_X8_pair : Cond.code yX8_pair cX8_pair 3 (some .int) ∈ zTb := (zTb_mem (zm_6 (List.mem_of_getElem? (i := 5) (by decide +kernel))) rfl)
theorem zi_X8_pair : Cond.initialized yX8_pair.cls ∈ zTb := (zTb_mem (zm_1 (List.mem_of_getElem? (i := 1) (by decide +kernel))) rfl)
theorem zx_X8_pair : Cond.instanceMethod yX8_pair ∈ zTb := (zTb_mem (zm_6 (List.mem_of_getElem? (i := 3) (by decide +kernel))) rfl)
theorem zv_X8_pair : Cond.selects yX8_pair.cls yX8_pair yX8_pair ∈ zTb := (zTb_mem (zm_6 (List.mem_of_getElem? (i := 4) (by decide +kernel))) rfl)
theorem zd_X8_pair : yX8_pair.cls ≠ "java/lang/invoke/MethodHandle" ∧ yX8_pair.cls ≠ "java/lang/invoke/VarHandle" ∧ (parseMethodDescriptor yX8_pair.desc).map (fun d => d.parameters.length) = some 2 := by decide +kernel
theorem klL_64 : Cond.methodLink RL 64 yX8_pair ∈ zTb := (zTb_mem (zm_6 (List.mem_of_getElem? (i := 2) (by decide +kernel))) rfl)
theorem kvL_64 : zCv RL 64 yX8_pair cX8_pair 3 (some .int) 2 8 := ⟨⟨zc_X8_pair, zi_X8_pair, by decide, zd_X8_pair, (Or.inl klL_64)⟩, zx_X8_pair, zv_X8_pair, rfl⟩
theorem zc_X8_bound : Cond.code yX8_bound cX8_bound 2 (some .int) ∈ zTb := (zTb_mem (zm_6 (List.mem_of_getElem? (i := 27) (by decide +kernel))) rfl)
theorem zi_X8_bound : Cond.initialized yX8_bound.cls ∈ zTb := (zTb_mem (zm_1 (List.mem_of_getElem? (i := 1) (by decide +kernel))) rfl)
theorem zx_X8_bound : Cond.instanceMethod yX8_bound ∈ zTb := (zTb_mem (zm_6 (List.mem_of_getElem? (i := 25) (by decide +kernel))) rfl)
theorem zv_X8_bound : Cond.selects yX8_bound.cls yX8_bound yX8_bound ∈ zTb := (zTb_mem (zm_6 (List.mem_of_getElem? (i := 26) (by decide +kernel))) rfl)
theorem zd_X8_bound : yX8_bound.cls ≠ "java/lang/invoke/MethodHandle" ∧ yX8_bound.cls ≠ "java/lang/invoke/VarHandle" ∧ (parseMethodDescriptor yX8_bound.desc).map (fun d => d.parameters.length) = some 1 := by decide +kernel
theorem klL_67 : Cond.methodLink RL 67 yX8_bound ∈ zTb := (zTb_mem (zm_6 (List.mem_of_getElem? (i := 24) (by decide +kernel))) rfl)
theorem kvL_67 : zCv RL 67 yX8_bound cX8_bound 2 (some .int) 1 8 := ⟨⟨zc_X8_bound, zi_X8_bound, by decide, zd_X8_bound, (Or.inl klL_67)⟩, zx_X8_bound, zv_X8_bound, rfl⟩
theorem zc_X8_need : Cond.code yX8_need cX8_need 4 (some .int) ∈ zTb := (zTb_mem (zm_6 (List.mem_of_getElem? (i := 38) (by decide +kernel))) rfl)
theorem zi_X8_need : Cond.initialized yX8_need.cls ∈ zTb := (zTb_mem (zm_1 (List.mem_of_getElem? (i := 1) (by decide +kernel))) rfl)
theorem zx_X8_need : Cond.instanceMethod yX8_need ∈ zTb := (zTb_mem (zm_6 (List.mem_of_getElem? (i := 36) (by decide +kernel))) rfl)
theorem zv_X8_need : Cond.selects yX8_need.cls yX8_need yX8_need ∈ zTb := (zTb_mem (zm_6 (List.mem_of_getElem? (i := 37) (by decide +kernel))) rfl)
theorem zd_X8_need : yX8_need.cls ≠ "java/lang/invoke/MethodHandle" ∧ yX8_need.cls ≠ "java/lang/invoke/VarHandle" ∧ (parseMethodDescriptor yX8_need.desc).map (fun d => d.parameters.length) = some 2 := by decide +kernel
theorem klL_70 : Cond.methodLink RL 70 yX8_need ∈ zTb := (zTb_mem (zm_6 (List.mem_of_getElem? (i := 35) (by decide +kernel))) rfl)
theorem kvL_70 : zCv RL 70 yX8_need cX8_need 4 (some .int) 2 8 := ⟨⟨zc_X8_need, zi_X8_need, by decide, zd_X8_need, (Or.inl klL_70)⟩, zx_X8_need, zv_X8_need, rfl⟩
theorem zc_X8_stranger : Cond.code yX8_stranger cX8_stranger 5 (some .int) ∈ zTb := (zTb_mem (zm_6 (List.mem_of_getElem? (i := 50) (by decide +kernel))) rfl)
theorem zi_X8_stranger : Cond.initialized yX8_stranger.cls ∈ zTb := (zTb_mem (zm_1 (List.mem_of_getElem? (i := 1) (by decide +kernel))) rfl)
theorem zx_X8_stranger : Cond.instanceMethod yX8_stranger ∈ zTb := (zTb_mem (zm_6 (List.mem_of_getElem? (i := 48) (by decide +kernel))) rfl)
theorem zv_X8_stranger : Cond.selects yX8_stranger.cls yX8_stranger yX8_stranger ∈ zTb := (zTb_mem (zm_6 (List.mem_of_getElem? (i := 49) (by decide +kernel))) rfl)
theorem zd_X8_stranger : yX8_stranger.cls ≠ "java/lang/invoke/MethodHandle" ∧ yX8_stranger.cls ≠ "java/lang/invoke/VarHandle" ∧ (parseMethodDescriptor yX8_stranger.desc).map (fun d => d.parameters.length) = some 3 := by decide +kernel
theorem klL_73 : Cond.methodLink RL 73 yX8_stranger ∈ zTb := (zTb_mem (zm_6 (List.mem_of_getElem? (i := 47) (by decide +kernel))) rfl)
theorem kvL_73 : zCv RL 73 yX8_stranger cX8_stranger 5 (some .int) 3 8 := ⟨⟨zc_X8_stranger, zi_X8_stranger, by decide, zd_X8_stranger, (Or.inl klL_73)⟩, zx_X8_stranger, zv_X8_stranger, rfl⟩
theorem zc_X8_night : Cond.code yX8_night cX8_night 9 (some .int) ∈ zTb := (zTb_mem (zm_6 (List.mem_of_getElem? (i := 66) (by decide +kernel))) rfl)
theorem zi_X8_night : Cond.initialized yX8_night.cls ∈ zTb := (zTb_mem (zm_1 (List.mem_of_getElem? (i := 1) (by decide +kernel))) rfl)
theorem zx_X8_night : Cond.instanceMethod yX8_night ∈ zTb := (zTb_mem (zm_6 (List.mem_of_getElem? (i := 64) (by decide +kernel))) rfl)
theorem zv_X8_night : Cond.selects yX8_night.cls yX8_night yX8_night ∈ zTb := (zTb_mem (zm_6 (List.mem_of_getElem? (i := 65) (by decide +kernel))) rfl)
theorem zd_X8_night : yX8_night.cls ≠ "java/lang/invoke/MethodHandle" ∧ yX8_night.cls ≠ "java/lang/invoke/VarHandle" ∧ (parseMethodDescriptor yX8_night.desc).map (fun d => d.parameters.length) = some 1 := by decide +kernel
theorem klL_76 : Cond.methodLink RL 76 yX8_night ∈ zTb := (zTb_mem (zm_6 (List.mem_of_getElem? (i := 63) (by decide +kernel))) rfl)
theorem kvL_76 : zCv RL 76 yX8_night cX8_night 9 (some .int) 1 8 := ⟨⟨zc_X8_night, zi_X8_night, by decide, zd_X8_night, (Or.inl klL_76)⟩, zx_X8_night, zv_X8_night, rfl⟩
theorem zc_X8_best : Cond.code yX8_best cX8_best 2 (some .int) ∈ zTb := (zTb_mem (zm_6 (List.mem_of_getElem? (i := 83) (by decide +kernel))) rfl)
theorem zi_X8_best : Cond.initialized yX8_best.cls ∈ zTb := (zTb_mem (zm_1 (List.mem_of_getElem? (i := 1) (by decide +kernel))) rfl)
theorem zx_X8_best : Cond.instanceMethod yX8_best ∈ zTb := (zTb_mem (zm_6 (List.mem_of_getElem? (i := 81) (by decide +kernel))) rfl)
theorem zv_X8_best : Cond.selects yX8_best.cls yX8_best yX8_best ∈ zTb := (zTb_mem (zm_6 (List.mem_of_getElem? (i := 82) (by decide +kernel))) rfl)
theorem zd_X8_best : yX8_best.cls ≠ "java/lang/invoke/MethodHandle" ∧ yX8_best.cls ≠ "java/lang/invoke/VarHandle" ∧ (parseMethodDescriptor yX8_best.desc).map (fun d => d.parameters.length) = some 1 := by decide +kernel
theorem klL_79 : Cond.methodLink RL 79 yX8_best ∈ zTb := (zTb_mem (zm_6 (List.mem_of_getElem? (i := 80) (by decide +kernel))) rfl)
theorem kvL_79 : zCv RL 79 yX8_best cX8_best 2 (some .int) 1 8 := ⟨⟨zc_X8_best, zi_X8_best, by decide, zd_X8_best, (Or.inl klL_79)⟩, zx_X8_best, zv_X8_best, rfl⟩
theorem zc_X8_run : Cond.code yX8_run cX8_run 4 (some .int) ∈ zTb := (zTb_mem (zm_6 (List.mem_of_getElem? (i := 129) (by decide +kernel))) rfl)
theorem zi_X8_run : Cond.initialized yX8_run.cls ∈ zTb := (zTb_mem (zm_1 (List.mem_of_getElem? (i := 1) (by decide +kernel))) rfl)
theorem zx_X8_run : Cond.instanceMethod yX8_run ∈ zTb := (zTb_mem (zm_6 (List.mem_of_getElem? (i := 127) (by decide +kernel))) rfl)
theorem zv_X8_run : Cond.selects yX8_run.cls yX8_run yX8_run ∈ zTb := (zTb_mem (zm_6 (List.mem_of_getElem? (i := 128) (by decide +kernel))) rfl)
theorem zd_X8_run : yX8_run.cls ≠ "java/lang/invoke/MethodHandle" ∧ yX8_run.cls ≠ "java/lang/invoke/VarHandle" ∧ (parseMethodDescriptor yX8_run.desc).map (fun d => d.parameters.length) = some 3 := by decide +kernel
theorem klL_82 : Cond.methodLink RL 82 yX8_run ∈ zTb := (zTb_mem (zm_6 (List.mem_of_getElem? (i := 126) (by decide +kernel))) rfl)
theorem kvL_82 : zCv RL 82 yX8_run cX8_run 4 (some .int) 3 8 := ⟨⟨zc_X8_run, zi_X8_run, by decide, zd_X8_run, (Or.inl klL_82)⟩, zx_X8_run, zv_X8_run, rfl⟩
theorem zc_X8_lot : Cond.code yX8_lot cX8_lot 5 (some .int) ∈ zTb := (zTb_mem (zm_6 (List.mem_of_getElem? (i := 192) (by decide +kernel))) rfl)
theorem zi_X8_lot : Cond.initialized yX8_lot.cls ∈ zTb := (zTb_mem (zm_1 (List.mem_of_getElem? (i := 1) (by decide +kernel))) rfl)
theorem zx_X8_lot : Cond.instanceMethod yX8_lot ∈ zTb := (zTb_mem (zm_6 (List.mem_of_getElem? (i := 190) (by decide +kernel))) rfl)
theorem zv_X8_lot : Cond.selects yX8_lot.cls yX8_lot yX8_lot ∈ zTb := (zTb_mem (zm_6 (List.mem_of_getElem? (i := 191) (by decide +kernel))) rfl)
theorem zd_X8_lot : yX8_lot.cls ≠ "java/lang/invoke/MethodHandle" ∧ yX8_lot.cls ≠ "java/lang/invoke/VarHandle" ∧ (parseMethodDescriptor yX8_lot.desc).map (fun d => d.parameters.length) = some 4 := by decide +kernel
theorem klL_85 : Cond.methodLink RL 85 yX8_lot ∈ zTb := (zTb_mem (zm_6 (List.mem_of_getElem? (i := 189) (by decide +kernel))) rfl)
theorem kvL_85 : zCv RL 85 yX8_lot cX8_lot 5 (some .int) 4 8 := ⟨⟨zc_X8_lot, zi_X8_lot, by decide, zd_X8_lot, (Or.inl klL_85)⟩, zx_X8_lot, zv_X8_lot, rfl⟩
theorem zc_X8_rule : Cond.code yX8_rule cX8_rule 6 (some .int) ∈ zTb := (zTb_mem (zm_6 (List.mem_of_getElem? (i := 199) (by decide +kernel))) rfl)
theorem zi_X8_rule : Cond.initialized yX8_rule.cls ∈ zTb := (zTb_mem (zm_1 (List.mem_of_getElem? (i := 1) (by decide +kernel))) rfl)
theorem zx_X8_rule : Cond.instanceMethod yX8_rule ∈ zTb := (zTb_mem (zm_6 (List.mem_of_getElem? (i := 197) (by decide +kernel))) rfl)
theorem zv_X8_rule : Cond.selects yX8_rule.cls yX8_rule yX8_rule ∈ zTb := (zTb_mem (zm_6 (List.mem_of_getElem? (i := 198) (by decide +kernel))) rfl)
theorem zd_X8_rule : yX8_rule.cls ≠ "java/lang/invoke/MethodHandle" ∧ yX8_rule.cls ≠ "java/lang/invoke/VarHandle" ∧ (parseMethodDescriptor yX8_rule.desc).map (fun d => d.parameters.length) = some 1 := by decide +kernel
theorem klL_88 : Cond.methodLink RL 88 yX8_rule ∈ zTb := (zTb_mem (zm_6 (List.mem_of_getElem? (i := 196) (by decide +kernel))) rfl)
theorem kvL_88 : zCv RL 88 yX8_rule cX8_rule 6 (some .int) 1 8 := ⟨⟨zc_X8_rule, zi_X8_rule, by decide, zd_X8_rule, (Or.inl klL_88)⟩, zx_X8_rule, zv_X8_rule, rfl⟩
theorem zc_X8_few : Cond.code yX8_few cX8_few 5 (some .int) ∈ zTb := (zTb_mem (zm_6 (List.mem_of_getElem? (i := 210) (by decide +kernel))) rfl)
theorem zi_X8_few : Cond.initialized yX8_few.cls ∈ zTb := (zTb_mem (zm_1 (List.mem_of_getElem? (i := 1) (by decide +kernel))) rfl)
theorem zx_X8_few : Cond.instanceMethod yX8_few ∈ zTb := (zTb_mem (zm_6 (List.mem_of_getElem? (i := 208) (by decide +kernel))) rfl)
theorem zv_X8_few : Cond.selects yX8_few.cls yX8_few yX8_few ∈ zTb := (zTb_mem (zm_6 (List.mem_of_getElem? (i := 209) (by decide +kernel))) rfl)
theorem zd_X8_few : yX8_few.cls ≠ "java/lang/invoke/MethodHandle" ∧ yX8_few.cls ≠ "java/lang/invoke/VarHandle" ∧ (parseMethodDescriptor yX8_few.desc).map (fun d => d.parameters.length) = some 3 := by decide +kernel
theorem klL_91 : Cond.methodLink RL 91 yX8_few ∈ zTb := (zTb_mem (zm_6 (List.mem_of_getElem? (i := 207) (by decide +kernel))) rfl)
theorem kvL_91 : zCv RL 91 yX8_few cX8_few 5 (some .int) 3 8 := ⟨⟨zc_X8_few, zi_X8_few, by decide, zd_X8_few, (Or.inl klL_91)⟩, zx_X8_few, zv_X8_few, rfl⟩
theorem zc_X8_pairs : Cond.code yX8_pairs cX8_pairs 3 (some .int) ∈ zTb := (zTb_mem (zm_7 (List.mem_of_getElem? (i := 61) (by decide +kernel))) rfl)
theorem zi_X8_pairs : Cond.initialized yX8_pairs.cls ∈ zTb := (zTb_mem (zm_1 (List.mem_of_getElem? (i := 1) (by decide +kernel))) rfl)
theorem zx_X8_pairs : Cond.instanceMethod yX8_pairs ∈ zTb := (zTb_mem (zm_7 (List.mem_of_getElem? (i := 59) (by decide +kernel))) rfl)
theorem zv_X8_pairs : Cond.selects yX8_pairs.cls yX8_pairs yX8_pairs ∈ zTb := (zTb_mem (zm_7 (List.mem_of_getElem? (i := 60) (by decide +kernel))) rfl)
theorem zd_X8_pairs : yX8_pairs.cls ≠ "java/lang/invoke/MethodHandle" ∧ yX8_pairs.cls ≠ "java/lang/invoke/VarHandle" ∧ (parseMethodDescriptor yX8_pairs.desc).map (fun d => d.parameters.length) = some 2 := by decide +kernel
theorem klL_94 : Cond.methodLink RL 94 yX8_pairs ∈ zTb := (zTb_mem (zm_7 (List.mem_of_getElem? (i := 58) (by decide +kernel))) rfl)
theorem kvL_94 : zCv RL 94 yX8_pairs cX8_pairs 3 (some .int) 2 8 := ⟨⟨zc_X8_pairs, zi_X8_pairs, by decide, zd_X8_pairs, (Or.inl klL_94)⟩, zx_X8_pairs, zv_X8_pairs, rfl⟩
theorem zc_X8_edge : Cond.code yX8_edge cX8_edge 4 (some .int) ∈ zTb := (zTb_mem (zm_7 (List.mem_of_getElem? (i := 86) (by decide +kernel))) rfl)
theorem zi_X8_edge : Cond.initialized yX8_edge.cls ∈ zTb := (zTb_mem (zm_1 (List.mem_of_getElem? (i := 1) (by decide +kernel))) rfl)
theorem zx_X8_edge : Cond.instanceMethod yX8_edge ∈ zTb := (zTb_mem (zm_7 (List.mem_of_getElem? (i := 84) (by decide +kernel))) rfl)
theorem zv_X8_edge : Cond.selects yX8_edge.cls yX8_edge yX8_edge ∈ zTb := (zTb_mem (zm_7 (List.mem_of_getElem? (i := 85) (by decide +kernel))) rfl)
theorem zd_X8_edge : yX8_edge.cls ≠ "java/lang/invoke/MethodHandle" ∧ yX8_edge.cls ≠ "java/lang/invoke/VarHandle" ∧ (parseMethodDescriptor yX8_edge.desc).map (fun d => d.parameters.length) = some 2 := by decide +kernel
theorem klL_97 : Cond.methodLink RL 97 yX8_edge ∈ zTb := (zTb_mem (zm_7 (List.mem_of_getElem? (i := 83) (by decide +kernel))) rfl)
theorem kvL_97 : zCv RL 97 yX8_edge cX8_edge 4 (some .int) 2 8 := ⟨⟨zc_X8_edge, zi_X8_edge, by decide, zd_X8_edge, (Or.inl klL_97)⟩, zx_X8_edge, zv_X8_edge, rfl⟩
theorem zc_X8_rest : Cond.code yX8_rest cX8_rest 10 (some .int) ∈ zTb := (zTb_mem (zm_7 (List.mem_of_getElem? (i := 93) (by decide +kernel))) rfl)
theorem zi_X8_rest : Cond.initialized yX8_rest.cls ∈ zTb := (zTb_mem (zm_1 (List.mem_of_getElem? (i := 1) (by decide +kernel))) rfl)
theorem zx_X8_rest : Cond.instanceMethod yX8_rest ∈ zTb := (zTb_mem (zm_7 (List.mem_of_getElem? (i := 91) (by decide +kernel))) rfl)
theorem zv_X8_rest : Cond.selects yX8_rest.cls yX8_rest yX8_rest ∈ zTb := (zTb_mem (zm_7 (List.mem_of_getElem? (i := 92) (by decide +kernel))) rfl)
theorem zd_X8_rest : yX8_rest.cls ≠ "java/lang/invoke/MethodHandle" ∧ yX8_rest.cls ≠ "java/lang/invoke/VarHandle" ∧ (parseMethodDescriptor yX8_rest.desc).map (fun d => d.parameters.length) = some 6 := by decide +kernel
theorem klL_100 : Cond.methodLink RL 100 yX8_rest ∈ zTb := (zTb_mem (zm_7 (List.mem_of_getElem? (i := 90) (by decide +kernel))) rfl)
theorem kvL_100 : zCv RL 100 yX8_rest cX8_rest 10 (some .int) 6 8 := ⟨⟨zc_X8_rest, zi_X8_rest, by decide, zd_X8_rest, (Or.inl klL_100)⟩, zx_X8_rest, zv_X8_rest, rfl⟩
theorem zc_X8_once : Cond.code yX8_once cX8_once 2 (some .int) ∈ zTb := (zTb_mem (zm_7 (List.mem_of_getElem? (i := 106) (by decide +kernel))) rfl)
theorem zi_X8_once : Cond.initialized yX8_once.cls ∈ zTb := (zTb_mem (zm_1 (List.mem_of_getElem? (i := 1) (by decide +kernel))) rfl)
theorem zx_X8_once : Cond.instanceMethod yX8_once ∈ zTb := (zTb_mem (zm_7 (List.mem_of_getElem? (i := 104) (by decide +kernel))) rfl)
theorem zv_X8_once : Cond.selects yX8_once.cls yX8_once yX8_once ∈ zTb := (zTb_mem (zm_7 (List.mem_of_getElem? (i := 105) (by decide +kernel))) rfl)
theorem zd_X8_once : yX8_once.cls ≠ "java/lang/invoke/MethodHandle" ∧ yX8_once.cls ≠ "java/lang/invoke/VarHandle" ∧ (parseMethodDescriptor yX8_once.desc).map (fun d => d.parameters.length) = some 1 := by decide +kernel
theorem klL_104 : Cond.methodLink RL 104 yX8_once ∈ zTb := (zTb_mem (zm_7 (List.mem_of_getElem? (i := 103) (by decide +kernel))) rfl)
theorem kvL_104 : zCv RL 104 yX8_once cX8_once 2 (some .int) 1 8 := ⟨⟨zc_X8_once, zi_X8_once, by decide, zd_X8_once, (Or.inl klL_104)⟩, zx_X8_once, zv_X8_once, rfl⟩
theorem zc_X8_calm : Cond.code yX8_calm cX8_calm 4 (some .int) ∈ zTb := (zTb_mem (zm_7 (List.mem_of_getElem? (i := 119) (by decide +kernel))) rfl)
theorem zi_X8_calm : Cond.initialized yX8_calm.cls ∈ zTb := (zTb_mem (zm_1 (List.mem_of_getElem? (i := 1) (by decide +kernel))) rfl)
theorem zx_X8_calm : Cond.instanceMethod yX8_calm ∈ zTb := (zTb_mem (zm_7 (List.mem_of_getElem? (i := 117) (by decide +kernel))) rfl)
theorem zv_X8_calm : Cond.selects yX8_calm.cls yX8_calm yX8_calm ∈ zTb := (zTb_mem (zm_7 (List.mem_of_getElem? (i := 118) (by decide +kernel))) rfl)
theorem zd_X8_calm : yX8_calm.cls ≠ "java/lang/invoke/MethodHandle" ∧ yX8_calm.cls ≠ "java/lang/invoke/VarHandle" ∧ (parseMethodDescriptor yX8_calm.desc).map (fun d => d.parameters.length) = some 2 := by decide +kernel
theorem klL_107 : Cond.methodLink RL 107 yX8_calm ∈ zTb := (zTb_mem (zm_7 (List.mem_of_getElem? (i := 116) (by decide +kernel))) rfl)
theorem kvL_107 : zCv RL 107 yX8_calm cX8_calm 4 (some .int) 2 8 := ⟨⟨zc_X8_calm, zi_X8_calm, by decide, zd_X8_calm, (Or.inl klL_107)⟩, zx_X8_calm, zv_X8_calm, rfl⟩
theorem zc_X8_family : Cond.code yX8_family cX8_family 2 (some .int) ∈ zTb := (zTb_mem (zm_7 (List.mem_of_getElem? (i := 134) (by decide +kernel))) rfl)
theorem zi_X8_family : Cond.initialized yX8_family.cls ∈ zTb := (zTb_mem (zm_1 (List.mem_of_getElem? (i := 1) (by decide +kernel))) rfl)
theorem zx_X8_family : Cond.instanceMethod yX8_family ∈ zTb := (zTb_mem (zm_7 (List.mem_of_getElem? (i := 132) (by decide +kernel))) rfl)
theorem zv_X8_family : Cond.selects yX8_family.cls yX8_family yX8_family ∈ zTb := (zTb_mem (zm_7 (List.mem_of_getElem? (i := 133) (by decide +kernel))) rfl)
theorem zd_X8_family : yX8_family.cls ≠ "java/lang/invoke/MethodHandle" ∧ yX8_family.cls ≠ "java/lang/invoke/VarHandle" ∧ (parseMethodDescriptor yX8_family.desc).map (fun d => d.parameters.length) = some 1 := by decide +kernel
theorem klL_110 : Cond.methodLink RL 110 yX8_family ∈ zTb := (zTb_mem (zm_7 (List.mem_of_getElem? (i := 131) (by decide +kernel))) rfl)
theorem kvL_110 : zCv RL 110 yX8_family cX8_family 2 (some .int) 1 8 := ⟨⟨zc_X8_family, zi_X8_family, by decide, zd_X8_family, (Or.inl klL_110)⟩, zx_X8_family, zv_X8_family, rfl⟩
theorem zc_X8_starved : Cond.code yX8_starved cX8_starved 2 (some .int) ∈ zTb := (zTb_mem (zm_7 (List.mem_of_getElem? (i := 151) (by decide +kernel))) rfl)
theorem zi_X8_starved : Cond.initialized yX8_starved.cls ∈ zTb := (zTb_mem (zm_1 (List.mem_of_getElem? (i := 1) (by decide +kernel))) rfl)
theorem zx_X8_starved : Cond.instanceMethod yX8_starved ∈ zTb := (zTb_mem (zm_7 (List.mem_of_getElem? (i := 149) (by decide +kernel))) rfl)
theorem zv_X8_starved : Cond.selects yX8_starved.cls yX8_starved yX8_starved ∈ zTb := (zTb_mem (zm_7 (List.mem_of_getElem? (i := 150) (by decide +kernel))) rfl)
theorem zd_X8_starved : yX8_starved.cls ≠ "java/lang/invoke/MethodHandle" ∧ yX8_starved.cls ≠ "java/lang/invoke/VarHandle" ∧ (parseMethodDescriptor yX8_starved.desc).map (fun d => d.parameters.length) = some 1 := by decide +kernel
theorem klL_113 : Cond.methodLink RL 113 yX8_starved ∈ zTb := (zTb_mem (zm_7 (List.mem_of_getElem? (i := 148) (by decide +kernel))) rfl)
theorem kvL_113 : zCv RL 113 yX8_starved cX8_starved 2 (some .int) 1 8 := ⟨⟨zc_X8_starved, zi_X8_starved, by decide, zd_X8_starved, (Or.inl klL_113)⟩, zx_X8_starved, zv_X8_starved, rfl⟩
theorem zc_X8_slack : Cond.code yX8_slack cX8_slack 4 (some .int) ∈ zTb := (zTb_mem (zm_7 (List.mem_of_getElem? (i := 158) (by decide +kernel))) rfl)
theorem zi_X8_slack : Cond.initialized yX8_slack.cls ∈ zTb := (zTb_mem (zm_1 (List.mem_of_getElem? (i := 1) (by decide +kernel))) rfl)
theorem zx_X8_slack : Cond.instanceMethod yX8_slack ∈ zTb := (zTb_mem (zm_7 (List.mem_of_getElem? (i := 156) (by decide +kernel))) rfl)
theorem zv_X8_slack : Cond.selects yX8_slack.cls yX8_slack yX8_slack ∈ zTb := (zTb_mem (zm_7 (List.mem_of_getElem? (i := 157) (by decide +kernel))) rfl)
theorem zd_X8_slack : yX8_slack.cls ≠ "java/lang/invoke/MethodHandle" ∧ yX8_slack.cls ≠ "java/lang/invoke/VarHandle" ∧ (parseMethodDescriptor yX8_slack.desc).map (fun d => d.parameters.length) = some 1 := by decide +kernel
theorem klL_116 : Cond.methodLink RL 116 yX8_slack ∈ zTb := (zTb_mem (zm_7 (List.mem_of_getElem? (i := 155) (by decide +kernel))) rfl)
theorem kvL_116 : zCv RL 116 yX8_slack cX8_slack 4 (some .int) 1 8 := ⟨⟨zc_X8_slack, zi_X8_slack, by decide, zd_X8_slack, (Or.inl klL_116)⟩, zx_X8_slack, zv_X8_slack, rfl⟩
theorem zc_X8_firm : Cond.code yX8_firm cX8_firm 4 (some .int) ∈ zTb := (zTb_mem (zm_7 (List.mem_of_getElem? (i := 165) (by decide +kernel))) rfl)
theorem zi_X8_firm : Cond.initialized yX8_firm.cls ∈ zTb := (zTb_mem (zm_1 (List.mem_of_getElem? (i := 1) (by decide +kernel))) rfl)
theorem zx_X8_firm : Cond.instanceMethod yX8_firm ∈ zTb := (zTb_mem (zm_7 (List.mem_of_getElem? (i := 163) (by decide +kernel))) rfl)
theorem zv_X8_firm : Cond.selects yX8_firm.cls yX8_firm yX8_firm ∈ zTb := (zTb_mem (zm_7 (List.mem_of_getElem? (i := 164) (by decide +kernel))) rfl)
theorem zd_X8_firm : yX8_firm.cls ≠ "java/lang/invoke/MethodHandle" ∧ yX8_firm.cls ≠ "java/lang/invoke/VarHandle" ∧ (parseMethodDescriptor yX8_firm.desc).map (fun d => d.parameters.length) = some 3 := by decide +kernel
theorem klL_119 : Cond.methodLink RL 119 yX8_firm ∈ zTb := (zTb_mem (zm_7 (List.mem_of_getElem? (i := 162) (by decide +kernel))) rfl)
theorem kvL_119 : zCv RL 119 yX8_firm cX8_firm 4 (some .int) 3 8 := ⟨⟨zc_X8_firm, zi_X8_firm, by decide, zd_X8_firm, (Or.inl klL_119)⟩, zx_X8_firm, zv_X8_firm, rfl⟩
theorem zc_X8_twoDays : Cond.code yX8_twoDays cX8_twoDays 2 (some .int) ∈ zTb := (zTb_mem (zm_7 (List.mem_of_getElem? (i := 172) (by decide +kernel))) rfl)
theorem zi_X8_twoDays : Cond.initialized yX8_twoDays.cls ∈ zTb := (zTb_mem (zm_1 (List.mem_of_getElem? (i := 1) (by decide +kernel))) rfl)
theorem zx_X8_twoDays : Cond.instanceMethod yX8_twoDays ∈ zTb := (zTb_mem (zm_7 (List.mem_of_getElem? (i := 170) (by decide +kernel))) rfl)
theorem zv_X8_twoDays : Cond.selects yX8_twoDays.cls yX8_twoDays yX8_twoDays ∈ zTb := (zTb_mem (zm_7 (List.mem_of_getElem? (i := 171) (by decide +kernel))) rfl)
theorem zd_X8_twoDays : yX8_twoDays.cls ≠ "java/lang/invoke/MethodHandle" ∧ yX8_twoDays.cls ≠ "java/lang/invoke/VarHandle" ∧ (parseMethodDescriptor yX8_twoDays.desc).map (fun d => d.parameters.length) = some 1 := by decide +kernel
theorem klL_122 : Cond.methodLink RL 122 yX8_twoDays ∈ zTb := (zTb_mem (zm_7 (List.mem_of_getElem? (i := 169) (by decide +kernel))) rfl)
theorem kvL_122 : zCv RL 122 yX8_twoDays cX8_twoDays 2 (some .int) 1 8 := ⟨⟨zc_X8_twoDays, zi_X8_twoDays, by decide, zd_X8_twoDays, (Or.inl klL_122)⟩, zx_X8_twoDays, zv_X8_twoDays, rfl⟩
/-! the law's wrappers -/
def zMH (hh : List (Nat × Nat × Nat × Nat)) (y : MethodName) (cc : ByteArray) (nL : Nat) (ret : Option FieldType) (d : Nat) (avs : List Value) (n : Nat) (S : Nat → zSh) (μ : zMem) (o : zO) : Prop :=
  ∀ (l : Launch) (D : va_G) (tc adK adV σ : Nat → Nat) (sz : Nat), l.stackTraces = false →
    vx_Met l y (Cond.codeWith y cc nL ret hh :: zTb) (zRm d o.2.2.2.2.1 o.2.2.2.2.2) (zPc D tc adK adV σ avs n S μ sz) (zQc D (zA σ n sz) tc adK σ n o) (zXC D (zA σ n sz) tc adK σ n o) o.2.2.2.2.1 o.2.2.2.2.2 (zA σ n sz)
theorem zMH_of {hh : List (Nat × Nat × Nat × Nat)} {y : MethodName} {cc : ByteArray} {nL : Nat} {ret : Option FieldType} {d : Nat} {avs : List Value} {n : Nat} {S : Nat → zSh} {μ : zMem} {o : zO} (hy : plainName y.cls = true) (hc : ∀ v ∈ avs, v.category = 1) (hn : ∀ v ∈ avs, v ≠ .null) (hlen : avs.length ≤ nL)
    (k : zBW hh y cc nL ret d 0 (avs ++ List.replicate (nL - avs.length) .null) [] n S μ o) : zMH hh y cc nL ret d avs n S μ o := by
  intro l D tc adK adV σ sz hst
  refine vx_ofWH (cc := cc) (maxL := nL) (ret := ret) (hh := hh) hy rfl ?_
  intro p e s m args below meth c s₁ B hml hv
  obtain ⟨rfl, hsz, hP, hK, hD, hSg, hG⟩ := hv
  subst hsz
  have hts := atoms_spec (ws := Cond.codeWith y cc nL ret hh :: zTb) B.pre
  have hcat : ∀ v ∈ avs.map (cv σ), v.category = 1 := fun v hv => by
    obtain ⟨w, h1, rfl⟩ := List.mem_map.mp hv
    rw [cv_cat]; exact hc w h1
  have hls : lg_sl (avs.map (cv σ)) = (avs.map (cv σ)).map Slot.val := zarg_slots _ hcat
  have hl := lv_entry (avs.map (cv σ)) (n := nL) (by rw [hls, List.length_map, List.length_map]; exact hlen)
  rw [lg_entry_eq]
  have hget : ∀ (i : Nat) (v : Value), avs[i]? = some v → ((lg_sl (avs.map (cv σ)) ++ List.replicate (nL - (lg_sl (avs.map (cv σ))).length) Slot.unset).toArray)[i]? = some (.val (cv σ v)) := fun i v h => by
    have hi : i < avs.length := (List.getElem?_eq_some_iff.mp h).1
    rw [hls, List.getElem?_toArray, List.getElem?_append_left (by rw [List.length_map, List.length_map]; exact hi), List.getElem?_map, List.getElem?_map, h]
    rfl
  generalize (lg_sl (avs.map (cv σ)) ++ List.replicate (nL - (lg_sl (avs.map (cv σ))).length) Slot.unset).toArray = ls at hl hget ⊢
  have hZ : zL σ nL (avs ++ List.replicate (nL - avs.length) .null) ls := by
    refine ⟨⟨hl.1, hl.2.1, fun q hq => ?_⟩, fun v hv => ?_⟩
    · obtain ⟨v, h1, h2, h3⟩ := zls_inv hq
      by_cases hi : q.1 < avs.length
      · rw [List.getElem?_append_left hi] at h1
        rw [h3]
        exact hget _ _ h1
      · rw [List.getElem?_append_right (by omega)] at h1
        have := List.mem_of_getElem? h1
        exact absurd (List.eq_of_mem_replicate this) h2
    · rcases List.mem_append.mp hv with h | h
      · exact hc v h
      · rw [List.eq_of_mem_replicate h]; rfl
  exact k p l e _ s m _ below meth c D (zA σ n s.heap.size) tc adK adV ⟨B.exec, B.bytes, hml, findClass_of_methodNamed B.named, B.returns, B.notSynchronized, (name_of_methodNamed B.named B.method).1, vx_table (x := y) B (hts _ List.mem_cons_self), fun w hw => hts w (List.mem_cons_of_mem _ hw), hK, fun q hq => Or.inr hq, hG, hst, Nat.le_refl _, Nat.le_refl _⟩
    σ n σ s.heap [] ls 0 0 _ _ ⟨Nat.le_refl _, ⟨fun _ _ => rfl, hSg⟩, hP, zW_D hD, fun _ => rfl⟩ va_S.rf hZ ⟨by omega, by omega, Nat.le_refl _, Nat.le_refl _⟩
section ZBC
variable {hh : List (Nat × Nat × Nat × Nat)} {y y' : MethodName} {cc cc' : ByteArray} {nL nL' : Nat} {ret ret' : Option FieldType} {d d' pc idx : Nat} {L st : List Value} {n n' : Nat} {S S' : Nat → zSh} {μ μ' : zMem} {o : zO} {res : Option Value ⊕ String} {ca cb : Nat}
theorem zB_congr {S2 : Nat → zSh} {μ2 : zMem} (h : ∀ k, k < n → S k = S2 k ∧ μ k = μ2 k) (k : zBW hh y cc nL ret d (pc) L (st) (n) (S2) (μ2) (o)) : zBW hh y cc nL ret d (pc) L (st) (n) (S) (μ) (o) := by
  intro p l e R s m args below meth c D A tc adK adV C σ0 n0 σ H locs ls cells slots mc ms hH hS hl hB
  have ez : zW σ tc n S μ = zW σ tc n S2 μ2 := by
    unfold zW
    apply List.map_congr_left
    intro q hq
    obtain ⟨h1, h2⟩ := h q (List.mem_range.mp hq)
    rw [h1, h2]
  exact (k p l e R s m args below meth c D A tc adK adV C σ0 n0 σ H locs ls cells slots mc ms ⟨hH.1, hH.2.1, ez ▸ hH.2.2.1, ez ▸ hH.2.2.2.1, hH.2.2.2.2⟩ hS hl hB)
end ZBC
def zSW (g : Bool) : Nat → zSh := fun k => if k = 0 then (3, 5, 1, zn) else zshf 1 (SX g (k - 1))
def zMW (f : Nat → Int32) (μ : zMem) : zMem := fun k => if k = 0 then f else μ (k - 1)
theorem zTail_Xt : zTail (SXl true) := ⟨fun _ => rfl, ⟨fun _ => rfl, ⟨fun _ => rfl, ⟨fun _ => rfl, ⟨fun _ => rfl, ⟨fun _ => rfl, ⟨fun _ => rfl, ⟨fun _ => rfl, ⟨fun _ => rfl, ⟨fun _ => rfl, ⟨fun _ => rfl, ⟨fun _ => rfl, ⟨fun _ => rfl, ⟨fun _ => rfl, ⟨fun _ => rfl, ⟨fun _ => rfl, ⟨fun _ => rfl, ⟨fun _ => rfl, ⟨fun _ => rfl, ⟨fun _ => rfl, ⟨fun _ => rfl, ⟨fun _ => rfl, ⟨fun _ => rfl, ⟨fun _ => rfl, ⟨fun _ => rfl, ⟨fun _ => rfl, ⟨fun _ => rfl, ⟨fun _ => rfl, ⟨fun _ => rfl, ⟨fun _ => rfl, ⟨fun _ => rfl, ⟨fun _ => rfl, ⟨fun _ => rfl, ⟨fun _ => rfl, ⟨fun _ => rfl, ⟨fun _ => rfl, ⟨fun _ => rfl, ⟨fun _ => rfl, ⟨fun _ => rfl, ⟨fun _ => rfl, ⟨fun _ => rfl, ⟨fun _ => rfl, ⟨fun _ => rfl, ⟨fun _ => rfl, ⟨fun _ => rfl, ⟨fun _ => rfl, ⟨fun _ => rfl, ⟨fun _ => rfl, ⟨fun _ => rfl, ⟨fun _ => rfl, ⟨fun _ => rfl, ⟨fun _ => rfl, ⟨fun _ => rfl, ⟨fun _ => rfl, ⟨fun _ => rfl, ⟨fun _ => rfl, ⟨fun _ => rfl, ⟨fun _ => rfl, ⟨fun _ => rfl, ⟨fun _ => rfl, ⟨fun _ => rfl, ⟨fun _ => rfl, ⟨fun _ => rfl, ⟨fun _ => rfl, ⟨fun _ => rfl, ⟨fun _ => rfl, ⟨fun _ => rfl, ⟨fun _ => rfl, ⟨fun _ => rfl, ⟨fun _ => rfl, ⟨fun _ => rfl, ⟨fun _ => rfl, ⟨fun _ => rfl, ⟨fun _ => rfl, ⟨fun _ => rfl, ⟨fun _ => rfl, trivial⟩⟩⟩⟩⟩⟩⟩⟩⟩⟩⟩⟩⟩⟩⟩⟩⟩⟩⟩⟩⟩⟩⟩⟩⟩⟩⟩⟩⟩⟩⟩⟩⟩⟩⟩⟩⟩⟩⟩⟩⟩⟩⟩⟩⟩⟩⟩⟩⟩⟩⟩⟩⟩⟩⟩⟩⟩⟩⟩⟩⟩⟩⟩⟩⟩⟩⟩⟩⟩⟩⟩⟩⟩⟩⟩⟩
theorem zwfXt : zWf (nX true) (SX true) := by
  have h1 : ∀ k, k < 76 → ∀ j, j < 30 → ((SX true k).2.2.2 j).all (fun r => decide (r < 76)) = true := by decide +kernel
  intro k j r hk h
  rcases Nat.lt_or_ge j 30 with hj | hj
  · have h2 := h1 k hk j hj
    rw [h] at h2
    exact of_decide_eq_true h2
  · obtain ⟨i, rfl⟩ := Nat.exists_eq_add_of_le hj
    have h3 : (SX true k).2.2.2 (i + 30) = none := zTail_at (SXl true) zTail_Xt k i
    rw [Nat.add_comm 30 i, h3] at h
    cases h
theorem zwfG (g : Bool) : zWf (nX g) (SX g) := by
  cases g
  · exact zwfX
  · exact zwfXt
theorem nX_le (g : Bool) : 69 ≤ nX g ∧ nX g ≤ 76 := by cases g <;> decide
theorem zSW_wf (g : Bool) : zWf (1 + nX g) (zSW g) := by
  intro k j r hk h
  unfold zSW at h
  by_cases hk0 : k = 0
  · rw [if_pos hk0] at h
    cases (show (none : Option Nat) = some r from h)
  · rw [if_neg hk0] at h
    have h2 : ((SX g (k - 1)).2.2.2 j).map (zrh 1) = some r := h
    cases h3 : (SX g (k - 1)).2.2.2 j with
    | none => rw [h3] at h2; cases h2
    | some q =>
      rw [h3] at h2
      have h4 : zrh 1 q = r := Option.some.inj h2
      have h5 := zwfG g (k - 1) j q (by omega) h3
      have h6 := nX_le g
      unfold zrh at h4
      rw [if_pos (by omega)] at h4
      omega
theorem zSW_sub {g : Bool} {f : Nat → Int32} {μ : zMem} : zSub 1 (nX g) (SX g) μ (zSW g) (zMW f μ) := by
  intro k hk
  unfold zSW zMW
  rw [if_neg (by omega), if_neg (by omega), Nat.add_sub_cancel_left]
  exact ⟨rfl, rfl⟩
theorem zSW_put {g : Bool} {f : Nat → Int32} {μ μ1 : zMem} : ∀ k, k < 1 + nX g → zputS 1 (nX g) (SX g) (zSW g) k = zSW g k ∧ zputM 1 (nX g) μ1 (zMW f μ) k = zMW f μ1 k := by
  intro k hk
  unfold zputS zputM
  by_cases hk0 : k = 0
  · rw [if_neg (by omega), if_neg (by omega)]
    unfold zMW
    rw [if_pos hk0, if_pos hk0]
    exact ⟨rfl, rfl⟩
  · rw [if_pos (by omega), if_pos (by omega)]
    unfold zSW zMW
    rw [if_neg hk0, if_neg hk0]
    exact ⟨rfl, rfl⟩
theorem zMW_set {f : Nat → Int32} {μ : zMem} {v : Int32} : zset (zMW f μ) 0 0 v = zMW (fun i => if i = 0 then v else f i) μ := by
  funext k
  unfold zset zup zMW
  by_cases hk : k = 0
  · rw [if_pos hk, if_pos hk]
    rfl
  · rw [if_neg hk, if_neg hk, if_neg hk]
theorem zMR_ok {y : MethodName} {cc : ByteArray} {nL d n : Nat} {avs : List Value} {S : Nat → zSh} {μ μ1 : zMem} {r : zRes} {v : Int32} (hM : zMR y cc nL (some .int) d avs n S μ r) (h : r = some (0, v, μ1)) : zM y cc nL (some .int) d avs n S μ (.inl (some (.int v)), n, S, μ1, 0, 0) := by
  have h9 := hM _ h
  have e9 : zOut (some .int) n S (0, v, μ1) = (.inl (some (.int v)), n, S, μ1, 0, 0) := rfl
  rw [e9] at h9
  exact h9
theorem zMR_ex {y : MethodName} {cc : ByteArray} {nL d n e : Nat} {avs : List Value} {S : Nat → zSh} {μ μ1 : zMem} {r : zRes} {v : Int32} {E : String} (hE : zExn (e + 1) = E) (hM : zMR y cc nL (some .int) d avs n S μ r) (h : r = some (e + 1, v, μ1)) : zM y cc nL (some .int) d avs n S μ (.inr E, n, S, μ1, 1, 6) := by
  have h9 := hM _ h
  have e9 : zOut (some .int) n S (e + 1, v, μ1) = (.inr (zExn (e + 1)), n, S, μ1, 1, 6) := rfl
  rw [e9, hE] at h9
  exact h9
theorem kxL_13 : Cond.classLink RL 13 "java/lang/IllegalArgumentException" ∈ zTb := (zTb_mem (zm_4 (List.mem_of_getElem? (i := 110) (by decide +kernel))) rfl)
theorem kxc_13 : Cond.castable "java/lang/IllegalArgumentException" "java/lang/IllegalArgumentException" ∈ zNs := (List.mem_filter.mpr ⟨zm_2 (List.mem_of_getElem? (i := 189) (by decide +kernel)), rfl⟩)
theorem kxL_22 : Cond.classLink RL 22 "java/util/NoSuchElementException" ∈ zTb := (zTb_mem (zm_5 (List.mem_of_getElem? (i := 28) (by decide +kernel))) rfl)
theorem kxc_22 : Cond.castable "java/util/NoSuchElementException" "java/util/NoSuchElementException" ∈ zNs := (List.mem_filter.mpr ⟨zm_5 (List.mem_of_getElem? (i := 43) (by decide +kernel)), rfl⟩)
theorem kxL_30 : Cond.classLink RL 30 "java/lang/IndexOutOfBoundsException" ∈ zTb := (zTb_mem (zm_5 (List.mem_of_getElem? (i := 76) (by decide +kernel))) rfl)
theorem kxc_30 : Cond.castable "java/lang/IndexOutOfBoundsException" "java/lang/IndexOutOfBoundsException" ∈ zNs := (List.mem_filter.mpr ⟨zm_5 (List.mem_of_getElem? (i := 87) (by decide +kernel)), rfl⟩)
theorem kxL_46 : Cond.classLink RL 46 "java/lang/IllegalStateException" ∈ zTb := (zTb_mem (zm_5 (List.mem_of_getElem? (i := 146) (by decide +kernel))) rfl)
theorem kxc_46 : Cond.castable "java/lang/IllegalStateException" "java/lang/IllegalStateException" ∈ zNs := (List.mem_filter.mpr ⟨zm_5 (List.mem_of_getElem? (i := 153) (by decide +kernel)), rfl⟩)
theorem tw_town {g : Bool} {x1 : Int32} {f : Nat → Int32} {v : Int32} {μ μ1 : zMem} (h : f8_town x1 μ = some (0, v, μ1)) : zMH [(0, 9, 12, 13)] yL_town cL_town 4 (some .int) 11 [.ref 1, .int x1, .ref 0] (1 + nX g) (zSW g) (zMW f μ) (.inl (some (.int 0)), 1 + nX g, zSW g, zMW (fun i => if i = 0 then v else f i) μ1, 0 + 0, 0 + 0) := by
  have hg := nX_le g
  refine zMH_of (by decide +kernel) (by simp [Value.category]) (by simp) (Nat.le_of_ble_eq_true rfl) ?_
  show zBW _ _ _ _ _ _ _ [.ref 1, .int x1, .ref 0, .null] _ _ _ _ _
  refine zB_aload_n (pc := 0) dL_town_0 rfl ?_
  refine zB_iconst (pc := 1) (0 : Int32) dL_town_1 (by decide) ?_
  refine zB_aload_n (pc := 2) dL_town_2 rfl ?_
  refine zB_iload_n (pc := 3) dL_town_3 rfl ?_
  refine zB_callFV (B := 1) (pc := 4) (b := 0) (As := [.int x1]) (n := nX g) (S := SX g) (μ := μ) (v := some (.int v)) kvL_7 (zMR_ok (t8_town x1 μ) h) (fun q e => by cases e) (by decide) (by omega) (sx_0 g) rfl rfl (Nat.le_of_ble_eq_true rfl) zSW_sub (Nat.le_refl _) (zSW_wf g) (Nat.le_refl _) (Or.inl rfl) (by omega) (zwfG g) (by have hg := nX_le g; simp only [List.mem_cons, List.not_mem_nil, or_false, forall_eq_or_imp, forall_eq, zltEq, reduceCtorEq, false_implies, implies_true, and_true, true_and] <;> omega) (by have hg := nX_le g; simp only [List.mem_cons, List.not_mem_nil, or_false, forall_eq_or_imp, forall_eq, zltEq, reduceCtorEq, false_implies, implies_true, and_true, true_and] <;> omega) dL_town_4 ?_
  rw [Nat.sub_self, Nat.add_zero]
  refine zB_congr (S2 := zSW g) (μ2 := zMW f μ1) zSW_put ?_
  refine zB_i2l (pc := 7) dL_town_7 ?_
  refine zB_last (pc := 8) (a := 0) (rf := zn) (by omega) rfl dL_town_8 ?_
  rw [zMW_set]
  refine zB_goto (pc := 9) (tgt := 15) dL_town_9 (by decide) ?_
  refine zB_iconst (pc := 15) (0 : Int32) dL_town_15 (by decide) ?_
  exact zB_iret (pc := 16) rfl dL_town_16
theorem tw_town_x1 {g : Bool} {x1 : Int32} {f : Nat → Int32} {v : Int32} {μ μ1 : zMem} (h : f8_town x1 μ = some (1, v, μ1)) : zMH [(0, 9, 12, 13)] yL_town cL_town 4 (some .int) 11 [.ref 1, .int x1, .ref 0] (1 + nX g) (zSW g) (zMW f μ) (.inl (some (.int 1)), 1 + nX g, zSW g, zMW f μ1, 0 + 1, 0 + 6) := by
  have hg := nX_le g
  refine zMH_of (by decide +kernel) (by simp [Value.category]) (by simp) (Nat.le_of_ble_eq_true rfl) ?_
  show zBW _ _ _ _ _ _ _ [.ref 1, .int x1, .ref 0, .null] _ _ _ _ _
  refine zB_aload_n (pc := 0) dL_town_0 rfl ?_
  refine zB_iconst (pc := 1) (0 : Int32) dL_town_1 (by decide) ?_
  refine zB_aload_n (pc := 2) dL_town_2 rfl ?_
  refine zB_iload_n (pc := 3) dL_town_3 rfl ?_
  refine zB_callFX (B := 1) (pc := 4) (b := 0) (As := [.int x1]) (n := nX g) (S := SX g) (μ := μ) (E := "java/lang/IllegalArgumentException") (nm := "java/lang/IllegalArgumentException") (px := []) (x := ⟨0, 9, 12, 13⟩) (sx := []) (i := 3) (ln := 1) kvL_7 klL_7 (zMR_ex rfl (t8_town x1 μ) h) (by decide) (by omega) (sx_0 g) rfl rfl (Nat.le_of_ble_eq_true rfl) zSW_sub (Nat.le_refl _) (zSW_wf g) (by omega) (zwfG g) dL_town_4 rfl (fun z hz => by cases hz) (by decide) rfl (by decide) kxL_13 kxc_13 (Or.inl ⟨3, dL_town_12, rfl, rfl⟩) (by decide) ?_
  refine zB_congr (S2 := zSW g) (μ2 := zMW f μ1) zSW_put ?_
  refine zB_iconst (pc := 13) (1 : Int32) dL_town_13 (by decide) ?_
  exact zB_iret (pc := 14) rfl dL_town_14
theorem tw_told {g : Bool} {x1 : Int32} {f : Nat → Int32} {v : Int32} {μ μ1 : zMem} (h : f8_told x1 μ = some (0, v, μ1)) : zMH [(0, 9, 12, 13)] yL_told cL_told 4 (some .int) 7 [.ref 1, .int x1, .ref 0] (1 + nX g) (zSW g) (zMW f μ) (.inl (some (.int 0)), 1 + nX g, zSW g, zMW (fun i => if i = 0 then v else f i) μ1, 0 + 0, 0 + 0) := by
  have hg := nX_le g
  refine zMH_of (by decide +kernel) (by simp [Value.category]) (by simp) (Nat.le_of_ble_eq_true rfl) ?_
  show zBW _ _ _ _ _ _ _ [.ref 1, .int x1, .ref 0, .null] _ _ _ _ _
  refine zB_aload_n (pc := 0) dL_told_0 rfl ?_
  refine zB_iconst (pc := 1) (0 : Int32) dL_told_1 (by decide) ?_
  refine zB_aload_n (pc := 2) dL_told_2 rfl ?_
  refine zB_iload_n (pc := 3) dL_told_3 rfl ?_
  refine zB_callFV (B := 1) (pc := 4) (b := 0) (As := [.int x1]) (n := nX g) (S := SX g) (μ := μ) (v := some (.int v)) kvL_15 (zMR_ok (t8_told x1 μ) h) (fun q e => by cases e) (by decide) (by omega) (sx_0 g) rfl rfl (Nat.le_of_ble_eq_true rfl) zSW_sub (Nat.le_refl _) (zSW_wf g) (Nat.le_refl _) (Or.inl rfl) (by omega) (zwfG g) (by have hg := nX_le g; simp only [List.mem_cons, List.not_mem_nil, or_false, forall_eq_or_imp, forall_eq, zltEq, reduceCtorEq, false_implies, implies_true, and_true, true_and] <;> omega) (by have hg := nX_le g; simp only [List.mem_cons, List.not_mem_nil, or_false, forall_eq_or_imp, forall_eq, zltEq, reduceCtorEq, false_implies, implies_true, and_true, true_and] <;> omega) dL_told_4 ?_
  rw [Nat.sub_self, Nat.add_zero]
  refine zB_congr (S2 := zSW g) (μ2 := zMW f μ1) zSW_put ?_
  refine zB_i2l (pc := 7) dL_told_7 ?_
  refine zB_last (pc := 8) (a := 0) (rf := zn) (by omega) rfl dL_told_8 ?_
  rw [zMW_set]
  refine zB_goto (pc := 9) (tgt := 15) dL_told_9 (by decide) ?_
  refine zB_iconst (pc := 15) (0 : Int32) dL_told_15 (by decide) ?_
  exact zB_iret (pc := 16) rfl dL_told_16
theorem tw_told_x1 {g : Bool} {x1 : Int32} {f : Nat → Int32} {v : Int32} {μ μ1 : zMem} (h : f8_told x1 μ = some (1, v, μ1)) : zMH [(0, 9, 12, 13)] yL_told cL_told 4 (some .int) 7 [.ref 1, .int x1, .ref 0] (1 + nX g) (zSW g) (zMW f μ) (.inl (some (.int 1)), 1 + nX g, zSW g, zMW f μ1, 0 + 1, 0 + 6) := by
  have hg := nX_le g
  refine zMH_of (by decide +kernel) (by simp [Value.category]) (by simp) (Nat.le_of_ble_eq_true rfl) ?_
  show zBW _ _ _ _ _ _ _ [.ref 1, .int x1, .ref 0, .null] _ _ _ _ _
  refine zB_aload_n (pc := 0) dL_told_0 rfl ?_
  refine zB_iconst (pc := 1) (0 : Int32) dL_told_1 (by decide) ?_
  refine zB_aload_n (pc := 2) dL_told_2 rfl ?_
  refine zB_iload_n (pc := 3) dL_told_3 rfl ?_
  refine zB_callFX (B := 1) (pc := 4) (b := 0) (As := [.int x1]) (n := nX g) (S := SX g) (μ := μ) (E := "java/lang/IllegalArgumentException") (nm := "java/lang/IllegalArgumentException") (px := []) (x := ⟨0, 9, 12, 13⟩) (sx := []) (i := 3) (ln := 1) kvL_15 klL_15 (zMR_ex rfl (t8_told x1 μ) h) (by decide) (by omega) (sx_0 g) rfl rfl (Nat.le_of_ble_eq_true rfl) zSW_sub (Nat.le_refl _) (zSW_wf g) (by omega) (zwfG g) dL_told_4 rfl (fun z hz => by cases hz) (by decide) rfl (by decide) kxL_13 kxc_13 (Or.inl ⟨3, dL_told_12, rfl, rfl⟩) (by decide) ?_
  refine zB_congr (S2 := zSW g) (μ2 := zMW f μ1) zSW_put ?_
  refine zB_iconst (pc := 13) (1 : Int32) dL_told_13 (by decide) ?_
  exact zB_iret (pc := 14) rfl dL_told_14
theorem tw_thinks {g : Bool} {x1 : Int32} {x2 : Int32} {f : Nat → Int32} {v : Int32} {μ μ1 : zMem} (h : f8_thinks x1 x2 μ = some (0, v, μ1)) : zMH [(0, 10, 13, 22), (0, 10, 17, 13)] yL_thinks cL_thinks 5 (some .int) 8 [.ref 1, .int x1, .int x2, .ref 0] (1 + nX g) (zSW g) (zMW f μ) (.inl (some (.int 0)), 1 + nX g, zSW g, zMW (fun i => if i = 0 then v else f i) μ1, 0 + 0, 0 + 0) := by
  have hg := nX_le g
  refine zMH_of (by decide +kernel) (by simp [Value.category]) (by simp) (Nat.le_of_ble_eq_true rfl) ?_
  show zBW _ _ _ _ _ _ _ [.ref 1, .int x1, .int x2, .ref 0, .null] _ _ _ _ _
  refine zB_aload_n (pc := 0) dL_thinks_0 rfl ?_
  refine zB_iconst (pc := 1) (0 : Int32) dL_thinks_1 (by decide) ?_
  refine zB_aload_n (pc := 2) dL_thinks_2 rfl ?_
  refine zB_iload_n (pc := 3) dL_thinks_3 rfl ?_
  refine zB_iload_n (pc := 4) dL_thinks_4 rfl ?_
  refine zB_callFV (B := 1) (pc := 5) (b := 0) (As := [.int x1, .int x2]) (n := nX g) (S := SX g) (μ := μ) (v := some (.int v)) kvL_18 (zMR_ok (t8_thinks x1 x2 μ) h) (fun q e => by cases e) (by decide) (by omega) (sx_0 g) rfl rfl (Nat.le_of_ble_eq_true rfl) zSW_sub (Nat.le_refl _) (zSW_wf g) (Nat.le_refl _) (Or.inl rfl) (by omega) (zwfG g) (by have hg := nX_le g; simp only [List.mem_cons, List.not_mem_nil, or_false, forall_eq_or_imp, forall_eq, zltEq, reduceCtorEq, false_implies, implies_true, and_true, true_and] <;> omega) (by have hg := nX_le g; simp only [List.mem_cons, List.not_mem_nil, or_false, forall_eq_or_imp, forall_eq, zltEq, reduceCtorEq, false_implies, implies_true, and_true, true_and] <;> omega) dL_thinks_5 ?_
  rw [Nat.sub_self, Nat.add_zero]
  refine zB_congr (S2 := zSW g) (μ2 := zMW f μ1) zSW_put ?_
  refine zB_i2l (pc := 8) dL_thinks_8 ?_
  refine zB_last (pc := 9) (a := 0) (rf := zn) (by omega) rfl dL_thinks_9 ?_
  rw [zMW_set]
  refine zB_goto (pc := 10) (tgt := 21) dL_thinks_10 (by decide) ?_
  refine zB_iconst (pc := 21) (0 : Int32) dL_thinks_21 (by decide) ?_
  exact zB_iret (pc := 22) rfl dL_thinks_22
theorem tw_thinks_x2 {g : Bool} {x1 : Int32} {x2 : Int32} {f : Nat → Int32} {v : Int32} {μ μ1 : zMem} (h : f8_thinks x1 x2 μ = some (2, v, μ1)) : zMH [(0, 10, 13, 22), (0, 10, 17, 13)] yL_thinks cL_thinks 5 (some .int) 8 [.ref 1, .int x1, .int x2, .ref 0] (1 + nX g) (zSW g) (zMW f μ) (.inl (some (.int 1)), 1 + nX g, zSW g, zMW f μ1, 0 + 1, 0 + 6) := by
  have hg := nX_le g
  refine zMH_of (by decide +kernel) (by simp [Value.category]) (by simp) (Nat.le_of_ble_eq_true rfl) ?_
  show zBW _ _ _ _ _ _ _ [.ref 1, .int x1, .int x2, .ref 0, .null] _ _ _ _ _
  refine zB_aload_n (pc := 0) dL_thinks_0 rfl ?_
  refine zB_iconst (pc := 1) (0 : Int32) dL_thinks_1 (by decide) ?_
  refine zB_aload_n (pc := 2) dL_thinks_2 rfl ?_
  refine zB_iload_n (pc := 3) dL_thinks_3 rfl ?_
  refine zB_iload_n (pc := 4) dL_thinks_4 rfl ?_
  refine zB_callFX (B := 1) (pc := 5) (b := 0) (As := [.int x1, .int x2]) (n := nX g) (S := SX g) (μ := μ) (E := "java/util/NoSuchElementException") (nm := "java/util/NoSuchElementException") (px := []) (x := ⟨0, 10, 13, 22⟩) (sx := [⟨0, 10, 17, 13⟩]) (i := 4) (ln := 2) kvL_18 klL_18 (zMR_ex rfl (t8_thinks x1 x2 μ) h) (by decide) (by omega) (sx_0 g) rfl rfl (Nat.le_of_ble_eq_true rfl) zSW_sub (Nat.le_refl _) (zSW_wf g) (by omega) (zwfG g) dL_thinks_5 rfl (fun z hz => by cases hz) (by decide) rfl (by decide) kxL_22 kxc_22 (Or.inr ⟨dL_thinks_13, rfl⟩) (by decide) ?_
  refine zB_congr (S2 := zSW g) (μ2 := zMW f μ1) zSW_put ?_
  refine zB_iconst (pc := 15) (1 : Int32) dL_thinks_15 (by decide) ?_
  exact zB_iret (pc := 16) rfl dL_thinks_16
theorem tw_thinks_x1 {g : Bool} {x1 : Int32} {x2 : Int32} {f : Nat → Int32} {v : Int32} {μ μ1 : zMem} (h : f8_thinks x1 x2 μ = some (1, v, μ1)) : zMH [(0, 10, 13, 22), (0, 10, 17, 13)] yL_thinks cL_thinks 5 (some .int) 8 [.ref 1, .int x1, .int x2, .ref 0] (1 + nX g) (zSW g) (zMW f μ) (.inl (some (.int 2)), 1 + nX g, zSW g, zMW f μ1, 0 + 1, 0 + 6) := by
  have hg := nX_le g
  refine zMH_of (by decide +kernel) (by simp [Value.category]) (by simp) (Nat.le_of_ble_eq_true rfl) ?_
  show zBW _ _ _ _ _ _ _ [.ref 1, .int x1, .int x2, .ref 0, .null] _ _ _ _ _
  refine zB_aload_n (pc := 0) dL_thinks_0 rfl ?_
  refine zB_iconst (pc := 1) (0 : Int32) dL_thinks_1 (by decide) ?_
  refine zB_aload_n (pc := 2) dL_thinks_2 rfl ?_
  refine zB_iload_n (pc := 3) dL_thinks_3 rfl ?_
  refine zB_iload_n (pc := 4) dL_thinks_4 rfl ?_
  refine zB_callFX (B := 1) (pc := 5) (b := 0) (As := [.int x1, .int x2]) (n := nX g) (S := SX g) (μ := μ) (E := "java/lang/IllegalArgumentException") (nm := "java/lang/IllegalArgumentException") (px := [⟨0, 10, 13, 22⟩]) (x := ⟨0, 10, 17, 13⟩) (sx := []) (i := 4) (ln := 2) kvL_18 klL_18 (zMR_ex rfl (t8_thinks x1 x2 μ) h) (by decide) (by omega) (sx_0 g) rfl rfl (Nat.le_of_ble_eq_true rfl) zSW_sub (Nat.le_refl _) (zSW_wf g) (by omega) (zwfG g) dL_thinks_5 rfl (fun z hz => by
    simp only [List.mem_cons, List.not_mem_nil, or_false] at hz
    rcases hz with rfl
    · exact ⟨by decide, "java/util/NoSuchElementException", kxL_22, by decide, by decide⟩) (by decide) rfl (by decide) kxL_13 kxc_13 (Or.inr ⟨dL_thinks_17, rfl⟩) (by decide) ?_
  refine zB_congr (S2 := zSW g) (μ2 := zMW f μ1) zSW_put ?_
  refine zB_iconst (pc := 19) (2 : Int32) dL_thinks_19 (by decide) ?_
  exact zB_iret (pc := 20) rfl dL_thinks_20
theorem tw_person {g : Bool} {x1 : Int32} {x2 : Int32} {f : Nat → Int32} {v : Int32} {μ μ1 : zMem} (h : f8_person x1 x2 μ = some (0, v, μ1)) : zMH [(0, 10, 13, 22), (0, 10, 17, 13)] yL_person cL_person 5 (some .int) 8 [.ref 1, .int x1, .int x2, .ref 0] (1 + nX g) (zSW g) (zMW f μ) (.inl (some (.int 0)), 1 + nX g, zSW g, zMW (fun i => if i = 0 then v else f i) μ1, 0 + 0, 0 + 0) := by
  have hg := nX_le g
  refine zMH_of (by decide +kernel) (by simp [Value.category]) (by simp) (Nat.le_of_ble_eq_true rfl) ?_
  show zBW _ _ _ _ _ _ _ [.ref 1, .int x1, .int x2, .ref 0, .null] _ _ _ _ _
  refine zB_aload_n (pc := 0) dL_person_0 rfl ?_
  refine zB_iconst (pc := 1) (0 : Int32) dL_person_1 (by decide) ?_
  refine zB_aload_n (pc := 2) dL_person_2 rfl ?_
  refine zB_iload_n (pc := 3) dL_person_3 rfl ?_
  refine zB_iload_n (pc := 4) dL_person_4 rfl ?_
  refine zB_callFV (B := 1) (pc := 5) (b := 0) (As := [.int x1, .int x2]) (n := nX g) (S := SX g) (μ := μ) (v := some (.int v)) kvL_24 (zMR_ok (t8_person x1 x2 μ) h) (fun q e => by cases e) (by decide) (by omega) (sx_0 g) rfl rfl (Nat.le_of_ble_eq_true rfl) zSW_sub (Nat.le_refl _) (zSW_wf g) (Nat.le_refl _) (Or.inl rfl) (by omega) (zwfG g) (by have hg := nX_le g; simp only [List.mem_cons, List.not_mem_nil, or_false, forall_eq_or_imp, forall_eq, zltEq, reduceCtorEq, false_implies, implies_true, and_true, true_and] <;> omega) (by have hg := nX_le g; simp only [List.mem_cons, List.not_mem_nil, or_false, forall_eq_or_imp, forall_eq, zltEq, reduceCtorEq, false_implies, implies_true, and_true, true_and] <;> omega) dL_person_5 ?_
  rw [Nat.sub_self, Nat.add_zero]
  refine zB_congr (S2 := zSW g) (μ2 := zMW f μ1) zSW_put ?_
  refine zB_i2l (pc := 8) dL_person_8 ?_
  refine zB_last (pc := 9) (a := 0) (rf := zn) (by omega) rfl dL_person_9 ?_
  rw [zMW_set]
  refine zB_goto (pc := 10) (tgt := 21) dL_person_10 (by decide) ?_
  refine zB_iconst (pc := 21) (0 : Int32) dL_person_21 (by decide) ?_
  exact zB_iret (pc := 22) rfl dL_person_22
theorem tw_person_x2 {g : Bool} {x1 : Int32} {x2 : Int32} {f : Nat → Int32} {v : Int32} {μ μ1 : zMem} (h : f8_person x1 x2 μ = some (2, v, μ1)) : zMH [(0, 10, 13, 22), (0, 10, 17, 13)] yL_person cL_person 5 (some .int) 8 [.ref 1, .int x1, .int x2, .ref 0] (1 + nX g) (zSW g) (zMW f μ) (.inl (some (.int 1)), 1 + nX g, zSW g, zMW f μ1, 0 + 1, 0 + 6) := by
  have hg := nX_le g
  refine zMH_of (by decide +kernel) (by simp [Value.category]) (by simp) (Nat.le_of_ble_eq_true rfl) ?_
  show zBW _ _ _ _ _ _ _ [.ref 1, .int x1, .int x2, .ref 0, .null] _ _ _ _ _
  refine zB_aload_n (pc := 0) dL_person_0 rfl ?_
  refine zB_iconst (pc := 1) (0 : Int32) dL_person_1 (by decide) ?_
  refine zB_aload_n (pc := 2) dL_person_2 rfl ?_
  refine zB_iload_n (pc := 3) dL_person_3 rfl ?_
  refine zB_iload_n (pc := 4) dL_person_4 rfl ?_
  refine zB_callFX (B := 1) (pc := 5) (b := 0) (As := [.int x1, .int x2]) (n := nX g) (S := SX g) (μ := μ) (E := "java/util/NoSuchElementException") (nm := "java/util/NoSuchElementException") (px := []) (x := ⟨0, 10, 13, 22⟩) (sx := [⟨0, 10, 17, 13⟩]) (i := 4) (ln := 2) kvL_24 klL_24 (zMR_ex rfl (t8_person x1 x2 μ) h) (by decide) (by omega) (sx_0 g) rfl rfl (Nat.le_of_ble_eq_true rfl) zSW_sub (Nat.le_refl _) (zSW_wf g) (by omega) (zwfG g) dL_person_5 rfl (fun z hz => by cases hz) (by decide) rfl (by decide) kxL_22 kxc_22 (Or.inr ⟨dL_person_13, rfl⟩) (by decide) ?_
  refine zB_congr (S2 := zSW g) (μ2 := zMW f μ1) zSW_put ?_
  refine zB_iconst (pc := 15) (1 : Int32) dL_person_15 (by decide) ?_
  exact zB_iret (pc := 16) rfl dL_person_16
theorem tw_person_x1 {g : Bool} {x1 : Int32} {x2 : Int32} {f : Nat → Int32} {v : Int32} {μ μ1 : zMem} (h : f8_person x1 x2 μ = some (1, v, μ1)) : zMH [(0, 10, 13, 22), (0, 10, 17, 13)] yL_person cL_person 5 (some .int) 8 [.ref 1, .int x1, .int x2, .ref 0] (1 + nX g) (zSW g) (zMW f μ) (.inl (some (.int 2)), 1 + nX g, zSW g, zMW f μ1, 0 + 1, 0 + 6) := by
  have hg := nX_le g
  refine zMH_of (by decide +kernel) (by simp [Value.category]) (by simp) (Nat.le_of_ble_eq_true rfl) ?_
  show zBW _ _ _ _ _ _ _ [.ref 1, .int x1, .int x2, .ref 0, .null] _ _ _ _ _
  refine zB_aload_n (pc := 0) dL_person_0 rfl ?_
  refine zB_iconst (pc := 1) (0 : Int32) dL_person_1 (by decide) ?_
  refine zB_aload_n (pc := 2) dL_person_2 rfl ?_
  refine zB_iload_n (pc := 3) dL_person_3 rfl ?_
  refine zB_iload_n (pc := 4) dL_person_4 rfl ?_
  refine zB_callFX (B := 1) (pc := 5) (b := 0) (As := [.int x1, .int x2]) (n := nX g) (S := SX g) (μ := μ) (E := "java/lang/IllegalArgumentException") (nm := "java/lang/IllegalArgumentException") (px := [⟨0, 10, 13, 22⟩]) (x := ⟨0, 10, 17, 13⟩) (sx := []) (i := 4) (ln := 2) kvL_24 klL_24 (zMR_ex rfl (t8_person x1 x2 μ) h) (by decide) (by omega) (sx_0 g) rfl rfl (Nat.le_of_ble_eq_true rfl) zSW_sub (Nat.le_refl _) (zSW_wf g) (by omega) (zwfG g) dL_person_5 rfl (fun z hz => by
    simp only [List.mem_cons, List.not_mem_nil, or_false] at hz
    rcases hz with rfl
    · exact ⟨by decide, "java/util/NoSuchElementException", kxL_22, by decide, by decide⟩) (by decide) rfl (by decide) kxL_13 kxc_13 (Or.inr ⟨dL_person_17, rfl⟩) (by decide) ?_
  refine zB_congr (S2 := zSW g) (μ2 := zMW f μ1) zSW_put ?_
  refine zB_iconst (pc := 19) (2 : Int32) dL_person_19 (by decide) ?_
  exact zB_iret (pc := 20) rfl dL_person_20
theorem tw_door {g : Bool} {x1 : Int32} {x2 : Int32} {f : Nat → Int32} {v : Int32} {μ μ1 : zMem} (h : f8_door x1 x2 μ = some (0, v, μ1)) : zMH [(0, 10, 13, 30), (0, 10, 17, 13)] yL_door cL_door 5 (some .int) 8 [.ref 1, .int x1, .int x2, .ref 0] (1 + nX g) (zSW g) (zMW f μ) (.inl (some (.int 0)), 1 + nX g, zSW g, zMW (fun i => if i = 0 then v else f i) μ1, 0 + 0, 0 + 0) := by
  have hg := nX_le g
  refine zMH_of (by decide +kernel) (by simp [Value.category]) (by simp) (Nat.le_of_ble_eq_true rfl) ?_
  show zBW _ _ _ _ _ _ _ [.ref 1, .int x1, .int x2, .ref 0, .null] _ _ _ _ _
  refine zB_aload_n (pc := 0) dL_door_0 rfl ?_
  refine zB_iconst (pc := 1) (0 : Int32) dL_door_1 (by decide) ?_
  refine zB_aload_n (pc := 2) dL_door_2 rfl ?_
  refine zB_iload_n (pc := 3) dL_door_3 rfl ?_
  refine zB_iload_n (pc := 4) dL_door_4 rfl ?_
  refine zB_callFV (B := 1) (pc := 5) (b := 0) (As := [.int x1, .int x2]) (n := nX g) (S := SX g) (μ := μ) (v := some (.int v)) kvL_27 (zMR_ok (t8_door x1 x2 μ) h) (fun q e => by cases e) (by decide) (by omega) (sx_0 g) rfl rfl (Nat.le_of_ble_eq_true rfl) zSW_sub (Nat.le_refl _) (zSW_wf g) (Nat.le_refl _) (Or.inl rfl) (by omega) (zwfG g) (by have hg := nX_le g; simp only [List.mem_cons, List.not_mem_nil, or_false, forall_eq_or_imp, forall_eq, zltEq, reduceCtorEq, false_implies, implies_true, and_true, true_and] <;> omega) (by have hg := nX_le g; simp only [List.mem_cons, List.not_mem_nil, or_false, forall_eq_or_imp, forall_eq, zltEq, reduceCtorEq, false_implies, implies_true, and_true, true_and] <;> omega) dL_door_5 ?_
  rw [Nat.sub_self, Nat.add_zero]
  refine zB_congr (S2 := zSW g) (μ2 := zMW f μ1) zSW_put ?_
  refine zB_i2l (pc := 8) dL_door_8 ?_
  refine zB_last (pc := 9) (a := 0) (rf := zn) (by omega) rfl dL_door_9 ?_
  rw [zMW_set]
  refine zB_goto (pc := 10) (tgt := 21) dL_door_10 (by decide) ?_
  refine zB_iconst (pc := 21) (0 : Int32) dL_door_21 (by decide) ?_
  exact zB_iret (pc := 22) rfl dL_door_22
theorem tw_door_x3 {g : Bool} {x1 : Int32} {x2 : Int32} {f : Nat → Int32} {v : Int32} {μ μ1 : zMem} (h : f8_door x1 x2 μ = some (3, v, μ1)) : zMH [(0, 10, 13, 30), (0, 10, 17, 13)] yL_door cL_door 5 (some .int) 8 [.ref 1, .int x1, .int x2, .ref 0] (1 + nX g) (zSW g) (zMW f μ) (.inl (some (.int 1)), 1 + nX g, zSW g, zMW f μ1, 0 + 1, 0 + 6) := by
  have hg := nX_le g
  refine zMH_of (by decide +kernel) (by simp [Value.category]) (by simp) (Nat.le_of_ble_eq_true rfl) ?_
  show zBW _ _ _ _ _ _ _ [.ref 1, .int x1, .int x2, .ref 0, .null] _ _ _ _ _
  refine zB_aload_n (pc := 0) dL_door_0 rfl ?_
  refine zB_iconst (pc := 1) (0 : Int32) dL_door_1 (by decide) ?_
  refine zB_aload_n (pc := 2) dL_door_2 rfl ?_
  refine zB_iload_n (pc := 3) dL_door_3 rfl ?_
  refine zB_iload_n (pc := 4) dL_door_4 rfl ?_
  refine zB_callFX (B := 1) (pc := 5) (b := 0) (As := [.int x1, .int x2]) (n := nX g) (S := SX g) (μ := μ) (E := "java/lang/IndexOutOfBoundsException") (nm := "java/lang/IndexOutOfBoundsException") (px := []) (x := ⟨0, 10, 13, 30⟩) (sx := [⟨0, 10, 17, 13⟩]) (i := 4) (ln := 2) kvL_27 klL_27 (zMR_ex rfl (t8_door x1 x2 μ) h) (by decide) (by omega) (sx_0 g) rfl rfl (Nat.le_of_ble_eq_true rfl) zSW_sub (Nat.le_refl _) (zSW_wf g) (by omega) (zwfG g) dL_door_5 rfl (fun z hz => by cases hz) (by decide) rfl (by decide) kxL_30 kxc_30 (Or.inr ⟨dL_door_13, rfl⟩) (by decide) ?_
  refine zB_congr (S2 := zSW g) (μ2 := zMW f μ1) zSW_put ?_
  refine zB_iconst (pc := 15) (1 : Int32) dL_door_15 (by decide) ?_
  exact zB_iret (pc := 16) rfl dL_door_16
theorem tw_door_x1 {g : Bool} {x1 : Int32} {x2 : Int32} {f : Nat → Int32} {v : Int32} {μ μ1 : zMem} (h : f8_door x1 x2 μ = some (1, v, μ1)) : zMH [(0, 10, 13, 30), (0, 10, 17, 13)] yL_door cL_door 5 (some .int) 8 [.ref 1, .int x1, .int x2, .ref 0] (1 + nX g) (zSW g) (zMW f μ) (.inl (some (.int 2)), 1 + nX g, zSW g, zMW f μ1, 0 + 1, 0 + 6) := by
  have hg := nX_le g
  refine zMH_of (by decide +kernel) (by simp [Value.category]) (by simp) (Nat.le_of_ble_eq_true rfl) ?_
  show zBW _ _ _ _ _ _ _ [.ref 1, .int x1, .int x2, .ref 0, .null] _ _ _ _ _
  refine zB_aload_n (pc := 0) dL_door_0 rfl ?_
  refine zB_iconst (pc := 1) (0 : Int32) dL_door_1 (by decide) ?_
  refine zB_aload_n (pc := 2) dL_door_2 rfl ?_
  refine zB_iload_n (pc := 3) dL_door_3 rfl ?_
  refine zB_iload_n (pc := 4) dL_door_4 rfl ?_
  refine zB_callFX (B := 1) (pc := 5) (b := 0) (As := [.int x1, .int x2]) (n := nX g) (S := SX g) (μ := μ) (E := "java/lang/IllegalArgumentException") (nm := "java/lang/IllegalArgumentException") (px := [⟨0, 10, 13, 30⟩]) (x := ⟨0, 10, 17, 13⟩) (sx := []) (i := 4) (ln := 2) kvL_27 klL_27 (zMR_ex rfl (t8_door x1 x2 μ) h) (by decide) (by omega) (sx_0 g) rfl rfl (Nat.le_of_ble_eq_true rfl) zSW_sub (Nat.le_refl _) (zSW_wf g) (by omega) (zwfG g) dL_door_5 rfl (fun z hz => by
    simp only [List.mem_cons, List.not_mem_nil, or_false] at hz
    rcases hz with rfl
    · exact ⟨by decide, "java/lang/IndexOutOfBoundsException", kxL_30, by decide, by decide⟩) (by decide) rfl (by decide) kxL_13 kxc_13 (Or.inr ⟨dL_door_17, rfl⟩) (by decide) ?_
  refine zB_congr (S2 := zSW g) (μ2 := zMW f μ1) zSW_put ?_
  refine zB_iconst (pc := 19) (2 : Int32) dL_door_19 (by decide) ?_
  exact zB_iret (pc := 20) rfl dL_door_20
theorem tw_slate {g : Bool} {x1 : Int32} {f : Nat → Int32} {v : Int32} {μ μ1 : zMem} (h : f8_slate x1 μ = some (0, v, μ1)) : zMH [(0, 9, 12, 13)] yL_slate cL_slate 4 (some .int) 8 [.ref 1, .int x1, .ref 0] (1 + nX g) (zSW g) (zMW f μ) (.inl (some (.int 0)), 1 + nX g, zSW g, zMW (fun i => if i = 0 then v else f i) μ1, 0 + 0, 0 + 0) := by
  have hg := nX_le g
  refine zMH_of (by decide +kernel) (by simp [Value.category]) (by simp) (Nat.le_of_ble_eq_true rfl) ?_
  show zBW _ _ _ _ _ _ _ [.ref 1, .int x1, .ref 0, .null] _ _ _ _ _
  refine zB_aload_n (pc := 0) dL_slate_0 rfl ?_
  refine zB_iconst (pc := 1) (0 : Int32) dL_slate_1 (by decide) ?_
  refine zB_aload_n (pc := 2) dL_slate_2 rfl ?_
  refine zB_iload_n (pc := 3) dL_slate_3 rfl ?_
  refine zB_callFV (B := 1) (pc := 4) (b := 0) (As := [.int x1]) (n := nX g) (S := SX g) (μ := μ) (v := some (.int v)) kvL_32 (zMR_ok (t8_slate x1 μ) h) (fun q e => by cases e) (by decide) (by omega) (sx_0 g) rfl rfl (Nat.le_of_ble_eq_true rfl) zSW_sub (Nat.le_refl _) (zSW_wf g) (Nat.le_refl _) (Or.inl rfl) (by omega) (zwfG g) (by have hg := nX_le g; simp only [List.mem_cons, List.not_mem_nil, or_false, forall_eq_or_imp, forall_eq, zltEq, reduceCtorEq, false_implies, implies_true, and_true, true_and] <;> omega) (by have hg := nX_le g; simp only [List.mem_cons, List.not_mem_nil, or_false, forall_eq_or_imp, forall_eq, zltEq, reduceCtorEq, false_implies, implies_true, and_true, true_and] <;> omega) dL_slate_4 ?_
  rw [Nat.sub_self, Nat.add_zero]
  refine zB_congr (S2 := zSW g) (μ2 := zMW f μ1) zSW_put ?_
  refine zB_i2l (pc := 7) dL_slate_7 ?_
  refine zB_last (pc := 8) (a := 0) (rf := zn) (by omega) rfl dL_slate_8 ?_
  rw [zMW_set]
  refine zB_goto (pc := 9) (tgt := 15) dL_slate_9 (by decide) ?_
  refine zB_iconst (pc := 15) (0 : Int32) dL_slate_15 (by decide) ?_
  exact zB_iret (pc := 16) rfl dL_slate_16
theorem tw_slate_x1 {g : Bool} {x1 : Int32} {f : Nat → Int32} {v : Int32} {μ μ1 : zMem} (h : f8_slate x1 μ = some (1, v, μ1)) : zMH [(0, 9, 12, 13)] yL_slate cL_slate 4 (some .int) 8 [.ref 1, .int x1, .ref 0] (1 + nX g) (zSW g) (zMW f μ) (.inl (some (.int 1)), 1 + nX g, zSW g, zMW f μ1, 0 + 1, 0 + 6) := by
  have hg := nX_le g
  refine zMH_of (by decide +kernel) (by simp [Value.category]) (by simp) (Nat.le_of_ble_eq_true rfl) ?_
  show zBW _ _ _ _ _ _ _ [.ref 1, .int x1, .ref 0, .null] _ _ _ _ _
  refine zB_aload_n (pc := 0) dL_slate_0 rfl ?_
  refine zB_iconst (pc := 1) (0 : Int32) dL_slate_1 (by decide) ?_
  refine zB_aload_n (pc := 2) dL_slate_2 rfl ?_
  refine zB_iload_n (pc := 3) dL_slate_3 rfl ?_
  refine zB_callFX (B := 1) (pc := 4) (b := 0) (As := [.int x1]) (n := nX g) (S := SX g) (μ := μ) (E := "java/lang/IllegalArgumentException") (nm := "java/lang/IllegalArgumentException") (px := []) (x := ⟨0, 9, 12, 13⟩) (sx := []) (i := 3) (ln := 1) kvL_32 klL_32 (zMR_ex rfl (t8_slate x1 μ) h) (by decide) (by omega) (sx_0 g) rfl rfl (Nat.le_of_ble_eq_true rfl) zSW_sub (Nat.le_refl _) (zSW_wf g) (by omega) (zwfG g) dL_slate_4 rfl (fun z hz => by cases hz) (by decide) rfl (by decide) kxL_13 kxc_13 (Or.inl ⟨3, dL_slate_12, rfl, rfl⟩) (by decide) ?_
  refine zB_congr (S2 := zSW g) (μ2 := zMW f μ1) zSW_put ?_
  refine zB_iconst (pc := 13) (1 : Int32) dL_slate_13 (by decide) ?_
  exact zB_iret (pc := 14) rfl dL_slate_14
theorem tw_work {g : Bool} {x1 : Int32} {x2 : Int32} {x3 : Int32} {f : Nat → Int32} {v : Int32} {μ μ1 : zMem} (h : f8_work x1 x2 x3 μ = some (0, v, μ1)) : zMH [(0, 12, 15, 30), (0, 12, 19, 22)] yL_work cL_work 6 (some .int) 8 [.ref 1, .int x1, .int x2, .int x3, .ref 0] (1 + nX g) (zSW g) (zMW f μ) (.inl (some (.int 0)), 1 + nX g, zSW g, zMW (fun i => if i = 0 then v else f i) μ1, 0 + 0, 0 + 0) := by
  have hg := nX_le g
  refine zMH_of (by decide +kernel) (by simp [Value.category]) (by simp) (Nat.le_of_ble_eq_true rfl) ?_
  show zBW _ _ _ _ _ _ _ [.ref 1, .int x1, .int x2, .int x3, .ref 0, .null] _ _ _ _ _
  refine zB_aload (pc := 0) dL_work_0 rfl ?_
  refine zB_iconst (pc := 2) (0 : Int32) dL_work_2 (by decide) ?_
  refine zB_aload_n (pc := 3) dL_work_3 rfl ?_
  refine zB_iload_n (pc := 4) dL_work_4 rfl ?_
  refine zB_iload_n (pc := 5) dL_work_5 rfl ?_
  refine zB_iload_n (pc := 6) dL_work_6 rfl ?_
  refine zB_callFV (B := 1) (pc := 7) (b := 0) (As := [.int x1, .int x2, .int x3]) (n := nX g) (S := SX g) (μ := μ) (v := some (.int v)) kvL_35 (zMR_ok (t8_work x1 x2 x3 μ) h) (fun q e => by cases e) (by decide) (by omega) (sx_0 g) rfl rfl (Nat.le_of_ble_eq_true rfl) zSW_sub (Nat.le_refl _) (zSW_wf g) (Nat.le_refl _) (Or.inl rfl) (by omega) (zwfG g) (by have hg := nX_le g; simp only [List.mem_cons, List.not_mem_nil, or_false, forall_eq_or_imp, forall_eq, zltEq, reduceCtorEq, false_implies, implies_true, and_true, true_and] <;> omega) (by have hg := nX_le g; simp only [List.mem_cons, List.not_mem_nil, or_false, forall_eq_or_imp, forall_eq, zltEq, reduceCtorEq, false_implies, implies_true, and_true, true_and] <;> omega) dL_work_7 ?_
  rw [Nat.sub_self, Nat.add_zero]
  refine zB_congr (S2 := zSW g) (μ2 := zMW f μ1) zSW_put ?_
  refine zB_i2l (pc := 10) dL_work_10 ?_
  refine zB_last (pc := 11) (a := 0) (rf := zn) (by omega) rfl dL_work_11 ?_
  rw [zMW_set]
  refine zB_goto (pc := 12) (tgt := 23) dL_work_12 (by decide) ?_
  refine zB_iconst (pc := 23) (0 : Int32) dL_work_23 (by decide) ?_
  exact zB_iret (pc := 24) rfl dL_work_24
theorem tw_work_x3 {g : Bool} {x1 : Int32} {x2 : Int32} {x3 : Int32} {f : Nat → Int32} {v : Int32} {μ μ1 : zMem} (h : f8_work x1 x2 x3 μ = some (3, v, μ1)) : zMH [(0, 12, 15, 30), (0, 12, 19, 22)] yL_work cL_work 6 (some .int) 8 [.ref 1, .int x1, .int x2, .int x3, .ref 0] (1 + nX g) (zSW g) (zMW f μ) (.inl (some (.int 1)), 1 + nX g, zSW g, zMW f μ1, 0 + 1, 0 + 6) := by
  have hg := nX_le g
  refine zMH_of (by decide +kernel) (by simp [Value.category]) (by simp) (Nat.le_of_ble_eq_true rfl) ?_
  show zBW _ _ _ _ _ _ _ [.ref 1, .int x1, .int x2, .int x3, .ref 0, .null] _ _ _ _ _
  refine zB_aload (pc := 0) dL_work_0 rfl ?_
  refine zB_iconst (pc := 2) (0 : Int32) dL_work_2 (by decide) ?_
  refine zB_aload_n (pc := 3) dL_work_3 rfl ?_
  refine zB_iload_n (pc := 4) dL_work_4 rfl ?_
  refine zB_iload_n (pc := 5) dL_work_5 rfl ?_
  refine zB_iload_n (pc := 6) dL_work_6 rfl ?_
  refine zB_callFX (B := 1) (pc := 7) (b := 0) (As := [.int x1, .int x2, .int x3]) (n := nX g) (S := SX g) (μ := μ) (E := "java/lang/IndexOutOfBoundsException") (nm := "java/lang/IndexOutOfBoundsException") (px := []) (x := ⟨0, 12, 15, 30⟩) (sx := [⟨0, 12, 19, 22⟩]) (i := 5) (ln := 2) kvL_35 klL_35 (zMR_ex rfl (t8_work x1 x2 x3 μ) h) (by decide) (by omega) (sx_0 g) rfl rfl (Nat.le_of_ble_eq_true rfl) zSW_sub (Nat.le_refl _) (zSW_wf g) (by omega) (zwfG g) dL_work_7 rfl (fun z hz => by cases hz) (by decide) rfl (by decide) kxL_30 kxc_30 (Or.inr ⟨dL_work_15, rfl⟩) (by decide) ?_
  refine zB_congr (S2 := zSW g) (μ2 := zMW f μ1) zSW_put ?_
  refine zB_iconst (pc := 17) (1 : Int32) dL_work_17 (by decide) ?_
  exact zB_iret (pc := 18) rfl dL_work_18
theorem tw_work_x2 {g : Bool} {x1 : Int32} {x2 : Int32} {x3 : Int32} {f : Nat → Int32} {v : Int32} {μ μ1 : zMem} (h : f8_work x1 x2 x3 μ = some (2, v, μ1)) : zMH [(0, 12, 15, 30), (0, 12, 19, 22)] yL_work cL_work 6 (some .int) 8 [.ref 1, .int x1, .int x2, .int x3, .ref 0] (1 + nX g) (zSW g) (zMW f μ) (.inl (some (.int 2)), 1 + nX g, zSW g, zMW f μ1, 0 + 1, 0 + 6) := by
  have hg := nX_le g
  refine zMH_of (by decide +kernel) (by simp [Value.category]) (by simp) (Nat.le_of_ble_eq_true rfl) ?_
  show zBW _ _ _ _ _ _ _ [.ref 1, .int x1, .int x2, .int x3, .ref 0, .null] _ _ _ _ _
  refine zB_aload (pc := 0) dL_work_0 rfl ?_
  refine zB_iconst (pc := 2) (0 : Int32) dL_work_2 (by decide) ?_
  refine zB_aload_n (pc := 3) dL_work_3 rfl ?_
  refine zB_iload_n (pc := 4) dL_work_4 rfl ?_
  refine zB_iload_n (pc := 5) dL_work_5 rfl ?_
  refine zB_iload_n (pc := 6) dL_work_6 rfl ?_
  refine zB_callFX (B := 1) (pc := 7) (b := 0) (As := [.int x1, .int x2, .int x3]) (n := nX g) (S := SX g) (μ := μ) (E := "java/util/NoSuchElementException") (nm := "java/util/NoSuchElementException") (px := [⟨0, 12, 15, 30⟩]) (x := ⟨0, 12, 19, 22⟩) (sx := []) (i := 5) (ln := 2) kvL_35 klL_35 (zMR_ex rfl (t8_work x1 x2 x3 μ) h) (by decide) (by omega) (sx_0 g) rfl rfl (Nat.le_of_ble_eq_true rfl) zSW_sub (Nat.le_refl _) (zSW_wf g) (by omega) (zwfG g) dL_work_7 rfl (fun z hz => by
    simp only [List.mem_cons, List.not_mem_nil, or_false] at hz
    rcases hz with rfl
    · exact ⟨by decide, "java/lang/IndexOutOfBoundsException", kxL_30, by decide, by decide⟩) (by decide) rfl (by decide) kxL_22 kxc_22 (Or.inr ⟨dL_work_19, rfl⟩) (by decide) ?_
  refine zB_congr (S2 := zSW g) (μ2 := zMW f μ1) zSW_put ?_
  refine zB_iconst (pc := 21) (2 : Int32) dL_work_21 (by decide) ?_
  exact zB_iret (pc := 22) rfl dL_work_22
theorem tw_may {g : Bool} {x1 : Int32} {x2 : Int32} {x3 : Int32} {f : Nat → Int32} {v : Int32} {μ μ1 : zMem} (h : f8_may x1 x2 x3 μ = some (0, v, μ1)) : zMH [(0, 12, 15, 30), (0, 12, 19, 22)] yL_may cL_may 6 (some .int) 8 [.ref 1, .int x1, .int x2, .int x3, .ref 0] (1 + nX g) (zSW g) (zMW f μ) (.inl (some (.int 0)), 1 + nX g, zSW g, zMW (fun i => if i = 0 then v else f i) μ1, 0 + 0, 0 + 0) := by
  have hg := nX_le g
  refine zMH_of (by decide +kernel) (by simp [Value.category]) (by simp) (Nat.le_of_ble_eq_true rfl) ?_
  show zBW _ _ _ _ _ _ _ [.ref 1, .int x1, .int x2, .int x3, .ref 0, .null] _ _ _ _ _
  refine zB_aload (pc := 0) dL_may_0 rfl ?_
  refine zB_iconst (pc := 2) (0 : Int32) dL_may_2 (by decide) ?_
  refine zB_aload_n (pc := 3) dL_may_3 rfl ?_
  refine zB_iload_n (pc := 4) dL_may_4 rfl ?_
  refine zB_iload_n (pc := 5) dL_may_5 rfl ?_
  refine zB_iload_n (pc := 6) dL_may_6 rfl ?_
  refine zB_callFV (B := 1) (pc := 7) (b := 0) (As := [.int x1, .int x2, .int x3]) (n := nX g) (S := SX g) (μ := μ) (v := some (.int v)) kvL_39 (zMR_ok (t8_may x1 x2 x3 μ) h) (fun q e => by cases e) (by decide) (by omega) (sx_0 g) rfl rfl (Nat.le_of_ble_eq_true rfl) zSW_sub (Nat.le_refl _) (zSW_wf g) (Nat.le_refl _) (Or.inl rfl) (by omega) (zwfG g) (by have hg := nX_le g; simp only [List.mem_cons, List.not_mem_nil, or_false, forall_eq_or_imp, forall_eq, zltEq, reduceCtorEq, false_implies, implies_true, and_true, true_and] <;> omega) (by have hg := nX_le g; simp only [List.mem_cons, List.not_mem_nil, or_false, forall_eq_or_imp, forall_eq, zltEq, reduceCtorEq, false_implies, implies_true, and_true, true_and] <;> omega) dL_may_7 ?_
  rw [Nat.sub_self, Nat.add_zero]
  refine zB_congr (S2 := zSW g) (μ2 := zMW f μ1) zSW_put ?_
  refine zB_i2l (pc := 10) dL_may_10 ?_
  refine zB_last (pc := 11) (a := 0) (rf := zn) (by omega) rfl dL_may_11 ?_
  rw [zMW_set]
  refine zB_goto (pc := 12) (tgt := 23) dL_may_12 (by decide) ?_
  refine zB_iconst (pc := 23) (0 : Int32) dL_may_23 (by decide) ?_
  exact zB_iret (pc := 24) rfl dL_may_24
theorem tw_may_x3 {g : Bool} {x1 : Int32} {x2 : Int32} {x3 : Int32} {f : Nat → Int32} {v : Int32} {μ μ1 : zMem} (h : f8_may x1 x2 x3 μ = some (3, v, μ1)) : zMH [(0, 12, 15, 30), (0, 12, 19, 22)] yL_may cL_may 6 (some .int) 8 [.ref 1, .int x1, .int x2, .int x3, .ref 0] (1 + nX g) (zSW g) (zMW f μ) (.inl (some (.int 1)), 1 + nX g, zSW g, zMW f μ1, 0 + 1, 0 + 6) := by
  have hg := nX_le g
  refine zMH_of (by decide +kernel) (by simp [Value.category]) (by simp) (Nat.le_of_ble_eq_true rfl) ?_
  show zBW _ _ _ _ _ _ _ [.ref 1, .int x1, .int x2, .int x3, .ref 0, .null] _ _ _ _ _
  refine zB_aload (pc := 0) dL_may_0 rfl ?_
  refine zB_iconst (pc := 2) (0 : Int32) dL_may_2 (by decide) ?_
  refine zB_aload_n (pc := 3) dL_may_3 rfl ?_
  refine zB_iload_n (pc := 4) dL_may_4 rfl ?_
  refine zB_iload_n (pc := 5) dL_may_5 rfl ?_
  refine zB_iload_n (pc := 6) dL_may_6 rfl ?_
  refine zB_callFX (B := 1) (pc := 7) (b := 0) (As := [.int x1, .int x2, .int x3]) (n := nX g) (S := SX g) (μ := μ) (E := "java/lang/IndexOutOfBoundsException") (nm := "java/lang/IndexOutOfBoundsException") (px := []) (x := ⟨0, 12, 15, 30⟩) (sx := [⟨0, 12, 19, 22⟩]) (i := 5) (ln := 2) kvL_39 klL_39 (zMR_ex rfl (t8_may x1 x2 x3 μ) h) (by decide) (by omega) (sx_0 g) rfl rfl (Nat.le_of_ble_eq_true rfl) zSW_sub (Nat.le_refl _) (zSW_wf g) (by omega) (zwfG g) dL_may_7 rfl (fun z hz => by cases hz) (by decide) rfl (by decide) kxL_30 kxc_30 (Or.inr ⟨dL_may_15, rfl⟩) (by decide) ?_
  refine zB_congr (S2 := zSW g) (μ2 := zMW f μ1) zSW_put ?_
  refine zB_iconst (pc := 17) (1 : Int32) dL_may_17 (by decide) ?_
  exact zB_iret (pc := 18) rfl dL_may_18
theorem tw_may_x2 {g : Bool} {x1 : Int32} {x2 : Int32} {x3 : Int32} {f : Nat → Int32} {v : Int32} {μ μ1 : zMem} (h : f8_may x1 x2 x3 μ = some (2, v, μ1)) : zMH [(0, 12, 15, 30), (0, 12, 19, 22)] yL_may cL_may 6 (some .int) 8 [.ref 1, .int x1, .int x2, .int x3, .ref 0] (1 + nX g) (zSW g) (zMW f μ) (.inl (some (.int 2)), 1 + nX g, zSW g, zMW f μ1, 0 + 1, 0 + 6) := by
  have hg := nX_le g
  refine zMH_of (by decide +kernel) (by simp [Value.category]) (by simp) (Nat.le_of_ble_eq_true rfl) ?_
  show zBW _ _ _ _ _ _ _ [.ref 1, .int x1, .int x2, .int x3, .ref 0, .null] _ _ _ _ _
  refine zB_aload (pc := 0) dL_may_0 rfl ?_
  refine zB_iconst (pc := 2) (0 : Int32) dL_may_2 (by decide) ?_
  refine zB_aload_n (pc := 3) dL_may_3 rfl ?_
  refine zB_iload_n (pc := 4) dL_may_4 rfl ?_
  refine zB_iload_n (pc := 5) dL_may_5 rfl ?_
  refine zB_iload_n (pc := 6) dL_may_6 rfl ?_
  refine zB_callFX (B := 1) (pc := 7) (b := 0) (As := [.int x1, .int x2, .int x3]) (n := nX g) (S := SX g) (μ := μ) (E := "java/util/NoSuchElementException") (nm := "java/util/NoSuchElementException") (px := [⟨0, 12, 15, 30⟩]) (x := ⟨0, 12, 19, 22⟩) (sx := []) (i := 5) (ln := 2) kvL_39 klL_39 (zMR_ex rfl (t8_may x1 x2 x3 μ) h) (by decide) (by omega) (sx_0 g) rfl rfl (Nat.le_of_ble_eq_true rfl) zSW_sub (Nat.le_refl _) (zSW_wf g) (by omega) (zwfG g) dL_may_7 rfl (fun z hz => by
    simp only [List.mem_cons, List.not_mem_nil, or_false] at hz
    rcases hz with rfl
    · exact ⟨by decide, "java/lang/IndexOutOfBoundsException", kxL_30, by decide, by decide⟩) (by decide) rfl (by decide) kxL_22 kxc_22 (Or.inr ⟨dL_may_19, rfl⟩) (by decide) ?_
  refine zB_congr (S2 := zSW g) (μ2 := zMW f μ1) zSW_put ?_
  refine zB_iconst (pc := 21) (2 : Int32) dL_may_21 (by decide) ?_
  exact zB_iret (pc := 22) rfl dL_may_22
theorem tw_next {g : Bool} {f : Nat → Int32} {v : Int32} {μ μ1 : zMem} (h : f8_next  μ = some (0, v, μ1)) : zMH [(0, 8, 11, 46)] yL_next cL_next 3 (some .int) 7 [.ref 1, .ref 0] (1 + nX g) (zSW g) (zMW f μ) (.inl (some (.int 0)), 1 + nX g, zSW g, zMW (fun i => if i = 0 then v else f i) μ1, 0 + 0, 0 + 0) := by
  have hg := nX_le g
  refine zMH_of (by decide +kernel) (by simp [Value.category]) (by simp) (Nat.le_of_ble_eq_true rfl) ?_
  show zBW _ _ _ _ _ _ _ [.ref 1, .ref 0, .null] _ _ _ _ _
  refine zB_aload_n (pc := 0) dL_next_0 rfl ?_
  refine zB_iconst (pc := 1) (0 : Int32) dL_next_1 (by decide) ?_
  refine zB_aload_n (pc := 2) dL_next_2 rfl ?_
  refine zB_callFV (B := 1) (pc := 3) (b := 0) (As := []) (n := nX g) (S := SX g) (μ := μ) (v := some (.int v)) kvL_42 (zMR_ok (t8_next μ) h) (fun q e => by cases e) (by decide) (by omega) (sx_0 g) rfl rfl (Nat.le_of_ble_eq_true rfl) zSW_sub (Nat.le_refl _) (zSW_wf g) (Nat.le_refl _) (Or.inl rfl) (by omega) (zwfG g) (by have hg := nX_le g; simp only [List.mem_cons, List.not_mem_nil, or_false, forall_eq_or_imp, forall_eq, zltEq, reduceCtorEq, false_implies, implies_true, and_true, true_and] <;> omega) (by have hg := nX_le g; simp only [List.mem_cons, List.not_mem_nil, or_false, forall_eq_or_imp, forall_eq, zltEq, reduceCtorEq, false_implies, implies_true, and_true, true_and] <;> omega) dL_next_3 ?_
  rw [Nat.sub_self, Nat.add_zero]
  refine zB_congr (S2 := zSW g) (μ2 := zMW f μ1) zSW_put ?_
  refine zB_i2l (pc := 6) dL_next_6 ?_
  refine zB_last (pc := 7) (a := 0) (rf := zn) (by omega) rfl dL_next_7 ?_
  rw [zMW_set]
  refine zB_goto (pc := 8) (tgt := 14) dL_next_8 (by decide) ?_
  refine zB_iconst (pc := 14) (0 : Int32) dL_next_14 (by decide) ?_
  exact zB_iret (pc := 15) rfl dL_next_15
theorem tw_next_x4 {g : Bool} {f : Nat → Int32} {v : Int32} {μ μ1 : zMem} (h : f8_next  μ = some (4, v, μ1)) : zMH [(0, 8, 11, 46)] yL_next cL_next 3 (some .int) 7 [.ref 1, .ref 0] (1 + nX g) (zSW g) (zMW f μ) (.inl (some (.int 1)), 1 + nX g, zSW g, zMW f μ1, 0 + 1, 0 + 6) := by
  have hg := nX_le g
  refine zMH_of (by decide +kernel) (by simp [Value.category]) (by simp) (Nat.le_of_ble_eq_true rfl) ?_
  show zBW _ _ _ _ _ _ _ [.ref 1, .ref 0, .null] _ _ _ _ _
  refine zB_aload_n (pc := 0) dL_next_0 rfl ?_
  refine zB_iconst (pc := 1) (0 : Int32) dL_next_1 (by decide) ?_
  refine zB_aload_n (pc := 2) dL_next_2 rfl ?_
  refine zB_callFX (B := 1) (pc := 3) (b := 0) (As := []) (n := nX g) (S := SX g) (μ := μ) (E := "java/lang/IllegalStateException") (nm := "java/lang/IllegalStateException") (px := []) (x := ⟨0, 8, 11, 46⟩) (sx := []) (i := 2) (ln := 1) kvL_42 klL_42 (zMR_ex rfl (t8_next μ) h) (by decide) (by omega) (sx_0 g) rfl rfl (Nat.le_of_ble_eq_true rfl) zSW_sub (Nat.le_refl _) (zSW_wf g) (by omega) (zwfG g) dL_next_3 rfl (fun z hz => by cases hz) (by decide) rfl (by decide) kxL_46 kxc_46 (Or.inl ⟨2, dL_next_11, rfl, rfl⟩) (by decide) ?_
  refine zB_congr (S2 := zSW g) (μ2 := zMW f μ1) zSW_put ?_
  refine zB_iconst (pc := 12) (1 : Int32) dL_next_12 (by decide) ?_
  exact zB_iret (pc := 13) rfl dL_next_13
theorem tw_talk {g : Bool} {x1 : Int32} {x2 : Int32} {x3 : Int32} {f : Nat → Int32} {v : Int32} {μ μ1 : zMem} (h : f8_talk x1 x2 x3 μ = some (0, v, μ1)) : zMH [(0, 12, 15, 22), (0, 12, 19, 13)] yL_talk cL_talk 6 (some .int) 8 [.ref 1, .int x1, .int x2, .int x3, .ref 0] (1 + nX g) (zSW g) (zMW f μ) (.inl (some (.int 0)), 1 + nX g, zSW g, zMW (fun i => if i = 0 then v else f i) μ1, 0 + 0, 0 + 0) := by
  have hg := nX_le g
  refine zMH_of (by decide +kernel) (by simp [Value.category]) (by simp) (Nat.le_of_ble_eq_true rfl) ?_
  show zBW _ _ _ _ _ _ _ [.ref 1, .int x1, .int x2, .int x3, .ref 0, .null] _ _ _ _ _
  refine zB_aload (pc := 0) dL_talk_0 rfl ?_
  refine zB_iconst (pc := 2) (0 : Int32) dL_talk_2 (by decide) ?_
  refine zB_aload_n (pc := 3) dL_talk_3 rfl ?_
  refine zB_iload_n (pc := 4) dL_talk_4 rfl ?_
  refine zB_iload_n (pc := 5) dL_talk_5 rfl ?_
  refine zB_iload_n (pc := 6) dL_talk_6 rfl ?_
  refine zB_callFV (B := 1) (pc := 7) (b := 0) (As := [.int x1, .int x2, .int x3]) (n := nX g) (S := SX g) (μ := μ) (v := some (.int v)) kvL_48 (zMR_ok (t8_talk x1 x2 x3 μ) h) (fun q e => by cases e) (by decide) (by omega) (sx_0 g) rfl rfl (Nat.le_of_ble_eq_true rfl) zSW_sub (Nat.le_refl _) (zSW_wf g) (Nat.le_refl _) (Or.inl rfl) (by omega) (zwfG g) (by have hg := nX_le g; simp only [List.mem_cons, List.not_mem_nil, or_false, forall_eq_or_imp, forall_eq, zltEq, reduceCtorEq, false_implies, implies_true, and_true, true_and] <;> omega) (by have hg := nX_le g; simp only [List.mem_cons, List.not_mem_nil, or_false, forall_eq_or_imp, forall_eq, zltEq, reduceCtorEq, false_implies, implies_true, and_true, true_and] <;> omega) dL_talk_7 ?_
  rw [Nat.sub_self, Nat.add_zero]
  refine zB_congr (S2 := zSW g) (μ2 := zMW f μ1) zSW_put ?_
  refine zB_i2l (pc := 10) dL_talk_10 ?_
  refine zB_last (pc := 11) (a := 0) (rf := zn) (by omega) rfl dL_talk_11 ?_
  rw [zMW_set]
  refine zB_goto (pc := 12) (tgt := 23) dL_talk_12 (by decide) ?_
  refine zB_iconst (pc := 23) (0 : Int32) dL_talk_23 (by decide) ?_
  exact zB_iret (pc := 24) rfl dL_talk_24
theorem tw_talk_x2 {g : Bool} {x1 : Int32} {x2 : Int32} {x3 : Int32} {f : Nat → Int32} {v : Int32} {μ μ1 : zMem} (h : f8_talk x1 x2 x3 μ = some (2, v, μ1)) : zMH [(0, 12, 15, 22), (0, 12, 19, 13)] yL_talk cL_talk 6 (some .int) 8 [.ref 1, .int x1, .int x2, .int x3, .ref 0] (1 + nX g) (zSW g) (zMW f μ) (.inl (some (.int 1)), 1 + nX g, zSW g, zMW f μ1, 0 + 1, 0 + 6) := by
  have hg := nX_le g
  refine zMH_of (by decide +kernel) (by simp [Value.category]) (by simp) (Nat.le_of_ble_eq_true rfl) ?_
  show zBW _ _ _ _ _ _ _ [.ref 1, .int x1, .int x2, .int x3, .ref 0, .null] _ _ _ _ _
  refine zB_aload (pc := 0) dL_talk_0 rfl ?_
  refine zB_iconst (pc := 2) (0 : Int32) dL_talk_2 (by decide) ?_
  refine zB_aload_n (pc := 3) dL_talk_3 rfl ?_
  refine zB_iload_n (pc := 4) dL_talk_4 rfl ?_
  refine zB_iload_n (pc := 5) dL_talk_5 rfl ?_
  refine zB_iload_n (pc := 6) dL_talk_6 rfl ?_
  refine zB_callFX (B := 1) (pc := 7) (b := 0) (As := [.int x1, .int x2, .int x3]) (n := nX g) (S := SX g) (μ := μ) (E := "java/util/NoSuchElementException") (nm := "java/util/NoSuchElementException") (px := []) (x := ⟨0, 12, 15, 22⟩) (sx := [⟨0, 12, 19, 13⟩]) (i := 5) (ln := 2) kvL_48 klL_48 (zMR_ex rfl (t8_talk x1 x2 x3 μ) h) (by decide) (by omega) (sx_0 g) rfl rfl (Nat.le_of_ble_eq_true rfl) zSW_sub (Nat.le_refl _) (zSW_wf g) (by omega) (zwfG g) dL_talk_7 rfl (fun z hz => by cases hz) (by decide) rfl (by decide) kxL_22 kxc_22 (Or.inr ⟨dL_talk_15, rfl⟩) (by decide) ?_
  refine zB_congr (S2 := zSW g) (μ2 := zMW f μ1) zSW_put ?_
  refine zB_iconst (pc := 17) (1 : Int32) dL_talk_17 (by decide) ?_
  exact zB_iret (pc := 18) rfl dL_talk_18
theorem tw_talk_x1 {g : Bool} {x1 : Int32} {x2 : Int32} {x3 : Int32} {f : Nat → Int32} {v : Int32} {μ μ1 : zMem} (h : f8_talk x1 x2 x3 μ = some (1, v, μ1)) : zMH [(0, 12, 15, 22), (0, 12, 19, 13)] yL_talk cL_talk 6 (some .int) 8 [.ref 1, .int x1, .int x2, .int x3, .ref 0] (1 + nX g) (zSW g) (zMW f μ) (.inl (some (.int 2)), 1 + nX g, zSW g, zMW f μ1, 0 + 1, 0 + 6) := by
  have hg := nX_le g
  refine zMH_of (by decide +kernel) (by simp [Value.category]) (by simp) (Nat.le_of_ble_eq_true rfl) ?_
  show zBW _ _ _ _ _ _ _ [.ref 1, .int x1, .int x2, .int x3, .ref 0, .null] _ _ _ _ _
  refine zB_aload (pc := 0) dL_talk_0 rfl ?_
  refine zB_iconst (pc := 2) (0 : Int32) dL_talk_2 (by decide) ?_
  refine zB_aload_n (pc := 3) dL_talk_3 rfl ?_
  refine zB_iload_n (pc := 4) dL_talk_4 rfl ?_
  refine zB_iload_n (pc := 5) dL_talk_5 rfl ?_
  refine zB_iload_n (pc := 6) dL_talk_6 rfl ?_
  refine zB_callFX (B := 1) (pc := 7) (b := 0) (As := [.int x1, .int x2, .int x3]) (n := nX g) (S := SX g) (μ := μ) (E := "java/lang/IllegalArgumentException") (nm := "java/lang/IllegalArgumentException") (px := [⟨0, 12, 15, 22⟩]) (x := ⟨0, 12, 19, 13⟩) (sx := []) (i := 5) (ln := 2) kvL_48 klL_48 (zMR_ex rfl (t8_talk x1 x2 x3 μ) h) (by decide) (by omega) (sx_0 g) rfl rfl (Nat.le_of_ble_eq_true rfl) zSW_sub (Nat.le_refl _) (zSW_wf g) (by omega) (zwfG g) dL_talk_7 rfl (fun z hz => by
    simp only [List.mem_cons, List.not_mem_nil, or_false] at hz
    rcases hz with rfl
    · exact ⟨by decide, "java/util/NoSuchElementException", kxL_22, by decide, by decide⟩) (by decide) rfl (by decide) kxL_13 kxc_13 (Or.inr ⟨dL_talk_19, rfl⟩) (by decide) ?_
  refine zB_congr (S2 := zSW g) (μ2 := zMW f μ1) zSW_put ?_
  refine zB_iconst (pc := 21) (2 : Int32) dL_talk_21 (by decide) ?_
  exact zB_iret (pc := 22) rfl dL_talk_22
theorem tw_earned {g : Bool} {x1 : Int32} {f : Nat → Int32} {v : Int32} {μ μ1 : zMem} (h : f8_earned x1 μ = some (0, v, μ1)) : zMH [(0, 9, 12, 13)] yL_earned cL_earned 4 (some .int) 8 [.ref 1, .int x1, .ref 0] (1 + nX g) (zSW g) (zMW f μ) (.inl (some (.int 0)), 1 + nX g, zSW g, zMW (fun i => if i = 0 then v else f i) μ1, 0 + 0, 0 + 0) := by
  have hg := nX_le g
  refine zMH_of (by decide +kernel) (by simp [Value.category]) (by simp) (Nat.le_of_ble_eq_true rfl) ?_
  show zBW _ _ _ _ _ _ _ [.ref 1, .int x1, .ref 0, .null] _ _ _ _ _
  refine zB_aload_n (pc := 0) dL_earned_0 rfl ?_
  refine zB_iconst (pc := 1) (0 : Int32) dL_earned_1 (by decide) ?_
  refine zB_aload_n (pc := 2) dL_earned_2 rfl ?_
  refine zB_iload_n (pc := 3) dL_earned_3 rfl ?_
  refine zB_callFV (B := 1) (pc := 4) (b := 0) (As := [.int x1]) (n := nX g) (S := SX g) (μ := μ) (v := some (.int v)) kvL_51 (zMR_ok (t8_earned x1 μ) h) (fun q e => by cases e) (by decide) (by omega) (sx_0 g) rfl rfl (Nat.le_of_ble_eq_true rfl) zSW_sub (Nat.le_refl _) (zSW_wf g) (Nat.le_refl _) (Or.inl rfl) (by omega) (zwfG g) (by have hg := nX_le g; simp only [List.mem_cons, List.not_mem_nil, or_false, forall_eq_or_imp, forall_eq, zltEq, reduceCtorEq, false_implies, implies_true, and_true, true_and] <;> omega) (by have hg := nX_le g; simp only [List.mem_cons, List.not_mem_nil, or_false, forall_eq_or_imp, forall_eq, zltEq, reduceCtorEq, false_implies, implies_true, and_true, true_and] <;> omega) dL_earned_4 ?_
  rw [Nat.sub_self, Nat.add_zero]
  refine zB_congr (S2 := zSW g) (μ2 := zMW f μ1) zSW_put ?_
  refine zB_i2l (pc := 7) dL_earned_7 ?_
  refine zB_last (pc := 8) (a := 0) (rf := zn) (by omega) rfl dL_earned_8 ?_
  rw [zMW_set]
  refine zB_goto (pc := 9) (tgt := 15) dL_earned_9 (by decide) ?_
  refine zB_iconst (pc := 15) (0 : Int32) dL_earned_15 (by decide) ?_
  exact zB_iret (pc := 16) rfl dL_earned_16
theorem tw_earned_x1 {g : Bool} {x1 : Int32} {f : Nat → Int32} {v : Int32} {μ μ1 : zMem} (h : f8_earned x1 μ = some (1, v, μ1)) : zMH [(0, 9, 12, 13)] yL_earned cL_earned 4 (some .int) 8 [.ref 1, .int x1, .ref 0] (1 + nX g) (zSW g) (zMW f μ) (.inl (some (.int 1)), 1 + nX g, zSW g, zMW f μ1, 0 + 1, 0 + 6) := by
  have hg := nX_le g
  refine zMH_of (by decide +kernel) (by simp [Value.category]) (by simp) (Nat.le_of_ble_eq_true rfl) ?_
  show zBW _ _ _ _ _ _ _ [.ref 1, .int x1, .ref 0, .null] _ _ _ _ _
  refine zB_aload_n (pc := 0) dL_earned_0 rfl ?_
  refine zB_iconst (pc := 1) (0 : Int32) dL_earned_1 (by decide) ?_
  refine zB_aload_n (pc := 2) dL_earned_2 rfl ?_
  refine zB_iload_n (pc := 3) dL_earned_3 rfl ?_
  refine zB_callFX (B := 1) (pc := 4) (b := 0) (As := [.int x1]) (n := nX g) (S := SX g) (μ := μ) (E := "java/lang/IllegalArgumentException") (nm := "java/lang/IllegalArgumentException") (px := []) (x := ⟨0, 9, 12, 13⟩) (sx := []) (i := 3) (ln := 1) kvL_51 klL_51 (zMR_ex rfl (t8_earned x1 μ) h) (by decide) (by omega) (sx_0 g) rfl rfl (Nat.le_of_ble_eq_true rfl) zSW_sub (Nat.le_refl _) (zSW_wf g) (by omega) (zwfG g) dL_earned_4 rfl (fun z hz => by cases hz) (by decide) rfl (by decide) kxL_13 kxc_13 (Or.inl ⟨3, dL_earned_12, rfl, rfl⟩) (by decide) ?_
  refine zB_congr (S2 := zSW g) (μ2 := zMW f μ1) zSW_put ?_
  refine zB_iconst (pc := 13) (1 : Int32) dL_earned_13 (by decide) ?_
  exact zB_iret (pc := 14) rfl dL_earned_14
theorem tw_row {g : Bool} {x1 : Int32} {x2 : Int32} {x3 : Int32} {x4 : Int32} {f : Nat → Int32} {v : Int32} {μ μ1 : zMem} (h : f8_row x1 x2 x3 x4 μ = some (0, v, μ1)) : zMH [(0, 14, 17, 30), (0, 14, 21, 22), (0, 14, 25, 13)] yL_row cL_row 7 (some .int) 8 [.ref 1, .int x1, .int x2, .int x3, .int x4, .ref 0] (1 + nX g) (zSW g) (zMW f μ) (.inl (some (.int 0)), 1 + nX g, zSW g, zMW (fun i => if i = 0 then v else f i) μ1, 0 + 0, 0 + 0) := by
  have hg := nX_le g
  refine zMH_of (by decide +kernel) (by simp [Value.category]) (by simp) (Nat.le_of_ble_eq_true rfl) ?_
  show zBW _ _ _ _ _ _ _ [.ref 1, .int x1, .int x2, .int x3, .int x4, .ref 0, .null] _ _ _ _ _
  refine zB_aload (pc := 0) dL_row_0 rfl ?_
  refine zB_iconst (pc := 2) (0 : Int32) dL_row_2 (by decide) ?_
  refine zB_aload_n (pc := 3) dL_row_3 rfl ?_
  refine zB_iload_n (pc := 4) dL_row_4 rfl ?_
  refine zB_iload_n (pc := 5) dL_row_5 rfl ?_
  refine zB_iload_n (pc := 6) dL_row_6 rfl ?_
  refine zB_iload (pc := 7) dL_row_7 rfl ?_
  refine zB_callFV (B := 1) (pc := 9) (b := 0) (As := [.int x1, .int x2, .int x3, .int x4]) (n := nX g) (S := SX g) (μ := μ) (v := some (.int v)) kvL_54 (zMR_ok (t8_row x1 x2 x3 x4 μ) h) (fun q e => by cases e) (by decide) (by omega) (sx_0 g) rfl rfl (Nat.le_of_ble_eq_true rfl) zSW_sub (Nat.le_refl _) (zSW_wf g) (Nat.le_refl _) (Or.inl rfl) (by omega) (zwfG g) (by have hg := nX_le g; simp only [List.mem_cons, List.not_mem_nil, or_false, forall_eq_or_imp, forall_eq, zltEq, reduceCtorEq, false_implies, implies_true, and_true, true_and] <;> omega) (by have hg := nX_le g; simp only [List.mem_cons, List.not_mem_nil, or_false, forall_eq_or_imp, forall_eq, zltEq, reduceCtorEq, false_implies, implies_true, and_true, true_and] <;> omega) dL_row_9 ?_
  rw [Nat.sub_self, Nat.add_zero]
  refine zB_congr (S2 := zSW g) (μ2 := zMW f μ1) zSW_put ?_
  refine zB_i2l (pc := 12) dL_row_12 ?_
  refine zB_last (pc := 13) (a := 0) (rf := zn) (by omega) rfl dL_row_13 ?_
  rw [zMW_set]
  refine zB_goto (pc := 14) (tgt := 29) dL_row_14 (by decide) ?_
  refine zB_iconst (pc := 29) (0 : Int32) dL_row_29 (by decide) ?_
  exact zB_iret (pc := 30) rfl dL_row_30
theorem tw_row_x3 {g : Bool} {x1 : Int32} {x2 : Int32} {x3 : Int32} {x4 : Int32} {f : Nat → Int32} {v : Int32} {μ μ1 : zMem} (h : f8_row x1 x2 x3 x4 μ = some (3, v, μ1)) : zMH [(0, 14, 17, 30), (0, 14, 21, 22), (0, 14, 25, 13)] yL_row cL_row 7 (some .int) 8 [.ref 1, .int x1, .int x2, .int x3, .int x4, .ref 0] (1 + nX g) (zSW g) (zMW f μ) (.inl (some (.int 1)), 1 + nX g, zSW g, zMW f μ1, 0 + 1, 0 + 6) := by
  have hg := nX_le g
  refine zMH_of (by decide +kernel) (by simp [Value.category]) (by simp) (Nat.le_of_ble_eq_true rfl) ?_
  show zBW _ _ _ _ _ _ _ [.ref 1, .int x1, .int x2, .int x3, .int x4, .ref 0, .null] _ _ _ _ _
  refine zB_aload (pc := 0) dL_row_0 rfl ?_
  refine zB_iconst (pc := 2) (0 : Int32) dL_row_2 (by decide) ?_
  refine zB_aload_n (pc := 3) dL_row_3 rfl ?_
  refine zB_iload_n (pc := 4) dL_row_4 rfl ?_
  refine zB_iload_n (pc := 5) dL_row_5 rfl ?_
  refine zB_iload_n (pc := 6) dL_row_6 rfl ?_
  refine zB_iload (pc := 7) dL_row_7 rfl ?_
  refine zB_callFX (B := 1) (pc := 9) (b := 0) (As := [.int x1, .int x2, .int x3, .int x4]) (n := nX g) (S := SX g) (μ := μ) (E := "java/lang/IndexOutOfBoundsException") (nm := "java/lang/IndexOutOfBoundsException") (px := []) (x := ⟨0, 14, 17, 30⟩) (sx := [⟨0, 14, 21, 22⟩, ⟨0, 14, 25, 13⟩]) (i := 6) (ln := 2) kvL_54 klL_54 (zMR_ex rfl (t8_row x1 x2 x3 x4 μ) h) (by decide) (by omega) (sx_0 g) rfl rfl (Nat.le_of_ble_eq_true rfl) zSW_sub (Nat.le_refl _) (zSW_wf g) (by omega) (zwfG g) dL_row_9 rfl (fun z hz => by cases hz) (by decide) rfl (by decide) kxL_30 kxc_30 (Or.inr ⟨dL_row_17, rfl⟩) (by decide) ?_
  refine zB_congr (S2 := zSW g) (μ2 := zMW f μ1) zSW_put ?_
  refine zB_iconst (pc := 19) (1 : Int32) dL_row_19 (by decide) ?_
  exact zB_iret (pc := 20) rfl dL_row_20
theorem tw_row_x2 {g : Bool} {x1 : Int32} {x2 : Int32} {x3 : Int32} {x4 : Int32} {f : Nat → Int32} {v : Int32} {μ μ1 : zMem} (h : f8_row x1 x2 x3 x4 μ = some (2, v, μ1)) : zMH [(0, 14, 17, 30), (0, 14, 21, 22), (0, 14, 25, 13)] yL_row cL_row 7 (some .int) 8 [.ref 1, .int x1, .int x2, .int x3, .int x4, .ref 0] (1 + nX g) (zSW g) (zMW f μ) (.inl (some (.int 2)), 1 + nX g, zSW g, zMW f μ1, 0 + 1, 0 + 6) := by
  have hg := nX_le g
  refine zMH_of (by decide +kernel) (by simp [Value.category]) (by simp) (Nat.le_of_ble_eq_true rfl) ?_
  show zBW _ _ _ _ _ _ _ [.ref 1, .int x1, .int x2, .int x3, .int x4, .ref 0, .null] _ _ _ _ _
  refine zB_aload (pc := 0) dL_row_0 rfl ?_
  refine zB_iconst (pc := 2) (0 : Int32) dL_row_2 (by decide) ?_
  refine zB_aload_n (pc := 3) dL_row_3 rfl ?_
  refine zB_iload_n (pc := 4) dL_row_4 rfl ?_
  refine zB_iload_n (pc := 5) dL_row_5 rfl ?_
  refine zB_iload_n (pc := 6) dL_row_6 rfl ?_
  refine zB_iload (pc := 7) dL_row_7 rfl ?_
  refine zB_callFX (B := 1) (pc := 9) (b := 0) (As := [.int x1, .int x2, .int x3, .int x4]) (n := nX g) (S := SX g) (μ := μ) (E := "java/util/NoSuchElementException") (nm := "java/util/NoSuchElementException") (px := [⟨0, 14, 17, 30⟩]) (x := ⟨0, 14, 21, 22⟩) (sx := [⟨0, 14, 25, 13⟩]) (i := 6) (ln := 2) kvL_54 klL_54 (zMR_ex rfl (t8_row x1 x2 x3 x4 μ) h) (by decide) (by omega) (sx_0 g) rfl rfl (Nat.le_of_ble_eq_true rfl) zSW_sub (Nat.le_refl _) (zSW_wf g) (by omega) (zwfG g) dL_row_9 rfl (fun z hz => by
    simp only [List.mem_cons, List.not_mem_nil, or_false] at hz
    rcases hz with rfl
    · exact ⟨by decide, "java/lang/IndexOutOfBoundsException", kxL_30, by decide, by decide⟩) (by decide) rfl (by decide) kxL_22 kxc_22 (Or.inr ⟨dL_row_21, rfl⟩) (by decide) ?_
  refine zB_congr (S2 := zSW g) (μ2 := zMW f μ1) zSW_put ?_
  refine zB_iconst (pc := 23) (2 : Int32) dL_row_23 (by decide) ?_
  exact zB_iret (pc := 24) rfl dL_row_24
theorem tw_row_x1 {g : Bool} {x1 : Int32} {x2 : Int32} {x3 : Int32} {x4 : Int32} {f : Nat → Int32} {v : Int32} {μ μ1 : zMem} (h : f8_row x1 x2 x3 x4 μ = some (1, v, μ1)) : zMH [(0, 14, 17, 30), (0, 14, 21, 22), (0, 14, 25, 13)] yL_row cL_row 7 (some .int) 8 [.ref 1, .int x1, .int x2, .int x3, .int x4, .ref 0] (1 + nX g) (zSW g) (zMW f μ) (.inl (some (.int 3)), 1 + nX g, zSW g, zMW f μ1, 0 + 1, 0 + 6) := by
  have hg := nX_le g
  refine zMH_of (by decide +kernel) (by simp [Value.category]) (by simp) (Nat.le_of_ble_eq_true rfl) ?_
  show zBW _ _ _ _ _ _ _ [.ref 1, .int x1, .int x2, .int x3, .int x4, .ref 0, .null] _ _ _ _ _
  refine zB_aload (pc := 0) dL_row_0 rfl ?_
  refine zB_iconst (pc := 2) (0 : Int32) dL_row_2 (by decide) ?_
  refine zB_aload_n (pc := 3) dL_row_3 rfl ?_
  refine zB_iload_n (pc := 4) dL_row_4 rfl ?_
  refine zB_iload_n (pc := 5) dL_row_5 rfl ?_
  refine zB_iload_n (pc := 6) dL_row_6 rfl ?_
  refine zB_iload (pc := 7) dL_row_7 rfl ?_
  refine zB_callFX (B := 1) (pc := 9) (b := 0) (As := [.int x1, .int x2, .int x3, .int x4]) (n := nX g) (S := SX g) (μ := μ) (E := "java/lang/IllegalArgumentException") (nm := "java/lang/IllegalArgumentException") (px := [⟨0, 14, 17, 30⟩, ⟨0, 14, 21, 22⟩]) (x := ⟨0, 14, 25, 13⟩) (sx := []) (i := 6) (ln := 2) kvL_54 klL_54 (zMR_ex rfl (t8_row x1 x2 x3 x4 μ) h) (by decide) (by omega) (sx_0 g) rfl rfl (Nat.le_of_ble_eq_true rfl) zSW_sub (Nat.le_refl _) (zSW_wf g) (by omega) (zwfG g) dL_row_9 rfl (fun z hz => by
    simp only [List.mem_cons, List.not_mem_nil, or_false] at hz
    rcases hz with rfl | rfl
    · exact ⟨by decide, "java/lang/IndexOutOfBoundsException", kxL_30, by decide, by decide⟩
    · exact ⟨by decide, "java/util/NoSuchElementException", kxL_22, by decide, by decide⟩) (by decide) rfl (by decide) kxL_13 kxc_13 (Or.inr ⟨dL_row_25, rfl⟩) (by decide) ?_
  refine zB_congr (S2 := zSW g) (μ2 := zMW f μ1) zSW_put ?_
  refine zB_iconst (pc := 27) (3 : Int32) dL_row_27 (by decide) ?_
  exact zB_iret (pc := 28) rfl dL_row_28
theorem tw_judge {g : Bool} {x1 : Int32} {f : Nat → Int32} {v : Int32} {μ μ1 : zMem} (h : f8_judge x1 μ = some (0, v, μ1)) : zMH [(0, 9, 12, 13)] yL_judge cL_judge 4 (some .int) 8 [.ref 1, .int x1, .ref 0] (1 + nX g) (zSW g) (zMW f μ) (.inl (some (.int 0)), 1 + nX g, zSW g, zMW (fun i => if i = 0 then v else f i) μ1, 0 + 0, 0 + 0) := by
  have hg := nX_le g
  refine zMH_of (by decide +kernel) (by simp [Value.category]) (by simp) (Nat.le_of_ble_eq_true rfl) ?_
  show zBW _ _ _ _ _ _ _ [.ref 1, .int x1, .ref 0, .null] _ _ _ _ _
  refine zB_aload_n (pc := 0) dL_judge_0 rfl ?_
  refine zB_iconst (pc := 1) (0 : Int32) dL_judge_1 (by decide) ?_
  refine zB_aload_n (pc := 2) dL_judge_2 rfl ?_
  refine zB_iload_n (pc := 3) dL_judge_3 rfl ?_
  refine zB_callFV (B := 1) (pc := 4) (b := 0) (As := [.int x1]) (n := nX g) (S := SX g) (μ := μ) (v := some (.int v)) kvL_58 (zMR_ok (t8_judge x1 μ) h) (fun q e => by cases e) (by decide) (by omega) (sx_0 g) rfl rfl (Nat.le_of_ble_eq_true rfl) zSW_sub (Nat.le_refl _) (zSW_wf g) (Nat.le_refl _) (Or.inl rfl) (by omega) (zwfG g) (by have hg := nX_le g; simp only [List.mem_cons, List.not_mem_nil, or_false, forall_eq_or_imp, forall_eq, zltEq, reduceCtorEq, false_implies, implies_true, and_true, true_and] <;> omega) (by have hg := nX_le g; simp only [List.mem_cons, List.not_mem_nil, or_false, forall_eq_or_imp, forall_eq, zltEq, reduceCtorEq, false_implies, implies_true, and_true, true_and] <;> omega) dL_judge_4 ?_
  rw [Nat.sub_self, Nat.add_zero]
  refine zB_congr (S2 := zSW g) (μ2 := zMW f μ1) zSW_put ?_
  refine zB_i2l (pc := 7) dL_judge_7 ?_
  refine zB_last (pc := 8) (a := 0) (rf := zn) (by omega) rfl dL_judge_8 ?_
  rw [zMW_set]
  refine zB_goto (pc := 9) (tgt := 15) dL_judge_9 (by decide) ?_
  refine zB_iconst (pc := 15) (0 : Int32) dL_judge_15 (by decide) ?_
  exact zB_iret (pc := 16) rfl dL_judge_16
theorem tw_judge_x1 {g : Bool} {x1 : Int32} {f : Nat → Int32} {v : Int32} {μ μ1 : zMem} (h : f8_judge x1 μ = some (1, v, μ1)) : zMH [(0, 9, 12, 13)] yL_judge cL_judge 4 (some .int) 8 [.ref 1, .int x1, .ref 0] (1 + nX g) (zSW g) (zMW f μ) (.inl (some (.int 1)), 1 + nX g, zSW g, zMW f μ1, 0 + 1, 0 + 6) := by
  have hg := nX_le g
  refine zMH_of (by decide +kernel) (by simp [Value.category]) (by simp) (Nat.le_of_ble_eq_true rfl) ?_
  show zBW _ _ _ _ _ _ _ [.ref 1, .int x1, .ref 0, .null] _ _ _ _ _
  refine zB_aload_n (pc := 0) dL_judge_0 rfl ?_
  refine zB_iconst (pc := 1) (0 : Int32) dL_judge_1 (by decide) ?_
  refine zB_aload_n (pc := 2) dL_judge_2 rfl ?_
  refine zB_iload_n (pc := 3) dL_judge_3 rfl ?_
  refine zB_callFX (B := 1) (pc := 4) (b := 0) (As := [.int x1]) (n := nX g) (S := SX g) (μ := μ) (E := "java/lang/IllegalArgumentException") (nm := "java/lang/IllegalArgumentException") (px := []) (x := ⟨0, 9, 12, 13⟩) (sx := []) (i := 3) (ln := 1) kvL_58 klL_58 (zMR_ex rfl (t8_judge x1 μ) h) (by decide) (by omega) (sx_0 g) rfl rfl (Nat.le_of_ble_eq_true rfl) zSW_sub (Nat.le_refl _) (zSW_wf g) (by omega) (zwfG g) dL_judge_4 rfl (fun z hz => by cases hz) (by decide) rfl (by decide) kxL_13 kxc_13 (Or.inl ⟨3, dL_judge_12, rfl, rfl⟩) (by decide) ?_
  refine zB_congr (S2 := zSW g) (μ2 := zMW f μ1) zSW_put ?_
  refine zB_iconst (pc := 13) (1 : Int32) dL_judge_13 (by decide) ?_
  exact zB_iret (pc := 14) rfl dL_judge_14
theorem tw_today {g : Bool} {x1 : Int32} {x2 : Int32} {f : Nat → Int32} {v : Int32} {μ μ1 : zMem} (h : f8_today x1 x2 μ = some (0, v, μ1)) : zMH [(0, 10, 13, 13)] yL_today cL_today 5 (some .int) 9 [.ref 1, .int x1, .int x2, .ref 0] (1 + nX g) (zSW g) (zMW f μ) (.inl (some (.int 0)), 1 + nX g, zSW g, zMW (fun i => if i = 0 then v else f i) μ1, 0 + 0, 0 + 0) := by
  have hg := nX_le g
  refine zMH_of (by decide +kernel) (by simp [Value.category]) (by simp) (Nat.le_of_ble_eq_true rfl) ?_
  show zBW _ _ _ _ _ _ _ [.ref 1, .int x1, .int x2, .ref 0, .null] _ _ _ _ _
  refine zB_aload_n (pc := 0) dL_today_0 rfl ?_
  refine zB_iconst (pc := 1) (0 : Int32) dL_today_1 (by decide) ?_
  refine zB_aload_n (pc := 2) dL_today_2 rfl ?_
  refine zB_iload_n (pc := 3) dL_today_3 rfl ?_
  refine zB_iload_n (pc := 4) dL_today_4 rfl ?_
  refine zB_callFV (B := 1) (pc := 5) (b := 0) (As := [.int x1, .int x2]) (n := nX g) (S := SX g) (μ := μ) (v := some (.int v)) kvL_61 (zMR_ok (t8_today x1 x2 μ) h) (fun q e => by cases e) (by decide) (by omega) (sx_0 g) rfl rfl (Nat.le_of_ble_eq_true rfl) zSW_sub (Nat.le_refl _) (zSW_wf g) (Nat.le_refl _) (Or.inl rfl) (by omega) (zwfG g) (by have hg := nX_le g; simp only [List.mem_cons, List.not_mem_nil, or_false, forall_eq_or_imp, forall_eq, zltEq, reduceCtorEq, false_implies, implies_true, and_true, true_and] <;> omega) (by have hg := nX_le g; simp only [List.mem_cons, List.not_mem_nil, or_false, forall_eq_or_imp, forall_eq, zltEq, reduceCtorEq, false_implies, implies_true, and_true, true_and] <;> omega) dL_today_5 ?_
  rw [Nat.sub_self, Nat.add_zero]
  refine zB_congr (S2 := zSW g) (μ2 := zMW f μ1) zSW_put ?_
  refine zB_i2l (pc := 8) dL_today_8 ?_
  refine zB_last (pc := 9) (a := 0) (rf := zn) (by omega) rfl dL_today_9 ?_
  rw [zMW_set]
  refine zB_goto (pc := 10) (tgt := 17) dL_today_10 (by decide) ?_
  refine zB_iconst (pc := 17) (0 : Int32) dL_today_17 (by decide) ?_
  exact zB_iret (pc := 18) rfl dL_today_18
theorem tw_today_x1 {g : Bool} {x1 : Int32} {x2 : Int32} {f : Nat → Int32} {v : Int32} {μ μ1 : zMem} (h : f8_today x1 x2 μ = some (1, v, μ1)) : zMH [(0, 10, 13, 13)] yL_today cL_today 5 (some .int) 9 [.ref 1, .int x1, .int x2, .ref 0] (1 + nX g) (zSW g) (zMW f μ) (.inl (some (.int 1)), 1 + nX g, zSW g, zMW f μ1, 0 + 1, 0 + 6) := by
  have hg := nX_le g
  refine zMH_of (by decide +kernel) (by simp [Value.category]) (by simp) (Nat.le_of_ble_eq_true rfl) ?_
  show zBW _ _ _ _ _ _ _ [.ref 1, .int x1, .int x2, .ref 0, .null] _ _ _ _ _
  refine zB_aload_n (pc := 0) dL_today_0 rfl ?_
  refine zB_iconst (pc := 1) (0 : Int32) dL_today_1 (by decide) ?_
  refine zB_aload_n (pc := 2) dL_today_2 rfl ?_
  refine zB_iload_n (pc := 3) dL_today_3 rfl ?_
  refine zB_iload_n (pc := 4) dL_today_4 rfl ?_
  refine zB_callFX (B := 1) (pc := 5) (b := 0) (As := [.int x1, .int x2]) (n := nX g) (S := SX g) (μ := μ) (E := "java/lang/IllegalArgumentException") (nm := "java/lang/IllegalArgumentException") (px := []) (x := ⟨0, 10, 13, 13⟩) (sx := []) (i := 4) (ln := 2) kvL_61 klL_61 (zMR_ex rfl (t8_today x1 x2 μ) h) (by decide) (by omega) (sx_0 g) rfl rfl (Nat.le_of_ble_eq_true rfl) zSW_sub (Nat.le_refl _) (zSW_wf g) (by omega) (zwfG g) dL_today_5 rfl (fun z hz => by cases hz) (by decide) rfl (by decide) kxL_13 kxc_13 (Or.inr ⟨dL_today_13, rfl⟩) (by decide) ?_
  refine zB_congr (S2 := zSW g) (μ2 := zMW f μ1) zSW_put ?_
  refine zB_iconst (pc := 15) (1 : Int32) dL_today_15 (by decide) ?_
  exact zB_iret (pc := 16) rfl dL_today_16
theorem tw_pair {g : Bool} {x1 : Int32} {x2 : Int32} {f : Nat → Int32} {v : Int32} {μ μ1 : zMem} (h : f8_pair x1 x2 μ = some (0, v, μ1)) : zMH [(0, 10, 13, 13), (0, 10, 17, 30)] yL_pair cL_pair 5 (some .int) 18 [.ref 1, .int x1, .int x2, .ref 0] (1 + nX g) (zSW g) (zMW f μ) (.inl (some (.int 0)), 1 + nX g, zSW g, zMW (fun i => if i = 0 then v else f i) μ1, 0 + 0, 0 + 0) := by
  have hg := nX_le g
  refine zMH_of (by decide +kernel) (by simp [Value.category]) (by simp) (Nat.le_of_ble_eq_true rfl) ?_
  show zBW _ _ _ _ _ _ _ [.ref 1, .int x1, .int x2, .ref 0, .null] _ _ _ _ _
  refine zB_aload_n (pc := 0) dL_pair_0 rfl ?_
  refine zB_iconst (pc := 1) (0 : Int32) dL_pair_1 (by decide) ?_
  refine zB_aload_n (pc := 2) dL_pair_2 rfl ?_
  refine zB_iload_n (pc := 3) dL_pair_3 rfl ?_
  refine zB_iload_n (pc := 4) dL_pair_4 rfl ?_
  refine zB_callFV (B := 1) (pc := 5) (b := 0) (As := [.int x1, .int x2]) (n := nX g) (S := SX g) (μ := μ) (v := some (.int v)) kvL_64 (zMR_ok (t8_pair x1 x2 μ) h) (fun q e => by cases e) (by decide) (by omega) (sx_0 g) rfl rfl (Nat.le_of_ble_eq_true rfl) zSW_sub (Nat.le_refl _) (zSW_wf g) (Nat.le_refl _) (Or.inl rfl) (by omega) (zwfG g) (by have hg := nX_le g; simp only [List.mem_cons, List.not_mem_nil, or_false, forall_eq_or_imp, forall_eq, zltEq, reduceCtorEq, false_implies, implies_true, and_true, true_and] <;> omega) (by have hg := nX_le g; simp only [List.mem_cons, List.not_mem_nil, or_false, forall_eq_or_imp, forall_eq, zltEq, reduceCtorEq, false_implies, implies_true, and_true, true_and] <;> omega) dL_pair_5 ?_
  rw [Nat.sub_self, Nat.add_zero]
  refine zB_congr (S2 := zSW g) (μ2 := zMW f μ1) zSW_put ?_
  refine zB_i2l (pc := 8) dL_pair_8 ?_
  refine zB_last (pc := 9) (a := 0) (rf := zn) (by omega) rfl dL_pair_9 ?_
  rw [zMW_set]
  refine zB_goto (pc := 10) (tgt := 21) dL_pair_10 (by decide) ?_
  refine zB_iconst (pc := 21) (0 : Int32) dL_pair_21 (by decide) ?_
  exact zB_iret (pc := 22) rfl dL_pair_22
theorem tw_pair_x1 {g : Bool} {x1 : Int32} {x2 : Int32} {f : Nat → Int32} {v : Int32} {μ μ1 : zMem} (h : f8_pair x1 x2 μ = some (1, v, μ1)) : zMH [(0, 10, 13, 13), (0, 10, 17, 30)] yL_pair cL_pair 5 (some .int) 18 [.ref 1, .int x1, .int x2, .ref 0] (1 + nX g) (zSW g) (zMW f μ) (.inl (some (.int 1)), 1 + nX g, zSW g, zMW f μ1, 0 + 1, 0 + 6) := by
  have hg := nX_le g
  refine zMH_of (by decide +kernel) (by simp [Value.category]) (by simp) (Nat.le_of_ble_eq_true rfl) ?_
  show zBW _ _ _ _ _ _ _ [.ref 1, .int x1, .int x2, .ref 0, .null] _ _ _ _ _
  refine zB_aload_n (pc := 0) dL_pair_0 rfl ?_
  refine zB_iconst (pc := 1) (0 : Int32) dL_pair_1 (by decide) ?_
  refine zB_aload_n (pc := 2) dL_pair_2 rfl ?_
  refine zB_iload_n (pc := 3) dL_pair_3 rfl ?_
  refine zB_iload_n (pc := 4) dL_pair_4 rfl ?_
  refine zB_callFX (B := 1) (pc := 5) (b := 0) (As := [.int x1, .int x2]) (n := nX g) (S := SX g) (μ := μ) (E := "java/lang/IllegalArgumentException") (nm := "java/lang/IllegalArgumentException") (px := []) (x := ⟨0, 10, 13, 13⟩) (sx := [⟨0, 10, 17, 30⟩]) (i := 4) (ln := 2) kvL_64 klL_64 (zMR_ex rfl (t8_pair x1 x2 μ) h) (by decide) (by omega) (sx_0 g) rfl rfl (Nat.le_of_ble_eq_true rfl) zSW_sub (Nat.le_refl _) (zSW_wf g) (by omega) (zwfG g) dL_pair_5 rfl (fun z hz => by cases hz) (by decide) rfl (by decide) kxL_13 kxc_13 (Or.inr ⟨dL_pair_13, rfl⟩) (by decide) ?_
  refine zB_congr (S2 := zSW g) (μ2 := zMW f μ1) zSW_put ?_
  refine zB_iconst (pc := 15) (1 : Int32) dL_pair_15 (by decide) ?_
  exact zB_iret (pc := 16) rfl dL_pair_16
theorem tw_pair_x3 {g : Bool} {x1 : Int32} {x2 : Int32} {f : Nat → Int32} {v : Int32} {μ μ1 : zMem} (h : f8_pair x1 x2 μ = some (3, v, μ1)) : zMH [(0, 10, 13, 13), (0, 10, 17, 30)] yL_pair cL_pair 5 (some .int) 18 [.ref 1, .int x1, .int x2, .ref 0] (1 + nX g) (zSW g) (zMW f μ) (.inl (some (.int 2)), 1 + nX g, zSW g, zMW f μ1, 0 + 1, 0 + 6) := by
  have hg := nX_le g
  refine zMH_of (by decide +kernel) (by simp [Value.category]) (by simp) (Nat.le_of_ble_eq_true rfl) ?_
  show zBW _ _ _ _ _ _ _ [.ref 1, .int x1, .int x2, .ref 0, .null] _ _ _ _ _
  refine zB_aload_n (pc := 0) dL_pair_0 rfl ?_
  refine zB_iconst (pc := 1) (0 : Int32) dL_pair_1 (by decide) ?_
  refine zB_aload_n (pc := 2) dL_pair_2 rfl ?_
  refine zB_iload_n (pc := 3) dL_pair_3 rfl ?_
  refine zB_iload_n (pc := 4) dL_pair_4 rfl ?_
  refine zB_callFX (B := 1) (pc := 5) (b := 0) (As := [.int x1, .int x2]) (n := nX g) (S := SX g) (μ := μ) (E := "java/lang/IndexOutOfBoundsException") (nm := "java/lang/IndexOutOfBoundsException") (px := [⟨0, 10, 13, 13⟩]) (x := ⟨0, 10, 17, 30⟩) (sx := []) (i := 4) (ln := 2) kvL_64 klL_64 (zMR_ex rfl (t8_pair x1 x2 μ) h) (by decide) (by omega) (sx_0 g) rfl rfl (Nat.le_of_ble_eq_true rfl) zSW_sub (Nat.le_refl _) (zSW_wf g) (by omega) (zwfG g) dL_pair_5 rfl (fun z hz => by
    simp only [List.mem_cons, List.not_mem_nil, or_false] at hz
    rcases hz with rfl
    · exact ⟨by decide, "java/lang/IllegalArgumentException", kxL_13, by decide, by decide⟩) (by decide) rfl (by decide) kxL_30 kxc_30 (Or.inr ⟨dL_pair_17, rfl⟩) (by decide) ?_
  refine zB_congr (S2 := zSW g) (μ2 := zMW f μ1) zSW_put ?_
  refine zB_iconst (pc := 19) (2 : Int32) dL_pair_19 (by decide) ?_
  exact zB_iret (pc := 20) rfl dL_pair_20
theorem tw_bound {g : Bool} {x1 : Int32} {f : Nat → Int32} {v : Int32} {μ μ1 : zMem} (h : f8_bound x1 μ = some (0, v, μ1)) : zMH [(0, 9, 12, 13)] yL_bound cL_bound 4 (some .int) 9 [.ref 1, .int x1, .ref 0] (1 + nX g) (zSW g) (zMW f μ) (.inl (some (.int 0)), 1 + nX g, zSW g, zMW (fun i => if i = 0 then v else f i) μ1, 0 + 0, 0 + 0) := by
  have hg := nX_le g
  refine zMH_of (by decide +kernel) (by simp [Value.category]) (by simp) (Nat.le_of_ble_eq_true rfl) ?_
  show zBW _ _ _ _ _ _ _ [.ref 1, .int x1, .ref 0, .null] _ _ _ _ _
  refine zB_aload_n (pc := 0) dL_bound_0 rfl ?_
  refine zB_iconst (pc := 1) (0 : Int32) dL_bound_1 (by decide) ?_
  refine zB_aload_n (pc := 2) dL_bound_2 rfl ?_
  refine zB_iload_n (pc := 3) dL_bound_3 rfl ?_
  refine zB_callFV (B := 1) (pc := 4) (b := 0) (As := [.int x1]) (n := nX g) (S := SX g) (μ := μ) (v := some (.int v)) kvL_67 (zMR_ok (t8_bound x1 μ) h) (fun q e => by cases e) (by decide) (by omega) (sx_0 g) rfl rfl (Nat.le_of_ble_eq_true rfl) zSW_sub (Nat.le_refl _) (zSW_wf g) (Nat.le_refl _) (Or.inl rfl) (by omega) (zwfG g) (by have hg := nX_le g; simp only [List.mem_cons, List.not_mem_nil, or_false, forall_eq_or_imp, forall_eq, zltEq, reduceCtorEq, false_implies, implies_true, and_true, true_and] <;> omega) (by have hg := nX_le g; simp only [List.mem_cons, List.not_mem_nil, or_false, forall_eq_or_imp, forall_eq, zltEq, reduceCtorEq, false_implies, implies_true, and_true, true_and] <;> omega) dL_bound_4 ?_
  rw [Nat.sub_self, Nat.add_zero]
  refine zB_congr (S2 := zSW g) (μ2 := zMW f μ1) zSW_put ?_
  refine zB_i2l (pc := 7) dL_bound_7 ?_
  refine zB_last (pc := 8) (a := 0) (rf := zn) (by omega) rfl dL_bound_8 ?_
  rw [zMW_set]
  refine zB_goto (pc := 9) (tgt := 15) dL_bound_9 (by decide) ?_
  refine zB_iconst (pc := 15) (0 : Int32) dL_bound_15 (by decide) ?_
  exact zB_iret (pc := 16) rfl dL_bound_16
theorem tw_bound_x1 {g : Bool} {x1 : Int32} {f : Nat → Int32} {v : Int32} {μ μ1 : zMem} (h : f8_bound x1 μ = some (1, v, μ1)) : zMH [(0, 9, 12, 13)] yL_bound cL_bound 4 (some .int) 9 [.ref 1, .int x1, .ref 0] (1 + nX g) (zSW g) (zMW f μ) (.inl (some (.int 1)), 1 + nX g, zSW g, zMW f μ1, 0 + 1, 0 + 6) := by
  have hg := nX_le g
  refine zMH_of (by decide +kernel) (by simp [Value.category]) (by simp) (Nat.le_of_ble_eq_true rfl) ?_
  show zBW _ _ _ _ _ _ _ [.ref 1, .int x1, .ref 0, .null] _ _ _ _ _
  refine zB_aload_n (pc := 0) dL_bound_0 rfl ?_
  refine zB_iconst (pc := 1) (0 : Int32) dL_bound_1 (by decide) ?_
  refine zB_aload_n (pc := 2) dL_bound_2 rfl ?_
  refine zB_iload_n (pc := 3) dL_bound_3 rfl ?_
  refine zB_callFX (B := 1) (pc := 4) (b := 0) (As := [.int x1]) (n := nX g) (S := SX g) (μ := μ) (E := "java/lang/IllegalArgumentException") (nm := "java/lang/IllegalArgumentException") (px := []) (x := ⟨0, 9, 12, 13⟩) (sx := []) (i := 3) (ln := 1) kvL_67 klL_67 (zMR_ex rfl (t8_bound x1 μ) h) (by decide) (by omega) (sx_0 g) rfl rfl (Nat.le_of_ble_eq_true rfl) zSW_sub (Nat.le_refl _) (zSW_wf g) (by omega) (zwfG g) dL_bound_4 rfl (fun z hz => by cases hz) (by decide) rfl (by decide) kxL_13 kxc_13 (Or.inl ⟨3, dL_bound_12, rfl, rfl⟩) (by decide) ?_
  refine zB_congr (S2 := zSW g) (μ2 := zMW f μ1) zSW_put ?_
  refine zB_iconst (pc := 13) (1 : Int32) dL_bound_13 (by decide) ?_
  exact zB_iret (pc := 14) rfl dL_bound_14
theorem tw_need {g : Bool} {x1 : Int32} {x2 : Int32} {f : Nat → Int32} {v : Int32} {μ μ1 : zMem} (h : f8_need x1 x2 μ = some (0, v, μ1)) : zMH [(0, 10, 13, 13)] yL_need cL_need 5 (some .int) 9 [.ref 1, .int x1, .int x2, .ref 0] (1 + nX g) (zSW g) (zMW f μ) (.inl (some (.int 0)), 1 + nX g, zSW g, zMW (fun i => if i = 0 then v else f i) μ1, 0 + 0, 0 + 0) := by
  have hg := nX_le g
  refine zMH_of (by decide +kernel) (by simp [Value.category]) (by simp) (Nat.le_of_ble_eq_true rfl) ?_
  show zBW _ _ _ _ _ _ _ [.ref 1, .int x1, .int x2, .ref 0, .null] _ _ _ _ _
  refine zB_aload_n (pc := 0) dL_need_0 rfl ?_
  refine zB_iconst (pc := 1) (0 : Int32) dL_need_1 (by decide) ?_
  refine zB_aload_n (pc := 2) dL_need_2 rfl ?_
  refine zB_iload_n (pc := 3) dL_need_3 rfl ?_
  refine zB_iload_n (pc := 4) dL_need_4 rfl ?_
  refine zB_callFV (B := 1) (pc := 5) (b := 0) (As := [.int x1, .int x2]) (n := nX g) (S := SX g) (μ := μ) (v := some (.int v)) kvL_70 (zMR_ok (t8_need x1 x2 μ) h) (fun q e => by cases e) (by decide) (by omega) (sx_0 g) rfl rfl (Nat.le_of_ble_eq_true rfl) zSW_sub (Nat.le_refl _) (zSW_wf g) (Nat.le_refl _) (Or.inl rfl) (by omega) (zwfG g) (by have hg := nX_le g; simp only [List.mem_cons, List.not_mem_nil, or_false, forall_eq_or_imp, forall_eq, zltEq, reduceCtorEq, false_implies, implies_true, and_true, true_and] <;> omega) (by have hg := nX_le g; simp only [List.mem_cons, List.not_mem_nil, or_false, forall_eq_or_imp, forall_eq, zltEq, reduceCtorEq, false_implies, implies_true, and_true, true_and] <;> omega) dL_need_5 ?_
  rw [Nat.sub_self, Nat.add_zero]
  refine zB_congr (S2 := zSW g) (μ2 := zMW f μ1) zSW_put ?_
  refine zB_i2l (pc := 8) dL_need_8 ?_
  refine zB_last (pc := 9) (a := 0) (rf := zn) (by omega) rfl dL_need_9 ?_
  rw [zMW_set]
  refine zB_goto (pc := 10) (tgt := 17) dL_need_10 (by decide) ?_
  refine zB_iconst (pc := 17) (0 : Int32) dL_need_17 (by decide) ?_
  exact zB_iret (pc := 18) rfl dL_need_18
theorem tw_need_x1 {g : Bool} {x1 : Int32} {x2 : Int32} {f : Nat → Int32} {v : Int32} {μ μ1 : zMem} (h : f8_need x1 x2 μ = some (1, v, μ1)) : zMH [(0, 10, 13, 13)] yL_need cL_need 5 (some .int) 9 [.ref 1, .int x1, .int x2, .ref 0] (1 + nX g) (zSW g) (zMW f μ) (.inl (some (.int 1)), 1 + nX g, zSW g, zMW f μ1, 0 + 1, 0 + 6) := by
  have hg := nX_le g
  refine zMH_of (by decide +kernel) (by simp [Value.category]) (by simp) (Nat.le_of_ble_eq_true rfl) ?_
  show zBW _ _ _ _ _ _ _ [.ref 1, .int x1, .int x2, .ref 0, .null] _ _ _ _ _
  refine zB_aload_n (pc := 0) dL_need_0 rfl ?_
  refine zB_iconst (pc := 1) (0 : Int32) dL_need_1 (by decide) ?_
  refine zB_aload_n (pc := 2) dL_need_2 rfl ?_
  refine zB_iload_n (pc := 3) dL_need_3 rfl ?_
  refine zB_iload_n (pc := 4) dL_need_4 rfl ?_
  refine zB_callFX (B := 1) (pc := 5) (b := 0) (As := [.int x1, .int x2]) (n := nX g) (S := SX g) (μ := μ) (E := "java/lang/IllegalArgumentException") (nm := "java/lang/IllegalArgumentException") (px := []) (x := ⟨0, 10, 13, 13⟩) (sx := []) (i := 4) (ln := 2) kvL_70 klL_70 (zMR_ex rfl (t8_need x1 x2 μ) h) (by decide) (by omega) (sx_0 g) rfl rfl (Nat.le_of_ble_eq_true rfl) zSW_sub (Nat.le_refl _) (zSW_wf g) (by omega) (zwfG g) dL_need_5 rfl (fun z hz => by cases hz) (by decide) rfl (by decide) kxL_13 kxc_13 (Or.inr ⟨dL_need_13, rfl⟩) (by decide) ?_
  refine zB_congr (S2 := zSW g) (μ2 := zMW f μ1) zSW_put ?_
  refine zB_iconst (pc := 15) (1 : Int32) dL_need_15 (by decide) ?_
  exact zB_iret (pc := 16) rfl dL_need_16
theorem tw_stranger {g : Bool} {x1 : Int32} {x2 : Int32} {x3 : Int32} {f : Nat → Int32} {v : Int32} {μ μ1 : zMem} (h : f8_stranger x1 x2 x3 μ = some (0, v, μ1)) : zMH [(0, 12, 15, 13)] yL_stranger cL_stranger 6 (some .int) 9 [.ref 1, .int x1, .int x2, .int x3, .ref 0] (1 + nX g) (zSW g) (zMW f μ) (.inl (some (.int 0)), 1 + nX g, zSW g, zMW (fun i => if i = 0 then v else f i) μ1, 0 + 0, 0 + 0) := by
  have hg := nX_le g
  refine zMH_of (by decide +kernel) (by simp [Value.category]) (by simp) (Nat.le_of_ble_eq_true rfl) ?_
  show zBW _ _ _ _ _ _ _ [.ref 1, .int x1, .int x2, .int x3, .ref 0, .null] _ _ _ _ _
  refine zB_aload (pc := 0) dL_stranger_0 rfl ?_
  refine zB_iconst (pc := 2) (0 : Int32) dL_stranger_2 (by decide) ?_
  refine zB_aload_n (pc := 3) dL_stranger_3 rfl ?_
  refine zB_iload_n (pc := 4) dL_stranger_4 rfl ?_
  refine zB_iload_n (pc := 5) dL_stranger_5 rfl ?_
  refine zB_iload_n (pc := 6) dL_stranger_6 rfl ?_
  refine zB_callFV (B := 1) (pc := 7) (b := 0) (As := [.int x1, .int x2, .int x3]) (n := nX g) (S := SX g) (μ := μ) (v := some (.int v)) kvL_73 (zMR_ok (t8_stranger x1 x2 x3 μ) h) (fun q e => by cases e) (by decide) (by omega) (sx_0 g) rfl rfl (Nat.le_of_ble_eq_true rfl) zSW_sub (Nat.le_refl _) (zSW_wf g) (Nat.le_refl _) (Or.inl rfl) (by omega) (zwfG g) (by have hg := nX_le g; simp only [List.mem_cons, List.not_mem_nil, or_false, forall_eq_or_imp, forall_eq, zltEq, reduceCtorEq, false_implies, implies_true, and_true, true_and] <;> omega) (by have hg := nX_le g; simp only [List.mem_cons, List.not_mem_nil, or_false, forall_eq_or_imp, forall_eq, zltEq, reduceCtorEq, false_implies, implies_true, and_true, true_and] <;> omega) dL_stranger_7 ?_
  rw [Nat.sub_self, Nat.add_zero]
  refine zB_congr (S2 := zSW g) (μ2 := zMW f μ1) zSW_put ?_
  refine zB_i2l (pc := 10) dL_stranger_10 ?_
  refine zB_last (pc := 11) (a := 0) (rf := zn) (by omega) rfl dL_stranger_11 ?_
  rw [zMW_set]
  refine zB_goto (pc := 12) (tgt := 19) dL_stranger_12 (by decide) ?_
  refine zB_iconst (pc := 19) (0 : Int32) dL_stranger_19 (by decide) ?_
  exact zB_iret (pc := 20) rfl dL_stranger_20
theorem tw_stranger_x1 {g : Bool} {x1 : Int32} {x2 : Int32} {x3 : Int32} {f : Nat → Int32} {v : Int32} {μ μ1 : zMem} (h : f8_stranger x1 x2 x3 μ = some (1, v, μ1)) : zMH [(0, 12, 15, 13)] yL_stranger cL_stranger 6 (some .int) 9 [.ref 1, .int x1, .int x2, .int x3, .ref 0] (1 + nX g) (zSW g) (zMW f μ) (.inl (some (.int 1)), 1 + nX g, zSW g, zMW f μ1, 0 + 1, 0 + 6) := by
  have hg := nX_le g
  refine zMH_of (by decide +kernel) (by simp [Value.category]) (by simp) (Nat.le_of_ble_eq_true rfl) ?_
  show zBW _ _ _ _ _ _ _ [.ref 1, .int x1, .int x2, .int x3, .ref 0, .null] _ _ _ _ _
  refine zB_aload (pc := 0) dL_stranger_0 rfl ?_
  refine zB_iconst (pc := 2) (0 : Int32) dL_stranger_2 (by decide) ?_
  refine zB_aload_n (pc := 3) dL_stranger_3 rfl ?_
  refine zB_iload_n (pc := 4) dL_stranger_4 rfl ?_
  refine zB_iload_n (pc := 5) dL_stranger_5 rfl ?_
  refine zB_iload_n (pc := 6) dL_stranger_6 rfl ?_
  refine zB_callFX (B := 1) (pc := 7) (b := 0) (As := [.int x1, .int x2, .int x3]) (n := nX g) (S := SX g) (μ := μ) (E := "java/lang/IllegalArgumentException") (nm := "java/lang/IllegalArgumentException") (px := []) (x := ⟨0, 12, 15, 13⟩) (sx := []) (i := 5) (ln := 2) kvL_73 klL_73 (zMR_ex rfl (t8_stranger x1 x2 x3 μ) h) (by decide) (by omega) (sx_0 g) rfl rfl (Nat.le_of_ble_eq_true rfl) zSW_sub (Nat.le_refl _) (zSW_wf g) (by omega) (zwfG g) dL_stranger_7 rfl (fun z hz => by cases hz) (by decide) rfl (by decide) kxL_13 kxc_13 (Or.inr ⟨dL_stranger_15, rfl⟩) (by decide) ?_
  refine zB_congr (S2 := zSW g) (μ2 := zMW f μ1) zSW_put ?_
  refine zB_iconst (pc := 17) (1 : Int32) dL_stranger_17 (by decide) ?_
  exact zB_iret (pc := 18) rfl dL_stranger_18
theorem tw_night {g : Bool} {x1 : Int32} {f : Nat → Int32} {v : Int32} {μ μ1 : zMem} (h : f8_night x1 μ = some (0, v, μ1)) : zMH [(0, 9, 12, 13)] yL_night cL_night 4 (some .int) 8 [.ref 1, .int x1, .ref 0] (1 + nX g) (zSW g) (zMW f μ) (.inl (some (.int 0)), 1 + nX g, zSW g, zMW (fun i => if i = 0 then v else f i) μ1, 0 + 0, 0 + 0) := by
  have hg := nX_le g
  refine zMH_of (by decide +kernel) (by simp [Value.category]) (by simp) (Nat.le_of_ble_eq_true rfl) ?_
  show zBW _ _ _ _ _ _ _ [.ref 1, .int x1, .ref 0, .null] _ _ _ _ _
  refine zB_aload_n (pc := 0) dL_night_0 rfl ?_
  refine zB_iconst (pc := 1) (0 : Int32) dL_night_1 (by decide) ?_
  refine zB_aload_n (pc := 2) dL_night_2 rfl ?_
  refine zB_iload_n (pc := 3) dL_night_3 rfl ?_
  refine zB_callFV (B := 1) (pc := 4) (b := 0) (As := [.int x1]) (n := nX g) (S := SX g) (μ := μ) (v := some (.int v)) kvL_76 (zMR_ok (t8_night x1 μ) h) (fun q e => by cases e) (by decide) (by omega) (sx_0 g) rfl rfl (Nat.le_of_ble_eq_true rfl) zSW_sub (Nat.le_refl _) (zSW_wf g) (Nat.le_refl _) (Or.inl rfl) (by omega) (zwfG g) (by have hg := nX_le g; simp only [List.mem_cons, List.not_mem_nil, or_false, forall_eq_or_imp, forall_eq, zltEq, reduceCtorEq, false_implies, implies_true, and_true, true_and] <;> omega) (by have hg := nX_le g; simp only [List.mem_cons, List.not_mem_nil, or_false, forall_eq_or_imp, forall_eq, zltEq, reduceCtorEq, false_implies, implies_true, and_true, true_and] <;> omega) dL_night_4 ?_
  rw [Nat.sub_self, Nat.add_zero]
  refine zB_congr (S2 := zSW g) (μ2 := zMW f μ1) zSW_put ?_
  refine zB_i2l (pc := 7) dL_night_7 ?_
  refine zB_last (pc := 8) (a := 0) (rf := zn) (by omega) rfl dL_night_8 ?_
  rw [zMW_set]
  refine zB_goto (pc := 9) (tgt := 15) dL_night_9 (by decide) ?_
  refine zB_iconst (pc := 15) (0 : Int32) dL_night_15 (by decide) ?_
  exact zB_iret (pc := 16) rfl dL_night_16
theorem tw_night_x1 {g : Bool} {x1 : Int32} {f : Nat → Int32} {v : Int32} {μ μ1 : zMem} (h : f8_night x1 μ = some (1, v, μ1)) : zMH [(0, 9, 12, 13)] yL_night cL_night 4 (some .int) 8 [.ref 1, .int x1, .ref 0] (1 + nX g) (zSW g) (zMW f μ) (.inl (some (.int 1)), 1 + nX g, zSW g, zMW f μ1, 0 + 1, 0 + 6) := by
  have hg := nX_le g
  refine zMH_of (by decide +kernel) (by simp [Value.category]) (by simp) (Nat.le_of_ble_eq_true rfl) ?_
  show zBW _ _ _ _ _ _ _ [.ref 1, .int x1, .ref 0, .null] _ _ _ _ _
  refine zB_aload_n (pc := 0) dL_night_0 rfl ?_
  refine zB_iconst (pc := 1) (0 : Int32) dL_night_1 (by decide) ?_
  refine zB_aload_n (pc := 2) dL_night_2 rfl ?_
  refine zB_iload_n (pc := 3) dL_night_3 rfl ?_
  refine zB_callFX (B := 1) (pc := 4) (b := 0) (As := [.int x1]) (n := nX g) (S := SX g) (μ := μ) (E := "java/lang/IllegalArgumentException") (nm := "java/lang/IllegalArgumentException") (px := []) (x := ⟨0, 9, 12, 13⟩) (sx := []) (i := 3) (ln := 1) kvL_76 klL_76 (zMR_ex rfl (t8_night x1 μ) h) (by decide) (by omega) (sx_0 g) rfl rfl (Nat.le_of_ble_eq_true rfl) zSW_sub (Nat.le_refl _) (zSW_wf g) (by omega) (zwfG g) dL_night_4 rfl (fun z hz => by cases hz) (by decide) rfl (by decide) kxL_13 kxc_13 (Or.inl ⟨3, dL_night_12, rfl, rfl⟩) (by decide) ?_
  refine zB_congr (S2 := zSW g) (μ2 := zMW f μ1) zSW_put ?_
  refine zB_iconst (pc := 13) (1 : Int32) dL_night_13 (by decide) ?_
  exact zB_iret (pc := 14) rfl dL_night_14
theorem tw_best {g : Bool} {x1 : Int32} {f : Nat → Int32} {v : Int32} {μ μ1 : zMem} (h : f8_best x1 μ = some (0, v, μ1)) : zMH [(0, 9, 12, 13)] yL_best cL_best 4 (some .int) 8 [.ref 1, .int x1, .ref 0] (1 + nX g) (zSW g) (zMW f μ) (.inl (some (.int 0)), 1 + nX g, zSW g, zMW (fun i => if i = 0 then v else f i) μ1, 0 + 0, 0 + 0) := by
  have hg := nX_le g
  refine zMH_of (by decide +kernel) (by simp [Value.category]) (by simp) (Nat.le_of_ble_eq_true rfl) ?_
  show zBW _ _ _ _ _ _ _ [.ref 1, .int x1, .ref 0, .null] _ _ _ _ _
  refine zB_aload_n (pc := 0) dL_best_0 rfl ?_
  refine zB_iconst (pc := 1) (0 : Int32) dL_best_1 (by decide) ?_
  refine zB_aload_n (pc := 2) dL_best_2 rfl ?_
  refine zB_iload_n (pc := 3) dL_best_3 rfl ?_
  refine zB_callFV (B := 1) (pc := 4) (b := 0) (As := [.int x1]) (n := nX g) (S := SX g) (μ := μ) (v := some (.int v)) kvL_79 (zMR_ok (t8_best x1 μ) h) (fun q e => by cases e) (by decide) (by omega) (sx_0 g) rfl rfl (Nat.le_of_ble_eq_true rfl) zSW_sub (Nat.le_refl _) (zSW_wf g) (Nat.le_refl _) (Or.inl rfl) (by omega) (zwfG g) (by have hg := nX_le g; simp only [List.mem_cons, List.not_mem_nil, or_false, forall_eq_or_imp, forall_eq, zltEq, reduceCtorEq, false_implies, implies_true, and_true, true_and] <;> omega) (by have hg := nX_le g; simp only [List.mem_cons, List.not_mem_nil, or_false, forall_eq_or_imp, forall_eq, zltEq, reduceCtorEq, false_implies, implies_true, and_true, true_and] <;> omega) dL_best_4 ?_
  rw [Nat.sub_self, Nat.add_zero]
  refine zB_congr (S2 := zSW g) (μ2 := zMW f μ1) zSW_put ?_
  refine zB_i2l (pc := 7) dL_best_7 ?_
  refine zB_last (pc := 8) (a := 0) (rf := zn) (by omega) rfl dL_best_8 ?_
  rw [zMW_set]
  refine zB_goto (pc := 9) (tgt := 15) dL_best_9 (by decide) ?_
  refine zB_iconst (pc := 15) (0 : Int32) dL_best_15 (by decide) ?_
  exact zB_iret (pc := 16) rfl dL_best_16
theorem tw_best_x1 {g : Bool} {x1 : Int32} {f : Nat → Int32} {v : Int32} {μ μ1 : zMem} (h : f8_best x1 μ = some (1, v, μ1)) : zMH [(0, 9, 12, 13)] yL_best cL_best 4 (some .int) 8 [.ref 1, .int x1, .ref 0] (1 + nX g) (zSW g) (zMW f μ) (.inl (some (.int 1)), 1 + nX g, zSW g, zMW f μ1, 0 + 1, 0 + 6) := by
  have hg := nX_le g
  refine zMH_of (by decide +kernel) (by simp [Value.category]) (by simp) (Nat.le_of_ble_eq_true rfl) ?_
  show zBW _ _ _ _ _ _ _ [.ref 1, .int x1, .ref 0, .null] _ _ _ _ _
  refine zB_aload_n (pc := 0) dL_best_0 rfl ?_
  refine zB_iconst (pc := 1) (0 : Int32) dL_best_1 (by decide) ?_
  refine zB_aload_n (pc := 2) dL_best_2 rfl ?_
  refine zB_iload_n (pc := 3) dL_best_3 rfl ?_
  refine zB_callFX (B := 1) (pc := 4) (b := 0) (As := [.int x1]) (n := nX g) (S := SX g) (μ := μ) (E := "java/lang/IllegalArgumentException") (nm := "java/lang/IllegalArgumentException") (px := []) (x := ⟨0, 9, 12, 13⟩) (sx := []) (i := 3) (ln := 1) kvL_79 klL_79 (zMR_ex rfl (t8_best x1 μ) h) (by decide) (by omega) (sx_0 g) rfl rfl (Nat.le_of_ble_eq_true rfl) zSW_sub (Nat.le_refl _) (zSW_wf g) (by omega) (zwfG g) dL_best_4 rfl (fun z hz => by cases hz) (by decide) rfl (by decide) kxL_13 kxc_13 (Or.inl ⟨3, dL_best_12, rfl, rfl⟩) (by decide) ?_
  refine zB_congr (S2 := zSW g) (μ2 := zMW f μ1) zSW_put ?_
  refine zB_iconst (pc := 13) (1 : Int32) dL_best_13 (by decide) ?_
  exact zB_iret (pc := 14) rfl dL_best_14
theorem tw_run {g : Bool} {x1 : Int32} {x2 : Int32} {x3 : Int32} {f : Nat → Int32} {v : Int32} {μ μ1 : zMem} (h : f8_run x1 x2 x3 μ = some (0, v, μ1)) : zMH [(0, 12, 15, 13)] yL_run cL_run 6 (some .int) 8 [.ref 1, .int x1, .int x2, .int x3, .ref 0] (1 + nX g) (zSW g) (zMW f μ) (.inl (some (.int 0)), 1 + nX g, zSW g, zMW (fun i => if i = 0 then v else f i) μ1, 0 + 0, 0 + 0) := by
  have hg := nX_le g
  refine zMH_of (by decide +kernel) (by simp [Value.category]) (by simp) (Nat.le_of_ble_eq_true rfl) ?_
  show zBW _ _ _ _ _ _ _ [.ref 1, .int x1, .int x2, .int x3, .ref 0, .null] _ _ _ _ _
  refine zB_aload (pc := 0) dL_run_0 rfl ?_
  refine zB_iconst (pc := 2) (0 : Int32) dL_run_2 (by decide) ?_
  refine zB_aload_n (pc := 3) dL_run_3 rfl ?_
  refine zB_iload_n (pc := 4) dL_run_4 rfl ?_
  refine zB_iload_n (pc := 5) dL_run_5 rfl ?_
  refine zB_iload_n (pc := 6) dL_run_6 rfl ?_
  refine zB_callFV (B := 1) (pc := 7) (b := 0) (As := [.int x1, .int x2, .int x3]) (n := nX g) (S := SX g) (μ := μ) (v := some (.int v)) kvL_82 (zMR_ok (t8_run x1 x2 x3 μ) h) (fun q e => by cases e) (by decide) (by omega) (sx_0 g) rfl rfl (Nat.le_of_ble_eq_true rfl) zSW_sub (Nat.le_refl _) (zSW_wf g) (Nat.le_refl _) (Or.inl rfl) (by omega) (zwfG g) (by have hg := nX_le g; simp only [List.mem_cons, List.not_mem_nil, or_false, forall_eq_or_imp, forall_eq, zltEq, reduceCtorEq, false_implies, implies_true, and_true, true_and] <;> omega) (by have hg := nX_le g; simp only [List.mem_cons, List.not_mem_nil, or_false, forall_eq_or_imp, forall_eq, zltEq, reduceCtorEq, false_implies, implies_true, and_true, true_and] <;> omega) dL_run_7 ?_
  rw [Nat.sub_self, Nat.add_zero]
  refine zB_congr (S2 := zSW g) (μ2 := zMW f μ1) zSW_put ?_
  refine zB_i2l (pc := 10) dL_run_10 ?_
  refine zB_last (pc := 11) (a := 0) (rf := zn) (by omega) rfl dL_run_11 ?_
  rw [zMW_set]
  refine zB_goto (pc := 12) (tgt := 19) dL_run_12 (by decide) ?_
  refine zB_iconst (pc := 19) (0 : Int32) dL_run_19 (by decide) ?_
  exact zB_iret (pc := 20) rfl dL_run_20
theorem tw_run_x1 {g : Bool} {x1 : Int32} {x2 : Int32} {x3 : Int32} {f : Nat → Int32} {v : Int32} {μ μ1 : zMem} (h : f8_run x1 x2 x3 μ = some (1, v, μ1)) : zMH [(0, 12, 15, 13)] yL_run cL_run 6 (some .int) 8 [.ref 1, .int x1, .int x2, .int x3, .ref 0] (1 + nX g) (zSW g) (zMW f μ) (.inl (some (.int 1)), 1 + nX g, zSW g, zMW f μ1, 0 + 1, 0 + 6) := by
  have hg := nX_le g
  refine zMH_of (by decide +kernel) (by simp [Value.category]) (by simp) (Nat.le_of_ble_eq_true rfl) ?_
  show zBW _ _ _ _ _ _ _ [.ref 1, .int x1, .int x2, .int x3, .ref 0, .null] _ _ _ _ _
  refine zB_aload (pc := 0) dL_run_0 rfl ?_
  refine zB_iconst (pc := 2) (0 : Int32) dL_run_2 (by decide) ?_
  refine zB_aload_n (pc := 3) dL_run_3 rfl ?_
  refine zB_iload_n (pc := 4) dL_run_4 rfl ?_
  refine zB_iload_n (pc := 5) dL_run_5 rfl ?_
  refine zB_iload_n (pc := 6) dL_run_6 rfl ?_
  refine zB_callFX (B := 1) (pc := 7) (b := 0) (As := [.int x1, .int x2, .int x3]) (n := nX g) (S := SX g) (μ := μ) (E := "java/lang/IllegalArgumentException") (nm := "java/lang/IllegalArgumentException") (px := []) (x := ⟨0, 12, 15, 13⟩) (sx := []) (i := 5) (ln := 2) kvL_82 klL_82 (zMR_ex rfl (t8_run x1 x2 x3 μ) h) (by decide) (by omega) (sx_0 g) rfl rfl (Nat.le_of_ble_eq_true rfl) zSW_sub (Nat.le_refl _) (zSW_wf g) (by omega) (zwfG g) dL_run_7 rfl (fun z hz => by cases hz) (by decide) rfl (by decide) kxL_13 kxc_13 (Or.inr ⟨dL_run_15, rfl⟩) (by decide) ?_
  refine zB_congr (S2 := zSW g) (μ2 := zMW f μ1) zSW_put ?_
  refine zB_iconst (pc := 17) (1 : Int32) dL_run_17 (by decide) ?_
  exact zB_iret (pc := 18) rfl dL_run_18
theorem tw_lot {g : Bool} {x1 : Int32} {x2 : Int32} {x3 : Int32} {x4 : Int32} {f : Nat → Int32} {v : Int32} {μ μ1 : zMem} (h : f8_lot x1 x2 x3 x4 μ = some (0, v, μ1)) : zMH [(0, 14, 17, 13)] yL_lot cL_lot 7 (some .int) 8 [.ref 1, .int x1, .int x2, .int x3, .int x4, .ref 0] (1 + nX g) (zSW g) (zMW f μ) (.inl (some (.int 0)), 1 + nX g, zSW g, zMW (fun i => if i = 0 then v else f i) μ1, 0 + 0, 0 + 0) := by
  have hg := nX_le g
  refine zMH_of (by decide +kernel) (by simp [Value.category]) (by simp) (Nat.le_of_ble_eq_true rfl) ?_
  show zBW _ _ _ _ _ _ _ [.ref 1, .int x1, .int x2, .int x3, .int x4, .ref 0, .null] _ _ _ _ _
  refine zB_aload (pc := 0) dL_lot_0 rfl ?_
  refine zB_iconst (pc := 2) (0 : Int32) dL_lot_2 (by decide) ?_
  refine zB_aload_n (pc := 3) dL_lot_3 rfl ?_
  refine zB_iload_n (pc := 4) dL_lot_4 rfl ?_
  refine zB_iload_n (pc := 5) dL_lot_5 rfl ?_
  refine zB_iload_n (pc := 6) dL_lot_6 rfl ?_
  refine zB_iload (pc := 7) dL_lot_7 rfl ?_
  refine zB_callFV (B := 1) (pc := 9) (b := 0) (As := [.int x1, .int x2, .int x3, .int x4]) (n := nX g) (S := SX g) (μ := μ) (v := some (.int v)) kvL_85 (zMR_ok (t8_lot x1 x2 x3 x4 μ) h) (fun q e => by cases e) (by decide) (by omega) (sx_0 g) rfl rfl (Nat.le_of_ble_eq_true rfl) zSW_sub (Nat.le_refl _) (zSW_wf g) (Nat.le_refl _) (Or.inl rfl) (by omega) (zwfG g) (by have hg := nX_le g; simp only [List.mem_cons, List.not_mem_nil, or_false, forall_eq_or_imp, forall_eq, zltEq, reduceCtorEq, false_implies, implies_true, and_true, true_and] <;> omega) (by have hg := nX_le g; simp only [List.mem_cons, List.not_mem_nil, or_false, forall_eq_or_imp, forall_eq, zltEq, reduceCtorEq, false_implies, implies_true, and_true, true_and] <;> omega) dL_lot_9 ?_
  rw [Nat.sub_self, Nat.add_zero]
  refine zB_congr (S2 := zSW g) (μ2 := zMW f μ1) zSW_put ?_
  refine zB_i2l (pc := 12) dL_lot_12 ?_
  refine zB_last (pc := 13) (a := 0) (rf := zn) (by omega) rfl dL_lot_13 ?_
  rw [zMW_set]
  refine zB_goto (pc := 14) (tgt := 21) dL_lot_14 (by decide) ?_
  refine zB_iconst (pc := 21) (0 : Int32) dL_lot_21 (by decide) ?_
  exact zB_iret (pc := 22) rfl dL_lot_22
theorem tw_lot_x1 {g : Bool} {x1 : Int32} {x2 : Int32} {x3 : Int32} {x4 : Int32} {f : Nat → Int32} {v : Int32} {μ μ1 : zMem} (h : f8_lot x1 x2 x3 x4 μ = some (1, v, μ1)) : zMH [(0, 14, 17, 13)] yL_lot cL_lot 7 (some .int) 8 [.ref 1, .int x1, .int x2, .int x3, .int x4, .ref 0] (1 + nX g) (zSW g) (zMW f μ) (.inl (some (.int 1)), 1 + nX g, zSW g, zMW f μ1, 0 + 1, 0 + 6) := by
  have hg := nX_le g
  refine zMH_of (by decide +kernel) (by simp [Value.category]) (by simp) (Nat.le_of_ble_eq_true rfl) ?_
  show zBW _ _ _ _ _ _ _ [.ref 1, .int x1, .int x2, .int x3, .int x4, .ref 0, .null] _ _ _ _ _
  refine zB_aload (pc := 0) dL_lot_0 rfl ?_
  refine zB_iconst (pc := 2) (0 : Int32) dL_lot_2 (by decide) ?_
  refine zB_aload_n (pc := 3) dL_lot_3 rfl ?_
  refine zB_iload_n (pc := 4) dL_lot_4 rfl ?_
  refine zB_iload_n (pc := 5) dL_lot_5 rfl ?_
  refine zB_iload_n (pc := 6) dL_lot_6 rfl ?_
  refine zB_iload (pc := 7) dL_lot_7 rfl ?_
  refine zB_callFX (B := 1) (pc := 9) (b := 0) (As := [.int x1, .int x2, .int x3, .int x4]) (n := nX g) (S := SX g) (μ := μ) (E := "java/lang/IllegalArgumentException") (nm := "java/lang/IllegalArgumentException") (px := []) (x := ⟨0, 14, 17, 13⟩) (sx := []) (i := 6) (ln := 2) kvL_85 klL_85 (zMR_ex rfl (t8_lot x1 x2 x3 x4 μ) h) (by decide) (by omega) (sx_0 g) rfl rfl (Nat.le_of_ble_eq_true rfl) zSW_sub (Nat.le_refl _) (zSW_wf g) (by omega) (zwfG g) dL_lot_9 rfl (fun z hz => by cases hz) (by decide) rfl (by decide) kxL_13 kxc_13 (Or.inr ⟨dL_lot_17, rfl⟩) (by decide) ?_
  refine zB_congr (S2 := zSW g) (μ2 := zMW f μ1) zSW_put ?_
  refine zB_iconst (pc := 19) (1 : Int32) dL_lot_19 (by decide) ?_
  exact zB_iret (pc := 20) rfl dL_lot_20
theorem tw_rule {g : Bool} {x1 : Int32} {f : Nat → Int32} {v : Int32} {μ μ1 : zMem} (h : f8_rule x1 μ = some (0, v, μ1)) : zMH [(0, 9, 12, 13)] yL_rule cL_rule 4 (some .int) 8 [.ref 1, .int x1, .ref 0] (1 + nX g) (zSW g) (zMW f μ) (.inl (some (.int 0)), 1 + nX g, zSW g, zMW (fun i => if i = 0 then v else f i) μ1, 0 + 0, 0 + 0) := by
  have hg := nX_le g
  refine zMH_of (by decide +kernel) (by simp [Value.category]) (by simp) (Nat.le_of_ble_eq_true rfl) ?_
  show zBW _ _ _ _ _ _ _ [.ref 1, .int x1, .ref 0, .null] _ _ _ _ _
  refine zB_aload_n (pc := 0) dL_rule_0 rfl ?_
  refine zB_iconst (pc := 1) (0 : Int32) dL_rule_1 (by decide) ?_
  refine zB_aload_n (pc := 2) dL_rule_2 rfl ?_
  refine zB_iload_n (pc := 3) dL_rule_3 rfl ?_
  refine zB_callFV (B := 1) (pc := 4) (b := 0) (As := [.int x1]) (n := nX g) (S := SX g) (μ := μ) (v := some (.int v)) kvL_88 (zMR_ok (t8_rule x1 μ) h) (fun q e => by cases e) (by decide) (by omega) (sx_0 g) rfl rfl (Nat.le_of_ble_eq_true rfl) zSW_sub (Nat.le_refl _) (zSW_wf g) (Nat.le_refl _) (Or.inl rfl) (by omega) (zwfG g) (by have hg := nX_le g; simp only [List.mem_cons, List.not_mem_nil, or_false, forall_eq_or_imp, forall_eq, zltEq, reduceCtorEq, false_implies, implies_true, and_true, true_and] <;> omega) (by have hg := nX_le g; simp only [List.mem_cons, List.not_mem_nil, or_false, forall_eq_or_imp, forall_eq, zltEq, reduceCtorEq, false_implies, implies_true, and_true, true_and] <;> omega) dL_rule_4 ?_
  rw [Nat.sub_self, Nat.add_zero]
  refine zB_congr (S2 := zSW g) (μ2 := zMW f μ1) zSW_put ?_
  refine zB_i2l (pc := 7) dL_rule_7 ?_
  refine zB_last (pc := 8) (a := 0) (rf := zn) (by omega) rfl dL_rule_8 ?_
  rw [zMW_set]
  refine zB_goto (pc := 9) (tgt := 15) dL_rule_9 (by decide) ?_
  refine zB_iconst (pc := 15) (0 : Int32) dL_rule_15 (by decide) ?_
  exact zB_iret (pc := 16) rfl dL_rule_16
theorem tw_rule_x1 {g : Bool} {x1 : Int32} {f : Nat → Int32} {v : Int32} {μ μ1 : zMem} (h : f8_rule x1 μ = some (1, v, μ1)) : zMH [(0, 9, 12, 13)] yL_rule cL_rule 4 (some .int) 8 [.ref 1, .int x1, .ref 0] (1 + nX g) (zSW g) (zMW f μ) (.inl (some (.int 1)), 1 + nX g, zSW g, zMW f μ1, 0 + 1, 0 + 6) := by
  have hg := nX_le g
  refine zMH_of (by decide +kernel) (by simp [Value.category]) (by simp) (Nat.le_of_ble_eq_true rfl) ?_
  show zBW _ _ _ _ _ _ _ [.ref 1, .int x1, .ref 0, .null] _ _ _ _ _
  refine zB_aload_n (pc := 0) dL_rule_0 rfl ?_
  refine zB_iconst (pc := 1) (0 : Int32) dL_rule_1 (by decide) ?_
  refine zB_aload_n (pc := 2) dL_rule_2 rfl ?_
  refine zB_iload_n (pc := 3) dL_rule_3 rfl ?_
  refine zB_callFX (B := 1) (pc := 4) (b := 0) (As := [.int x1]) (n := nX g) (S := SX g) (μ := μ) (E := "java/lang/IllegalArgumentException") (nm := "java/lang/IllegalArgumentException") (px := []) (x := ⟨0, 9, 12, 13⟩) (sx := []) (i := 3) (ln := 1) kvL_88 klL_88 (zMR_ex rfl (t8_rule x1 μ) h) (by decide) (by omega) (sx_0 g) rfl rfl (Nat.le_of_ble_eq_true rfl) zSW_sub (Nat.le_refl _) (zSW_wf g) (by omega) (zwfG g) dL_rule_4 rfl (fun z hz => by cases hz) (by decide) rfl (by decide) kxL_13 kxc_13 (Or.inl ⟨3, dL_rule_12, rfl, rfl⟩) (by decide) ?_
  refine zB_congr (S2 := zSW g) (μ2 := zMW f μ1) zSW_put ?_
  refine zB_iconst (pc := 13) (1 : Int32) dL_rule_13 (by decide) ?_
  exact zB_iret (pc := 14) rfl dL_rule_14
theorem tw_few {x1 : Int32} {x2 : Int32} {x3 : Int32} {f : Nat → Int32} {v : Int32} {μ μ1 : zMem} (h : f8_few x1 x2 x3 μ = some (0, v, μ1)) : zMH [(0, 12, 15, 13)] yL_few cL_few 6 (some .int) 8 [.ref 1, .int x1, .int x2, .int x3, .ref 0] (1 + nX true) (zSW true) (zMW f μ) (.inl (some (.int 0)), 1 + nX true, zSW true, zMW (fun i => if i = 0 then v else f i) μ1, 0 + 0, 0 + 0) := by
  have hg := nX_le true
  refine zMH_of (by decide +kernel) (by simp [Value.category]) (by simp) (Nat.le_of_ble_eq_true rfl) ?_
  show zBW _ _ _ _ _ _ _ [.ref 1, .int x1, .int x2, .int x3, .ref 0, .null] _ _ _ _ _
  refine zB_aload (pc := 0) dL_few_0 rfl ?_
  refine zB_iconst (pc := 2) (0 : Int32) dL_few_2 (by decide) ?_
  refine zB_aload_n (pc := 3) dL_few_3 rfl ?_
  refine zB_iload_n (pc := 4) dL_few_4 rfl ?_
  refine zB_iload_n (pc := 5) dL_few_5 rfl ?_
  refine zB_iload_n (pc := 6) dL_few_6 rfl ?_
  refine zB_callFV (B := 1) (pc := 7) (b := 0) (As := [.int x1, .int x2, .int x3]) (n := nX true) (S := SX true) (μ := μ) (v := some (.int v)) kvL_91 (zMR_ok (t8_few x1 x2 x3 μ) h) (fun q e => by cases e) (by decide) (by omega) (sx_0 true) rfl rfl (Nat.le_of_ble_eq_true rfl) zSW_sub (Nat.le_refl _) (zSW_wf true) (Nat.le_refl _) (Or.inl rfl) (by omega) (zwfG true) (by have hg := nX_le true; simp only [List.mem_cons, List.not_mem_nil, or_false, forall_eq_or_imp, forall_eq, zltEq, reduceCtorEq, false_implies, implies_true, and_true, true_and] <;> omega) (by have hg := nX_le true; simp only [List.mem_cons, List.not_mem_nil, or_false, forall_eq_or_imp, forall_eq, zltEq, reduceCtorEq, false_implies, implies_true, and_true, true_and] <;> omega) dL_few_7 ?_
  rw [Nat.sub_self, Nat.add_zero]
  refine zB_congr (S2 := zSW true) (μ2 := zMW f μ1) zSW_put ?_
  refine zB_i2l (pc := 10) dL_few_10 ?_
  refine zB_last (pc := 11) (a := 0) (rf := zn) (by omega) rfl dL_few_11 ?_
  rw [zMW_set]
  refine zB_goto (pc := 12) (tgt := 19) dL_few_12 (by decide) ?_
  refine zB_iconst (pc := 19) (0 : Int32) dL_few_19 (by decide) ?_
  exact zB_iret (pc := 20) rfl dL_few_20
theorem tw_few_x1 {x1 : Int32} {x2 : Int32} {x3 : Int32} {f : Nat → Int32} {v : Int32} {μ μ1 : zMem} (h : f8_few x1 x2 x3 μ = some (1, v, μ1)) : zMH [(0, 12, 15, 13)] yL_few cL_few 6 (some .int) 8 [.ref 1, .int x1, .int x2, .int x3, .ref 0] (1 + nX true) (zSW true) (zMW f μ) (.inl (some (.int 1)), 1 + nX true, zSW true, zMW f μ1, 0 + 1, 0 + 6) := by
  have hg := nX_le true
  refine zMH_of (by decide +kernel) (by simp [Value.category]) (by simp) (Nat.le_of_ble_eq_true rfl) ?_
  show zBW _ _ _ _ _ _ _ [.ref 1, .int x1, .int x2, .int x3, .ref 0, .null] _ _ _ _ _
  refine zB_aload (pc := 0) dL_few_0 rfl ?_
  refine zB_iconst (pc := 2) (0 : Int32) dL_few_2 (by decide) ?_
  refine zB_aload_n (pc := 3) dL_few_3 rfl ?_
  refine zB_iload_n (pc := 4) dL_few_4 rfl ?_
  refine zB_iload_n (pc := 5) dL_few_5 rfl ?_
  refine zB_iload_n (pc := 6) dL_few_6 rfl ?_
  refine zB_callFX (B := 1) (pc := 7) (b := 0) (As := [.int x1, .int x2, .int x3]) (n := nX true) (S := SX true) (μ := μ) (E := "java/lang/IllegalArgumentException") (nm := "java/lang/IllegalArgumentException") (px := []) (x := ⟨0, 12, 15, 13⟩) (sx := []) (i := 5) (ln := 2) kvL_91 klL_91 (zMR_ex rfl (t8_few x1 x2 x3 μ) h) (by decide) (by omega) (sx_0 true) rfl rfl (Nat.le_of_ble_eq_true rfl) zSW_sub (Nat.le_refl _) (zSW_wf true) (by omega) (zwfG true) dL_few_7 rfl (fun z hz => by cases hz) (by decide) rfl (by decide) kxL_13 kxc_13 (Or.inr ⟨dL_few_15, rfl⟩) (by decide) ?_
  refine zB_congr (S2 := zSW true) (μ2 := zMW f μ1) zSW_put ?_
  refine zB_iconst (pc := 17) (1 : Int32) dL_few_17 (by decide) ?_
  exact zB_iret (pc := 18) rfl dL_few_18
theorem tw_pairs {g : Bool} {x1 : Int32} {x2 : Int32} {f : Nat → Int32} {v : Int32} {μ μ1 : zMem} (h : f8_pairs x1 x2 μ = some (0, v, μ1)) : zMH [(0, 10, 13, 13)] yL_pairs cL_pairs 5 (some .int) 8 [.ref 1, .int x1, .int x2, .ref 0] (1 + nX g) (zSW g) (zMW f μ) (.inl (some (.int 0)), 1 + nX g, zSW g, zMW (fun i => if i = 0 then v else f i) μ1, 0 + 0, 0 + 0) := by
  have hg := nX_le g
  refine zMH_of (by decide +kernel) (by simp [Value.category]) (by simp) (Nat.le_of_ble_eq_true rfl) ?_
  show zBW _ _ _ _ _ _ _ [.ref 1, .int x1, .int x2, .ref 0, .null] _ _ _ _ _
  refine zB_aload_n (pc := 0) dL_pairs_0 rfl ?_
  refine zB_iconst (pc := 1) (0 : Int32) dL_pairs_1 (by decide) ?_
  refine zB_aload_n (pc := 2) dL_pairs_2 rfl ?_
  refine zB_iload_n (pc := 3) dL_pairs_3 rfl ?_
  refine zB_iload_n (pc := 4) dL_pairs_4 rfl ?_
  refine zB_callFV (B := 1) (pc := 5) (b := 0) (As := [.int x1, .int x2]) (n := nX g) (S := SX g) (μ := μ) (v := some (.int v)) kvL_94 (zMR_ok (t8_pairs x1 x2 μ) h) (fun q e => by cases e) (by decide) (by omega) (sx_0 g) rfl rfl (Nat.le_of_ble_eq_true rfl) zSW_sub (Nat.le_refl _) (zSW_wf g) (Nat.le_refl _) (Or.inl rfl) (by omega) (zwfG g) (by have hg := nX_le g; simp only [List.mem_cons, List.not_mem_nil, or_false, forall_eq_or_imp, forall_eq, zltEq, reduceCtorEq, false_implies, implies_true, and_true, true_and] <;> omega) (by have hg := nX_le g; simp only [List.mem_cons, List.not_mem_nil, or_false, forall_eq_or_imp, forall_eq, zltEq, reduceCtorEq, false_implies, implies_true, and_true, true_and] <;> omega) dL_pairs_5 ?_
  rw [Nat.sub_self, Nat.add_zero]
  refine zB_congr (S2 := zSW g) (μ2 := zMW f μ1) zSW_put ?_
  refine zB_i2l (pc := 8) dL_pairs_8 ?_
  refine zB_last (pc := 9) (a := 0) (rf := zn) (by omega) rfl dL_pairs_9 ?_
  rw [zMW_set]
  refine zB_goto (pc := 10) (tgt := 17) dL_pairs_10 (by decide) ?_
  refine zB_iconst (pc := 17) (0 : Int32) dL_pairs_17 (by decide) ?_
  exact zB_iret (pc := 18) rfl dL_pairs_18
theorem tw_pairs_x1 {g : Bool} {x1 : Int32} {x2 : Int32} {f : Nat → Int32} {v : Int32} {μ μ1 : zMem} (h : f8_pairs x1 x2 μ = some (1, v, μ1)) : zMH [(0, 10, 13, 13)] yL_pairs cL_pairs 5 (some .int) 8 [.ref 1, .int x1, .int x2, .ref 0] (1 + nX g) (zSW g) (zMW f μ) (.inl (some (.int 1)), 1 + nX g, zSW g, zMW f μ1, 0 + 1, 0 + 6) := by
  have hg := nX_le g
  refine zMH_of (by decide +kernel) (by simp [Value.category]) (by simp) (Nat.le_of_ble_eq_true rfl) ?_
  show zBW _ _ _ _ _ _ _ [.ref 1, .int x1, .int x2, .ref 0, .null] _ _ _ _ _
  refine zB_aload_n (pc := 0) dL_pairs_0 rfl ?_
  refine zB_iconst (pc := 1) (0 : Int32) dL_pairs_1 (by decide) ?_
  refine zB_aload_n (pc := 2) dL_pairs_2 rfl ?_
  refine zB_iload_n (pc := 3) dL_pairs_3 rfl ?_
  refine zB_iload_n (pc := 4) dL_pairs_4 rfl ?_
  refine zB_callFX (B := 1) (pc := 5) (b := 0) (As := [.int x1, .int x2]) (n := nX g) (S := SX g) (μ := μ) (E := "java/lang/IllegalArgumentException") (nm := "java/lang/IllegalArgumentException") (px := []) (x := ⟨0, 10, 13, 13⟩) (sx := []) (i := 4) (ln := 2) kvL_94 klL_94 (zMR_ex rfl (t8_pairs x1 x2 μ) h) (by decide) (by omega) (sx_0 g) rfl rfl (Nat.le_of_ble_eq_true rfl) zSW_sub (Nat.le_refl _) (zSW_wf g) (by omega) (zwfG g) dL_pairs_5 rfl (fun z hz => by cases hz) (by decide) rfl (by decide) kxL_13 kxc_13 (Or.inr ⟨dL_pairs_13, rfl⟩) (by decide) ?_
  refine zB_congr (S2 := zSW g) (μ2 := zMW f μ1) zSW_put ?_
  refine zB_iconst (pc := 15) (1 : Int32) dL_pairs_15 (by decide) ?_
  exact zB_iret (pc := 16) rfl dL_pairs_16
theorem tw_edge {g : Bool} {x1 : Int32} {x2 : Int32} {f : Nat → Int32} {v : Int32} {μ μ1 : zMem} (h : f8_edge x1 x2 μ = some (0, v, μ1)) : zMH [(0, 10, 13, 13)] yL_edge cL_edge 5 (some .int) 8 [.ref 1, .int x1, .int x2, .ref 0] (1 + nX g) (zSW g) (zMW f μ) (.inl (some (.int 0)), 1 + nX g, zSW g, zMW (fun i => if i = 0 then v else f i) μ1, 0 + 0, 0 + 0) := by
  have hg := nX_le g
  refine zMH_of (by decide +kernel) (by simp [Value.category]) (by simp) (Nat.le_of_ble_eq_true rfl) ?_
  show zBW _ _ _ _ _ _ _ [.ref 1, .int x1, .int x2, .ref 0, .null] _ _ _ _ _
  refine zB_aload_n (pc := 0) dL_edge_0 rfl ?_
  refine zB_iconst (pc := 1) (0 : Int32) dL_edge_1 (by decide) ?_
  refine zB_aload_n (pc := 2) dL_edge_2 rfl ?_
  refine zB_iload_n (pc := 3) dL_edge_3 rfl ?_
  refine zB_iload_n (pc := 4) dL_edge_4 rfl ?_
  refine zB_callFV (B := 1) (pc := 5) (b := 0) (As := [.int x1, .int x2]) (n := nX g) (S := SX g) (μ := μ) (v := some (.int v)) kvL_97 (zMR_ok (t8_edge x1 x2 μ) h) (fun q e => by cases e) (by decide) (by omega) (sx_0 g) rfl rfl (Nat.le_of_ble_eq_true rfl) zSW_sub (Nat.le_refl _) (zSW_wf g) (Nat.le_refl _) (Or.inl rfl) (by omega) (zwfG g) (by have hg := nX_le g; simp only [List.mem_cons, List.not_mem_nil, or_false, forall_eq_or_imp, forall_eq, zltEq, reduceCtorEq, false_implies, implies_true, and_true, true_and] <;> omega) (by have hg := nX_le g; simp only [List.mem_cons, List.not_mem_nil, or_false, forall_eq_or_imp, forall_eq, zltEq, reduceCtorEq, false_implies, implies_true, and_true, true_and] <;> omega) dL_edge_5 ?_
  rw [Nat.sub_self, Nat.add_zero]
  refine zB_congr (S2 := zSW g) (μ2 := zMW f μ1) zSW_put ?_
  refine zB_i2l (pc := 8) dL_edge_8 ?_
  refine zB_last (pc := 9) (a := 0) (rf := zn) (by omega) rfl dL_edge_9 ?_
  rw [zMW_set]
  refine zB_goto (pc := 10) (tgt := 17) dL_edge_10 (by decide) ?_
  refine zB_iconst (pc := 17) (0 : Int32) dL_edge_17 (by decide) ?_
  exact zB_iret (pc := 18) rfl dL_edge_18
theorem tw_edge_x1 {g : Bool} {x1 : Int32} {x2 : Int32} {f : Nat → Int32} {v : Int32} {μ μ1 : zMem} (h : f8_edge x1 x2 μ = some (1, v, μ1)) : zMH [(0, 10, 13, 13)] yL_edge cL_edge 5 (some .int) 8 [.ref 1, .int x1, .int x2, .ref 0] (1 + nX g) (zSW g) (zMW f μ) (.inl (some (.int 1)), 1 + nX g, zSW g, zMW f μ1, 0 + 1, 0 + 6) := by
  have hg := nX_le g
  refine zMH_of (by decide +kernel) (by simp [Value.category]) (by simp) (Nat.le_of_ble_eq_true rfl) ?_
  show zBW _ _ _ _ _ _ _ [.ref 1, .int x1, .int x2, .ref 0, .null] _ _ _ _ _
  refine zB_aload_n (pc := 0) dL_edge_0 rfl ?_
  refine zB_iconst (pc := 1) (0 : Int32) dL_edge_1 (by decide) ?_
  refine zB_aload_n (pc := 2) dL_edge_2 rfl ?_
  refine zB_iload_n (pc := 3) dL_edge_3 rfl ?_
  refine zB_iload_n (pc := 4) dL_edge_4 rfl ?_
  refine zB_callFX (B := 1) (pc := 5) (b := 0) (As := [.int x1, .int x2]) (n := nX g) (S := SX g) (μ := μ) (E := "java/lang/IllegalArgumentException") (nm := "java/lang/IllegalArgumentException") (px := []) (x := ⟨0, 10, 13, 13⟩) (sx := []) (i := 4) (ln := 2) kvL_97 klL_97 (zMR_ex rfl (t8_edge x1 x2 μ) h) (by decide) (by omega) (sx_0 g) rfl rfl (Nat.le_of_ble_eq_true rfl) zSW_sub (Nat.le_refl _) (zSW_wf g) (by omega) (zwfG g) dL_edge_5 rfl (fun z hz => by cases hz) (by decide) rfl (by decide) kxL_13 kxc_13 (Or.inr ⟨dL_edge_13, rfl⟩) (by decide) ?_
  refine zB_congr (S2 := zSW g) (μ2 := zMW f μ1) zSW_put ?_
  refine zB_iconst (pc := 15) (1 : Int32) dL_edge_15 (by decide) ?_
  exact zB_iret (pc := 16) rfl dL_edge_16
theorem tw_rest {g : Bool} {x1 : Int32} {x2 : Int32} {x3 : Int32} {x4 : Int32} {x5 : Int32} {x6 : Int32} {f : Nat → Int32} {v : Int32} {μ μ1 : zMem} (h : f8_rest x1 x2 x3 x4 x5 x6 μ = some (0, v, μ1)) : zMH [(0, 18, 21, 22), (0, 18, 25, 13)] yL_rest cL_rest 9 (some .int) 8 [.ref 1, .int x1, .int x2, .int x3, .int x4, .int x5, .int x6, .ref 0] (1 + nX g) (zSW g) (zMW f μ) (.inl (some (.int 0)), 1 + nX g, zSW g, zMW (fun i => if i = 0 then v else f i) μ1, 0 + 0, 0 + 0) := by
  have hg := nX_le g
  refine zMH_of (by decide +kernel) (by simp [Value.category]) (by simp) (Nat.le_of_ble_eq_true rfl) ?_
  show zBW _ _ _ _ _ _ _ [.ref 1, .int x1, .int x2, .int x3, .int x4, .int x5, .int x6, .ref 0, .null] _ _ _ _ _
  refine zB_aload (pc := 0) dL_rest_0 rfl ?_
  refine zB_iconst (pc := 2) (0 : Int32) dL_rest_2 (by decide) ?_
  refine zB_aload_n (pc := 3) dL_rest_3 rfl ?_
  refine zB_iload_n (pc := 4) dL_rest_4 rfl ?_
  refine zB_iload_n (pc := 5) dL_rest_5 rfl ?_
  refine zB_iload_n (pc := 6) dL_rest_6 rfl ?_
  refine zB_iload (pc := 7) dL_rest_7 rfl ?_
  refine zB_iload (pc := 9) dL_rest_9 rfl ?_
  refine zB_iload (pc := 11) dL_rest_11 rfl ?_
  refine zB_callFV (B := 1) (pc := 13) (b := 0) (As := [.int x1, .int x2, .int x3, .int x4, .int x5, .int x6]) (n := nX g) (S := SX g) (μ := μ) (v := some (.int v)) kvL_100 (zMR_ok (t8_rest x1 x2 x3 x4 x5 x6 μ) h) (fun q e => by cases e) (by decide) (by omega) (sx_0 g) rfl rfl (Nat.le_of_ble_eq_true rfl) zSW_sub (Nat.le_refl _) (zSW_wf g) (Nat.le_refl _) (Or.inl rfl) (by omega) (zwfG g) (by have hg := nX_le g; simp only [List.mem_cons, List.not_mem_nil, or_false, forall_eq_or_imp, forall_eq, zltEq, reduceCtorEq, false_implies, implies_true, and_true, true_and] <;> omega) (by have hg := nX_le g; simp only [List.mem_cons, List.not_mem_nil, or_false, forall_eq_or_imp, forall_eq, zltEq, reduceCtorEq, false_implies, implies_true, and_true, true_and] <;> omega) dL_rest_13 ?_
  rw [Nat.sub_self, Nat.add_zero]
  refine zB_congr (S2 := zSW g) (μ2 := zMW f μ1) zSW_put ?_
  refine zB_i2l (pc := 16) dL_rest_16 ?_
  refine zB_last (pc := 17) (a := 0) (rf := zn) (by omega) rfl dL_rest_17 ?_
  rw [zMW_set]
  refine zB_goto (pc := 18) (tgt := 29) dL_rest_18 (by decide) ?_
  refine zB_iconst (pc := 29) (0 : Int32) dL_rest_29 (by decide) ?_
  exact zB_iret (pc := 30) rfl dL_rest_30
theorem tw_rest_x2 {g : Bool} {x1 : Int32} {x2 : Int32} {x3 : Int32} {x4 : Int32} {x5 : Int32} {x6 : Int32} {f : Nat → Int32} {v : Int32} {μ μ1 : zMem} (h : f8_rest x1 x2 x3 x4 x5 x6 μ = some (2, v, μ1)) : zMH [(0, 18, 21, 22), (0, 18, 25, 13)] yL_rest cL_rest 9 (some .int) 8 [.ref 1, .int x1, .int x2, .int x3, .int x4, .int x5, .int x6, .ref 0] (1 + nX g) (zSW g) (zMW f μ) (.inl (some (.int 1)), 1 + nX g, zSW g, zMW f μ1, 0 + 1, 0 + 6) := by
  have hg := nX_le g
  refine zMH_of (by decide +kernel) (by simp [Value.category]) (by simp) (Nat.le_of_ble_eq_true rfl) ?_
  show zBW _ _ _ _ _ _ _ [.ref 1, .int x1, .int x2, .int x3, .int x4, .int x5, .int x6, .ref 0, .null] _ _ _ _ _
  refine zB_aload (pc := 0) dL_rest_0 rfl ?_
  refine zB_iconst (pc := 2) (0 : Int32) dL_rest_2 (by decide) ?_
  refine zB_aload_n (pc := 3) dL_rest_3 rfl ?_
  refine zB_iload_n (pc := 4) dL_rest_4 rfl ?_
  refine zB_iload_n (pc := 5) dL_rest_5 rfl ?_
  refine zB_iload_n (pc := 6) dL_rest_6 rfl ?_
  refine zB_iload (pc := 7) dL_rest_7 rfl ?_
  refine zB_iload (pc := 9) dL_rest_9 rfl ?_
  refine zB_iload (pc := 11) dL_rest_11 rfl ?_
  refine zB_callFX (B := 1) (pc := 13) (b := 0) (As := [.int x1, .int x2, .int x3, .int x4, .int x5, .int x6]) (n := nX g) (S := SX g) (μ := μ) (E := "java/util/NoSuchElementException") (nm := "java/util/NoSuchElementException") (px := []) (x := ⟨0, 18, 21, 22⟩) (sx := [⟨0, 18, 25, 13⟩]) (i := 8) (ln := 2) kvL_100 klL_100 (zMR_ex rfl (t8_rest x1 x2 x3 x4 x5 x6 μ) h) (by decide) (by omega) (sx_0 g) rfl rfl (Nat.le_of_ble_eq_true rfl) zSW_sub (Nat.le_refl _) (zSW_wf g) (by omega) (zwfG g) dL_rest_13 rfl (fun z hz => by cases hz) (by decide) rfl (by decide) kxL_22 kxc_22 (Or.inr ⟨dL_rest_21, rfl⟩) (by decide) ?_
  refine zB_congr (S2 := zSW g) (μ2 := zMW f μ1) zSW_put ?_
  refine zB_iconst (pc := 23) (1 : Int32) dL_rest_23 (by decide) ?_
  exact zB_iret (pc := 24) rfl dL_rest_24
theorem tw_rest_x1 {g : Bool} {x1 : Int32} {x2 : Int32} {x3 : Int32} {x4 : Int32} {x5 : Int32} {x6 : Int32} {f : Nat → Int32} {v : Int32} {μ μ1 : zMem} (h : f8_rest x1 x2 x3 x4 x5 x6 μ = some (1, v, μ1)) : zMH [(0, 18, 21, 22), (0, 18, 25, 13)] yL_rest cL_rest 9 (some .int) 8 [.ref 1, .int x1, .int x2, .int x3, .int x4, .int x5, .int x6, .ref 0] (1 + nX g) (zSW g) (zMW f μ) (.inl (some (.int 2)), 1 + nX g, zSW g, zMW f μ1, 0 + 1, 0 + 6) := by
  have hg := nX_le g
  refine zMH_of (by decide +kernel) (by simp [Value.category]) (by simp) (Nat.le_of_ble_eq_true rfl) ?_
  show zBW _ _ _ _ _ _ _ [.ref 1, .int x1, .int x2, .int x3, .int x4, .int x5, .int x6, .ref 0, .null] _ _ _ _ _
  refine zB_aload (pc := 0) dL_rest_0 rfl ?_
  refine zB_iconst (pc := 2) (0 : Int32) dL_rest_2 (by decide) ?_
  refine zB_aload_n (pc := 3) dL_rest_3 rfl ?_
  refine zB_iload_n (pc := 4) dL_rest_4 rfl ?_
  refine zB_iload_n (pc := 5) dL_rest_5 rfl ?_
  refine zB_iload_n (pc := 6) dL_rest_6 rfl ?_
  refine zB_iload (pc := 7) dL_rest_7 rfl ?_
  refine zB_iload (pc := 9) dL_rest_9 rfl ?_
  refine zB_iload (pc := 11) dL_rest_11 rfl ?_
  refine zB_callFX (B := 1) (pc := 13) (b := 0) (As := [.int x1, .int x2, .int x3, .int x4, .int x5, .int x6]) (n := nX g) (S := SX g) (μ := μ) (E := "java/lang/IllegalArgumentException") (nm := "java/lang/IllegalArgumentException") (px := [⟨0, 18, 21, 22⟩]) (x := ⟨0, 18, 25, 13⟩) (sx := []) (i := 8) (ln := 2) kvL_100 klL_100 (zMR_ex rfl (t8_rest x1 x2 x3 x4 x5 x6 μ) h) (by decide) (by omega) (sx_0 g) rfl rfl (Nat.le_of_ble_eq_true rfl) zSW_sub (Nat.le_refl _) (zSW_wf g) (by omega) (zwfG g) dL_rest_13 rfl (fun z hz => by
    simp only [List.mem_cons, List.not_mem_nil, or_false] at hz
    rcases hz with rfl
    · exact ⟨by decide, "java/util/NoSuchElementException", kxL_22, by decide, by decide⟩) (by decide) rfl (by decide) kxL_13 kxc_13 (Or.inr ⟨dL_rest_25, rfl⟩) (by decide) ?_
  refine zB_congr (S2 := zSW g) (μ2 := zMW f μ1) zSW_put ?_
  refine zB_iconst (pc := 27) (2 : Int32) dL_rest_27 (by decide) ?_
  exact zB_iret (pc := 28) rfl dL_rest_28
theorem tw_once {g : Bool} {x1 : Int32} {f : Nat → Int32} {v : Int32} {μ μ1 : zMem} (h : f8_once x1 μ = some (0, v, μ1)) : zMH [(0, 9, 12, 13)] yL_once cL_once 4 (some .int) 8 [.ref 1, .int x1, .ref 0] (1 + nX g) (zSW g) (zMW f μ) (.inl (some (.int 0)), 1 + nX g, zSW g, zMW (fun i => if i = 0 then v else f i) μ1, 0 + 0, 0 + 0) := by
  have hg := nX_le g
  refine zMH_of (by decide +kernel) (by simp [Value.category]) (by simp) (Nat.le_of_ble_eq_true rfl) ?_
  show zBW _ _ _ _ _ _ _ [.ref 1, .int x1, .ref 0, .null] _ _ _ _ _
  refine zB_aload_n (pc := 0) dL_once_0 rfl ?_
  refine zB_iconst (pc := 1) (0 : Int32) dL_once_1 (by decide) ?_
  refine zB_aload_n (pc := 2) dL_once_2 rfl ?_
  refine zB_iload_n (pc := 3) dL_once_3 rfl ?_
  refine zB_callFV (B := 1) (pc := 4) (b := 0) (As := [.int x1]) (n := nX g) (S := SX g) (μ := μ) (v := some (.int v)) kvL_104 (zMR_ok (t8_once x1 μ) h) (fun q e => by cases e) (by decide) (by omega) (sx_0 g) rfl rfl (Nat.le_of_ble_eq_true rfl) zSW_sub (Nat.le_refl _) (zSW_wf g) (Nat.le_refl _) (Or.inl rfl) (by omega) (zwfG g) (by have hg := nX_le g; simp only [List.mem_cons, List.not_mem_nil, or_false, forall_eq_or_imp, forall_eq, zltEq, reduceCtorEq, false_implies, implies_true, and_true, true_and] <;> omega) (by have hg := nX_le g; simp only [List.mem_cons, List.not_mem_nil, or_false, forall_eq_or_imp, forall_eq, zltEq, reduceCtorEq, false_implies, implies_true, and_true, true_and] <;> omega) dL_once_4 ?_
  rw [Nat.sub_self, Nat.add_zero]
  refine zB_congr (S2 := zSW g) (μ2 := zMW f μ1) zSW_put ?_
  refine zB_i2l (pc := 7) dL_once_7 ?_
  refine zB_last (pc := 8) (a := 0) (rf := zn) (by omega) rfl dL_once_8 ?_
  rw [zMW_set]
  refine zB_goto (pc := 9) (tgt := 15) dL_once_9 (by decide) ?_
  refine zB_iconst (pc := 15) (0 : Int32) dL_once_15 (by decide) ?_
  exact zB_iret (pc := 16) rfl dL_once_16
theorem tw_once_x1 {g : Bool} {x1 : Int32} {f : Nat → Int32} {v : Int32} {μ μ1 : zMem} (h : f8_once x1 μ = some (1, v, μ1)) : zMH [(0, 9, 12, 13)] yL_once cL_once 4 (some .int) 8 [.ref 1, .int x1, .ref 0] (1 + nX g) (zSW g) (zMW f μ) (.inl (some (.int 1)), 1 + nX g, zSW g, zMW f μ1, 0 + 1, 0 + 6) := by
  have hg := nX_le g
  refine zMH_of (by decide +kernel) (by simp [Value.category]) (by simp) (Nat.le_of_ble_eq_true rfl) ?_
  show zBW _ _ _ _ _ _ _ [.ref 1, .int x1, .ref 0, .null] _ _ _ _ _
  refine zB_aload_n (pc := 0) dL_once_0 rfl ?_
  refine zB_iconst (pc := 1) (0 : Int32) dL_once_1 (by decide) ?_
  refine zB_aload_n (pc := 2) dL_once_2 rfl ?_
  refine zB_iload_n (pc := 3) dL_once_3 rfl ?_
  refine zB_callFX (B := 1) (pc := 4) (b := 0) (As := [.int x1]) (n := nX g) (S := SX g) (μ := μ) (E := "java/lang/IllegalArgumentException") (nm := "java/lang/IllegalArgumentException") (px := []) (x := ⟨0, 9, 12, 13⟩) (sx := []) (i := 3) (ln := 1) kvL_104 klL_104 (zMR_ex rfl (t8_once x1 μ) h) (by decide) (by omega) (sx_0 g) rfl rfl (Nat.le_of_ble_eq_true rfl) zSW_sub (Nat.le_refl _) (zSW_wf g) (by omega) (zwfG g) dL_once_4 rfl (fun z hz => by cases hz) (by decide) rfl (by decide) kxL_13 kxc_13 (Or.inl ⟨3, dL_once_12, rfl, rfl⟩) (by decide) ?_
  refine zB_congr (S2 := zSW g) (μ2 := zMW f μ1) zSW_put ?_
  refine zB_iconst (pc := 13) (1 : Int32) dL_once_13 (by decide) ?_
  exact zB_iret (pc := 14) rfl dL_once_14
theorem tw_calm {g : Bool} {x1 : Int32} {x2 : Int32} {f : Nat → Int32} {v : Int32} {μ μ1 : zMem} (h : f8_calm x1 x2 μ = some (0, v, μ1)) : zMH [(0, 10, 13, 13)] yL_calm cL_calm 5 (some .int) 8 [.ref 1, .int x1, .int x2, .ref 0] (1 + nX g) (zSW g) (zMW f μ) (.inl (some (.int 0)), 1 + nX g, zSW g, zMW (fun i => if i = 0 then v else f i) μ1, 0 + 0, 0 + 0) := by
  have hg := nX_le g
  refine zMH_of (by decide +kernel) (by simp [Value.category]) (by simp) (Nat.le_of_ble_eq_true rfl) ?_
  show zBW _ _ _ _ _ _ _ [.ref 1, .int x1, .int x2, .ref 0, .null] _ _ _ _ _
  refine zB_aload_n (pc := 0) dL_calm_0 rfl ?_
  refine zB_iconst (pc := 1) (0 : Int32) dL_calm_1 (by decide) ?_
  refine zB_aload_n (pc := 2) dL_calm_2 rfl ?_
  refine zB_iload_n (pc := 3) dL_calm_3 rfl ?_
  refine zB_iload_n (pc := 4) dL_calm_4 rfl ?_
  refine zB_callFV (B := 1) (pc := 5) (b := 0) (As := [.int x1, .int x2]) (n := nX g) (S := SX g) (μ := μ) (v := some (.int v)) kvL_107 (zMR_ok (t8_calm x1 x2 μ) h) (fun q e => by cases e) (by decide) (by omega) (sx_0 g) rfl rfl (Nat.le_of_ble_eq_true rfl) zSW_sub (Nat.le_refl _) (zSW_wf g) (Nat.le_refl _) (Or.inl rfl) (by omega) (zwfG g) (by have hg := nX_le g; simp only [List.mem_cons, List.not_mem_nil, or_false, forall_eq_or_imp, forall_eq, zltEq, reduceCtorEq, false_implies, implies_true, and_true, true_and] <;> omega) (by have hg := nX_le g; simp only [List.mem_cons, List.not_mem_nil, or_false, forall_eq_or_imp, forall_eq, zltEq, reduceCtorEq, false_implies, implies_true, and_true, true_and] <;> omega) dL_calm_5 ?_
  rw [Nat.sub_self, Nat.add_zero]
  refine zB_congr (S2 := zSW g) (μ2 := zMW f μ1) zSW_put ?_
  refine zB_i2l (pc := 8) dL_calm_8 ?_
  refine zB_last (pc := 9) (a := 0) (rf := zn) (by omega) rfl dL_calm_9 ?_
  rw [zMW_set]
  refine zB_goto (pc := 10) (tgt := 17) dL_calm_10 (by decide) ?_
  refine zB_iconst (pc := 17) (0 : Int32) dL_calm_17 (by decide) ?_
  exact zB_iret (pc := 18) rfl dL_calm_18
theorem tw_calm_x1 {g : Bool} {x1 : Int32} {x2 : Int32} {f : Nat → Int32} {v : Int32} {μ μ1 : zMem} (h : f8_calm x1 x2 μ = some (1, v, μ1)) : zMH [(0, 10, 13, 13)] yL_calm cL_calm 5 (some .int) 8 [.ref 1, .int x1, .int x2, .ref 0] (1 + nX g) (zSW g) (zMW f μ) (.inl (some (.int 1)), 1 + nX g, zSW g, zMW f μ1, 0 + 1, 0 + 6) := by
  have hg := nX_le g
  refine zMH_of (by decide +kernel) (by simp [Value.category]) (by simp) (Nat.le_of_ble_eq_true rfl) ?_
  show zBW _ _ _ _ _ _ _ [.ref 1, .int x1, .int x2, .ref 0, .null] _ _ _ _ _
  refine zB_aload_n (pc := 0) dL_calm_0 rfl ?_
  refine zB_iconst (pc := 1) (0 : Int32) dL_calm_1 (by decide) ?_
  refine zB_aload_n (pc := 2) dL_calm_2 rfl ?_
  refine zB_iload_n (pc := 3) dL_calm_3 rfl ?_
  refine zB_iload_n (pc := 4) dL_calm_4 rfl ?_
  refine zB_callFX (B := 1) (pc := 5) (b := 0) (As := [.int x1, .int x2]) (n := nX g) (S := SX g) (μ := μ) (E := "java/lang/IllegalArgumentException") (nm := "java/lang/IllegalArgumentException") (px := []) (x := ⟨0, 10, 13, 13⟩) (sx := []) (i := 4) (ln := 2) kvL_107 klL_107 (zMR_ex rfl (t8_calm x1 x2 μ) h) (by decide) (by omega) (sx_0 g) rfl rfl (Nat.le_of_ble_eq_true rfl) zSW_sub (Nat.le_refl _) (zSW_wf g) (by omega) (zwfG g) dL_calm_5 rfl (fun z hz => by cases hz) (by decide) rfl (by decide) kxL_13 kxc_13 (Or.inr ⟨dL_calm_13, rfl⟩) (by decide) ?_
  refine zB_congr (S2 := zSW g) (μ2 := zMW f μ1) zSW_put ?_
  refine zB_iconst (pc := 15) (1 : Int32) dL_calm_15 (by decide) ?_
  exact zB_iret (pc := 16) rfl dL_calm_16
theorem tw_family {g : Bool} {x1 : Int32} {f : Nat → Int32} {v : Int32} {μ μ1 : zMem} (h : f8_family x1 μ = some (0, v, μ1)) : zMH [(0, 9, 12, 13)] yL_family cL_family 4 (some .int) 7 [.ref 1, .int x1, .ref 0] (1 + nX g) (zSW g) (zMW f μ) (.inl (some (.int 0)), 1 + nX g, zSW g, zMW (fun i => if i = 0 then v else f i) μ1, 0 + 0, 0 + 0) := by
  have hg := nX_le g
  refine zMH_of (by decide +kernel) (by simp [Value.category]) (by simp) (Nat.le_of_ble_eq_true rfl) ?_
  show zBW _ _ _ _ _ _ _ [.ref 1, .int x1, .ref 0, .null] _ _ _ _ _
  refine zB_aload_n (pc := 0) dL_family_0 rfl ?_
  refine zB_iconst (pc := 1) (0 : Int32) dL_family_1 (by decide) ?_
  refine zB_aload_n (pc := 2) dL_family_2 rfl ?_
  refine zB_iload_n (pc := 3) dL_family_3 rfl ?_
  refine zB_callFV (B := 1) (pc := 4) (b := 0) (As := [.int x1]) (n := nX g) (S := SX g) (μ := μ) (v := some (.int v)) kvL_110 (zMR_ok (t8_family x1 μ) h) (fun q e => by cases e) (by decide) (by omega) (sx_0 g) rfl rfl (Nat.le_of_ble_eq_true rfl) zSW_sub (Nat.le_refl _) (zSW_wf g) (Nat.le_refl _) (Or.inl rfl) (by omega) (zwfG g) (by have hg := nX_le g; simp only [List.mem_cons, List.not_mem_nil, or_false, forall_eq_or_imp, forall_eq, zltEq, reduceCtorEq, false_implies, implies_true, and_true, true_and] <;> omega) (by have hg := nX_le g; simp only [List.mem_cons, List.not_mem_nil, or_false, forall_eq_or_imp, forall_eq, zltEq, reduceCtorEq, false_implies, implies_true, and_true, true_and] <;> omega) dL_family_4 ?_
  rw [Nat.sub_self, Nat.add_zero]
  refine zB_congr (S2 := zSW g) (μ2 := zMW f μ1) zSW_put ?_
  refine zB_i2l (pc := 7) dL_family_7 ?_
  refine zB_last (pc := 8) (a := 0) (rf := zn) (by omega) rfl dL_family_8 ?_
  rw [zMW_set]
  refine zB_goto (pc := 9) (tgt := 15) dL_family_9 (by decide) ?_
  refine zB_iconst (pc := 15) (0 : Int32) dL_family_15 (by decide) ?_
  exact zB_iret (pc := 16) rfl dL_family_16
theorem tw_family_x1 {g : Bool} {x1 : Int32} {f : Nat → Int32} {v : Int32} {μ μ1 : zMem} (h : f8_family x1 μ = some (1, v, μ1)) : zMH [(0, 9, 12, 13)] yL_family cL_family 4 (some .int) 7 [.ref 1, .int x1, .ref 0] (1 + nX g) (zSW g) (zMW f μ) (.inl (some (.int 1)), 1 + nX g, zSW g, zMW f μ1, 0 + 1, 0 + 6) := by
  have hg := nX_le g
  refine zMH_of (by decide +kernel) (by simp [Value.category]) (by simp) (Nat.le_of_ble_eq_true rfl) ?_
  show zBW _ _ _ _ _ _ _ [.ref 1, .int x1, .ref 0, .null] _ _ _ _ _
  refine zB_aload_n (pc := 0) dL_family_0 rfl ?_
  refine zB_iconst (pc := 1) (0 : Int32) dL_family_1 (by decide) ?_
  refine zB_aload_n (pc := 2) dL_family_2 rfl ?_
  refine zB_iload_n (pc := 3) dL_family_3 rfl ?_
  refine zB_callFX (B := 1) (pc := 4) (b := 0) (As := [.int x1]) (n := nX g) (S := SX g) (μ := μ) (E := "java/lang/IllegalArgumentException") (nm := "java/lang/IllegalArgumentException") (px := []) (x := ⟨0, 9, 12, 13⟩) (sx := []) (i := 3) (ln := 1) kvL_110 klL_110 (zMR_ex rfl (t8_family x1 μ) h) (by decide) (by omega) (sx_0 g) rfl rfl (Nat.le_of_ble_eq_true rfl) zSW_sub (Nat.le_refl _) (zSW_wf g) (by omega) (zwfG g) dL_family_4 rfl (fun z hz => by cases hz) (by decide) rfl (by decide) kxL_13 kxc_13 (Or.inl ⟨3, dL_family_12, rfl, rfl⟩) (by decide) ?_
  refine zB_congr (S2 := zSW g) (μ2 := zMW f μ1) zSW_put ?_
  refine zB_iconst (pc := 13) (1 : Int32) dL_family_13 (by decide) ?_
  exact zB_iret (pc := 14) rfl dL_family_14
theorem tw_starved {g : Bool} {x1 : Int32} {f : Nat → Int32} {v : Int32} {μ μ1 : zMem} (h : f8_starved x1 μ = some (0, v, μ1)) : zMH [(0, 9, 12, 13)] yL_starved cL_starved 4 (some .int) 8 [.ref 1, .int x1, .ref 0] (1 + nX g) (zSW g) (zMW f μ) (.inl (some (.int 0)), 1 + nX g, zSW g, zMW (fun i => if i = 0 then v else f i) μ1, 0 + 0, 0 + 0) := by
  have hg := nX_le g
  refine zMH_of (by decide +kernel) (by simp [Value.category]) (by simp) (Nat.le_of_ble_eq_true rfl) ?_
  show zBW _ _ _ _ _ _ _ [.ref 1, .int x1, .ref 0, .null] _ _ _ _ _
  refine zB_aload_n (pc := 0) dL_starved_0 rfl ?_
  refine zB_iconst (pc := 1) (0 : Int32) dL_starved_1 (by decide) ?_
  refine zB_aload_n (pc := 2) dL_starved_2 rfl ?_
  refine zB_iload_n (pc := 3) dL_starved_3 rfl ?_
  refine zB_callFV (B := 1) (pc := 4) (b := 0) (As := [.int x1]) (n := nX g) (S := SX g) (μ := μ) (v := some (.int v)) kvL_113 (zMR_ok (t8_starved x1 μ) h) (fun q e => by cases e) (by decide) (by omega) (sx_0 g) rfl rfl (Nat.le_of_ble_eq_true rfl) zSW_sub (Nat.le_refl _) (zSW_wf g) (Nat.le_refl _) (Or.inl rfl) (by omega) (zwfG g) (by have hg := nX_le g; simp only [List.mem_cons, List.not_mem_nil, or_false, forall_eq_or_imp, forall_eq, zltEq, reduceCtorEq, false_implies, implies_true, and_true, true_and] <;> omega) (by have hg := nX_le g; simp only [List.mem_cons, List.not_mem_nil, or_false, forall_eq_or_imp, forall_eq, zltEq, reduceCtorEq, false_implies, implies_true, and_true, true_and] <;> omega) dL_starved_4 ?_
  rw [Nat.sub_self, Nat.add_zero]
  refine zB_congr (S2 := zSW g) (μ2 := zMW f μ1) zSW_put ?_
  refine zB_i2l (pc := 7) dL_starved_7 ?_
  refine zB_last (pc := 8) (a := 0) (rf := zn) (by omega) rfl dL_starved_8 ?_
  rw [zMW_set]
  refine zB_goto (pc := 9) (tgt := 15) dL_starved_9 (by decide) ?_
  refine zB_iconst (pc := 15) (0 : Int32) dL_starved_15 (by decide) ?_
  exact zB_iret (pc := 16) rfl dL_starved_16
theorem tw_starved_x1 {g : Bool} {x1 : Int32} {f : Nat → Int32} {v : Int32} {μ μ1 : zMem} (h : f8_starved x1 μ = some (1, v, μ1)) : zMH [(0, 9, 12, 13)] yL_starved cL_starved 4 (some .int) 8 [.ref 1, .int x1, .ref 0] (1 + nX g) (zSW g) (zMW f μ) (.inl (some (.int 1)), 1 + nX g, zSW g, zMW f μ1, 0 + 1, 0 + 6) := by
  have hg := nX_le g
  refine zMH_of (by decide +kernel) (by simp [Value.category]) (by simp) (Nat.le_of_ble_eq_true rfl) ?_
  show zBW _ _ _ _ _ _ _ [.ref 1, .int x1, .ref 0, .null] _ _ _ _ _
  refine zB_aload_n (pc := 0) dL_starved_0 rfl ?_
  refine zB_iconst (pc := 1) (0 : Int32) dL_starved_1 (by decide) ?_
  refine zB_aload_n (pc := 2) dL_starved_2 rfl ?_
  refine zB_iload_n (pc := 3) dL_starved_3 rfl ?_
  refine zB_callFX (B := 1) (pc := 4) (b := 0) (As := [.int x1]) (n := nX g) (S := SX g) (μ := μ) (E := "java/lang/IllegalArgumentException") (nm := "java/lang/IllegalArgumentException") (px := []) (x := ⟨0, 9, 12, 13⟩) (sx := []) (i := 3) (ln := 1) kvL_113 klL_113 (zMR_ex rfl (t8_starved x1 μ) h) (by decide) (by omega) (sx_0 g) rfl rfl (Nat.le_of_ble_eq_true rfl) zSW_sub (Nat.le_refl _) (zSW_wf g) (by omega) (zwfG g) dL_starved_4 rfl (fun z hz => by cases hz) (by decide) rfl (by decide) kxL_13 kxc_13 (Or.inl ⟨3, dL_starved_12, rfl, rfl⟩) (by decide) ?_
  refine zB_congr (S2 := zSW g) (μ2 := zMW f μ1) zSW_put ?_
  refine zB_iconst (pc := 13) (1 : Int32) dL_starved_13 (by decide) ?_
  exact zB_iret (pc := 14) rfl dL_starved_14
theorem tw_slack {g : Bool} {x1 : Int32} {f : Nat → Int32} {v : Int32} {μ μ1 : zMem} (h : f8_slack x1 μ = some (0, v, μ1)) : zMH [(0, 9, 12, 13)] yL_slack cL_slack 4 (some .int) 9 [.ref 1, .int x1, .ref 0] (1 + nX g) (zSW g) (zMW f μ) (.inl (some (.int 0)), 1 + nX g, zSW g, zMW (fun i => if i = 0 then v else f i) μ1, 0 + 0, 0 + 0) := by
  have hg := nX_le g
  refine zMH_of (by decide +kernel) (by simp [Value.category]) (by simp) (Nat.le_of_ble_eq_true rfl) ?_
  show zBW _ _ _ _ _ _ _ [.ref 1, .int x1, .ref 0, .null] _ _ _ _ _
  refine zB_aload_n (pc := 0) dL_slack_0 rfl ?_
  refine zB_iconst (pc := 1) (0 : Int32) dL_slack_1 (by decide) ?_
  refine zB_aload_n (pc := 2) dL_slack_2 rfl ?_
  refine zB_iload_n (pc := 3) dL_slack_3 rfl ?_
  refine zB_callFV (B := 1) (pc := 4) (b := 0) (As := [.int x1]) (n := nX g) (S := SX g) (μ := μ) (v := some (.int v)) kvL_116 (zMR_ok (t8_slack x1 μ) h) (fun q e => by cases e) (by decide) (by omega) (sx_0 g) rfl rfl (Nat.le_of_ble_eq_true rfl) zSW_sub (Nat.le_refl _) (zSW_wf g) (Nat.le_refl _) (Or.inl rfl) (by omega) (zwfG g) (by have hg := nX_le g; simp only [List.mem_cons, List.not_mem_nil, or_false, forall_eq_or_imp, forall_eq, zltEq, reduceCtorEq, false_implies, implies_true, and_true, true_and] <;> omega) (by have hg := nX_le g; simp only [List.mem_cons, List.not_mem_nil, or_false, forall_eq_or_imp, forall_eq, zltEq, reduceCtorEq, false_implies, implies_true, and_true, true_and] <;> omega) dL_slack_4 ?_
  rw [Nat.sub_self, Nat.add_zero]
  refine zB_congr (S2 := zSW g) (μ2 := zMW f μ1) zSW_put ?_
  refine zB_i2l (pc := 7) dL_slack_7 ?_
  refine zB_last (pc := 8) (a := 0) (rf := zn) (by omega) rfl dL_slack_8 ?_
  rw [zMW_set]
  refine zB_goto (pc := 9) (tgt := 15) dL_slack_9 (by decide) ?_
  refine zB_iconst (pc := 15) (0 : Int32) dL_slack_15 (by decide) ?_
  exact zB_iret (pc := 16) rfl dL_slack_16
theorem tw_slack_x1 {g : Bool} {x1 : Int32} {f : Nat → Int32} {v : Int32} {μ μ1 : zMem} (h : f8_slack x1 μ = some (1, v, μ1)) : zMH [(0, 9, 12, 13)] yL_slack cL_slack 4 (some .int) 9 [.ref 1, .int x1, .ref 0] (1 + nX g) (zSW g) (zMW f μ) (.inl (some (.int 1)), 1 + nX g, zSW g, zMW f μ1, 0 + 1, 0 + 6) := by
  have hg := nX_le g
  refine zMH_of (by decide +kernel) (by simp [Value.category]) (by simp) (Nat.le_of_ble_eq_true rfl) ?_
  show zBW _ _ _ _ _ _ _ [.ref 1, .int x1, .ref 0, .null] _ _ _ _ _
  refine zB_aload_n (pc := 0) dL_slack_0 rfl ?_
  refine zB_iconst (pc := 1) (0 : Int32) dL_slack_1 (by decide) ?_
  refine zB_aload_n (pc := 2) dL_slack_2 rfl ?_
  refine zB_iload_n (pc := 3) dL_slack_3 rfl ?_
  refine zB_callFX (B := 1) (pc := 4) (b := 0) (As := [.int x1]) (n := nX g) (S := SX g) (μ := μ) (E := "java/lang/IllegalArgumentException") (nm := "java/lang/IllegalArgumentException") (px := []) (x := ⟨0, 9, 12, 13⟩) (sx := []) (i := 3) (ln := 1) kvL_116 klL_116 (zMR_ex rfl (t8_slack x1 μ) h) (by decide) (by omega) (sx_0 g) rfl rfl (Nat.le_of_ble_eq_true rfl) zSW_sub (Nat.le_refl _) (zSW_wf g) (by omega) (zwfG g) dL_slack_4 rfl (fun z hz => by cases hz) (by decide) rfl (by decide) kxL_13 kxc_13 (Or.inl ⟨3, dL_slack_12, rfl, rfl⟩) (by decide) ?_
  refine zB_congr (S2 := zSW g) (μ2 := zMW f μ1) zSW_put ?_
  refine zB_iconst (pc := 13) (1 : Int32) dL_slack_13 (by decide) ?_
  exact zB_iret (pc := 14) rfl dL_slack_14
theorem tw_firm {g : Bool} {x1 : Int32} {x2 : Int32} {x3 : Int32} {f : Nat → Int32} {v : Int32} {μ μ1 : zMem} (h : f8_firm x1 x2 x3 μ = some (0, v, μ1)) : zMH [(0, 12, 15, 22), (0, 12, 19, 13)] yL_firm cL_firm 6 (some .int) 8 [.ref 1, .int x1, .int x2, .int x3, .ref 0] (1 + nX g) (zSW g) (zMW f μ) (.inl (some (.int 0)), 1 + nX g, zSW g, zMW (fun i => if i = 0 then v else f i) μ1, 0 + 0, 0 + 0) := by
  have hg := nX_le g
  refine zMH_of (by decide +kernel) (by simp [Value.category]) (by simp) (Nat.le_of_ble_eq_true rfl) ?_
  show zBW _ _ _ _ _ _ _ [.ref 1, .int x1, .int x2, .int x3, .ref 0, .null] _ _ _ _ _
  refine zB_aload (pc := 0) dL_firm_0 rfl ?_
  refine zB_iconst (pc := 2) (0 : Int32) dL_firm_2 (by decide) ?_
  refine zB_aload_n (pc := 3) dL_firm_3 rfl ?_
  refine zB_iload_n (pc := 4) dL_firm_4 rfl ?_
  refine zB_iload_n (pc := 5) dL_firm_5 rfl ?_
  refine zB_iload_n (pc := 6) dL_firm_6 rfl ?_
  refine zB_callFV (B := 1) (pc := 7) (b := 0) (As := [.int x1, .int x2, .int x3]) (n := nX g) (S := SX g) (μ := μ) (v := some (.int v)) kvL_119 (zMR_ok (t8_firm x1 x2 x3 μ) h) (fun q e => by cases e) (by decide) (by omega) (sx_0 g) rfl rfl (Nat.le_of_ble_eq_true rfl) zSW_sub (Nat.le_refl _) (zSW_wf g) (Nat.le_refl _) (Or.inl rfl) (by omega) (zwfG g) (by have hg := nX_le g; simp only [List.mem_cons, List.not_mem_nil, or_false, forall_eq_or_imp, forall_eq, zltEq, reduceCtorEq, false_implies, implies_true, and_true, true_and] <;> omega) (by have hg := nX_le g; simp only [List.mem_cons, List.not_mem_nil, or_false, forall_eq_or_imp, forall_eq, zltEq, reduceCtorEq, false_implies, implies_true, and_true, true_and] <;> omega) dL_firm_7 ?_
  rw [Nat.sub_self, Nat.add_zero]
  refine zB_congr (S2 := zSW g) (μ2 := zMW f μ1) zSW_put ?_
  refine zB_i2l (pc := 10) dL_firm_10 ?_
  refine zB_last (pc := 11) (a := 0) (rf := zn) (by omega) rfl dL_firm_11 ?_
  rw [zMW_set]
  refine zB_goto (pc := 12) (tgt := 23) dL_firm_12 (by decide) ?_
  refine zB_iconst (pc := 23) (0 : Int32) dL_firm_23 (by decide) ?_
  exact zB_iret (pc := 24) rfl dL_firm_24
theorem tw_firm_x2 {g : Bool} {x1 : Int32} {x2 : Int32} {x3 : Int32} {f : Nat → Int32} {v : Int32} {μ μ1 : zMem} (h : f8_firm x1 x2 x3 μ = some (2, v, μ1)) : zMH [(0, 12, 15, 22), (0, 12, 19, 13)] yL_firm cL_firm 6 (some .int) 8 [.ref 1, .int x1, .int x2, .int x3, .ref 0] (1 + nX g) (zSW g) (zMW f μ) (.inl (some (.int 1)), 1 + nX g, zSW g, zMW f μ1, 0 + 1, 0 + 6) := by
  have hg := nX_le g
  refine zMH_of (by decide +kernel) (by simp [Value.category]) (by simp) (Nat.le_of_ble_eq_true rfl) ?_
  show zBW _ _ _ _ _ _ _ [.ref 1, .int x1, .int x2, .int x3, .ref 0, .null] _ _ _ _ _
  refine zB_aload (pc := 0) dL_firm_0 rfl ?_
  refine zB_iconst (pc := 2) (0 : Int32) dL_firm_2 (by decide) ?_
  refine zB_aload_n (pc := 3) dL_firm_3 rfl ?_
  refine zB_iload_n (pc := 4) dL_firm_4 rfl ?_
  refine zB_iload_n (pc := 5) dL_firm_5 rfl ?_
  refine zB_iload_n (pc := 6) dL_firm_6 rfl ?_
  refine zB_callFX (B := 1) (pc := 7) (b := 0) (As := [.int x1, .int x2, .int x3]) (n := nX g) (S := SX g) (μ := μ) (E := "java/util/NoSuchElementException") (nm := "java/util/NoSuchElementException") (px := []) (x := ⟨0, 12, 15, 22⟩) (sx := [⟨0, 12, 19, 13⟩]) (i := 5) (ln := 2) kvL_119 klL_119 (zMR_ex rfl (t8_firm x1 x2 x3 μ) h) (by decide) (by omega) (sx_0 g) rfl rfl (Nat.le_of_ble_eq_true rfl) zSW_sub (Nat.le_refl _) (zSW_wf g) (by omega) (zwfG g) dL_firm_7 rfl (fun z hz => by cases hz) (by decide) rfl (by decide) kxL_22 kxc_22 (Or.inr ⟨dL_firm_15, rfl⟩) (by decide) ?_
  refine zB_congr (S2 := zSW g) (μ2 := zMW f μ1) zSW_put ?_
  refine zB_iconst (pc := 17) (1 : Int32) dL_firm_17 (by decide) ?_
  exact zB_iret (pc := 18) rfl dL_firm_18
theorem tw_firm_x1 {g : Bool} {x1 : Int32} {x2 : Int32} {x3 : Int32} {f : Nat → Int32} {v : Int32} {μ μ1 : zMem} (h : f8_firm x1 x2 x3 μ = some (1, v, μ1)) : zMH [(0, 12, 15, 22), (0, 12, 19, 13)] yL_firm cL_firm 6 (some .int) 8 [.ref 1, .int x1, .int x2, .int x3, .ref 0] (1 + nX g) (zSW g) (zMW f μ) (.inl (some (.int 2)), 1 + nX g, zSW g, zMW f μ1, 0 + 1, 0 + 6) := by
  have hg := nX_le g
  refine zMH_of (by decide +kernel) (by simp [Value.category]) (by simp) (Nat.le_of_ble_eq_true rfl) ?_
  show zBW _ _ _ _ _ _ _ [.ref 1, .int x1, .int x2, .int x3, .ref 0, .null] _ _ _ _ _
  refine zB_aload (pc := 0) dL_firm_0 rfl ?_
  refine zB_iconst (pc := 2) (0 : Int32) dL_firm_2 (by decide) ?_
  refine zB_aload_n (pc := 3) dL_firm_3 rfl ?_
  refine zB_iload_n (pc := 4) dL_firm_4 rfl ?_
  refine zB_iload_n (pc := 5) dL_firm_5 rfl ?_
  refine zB_iload_n (pc := 6) dL_firm_6 rfl ?_
  refine zB_callFX (B := 1) (pc := 7) (b := 0) (As := [.int x1, .int x2, .int x3]) (n := nX g) (S := SX g) (μ := μ) (E := "java/lang/IllegalArgumentException") (nm := "java/lang/IllegalArgumentException") (px := [⟨0, 12, 15, 22⟩]) (x := ⟨0, 12, 19, 13⟩) (sx := []) (i := 5) (ln := 2) kvL_119 klL_119 (zMR_ex rfl (t8_firm x1 x2 x3 μ) h) (by decide) (by omega) (sx_0 g) rfl rfl (Nat.le_of_ble_eq_true rfl) zSW_sub (Nat.le_refl _) (zSW_wf g) (by omega) (zwfG g) dL_firm_7 rfl (fun z hz => by
    simp only [List.mem_cons, List.not_mem_nil, or_false] at hz
    rcases hz with rfl
    · exact ⟨by decide, "java/util/NoSuchElementException", kxL_22, by decide, by decide⟩) (by decide) rfl (by decide) kxL_13 kxc_13 (Or.inr ⟨dL_firm_19, rfl⟩) (by decide) ?_
  refine zB_congr (S2 := zSW g) (μ2 := zMW f μ1) zSW_put ?_
  refine zB_iconst (pc := 21) (2 : Int32) dL_firm_21 (by decide) ?_
  exact zB_iret (pc := 22) rfl dL_firm_22
theorem tw_twoDays {g : Bool} {x1 : Int32} {f : Nat → Int32} {v : Int32} {μ μ1 : zMem} (h : f8_twoDays x1 μ = some (0, v, μ1)) : zMH [(0, 9, 12, 13)] yL_twoDays cL_twoDays 4 (some .int) 8 [.ref 1, .int x1, .ref 0] (1 + nX g) (zSW g) (zMW f μ) (.inl (some (.int 0)), 1 + nX g, zSW g, zMW (fun i => if i = 0 then v else f i) μ1, 0 + 0, 0 + 0) := by
  have hg := nX_le g
  refine zMH_of (by decide +kernel) (by simp [Value.category]) (by simp) (Nat.le_of_ble_eq_true rfl) ?_
  show zBW _ _ _ _ _ _ _ [.ref 1, .int x1, .ref 0, .null] _ _ _ _ _
  refine zB_aload_n (pc := 0) dL_twoDays_0 rfl ?_
  refine zB_iconst (pc := 1) (0 : Int32) dL_twoDays_1 (by decide) ?_
  refine zB_aload_n (pc := 2) dL_twoDays_2 rfl ?_
  refine zB_iload_n (pc := 3) dL_twoDays_3 rfl ?_
  refine zB_callFV (B := 1) (pc := 4) (b := 0) (As := [.int x1]) (n := nX g) (S := SX g) (μ := μ) (v := some (.int v)) kvL_122 (zMR_ok (t8_twoDays x1 μ) h) (fun q e => by cases e) (by decide) (by omega) (sx_0 g) rfl rfl (Nat.le_of_ble_eq_true rfl) zSW_sub (Nat.le_refl _) (zSW_wf g) (Nat.le_refl _) (Or.inl rfl) (by omega) (zwfG g) (by have hg := nX_le g; simp only [List.mem_cons, List.not_mem_nil, or_false, forall_eq_or_imp, forall_eq, zltEq, reduceCtorEq, false_implies, implies_true, and_true, true_and] <;> omega) (by have hg := nX_le g; simp only [List.mem_cons, List.not_mem_nil, or_false, forall_eq_or_imp, forall_eq, zltEq, reduceCtorEq, false_implies, implies_true, and_true, true_and] <;> omega) dL_twoDays_4 ?_
  rw [Nat.sub_self, Nat.add_zero]
  refine zB_congr (S2 := zSW g) (μ2 := zMW f μ1) zSW_put ?_
  refine zB_i2l (pc := 7) dL_twoDays_7 ?_
  refine zB_last (pc := 8) (a := 0) (rf := zn) (by omega) rfl dL_twoDays_8 ?_
  rw [zMW_set]
  refine zB_goto (pc := 9) (tgt := 15) dL_twoDays_9 (by decide) ?_
  refine zB_iconst (pc := 15) (0 : Int32) dL_twoDays_15 (by decide) ?_
  exact zB_iret (pc := 16) rfl dL_twoDays_16
theorem tw_twoDays_x1 {g : Bool} {x1 : Int32} {f : Nat → Int32} {v : Int32} {μ μ1 : zMem} (h : f8_twoDays x1 μ = some (1, v, μ1)) : zMH [(0, 9, 12, 13)] yL_twoDays cL_twoDays 4 (some .int) 8 [.ref 1, .int x1, .ref 0] (1 + nX g) (zSW g) (zMW f μ) (.inl (some (.int 1)), 1 + nX g, zSW g, zMW f μ1, 0 + 1, 0 + 6) := by
  have hg := nX_le g
  refine zMH_of (by decide +kernel) (by simp [Value.category]) (by simp) (Nat.le_of_ble_eq_true rfl) ?_
  show zBW _ _ _ _ _ _ _ [.ref 1, .int x1, .ref 0, .null] _ _ _ _ _
  refine zB_aload_n (pc := 0) dL_twoDays_0 rfl ?_
  refine zB_iconst (pc := 1) (0 : Int32) dL_twoDays_1 (by decide) ?_
  refine zB_aload_n (pc := 2) dL_twoDays_2 rfl ?_
  refine zB_iload_n (pc := 3) dL_twoDays_3 rfl ?_
  refine zB_callFX (B := 1) (pc := 4) (b := 0) (As := [.int x1]) (n := nX g) (S := SX g) (μ := μ) (E := "java/lang/IllegalArgumentException") (nm := "java/lang/IllegalArgumentException") (px := []) (x := ⟨0, 9, 12, 13⟩) (sx := []) (i := 3) (ln := 1) kvL_122 klL_122 (zMR_ex rfl (t8_twoDays x1 μ) h) (by decide) (by omega) (sx_0 g) rfl rfl (Nat.le_of_ble_eq_true rfl) zSW_sub (Nat.le_refl _) (zSW_wf g) (by omega) (zwfG g) dL_twoDays_4 rfl (fun z hz => by cases hz) (by decide) rfl (by decide) kxL_13 kxc_13 (Or.inl ⟨3, dL_twoDays_12, rfl, rfl⟩) (by decide) ?_
  refine zB_congr (S2 := zSW g) (μ2 := zMW f μ1) zSW_put ?_
  refine zB_iconst (pc := 13) (1 : Int32) dL_twoDays_13 (by decide) ?_
  exact zB_iret (pc := 14) rfl dL_twoDays_14
