theorem d_L_feed_0 : decode c_L_feed 0 = .ok (.aload 6, 2) := by decide +kernel
theorem d_L_feed_2 : decode c_L_feed 2 = .ok (.iconst 0, 1) := by decide +kernel
theorem d_L_feed_3 : decode c_L_feed 3 = .ok (.aload_n 0, 1) := by decide +kernel
theorem d_L_feed_4 : decode c_L_feed 4 = .ok (.iload_n 1, 1) := by decide +kernel
theorem d_L_feed_5 : decode c_L_feed 5 = .ok (.iload_n 2, 1) := by decide +kernel
theorem d_L_feed_6 : decode c_L_feed 6 = .ok (.iload_n 3, 1) := by decide +kernel
theorem d_L_feed_7 : decode c_L_feed 7 = .ok (.iload 4, 2) := by decide +kernel
theorem d_L_feed_9 : decode c_L_feed 9 = .ok (.iload 5, 2) := by decide +kernel
theorem d_L_feed_11 : decode c_L_feed 11 = .ok (.invokevirtual 7, 3) := by decide +kernel
theorem d_L_feed_14 : decode c_L_feed 14 = .ok (.i2l, 1) := by decide +kernel
theorem d_L_feed_15 : decode c_L_feed 15 = .ok (.lastore, 1) := by decide +kernel
theorem d_L_feed_16 : decode c_L_feed 16 = .ok (.goto 7, 3) := by decide +kernel
theorem d_L_feed_19 : decode c_L_feed 19 = .ok (.astore 7, 2) := by decide +kernel
theorem d_L_feed_21 : decode c_L_feed 21 = .ok (.iconst 1, 1) := by decide +kernel
theorem d_L_feed_22 : decode c_L_feed 22 = .ok (.ireturn, 1) := by decide +kernel
theorem d_L_feed_23 : decode c_L_feed 23 = .ok (.iconst 0, 1) := by decide +kernel
theorem d_L_feed_24 : decode c_L_feed 24 = .ok (.ireturn, 1) := by decide +kernel
theorem d_L_trim_0 : decode c_L_trim 0 = .ok (.aload_n 2, 1) := by decide +kernel
theorem d_L_trim_1 : decode c_L_trim 1 = .ok (.iconst 0, 1) := by decide +kernel
theorem d_L_trim_2 : decode c_L_trim 2 = .ok (.aload_n 0, 1) := by decide +kernel
theorem d_L_trim_3 : decode c_L_trim 3 = .ok (.iload_n 1, 1) := by decide +kernel
theorem d_L_trim_4 : decode c_L_trim 4 = .ok (.invokevirtual 15, 3) := by decide +kernel
theorem d_L_trim_7 : decode c_L_trim 7 = .ok (.i2l, 1) := by decide +kernel
theorem d_L_trim_8 : decode c_L_trim 8 = .ok (.lastore, 1) := by decide +kernel
theorem d_L_trim_9 : decode c_L_trim 9 = .ok (.goto 6, 3) := by decide +kernel
theorem d_L_trim_12 : decode c_L_trim 12 = .ok (.astore_n 3, 1) := by decide +kernel
theorem d_L_trim_13 : decode c_L_trim 13 = .ok (.iconst 1, 1) := by decide +kernel
theorem d_L_trim_14 : decode c_L_trim 14 = .ok (.ireturn, 1) := by decide +kernel
theorem d_L_trim_15 : decode c_L_trim 15 = .ok (.iconst 0, 1) := by decide +kernel
theorem d_L_trim_16 : decode c_L_trim 16 = .ok (.ireturn, 1) := by decide +kernel
theorem d_L_learn_0 : decode c_L_learn 0 = .ok (.aload_n 2, 1) := by decide +kernel
theorem d_L_learn_1 : decode c_L_learn 1 = .ok (.iconst 0, 1) := by decide +kernel
theorem d_L_learn_2 : decode c_L_learn 2 = .ok (.aload_n 0, 1) := by decide +kernel
theorem d_L_learn_3 : decode c_L_learn 3 = .ok (.iload_n 1, 1) := by decide +kernel
theorem d_L_learn_4 : decode c_L_learn 4 = .ok (.invokevirtual 21, 3) := by decide +kernel
theorem d_L_learn_7 : decode c_L_learn 7 = .ok (.i2l, 1) := by decide +kernel
theorem d_L_learn_8 : decode c_L_learn 8 = .ok (.lastore, 1) := by decide +kernel
theorem d_L_learn_9 : decode c_L_learn 9 = .ok (.goto 6, 3) := by decide +kernel
theorem d_L_learn_12 : decode c_L_learn 12 = .ok (.astore_n 3, 1) := by decide +kernel
theorem d_L_learn_13 : decode c_L_learn 13 = .ok (.iconst 1, 1) := by decide +kernel
theorem d_L_learn_14 : decode c_L_learn 14 = .ok (.ireturn, 1) := by decide +kernel
theorem d_L_learn_15 : decode c_L_learn 15 = .ok (.iconst 0, 1) := by decide +kernel
theorem d_L_learn_16 : decode c_L_learn 16 = .ok (.ireturn, 1) := by decide +kernel
theorem d_L_figure_0 : decode c_L_figure 0 = .ok (.aload_n 3, 1) := by decide +kernel
theorem d_L_figure_1 : decode c_L_figure 1 = .ok (.iconst 0, 1) := by decide +kernel
theorem d_L_figure_2 : decode c_L_figure 2 = .ok (.aload_n 0, 1) := by decide +kernel
theorem d_L_figure_3 : decode c_L_figure 3 = .ok (.iload_n 1, 1) := by decide +kernel
theorem d_L_figure_4 : decode c_L_figure 4 = .ok (.iload_n 2, 1) := by decide +kernel
theorem d_L_figure_5 : decode c_L_figure 5 = .ok (.invokevirtual 26, 3) := by decide +kernel
theorem d_L_figure_8 : decode c_L_figure 8 = .ok (.i2l, 1) := by decide +kernel
theorem d_L_figure_9 : decode c_L_figure 9 = .ok (.lastore, 1) := by decide +kernel
theorem d_L_figure_10 : decode c_L_figure 10 = .ok (.goto 7, 3) := by decide +kernel
theorem d_L_figure_13 : decode c_L_figure 13 = .ok (.astore 4, 2) := by decide +kernel
theorem d_L_figure_15 : decode c_L_figure 15 = .ok (.iconst 1, 1) := by decide +kernel
theorem d_L_figure_16 : decode c_L_figure 16 = .ok (.ireturn, 1) := by decide +kernel
theorem d_L_figure_17 : decode c_L_figure 17 = .ok (.iconst 0, 1) := by decide +kernel
theorem d_L_figure_18 : decode c_L_figure 18 = .ok (.ireturn, 1) := by decide +kernel
theorem d_L_drift_0 : decode c_L_drift 0 = .ok (.aload_n 3, 1) := by decide +kernel
theorem d_L_drift_1 : decode c_L_drift 1 = .ok (.iconst 0, 1) := by decide +kernel
theorem d_L_drift_2 : decode c_L_drift 2 = .ok (.aload_n 0, 1) := by decide +kernel
theorem d_L_drift_3 : decode c_L_drift 3 = .ok (.iload_n 1, 1) := by decide +kernel
theorem d_L_drift_4 : decode c_L_drift 4 = .ok (.iload_n 2, 1) := by decide +kernel
theorem d_L_drift_5 : decode c_L_drift 5 = .ok (.invokevirtual 30, 3) := by decide +kernel
theorem d_L_drift_8 : decode c_L_drift 8 = .ok (.i2l, 1) := by decide +kernel
theorem d_L_drift_9 : decode c_L_drift 9 = .ok (.lastore, 1) := by decide +kernel
theorem d_L_drift_10 : decode c_L_drift 10 = .ok (.goto 7, 3) := by decide +kernel
theorem d_L_drift_13 : decode c_L_drift 13 = .ok (.astore 4, 2) := by decide +kernel
theorem d_L_drift_15 : decode c_L_drift 15 = .ok (.iconst 1, 1) := by decide +kernel
theorem d_L_drift_16 : decode c_L_drift 16 = .ok (.ireturn, 1) := by decide +kernel
theorem d_L_drift_17 : decode c_L_drift 17 = .ok (.iconst 0, 1) := by decide +kernel
theorem d_L_drift_18 : decode c_L_drift 18 = .ok (.ireturn, 1) := by decide +kernel
theorem d_L_come_0 : decode c_L_come 0 = .ok (.aload 5, 2) := by decide +kernel
theorem d_L_come_2 : decode c_L_come 2 = .ok (.iconst 0, 1) := by decide +kernel
theorem d_L_come_3 : decode c_L_come 3 = .ok (.aload_n 0, 1) := by decide +kernel
theorem d_L_come_4 : decode c_L_come 4 = .ok (.iload_n 1, 1) := by decide +kernel
theorem d_L_come_5 : decode c_L_come 5 = .ok (.iload_n 2, 1) := by decide +kernel
theorem d_L_come_6 : decode c_L_come 6 = .ok (.iload_n 3, 1) := by decide +kernel
theorem d_L_come_7 : decode c_L_come 7 = .ok (.iload 4, 2) := by decide +kernel
theorem d_L_come_9 : decode c_L_come 9 = .ok (.invokevirtual 33, 3) := by decide +kernel
theorem d_L_come_12 : decode c_L_come 12 = .ok (.i2l, 1) := by decide +kernel
theorem d_L_come_13 : decode c_L_come 13 = .ok (.lastore, 1) := by decide +kernel
theorem d_L_come_14 : decode c_L_come 14 = .ok (.goto 11, 3) := by decide +kernel
theorem d_L_come_17 : decode c_L_come 17 = .ok (.astore 6, 2) := by decide +kernel
theorem d_L_come_19 : decode c_L_come 19 = .ok (.iconst 1, 1) := by decide +kernel
theorem d_L_come_20 : decode c_L_come 20 = .ok (.ireturn, 1) := by decide +kernel
theorem d_L_come_21 : decode c_L_come 21 = .ok (.astore 6, 2) := by decide +kernel
theorem d_L_come_23 : decode c_L_come 23 = .ok (.iconst 2, 1) := by decide +kernel
theorem d_L_come_24 : decode c_L_come 24 = .ok (.ireturn, 1) := by decide +kernel
theorem d_L_come_25 : decode c_L_come 25 = .ok (.iconst 0, 1) := by decide +kernel
theorem d_L_come_26 : decode c_L_come 26 = .ok (.ireturn, 1) := by decide +kernel
theorem d_L_dance_0 : decode c_L_dance 0 = .ok (.aload_n 3, 1) := by decide +kernel
theorem d_L_dance_1 : decode c_L_dance 1 = .ok (.iconst 0, 1) := by decide +kernel
theorem d_L_dance_2 : decode c_L_dance 2 = .ok (.aload_n 0, 1) := by decide +kernel
theorem d_L_dance_3 : decode c_L_dance 3 = .ok (.iload_n 1, 1) := by decide +kernel
theorem d_L_dance_4 : decode c_L_dance 4 = .ok (.iload_n 2, 1) := by decide +kernel
theorem d_L_dance_5 : decode c_L_dance 5 = .ok (.invokevirtual 37, 3) := by decide +kernel
theorem d_L_dance_8 : decode c_L_dance 8 = .ok (.i2l, 1) := by decide +kernel
theorem d_L_dance_9 : decode c_L_dance 9 = .ok (.lastore, 1) := by decide +kernel
theorem d_L_dance_10 : decode c_L_dance 10 = .ok (.goto 7, 3) := by decide +kernel
theorem d_L_dance_13 : decode c_L_dance 13 = .ok (.astore 4, 2) := by decide +kernel
theorem d_L_dance_15 : decode c_L_dance 15 = .ok (.iconst 1, 1) := by decide +kernel
theorem d_L_dance_16 : decode c_L_dance 16 = .ok (.ireturn, 1) := by decide +kernel
theorem d_L_dance_17 : decode c_L_dance 17 = .ok (.iconst 0, 1) := by decide +kernel
theorem d_L_dance_18 : decode c_L_dance 18 = .ok (.ireturn, 1) := by decide +kernel
theorem d_L_pair_0 : decode c_L_pair 0 = .ok (.aload_n 3, 1) := by decide +kernel
theorem d_L_pair_1 : decode c_L_pair 1 = .ok (.iconst 0, 1) := by decide +kernel
theorem d_L_pair_2 : decode c_L_pair 2 = .ok (.aload_n 0, 1) := by decide +kernel
theorem d_L_pair_3 : decode c_L_pair 3 = .ok (.iload_n 1, 1) := by decide +kernel
theorem d_L_pair_4 : decode c_L_pair 4 = .ok (.iload_n 2, 1) := by decide +kernel
theorem d_L_pair_5 : decode c_L_pair 5 = .ok (.invokevirtual 40, 3) := by decide +kernel
theorem d_L_pair_8 : decode c_L_pair 8 = .ok (.i2l, 1) := by decide +kernel
theorem d_L_pair_9 : decode c_L_pair 9 = .ok (.lastore, 1) := by decide +kernel
theorem d_L_pair_10 : decode c_L_pair 10 = .ok (.goto 15, 3) := by decide +kernel
theorem d_L_pair_13 : decode c_L_pair 13 = .ok (.astore 4, 2) := by decide +kernel
theorem d_L_pair_15 : decode c_L_pair 15 = .ok (.iconst 1, 1) := by decide +kernel
theorem d_L_pair_16 : decode c_L_pair 16 = .ok (.ireturn, 1) := by decide +kernel
theorem d_L_pair_17 : decode c_L_pair 17 = .ok (.astore 4, 2) := by decide +kernel
theorem d_L_pair_19 : decode c_L_pair 19 = .ok (.iconst 2, 1) := by decide +kernel
theorem d_L_pair_20 : decode c_L_pair 20 = .ok (.ireturn, 1) := by decide +kernel
theorem d_L_pair_21 : decode c_L_pair 21 = .ok (.astore 4, 2) := by decide +kernel
theorem d_L_pair_23 : decode c_L_pair 23 = .ok (.iconst 3, 1) := by decide +kernel
theorem d_L_pair_24 : decode c_L_pair 24 = .ok (.ireturn, 1) := by decide +kernel
theorem d_L_pair_25 : decode c_L_pair 25 = .ok (.iconst 0, 1) := by decide +kernel
theorem d_L_pair_26 : decode c_L_pair 26 = .ok (.ireturn, 1) := by decide +kernel
theorem d_L_part_0 : decode c_L_part 0 = .ok (.aload_n 2, 1) := by decide +kernel
theorem d_L_part_1 : decode c_L_part 1 = .ok (.iconst 0, 1) := by decide +kernel
theorem d_L_part_2 : decode c_L_part 2 = .ok (.aload_n 0, 1) := by decide +kernel
theorem d_L_part_3 : decode c_L_part 3 = .ok (.iload_n 1, 1) := by decide +kernel
theorem d_L_part_4 : decode c_L_part 4 = .ok (.invokevirtual 43, 3) := by decide +kernel
theorem d_L_part_7 : decode c_L_part 7 = .ok (.i2l, 1) := by decide +kernel
theorem d_L_part_8 : decode c_L_part 8 = .ok (.lastore, 1) := by decide +kernel
theorem d_L_part_9 : decode c_L_part 9 = .ok (.goto 9, 3) := by decide +kernel
theorem d_L_part_12 : decode c_L_part 12 = .ok (.astore_n 3, 1) := by decide +kernel
theorem d_L_part_13 : decode c_L_part 13 = .ok (.iconst 1, 1) := by decide +kernel
theorem d_L_part_14 : decode c_L_part 14 = .ok (.ireturn, 1) := by decide +kernel
theorem d_L_part_15 : decode c_L_part 15 = .ok (.astore_n 3, 1) := by decide +kernel
theorem d_L_part_16 : decode c_L_part 16 = .ok (.iconst 2, 1) := by decide +kernel
theorem d_L_part_17 : decode c_L_part 17 = .ok (.ireturn, 1) := by decide +kernel
theorem d_L_part_18 : decode c_L_part 18 = .ok (.iconst 0, 1) := by decide +kernel
theorem d_L_part_19 : decode c_L_part 19 = .ok (.ireturn, 1) := by decide +kernel
theorem d_L_wind_0 : decode c_L_wind 0 = .ok (.aload_n 3, 1) := by decide +kernel
theorem d_L_wind_1 : decode c_L_wind 1 = .ok (.iconst 0, 1) := by decide +kernel
theorem d_L_wind_2 : decode c_L_wind 2 = .ok (.aload_n 0, 1) := by decide +kernel
theorem d_L_wind_3 : decode c_L_wind 3 = .ok (.iload_n 1, 1) := by decide +kernel
theorem d_L_wind_4 : decode c_L_wind 4 = .ok (.iload_n 2, 1) := by decide +kernel
theorem d_L_wind_5 : decode c_L_wind 5 = .ok (.invokevirtual 46, 3) := by decide +kernel
theorem d_L_wind_8 : decode c_L_wind 8 = .ok (.i2l, 1) := by decide +kernel
theorem d_L_wind_9 : decode c_L_wind 9 = .ok (.lastore, 1) := by decide +kernel
theorem d_L_wind_10 : decode c_L_wind 10 = .ok (.goto 11, 3) := by decide +kernel
theorem d_L_wind_13 : decode c_L_wind 13 = .ok (.astore 4, 2) := by decide +kernel
theorem d_L_wind_15 : decode c_L_wind 15 = .ok (.iconst 1, 1) := by decide +kernel
theorem d_L_wind_16 : decode c_L_wind 16 = .ok (.ireturn, 1) := by decide +kernel
theorem d_L_wind_17 : decode c_L_wind 17 = .ok (.astore 4, 2) := by decide +kernel
theorem d_L_wind_19 : decode c_L_wind 19 = .ok (.iconst 2, 1) := by decide +kernel
theorem d_L_wind_20 : decode c_L_wind 20 = .ok (.ireturn, 1) := by decide +kernel
theorem d_L_wind_21 : decode c_L_wind 21 = .ok (.iconst 0, 1) := by decide +kernel
theorem d_L_wind_22 : decode c_L_wind 22 = .ok (.ireturn, 1) := by decide +kernel
theorem d_L_dancer_0 : decode c_L_dancer 0 = .ok (.aload_n 3, 1) := by decide +kernel
theorem d_L_dancer_1 : decode c_L_dancer 1 = .ok (.iconst 0, 1) := by decide +kernel
theorem d_L_dancer_2 : decode c_L_dancer 2 = .ok (.aload_n 0, 1) := by decide +kernel
theorem d_L_dancer_3 : decode c_L_dancer 3 = .ok (.iload_n 1, 1) := by decide +kernel
theorem d_L_dancer_4 : decode c_L_dancer 4 = .ok (.iload_n 2, 1) := by decide +kernel
theorem d_L_dancer_5 : decode c_L_dancer 5 = .ok (.invokevirtual 49, 3) := by decide +kernel
theorem d_L_dancer_8 : decode c_L_dancer 8 = .ok (.i2l, 1) := by decide +kernel
theorem d_L_dancer_9 : decode c_L_dancer 9 = .ok (.lastore, 1) := by decide +kernel
theorem d_L_dancer_10 : decode c_L_dancer 10 = .ok (.goto 7, 3) := by decide +kernel
theorem d_L_dancer_13 : decode c_L_dancer 13 = .ok (.astore 4, 2) := by decide +kernel
theorem d_L_dancer_15 : decode c_L_dancer 15 = .ok (.iconst 1, 1) := by decide +kernel
theorem d_L_dancer_16 : decode c_L_dancer 16 = .ok (.ireturn, 1) := by decide +kernel
theorem d_L_dancer_17 : decode c_L_dancer 17 = .ok (.iconst 0, 1) := by decide +kernel
theorem d_L_dancer_18 : decode c_L_dancer 18 = .ok (.ireturn, 1) := by decide +kernel
theorem d_L_at_0 : decode c_L_at 0 = .ok (.aload_n 3, 1) := by decide +kernel
theorem d_L_at_1 : decode c_L_at 1 = .ok (.iconst 0, 1) := by decide +kernel
theorem d_L_at_2 : decode c_L_at 2 = .ok (.aload_n 0, 1) := by decide +kernel
theorem d_L_at_3 : decode c_L_at 3 = .ok (.iload_n 1, 1) := by decide +kernel
theorem d_L_at_4 : decode c_L_at 4 = .ok (.iload_n 2, 1) := by decide +kernel
theorem d_L_at_5 : decode c_L_at 5 = .ok (.invokevirtual 52, 3) := by decide +kernel
theorem d_L_at_8 : decode c_L_at 8 = .ok (.i2l, 1) := by decide +kernel
theorem d_L_at_9 : decode c_L_at 9 = .ok (.lastore, 1) := by decide +kernel
theorem d_L_at_10 : decode c_L_at 10 = .ok (.goto 7, 3) := by decide +kernel
theorem d_L_at_13 : decode c_L_at 13 = .ok (.astore 4, 2) := by decide +kernel
theorem d_L_at_15 : decode c_L_at 15 = .ok (.iconst 1, 1) := by decide +kernel
theorem d_L_at_16 : decode c_L_at 16 = .ok (.ireturn, 1) := by decide +kernel
theorem d_L_at_17 : decode c_L_at 17 = .ok (.iconst 0, 1) := by decide +kernel
theorem d_L_at_18 : decode c_L_at 18 = .ok (.ireturn, 1) := by decide +kernel
theorem d_L_addWinder_0 : decode c_L_addWinder 0 = .ok (.aload 4, 2) := by decide +kernel
theorem d_L_addWinder_2 : decode c_L_addWinder 2 = .ok (.iconst 0, 1) := by decide +kernel
theorem d_L_addWinder_3 : decode c_L_addWinder 3 = .ok (.aload_n 0, 1) := by decide +kernel
theorem d_L_addWinder_4 : decode c_L_addWinder 4 = .ok (.iload_n 1, 1) := by decide +kernel
theorem d_L_addWinder_5 : decode c_L_addWinder 5 = .ok (.iload_n 2, 1) := by decide +kernel
theorem d_L_addWinder_6 : decode c_L_addWinder 6 = .ok (.iload_n 3, 1) := by decide +kernel
theorem d_L_addWinder_7 : decode c_L_addWinder 7 = .ok (.invokevirtual 55, 3) := by decide +kernel
theorem d_L_addWinder_10 : decode c_L_addWinder 10 = .ok (.i2l, 1) := by decide +kernel
theorem d_L_addWinder_11 : decode c_L_addWinder 11 = .ok (.lastore, 1) := by decide +kernel
theorem d_L_addWinder_12 : decode c_L_addWinder 12 = .ok (.goto 11, 3) := by decide +kernel
theorem d_L_addWinder_15 : decode c_L_addWinder 15 = .ok (.astore 5, 2) := by decide +kernel
theorem d_L_addWinder_17 : decode c_L_addWinder 17 = .ok (.iconst 1, 1) := by decide +kernel
theorem d_L_addWinder_18 : decode c_L_addWinder 18 = .ok (.ireturn, 1) := by decide +kernel
theorem d_L_addWinder_19 : decode c_L_addWinder 19 = .ok (.astore 5, 2) := by decide +kernel
theorem d_L_addWinder_21 : decode c_L_addWinder 21 = .ok (.iconst 2, 1) := by decide +kernel
theorem d_L_addWinder_22 : decode c_L_addWinder 22 = .ok (.ireturn, 1) := by decide +kernel
theorem d_L_addWinder_23 : decode c_L_addWinder 23 = .ok (.iconst 0, 1) := by decide +kernel
theorem d_L_addWinder_24 : decode c_L_addWinder 24 = .ok (.ireturn, 1) := by decide +kernel
theorem d_L_call_0 : decode c_L_call 0 = .ok (.aload_n 3, 1) := by decide +kernel
theorem d_L_call_1 : decode c_L_call 1 = .ok (.iconst 0, 1) := by decide +kernel
theorem d_L_call_2 : decode c_L_call 2 = .ok (.aload_n 0, 1) := by decide +kernel
theorem d_L_call_3 : decode c_L_call 3 = .ok (.iload_n 1, 1) := by decide +kernel
theorem d_L_call_4 : decode c_L_call 4 = .ok (.iload_n 2, 1) := by decide +kernel
theorem d_L_call_5 : decode c_L_call 5 = .ok (.invokevirtual 59, 3) := by decide +kernel
theorem d_L_call_8 : decode c_L_call 8 = .ok (.i2l, 1) := by decide +kernel
theorem d_L_call_9 : decode c_L_call 9 = .ok (.lastore, 1) := by decide +kernel
theorem d_L_call_10 : decode c_L_call 10 = .ok (.goto 11, 3) := by decide +kernel
theorem d_L_call_13 : decode c_L_call 13 = .ok (.astore 4, 2) := by decide +kernel
theorem d_L_call_15 : decode c_L_call 15 = .ok (.iconst 1, 1) := by decide +kernel
theorem d_L_call_16 : decode c_L_call 16 = .ok (.ireturn, 1) := by decide +kernel
theorem d_L_call_17 : decode c_L_call 17 = .ok (.astore 4, 2) := by decide +kernel
theorem d_L_call_19 : decode c_L_call 19 = .ok (.iconst 2, 1) := by decide +kernel
theorem d_L_call_20 : decode c_L_call 20 = .ok (.ireturn, 1) := by decide +kernel
theorem d_L_call_21 : decode c_L_call 21 = .ok (.iconst 0, 1) := by decide +kernel
theorem d_L_call_22 : decode c_L_call 22 = .ok (.ireturn, 1) := by decide +kernel
theorem d_L_winder_0 : decode c_L_winder 0 = .ok (.aload_n 3, 1) := by decide +kernel
theorem d_L_winder_1 : decode c_L_winder 1 = .ok (.iconst 0, 1) := by decide +kernel
theorem d_L_winder_2 : decode c_L_winder 2 = .ok (.aload_n 0, 1) := by decide +kernel
theorem d_L_winder_3 : decode c_L_winder 3 = .ok (.iload_n 1, 1) := by decide +kernel
theorem d_L_winder_4 : decode c_L_winder 4 = .ok (.iload_n 2, 1) := by decide +kernel
theorem d_L_winder_5 : decode c_L_winder 5 = .ok (.invokevirtual 62, 3) := by decide +kernel
theorem d_L_winder_8 : decode c_L_winder 8 = .ok (.i2l, 1) := by decide +kernel
theorem d_L_winder_9 : decode c_L_winder 9 = .ok (.lastore, 1) := by decide +kernel
theorem d_L_winder_10 : decode c_L_winder 10 = .ok (.goto 7, 3) := by decide +kernel
theorem d_L_winder_13 : decode c_L_winder 13 = .ok (.astore 4, 2) := by decide +kernel
theorem d_L_winder_15 : decode c_L_winder 15 = .ok (.iconst 1, 1) := by decide +kernel
theorem d_L_winder_16 : decode c_L_winder 16 = .ok (.ireturn, 1) := by decide +kernel
theorem d_L_winder_17 : decode c_L_winder 17 = .ok (.iconst 0, 1) := by decide +kernel
theorem d_L_winder_18 : decode c_L_winder 18 = .ok (.ireturn, 1) := by decide +kernel
theorem d_L_pass_0 : decode c_L_pass 0 = .ok (.aload_n 2, 1) := by decide +kernel
theorem d_L_pass_1 : decode c_L_pass 1 = .ok (.iconst 0, 1) := by decide +kernel
theorem d_L_pass_2 : decode c_L_pass 2 = .ok (.aload_n 0, 1) := by decide +kernel
theorem d_L_pass_3 : decode c_L_pass 3 = .ok (.iload_n 1, 1) := by decide +kernel
theorem d_L_pass_4 : decode c_L_pass 4 = .ok (.invokevirtual 65, 3) := by decide +kernel
theorem d_L_pass_7 : decode c_L_pass 7 = .ok (.i2l, 1) := by decide +kernel
theorem d_L_pass_8 : decode c_L_pass 8 = .ok (.lastore, 1) := by decide +kernel
theorem d_L_pass_9 : decode c_L_pass 9 = .ok (.goto 6, 3) := by decide +kernel
theorem d_L_pass_12 : decode c_L_pass 12 = .ok (.astore_n 3, 1) := by decide +kernel
theorem d_L_pass_13 : decode c_L_pass 13 = .ok (.iconst 1, 1) := by decide +kernel
theorem d_L_pass_14 : decode c_L_pass 14 = .ok (.ireturn, 1) := by decide +kernel
theorem d_L_pass_15 : decode c_L_pass 15 = .ok (.iconst 0, 1) := by decide +kernel
theorem d_L_pass_16 : decode c_L_pass 16 = .ok (.ireturn, 1) := by decide +kernel
theorem d_L_count_0 : decode c_L_count 0 = .ok (.aload_n 2, 1) := by decide +kernel
theorem d_L_count_1 : decode c_L_count 1 = .ok (.iconst 0, 1) := by decide +kernel
theorem d_L_count_2 : decode c_L_count 2 = .ok (.aload_n 0, 1) := by decide +kernel
theorem d_L_count_3 : decode c_L_count 3 = .ok (.iload_n 1, 1) := by decide +kernel
theorem d_L_count_4 : decode c_L_count 4 = .ok (.invokevirtual 68, 3) := by decide +kernel
theorem d_L_count_7 : decode c_L_count 7 = .ok (.i2l, 1) := by decide +kernel
theorem d_L_count_8 : decode c_L_count 8 = .ok (.lastore, 1) := by decide +kernel
theorem d_L_count_9 : decode c_L_count 9 = .ok (.goto 6, 3) := by decide +kernel
theorem d_L_count_12 : decode c_L_count 12 = .ok (.astore_n 3, 1) := by decide +kernel
theorem d_L_count_13 : decode c_L_count 13 = .ok (.iconst 1, 1) := by decide +kernel
theorem d_L_count_14 : decode c_L_count 14 = .ok (.ireturn, 1) := by decide +kernel
theorem d_L_count_15 : decode c_L_count 15 = .ok (.iconst 0, 1) := by decide +kernel
theorem d_L_count_16 : decode c_L_count 16 = .ok (.ireturn, 1) := by decide +kernel
theorem d_L_foresee_0 : decode c_L_foresee 0 = .ok (.aload 4, 2) := by decide +kernel
theorem d_L_foresee_2 : decode c_L_foresee 2 = .ok (.iconst 0, 1) := by decide +kernel
theorem d_L_foresee_3 : decode c_L_foresee 3 = .ok (.aload_n 0, 1) := by decide +kernel
theorem d_L_foresee_4 : decode c_L_foresee 4 = .ok (.iload_n 1, 1) := by decide +kernel
theorem d_L_foresee_5 : decode c_L_foresee 5 = .ok (.iload_n 2, 1) := by decide +kernel
theorem d_L_foresee_6 : decode c_L_foresee 6 = .ok (.iload_n 3, 1) := by decide +kernel
theorem d_L_foresee_7 : decode c_L_foresee 7 = .ok (.invokevirtual 71, 3) := by decide +kernel
theorem d_L_foresee_10 : decode c_L_foresee 10 = .ok (.i2l, 1) := by decide +kernel
theorem d_L_foresee_11 : decode c_L_foresee 11 = .ok (.lastore, 1) := by decide +kernel
theorem d_L_foresee_12 : decode c_L_foresee 12 = .ok (.goto 11, 3) := by decide +kernel
theorem d_L_foresee_15 : decode c_L_foresee 15 = .ok (.astore 5, 2) := by decide +kernel
theorem d_L_foresee_17 : decode c_L_foresee 17 = .ok (.iconst 1, 1) := by decide +kernel
theorem d_L_foresee_18 : decode c_L_foresee 18 = .ok (.ireturn, 1) := by decide +kernel
theorem d_L_foresee_19 : decode c_L_foresee 19 = .ok (.astore 5, 2) := by decide +kernel
theorem d_L_foresee_21 : decode c_L_foresee 21 = .ok (.iconst 2, 1) := by decide +kernel
theorem d_L_foresee_22 : decode c_L_foresee 22 = .ok (.ireturn, 1) := by decide +kernel
theorem d_L_foresee_23 : decode c_L_foresee 23 = .ok (.iconst 0, 1) := by decide +kernel
theorem d_L_foresee_24 : decode c_L_foresee 24 = .ok (.ireturn, 1) := by decide +kernel
theorem d_L_firstToStop_0 : decode c_L_firstToStop 0 = .ok (.aload_n 2, 1) := by decide +kernel
theorem d_L_firstToStop_1 : decode c_L_firstToStop 1 = .ok (.iconst 0, 1) := by decide +kernel
theorem d_L_firstToStop_2 : decode c_L_firstToStop 2 = .ok (.aload_n 0, 1) := by decide +kernel
theorem d_L_firstToStop_3 : decode c_L_firstToStop 3 = .ok (.iload_n 1, 1) := by decide +kernel
theorem d_L_firstToStop_4 : decode c_L_firstToStop 4 = .ok (.invokevirtual 74, 3) := by decide +kernel
theorem d_L_firstToStop_7 : decode c_L_firstToStop 7 = .ok (.i2l, 1) := by decide +kernel
theorem d_L_firstToStop_8 : decode c_L_firstToStop 8 = .ok (.lastore, 1) := by decide +kernel
theorem d_L_firstToStop_9 : decode c_L_firstToStop 9 = .ok (.goto 6, 3) := by decide +kernel
theorem d_L_firstToStop_12 : decode c_L_firstToStop 12 = .ok (.astore_n 3, 1) := by decide +kernel
theorem d_L_firstToStop_13 : decode c_L_firstToStop 13 = .ok (.iconst 1, 1) := by decide +kernel
theorem d_L_firstToStop_14 : decode c_L_firstToStop 14 = .ok (.ireturn, 1) := by decide +kernel
theorem d_L_firstToStop_15 : decode c_L_firstToStop 15 = .ok (.iconst 0, 1) := by decide +kernel
theorem d_L_firstToStop_16 : decode c_L_firstToStop 16 = .ok (.ireturn, 1) := by decide +kernel
theorem d_L_meet_0 : decode c_L_meet 0 = .ok (.aload 4, 2) := by decide +kernel
theorem d_L_meet_2 : decode c_L_meet 2 = .ok (.iconst 0, 1) := by decide +kernel
theorem d_L_meet_3 : decode c_L_meet 3 = .ok (.aload_n 0, 1) := by decide +kernel
theorem d_L_meet_4 : decode c_L_meet 4 = .ok (.iload_n 1, 1) := by decide +kernel
theorem d_L_meet_5 : decode c_L_meet 5 = .ok (.iload_n 2, 1) := by decide +kernel
theorem d_L_meet_6 : decode c_L_meet 6 = .ok (.iload_n 3, 1) := by decide +kernel
theorem d_L_meet_7 : decode c_L_meet 7 = .ok (.invokevirtual 77, 3) := by decide +kernel
theorem d_L_meet_10 : decode c_L_meet 10 = .ok (.i2l, 1) := by decide +kernel
theorem d_L_meet_11 : decode c_L_meet 11 = .ok (.lastore, 1) := by decide +kernel
theorem d_L_meet_12 : decode c_L_meet 12 = .ok (.goto 11, 3) := by decide +kernel
theorem d_L_meet_15 : decode c_L_meet 15 = .ok (.astore 5, 2) := by decide +kernel
theorem d_L_meet_17 : decode c_L_meet 17 = .ok (.iconst 1, 1) := by decide +kernel
theorem d_L_meet_18 : decode c_L_meet 18 = .ok (.ireturn, 1) := by decide +kernel
theorem d_L_meet_19 : decode c_L_meet 19 = .ok (.astore 5, 2) := by decide +kernel
theorem d_L_meet_21 : decode c_L_meet 21 = .ok (.iconst 2, 1) := by decide +kernel
theorem d_L_meet_22 : decode c_L_meet 22 = .ok (.ireturn, 1) := by decide +kernel
theorem d_L_meet_23 : decode c_L_meet 23 = .ok (.iconst 0, 1) := by decide +kernel
theorem d_L_meet_24 : decode c_L_meet 24 = .ok (.ireturn, 1) := by decide +kernel
theorem d_L_law_0 : decode code 0 = .ok (.new 8, 3) := by decide +kernel
theorem d_L_law_3 : decode code 3 = .ok (.dup, 1) := by decide +kernel
theorem d_L_law_4 : decode code 4 = .ok (.invokespecial 80, 3) := by decide +kernel
theorem d_L_law_7 : decode code 7 = .ok (.astore_n 1, 1) := by decide +kernel
theorem d_L_law_8 : decode code 8 = .ok (.new 81, 3) := by decide +kernel
theorem d_L_law_11 : decode code 11 = .ok (.dup, 1) := by decide +kernel
theorem d_L_law_12 : decode code 12 = .ok (.invokespecial 83, 3) := by decide +kernel
theorem d_L_law_15 : decode code 15 = .ok (.astore_n 2, 1) := by decide +kernel
theorem d_L_law_16 : decode code 16 = .ok (.iconst 1, 1) := by decide +kernel
theorem d_L_law_17 : decode code 17 = .ok (.newarray .long, 2) := by decide +kernel
theorem d_L_law_19 : decode code 19 = .ok (.astore_n 3, 1) := by decide +kernel
theorem d_L_law_20 : decode code 20 = .ok (.iconst 0, 1) := by decide +kernel
theorem d_L_law_21 : decode code 21 = .ok (.istore 4, 2) := by decide +kernel
theorem d_L_law_23 : decode code 23 = .ok (.iload 4, 2) := by decide +kernel
theorem d_L_law_25 : decode code 25 = .ok (.aload_n 0, 1) := by decide +kernel
theorem d_L_law_26 : decode code 26 = .ok (.arraylength, 1) := by decide +kernel
theorem d_L_law_27 : decode code 27 = .ok (.bipush 6, 2) := by decide +kernel
theorem d_L_law_29 : decode code 29 = .ok (.isub, 1) := by decide +kernel
theorem d_L_law_30 : decode code 30 = .ok (.if_icmp .gt 1559, 3) := by decide +kernel
theorem d_L_law_33 : decode code 33 = .ok (.aload_n 0, 1) := by decide +kernel
theorem d_L_law_34 : decode code 34 = .ok (.iload 4, 2) := by decide +kernel
theorem d_L_law_36 : decode code 36 = .ok (.iaload, 1) := by decide +kernel
theorem d_L_law_37 : decode code 37 = .ok (.bipush 31, 2) := by decide +kernel
theorem d_L_law_39 : decode code 39 = .ok (.iand, 1) := by decide +kernel
theorem d_L_law_40 : decode code 40 = .ok (.tableswitch 1543 0 21 #[104, 208, 264, 320, 388, 456, 548, 616, 684, 740, 808, 876, 944, 1024, 1092, 1160, 1216, 1272, 1352, 1408, 1488, 1529], 104) := by decide +kernel
theorem d_L_law_144 : decode code 144 = .ok (.aload_n 1, 1) := by decide +kernel
theorem d_L_law_145 : decode code 145 = .ok (.aload_n 0, 1) := by decide +kernel
theorem d_L_law_146 : decode code 146 = .ok (.iload 4, 2) := by decide +kernel
theorem d_L_law_148 : decode code 148 = .ok (.iconst 1, 1) := by decide +kernel
theorem d_L_law_149 : decode code 149 = .ok (.iadd, 1) := by decide +kernel
theorem d_L_law_150 : decode code 150 = .ok (.iaload, 1) := by decide +kernel
theorem d_L_law_151 : decode code 151 = .ok (.aload_n 0, 1) := by decide +kernel
theorem d_L_law_152 : decode code 152 = .ok (.iload 4, 2) := by decide +kernel
theorem d_L_law_154 : decode code 154 = .ok (.iconst 2, 1) := by decide +kernel
theorem d_L_law_155 : decode code 155 = .ok (.iadd, 1) := by decide +kernel
theorem d_L_law_156 : decode code 156 = .ok (.iaload, 1) := by decide +kernel
theorem d_L_law_157 : decode code 157 = .ok (.aload_n 0, 1) := by decide +kernel
theorem d_L_law_158 : decode code 158 = .ok (.iload 4, 2) := by decide +kernel
theorem d_L_law_160 : decode code 160 = .ok (.iconst 3, 1) := by decide +kernel
theorem d_L_law_161 : decode code 161 = .ok (.iadd, 1) := by decide +kernel
theorem d_L_law_162 : decode code 162 = .ok (.iaload, 1) := by decide +kernel
theorem d_L_law_163 : decode code 163 = .ok (.aload_n 0, 1) := by decide +kernel
theorem d_L_law_164 : decode code 164 = .ok (.iload 4, 2) := by decide +kernel
theorem d_L_law_166 : decode code 166 = .ok (.iconst 4, 1) := by decide +kernel
theorem d_L_law_167 : decode code 167 = .ok (.iadd, 1) := by decide +kernel
theorem d_L_law_168 : decode code 168 = .ok (.iaload, 1) := by decide +kernel
theorem d_L_law_169 : decode code 169 = .ok (.aload_n 0, 1) := by decide +kernel
theorem d_L_law_170 : decode code 170 = .ok (.iload 4, 2) := by decide +kernel
theorem d_L_law_172 : decode code 172 = .ok (.iconst 5, 1) := by decide +kernel
theorem d_L_law_173 : decode code 173 = .ok (.iadd, 1) := by decide +kernel
theorem d_L_law_174 : decode code 174 = .ok (.iaload, 1) := by decide +kernel
theorem d_L_law_175 : decode code 175 = .ok (.aload_n 3, 1) := by decide +kernel
theorem d_L_law_176 : decode code 176 = .ok (.invokestatic 84, 3) := by decide +kernel
theorem d_L_law_179 : decode code 179 = .ok (.istore 5, 2) := by decide +kernel
theorem d_L_law_181 : decode code 181 = .ok (.aload_n 2, 1) := by decide +kernel
theorem d_L_law_182 : decode code 182 = .ok (.aload_n 0, 1) := by decide +kernel
theorem d_L_law_183 : decode code 183 = .ok (.iload 4, 2) := by decide +kernel
theorem d_L_law_185 : decode code 185 = .ok (.iconst 1, 1) := by decide +kernel
theorem d_L_law_186 : decode code 186 = .ok (.iadd, 1) := by decide +kernel
theorem d_L_law_187 : decode code 187 = .ok (.iaload, 1) := by decide +kernel
theorem d_L_law_188 : decode code 188 = .ok (.aload_n 0, 1) := by decide +kernel
theorem d_L_law_189 : decode code 189 = .ok (.iload 4, 2) := by decide +kernel
theorem d_L_law_191 : decode code 191 = .ok (.iconst 2, 1) := by decide +kernel
theorem d_L_law_192 : decode code 192 = .ok (.iadd, 1) := by decide +kernel
theorem d_L_law_193 : decode code 193 = .ok (.iaload, 1) := by decide +kernel
theorem d_L_law_194 : decode code 194 = .ok (.aload_n 0, 1) := by decide +kernel
theorem d_L_law_195 : decode code 195 = .ok (.iload 4, 2) := by decide +kernel
theorem d_L_law_197 : decode code 197 = .ok (.iconst 3, 1) := by decide +kernel
theorem d_L_law_198 : decode code 198 = .ok (.iadd, 1) := by decide +kernel
theorem d_L_law_199 : decode code 199 = .ok (.iaload, 1) := by decide +kernel
theorem d_L_law_200 : decode code 200 = .ok (.aload_n 0, 1) := by decide +kernel
theorem d_L_law_201 : decode code 201 = .ok (.iload 4, 2) := by decide +kernel
theorem d_L_law_203 : decode code 203 = .ok (.iconst 4, 1) := by decide +kernel
theorem d_L_law_204 : decode code 204 = .ok (.iadd, 1) := by decide +kernel
theorem d_L_law_205 : decode code 205 = .ok (.iaload, 1) := by decide +kernel
theorem d_L_law_206 : decode code 206 = .ok (.aload_n 0, 1) := by decide +kernel
theorem d_L_law_207 : decode code 207 = .ok (.iload 4, 2) := by decide +kernel
theorem d_L_law_209 : decode code 209 = .ok (.iconst 5, 1) := by decide +kernel
theorem d_L_law_210 : decode code 210 = .ok (.iadd, 1) := by decide +kernel
theorem d_L_law_211 : decode code 211 = .ok (.iaload, 1) := by decide +kernel
theorem d_L_law_212 : decode code 212 = .ok (.invokevirtual 89, 3) := by decide +kernel
theorem d_L_law_215 : decode code 215 = .ok (.istore 6, 2) := by decide +kernel
theorem d_L_law_217 : decode code 217 = .ok (.aload_n 2, 1) := by decide +kernel
theorem d_L_law_218 : decode code 218 = .ok (.invokevirtual 90, 3) := by decide +kernel
theorem d_L_law_221 : decode code 221 = .ok (.iload 5, 2) := by decide +kernel
theorem d_L_law_223 : decode code 223 = .ok (.if_icmp .eq 5, 3) := by decide +kernel
theorem d_L_law_226 : decode code 226 = .ok (.iconst 0, 1) := by decide +kernel
theorem d_L_law_227 : decode code 227 = .ok (.ireturn, 1) := by decide +kernel
theorem d_L_law_228 : decode code 228 = .ok (.iload 5, 2) := by decide +kernel
theorem d_L_law_230 : decode code 230 = .ok (.ifCond .ne 15, 3) := by decide +kernel
theorem d_L_law_233 : decode code 233 = .ok (.aload_n 3, 1) := by decide +kernel
theorem d_L_law_234 : decode code 234 = .ok (.iconst 0, 1) := by decide +kernel
theorem d_L_law_235 : decode code 235 = .ok (.laload, 1) := by decide +kernel
theorem d_L_law_236 : decode code 236 = .ok (.iload 6, 2) := by decide +kernel
theorem d_L_law_238 : decode code 238 = .ok (.i2l, 1) := by decide +kernel
theorem d_L_law_239 : decode code 239 = .ok (.lcmp, 1) := by decide +kernel
theorem d_L_law_240 : decode code 240 = .ok (.ifCond .eq 5, 3) := by decide +kernel
theorem d_L_law_243 : decode code 243 = .ok (.iconst 0, 1) := by decide +kernel
theorem d_L_law_244 : decode code 244 = .ok (.ireturn, 1) := by decide +kernel
theorem d_L_law_245 : decode code 245 = .ok (.goto 1338, 3) := by decide +kernel
theorem d_L_law_248 : decode code 248 = .ok (.aload_n 1, 1) := by decide +kernel
theorem d_L_law_249 : decode code 249 = .ok (.aload_n 0, 1) := by decide +kernel
theorem d_L_law_250 : decode code 250 = .ok (.iload 4, 2) := by decide +kernel
theorem d_L_law_252 : decode code 252 = .ok (.iconst 1, 1) := by decide +kernel
theorem d_L_law_253 : decode code 253 = .ok (.iadd, 1) := by decide +kernel
theorem d_L_law_254 : decode code 254 = .ok (.iaload, 1) := by decide +kernel
theorem d_L_law_255 : decode code 255 = .ok (.aload_n 3, 1) := by decide +kernel
theorem d_L_law_256 : decode code 256 = .ok (.invokestatic 94, 3) := by decide +kernel
theorem d_L_law_259 : decode code 259 = .ok (.istore 5, 2) := by decide +kernel
theorem d_L_law_261 : decode code 261 = .ok (.aload_n 2, 1) := by decide +kernel
theorem d_L_law_262 : decode code 262 = .ok (.aload_n 0, 1) := by decide +kernel
theorem d_L_law_263 : decode code 263 = .ok (.iload 4, 2) := by decide +kernel
theorem d_L_law_265 : decode code 265 = .ok (.iconst 1, 1) := by decide +kernel
theorem d_L_law_266 : decode code 266 = .ok (.iadd, 1) := by decide +kernel
theorem d_L_law_267 : decode code 267 = .ok (.iaload, 1) := by decide +kernel
theorem d_L_law_268 : decode code 268 = .ok (.invokevirtual 97, 3) := by decide +kernel
theorem d_L_law_271 : decode code 271 = .ok (.istore 6, 2) := by decide +kernel
theorem d_L_law_273 : decode code 273 = .ok (.aload_n 2, 1) := by decide +kernel
theorem d_L_law_274 : decode code 274 = .ok (.invokevirtual 90, 3) := by decide +kernel
theorem d_L_law_277 : decode code 277 = .ok (.iload 5, 2) := by decide +kernel
theorem d_L_law_279 : decode code 279 = .ok (.if_icmp .eq 5, 3) := by decide +kernel
theorem d_L_law_282 : decode code 282 = .ok (.iconst 0, 1) := by decide +kernel
theorem d_L_law_283 : decode code 283 = .ok (.ireturn, 1) := by decide +kernel
theorem d_L_law_284 : decode code 284 = .ok (.iload 5, 2) := by decide +kernel
theorem d_L_law_286 : decode code 286 = .ok (.ifCond .ne 15, 3) := by decide +kernel
theorem d_L_law_289 : decode code 289 = .ok (.aload_n 3, 1) := by decide +kernel
theorem d_L_law_290 : decode code 290 = .ok (.iconst 0, 1) := by decide +kernel
theorem d_L_law_291 : decode code 291 = .ok (.laload, 1) := by decide +kernel
theorem d_L_law_292 : decode code 292 = .ok (.iload 6, 2) := by decide +kernel
theorem d_L_law_294 : decode code 294 = .ok (.i2l, 1) := by decide +kernel
theorem d_L_law_295 : decode code 295 = .ok (.lcmp, 1) := by decide +kernel
theorem d_L_law_296 : decode code 296 = .ok (.ifCond .eq 5, 3) := by decide +kernel
theorem d_L_law_299 : decode code 299 = .ok (.iconst 0, 1) := by decide +kernel
theorem d_L_law_300 : decode code 300 = .ok (.ireturn, 1) := by decide +kernel
theorem d_L_law_301 : decode code 301 = .ok (.goto 1282, 3) := by decide +kernel
theorem d_L_law_304 : decode code 304 = .ok (.aload_n 1, 1) := by decide +kernel
theorem d_L_law_305 : decode code 305 = .ok (.aload_n 0, 1) := by decide +kernel
theorem d_L_law_306 : decode code 306 = .ok (.iload 4, 2) := by decide +kernel
theorem d_L_law_308 : decode code 308 = .ok (.iconst 1, 1) := by decide +kernel
theorem d_L_law_309 : decode code 309 = .ok (.iadd, 1) := by decide +kernel
theorem d_L_law_310 : decode code 310 = .ok (.iaload, 1) := by decide +kernel
theorem d_L_law_311 : decode code 311 = .ok (.aload_n 3, 1) := by decide +kernel
theorem d_L_law_312 : decode code 312 = .ok (.invokestatic 98, 3) := by decide +kernel
theorem d_L_law_315 : decode code 315 = .ok (.istore 5, 2) := by decide +kernel
theorem d_L_law_317 : decode code 317 = .ok (.aload_n 2, 1) := by decide +kernel
theorem d_L_law_318 : decode code 318 = .ok (.aload_n 0, 1) := by decide +kernel
theorem d_L_law_319 : decode code 319 = .ok (.iload 4, 2) := by decide +kernel
theorem d_L_law_321 : decode code 321 = .ok (.iconst 1, 1) := by decide +kernel
theorem d_L_law_322 : decode code 322 = .ok (.iadd, 1) := by decide +kernel
theorem d_L_law_323 : decode code 323 = .ok (.iaload, 1) := by decide +kernel
theorem d_L_law_324 : decode code 324 = .ok (.invokevirtual 100, 3) := by decide +kernel
theorem d_L_law_327 : decode code 327 = .ok (.istore 6, 2) := by decide +kernel
theorem d_L_law_329 : decode code 329 = .ok (.aload_n 2, 1) := by decide +kernel
theorem d_L_law_330 : decode code 330 = .ok (.invokevirtual 90, 3) := by decide +kernel
theorem d_L_law_333 : decode code 333 = .ok (.iload 5, 2) := by decide +kernel
theorem d_L_law_335 : decode code 335 = .ok (.if_icmp .eq 5, 3) := by decide +kernel
theorem d_L_law_338 : decode code 338 = .ok (.iconst 0, 1) := by decide +kernel
theorem d_L_law_339 : decode code 339 = .ok (.ireturn, 1) := by decide +kernel
theorem d_L_law_340 : decode code 340 = .ok (.iload 5, 2) := by decide +kernel
theorem d_L_law_342 : decode code 342 = .ok (.ifCond .ne 15, 3) := by decide +kernel
theorem d_L_law_345 : decode code 345 = .ok (.aload_n 3, 1) := by decide +kernel
theorem d_L_law_346 : decode code 346 = .ok (.iconst 0, 1) := by decide +kernel
theorem d_L_law_347 : decode code 347 = .ok (.laload, 1) := by decide +kernel
theorem d_L_law_348 : decode code 348 = .ok (.iload 6, 2) := by decide +kernel
theorem d_L_law_350 : decode code 350 = .ok (.i2l, 1) := by decide +kernel
theorem d_L_law_351 : decode code 351 = .ok (.lcmp, 1) := by decide +kernel
theorem d_L_law_352 : decode code 352 = .ok (.ifCond .eq 5, 3) := by decide +kernel
theorem d_L_law_355 : decode code 355 = .ok (.iconst 0, 1) := by decide +kernel
theorem d_L_law_356 : decode code 356 = .ok (.ireturn, 1) := by decide +kernel
theorem d_L_law_357 : decode code 357 = .ok (.goto 1226, 3) := by decide +kernel
theorem d_L_law_360 : decode code 360 = .ok (.aload_n 1, 1) := by decide +kernel
theorem d_L_law_361 : decode code 361 = .ok (.aload_n 0, 1) := by decide +kernel
theorem d_L_law_362 : decode code 362 = .ok (.iload 4, 2) := by decide +kernel
theorem d_L_law_364 : decode code 364 = .ok (.iconst 1, 1) := by decide +kernel
theorem d_L_law_365 : decode code 365 = .ok (.iadd, 1) := by decide +kernel
theorem d_L_law_366 : decode code 366 = .ok (.iaload, 1) := by decide +kernel
theorem d_L_law_367 : decode code 367 = .ok (.aload_n 0, 1) := by decide +kernel
theorem d_L_law_368 : decode code 368 = .ok (.iload 4, 2) := by decide +kernel
theorem d_L_law_370 : decode code 370 = .ok (.iconst 2, 1) := by decide +kernel
theorem d_L_law_371 : decode code 371 = .ok (.iadd, 1) := by decide +kernel
theorem d_L_law_372 : decode code 372 = .ok (.iaload, 1) := by decide +kernel
theorem d_L_law_373 : decode code 373 = .ok (.aload_n 3, 1) := by decide +kernel
theorem d_L_law_374 : decode code 374 = .ok (.invokestatic 101, 3) := by decide +kernel
theorem d_L_law_377 : decode code 377 = .ok (.istore 5, 2) := by decide +kernel
theorem d_L_law_379 : decode code 379 = .ok (.aload_n 2, 1) := by decide +kernel
theorem d_L_law_380 : decode code 380 = .ok (.aload_n 0, 1) := by decide +kernel
theorem d_L_law_381 : decode code 381 = .ok (.iload 4, 2) := by decide +kernel
theorem d_L_law_383 : decode code 383 = .ok (.iconst 1, 1) := by decide +kernel
theorem d_L_law_384 : decode code 384 = .ok (.iadd, 1) := by decide +kernel
theorem d_L_law_385 : decode code 385 = .ok (.iaload, 1) := by decide +kernel
theorem d_L_law_386 : decode code 386 = .ok (.aload_n 0, 1) := by decide +kernel
theorem d_L_law_387 : decode code 387 = .ok (.iload 4, 2) := by decide +kernel
theorem d_L_law_389 : decode code 389 = .ok (.iconst 2, 1) := by decide +kernel
theorem d_L_law_390 : decode code 390 = .ok (.iadd, 1) := by decide +kernel
theorem d_L_law_391 : decode code 391 = .ok (.iaload, 1) := by decide +kernel
theorem d_L_law_392 : decode code 392 = .ok (.invokevirtual 104, 3) := by decide +kernel
theorem d_L_law_395 : decode code 395 = .ok (.istore 6, 2) := by decide +kernel
theorem d_L_law_397 : decode code 397 = .ok (.aload_n 2, 1) := by decide +kernel
theorem d_L_law_398 : decode code 398 = .ok (.invokevirtual 90, 3) := by decide +kernel
theorem d_L_law_401 : decode code 401 = .ok (.iload 5, 2) := by decide +kernel
theorem d_L_law_403 : decode code 403 = .ok (.if_icmp .eq 5, 3) := by decide +kernel
theorem d_L_law_406 : decode code 406 = .ok (.iconst 0, 1) := by decide +kernel
theorem d_L_law_407 : decode code 407 = .ok (.ireturn, 1) := by decide +kernel
theorem d_L_law_408 : decode code 408 = .ok (.iload 5, 2) := by decide +kernel
theorem d_L_law_410 : decode code 410 = .ok (.ifCond .ne 15, 3) := by decide +kernel
theorem d_L_law_413 : decode code 413 = .ok (.aload_n 3, 1) := by decide +kernel
theorem d_L_law_414 : decode code 414 = .ok (.iconst 0, 1) := by decide +kernel
theorem d_L_law_415 : decode code 415 = .ok (.laload, 1) := by decide +kernel
theorem d_L_law_416 : decode code 416 = .ok (.iload 6, 2) := by decide +kernel
theorem d_L_law_418 : decode code 418 = .ok (.i2l, 1) := by decide +kernel
theorem d_L_law_419 : decode code 419 = .ok (.lcmp, 1) := by decide +kernel
theorem d_L_law_420 : decode code 420 = .ok (.ifCond .eq 5, 3) := by decide +kernel
theorem d_L_law_423 : decode code 423 = .ok (.iconst 0, 1) := by decide +kernel
theorem d_L_law_424 : decode code 424 = .ok (.ireturn, 1) := by decide +kernel
theorem d_L_law_425 : decode code 425 = .ok (.goto 1158, 3) := by decide +kernel
theorem d_L_law_428 : decode code 428 = .ok (.aload_n 1, 1) := by decide +kernel
theorem d_L_law_429 : decode code 429 = .ok (.aload_n 0, 1) := by decide +kernel
theorem d_L_law_430 : decode code 430 = .ok (.iload 4, 2) := by decide +kernel
theorem d_L_law_432 : decode code 432 = .ok (.iconst 1, 1) := by decide +kernel
theorem d_L_law_433 : decode code 433 = .ok (.iadd, 1) := by decide +kernel
theorem d_L_law_434 : decode code 434 = .ok (.iaload, 1) := by decide +kernel
theorem d_L_law_435 : decode code 435 = .ok (.aload_n 0, 1) := by decide +kernel
theorem d_L_law_436 : decode code 436 = .ok (.iload 4, 2) := by decide +kernel
theorem d_L_law_438 : decode code 438 = .ok (.iconst 2, 1) := by decide +kernel
theorem d_L_law_439 : decode code 439 = .ok (.iadd, 1) := by decide +kernel
theorem d_L_law_440 : decode code 440 = .ok (.iaload, 1) := by decide +kernel
theorem d_L_law_441 : decode code 441 = .ok (.aload_n 3, 1) := by decide +kernel
theorem d_L_law_442 : decode code 442 = .ok (.invokestatic 105, 3) := by decide +kernel
theorem d_L_law_445 : decode code 445 = .ok (.istore 5, 2) := by decide +kernel
theorem d_L_law_447 : decode code 447 = .ok (.aload_n 2, 1) := by decide +kernel
theorem d_L_law_448 : decode code 448 = .ok (.aload_n 0, 1) := by decide +kernel
theorem d_L_law_449 : decode code 449 = .ok (.iload 4, 2) := by decide +kernel
theorem d_L_law_451 : decode code 451 = .ok (.iconst 1, 1) := by decide +kernel
theorem d_L_law_452 : decode code 452 = .ok (.iadd, 1) := by decide +kernel
theorem d_L_law_453 : decode code 453 = .ok (.iaload, 1) := by decide +kernel
theorem d_L_law_454 : decode code 454 = .ok (.aload_n 0, 1) := by decide +kernel
theorem d_L_law_455 : decode code 455 = .ok (.iload 4, 2) := by decide +kernel
theorem d_L_law_457 : decode code 457 = .ok (.iconst 2, 1) := by decide +kernel
theorem d_L_law_458 : decode code 458 = .ok (.iadd, 1) := by decide +kernel
theorem d_L_law_459 : decode code 459 = .ok (.iaload, 1) := by decide +kernel
theorem d_L_law_460 : decode code 460 = .ok (.invokevirtual 107, 3) := by decide +kernel
theorem d_L_law_463 : decode code 463 = .ok (.istore 6, 2) := by decide +kernel
theorem d_L_law_465 : decode code 465 = .ok (.aload_n 2, 1) := by decide +kernel
theorem d_L_law_466 : decode code 466 = .ok (.invokevirtual 90, 3) := by decide +kernel
theorem d_L_law_469 : decode code 469 = .ok (.iload 5, 2) := by decide +kernel
theorem d_L_law_471 : decode code 471 = .ok (.if_icmp .eq 5, 3) := by decide +kernel
theorem d_L_law_474 : decode code 474 = .ok (.iconst 0, 1) := by decide +kernel
theorem d_L_law_475 : decode code 475 = .ok (.ireturn, 1) := by decide +kernel
theorem d_L_law_476 : decode code 476 = .ok (.iload 5, 2) := by decide +kernel
theorem d_L_law_478 : decode code 478 = .ok (.ifCond .ne 15, 3) := by decide +kernel
theorem d_L_law_481 : decode code 481 = .ok (.aload_n 3, 1) := by decide +kernel
theorem d_L_law_482 : decode code 482 = .ok (.iconst 0, 1) := by decide +kernel
theorem d_L_law_483 : decode code 483 = .ok (.laload, 1) := by decide +kernel
theorem d_L_law_484 : decode code 484 = .ok (.iload 6, 2) := by decide +kernel
theorem d_L_law_486 : decode code 486 = .ok (.i2l, 1) := by decide +kernel
theorem d_L_law_487 : decode code 487 = .ok (.lcmp, 1) := by decide +kernel
theorem d_L_law_488 : decode code 488 = .ok (.ifCond .eq 5, 3) := by decide +kernel
theorem d_L_law_491 : decode code 491 = .ok (.iconst 0, 1) := by decide +kernel
theorem d_L_law_492 : decode code 492 = .ok (.ireturn, 1) := by decide +kernel
theorem d_L_law_493 : decode code 493 = .ok (.goto 1090, 3) := by decide +kernel
theorem d_L_law_496 : decode code 496 = .ok (.aload_n 1, 1) := by decide +kernel
theorem d_L_law_497 : decode code 497 = .ok (.aload_n 0, 1) := by decide +kernel
theorem d_L_law_498 : decode code 498 = .ok (.iload 4, 2) := by decide +kernel
theorem d_L_law_500 : decode code 500 = .ok (.iconst 1, 1) := by decide +kernel
theorem d_L_law_501 : decode code 501 = .ok (.iadd, 1) := by decide +kernel
theorem d_L_law_502 : decode code 502 = .ok (.iaload, 1) := by decide +kernel
theorem d_L_law_503 : decode code 503 = .ok (.aload_n 0, 1) := by decide +kernel
theorem d_L_law_504 : decode code 504 = .ok (.iload 4, 2) := by decide +kernel
theorem d_L_law_506 : decode code 506 = .ok (.iconst 2, 1) := by decide +kernel
theorem d_L_law_507 : decode code 507 = .ok (.iadd, 1) := by decide +kernel
theorem d_L_law_508 : decode code 508 = .ok (.iaload, 1) := by decide +kernel
theorem d_L_law_509 : decode code 509 = .ok (.aload_n 0, 1) := by decide +kernel
theorem d_L_law_510 : decode code 510 = .ok (.iload 4, 2) := by decide +kernel
theorem d_L_law_512 : decode code 512 = .ok (.iconst 3, 1) := by decide +kernel
theorem d_L_law_513 : decode code 513 = .ok (.iadd, 1) := by decide +kernel
theorem d_L_law_514 : decode code 514 = .ok (.iaload, 1) := by decide +kernel
theorem d_L_law_515 : decode code 515 = .ok (.aload_n 0, 1) := by decide +kernel
theorem d_L_law_516 : decode code 516 = .ok (.iload 4, 2) := by decide +kernel
theorem d_L_law_518 : decode code 518 = .ok (.iconst 4, 1) := by decide +kernel
theorem d_L_law_519 : decode code 519 = .ok (.iadd, 1) := by decide +kernel
theorem d_L_law_520 : decode code 520 = .ok (.iaload, 1) := by decide +kernel
theorem d_L_law_521 : decode code 521 = .ok (.aload_n 3, 1) := by decide +kernel
theorem d_L_law_522 : decode code 522 = .ok (.invokestatic 108, 3) := by decide +kernel
theorem d_L_law_525 : decode code 525 = .ok (.istore 5, 2) := by decide +kernel
theorem d_L_law_527 : decode code 527 = .ok (.aload_n 2, 1) := by decide +kernel
theorem d_L_law_528 : decode code 528 = .ok (.aload_n 0, 1) := by decide +kernel
theorem d_L_law_529 : decode code 529 = .ok (.iload 4, 2) := by decide +kernel
theorem d_L_law_531 : decode code 531 = .ok (.iconst 1, 1) := by decide +kernel
theorem d_L_law_532 : decode code 532 = .ok (.iadd, 1) := by decide +kernel
theorem d_L_law_533 : decode code 533 = .ok (.iaload, 1) := by decide +kernel
theorem d_L_law_534 : decode code 534 = .ok (.aload_n 0, 1) := by decide +kernel
theorem d_L_law_535 : decode code 535 = .ok (.iload 4, 2) := by decide +kernel
theorem d_L_law_537 : decode code 537 = .ok (.iconst 2, 1) := by decide +kernel
theorem d_L_law_538 : decode code 538 = .ok (.iadd, 1) := by decide +kernel
theorem d_L_law_539 : decode code 539 = .ok (.iaload, 1) := by decide +kernel
theorem d_L_law_540 : decode code 540 = .ok (.aload_n 0, 1) := by decide +kernel
theorem d_L_law_541 : decode code 541 = .ok (.iload 4, 2) := by decide +kernel
theorem d_L_law_543 : decode code 543 = .ok (.iconst 3, 1) := by decide +kernel
theorem d_L_law_544 : decode code 544 = .ok (.iadd, 1) := by decide +kernel
theorem d_L_law_545 : decode code 545 = .ok (.iaload, 1) := by decide +kernel
theorem d_L_law_546 : decode code 546 = .ok (.aload_n 0, 1) := by decide +kernel
theorem d_L_law_547 : decode code 547 = .ok (.iload 4, 2) := by decide +kernel
theorem d_L_law_549 : decode code 549 = .ok (.iconst 4, 1) := by decide +kernel
theorem d_L_law_550 : decode code 550 = .ok (.iadd, 1) := by decide +kernel
theorem d_L_law_551 : decode code 551 = .ok (.iaload, 1) := by decide +kernel
theorem d_L_law_552 : decode code 552 = .ok (.invokevirtual 111, 3) := by decide +kernel
theorem d_L_law_555 : decode code 555 = .ok (.istore 6, 2) := by decide +kernel
theorem d_L_law_557 : decode code 557 = .ok (.aload_n 2, 1) := by decide +kernel
theorem d_L_law_558 : decode code 558 = .ok (.invokevirtual 90, 3) := by decide +kernel
theorem d_L_law_561 : decode code 561 = .ok (.iload 5, 2) := by decide +kernel
theorem d_L_law_563 : decode code 563 = .ok (.if_icmp .eq 5, 3) := by decide +kernel
theorem d_L_law_566 : decode code 566 = .ok (.iconst 0, 1) := by decide +kernel
theorem d_L_law_567 : decode code 567 = .ok (.ireturn, 1) := by decide +kernel
theorem d_L_law_568 : decode code 568 = .ok (.iload 5, 2) := by decide +kernel
theorem d_L_law_570 : decode code 570 = .ok (.ifCond .ne 15, 3) := by decide +kernel
theorem d_L_law_573 : decode code 573 = .ok (.aload_n 3, 1) := by decide +kernel
theorem d_L_law_574 : decode code 574 = .ok (.iconst 0, 1) := by decide +kernel
theorem d_L_law_575 : decode code 575 = .ok (.laload, 1) := by decide +kernel
theorem d_L_law_576 : decode code 576 = .ok (.iload 6, 2) := by decide +kernel
theorem d_L_law_578 : decode code 578 = .ok (.i2l, 1) := by decide +kernel
theorem d_L_law_579 : decode code 579 = .ok (.lcmp, 1) := by decide +kernel
theorem d_L_law_580 : decode code 580 = .ok (.ifCond .eq 5, 3) := by decide +kernel
theorem d_L_law_583 : decode code 583 = .ok (.iconst 0, 1) := by decide +kernel
theorem d_L_law_584 : decode code 584 = .ok (.ireturn, 1) := by decide +kernel
theorem d_L_law_585 : decode code 585 = .ok (.goto 998, 3) := by decide +kernel
theorem d_L_law_588 : decode code 588 = .ok (.aload_n 1, 1) := by decide +kernel
theorem d_L_law_589 : decode code 589 = .ok (.aload_n 0, 1) := by decide +kernel
theorem d_L_law_590 : decode code 590 = .ok (.iload 4, 2) := by decide +kernel
theorem d_L_law_592 : decode code 592 = .ok (.iconst 1, 1) := by decide +kernel
theorem d_L_law_593 : decode code 593 = .ok (.iadd, 1) := by decide +kernel
theorem d_L_law_594 : decode code 594 = .ok (.iaload, 1) := by decide +kernel
theorem d_L_law_595 : decode code 595 = .ok (.aload_n 0, 1) := by decide +kernel
theorem d_L_law_596 : decode code 596 = .ok (.iload 4, 2) := by decide +kernel
theorem d_L_law_598 : decode code 598 = .ok (.iconst 2, 1) := by decide +kernel
theorem d_L_law_599 : decode code 599 = .ok (.iadd, 1) := by decide +kernel
theorem d_L_law_600 : decode code 600 = .ok (.iaload, 1) := by decide +kernel
theorem d_L_law_601 : decode code 601 = .ok (.aload_n 3, 1) := by decide +kernel
theorem d_L_law_602 : decode code 602 = .ok (.invokestatic 112, 3) := by decide +kernel
theorem d_L_law_605 : decode code 605 = .ok (.istore 5, 2) := by decide +kernel
theorem d_L_law_607 : decode code 607 = .ok (.aload_n 2, 1) := by decide +kernel
theorem d_L_law_608 : decode code 608 = .ok (.aload_n 0, 1) := by decide +kernel
theorem d_L_law_609 : decode code 609 = .ok (.iload 4, 2) := by decide +kernel
theorem d_L_law_611 : decode code 611 = .ok (.iconst 1, 1) := by decide +kernel
theorem d_L_law_612 : decode code 612 = .ok (.iadd, 1) := by decide +kernel
theorem d_L_law_613 : decode code 613 = .ok (.iaload, 1) := by decide +kernel
theorem d_L_law_614 : decode code 614 = .ok (.aload_n 0, 1) := by decide +kernel
theorem d_L_law_615 : decode code 615 = .ok (.iload 4, 2) := by decide +kernel
theorem d_L_law_617 : decode code 617 = .ok (.iconst 2, 1) := by decide +kernel
theorem d_L_law_618 : decode code 618 = .ok (.iadd, 1) := by decide +kernel
theorem d_L_law_619 : decode code 619 = .ok (.iaload, 1) := by decide +kernel
theorem d_L_law_620 : decode code 620 = .ok (.invokevirtual 114, 3) := by decide +kernel
theorem d_L_law_623 : decode code 623 = .ok (.istore 6, 2) := by decide +kernel
theorem d_L_law_625 : decode code 625 = .ok (.aload_n 2, 1) := by decide +kernel
theorem d_L_law_626 : decode code 626 = .ok (.invokevirtual 90, 3) := by decide +kernel
theorem d_L_law_629 : decode code 629 = .ok (.iload 5, 2) := by decide +kernel
theorem d_L_law_631 : decode code 631 = .ok (.if_icmp .eq 5, 3) := by decide +kernel
theorem d_L_law_634 : decode code 634 = .ok (.iconst 0, 1) := by decide +kernel
theorem d_L_law_635 : decode code 635 = .ok (.ireturn, 1) := by decide +kernel
theorem d_L_law_636 : decode code 636 = .ok (.iload 5, 2) := by decide +kernel
theorem d_L_law_638 : decode code 638 = .ok (.ifCond .ne 15, 3) := by decide +kernel
theorem d_L_law_641 : decode code 641 = .ok (.aload_n 3, 1) := by decide +kernel
theorem d_L_law_642 : decode code 642 = .ok (.iconst 0, 1) := by decide +kernel
theorem d_L_law_643 : decode code 643 = .ok (.laload, 1) := by decide +kernel
theorem d_L_law_644 : decode code 644 = .ok (.iload 6, 2) := by decide +kernel
theorem d_L_law_646 : decode code 646 = .ok (.i2l, 1) := by decide +kernel
theorem d_L_law_647 : decode code 647 = .ok (.lcmp, 1) := by decide +kernel
theorem d_L_law_648 : decode code 648 = .ok (.ifCond .eq 5, 3) := by decide +kernel
theorem d_L_law_651 : decode code 651 = .ok (.iconst 0, 1) := by decide +kernel
theorem d_L_law_652 : decode code 652 = .ok (.ireturn, 1) := by decide +kernel
theorem d_L_law_653 : decode code 653 = .ok (.goto 930, 3) := by decide +kernel
theorem d_L_law_656 : decode code 656 = .ok (.aload_n 1, 1) := by decide +kernel
theorem d_L_law_657 : decode code 657 = .ok (.aload_n 0, 1) := by decide +kernel
theorem d_L_law_658 : decode code 658 = .ok (.iload 4, 2) := by decide +kernel
theorem d_L_law_660 : decode code 660 = .ok (.iconst 1, 1) := by decide +kernel
theorem d_L_law_661 : decode code 661 = .ok (.iadd, 1) := by decide +kernel
theorem d_L_law_662 : decode code 662 = .ok (.iaload, 1) := by decide +kernel
theorem d_L_law_663 : decode code 663 = .ok (.aload_n 0, 1) := by decide +kernel
theorem d_L_law_664 : decode code 664 = .ok (.iload 4, 2) := by decide +kernel
theorem d_L_law_666 : decode code 666 = .ok (.iconst 2, 1) := by decide +kernel
theorem d_L_law_667 : decode code 667 = .ok (.iadd, 1) := by decide +kernel
theorem d_L_law_668 : decode code 668 = .ok (.iaload, 1) := by decide +kernel
theorem d_L_law_669 : decode code 669 = .ok (.aload_n 3, 1) := by decide +kernel
theorem d_L_law_670 : decode code 670 = .ok (.invokestatic 115, 3) := by decide +kernel
theorem d_L_law_673 : decode code 673 = .ok (.istore 5, 2) := by decide +kernel
theorem d_L_law_675 : decode code 675 = .ok (.aload_n 2, 1) := by decide +kernel
theorem d_L_law_676 : decode code 676 = .ok (.aload_n 0, 1) := by decide +kernel
theorem d_L_law_677 : decode code 677 = .ok (.iload 4, 2) := by decide +kernel
theorem d_L_law_679 : decode code 679 = .ok (.iconst 1, 1) := by decide +kernel
theorem d_L_law_680 : decode code 680 = .ok (.iadd, 1) := by decide +kernel
theorem d_L_law_681 : decode code 681 = .ok (.iaload, 1) := by decide +kernel
theorem d_L_law_682 : decode code 682 = .ok (.aload_n 0, 1) := by decide +kernel
theorem d_L_law_683 : decode code 683 = .ok (.iload 4, 2) := by decide +kernel
theorem d_L_law_685 : decode code 685 = .ok (.iconst 2, 1) := by decide +kernel
theorem d_L_law_686 : decode code 686 = .ok (.iadd, 1) := by decide +kernel
theorem d_L_law_687 : decode code 687 = .ok (.iaload, 1) := by decide +kernel
theorem d_L_law_688 : decode code 688 = .ok (.invokevirtual 117, 3) := by decide +kernel
theorem d_L_law_691 : decode code 691 = .ok (.istore 6, 2) := by decide +kernel
theorem d_L_law_693 : decode code 693 = .ok (.aload_n 2, 1) := by decide +kernel
theorem d_L_law_694 : decode code 694 = .ok (.invokevirtual 90, 3) := by decide +kernel
theorem d_L_law_697 : decode code 697 = .ok (.iload 5, 2) := by decide +kernel
theorem d_L_law_699 : decode code 699 = .ok (.if_icmp .eq 5, 3) := by decide +kernel
theorem d_L_law_702 : decode code 702 = .ok (.iconst 0, 1) := by decide +kernel
theorem d_L_law_703 : decode code 703 = .ok (.ireturn, 1) := by decide +kernel
theorem d_L_law_704 : decode code 704 = .ok (.iload 5, 2) := by decide +kernel
theorem d_L_law_706 : decode code 706 = .ok (.ifCond .ne 15, 3) := by decide +kernel
theorem d_L_law_709 : decode code 709 = .ok (.aload_n 3, 1) := by decide +kernel
theorem d_L_law_710 : decode code 710 = .ok (.iconst 0, 1) := by decide +kernel
theorem d_L_law_711 : decode code 711 = .ok (.laload, 1) := by decide +kernel
theorem d_L_law_712 : decode code 712 = .ok (.iload 6, 2) := by decide +kernel
theorem d_L_law_714 : decode code 714 = .ok (.i2l, 1) := by decide +kernel
theorem d_L_law_715 : decode code 715 = .ok (.lcmp, 1) := by decide +kernel
theorem d_L_law_716 : decode code 716 = .ok (.ifCond .eq 5, 3) := by decide +kernel
theorem d_L_law_719 : decode code 719 = .ok (.iconst 0, 1) := by decide +kernel
theorem d_L_law_720 : decode code 720 = .ok (.ireturn, 1) := by decide +kernel
theorem d_L_law_721 : decode code 721 = .ok (.goto 862, 3) := by decide +kernel
theorem d_L_law_724 : decode code 724 = .ok (.aload_n 1, 1) := by decide +kernel
theorem d_L_law_725 : decode code 725 = .ok (.aload_n 0, 1) := by decide +kernel
theorem d_L_law_726 : decode code 726 = .ok (.iload 4, 2) := by decide +kernel
theorem d_L_law_728 : decode code 728 = .ok (.iconst 1, 1) := by decide +kernel
theorem d_L_law_729 : decode code 729 = .ok (.iadd, 1) := by decide +kernel
theorem d_L_law_730 : decode code 730 = .ok (.iaload, 1) := by decide +kernel
theorem d_L_law_731 : decode code 731 = .ok (.aload_n 3, 1) := by decide +kernel
theorem d_L_law_732 : decode code 732 = .ok (.invokestatic 118, 3) := by decide +kernel
theorem d_L_law_735 : decode code 735 = .ok (.istore 5, 2) := by decide +kernel
theorem d_L_law_737 : decode code 737 = .ok (.aload_n 2, 1) := by decide +kernel
theorem d_L_law_738 : decode code 738 = .ok (.aload_n 0, 1) := by decide +kernel
theorem d_L_law_739 : decode code 739 = .ok (.iload 4, 2) := by decide +kernel
theorem d_L_law_741 : decode code 741 = .ok (.iconst 1, 1) := by decide +kernel
theorem d_L_law_742 : decode code 742 = .ok (.iadd, 1) := by decide +kernel
theorem d_L_law_743 : decode code 743 = .ok (.iaload, 1) := by decide +kernel
theorem d_L_law_744 : decode code 744 = .ok (.invokevirtual 120, 3) := by decide +kernel
theorem d_L_law_747 : decode code 747 = .ok (.istore 6, 2) := by decide +kernel
theorem d_L_law_749 : decode code 749 = .ok (.aload_n 2, 1) := by decide +kernel
theorem d_L_law_750 : decode code 750 = .ok (.invokevirtual 90, 3) := by decide +kernel
theorem d_L_law_753 : decode code 753 = .ok (.iload 5, 2) := by decide +kernel
theorem d_L_law_755 : decode code 755 = .ok (.if_icmp .eq 5, 3) := by decide +kernel
theorem d_L_law_758 : decode code 758 = .ok (.iconst 0, 1) := by decide +kernel
theorem d_L_law_759 : decode code 759 = .ok (.ireturn, 1) := by decide +kernel
theorem d_L_law_760 : decode code 760 = .ok (.iload 5, 2) := by decide +kernel
theorem d_L_law_762 : decode code 762 = .ok (.ifCond .ne 15, 3) := by decide +kernel
theorem d_L_law_765 : decode code 765 = .ok (.aload_n 3, 1) := by decide +kernel
theorem d_L_law_766 : decode code 766 = .ok (.iconst 0, 1) := by decide +kernel
theorem d_L_law_767 : decode code 767 = .ok (.laload, 1) := by decide +kernel
theorem d_L_law_768 : decode code 768 = .ok (.iload 6, 2) := by decide +kernel
theorem d_L_law_770 : decode code 770 = .ok (.i2l, 1) := by decide +kernel
theorem d_L_law_771 : decode code 771 = .ok (.lcmp, 1) := by decide +kernel
theorem d_L_law_772 : decode code 772 = .ok (.ifCond .eq 5, 3) := by decide +kernel
theorem d_L_law_775 : decode code 775 = .ok (.iconst 0, 1) := by decide +kernel
theorem d_L_law_776 : decode code 776 = .ok (.ireturn, 1) := by decide +kernel
theorem d_L_law_777 : decode code 777 = .ok (.goto 806, 3) := by decide +kernel
theorem d_L_law_780 : decode code 780 = .ok (.aload_n 1, 1) := by decide +kernel
theorem d_L_law_781 : decode code 781 = .ok (.aload_n 0, 1) := by decide +kernel
theorem d_L_law_782 : decode code 782 = .ok (.iload 4, 2) := by decide +kernel
theorem d_L_law_784 : decode code 784 = .ok (.iconst 1, 1) := by decide +kernel
theorem d_L_law_785 : decode code 785 = .ok (.iadd, 1) := by decide +kernel
theorem d_L_law_786 : decode code 786 = .ok (.iaload, 1) := by decide +kernel
theorem d_L_law_787 : decode code 787 = .ok (.aload_n 0, 1) := by decide +kernel
theorem d_L_law_788 : decode code 788 = .ok (.iload 4, 2) := by decide +kernel
theorem d_L_law_790 : decode code 790 = .ok (.iconst 2, 1) := by decide +kernel
theorem d_L_law_791 : decode code 791 = .ok (.iadd, 1) := by decide +kernel
theorem d_L_law_792 : decode code 792 = .ok (.iaload, 1) := by decide +kernel
theorem d_L_law_793 : decode code 793 = .ok (.aload_n 3, 1) := by decide +kernel
theorem d_L_law_794 : decode code 794 = .ok (.invokestatic 121, 3) := by decide +kernel
theorem d_L_law_797 : decode code 797 = .ok (.istore 5, 2) := by decide +kernel
theorem d_L_law_799 : decode code 799 = .ok (.aload_n 2, 1) := by decide +kernel
theorem d_L_law_800 : decode code 800 = .ok (.aload_n 0, 1) := by decide +kernel
theorem d_L_law_801 : decode code 801 = .ok (.iload 4, 2) := by decide +kernel
theorem d_L_law_803 : decode code 803 = .ok (.iconst 1, 1) := by decide +kernel
theorem d_L_law_804 : decode code 804 = .ok (.iadd, 1) := by decide +kernel
theorem d_L_law_805 : decode code 805 = .ok (.iaload, 1) := by decide +kernel
theorem d_L_law_806 : decode code 806 = .ok (.aload_n 0, 1) := by decide +kernel
theorem d_L_law_807 : decode code 807 = .ok (.iload 4, 2) := by decide +kernel
theorem d_L_law_809 : decode code 809 = .ok (.iconst 2, 1) := by decide +kernel
theorem d_L_law_810 : decode code 810 = .ok (.iadd, 1) := by decide +kernel
theorem d_L_law_811 : decode code 811 = .ok (.iaload, 1) := by decide +kernel
theorem d_L_law_812 : decode code 812 = .ok (.invokevirtual 123, 3) := by decide +kernel
theorem d_L_law_815 : decode code 815 = .ok (.istore 6, 2) := by decide +kernel
theorem d_L_law_817 : decode code 817 = .ok (.aload_n 2, 1) := by decide +kernel
theorem d_L_law_818 : decode code 818 = .ok (.invokevirtual 90, 3) := by decide +kernel
theorem d_L_law_821 : decode code 821 = .ok (.iload 5, 2) := by decide +kernel
theorem d_L_law_823 : decode code 823 = .ok (.if_icmp .eq 5, 3) := by decide +kernel
theorem d_L_law_826 : decode code 826 = .ok (.iconst 0, 1) := by decide +kernel
theorem d_L_law_827 : decode code 827 = .ok (.ireturn, 1) := by decide +kernel
theorem d_L_law_828 : decode code 828 = .ok (.iload 5, 2) := by decide +kernel
theorem d_L_law_830 : decode code 830 = .ok (.ifCond .ne 15, 3) := by decide +kernel
theorem d_L_law_833 : decode code 833 = .ok (.aload_n 3, 1) := by decide +kernel
theorem d_L_law_834 : decode code 834 = .ok (.iconst 0, 1) := by decide +kernel
theorem d_L_law_835 : decode code 835 = .ok (.laload, 1) := by decide +kernel
theorem d_L_law_836 : decode code 836 = .ok (.iload 6, 2) := by decide +kernel
theorem d_L_law_838 : decode code 838 = .ok (.i2l, 1) := by decide +kernel
theorem d_L_law_839 : decode code 839 = .ok (.lcmp, 1) := by decide +kernel
theorem d_L_law_840 : decode code 840 = .ok (.ifCond .eq 5, 3) := by decide +kernel
theorem d_L_law_843 : decode code 843 = .ok (.iconst 0, 1) := by decide +kernel
theorem d_L_law_844 : decode code 844 = .ok (.ireturn, 1) := by decide +kernel
theorem d_L_law_845 : decode code 845 = .ok (.goto 738, 3) := by decide +kernel
theorem d_L_law_848 : decode code 848 = .ok (.aload_n 1, 1) := by decide +kernel
theorem d_L_law_849 : decode code 849 = .ok (.aload_n 0, 1) := by decide +kernel
theorem d_L_law_850 : decode code 850 = .ok (.iload 4, 2) := by decide +kernel
theorem d_L_law_852 : decode code 852 = .ok (.iconst 1, 1) := by decide +kernel
theorem d_L_law_853 : decode code 853 = .ok (.iadd, 1) := by decide +kernel
theorem d_L_law_854 : decode code 854 = .ok (.iaload, 1) := by decide +kernel
theorem d_L_law_855 : decode code 855 = .ok (.aload_n 0, 1) := by decide +kernel
theorem d_L_law_856 : decode code 856 = .ok (.iload 4, 2) := by decide +kernel
theorem d_L_law_858 : decode code 858 = .ok (.iconst 2, 1) := by decide +kernel
theorem d_L_law_859 : decode code 859 = .ok (.iadd, 1) := by decide +kernel
theorem d_L_law_860 : decode code 860 = .ok (.iaload, 1) := by decide +kernel
theorem d_L_law_861 : decode code 861 = .ok (.aload_n 3, 1) := by decide +kernel
theorem d_L_law_862 : decode code 862 = .ok (.invokestatic 124, 3) := by decide +kernel
theorem d_L_law_865 : decode code 865 = .ok (.istore 5, 2) := by decide +kernel
theorem d_L_law_867 : decode code 867 = .ok (.aload_n 2, 1) := by decide +kernel
theorem d_L_law_868 : decode code 868 = .ok (.aload_n 0, 1) := by decide +kernel
theorem d_L_law_869 : decode code 869 = .ok (.iload 4, 2) := by decide +kernel
theorem d_L_law_871 : decode code 871 = .ok (.iconst 1, 1) := by decide +kernel
theorem d_L_law_872 : decode code 872 = .ok (.iadd, 1) := by decide +kernel
theorem d_L_law_873 : decode code 873 = .ok (.iaload, 1) := by decide +kernel
theorem d_L_law_874 : decode code 874 = .ok (.aload_n 0, 1) := by decide +kernel
theorem d_L_law_875 : decode code 875 = .ok (.iload 4, 2) := by decide +kernel
theorem d_L_law_877 : decode code 877 = .ok (.iconst 2, 1) := by decide +kernel
theorem d_L_law_878 : decode code 878 = .ok (.iadd, 1) := by decide +kernel
theorem d_L_law_879 : decode code 879 = .ok (.iaload, 1) := by decide +kernel
theorem d_L_law_880 : decode code 880 = .ok (.invokevirtual 126, 3) := by decide +kernel
theorem d_L_law_883 : decode code 883 = .ok (.istore 6, 2) := by decide +kernel
theorem d_L_law_885 : decode code 885 = .ok (.aload_n 2, 1) := by decide +kernel
theorem d_L_law_886 : decode code 886 = .ok (.invokevirtual 90, 3) := by decide +kernel
theorem d_L_law_889 : decode code 889 = .ok (.iload 5, 2) := by decide +kernel
theorem d_L_law_891 : decode code 891 = .ok (.if_icmp .eq 5, 3) := by decide +kernel
theorem d_L_law_894 : decode code 894 = .ok (.iconst 0, 1) := by decide +kernel
theorem d_L_law_895 : decode code 895 = .ok (.ireturn, 1) := by decide +kernel
theorem d_L_law_896 : decode code 896 = .ok (.iload 5, 2) := by decide +kernel
theorem d_L_law_898 : decode code 898 = .ok (.ifCond .ne 15, 3) := by decide +kernel
theorem d_L_law_901 : decode code 901 = .ok (.aload_n 3, 1) := by decide +kernel
theorem d_L_law_902 : decode code 902 = .ok (.iconst 0, 1) := by decide +kernel
theorem d_L_law_903 : decode code 903 = .ok (.laload, 1) := by decide +kernel
theorem d_L_law_904 : decode code 904 = .ok (.iload 6, 2) := by decide +kernel
theorem d_L_law_906 : decode code 906 = .ok (.i2l, 1) := by decide +kernel
theorem d_L_law_907 : decode code 907 = .ok (.lcmp, 1) := by decide +kernel
theorem d_L_law_908 : decode code 908 = .ok (.ifCond .eq 5, 3) := by decide +kernel
theorem d_L_law_911 : decode code 911 = .ok (.iconst 0, 1) := by decide +kernel
theorem d_L_law_912 : decode code 912 = .ok (.ireturn, 1) := by decide +kernel
theorem d_L_law_913 : decode code 913 = .ok (.goto 670, 3) := by decide +kernel
theorem d_L_law_916 : decode code 916 = .ok (.aload_n 1, 1) := by decide +kernel
theorem d_L_law_917 : decode code 917 = .ok (.aload_n 0, 1) := by decide +kernel
theorem d_L_law_918 : decode code 918 = .ok (.iload 4, 2) := by decide +kernel
theorem d_L_law_920 : decode code 920 = .ok (.iconst 1, 1) := by decide +kernel
theorem d_L_law_921 : decode code 921 = .ok (.iadd, 1) := by decide +kernel
theorem d_L_law_922 : decode code 922 = .ok (.iaload, 1) := by decide +kernel
theorem d_L_law_923 : decode code 923 = .ok (.aload_n 0, 1) := by decide +kernel
theorem d_L_law_924 : decode code 924 = .ok (.iload 4, 2) := by decide +kernel
theorem d_L_law_926 : decode code 926 = .ok (.iconst 2, 1) := by decide +kernel
theorem d_L_law_927 : decode code 927 = .ok (.iadd, 1) := by decide +kernel
theorem d_L_law_928 : decode code 928 = .ok (.iaload, 1) := by decide +kernel
theorem d_L_law_929 : decode code 929 = .ok (.aload_n 3, 1) := by decide +kernel
theorem d_L_law_930 : decode code 930 = .ok (.invokestatic 127, 3) := by decide +kernel
theorem d_L_law_933 : decode code 933 = .ok (.istore 5, 2) := by decide +kernel
theorem d_L_law_935 : decode code 935 = .ok (.aload_n 2, 1) := by decide +kernel
theorem d_L_law_936 : decode code 936 = .ok (.aload_n 0, 1) := by decide +kernel
theorem d_L_law_937 : decode code 937 = .ok (.iload 4, 2) := by decide +kernel
theorem d_L_law_939 : decode code 939 = .ok (.iconst 1, 1) := by decide +kernel
theorem d_L_law_940 : decode code 940 = .ok (.iadd, 1) := by decide +kernel
theorem d_L_law_941 : decode code 941 = .ok (.iaload, 1) := by decide +kernel
theorem d_L_law_942 : decode code 942 = .ok (.aload_n 0, 1) := by decide +kernel
theorem d_L_law_943 : decode code 943 = .ok (.iload 4, 2) := by decide +kernel
theorem d_L_law_945 : decode code 945 = .ok (.iconst 2, 1) := by decide +kernel
theorem d_L_law_946 : decode code 946 = .ok (.iadd, 1) := by decide +kernel
theorem d_L_law_947 : decode code 947 = .ok (.iaload, 1) := by decide +kernel
theorem d_L_law_948 : decode code 948 = .ok (.invokevirtual 129, 3) := by decide +kernel
theorem d_L_law_951 : decode code 951 = .ok (.istore 6, 2) := by decide +kernel
theorem d_L_law_953 : decode code 953 = .ok (.aload_n 2, 1) := by decide +kernel
theorem d_L_law_954 : decode code 954 = .ok (.invokevirtual 90, 3) := by decide +kernel
theorem d_L_law_957 : decode code 957 = .ok (.iload 5, 2) := by decide +kernel
theorem d_L_law_959 : decode code 959 = .ok (.if_icmp .eq 5, 3) := by decide +kernel
theorem d_L_law_962 : decode code 962 = .ok (.iconst 0, 1) := by decide +kernel
theorem d_L_law_963 : decode code 963 = .ok (.ireturn, 1) := by decide +kernel
theorem d_L_law_964 : decode code 964 = .ok (.iload 5, 2) := by decide +kernel
theorem d_L_law_966 : decode code 966 = .ok (.ifCond .ne 15, 3) := by decide +kernel
theorem d_L_law_969 : decode code 969 = .ok (.aload_n 3, 1) := by decide +kernel
theorem d_L_law_970 : decode code 970 = .ok (.iconst 0, 1) := by decide +kernel
theorem d_L_law_971 : decode code 971 = .ok (.laload, 1) := by decide +kernel
theorem d_L_law_972 : decode code 972 = .ok (.iload 6, 2) := by decide +kernel
theorem d_L_law_974 : decode code 974 = .ok (.i2l, 1) := by decide +kernel
theorem d_L_law_975 : decode code 975 = .ok (.lcmp, 1) := by decide +kernel
theorem d_L_law_976 : decode code 976 = .ok (.ifCond .eq 5, 3) := by decide +kernel
theorem d_L_law_979 : decode code 979 = .ok (.iconst 0, 1) := by decide +kernel
theorem d_L_law_980 : decode code 980 = .ok (.ireturn, 1) := by decide +kernel
theorem d_L_law_981 : decode code 981 = .ok (.goto 602, 3) := by decide +kernel
theorem d_L_law_984 : decode code 984 = .ok (.aload_n 1, 1) := by decide +kernel
theorem d_L_law_985 : decode code 985 = .ok (.aload_n 0, 1) := by decide +kernel
theorem d_L_law_986 : decode code 986 = .ok (.iload 4, 2) := by decide +kernel
theorem d_L_law_988 : decode code 988 = .ok (.iconst 1, 1) := by decide +kernel
theorem d_L_law_989 : decode code 989 = .ok (.iadd, 1) := by decide +kernel
theorem d_L_law_990 : decode code 990 = .ok (.iaload, 1) := by decide +kernel
theorem d_L_law_991 : decode code 991 = .ok (.aload_n 0, 1) := by decide +kernel
theorem d_L_law_992 : decode code 992 = .ok (.iload 4, 2) := by decide +kernel
theorem d_L_law_994 : decode code 994 = .ok (.iconst 2, 1) := by decide +kernel
theorem d_L_law_995 : decode code 995 = .ok (.iadd, 1) := by decide +kernel
theorem d_L_law_996 : decode code 996 = .ok (.iaload, 1) := by decide +kernel
theorem d_L_law_997 : decode code 997 = .ok (.aload_n 0, 1) := by decide +kernel
theorem d_L_law_998 : decode code 998 = .ok (.iload 4, 2) := by decide +kernel
theorem d_L_law_1000 : decode code 1000 = .ok (.iconst 3, 1) := by decide +kernel
theorem d_L_law_1001 : decode code 1001 = .ok (.iadd, 1) := by decide +kernel
theorem d_L_law_1002 : decode code 1002 = .ok (.iaload, 1) := by decide +kernel
theorem d_L_law_1003 : decode code 1003 = .ok (.aload_n 3, 1) := by decide +kernel
theorem d_L_law_1004 : decode code 1004 = .ok (.invokestatic 130, 3) := by decide +kernel
theorem d_L_law_1007 : decode code 1007 = .ok (.istore 5, 2) := by decide +kernel
theorem d_L_law_1009 : decode code 1009 = .ok (.aload_n 2, 1) := by decide +kernel
theorem d_L_law_1010 : decode code 1010 = .ok (.aload_n 0, 1) := by decide +kernel
theorem d_L_law_1011 : decode code 1011 = .ok (.iload 4, 2) := by decide +kernel
theorem d_L_law_1013 : decode code 1013 = .ok (.iconst 1, 1) := by decide +kernel
theorem d_L_law_1014 : decode code 1014 = .ok (.iadd, 1) := by decide +kernel
theorem d_L_law_1015 : decode code 1015 = .ok (.iaload, 1) := by decide +kernel
theorem d_L_law_1016 : decode code 1016 = .ok (.aload_n 0, 1) := by decide +kernel
theorem d_L_law_1017 : decode code 1017 = .ok (.iload 4, 2) := by decide +kernel
theorem d_L_law_1019 : decode code 1019 = .ok (.iconst 2, 1) := by decide +kernel
theorem d_L_law_1020 : decode code 1020 = .ok (.iadd, 1) := by decide +kernel
theorem d_L_law_1021 : decode code 1021 = .ok (.iaload, 1) := by decide +kernel
theorem d_L_law_1022 : decode code 1022 = .ok (.aload_n 0, 1) := by decide +kernel
theorem d_L_law_1023 : decode code 1023 = .ok (.iload 4, 2) := by decide +kernel
theorem d_L_law_1025 : decode code 1025 = .ok (.iconst 3, 1) := by decide +kernel
theorem d_L_law_1026 : decode code 1026 = .ok (.iadd, 1) := by decide +kernel
theorem d_L_law_1027 : decode code 1027 = .ok (.iaload, 1) := by decide +kernel
theorem d_L_law_1028 : decode code 1028 = .ok (.invokevirtual 133, 3) := by decide +kernel
theorem d_L_law_1031 : decode code 1031 = .ok (.istore 6, 2) := by decide +kernel
theorem d_L_law_1033 : decode code 1033 = .ok (.aload_n 2, 1) := by decide +kernel
theorem d_L_law_1034 : decode code 1034 = .ok (.invokevirtual 90, 3) := by decide +kernel
theorem d_L_law_1037 : decode code 1037 = .ok (.iload 5, 2) := by decide +kernel
theorem d_L_law_1039 : decode code 1039 = .ok (.if_icmp .eq 5, 3) := by decide +kernel
theorem d_L_law_1042 : decode code 1042 = .ok (.iconst 0, 1) := by decide +kernel
theorem d_L_law_1043 : decode code 1043 = .ok (.ireturn, 1) := by decide +kernel
theorem d_L_law_1044 : decode code 1044 = .ok (.iload 5, 2) := by decide +kernel
theorem d_L_law_1046 : decode code 1046 = .ok (.ifCond .ne 15, 3) := by decide +kernel
theorem d_L_law_1049 : decode code 1049 = .ok (.aload_n 3, 1) := by decide +kernel
theorem d_L_law_1050 : decode code 1050 = .ok (.iconst 0, 1) := by decide +kernel
theorem d_L_law_1051 : decode code 1051 = .ok (.laload, 1) := by decide +kernel
theorem d_L_law_1052 : decode code 1052 = .ok (.iload 6, 2) := by decide +kernel
theorem d_L_law_1054 : decode code 1054 = .ok (.i2l, 1) := by decide +kernel
theorem d_L_law_1055 : decode code 1055 = .ok (.lcmp, 1) := by decide +kernel
theorem d_L_law_1056 : decode code 1056 = .ok (.ifCond .eq 5, 3) := by decide +kernel
theorem d_L_law_1059 : decode code 1059 = .ok (.iconst 0, 1) := by decide +kernel
theorem d_L_law_1060 : decode code 1060 = .ok (.ireturn, 1) := by decide +kernel
theorem d_L_law_1061 : decode code 1061 = .ok (.goto 522, 3) := by decide +kernel
theorem d_L_law_1064 : decode code 1064 = .ok (.aload_n 1, 1) := by decide +kernel
theorem d_L_law_1065 : decode code 1065 = .ok (.aload_n 0, 1) := by decide +kernel
theorem d_L_law_1066 : decode code 1066 = .ok (.iload 4, 2) := by decide +kernel
theorem d_L_law_1068 : decode code 1068 = .ok (.iconst 1, 1) := by decide +kernel
theorem d_L_law_1069 : decode code 1069 = .ok (.iadd, 1) := by decide +kernel
theorem d_L_law_1070 : decode code 1070 = .ok (.iaload, 1) := by decide +kernel
theorem d_L_law_1071 : decode code 1071 = .ok (.aload_n 0, 1) := by decide +kernel
theorem d_L_law_1072 : decode code 1072 = .ok (.iload 4, 2) := by decide +kernel
theorem d_L_law_1074 : decode code 1074 = .ok (.iconst 2, 1) := by decide +kernel
theorem d_L_law_1075 : decode code 1075 = .ok (.iadd, 1) := by decide +kernel
theorem d_L_law_1076 : decode code 1076 = .ok (.iaload, 1) := by decide +kernel
theorem d_L_law_1077 : decode code 1077 = .ok (.aload_n 3, 1) := by decide +kernel
theorem d_L_law_1078 : decode code 1078 = .ok (.invokestatic 134, 3) := by decide +kernel
theorem d_L_law_1081 : decode code 1081 = .ok (.istore 5, 2) := by decide +kernel
theorem d_L_law_1083 : decode code 1083 = .ok (.aload_n 2, 1) := by decide +kernel
theorem d_L_law_1084 : decode code 1084 = .ok (.aload_n 0, 1) := by decide +kernel
theorem d_L_law_1085 : decode code 1085 = .ok (.iload 4, 2) := by decide +kernel
theorem d_L_law_1087 : decode code 1087 = .ok (.iconst 1, 1) := by decide +kernel
theorem d_L_law_1088 : decode code 1088 = .ok (.iadd, 1) := by decide +kernel
theorem d_L_law_1089 : decode code 1089 = .ok (.iaload, 1) := by decide +kernel
theorem d_L_law_1090 : decode code 1090 = .ok (.aload_n 0, 1) := by decide +kernel
theorem d_L_law_1091 : decode code 1091 = .ok (.iload 4, 2) := by decide +kernel
theorem d_L_law_1093 : decode code 1093 = .ok (.iconst 2, 1) := by decide +kernel
theorem d_L_law_1094 : decode code 1094 = .ok (.iadd, 1) := by decide +kernel
theorem d_L_law_1095 : decode code 1095 = .ok (.iaload, 1) := by decide +kernel
theorem d_L_law_1096 : decode code 1096 = .ok (.invokevirtual 136, 3) := by decide +kernel
theorem d_L_law_1099 : decode code 1099 = .ok (.istore 6, 2) := by decide +kernel
theorem d_L_law_1101 : decode code 1101 = .ok (.aload_n 2, 1) := by decide +kernel
theorem d_L_law_1102 : decode code 1102 = .ok (.invokevirtual 90, 3) := by decide +kernel
theorem d_L_law_1105 : decode code 1105 = .ok (.iload 5, 2) := by decide +kernel
theorem d_L_law_1107 : decode code 1107 = .ok (.if_icmp .eq 5, 3) := by decide +kernel
theorem d_L_law_1110 : decode code 1110 = .ok (.iconst 0, 1) := by decide +kernel
theorem d_L_law_1111 : decode code 1111 = .ok (.ireturn, 1) := by decide +kernel
theorem d_L_law_1112 : decode code 1112 = .ok (.iload 5, 2) := by decide +kernel
theorem d_L_law_1114 : decode code 1114 = .ok (.ifCond .ne 15, 3) := by decide +kernel
theorem d_L_law_1117 : decode code 1117 = .ok (.aload_n 3, 1) := by decide +kernel
theorem d_L_law_1118 : decode code 1118 = .ok (.iconst 0, 1) := by decide +kernel
theorem d_L_law_1119 : decode code 1119 = .ok (.laload, 1) := by decide +kernel
theorem d_L_law_1120 : decode code 1120 = .ok (.iload 6, 2) := by decide +kernel
theorem d_L_law_1122 : decode code 1122 = .ok (.i2l, 1) := by decide +kernel
theorem d_L_law_1123 : decode code 1123 = .ok (.lcmp, 1) := by decide +kernel
theorem d_L_law_1124 : decode code 1124 = .ok (.ifCond .eq 5, 3) := by decide +kernel
theorem d_L_law_1127 : decode code 1127 = .ok (.iconst 0, 1) := by decide +kernel
theorem d_L_law_1128 : decode code 1128 = .ok (.ireturn, 1) := by decide +kernel
theorem d_L_law_1129 : decode code 1129 = .ok (.goto 454, 3) := by decide +kernel
theorem d_L_law_1132 : decode code 1132 = .ok (.aload_n 1, 1) := by decide +kernel
theorem d_L_law_1133 : decode code 1133 = .ok (.aload_n 0, 1) := by decide +kernel
theorem d_L_law_1134 : decode code 1134 = .ok (.iload 4, 2) := by decide +kernel
theorem d_L_law_1136 : decode code 1136 = .ok (.iconst 1, 1) := by decide +kernel
theorem d_L_law_1137 : decode code 1137 = .ok (.iadd, 1) := by decide +kernel
theorem d_L_law_1138 : decode code 1138 = .ok (.iaload, 1) := by decide +kernel
theorem d_L_law_1139 : decode code 1139 = .ok (.aload_n 0, 1) := by decide +kernel
theorem d_L_law_1140 : decode code 1140 = .ok (.iload 4, 2) := by decide +kernel
theorem d_L_law_1142 : decode code 1142 = .ok (.iconst 2, 1) := by decide +kernel
theorem d_L_law_1143 : decode code 1143 = .ok (.iadd, 1) := by decide +kernel
theorem d_L_law_1144 : decode code 1144 = .ok (.iaload, 1) := by decide +kernel
theorem d_L_law_1145 : decode code 1145 = .ok (.aload_n 3, 1) := by decide +kernel
theorem d_L_law_1146 : decode code 1146 = .ok (.invokestatic 137, 3) := by decide +kernel
theorem d_L_law_1149 : decode code 1149 = .ok (.istore 5, 2) := by decide +kernel
theorem d_L_law_1151 : decode code 1151 = .ok (.aload_n 2, 1) := by decide +kernel
theorem d_L_law_1152 : decode code 1152 = .ok (.aload_n 0, 1) := by decide +kernel
theorem d_L_law_1153 : decode code 1153 = .ok (.iload 4, 2) := by decide +kernel
theorem d_L_law_1155 : decode code 1155 = .ok (.iconst 1, 1) := by decide +kernel
theorem d_L_law_1156 : decode code 1156 = .ok (.iadd, 1) := by decide +kernel
theorem d_L_law_1157 : decode code 1157 = .ok (.iaload, 1) := by decide +kernel
theorem d_L_law_1158 : decode code 1158 = .ok (.aload_n 0, 1) := by decide +kernel
theorem d_L_law_1159 : decode code 1159 = .ok (.iload 4, 2) := by decide +kernel
theorem d_L_law_1161 : decode code 1161 = .ok (.iconst 2, 1) := by decide +kernel
theorem d_L_law_1162 : decode code 1162 = .ok (.iadd, 1) := by decide +kernel
theorem d_L_law_1163 : decode code 1163 = .ok (.iaload, 1) := by decide +kernel
theorem d_L_law_1164 : decode code 1164 = .ok (.invokevirtual 139, 3) := by decide +kernel
theorem d_L_law_1167 : decode code 1167 = .ok (.istore 6, 2) := by decide +kernel
theorem d_L_law_1169 : decode code 1169 = .ok (.aload_n 2, 1) := by decide +kernel
theorem d_L_law_1170 : decode code 1170 = .ok (.invokevirtual 90, 3) := by decide +kernel
theorem d_L_law_1173 : decode code 1173 = .ok (.iload 5, 2) := by decide +kernel
theorem d_L_law_1175 : decode code 1175 = .ok (.if_icmp .eq 5, 3) := by decide +kernel
theorem d_L_law_1178 : decode code 1178 = .ok (.iconst 0, 1) := by decide +kernel
theorem d_L_law_1179 : decode code 1179 = .ok (.ireturn, 1) := by decide +kernel
theorem d_L_law_1180 : decode code 1180 = .ok (.iload 5, 2) := by decide +kernel
theorem d_L_law_1182 : decode code 1182 = .ok (.ifCond .ne 15, 3) := by decide +kernel
theorem d_L_law_1185 : decode code 1185 = .ok (.aload_n 3, 1) := by decide +kernel
theorem d_L_law_1186 : decode code 1186 = .ok (.iconst 0, 1) := by decide +kernel
theorem d_L_law_1187 : decode code 1187 = .ok (.laload, 1) := by decide +kernel
theorem d_L_law_1188 : decode code 1188 = .ok (.iload 6, 2) := by decide +kernel
theorem d_L_law_1190 : decode code 1190 = .ok (.i2l, 1) := by decide +kernel
theorem d_L_law_1191 : decode code 1191 = .ok (.lcmp, 1) := by decide +kernel
theorem d_L_law_1192 : decode code 1192 = .ok (.ifCond .eq 5, 3) := by decide +kernel
theorem d_L_law_1195 : decode code 1195 = .ok (.iconst 0, 1) := by decide +kernel
theorem d_L_law_1196 : decode code 1196 = .ok (.ireturn, 1) := by decide +kernel
theorem d_L_law_1197 : decode code 1197 = .ok (.goto 386, 3) := by decide +kernel
theorem d_L_law_1200 : decode code 1200 = .ok (.aload_n 1, 1) := by decide +kernel
theorem d_L_law_1201 : decode code 1201 = .ok (.aload_n 0, 1) := by decide +kernel
theorem d_L_law_1202 : decode code 1202 = .ok (.iload 4, 2) := by decide +kernel
theorem d_L_law_1204 : decode code 1204 = .ok (.iconst 1, 1) := by decide +kernel
theorem d_L_law_1205 : decode code 1205 = .ok (.iadd, 1) := by decide +kernel
theorem d_L_law_1206 : decode code 1206 = .ok (.iaload, 1) := by decide +kernel
theorem d_L_law_1207 : decode code 1207 = .ok (.aload_n 3, 1) := by decide +kernel
theorem d_L_law_1208 : decode code 1208 = .ok (.invokestatic 140, 3) := by decide +kernel
theorem d_L_law_1211 : decode code 1211 = .ok (.istore 5, 2) := by decide +kernel
theorem d_L_law_1213 : decode code 1213 = .ok (.aload_n 2, 1) := by decide +kernel
theorem d_L_law_1214 : decode code 1214 = .ok (.aload_n 0, 1) := by decide +kernel
theorem d_L_law_1215 : decode code 1215 = .ok (.iload 4, 2) := by decide +kernel
theorem d_L_law_1217 : decode code 1217 = .ok (.iconst 1, 1) := by decide +kernel
theorem d_L_law_1218 : decode code 1218 = .ok (.iadd, 1) := by decide +kernel
theorem d_L_law_1219 : decode code 1219 = .ok (.iaload, 1) := by decide +kernel
theorem d_L_law_1220 : decode code 1220 = .ok (.invokevirtual 142, 3) := by decide +kernel
theorem d_L_law_1223 : decode code 1223 = .ok (.istore 6, 2) := by decide +kernel
theorem d_L_law_1225 : decode code 1225 = .ok (.aload_n 2, 1) := by decide +kernel
theorem d_L_law_1226 : decode code 1226 = .ok (.invokevirtual 90, 3) := by decide +kernel
theorem d_L_law_1229 : decode code 1229 = .ok (.iload 5, 2) := by decide +kernel
theorem d_L_law_1231 : decode code 1231 = .ok (.if_icmp .eq 5, 3) := by decide +kernel
theorem d_L_law_1234 : decode code 1234 = .ok (.iconst 0, 1) := by decide +kernel
theorem d_L_law_1235 : decode code 1235 = .ok (.ireturn, 1) := by decide +kernel
theorem d_L_law_1236 : decode code 1236 = .ok (.iload 5, 2) := by decide +kernel
theorem d_L_law_1238 : decode code 1238 = .ok (.ifCond .ne 15, 3) := by decide +kernel
theorem d_L_law_1241 : decode code 1241 = .ok (.aload_n 3, 1) := by decide +kernel
theorem d_L_law_1242 : decode code 1242 = .ok (.iconst 0, 1) := by decide +kernel
theorem d_L_law_1243 : decode code 1243 = .ok (.laload, 1) := by decide +kernel
theorem d_L_law_1244 : decode code 1244 = .ok (.iload 6, 2) := by decide +kernel
theorem d_L_law_1246 : decode code 1246 = .ok (.i2l, 1) := by decide +kernel
theorem d_L_law_1247 : decode code 1247 = .ok (.lcmp, 1) := by decide +kernel
theorem d_L_law_1248 : decode code 1248 = .ok (.ifCond .eq 5, 3) := by decide +kernel
theorem d_L_law_1251 : decode code 1251 = .ok (.iconst 0, 1) := by decide +kernel
theorem d_L_law_1252 : decode code 1252 = .ok (.ireturn, 1) := by decide +kernel
theorem d_L_law_1253 : decode code 1253 = .ok (.goto 330, 3) := by decide +kernel
theorem d_L_law_1256 : decode code 1256 = .ok (.aload_n 1, 1) := by decide +kernel
theorem d_L_law_1257 : decode code 1257 = .ok (.aload_n 0, 1) := by decide +kernel
theorem d_L_law_1258 : decode code 1258 = .ok (.iload 4, 2) := by decide +kernel
theorem d_L_law_1260 : decode code 1260 = .ok (.iconst 1, 1) := by decide +kernel
theorem d_L_law_1261 : decode code 1261 = .ok (.iadd, 1) := by decide +kernel
theorem d_L_law_1262 : decode code 1262 = .ok (.iaload, 1) := by decide +kernel
theorem d_L_law_1263 : decode code 1263 = .ok (.aload_n 3, 1) := by decide +kernel
theorem d_L_law_1264 : decode code 1264 = .ok (.invokestatic 143, 3) := by decide +kernel
theorem d_L_law_1267 : decode code 1267 = .ok (.istore 5, 2) := by decide +kernel
theorem d_L_law_1269 : decode code 1269 = .ok (.aload_n 2, 1) := by decide +kernel
theorem d_L_law_1270 : decode code 1270 = .ok (.aload_n 0, 1) := by decide +kernel
theorem d_L_law_1271 : decode code 1271 = .ok (.iload 4, 2) := by decide +kernel
theorem d_L_law_1273 : decode code 1273 = .ok (.iconst 1, 1) := by decide +kernel
theorem d_L_law_1274 : decode code 1274 = .ok (.iadd, 1) := by decide +kernel
theorem d_L_law_1275 : decode code 1275 = .ok (.iaload, 1) := by decide +kernel
theorem d_L_law_1276 : decode code 1276 = .ok (.invokevirtual 145, 3) := by decide +kernel
theorem d_L_law_1279 : decode code 1279 = .ok (.istore 6, 2) := by decide +kernel
theorem d_L_law_1281 : decode code 1281 = .ok (.aload_n 2, 1) := by decide +kernel
theorem d_L_law_1282 : decode code 1282 = .ok (.invokevirtual 90, 3) := by decide +kernel
theorem d_L_law_1285 : decode code 1285 = .ok (.iload 5, 2) := by decide +kernel
theorem d_L_law_1287 : decode code 1287 = .ok (.if_icmp .eq 5, 3) := by decide +kernel
theorem d_L_law_1290 : decode code 1290 = .ok (.iconst 0, 1) := by decide +kernel
theorem d_L_law_1291 : decode code 1291 = .ok (.ireturn, 1) := by decide +kernel
theorem d_L_law_1292 : decode code 1292 = .ok (.iload 5, 2) := by decide +kernel
theorem d_L_law_1294 : decode code 1294 = .ok (.ifCond .ne 15, 3) := by decide +kernel
theorem d_L_law_1297 : decode code 1297 = .ok (.aload_n 3, 1) := by decide +kernel
theorem d_L_law_1298 : decode code 1298 = .ok (.iconst 0, 1) := by decide +kernel
theorem d_L_law_1299 : decode code 1299 = .ok (.laload, 1) := by decide +kernel
theorem d_L_law_1300 : decode code 1300 = .ok (.iload 6, 2) := by decide +kernel
theorem d_L_law_1302 : decode code 1302 = .ok (.i2l, 1) := by decide +kernel
theorem d_L_law_1303 : decode code 1303 = .ok (.lcmp, 1) := by decide +kernel
theorem d_L_law_1304 : decode code 1304 = .ok (.ifCond .eq 5, 3) := by decide +kernel
theorem d_L_law_1307 : decode code 1307 = .ok (.iconst 0, 1) := by decide +kernel
theorem d_L_law_1308 : decode code 1308 = .ok (.ireturn, 1) := by decide +kernel
theorem d_L_law_1309 : decode code 1309 = .ok (.goto 274, 3) := by decide +kernel
theorem d_L_law_1312 : decode code 1312 = .ok (.aload_n 1, 1) := by decide +kernel
theorem d_L_law_1313 : decode code 1313 = .ok (.aload_n 0, 1) := by decide +kernel
theorem d_L_law_1314 : decode code 1314 = .ok (.iload 4, 2) := by decide +kernel
theorem d_L_law_1316 : decode code 1316 = .ok (.iconst 1, 1) := by decide +kernel
theorem d_L_law_1317 : decode code 1317 = .ok (.iadd, 1) := by decide +kernel
theorem d_L_law_1318 : decode code 1318 = .ok (.iaload, 1) := by decide +kernel
theorem d_L_law_1319 : decode code 1319 = .ok (.aload_n 0, 1) := by decide +kernel
theorem d_L_law_1320 : decode code 1320 = .ok (.iload 4, 2) := by decide +kernel
theorem d_L_law_1322 : decode code 1322 = .ok (.iconst 2, 1) := by decide +kernel
theorem d_L_law_1323 : decode code 1323 = .ok (.iadd, 1) := by decide +kernel
theorem d_L_law_1324 : decode code 1324 = .ok (.iaload, 1) := by decide +kernel
theorem d_L_law_1325 : decode code 1325 = .ok (.aload_n 0, 1) := by decide +kernel
theorem d_L_law_1326 : decode code 1326 = .ok (.iload 4, 2) := by decide +kernel
theorem d_L_law_1328 : decode code 1328 = .ok (.iconst 3, 1) := by decide +kernel
theorem d_L_law_1329 : decode code 1329 = .ok (.iadd, 1) := by decide +kernel
theorem d_L_law_1330 : decode code 1330 = .ok (.iaload, 1) := by decide +kernel
theorem d_L_law_1331 : decode code 1331 = .ok (.aload_n 3, 1) := by decide +kernel
theorem d_L_law_1332 : decode code 1332 = .ok (.invokestatic 146, 3) := by decide +kernel
theorem d_L_law_1335 : decode code 1335 = .ok (.istore 5, 2) := by decide +kernel
theorem d_L_law_1337 : decode code 1337 = .ok (.aload_n 2, 1) := by decide +kernel
theorem d_L_law_1338 : decode code 1338 = .ok (.aload_n 0, 1) := by decide +kernel
theorem d_L_law_1339 : decode code 1339 = .ok (.iload 4, 2) := by decide +kernel
theorem d_L_law_1341 : decode code 1341 = .ok (.iconst 1, 1) := by decide +kernel
theorem d_L_law_1342 : decode code 1342 = .ok (.iadd, 1) := by decide +kernel
theorem d_L_law_1343 : decode code 1343 = .ok (.iaload, 1) := by decide +kernel
theorem d_L_law_1344 : decode code 1344 = .ok (.aload_n 0, 1) := by decide +kernel
theorem d_L_law_1345 : decode code 1345 = .ok (.iload 4, 2) := by decide +kernel
theorem d_L_law_1347 : decode code 1347 = .ok (.iconst 2, 1) := by decide +kernel
theorem d_L_law_1348 : decode code 1348 = .ok (.iadd, 1) := by decide +kernel
theorem d_L_law_1349 : decode code 1349 = .ok (.iaload, 1) := by decide +kernel
theorem d_L_law_1350 : decode code 1350 = .ok (.aload_n 0, 1) := by decide +kernel
theorem d_L_law_1351 : decode code 1351 = .ok (.iload 4, 2) := by decide +kernel
theorem d_L_law_1353 : decode code 1353 = .ok (.iconst 3, 1) := by decide +kernel
theorem d_L_law_1354 : decode code 1354 = .ok (.iadd, 1) := by decide +kernel
theorem d_L_law_1355 : decode code 1355 = .ok (.iaload, 1) := by decide +kernel
theorem d_L_law_1356 : decode code 1356 = .ok (.invokevirtual 148, 3) := by decide +kernel
theorem d_L_law_1359 : decode code 1359 = .ok (.istore 6, 2) := by decide +kernel
theorem d_L_law_1361 : decode code 1361 = .ok (.aload_n 2, 1) := by decide +kernel
theorem d_L_law_1362 : decode code 1362 = .ok (.invokevirtual 90, 3) := by decide +kernel
theorem d_L_law_1365 : decode code 1365 = .ok (.iload 5, 2) := by decide +kernel
theorem d_L_law_1367 : decode code 1367 = .ok (.if_icmp .eq 5, 3) := by decide +kernel
theorem d_L_law_1370 : decode code 1370 = .ok (.iconst 0, 1) := by decide +kernel
theorem d_L_law_1371 : decode code 1371 = .ok (.ireturn, 1) := by decide +kernel
theorem d_L_law_1372 : decode code 1372 = .ok (.iload 5, 2) := by decide +kernel
theorem d_L_law_1374 : decode code 1374 = .ok (.ifCond .ne 15, 3) := by decide +kernel
theorem d_L_law_1377 : decode code 1377 = .ok (.aload_n 3, 1) := by decide +kernel
theorem d_L_law_1378 : decode code 1378 = .ok (.iconst 0, 1) := by decide +kernel
theorem d_L_law_1379 : decode code 1379 = .ok (.laload, 1) := by decide +kernel
theorem d_L_law_1380 : decode code 1380 = .ok (.iload 6, 2) := by decide +kernel
theorem d_L_law_1382 : decode code 1382 = .ok (.i2l, 1) := by decide +kernel
theorem d_L_law_1383 : decode code 1383 = .ok (.lcmp, 1) := by decide +kernel
theorem d_L_law_1384 : decode code 1384 = .ok (.ifCond .eq 5, 3) := by decide +kernel
theorem d_L_law_1387 : decode code 1387 = .ok (.iconst 0, 1) := by decide +kernel
theorem d_L_law_1388 : decode code 1388 = .ok (.ireturn, 1) := by decide +kernel
theorem d_L_law_1389 : decode code 1389 = .ok (.goto 194, 3) := by decide +kernel
theorem d_L_law_1392 : decode code 1392 = .ok (.aload_n 1, 1) := by decide +kernel
theorem d_L_law_1393 : decode code 1393 = .ok (.aload_n 0, 1) := by decide +kernel
theorem d_L_law_1394 : decode code 1394 = .ok (.iload 4, 2) := by decide +kernel
theorem d_L_law_1396 : decode code 1396 = .ok (.iconst 1, 1) := by decide +kernel
theorem d_L_law_1397 : decode code 1397 = .ok (.iadd, 1) := by decide +kernel
theorem d_L_law_1398 : decode code 1398 = .ok (.iaload, 1) := by decide +kernel
theorem d_L_law_1399 : decode code 1399 = .ok (.aload_n 3, 1) := by decide +kernel
theorem d_L_law_1400 : decode code 1400 = .ok (.invokestatic 149, 3) := by decide +kernel
theorem d_L_law_1403 : decode code 1403 = .ok (.istore 5, 2) := by decide +kernel
theorem d_L_law_1405 : decode code 1405 = .ok (.aload_n 2, 1) := by decide +kernel
theorem d_L_law_1406 : decode code 1406 = .ok (.aload_n 0, 1) := by decide +kernel
theorem d_L_law_1407 : decode code 1407 = .ok (.iload 4, 2) := by decide +kernel
theorem d_L_law_1409 : decode code 1409 = .ok (.iconst 1, 1) := by decide +kernel
theorem d_L_law_1410 : decode code 1410 = .ok (.iadd, 1) := by decide +kernel
theorem d_L_law_1411 : decode code 1411 = .ok (.iaload, 1) := by decide +kernel
theorem d_L_law_1412 : decode code 1412 = .ok (.invokevirtual 151, 3) := by decide +kernel
theorem d_L_law_1415 : decode code 1415 = .ok (.istore 6, 2) := by decide +kernel
theorem d_L_law_1417 : decode code 1417 = .ok (.aload_n 2, 1) := by decide +kernel
theorem d_L_law_1418 : decode code 1418 = .ok (.invokevirtual 90, 3) := by decide +kernel
theorem d_L_law_1421 : decode code 1421 = .ok (.iload 5, 2) := by decide +kernel
theorem d_L_law_1423 : decode code 1423 = .ok (.if_icmp .eq 5, 3) := by decide +kernel
theorem d_L_law_1426 : decode code 1426 = .ok (.iconst 0, 1) := by decide +kernel
theorem d_L_law_1427 : decode code 1427 = .ok (.ireturn, 1) := by decide +kernel
theorem d_L_law_1428 : decode code 1428 = .ok (.iload 5, 2) := by decide +kernel
theorem d_L_law_1430 : decode code 1430 = .ok (.ifCond .ne 15, 3) := by decide +kernel
theorem d_L_law_1433 : decode code 1433 = .ok (.aload_n 3, 1) := by decide +kernel
theorem d_L_law_1434 : decode code 1434 = .ok (.iconst 0, 1) := by decide +kernel
theorem d_L_law_1435 : decode code 1435 = .ok (.laload, 1) := by decide +kernel
theorem d_L_law_1436 : decode code 1436 = .ok (.iload 6, 2) := by decide +kernel
theorem d_L_law_1438 : decode code 1438 = .ok (.i2l, 1) := by decide +kernel
theorem d_L_law_1439 : decode code 1439 = .ok (.lcmp, 1) := by decide +kernel
theorem d_L_law_1440 : decode code 1440 = .ok (.ifCond .eq 5, 3) := by decide +kernel
theorem d_L_law_1443 : decode code 1443 = .ok (.iconst 0, 1) := by decide +kernel
theorem d_L_law_1444 : decode code 1444 = .ok (.ireturn, 1) := by decide +kernel
theorem d_L_law_1445 : decode code 1445 = .ok (.goto 138, 3) := by decide +kernel
theorem d_L_law_1448 : decode code 1448 = .ok (.aload_n 1, 1) := by decide +kernel
theorem d_L_law_1449 : decode code 1449 = .ok (.aload_n 0, 1) := by decide +kernel
theorem d_L_law_1450 : decode code 1450 = .ok (.iload 4, 2) := by decide +kernel
theorem d_L_law_1452 : decode code 1452 = .ok (.iconst 1, 1) := by decide +kernel
theorem d_L_law_1453 : decode code 1453 = .ok (.iadd, 1) := by decide +kernel
theorem d_L_law_1454 : decode code 1454 = .ok (.iaload, 1) := by decide +kernel
theorem d_L_law_1455 : decode code 1455 = .ok (.aload_n 0, 1) := by decide +kernel
theorem d_L_law_1456 : decode code 1456 = .ok (.iload 4, 2) := by decide +kernel
theorem d_L_law_1458 : decode code 1458 = .ok (.iconst 2, 1) := by decide +kernel
theorem d_L_law_1459 : decode code 1459 = .ok (.iadd, 1) := by decide +kernel
theorem d_L_law_1460 : decode code 1460 = .ok (.iaload, 1) := by decide +kernel
theorem d_L_law_1461 : decode code 1461 = .ok (.aload_n 0, 1) := by decide +kernel
theorem d_L_law_1462 : decode code 1462 = .ok (.iload 4, 2) := by decide +kernel
theorem d_L_law_1464 : decode code 1464 = .ok (.iconst 3, 1) := by decide +kernel
theorem d_L_law_1465 : decode code 1465 = .ok (.iadd, 1) := by decide +kernel
theorem d_L_law_1466 : decode code 1466 = .ok (.iaload, 1) := by decide +kernel
theorem d_L_law_1467 : decode code 1467 = .ok (.aload_n 3, 1) := by decide +kernel
theorem d_L_law_1468 : decode code 1468 = .ok (.invokestatic 152, 3) := by decide +kernel
theorem d_L_law_1471 : decode code 1471 = .ok (.istore 5, 2) := by decide +kernel
theorem d_L_law_1473 : decode code 1473 = .ok (.aload_n 2, 1) := by decide +kernel
theorem d_L_law_1474 : decode code 1474 = .ok (.aload_n 0, 1) := by decide +kernel
theorem d_L_law_1475 : decode code 1475 = .ok (.iload 4, 2) := by decide +kernel
theorem d_L_law_1477 : decode code 1477 = .ok (.iconst 1, 1) := by decide +kernel
theorem d_L_law_1478 : decode code 1478 = .ok (.iadd, 1) := by decide +kernel
theorem d_L_law_1479 : decode code 1479 = .ok (.iaload, 1) := by decide +kernel
theorem d_L_law_1480 : decode code 1480 = .ok (.aload_n 0, 1) := by decide +kernel
theorem d_L_law_1481 : decode code 1481 = .ok (.iload 4, 2) := by decide +kernel
theorem d_L_law_1483 : decode code 1483 = .ok (.iconst 2, 1) := by decide +kernel
theorem d_L_law_1484 : decode code 1484 = .ok (.iadd, 1) := by decide +kernel
theorem d_L_law_1485 : decode code 1485 = .ok (.iaload, 1) := by decide +kernel
theorem d_L_law_1486 : decode code 1486 = .ok (.aload_n 0, 1) := by decide +kernel
theorem d_L_law_1487 : decode code 1487 = .ok (.iload 4, 2) := by decide +kernel
theorem d_L_law_1489 : decode code 1489 = .ok (.iconst 3, 1) := by decide +kernel
theorem d_L_law_1490 : decode code 1490 = .ok (.iadd, 1) := by decide +kernel
theorem d_L_law_1491 : decode code 1491 = .ok (.iaload, 1) := by decide +kernel
theorem d_L_law_1492 : decode code 1492 = .ok (.invokevirtual 154, 3) := by decide +kernel
theorem d_L_law_1495 : decode code 1495 = .ok (.istore 6, 2) := by decide +kernel
theorem d_L_law_1497 : decode code 1497 = .ok (.aload_n 2, 1) := by decide +kernel
theorem d_L_law_1498 : decode code 1498 = .ok (.invokevirtual 90, 3) := by decide +kernel
theorem d_L_law_1501 : decode code 1501 = .ok (.iload 5, 2) := by decide +kernel
theorem d_L_law_1503 : decode code 1503 = .ok (.if_icmp .eq 5, 3) := by decide +kernel
theorem d_L_law_1506 : decode code 1506 = .ok (.iconst 0, 1) := by decide +kernel
theorem d_L_law_1507 : decode code 1507 = .ok (.ireturn, 1) := by decide +kernel
theorem d_L_law_1508 : decode code 1508 = .ok (.iload 5, 2) := by decide +kernel
theorem d_L_law_1510 : decode code 1510 = .ok (.ifCond .ne 15, 3) := by decide +kernel
theorem d_L_law_1513 : decode code 1513 = .ok (.aload_n 3, 1) := by decide +kernel
theorem d_L_law_1514 : decode code 1514 = .ok (.iconst 0, 1) := by decide +kernel
theorem d_L_law_1515 : decode code 1515 = .ok (.laload, 1) := by decide +kernel
theorem d_L_law_1516 : decode code 1516 = .ok (.iload 6, 2) := by decide +kernel
theorem d_L_law_1518 : decode code 1518 = .ok (.i2l, 1) := by decide +kernel
theorem d_L_law_1519 : decode code 1519 = .ok (.lcmp, 1) := by decide +kernel
theorem d_L_law_1520 : decode code 1520 = .ok (.ifCond .eq 5, 3) := by decide +kernel
theorem d_L_law_1523 : decode code 1523 = .ok (.iconst 0, 1) := by decide +kernel
theorem d_L_law_1524 : decode code 1524 = .ok (.ireturn, 1) := by decide +kernel
theorem d_L_law_1525 : decode code 1525 = .ok (.goto 58, 3) := by decide +kernel
theorem d_L_law_1528 : decode code 1528 = .ok (.aload_n 1, 1) := by decide +kernel
theorem d_L_law_1529 : decode code 1529 = .ok (.invokevirtual 155, 3) := by decide +kernel
theorem d_L_law_1532 : decode code 1532 = .ok (.dstore 5, 2) := by decide +kernel
theorem d_L_law_1534 : decode code 1534 = .ok (.aload_n 2, 1) := by decide +kernel
theorem d_L_law_1535 : decode code 1535 = .ok (.invokevirtual 159, 3) := by decide +kernel
theorem d_L_law_1538 : decode code 1538 = .ok (.dstore 7, 2) := by decide +kernel
theorem d_L_law_1540 : decode code 1540 = .ok (.dload 5, 2) := by decide +kernel
theorem d_L_law_1542 : decode code 1542 = .ok (.dload 7, 2) := by decide +kernel
theorem d_L_law_1544 : decode code 1544 = .ok (.dcmp .l, 1) := by decide +kernel
theorem d_L_law_1545 : decode code 1545 = .ok (.ifCond .eq 21, 3) := by decide +kernel
theorem d_L_law_1548 : decode code 1548 = .ok (.dload 5, 2) := by decide +kernel
theorem d_L_law_1550 : decode code 1550 = .ok (.dload 5, 2) := by decide +kernel
theorem d_L_law_1552 : decode code 1552 = .ok (.dcmp .l, 1) := by decide +kernel
theorem d_L_law_1553 : decode code 1553 = .ok (.ifCond .eq 11, 3) := by decide +kernel
theorem d_L_law_1556 : decode code 1556 = .ok (.dload 7, 2) := by decide +kernel
theorem d_L_law_1558 : decode code 1558 = .ok (.dload 7, 2) := by decide +kernel
theorem d_L_law_1560 : decode code 1560 = .ok (.dcmp .l, 1) := by decide +kernel
theorem d_L_law_1561 : decode code 1561 = .ok (.ifCond .ne 5, 3) := by decide +kernel
theorem d_L_law_1564 : decode code 1564 = .ok (.iconst 0, 1) := by decide +kernel
theorem d_L_law_1565 : decode code 1565 = .ok (.ireturn, 1) := by decide +kernel
theorem d_L_law_1566 : decode code 1566 = .ok (.goto 17, 3) := by decide +kernel
theorem d_L_law_1569 : decode code 1569 = .ok (.aload_n 1, 1) := by decide +kernel
theorem d_L_law_1570 : decode code 1570 = .ok (.invokevirtual 160, 3) := by decide +kernel
theorem d_L_law_1573 : decode code 1573 = .ok (.aload_n 2, 1) := by decide +kernel
theorem d_L_law_1574 : decode code 1574 = .ok (.invokevirtual 164, 3) := by decide +kernel
theorem d_L_law_1577 : decode code 1577 = .ok (.lcmp, 1) := by decide +kernel
theorem d_L_law_1578 : decode code 1578 = .ok (.ifCond .eq 5, 3) := by decide +kernel
theorem d_L_law_1581 : decode code 1581 = .ok (.iconst 0, 1) := by decide +kernel
theorem d_L_law_1582 : decode code 1582 = .ok (.ireturn, 1) := by decide +kernel
theorem d_L_law_1583 : decode code 1583 = .ok (.iinc 4 6, 3) := by decide +kernel
theorem d_L_law_1586 : decode code 1586 = .ok (.goto (-1563), 3) := by decide +kernel
theorem d_L_law_1589 : decode code 1589 = .ok (.iconst 1, 1) := by decide +kernel
theorem d_L_law_1590 : decode code 1590 = .ok (.ireturn, 1) := by decide +kernel
