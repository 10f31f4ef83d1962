theorem d_H_init_0 : decode c_H_init 0 = .ok (.aload_n 0, 1) := by decide +kernel
theorem d_H_init_1 : decode c_H_init 1 = .ok (.invokespecial 1, 3) := by decide +kernel
theorem d_H_init_4 : decode c_H_init 4 = .ok (.aload_n 0, 1) := by decide +kernel
theorem d_H_init_5 : decode c_H_init 5 = .ok (.new 7, 3) := by decide +kernel
theorem d_H_init_8 : decode c_H_init 8 = .ok (.dup, 1) := by decide +kernel
theorem d_H_init_9 : decode c_H_init 9 = .ok (.invokespecial 9, 3) := by decide +kernel
theorem d_H_init_12 : decode c_H_init 12 = .ok (.putfield 10, 3) := by decide +kernel
theorem d_H_init_15 : decode c_H_init 15 = .ok (.aload_n 0, 1) := by decide +kernel
theorem d_H_init_16 : decode c_H_init 16 = .ok (.new 16, 3) := by decide +kernel
theorem d_H_init_19 : decode c_H_init 19 = .ok (.dup, 1) := by decide +kernel
theorem d_H_init_20 : decode c_H_init 20 = .ok (.invokespecial 18, 3) := by decide +kernel
theorem d_H_init_23 : decode c_H_init 23 = .ok (.putfield 19, 3) := by decide +kernel
theorem d_H_init_26 : decode c_H_init 26 = .ok (.aload_n 0, 1) := by decide +kernel
theorem d_H_init_27 : decode c_H_init 27 = .ok (.new 23, 3) := by decide +kernel
theorem d_H_init_30 : decode c_H_init 30 = .ok (.dup, 1) := by decide +kernel
theorem d_H_init_31 : decode c_H_init 31 = .ok (.iconst 0, 1) := by decide +kernel
theorem d_H_init_32 : decode c_H_init 32 = .ok (.ldc 25, 2) := by decide +kernel
theorem d_H_init_34 : decode c_H_init 34 = .ok (.invokespecial 27, 3) := by decide +kernel
theorem d_H_init_37 : decode c_H_init 37 = .ok (.putfield 30, 3) := by decide +kernel
theorem d_H_init_40 : decode c_H_init 40 = .ok (.aload_n 0, 1) := by decide +kernel
theorem d_H_init_41 : decode c_H_init 41 = .ok (.new 34, 3) := by decide +kernel
theorem d_H_init_44 : decode c_H_init 44 = .ok (.dup, 1) := by decide +kernel
theorem d_H_init_45 : decode c_H_init 45 = .ok (.invokespecial 36, 3) := by decide +kernel
theorem d_H_init_48 : decode c_H_init 48 = .ok (.putfield 37, 3) := by decide +kernel
theorem d_H_init_51 : decode c_H_init 51 = .ok (.aload_n 0, 1) := by decide +kernel
theorem d_H_init_52 : decode c_H_init 52 = .ok (.new 34, 3) := by decide +kernel
theorem d_H_init_55 : decode c_H_init 55 = .ok (.dup, 1) := by decide +kernel
theorem d_H_init_56 : decode c_H_init 56 = .ok (.invokespecial 36, 3) := by decide +kernel
theorem d_H_init_59 : decode c_H_init 59 = .ok (.putfield 41, 3) := by decide +kernel
theorem d_H_init_62 : decode c_H_init 62 = .ok (.aload_n 0, 1) := by decide +kernel
theorem d_H_init_63 : decode c_H_init 63 = .ok (.getfield 19, 3) := by decide +kernel
theorem d_H_init_66 : decode c_H_init 66 = .ok (.aload_n 0, 1) := by decide +kernel
theorem d_H_init_67 : decode c_H_init 67 = .ok (.getfield 30, 3) := by decide +kernel
theorem d_H_init_70 : decode c_H_init 70 = .ok (.invokevirtual 44, 3) := by decide +kernel
theorem d_H_init_73 : decode c_H_init 73 = .ok (.pop, 1) := by decide +kernel
theorem d_H_init_74 : decode c_H_init 74 = .ok (.aload_n 0, 1) := by decide +kernel
theorem d_H_init_75 : decode c_H_init 75 = .ok (.getfield 19, 3) := by decide +kernel
theorem d_H_init_78 : decode c_H_init 78 = .ok (.new 23, 3) := by decide +kernel
theorem d_H_init_81 : decode c_H_init 81 = .ok (.dup, 1) := by decide +kernel
theorem d_H_init_82 : decode c_H_init 82 = .ok (.iconst 1, 1) := by decide +kernel
theorem d_H_init_83 : decode c_H_init 83 = .ok (.ldc 48, 2) := by decide +kernel
theorem d_H_init_85 : decode c_H_init 85 = .ok (.invokespecial 27, 3) := by decide +kernel
theorem d_H_init_88 : decode c_H_init 88 = .ok (.invokevirtual 44, 3) := by decide +kernel
theorem d_H_init_91 : decode c_H_init 91 = .ok (.pop, 1) := by decide +kernel
theorem d_H_init_92 : decode c_H_init 92 = .ok (.aload_n 0, 1) := by decide +kernel
theorem d_H_init_93 : decode c_H_init 93 = .ok (.getfield 19, 3) := by decide +kernel
theorem d_H_init_96 : decode c_H_init 96 = .ok (.new 23, 3) := by decide +kernel
theorem d_H_init_99 : decode c_H_init 99 = .ok (.dup, 1) := by decide +kernel
theorem d_H_init_100 : decode c_H_init 100 = .ok (.iconst 2, 1) := by decide +kernel
theorem d_H_init_101 : decode c_H_init 101 = .ok (.ldc 50, 2) := by decide +kernel
theorem d_H_init_103 : decode c_H_init 103 = .ok (.invokespecial 27, 3) := by decide +kernel
theorem d_H_init_106 : decode c_H_init 106 = .ok (.invokevirtual 44, 3) := by decide +kernel
theorem d_H_init_109 : decode c_H_init 109 = .ok (.pop, 1) := by decide +kernel
theorem d_H_init_110 : decode c_H_init 110 = .ok (.aload_n 0, 1) := by decide +kernel
theorem d_H_init_111 : decode c_H_init 111 = .ok (.getfield 19, 3) := by decide +kernel
theorem d_H_init_114 : decode c_H_init 114 = .ok (.new 23, 3) := by decide +kernel
theorem d_H_init_117 : decode c_H_init 117 = .ok (.dup, 1) := by decide +kernel
theorem d_H_init_118 : decode c_H_init 118 = .ok (.iconst 3, 1) := by decide +kernel
theorem d_H_init_119 : decode c_H_init 119 = .ok (.ldc 52, 2) := by decide +kernel
theorem d_H_init_121 : decode c_H_init 121 = .ok (.invokespecial 27, 3) := by decide +kernel
theorem d_H_init_124 : decode c_H_init 124 = .ok (.invokevirtual 44, 3) := by decide +kernel
theorem d_H_init_127 : decode c_H_init 127 = .ok (.pop, 1) := by decide +kernel
theorem d_H_init_128 : decode c_H_init 128 = .ok (.aload_n 0, 1) := by decide +kernel
theorem d_H_init_129 : decode c_H_init 129 = .ok (.getfield 19, 3) := by decide +kernel
theorem d_H_init_132 : decode c_H_init 132 = .ok (.new 23, 3) := by decide +kernel
theorem d_H_init_135 : decode c_H_init 135 = .ok (.dup, 1) := by decide +kernel
theorem d_H_init_136 : decode c_H_init 136 = .ok (.iconst 4, 1) := by decide +kernel
theorem d_H_init_137 : decode c_H_init 137 = .ok (.ldc 54, 2) := by decide +kernel
theorem d_H_init_139 : decode c_H_init 139 = .ok (.invokespecial 27, 3) := by decide +kernel
theorem d_H_init_142 : decode c_H_init 142 = .ok (.invokevirtual 44, 3) := by decide +kernel
theorem d_H_init_145 : decode c_H_init 145 = .ok (.pop, 1) := by decide +kernel
theorem d_H_init_146 : decode c_H_init 146 = .ok (.aload_n 0, 1) := by decide +kernel
theorem d_H_init_147 : decode c_H_init 147 = .ok (.getfield 19, 3) := by decide +kernel
theorem d_H_init_150 : decode c_H_init 150 = .ok (.new 23, 3) := by decide +kernel
theorem d_H_init_153 : decode c_H_init 153 = .ok (.dup, 1) := by decide +kernel
theorem d_H_init_154 : decode c_H_init 154 = .ok (.iconst 5, 1) := by decide +kernel
theorem d_H_init_155 : decode c_H_init 155 = .ok (.ldc 56, 2) := by decide +kernel
theorem d_H_init_157 : decode c_H_init 157 = .ok (.invokespecial 27, 3) := by decide +kernel
theorem d_H_init_160 : decode c_H_init 160 = .ok (.invokevirtual 44, 3) := by decide +kernel
theorem d_H_init_163 : decode c_H_init 163 = .ok (.pop, 1) := by decide +kernel
theorem d_H_init_164 : decode c_H_init 164 = .ok (.aload_n 0, 1) := by decide +kernel
theorem d_H_init_165 : decode c_H_init 165 = .ok (.getfield 19, 3) := by decide +kernel
theorem d_H_init_168 : decode c_H_init 168 = .ok (.new 23, 3) := by decide +kernel
theorem d_H_init_171 : decode c_H_init 171 = .ok (.dup, 1) := by decide +kernel
theorem d_H_init_172 : decode c_H_init 172 = .ok (.bipush 6, 2) := by decide +kernel
theorem d_H_init_174 : decode c_H_init 174 = .ok (.ldc 58, 2) := by decide +kernel
theorem d_H_init_176 : decode c_H_init 176 = .ok (.invokespecial 27, 3) := by decide +kernel
theorem d_H_init_179 : decode c_H_init 179 = .ok (.invokevirtual 44, 3) := by decide +kernel
theorem d_H_init_182 : decode c_H_init 182 = .ok (.pop, 1) := by decide +kernel
theorem d_H_init_183 : decode c_H_init 183 = .ok (.aload_n 0, 1) := by decide +kernel
theorem d_H_init_184 : decode c_H_init 184 = .ok (.getfield 19, 3) := by decide +kernel
theorem d_H_init_187 : decode c_H_init 187 = .ok (.new 23, 3) := by decide +kernel
theorem d_H_init_190 : decode c_H_init 190 = .ok (.dup, 1) := by decide +kernel
theorem d_H_init_191 : decode c_H_init 191 = .ok (.bipush 7, 2) := by decide +kernel
theorem d_H_init_193 : decode c_H_init 193 = .ok (.ldc 60, 2) := by decide +kernel
theorem d_H_init_195 : decode c_H_init 195 = .ok (.invokespecial 27, 3) := by decide +kernel
theorem d_H_init_198 : decode c_H_init 198 = .ok (.invokevirtual 44, 3) := by decide +kernel
theorem d_H_init_201 : decode c_H_init 201 = .ok (.pop, 1) := by decide +kernel
theorem d_H_init_202 : decode c_H_init 202 = .ok (.return_, 1) := by decide +kernel
theorem d_H_feed_0 : decode c_H_feed 0 = .ok (.aload_n 0, 1) := by decide +kernel
theorem d_H_feed_1 : decode c_H_feed 1 = .ok (.getfield 10, 3) := by decide +kernel
theorem d_H_feed_4 : decode c_H_feed 4 = .ok (.invokevirtual 62, 3) := by decide +kernel
theorem d_H_feed_7 : decode c_H_feed 7 = .ok (.bipush 20, 2) := by decide +kernel
theorem d_H_feed_9 : decode c_H_feed 9 = .ok (.if_icmp .ge 13, 3) := by decide +kernel
theorem d_H_feed_12 : decode c_H_feed 12 = .ok (.new 66, 3) := by decide +kernel
theorem d_H_feed_15 : decode c_H_feed 15 = .ok (.dup, 1) := by decide +kernel
theorem d_H_feed_16 : decode c_H_feed 16 = .ok (.ldc 68, 2) := by decide +kernel
theorem d_H_feed_18 : decode c_H_feed 18 = .ok (.invokespecial 70, 3) := by decide +kernel
theorem d_H_feed_21 : decode c_H_feed 21 = .ok (.athrow, 1) := by decide +kernel
theorem d_H_feed_22 : decode c_H_feed 22 = .ok (.aload_n 0, 1) := by decide +kernel
theorem d_H_feed_23 : decode c_H_feed 23 = .ok (.getfield 10, 3) := by decide +kernel
theorem d_H_feed_26 : decode c_H_feed 26 = .ok (.iload_n 1, 1) := by decide +kernel
theorem d_H_feed_27 : decode c_H_feed 27 = .ok (.invokevirtual 73, 3) := by decide +kernel
theorem d_H_feed_30 : decode c_H_feed 30 = .ok (.aload_n 0, 1) := by decide +kernel
theorem d_H_feed_31 : decode c_H_feed 31 = .ok (.getfield 10, 3) := by decide +kernel
theorem d_H_feed_34 : decode c_H_feed 34 = .ok (.iload_n 2, 1) := by decide +kernel
theorem d_H_feed_35 : decode c_H_feed 35 = .ok (.invokevirtual 73, 3) := by decide +kernel
theorem d_H_feed_38 : decode c_H_feed 38 = .ok (.aload_n 0, 1) := by decide +kernel
theorem d_H_feed_39 : decode c_H_feed 39 = .ok (.getfield 10, 3) := by decide +kernel
theorem d_H_feed_42 : decode c_H_feed 42 = .ok (.iload_n 3, 1) := by decide +kernel
theorem d_H_feed_43 : decode c_H_feed 43 = .ok (.invokevirtual 73, 3) := by decide +kernel
theorem d_H_feed_46 : decode c_H_feed 46 = .ok (.aload_n 0, 1) := by decide +kernel
theorem d_H_feed_47 : decode c_H_feed 47 = .ok (.getfield 10, 3) := by decide +kernel
theorem d_H_feed_50 : decode c_H_feed 50 = .ok (.iload 4, 2) := by decide +kernel
theorem d_H_feed_52 : decode c_H_feed 52 = .ok (.invokevirtual 73, 3) := by decide +kernel
theorem d_H_feed_55 : decode c_H_feed 55 = .ok (.aload_n 0, 1) := by decide +kernel
theorem d_H_feed_56 : decode c_H_feed 56 = .ok (.getfield 10, 3) := by decide +kernel
theorem d_H_feed_59 : decode c_H_feed 59 = .ok (.iload 5, 2) := by decide +kernel
theorem d_H_feed_61 : decode c_H_feed 61 = .ok (.invokevirtual 73, 3) := by decide +kernel
theorem d_H_feed_64 : decode c_H_feed 64 = .ok (.aload_n 0, 1) := by decide +kernel
theorem d_H_feed_65 : decode c_H_feed 65 = .ok (.getfield 10, 3) := by decide +kernel
theorem d_H_feed_68 : decode c_H_feed 68 = .ok (.getfield 77, 3) := by decide +kernel
theorem d_H_feed_71 : decode c_H_feed 71 = .ok (.ireturn, 1) := by decide +kernel
theorem d_H_trim_0 : decode c_H_trim 0 = .ok (.iload_n 1, 1) := by decide +kernel
theorem d_H_trim_1 : decode c_H_trim 1 = .ok (.ifCond .lt 14, 3) := by decide +kernel
theorem d_H_trim_4 : decode c_H_trim 4 = .ok (.iload_n 1, 1) := by decide +kernel
theorem d_H_trim_5 : decode c_H_trim 5 = .ok (.aload_n 0, 1) := by decide +kernel
theorem d_H_trim_6 : decode c_H_trim 6 = .ok (.getfield 10, 3) := by decide +kernel
theorem d_H_trim_9 : decode c_H_trim 9 = .ok (.getfield 77, 3) := by decide +kernel
theorem d_H_trim_12 : decode c_H_trim 12 = .ok (.if_icmp .le 13, 3) := by decide +kernel
theorem d_H_trim_15 : decode c_H_trim 15 = .ok (.new 81, 3) := by decide +kernel
theorem d_H_trim_18 : decode c_H_trim 18 = .ok (.dup, 1) := by decide +kernel
theorem d_H_trim_19 : decode c_H_trim 19 = .ok (.ldc 83, 2) := by decide +kernel
theorem d_H_trim_21 : decode c_H_trim 21 = .ok (.invokespecial 85, 3) := by decide +kernel
theorem d_H_trim_24 : decode c_H_trim 24 = .ok (.athrow, 1) := by decide +kernel
theorem d_H_trim_25 : decode c_H_trim 25 = .ok (.aload_n 0, 1) := by decide +kernel
theorem d_H_trim_26 : decode c_H_trim 26 = .ok (.getfield 10, 3) := by decide +kernel
theorem d_H_trim_29 : decode c_H_trim 29 = .ok (.iload_n 1, 1) := by decide +kernel
theorem d_H_trim_30 : decode c_H_trim 30 = .ok (.putfield 77, 3) := by decide +kernel
theorem d_H_trim_33 : decode c_H_trim 33 = .ok (.iload_n 1, 1) := by decide +kernel
theorem d_H_trim_34 : decode c_H_trim 34 = .ok (.ireturn, 1) := by decide +kernel
theorem d_H_learn_0 : decode c_H_learn 0 = .ok (.aload_n 0, 1) := by decide +kernel
theorem d_H_learn_1 : decode c_H_learn 1 = .ok (.iload_n 1, 1) := by decide +kernel
theorem d_H_learn_2 : decode c_H_learn 2 = .ok (.invokevirtual 86, 3) := by decide +kernel
theorem d_H_learn_5 : decode c_H_learn 5 = .ok (.astore_n 2, 1) := by decide +kernel
theorem d_H_learn_6 : decode c_H_learn 6 = .ok (.aload_n 2, 1) := by decide +kernel
theorem d_H_learn_7 : decode c_H_learn 7 = .ok (.aload_n 0, 1) := by decide +kernel
theorem d_H_learn_8 : decode c_H_learn 8 = .ok (.getfield 10, 3) := by decide +kernel
theorem d_H_learn_11 : decode c_H_learn 11 = .ok (.invokevirtual 90, 3) := by decide +kernel
theorem d_H_learn_14 : decode c_H_learn 14 = .ok (.istore_n 3, 1) := by decide +kernel
theorem d_H_learn_15 : decode c_H_learn 15 = .ok (.aload_n 0, 1) := by decide +kernel
theorem d_H_learn_16 : decode c_H_learn 16 = .ok (.getfield 10, 3) := by decide +kernel
theorem d_H_learn_19 : decode c_H_learn 19 = .ok (.iconst 0, 1) := by decide +kernel
theorem d_H_learn_20 : decode c_H_learn 20 = .ok (.putfield 77, 3) := by decide +kernel
theorem d_H_learn_23 : decode c_H_learn 23 = .ok (.iload_n 3, 1) := by decide +kernel
theorem d_H_learn_24 : decode c_H_learn 24 = .ok (.ifCond .ne 5, 3) := by decide +kernel
theorem d_H_learn_27 : decode c_H_learn 27 = .ok (.iconst (-1), 1) := by decide +kernel
theorem d_H_learn_28 : decode c_H_learn 28 = .ok (.ireturn, 1) := by decide +kernel
theorem d_H_learn_29 : decode c_H_learn 29 = .ok (.aload_n 0, 1) := by decide +kernel
theorem d_H_learn_30 : decode c_H_learn 30 = .ok (.getfield 37, 3) := by decide +kernel
theorem d_H_learn_33 : decode c_H_learn 33 = .ok (.aload_n 2, 1) := by decide +kernel
theorem d_H_learn_34 : decode c_H_learn 34 = .ok (.invokevirtual 94, 3) := by decide +kernel
theorem d_H_learn_37 : decode c_H_learn 37 = .ok (.aload_n 2, 1) := by decide +kernel
theorem d_H_learn_38 : decode c_H_learn 38 = .ok (.getfield 98, 3) := by decide +kernel
theorem d_H_learn_41 : decode c_H_learn 41 = .ok (.ireturn, 1) := by decide +kernel
theorem d_H_figure_0 : decode c_H_figure 0 = .ok (.aload_n 0, 1) := by decide +kernel
theorem d_H_figure_1 : decode c_H_figure 1 = .ok (.iload_n 1, 1) := by decide +kernel
theorem d_H_figure_2 : decode c_H_figure 2 = .ok (.invokevirtual 86, 3) := by decide +kernel
theorem d_H_figure_5 : decode c_H_figure 5 = .ok (.astore_n 3, 1) := by decide +kernel
theorem d_H_figure_6 : decode c_H_figure 6 = .ok (.iload_n 2, 1) := by decide +kernel
theorem d_H_figure_7 : decode c_H_figure 7 = .ok (.ifCond .lt 11, 3) := by decide +kernel
theorem d_H_figure_10 : decode c_H_figure 10 = .ok (.iload_n 2, 1) := by decide +kernel
theorem d_H_figure_11 : decode c_H_figure 11 = .ok (.aload_n 3, 1) := by decide +kernel
theorem d_H_figure_12 : decode c_H_figure 12 = .ok (.getfield 98, 3) := by decide +kernel
theorem d_H_figure_15 : decode c_H_figure 15 = .ok (.if_icmp .lt 13, 3) := by decide +kernel
theorem d_H_figure_18 : decode c_H_figure 18 = .ok (.new 99, 3) := by decide +kernel
theorem d_H_figure_21 : decode c_H_figure 21 = .ok (.dup, 1) := by decide +kernel
theorem d_H_figure_22 : decode c_H_figure 22 = .ok (.ldc 101, 2) := by decide +kernel
theorem d_H_figure_24 : decode c_H_figure 24 = .ok (.invokespecial 103, 3) := by decide +kernel
theorem d_H_figure_27 : decode c_H_figure 27 = .ok (.athrow, 1) := by decide +kernel
theorem d_H_figure_28 : decode c_H_figure 28 = .ok (.aload_n 3, 1) := by decide +kernel
theorem d_H_figure_29 : decode c_H_figure 29 = .ok (.iload_n 2, 1) := by decide +kernel
theorem d_H_figure_30 : decode c_H_figure 30 = .ok (.invokevirtual 104, 3) := by decide +kernel
theorem d_H_figure_33 : decode c_H_figure 33 = .ok (.ireturn, 1) := by decide +kernel
theorem d_H_drift_0 : decode c_H_drift 0 = .ok (.aload_n 0, 1) := by decide +kernel
theorem d_H_drift_1 : decode c_H_drift 1 = .ok (.iload_n 1, 1) := by decide +kernel
theorem d_H_drift_2 : decode c_H_drift 2 = .ok (.invokevirtual 86, 3) := by decide +kernel
theorem d_H_drift_5 : decode c_H_drift 5 = .ok (.astore_n 3, 1) := by decide +kernel
theorem d_H_drift_6 : decode c_H_drift 6 = .ok (.iload_n 2, 1) := by decide +kernel
theorem d_H_drift_7 : decode c_H_drift 7 = .ok (.iconst 4, 1) := by decide +kernel
theorem d_H_drift_8 : decode c_H_drift 8 = .ok (.invokestatic 108, 3) := by decide +kernel
theorem d_H_drift_11 : decode c_H_drift 11 = .ok (.aload_n 3, 1) := by decide +kernel
theorem d_H_drift_12 : decode c_H_drift 12 = .ok (.iload_n 2, 1) := by decide +kernel
theorem d_H_drift_13 : decode c_H_drift 13 = .ok (.invokevirtual 112, 3) := by decide +kernel
theorem d_H_drift_16 : decode c_H_drift 16 = .ok (.ireturn, 1) := by decide +kernel
theorem d_H_come_0 : decode c_H_come 0 = .ok (.iload_n 1, 1) := by decide +kernel
theorem d_H_come_1 : decode c_H_come 1 = .ok (.iload_n 2, 1) := by decide +kernel
theorem d_H_come_2 : decode c_H_come 2 = .ok (.invokestatic 115, 3) := by decide +kernel
theorem d_H_come_5 : decode c_H_come 5 = .ok (.ifCond .eq 25, 3) := by decide +kernel
theorem d_H_come_8 : decode c_H_come 8 = .ok (.iload_n 3, 1) := by decide +kernel
theorem d_H_come_9 : decode c_H_come 9 = .ok (.ifCond .lt 21, 3) := by decide +kernel
theorem d_H_come_12 : decode c_H_come 12 = .ok (.iload_n 3, 1) := by decide +kernel
theorem d_H_come_13 : decode c_H_come 13 = .ok (.iconst 4, 1) := by decide +kernel
theorem d_H_come_14 : decode c_H_come 14 = .ok (.if_icmp .ge 16, 3) := by decide +kernel
theorem d_H_come_17 : decode c_H_come 17 = .ok (.iload 4, 2) := by decide +kernel
theorem d_H_come_19 : decode c_H_come 19 = .ok (.iconst 1, 1) := by decide +kernel
theorem d_H_come_20 : decode c_H_come 20 = .ok (.if_icmp .lt 10, 3) := by decide +kernel
theorem d_H_come_23 : decode c_H_come 23 = .ok (.iload 4, 2) := by decide +kernel
theorem d_H_come_25 : decode c_H_come 25 = .ok (.bipush 9, 2) := by decide +kernel
theorem d_H_come_27 : decode c_H_come 27 = .ok (.if_icmp .le 13, 3) := by decide +kernel
theorem d_H_come_30 : decode c_H_come 30 = .ok (.new 81, 3) := by decide +kernel
theorem d_H_come_33 : decode c_H_come 33 = .ok (.dup, 1) := by decide +kernel
theorem d_H_come_34 : decode c_H_come 34 = .ok (.ldc 119, 2) := by decide +kernel
theorem d_H_come_36 : decode c_H_come 36 = .ok (.invokespecial 85, 3) := by decide +kernel
theorem d_H_come_39 : decode c_H_come 39 = .ok (.athrow, 1) := by decide +kernel
theorem d_H_come_40 : decode c_H_come 40 = .ok (.aload_n 0, 1) := by decide +kernel
theorem d_H_come_41 : decode c_H_come 41 = .ok (.getfield 37, 3) := by decide +kernel
theorem d_H_come_44 : decode c_H_come 44 = .ok (.getfield 121, 3) := by decide +kernel
theorem d_H_come_47 : decode c_H_come 47 = .ok (.invokevirtual 124, 3) := by decide +kernel
theorem d_H_come_50 : decode c_H_come 50 = .ok (.bipush 8, 2) := by decide +kernel
theorem d_H_come_52 : decode c_H_come 52 = .ok (.if_icmp .ge 15, 3) := by decide +kernel
theorem d_H_come_55 : decode c_H_come 55 = .ok (.aload_n 0, 1) := by decide +kernel
theorem d_H_come_56 : decode c_H_come 56 = .ok (.getfield 37, 3) := by decide +kernel
theorem d_H_come_59 : decode c_H_come 59 = .ok (.iload_n 1, 1) := by decide +kernel
theorem d_H_come_60 : decode c_H_come 60 = .ok (.iload_n 2, 1) := by decide +kernel
theorem d_H_come_61 : decode c_H_come 61 = .ok (.invokevirtual 127, 3) := by decide +kernel
theorem d_H_come_64 : decode c_H_come 64 = .ok (.ifnull 13, 3) := by decide +kernel
theorem d_H_come_67 : decode c_H_come 67 = .ok (.new 66, 3) := by decide +kernel
theorem d_H_come_70 : decode c_H_come 70 = .ok (.dup, 1) := by decide +kernel
theorem d_H_come_71 : decode c_H_come 71 = .ok (.ldc 131, 2) := by decide +kernel
theorem d_H_come_73 : decode c_H_come 73 = .ok (.invokespecial 70, 3) := by decide +kernel
theorem d_H_come_76 : decode c_H_come 76 = .ok (.athrow, 1) := by decide +kernel
theorem d_H_come_77 : decode c_H_come 77 = .ok (.new 133, 3) := by decide +kernel
theorem d_H_come_80 : decode c_H_come 80 = .ok (.dup, 1) := by decide +kernel
theorem d_H_come_81 : decode c_H_come 81 = .ok (.aload_n 0, 1) := by decide +kernel
theorem d_H_come_82 : decode c_H_come 82 = .ok (.getfield 37, 3) := by decide +kernel
theorem d_H_come_85 : decode c_H_come 85 = .ok (.getfield 121, 3) := by decide +kernel
theorem d_H_come_88 : decode c_H_come 88 = .ok (.invokevirtual 124, 3) := by decide +kernel
theorem d_H_come_91 : decode c_H_come 91 = .ok (.aload_n 0, 1) := by decide +kernel
theorem d_H_come_92 : decode c_H_come 92 = .ok (.getfield 30, 3) := by decide +kernel
theorem d_H_come_95 : decode c_H_come 95 = .ok (.invokespecial 135, 3) := by decide +kernel
theorem d_H_come_98 : decode c_H_come 98 = .ok (.astore 5, 2) := by decide +kernel
theorem d_H_come_100 : decode c_H_come 100 = .ok (.aload 5, 2) := by decide +kernel
theorem d_H_come_102 : decode c_H_come 102 = .ok (.iload_n 1, 1) := by decide +kernel
theorem d_H_come_103 : decode c_H_come 103 = .ok (.putfield 138, 3) := by decide +kernel
theorem d_H_come_106 : decode c_H_come 106 = .ok (.aload 5, 2) := by decide +kernel
theorem d_H_come_108 : decode c_H_come 108 = .ok (.iload_n 2, 1) := by decide +kernel
theorem d_H_come_109 : decode c_H_come 109 = .ok (.putfield 141, 3) := by decide +kernel
theorem d_H_come_112 : decode c_H_come 112 = .ok (.aload 5, 2) := by decide +kernel
theorem d_H_come_114 : decode c_H_come 114 = .ok (.iload_n 3, 1) := by decide +kernel
theorem d_H_come_115 : decode c_H_come 115 = .ok (.putfield 144, 3) := by decide +kernel
theorem d_H_come_118 : decode c_H_come 118 = .ok (.aload 5, 2) := by decide +kernel
theorem d_H_come_120 : decode c_H_come 120 = .ok (.iload 4, 2) := by decide +kernel
theorem d_H_come_122 : decode c_H_come 122 = .ok (.putfield 147, 3) := by decide +kernel
theorem d_H_come_125 : decode c_H_come 125 = .ok (.aload_n 0, 1) := by decide +kernel
theorem d_H_come_126 : decode c_H_come 126 = .ok (.getfield 37, 3) := by decide +kernel
theorem d_H_come_129 : decode c_H_come 129 = .ok (.getfield 121, 3) := by decide +kernel
theorem d_H_come_132 : decode c_H_come 132 = .ok (.aload 5, 2) := by decide +kernel
theorem d_H_come_134 : decode c_H_come 134 = .ok (.invokevirtual 44, 3) := by decide +kernel
theorem d_H_come_137 : decode c_H_come 137 = .ok (.pop, 1) := by decide +kernel
theorem d_H_come_138 : decode c_H_come 138 = .ok (.aload 5, 2) := by decide +kernel
theorem d_H_come_140 : decode c_H_come 140 = .ok (.getfield 150, 3) := by decide +kernel
theorem d_H_come_143 : decode c_H_come 143 = .ok (.ireturn, 1) := by decide +kernel
theorem d_H_dance_0 : decode c_H_dance 0 = .ok (.aload_n 0, 1) := by decide +kernel
theorem d_H_dance_1 : decode c_H_dance 1 = .ok (.iload_n 1, 1) := by decide +kernel
theorem d_H_dance_2 : decode c_H_dance 2 = .ok (.invokevirtual 153, 3) := by decide +kernel
theorem d_H_dance_5 : decode c_H_dance 5 = .ok (.astore_n 3, 1) := by decide +kernel
theorem d_H_dance_6 : decode c_H_dance 6 = .ok (.aload_n 0, 1) := by decide +kernel
theorem d_H_dance_7 : decode c_H_dance 7 = .ok (.iload_n 2, 1) := by decide +kernel
theorem d_H_dance_8 : decode c_H_dance 8 = .ok (.invokevirtual 86, 3) := by decide +kernel
theorem d_H_dance_11 : decode c_H_dance 11 = .ok (.astore 4, 2) := by decide +kernel
theorem d_H_dance_13 : decode c_H_dance 13 = .ok (.aload_n 3, 1) := by decide +kernel
theorem d_H_dance_14 : decode c_H_dance 14 = .ok (.getfield 157, 3) := by decide +kernel
theorem d_H_dance_17 : decode c_H_dance 17 = .ok (.getfield 160, 3) := by decide +kernel
theorem d_H_dance_20 : decode c_H_dance 20 = .ok (.istore 5, 2) := by decide +kernel
theorem d_H_dance_22 : decode c_H_dance 22 = .ok (.aload_n 3, 1) := by decide +kernel
theorem d_H_dance_23 : decode c_H_dance 23 = .ok (.aload 4, 2) := by decide +kernel
theorem d_H_dance_25 : decode c_H_dance 25 = .ok (.putfield 157, 3) := by decide +kernel
theorem d_H_dance_28 : decode c_H_dance 28 = .ok (.aload_n 3, 1) := by decide +kernel
theorem d_H_dance_29 : decode c_H_dance 29 = .ok (.iconst 0, 1) := by decide +kernel
theorem d_H_dance_30 : decode c_H_dance 30 = .ok (.putfield 161, 3) := by decide +kernel
theorem d_H_dance_33 : decode c_H_dance 33 = .ok (.iload 5, 2) := by decide +kernel
theorem d_H_dance_35 : decode c_H_dance 35 = .ok (.ireturn, 1) := by decide +kernel
theorem d_H_pair_0 : decode c_H_pair 0 = .ok (.aload_n 0, 1) := by decide +kernel
theorem d_H_pair_1 : decode c_H_pair 1 = .ok (.iload_n 1, 1) := by decide +kernel
theorem d_H_pair_2 : decode c_H_pair 2 = .ok (.invokevirtual 153, 3) := by decide +kernel
theorem d_H_pair_5 : decode c_H_pair 5 = .ok (.astore_n 3, 1) := by decide +kernel
theorem d_H_pair_6 : decode c_H_pair 6 = .ok (.aload_n 0, 1) := by decide +kernel
theorem d_H_pair_7 : decode c_H_pair 7 = .ok (.iload_n 2, 1) := by decide +kernel
theorem d_H_pair_8 : decode c_H_pair 8 = .ok (.invokevirtual 153, 3) := by decide +kernel
theorem d_H_pair_11 : decode c_H_pair 11 = .ok (.astore 4, 2) := by decide +kernel
theorem d_H_pair_13 : decode c_H_pair 13 = .ok (.iload_n 1, 1) := by decide +kernel
theorem d_H_pair_14 : decode c_H_pair 14 = .ok (.iload_n 2, 1) := by decide +kernel
theorem d_H_pair_15 : decode c_H_pair 15 = .ok (.if_icmp .ne 13, 3) := by decide +kernel
theorem d_H_pair_18 : decode c_H_pair 18 = .ok (.new 81, 3) := by decide +kernel
theorem d_H_pair_21 : decode c_H_pair 21 = .ok (.dup, 1) := by decide +kernel
theorem d_H_pair_22 : decode c_H_pair 22 = .ok (.ldc 164, 2) := by decide +kernel
theorem d_H_pair_24 : decode c_H_pair 24 = .ok (.invokespecial 85, 3) := by decide +kernel
theorem d_H_pair_27 : decode c_H_pair 27 = .ok (.athrow, 1) := by decide +kernel
theorem d_H_pair_28 : decode c_H_pair 28 = .ok (.aload_n 3, 1) := by decide +kernel
theorem d_H_pair_29 : decode c_H_pair 29 = .ok (.getfield 166, 3) := by decide +kernel
theorem d_H_pair_32 : decode c_H_pair 32 = .ok (.ifnonnull 20, 3) := by decide +kernel
theorem d_H_pair_35 : decode c_H_pair 35 = .ok (.aload 4, 2) := by decide +kernel
theorem d_H_pair_37 : decode c_H_pair 37 = .ok (.getfield 166, 3) := by decide +kernel
theorem d_H_pair_40 : decode c_H_pair 40 = .ok (.ifnonnull 12, 3) := by decide +kernel
theorem d_H_pair_43 : decode c_H_pair 43 = .ok (.aload_n 3, 1) := by decide +kernel
theorem d_H_pair_44 : decode c_H_pair 44 = .ok (.aload 4, 2) := by decide +kernel
theorem d_H_pair_46 : decode c_H_pair 46 = .ok (.invokevirtual 170, 3) := by decide +kernel
theorem d_H_pair_49 : decode c_H_pair 49 = .ok (.ifCond .ne 13, 3) := by decide +kernel
theorem d_H_pair_52 : decode c_H_pair 52 = .ok (.new 66, 3) := by decide +kernel
theorem d_H_pair_55 : decode c_H_pair 55 = .ok (.dup, 1) := by decide +kernel
theorem d_H_pair_56 : decode c_H_pair 56 = .ok (.ldc 174, 2) := by decide +kernel
theorem d_H_pair_58 : decode c_H_pair 58 = .ok (.invokespecial 70, 3) := by decide +kernel
theorem d_H_pair_61 : decode c_H_pair 61 = .ok (.athrow, 1) := by decide +kernel
theorem d_H_pair_62 : decode c_H_pair 62 = .ok (.aload_n 3, 1) := by decide +kernel
theorem d_H_pair_63 : decode c_H_pair 63 = .ok (.aload 4, 2) := by decide +kernel
theorem d_H_pair_65 : decode c_H_pair 65 = .ok (.putfield 166, 3) := by decide +kernel
theorem d_H_pair_68 : decode c_H_pair 68 = .ok (.aload 4, 2) := by decide +kernel
theorem d_H_pair_70 : decode c_H_pair 70 = .ok (.aload_n 3, 1) := by decide +kernel
theorem d_H_pair_71 : decode c_H_pair 71 = .ok (.putfield 166, 3) := by decide +kernel
theorem d_H_pair_74 : decode c_H_pair 74 = .ok (.aload 4, 2) := by decide +kernel
theorem d_H_pair_76 : decode c_H_pair 76 = .ok (.iconst 1, 1) := by decide +kernel
theorem d_H_pair_77 : decode c_H_pair 77 = .ok (.putfield 176, 3) := by decide +kernel
theorem d_H_pair_80 : decode c_H_pair 80 = .ok (.aload_n 0, 1) := by decide +kernel
theorem d_H_pair_81 : decode c_H_pair 81 = .ok (.getfield 37, 3) := by decide +kernel
theorem d_H_pair_84 : decode c_H_pair 84 = .ok (.bipush 8, 2) := by decide +kernel
theorem d_H_pair_86 : decode c_H_pair 86 = .ok (.invokevirtual 180, 3) := by decide +kernel
theorem d_H_pair_89 : decode c_H_pair 89 = .ok (.ireturn, 1) := by decide +kernel
theorem d_H_part_0 : decode c_H_part 0 = .ok (.aload_n 0, 1) := by decide +kernel
theorem d_H_part_1 : decode c_H_part 1 = .ok (.iload_n 1, 1) := by decide +kernel
theorem d_H_part_2 : decode c_H_part 2 = .ok (.invokevirtual 153, 3) := by decide +kernel
theorem d_H_part_5 : decode c_H_part 5 = .ok (.astore_n 2, 1) := by decide +kernel
theorem d_H_part_6 : decode c_H_part 6 = .ok (.aload_n 2, 1) := by decide +kernel
theorem d_H_part_7 : decode c_H_part 7 = .ok (.getfield 166, 3) := by decide +kernel
theorem d_H_part_10 : decode c_H_part 10 = .ok (.astore_n 3, 1) := by decide +kernel
theorem d_H_part_11 : decode c_H_part 11 = .ok (.aload_n 3, 1) := by decide +kernel
theorem d_H_part_12 : decode c_H_part 12 = .ok (.ifnonnull 13, 3) := by decide +kernel
theorem d_H_part_15 : decode c_H_part 15 = .ok (.new 66, 3) := by decide +kernel
theorem d_H_part_18 : decode c_H_part 18 = .ok (.dup, 1) := by decide +kernel
theorem d_H_part_19 : decode c_H_part 19 = .ok (.ldc 183, 2) := by decide +kernel
theorem d_H_part_21 : decode c_H_part 21 = .ok (.invokespecial 70, 3) := by decide +kernel
theorem d_H_part_24 : decode c_H_part 24 = .ok (.athrow, 1) := by decide +kernel
theorem d_H_part_25 : decode c_H_part 25 = .ok (.aload_n 2, 1) := by decide +kernel
theorem d_H_part_26 : decode c_H_part 26 = .ok (.invokevirtual 185, 3) := by decide +kernel
theorem d_H_part_29 : decode c_H_part 29 = .ok (.aload_n 3, 1) := by decide +kernel
theorem d_H_part_30 : decode c_H_part 30 = .ok (.invokevirtual 185, 3) := by decide +kernel
theorem d_H_part_33 : decode c_H_part 33 = .ok (.aload_n 3, 1) := by decide +kernel
theorem d_H_part_34 : decode c_H_part 34 = .ok (.getfield 150, 3) := by decide +kernel
theorem d_H_part_37 : decode c_H_part 37 = .ok (.ireturn, 1) := by decide +kernel
theorem d_H_wind_0 : decode c_H_wind 0 = .ok (.aload_n 0, 1) := by decide +kernel
theorem d_H_wind_1 : decode c_H_wind 1 = .ok (.iload_n 1, 1) := by decide +kernel
theorem d_H_wind_2 : decode c_H_wind 2 = .ok (.invokevirtual 153, 3) := by decide +kernel
theorem d_H_wind_5 : decode c_H_wind 5 = .ok (.astore_n 3, 1) := by decide +kernel
theorem d_H_wind_6 : decode c_H_wind 6 = .ok (.iload_n 2, 1) := by decide +kernel
theorem d_H_wind_7 : decode c_H_wind 7 = .ok (.sipush (-200), 3) := by decide +kernel
theorem d_H_wind_10 : decode c_H_wind 10 = .ok (.if_icmp .lt 10, 3) := by decide +kernel
theorem d_H_wind_13 : decode c_H_wind 13 = .ok (.iload_n 2, 1) := by decide +kernel
theorem d_H_wind_14 : decode c_H_wind 14 = .ok (.sipush 200, 3) := by decide +kernel
theorem d_H_wind_17 : decode c_H_wind 17 = .ok (.if_icmp .le 13, 3) := by decide +kernel
theorem d_H_wind_20 : decode c_H_wind 20 = .ok (.new 81, 3) := by decide +kernel
theorem d_H_wind_23 : decode c_H_wind 23 = .ok (.dup, 1) := by decide +kernel
theorem d_H_wind_24 : decode c_H_wind 24 = .ok (.ldc 188, 2) := by decide +kernel
theorem d_H_wind_26 : decode c_H_wind 26 = .ok (.invokespecial 85, 3) := by decide +kernel
theorem d_H_wind_29 : decode c_H_wind 29 = .ok (.athrow, 1) := by decide +kernel
theorem d_H_wind_30 : decode c_H_wind 30 = .ok (.aload_n 3, 1) := by decide +kernel
theorem d_H_wind_31 : decode c_H_wind 31 = .ok (.iload_n 2, 1) := by decide +kernel
theorem d_H_wind_32 : decode c_H_wind 32 = .ok (.invokevirtual 190, 3) := by decide +kernel
theorem d_H_wind_35 : decode c_H_wind 35 = .ok (.aload_n 3, 1) := by decide +kernel
theorem d_H_wind_36 : decode c_H_wind 36 = .ok (.getfield 193, 3) := by decide +kernel
theorem d_H_wind_39 : decode c_H_wind 39 = .ok (.ireturn, 1) := by decide +kernel
theorem d_H_dancer_0 : decode c_H_dancer 0 = .ok (.aload_n 0, 1) := by decide +kernel
theorem d_H_dancer_1 : decode c_H_dancer 1 = .ok (.iload_n 1, 1) := by decide +kernel
theorem d_H_dancer_2 : decode c_H_dancer 2 = .ok (.invokevirtual 153, 3) := by decide +kernel
theorem d_H_dancer_5 : decode c_H_dancer 5 = .ok (.astore_n 3, 1) := by decide +kernel
theorem d_H_dancer_6 : decode c_H_dancer 6 = .ok (.iload_n 2, 1) := by decide +kernel
theorem d_H_dancer_7 : decode c_H_dancer 7 = .ok (.bipush 12, 2) := by decide +kernel
theorem d_H_dancer_9 : decode c_H_dancer 9 = .ok (.invokestatic 108, 3) := by decide +kernel
theorem d_H_dancer_12 : decode c_H_dancer 12 = .ok (.aload_n 3, 1) := by decide +kernel
theorem d_H_dancer_13 : decode c_H_dancer 13 = .ok (.iload_n 2, 1) := by decide +kernel
theorem d_H_dancer_14 : decode c_H_dancer 14 = .ok (.invokevirtual 196, 3) := by decide +kernel
theorem d_H_dancer_17 : decode c_H_dancer 17 = .ok (.ireturn, 1) := by decide +kernel
theorem d_H_at_0 : decode c_H_at 0 = .ok (.iload_n 1, 1) := by decide +kernel
theorem d_H_at_1 : decode c_H_at 1 = .ok (.iload_n 2, 1) := by decide +kernel
theorem d_H_at_2 : decode c_H_at 2 = .ok (.invokestatic 115, 3) := by decide +kernel
theorem d_H_at_5 : decode c_H_at 5 = .ok (.ifCond .ne 13, 3) := by decide +kernel
theorem d_H_at_8 : decode c_H_at 8 = .ok (.new 99, 3) := by decide +kernel
theorem d_H_at_11 : decode c_H_at 11 = .ok (.dup, 1) := by decide +kernel
theorem d_H_at_12 : decode c_H_at 12 = .ok (.ldc 199, 2) := by decide +kernel
theorem d_H_at_14 : decode c_H_at 14 = .ok (.invokespecial 103, 3) := by decide +kernel
theorem d_H_at_17 : decode c_H_at 17 = .ok (.athrow, 1) := by decide +kernel
theorem d_H_at_18 : decode c_H_at 18 = .ok (.aload_n 0, 1) := by decide +kernel
theorem d_H_at_19 : decode c_H_at 19 = .ok (.getfield 37, 3) := by decide +kernel
theorem d_H_at_22 : decode c_H_at 22 = .ok (.iload_n 1, 1) := by decide +kernel
theorem d_H_at_23 : decode c_H_at 23 = .ok (.iload_n 2, 1) := by decide +kernel
theorem d_H_at_24 : decode c_H_at 24 = .ok (.invokevirtual 127, 3) := by decide +kernel
theorem d_H_at_27 : decode c_H_at 27 = .ok (.astore_n 3, 1) := by decide +kernel
theorem d_H_at_28 : decode c_H_at 28 = .ok (.aload_n 3, 1) := by decide +kernel
theorem d_H_at_29 : decode c_H_at 29 = .ok (.ifnonnull 7, 3) := by decide +kernel
theorem d_H_at_32 : decode c_H_at 32 = .ok (.iconst (-1), 1) := by decide +kernel
theorem d_H_at_33 : decode c_H_at 33 = .ok (.goto 7, 3) := by decide +kernel
theorem d_H_at_36 : decode c_H_at 36 = .ok (.aload_n 3, 1) := by decide +kernel
theorem d_H_at_37 : decode c_H_at 37 = .ok (.getfield 150, 3) := by decide +kernel
theorem d_H_at_40 : decode c_H_at 40 = .ok (.ireturn, 1) := by decide +kernel
theorem d_H_addWinder_0 : decode c_H_addWinder 0 = .ok (.iload_n 1, 1) := by decide +kernel
theorem d_H_addWinder_1 : decode c_H_addWinder 1 = .ok (.iload_n 2, 1) := by decide +kernel
theorem d_H_addWinder_2 : decode c_H_addWinder 2 = .ok (.invokestatic 115, 3) := by decide +kernel
theorem d_H_addWinder_5 : decode c_H_addWinder 5 = .ok (.ifCond .eq 14, 3) := by decide +kernel
theorem d_H_addWinder_8 : decode c_H_addWinder 8 = .ok (.iload_n 3, 1) := by decide +kernel
theorem d_H_addWinder_9 : decode c_H_addWinder 9 = .ok (.iconst 1, 1) := by decide +kernel
theorem d_H_addWinder_10 : decode c_H_addWinder 10 = .ok (.if_icmp .lt 9, 3) := by decide +kernel
theorem d_H_addWinder_13 : decode c_H_addWinder 13 = .ok (.iload_n 3, 1) := by decide +kernel
theorem d_H_addWinder_14 : decode c_H_addWinder 14 = .ok (.bipush 100, 2) := by decide +kernel
theorem d_H_addWinder_16 : decode c_H_addWinder 16 = .ok (.if_icmp .le 13, 3) := by decide +kernel
theorem d_H_addWinder_19 : decode c_H_addWinder 19 = .ok (.new 81, 3) := by decide +kernel
theorem d_H_addWinder_22 : decode c_H_addWinder 22 = .ok (.dup, 1) := by decide +kernel
theorem d_H_addWinder_23 : decode c_H_addWinder 23 = .ok (.ldc 201, 2) := by decide +kernel
theorem d_H_addWinder_25 : decode c_H_addWinder 25 = .ok (.invokespecial 85, 3) := by decide +kernel
theorem d_H_addWinder_28 : decode c_H_addWinder 28 = .ok (.athrow, 1) := by decide +kernel
theorem d_H_addWinder_29 : decode c_H_addWinder 29 = .ok (.aload_n 0, 1) := by decide +kernel
theorem d_H_addWinder_30 : decode c_H_addWinder 30 = .ok (.getfield 37, 3) := by decide +kernel
theorem d_H_addWinder_33 : decode c_H_addWinder 33 = .ok (.getfield 203, 3) := by decide +kernel
theorem d_H_addWinder_36 : decode c_H_addWinder 36 = .ok (.invokevirtual 124, 3) := by decide +kernel
theorem d_H_addWinder_39 : decode c_H_addWinder 39 = .ok (.istore 4, 2) := by decide +kernel
theorem d_H_addWinder_41 : decode c_H_addWinder 41 = .ok (.iload 4, 2) := by decide +kernel
theorem d_H_addWinder_43 : decode c_H_addWinder 43 = .ok (.iconst 3, 1) := by decide +kernel
theorem d_H_addWinder_44 : decode c_H_addWinder 44 = .ok (.if_icmp .lt 13, 3) := by decide +kernel
theorem d_H_addWinder_47 : decode c_H_addWinder 47 = .ok (.new 66, 3) := by decide +kernel
theorem d_H_addWinder_50 : decode c_H_addWinder 50 = .ok (.dup, 1) := by decide +kernel
theorem d_H_addWinder_51 : decode c_H_addWinder 51 = .ok (.ldc 206, 2) := by decide +kernel
theorem d_H_addWinder_53 : decode c_H_addWinder 53 = .ok (.invokespecial 70, 3) := by decide +kernel
theorem d_H_addWinder_56 : decode c_H_addWinder 56 = .ok (.athrow, 1) := by decide +kernel
theorem d_H_addWinder_57 : decode c_H_addWinder 57 = .ok (.new 208, 3) := by decide +kernel
theorem d_H_addWinder_60 : decode c_H_addWinder 60 = .ok (.dup, 1) := by decide +kernel
theorem d_H_addWinder_61 : decode c_H_addWinder 61 = .ok (.invokespecial 210, 3) := by decide +kernel
theorem d_H_addWinder_64 : decode c_H_addWinder 64 = .ok (.astore 5, 2) := by decide +kernel
theorem d_H_addWinder_66 : decode c_H_addWinder 66 = .ok (.aload 5, 2) := by decide +kernel
theorem d_H_addWinder_68 : decode c_H_addWinder 68 = .ok (.iload_n 1, 1) := by decide +kernel
theorem d_H_addWinder_69 : decode c_H_addWinder 69 = .ok (.putfield 211, 3) := by decide +kernel
theorem d_H_addWinder_72 : decode c_H_addWinder 72 = .ok (.aload 5, 2) := by decide +kernel
theorem d_H_addWinder_74 : decode c_H_addWinder 74 = .ok (.iload_n 2, 1) := by decide +kernel
theorem d_H_addWinder_75 : decode c_H_addWinder 75 = .ok (.putfield 212, 3) := by decide +kernel
theorem d_H_addWinder_78 : decode c_H_addWinder 78 = .ok (.aload 5, 2) := by decide +kernel
theorem d_H_addWinder_80 : decode c_H_addWinder 80 = .ok (.iload_n 3, 1) := by decide +kernel
theorem d_H_addWinder_81 : decode c_H_addWinder 81 = .ok (.putfield 213, 3) := by decide +kernel
theorem d_H_addWinder_84 : decode c_H_addWinder 84 = .ok (.aload_n 0, 1) := by decide +kernel
theorem d_H_addWinder_85 : decode c_H_addWinder 85 = .ok (.getfield 37, 3) := by decide +kernel
theorem d_H_addWinder_88 : decode c_H_addWinder 88 = .ok (.getfield 203, 3) := by decide +kernel
theorem d_H_addWinder_91 : decode c_H_addWinder 91 = .ok (.aload 5, 2) := by decide +kernel
theorem d_H_addWinder_93 : decode c_H_addWinder 93 = .ok (.invokevirtual 44, 3) := by decide +kernel
theorem d_H_addWinder_96 : decode c_H_addWinder 96 = .ok (.pop, 1) := by decide +kernel
theorem d_H_addWinder_97 : decode c_H_addWinder 97 = .ok (.iload 4, 2) := by decide +kernel
theorem d_H_addWinder_99 : decode c_H_addWinder 99 = .ok (.ireturn, 1) := by decide +kernel
theorem d_H_call_0 : decode c_H_call 0 = .ok (.aload_n 0, 1) := by decide +kernel
theorem d_H_call_1 : decode c_H_call 1 = .ok (.iload_n 1, 1) := by decide +kernel
theorem d_H_call_2 : decode c_H_call 2 = .ok (.invokevirtual 216, 3) := by decide +kernel
theorem d_H_call_5 : decode c_H_call 5 = .ok (.astore_n 3, 1) := by decide +kernel
theorem d_H_call_6 : decode c_H_call 6 = .ok (.aload_n 0, 1) := by decide +kernel
theorem d_H_call_7 : decode c_H_call 7 = .ok (.iload_n 2, 1) := by decide +kernel
theorem d_H_call_8 : decode c_H_call 8 = .ok (.invokevirtual 153, 3) := by decide +kernel
theorem d_H_call_11 : decode c_H_call 11 = .ok (.astore 4, 2) := by decide +kernel
theorem d_H_call_13 : decode c_H_call 13 = .ok (.aload_n 3, 1) := by decide +kernel
theorem d_H_call_14 : decode c_H_call 14 = .ok (.getfield 220, 3) := by decide +kernel
theorem d_H_call_17 : decode c_H_call 17 = .ok (.bipush 8, 2) := by decide +kernel
theorem d_H_call_19 : decode c_H_call 19 = .ok (.if_icmp .lt 13, 3) := by decide +kernel
theorem d_H_call_22 : decode c_H_call 22 = .ok (.new 66, 3) := by decide +kernel
theorem d_H_call_25 : decode c_H_call 25 = .ok (.dup, 1) := by decide +kernel
theorem d_H_call_26 : decode c_H_call 26 = .ok (.ldc 223, 2) := by decide +kernel
theorem d_H_call_28 : decode c_H_call 28 = .ok (.invokespecial 70, 3) := by decide +kernel
theorem d_H_call_31 : decode c_H_call 31 = .ok (.athrow, 1) := by decide +kernel
theorem d_H_call_32 : decode c_H_call 32 = .ok (.aload_n 3, 1) := by decide +kernel
theorem d_H_call_33 : decode c_H_call 33 = .ok (.aload 4, 2) := by decide +kernel
theorem d_H_call_35 : decode c_H_call 35 = .ok (.getfield 150, 3) := by decide +kernel
theorem d_H_call_38 : decode c_H_call 38 = .ok (.invokevirtual 225, 3) := by decide +kernel
theorem d_H_call_41 : decode c_H_call 41 = .ok (.aload_n 3, 1) := by decide +kernel
theorem d_H_call_42 : decode c_H_call 42 = .ok (.getfield 220, 3) := by decide +kernel
theorem d_H_call_45 : decode c_H_call 45 = .ok (.ireturn, 1) := by decide +kernel
theorem d_H_winder_0 : decode c_H_winder 0 = .ok (.aload_n 0, 1) := by decide +kernel
theorem d_H_winder_1 : decode c_H_winder 1 = .ok (.iload_n 1, 1) := by decide +kernel
theorem d_H_winder_2 : decode c_H_winder 2 = .ok (.invokevirtual 216, 3) := by decide +kernel
theorem d_H_winder_5 : decode c_H_winder 5 = .ok (.astore_n 3, 1) := by decide +kernel
theorem d_H_winder_6 : decode c_H_winder 6 = .ok (.iload_n 2, 1) := by decide +kernel
theorem d_H_winder_7 : decode c_H_winder 7 = .ok (.bipush 6, 2) := by decide +kernel
theorem d_H_winder_9 : decode c_H_winder 9 = .ok (.invokestatic 108, 3) := by decide +kernel
theorem d_H_winder_12 : decode c_H_winder 12 = .ok (.aload_n 3, 1) := by decide +kernel
theorem d_H_winder_13 : decode c_H_winder 13 = .ok (.iload_n 2, 1) := by decide +kernel
theorem d_H_winder_14 : decode c_H_winder 14 = .ok (.invokevirtual 228, 3) := by decide +kernel
theorem d_H_winder_17 : decode c_H_winder 17 = .ok (.ireturn, 1) := by decide +kernel
theorem d_H_pass_0 : decode c_H_pass 0 = .ok (.iload_n 1, 1) := by decide +kernel
theorem d_H_pass_1 : decode c_H_pass 1 = .ok (.invokestatic 229, 3) := by decide +kernel
theorem d_H_pass_4 : decode c_H_pass 4 = .ok (.iconst 0, 1) := by decide +kernel
theorem d_H_pass_5 : decode c_H_pass 5 = .ok (.istore_n 2, 1) := by decide +kernel
theorem d_H_pass_6 : decode c_H_pass 6 = .ok (.iconst 0, 1) := by decide +kernel
theorem d_H_pass_7 : decode c_H_pass 7 = .ok (.istore_n 3, 1) := by decide +kernel
theorem d_H_pass_8 : decode c_H_pass 8 = .ok (.iload_n 3, 1) := by decide +kernel
theorem d_H_pass_9 : decode c_H_pass 9 = .ok (.iload_n 1, 1) := by decide +kernel
theorem d_H_pass_10 : decode c_H_pass 10 = .ok (.if_icmp .ge 19, 3) := by decide +kernel
theorem d_H_pass_13 : decode c_H_pass 13 = .ok (.iload_n 2, 1) := by decide +kernel
theorem d_H_pass_14 : decode c_H_pass 14 = .ok (.aload_n 0, 1) := by decide +kernel
theorem d_H_pass_15 : decode c_H_pass 15 = .ok (.getfield 37, 3) := by decide +kernel
theorem d_H_pass_18 : decode c_H_pass 18 = .ok (.invokevirtual 232, 3) := by decide +kernel
theorem d_H_pass_21 : decode c_H_pass 21 = .ok (.iadd, 1) := by decide +kernel
theorem d_H_pass_22 : decode c_H_pass 22 = .ok (.istore_n 2, 1) := by decide +kernel
theorem d_H_pass_23 : decode c_H_pass 23 = .ok (.iinc 3 1, 3) := by decide +kernel
theorem d_H_pass_26 : decode c_H_pass 26 = .ok (.goto (-18), 3) := by decide +kernel
theorem d_H_pass_29 : decode c_H_pass 29 = .ok (.iload_n 2, 1) := by decide +kernel
theorem d_H_pass_30 : decode c_H_pass 30 = .ok (.ireturn, 1) := by decide +kernel
theorem d_H_count_0 : decode c_H_count 0 = .ok (.iload_n 1, 1) := by decide +kernel
theorem d_H_count_1 : decode c_H_count 1 = .ok (.bipush 9, 2) := by decide +kernel
theorem d_H_count_3 : decode c_H_count 3 = .ok (.invokestatic 108, 3) := by decide +kernel
theorem d_H_count_6 : decode c_H_count 6 = .ok (.aload_n 0, 1) := by decide +kernel
theorem d_H_count_7 : decode c_H_count 7 = .ok (.getfield 37, 3) := by decide +kernel
theorem d_H_count_10 : decode c_H_count 10 = .ok (.iload_n 1, 1) := by decide +kernel
theorem d_H_count_11 : decode c_H_count 11 = .ok (.invokevirtual 235, 3) := by decide +kernel
theorem d_H_count_14 : decode c_H_count 14 = .ok (.ireturn, 1) := by decide +kernel
theorem d_H_foresee_0 : decode c_H_foresee 0 = .ok (.aload_n 0, 1) := by decide +kernel
theorem d_H_foresee_1 : decode c_H_foresee 1 = .ok (.iload_n 1, 1) := by decide +kernel
theorem d_H_foresee_2 : decode c_H_foresee 2 = .ok (.invokevirtual 153, 3) := by decide +kernel
theorem d_H_foresee_5 : decode c_H_foresee 5 = .ok (.astore 4, 2) := by decide +kernel
theorem d_H_foresee_7 : decode c_H_foresee 7 = .ok (.iload_n 3, 1) := by decide +kernel
theorem d_H_foresee_8 : decode c_H_foresee 8 = .ok (.iconst 5, 1) := by decide +kernel
theorem d_H_foresee_9 : decode c_H_foresee 9 = .ok (.invokestatic 108, 3) := by decide +kernel
theorem d_H_foresee_12 : decode c_H_foresee 12 = .ok (.iload_n 2, 1) := by decide +kernel
theorem d_H_foresee_13 : decode c_H_foresee 13 = .ok (.invokestatic 229, 3) := by decide +kernel
theorem d_H_foresee_16 : decode c_H_foresee 16 = .ok (.aload_n 0, 1) := by decide +kernel
theorem d_H_foresee_17 : decode c_H_foresee 17 = .ok (.getfield 41, 3) := by decide +kernel
theorem d_H_foresee_20 : decode c_H_foresee 20 = .ok (.aload_n 0, 1) := by decide +kernel
theorem d_H_foresee_21 : decode c_H_foresee 21 = .ok (.getfield 37, 3) := by decide +kernel
theorem d_H_foresee_24 : decode c_H_foresee 24 = .ok (.invokevirtual 238, 3) := by decide +kernel
theorem d_H_foresee_27 : decode c_H_foresee 27 = .ok (.iconst 0, 1) := by decide +kernel
theorem d_H_foresee_28 : decode c_H_foresee 28 = .ok (.istore 5, 2) := by decide +kernel
theorem d_H_foresee_30 : decode c_H_foresee 30 = .ok (.iload 5, 2) := by decide +kernel
theorem d_H_foresee_32 : decode c_H_foresee 32 = .ok (.iload_n 2, 1) := by decide +kernel
theorem d_H_foresee_33 : decode c_H_foresee 33 = .ok (.if_icmp .ge 17, 3) := by decide +kernel
theorem d_H_foresee_36 : decode c_H_foresee 36 = .ok (.aload_n 0, 1) := by decide +kernel
theorem d_H_foresee_37 : decode c_H_foresee 37 = .ok (.getfield 41, 3) := by decide +kernel
theorem d_H_foresee_40 : decode c_H_foresee 40 = .ok (.invokevirtual 232, 3) := by decide +kernel
theorem d_H_foresee_43 : decode c_H_foresee 43 = .ok (.pop, 1) := by decide +kernel
theorem d_H_foresee_44 : decode c_H_foresee 44 = .ok (.iinc 5 1, 3) := by decide +kernel
theorem d_H_foresee_47 : decode c_H_foresee 47 = .ok (.goto (-17), 3) := by decide +kernel
theorem d_H_foresee_50 : decode c_H_foresee 50 = .ok (.aload_n 0, 1) := by decide +kernel
theorem d_H_foresee_51 : decode c_H_foresee 51 = .ok (.getfield 41, 3) := by decide +kernel
theorem d_H_foresee_54 : decode c_H_foresee 54 = .ok (.iload_n 1, 1) := by decide +kernel
theorem d_H_foresee_55 : decode c_H_foresee 55 = .ok (.invokevirtual 242, 3) := by decide +kernel
theorem d_H_foresee_58 : decode c_H_foresee 58 = .ok (.astore 5, 2) := by decide +kernel
theorem d_H_foresee_60 : decode c_H_foresee 60 = .ok (.aload 5, 2) := by decide +kernel
theorem d_H_foresee_62 : decode c_H_foresee 62 = .ok (.ifnonnull 5, 3) := by decide +kernel
theorem d_H_foresee_65 : decode c_H_foresee 65 = .ok (.iconst (-1), 1) := by decide +kernel
theorem d_H_foresee_66 : decode c_H_foresee 66 = .ok (.ireturn, 1) := by decide +kernel
theorem d_H_foresee_67 : decode c_H_foresee 67 = .ok (.iload_n 3, 1) := by decide +kernel
theorem d_H_foresee_68 : decode c_H_foresee 68 = .ok (.iconst 4, 1) := by decide +kernel
theorem d_H_foresee_69 : decode c_H_foresee 69 = .ok (.if_icmp .ne 17, 3) := by decide +kernel
theorem d_H_foresee_72 : decode c_H_foresee 72 = .ok (.aload 5, 2) := by decide +kernel
theorem d_H_foresee_74 : decode c_H_foresee 74 = .ok (.getfield 245, 3) := by decide +kernel
theorem d_H_foresee_77 : decode c_H_foresee 77 = .ok (.aload 4, 2) := by decide +kernel
theorem d_H_foresee_79 : decode c_H_foresee 79 = .ok (.getfield 245, 3) := by decide +kernel
theorem d_H_foresee_82 : decode c_H_foresee 82 = .ok (.isub, 1) := by decide +kernel
theorem d_H_foresee_83 : decode c_H_foresee 83 = .ok (.goto 9, 3) := by decide +kernel
theorem d_H_foresee_86 : decode c_H_foresee 86 = .ok (.aload 5, 2) := by decide +kernel
theorem d_H_foresee_88 : decode c_H_foresee 88 = .ok (.iload_n 3, 1) := by decide +kernel
theorem d_H_foresee_89 : decode c_H_foresee 89 = .ok (.invokevirtual 196, 3) := by decide +kernel
theorem d_H_foresee_92 : decode c_H_foresee 92 = .ok (.ireturn, 1) := by decide +kernel
theorem d_H_firstToStop_0 : decode c_H_firstToStop 0 = .ok (.iload_n 1, 1) := by decide +kernel
theorem d_H_firstToStop_1 : decode c_H_firstToStop 1 = .ok (.invokestatic 229, 3) := by decide +kernel
theorem d_H_firstToStop_4 : decode c_H_firstToStop 4 = .ok (.aload_n 0, 1) := by decide +kernel
theorem d_H_firstToStop_5 : decode c_H_firstToStop 5 = .ok (.getfield 41, 3) := by decide +kernel
theorem d_H_firstToStop_8 : decode c_H_firstToStop 8 = .ok (.aload_n 0, 1) := by decide +kernel
theorem d_H_firstToStop_9 : decode c_H_firstToStop 9 = .ok (.getfield 37, 3) := by decide +kernel
theorem d_H_firstToStop_12 : decode c_H_firstToStop 12 = .ok (.invokevirtual 238, 3) := by decide +kernel
theorem d_H_firstToStop_15 : decode c_H_firstToStop 15 = .ok (.iconst 0, 1) := by decide +kernel
theorem d_H_firstToStop_16 : decode c_H_firstToStop 16 = .ok (.istore_n 2, 1) := by decide +kernel
theorem d_H_firstToStop_17 : decode c_H_firstToStop 17 = .ok (.iload_n 2, 1) := by decide +kernel
theorem d_H_firstToStop_18 : decode c_H_firstToStop 18 = .ok (.iload_n 1, 1) := by decide +kernel
theorem d_H_firstToStop_19 : decode c_H_firstToStop 19 = .ok (.if_icmp .ge 35, 3) := by decide +kernel
theorem d_H_firstToStop_22 : decode c_H_firstToStop 22 = .ok (.aload_n 0, 1) := by decide +kernel
theorem d_H_firstToStop_23 : decode c_H_firstToStop 23 = .ok (.getfield 41, 3) := by decide +kernel
theorem d_H_firstToStop_26 : decode c_H_firstToStop 26 = .ok (.invokevirtual 232, 3) := by decide +kernel
theorem d_H_firstToStop_29 : decode c_H_firstToStop 29 = .ok (.pop, 1) := by decide +kernel
theorem d_H_firstToStop_30 : decode c_H_firstToStop 30 = .ok (.aload_n 0, 1) := by decide +kernel
theorem d_H_firstToStop_31 : decode c_H_firstToStop 31 = .ok (.getfield 41, 3) := by decide +kernel
theorem d_H_firstToStop_34 : decode c_H_firstToStop 34 = .ok (.aload_n 0, 1) := by decide +kernel
theorem d_H_firstToStop_35 : decode c_H_firstToStop 35 = .ok (.getfield 37, 3) := by decide +kernel
theorem d_H_firstToStop_38 : decode c_H_firstToStop 38 = .ok (.invokevirtual 248, 3) := by decide +kernel
theorem d_H_firstToStop_41 : decode c_H_firstToStop 41 = .ok (.istore_n 3, 1) := by decide +kernel
theorem d_H_firstToStop_42 : decode c_H_firstToStop 42 = .ok (.iload_n 3, 1) := by decide +kernel
theorem d_H_firstToStop_43 : decode c_H_firstToStop 43 = .ok (.ifCond .lt 5, 3) := by decide +kernel
theorem d_H_firstToStop_46 : decode c_H_firstToStop 46 = .ok (.iload_n 3, 1) := by decide +kernel
theorem d_H_firstToStop_47 : decode c_H_firstToStop 47 = .ok (.ireturn, 1) := by decide +kernel
theorem d_H_firstToStop_48 : decode c_H_firstToStop 48 = .ok (.iinc 2 1, 3) := by decide +kernel
theorem d_H_firstToStop_51 : decode c_H_firstToStop 51 = .ok (.goto (-34), 3) := by decide +kernel
theorem d_H_firstToStop_54 : decode c_H_firstToStop 54 = .ok (.iconst (-1), 1) := by decide +kernel
theorem d_H_firstToStop_55 : decode c_H_firstToStop 55 = .ok (.ireturn, 1) := by decide +kernel
theorem d_H_meet_0 : decode c_H_meet 0 = .ok (.aload_n 0, 1) := by decide +kernel
theorem d_H_meet_1 : decode c_H_meet 1 = .ok (.iload_n 1, 1) := by decide +kernel
theorem d_H_meet_2 : decode c_H_meet 2 = .ok (.invokevirtual 153, 3) := by decide +kernel
theorem d_H_meet_5 : decode c_H_meet 5 = .ok (.pop, 1) := by decide +kernel
theorem d_H_meet_6 : decode c_H_meet 6 = .ok (.aload_n 0, 1) := by decide +kernel
theorem d_H_meet_7 : decode c_H_meet 7 = .ok (.iload_n 2, 1) := by decide +kernel
theorem d_H_meet_8 : decode c_H_meet 8 = .ok (.invokevirtual 153, 3) := by decide +kernel
theorem d_H_meet_11 : decode c_H_meet 11 = .ok (.pop, 1) := by decide +kernel
theorem d_H_meet_12 : decode c_H_meet 12 = .ok (.iload_n 1, 1) := by decide +kernel
theorem d_H_meet_13 : decode c_H_meet 13 = .ok (.iload_n 2, 1) := by decide +kernel
theorem d_H_meet_14 : decode c_H_meet 14 = .ok (.if_icmp .ne 13, 3) := by decide +kernel
theorem d_H_meet_17 : decode c_H_meet 17 = .ok (.new 81, 3) := by decide +kernel
theorem d_H_meet_20 : decode c_H_meet 20 = .ok (.dup, 1) := by decide +kernel
theorem d_H_meet_21 : decode c_H_meet 21 = .ok (.ldc 252, 2) := by decide +kernel
theorem d_H_meet_23 : decode c_H_meet 23 = .ok (.invokespecial 85, 3) := by decide +kernel
theorem d_H_meet_26 : decode c_H_meet 26 = .ok (.athrow, 1) := by decide +kernel
theorem d_H_meet_27 : decode c_H_meet 27 = .ok (.iload_n 3, 1) := by decide +kernel
theorem d_H_meet_28 : decode c_H_meet 28 = .ok (.invokestatic 229, 3) := by decide +kernel
theorem d_H_meet_31 : decode c_H_meet 31 = .ok (.aload_n 0, 1) := by decide +kernel
theorem d_H_meet_32 : decode c_H_meet 32 = .ok (.getfield 41, 3) := by decide +kernel
theorem d_H_meet_35 : decode c_H_meet 35 = .ok (.aload_n 0, 1) := by decide +kernel
theorem d_H_meet_36 : decode c_H_meet 36 = .ok (.getfield 37, 3) := by decide +kernel
theorem d_H_meet_39 : decode c_H_meet 39 = .ok (.invokevirtual 238, 3) := by decide +kernel
theorem d_H_meet_42 : decode c_H_meet 42 = .ok (.aload_n 0, 1) := by decide +kernel
theorem d_H_meet_43 : decode c_H_meet 43 = .ok (.getfield 41, 3) := by decide +kernel
theorem d_H_meet_46 : decode c_H_meet 46 = .ok (.iload_n 1, 1) := by decide +kernel
theorem d_H_meet_47 : decode c_H_meet 47 = .ok (.iload_n 2, 1) := by decide +kernel
theorem d_H_meet_48 : decode c_H_meet 48 = .ok (.invokevirtual 254, 3) := by decide +kernel
theorem d_H_meet_51 : decode c_H_meet 51 = .ok (.ifCond .eq 5, 3) := by decide +kernel
theorem d_H_meet_54 : decode c_H_meet 54 = .ok (.iconst 0, 1) := by decide +kernel
theorem d_H_meet_55 : decode c_H_meet 55 = .ok (.ireturn, 1) := by decide +kernel
theorem d_H_meet_56 : decode c_H_meet 56 = .ok (.iconst 1, 1) := by decide +kernel
theorem d_H_meet_57 : decode c_H_meet 57 = .ok (.istore 4, 2) := by decide +kernel
theorem d_H_meet_59 : decode c_H_meet 59 = .ok (.iload 4, 2) := by decide +kernel
theorem d_H_meet_61 : decode c_H_meet 61 = .ok (.iload_n 3, 1) := by decide +kernel
theorem d_H_meet_62 : decode c_H_meet 62 = .ok (.if_icmp .gt 32, 3) := by decide +kernel
theorem d_H_meet_65 : decode c_H_meet 65 = .ok (.aload_n 0, 1) := by decide +kernel
theorem d_H_meet_66 : decode c_H_meet 66 = .ok (.getfield 41, 3) := by decide +kernel
theorem d_H_meet_69 : decode c_H_meet 69 = .ok (.invokevirtual 232, 3) := by decide +kernel
theorem d_H_meet_72 : decode c_H_meet 72 = .ok (.pop, 1) := by decide +kernel
theorem d_H_meet_73 : decode c_H_meet 73 = .ok (.aload_n 0, 1) := by decide +kernel
theorem d_H_meet_74 : decode c_H_meet 74 = .ok (.getfield 41, 3) := by decide +kernel
theorem d_H_meet_77 : decode c_H_meet 77 = .ok (.iload_n 1, 1) := by decide +kernel
theorem d_H_meet_78 : decode c_H_meet 78 = .ok (.iload_n 2, 1) := by decide +kernel
theorem d_H_meet_79 : decode c_H_meet 79 = .ok (.invokevirtual 254, 3) := by decide +kernel
theorem d_H_meet_82 : decode c_H_meet 82 = .ok (.ifCond .eq 6, 3) := by decide +kernel
theorem d_H_meet_85 : decode c_H_meet 85 = .ok (.iload 4, 2) := by decide +kernel
theorem d_H_meet_87 : decode c_H_meet 87 = .ok (.ireturn, 1) := by decide +kernel
theorem d_H_meet_88 : decode c_H_meet 88 = .ok (.iinc 4 1, 3) := by decide +kernel
theorem d_H_meet_91 : decode c_H_meet 91 = .ok (.goto (-32), 3) := by decide +kernel
theorem d_H_meet_94 : decode c_H_meet 94 = .ok (.iconst (-1), 1) := by decide +kernel
theorem d_H_meet_95 : decode c_H_meet 95 = .ok (.ireturn, 1) := by decide +kernel
theorem d_H_tension_0 : decode c_H_tension 0 = .ok (.aload_n 0, 1) := by decide +kernel
theorem d_H_tension_1 : decode c_H_tension 1 = .ok (.getfield 37, 3) := by decide +kernel
theorem d_H_tension_4 : decode c_H_tension 4 = .ok (.getfield 121, 3) := by decide +kernel
theorem d_H_tension_7 : decode c_H_tension 7 = .ok (.invokevirtual 124, 3) := by decide +kernel
theorem d_H_tension_10 : decode c_H_tension 10 = .ok (.istore_n 1, 1) := by decide +kernel
theorem d_H_tension_11 : decode c_H_tension 11 = .ok (.iload_n 1, 1) := by decide +kernel
theorem d_H_tension_12 : decode c_H_tension 12 = .ok (.ifCond .ne 7, 3) := by decide +kernel
theorem d_H_tension_15 : decode c_H_tension 15 = .ok (.dconst 0, 1) := by decide +kernel
theorem d_H_tension_16 : decode c_H_tension 16 = .ok (.goto 15, 3) := by decide +kernel
theorem d_H_tension_19 : decode c_H_tension 19 = .ok (.aload_n 0, 1) := by decide +kernel
theorem d_H_tension_20 : decode c_H_tension 20 = .ok (.getfield 37, 3) := by decide +kernel
theorem d_H_tension_23 : decode c_H_tension 23 = .ok (.iconst 3, 1) := by decide +kernel
theorem d_H_tension_24 : decode c_H_tension 24 = .ok (.invokevirtual 180, 3) := by decide +kernel
theorem d_H_tension_27 : decode c_H_tension 27 = .ok (.i2d, 1) := by decide +kernel
theorem d_H_tension_28 : decode c_H_tension 28 = .ok (.iload_n 1, 1) := by decide +kernel
theorem d_H_tension_29 : decode c_H_tension 29 = .ok (.i2d, 1) := by decide +kernel
theorem d_H_tension_30 : decode c_H_tension 30 = .ok (.ddiv, 1) := by decide +kernel
theorem d_H_tension_31 : decode c_H_tension 31 = .ok (.dreturn, 1) := by decide +kernel
theorem d_H_digest_0 : decode c_H_digest 0 = .ok (.ldc2_w 257, 3) := by decide +kernel
theorem d_H_digest_3 : decode c_H_digest 3 = .ok (.lstore_n 1, 1) := by decide +kernel
theorem d_H_digest_4 : decode c_H_digest 4 = .ok (.iconst 0, 1) := by decide +kernel
theorem d_H_digest_5 : decode c_H_digest 5 = .ok (.istore_n 3, 1) := by decide +kernel
theorem d_H_digest_6 : decode c_H_digest 6 = .ok (.iload_n 3, 1) := by decide +kernel
theorem d_H_digest_7 : decode c_H_digest 7 = .ok (.bipush 9, 2) := by decide +kernel
theorem d_H_digest_9 : decode c_H_digest 9 = .ok (.if_icmp .ge 25, 3) := by decide +kernel
theorem d_H_digest_12 : decode c_H_digest 12 = .ok (.lload_n 1, 1) := by decide +kernel
theorem d_H_digest_13 : decode c_H_digest 13 = .ok (.ldc2_w 259, 3) := by decide +kernel
theorem d_H_digest_16 : decode c_H_digest 16 = .ok (.lmul, 1) := by decide +kernel
theorem d_H_digest_17 : decode c_H_digest 17 = .ok (.aload_n 0, 1) := by decide +kernel
theorem d_H_digest_18 : decode c_H_digest 18 = .ok (.getfield 37, 3) := by decide +kernel
theorem d_H_digest_21 : decode c_H_digest 21 = .ok (.iload_n 3, 1) := by decide +kernel
theorem d_H_digest_22 : decode c_H_digest 22 = .ok (.invokevirtual 235, 3) := by decide +kernel
theorem d_H_digest_25 : decode c_H_digest 25 = .ok (.i2l, 1) := by decide +kernel
theorem d_H_digest_26 : decode c_H_digest 26 = .ok (.ladd, 1) := by decide +kernel
theorem d_H_digest_27 : decode c_H_digest 27 = .ok (.lstore_n 1, 1) := by decide +kernel
theorem d_H_digest_28 : decode c_H_digest 28 = .ok (.iinc 3 1, 3) := by decide +kernel
theorem d_H_digest_31 : decode c_H_digest 31 = .ok (.goto (-25), 3) := by decide +kernel
theorem d_H_digest_34 : decode c_H_digest 34 = .ok (.iconst 0, 1) := by decide +kernel
theorem d_H_digest_35 : decode c_H_digest 35 = .ok (.istore_n 3, 1) := by decide +kernel
theorem d_H_digest_36 : decode c_H_digest 36 = .ok (.iload_n 3, 1) := by decide +kernel
theorem d_H_digest_37 : decode c_H_digest 37 = .ok (.aload_n 0, 1) := by decide +kernel
theorem d_H_digest_38 : decode c_H_digest 38 = .ok (.getfield 19, 3) := by decide +kernel
theorem d_H_digest_41 : decode c_H_digest 41 = .ok (.invokevirtual 124, 3) := by decide +kernel
theorem d_H_digest_44 : decode c_H_digest 44 = .ok (.if_icmp .ge 25, 3) := by decide +kernel
theorem d_H_digest_47 : decode c_H_digest 47 = .ok (.aload_n 0, 1) := by decide +kernel
theorem d_H_digest_48 : decode c_H_digest 48 = .ok (.getfield 19, 3) := by decide +kernel
theorem d_H_digest_51 : decode c_H_digest 51 = .ok (.iload_n 3, 1) := by decide +kernel
theorem d_H_digest_52 : decode c_H_digest 52 = .ok (.invokevirtual 261, 3) := by decide +kernel
theorem d_H_digest_55 : decode c_H_digest 55 = .ok (.checkcast 23, 3) := by decide +kernel
theorem d_H_digest_58 : decode c_H_digest 58 = .ok (.lload_n 1, 1) := by decide +kernel
theorem d_H_digest_59 : decode c_H_digest 59 = .ok (.invokevirtual 265, 3) := by decide +kernel
theorem d_H_digest_62 : decode c_H_digest 62 = .ok (.lstore_n 1, 1) := by decide +kernel
theorem d_H_digest_63 : decode c_H_digest 63 = .ok (.iinc 3 1, 3) := by decide +kernel
theorem d_H_digest_66 : decode c_H_digest 66 = .ok (.goto (-30), 3) := by decide +kernel
theorem d_H_digest_69 : decode c_H_digest 69 = .ok (.iconst 0, 1) := by decide +kernel
theorem d_H_digest_70 : decode c_H_digest 70 = .ok (.istore_n 3, 1) := by decide +kernel
theorem d_H_digest_71 : decode c_H_digest 71 = .ok (.iload_n 3, 1) := by decide +kernel
theorem d_H_digest_72 : decode c_H_digest 72 = .ok (.aload_n 0, 1) := by decide +kernel
theorem d_H_digest_73 : decode c_H_digest 73 = .ok (.getfield 37, 3) := by decide +kernel
theorem d_H_digest_76 : decode c_H_digest 76 = .ok (.getfield 121, 3) := by decide +kernel
theorem d_H_digest_79 : decode c_H_digest 79 = .ok (.invokevirtual 124, 3) := by decide +kernel
theorem d_H_digest_82 : decode c_H_digest 82 = .ok (.if_icmp .ge 52, 3) := by decide +kernel
theorem d_H_digest_85 : decode c_H_digest 85 = .ok (.iconst 0, 1) := by decide +kernel
theorem d_H_digest_86 : decode c_H_digest 86 = .ok (.istore 4, 2) := by decide +kernel
theorem d_H_digest_88 : decode c_H_digest 88 = .ok (.iload 4, 2) := by decide +kernel
theorem d_H_digest_90 : decode c_H_digest 90 = .ok (.bipush 12, 2) := by decide +kernel
theorem d_H_digest_92 : decode c_H_digest 92 = .ok (.if_icmp .ge 36, 3) := by decide +kernel
theorem d_H_digest_95 : decode c_H_digest 95 = .ok (.lload_n 1, 1) := by decide +kernel
theorem d_H_digest_96 : decode c_H_digest 96 = .ok (.ldc2_w 259, 3) := by decide +kernel
theorem d_H_digest_99 : decode c_H_digest 99 = .ok (.lmul, 1) := by decide +kernel
theorem d_H_digest_100 : decode c_H_digest 100 = .ok (.aload_n 0, 1) := by decide +kernel
theorem d_H_digest_101 : decode c_H_digest 101 = .ok (.getfield 37, 3) := by decide +kernel
theorem d_H_digest_104 : decode c_H_digest 104 = .ok (.getfield 121, 3) := by decide +kernel
theorem d_H_digest_107 : decode c_H_digest 107 = .ok (.iload_n 3, 1) := by decide +kernel
theorem d_H_digest_108 : decode c_H_digest 108 = .ok (.invokevirtual 261, 3) := by decide +kernel
theorem d_H_digest_111 : decode c_H_digest 111 = .ok (.checkcast 133, 3) := by decide +kernel
theorem d_H_digest_114 : decode c_H_digest 114 = .ok (.iload 4, 2) := by decide +kernel
theorem d_H_digest_116 : decode c_H_digest 116 = .ok (.invokevirtual 196, 3) := by decide +kernel
theorem d_H_digest_119 : decode c_H_digest 119 = .ok (.i2l, 1) := by decide +kernel
theorem d_H_digest_120 : decode c_H_digest 120 = .ok (.ladd, 1) := by decide +kernel
theorem d_H_digest_121 : decode c_H_digest 121 = .ok (.lstore_n 1, 1) := by decide +kernel
theorem d_H_digest_122 : decode c_H_digest 122 = .ok (.iinc 4 1, 3) := by decide +kernel
theorem d_H_digest_125 : decode c_H_digest 125 = .ok (.goto (-37), 3) := by decide +kernel
theorem d_H_digest_128 : decode c_H_digest 128 = .ok (.iinc 3 1, 3) := by decide +kernel
theorem d_H_digest_131 : decode c_H_digest 131 = .ok (.goto (-60), 3) := by decide +kernel
theorem d_H_digest_134 : decode c_H_digest 134 = .ok (.iconst 0, 1) := by decide +kernel
theorem d_H_digest_135 : decode c_H_digest 135 = .ok (.istore_n 3, 1) := by decide +kernel
theorem d_H_digest_136 : decode c_H_digest 136 = .ok (.iload_n 3, 1) := by decide +kernel
theorem d_H_digest_137 : decode c_H_digest 137 = .ok (.aload_n 0, 1) := by decide +kernel
theorem d_H_digest_138 : decode c_H_digest 138 = .ok (.getfield 37, 3) := by decide +kernel
theorem d_H_digest_141 : decode c_H_digest 141 = .ok (.getfield 203, 3) := by decide +kernel
theorem d_H_digest_144 : decode c_H_digest 144 = .ok (.invokevirtual 124, 3) := by decide +kernel
theorem d_H_digest_147 : decode c_H_digest 147 = .ok (.if_icmp .ge 52, 3) := by decide +kernel
theorem d_H_digest_150 : decode c_H_digest 150 = .ok (.iconst 0, 1) := by decide +kernel
theorem d_H_digest_151 : decode c_H_digest 151 = .ok (.istore 4, 2) := by decide +kernel
theorem d_H_digest_153 : decode c_H_digest 153 = .ok (.iload 4, 2) := by decide +kernel
theorem d_H_digest_155 : decode c_H_digest 155 = .ok (.bipush 6, 2) := by decide +kernel
theorem d_H_digest_157 : decode c_H_digest 157 = .ok (.if_icmp .ge 36, 3) := by decide +kernel
theorem d_H_digest_160 : decode c_H_digest 160 = .ok (.lload_n 1, 1) := by decide +kernel
theorem d_H_digest_161 : decode c_H_digest 161 = .ok (.ldc2_w 259, 3) := by decide +kernel
theorem d_H_digest_164 : decode c_H_digest 164 = .ok (.lmul, 1) := by decide +kernel
theorem d_H_digest_165 : decode c_H_digest 165 = .ok (.aload_n 0, 1) := by decide +kernel
theorem d_H_digest_166 : decode c_H_digest 166 = .ok (.getfield 37, 3) := by decide +kernel
theorem d_H_digest_169 : decode c_H_digest 169 = .ok (.getfield 203, 3) := by decide +kernel
theorem d_H_digest_172 : decode c_H_digest 172 = .ok (.iload_n 3, 1) := by decide +kernel
theorem d_H_digest_173 : decode c_H_digest 173 = .ok (.invokevirtual 261, 3) := by decide +kernel
theorem d_H_digest_176 : decode c_H_digest 176 = .ok (.checkcast 208, 3) := by decide +kernel
theorem d_H_digest_179 : decode c_H_digest 179 = .ok (.iload 4, 2) := by decide +kernel
theorem d_H_digest_181 : decode c_H_digest 181 = .ok (.invokevirtual 228, 3) := by decide +kernel
theorem d_H_digest_184 : decode c_H_digest 184 = .ok (.i2l, 1) := by decide +kernel
theorem d_H_digest_185 : decode c_H_digest 185 = .ok (.ladd, 1) := by decide +kernel
theorem d_H_digest_186 : decode c_H_digest 186 = .ok (.lstore_n 1, 1) := by decide +kernel
theorem d_H_digest_187 : decode c_H_digest 187 = .ok (.iinc 4 1, 3) := by decide +kernel
theorem d_H_digest_190 : decode c_H_digest 190 = .ok (.goto (-37), 3) := by decide +kernel
theorem d_H_digest_193 : decode c_H_digest 193 = .ok (.iinc 3 1, 3) := by decide +kernel
theorem d_H_digest_196 : decode c_H_digest 196 = .ok (.goto (-60), 3) := by decide +kernel
theorem d_H_digest_199 : decode c_H_digest 199 = .ok (.lload_n 1, 1) := by decide +kernel
theorem d_H_digest_200 : decode c_H_digest 200 = .ok (.lreturn, 1) := by decide +kernel
theorem d_H_neededDance_0 : decode c_H_neededDance 0 = .ok (.iload_n 1, 1) := by decide +kernel
theorem d_H_neededDance_1 : decode c_H_neededDance 1 = .ok (.ifCond .lt 14, 3) := by decide +kernel
theorem d_H_neededDance_4 : decode c_H_neededDance 4 = .ok (.iload_n 1, 1) := by decide +kernel
theorem d_H_neededDance_5 : decode c_H_neededDance 5 = .ok (.aload_n 0, 1) := by decide +kernel
theorem d_H_neededDance_6 : decode c_H_neededDance 6 = .ok (.getfield 19, 3) := by decide +kernel
theorem d_H_neededDance_9 : decode c_H_neededDance 9 = .ok (.invokevirtual 124, 3) := by decide +kernel
theorem d_H_neededDance_12 : decode c_H_neededDance 12 = .ok (.if_icmp .lt 14, 3) := by decide +kernel
theorem d_H_neededDance_15 : decode c_H_neededDance 15 = .ok (.new 99, 3) := by decide +kernel
theorem d_H_neededDance_18 : decode c_H_neededDance 18 = .ok (.dup, 1) := by decide +kernel
theorem d_H_neededDance_19 : decode c_H_neededDance 19 = .ok (.ldc_w 269, 3) := by decide +kernel
theorem d_H_neededDance_22 : decode c_H_neededDance 22 = .ok (.invokespecial 103, 3) := by decide +kernel
theorem d_H_neededDance_25 : decode c_H_neededDance 25 = .ok (.athrow, 1) := by decide +kernel
theorem d_H_neededDance_26 : decode c_H_neededDance 26 = .ok (.aload_n 0, 1) := by decide +kernel
theorem d_H_neededDance_27 : decode c_H_neededDance 27 = .ok (.getfield 19, 3) := by decide +kernel
theorem d_H_neededDance_30 : decode c_H_neededDance 30 = .ok (.iload_n 1, 1) := by decide +kernel
theorem d_H_neededDance_31 : decode c_H_neededDance 31 = .ok (.invokevirtual 261, 3) := by decide +kernel
theorem d_H_neededDance_34 : decode c_H_neededDance 34 = .ok (.checkcast 23, 3) := by decide +kernel
theorem d_H_neededDance_37 : decode c_H_neededDance 37 = .ok (.areturn, 1) := by decide +kernel
theorem d_H_neededDancer_0 : decode c_H_neededDancer 0 = .ok (.aload_n 0, 1) := by decide +kernel
theorem d_H_neededDancer_1 : decode c_H_neededDancer 1 = .ok (.getfield 37, 3) := by decide +kernel
theorem d_H_neededDancer_4 : decode c_H_neededDancer 4 = .ok (.iload_n 1, 1) := by decide +kernel
theorem d_H_neededDancer_5 : decode c_H_neededDancer 5 = .ok (.invokevirtual 242, 3) := by decide +kernel
theorem d_H_neededDancer_8 : decode c_H_neededDancer 8 = .ok (.astore_n 2, 1) := by decide +kernel
theorem d_H_neededDancer_9 : decode c_H_neededDancer 9 = .ok (.aload_n 2, 1) := by decide +kernel
theorem d_H_neededDancer_10 : decode c_H_neededDancer 10 = .ok (.ifnonnull 14, 3) := by decide +kernel
theorem d_H_neededDancer_13 : decode c_H_neededDancer 13 = .ok (.new 99, 3) := by decide +kernel
theorem d_H_neededDancer_16 : decode c_H_neededDancer 16 = .ok (.dup, 1) := by decide +kernel
theorem d_H_neededDancer_17 : decode c_H_neededDancer 17 = .ok (.ldc_w 271, 3) := by decide +kernel
theorem d_H_neededDancer_20 : decode c_H_neededDancer 20 = .ok (.invokespecial 103, 3) := by decide +kernel
theorem d_H_neededDancer_23 : decode c_H_neededDancer 23 = .ok (.athrow, 1) := by decide +kernel
theorem d_H_neededDancer_24 : decode c_H_neededDancer 24 = .ok (.aload_n 2, 1) := by decide +kernel
theorem d_H_neededDancer_25 : decode c_H_neededDancer 25 = .ok (.areturn, 1) := by decide +kernel
theorem d_H_neededWinder_0 : decode c_H_neededWinder 0 = .ok (.iload_n 1, 1) := by decide +kernel
theorem d_H_neededWinder_1 : decode c_H_neededWinder 1 = .ok (.ifCond .lt 17, 3) := by decide +kernel
theorem d_H_neededWinder_4 : decode c_H_neededWinder 4 = .ok (.iload_n 1, 1) := by decide +kernel
theorem d_H_neededWinder_5 : decode c_H_neededWinder 5 = .ok (.aload_n 0, 1) := by decide +kernel
theorem d_H_neededWinder_6 : decode c_H_neededWinder 6 = .ok (.getfield 37, 3) := by decide +kernel
theorem d_H_neededWinder_9 : decode c_H_neededWinder 9 = .ok (.getfield 203, 3) := by decide +kernel
theorem d_H_neededWinder_12 : decode c_H_neededWinder 12 = .ok (.invokevirtual 124, 3) := by decide +kernel
theorem d_H_neededWinder_15 : decode c_H_neededWinder 15 = .ok (.if_icmp .lt 14, 3) := by decide +kernel
theorem d_H_neededWinder_18 : decode c_H_neededWinder 18 = .ok (.new 99, 3) := by decide +kernel
theorem d_H_neededWinder_21 : decode c_H_neededWinder 21 = .ok (.dup, 1) := by decide +kernel
theorem d_H_neededWinder_22 : decode c_H_neededWinder 22 = .ok (.ldc_w 273, 3) := by decide +kernel
theorem d_H_neededWinder_25 : decode c_H_neededWinder 25 = .ok (.invokespecial 103, 3) := by decide +kernel
theorem d_H_neededWinder_28 : decode c_H_neededWinder 28 = .ok (.athrow, 1) := by decide +kernel
theorem d_H_neededWinder_29 : decode c_H_neededWinder 29 = .ok (.aload_n 0, 1) := by decide +kernel
theorem d_H_neededWinder_30 : decode c_H_neededWinder 30 = .ok (.getfield 37, 3) := by decide +kernel
theorem d_H_neededWinder_33 : decode c_H_neededWinder 33 = .ok (.getfield 203, 3) := by decide +kernel
theorem d_H_neededWinder_36 : decode c_H_neededWinder 36 = .ok (.iload_n 1, 1) := by decide +kernel
theorem d_H_neededWinder_37 : decode c_H_neededWinder 37 = .ok (.invokevirtual 261, 3) := by decide +kernel
theorem d_H_neededWinder_40 : decode c_H_neededWinder 40 = .ok (.checkcast 208, 3) := by decide +kernel
theorem d_H_neededWinder_43 : decode c_H_neededWinder 43 = .ok (.areturn, 1) := by decide +kernel
theorem d_H_needKind_0 : decode c_H_needKind 0 = .ok (.iload_n 0, 1) := by decide +kernel
theorem d_H_needKind_1 : decode c_H_needKind 1 = .ok (.ifCond .lt 8, 3) := by decide +kernel
theorem d_H_needKind_4 : decode c_H_needKind 4 = .ok (.iload_n 0, 1) := by decide +kernel
theorem d_H_needKind_5 : decode c_H_needKind 5 = .ok (.iload_n 1, 1) := by decide +kernel
theorem d_H_needKind_6 : decode c_H_needKind 6 = .ok (.if_icmp .lt 14, 3) := by decide +kernel
theorem d_H_needKind_9 : decode c_H_needKind 9 = .ok (.new 99, 3) := by decide +kernel
theorem d_H_needKind_12 : decode c_H_needKind 12 = .ok (.dup, 1) := by decide +kernel
theorem d_H_needKind_13 : decode c_H_needKind 13 = .ok (.ldc_w 275, 3) := by decide +kernel
theorem d_H_needKind_16 : decode c_H_needKind 16 = .ok (.invokespecial 103, 3) := by decide +kernel
theorem d_H_needKind_19 : decode c_H_needKind 19 = .ok (.athrow, 1) := by decide +kernel
theorem d_H_needKind_20 : decode c_H_needKind 20 = .ok (.return_, 1) := by decide +kernel
theorem d_H_needBeats_0 : decode c_H_needBeats 0 = .ok (.iload_n 0, 1) := by decide +kernel
theorem d_H_needBeats_1 : decode c_H_needBeats 1 = .ok (.iconst 1, 1) := by decide +kernel
theorem d_H_needBeats_2 : decode c_H_needBeats 2 = .ok (.if_icmp .lt 10, 3) := by decide +kernel
theorem d_H_needBeats_5 : decode c_H_needBeats 5 = .ok (.iload_n 0, 1) := by decide +kernel
theorem d_H_needBeats_6 : decode c_H_needBeats 6 = .ok (.sipush 200, 3) := by decide +kernel
theorem d_H_needBeats_9 : decode c_H_needBeats 9 = .ok (.if_icmp .le 14, 3) := by decide +kernel
theorem d_H_needBeats_12 : decode c_H_needBeats 12 = .ok (.new 81, 3) := by decide +kernel
theorem d_H_needBeats_15 : decode c_H_needBeats 15 = .ok (.dup, 1) := by decide +kernel
theorem d_H_needBeats_16 : decode c_H_needBeats 16 = .ok (.ldc_w 277, 3) := by decide +kernel
theorem d_H_needBeats_19 : decode c_H_needBeats 19 = .ok (.invokespecial 85, 3) := by decide +kernel
theorem d_H_needBeats_22 : decode c_H_needBeats 22 = .ok (.athrow, 1) := by decide +kernel
theorem d_H_needBeats_23 : decode c_H_needBeats 23 = .ok (.return_, 1) := by decide +kernel
theorem d_H_isOnFloor_0 : decode c_H_isOnFloor 0 = .ok (.iload_n 0, 1) := by decide +kernel
theorem d_H_isOnFloor_1 : decode c_H_isOnFloor 1 = .ok (.ifCond .lt 23, 3) := by decide +kernel
theorem d_H_isOnFloor_4 : decode c_H_isOnFloor 4 = .ok (.iload_n 0, 1) := by decide +kernel
theorem d_H_isOnFloor_5 : decode c_H_isOnFloor 5 = .ok (.bipush 16, 2) := by decide +kernel
theorem d_H_isOnFloor_7 : decode c_H_isOnFloor 7 = .ok (.if_icmp .ge 17, 3) := by decide +kernel
theorem d_H_isOnFloor_10 : decode c_H_isOnFloor 10 = .ok (.iload_n 1, 1) := by decide +kernel
theorem d_H_isOnFloor_11 : decode c_H_isOnFloor 11 = .ok (.ifCond .lt 13, 3) := by decide +kernel
theorem d_H_isOnFloor_14 : decode c_H_isOnFloor 14 = .ok (.iload_n 1, 1) := by decide +kernel
theorem d_H_isOnFloor_15 : decode c_H_isOnFloor 15 = .ok (.bipush 16, 2) := by decide +kernel
theorem d_H_isOnFloor_17 : decode c_H_isOnFloor 17 = .ok (.if_icmp .ge 7, 3) := by decide +kernel
theorem d_H_isOnFloor_20 : decode c_H_isOnFloor 20 = .ok (.iconst 1, 1) := by decide +kernel
theorem d_H_isOnFloor_21 : decode c_H_isOnFloor 21 = .ok (.goto 4, 3) := by decide +kernel
theorem d_H_isOnFloor_24 : decode c_H_isOnFloor 24 = .ok (.iconst 0, 1) := by decide +kernel
theorem d_H_isOnFloor_25 : decode c_H_isOnFloor 25 = .ok (.ireturn, 1) := by decide +kernel
theorem d_H_distance_0 : decode c_H_distance 0 = .ok (.iload_n 0, 1) := by decide +kernel
theorem d_H_distance_1 : decode c_H_distance 1 = .ok (.iload_n 2, 1) := by decide +kernel
theorem d_H_distance_2 : decode c_H_distance 2 = .ok (.isub, 1) := by decide +kernel
theorem d_H_distance_3 : decode c_H_distance 3 = .ok (.invokestatic 279, 3) := by decide +kernel
theorem d_H_distance_6 : decode c_H_distance 6 = .ok (.iload_n 1, 1) := by decide +kernel
theorem d_H_distance_7 : decode c_H_distance 7 = .ok (.iload_n 3, 1) := by decide +kernel
theorem d_H_distance_8 : decode c_H_distance 8 = .ok (.isub, 1) := by decide +kernel
theorem d_H_distance_9 : decode c_H_distance 9 = .ok (.invokestatic 279, 3) := by decide +kernel
theorem d_H_distance_12 : decode c_H_distance 12 = .ok (.iadd, 1) := by decide +kernel
theorem d_H_distance_13 : decode c_H_distance 13 = .ok (.ireturn, 1) := by decide +kernel
theorem d_H_turned_0 : decode c_H_turned 0 = .ok (.iload_n 0, 1) := by decide +kernel
theorem d_H_turned_1 : decode c_H_turned 1 = .ok (.iload_n 1, 1) := by decide +kernel
theorem d_H_turned_2 : decode c_H_turned 2 = .ok (.iadd, 1) := by decide +kernel
theorem d_H_turned_3 : decode c_H_turned 3 = .ok (.iconst 4, 1) := by decide +kernel
theorem d_H_turned_4 : decode c_H_turned 4 = .ok (.invokestatic 284, 3) := by decide +kernel
theorem d_H_turned_7 : decode c_H_turned 7 = .ok (.ireturn, 1) := by decide +kernel
theorem d_H_columnStep_0 : decode c_H_columnStep 0 = .ok (.iload_n 0, 1) := by decide +kernel
theorem d_H_columnStep_1 : decode c_H_columnStep 1 = .ok (.iconst 1, 1) := by decide +kernel
theorem d_H_columnStep_2 : decode c_H_columnStep 2 = .ok (.if_icmp .ne 7, 3) := by decide +kernel
theorem d_H_columnStep_5 : decode c_H_columnStep 5 = .ok (.iconst 1, 1) := by decide +kernel
theorem d_H_columnStep_6 : decode c_H_columnStep 6 = .ok (.goto 13, 3) := by decide +kernel
theorem d_H_columnStep_9 : decode c_H_columnStep 9 = .ok (.iload_n 0, 1) := by decide +kernel
theorem d_H_columnStep_10 : decode c_H_columnStep 10 = .ok (.iconst 3, 1) := by decide +kernel
theorem d_H_columnStep_11 : decode c_H_columnStep 11 = .ok (.if_icmp .ne 7, 3) := by decide +kernel
theorem d_H_columnStep_14 : decode c_H_columnStep 14 = .ok (.iconst (-1), 1) := by decide +kernel
theorem d_H_columnStep_15 : decode c_H_columnStep 15 = .ok (.goto 4, 3) := by decide +kernel
theorem d_H_columnStep_18 : decode c_H_columnStep 18 = .ok (.iconst 0, 1) := by decide +kernel
theorem d_H_columnStep_19 : decode c_H_columnStep 19 = .ok (.ireturn, 1) := by decide +kernel
theorem d_H_rowStep_0 : decode c_H_rowStep 0 = .ok (.iload_n 0, 1) := by decide +kernel
theorem d_H_rowStep_1 : decode c_H_rowStep 1 = .ok (.ifCond .ne 7, 3) := by decide +kernel
theorem d_H_rowStep_4 : decode c_H_rowStep 4 = .ok (.iconst (-1), 1) := by decide +kernel
theorem d_H_rowStep_5 : decode c_H_rowStep 5 = .ok (.goto 13, 3) := by decide +kernel
theorem d_H_rowStep_8 : decode c_H_rowStep 8 = .ok (.iload_n 0, 1) := by decide +kernel
theorem d_H_rowStep_9 : decode c_H_rowStep 9 = .ok (.iconst 2, 1) := by decide +kernel
theorem d_H_rowStep_10 : decode c_H_rowStep 10 = .ok (.if_icmp .ne 7, 3) := by decide +kernel
theorem d_H_rowStep_13 : decode c_H_rowStep 13 = .ok (.iconst 1, 1) := by decide +kernel
theorem d_H_rowStep_14 : decode c_H_rowStep 14 = .ok (.goto 4, 3) := by decide +kernel
theorem d_H_rowStep_17 : decode c_H_rowStep 17 = .ok (.iconst 0, 1) := by decide +kernel
theorem d_H_rowStep_18 : decode c_H_rowStep 18 = .ok (.ireturn, 1) := by decide +kernel
theorem d_H_isWalk_0 : decode c_H_isWalk 0 = .ok (.iload_n 0, 1) := by decide +kernel
theorem d_H_isWalk_1 : decode c_H_isWalk 1 = .ok (.bipush 102, 2) := by decide +kernel
theorem d_H_isWalk_3 : decode c_H_isWalk 3 = .ok (.if_icmp .eq 21, 3) := by decide +kernel
theorem d_H_isWalk_6 : decode c_H_isWalk 6 = .ok (.iload_n 0, 1) := by decide +kernel
theorem d_H_isWalk_7 : decode c_H_isWalk 7 = .ok (.bipush 114, 2) := by decide +kernel
theorem d_H_isWalk_9 : decode c_H_isWalk 9 = .ok (.if_icmp .eq 15, 3) := by decide +kernel
theorem d_H_isWalk_12 : decode c_H_isWalk 12 = .ok (.iload_n 0, 1) := by decide +kernel
theorem d_H_isWalk_13 : decode c_H_isWalk 13 = .ok (.bipush 98, 2) := by decide +kernel
theorem d_H_isWalk_15 : decode c_H_isWalk 15 = .ok (.if_icmp .eq 9, 3) := by decide +kernel
theorem d_H_isWalk_18 : decode c_H_isWalk 18 = .ok (.iload_n 0, 1) := by decide +kernel
theorem d_H_isWalk_19 : decode c_H_isWalk 19 = .ok (.bipush 108, 2) := by decide +kernel
theorem d_H_isWalk_21 : decode c_H_isWalk 21 = .ok (.if_icmp .ne 7, 3) := by decide +kernel
theorem d_H_isWalk_24 : decode c_H_isWalk 24 = .ok (.iconst 1, 1) := by decide +kernel
theorem d_H_isWalk_25 : decode c_H_isWalk 25 = .ok (.goto 4, 3) := by decide +kernel
theorem d_H_isWalk_28 : decode c_H_isWalk 28 = .ok (.iconst 0, 1) := by decide +kernel
theorem d_H_isWalk_29 : decode c_H_isWalk 29 = .ok (.ireturn, 1) := by decide +kernel
theorem d_H_isFigure_0 : decode c_H_isFigure 0 = .ok (.iload_n 0, 1) := by decide +kernel
theorem d_H_isFigure_1 : decode c_H_isFigure 1 = .ok (.invokestatic 288, 3) := by decide +kernel
theorem d_H_isFigure_4 : decode c_H_isFigure 4 = .ok (.ifCond .ne 22, 3) := by decide +kernel
theorem d_H_isFigure_7 : decode c_H_isFigure 7 = .ok (.iload_n 0, 1) := by decide +kernel
theorem d_H_isFigure_8 : decode c_H_isFigure 8 = .ok (.invokestatic 292, 3) := by decide +kernel
theorem d_H_isFigure_11 : decode c_H_isFigure 11 = .ok (.ifCond .ne 15, 3) := by decide +kernel
theorem d_H_isFigure_14 : decode c_H_isFigure 14 = .ok (.iload_n 0, 1) := by decide +kernel
theorem d_H_isFigure_15 : decode c_H_isFigure 15 = .ok (.bipush 115, 2) := by decide +kernel
theorem d_H_isFigure_17 : decode c_H_isFigure 17 = .ok (.if_icmp .eq 9, 3) := by decide +kernel
theorem d_H_isFigure_20 : decode c_H_isFigure 20 = .ok (.iload_n 0, 1) := by decide +kernel
theorem d_H_isFigure_21 : decode c_H_isFigure 21 = .ok (.bipush 119, 2) := by decide +kernel
theorem d_H_isFigure_23 : decode c_H_isFigure 23 = .ok (.if_icmp .ne 7, 3) := by decide +kernel
theorem d_H_isFigure_26 : decode c_H_isFigure 26 = .ok (.iconst 1, 1) := by decide +kernel
theorem d_H_isFigure_27 : decode c_H_isFigure 27 = .ok (.goto 4, 3) := by decide +kernel
theorem d_H_isFigure_30 : decode c_H_isFigure 30 = .ok (.iconst 0, 1) := by decide +kernel
theorem d_H_isFigure_31 : decode c_H_isFigure 31 = .ok (.ireturn, 1) := by decide +kernel
theorem d_H_quartersToWayOf_0 : decode c_H_quartersToWayOf 0 = .ok (.iload_n 0, 1) := by decide +kernel
theorem d_H_quartersToWayOf_1 : decode c_H_quartersToWayOf 1 = .ok (.lookupswitch 41 #[(98, 37), (108, 39), (114, 35)], 35) := by decide +kernel
theorem d_H_quartersToWayOf_36 : decode c_H_quartersToWayOf 36 = .ok (.iconst 1, 1) := by decide +kernel
theorem d_H_quartersToWayOf_37 : decode c_H_quartersToWayOf 37 = .ok (.ireturn, 1) := by decide +kernel
theorem d_H_quartersToWayOf_38 : decode c_H_quartersToWayOf 38 = .ok (.iconst 2, 1) := by decide +kernel
theorem d_H_quartersToWayOf_39 : decode c_H_quartersToWayOf 39 = .ok (.ireturn, 1) := by decide +kernel
theorem d_H_quartersToWayOf_40 : decode c_H_quartersToWayOf 40 = .ok (.iconst 3, 1) := by decide +kernel
theorem d_H_quartersToWayOf_41 : decode c_H_quartersToWayOf 41 = .ok (.ireturn, 1) := by decide +kernel
theorem d_H_quartersToWayOf_42 : decode c_H_quartersToWayOf 42 = .ok (.iconst 0, 1) := by decide +kernel
theorem d_H_quartersToWayOf_43 : decode c_H_quartersToWayOf 43 = .ok (.ireturn, 1) := by decide +kernel
theorem d_H_quartersTurnedBy_0 : decode c_H_quartersTurnedBy 0 = .ok (.iload_n 0, 1) := by decide +kernel
theorem d_H_quartersTurnedBy_1 : decode c_H_quartersTurnedBy 1 = .ok (.bipush 116, 2) := by decide +kernel
theorem d_H_quartersTurnedBy_3 : decode c_H_quartersTurnedBy 3 = .ok (.if_icmp .ne 7, 3) := by decide +kernel
theorem d_H_quartersTurnedBy_6 : decode c_H_quartersTurnedBy 6 = .ok (.iconst 1, 1) := by decide +kernel
theorem d_H_quartersTurnedBy_7 : decode c_H_quartersTurnedBy 7 = .ok (.goto 14, 3) := by decide +kernel
theorem d_H_quartersTurnedBy_10 : decode c_H_quartersTurnedBy 10 = .ok (.iload_n 0, 1) := by decide +kernel
theorem d_H_quartersTurnedBy_11 : decode c_H_quartersTurnedBy 11 = .ok (.bipush 117, 2) := by decide +kernel
theorem d_H_quartersTurnedBy_13 : decode c_H_quartersTurnedBy 13 = .ok (.if_icmp .ne 7, 3) := by decide +kernel
theorem d_H_quartersTurnedBy_16 : decode c_H_quartersTurnedBy 16 = .ok (.iconst (-1), 1) := by decide +kernel
theorem d_H_quartersTurnedBy_17 : decode c_H_quartersTurnedBy 17 = .ok (.goto 4, 3) := by decide +kernel
theorem d_H_quartersTurnedBy_20 : decode c_H_quartersTurnedBy 20 = .ok (.iconst 0, 1) := by decide +kernel
theorem d_H_quartersTurnedBy_21 : decode c_H_quartersTurnedBy 21 = .ok (.ireturn, 1) := by decide +kernel
